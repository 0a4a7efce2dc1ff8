/-! ===== a whole description, as the component reads it ===== -/
theorem ar_n {f : Nat → Int32} {n : Nat} : ∀ (m a : Nat) (fl : Int32), a ≤ n → (ar f n m a fl).1 ≤ n := by
  intro m
  induction m with
  | zero => intro a fl h; exact h
  | succ m ih =>
    intro a fl h
    rw [ar]
    by_cases c : f_M_in (tk f n a) 30 33 = 0
    · rw [if_pos c]
      exact h
    · rw [if_neg c]
      have hl := tk_lt (by decide) c
      by_cases c2 : f_M_has fl (tk f n a - 30) = 0
      · rw [if_pos c2]
        exact ih (a + 1) _ hl
      · rw [if_neg c2]
        exact h
theorem wd_n {f : Nat → Int32} {n : Nat} : ∀ (m a : Nat), a ≤ n → a + wd f n m a ≤ n := by
  intro m
  induction m with
  | zero => intro a h; exact h
  | succ m ih =>
    intro a h
    rw [wd]
    by_cases c : f_M_in (tk f n a) 0 29 = 0
    · rw [if_pos c]
      exact h
    · rw [if_neg c]
      have hl := tk_lt (by decide) c
      have q := ih (a + 1) hl
      omega
theorem wd_exit {f : Nat → Int32} {n : Nat} : ∀ (m a : Nat), wd f n m a < m → f_M_in (tk f n (a + wd f n m a)) 0 29 = 0 := by
  intro m
  induction m with
  | zero => intro a h; exact absurd h (Nat.not_lt_zero _)
  | succ m ih =>
    intro a h
    rw [wd] at h ⊢
    by_cases c : f_M_in (tk f n a) 0 29 = 0
    · rw [if_pos c]
      exact c
    · rw [if_neg c] at h ⊢
      have q := ih (a + 1) (by omega)
      rw [show a + (wd f n m (a + 1) + 1) = a + 1 + wd f n m (a + 1) by omega]
      exact q
theorem dA_le {f : Nat → Int32} {n a : Nat} (h : a ≤ n) : a ≤ dA f n a ∧ dA f n a ≤ n := ⟨(ar_le _ _ _).1, ar_n _ _ _ h⟩
theorem dW_le {f : Nat → Int32} {n a : Nat} (h : a ≤ n) : dA f n a + dW f n a ≤ n := wd_n _ _ (dA_le h).2
theorem fail_at {f : Nat → Int32} {n i : Nat} {P : Nat → Nat → Int32} (hn : n ≤ 30) (hi : i ≤ n) (h1 : i < n → (f_Phrase_take P (f i)).1 = 0) (h2 : i = n → f_Phrase_mayEnd P = 0) : (RL f n P i).1 = nI i := by
  rcases Nat.lt_or_ge i n with q | q
  · rw [RL_s hn q, if_pos (h1 q)]
  · have e : i = n := by omega
    subst e
    rw [RL_e hn, if_pos (h2 rfl)]
theorem end_3 {P : Nat → Nat → Int32} (h : P 9 0 = 3 ∨ P 9 0 = 0 ∨ P 9 0 = 2) : f_Phrase_mayEnd P = 0 := by
  unfold f_Phrase_mayEnd
  rcases h with h | h | h
  · rw [h, if_neg (by decide), if_neg (by decide)]
  · rw [h, if_neg (by decide), if_neg (by decide)]
  · rw [h, if_neg (by decide), if_neg (by decide)]
theorem end_4 {P : Nat → Nat → Int32} (h : P 9 0 = 4 ∨ P 9 0 = 1) : f_Phrase_mayEnd P = 1 := by
  unfold f_Phrase_mayEnd
  rcases h with h | h
  · rw [h, if_neg (by decide), if_pos rfl]
  · rw [h, if_pos rfl]
theorem take_no {P : Nat → Nat → Int32} {x : Int32} (h : f_Phrase_mayEnd P = 0) (hx : x = 36 ∨ x = 35) : (f_Phrase_take P x).1 = 0 := by
  unfold f_Phrase_take
  rcases hx with hx | hx
  · rw [if_pos hx, if_pos h]
  · rw [if_neg (by rw [hx]; decide), if_pos hx, if_pos h]
theorem rl_desc {f : Nat → Int32} {n d a : Nat} (hn : n ≤ 30) (ha : a ≤ n) {P : Nat → Nat → Int32} (hd : inD P d) (h9 : P 9 0 = 3) (h10 : P 10 0 = 0) (h5 : P 5 d = 0) (h6 : P 6 d = 0) :
    (dW f n a = 0 → (RL f n P a).1 = nI (dA f n a)) ∧
    (0 < dW f n a → ∃ P', RL f n P a = RL f n P' (dA f n a + dW f n a) ∧ P' 9 0 = 4 ∧ P' 10 0 = nI (dW f n a) ∧ P' 5 d = dF f n a ∧ P' 6 d = ld f (dA f n a) (dW f n a - 1) ∧ P' 7 d = f (dA f n a + dW f n a - 1) ∧ (∀ i, ¬ i = d → P' 5 i = P 5 i ∧ P' 6 i = P 6 i ∧ P' 7 i = P 7 i) ∧ (∀ j, j < 5 ∨ j = 8 → P' j = P j)) := by
  obtain ⟨P1, k1, k2, k3, k4⟩ := rl_ar (f := f) hn (n - a) a P rfl hd h9 h10
  rw [h5] at k1 k2
  have k1' : RL f n P a = RL f n P1 (dA f n a) := k1
  have k2' : P1 5 d = dF f n a := k2
  have q9 : P1 9 0 = 3 := by rw [k4 9 (by omega)]; exact h9
  have q10 : P1 10 0 = nI 0 := by rw [k4 10 (by omega), h10, nI_0]
  have qd : inD P1 d := ⟨by rw [k4 8 (by omega)]; exact hd.1, hd.2⟩
  have al := dA_le (f := f) ha
  obtain ⟨P2, w1, w2, w3, w4, w5, w6⟩ := rl_wd (f := f) (a := dA f n a) hn 6 0 P1 rfl qd (Or.inl q9) q10 (fun _ => by rw [k4 6 (by omega)]; exact h6) (fun q => absurd q (Nat.lt_irrefl _))
  rw [Nat.add_zero, Nat.zero_add] at w2 w4
  rw [Nat.add_zero] at w1
  constructor
  · intro hw
    rw [k1']
    refine fail_at hn al.2 (fun hl => ?_) (fun _ => end_3 (Or.inl q9))
    have nw : f_M_in (f (dA f n a)) 0 29 = 0 := by
      have := wd_pos.mp (show wd f n (5 + 1) (dA f n a) = 0 from hw)
      rw [tk_in hl] at this
      exact this
    rcases Classical.em (f (dA f n a) = 36 ∨ f (dA f n a) = 35) with q | q
    · exact take_no (end_3 (Or.inl q9)) q
    · rw [take_D (Or.inl q9) (fun w => q (Or.inl w)) (fun w => q (Or.inr w))]
      unfold f_Phrase_takeInDescription
      rw [e_isWord, if_pos nw, e_isArticle]
      by_cases c : f_M_in (f (dA f n a)) 30 33 = 0
      · rw [if_pos c]
      · rw [if_neg c]
        obtain ⟨o1, o2⟩ := inD_o qd
        obtain ⟨j, j1, j2, j3⟩ := art_j c
        have ex := ar_exit (f := f) (n - a) a 0 rfl
        have ex' : f_M_in (tk f n (dA f n a)) 30 33 = 0 ∨ ¬ f_M_has (dF f n a) (tk f n (dA f n a) - 30) = 0 := ex
        rw [tk_in hl] at ex'
        have ht : ¬ f_Phrase_tells P1 (nI d) (f (dA f n a)) = 0 := by
          rcases ex' with e | e
          · exact absurd e c
          · rw [tells_b qd.2 o2 (j := j) (by omega) j2, k2']
            rw [j2] at e
            exact fun z => e ((m_h0 (by omega)).mpr z)
        rw [o1, own_1 qd.2 o2, if_neg one0, q10, if_neg (by decide), if_neg ht]
  · intro hw
    obtain ⟨g9, g6, g7⟩ := w4 hw
    refine ⟨P2, k1'.trans w1, g9, w2, ?_, g6, g7, fun i hi => ?_, fun j hj => ?_⟩
    · rw [w6 5 (by omega)]
      exact k2'
    · have v := w5 i hi
      rw [w6 5 (by omega), v.1, v.2, k4 6 (by omega), k4 7 (by omega)]
      exact ⟨k3 i hi, rfl, rfl⟩
    · rw [w6 j (by omega), k4 j (by omega)]
/-- behind a description only AND, EXCEPT or the end go on -/
theorem rl_behind {f : Nat → Int32} {n d a : Nat} (hn : n ≤ 30) (ha : a ≤ n) {P : Nat → Nat → Int32} (hd : inD P d) (h9 : P 9 0 = 4) (hw : 0 < dW f n a) (h10 : P 10 0 = nI (dW f n a)) (hl : dA f n a + dW f n a < n) (h36 : ¬ f (dA f n a + dW f n a) = 36) (h35 : ¬ f (dA f n a + dW f n a) = 35) : (RL f n P (dA f n a + dW f n a)).1 = nI (dA f n a + dW f n a) := by
  have l6 : dW f n a ≤ 6 := wd_le 6 _
  refine fail_at hn (by omega) (fun _ => ?_) (fun q => absurd q (by omega))
  rw [take_D (Or.inr h9) h36 h35]
  obtain ⟨o1, o2⟩ := inD_o hd
  unfold f_Phrase_takeInDescription
  rw [e_isWord]
  by_cases c : f_M_in (f (dA f n a + dW f n a)) 0 29 = 0
  · rw [if_pos c, e_isArticle]
    by_cases c2 : f_M_in (f (dA f n a + dW f n a)) 30 33 = 0
    · rw [if_pos c2]
    · rw [if_neg c2, o1, own_1 hd.2 o2, if_neg one0, h10, if_pos (show (0 : Int32) < nI (dW f n a) from nI_lt (a := 0) hw (by omega))]
  · rw [if_neg c]
    have e6 : dW f n a = 6 := by
      rcases Nat.lt_or_ge (dW f n a) 6 with q | q
      · have := wd_exit 6 (dA f n a) q
        have this2 : f_M_in (tk f n (dA f n a + dW f n a)) 0 29 = 0 := this
        rw [tk_in hl] at this2
        exact absurd this2 c
      · omega
    unfold f_Phrase_addWord
    rw [o1, own_1 hd.2 o2, if_neg one0, h10, e6, if_neg (by decide)]
