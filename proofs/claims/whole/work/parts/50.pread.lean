/-! ===== how the component reads a description ===== -/
def RL (f : Nat → Int32) (n : Nat) (P : Nat → Nat → Int32) (i : Nat) : Int32 × (Nat → Nat → Int32) := f_Phrase_read_L17 f (nI n) (n - i + 1) P (nI i)
theorem RL_s {f : Nat → Int32} {n i : Nat} {P : Nat → Nat → Int32} (hn : n ≤ 30) (hi : i < n) : RL f n P i = if (f_Phrase_take P (f i)).1 = 0 then (nI i, (f_Phrase_take P (f i)).2) else RL f n (f_Phrase_take P (f i)).2 (i + 1) := by
  have c30 : ¬ (30 : Int32) ≤ nI i := nI_ge (a := i) (b := 30) (by omega) (by omega)
  unfold RL
  rw [show n - i + 1 = (n - (i + 1) + 1) + 1 by omega, f_Phrase_read_L17, if_neg (nI_ge hi (by omega)), if_neg c30, nI_clamp (by omega), nI_1]
theorem RL_e {f : Nat → Int32} {n : Nat} {P : Nat → Nat → Int32} (hn : n ≤ 30) : RL f n P n = if f_Phrase_mayEnd P = 0 then (nI n, P) else (-1, P) := by
  unfold RL
  rw [show n - n + 1 = 0 + 1 by omega, f_Phrase_read_L17, if_pos (nI_le (Nat.le_refl _) (by omega))]
/-- in a description: part k, description d are the last ones -/
def inD (P : Nat → Nat → Int32) (d : Nat) : Prop := P 8 0 = nI (d + 1) ∧ d < 30
theorem inD_o {P : Nat → Nat → Int32} {d : Nat} (h : inD P d) : P 8 0 - 1 = nI d ∧ (d : Int) < (P 8 0).toInt := by
  obtain ⟨h1, h2⟩ := h
  rw [h1, nI_pred, nI_toInt (by omega)]
  exact ⟨rfl, by omega⟩
theorem take_D {P : Nat → Nat → Int32} {x : Int32} (h : P 9 0 = 3 ∨ P 9 0 = 4) (h1 : ¬ x = 36) (h2 : ¬ x = 35) : f_Phrase_take P x = f_Phrase_takeInDescription P x := by
  unfold f_Phrase_take
  rw [if_neg h1, if_neg h2]
  rcases h with h | h
  · rw [h, if_neg (by decide), if_neg (by decide), if_neg (by decide)]
  · rw [h, if_neg (by decide), if_neg (by decide), if_neg (by decide)]
theorem ar_exit {f : Nat → Int32} {n : Nat} : ∀ (m a : Nat) (fl : Int32), m = n - a → f_M_in (tk f n (ar f n (m + 1) a fl).1) 30 33 = 0 ∨ ¬ f_M_has (ar f n (m + 1) a fl).2 (tk f n (ar f n (m + 1) a fl).1 - 30) = 0 := by
  intro m
  induction m with
  | zero =>
    intro a fl hm
    have c : f_M_in (tk f n a) 30 33 = 0 := by
      rw [tk_out (by omega)]
      decide
    rw [ar, if_pos c]
    exact Or.inl c
  | succ m ih =>
    intro a fl hm
    rw [ar]
    by_cases c : f_M_in (tk f n a) 30 33 = 0
    · rw [if_pos c]
      exact Or.inl c
    · rw [if_neg c]
      by_cases c2 : f_M_has fl (tk f n a - 30) = 0
      · rw [if_pos c2]
        exact ih (a + 1) _ (by omega)
      · rw [if_neg c2]
        exact Or.inr c2
theorem art_j {x : Int32} (h : ¬ f_M_in x 30 33 = 0) : ∃ j : Nat, j < 4 ∧ x - 30 = nI j ∧ x = nI (30 + j) := by
  have k := in_of h
  have e30 : (30 : Int32).toInt = 30 := by decide
  have e33 : (33 : Int32).toInt = 33 := by decide
  have e : x = nI (30 + (x.toInt.toNat - 30)) := by
    rw [show 30 + (x.toInt.toNat - 30) = x.toInt.toNat by omega]
    exact nI_of0 (by omega)
  refine ⟨x.toInt.toNat - 30, by omega, ?_, e⟩
  apply Int32.toInt_inj.mp
  rw [nI_toInt (by omega), Int32.toInt_sub, e30, Int.bmod_eq_of_le (by omega) (by omega)]
  omega
/-- articles -/
theorem rl_ar {f : Nat → Int32} {n d : Nat} (hn : n ≤ 30) : ∀ (m a : Nat) (P : Nat → Nat → Int32), m = n - a → inD P d → P 9 0 = 3 → P 10 0 = 0 →
    ∃ P', RL f n P a = RL f n P' (ar f n (m + 1) a (P 5 d)).1 ∧ P' 5 d = (ar f n (m + 1) a (P 5 d)).2 ∧ (∀ i, ¬ i = d → P' 5 i = P 5 i) ∧ (∀ j, ¬ j = 5 → P' j = P j) := by
  intro m
  induction m with
  | zero =>
    intro a P hm hd h9 h10
    have c : f_M_in (tk f n a) 30 33 = 0 := by
      rw [tk_out (by omega)]
      decide
    rw [ar, if_pos c]
    exact ⟨P, rfl, rfl, fun _ _ => rfl, fun _ _ => rfl⟩
  | succ m ih =>
    intro a P hm hd h9 h10
    rw [ar]
    by_cases c : f_M_in (tk f n a) 30 33 = 0
    · rw [if_pos c]
      exact ⟨P, rfl, rfl, fun _ _ => rfl, fun _ _ => rfl⟩
    · rw [if_neg c]
      by_cases c2 : f_M_has (P 5 d) (tk f n a - 30) = 0
      · rw [if_pos c2]
        have hl := tk_lt (by decide) c
        rw [tk_in hl] at c c2 ⊢
        obtain ⟨j, j1, j2, j3⟩ := art_j c
        obtain ⟨o1, o2⟩ := inD_o hd
        have d30 := hd.2
        have nw : f_NC_isWord (f a) = 0 := by
          rw [e_isWord]
          exact in_0 (by rw [j3, nI_toInt (by omega), show (29 : Int32).toInt = 29 by decide]; omega)
        have n36 : ¬ f a = 36 := fun q => by
          have := congrArg Int32.toInt q
          rw [j3, nI_toInt (by omega), show (36 : Int32).toInt = 36 by decide] at this
          omega
        have n35 : ¬ f a = 35 := fun q => by
          have := congrArg Int32.toInt q
          rw [j3, nI_toInt (by omega), show (35 : Int32).toInt = 35 by decide] at this
          omega
        have ht : f_Phrase_tells P (nI d) (f a) = 0 := by
          rw [tells_b d30 o2 (j := j) (by omega) j2]
          rw [j2] at c2
          exact (m_h0 (by omega)).mp c2
        have tk1 : f_Phrase_take P (f a) = (1, (upf P 5 (upd (P 5) d ((P 5 d) ||| ((1 : Int32) <<< ((f a - 30) &&& 31)))))) := by
          rw [take_D (Or.inl h9) n36 n35]
          unfold f_Phrase_takeInDescription
          rw [if_pos nw, e_isArticle, if_neg c, o1, own_1 d30 o2, if_neg one0, h10, if_neg (by decide), if_pos ht, nI_clamp (by omega)]
        have k := ih (a + 1) (upf P 5 (upd (P 5) d ((P 5 d) ||| ((1 : Int32) <<< ((f a - 30) &&& 31))))) (by omega) hd h9 h10
        have e5 : (upf P 5 (upd (P 5) d ((P 5 d) ||| ((1 : Int32) <<< ((f a - 30) &&& 31))))) 5 d = (P 5 d) ||| ((1 : Int32) <<< ((f a - 30) &&& 31)) := by
          show upd (P 5) d _ d = _
          rw [pk_us]
        rw [e5] at k
        obtain ⟨P', k1, k2, k3, k4⟩ := k
        refine ⟨P', ?_, k2, fun i hi => ?_, fun j hj => ?_⟩
        · rw [RL_s hn hl, tk1, if_neg one0]
          exact k1
        · rw [k3 i hi]
          show upd (P 5) d _ i = _
          rw [pk_un hi]
        · rw [k4 j hj, upf_ne (nb hj)]
      · rw [if_neg c2]
        exact ⟨P, rfl, rfl, fun _ _ => rfl, fun _ _ => rfl⟩
/-- words: c of them are read -/
theorem rl_wd {f : Nat → Int32} {n d a : Nat} (hn : n ≤ 30) : ∀ (m c : Nat) (P : Nat → Nat → Int32), c + m = 6 → inD P d → (P 9 0 = 3 ∨ P 9 0 = 4) → P 10 0 = nI c → (c = 0 → P 6 d = 0) → (0 < c → P 9 0 = 4 ∧ P 6 d = ld f a (c - 1) ∧ P 7 d = f (a + c - 1)) →
    ∃ P', RL f n P (a + c) = RL f n P' (a + c + wd f n m (a + c)) ∧ P' 10 0 = nI (c + wd f n m (a + c)) ∧ (c + wd f n m (a + c) = 0 → P' = P) ∧ (0 < c + wd f n m (a + c) → P' 9 0 = 4 ∧ P' 6 d = ld f a (c + wd f n m (a + c) - 1) ∧ P' 7 d = f (a + (c + wd f n m (a + c)) - 1)) ∧ (∀ i, ¬ i = d → P' 6 i = P 6 i ∧ P' 7 i = P 7 i) ∧ (∀ j, j < 6 ∨ j = 8 → P' j = P j) := by
  intro m
  induction m with
  | zero =>
    intro c P hc hd h9 h10 h0 h1
    rw [wd]
    exact ⟨P, rfl, h10, fun _ => rfl, fun q => h1 q, fun _ _ => ⟨rfl, rfl⟩, fun _ _ => rfl⟩
  | succ m ih =>
    intro c P hc hd h9 h10 h0 h1
    rw [wd]
    by_cases q : f_M_in (tk f n (a + c)) 0 29 = 0
    · rw [if_pos q]
      exact ⟨P, rfl, h10, fun _ => rfl, fun q => h1 q, fun _ _ => ⟨rfl, rfl⟩, fun _ _ => rfl⟩
    · rw [if_neg q]
      have hl := tk_lt (by decide) q
      rw [tk_in hl] at q
      have qi := in_of q
      have e29 : (29 : Int32).toInt = 29 := by decide
      have n36 : ¬ f (a + c) = 36 := fun w => by
        rw [w, show (36 : Int32).toInt = 36 by decide] at qi
        omega
      have n35 : ¬ f (a + c) = 35 := fun w => by
        rw [w, show (35 : Int32).toInt = 35 by decide] at qi
        omega
      obtain ⟨o1, o2⟩ := inD_o hd
      have d30 := hd.2
      have c6 : nI c < 6 := nI_lt (a := c) (b := 6) (by omega) (by omega)
      have step : ∀ Q, f_Phrase_take P (f (a + c)) = (1, Q) → inD Q d → Q 9 0 = 4 → Q 10 0 = nI (c + 1) → Q 6 d = ld f a c → Q 7 d = f (a + c) → (∀ i, ¬ i = d → Q 6 i = P 6 i ∧ Q 7 i = P 7 i) → (∀ j, j < 6 ∨ j = 8 → Q j = P j) →
          ∃ P', RL f n P (a + c) = RL f n P' (a + c + (wd f n m (a + c + 1) + 1)) ∧ P' 10 0 = nI (c + (wd f n m (a + c + 1) + 1)) ∧ (c + (wd f n m (a + c + 1) + 1) = 0 → P' = P) ∧ (0 < c + (wd f n m (a + c + 1) + 1) → P' 9 0 = 4 ∧ P' 6 d = ld f a (c + (wd f n m (a + c + 1) + 1) - 1) ∧ P' 7 d = f (a + (c + (wd f n m (a + c + 1) + 1)) - 1)) ∧ (∀ i, ¬ i = d → P' 6 i = P 6 i ∧ P' 7 i = P 7 i) ∧ (∀ j, j < 6 ∨ j = 8 → P' j = P j) := by
        intro Q t1 q0 q9 q10 q6 q7 qf qj
        obtain ⟨P', k1, k2, k3, k4, k5, k6⟩ := ih (c + 1) Q (by omega) q0 (Or.inr q9) q10 (fun w => absurd w (Nat.succ_ne_zero _)) (fun _ => ⟨q9, q6, by rw [q7, show a + (c + 1) - 1 = a + c by omega]⟩)
        have ec : a + (c + 1) = a + c + 1 := by omega
        rw [ec] at k1 k2 k3 k4
        refine ⟨P', ?_, ?_, fun w => absurd w (by omega), fun _ => ?_, fun i hi => ?_, fun j hj => ?_⟩
        · rw [RL_s hn hl, t1, if_neg one0]
          show RL f n Q (a + c + 1) = _
          rw [k1]
          congr 1
          omega
        · rw [k2]
          congr 1
          omega
        · have k4' := k4 (by omega)
          rw [show c + 1 + wd f n m (a + c + 1) = c + (wd f n m (a + c + 1) + 1) by omega] at k4'
          exact k4'
        · have w1 := k5 i hi
          have w2 := qf i hi
          exact ⟨w1.1.trans w2.1, w1.2.trans w2.2⟩
        · rw [k6 j hj, qj j hj]
      by_cases cz : c = 0
      · subst cz
        have tk1 : f_Phrase_take P (f (a + 0)) = (1, (upf (upf (upf P 7 (upd (P 7) d (f (a + 0)))) 9 (fun _ => 4)) 10 (fun _ => ((P 10 0) + 1)))) := by
          rw [take_D h9 n36 n35]
          unfold f_Phrase_takeInDescription
          rw [e_isWord, if_neg q]
          unfold f_Phrase_addWord
          rw [o1, own_1 d30 o2, if_neg one0, h10, if_pos c6, if_pos (by decide), nI_clamp (by omega)]
        refine step _ tk1 hd rfl ?_ (h0 rfl) ?_ (fun i hi => ⟨rfl, ?_⟩) (fun j hj => ?_)
        · show P 10 0 + 1 = _
          rw [h10, nI_1]
        · show upd (P 7) d (f (a + 0)) d = _
          rw [pk_us]
        · show upd (P 7) d (f (a + 0)) i = _
          rw [pk_un hi]
        · rw [upf_ne (nb (by omega)), upf_ne (nb (by omega)), upf_ne (nb (by omega))]
      · obtain ⟨g9, g6, g7⟩ := h1 (by omega)
        have tk1 : f_Phrase_take P (f (a + c)) = (1, (upf (upf (upf (upf P 6 (upd (P 6) d ((P 6 d) ||| ((1 : Int32) <<< ((P 7 d) &&& 31))))) 7 (upd (P 7) d (f (a + c)))) 9 (fun _ => 4)) 10 (fun _ => ((P 10 0) + 1)))) := by
          rw [take_D h9 n36 n35]
          unfold f_Phrase_takeInDescription
          rw [e_isWord, if_neg q]
          unfold f_Phrase_addWord
          rw [o1, own_1 d30 o2, if_neg one0, h10, if_pos c6, if_neg (nI_nle (by omega) (by omega)), nI_clamp (by omega)]
        refine step _ tk1 hd rfl ?_ ?_ ?_ (fun i hi => ⟨?_, ?_⟩) (fun j hj => ?_)
        · show P 10 0 + 1 = _
          rw [h10, nI_1]
        · show upd (P 6) d _ d = _
          rw [pk_us, g6, g7, show c = (c - 1) + 1 by omega, ld, show a + (c - 1 + 1) - 1 = a + (c - 1) by omega, Nat.add_sub_cancel]
        · show upd (P 7) d (f (a + c)) d = _
          rw [pk_us]
        · show upd (P 6) d _ i = _
          rw [pk_un hi]
        · show upd (P 7) d _ i = _
          rw [pk_un hi]
        · rw [upf_ne (nb (by omega)), upf_ne (nb (by omega)), upf_ne (nb (by omega)), upf_ne (nb (by omega))]
