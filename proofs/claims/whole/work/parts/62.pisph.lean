/-! ===== the reference's isPhrase ===== -/
theorem pr_le {f : Nat → Int32} {n a : Nat} (hn : n ≤ 30) (hok : ∀ j : Nat, okTok (f j)) (ha : a ≤ n) (h : (pr f n a).2 = true) : a < (pr f n a).1 ∧ (pr f n a).1 ≤ n := by
  have k := (rl_part (f := f) (k := 0) (d := 0) hn hok ha (Nat.zero_le _) (Nat.zero_le _) (P := fun _ _ => 0) rfl nI_0.symm nI_0.symm).2 h
  obtain ⟨Q, _, k2, k3, _⟩ := k
  exact ⟨k3, k2⟩
theorem ip_L11 {f : Nat → Int32} {n : Nat} {x1 : Int32} (hn : n ≤ 30) (hok : ∀ j : Nat, okTok (f j)) : ∀ (m a c : Nat) (X : Nat → Nat → Int32), n - a ≤ m → a ≤ n → X 10 = f → X 13 0 = nI n → X 14 0 = nI a → X 15 0 = 0 →
    (((f_M_isPhraseR_L11 x1 (m + 1) X (nI c)).1 = 0) ↔ (ps f n (m + 1) a c).2.1 = false) ∧ (f_M_isPhraseR_L11 x1 (m + 1) X (nI c)).2 14 0 = nI (ps f n (m + 1) a c).1 ∧ ((ps f n (m + 1) a c).2.1 = true → (f_M_isPhraseR_L11 x1 (m + 1) X (nI c)).2 23 0 = nI (ps f n (m + 1) a c).2.2) := by
  have P10 : ∀ X : Nat → Nat → Int32, (f_M_partR X 0 0 0) 10 = X 10 := fun X => ptR_fr ⟨⟨rfl, rfl, rfl, rfl, rfl⟩, rfl, rfl, rfl, rfl⟩
  have P13 : ∀ X : Nat → Nat → Int32, (f_M_partR X 0 0 0) 13 = X 13 := fun X => ptR_fr ⟨⟨rfl, rfl, rfl, rfl, rfl⟩, rfl, rfl, rfl, rfl⟩
  intro m
  induction m with
  | zero =>
    intro a c X hm ha eX e13 e14 e15
    obtain ⟨p1, p2⟩ := ptR_pos hn ha e13 e14 e15 0 0 0
    rw [eX] at p1 p2
    by_cases cf : (pr f n a).2 = true
    · have := pr_le hn hok ha cf
      omega
    · have cf' : (pr f n a).2 = false := by
        cases h9 : (pr f n a).2
        · rfl
        · exact absurd h9 cf
      rw [if_neg cf] at p2
      rw [f_M_isPhraseR_L11, if_neg (by rw [p2]; exact one0), ps, if_pos cf']
      exact ⟨⟨fun _ => rfl, fun _ => rfl⟩, p1, fun q => absurd (show false = true from q) (by decide)⟩
  | succ m ih =>
    intro a c X hm ha eX e13 e14 e15
    obtain ⟨p1, p2⟩ := ptR_pos hn ha e13 e14 e15 0 0 0
    have q13 : (f_M_partR X 0 0 0) 13 0 = nI n := by rw [P13]; exact e13
    have q10 : (f_M_partR X 0 0 0) 10 = f := by rw [P10]; exact eX
    rw [eX] at p1 p2
    by_cases cf : (pr f n a).2 = true
    · have le := pr_le hn hok ha cf
      have cf' : ¬ (pr f n a).2 = false := by
        rw [cf]
        decide
      rw [if_pos cf] at p2
      have eh : f_M_hereR (f_M_partR X 0 0 0) = tk f n (pr f n a).1 := by
        rw [hereR_tk hn (by omega) q13 p1, q10]
      rw [f_M_isPhraseR_L11, if_pos p2, eh, ps, if_neg cf']
      by_cases c36 : tk f n (pr f n a).1 = 36
      · have hl : (pr f n a).1 < n := by
          rcases Nat.lt_or_ge (pr f n a).1 n with w | w
          · exact w
          · rw [tk_out (by omega)] at c36
            exact absurd c36 (by decide)
        rw [if_pos c36, if_pos c36, nI_1]
        exact ih ((pr f n a).1 + 1) (c + 1) (upf (f_M_partR X 0 0 0) 14 (fun _ => (((f_M_partR X 0 0 0) 14 0) + 1))) (by omega) hl q10 q13 (by show (f_M_partR X 0 0 0) 14 0 + 1 = _; rw [p1, nI_1]) p2
      · rw [if_neg c36, if_neg c36, q13, p1, nI_1]
        by_cases ce : (pr f n a).1 = n
        · rw [if_pos (by rw [ce])]
          refine ⟨⟨fun q => absurd q one0, fun q => ?_⟩, rfl, fun _ => rfl⟩
          rw [show (((pr f n a).1, decide ((pr f n a).1 = n), c + 1) : Nat × Bool × Nat).2.1 = decide ((pr f n a).1 = n) from rfl, decide_eq_true ce] at q
          exact absurd q (by decide)
        · rw [if_neg (fun q => ce ((nI_eq (by omega) (by omega)).mp q))]
          exact ⟨⟨fun _ => decide_eq_false ce, fun _ => rfl⟩, rfl, fun _ => rfl⟩
    · have cf' : (pr f n a).2 = false := by
        cases h9 : (pr f n a).2
        · rfl
        · exact absurd h9 cf
      rw [if_neg cf] at p2
      rw [f_M_isPhraseR_L11, if_neg (by rw [p2]; exact one0), ps, if_pos cf']
      exact ⟨⟨fun _ => rfl, fun _ => rfl⟩, p1, fun q => absurd (show false = true from q) (by decide)⟩
theorem e_isPhrase {X : Nat → Nat → Int32} {n : Nat} (hn : n ≤ 30) (hok : ∀ j : Nat, okTok (X 10 j)) :
    (((f_M_isPhraseR X (nI n)).1 = 0) ↔ (ps (X 10) n (n + 1) 0 0).2.1 = false) ∧ (f_M_isPhraseR X (nI n)).2 14 0 = nI (ps (X 10) n (n + 1) 0 0).1 ∧ ((ps (X 10) n (n + 1) 0 0).2.1 = true → (f_M_isPhraseR X (nI n)).2 23 0 = nI (ps (X 10) n (n + 1) 0 0).2.2) := by
  have k := ip_L11 (f := X 10) (x1 := nI n) hn hok n 0 0 (f_M_beginR X (nI n)) (by omega) (Nat.zero_le _) rfl rfl nI_0.symm rfl
  have e : f_M_isPhraseR X (nI n) = f_M_isPhraseR_L11 (nI n) (n + 1) (f_M_beginR X (nI n)) (nI 0) := by
    unfold f_M_isPhraseR
    have e2 : nc_mu ((f_M_beginR X (nI n)) 13 0) ((f_M_beginR X (nI n)) 14 0) = n := by
      show nc_mu (nI n) 0 = n
      rw [mu_n0 (by omega)]
    rw [e2, nI_0]
  rw [e]
  exact k
