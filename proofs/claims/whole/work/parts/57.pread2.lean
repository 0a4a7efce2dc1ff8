/-! ===== the component's read, as a whole ===== -/
theorem e_read {f : Nat → Int32} {n : Nat} (hn : n ≤ 30) (hok : ∀ j : Nat, okTok (f j)) (P : Nat → Nat → Int32) :
    ((ps f n (n + 1) 0 0).2.1 = false → (f_Phrase_read P f (nI n)).1 = nI (ps f n (n + 1) 0 0).1) ∧
    ((ps f n (n + 1) 0 0).2.1 = true → (f_Phrase_read P f (nI n)).1 = -1 ∧ (ps f n (n + 1) 0 0).2.2 ≤ 30 ∧ (f_Phrase_read P f (nI n)).2 4 0 = nI (ps f n (n + 1) 0 0).2.2 ∧ (∃ d', d' ≤ 30 ∧ (f_Phrase_read P f (nI n)).2 8 0 = nI d') ∧ PhrAt f n (f_Phrase_read P f (nI n)).2 (ps f n (n + 1) 0 0).2.2 0 0) := by
  have e : f_Phrase_read P f (nI n) = RL f n (upf (upf (upf P 4 (fun _ => 0)) 8 (fun _ => 0)) 9 (fun _ => 0)) 0 := by
    unfold f_Phrase_read RL
    rw [mu_n0 (by omega), Nat.sub_zero, nI_0]
  obtain ⟨i1, i2⟩ := rl_phr (f := f) hn hok n 0 0 0 (upf (upf (upf P 4 (fun _ => 0)) 8 (fun _ => 0)) 9 (fun _ => 0)) (by omega) (Nat.zero_le _) (Nat.le_refl _) (Nat.le_refl _) rfl nI_0.symm nI_0.symm
  rw [e]
  refine ⟨i1, fun q => ?_⟩
  obtain ⟨Q, d', k, j1, j2, j3, j4, j5, j6, j7, j8, j9⟩ := i2 q
  rw [Nat.zero_add] at j2 j3 j4
  rw [j1, j2]
  exact ⟨rfl, j3, j4, ⟨d', j7, j5⟩, j9⟩
