/-! ===== the two states at the start ===== -/
theorem fill_v {N : Nat} {x : Int32} (hN : N ≤ 40) {j : Nat} (hj : j < N) : ∀ (m i : Nat) (g : Nat → Int32), i + m = N → (j < i → g j = x) → f_fill_L5 N x (nI N) (m + 1) g (nI i) j = x := by
  intro m
  induction m with
  | zero =>
    intro i g hi h
    rw [f_fill_L5, if_pos (nI_le (by omega) (by omega))]
    exact h (by omega)
  | succ m ih =>
    intro i g hi h
    rw [f_fill_L5, if_neg (nI_ge (by omega) (by omega)), nI_1, nI_clamp (by omega)]
    refine ih (i + 1) _ (by omega) (fun q => ?_)
    rcases Nat.lt_or_ge j i with w | w
    · rw [pk_un (by omega)]
      exact h w
    · rw [show j = i by omega, pk_us]
theorem fill_a {N : Nat} {x : Int32} (hN : N ≤ 40) {j : Nat} (hj : j < N) (g : Nat → Int32) : f_fill N g x j = x := by
  unfold f_fill
  rw [mu_n0 (by omega)]
  have k := fill_v hN hj (x := x) N 0 g (by omega) (fun q => absurd q (Nat.not_lt_zero _))
  rw [nI_0] at k
  exact k
theorem fill_7 : ∀ (m : Nat) (g : Nat → Int32) (z : Int32), f_fill_L5 16 (-1) (nI 16) m g z = f_M_init_L129 m g z := by
  intro m
  induction m with
  | zero => intro g z; rfl
  | succ m ih =>
    intro g z
    rw [f_fill_L5, f_M_init_L129, ih]
    rfl
theorem fill_8 : ∀ (m : Nat) (g : Nat → Int32) (z : Int32), f_fill_L5 4 1 (nI 4) m g z = f_M_init_L150 m g z := by
  intro m
  induction m with
  | zero => intro g z; rfl
  | succ m ih =>
    intro g z
    rw [f_fill_L5, f_M_init_L150, ih]
    rfl
theorem b_150 : ∀ (m : Nat) (g : Nat → Int32) (z : Int32), (∀ j : Nat, 0 ≤ (g j).toInt ∧ (g j).toInt ≤ 9) → ∀ j : Nat, 0 ≤ (f_M_init_L150 m g z j).toInt ∧ (f_M_init_L150 m g z j).toInt ≤ 9 := by
  intro m
  induction m with
  | zero => intro g z h; exact h
  | succ m ih =>
    intro g z h
    rw [f_M_init_L150]
    by_cases c : 4 ≤ z
    · rw [if_pos c]
      exact h
    · rw [if_neg c]
      refine ih _ _ (fun j => ?_)
      by_cases e : j = z.toNatClampNeg
      · rw [e, pk_us]
        decide
      · rw [pk_un e]
        exact h j
theorem Rel_init : Rel f_NC_init f_M_init := by
  have z0 : (0 : Int32).toInt = 0 := by decide
  refine ⟨⟨⟨rfl, rfl, rfl, ?_, ?_⟩, rfl, ⟨?_, ?_⟩, ?_, ?_, ?_, ?_, ?_⟩, ⟨rfl, rfl, ⟨?_, ?_⟩, ?_⟩, rfl, ⟨rfl, rfl, ⟨?_, ?_⟩, ?_⟩, ⟨rfl, ?_, ?_, ?_⟩, ?_, ⟨rfl, rfl, rfl⟩, ⟨rfl, ?_, ?_, 0, 0, by omega, by omega, nI_0.symm, nI_0.symm, trivial⟩⟩
  · show f_fill 16 (fun _ => 0) (-1) = f_M_init_L129 (nc_mu 16 0 + 1) (fun _ => 0) 0
    unfold f_fill
    rw [fill_7, show nI 16 = 16 from rfl]
  · show f_fill 4 (fun _ => 0) 1 = f_M_init_L150 (nc_mu 4 0 + 1) (fun _ => 0) 0
    unfold f_fill
    rw [fill_8, show nI 4 = 4 from rfl]
  · show 0 ≤ (0 : Int32).toInt
    decide
  · show (0 : Int32).toInt ≤ 32
    decide
  · intro j hj
    have hj' : (j : Int) < (0 : Int32).toInt := hj
    omega
  · intro j _ hj
    show f_fill 32 (fun _ => 0) (-1) j = -1 ∧ f_fill 32 (fun _ => 0) 1 j = 1
    exact ⟨fill_a (by omega) hj _, fill_a (by omega) hj _⟩
  · intro j
    show (0 : Int32).toInt < 16
    decide
  · intro j
    show -9 ≤ (0 : Int32).toInt ∧ (0 : Int32).toInt ≤ 9
    decide
  · show ∀ j : Nat, 0 ≤ (f_M_init_L150 (nc_mu 4 0 + 1) (fun _ => 0) 0 j).toInt ∧ (f_M_init_L150 (nc_mu 4 0 + 1) (fun _ => 0) 0 j).toInt ≤ 9
    exact b_150 _ _ _ (fun j => by show 0 ≤ (0 : Int32).toInt ∧ (0 : Int32).toInt ≤ 9; decide)
  · show 0 ≤ (0 : Int32).toInt
    decide
  · show (0 : Int32).toInt ≤ 30
    decide
  · intro j
    exact Or.inl (by show 0 ≤ (0 : Int32).toInt ∧ (0 : Int32).toInt ≤ 37; decide)
  · show 0 ≤ (0 : Int32).toInt
    decide
  · show (0 : Int32).toInt ≤ 32
    decide
  · intro j hj
    have hj' : (j : Int) < (0 : Int32).toInt := hj
    omega
  · intro q
    exact absurd rfl q
  · show 0 ≤ (0 : Int32).toInt
    decide
  · show (0 : Int32).toInt < 30
    decide
  · intro k hk
    show f_fill 30 (fun _ => 0) (-1) k = if (0 : Int32) = 0 then -1 else f_M_init 27 k
    rw [fill_a (by omega) hk, if_pos rfl]
  · show (0 : Int32).toInt ≤ 30
    decide
  · intro j
    exact Or.inl (by show 0 ≤ (0 : Int32).toInt ∧ (0 : Int32).toInt ≤ 37; decide)
