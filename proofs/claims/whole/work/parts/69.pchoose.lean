/-! ===== goThrough and choose ===== -/
theorem tk_cg {f g : Nat → Int32} {n : Nat} (h : ∀ j, j < n → f j = g j) (a : Nat) : tk f n a = tk g n a := by
  unfold tk
  by_cases c : a < n
  · rw [if_pos c, if_pos c, h a c]
  · rw [if_neg c, if_neg c]
theorem ar_cg {f g : Nat → Int32} {n : Nat} (h : ∀ j, j < n → f j = g j) : ∀ (m a : Nat) (fl : Int32), ar f n m a fl = ar g n m a fl := by
  intro m
  induction m with
  | zero => intro a fl; rfl
  | succ m ih =>
    intro a fl
    simp only [ar, tk_cg h, ih]
theorem wd_cg {f g : Nat → Int32} {n : Nat} (h : ∀ j, j < n → f j = g j) : ∀ (m a : Nat), wd f n m a = wd g n m a := by
  intro m
  induction m with
  | zero => intro a; rfl
  | succ m ih =>
    intro a
    simp only [wd, tk_cg h, ih]
theorem dA_cg {f g : Nat → Int32} {n : Nat} (h : ∀ j, j < n → f j = g j) (a : Nat) : dA f n a = dA g n a := by
  unfold dA
  rw [ar_cg h]
theorem dF_cg {f g : Nat → Int32} {n : Nat} (h : ∀ j, j < n → f j = g j) (a : Nat) : dF f n a = dF g n a := by
  unfold dF
  rw [ar_cg h]
theorem dW_cg {f g : Nat → Int32} {n : Nat} (h : ∀ j, j < n → f j = g j) (a : Nat) : dW f n a = dW g n a := by
  unfold dW
  rw [wd_cg h, dA_cg h]
theorem ld_cg {f g : Nat → Int32} {n : Nat} (h : ∀ j, j < n → f j = g j) : ∀ (k a : Nat), a + k ≤ n → ld f a k = ld g a k := by
  intro k
  induction k with
  | zero => intro a _; rfl
  | succ k ih =>
    intro a ha
    show ld f a k ||| ((1 : Int32) <<< (f (a + k) &&& 31)) = ld g a k ||| ((1 : Int32) <<< (g (a + k) &&& 31))
    rw [ih a (by omega), h (a + k) (by omega)]
theorem hq_cg {f g : Nat → Int32} {n : Nat} (h : ∀ j, j < n → f j = g j) (a : Nat) : hq f n a = hq g n a := by
  unfold hq
  rw [tk_cg h]
theorem dscd_cg {f g : Nat → Int32} {n : Nat} (h : ∀ j, j < n → f j = g j) (a : Nat) : dscd f n a ↔ dscd g n a := by
  unfold dscd
  rw [tk_cg h]
theorem desc_cg {f g : Nat → Int32} {n d a b : Nat} {P : Nat → Nat → Int32} (h : ∀ j, j < n → f j = g j) (hD : DescAt f n P d a b) : DescAt g n P d a b := by
  obtain ⟨d1, d2, d3, d4, d5, d6, d7⟩ := hD
  have l := (desc_tk d1).1
  have dw := dW_le (f := f) (n := n) (a := a) (by omega)
  refine ⟨by rw [← dW_cg h]; exact d1, by rw [← dW_cg h, ← dA_cg h]; exact d2, d3, d4, by rw [← dF_cg h]; exact d5, ?_, ?_⟩
  · rw [← dW_cg h, ← dA_cg h, ← ld_cg h _ _ (by omega)]
    exact d6
  · rw [← dW_cg h, ← dA_cg h, ← h _ (by omega)]
    exact d7
theorem exc_cg {f g : Nat → Int32} {n : Nat} {P : Nat → Nat → Int32} (h : ∀ j, j < n → f j = g j) : ∀ (m d a b : Nat), ExcAt f n P m d a b → ExcAt g n P m d a b := by
  intro m
  induction m with
  | zero => intro d a b hE; exact hE
  | succ m ih =>
    intro d a b hE
    obtain ⟨t, b1, hD, hE'⟩ := hE
    exact ⟨by rw [← tk_cg h]; exact t, b1, desc_cg h hD, ih _ _ _ hE'⟩
theorem part_cg {f g : Nat → Int32} {n k a b : Nat} {P : Nat → Nat → Int32} (h : ∀ j, j < n → f j = g j) (hp : PartAt f n P k a b) : PartAt g n P k a b := by
  obtain ⟨d, m, b1, p1, p2, p3⟩ := hp
  refine ⟨d, m, b1, p1, p2, ?_⟩
  rw [← tk_cg h, ← tk_cg h, ← hq_cg h, ← dscd_cg h]
  rcases p3 with ⟨t34, pa, nb35, ⟨pd, pd0, pm, ps2, pD, pE⟩ | ⟨pd, pm, ps2, pE⟩⟩ | ⟨t40, pa, pd0, pm0, pm, ps2, pD⟩ | ⟨nt34, nt40, pa, pd0, pm0, pm, ps2, pD⟩
  · exact Or.inl ⟨t34, pa, nb35, Or.inl ⟨pd, pd0, pm, ps2, desc_cg h pD, exc_cg h _ _ _ _ pE⟩⟩
  · exact Or.inl ⟨t34, pa, nb35, Or.inr ⟨pd, pm, ps2, exc_cg h _ _ _ _ pE⟩⟩
  · exact Or.inr (Or.inl ⟨t40, pa, pd0, pm0, pm, ps2, desc_cg h pD⟩)
  · exact Or.inr (Or.inr ⟨nt34, nt40, pa, pd0, pm0, pm, ps2, desc_cg h pD⟩)
theorem phr_cg {f g : Nat → Int32} {n : Nat} {P : Nat → Nat → Int32} (h : ∀ j, j < n → f j = g j) : ∀ (m k a : Nat), PhrAt f n P m k a → PhrAt g n P m k a := by
  intro m
  induction m with
  | zero => intro k a _; trivial
  | succ m ih =>
    intro k a hp
    obtain ⟨b, h1, h2⟩ := hp
    exact ⟨b, part_cg h h1, ih _ _ h2⟩
theorem go_res {S : Nat → Nat → Nat → Int32} {X : Nat → Nat → Int32} (h : RelN S X) : (f_NC_goThrough S).1 = (f_M_go X).1 ∧ Rel (f_NC_goThrough S).2 (f_M_go X).2 ∧ AskN (f_M_go X).2 := by
  obtain ⟨N, hN, eN, iN⟩ := th_n h.1
  obtain ⟨r1, r2, r3, n, K, hn, hK, en, eK, hph⟩ := h.2.2.2.2.2.2
  have hR : RelN (upr (upr S 0 (upf (S 0) 10 (fun _ => 0))) 5 (f_Picks_clear (S 5))) (f_M_beginF (upf X 29 (fun _ => 0)) (X 25 0)) := by
    refine RelN_of h rfl rfl rfl rfl rfl rfl ?_ ?_ ?_
    · intro k hk
      show (upf (upf (upf (upf X 29 _) 13 _) 14 _) 15 _) k = X k
      rw [upf_ne (nb (by omega)), upf_ne (nb (by omega)), upf_ne (nb (by omega)), upf_ne (nb (by omega))]
    · exact h.2.2.2.1
    · exact ⟨rfl, fun q => absurd rfl q, h.2.2.2.2.1.2.2⟩
  have w := go_L (f := X 24) hn hN hK r3 K 0 0 0 (upr (upr S 0 (upf (S 0) 10 (fun _ => 0))) 5 (f_Picks_clear (S 5))) (f_M_beginF (upf X 29 (fun _ => 0)) (X 25 0)) (by omega) hph hR eK rfl eN en nI_0.symm rfl rfl ⟨nI_0.symm, (cnt_z 32 (fun t _ => b_0 t)).symm, fun j hj => absurd hj (Nat.not_lt_zero _)⟩
  rw [nI_0] at w
  have e1 : f_NC_goThrough S = f_NC_goThrough_L14 (K + 1) (upr (upr S 0 (upf (S 0) 10 (fun _ => 0))) 5 (f_Picks_clear (S 5))) 0 := by
    unfold f_NC_goThrough
    rw [r1, eK, mu_n0 (by omega)]
  have e2 : f_M_go X = f_M_go_L23 (K + 1) (f_M_beginF (upf X 29 (fun _ => 0)) (X 25 0)) 0 0 0 := by
    unfold f_M_go
    have e3 : nc_mu ((f_M_beginF (upf X 29 (fun _ => 0)) (X 25 0)) 26 0) 0 = K := by
      show nc_mu (X 26 0) 0 = K
      rw [eK, mu_n0 (by omega)]
    rw [e3]
  rw [e1, e2]
  exact w
theorem copy55 {n : Nat} (hn : n ≤ 30) : ∀ (m i : Nat) (X : Nat → Nat → Int32), i + m = n → ∃ X', f_M_choose_L55 (nI n) (m + 1) X (nI i) = f_M_choose_L80 (nc_mu 30 0 + 1) X' 0 ∧ (∀ j, i ≤ j → j < n → X' 24 j = X 10 j) ∧ (∀ j, (j < i ∨ n ≤ j) → X' 24 j = X 24 j) ∧ ∀ k, ¬ k = 24 → X' k = X k := by
  intro m
  induction m with
  | zero =>
    intro i X hi
    refine ⟨X, ?_, fun j h1 h2 => absurd h2 (by omega), fun j _ => rfl, fun k _ => rfl⟩
    rw [f_M_choose_L55, if_pos]
    rw [Int32.le_iff_toInt_le, nI_toInt (by omega), nI_toInt (by omega)]
    omega
  | succ m ih =>
    intro i X hi
    obtain ⟨X', i1, i2, i3, i4⟩ := ih (i + 1) (upf X 24 (upd (X 24) i (X 10 i))) (by omega)
    refine ⟨X', ?_, fun j h1 h2 => ?_, fun j h1 => ?_, fun k hk => (i4 k hk).trans (upf_ne (nb hk))⟩
    · rw [f_M_choose_L55, if_neg, nI_1, nI_clamp (by omega)]
      · exact i1
      · rw [Int32.le_iff_toInt_le, nI_toInt (by omega), nI_toInt (by omega)]
        omega
    · by_cases e : j = i
      · rw [e, i3 i (by omega)]
        show upd (X 24) i (X 10 i) i = X 10 i
        rw [pk_us]
      · exact i2 j (by omega) h2
    · rw [i3 j (by omega)]
      show upd (X 24) i (X 10 i) j = X 24 j
      rw [pk_un (by omega)]
theorem nar_0 : vp_nar .boolean 0 = 0 := by decide
theorem nar_1 : vp_nar .boolean 1 = 1 := by decide
theorem clear80 : ∀ (m i : Nat) (X : Nat → Nat → Int32), i + m = 30 → ∃ X', f_M_choose_L80 (m + 1) X (nI i) = f_M_go X' ∧ (∀ j, i ≤ j → j < 30 → X' 28 j = 0) ∧ (∀ j, j < i → X' 28 j = X 28 j) ∧ ∀ k, ¬ k = 28 → X' k = X k := by
  intro m
  have e30 : (30 : Int32).toInt = 30 := by decide
  induction m with
  | zero =>
    intro i X hi
    refine ⟨X, ?_, fun j h1 h2 => absurd h2 (by omega), fun j _ => rfl, fun k _ => rfl⟩
    rw [f_M_choose_L80, if_pos]
    rw [Int32.le_iff_toInt_le, nI_toInt (by omega)]
    omega
  | succ m ih =>
    intro i X hi
    obtain ⟨X', i1, i2, i3, i4⟩ := ih (i + 1) (upf X 28 (upd (X 28) i 0)) (by omega)
    refine ⟨X', ?_, fun j h1 h2 => ?_, fun j h1 => ?_, fun k hk => (i4 k hk).trans (upf_ne (nb hk))⟩
    · rw [f_M_choose_L80, if_neg, nI_1, nI_clamp (by omega), nar_0]
      · exact i1
      · rw [Int32.le_iff_toInt_le, nI_toInt (by omega)]
        omega
    · by_cases e : j = i
      · rw [e, i3 i (by omega)]
        show upd (X 28) i 0 i = 0
        rw [pk_us]
      · exact i2 j (by omega) h2
    · rw [i3 j (by omega)]
      show upd (X 28) i 0 j = X 28 j
      rw [pk_un (by omega)]
theorem pkR_of {k : Nat} (h : k < 14 ∨ 22 < k) : pkR k := ⟨⟨nb (by omega), nb (by omega), nb (by omega), nb (by omega), nb (by omega)⟩, nb (by omega), nb (by omega), nb (by omega), nb (by omega)⟩
theorem choose_res (S : Nat → Nat → Nat → Int32) (X : Nat → Nat → Int32) (h : Rel S X) (ha : AskN X) : (f_NC_choose S).1 = (f_M_choose X).1 ∧ Rel (f_NC_choose S).2 (f_M_choose X).2 ∧ AskN (f_M_choose X).2 := by
  obtain ⟨h21, h22, ⟨h23, h24⟩, hok⟩ := h.2.1
  obtain ⟨n, n1, n2, n3⟩ := rng (N := 31) ⟨h23, by omega⟩
  have hn : n ≤ 30 := by omega
  obtain ⟨z1, z2, z3⟩ := e_isPhrase (X := upf (upf X 0 (fun _ => 0)) 11 (fun _ => 0)) (n := n) hn hok
  have e10 : (upf (upf X 0 (fun _ => 0)) 11 (fun _ => 0)) 10 = X 10 := rfl
  rw [e10] at z1 z2 z3
  have fz : ∀ k, ¬ k = 0 → ¬ k = 11 → (k < 13 ∨ 23 < k) → (f_M_isPhraseR (upf (upf X 0 (fun _ => 0)) 11 (fun _ => 0)) (nI n)).2 k = X k := by
    intro k a1 a2 a3
    rw [ip_fr (pkR_of (by omega)) (nb (by omega)) (nb (by omega)), upf_ne (nb a2), upf_ne (nb a1)]
  have f11 : (f_M_isPhraseR (upf (upf X 0 (fun _ => 0)) 11 (fun _ => 0)) (nI n)).2 11 = (fun _ => 0) := by
    rw [ip_fr (pkR_of (by omega)) (nb (by omega)) (nb (by omega))]
    rfl
  have er := e_read (f := X 10) hn hok (S 3)
  have er1 := e_read1 (f := X 10) hn hok (S 3)
  unfold f_NC_choose f_M_choose
  rw [h21, h22, n2]
  generalize f_M_isPhraseR (upf (upf X 0 (fun _ => 0)) 11 (fun _ => 0)) (nI n) = Z at z1 z2 z3 fz f11 ⊢
  by_cases hps : (ps (X 10) n (n + 1) 0 0).2.1 = true
  · obtain ⟨_, k2, k3, ⟨d', k4, k5⟩, k6⟩ := er.2 hps
    rw [if_pos (er1.mpr hps), if_neg (fun q => by rw [z1.mp q] at hps; exact absurd hps (by decide)), mu_n0 (by omega)]
    have z3' := z3 hps
    generalize (f_Phrase_read (S 3) (X 10) (nI n)).2 = Q at k3 k5 k6 ⊢
    obtain ⟨X1, a1, a2, a3, a4⟩ := copy55 hn n 0 (upf (upf Z.2 25 (fun _ => nI n)) 26 (fun _ => Z.2 23 0)) (by omega)
    obtain ⟨X2, b1, b2, b3, b4⟩ := clear80 30 0 X1 (by omega)
    have e80 : nc_mu 30 0 = 30 := mu_n0 (n := 30) (by omega)
    rw [e80] at a1
    rw [nI_0] at a1 b1
    rw [a1, b1]
    have fr : ∀ k, ¬ k = 28 → ¬ k = 24 → ¬ k = 25 → ¬ k = 26 → ¬ k = 0 → ¬ k = 11 → (k < 13 ∨ 23 < k) → X2 k = X k := by
      intro k c1 c2 c3 c4 c5 c6 c7
      rw [b4 k c1, a4 k c2, upf_ne (nb c4), upf_ne (nb c3)]
      exact fz k c5 c6 c7
    have g10 : (upf (upf Z.2 25 (fun _ => nI n)) 26 (fun _ => Z.2 23 0)) 10 = X 10 := fz 10 (by omega) (by omega) (by omega)
    have g24 : (upf (upf Z.2 25 (fun _ => nI n)) 26 (fun _ => Z.2 23 0)) 24 = X 24 := fz 24 (by omega) (by omega) (by omega)
    rw [g10] at a2
    rw [g24] at a3
    have e24 : X2 24 = X1 24 := b4 24 (by omega)
    have e25 : X2 25 0 = nI n := by
      rw [b4 25 (by omega), a4 25 (by omega)]
      rfl
    have e26 : X2 26 0 = nI (ps (X 10) n (n + 1) 0 0).2.2 := by
      rw [b4 26 (by omega), a4 26 (by omega)]
      exact z3'
    have e11 : X2 11 0 = 0 := by
      rw [b4 11 (by omega), a4 11 (by omega)]
      exact congrFun f11 0
    have f' : ∀ k, (0 < k ∧ k < 11) ∨ k = 27 ∨ (28 < k) → X2 k = X k := fun k hk => fr k (by omega) (by omega) (by omega) (by omega) (by omega) (by omega) (by omega)
    have hR : RelN (upr (upr (upr S 0 (upf (upf (S 0) 2 (fun _ => 0)) 6 (f_fill 30 ((S 0) 6) (-1)))) 2 Q) 3 (S 2)) X2 := by
      refine ⟨?_, ?_, ?_, ?_, ?_, ?_, ?_⟩
      · exact RT_fr h.1 (fun k q1 q2 => f' k (by omega))
      · show RRow (upf (upf (S 0) 2 (fun _ => 0)) 6 (f_fill 30 ((S 0) 6) (-1))) X2
        unfold RRow
        rw [f' 10 (by omega), e11]
        exact ⟨h21, rfl, ⟨by decide, by decide⟩, hok⟩
      · show S 0 3 0 = X2 9 0
        rw [f' 9 (by omega)]
        exact h.2.2.1
      · exact RLat_of h.2.2.2.1 rfl (f' 31 (by omega)) (f' 32 (by omega)) (f' 33 (by omega))
      · show RAsk (upf (upf (S 0) 2 (fun _ => 0)) 6 (f_fill 30 ((S 0) 6) (-1))) X2
        unfold RAsk
        rw [f' 29 (by omega), f' 30 (by omega)]
        exact h.2.2.2.2.1
      · intro k hk
        show f_fill 30 ((S 0) 6) (-1) k = _
        rw [fill_a (by omega) hk, b2 k (Nat.zero_le _) hk, if_pos rfl]
      · show RPhr Q X2
        refine ⟨by rw [k3, e26], ?_, ?_, n, (ps (X 10) n (n + 1) 0 0).2.2, hn, k2, e25, e26, ?_⟩
        · rw [k5, nI_toInt (by omega)]
          omega
        · intro j
          rw [e24]
          by_cases cj : j < n
          · rw [a2 j (Nat.zero_le _) cj]
            exact hok j
          · rw [a3 j (by omega)]
            exact h.2.2.2.2.2.2.2.2.2.1 j
        · rw [e24]
          exact phr_cg (fun j hj => (a2 j (Nat.zero_le _) hj).symm) _ _ _ k6
    exact go_res hR
  · have hpf : (ps (X 10) n (n + 1) 0 0).2.1 = false := by
      cases q : (ps (X 10) n (n + 1) 0 0).2.1
      · rfl
      · exact absurd q hps
    rw [if_neg (fun q => hps (er1.mp q)), if_pos (z1.mpr hpf), er.1 hpf, z2]
    have fr : ∀ k, ¬ k = 0 → ¬ k = 11 → ¬ k = 35 → ¬ k = 36 → ¬ k = 37 → (k < 13 ∨ 23 < k) → (f_M_tell Z.2 (-1) (nI (ps (X 10) n (n + 1) 0 0).1) (-1)) k = X k := by
      intro k c1 c2 c3 c4 c5 c6
      show (upf (upf (upf Z.2 35 _) 36 _) 37 _) k = X k
      rw [upf_ne (nb c5), upf_ne (nb c4), upf_ne (nb c3)]
      exact fz k c1 c2 c6
    have f' : ∀ k, (0 < k ∧ k < 11) ∨ (23 < k ∧ k < 35) → (f_M_tell Z.2 (-1) (nI (ps (X 10) n (n + 1) 0 0).1) (-1)) k = X k := fun k hk => fr k (by omega) (by omega) (by omega) (by omega) (by omega) (by omega)
    refine ⟨rfl, ⟨?_, ?_, ?_, ?_, ?_, ?_, ?_, ?_⟩, ?_⟩
    · exact RT_fr h.1 (fun k q1 q2 => f' k (by omega))
    · have e11 : (f_M_tell Z.2 (-1) (nI (ps (X 10) n (n + 1) 0 0).1) (-1)) 11 0 = 0 := congrFun f11 0
      refine ⟨h21.trans (f' 10 (by omega)).symm, e11.symm, ?_, ?_⟩
      · show 0 ≤ ((f_M_tell Z.2 (-1) (nI (ps (X 10) n (n + 1) 0 0).1) (-1)) 11 0).toInt ∧ ((f_M_tell Z.2 (-1) (nI (ps (X 10) n (n + 1) 0 0).1) (-1)) 11 0).toInt ≤ 30
        rw [e11]
        exact ⟨by decide, by decide⟩
      · intro j
        show okTok ((f_M_tell Z.2 (-1) (nI (ps (X 10) n (n + 1) 0 0).1) (-1)) 10 j)
        rw [f' 10 (by omega)]
        exact hok j
    · exact h.2.2.1.trans (congrFun (f' 9 (by omega)) 0).symm
    · exact RLat_of h.2.2.2.1 rfl (f' 31 (by omega)) (f' 32 (by omega)) (f' 33 (by omega))
    · show RAsk _ (f_M_tell Z.2 (-1) (nI (ps (X 10) n (n + 1) 0 0).1) (-1))
      unfold RAsk
      rw [f' 29 (by omega), f' 30 (by omega)]
      exact h.2.2.2.2.1
    · show RLeft _ (f_M_tell Z.2 (-1) (nI (ps (X 10) n (n + 1) 0 0).1) (-1))
      unfold RLeft
      rw [f' 28 (by omega), f' 27 (by omega)]
      exact h.2.2.2.2.2.1
    · exact ⟨rfl, rfl, rfl⟩
    · show RPhr (S 2) (f_M_tell Z.2 (-1) (nI (ps (X 10) n (n + 1) 0 0).1) (-1))
      unfold RPhr
      rw [f' 24 (by omega), f' 25 (by omega), f' 26 (by omega)]
      exact h.2.2.2.2.2.2.2
    · show AskN (f_M_tell Z.2 (-1) (nI (ps (X 10) n (n + 1) 0 0).1) (-1))
      unfold AskN
      rw [f' 29 (by omega), f' 1 (by omega)]
      exact ha
