/-! ===== a part, as a whole ===== -/
theorem there_N {X : Nat → Nat → Int32} {N t : Nat} (hN : N ≤ 32) (en : X 1 0 = nI N) (ht : t < 32) (h : bt (f_M_there X) t = true) : t < N := by
  rw [s_there hN en, b_mk0 hN ht] at h
  by_cases c : t < N
  · exact c
  · rw [decide_eq_false c] at h
    exact absurd h (by simp)
theorem and_sub2 {a b : Int32} {t : Nat} (h : bt (a &&& b) t = true) : bt b t = true := by
  rw [and_cm] at h
  exact and_sub h
theorem prt_1 {P : Nat → Nat → Int32} {d : Nat} (hd : d < 30) (h : (d : Int) < (P 4 0).toInt) : f_Phrase_isPart P (nI d) = 1 := by
  have e : (nI d).toInt = (d : Int) := nI_toInt (by omega)
  have e0 : (0 : Int32).toInt = 0 := by decide
  have e30 : (30 : Int32).toInt = 30 := by decide
  have c1 : ¬ nI d < 0 := by
    rw [Int32.lt_iff_toInt_lt]
    omega
  have c2 : ¬ P 4 0 ≤ nI d := by
    rw [Int32.le_iff_toInt_le]
    omega
  have c3 : ¬ 30 ≤ nI d := by
    rw [Int32.le_iff_toInt_le]
    omega
  unfold f_Phrase_isPart
  rw [if_neg c1, if_neg c2, if_neg c3]
theorem j213_res {f : Nat → Int32} {n N k d m b c : Nat} (hn : n ≤ 30) (hN : N ≤ 32) (hk : k < 30) {S : Nat → Nat → Nat → Int32} {X : Nat → Nat → Int32} (h : RT (S 1) X) (en : X 1 0 = nI N) (hp : f_Phrase_isPart (S 2) (nI k) = 1) (h3 : S 2 3 k = nI (d + m)) (h2 : S 2 2 k = nI d) (hdm : d + m ≤ 30) {main x2 x3 y4 y5 y8 y9 : Int32} (hE : (y4 = 0 ∧ m = 0) ∨ (¬ y4 = 0 ∧ ExcAt f n (S 2) m d b c ∧ ¬ tk f n c = 35)) (hb : b ≤ n) (hl : S 4 2 0 = X 31 0) (e24 : X 24 = f) (e13 : X 13 0 = nI n) (e14 : X 14 0 = nI b) (x20 : X 20 0 = 0) (x22 : X 22 0 = 0) (hA : AKd S k main x2 x3 y4 y5 y8 y9) (fit : Int32) : PRes N k S (gpF S (nI k) main fit) (f_M_partF_J213 1 x2 x3 X y4 y5 fit y8 y9) := by
  have skip : ∀ (X' : Nat → Nat → Int32) (z : Int32), X' 24 = f → X' 13 0 = nI n → X' 14 0 = nI b → ¬ X' 19 0 ≤ 0 → (f_M_partF_L254 1 x2 x3 y4 y5 y8 y9 (n - b + 1) X' z) 19 0 = X' 19 0 ∧ (f_M_partF_L254 1 x2 x3 y4 y5 y8 y9 (n - b + 1) X' z) 20 0 = X' 20 0 ∧ (f_M_partF_L254 1 x2 x3 y4 y5 y8 y9 (n - b + 1) X' z) 21 0 = X' 21 0 := by
    intro X' z a1 a2 a3 a4
    rcases hE with ⟨q1, _⟩ | ⟨q1, q2, q3⟩
    · rw [l254_r a4 (Or.inl q1)]
      exact ⟨rfl, rfl, rfl⟩
    · exact exc_skip hn q1 q3 m d b (n - b) X' z q2 hb (Nat.le_refl _) a1 a2 a3 a4
  have eT : ∀ S1, FR S S1 → f_NC_takeExceptsAway S1 (nI k) = f_NC_takeExceptsAway_L18 (nI k) (nI (d + m)) (m + 1) S1 (nI d) := by
    intro S1 hF
    unfold f_NC_takeExceptsAway f_Phrase_exceptsEnd f_Phrase_exceptsStart
    rw [hF.1 2 (by omega), hp, if_neg one0, if_neg one0, nI_clamp (by omega), h3, h2, mu_nI (by omega) (by omega), show d + m - d = m by omega]
  have out : ∀ (S1 : Nat → Nat → Nat → Int32) (X' : Nat → Nat → Int32) (z : Int32), FR S S1 → RT (S 1) X' → S 4 2 0 = X' 31 0 → X' 24 = f → X' 13 0 = nI n → X' 14 0 = nI b → X' 19 0 = 0 → X' 21 0 = f_bitCount z → S1 0 9 0 = z → ExOut N S1 (f_NC_takeExceptsAway_L18 (nI k) (nI (d + m)) (m + 1) S1 (nI d)) (f_M_partF_L254 1 x2 x3 y4 y5 y8 y9 (n - b + 1) X' z) X' z x2 x3 y4 y5 y8 y9 := by
    intro S1 X' z hF a1 a2 a3 a4 a5 a6 a7 a8
    have e1 : S1 1 = S 1 := hF.1 1 (by omega)
    have e2 : S1 2 = S 2 := hF.1 2 (by omega)
    have e4 : S1 4 = S 4 := hF.1 4 (by omega)
    rcases hE with ⟨q1, q2⟩ | ⟨q1, q2, q3⟩
    · subst q2
      rw [l254_0 a6 (Or.inl q1), f_NC_takeExceptsAway_L18, if_pos (by rw [Nat.add_zero]; exact Int32.le_refl _)]
      refine Or.inr ⟨rfl, FR_refl S1, fun t _ q => by rw [← a8]; exact q, X', ?_, a6, rfl, rfl, ?_, by rw [e1]; exact a1, rfl⟩
      · show xit x2 x3 X' y4 y5 y8 y9 z = xit x2 x3 X' y4 y5 y8 y9 (S1 0 9 0)
        rw [a8]
      · show X' 21 0 = f_bitCount (S1 0 9 0)
        rw [a8]
        exact a7
    · exact exc_res hn q1 q3 m d b (n - b) S1 X' z (by rw [e2]; exact q2) hb (Nat.le_refl _) hdm (by rw [e1]; exact a1) (by rw [e4]; exact a2) a3 a4 a5 a6 a7 a8
  unfold gpF f_M_partF_J213 f_M_partF_J254
  rw [e_there h]
  by_cases c0 : fit = 0
  · rw [if_pos c0, if_pos c0]
    show PRes N k S _ (f_M_partF_L254 1 x2 x3 y4 y5 y8 y9 (nc_mu (X 13 0) (X 14 0) + 1) (upf (upf X 19 (fun _ => 2)) 21 (fun _ => f_bitCount (fit &&& f_M_there X))) (fit &&& f_M_there X))
    rw [e13, e14, mu_nI (by omega) (by omega)]
    obtain ⟨i1, i2, i3⟩ := skip (upf (upf X 19 (fun _ => 2)) 21 (fun _ => f_bitCount (fit &&& f_M_there X))) (fit &&& f_M_there X) e24 e13 e14 (by show ¬ (2 : Int32) ≤ 0; decide)
    exact Or.inr (Or.inr (Or.inl ⟨Or.inl rfl, i1, i2.trans x20, GF_of (FR_refl S), rfl⟩))
  · rw [if_neg c0, if_neg c0]
    by_cases c1 : fit &&& f_M_there X = 0
    · rw [if_pos c1, if_pos c1]
      show PRes N k S _ (f_M_partF_L254 1 x2 x3 y4 y5 y8 y9 (nc_mu (X 13 0) (X 14 0) + 1) (upf (upf X 19 (fun _ => 3)) 21 (fun _ => f_bitCount (fit &&& f_M_there X))) (fit &&& f_M_there X))
      rw [e13, e14, mu_nI (by omega) (by omega)]
      obtain ⟨i1, i2, i3⟩ := skip (upf (upf X 19 (fun _ => 3)) 21 (fun _ => f_bitCount (fit &&& f_M_there X))) (fit &&& f_M_there X) e24 e13 e14 (by show ¬ (3 : Int32) ≤ 0; decide)
      exact Or.inr (Or.inr (Or.inl ⟨Or.inr (Or.inl rfl), i1, i2.trans x20, GF_of (FR_9 S _), rfl⟩))
    · rw [if_neg c1, if_neg c1]
      show PRes N k S _ (f_M_partF_L254 1 x2 x3 y4 y5 y8 y9 (nc_mu (X 13 0) (X 14 0) + 1) (upf (upf X 19 (fun _ => 0)) 21 (fun _ => f_bitCount (fit &&& f_M_there X))) (fit &&& f_M_there X))
      rw [e13, e14, mu_nI (by omega) (by omega)]
      have hs : ∀ t, t < 32 → bt (fit &&& f_M_there X) t = true → t < N := fun t ht q => there_N hN en ht (and_sub2 q)
      generalize fit &&& f_M_there X = z at hs ⊢
      have hF := FR_9 S (fun _ => z)
      have hS0 : (upr S 0 (upf (S 0) 9 (fun _ => z))) 0 9 0 = z := rfl
      generalize upr S 0 (upf (S 0) 9 (fun _ => z)) = S1 at hF hS0 ⊢
      unfold gpA
      rw [eT S1 hF]
      have w := out S1 (upf (upf X 19 (fun _ => 0)) 21 (fun _ => f_bitCount z)) z hF h hl e24 e13 e14 rfl rfl hS0
      generalize f_NC_takeExceptsAway_L18 (nI k) (nI (d + m)) (m + 1) S1 (nI d) = T at w ⊢
      rcases w with ⟨w1, w2, w3, w4, w5⟩ | ⟨w1, w2, w3, X', w4, w5, w6, w7, w8, w9, w10⟩
      · rw [if_pos w1]
        exact Or.inr (Or.inr (Or.inr ⟨Or.inl rfl, w2, w3.trans x20, GF_of (FR_trans hF w5), (FR_trans hF w5).2 10 (by omega), w4⟩))
      · rw [if_neg (by rw [w1]; exact one0), w4]
        have hF2 := FR_trans hF w2
        have e21 : T.2 1 = S1 1 := w2.1 1 (by omega)
        exact PRes_FR hF2 (xit_res hN hk (S := T.2) (by rw [e21]; exact w9) (w10.trans en) rfl w5 (w6.trans x20) w8 (w7.trans x22) (fun t ht q => hs t ht (w3 t ht q)) (AKd_FR hF2 hA))
theorem sub_n40 : ∀ v, v < 61 → 40 < v → nI v - 40 = nI (v - 40) := by decide +kernel
theorem num_n {x : Int32} (h : okTok x) (h4 : 40 < x) : ∃ nn : Nat, 0 < nn ∧ nn ≤ 20 ∧ x - 40 = nI nn := by
  rw [Int32.lt_iff_toInt_lt] at h4
  have e40 : (40 : Int32).toInt = 40 := by decide
  rw [e40] at h4
  have h1 : 41 ≤ x.toInt ∧ x.toInt ≤ 60 := by
    rcases h with q | q
    · omega
    · exact q
  have e : x = nI x.toInt.toNat := nI_of0 (by omega)
  refine ⟨x.toInt.toNat - 40, by omega, by omega, ?_⟩
  have k := sub_n40 x.toInt.toNat (by omega) (by omega)
  rw [← k, ← e]
theorem part_res {f : Nat → Int32} {n N k a b : Nat} (hn : n ≤ 30) (hN : N ≤ 32) (hk : k < 30) {S : Nat → Nat → Nat → Int32} {X : Nat → Nat → Int32} (h : RT (S 1) X) (en : X 1 0 = nI N) (hP4 : (k : Int) < (S 2 4 0).toInt) (hok : ∀ j : Nat, okTok (f j)) (hl : S 4 2 0 = X 31 0) (e24 : X 24 = f) (e13 : X 13 0 = nI n) (e14 : X 14 0 = nI a) (ha : a ≤ n) {x2 x3 : Int32} (hL : S 0 6 k = if x3 = 0 then -1 else x2) (hp : PartAt f n (S 2) k a b) : PRes N k S (f_NC_goThroughPart S (nI k)) (f_M_partF X 1 x2 x3) := by
  obtain ⟨X', z4, z5, z6, eP, ⟨x19, x20, x22, fr⟩, hC⟩ := ptF_head hn (by omega) e13 e14 1 x2 x3
  have hp1 := prt_1 hk hP4
  have eA : f_Phrase_amountOf (S 2) (nI k) = S 2 0 k := by
    unfold f_Phrase_amountOf
    rw [hp1, if_neg one0, nI_clamp (by omega)]
  have eM : f_Phrase_mainOf (S 2) (nI k) = S 2 1 k := by
    unfold f_Phrase_mainOf
    rw [hp1, if_neg one0, nI_clamp (by omega)]
  rw [eP, gp_eq, eM]
  rw [e24] at hC
  have hX' : RT (S 1) X' := RT_fr h (fun j h1 h2 => fr j (by omega) (by omega) (by omega) (by omega))
  have f13 : X' 13 0 = nI n := by
    rw [fr 13 (by omega) (by omega) (by omega) (by omega)]
    exact e13
  have f24 : X' 24 = f := (fr 24 (by omega) (by omega) (by omega) (by omega)).trans e24
  have f1 : X' 1 0 = nI N := by
    rw [fr 1 (by omega) (by omega) (by omega) (by omega)]
    exact en
  have f31 : S 4 2 0 = X' 31 0 := by
    rw [fr 31 (by omega) (by omega) (by omega) (by omega)]
    exact hl
  have desc : ∀ q d' bq : Nat, q ≤ n → DescAt f n (S 2) d' q bq → X' 14 0 = nI q → z6 = 1 → S 2 1 k = nI d' →
      ∃ R, f_M_partF_J160 1 x2 x3 X' z4 z5 z6 = f_M_partF_J213 1 x2 x3 R z4 z5 (f_M_fitting R 3) (f_M_fitting R 2) (f_M_has (R 16 0) 1) ∧ (if S 2 1 k = (-1) then gpF S (nI k) (S 2 1 k) (f_Things_allSet (S 1)) else gpF S (nI k) (S 2 1 k) (f_NC_fittingSetP S (S 2 1 k) 3)) = gpF S (nI k) (nI d') (f_M_fitting R 3) ∧ RT (S 1) R ∧ R 1 0 = nI N ∧ R 24 = f ∧ R 13 0 = nI n ∧ R 14 0 = nI bq ∧ R 20 0 = 0 ∧ R 22 0 = 0 ∧ S 4 2 0 = R 31 0 ∧ ((f_Phrase_tells (S 2) (nI d') 31 = 0) ↔ f_M_has (R 16 0) 1 = 0) ∧ (∀ S', S' 1 = S 1 → S' 2 = S 2 → S' 4 = S 4 → f_NC_fittingSetP S' (nI d') 2 = f_M_fitting R 2) ∧ bq ≤ n := by
    intro q d' bq hq1 hD g14 hz6 hm
    have kk := rdF_all (a := q) hn (by omega) (X := X') f13 g14
    rw [f24] at kk
    have dY := des_y hD kk
    obtain ⟨k1, k2, k3, k4, k5, k6⟩ := kk
    have hw := hD.1
    have dl := dW_le (f := f) (n := n) (a := q) hq1
    rw [if_neg (by omega)] at k2
    have hR : RT (S 1) (f_M_readDescriptionF X') := RT_fr hX' (fun j h1 h2 => k6 j (by omega))
    have hlR : S 4 2 0 = (f_M_readDescriptionF X') 31 0 := by
      rw [k6 31 (by omega)]
      exact f31
    have dm : ¬ nI d' = -1 := nI_neg (by have := hD.2.2.1; omega) (by decide)
    refine ⟨f_M_readDescriptionF X', ?_, ?_, hR, ?_, (k6 24 (by omega)).trans f24, ?_, ?_, ?_, ?_, hlR, ?_, ?_, ?_⟩
    · unfold f_M_partF_J160
      rw [hz6, if_neg one0, if_pos k2]
    · rw [hm, if_neg dm, e_fitP hR dY hlR 3]
    · rw [k6 1 (by omega)]
      exact f1
    · rw [k6 13 (by omega)]
      exact f13
    · rw [k1, hD.2.1]
    · rw [k6 20 (by omega)]
      exact x20
    · rw [k6 22 (by omega)]
      exact x22
    · rw [tells_b (j := 1) dY.1 dY.2.1 (by omega) (by decide), dY.2.2.2.2.1]
      exact (m_h0 (t := 1) (by omega)).symm
    · intro S' s1 s2 s4
      exact e_fitP (S := S') (by rw [s1]; exact hR) (by rw [s2]; exact dY) (by rw [s4]; exact hlR) 2
    · rw [hD.2.1]
      exact dl
  obtain ⟨d, m, b1, p1, p2, p3⟩ := hp
  rcases p3 with ⟨t34, pa, nb35, ⟨pd, pd0, pm, ps2, pD, pE⟩ | ⟨pd, pm, ps2, pE⟩⟩ | ⟨t40, pa, pd0, pm0, pm, ps2, pD⟩ | ⟨nt34, nt40, pa, pd0, pm0, pm, ps2, pD⟩
  · have ha1 := tk_is t34 (by decide)
    have hqn := (hq_le (f := f) (n := n) (a := a + 1) ha1).2
    rcases hC with ⟨_, _, c4, c5, c6, c14⟩ | ⟨_, q, _⟩ | ⟨q, _⟩ | ⟨q, _⟩
    · obtain ⟨R, r1, r2, r3, r4, r5, r6, r7, r8, r9, r10, r11, r12, r13⟩ := desc _ _ _ hqn pD c14 c6 pm
      rw [r1, r2]
      exact j213_res hn hN hk r3 r4 hp1 p1 ps2 p2 (Or.inr ⟨by rw [c4]; exact one0, pE, nb35⟩) r13 r10 r5 r6 r7 r8 r9 (Or.inl ⟨c4, c5, eA.trans pa⟩) _
    · exact absurd pd q
    · exact absurd t34 q
    · exact absurd t34 q
  · have ha1 := tk_is t34 (by decide)
    rcases hC with ⟨_, q, _⟩ | ⟨_, _, c4, c5, c6, c14⟩ | ⟨q, _⟩ | ⟨q, _⟩
    · exact absurd q pd
    · rw [if_pos pm, c6]
      unfold f_M_partF_J160
      rw [if_pos rfl, e_all hX']
      exact j213_res hn hN hk hX' f1 hp1 p1 ps2 p2 (Or.inr ⟨by rw [c4]; exact one0, pE, nb35⟩) ha1 f31 f24 f13 c14 x20 x22 (Or.inl ⟨c4, c5, eA.trans pa⟩) _
    · exact absurd t34 q
    · exact absurd t34 q
  · have ha1 := tk_40 t40
    have hqn := (hq_le (f := f) (n := n) (a := a + 1) ha1).2
    rcases hC with ⟨q, _⟩ | ⟨q, _⟩ | ⟨_, _, c4, c5, c6, c14⟩ | ⟨_, q, _⟩
    · rw [q] at t40
      exact absurd t40 (by decide)
    · rw [q] at t40
      exact absurd t40 (by decide)
    · obtain ⟨R, r1, r2, r3, r4, r5, r6, r7, r8, r9, r10, r11, r12, r13⟩ := desc _ _ _ hqn pD c14 c6 pm
      have et := tk_in (f := f) ha1
      obtain ⟨nn, n1, n2, n3⟩ := num_n (hok a) (by rw [et] at t40; exact t40)
      rw [r1, r2]
      exact j213_res (c := 0) hn hN hk r3 r4 hp1 p1 ps2 p2 (Or.inl ⟨c4, pm0⟩) r13 r10 r5 r6 r7 r8 r9 (Or.inr (Or.inl ⟨nn, n1, n2, c4, by rw [c5, et]; exact n3, by rw [eA, pa, et]; exact n3⟩)) _
    · exact absurd t40 q
  · rcases hC with ⟨q, _⟩ | ⟨q, _⟩ | ⟨_, q, _⟩ | ⟨_, _, c4, c5, c6, c14⟩
    · exact absurd q nt34
    · exact absurd q nt34
    · exact absurd q nt40
    · obtain ⟨R, r1, r2, r3, r4, r5, r6, r7, r8, r9, r10, r11, r12, r13⟩ := desc _ _ _ ha pD c14 c6 pm
      rw [r1, r2]
      exact j213_res (c := 0) hn hN hk r3 r4 hp1 p1 ps2 p2 (Or.inl ⟨c4, pm0⟩) r13 r10 r5 r6 r7 r8 r9 (Or.inr (Or.inr ⟨c4, c5, eA.trans pa, hL, d - 1, rfl, r11, r12⟩)) _
theorem ex_of {f : Nat → Int32} {n : Nat} {P : Nat → Nat → Int32} {c : Nat} (hc : ¬ tk f n c = 35) : ∀ (m d b fu : Nat), ExcAt f n P m d b c → b ≤ n → n - b ≤ fu → ex f n (fu + 1) b = (c, true) := by
  intro m
  induction m with
  | zero =>
    intro d b fu hE hb hf
    have hbc : b = c := hE
    rw [hbc, ex_0 hc]
  | succ m ih =>
    intro d b fu hE hb hf
    obtain ⟨t35, b1, hD, hE'⟩ := hE
    have hl := tk_is t35 (by decide)
    have hw := hD.1
    have lt := dA_lt (f := f) (n := n) (a := b + 1) hl hw
    have dw := dW_le (f := f) (n := n) (a := b + 1) hl
    have hb1 := hD.2.1
    obtain ⟨fu', rfl⟩ : ∃ fu', fu = fu' + 1 := ⟨fu - 1, by omega⟩
    rw [ex_s t35 (by omega), ← hb1]
    exact ih (d + 1) b1 fu' hE' (by omega) (by omega)
theorem part_pr {f : Nat → Int32} {n k a b : Nat} {P : Nat → Nat → Int32} (ha : a ≤ n) (hp : PartAt f n P k a b) : pr f n a = (b, true) := by
  obtain ⟨d, m, b1, p1, p2, p3⟩ := hp
  unfold pr
  rcases p3 with ⟨t34, pa, nb35, ⟨pd, pd0, pm, ps2, pD, pE⟩ | ⟨pd, pm, ps2, pE⟩⟩ | ⟨t40, pa, pd0, pm0, pm, ps2, pD⟩ | ⟨nt34, nt40, pa, pd0, pm0, pm, ps2, pD⟩
  · have ha1 := tk_is t34 (by decide)
    have hqn := (hq_le (f := f) (n := n) (a := a + 1) ha1).2
    have hw := pD.1
    have dw := dW_le (f := f) (n := n) (a := hq f n (a + 1)) hqn
    have eb := pD.2.1
    unfold dscd at pd
    rw [if_pos t34, if_pos pd, if_neg (by omega), ← eb]
    exact ex_of nb35 m d b1 _ pE (by omega) (Nat.le_refl _)
  · have ha1 := tk_is t34 (by decide)
    unfold dscd at pd
    rw [if_pos t34, if_neg pd]
    exact ex_of nb35 m d (a + 1) _ pE ha1 (Nat.le_refl _)
  · have hw := pD.1
    have eb := pD.2.1
    rw [if_neg (fun q => by rw [q] at t40; exact absurd t40 (by decide)), if_pos t40, if_neg (by omega), eb]
  · have hw := pD.1
    have eb := pD.2.1
    rw [if_neg nt34, if_neg nt40, if_neg (by omega), eb]
