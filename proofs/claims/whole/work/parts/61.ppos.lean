/-! ===== a part in the reference: place and wrong ===== -/
theorem j213R {n b : Nat} (hn : n ≤ 30) (hb : b ≤ n) {X : Nat → Nat → Int32} {x1 x2 x3 z4 z5 z7 z8 z9 : Int32} (hy : ¬ z4 = 0) (e13 : X 13 0 = nI n) (e14 : X 14 0 = nI b) (e15 : X 15 0 = 0) :
    (f_M_partR_J213 x1 x2 x3 X z4 z5 z7 z8 z9) 14 0 = nI (ex (X 10) n (n - b + 1) b).1 ∧ (f_M_partR_J213 x1 x2 x3 X z4 z5 z7 z8 z9) 15 0 = (if (ex (X 10) n (n - b + 1) b).2 = true then 0 else 1) := by
  have st : ∀ (g h : Nat → Int32) (z : Int32), (f_M_partR_J254 x1 x2 x3 (upf (upf X 19 g) 21 h) z4 z5 z8 z9 z) 14 0 = nI (ex (X 10) n (n - b + 1) b).1 ∧ (f_M_partR_J254 x1 x2 x3 (upf (upf X 19 g) 21 h) z4 z5 z8 z9 z) 15 0 = (if (ex (X 10) n (n - b + 1) b).2 = true then 0 else 1) := by
    intro g h z
    have w := l254R (x1 := x1) (x2 := x2) (x3 := x3) (y5 := z5) (y8 := z8) (y9 := z9) hn hy (n - b) b (upf (upf X 19 g) 21 h) z (Nat.le_refl _) hb e13 e14 e15
    have e : nc_mu ((upf (upf X 19 g) 21 h) 13 0) ((upf (upf X 19 g) 21 h) 14 0) + 1 = n - b + 1 := by
      show nc_mu (X 13 0) (X 14 0) + 1 = _
      rw [e13, e14, mu_nI (by omega) (by omega)]
    unfold f_M_partR_J254
    rw [e]
    exact w
  unfold f_M_partR_J213
  by_cases c : z7 = 0
  · rw [if_pos c]
    exact st _ _ _
  · rw [if_neg c]
    by_cases c2 : z7 &&& f_M_there X = 0
    · rw [if_pos c2]
      exact st _ _ _
    · rw [if_neg c2]
      exact st _ _ _
theorem j213R_0 {X : Nat → Nat → Int32} {x1 x2 x3 z4 z5 z7 z8 z9 : Int32} (hy : z4 = 0) :
    (f_M_partR_J213 x1 x2 x3 X z4 z5 z7 z8 z9) 14 0 = X 14 0 ∧ (f_M_partR_J213 x1 x2 x3 X z4 z5 z7 z8 z9) 15 0 = X 15 0 := by
  have st : ∀ (g h : Nat → Int32) (z : Int32), (f_M_partR_J254 x1 x2 x3 (upf (upf X 19 g) 21 h) z4 z5 z8 z9 z) 14 0 = X 14 0 ∧ (f_M_partR_J254 x1 x2 x3 (upf (upf X 19 g) 21 h) z4 z5 z8 z9 z) 15 0 = X 15 0 := by
    intro g h z
    unfold f_M_partR_J254
    rw [f_M_partR_L254, if_pos hy, ptR_fx254 rfl rfl rfl rfl, ptR_fx254 rfl rfl rfl rfl]
    exact ⟨rfl, rfl⟩
  unfold f_M_partR_J213
  by_cases c : z7 = 0
  · rw [if_pos c]
    exact st _ _ _
  · rw [if_neg c]
    by_cases c2 : z7 &&& f_M_there X = 0
    · rw [if_pos c2]
      exact st _ _ _
    · rw [if_neg c2]
      exact st _ _ _
theorem ptR_pos {n a : Nat} (hn : n ≤ 30) (ha : a ≤ n) {X : Nat → Nat → Int32} (e13 : X 13 0 = nI n) (e14 : X 14 0 = nI a) (e15 : X 15 0 = 0) (x1 x2 x3 : Int32) :
    (f_M_partR X x1 x2 x3) 14 0 = nI (pr (X 10) n a).1 ∧ (f_M_partR X x1 x2 x3) 15 0 = (if (pr (X 10) n a).2 = true then 0 else 1) := by
  obtain ⟨X', z4, z5, z6, h1, ⟨f1, f2, f3, f4⟩, hc⟩ := ptR_head hn (by omega) e13 e14 x1 x2 x3
  have e13' : X' 13 0 = nI n := by rw [f4 13 (by omega) (by omega) (by omega) (by omega)]; exact e13
  have e15' : X' 15 0 = 0 := by rw [f4 15 (by omega) (by omega) (by omega) (by omega)]; exact e15
  have ev' : X' 10 = X 10 := f4 10 (by omega) (by omega) (by omega) (by omega)
  rw [h1]
  unfold f_M_partR_J160
  have dsc : ∀ q, q ≤ n → X' 14 0 = nI q → (dW (X 10) n q = 0 → ¬ (f_M_readDescriptionR X') 15 0 = 0 ∧ (f_M_readDescriptionR X') 15 0 = 1 ∧ (f_M_readDescriptionR X') 14 0 = nI (dA (X 10) n q)) ∧ (¬ dW (X 10) n q = 0 → (f_M_readDescriptionR X') 15 0 = 0 ∧ (f_M_readDescriptionR X') 14 0 = nI (dA (X 10) n q + dW (X 10) n q) ∧ (f_M_readDescriptionR X') 13 0 = nI n ∧ (f_M_readDescriptionR X') 10 = X 10) := by
    intro q hq eq
    obtain ⟨k1, k2, k3, k4, k5, k6⟩ := rdR_all (a := q) hn (by omega) e13' eq
    rw [ev'] at k1 k2
    refine ⟨fun w => ?_, fun w => ?_⟩
    · rw [if_pos w] at k2
      rw [w] at k1
      exact ⟨by rw [k2]; exact one0, k2, k1⟩
    · rw [if_neg w] at k2
      exact ⟨k2, k1, by rw [k6 13 (by omega)]; exact e13', by rw [k6 10 (by omega)]; exact ev'⟩
  rcases hc with ⟨c1, c2, rfl, rfl, rfl, c6⟩ | ⟨c1, c2, rfl, rfl, rfl, c6⟩ | ⟨c1, c2, rfl, rfl, rfl, c6⟩ | ⟨c1, c2, rfl, rfl, rfl, c6⟩
  · have hl : a < n := by
      rcases Nat.lt_or_ge a n with q | q
      · exact q
      · rw [tk_out (by omega)] at c1
        exact absurd c1 (by decide)
    have hq1 := hq_le (f := X 10) (n := n) (a := a + 1) hl
    obtain ⟨d0, d1⟩ := dsc _ hq1.2 c6
    have e : pr (X 10) n a = (if dW (X 10) n (hq (X 10) n (a + 1)) = 0 then (dA (X 10) n (hq (X 10) n (a + 1)), false) else ex (X 10) n (n - (dA (X 10) n (hq (X 10) n (a + 1)) + dW (X 10) n (hq (X 10) n (a + 1))) + 1) (dA (X 10) n (hq (X 10) n (a + 1)) + dW (X 10) n (hq (X 10) n (a + 1)))) := by
      unfold pr
      rw [if_pos c1]
      exact if_pos c2
    rw [e, if_neg one0]
    by_cases cw : dW (X 10) n (hq (X 10) n (a + 1)) = 0
    · obtain ⟨w1, w2, w3⟩ := d0 cw
      rw [if_pos cw, if_neg w1]
      exact ⟨w3, w2⟩
    · obtain ⟨w1, w2, w3, w4⟩ := d1 cw
      have k := j213R (x1 := x1) (x2 := x2) (x3 := x3) (z5 := 0) (z7 := f_M_fitting (f_M_readDescriptionR X') 3) (z8 := f_M_fitting (f_M_readDescriptionR X') 2) (z9 := f_M_has ((f_M_readDescriptionR X') 16 0) 1) hn (dW_le hq1.2) one0 w3 w2 w1
      rw [w4] at k
      rw [if_neg cw, if_pos w1]
      exact k
  · have hl : a < n := by
      rcases Nat.lt_or_ge a n with q | q
      · exact q
      · rw [tk_out (by omega)] at c1
        exact absurd c1 (by decide)
    have e : pr (X 10) n a = ex (X 10) n (n - (a + 1) + 1) (a + 1) := by
      unfold pr
      rw [if_pos c1]
      exact if_neg c2
    have k := j213R (x1 := x1) (x2 := x2) (x3 := x3) (z5 := 0) (z7 := f_M_everything X') (z8 := 0) (z9 := 0) hn hl one0 e13' c6 e15'
    rw [ev'] at k
    rw [e, if_pos rfl]
    exact k
  · have hl : a < n := by
      rcases Nat.lt_or_ge a n with q | q
      · exact q
      · rw [tk_out (by omega)] at c2
        exact absurd c2 (by decide)
    have hq1 := hq_le (f := X 10) (n := n) (a := a + 1) hl
    obtain ⟨d0, d1⟩ := dsc _ hq1.2 c6
    have e : pr (X 10) n a = (if dW (X 10) n (hq (X 10) n (a + 1)) = 0 then (dA (X 10) n (hq (X 10) n (a + 1)), false) else (dA (X 10) n (hq (X 10) n (a + 1)) + dW (X 10) n (hq (X 10) n (a + 1)), true)) := by
      unfold pr
      rw [if_neg c1, if_pos c2]
    rw [e, if_neg one0]
    by_cases cw : dW (X 10) n (hq (X 10) n (a + 1)) = 0
    · obtain ⟨w1, w2, w3⟩ := d0 cw
      rw [if_pos cw, if_neg w1]
      exact ⟨w3, w2⟩
    · obtain ⟨w1, w2, w3, w4⟩ := d1 cw
      have k := j213R_0 (x1 := x1) (x2 := x2) (x3 := x3) (z4 := 0) (z5 := tk (X 10) n a - 40) (z7 := f_M_fitting (f_M_readDescriptionR X') 3) (z8 := f_M_fitting (f_M_readDescriptionR X') 2) (z9 := f_M_has ((f_M_readDescriptionR X') 16 0) 1) (X := f_M_readDescriptionR X') rfl
      rw [if_neg cw, if_pos w1]
      exact ⟨k.1.trans w2, k.2.trans w1⟩
  · obtain ⟨d0, d1⟩ := dsc a ha c6
    have e : pr (X 10) n a = (if dW (X 10) n a = 0 then (dA (X 10) n a, false) else (dA (X 10) n a + dW (X 10) n a, true)) := by
      unfold pr
      rw [if_neg c1, if_neg c2]
    rw [e, if_neg one0]
    by_cases cw : dW (X 10) n a = 0
    · obtain ⟨w1, w2, w3⟩ := d0 cw
      rw [if_pos cw, if_neg w1]
      exact ⟨w3, w2⟩
    · obtain ⟨w1, w2, w3, w4⟩ := d1 cw
      have k := j213R_0 (x1 := x1) (x2 := x2) (x3 := x3) (z4 := 0) (z5 := 0) (z7 := f_M_fitting (f_M_readDescriptionR X') 3) (z8 := f_M_fitting (f_M_readDescriptionR X') 2) (z9 := f_M_has ((f_M_readDescriptionR X') 16 0) 1) (X := f_M_readDescriptionR X') rfl
      rw [if_neg cw, if_pos w1]
      exact ⟨k.1.trans w2, k.2.trans w1⟩
theorem j213F {n b : Nat} (hn : n ≤ 30) (hb : b ≤ n) {X : Nat → Nat → Int32} {x1 x2 x3 z4 z5 z7 z8 z9 : Int32} (hy : ¬ z4 = 0) (e13 : X 13 0 = nI n) (e14 : X 14 0 = nI b) (e15 : X 15 0 = 0) :
    (f_M_partF_J213 x1 x2 x3 X z4 z5 z7 z8 z9) 14 0 = nI (ex (X 24) n (n - b + 1) b).1 ∧ (f_M_partF_J213 x1 x2 x3 X z4 z5 z7 z8 z9) 15 0 = (if (ex (X 24) n (n - b + 1) b).2 = true then 0 else 1) := by
  have st : ∀ (g h : Nat → Int32) (z : Int32), (f_M_partF_J254 x1 x2 x3 (upf (upf X 19 g) 21 h) z4 z5 z8 z9 z) 14 0 = nI (ex (X 24) n (n - b + 1) b).1 ∧ (f_M_partF_J254 x1 x2 x3 (upf (upf X 19 g) 21 h) z4 z5 z8 z9 z) 15 0 = (if (ex (X 24) n (n - b + 1) b).2 = true then 0 else 1) := by
    intro g h z
    have w := l254F (x1 := x1) (x2 := x2) (x3 := x3) (y5 := z5) (y8 := z8) (y9 := z9) hn hy (n - b) b (upf (upf X 19 g) 21 h) z (Nat.le_refl _) hb e13 e14 e15
    have e : nc_mu ((upf (upf X 19 g) 21 h) 13 0) ((upf (upf X 19 g) 21 h) 14 0) + 1 = n - b + 1 := by
      show nc_mu (X 13 0) (X 14 0) + 1 = _
      rw [e13, e14, mu_nI (by omega) (by omega)]
    unfold f_M_partF_J254
    rw [e]
    exact w
  unfold f_M_partF_J213
  by_cases c : z7 = 0
  · rw [if_pos c]
    exact st _ _ _
  · rw [if_neg c]
    by_cases c2 : z7 &&& f_M_there X = 0
    · rw [if_pos c2]
      exact st _ _ _
    · rw [if_neg c2]
      exact st _ _ _
theorem j213F_0 {X : Nat → Nat → Int32} {x1 x2 x3 z4 z5 z7 z8 z9 : Int32} (hy : z4 = 0) :
    (f_M_partF_J213 x1 x2 x3 X z4 z5 z7 z8 z9) 14 0 = X 14 0 ∧ (f_M_partF_J213 x1 x2 x3 X z4 z5 z7 z8 z9) 15 0 = X 15 0 := by
  have st : ∀ (g h : Nat → Int32) (z : Int32), (f_M_partF_J254 x1 x2 x3 (upf (upf X 19 g) 21 h) z4 z5 z8 z9 z) 14 0 = X 14 0 ∧ (f_M_partF_J254 x1 x2 x3 (upf (upf X 19 g) 21 h) z4 z5 z8 z9 z) 15 0 = X 15 0 := by
    intro g h z
    unfold f_M_partF_J254
    rw [f_M_partF_L254, if_pos hy, ptF_fx254 rfl rfl rfl rfl, ptF_fx254 rfl rfl rfl rfl]
    exact ⟨rfl, rfl⟩
  unfold f_M_partF_J213
  by_cases c : z7 = 0
  · rw [if_pos c]
    exact st _ _ _
  · rw [if_neg c]
    by_cases c2 : z7 &&& f_M_there X = 0
    · rw [if_pos c2]
      exact st _ _ _
    · rw [if_neg c2]
      exact st _ _ _
theorem ptF_pos {n a : Nat} (hn : n ≤ 30) (ha : a ≤ n) {X : Nat → Nat → Int32} (e13 : X 13 0 = nI n) (e14 : X 14 0 = nI a) (e15 : X 15 0 = 0) (x1 x2 x3 : Int32) :
    (f_M_partF X x1 x2 x3) 14 0 = nI (pr (X 24) n a).1 ∧ (f_M_partF X x1 x2 x3) 15 0 = (if (pr (X 24) n a).2 = true then 0 else 1) := by
  obtain ⟨X', z4, z5, z6, h1, ⟨f1, f2, f3, f4⟩, hc⟩ := ptF_head hn (by omega) e13 e14 x1 x2 x3
  have e13' : X' 13 0 = nI n := by rw [f4 13 (by omega) (by omega) (by omega) (by omega)]; exact e13
  have e15' : X' 15 0 = 0 := by rw [f4 15 (by omega) (by omega) (by omega) (by omega)]; exact e15
  have ev' : X' 24 = X 24 := f4 24 (by omega) (by omega) (by omega) (by omega)
  rw [h1]
  unfold f_M_partF_J160
  have dsc : ∀ q, q ≤ n → X' 14 0 = nI q → (dW (X 24) n q = 0 → ¬ (f_M_readDescriptionF X') 15 0 = 0 ∧ (f_M_readDescriptionF X') 15 0 = 1 ∧ (f_M_readDescriptionF X') 14 0 = nI (dA (X 24) n q)) ∧ (¬ dW (X 24) n q = 0 → (f_M_readDescriptionF X') 15 0 = 0 ∧ (f_M_readDescriptionF X') 14 0 = nI (dA (X 24) n q + dW (X 24) n q) ∧ (f_M_readDescriptionF X') 13 0 = nI n ∧ (f_M_readDescriptionF X') 24 = X 24) := by
    intro q hq eq
    obtain ⟨k1, k2, k3, k4, k5, k6⟩ := rdF_all (a := q) hn (by omega) e13' eq
    rw [ev'] at k1 k2
    refine ⟨fun w => ?_, fun w => ?_⟩
    · rw [if_pos w] at k2
      rw [w] at k1
      exact ⟨by rw [k2]; exact one0, k2, k1⟩
    · rw [if_neg w] at k2
      exact ⟨k2, k1, by rw [k6 13 (by omega)]; exact e13', by rw [k6 24 (by omega)]; exact ev'⟩
  rcases hc with ⟨c1, c2, rfl, rfl, rfl, c6⟩ | ⟨c1, c2, rfl, rfl, rfl, c6⟩ | ⟨c1, c2, rfl, rfl, rfl, c6⟩ | ⟨c1, c2, rfl, rfl, rfl, c6⟩
  · have hl : a < n := by
      rcases Nat.lt_or_ge a n with q | q
      · exact q
      · rw [tk_out (by omega)] at c1
        exact absurd c1 (by decide)
    have hq1 := hq_le (f := X 24) (n := n) (a := a + 1) hl
    obtain ⟨d0, d1⟩ := dsc _ hq1.2 c6
    have e : pr (X 24) n a = (if dW (X 24) n (hq (X 24) n (a + 1)) = 0 then (dA (X 24) n (hq (X 24) n (a + 1)), false) else ex (X 24) n (n - (dA (X 24) n (hq (X 24) n (a + 1)) + dW (X 24) n (hq (X 24) n (a + 1))) + 1) (dA (X 24) n (hq (X 24) n (a + 1)) + dW (X 24) n (hq (X 24) n (a + 1)))) := by
      unfold pr
      rw [if_pos c1]
      exact if_pos c2
    rw [e, if_neg one0]
    by_cases cw : dW (X 24) n (hq (X 24) n (a + 1)) = 0
    · obtain ⟨w1, w2, w3⟩ := d0 cw
      rw [if_pos cw, if_neg w1]
      exact ⟨w3, w2⟩
    · obtain ⟨w1, w2, w3, w4⟩ := d1 cw
      have k := j213F (x1 := x1) (x2 := x2) (x3 := x3) (z5 := 0) (z7 := f_M_fitting (f_M_readDescriptionF X') 3) (z8 := f_M_fitting (f_M_readDescriptionF X') 2) (z9 := f_M_has ((f_M_readDescriptionF X') 16 0) 1) hn (dW_le hq1.2) one0 w3 w2 w1
      rw [w4] at k
      rw [if_neg cw, if_pos w1]
      exact k
  · have hl : a < n := by
      rcases Nat.lt_or_ge a n with q | q
      · exact q
      · rw [tk_out (by omega)] at c1
        exact absurd c1 (by decide)
    have e : pr (X 24) n a = ex (X 24) n (n - (a + 1) + 1) (a + 1) := by
      unfold pr
      rw [if_pos c1]
      exact if_neg c2
    have k := j213F (x1 := x1) (x2 := x2) (x3 := x3) (z5 := 0) (z7 := f_M_everything X') (z8 := 0) (z9 := 0) hn hl one0 e13' c6 e15'
    rw [ev'] at k
    rw [e, if_pos rfl]
    exact k
  · have hl : a < n := by
      rcases Nat.lt_or_ge a n with q | q
      · exact q
      · rw [tk_out (by omega)] at c2
        exact absurd c2 (by decide)
    have hq1 := hq_le (f := X 24) (n := n) (a := a + 1) hl
    obtain ⟨d0, d1⟩ := dsc _ hq1.2 c6
    have e : pr (X 24) n a = (if dW (X 24) n (hq (X 24) n (a + 1)) = 0 then (dA (X 24) n (hq (X 24) n (a + 1)), false) else (dA (X 24) n (hq (X 24) n (a + 1)) + dW (X 24) n (hq (X 24) n (a + 1)), true)) := by
      unfold pr
      rw [if_neg c1, if_pos c2]
    rw [e, if_neg one0]
    by_cases cw : dW (X 24) n (hq (X 24) n (a + 1)) = 0
    · obtain ⟨w1, w2, w3⟩ := d0 cw
      rw [if_pos cw, if_neg w1]
      exact ⟨w3, w2⟩
    · obtain ⟨w1, w2, w3, w4⟩ := d1 cw
      have k := j213F_0 (x1 := x1) (x2 := x2) (x3 := x3) (z4 := 0) (z5 := tk (X 24) n a - 40) (z7 := f_M_fitting (f_M_readDescriptionF X') 3) (z8 := f_M_fitting (f_M_readDescriptionF X') 2) (z9 := f_M_has ((f_M_readDescriptionF X') 16 0) 1) (X := f_M_readDescriptionF X') rfl
      rw [if_neg cw, if_pos w1]
      exact ⟨k.1.trans w2, k.2.trans w1⟩
  · obtain ⟨d0, d1⟩ := dsc a ha c6
    have e : pr (X 24) n a = (if dW (X 24) n a = 0 then (dA (X 24) n a, false) else (dA (X 24) n a + dW (X 24) n a, true)) := by
      unfold pr
      rw [if_neg c1, if_neg c2]
    rw [e, if_neg one0]
    by_cases cw : dW (X 24) n a = 0
    · obtain ⟨w1, w2, w3⟩ := d0 cw
      rw [if_pos cw, if_neg w1]
      exact ⟨w3, w2⟩
    · obtain ⟨w1, w2, w3, w4⟩ := d1 cw
      have k := j213F_0 (x1 := x1) (x2 := x2) (x3 := x3) (z4 := 0) (z5 := 0) (z7 := f_M_fitting (f_M_readDescriptionF X') 3) (z8 := f_M_fitting (f_M_readDescriptionF X') 2) (z9 := f_M_has ((f_M_readDescriptionF X') 16 0) 1) (X := f_M_readDescriptionF X') rfl
      rw [if_neg cw, if_pos w1]
      exact ⟨k.1.trans w2, k.2.trans w1⟩
