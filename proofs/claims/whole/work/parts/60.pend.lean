/-! ===== a part in the reference: where it ends ===== -/
theorem ex_0 {f : Nat → Int32} {n m b : Nat} (h : ¬ tk f n b = 35) : ex f n (m + 1) b = (b, true) := by
  rw [ex, if_neg h]
theorem ex_w {f : Nat → Int32} {n m b : Nat} (h : tk f n b = 35) (hw : dW f n (b + 1) = 0) : ex f n (m + 1) b = (dA f n (b + 1), false) := by
  rw [ex, if_pos h, if_pos hw]
theorem ex_s {f : Nat → Int32} {n m b : Nat} (h : tk f n b = 35) (hw : ¬ dW f n (b + 1) = 0) : ex f n (m + 1) b = ex f n m (dA f n (b + 1) + dW f n (b + 1)) := by
  rw [ex, if_pos h, if_neg hw]
theorem l254R {n : Nat} (hn : n ≤ 30) {x1 x2 x3 y4 y5 y8 y9 : Int32} (hy : ¬ y4 = 0) : ∀ (m b : Nat) (X : Nat → Nat → Int32) (z10 : Int32), n - b ≤ m → b ≤ n → X 13 0 = nI n → X 14 0 = nI b → X 15 0 = 0 →
    (f_M_partR_L254 x1 x2 x3 y4 y5 y8 y9 (m + 1) X z10) 14 0 = nI (ex (X 10) n (m + 1) b).1 ∧ (f_M_partR_L254 x1 x2 x3 y4 y5 y8 y9 (m + 1) X z10) 15 0 = (if (ex (X 10) n (m + 1) b).2 = true then 0 else 1) := by
  intro m
  induction m with
  | zero =>
    intro b X z10 hm hb e13 e14 e15
    have eh := hereR_tk hn (by omega) e13 e14
    have c : ¬ tk (X 10) n b = 35 := by
      rw [tk_out (by omega)]
      decide
    rw [f_M_partR_L254, if_neg hy, eh, if_neg c, ex_0 c, ptR_fx254 rfl rfl rfl rfl, ptR_fx254 rfl rfl rfl rfl]
    exact ⟨e14, e15⟩
  | succ m ih =>
    intro b X z10 hm hb e13 e14 e15
    have eh := hereR_tk hn (by omega) e13 e14
    by_cases c : tk (X 10) n b = 35
    · have hl : b < n := by
        rcases Nat.lt_or_ge b n with q | q
        · exact q
        · rw [tk_out (by omega)] at c
          exact absurd c (by decide)
      obtain ⟨k1, k2, k3, k4, k5, k6⟩ := rdR_all (a := b + 1) hn (by omega) (X := upf X 14 (fun _ => ((X 14 0) + 1))) e13 (by show X 14 0 + 1 = _; rw [e14, nI_1])
      have k1' : (f_M_readDescriptionR (upf X 14 (fun _ => ((X 14 0) + 1)))) 14 0 = nI (dA (X 10) n (b + 1) + dW (X 10) n (b + 1)) := k1
      have k2' : (f_M_readDescriptionR (upf X 14 (fun _ => ((X 14 0) + 1)))) 15 0 = (if dW (X 10) n (b + 1) = 0 then 1 else 0) := k2
      have kv : (f_M_readDescriptionR (upf X 14 (fun _ => ((X 14 0) + 1)))) 10 = X 10 := k6 10 (by omega)
      have k13 : (f_M_readDescriptionR (upf X 14 (fun _ => ((X 14 0) + 1)))) 13 0 = nI n := by
        rw [k6 13 (by omega)]
        exact e13
      have dw := dW_le (f := X 10) (n := n) (a := b + 1) hl
      have dl := dA_le (f := X 10) (n := n) (a := b + 1) hl
      rw [f_M_partR_L254, if_neg hy, eh, if_pos c]
      generalize f_M_readDescriptionR (upf X 14 (fun _ => ((X 14 0) + 1))) = Y at *
      by_cases cw : dW (X 10) n (b + 1) = 0
      · rw [if_pos cw] at k2'
        rw [if_neg (by rw [k2']; exact one0), ex_w c cw, k1', k2', cw]
        exact ⟨rfl, rfl⟩
      · rw [if_neg cw] at k2'
        have st : ∀ (g h : Nat → Int32) (z : Int32), (f_M_partR_L254 x1 x2 x3 y4 y5 y8 y9 (m + 1) (upf (upf Y 19 g) 21 h) z) 14 0 = nI (ex (X 10) n (m + 1) (dA (X 10) n (b + 1) + dW (X 10) n (b + 1))).1 ∧ (f_M_partR_L254 x1 x2 x3 y4 y5 y8 y9 (m + 1) (upf (upf Y 19 g) 21 h) z) 15 0 = (if (ex (X 10) n (m + 1) (dA (X 10) n (b + 1) + dW (X 10) n (b + 1))).2 = true then 0 else 1) := by
          intro g h z
          have w := ih (dA (X 10) n (b + 1) + dW (X 10) n (b + 1)) (upf (upf Y 19 g) 21 h) z (by omega) dw k13 k1' k2'
          have e : (upf (upf Y 19 g) 21 h) 10 = X 10 := kv
          rw [e] at w
          exact w
        have s2 : ∀ (z : Int32), (f_M_partR_L254 x1 x2 x3 y4 y5 y8 y9 (m + 1) Y z) 14 0 = nI (ex (X 10) n (m + 1) (dA (X 10) n (b + 1) + dW (X 10) n (b + 1))).1 ∧ (f_M_partR_L254 x1 x2 x3 y4 y5 y8 y9 (m + 1) Y z) 15 0 = (if (ex (X 10) n (m + 1) (dA (X 10) n (b + 1) + dW (X 10) n (b + 1))).2 = true then 0 else 1) := by
          intro z
          have w := ih (dA (X 10) n (b + 1) + dW (X 10) n (b + 1)) Y z (by omega) dw k13 k1' k2'
          rw [kv] at w
          exact w
        rw [if_pos k2', ex_s c cw]
        by_cases c19 : Y 19 0 = 0
        · rw [if_pos c19]
          by_cases cf : f_M_fitting Y 3 &&& z10 = 0
          · rw [if_pos cf]
            exact st _ _ _
          · rw [if_neg cf]
            exact st _ _ _
        · rw [if_neg c19]
          exact s2 _
    · rw [f_M_partR_L254, if_neg hy, eh, if_neg c, ex_0 c, ptR_fx254 rfl rfl rfl rfl, ptR_fx254 rfl rfl rfl rfl]
      exact ⟨e14, e15⟩
theorem l254F {n : Nat} (hn : n ≤ 30) {x1 x2 x3 y4 y5 y8 y9 : Int32} (hy : ¬ y4 = 0) : ∀ (m b : Nat) (X : Nat → Nat → Int32) (z10 : Int32), n - b ≤ m → b ≤ n → X 13 0 = nI n → X 14 0 = nI b → X 15 0 = 0 →
    (f_M_partF_L254 x1 x2 x3 y4 y5 y8 y9 (m + 1) X z10) 14 0 = nI (ex (X 24) n (m + 1) b).1 ∧ (f_M_partF_L254 x1 x2 x3 y4 y5 y8 y9 (m + 1) X z10) 15 0 = (if (ex (X 24) n (m + 1) b).2 = true then 0 else 1) := by
  intro m
  induction m with
  | zero =>
    intro b X z10 hm hb e13 e14 e15
    have eh := hereF_tk hn (by omega) e13 e14
    have c : ¬ tk (X 24) n b = 35 := by
      rw [tk_out (by omega)]
      decide
    rw [f_M_partF_L254, if_neg hy, eh, if_neg c, ex_0 c, ptF_fx254 rfl rfl rfl rfl, ptF_fx254 rfl rfl rfl rfl]
    exact ⟨e14, e15⟩
  | succ m ih =>
    intro b X z10 hm hb e13 e14 e15
    have eh := hereF_tk hn (by omega) e13 e14
    by_cases c : tk (X 24) n b = 35
    · have hl : b < n := by
        rcases Nat.lt_or_ge b n with q | q
        · exact q
        · rw [tk_out (by omega)] at c
          exact absurd c (by decide)
      obtain ⟨k1, k2, k3, k4, k5, k6⟩ := rdF_all (a := b + 1) hn (by omega) (X := upf X 14 (fun _ => ((X 14 0) + 1))) e13 (by show X 14 0 + 1 = _; rw [e14, nI_1])
      have k1' : (f_M_readDescriptionF (upf X 14 (fun _ => ((X 14 0) + 1)))) 14 0 = nI (dA (X 24) n (b + 1) + dW (X 24) n (b + 1)) := k1
      have k2' : (f_M_readDescriptionF (upf X 14 (fun _ => ((X 14 0) + 1)))) 15 0 = (if dW (X 24) n (b + 1) = 0 then 1 else 0) := k2
      have kv : (f_M_readDescriptionF (upf X 14 (fun _ => ((X 14 0) + 1)))) 24 = X 24 := k6 24 (by omega)
      have k13 : (f_M_readDescriptionF (upf X 14 (fun _ => ((X 14 0) + 1)))) 13 0 = nI n := by
        rw [k6 13 (by omega)]
        exact e13
      have dw := dW_le (f := X 24) (n := n) (a := b + 1) hl
      have dl := dA_le (f := X 24) (n := n) (a := b + 1) hl
      rw [f_M_partF_L254, if_neg hy, eh, if_pos c]
      generalize f_M_readDescriptionF (upf X 14 (fun _ => ((X 14 0) + 1))) = Y at *
      by_cases cw : dW (X 24) n (b + 1) = 0
      · rw [if_pos cw] at k2'
        rw [if_neg (by rw [k2']; exact one0), ex_w c cw, k1', k2', cw]
        exact ⟨rfl, rfl⟩
      · rw [if_neg cw] at k2'
        have st : ∀ (g h : Nat → Int32) (z : Int32), (f_M_partF_L254 x1 x2 x3 y4 y5 y8 y9 (m + 1) (upf (upf Y 19 g) 21 h) z) 14 0 = nI (ex (X 24) n (m + 1) (dA (X 24) n (b + 1) + dW (X 24) n (b + 1))).1 ∧ (f_M_partF_L254 x1 x2 x3 y4 y5 y8 y9 (m + 1) (upf (upf Y 19 g) 21 h) z) 15 0 = (if (ex (X 24) n (m + 1) (dA (X 24) n (b + 1) + dW (X 24) n (b + 1))).2 = true then 0 else 1) := by
          intro g h z
          have w := ih (dA (X 24) n (b + 1) + dW (X 24) n (b + 1)) (upf (upf Y 19 g) 21 h) z (by omega) dw k13 k1' k2'
          have e : (upf (upf Y 19 g) 21 h) 24 = X 24 := kv
          rw [e] at w
          exact w
        have s2 : ∀ (z : Int32), (f_M_partF_L254 x1 x2 x3 y4 y5 y8 y9 (m + 1) Y z) 14 0 = nI (ex (X 24) n (m + 1) (dA (X 24) n (b + 1) + dW (X 24) n (b + 1))).1 ∧ (f_M_partF_L254 x1 x2 x3 y4 y5 y8 y9 (m + 1) Y z) 15 0 = (if (ex (X 24) n (m + 1) (dA (X 24) n (b + 1) + dW (X 24) n (b + 1))).2 = true then 0 else 1) := by
          intro z
          have w := ih (dA (X 24) n (b + 1) + dW (X 24) n (b + 1)) Y z (by omega) dw k13 k1' k2'
          rw [kv] at w
          exact w
        rw [if_pos k2', ex_s c cw]
        by_cases c19 : Y 19 0 = 0
        · rw [if_pos c19]
          by_cases cf : f_M_fitting Y 3 &&& z10 = 0
          · rw [if_pos cf]
            exact st _ _ _
          · rw [if_neg cf]
            exact st _ _ _
        · rw [if_neg c19]
          exact s2 _
    · rw [f_M_partF_L254, if_neg hy, eh, if_neg c, ex_0 c, ptF_fx254 rfl rfl rfl rfl, ptF_fx254 rfl rfl rfl rfl]
      exact ⟨e14, e15⟩
