/-! ===== a PART, as the component reads it ===== -/
def pr (f : Nat → Int32) (n a : Nat) : Nat × Bool :=
  if tk f n a = 34 then
    (if tk f n (a + 1) = 37 ∨ (a + 1 < n ∧ ¬ tk f n (a + 1) = 35 ∧ ¬ tk f n (a + 1) = 36) then
      (if dW f n (hq f n (a + 1)) = 0 then (dA f n (hq f n (a + 1)), false) else ex f n (n - (dA f n (hq f n (a + 1)) + dW f n (hq f n (a + 1))) + 1) (dA f n (hq f n (a + 1)) + dW f n (hq f n (a + 1))))
     else ex f n (n - (a + 1) + 1) (a + 1))
  else if 40 < tk f n a then (if dW f n (hq f n (a + 1)) = 0 then (dA f n (hq f n (a + 1)), false) else (dA f n (hq f n (a + 1)) + dW f n (hq f n (a + 1)), true))
  else (if dW f n a = 0 then (dA f n a, false) else (dA f n a + dW f n a, true))
theorem dA0 {f : Nat → Int32} {n a : Nat} (h : f_M_in (tk f n a) 30 33 = 0) : dA f n a = a := by
  unfold dA
  rw [ar, if_pos h]
theorem dW0 {f : Nat → Int32} {n a : Nat} (h : f_M_in (tk f n a) 30 33 = 0) (h2 : f_M_in (tk f n a) 0 29 = 0) : dW f n a = 0 := by
  unfold dW
  rw [dA0 h]
  exact wd_pos.mpr h2
theorem hq_le {f : Nat → Int32} {n a : Nat} (h : a ≤ n) : a ≤ hq f n a ∧ hq f n a ≤ n := by
  unfold hq
  by_cases c : tk f n a = 37
  · have hl : a < n := by
      rcases Nat.lt_or_ge a n with q | q
      · exact q
      · rw [tk_out (by omega)] at c
        exact absurd c (by decide)
    rw [if_pos c]
    omega
  · rw [if_neg c]
    omega
theorem dA_lt {f : Nat → Int32} {n a : Nat} (h : a ≤ n) (hw : 0 < dW f n a) : a < dA f n a + dW f n a := by
  have := dA_le (f := f) h
  omega
theorem num_40 {x : Int32} (h : okTok x) : (40 < x) ↔ ¬ f_M_in x 41 60 = 0 := by
  have e40 : (40 : Int32).toInt = 40 := by decide
  have e41 : (41 : Int32).toInt = 41 := by decide
  have e60 : (60 : Int32).toInt = 60 := by decide
  rw [Int32.lt_iff_toInt_lt]
  constructor
  · intro q
    rw [in_1 (by rcases h with h | h <;> omega)]
    exact one0
  · intro q
    have := in_of q
    omega
theorem exc_ge {f : Nat → Int32} {n : Nat} {R : Nat → Nat → Int32} : ∀ (m d b c : Nat), ExcAt f n R m d b c → b ≤ n → b ≤ c := by
  intro m
  induction m with
  | zero => intro d b c h _; exact Nat.le_of_eq h
  | succ m ih =>
    intro d b c h hb
    obtain ⟨h1, b1, h2, h3⟩ := h
    have hl2 : b < n := by
      rcases Nat.lt_or_ge b n with w | w
      · exact w
      · rw [tk_out (by omega)] at h1
        exact absurd h1 (by decide)
    have q1 := dA_le (f := f) (n := n) (a := b + 1) hl2
    have q2 := dW_le (f := f) (n := n) (a := b + 1) hl2
    have e2 := h2.2.1
    have q3 := ih (d + 1) b1 c h3 (by omega)
    omega
/-- what is known once a part has been read -/
def PDone (f : Nat → Int32) (n : Nat) (P : Nat → Nat → Int32) (k d a b : Nat) : Prop :=
  ∃ Q, RL f n P a = RL f n Q b ∧ b ≤ n ∧ a < b ∧ PartAt f n Q k a b ∧ Q 4 0 = nI (k + 1) ∧ (∃ d', Q 8 0 = nI d' ∧ d' ≤ b ∧ d ≤ d') ∧ Kp P Q k d ∧ Stop f n Q b
theorem rl_part {f : Nat → Int32} {n k d a : Nat} (hn : n ≤ 30) (hok : ∀ j : Nat, okTok (f j)) (ha : a ≤ n) (hka : k ≤ a) (hda : d ≤ a) {P : Nat → Nat → Int32} (h9 : P 9 0 = 0) (h4 : P 4 0 = nI k) (h8 : P 8 0 = nI d) :
    ((pr f n a).2 = false → (RL f n P a).1 = nI (pr f n a).1) ∧ ((pr f n a).2 = true → PDone f n P k d a (pr f n a).1) := by
  have bad : ¬ tk f n a = 34 → ¬ (40 : Int32) < tk f n a → f_M_in (tk f n a) 30 33 = 0 → f_M_in (tk f n a) 0 29 = 0 → (RL f n P a).1 = nI a → ((pr f n a).2 = false → (RL f n P a).1 = nI (pr f n a).1) ∧ ((pr f n a).2 = true → PDone f n P k d a (pr f n a).1) := by
    intro b1 b2 b3 b4 b5
    have e : pr f n a = (a, false) := by
      unfold pr
      rw [if_neg b1, if_neg b2, if_pos (dW0 b3 b4), dA0 b3]
    rw [e]
    exact ⟨fun _ => b5, fun q => absurd (show false = true from q) (by decide)⟩
  rcases Nat.lt_or_ge a n with hl | hl
  · have hk : k < 30 := by omega
    have hd : d < 30 := by omega
    have et := tk_in (f := f) hl
    rcases Classical.em (f a = 36 ∨ f a = 35) with hx | hx
    · refine bad ?_ ?_ ?_ ?_ (fail_at hn ha (fun _ => take_no (end_3 (Or.inr (Or.inl h9))) hx) (fun q => absurd q (by omega)))
      · rw [et]
        rcases hx with hx | hx <;> rw [hx] <;> decide
      · rw [et]
        rcases hx with hx | hx <;> rw [hx] <;> decide
      · rw [et]
        rcases hx with hx | hx <;> rw [hx] <;> decide
      · rw [et]
        rcases hx with hx | hx <;> rw [hx] <;> decide
    · have n36 : ¬ f a = 36 := fun q => hx (Or.inl q)
      have n35 : ¬ f a = 35 := fun q => hx (Or.inr q)
      by_cases c34 : f a = 34
      · obtain ⟨Q, g1, g2, g3, g4, g5, g6, g7, g8, _⟩ := at_amount hn hk h9 h4 h8 hl (Or.inl c34)
        obtain ⟨g9, g10⟩ := g8 c34
        rw [g1]
        unfold pr
        rw [if_pos (show tk f n a = 34 by rw [et]; exact c34)]
        by_cases cd : tk f n (a + 1) = 37 ∨ (a + 1 < n ∧ ¬ tk f n (a + 1) = 35 ∧ ¬ tk f n (a + 1) = 36)
        · have hl1 : a + 1 < n := by
            rcases cd with q | q
            · rcases Nat.lt_or_ge (a + 1) n with w | w
              · exact w
              · rw [tk_out (by omega)] at q
                exact absurd q (by decide)
            · exact q.1
          have et1 := tk_in (f := f) hl1
          have m36 : ¬ f (a + 1) = 36 := fun q => by
            rw [et1, q] at cd
            rcases cd with w | w
            · exact absurd w (by decide)
            · exact w.2.2 rfl
          have m35 : ¬ f (a + 1) = 35 := fun q => by
            rw [et1, q] at cd
            rcases cd with w | w
            · exact absurd w (by decide)
            · exact w.2.1 rfl
          obtain ⟨m1, m2, m3, m4, m5, m6, m7⟩ := open_M hk hd g2 g3
          have hq1 := hq_le (f := f) (n := n) (a := a + 1) (by omega)
          rw [if_pos cd, om_step hn hk hd (Or.inl g10) g2 g3 hl1 m36 m35]
          obtain ⟨r1, r2⟩ := desc_op (f := f) hn hq1.2 m2
          by_cases cw : dW f n (hq f n (a + 1)) = 0
          · rw [if_pos cw]
            exact ⟨fun _ => r1 cw, fun q => absurd (show false = true from q) (by decide)⟩
          · rw [if_neg cw]
            obtain ⟨Q2, s1, s2, s3, s4, s5, s6, s7⟩ := r2 (by omega)
            have dw := dW_le (f := f) (n := n) (a := hq f n (a + 1)) hq1.2
            have dl := dA_lt (f := f) (n := n) (a := hq f n (a + 1)) hq1.2 (by omega)
            obtain ⟨t0, t1, t2, t3⟩ := s6.1 k hk
            have z0 : Q2 0 k = -1 := by rw [t0, m5]; exact g9
            obtain ⟨x1, x2⟩ := rl_ex (f := f) (k := k) hn hk (n - (dA f n (hq f n (a + 1)) + dW f n (hq f n (a + 1)))) (dA f n (hq f n (a + 1)) + dW f n (hq f n (a + 1))) (d + 1) Q2 (Nat.le_refl _) dw (by omega) s2 s3 z0 (by rw [t3, m4]) s4
            rw [s1]
            refine ⟨x1, fun q => ?_⟩
            obtain ⟨R, e, y1, y2, y3, y4, y5, y6, y7, y8, ⟨y9, y10, y11⟩, y12, y13⟩ := x2 q
            have lt0 := exc_ge e (d + 1) _ _ y4 dw
            have lt : a < (ex f n (n - (dA f n (hq f n (a + 1)) + dW f n (hq f n (a + 1))) + 1) (dA f n (hq f n (a + 1)) + dW f n (hq f n (a + 1)))).1 := by omega
            refine ⟨R, ?_, y2, lt, ⟨d + 1, e, _, y8, by omega, Or.inl ⟨by rw [et]; exact c34, by rw [y9]; exact z0, y3, Or.inl ⟨cd, by omega, ?_, ?_, desc_keep s5 y12 (by omega) (by rw [y6, nI_toInt (by omega)]; omega), y4⟩⟩⟩, y5, ⟨d + 1 + e, y6, y7, by omega⟩, Kp_trans (Kp_trans (Kp_trans g4 m3 (Nat.le_refl _) (Nat.le_refl _)) s6 (by omega) (Nat.le_refl _)) y12 (Nat.le_refl _) (by omega), y13⟩
            · rw [g1, om_step hn hk hd (Or.inl g10) g2 g3 hl1 m36 m35, s1, y1]
            · rw [y10, t1, m6]
              rfl
            · rw [y11, t2, m7]
        · have hs : Stop f n Q (a + 1) := ⟨end_4 (Or.inr g10), fun hl1 q36 q35 => absurd (Or.inr ⟨hl1, by rw [tk_in hl1]; exact q35, by rw [tk_in hl1]; exact q36⟩) cd⟩
          obtain ⟨x1, x2⟩ := rl_ex (f := f) (k := k) hn hk (n - (a + 1)) (a + 1) d Q (Nat.le_refl _) (by omega) (by omega) g2 g3 g9 g7 hs
          rw [if_neg cd]
          refine ⟨x1, fun q => ?_⟩
          obtain ⟨R, e, y1, y2, y3, y4, y5, y6, y7, y8, ⟨y9, y10, y11⟩, y12, y13⟩ := x2 q
          have lt := exc_ge e d (a + 1) _ y4 (by omega)
          refine ⟨R, by rw [g1, y1], y2, by omega, ⟨d, e, 0, y8, by omega, Or.inl ⟨by rw [et]; exact c34, by rw [y9]; exact g9, y3, Or.inr ⟨cd, by rw [y10]; exact g5, by rw [y11]; exact g6, y4⟩⟩⟩, y5, ⟨d + e, y6, y7, by omega⟩, Kp_trans g4 y12 (Nat.le_refl _) (Nat.le_refl _), y13⟩
      · by_cases cn : f_M_in (f a) 41 60 = 0
        · obtain ⟨Q, g1, g2, g3, g4, g5, g6, g7⟩ := at_desc hn hk hd h9 h4 h8 hl n36 n35 c34 cn
          obtain ⟨r1, r2⟩ := desc_op (f := f) hn ha g2
          have n40 : ¬ (40 : Int32) < tk f n a := by
            rw [et]
            exact fun q => (num_40 (hok a)).mp q cn
          rw [g1]
          unfold pr
          rw [if_neg (show ¬ tk f n a = 34 by rw [et]; exact c34), if_neg n40]
          by_cases cw : dW f n a = 0
          · rw [if_pos cw]
            exact ⟨fun _ => r1 cw, fun q => absurd (show false = true from q) (by decide)⟩
          · rw [if_neg cw]
            refine ⟨fun q => absurd (show true = false from q) (by decide), fun _ => ?_⟩
            obtain ⟨Q2, s1, s2, s3, s4, s5, s6, s7⟩ := r2 (by omega)
            obtain ⟨t0, t1, t2, t3⟩ := s6.1 k hk
            have dl := dA_lt (f := f) (n := n) (a := a) ha (by omega)
            exact ⟨Q2, by rw [g1, s1], dW_le ha, dl, ⟨d + 1, 0, 0, by rw [t3]; exact g7, by omega, Or.inr (Or.inr ⟨by rw [et]; exact c34, n40, by rw [t0]; exact g4, by omega, rfl, by rw [t1]; exact g5, by rw [t2]; exact g6, s5⟩)⟩, s2, ⟨d + 1, s3, by show d + 1 ≤ dA f n a + dW f n a; omega, by omega⟩, Kp_trans g3 s6 (by omega) (Nat.le_refl _), s4⟩
        · obtain ⟨Q, g1, g2, g3, g4, g5, g6, g7, _, g8⟩ := at_amount hn hk h9 h4 h8 hl (Or.inr cn)
          obtain ⟨g9, g10⟩ := g8 c34
          have y40 : (40 : Int32) < tk f n a := by
            rw [et]
            exact (num_40 (hok a)).mpr cn
          have hq1 := hq_le (f := f) (n := n) (a := a + 1) (by omega)
          rw [g1]
          unfold pr
          rw [if_neg (show ¬ tk f n a = 34 by rw [et]; exact c34), if_pos y40]
          have bad2 : ¬ tk f n (a + 1) = 37 → f_M_in (tk f n (a + 1)) 30 33 = 0 → f_M_in (tk f n (a + 1)) 0 29 = 0 → dW f n (hq f n (a + 1)) = 0 ∧ dA f n (hq f n (a + 1)) = a + 1 := by
            intro b1 b2 b3
            have eh : hq f n (a + 1) = a + 1 := by
              unfold hq
              rw [if_neg b1]
            rw [eh]
            exact ⟨dW0 b2 b3, dA0 b2⟩
          rcases Nat.lt_or_ge (a + 1) n with hl1 | hl1
          · have et1 := tk_in (f := f) hl1
            rcases Classical.em (f (a + 1) = 36 ∨ f (a + 1) = 35) with hx1 | hx1
            · obtain ⟨w1, w2⟩ := bad2 (by rw [et1]; rcases hx1 with q | q <;> rw [q] <;> decide) (by rw [et1]; rcases hx1 with q | q <;> rw [q] <;> decide) (by rw [et1]; rcases hx1 with q | q <;> rw [q] <;> decide)
              rw [if_pos w1, w2]
              exact ⟨fun _ => fail_at hn (by omega) (fun _ => take_no (end_3 (Or.inr (Or.inr g10))) hx1) (fun q => absurd q (by omega)), fun q => absurd (show false = true from q) (by decide)⟩
            · obtain ⟨m1, m2, m3, m4, m5, m6, m7⟩ := open_M hk hd g2 g3
              have om := om_step (f := f) hn hk hd (Or.inr g10) g2 g3 hl1 (fun q => hx1 (Or.inl q)) (fun q => hx1 (Or.inr q))
              rw [om]
              obtain ⟨r1, r2⟩ := desc_op (f := f) hn hq1.2 m2
              by_cases cw : dW f n (hq f n (a + 1)) = 0
              · rw [if_pos cw]
                exact ⟨fun _ => r1 cw, fun q => absurd (show false = true from q) (by decide)⟩
              · rw [if_neg cw]
                refine ⟨fun q => absurd (show true = false from q) (by decide), fun _ => ?_⟩
                obtain ⟨Q2, s1, s2, s3, s4, s5, s6, s7⟩ := r2 (by omega)
                obtain ⟨t0, t1, t2, t3⟩ := s6.1 k hk
                have dw := dW_le (f := f) (n := n) (a := hq f n (a + 1)) hq1.2
                have dl := dA_lt (f := f) (n := n) (a := hq f n (a + 1)) hq1.2 (by omega)
                exact ⟨Q2, by rw [g1, om, s1], dw, by show a < dA f n (hq f n (a + 1)) + dW f n (hq f n (a + 1)); omega, ⟨d + 1, 0, 0, by rw [t3]; exact m4, by omega, Or.inr (Or.inl ⟨y40, by rw [t0, m5, g9, et], by omega, rfl, by rw [t1]; exact m6, by rw [t2]; exact m7, s5⟩)⟩, s2, ⟨d + 1, s3, by show d + 1 ≤ dA f n (hq f n (a + 1)) + dW f n (hq f n (a + 1)); omega, by omega⟩, Kp_trans (Kp_trans g4 m3 (Nat.le_refl _) (Nat.le_refl _)) s6 (by omega) (Nat.le_refl _), s4⟩
          · have et1 := tk_out (f := f) (n := n) (a := a + 1) (by omega)
            obtain ⟨w1, w2⟩ := bad2 (by rw [et1]; decide) (by rw [et1]; decide) (by rw [et1]; decide)
            rw [if_pos w1, w2]
            exact ⟨fun _ => fail_at hn (by omega) (fun q => absurd q (by omega)) (fun _ => end_3 (Or.inr (Or.inr g10))), fun q => absurd (show false = true from q) (by decide)⟩
  · have et := tk_out (f := f) (n := n) (a := a) (by omega)
    refine bad (by rw [et]; decide) (by rw [et]; decide) (by rw [et]; decide) (by rw [et]; decide) (fail_at hn ha (fun q => absurd q (by omega)) (fun _ => end_3 (Or.inr (Or.inl h9))))
