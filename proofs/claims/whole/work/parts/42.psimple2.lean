/-! ===== the methods that tell of things one by one, second part ===== -/
theorem in_s0 {x hi : Int32} (hh : 0 ≤ hi.toInt) (c : f_M_in x (-1) hi = 0) : ¬ x = -1 ∧ f_M_in x 0 hi = 0 := by
  have q := in_no c
  have em : (-1 : Int32).toInt = -1 := by decide
  have e0 : (0 : Int32).toInt = 0 := by decide
  refine ⟨fun e => q ?_, in_0 (fun k => q ?_)⟩
  · rw [e]
    omega
  · omega
theorem in_s1 {x hi : Int32} (c : ¬ f_M_in x (-1) hi = 0) (c3 : ¬ x = -1) : f_M_in x 0 hi = 1 := by
  have q := in_of c
  have em : (-1 : Int32).toInt = -1 := by decide
  have e0 : (0 : Int32).toInt = 0 := by decide
  have c4 : ¬ x.toInt = -1 := fun k => c3 (Int32.toInt_inj.mp (by omega))
  exact in_1 (by omega)
theorem r_kind (S : Nat → Nat → Nat → Int32) (X : Nat → Nat → Int32) (x1 x2 : Int32) (h : Rel S X) : (f_NC_kind S x1 x2).1 = (f_M_kind X x1 x2).1 ∧ Rel (f_NC_kind S x1 x2).2 (f_M_kind X x1 x2).2 := by
  have hT := h.1
  obtain ⟨⟨h0, h1, h4, h5, h6⟩, h7, ht, hj, hk, mk, hm, hw⟩ := hT
  show (f_Things_setKind (S 1) x1 x2).1 = _ ∧ Rel (upr S 1 (f_Things_setKind (S 1) x1 x2).2) _
  by_cases c : 0 ≤ x1.toInt ∧ x1.toInt < (X 1 0).toInt
  · by_cases c2 : f_M_in x2 (-1) 15 = 0
    · have kA : f_Things_setKind (S 1) x1 x2 = (-1, S 1) := by
        unfold f_Things_setKind
        rw [t_has1 h.1 c, if_neg one0, if_neg (in_s0 (by decide) c2).1, e_isKind, if_pos (in_s0 (by decide) c2).2]
      have kB : f_M_kind X x1 x2 = (-1, upf X 0 (fun _ => 0)) := by
        unfold f_M_kind
        rw [if_pos (m_no0 ht c), if_pos c2]
      rw [kA, kB]
      exact ⟨rfl, Rel_T0 h⟩
    · have r2 := in_of c2
      have em : (-1 : Int32).toInt = -1 := by decide
      have ef : (15 : Int32).toInt = 15 := by decide
      have kA : f_Things_setKind (S 1) x1 x2 = ((((S 1) 2) x1.toNatClampNeg) + 1, (upf (S 1) 2 (upd ((S 1) 2) (x1 : Int32).toNatClampNeg x2))) := by
        unfold f_Things_setKind
        rw [t_has1 h.1 c, if_neg one0]
        by_cases c3 : x2 = -1
        · rw [if_pos c3]
        · rw [if_neg c3, e_isKind, in_s1 c2 c3, if_neg one0]
      have kB : f_M_kind X x1 x2 = ((((X 4) x1.toNatClampNeg) + 1), (upf (upf X 0 (fun _ => 0)) 4 (upd (X 4) (x1 : Int32).toNatClampNeg x2))) := by
        unfold f_M_kind
        rw [if_pos (m_no0 ht c), if_neg c2]
      obtain ⟨n, n1, rfl, n2⟩ := rng c
      rw [kA, kB, nI_clamp n2]
      refine ⟨by show S 1 2 n + 1 = X 4 n + 1; rw [(hj n n1).1], Rel_T h ⟨⟨h0, h1, h4, h5, h6⟩, h7, ht, ?_, ?_, ?_, hm, hw⟩ (fr2 (by omega))⟩
      · show ∀ j : Nat, (j : Int) < (X 1 0).toInt → upd (S 1 2) n x2 j = upd (X 4) n x2 j ∧ S 1 3 j = X 5 j ∧ -1 ≤ (upd (X 4) n x2 j).toInt
        intro j q
        by_cases e : j = n
        · rw [e, pk_us, pk_us]
          exact ⟨rfl, (hj n n1).2.1, by omega⟩
        · rw [pk_un e, pk_un e]
          exact hj j q
      · show ∀ j : Nat, (X 1 0).toInt ≤ (j : Int) → j < 32 → upd (S 1 2) n x2 j = -1 ∧ S 1 3 j = 1
        intro j q1 q2
        rw [pk_un (by omega)]
        exact hk j q1 q2
      · show ∀ j : Nat, (upd (X 4) n x2 j).toInt < 16
        intro j
        by_cases e : j = n
        · rw [e, pk_us]
          omega
        · rw [pk_un e]
          exact mk j
  · have kA : f_Things_setKind (S 1) x1 x2 = (-1, S 1) := by
      unfold f_Things_setKind
      rw [t_has0 h.1 c, if_pos rfl]
    have kB : f_M_kind X x1 x2 = (-1, upf X 0 (fun _ => 0)) := by
      unfold f_M_kind
      rw [if_neg (m_no1 ht c)]
    rw [kA, kB]
    exact ⟨rfl, Rel_T0 h⟩
theorem r_place (S : Nat → Nat → Nat → Int32) (X : Nat → Nat → Int32) (x1 x2 : Int32) (h : Rel S X) : (f_NC_place S x1 x2).1 = (f_M_place X x1 x2).1 ∧ Rel (f_NC_place S x1 x2).2 (f_M_place X x1 x2).2 := by
  have hT := h.1
  obtain ⟨⟨h0, h1, h4, h5, h6⟩, h7, ht, hj, hk, mk, hm, hw⟩ := hT
  show (f_Things_setPlace (S 1) x1 x2).1 = _ ∧ Rel (upr S 1 (f_Things_setPlace (S 1) x1 x2).2) _
  have e0 : (0 : Int32).toInt = 0 := by decide
  have e3 : (3 : Int32).toInt = 3 := by decide
  by_cases c : 0 ≤ x1.toInt ∧ x1.toInt < (X 1 0).toInt
  · by_cases c2 : f_M_in x2 0 3 = 0
    · have r2 := in_no c2
      have kA : f_Things_setPlace (S 1) x1 x2 = (-1, S 1) := by
        unfold f_Things_setPlace
        rw [t_has1 h.1 c, if_neg one0]
        by_cases c3 : x2 < 0
        · rw [if_pos c3]
        · rw [if_neg c3, if_neg (by rw [Int32.lt_iff_toInt_lt] at c3; rw [Int32.le_iff_toInt_le]; omega)]
      have kB : f_M_place X x1 x2 = (-1, upf X 0 (fun _ => 0)) := by
        unfold f_M_place
        rw [if_pos (m_no0 ht c), if_pos c2]
      rw [kA, kB]
      exact ⟨rfl, Rel_T0 h⟩
    · have r2 := in_of c2
      have kA : f_Things_setPlace (S 1) x1 x2 = (((S 1) 3) x1.toNatClampNeg, (upf (S 1) 3 (upd ((S 1) 3) (x1 : Int32).toNatClampNeg x2))) := by
        unfold f_Things_setPlace
        rw [t_has1 h.1 c, if_neg one0, if_neg (by rw [Int32.lt_iff_toInt_lt]; omega), if_pos (by rw [Int32.le_iff_toInt_le]; omega)]
      have kB : f_M_place X x1 x2 = (((X 5) x1.toNatClampNeg), (upf (upf X 0 (fun _ => 0)) 5 (upd (X 5) (x1 : Int32).toNatClampNeg x2))) := by
        unfold f_M_place
        rw [if_pos (m_no0 ht c), if_neg c2]
      obtain ⟨n, n1, rfl, n2⟩ := rng c
      rw [kA, kB, nI_clamp n2]
      refine ⟨(hj n n1).2.1, Rel_T h ⟨⟨h0, h1, h4, h5, h6⟩, h7, ht, ?_, ?_, mk, hm, hw⟩ (fr2 (by omega))⟩
      · show ∀ j : Nat, (j : Int) < (X 1 0).toInt → S 1 2 j = X 4 j ∧ upd (S 1 3) n x2 j = upd (X 5) n x2 j ∧ -1 ≤ (X 4 j).toInt
        intro j q
        by_cases e : j = n
        · rw [e, pk_us, pk_us]
          exact ⟨(hj n n1).1, rfl, (hj n n1).2.2⟩
        · rw [pk_un e, pk_un e]
          exact hj j q
      · show ∀ j : Nat, (X 1 0).toInt ≤ (j : Int) → j < 32 → S 1 2 j = -1 ∧ upd (S 1 3) n x2 j = 1
        intro j q1 q2
        rw [pk_un (by omega)]
        exact hk j q1 q2
  · have kA : f_Things_setPlace (S 1) x1 x2 = (-1, S 1) := by
      unfold f_Things_setPlace
      rw [t_has0 h.1 c, if_pos rfl]
    have kB : f_M_place X x1 x2 = (-1, upf X 0 (fun _ => 0)) := by
      unfold f_M_place
      rw [if_neg (m_no1 ht c)]
    rw [kA, kB]
    exact ⟨rfl, Rel_T0 h⟩
theorem r_mark (S : Nat → Nat → Nat → Int32) (X : Nat → Nat → Int32) (x1 x2 x3 : Int32) (h : Rel S X) : (f_NC_mark S x1 x2 x3).1 = (f_M_mark X x1 x2 x3).1 ∧ Rel (f_NC_mark S x1 x2 x3).2 (f_M_mark X x1 x2 x3).2 := by
  have hT := h.1
  obtain ⟨⟨h0, h1, h4, h5, h6⟩, h7, ht, hj, hk, mk, hm, hw⟩ := hT
  show (f_Things_setMark (S 1) x1 x2 x3).1 = _ ∧ Rel (upr S 1 (f_Things_setMark (S 1) x1 x2 x3).2) _
  have e9 : (9 : Int32).toInt = 9 := by decide
  have em : (-9 : Int32).toInt = -9 := by decide
  by_cases c : 0 ≤ x1.toInt ∧ x1.toInt < (X 1 0).toInt
  · by_cases c2 : f_M_in x2 0 3 = 0
    · have kA : f_Things_setMark (S 1) x1 x2 x3 = (-1, S 1) := by
        unfold f_Things_setMark
        rw [t_has1 h.1 c, if_neg one0, e_isRule, if_pos c2]
      have kB : f_M_mark X x1 x2 x3 = (-1, upf X 0 (fun _ => 0)) := by
        unfold f_M_mark
        rw [if_pos (m_no0 ht c), if_pos c2]
      rw [kA, kB]
      exact ⟨rfl, Rel_T0 h⟩
    · by_cases c3 : f_M_in x3 (-9) 9 = 0
      · have r3 := in_no c3
        have kA : f_Things_setMark (S 1) x1 x2 x3 = (-1, S 1) := by
          unfold f_Things_setMark
          rw [t_has1 h.1 c, if_neg one0, e_isRule, if_neg c2]
          by_cases c4 : x3 < (-9)
          · rw [if_pos c4]
          · rw [if_neg c4, if_neg (by rw [Int32.lt_iff_toInt_lt] at c4; rw [Int32.le_iff_toInt_le]; omega)]
        have kB : f_M_mark X x1 x2 x3 = (-1, upf X 0 (fun _ => 0)) := by
          unfold f_M_mark
          rw [if_pos (m_no0 ht c), if_neg c2, if_pos c3]
        rw [kA, kB]
        exact ⟨rfl, Rel_T0 h⟩
      · have r3 := in_of c3
        have kA : f_Things_setMark (S 1) x1 x2 x3 = ((((S 1) 4) (((x1 * 4) + x2)).toNatClampNeg) + 9, (upf (S 1) 4 (upd ((S 1) 4) (((x1 * 4) + x2) : Int32).toNatClampNeg x3))) := by
          unfold f_Things_setMark
          rw [t_has1 h.1 c, if_neg one0, e_isRule, if_neg c2, if_neg (by rw [Int32.lt_iff_toInt_lt]; omega), if_pos (by rw [Int32.le_iff_toInt_le]; omega)]
        have kB : f_M_mark X x1 x2 x3 = ((((X 6) (((4 * x1) + x2)).toNatClampNeg) + 9), (upf (upf X 0 (fun _ => 0)) 6 (upd (X 6) (((4 * x1) + x2) : Int32).toNatClampNeg x3))) := by
          unfold f_M_mark
          rw [if_pos (m_no0 ht c), if_neg c2, if_neg c3]
        rw [kA, kB, Int32.mul_comm 4 x1, h4]
        refine ⟨rfl, Rel_T h ⟨⟨h0, h1, rfl, h5, h6⟩, h7, ht, hj, hk, mk, ?_, hw⟩ (fr2 (by omega))⟩
        show ∀ j : Nat, -9 ≤ (upd (X 6) (x1 * 4 + x2).toNatClampNeg x3 j).toInt ∧ (upd (X 6) (x1 * 4 + x2).toNatClampNeg x3 j).toInt ≤ 9
        intro j
        by_cases e : j = (x1 * 4 + x2).toNatClampNeg
        · rw [e, pk_us]
          omega
        · rw [pk_un e]
          exact hm j
  · have kA : f_Things_setMark (S 1) x1 x2 x3 = (-1, S 1) := by
      unfold f_Things_setMark
      rw [t_has0 h.1 c, if_pos rfl]
    have kB : f_M_mark X x1 x2 x3 = (-1, upf X 0 (fun _ => 0)) := by
      unfold f_M_mark
      rw [if_neg (m_no1 ht c)]
    rw [kA, kB]
    exact ⟨rfl, Rel_T0 h⟩
theorem r_plural (S : Nat → Nat → Nat → Int32) (X : Nat → Nat → Int32) (x1 x2 : Int32) (h : Rel S X) : (f_NC_plural S x1 x2).1 = (f_M_plural X x1 x2).1 ∧ Rel (f_NC_plural S x1 x2).2 (f_M_plural X x1 x2).2 := by
  have hT := h.1
  obtain ⟨⟨h0, h1, h4, h5, h6⟩, h7, ht, hj, hk, mk, hm, hw⟩ := hT
  show (f_Things_setPlural (S 1) x1 x2).1 = _ ∧ Rel (upr S 1 (f_Things_setPlural (S 1) x1 x2).2) _
  have em : (-1 : Int32).toInt = -1 := by decide
  have e29 : (29 : Int32).toInt = 29 := by decide
  have e0 : (0 : Int32).toInt = 0 := by decide
  by_cases c : f_M_in x1 0 15 = 0
  · have kA : f_Things_setPlural (S 1) x1 x2 = (-1, S 1) := by
      unfold f_Things_setPlural
      rw [e_isKind, if_pos c]
    have kB : f_M_plural X x1 x2 = (-1, upf X 0 (fun _ => 0)) := by
      unfold f_M_plural
      rw [if_pos c]
    rw [kA, kB]
    exact ⟨rfl, Rel_T0 h⟩
  · by_cases c2 : f_M_in x2 (-1) 29 = 0
    · have kA : f_Things_setPlural (S 1) x1 x2 = (-1, S 1) := by
        unfold f_Things_setPlural
        rw [e_isKind, if_neg c, if_neg (in_s0 (by decide) c2).1, e_isWord, if_pos (in_s0 (by decide) c2).2]
      have kB : f_M_plural X x1 x2 = (-1, upf X 0 (fun _ => 0)) := by
        unfold f_M_plural
        rw [if_neg c, if_pos c2]
      rw [kA, kB]
      exact ⟨rfl, Rel_T0 h⟩
    · have r2 := in_of c2
      have kA : f_Things_setPlural (S 1) x1 x2 = ((((S 1) 5) x1.toNatClampNeg) + 1, (upf (S 1) 5 (upd ((S 1) 5) (x1 : Int32).toNatClampNeg x2))) := by
        unfold f_Things_setPlural
        rw [e_isKind, if_neg c]
        by_cases c3 : x2 = -1
        · rw [if_pos c3]
        · rw [if_neg c3, e_isWord, in_s1 c2 c3, if_neg one0]
      have kB : f_M_plural X x1 x2 = ((((X 7) x1.toNatClampNeg) + 1), (upf (upf X 0 (fun _ => 0)) 7 (upd (X 7) (x1 : Int32).toNatClampNeg x2))) := by
        unfold f_M_plural
        rw [if_neg c, if_neg c2]
      rw [kA, kB, h5]
      exact ⟨rfl, Rel_T h ⟨⟨h0, h1, h4, rfl, h6⟩, h7, ht, hj, hk, mk, hm, hw⟩ (fr2 (by omega))⟩
theorem r_weight (S : Nat → Nat → Nat → Int32) (X : Nat → Nat → Int32) (x1 x2 : Int32) (h : Rel S X) : (f_NC_weight S x1 x2).1 = (f_M_weight X x1 x2).1 ∧ Rel (f_NC_weight S x1 x2).2 (f_M_weight X x1 x2).2 := by
  have hT := h.1
  obtain ⟨⟨h0, h1, h4, h5, h6⟩, h7, ht, hj, hk, mk, hm, hw⟩ := hT
  show (f_Things_setWeight (S 1) x1 x2).1 = _ ∧ Rel (upr S 1 (f_Things_setWeight (S 1) x1 x2).2) _
  have e9 : (9 : Int32).toInt = 9 := by decide
  have e0 : (0 : Int32).toInt = 0 := by decide
  by_cases c : f_M_in x1 0 3 = 0
  · have kA : f_Things_setWeight (S 1) x1 x2 = (-1, S 1) := by
      unfold f_Things_setWeight
      rw [e_isRule, if_pos c]
    have kB : f_M_weight X x1 x2 = (-1, upf X 0 (fun _ => 0)) := by
      unfold f_M_weight
      rw [if_pos c]
    rw [kA, kB]
    exact ⟨rfl, Rel_T0 h⟩
  · by_cases c2 : f_M_in x2 0 9 = 0
    · have r2 := in_no c2
      have kA : f_Things_setWeight (S 1) x1 x2 = (-1, S 1) := by
        unfold f_Things_setWeight
        rw [e_isRule, if_neg c]
        by_cases c3 : x2 < 0
        · rw [if_pos c3]
        · rw [if_neg c3, if_neg (by rw [Int32.lt_iff_toInt_lt] at c3; rw [Int32.le_iff_toInt_le]; omega)]
      have kB : f_M_weight X x1 x2 = (-1, upf X 0 (fun _ => 0)) := by
        unfold f_M_weight
        rw [if_neg c, if_pos c2]
      rw [kA, kB]
      exact ⟨rfl, Rel_T0 h⟩
    · have r2 := in_of c2
      have kA : f_Things_setWeight (S 1) x1 x2 = (((S 1) 6) x1.toNatClampNeg, (upf (S 1) 6 (upd ((S 1) 6) (x1 : Int32).toNatClampNeg x2))) := by
        unfold f_Things_setWeight
        rw [e_isRule, if_neg c, if_neg (by rw [Int32.lt_iff_toInt_lt]; omega), if_pos (by rw [Int32.le_iff_toInt_le]; omega)]
      have kB : f_M_weight X x1 x2 = (((X 8) x1.toNatClampNeg), (upf (upf X 0 (fun _ => 0)) 8 (upd (X 8) (x1 : Int32).toNatClampNeg x2))) := by
        unfold f_M_weight
        rw [if_neg c, if_neg c2]
      rw [kA, kB, h6]
      refine ⟨rfl, Rel_T h ⟨⟨h0, h1, h4, h5, rfl⟩, h7, ht, hj, hk, mk, hm, ?_⟩ (fr2 (by omega))⟩
      show ∀ j : Nat, 0 ≤ (upd (X 8) x1.toNatClampNeg x2 j).toInt ∧ (upd (X 8) x1.toNatClampNeg x2 j).toInt ≤ 9
      intro j
      by_cases e : j = x1.toNatClampNeg
      · rw [e, pk_us]
        omega
      · rw [pk_un e]
        exact hw j
/-! == what touches the row, the bound and what was told == -/
theorem r_limit (S : Nat → Nat → Nat → Int32) (X : Nat → Nat → Int32) (x1 : Int32) (h : Rel S X) : (f_NC_limit S x1).1 = (f_M_limit X x1).1 ∧ Rel (f_NC_limit S x1).2 (f_M_limit X x1).2 := by
  have e0 : (0 : Int32).toInt = 0 := by decide
  have e32 : (32 : Int32).toInt = 32 := by decide
  by_cases c : f_M_in x1 0 32 = 0
  · have r := in_no c
    have kA : f_NC_limit S x1 = (-1, S) := by
      unfold f_NC_limit
      by_cases c3 : x1 < 0
      · rw [if_pos c3]
      · rw [if_neg c3, if_neg (by rw [Int32.lt_iff_toInt_lt] at c3; rw [Int32.le_iff_toInt_le]; omega)]
    have kB : f_M_limit X x1 = (-1, upf X 0 (fun _ => 0)) := by
      unfold f_M_limit
      rw [if_pos c]
    rw [kA, kB]
    exact ⟨rfl, Rel_0 h⟩
  · have r := in_of c
    have kA : f_NC_limit S x1 = (((S 0) 3 0), (upr S 0 (upf (S 0) 3 (fun _ => x1)))) := by
      unfold f_NC_limit
      rw [if_neg (by rw [Int32.lt_iff_toInt_lt]; omega), if_pos (by rw [Int32.le_iff_toInt_le]; omega)]
    have kB : f_M_limit X x1 = ((X 9 0), (upf (upf X 0 (fun _ => 0)) 9 (fun _ => x1))) := by
      unfold f_M_limit
      rw [if_neg c]
    rw [kA, kB]
    obtain ⟨h1, h2, h3, h4, h5, h6, h7, h8⟩ := h
    exact ⟨h3, h1, h2, rfl, h4, h5, h6, h7, h8⟩
theorem r_wipe (S : Nat → Nat → Nat → Int32) (X : Nat → Nat → Int32) (h : Rel S X) : (f_NC_wipe S).1 = (f_M_wipe X).1 ∧ Rel (f_NC_wipe S).2 (f_M_wipe X).2 := by
  obtain ⟨h1, h2, h3, h4, h5, h6, h7, h8⟩ := h
  exact ⟨h2.2.1, h1, ⟨h2.1, rfl, ⟨by show 0 ≤ (0 : Int32).toInt; decide, by show (0 : Int32).toInt ≤ 30; decide⟩, h2.2.2.2⟩, h3, h4, h5, h6, h7, h8⟩
theorem e_isToken (x : Int32) : (f_NC_isToken x = 0) ↔ (f_M_in x 0 37 = 0 ∧ f_M_in x 41 60 = 0) := by
  have e0 : (0 : Int32).toInt = 0 := by decide
  have e37 : (37 : Int32).toInt = 37 := by decide
  unfold f_NC_isToken
  rw [e_isNumber]
  by_cases c : x < 0
  · have q : f_M_in x 0 37 = 0 := in_0 (by rw [Int32.lt_iff_toInt_lt] at c; omega)
    rw [if_pos c]
    by_cases c2 : f_M_in x 41 60 = 0
    · rw [if_pos c2]
      exact ⟨fun _ => ⟨q, c2⟩, fun _ => rfl⟩
    · rw [if_neg c2]
      exact ⟨fun k => absurd k one0, fun k => absurd k.2 c2⟩
  · rw [if_neg c]
    by_cases c3 : x ≤ 37
    · rw [if_pos c3]
      exact ⟨fun k => absurd k one0, fun k => absurd k.1 (by rw [in_1 (by rw [Int32.lt_iff_toInt_lt] at c; rw [Int32.le_iff_toInt_le] at c3; omega)]; exact one0)⟩
    · have q : f_M_in x 0 37 = 0 := in_0 (by rw [Int32.le_iff_toInt_le] at c3; omega)
      rw [if_neg c3]
      by_cases c2 : f_M_in x 41 60 = 0
      · rw [if_pos c2]
        exact ⟨fun _ => ⟨q, c2⟩, fun _ => rfl⟩
      · rw [if_neg c2]
        exact ⟨fun k => absurd k one0, fun k => absurd k.2 c2⟩
theorem r_type (S : Nat → Nat → Nat → Int32) (X : Nat → Nat → Int32) (x1 : Int32) (h : Rel S X) : (f_NC_type S x1).1 = (f_M_type X x1).1 ∧ Rel (f_NC_type S x1).2 (f_M_type X x1).2 := by
  have h' := h
  obtain ⟨h1, ⟨r1, r2, ⟨r3, r4⟩, r5⟩, h3, h4, h5, h6, h7, h8⟩ := h
  have e30 : (30 : Int32).toInt = 30 := by decide
  have e0 : (0 : Int32).toInt = 0 := by decide
  have e37 : (37 : Int32).toInt = 37 := by decide
  have e41 : (41 : Int32).toInt = 41 := by decide
  have e60 : (60 : Int32).toInt = 60 := by decide
  by_cases c : f_NC_isToken x1 = 0
  · have c1 := (e_isToken x1).mp c
    have kA : f_NC_type S x1 = (-1, S) := by
      unfold f_NC_type
      rw [if_pos c]
    have kB : f_M_type X x1 = (-1, upf X 0 (fun _ => 0)) := by
      unfold f_M_type
      rw [if_pos c1.1, if_pos c1.2]
    rw [kA, kB]
    exact ⟨rfl, Rel_0 h'⟩
  · have c1 : okTok x1 := by
      rcases Classical.em (f_M_in x1 0 37 = 0) with q | q
      · rcases Classical.em (f_M_in x1 41 60 = 0) with q2 | q2
        · exact absurd ((e_isToken x1).mpr ⟨q, q2⟩) c
        · have := in_of q2
          exact Or.inr (by omega)
      · have := in_of q
        exact Or.inl (by omega)
    by_cases c2 : X 11 0 = 30
    · have kA : f_NC_type S x1 = (-3, S) := by
        unfold f_NC_type
        rw [if_neg c, r2, c2, if_neg (by decide)]
      have kB : f_M_type X x1 = (-3, upf X 0 (fun _ => 0)) := by
        unfold f_M_type
        by_cases q : f_M_in x1 0 37 = 0
        · rw [if_pos q, if_neg (fun q2 => c ((e_isToken x1).mpr ⟨q, q2⟩)), if_pos c2]
        · rw [if_neg q, if_pos c2]
      rw [kA, kB]
      exact ⟨rfl, Rel_0 h'⟩
    · have c3 : (X 11 0).toInt < 30 := by
        rcases Int.lt_or_le (X 11 0).toInt 30 with q | q
        · exact q
        · exact absurd (Int32.toInt_inj.mp (by omega : (X 11 0).toInt = (30 : Int32).toInt)) c2
      have kA : f_NC_type S x1 = ((((S 0) 2 0) + 1), (upr S 0 (upf (upf (S 0) 1 (upd ((S 0) 1) (((S 0) 2 0) : Int32).toNatClampNeg x1)) 2 (fun _ => (((S 0) 2 0) + 1))))) := by
        unfold f_NC_type
        rw [if_neg c, if_pos (by rw [r2, Int32.lt_iff_toInt_lt]; omega)]
      have kB : f_M_type X x1 = (((X 11 0) + 1), (upf (upf (upf X 0 (fun _ => 0)) 10 (upd (X 10) ((X 11 0) : Int32).toNatClampNeg x1)) 11 (fun _ => ((X 11 0) + 1)))) := by
        unfold f_M_type
        by_cases q : f_M_in x1 0 37 = 0
        · rw [if_pos q, if_neg (fun q2 => c ((e_isToken x1).mpr ⟨q, q2⟩)), if_neg c2]
        · rw [if_neg q, if_neg c2]
      have es : ((X 11 0) + 1).toInt = (X 11 0).toInt + 1 := nc_add1 (b := 30) (by rw [Int32.le_iff_toInt_le]; omega)
      rw [kA, kB, r1, r2]
      refine ⟨rfl, h1, ⟨rfl, rfl, ?_, ?_⟩, h3, h4, h5, h6, h7, h8⟩
      · show 0 ≤ ((X 11 0) + 1).toInt ∧ ((X 11 0) + 1).toInt ≤ 30
        omega
      · show ∀ j : Nat, okTok (upd (X 10) (X 11 0).toNatClampNeg x1 j)
        intro j
        by_cases e : j = (X 11 0).toNatClampNeg
        · rw [e, pk_us]
          exact c1
        · rw [pk_un e]
          exact r5 j
theorem r_told (S : Nat → Nat → Nat → Int32) (X : Nat → Nat → Int32) (x1 : Int32) (h : Rel S X) : f_NC_told S x1 = (f_M_told X x1).1 ∧ Rel S (f_M_told X x1).2 := by
  obtain ⟨t1, t2, t3⟩ := h.2.2.2.2.2.2.1
  unfold f_NC_told f_M_told
  by_cases c1 : x1 = 0
  · rw [if_pos c1, if_pos c1]
    exact ⟨t1, Rel_0 h⟩
  · rw [if_neg c1, if_neg c1]
    by_cases c2 : x1 = 1
    · rw [if_pos c2, if_pos c2]
      exact ⟨t2, Rel_0 h⟩
    · rw [if_neg c2, if_neg c2]
      by_cases c3 : x1 = 2
      · rw [if_pos c3, if_pos c3]
        exact ⟨t3, Rel_0 h⟩
      · rw [if_neg c3, if_neg c3]
        exact ⟨rfl, Rel_0 h⟩
theorem r_chosen (S : Nat → Nat → Nat → Int32) (X : Nat → Nat → Int32) (x1 : Int32) (h : Rel S X) : f_NC_chosen S x1 = (f_M_chosen X x1).1 ∧ Rel S (f_M_chosen X x1).2 := by
  obtain ⟨l1, l2, ⟨l3, l4⟩, l5⟩ := h.2.2.2.1
  have em : (-1 : Int32).toInt = -1 := by decide
  have e0 : (0 : Int32).toInt = 0 := by decide
  have e32 : (32 : Int32).toInt = 32 := by decide
  have es : ((X 33 0) - 1).toInt = (X 33 0).toInt - 1 := by
    rw [Int32.toInt_sub, show (1 : Int32).toInt = 1 by decide, Int.bmod_eq_of_le (by omega) (by omega)]
  unfold f_NC_chosen f_M_chosen
  by_cases c1 : x1 = -1
  · rw [if_pos c1, c1, in_1 (by omega), if_neg one0, if_neg (by decide)]
    exact ⟨l1, Rel_0 h⟩
  · have c2 : ¬ x1.toInt = -1 := fun q => c1 (Int32.toInt_inj.mp (by omega))
    rw [if_neg c1]
    unfold f_Picks_at
    by_cases c3 : 0 ≤ x1.toInt ∧ x1.toInt < (X 33 0).toInt
    · obtain ⟨n, n1, rfl, n2⟩ := rng c3
      rw [if_neg (by rw [Int32.lt_iff_toInt_lt]; omega), if_neg (by rw [l1, Int32.le_iff_toInt_le]; omega), if_neg (by rw [Int32.le_iff_toInt_le]; omega), in_1 (by omega), if_neg one0, if_pos (by rw [Int32.le_iff_toInt_le]; omega), nI_clamp n2]
      exact ⟨l5 n n1, Rel_0 h⟩
    · rw [in_0 (by omega), if_pos rfl]
      by_cases c4 : x1 < 0
      · rw [if_pos c4]
        exact ⟨rfl, Rel_0 h⟩
      · rw [if_neg c4, if_pos (by rw [Int32.lt_iff_toInt_lt] at c4; rw [l1, Int32.le_iff_toInt_le]; omega)]
        exact ⟨rfl, Rel_0 h⟩
/-! == score and alike == -/
theorem e_scoreL {T X : Nat → Nat → Int32} (h : RT T X) (x : Int32) : ∀ (n : Nat) (z3 z2 : Int32), f_Things_scoreOf_L14 T x n z3 z2 = f_M_scoreOf_L4 X x n z3 z2 := by
  obtain ⟨⟨h0, h1, h4, h5, h6⟩, _⟩ := h
  intro n
  induction n with
  | zero => intro z3 z2; rfl
  | succ n ih =>
    intro z3 z2
    rw [f_Things_scoreOf_L14, f_M_scoreOf_L4, h4, h6, Int32.mul_comm 4 x, ih]
theorem e_score {T X : Nat → Nat → Int32} (h : RT T X) {x : Int32} (c : 0 ≤ x.toInt ∧ x.toInt < (X 1 0).toInt) : f_Things_scoreOf T x = f_M_scoreOf X x := by
  unfold f_Things_scoreOf f_M_scoreOf
  rw [t_has1 h c, if_neg one0, e_scoreL h]
theorem idx4 {a k : Nat} (ha : a < 32) (hk : k < 4) : ((nI a * 4) + nI k).toNatClampNeg = 4 * a + k := by
  have e : (nI a * 4) + nI k = nI (4 * a + k) := by
    apply Int32.toInt_inj.mp
    rw [nI_toInt (by omega), Int32.toInt_add, Int32.toInt_mul, show (4 : Int32).toInt = 4 by decide, nI_toInt (by omega), nI_toInt (by omega), Int.bmod_eq_of_le (n := (a : Int) * 4) (by omega) (by omega), Int.bmod_eq_of_le (by omega) (by omega)]
    omega
  rw [e, nI_clamp (by omega)]
def sc (X : Nat → Nat → Int32) (a : Nat) : Int32 := 0 + X 8 0 * X 6 (4 * a + 0) + X 8 1 * X 6 (4 * a + 1) + X 8 2 * X 6 (4 * a + 2) + X 8 3 * X 6 (4 * a + 3)
theorem m_sc {X : Nat → Nat → Int32} {a : Nat} (ha : a < 32) : f_M_scoreOf X (nI a) = sc X a := by
  have st : ∀ (m i : Nat) (z : Int32), i < 4 → f_M_scoreOf_L4 X (nI a) (m + 1) (nI i) z = f_M_scoreOf_L4 X (nI a) m (nI (i + 1)) (z + X 8 i * X 6 (4 * a + i)) := by
    intro m i z hi
    rw [f_M_scoreOf_L4, if_neg (show ¬ (4 : Int32) ≤ nI i from nI_ge (a := i) (b := 4) hi (by omega)), nI_1, Int32.mul_comm 4 (nI a), idx4 ha hi, nI_clamp (by omega)]
  have h0 : f_M_scoreOf X (nI a) = f_M_scoreOf_L4 X (nI a) 5 (nI 0) 0 := by
    rw [nI_0]
    rfl
  rw [h0, st 4 0 _ (by omega), st 3 1 _ (by omega), st 2 2 _ (by omega), st 1 3 _ (by omega), f_M_scoreOf_L4, if_pos (by decide)]
  rfl
theorem mul99 {w m : Int} (h1 : 0 ≤ w ∧ w ≤ 9) (h2 : -9 ≤ m ∧ m ≤ 9) : -81 ≤ w * m ∧ w * m ≤ 81 := by
  have h3 : w = 0 ∨ w = 1 ∨ w = 2 ∨ w = 3 ∨ w = 4 ∨ w = 5 ∨ w = 6 ∨ w = 7 ∨ w = 8 ∨ w = 9 := by omega
  rcases h3 with rfl | rfl | rfl | rfl | rfl | rfl | rfl | rfl | rfl | rfl <;> omega
theorem mul99t {w m : Int32} (h1 : 0 ≤ w.toInt ∧ w.toInt ≤ 9) (h2 : -9 ≤ m.toInt ∧ m.toInt ≤ 9) : -81 ≤ (w * m).toInt ∧ (w * m).toInt ≤ 81 := by
  have q := mul99 h1 h2
  rw [Int32.toInt_mul, Int.bmod_eq_of_le (by omega) (by omega)]
  exact q
theorem sc_b {T X : Nat → Nat → Int32} (h : RT T X) (a : Nat) : -324 ≤ (sc X a).toInt ∧ (sc X a).toInt ≤ 324 := by
  obtain ⟨_, _, _, _, _, _, hm, hw⟩ := h
  have q0 := mul99t (hw 0) (hm (4 * a + 0))
  have q1 := mul99t (hw 1) (hm (4 * a + 1))
  have q2 := mul99t (hw 2) (hm (4 * a + 2))
  have q3 := mul99t (hw 3) (hm (4 * a + 3))
  have e0 : (0 : Int32).toInt = 0 := by decide
  unfold sc
  rw [Int32.toInt_add, Int32.toInt_add, Int32.toInt_add, Int32.toInt_add, e0, Int.bmod_eq_of_le (n := 0 + (X 8 0 * X 6 (4 * a + 0)).toInt) (by omega) (by omega), Int.bmod_eq_of_le (n := 0 + (X 8 0 * X 6 (4 * a + 0)).toInt + (X 8 1 * X 6 (4 * a + 1)).toInt) (by omega) (by omega), Int.bmod_eq_of_le (n := 0 + (X 8 0 * X 6 (4 * a + 0)).toInt + (X 8 1 * X 6 (4 * a + 1)).toInt + (X 8 2 * X 6 (4 * a + 2)).toInt) (by omega) (by omega), Int.bmod_eq_of_le (by omega) (by omega)]
  omega
theorem r_score (S : Nat → Nat → Nat → Int32) (X : Nat → Nat → Int32) (x1 : Int32) (h : Rel S X) : f_NC_score S x1 = (f_M_score X x1).1 ∧ Rel S (f_M_score X x1).2 := by
  have ht := h.1.2.2.1
  have t2 := ht.2
  by_cases c : 0 ≤ x1.toInt ∧ x1.toInt < (X 1 0).toInt
  · obtain ⟨a, a1, rfl, a2⟩ := rng c
    have kA : f_NC_score S (nI a) = sc X a + 1000 := by
      unfold f_NC_score
      rw [t_has1 h.1 c, if_neg one0, e_score h.1 c, m_sc (by omega)]
    have kB : f_M_score X (nI a) = (1000 + sc X a, upf X 0 (fun _ => 0)) := by
      unfold f_M_score
      rw [if_pos (m_no0 ht c), m_sc (by omega)]
      rfl
    rw [kA, kB]
    exact ⟨Int32.add_comm _ _, Rel_0 h⟩
  · have kA : f_NC_score S x1 = -1 := by
      unfold f_NC_score
      rw [t_has0 h.1 c, if_pos rfl]
    have kB : f_M_score X x1 = (-1, upf X 0 (fun _ => 0)) := by
      unfold f_M_score
      rw [if_neg (m_no1 ht c)]
    rw [kA, kB]
    exact ⟨rfl, Rel_0 h⟩
/-- two things are alike: one kind, the same words, the same place, the same marks -/
def alk (X : Nat → Nat → Int32) (a b : Nat) : Prop := 0 ≤ (X 4 a).toInt ∧ X 4 a = X 4 b ∧ X 2 a = X 2 b ∧ X 3 a = X 3 b ∧ X 5 a = X 5 b ∧ ∀ k, k < 4 → X 6 (4 * a + k) = X 6 (4 * b + k)
def alq (X : Nat → Nat → Int32) (a b i : Nat) : Prop := (X 4 a = X 4 b ∧ X 2 a = X 2 b ∧ X 3 a = X 3 b ∧ X 5 a = X 5 b) ∧ ∀ k, i ≤ k → k < 4 → X 6 (4 * a + k) = X 6 (4 * b + k)
theorem a_L30 {T X : Nat → Nat → Int32} (h : RT T X) {a b : Nat} (ha : (a : Int) < (X 1 0).toInt) (hb : (b : Int) < (X 1 0).toInt) : ∀ (m i : Nat), i + m = 4 → ((f_Things_areAlike_L30 T (nI a) (nI b) (m + 1) (nI i) = 0) ↔ ¬ alq X a b i) := by
  obtain ⟨⟨h0, h1, h4, h5, h6⟩, h7, ⟨t1, t2⟩, hj, hk, mk, hm, hw⟩ := h
  have ca : (nI a).toNatClampNeg = a := nI_clamp (by omega)
  have cb : (nI b).toNatClampNeg = b := nI_clamp (by omega)
  intro m
  induction m with
  | zero =>
    intro i hi
    have e4 : i = 4 := by omega
    subst e4
    rw [f_Things_areAlike_L30, if_pos (by decide), ca, cb, (hj a ha).1, (hj b hb).1, (hj a ha).2.1, (hj b hb).2.1, h0, h1]
    by_cases c1 : X 4 a = X 4 b
    · rw [if_pos c1]
      by_cases c2 : X 2 a = X 2 b
      · rw [if_pos c2]
        by_cases c3 : X 3 a = X 3 b
        · rw [if_pos c3]
          by_cases c4 : X 5 a = X 5 b
          · rw [if_pos c4]
            exact ⟨fun k => absurd k one0, fun k => absurd (show alq X a b 4 from ⟨⟨c1, c2, c3, c4⟩, fun k q1 q2 => absurd q2 (by omega)⟩) k⟩
          · rw [if_neg c4]
            exact ⟨fun _ (q : alq X a b 4) => c4 q.1.2.2.2, fun _ => rfl⟩
        · rw [if_neg c3]
          exact ⟨fun _ (q : alq X a b 4) => c3 q.1.2.2.1, fun _ => rfl⟩
      · rw [if_neg c2]
        exact ⟨fun _ (q : alq X a b 4) => c2 q.1.2.1, fun _ => rfl⟩
    · rw [if_neg c1]
      exact ⟨fun _ (q : alq X a b 4) => c1 q.1.1, fun _ => rfl⟩
  | succ m ih =>
    intro i hi
    have e4 : ¬ (4 : Int32) ≤ nI i := nI_ge (a := i) (b := 4) (by omega) (by omega)
    rw [f_Things_areAlike_L30, if_neg e4, h4, idx4 (by omega) (by omega), idx4 (by omega) (by omega)]
    by_cases c : X 6 (4 * a + i) = X 6 (4 * b + i)
    · rw [if_pos c, nI_1, ih (i + 1) (by omega)]
      refine not_congr ⟨fun q => ⟨q.1, fun k q1 q2 => ?_⟩, fun q => ⟨q.1, fun k q1 q2 => q.2 k (by omega) q2⟩⟩
      rcases Nat.lt_or_ge i k with q3 | q3
      · exact q.2 k q3 q2
      · rw [show k = i by omega]
        exact c
    · rw [if_neg c]
      exact ⟨fun _ (q : alq X a b i) => c (q.2 i (Nat.le_refl _) (by omega)), fun _ => rfl⟩
theorem alk_q {X : Nat → Nat → Int32} {a b : Nat} (c0 : 0 ≤ (X 4 a).toInt) : alq X a b 0 ↔ alk X a b := ⟨fun q => ⟨c0, q.1.1, q.1.2.1, q.1.2.2.1, q.1.2.2.2, fun j hj => q.2 j (Nat.zero_le _) hj⟩, fun k => ⟨⟨k.2.1, k.2.2.1, k.2.2.2.1, k.2.2.2.2.1⟩, fun j _ hj => k.2.2.2.2.2 j hj⟩⟩
theorem t_alk {T X : Nat → Nat → Int32} (h : RT T X) {a b : Nat} (ha : (a : Int) < (X 1 0).toInt) (hb : (b : Int) < (X 1 0).toInt) : (f_Things_areAlike T (nI a) (nI b) = 0) ↔ ¬ alk X a b := by
  have h' := h
  obtain ⟨⟨h0, h1, h4, h5, h6⟩, h7, ⟨t1, t2⟩, hj, hk, mk, hm, hw⟩ := h
  have ca : (nI a).toNatClampNeg = a := nI_clamp (by omega)
  have em : (-1 : Int32).toInt = -1 := by decide
  have ea : (nI a).toInt = (a : Int) := nI_toInt (by omega)
  have eb : (nI b).toInt = (b : Int) := nI_toInt (by omega)
  unfold f_Things_areAlike
  rw [t_has1 h' (by omega), if_neg one0, t_has1 h' (by omega), if_neg one0, ca, (hj a ha).1]
  by_cases c : X 4 a = -1
  · rw [if_pos c]
    exact ⟨fun _ q => by have := q.1; rw [c] at this; omega, fun _ => rfl⟩
  · have c0 : 0 ≤ (X 4 a).toInt := by
      have q := (hj a ha).2.2
      rcases Int.lt_or_le (X 4 a).toInt 0 with q2 | q2
      · exact absurd (Int32.toInt_inj.mp (by omega : (X 4 a).toInt = (-1 : Int32).toInt)) c
      · exact q2
    have kk := a_L30 h' ha hb 4 0 rfl
    rw [nI_0] at kk
    rw [if_neg c]
    exact kk.trans (not_congr (alk_q c0))
theorem a_L78 {X : Nat → Nat → Int32} {a b : Nat} (ha : a < 32) (hb : b < 32) : ∀ (m i : Nat) (z : Int32), i + m = 4 → (z = 0 ∨ z = 1) → ((f_M_isAlike_L78 X (nI a) (nI b) (m + 1) (nI i) z = 0) ↔ ¬ (z = 1 ∧ ∀ k, i ≤ k → k < 4 → X 6 (4 * a + k) = X 6 (4 * b + k))) := by
  intro m
  induction m with
  | zero =>
    intro i z hi hz
    have e4 : i = 4 := by omega
    subst e4
    rw [f_M_isAlike_L78, if_pos (by decide)]
    rcases hz with rfl | rfl
    · exact ⟨fun _ q => absurd q.1 (by decide), fun _ => rfl⟩
    · exact ⟨fun k => absurd k one0, fun k => absurd ⟨rfl, fun k q1 q2 => absurd q2 (by omega)⟩ k⟩
  | succ m ih =>
    intro i z hi hz
    have e4 : ¬ (4 : Int32) ≤ nI i := nI_ge (a := i) (b := 4) (by omega) (by omega)
    rw [f_M_isAlike_L78, if_neg e4, nI_1, Int32.mul_comm 4 (nI a), Int32.mul_comm 4 (nI b), idx4 (by omega) (by omega), idx4 (by omega) (by omega)]
    rcases hz with rfl | rfl
    · rw [if_pos rfl, ih (i + 1) 0 (by omega) (Or.inl rfl)]
      exact ⟨fun _ q => absurd q.1 (by decide), fun _ q => absurd q.1 (by decide)⟩
    · rw [if_neg one0]
      by_cases c : X 6 (4 * a + i) = X 6 (4 * b + i)
      · rw [if_pos c, ih (i + 1) 1 (by omega) (Or.inr rfl)]
        refine not_congr ⟨fun q => ⟨rfl, fun k q1 q2 => ?_⟩, fun q => ⟨rfl, fun k q1 q2 => q.2 k (by omega) q2⟩⟩
        rcases Nat.lt_or_ge i k with q3 | q3
        · exact q.2 k q3 q2
        · rw [show k = i by omega]
          exact c
      · rw [if_neg c, ih (i + 1) 0 (by omega) (Or.inl rfl)]
        exact ⟨fun _ q => c (q.2 i (Nat.le_refl _) (by omega)), fun _ q => absurd q.1 (by decide)⟩
theorem m_alk {X : Nat → Nat → Int32} {a b : Nat} (ha : a < 32) (hb : b < 32) : (f_M_isAlike X (nI a) (nI b) = 0) ↔ ¬ alk X a b := by
  have ca : (nI a).toNatClampNeg = a := nI_clamp (by omega)
  have cb : (nI b).toNatClampNeg = b := nI_clamp (by omega)
  have k0 : f_M_isAlike_L78 X (nI a) (nI b) (nc_mu 4 0 + 1) 0 0 = 0 := by
    have q := a_L78 (X := X) ha hb 4 0 0 rfl (Or.inl rfl)
    rw [nI_0] at q
    exact q.mpr (fun q => absurd q.1 (by decide))
  unfold f_M_isAlike
  rw [ca, cb, k0]
  by_cases c1 : X 4 a = X 4 b
  · rw [if_pos c1]
    by_cases c0 : X 4 a < 0
    · rw [if_pos c0]
      exact ⟨fun _ q => by have := q.1; have := nc_lt c0 rfl (show (0 : Int32).toInt = 0 by decide); omega, fun _ => rfl⟩
    · rw [if_neg c0]
      have c9 : 0 ≤ (X 4 a).toInt := nc_nlt c0 rfl (show (0 : Int32).toInt = 0 by decide)
      by_cases c2 : X 2 a = X 2 b
      · rw [if_pos c2]
        by_cases c3 : X 3 a = X 3 b
        · rw [if_pos c3]
          by_cases c5 : X 5 a = X 5 b
          · have q := a_L78 (X := X) ha hb 4 0 1 rfl (Or.inr rfl)
            rw [nI_0] at q
            rw [if_pos c5]
            exact q.trans (not_congr ⟨fun k => ⟨c9, c1, c2, c3, c5, fun j hj => k.2 j (Nat.zero_le _) hj⟩, fun k => ⟨rfl, fun j _ hj => k.2.2.2.2.2 j hj⟩⟩)
          · rw [if_neg c5]
            exact ⟨fun _ q => c5 q.2.2.2.2.1, fun _ => rfl⟩
        · rw [if_neg c3]
          exact ⟨fun _ q => c3 q.2.2.2.1, fun _ => rfl⟩
      · rw [if_neg c2]
        exact ⟨fun _ q => c2 q.2.2.1, fun _ => rfl⟩
  · rw [if_neg c1]
    exact ⟨fun _ q => c1 q.2.1, fun _ => rfl⟩
theorem e_alk {T X : Nat → Nat → Int32} (h : RT T X) {a b : Nat} (ha : (a : Int) < (X 1 0).toInt) (hb : (b : Int) < (X 1 0).toInt) : (f_Things_areAlike T (nI a) (nI b) = 0) ↔ (f_M_isAlike X (nI a) (nI b) = 0) := by
  have t2 := h.2.2.1.2
  rw [t_alk h ha hb, m_alk (by omega) (by omega)]
theorem r_alike (S : Nat → Nat → Nat → Int32) (X : Nat → Nat → Int32) (x1 x2 : Int32) (h : Rel S X) : f_NC_alike S x1 x2 = (f_M_alike X x1 x2).1 ∧ Rel S (f_M_alike X x1 x2).2 := by
  have ht := h.1.2.2.1
  unfold f_NC_alike f_M_alike
  by_cases c : 0 ≤ x1.toInt ∧ x1.toInt < (X 1 0).toInt
  · rw [t_has1 h.1 c, if_neg one0, if_pos (m_no0 ht c)]
    by_cases c2 : 0 ≤ x2.toInt ∧ x2.toInt < (X 1 0).toInt
    · rw [t_has1 h.1 c2, if_neg one0, if_pos (m_no0 ht c2)]
      obtain ⟨a, a1, rfl, a2⟩ := rng c
      obtain ⟨b, b1, rfl, b2⟩ := rng c2
      have e := e_alk h.1 a1 b1
      have q31 := ht.2
      have q32 : a < 32 := by omega
      have q33 : b < 32 := by omega
      by_cases c3 : f_M_isAlike X (nI a) (nI b) = 0
      · rw [if_pos (e.mpr c3), if_pos ((m_alk (X := upf X 0 (fun _ => 0)) q32 q33).mpr ((m_alk (X := X) q32 q33).mp c3))]
        exact ⟨rfl, Rel_0 h⟩
      · rw [if_neg (fun q => c3 (e.mp q)), if_neg (fun q => c3 ((m_alk (X := X) q32 q33).mpr ((m_alk (X := upf X 0 (fun _ => 0)) q32 q33).mp q)))]
        exact ⟨rfl, Rel_0 h⟩
    · rw [t_has0 h.1 c2, if_pos rfl, if_neg (m_no1 ht c2)]
      exact ⟨rfl, Rel_0 h⟩
  · rw [t_has0 h.1 c, if_pos rfl, if_neg (m_no1 ht c)]
    exact ⟨rfl, Rel_0 h⟩
