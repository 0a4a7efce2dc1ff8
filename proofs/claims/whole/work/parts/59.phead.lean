/-! ===== a part in the reference: its head ===== -/
def hdC (f : Nat → Int32) (n a : Nat) (X' : Nat → Nat → Int32) (z4 z5 z6 : Int32) : Prop :=
  (tk f n a = 34 ∧ dscd f n (a + 1) ∧ z4 = 1 ∧ z5 = 0 ∧ z6 = 1 ∧ X' 14 0 = nI (hq f n (a + 1)))
  ∨ (tk f n a = 34 ∧ ¬ dscd f n (a + 1) ∧ z4 = 1 ∧ z5 = 0 ∧ z6 = 0 ∧ X' 14 0 = nI (a + 1))
  ∨ (¬ tk f n a = 34 ∧ 40 < tk f n a ∧ z4 = 0 ∧ z5 = tk f n a - 40 ∧ z6 = 1 ∧ X' 14 0 = nI (hq f n (a + 1)))
  ∨ (¬ tk f n a = 34 ∧ ¬ 40 < tk f n a ∧ z4 = 0 ∧ z5 = 0 ∧ z6 = 1 ∧ X' 14 0 = nI a)
def hdF (X X' : Nat → Nat → Int32) : Prop := X' 19 0 = 0 ∧ X' 20 0 = 0 ∧ X' 22 0 = 0 ∧ ∀ j, ¬ j = 14 → ¬ j = 19 → ¬ j = 20 → ¬ j = 22 → X' j = X j
theorem hd_0 {X : Nat → Nat → Int32} : hdF X (upf (upf (upf X 19 (fun _ => 0)) 20 (fun _ => 0)) 22 (fun _ => 0)) := ⟨rfl, rfl, rfl, fun j h1 h2 h3 h4 => by rw [upf_ne (nb h4), upf_ne (nb h3), upf_ne (nb h2)]⟩
theorem hd_1 {X : Nat → Nat → Int32} {g : Nat → Int32} : hdF X (upf (upf (upf (upf X 14 g) 19 (fun _ => 0)) 20 (fun _ => 0)) 22 (fun _ => 0)) := ⟨rfl, rfl, rfl, fun j h1 h2 h3 h4 => by rw [upf_ne (nb h4), upf_ne (nb h3), upf_ne (nb h2), upf_ne (nb h1)]⟩
theorem sub_40 {x : Int32} (h : 40 < x) : 0 < x - 40 := by
  have e40 : (40 : Int32).toInt = 40 := by decide
  have e0 : (0 : Int32).toInt = 0 := by decide
  have l := Int32.toInt_lt x
  rw [Int32.lt_iff_toInt_lt] at h ⊢
  rw [Int32.toInt_sub, e40, Int.bmod_eq_of_le (by omega) (by omega)]
  omega
theorem ptR_head {X : Nat → Nat → Int32} {n a : Nat} (hn : n ≤ 30) (ha : a ≤ 100) (e13 : X 13 0 = nI n) (e14 : X 14 0 = nI a) (x1 x2 x3 : Int32) :
    ∃ X' z4 z5 z6, f_M_partR X x1 x2 x3 = f_M_partR_J160 x1 x2 x3 X' z4 z5 z6 ∧ hdF X X' ∧ hdC (X 10) n a X' z4 z5 z6 := by
  have h0 : f_M_hereR (upf (upf (upf X 19 (fun _ => 0)) 20 (fun _ => 0)) 22 (fun _ => 0)) = tk (X 10) n a := hereR_tk (X := (upf (upf (upf X 19 (fun _ => 0)) 20 (fun _ => 0)) 22 (fun _ => 0))) hn (by omega) e13 e14
  have h1 : f_M_hereR (upf (upf (upf (upf X 14 (fun _ => ((X 14 0) + 1))) 19 (fun _ => 0)) 20 (fun _ => 0)) 22 (fun _ => 0)) = tk (X 10) n (a + 1) := hereR_tk (X := (upf (upf (upf (upf X 14 (fun _ => ((X 14 0) + 1))) 19 (fun _ => 0)) 20 (fun _ => 0)) 22 (fun _ => 0))) hn (by omega) e13 (by show X 14 0 + 1 = _; rw [e14, nI_1])
  have k1 : (upf (upf (upf (upf X 14 (fun _ => ((X 14 0) + 1))) 19 (fun _ => 0)) 20 (fun _ => 0)) 22 (fun _ => 0)) 14 0 = nI (a + 1) := by
    show X 14 0 + 1 = _
    rw [e14, nI_1]
  have k2 : (upf (upf (upf (upf X 14 (fun _ => (((X 14 0) + 1) + 1))) 19 (fun _ => 0)) 20 (fun _ => 0)) 22 (fun _ => 0)) 14 0 = nI (a + 1 + 1) := by
    show X 14 0 + 1 + 1 = _
    rw [e14, nI_1, nI_1]
  have hq7 : tk (X 10) n (a + 1) = 37 → hq (X 10) n (a + 1) = a + 1 + 1 := fun q => by
    unfold hq
    rw [if_pos q]
  have hq0 : ¬ tk (X 10) n (a + 1) = 37 → hq (X 10) n (a + 1) = a + 1 := fun q => by
    unfold hq
    rw [if_neg q]
  have hle : (X 13 0 ≤ X 14 0 + 1) ↔ n ≤ a + 1 := by
    rw [e13, e14, nI_1]
    exact nI_leI (by omega) (by omega)
  by_cases c34 : tk (X 10) n a = 34
  · have c40 : tk (X 10) n a ≤ 40 := by
      rw [c34]
      decide
    by_cases c37 : tk (X 10) n (a + 1) = 37
    · refine ⟨(upf (upf (upf (upf X 14 (fun _ => (((X 14 0) + 1) + 1))) 19 (fun _ => 0)) 20 (fun _ => 0)) 22 (fun _ => 0)), 1, 0, 1, ?_, hd_1, Or.inl ⟨c34, Or.inl c37, rfl, rfl, rfl, by rw [k2, hq7 c37]⟩⟩
      unfold f_M_partR
      rw [h0, h1, if_pos c34, if_pos c40, if_pos c37]
    · by_cases cn : X 13 0 ≤ X 14 0 + 1
      · refine ⟨(upf (upf (upf (upf X 14 (fun _ => ((X 14 0) + 1))) 19 (fun _ => 0)) 20 (fun _ => 0)) 22 (fun _ => 0)), 1, 0, 0, ?_, hd_1, Or.inr (Or.inl ⟨c34, ?_, rfl, rfl, rfl, k1⟩)⟩
        · unfold f_M_partR
          rw [h0, h1, if_pos c34, if_pos c40, if_neg c37, if_pos cn]
        · rintro (q | q)
          · exact c37 q
          · exact absurd (hle.mp cn) (by omega)
      · have cn' : a + 1 < n := by
          rcases Nat.lt_or_ge (a + 1) n with q | q
          · exact q
          · exact absurd (hle.mpr q) cn
        by_cases c35 : tk (X 10) n (a + 1) = 35
        · refine ⟨(upf (upf (upf (upf X 14 (fun _ => ((X 14 0) + 1))) 19 (fun _ => 0)) 20 (fun _ => 0)) 22 (fun _ => 0)), 1, 0, 0, ?_, hd_1, Or.inr (Or.inl ⟨c34, ?_, rfl, rfl, rfl, k1⟩)⟩
          · unfold f_M_partR
            rw [h0, h1, if_pos c34, if_pos c40, if_neg c37, if_neg cn, if_pos c35]
          · rintro (q | q)
            · exact c37 q
            · exact q.2.1 c35
        · by_cases c36 : tk (X 10) n (a + 1) = 36
          · refine ⟨(upf (upf (upf (upf X 14 (fun _ => ((X 14 0) + 1))) 19 (fun _ => 0)) 20 (fun _ => 0)) 22 (fun _ => 0)), 1, 0, 0, ?_, hd_1, Or.inr (Or.inl ⟨c34, ?_, rfl, rfl, rfl, k1⟩)⟩
            · unfold f_M_partR
              rw [h0, h1, if_pos c34, if_pos c40, if_neg c37, if_neg cn, if_neg c35, if_pos c36]
            · rintro (q | q)
              · exact c37 q
              · exact q.2.2 c36
          · refine ⟨(upf (upf (upf (upf X 14 (fun _ => ((X 14 0) + 1))) 19 (fun _ => 0)) 20 (fun _ => 0)) 22 (fun _ => 0)), 1, 0, 1, ?_, hd_1, Or.inl ⟨c34, Or.inr ⟨cn', c35, c36⟩, rfl, rfl, rfl, by rw [k1, hq0 c37]⟩⟩
            unfold f_M_partR
            rw [h0, h1, if_pos c34, if_pos c40, if_neg c37, if_neg cn, if_neg c35, if_neg c36]
  · by_cases c40 : tk (X 10) n a ≤ 40
    · refine ⟨(upf (upf (upf X 19 (fun _ => 0)) 20 (fun _ => 0)) 22 (fun _ => 0)), 0, 0, 1, ?_, hd_0, Or.inr (Or.inr (Or.inr ⟨c34, fun q => lt_nle.mp q c40, rfl, rfl, rfl, e14⟩))⟩
      unfold f_M_partR
      rw [h0, h1, if_neg c34, if_pos c40]
    · have g40 : 40 < tk (X 10) n a := lt_nle.mpr c40
      have p40 := sub_40 g40
      have np40 : ¬ tk (X 10) n a - 40 ≤ 0 := lt_nle.mp p40
      by_cases c37 : tk (X 10) n (a + 1) = 37
      · refine ⟨(upf (upf (upf (upf X 14 (fun _ => (((X 14 0) + 1) + 1))) 19 (fun _ => 0)) 20 (fun _ => 0)) 22 (fun _ => 0)), 0, tk (X 10) n a - 40, 1, ?_, hd_1, Or.inr (Or.inr (Or.inl ⟨c34, g40, rfl, rfl, rfl, by rw [k2, hq7 c37]⟩))⟩
        unfold f_M_partR
        rw [h0, h1, if_neg c34, if_neg c40, if_neg np40, if_pos c37, if_pos p40]
      · refine ⟨(upf (upf (upf (upf X 14 (fun _ => ((X 14 0) + 1))) 19 (fun _ => 0)) 20 (fun _ => 0)) 22 (fun _ => 0)), 0, tk (X 10) n a - 40, 1, ?_, hd_1, Or.inr (Or.inr (Or.inl ⟨c34, g40, rfl, rfl, rfl, by rw [k1, hq0 c37]⟩))⟩
        unfold f_M_partR
        rw [h0, h1, if_neg c34, if_neg c40, if_neg np40, if_neg c37, if_pos p40]
theorem ptF_head {X : Nat → Nat → Int32} {n a : Nat} (hn : n ≤ 30) (ha : a ≤ 100) (e13 : X 13 0 = nI n) (e14 : X 14 0 = nI a) (x1 x2 x3 : Int32) :
    ∃ X' z4 z5 z6, f_M_partF X x1 x2 x3 = f_M_partF_J160 x1 x2 x3 X' z4 z5 z6 ∧ hdF X X' ∧ hdC (X 24) n a X' z4 z5 z6 := by
  have h0 : f_M_hereF (upf (upf (upf X 19 (fun _ => 0)) 20 (fun _ => 0)) 22 (fun _ => 0)) = tk (X 24) n a := hereF_tk (X := (upf (upf (upf X 19 (fun _ => 0)) 20 (fun _ => 0)) 22 (fun _ => 0))) hn (by omega) e13 e14
  have h1 : f_M_hereF (upf (upf (upf (upf X 14 (fun _ => ((X 14 0) + 1))) 19 (fun _ => 0)) 20 (fun _ => 0)) 22 (fun _ => 0)) = tk (X 24) n (a + 1) := hereF_tk (X := (upf (upf (upf (upf X 14 (fun _ => ((X 14 0) + 1))) 19 (fun _ => 0)) 20 (fun _ => 0)) 22 (fun _ => 0))) hn (by omega) e13 (by show X 14 0 + 1 = _; rw [e14, nI_1])
  have k1 : (upf (upf (upf (upf X 14 (fun _ => ((X 14 0) + 1))) 19 (fun _ => 0)) 20 (fun _ => 0)) 22 (fun _ => 0)) 14 0 = nI (a + 1) := by
    show X 14 0 + 1 = _
    rw [e14, nI_1]
  have k2 : (upf (upf (upf (upf X 14 (fun _ => (((X 14 0) + 1) + 1))) 19 (fun _ => 0)) 20 (fun _ => 0)) 22 (fun _ => 0)) 14 0 = nI (a + 1 + 1) := by
    show X 14 0 + 1 + 1 = _
    rw [e14, nI_1, nI_1]
  have hq7 : tk (X 24) n (a + 1) = 37 → hq (X 24) n (a + 1) = a + 1 + 1 := fun q => by
    unfold hq
    rw [if_pos q]
  have hq0 : ¬ tk (X 24) n (a + 1) = 37 → hq (X 24) n (a + 1) = a + 1 := fun q => by
    unfold hq
    rw [if_neg q]
  have hle : (X 13 0 ≤ X 14 0 + 1) ↔ n ≤ a + 1 := by
    rw [e13, e14, nI_1]
    exact nI_leI (by omega) (by omega)
  by_cases c34 : tk (X 24) n a = 34
  · have c40 : tk (X 24) n a ≤ 40 := by
      rw [c34]
      decide
    by_cases c37 : tk (X 24) n (a + 1) = 37
    · refine ⟨(upf (upf (upf (upf X 14 (fun _ => (((X 14 0) + 1) + 1))) 19 (fun _ => 0)) 20 (fun _ => 0)) 22 (fun _ => 0)), 1, 0, 1, ?_, hd_1, Or.inl ⟨c34, Or.inl c37, rfl, rfl, rfl, by rw [k2, hq7 c37]⟩⟩
      unfold f_M_partF
      rw [h0, h1, if_pos c34, if_pos c40, if_pos c37]
    · by_cases cn : X 13 0 ≤ X 14 0 + 1
      · refine ⟨(upf (upf (upf (upf X 14 (fun _ => ((X 14 0) + 1))) 19 (fun _ => 0)) 20 (fun _ => 0)) 22 (fun _ => 0)), 1, 0, 0, ?_, hd_1, Or.inr (Or.inl ⟨c34, ?_, rfl, rfl, rfl, k1⟩)⟩
        · unfold f_M_partF
          rw [h0, h1, if_pos c34, if_pos c40, if_neg c37, if_pos cn]
        · rintro (q | q)
          · exact c37 q
          · exact absurd (hle.mp cn) (by omega)
      · have cn' : a + 1 < n := by
          rcases Nat.lt_or_ge (a + 1) n with q | q
          · exact q
          · exact absurd (hle.mpr q) cn
        by_cases c35 : tk (X 24) n (a + 1) = 35
        · refine ⟨(upf (upf (upf (upf X 14 (fun _ => ((X 14 0) + 1))) 19 (fun _ => 0)) 20 (fun _ => 0)) 22 (fun _ => 0)), 1, 0, 0, ?_, hd_1, Or.inr (Or.inl ⟨c34, ?_, rfl, rfl, rfl, k1⟩)⟩
          · unfold f_M_partF
            rw [h0, h1, if_pos c34, if_pos c40, if_neg c37, if_neg cn, if_pos c35]
          · rintro (q | q)
            · exact c37 q
            · exact q.2.1 c35
        · by_cases c36 : tk (X 24) n (a + 1) = 36
          · refine ⟨(upf (upf (upf (upf X 14 (fun _ => ((X 14 0) + 1))) 19 (fun _ => 0)) 20 (fun _ => 0)) 22 (fun _ => 0)), 1, 0, 0, ?_, hd_1, Or.inr (Or.inl ⟨c34, ?_, rfl, rfl, rfl, k1⟩)⟩
            · unfold f_M_partF
              rw [h0, h1, if_pos c34, if_pos c40, if_neg c37, if_neg cn, if_neg c35, if_pos c36]
            · rintro (q | q)
              · exact c37 q
              · exact q.2.2 c36
          · refine ⟨(upf (upf (upf (upf X 14 (fun _ => ((X 14 0) + 1))) 19 (fun _ => 0)) 20 (fun _ => 0)) 22 (fun _ => 0)), 1, 0, 1, ?_, hd_1, Or.inl ⟨c34, Or.inr ⟨cn', c35, c36⟩, rfl, rfl, rfl, by rw [k1, hq0 c37]⟩⟩
            unfold f_M_partF
            rw [h0, h1, if_pos c34, if_pos c40, if_neg c37, if_neg cn, if_neg c35, if_neg c36]
  · by_cases c40 : tk (X 24) n a ≤ 40
    · refine ⟨(upf (upf (upf X 19 (fun _ => 0)) 20 (fun _ => 0)) 22 (fun _ => 0)), 0, 0, 1, ?_, hd_0, Or.inr (Or.inr (Or.inr ⟨c34, fun q => lt_nle.mp q c40, rfl, rfl, rfl, e14⟩))⟩
      unfold f_M_partF
      rw [h0, h1, if_neg c34, if_pos c40]
    · have g40 : 40 < tk (X 24) n a := lt_nle.mpr c40
      have p40 := sub_40 g40
      have np40 : ¬ tk (X 24) n a - 40 ≤ 0 := lt_nle.mp p40
      by_cases c37 : tk (X 24) n (a + 1) = 37
      · refine ⟨(upf (upf (upf (upf X 14 (fun _ => (((X 14 0) + 1) + 1))) 19 (fun _ => 0)) 20 (fun _ => 0)) 22 (fun _ => 0)), 0, tk (X 24) n a - 40, 1, ?_, hd_1, Or.inr (Or.inr (Or.inl ⟨c34, g40, rfl, rfl, rfl, by rw [k2, hq7 c37]⟩))⟩
        unfold f_M_partF
        rw [h0, h1, if_neg c34, if_neg c40, if_neg np40, if_pos c37, if_pos p40]
      · refine ⟨(upf (upf (upf (upf X 14 (fun _ => ((X 14 0) + 1))) 19 (fun _ => 0)) 20 (fun _ => 0)) 22 (fun _ => 0)), 0, tk (X 24) n a - 40, 1, ?_, hd_1, Or.inr (Or.inr (Or.inl ⟨c34, g40, rfl, rfl, rfl, by rw [k1, hq0 c37]⟩))⟩
        unfold f_M_partF
        rw [h0, h1, if_neg c34, if_neg c40, if_neg np40, if_neg c37, if_pos p40]
