def f_NC_endAt (S : Nat → Nat → Nat → Int32) (x1 x2 : Int32) : Int32 × (Nat → Nat → Nat → Int32) := (if x2 = 2 then (if x2 = 1 then (0, (f_NC_tell S x1 (-1) 0)) else (((-10) - x2), (f_NC_tell S x1 (-1) 0))) else (if x2 = 3 then (if x2 = 1 then (0, (f_NC_tell S x1 (-1) 0)) else (((-10) - x2), (f_NC_tell S x1 (-1) 0))) else (if x2 = 5 then (if x2 = 1 then (0, (f_NC_tell S x1 (-1) 0)) else (((-10) - x2), (f_NC_tell S x1 (-1) 0))) else (if x2 = 1 then (0, (f_NC_tell S x1 (-1) (f_bitCount ((S 0) 9 0)))) else (((-10) - x2), (f_NC_tell S x1 (-1) (f_bitCount ((S 0) 9 0))))))))
abbrev ws_NC_endAt : List Cond := .code y_NC_endAt b_NC_endAt 4 (some .int) :: lw_G
abbrev rm_NC_endAt : Room := { frames := 1, cells := 0, slots := 0, locals := 23 }
set_option maxHeartbeats 4000000 in
set_option maxRecDepth 100000 in
theorem c_NC_endAt (l : Launch) (dC : Nat → ClassId) (dI : Nat → Nat → Nat) (cA : ClassId) (sz : Nat) (ad : Nat → Nat → Nat) (S : Nat → Nat → Nat → Int32) (x1 x2 : Int32) : Met l y_NC_endAt ws_NC_endAt rm_NC_endAt (nc_PreM (dC, dI) cA sz [.ref ((ad 0) 0), .int x1, .int x2] (w_NC cA ad S)) (va_Qi (fun r (_ : Unit) => r = (f_NC_endAt S x1 x2).1) (fun _ t => va_P (dC, dI) classes (w_NC cA ad (f_NC_endAt S x1 x2).2) t.heap ∧ va_D (va_A (w_NC cA ad S) sz) (w_NC cA ad (f_NC_endAt S x1 x2).2)) (va_A (w_NC cA ad S) sz)) 0 0 (va_A (w_NC cA ad S) sz) := by
  refine Met.ofW (cc := b_NC_endAt) (maxL := 4) (ret := (some .int)) (by decide) rfl ?_
  intro p e s m args below meth c s₁ B hml hv
  obtain ⟨rfl, hsz, hP, hK, hD0, hN⟩ := hv
  have hx := B.exec
  have hb := B.bytes
  have hr := B.returns
  have hts : ∀ w ∈ lw_G, w.before [.ref ((ad 0) 0), .int x1, .int x2].toArray s = true := fun w h => atoms_spec (ws := ws_NC_endAt) B.pre w (List.mem_cons_of_mem _ h)
  have hown : s.vm.findClass R_NC = some m.cls := findClass_of_methodNamed B.named
  have hlocks := B.notSynchronized
  have hfix : CallFix p m c b_NC_endAt 4 s [.ref ((ad 0) 0), .int x1, .int x2].toArray lw_G R_NC := ⟨hx, hb, hml, hown, hts⟩
  subst hsz
  have hD := hD0.self (sz := s.heap.size)
  generalize hAe : va_A (w_NC cA ad S) s.heap.size = A at hD ⊢
  have hA : ∀ q : Nat, s.heap.size ≤ q → A q := fun q h => by rw [← hAe]; exact Or.inr h
  have hS : va_S A s.heap s.heap [] := va_S.rf
  have hl := lv_entry ([.ref ((ad 0) 0), .int x1, .int x2]) (n := 4) (Nat.le_of_ble_eq_true rfl)
  rw [lg_entry_eq]
  generalize (lg_sl ([.ref ((ad 0) 0), .int x1, .int x2]) ++ List.replicate (4 - (lg_sl ([.ref ((ad 0) 0), .int x1, .int x2])).length) Slot.unset).toArray = ls at hl ⊢
  have hl : lv_has ls 4 [(0, .ref ((ad 0) 0)), (1, .int x1), (2, .int x2)] := hl
  refine lv_iload_n hx hb d_NC_endAt_0 rfl (lv_at hl 2 rfl) ?_
  refine lv_iconst (v := 2) hx hb d_NC_endAt_1 (by decide) ?_
  refine lv_icmp_eq (tgt := 15) hx hb d_NC_endAt_2 (by decide) (fun c_269 => ?_) (fun c_269 => ?_)
  · refine lv_iconst (v := 1) hx hb d_NC_endAt_15 (by decide) ?_
    refine lv_goto (tgt := 20) hx hb d_NC_endAt_16 (by decide) ?_
    refine lv_istore_n (lv' := [(3, .int 1), (0, .ref ((ad 0) 0)), (1, .int x1), (2, .int x2)]) hx hb d_NC_endAt_20 rfl hl (by decide) rfl (fun ls hl => ?_)
    refine lv_aload_n hx hb d_NC_endAt_21 rfl (lv_at hl 1 rfl) ?_
    refine lv_iload_n hx hb d_NC_endAt_22 rfl (lv_at hl 2 rfl) ?_
    refine lv_iconst (v := (-1)) hx hb d_NC_endAt_23 (by decide) ?_
    refine lv_iload_n hx hb d_NC_endAt_24 rfl (lv_at hl 0 rfl) ?_
    refine lv_if_eq (tgt := 32) hx hb d_NC_endAt_25 (by decide) (fun c_270 => ?_) (fun c_270 => ?_)
    · exact absurd c_270 (by decide)
    · refine lv_iconst (v := 0) hx hb d_NC_endAt_28 (by decide) ?_
      refine lv_goto (tgt := 39) hx hb d_NC_endAt_29 (by decide) ?_
      have hFc := nc_free hD hS hA
      refine nc_muv (va_runV (As := [.int x1, .int (-1), .int 0]) (rest := []) hfix (c_NC_tell l dC dI cA s.heap.size ad S x1 (-1) 0) (k_NC_141 hts hN ⟨Nat.le_of_ble_eq_true rfl, Nat.le_of_ble_eq_true rfl⟩) (nc_preVM hK hN hP hD rfl rfl) rfl rfl hl.1 rfl (lv_room (Nat.le_of_ble_eq_true rfl)) d_NC_endAt_39 ⟨Nat.zero_le _, Nat.zero_le _⟩) hS hFc (fun H locs hP1 hD1 hk1 hS => ?_)
      have hP : va_P (dC, dI) classes (w_NC cA ad (f_NC_tell S x1 (-1) 0)) H := hP1
      have hD : va_D A (w_NC cA ad (f_NC_tell S x1 (-1) 0)) := hD1.weaken (fun _ q _ h => hFc q.1 h)
      refine lv_iload_n hx hb d_NC_endAt_42 rfl (lv_at hl 3 rfl) ?_
      refine lv_iconst (v := 1) hx hb d_NC_endAt_43 (by decide) ?_
      refine lv_icmp_ne (tgt := 51) hx hb d_NC_endAt_44 (by decide) (fun c_271 => ?_) (fun c_271 => ?_)
      · refine lv_bipush (v := (-10)) hx hb d_NC_endAt_51 (by decide) ?_
        refine lv_iload_n hx hb d_NC_endAt_53 rfl (lv_at hl 3 rfl) ?_
        refine lv_isub hx hb d_NC_endAt_54 ?_
        have hF : (f_NC_endAt S x1 x2) = (((-10) - x2), (f_NC_tell S x1 (-1) 0)) := by rw [f_NC_endAt, if_pos c_269, if_neg c_271]
        exact W.iret (v := ((-10) - x2)) hx hb hr (fun t ht hW => ⟨⟨((-10) - x2), (), rfl, by rw [hF], by rw [hF, ht]; exact hP, by rw [hF]; exact hD⟩, hS.F ht⟩) hS.2.2 d_NC_endAt_55
      · refine lv_iconst (v := 0) hx hb d_NC_endAt_47 (by decide) ?_
        refine lv_goto (tgt := 55) hx hb d_NC_endAt_48 (by decide) ?_
        have hF : (f_NC_endAt S x1 x2) = (0, (f_NC_tell S x1 (-1) 0)) := by rw [f_NC_endAt, if_pos c_269, if_pos c_271]
        exact W.iret (v := 0) hx hb hr (fun t ht hW => ⟨⟨0, (), rfl, by rw [hF], by rw [hF, ht]; exact hP, by rw [hF]; exact hD⟩, hS.F ht⟩) hS.2.2 d_NC_endAt_55
  · refine lv_iload_n hx hb d_NC_endAt_5 rfl (lv_at hl 2 rfl) ?_
    refine lv_iconst (v := 3) hx hb d_NC_endAt_6 (by decide) ?_
    refine lv_icmp_eq (tgt := 15) hx hb d_NC_endAt_7 (by decide) (fun c_272 => ?_) (fun c_272 => ?_)
    · refine lv_iconst (v := 1) hx hb d_NC_endAt_15 (by decide) ?_
      refine lv_goto (tgt := 20) hx hb d_NC_endAt_16 (by decide) ?_
      refine lv_istore_n (lv' := [(3, .int 1), (0, .ref ((ad 0) 0)), (1, .int x1), (2, .int x2)]) hx hb d_NC_endAt_20 rfl hl (by decide) rfl (fun ls hl => ?_)
      refine lv_aload_n hx hb d_NC_endAt_21 rfl (lv_at hl 1 rfl) ?_
      refine lv_iload_n hx hb d_NC_endAt_22 rfl (lv_at hl 2 rfl) ?_
      refine lv_iconst (v := (-1)) hx hb d_NC_endAt_23 (by decide) ?_
      refine lv_iload_n hx hb d_NC_endAt_24 rfl (lv_at hl 0 rfl) ?_
      refine lv_if_eq (tgt := 32) hx hb d_NC_endAt_25 (by decide) (fun c_273 => ?_) (fun c_273 => ?_)
      · exact absurd c_273 (by decide)
      · refine lv_iconst (v := 0) hx hb d_NC_endAt_28 (by decide) ?_
        refine lv_goto (tgt := 39) hx hb d_NC_endAt_29 (by decide) ?_
        have hFc := nc_free hD hS hA
        refine nc_muv (va_runV (As := [.int x1, .int (-1), .int 0]) (rest := []) hfix (c_NC_tell l dC dI cA s.heap.size ad S x1 (-1) 0) (k_NC_141 hts hN ⟨Nat.le_of_ble_eq_true rfl, Nat.le_of_ble_eq_true rfl⟩) (nc_preVM hK hN hP hD rfl rfl) rfl rfl hl.1 rfl (lv_room (Nat.le_of_ble_eq_true rfl)) d_NC_endAt_39 ⟨Nat.zero_le _, Nat.zero_le _⟩) hS hFc (fun H locs hP1 hD1 hk1 hS => ?_)
        have hP : va_P (dC, dI) classes (w_NC cA ad (f_NC_tell S x1 (-1) 0)) H := hP1
        have hD : va_D A (w_NC cA ad (f_NC_tell S x1 (-1) 0)) := hD1.weaken (fun _ q _ h => hFc q.1 h)
        refine lv_iload_n hx hb d_NC_endAt_42 rfl (lv_at hl 3 rfl) ?_
        refine lv_iconst (v := 1) hx hb d_NC_endAt_43 (by decide) ?_
        refine lv_icmp_ne (tgt := 51) hx hb d_NC_endAt_44 (by decide) (fun c_274 => ?_) (fun c_274 => ?_)
        · refine lv_bipush (v := (-10)) hx hb d_NC_endAt_51 (by decide) ?_
          refine lv_iload_n hx hb d_NC_endAt_53 rfl (lv_at hl 3 rfl) ?_
          refine lv_isub hx hb d_NC_endAt_54 ?_
          have hF : (f_NC_endAt S x1 x2) = (((-10) - x2), (f_NC_tell S x1 (-1) 0)) := by rw [f_NC_endAt, if_neg c_269, if_pos c_272, if_neg c_274]
          exact W.iret (v := ((-10) - x2)) hx hb hr (fun t ht hW => ⟨⟨((-10) - x2), (), rfl, by rw [hF], by rw [hF, ht]; exact hP, by rw [hF]; exact hD⟩, hS.F ht⟩) hS.2.2 d_NC_endAt_55
        · refine lv_iconst (v := 0) hx hb d_NC_endAt_47 (by decide) ?_
          refine lv_goto (tgt := 55) hx hb d_NC_endAt_48 (by decide) ?_
          have hF : (f_NC_endAt S x1 x2) = (0, (f_NC_tell S x1 (-1) 0)) := by rw [f_NC_endAt, if_neg c_269, if_pos c_272, if_pos c_274]
          exact W.iret (v := 0) hx hb hr (fun t ht hW => ⟨⟨0, (), rfl, by rw [hF], by rw [hF, ht]; exact hP, by rw [hF]; exact hD⟩, hS.F ht⟩) hS.2.2 d_NC_endAt_55
    · refine lv_iload_n hx hb d_NC_endAt_10 rfl (lv_at hl 2 rfl) ?_
      refine lv_iconst (v := 5) hx hb d_NC_endAt_11 (by decide) ?_
      refine lv_icmp_ne (tgt := 19) hx hb d_NC_endAt_12 (by decide) (fun c_275 => ?_) (fun c_275 => ?_)
      · refine lv_iconst (v := 0) hx hb d_NC_endAt_19 (by decide) ?_
        refine lv_istore_n (lv' := [(3, .int 0), (0, .ref ((ad 0) 0)), (1, .int x1), (2, .int x2)]) hx hb d_NC_endAt_20 rfl hl (by decide) rfl (fun ls hl => ?_)
        refine lv_aload_n hx hb d_NC_endAt_21 rfl (lv_at hl 1 rfl) ?_
        refine lv_iload_n hx hb d_NC_endAt_22 rfl (lv_at hl 2 rfl) ?_
        refine lv_iconst (v := (-1)) hx hb d_NC_endAt_23 (by decide) ?_
        refine lv_iload_n hx hb d_NC_endAt_24 rfl (lv_at hl 0 rfl) ?_
        refine lv_if_eq (tgt := 32) hx hb d_NC_endAt_25 (by decide) (fun c_276 => ?_) (fun c_276 => ?_)
        · refine lv_aload_n hx hb d_NC_endAt_32 rfl (lv_at hl 1 rfl) ?_
          refine va_get (D := (dC, dI)) (ci := 0) (v := .int ((S 0) 9 0)) (C := R_NC) (T := F_NC) (N := 15) hx hb hts i_NC hown hK hP 0 rfl rfl 9 (by decide) (hts _ m_f_NC_50) (fun _ h9 => h9) rfl d_NC_endAt_33 ?_
          refine nc_ro (va_runS (As := [.int ((S 0) 9 0)]) (rest := [.int (-1), .int x1, .ref ((ad 0) 0)]) hfix (c_bitCount l dC dI cA ((S 0) 9 0)) (k_NC_154 hts hN ⟨Nat.le_of_ble_eq_true rfl, Nat.le_of_ble_eq_true rfl⟩) (nc_preS0 hK hN) rfl rfl hl.1 rfl (lv_room (Nat.le_of_ble_eq_true rfl)) d_NC_endAt_36 ⟨Nat.zero_le _, Nat.zero_le _⟩) (fun r er => ?_)
          subst er
          have hFc := nc_free hD hS hA
          refine nc_muv (va_runV (As := [.int x1, .int (-1), .int (f_bitCount ((S 0) 9 0))]) (rest := []) hfix (c_NC_tell l dC dI cA s.heap.size ad S x1 (-1) (f_bitCount ((S 0) 9 0))) (k_NC_141 hts hN ⟨Nat.le_of_ble_eq_true rfl, Nat.le_of_ble_eq_true rfl⟩) (nc_preVM hK hN hP hD rfl rfl) rfl rfl hl.1 rfl (lv_room (Nat.le_of_ble_eq_true rfl)) d_NC_endAt_39 ⟨Nat.zero_le _, Nat.zero_le _⟩) hS hFc (fun H locs hP1 hD1 hk1 hS => ?_)
          have hP : va_P (dC, dI) classes (w_NC cA ad (f_NC_tell S x1 (-1) (f_bitCount ((S 0) 9 0)))) H := hP1
          have hD : va_D A (w_NC cA ad (f_NC_tell S x1 (-1) (f_bitCount ((S 0) 9 0)))) := hD1.weaken (fun _ q _ h => hFc q.1 h)
          refine lv_iload_n hx hb d_NC_endAt_42 rfl (lv_at hl 3 rfl) ?_
          refine lv_iconst (v := 1) hx hb d_NC_endAt_43 (by decide) ?_
          refine lv_icmp_ne (tgt := 51) hx hb d_NC_endAt_44 (by decide) (fun c_277 => ?_) (fun c_277 => ?_)
          · refine lv_bipush (v := (-10)) hx hb d_NC_endAt_51 (by decide) ?_
            refine lv_iload_n hx hb d_NC_endAt_53 rfl (lv_at hl 3 rfl) ?_
            refine lv_isub hx hb d_NC_endAt_54 ?_
            have hF : (f_NC_endAt S x1 x2) = (((-10) - x2), (f_NC_tell S x1 (-1) (f_bitCount ((S 0) 9 0)))) := by rw [f_NC_endAt, if_neg c_269, if_neg c_272, if_neg c_275, if_neg c_277]
            exact W.iret (v := ((-10) - x2)) hx hb hr (fun t ht hW => ⟨⟨((-10) - x2), (), rfl, by rw [hF], by rw [hF, ht]; exact hP, by rw [hF]; exact hD⟩, hS.F ht⟩) hS.2.2 d_NC_endAt_55
          · refine lv_iconst (v := 0) hx hb d_NC_endAt_47 (by decide) ?_
            refine lv_goto (tgt := 55) hx hb d_NC_endAt_48 (by decide) ?_
            have hF : (f_NC_endAt S x1 x2) = (0, (f_NC_tell S x1 (-1) (f_bitCount ((S 0) 9 0)))) := by rw [f_NC_endAt, if_neg c_269, if_neg c_272, if_neg c_275, if_pos c_277]
            exact W.iret (v := 0) hx hb hr (fun t ht hW => ⟨⟨0, (), rfl, by rw [hF], by rw [hF, ht]; exact hP, by rw [hF]; exact hD⟩, hS.F ht⟩) hS.2.2 d_NC_endAt_55
        · exact absurd c_276 (by decide)
      · refine lv_iconst (v := 1) hx hb d_NC_endAt_15 (by decide) ?_
        refine lv_goto (tgt := 20) hx hb d_NC_endAt_16 (by decide) ?_
        refine lv_istore_n (lv' := [(3, .int 1), (0, .ref ((ad 0) 0)), (1, .int x1), (2, .int x2)]) hx hb d_NC_endAt_20 rfl hl (by decide) rfl (fun ls hl => ?_)
        refine lv_aload_n hx hb d_NC_endAt_21 rfl (lv_at hl 1 rfl) ?_
        refine lv_iload_n hx hb d_NC_endAt_22 rfl (lv_at hl 2 rfl) ?_
        refine lv_iconst (v := (-1)) hx hb d_NC_endAt_23 (by decide) ?_
        refine lv_iload_n hx hb d_NC_endAt_24 rfl (lv_at hl 0 rfl) ?_
        refine lv_if_eq (tgt := 32) hx hb d_NC_endAt_25 (by decide) (fun c_278 => ?_) (fun c_278 => ?_)
        · exact absurd c_278 (by decide)
        · refine lv_iconst (v := 0) hx hb d_NC_endAt_28 (by decide) ?_
          refine lv_goto (tgt := 39) hx hb d_NC_endAt_29 (by decide) ?_
          have hFc := nc_free hD hS hA
          refine nc_muv (va_runV (As := [.int x1, .int (-1), .int 0]) (rest := []) hfix (c_NC_tell l dC dI cA s.heap.size ad S x1 (-1) 0) (k_NC_141 hts hN ⟨Nat.le_of_ble_eq_true rfl, Nat.le_of_ble_eq_true rfl⟩) (nc_preVM hK hN hP hD rfl rfl) rfl rfl hl.1 rfl (lv_room (Nat.le_of_ble_eq_true rfl)) d_NC_endAt_39 ⟨Nat.zero_le _, Nat.zero_le _⟩) hS hFc (fun H locs hP1 hD1 hk1 hS => ?_)
          have hP : va_P (dC, dI) classes (w_NC cA ad (f_NC_tell S x1 (-1) 0)) H := hP1
          have hD : va_D A (w_NC cA ad (f_NC_tell S x1 (-1) 0)) := hD1.weaken (fun _ q _ h => hFc q.1 h)
          refine lv_iload_n hx hb d_NC_endAt_42 rfl (lv_at hl 3 rfl) ?_
          refine lv_iconst (v := 1) hx hb d_NC_endAt_43 (by decide) ?_
          refine lv_icmp_ne (tgt := 51) hx hb d_NC_endAt_44 (by decide) (fun c_279 => ?_) (fun c_279 => ?_)
          · refine lv_bipush (v := (-10)) hx hb d_NC_endAt_51 (by decide) ?_
            refine lv_iload_n hx hb d_NC_endAt_53 rfl (lv_at hl 3 rfl) ?_
            refine lv_isub hx hb d_NC_endAt_54 ?_
            have hF : (f_NC_endAt S x1 x2) = (((-10) - x2), (f_NC_tell S x1 (-1) 0)) := by rw [f_NC_endAt, if_neg c_269, if_neg c_272, if_pos c_275, if_neg c_279]
            exact W.iret (v := ((-10) - x2)) hx hb hr (fun t ht hW => ⟨⟨((-10) - x2), (), rfl, by rw [hF], by rw [hF, ht]; exact hP, by rw [hF]; exact hD⟩, hS.F ht⟩) hS.2.2 d_NC_endAt_55
          · refine lv_iconst (v := 0) hx hb d_NC_endAt_47 (by decide) ?_
            refine lv_goto (tgt := 55) hx hb d_NC_endAt_48 (by decide) ?_
            have hF : (f_NC_endAt S x1 x2) = (0, (f_NC_tell S x1 (-1) 0)) := by rw [f_NC_endAt, if_neg c_269, if_neg c_272, if_pos c_275, if_pos c_279]
            exact W.iret (v := 0) hx hb hr (fun t ht hW => ⟨⟨0, (), rfl, by rw [hF], by rw [hF, ht]; exact hP, by rw [hF]; exact hD⟩, hS.F ht⟩) hS.2.2 d_NC_endAt_55
def f_NC_takeExceptsAway_L18 (x1 : Int32) (y2 : Int32) : Nat → (Nat → Nat → Nat → Int32) → Int32 → Int32 × (Nat → Nat → Nat → Int32)
  | 0, S, z3 => (0, S)
  | n + 1, S, z3 => (if y2 ≤ z3 then (1, S) else (if (((S 0) 9 0) &&& (f_NC_fittingSetP S z3 3)) = 0 then (0, S) else (f_NC_takeExceptsAway_L18 x1 y2 n (upr S 0 (upf (S 0) 9 (fun _ => (((S 0) 9 0) &&& ((((S 0) 9 0) &&& (f_NC_fittingSetP S z3 3)) ^^^ (-1)))))) (z3 + 1))))
def f_NC_takeExceptsAway (S : Nat → Nat → Nat → Int32) (x1 : Int32) : Int32 × (Nat → Nat → Nat → Int32) := (f_NC_takeExceptsAway_L18 x1 (f_Phrase_exceptsEnd (S 2) x1) (nc_mu (f_Phrase_exceptsEnd (S 2) x1) (f_Phrase_exceptsStart (S 2) x1) + 1) S (f_Phrase_exceptsStart (S 2) x1))
abbrev ws_NC_takeExceptsAway : List Cond := .code y_NC_takeExceptsAway b_NC_takeExceptsAway 5 (some .boolean) :: lw_G
abbrev rm_NC_takeExceptsAway : Room := { frames := 3, cells := 0, slots := 0, locals := 74 }
set_option maxHeartbeats 4000000 in
set_option maxRecDepth 100000 in
theorem c_NC_takeExceptsAway (l : Launch) (dC : Nat → ClassId) (dI : Nat → Nat → Nat) (cA : ClassId) (sz : Nat) (ad : Nat → Nat → Nat) (S : Nat → Nat → Nat → Int32) (x1 : Int32) : Met l y_NC_takeExceptsAway ws_NC_takeExceptsAway rm_NC_takeExceptsAway (nc_PreM (dC, dI) cA sz [.ref ((ad 0) 0), .int x1] (w_NC cA ad S)) (va_Qi (fun r (_ : Unit) => (r = (f_NC_takeExceptsAway S x1).1 ∧ narrow .boolean (.int r) = .int r)) (fun _ t => va_P (dC, dI) classes (w_NC cA ad (f_NC_takeExceptsAway S x1).2) t.heap ∧ va_D (va_A (w_NC cA ad S) sz) (w_NC cA ad (f_NC_takeExceptsAway S x1).2)) (va_A (w_NC cA ad S) sz)) 0 0 (va_A (w_NC cA ad S) sz) := by
  refine Met.ofW (cc := b_NC_takeExceptsAway) (maxL := 5) (ret := (some .boolean)) (by decide) rfl ?_
  intro p e s m args below meth c s₁ B hml hv
  obtain ⟨rfl, hsz, hP, hK, hD0, hN⟩ := hv
  have hx := B.exec
  have hb := B.bytes
  have hr := B.returns
  have hts : ∀ w ∈ lw_G, w.before [.ref ((ad 0) 0), .int x1].toArray s = true := fun w h => atoms_spec (ws := ws_NC_takeExceptsAway) B.pre w (List.mem_cons_of_mem _ h)
  have hown : s.vm.findClass R_NC = some m.cls := findClass_of_methodNamed B.named
  have hlocks := B.notSynchronized
  have hfix : CallFix p m c b_NC_takeExceptsAway 5 s [.ref ((ad 0) 0), .int x1].toArray lw_G R_NC := ⟨hx, hb, hml, hown, hts⟩
  subst hsz
  have hD := hD0.self (sz := s.heap.size)
  generalize hAe : va_A (w_NC cA ad S) s.heap.size = A at hD ⊢
  have hA : ∀ q : Nat, s.heap.size ≤ q → A q := fun q h => by rw [← hAe]; exact Or.inr h
  have hS : va_S A s.heap s.heap [] := va_S.rf
  have hl := lv_entry ([.ref ((ad 0) 0), .int x1]) (n := 5) (Nat.le_of_ble_eq_true rfl)
  rw [lg_entry_eq]
  generalize (lg_sl ([.ref ((ad 0) 0), .int x1]) ++ List.replicate (5 - (lg_sl ([.ref ((ad 0) 0), .int x1])).length) Slot.unset).toArray = ls at hl ⊢
  have hl : lv_has ls 5 [(0, .ref ((ad 0) 0)), (1, .int x1)] := hl
  refine lv_aload_n hx hb d_NC_takeExceptsAway_0 rfl (lv_at hl 0 rfl) ?_
  refine va_get (D := (dC, dI)) (ci := 0) (v := .ref ((ad 2) 0)) (C := R_NC) (T := F_NC) (N := 15) hx hb hts i_NC hown hK hP 0 rfl rfl 4 (by decide) (hts _ m_f_NC_30) (fun _ h9 => h9) rfl d_NC_takeExceptsAway_1 ?_
  refine lv_iload_n hx hb d_NC_takeExceptsAway_4 rfl (lv_at hl 1 rfl) ?_
  have hP_w_280 := hP.sub (ws' := (w_Phrase cA (ad 2) (S 2))) [11, 12, 13, 14, 15, 16, 17, 18] rfl
  have hD_w_280 := hD.sub (ws' := (w_Phrase cA (ad 2) (S 2))) [11, 12, 13, 14, 15, 16, 17, 18] (by decide) rfl
  refine nc_ro (va_runV (As := [.int x1]) (rest := []) hfix (c_Phrase_exceptsEnd l dC dI cA (ad 2) (S 2) x1) (k_NC_210 hts hN ⟨Nat.le_of_ble_eq_true rfl, Nat.le_of_ble_eq_true rfl⟩) (nc_preV hK hN hP_w_280 hD_w_280 rfl rfl) rfl rfl hl.1 rfl (lv_room (Nat.le_of_ble_eq_true rfl)) d_NC_takeExceptsAway_5 ⟨Nat.zero_le _, Nat.zero_le _⟩) (fun r er => ?_)
  subst er
  refine lv_istore_n (lv' := [(2, .int (f_Phrase_exceptsEnd (S 2) x1)), (0, .ref ((ad 0) 0)), (1, .int x1)]) hx hb d_NC_takeExceptsAway_8 rfl hl (by decide) rfl (fun ls hl => ?_)
  refine lv_aload_n hx hb d_NC_takeExceptsAway_9 rfl (lv_at hl 1 rfl) ?_
  refine va_get (D := (dC, dI)) (ci := 0) (v := .ref ((ad 2) 0)) (C := R_NC) (T := F_NC) (N := 15) hx hb hts i_NC hown hK hP 0 rfl rfl 4 (by decide) (hts _ m_f_NC_30) (fun _ h9 => h9) rfl d_NC_takeExceptsAway_10 ?_
  refine lv_iload_n hx hb d_NC_takeExceptsAway_13 rfl (lv_at hl 2 rfl) ?_
  refine nc_ro (va_runV (As := [.int x1]) (rest := []) hfix (c_Phrase_exceptsStart l dC dI cA (ad 2) (S 2) x1) (k_NC_213 hts hN ⟨Nat.le_of_ble_eq_true rfl, Nat.le_of_ble_eq_true rfl⟩) (nc_preV hK hN hP_w_280 hD_w_280 rfl rfl) rfl rfl hl.1 rfl (lv_room (Nat.le_of_ble_eq_true rfl)) d_NC_takeExceptsAway_14 ⟨Nat.zero_le _, Nat.zero_le _⟩) (fun r er => ?_)
  subst er
  refine lv_istore_n (lv' := [(3, .int (f_Phrase_exceptsStart (S 2) x1)), (2, .int (f_Phrase_exceptsEnd (S 2) x1)), (0, .ref ((ad 0) 0)), (1, .int x1)]) hx hb d_NC_takeExceptsAway_17 rfl hl (by decide) rfl (fun ls hl => ?_)
  have loop_18 : ∀ (n : Nat) (Sq : (Nat → Nat → Nat → Int32)) (z3 : Int32) (H : Heap) (locs : List Loc) (ls : Array Slot), (f_NC_takeExceptsAway S x1) = (f_NC_takeExceptsAway_L18 x1 (f_Phrase_exceptsEnd (S 2) x1) n Sq z3) → nc_mu (f_Phrase_exceptsEnd (S 2) x1) z3 < n → va_P (dC, dI) classes (w_NC cA ad Sq) H → va_D A (w_NC cA ad Sq) → va_S A s.heap H locs → lv_has ls 5 [(0, .ref ((ad 0) 0)), (1, .int x1), (2, .int (f_Phrase_exceptsEnd (S 2) x1)), (3, .int z3)] → W p l e (headSpec ws_NC_takeExceptsAway rm_NC_takeExceptsAway).room s m [.ref ((ad 0) 0), .int x1].toArray below meth c H locs 0 0 (MQ below (va_Qi (fun r (_ : Unit) => (r = (f_NC_takeExceptsAway S x1).1 ∧ narrow .boolean (.int r) = .int r)) (fun _ t => va_P (dC, dI) classes (w_NC cA ad (f_NC_takeExceptsAway S x1).2) t.heap ∧ va_D A (w_NC cA ad (f_NC_takeExceptsAway S x1).2)) A) [.ref ((ad 0) 0), .int x1].toArray s 0 0 A) (F0 m 18 ls []) := by
    intro n
    induction n with
    | zero =>
      intro Sq z3 H locs ls hE hm hP hD hS hl
      exact absurd hm (Nat.not_lt_zero _)
    | succ n ih =>
      intro Sq z3 H locs ls hE hm hP hD hS hl
      refine lv_iload_n hx hb d_NC_takeExceptsAway_18 rfl (lv_at hl 3 rfl) ?_
      refine lv_iload_n hx hb d_NC_takeExceptsAway_19 rfl (lv_at hl 2 rfl) ?_
      refine lv_icmp_ge (tgt := 66) hx hb d_NC_takeExceptsAway_20 (by decide) (fun c_281 => ?_) (fun c_281 => ?_)
      · refine lv_iconst (v := 1) hx hb d_NC_takeExceptsAway_66 (by decide) ?_
        have hF : (f_NC_takeExceptsAway S x1) = (1, Sq) := by rw [hE, f_NC_takeExceptsAway_L18, if_pos c_281]
        exact W.zret (v := 1) hx hb hr rfl (fun t ht hW => ⟨⟨1, (), rfl, ⟨by rw [hF], rfl⟩, by rw [hF, ht]; exact hP, by rw [hF]; exact hD⟩, hS.F ht⟩) hS.2.2 d_NC_takeExceptsAway_67
      · refine lv_aload_n hx hb d_NC_takeExceptsAway_23 rfl (lv_at hl 0 rfl) ?_
        refine va_get (D := (dC, dI)) (ci := 0) (v := .int ((Sq 0) 9 0)) (C := R_NC) (T := F_NC) (N := 15) hx hb hts i_NC hown hK hP 0 rfl rfl 9 (by decide) (hts _ m_f_NC_50) (fun _ h9 => h9) rfl d_NC_takeExceptsAway_24 ?_
        refine lv_aload_n hx hb d_NC_takeExceptsAway_27 rfl (lv_at hl 0 rfl) ?_
        refine lv_aload_n hx hb d_NC_takeExceptsAway_28 rfl (lv_at hl 0 rfl) ?_
        refine va_get (D := (dC, dI)) (ci := 0) (v := .ref ((ad 2) 0)) (C := R_NC) (T := F_NC) (N := 15) hx hb hts i_NC hown hK hP 0 rfl rfl 4 (by decide) (hts _ m_f_NC_30) (fun _ h9 => h9) rfl d_NC_takeExceptsAway_29 ?_
        refine lv_iload_n hx hb d_NC_takeExceptsAway_32 rfl (lv_at hl 3 rfl) ?_
        refine lv_iconst (v := 3) hx hb d_NC_takeExceptsAway_33 (by decide) ?_
        refine nc_ro (va_runV (As := [.ref ((ad 2) 0), .int z3, .int 3]) (rest := [.int ((Sq 0) 9 0)]) hfix (c_NC_fittingSetP l dC dI cA ad Sq z3 3) (k_NC_122 hts hN ⟨Nat.le_of_ble_eq_true rfl, Nat.le_of_ble_eq_true rfl⟩) (nc_preV hK hN hP hD rfl rfl) rfl rfl hl.1 rfl (lv_room (Nat.le_of_ble_eq_true rfl)) d_NC_takeExceptsAway_34 ⟨Nat.zero_le _, Nat.zero_le _⟩) (fun r er => ?_)
        subst er
        refine lv_iand hx hb d_NC_takeExceptsAway_37 ?_
        refine lv_istore (lv' := [(4, .int (((Sq 0) 9 0) &&& (f_NC_fittingSetP Sq z3 3))), (0, .ref ((ad 0) 0)), (1, .int x1), (2, .int (f_Phrase_exceptsEnd (S 2) x1)), (3, .int z3)]) hx hb d_NC_takeExceptsAway_38 hl (by decide) rfl (fun ls hl => ?_)
        refine lv_iload hx hb d_NC_takeExceptsAway_40 (lv_at hl 0 rfl) ?_
        refine lv_if_ne (tgt := 47) hx hb d_NC_takeExceptsAway_42 (by decide) (fun c_282 => ?_) (fun c_282 => ?_)
        · refine lv_aload_n hx hb d_NC_takeExceptsAway_47 rfl (lv_at hl 1 rfl) ?_
          refine lv_dup hx hb d_NC_takeExceptsAway_48 rfl ?_
          refine va_get (D := (dC, dI)) (ci := 0) (v := .int ((Sq 0) 9 0)) (C := R_NC) (T := F_NC) (N := 15) hx hb hts i_NC hown hK hP 0 rfl rfl 9 (by decide) (hts _ m_f_NC_50) (fun _ h9 => h9) rfl d_NC_takeExceptsAway_49 ?_
          refine lv_iload hx hb d_NC_takeExceptsAway_52 (lv_at hl 0 rfl) ?_
          refine lv_iconst (v := (-1)) hx hb d_NC_takeExceptsAway_54 (by decide) ?_
          refine lv_ixor hx hb d_NC_takeExceptsAway_55 ?_
          refine lv_iand hx hb d_NC_takeExceptsAway_56 ?_
          refine va_put (D := (dC, dI)) (ci := 0) (v := .int (((Sq 0) 9 0) &&& ((((Sq 0) 9 0) &&& (f_NC_fittingSetP Sq z3 3)) ^^^ (-1)))) (ty := .int) (C := R_NC) (T := F_NC) (N := 15) hx hb hts i_NC t_NC t_NC_ok n_NC hown hK hP hD hS 0 rfl rfl 9 (by decide) (hts _ m_f_NC_50) (fun _ h9 => h9) rfl (by decide +kernel) rfl rfl (Nat.le_of_ble_eq_true rfl) d_NC_takeExceptsAway_57 (fun H locs hP hD hS => ?_)
          have hP : va_P (dC, dI) classes (w_NC cA ad (upr Sq 0 (upf (Sq 0) 9 (fun _ => (((Sq 0) 9 0) &&& ((((Sq 0) 9 0) &&& (f_NC_fittingSetP Sq z3 3)) ^^^ (-1))))))) H := hP
          have hD : va_D A (w_NC cA ad (upr Sq 0 (upf (Sq 0) 9 (fun _ => (((Sq 0) 9 0) &&& ((((Sq 0) 9 0) &&& (f_NC_fittingSetP Sq z3 3)) ^^^ (-1))))))) := hD
          refine lv_iinc (v := (z3 + 1)) (lv' := [(3, .int (z3 + 1)), (4, .int (((Sq 0) 9 0) &&& (f_NC_fittingSetP Sq z3 3))), (0, .ref ((ad 0) 0)), (1, .int x1), (2, .int (f_Phrase_exceptsEnd (S 2) x1))]) hx hb d_NC_takeExceptsAway_60 hl (k := 4) rfl rfl (by decide) rfl (fun ls hl => ?_)
          refine lv_goto (tgt := 18) hx hb d_NC_takeExceptsAway_63 (by decide) ?_
          exact ih (upr Sq 0 (upf (Sq 0) 9 (fun _ => (((Sq 0) 9 0) &&& ((((Sq 0) 9 0) &&& (f_NC_fittingSetP Sq z3 3)) ^^^ (-1)))))) (z3 + 1) H locs ls (by rw [hE, f_NC_takeExceptsAway_L18, if_neg c_281, if_neg c_282]) (nc_mu_step c_281 hm) hP hD hS (lv_sub hl [2, 3, 4, 0] rfl)
        · refine lv_iconst (v := 0) hx hb d_NC_takeExceptsAway_45 (by decide) ?_
          have hF : (f_NC_takeExceptsAway S x1) = (0, Sq) := by rw [hE, f_NC_takeExceptsAway_L18, if_neg c_281, if_pos c_282]
          exact W.zret (v := 0) hx hb hr rfl (fun t ht hW => ⟨⟨0, (), rfl, ⟨by rw [hF], rfl⟩, by rw [hF, ht]; exact hP, by rw [hF]; exact hD⟩, hS.F ht⟩) hS.2.2 d_NC_takeExceptsAway_46
  exact loop_18 (nc_mu (f_Phrase_exceptsEnd (S 2) x1) (f_Phrase_exceptsStart (S 2) x1) + 1) S (f_Phrase_exceptsStart (S 2) x1) s.heap [] ls (by rw [f_NC_takeExceptsAway]) (Nat.lt_succ_self _) hP hD hS (lv_sub hl [2, 3, 1, 0] rfl)
theorem tea_rL {x1 y2 : Int32} {r : Nat} (hr : Nat.beq r 0 = false) : ∀ (n : Nat) (S : Nat → Nat → Nat → Int32) (z : Int32), (f_NC_takeExceptsAway_L18 x1 y2 n S z).2 r = S r := by
  intro n
  induction n with
  | zero => intro S z; rfl
  | succ n ih =>
    intro S z
    rw [f_NC_takeExceptsAway_L18]
    repeat' split
    all_goals first | rfl | (rw [ih]; unfold upr; rw [hr])
theorem tea_r {S : Nat → Nat → Nat → Int32} {x1 : Int32} {r : Nat} (hr : Nat.beq r 0 = false) : (f_NC_takeExceptsAway S x1).2 r = S r := by
  unfold f_NC_takeExceptsAway
  exact tea_rL hr _ _ _
theorem tea_z {S : Nat → Nat → Nat → Int32} {x1 : Int32} (hg : 0 ≤ ((S 5) 1 0).toInt) : 0 ≤ (((f_NC_takeExceptsAway S x1).2 5) 1 0).toInt := by
  rw [tea_r rfl]
  exact hg
def f_NC_giveNumber_L21 (S : Nat → Nat → Nat → Int32) (x1 : Int32) : Nat → Int32 → Int32 → Int32 × (Nat → Nat → Nat → Int32)
  | 0, z3, z2 => (0, S)
  | n + 1, z3, z2 => (if x1 ≤ z3 then (0, (upr S 5 (f_Picks_add (S 5) (((S 0) 9 0) &&& (z2 ^^^ (-1)))))) else (f_NC_giveNumber_L21 S x1 n (z3 + 1) (z2 &&& ((f_NC_leastOf (f_NC_bestOf S z2)) ^^^ (-1)))))
def f_NC_giveNumber (S : Nat → Nat → Nat → Int32) (x1 : Int32) : Int32 × (Nat → Nat → Nat → Int32) := (if x1 ≤ (f_bitCount ((S 0) 9 0)) then (f_NC_giveNumber_L21 S x1 (nc_mu x1 0 + 1) 0 ((S 0) 9 0)) else (6, S))
abbrev ws_NC_giveNumber : List Cond := .code y_NC_giveNumber b_NC_giveNumber 4 (some .int) :: lw_G
abbrev rm_NC_giveNumber : Room := { frames := 3, cells := 0, slots := 0, locals := 69 }
set_option maxHeartbeats 4000000 in
set_option maxRecDepth 100000 in
theorem c_NC_giveNumber (l : Launch) (dC : Nat → ClassId) (dI : Nat → Nat → Nat) (cA : ClassId) (sz : Nat) (ad : Nat → Nat → Nat) (S : Nat → Nat → Nat → Int32) (x1 : Int32) (hg : 0 ≤ ((S 5) 1 0).toInt) : Met l y_NC_giveNumber ws_NC_giveNumber rm_NC_giveNumber (nc_PreM (dC, dI) cA sz [.ref ((ad 0) 0), .int x1] (w_NC cA ad S)) (va_Qi (fun r (_ : Unit) => r = (f_NC_giveNumber S x1).1) (fun _ t => va_P (dC, dI) classes (w_NC cA ad (f_NC_giveNumber S x1).2) t.heap ∧ va_D (va_A (w_NC cA ad S) sz) (w_NC cA ad (f_NC_giveNumber S x1).2)) (va_A (w_NC cA ad S) sz)) 0 0 (va_A (w_NC cA ad S) sz) := by
  refine Met.ofW (cc := b_NC_giveNumber) (maxL := 4) (ret := (some .int)) (by decide) rfl ?_
  intro p e s m args below meth c s₁ B hml hv
  obtain ⟨rfl, hsz, hP, hK, hD0, hN⟩ := hv
  have hx := B.exec
  have hb := B.bytes
  have hr := B.returns
  have hts : ∀ w ∈ lw_G, w.before [.ref ((ad 0) 0), .int x1].toArray s = true := fun w h => atoms_spec (ws := ws_NC_giveNumber) B.pre w (List.mem_cons_of_mem _ h)
  have hown : s.vm.findClass R_NC = some m.cls := findClass_of_methodNamed B.named
  have hlocks := B.notSynchronized
  have hfix : CallFix p m c b_NC_giveNumber 4 s [.ref ((ad 0) 0), .int x1].toArray lw_G R_NC := ⟨hx, hb, hml, hown, hts⟩
  subst hsz
  have hD := hD0.self (sz := s.heap.size)
  generalize hAe : va_A (w_NC cA ad S) s.heap.size = A at hD ⊢
  have hA : ∀ q : Nat, s.heap.size ≤ q → A q := fun q h => by rw [← hAe]; exact Or.inr h
  have hS : va_S A s.heap s.heap [] := va_S.rf
  have hl := lv_entry ([.ref ((ad 0) 0), .int x1]) (n := 4) (Nat.le_of_ble_eq_true rfl)
  rw [lg_entry_eq]
  generalize (lg_sl ([.ref ((ad 0) 0), .int x1]) ++ List.replicate (4 - (lg_sl ([.ref ((ad 0) 0), .int x1])).length) Slot.unset).toArray = ls at hl ⊢
  have hl : lv_has ls 4 [(0, .ref ((ad 0) 0)), (1, .int x1)] := hl
  refine lv_aload_n hx hb d_NC_giveNumber_0 rfl (lv_at hl 0 rfl) ?_
  refine va_get (D := (dC, dI)) (ci := 0) (v := .int ((S 0) 9 0)) (C := R_NC) (T := F_NC) (N := 15) hx hb hts i_NC hown hK hP 0 rfl rfl 9 (by decide) (hts _ m_f_NC_50) (fun _ h9 => h9) rfl d_NC_giveNumber_1 ?_
  refine nc_ro (va_runS (As := [.int ((S 0) 9 0)]) (rest := []) hfix (c_bitCount l dC dI cA ((S 0) 9 0)) (k_NC_154 hts hN ⟨Nat.le_of_ble_eq_true rfl, Nat.le_of_ble_eq_true rfl⟩) (nc_preS0 hK hN) rfl rfl hl.1 rfl (lv_room (Nat.le_of_ble_eq_true rfl)) d_NC_giveNumber_4 ⟨Nat.zero_le _, Nat.zero_le _⟩) (fun r er => ?_)
  subst er
  refine lv_iload_n hx hb d_NC_giveNumber_7 rfl (lv_at hl 1 rfl) ?_
  refine lv_icmp_ge (tgt := 14) hx hb d_NC_giveNumber_8 (by decide) (fun c_283 => ?_) (fun c_283 => ?_)
  · refine lv_aload_n hx hb d_NC_giveNumber_14 rfl (lv_at hl 0 rfl) ?_
    refine va_get (D := (dC, dI)) (ci := 0) (v := .int ((S 0) 9 0)) (C := R_NC) (T := F_NC) (N := 15) hx hb hts i_NC hown hK hP 0 rfl rfl 9 (by decide) (hts _ m_f_NC_50) (fun _ h9 => h9) rfl d_NC_giveNumber_15 ?_
    refine lv_istore_n (lv' := [(2, .int ((S 0) 9 0)), (0, .ref ((ad 0) 0)), (1, .int x1)]) hx hb d_NC_giveNumber_18 rfl hl (by decide) rfl (fun ls hl => ?_)
    refine lv_iconst (v := 0) hx hb d_NC_giveNumber_19 (by decide) ?_
    refine lv_istore_n (lv' := [(3, .int 0), (2, .int ((S 0) 9 0)), (0, .ref ((ad 0) 0)), (1, .int x1)]) hx hb d_NC_giveNumber_20 rfl hl (by decide) rfl (fun ls hl => ?_)
    have loop_21 : ∀ (n : Nat) (z3 z2 : Int32) (ls : Array Slot), (f_NC_giveNumber S x1) = (f_NC_giveNumber_L21 S x1 n z3 z2) → nc_mu x1 z3 < n → 0 ≤ z3.toInt → lv_has ls 4 [(0, .ref ((ad 0) 0)), (1, .int x1), (3, .int z3), (2, .int z2)] → W p l e (headSpec ws_NC_giveNumber rm_NC_giveNumber).room s m [.ref ((ad 0) 0), .int x1].toArray below meth c s.heap [] 0 0 (MQ below (va_Qi (fun r (_ : Unit) => r = (f_NC_giveNumber S x1).1) (fun _ t => va_P (dC, dI) classes (w_NC cA ad (f_NC_giveNumber S x1).2) t.heap ∧ va_D A (w_NC cA ad (f_NC_giveNumber S x1).2)) A) [.ref ((ad 0) 0), .int x1].toArray s 0 0 A) (F0 m 21 ls []) := by
      intro n
      induction n with
      | zero =>
        intro z3 z2 ls hE hm h0 hl
        exact absurd hm (Nat.not_lt_zero _)
      | succ n ih =>
        intro z3 z2 ls hE hm h0 hl
        refine lv_iload_n hx hb d_NC_giveNumber_21 rfl (lv_at hl 2 rfl) ?_
        refine lv_iload_n hx hb d_NC_giveNumber_22 rfl (lv_at hl 1 rfl) ?_
        refine lv_icmp_ge (tgt := 45) hx hb d_NC_giveNumber_23 (by decide) (fun c_284 => ?_) (fun c_284 => ?_)
        · refine lv_aload_n hx hb d_NC_giveNumber_45 rfl (lv_at hl 0 rfl) ?_
          refine va_get (D := (dC, dI)) (ci := 0) (v := .ref ((ad 5) 0)) (C := R_NC) (T := F_NC) (N := 15) hx hb hts i_NC hown hK hP 0 rfl rfl 8 (by decide) (hts _ m_f_NC_47) (fun _ h9 => h9) rfl d_NC_giveNumber_46 ?_
          refine lv_aload_n hx hb d_NC_giveNumber_49 rfl (lv_at hl 0 rfl) ?_
          refine va_get (D := (dC, dI)) (ci := 0) (v := .int ((S 0) 9 0)) (C := R_NC) (T := F_NC) (N := 15) hx hb hts i_NC hown hK hP 0 rfl rfl 9 (by decide) (hts _ m_f_NC_50) (fun _ h9 => h9) rfl d_NC_giveNumber_50 ?_
          refine lv_iload_n hx hb d_NC_giveNumber_53 rfl (lv_at hl 3 rfl) ?_
          refine lv_iconst (v := (-1)) hx hb d_NC_giveNumber_54 (by decide) ?_
          refine lv_ixor hx hb d_NC_giveNumber_55 ?_
          refine lv_iand hx hb d_NC_giveNumber_56 ?_
          have hP_w_285 := hP.sub (ws' := (w_Picks cA (ad 5) (S 5))) [29, 30] rfl
          have hD_w_285 := hD.sub (ws' := (w_Picks cA (ad 5) (S 5))) [29, 30] (by decide) rfl
          have hFc := va_free (wc := (w_Picks cA (ad 5) (S 5))) hD hS hA [29, 30] rfl
          refine nc_muv (va_runV (As := [.int (((S 0) 9 0) &&& (z2 ^^^ (-1)))]) (rest := []) hfix (c_Picks_add l dC dI cA s.heap.size (ad 5) (S 5) (((S 0) 9 0) &&& (z2 ^^^ (-1))) hg) (k_NC_204 hts hN ⟨Nat.le_of_ble_eq_true rfl, Nat.le_of_ble_eq_true rfl⟩) (nc_preVM hK hN hP_w_285 hD_w_285 rfl rfl) rfl rfl hl.1 rfl (lv_room (Nat.le_of_ble_eq_true rfl)) d_NC_giveNumber_57 ⟨Nat.zero_le _, Nat.zero_le _⟩) hS hFc (fun H locs hP1 hD1 hk1 hS => ?_)
          obtain ⟨hP, hD⟩ := va_join (wr := va_pick (w_NC cA ad S) [0, 1, 2, 3, 4, 5, 6, 7, 8, 9, 10, 11, 12, 13, 14, 15, 16, 17, 18, 19, 20, 21, 22, 23, 24, 25, 26, 27, 28]) (w1 := (w_Picks cA (ad 5) (f_Picks_add (S 5) (((S 0) 9 0) &&& (z2 ^^^ (-1)))))) hP hD [29, 30] [0, 1, 2, 3, 4, 5, 6, 7, 8, 9, 10, 11, 12, 13, 14, 15, 16, 17, 18, 19, 20, 21, 22, 23, 24, 25, 26, 27, 28] rfl rfl (by decide) (by decide) hk1 hFc hP1 hD1
          have hP : va_P (dC, dI) classes (w_NC cA ad (upr S 5 (f_Picks_add (S 5) (((S 0) 9 0) &&& (z2 ^^^ (-1)))))) H := hP.sub [0, 1, 2, 3, 4, 5, 6, 7, 8, 9, 10, 11, 12, 13, 14, 15, 16, 17, 18, 19, 20, 21, 22, 23, 24, 25, 26, 27, 28, 29, 30] rfl
          have hD : va_D A (w_NC cA ad (upr S 5 (f_Picks_add (S 5) (((S 0) 9 0) &&& (z2 ^^^ (-1)))))) := hD.sub [0, 1, 2, 3, 4, 5, 6, 7, 8, 9, 10, 11, 12, 13, 14, 15, 16, 17, 18, 19, 20, 21, 22, 23, 24, 25, 26, 27, 28, 29, 30] (by decide) rfl
          refine lv_iconst (v := 0) hx hb d_NC_giveNumber_60 (by decide) ?_
          have hF : (f_NC_giveNumber S x1) = (0, (upr S 5 (f_Picks_add (S 5) (((S 0) 9 0) &&& (z2 ^^^ (-1)))))) := by rw [hE, f_NC_giveNumber_L21, if_pos c_284]
          exact W.iret (v := 0) hx hb hr (fun t ht hW => ⟨⟨0, (), rfl, by rw [hF], by rw [hF, ht]; exact hP, by rw [hF]; exact hD⟩, hS.F ht⟩) hS.2.2 d_NC_giveNumber_61
        · refine lv_iload_n hx hb d_NC_giveNumber_26 rfl (lv_at hl 3 rfl) ?_
          refine lv_aload_n hx hb d_NC_giveNumber_27 rfl (lv_at hl 0 rfl) ?_
          refine lv_iload_n hx hb d_NC_giveNumber_28 rfl (lv_at hl 3 rfl) ?_
          refine nc_ro (va_runV (As := [.int z2]) (rest := [.int z2]) hfix (c_NC_bestOf l dC dI cA ad S z2) (k_NC_216 hts hN ⟨Nat.le_of_ble_eq_true rfl, Nat.le_of_ble_eq_true rfl⟩) (nc_preV hK hN hP hD rfl rfl) rfl rfl hl.1 rfl (lv_room (Nat.le_of_ble_eq_true rfl)) d_NC_giveNumber_29 ⟨Nat.zero_le _, Nat.zero_le _⟩) (fun r er => ?_)
          subst er
          refine nc_ro (va_runS (As := [.int (f_NC_bestOf S z2)]) (rest := [.int z2]) hfix (c_NC_leastOf l dC dI cA (f_NC_bestOf S z2)) (k_NC_219 hts hN ⟨Nat.le_of_ble_eq_true rfl, Nat.le_of_ble_eq_true rfl⟩) (nc_preS0 hK hN) rfl rfl hl.1 rfl (lv_room (Nat.le_of_ble_eq_true rfl)) d_NC_giveNumber_32 ⟨Nat.zero_le _, Nat.zero_le _⟩) (fun r er => ?_)
          subst er
          refine lv_iconst (v := (-1)) hx hb d_NC_giveNumber_35 (by decide) ?_
          refine lv_ixor hx hb d_NC_giveNumber_36 ?_
          refine lv_iand hx hb d_NC_giveNumber_37 ?_
          refine lv_istore_n (lv' := [(2, .int (z2 &&& ((f_NC_leastOf (f_NC_bestOf S z2)) ^^^ (-1)))), (0, .ref ((ad 0) 0)), (1, .int x1), (3, .int z3)]) hx hb d_NC_giveNumber_38 rfl hl (by decide) rfl (fun ls hl => ?_)
          refine lv_iinc (v := (z3 + 1)) (lv' := [(3, .int (z3 + 1)), (2, .int (z2 &&& ((f_NC_leastOf (f_NC_bestOf S z2)) ^^^ (-1)))), (0, .ref ((ad 0) 0)), (1, .int x1)]) hx hb d_NC_giveNumber_39 hl (k := 3) rfl rfl (by decide) rfl (fun ls hl => ?_)
          refine lv_goto (tgt := 21) hx hb d_NC_giveNumber_42 (by decide) ?_
          exact ih (z3 + 1) (z2 &&& ((f_NC_leastOf (f_NC_bestOf S z2)) ^^^ (-1))) ls (by rw [hE, f_NC_giveNumber_L21, if_neg c_284]) (nc_mu_step c_284 hm) (nc_i_step c_284 h0) (lv_sub hl [2, 3, 0, 1] rfl)
    exact loop_21 (nc_mu x1 0 + 1) 0 ((S 0) 9 0) ls (by rw [f_NC_giveNumber, if_pos c_283]) (Nat.lt_succ_self _) (by decide) (lv_sub hl [2, 3, 0, 1] rfl)
  · refine lv_bipush (v := 6) hx hb d_NC_giveNumber_11 (by decide) ?_
    have hF : (f_NC_giveNumber S x1) = (6, S) := by rw [f_NC_giveNumber, if_neg c_283]
    exact W.iret (v := 6) hx hb hr (fun t ht hW => ⟨⟨6, (), rfl, by rw [hF], by rw [hF, ht]; exact hP, by rw [hF]; exact hD⟩, hS.F ht⟩) hS.2.2 d_NC_giveNumber_13
theorem gnu_rL {S : Nat → Nat → Nat → Int32} {x1 : Int32} : ∀ (n : Nat) (z2 z3 : Int32), (f_NC_giveNumber_L21 S x1 n z2 z3).2 2 = S 2 ∧ (0 ≤ ((S 5) 1 0).toInt → 0 ≤ (((f_NC_giveNumber_L21 S x1 n z2 z3).2 5) 1 0).toInt) := by
  intro n
  induction n with
  | zero => intro z2 z3; exact ⟨rfl, fun h => h⟩
  | succ n ih =>
    intro z2 z3
    rw [f_NC_giveNumber_L21]
    split
    · exact ⟨rfl, fun h => add_z h⟩
    · exact ih _ _
theorem gnu_r {S : Nat → Nat → Nat → Int32} {x1 : Int32} : (f_NC_giveNumber S x1).2 2 = S 2 ∧ (0 ≤ ((S 5) 1 0).toInt → 0 ≤ (((f_NC_giveNumber S x1).2 5) 1 0).toInt) := by
  unfold f_NC_giveNumber
  split
  · exact gnu_rL _ _ _
  · exact ⟨rfl, fun h => h⟩
def f_NC_giveMeant (S : Nat → Nat → Nat → Int32) (x1 x2 : Int32) : Int32 × (Nat → Nat → Nat → Int32) := (if (((S 0) 9 0) &&& (f_NC_fittingSetP S x2 2)) = 0 then (if x1 < 0 then (if ((S 0) 9 0) = 0 then (3, S) else (if (f_Phrase_tells (S 2) x2 31) = 0 then (if (f_bitCount (f_NC_leadersOf S (f_NC_bestOf S ((S 0) 9 0)))) = 1 then (0, (upr S 5 (f_Picks_add (S 5) (f_NC_leastOf (f_NC_bestOf S ((S 0) 9 0)))))) else (1, (upr S 0 (upf (upf (S 0) 10 (fun _ => (f_NC_bestOf S ((S 0) 9 0)))) 11 (fun _ => x1))))) else (0, (upr S 5 (f_Picks_add (S 5) (f_NC_leastOf (f_NC_bestOf S ((S 0) 9 0)))))))) else (if 30 ≤ x1 then (if ((S 0) 9 0) = 0 then (3, S) else (if (f_Phrase_tells (S 2) x2 31) = 0 then (if (f_bitCount (f_NC_leadersOf S (f_NC_bestOf S ((S 0) 9 0)))) = 1 then (0, (upr S 5 (f_Picks_add (S 5) (f_NC_leastOf (f_NC_bestOf S ((S 0) 9 0)))))) else (1, (upr S 0 (upf (upf (S 0) 10 (fun _ => (f_NC_bestOf S ((S 0) 9 0)))) 11 (fun _ => x1))))) else (0, (upr S 5 (f_Picks_add (S 5) (f_NC_leastOf (f_NC_bestOf S ((S 0) 9 0)))))))) else (if (((S 0) 9 0) &&& (((S 0) 6) x1.toNatClampNeg)) = 0 then (3, S) else (if (f_Phrase_tells (S 2) x2 31) = 0 then (if (f_bitCount (f_NC_leadersOf S (f_NC_bestOf S (((S 0) 9 0) &&& (((S 0) 6) x1.toNatClampNeg))))) = 1 then (0, (upr S 5 (f_Picks_add (S 5) (f_NC_leastOf (f_NC_bestOf S (((S 0) 9 0) &&& (((S 0) 6) x1.toNatClampNeg))))))) else (1, (upr S 0 (upf (upf (S 0) 10 (fun _ => (f_NC_bestOf S (((S 0) 9 0) &&& (((S 0) 6) x1.toNatClampNeg))))) 11 (fun _ => x1))))) else (0, (upr S 5 (f_Picks_add (S 5) (f_NC_leastOf (f_NC_bestOf S (((S 0) 9 0) &&& (((S 0) 6) x1.toNatClampNeg))))))))))) else (0, (upr S 5 (f_Picks_add (S 5) (((S 0) 9 0) &&& (f_NC_fittingSetP S x2 2))))))
abbrev ws_NC_giveMeant : List Cond := .code y_NC_giveMeant b_NC_giveMeant 6 (some .int) :: lw_G
abbrev rm_NC_giveMeant : Room := { frames := 3, cells := 0, slots := 0, locals := 74 }
set_option maxHeartbeats 4000000 in
set_option maxRecDepth 100000 in
theorem c_NC_giveMeant (l : Launch) (dC : Nat → ClassId) (dI : Nat → Nat → Nat) (cA : ClassId) (sz : Nat) (ad : Nat → Nat → Nat) (S : Nat → Nat → Nat → Int32) (x1 x2 : Int32) (hg : 0 ≤ ((S 5) 1 0).toInt) : Met l y_NC_giveMeant ws_NC_giveMeant rm_NC_giveMeant (nc_PreM (dC, dI) cA sz [.ref ((ad 0) 0), .int x1, .int x2] (w_NC cA ad S)) (va_Qi (fun r (_ : Unit) => r = (f_NC_giveMeant S x1 x2).1) (fun _ t => va_P (dC, dI) classes (w_NC cA ad (f_NC_giveMeant S x1 x2).2) t.heap ∧ va_D (va_A (w_NC cA ad S) sz) (w_NC cA ad (f_NC_giveMeant S x1 x2).2)) (va_A (w_NC cA ad S) sz)) 0 0 (va_A (w_NC cA ad S) sz) := by
  refine Met.ofW (cc := b_NC_giveMeant) (maxL := 6) (ret := (some .int)) (by decide) rfl ?_
  intro p e s m args below meth c s₁ B hml hv
  obtain ⟨rfl, hsz, hP, hK, hD0, hN⟩ := hv
  have hx := B.exec
  have hb := B.bytes
  have hr := B.returns
  have hts : ∀ w ∈ lw_G, w.before [.ref ((ad 0) 0), .int x1, .int x2].toArray s = true := fun w h => atoms_spec (ws := ws_NC_giveMeant) B.pre w (List.mem_cons_of_mem _ h)
  have hown : s.vm.findClass R_NC = some m.cls := findClass_of_methodNamed B.named
  have hlocks := B.notSynchronized
  have hfix : CallFix p m c b_NC_giveMeant 6 s [.ref ((ad 0) 0), .int x1, .int x2].toArray lw_G R_NC := ⟨hx, hb, hml, hown, hts⟩
  subst hsz
  have hD := hD0.self (sz := s.heap.size)
  generalize hAe : va_A (w_NC cA ad S) s.heap.size = A at hD ⊢
  have hA : ∀ q : Nat, s.heap.size ≤ q → A q := fun q h => by rw [← hAe]; exact Or.inr h
  have hS : va_S A s.heap s.heap [] := va_S.rf
  have hl := lv_entry ([.ref ((ad 0) 0), .int x1, .int x2]) (n := 6) (Nat.le_of_ble_eq_true rfl)
  rw [lg_entry_eq]
  generalize (lg_sl ([.ref ((ad 0) 0), .int x1, .int x2]) ++ List.replicate (6 - (lg_sl ([.ref ((ad 0) 0), .int x1, .int x2])).length) Slot.unset).toArray = ls at hl ⊢
  have hl : lv_has ls 6 [(0, .ref ((ad 0) 0)), (1, .int x1), (2, .int x2)] := hl
  refine lv_aload_n hx hb d_NC_giveMeant_0 rfl (lv_at hl 0 rfl) ?_
  refine va_get (D := (dC, dI)) (ci := 0) (v := .int ((S 0) 9 0)) (C := R_NC) (T := F_NC) (N := 15) hx hb hts i_NC hown hK hP 0 rfl rfl 9 (by decide) (hts _ m_f_NC_50) (fun _ h9 => h9) rfl d_NC_giveMeant_1 ?_
  refine lv_aload_n hx hb d_NC_giveMeant_4 rfl (lv_at hl 0 rfl) ?_
  refine lv_aload_n hx hb d_NC_giveMeant_5 rfl (lv_at hl 0 rfl) ?_
  refine va_get (D := (dC, dI)) (ci := 0) (v := .ref ((ad 2) 0)) (C := R_NC) (T := F_NC) (N := 15) hx hb hts i_NC hown hK hP 0 rfl rfl 4 (by decide) (hts _ m_f_NC_30) (fun _ h9 => h9) rfl d_NC_giveMeant_6 ?_
  refine lv_iload_n hx hb d_NC_giveMeant_9 rfl (lv_at hl 2 rfl) ?_
  refine lv_iconst (v := 2) hx hb d_NC_giveMeant_10 (by decide) ?_
  refine nc_ro (va_runV (As := [.ref ((ad 2) 0), .int x2, .int 2]) (rest := [.int ((S 0) 9 0)]) hfix (c_NC_fittingSetP l dC dI cA ad S x2 2) (k_NC_122 hts hN ⟨Nat.le_of_ble_eq_true rfl, Nat.le_of_ble_eq_true rfl⟩) (nc_preV hK hN hP hD rfl rfl) rfl rfl hl.1 rfl (lv_room (Nat.le_of_ble_eq_true rfl)) d_NC_giveMeant_11 ⟨Nat.zero_le _, Nat.zero_le _⟩) (fun r er => ?_)
  subst er
  refine lv_iand hx hb d_NC_giveMeant_14 ?_
  refine lv_istore_n (lv' := [(3, .int (((S 0) 9 0) &&& (f_NC_fittingSetP S x2 2))), (0, .ref ((ad 0) 0)), (1, .int x1), (2, .int x2)]) hx hb d_NC_giveMeant_15 rfl hl (by decide) rfl (fun ls hl => ?_)
  refine lv_iload_n hx hb d_NC_giveMeant_16 rfl (lv_at hl 0 rfl) ?_
  refine lv_if_eq (tgt := 30) hx hb d_NC_giveMeant_17 (by decide) (fun c_286 => ?_) (fun c_286 => ?_)
  · refine lv_iload_n hx hb d_NC_giveMeant_30 rfl (lv_at hl 2 rfl) ?_
    refine lv_if_lt (tgt := 57) hx hb d_NC_giveMeant_31 (by decide) (fun c_287 => ?_) (fun c_287 => ?_)
    · refine lv_aload_n hx hb d_NC_giveMeant_57 rfl (lv_at hl 1 rfl) ?_
      refine va_get (D := (dC, dI)) (ci := 0) (v := .int ((S 0) 9 0)) (C := R_NC) (T := F_NC) (N := 15) hx hb hts i_NC hown hK hP 0 rfl rfl 9 (by decide) (hts _ m_f_NC_50) (fun _ h9 => h9) rfl d_NC_giveMeant_58 ?_
      refine lv_istore (lv' := [(4, .int ((S 0) 9 0)), (3, .int (((S 0) 9 0) &&& (f_NC_fittingSetP S x2 2))), (0, .ref ((ad 0) 0)), (1, .int x1), (2, .int x2)]) hx hb d_NC_giveMeant_61 hl (by decide) rfl (fun ls hl => ?_)
      refine lv_iload hx hb d_NC_giveMeant_63 (lv_at hl 0 rfl) ?_
      refine lv_if_ne (tgt := 70) hx hb d_NC_giveMeant_65 (by decide) (fun c_288 => ?_) (fun c_288 => ?_)
      · refine lv_aload_n hx hb d_NC_giveMeant_70 rfl (lv_at hl 2 rfl) ?_
        refine lv_iload hx hb d_NC_giveMeant_71 (lv_at hl 0 rfl) ?_
        refine nc_ro (va_runV (As := [.int ((S 0) 9 0)]) (rest := []) hfix (c_NC_bestOf l dC dI cA ad S ((S 0) 9 0)) (k_NC_216 hts hN ⟨Nat.le_of_ble_eq_true rfl, Nat.le_of_ble_eq_true rfl⟩) (nc_preV hK hN hP hD rfl rfl) rfl rfl hl.1 rfl (lv_room (Nat.le_of_ble_eq_true rfl)) d_NC_giveMeant_73 ⟨Nat.zero_le _, Nat.zero_le _⟩) (fun r er => ?_)
        subst er
        refine lv_istore (lv' := [(5, .int (f_NC_bestOf S ((S 0) 9 0))), (4, .int ((S 0) 9 0)), (3, .int (((S 0) 9 0) &&& (f_NC_fittingSetP S x2 2))), (0, .ref ((ad 0) 0)), (1, .int x1), (2, .int x2)]) hx hb d_NC_giveMeant_76 hl (by decide) rfl (fun ls hl => ?_)
        refine lv_aload_n hx hb d_NC_giveMeant_78 rfl (lv_at hl 3 rfl) ?_
        refine va_get (D := (dC, dI)) (ci := 0) (v := .ref ((ad 2) 0)) (C := R_NC) (T := F_NC) (N := 15) hx hb hts i_NC hown hK hP 0 rfl rfl 4 (by decide) (hts _ m_f_NC_30) (fun _ h9 => h9) rfl d_NC_giveMeant_79 ?_
        refine lv_iload_n hx hb d_NC_giveMeant_82 rfl (lv_at hl 5 rfl) ?_
        refine lv_bipush (v := 31) hx hb d_NC_giveMeant_83 (by decide) ?_
        have hP_w_289 := hP.sub (ws' := (w_Phrase cA (ad 2) (S 2))) [11, 12, 13, 14, 15, 16, 17, 18] rfl
        have hD_w_289 := hD.sub (ws' := (w_Phrase cA (ad 2) (S 2))) [11, 12, 13, 14, 15, 16, 17, 18] (by decide) rfl
        refine nc_ro (va_runV (As := [.int x2, .int 31]) (rest := []) hfix (c_Phrase_tells l dC dI cA (ad 2) (S 2) x2 31) (k_NC_222 hts hN ⟨Nat.le_of_ble_eq_true rfl, Nat.le_of_ble_eq_true rfl⟩) (nc_preV hK hN hP_w_289 hD_w_289 rfl rfl) rfl rfl hl.1 rfl (lv_room (Nat.le_of_ble_eq_true rfl)) d_NC_giveMeant_85 ⟨Nat.zero_le _, Nat.zero_le _⟩) (fun r er => ?_)
        obtain ⟨rfl, hz_290⟩ := er
        refine lv_if_ne (tgt := 104) hx hb d_NC_giveMeant_88 (by decide) (fun c_291 => ?_) (fun c_291 => ?_)
        · refine lv_aload_n hx hb d_NC_giveMeant_104 rfl (lv_at hl 3 rfl) ?_
          refine va_get (D := (dC, dI)) (ci := 0) (v := .ref ((ad 5) 0)) (C := R_NC) (T := F_NC) (N := 15) hx hb hts i_NC hown hK hP 0 rfl rfl 8 (by decide) (hts _ m_f_NC_47) (fun _ h9 => h9) rfl d_NC_giveMeant_105 ?_
          refine lv_iload hx hb d_NC_giveMeant_108 (lv_at hl 0 rfl) ?_
          refine nc_ro (va_runS (As := [.int (f_NC_bestOf S ((S 0) 9 0))]) (rest := [.ref ((ad 5) 0)]) hfix (c_NC_leastOf l dC dI cA (f_NC_bestOf S ((S 0) 9 0))) (k_NC_219 hts hN ⟨Nat.le_of_ble_eq_true rfl, Nat.le_of_ble_eq_true rfl⟩) (nc_preS0 hK hN) rfl rfl hl.1 rfl (lv_room (Nat.le_of_ble_eq_true rfl)) d_NC_giveMeant_110 ⟨Nat.zero_le _, Nat.zero_le _⟩) (fun r er => ?_)
          subst er
          have hP_w_292 := hP.sub (ws' := (w_Picks cA (ad 5) (S 5))) [29, 30] rfl
          have hD_w_292 := hD.sub (ws' := (w_Picks cA (ad 5) (S 5))) [29, 30] (by decide) rfl
          have hFc := va_free (wc := (w_Picks cA (ad 5) (S 5))) hD hS hA [29, 30] rfl
          refine nc_muv (va_runV (As := [.int (f_NC_leastOf (f_NC_bestOf S ((S 0) 9 0)))]) (rest := []) hfix (c_Picks_add l dC dI cA s.heap.size (ad 5) (S 5) (f_NC_leastOf (f_NC_bestOf S ((S 0) 9 0))) hg) (k_NC_204 hts hN ⟨Nat.le_of_ble_eq_true rfl, Nat.le_of_ble_eq_true rfl⟩) (nc_preVM hK hN hP_w_292 hD_w_292 rfl rfl) rfl rfl hl.1 rfl (lv_room (Nat.le_of_ble_eq_true rfl)) d_NC_giveMeant_113 ⟨Nat.zero_le _, Nat.zero_le _⟩) hS hFc (fun H locs hP1 hD1 hk1 hS => ?_)
          obtain ⟨hP, hD⟩ := va_join (wr := va_pick (w_NC cA ad S) [0, 1, 2, 3, 4, 5, 6, 7, 8, 9, 10, 11, 12, 13, 14, 15, 16, 17, 18, 19, 20, 21, 22, 23, 24, 25, 26, 27, 28]) (w1 := (w_Picks cA (ad 5) (f_Picks_add (S 5) (f_NC_leastOf (f_NC_bestOf S ((S 0) 9 0)))))) hP hD [29, 30] [0, 1, 2, 3, 4, 5, 6, 7, 8, 9, 10, 11, 12, 13, 14, 15, 16, 17, 18, 19, 20, 21, 22, 23, 24, 25, 26, 27, 28] rfl rfl (by decide) (by decide) hk1 hFc hP1 hD1
          have hP : va_P (dC, dI) classes (w_NC cA ad (upr S 5 (f_Picks_add (S 5) (f_NC_leastOf (f_NC_bestOf S ((S 0) 9 0)))))) H := hP.sub [0, 1, 2, 3, 4, 5, 6, 7, 8, 9, 10, 11, 12, 13, 14, 15, 16, 17, 18, 19, 20, 21, 22, 23, 24, 25, 26, 27, 28, 29, 30] rfl
          have hD : va_D A (w_NC cA ad (upr S 5 (f_Picks_add (S 5) (f_NC_leastOf (f_NC_bestOf S ((S 0) 9 0)))))) := hD.sub [0, 1, 2, 3, 4, 5, 6, 7, 8, 9, 10, 11, 12, 13, 14, 15, 16, 17, 18, 19, 20, 21, 22, 23, 24, 25, 26, 27, 28, 29, 30] (by decide) rfl
          refine lv_iconst (v := 0) hx hb d_NC_giveMeant_116 (by decide) ?_
          have hF : (f_NC_giveMeant S x1 x2) = (0, (upr S 5 (f_Picks_add (S 5) (f_NC_leastOf (f_NC_bestOf S ((S 0) 9 0)))))) := by rw [f_NC_giveMeant, if_pos c_286, if_pos c_287, if_neg c_288, if_neg c_291]
          exact W.iret (v := 0) hx hb hr (fun t ht hW => ⟨⟨0, (), rfl, by rw [hF], by rw [hF, ht]; exact hP, by rw [hF]; exact hD⟩, hS.F ht⟩) hS.2.2 d_NC_giveMeant_117
        · refine lv_aload_n hx hb d_NC_giveMeant_91 rfl (lv_at hl 3 rfl) ?_
          refine lv_iload hx hb d_NC_giveMeant_92 (lv_at hl 0 rfl) ?_
          refine nc_ro (va_runV (As := [.int (f_NC_bestOf S ((S 0) 9 0))]) (rest := []) hfix (c_NC_leadersOf l dC dI cA ad S (f_NC_bestOf S ((S 0) 9 0))) (k_NC_151 hts hN ⟨Nat.le_of_ble_eq_true rfl, Nat.le_of_ble_eq_true rfl⟩) (nc_preV hK hN hP hD rfl rfl) rfl rfl hl.1 rfl (lv_room (Nat.le_of_ble_eq_true rfl)) d_NC_giveMeant_94 ⟨Nat.zero_le _, Nat.zero_le _⟩) (fun r er => ?_)
          subst er
          refine nc_ro (va_runS (As := [.int (f_NC_leadersOf S (f_NC_bestOf S ((S 0) 9 0)))]) (rest := []) hfix (c_bitCount l dC dI cA (f_NC_leadersOf S (f_NC_bestOf S ((S 0) 9 0)))) (k_NC_154 hts hN ⟨Nat.le_of_ble_eq_true rfl, Nat.le_of_ble_eq_true rfl⟩) (nc_preS0 hK hN) rfl rfl hl.1 rfl (lv_room (Nat.le_of_ble_eq_true rfl)) d_NC_giveMeant_97 ⟨Nat.zero_le _, Nat.zero_le _⟩) (fun r er => ?_)
          subst er
          refine lv_iconst (v := 1) hx hb d_NC_giveMeant_100 (by decide) ?_
          refine lv_icmp_ne (tgt := 118) hx hb d_NC_giveMeant_101 (by decide) (fun c_293 => ?_) (fun c_293 => ?_)
          · refine lv_aload_n hx hb d_NC_giveMeant_118 rfl (lv_at hl 3 rfl) ?_
            refine lv_iload hx hb d_NC_giveMeant_119 (lv_at hl 0 rfl) ?_
            refine va_put (D := (dC, dI)) (ci := 0) (v := .int (f_NC_bestOf S ((S 0) 9 0))) (ty := .int) (C := R_NC) (T := F_NC) (N := 15) hx hb hts i_NC t_NC t_NC_ok n_NC hown hK hP hD hS 0 rfl rfl 10 (by decide) (hts _ m_f_NC_53) (fun _ h9 => h9) rfl (by decide +kernel) rfl rfl (Nat.le_of_ble_eq_true rfl) d_NC_giveMeant_121 (fun H locs hP hD hS => ?_)
            have hP : va_P (dC, dI) classes (w_NC cA ad (upr S 0 (upf (S 0) 10 (fun _ => (f_NC_bestOf S ((S 0) 9 0)))))) H := hP
            have hD : va_D A (w_NC cA ad (upr S 0 (upf (S 0) 10 (fun _ => (f_NC_bestOf S ((S 0) 9 0)))))) := hD
            refine lv_aload_n hx hb d_NC_giveMeant_124 rfl (lv_at hl 3 rfl) ?_
            refine lv_iload_n hx hb d_NC_giveMeant_125 rfl (lv_at hl 4 rfl) ?_
            refine va_put (D := (dC, dI)) (ci := 0) (v := .int x1) (ty := .int) (C := R_NC) (T := F_NC) (N := 15) hx hb hts i_NC t_NC t_NC_ok n_NC hown hK hP hD hS 0 rfl rfl 11 (by decide) (hts _ m_f_NC_56) (fun _ h9 => h9) rfl (by decide +kernel) rfl rfl (Nat.le_of_ble_eq_true rfl) d_NC_giveMeant_126 (fun H locs hP hD hS => ?_)
            have hP : va_P (dC, dI) classes (w_NC cA ad (upr S 0 (upf (upf (S 0) 10 (fun _ => (f_NC_bestOf S ((S 0) 9 0)))) 11 (fun _ => x1)))) H := hP
            have hD : va_D A (w_NC cA ad (upr S 0 (upf (upf (S 0) 10 (fun _ => (f_NC_bestOf S ((S 0) 9 0)))) 11 (fun _ => x1)))) := hD
            refine lv_iconst (v := 1) hx hb d_NC_giveMeant_129 (by decide) ?_
            have hF : (f_NC_giveMeant S x1 x2) = (1, (upr S 0 (upf (upf (S 0) 10 (fun _ => (f_NC_bestOf S ((S 0) 9 0)))) 11 (fun _ => x1)))) := by rw [f_NC_giveMeant, if_pos c_286, if_pos c_287, if_neg c_288, if_pos c_291, if_neg c_293]
            exact W.iret (v := 1) hx hb hr (fun t ht hW => ⟨⟨1, (), rfl, by rw [hF], by rw [hF, ht]; exact hP, by rw [hF]; exact hD⟩, hS.F ht⟩) hS.2.2 d_NC_giveMeant_130
          · refine lv_aload_n hx hb d_NC_giveMeant_104 rfl (lv_at hl 3 rfl) ?_
            refine va_get (D := (dC, dI)) (ci := 0) (v := .ref ((ad 5) 0)) (C := R_NC) (T := F_NC) (N := 15) hx hb hts i_NC hown hK hP 0 rfl rfl 8 (by decide) (hts _ m_f_NC_47) (fun _ h9 => h9) rfl d_NC_giveMeant_105 ?_
            refine lv_iload hx hb d_NC_giveMeant_108 (lv_at hl 0 rfl) ?_
            refine nc_ro (va_runS (As := [.int (f_NC_bestOf S ((S 0) 9 0))]) (rest := [.ref ((ad 5) 0)]) hfix (c_NC_leastOf l dC dI cA (f_NC_bestOf S ((S 0) 9 0))) (k_NC_219 hts hN ⟨Nat.le_of_ble_eq_true rfl, Nat.le_of_ble_eq_true rfl⟩) (nc_preS0 hK hN) rfl rfl hl.1 rfl (lv_room (Nat.le_of_ble_eq_true rfl)) d_NC_giveMeant_110 ⟨Nat.zero_le _, Nat.zero_le _⟩) (fun r er => ?_)
            subst er
            have hP_w_294 := hP.sub (ws' := (w_Picks cA (ad 5) (S 5))) [29, 30] rfl
            have hD_w_294 := hD.sub (ws' := (w_Picks cA (ad 5) (S 5))) [29, 30] (by decide) rfl
            have hFc := va_free (wc := (w_Picks cA (ad 5) (S 5))) hD hS hA [29, 30] rfl
            refine nc_muv (va_runV (As := [.int (f_NC_leastOf (f_NC_bestOf S ((S 0) 9 0)))]) (rest := []) hfix (c_Picks_add l dC dI cA s.heap.size (ad 5) (S 5) (f_NC_leastOf (f_NC_bestOf S ((S 0) 9 0))) hg) (k_NC_204 hts hN ⟨Nat.le_of_ble_eq_true rfl, Nat.le_of_ble_eq_true rfl⟩) (nc_preVM hK hN hP_w_294 hD_w_294 rfl rfl) rfl rfl hl.1 rfl (lv_room (Nat.le_of_ble_eq_true rfl)) d_NC_giveMeant_113 ⟨Nat.zero_le _, Nat.zero_le _⟩) hS hFc (fun H locs hP1 hD1 hk1 hS => ?_)
            obtain ⟨hP, hD⟩ := va_join (wr := va_pick (w_NC cA ad S) [0, 1, 2, 3, 4, 5, 6, 7, 8, 9, 10, 11, 12, 13, 14, 15, 16, 17, 18, 19, 20, 21, 22, 23, 24, 25, 26, 27, 28]) (w1 := (w_Picks cA (ad 5) (f_Picks_add (S 5) (f_NC_leastOf (f_NC_bestOf S ((S 0) 9 0)))))) hP hD [29, 30] [0, 1, 2, 3, 4, 5, 6, 7, 8, 9, 10, 11, 12, 13, 14, 15, 16, 17, 18, 19, 20, 21, 22, 23, 24, 25, 26, 27, 28] rfl rfl (by decide) (by decide) hk1 hFc hP1 hD1
            have hP : va_P (dC, dI) classes (w_NC cA ad (upr S 5 (f_Picks_add (S 5) (f_NC_leastOf (f_NC_bestOf S ((S 0) 9 0)))))) H := hP.sub [0, 1, 2, 3, 4, 5, 6, 7, 8, 9, 10, 11, 12, 13, 14, 15, 16, 17, 18, 19, 20, 21, 22, 23, 24, 25, 26, 27, 28, 29, 30] rfl
            have hD : va_D A (w_NC cA ad (upr S 5 (f_Picks_add (S 5) (f_NC_leastOf (f_NC_bestOf S ((S 0) 9 0)))))) := hD.sub [0, 1, 2, 3, 4, 5, 6, 7, 8, 9, 10, 11, 12, 13, 14, 15, 16, 17, 18, 19, 20, 21, 22, 23, 24, 25, 26, 27, 28, 29, 30] (by decide) rfl
            refine lv_iconst (v := 0) hx hb d_NC_giveMeant_116 (by decide) ?_
            have hF : (f_NC_giveMeant S x1 x2) = (0, (upr S 5 (f_Picks_add (S 5) (f_NC_leastOf (f_NC_bestOf S ((S 0) 9 0)))))) := by rw [f_NC_giveMeant, if_pos c_286, if_pos c_287, if_neg c_288, if_pos c_291, if_pos c_293]
            exact W.iret (v := 0) hx hb hr (fun t ht hW => ⟨⟨0, (), rfl, by rw [hF], by rw [hF, ht]; exact hP, by rw [hF]; exact hD⟩, hS.F ht⟩) hS.2.2 d_NC_giveMeant_117
      · refine lv_iconst (v := 3) hx hb d_NC_giveMeant_68 (by decide) ?_
        have hF : (f_NC_giveMeant S x1 x2) = (3, S) := by rw [f_NC_giveMeant, if_pos c_286, if_pos c_287, if_pos c_288]
        exact W.iret (v := 3) hx hb hr (fun t ht hW => ⟨⟨3, (), rfl, by rw [hF], by rw [hF, ht]; exact hP, by rw [hF]; exact hD⟩, hS.F ht⟩) hS.2.2 d_NC_giveMeant_69
    · refine lv_iload_n hx hb d_NC_giveMeant_34 rfl (lv_at hl 2 rfl) ?_
      refine lv_aload_n hx hb d_NC_giveMeant_35 rfl (lv_at hl 1 rfl) ?_
      refine va_get (D := (dC, dI)) (ci := 0) (v := .ref ((ad 0) 2)) (C := R_NC) (T := F_NC) (N := 15) hx hb hts i_NC hown hK hP 0 rfl rfl 6 (by decide) (hts _ m_f_NC_37) (fun _ h9 => h9) rfl d_NC_giveMeant_36 ?_
      refine va_alen (v := 30) hx hb hK hP 2 0 rfl rfl rfl d_NC_giveMeant_39 ?_
      refine lv_icmp_ge (tgt := 57) hx hb d_NC_giveMeant_40 (by decide) (fun c_295 => ?_) (fun c_295 => ?_)
      · refine lv_aload_n hx hb d_NC_giveMeant_57 rfl (lv_at hl 1 rfl) ?_
        refine va_get (D := (dC, dI)) (ci := 0) (v := .int ((S 0) 9 0)) (C := R_NC) (T := F_NC) (N := 15) hx hb hts i_NC hown hK hP 0 rfl rfl 9 (by decide) (hts _ m_f_NC_50) (fun _ h9 => h9) rfl d_NC_giveMeant_58 ?_
        refine lv_istore (lv' := [(4, .int ((S 0) 9 0)), (3, .int (((S 0) 9 0) &&& (f_NC_fittingSetP S x2 2))), (0, .ref ((ad 0) 0)), (1, .int x1), (2, .int x2)]) hx hb d_NC_giveMeant_61 hl (by decide) rfl (fun ls hl => ?_)
        refine lv_iload hx hb d_NC_giveMeant_63 (lv_at hl 0 rfl) ?_
        refine lv_if_ne (tgt := 70) hx hb d_NC_giveMeant_65 (by decide) (fun c_296 => ?_) (fun c_296 => ?_)
        · refine lv_aload_n hx hb d_NC_giveMeant_70 rfl (lv_at hl 2 rfl) ?_
          refine lv_iload hx hb d_NC_giveMeant_71 (lv_at hl 0 rfl) ?_
          refine nc_ro (va_runV (As := [.int ((S 0) 9 0)]) (rest := []) hfix (c_NC_bestOf l dC dI cA ad S ((S 0) 9 0)) (k_NC_216 hts hN ⟨Nat.le_of_ble_eq_true rfl, Nat.le_of_ble_eq_true rfl⟩) (nc_preV hK hN hP hD rfl rfl) rfl rfl hl.1 rfl (lv_room (Nat.le_of_ble_eq_true rfl)) d_NC_giveMeant_73 ⟨Nat.zero_le _, Nat.zero_le _⟩) (fun r er => ?_)
          subst er
          refine lv_istore (lv' := [(5, .int (f_NC_bestOf S ((S 0) 9 0))), (4, .int ((S 0) 9 0)), (3, .int (((S 0) 9 0) &&& (f_NC_fittingSetP S x2 2))), (0, .ref ((ad 0) 0)), (1, .int x1), (2, .int x2)]) hx hb d_NC_giveMeant_76 hl (by decide) rfl (fun ls hl => ?_)
          refine lv_aload_n hx hb d_NC_giveMeant_78 rfl (lv_at hl 3 rfl) ?_
          refine va_get (D := (dC, dI)) (ci := 0) (v := .ref ((ad 2) 0)) (C := R_NC) (T := F_NC) (N := 15) hx hb hts i_NC hown hK hP 0 rfl rfl 4 (by decide) (hts _ m_f_NC_30) (fun _ h9 => h9) rfl d_NC_giveMeant_79 ?_
          refine lv_iload_n hx hb d_NC_giveMeant_82 rfl (lv_at hl 5 rfl) ?_
          refine lv_bipush (v := 31) hx hb d_NC_giveMeant_83 (by decide) ?_
          have hP_w_297 := hP.sub (ws' := (w_Phrase cA (ad 2) (S 2))) [11, 12, 13, 14, 15, 16, 17, 18] rfl
          have hD_w_297 := hD.sub (ws' := (w_Phrase cA (ad 2) (S 2))) [11, 12, 13, 14, 15, 16, 17, 18] (by decide) rfl
          refine nc_ro (va_runV (As := [.int x2, .int 31]) (rest := []) hfix (c_Phrase_tells l dC dI cA (ad 2) (S 2) x2 31) (k_NC_222 hts hN ⟨Nat.le_of_ble_eq_true rfl, Nat.le_of_ble_eq_true rfl⟩) (nc_preV hK hN hP_w_297 hD_w_297 rfl rfl) rfl rfl hl.1 rfl (lv_room (Nat.le_of_ble_eq_true rfl)) d_NC_giveMeant_85 ⟨Nat.zero_le _, Nat.zero_le _⟩) (fun r er => ?_)
          obtain ⟨rfl, hz_298⟩ := er
          refine lv_if_ne (tgt := 104) hx hb d_NC_giveMeant_88 (by decide) (fun c_299 => ?_) (fun c_299 => ?_)
          · refine lv_aload_n hx hb d_NC_giveMeant_104 rfl (lv_at hl 3 rfl) ?_
            refine va_get (D := (dC, dI)) (ci := 0) (v := .ref ((ad 5) 0)) (C := R_NC) (T := F_NC) (N := 15) hx hb hts i_NC hown hK hP 0 rfl rfl 8 (by decide) (hts _ m_f_NC_47) (fun _ h9 => h9) rfl d_NC_giveMeant_105 ?_
            refine lv_iload hx hb d_NC_giveMeant_108 (lv_at hl 0 rfl) ?_
            refine nc_ro (va_runS (As := [.int (f_NC_bestOf S ((S 0) 9 0))]) (rest := [.ref ((ad 5) 0)]) hfix (c_NC_leastOf l dC dI cA (f_NC_bestOf S ((S 0) 9 0))) (k_NC_219 hts hN ⟨Nat.le_of_ble_eq_true rfl, Nat.le_of_ble_eq_true rfl⟩) (nc_preS0 hK hN) rfl rfl hl.1 rfl (lv_room (Nat.le_of_ble_eq_true rfl)) d_NC_giveMeant_110 ⟨Nat.zero_le _, Nat.zero_le _⟩) (fun r er => ?_)
            subst er
            have hP_w_300 := hP.sub (ws' := (w_Picks cA (ad 5) (S 5))) [29, 30] rfl
            have hD_w_300 := hD.sub (ws' := (w_Picks cA (ad 5) (S 5))) [29, 30] (by decide) rfl
            have hFc := va_free (wc := (w_Picks cA (ad 5) (S 5))) hD hS hA [29, 30] rfl
            refine nc_muv (va_runV (As := [.int (f_NC_leastOf (f_NC_bestOf S ((S 0) 9 0)))]) (rest := []) hfix (c_Picks_add l dC dI cA s.heap.size (ad 5) (S 5) (f_NC_leastOf (f_NC_bestOf S ((S 0) 9 0))) hg) (k_NC_204 hts hN ⟨Nat.le_of_ble_eq_true rfl, Nat.le_of_ble_eq_true rfl⟩) (nc_preVM hK hN hP_w_300 hD_w_300 rfl rfl) rfl rfl hl.1 rfl (lv_room (Nat.le_of_ble_eq_true rfl)) d_NC_giveMeant_113 ⟨Nat.zero_le _, Nat.zero_le _⟩) hS hFc (fun H locs hP1 hD1 hk1 hS => ?_)
            obtain ⟨hP, hD⟩ := va_join (wr := va_pick (w_NC cA ad S) [0, 1, 2, 3, 4, 5, 6, 7, 8, 9, 10, 11, 12, 13, 14, 15, 16, 17, 18, 19, 20, 21, 22, 23, 24, 25, 26, 27, 28]) (w1 := (w_Picks cA (ad 5) (f_Picks_add (S 5) (f_NC_leastOf (f_NC_bestOf S ((S 0) 9 0)))))) hP hD [29, 30] [0, 1, 2, 3, 4, 5, 6, 7, 8, 9, 10, 11, 12, 13, 14, 15, 16, 17, 18, 19, 20, 21, 22, 23, 24, 25, 26, 27, 28] rfl rfl (by decide) (by decide) hk1 hFc hP1 hD1
            have hP : va_P (dC, dI) classes (w_NC cA ad (upr S 5 (f_Picks_add (S 5) (f_NC_leastOf (f_NC_bestOf S ((S 0) 9 0)))))) H := hP.sub [0, 1, 2, 3, 4, 5, 6, 7, 8, 9, 10, 11, 12, 13, 14, 15, 16, 17, 18, 19, 20, 21, 22, 23, 24, 25, 26, 27, 28, 29, 30] rfl
            have hD : va_D A (w_NC cA ad (upr S 5 (f_Picks_add (S 5) (f_NC_leastOf (f_NC_bestOf S ((S 0) 9 0)))))) := hD.sub [0, 1, 2, 3, 4, 5, 6, 7, 8, 9, 10, 11, 12, 13, 14, 15, 16, 17, 18, 19, 20, 21, 22, 23, 24, 25, 26, 27, 28, 29, 30] (by decide) rfl
            refine lv_iconst (v := 0) hx hb d_NC_giveMeant_116 (by decide) ?_
            have hF : (f_NC_giveMeant S x1 x2) = (0, (upr S 5 (f_Picks_add (S 5) (f_NC_leastOf (f_NC_bestOf S ((S 0) 9 0)))))) := by rw [f_NC_giveMeant, if_pos c_286, if_neg c_287, if_pos c_295, if_neg c_296, if_neg c_299]
            exact W.iret (v := 0) hx hb hr (fun t ht hW => ⟨⟨0, (), rfl, by rw [hF], by rw [hF, ht]; exact hP, by rw [hF]; exact hD⟩, hS.F ht⟩) hS.2.2 d_NC_giveMeant_117
          · refine lv_aload_n hx hb d_NC_giveMeant_91 rfl (lv_at hl 3 rfl) ?_
            refine lv_iload hx hb d_NC_giveMeant_92 (lv_at hl 0 rfl) ?_
            refine nc_ro (va_runV (As := [.int (f_NC_bestOf S ((S 0) 9 0))]) (rest := []) hfix (c_NC_leadersOf l dC dI cA ad S (f_NC_bestOf S ((S 0) 9 0))) (k_NC_151 hts hN ⟨Nat.le_of_ble_eq_true rfl, Nat.le_of_ble_eq_true rfl⟩) (nc_preV hK hN hP hD rfl rfl) rfl rfl hl.1 rfl (lv_room (Nat.le_of_ble_eq_true rfl)) d_NC_giveMeant_94 ⟨Nat.zero_le _, Nat.zero_le _⟩) (fun r er => ?_)
            subst er
            refine nc_ro (va_runS (As := [.int (f_NC_leadersOf S (f_NC_bestOf S ((S 0) 9 0)))]) (rest := []) hfix (c_bitCount l dC dI cA (f_NC_leadersOf S (f_NC_bestOf S ((S 0) 9 0)))) (k_NC_154 hts hN ⟨Nat.le_of_ble_eq_true rfl, Nat.le_of_ble_eq_true rfl⟩) (nc_preS0 hK hN) rfl rfl hl.1 rfl (lv_room (Nat.le_of_ble_eq_true rfl)) d_NC_giveMeant_97 ⟨Nat.zero_le _, Nat.zero_le _⟩) (fun r er => ?_)
            subst er
            refine lv_iconst (v := 1) hx hb d_NC_giveMeant_100 (by decide) ?_
            refine lv_icmp_ne (tgt := 118) hx hb d_NC_giveMeant_101 (by decide) (fun c_301 => ?_) (fun c_301 => ?_)
            · refine lv_aload_n hx hb d_NC_giveMeant_118 rfl (lv_at hl 3 rfl) ?_
              refine lv_iload hx hb d_NC_giveMeant_119 (lv_at hl 0 rfl) ?_
              refine va_put (D := (dC, dI)) (ci := 0) (v := .int (f_NC_bestOf S ((S 0) 9 0))) (ty := .int) (C := R_NC) (T := F_NC) (N := 15) hx hb hts i_NC t_NC t_NC_ok n_NC hown hK hP hD hS 0 rfl rfl 10 (by decide) (hts _ m_f_NC_53) (fun _ h9 => h9) rfl (by decide +kernel) rfl rfl (Nat.le_of_ble_eq_true rfl) d_NC_giveMeant_121 (fun H locs hP hD hS => ?_)
              have hP : va_P (dC, dI) classes (w_NC cA ad (upr S 0 (upf (S 0) 10 (fun _ => (f_NC_bestOf S ((S 0) 9 0)))))) H := hP
              have hD : va_D A (w_NC cA ad (upr S 0 (upf (S 0) 10 (fun _ => (f_NC_bestOf S ((S 0) 9 0)))))) := hD
              refine lv_aload_n hx hb d_NC_giveMeant_124 rfl (lv_at hl 3 rfl) ?_
              refine lv_iload_n hx hb d_NC_giveMeant_125 rfl (lv_at hl 4 rfl) ?_
              refine va_put (D := (dC, dI)) (ci := 0) (v := .int x1) (ty := .int) (C := R_NC) (T := F_NC) (N := 15) hx hb hts i_NC t_NC t_NC_ok n_NC hown hK hP hD hS 0 rfl rfl 11 (by decide) (hts _ m_f_NC_56) (fun _ h9 => h9) rfl (by decide +kernel) rfl rfl (Nat.le_of_ble_eq_true rfl) d_NC_giveMeant_126 (fun H locs hP hD hS => ?_)
              have hP : va_P (dC, dI) classes (w_NC cA ad (upr S 0 (upf (upf (S 0) 10 (fun _ => (f_NC_bestOf S ((S 0) 9 0)))) 11 (fun _ => x1)))) H := hP
              have hD : va_D A (w_NC cA ad (upr S 0 (upf (upf (S 0) 10 (fun _ => (f_NC_bestOf S ((S 0) 9 0)))) 11 (fun _ => x1)))) := hD
              refine lv_iconst (v := 1) hx hb d_NC_giveMeant_129 (by decide) ?_
              have hF : (f_NC_giveMeant S x1 x2) = (1, (upr S 0 (upf (upf (S 0) 10 (fun _ => (f_NC_bestOf S ((S 0) 9 0)))) 11 (fun _ => x1)))) := by rw [f_NC_giveMeant, if_pos c_286, if_neg c_287, if_pos c_295, if_neg c_296, if_pos c_299, if_neg c_301]
              exact W.iret (v := 1) hx hb hr (fun t ht hW => ⟨⟨1, (), rfl, by rw [hF], by rw [hF, ht]; exact hP, by rw [hF]; exact hD⟩, hS.F ht⟩) hS.2.2 d_NC_giveMeant_130
            · refine lv_aload_n hx hb d_NC_giveMeant_104 rfl (lv_at hl 3 rfl) ?_
              refine va_get (D := (dC, dI)) (ci := 0) (v := .ref ((ad 5) 0)) (C := R_NC) (T := F_NC) (N := 15) hx hb hts i_NC hown hK hP 0 rfl rfl 8 (by decide) (hts _ m_f_NC_47) (fun _ h9 => h9) rfl d_NC_giveMeant_105 ?_
              refine lv_iload hx hb d_NC_giveMeant_108 (lv_at hl 0 rfl) ?_
              refine nc_ro (va_runS (As := [.int (f_NC_bestOf S ((S 0) 9 0))]) (rest := [.ref ((ad 5) 0)]) hfix (c_NC_leastOf l dC dI cA (f_NC_bestOf S ((S 0) 9 0))) (k_NC_219 hts hN ⟨Nat.le_of_ble_eq_true rfl, Nat.le_of_ble_eq_true rfl⟩) (nc_preS0 hK hN) rfl rfl hl.1 rfl (lv_room (Nat.le_of_ble_eq_true rfl)) d_NC_giveMeant_110 ⟨Nat.zero_le _, Nat.zero_le _⟩) (fun r er => ?_)
              subst er
              have hP_w_302 := hP.sub (ws' := (w_Picks cA (ad 5) (S 5))) [29, 30] rfl
              have hD_w_302 := hD.sub (ws' := (w_Picks cA (ad 5) (S 5))) [29, 30] (by decide) rfl
              have hFc := va_free (wc := (w_Picks cA (ad 5) (S 5))) hD hS hA [29, 30] rfl
              refine nc_muv (va_runV (As := [.int (f_NC_leastOf (f_NC_bestOf S ((S 0) 9 0)))]) (rest := []) hfix (c_Picks_add l dC dI cA s.heap.size (ad 5) (S 5) (f_NC_leastOf (f_NC_bestOf S ((S 0) 9 0))) hg) (k_NC_204 hts hN ⟨Nat.le_of_ble_eq_true rfl, Nat.le_of_ble_eq_true rfl⟩) (nc_preVM hK hN hP_w_302 hD_w_302 rfl rfl) rfl rfl hl.1 rfl (lv_room (Nat.le_of_ble_eq_true rfl)) d_NC_giveMeant_113 ⟨Nat.zero_le _, Nat.zero_le _⟩) hS hFc (fun H locs hP1 hD1 hk1 hS => ?_)
              obtain ⟨hP, hD⟩ := va_join (wr := va_pick (w_NC cA ad S) [0, 1, 2, 3, 4, 5, 6, 7, 8, 9, 10, 11, 12, 13, 14, 15, 16, 17, 18, 19, 20, 21, 22, 23, 24, 25, 26, 27, 28]) (w1 := (w_Picks cA (ad 5) (f_Picks_add (S 5) (f_NC_leastOf (f_NC_bestOf S ((S 0) 9 0)))))) hP hD [29, 30] [0, 1, 2, 3, 4, 5, 6, 7, 8, 9, 10, 11, 12, 13, 14, 15, 16, 17, 18, 19, 20, 21, 22, 23, 24, 25, 26, 27, 28] rfl rfl (by decide) (by decide) hk1 hFc hP1 hD1
              have hP : va_P (dC, dI) classes (w_NC cA ad (upr S 5 (f_Picks_add (S 5) (f_NC_leastOf (f_NC_bestOf S ((S 0) 9 0)))))) H := hP.sub [0, 1, 2, 3, 4, 5, 6, 7, 8, 9, 10, 11, 12, 13, 14, 15, 16, 17, 18, 19, 20, 21, 22, 23, 24, 25, 26, 27, 28, 29, 30] rfl
              have hD : va_D A (w_NC cA ad (upr S 5 (f_Picks_add (S 5) (f_NC_leastOf (f_NC_bestOf S ((S 0) 9 0)))))) := hD.sub [0, 1, 2, 3, 4, 5, 6, 7, 8, 9, 10, 11, 12, 13, 14, 15, 16, 17, 18, 19, 20, 21, 22, 23, 24, 25, 26, 27, 28, 29, 30] (by decide) rfl
              refine lv_iconst (v := 0) hx hb d_NC_giveMeant_116 (by decide) ?_
              have hF : (f_NC_giveMeant S x1 x2) = (0, (upr S 5 (f_Picks_add (S 5) (f_NC_leastOf (f_NC_bestOf S ((S 0) 9 0)))))) := by rw [f_NC_giveMeant, if_pos c_286, if_neg c_287, if_pos c_295, if_neg c_296, if_pos c_299, if_pos c_301]
              exact W.iret (v := 0) hx hb hr (fun t ht hW => ⟨⟨0, (), rfl, by rw [hF], by rw [hF, ht]; exact hP, by rw [hF]; exact hD⟩, hS.F ht⟩) hS.2.2 d_NC_giveMeant_117
        · refine lv_iconst (v := 3) hx hb d_NC_giveMeant_68 (by decide) ?_
          have hF : (f_NC_giveMeant S x1 x2) = (3, S) := by rw [f_NC_giveMeant, if_pos c_286, if_neg c_287, if_pos c_295, if_pos c_296]
          exact W.iret (v := 3) hx hb hr (fun t ht hW => ⟨⟨3, (), rfl, by rw [hF], by rw [hF, ht]; exact hP, by rw [hF]; exact hD⟩, hS.F ht⟩) hS.2.2 d_NC_giveMeant_69
      · refine lv_aload_n hx hb d_NC_giveMeant_43 rfl (lv_at hl 1 rfl) ?_
        refine va_get (D := (dC, dI)) (ci := 0) (v := .int ((S 0) 9 0)) (C := R_NC) (T := F_NC) (N := 15) hx hb hts i_NC hown hK hP 0 rfl rfl 9 (by decide) (hts _ m_f_NC_50) (fun _ h9 => h9) rfl d_NC_giveMeant_44 ?_
        refine lv_aload_n hx hb d_NC_giveMeant_47 rfl (lv_at hl 1 rfl) ?_
        refine va_get (D := (dC, dI)) (ci := 0) (v := .ref ((ad 0) 2)) (C := R_NC) (T := F_NC) (N := 15) hx hb hts i_NC hown hK hP 0 rfl rfl 6 (by decide) (hts _ m_f_NC_37) (fun _ h9 => h9) rfl d_NC_giveMeant_48 ?_
        refine lv_iload_n hx hb d_NC_giveMeant_51 rfl (lv_at hl 2 rfl) ?_
        refine va_iald (f := ((S 0) 6)) hx hb hK hP 2 0 rfl rfl (by have q0 := nc_eq c_286 rfl (L_0); have q1 := nc_nlt c_287 rfl (L_0); have q2 := nc_nle c_295 (L_30) rfl; exact vp_in_iff.mpr ⟨by omega, by omega⟩) d_NC_giveMeant_52 ?_
        refine lv_iand hx hb d_NC_giveMeant_53 ?_
        refine lv_goto (tgt := 61) hx hb d_NC_giveMeant_54 (by decide) ?_
        refine lv_istore (lv' := [(4, .int (((S 0) 9 0) &&& (((S 0) 6) x1.toNatClampNeg))), (3, .int (((S 0) 9 0) &&& (f_NC_fittingSetP S x2 2))), (0, .ref ((ad 0) 0)), (1, .int x1), (2, .int x2)]) hx hb d_NC_giveMeant_61 hl (by decide) rfl (fun ls hl => ?_)
        refine lv_iload hx hb d_NC_giveMeant_63 (lv_at hl 0 rfl) ?_
        refine lv_if_ne (tgt := 70) hx hb d_NC_giveMeant_65 (by decide) (fun c_303 => ?_) (fun c_303 => ?_)
        · refine lv_aload_n hx hb d_NC_giveMeant_70 rfl (lv_at hl 2 rfl) ?_
          refine lv_iload hx hb d_NC_giveMeant_71 (lv_at hl 0 rfl) ?_
          refine nc_ro (va_runV (As := [.int (((S 0) 9 0) &&& (((S 0) 6) x1.toNatClampNeg))]) (rest := []) hfix (c_NC_bestOf l dC dI cA ad S (((S 0) 9 0) &&& (((S 0) 6) x1.toNatClampNeg))) (k_NC_216 hts hN ⟨Nat.le_of_ble_eq_true rfl, Nat.le_of_ble_eq_true rfl⟩) (nc_preV hK hN hP hD rfl rfl) rfl rfl hl.1 rfl (lv_room (Nat.le_of_ble_eq_true rfl)) d_NC_giveMeant_73 ⟨Nat.zero_le _, Nat.zero_le _⟩) (fun r er => ?_)
          subst er
          refine lv_istore (lv' := [(5, .int (f_NC_bestOf S (((S 0) 9 0) &&& (((S 0) 6) x1.toNatClampNeg)))), (4, .int (((S 0) 9 0) &&& (((S 0) 6) x1.toNatClampNeg))), (3, .int (((S 0) 9 0) &&& (f_NC_fittingSetP S x2 2))), (0, .ref ((ad 0) 0)), (1, .int x1), (2, .int x2)]) hx hb d_NC_giveMeant_76 hl (by decide) rfl (fun ls hl => ?_)
          refine lv_aload_n hx hb d_NC_giveMeant_78 rfl (lv_at hl 3 rfl) ?_
          refine va_get (D := (dC, dI)) (ci := 0) (v := .ref ((ad 2) 0)) (C := R_NC) (T := F_NC) (N := 15) hx hb hts i_NC hown hK hP 0 rfl rfl 4 (by decide) (hts _ m_f_NC_30) (fun _ h9 => h9) rfl d_NC_giveMeant_79 ?_
          refine lv_iload_n hx hb d_NC_giveMeant_82 rfl (lv_at hl 5 rfl) ?_
          refine lv_bipush (v := 31) hx hb d_NC_giveMeant_83 (by decide) ?_
          have hP_w_304 := hP.sub (ws' := (w_Phrase cA (ad 2) (S 2))) [11, 12, 13, 14, 15, 16, 17, 18] rfl
          have hD_w_304 := hD.sub (ws' := (w_Phrase cA (ad 2) (S 2))) [11, 12, 13, 14, 15, 16, 17, 18] (by decide) rfl
          refine nc_ro (va_runV (As := [.int x2, .int 31]) (rest := []) hfix (c_Phrase_tells l dC dI cA (ad 2) (S 2) x2 31) (k_NC_222 hts hN ⟨Nat.le_of_ble_eq_true rfl, Nat.le_of_ble_eq_true rfl⟩) (nc_preV hK hN hP_w_304 hD_w_304 rfl rfl) rfl rfl hl.1 rfl (lv_room (Nat.le_of_ble_eq_true rfl)) d_NC_giveMeant_85 ⟨Nat.zero_le _, Nat.zero_le _⟩) (fun r er => ?_)
          obtain ⟨rfl, hz_305⟩ := er
          refine lv_if_ne (tgt := 104) hx hb d_NC_giveMeant_88 (by decide) (fun c_306 => ?_) (fun c_306 => ?_)
          · refine lv_aload_n hx hb d_NC_giveMeant_104 rfl (lv_at hl 3 rfl) ?_
            refine va_get (D := (dC, dI)) (ci := 0) (v := .ref ((ad 5) 0)) (C := R_NC) (T := F_NC) (N := 15) hx hb hts i_NC hown hK hP 0 rfl rfl 8 (by decide) (hts _ m_f_NC_47) (fun _ h9 => h9) rfl d_NC_giveMeant_105 ?_
            refine lv_iload hx hb d_NC_giveMeant_108 (lv_at hl 0 rfl) ?_
            refine nc_ro (va_runS (As := [.int (f_NC_bestOf S (((S 0) 9 0) &&& (((S 0) 6) x1.toNatClampNeg)))]) (rest := [.ref ((ad 5) 0)]) hfix (c_NC_leastOf l dC dI cA (f_NC_bestOf S (((S 0) 9 0) &&& (((S 0) 6) x1.toNatClampNeg)))) (k_NC_219 hts hN ⟨Nat.le_of_ble_eq_true rfl, Nat.le_of_ble_eq_true rfl⟩) (nc_preS0 hK hN) rfl rfl hl.1 rfl (lv_room (Nat.le_of_ble_eq_true rfl)) d_NC_giveMeant_110 ⟨Nat.zero_le _, Nat.zero_le _⟩) (fun r er => ?_)
            subst er
            have hP_w_307 := hP.sub (ws' := (w_Picks cA (ad 5) (S 5))) [29, 30] rfl
            have hD_w_307 := hD.sub (ws' := (w_Picks cA (ad 5) (S 5))) [29, 30] (by decide) rfl
            have hFc := va_free (wc := (w_Picks cA (ad 5) (S 5))) hD hS hA [29, 30] rfl
            refine nc_muv (va_runV (As := [.int (f_NC_leastOf (f_NC_bestOf S (((S 0) 9 0) &&& (((S 0) 6) x1.toNatClampNeg))))]) (rest := []) hfix (c_Picks_add l dC dI cA s.heap.size (ad 5) (S 5) (f_NC_leastOf (f_NC_bestOf S (((S 0) 9 0) &&& (((S 0) 6) x1.toNatClampNeg)))) hg) (k_NC_204 hts hN ⟨Nat.le_of_ble_eq_true rfl, Nat.le_of_ble_eq_true rfl⟩) (nc_preVM hK hN hP_w_307 hD_w_307 rfl rfl) rfl rfl hl.1 rfl (lv_room (Nat.le_of_ble_eq_true rfl)) d_NC_giveMeant_113 ⟨Nat.zero_le _, Nat.zero_le _⟩) hS hFc (fun H locs hP1 hD1 hk1 hS => ?_)
            obtain ⟨hP, hD⟩ := va_join (wr := va_pick (w_NC cA ad S) [0, 1, 2, 3, 4, 5, 6, 7, 8, 9, 10, 11, 12, 13, 14, 15, 16, 17, 18, 19, 20, 21, 22, 23, 24, 25, 26, 27, 28]) (w1 := (w_Picks cA (ad 5) (f_Picks_add (S 5) (f_NC_leastOf (f_NC_bestOf S (((S 0) 9 0) &&& (((S 0) 6) x1.toNatClampNeg))))))) hP hD [29, 30] [0, 1, 2, 3, 4, 5, 6, 7, 8, 9, 10, 11, 12, 13, 14, 15, 16, 17, 18, 19, 20, 21, 22, 23, 24, 25, 26, 27, 28] rfl rfl (by decide) (by decide) hk1 hFc hP1 hD1
            have hP : va_P (dC, dI) classes (w_NC cA ad (upr S 5 (f_Picks_add (S 5) (f_NC_leastOf (f_NC_bestOf S (((S 0) 9 0) &&& (((S 0) 6) x1.toNatClampNeg))))))) H := hP.sub [0, 1, 2, 3, 4, 5, 6, 7, 8, 9, 10, 11, 12, 13, 14, 15, 16, 17, 18, 19, 20, 21, 22, 23, 24, 25, 26, 27, 28, 29, 30] rfl
            have hD : va_D A (w_NC cA ad (upr S 5 (f_Picks_add (S 5) (f_NC_leastOf (f_NC_bestOf S (((S 0) 9 0) &&& (((S 0) 6) x1.toNatClampNeg))))))) := hD.sub [0, 1, 2, 3, 4, 5, 6, 7, 8, 9, 10, 11, 12, 13, 14, 15, 16, 17, 18, 19, 20, 21, 22, 23, 24, 25, 26, 27, 28, 29, 30] (by decide) rfl
            refine lv_iconst (v := 0) hx hb d_NC_giveMeant_116 (by decide) ?_
            have hF : (f_NC_giveMeant S x1 x2) = (0, (upr S 5 (f_Picks_add (S 5) (f_NC_leastOf (f_NC_bestOf S (((S 0) 9 0) &&& (((S 0) 6) x1.toNatClampNeg))))))) := by rw [f_NC_giveMeant, if_pos c_286, if_neg c_287, if_neg c_295, if_neg c_303, if_neg c_306]
            exact W.iret (v := 0) hx hb hr (fun t ht hW => ⟨⟨0, (), rfl, by rw [hF], by rw [hF, ht]; exact hP, by rw [hF]; exact hD⟩, hS.F ht⟩) hS.2.2 d_NC_giveMeant_117
          · refine lv_aload_n hx hb d_NC_giveMeant_91 rfl (lv_at hl 3 rfl) ?_
            refine lv_iload hx hb d_NC_giveMeant_92 (lv_at hl 0 rfl) ?_
            refine nc_ro (va_runV (As := [.int (f_NC_bestOf S (((S 0) 9 0) &&& (((S 0) 6) x1.toNatClampNeg)))]) (rest := []) hfix (c_NC_leadersOf l dC dI cA ad S (f_NC_bestOf S (((S 0) 9 0) &&& (((S 0) 6) x1.toNatClampNeg)))) (k_NC_151 hts hN ⟨Nat.le_of_ble_eq_true rfl, Nat.le_of_ble_eq_true rfl⟩) (nc_preV hK hN hP hD rfl rfl) rfl rfl hl.1 rfl (lv_room (Nat.le_of_ble_eq_true rfl)) d_NC_giveMeant_94 ⟨Nat.zero_le _, Nat.zero_le _⟩) (fun r er => ?_)
            subst er
            refine nc_ro (va_runS (As := [.int (f_NC_leadersOf S (f_NC_bestOf S (((S 0) 9 0) &&& (((S 0) 6) x1.toNatClampNeg))))]) (rest := []) hfix (c_bitCount l dC dI cA (f_NC_leadersOf S (f_NC_bestOf S (((S 0) 9 0) &&& (((S 0) 6) x1.toNatClampNeg))))) (k_NC_154 hts hN ⟨Nat.le_of_ble_eq_true rfl, Nat.le_of_ble_eq_true rfl⟩) (nc_preS0 hK hN) rfl rfl hl.1 rfl (lv_room (Nat.le_of_ble_eq_true rfl)) d_NC_giveMeant_97 ⟨Nat.zero_le _, Nat.zero_le _⟩) (fun r er => ?_)
            subst er
            refine lv_iconst (v := 1) hx hb d_NC_giveMeant_100 (by decide) ?_
            refine lv_icmp_ne (tgt := 118) hx hb d_NC_giveMeant_101 (by decide) (fun c_308 => ?_) (fun c_308 => ?_)
            · refine lv_aload_n hx hb d_NC_giveMeant_118 rfl (lv_at hl 3 rfl) ?_
              refine lv_iload hx hb d_NC_giveMeant_119 (lv_at hl 0 rfl) ?_
              refine va_put (D := (dC, dI)) (ci := 0) (v := .int (f_NC_bestOf S (((S 0) 9 0) &&& (((S 0) 6) x1.toNatClampNeg)))) (ty := .int) (C := R_NC) (T := F_NC) (N := 15) hx hb hts i_NC t_NC t_NC_ok n_NC hown hK hP hD hS 0 rfl rfl 10 (by decide) (hts _ m_f_NC_53) (fun _ h9 => h9) rfl (by decide +kernel) rfl rfl (Nat.le_of_ble_eq_true rfl) d_NC_giveMeant_121 (fun H locs hP hD hS => ?_)
              have hP : va_P (dC, dI) classes (w_NC cA ad (upr S 0 (upf (S 0) 10 (fun _ => (f_NC_bestOf S (((S 0) 9 0) &&& (((S 0) 6) x1.toNatClampNeg))))))) H := hP
              have hD : va_D A (w_NC cA ad (upr S 0 (upf (S 0) 10 (fun _ => (f_NC_bestOf S (((S 0) 9 0) &&& (((S 0) 6) x1.toNatClampNeg))))))) := hD
              refine lv_aload_n hx hb d_NC_giveMeant_124 rfl (lv_at hl 3 rfl) ?_
              refine lv_iload_n hx hb d_NC_giveMeant_125 rfl (lv_at hl 4 rfl) ?_
              refine va_put (D := (dC, dI)) (ci := 0) (v := .int x1) (ty := .int) (C := R_NC) (T := F_NC) (N := 15) hx hb hts i_NC t_NC t_NC_ok n_NC hown hK hP hD hS 0 rfl rfl 11 (by decide) (hts _ m_f_NC_56) (fun _ h9 => h9) rfl (by decide +kernel) rfl rfl (Nat.le_of_ble_eq_true rfl) d_NC_giveMeant_126 (fun H locs hP hD hS => ?_)
              have hP : va_P (dC, dI) classes (w_NC cA ad (upr S 0 (upf (upf (S 0) 10 (fun _ => (f_NC_bestOf S (((S 0) 9 0) &&& (((S 0) 6) x1.toNatClampNeg))))) 11 (fun _ => x1)))) H := hP
              have hD : va_D A (w_NC cA ad (upr S 0 (upf (upf (S 0) 10 (fun _ => (f_NC_bestOf S (((S 0) 9 0) &&& (((S 0) 6) x1.toNatClampNeg))))) 11 (fun _ => x1)))) := hD
              refine lv_iconst (v := 1) hx hb d_NC_giveMeant_129 (by decide) ?_
              have hF : (f_NC_giveMeant S x1 x2) = (1, (upr S 0 (upf (upf (S 0) 10 (fun _ => (f_NC_bestOf S (((S 0) 9 0) &&& (((S 0) 6) x1.toNatClampNeg))))) 11 (fun _ => x1)))) := by rw [f_NC_giveMeant, if_pos c_286, if_neg c_287, if_neg c_295, if_neg c_303, if_pos c_306, if_neg c_308]
              exact W.iret (v := 1) hx hb hr (fun t ht hW => ⟨⟨1, (), rfl, by rw [hF], by rw [hF, ht]; exact hP, by rw [hF]; exact hD⟩, hS.F ht⟩) hS.2.2 d_NC_giveMeant_130
            · refine lv_aload_n hx hb d_NC_giveMeant_104 rfl (lv_at hl 3 rfl) ?_
              refine va_get (D := (dC, dI)) (ci := 0) (v := .ref ((ad 5) 0)) (C := R_NC) (T := F_NC) (N := 15) hx hb hts i_NC hown hK hP 0 rfl rfl 8 (by decide) (hts _ m_f_NC_47) (fun _ h9 => h9) rfl d_NC_giveMeant_105 ?_
              refine lv_iload hx hb d_NC_giveMeant_108 (lv_at hl 0 rfl) ?_
              refine nc_ro (va_runS (As := [.int (f_NC_bestOf S (((S 0) 9 0) &&& (((S 0) 6) x1.toNatClampNeg)))]) (rest := [.ref ((ad 5) 0)]) hfix (c_NC_leastOf l dC dI cA (f_NC_bestOf S (((S 0) 9 0) &&& (((S 0) 6) x1.toNatClampNeg)))) (k_NC_219 hts hN ⟨Nat.le_of_ble_eq_true rfl, Nat.le_of_ble_eq_true rfl⟩) (nc_preS0 hK hN) rfl rfl hl.1 rfl (lv_room (Nat.le_of_ble_eq_true rfl)) d_NC_giveMeant_110 ⟨Nat.zero_le _, Nat.zero_le _⟩) (fun r er => ?_)
              subst er
              have hP_w_309 := hP.sub (ws' := (w_Picks cA (ad 5) (S 5))) [29, 30] rfl
              have hD_w_309 := hD.sub (ws' := (w_Picks cA (ad 5) (S 5))) [29, 30] (by decide) rfl
              have hFc := va_free (wc := (w_Picks cA (ad 5) (S 5))) hD hS hA [29, 30] rfl
              refine nc_muv (va_runV (As := [.int (f_NC_leastOf (f_NC_bestOf S (((S 0) 9 0) &&& (((S 0) 6) x1.toNatClampNeg))))]) (rest := []) hfix (c_Picks_add l dC dI cA s.heap.size (ad 5) (S 5) (f_NC_leastOf (f_NC_bestOf S (((S 0) 9 0) &&& (((S 0) 6) x1.toNatClampNeg)))) hg) (k_NC_204 hts hN ⟨Nat.le_of_ble_eq_true rfl, Nat.le_of_ble_eq_true rfl⟩) (nc_preVM hK hN hP_w_309 hD_w_309 rfl rfl) rfl rfl hl.1 rfl (lv_room (Nat.le_of_ble_eq_true rfl)) d_NC_giveMeant_113 ⟨Nat.zero_le _, Nat.zero_le _⟩) hS hFc (fun H locs hP1 hD1 hk1 hS => ?_)
              obtain ⟨hP, hD⟩ := va_join (wr := va_pick (w_NC cA ad S) [0, 1, 2, 3, 4, 5, 6, 7, 8, 9, 10, 11, 12, 13, 14, 15, 16, 17, 18, 19, 20, 21, 22, 23, 24, 25, 26, 27, 28]) (w1 := (w_Picks cA (ad 5) (f_Picks_add (S 5) (f_NC_leastOf (f_NC_bestOf S (((S 0) 9 0) &&& (((S 0) 6) x1.toNatClampNeg))))))) hP hD [29, 30] [0, 1, 2, 3, 4, 5, 6, 7, 8, 9, 10, 11, 12, 13, 14, 15, 16, 17, 18, 19, 20, 21, 22, 23, 24, 25, 26, 27, 28] rfl rfl (by decide) (by decide) hk1 hFc hP1 hD1
              have hP : va_P (dC, dI) classes (w_NC cA ad (upr S 5 (f_Picks_add (S 5) (f_NC_leastOf (f_NC_bestOf S (((S 0) 9 0) &&& (((S 0) 6) x1.toNatClampNeg))))))) H := hP.sub [0, 1, 2, 3, 4, 5, 6, 7, 8, 9, 10, 11, 12, 13, 14, 15, 16, 17, 18, 19, 20, 21, 22, 23, 24, 25, 26, 27, 28, 29, 30] rfl
              have hD : va_D A (w_NC cA ad (upr S 5 (f_Picks_add (S 5) (f_NC_leastOf (f_NC_bestOf S (((S 0) 9 0) &&& (((S 0) 6) x1.toNatClampNeg))))))) := hD.sub [0, 1, 2, 3, 4, 5, 6, 7, 8, 9, 10, 11, 12, 13, 14, 15, 16, 17, 18, 19, 20, 21, 22, 23, 24, 25, 26, 27, 28, 29, 30] (by decide) rfl
              refine lv_iconst (v := 0) hx hb d_NC_giveMeant_116 (by decide) ?_
              have hF : (f_NC_giveMeant S x1 x2) = (0, (upr S 5 (f_Picks_add (S 5) (f_NC_leastOf (f_NC_bestOf S (((S 0) 9 0) &&& (((S 0) 6) x1.toNatClampNeg))))))) := by rw [f_NC_giveMeant, if_pos c_286, if_neg c_287, if_neg c_295, if_neg c_303, if_pos c_306, if_pos c_308]
              exact W.iret (v := 0) hx hb hr (fun t ht hW => ⟨⟨0, (), rfl, by rw [hF], by rw [hF, ht]; exact hP, by rw [hF]; exact hD⟩, hS.F ht⟩) hS.2.2 d_NC_giveMeant_117
        · refine lv_iconst (v := 3) hx hb d_NC_giveMeant_68 (by decide) ?_
          have hF : (f_NC_giveMeant S x1 x2) = (3, S) := by rw [f_NC_giveMeant, if_pos c_286, if_neg c_287, if_neg c_295, if_pos c_303]
          exact W.iret (v := 3) hx hb hr (fun t ht hW => ⟨⟨3, (), rfl, by rw [hF], by rw [hF, ht]; exact hP, by rw [hF]; exact hD⟩, hS.F ht⟩) hS.2.2 d_NC_giveMeant_69
  · refine lv_aload_n hx hb d_NC_giveMeant_20 rfl (lv_at hl 1 rfl) ?_
    refine va_get (D := (dC, dI)) (ci := 0) (v := .ref ((ad 5) 0)) (C := R_NC) (T := F_NC) (N := 15) hx hb hts i_NC hown hK hP 0 rfl rfl 8 (by decide) (hts _ m_f_NC_47) (fun _ h9 => h9) rfl d_NC_giveMeant_21 ?_
    refine lv_iload_n hx hb d_NC_giveMeant_24 rfl (lv_at hl 0 rfl) ?_
    have hP_w_310 := hP.sub (ws' := (w_Picks cA (ad 5) (S 5))) [29, 30] rfl
    have hD_w_310 := hD.sub (ws' := (w_Picks cA (ad 5) (S 5))) [29, 30] (by decide) rfl
    have hFc := va_free (wc := (w_Picks cA (ad 5) (S 5))) hD hS hA [29, 30] rfl
    refine nc_muv (va_runV (As := [.int (((S 0) 9 0) &&& (f_NC_fittingSetP S x2 2))]) (rest := []) hfix (c_Picks_add l dC dI cA s.heap.size (ad 5) (S 5) (((S 0) 9 0) &&& (f_NC_fittingSetP S x2 2)) hg) (k_NC_204 hts hN ⟨Nat.le_of_ble_eq_true rfl, Nat.le_of_ble_eq_true rfl⟩) (nc_preVM hK hN hP_w_310 hD_w_310 rfl rfl) rfl rfl hl.1 rfl (lv_room (Nat.le_of_ble_eq_true rfl)) d_NC_giveMeant_25 ⟨Nat.zero_le _, Nat.zero_le _⟩) hS hFc (fun H locs hP1 hD1 hk1 hS => ?_)
    obtain ⟨hP, hD⟩ := va_join (wr := va_pick (w_NC cA ad S) [0, 1, 2, 3, 4, 5, 6, 7, 8, 9, 10, 11, 12, 13, 14, 15, 16, 17, 18, 19, 20, 21, 22, 23, 24, 25, 26, 27, 28]) (w1 := (w_Picks cA (ad 5) (f_Picks_add (S 5) (((S 0) 9 0) &&& (f_NC_fittingSetP S x2 2))))) hP hD [29, 30] [0, 1, 2, 3, 4, 5, 6, 7, 8, 9, 10, 11, 12, 13, 14, 15, 16, 17, 18, 19, 20, 21, 22, 23, 24, 25, 26, 27, 28] rfl rfl (by decide) (by decide) hk1 hFc hP1 hD1
    have hP : va_P (dC, dI) classes (w_NC cA ad (upr S 5 (f_Picks_add (S 5) (((S 0) 9 0) &&& (f_NC_fittingSetP S x2 2))))) H := hP.sub [0, 1, 2, 3, 4, 5, 6, 7, 8, 9, 10, 11, 12, 13, 14, 15, 16, 17, 18, 19, 20, 21, 22, 23, 24, 25, 26, 27, 28, 29, 30] rfl
    have hD : va_D A (w_NC cA ad (upr S 5 (f_Picks_add (S 5) (((S 0) 9 0) &&& (f_NC_fittingSetP S x2 2))))) := hD.sub [0, 1, 2, 3, 4, 5, 6, 7, 8, 9, 10, 11, 12, 13, 14, 15, 16, 17, 18, 19, 20, 21, 22, 23, 24, 25, 26, 27, 28, 29, 30] (by decide) rfl
    refine lv_iconst (v := 0) hx hb d_NC_giveMeant_28 (by decide) ?_
    have hF : (f_NC_giveMeant S x1 x2) = (0, (upr S 5 (f_Picks_add (S 5) (((S 0) 9 0) &&& (f_NC_fittingSetP S x2 2))))) := by rw [f_NC_giveMeant, if_neg c_286]
    exact W.iret (v := 0) hx hb hr (fun t ht hW => ⟨⟨0, (), rfl, by rw [hF], by rw [hF, ht]; exact hP, by rw [hF]; exact hD⟩, hS.F ht⟩) hS.2.2 d_NC_giveMeant_29
theorem gme_r {S : Nat → Nat → Nat → Int32} {x1 x2 : Int32} : (f_NC_giveMeant S x1 x2).2 2 = S 2 ∧ (0 ≤ ((S 5) 1 0).toInt → 0 ≤ (((f_NC_giveMeant S x1 x2).2 5) 1 0).toInt) := by
  unfold f_NC_giveMeant
  repeat' split
  all_goals first | exact ⟨rfl, fun h => h⟩ | exact ⟨rfl, fun h => add_z h⟩
def f_NC_goThroughPart (S : Nat → Nat → Nat → Int32) (x1 : Int32) : Int32 × (Nat → Nat → Nat → Int32) := (if (f_Phrase_mainOf (S 2) x1) = (-1) then (if (f_Things_allSet (S 1)) = 0 then (2, S) else (if ((f_Things_allSet (S 1)) &&& (f_Things_thereSet (S 1))) = 0 then (3, (upr S 0 (upf (S 0) 9 (fun _ => ((f_Things_allSet (S 1)) &&& (f_Things_thereSet (S 1))))))) else (if (f_NC_takeExceptsAway (upr S 0 (upf (S 0) 9 (fun _ => ((f_Things_allSet (S 1)) &&& (f_Things_thereSet (S 1)))))) x1).1 = 0 then (4, (f_NC_takeExceptsAway (upr S 0 (upf (S 0) 9 (fun _ => ((f_Things_allSet (S 1)) &&& (f_Things_thereSet (S 1)))))) x1).2) else (if (((f_NC_takeExceptsAway (upr S 0 (upf (S 0) 9 (fun _ => ((f_Things_allSet (S 1)) &&& (f_Things_thereSet (S 1)))))) x1).2 0) 9 0) = 0 then (5, (f_NC_takeExceptsAway (upr S 0 (upf (S 0) 9 (fun _ => ((f_Things_allSet (S 1)) &&& (f_Things_thereSet (S 1)))))) x1).2) else (if (f_Phrase_amountOf ((f_NC_takeExceptsAway (upr S 0 (upf (S 0) 9 (fun _ => ((f_Things_allSet (S 1)) &&& (f_Things_thereSet (S 1)))))) x1).2 2) x1) ≤ 0 then (if (f_Phrase_amountOf ((f_NC_takeExceptsAway (upr S 0 (upf (S 0) 9 (fun _ => ((f_Things_allSet (S 1)) &&& (f_Things_thereSet (S 1)))))) x1).2 2) x1) = (-1) then (0, (upr (f_NC_takeExceptsAway (upr S 0 (upf (S 0) 9 (fun _ => ((f_Things_allSet (S 1)) &&& (f_Things_thereSet (S 1)))))) x1).2 5 (f_Picks_add ((f_NC_takeExceptsAway (upr S 0 (upf (S 0) 9 (fun _ => ((f_Things_allSet (S 1)) &&& (f_Things_thereSet (S 1)))))) x1).2 5) (((f_NC_takeExceptsAway (upr S 0 (upf (S 0) 9 (fun _ => ((f_Things_allSet (S 1)) &&& (f_Things_thereSet (S 1)))))) x1).2 0) 9 0)))) else ((f_NC_giveMeant (f_NC_takeExceptsAway (upr S 0 (upf (S 0) 9 (fun _ => ((f_Things_allSet (S 1)) &&& (f_Things_thereSet (S 1)))))) x1).2 x1 (f_Phrase_mainOf (S 2) x1)).1, (f_NC_giveMeant (f_NC_takeExceptsAway (upr S 0 (upf (S 0) 9 (fun _ => ((f_Things_allSet (S 1)) &&& (f_Things_thereSet (S 1)))))) x1).2 x1 (f_Phrase_mainOf (S 2) x1)).2)) else ((f_NC_giveNumber (f_NC_takeExceptsAway (upr S 0 (upf (S 0) 9 (fun _ => ((f_Things_allSet (S 1)) &&& (f_Things_thereSet (S 1)))))) x1).2 (f_Phrase_amountOf ((f_NC_takeExceptsAway (upr S 0 (upf (S 0) 9 (fun _ => ((f_Things_allSet (S 1)) &&& (f_Things_thereSet (S 1)))))) x1).2 2) x1)).1, (f_NC_giveNumber (f_NC_takeExceptsAway (upr S 0 (upf (S 0) 9 (fun _ => ((f_Things_allSet (S 1)) &&& (f_Things_thereSet (S 1)))))) x1).2 (f_Phrase_amountOf ((f_NC_takeExceptsAway (upr S 0 (upf (S 0) 9 (fun _ => ((f_Things_allSet (S 1)) &&& (f_Things_thereSet (S 1)))))) x1).2 2) x1)).2)))))) else (if (f_NC_fittingSetP S (f_Phrase_mainOf (S 2) x1) 3) = 0 then (2, S) else (if ((f_NC_fittingSetP S (f_Phrase_mainOf (S 2) x1) 3) &&& (f_Things_thereSet (S 1))) = 0 then (3, (upr S 0 (upf (S 0) 9 (fun _ => ((f_NC_fittingSetP S (f_Phrase_mainOf (S 2) x1) 3) &&& (f_Things_thereSet (S 1))))))) else (if (f_NC_takeExceptsAway (upr S 0 (upf (S 0) 9 (fun _ => ((f_NC_fittingSetP S (f_Phrase_mainOf (S 2) x1) 3) &&& (f_Things_thereSet (S 1)))))) x1).1 = 0 then (4, (f_NC_takeExceptsAway (upr S 0 (upf (S 0) 9 (fun _ => ((f_NC_fittingSetP S (f_Phrase_mainOf (S 2) x1) 3) &&& (f_Things_thereSet (S 1)))))) x1).2) else (if (((f_NC_takeExceptsAway (upr S 0 (upf (S 0) 9 (fun _ => ((f_NC_fittingSetP S (f_Phrase_mainOf (S 2) x1) 3) &&& (f_Things_thereSet (S 1)))))) x1).2 0) 9 0) = 0 then (5, (f_NC_takeExceptsAway (upr S 0 (upf (S 0) 9 (fun _ => ((f_NC_fittingSetP S (f_Phrase_mainOf (S 2) x1) 3) &&& (f_Things_thereSet (S 1)))))) x1).2) else (if (f_Phrase_amountOf ((f_NC_takeExceptsAway (upr S 0 (upf (S 0) 9 (fun _ => ((f_NC_fittingSetP S (f_Phrase_mainOf (S 2) x1) 3) &&& (f_Things_thereSet (S 1)))))) x1).2 2) x1) ≤ 0 then (if (f_Phrase_amountOf ((f_NC_takeExceptsAway (upr S 0 (upf (S 0) 9 (fun _ => ((f_NC_fittingSetP S (f_Phrase_mainOf (S 2) x1) 3) &&& (f_Things_thereSet (S 1)))))) x1).2 2) x1) = (-1) then (0, (upr (f_NC_takeExceptsAway (upr S 0 (upf (S 0) 9 (fun _ => ((f_NC_fittingSetP S (f_Phrase_mainOf (S 2) x1) 3) &&& (f_Things_thereSet (S 1)))))) x1).2 5 (f_Picks_add ((f_NC_takeExceptsAway (upr S 0 (upf (S 0) 9 (fun _ => ((f_NC_fittingSetP S (f_Phrase_mainOf (S 2) x1) 3) &&& (f_Things_thereSet (S 1)))))) x1).2 5) (((f_NC_takeExceptsAway (upr S 0 (upf (S 0) 9 (fun _ => ((f_NC_fittingSetP S (f_Phrase_mainOf (S 2) x1) 3) &&& (f_Things_thereSet (S 1)))))) x1).2 0) 9 0)))) else ((f_NC_giveMeant (f_NC_takeExceptsAway (upr S 0 (upf (S 0) 9 (fun _ => ((f_NC_fittingSetP S (f_Phrase_mainOf (S 2) x1) 3) &&& (f_Things_thereSet (S 1)))))) x1).2 x1 (f_Phrase_mainOf (S 2) x1)).1, (f_NC_giveMeant (f_NC_takeExceptsAway (upr S 0 (upf (S 0) 9 (fun _ => ((f_NC_fittingSetP S (f_Phrase_mainOf (S 2) x1) 3) &&& (f_Things_thereSet (S 1)))))) x1).2 x1 (f_Phrase_mainOf (S 2) x1)).2)) else ((f_NC_giveNumber (f_NC_takeExceptsAway (upr S 0 (upf (S 0) 9 (fun _ => ((f_NC_fittingSetP S (f_Phrase_mainOf (S 2) x1) 3) &&& (f_Things_thereSet (S 1)))))) x1).2 (f_Phrase_amountOf ((f_NC_takeExceptsAway (upr S 0 (upf (S 0) 9 (fun _ => ((f_NC_fittingSetP S (f_Phrase_mainOf (S 2) x1) 3) &&& (f_Things_thereSet (S 1)))))) x1).2 2) x1)).1, (f_NC_giveNumber (f_NC_takeExceptsAway (upr S 0 (upf (S 0) 9 (fun _ => ((f_NC_fittingSetP S (f_Phrase_mainOf (S 2) x1) 3) &&& (f_Things_thereSet (S 1)))))) x1).2 (f_Phrase_amountOf ((f_NC_takeExceptsAway (upr S 0 (upf (S 0) 9 (fun _ => ((f_NC_fittingSetP S (f_Phrase_mainOf (S 2) x1) 3) &&& (f_Things_thereSet (S 1)))))) x1).2 2) x1)).2)))))))
abbrev ws_NC_goThroughPart : List Cond := .code y_NC_goThroughPart b_NC_goThroughPart 5 (some .int) :: lw_G
abbrev rm_NC_goThroughPart : Room := { frames := 4, cells := 0, slots := 0, locals := 99 }
set_option maxHeartbeats 4000000 in
set_option maxRecDepth 100000 in
theorem c_NC_goThroughPart (l : Launch) (dC : Nat → ClassId) (dI : Nat → Nat → Nat) (cA : ClassId) (sz : Nat) (ad : Nat → Nat → Nat) (S : Nat → Nat → Nat → Int32) (x1 : Int32) (hg : 0 ≤ ((S 5) 1 0).toInt) : Met l y_NC_goThroughPart ws_NC_goThroughPart rm_NC_goThroughPart (nc_PreM (dC, dI) cA sz [.ref ((ad 0) 0), .int x1] (w_NC cA ad S)) (va_Qi (fun r (_ : Unit) => r = (f_NC_goThroughPart S x1).1) (fun _ t => va_P (dC, dI) classes (w_NC cA ad (f_NC_goThroughPart S x1).2) t.heap ∧ va_D (va_A (w_NC cA ad S) sz) (w_NC cA ad (f_NC_goThroughPart S x1).2)) (va_A (w_NC cA ad S) sz)) 0 0 (va_A (w_NC cA ad S) sz) := by
  refine Met.ofW (cc := b_NC_goThroughPart) (maxL := 5) (ret := (some .int)) (by decide) rfl ?_
  intro p e s m args below meth c s₁ B hml hv
  obtain ⟨rfl, hsz, hP, hK, hD0, hN⟩ := hv
  have hx := B.exec
  have hb := B.bytes
  have hr := B.returns
  have hts : ∀ w ∈ lw_G, w.before [.ref ((ad 0) 0), .int x1].toArray s = true := fun w h => atoms_spec (ws := ws_NC_goThroughPart) B.pre w (List.mem_cons_of_mem _ h)
  have hown : s.vm.findClass R_NC = some m.cls := findClass_of_methodNamed B.named
  have hlocks := B.notSynchronized
  have hfix : CallFix p m c b_NC_goThroughPart 5 s [.ref ((ad 0) 0), .int x1].toArray lw_G R_NC := ⟨hx, hb, hml, hown, hts⟩
  subst hsz
  have hD := hD0.self (sz := s.heap.size)
  generalize hAe : va_A (w_NC cA ad S) s.heap.size = A at hD ⊢
  have hA : ∀ q : Nat, s.heap.size ≤ q → A q := fun q h => by rw [← hAe]; exact Or.inr h
  have hS : va_S A s.heap s.heap [] := va_S.rf
  have hl := lv_entry ([.ref ((ad 0) 0), .int x1]) (n := 5) (Nat.le_of_ble_eq_true rfl)
  rw [lg_entry_eq]
  generalize (lg_sl ([.ref ((ad 0) 0), .int x1]) ++ List.replicate (5 - (lg_sl ([.ref ((ad 0) 0), .int x1])).length) Slot.unset).toArray = ls at hl ⊢
  have hl : lv_has ls 5 [(0, .ref ((ad 0) 0)), (1, .int x1)] := hl
  refine lv_aload_n hx hb d_NC_goThroughPart_0 rfl (lv_at hl 0 rfl) ?_
  refine va_get (D := (dC, dI)) (ci := 0) (v := .ref ((ad 2) 0)) (C := R_NC) (T := F_NC) (N := 15) hx hb hts i_NC hown hK hP 0 rfl rfl 4 (by decide) (hts _ m_f_NC_30) (fun _ h9 => h9) rfl d_NC_goThroughPart_1 ?_
  refine lv_iload_n hx hb d_NC_goThroughPart_4 rfl (lv_at hl 1 rfl) ?_
  have hP_w_311 := hP.sub (ws' := (w_Phrase cA (ad 2) (S 2))) [11, 12, 13, 14, 15, 16, 17, 18] rfl
  have hD_w_311 := hD.sub (ws' := (w_Phrase cA (ad 2) (S 2))) [11, 12, 13, 14, 15, 16, 17, 18] (by decide) rfl
  refine nc_ro (va_runV (As := [.int x1]) (rest := []) hfix (c_Phrase_mainOf l dC dI cA (ad 2) (S 2) x1) (k_NC_189 hts hN ⟨Nat.le_of_ble_eq_true rfl, Nat.le_of_ble_eq_true rfl⟩) (nc_preV hK hN hP_w_311 hD_w_311 rfl rfl) rfl rfl hl.1 rfl (lv_room (Nat.le_of_ble_eq_true rfl)) d_NC_goThroughPart_5 ⟨Nat.zero_le _, Nat.zero_le _⟩) (fun r er => ?_)
  subst er
  refine lv_istore_n (lv' := [(2, .int (f_Phrase_mainOf (S 2) x1)), (0, .ref ((ad 0) 0)), (1, .int x1)]) hx hb d_NC_goThroughPart_8 rfl hl (by decide) rfl (fun ls hl => ?_)
  refine lv_iload_n hx hb d_NC_goThroughPart_9 rfl (lv_at hl 0 rfl) ?_
  refine lv_iconst (v := (-1)) hx hb d_NC_goThroughPart_10 (by decide) ?_
  refine lv_icmp_ne (tgt := 24) hx hb d_NC_goThroughPart_11 (by decide) (fun c_312 => ?_) (fun c_312 => ?_)
  · refine lv_aload_n hx hb d_NC_goThroughPart_24 rfl (lv_at hl 1 rfl) ?_
    refine lv_aload_n hx hb d_NC_goThroughPart_25 rfl (lv_at hl 1 rfl) ?_
    refine va_get (D := (dC, dI)) (ci := 0) (v := .ref ((ad 2) 0)) (C := R_NC) (T := F_NC) (N := 15) hx hb hts i_NC hown hK hP 0 rfl rfl 4 (by decide) (hts _ m_f_NC_30) (fun _ h9 => h9) rfl d_NC_goThroughPart_26 ?_
    refine lv_iload_n hx hb d_NC_goThroughPart_29 rfl (lv_at hl 0 rfl) ?_
    refine lv_iconst (v := 3) hx hb d_NC_goThroughPart_30 (by decide) ?_
    refine nc_ro (va_runV (As := [.ref ((ad 2) 0), .int (f_Phrase_mainOf (S 2) x1), .int 3]) (rest := []) hfix (c_NC_fittingSetP l dC dI cA ad S (f_Phrase_mainOf (S 2) x1) 3) (k_NC_122 hts hN ⟨Nat.le_of_ble_eq_true rfl, Nat.le_of_ble_eq_true rfl⟩) (nc_preV hK hN hP hD rfl rfl) rfl rfl hl.1 rfl (lv_room (Nat.le_of_ble_eq_true rfl)) d_NC_goThroughPart_31 ⟨Nat.zero_le _, Nat.zero_le _⟩) (fun r er => ?_)
    subst er
    refine lv_istore_n (lv' := [(3, .int (f_NC_fittingSetP S (f_Phrase_mainOf (S 2) x1) 3)), (2, .int (f_Phrase_mainOf (S 2) x1)), (0, .ref ((ad 0) 0)), (1, .int x1)]) hx hb d_NC_goThroughPart_34 rfl hl (by decide) rfl (fun ls hl => ?_)
    refine lv_iload_n hx hb d_NC_goThroughPart_35 rfl (lv_at hl 0 rfl) ?_
    refine lv_if_ne (tgt := 41) hx hb d_NC_goThroughPart_36 (by decide) (fun c_313 => ?_) (fun c_313 => ?_)
    · refine lv_aload_n hx hb d_NC_goThroughPart_41 rfl (lv_at hl 2 rfl) ?_
      refine lv_iload_n hx hb d_NC_goThroughPart_42 rfl (lv_at hl 0 rfl) ?_
      refine lv_aload_n hx hb d_NC_goThroughPart_43 rfl (lv_at hl 2 rfl) ?_
      refine va_get (D := (dC, dI)) (ci := 0) (v := .ref ((ad 1) 0)) (C := R_NC) (T := F_NC) (N := 15) hx hb hts i_NC hown hK hP 0 rfl rfl 0 (by decide) (hts _ m_f_NC_10) (fun _ h9 => h9) rfl d_NC_goThroughPart_44 ?_
      have hP_w_314 := hP.sub (ws' := (w_Things cA (ad 1) (S 1))) [3, 4, 5, 6, 7, 8, 9, 10] rfl
      have hD_w_314 := hD.sub (ws' := (w_Things cA (ad 1) (S 1))) [3, 4, 5, 6, 7, 8, 9, 10] (by decide) rfl
      refine nc_ro (va_runV (As := []) (rest := [.int (f_NC_fittingSetP S (f_Phrase_mainOf (S 2) x1) 3), .ref ((ad 0) 0)]) hfix (c_Things_thereSet l dC dI cA (ad 1) (S 1)) (k_NC_168 hts hN ⟨Nat.le_of_ble_eq_true rfl, Nat.le_of_ble_eq_true rfl⟩) (nc_preV hK hN hP_w_314 hD_w_314 rfl rfl) rfl rfl hl.1 rfl (lv_room (Nat.le_of_ble_eq_true rfl)) d_NC_goThroughPart_47 ⟨Nat.zero_le _, Nat.zero_le _⟩) (fun r er => ?_)
      subst er
      refine lv_iand hx hb d_NC_goThroughPart_50 ?_
      refine va_put (D := (dC, dI)) (ci := 0) (v := .int ((f_NC_fittingSetP S (f_Phrase_mainOf (S 2) x1) 3) &&& (f_Things_thereSet (S 1)))) (ty := .int) (C := R_NC) (T := F_NC) (N := 15) hx hb hts i_NC t_NC t_NC_ok n_NC hown hK hP hD hS 0 rfl rfl 9 (by decide) (hts _ m_f_NC_50) (fun _ h9 => h9) rfl (by decide +kernel) rfl rfl (Nat.le_of_ble_eq_true rfl) d_NC_goThroughPart_51 (fun H locs hP hD hS => ?_)
      have hP : va_P (dC, dI) classes (w_NC cA ad (upr S 0 (upf (S 0) 9 (fun _ => ((f_NC_fittingSetP S (f_Phrase_mainOf (S 2) x1) 3) &&& (f_Things_thereSet (S 1))))))) H := hP
      have hD : va_D A (w_NC cA ad (upr S 0 (upf (S 0) 9 (fun _ => ((f_NC_fittingSetP S (f_Phrase_mainOf (S 2) x1) 3) &&& (f_Things_thereSet (S 1))))))) := hD
      refine lv_aload_n hx hb d_NC_goThroughPart_54 rfl (lv_at hl 2 rfl) ?_
      refine va_get (D := (dC, dI)) (ci := 0) (v := .int ((f_NC_fittingSetP S (f_Phrase_mainOf (S 2) x1) 3) &&& (f_Things_thereSet (S 1)))) (C := R_NC) (T := F_NC) (N := 15) hx hb hts i_NC hown hK hP 0 rfl rfl 9 (by decide) (hts _ m_f_NC_50) (fun _ h9 => h9) rfl d_NC_goThroughPart_55 ?_
      refine lv_if_ne (tgt := 63) hx hb d_NC_goThroughPart_58 (by decide) (fun c_315 => ?_) (fun c_315 => ?_)
      · refine lv_aload_n hx hb d_NC_goThroughPart_63 rfl (lv_at hl 2 rfl) ?_
        refine lv_iload_n hx hb d_NC_goThroughPart_64 rfl (lv_at hl 3 rfl) ?_
        have hFc := nc_free hD hS hA
        refine nc_mui (va_runV (As := [.int x1]) (rest := []) hfix (c_NC_takeExceptsAway l dC dI cA H.size ad (upr S 0 (upf (S 0) 9 (fun _ => ((f_NC_fittingSetP S (f_Phrase_mainOf (S 2) x1) 3) &&& (f_Things_thereSet (S 1)))))) x1) (k_NC_195 hts hN ⟨Nat.le_of_ble_eq_true rfl, Nat.le_of_ble_eq_true rfl⟩) (nc_preVM hK hN hP hD rfl rfl) rfl rfl hl.1 rfl (lv_room (Nat.le_of_ble_eq_true rfl)) d_NC_goThroughPart_65 ⟨Nat.zero_le _, Nat.zero_le _⟩) hS hFc (fun r H locs er hP1 hD1 hk1 hS => ?_)
        obtain ⟨rfl, hz_316⟩ := er
        have hP : va_P (dC, dI) classes (w_NC cA ad (f_NC_takeExceptsAway (upr S 0 (upf (S 0) 9 (fun _ => ((f_NC_fittingSetP S (f_Phrase_mainOf (S 2) x1) 3) &&& (f_Things_thereSet (S 1)))))) x1).2) H := hP1
        have hD : va_D A (w_NC cA ad (f_NC_takeExceptsAway (upr S 0 (upf (S 0) 9 (fun _ => ((f_NC_fittingSetP S (f_Phrase_mainOf (S 2) x1) 3) &&& (f_Things_thereSet (S 1)))))) x1).2) := hD1.weaken (fun _ q _ h => hFc q.1 h)
        refine lv_if_ne (tgt := 73) hx hb d_NC_goThroughPart_68 (by decide) (fun c_317 => ?_) (fun c_317 => ?_)
        · refine lv_aload_n hx hb d_NC_goThroughPart_73 rfl (lv_at hl 2 rfl) ?_
          refine va_get (D := (dC, dI)) (ci := 0) (v := .int (((f_NC_takeExceptsAway (upr S 0 (upf (S 0) 9 (fun _ => ((f_NC_fittingSetP S (f_Phrase_mainOf (S 2) x1) 3) &&& (f_Things_thereSet (S 1)))))) x1).2 0) 9 0)) (C := R_NC) (T := F_NC) (N := 15) hx hb hts i_NC hown hK hP 0 rfl rfl 9 (by decide) (hts _ m_f_NC_50) (fun _ h9 => h9) rfl d_NC_goThroughPart_74 ?_
          refine lv_if_ne (tgt := 82) hx hb d_NC_goThroughPart_77 (by decide) (fun c_318 => ?_) (fun c_318 => ?_)
          · refine lv_aload_n hx hb d_NC_goThroughPart_82 rfl (lv_at hl 2 rfl) ?_
            refine va_get (D := (dC, dI)) (ci := 0) (v := .ref ((ad 2) 0)) (C := R_NC) (T := F_NC) (N := 15) hx hb hts i_NC hown hK hP 0 rfl rfl 4 (by decide) (hts _ m_f_NC_30) (fun _ h9 => h9) rfl d_NC_goThroughPart_83 ?_
            refine lv_iload_n hx hb d_NC_goThroughPart_86 rfl (lv_at hl 3 rfl) ?_
            have hP_w_319 := hP.sub (ws' := (w_Phrase cA (ad 2) ((f_NC_takeExceptsAway (upr S 0 (upf (S 0) 9 (fun _ => ((f_NC_fittingSetP S (f_Phrase_mainOf (S 2) x1) 3) &&& (f_Things_thereSet (S 1)))))) x1).2 2))) [11, 12, 13, 14, 15, 16, 17, 18] rfl
            have hD_w_319 := hD.sub (ws' := (w_Phrase cA (ad 2) ((f_NC_takeExceptsAway (upr S 0 (upf (S 0) 9 (fun _ => ((f_NC_fittingSetP S (f_Phrase_mainOf (S 2) x1) 3) &&& (f_Things_thereSet (S 1)))))) x1).2 2))) [11, 12, 13, 14, 15, 16, 17, 18] (by decide) rfl
            refine nc_ro (va_runV (As := [.int x1]) (rest := []) hfix (c_Phrase_amountOf l dC dI cA (ad 2) ((f_NC_takeExceptsAway (upr S 0 (upf (S 0) 9 (fun _ => ((f_NC_fittingSetP S (f_Phrase_mainOf (S 2) x1) 3) &&& (f_Things_thereSet (S 1)))))) x1).2 2) x1) (k_NC_198 hts hN ⟨Nat.le_of_ble_eq_true rfl, Nat.le_of_ble_eq_true rfl⟩) (nc_preV hK hN hP_w_319 hD_w_319 rfl rfl) rfl rfl hl.1 rfl (lv_room (Nat.le_of_ble_eq_true rfl)) d_NC_goThroughPart_87 ⟨Nat.zero_le _, Nat.zero_le _⟩) (fun r er => ?_)
            subst er
            refine lv_istore (lv' := [(4, .int (f_Phrase_amountOf ((f_NC_takeExceptsAway (upr S 0 (upf (S 0) 9 (fun _ => ((f_NC_fittingSetP S (f_Phrase_mainOf (S 2) x1) 3) &&& (f_Things_thereSet (S 1)))))) x1).2 2) x1)), (3, .int (f_NC_fittingSetP S (f_Phrase_mainOf (S 2) x1) 3)), (2, .int (f_Phrase_mainOf (S 2) x1)), (0, .ref ((ad 0) 0)), (1, .int x1)]) hx hb d_NC_goThroughPart_90 hl (by decide) rfl (fun ls hl => ?_)
            refine lv_iload hx hb d_NC_goThroughPart_92 (lv_at hl 0 rfl) ?_
            refine lv_if_le (tgt := 104) hx hb d_NC_goThroughPart_94 (by decide) (fun c_320 => ?_) (fun c_320 => ?_)
            · refine lv_iload hx hb d_NC_goThroughPart_104 (lv_at hl 0 rfl) ?_
              refine lv_iconst (v := (-1)) hx hb d_NC_goThroughPart_106 (by decide) ?_
              refine lv_icmp_ne (tgt := 123) hx hb d_NC_goThroughPart_107 (by decide) (fun c_321 => ?_) (fun c_321 => ?_)
              · refine lv_aload_n hx hb d_NC_goThroughPart_123 rfl (lv_at hl 3 rfl) ?_
                refine lv_iload_n hx hb d_NC_goThroughPart_124 rfl (lv_at hl 4 rfl) ?_
                refine lv_iload_n hx hb d_NC_goThroughPart_125 rfl (lv_at hl 2 rfl) ?_
                have hFc := nc_free hD hS hA
                refine nc_mui (va_runV (As := [.int x1, .int (f_Phrase_mainOf (S 2) x1)]) (rest := []) hfix (c_NC_giveMeant l dC dI cA H.size ad (f_NC_takeExceptsAway (upr S 0 (upf (S 0) 9 (fun _ => ((f_NC_fittingSetP S (f_Phrase_mainOf (S 2) x1) 3) &&& (f_Things_thereSet (S 1)))))) x1).2 x1 (f_Phrase_mainOf (S 2) x1) (tea_z hg)) (k_NC_207 hts hN ⟨Nat.le_of_ble_eq_true rfl, Nat.le_of_ble_eq_true rfl⟩) (nc_preVM hK hN hP hD rfl rfl) rfl rfl hl.1 rfl (lv_room (Nat.le_of_ble_eq_true rfl)) d_NC_goThroughPart_126 ⟨Nat.zero_le _, Nat.zero_le _⟩) hS hFc (fun r H locs er hP1 hD1 hk1 hS => ?_)
                subst er
                have hP : va_P (dC, dI) classes (w_NC cA ad (f_NC_giveMeant (f_NC_takeExceptsAway (upr S 0 (upf (S 0) 9 (fun _ => ((f_NC_fittingSetP S (f_Phrase_mainOf (S 2) x1) 3) &&& (f_Things_thereSet (S 1)))))) x1).2 x1 (f_Phrase_mainOf (S 2) x1)).2) H := hP1
                have hD : va_D A (w_NC cA ad (f_NC_giveMeant (f_NC_takeExceptsAway (upr S 0 (upf (S 0) 9 (fun _ => ((f_NC_fittingSetP S (f_Phrase_mainOf (S 2) x1) 3) &&& (f_Things_thereSet (S 1)))))) x1).2 x1 (f_Phrase_mainOf (S 2) x1)).2) := hD1.weaken (fun _ q _ h => hFc q.1 h)
                have hF : (f_NC_goThroughPart S x1) = ((f_NC_giveMeant (f_NC_takeExceptsAway (upr S 0 (upf (S 0) 9 (fun _ => ((f_NC_fittingSetP S (f_Phrase_mainOf (S 2) x1) 3) &&& (f_Things_thereSet (S 1)))))) x1).2 x1 (f_Phrase_mainOf (S 2) x1)).1, (f_NC_giveMeant (f_NC_takeExceptsAway (upr S 0 (upf (S 0) 9 (fun _ => ((f_NC_fittingSetP S (f_Phrase_mainOf (S 2) x1) 3) &&& (f_Things_thereSet (S 1)))))) x1).2 x1 (f_Phrase_mainOf (S 2) x1)).2) := by rw [f_NC_goThroughPart, if_neg c_312, if_neg c_313, if_neg c_315, if_neg c_317, if_neg c_318, if_pos c_320, if_neg c_321]
                exact W.iret (v := (f_NC_giveMeant (f_NC_takeExceptsAway (upr S 0 (upf (S 0) 9 (fun _ => ((f_NC_fittingSetP S (f_Phrase_mainOf (S 2) x1) 3) &&& (f_Things_thereSet (S 1)))))) x1).2 x1 (f_Phrase_mainOf (S 2) x1)).1) hx hb hr (fun t ht hW => ⟨⟨(f_NC_giveMeant (f_NC_takeExceptsAway (upr S 0 (upf (S 0) 9 (fun _ => ((f_NC_fittingSetP S (f_Phrase_mainOf (S 2) x1) 3) &&& (f_Things_thereSet (S 1)))))) x1).2 x1 (f_Phrase_mainOf (S 2) x1)).1, (), rfl, by rw [hF], by rw [hF, ht]; exact hP, by rw [hF]; exact hD⟩, hS.F ht⟩) hS.2.2 d_NC_goThroughPart_129
              · refine lv_aload_n hx hb d_NC_goThroughPart_110 rfl (lv_at hl 3 rfl) ?_
                refine va_get (D := (dC, dI)) (ci := 0) (v := .ref ((ad 5) 0)) (C := R_NC) (T := F_NC) (N := 15) hx hb hts i_NC hown hK hP 0 rfl rfl 8 (by decide) (hts _ m_f_NC_47) (fun _ h9 => h9) rfl d_NC_goThroughPart_111 ?_
                refine lv_aload_n hx hb d_NC_goThroughPart_114 rfl (lv_at hl 3 rfl) ?_
                refine va_get (D := (dC, dI)) (ci := 0) (v := .int (((f_NC_takeExceptsAway (upr S 0 (upf (S 0) 9 (fun _ => ((f_NC_fittingSetP S (f_Phrase_mainOf (S 2) x1) 3) &&& (f_Things_thereSet (S 1)))))) x1).2 0) 9 0)) (C := R_NC) (T := F_NC) (N := 15) hx hb hts i_NC hown hK hP 0 rfl rfl 9 (by decide) (hts _ m_f_NC_50) (fun _ h9 => h9) rfl d_NC_goThroughPart_115 ?_
                have hP_w_322 := hP.sub (ws' := (w_Picks cA (ad 5) ((f_NC_takeExceptsAway (upr S 0 (upf (S 0) 9 (fun _ => ((f_NC_fittingSetP S (f_Phrase_mainOf (S 2) x1) 3) &&& (f_Things_thereSet (S 1)))))) x1).2 5))) [29, 30] rfl
                have hD_w_322 := hD.sub (ws' := (w_Picks cA (ad 5) ((f_NC_takeExceptsAway (upr S 0 (upf (S 0) 9 (fun _ => ((f_NC_fittingSetP S (f_Phrase_mainOf (S 2) x1) 3) &&& (f_Things_thereSet (S 1)))))) x1).2 5))) [29, 30] (by decide) rfl
                have hFc := va_free (wc := (w_Picks cA (ad 5) ((f_NC_takeExceptsAway (upr S 0 (upf (S 0) 9 (fun _ => ((f_NC_fittingSetP S (f_Phrase_mainOf (S 2) x1) 3) &&& (f_Things_thereSet (S 1)))))) x1).2 5))) hD hS hA [29, 30] rfl
                refine nc_muv (va_runV (As := [.int (((f_NC_takeExceptsAway (upr S 0 (upf (S 0) 9 (fun _ => ((f_NC_fittingSetP S (f_Phrase_mainOf (S 2) x1) 3) &&& (f_Things_thereSet (S 1)))))) x1).2 0) 9 0)]) (rest := []) hfix (c_Picks_add l dC dI cA H.size (ad 5) ((f_NC_takeExceptsAway (upr S 0 (upf (S 0) 9 (fun _ => ((f_NC_fittingSetP S (f_Phrase_mainOf (S 2) x1) 3) &&& (f_Things_thereSet (S 1)))))) x1).2 5) (((f_NC_takeExceptsAway (upr S 0 (upf (S 0) 9 (fun _ => ((f_NC_fittingSetP S (f_Phrase_mainOf (S 2) x1) 3) &&& (f_Things_thereSet (S 1)))))) x1).2 0) 9 0) (tea_z hg)) (k_NC_204 hts hN ⟨Nat.le_of_ble_eq_true rfl, Nat.le_of_ble_eq_true rfl⟩) (nc_preVM hK hN hP_w_322 hD_w_322 rfl rfl) rfl rfl hl.1 rfl (lv_room (Nat.le_of_ble_eq_true rfl)) d_NC_goThroughPart_118 ⟨Nat.zero_le _, Nat.zero_le _⟩) hS hFc (fun H locs hP1 hD1 hk1 hS => ?_)
                obtain ⟨hP, hD⟩ := va_join (wr := va_pick (w_NC cA ad (f_NC_takeExceptsAway (upr S 0 (upf (S 0) 9 (fun _ => ((f_NC_fittingSetP S (f_Phrase_mainOf (S 2) x1) 3) &&& (f_Things_thereSet (S 1)))))) x1).2) [0, 1, 2, 3, 4, 5, 6, 7, 8, 9, 10, 11, 12, 13, 14, 15, 16, 17, 18, 19, 20, 21, 22, 23, 24, 25, 26, 27, 28]) (w1 := (w_Picks cA (ad 5) (f_Picks_add ((f_NC_takeExceptsAway (upr S 0 (upf (S 0) 9 (fun _ => ((f_NC_fittingSetP S (f_Phrase_mainOf (S 2) x1) 3) &&& (f_Things_thereSet (S 1)))))) x1).2 5) (((f_NC_takeExceptsAway (upr S 0 (upf (S 0) 9 (fun _ => ((f_NC_fittingSetP S (f_Phrase_mainOf (S 2) x1) 3) &&& (f_Things_thereSet (S 1)))))) x1).2 0) 9 0)))) hP hD [29, 30] [0, 1, 2, 3, 4, 5, 6, 7, 8, 9, 10, 11, 12, 13, 14, 15, 16, 17, 18, 19, 20, 21, 22, 23, 24, 25, 26, 27, 28] rfl rfl (by decide) (by decide) hk1 hFc hP1 hD1
                have hP : va_P (dC, dI) classes (w_NC cA ad (upr (f_NC_takeExceptsAway (upr S 0 (upf (S 0) 9 (fun _ => ((f_NC_fittingSetP S (f_Phrase_mainOf (S 2) x1) 3) &&& (f_Things_thereSet (S 1)))))) x1).2 5 (f_Picks_add ((f_NC_takeExceptsAway (upr S 0 (upf (S 0) 9 (fun _ => ((f_NC_fittingSetP S (f_Phrase_mainOf (S 2) x1) 3) &&& (f_Things_thereSet (S 1)))))) x1).2 5) (((f_NC_takeExceptsAway (upr S 0 (upf (S 0) 9 (fun _ => ((f_NC_fittingSetP S (f_Phrase_mainOf (S 2) x1) 3) &&& (f_Things_thereSet (S 1)))))) x1).2 0) 9 0)))) H := hP.sub [0, 1, 2, 3, 4, 5, 6, 7, 8, 9, 10, 11, 12, 13, 14, 15, 16, 17, 18, 19, 20, 21, 22, 23, 24, 25, 26, 27, 28, 29, 30] rfl
                have hD : va_D A (w_NC cA ad (upr (f_NC_takeExceptsAway (upr S 0 (upf (S 0) 9 (fun _ => ((f_NC_fittingSetP S (f_Phrase_mainOf (S 2) x1) 3) &&& (f_Things_thereSet (S 1)))))) x1).2 5 (f_Picks_add ((f_NC_takeExceptsAway (upr S 0 (upf (S 0) 9 (fun _ => ((f_NC_fittingSetP S (f_Phrase_mainOf (S 2) x1) 3) &&& (f_Things_thereSet (S 1)))))) x1).2 5) (((f_NC_takeExceptsAway (upr S 0 (upf (S 0) 9 (fun _ => ((f_NC_fittingSetP S (f_Phrase_mainOf (S 2) x1) 3) &&& (f_Things_thereSet (S 1)))))) x1).2 0) 9 0)))) := hD.sub [0, 1, 2, 3, 4, 5, 6, 7, 8, 9, 10, 11, 12, 13, 14, 15, 16, 17, 18, 19, 20, 21, 22, 23, 24, 25, 26, 27, 28, 29, 30] (by decide) rfl
                refine lv_iconst (v := 0) hx hb d_NC_goThroughPart_121 (by decide) ?_
                have hF : (f_NC_goThroughPart S x1) = (0, (upr (f_NC_takeExceptsAway (upr S 0 (upf (S 0) 9 (fun _ => ((f_NC_fittingSetP S (f_Phrase_mainOf (S 2) x1) 3) &&& (f_Things_thereSet (S 1)))))) x1).2 5 (f_Picks_add ((f_NC_takeExceptsAway (upr S 0 (upf (S 0) 9 (fun _ => ((f_NC_fittingSetP S (f_Phrase_mainOf (S 2) x1) 3) &&& (f_Things_thereSet (S 1)))))) x1).2 5) (((f_NC_takeExceptsAway (upr S 0 (upf (S 0) 9 (fun _ => ((f_NC_fittingSetP S (f_Phrase_mainOf (S 2) x1) 3) &&& (f_Things_thereSet (S 1)))))) x1).2 0) 9 0)))) := by rw [f_NC_goThroughPart, if_neg c_312, if_neg c_313, if_neg c_315, if_neg c_317, if_neg c_318, if_pos c_320, if_pos c_321]
                exact W.iret (v := 0) hx hb hr (fun t ht hW => ⟨⟨0, (), rfl, by rw [hF], by rw [hF, ht]; exact hP, by rw [hF]; exact hD⟩, hS.F ht⟩) hS.2.2 d_NC_goThroughPart_122
            · refine lv_aload_n hx hb d_NC_goThroughPart_97 rfl (lv_at hl 3 rfl) ?_
              refine lv_iload hx hb d_NC_goThroughPart_98 (lv_at hl 0 rfl) ?_
              have hFc := nc_free hD hS hA
              refine nc_mui (va_runV (As := [.int (f_Phrase_amountOf ((f_NC_takeExceptsAway (upr S 0 (upf (S 0) 9 (fun _ => ((f_NC_fittingSetP S (f_Phrase_mainOf (S 2) x1) 3) &&& (f_Things_thereSet (S 1)))))) x1).2 2) x1)]) (rest := []) hfix (c_NC_giveNumber l dC dI cA H.size ad (f_NC_takeExceptsAway (upr S 0 (upf (S 0) 9 (fun _ => ((f_NC_fittingSetP S (f_Phrase_mainOf (S 2) x1) 3) &&& (f_Things_thereSet (S 1)))))) x1).2 (f_Phrase_amountOf ((f_NC_takeExceptsAway (upr S 0 (upf (S 0) 9 (fun _ => ((f_NC_fittingSetP S (f_Phrase_mainOf (S 2) x1) 3) &&& (f_Things_thereSet (S 1)))))) x1).2 2) x1) (tea_z hg)) (k_NC_201 hts hN ⟨Nat.le_of_ble_eq_true rfl, Nat.le_of_ble_eq_true rfl⟩) (nc_preVM hK hN hP hD rfl rfl) rfl rfl hl.1 rfl (lv_room (Nat.le_of_ble_eq_true rfl)) d_NC_goThroughPart_100 ⟨Nat.zero_le _, Nat.zero_le _⟩) hS hFc (fun r H locs er hP1 hD1 hk1 hS => ?_)
              subst er
              have hP : va_P (dC, dI) classes (w_NC cA ad (f_NC_giveNumber (f_NC_takeExceptsAway (upr S 0 (upf (S 0) 9 (fun _ => ((f_NC_fittingSetP S (f_Phrase_mainOf (S 2) x1) 3) &&& (f_Things_thereSet (S 1)))))) x1).2 (f_Phrase_amountOf ((f_NC_takeExceptsAway (upr S 0 (upf (S 0) 9 (fun _ => ((f_NC_fittingSetP S (f_Phrase_mainOf (S 2) x1) 3) &&& (f_Things_thereSet (S 1)))))) x1).2 2) x1)).2) H := hP1
              have hD : va_D A (w_NC cA ad (f_NC_giveNumber (f_NC_takeExceptsAway (upr S 0 (upf (S 0) 9 (fun _ => ((f_NC_fittingSetP S (f_Phrase_mainOf (S 2) x1) 3) &&& (f_Things_thereSet (S 1)))))) x1).2 (f_Phrase_amountOf ((f_NC_takeExceptsAway (upr S 0 (upf (S 0) 9 (fun _ => ((f_NC_fittingSetP S (f_Phrase_mainOf (S 2) x1) 3) &&& (f_Things_thereSet (S 1)))))) x1).2 2) x1)).2) := hD1.weaken (fun _ q _ h => hFc q.1 h)
              have hF : (f_NC_goThroughPart S x1) = ((f_NC_giveNumber (f_NC_takeExceptsAway (upr S 0 (upf (S 0) 9 (fun _ => ((f_NC_fittingSetP S (f_Phrase_mainOf (S 2) x1) 3) &&& (f_Things_thereSet (S 1)))))) x1).2 (f_Phrase_amountOf ((f_NC_takeExceptsAway (upr S 0 (upf (S 0) 9 (fun _ => ((f_NC_fittingSetP S (f_Phrase_mainOf (S 2) x1) 3) &&& (f_Things_thereSet (S 1)))))) x1).2 2) x1)).1, (f_NC_giveNumber (f_NC_takeExceptsAway (upr S 0 (upf (S 0) 9 (fun _ => ((f_NC_fittingSetP S (f_Phrase_mainOf (S 2) x1) 3) &&& (f_Things_thereSet (S 1)))))) x1).2 (f_Phrase_amountOf ((f_NC_takeExceptsAway (upr S 0 (upf (S 0) 9 (fun _ => ((f_NC_fittingSetP S (f_Phrase_mainOf (S 2) x1) 3) &&& (f_Things_thereSet (S 1)))))) x1).2 2) x1)).2) := by rw [f_NC_goThroughPart, if_neg c_312, if_neg c_313, if_neg c_315, if_neg c_317, if_neg c_318, if_neg c_320]
              exact W.iret (v := (f_NC_giveNumber (f_NC_takeExceptsAway (upr S 0 (upf (S 0) 9 (fun _ => ((f_NC_fittingSetP S (f_Phrase_mainOf (S 2) x1) 3) &&& (f_Things_thereSet (S 1)))))) x1).2 (f_Phrase_amountOf ((f_NC_takeExceptsAway (upr S 0 (upf (S 0) 9 (fun _ => ((f_NC_fittingSetP S (f_Phrase_mainOf (S 2) x1) 3) &&& (f_Things_thereSet (S 1)))))) x1).2 2) x1)).1) hx hb hr (fun t ht hW => ⟨⟨(f_NC_giveNumber (f_NC_takeExceptsAway (upr S 0 (upf (S 0) 9 (fun _ => ((f_NC_fittingSetP S (f_Phrase_mainOf (S 2) x1) 3) &&& (f_Things_thereSet (S 1)))))) x1).2 (f_Phrase_amountOf ((f_NC_takeExceptsAway (upr S 0 (upf (S 0) 9 (fun _ => ((f_NC_fittingSetP S (f_Phrase_mainOf (S 2) x1) 3) &&& (f_Things_thereSet (S 1)))))) x1).2 2) x1)).1, (), rfl, by rw [hF], by rw [hF, ht]; exact hP, by rw [hF]; exact hD⟩, hS.F ht⟩) hS.2.2 d_NC_goThroughPart_103
          · refine lv_iconst (v := 5) hx hb d_NC_goThroughPart_80 (by decide) ?_
            have hF : (f_NC_goThroughPart S x1) = (5, (f_NC_takeExceptsAway (upr S 0 (upf (S 0) 9 (fun _ => ((f_NC_fittingSetP S (f_Phrase_mainOf (S 2) x1) 3) &&& (f_Things_thereSet (S 1)))))) x1).2) := by rw [f_NC_goThroughPart, if_neg c_312, if_neg c_313, if_neg c_315, if_neg c_317, if_pos c_318]
            exact W.iret (v := 5) hx hb hr (fun t ht hW => ⟨⟨5, (), rfl, by rw [hF], by rw [hF, ht]; exact hP, by rw [hF]; exact hD⟩, hS.F ht⟩) hS.2.2 d_NC_goThroughPart_81
        · refine lv_iconst (v := 4) hx hb d_NC_goThroughPart_71 (by decide) ?_
          have hF : (f_NC_goThroughPart S x1) = (4, (f_NC_takeExceptsAway (upr S 0 (upf (S 0) 9 (fun _ => ((f_NC_fittingSetP S (f_Phrase_mainOf (S 2) x1) 3) &&& (f_Things_thereSet (S 1)))))) x1).2) := by rw [f_NC_goThroughPart, if_neg c_312, if_neg c_313, if_neg c_315, if_pos c_317]
          exact W.iret (v := 4) hx hb hr (fun t ht hW => ⟨⟨4, (), rfl, by rw [hF], by rw [hF, ht]; exact hP, by rw [hF]; exact hD⟩, hS.F ht⟩) hS.2.2 d_NC_goThroughPart_72
      · refine lv_iconst (v := 3) hx hb d_NC_goThroughPart_61 (by decide) ?_
        have hF : (f_NC_goThroughPart S x1) = (3, (upr S 0 (upf (S 0) 9 (fun _ => ((f_NC_fittingSetP S (f_Phrase_mainOf (S 2) x1) 3) &&& (f_Things_thereSet (S 1))))))) := by rw [f_NC_goThroughPart, if_neg c_312, if_neg c_313, if_pos c_315]
        exact W.iret (v := 3) hx hb hr (fun t ht hW => ⟨⟨3, (), rfl, by rw [hF], by rw [hF, ht]; exact hP, by rw [hF]; exact hD⟩, hS.F ht⟩) hS.2.2 d_NC_goThroughPart_62
    · refine lv_iconst (v := 2) hx hb d_NC_goThroughPart_39 (by decide) ?_
      have hF : (f_NC_goThroughPart S x1) = (2, S) := by rw [f_NC_goThroughPart, if_neg c_312, if_pos c_313]
      exact W.iret (v := 2) hx hb hr (fun t ht hW => ⟨⟨2, (), rfl, by rw [hF], by rw [hF, ht]; exact hP, by rw [hF]; exact hD⟩, hS.F ht⟩) hS.2.2 d_NC_goThroughPart_40
  · refine lv_aload_n hx hb d_NC_goThroughPart_14 rfl (lv_at hl 1 rfl) ?_
    refine va_get (D := (dC, dI)) (ci := 0) (v := .ref ((ad 1) 0)) (C := R_NC) (T := F_NC) (N := 15) hx hb hts i_NC hown hK hP 0 rfl rfl 0 (by decide) (hts _ m_f_NC_10) (fun _ h9 => h9) rfl d_NC_goThroughPart_15 ?_
    have hP_w_323 := hP.sub (ws' := (w_Things cA (ad 1) (S 1))) [3, 4, 5, 6, 7, 8, 9, 10] rfl
    have hD_w_323 := hD.sub (ws' := (w_Things cA (ad 1) (S 1))) [3, 4, 5, 6, 7, 8, 9, 10] (by decide) rfl
    refine nc_ro (va_runV (As := []) (rest := []) hfix (c_Things_allSet l dC dI cA (ad 1) (S 1)) (k_NC_192 hts hN ⟨Nat.le_of_ble_eq_true rfl, Nat.le_of_ble_eq_true rfl⟩) (nc_preV hK hN hP_w_323 hD_w_323 rfl rfl) rfl rfl hl.1 rfl (lv_room (Nat.le_of_ble_eq_true rfl)) d_NC_goThroughPart_18 ⟨Nat.zero_le _, Nat.zero_le _⟩) (fun r er => ?_)
    subst er
    refine lv_goto (tgt := 34) hx hb d_NC_goThroughPart_21 (by decide) ?_
    refine lv_istore_n (lv' := [(3, .int (f_Things_allSet (S 1))), (2, .int (f_Phrase_mainOf (S 2) x1)), (0, .ref ((ad 0) 0)), (1, .int x1)]) hx hb d_NC_goThroughPart_34 rfl hl (by decide) rfl (fun ls hl => ?_)
    refine lv_iload_n hx hb d_NC_goThroughPart_35 rfl (lv_at hl 0 rfl) ?_
    refine lv_if_ne (tgt := 41) hx hb d_NC_goThroughPart_36 (by decide) (fun c_324 => ?_) (fun c_324 => ?_)
    · refine lv_aload_n hx hb d_NC_goThroughPart_41 rfl (lv_at hl 2 rfl) ?_
      refine lv_iload_n hx hb d_NC_goThroughPart_42 rfl (lv_at hl 0 rfl) ?_
      refine lv_aload_n hx hb d_NC_goThroughPart_43 rfl (lv_at hl 2 rfl) ?_
      refine va_get (D := (dC, dI)) (ci := 0) (v := .ref ((ad 1) 0)) (C := R_NC) (T := F_NC) (N := 15) hx hb hts i_NC hown hK hP 0 rfl rfl 0 (by decide) (hts _ m_f_NC_10) (fun _ h9 => h9) rfl d_NC_goThroughPart_44 ?_
      refine nc_ro (va_runV (As := []) (rest := [.int (f_Things_allSet (S 1)), .ref ((ad 0) 0)]) hfix (c_Things_thereSet l dC dI cA (ad 1) (S 1)) (k_NC_168 hts hN ⟨Nat.le_of_ble_eq_true rfl, Nat.le_of_ble_eq_true rfl⟩) (nc_preV hK hN hP_w_323 hD_w_323 rfl rfl) rfl rfl hl.1 rfl (lv_room (Nat.le_of_ble_eq_true rfl)) d_NC_goThroughPart_47 ⟨Nat.zero_le _, Nat.zero_le _⟩) (fun r er => ?_)
      subst er
      refine lv_iand hx hb d_NC_goThroughPart_50 ?_
      refine va_put (D := (dC, dI)) (ci := 0) (v := .int ((f_Things_allSet (S 1)) &&& (f_Things_thereSet (S 1)))) (ty := .int) (C := R_NC) (T := F_NC) (N := 15) hx hb hts i_NC t_NC t_NC_ok n_NC hown hK hP hD hS 0 rfl rfl 9 (by decide) (hts _ m_f_NC_50) (fun _ h9 => h9) rfl (by decide +kernel) rfl rfl (Nat.le_of_ble_eq_true rfl) d_NC_goThroughPart_51 (fun H locs hP hD hS => ?_)
      have hP : va_P (dC, dI) classes (w_NC cA ad (upr S 0 (upf (S 0) 9 (fun _ => ((f_Things_allSet (S 1)) &&& (f_Things_thereSet (S 1))))))) H := hP
      have hD : va_D A (w_NC cA ad (upr S 0 (upf (S 0) 9 (fun _ => ((f_Things_allSet (S 1)) &&& (f_Things_thereSet (S 1))))))) := hD
      refine lv_aload_n hx hb d_NC_goThroughPart_54 rfl (lv_at hl 2 rfl) ?_
      refine va_get (D := (dC, dI)) (ci := 0) (v := .int ((f_Things_allSet (S 1)) &&& (f_Things_thereSet (S 1)))) (C := R_NC) (T := F_NC) (N := 15) hx hb hts i_NC hown hK hP 0 rfl rfl 9 (by decide) (hts _ m_f_NC_50) (fun _ h9 => h9) rfl d_NC_goThroughPart_55 ?_
      refine lv_if_ne (tgt := 63) hx hb d_NC_goThroughPart_58 (by decide) (fun c_325 => ?_) (fun c_325 => ?_)
      · refine lv_aload_n hx hb d_NC_goThroughPart_63 rfl (lv_at hl 2 rfl) ?_
        refine lv_iload_n hx hb d_NC_goThroughPart_64 rfl (lv_at hl 3 rfl) ?_
        have hFc := nc_free hD hS hA
        refine nc_mui (va_runV (As := [.int x1]) (rest := []) hfix (c_NC_takeExceptsAway l dC dI cA H.size ad (upr S 0 (upf (S 0) 9 (fun _ => ((f_Things_allSet (S 1)) &&& (f_Things_thereSet (S 1)))))) x1) (k_NC_195 hts hN ⟨Nat.le_of_ble_eq_true rfl, Nat.le_of_ble_eq_true rfl⟩) (nc_preVM hK hN hP hD rfl rfl) rfl rfl hl.1 rfl (lv_room (Nat.le_of_ble_eq_true rfl)) d_NC_goThroughPart_65 ⟨Nat.zero_le _, Nat.zero_le _⟩) hS hFc (fun r H locs er hP1 hD1 hk1 hS => ?_)
        obtain ⟨rfl, hz_326⟩ := er
        have hP : va_P (dC, dI) classes (w_NC cA ad (f_NC_takeExceptsAway (upr S 0 (upf (S 0) 9 (fun _ => ((f_Things_allSet (S 1)) &&& (f_Things_thereSet (S 1)))))) x1).2) H := hP1
        have hD : va_D A (w_NC cA ad (f_NC_takeExceptsAway (upr S 0 (upf (S 0) 9 (fun _ => ((f_Things_allSet (S 1)) &&& (f_Things_thereSet (S 1)))))) x1).2) := hD1.weaken (fun _ q _ h => hFc q.1 h)
        refine lv_if_ne (tgt := 73) hx hb d_NC_goThroughPart_68 (by decide) (fun c_327 => ?_) (fun c_327 => ?_)
        · refine lv_aload_n hx hb d_NC_goThroughPart_73 rfl (lv_at hl 2 rfl) ?_
          refine va_get (D := (dC, dI)) (ci := 0) (v := .int (((f_NC_takeExceptsAway (upr S 0 (upf (S 0) 9 (fun _ => ((f_Things_allSet (S 1)) &&& (f_Things_thereSet (S 1)))))) x1).2 0) 9 0)) (C := R_NC) (T := F_NC) (N := 15) hx hb hts i_NC hown hK hP 0 rfl rfl 9 (by decide) (hts _ m_f_NC_50) (fun _ h9 => h9) rfl d_NC_goThroughPart_74 ?_
          refine lv_if_ne (tgt := 82) hx hb d_NC_goThroughPart_77 (by decide) (fun c_328 => ?_) (fun c_328 => ?_)
          · refine lv_aload_n hx hb d_NC_goThroughPart_82 rfl (lv_at hl 2 rfl) ?_
            refine va_get (D := (dC, dI)) (ci := 0) (v := .ref ((ad 2) 0)) (C := R_NC) (T := F_NC) (N := 15) hx hb hts i_NC hown hK hP 0 rfl rfl 4 (by decide) (hts _ m_f_NC_30) (fun _ h9 => h9) rfl d_NC_goThroughPart_83 ?_
            refine lv_iload_n hx hb d_NC_goThroughPart_86 rfl (lv_at hl 3 rfl) ?_
            have hP_w_329 := hP.sub (ws' := (w_Phrase cA (ad 2) ((f_NC_takeExceptsAway (upr S 0 (upf (S 0) 9 (fun _ => ((f_Things_allSet (S 1)) &&& (f_Things_thereSet (S 1)))))) x1).2 2))) [11, 12, 13, 14, 15, 16, 17, 18] rfl
            have hD_w_329 := hD.sub (ws' := (w_Phrase cA (ad 2) ((f_NC_takeExceptsAway (upr S 0 (upf (S 0) 9 (fun _ => ((f_Things_allSet (S 1)) &&& (f_Things_thereSet (S 1)))))) x1).2 2))) [11, 12, 13, 14, 15, 16, 17, 18] (by decide) rfl
            refine nc_ro (va_runV (As := [.int x1]) (rest := []) hfix (c_Phrase_amountOf l dC dI cA (ad 2) ((f_NC_takeExceptsAway (upr S 0 (upf (S 0) 9 (fun _ => ((f_Things_allSet (S 1)) &&& (f_Things_thereSet (S 1)))))) x1).2 2) x1) (k_NC_198 hts hN ⟨Nat.le_of_ble_eq_true rfl, Nat.le_of_ble_eq_true rfl⟩) (nc_preV hK hN hP_w_329 hD_w_329 rfl rfl) rfl rfl hl.1 rfl (lv_room (Nat.le_of_ble_eq_true rfl)) d_NC_goThroughPart_87 ⟨Nat.zero_le _, Nat.zero_le _⟩) (fun r er => ?_)
            subst er
            refine lv_istore (lv' := [(4, .int (f_Phrase_amountOf ((f_NC_takeExceptsAway (upr S 0 (upf (S 0) 9 (fun _ => ((f_Things_allSet (S 1)) &&& (f_Things_thereSet (S 1)))))) x1).2 2) x1)), (3, .int (f_Things_allSet (S 1))), (2, .int (f_Phrase_mainOf (S 2) x1)), (0, .ref ((ad 0) 0)), (1, .int x1)]) hx hb d_NC_goThroughPart_90 hl (by decide) rfl (fun ls hl => ?_)
            refine lv_iload hx hb d_NC_goThroughPart_92 (lv_at hl 0 rfl) ?_
            refine lv_if_le (tgt := 104) hx hb d_NC_goThroughPart_94 (by decide) (fun c_330 => ?_) (fun c_330 => ?_)
            · refine lv_iload hx hb d_NC_goThroughPart_104 (lv_at hl 0 rfl) ?_
              refine lv_iconst (v := (-1)) hx hb d_NC_goThroughPart_106 (by decide) ?_
              refine lv_icmp_ne (tgt := 123) hx hb d_NC_goThroughPart_107 (by decide) (fun c_331 => ?_) (fun c_331 => ?_)
              · refine lv_aload_n hx hb d_NC_goThroughPart_123 rfl (lv_at hl 3 rfl) ?_
                refine lv_iload_n hx hb d_NC_goThroughPart_124 rfl (lv_at hl 4 rfl) ?_
                refine lv_iload_n hx hb d_NC_goThroughPart_125 rfl (lv_at hl 2 rfl) ?_
                have hFc := nc_free hD hS hA
                refine nc_mui (va_runV (As := [.int x1, .int (f_Phrase_mainOf (S 2) x1)]) (rest := []) hfix (c_NC_giveMeant l dC dI cA H.size ad (f_NC_takeExceptsAway (upr S 0 (upf (S 0) 9 (fun _ => ((f_Things_allSet (S 1)) &&& (f_Things_thereSet (S 1)))))) x1).2 x1 (f_Phrase_mainOf (S 2) x1) (tea_z hg)) (k_NC_207 hts hN ⟨Nat.le_of_ble_eq_true rfl, Nat.le_of_ble_eq_true rfl⟩) (nc_preVM hK hN hP hD rfl rfl) rfl rfl hl.1 rfl (lv_room (Nat.le_of_ble_eq_true rfl)) d_NC_goThroughPart_126 ⟨Nat.zero_le _, Nat.zero_le _⟩) hS hFc (fun r H locs er hP1 hD1 hk1 hS => ?_)
                subst er
                have hP : va_P (dC, dI) classes (w_NC cA ad (f_NC_giveMeant (f_NC_takeExceptsAway (upr S 0 (upf (S 0) 9 (fun _ => ((f_Things_allSet (S 1)) &&& (f_Things_thereSet (S 1)))))) x1).2 x1 (f_Phrase_mainOf (S 2) x1)).2) H := hP1
                have hD : va_D A (w_NC cA ad (f_NC_giveMeant (f_NC_takeExceptsAway (upr S 0 (upf (S 0) 9 (fun _ => ((f_Things_allSet (S 1)) &&& (f_Things_thereSet (S 1)))))) x1).2 x1 (f_Phrase_mainOf (S 2) x1)).2) := hD1.weaken (fun _ q _ h => hFc q.1 h)
                have hF : (f_NC_goThroughPart S x1) = ((f_NC_giveMeant (f_NC_takeExceptsAway (upr S 0 (upf (S 0) 9 (fun _ => ((f_Things_allSet (S 1)) &&& (f_Things_thereSet (S 1)))))) x1).2 x1 (f_Phrase_mainOf (S 2) x1)).1, (f_NC_giveMeant (f_NC_takeExceptsAway (upr S 0 (upf (S 0) 9 (fun _ => ((f_Things_allSet (S 1)) &&& (f_Things_thereSet (S 1)))))) x1).2 x1 (f_Phrase_mainOf (S 2) x1)).2) := by rw [f_NC_goThroughPart, if_pos c_312, if_neg c_324, if_neg c_325, if_neg c_327, if_neg c_328, if_pos c_330, if_neg c_331]
                exact W.iret (v := (f_NC_giveMeant (f_NC_takeExceptsAway (upr S 0 (upf (S 0) 9 (fun _ => ((f_Things_allSet (S 1)) &&& (f_Things_thereSet (S 1)))))) x1).2 x1 (f_Phrase_mainOf (S 2) x1)).1) hx hb hr (fun t ht hW => ⟨⟨(f_NC_giveMeant (f_NC_takeExceptsAway (upr S 0 (upf (S 0) 9 (fun _ => ((f_Things_allSet (S 1)) &&& (f_Things_thereSet (S 1)))))) x1).2 x1 (f_Phrase_mainOf (S 2) x1)).1, (), rfl, by rw [hF], by rw [hF, ht]; exact hP, by rw [hF]; exact hD⟩, hS.F ht⟩) hS.2.2 d_NC_goThroughPart_129
              · refine lv_aload_n hx hb d_NC_goThroughPart_110 rfl (lv_at hl 3 rfl) ?_
                refine va_get (D := (dC, dI)) (ci := 0) (v := .ref ((ad 5) 0)) (C := R_NC) (T := F_NC) (N := 15) hx hb hts i_NC hown hK hP 0 rfl rfl 8 (by decide) (hts _ m_f_NC_47) (fun _ h9 => h9) rfl d_NC_goThroughPart_111 ?_
                refine lv_aload_n hx hb d_NC_goThroughPart_114 rfl (lv_at hl 3 rfl) ?_
                refine va_get (D := (dC, dI)) (ci := 0) (v := .int (((f_NC_takeExceptsAway (upr S 0 (upf (S 0) 9 (fun _ => ((f_Things_allSet (S 1)) &&& (f_Things_thereSet (S 1)))))) x1).2 0) 9 0)) (C := R_NC) (T := F_NC) (N := 15) hx hb hts i_NC hown hK hP 0 rfl rfl 9 (by decide) (hts _ m_f_NC_50) (fun _ h9 => h9) rfl d_NC_goThroughPart_115 ?_
                have hP_w_332 := hP.sub (ws' := (w_Picks cA (ad 5) ((f_NC_takeExceptsAway (upr S 0 (upf (S 0) 9 (fun _ => ((f_Things_allSet (S 1)) &&& (f_Things_thereSet (S 1)))))) x1).2 5))) [29, 30] rfl
                have hD_w_332 := hD.sub (ws' := (w_Picks cA (ad 5) ((f_NC_takeExceptsAway (upr S 0 (upf (S 0) 9 (fun _ => ((f_Things_allSet (S 1)) &&& (f_Things_thereSet (S 1)))))) x1).2 5))) [29, 30] (by decide) rfl
                have hFc := va_free (wc := (w_Picks cA (ad 5) ((f_NC_takeExceptsAway (upr S 0 (upf (S 0) 9 (fun _ => ((f_Things_allSet (S 1)) &&& (f_Things_thereSet (S 1)))))) x1).2 5))) hD hS hA [29, 30] rfl
                refine nc_muv (va_runV (As := [.int (((f_NC_takeExceptsAway (upr S 0 (upf (S 0) 9 (fun _ => ((f_Things_allSet (S 1)) &&& (f_Things_thereSet (S 1)))))) x1).2 0) 9 0)]) (rest := []) hfix (c_Picks_add l dC dI cA H.size (ad 5) ((f_NC_takeExceptsAway (upr S 0 (upf (S 0) 9 (fun _ => ((f_Things_allSet (S 1)) &&& (f_Things_thereSet (S 1)))))) x1).2 5) (((f_NC_takeExceptsAway (upr S 0 (upf (S 0) 9 (fun _ => ((f_Things_allSet (S 1)) &&& (f_Things_thereSet (S 1)))))) x1).2 0) 9 0) (tea_z hg)) (k_NC_204 hts hN ⟨Nat.le_of_ble_eq_true rfl, Nat.le_of_ble_eq_true rfl⟩) (nc_preVM hK hN hP_w_332 hD_w_332 rfl rfl) rfl rfl hl.1 rfl (lv_room (Nat.le_of_ble_eq_true rfl)) d_NC_goThroughPart_118 ⟨Nat.zero_le _, Nat.zero_le _⟩) hS hFc (fun H locs hP1 hD1 hk1 hS => ?_)
                obtain ⟨hP, hD⟩ := va_join (wr := va_pick (w_NC cA ad (f_NC_takeExceptsAway (upr S 0 (upf (S 0) 9 (fun _ => ((f_Things_allSet (S 1)) &&& (f_Things_thereSet (S 1)))))) x1).2) [0, 1, 2, 3, 4, 5, 6, 7, 8, 9, 10, 11, 12, 13, 14, 15, 16, 17, 18, 19, 20, 21, 22, 23, 24, 25, 26, 27, 28]) (w1 := (w_Picks cA (ad 5) (f_Picks_add ((f_NC_takeExceptsAway (upr S 0 (upf (S 0) 9 (fun _ => ((f_Things_allSet (S 1)) &&& (f_Things_thereSet (S 1)))))) x1).2 5) (((f_NC_takeExceptsAway (upr S 0 (upf (S 0) 9 (fun _ => ((f_Things_allSet (S 1)) &&& (f_Things_thereSet (S 1)))))) x1).2 0) 9 0)))) hP hD [29, 30] [0, 1, 2, 3, 4, 5, 6, 7, 8, 9, 10, 11, 12, 13, 14, 15, 16, 17, 18, 19, 20, 21, 22, 23, 24, 25, 26, 27, 28] rfl rfl (by decide) (by decide) hk1 hFc hP1 hD1
                have hP : va_P (dC, dI) classes (w_NC cA ad (upr (f_NC_takeExceptsAway (upr S 0 (upf (S 0) 9 (fun _ => ((f_Things_allSet (S 1)) &&& (f_Things_thereSet (S 1)))))) x1).2 5 (f_Picks_add ((f_NC_takeExceptsAway (upr S 0 (upf (S 0) 9 (fun _ => ((f_Things_allSet (S 1)) &&& (f_Things_thereSet (S 1)))))) x1).2 5) (((f_NC_takeExceptsAway (upr S 0 (upf (S 0) 9 (fun _ => ((f_Things_allSet (S 1)) &&& (f_Things_thereSet (S 1)))))) x1).2 0) 9 0)))) H := hP.sub [0, 1, 2, 3, 4, 5, 6, 7, 8, 9, 10, 11, 12, 13, 14, 15, 16, 17, 18, 19, 20, 21, 22, 23, 24, 25, 26, 27, 28, 29, 30] rfl
                have hD : va_D A (w_NC cA ad (upr (f_NC_takeExceptsAway (upr S 0 (upf (S 0) 9 (fun _ => ((f_Things_allSet (S 1)) &&& (f_Things_thereSet (S 1)))))) x1).2 5 (f_Picks_add ((f_NC_takeExceptsAway (upr S 0 (upf (S 0) 9 (fun _ => ((f_Things_allSet (S 1)) &&& (f_Things_thereSet (S 1)))))) x1).2 5) (((f_NC_takeExceptsAway (upr S 0 (upf (S 0) 9 (fun _ => ((f_Things_allSet (S 1)) &&& (f_Things_thereSet (S 1)))))) x1).2 0) 9 0)))) := hD.sub [0, 1, 2, 3, 4, 5, 6, 7, 8, 9, 10, 11, 12, 13, 14, 15, 16, 17, 18, 19, 20, 21, 22, 23, 24, 25, 26, 27, 28, 29, 30] (by decide) rfl
                refine lv_iconst (v := 0) hx hb d_NC_goThroughPart_121 (by decide) ?_
                have hF : (f_NC_goThroughPart S x1) = (0, (upr (f_NC_takeExceptsAway (upr S 0 (upf (S 0) 9 (fun _ => ((f_Things_allSet (S 1)) &&& (f_Things_thereSet (S 1)))))) x1).2 5 (f_Picks_add ((f_NC_takeExceptsAway (upr S 0 (upf (S 0) 9 (fun _ => ((f_Things_allSet (S 1)) &&& (f_Things_thereSet (S 1)))))) x1).2 5) (((f_NC_takeExceptsAway (upr S 0 (upf (S 0) 9 (fun _ => ((f_Things_allSet (S 1)) &&& (f_Things_thereSet (S 1)))))) x1).2 0) 9 0)))) := by rw [f_NC_goThroughPart, if_pos c_312, if_neg c_324, if_neg c_325, if_neg c_327, if_neg c_328, if_pos c_330, if_pos c_331]
                exact W.iret (v := 0) hx hb hr (fun t ht hW => ⟨⟨0, (), rfl, by rw [hF], by rw [hF, ht]; exact hP, by rw [hF]; exact hD⟩, hS.F ht⟩) hS.2.2 d_NC_goThroughPart_122
            · refine lv_aload_n hx hb d_NC_goThroughPart_97 rfl (lv_at hl 3 rfl) ?_
              refine lv_iload hx hb d_NC_goThroughPart_98 (lv_at hl 0 rfl) ?_
              have hFc := nc_free hD hS hA
              refine nc_mui (va_runV (As := [.int (f_Phrase_amountOf ((f_NC_takeExceptsAway (upr S 0 (upf (S 0) 9 (fun _ => ((f_Things_allSet (S 1)) &&& (f_Things_thereSet (S 1)))))) x1).2 2) x1)]) (rest := []) hfix (c_NC_giveNumber l dC dI cA H.size ad (f_NC_takeExceptsAway (upr S 0 (upf (S 0) 9 (fun _ => ((f_Things_allSet (S 1)) &&& (f_Things_thereSet (S 1)))))) x1).2 (f_Phrase_amountOf ((f_NC_takeExceptsAway (upr S 0 (upf (S 0) 9 (fun _ => ((f_Things_allSet (S 1)) &&& (f_Things_thereSet (S 1)))))) x1).2 2) x1) (tea_z hg)) (k_NC_201 hts hN ⟨Nat.le_of_ble_eq_true rfl, Nat.le_of_ble_eq_true rfl⟩) (nc_preVM hK hN hP hD rfl rfl) rfl rfl hl.1 rfl (lv_room (Nat.le_of_ble_eq_true rfl)) d_NC_goThroughPart_100 ⟨Nat.zero_le _, Nat.zero_le _⟩) hS hFc (fun r H locs er hP1 hD1 hk1 hS => ?_)
              subst er
              have hP : va_P (dC, dI) classes (w_NC cA ad (f_NC_giveNumber (f_NC_takeExceptsAway (upr S 0 (upf (S 0) 9 (fun _ => ((f_Things_allSet (S 1)) &&& (f_Things_thereSet (S 1)))))) x1).2 (f_Phrase_amountOf ((f_NC_takeExceptsAway (upr S 0 (upf (S 0) 9 (fun _ => ((f_Things_allSet (S 1)) &&& (f_Things_thereSet (S 1)))))) x1).2 2) x1)).2) H := hP1
              have hD : va_D A (w_NC cA ad (f_NC_giveNumber (f_NC_takeExceptsAway (upr S 0 (upf (S 0) 9 (fun _ => ((f_Things_allSet (S 1)) &&& (f_Things_thereSet (S 1)))))) x1).2 (f_Phrase_amountOf ((f_NC_takeExceptsAway (upr S 0 (upf (S 0) 9 (fun _ => ((f_Things_allSet (S 1)) &&& (f_Things_thereSet (S 1)))))) x1).2 2) x1)).2) := hD1.weaken (fun _ q _ h => hFc q.1 h)
              have hF : (f_NC_goThroughPart S x1) = ((f_NC_giveNumber (f_NC_takeExceptsAway (upr S 0 (upf (S 0) 9 (fun _ => ((f_Things_allSet (S 1)) &&& (f_Things_thereSet (S 1)))))) x1).2 (f_Phrase_amountOf ((f_NC_takeExceptsAway (upr S 0 (upf (S 0) 9 (fun _ => ((f_Things_allSet (S 1)) &&& (f_Things_thereSet (S 1)))))) x1).2 2) x1)).1, (f_NC_giveNumber (f_NC_takeExceptsAway (upr S 0 (upf (S 0) 9 (fun _ => ((f_Things_allSet (S 1)) &&& (f_Things_thereSet (S 1)))))) x1).2 (f_Phrase_amountOf ((f_NC_takeExceptsAway (upr S 0 (upf (S 0) 9 (fun _ => ((f_Things_allSet (S 1)) &&& (f_Things_thereSet (S 1)))))) x1).2 2) x1)).2) := by rw [f_NC_goThroughPart, if_pos c_312, if_neg c_324, if_neg c_325, if_neg c_327, if_neg c_328, if_neg c_330]
              exact W.iret (v := (f_NC_giveNumber (f_NC_takeExceptsAway (upr S 0 (upf (S 0) 9 (fun _ => ((f_Things_allSet (S 1)) &&& (f_Things_thereSet (S 1)))))) x1).2 (f_Phrase_amountOf ((f_NC_takeExceptsAway (upr S 0 (upf (S 0) 9 (fun _ => ((f_Things_allSet (S 1)) &&& (f_Things_thereSet (S 1)))))) x1).2 2) x1)).1) hx hb hr (fun t ht hW => ⟨⟨(f_NC_giveNumber (f_NC_takeExceptsAway (upr S 0 (upf (S 0) 9 (fun _ => ((f_Things_allSet (S 1)) &&& (f_Things_thereSet (S 1)))))) x1).2 (f_Phrase_amountOf ((f_NC_takeExceptsAway (upr S 0 (upf (S 0) 9 (fun _ => ((f_Things_allSet (S 1)) &&& (f_Things_thereSet (S 1)))))) x1).2 2) x1)).1, (), rfl, by rw [hF], by rw [hF, ht]; exact hP, by rw [hF]; exact hD⟩, hS.F ht⟩) hS.2.2 d_NC_goThroughPart_103
          · refine lv_iconst (v := 5) hx hb d_NC_goThroughPart_80 (by decide) ?_
            have hF : (f_NC_goThroughPart S x1) = (5, (f_NC_takeExceptsAway (upr S 0 (upf (S 0) 9 (fun _ => ((f_Things_allSet (S 1)) &&& (f_Things_thereSet (S 1)))))) x1).2) := by rw [f_NC_goThroughPart, if_pos c_312, if_neg c_324, if_neg c_325, if_neg c_327, if_pos c_328]
            exact W.iret (v := 5) hx hb hr (fun t ht hW => ⟨⟨5, (), rfl, by rw [hF], by rw [hF, ht]; exact hP, by rw [hF]; exact hD⟩, hS.F ht⟩) hS.2.2 d_NC_goThroughPart_81
        · refine lv_iconst (v := 4) hx hb d_NC_goThroughPart_71 (by decide) ?_
          have hF : (f_NC_goThroughPart S x1) = (4, (f_NC_takeExceptsAway (upr S 0 (upf (S 0) 9 (fun _ => ((f_Things_allSet (S 1)) &&& (f_Things_thereSet (S 1)))))) x1).2) := by rw [f_NC_goThroughPart, if_pos c_312, if_neg c_324, if_neg c_325, if_pos c_327]
          exact W.iret (v := 4) hx hb hr (fun t ht hW => ⟨⟨4, (), rfl, by rw [hF], by rw [hF, ht]; exact hP, by rw [hF]; exact hD⟩, hS.F ht⟩) hS.2.2 d_NC_goThroughPart_72
      · refine lv_iconst (v := 3) hx hb d_NC_goThroughPart_61 (by decide) ?_
        have hF : (f_NC_goThroughPart S x1) = (3, (upr S 0 (upf (S 0) 9 (fun _ => ((f_Things_allSet (S 1)) &&& (f_Things_thereSet (S 1))))))) := by rw [f_NC_goThroughPart, if_pos c_312, if_neg c_324, if_pos c_325]
        exact W.iret (v := 3) hx hb hr (fun t ht hW => ⟨⟨3, (), rfl, by rw [hF], by rw [hF, ht]; exact hP, by rw [hF]; exact hD⟩, hS.F ht⟩) hS.2.2 d_NC_goThroughPart_62
    · refine lv_iconst (v := 2) hx hb d_NC_goThroughPart_39 (by decide) ?_
      have hF : (f_NC_goThroughPart S x1) = (2, S) := by rw [f_NC_goThroughPart, if_pos c_312, if_pos c_324]
      exact W.iret (v := 2) hx hb hr (fun t ht hW => ⟨⟨2, (), rfl, by rw [hF], by rw [hF, ht]; exact hP, by rw [hF]; exact hD⟩, hS.F ht⟩) hS.2.2 d_NC_goThroughPart_40
theorem gtp_r {S : Nat → Nat → Nat → Int32} {x1 : Int32} : (f_NC_goThroughPart S x1).2 2 = S 2 ∧ (0 ≤ ((S 5) 1 0).toInt → 0 ≤ (((f_NC_goThroughPart S x1).2 5) 1 0).toInt) := by
  unfold f_NC_goThroughPart
  split
  · split
    · exact ⟨rfl, fun h => h⟩
    · split
      · exact ⟨rfl, fun h => h⟩
      · split
        · exact ⟨tea_r rfl, fun h => tea_z h⟩
        · split
          · exact ⟨tea_r rfl, fun h => tea_z h⟩
          · split
            · split
              · exact ⟨tea_r rfl, fun h => add_z (tea_z h)⟩
              · exact ⟨gme_r.1.trans (tea_r rfl), fun h => gme_r.2 (tea_z h)⟩
            · exact ⟨gnu_r.1.trans (tea_r rfl), fun h => gnu_r.2 (tea_z h)⟩
  · split
    · exact ⟨rfl, fun h => h⟩
    · split
      · exact ⟨rfl, fun h => h⟩
      · split
        · exact ⟨tea_r rfl, fun h => tea_z h⟩
        · split
          · exact ⟨tea_r rfl, fun h => tea_z h⟩
          · split
            · split
              · exact ⟨tea_r rfl, fun h => add_z (tea_z h)⟩
              · exact ⟨gme_r.1.trans (tea_r rfl), fun h => gme_r.2 (tea_z h)⟩
            · exact ⟨gnu_r.1.trans (tea_r rfl), fun h => gnu_r.2 (tea_z h)⟩
theorem gtp_P {S : Nat → Nat → Nat → Int32} {x1 : Int32} : (f_NC_goThroughPart S x1).2 2 = S 2 := gtp_r.1
theorem gtp_z {S : Nat → Nat → Nat → Int32} {x1 : Int32} (hg : 0 ≤ ((S 5) 1 0).toInt) : 0 ≤ (((f_NC_goThroughPart S x1).2 5) 1 0).toInt := gtp_r.2 hg
