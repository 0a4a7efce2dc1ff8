def f_Things_has (T : Nat → Nat → Int32) (x1 : Int32) : Int32 := (if x1 < 0 then 0 else (if (T 7 0) ≤ x1 then 0 else (if 32 ≤ x1 then 0 else 1)))
abbrev ws_Things_has : List Cond := .code y_Things_has b_Things_has 2 (some .boolean) :: lw_G
abbrev rm_Things_has : Room := { frames := 0, cells := 0, slots := 0, locals := 0 }
set_option maxHeartbeats 4000000 in
set_option maxRecDepth 100000 in
theorem c_Things_has (l : Launch) (dC : Nat → ClassId) (dI : Nat → Nat → Nat) (cA : ClassId) (a : Nat → Nat) (T : Nat → Nat → Int32) (x1 : Int32) : Met l y_Things_has ws_Things_has rm_Things_has (nc_Pre (dC, dI) cA [.ref (a 0), .int x1] (w_Things cA a T)) (vp_Si (fun r => (r = (f_Things_has T x1) ∧ narrow .boolean (.int r) = .int r))) 0 0 (fun _ => False) := by
  refine Met.ofW (cc := b_Things_has) (maxL := 2) (ret := (some .boolean)) (by decide) rfl ?_
  intro p e s m args below meth c s₁ B hml hv
  obtain ⟨rfl, hP, hK, hD, hN⟩ := hv
  have hx := B.exec
  have hb := B.bytes
  have hr := B.returns
  have hts : ∀ w ∈ lw_G, w.before [.ref (a 0), .int x1].toArray s = true := fun w h => atoms_spec (ws := ws_Things_has) B.pre w (List.mem_cons_of_mem _ h)
  have hown : s.vm.findClass R_Things = some m.cls := findClass_of_methodNamed B.named
  have hlocks := B.notSynchronized
  have hfix : CallFix p m c b_Things_has 2 s [.ref (a 0), .int x1].toArray lw_G R_Things := ⟨hx, hb, hml, hown, hts⟩
  have hl := lv_entry ([.ref (a 0), .int x1]) (n := 2) (Nat.le_of_ble_eq_true rfl)
  rw [lg_entry_eq]
  generalize (lg_sl ([.ref (a 0), .int x1]) ++ List.replicate (2 - (lg_sl ([.ref (a 0), .int x1])).length) Slot.unset).toArray = ls at hl ⊢
  have hl : lv_has ls 2 [(0, .ref (a 0)), (1, .int x1)] := hl
  refine lv_iload_n hx hb d_Things_has_0 rfl (lv_at hl 1 rfl) ?_
  refine lv_if_lt (tgt := 22) hx hb d_Things_has_1 (by decide) (fun c_23 => ?_) (fun c_23 => ?_)
  · refine lv_iconst (v := 0) hx hb d_Things_has_22 (by decide) ?_
    exact W.zret (v := 0) hx hb hr rfl (fun t ht hW => ⟨0, rfl, ⟨by rw [f_Things_has, if_pos c_23], rfl⟩, ht⟩) (fun _ h => nomatch h) d_Things_has_23
  · refine lv_iload_n hx hb d_Things_has_4 rfl (lv_at hl 1 rfl) ?_
    refine lv_aload_n hx hb d_Things_has_5 rfl (lv_at hl 0 rfl) ?_
    refine va_get (D := (dC, dI)) (ci := 1) (v := .int (T 7 0)) (C := R_Things) (T := F_Things) (N := 8) hx hb hts i_Things hown hK hP 0 rfl rfl 7 (by decide) (hts _ m_f_Things_33) (fun _ h9 => h9) rfl d_Things_has_6 ?_
    refine lv_icmp_ge (tgt := 22) hx hb d_Things_has_9 (by decide) (fun c_24 => ?_) (fun c_24 => ?_)
    · refine lv_iconst (v := 0) hx hb d_Things_has_22 (by decide) ?_
      exact W.zret (v := 0) hx hb hr rfl (fun t ht hW => ⟨0, rfl, ⟨by rw [f_Things_has, if_neg c_23, if_pos c_24], rfl⟩, ht⟩) (fun _ h => nomatch h) d_Things_has_23
    · refine lv_iload_n hx hb d_Things_has_12 rfl (lv_at hl 1 rfl) ?_
      refine lv_bipush (v := 32) hx hb d_Things_has_13 (by decide) ?_
      refine lv_icmp_ge (tgt := 22) hx hb d_Things_has_15 (by decide) (fun c_25 => ?_) (fun c_25 => ?_)
      · refine lv_iconst (v := 0) hx hb d_Things_has_22 (by decide) ?_
        exact W.zret (v := 0) hx hb hr rfl (fun t ht hW => ⟨0, rfl, ⟨by rw [f_Things_has, if_neg c_23, if_neg c_24, if_pos c_25], rfl⟩, ht⟩) (fun _ h => nomatch h) d_Things_has_23
      · refine lv_iconst (v := 1) hx hb d_Things_has_18 (by decide) ?_
        refine lv_goto (tgt := 23) hx hb d_Things_has_19 (by decide) ?_
        exact W.zret (v := 1) hx hb hr rfl (fun t ht hW => ⟨1, rfl, ⟨by rw [f_Things_has, if_neg c_23, if_neg c_24, if_neg c_25], rfl⟩, ht⟩) (fun _ h => nomatch h) d_Things_has_23
theorem has_pos {T : Nat → Nat → Int32} {x1 : Int32} (h : ¬ f_Things_has T x1 = 0) : 0 ≤ x1.toInt ∧ x1.toInt < (T 7 0).toInt ∧ x1.toInt < 32 := by
  unfold f_Things_has at h
  split at h
  · exact absurd rfl h
  · split at h
    · exact absurd rfl h
    · split at h
      · exact absurd rfl h
      · rename_i h1 h2 h3
        have q1 := nc_nlt h1 rfl L_0
        have q2 := nc_nle h2 rfl rfl
        have q3 := nc_nle h3 L_32 rfl
        exact ⟨q1, q2, q3⟩
def f_Things_add (T : Nat → Nat → Int32) : Int32 × (Nat → Nat → Int32) := (if (T 7 0) < 32 then ((((T 7 0) + 1) - 1), (upf T 7 (fun _ => ((T 7 0) + 1)))) else ((-3), T))
abbrev ws_Things_add : List Cond := .code y_Things_add b_Things_add 1 (some .int) :: lw_G
abbrev rm_Things_add : Room := { frames := 0, cells := 0, slots := 0, locals := 0 }
set_option maxHeartbeats 4000000 in
set_option maxRecDepth 100000 in
theorem c_Things_add (l : Launch) (dC : Nat → ClassId) (dI : Nat → Nat → Nat) (cA : ClassId) (sz : Nat) (a : Nat → Nat) (T : Nat → Nat → Int32) : Met l y_Things_add ws_Things_add rm_Things_add (nc_PreM (dC, dI) cA sz [.ref (a 0)] (w_Things cA a T)) (va_Qi (fun r (_ : Unit) => r = (f_Things_add T).1) (fun _ t => va_P (dC, dI) classes (w_Things cA a (f_Things_add T).2) t.heap ∧ va_D (va_A (w_Things cA a T) sz) (w_Things cA a (f_Things_add T).2)) (va_A (w_Things cA a T) sz)) 0 0 (va_A (w_Things cA a T) sz) := by
  refine Met.ofW (cc := b_Things_add) (maxL := 1) (ret := (some .int)) (by decide) rfl ?_
  intro p e s m args below meth c s₁ B hml hv
  obtain ⟨rfl, hsz, hP, hK, hD0, hN⟩ := hv
  have hx := B.exec
  have hb := B.bytes
  have hr := B.returns
  have hts : ∀ w ∈ lw_G, w.before [.ref (a 0)].toArray s = true := fun w h => atoms_spec (ws := ws_Things_add) B.pre w (List.mem_cons_of_mem _ h)
  have hown : s.vm.findClass R_Things = some m.cls := findClass_of_methodNamed B.named
  have hlocks := B.notSynchronized
  have hfix : CallFix p m c b_Things_add 1 s [.ref (a 0)].toArray lw_G R_Things := ⟨hx, hb, hml, hown, hts⟩
  subst hsz
  have hD := hD0.self (sz := s.heap.size)
  generalize hAe : va_A (w_Things cA a T) s.heap.size = A at hD ⊢
  have hA : ∀ q : Nat, s.heap.size ≤ q → A q := fun q h => by rw [← hAe]; exact Or.inr h
  have hS : va_S A s.heap s.heap [] := va_S.rf
  have hl := lv_entry ([.ref (a 0)]) (n := 1) (Nat.le_of_ble_eq_true rfl)
  rw [lg_entry_eq]
  generalize (lg_sl ([.ref (a 0)]) ++ List.replicate (1 - (lg_sl ([.ref (a 0)])).length) Slot.unset).toArray = ls at hl ⊢
  have hl : lv_has ls 1 [(0, .ref (a 0))] := hl
  refine lv_aload_n hx hb d_Things_add_0 rfl (lv_at hl 0 rfl) ?_
  refine va_get (D := (dC, dI)) (ci := 1) (v := .int (T 7 0)) (C := R_Things) (T := F_Things) (N := 8) hx hb hts i_Things hown hK hP 0 rfl rfl 7 (by decide) (hts _ m_f_Things_33) (fun _ h9 => h9) rfl d_Things_add_1 ?_
  refine lv_bipush (v := 32) hx hb d_Things_add_4 (by decide) ?_
  refine lv_icmp_lt (tgt := 12) hx hb d_Things_add_6 (by decide) (fun c_26 => ?_) (fun c_26 => ?_)
  · refine lv_aload_n hx hb d_Things_add_12 rfl (lv_at hl 0 rfl) ?_
    refine lv_dup hx hb d_Things_add_13 rfl ?_
    refine va_get (D := (dC, dI)) (ci := 1) (v := .int (T 7 0)) (C := R_Things) (T := F_Things) (N := 8) hx hb hts i_Things hown hK hP 0 rfl rfl 7 (by decide) (hts _ m_f_Things_33) (fun _ h9 => h9) rfl d_Things_add_14 ?_
    refine lv_iconst (v := 1) hx hb d_Things_add_17 (by decide) ?_
    refine lv_iadd hx hb d_Things_add_18 ?_
    refine va_put (D := (dC, dI)) (ci := 1) (v := .int ((T 7 0) + 1)) (ty := .int) (C := R_Things) (T := F_Things) (N := 8) hx hb hts i_Things t_Things t_Things_ok n_Things hown hK hP hD hS 0 rfl rfl 7 (by decide) (hts _ m_f_Things_33) (fun _ h9 => h9) rfl (by decide +kernel) rfl rfl (Nat.le_of_ble_eq_true rfl) d_Things_add_19 (fun H locs hP hD hS => ?_)
    have hP : va_P (dC, dI) classes (w_Things cA a (upf T 7 (fun _ => ((T 7 0) + 1)))) H := hP
    have hD : va_D A (w_Things cA a (upf T 7 (fun _ => ((T 7 0) + 1)))) := hD
    refine lv_aload_n hx hb d_Things_add_22 rfl (lv_at hl 0 rfl) ?_
    refine va_get (D := (dC, dI)) (ci := 1) (v := .int ((T 7 0) + 1)) (C := R_Things) (T := F_Things) (N := 8) hx hb hts i_Things hown hK hP 0 rfl rfl 7 (by decide) (hts _ m_f_Things_33) (fun _ h9 => h9) rfl d_Things_add_23 ?_
    refine lv_iconst (v := 1) hx hb d_Things_add_26 (by decide) ?_
    refine lv_isub hx hb d_Things_add_27 ?_
    have hF : (f_Things_add T) = ((((T 7 0) + 1) - 1), (upf T 7 (fun _ => ((T 7 0) + 1)))) := by rw [f_Things_add, if_pos c_26]
    exact W.iret (v := (((T 7 0) + 1) - 1)) hx hb hr (fun t ht hW => ⟨⟨(((T 7 0) + 1) - 1), (), rfl, by rw [hF], by rw [hF, ht]; exact hP, by rw [hF]; exact hD⟩, hS.F ht⟩) hS.2.2 d_Things_add_28
  · refine lv_bipush (v := (-3)) hx hb d_Things_add_9 (by decide) ?_
    have hF : (f_Things_add T) = ((-3), T) := by rw [f_Things_add, if_neg c_26]
    exact W.iret (v := (-3)) hx hb hr (fun t ht hW => ⟨⟨(-3), (), rfl, by rw [hF], by rw [hF, ht]; exact hP, by rw [hF]; exact hD⟩, hS.F ht⟩) hS.2.2 d_Things_add_11
def f_Things_setWord (T : Nat → Nat → Int32) (x1 x2 x3 x4 : Int32) : Int32 × (Nat → Nat → Int32) := (if (f_Things_has T x1) = 0 then ((-1), T) else (if (f_NC_isWord x2) = 0 then ((-1), T) else (if x3 = 0 then (if x4 = 0 then (((nc_ushr ((T 1) x1.toNatClampNeg) x2) &&& 1), (upf T 1 (upd (T 1) (x1 : Int32).toNatClampNeg (((T 1) x1.toNatClampNeg) &&& (((1 : Int32) <<< (x2 &&& 31)) ^^^ (-1)))))) else (((nc_ushr ((T 1) x1.toNatClampNeg) x2) &&& 1), (upf T 1 (upd (T 1) (x1 : Int32).toNatClampNeg (((T 1) x1.toNatClampNeg) ||| ((1 : Int32) <<< (x2 &&& 31))))))) else (if x4 = 0 then (((nc_ushr ((T 0) x1.toNatClampNeg) x2) &&& 1), (upf T 0 (upd (T 0) (x1 : Int32).toNatClampNeg (((T 0) x1.toNatClampNeg) &&& (((1 : Int32) <<< (x2 &&& 31)) ^^^ (-1)))))) else (((nc_ushr ((T 0) x1.toNatClampNeg) x2) &&& 1), (upf T 0 (upd (T 0) (x1 : Int32).toNatClampNeg (((T 0) x1.toNatClampNeg) ||| ((1 : Int32) <<< (x2 &&& 31))))))))))
abbrev ws_Things_setWord : List Cond := .code y_Things_setWord b_Things_setWord 7 (some .int) :: lw_G
abbrev rm_Things_setWord : Room := { frames := 1, cells := 0, slots := 0, locals := 21 }
set_option maxHeartbeats 4000000 in
set_option maxRecDepth 100000 in
theorem c_Things_setWord (l : Launch) (dC : Nat → ClassId) (dI : Nat → Nat → Nat) (cA : ClassId) (sz : Nat) (a : Nat → Nat) (T : Nat → Nat → Int32) (x1 x2 x3 x4 : Int32) : Met l y_Things_setWord ws_Things_setWord rm_Things_setWord (nc_PreM (dC, dI) cA sz [.ref (a 0), .int x1, .int x2, .int x3, .int x4] (w_Things cA a T)) (va_Qi (fun r (_ : Unit) => r = (f_Things_setWord T x1 x2 x3 x4).1) (fun _ t => va_P (dC, dI) classes (w_Things cA a (f_Things_setWord T x1 x2 x3 x4).2) t.heap ∧ va_D (va_A (w_Things cA a T) sz) (w_Things cA a (f_Things_setWord T x1 x2 x3 x4).2)) (va_A (w_Things cA a T) sz)) 0 0 (va_A (w_Things cA a T) sz) := by
  refine Met.ofW (cc := b_Things_setWord) (maxL := 7) (ret := (some .int)) (by decide) rfl ?_
  intro p e s m args below meth c s₁ B hml hv
  obtain ⟨rfl, hsz, hP, hK, hD0, hN⟩ := hv
  have hx := B.exec
  have hb := B.bytes
  have hr := B.returns
  have hts : ∀ w ∈ lw_G, w.before [.ref (a 0), .int x1, .int x2, .int x3, .int x4].toArray s = true := fun w h => atoms_spec (ws := ws_Things_setWord) B.pre w (List.mem_cons_of_mem _ h)
  have hown : s.vm.findClass R_Things = some m.cls := findClass_of_methodNamed B.named
  have hlocks := B.notSynchronized
  have hfix : CallFix p m c b_Things_setWord 7 s [.ref (a 0), .int x1, .int x2, .int x3, .int x4].toArray lw_G R_Things := ⟨hx, hb, hml, hown, hts⟩
  subst hsz
  have hD := hD0.self (sz := s.heap.size)
  generalize hAe : va_A (w_Things cA a T) s.heap.size = A at hD ⊢
  have hA : ∀ q : Nat, s.heap.size ≤ q → A q := fun q h => by rw [← hAe]; exact Or.inr h
  have hS : va_S A s.heap s.heap [] := va_S.rf
  have hl := lv_entry ([.ref (a 0), .int x1, .int x2, .int x3, .int x4]) (n := 7) (Nat.le_of_ble_eq_true rfl)
  rw [lg_entry_eq]
  generalize (lg_sl ([.ref (a 0), .int x1, .int x2, .int x3, .int x4]) ++ List.replicate (7 - (lg_sl ([.ref (a 0), .int x1, .int x2, .int x3, .int x4])).length) Slot.unset).toArray = ls at hl ⊢
  have hl : lv_has ls 7 [(0, .ref (a 0)), (1, .int x1), (2, .int x2), (3, .int x3), (4, .int x4)] := hl
  refine lv_aload_n hx hb d_Things_setWord_0 rfl (lv_at hl 0 rfl) ?_
  refine lv_iload_n hx hb d_Things_setWord_1 rfl (lv_at hl 1 rfl) ?_
  refine nc_ro (va_runV (As := [.int x1]) (rest := []) hfix (c_Things_has l dC dI cA a T x1) (k_Things_43 hts hN ⟨Nat.le_of_ble_eq_true rfl, Nat.le_of_ble_eq_true rfl⟩) (nc_preV hK hN hP hD rfl rfl) rfl rfl hl.1 rfl (lv_room (Nat.le_of_ble_eq_true rfl)) d_Things_setWord_2 ⟨Nat.zero_le _, Nat.zero_le _⟩) (fun r er => ?_)
  obtain ⟨rfl, hz_27⟩ := er
  refine lv_if_eq (tgt := 15) hx hb d_Things_setWord_5 (by decide) (fun c_28 => ?_) (fun c_28 => ?_)
  · refine lv_iconst (v := (-1)) hx hb d_Things_setWord_15 (by decide) ?_
    have hF : (f_Things_setWord T x1 x2 x3 x4) = ((-1), T) := by rw [f_Things_setWord, if_pos c_28]
    exact W.iret (v := (-1)) hx hb hr (fun t ht hW => ⟨⟨(-1), (), rfl, by rw [hF], by rw [hF, ht]; exact hP, by rw [hF]; exact hD⟩, hS.F ht⟩) hS.2.2 d_Things_setWord_16
  · refine lv_iload_n hx hb d_Things_setWord_8 rfl (lv_at hl 2 rfl) ?_
    refine nc_ro (va_runSN (As := [.int x2]) (rest := []) hfix (c_NC_isWord l dC dI cA x2) (k_Things_47 hts hN ⟨Nat.le_of_ble_eq_true rfl, Nat.le_of_ble_eq_true rfl⟩) (nc_preS0 hK hN) rfl rfl hl.1 rfl (lv_room (Nat.le_of_ble_eq_true rfl)) d_Things_setWord_9 ⟨Nat.zero_le _, Nat.zero_le _⟩) (fun r er => ?_)
    obtain ⟨rfl, hz_29⟩ := er
    refine lv_if_ne (tgt := 17) hx hb d_Things_setWord_12 (by decide) (fun c_30 => ?_) (fun c_30 => ?_)
    · refine lv_iload_n hx hb d_Things_setWord_17 rfl (lv_at hl 3 rfl) ?_
      refine lv_if_eq (tgt := 28) hx hb d_Things_setWord_18 (by decide) (fun c_31 => ?_) (fun c_31 => ?_)
      · refine lv_aload_n hx hb d_Things_setWord_28 rfl (lv_at hl 0 rfl) ?_
        refine va_get (D := (dC, dI)) (ci := 1) (v := .ref (a 2)) (C := R_Things) (T := F_Things) (N := 8) hx hb hts i_Things hown hK hP 0 rfl rfl 1 (by decide) (hts _ m_f_Things_15) (fun _ h9 => h9) rfl d_Things_setWord_29 ?_
        refine lv_astore (lv' := [(5, .ref (a 2)), (0, .ref (a 0)), (1, .int x1), (2, .int x2), (3, .int x3), (4, .int x4)]) hx hb d_Things_setWord_32 hl (by decide) rfl (fun ls hl => ?_)
        refine lv_aload hx hb d_Things_setWord_34 (lv_at hl 0 rfl) ?_
        refine lv_iload_n hx hb d_Things_setWord_36 rfl (lv_at hl 2 rfl) ?_
        refine va_iald (f := (T 1)) hx hb hK hP 2 0 rfl rfl (by have q0 := nc_eq c_31 rfl (L_0); have q1 := has_pos c_28; exact vp_in_iff.mpr ⟨by omega, by omega⟩) d_Things_setWord_37 ?_
        refine lv_iload_n hx hb d_Things_setWord_38 rfl (lv_at hl 3 rfl) ?_
        refine lv_iushr (v := (nc_ushr ((T 1) x1.toNatClampNeg) x2)) hx hb d_Things_setWord_39 rfl ?_
        refine lv_iconst (v := 1) hx hb d_Things_setWord_40 (by decide) ?_
        refine lv_iand hx hb d_Things_setWord_41 ?_
        refine lv_istore (lv' := [(6, .int ((nc_ushr ((T 1) x1.toNatClampNeg) x2) &&& 1)), (5, .ref (a 2)), (0, .ref (a 0)), (1, .int x1), (2, .int x2), (3, .int x3), (4, .int x4)]) hx hb d_Things_setWord_42 hl (by decide) rfl (fun ls hl => ?_)
        refine lv_aload hx hb d_Things_setWord_44 (lv_at hl 1 rfl) ?_
        refine lv_iload_n hx hb d_Things_setWord_46 rfl (lv_at hl 3 rfl) ?_
        refine lv_iload hx hb d_Things_setWord_47 (lv_at hl 6 rfl) ?_
        refine lv_if_eq (tgt := 63) hx hb d_Things_setWord_49 (by decide) (fun c_32 => ?_) (fun c_32 => ?_)
        · refine lv_aload hx hb d_Things_setWord_63 (lv_at hl 1 rfl) ?_
          refine lv_iload_n hx hb d_Things_setWord_65 rfl (lv_at hl 3 rfl) ?_
          refine va_iald (f := (T 1)) hx hb hK hP 2 0 rfl rfl (by have q0 := nc_eq c_31 rfl (L_0); have q1 := nc_eq c_32 rfl (L_0); have q2 := has_pos c_28; exact vp_in_iff.mpr ⟨by omega, by omega⟩) d_Things_setWord_66 ?_
          refine lv_iconst (v := 1) hx hb d_Things_setWord_67 (by decide) ?_
          refine lv_iload_n hx hb d_Things_setWord_68 rfl (lv_at hl 4 rfl) ?_
          refine lv_ishl hx hb d_Things_setWord_69 ?_
          refine lv_iconst (v := (-1)) hx hb d_Things_setWord_70 (by decide) ?_
          refine lv_ixor hx hb d_Things_setWord_71 ?_
          refine lv_iand hx hb d_Things_setWord_72 ?_
          refine va_iast (f := (T 1)) hx hb hK hP hD hS 2 0 rfl rfl (by have q0 := nc_eq c_31 rfl (L_0); have q1 := nc_eq c_32 rfl (L_0); have q2 := has_pos c_28; exact vp_in_iff.mpr ⟨by omega, by omega⟩) d_Things_setWord_73 (fun H locs hP hD hS => ?_)
          have hP : va_P (dC, dI) classes (w_Things cA a (upf T 1 (upd (T 1) (x1 : Int32).toNatClampNeg (((T 1) x1.toNatClampNeg) &&& (((1 : Int32) <<< (x2 &&& 31)) ^^^ (-1)))))) H := hP
          have hD : va_D A (w_Things cA a (upf T 1 (upd (T 1) (x1 : Int32).toNatClampNeg (((T 1) x1.toNatClampNeg) &&& (((1 : Int32) <<< (x2 &&& 31)) ^^^ (-1)))))) := hD
          refine lv_iload hx hb d_Things_setWord_74 (lv_at hl 0 rfl) ?_
          have hF : (f_Things_setWord T x1 x2 x3 x4) = (((nc_ushr ((T 1) x1.toNatClampNeg) x2) &&& 1), (upf T 1 (upd (T 1) (x1 : Int32).toNatClampNeg (((T 1) x1.toNatClampNeg) &&& (((1 : Int32) <<< (x2 &&& 31)) ^^^ (-1)))))) := by rw [f_Things_setWord, if_neg c_28, if_neg c_30, if_pos c_31, if_pos c_32]
          exact W.iret (v := ((nc_ushr ((T 1) x1.toNatClampNeg) x2) &&& 1)) hx hb hr (fun t ht hW => ⟨⟨((nc_ushr ((T 1) x1.toNatClampNeg) x2) &&& 1), (), rfl, by rw [hF], by rw [hF, ht]; exact hP, by rw [hF]; exact hD⟩, hS.F ht⟩) hS.2.2 d_Things_setWord_76
        · refine lv_aload hx hb d_Things_setWord_52 (lv_at hl 1 rfl) ?_
          refine lv_iload_n hx hb d_Things_setWord_54 rfl (lv_at hl 3 rfl) ?_
          refine va_iald (f := (T 1)) hx hb hK hP 2 0 rfl rfl (by have q0 := nc_eq c_31 rfl (L_0); have q1 := has_pos c_28; exact vp_in_iff.mpr ⟨by omega, by omega⟩) d_Things_setWord_55 ?_
          refine lv_iconst (v := 1) hx hb d_Things_setWord_56 (by decide) ?_
          refine lv_iload_n hx hb d_Things_setWord_57 rfl (lv_at hl 4 rfl) ?_
          refine lv_ishl hx hb d_Things_setWord_58 ?_
          refine lv_ior hx hb d_Things_setWord_59 ?_
          refine lv_goto (tgt := 73) hx hb d_Things_setWord_60 (by decide) ?_
          refine va_iast (f := (T 1)) hx hb hK hP hD hS 2 0 rfl rfl (by have q0 := nc_eq c_31 rfl (L_0); have q1 := has_pos c_28; exact vp_in_iff.mpr ⟨by omega, by omega⟩) d_Things_setWord_73 (fun H locs hP hD hS => ?_)
          have hP : va_P (dC, dI) classes (w_Things cA a (upf T 1 (upd (T 1) (x1 : Int32).toNatClampNeg (((T 1) x1.toNatClampNeg) ||| ((1 : Int32) <<< (x2 &&& 31)))))) H := hP
          have hD : va_D A (w_Things cA a (upf T 1 (upd (T 1) (x1 : Int32).toNatClampNeg (((T 1) x1.toNatClampNeg) ||| ((1 : Int32) <<< (x2 &&& 31)))))) := hD
          refine lv_iload hx hb d_Things_setWord_74 (lv_at hl 0 rfl) ?_
          have hF : (f_Things_setWord T x1 x2 x3 x4) = (((nc_ushr ((T 1) x1.toNatClampNeg) x2) &&& 1), (upf T 1 (upd (T 1) (x1 : Int32).toNatClampNeg (((T 1) x1.toNatClampNeg) ||| ((1 : Int32) <<< (x2 &&& 31)))))) := by rw [f_Things_setWord, if_neg c_28, if_neg c_30, if_pos c_31, if_neg c_32]
          exact W.iret (v := ((nc_ushr ((T 1) x1.toNatClampNeg) x2) &&& 1)) hx hb hr (fun t ht hW => ⟨⟨((nc_ushr ((T 1) x1.toNatClampNeg) x2) &&& 1), (), rfl, by rw [hF], by rw [hF, ht]; exact hP, by rw [hF]; exact hD⟩, hS.F ht⟩) hS.2.2 d_Things_setWord_76
      · refine lv_aload_n hx hb d_Things_setWord_21 rfl (lv_at hl 0 rfl) ?_
        refine va_get (D := (dC, dI)) (ci := 1) (v := .ref (a 1)) (C := R_Things) (T := F_Things) (N := 8) hx hb hts i_Things hown hK hP 0 rfl rfl 0 (by decide) (hts _ m_f_Things_9) (fun _ h9 => h9) rfl d_Things_setWord_22 ?_
        refine lv_goto (tgt := 32) hx hb d_Things_setWord_25 (by decide) ?_
        refine lv_astore (lv' := [(5, .ref (a 1)), (0, .ref (a 0)), (1, .int x1), (2, .int x2), (3, .int x3), (4, .int x4)]) hx hb d_Things_setWord_32 hl (by decide) rfl (fun ls hl => ?_)
        refine lv_aload hx hb d_Things_setWord_34 (lv_at hl 0 rfl) ?_
        refine lv_iload_n hx hb d_Things_setWord_36 rfl (lv_at hl 2 rfl) ?_
        refine va_iald (f := (T 0)) hx hb hK hP 1 0 rfl rfl (by have q0 := has_pos c_28; exact vp_in_iff.mpr ⟨by omega, by omega⟩) d_Things_setWord_37 ?_
        refine lv_iload_n hx hb d_Things_setWord_38 rfl (lv_at hl 3 rfl) ?_
        refine lv_iushr (v := (nc_ushr ((T 0) x1.toNatClampNeg) x2)) hx hb d_Things_setWord_39 rfl ?_
        refine lv_iconst (v := 1) hx hb d_Things_setWord_40 (by decide) ?_
        refine lv_iand hx hb d_Things_setWord_41 ?_
        refine lv_istore (lv' := [(6, .int ((nc_ushr ((T 0) x1.toNatClampNeg) x2) &&& 1)), (5, .ref (a 1)), (0, .ref (a 0)), (1, .int x1), (2, .int x2), (3, .int x3), (4, .int x4)]) hx hb d_Things_setWord_42 hl (by decide) rfl (fun ls hl => ?_)
        refine lv_aload hx hb d_Things_setWord_44 (lv_at hl 1 rfl) ?_
        refine lv_iload_n hx hb d_Things_setWord_46 rfl (lv_at hl 3 rfl) ?_
        refine lv_iload hx hb d_Things_setWord_47 (lv_at hl 6 rfl) ?_
        refine lv_if_eq (tgt := 63) hx hb d_Things_setWord_49 (by decide) (fun c_33 => ?_) (fun c_33 => ?_)
        · refine lv_aload hx hb d_Things_setWord_63 (lv_at hl 1 rfl) ?_
          refine lv_iload_n hx hb d_Things_setWord_65 rfl (lv_at hl 3 rfl) ?_
          refine va_iald (f := (T 0)) hx hb hK hP 1 0 rfl rfl (by have q0 := nc_eq c_33 rfl (L_0); have q1 := has_pos c_28; exact vp_in_iff.mpr ⟨by omega, by omega⟩) d_Things_setWord_66 ?_
          refine lv_iconst (v := 1) hx hb d_Things_setWord_67 (by decide) ?_
          refine lv_iload_n hx hb d_Things_setWord_68 rfl (lv_at hl 4 rfl) ?_
          refine lv_ishl hx hb d_Things_setWord_69 ?_
          refine lv_iconst (v := (-1)) hx hb d_Things_setWord_70 (by decide) ?_
          refine lv_ixor hx hb d_Things_setWord_71 ?_
          refine lv_iand hx hb d_Things_setWord_72 ?_
          refine va_iast (f := (T 0)) hx hb hK hP hD hS 1 0 rfl rfl (by have q0 := nc_eq c_33 rfl (L_0); have q1 := has_pos c_28; exact vp_in_iff.mpr ⟨by omega, by omega⟩) d_Things_setWord_73 (fun H locs hP hD hS => ?_)
          have hP : va_P (dC, dI) classes (w_Things cA a (upf T 0 (upd (T 0) (x1 : Int32).toNatClampNeg (((T 0) x1.toNatClampNeg) &&& (((1 : Int32) <<< (x2 &&& 31)) ^^^ (-1)))))) H := hP
          have hD : va_D A (w_Things cA a (upf T 0 (upd (T 0) (x1 : Int32).toNatClampNeg (((T 0) x1.toNatClampNeg) &&& (((1 : Int32) <<< (x2 &&& 31)) ^^^ (-1)))))) := hD
          refine lv_iload hx hb d_Things_setWord_74 (lv_at hl 0 rfl) ?_
          have hF : (f_Things_setWord T x1 x2 x3 x4) = (((nc_ushr ((T 0) x1.toNatClampNeg) x2) &&& 1), (upf T 0 (upd (T 0) (x1 : Int32).toNatClampNeg (((T 0) x1.toNatClampNeg) &&& (((1 : Int32) <<< (x2 &&& 31)) ^^^ (-1)))))) := by rw [f_Things_setWord, if_neg c_28, if_neg c_30, if_neg c_31, if_pos c_33]
          exact W.iret (v := ((nc_ushr ((T 0) x1.toNatClampNeg) x2) &&& 1)) hx hb hr (fun t ht hW => ⟨⟨((nc_ushr ((T 0) x1.toNatClampNeg) x2) &&& 1), (), rfl, by rw [hF], by rw [hF, ht]; exact hP, by rw [hF]; exact hD⟩, hS.F ht⟩) hS.2.2 d_Things_setWord_76
        · refine lv_aload hx hb d_Things_setWord_52 (lv_at hl 1 rfl) ?_
          refine lv_iload_n hx hb d_Things_setWord_54 rfl (lv_at hl 3 rfl) ?_
          refine va_iald (f := (T 0)) hx hb hK hP 1 0 rfl rfl (by have q0 := has_pos c_28; exact vp_in_iff.mpr ⟨by omega, by omega⟩) d_Things_setWord_55 ?_
          refine lv_iconst (v := 1) hx hb d_Things_setWord_56 (by decide) ?_
          refine lv_iload_n hx hb d_Things_setWord_57 rfl (lv_at hl 4 rfl) ?_
          refine lv_ishl hx hb d_Things_setWord_58 ?_
          refine lv_ior hx hb d_Things_setWord_59 ?_
          refine lv_goto (tgt := 73) hx hb d_Things_setWord_60 (by decide) ?_
          refine va_iast (f := (T 0)) hx hb hK hP hD hS 1 0 rfl rfl (by have q0 := has_pos c_28; exact vp_in_iff.mpr ⟨by omega, by omega⟩) d_Things_setWord_73 (fun H locs hP hD hS => ?_)
          have hP : va_P (dC, dI) classes (w_Things cA a (upf T 0 (upd (T 0) (x1 : Int32).toNatClampNeg (((T 0) x1.toNatClampNeg) ||| ((1 : Int32) <<< (x2 &&& 31)))))) H := hP
          have hD : va_D A (w_Things cA a (upf T 0 (upd (T 0) (x1 : Int32).toNatClampNeg (((T 0) x1.toNatClampNeg) ||| ((1 : Int32) <<< (x2 &&& 31)))))) := hD
          refine lv_iload hx hb d_Things_setWord_74 (lv_at hl 0 rfl) ?_
          have hF : (f_Things_setWord T x1 x2 x3 x4) = (((nc_ushr ((T 0) x1.toNatClampNeg) x2) &&& 1), (upf T 0 (upd (T 0) (x1 : Int32).toNatClampNeg (((T 0) x1.toNatClampNeg) ||| ((1 : Int32) <<< (x2 &&& 31)))))) := by rw [f_Things_setWord, if_neg c_28, if_neg c_30, if_neg c_31, if_neg c_33]
          exact W.iret (v := ((nc_ushr ((T 0) x1.toNatClampNeg) x2) &&& 1)) hx hb hr (fun t ht hW => ⟨⟨((nc_ushr ((T 0) x1.toNatClampNeg) x2) &&& 1), (), rfl, by rw [hF], by rw [hF, ht]; exact hP, by rw [hF]; exact hD⟩, hS.F ht⟩) hS.2.2 d_Things_setWord_76
    · refine lv_iconst (v := (-1)) hx hb d_Things_setWord_15 (by decide) ?_
      have hF : (f_Things_setWord T x1 x2 x3 x4) = ((-1), T) := by rw [f_Things_setWord, if_neg c_28, if_pos c_30]
      exact W.iret (v := (-1)) hx hb hr (fun t ht hW => ⟨⟨(-1), (), rfl, by rw [hF], by rw [hF, ht]; exact hP, by rw [hF]; exact hD⟩, hS.F ht⟩) hS.2.2 d_Things_setWord_16
def f_Things_setKind (T : Nat → Nat → Int32) (x1 x2 : Int32) : Int32 × (Nat → Nat → Int32) := (if (f_Things_has T x1) = 0 then ((-1), T) else (if x2 = (-1) then ((((T 2) x1.toNatClampNeg) + 1), (upf T 2 (upd (T 2) (x1 : Int32).toNatClampNeg x2))) else (if (f_Things_isKind x2) = 0 then ((-1), T) else ((((T 2) x1.toNatClampNeg) + 1), (upf T 2 (upd (T 2) (x1 : Int32).toNatClampNeg x2))))))
abbrev ws_Things_setKind : List Cond := .code y_Things_setKind b_Things_setKind 4 (some .int) :: lw_G
abbrev rm_Things_setKind : Room := { frames := 1, cells := 0, slots := 0, locals := 21 }
set_option maxHeartbeats 4000000 in
set_option maxRecDepth 100000 in
theorem c_Things_setKind (l : Launch) (dC : Nat → ClassId) (dI : Nat → Nat → Nat) (cA : ClassId) (sz : Nat) (a : Nat → Nat) (T : Nat → Nat → Int32) (x1 x2 : Int32) : Met l y_Things_setKind ws_Things_setKind rm_Things_setKind (nc_PreM (dC, dI) cA sz [.ref (a 0), .int x1, .int x2] (w_Things cA a T)) (va_Qi (fun r (_ : Unit) => r = (f_Things_setKind T x1 x2).1) (fun _ t => va_P (dC, dI) classes (w_Things cA a (f_Things_setKind T x1 x2).2) t.heap ∧ va_D (va_A (w_Things cA a T) sz) (w_Things cA a (f_Things_setKind T x1 x2).2)) (va_A (w_Things cA a T) sz)) 0 0 (va_A (w_Things cA a T) sz) := by
  refine Met.ofW (cc := b_Things_setKind) (maxL := 4) (ret := (some .int)) (by decide) rfl ?_
  intro p e s m args below meth c s₁ B hml hv
  obtain ⟨rfl, hsz, hP, hK, hD0, hN⟩ := hv
  have hx := B.exec
  have hb := B.bytes
  have hr := B.returns
  have hts : ∀ w ∈ lw_G, w.before [.ref (a 0), .int x1, .int x2].toArray s = true := fun w h => atoms_spec (ws := ws_Things_setKind) B.pre w (List.mem_cons_of_mem _ h)
  have hown : s.vm.findClass R_Things = some m.cls := findClass_of_methodNamed B.named
  have hlocks := B.notSynchronized
  have hfix : CallFix p m c b_Things_setKind 4 s [.ref (a 0), .int x1, .int x2].toArray lw_G R_Things := ⟨hx, hb, hml, hown, hts⟩
  subst hsz
  have hD := hD0.self (sz := s.heap.size)
  generalize hAe : va_A (w_Things cA a T) s.heap.size = A at hD ⊢
  have hA : ∀ q : Nat, s.heap.size ≤ q → A q := fun q h => by rw [← hAe]; exact Or.inr h
  have hS : va_S A s.heap s.heap [] := va_S.rf
  have hl := lv_entry ([.ref (a 0), .int x1, .int x2]) (n := 4) (Nat.le_of_ble_eq_true rfl)
  rw [lg_entry_eq]
  generalize (lg_sl ([.ref (a 0), .int x1, .int x2]) ++ List.replicate (4 - (lg_sl ([.ref (a 0), .int x1, .int x2])).length) Slot.unset).toArray = ls at hl ⊢
  have hl : lv_has ls 4 [(0, .ref (a 0)), (1, .int x1), (2, .int x2)] := hl
  refine lv_aload_n hx hb d_Things_setKind_0 rfl (lv_at hl 0 rfl) ?_
  refine lv_iload_n hx hb d_Things_setKind_1 rfl (lv_at hl 1 rfl) ?_
  refine nc_ro (va_runV (As := [.int x1]) (rest := []) hfix (c_Things_has l dC dI cA a T x1) (k_Things_43 hts hN ⟨Nat.le_of_ble_eq_true rfl, Nat.le_of_ble_eq_true rfl⟩) (nc_preV hK hN hP hD rfl rfl) rfl rfl hl.1 rfl (lv_room (Nat.le_of_ble_eq_true rfl)) d_Things_setKind_2 ⟨Nat.zero_le _, Nat.zero_le _⟩) (fun r er => ?_)
  obtain ⟨rfl, hz_34⟩ := er
  refine lv_if_eq (tgt := 20) hx hb d_Things_setKind_5 (by decide) (fun c_35 => ?_) (fun c_35 => ?_)
  · refine lv_iconst (v := (-1)) hx hb d_Things_setKind_20 (by decide) ?_
    have hF : (f_Things_setKind T x1 x2) = ((-1), T) := by rw [f_Things_setKind, if_pos c_35]
    exact W.iret (v := (-1)) hx hb hr (fun t ht hW => ⟨⟨(-1), (), rfl, by rw [hF], by rw [hF, ht]; exact hP, by rw [hF]; exact hD⟩, hS.F ht⟩) hS.2.2 d_Things_setKind_21
  · refine lv_iload_n hx hb d_Things_setKind_8 rfl (lv_at hl 2 rfl) ?_
    refine lv_iconst (v := (-1)) hx hb d_Things_setKind_9 (by decide) ?_
    refine lv_icmp_eq (tgt := 22) hx hb d_Things_setKind_10 (by decide) (fun c_36 => ?_) (fun c_36 => ?_)
    · refine lv_aload_n hx hb d_Things_setKind_22 rfl (lv_at hl 0 rfl) ?_
      refine va_get (D := (dC, dI)) (ci := 1) (v := .ref (a 3)) (C := R_Things) (T := F_Things) (N := 8) hx hb hts i_Things hown hK hP 0 rfl rfl 2 (by decide) (hts _ m_f_Things_18) (fun _ h9 => h9) rfl d_Things_setKind_23 ?_
      refine lv_iload_n hx hb d_Things_setKind_26 rfl (lv_at hl 1 rfl) ?_
      refine va_iald (f := (T 2)) hx hb hK hP 3 0 rfl rfl (by have q0 := nc_eq c_36 rfl (L_m1); have q1 := has_pos c_35; exact vp_in_iff.mpr ⟨by omega, by omega⟩) d_Things_setKind_27 ?_
      refine lv_istore_n (lv' := [(3, .int ((T 2) x1.toNatClampNeg)), (0, .ref (a 0)), (1, .int x1), (2, .int x2)]) hx hb d_Things_setKind_28 rfl hl (by decide) rfl (fun ls hl => ?_)
      refine lv_aload_n hx hb d_Things_setKind_29 rfl (lv_at hl 1 rfl) ?_
      refine va_get (D := (dC, dI)) (ci := 1) (v := .ref (a 3)) (C := R_Things) (T := F_Things) (N := 8) hx hb hts i_Things hown hK hP 0 rfl rfl 2 (by decide) (hts _ m_f_Things_18) (fun _ h9 => h9) rfl d_Things_setKind_30 ?_
      refine lv_iload_n hx hb d_Things_setKind_33 rfl (lv_at hl 2 rfl) ?_
      refine lv_iload_n hx hb d_Things_setKind_34 rfl (lv_at hl 3 rfl) ?_
      refine va_iast (f := (T 2)) hx hb hK hP hD hS 3 0 rfl rfl (by have q0 := nc_eq c_36 rfl (L_m1); have q1 := has_pos c_35; exact vp_in_iff.mpr ⟨by omega, by omega⟩) d_Things_setKind_35 (fun H locs hP hD hS => ?_)
      have hP : va_P (dC, dI) classes (w_Things cA a (upf T 2 (upd (T 2) (x1 : Int32).toNatClampNeg x2))) H := hP
      have hD : va_D A (w_Things cA a (upf T 2 (upd (T 2) (x1 : Int32).toNatClampNeg x2))) := hD
      refine lv_iload_n hx hb d_Things_setKind_36 rfl (lv_at hl 0 rfl) ?_
      refine lv_iconst (v := 1) hx hb d_Things_setKind_37 (by decide) ?_
      refine lv_iadd hx hb d_Things_setKind_38 ?_
      have hF : (f_Things_setKind T x1 x2) = ((((T 2) x1.toNatClampNeg) + 1), (upf T 2 (upd (T 2) (x1 : Int32).toNatClampNeg x2))) := by rw [f_Things_setKind, if_neg c_35, if_pos c_36]
      exact W.iret (v := (((T 2) x1.toNatClampNeg) + 1)) hx hb hr (fun t ht hW => ⟨⟨(((T 2) x1.toNatClampNeg) + 1), (), rfl, by rw [hF], by rw [hF, ht]; exact hP, by rw [hF]; exact hD⟩, hS.F ht⟩) hS.2.2 d_Things_setKind_39
    · refine lv_iload_n hx hb d_Things_setKind_13 rfl (lv_at hl 2 rfl) ?_
      refine nc_ro (va_runS (As := [.int x2]) (rest := []) hfix (c_Things_isKind l dC dI cA x2) (k_Things_50 hts hN ⟨Nat.le_of_ble_eq_true rfl, Nat.le_of_ble_eq_true rfl⟩) (nc_preS0 hK hN) rfl rfl hl.1 rfl (lv_room (Nat.le_of_ble_eq_true rfl)) d_Things_setKind_14 ⟨Nat.zero_le _, Nat.zero_le _⟩) (fun r er => ?_)
      obtain ⟨rfl, hz_37⟩ := er
      refine lv_if_ne (tgt := 22) hx hb d_Things_setKind_17 (by decide) (fun c_38 => ?_) (fun c_38 => ?_)
      · refine lv_aload_n hx hb d_Things_setKind_22 rfl (lv_at hl 0 rfl) ?_
        refine va_get (D := (dC, dI)) (ci := 1) (v := .ref (a 3)) (C := R_Things) (T := F_Things) (N := 8) hx hb hts i_Things hown hK hP 0 rfl rfl 2 (by decide) (hts _ m_f_Things_18) (fun _ h9 => h9) rfl d_Things_setKind_23 ?_
        refine lv_iload_n hx hb d_Things_setKind_26 rfl (lv_at hl 1 rfl) ?_
        refine va_iald (f := (T 2)) hx hb hK hP 3 0 rfl rfl (by have q0 := has_pos c_35; have q1 := isKind_pos c_38; exact vp_in_iff.mpr ⟨by omega, by omega⟩) d_Things_setKind_27 ?_
        refine lv_istore_n (lv' := [(3, .int ((T 2) x1.toNatClampNeg)), (0, .ref (a 0)), (1, .int x1), (2, .int x2)]) hx hb d_Things_setKind_28 rfl hl (by decide) rfl (fun ls hl => ?_)
        refine lv_aload_n hx hb d_Things_setKind_29 rfl (lv_at hl 1 rfl) ?_
        refine va_get (D := (dC, dI)) (ci := 1) (v := .ref (a 3)) (C := R_Things) (T := F_Things) (N := 8) hx hb hts i_Things hown hK hP 0 rfl rfl 2 (by decide) (hts _ m_f_Things_18) (fun _ h9 => h9) rfl d_Things_setKind_30 ?_
        refine lv_iload_n hx hb d_Things_setKind_33 rfl (lv_at hl 2 rfl) ?_
        refine lv_iload_n hx hb d_Things_setKind_34 rfl (lv_at hl 3 rfl) ?_
        refine va_iast (f := (T 2)) hx hb hK hP hD hS 3 0 rfl rfl (by have q0 := has_pos c_35; have q1 := isKind_pos c_38; exact vp_in_iff.mpr ⟨by omega, by omega⟩) d_Things_setKind_35 (fun H locs hP hD hS => ?_)
        have hP : va_P (dC, dI) classes (w_Things cA a (upf T 2 (upd (T 2) (x1 : Int32).toNatClampNeg x2))) H := hP
        have hD : va_D A (w_Things cA a (upf T 2 (upd (T 2) (x1 : Int32).toNatClampNeg x2))) := hD
        refine lv_iload_n hx hb d_Things_setKind_36 rfl (lv_at hl 0 rfl) ?_
        refine lv_iconst (v := 1) hx hb d_Things_setKind_37 (by decide) ?_
        refine lv_iadd hx hb d_Things_setKind_38 ?_
        have hF : (f_Things_setKind T x1 x2) = ((((T 2) x1.toNatClampNeg) + 1), (upf T 2 (upd (T 2) (x1 : Int32).toNatClampNeg x2))) := by rw [f_Things_setKind, if_neg c_35, if_neg c_36, if_neg c_38]
        exact W.iret (v := (((T 2) x1.toNatClampNeg) + 1)) hx hb hr (fun t ht hW => ⟨⟨(((T 2) x1.toNatClampNeg) + 1), (), rfl, by rw [hF], by rw [hF, ht]; exact hP, by rw [hF]; exact hD⟩, hS.F ht⟩) hS.2.2 d_Things_setKind_39
      · refine lv_iconst (v := (-1)) hx hb d_Things_setKind_20 (by decide) ?_
        have hF : (f_Things_setKind T x1 x2) = ((-1), T) := by rw [f_Things_setKind, if_neg c_35, if_neg c_36, if_pos c_38]
        exact W.iret (v := (-1)) hx hb hr (fun t ht hW => ⟨⟨(-1), (), rfl, by rw [hF], by rw [hF, ht]; exact hP, by rw [hF]; exact hD⟩, hS.F ht⟩) hS.2.2 d_Things_setKind_21
def f_Things_setPlace (T : Nat → Nat → Int32) (x1 x2 : Int32) : Int32 × (Nat → Nat → Int32) := (if (f_Things_has T x1) = 0 then ((-1), T) else (if x2 < 0 then ((-1), T) else (if x2 ≤ 3 then (((T 3) x1.toNatClampNeg), (upf T 3 (upd (T 3) (x1 : Int32).toNatClampNeg x2))) else ((-1), T))))
abbrev ws_Things_setPlace : List Cond := .code y_Things_setPlace b_Things_setPlace 4 (some .int) :: lw_G
abbrev rm_Things_setPlace : Room := { frames := 1, cells := 0, slots := 0, locals := 21 }
set_option maxHeartbeats 4000000 in
set_option maxRecDepth 100000 in
theorem c_Things_setPlace (l : Launch) (dC : Nat → ClassId) (dI : Nat → Nat → Nat) (cA : ClassId) (sz : Nat) (a : Nat → Nat) (T : Nat → Nat → Int32) (x1 x2 : Int32) : Met l y_Things_setPlace ws_Things_setPlace rm_Things_setPlace (nc_PreM (dC, dI) cA sz [.ref (a 0), .int x1, .int x2] (w_Things cA a T)) (va_Qi (fun r (_ : Unit) => r = (f_Things_setPlace T x1 x2).1) (fun _ t => va_P (dC, dI) classes (w_Things cA a (f_Things_setPlace T x1 x2).2) t.heap ∧ va_D (va_A (w_Things cA a T) sz) (w_Things cA a (f_Things_setPlace T x1 x2).2)) (va_A (w_Things cA a T) sz)) 0 0 (va_A (w_Things cA a T) sz) := by
  refine Met.ofW (cc := b_Things_setPlace) (maxL := 4) (ret := (some .int)) (by decide) rfl ?_
  intro p e s m args below meth c s₁ B hml hv
  obtain ⟨rfl, hsz, hP, hK, hD0, hN⟩ := hv
  have hx := B.exec
  have hb := B.bytes
  have hr := B.returns
  have hts : ∀ w ∈ lw_G, w.before [.ref (a 0), .int x1, .int x2].toArray s = true := fun w h => atoms_spec (ws := ws_Things_setPlace) B.pre w (List.mem_cons_of_mem _ h)
  have hown : s.vm.findClass R_Things = some m.cls := findClass_of_methodNamed B.named
  have hlocks := B.notSynchronized
  have hfix : CallFix p m c b_Things_setPlace 4 s [.ref (a 0), .int x1, .int x2].toArray lw_G R_Things := ⟨hx, hb, hml, hown, hts⟩
  subst hsz
  have hD := hD0.self (sz := s.heap.size)
  generalize hAe : va_A (w_Things cA a T) s.heap.size = A at hD ⊢
  have hA : ∀ q : Nat, s.heap.size ≤ q → A q := fun q h => by rw [← hAe]; exact Or.inr h
  have hS : va_S A s.heap s.heap [] := va_S.rf
  have hl := lv_entry ([.ref (a 0), .int x1, .int x2]) (n := 4) (Nat.le_of_ble_eq_true rfl)
  rw [lg_entry_eq]
  generalize (lg_sl ([.ref (a 0), .int x1, .int x2]) ++ List.replicate (4 - (lg_sl ([.ref (a 0), .int x1, .int x2])).length) Slot.unset).toArray = ls at hl ⊢
  have hl : lv_has ls 4 [(0, .ref (a 0)), (1, .int x1), (2, .int x2)] := hl
  refine lv_aload_n hx hb d_Things_setPlace_0 rfl (lv_at hl 0 rfl) ?_
  refine lv_iload_n hx hb d_Things_setPlace_1 rfl (lv_at hl 1 rfl) ?_
  refine nc_ro (va_runV (As := [.int x1]) (rest := []) hfix (c_Things_has l dC dI cA a T x1) (k_Things_43 hts hN ⟨Nat.le_of_ble_eq_true rfl, Nat.le_of_ble_eq_true rfl⟩) (nc_preV hK hN hP hD rfl rfl) rfl rfl hl.1 rfl (lv_room (Nat.le_of_ble_eq_true rfl)) d_Things_setPlace_2 ⟨Nat.zero_le _, Nat.zero_le _⟩) (fun r er => ?_)
  obtain ⟨rfl, hz_39⟩ := er
  refine lv_if_eq (tgt := 17) hx hb d_Things_setPlace_5 (by decide) (fun c_40 => ?_) (fun c_40 => ?_)
  · refine lv_iconst (v := (-1)) hx hb d_Things_setPlace_17 (by decide) ?_
    have hF : (f_Things_setPlace T x1 x2) = ((-1), T) := by rw [f_Things_setPlace, if_pos c_40]
    exact W.iret (v := (-1)) hx hb hr (fun t ht hW => ⟨⟨(-1), (), rfl, by rw [hF], by rw [hF, ht]; exact hP, by rw [hF]; exact hD⟩, hS.F ht⟩) hS.2.2 d_Things_setPlace_18
  · refine lv_iload_n hx hb d_Things_setPlace_8 rfl (lv_at hl 2 rfl) ?_
    refine lv_if_lt (tgt := 17) hx hb d_Things_setPlace_9 (by decide) (fun c_41 => ?_) (fun c_41 => ?_)
    · refine lv_iconst (v := (-1)) hx hb d_Things_setPlace_17 (by decide) ?_
      have hF : (f_Things_setPlace T x1 x2) = ((-1), T) := by rw [f_Things_setPlace, if_neg c_40, if_pos c_41]
      exact W.iret (v := (-1)) hx hb hr (fun t ht hW => ⟨⟨(-1), (), rfl, by rw [hF], by rw [hF, ht]; exact hP, by rw [hF]; exact hD⟩, hS.F ht⟩) hS.2.2 d_Things_setPlace_18
    · refine lv_iload_n hx hb d_Things_setPlace_12 rfl (lv_at hl 2 rfl) ?_
      refine lv_iconst (v := 3) hx hb d_Things_setPlace_13 (by decide) ?_
      refine lv_icmp_le (tgt := 19) hx hb d_Things_setPlace_14 (by decide) (fun c_42 => ?_) (fun c_42 => ?_)
      · refine lv_aload_n hx hb d_Things_setPlace_19 rfl (lv_at hl 0 rfl) ?_
        refine va_get (D := (dC, dI)) (ci := 1) (v := .ref (a 4)) (C := R_Things) (T := F_Things) (N := 8) hx hb hts i_Things hown hK hP 0 rfl rfl 3 (by decide) (hts _ m_f_Things_21) (fun _ h9 => h9) rfl d_Things_setPlace_20 ?_
        refine lv_iload_n hx hb d_Things_setPlace_23 rfl (lv_at hl 1 rfl) ?_
        refine va_iald (f := (T 3)) hx hb hK hP 4 0 rfl rfl (by have q0 := nc_nlt c_41 rfl (L_0); have q1 := nc_le c_42 rfl (L_3); have q2 := has_pos c_40; exact vp_in_iff.mpr ⟨by omega, by omega⟩) d_Things_setPlace_24 ?_
        refine lv_istore_n (lv' := [(3, .int ((T 3) x1.toNatClampNeg)), (0, .ref (a 0)), (1, .int x1), (2, .int x2)]) hx hb d_Things_setPlace_25 rfl hl (by decide) rfl (fun ls hl => ?_)
        refine lv_aload_n hx hb d_Things_setPlace_26 rfl (lv_at hl 1 rfl) ?_
        refine va_get (D := (dC, dI)) (ci := 1) (v := .ref (a 4)) (C := R_Things) (T := F_Things) (N := 8) hx hb hts i_Things hown hK hP 0 rfl rfl 3 (by decide) (hts _ m_f_Things_21) (fun _ h9 => h9) rfl d_Things_setPlace_27 ?_
        refine lv_iload_n hx hb d_Things_setPlace_30 rfl (lv_at hl 2 rfl) ?_
        refine lv_iload_n hx hb d_Things_setPlace_31 rfl (lv_at hl 3 rfl) ?_
        refine va_iast (f := (T 3)) hx hb hK hP hD hS 4 0 rfl rfl (by have q0 := nc_nlt c_41 rfl (L_0); have q1 := nc_le c_42 rfl (L_3); have q2 := has_pos c_40; exact vp_in_iff.mpr ⟨by omega, by omega⟩) d_Things_setPlace_32 (fun H locs hP hD hS => ?_)
        have hP : va_P (dC, dI) classes (w_Things cA a (upf T 3 (upd (T 3) (x1 : Int32).toNatClampNeg x2))) H := hP
        have hD : va_D A (w_Things cA a (upf T 3 (upd (T 3) (x1 : Int32).toNatClampNeg x2))) := hD
        refine lv_iload_n hx hb d_Things_setPlace_33 rfl (lv_at hl 0 rfl) ?_
        have hF : (f_Things_setPlace T x1 x2) = (((T 3) x1.toNatClampNeg), (upf T 3 (upd (T 3) (x1 : Int32).toNatClampNeg x2))) := by rw [f_Things_setPlace, if_neg c_40, if_neg c_41, if_pos c_42]
        exact W.iret (v := ((T 3) x1.toNatClampNeg)) hx hb hr (fun t ht hW => ⟨⟨((T 3) x1.toNatClampNeg), (), rfl, by rw [hF], by rw [hF, ht]; exact hP, by rw [hF]; exact hD⟩, hS.F ht⟩) hS.2.2 d_Things_setPlace_34
      · refine lv_iconst (v := (-1)) hx hb d_Things_setPlace_17 (by decide) ?_
        have hF : (f_Things_setPlace T x1 x2) = ((-1), T) := by rw [f_Things_setPlace, if_neg c_40, if_neg c_41, if_neg c_42]
        exact W.iret (v := (-1)) hx hb hr (fun t ht hW => ⟨⟨(-1), (), rfl, by rw [hF], by rw [hF, ht]; exact hP, by rw [hF]; exact hD⟩, hS.F ht⟩) hS.2.2 d_Things_setPlace_18
def f_Things_setMark (T : Nat → Nat → Int32) (x1 x2 x3 : Int32) : Int32 × (Nat → Nat → Int32) := (if (f_Things_has T x1) = 0 then ((-1), T) else (if (f_Things_isRule x2) = 0 then ((-1), T) else (if x3 < (-9) then ((-1), T) else (if x3 ≤ 9 then ((((T 4) (((x1 * 4) + x2)).toNatClampNeg) + 9), (upf T 4 (upd (T 4) (((x1 * 4) + x2) : Int32).toNatClampNeg x3))) else ((-1), T)))))
abbrev ws_Things_setMark : List Cond := .code y_Things_setMark b_Things_setMark 6 (some .int) :: lw_G
abbrev rm_Things_setMark : Room := { frames := 1, cells := 0, slots := 0, locals := 21 }
set_option maxHeartbeats 4000000 in
set_option maxRecDepth 100000 in
theorem c_Things_setMark (l : Launch) (dC : Nat → ClassId) (dI : Nat → Nat → Nat) (cA : ClassId) (sz : Nat) (a : Nat → Nat) (T : Nat → Nat → Int32) (x1 x2 x3 : Int32) : Met l y_Things_setMark ws_Things_setMark rm_Things_setMark (nc_PreM (dC, dI) cA sz [.ref (a 0), .int x1, .int x2, .int x3] (w_Things cA a T)) (va_Qi (fun r (_ : Unit) => r = (f_Things_setMark T x1 x2 x3).1) (fun _ t => va_P (dC, dI) classes (w_Things cA a (f_Things_setMark T x1 x2 x3).2) t.heap ∧ va_D (va_A (w_Things cA a T) sz) (w_Things cA a (f_Things_setMark T x1 x2 x3).2)) (va_A (w_Things cA a T) sz)) 0 0 (va_A (w_Things cA a T) sz) := by
  refine Met.ofW (cc := b_Things_setMark) (maxL := 6) (ret := (some .int)) (by decide) rfl ?_
  intro p e s m args below meth c s₁ B hml hv
  obtain ⟨rfl, hsz, hP, hK, hD0, hN⟩ := hv
  have hx := B.exec
  have hb := B.bytes
  have hr := B.returns
  have hts : ∀ w ∈ lw_G, w.before [.ref (a 0), .int x1, .int x2, .int x3].toArray s = true := fun w h => atoms_spec (ws := ws_Things_setMark) B.pre w (List.mem_cons_of_mem _ h)
  have hown : s.vm.findClass R_Things = some m.cls := findClass_of_methodNamed B.named
  have hlocks := B.notSynchronized
  have hfix : CallFix p m c b_Things_setMark 6 s [.ref (a 0), .int x1, .int x2, .int x3].toArray lw_G R_Things := ⟨hx, hb, hml, hown, hts⟩
  subst hsz
  have hD := hD0.self (sz := s.heap.size)
  generalize hAe : va_A (w_Things cA a T) s.heap.size = A at hD ⊢
  have hA : ∀ q : Nat, s.heap.size ≤ q → A q := fun q h => by rw [← hAe]; exact Or.inr h
  have hS : va_S A s.heap s.heap [] := va_S.rf
  have hl := lv_entry ([.ref (a 0), .int x1, .int x2, .int x3]) (n := 6) (Nat.le_of_ble_eq_true rfl)
  rw [lg_entry_eq]
  generalize (lg_sl ([.ref (a 0), .int x1, .int x2, .int x3]) ++ List.replicate (6 - (lg_sl ([.ref (a 0), .int x1, .int x2, .int x3])).length) Slot.unset).toArray = ls at hl ⊢
  have hl : lv_has ls 6 [(0, .ref (a 0)), (1, .int x1), (2, .int x2), (3, .int x3)] := hl
  refine lv_aload_n hx hb d_Things_setMark_0 rfl (lv_at hl 0 rfl) ?_
  refine lv_iload_n hx hb d_Things_setMark_1 rfl (lv_at hl 1 rfl) ?_
  refine nc_ro (va_runV (As := [.int x1]) (rest := []) hfix (c_Things_has l dC dI cA a T x1) (k_Things_43 hts hN ⟨Nat.le_of_ble_eq_true rfl, Nat.le_of_ble_eq_true rfl⟩) (nc_preV hK hN hP hD rfl rfl) rfl rfl hl.1 rfl (lv_room (Nat.le_of_ble_eq_true rfl)) d_Things_setMark_2 ⟨Nat.zero_le _, Nat.zero_le _⟩) (fun r er => ?_)
  obtain ⟨rfl, hz_43⟩ := er
  refine lv_if_eq (tgt := 27) hx hb d_Things_setMark_5 (by decide) (fun c_44 => ?_) (fun c_44 => ?_)
  · refine lv_iconst (v := (-1)) hx hb d_Things_setMark_27 (by decide) ?_
    have hF : (f_Things_setMark T x1 x2 x3) = ((-1), T) := by rw [f_Things_setMark, if_pos c_44]
    exact W.iret (v := (-1)) hx hb hr (fun t ht hW => ⟨⟨(-1), (), rfl, by rw [hF], by rw [hF, ht]; exact hP, by rw [hF]; exact hD⟩, hS.F ht⟩) hS.2.2 d_Things_setMark_28
  · refine lv_iload_n hx hb d_Things_setMark_8 rfl (lv_at hl 2 rfl) ?_
    refine nc_ro (va_runS (As := [.int x2]) (rest := []) hfix (c_Things_isRule l dC dI cA x2) (k_Things_53 hts hN ⟨Nat.le_of_ble_eq_true rfl, Nat.le_of_ble_eq_true rfl⟩) (nc_preS0 hK hN) rfl rfl hl.1 rfl (lv_room (Nat.le_of_ble_eq_true rfl)) d_Things_setMark_9 ⟨Nat.zero_le _, Nat.zero_le _⟩) (fun r er => ?_)
    obtain ⟨rfl, hz_45⟩ := er
    refine lv_if_eq (tgt := 27) hx hb d_Things_setMark_12 (by decide) (fun c_46 => ?_) (fun c_46 => ?_)
    · refine lv_iconst (v := (-1)) hx hb d_Things_setMark_27 (by decide) ?_
      have hF : (f_Things_setMark T x1 x2 x3) = ((-1), T) := by rw [f_Things_setMark, if_neg c_44, if_pos c_46]
      exact W.iret (v := (-1)) hx hb hr (fun t ht hW => ⟨⟨(-1), (), rfl, by rw [hF], by rw [hF, ht]; exact hP, by rw [hF]; exact hD⟩, hS.F ht⟩) hS.2.2 d_Things_setMark_28
    · refine lv_iload_n hx hb d_Things_setMark_15 rfl (lv_at hl 3 rfl) ?_
      refine lv_bipush (v := (-9)) hx hb d_Things_setMark_16 (by decide) ?_
      refine lv_icmp_lt (tgt := 27) hx hb d_Things_setMark_18 (by decide) (fun c_47 => ?_) (fun c_47 => ?_)
      · refine lv_iconst (v := (-1)) hx hb d_Things_setMark_27 (by decide) ?_
        have hF : (f_Things_setMark T x1 x2 x3) = ((-1), T) := by rw [f_Things_setMark, if_neg c_44, if_neg c_46, if_pos c_47]
        exact W.iret (v := (-1)) hx hb hr (fun t ht hW => ⟨⟨(-1), (), rfl, by rw [hF], by rw [hF, ht]; exact hP, by rw [hF]; exact hD⟩, hS.F ht⟩) hS.2.2 d_Things_setMark_28
      · refine lv_iload_n hx hb d_Things_setMark_21 rfl (lv_at hl 3 rfl) ?_
        refine lv_bipush (v := 9) hx hb d_Things_setMark_22 (by decide) ?_
        refine lv_icmp_le (tgt := 29) hx hb d_Things_setMark_24 (by decide) (fun c_48 => ?_) (fun c_48 => ?_)
        · refine lv_iload_n hx hb d_Things_setMark_29 rfl (lv_at hl 1 rfl) ?_
          refine lv_iconst (v := 4) hx hb d_Things_setMark_30 (by decide) ?_
          refine lv_imul hx hb d_Things_setMark_31 ?_
          refine lv_iload_n hx hb d_Things_setMark_32 rfl (lv_at hl 2 rfl) ?_
          refine lv_iadd hx hb d_Things_setMark_33 ?_
          refine lv_istore (lv' := [(4, .int ((x1 * 4) + x2)), (0, .ref (a 0)), (1, .int x1), (2, .int x2), (3, .int x3)]) hx hb d_Things_setMark_34 hl (by decide) rfl (fun ls hl => ?_)
          refine lv_aload_n hx hb d_Things_setMark_36 rfl (lv_at hl 1 rfl) ?_
          refine va_get (D := (dC, dI)) (ci := 1) (v := .ref (a 5)) (C := R_Things) (T := F_Things) (N := 8) hx hb hts i_Things hown hK hP 0 rfl rfl 4 (by decide) (hts _ m_f_Things_24) (fun _ h9 => h9) rfl d_Things_setMark_37 ?_
          refine lv_iload hx hb d_Things_setMark_40 (lv_at hl 0 rfl) ?_
          refine va_iald (f := (T 4)) hx hb hK hP 5 0 rfl rfl (by have q0 := nc_nlt c_47 rfl (L_m9); have q1 := nc_le c_48 rfl (L_9); have q2 := has_pos c_44; have q3 := isRule_pos c_46; exact nc_m4 (by omega) (by omega) (by omega) (by omega)) d_Things_setMark_42 ?_
          refine lv_istore (lv' := [(5, .int ((T 4) (((x1 * 4) + x2)).toNatClampNeg)), (4, .int ((x1 * 4) + x2)), (0, .ref (a 0)), (1, .int x1), (2, .int x2), (3, .int x3)]) hx hb d_Things_setMark_43 hl (by decide) rfl (fun ls hl => ?_)
          refine lv_aload_n hx hb d_Things_setMark_45 rfl (lv_at hl 2 rfl) ?_
          refine va_get (D := (dC, dI)) (ci := 1) (v := .ref (a 5)) (C := R_Things) (T := F_Things) (N := 8) hx hb hts i_Things hown hK hP 0 rfl rfl 4 (by decide) (hts _ m_f_Things_24) (fun _ h9 => h9) rfl d_Things_setMark_46 ?_
          refine lv_iload hx hb d_Things_setMark_49 (lv_at hl 1 rfl) ?_
          refine lv_iload_n hx hb d_Things_setMark_51 rfl (lv_at hl 5 rfl) ?_
          refine va_iast (f := (T 4)) hx hb hK hP hD hS 5 0 rfl rfl (by have q0 := nc_nlt c_47 rfl (L_m9); have q1 := nc_le c_48 rfl (L_9); have q2 := has_pos c_44; have q3 := isRule_pos c_46; exact nc_m4 (by omega) (by omega) (by omega) (by omega)) d_Things_setMark_52 (fun H locs hP hD hS => ?_)
          have hP : va_P (dC, dI) classes (w_Things cA a (upf T 4 (upd (T 4) (((x1 * 4) + x2) : Int32).toNatClampNeg x3))) H := hP
          have hD : va_D A (w_Things cA a (upf T 4 (upd (T 4) (((x1 * 4) + x2) : Int32).toNatClampNeg x3))) := hD
          refine lv_iload hx hb d_Things_setMark_53 (lv_at hl 0 rfl) ?_
          refine lv_bipush (v := 9) hx hb d_Things_setMark_55 (by decide) ?_
          refine lv_iadd hx hb d_Things_setMark_57 ?_
          have hF : (f_Things_setMark T x1 x2 x3) = ((((T 4) (((x1 * 4) + x2)).toNatClampNeg) + 9), (upf T 4 (upd (T 4) (((x1 * 4) + x2) : Int32).toNatClampNeg x3))) := by rw [f_Things_setMark, if_neg c_44, if_neg c_46, if_neg c_47, if_pos c_48]
          exact W.iret (v := (((T 4) (((x1 * 4) + x2)).toNatClampNeg) + 9)) hx hb hr (fun t ht hW => ⟨⟨(((T 4) (((x1 * 4) + x2)).toNatClampNeg) + 9), (), rfl, by rw [hF], by rw [hF, ht]; exact hP, by rw [hF]; exact hD⟩, hS.F ht⟩) hS.2.2 d_Things_setMark_58
        · refine lv_iconst (v := (-1)) hx hb d_Things_setMark_27 (by decide) ?_
          have hF : (f_Things_setMark T x1 x2 x3) = ((-1), T) := by rw [f_Things_setMark, if_neg c_44, if_neg c_46, if_neg c_47, if_neg c_48]
          exact W.iret (v := (-1)) hx hb hr (fun t ht hW => ⟨⟨(-1), (), rfl, by rw [hF], by rw [hF, ht]; exact hP, by rw [hF]; exact hD⟩, hS.F ht⟩) hS.2.2 d_Things_setMark_28
def f_Things_setPlural (T : Nat → Nat → Int32) (x1 x2 : Int32) : Int32 × (Nat → Nat → Int32) := (if (f_Things_isKind x1) = 0 then ((-1), T) else (if x2 = (-1) then ((((T 5) x1.toNatClampNeg) + 1), (upf T 5 (upd (T 5) (x1 : Int32).toNatClampNeg x2))) else (if (f_NC_isWord x2) = 0 then ((-1), T) else ((((T 5) x1.toNatClampNeg) + 1), (upf T 5 (upd (T 5) (x1 : Int32).toNatClampNeg x2))))))
abbrev ws_Things_setPlural : List Cond := .code y_Things_setPlural b_Things_setPlural 4 (some .int) :: lw_G
abbrev rm_Things_setPlural : Room := { frames := 1, cells := 0, slots := 0, locals := 20 }
set_option maxHeartbeats 4000000 in
set_option maxRecDepth 100000 in
theorem c_Things_setPlural (l : Launch) (dC : Nat → ClassId) (dI : Nat → Nat → Nat) (cA : ClassId) (sz : Nat) (a : Nat → Nat) (T : Nat → Nat → Int32) (x1 x2 : Int32) : Met l y_Things_setPlural ws_Things_setPlural rm_Things_setPlural (nc_PreM (dC, dI) cA sz [.ref (a 0), .int x1, .int x2] (w_Things cA a T)) (va_Qi (fun r (_ : Unit) => r = (f_Things_setPlural T x1 x2).1) (fun _ t => va_P (dC, dI) classes (w_Things cA a (f_Things_setPlural T x1 x2).2) t.heap ∧ va_D (va_A (w_Things cA a T) sz) (w_Things cA a (f_Things_setPlural T x1 x2).2)) (va_A (w_Things cA a T) sz)) 0 0 (va_A (w_Things cA a T) sz) := by
  refine Met.ofW (cc := b_Things_setPlural) (maxL := 4) (ret := (some .int)) (by decide) rfl ?_
  intro p e s m args below meth c s₁ B hml hv
  obtain ⟨rfl, hsz, hP, hK, hD0, hN⟩ := hv
  have hx := B.exec
  have hb := B.bytes
  have hr := B.returns
  have hts : ∀ w ∈ lw_G, w.before [.ref (a 0), .int x1, .int x2].toArray s = true := fun w h => atoms_spec (ws := ws_Things_setPlural) B.pre w (List.mem_cons_of_mem _ h)
  have hown : s.vm.findClass R_Things = some m.cls := findClass_of_methodNamed B.named
  have hlocks := B.notSynchronized
  have hfix : CallFix p m c b_Things_setPlural 4 s [.ref (a 0), .int x1, .int x2].toArray lw_G R_Things := ⟨hx, hb, hml, hown, hts⟩
  subst hsz
  have hD := hD0.self (sz := s.heap.size)
  generalize hAe : va_A (w_Things cA a T) s.heap.size = A at hD ⊢
  have hA : ∀ q : Nat, s.heap.size ≤ q → A q := fun q h => by rw [← hAe]; exact Or.inr h
  have hS : va_S A s.heap s.heap [] := va_S.rf
  have hl := lv_entry ([.ref (a 0), .int x1, .int x2]) (n := 4) (Nat.le_of_ble_eq_true rfl)
  rw [lg_entry_eq]
  generalize (lg_sl ([.ref (a 0), .int x1, .int x2]) ++ List.replicate (4 - (lg_sl ([.ref (a 0), .int x1, .int x2])).length) Slot.unset).toArray = ls at hl ⊢
  have hl : lv_has ls 4 [(0, .ref (a 0)), (1, .int x1), (2, .int x2)] := hl
  refine lv_iload_n hx hb d_Things_setPlural_0 rfl (lv_at hl 1 rfl) ?_
  refine nc_ro (va_runS (As := [.int x1]) (rest := []) hfix (c_Things_isKind l dC dI cA x1) (k_Things_50 hts hN ⟨Nat.le_of_ble_eq_true rfl, Nat.le_of_ble_eq_true rfl⟩) (nc_preS0 hK hN) rfl rfl hl.1 rfl (lv_room (Nat.le_of_ble_eq_true rfl)) d_Things_setPlural_1 ⟨Nat.zero_le _, Nat.zero_le _⟩) (fun r er => ?_)
  obtain ⟨rfl, hz_49⟩ := er
  refine lv_if_eq (tgt := 19) hx hb d_Things_setPlural_4 (by decide) (fun c_50 => ?_) (fun c_50 => ?_)
  · refine lv_iconst (v := (-1)) hx hb d_Things_setPlural_19 (by decide) ?_
    have hF : (f_Things_setPlural T x1 x2) = ((-1), T) := by rw [f_Things_setPlural, if_pos c_50]
    exact W.iret (v := (-1)) hx hb hr (fun t ht hW => ⟨⟨(-1), (), rfl, by rw [hF], by rw [hF, ht]; exact hP, by rw [hF]; exact hD⟩, hS.F ht⟩) hS.2.2 d_Things_setPlural_20
  · refine lv_iload_n hx hb d_Things_setPlural_7 rfl (lv_at hl 2 rfl) ?_
    refine lv_iconst (v := (-1)) hx hb d_Things_setPlural_8 (by decide) ?_
    refine lv_icmp_eq (tgt := 21) hx hb d_Things_setPlural_9 (by decide) (fun c_51 => ?_) (fun c_51 => ?_)
    · refine lv_aload_n hx hb d_Things_setPlural_21 rfl (lv_at hl 0 rfl) ?_
      refine va_get (D := (dC, dI)) (ci := 1) (v := .ref (a 6)) (C := R_Things) (T := F_Things) (N := 8) hx hb hts i_Things hown hK hP 0 rfl rfl 5 (by decide) (hts _ m_f_Things_27) (fun _ h9 => h9) rfl d_Things_setPlural_22 ?_
      refine lv_iload_n hx hb d_Things_setPlural_25 rfl (lv_at hl 1 rfl) ?_
      refine va_iald (f := (T 5)) hx hb hK hP 6 0 rfl rfl (by have q0 := nc_eq c_51 rfl (L_m1); have q1 := isKind_pos c_50; exact vp_in_iff.mpr ⟨by omega, by omega⟩) d_Things_setPlural_26 ?_
      refine lv_istore_n (lv' := [(3, .int ((T 5) x1.toNatClampNeg)), (0, .ref (a 0)), (1, .int x1), (2, .int x2)]) hx hb d_Things_setPlural_27 rfl hl (by decide) rfl (fun ls hl => ?_)
      refine lv_aload_n hx hb d_Things_setPlural_28 rfl (lv_at hl 1 rfl) ?_
      refine va_get (D := (dC, dI)) (ci := 1) (v := .ref (a 6)) (C := R_Things) (T := F_Things) (N := 8) hx hb hts i_Things hown hK hP 0 rfl rfl 5 (by decide) (hts _ m_f_Things_27) (fun _ h9 => h9) rfl d_Things_setPlural_29 ?_
      refine lv_iload_n hx hb d_Things_setPlural_32 rfl (lv_at hl 2 rfl) ?_
      refine lv_iload_n hx hb d_Things_setPlural_33 rfl (lv_at hl 3 rfl) ?_
      refine va_iast (f := (T 5)) hx hb hK hP hD hS 6 0 rfl rfl (by have q0 := nc_eq c_51 rfl (L_m1); have q1 := isKind_pos c_50; exact vp_in_iff.mpr ⟨by omega, by omega⟩) d_Things_setPlural_34 (fun H locs hP hD hS => ?_)
      have hP : va_P (dC, dI) classes (w_Things cA a (upf T 5 (upd (T 5) (x1 : Int32).toNatClampNeg x2))) H := hP
      have hD : va_D A (w_Things cA a (upf T 5 (upd (T 5) (x1 : Int32).toNatClampNeg x2))) := hD
      refine lv_iload_n hx hb d_Things_setPlural_35 rfl (lv_at hl 0 rfl) ?_
      refine lv_iconst (v := 1) hx hb d_Things_setPlural_36 (by decide) ?_
      refine lv_iadd hx hb d_Things_setPlural_37 ?_
      have hF : (f_Things_setPlural T x1 x2) = ((((T 5) x1.toNatClampNeg) + 1), (upf T 5 (upd (T 5) (x1 : Int32).toNatClampNeg x2))) := by rw [f_Things_setPlural, if_neg c_50, if_pos c_51]
      exact W.iret (v := (((T 5) x1.toNatClampNeg) + 1)) hx hb hr (fun t ht hW => ⟨⟨(((T 5) x1.toNatClampNeg) + 1), (), rfl, by rw [hF], by rw [hF, ht]; exact hP, by rw [hF]; exact hD⟩, hS.F ht⟩) hS.2.2 d_Things_setPlural_38
    · refine lv_iload_n hx hb d_Things_setPlural_12 rfl (lv_at hl 2 rfl) ?_
      refine nc_ro (va_runSN (As := [.int x2]) (rest := []) hfix (c_NC_isWord l dC dI cA x2) (k_Things_47 hts hN ⟨Nat.le_of_ble_eq_true rfl, Nat.le_of_ble_eq_true rfl⟩) (nc_preS0 hK hN) rfl rfl hl.1 rfl (lv_room (Nat.le_of_ble_eq_true rfl)) d_Things_setPlural_13 ⟨Nat.zero_le _, Nat.zero_le _⟩) (fun r er => ?_)
      obtain ⟨rfl, hz_52⟩ := er
      refine lv_if_ne (tgt := 21) hx hb d_Things_setPlural_16 (by decide) (fun c_53 => ?_) (fun c_53 => ?_)
      · refine lv_aload_n hx hb d_Things_setPlural_21 rfl (lv_at hl 0 rfl) ?_
        refine va_get (D := (dC, dI)) (ci := 1) (v := .ref (a 6)) (C := R_Things) (T := F_Things) (N := 8) hx hb hts i_Things hown hK hP 0 rfl rfl 5 (by decide) (hts _ m_f_Things_27) (fun _ h9 => h9) rfl d_Things_setPlural_22 ?_
        refine lv_iload_n hx hb d_Things_setPlural_25 rfl (lv_at hl 1 rfl) ?_
        refine va_iald (f := (T 5)) hx hb hK hP 6 0 rfl rfl (by have q0 := isKind_pos c_50; exact vp_in_iff.mpr ⟨by omega, by omega⟩) d_Things_setPlural_26 ?_
        refine lv_istore_n (lv' := [(3, .int ((T 5) x1.toNatClampNeg)), (0, .ref (a 0)), (1, .int x1), (2, .int x2)]) hx hb d_Things_setPlural_27 rfl hl (by decide) rfl (fun ls hl => ?_)
        refine lv_aload_n hx hb d_Things_setPlural_28 rfl (lv_at hl 1 rfl) ?_
        refine va_get (D := (dC, dI)) (ci := 1) (v := .ref (a 6)) (C := R_Things) (T := F_Things) (N := 8) hx hb hts i_Things hown hK hP 0 rfl rfl 5 (by decide) (hts _ m_f_Things_27) (fun _ h9 => h9) rfl d_Things_setPlural_29 ?_
        refine lv_iload_n hx hb d_Things_setPlural_32 rfl (lv_at hl 2 rfl) ?_
        refine lv_iload_n hx hb d_Things_setPlural_33 rfl (lv_at hl 3 rfl) ?_
        refine va_iast (f := (T 5)) hx hb hK hP hD hS 6 0 rfl rfl (by have q0 := isKind_pos c_50; exact vp_in_iff.mpr ⟨by omega, by omega⟩) d_Things_setPlural_34 (fun H locs hP hD hS => ?_)
        have hP : va_P (dC, dI) classes (w_Things cA a (upf T 5 (upd (T 5) (x1 : Int32).toNatClampNeg x2))) H := hP
        have hD : va_D A (w_Things cA a (upf T 5 (upd (T 5) (x1 : Int32).toNatClampNeg x2))) := hD
        refine lv_iload_n hx hb d_Things_setPlural_35 rfl (lv_at hl 0 rfl) ?_
        refine lv_iconst (v := 1) hx hb d_Things_setPlural_36 (by decide) ?_
        refine lv_iadd hx hb d_Things_setPlural_37 ?_
        have hF : (f_Things_setPlural T x1 x2) = ((((T 5) x1.toNatClampNeg) + 1), (upf T 5 (upd (T 5) (x1 : Int32).toNatClampNeg x2))) := by rw [f_Things_setPlural, if_neg c_50, if_neg c_51, if_neg c_53]
        exact W.iret (v := (((T 5) x1.toNatClampNeg) + 1)) hx hb hr (fun t ht hW => ⟨⟨(((T 5) x1.toNatClampNeg) + 1), (), rfl, by rw [hF], by rw [hF, ht]; exact hP, by rw [hF]; exact hD⟩, hS.F ht⟩) hS.2.2 d_Things_setPlural_38
      · refine lv_iconst (v := (-1)) hx hb d_Things_setPlural_19 (by decide) ?_
        have hF : (f_Things_setPlural T x1 x2) = ((-1), T) := by rw [f_Things_setPlural, if_neg c_50, if_neg c_51, if_pos c_53]
        exact W.iret (v := (-1)) hx hb hr (fun t ht hW => ⟨⟨(-1), (), rfl, by rw [hF], by rw [hF, ht]; exact hP, by rw [hF]; exact hD⟩, hS.F ht⟩) hS.2.2 d_Things_setPlural_20
def f_Things_setWeight (T : Nat → Nat → Int32) (x1 x2 : Int32) : Int32 × (Nat → Nat → Int32) := (if (f_Things_isRule x1) = 0 then ((-1), T) else (if x2 < 0 then ((-1), T) else (if x2 ≤ 9 then (((T 6) x1.toNatClampNeg), (upf T 6 (upd (T 6) (x1 : Int32).toNatClampNeg x2))) else ((-1), T))))
abbrev ws_Things_setWeight : List Cond := .code y_Things_setWeight b_Things_setWeight 4 (some .int) :: lw_G
abbrev rm_Things_setWeight : Room := { frames := 1, cells := 0, slots := 0, locals := 20 }
set_option maxHeartbeats 4000000 in
set_option maxRecDepth 100000 in
theorem c_Things_setWeight (l : Launch) (dC : Nat → ClassId) (dI : Nat → Nat → Nat) (cA : ClassId) (sz : Nat) (a : Nat → Nat) (T : Nat → Nat → Int32) (x1 x2 : Int32) : Met l y_Things_setWeight ws_Things_setWeight rm_Things_setWeight (nc_PreM (dC, dI) cA sz [.ref (a 0), .int x1, .int x2] (w_Things cA a T)) (va_Qi (fun r (_ : Unit) => r = (f_Things_setWeight T x1 x2).1) (fun _ t => va_P (dC, dI) classes (w_Things cA a (f_Things_setWeight T x1 x2).2) t.heap ∧ va_D (va_A (w_Things cA a T) sz) (w_Things cA a (f_Things_setWeight T x1 x2).2)) (va_A (w_Things cA a T) sz)) 0 0 (va_A (w_Things cA a T) sz) := by
  refine Met.ofW (cc := b_Things_setWeight) (maxL := 4) (ret := (some .int)) (by decide) rfl ?_
  intro p e s m args below meth c s₁ B hml hv
  obtain ⟨rfl, hsz, hP, hK, hD0, hN⟩ := hv
  have hx := B.exec
  have hb := B.bytes
  have hr := B.returns
  have hts : ∀ w ∈ lw_G, w.before [.ref (a 0), .int x1, .int x2].toArray s = true := fun w h => atoms_spec (ws := ws_Things_setWeight) B.pre w (List.mem_cons_of_mem _ h)
  have hown : s.vm.findClass R_Things = some m.cls := findClass_of_methodNamed B.named
  have hlocks := B.notSynchronized
  have hfix : CallFix p m c b_Things_setWeight 4 s [.ref (a 0), .int x1, .int x2].toArray lw_G R_Things := ⟨hx, hb, hml, hown, hts⟩
  subst hsz
  have hD := hD0.self (sz := s.heap.size)
  generalize hAe : va_A (w_Things cA a T) s.heap.size = A at hD ⊢
  have hA : ∀ q : Nat, s.heap.size ≤ q → A q := fun q h => by rw [← hAe]; exact Or.inr h
  have hS : va_S A s.heap s.heap [] := va_S.rf
  have hl := lv_entry ([.ref (a 0), .int x1, .int x2]) (n := 4) (Nat.le_of_ble_eq_true rfl)
  rw [lg_entry_eq]
  generalize (lg_sl ([.ref (a 0), .int x1, .int x2]) ++ List.replicate (4 - (lg_sl ([.ref (a 0), .int x1, .int x2])).length) Slot.unset).toArray = ls at hl ⊢
  have hl : lv_has ls 4 [(0, .ref (a 0)), (1, .int x1), (2, .int x2)] := hl
  refine lv_iload_n hx hb d_Things_setWeight_0 rfl (lv_at hl 1 rfl) ?_
  refine nc_ro (va_runS (As := [.int x1]) (rest := []) hfix (c_Things_isRule l dC dI cA x1) (k_Things_53 hts hN ⟨Nat.le_of_ble_eq_true rfl, Nat.le_of_ble_eq_true rfl⟩) (nc_preS0 hK hN) rfl rfl hl.1 rfl (lv_room (Nat.le_of_ble_eq_true rfl)) d_Things_setWeight_1 ⟨Nat.zero_le _, Nat.zero_le _⟩) (fun r er => ?_)
  obtain ⟨rfl, hz_54⟩ := er
  refine lv_if_eq (tgt := 17) hx hb d_Things_setWeight_4 (by decide) (fun c_55 => ?_) (fun c_55 => ?_)
  · refine lv_iconst (v := (-1)) hx hb d_Things_setWeight_17 (by decide) ?_
    have hF : (f_Things_setWeight T x1 x2) = ((-1), T) := by rw [f_Things_setWeight, if_pos c_55]
    exact W.iret (v := (-1)) hx hb hr (fun t ht hW => ⟨⟨(-1), (), rfl, by rw [hF], by rw [hF, ht]; exact hP, by rw [hF]; exact hD⟩, hS.F ht⟩) hS.2.2 d_Things_setWeight_18
  · refine lv_iload_n hx hb d_Things_setWeight_7 rfl (lv_at hl 2 rfl) ?_
    refine lv_if_lt (tgt := 17) hx hb d_Things_setWeight_8 (by decide) (fun c_56 => ?_) (fun c_56 => ?_)
    · refine lv_iconst (v := (-1)) hx hb d_Things_setWeight_17 (by decide) ?_
      have hF : (f_Things_setWeight T x1 x2) = ((-1), T) := by rw [f_Things_setWeight, if_neg c_55, if_pos c_56]
      exact W.iret (v := (-1)) hx hb hr (fun t ht hW => ⟨⟨(-1), (), rfl, by rw [hF], by rw [hF, ht]; exact hP, by rw [hF]; exact hD⟩, hS.F ht⟩) hS.2.2 d_Things_setWeight_18
    · refine lv_iload_n hx hb d_Things_setWeight_11 rfl (lv_at hl 2 rfl) ?_
      refine lv_bipush (v := 9) hx hb d_Things_setWeight_12 (by decide) ?_
      refine lv_icmp_le (tgt := 19) hx hb d_Things_setWeight_14 (by decide) (fun c_57 => ?_) (fun c_57 => ?_)
      · refine lv_aload_n hx hb d_Things_setWeight_19 rfl (lv_at hl 0 rfl) ?_
        refine va_get (D := (dC, dI)) (ci := 1) (v := .ref (a 7)) (C := R_Things) (T := F_Things) (N := 8) hx hb hts i_Things hown hK hP 0 rfl rfl 6 (by decide) (hts _ m_f_Things_30) (fun _ h9 => h9) rfl d_Things_setWeight_20 ?_
        refine lv_iload_n hx hb d_Things_setWeight_23 rfl (lv_at hl 1 rfl) ?_
        refine va_iald (f := (T 6)) hx hb hK hP 7 0 rfl rfl (by have q0 := nc_nlt c_56 rfl (L_0); have q1 := nc_le c_57 rfl (L_9); have q2 := isRule_pos c_55; exact vp_in_iff.mpr ⟨by omega, by omega⟩) d_Things_setWeight_24 ?_
        refine lv_istore_n (lv' := [(3, .int ((T 6) x1.toNatClampNeg)), (0, .ref (a 0)), (1, .int x1), (2, .int x2)]) hx hb d_Things_setWeight_25 rfl hl (by decide) rfl (fun ls hl => ?_)
        refine lv_aload_n hx hb d_Things_setWeight_26 rfl (lv_at hl 1 rfl) ?_
        refine va_get (D := (dC, dI)) (ci := 1) (v := .ref (a 7)) (C := R_Things) (T := F_Things) (N := 8) hx hb hts i_Things hown hK hP 0 rfl rfl 6 (by decide) (hts _ m_f_Things_30) (fun _ h9 => h9) rfl d_Things_setWeight_27 ?_
        refine lv_iload_n hx hb d_Things_setWeight_30 rfl (lv_at hl 2 rfl) ?_
        refine lv_iload_n hx hb d_Things_setWeight_31 rfl (lv_at hl 3 rfl) ?_
        refine va_iast (f := (T 6)) hx hb hK hP hD hS 7 0 rfl rfl (by have q0 := nc_nlt c_56 rfl (L_0); have q1 := nc_le c_57 rfl (L_9); have q2 := isRule_pos c_55; exact vp_in_iff.mpr ⟨by omega, by omega⟩) d_Things_setWeight_32 (fun H locs hP hD hS => ?_)
        have hP : va_P (dC, dI) classes (w_Things cA a (upf T 6 (upd (T 6) (x1 : Int32).toNatClampNeg x2))) H := hP
        have hD : va_D A (w_Things cA a (upf T 6 (upd (T 6) (x1 : Int32).toNatClampNeg x2))) := hD
        refine lv_iload_n hx hb d_Things_setWeight_33 rfl (lv_at hl 0 rfl) ?_
        have hF : (f_Things_setWeight T x1 x2) = (((T 6) x1.toNatClampNeg), (upf T 6 (upd (T 6) (x1 : Int32).toNatClampNeg x2))) := by rw [f_Things_setWeight, if_neg c_55, if_neg c_56, if_pos c_57]
        exact W.iret (v := ((T 6) x1.toNatClampNeg)) hx hb hr (fun t ht hW => ⟨⟨((T 6) x1.toNatClampNeg), (), rfl, by rw [hF], by rw [hF, ht]; exact hP, by rw [hF]; exact hD⟩, hS.F ht⟩) hS.2.2 d_Things_setWeight_34
      · refine lv_iconst (v := (-1)) hx hb d_Things_setWeight_17 (by decide) ?_
        have hF : (f_Things_setWeight T x1 x2) = ((-1), T) := by rw [f_Things_setWeight, if_neg c_55, if_neg c_56, if_neg c_57]
        exact W.iret (v := (-1)) hx hb hr (fun t ht hW => ⟨⟨(-1), (), rfl, by rw [hF], by rw [hF, ht]; exact hP, by rw [hF]; exact hD⟩, hS.F ht⟩) hS.2.2 d_Things_setWeight_18
def f_Things_scoreOf_L14 (T : Nat → Nat → Int32) (x1 : Int32) : Nat → Int32 → Int32 → Int32
  | 0, z3, z2 => 0
  | n + 1, z3, z2 => (if 4 ≤ z3 then z2 else (f_Things_scoreOf_L14 T x1 n (z3 + 1) (z2 + (((T 6) z3.toNatClampNeg) * ((T 4) (((x1 * 4) + z3)).toNatClampNeg)))))
def f_Things_scoreOf (T : Nat → Nat → Int32) (x1 : Int32) : Int32 := (if (f_Things_has T x1) = 0 then 0 else (f_Things_scoreOf_L14 T x1 (nc_mu 4 0 + 1) 0 0))
abbrev ws_Things_scoreOf : List Cond := .code y_Things_scoreOf b_Things_scoreOf 4 (some .int) :: lw_G
abbrev rm_Things_scoreOf : Room := { frames := 1, cells := 0, slots := 0, locals := 21 }
set_option maxHeartbeats 4000000 in
set_option maxRecDepth 100000 in
theorem c_Things_scoreOf (l : Launch) (dC : Nat → ClassId) (dI : Nat → Nat → Nat) (cA : ClassId) (a : Nat → Nat) (T : Nat → Nat → Int32) (x1 : Int32) : Met l y_Things_scoreOf ws_Things_scoreOf rm_Things_scoreOf (nc_Pre (dC, dI) cA [.ref (a 0), .int x1] (w_Things cA a T)) (vp_Si (fun r => r = (f_Things_scoreOf T x1))) 0 0 (fun _ => False) := by
  refine Met.ofW (cc := b_Things_scoreOf) (maxL := 4) (ret := (some .int)) (by decide) rfl ?_
  intro p e s m args below meth c s₁ B hml hv
  obtain ⟨rfl, hP, hK, hD, hN⟩ := hv
  have hx := B.exec
  have hb := B.bytes
  have hr := B.returns
  have hts : ∀ w ∈ lw_G, w.before [.ref (a 0), .int x1].toArray s = true := fun w h => atoms_spec (ws := ws_Things_scoreOf) B.pre w (List.mem_cons_of_mem _ h)
  have hown : s.vm.findClass R_Things = some m.cls := findClass_of_methodNamed B.named
  have hlocks := B.notSynchronized
  have hfix : CallFix p m c b_Things_scoreOf 4 s [.ref (a 0), .int x1].toArray lw_G R_Things := ⟨hx, hb, hml, hown, hts⟩
  have hl := lv_entry ([.ref (a 0), .int x1]) (n := 4) (Nat.le_of_ble_eq_true rfl)
  rw [lg_entry_eq]
  generalize (lg_sl ([.ref (a 0), .int x1]) ++ List.replicate (4 - (lg_sl ([.ref (a 0), .int x1])).length) Slot.unset).toArray = ls at hl ⊢
  have hl : lv_has ls 4 [(0, .ref (a 0)), (1, .int x1)] := hl
  refine lv_aload_n hx hb d_Things_scoreOf_0 rfl (lv_at hl 0 rfl) ?_
  refine lv_iload_n hx hb d_Things_scoreOf_1 rfl (lv_at hl 1 rfl) ?_
  refine nc_ro (va_runV (As := [.int x1]) (rest := []) hfix (c_Things_has l dC dI cA a T x1) (k_Things_43 hts hN ⟨Nat.le_of_ble_eq_true rfl, Nat.le_of_ble_eq_true rfl⟩) (nc_preV hK hN hP hD rfl rfl) rfl rfl hl.1 rfl (lv_room (Nat.le_of_ble_eq_true rfl)) d_Things_scoreOf_2 ⟨Nat.zero_le _, Nat.zero_le _⟩) (fun r er => ?_)
  obtain ⟨rfl, hz_58⟩ := er
  refine lv_if_ne (tgt := 10) hx hb d_Things_scoreOf_5 (by decide) (fun c_59 => ?_) (fun c_59 => ?_)
  · refine lv_iconst (v := 0) hx hb d_Things_scoreOf_10 (by decide) ?_
    refine lv_istore_n (lv' := [(2, .int 0), (0, .ref (a 0)), (1, .int x1)]) hx hb d_Things_scoreOf_11 rfl hl (by decide) rfl (fun ls hl => ?_)
    refine lv_iconst (v := 0) hx hb d_Things_scoreOf_12 (by decide) ?_
    refine lv_istore_n (lv' := [(3, .int 0), (2, .int 0), (0, .ref (a 0)), (1, .int x1)]) hx hb d_Things_scoreOf_13 rfl hl (by decide) rfl (fun ls hl => ?_)
    have loop_14 : ∀ (n : Nat) (z3 z2 : Int32) (ls : Array Slot), (f_Things_scoreOf T x1) = (f_Things_scoreOf_L14 T x1 n z3 z2) → nc_mu 4 z3 < n → 0 ≤ z3.toInt → lv_has ls 4 [(0, .ref (a 0)), (1, .int x1), (3, .int z3), (2, .int z2)] → W p l e (headSpec ws_Things_scoreOf rm_Things_scoreOf).room s m [.ref (a 0), .int x1].toArray below meth c s.heap [] 0 0 (MQ below (vp_Si (fun r => r = (f_Things_scoreOf T x1))) [.ref (a 0), .int x1].toArray s 0 0 (fun _ => False)) (F0 m 14 ls []) := by
      intro n
      induction n with
      | zero =>
        intro z3 z2 ls hE hm h0 hl
        exact absurd hm (Nat.not_lt_zero _)
      | succ n ih =>
        intro z3 z2 ls hE hm h0 hl
        refine lv_iload_n hx hb d_Things_scoreOf_14 rfl (lv_at hl 2 rfl) ?_
        refine lv_iconst (v := 4) hx hb d_Things_scoreOf_15 (by decide) ?_
        refine lv_icmp_ge (tgt := 45) hx hb d_Things_scoreOf_16 (by decide) (fun c_60 => ?_) (fun c_60 => ?_)
        · refine lv_iload_n hx hb d_Things_scoreOf_45 rfl (lv_at hl 3 rfl) ?_
          exact W.iret (v := z2) hx hb hr (fun t ht hW => ⟨z2, rfl, by rw [hE, f_Things_scoreOf_L14, if_pos c_60], ht⟩) (fun _ h => nomatch h) d_Things_scoreOf_46
        · refine lv_iload_n hx hb d_Things_scoreOf_19 rfl (lv_at hl 3 rfl) ?_
          refine lv_aload_n hx hb d_Things_scoreOf_20 rfl (lv_at hl 0 rfl) ?_
          refine va_get (D := (dC, dI)) (ci := 1) (v := .ref (a 7)) (C := R_Things) (T := F_Things) (N := 8) hx hb hts i_Things hown hK hP 0 rfl rfl 6 (by decide) (hts _ m_f_Things_30) (fun _ h9 => h9) rfl d_Things_scoreOf_21 ?_
          refine lv_iload_n hx hb d_Things_scoreOf_24 rfl (lv_at hl 2 rfl) ?_
          refine va_iald (f := (T 6)) hx hb hK hP 7 0 rfl rfl (by have q0 := nc_nle c_60 (L_4) rfl; have q1 := has_pos c_59; have q2 := h0; exact vp_in_iff.mpr ⟨by omega, by omega⟩) d_Things_scoreOf_25 ?_
          refine lv_aload_n hx hb d_Things_scoreOf_26 rfl (lv_at hl 0 rfl) ?_
          refine va_get (D := (dC, dI)) (ci := 1) (v := .ref (a 5)) (C := R_Things) (T := F_Things) (N := 8) hx hb hts i_Things hown hK hP 0 rfl rfl 4 (by decide) (hts _ m_f_Things_24) (fun _ h9 => h9) rfl d_Things_scoreOf_27 ?_
          refine lv_iload_n hx hb d_Things_scoreOf_30 rfl (lv_at hl 1 rfl) ?_
          refine lv_iconst (v := 4) hx hb d_Things_scoreOf_31 (by decide) ?_
          refine lv_imul hx hb d_Things_scoreOf_32 ?_
          refine lv_iload_n hx hb d_Things_scoreOf_33 rfl (lv_at hl 2 rfl) ?_
          refine lv_iadd hx hb d_Things_scoreOf_34 ?_
          refine va_iald (f := (T 4)) hx hb hK hP 5 0 rfl rfl (by have q0 := nc_nle c_60 (L_4) rfl; have q1 := has_pos c_59; have q2 := h0; exact nc_m4 (by omega) (by omega) (by omega) (by omega)) d_Things_scoreOf_35 ?_
          refine lv_imul hx hb d_Things_scoreOf_36 ?_
          refine lv_iadd hx hb d_Things_scoreOf_37 ?_
          refine lv_istore_n (lv' := [(2, .int (z2 + (((T 6) z3.toNatClampNeg) * ((T 4) (((x1 * 4) + z3)).toNatClampNeg)))), (0, .ref (a 0)), (1, .int x1), (3, .int z3)]) hx hb d_Things_scoreOf_38 rfl hl (by decide) rfl (fun ls hl => ?_)
          refine lv_iinc (v := (z3 + 1)) (lv' := [(3, .int (z3 + 1)), (2, .int (z2 + (((T 6) z3.toNatClampNeg) * ((T 4) (((x1 * 4) + z3)).toNatClampNeg)))), (0, .ref (a 0)), (1, .int x1)]) hx hb d_Things_scoreOf_39 hl (k := 3) rfl rfl (by decide) rfl (fun ls hl => ?_)
          refine lv_goto (tgt := 14) hx hb d_Things_scoreOf_42 (by decide) ?_
          exact ih (z3 + 1) (z2 + (((T 6) z3.toNatClampNeg) * ((T 4) (((x1 * 4) + z3)).toNatClampNeg))) ls (by rw [hE, f_Things_scoreOf_L14, if_neg c_60]) (nc_mu_step c_60 hm) (nc_i_step c_60 h0) (lv_sub hl [2, 3, 0, 1] rfl)
    exact loop_14 (nc_mu 4 0 + 1) 0 0 ls (by rw [f_Things_scoreOf, if_neg c_59]) (Nat.lt_succ_self _) (by decide) (lv_sub hl [2, 3, 0, 1] rfl)
  · refine lv_iconst (v := 0) hx hb d_Things_scoreOf_8 (by decide) ?_
    exact W.iret (v := 0) hx hb hr (fun t ht hW => ⟨0, rfl, by rw [f_Things_scoreOf, if_pos c_59], ht⟩) (fun _ h => nomatch h) d_Things_scoreOf_9
def f_Things_areAlike_L30 (T : Nat → Nat → Int32) (x1 x2 : Int32) : Nat → Int32 → Int32
  | 0, z3 => 0
  | n + 1, z3 => (if 4 ≤ z3 then (if ((T 2) x1.toNatClampNeg) = ((T 2) x2.toNatClampNeg) then (if ((T 0) x1.toNatClampNeg) = ((T 0) x2.toNatClampNeg) then (if ((T 1) x1.toNatClampNeg) = ((T 1) x2.toNatClampNeg) then (if ((T 3) x1.toNatClampNeg) = ((T 3) x2.toNatClampNeg) then 1 else 0) else 0) else 0) else 0) else (if ((T 4) (((x1 * 4) + z3)).toNatClampNeg) = ((T 4) (((x2 * 4) + z3)).toNatClampNeg) then (f_Things_areAlike_L30 T x1 x2 n (z3 + 1)) else 0))
def f_Things_areAlike (T : Nat → Nat → Int32) (x1 x2 : Int32) : Int32 := (if (f_Things_has T x1) = 0 then 0 else (if (f_Things_has T x2) = 0 then 0 else (if ((T 2) x1.toNatClampNeg) = (-1) then 0 else (f_Things_areAlike_L30 T x1 x2 (nc_mu 4 0 + 1) 0))))
abbrev ws_Things_areAlike : List Cond := .code y_Things_areAlike b_Things_areAlike 4 (some .boolean) :: lw_G
abbrev rm_Things_areAlike : Room := { frames := 1, cells := 0, slots := 0, locals := 21 }
set_option maxHeartbeats 4000000 in
set_option maxRecDepth 100000 in
theorem c_Things_areAlike (l : Launch) (dC : Nat → ClassId) (dI : Nat → Nat → Nat) (cA : ClassId) (a : Nat → Nat) (T : Nat → Nat → Int32) (x1 x2 : Int32) : Met l y_Things_areAlike ws_Things_areAlike rm_Things_areAlike (nc_Pre (dC, dI) cA [.ref (a 0), .int x1, .int x2] (w_Things cA a T)) (vp_Si (fun r => (r = (f_Things_areAlike T x1 x2) ∧ narrow .boolean (.int r) = .int r))) 0 0 (fun _ => False) := by
  refine Met.ofW (cc := b_Things_areAlike) (maxL := 4) (ret := (some .boolean)) (by decide) rfl ?_
  intro p e s m args below meth c s₁ B hml hv
  obtain ⟨rfl, hP, hK, hD, hN⟩ := hv
  have hx := B.exec
  have hb := B.bytes
  have hr := B.returns
  have hts : ∀ w ∈ lw_G, w.before [.ref (a 0), .int x1, .int x2].toArray s = true := fun w h => atoms_spec (ws := ws_Things_areAlike) B.pre w (List.mem_cons_of_mem _ h)
  have hown : s.vm.findClass R_Things = some m.cls := findClass_of_methodNamed B.named
  have hlocks := B.notSynchronized
  have hfix : CallFix p m c b_Things_areAlike 4 s [.ref (a 0), .int x1, .int x2].toArray lw_G R_Things := ⟨hx, hb, hml, hown, hts⟩
  have hl := lv_entry ([.ref (a 0), .int x1, .int x2]) (n := 4) (Nat.le_of_ble_eq_true rfl)
  rw [lg_entry_eq]
  generalize (lg_sl ([.ref (a 0), .int x1, .int x2]) ++ List.replicate (4 - (lg_sl ([.ref (a 0), .int x1, .int x2])).length) Slot.unset).toArray = ls at hl ⊢
  have hl : lv_has ls 4 [(0, .ref (a 0)), (1, .int x1), (2, .int x2)] := hl
  refine lv_aload_n hx hb d_Things_areAlike_0 rfl (lv_at hl 0 rfl) ?_
  refine lv_iload_n hx hb d_Things_areAlike_1 rfl (lv_at hl 1 rfl) ?_
  refine nc_ro (va_runV (As := [.int x1]) (rest := []) hfix (c_Things_has l dC dI cA a T x1) (k_Things_43 hts hN ⟨Nat.le_of_ble_eq_true rfl, Nat.le_of_ble_eq_true rfl⟩) (nc_preV hK hN hP hD rfl rfl) rfl rfl hl.1 rfl (lv_room (Nat.le_of_ble_eq_true rfl)) d_Things_areAlike_2 ⟨Nat.zero_le _, Nat.zero_le _⟩) (fun r er => ?_)
  obtain ⟨rfl, hz_61⟩ := er
  refine lv_if_eq (tgt := 26) hx hb d_Things_areAlike_5 (by decide) (fun c_62 => ?_) (fun c_62 => ?_)
  · refine lv_iconst (v := 0) hx hb d_Things_areAlike_26 (by decide) ?_
    exact W.zret (v := 0) hx hb hr rfl (fun t ht hW => ⟨0, rfl, ⟨by rw [f_Things_areAlike, if_pos c_62], rfl⟩, ht⟩) (fun _ h => nomatch h) d_Things_areAlike_27
  · refine lv_aload_n hx hb d_Things_areAlike_8 rfl (lv_at hl 0 rfl) ?_
    refine lv_iload_n hx hb d_Things_areAlike_9 rfl (lv_at hl 2 rfl) ?_
    refine nc_ro (va_runV (As := [.int x2]) (rest := []) hfix (c_Things_has l dC dI cA a T x2) (k_Things_43 hts hN ⟨Nat.le_of_ble_eq_true rfl, Nat.le_of_ble_eq_true rfl⟩) (nc_preV hK hN hP hD rfl rfl) rfl rfl hl.1 rfl (lv_room (Nat.le_of_ble_eq_true rfl)) d_Things_areAlike_10 ⟨Nat.zero_le _, Nat.zero_le _⟩) (fun r er => ?_)
    obtain ⟨rfl, hz_63⟩ := er
    refine lv_if_eq (tgt := 26) hx hb d_Things_areAlike_13 (by decide) (fun c_64 => ?_) (fun c_64 => ?_)
    · refine lv_iconst (v := 0) hx hb d_Things_areAlike_26 (by decide) ?_
      exact W.zret (v := 0) hx hb hr rfl (fun t ht hW => ⟨0, rfl, ⟨by rw [f_Things_areAlike, if_neg c_62, if_pos c_64], rfl⟩, ht⟩) (fun _ h => nomatch h) d_Things_areAlike_27
    · refine lv_aload_n hx hb d_Things_areAlike_16 rfl (lv_at hl 0 rfl) ?_
      refine va_get (D := (dC, dI)) (ci := 1) (v := .ref (a 3)) (C := R_Things) (T := F_Things) (N := 8) hx hb hts i_Things hown hK hP 0 rfl rfl 2 (by decide) (hts _ m_f_Things_18) (fun _ h9 => h9) rfl d_Things_areAlike_17 ?_
      refine lv_iload_n hx hb d_Things_areAlike_20 rfl (lv_at hl 1 rfl) ?_
      refine va_iald (f := (T 2)) hx hb hK hP 3 0 rfl rfl (by have q0 := has_pos c_62; have q1 := has_pos c_64; exact vp_in_iff.mpr ⟨by omega, by omega⟩) d_Things_areAlike_21 ?_
      refine lv_iconst (v := (-1)) hx hb d_Things_areAlike_22 (by decide) ?_
      refine lv_icmp_ne (tgt := 28) hx hb d_Things_areAlike_23 (by decide) (fun c_65 => ?_) (fun c_65 => ?_)
      · refine lv_iconst (v := 0) hx hb d_Things_areAlike_28 (by decide) ?_
        refine lv_istore_n (lv' := [(3, .int 0), (0, .ref (a 0)), (1, .int x1), (2, .int x2)]) hx hb d_Things_areAlike_29 rfl hl (by decide) rfl (fun ls hl => ?_)
        have loop_30 : ∀ (n : Nat) (z3 : Int32) (ls : Array Slot), (f_Things_areAlike T x1 x2) = (f_Things_areAlike_L30 T x1 x2 n z3) → nc_mu 4 z3 < n → 0 ≤ z3.toInt → lv_has ls 4 [(0, .ref (a 0)), (1, .int x1), (2, .int x2), (3, .int z3)] → W p l e (headSpec ws_Things_areAlike rm_Things_areAlike).room s m [.ref (a 0), .int x1, .int x2].toArray below meth c s.heap [] 0 0 (MQ below (vp_Si (fun r => (r = (f_Things_areAlike T x1 x2) ∧ narrow .boolean (.int r) = .int r))) [.ref (a 0), .int x1, .int x2].toArray s 0 0 (fun _ => False)) (F0 m 30 ls []) := by
          intro n
          induction n with
          | zero =>
            intro z3 ls hE hm h0 hl
            exact absurd hm (Nat.not_lt_zero _)
          | succ n ih =>
            intro z3 ls hE hm h0 hl
            refine lv_iload_n hx hb d_Things_areAlike_30 rfl (lv_at hl 3 rfl) ?_
            refine lv_iconst (v := 4) hx hb d_Things_areAlike_31 (by decide) ?_
            refine lv_icmp_ge (tgt := 66) hx hb d_Things_areAlike_32 (by decide) (fun c_66 => ?_) (fun c_66 => ?_)
            · refine lv_aload_n hx hb d_Things_areAlike_66 rfl (lv_at hl 0 rfl) ?_
              refine va_get (D := (dC, dI)) (ci := 1) (v := .ref (a 3)) (C := R_Things) (T := F_Things) (N := 8) hx hb hts i_Things hown hK hP 0 rfl rfl 2 (by decide) (hts _ m_f_Things_18) (fun _ h9 => h9) rfl d_Things_areAlike_67 ?_
              refine lv_iload_n hx hb d_Things_areAlike_70 rfl (lv_at hl 1 rfl) ?_
              refine va_iald (f := (T 2)) hx hb hK hP 3 0 rfl rfl (by have q0 := nc_le c_66 (L_4) rfl; have q1 := has_pos c_62; have q2 := has_pos c_64; have q3 := h0; exact vp_in_iff.mpr ⟨by omega, by omega⟩) d_Things_areAlike_71 ?_
              refine lv_aload_n hx hb d_Things_areAlike_72 rfl (lv_at hl 0 rfl) ?_
              refine va_get (D := (dC, dI)) (ci := 1) (v := .ref (a 3)) (C := R_Things) (T := F_Things) (N := 8) hx hb hts i_Things hown hK hP 0 rfl rfl 2 (by decide) (hts _ m_f_Things_18) (fun _ h9 => h9) rfl d_Things_areAlike_73 ?_
              refine lv_iload_n hx hb d_Things_areAlike_76 rfl (lv_at hl 2 rfl) ?_
              refine va_iald (f := (T 2)) hx hb hK hP 3 0 rfl rfl (by have q0 := nc_le c_66 (L_4) rfl; have q1 := has_pos c_62; have q2 := has_pos c_64; have q3 := h0; exact vp_in_iff.mpr ⟨by omega, by omega⟩) d_Things_areAlike_77 ?_
              refine lv_icmp_ne (tgt := 130) hx hb d_Things_areAlike_78 (by decide) (fun c_67 => ?_) (fun c_67 => ?_)
              · refine lv_iconst (v := 0) hx hb d_Things_areAlike_130 (by decide) ?_
                exact W.zret (v := 0) hx hb hr rfl (fun t ht hW => ⟨0, rfl, ⟨by rw [hE, f_Things_areAlike_L30, if_pos c_66, if_neg c_67], rfl⟩, ht⟩) (fun _ h => nomatch h) d_Things_areAlike_131
              · refine lv_aload_n hx hb d_Things_areAlike_81 rfl (lv_at hl 0 rfl) ?_
                refine va_get (D := (dC, dI)) (ci := 1) (v := .ref (a 1)) (C := R_Things) (T := F_Things) (N := 8) hx hb hts i_Things hown hK hP 0 rfl rfl 0 (by decide) (hts _ m_f_Things_9) (fun _ h9 => h9) rfl d_Things_areAlike_82 ?_
                refine lv_iload_n hx hb d_Things_areAlike_85 rfl (lv_at hl 1 rfl) ?_
                refine va_iald (f := (T 0)) hx hb hK hP 1 0 rfl rfl (by have q0 := nc_le c_66 (L_4) rfl; have q1 := nc_eq c_67 rfl rfl; have q2 := has_pos c_62; have q3 := has_pos c_64; have q4 := h0; exact vp_in_iff.mpr ⟨by omega, by omega⟩) d_Things_areAlike_86 ?_
                refine lv_aload_n hx hb d_Things_areAlike_87 rfl (lv_at hl 0 rfl) ?_
                refine va_get (D := (dC, dI)) (ci := 1) (v := .ref (a 1)) (C := R_Things) (T := F_Things) (N := 8) hx hb hts i_Things hown hK hP 0 rfl rfl 0 (by decide) (hts _ m_f_Things_9) (fun _ h9 => h9) rfl d_Things_areAlike_88 ?_
                refine lv_iload_n hx hb d_Things_areAlike_91 rfl (lv_at hl 2 rfl) ?_
                refine va_iald (f := (T 0)) hx hb hK hP 1 0 rfl rfl (by have q0 := nc_le c_66 (L_4) rfl; have q1 := nc_eq c_67 rfl rfl; have q2 := has_pos c_62; have q3 := has_pos c_64; have q4 := h0; exact vp_in_iff.mpr ⟨by omega, by omega⟩) d_Things_areAlike_92 ?_
                refine lv_icmp_ne (tgt := 130) hx hb d_Things_areAlike_93 (by decide) (fun c_68 => ?_) (fun c_68 => ?_)
                · refine lv_iconst (v := 0) hx hb d_Things_areAlike_130 (by decide) ?_
                  exact W.zret (v := 0) hx hb hr rfl (fun t ht hW => ⟨0, rfl, ⟨by rw [hE, f_Things_areAlike_L30, if_pos c_66, if_pos c_67, if_neg c_68], rfl⟩, ht⟩) (fun _ h => nomatch h) d_Things_areAlike_131
                · refine lv_aload_n hx hb d_Things_areAlike_96 rfl (lv_at hl 0 rfl) ?_
                  refine va_get (D := (dC, dI)) (ci := 1) (v := .ref (a 2)) (C := R_Things) (T := F_Things) (N := 8) hx hb hts i_Things hown hK hP 0 rfl rfl 1 (by decide) (hts _ m_f_Things_15) (fun _ h9 => h9) rfl d_Things_areAlike_97 ?_
                  refine lv_iload_n hx hb d_Things_areAlike_100 rfl (lv_at hl 1 rfl) ?_
                  refine va_iald (f := (T 1)) hx hb hK hP 2 0 rfl rfl (by have q0 := nc_le c_66 (L_4) rfl; have q1 := nc_eq c_67 rfl rfl; have q2 := nc_eq c_68 rfl rfl; have q3 := has_pos c_62; have q4 := has_pos c_64; have q5 := h0; exact vp_in_iff.mpr ⟨by omega, by omega⟩) d_Things_areAlike_101 ?_
                  refine lv_aload_n hx hb d_Things_areAlike_102 rfl (lv_at hl 0 rfl) ?_
                  refine va_get (D := (dC, dI)) (ci := 1) (v := .ref (a 2)) (C := R_Things) (T := F_Things) (N := 8) hx hb hts i_Things hown hK hP 0 rfl rfl 1 (by decide) (hts _ m_f_Things_15) (fun _ h9 => h9) rfl d_Things_areAlike_103 ?_
                  refine lv_iload_n hx hb d_Things_areAlike_106 rfl (lv_at hl 2 rfl) ?_
                  refine va_iald (f := (T 1)) hx hb hK hP 2 0 rfl rfl (by have q0 := nc_le c_66 (L_4) rfl; have q1 := nc_eq c_67 rfl rfl; have q2 := nc_eq c_68 rfl rfl; have q3 := has_pos c_62; have q4 := has_pos c_64; have q5 := h0; exact vp_in_iff.mpr ⟨by omega, by omega⟩) d_Things_areAlike_107 ?_
                  refine lv_icmp_ne (tgt := 130) hx hb d_Things_areAlike_108 (by decide) (fun c_69 => ?_) (fun c_69 => ?_)
                  · refine lv_iconst (v := 0) hx hb d_Things_areAlike_130 (by decide) ?_
                    exact W.zret (v := 0) hx hb hr rfl (fun t ht hW => ⟨0, rfl, ⟨by rw [hE, f_Things_areAlike_L30, if_pos c_66, if_pos c_67, if_pos c_68, if_neg c_69], rfl⟩, ht⟩) (fun _ h => nomatch h) d_Things_areAlike_131
                  · refine lv_aload_n hx hb d_Things_areAlike_111 rfl (lv_at hl 0 rfl) ?_
                    refine va_get (D := (dC, dI)) (ci := 1) (v := .ref (a 4)) (C := R_Things) (T := F_Things) (N := 8) hx hb hts i_Things hown hK hP 0 rfl rfl 3 (by decide) (hts _ m_f_Things_21) (fun _ h9 => h9) rfl d_Things_areAlike_112 ?_
                    refine lv_iload_n hx hb d_Things_areAlike_115 rfl (lv_at hl 1 rfl) ?_
                    refine va_iald (f := (T 3)) hx hb hK hP 4 0 rfl rfl (by have q0 := nc_le c_66 (L_4) rfl; have q1 := nc_eq c_67 rfl rfl; have q2 := nc_eq c_68 rfl rfl; have q3 := nc_eq c_69 rfl rfl; have q4 := has_pos c_62; have q5 := has_pos c_64; have q6 := h0; exact vp_in_iff.mpr ⟨by omega, by omega⟩) d_Things_areAlike_116 ?_
                    refine lv_aload_n hx hb d_Things_areAlike_117 rfl (lv_at hl 0 rfl) ?_
                    refine va_get (D := (dC, dI)) (ci := 1) (v := .ref (a 4)) (C := R_Things) (T := F_Things) (N := 8) hx hb hts i_Things hown hK hP 0 rfl rfl 3 (by decide) (hts _ m_f_Things_21) (fun _ h9 => h9) rfl d_Things_areAlike_118 ?_
                    refine lv_iload_n hx hb d_Things_areAlike_121 rfl (lv_at hl 2 rfl) ?_
                    refine va_iald (f := (T 3)) hx hb hK hP 4 0 rfl rfl (by have q0 := nc_le c_66 (L_4) rfl; have q1 := nc_eq c_67 rfl rfl; have q2 := nc_eq c_68 rfl rfl; have q3 := nc_eq c_69 rfl rfl; have q4 := has_pos c_62; have q5 := has_pos c_64; have q6 := h0; exact vp_in_iff.mpr ⟨by omega, by omega⟩) d_Things_areAlike_122 ?_
                    refine lv_icmp_ne (tgt := 130) hx hb d_Things_areAlike_123 (by decide) (fun c_70 => ?_) (fun c_70 => ?_)
                    · refine lv_iconst (v := 0) hx hb d_Things_areAlike_130 (by decide) ?_
                      exact W.zret (v := 0) hx hb hr rfl (fun t ht hW => ⟨0, rfl, ⟨by rw [hE, f_Things_areAlike_L30, if_pos c_66, if_pos c_67, if_pos c_68, if_pos c_69, if_neg c_70], rfl⟩, ht⟩) (fun _ h => nomatch h) d_Things_areAlike_131
                    · refine lv_iconst (v := 1) hx hb d_Things_areAlike_126 (by decide) ?_
                      refine lv_goto (tgt := 131) hx hb d_Things_areAlike_127 (by decide) ?_
                      exact W.zret (v := 1) hx hb hr rfl (fun t ht hW => ⟨1, rfl, ⟨by rw [hE, f_Things_areAlike_L30, if_pos c_66, if_pos c_67, if_pos c_68, if_pos c_69, if_pos c_70], rfl⟩, ht⟩) (fun _ h => nomatch h) d_Things_areAlike_131
            · refine lv_aload_n hx hb d_Things_areAlike_35 rfl (lv_at hl 0 rfl) ?_
              refine va_get (D := (dC, dI)) (ci := 1) (v := .ref (a 5)) (C := R_Things) (T := F_Things) (N := 8) hx hb hts i_Things hown hK hP 0 rfl rfl 4 (by decide) (hts _ m_f_Things_24) (fun _ h9 => h9) rfl d_Things_areAlike_36 ?_
              refine lv_iload_n hx hb d_Things_areAlike_39 rfl (lv_at hl 1 rfl) ?_
              refine lv_iconst (v := 4) hx hb d_Things_areAlike_40 (by decide) ?_
              refine lv_imul hx hb d_Things_areAlike_41 ?_
              refine lv_iload_n hx hb d_Things_areAlike_42 rfl (lv_at hl 3 rfl) ?_
              refine lv_iadd hx hb d_Things_areAlike_43 ?_
              refine va_iald (f := (T 4)) hx hb hK hP 5 0 rfl rfl (by have q0 := nc_nle c_66 (L_4) rfl; have q1 := has_pos c_62; have q2 := has_pos c_64; have q3 := h0; exact nc_m4 (by omega) (by omega) (by omega) (by omega)) d_Things_areAlike_44 ?_
              refine lv_aload_n hx hb d_Things_areAlike_45 rfl (lv_at hl 0 rfl) ?_
              refine va_get (D := (dC, dI)) (ci := 1) (v := .ref (a 5)) (C := R_Things) (T := F_Things) (N := 8) hx hb hts i_Things hown hK hP 0 rfl rfl 4 (by decide) (hts _ m_f_Things_24) (fun _ h9 => h9) rfl d_Things_areAlike_46 ?_
              refine lv_iload_n hx hb d_Things_areAlike_49 rfl (lv_at hl 2 rfl) ?_
              refine lv_iconst (v := 4) hx hb d_Things_areAlike_50 (by decide) ?_
              refine lv_imul hx hb d_Things_areAlike_51 ?_
              refine lv_iload_n hx hb d_Things_areAlike_52 rfl (lv_at hl 3 rfl) ?_
              refine lv_iadd hx hb d_Things_areAlike_53 ?_
              refine va_iald (f := (T 4)) hx hb hK hP 5 0 rfl rfl (by have q0 := nc_nle c_66 (L_4) rfl; have q1 := has_pos c_62; have q2 := has_pos c_64; have q3 := h0; exact nc_m4 (by omega) (by omega) (by omega) (by omega)) d_Things_areAlike_54 ?_
              refine lv_icmp_eq (tgt := 60) hx hb d_Things_areAlike_55 (by decide) (fun c_71 => ?_) (fun c_71 => ?_)
              · refine lv_iinc (v := (z3 + 1)) (lv' := [(3, .int (z3 + 1)), (0, .ref (a 0)), (1, .int x1), (2, .int x2)]) hx hb d_Things_areAlike_60 hl (k := 3) rfl rfl (by decide) rfl (fun ls hl => ?_)
                refine lv_goto (tgt := 30) hx hb d_Things_areAlike_63 (by decide) ?_
                exact ih (z3 + 1) ls (by rw [hE, f_Things_areAlike_L30, if_neg c_66, if_pos c_71]) (nc_mu_step c_66 hm) (nc_i_step c_66 h0) (lv_sub hl [1, 2, 3, 0] rfl)
              · refine lv_iconst (v := 0) hx hb d_Things_areAlike_58 (by decide) ?_
                exact W.zret (v := 0) hx hb hr rfl (fun t ht hW => ⟨0, rfl, ⟨by rw [hE, f_Things_areAlike_L30, if_neg c_66, if_neg c_71], rfl⟩, ht⟩) (fun _ h => nomatch h) d_Things_areAlike_59
        exact loop_30 (nc_mu 4 0 + 1) 0 ls (by rw [f_Things_areAlike, if_neg c_62, if_neg c_64, if_neg c_65]) (Nat.lt_succ_self _) (by decide) (lv_sub hl [1, 2, 3, 0] rfl)
      · refine lv_iconst (v := 0) hx hb d_Things_areAlike_26 (by decide) ?_
        exact W.zret (v := 0) hx hb hr rfl (fun t ht hW => ⟨0, rfl, ⟨by rw [f_Things_areAlike, if_neg c_62, if_neg c_64, if_pos c_65], rfl⟩, ht⟩) (fun _ h => nomatch h) d_Things_areAlike_27
def f_Things_allSet_L4 (T : Nat → Nat → Int32) : Nat → Int32 → Int32 → Int32
  | 0, z2, z1 => 0
  | n + 1, z2, z1 => (if (T 7 0) ≤ z2 then z1 else (f_Things_allSet_L4 T n (z2 + 1) (z1 ||| ((1 : Int32) <<< (z2 &&& 31)))))
def f_Things_allSet (T : Nat → Nat → Int32) : Int32 := (f_Things_allSet_L4 T (nc_mu (T 7 0) 0 + 1) 0 0)
abbrev ws_Things_allSet : List Cond := .code y_Things_allSet b_Things_allSet 3 (some .int) :: lw_G
abbrev rm_Things_allSet : Room := { frames := 0, cells := 0, slots := 0, locals := 0 }
set_option maxHeartbeats 4000000 in
set_option maxRecDepth 100000 in
theorem c_Things_allSet (l : Launch) (dC : Nat → ClassId) (dI : Nat → Nat → Nat) (cA : ClassId) (a : Nat → Nat) (T : Nat → Nat → Int32) : Met l y_Things_allSet ws_Things_allSet rm_Things_allSet (nc_Pre (dC, dI) cA [.ref (a 0)] (w_Things cA a T)) (vp_Si (fun r => r = (f_Things_allSet T))) 0 0 (fun _ => False) := by
  refine Met.ofW (cc := b_Things_allSet) (maxL := 3) (ret := (some .int)) (by decide) rfl ?_
  intro p e s m args below meth c s₁ B hml hv
  obtain ⟨rfl, hP, hK, hD, hN⟩ := hv
  have hx := B.exec
  have hb := B.bytes
  have hr := B.returns
  have hts : ∀ w ∈ lw_G, w.before [.ref (a 0)].toArray s = true := fun w h => atoms_spec (ws := ws_Things_allSet) B.pre w (List.mem_cons_of_mem _ h)
  have hown : s.vm.findClass R_Things = some m.cls := findClass_of_methodNamed B.named
  have hlocks := B.notSynchronized
  have hfix : CallFix p m c b_Things_allSet 3 s [.ref (a 0)].toArray lw_G R_Things := ⟨hx, hb, hml, hown, hts⟩
  have hl := lv_entry ([.ref (a 0)]) (n := 3) (Nat.le_of_ble_eq_true rfl)
  rw [lg_entry_eq]
  generalize (lg_sl ([.ref (a 0)]) ++ List.replicate (3 - (lg_sl ([.ref (a 0)])).length) Slot.unset).toArray = ls at hl ⊢
  have hl : lv_has ls 3 [(0, .ref (a 0))] := hl
  refine lv_iconst (v := 0) hx hb d_Things_allSet_0 (by decide) ?_
  refine lv_istore_n (lv' := [(1, .int 0), (0, .ref (a 0))]) hx hb d_Things_allSet_1 rfl hl (by decide) rfl (fun ls hl => ?_)
  refine lv_iconst (v := 0) hx hb d_Things_allSet_2 (by decide) ?_
  refine lv_istore_n (lv' := [(2, .int 0), (1, .int 0), (0, .ref (a 0))]) hx hb d_Things_allSet_3 rfl hl (by decide) rfl (fun ls hl => ?_)
  have loop_4 : ∀ (n : Nat) (z2 z1 : Int32) (ls : Array Slot), (f_Things_allSet T) = (f_Things_allSet_L4 T n z2 z1) → nc_mu (T 7 0) z2 < n → 0 ≤ z2.toInt → lv_has ls 3 [(0, .ref (a 0)), (2, .int z2), (1, .int z1)] → W p l e (headSpec ws_Things_allSet rm_Things_allSet).room s m [.ref (a 0)].toArray below meth c s.heap [] 0 0 (MQ below (vp_Si (fun r => r = (f_Things_allSet T))) [.ref (a 0)].toArray s 0 0 (fun _ => False)) (F0 m 4 ls []) := by
    intro n
    induction n with
    | zero =>
      intro z2 z1 ls hE hm h0 hl
      exact absurd hm (Nat.not_lt_zero _)
    | succ n ih =>
      intro z2 z1 ls hE hm h0 hl
      refine lv_iload_n hx hb d_Things_allSet_4 rfl (lv_at hl 1 rfl) ?_
      refine lv_aload_n hx hb d_Things_allSet_5 rfl (lv_at hl 0 rfl) ?_
      refine va_get (D := (dC, dI)) (ci := 1) (v := .int (T 7 0)) (C := R_Things) (T := F_Things) (N := 8) hx hb hts i_Things hown hK hP 0 rfl rfl 7 (by decide) (hts _ m_f_Things_33) (fun _ h9 => h9) rfl d_Things_allSet_6 ?_
      refine lv_icmp_ge (tgt := 24) hx hb d_Things_allSet_9 (by decide) (fun c_72 => ?_) (fun c_72 => ?_)
      · refine lv_iload_n hx hb d_Things_allSet_24 rfl (lv_at hl 2 rfl) ?_
        exact W.iret (v := z1) hx hb hr (fun t ht hW => ⟨z1, rfl, by rw [hE, f_Things_allSet_L4, if_pos c_72], ht⟩) (fun _ h => nomatch h) d_Things_allSet_25
      · refine lv_iload_n hx hb d_Things_allSet_12 rfl (lv_at hl 2 rfl) ?_
        refine lv_iconst (v := 1) hx hb d_Things_allSet_13 (by decide) ?_
        refine lv_iload_n hx hb d_Things_allSet_14 rfl (lv_at hl 1 rfl) ?_
        refine lv_ishl hx hb d_Things_allSet_15 ?_
        refine lv_ior hx hb d_Things_allSet_16 ?_
        refine lv_istore_n (lv' := [(1, .int (z1 ||| ((1 : Int32) <<< (z2 &&& 31)))), (0, .ref (a 0)), (2, .int z2)]) hx hb d_Things_allSet_17 rfl hl (by decide) rfl (fun ls hl => ?_)
        refine lv_iinc (v := (z2 + 1)) (lv' := [(2, .int (z2 + 1)), (1, .int (z1 ||| ((1 : Int32) <<< (z2 &&& 31)))), (0, .ref (a 0))]) hx hb d_Things_allSet_18 hl (k := 2) rfl rfl (by decide) rfl (fun ls hl => ?_)
        refine lv_goto (tgt := 4) hx hb d_Things_allSet_21 (by decide) ?_
        exact ih (z2 + 1) (z1 ||| ((1 : Int32) <<< (z2 &&& 31))) ls (by rw [hE, f_Things_allSet_L4, if_neg c_72]) (nc_mu_step c_72 hm) (nc_i_step c_72 h0) (lv_sub hl [2, 0, 1] rfl)
  exact loop_4 (nc_mu (T 7 0) 0 + 1) 0 0 ls (by rw [f_Things_allSet]) (Nat.lt_succ_self _) (by decide) (lv_sub hl [2, 0, 1] rfl)
def f_Things_placedSet_L4 (T : Nat → Nat → Int32) (x1 : Int32) : Nat → Int32 → Int32 → Int32
  | 0, z3, z2 => 0
  | n + 1, z3, z2 => (if (T 7 0) ≤ z3 then z2 else (if 32 ≤ z3 then z2 else (if ((T 3) z3.toNatClampNeg) = x1 then (f_Things_placedSet_L4 T x1 n (z3 + 1) (z2 ||| ((1 : Int32) <<< (z3 &&& 31)))) else (f_Things_placedSet_L4 T x1 n (z3 + 1) z2))))
def f_Things_placedSet (T : Nat → Nat → Int32) (x1 : Int32) : Int32 := (f_Things_placedSet_L4 T x1 (nc_mu (T 7 0) 0 + 1) 0 0)
abbrev ws_Things_placedSet : List Cond := .code y_Things_placedSet b_Things_placedSet 4 (some .int) :: lw_G
abbrev rm_Things_placedSet : Room := { frames := 0, cells := 0, slots := 0, locals := 0 }
set_option maxHeartbeats 4000000 in
set_option maxRecDepth 100000 in
theorem c_Things_placedSet (l : Launch) (dC : Nat → ClassId) (dI : Nat → Nat → Nat) (cA : ClassId) (a : Nat → Nat) (T : Nat → Nat → Int32) (x1 : Int32) : Met l y_Things_placedSet ws_Things_placedSet rm_Things_placedSet (nc_Pre (dC, dI) cA [.ref (a 0), .int x1] (w_Things cA a T)) (vp_Si (fun r => r = (f_Things_placedSet T x1))) 0 0 (fun _ => False) := by
  refine Met.ofW (cc := b_Things_placedSet) (maxL := 4) (ret := (some .int)) (by decide) rfl ?_
  intro p e s m args below meth c s₁ B hml hv
  obtain ⟨rfl, hP, hK, hD, hN⟩ := hv
  have hx := B.exec
  have hb := B.bytes
  have hr := B.returns
  have hts : ∀ w ∈ lw_G, w.before [.ref (a 0), .int x1].toArray s = true := fun w h => atoms_spec (ws := ws_Things_placedSet) B.pre w (List.mem_cons_of_mem _ h)
  have hown : s.vm.findClass R_Things = some m.cls := findClass_of_methodNamed B.named
  have hlocks := B.notSynchronized
  have hfix : CallFix p m c b_Things_placedSet 4 s [.ref (a 0), .int x1].toArray lw_G R_Things := ⟨hx, hb, hml, hown, hts⟩
  have hl := lv_entry ([.ref (a 0), .int x1]) (n := 4) (Nat.le_of_ble_eq_true rfl)
  rw [lg_entry_eq]
  generalize (lg_sl ([.ref (a 0), .int x1]) ++ List.replicate (4 - (lg_sl ([.ref (a 0), .int x1])).length) Slot.unset).toArray = ls at hl ⊢
  have hl : lv_has ls 4 [(0, .ref (a 0)), (1, .int x1)] := hl
  refine lv_iconst (v := 0) hx hb d_Things_placedSet_0 (by decide) ?_
  refine lv_istore_n (lv' := [(2, .int 0), (0, .ref (a 0)), (1, .int x1)]) hx hb d_Things_placedSet_1 rfl hl (by decide) rfl (fun ls hl => ?_)
  refine lv_iconst (v := 0) hx hb d_Things_placedSet_2 (by decide) ?_
  refine lv_istore_n (lv' := [(3, .int 0), (2, .int 0), (0, .ref (a 0)), (1, .int x1)]) hx hb d_Things_placedSet_3 rfl hl (by decide) rfl (fun ls hl => ?_)
  have loop_4 : ∀ (n : Nat) (z3 z2 : Int32) (ls : Array Slot), (f_Things_placedSet T x1) = (f_Things_placedSet_L4 T x1 n z3 z2) → nc_mu (T 7 0) z3 < n → 0 ≤ z3.toInt → lv_has ls 4 [(0, .ref (a 0)), (1, .int x1), (3, .int z3), (2, .int z2)] → W p l e (headSpec ws_Things_placedSet rm_Things_placedSet).room s m [.ref (a 0), .int x1].toArray below meth c s.heap [] 0 0 (MQ below (vp_Si (fun r => r = (f_Things_placedSet T x1))) [.ref (a 0), .int x1].toArray s 0 0 (fun _ => False)) (F0 m 4 ls []) := by
    intro n
    induction n with
    | zero =>
      intro z3 z2 ls hE hm h0 hl
      exact absurd hm (Nat.not_lt_zero _)
    | succ n ih =>
      intro z3 z2 ls hE hm h0 hl
      refine lv_iload_n hx hb d_Things_placedSet_4 rfl (lv_at hl 2 rfl) ?_
      refine lv_aload_n hx hb d_Things_placedSet_5 rfl (lv_at hl 0 rfl) ?_
      refine va_get (D := (dC, dI)) (ci := 1) (v := .int (T 7 0)) (C := R_Things) (T := F_Things) (N := 8) hx hb hts i_Things hown hK hP 0 rfl rfl 7 (by decide) (hts _ m_f_Things_33) (fun _ h9 => h9) rfl d_Things_placedSet_6 ?_
      refine lv_icmp_ge (tgt := 40) hx hb d_Things_placedSet_9 (by decide) (fun c_73 => ?_) (fun c_73 => ?_)
      · refine lv_iload_n hx hb d_Things_placedSet_40 rfl (lv_at hl 3 rfl) ?_
        exact W.iret (v := z2) hx hb hr (fun t ht hW => ⟨z2, rfl, by rw [hE, f_Things_placedSet_L4, if_pos c_73], ht⟩) (fun _ h => nomatch h) d_Things_placedSet_41
      · refine lv_iload_n hx hb d_Things_placedSet_12 rfl (lv_at hl 2 rfl) ?_
        refine lv_bipush (v := 32) hx hb d_Things_placedSet_13 (by decide) ?_
        refine lv_icmp_ge (tgt := 40) hx hb d_Things_placedSet_15 (by decide) (fun c_74 => ?_) (fun c_74 => ?_)
        · refine lv_iload_n hx hb d_Things_placedSet_40 rfl (lv_at hl 3 rfl) ?_
          exact W.iret (v := z2) hx hb hr (fun t ht hW => ⟨z2, rfl, by rw [hE, f_Things_placedSet_L4, if_neg c_73, if_pos c_74], ht⟩) (fun _ h => nomatch h) d_Things_placedSet_41
        · refine lv_aload_n hx hb d_Things_placedSet_18 rfl (lv_at hl 0 rfl) ?_
          refine va_get (D := (dC, dI)) (ci := 1) (v := .ref (a 4)) (C := R_Things) (T := F_Things) (N := 8) hx hb hts i_Things hown hK hP 0 rfl rfl 3 (by decide) (hts _ m_f_Things_21) (fun _ h9 => h9) rfl d_Things_placedSet_19 ?_
          refine lv_iload_n hx hb d_Things_placedSet_22 rfl (lv_at hl 2 rfl) ?_
          refine va_iald (f := (T 3)) hx hb hK hP 4 0 rfl rfl (by have q0 := nc_nle c_73 rfl rfl; have q1 := nc_nle c_74 (L_32) rfl; have q2 := h0; exact vp_in_iff.mpr ⟨by omega, by omega⟩) d_Things_placedSet_23 ?_
          refine lv_iload_n hx hb d_Things_placedSet_24 rfl (lv_at hl 1 rfl) ?_
          refine lv_icmp_ne (tgt := 34) hx hb d_Things_placedSet_25 (by decide) (fun c_75 => ?_) (fun c_75 => ?_)
          · refine lv_iinc (v := (z3 + 1)) (lv' := [(3, .int (z3 + 1)), (0, .ref (a 0)), (1, .int x1), (2, .int z2)]) hx hb d_Things_placedSet_34 hl (k := 2) rfl rfl (by decide) rfl (fun ls hl => ?_)
            refine lv_goto (tgt := 4) hx hb d_Things_placedSet_37 (by decide) ?_
            exact ih (z3 + 1) z2 ls (by rw [hE, f_Things_placedSet_L4, if_neg c_73, if_neg c_74, if_neg c_75]) (nc_mu_step c_73 hm) (nc_i_step c_73 h0) (lv_sub hl [1, 2, 0, 3] rfl)
          · refine lv_iload_n hx hb d_Things_placedSet_28 rfl (lv_at hl 3 rfl) ?_
            refine lv_iconst (v := 1) hx hb d_Things_placedSet_29 (by decide) ?_
            refine lv_iload_n hx hb d_Things_placedSet_30 rfl (lv_at hl 2 rfl) ?_
            refine lv_ishl hx hb d_Things_placedSet_31 ?_
            refine lv_ior hx hb d_Things_placedSet_32 ?_
            refine lv_istore_n (lv' := [(2, .int (z2 ||| ((1 : Int32) <<< (z3 &&& 31)))), (0, .ref (a 0)), (1, .int x1), (3, .int z3)]) hx hb d_Things_placedSet_33 rfl hl (by decide) rfl (fun ls hl => ?_)
            refine lv_iinc (v := (z3 + 1)) (lv' := [(3, .int (z3 + 1)), (2, .int (z2 ||| ((1 : Int32) <<< (z3 &&& 31)))), (0, .ref (a 0)), (1, .int x1)]) hx hb d_Things_placedSet_34 hl (k := 3) rfl rfl (by decide) rfl (fun ls hl => ?_)
            refine lv_goto (tgt := 4) hx hb d_Things_placedSet_37 (by decide) ?_
            exact ih (z3 + 1) (z2 ||| ((1 : Int32) <<< (z3 &&& 31))) ls (by rw [hE, f_Things_placedSet_L4, if_neg c_73, if_neg c_74, if_pos c_75]) (nc_mu_step c_73 hm) (nc_i_step c_73 h0) (lv_sub hl [2, 3, 0, 1] rfl)
  exact loop_4 (nc_mu (T 7 0) 0 + 1) 0 0 ls (by rw [f_Things_placedSet]) (Nat.lt_succ_self _) (by decide) (lv_sub hl [2, 3, 0, 1] rfl)
def f_Things_thereSet (T : Nat → Nat → Int32) : Int32 := ((f_Things_placedSet T 1) ||| (f_Things_placedSet T 2))
abbrev ws_Things_thereSet : List Cond := .code y_Things_thereSet b_Things_thereSet 1 (some .int) :: lw_G
abbrev rm_Things_thereSet : Room := { frames := 1, cells := 0, slots := 0, locals := 23 }
set_option maxHeartbeats 4000000 in
set_option maxRecDepth 100000 in
theorem c_Things_thereSet (l : Launch) (dC : Nat → ClassId) (dI : Nat → Nat → Nat) (cA : ClassId) (a : Nat → Nat) (T : Nat → Nat → Int32) : Met l y_Things_thereSet ws_Things_thereSet rm_Things_thereSet (nc_Pre (dC, dI) cA [.ref (a 0)] (w_Things cA a T)) (vp_Si (fun r => r = (f_Things_thereSet T))) 0 0 (fun _ => False) := by
  refine Met.ofW (cc := b_Things_thereSet) (maxL := 1) (ret := (some .int)) (by decide) rfl ?_
  intro p e s m args below meth c s₁ B hml hv
  obtain ⟨rfl, hP, hK, hD, hN⟩ := hv
  have hx := B.exec
  have hb := B.bytes
  have hr := B.returns
  have hts : ∀ w ∈ lw_G, w.before [.ref (a 0)].toArray s = true := fun w h => atoms_spec (ws := ws_Things_thereSet) B.pre w (List.mem_cons_of_mem _ h)
  have hown : s.vm.findClass R_Things = some m.cls := findClass_of_methodNamed B.named
  have hlocks := B.notSynchronized
  have hfix : CallFix p m c b_Things_thereSet 1 s [.ref (a 0)].toArray lw_G R_Things := ⟨hx, hb, hml, hown, hts⟩
  have hl := lv_entry ([.ref (a 0)]) (n := 1) (Nat.le_of_ble_eq_true rfl)
  rw [lg_entry_eq]
  generalize (lg_sl ([.ref (a 0)]) ++ List.replicate (1 - (lg_sl ([.ref (a 0)])).length) Slot.unset).toArray = ls at hl ⊢
  have hl : lv_has ls 1 [(0, .ref (a 0))] := hl
  refine lv_aload_n hx hb d_Things_thereSet_0 rfl (lv_at hl 0 rfl) ?_
  refine lv_iconst (v := 1) hx hb d_Things_thereSet_1 (by decide) ?_
  refine nc_ro (va_runV (As := [.int 1]) (rest := []) hfix (c_Things_placedSet l dC dI cA a T 1) (k_Things_56 hts hN ⟨Nat.le_of_ble_eq_true rfl, Nat.le_of_ble_eq_true rfl⟩) (nc_preV hK hN hP hD rfl rfl) rfl rfl hl.1 rfl (lv_room (Nat.le_of_ble_eq_true rfl)) d_Things_thereSet_2 ⟨Nat.zero_le _, Nat.zero_le _⟩) (fun r er => ?_)
  subst er
  refine lv_aload_n hx hb d_Things_thereSet_5 rfl (lv_at hl 0 rfl) ?_
  refine lv_iconst (v := 2) hx hb d_Things_thereSet_6 (by decide) ?_
  refine nc_ro (va_runV (As := [.int 2]) (rest := [.int (f_Things_placedSet T 1)]) hfix (c_Things_placedSet l dC dI cA a T 2) (k_Things_56 hts hN ⟨Nat.le_of_ble_eq_true rfl, Nat.le_of_ble_eq_true rfl⟩) (nc_preV hK hN hP hD rfl rfl) rfl rfl hl.1 rfl (lv_room (Nat.le_of_ble_eq_true rfl)) d_Things_thereSet_7 ⟨Nat.zero_le _, Nat.zero_le _⟩) (fun r er => ?_)
  subst er
  refine lv_ior hx hb d_Things_thereSet_10 ?_
  exact W.iret (v := ((f_Things_placedSet T 1) ||| (f_Things_placedSet T 2))) hx hb hr (fun t ht hW => ⟨((f_Things_placedSet T 1) ||| (f_Things_placedSet T 2)), rfl, by rw [f_Things_thereSet], ht⟩) (fun _ h => nomatch h) d_Things_thereSet_11
def f_Things_hasWords (T : Nat → Nat → Int32) (x1 x2 : Int32) : Int32 := (if (f_Things_has T x1) = 0 then 0 else (if (x2 &&& ((((T 0) x1.toNatClampNeg) ||| ((T 1) x1.toNatClampNeg)) ^^^ (-1))) = 0 then 1 else 0))
abbrev ws_Things_hasWords : List Cond := .code y_Things_hasWords b_Things_hasWords 3 (some .boolean) :: lw_G
abbrev rm_Things_hasWords : Room := { frames := 1, cells := 0, slots := 0, locals := 21 }
set_option maxHeartbeats 4000000 in
set_option maxRecDepth 100000 in
theorem c_Things_hasWords (l : Launch) (dC : Nat → ClassId) (dI : Nat → Nat → Nat) (cA : ClassId) (a : Nat → Nat) (T : Nat → Nat → Int32) (x1 x2 : Int32) : Met l y_Things_hasWords ws_Things_hasWords rm_Things_hasWords (nc_Pre (dC, dI) cA [.ref (a 0), .int x1, .int x2] (w_Things cA a T)) (vp_Si (fun r => (r = (f_Things_hasWords T x1 x2) ∧ narrow .boolean (.int r) = .int r))) 0 0 (fun _ => False) := by
  refine Met.ofW (cc := b_Things_hasWords) (maxL := 3) (ret := (some .boolean)) (by decide) rfl ?_
  intro p e s m args below meth c s₁ B hml hv
  obtain ⟨rfl, hP, hK, hD, hN⟩ := hv
  have hx := B.exec
  have hb := B.bytes
  have hr := B.returns
  have hts : ∀ w ∈ lw_G, w.before [.ref (a 0), .int x1, .int x2].toArray s = true := fun w h => atoms_spec (ws := ws_Things_hasWords) B.pre w (List.mem_cons_of_mem _ h)
  have hown : s.vm.findClass R_Things = some m.cls := findClass_of_methodNamed B.named
  have hlocks := B.notSynchronized
  have hfix : CallFix p m c b_Things_hasWords 3 s [.ref (a 0), .int x1, .int x2].toArray lw_G R_Things := ⟨hx, hb, hml, hown, hts⟩
  have hl := lv_entry ([.ref (a 0), .int x1, .int x2]) (n := 3) (Nat.le_of_ble_eq_true rfl)
  rw [lg_entry_eq]
  generalize (lg_sl ([.ref (a 0), .int x1, .int x2]) ++ List.replicate (3 - (lg_sl ([.ref (a 0), .int x1, .int x2])).length) Slot.unset).toArray = ls at hl ⊢
  have hl : lv_has ls 3 [(0, .ref (a 0)), (1, .int x1), (2, .int x2)] := hl
  refine lv_aload_n hx hb d_Things_hasWords_0 rfl (lv_at hl 0 rfl) ?_
  refine lv_iload_n hx hb d_Things_hasWords_1 rfl (lv_at hl 1 rfl) ?_
  refine nc_ro (va_runV (As := [.int x1]) (rest := []) hfix (c_Things_has l dC dI cA a T x1) (k_Things_43 hts hN ⟨Nat.le_of_ble_eq_true rfl, Nat.le_of_ble_eq_true rfl⟩) (nc_preV hK hN hP hD rfl rfl) rfl rfl hl.1 rfl (lv_room (Nat.le_of_ble_eq_true rfl)) d_Things_hasWords_2 ⟨Nat.zero_le _, Nat.zero_le _⟩) (fun r er => ?_)
  obtain ⟨rfl, hz_76⟩ := er
  refine lv_if_eq (tgt := 32) hx hb d_Things_hasWords_5 (by decide) (fun c_77 => ?_) (fun c_77 => ?_)
  · refine lv_iconst (v := 0) hx hb d_Things_hasWords_32 (by decide) ?_
    exact W.zret (v := 0) hx hb hr rfl (fun t ht hW => ⟨0, rfl, ⟨by rw [f_Things_hasWords, if_pos c_77], rfl⟩, ht⟩) (fun _ h => nomatch h) d_Things_hasWords_33
  · refine lv_iload_n hx hb d_Things_hasWords_8 rfl (lv_at hl 2 rfl) ?_
    refine lv_aload_n hx hb d_Things_hasWords_9 rfl (lv_at hl 0 rfl) ?_
    refine va_get (D := (dC, dI)) (ci := 1) (v := .ref (a 1)) (C := R_Things) (T := F_Things) (N := 8) hx hb hts i_Things hown hK hP 0 rfl rfl 0 (by decide) (hts _ m_f_Things_9) (fun _ h9 => h9) rfl d_Things_hasWords_10 ?_
    refine lv_iload_n hx hb d_Things_hasWords_13 rfl (lv_at hl 1 rfl) ?_
    refine va_iald (f := (T 0)) hx hb hK hP 1 0 rfl rfl (by have q0 := has_pos c_77; exact vp_in_iff.mpr ⟨by omega, by omega⟩) d_Things_hasWords_14 ?_
    refine lv_aload_n hx hb d_Things_hasWords_15 rfl (lv_at hl 0 rfl) ?_
    refine va_get (D := (dC, dI)) (ci := 1) (v := .ref (a 2)) (C := R_Things) (T := F_Things) (N := 8) hx hb hts i_Things hown hK hP 0 rfl rfl 1 (by decide) (hts _ m_f_Things_15) (fun _ h9 => h9) rfl d_Things_hasWords_16 ?_
    refine lv_iload_n hx hb d_Things_hasWords_19 rfl (lv_at hl 1 rfl) ?_
    refine va_iald (f := (T 1)) hx hb hK hP 2 0 rfl rfl (by have q0 := has_pos c_77; exact vp_in_iff.mpr ⟨by omega, by omega⟩) d_Things_hasWords_20 ?_
    refine lv_ior hx hb d_Things_hasWords_21 ?_
    refine lv_iconst (v := (-1)) hx hb d_Things_hasWords_22 (by decide) ?_
    refine lv_ixor hx hb d_Things_hasWords_23 ?_
    refine lv_iand hx hb d_Things_hasWords_24 ?_
    refine lv_if_ne (tgt := 32) hx hb d_Things_hasWords_25 (by decide) (fun c_78 => ?_) (fun c_78 => ?_)
    · refine lv_iconst (v := 0) hx hb d_Things_hasWords_32 (by decide) ?_
      exact W.zret (v := 0) hx hb hr rfl (fun t ht hW => ⟨0, rfl, ⟨by rw [f_Things_hasWords, if_neg c_77, if_neg c_78], rfl⟩, ht⟩) (fun _ h => nomatch h) d_Things_hasWords_33
    · refine lv_iconst (v := 1) hx hb d_Things_hasWords_28 (by decide) ?_
      refine lv_goto (tgt := 33) hx hb d_Things_hasWords_29 (by decide) ?_
      exact W.zret (v := 1) hx hb hr rfl (fun t ht hW => ⟨1, rfl, ⟨by rw [f_Things_hasWords, if_neg c_77, if_pos c_78], rfl⟩, ht⟩) (fun _ h => nomatch h) d_Things_hasWords_33
def f_Things_fitByWords (T : Nat → Nat → Int32) (x1 x2 x3 : Int32) : Int32 := (if (f_Things_has T x1) = 0 then 0 else (if (f_NC_isWord x3) = 0 then 0 else (if (x2 &&& ((((T 0) x1.toNatClampNeg) ||| ((T 1) x1.toNatClampNeg)) ^^^ (-1))) = 0 then (if ((nc_ushr ((T 0) x1.toNatClampNeg) x3) &&& 1) = 0 then (if (f_Things_isKind ((T 2) x1.toNatClampNeg)) = 0 then ((0 : Int32) ||| 0) else (if ((T 5) (((T 2) x1.toNatClampNeg)).toNatClampNeg) = x3 then ((0 : Int32) ||| 2) else ((0 : Int32) ||| 0))) else (if (f_Things_isKind ((T 2) x1.toNatClampNeg)) = 0 then ((1 : Int32) ||| 0) else (if ((T 5) (((T 2) x1.toNatClampNeg)).toNatClampNeg) = x3 then ((1 : Int32) ||| 2) else ((1 : Int32) ||| 0)))) else 0)))
abbrev ws_Things_fitByWords : List Cond := .code y_Things_fitByWords b_Things_fitByWords 7 (some .int) :: lw_G
abbrev rm_Things_fitByWords : Room := { frames := 1, cells := 0, slots := 0, locals := 21 }
set_option maxHeartbeats 4000000 in
set_option maxRecDepth 100000 in
theorem c_Things_fitByWords (l : Launch) (dC : Nat → ClassId) (dI : Nat → Nat → Nat) (cA : ClassId) (a : Nat → Nat) (T : Nat → Nat → Int32) (x1 x2 x3 : Int32) : Met l y_Things_fitByWords ws_Things_fitByWords rm_Things_fitByWords (nc_Pre (dC, dI) cA [.ref (a 0), .int x1, .int x2, .int x3] (w_Things cA a T)) (vp_Si (fun r => r = (f_Things_fitByWords T x1 x2 x3))) 0 0 (fun _ => False) := by
  refine Met.ofW (cc := b_Things_fitByWords) (maxL := 7) (ret := (some .int)) (by decide) rfl ?_
  intro p e s m args below meth c s₁ B hml hv
  obtain ⟨rfl, hP, hK, hD, hN⟩ := hv
  have hx := B.exec
  have hb := B.bytes
  have hr := B.returns
  have hts : ∀ w ∈ lw_G, w.before [.ref (a 0), .int x1, .int x2, .int x3].toArray s = true := fun w h => atoms_spec (ws := ws_Things_fitByWords) B.pre w (List.mem_cons_of_mem _ h)
  have hown : s.vm.findClass R_Things = some m.cls := findClass_of_methodNamed B.named
  have hlocks := B.notSynchronized
  have hfix : CallFix p m c b_Things_fitByWords 7 s [.ref (a 0), .int x1, .int x2, .int x3].toArray lw_G R_Things := ⟨hx, hb, hml, hown, hts⟩
  have hl := lv_entry ([.ref (a 0), .int x1, .int x2, .int x3]) (n := 7) (Nat.le_of_ble_eq_true rfl)
  rw [lg_entry_eq]
  generalize (lg_sl ([.ref (a 0), .int x1, .int x2, .int x3]) ++ List.replicate (7 - (lg_sl ([.ref (a 0), .int x1, .int x2, .int x3])).length) Slot.unset).toArray = ls at hl ⊢
  have hl : lv_has ls 7 [(0, .ref (a 0)), (1, .int x1), (2, .int x2), (3, .int x3)] := hl
  refine lv_aload_n hx hb d_Things_fitByWords_0 rfl (lv_at hl 0 rfl) ?_
  refine lv_iload_n hx hb d_Things_fitByWords_1 rfl (lv_at hl 1 rfl) ?_
  refine nc_ro (va_runV (As := [.int x1]) (rest := []) hfix (c_Things_has l dC dI cA a T x1) (k_Things_43 hts hN ⟨Nat.le_of_ble_eq_true rfl, Nat.le_of_ble_eq_true rfl⟩) (nc_preV hK hN hP hD rfl rfl) rfl rfl hl.1 rfl (lv_room (Nat.le_of_ble_eq_true rfl)) d_Things_fitByWords_2 ⟨Nat.zero_le _, Nat.zero_le _⟩) (fun r er => ?_)
  obtain ⟨rfl, hz_79⟩ := er
  refine lv_if_eq (tgt := 35) hx hb d_Things_fitByWords_5 (by decide) (fun c_80 => ?_) (fun c_80 => ?_)
  · refine lv_iconst (v := 0) hx hb d_Things_fitByWords_35 (by decide) ?_
    exact W.iret (v := 0) hx hb hr (fun t ht hW => ⟨0, rfl, by rw [f_Things_fitByWords, if_pos c_80], ht⟩) (fun _ h => nomatch h) d_Things_fitByWords_36
  · refine lv_iload_n hx hb d_Things_fitByWords_8 rfl (lv_at hl 3 rfl) ?_
    refine nc_ro (va_runSN (As := [.int x3]) (rest := []) hfix (c_NC_isWord l dC dI cA x3) (k_Things_47 hts hN ⟨Nat.le_of_ble_eq_true rfl, Nat.le_of_ble_eq_true rfl⟩) (nc_preS0 hK hN) rfl rfl hl.1 rfl (lv_room (Nat.le_of_ble_eq_true rfl)) d_Things_fitByWords_9 ⟨Nat.zero_le _, Nat.zero_le _⟩) (fun r er => ?_)
    obtain ⟨rfl, hz_81⟩ := er
    refine lv_if_eq (tgt := 35) hx hb d_Things_fitByWords_12 (by decide) (fun c_82 => ?_) (fun c_82 => ?_)
    · refine lv_iconst (v := 0) hx hb d_Things_fitByWords_35 (by decide) ?_
      exact W.iret (v := 0) hx hb hr (fun t ht hW => ⟨0, rfl, by rw [f_Things_fitByWords, if_neg c_80, if_pos c_82], ht⟩) (fun _ h => nomatch h) d_Things_fitByWords_36
    · refine lv_iload_n hx hb d_Things_fitByWords_15 rfl (lv_at hl 2 rfl) ?_
      refine lv_aload_n hx hb d_Things_fitByWords_16 rfl (lv_at hl 0 rfl) ?_
      refine va_get (D := (dC, dI)) (ci := 1) (v := .ref (a 1)) (C := R_Things) (T := F_Things) (N := 8) hx hb hts i_Things hown hK hP 0 rfl rfl 0 (by decide) (hts _ m_f_Things_9) (fun _ h9 => h9) rfl d_Things_fitByWords_17 ?_
      refine lv_iload_n hx hb d_Things_fitByWords_20 rfl (lv_at hl 1 rfl) ?_
      refine va_iald (f := (T 0)) hx hb hK hP 1 0 rfl rfl (by have q0 := has_pos c_80; exact vp_in_iff.mpr ⟨by omega, by omega⟩) d_Things_fitByWords_21 ?_
      refine lv_aload_n hx hb d_Things_fitByWords_22 rfl (lv_at hl 0 rfl) ?_
      refine va_get (D := (dC, dI)) (ci := 1) (v := .ref (a 2)) (C := R_Things) (T := F_Things) (N := 8) hx hb hts i_Things hown hK hP 0 rfl rfl 1 (by decide) (hts _ m_f_Things_15) (fun _ h9 => h9) rfl d_Things_fitByWords_23 ?_
      refine lv_iload_n hx hb d_Things_fitByWords_26 rfl (lv_at hl 1 rfl) ?_
      refine va_iald (f := (T 1)) hx hb hK hP 2 0 rfl rfl (by have q0 := has_pos c_80; exact vp_in_iff.mpr ⟨by omega, by omega⟩) d_Things_fitByWords_27 ?_
      refine lv_ior hx hb d_Things_fitByWords_28 ?_
      refine lv_iconst (v := (-1)) hx hb d_Things_fitByWords_29 (by decide) ?_
      refine lv_ixor hx hb d_Things_fitByWords_30 ?_
      refine lv_iand hx hb d_Things_fitByWords_31 ?_
      refine lv_if_eq (tgt := 37) hx hb d_Things_fitByWords_32 (by decide) (fun c_83 => ?_) (fun c_83 => ?_)
      · refine lv_aload_n hx hb d_Things_fitByWords_37 rfl (lv_at hl 0 rfl) ?_
        refine va_get (D := (dC, dI)) (ci := 1) (v := .ref (a 3)) (C := R_Things) (T := F_Things) (N := 8) hx hb hts i_Things hown hK hP 0 rfl rfl 2 (by decide) (hts _ m_f_Things_18) (fun _ h9 => h9) rfl d_Things_fitByWords_38 ?_
        refine lv_iload_n hx hb d_Things_fitByWords_41 rfl (lv_at hl 1 rfl) ?_
        refine va_iald (f := (T 2)) hx hb hK hP 3 0 rfl rfl (by have q0 := nc_eq c_83 rfl (L_0); have q1 := has_pos c_80; exact vp_in_iff.mpr ⟨by omega, by omega⟩) d_Things_fitByWords_42 ?_
        refine lv_istore (lv' := [(4, .int ((T 2) x1.toNatClampNeg)), (0, .ref (a 0)), (1, .int x1), (2, .int x2), (3, .int x3)]) hx hb d_Things_fitByWords_43 hl (by decide) rfl (fun ls hl => ?_)
        refine lv_aload_n hx hb d_Things_fitByWords_45 rfl (lv_at hl 1 rfl) ?_
        refine va_get (D := (dC, dI)) (ci := 1) (v := .ref (a 1)) (C := R_Things) (T := F_Things) (N := 8) hx hb hts i_Things hown hK hP 0 rfl rfl 0 (by decide) (hts _ m_f_Things_9) (fun _ h9 => h9) rfl d_Things_fitByWords_46 ?_
        refine lv_iload_n hx hb d_Things_fitByWords_49 rfl (lv_at hl 2 rfl) ?_
        refine va_iald (f := (T 0)) hx hb hK hP 1 0 rfl rfl (by have q0 := nc_eq c_83 rfl (L_0); have q1 := has_pos c_80; exact vp_in_iff.mpr ⟨by omega, by omega⟩) d_Things_fitByWords_50 ?_
        refine lv_iload_n hx hb d_Things_fitByWords_51 rfl (lv_at hl 4 rfl) ?_
        refine lv_iushr (v := (nc_ushr ((T 0) x1.toNatClampNeg) x3)) hx hb d_Things_fitByWords_52 rfl ?_
        refine lv_iconst (v := 1) hx hb d_Things_fitByWords_53 (by decide) ?_
        refine lv_iand hx hb d_Things_fitByWords_54 ?_
        refine lv_if_eq (tgt := 62) hx hb d_Things_fitByWords_55 (by decide) (fun c_84 => ?_) (fun c_84 => ?_)
        · refine lv_iconst (v := 0) hx hb d_Things_fitByWords_62 (by decide) ?_
          refine lv_istore (lv' := [(5, .int 0), (4, .int ((T 2) x1.toNatClampNeg)), (0, .ref (a 0)), (1, .int x1), (2, .int x2), (3, .int x3)]) hx hb d_Things_fitByWords_63 hl (by decide) rfl (fun ls hl => ?_)
          refine lv_iload hx hb d_Things_fitByWords_65 (lv_at hl 1 rfl) ?_
          refine nc_ro (va_runS (As := [.int ((T 2) x1.toNatClampNeg)]) (rest := []) hfix (c_Things_isKind l dC dI cA ((T 2) x1.toNatClampNeg)) (k_Things_50 hts hN ⟨Nat.le_of_ble_eq_true rfl, Nat.le_of_ble_eq_true rfl⟩) (nc_preS0 hK hN) rfl rfl hl.1 rfl (lv_room (Nat.le_of_ble_eq_true rfl)) d_Things_fitByWords_67 ⟨Nat.zero_le _, Nat.zero_le _⟩) (fun r er => ?_)
          obtain ⟨rfl, hz_85⟩ := er
          refine lv_if_eq (tgt := 88) hx hb d_Things_fitByWords_70 (by decide) (fun c_86 => ?_) (fun c_86 => ?_)
          · refine lv_iconst (v := 0) hx hb d_Things_fitByWords_88 (by decide) ?_
            refine lv_istore (lv' := [(6, .int 0), (5, .int 0), (4, .int ((T 2) x1.toNatClampNeg)), (0, .ref (a 0)), (1, .int x1), (2, .int x2), (3, .int x3)]) hx hb d_Things_fitByWords_89 hl (by decide) rfl (fun ls hl => ?_)
            refine lv_iload hx hb d_Things_fitByWords_91 (lv_at hl 1 rfl) ?_
            refine lv_iload hx hb d_Things_fitByWords_93 (lv_at hl 0 rfl) ?_
            refine lv_ior hx hb d_Things_fitByWords_95 ?_
            exact W.iret (v := ((0 : Int32) ||| 0)) hx hb hr (fun t ht hW => ⟨((0 : Int32) ||| 0), rfl, by rw [f_Things_fitByWords, if_neg c_80, if_neg c_82, if_pos c_83, if_pos c_84, if_pos c_86], ht⟩) (fun _ h => nomatch h) d_Things_fitByWords_96
          · refine lv_aload_n hx hb d_Things_fitByWords_73 rfl (lv_at hl 2 rfl) ?_
            refine va_get (D := (dC, dI)) (ci := 1) (v := .ref (a 6)) (C := R_Things) (T := F_Things) (N := 8) hx hb hts i_Things hown hK hP 0 rfl rfl 5 (by decide) (hts _ m_f_Things_27) (fun _ h9 => h9) rfl d_Things_fitByWords_74 ?_
            refine lv_iload hx hb d_Things_fitByWords_77 (lv_at hl 1 rfl) ?_
            refine va_iald (f := (T 5)) hx hb hK hP 6 0 rfl rfl (by have q0 := nc_eq c_83 rfl (L_0); have q1 := nc_eq c_84 rfl (L_0); have q2 := has_pos c_80; have q3 := isKind_pos c_86; exact vp_in_iff.mpr ⟨by omega, by omega⟩) d_Things_fitByWords_79 ?_
            refine lv_iload_n hx hb d_Things_fitByWords_80 rfl (lv_at hl 5 rfl) ?_
            refine lv_icmp_ne (tgt := 88) hx hb d_Things_fitByWords_81 (by decide) (fun c_87 => ?_) (fun c_87 => ?_)
            · refine lv_iconst (v := 0) hx hb d_Things_fitByWords_88 (by decide) ?_
              refine lv_istore (lv' := [(6, .int 0), (5, .int 0), (4, .int ((T 2) x1.toNatClampNeg)), (0, .ref (a 0)), (1, .int x1), (2, .int x2), (3, .int x3)]) hx hb d_Things_fitByWords_89 hl (by decide) rfl (fun ls hl => ?_)
              refine lv_iload hx hb d_Things_fitByWords_91 (lv_at hl 1 rfl) ?_
              refine lv_iload hx hb d_Things_fitByWords_93 (lv_at hl 0 rfl) ?_
              refine lv_ior hx hb d_Things_fitByWords_95 ?_
              exact W.iret (v := ((0 : Int32) ||| 0)) hx hb hr (fun t ht hW => ⟨((0 : Int32) ||| 0), rfl, by rw [f_Things_fitByWords, if_neg c_80, if_neg c_82, if_pos c_83, if_pos c_84, if_neg c_86, if_neg c_87], ht⟩) (fun _ h => nomatch h) d_Things_fitByWords_96
            · refine lv_iconst (v := 2) hx hb d_Things_fitByWords_84 (by decide) ?_
              refine lv_goto (tgt := 89) hx hb d_Things_fitByWords_85 (by decide) ?_
              refine lv_istore (lv' := [(6, .int 2), (5, .int 0), (4, .int ((T 2) x1.toNatClampNeg)), (0, .ref (a 0)), (1, .int x1), (2, .int x2), (3, .int x3)]) hx hb d_Things_fitByWords_89 hl (by decide) rfl (fun ls hl => ?_)
              refine lv_iload hx hb d_Things_fitByWords_91 (lv_at hl 1 rfl) ?_
              refine lv_iload hx hb d_Things_fitByWords_93 (lv_at hl 0 rfl) ?_
              refine lv_ior hx hb d_Things_fitByWords_95 ?_
              exact W.iret (v := ((0 : Int32) ||| 2)) hx hb hr (fun t ht hW => ⟨((0 : Int32) ||| 2), rfl, by rw [f_Things_fitByWords, if_neg c_80, if_neg c_82, if_pos c_83, if_pos c_84, if_neg c_86, if_pos c_87], ht⟩) (fun _ h => nomatch h) d_Things_fitByWords_96
        · refine lv_iconst (v := 1) hx hb d_Things_fitByWords_58 (by decide) ?_
          refine lv_goto (tgt := 63) hx hb d_Things_fitByWords_59 (by decide) ?_
          refine lv_istore (lv' := [(5, .int 1), (4, .int ((T 2) x1.toNatClampNeg)), (0, .ref (a 0)), (1, .int x1), (2, .int x2), (3, .int x3)]) hx hb d_Things_fitByWords_63 hl (by decide) rfl (fun ls hl => ?_)
          refine lv_iload hx hb d_Things_fitByWords_65 (lv_at hl 1 rfl) ?_
          refine nc_ro (va_runS (As := [.int ((T 2) x1.toNatClampNeg)]) (rest := []) hfix (c_Things_isKind l dC dI cA ((T 2) x1.toNatClampNeg)) (k_Things_50 hts hN ⟨Nat.le_of_ble_eq_true rfl, Nat.le_of_ble_eq_true rfl⟩) (nc_preS0 hK hN) rfl rfl hl.1 rfl (lv_room (Nat.le_of_ble_eq_true rfl)) d_Things_fitByWords_67 ⟨Nat.zero_le _, Nat.zero_le _⟩) (fun r er => ?_)
          obtain ⟨rfl, hz_88⟩ := er
          refine lv_if_eq (tgt := 88) hx hb d_Things_fitByWords_70 (by decide) (fun c_89 => ?_) (fun c_89 => ?_)
          · refine lv_iconst (v := 0) hx hb d_Things_fitByWords_88 (by decide) ?_
            refine lv_istore (lv' := [(6, .int 0), (5, .int 1), (4, .int ((T 2) x1.toNatClampNeg)), (0, .ref (a 0)), (1, .int x1), (2, .int x2), (3, .int x3)]) hx hb d_Things_fitByWords_89 hl (by decide) rfl (fun ls hl => ?_)
            refine lv_iload hx hb d_Things_fitByWords_91 (lv_at hl 1 rfl) ?_
            refine lv_iload hx hb d_Things_fitByWords_93 (lv_at hl 0 rfl) ?_
            refine lv_ior hx hb d_Things_fitByWords_95 ?_
            exact W.iret (v := ((1 : Int32) ||| 0)) hx hb hr (fun t ht hW => ⟨((1 : Int32) ||| 0), rfl, by rw [f_Things_fitByWords, if_neg c_80, if_neg c_82, if_pos c_83, if_neg c_84, if_pos c_89], ht⟩) (fun _ h => nomatch h) d_Things_fitByWords_96
          · refine lv_aload_n hx hb d_Things_fitByWords_73 rfl (lv_at hl 2 rfl) ?_
            refine va_get (D := (dC, dI)) (ci := 1) (v := .ref (a 6)) (C := R_Things) (T := F_Things) (N := 8) hx hb hts i_Things hown hK hP 0 rfl rfl 5 (by decide) (hts _ m_f_Things_27) (fun _ h9 => h9) rfl d_Things_fitByWords_74 ?_
            refine lv_iload hx hb d_Things_fitByWords_77 (lv_at hl 1 rfl) ?_
            refine va_iald (f := (T 5)) hx hb hK hP 6 0 rfl rfl (by have q0 := nc_eq c_83 rfl (L_0); have q1 := has_pos c_80; have q2 := isKind_pos c_89; exact vp_in_iff.mpr ⟨by omega, by omega⟩) d_Things_fitByWords_79 ?_
            refine lv_iload_n hx hb d_Things_fitByWords_80 rfl (lv_at hl 5 rfl) ?_
            refine lv_icmp_ne (tgt := 88) hx hb d_Things_fitByWords_81 (by decide) (fun c_90 => ?_) (fun c_90 => ?_)
            · refine lv_iconst (v := 0) hx hb d_Things_fitByWords_88 (by decide) ?_
              refine lv_istore (lv' := [(6, .int 0), (5, .int 1), (4, .int ((T 2) x1.toNatClampNeg)), (0, .ref (a 0)), (1, .int x1), (2, .int x2), (3, .int x3)]) hx hb d_Things_fitByWords_89 hl (by decide) rfl (fun ls hl => ?_)
              refine lv_iload hx hb d_Things_fitByWords_91 (lv_at hl 1 rfl) ?_
              refine lv_iload hx hb d_Things_fitByWords_93 (lv_at hl 0 rfl) ?_
              refine lv_ior hx hb d_Things_fitByWords_95 ?_
              exact W.iret (v := ((1 : Int32) ||| 0)) hx hb hr (fun t ht hW => ⟨((1 : Int32) ||| 0), rfl, by rw [f_Things_fitByWords, if_neg c_80, if_neg c_82, if_pos c_83, if_neg c_84, if_neg c_89, if_neg c_90], ht⟩) (fun _ h => nomatch h) d_Things_fitByWords_96
            · refine lv_iconst (v := 2) hx hb d_Things_fitByWords_84 (by decide) ?_
              refine lv_goto (tgt := 89) hx hb d_Things_fitByWords_85 (by decide) ?_
              refine lv_istore (lv' := [(6, .int 2), (5, .int 1), (4, .int ((T 2) x1.toNatClampNeg)), (0, .ref (a 0)), (1, .int x1), (2, .int x2), (3, .int x3)]) hx hb d_Things_fitByWords_89 hl (by decide) rfl (fun ls hl => ?_)
              refine lv_iload hx hb d_Things_fitByWords_91 (lv_at hl 1 rfl) ?_
              refine lv_iload hx hb d_Things_fitByWords_93 (lv_at hl 0 rfl) ?_
              refine lv_ior hx hb d_Things_fitByWords_95 ?_
              exact W.iret (v := ((1 : Int32) ||| 2)) hx hb hr (fun t ht hW => ⟨((1 : Int32) ||| 2), rfl, by rw [f_Things_fitByWords, if_neg c_80, if_neg c_82, if_pos c_83, if_neg c_84, if_neg c_89, if_pos c_90], ht⟩) (fun _ h => nomatch h) d_Things_fitByWords_96
      · refine lv_iconst (v := 0) hx hb d_Things_fitByWords_35 (by decide) ?_
        exact W.iret (v := 0) hx hb hr (fun t ht hW => ⟨0, rfl, by rw [f_Things_fitByWords, if_neg c_80, if_neg c_82, if_neg c_83], ht⟩) (fun _ h => nomatch h) d_Things_fitByWords_36
