def f_Phrase_openPart (P : Nat → Nat → Int32) : Int32 × (Nat → Nat → Int32) := (if (P 4 0) < 30 then (1, (upf (upf (upf (upf (upf P 0 (upd (P 0) ((P 4 0) : Int32).toNatClampNeg 0)) 1 (upd (P 1) ((P 4 0) : Int32).toNatClampNeg (-1))) 2 (upd (P 2) ((P 4 0) : Int32).toNatClampNeg (P 8 0))) 3 (upd (P 3) ((P 4 0) : Int32).toNatClampNeg (P 8 0))) 4 (fun _ => ((P 4 0) + 1)))) else (0, P))
abbrev ws_Phrase_openPart : List Cond := .code y_Phrase_openPart b_Phrase_openPart 1 (some .boolean) :: lw_G
abbrev rm_Phrase_openPart : Room := { frames := 0, cells := 0, slots := 0, locals := 0 }
set_option maxHeartbeats 4000000 in
set_option maxRecDepth 100000 in
theorem c_Phrase_openPart (l : Launch) (dC : Nat → ClassId) (dI : Nat → Nat → Nat) (cA : ClassId) (sz : Nat) (a : Nat → Nat) (P : Nat → Nat → Int32) (hok : ph_ok P) : Met l y_Phrase_openPart ws_Phrase_openPart rm_Phrase_openPart (nc_PreM (dC, dI) cA sz [.ref (a 0)] (w_Phrase cA a P)) (va_Qi (fun r (_ : Unit) => (r = (f_Phrase_openPart P).1 ∧ narrow .boolean (.int r) = .int r)) (fun _ t => va_P (dC, dI) classes (w_Phrase cA a (f_Phrase_openPart P).2) t.heap ∧ va_D (va_A (w_Phrase cA a P) sz) (w_Phrase cA a (f_Phrase_openPart P).2)) (va_A (w_Phrase cA a P) sz)) 0 0 (va_A (w_Phrase cA a P) sz) := by
  refine Met.ofW (cc := b_Phrase_openPart) (maxL := 1) (ret := (some .boolean)) (by decide) rfl ?_
  intro p e s m args below meth c s₁ B hml hv
  obtain ⟨rfl, hsz, hP, hK, hD0, hN⟩ := hv
  have hx := B.exec
  have hb := B.bytes
  have hr := B.returns
  have hts : ∀ w ∈ lw_G, w.before [.ref (a 0)].toArray s = true := fun w h => atoms_spec (ws := ws_Phrase_openPart) B.pre w (List.mem_cons_of_mem _ h)
  have hown : s.vm.findClass R_Phrase = some m.cls := findClass_of_methodNamed B.named
  have hlocks := B.notSynchronized
  have hfix : CallFix p m c b_Phrase_openPart 1 s [.ref (a 0)].toArray lw_G R_Phrase := ⟨hx, hb, hml, hown, hts⟩
  subst hsz
  have hD := hD0.self (sz := s.heap.size)
  generalize hAe : va_A (w_Phrase cA a P) s.heap.size = A at hD ⊢
  have hA : ∀ q : Nat, s.heap.size ≤ q → A q := fun q h => by rw [← hAe]; exact Or.inr h
  have hS : va_S A s.heap s.heap [] := va_S.rf
  have hl := lv_entry ([.ref (a 0)]) (n := 1) (Nat.le_of_ble_eq_true rfl)
  rw [lg_entry_eq]
  generalize (lg_sl ([.ref (a 0)]) ++ List.replicate (1 - (lg_sl ([.ref (a 0)])).length) Slot.unset).toArray = ls at hl ⊢
  have hl : lv_has ls 1 [(0, .ref (a 0))] := hl
  refine lv_aload_n hx hb d_Phrase_openPart_0 rfl (lv_at hl 0 rfl) ?_
  refine va_get (D := (dC, dI)) (ci := 2) (v := .int (P 4 0)) (C := R_Phrase) (T := F_Phrase) (N := 11) hx hb hts i_Phrase hown hK hP 0 rfl rfl 4 (by decide) (hts _ m_f_Phrase_24) (fun _ h9 => h9) rfl d_Phrase_openPart_1 ?_
  refine lv_bipush (v := 30) hx hb d_Phrase_openPart_4 (by decide) ?_
  refine lv_icmp_lt (tgt := 11) hx hb d_Phrase_openPart_6 (by decide) (fun c_126 => ?_) (fun c_126 => ?_)
  · refine lv_aload_n hx hb d_Phrase_openPart_11 rfl (lv_at hl 0 rfl) ?_
    refine va_get (D := (dC, dI)) (ci := 2) (v := .ref (a 1)) (C := R_Phrase) (T := F_Phrase) (N := 11) hx hb hts i_Phrase hown hK hP 0 rfl rfl 0 (by decide) (hts _ m_f_Phrase_9) (fun _ h9 => h9) rfl d_Phrase_openPart_12 ?_
    refine lv_aload_n hx hb d_Phrase_openPart_15 rfl (lv_at hl 0 rfl) ?_
    refine va_get (D := (dC, dI)) (ci := 2) (v := .int (P 4 0)) (C := R_Phrase) (T := F_Phrase) (N := 11) hx hb hts i_Phrase hown hK hP 0 rfl rfl 4 (by decide) (hts _ m_f_Phrase_24) (fun _ h9 => h9) rfl d_Phrase_openPart_16 ?_
    refine lv_iconst (v := 0) hx hb d_Phrase_openPart_19 (by decide) ?_
    refine va_iast (f := (P 0)) hx hb hK hP hD hS 1 0 rfl rfl (by have q9 := hok.1; have q8 := hok.2; have q10 := nc_lt c_126 rfl (L_30); exact vp_in_iff.mpr ⟨by omega, by omega⟩) d_Phrase_openPart_20 (fun H locs hP hD hS => ?_)
    have hP : va_P (dC, dI) classes (w_Phrase cA a (upf P 0 (upd (P 0) ((P 4 0) : Int32).toNatClampNeg 0))) H := hP
    have hD : va_D A (w_Phrase cA a (upf P 0 (upd (P 0) ((P 4 0) : Int32).toNatClampNeg 0))) := hD
    refine lv_aload_n hx hb d_Phrase_openPart_21 rfl (lv_at hl 0 rfl) ?_
    refine va_get (D := (dC, dI)) (ci := 2) (v := .ref (a 2)) (C := R_Phrase) (T := F_Phrase) (N := 11) hx hb hts i_Phrase hown hK hP 0 rfl rfl 1 (by decide) (hts _ m_f_Phrase_15) (fun _ h9 => h9) rfl d_Phrase_openPart_22 ?_
    refine lv_aload_n hx hb d_Phrase_openPart_25 rfl (lv_at hl 0 rfl) ?_
    refine va_get (D := (dC, dI)) (ci := 2) (v := .int (P 4 0)) (C := R_Phrase) (T := F_Phrase) (N := 11) hx hb hts i_Phrase hown hK hP 0 rfl rfl 4 (by decide) (hts _ m_f_Phrase_24) (fun _ h9 => h9) rfl d_Phrase_openPart_26 ?_
    refine lv_iconst (v := (-1)) hx hb d_Phrase_openPart_29 (by decide) ?_
    refine va_iast (f := (P 1)) hx hb hK hP hD hS 2 0 rfl rfl (by have q9 := hok.1; have q8 := hok.2; have q10 := nc_lt c_126 rfl (L_30); exact vp_in_iff.mpr ⟨by omega, by omega⟩) d_Phrase_openPart_30 (fun H locs hP hD hS => ?_)
    have hP : va_P (dC, dI) classes (w_Phrase cA a (upf (upf P 0 (upd (P 0) ((P 4 0) : Int32).toNatClampNeg 0)) 1 (upd (P 1) ((P 4 0) : Int32).toNatClampNeg (-1)))) H := hP
    have hD : va_D A (w_Phrase cA a (upf (upf P 0 (upd (P 0) ((P 4 0) : Int32).toNatClampNeg 0)) 1 (upd (P 1) ((P 4 0) : Int32).toNatClampNeg (-1)))) := hD
    refine lv_aload_n hx hb d_Phrase_openPart_31 rfl (lv_at hl 0 rfl) ?_
    refine va_get (D := (dC, dI)) (ci := 2) (v := .ref (a 3)) (C := R_Phrase) (T := F_Phrase) (N := 11) hx hb hts i_Phrase hown hK hP 0 rfl rfl 2 (by decide) (hts _ m_f_Phrase_18) (fun _ h9 => h9) rfl d_Phrase_openPart_32 ?_
    refine lv_aload_n hx hb d_Phrase_openPart_35 rfl (lv_at hl 0 rfl) ?_
    refine va_get (D := (dC, dI)) (ci := 2) (v := .int (P 4 0)) (C := R_Phrase) (T := F_Phrase) (N := 11) hx hb hts i_Phrase hown hK hP 0 rfl rfl 4 (by decide) (hts _ m_f_Phrase_24) (fun _ h9 => h9) rfl d_Phrase_openPart_36 ?_
    refine lv_aload_n hx hb d_Phrase_openPart_39 rfl (lv_at hl 0 rfl) ?_
    refine va_get (D := (dC, dI)) (ci := 2) (v := .int (P 8 0)) (C := R_Phrase) (T := F_Phrase) (N := 11) hx hb hts i_Phrase hown hK hP 0 rfl rfl 8 (by decide) (hts _ m_f_Phrase_37) (fun _ h9 => h9) rfl d_Phrase_openPart_40 ?_
    refine va_iast (f := (P 2)) hx hb hK hP hD hS 3 0 rfl rfl (by have q9 := hok.1; have q8 := hok.2; have q10 := nc_lt c_126 rfl (L_30); exact vp_in_iff.mpr ⟨by omega, by omega⟩) d_Phrase_openPart_43 (fun H locs hP hD hS => ?_)
    have hP : va_P (dC, dI) classes (w_Phrase cA a (upf (upf (upf P 0 (upd (P 0) ((P 4 0) : Int32).toNatClampNeg 0)) 1 (upd (P 1) ((P 4 0) : Int32).toNatClampNeg (-1))) 2 (upd (P 2) ((P 4 0) : Int32).toNatClampNeg (P 8 0)))) H := hP
    have hD : va_D A (w_Phrase cA a (upf (upf (upf P 0 (upd (P 0) ((P 4 0) : Int32).toNatClampNeg 0)) 1 (upd (P 1) ((P 4 0) : Int32).toNatClampNeg (-1))) 2 (upd (P 2) ((P 4 0) : Int32).toNatClampNeg (P 8 0)))) := hD
    refine lv_aload_n hx hb d_Phrase_openPart_44 rfl (lv_at hl 0 rfl) ?_
    refine va_get (D := (dC, dI)) (ci := 2) (v := .ref (a 4)) (C := R_Phrase) (T := F_Phrase) (N := 11) hx hb hts i_Phrase hown hK hP 0 rfl rfl 3 (by decide) (hts _ m_f_Phrase_21) (fun _ h9 => h9) rfl d_Phrase_openPart_45 ?_
    refine lv_aload_n hx hb d_Phrase_openPart_48 rfl (lv_at hl 0 rfl) ?_
    refine va_get (D := (dC, dI)) (ci := 2) (v := .int (P 4 0)) (C := R_Phrase) (T := F_Phrase) (N := 11) hx hb hts i_Phrase hown hK hP 0 rfl rfl 4 (by decide) (hts _ m_f_Phrase_24) (fun _ h9 => h9) rfl d_Phrase_openPart_49 ?_
    refine lv_aload_n hx hb d_Phrase_openPart_52 rfl (lv_at hl 0 rfl) ?_
    refine va_get (D := (dC, dI)) (ci := 2) (v := .int (P 8 0)) (C := R_Phrase) (T := F_Phrase) (N := 11) hx hb hts i_Phrase hown hK hP 0 rfl rfl 8 (by decide) (hts _ m_f_Phrase_37) (fun _ h9 => h9) rfl d_Phrase_openPart_53 ?_
    refine va_iast (f := (P 3)) hx hb hK hP hD hS 4 0 rfl rfl (by have q9 := hok.1; have q8 := hok.2; have q10 := nc_lt c_126 rfl (L_30); exact vp_in_iff.mpr ⟨by omega, by omega⟩) d_Phrase_openPart_56 (fun H locs hP hD hS => ?_)
    have hP : va_P (dC, dI) classes (w_Phrase cA a (upf (upf (upf (upf P 0 (upd (P 0) ((P 4 0) : Int32).toNatClampNeg 0)) 1 (upd (P 1) ((P 4 0) : Int32).toNatClampNeg (-1))) 2 (upd (P 2) ((P 4 0) : Int32).toNatClampNeg (P 8 0))) 3 (upd (P 3) ((P 4 0) : Int32).toNatClampNeg (P 8 0)))) H := hP
    have hD : va_D A (w_Phrase cA a (upf (upf (upf (upf P 0 (upd (P 0) ((P 4 0) : Int32).toNatClampNeg 0)) 1 (upd (P 1) ((P 4 0) : Int32).toNatClampNeg (-1))) 2 (upd (P 2) ((P 4 0) : Int32).toNatClampNeg (P 8 0))) 3 (upd (P 3) ((P 4 0) : Int32).toNatClampNeg (P 8 0)))) := hD
    refine lv_aload_n hx hb d_Phrase_openPart_57 rfl (lv_at hl 0 rfl) ?_
    refine lv_dup hx hb d_Phrase_openPart_58 rfl ?_
    refine va_get (D := (dC, dI)) (ci := 2) (v := .int (P 4 0)) (C := R_Phrase) (T := F_Phrase) (N := 11) hx hb hts i_Phrase hown hK hP 0 rfl rfl 4 (by decide) (hts _ m_f_Phrase_24) (fun _ h9 => h9) rfl d_Phrase_openPart_59 ?_
    refine lv_iconst (v := 1) hx hb d_Phrase_openPart_62 (by decide) ?_
    refine lv_iadd hx hb d_Phrase_openPart_63 ?_
    refine va_put (D := (dC, dI)) (ci := 2) (v := .int ((P 4 0) + 1)) (ty := .int) (C := R_Phrase) (T := F_Phrase) (N := 11) hx hb hts i_Phrase t_Phrase t_Phrase_ok n_Phrase hown hK hP hD hS 0 rfl rfl 4 (by decide) (hts _ m_f_Phrase_24) (fun _ h9 => h9) rfl (by decide +kernel) rfl rfl (Nat.le_of_ble_eq_true rfl) d_Phrase_openPart_64 (fun H locs hP hD hS => ?_)
    have hP : va_P (dC, dI) classes (w_Phrase cA a (upf (upf (upf (upf (upf P 0 (upd (P 0) ((P 4 0) : Int32).toNatClampNeg 0)) 1 (upd (P 1) ((P 4 0) : Int32).toNatClampNeg (-1))) 2 (upd (P 2) ((P 4 0) : Int32).toNatClampNeg (P 8 0))) 3 (upd (P 3) ((P 4 0) : Int32).toNatClampNeg (P 8 0))) 4 (fun _ => ((P 4 0) + 1)))) H := hP
    have hD : va_D A (w_Phrase cA a (upf (upf (upf (upf (upf P 0 (upd (P 0) ((P 4 0) : Int32).toNatClampNeg 0)) 1 (upd (P 1) ((P 4 0) : Int32).toNatClampNeg (-1))) 2 (upd (P 2) ((P 4 0) : Int32).toNatClampNeg (P 8 0))) 3 (upd (P 3) ((P 4 0) : Int32).toNatClampNeg (P 8 0))) 4 (fun _ => ((P 4 0) + 1)))) := hD
    refine lv_iconst (v := 1) hx hb d_Phrase_openPart_67 (by decide) ?_
    have hF : (f_Phrase_openPart P) = (1, (upf (upf (upf (upf (upf P 0 (upd (P 0) ((P 4 0) : Int32).toNatClampNeg 0)) 1 (upd (P 1) ((P 4 0) : Int32).toNatClampNeg (-1))) 2 (upd (P 2) ((P 4 0) : Int32).toNatClampNeg (P 8 0))) 3 (upd (P 3) ((P 4 0) : Int32).toNatClampNeg (P 8 0))) 4 (fun _ => ((P 4 0) + 1)))) := by rw [f_Phrase_openPart, if_pos c_126]
    exact W.zret (v := 1) hx hb hr rfl (fun t ht hW => ⟨⟨1, (), rfl, ⟨by rw [hF], rfl⟩, by rw [hF, ht]; exact hP, by rw [hF]; exact hD⟩, hS.F ht⟩) hS.2.2 d_Phrase_openPart_68
  · refine lv_iconst (v := 0) hx hb d_Phrase_openPart_9 (by decide) ?_
    have hF : (f_Phrase_openPart P) = (0, P) := by rw [f_Phrase_openPart, if_neg c_126]
    exact W.zret (v := 0) hx hb hr rfl (fun t ht hW => ⟨⟨0, (), rfl, ⟨by rw [hF], rfl⟩, by rw [hF, ht]; exact hP, by rw [hF]; exact hD⟩, hS.F ht⟩) hS.2.2 d_Phrase_openPart_10
theorem ok_openPart {P : Nat → Nat → Int32} (h : ph_ok P) : ph_ok (f_Phrase_openPart P).2 := by
  unfold f_Phrase_openPart
  split
  · rename_i c
    exact ⟨nc_i_step (nc_lt_nle c) h.1, h.2⟩
  · exact h
def f_Phrase_setAmount (P : Nat → Nat → Int32) (x1 x2 : Int32) : Int32 × (Nat → Nat → Int32) := (if (f_Phrase_isPart P ((P 4 0) - 1)) = 0 then (0, P) else (1, (upf (upf P 0 (upd (P 0) (((P 4 0) - 1) : Int32).toNatClampNeg x1)) 9 (fun _ => x2))))
abbrev ws_Phrase_setAmount : List Cond := .code y_Phrase_setAmount b_Phrase_setAmount 4 (some .boolean) :: lw_G
abbrev rm_Phrase_setAmount : Room := { frames := 1, cells := 0, slots := 0, locals := 21 }
set_option maxHeartbeats 4000000 in
set_option maxRecDepth 100000 in
theorem c_Phrase_setAmount (l : Launch) (dC : Nat → ClassId) (dI : Nat → Nat → Nat) (cA : ClassId) (sz : Nat) (a : Nat → Nat) (P : Nat → Nat → Int32) (x1 x2 : Int32) : Met l y_Phrase_setAmount ws_Phrase_setAmount rm_Phrase_setAmount (nc_PreM (dC, dI) cA sz [.ref (a 0), .int x1, .int x2] (w_Phrase cA a P)) (va_Qi (fun r (_ : Unit) => (r = (f_Phrase_setAmount P x1 x2).1 ∧ narrow .boolean (.int r) = .int r)) (fun _ t => va_P (dC, dI) classes (w_Phrase cA a (f_Phrase_setAmount P x1 x2).2) t.heap ∧ va_D (va_A (w_Phrase cA a P) sz) (w_Phrase cA a (f_Phrase_setAmount P x1 x2).2)) (va_A (w_Phrase cA a P) sz)) 0 0 (va_A (w_Phrase cA a P) sz) := by
  refine Met.ofW (cc := b_Phrase_setAmount) (maxL := 4) (ret := (some .boolean)) (by decide) rfl ?_
  intro p e s m args below meth c s₁ B hml hv
  obtain ⟨rfl, hsz, hP, hK, hD0, hN⟩ := hv
  have hx := B.exec
  have hb := B.bytes
  have hr := B.returns
  have hts : ∀ w ∈ lw_G, w.before [.ref (a 0), .int x1, .int x2].toArray s = true := fun w h => atoms_spec (ws := ws_Phrase_setAmount) B.pre w (List.mem_cons_of_mem _ h)
  have hown : s.vm.findClass R_Phrase = some m.cls := findClass_of_methodNamed B.named
  have hlocks := B.notSynchronized
  have hfix : CallFix p m c b_Phrase_setAmount 4 s [.ref (a 0), .int x1, .int x2].toArray lw_G R_Phrase := ⟨hx, hb, hml, hown, hts⟩
  subst hsz
  have hD := hD0.self (sz := s.heap.size)
  generalize hAe : va_A (w_Phrase cA a P) s.heap.size = A at hD ⊢
  have hA : ∀ q : Nat, s.heap.size ≤ q → A q := fun q h => by rw [← hAe]; exact Or.inr h
  have hS : va_S A s.heap s.heap [] := va_S.rf
  have hl := lv_entry ([.ref (a 0), .int x1, .int x2]) (n := 4) (Nat.le_of_ble_eq_true rfl)
  rw [lg_entry_eq]
  generalize (lg_sl ([.ref (a 0), .int x1, .int x2]) ++ List.replicate (4 - (lg_sl ([.ref (a 0), .int x1, .int x2])).length) Slot.unset).toArray = ls at hl ⊢
  have hl : lv_has ls 4 [(0, .ref (a 0)), (1, .int x1), (2, .int x2)] := hl
  refine lv_aload_n hx hb d_Phrase_setAmount_0 rfl (lv_at hl 0 rfl) ?_
  refine va_get (D := (dC, dI)) (ci := 2) (v := .int (P 4 0)) (C := R_Phrase) (T := F_Phrase) (N := 11) hx hb hts i_Phrase hown hK hP 0 rfl rfl 4 (by decide) (hts _ m_f_Phrase_24) (fun _ h9 => h9) rfl d_Phrase_setAmount_1 ?_
  refine lv_iconst (v := 1) hx hb d_Phrase_setAmount_4 (by decide) ?_
  refine lv_isub hx hb d_Phrase_setAmount_5 ?_
  refine lv_istore_n (lv' := [(3, .int ((P 4 0) - 1)), (0, .ref (a 0)), (1, .int x1), (2, .int x2)]) hx hb d_Phrase_setAmount_6 rfl hl (by decide) rfl (fun ls hl => ?_)
  refine lv_aload_n hx hb d_Phrase_setAmount_7 rfl (lv_at hl 1 rfl) ?_
  refine lv_iload_n hx hb d_Phrase_setAmount_8 rfl (lv_at hl 0 rfl) ?_
  refine nc_ro (va_runV (As := [.int ((P 4 0) - 1)]) (rest := []) hfix (c_Phrase_isPart l dC dI cA a P ((P 4 0) - 1)) (k_Phrase_54 hts hN ⟨Nat.le_of_ble_eq_true rfl, Nat.le_of_ble_eq_true rfl⟩) (nc_preV hK hN hP hD rfl rfl) rfl rfl hl.1 rfl (lv_room (Nat.le_of_ble_eq_true rfl)) d_Phrase_setAmount_9 ⟨Nat.zero_le _, Nat.zero_le _⟩) (fun r er => ?_)
  obtain ⟨rfl, hz_127⟩ := er
  refine lv_if_ne (tgt := 17) hx hb d_Phrase_setAmount_12 (by decide) (fun c_128 => ?_) (fun c_128 => ?_)
  · refine lv_aload_n hx hb d_Phrase_setAmount_17 rfl (lv_at hl 1 rfl) ?_
    refine va_get (D := (dC, dI)) (ci := 2) (v := .ref (a 1)) (C := R_Phrase) (T := F_Phrase) (N := 11) hx hb hts i_Phrase hown hK hP 0 rfl rfl 0 (by decide) (hts _ m_f_Phrase_9) (fun _ h9 => h9) rfl d_Phrase_setAmount_18 ?_
    refine lv_iload_n hx hb d_Phrase_setAmount_21 rfl (lv_at hl 0 rfl) ?_
    refine lv_iload_n hx hb d_Phrase_setAmount_22 rfl (lv_at hl 2 rfl) ?_
    refine va_iast (f := (P 0)) hx hb hK hP hD hS 1 0 rfl rfl (by have q0 := isPart_pos c_128; exact vp_in_iff.mpr ⟨by omega, by omega⟩) d_Phrase_setAmount_23 (fun H locs hP hD hS => ?_)
    have hP : va_P (dC, dI) classes (w_Phrase cA a (upf P 0 (upd (P 0) (((P 4 0) - 1) : Int32).toNatClampNeg x1))) H := hP
    have hD : va_D A (w_Phrase cA a (upf P 0 (upd (P 0) (((P 4 0) - 1) : Int32).toNatClampNeg x1))) := hD
    refine lv_aload_n hx hb d_Phrase_setAmount_24 rfl (lv_at hl 1 rfl) ?_
    refine lv_iload_n hx hb d_Phrase_setAmount_25 rfl (lv_at hl 3 rfl) ?_
    refine va_put (D := (dC, dI)) (ci := 2) (v := .int x2) (ty := .int) (C := R_Phrase) (T := F_Phrase) (N := 11) hx hb hts i_Phrase t_Phrase t_Phrase_ok n_Phrase hown hK hP hD hS 0 rfl rfl 9 (by decide) (hts _ m_f_Phrase_40) (fun _ h9 => h9) rfl (by decide +kernel) rfl rfl (Nat.le_of_ble_eq_true rfl) d_Phrase_setAmount_26 (fun H locs hP hD hS => ?_)
    have hP : va_P (dC, dI) classes (w_Phrase cA a (upf (upf P 0 (upd (P 0) (((P 4 0) - 1) : Int32).toNatClampNeg x1)) 9 (fun _ => x2))) H := hP
    have hD : va_D A (w_Phrase cA a (upf (upf P 0 (upd (P 0) (((P 4 0) - 1) : Int32).toNatClampNeg x1)) 9 (fun _ => x2))) := hD
    refine lv_iconst (v := 1) hx hb d_Phrase_setAmount_29 (by decide) ?_
    have hF : (f_Phrase_setAmount P x1 x2) = (1, (upf (upf P 0 (upd (P 0) (((P 4 0) - 1) : Int32).toNatClampNeg x1)) 9 (fun _ => x2))) := by rw [f_Phrase_setAmount, if_neg c_128]
    exact W.zret (v := 1) hx hb hr rfl (fun t ht hW => ⟨⟨1, (), rfl, ⟨by rw [hF], rfl⟩, by rw [hF, ht]; exact hP, by rw [hF]; exact hD⟩, hS.F ht⟩) hS.2.2 d_Phrase_setAmount_30
  · refine lv_iconst (v := 0) hx hb d_Phrase_setAmount_15 (by decide) ?_
    have hF : (f_Phrase_setAmount P x1 x2) = (0, P) := by rw [f_Phrase_setAmount, if_pos c_128]
    exact W.zret (v := 0) hx hb hr rfl (fun t ht hW => ⟨⟨0, (), rfl, ⟨by rw [hF], rfl⟩, by rw [hF, ht]; exact hP, by rw [hF]; exact hD⟩, hS.F ht⟩) hS.2.2 d_Phrase_setAmount_16
theorem ok_setAmount {P : Nat → Nat → Int32} {x1 x2 : Int32} (h : ph_ok P) : ph_ok (f_Phrase_setAmount P x1 x2).2 := by
  unfold f_Phrase_setAmount
  split
  · exact h
  · exact h
def f_Phrase_openDescription (P : Nat → Nat → Int32) : Int32 × (Nat → Nat → Int32) := (if (f_Phrase_isPart P ((P 4 0) - 1)) = 0 then (0, P) else (if (P 8 0) < 30 then (1, (upf (upf (upf (upf (upf (upf (upf P 3 (upd (P 3) (((P 4 0) - 1) : Int32).toNatClampNeg ((P 8 0) + 1))) 5 (upd (P 5) ((P 8 0) : Int32).toNatClampNeg 0)) 6 (upd (P 6) ((P 8 0) : Int32).toNatClampNeg 0)) 7 (upd (P 7) ((P 8 0) : Int32).toNatClampNeg (-1))) 8 (fun _ => ((P 8 0) + 1))) 9 (fun _ => 3)) 10 (fun _ => 0))) else (0, P)))
abbrev ws_Phrase_openDescription : List Cond := .code y_Phrase_openDescription b_Phrase_openDescription 2 (some .boolean) :: lw_G
abbrev rm_Phrase_openDescription : Room := { frames := 1, cells := 0, slots := 0, locals := 21 }
set_option maxHeartbeats 4000000 in
set_option maxRecDepth 100000 in
theorem c_Phrase_openDescription (l : Launch) (dC : Nat → ClassId) (dI : Nat → Nat → Nat) (cA : ClassId) (sz : Nat) (a : Nat → Nat) (P : Nat → Nat → Int32) (hok : ph_ok P) : Met l y_Phrase_openDescription ws_Phrase_openDescription rm_Phrase_openDescription (nc_PreM (dC, dI) cA sz [.ref (a 0)] (w_Phrase cA a P)) (va_Qi (fun r (_ : Unit) => (r = (f_Phrase_openDescription P).1 ∧ narrow .boolean (.int r) = .int r)) (fun _ t => va_P (dC, dI) classes (w_Phrase cA a (f_Phrase_openDescription P).2) t.heap ∧ va_D (va_A (w_Phrase cA a P) sz) (w_Phrase cA a (f_Phrase_openDescription P).2)) (va_A (w_Phrase cA a P) sz)) 0 0 (va_A (w_Phrase cA a P) sz) := by
  refine Met.ofW (cc := b_Phrase_openDescription) (maxL := 2) (ret := (some .boolean)) (by decide) rfl ?_
  intro p e s m args below meth c s₁ B hml hv
  obtain ⟨rfl, hsz, hP, hK, hD0, hN⟩ := hv
  have hx := B.exec
  have hb := B.bytes
  have hr := B.returns
  have hts : ∀ w ∈ lw_G, w.before [.ref (a 0)].toArray s = true := fun w h => atoms_spec (ws := ws_Phrase_openDescription) B.pre w (List.mem_cons_of_mem _ h)
  have hown : s.vm.findClass R_Phrase = some m.cls := findClass_of_methodNamed B.named
  have hlocks := B.notSynchronized
  have hfix : CallFix p m c b_Phrase_openDescription 2 s [.ref (a 0)].toArray lw_G R_Phrase := ⟨hx, hb, hml, hown, hts⟩
  subst hsz
  have hD := hD0.self (sz := s.heap.size)
  generalize hAe : va_A (w_Phrase cA a P) s.heap.size = A at hD ⊢
  have hA : ∀ q : Nat, s.heap.size ≤ q → A q := fun q h => by rw [← hAe]; exact Or.inr h
  have hS : va_S A s.heap s.heap [] := va_S.rf
  have hl := lv_entry ([.ref (a 0)]) (n := 2) (Nat.le_of_ble_eq_true rfl)
  rw [lg_entry_eq]
  generalize (lg_sl ([.ref (a 0)]) ++ List.replicate (2 - (lg_sl ([.ref (a 0)])).length) Slot.unset).toArray = ls at hl ⊢
  have hl : lv_has ls 2 [(0, .ref (a 0))] := hl
  refine lv_aload_n hx hb d_Phrase_openDescription_0 rfl (lv_at hl 0 rfl) ?_
  refine va_get (D := (dC, dI)) (ci := 2) (v := .int (P 4 0)) (C := R_Phrase) (T := F_Phrase) (N := 11) hx hb hts i_Phrase hown hK hP 0 rfl rfl 4 (by decide) (hts _ m_f_Phrase_24) (fun _ h9 => h9) rfl d_Phrase_openDescription_1 ?_
  refine lv_iconst (v := 1) hx hb d_Phrase_openDescription_4 (by decide) ?_
  refine lv_isub hx hb d_Phrase_openDescription_5 ?_
  refine lv_istore_n (lv' := [(1, .int ((P 4 0) - 1)), (0, .ref (a 0))]) hx hb d_Phrase_openDescription_6 rfl hl (by decide) rfl (fun ls hl => ?_)
  refine lv_aload_n hx hb d_Phrase_openDescription_7 rfl (lv_at hl 1 rfl) ?_
  refine lv_iload_n hx hb d_Phrase_openDescription_8 rfl (lv_at hl 0 rfl) ?_
  refine nc_ro (va_runV (As := [.int ((P 4 0) - 1)]) (rest := []) hfix (c_Phrase_isPart l dC dI cA a P ((P 4 0) - 1)) (k_Phrase_54 hts hN ⟨Nat.le_of_ble_eq_true rfl, Nat.le_of_ble_eq_true rfl⟩) (nc_preV hK hN hP hD rfl rfl) rfl rfl hl.1 rfl (lv_room (Nat.le_of_ble_eq_true rfl)) d_Phrase_openDescription_9 ⟨Nat.zero_le _, Nat.zero_le _⟩) (fun r er => ?_)
  obtain ⟨rfl, hz_129⟩ := er
  refine lv_if_eq (tgt := 24) hx hb d_Phrase_openDescription_12 (by decide) (fun c_130 => ?_) (fun c_130 => ?_)
  · refine lv_iconst (v := 0) hx hb d_Phrase_openDescription_24 (by decide) ?_
    have hF : (f_Phrase_openDescription P) = (0, P) := by rw [f_Phrase_openDescription, if_pos c_130]
    exact W.zret (v := 0) hx hb hr rfl (fun t ht hW => ⟨⟨0, (), rfl, ⟨by rw [hF], rfl⟩, by rw [hF, ht]; exact hP, by rw [hF]; exact hD⟩, hS.F ht⟩) hS.2.2 d_Phrase_openDescription_25
  · refine lv_aload_n hx hb d_Phrase_openDescription_15 rfl (lv_at hl 1 rfl) ?_
    refine va_get (D := (dC, dI)) (ci := 2) (v := .int (P 8 0)) (C := R_Phrase) (T := F_Phrase) (N := 11) hx hb hts i_Phrase hown hK hP 0 rfl rfl 8 (by decide) (hts _ m_f_Phrase_37) (fun _ h9 => h9) rfl d_Phrase_openDescription_16 ?_
    refine lv_bipush (v := 30) hx hb d_Phrase_openDescription_19 (by decide) ?_
    refine lv_icmp_lt (tgt := 26) hx hb d_Phrase_openDescription_21 (by decide) (fun c_131 => ?_) (fun c_131 => ?_)
    · refine lv_aload_n hx hb d_Phrase_openDescription_26 rfl (lv_at hl 1 rfl) ?_
      refine va_get (D := (dC, dI)) (ci := 2) (v := .ref (a 5)) (C := R_Phrase) (T := F_Phrase) (N := 11) hx hb hts i_Phrase hown hK hP 0 rfl rfl 5 (by decide) (hts _ m_f_Phrase_28) (fun _ h9 => h9) rfl d_Phrase_openDescription_27 ?_
      refine lv_aload_n hx hb d_Phrase_openDescription_30 rfl (lv_at hl 1 rfl) ?_
      refine va_get (D := (dC, dI)) (ci := 2) (v := .int (P 8 0)) (C := R_Phrase) (T := F_Phrase) (N := 11) hx hb hts i_Phrase hown hK hP 0 rfl rfl 8 (by decide) (hts _ m_f_Phrase_37) (fun _ h9 => h9) rfl d_Phrase_openDescription_31 ?_
      refine lv_iconst (v := 0) hx hb d_Phrase_openDescription_34 (by decide) ?_
      refine va_iast (f := (P 5)) hx hb hK hP hD hS 5 0 rfl rfl (by have q9 := hok.1; have q8 := hok.2; have q10 := nc_lt c_131 rfl (L_30); have q11 := isPart_pos c_130; exact vp_in_iff.mpr ⟨by omega, by omega⟩) d_Phrase_openDescription_35 (fun H locs hP hD hS => ?_)
      have hP : va_P (dC, dI) classes (w_Phrase cA a (upf P 5 (upd (P 5) ((P 8 0) : Int32).toNatClampNeg 0))) H := hP
      have hD : va_D A (w_Phrase cA a (upf P 5 (upd (P 5) ((P 8 0) : Int32).toNatClampNeg 0))) := hD
      refine lv_aload_n hx hb d_Phrase_openDescription_36 rfl (lv_at hl 1 rfl) ?_
      refine va_get (D := (dC, dI)) (ci := 2) (v := .ref (a 6)) (C := R_Phrase) (T := F_Phrase) (N := 11) hx hb hts i_Phrase hown hK hP 0 rfl rfl 6 (by decide) (hts _ m_f_Phrase_31) (fun _ h9 => h9) rfl d_Phrase_openDescription_37 ?_
      refine lv_aload_n hx hb d_Phrase_openDescription_40 rfl (lv_at hl 1 rfl) ?_
      refine va_get (D := (dC, dI)) (ci := 2) (v := .int (P 8 0)) (C := R_Phrase) (T := F_Phrase) (N := 11) hx hb hts i_Phrase hown hK hP 0 rfl rfl 8 (by decide) (hts _ m_f_Phrase_37) (fun _ h9 => h9) rfl d_Phrase_openDescription_41 ?_
      refine lv_iconst (v := 0) hx hb d_Phrase_openDescription_44 (by decide) ?_
      refine va_iast (f := (P 6)) hx hb hK hP hD hS 6 0 rfl rfl (by have q9 := hok.1; have q8 := hok.2; have q10 := nc_lt c_131 rfl (L_30); have q11 := isPart_pos c_130; exact vp_in_iff.mpr ⟨by omega, by omega⟩) d_Phrase_openDescription_45 (fun H locs hP hD hS => ?_)
      have hP : va_P (dC, dI) classes (w_Phrase cA a (upf (upf P 5 (upd (P 5) ((P 8 0) : Int32).toNatClampNeg 0)) 6 (upd (P 6) ((P 8 0) : Int32).toNatClampNeg 0))) H := hP
      have hD : va_D A (w_Phrase cA a (upf (upf P 5 (upd (P 5) ((P 8 0) : Int32).toNatClampNeg 0)) 6 (upd (P 6) ((P 8 0) : Int32).toNatClampNeg 0))) := hD
      refine lv_aload_n hx hb d_Phrase_openDescription_46 rfl (lv_at hl 1 rfl) ?_
      refine va_get (D := (dC, dI)) (ci := 2) (v := .ref (a 7)) (C := R_Phrase) (T := F_Phrase) (N := 11) hx hb hts i_Phrase hown hK hP 0 rfl rfl 7 (by decide) (hts _ m_f_Phrase_34) (fun _ h9 => h9) rfl d_Phrase_openDescription_47 ?_
      refine lv_aload_n hx hb d_Phrase_openDescription_50 rfl (lv_at hl 1 rfl) ?_
      refine va_get (D := (dC, dI)) (ci := 2) (v := .int (P 8 0)) (C := R_Phrase) (T := F_Phrase) (N := 11) hx hb hts i_Phrase hown hK hP 0 rfl rfl 8 (by decide) (hts _ m_f_Phrase_37) (fun _ h9 => h9) rfl d_Phrase_openDescription_51 ?_
      refine lv_iconst (v := (-1)) hx hb d_Phrase_openDescription_54 (by decide) ?_
      refine va_iast (f := (P 7)) hx hb hK hP hD hS 7 0 rfl rfl (by have q9 := hok.1; have q8 := hok.2; have q10 := nc_lt c_131 rfl (L_30); have q11 := isPart_pos c_130; exact vp_in_iff.mpr ⟨by omega, by omega⟩) d_Phrase_openDescription_55 (fun H locs hP hD hS => ?_)
      have hP : va_P (dC, dI) classes (w_Phrase cA a (upf (upf (upf P 5 (upd (P 5) ((P 8 0) : Int32).toNatClampNeg 0)) 6 (upd (P 6) ((P 8 0) : Int32).toNatClampNeg 0)) 7 (upd (P 7) ((P 8 0) : Int32).toNatClampNeg (-1)))) H := hP
      have hD : va_D A (w_Phrase cA a (upf (upf (upf P 5 (upd (P 5) ((P 8 0) : Int32).toNatClampNeg 0)) 6 (upd (P 6) ((P 8 0) : Int32).toNatClampNeg 0)) 7 (upd (P 7) ((P 8 0) : Int32).toNatClampNeg (-1)))) := hD
      refine lv_aload_n hx hb d_Phrase_openDescription_56 rfl (lv_at hl 1 rfl) ?_
      refine lv_iconst (v := 0) hx hb d_Phrase_openDescription_57 (by decide) ?_
      refine va_put (D := (dC, dI)) (ci := 2) (v := .int 0) (ty := .int) (C := R_Phrase) (T := F_Phrase) (N := 11) hx hb hts i_Phrase t_Phrase t_Phrase_ok n_Phrase hown hK hP hD hS 0 rfl rfl 10 (by decide) (hts _ m_f_Phrase_43) (fun _ h9 => h9) rfl (by decide +kernel) rfl rfl (Nat.le_of_ble_eq_true rfl) d_Phrase_openDescription_58 (fun H locs hP hD hS => ?_)
      have hP : va_P (dC, dI) classes (w_Phrase cA a (upf (upf (upf (upf P 5 (upd (P 5) ((P 8 0) : Int32).toNatClampNeg 0)) 6 (upd (P 6) ((P 8 0) : Int32).toNatClampNeg 0)) 7 (upd (P 7) ((P 8 0) : Int32).toNatClampNeg (-1))) 10 (fun _ => 0))) H := hP
      have hD : va_D A (w_Phrase cA a (upf (upf (upf (upf P 5 (upd (P 5) ((P 8 0) : Int32).toNatClampNeg 0)) 6 (upd (P 6) ((P 8 0) : Int32).toNatClampNeg 0)) 7 (upd (P 7) ((P 8 0) : Int32).toNatClampNeg (-1))) 10 (fun _ => 0))) := hD
      refine lv_aload_n hx hb d_Phrase_openDescription_61 rfl (lv_at hl 1 rfl) ?_
      refine lv_dup hx hb d_Phrase_openDescription_62 rfl ?_
      refine va_get (D := (dC, dI)) (ci := 2) (v := .int (P 8 0)) (C := R_Phrase) (T := F_Phrase) (N := 11) hx hb hts i_Phrase hown hK hP 0 rfl rfl 8 (by decide) (hts _ m_f_Phrase_37) (fun _ h9 => h9) rfl d_Phrase_openDescription_63 ?_
      refine lv_iconst (v := 1) hx hb d_Phrase_openDescription_66 (by decide) ?_
      refine lv_iadd hx hb d_Phrase_openDescription_67 ?_
      refine va_put (D := (dC, dI)) (ci := 2) (v := .int ((P 8 0) + 1)) (ty := .int) (C := R_Phrase) (T := F_Phrase) (N := 11) hx hb hts i_Phrase t_Phrase t_Phrase_ok n_Phrase hown hK hP hD hS 0 rfl rfl 8 (by decide) (hts _ m_f_Phrase_37) (fun _ h9 => h9) rfl (by decide +kernel) rfl rfl (Nat.le_of_ble_eq_true rfl) d_Phrase_openDescription_68 (fun H locs hP hD hS => ?_)
      have hP : va_P (dC, dI) classes (w_Phrase cA a (upf (upf (upf (upf (upf P 5 (upd (P 5) ((P 8 0) : Int32).toNatClampNeg 0)) 6 (upd (P 6) ((P 8 0) : Int32).toNatClampNeg 0)) 7 (upd (P 7) ((P 8 0) : Int32).toNatClampNeg (-1))) 8 (fun _ => ((P 8 0) + 1))) 10 (fun _ => 0))) H := hP
      have hD : va_D A (w_Phrase cA a (upf (upf (upf (upf (upf P 5 (upd (P 5) ((P 8 0) : Int32).toNatClampNeg 0)) 6 (upd (P 6) ((P 8 0) : Int32).toNatClampNeg 0)) 7 (upd (P 7) ((P 8 0) : Int32).toNatClampNeg (-1))) 8 (fun _ => ((P 8 0) + 1))) 10 (fun _ => 0))) := hD
      refine lv_aload_n hx hb d_Phrase_openDescription_71 rfl (lv_at hl 1 rfl) ?_
      refine va_get (D := (dC, dI)) (ci := 2) (v := .ref (a 4)) (C := R_Phrase) (T := F_Phrase) (N := 11) hx hb hts i_Phrase hown hK hP 0 rfl rfl 3 (by decide) (hts _ m_f_Phrase_21) (fun _ h9 => h9) rfl d_Phrase_openDescription_72 ?_
      refine lv_iload_n hx hb d_Phrase_openDescription_75 rfl (lv_at hl 0 rfl) ?_
      refine lv_aload_n hx hb d_Phrase_openDescription_76 rfl (lv_at hl 1 rfl) ?_
      refine va_get (D := (dC, dI)) (ci := 2) (v := .int ((P 8 0) + 1)) (C := R_Phrase) (T := F_Phrase) (N := 11) hx hb hts i_Phrase hown hK hP 0 rfl rfl 8 (by decide) (hts _ m_f_Phrase_37) (fun _ h9 => h9) rfl d_Phrase_openDescription_77 ?_
      refine va_iast (f := (P 3)) hx hb hK hP hD hS 4 0 rfl rfl (by have q0 := nc_lt c_131 rfl (L_30); have q1 := isPart_pos c_130; exact vp_in_iff.mpr ⟨by omega, by omega⟩) d_Phrase_openDescription_80 (fun H locs hP hD hS => ?_)
      have hP : va_P (dC, dI) classes (w_Phrase cA a (upf (upf (upf (upf (upf (upf P 3 (upd (P 3) (((P 4 0) - 1) : Int32).toNatClampNeg ((P 8 0) + 1))) 5 (upd (P 5) ((P 8 0) : Int32).toNatClampNeg 0)) 6 (upd (P 6) ((P 8 0) : Int32).toNatClampNeg 0)) 7 (upd (P 7) ((P 8 0) : Int32).toNatClampNeg (-1))) 8 (fun _ => ((P 8 0) + 1))) 10 (fun _ => 0))) H := hP
      have hD : va_D A (w_Phrase cA a (upf (upf (upf (upf (upf (upf P 3 (upd (P 3) (((P 4 0) - 1) : Int32).toNatClampNeg ((P 8 0) + 1))) 5 (upd (P 5) ((P 8 0) : Int32).toNatClampNeg 0)) 6 (upd (P 6) ((P 8 0) : Int32).toNatClampNeg 0)) 7 (upd (P 7) ((P 8 0) : Int32).toNatClampNeg (-1))) 8 (fun _ => ((P 8 0) + 1))) 10 (fun _ => 0))) := hD
      refine lv_aload_n hx hb d_Phrase_openDescription_81 rfl (lv_at hl 1 rfl) ?_
      refine lv_iconst (v := 3) hx hb d_Phrase_openDescription_82 (by decide) ?_
      refine va_put (D := (dC, dI)) (ci := 2) (v := .int 3) (ty := .int) (C := R_Phrase) (T := F_Phrase) (N := 11) hx hb hts i_Phrase t_Phrase t_Phrase_ok n_Phrase hown hK hP hD hS 0 rfl rfl 9 (by decide) (hts _ m_f_Phrase_40) (fun _ h9 => h9) rfl (by decide +kernel) rfl rfl (Nat.le_of_ble_eq_true rfl) d_Phrase_openDescription_83 (fun H locs hP hD hS => ?_)
      have hP : va_P (dC, dI) classes (w_Phrase cA a (upf (upf (upf (upf (upf (upf (upf P 3 (upd (P 3) (((P 4 0) - 1) : Int32).toNatClampNeg ((P 8 0) + 1))) 5 (upd (P 5) ((P 8 0) : Int32).toNatClampNeg 0)) 6 (upd (P 6) ((P 8 0) : Int32).toNatClampNeg 0)) 7 (upd (P 7) ((P 8 0) : Int32).toNatClampNeg (-1))) 8 (fun _ => ((P 8 0) + 1))) 9 (fun _ => 3)) 10 (fun _ => 0))) H := hP
      have hD : va_D A (w_Phrase cA a (upf (upf (upf (upf (upf (upf (upf P 3 (upd (P 3) (((P 4 0) - 1) : Int32).toNatClampNeg ((P 8 0) + 1))) 5 (upd (P 5) ((P 8 0) : Int32).toNatClampNeg 0)) 6 (upd (P 6) ((P 8 0) : Int32).toNatClampNeg 0)) 7 (upd (P 7) ((P 8 0) : Int32).toNatClampNeg (-1))) 8 (fun _ => ((P 8 0) + 1))) 9 (fun _ => 3)) 10 (fun _ => 0))) := hD
      refine lv_iconst (v := 1) hx hb d_Phrase_openDescription_86 (by decide) ?_
      have hF : (f_Phrase_openDescription P) = (1, (upf (upf (upf (upf (upf (upf (upf P 3 (upd (P 3) (((P 4 0) - 1) : Int32).toNatClampNeg ((P 8 0) + 1))) 5 (upd (P 5) ((P 8 0) : Int32).toNatClampNeg 0)) 6 (upd (P 6) ((P 8 0) : Int32).toNatClampNeg 0)) 7 (upd (P 7) ((P 8 0) : Int32).toNatClampNeg (-1))) 8 (fun _ => ((P 8 0) + 1))) 9 (fun _ => 3)) 10 (fun _ => 0))) := by rw [f_Phrase_openDescription, if_neg c_130, if_pos c_131]
      exact W.zret (v := 1) hx hb hr rfl (fun t ht hW => ⟨⟨1, (), rfl, ⟨by rw [hF], rfl⟩, by rw [hF, ht]; exact hP, by rw [hF]; exact hD⟩, hS.F ht⟩) hS.2.2 d_Phrase_openDescription_87
    · refine lv_iconst (v := 0) hx hb d_Phrase_openDescription_24 (by decide) ?_
      have hF : (f_Phrase_openDescription P) = (0, P) := by rw [f_Phrase_openDescription, if_neg c_130, if_neg c_131]
      exact W.zret (v := 0) hx hb hr rfl (fun t ht hW => ⟨⟨0, (), rfl, ⟨by rw [hF], rfl⟩, by rw [hF, ht]; exact hP, by rw [hF]; exact hD⟩, hS.F ht⟩) hS.2.2 d_Phrase_openDescription_25
theorem ok_openDescription {P : Nat → Nat → Int32} (h : ph_ok P) : ph_ok (f_Phrase_openDescription P).2 := by
  unfold f_Phrase_openDescription
  split
  · exact h
  · split
    · rename_i c
      exact ⟨h.1, nc_i_step (nc_lt_nle c) h.2⟩
    · exact h
def f_Phrase_openMain (P : Nat → Nat → Int32) : Int32 × (Nat → Nat → Int32) := (if (f_Phrase_isPart P ((P 4 0) - 1)) = 0 then (0, P) else (if (f_Phrase_openDescription P).1 = 0 then (0, (f_Phrase_openDescription P).2) else (1, (upf (upf (f_Phrase_openDescription P).2 1 (upd ((f_Phrase_openDescription P).2 1) (((P 4 0) - 1) : Int32).toNatClampNeg (((f_Phrase_openDescription P).2 8 0) - 1))) 2 (upd ((f_Phrase_openDescription P).2 2) (((P 4 0) - 1) : Int32).toNatClampNeg ((f_Phrase_openDescription P).2 8 0))))))
abbrev ws_Phrase_openMain : List Cond := .code y_Phrase_openMain b_Phrase_openMain 2 (some .boolean) :: lw_G
abbrev rm_Phrase_openMain : Room := { frames := 2, cells := 0, slots := 0, locals := 42 }
set_option maxHeartbeats 4000000 in
set_option maxRecDepth 100000 in
theorem c_Phrase_openMain (l : Launch) (dC : Nat → ClassId) (dI : Nat → Nat → Nat) (cA : ClassId) (sz : Nat) (a : Nat → Nat) (P : Nat → Nat → Int32) (hok : ph_ok P) : Met l y_Phrase_openMain ws_Phrase_openMain rm_Phrase_openMain (nc_PreM (dC, dI) cA sz [.ref (a 0)] (w_Phrase cA a P)) (va_Qi (fun r (_ : Unit) => (r = (f_Phrase_openMain P).1 ∧ narrow .boolean (.int r) = .int r)) (fun _ t => va_P (dC, dI) classes (w_Phrase cA a (f_Phrase_openMain P).2) t.heap ∧ va_D (va_A (w_Phrase cA a P) sz) (w_Phrase cA a (f_Phrase_openMain P).2)) (va_A (w_Phrase cA a P) sz)) 0 0 (va_A (w_Phrase cA a P) sz) := by
  refine Met.ofW (cc := b_Phrase_openMain) (maxL := 2) (ret := (some .boolean)) (by decide) rfl ?_
  intro p e s m args below meth c s₁ B hml hv
  obtain ⟨rfl, hsz, hP, hK, hD0, hN⟩ := hv
  have hx := B.exec
  have hb := B.bytes
  have hr := B.returns
  have hts : ∀ w ∈ lw_G, w.before [.ref (a 0)].toArray s = true := fun w h => atoms_spec (ws := ws_Phrase_openMain) B.pre w (List.mem_cons_of_mem _ h)
  have hown : s.vm.findClass R_Phrase = some m.cls := findClass_of_methodNamed B.named
  have hlocks := B.notSynchronized
  have hfix : CallFix p m c b_Phrase_openMain 2 s [.ref (a 0)].toArray lw_G R_Phrase := ⟨hx, hb, hml, hown, hts⟩
  subst hsz
  have hD := hD0.self (sz := s.heap.size)
  generalize hAe : va_A (w_Phrase cA a P) s.heap.size = A at hD ⊢
  have hA : ∀ q : Nat, s.heap.size ≤ q → A q := fun q h => by rw [← hAe]; exact Or.inr h
  have hS : va_S A s.heap s.heap [] := va_S.rf
  have hl := lv_entry ([.ref (a 0)]) (n := 2) (Nat.le_of_ble_eq_true rfl)
  rw [lg_entry_eq]
  generalize (lg_sl ([.ref (a 0)]) ++ List.replicate (2 - (lg_sl ([.ref (a 0)])).length) Slot.unset).toArray = ls at hl ⊢
  have hl : lv_has ls 2 [(0, .ref (a 0))] := hl
  refine lv_aload_n hx hb d_Phrase_openMain_0 rfl (lv_at hl 0 rfl) ?_
  refine va_get (D := (dC, dI)) (ci := 2) (v := .int (P 4 0)) (C := R_Phrase) (T := F_Phrase) (N := 11) hx hb hts i_Phrase hown hK hP 0 rfl rfl 4 (by decide) (hts _ m_f_Phrase_24) (fun _ h9 => h9) rfl d_Phrase_openMain_1 ?_
  refine lv_iconst (v := 1) hx hb d_Phrase_openMain_4 (by decide) ?_
  refine lv_isub hx hb d_Phrase_openMain_5 ?_
  refine lv_istore_n (lv' := [(1, .int ((P 4 0) - 1)), (0, .ref (a 0))]) hx hb d_Phrase_openMain_6 rfl hl (by decide) rfl (fun ls hl => ?_)
  refine lv_aload_n hx hb d_Phrase_openMain_7 rfl (lv_at hl 1 rfl) ?_
  refine lv_iload_n hx hb d_Phrase_openMain_8 rfl (lv_at hl 0 rfl) ?_
  refine nc_ro (va_runV (As := [.int ((P 4 0) - 1)]) (rest := []) hfix (c_Phrase_isPart l dC dI cA a P ((P 4 0) - 1)) (k_Phrase_54 hts hN ⟨Nat.le_of_ble_eq_true rfl, Nat.le_of_ble_eq_true rfl⟩) (nc_preV hK hN hP hD rfl rfl) rfl rfl hl.1 rfl (lv_room (Nat.le_of_ble_eq_true rfl)) d_Phrase_openMain_9 ⟨Nat.zero_le _, Nat.zero_le _⟩) (fun r er => ?_)
  obtain ⟨rfl, hz_132⟩ := er
  refine lv_if_eq (tgt := 22) hx hb d_Phrase_openMain_12 (by decide) (fun c_133 => ?_) (fun c_133 => ?_)
  · refine lv_iconst (v := 0) hx hb d_Phrase_openMain_22 (by decide) ?_
    have hF : (f_Phrase_openMain P) = (0, P) := by rw [f_Phrase_openMain, if_pos c_133]
    exact W.zret (v := 0) hx hb hr rfl (fun t ht hW => ⟨⟨0, (), rfl, ⟨by rw [hF], rfl⟩, by rw [hF, ht]; exact hP, by rw [hF]; exact hD⟩, hS.F ht⟩) hS.2.2 d_Phrase_openMain_23
  · refine lv_aload_n hx hb d_Phrase_openMain_15 rfl (lv_at hl 1 rfl) ?_
    have hFc := nc_free hD hS hA
    refine nc_mui (va_runV (As := []) (rest := []) hfix (c_Phrase_openDescription l dC dI cA s.heap.size a P hok) (k_Phrase_67 hts hN ⟨Nat.le_of_ble_eq_true rfl, Nat.le_of_ble_eq_true rfl⟩) (nc_preVM hK hN hP hD rfl rfl) rfl rfl hl.1 rfl (lv_room (Nat.le_of_ble_eq_true rfl)) d_Phrase_openMain_16 ⟨Nat.zero_le _, Nat.zero_le _⟩) hS hFc (fun r H locs er hP1 hD1 hk1 hS => ?_)
    obtain ⟨rfl, hz_134⟩ := er
    have hP : va_P (dC, dI) classes (w_Phrase cA a (f_Phrase_openDescription P).2) H := hP1
    have hD : va_D A (w_Phrase cA a (f_Phrase_openDescription P).2) := hD1.weaken (fun _ q _ h => hFc q.1 h)
    refine lv_if_ne (tgt := 24) hx hb d_Phrase_openMain_19 (by decide) (fun c_135 => ?_) (fun c_135 => ?_)
    · refine lv_aload_n hx hb d_Phrase_openMain_24 rfl (lv_at hl 1 rfl) ?_
      refine va_get (D := (dC, dI)) (ci := 2) (v := .ref (a 2)) (C := R_Phrase) (T := F_Phrase) (N := 11) hx hb hts i_Phrase hown hK hP 0 rfl rfl 1 (by decide) (hts _ m_f_Phrase_15) (fun _ h9 => h9) rfl d_Phrase_openMain_25 ?_
      refine lv_iload_n hx hb d_Phrase_openMain_28 rfl (lv_at hl 0 rfl) ?_
      refine lv_aload_n hx hb d_Phrase_openMain_29 rfl (lv_at hl 1 rfl) ?_
      refine va_get (D := (dC, dI)) (ci := 2) (v := .int ((f_Phrase_openDescription P).2 8 0)) (C := R_Phrase) (T := F_Phrase) (N := 11) hx hb hts i_Phrase hown hK hP 0 rfl rfl 8 (by decide) (hts _ m_f_Phrase_37) (fun _ h9 => h9) rfl d_Phrase_openMain_30 ?_
      refine lv_iconst (v := 1) hx hb d_Phrase_openMain_33 (by decide) ?_
      refine lv_isub hx hb d_Phrase_openMain_34 ?_
      refine va_iast (f := ((f_Phrase_openDescription P).2 1)) hx hb hK hP hD hS 2 0 rfl rfl (by have q0 := isPart_pos c_133; exact vp_in_iff.mpr ⟨by omega, by omega⟩) d_Phrase_openMain_35 (fun H locs hP hD hS => ?_)
      have hP : va_P (dC, dI) classes (w_Phrase cA a (upf (f_Phrase_openDescription P).2 1 (upd ((f_Phrase_openDescription P).2 1) (((P 4 0) - 1) : Int32).toNatClampNeg (((f_Phrase_openDescription P).2 8 0) - 1)))) H := hP
      have hD : va_D A (w_Phrase cA a (upf (f_Phrase_openDescription P).2 1 (upd ((f_Phrase_openDescription P).2 1) (((P 4 0) - 1) : Int32).toNatClampNeg (((f_Phrase_openDescription P).2 8 0) - 1)))) := hD
      refine lv_aload_n hx hb d_Phrase_openMain_36 rfl (lv_at hl 1 rfl) ?_
      refine va_get (D := (dC, dI)) (ci := 2) (v := .ref (a 3)) (C := R_Phrase) (T := F_Phrase) (N := 11) hx hb hts i_Phrase hown hK hP 0 rfl rfl 2 (by decide) (hts _ m_f_Phrase_18) (fun _ h9 => h9) rfl d_Phrase_openMain_37 ?_
      refine lv_iload_n hx hb d_Phrase_openMain_40 rfl (lv_at hl 0 rfl) ?_
      refine lv_aload_n hx hb d_Phrase_openMain_41 rfl (lv_at hl 1 rfl) ?_
      refine va_get (D := (dC, dI)) (ci := 2) (v := .int ((f_Phrase_openDescription P).2 8 0)) (C := R_Phrase) (T := F_Phrase) (N := 11) hx hb hts i_Phrase hown hK hP 0 rfl rfl 8 (by decide) (hts _ m_f_Phrase_37) (fun _ h9 => h9) rfl d_Phrase_openMain_42 ?_
      refine va_iast (f := ((f_Phrase_openDescription P).2 2)) hx hb hK hP hD hS 3 0 rfl rfl (by have q0 := isPart_pos c_133; exact vp_in_iff.mpr ⟨by omega, by omega⟩) d_Phrase_openMain_45 (fun H locs hP hD hS => ?_)
      have hP : va_P (dC, dI) classes (w_Phrase cA a (upf (upf (f_Phrase_openDescription P).2 1 (upd ((f_Phrase_openDescription P).2 1) (((P 4 0) - 1) : Int32).toNatClampNeg (((f_Phrase_openDescription P).2 8 0) - 1))) 2 (upd ((f_Phrase_openDescription P).2 2) (((P 4 0) - 1) : Int32).toNatClampNeg ((f_Phrase_openDescription P).2 8 0)))) H := hP
      have hD : va_D A (w_Phrase cA a (upf (upf (f_Phrase_openDescription P).2 1 (upd ((f_Phrase_openDescription P).2 1) (((P 4 0) - 1) : Int32).toNatClampNeg (((f_Phrase_openDescription P).2 8 0) - 1))) 2 (upd ((f_Phrase_openDescription P).2 2) (((P 4 0) - 1) : Int32).toNatClampNeg ((f_Phrase_openDescription P).2 8 0)))) := hD
      refine lv_iconst (v := 1) hx hb d_Phrase_openMain_46 (by decide) ?_
      have hF : (f_Phrase_openMain P) = (1, (upf (upf (f_Phrase_openDescription P).2 1 (upd ((f_Phrase_openDescription P).2 1) (((P 4 0) - 1) : Int32).toNatClampNeg (((f_Phrase_openDescription P).2 8 0) - 1))) 2 (upd ((f_Phrase_openDescription P).2 2) (((P 4 0) - 1) : Int32).toNatClampNeg ((f_Phrase_openDescription P).2 8 0)))) := by rw [f_Phrase_openMain, if_neg c_133, if_neg c_135]
      exact W.zret (v := 1) hx hb hr rfl (fun t ht hW => ⟨⟨1, (), rfl, ⟨by rw [hF], rfl⟩, by rw [hF, ht]; exact hP, by rw [hF]; exact hD⟩, hS.F ht⟩) hS.2.2 d_Phrase_openMain_47
    · refine lv_iconst (v := 0) hx hb d_Phrase_openMain_22 (by decide) ?_
      have hF : (f_Phrase_openMain P) = (0, (f_Phrase_openDescription P).2) := by rw [f_Phrase_openMain, if_neg c_133, if_pos c_135]
      exact W.zret (v := 0) hx hb hr rfl (fun t ht hW => ⟨⟨0, (), rfl, ⟨by rw [hF], rfl⟩, by rw [hF, ht]; exact hP, by rw [hF]; exact hD⟩, hS.F ht⟩) hS.2.2 d_Phrase_openMain_23
theorem ok_openMain {P : Nat → Nat → Int32} (h : ph_ok P) : ph_ok (f_Phrase_openMain P).2 := by
  unfold f_Phrase_openMain
  split
  · exact h
  · split
    · exact ok_openDescription h
    · exact ok_openDescription h
def f_Phrase_addWord (P : Nat → Nat → Int32) (x1 : Int32) : Int32 × (Nat → Nat → Int32) := (if (f_Phrase_isOwn P ((P 8 0) - 1)) = 0 then (0, P) else (if (P 10 0) < 6 then (if (P 10 0) ≤ 0 then (1, (upf (upf (upf P 7 (upd (P 7) (((P 8 0) - 1) : Int32).toNatClampNeg x1)) 9 (fun _ => 4)) 10 (fun _ => ((P 10 0) + 1)))) else (1, (upf (upf (upf (upf P 6 (upd (P 6) (((P 8 0) - 1) : Int32).toNatClampNeg (((P 6) (((P 8 0) - 1)).toNatClampNeg) ||| ((1 : Int32) <<< (((P 7) (((P 8 0) - 1)).toNatClampNeg) &&& 31))))) 7 (upd (P 7) (((P 8 0) - 1) : Int32).toNatClampNeg x1)) 9 (fun _ => 4)) 10 (fun _ => ((P 10 0) + 1))))) else (0, P)))
abbrev ws_Phrase_addWord : List Cond := .code y_Phrase_addWord b_Phrase_addWord 3 (some .boolean) :: lw_G
abbrev rm_Phrase_addWord : Room := { frames := 1, cells := 0, slots := 0, locals := 21 }
set_option maxHeartbeats 4000000 in
set_option maxRecDepth 100000 in
theorem c_Phrase_addWord (l : Launch) (dC : Nat → ClassId) (dI : Nat → Nat → Nat) (cA : ClassId) (sz : Nat) (a : Nat → Nat) (P : Nat → Nat → Int32) (x1 : Int32) : Met l y_Phrase_addWord ws_Phrase_addWord rm_Phrase_addWord (nc_PreM (dC, dI) cA sz [.ref (a 0), .int x1] (w_Phrase cA a P)) (va_Qi (fun r (_ : Unit) => (r = (f_Phrase_addWord P x1).1 ∧ narrow .boolean (.int r) = .int r)) (fun _ t => va_P (dC, dI) classes (w_Phrase cA a (f_Phrase_addWord P x1).2) t.heap ∧ va_D (va_A (w_Phrase cA a P) sz) (w_Phrase cA a (f_Phrase_addWord P x1).2)) (va_A (w_Phrase cA a P) sz)) 0 0 (va_A (w_Phrase cA a P) sz) := by
  refine Met.ofW (cc := b_Phrase_addWord) (maxL := 3) (ret := (some .boolean)) (by decide) rfl ?_
  intro p e s m args below meth c s₁ B hml hv
  obtain ⟨rfl, hsz, hP, hK, hD0, hN⟩ := hv
  have hx := B.exec
  have hb := B.bytes
  have hr := B.returns
  have hts : ∀ w ∈ lw_G, w.before [.ref (a 0), .int x1].toArray s = true := fun w h => atoms_spec (ws := ws_Phrase_addWord) B.pre w (List.mem_cons_of_mem _ h)
  have hown : s.vm.findClass R_Phrase = some m.cls := findClass_of_methodNamed B.named
  have hlocks := B.notSynchronized
  have hfix : CallFix p m c b_Phrase_addWord 3 s [.ref (a 0), .int x1].toArray lw_G R_Phrase := ⟨hx, hb, hml, hown, hts⟩
  subst hsz
  have hD := hD0.self (sz := s.heap.size)
  generalize hAe : va_A (w_Phrase cA a P) s.heap.size = A at hD ⊢
  have hA : ∀ q : Nat, s.heap.size ≤ q → A q := fun q h => by rw [← hAe]; exact Or.inr h
  have hS : va_S A s.heap s.heap [] := va_S.rf
  have hl := lv_entry ([.ref (a 0), .int x1]) (n := 3) (Nat.le_of_ble_eq_true rfl)
  rw [lg_entry_eq]
  generalize (lg_sl ([.ref (a 0), .int x1]) ++ List.replicate (3 - (lg_sl ([.ref (a 0), .int x1])).length) Slot.unset).toArray = ls at hl ⊢
  have hl : lv_has ls 3 [(0, .ref (a 0)), (1, .int x1)] := hl
  refine lv_aload_n hx hb d_Phrase_addWord_0 rfl (lv_at hl 0 rfl) ?_
  refine va_get (D := (dC, dI)) (ci := 2) (v := .int (P 8 0)) (C := R_Phrase) (T := F_Phrase) (N := 11) hx hb hts i_Phrase hown hK hP 0 rfl rfl 8 (by decide) (hts _ m_f_Phrase_37) (fun _ h9 => h9) rfl d_Phrase_addWord_1 ?_
  refine lv_iconst (v := 1) hx hb d_Phrase_addWord_4 (by decide) ?_
  refine lv_isub hx hb d_Phrase_addWord_5 ?_
  refine lv_istore_n (lv' := [(2, .int ((P 8 0) - 1)), (0, .ref (a 0)), (1, .int x1)]) hx hb d_Phrase_addWord_6 rfl hl (by decide) rfl (fun ls hl => ?_)
  refine lv_aload_n hx hb d_Phrase_addWord_7 rfl (lv_at hl 1 rfl) ?_
  refine lv_iload_n hx hb d_Phrase_addWord_8 rfl (lv_at hl 0 rfl) ?_
  refine nc_ro (va_runV (As := [.int ((P 8 0) - 1)]) (rest := []) hfix (c_Phrase_isOwn l dC dI cA a P ((P 8 0) - 1)) (k_Phrase_57 hts hN ⟨Nat.le_of_ble_eq_true rfl, Nat.le_of_ble_eq_true rfl⟩) (nc_preV hK hN hP hD rfl rfl) rfl rfl hl.1 rfl (lv_room (Nat.le_of_ble_eq_true rfl)) d_Phrase_addWord_9 ⟨Nat.zero_le _, Nat.zero_le _⟩) (fun r er => ?_)
  obtain ⟨rfl, hz_136⟩ := er
  refine lv_if_eq (tgt := 24) hx hb d_Phrase_addWord_12 (by decide) (fun c_137 => ?_) (fun c_137 => ?_)
  · refine lv_iconst (v := 0) hx hb d_Phrase_addWord_24 (by decide) ?_
    have hF : (f_Phrase_addWord P x1) = (0, P) := by rw [f_Phrase_addWord, if_pos c_137]
    exact W.zret (v := 0) hx hb hr rfl (fun t ht hW => ⟨⟨0, (), rfl, ⟨by rw [hF], rfl⟩, by rw [hF, ht]; exact hP, by rw [hF]; exact hD⟩, hS.F ht⟩) hS.2.2 d_Phrase_addWord_25
  · refine lv_aload_n hx hb d_Phrase_addWord_15 rfl (lv_at hl 1 rfl) ?_
    refine va_get (D := (dC, dI)) (ci := 2) (v := .int (P 10 0)) (C := R_Phrase) (T := F_Phrase) (N := 11) hx hb hts i_Phrase hown hK hP 0 rfl rfl 10 (by decide) (hts _ m_f_Phrase_43) (fun _ h9 => h9) rfl d_Phrase_addWord_16 ?_
    refine lv_bipush (v := 6) hx hb d_Phrase_addWord_19 (by decide) ?_
    refine lv_icmp_lt (tgt := 26) hx hb d_Phrase_addWord_21 (by decide) (fun c_138 => ?_) (fun c_138 => ?_)
    · refine lv_aload_n hx hb d_Phrase_addWord_26 rfl (lv_at hl 1 rfl) ?_
      refine va_get (D := (dC, dI)) (ci := 2) (v := .int (P 10 0)) (C := R_Phrase) (T := F_Phrase) (N := 11) hx hb hts i_Phrase hown hK hP 0 rfl rfl 10 (by decide) (hts _ m_f_Phrase_43) (fun _ h9 => h9) rfl d_Phrase_addWord_27 ?_
      refine lv_if_le (tgt := 50) hx hb d_Phrase_addWord_30 (by decide) (fun c_139 => ?_) (fun c_139 => ?_)
      · refine lv_aload_n hx hb d_Phrase_addWord_50 rfl (lv_at hl 1 rfl) ?_
        refine va_get (D := (dC, dI)) (ci := 2) (v := .ref (a 7)) (C := R_Phrase) (T := F_Phrase) (N := 11) hx hb hts i_Phrase hown hK hP 0 rfl rfl 7 (by decide) (hts _ m_f_Phrase_34) (fun _ h9 => h9) rfl d_Phrase_addWord_51 ?_
        refine lv_iload_n hx hb d_Phrase_addWord_54 rfl (lv_at hl 0 rfl) ?_
        refine lv_iload_n hx hb d_Phrase_addWord_55 rfl (lv_at hl 2 rfl) ?_
        refine va_iast (f := (P 7)) hx hb hK hP hD hS 7 0 rfl rfl (by have q0 := nc_lt c_138 rfl (L_6); have q1 := nc_le c_139 rfl (L_0); have q2 := isOwn_pos c_137; exact vp_in_iff.mpr ⟨by omega, by omega⟩) d_Phrase_addWord_56 (fun H locs hP hD hS => ?_)
        have hP : va_P (dC, dI) classes (w_Phrase cA a (upf P 7 (upd (P 7) (((P 8 0) - 1) : Int32).toNatClampNeg x1))) H := hP
        have hD : va_D A (w_Phrase cA a (upf P 7 (upd (P 7) (((P 8 0) - 1) : Int32).toNatClampNeg x1))) := hD
        refine lv_aload_n hx hb d_Phrase_addWord_57 rfl (lv_at hl 1 rfl) ?_
        refine lv_dup hx hb d_Phrase_addWord_58 rfl ?_
        refine va_get (D := (dC, dI)) (ci := 2) (v := .int (P 10 0)) (C := R_Phrase) (T := F_Phrase) (N := 11) hx hb hts i_Phrase hown hK hP 0 rfl rfl 10 (by decide) (hts _ m_f_Phrase_43) (fun _ h9 => h9) rfl d_Phrase_addWord_59 ?_
        refine lv_iconst (v := 1) hx hb d_Phrase_addWord_62 (by decide) ?_
        refine lv_iadd hx hb d_Phrase_addWord_63 ?_
        refine va_put (D := (dC, dI)) (ci := 2) (v := .int ((P 10 0) + 1)) (ty := .int) (C := R_Phrase) (T := F_Phrase) (N := 11) hx hb hts i_Phrase t_Phrase t_Phrase_ok n_Phrase hown hK hP hD hS 0 rfl rfl 10 (by decide) (hts _ m_f_Phrase_43) (fun _ h9 => h9) rfl (by decide +kernel) rfl rfl (Nat.le_of_ble_eq_true rfl) d_Phrase_addWord_64 (fun H locs hP hD hS => ?_)
        have hP : va_P (dC, dI) classes (w_Phrase cA a (upf (upf P 7 (upd (P 7) (((P 8 0) - 1) : Int32).toNatClampNeg x1)) 10 (fun _ => ((P 10 0) + 1)))) H := hP
        have hD : va_D A (w_Phrase cA a (upf (upf P 7 (upd (P 7) (((P 8 0) - 1) : Int32).toNatClampNeg x1)) 10 (fun _ => ((P 10 0) + 1)))) := hD
        refine lv_aload_n hx hb d_Phrase_addWord_67 rfl (lv_at hl 1 rfl) ?_
        refine lv_iconst (v := 4) hx hb d_Phrase_addWord_68 (by decide) ?_
        refine va_put (D := (dC, dI)) (ci := 2) (v := .int 4) (ty := .int) (C := R_Phrase) (T := F_Phrase) (N := 11) hx hb hts i_Phrase t_Phrase t_Phrase_ok n_Phrase hown hK hP hD hS 0 rfl rfl 9 (by decide) (hts _ m_f_Phrase_40) (fun _ h9 => h9) rfl (by decide +kernel) rfl rfl (Nat.le_of_ble_eq_true rfl) d_Phrase_addWord_69 (fun H locs hP hD hS => ?_)
        have hP : va_P (dC, dI) classes (w_Phrase cA a (upf (upf (upf P 7 (upd (P 7) (((P 8 0) - 1) : Int32).toNatClampNeg x1)) 9 (fun _ => 4)) 10 (fun _ => ((P 10 0) + 1)))) H := hP
        have hD : va_D A (w_Phrase cA a (upf (upf (upf P 7 (upd (P 7) (((P 8 0) - 1) : Int32).toNatClampNeg x1)) 9 (fun _ => 4)) 10 (fun _ => ((P 10 0) + 1)))) := hD
        refine lv_iconst (v := 1) hx hb d_Phrase_addWord_72 (by decide) ?_
        have hF : (f_Phrase_addWord P x1) = (1, (upf (upf (upf P 7 (upd (P 7) (((P 8 0) - 1) : Int32).toNatClampNeg x1)) 9 (fun _ => 4)) 10 (fun _ => ((P 10 0) + 1)))) := by rw [f_Phrase_addWord, if_neg c_137, if_pos c_138, if_pos c_139]
        exact W.zret (v := 1) hx hb hr rfl (fun t ht hW => ⟨⟨1, (), rfl, ⟨by rw [hF], rfl⟩, by rw [hF, ht]; exact hP, by rw [hF]; exact hD⟩, hS.F ht⟩) hS.2.2 d_Phrase_addWord_73
      · refine lv_aload_n hx hb d_Phrase_addWord_33 rfl (lv_at hl 1 rfl) ?_
        refine va_get (D := (dC, dI)) (ci := 2) (v := .ref (a 6)) (C := R_Phrase) (T := F_Phrase) (N := 11) hx hb hts i_Phrase hown hK hP 0 rfl rfl 6 (by decide) (hts _ m_f_Phrase_31) (fun _ h9 => h9) rfl d_Phrase_addWord_34 ?_
        refine lv_iload_n hx hb d_Phrase_addWord_37 rfl (lv_at hl 0 rfl) ?_
        refine lv_dup2_11 hx hb d_Phrase_addWord_38 rfl rfl ?_
        refine va_iald (f := (P 6)) hx hb hK hP 6 0 rfl rfl (by have q0 := nc_lt c_138 rfl (L_6); have q1 := nc_nle c_139 rfl (L_0); have q2 := isOwn_pos c_137; exact vp_in_iff.mpr ⟨by omega, by omega⟩) d_Phrase_addWord_39 ?_
        refine lv_iconst (v := 1) hx hb d_Phrase_addWord_40 (by decide) ?_
        refine lv_aload_n hx hb d_Phrase_addWord_41 rfl (lv_at hl 1 rfl) ?_
        refine va_get (D := (dC, dI)) (ci := 2) (v := .ref (a 7)) (C := R_Phrase) (T := F_Phrase) (N := 11) hx hb hts i_Phrase hown hK hP 0 rfl rfl 7 (by decide) (hts _ m_f_Phrase_34) (fun _ h9 => h9) rfl d_Phrase_addWord_42 ?_
        refine lv_iload_n hx hb d_Phrase_addWord_45 rfl (lv_at hl 0 rfl) ?_
        refine va_iald (f := (P 7)) hx hb hK hP 7 0 rfl rfl (by have q0 := nc_lt c_138 rfl (L_6); have q1 := nc_nle c_139 rfl (L_0); have q2 := isOwn_pos c_137; exact vp_in_iff.mpr ⟨by omega, by omega⟩) d_Phrase_addWord_46 ?_
        refine lv_ishl hx hb d_Phrase_addWord_47 ?_
        refine lv_ior hx hb d_Phrase_addWord_48 ?_
        refine va_iast (f := (P 6)) hx hb hK hP hD hS 6 0 rfl rfl (by have q0 := nc_lt c_138 rfl (L_6); have q1 := nc_nle c_139 rfl (L_0); have q2 := isOwn_pos c_137; exact vp_in_iff.mpr ⟨by omega, by omega⟩) d_Phrase_addWord_49 (fun H locs hP hD hS => ?_)
        have hP : va_P (dC, dI) classes (w_Phrase cA a (upf P 6 (upd (P 6) (((P 8 0) - 1) : Int32).toNatClampNeg (((P 6) (((P 8 0) - 1)).toNatClampNeg) ||| ((1 : Int32) <<< (((P 7) (((P 8 0) - 1)).toNatClampNeg) &&& 31)))))) H := hP
        have hD : va_D A (w_Phrase cA a (upf P 6 (upd (P 6) (((P 8 0) - 1) : Int32).toNatClampNeg (((P 6) (((P 8 0) - 1)).toNatClampNeg) ||| ((1 : Int32) <<< (((P 7) (((P 8 0) - 1)).toNatClampNeg) &&& 31)))))) := hD
        refine lv_aload_n hx hb d_Phrase_addWord_50 rfl (lv_at hl 1 rfl) ?_
        refine va_get (D := (dC, dI)) (ci := 2) (v := .ref (a 7)) (C := R_Phrase) (T := F_Phrase) (N := 11) hx hb hts i_Phrase hown hK hP 0 rfl rfl 7 (by decide) (hts _ m_f_Phrase_34) (fun _ h9 => h9) rfl d_Phrase_addWord_51 ?_
        refine lv_iload_n hx hb d_Phrase_addWord_54 rfl (lv_at hl 0 rfl) ?_
        refine lv_iload_n hx hb d_Phrase_addWord_55 rfl (lv_at hl 2 rfl) ?_
        refine va_iast (f := (P 7)) hx hb hK hP hD hS 7 0 rfl rfl (by have q0 := nc_lt c_138 rfl (L_6); have q1 := nc_nle c_139 rfl (L_0); have q2 := isOwn_pos c_137; exact vp_in_iff.mpr ⟨by omega, by omega⟩) d_Phrase_addWord_56 (fun H locs hP hD hS => ?_)
        have hP : va_P (dC, dI) classes (w_Phrase cA a (upf (upf P 6 (upd (P 6) (((P 8 0) - 1) : Int32).toNatClampNeg (((P 6) (((P 8 0) - 1)).toNatClampNeg) ||| ((1 : Int32) <<< (((P 7) (((P 8 0) - 1)).toNatClampNeg) &&& 31))))) 7 (upd (P 7) (((P 8 0) - 1) : Int32).toNatClampNeg x1))) H := hP
        have hD : va_D A (w_Phrase cA a (upf (upf P 6 (upd (P 6) (((P 8 0) - 1) : Int32).toNatClampNeg (((P 6) (((P 8 0) - 1)).toNatClampNeg) ||| ((1 : Int32) <<< (((P 7) (((P 8 0) - 1)).toNatClampNeg) &&& 31))))) 7 (upd (P 7) (((P 8 0) - 1) : Int32).toNatClampNeg x1))) := hD
        refine lv_aload_n hx hb d_Phrase_addWord_57 rfl (lv_at hl 1 rfl) ?_
        refine lv_dup hx hb d_Phrase_addWord_58 rfl ?_
        refine va_get (D := (dC, dI)) (ci := 2) (v := .int (P 10 0)) (C := R_Phrase) (T := F_Phrase) (N := 11) hx hb hts i_Phrase hown hK hP 0 rfl rfl 10 (by decide) (hts _ m_f_Phrase_43) (fun _ h9 => h9) rfl d_Phrase_addWord_59 ?_
        refine lv_iconst (v := 1) hx hb d_Phrase_addWord_62 (by decide) ?_
        refine lv_iadd hx hb d_Phrase_addWord_63 ?_
        refine va_put (D := (dC, dI)) (ci := 2) (v := .int ((P 10 0) + 1)) (ty := .int) (C := R_Phrase) (T := F_Phrase) (N := 11) hx hb hts i_Phrase t_Phrase t_Phrase_ok n_Phrase hown hK hP hD hS 0 rfl rfl 10 (by decide) (hts _ m_f_Phrase_43) (fun _ h9 => h9) rfl (by decide +kernel) rfl rfl (Nat.le_of_ble_eq_true rfl) d_Phrase_addWord_64 (fun H locs hP hD hS => ?_)
        have hP : va_P (dC, dI) classes (w_Phrase cA a (upf (upf (upf P 6 (upd (P 6) (((P 8 0) - 1) : Int32).toNatClampNeg (((P 6) (((P 8 0) - 1)).toNatClampNeg) ||| ((1 : Int32) <<< (((P 7) (((P 8 0) - 1)).toNatClampNeg) &&& 31))))) 7 (upd (P 7) (((P 8 0) - 1) : Int32).toNatClampNeg x1)) 10 (fun _ => ((P 10 0) + 1)))) H := hP
        have hD : va_D A (w_Phrase cA a (upf (upf (upf P 6 (upd (P 6) (((P 8 0) - 1) : Int32).toNatClampNeg (((P 6) (((P 8 0) - 1)).toNatClampNeg) ||| ((1 : Int32) <<< (((P 7) (((P 8 0) - 1)).toNatClampNeg) &&& 31))))) 7 (upd (P 7) (((P 8 0) - 1) : Int32).toNatClampNeg x1)) 10 (fun _ => ((P 10 0) + 1)))) := hD
        refine lv_aload_n hx hb d_Phrase_addWord_67 rfl (lv_at hl 1 rfl) ?_
        refine lv_iconst (v := 4) hx hb d_Phrase_addWord_68 (by decide) ?_
        refine va_put (D := (dC, dI)) (ci := 2) (v := .int 4) (ty := .int) (C := R_Phrase) (T := F_Phrase) (N := 11) hx hb hts i_Phrase t_Phrase t_Phrase_ok n_Phrase hown hK hP hD hS 0 rfl rfl 9 (by decide) (hts _ m_f_Phrase_40) (fun _ h9 => h9) rfl (by decide +kernel) rfl rfl (Nat.le_of_ble_eq_true rfl) d_Phrase_addWord_69 (fun H locs hP hD hS => ?_)
        have hP : va_P (dC, dI) classes (w_Phrase cA a (upf (upf (upf (upf P 6 (upd (P 6) (((P 8 0) - 1) : Int32).toNatClampNeg (((P 6) (((P 8 0) - 1)).toNatClampNeg) ||| ((1 : Int32) <<< (((P 7) (((P 8 0) - 1)).toNatClampNeg) &&& 31))))) 7 (upd (P 7) (((P 8 0) - 1) : Int32).toNatClampNeg x1)) 9 (fun _ => 4)) 10 (fun _ => ((P 10 0) + 1)))) H := hP
        have hD : va_D A (w_Phrase cA a (upf (upf (upf (upf P 6 (upd (P 6) (((P 8 0) - 1) : Int32).toNatClampNeg (((P 6) (((P 8 0) - 1)).toNatClampNeg) ||| ((1 : Int32) <<< (((P 7) (((P 8 0) - 1)).toNatClampNeg) &&& 31))))) 7 (upd (P 7) (((P 8 0) - 1) : Int32).toNatClampNeg x1)) 9 (fun _ => 4)) 10 (fun _ => ((P 10 0) + 1)))) := hD
        refine lv_iconst (v := 1) hx hb d_Phrase_addWord_72 (by decide) ?_
        have hF : (f_Phrase_addWord P x1) = (1, (upf (upf (upf (upf P 6 (upd (P 6) (((P 8 0) - 1) : Int32).toNatClampNeg (((P 6) (((P 8 0) - 1)).toNatClampNeg) ||| ((1 : Int32) <<< (((P 7) (((P 8 0) - 1)).toNatClampNeg) &&& 31))))) 7 (upd (P 7) (((P 8 0) - 1) : Int32).toNatClampNeg x1)) 9 (fun _ => 4)) 10 (fun _ => ((P 10 0) + 1)))) := by rw [f_Phrase_addWord, if_neg c_137, if_pos c_138, if_neg c_139]
        exact W.zret (v := 1) hx hb hr rfl (fun t ht hW => ⟨⟨1, (), rfl, ⟨by rw [hF], rfl⟩, by rw [hF, ht]; exact hP, by rw [hF]; exact hD⟩, hS.F ht⟩) hS.2.2 d_Phrase_addWord_73
    · refine lv_iconst (v := 0) hx hb d_Phrase_addWord_24 (by decide) ?_
      have hF : (f_Phrase_addWord P x1) = (0, P) := by rw [f_Phrase_addWord, if_neg c_137, if_neg c_138]
      exact W.zret (v := 0) hx hb hr rfl (fun t ht hW => ⟨⟨0, (), rfl, ⟨by rw [hF], rfl⟩, by rw [hF, ht]; exact hP, by rw [hF]; exact hD⟩, hS.F ht⟩) hS.2.2 d_Phrase_addWord_25
theorem ok_addWord {P : Nat → Nat → Int32} {x1 : Int32} (h : ph_ok P) : ph_ok (f_Phrase_addWord P x1).2 := by
  unfold f_Phrase_addWord
  repeat' split
  all_goals exact h
def f_Phrase_takeInDescription (P : Nat → Nat → Int32) (x1 : Int32) : Int32 × (Nat → Nat → Int32) := (if (f_NC_isWord x1) = 0 then (if (f_NC_isArticle x1) = 0 then (0, P) else (if (f_Phrase_isOwn P ((P 8 0) - 1)) = 0 then (0, P) else (if 0 < (P 10 0) then (0, P) else (if (f_Phrase_tells P ((P 8 0) - 1) x1) = 0 then (1, (upf P 5 (upd (P 5) (((P 8 0) - 1) : Int32).toNatClampNeg (((P 5) (((P 8 0) - 1)).toNatClampNeg) ||| ((1 : Int32) <<< ((x1 - 30) &&& 31)))))) else (0, P))))) else ((f_Phrase_addWord P x1).1, (f_Phrase_addWord P x1).2))
abbrev ws_Phrase_takeInDescription : List Cond := .code y_Phrase_takeInDescription b_Phrase_takeInDescription 3 (some .boolean) :: lw_G
abbrev rm_Phrase_takeInDescription : Room := { frames := 2, cells := 0, slots := 0, locals := 43 }
set_option maxHeartbeats 4000000 in
set_option maxRecDepth 100000 in
theorem c_Phrase_takeInDescription (l : Launch) (dC : Nat → ClassId) (dI : Nat → Nat → Nat) (cA : ClassId) (sz : Nat) (a : Nat → Nat) (P : Nat → Nat → Int32) (x1 : Int32) : Met l y_Phrase_takeInDescription ws_Phrase_takeInDescription rm_Phrase_takeInDescription (nc_PreM (dC, dI) cA sz [.ref (a 0), .int x1] (w_Phrase cA a P)) (va_Qi (fun r (_ : Unit) => (r = (f_Phrase_takeInDescription P x1).1 ∧ narrow .boolean (.int r) = .int r)) (fun _ t => va_P (dC, dI) classes (w_Phrase cA a (f_Phrase_takeInDescription P x1).2) t.heap ∧ va_D (va_A (w_Phrase cA a P) sz) (w_Phrase cA a (f_Phrase_takeInDescription P x1).2)) (va_A (w_Phrase cA a P) sz)) 0 0 (va_A (w_Phrase cA a P) sz) := by
  refine Met.ofW (cc := b_Phrase_takeInDescription) (maxL := 3) (ret := (some .boolean)) (by decide) rfl ?_
  intro p e s m args below meth c s₁ B hml hv
  obtain ⟨rfl, hsz, hP, hK, hD0, hN⟩ := hv
  have hx := B.exec
  have hb := B.bytes
  have hr := B.returns
  have hts : ∀ w ∈ lw_G, w.before [.ref (a 0), .int x1].toArray s = true := fun w h => atoms_spec (ws := ws_Phrase_takeInDescription) B.pre w (List.mem_cons_of_mem _ h)
  have hown : s.vm.findClass R_Phrase = some m.cls := findClass_of_methodNamed B.named
  have hlocks := B.notSynchronized
  have hfix : CallFix p m c b_Phrase_takeInDescription 3 s [.ref (a 0), .int x1].toArray lw_G R_Phrase := ⟨hx, hb, hml, hown, hts⟩
  subst hsz
  have hD := hD0.self (sz := s.heap.size)
  generalize hAe : va_A (w_Phrase cA a P) s.heap.size = A at hD ⊢
  have hA : ∀ q : Nat, s.heap.size ≤ q → A q := fun q h => by rw [← hAe]; exact Or.inr h
  have hS : va_S A s.heap s.heap [] := va_S.rf
  have hl := lv_entry ([.ref (a 0), .int x1]) (n := 3) (Nat.le_of_ble_eq_true rfl)
  rw [lg_entry_eq]
  generalize (lg_sl ([.ref (a 0), .int x1]) ++ List.replicate (3 - (lg_sl ([.ref (a 0), .int x1])).length) Slot.unset).toArray = ls at hl ⊢
  have hl : lv_has ls 3 [(0, .ref (a 0)), (1, .int x1)] := hl
  refine lv_aload_n hx hb d_Phrase_takeInDescription_0 rfl (lv_at hl 0 rfl) ?_
  refine va_get (D := (dC, dI)) (ci := 2) (v := .int (P 8 0)) (C := R_Phrase) (T := F_Phrase) (N := 11) hx hb hts i_Phrase hown hK hP 0 rfl rfl 8 (by decide) (hts _ m_f_Phrase_37) (fun _ h9 => h9) rfl d_Phrase_takeInDescription_1 ?_
  refine lv_iconst (v := 1) hx hb d_Phrase_takeInDescription_4 (by decide) ?_
  refine lv_isub hx hb d_Phrase_takeInDescription_5 ?_
  refine lv_istore_n (lv' := [(2, .int ((P 8 0) - 1)), (0, .ref (a 0)), (1, .int x1)]) hx hb d_Phrase_takeInDescription_6 rfl hl (by decide) rfl (fun ls hl => ?_)
  refine lv_iload_n hx hb d_Phrase_takeInDescription_7 rfl (lv_at hl 2 rfl) ?_
  refine nc_ro (va_runSN (As := [.int x1]) (rest := []) hfix (c_NC_isWord l dC dI cA x1) (k_Phrase_89 hts hN ⟨Nat.le_of_ble_eq_true rfl, Nat.le_of_ble_eq_true rfl⟩) (nc_preS0 hK hN) rfl rfl hl.1 rfl (lv_room (Nat.le_of_ble_eq_true rfl)) d_Phrase_takeInDescription_8 ⟨Nat.zero_le _, Nat.zero_le _⟩) (fun r er => ?_)
  obtain ⟨rfl, hz_140⟩ := er
  refine lv_if_eq (tgt := 20) hx hb d_Phrase_takeInDescription_11 (by decide) (fun c_141 => ?_) (fun c_141 => ?_)
  · refine lv_iload_n hx hb d_Phrase_takeInDescription_20 rfl (lv_at hl 2 rfl) ?_
    refine nc_ro (va_runSN (As := [.int x1]) (rest := []) hfix (c_NC_isArticle l dC dI cA x1) (k_Phrase_95 hts hN ⟨Nat.le_of_ble_eq_true rfl, Nat.le_of_ble_eq_true rfl⟩) (nc_preS0 hK hN) rfl rfl hl.1 rfl (lv_room (Nat.le_of_ble_eq_true rfl)) d_Phrase_takeInDescription_21 ⟨Nat.zero_le _, Nat.zero_le _⟩) (fun r er => ?_)
    obtain ⟨rfl, hz_142⟩ := er
    refine lv_if_eq (tgt := 51) hx hb d_Phrase_takeInDescription_24 (by decide) (fun c_143 => ?_) (fun c_143 => ?_)
    · refine lv_iconst (v := 0) hx hb d_Phrase_takeInDescription_51 (by decide) ?_
      have hF : (f_Phrase_takeInDescription P x1) = (0, P) := by rw [f_Phrase_takeInDescription, if_pos c_141, if_pos c_143]
      exact W.zret (v := 0) hx hb hr rfl (fun t ht hW => ⟨⟨0, (), rfl, ⟨by rw [hF], rfl⟩, by rw [hF, ht]; exact hP, by rw [hF]; exact hD⟩, hS.F ht⟩) hS.2.2 d_Phrase_takeInDescription_52
    · refine lv_aload_n hx hb d_Phrase_takeInDescription_27 rfl (lv_at hl 1 rfl) ?_
      refine lv_iload_n hx hb d_Phrase_takeInDescription_28 rfl (lv_at hl 0 rfl) ?_
      refine nc_ro (va_runV (As := [.int ((P 8 0) - 1)]) (rest := []) hfix (c_Phrase_isOwn l dC dI cA a P ((P 8 0) - 1)) (k_Phrase_57 hts hN ⟨Nat.le_of_ble_eq_true rfl, Nat.le_of_ble_eq_true rfl⟩) (nc_preV hK hN hP hD rfl rfl) rfl rfl hl.1 rfl (lv_room (Nat.le_of_ble_eq_true rfl)) d_Phrase_takeInDescription_29 ⟨Nat.zero_le _, Nat.zero_le _⟩) (fun r er => ?_)
      obtain ⟨rfl, hz_144⟩ := er
      refine lv_if_eq (tgt := 51) hx hb d_Phrase_takeInDescription_32 (by decide) (fun c_145 => ?_) (fun c_145 => ?_)
      · refine lv_iconst (v := 0) hx hb d_Phrase_takeInDescription_51 (by decide) ?_
        have hF : (f_Phrase_takeInDescription P x1) = (0, P) := by rw [f_Phrase_takeInDescription, if_pos c_141, if_neg c_143, if_pos c_145]
        exact W.zret (v := 0) hx hb hr rfl (fun t ht hW => ⟨⟨0, (), rfl, ⟨by rw [hF], rfl⟩, by rw [hF, ht]; exact hP, by rw [hF]; exact hD⟩, hS.F ht⟩) hS.2.2 d_Phrase_takeInDescription_52
      · refine lv_aload_n hx hb d_Phrase_takeInDescription_35 rfl (lv_at hl 1 rfl) ?_
        refine va_get (D := (dC, dI)) (ci := 2) (v := .int (P 10 0)) (C := R_Phrase) (T := F_Phrase) (N := 11) hx hb hts i_Phrase hown hK hP 0 rfl rfl 10 (by decide) (hts _ m_f_Phrase_43) (fun _ h9 => h9) rfl d_Phrase_takeInDescription_36 ?_
        refine lv_if_gt (tgt := 51) hx hb d_Phrase_takeInDescription_39 (by decide) (fun c_146 => ?_) (fun c_146 => ?_)
        · refine lv_iconst (v := 0) hx hb d_Phrase_takeInDescription_51 (by decide) ?_
          have hF : (f_Phrase_takeInDescription P x1) = (0, P) := by rw [f_Phrase_takeInDescription, if_pos c_141, if_neg c_143, if_neg c_145, if_pos c_146]
          exact W.zret (v := 0) hx hb hr rfl (fun t ht hW => ⟨⟨0, (), rfl, ⟨by rw [hF], rfl⟩, by rw [hF, ht]; exact hP, by rw [hF]; exact hD⟩, hS.F ht⟩) hS.2.2 d_Phrase_takeInDescription_52
        · refine lv_aload_n hx hb d_Phrase_takeInDescription_42 rfl (lv_at hl 1 rfl) ?_
          refine lv_iload_n hx hb d_Phrase_takeInDescription_43 rfl (lv_at hl 0 rfl) ?_
          refine lv_iload_n hx hb d_Phrase_takeInDescription_44 rfl (lv_at hl 2 rfl) ?_
          refine nc_ro (va_runV (As := [.int ((P 8 0) - 1), .int x1]) (rest := []) hfix (c_Phrase_tells l dC dI cA a P ((P 8 0) - 1) x1) (k_Phrase_98 hts hN ⟨Nat.le_of_ble_eq_true rfl, Nat.le_of_ble_eq_true rfl⟩) (nc_preV hK hN hP hD rfl rfl) rfl rfl hl.1 rfl (lv_room (Nat.le_of_ble_eq_true rfl)) d_Phrase_takeInDescription_45 ⟨Nat.zero_le _, Nat.zero_le _⟩) (fun r er => ?_)
          obtain ⟨rfl, hz_147⟩ := er
          refine lv_if_eq (tgt := 53) hx hb d_Phrase_takeInDescription_48 (by decide) (fun c_148 => ?_) (fun c_148 => ?_)
          · refine lv_aload_n hx hb d_Phrase_takeInDescription_53 rfl (lv_at hl 1 rfl) ?_
            refine va_get (D := (dC, dI)) (ci := 2) (v := .ref (a 5)) (C := R_Phrase) (T := F_Phrase) (N := 11) hx hb hts i_Phrase hown hK hP 0 rfl rfl 5 (by decide) (hts _ m_f_Phrase_28) (fun _ h9 => h9) rfl d_Phrase_takeInDescription_54 ?_
            refine lv_iload_n hx hb d_Phrase_takeInDescription_57 rfl (lv_at hl 0 rfl) ?_
            refine lv_dup2_11 hx hb d_Phrase_takeInDescription_58 rfl rfl ?_
            refine va_iald (f := (P 5)) hx hb hK hP 5 0 rfl rfl (by have q0 := nc_eq c_141 rfl (L_0); have q1 := nc_nlt c_146 (L_0) rfl; have q2 := nc_eq c_148 rfl (L_0); have q3 := isOwn_pos c_145; exact vp_in_iff.mpr ⟨by omega, by omega⟩) d_Phrase_takeInDescription_59 ?_
            refine lv_iconst (v := 1) hx hb d_Phrase_takeInDescription_60 (by decide) ?_
            refine lv_iload_n hx hb d_Phrase_takeInDescription_61 rfl (lv_at hl 2 rfl) ?_
            refine lv_bipush (v := 30) hx hb d_Phrase_takeInDescription_62 (by decide) ?_
            refine lv_isub hx hb d_Phrase_takeInDescription_64 ?_
            refine lv_ishl hx hb d_Phrase_takeInDescription_65 ?_
            refine lv_ior hx hb d_Phrase_takeInDescription_66 ?_
            refine va_iast (f := (P 5)) hx hb hK hP hD hS 5 0 rfl rfl (by have q0 := nc_eq c_141 rfl (L_0); have q1 := nc_nlt c_146 (L_0) rfl; have q2 := nc_eq c_148 rfl (L_0); have q3 := isOwn_pos c_145; exact vp_in_iff.mpr ⟨by omega, by omega⟩) d_Phrase_takeInDescription_67 (fun H locs hP hD hS => ?_)
            have hP : va_P (dC, dI) classes (w_Phrase cA a (upf P 5 (upd (P 5) (((P 8 0) - 1) : Int32).toNatClampNeg (((P 5) (((P 8 0) - 1)).toNatClampNeg) ||| ((1 : Int32) <<< ((x1 - 30) &&& 31)))))) H := hP
            have hD : va_D A (w_Phrase cA a (upf P 5 (upd (P 5) (((P 8 0) - 1) : Int32).toNatClampNeg (((P 5) (((P 8 0) - 1)).toNatClampNeg) ||| ((1 : Int32) <<< ((x1 - 30) &&& 31)))))) := hD
            refine lv_iconst (v := 1) hx hb d_Phrase_takeInDescription_68 (by decide) ?_
            have hF : (f_Phrase_takeInDescription P x1) = (1, (upf P 5 (upd (P 5) (((P 8 0) - 1) : Int32).toNatClampNeg (((P 5) (((P 8 0) - 1)).toNatClampNeg) ||| ((1 : Int32) <<< ((x1 - 30) &&& 31)))))) := by rw [f_Phrase_takeInDescription, if_pos c_141, if_neg c_143, if_neg c_145, if_neg c_146, if_pos c_148]
            exact W.zret (v := 1) hx hb hr rfl (fun t ht hW => ⟨⟨1, (), rfl, ⟨by rw [hF], rfl⟩, by rw [hF, ht]; exact hP, by rw [hF]; exact hD⟩, hS.F ht⟩) hS.2.2 d_Phrase_takeInDescription_69
          · refine lv_iconst (v := 0) hx hb d_Phrase_takeInDescription_51 (by decide) ?_
            have hF : (f_Phrase_takeInDescription P x1) = (0, P) := by rw [f_Phrase_takeInDescription, if_pos c_141, if_neg c_143, if_neg c_145, if_neg c_146, if_neg c_148]
            exact W.zret (v := 0) hx hb hr rfl (fun t ht hW => ⟨⟨0, (), rfl, ⟨by rw [hF], rfl⟩, by rw [hF, ht]; exact hP, by rw [hF]; exact hD⟩, hS.F ht⟩) hS.2.2 d_Phrase_takeInDescription_52
  · refine lv_aload_n hx hb d_Phrase_takeInDescription_14 rfl (lv_at hl 1 rfl) ?_
    refine lv_iload_n hx hb d_Phrase_takeInDescription_15 rfl (lv_at hl 2 rfl) ?_
    have hFc := nc_free hD hS hA
    refine nc_mui (va_runV (As := [.int x1]) (rest := []) hfix (c_Phrase_addWord l dC dI cA s.heap.size a P x1) (k_Phrase_92 hts hN ⟨Nat.le_of_ble_eq_true rfl, Nat.le_of_ble_eq_true rfl⟩) (nc_preVM hK hN hP hD rfl rfl) rfl rfl hl.1 rfl (lv_room (Nat.le_of_ble_eq_true rfl)) d_Phrase_takeInDescription_16 ⟨Nat.zero_le _, Nat.zero_le _⟩) hS hFc (fun r H locs er hP1 hD1 hk1 hS => ?_)
    obtain ⟨rfl, hz_149⟩ := er
    have hP : va_P (dC, dI) classes (w_Phrase cA a (f_Phrase_addWord P x1).2) H := hP1
    have hD : va_D A (w_Phrase cA a (f_Phrase_addWord P x1).2) := hD1.weaken (fun _ q _ h => hFc q.1 h)
    have hF : (f_Phrase_takeInDescription P x1) = ((f_Phrase_addWord P x1).1, (f_Phrase_addWord P x1).2) := by rw [f_Phrase_takeInDescription, if_neg c_141]
    exact W.zret (v := (f_Phrase_addWord P x1).1) hx hb hr hz_149 (fun t ht hW => ⟨⟨(f_Phrase_addWord P x1).1, (), rfl, ⟨by rw [hF], hz_149⟩, by rw [hF, ht]; exact hP, by rw [hF]; exact hD⟩, hS.F ht⟩) hS.2.2 d_Phrase_takeInDescription_19
theorem ok_takeInDescription {P : Nat → Nat → Int32} {x1 : Int32} (h : ph_ok P) : ph_ok (f_Phrase_takeInDescription P x1).2 := by
  unfold f_Phrase_takeInDescription
  repeat' split
  all_goals first | exact h | exact ok_addWord h
def f_Phrase_takeAtPart (P : Nat → Nat → Int32) (x1 : Int32) : Int32 × (Nat → Nat → Int32) := (if (f_Phrase_openPart P).1 = 0 then (0, (f_Phrase_openPart P).2) else (if x1 = 34 then ((f_Phrase_setAmount (f_Phrase_openPart P).2 (-1) 1).1, (f_Phrase_setAmount (f_Phrase_openPart P).2 (-1) 1).2) else (if (f_NC_isNumber x1) = 0 then (if (f_Phrase_openMain (f_Phrase_openPart P).2).1 = 0 then (0, (f_Phrase_openMain (f_Phrase_openPart P).2).2) else (if (f_Phrase_takeInDescription (f_Phrase_openMain (f_Phrase_openPart P).2).2 x1).1 = 0 then (0, (f_Phrase_takeInDescription (f_Phrase_openMain (f_Phrase_openPart P).2).2 x1).2) else (1, (f_Phrase_takeInDescription (f_Phrase_openMain (f_Phrase_openPart P).2).2 x1).2))) else ((f_Phrase_setAmount (f_Phrase_openPart P).2 (x1 - 40) 2).1, (f_Phrase_setAmount (f_Phrase_openPart P).2 (x1 - 40) 2).2))))
abbrev ws_Phrase_takeAtPart : List Cond := .code y_Phrase_takeAtPart b_Phrase_takeAtPart 2 (some .boolean) :: lw_G
abbrev rm_Phrase_takeAtPart : Room := { frames := 3, cells := 0, slots := 0, locals := 65 }
set_option maxHeartbeats 4000000 in
set_option maxRecDepth 100000 in
theorem c_Phrase_takeAtPart (l : Launch) (dC : Nat → ClassId) (dI : Nat → Nat → Nat) (cA : ClassId) (sz : Nat) (a : Nat → Nat) (P : Nat → Nat → Int32) (x1 : Int32) (hok : ph_ok P) : Met l y_Phrase_takeAtPart ws_Phrase_takeAtPart rm_Phrase_takeAtPart (nc_PreM (dC, dI) cA sz [.ref (a 0), .int x1] (w_Phrase cA a P)) (va_Qi (fun r (_ : Unit) => (r = (f_Phrase_takeAtPart P x1).1 ∧ narrow .boolean (.int r) = .int r)) (fun _ t => va_P (dC, dI) classes (w_Phrase cA a (f_Phrase_takeAtPart P x1).2) t.heap ∧ va_D (va_A (w_Phrase cA a P) sz) (w_Phrase cA a (f_Phrase_takeAtPart P x1).2)) (va_A (w_Phrase cA a P) sz)) 0 0 (va_A (w_Phrase cA a P) sz) := by
  refine Met.ofW (cc := b_Phrase_takeAtPart) (maxL := 2) (ret := (some .boolean)) (by decide) rfl ?_
  intro p e s m args below meth c s₁ B hml hv
  obtain ⟨rfl, hsz, hP, hK, hD0, hN⟩ := hv
  have hx := B.exec
  have hb := B.bytes
  have hr := B.returns
  have hts : ∀ w ∈ lw_G, w.before [.ref (a 0), .int x1].toArray s = true := fun w h => atoms_spec (ws := ws_Phrase_takeAtPart) B.pre w (List.mem_cons_of_mem _ h)
  have hown : s.vm.findClass R_Phrase = some m.cls := findClass_of_methodNamed B.named
  have hlocks := B.notSynchronized
  have hfix : CallFix p m c b_Phrase_takeAtPart 2 s [.ref (a 0), .int x1].toArray lw_G R_Phrase := ⟨hx, hb, hml, hown, hts⟩
  subst hsz
  have hD := hD0.self (sz := s.heap.size)
  generalize hAe : va_A (w_Phrase cA a P) s.heap.size = A at hD ⊢
  have hA : ∀ q : Nat, s.heap.size ≤ q → A q := fun q h => by rw [← hAe]; exact Or.inr h
  have hS : va_S A s.heap s.heap [] := va_S.rf
  have hl := lv_entry ([.ref (a 0), .int x1]) (n := 2) (Nat.le_of_ble_eq_true rfl)
  rw [lg_entry_eq]
  generalize (lg_sl ([.ref (a 0), .int x1]) ++ List.replicate (2 - (lg_sl ([.ref (a 0), .int x1])).length) Slot.unset).toArray = ls at hl ⊢
  have hl : lv_has ls 2 [(0, .ref (a 0)), (1, .int x1)] := hl
  refine lv_aload_n hx hb d_Phrase_takeAtPart_0 rfl (lv_at hl 0 rfl) ?_
  have hFc := nc_free hD hS hA
  refine nc_mui (va_runV (As := []) (rest := []) hfix (c_Phrase_openPart l dC dI cA s.heap.size a P hok) (k_Phrase_79 hts hN ⟨Nat.le_of_ble_eq_true rfl, Nat.le_of_ble_eq_true rfl⟩) (nc_preVM hK hN hP hD rfl rfl) rfl rfl hl.1 rfl (lv_room (Nat.le_of_ble_eq_true rfl)) d_Phrase_takeAtPart_1 ⟨Nat.zero_le _, Nat.zero_le _⟩) hS hFc (fun r H locs er hP1 hD1 hk1 hS => ?_)
  obtain ⟨rfl, hz_150⟩ := er
  have hP : va_P (dC, dI) classes (w_Phrase cA a (f_Phrase_openPart P).2) H := hP1
  have hD : va_D A (w_Phrase cA a (f_Phrase_openPart P).2) := hD1.weaken (fun _ q _ h => hFc q.1 h)
  refine lv_if_ne (tgt := 9) hx hb d_Phrase_takeAtPart_4 (by decide) (fun c_151 => ?_) (fun c_151 => ?_)
  · refine lv_iload_n hx hb d_Phrase_takeAtPart_9 rfl (lv_at hl 1 rfl) ?_
    refine lv_bipush (v := 34) hx hb d_Phrase_takeAtPart_10 (by decide) ?_
    refine lv_icmp_ne (tgt := 22) hx hb d_Phrase_takeAtPart_12 (by decide) (fun c_152 => ?_) (fun c_152 => ?_)
    · refine lv_iload_n hx hb d_Phrase_takeAtPart_22 rfl (lv_at hl 1 rfl) ?_
      refine nc_ro (va_runSN (As := [.int x1]) (rest := []) hfix (c_NC_isNumber l dC dI cA x1) (k_Phrase_86 hts hN ⟨Nat.le_of_ble_eq_true rfl, Nat.le_of_ble_eq_true rfl⟩) (nc_preS0 hK hN) rfl rfl hl.1 rfl (lv_room (Nat.le_of_ble_eq_true rfl)) d_Phrase_takeAtPart_23 ⟨Nat.zero_le _, Nat.zero_le _⟩) (fun r er => ?_)
      obtain ⟨rfl, hz_153⟩ := er
      refine lv_if_eq (tgt := 39) hx hb d_Phrase_takeAtPart_26 (by decide) (fun c_154 => ?_) (fun c_154 => ?_)
      · refine lv_aload_n hx hb d_Phrase_takeAtPart_39 rfl (lv_at hl 0 rfl) ?_
        have hFc := nc_free hD hS hA
        refine nc_mui (va_runV (As := []) (rest := []) hfix (c_Phrase_openMain l dC dI cA H.size a (f_Phrase_openPart P).2 (ok_openPart hok)) (k_Phrase_73 hts hN ⟨Nat.le_of_ble_eq_true rfl, Nat.le_of_ble_eq_true rfl⟩) (nc_preVM hK hN hP hD rfl rfl) rfl rfl hl.1 rfl (lv_room (Nat.le_of_ble_eq_true rfl)) d_Phrase_takeAtPart_40 ⟨Nat.zero_le _, Nat.zero_le _⟩) hS hFc (fun r H locs er hP1 hD1 hk1 hS => ?_)
        obtain ⟨rfl, hz_155⟩ := er
        have hP : va_P (dC, dI) classes (w_Phrase cA a (f_Phrase_openMain (f_Phrase_openPart P).2).2) H := hP1
        have hD : va_D A (w_Phrase cA a (f_Phrase_openMain (f_Phrase_openPart P).2).2) := hD1.weaken (fun _ q _ h => hFc q.1 h)
        refine lv_if_eq (tgt := 58) hx hb d_Phrase_takeAtPart_43 (by decide) (fun c_156 => ?_) (fun c_156 => ?_)
        · refine lv_iconst (v := 0) hx hb d_Phrase_takeAtPart_58 (by decide) ?_
          have hF : (f_Phrase_takeAtPart P x1) = (0, (f_Phrase_openMain (f_Phrase_openPart P).2).2) := by rw [f_Phrase_takeAtPart, if_neg c_151, if_neg c_152, if_pos c_154, if_pos c_156]
          exact W.zret (v := 0) hx hb hr rfl (fun t ht hW => ⟨⟨0, (), rfl, ⟨by rw [hF], rfl⟩, by rw [hF, ht]; exact hP, by rw [hF]; exact hD⟩, hS.F ht⟩) hS.2.2 d_Phrase_takeAtPart_59
        · refine lv_aload_n hx hb d_Phrase_takeAtPart_46 rfl (lv_at hl 0 rfl) ?_
          refine lv_iload_n hx hb d_Phrase_takeAtPart_47 rfl (lv_at hl 1 rfl) ?_
          have hFc := nc_free hD hS hA
          refine nc_mui (va_runV (As := [.int x1]) (rest := []) hfix (c_Phrase_takeInDescription l dC dI cA H.size a (f_Phrase_openMain (f_Phrase_openPart P).2).2 x1) (k_Phrase_76 hts hN ⟨Nat.le_of_ble_eq_true rfl, Nat.le_of_ble_eq_true rfl⟩) (nc_preVM hK hN hP hD rfl rfl) rfl rfl hl.1 rfl (lv_room (Nat.le_of_ble_eq_true rfl)) d_Phrase_takeAtPart_48 ⟨Nat.zero_le _, Nat.zero_le _⟩) hS hFc (fun r H locs er hP1 hD1 hk1 hS => ?_)
          obtain ⟨rfl, hz_157⟩ := er
          have hP : va_P (dC, dI) classes (w_Phrase cA a (f_Phrase_takeInDescription (f_Phrase_openMain (f_Phrase_openPart P).2).2 x1).2) H := hP1
          have hD : va_D A (w_Phrase cA a (f_Phrase_takeInDescription (f_Phrase_openMain (f_Phrase_openPart P).2).2 x1).2) := hD1.weaken (fun _ q _ h => hFc q.1 h)
          refine lv_if_eq (tgt := 58) hx hb d_Phrase_takeAtPart_51 (by decide) (fun c_158 => ?_) (fun c_158 => ?_)
          · refine lv_iconst (v := 0) hx hb d_Phrase_takeAtPart_58 (by decide) ?_
            have hF : (f_Phrase_takeAtPart P x1) = (0, (f_Phrase_takeInDescription (f_Phrase_openMain (f_Phrase_openPart P).2).2 x1).2) := by rw [f_Phrase_takeAtPart, if_neg c_151, if_neg c_152, if_pos c_154, if_neg c_156, if_pos c_158]
            exact W.zret (v := 0) hx hb hr rfl (fun t ht hW => ⟨⟨0, (), rfl, ⟨by rw [hF], rfl⟩, by rw [hF, ht]; exact hP, by rw [hF]; exact hD⟩, hS.F ht⟩) hS.2.2 d_Phrase_takeAtPart_59
          · refine lv_iconst (v := 1) hx hb d_Phrase_takeAtPart_54 (by decide) ?_
            refine lv_goto (tgt := 59) hx hb d_Phrase_takeAtPart_55 (by decide) ?_
            have hF : (f_Phrase_takeAtPart P x1) = (1, (f_Phrase_takeInDescription (f_Phrase_openMain (f_Phrase_openPart P).2).2 x1).2) := by rw [f_Phrase_takeAtPart, if_neg c_151, if_neg c_152, if_pos c_154, if_neg c_156, if_neg c_158]
            exact W.zret (v := 1) hx hb hr rfl (fun t ht hW => ⟨⟨1, (), rfl, ⟨by rw [hF], rfl⟩, by rw [hF, ht]; exact hP, by rw [hF]; exact hD⟩, hS.F ht⟩) hS.2.2 d_Phrase_takeAtPart_59
      · refine lv_aload_n hx hb d_Phrase_takeAtPart_29 rfl (lv_at hl 0 rfl) ?_
        refine lv_iload_n hx hb d_Phrase_takeAtPart_30 rfl (lv_at hl 1 rfl) ?_
        refine lv_bipush (v := 40) hx hb d_Phrase_takeAtPart_31 (by decide) ?_
        refine lv_isub hx hb d_Phrase_takeAtPart_33 ?_
        refine lv_iconst (v := 2) hx hb d_Phrase_takeAtPart_34 (by decide) ?_
        have hFc := nc_free hD hS hA
        refine nc_mui (va_runV (As := [.int (x1 - 40), .int 2]) (rest := []) hfix (c_Phrase_setAmount l dC dI cA H.size a (f_Phrase_openPart P).2 (x1 - 40) 2) (k_Phrase_82 hts hN ⟨Nat.le_of_ble_eq_true rfl, Nat.le_of_ble_eq_true rfl⟩) (nc_preVM hK hN hP hD rfl rfl) rfl rfl hl.1 rfl (lv_room (Nat.le_of_ble_eq_true rfl)) d_Phrase_takeAtPart_35 ⟨Nat.zero_le _, Nat.zero_le _⟩) hS hFc (fun r H locs er hP1 hD1 hk1 hS => ?_)
        obtain ⟨rfl, hz_159⟩ := er
        have hP : va_P (dC, dI) classes (w_Phrase cA a (f_Phrase_setAmount (f_Phrase_openPart P).2 (x1 - 40) 2).2) H := hP1
        have hD : va_D A (w_Phrase cA a (f_Phrase_setAmount (f_Phrase_openPart P).2 (x1 - 40) 2).2) := hD1.weaken (fun _ q _ h => hFc q.1 h)
        have hF : (f_Phrase_takeAtPart P x1) = ((f_Phrase_setAmount (f_Phrase_openPart P).2 (x1 - 40) 2).1, (f_Phrase_setAmount (f_Phrase_openPart P).2 (x1 - 40) 2).2) := by rw [f_Phrase_takeAtPart, if_neg c_151, if_neg c_152, if_neg c_154]
        exact W.zret (v := (f_Phrase_setAmount (f_Phrase_openPart P).2 (x1 - 40) 2).1) hx hb hr hz_159 (fun t ht hW => ⟨⟨(f_Phrase_setAmount (f_Phrase_openPart P).2 (x1 - 40) 2).1, (), rfl, ⟨by rw [hF], hz_159⟩, by rw [hF, ht]; exact hP, by rw [hF]; exact hD⟩, hS.F ht⟩) hS.2.2 d_Phrase_takeAtPart_38
    · refine lv_aload_n hx hb d_Phrase_takeAtPart_15 rfl (lv_at hl 0 rfl) ?_
      refine lv_iconst (v := (-1)) hx hb d_Phrase_takeAtPart_16 (by decide) ?_
      refine lv_iconst (v := 1) hx hb d_Phrase_takeAtPart_17 (by decide) ?_
      have hFc := nc_free hD hS hA
      refine nc_mui (va_runV (As := [.int (-1), .int 1]) (rest := []) hfix (c_Phrase_setAmount l dC dI cA H.size a (f_Phrase_openPart P).2 (-1) 1) (k_Phrase_82 hts hN ⟨Nat.le_of_ble_eq_true rfl, Nat.le_of_ble_eq_true rfl⟩) (nc_preVM hK hN hP hD rfl rfl) rfl rfl hl.1 rfl (lv_room (Nat.le_of_ble_eq_true rfl)) d_Phrase_takeAtPart_18 ⟨Nat.zero_le _, Nat.zero_le _⟩) hS hFc (fun r H locs er hP1 hD1 hk1 hS => ?_)
      obtain ⟨rfl, hz_160⟩ := er
      have hP : va_P (dC, dI) classes (w_Phrase cA a (f_Phrase_setAmount (f_Phrase_openPart P).2 (-1) 1).2) H := hP1
      have hD : va_D A (w_Phrase cA a (f_Phrase_setAmount (f_Phrase_openPart P).2 (-1) 1).2) := hD1.weaken (fun _ q _ h => hFc q.1 h)
      have hF : (f_Phrase_takeAtPart P x1) = ((f_Phrase_setAmount (f_Phrase_openPart P).2 (-1) 1).1, (f_Phrase_setAmount (f_Phrase_openPart P).2 (-1) 1).2) := by rw [f_Phrase_takeAtPart, if_neg c_151, if_pos c_152]
      exact W.zret (v := (f_Phrase_setAmount (f_Phrase_openPart P).2 (-1) 1).1) hx hb hr hz_160 (fun t ht hW => ⟨⟨(f_Phrase_setAmount (f_Phrase_openPart P).2 (-1) 1).1, (), rfl, ⟨by rw [hF], hz_160⟩, by rw [hF, ht]; exact hP, by rw [hF]; exact hD⟩, hS.F ht⟩) hS.2.2 d_Phrase_takeAtPart_21
  · refine lv_iconst (v := 0) hx hb d_Phrase_takeAtPart_7 (by decide) ?_
    have hF : (f_Phrase_takeAtPart P x1) = (0, (f_Phrase_openPart P).2) := by rw [f_Phrase_takeAtPart, if_pos c_151]
    exact W.zret (v := 0) hx hb hr rfl (fun t ht hW => ⟨⟨0, (), rfl, ⟨by rw [hF], rfl⟩, by rw [hF, ht]; exact hP, by rw [hF]; exact hD⟩, hS.F ht⟩) hS.2.2 d_Phrase_takeAtPart_8
theorem ok_takeAtPart {P : Nat → Nat → Int32} {x1 : Int32} (h : ph_ok P) : ph_ok (f_Phrase_takeAtPart P x1).2 := by
  have h1 := ok_openPart h
  have h2 := ok_openMain h1
  unfold f_Phrase_takeAtPart
  split
  · exact h1
  · split
    · exact ok_setAmount h1
    · split
      · split
        · exact h2
        · split
          · exact ok_takeInDescription h2
          · exact ok_takeInDescription h2
      · exact ok_setAmount h1
def f_Phrase_take (P : Nat → Nat → Int32) (x1 : Int32) : Int32 × (Nat → Nat → Int32) := (if x1 = 36 then (if (f_Phrase_mayEnd P) = 0 then (0, P) else (if (f_Phrase_closePart P).1 = 0 then (0, (f_Phrase_closePart P).2) else (1, (f_Phrase_closePart P).2))) else (if x1 = 35 then (if (f_Phrase_mayEnd P) = 0 then (0, P) else (if (f_Phrase_amountOf P ((P 4 0) - 1)) = (-1) then (if (f_Phrase_openDescription P).1 = 0 then (0, (f_Phrase_openDescription P).2) else (1, (f_Phrase_openDescription P).2)) else (0, P))) else (if (P 9 0) = 0 then ((f_Phrase_takeAtPart P x1).1, (f_Phrase_takeAtPart P x1).2) else (if (P 9 0) = 1 then (if (f_Phrase_openMain P).1 = 0 then (0, (f_Phrase_openMain P).2) else (if x1 = 37 then (1, (f_Phrase_openMain P).2) else (if (f_Phrase_takeInDescription (f_Phrase_openMain P).2 x1).1 = 0 then (0, (f_Phrase_takeInDescription (f_Phrase_openMain P).2 x1).2) else (1, (f_Phrase_takeInDescription (f_Phrase_openMain P).2 x1).2)))) else (if (P 9 0) = 2 then (if (f_Phrase_openMain P).1 = 0 then (0, (f_Phrase_openMain P).2) else (if x1 = 37 then (1, (f_Phrase_openMain P).2) else (if (f_Phrase_takeInDescription (f_Phrase_openMain P).2 x1).1 = 0 then (0, (f_Phrase_takeInDescription (f_Phrase_openMain P).2 x1).2) else (1, (f_Phrase_takeInDescription (f_Phrase_openMain P).2 x1).2)))) else ((f_Phrase_takeInDescription P x1).1, (f_Phrase_takeInDescription P x1).2))))))
abbrev ws_Phrase_take : List Cond := .code y_Phrase_take b_Phrase_take 2 (some .boolean) :: lw_G
abbrev rm_Phrase_take : Room := { frames := 4, cells := 0, slots := 0, locals := 86 }
set_option maxHeartbeats 4000000 in
set_option maxRecDepth 100000 in
theorem c_Phrase_take (l : Launch) (dC : Nat → ClassId) (dI : Nat → Nat → Nat) (cA : ClassId) (sz : Nat) (a : Nat → Nat) (P : Nat → Nat → Int32) (x1 : Int32) (hok : ph_ok P) : Met l y_Phrase_take ws_Phrase_take rm_Phrase_take (nc_PreM (dC, dI) cA sz [.ref (a 0), .int x1] (w_Phrase cA a P)) (va_Qi (fun r (_ : Unit) => (r = (f_Phrase_take P x1).1 ∧ narrow .boolean (.int r) = .int r)) (fun _ t => va_P (dC, dI) classes (w_Phrase cA a (f_Phrase_take P x1).2) t.heap ∧ va_D (va_A (w_Phrase cA a P) sz) (w_Phrase cA a (f_Phrase_take P x1).2)) (va_A (w_Phrase cA a P) sz)) 0 0 (va_A (w_Phrase cA a P) sz) := by
  refine Met.ofW (cc := b_Phrase_take) (maxL := 2) (ret := (some .boolean)) (by decide) rfl ?_
  intro p e s m args below meth c s₁ B hml hv
  obtain ⟨rfl, hsz, hP, hK, hD0, hN⟩ := hv
  have hx := B.exec
  have hb := B.bytes
  have hr := B.returns
  have hts : ∀ w ∈ lw_G, w.before [.ref (a 0), .int x1].toArray s = true := fun w h => atoms_spec (ws := ws_Phrase_take) B.pre w (List.mem_cons_of_mem _ h)
  have hown : s.vm.findClass R_Phrase = some m.cls := findClass_of_methodNamed B.named
  have hlocks := B.notSynchronized
  have hfix : CallFix p m c b_Phrase_take 2 s [.ref (a 0), .int x1].toArray lw_G R_Phrase := ⟨hx, hb, hml, hown, hts⟩
  subst hsz
  have hD := hD0.self (sz := s.heap.size)
  generalize hAe : va_A (w_Phrase cA a P) s.heap.size = A at hD ⊢
  have hA : ∀ q : Nat, s.heap.size ≤ q → A q := fun q h => by rw [← hAe]; exact Or.inr h
  have hS : va_S A s.heap s.heap [] := va_S.rf
  have hl := lv_entry ([.ref (a 0), .int x1]) (n := 2) (Nat.le_of_ble_eq_true rfl)
  rw [lg_entry_eq]
  generalize (lg_sl ([.ref (a 0), .int x1]) ++ List.replicate (2 - (lg_sl ([.ref (a 0), .int x1])).length) Slot.unset).toArray = ls at hl ⊢
  have hl : lv_has ls 2 [(0, .ref (a 0)), (1, .int x1)] := hl
  refine lv_iload_n hx hb d_Phrase_take_0 rfl (lv_at hl 1 rfl) ?_
  refine lv_bipush (v := 36) hx hb d_Phrase_take_1 (by decide) ?_
  refine lv_icmp_ne (tgt := 26) hx hb d_Phrase_take_3 (by decide) (fun c_161 => ?_) (fun c_161 => ?_)
  · refine lv_iload_n hx hb d_Phrase_take_26 rfl (lv_at hl 1 rfl) ?_
    refine lv_bipush (v := 35) hx hb d_Phrase_take_27 (by decide) ?_
    refine lv_icmp_ne (tgt := 66) hx hb d_Phrase_take_29 (by decide) (fun c_162 => ?_) (fun c_162 => ?_)
    · refine lv_aload_n hx hb d_Phrase_take_66 rfl (lv_at hl 0 rfl) ?_
      refine va_get (D := (dC, dI)) (ci := 2) (v := .int (P 9 0)) (C := R_Phrase) (T := F_Phrase) (N := 11) hx hb hts i_Phrase hown hK hP 0 rfl rfl 9 (by decide) (hts _ m_f_Phrase_40) (fun _ h9 => h9) rfl d_Phrase_take_67 ?_
      refine lv_if_ne (tgt := 79) hx hb d_Phrase_take_70 (by decide) (fun c_163 => ?_) (fun c_163 => ?_)
      · refine lv_aload_n hx hb d_Phrase_take_79 rfl (lv_at hl 0 rfl) ?_
        refine va_get (D := (dC, dI)) (ci := 2) (v := .int (P 9 0)) (C := R_Phrase) (T := F_Phrase) (N := 11) hx hb hts i_Phrase hown hK hP 0 rfl rfl 9 (by decide) (hts _ m_f_Phrase_40) (fun _ h9 => h9) rfl d_Phrase_take_80 ?_
        refine lv_iconst (v := 1) hx hb d_Phrase_take_83 (by decide) ?_
        refine lv_icmp_eq (tgt := 95) hx hb d_Phrase_take_84 (by decide) (fun c_164 => ?_) (fun c_164 => ?_)
        · refine lv_aload_n hx hb d_Phrase_take_95 rfl (lv_at hl 0 rfl) ?_
          have hFc := nc_free hD hS hA
          refine nc_mui (va_runV (As := []) (rest := []) hfix (c_Phrase_openMain l dC dI cA s.heap.size a P hok) (k_Phrase_73 hts hN ⟨Nat.le_of_ble_eq_true rfl, Nat.le_of_ble_eq_true rfl⟩) (nc_preVM hK hN hP hD rfl rfl) rfl rfl hl.1 rfl (lv_room (Nat.le_of_ble_eq_true rfl)) d_Phrase_take_96 ⟨Nat.zero_le _, Nat.zero_le _⟩) hS hFc (fun r H locs er hP1 hD1 hk1 hS => ?_)
          obtain ⟨rfl, hz_165⟩ := er
          have hP : va_P (dC, dI) classes (w_Phrase cA a (f_Phrase_openMain P).2) H := hP1
          have hD : va_D A (w_Phrase cA a (f_Phrase_openMain P).2) := hD1.weaken (fun _ q _ h => hFc q.1 h)
          refine lv_if_eq (tgt := 120) hx hb d_Phrase_take_99 (by decide) (fun c_166 => ?_) (fun c_166 => ?_)
          · refine lv_iconst (v := 0) hx hb d_Phrase_take_120 (by decide) ?_
            have hF : (f_Phrase_take P x1) = (0, (f_Phrase_openMain P).2) := by rw [f_Phrase_take, if_neg c_161, if_neg c_162, if_neg c_163, if_pos c_164, if_pos c_166]
            exact W.zret (v := 0) hx hb hr rfl (fun t ht hW => ⟨⟨0, (), rfl, ⟨by rw [hF], rfl⟩, by rw [hF, ht]; exact hP, by rw [hF]; exact hD⟩, hS.F ht⟩) hS.2.2 d_Phrase_take_121
          · refine lv_iload_n hx hb d_Phrase_take_102 rfl (lv_at hl 1 rfl) ?_
            refine lv_bipush (v := 37) hx hb d_Phrase_take_103 (by decide) ?_
            refine lv_icmp_eq (tgt := 116) hx hb d_Phrase_take_105 (by decide) (fun c_167 => ?_) (fun c_167 => ?_)
            · refine lv_iconst (v := 1) hx hb d_Phrase_take_116 (by decide) ?_
              refine lv_goto (tgt := 121) hx hb d_Phrase_take_117 (by decide) ?_
              have hF : (f_Phrase_take P x1) = (1, (f_Phrase_openMain P).2) := by rw [f_Phrase_take, if_neg c_161, if_neg c_162, if_neg c_163, if_pos c_164, if_neg c_166, if_pos c_167]
              exact W.zret (v := 1) hx hb hr rfl (fun t ht hW => ⟨⟨1, (), rfl, ⟨by rw [hF], rfl⟩, by rw [hF, ht]; exact hP, by rw [hF]; exact hD⟩, hS.F ht⟩) hS.2.2 d_Phrase_take_121
            · refine lv_aload_n hx hb d_Phrase_take_108 rfl (lv_at hl 0 rfl) ?_
              refine lv_iload_n hx hb d_Phrase_take_109 rfl (lv_at hl 1 rfl) ?_
              have hFc := nc_free hD hS hA
              refine nc_mui (va_runV (As := [.int x1]) (rest := []) hfix (c_Phrase_takeInDescription l dC dI cA H.size a (f_Phrase_openMain P).2 x1) (k_Phrase_76 hts hN ⟨Nat.le_of_ble_eq_true rfl, Nat.le_of_ble_eq_true rfl⟩) (nc_preVM hK hN hP hD rfl rfl) rfl rfl hl.1 rfl (lv_room (Nat.le_of_ble_eq_true rfl)) d_Phrase_take_110 ⟨Nat.zero_le _, Nat.zero_le _⟩) hS hFc (fun r H locs er hP1 hD1 hk1 hS => ?_)
              obtain ⟨rfl, hz_168⟩ := er
              have hP : va_P (dC, dI) classes (w_Phrase cA a (f_Phrase_takeInDescription (f_Phrase_openMain P).2 x1).2) H := hP1
              have hD : va_D A (w_Phrase cA a (f_Phrase_takeInDescription (f_Phrase_openMain P).2 x1).2) := hD1.weaken (fun _ q _ h => hFc q.1 h)
              refine lv_if_eq (tgt := 120) hx hb d_Phrase_take_113 (by decide) (fun c_169 => ?_) (fun c_169 => ?_)
              · refine lv_iconst (v := 0) hx hb d_Phrase_take_120 (by decide) ?_
                have hF : (f_Phrase_take P x1) = (0, (f_Phrase_takeInDescription (f_Phrase_openMain P).2 x1).2) := by rw [f_Phrase_take, if_neg c_161, if_neg c_162, if_neg c_163, if_pos c_164, if_neg c_166, if_neg c_167, if_pos c_169]
                exact W.zret (v := 0) hx hb hr rfl (fun t ht hW => ⟨⟨0, (), rfl, ⟨by rw [hF], rfl⟩, by rw [hF, ht]; exact hP, by rw [hF]; exact hD⟩, hS.F ht⟩) hS.2.2 d_Phrase_take_121
              · refine lv_iconst (v := 1) hx hb d_Phrase_take_116 (by decide) ?_
                refine lv_goto (tgt := 121) hx hb d_Phrase_take_117 (by decide) ?_
                have hF : (f_Phrase_take P x1) = (1, (f_Phrase_takeInDescription (f_Phrase_openMain P).2 x1).2) := by rw [f_Phrase_take, if_neg c_161, if_neg c_162, if_neg c_163, if_pos c_164, if_neg c_166, if_neg c_167, if_neg c_169]
                exact W.zret (v := 1) hx hb hr rfl (fun t ht hW => ⟨⟨1, (), rfl, ⟨by rw [hF], rfl⟩, by rw [hF, ht]; exact hP, by rw [hF]; exact hD⟩, hS.F ht⟩) hS.2.2 d_Phrase_take_121
        · refine lv_aload_n hx hb d_Phrase_take_87 rfl (lv_at hl 0 rfl) ?_
          refine va_get (D := (dC, dI)) (ci := 2) (v := .int (P 9 0)) (C := R_Phrase) (T := F_Phrase) (N := 11) hx hb hts i_Phrase hown hK hP 0 rfl rfl 9 (by decide) (hts _ m_f_Phrase_40) (fun _ h9 => h9) rfl d_Phrase_take_88 ?_
          refine lv_iconst (v := 2) hx hb d_Phrase_take_91 (by decide) ?_
          refine lv_icmp_ne (tgt := 122) hx hb d_Phrase_take_92 (by decide) (fun c_170 => ?_) (fun c_170 => ?_)
          · refine lv_aload_n hx hb d_Phrase_take_122 rfl (lv_at hl 0 rfl) ?_
            refine lv_iload_n hx hb d_Phrase_take_123 rfl (lv_at hl 1 rfl) ?_
            have hFc := nc_free hD hS hA
            refine nc_mui (va_runV (As := [.int x1]) (rest := []) hfix (c_Phrase_takeInDescription l dC dI cA s.heap.size a P x1) (k_Phrase_76 hts hN ⟨Nat.le_of_ble_eq_true rfl, Nat.le_of_ble_eq_true rfl⟩) (nc_preVM hK hN hP hD rfl rfl) rfl rfl hl.1 rfl (lv_room (Nat.le_of_ble_eq_true rfl)) d_Phrase_take_124 ⟨Nat.zero_le _, Nat.zero_le _⟩) hS hFc (fun r H locs er hP1 hD1 hk1 hS => ?_)
            obtain ⟨rfl, hz_171⟩ := er
            have hP : va_P (dC, dI) classes (w_Phrase cA a (f_Phrase_takeInDescription P x1).2) H := hP1
            have hD : va_D A (w_Phrase cA a (f_Phrase_takeInDescription P x1).2) := hD1.weaken (fun _ q _ h => hFc q.1 h)
            have hF : (f_Phrase_take P x1) = ((f_Phrase_takeInDescription P x1).1, (f_Phrase_takeInDescription P x1).2) := by rw [f_Phrase_take, if_neg c_161, if_neg c_162, if_neg c_163, if_neg c_164, if_neg c_170]
            exact W.zret (v := (f_Phrase_takeInDescription P x1).1) hx hb hr hz_171 (fun t ht hW => ⟨⟨(f_Phrase_takeInDescription P x1).1, (), rfl, ⟨by rw [hF], hz_171⟩, by rw [hF, ht]; exact hP, by rw [hF]; exact hD⟩, hS.F ht⟩) hS.2.2 d_Phrase_take_127
          · refine lv_aload_n hx hb d_Phrase_take_95 rfl (lv_at hl 0 rfl) ?_
            have hFc := nc_free hD hS hA
            refine nc_mui (va_runV (As := []) (rest := []) hfix (c_Phrase_openMain l dC dI cA s.heap.size a P hok) (k_Phrase_73 hts hN ⟨Nat.le_of_ble_eq_true rfl, Nat.le_of_ble_eq_true rfl⟩) (nc_preVM hK hN hP hD rfl rfl) rfl rfl hl.1 rfl (lv_room (Nat.le_of_ble_eq_true rfl)) d_Phrase_take_96 ⟨Nat.zero_le _, Nat.zero_le _⟩) hS hFc (fun r H locs er hP1 hD1 hk1 hS => ?_)
            obtain ⟨rfl, hz_172⟩ := er
            have hP : va_P (dC, dI) classes (w_Phrase cA a (f_Phrase_openMain P).2) H := hP1
            have hD : va_D A (w_Phrase cA a (f_Phrase_openMain P).2) := hD1.weaken (fun _ q _ h => hFc q.1 h)
            refine lv_if_eq (tgt := 120) hx hb d_Phrase_take_99 (by decide) (fun c_173 => ?_) (fun c_173 => ?_)
            · refine lv_iconst (v := 0) hx hb d_Phrase_take_120 (by decide) ?_
              have hF : (f_Phrase_take P x1) = (0, (f_Phrase_openMain P).2) := by rw [f_Phrase_take, if_neg c_161, if_neg c_162, if_neg c_163, if_neg c_164, if_pos c_170, if_pos c_173]
              exact W.zret (v := 0) hx hb hr rfl (fun t ht hW => ⟨⟨0, (), rfl, ⟨by rw [hF], rfl⟩, by rw [hF, ht]; exact hP, by rw [hF]; exact hD⟩, hS.F ht⟩) hS.2.2 d_Phrase_take_121
            · refine lv_iload_n hx hb d_Phrase_take_102 rfl (lv_at hl 1 rfl) ?_
              refine lv_bipush (v := 37) hx hb d_Phrase_take_103 (by decide) ?_
              refine lv_icmp_eq (tgt := 116) hx hb d_Phrase_take_105 (by decide) (fun c_174 => ?_) (fun c_174 => ?_)
              · refine lv_iconst (v := 1) hx hb d_Phrase_take_116 (by decide) ?_
                refine lv_goto (tgt := 121) hx hb d_Phrase_take_117 (by decide) ?_
                have hF : (f_Phrase_take P x1) = (1, (f_Phrase_openMain P).2) := by rw [f_Phrase_take, if_neg c_161, if_neg c_162, if_neg c_163, if_neg c_164, if_pos c_170, if_neg c_173, if_pos c_174]
                exact W.zret (v := 1) hx hb hr rfl (fun t ht hW => ⟨⟨1, (), rfl, ⟨by rw [hF], rfl⟩, by rw [hF, ht]; exact hP, by rw [hF]; exact hD⟩, hS.F ht⟩) hS.2.2 d_Phrase_take_121
              · refine lv_aload_n hx hb d_Phrase_take_108 rfl (lv_at hl 0 rfl) ?_
                refine lv_iload_n hx hb d_Phrase_take_109 rfl (lv_at hl 1 rfl) ?_
                have hFc := nc_free hD hS hA
                refine nc_mui (va_runV (As := [.int x1]) (rest := []) hfix (c_Phrase_takeInDescription l dC dI cA H.size a (f_Phrase_openMain P).2 x1) (k_Phrase_76 hts hN ⟨Nat.le_of_ble_eq_true rfl, Nat.le_of_ble_eq_true rfl⟩) (nc_preVM hK hN hP hD rfl rfl) rfl rfl hl.1 rfl (lv_room (Nat.le_of_ble_eq_true rfl)) d_Phrase_take_110 ⟨Nat.zero_le _, Nat.zero_le _⟩) hS hFc (fun r H locs er hP1 hD1 hk1 hS => ?_)
                obtain ⟨rfl, hz_175⟩ := er
                have hP : va_P (dC, dI) classes (w_Phrase cA a (f_Phrase_takeInDescription (f_Phrase_openMain P).2 x1).2) H := hP1
                have hD : va_D A (w_Phrase cA a (f_Phrase_takeInDescription (f_Phrase_openMain P).2 x1).2) := hD1.weaken (fun _ q _ h => hFc q.1 h)
                refine lv_if_eq (tgt := 120) hx hb d_Phrase_take_113 (by decide) (fun c_176 => ?_) (fun c_176 => ?_)
                · refine lv_iconst (v := 0) hx hb d_Phrase_take_120 (by decide) ?_
                  have hF : (f_Phrase_take P x1) = (0, (f_Phrase_takeInDescription (f_Phrase_openMain P).2 x1).2) := by rw [f_Phrase_take, if_neg c_161, if_neg c_162, if_neg c_163, if_neg c_164, if_pos c_170, if_neg c_173, if_neg c_174, if_pos c_176]
                  exact W.zret (v := 0) hx hb hr rfl (fun t ht hW => ⟨⟨0, (), rfl, ⟨by rw [hF], rfl⟩, by rw [hF, ht]; exact hP, by rw [hF]; exact hD⟩, hS.F ht⟩) hS.2.2 d_Phrase_take_121
                · refine lv_iconst (v := 1) hx hb d_Phrase_take_116 (by decide) ?_
                  refine lv_goto (tgt := 121) hx hb d_Phrase_take_117 (by decide) ?_
                  have hF : (f_Phrase_take P x1) = (1, (f_Phrase_takeInDescription (f_Phrase_openMain P).2 x1).2) := by rw [f_Phrase_take, if_neg c_161, if_neg c_162, if_neg c_163, if_neg c_164, if_pos c_170, if_neg c_173, if_neg c_174, if_neg c_176]
                  exact W.zret (v := 1) hx hb hr rfl (fun t ht hW => ⟨⟨1, (), rfl, ⟨by rw [hF], rfl⟩, by rw [hF, ht]; exact hP, by rw [hF]; exact hD⟩, hS.F ht⟩) hS.2.2 d_Phrase_take_121
      · refine lv_aload_n hx hb d_Phrase_take_73 rfl (lv_at hl 0 rfl) ?_
        refine lv_iload_n hx hb d_Phrase_take_74 rfl (lv_at hl 1 rfl) ?_
        have hFc := nc_free hD hS hA
        refine nc_mui (va_runV (As := [.int x1]) (rest := []) hfix (c_Phrase_takeAtPart l dC dI cA s.heap.size a P x1 hok) (k_Phrase_70 hts hN ⟨Nat.le_of_ble_eq_true rfl, Nat.le_of_ble_eq_true rfl⟩) (nc_preVM hK hN hP hD rfl rfl) rfl rfl hl.1 rfl (lv_room (Nat.le_of_ble_eq_true rfl)) d_Phrase_take_75 ⟨Nat.zero_le _, Nat.zero_le _⟩) hS hFc (fun r H locs er hP1 hD1 hk1 hS => ?_)
        obtain ⟨rfl, hz_177⟩ := er
        have hP : va_P (dC, dI) classes (w_Phrase cA a (f_Phrase_takeAtPart P x1).2) H := hP1
        have hD : va_D A (w_Phrase cA a (f_Phrase_takeAtPart P x1).2) := hD1.weaken (fun _ q _ h => hFc q.1 h)
        have hF : (f_Phrase_take P x1) = ((f_Phrase_takeAtPart P x1).1, (f_Phrase_takeAtPart P x1).2) := by rw [f_Phrase_take, if_neg c_161, if_neg c_162, if_pos c_163]
        exact W.zret (v := (f_Phrase_takeAtPart P x1).1) hx hb hr hz_177 (fun t ht hW => ⟨⟨(f_Phrase_takeAtPart P x1).1, (), rfl, ⟨by rw [hF], hz_177⟩, by rw [hF, ht]; exact hP, by rw [hF]; exact hD⟩, hS.F ht⟩) hS.2.2 d_Phrase_take_78
    · refine lv_aload_n hx hb d_Phrase_take_32 rfl (lv_at hl 0 rfl) ?_
      refine nc_ro (va_runV (As := []) (rest := []) hfix (c_Phrase_mayEnd l dC dI cA a P) (k_Phrase_50 hts hN ⟨Nat.le_of_ble_eq_true rfl, Nat.le_of_ble_eq_true rfl⟩) (nc_preV hK hN hP hD rfl rfl) rfl rfl hl.1 rfl (lv_room (Nat.le_of_ble_eq_true rfl)) d_Phrase_take_33 ⟨Nat.zero_le _, Nat.zero_le _⟩) (fun r er => ?_)
      obtain ⟨rfl, hz_178⟩ := er
      refine lv_if_eq (tgt := 64) hx hb d_Phrase_take_36 (by decide) (fun c_179 => ?_) (fun c_179 => ?_)
      · refine lv_iconst (v := 0) hx hb d_Phrase_take_64 (by decide) ?_
        have hF : (f_Phrase_take P x1) = (0, P) := by rw [f_Phrase_take, if_neg c_161, if_pos c_162, if_pos c_179]
        exact W.zret (v := 0) hx hb hr rfl (fun t ht hW => ⟨⟨0, (), rfl, ⟨by rw [hF], rfl⟩, by rw [hF, ht]; exact hP, by rw [hF]; exact hD⟩, hS.F ht⟩) hS.2.2 d_Phrase_take_65
      · refine lv_aload_n hx hb d_Phrase_take_39 rfl (lv_at hl 0 rfl) ?_
        refine lv_aload_n hx hb d_Phrase_take_40 rfl (lv_at hl 0 rfl) ?_
        refine va_get (D := (dC, dI)) (ci := 2) (v := .int (P 4 0)) (C := R_Phrase) (T := F_Phrase) (N := 11) hx hb hts i_Phrase hown hK hP 0 rfl rfl 4 (by decide) (hts _ m_f_Phrase_24) (fun _ h9 => h9) rfl d_Phrase_take_41 ?_
        refine lv_iconst (v := 1) hx hb d_Phrase_take_44 (by decide) ?_
        refine lv_isub hx hb d_Phrase_take_45 ?_
        refine nc_ro (va_runV (As := [.int ((P 4 0) - 1)]) (rest := []) hfix (c_Phrase_amountOf l dC dI cA a P ((P 4 0) - 1)) (k_Phrase_63 hts hN ⟨Nat.le_of_ble_eq_true rfl, Nat.le_of_ble_eq_true rfl⟩) (nc_preV hK hN hP hD rfl rfl) rfl rfl hl.1 rfl (lv_room (Nat.le_of_ble_eq_true rfl)) d_Phrase_take_46 ⟨Nat.zero_le _, Nat.zero_le _⟩) (fun r er => ?_)
        subst er
        refine lv_iconst (v := (-1)) hx hb d_Phrase_take_49 (by decide) ?_
        refine lv_icmp_ne (tgt := 64) hx hb d_Phrase_take_50 (by decide) (fun c_180 => ?_) (fun c_180 => ?_)
        · refine lv_iconst (v := 0) hx hb d_Phrase_take_64 (by decide) ?_
          have hF : (f_Phrase_take P x1) = (0, P) := by rw [f_Phrase_take, if_neg c_161, if_pos c_162, if_neg c_179, if_neg c_180]
          exact W.zret (v := 0) hx hb hr rfl (fun t ht hW => ⟨⟨0, (), rfl, ⟨by rw [hF], rfl⟩, by rw [hF, ht]; exact hP, by rw [hF]; exact hD⟩, hS.F ht⟩) hS.2.2 d_Phrase_take_65
        · refine lv_aload_n hx hb d_Phrase_take_53 rfl (lv_at hl 0 rfl) ?_
          have hFc := nc_free hD hS hA
          refine nc_mui (va_runV (As := []) (rest := []) hfix (c_Phrase_openDescription l dC dI cA s.heap.size a P hok) (k_Phrase_67 hts hN ⟨Nat.le_of_ble_eq_true rfl, Nat.le_of_ble_eq_true rfl⟩) (nc_preVM hK hN hP hD rfl rfl) rfl rfl hl.1 rfl (lv_room (Nat.le_of_ble_eq_true rfl)) d_Phrase_take_54 ⟨Nat.zero_le _, Nat.zero_le _⟩) hS hFc (fun r H locs er hP1 hD1 hk1 hS => ?_)
          obtain ⟨rfl, hz_181⟩ := er
          have hP : va_P (dC, dI) classes (w_Phrase cA a (f_Phrase_openDescription P).2) H := hP1
          have hD : va_D A (w_Phrase cA a (f_Phrase_openDescription P).2) := hD1.weaken (fun _ q _ h => hFc q.1 h)
          refine lv_if_eq (tgt := 64) hx hb d_Phrase_take_57 (by decide) (fun c_182 => ?_) (fun c_182 => ?_)
          · refine lv_iconst (v := 0) hx hb d_Phrase_take_64 (by decide) ?_
            have hF : (f_Phrase_take P x1) = (0, (f_Phrase_openDescription P).2) := by rw [f_Phrase_take, if_neg c_161, if_pos c_162, if_neg c_179, if_pos c_180, if_pos c_182]
            exact W.zret (v := 0) hx hb hr rfl (fun t ht hW => ⟨⟨0, (), rfl, ⟨by rw [hF], rfl⟩, by rw [hF, ht]; exact hP, by rw [hF]; exact hD⟩, hS.F ht⟩) hS.2.2 d_Phrase_take_65
          · refine lv_iconst (v := 1) hx hb d_Phrase_take_60 (by decide) ?_
            refine lv_goto (tgt := 65) hx hb d_Phrase_take_61 (by decide) ?_
            have hF : (f_Phrase_take P x1) = (1, (f_Phrase_openDescription P).2) := by rw [f_Phrase_take, if_neg c_161, if_pos c_162, if_neg c_179, if_pos c_180, if_neg c_182]
            exact W.zret (v := 1) hx hb hr rfl (fun t ht hW => ⟨⟨1, (), rfl, ⟨by rw [hF], rfl⟩, by rw [hF, ht]; exact hP, by rw [hF]; exact hD⟩, hS.F ht⟩) hS.2.2 d_Phrase_take_65
  · refine lv_aload_n hx hb d_Phrase_take_6 rfl (lv_at hl 0 rfl) ?_
    refine nc_ro (va_runV (As := []) (rest := []) hfix (c_Phrase_mayEnd l dC dI cA a P) (k_Phrase_50 hts hN ⟨Nat.le_of_ble_eq_true rfl, Nat.le_of_ble_eq_true rfl⟩) (nc_preV hK hN hP hD rfl rfl) rfl rfl hl.1 rfl (lv_room (Nat.le_of_ble_eq_true rfl)) d_Phrase_take_7 ⟨Nat.zero_le _, Nat.zero_le _⟩) (fun r er => ?_)
    obtain ⟨rfl, hz_183⟩ := er
    refine lv_if_eq (tgt := 24) hx hb d_Phrase_take_10 (by decide) (fun c_184 => ?_) (fun c_184 => ?_)
    · refine lv_iconst (v := 0) hx hb d_Phrase_take_24 (by decide) ?_
      have hF : (f_Phrase_take P x1) = (0, P) := by rw [f_Phrase_take, if_pos c_161, if_pos c_184]
      exact W.zret (v := 0) hx hb hr rfl (fun t ht hW => ⟨⟨0, (), rfl, ⟨by rw [hF], rfl⟩, by rw [hF, ht]; exact hP, by rw [hF]; exact hD⟩, hS.F ht⟩) hS.2.2 d_Phrase_take_25
    · refine lv_aload_n hx hb d_Phrase_take_13 rfl (lv_at hl 0 rfl) ?_
      have hFc := nc_free hD hS hA
      refine nc_mui (va_runV (As := []) (rest := []) hfix (c_Phrase_closePart l dC dI cA s.heap.size a P) (k_Phrase_60 hts hN ⟨Nat.le_of_ble_eq_true rfl, Nat.le_of_ble_eq_true rfl⟩) (nc_preVM hK hN hP hD rfl rfl) rfl rfl hl.1 rfl (lv_room (Nat.le_of_ble_eq_true rfl)) d_Phrase_take_14 ⟨Nat.zero_le _, Nat.zero_le _⟩) hS hFc (fun r H locs er hP1 hD1 hk1 hS => ?_)
      obtain ⟨rfl, hz_185⟩ := er
      have hP : va_P (dC, dI) classes (w_Phrase cA a (f_Phrase_closePart P).2) H := hP1
      have hD : va_D A (w_Phrase cA a (f_Phrase_closePart P).2) := hD1.weaken (fun _ q _ h => hFc q.1 h)
      refine lv_if_eq (tgt := 24) hx hb d_Phrase_take_17 (by decide) (fun c_186 => ?_) (fun c_186 => ?_)
      · refine lv_iconst (v := 0) hx hb d_Phrase_take_24 (by decide) ?_
        have hF : (f_Phrase_take P x1) = (0, (f_Phrase_closePart P).2) := by rw [f_Phrase_take, if_pos c_161, if_neg c_184, if_pos c_186]
        exact W.zret (v := 0) hx hb hr rfl (fun t ht hW => ⟨⟨0, (), rfl, ⟨by rw [hF], rfl⟩, by rw [hF, ht]; exact hP, by rw [hF]; exact hD⟩, hS.F ht⟩) hS.2.2 d_Phrase_take_25
      · refine lv_iconst (v := 1) hx hb d_Phrase_take_20 (by decide) ?_
        refine lv_goto (tgt := 25) hx hb d_Phrase_take_21 (by decide) ?_
        have hF : (f_Phrase_take P x1) = (1, (f_Phrase_closePart P).2) := by rw [f_Phrase_take, if_pos c_161, if_neg c_184, if_neg c_186]
        exact W.zret (v := 1) hx hb hr rfl (fun t ht hW => ⟨⟨1, (), rfl, ⟨by rw [hF], rfl⟩, by rw [hF, ht]; exact hP, by rw [hF]; exact hD⟩, hS.F ht⟩) hS.2.2 d_Phrase_take_25
theorem ok_take {P : Nat → Nat → Int32} {x1 : Int32} (h : ph_ok P) : ph_ok (f_Phrase_take P x1).2 := by
  have h2 := ok_openMain h
  have h3 : ph_ok (f_Phrase_takeInDescription (f_Phrase_openMain P).2 x1).2 := ok_takeInDescription h2
  unfold f_Phrase_take
  split
  · split
    · exact h
    · split
      · exact ok_closePart h
      · exact ok_closePart h
  · split
    · split
      · exact h
      · split
        · split
          · exact ok_openDescription h
          · exact ok_openDescription h
        · exact h
    · split
      · exact ok_takeAtPart h
      · split
        · split
          · exact h2
          · split
            · exact h2
            · split
              · exact h3
              · exact h3
        · split
          · split
            · exact h2
            · split
              · exact h2
              · split
                · exact h3
                · exact h3
          · exact ok_takeInDescription h
def f_Phrase_read_L17 (f : Nat → Int32) (x1 : Int32) : Nat → (Nat → Nat → Int32) → Int32 → Int32 × (Nat → Nat → Int32)
  | 0, P, z3 => (0, P)
  | n + 1, P, z3 => (if x1 ≤ z3 then (if (f_Phrase_mayEnd P) = 0 then (x1, P) else ((-1), P)) else (if 30 ≤ z3 then (if (f_Phrase_mayEnd P) = 0 then (x1, P) else ((-1), P)) else (if (f_Phrase_take P (f z3.toNatClampNeg)).1 = 0 then (z3, (f_Phrase_take P (f z3.toNatClampNeg)).2) else (f_Phrase_read_L17 f x1 n (f_Phrase_take P (f z3.toNatClampNeg)).2 (z3 + 1)))))
def f_Phrase_read (P : Nat → Nat → Int32) (f : Nat → Int32) (x1 : Int32) : Int32 × (Nat → Nat → Int32) := (f_Phrase_read_L17 f x1 (nc_mu x1 0 + 1) (upf (upf (upf P 4 (fun _ => 0)) 8 (fun _ => 0)) 9 (fun _ => 0)) 0)
abbrev ws_Phrase_read : List Cond := .code y_Phrase_read b_Phrase_read 4 (some .int) :: lw_G
abbrev rm_Phrase_read : Room := { frames := 5, cells := 0, slots := 0, locals := 107 }
set_option maxHeartbeats 4000000 in
set_option maxRecDepth 100000 in
theorem c_Phrase_read (l : Launch) (dC : Nat → ClassId) (dI : Nat → Nat → Nat) (cA : ClassId) (sz : Nat) (a : Nat → Nat) (r0 : Nat) (P : Nat → Nat → Int32) (f : Nat → Int32) (x1 : Int32) : Met l y_Phrase_read ws_Phrase_read rm_Phrase_read (nc_PreM (dC, dI) cA sz [.ref (a 0), .ref r0, .int x1] (w_Phrase cA a P ++ [(r0, .inl (cA, 30, .inl f))])) (va_Qi (fun r (_ : Unit) => r = (f_Phrase_read P f x1).1) (fun _ t => va_P (dC, dI) classes (w_Phrase cA a (f_Phrase_read P f x1).2 ++ [(r0, .inl (cA, 30, .inl f))]) t.heap ∧ va_D (va_A (w_Phrase cA a P ++ [(r0, .inl (cA, 30, .inl f))]) sz) (w_Phrase cA a (f_Phrase_read P f x1).2 ++ [(r0, .inl (cA, 30, .inl f))])) (va_A (w_Phrase cA a P ++ [(r0, .inl (cA, 30, .inl f))]) sz)) 0 0 (va_A (w_Phrase cA a P ++ [(r0, .inl (cA, 30, .inl f))]) sz) := by
  refine Met.ofW (cc := b_Phrase_read) (maxL := 4) (ret := (some .int)) (by decide) rfl ?_
  intro p e s m args below meth c s₁ B hml hv
  obtain ⟨rfl, hsz, hP, hK, hD0, hN⟩ := hv
  have hx := B.exec
  have hb := B.bytes
  have hr := B.returns
  have hts : ∀ w ∈ lw_G, w.before [.ref (a 0), .ref r0, .int x1].toArray s = true := fun w h => atoms_spec (ws := ws_Phrase_read) B.pre w (List.mem_cons_of_mem _ h)
  have hown : s.vm.findClass R_Phrase = some m.cls := findClass_of_methodNamed B.named
  have hlocks := B.notSynchronized
  have hfix : CallFix p m c b_Phrase_read 4 s [.ref (a 0), .ref r0, .int x1].toArray lw_G R_Phrase := ⟨hx, hb, hml, hown, hts⟩
  subst hsz
  have hD := hD0.self (sz := s.heap.size)
  generalize hAe : va_A (w_Phrase cA a P ++ [(r0, .inl (cA, 30, .inl f))]) s.heap.size = A at hD ⊢
  have hA : ∀ q : Nat, s.heap.size ≤ q → A q := fun q h => by rw [← hAe]; exact Or.inr h
  have hS : va_S A s.heap s.heap [] := va_S.rf
  have hl := lv_entry ([.ref (a 0), .ref r0, .int x1]) (n := 4) (Nat.le_of_ble_eq_true rfl)
  rw [lg_entry_eq]
  generalize (lg_sl ([.ref (a 0), .ref r0, .int x1]) ++ List.replicate (4 - (lg_sl ([.ref (a 0), .ref r0, .int x1])).length) Slot.unset).toArray = ls at hl ⊢
  have hl : lv_has ls 4 [(0, .ref (a 0)), (1, .ref r0), (2, .int x1)] := hl
  refine lv_aload_n hx hb d_Phrase_read_0 rfl (lv_at hl 0 rfl) ?_
  refine lv_iconst (v := 0) hx hb d_Phrase_read_1 (by decide) ?_
  refine va_put (D := (dC, dI)) (ci := 2) (v := .int 0) (ty := .int) (C := R_Phrase) (T := F_Phrase) (N := 11) hx hb hts i_Phrase t_Phrase t_Phrase_ok n_Phrase hown hK hP hD hS 0 rfl rfl 4 (by decide) (hts _ m_f_Phrase_24) (fun _ h9 => h9) rfl (by decide +kernel) rfl rfl (Nat.le_of_ble_eq_true rfl) d_Phrase_read_2 (fun H locs hP hD hS => ?_)
  have hP : va_P (dC, dI) classes (w_Phrase cA a (upf P 4 (fun _ => 0)) ++ [(r0, .inl (cA, 30, .inl f))]) H := hP
  have hD : va_D A (w_Phrase cA a (upf P 4 (fun _ => 0)) ++ [(r0, .inl (cA, 30, .inl f))]) := hD
  refine lv_aload_n hx hb d_Phrase_read_5 rfl (lv_at hl 0 rfl) ?_
  refine lv_iconst (v := 0) hx hb d_Phrase_read_6 (by decide) ?_
  refine va_put (D := (dC, dI)) (ci := 2) (v := .int 0) (ty := .int) (C := R_Phrase) (T := F_Phrase) (N := 11) hx hb hts i_Phrase t_Phrase t_Phrase_ok n_Phrase hown hK hP hD hS 0 rfl rfl 8 (by decide) (hts _ m_f_Phrase_37) (fun _ h9 => h9) rfl (by decide +kernel) rfl rfl (Nat.le_of_ble_eq_true rfl) d_Phrase_read_7 (fun H locs hP hD hS => ?_)
  have hP : va_P (dC, dI) classes (w_Phrase cA a (upf (upf P 4 (fun _ => 0)) 8 (fun _ => 0)) ++ [(r0, .inl (cA, 30, .inl f))]) H := hP
  have hD : va_D A (w_Phrase cA a (upf (upf P 4 (fun _ => 0)) 8 (fun _ => 0)) ++ [(r0, .inl (cA, 30, .inl f))]) := hD
  refine lv_aload_n hx hb d_Phrase_read_10 rfl (lv_at hl 0 rfl) ?_
  refine lv_iconst (v := 0) hx hb d_Phrase_read_11 (by decide) ?_
  refine va_put (D := (dC, dI)) (ci := 2) (v := .int 0) (ty := .int) (C := R_Phrase) (T := F_Phrase) (N := 11) hx hb hts i_Phrase t_Phrase t_Phrase_ok n_Phrase hown hK hP hD hS 0 rfl rfl 9 (by decide) (hts _ m_f_Phrase_40) (fun _ h9 => h9) rfl (by decide +kernel) rfl rfl (Nat.le_of_ble_eq_true rfl) d_Phrase_read_12 (fun H locs hP hD hS => ?_)
  have hP : va_P (dC, dI) classes (w_Phrase cA a (upf (upf (upf P 4 (fun _ => 0)) 8 (fun _ => 0)) 9 (fun _ => 0)) ++ [(r0, .inl (cA, 30, .inl f))]) H := hP
  have hD : va_D A (w_Phrase cA a (upf (upf (upf P 4 (fun _ => 0)) 8 (fun _ => 0)) 9 (fun _ => 0)) ++ [(r0, .inl (cA, 30, .inl f))]) := hD
  refine lv_iconst (v := 0) hx hb d_Phrase_read_15 (by decide) ?_
  refine lv_istore_n (lv' := [(3, .int 0), (0, .ref (a 0)), (1, .ref r0), (2, .int x1)]) hx hb d_Phrase_read_16 rfl hl (by decide) rfl (fun ls hl => ?_)
  have loop_17 : ∀ (n : Nat) (Pq : (Nat → Nat → Int32)) (z3 : Int32) (H : Heap) (locs : List Loc) (ls : Array Slot), (f_Phrase_read P f x1) = (f_Phrase_read_L17 f x1 n Pq z3) → nc_mu x1 z3 < n → 0 ≤ z3.toInt → ph_ok Pq → va_P (dC, dI) classes (w_Phrase cA a Pq ++ [(r0, .inl (cA, 30, .inl f))]) H → va_D A (w_Phrase cA a Pq ++ [(r0, .inl (cA, 30, .inl f))]) → va_S A s.heap H locs → lv_has ls 4 [(0, .ref (a 0)), (1, .ref r0), (2, .int x1), (3, .int z3)] → W p l e (headSpec ws_Phrase_read rm_Phrase_read).room s m [.ref (a 0), .ref r0, .int x1].toArray below meth c H locs 0 0 (MQ below (va_Qi (fun r (_ : Unit) => r = (f_Phrase_read P f x1).1) (fun _ t => va_P (dC, dI) classes (w_Phrase cA a (f_Phrase_read P f x1).2 ++ [(r0, .inl (cA, 30, .inl f))]) t.heap ∧ va_D A (w_Phrase cA a (f_Phrase_read P f x1).2 ++ [(r0, .inl (cA, 30, .inl f))])) A) [.ref (a 0), .ref r0, .int x1].toArray s 0 0 A) (F0 m 17 ls []) := by
    intro n
    induction n with
    | zero =>
      intro Pq z3 H locs ls hE hm h0 hok hP hD hS hl
      exact absurd hm (Nat.not_lt_zero _)
    | succ n ih =>
      intro Pq z3 H locs ls hE hm h0 hok hP hD hS hl
      refine lv_iload_n hx hb d_Phrase_read_17 rfl (lv_at hl 3 rfl) ?_
      refine lv_iload_n hx hb d_Phrase_read_18 rfl (lv_at hl 2 rfl) ?_
      refine lv_icmp_ge (tgt := 46) hx hb d_Phrase_read_19 (by decide) (fun c_187 => ?_) (fun c_187 => ?_)
      · refine lv_aload_n hx hb d_Phrase_read_46 rfl (lv_at hl 0 rfl) ?_
        have hP_w_188 := hP.sub (ws' := (w_Phrase cA a Pq)) [0, 1, 2, 3, 4, 5, 6, 7] rfl
        have hD_w_188 := hD.sub (ws' := (w_Phrase cA a Pq)) [0, 1, 2, 3, 4, 5, 6, 7] (by decide) rfl
        refine nc_ro (va_runV (As := []) (rest := []) hfix (c_Phrase_mayEnd l dC dI cA a Pq) (k_Phrase_50 hts hN ⟨Nat.le_of_ble_eq_true rfl, Nat.le_of_ble_eq_true rfl⟩) (nc_preV hK hN hP_w_188 hD_w_188 rfl rfl) rfl rfl hl.1 rfl (lv_room (Nat.le_of_ble_eq_true rfl)) d_Phrase_read_47 ⟨Nat.zero_le _, Nat.zero_le _⟩) (fun r er => ?_)
        obtain ⟨rfl, hz_189⟩ := er
        refine lv_if_eq (tgt := 57) hx hb d_Phrase_read_50 (by decide) (fun c_190 => ?_) (fun c_190 => ?_)
        · refine lv_iload_n hx hb d_Phrase_read_57 rfl (lv_at hl 2 rfl) ?_
          have hF : (f_Phrase_read P f x1) = (x1, Pq) := by rw [hE, f_Phrase_read_L17, if_pos c_187, if_pos c_190]
          exact W.iret (v := x1) hx hb hr (fun t ht hW => ⟨⟨x1, (), rfl, by rw [hF], by rw [hF, ht]; exact hP, by rw [hF]; exact hD⟩, hS.F ht⟩) hS.2.2 d_Phrase_read_58
        · refine lv_iconst (v := (-1)) hx hb d_Phrase_read_53 (by decide) ?_
          refine lv_goto (tgt := 58) hx hb d_Phrase_read_54 (by decide) ?_
          have hF : (f_Phrase_read P f x1) = ((-1), Pq) := by rw [hE, f_Phrase_read_L17, if_pos c_187, if_neg c_190]
          exact W.iret (v := (-1)) hx hb hr (fun t ht hW => ⟨⟨(-1), (), rfl, by rw [hF], by rw [hF, ht]; exact hP, by rw [hF]; exact hD⟩, hS.F ht⟩) hS.2.2 d_Phrase_read_58
      · refine lv_iload_n hx hb d_Phrase_read_22 rfl (lv_at hl 3 rfl) ?_
        refine lv_aload_n hx hb d_Phrase_read_23 rfl (lv_at hl 1 rfl) ?_
        refine va_alen (v := 30) hx hb hK hP 8 0 rfl rfl rfl d_Phrase_read_24 ?_
        refine lv_icmp_ge (tgt := 46) hx hb d_Phrase_read_25 (by decide) (fun c_191 => ?_) (fun c_191 => ?_)
        · refine lv_aload_n hx hb d_Phrase_read_46 rfl (lv_at hl 0 rfl) ?_
          have hP_w_192 := hP.sub (ws' := (w_Phrase cA a Pq)) [0, 1, 2, 3, 4, 5, 6, 7] rfl
          have hD_w_192 := hD.sub (ws' := (w_Phrase cA a Pq)) [0, 1, 2, 3, 4, 5, 6, 7] (by decide) rfl
          refine nc_ro (va_runV (As := []) (rest := []) hfix (c_Phrase_mayEnd l dC dI cA a Pq) (k_Phrase_50 hts hN ⟨Nat.le_of_ble_eq_true rfl, Nat.le_of_ble_eq_true rfl⟩) (nc_preV hK hN hP_w_192 hD_w_192 rfl rfl) rfl rfl hl.1 rfl (lv_room (Nat.le_of_ble_eq_true rfl)) d_Phrase_read_47 ⟨Nat.zero_le _, Nat.zero_le _⟩) (fun r er => ?_)
          obtain ⟨rfl, hz_193⟩ := er
          refine lv_if_eq (tgt := 57) hx hb d_Phrase_read_50 (by decide) (fun c_194 => ?_) (fun c_194 => ?_)
          · refine lv_iload_n hx hb d_Phrase_read_57 rfl (lv_at hl 2 rfl) ?_
            have hF : (f_Phrase_read P f x1) = (x1, Pq) := by rw [hE, f_Phrase_read_L17, if_neg c_187, if_pos c_191, if_pos c_194]
            exact W.iret (v := x1) hx hb hr (fun t ht hW => ⟨⟨x1, (), rfl, by rw [hF], by rw [hF, ht]; exact hP, by rw [hF]; exact hD⟩, hS.F ht⟩) hS.2.2 d_Phrase_read_58
          · refine lv_iconst (v := (-1)) hx hb d_Phrase_read_53 (by decide) ?_
            refine lv_goto (tgt := 58) hx hb d_Phrase_read_54 (by decide) ?_
            have hF : (f_Phrase_read P f x1) = ((-1), Pq) := by rw [hE, f_Phrase_read_L17, if_neg c_187, if_pos c_191, if_neg c_194]
            exact W.iret (v := (-1)) hx hb hr (fun t ht hW => ⟨⟨(-1), (), rfl, by rw [hF], by rw [hF, ht]; exact hP, by rw [hF]; exact hD⟩, hS.F ht⟩) hS.2.2 d_Phrase_read_58
        · refine lv_aload_n hx hb d_Phrase_read_28 rfl (lv_at hl 0 rfl) ?_
          refine lv_aload_n hx hb d_Phrase_read_29 rfl (lv_at hl 1 rfl) ?_
          refine lv_iload_n hx hb d_Phrase_read_30 rfl (lv_at hl 3 rfl) ?_
          refine va_iald (f := f) hx hb hK hP 8 0 rfl rfl (by have q0 := nc_nle c_187 rfl rfl; have q1 := nc_nle c_191 (L_30) rfl; have q2 := h0; have q3 := hok; exact vp_in_iff.mpr ⟨by omega, by omega⟩) d_Phrase_read_31 ?_
          have hP_w_195 := hP.sub (ws' := (w_Phrase cA a Pq)) [0, 1, 2, 3, 4, 5, 6, 7] rfl
          have hD_w_195 := hD.sub (ws' := (w_Phrase cA a Pq)) [0, 1, 2, 3, 4, 5, 6, 7] (by decide) rfl
          have hFc := va_free (wc := (w_Phrase cA a Pq)) hD hS hA [0, 1, 2, 3, 4, 5, 6, 7] rfl
          refine nc_mui (va_runV (As := [.int (f z3.toNatClampNeg)]) (rest := []) hfix (c_Phrase_take l dC dI cA H.size a Pq (f z3.toNatClampNeg) hok) (k_Phrase_46 hts hN ⟨Nat.le_of_ble_eq_true rfl, Nat.le_of_ble_eq_true rfl⟩) (nc_preVM hK hN hP_w_195 hD_w_195 rfl rfl) rfl rfl hl.1 rfl (lv_room (Nat.le_of_ble_eq_true rfl)) d_Phrase_read_32 ⟨Nat.zero_le _, Nat.zero_le _⟩) hS hFc (fun r H locs er hP1 hD1 hk1 hS => ?_)
          obtain ⟨rfl, hz_196⟩ := er
          obtain ⟨hP, hD⟩ := va_join (wr := va_pick (w_Phrase cA a Pq ++ [(r0, .inl (cA, 30, .inl f))]) [8]) (w1 := (w_Phrase cA a (f_Phrase_take Pq (f z3.toNatClampNeg)).2)) hP hD [0, 1, 2, 3, 4, 5, 6, 7] [8] rfl rfl (by decide) (by decide) hk1 hFc hP1 hD1
          have hP : va_P (dC, dI) classes (w_Phrase cA a (f_Phrase_take Pq (f z3.toNatClampNeg)).2 ++ [(r0, .inl (cA, 30, .inl f))]) H := hP.sub [1, 2, 3, 4, 5, 6, 7, 8, 0] rfl
          have hD : va_D A (w_Phrase cA a (f_Phrase_take Pq (f z3.toNatClampNeg)).2 ++ [(r0, .inl (cA, 30, .inl f))]) := hD.sub [1, 2, 3, 4, 5, 6, 7, 8, 0] (by decide) rfl
          refine lv_if_ne (tgt := 40) hx hb d_Phrase_read_35 (by decide) (fun c_197 => ?_) (fun c_197 => ?_)
          · refine lv_iinc (v := (z3 + 1)) (lv' := [(3, .int (z3 + 1)), (0, .ref (a 0)), (1, .ref r0), (2, .int x1)]) hx hb d_Phrase_read_40 hl (k := 3) rfl rfl (by decide) rfl (fun ls hl => ?_)
            refine lv_goto (tgt := 17) hx hb d_Phrase_read_43 (by decide) ?_
            exact ih (f_Phrase_take Pq (f z3.toNatClampNeg)).2 (z3 + 1) H locs ls (by rw [hE, f_Phrase_read_L17, if_neg c_187, if_neg c_191, if_neg c_197]) (nc_mu_step c_187 hm) (nc_i_step c_187 h0) (ok_take hok) hP hD hS (lv_sub hl [1, 2, 3, 0] rfl)
          · refine lv_iload_n hx hb d_Phrase_read_38 rfl (lv_at hl 3 rfl) ?_
            have hF : (f_Phrase_read P f x1) = (z3, (f_Phrase_take Pq (f z3.toNatClampNeg)).2) := by rw [hE, f_Phrase_read_L17, if_neg c_187, if_neg c_191, if_pos c_197]
            exact W.iret (v := z3) hx hb hr (fun t ht hW => ⟨⟨z3, (), rfl, by rw [hF], by rw [hF, ht]; exact hP, by rw [hF]; exact hD⟩, hS.F ht⟩) hS.2.2 d_Phrase_read_39
  exact loop_17 (nc_mu x1 0 + 1) (upf (upf (upf P 4 (fun _ => 0)) 8 (fun _ => 0)) 9 (fun _ => 0)) 0 H locs ls (by rw [f_Phrase_read]) (Nat.lt_succ_self _) (by decide) ⟨by show 0 ≤ (0 : Int32).toInt; decide, by show 0 ≤ (0 : Int32).toInt; decide⟩ hP hD hS (lv_sub hl [1, 2, 3, 0] rfl)
