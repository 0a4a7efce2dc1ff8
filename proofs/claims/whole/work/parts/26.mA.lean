def f_M_in (x lo hi : Int32) : Int32 := (if x < lo then 0 else (if hi < x then 0 else 1))
abbrev ws_M_in : List Cond := .code y_M_in b_M_in 3 (some .boolean) :: lw_G
abbrev rm_M_in : Room := { frames := 0, cells := 0, slots := 0, locals := 0 }
set_option maxHeartbeats 4000000 in
set_option maxRecDepth 100000 in
theorem c_M_in (l : Launch) (dC : Nat → ClassId) (dI : Nat → Nat → Nat) (cA : ClassId) (x lo hi : Int32) : Met l y_M_in ws_M_in rm_M_in (nc_Pre (dC, dI) cA [.int x, .int lo, .int hi] ([] : va_W)) (vp_Si (fun r => (r = (f_M_in x lo hi) ∧ narrow .boolean (.int r) = .int r))) 0 0 (fun _ => False) := by
  refine Met.ofW (cc := b_M_in) (maxL := 3) (ret := (some .boolean)) (by decide) rfl ?_
  intro p e s m args below meth c s₁ B hml hv
  obtain ⟨rfl, hP, hK, hD, hN⟩ := hv
  have hx := B.exec
  have hb := B.bytes
  have hr := B.returns
  have hts : ∀ w ∈ lw_G, w.before [.int x, .int lo, .int hi].toArray s = true := fun w h => atoms_spec (ws := ws_M_in) B.pre w (List.mem_cons_of_mem _ h)
  have hown : s.vm.findClass R_M = some m.cls := findClass_of_methodNamed B.named
  have hlocks := B.notSynchronized
  have hfix : CallFix p m c b_M_in 3 s [.int x, .int lo, .int hi].toArray lw_G R_M := ⟨hx, hb, hml, hown, hts⟩
  have hl := lv_entry ([.int x, .int lo, .int hi]) (n := 3) (Nat.le_of_ble_eq_true rfl)
  rw [lg_entry_eq]
  generalize (lg_sl ([.int x, .int lo, .int hi]) ++ List.replicate (3 - (lg_sl ([.int x, .int lo, .int hi])).length) Slot.unset).toArray = ls at hl ⊢
  have hl : lv_has ls 3 [(0, .int x), (1, .int lo), (2, .int hi)] := hl
  refine lv_iload_n hx hb d_M_in_0 rfl (lv_at hl 0 rfl) ?_
  refine lv_iload_n hx hb d_M_in_1 rfl (lv_at hl 1 rfl) ?_
  refine lv_icmp_lt (tgt := 14) hx hb d_M_in_2 (by decide) (fun c_401 => ?_) (fun c_401 => ?_)
  · refine lv_iconst (v := 0) hx hb d_M_in_14 (by decide) ?_
    exact W.zret (v := 0) hx hb hr rfl (fun t ht hW => ⟨0, rfl, ⟨by rw [f_M_in, if_pos c_401], rfl⟩, ht⟩) (fun _ h => nomatch h) d_M_in_15
  · refine lv_iload_n hx hb d_M_in_5 rfl (lv_at hl 0 rfl) ?_
    refine lv_iload_n hx hb d_M_in_6 rfl (lv_at hl 2 rfl) ?_
    refine lv_icmp_gt (tgt := 14) hx hb d_M_in_7 (by decide) (fun c_402 => ?_) (fun c_402 => ?_)
    · refine lv_iconst (v := 0) hx hb d_M_in_14 (by decide) ?_
      exact W.zret (v := 0) hx hb hr rfl (fun t ht hW => ⟨0, rfl, ⟨by rw [f_M_in, if_neg c_401, if_pos c_402], rfl⟩, ht⟩) (fun _ h => nomatch h) d_M_in_15
    · refine lv_iconst (v := 1) hx hb d_M_in_10 (by decide) ?_
      refine lv_goto (tgt := 15) hx hb d_M_in_11 (by decide) ?_
      exact W.zret (v := 1) hx hb hr rfl (fun t ht hW => ⟨1, rfl, ⟨by rw [f_M_in, if_neg c_401, if_neg c_402], rfl⟩, ht⟩) (fun _ h => nomatch h) d_M_in_15
theorem in_pos {x lo hi : Int32} (h : ¬ f_M_in x lo hi = 0) : lo.toInt ≤ x.toInt ∧ x.toInt ≤ hi.toInt := by
  unfold f_M_in at h
  split at h
  · exact absurd rfl h
  · split at h
    · exact absurd rfl h
    · rename_i h1 h2
      exact ⟨nc_nlt h1 rfl rfl, nc_nlt h2 rfl rfl⟩
def f_M_has (set x : Int32) : Int32 := (if ((nc_ushr set x) &&& 1) = 1 then 1 else 0)
abbrev ws_M_has : List Cond := .code y_M_has b_M_has 2 (some .boolean) :: lw_G
abbrev rm_M_has : Room := { frames := 0, cells := 0, slots := 0, locals := 0 }
set_option maxHeartbeats 4000000 in
set_option maxRecDepth 100000 in
theorem c_M_has (l : Launch) (dC : Nat → ClassId) (dI : Nat → Nat → Nat) (cA : ClassId) (set x : Int32) : Met l y_M_has ws_M_has rm_M_has (nc_Pre (dC, dI) cA [.int set, .int x] ([] : va_W)) (vp_Si (fun r => (r = (f_M_has set x) ∧ narrow .boolean (.int r) = .int r))) 0 0 (fun _ => False) := by
  refine Met.ofW (cc := b_M_has) (maxL := 2) (ret := (some .boolean)) (by decide) rfl ?_
  intro p e s m args below meth c s₁ B hml hv
  obtain ⟨rfl, hP, hK, hD, hN⟩ := hv
  have hx := B.exec
  have hb := B.bytes
  have hr := B.returns
  have hts : ∀ w ∈ lw_G, w.before [.int set, .int x].toArray s = true := fun w h => atoms_spec (ws := ws_M_has) B.pre w (List.mem_cons_of_mem _ h)
  have hown : s.vm.findClass R_M = some m.cls := findClass_of_methodNamed B.named
  have hlocks := B.notSynchronized
  have hfix : CallFix p m c b_M_has 2 s [.int set, .int x].toArray lw_G R_M := ⟨hx, hb, hml, hown, hts⟩
  have hl := lv_entry ([.int set, .int x]) (n := 2) (Nat.le_of_ble_eq_true rfl)
  rw [lg_entry_eq]
  generalize (lg_sl ([.int set, .int x]) ++ List.replicate (2 - (lg_sl ([.int set, .int x])).length) Slot.unset).toArray = ls at hl ⊢
  have hl : lv_has ls 2 [(0, .int set), (1, .int x)] := hl
  refine lv_iload_n hx hb d_M_has_0 rfl (lv_at hl 0 rfl) ?_
  refine lv_iload_n hx hb d_M_has_1 rfl (lv_at hl 1 rfl) ?_
  refine lv_iushr (v := (nc_ushr set x)) hx hb d_M_has_2 rfl ?_
  refine lv_iconst (v := 1) hx hb d_M_has_3 (by decide) ?_
  refine lv_iand hx hb d_M_has_4 ?_
  refine lv_iconst (v := 1) hx hb d_M_has_5 (by decide) ?_
  refine lv_icmp_ne (tgt := 13) hx hb d_M_has_6 (by decide) (fun c_403 => ?_) (fun c_403 => ?_)
  · refine lv_iconst (v := 0) hx hb d_M_has_13 (by decide) ?_
    exact W.zret (v := 0) hx hb hr rfl (fun t ht hW => ⟨0, rfl, ⟨by rw [f_M_has, if_neg c_403], rfl⟩, ht⟩) (fun _ h => nomatch h) d_M_has_14
  · refine lv_iconst (v := 1) hx hb d_M_has_9 (by decide) ?_
    refine lv_goto (tgt := 14) hx hb d_M_has_10 (by decide) ?_
    exact W.zret (v := 1) hx hb hr rfl (fun t ht hW => ⟨1, rfl, ⟨by rw [f_M_has, if_pos c_403], rfl⟩, ht⟩) (fun _ h => nomatch h) d_M_has_14
def f_M_least (set : Int32) : Int32 := (set &&& (-set))
abbrev ws_M_least : List Cond := .code y_M_least b_M_least 1 (some .int) :: lw_G
abbrev rm_M_least : Room := { frames := 0, cells := 0, slots := 0, locals := 0 }
set_option maxHeartbeats 4000000 in
set_option maxRecDepth 100000 in
theorem c_M_least (l : Launch) (dC : Nat → ClassId) (dI : Nat → Nat → Nat) (cA : ClassId) (set : Int32) : Met l y_M_least ws_M_least rm_M_least (nc_Pre (dC, dI) cA [.int set] ([] : va_W)) (vp_Si (fun r => r = (f_M_least set))) 0 0 (fun _ => False) := by
  refine Met.ofW (cc := b_M_least) (maxL := 1) (ret := (some .int)) (by decide) rfl ?_
  intro p e s m args below meth c s₁ B hml hv
  obtain ⟨rfl, hP, hK, hD, hN⟩ := hv
  have hx := B.exec
  have hb := B.bytes
  have hr := B.returns
  have hts : ∀ w ∈ lw_G, w.before [.int set].toArray s = true := fun w h => atoms_spec (ws := ws_M_least) B.pre w (List.mem_cons_of_mem _ h)
  have hown : s.vm.findClass R_M = some m.cls := findClass_of_methodNamed B.named
  have hlocks := B.notSynchronized
  have hfix : CallFix p m c b_M_least 1 s [.int set].toArray lw_G R_M := ⟨hx, hb, hml, hown, hts⟩
  have hl := lv_entry ([.int set]) (n := 1) (Nat.le_of_ble_eq_true rfl)
  rw [lg_entry_eq]
  generalize (lg_sl ([.int set]) ++ List.replicate (1 - (lg_sl ([.int set])).length) Slot.unset).toArray = ls at hl ⊢
  have hl : lv_has ls 1 [(0, .int set)] := hl
  refine lv_iload_n hx hb d_M_least_0 rfl (lv_at hl 0 rfl) ?_
  refine lv_iload_n hx hb d_M_least_1 rfl (lv_at hl 0 rfl) ?_
  refine lv_ineg hx hb d_M_least_2 ?_
  refine lv_iand hx hb d_M_least_3 ?_
  exact W.iret (v := (set &&& (-set))) hx hb hr (fun t ht hW => ⟨(set &&& (-set)), rfl, by rw [f_M_least], ht⟩) (fun _ h => nomatch h) d_M_least_4
def f_M_noThing (X : Nat → Nat → Int32) (x1 : Int32) : Int32 := (if (f_M_in x1 0 ((X 1 0) - 1)) = 0 then 1 else 0)
abbrev ws_M_noThing : List Cond := .code y_M_noThing b_M_noThing 2 (some .boolean) :: lw_G
abbrev rm_M_noThing : Room := { frames := 1, cells := 0, slots := 0, locals := 22 }
set_option maxHeartbeats 4000000 in
set_option maxRecDepth 100000 in
theorem c_M_noThing (l : Launch) (dC : Nat → ClassId) (dI : Nat → Nat → Nat) (cA cZ : ClassId) (a : Nat → Nat) (rv : Value) (X : Nat → Nat → Int32) (x1 : Int32) : Met l y_M_noThing ws_M_noThing rm_M_noThing (nc_PreZ (dC, dI) cA cZ [.ref (a 0), .int x1] (w_M cA cZ a rv X)) (vp_Si (fun r => (r = (f_M_noThing X x1) ∧ narrow .boolean (.int r) = .int r))) 0 0 (fun _ => False) := by
  refine Met.ofW (cc := b_M_noThing) (maxL := 2) (ret := (some .boolean)) (by decide) rfl ?_
  intro p e s m args below meth c s₁ B hml hv
  obtain ⟨rfl, hP, hK, hD, hN⟩ := hv
  have hx := B.exec
  have hb := B.bytes
  have hr := B.returns
  have hts : ∀ w ∈ lw_G, w.before [.ref (a 0), .int x1].toArray s = true := fun w h => atoms_spec (ws := ws_M_noThing) B.pre w (List.mem_cons_of_mem _ h)
  have hown : s.vm.findClass R_M = some m.cls := findClass_of_methodNamed B.named
  have hlocks := B.notSynchronized
  have hfix : CallFix p m c b_M_noThing 2 s [.ref (a 0), .int x1].toArray lw_G R_M := ⟨hx, hb, hml, hown, hts⟩
  have hK1 := hK.sub (tys' := [(cA, .int)]) [0] rfl
  have hl := lv_entry ([.ref (a 0), .int x1]) (n := 2) (Nat.le_of_ble_eq_true rfl)
  rw [lg_entry_eq]
  generalize (lg_sl ([.ref (a 0), .int x1]) ++ List.replicate (2 - (lg_sl ([.ref (a 0), .int x1])).length) Slot.unset).toArray = ls at hl ⊢
  have hl : lv_has ls 2 [(0, .ref (a 0)), (1, .int x1)] := hl
  refine lv_iload_n hx hb d_M_noThing_0 rfl (lv_at hl 1 rfl) ?_
  refine lv_iconst (v := 0) hx hb d_M_noThing_1 (by decide) ?_
  refine lv_aload_n hx hb d_M_noThing_2 rfl (lv_at hl 0 rfl) ?_
  refine va_get (D := (dC, dI)) (ci := 4) (v := .int (X 1 0)) (C := R_M) (T := F_M) (N := 39) hx hb hts i_M hown hK hP 0 rfl rfl 1 (by decide) (hts _ m_f_M_69) (fun _ h9 => h9) rfl d_M_noThing_3 ?_
  refine lv_iconst (v := 1) hx hb d_M_noThing_6 (by decide) ?_
  refine lv_isub hx hb d_M_noThing_7 ?_
  refine nc_ro (va_runS (As := [.int x1, .int 0, .int ((X 1 0) - 1)]) (rest := []) hfix (c_M_in l dC dI cA x1 0 ((X 1 0) - 1)) (k_M_72 hts hN ⟨Nat.le_of_ble_eq_true rfl, Nat.le_of_ble_eq_true rfl⟩) (nc_preS0 hK1 hN) rfl rfl hl.1 rfl (lv_room (Nat.le_of_ble_eq_true rfl)) d_M_noThing_8 ⟨Nat.zero_le _, Nat.zero_le _⟩) (fun r er => ?_)
  obtain ⟨rfl, hz_404⟩ := er
  refine lv_if_ne (tgt := 18) hx hb d_M_noThing_11 (by decide) (fun c_405 => ?_) (fun c_405 => ?_)
  · refine lv_iconst (v := 0) hx hb d_M_noThing_18 (by decide) ?_
    exact W.zret (v := 0) hx hb hr rfl (fun t ht hW => ⟨0, rfl, ⟨by rw [f_M_noThing, if_neg c_405], rfl⟩, ht⟩) (fun _ h => nomatch h) d_M_noThing_19
  · refine lv_iconst (v := 1) hx hb d_M_noThing_14 (by decide) ?_
    refine lv_goto (tgt := 19) hx hb d_M_noThing_15 (by decide) ?_
    exact W.zret (v := 1) hx hb hr rfl (fun t ht hW => ⟨1, rfl, ⟨by rw [f_M_noThing, if_pos c_405], rfl⟩, ht⟩) (fun _ h => nomatch h) d_M_noThing_19
theorem noThing_zero {X : Nat → Nat → Int32} {x1 : Int32} (hmt : m_t X) (h : f_M_noThing X x1 = 0) : 0 ≤ x1.toInt ∧ x1.toInt < 32 ∧ x1.toInt < (X 1 0).toInt := by
  unfold f_M_noThing at h
  split at h
  · exact absurd h (by decide)
  · rename_i c
    have h1 := in_pos c
    have h2 := nc_sub1 hmt.1
    have h3 := hmt.2
    have h4 := L_0
    exact ⟨by omega, by omega, by omega⟩
def f_M_thing (X : Nat → Nat → Int32) : Int32 × (Nat → Nat → Int32) := (if (X 1 0) = 32 then ((-3), (upf X 0 (fun _ => 0))) else ((((X 1 0) + 1) - 1), (upf (upf (upf (upf X 0 (fun _ => 0)) 1 (fun _ => ((X 1 0) + 1))) 4 (upd (X 4) ((X 1 0) : Int32).toNatClampNeg (-1))) 5 (upd (X 5) ((X 1 0) : Int32).toNatClampNeg 1))))
abbrev ws_M_thing : List Cond := .code y_M_thing b_M_thing 1 (some .int) :: lw_G
abbrev rm_M_thing : Room := { frames := 0, cells := 0, slots := 0, locals := 0 }
set_option maxHeartbeats 4000000 in
set_option maxRecDepth 100000 in
theorem c_M_thing (l : Launch) (dC : Nat → ClassId) (dI : Nat → Nat → Nat) (cA cZ : ClassId) (sz : Nat) (a : Nat → Nat) (rv : Value) (X : Nat → Nat → Int32) (hmt : m_t X) : Met l y_M_thing ws_M_thing rm_M_thing (nc_PreZM (dC, dI) cA cZ sz [.ref (a 0)] (w_M cA cZ a rv X)) (va_Qi (fun r (_ : Unit) => r = (f_M_thing X).1) (fun _ t => va_P (dC, dI) classes (w_M cA cZ a rv (f_M_thing X).2) t.heap ∧ va_D (va_A (w_M cA cZ a rv X) sz) (w_M cA cZ a rv (f_M_thing X).2)) (va_A (w_M cA cZ a rv X) sz)) 0 0 (va_A (w_M cA cZ a rv X) sz) := by
  refine Met.ofW (cc := b_M_thing) (maxL := 1) (ret := (some .int)) (by decide) rfl ?_
  intro p e s m args below meth c s₁ B hml hv
  obtain ⟨rfl, hsz, hP, hK, hD0, hN⟩ := hv
  have hx := B.exec
  have hb := B.bytes
  have hr := B.returns
  have hts : ∀ w ∈ lw_G, w.before [.ref (a 0)].toArray s = true := fun w h => atoms_spec (ws := ws_M_thing) B.pre w (List.mem_cons_of_mem _ h)
  have hown : s.vm.findClass R_M = some m.cls := findClass_of_methodNamed B.named
  have hlocks := B.notSynchronized
  have hfix : CallFix p m c b_M_thing 1 s [.ref (a 0)].toArray lw_G R_M := ⟨hx, hb, hml, hown, hts⟩
  have hK1 := hK.sub (tys' := [(cA, .int)]) [0] rfl
  subst hsz
  have hD := hD0.self (sz := s.heap.size)
  generalize hAe : va_A (w_M cA cZ a rv X) s.heap.size = A at hD ⊢
  have hA : ∀ q : Nat, s.heap.size ≤ q → A q := fun q h => by rw [← hAe]; exact Or.inr h
  have hS : va_S A s.heap s.heap [] := va_S.rf
  have hl := lv_entry ([.ref (a 0)]) (n := 1) (Nat.le_of_ble_eq_true rfl)
  rw [lg_entry_eq]
  generalize (lg_sl ([.ref (a 0)]) ++ List.replicate (1 - (lg_sl ([.ref (a 0)])).length) Slot.unset).toArray = ls at hl ⊢
  have hl : lv_has ls 1 [(0, .ref (a 0))] := hl
  refine lv_aload_n hx hb d_M_thing_0 rfl (lv_at hl 0 rfl) ?_
  refine lv_iconst (v := 0) hx hb d_M_thing_1 (by decide) ?_
  refine va_put (D := (dC, dI)) (ci := 4) (v := .int 0) (ty := .int) (C := R_M) (T := F_M) (N := 39) hx hb hts i_M t_M t_M_ok n_M hown hK hP hD hS 0 rfl rfl 0 (by decide) (hts _ m_f_M_1) (fun _ h9 => h9) rfl (by decide +kernel) rfl rfl (Nat.le_of_ble_eq_true rfl) d_M_thing_2 (fun H locs hP hD hS => ?_)
  have hP : va_P (dC, dI) classes (w_M cA cZ a rv (upf X 0 (fun _ => 0))) H := hP
  have hD : va_D A (w_M cA cZ a rv (upf X 0 (fun _ => 0))) := hD
  refine lv_aload_n hx hb d_M_thing_5 rfl (lv_at hl 0 rfl) ?_
  refine va_get (D := (dC, dI)) (ci := 4) (v := .int (X 1 0)) (C := R_M) (T := F_M) (N := 39) hx hb hts i_M hown hK hP 0 rfl rfl 1 (by decide) (hts _ m_f_M_69) (fun _ h9 => h9) rfl d_M_thing_6 ?_
  refine lv_bipush (v := 32) hx hb d_M_thing_9 (by decide) ?_
  refine lv_icmp_ne (tgt := 17) hx hb d_M_thing_11 (by decide) (fun c_406 => ?_) (fun c_406 => ?_)
  · refine lv_aload_n hx hb d_M_thing_17 rfl (lv_at hl 0 rfl) ?_
    refine va_get (D := (dC, dI)) (ci := 4) (v := .ref (a 3)) (C := R_M) (T := F_M) (N := 39) hx hb hts i_M hown hK hP 0 rfl rfl 4 (by decide) (hts _ m_f_M_20) (fun _ h9 => h9) rfl d_M_thing_18 ?_
    refine lv_aload_n hx hb d_M_thing_21 rfl (lv_at hl 0 rfl) ?_
    refine va_get (D := (dC, dI)) (ci := 4) (v := .int (X 1 0)) (C := R_M) (T := F_M) (N := 39) hx hb hts i_M hown hK hP 0 rfl rfl 1 (by decide) (hts _ m_f_M_69) (fun _ h9 => h9) rfl d_M_thing_22 ?_
    refine lv_iconst (v := (-1)) hx hb d_M_thing_25 (by decide) ?_
    refine va_iast (f := (X 4)) hx hb hK hP hD hS 3 0 rfl rfl (by have q0 := nc_ne c_406 rfl (L_32); have q1 := hmt.1; have q2 := hmt.2; exact vp_in_iff.mpr ⟨by omega, by omega⟩) d_M_thing_26 (fun H locs hP hD hS => ?_)
    have hP : va_P (dC, dI) classes (w_M cA cZ a rv (upf (upf X 0 (fun _ => 0)) 4 (upd (X 4) ((X 1 0) : Int32).toNatClampNeg (-1)))) H := hP
    have hD : va_D A (w_M cA cZ a rv (upf (upf X 0 (fun _ => 0)) 4 (upd (X 4) ((X 1 0) : Int32).toNatClampNeg (-1)))) := hD
    refine lv_aload_n hx hb d_M_thing_27 rfl (lv_at hl 0 rfl) ?_
    refine va_get (D := (dC, dI)) (ci := 4) (v := .ref (a 4)) (C := R_M) (T := F_M) (N := 39) hx hb hts i_M hown hK hP 0 rfl rfl 5 (by decide) (hts _ m_f_M_23) (fun _ h9 => h9) rfl d_M_thing_28 ?_
    refine lv_aload_n hx hb d_M_thing_31 rfl (lv_at hl 0 rfl) ?_
    refine va_get (D := (dC, dI)) (ci := 4) (v := .int (X 1 0)) (C := R_M) (T := F_M) (N := 39) hx hb hts i_M hown hK hP 0 rfl rfl 1 (by decide) (hts _ m_f_M_69) (fun _ h9 => h9) rfl d_M_thing_32 ?_
    refine lv_iconst (v := 1) hx hb d_M_thing_35 (by decide) ?_
    refine va_iast (f := (X 5)) hx hb hK hP hD hS 4 0 rfl rfl (by have q0 := nc_ne c_406 rfl (L_32); have q1 := hmt.1; have q2 := hmt.2; exact vp_in_iff.mpr ⟨by omega, by omega⟩) d_M_thing_36 (fun H locs hP hD hS => ?_)
    have hP : va_P (dC, dI) classes (w_M cA cZ a rv (upf (upf (upf X 0 (fun _ => 0)) 4 (upd (X 4) ((X 1 0) : Int32).toNatClampNeg (-1))) 5 (upd (X 5) ((X 1 0) : Int32).toNatClampNeg 1))) H := hP
    have hD : va_D A (w_M cA cZ a rv (upf (upf (upf X 0 (fun _ => 0)) 4 (upd (X 4) ((X 1 0) : Int32).toNatClampNeg (-1))) 5 (upd (X 5) ((X 1 0) : Int32).toNatClampNeg 1))) := hD
    refine lv_aload_n hx hb d_M_thing_37 rfl (lv_at hl 0 rfl) ?_
    refine lv_dup hx hb d_M_thing_38 rfl ?_
    refine va_get (D := (dC, dI)) (ci := 4) (v := .int (X 1 0)) (C := R_M) (T := F_M) (N := 39) hx hb hts i_M hown hK hP 0 rfl rfl 1 (by decide) (hts _ m_f_M_69) (fun _ h9 => h9) rfl d_M_thing_39 ?_
    refine lv_iconst (v := 1) hx hb d_M_thing_42 (by decide) ?_
    refine lv_iadd hx hb d_M_thing_43 ?_
    refine va_put (D := (dC, dI)) (ci := 4) (v := .int ((X 1 0) + 1)) (ty := .int) (C := R_M) (T := F_M) (N := 39) hx hb hts i_M t_M t_M_ok n_M hown hK hP hD hS 0 rfl rfl 1 (by decide) (hts _ m_f_M_69) (fun _ h9 => h9) rfl (by decide +kernel) rfl rfl (Nat.le_of_ble_eq_true rfl) d_M_thing_44 (fun H locs hP hD hS => ?_)
    have hP : va_P (dC, dI) classes (w_M cA cZ a rv (upf (upf (upf (upf X 0 (fun _ => 0)) 1 (fun _ => ((X 1 0) + 1))) 4 (upd (X 4) ((X 1 0) : Int32).toNatClampNeg (-1))) 5 (upd (X 5) ((X 1 0) : Int32).toNatClampNeg 1))) H := hP
    have hD : va_D A (w_M cA cZ a rv (upf (upf (upf (upf X 0 (fun _ => 0)) 1 (fun _ => ((X 1 0) + 1))) 4 (upd (X 4) ((X 1 0) : Int32).toNatClampNeg (-1))) 5 (upd (X 5) ((X 1 0) : Int32).toNatClampNeg 1))) := hD
    refine lv_aload_n hx hb d_M_thing_47 rfl (lv_at hl 0 rfl) ?_
    refine va_get (D := (dC, dI)) (ci := 4) (v := .int ((X 1 0) + 1)) (C := R_M) (T := F_M) (N := 39) hx hb hts i_M hown hK hP 0 rfl rfl 1 (by decide) (hts _ m_f_M_69) (fun _ h9 => h9) rfl d_M_thing_48 ?_
    refine lv_iconst (v := 1) hx hb d_M_thing_51 (by decide) ?_
    refine lv_isub hx hb d_M_thing_52 ?_
    have hF : (f_M_thing X) = ((((X 1 0) + 1) - 1), (upf (upf (upf (upf X 0 (fun _ => 0)) 1 (fun _ => ((X 1 0) + 1))) 4 (upd (X 4) ((X 1 0) : Int32).toNatClampNeg (-1))) 5 (upd (X 5) ((X 1 0) : Int32).toNatClampNeg 1))) := by rw [f_M_thing, if_neg c_406]
    exact W.iret (v := (((X 1 0) + 1) - 1)) hx hb hr (fun t ht hW => ⟨⟨(((X 1 0) + 1) - 1), (), rfl, by rw [hF], by rw [hF, ht]; exact hP, by rw [hF]; exact hD⟩, hS.F ht⟩) hS.2.2 d_M_thing_53
  · refine lv_bipush (v := (-3)) hx hb d_M_thing_14 (by decide) ?_
    have hF : (f_M_thing X) = ((-3), (upf X 0 (fun _ => 0))) := by rw [f_M_thing, if_pos c_406]
    exact W.iret (v := (-3)) hx hb hr (fun t ht hW => ⟨⟨(-3), (), rfl, by rw [hF], by rw [hF, ht]; exact hP, by rw [hF]; exact hD⟩, hS.F ht⟩) hS.2.2 d_M_thing_16
def f_M_word (X : Nat → Nat → Int32) (x1 x2 x3 x4 : Int32) : Int32 × (Nat → Nat → Int32) := (if (f_M_noThing (upf X 0 (fun _ => 0)) x1) = 0 then (if (f_M_in x2 0 29) = 0 then ((-1), (upf X 0 (fun _ => 0))) else (if x3 = 0 then (if x4 = 0 then (((nc_ushr ((X 3) x1.toNatClampNeg) x2) &&& 1), (upf (upf X 0 (fun _ => 0)) 3 (upd (X 3) (x1 : Int32).toNatClampNeg (((X 3) x1.toNatClampNeg) &&& (((1 : Int32) <<< (x2 &&& 31)) ^^^ (-1)))))) else (((nc_ushr ((X 3) x1.toNatClampNeg) x2) &&& 1), (upf (upf X 0 (fun _ => 0)) 3 (upd (X 3) (x1 : Int32).toNatClampNeg (((X 3) x1.toNatClampNeg) ||| ((1 : Int32) <<< (x2 &&& 31))))))) else (if x4 = 0 then (((nc_ushr ((X 2) x1.toNatClampNeg) x2) &&& 1), (upf (upf X 0 (fun _ => 0)) 2 (upd (X 2) (x1 : Int32).toNatClampNeg (((X 2) x1.toNatClampNeg) &&& (((1 : Int32) <<< (x2 &&& 31)) ^^^ (-1)))))) else (((nc_ushr ((X 2) x1.toNatClampNeg) x2) &&& 1), (upf (upf X 0 (fun _ => 0)) 2 (upd (X 2) (x1 : Int32).toNatClampNeg (((X 2) x1.toNatClampNeg) ||| ((1 : Int32) <<< (x2 &&& 31))))))))) else ((-1), (upf X 0 (fun _ => 0))))
abbrev ws_M_word : List Cond := .code y_M_word b_M_word 7 (some .int) :: lw_G
abbrev rm_M_word : Room := { frames := 2, cells := 0, slots := 0, locals := 43 }
set_option maxHeartbeats 4000000 in
set_option maxRecDepth 100000 in
theorem c_M_word (l : Launch) (dC : Nat → ClassId) (dI : Nat → Nat → Nat) (cA cZ : ClassId) (sz : Nat) (a : Nat → Nat) (rv : Value) (X : Nat → Nat → Int32) (x1 x2 x3 x4 : Int32) (hmt : m_t X) : Met l y_M_word ws_M_word rm_M_word (nc_PreZM (dC, dI) cA cZ sz [.ref (a 0), .int x1, .int x2, .int x3, .int x4] (w_M cA cZ a rv X)) (va_Qi (fun r (_ : Unit) => r = (f_M_word X x1 x2 x3 x4).1) (fun _ t => va_P (dC, dI) classes (w_M cA cZ a rv (f_M_word X x1 x2 x3 x4).2) t.heap ∧ va_D (va_A (w_M cA cZ a rv X) sz) (w_M cA cZ a rv (f_M_word X x1 x2 x3 x4).2)) (va_A (w_M cA cZ a rv X) sz)) 0 0 (va_A (w_M cA cZ a rv X) sz) := by
  refine Met.ofW (cc := b_M_word) (maxL := 7) (ret := (some .int)) (by decide) rfl ?_
  intro p e s m args below meth c s₁ B hml hv
  obtain ⟨rfl, hsz, hP, hK, hD0, hN⟩ := hv
  have hx := B.exec
  have hb := B.bytes
  have hr := B.returns
  have hts : ∀ w ∈ lw_G, w.before [.ref (a 0), .int x1, .int x2, .int x3, .int x4].toArray s = true := fun w h => atoms_spec (ws := ws_M_word) B.pre w (List.mem_cons_of_mem _ h)
  have hown : s.vm.findClass R_M = some m.cls := findClass_of_methodNamed B.named
  have hlocks := B.notSynchronized
  have hfix : CallFix p m c b_M_word 7 s [.ref (a 0), .int x1, .int x2, .int x3, .int x4].toArray lw_G R_M := ⟨hx, hb, hml, hown, hts⟩
  have hK1 := hK.sub (tys' := [(cA, .int)]) [0] rfl
  subst hsz
  have hD := hD0.self (sz := s.heap.size)
  generalize hAe : va_A (w_M cA cZ a rv X) s.heap.size = A at hD ⊢
  have hA : ∀ q : Nat, s.heap.size ≤ q → A q := fun q h => by rw [← hAe]; exact Or.inr h
  have hS : va_S A s.heap s.heap [] := va_S.rf
  have hl := lv_entry ([.ref (a 0), .int x1, .int x2, .int x3, .int x4]) (n := 7) (Nat.le_of_ble_eq_true rfl)
  rw [lg_entry_eq]
  generalize (lg_sl ([.ref (a 0), .int x1, .int x2, .int x3, .int x4]) ++ List.replicate (7 - (lg_sl ([.ref (a 0), .int x1, .int x2, .int x3, .int x4])).length) Slot.unset).toArray = ls at hl ⊢
  have hl : lv_has ls 7 [(0, .ref (a 0)), (1, .int x1), (2, .int x2), (3, .int x3), (4, .int x4)] := hl
  refine lv_aload_n hx hb d_M_word_0 rfl (lv_at hl 0 rfl) ?_
  refine lv_iconst (v := 0) hx hb d_M_word_1 (by decide) ?_
  refine va_put (D := (dC, dI)) (ci := 4) (v := .int 0) (ty := .int) (C := R_M) (T := F_M) (N := 39) hx hb hts i_M t_M t_M_ok n_M hown hK hP hD hS 0 rfl rfl 0 (by decide) (hts _ m_f_M_1) (fun _ h9 => h9) rfl (by decide +kernel) rfl rfl (Nat.le_of_ble_eq_true rfl) d_M_word_2 (fun H locs hP hD hS => ?_)
  have hP : va_P (dC, dI) classes (w_M cA cZ a rv (upf X 0 (fun _ => 0))) H := hP
  have hD : va_D A (w_M cA cZ a rv (upf X 0 (fun _ => 0))) := hD
  refine lv_aload_n hx hb d_M_word_5 rfl (lv_at hl 0 rfl) ?_
  refine lv_iload_n hx hb d_M_word_6 rfl (lv_at hl 1 rfl) ?_
  refine nc_ro (va_runV (As := [.int x1]) (rest := []) hfix (c_M_noThing l dC dI cA cZ a rv (upf X 0 (fun _ => 0)) x1) (k_M_76 hts hN ⟨Nat.le_of_ble_eq_true rfl, Nat.le_of_ble_eq_true rfl⟩) (nc_preVZ hK hN hP hD rfl rfl) rfl rfl hl.1 rfl (lv_room (Nat.le_of_ble_eq_true rfl)) d_M_word_7 ⟨Nat.zero_le _, Nat.zero_le _⟩) (fun r er => ?_)
  obtain ⟨rfl, hz_407⟩ := er
  refine lv_if_ne (tgt := 23) hx hb d_M_word_10 (by decide) (fun c_408 => ?_) (fun c_408 => ?_)
  · refine lv_iconst (v := (-1)) hx hb d_M_word_23 (by decide) ?_
    have hF : (f_M_word X x1 x2 x3 x4) = ((-1), (upf X 0 (fun _ => 0))) := by rw [f_M_word, if_neg c_408]
    exact W.iret (v := (-1)) hx hb hr (fun t ht hW => ⟨⟨(-1), (), rfl, by rw [hF], by rw [hF, ht]; exact hP, by rw [hF]; exact hD⟩, hS.F ht⟩) hS.2.2 d_M_word_24
  · refine lv_iload_n hx hb d_M_word_13 rfl (lv_at hl 2 rfl) ?_
    refine lv_iconst (v := 0) hx hb d_M_word_14 (by decide) ?_
    refine lv_bipush (v := 29) hx hb d_M_word_15 (by decide) ?_
    refine nc_ro (va_runS (As := [.int x2, .int 0, .int 29]) (rest := []) hfix (c_M_in l dC dI cA x2 0 29) (k_M_72 hts hN ⟨Nat.le_of_ble_eq_true rfl, Nat.le_of_ble_eq_true rfl⟩) (nc_preS0 hK1 hN) rfl rfl hl.1 rfl (lv_room (Nat.le_of_ble_eq_true rfl)) d_M_word_17 ⟨Nat.zero_le _, Nat.zero_le _⟩) (fun r er => ?_)
    obtain ⟨rfl, hz_409⟩ := er
    refine lv_if_ne (tgt := 25) hx hb d_M_word_20 (by decide) (fun c_410 => ?_) (fun c_410 => ?_)
    · refine lv_iload_n hx hb d_M_word_25 rfl (lv_at hl 3 rfl) ?_
      refine lv_if_eq (tgt := 38) hx hb d_M_word_26 (by decide) (fun c_411 => ?_) (fun c_411 => ?_)
      · refine lv_aload_n hx hb d_M_word_38 rfl (lv_at hl 0 rfl) ?_
        refine va_get (D := (dC, dI)) (ci := 4) (v := .ref (a 2)) (C := R_M) (T := F_M) (N := 39) hx hb hts i_M hown hK hP 0 rfl rfl 3 (by decide) (hts _ m_f_M_17) (fun _ h9 => h9) rfl d_M_word_39 ?_
        refine lv_iload_n hx hb d_M_word_42 rfl (lv_at hl 1 rfl) ?_
        refine va_iald (f := (X 3)) hx hb hK hP 2 0 rfl rfl (by have q0 := nc_eq c_408 rfl (L_0); have q1 := nc_ne c_410 rfl (L_0); have q2 := nc_eq c_411 rfl (L_0); have q3 := hmt.1; have q4 := hmt.2; have q5 := noThing_zero hmt c_408; have q6 := L_0; have q7 := L_29; have q8 := in_pos c_410; exact vp_in_iff.mpr ⟨by omega, by omega⟩) d_M_word_43 ?_
        refine lv_istore (lv' := [(5, .int ((X 3) x1.toNatClampNeg)), (0, .ref (a 0)), (1, .int x1), (2, .int x2), (3, .int x3), (4, .int x4)]) hx hb d_M_word_44 hl (by decide) rfl (fun ls hl => ?_)
        refine lv_iload hx hb d_M_word_46 (lv_at hl 5 rfl) ?_
        refine lv_if_eq (tgt := 60) hx hb d_M_word_48 (by decide) (fun c_412 => ?_) (fun c_412 => ?_)
        · refine lv_iload hx hb d_M_word_60 (lv_at hl 0 rfl) ?_
          refine lv_iconst (v := 1) hx hb d_M_word_62 (by decide) ?_
          refine lv_iload_n hx hb d_M_word_63 rfl (lv_at hl 3 rfl) ?_
          refine lv_ishl hx hb d_M_word_64 ?_
          refine lv_iconst (v := (-1)) hx hb d_M_word_65 (by decide) ?_
          refine lv_ixor hx hb d_M_word_66 ?_
          refine lv_iand hx hb d_M_word_67 ?_
          refine lv_istore (lv' := [(6, .int (((X 3) x1.toNatClampNeg) &&& (((1 : Int32) <<< (x2 &&& 31)) ^^^ (-1)))), (5, .int ((X 3) x1.toNatClampNeg)), (0, .ref (a 0)), (1, .int x1), (2, .int x2), (3, .int x3), (4, .int x4)]) hx hb d_M_word_68 hl (by decide) rfl (fun ls hl => ?_)
          refine lv_iload_n hx hb d_M_word_70 rfl (lv_at hl 5 rfl) ?_
          refine lv_if_eq (tgt := 85) hx hb d_M_word_71 (by decide) (fun c_413 => ?_) (fun c_413 => ?_)
          · refine lv_aload_n hx hb d_M_word_85 rfl (lv_at hl 2 rfl) ?_
            refine va_get (D := (dC, dI)) (ci := 4) (v := .ref (a 2)) (C := R_M) (T := F_M) (N := 39) hx hb hts i_M hown hK hP 0 rfl rfl 3 (by decide) (hts _ m_f_M_17) (fun _ h9 => h9) rfl d_M_word_86 ?_
            refine lv_iload_n hx hb d_M_word_89 rfl (lv_at hl 3 rfl) ?_
            refine lv_iload hx hb d_M_word_90 (lv_at hl 0 rfl) ?_
            refine va_iast (f := (X 3)) hx hb hK hP hD hS 2 0 rfl rfl (by have q0 := nc_eq c_408 rfl (L_0); have q1 := nc_ne c_410 rfl (L_0); have q2 := nc_eq c_411 rfl (L_0); have q3 := nc_eq c_412 rfl (L_0); have q4 := hmt.1; have q5 := hmt.2; have q6 := noThing_zero hmt c_408; have q7 := L_0; have q8 := L_29; have q9 := in_pos c_410; exact vp_in_iff.mpr ⟨by omega, by omega⟩) d_M_word_92 (fun H locs hP hD hS => ?_)
            have hP : va_P (dC, dI) classes (w_M cA cZ a rv (upf (upf X 0 (fun _ => 0)) 3 (upd (X 3) (x1 : Int32).toNatClampNeg (((X 3) x1.toNatClampNeg) &&& (((1 : Int32) <<< (x2 &&& 31)) ^^^ (-1)))))) H := hP
            have hD : va_D A (w_M cA cZ a rv (upf (upf X 0 (fun _ => 0)) 3 (upd (X 3) (x1 : Int32).toNatClampNeg (((X 3) x1.toNatClampNeg) &&& (((1 : Int32) <<< (x2 &&& 31)) ^^^ (-1)))))) := hD
            refine lv_iload hx hb d_M_word_93 (lv_at hl 1 rfl) ?_
            refine lv_iload_n hx hb d_M_word_95 rfl (lv_at hl 4 rfl) ?_
            refine lv_iushr (v := (nc_ushr ((X 3) x1.toNatClampNeg) x2)) hx hb d_M_word_96 rfl ?_
            refine lv_iconst (v := 1) hx hb d_M_word_97 (by decide) ?_
            refine lv_iand hx hb d_M_word_98 ?_
            have hF : (f_M_word X x1 x2 x3 x4) = (((nc_ushr ((X 3) x1.toNatClampNeg) x2) &&& 1), (upf (upf X 0 (fun _ => 0)) 3 (upd (X 3) (x1 : Int32).toNatClampNeg (((X 3) x1.toNatClampNeg) &&& (((1 : Int32) <<< (x2 &&& 31)) ^^^ (-1)))))) := by rw [f_M_word, if_pos c_408, if_neg c_410, if_pos c_411, if_pos c_412]
            exact W.iret (v := ((nc_ushr ((X 3) x1.toNatClampNeg) x2) &&& 1)) hx hb hr (fun t ht hW => ⟨⟨((nc_ushr ((X 3) x1.toNatClampNeg) x2) &&& 1), (), rfl, by rw [hF], by rw [hF, ht]; exact hP, by rw [hF]; exact hD⟩, hS.F ht⟩) hS.2.2 d_M_word_99
          · exact absurd c_411 c_413
        · refine lv_iload hx hb d_M_word_51 (lv_at hl 0 rfl) ?_
          refine lv_iconst (v := 1) hx hb d_M_word_53 (by decide) ?_
          refine lv_iload_n hx hb d_M_word_54 rfl (lv_at hl 3 rfl) ?_
          refine lv_ishl hx hb d_M_word_55 ?_
          refine lv_ior hx hb d_M_word_56 ?_
          refine lv_goto (tgt := 68) hx hb d_M_word_57 (by decide) ?_
          refine lv_istore (lv' := [(6, .int (((X 3) x1.toNatClampNeg) ||| ((1 : Int32) <<< (x2 &&& 31)))), (5, .int ((X 3) x1.toNatClampNeg)), (0, .ref (a 0)), (1, .int x1), (2, .int x2), (3, .int x3), (4, .int x4)]) hx hb d_M_word_68 hl (by decide) rfl (fun ls hl => ?_)
          refine lv_iload_n hx hb d_M_word_70 rfl (lv_at hl 5 rfl) ?_
          refine lv_if_eq (tgt := 85) hx hb d_M_word_71 (by decide) (fun c_414 => ?_) (fun c_414 => ?_)
          · refine lv_aload_n hx hb d_M_word_85 rfl (lv_at hl 2 rfl) ?_
            refine va_get (D := (dC, dI)) (ci := 4) (v := .ref (a 2)) (C := R_M) (T := F_M) (N := 39) hx hb hts i_M hown hK hP 0 rfl rfl 3 (by decide) (hts _ m_f_M_17) (fun _ h9 => h9) rfl d_M_word_86 ?_
            refine lv_iload_n hx hb d_M_word_89 rfl (lv_at hl 3 rfl) ?_
            refine lv_iload hx hb d_M_word_90 (lv_at hl 0 rfl) ?_
            refine va_iast (f := (X 3)) hx hb hK hP hD hS 2 0 rfl rfl (by have q0 := nc_eq c_408 rfl (L_0); have q1 := nc_ne c_410 rfl (L_0); have q2 := nc_eq c_411 rfl (L_0); have q3 := nc_ne c_412 rfl (L_0); have q4 := hmt.1; have q5 := hmt.2; have q6 := noThing_zero hmt c_408; have q7 := L_0; have q8 := L_29; have q9 := in_pos c_410; exact vp_in_iff.mpr ⟨by omega, by omega⟩) d_M_word_92 (fun H locs hP hD hS => ?_)
            have hP : va_P (dC, dI) classes (w_M cA cZ a rv (upf (upf X 0 (fun _ => 0)) 3 (upd (X 3) (x1 : Int32).toNatClampNeg (((X 3) x1.toNatClampNeg) ||| ((1 : Int32) <<< (x2 &&& 31)))))) H := hP
            have hD : va_D A (w_M cA cZ a rv (upf (upf X 0 (fun _ => 0)) 3 (upd (X 3) (x1 : Int32).toNatClampNeg (((X 3) x1.toNatClampNeg) ||| ((1 : Int32) <<< (x2 &&& 31)))))) := hD
            refine lv_iload hx hb d_M_word_93 (lv_at hl 1 rfl) ?_
            refine lv_iload_n hx hb d_M_word_95 rfl (lv_at hl 4 rfl) ?_
            refine lv_iushr (v := (nc_ushr ((X 3) x1.toNatClampNeg) x2)) hx hb d_M_word_96 rfl ?_
            refine lv_iconst (v := 1) hx hb d_M_word_97 (by decide) ?_
            refine lv_iand hx hb d_M_word_98 ?_
            have hF : (f_M_word X x1 x2 x3 x4) = (((nc_ushr ((X 3) x1.toNatClampNeg) x2) &&& 1), (upf (upf X 0 (fun _ => 0)) 3 (upd (X 3) (x1 : Int32).toNatClampNeg (((X 3) x1.toNatClampNeg) ||| ((1 : Int32) <<< (x2 &&& 31)))))) := by rw [f_M_word, if_pos c_408, if_neg c_410, if_pos c_411, if_neg c_412]
            exact W.iret (v := ((nc_ushr ((X 3) x1.toNatClampNeg) x2) &&& 1)) hx hb hr (fun t ht hW => ⟨⟨((nc_ushr ((X 3) x1.toNatClampNeg) x2) &&& 1), (), rfl, by rw [hF], by rw [hF, ht]; exact hP, by rw [hF]; exact hD⟩, hS.F ht⟩) hS.2.2 d_M_word_99
          · exact absurd c_411 c_414
      · refine lv_aload_n hx hb d_M_word_29 rfl (lv_at hl 0 rfl) ?_
        refine va_get (D := (dC, dI)) (ci := 4) (v := .ref (a 1)) (C := R_M) (T := F_M) (N := 39) hx hb hts i_M hown hK hP 0 rfl rfl 2 (by decide) (hts _ m_f_M_13) (fun _ h9 => h9) rfl d_M_word_30 ?_
        refine lv_iload_n hx hb d_M_word_33 rfl (lv_at hl 1 rfl) ?_
        refine va_iald (f := (X 2)) hx hb hK hP 1 0 rfl rfl (by have q0 := nc_eq c_408 rfl (L_0); have q1 := nc_ne c_410 rfl (L_0); have q2 := nc_ne c_411 rfl (L_0); have q3 := hmt.1; have q4 := hmt.2; have q5 := noThing_zero hmt c_408; have q6 := L_0; have q7 := L_29; have q8 := in_pos c_410; exact vp_in_iff.mpr ⟨by omega, by omega⟩) d_M_word_34 ?_
        refine lv_goto (tgt := 44) hx hb d_M_word_35 (by decide) ?_
        refine lv_istore (lv' := [(5, .int ((X 2) x1.toNatClampNeg)), (0, .ref (a 0)), (1, .int x1), (2, .int x2), (3, .int x3), (4, .int x4)]) hx hb d_M_word_44 hl (by decide) rfl (fun ls hl => ?_)
        refine lv_iload hx hb d_M_word_46 (lv_at hl 5 rfl) ?_
        refine lv_if_eq (tgt := 60) hx hb d_M_word_48 (by decide) (fun c_415 => ?_) (fun c_415 => ?_)
        · refine lv_iload hx hb d_M_word_60 (lv_at hl 0 rfl) ?_
          refine lv_iconst (v := 1) hx hb d_M_word_62 (by decide) ?_
          refine lv_iload_n hx hb d_M_word_63 rfl (lv_at hl 3 rfl) ?_
          refine lv_ishl hx hb d_M_word_64 ?_
          refine lv_iconst (v := (-1)) hx hb d_M_word_65 (by decide) ?_
          refine lv_ixor hx hb d_M_word_66 ?_
          refine lv_iand hx hb d_M_word_67 ?_
          refine lv_istore (lv' := [(6, .int (((X 2) x1.toNatClampNeg) &&& (((1 : Int32) <<< (x2 &&& 31)) ^^^ (-1)))), (5, .int ((X 2) x1.toNatClampNeg)), (0, .ref (a 0)), (1, .int x1), (2, .int x2), (3, .int x3), (4, .int x4)]) hx hb d_M_word_68 hl (by decide) rfl (fun ls hl => ?_)
          refine lv_iload_n hx hb d_M_word_70 rfl (lv_at hl 5 rfl) ?_
          refine lv_if_eq (tgt := 85) hx hb d_M_word_71 (by decide) (fun c_416 => ?_) (fun c_416 => ?_)
          · exact absurd c_416 c_411
          · refine lv_aload_n hx hb d_M_word_74 rfl (lv_at hl 2 rfl) ?_
            refine va_get (D := (dC, dI)) (ci := 4) (v := .ref (a 1)) (C := R_M) (T := F_M) (N := 39) hx hb hts i_M hown hK hP 0 rfl rfl 2 (by decide) (hts _ m_f_M_13) (fun _ h9 => h9) rfl d_M_word_75 ?_
            refine lv_iload_n hx hb d_M_word_78 rfl (lv_at hl 3 rfl) ?_
            refine lv_iload hx hb d_M_word_79 (lv_at hl 0 rfl) ?_
            refine va_iast (f := (X 2)) hx hb hK hP hD hS 1 0 rfl rfl (by have q0 := nc_eq c_408 rfl (L_0); have q1 := nc_ne c_410 rfl (L_0); have q2 := nc_ne c_411 rfl (L_0); have q3 := nc_eq c_415 rfl (L_0); have q4 := hmt.1; have q5 := hmt.2; have q6 := noThing_zero hmt c_408; have q7 := L_0; have q8 := L_29; have q9 := in_pos c_410; exact vp_in_iff.mpr ⟨by omega, by omega⟩) d_M_word_81 (fun H locs hP hD hS => ?_)
            have hP : va_P (dC, dI) classes (w_M cA cZ a rv (upf (upf X 0 (fun _ => 0)) 2 (upd (X 2) (x1 : Int32).toNatClampNeg (((X 2) x1.toNatClampNeg) &&& (((1 : Int32) <<< (x2 &&& 31)) ^^^ (-1)))))) H := hP
            have hD : va_D A (w_M cA cZ a rv (upf (upf X 0 (fun _ => 0)) 2 (upd (X 2) (x1 : Int32).toNatClampNeg (((X 2) x1.toNatClampNeg) &&& (((1 : Int32) <<< (x2 &&& 31)) ^^^ (-1)))))) := hD
            refine lv_goto (tgt := 93) hx hb d_M_word_82 (by decide) ?_
            refine lv_iload hx hb d_M_word_93 (lv_at hl 1 rfl) ?_
            refine lv_iload_n hx hb d_M_word_95 rfl (lv_at hl 4 rfl) ?_
            refine lv_iushr (v := (nc_ushr ((X 2) x1.toNatClampNeg) x2)) hx hb d_M_word_96 rfl ?_
            refine lv_iconst (v := 1) hx hb d_M_word_97 (by decide) ?_
            refine lv_iand hx hb d_M_word_98 ?_
            have hF : (f_M_word X x1 x2 x3 x4) = (((nc_ushr ((X 2) x1.toNatClampNeg) x2) &&& 1), (upf (upf X 0 (fun _ => 0)) 2 (upd (X 2) (x1 : Int32).toNatClampNeg (((X 2) x1.toNatClampNeg) &&& (((1 : Int32) <<< (x2 &&& 31)) ^^^ (-1)))))) := by rw [f_M_word, if_pos c_408, if_neg c_410, if_neg c_411, if_pos c_415]
            exact W.iret (v := ((nc_ushr ((X 2) x1.toNatClampNeg) x2) &&& 1)) hx hb hr (fun t ht hW => ⟨⟨((nc_ushr ((X 2) x1.toNatClampNeg) x2) &&& 1), (), rfl, by rw [hF], by rw [hF, ht]; exact hP, by rw [hF]; exact hD⟩, hS.F ht⟩) hS.2.2 d_M_word_99
        · refine lv_iload hx hb d_M_word_51 (lv_at hl 0 rfl) ?_
          refine lv_iconst (v := 1) hx hb d_M_word_53 (by decide) ?_
          refine lv_iload_n hx hb d_M_word_54 rfl (lv_at hl 3 rfl) ?_
          refine lv_ishl hx hb d_M_word_55 ?_
          refine lv_ior hx hb d_M_word_56 ?_
          refine lv_goto (tgt := 68) hx hb d_M_word_57 (by decide) ?_
          refine lv_istore (lv' := [(6, .int (((X 2) x1.toNatClampNeg) ||| ((1 : Int32) <<< (x2 &&& 31)))), (5, .int ((X 2) x1.toNatClampNeg)), (0, .ref (a 0)), (1, .int x1), (2, .int x2), (3, .int x3), (4, .int x4)]) hx hb d_M_word_68 hl (by decide) rfl (fun ls hl => ?_)
          refine lv_iload_n hx hb d_M_word_70 rfl (lv_at hl 5 rfl) ?_
          refine lv_if_eq (tgt := 85) hx hb d_M_word_71 (by decide) (fun c_417 => ?_) (fun c_417 => ?_)
          · exact absurd c_417 c_411
          · refine lv_aload_n hx hb d_M_word_74 rfl (lv_at hl 2 rfl) ?_
            refine va_get (D := (dC, dI)) (ci := 4) (v := .ref (a 1)) (C := R_M) (T := F_M) (N := 39) hx hb hts i_M hown hK hP 0 rfl rfl 2 (by decide) (hts _ m_f_M_13) (fun _ h9 => h9) rfl d_M_word_75 ?_
            refine lv_iload_n hx hb d_M_word_78 rfl (lv_at hl 3 rfl) ?_
            refine lv_iload hx hb d_M_word_79 (lv_at hl 0 rfl) ?_
            refine va_iast (f := (X 2)) hx hb hK hP hD hS 1 0 rfl rfl (by have q0 := nc_eq c_408 rfl (L_0); have q1 := nc_ne c_410 rfl (L_0); have q2 := nc_ne c_411 rfl (L_0); have q3 := nc_ne c_415 rfl (L_0); have q4 := hmt.1; have q5 := hmt.2; have q6 := noThing_zero hmt c_408; have q7 := L_0; have q8 := L_29; have q9 := in_pos c_410; exact vp_in_iff.mpr ⟨by omega, by omega⟩) d_M_word_81 (fun H locs hP hD hS => ?_)
            have hP : va_P (dC, dI) classes (w_M cA cZ a rv (upf (upf X 0 (fun _ => 0)) 2 (upd (X 2) (x1 : Int32).toNatClampNeg (((X 2) x1.toNatClampNeg) ||| ((1 : Int32) <<< (x2 &&& 31)))))) H := hP
            have hD : va_D A (w_M cA cZ a rv (upf (upf X 0 (fun _ => 0)) 2 (upd (X 2) (x1 : Int32).toNatClampNeg (((X 2) x1.toNatClampNeg) ||| ((1 : Int32) <<< (x2 &&& 31)))))) := hD
            refine lv_goto (tgt := 93) hx hb d_M_word_82 (by decide) ?_
            refine lv_iload hx hb d_M_word_93 (lv_at hl 1 rfl) ?_
            refine lv_iload_n hx hb d_M_word_95 rfl (lv_at hl 4 rfl) ?_
            refine lv_iushr (v := (nc_ushr ((X 2) x1.toNatClampNeg) x2)) hx hb d_M_word_96 rfl ?_
            refine lv_iconst (v := 1) hx hb d_M_word_97 (by decide) ?_
            refine lv_iand hx hb d_M_word_98 ?_
            have hF : (f_M_word X x1 x2 x3 x4) = (((nc_ushr ((X 2) x1.toNatClampNeg) x2) &&& 1), (upf (upf X 0 (fun _ => 0)) 2 (upd (X 2) (x1 : Int32).toNatClampNeg (((X 2) x1.toNatClampNeg) ||| ((1 : Int32) <<< (x2 &&& 31)))))) := by rw [f_M_word, if_pos c_408, if_neg c_410, if_neg c_411, if_neg c_415]
            exact W.iret (v := ((nc_ushr ((X 2) x1.toNatClampNeg) x2) &&& 1)) hx hb hr (fun t ht hW => ⟨⟨((nc_ushr ((X 2) x1.toNatClampNeg) x2) &&& 1), (), rfl, by rw [hF], by rw [hF, ht]; exact hP, by rw [hF]; exact hD⟩, hS.F ht⟩) hS.2.2 d_M_word_99
    · refine lv_iconst (v := (-1)) hx hb d_M_word_23 (by decide) ?_
      have hF : (f_M_word X x1 x2 x3 x4) = ((-1), (upf X 0 (fun _ => 0))) := by rw [f_M_word, if_pos c_408, if_pos c_410]
      exact W.iret (v := (-1)) hx hb hr (fun t ht hW => ⟨⟨(-1), (), rfl, by rw [hF], by rw [hF, ht]; exact hP, by rw [hF]; exact hD⟩, hS.F ht⟩) hS.2.2 d_M_word_24
def f_M_kind (X : Nat → Nat → Int32) (x1 x2 : Int32) : Int32 × (Nat → Nat → Int32) := (if (f_M_noThing (upf X 0 (fun _ => 0)) x1) = 0 then (if (f_M_in x2 (-1) 15) = 0 then ((-1), (upf X 0 (fun _ => 0))) else ((((X 4) x1.toNatClampNeg) + 1), (upf (upf X 0 (fun _ => 0)) 4 (upd (X 4) (x1 : Int32).toNatClampNeg x2)))) else ((-1), (upf X 0 (fun _ => 0))))
abbrev ws_M_kind : List Cond := .code y_M_kind b_M_kind 4 (some .int) :: lw_G
abbrev rm_M_kind : Room := { frames := 2, cells := 0, slots := 0, locals := 43 }
set_option maxHeartbeats 4000000 in
set_option maxRecDepth 100000 in
theorem c_M_kind (l : Launch) (dC : Nat → ClassId) (dI : Nat → Nat → Nat) (cA cZ : ClassId) (sz : Nat) (a : Nat → Nat) (rv : Value) (X : Nat → Nat → Int32) (x1 x2 : Int32) (hmt : m_t X) : Met l y_M_kind ws_M_kind rm_M_kind (nc_PreZM (dC, dI) cA cZ sz [.ref (a 0), .int x1, .int x2] (w_M cA cZ a rv X)) (va_Qi (fun r (_ : Unit) => r = (f_M_kind X x1 x2).1) (fun _ t => va_P (dC, dI) classes (w_M cA cZ a rv (f_M_kind X x1 x2).2) t.heap ∧ va_D (va_A (w_M cA cZ a rv X) sz) (w_M cA cZ a rv (f_M_kind X x1 x2).2)) (va_A (w_M cA cZ a rv X) sz)) 0 0 (va_A (w_M cA cZ a rv X) sz) := by
  refine Met.ofW (cc := b_M_kind) (maxL := 4) (ret := (some .int)) (by decide) rfl ?_
  intro p e s m args below meth c s₁ B hml hv
  obtain ⟨rfl, hsz, hP, hK, hD0, hN⟩ := hv
  have hx := B.exec
  have hb := B.bytes
  have hr := B.returns
  have hts : ∀ w ∈ lw_G, w.before [.ref (a 0), .int x1, .int x2].toArray s = true := fun w h => atoms_spec (ws := ws_M_kind) B.pre w (List.mem_cons_of_mem _ h)
  have hown : s.vm.findClass R_M = some m.cls := findClass_of_methodNamed B.named
  have hlocks := B.notSynchronized
  have hfix : CallFix p m c b_M_kind 4 s [.ref (a 0), .int x1, .int x2].toArray lw_G R_M := ⟨hx, hb, hml, hown, hts⟩
  have hK1 := hK.sub (tys' := [(cA, .int)]) [0] rfl
  subst hsz
  have hD := hD0.self (sz := s.heap.size)
  generalize hAe : va_A (w_M cA cZ a rv X) s.heap.size = A at hD ⊢
  have hA : ∀ q : Nat, s.heap.size ≤ q → A q := fun q h => by rw [← hAe]; exact Or.inr h
  have hS : va_S A s.heap s.heap [] := va_S.rf
  have hl := lv_entry ([.ref (a 0), .int x1, .int x2]) (n := 4) (Nat.le_of_ble_eq_true rfl)
  rw [lg_entry_eq]
  generalize (lg_sl ([.ref (a 0), .int x1, .int x2]) ++ List.replicate (4 - (lg_sl ([.ref (a 0), .int x1, .int x2])).length) Slot.unset).toArray = ls at hl ⊢
  have hl : lv_has ls 4 [(0, .ref (a 0)), (1, .int x1), (2, .int x2)] := hl
  refine lv_aload_n hx hb d_M_kind_0 rfl (lv_at hl 0 rfl) ?_
  refine lv_iconst (v := 0) hx hb d_M_kind_1 (by decide) ?_
  refine va_put (D := (dC, dI)) (ci := 4) (v := .int 0) (ty := .int) (C := R_M) (T := F_M) (N := 39) hx hb hts i_M t_M t_M_ok n_M hown hK hP hD hS 0 rfl rfl 0 (by decide) (hts _ m_f_M_1) (fun _ h9 => h9) rfl (by decide +kernel) rfl rfl (Nat.le_of_ble_eq_true rfl) d_M_kind_2 (fun H locs hP hD hS => ?_)
  have hP : va_P (dC, dI) classes (w_M cA cZ a rv (upf X 0 (fun _ => 0))) H := hP
  have hD : va_D A (w_M cA cZ a rv (upf X 0 (fun _ => 0))) := hD
  refine lv_aload_n hx hb d_M_kind_5 rfl (lv_at hl 0 rfl) ?_
  refine lv_iload_n hx hb d_M_kind_6 rfl (lv_at hl 1 rfl) ?_
  refine nc_ro (va_runV (As := [.int x1]) (rest := []) hfix (c_M_noThing l dC dI cA cZ a rv (upf X 0 (fun _ => 0)) x1) (k_M_76 hts hN ⟨Nat.le_of_ble_eq_true rfl, Nat.le_of_ble_eq_true rfl⟩) (nc_preVZ hK hN hP hD rfl rfl) rfl rfl hl.1 rfl (lv_room (Nat.le_of_ble_eq_true rfl)) d_M_kind_7 ⟨Nat.zero_le _, Nat.zero_le _⟩) (fun r er => ?_)
  obtain ⟨rfl, hz_418⟩ := er
  refine lv_if_ne (tgt := 23) hx hb d_M_kind_10 (by decide) (fun c_419 => ?_) (fun c_419 => ?_)
  · refine lv_iconst (v := (-1)) hx hb d_M_kind_23 (by decide) ?_
    have hF : (f_M_kind X x1 x2) = ((-1), (upf X 0 (fun _ => 0))) := by rw [f_M_kind, if_neg c_419]
    exact W.iret (v := (-1)) hx hb hr (fun t ht hW => ⟨⟨(-1), (), rfl, by rw [hF], by rw [hF, ht]; exact hP, by rw [hF]; exact hD⟩, hS.F ht⟩) hS.2.2 d_M_kind_24
  · refine lv_iload_n hx hb d_M_kind_13 rfl (lv_at hl 2 rfl) ?_
    refine lv_iconst (v := (-1)) hx hb d_M_kind_14 (by decide) ?_
    refine lv_bipush (v := 15) hx hb d_M_kind_15 (by decide) ?_
    refine nc_ro (va_runS (As := [.int x2, .int (-1), .int 15]) (rest := []) hfix (c_M_in l dC dI cA x2 (-1) 15) (k_M_72 hts hN ⟨Nat.le_of_ble_eq_true rfl, Nat.le_of_ble_eq_true rfl⟩) (nc_preS0 hK1 hN) rfl rfl hl.1 rfl (lv_room (Nat.le_of_ble_eq_true rfl)) d_M_kind_17 ⟨Nat.zero_le _, Nat.zero_le _⟩) (fun r er => ?_)
    obtain ⟨rfl, hz_420⟩ := er
    refine lv_if_ne (tgt := 25) hx hb d_M_kind_20 (by decide) (fun c_421 => ?_) (fun c_421 => ?_)
    · refine lv_aload_n hx hb d_M_kind_25 rfl (lv_at hl 0 rfl) ?_
      refine va_get (D := (dC, dI)) (ci := 4) (v := .ref (a 3)) (C := R_M) (T := F_M) (N := 39) hx hb hts i_M hown hK hP 0 rfl rfl 4 (by decide) (hts _ m_f_M_20) (fun _ h9 => h9) rfl d_M_kind_26 ?_
      refine lv_iload_n hx hb d_M_kind_29 rfl (lv_at hl 1 rfl) ?_
      refine va_iald (f := (X 4)) hx hb hK hP 3 0 rfl rfl (by have q0 := nc_eq c_419 rfl (L_0); have q1 := nc_ne c_421 rfl (L_0); have q2 := hmt.1; have q3 := hmt.2; have q4 := noThing_zero hmt c_419; have q5 := L_m1; have q6 := L_15; have q7 := in_pos c_421; exact vp_in_iff.mpr ⟨by omega, by omega⟩) d_M_kind_30 ?_
      refine lv_iconst (v := 1) hx hb d_M_kind_31 (by decide) ?_
      refine lv_iadd hx hb d_M_kind_32 ?_
      refine lv_istore_n (lv' := [(3, .int (((X 4) x1.toNatClampNeg) + 1)), (0, .ref (a 0)), (1, .int x1), (2, .int x2)]) hx hb d_M_kind_33 rfl hl (by decide) rfl (fun ls hl => ?_)
      refine lv_aload_n hx hb d_M_kind_34 rfl (lv_at hl 1 rfl) ?_
      refine va_get (D := (dC, dI)) (ci := 4) (v := .ref (a 3)) (C := R_M) (T := F_M) (N := 39) hx hb hts i_M hown hK hP 0 rfl rfl 4 (by decide) (hts _ m_f_M_20) (fun _ h9 => h9) rfl d_M_kind_35 ?_
      refine lv_iload_n hx hb d_M_kind_38 rfl (lv_at hl 2 rfl) ?_
      refine lv_iload_n hx hb d_M_kind_39 rfl (lv_at hl 3 rfl) ?_
      refine va_iast (f := (X 4)) hx hb hK hP hD hS 3 0 rfl rfl (by have q0 := nc_eq c_419 rfl (L_0); have q1 := nc_ne c_421 rfl (L_0); have q2 := hmt.1; have q3 := hmt.2; have q4 := noThing_zero hmt c_419; have q5 := L_m1; have q6 := L_15; have q7 := in_pos c_421; exact vp_in_iff.mpr ⟨by omega, by omega⟩) d_M_kind_40 (fun H locs hP hD hS => ?_)
      have hP : va_P (dC, dI) classes (w_M cA cZ a rv (upf (upf X 0 (fun _ => 0)) 4 (upd (X 4) (x1 : Int32).toNatClampNeg x2))) H := hP
      have hD : va_D A (w_M cA cZ a rv (upf (upf X 0 (fun _ => 0)) 4 (upd (X 4) (x1 : Int32).toNatClampNeg x2))) := hD
      refine lv_iload_n hx hb d_M_kind_41 rfl (lv_at hl 0 rfl) ?_
      have hF : (f_M_kind X x1 x2) = ((((X 4) x1.toNatClampNeg) + 1), (upf (upf X 0 (fun _ => 0)) 4 (upd (X 4) (x1 : Int32).toNatClampNeg x2))) := by rw [f_M_kind, if_pos c_419, if_neg c_421]
      exact W.iret (v := (((X 4) x1.toNatClampNeg) + 1)) hx hb hr (fun t ht hW => ⟨⟨(((X 4) x1.toNatClampNeg) + 1), (), rfl, by rw [hF], by rw [hF, ht]; exact hP, by rw [hF]; exact hD⟩, hS.F ht⟩) hS.2.2 d_M_kind_42
    · refine lv_iconst (v := (-1)) hx hb d_M_kind_23 (by decide) ?_
      have hF : (f_M_kind X x1 x2) = ((-1), (upf X 0 (fun _ => 0))) := by rw [f_M_kind, if_pos c_419, if_pos c_421]
      exact W.iret (v := (-1)) hx hb hr (fun t ht hW => ⟨⟨(-1), (), rfl, by rw [hF], by rw [hF, ht]; exact hP, by rw [hF]; exact hD⟩, hS.F ht⟩) hS.2.2 d_M_kind_24
def f_M_place (X : Nat → Nat → Int32) (x1 x2 : Int32) : Int32 × (Nat → Nat → Int32) := (if (f_M_noThing (upf X 0 (fun _ => 0)) x1) = 0 then (if (f_M_in x2 0 3) = 0 then ((-1), (upf X 0 (fun _ => 0))) else (((X 5) x1.toNatClampNeg), (upf (upf X 0 (fun _ => 0)) 5 (upd (X 5) (x1 : Int32).toNatClampNeg x2)))) else ((-1), (upf X 0 (fun _ => 0))))
abbrev ws_M_place : List Cond := .code y_M_place b_M_place 4 (some .int) :: lw_G
abbrev rm_M_place : Room := { frames := 2, cells := 0, slots := 0, locals := 43 }
set_option maxHeartbeats 4000000 in
set_option maxRecDepth 100000 in
theorem c_M_place (l : Launch) (dC : Nat → ClassId) (dI : Nat → Nat → Nat) (cA cZ : ClassId) (sz : Nat) (a : Nat → Nat) (rv : Value) (X : Nat → Nat → Int32) (x1 x2 : Int32) (hmt : m_t X) : Met l y_M_place ws_M_place rm_M_place (nc_PreZM (dC, dI) cA cZ sz [.ref (a 0), .int x1, .int x2] (w_M cA cZ a rv X)) (va_Qi (fun r (_ : Unit) => r = (f_M_place X x1 x2).1) (fun _ t => va_P (dC, dI) classes (w_M cA cZ a rv (f_M_place X x1 x2).2) t.heap ∧ va_D (va_A (w_M cA cZ a rv X) sz) (w_M cA cZ a rv (f_M_place X x1 x2).2)) (va_A (w_M cA cZ a rv X) sz)) 0 0 (va_A (w_M cA cZ a rv X) sz) := by
  refine Met.ofW (cc := b_M_place) (maxL := 4) (ret := (some .int)) (by decide) rfl ?_
  intro p e s m args below meth c s₁ B hml hv
  obtain ⟨rfl, hsz, hP, hK, hD0, hN⟩ := hv
  have hx := B.exec
  have hb := B.bytes
  have hr := B.returns
  have hts : ∀ w ∈ lw_G, w.before [.ref (a 0), .int x1, .int x2].toArray s = true := fun w h => atoms_spec (ws := ws_M_place) B.pre w (List.mem_cons_of_mem _ h)
  have hown : s.vm.findClass R_M = some m.cls := findClass_of_methodNamed B.named
  have hlocks := B.notSynchronized
  have hfix : CallFix p m c b_M_place 4 s [.ref (a 0), .int x1, .int x2].toArray lw_G R_M := ⟨hx, hb, hml, hown, hts⟩
  have hK1 := hK.sub (tys' := [(cA, .int)]) [0] rfl
  subst hsz
  have hD := hD0.self (sz := s.heap.size)
  generalize hAe : va_A (w_M cA cZ a rv X) s.heap.size = A at hD ⊢
  have hA : ∀ q : Nat, s.heap.size ≤ q → A q := fun q h => by rw [← hAe]; exact Or.inr h
  have hS : va_S A s.heap s.heap [] := va_S.rf
  have hl := lv_entry ([.ref (a 0), .int x1, .int x2]) (n := 4) (Nat.le_of_ble_eq_true rfl)
  rw [lg_entry_eq]
  generalize (lg_sl ([.ref (a 0), .int x1, .int x2]) ++ List.replicate (4 - (lg_sl ([.ref (a 0), .int x1, .int x2])).length) Slot.unset).toArray = ls at hl ⊢
  have hl : lv_has ls 4 [(0, .ref (a 0)), (1, .int x1), (2, .int x2)] := hl
  refine lv_aload_n hx hb d_M_place_0 rfl (lv_at hl 0 rfl) ?_
  refine lv_iconst (v := 0) hx hb d_M_place_1 (by decide) ?_
  refine va_put (D := (dC, dI)) (ci := 4) (v := .int 0) (ty := .int) (C := R_M) (T := F_M) (N := 39) hx hb hts i_M t_M t_M_ok n_M hown hK hP hD hS 0 rfl rfl 0 (by decide) (hts _ m_f_M_1) (fun _ h9 => h9) rfl (by decide +kernel) rfl rfl (Nat.le_of_ble_eq_true rfl) d_M_place_2 (fun H locs hP hD hS => ?_)
  have hP : va_P (dC, dI) classes (w_M cA cZ a rv (upf X 0 (fun _ => 0))) H := hP
  have hD : va_D A (w_M cA cZ a rv (upf X 0 (fun _ => 0))) := hD
  refine lv_aload_n hx hb d_M_place_5 rfl (lv_at hl 0 rfl) ?_
  refine lv_iload_n hx hb d_M_place_6 rfl (lv_at hl 1 rfl) ?_
  refine nc_ro (va_runV (As := [.int x1]) (rest := []) hfix (c_M_noThing l dC dI cA cZ a rv (upf X 0 (fun _ => 0)) x1) (k_M_76 hts hN ⟨Nat.le_of_ble_eq_true rfl, Nat.le_of_ble_eq_true rfl⟩) (nc_preVZ hK hN hP hD rfl rfl) rfl rfl hl.1 rfl (lv_room (Nat.le_of_ble_eq_true rfl)) d_M_place_7 ⟨Nat.zero_le _, Nat.zero_le _⟩) (fun r er => ?_)
  obtain ⟨rfl, hz_422⟩ := er
  refine lv_if_ne (tgt := 22) hx hb d_M_place_10 (by decide) (fun c_423 => ?_) (fun c_423 => ?_)
  · refine lv_iconst (v := (-1)) hx hb d_M_place_22 (by decide) ?_
    have hF : (f_M_place X x1 x2) = ((-1), (upf X 0 (fun _ => 0))) := by rw [f_M_place, if_neg c_423]
    exact W.iret (v := (-1)) hx hb hr (fun t ht hW => ⟨⟨(-1), (), rfl, by rw [hF], by rw [hF, ht]; exact hP, by rw [hF]; exact hD⟩, hS.F ht⟩) hS.2.2 d_M_place_23
  · refine lv_iload_n hx hb d_M_place_13 rfl (lv_at hl 2 rfl) ?_
    refine lv_iconst (v := 0) hx hb d_M_place_14 (by decide) ?_
    refine lv_iconst (v := 3) hx hb d_M_place_15 (by decide) ?_
    refine nc_ro (va_runS (As := [.int x2, .int 0, .int 3]) (rest := []) hfix (c_M_in l dC dI cA x2 0 3) (k_M_72 hts hN ⟨Nat.le_of_ble_eq_true rfl, Nat.le_of_ble_eq_true rfl⟩) (nc_preS0 hK1 hN) rfl rfl hl.1 rfl (lv_room (Nat.le_of_ble_eq_true rfl)) d_M_place_16 ⟨Nat.zero_le _, Nat.zero_le _⟩) (fun r er => ?_)
    obtain ⟨rfl, hz_424⟩ := er
    refine lv_if_ne (tgt := 24) hx hb d_M_place_19 (by decide) (fun c_425 => ?_) (fun c_425 => ?_)
    · refine lv_aload_n hx hb d_M_place_24 rfl (lv_at hl 0 rfl) ?_
      refine va_get (D := (dC, dI)) (ci := 4) (v := .ref (a 4)) (C := R_M) (T := F_M) (N := 39) hx hb hts i_M hown hK hP 0 rfl rfl 5 (by decide) (hts _ m_f_M_23) (fun _ h9 => h9) rfl d_M_place_25 ?_
      refine lv_iload_n hx hb d_M_place_28 rfl (lv_at hl 1 rfl) ?_
      refine va_iald (f := (X 5)) hx hb hK hP 4 0 rfl rfl (by have q0 := nc_eq c_423 rfl (L_0); have q1 := nc_ne c_425 rfl (L_0); have q2 := hmt.1; have q3 := hmt.2; have q4 := noThing_zero hmt c_423; have q5 := L_0; have q6 := L_3; have q7 := in_pos c_425; exact vp_in_iff.mpr ⟨by omega, by omega⟩) d_M_place_29 ?_
      refine lv_istore_n (lv' := [(3, .int ((X 5) x1.toNatClampNeg)), (0, .ref (a 0)), (1, .int x1), (2, .int x2)]) hx hb d_M_place_30 rfl hl (by decide) rfl (fun ls hl => ?_)
      refine lv_aload_n hx hb d_M_place_31 rfl (lv_at hl 1 rfl) ?_
      refine va_get (D := (dC, dI)) (ci := 4) (v := .ref (a 4)) (C := R_M) (T := F_M) (N := 39) hx hb hts i_M hown hK hP 0 rfl rfl 5 (by decide) (hts _ m_f_M_23) (fun _ h9 => h9) rfl d_M_place_32 ?_
      refine lv_iload_n hx hb d_M_place_35 rfl (lv_at hl 2 rfl) ?_
      refine lv_iload_n hx hb d_M_place_36 rfl (lv_at hl 3 rfl) ?_
      refine va_iast (f := (X 5)) hx hb hK hP hD hS 4 0 rfl rfl (by have q0 := nc_eq c_423 rfl (L_0); have q1 := nc_ne c_425 rfl (L_0); have q2 := hmt.1; have q3 := hmt.2; have q4 := noThing_zero hmt c_423; have q5 := L_0; have q6 := L_3; have q7 := in_pos c_425; exact vp_in_iff.mpr ⟨by omega, by omega⟩) d_M_place_37 (fun H locs hP hD hS => ?_)
      have hP : va_P (dC, dI) classes (w_M cA cZ a rv (upf (upf X 0 (fun _ => 0)) 5 (upd (X 5) (x1 : Int32).toNatClampNeg x2))) H := hP
      have hD : va_D A (w_M cA cZ a rv (upf (upf X 0 (fun _ => 0)) 5 (upd (X 5) (x1 : Int32).toNatClampNeg x2))) := hD
      refine lv_iload_n hx hb d_M_place_38 rfl (lv_at hl 0 rfl) ?_
      have hF : (f_M_place X x1 x2) = (((X 5) x1.toNatClampNeg), (upf (upf X 0 (fun _ => 0)) 5 (upd (X 5) (x1 : Int32).toNatClampNeg x2))) := by rw [f_M_place, if_pos c_423, if_neg c_425]
      exact W.iret (v := ((X 5) x1.toNatClampNeg)) hx hb hr (fun t ht hW => ⟨⟨((X 5) x1.toNatClampNeg), (), rfl, by rw [hF], by rw [hF, ht]; exact hP, by rw [hF]; exact hD⟩, hS.F ht⟩) hS.2.2 d_M_place_39
    · refine lv_iconst (v := (-1)) hx hb d_M_place_22 (by decide) ?_
      have hF : (f_M_place X x1 x2) = ((-1), (upf X 0 (fun _ => 0))) := by rw [f_M_place, if_pos c_423, if_pos c_425]
      exact W.iret (v := (-1)) hx hb hr (fun t ht hW => ⟨⟨(-1), (), rfl, by rw [hF], by rw [hF, ht]; exact hP, by rw [hF]; exact hD⟩, hS.F ht⟩) hS.2.2 d_M_place_23
def f_M_mark (X : Nat → Nat → Int32) (x1 x2 x3 : Int32) : Int32 × (Nat → Nat → Int32) := (if (f_M_noThing (upf X 0 (fun _ => 0)) x1) = 0 then (if (f_M_in x2 0 3) = 0 then ((-1), (upf X 0 (fun _ => 0))) else (if (f_M_in x3 (-9) 9) = 0 then ((-1), (upf X 0 (fun _ => 0))) else ((((X 6) (((4 * x1) + x2)).toNatClampNeg) + 9), (upf (upf X 0 (fun _ => 0)) 6 (upd (X 6) (((4 * x1) + x2) : Int32).toNatClampNeg x3))))) else ((-1), (upf X 0 (fun _ => 0))))
abbrev ws_M_mark : List Cond := .code y_M_mark b_M_mark 5 (some .int) :: lw_G
abbrev rm_M_mark : Room := { frames := 2, cells := 0, slots := 0, locals := 43 }
set_option maxHeartbeats 4000000 in
set_option maxRecDepth 100000 in
theorem c_M_mark (l : Launch) (dC : Nat → ClassId) (dI : Nat → Nat → Nat) (cA cZ : ClassId) (sz : Nat) (a : Nat → Nat) (rv : Value) (X : Nat → Nat → Int32) (x1 x2 x3 : Int32) (hmt : m_t X) : Met l y_M_mark ws_M_mark rm_M_mark (nc_PreZM (dC, dI) cA cZ sz [.ref (a 0), .int x1, .int x2, .int x3] (w_M cA cZ a rv X)) (va_Qi (fun r (_ : Unit) => r = (f_M_mark X x1 x2 x3).1) (fun _ t => va_P (dC, dI) classes (w_M cA cZ a rv (f_M_mark X x1 x2 x3).2) t.heap ∧ va_D (va_A (w_M cA cZ a rv X) sz) (w_M cA cZ a rv (f_M_mark X x1 x2 x3).2)) (va_A (w_M cA cZ a rv X) sz)) 0 0 (va_A (w_M cA cZ a rv X) sz) := by
  refine Met.ofW (cc := b_M_mark) (maxL := 5) (ret := (some .int)) (by decide) rfl ?_
  intro p e s m args below meth c s₁ B hml hv
  obtain ⟨rfl, hsz, hP, hK, hD0, hN⟩ := hv
  have hx := B.exec
  have hb := B.bytes
  have hr := B.returns
  have hts : ∀ w ∈ lw_G, w.before [.ref (a 0), .int x1, .int x2, .int x3].toArray s = true := fun w h => atoms_spec (ws := ws_M_mark) B.pre w (List.mem_cons_of_mem _ h)
  have hown : s.vm.findClass R_M = some m.cls := findClass_of_methodNamed B.named
  have hlocks := B.notSynchronized
  have hfix : CallFix p m c b_M_mark 5 s [.ref (a 0), .int x1, .int x2, .int x3].toArray lw_G R_M := ⟨hx, hb, hml, hown, hts⟩
  have hK1 := hK.sub (tys' := [(cA, .int)]) [0] rfl
  subst hsz
  have hD := hD0.self (sz := s.heap.size)
  generalize hAe : va_A (w_M cA cZ a rv X) s.heap.size = A at hD ⊢
  have hA : ∀ q : Nat, s.heap.size ≤ q → A q := fun q h => by rw [← hAe]; exact Or.inr h
  have hS : va_S A s.heap s.heap [] := va_S.rf
  have hl := lv_entry ([.ref (a 0), .int x1, .int x2, .int x3]) (n := 5) (Nat.le_of_ble_eq_true rfl)
  rw [lg_entry_eq]
  generalize (lg_sl ([.ref (a 0), .int x1, .int x2, .int x3]) ++ List.replicate (5 - (lg_sl ([.ref (a 0), .int x1, .int x2, .int x3])).length) Slot.unset).toArray = ls at hl ⊢
  have hl : lv_has ls 5 [(0, .ref (a 0)), (1, .int x1), (2, .int x2), (3, .int x3)] := hl
  refine lv_aload_n hx hb d_M_mark_0 rfl (lv_at hl 0 rfl) ?_
  refine lv_iconst (v := 0) hx hb d_M_mark_1 (by decide) ?_
  refine va_put (D := (dC, dI)) (ci := 4) (v := .int 0) (ty := .int) (C := R_M) (T := F_M) (N := 39) hx hb hts i_M t_M t_M_ok n_M hown hK hP hD hS 0 rfl rfl 0 (by decide) (hts _ m_f_M_1) (fun _ h9 => h9) rfl (by decide +kernel) rfl rfl (Nat.le_of_ble_eq_true rfl) d_M_mark_2 (fun H locs hP hD hS => ?_)
  have hP : va_P (dC, dI) classes (w_M cA cZ a rv (upf X 0 (fun _ => 0))) H := hP
  have hD : va_D A (w_M cA cZ a rv (upf X 0 (fun _ => 0))) := hD
  refine lv_aload_n hx hb d_M_mark_5 rfl (lv_at hl 0 rfl) ?_
  refine lv_iload_n hx hb d_M_mark_6 rfl (lv_at hl 1 rfl) ?_
  refine nc_ro (va_runV (As := [.int x1]) (rest := []) hfix (c_M_noThing l dC dI cA cZ a rv (upf X 0 (fun _ => 0)) x1) (k_M_76 hts hN ⟨Nat.le_of_ble_eq_true rfl, Nat.le_of_ble_eq_true rfl⟩) (nc_preVZ hK hN hP hD rfl rfl) rfl rfl hl.1 rfl (lv_room (Nat.le_of_ble_eq_true rfl)) d_M_mark_7 ⟨Nat.zero_le _, Nat.zero_le _⟩) (fun r er => ?_)
  obtain ⟨rfl, hz_426⟩ := er
  refine lv_if_ne (tgt := 33) hx hb d_M_mark_10 (by decide) (fun c_427 => ?_) (fun c_427 => ?_)
  · refine lv_iconst (v := (-1)) hx hb d_M_mark_33 (by decide) ?_
    have hF : (f_M_mark X x1 x2 x3) = ((-1), (upf X 0 (fun _ => 0))) := by rw [f_M_mark, if_neg c_427]
    exact W.iret (v := (-1)) hx hb hr (fun t ht hW => ⟨⟨(-1), (), rfl, by rw [hF], by rw [hF, ht]; exact hP, by rw [hF]; exact hD⟩, hS.F ht⟩) hS.2.2 d_M_mark_34
  · refine lv_iload_n hx hb d_M_mark_13 rfl (lv_at hl 2 rfl) ?_
    refine lv_iconst (v := 0) hx hb d_M_mark_14 (by decide) ?_
    refine lv_iconst (v := 3) hx hb d_M_mark_15 (by decide) ?_
    refine nc_ro (va_runS (As := [.int x2, .int 0, .int 3]) (rest := []) hfix (c_M_in l dC dI cA x2 0 3) (k_M_72 hts hN ⟨Nat.le_of_ble_eq_true rfl, Nat.le_of_ble_eq_true rfl⟩) (nc_preS0 hK1 hN) rfl rfl hl.1 rfl (lv_room (Nat.le_of_ble_eq_true rfl)) d_M_mark_16 ⟨Nat.zero_le _, Nat.zero_le _⟩) (fun r er => ?_)
    obtain ⟨rfl, hz_428⟩ := er
    refine lv_if_eq (tgt := 33) hx hb d_M_mark_19 (by decide) (fun c_429 => ?_) (fun c_429 => ?_)
    · refine lv_iconst (v := (-1)) hx hb d_M_mark_33 (by decide) ?_
      have hF : (f_M_mark X x1 x2 x3) = ((-1), (upf X 0 (fun _ => 0))) := by rw [f_M_mark, if_pos c_427, if_pos c_429]
      exact W.iret (v := (-1)) hx hb hr (fun t ht hW => ⟨⟨(-1), (), rfl, by rw [hF], by rw [hF, ht]; exact hP, by rw [hF]; exact hD⟩, hS.F ht⟩) hS.2.2 d_M_mark_34
    · refine lv_iload_n hx hb d_M_mark_22 rfl (lv_at hl 3 rfl) ?_
      refine lv_bipush (v := (-9)) hx hb d_M_mark_23 (by decide) ?_
      refine lv_bipush (v := 9) hx hb d_M_mark_25 (by decide) ?_
      refine nc_ro (va_runS (As := [.int x3, .int (-9), .int 9]) (rest := []) hfix (c_M_in l dC dI cA x3 (-9) 9) (k_M_72 hts hN ⟨Nat.le_of_ble_eq_true rfl, Nat.le_of_ble_eq_true rfl⟩) (nc_preS0 hK1 hN) rfl rfl hl.1 rfl (lv_room (Nat.le_of_ble_eq_true rfl)) d_M_mark_27 ⟨Nat.zero_le _, Nat.zero_le _⟩) (fun r er => ?_)
      obtain ⟨rfl, hz_430⟩ := er
      refine lv_if_ne (tgt := 35) hx hb d_M_mark_30 (by decide) (fun c_431 => ?_) (fun c_431 => ?_)
      · refine lv_aload_n hx hb d_M_mark_35 rfl (lv_at hl 0 rfl) ?_
        refine va_get (D := (dC, dI)) (ci := 4) (v := .ref (a 5)) (C := R_M) (T := F_M) (N := 39) hx hb hts i_M hown hK hP 0 rfl rfl 6 (by decide) (hts _ m_f_M_26) (fun _ h9 => h9) rfl d_M_mark_36 ?_
        refine lv_iconst (v := 4) hx hb d_M_mark_39 (by decide) ?_
        refine lv_iload_n hx hb d_M_mark_40 rfl (lv_at hl 1 rfl) ?_
        refine lv_imul hx hb d_M_mark_41 ?_
        refine lv_iload_n hx hb d_M_mark_42 rfl (lv_at hl 2 rfl) ?_
        refine lv_iadd hx hb d_M_mark_43 ?_
        refine va_iald (f := (X 6)) hx hb hK hP 5 0 rfl rfl (by have q0 := nc_eq c_427 rfl (L_0); have q1 := nc_ne c_429 rfl (L_0); have q2 := nc_ne c_431 rfl (L_0); have q3 := hmt.1; have q4 := hmt.2; have q5 := noThing_zero hmt c_427; have q6 := L_0; have q7 := L_3; have q8 := in_pos c_429; have q9 := L_m9; have q10 := L_9; have q11 := in_pos c_431; exact nc_4m (by omega) (by omega) (by omega) (by omega)) d_M_mark_44 ?_
        refine lv_bipush (v := 9) hx hb d_M_mark_45 (by decide) ?_
        refine lv_iadd hx hb d_M_mark_47 ?_
        refine lv_istore (lv' := [(4, .int (((X 6) (((4 * x1) + x2)).toNatClampNeg) + 9)), (0, .ref (a 0)), (1, .int x1), (2, .int x2), (3, .int x3)]) hx hb d_M_mark_48 hl (by decide) rfl (fun ls hl => ?_)
        refine lv_aload_n hx hb d_M_mark_50 rfl (lv_at hl 1 rfl) ?_
        refine va_get (D := (dC, dI)) (ci := 4) (v := .ref (a 5)) (C := R_M) (T := F_M) (N := 39) hx hb hts i_M hown hK hP 0 rfl rfl 6 (by decide) (hts _ m_f_M_26) (fun _ h9 => h9) rfl d_M_mark_51 ?_
        refine lv_iconst (v := 4) hx hb d_M_mark_54 (by decide) ?_
        refine lv_iload_n hx hb d_M_mark_55 rfl (lv_at hl 2 rfl) ?_
        refine lv_imul hx hb d_M_mark_56 ?_
        refine lv_iload_n hx hb d_M_mark_57 rfl (lv_at hl 3 rfl) ?_
        refine lv_iadd hx hb d_M_mark_58 ?_
        refine lv_iload_n hx hb d_M_mark_59 rfl (lv_at hl 4 rfl) ?_
        refine va_iast (f := (X 6)) hx hb hK hP hD hS 5 0 rfl rfl (by have q0 := nc_eq c_427 rfl (L_0); have q1 := nc_ne c_429 rfl (L_0); have q2 := nc_ne c_431 rfl (L_0); have q3 := hmt.1; have q4 := hmt.2; have q5 := noThing_zero hmt c_427; have q6 := L_0; have q7 := L_3; have q8 := in_pos c_429; have q9 := L_m9; have q10 := L_9; have q11 := in_pos c_431; exact nc_4m (by omega) (by omega) (by omega) (by omega)) d_M_mark_60 (fun H locs hP hD hS => ?_)
        have hP : va_P (dC, dI) classes (w_M cA cZ a rv (upf (upf X 0 (fun _ => 0)) 6 (upd (X 6) (((4 * x1) + x2) : Int32).toNatClampNeg x3))) H := hP
        have hD : va_D A (w_M cA cZ a rv (upf (upf X 0 (fun _ => 0)) 6 (upd (X 6) (((4 * x1) + x2) : Int32).toNatClampNeg x3))) := hD
        refine lv_iload hx hb d_M_mark_61 (lv_at hl 0 rfl) ?_
        have hF : (f_M_mark X x1 x2 x3) = ((((X 6) (((4 * x1) + x2)).toNatClampNeg) + 9), (upf (upf X 0 (fun _ => 0)) 6 (upd (X 6) (((4 * x1) + x2) : Int32).toNatClampNeg x3))) := by rw [f_M_mark, if_pos c_427, if_neg c_429, if_neg c_431]
        exact W.iret (v := (((X 6) (((4 * x1) + x2)).toNatClampNeg) + 9)) hx hb hr (fun t ht hW => ⟨⟨(((X 6) (((4 * x1) + x2)).toNatClampNeg) + 9), (), rfl, by rw [hF], by rw [hF, ht]; exact hP, by rw [hF]; exact hD⟩, hS.F ht⟩) hS.2.2 d_M_mark_63
      · refine lv_iconst (v := (-1)) hx hb d_M_mark_33 (by decide) ?_
        have hF : (f_M_mark X x1 x2 x3) = ((-1), (upf X 0 (fun _ => 0))) := by rw [f_M_mark, if_pos c_427, if_neg c_429, if_pos c_431]
        exact W.iret (v := (-1)) hx hb hr (fun t ht hW => ⟨⟨(-1), (), rfl, by rw [hF], by rw [hF, ht]; exact hP, by rw [hF]; exact hD⟩, hS.F ht⟩) hS.2.2 d_M_mark_34
def f_M_plural (X : Nat → Nat → Int32) (x1 x2 : Int32) : Int32 × (Nat → Nat → Int32) := (if (f_M_in x1 0 15) = 0 then ((-1), (upf X 0 (fun _ => 0))) else (if (f_M_in x2 (-1) 29) = 0 then ((-1), (upf X 0 (fun _ => 0))) else ((((X 7) x1.toNatClampNeg) + 1), (upf (upf X 0 (fun _ => 0)) 7 (upd (X 7) (x1 : Int32).toNatClampNeg x2)))))
abbrev ws_M_plural : List Cond := .code y_M_plural b_M_plural 4 (some .int) :: lw_G
abbrev rm_M_plural : Room := { frames := 1, cells := 0, slots := 0, locals := 22 }
set_option maxHeartbeats 4000000 in
set_option maxRecDepth 100000 in
theorem c_M_plural (l : Launch) (dC : Nat → ClassId) (dI : Nat → Nat → Nat) (cA cZ : ClassId) (sz : Nat) (a : Nat → Nat) (rv : Value) (X : Nat → Nat → Int32) (x1 x2 : Int32) : Met l y_M_plural ws_M_plural rm_M_plural (nc_PreZM (dC, dI) cA cZ sz [.ref (a 0), .int x1, .int x2] (w_M cA cZ a rv X)) (va_Qi (fun r (_ : Unit) => r = (f_M_plural X x1 x2).1) (fun _ t => va_P (dC, dI) classes (w_M cA cZ a rv (f_M_plural X x1 x2).2) t.heap ∧ va_D (va_A (w_M cA cZ a rv X) sz) (w_M cA cZ a rv (f_M_plural X x1 x2).2)) (va_A (w_M cA cZ a rv X) sz)) 0 0 (va_A (w_M cA cZ a rv X) sz) := by
  refine Met.ofW (cc := b_M_plural) (maxL := 4) (ret := (some .int)) (by decide) rfl ?_
  intro p e s m args below meth c s₁ B hml hv
  obtain ⟨rfl, hsz, hP, hK, hD0, hN⟩ := hv
  have hx := B.exec
  have hb := B.bytes
  have hr := B.returns
  have hts : ∀ w ∈ lw_G, w.before [.ref (a 0), .int x1, .int x2].toArray s = true := fun w h => atoms_spec (ws := ws_M_plural) B.pre w (List.mem_cons_of_mem _ h)
  have hown : s.vm.findClass R_M = some m.cls := findClass_of_methodNamed B.named
  have hlocks := B.notSynchronized
  have hfix : CallFix p m c b_M_plural 4 s [.ref (a 0), .int x1, .int x2].toArray lw_G R_M := ⟨hx, hb, hml, hown, hts⟩
  have hK1 := hK.sub (tys' := [(cA, .int)]) [0] rfl
  subst hsz
  have hD := hD0.self (sz := s.heap.size)
  generalize hAe : va_A (w_M cA cZ a rv X) s.heap.size = A at hD ⊢
  have hA : ∀ q : Nat, s.heap.size ≤ q → A q := fun q h => by rw [← hAe]; exact Or.inr h
  have hS : va_S A s.heap s.heap [] := va_S.rf
  have hl := lv_entry ([.ref (a 0), .int x1, .int x2]) (n := 4) (Nat.le_of_ble_eq_true rfl)
  rw [lg_entry_eq]
  generalize (lg_sl ([.ref (a 0), .int x1, .int x2]) ++ List.replicate (4 - (lg_sl ([.ref (a 0), .int x1, .int x2])).length) Slot.unset).toArray = ls at hl ⊢
  have hl : lv_has ls 4 [(0, .ref (a 0)), (1, .int x1), (2, .int x2)] := hl
  refine lv_aload_n hx hb d_M_plural_0 rfl (lv_at hl 0 rfl) ?_
  refine lv_iconst (v := 0) hx hb d_M_plural_1 (by decide) ?_
  refine va_put (D := (dC, dI)) (ci := 4) (v := .int 0) (ty := .int) (C := R_M) (T := F_M) (N := 39) hx hb hts i_M t_M t_M_ok n_M hown hK hP hD hS 0 rfl rfl 0 (by decide) (hts _ m_f_M_1) (fun _ h9 => h9) rfl (by decide +kernel) rfl rfl (Nat.le_of_ble_eq_true rfl) d_M_plural_2 (fun H locs hP hD hS => ?_)
  have hP : va_P (dC, dI) classes (w_M cA cZ a rv (upf X 0 (fun _ => 0))) H := hP
  have hD : va_D A (w_M cA cZ a rv (upf X 0 (fun _ => 0))) := hD
  refine lv_iload_n hx hb d_M_plural_5 rfl (lv_at hl 1 rfl) ?_
  refine lv_iconst (v := 0) hx hb d_M_plural_6 (by decide) ?_
  refine lv_bipush (v := 15) hx hb d_M_plural_7 (by decide) ?_
  refine nc_ro (va_runS (As := [.int x1, .int 0, .int 15]) (rest := []) hfix (c_M_in l dC dI cA x1 0 15) (k_M_72 hts hN ⟨Nat.le_of_ble_eq_true rfl, Nat.le_of_ble_eq_true rfl⟩) (nc_preS0 hK1 hN) rfl rfl hl.1 rfl (lv_room (Nat.le_of_ble_eq_true rfl)) d_M_plural_9 ⟨Nat.zero_le _, Nat.zero_le _⟩) (fun r er => ?_)
  obtain ⟨rfl, hz_432⟩ := er
  refine lv_if_eq (tgt := 25) hx hb d_M_plural_12 (by decide) (fun c_433 => ?_) (fun c_433 => ?_)
  · refine lv_iconst (v := (-1)) hx hb d_M_plural_25 (by decide) ?_
    have hF : (f_M_plural X x1 x2) = ((-1), (upf X 0 (fun _ => 0))) := by rw [f_M_plural, if_pos c_433]
    exact W.iret (v := (-1)) hx hb hr (fun t ht hW => ⟨⟨(-1), (), rfl, by rw [hF], by rw [hF, ht]; exact hP, by rw [hF]; exact hD⟩, hS.F ht⟩) hS.2.2 d_M_plural_26
  · refine lv_iload_n hx hb d_M_plural_15 rfl (lv_at hl 2 rfl) ?_
    refine lv_iconst (v := (-1)) hx hb d_M_plural_16 (by decide) ?_
    refine lv_bipush (v := 29) hx hb d_M_plural_17 (by decide) ?_
    refine nc_ro (va_runS (As := [.int x2, .int (-1), .int 29]) (rest := []) hfix (c_M_in l dC dI cA x2 (-1) 29) (k_M_72 hts hN ⟨Nat.le_of_ble_eq_true rfl, Nat.le_of_ble_eq_true rfl⟩) (nc_preS0 hK1 hN) rfl rfl hl.1 rfl (lv_room (Nat.le_of_ble_eq_true rfl)) d_M_plural_19 ⟨Nat.zero_le _, Nat.zero_le _⟩) (fun r er => ?_)
    obtain ⟨rfl, hz_434⟩ := er
    refine lv_if_ne (tgt := 27) hx hb d_M_plural_22 (by decide) (fun c_435 => ?_) (fun c_435 => ?_)
    · refine lv_aload_n hx hb d_M_plural_27 rfl (lv_at hl 0 rfl) ?_
      refine va_get (D := (dC, dI)) (ci := 4) (v := .ref (a 6)) (C := R_M) (T := F_M) (N := 39) hx hb hts i_M hown hK hP 0 rfl rfl 7 (by decide) (hts _ m_f_M_29) (fun _ h9 => h9) rfl d_M_plural_28 ?_
      refine lv_iload_n hx hb d_M_plural_31 rfl (lv_at hl 1 rfl) ?_
      refine va_iald (f := (X 7)) hx hb hK hP 6 0 rfl rfl (by have q0 := nc_ne c_433 rfl (L_0); have q1 := nc_ne c_435 rfl (L_0); have q2 := L_0; have q3 := L_15; have q4 := in_pos c_433; have q5 := L_m1; have q6 := L_29; have q7 := in_pos c_435; exact vp_in_iff.mpr ⟨by omega, by omega⟩) d_M_plural_32 ?_
      refine lv_iconst (v := 1) hx hb d_M_plural_33 (by decide) ?_
      refine lv_iadd hx hb d_M_plural_34 ?_
      refine lv_istore_n (lv' := [(3, .int (((X 7) x1.toNatClampNeg) + 1)), (0, .ref (a 0)), (1, .int x1), (2, .int x2)]) hx hb d_M_plural_35 rfl hl (by decide) rfl (fun ls hl => ?_)
      refine lv_aload_n hx hb d_M_plural_36 rfl (lv_at hl 1 rfl) ?_
      refine va_get (D := (dC, dI)) (ci := 4) (v := .ref (a 6)) (C := R_M) (T := F_M) (N := 39) hx hb hts i_M hown hK hP 0 rfl rfl 7 (by decide) (hts _ m_f_M_29) (fun _ h9 => h9) rfl d_M_plural_37 ?_
      refine lv_iload_n hx hb d_M_plural_40 rfl (lv_at hl 2 rfl) ?_
      refine lv_iload_n hx hb d_M_plural_41 rfl (lv_at hl 3 rfl) ?_
      refine va_iast (f := (X 7)) hx hb hK hP hD hS 6 0 rfl rfl (by have q0 := nc_ne c_433 rfl (L_0); have q1 := nc_ne c_435 rfl (L_0); have q2 := L_0; have q3 := L_15; have q4 := in_pos c_433; have q5 := L_m1; have q6 := L_29; have q7 := in_pos c_435; exact vp_in_iff.mpr ⟨by omega, by omega⟩) d_M_plural_42 (fun H locs hP hD hS => ?_)
      have hP : va_P (dC, dI) classes (w_M cA cZ a rv (upf (upf X 0 (fun _ => 0)) 7 (upd (X 7) (x1 : Int32).toNatClampNeg x2))) H := hP
      have hD : va_D A (w_M cA cZ a rv (upf (upf X 0 (fun _ => 0)) 7 (upd (X 7) (x1 : Int32).toNatClampNeg x2))) := hD
      refine lv_iload_n hx hb d_M_plural_43 rfl (lv_at hl 0 rfl) ?_
      have hF : (f_M_plural X x1 x2) = ((((X 7) x1.toNatClampNeg) + 1), (upf (upf X 0 (fun _ => 0)) 7 (upd (X 7) (x1 : Int32).toNatClampNeg x2))) := by rw [f_M_plural, if_neg c_433, if_neg c_435]
      exact W.iret (v := (((X 7) x1.toNatClampNeg) + 1)) hx hb hr (fun t ht hW => ⟨⟨(((X 7) x1.toNatClampNeg) + 1), (), rfl, by rw [hF], by rw [hF, ht]; exact hP, by rw [hF]; exact hD⟩, hS.F ht⟩) hS.2.2 d_M_plural_44
    · refine lv_iconst (v := (-1)) hx hb d_M_plural_25 (by decide) ?_
      have hF : (f_M_plural X x1 x2) = ((-1), (upf X 0 (fun _ => 0))) := by rw [f_M_plural, if_neg c_433, if_pos c_435]
      exact W.iret (v := (-1)) hx hb hr (fun t ht hW => ⟨⟨(-1), (), rfl, by rw [hF], by rw [hF, ht]; exact hP, by rw [hF]; exact hD⟩, hS.F ht⟩) hS.2.2 d_M_plural_26
def f_M_weight (X : Nat → Nat → Int32) (x1 x2 : Int32) : Int32 × (Nat → Nat → Int32) := (if (f_M_in x1 0 3) = 0 then ((-1), (upf X 0 (fun _ => 0))) else (if (f_M_in x2 0 9) = 0 then ((-1), (upf X 0 (fun _ => 0))) else (((X 8) x1.toNatClampNeg), (upf (upf X 0 (fun _ => 0)) 8 (upd (X 8) (x1 : Int32).toNatClampNeg x2)))))
abbrev ws_M_weight : List Cond := .code y_M_weight b_M_weight 4 (some .int) :: lw_G
abbrev rm_M_weight : Room := { frames := 1, cells := 0, slots := 0, locals := 22 }
set_option maxHeartbeats 4000000 in
set_option maxRecDepth 100000 in
theorem c_M_weight (l : Launch) (dC : Nat → ClassId) (dI : Nat → Nat → Nat) (cA cZ : ClassId) (sz : Nat) (a : Nat → Nat) (rv : Value) (X : Nat → Nat → Int32) (x1 x2 : Int32) : Met l y_M_weight ws_M_weight rm_M_weight (nc_PreZM (dC, dI) cA cZ sz [.ref (a 0), .int x1, .int x2] (w_M cA cZ a rv X)) (va_Qi (fun r (_ : Unit) => r = (f_M_weight X x1 x2).1) (fun _ t => va_P (dC, dI) classes (w_M cA cZ a rv (f_M_weight X x1 x2).2) t.heap ∧ va_D (va_A (w_M cA cZ a rv X) sz) (w_M cA cZ a rv (f_M_weight X x1 x2).2)) (va_A (w_M cA cZ a rv X) sz)) 0 0 (va_A (w_M cA cZ a rv X) sz) := by
  refine Met.ofW (cc := b_M_weight) (maxL := 4) (ret := (some .int)) (by decide) rfl ?_
  intro p e s m args below meth c s₁ B hml hv
  obtain ⟨rfl, hsz, hP, hK, hD0, hN⟩ := hv
  have hx := B.exec
  have hb := B.bytes
  have hr := B.returns
  have hts : ∀ w ∈ lw_G, w.before [.ref (a 0), .int x1, .int x2].toArray s = true := fun w h => atoms_spec (ws := ws_M_weight) B.pre w (List.mem_cons_of_mem _ h)
  have hown : s.vm.findClass R_M = some m.cls := findClass_of_methodNamed B.named
  have hlocks := B.notSynchronized
  have hfix : CallFix p m c b_M_weight 4 s [.ref (a 0), .int x1, .int x2].toArray lw_G R_M := ⟨hx, hb, hml, hown, hts⟩
  have hK1 := hK.sub (tys' := [(cA, .int)]) [0] rfl
  subst hsz
  have hD := hD0.self (sz := s.heap.size)
  generalize hAe : va_A (w_M cA cZ a rv X) s.heap.size = A at hD ⊢
  have hA : ∀ q : Nat, s.heap.size ≤ q → A q := fun q h => by rw [← hAe]; exact Or.inr h
  have hS : va_S A s.heap s.heap [] := va_S.rf
  have hl := lv_entry ([.ref (a 0), .int x1, .int x2]) (n := 4) (Nat.le_of_ble_eq_true rfl)
  rw [lg_entry_eq]
  generalize (lg_sl ([.ref (a 0), .int x1, .int x2]) ++ List.replicate (4 - (lg_sl ([.ref (a 0), .int x1, .int x2])).length) Slot.unset).toArray = ls at hl ⊢
  have hl : lv_has ls 4 [(0, .ref (a 0)), (1, .int x1), (2, .int x2)] := hl
  refine lv_aload_n hx hb d_M_weight_0 rfl (lv_at hl 0 rfl) ?_
  refine lv_iconst (v := 0) hx hb d_M_weight_1 (by decide) ?_
  refine va_put (D := (dC, dI)) (ci := 4) (v := .int 0) (ty := .int) (C := R_M) (T := F_M) (N := 39) hx hb hts i_M t_M t_M_ok n_M hown hK hP hD hS 0 rfl rfl 0 (by decide) (hts _ m_f_M_1) (fun _ h9 => h9) rfl (by decide +kernel) rfl rfl (Nat.le_of_ble_eq_true rfl) d_M_weight_2 (fun H locs hP hD hS => ?_)
  have hP : va_P (dC, dI) classes (w_M cA cZ a rv (upf X 0 (fun _ => 0))) H := hP
  have hD : va_D A (w_M cA cZ a rv (upf X 0 (fun _ => 0))) := hD
  refine lv_iload_n hx hb d_M_weight_5 rfl (lv_at hl 1 rfl) ?_
  refine lv_iconst (v := 0) hx hb d_M_weight_6 (by decide) ?_
  refine lv_iconst (v := 3) hx hb d_M_weight_7 (by decide) ?_
  refine nc_ro (va_runS (As := [.int x1, .int 0, .int 3]) (rest := []) hfix (c_M_in l dC dI cA x1 0 3) (k_M_72 hts hN ⟨Nat.le_of_ble_eq_true rfl, Nat.le_of_ble_eq_true rfl⟩) (nc_preS0 hK1 hN) rfl rfl hl.1 rfl (lv_room (Nat.le_of_ble_eq_true rfl)) d_M_weight_8 ⟨Nat.zero_le _, Nat.zero_le _⟩) (fun r er => ?_)
  obtain ⟨rfl, hz_436⟩ := er
  refine lv_if_eq (tgt := 24) hx hb d_M_weight_11 (by decide) (fun c_437 => ?_) (fun c_437 => ?_)
  · refine lv_iconst (v := (-1)) hx hb d_M_weight_24 (by decide) ?_
    have hF : (f_M_weight X x1 x2) = ((-1), (upf X 0 (fun _ => 0))) := by rw [f_M_weight, if_pos c_437]
    exact W.iret (v := (-1)) hx hb hr (fun t ht hW => ⟨⟨(-1), (), rfl, by rw [hF], by rw [hF, ht]; exact hP, by rw [hF]; exact hD⟩, hS.F ht⟩) hS.2.2 d_M_weight_25
  · refine lv_iload_n hx hb d_M_weight_14 rfl (lv_at hl 2 rfl) ?_
    refine lv_iconst (v := 0) hx hb d_M_weight_15 (by decide) ?_
    refine lv_bipush (v := 9) hx hb d_M_weight_16 (by decide) ?_
    refine nc_ro (va_runS (As := [.int x2, .int 0, .int 9]) (rest := []) hfix (c_M_in l dC dI cA x2 0 9) (k_M_72 hts hN ⟨Nat.le_of_ble_eq_true rfl, Nat.le_of_ble_eq_true rfl⟩) (nc_preS0 hK1 hN) rfl rfl hl.1 rfl (lv_room (Nat.le_of_ble_eq_true rfl)) d_M_weight_18 ⟨Nat.zero_le _, Nat.zero_le _⟩) (fun r er => ?_)
    obtain ⟨rfl, hz_438⟩ := er
    refine lv_if_ne (tgt := 26) hx hb d_M_weight_21 (by decide) (fun c_439 => ?_) (fun c_439 => ?_)
    · refine lv_aload_n hx hb d_M_weight_26 rfl (lv_at hl 0 rfl) ?_
      refine va_get (D := (dC, dI)) (ci := 4) (v := .ref (a 7)) (C := R_M) (T := F_M) (N := 39) hx hb hts i_M hown hK hP 0 rfl rfl 8 (by decide) (hts _ m_f_M_32) (fun _ h9 => h9) rfl d_M_weight_27 ?_
      refine lv_iload_n hx hb d_M_weight_30 rfl (lv_at hl 1 rfl) ?_
      refine va_iald (f := (X 8)) hx hb hK hP 7 0 rfl rfl (by have q0 := nc_ne c_437 rfl (L_0); have q1 := nc_ne c_439 rfl (L_0); have q2 := L_0; have q3 := L_3; have q4 := in_pos c_437; have q5 := L_0; have q6 := L_9; have q7 := in_pos c_439; exact vp_in_iff.mpr ⟨by omega, by omega⟩) d_M_weight_31 ?_
      refine lv_istore_n (lv' := [(3, .int ((X 8) x1.toNatClampNeg)), (0, .ref (a 0)), (1, .int x1), (2, .int x2)]) hx hb d_M_weight_32 rfl hl (by decide) rfl (fun ls hl => ?_)
      refine lv_aload_n hx hb d_M_weight_33 rfl (lv_at hl 1 rfl) ?_
      refine va_get (D := (dC, dI)) (ci := 4) (v := .ref (a 7)) (C := R_M) (T := F_M) (N := 39) hx hb hts i_M hown hK hP 0 rfl rfl 8 (by decide) (hts _ m_f_M_32) (fun _ h9 => h9) rfl d_M_weight_34 ?_
      refine lv_iload_n hx hb d_M_weight_37 rfl (lv_at hl 2 rfl) ?_
      refine lv_iload_n hx hb d_M_weight_38 rfl (lv_at hl 3 rfl) ?_
      refine va_iast (f := (X 8)) hx hb hK hP hD hS 7 0 rfl rfl (by have q0 := nc_ne c_437 rfl (L_0); have q1 := nc_ne c_439 rfl (L_0); have q2 := L_0; have q3 := L_3; have q4 := in_pos c_437; have q5 := L_0; have q6 := L_9; have q7 := in_pos c_439; exact vp_in_iff.mpr ⟨by omega, by omega⟩) d_M_weight_39 (fun H locs hP hD hS => ?_)
      have hP : va_P (dC, dI) classes (w_M cA cZ a rv (upf (upf X 0 (fun _ => 0)) 8 (upd (X 8) (x1 : Int32).toNatClampNeg x2))) H := hP
      have hD : va_D A (w_M cA cZ a rv (upf (upf X 0 (fun _ => 0)) 8 (upd (X 8) (x1 : Int32).toNatClampNeg x2))) := hD
      refine lv_iload_n hx hb d_M_weight_40 rfl (lv_at hl 0 rfl) ?_
      have hF : (f_M_weight X x1 x2) = (((X 8) x1.toNatClampNeg), (upf (upf X 0 (fun _ => 0)) 8 (upd (X 8) (x1 : Int32).toNatClampNeg x2))) := by rw [f_M_weight, if_neg c_437, if_neg c_439]
      exact W.iret (v := ((X 8) x1.toNatClampNeg)) hx hb hr (fun t ht hW => ⟨⟨((X 8) x1.toNatClampNeg), (), rfl, by rw [hF], by rw [hF, ht]; exact hP, by rw [hF]; exact hD⟩, hS.F ht⟩) hS.2.2 d_M_weight_41
    · refine lv_iconst (v := (-1)) hx hb d_M_weight_24 (by decide) ?_
      have hF : (f_M_weight X x1 x2) = ((-1), (upf X 0 (fun _ => 0))) := by rw [f_M_weight, if_neg c_437, if_pos c_439]
      exact W.iret (v := (-1)) hx hb hr (fun t ht hW => ⟨⟨(-1), (), rfl, by rw [hF], by rw [hF, ht]; exact hP, by rw [hF]; exact hD⟩, hS.F ht⟩) hS.2.2 d_M_weight_25
def f_M_limit (X : Nat → Nat → Int32) (x1 : Int32) : Int32 × (Nat → Nat → Int32) := (if (f_M_in x1 0 32) = 0 then ((-1), (upf X 0 (fun _ => 0))) else ((X 9 0), (upf (upf X 0 (fun _ => 0)) 9 (fun _ => x1))))
abbrev ws_M_limit : List Cond := .code y_M_limit b_M_limit 3 (some .int) :: lw_G
abbrev rm_M_limit : Room := { frames := 1, cells := 0, slots := 0, locals := 22 }
set_option maxHeartbeats 4000000 in
set_option maxRecDepth 100000 in
theorem c_M_limit (l : Launch) (dC : Nat → ClassId) (dI : Nat → Nat → Nat) (cA cZ : ClassId) (sz : Nat) (a : Nat → Nat) (rv : Value) (X : Nat → Nat → Int32) (x1 : Int32) : Met l y_M_limit ws_M_limit rm_M_limit (nc_PreZM (dC, dI) cA cZ sz [.ref (a 0), .int x1] (w_M cA cZ a rv X)) (va_Qi (fun r (_ : Unit) => r = (f_M_limit X x1).1) (fun _ t => va_P (dC, dI) classes (w_M cA cZ a rv (f_M_limit X x1).2) t.heap ∧ va_D (va_A (w_M cA cZ a rv X) sz) (w_M cA cZ a rv (f_M_limit X x1).2)) (va_A (w_M cA cZ a rv X) sz)) 0 0 (va_A (w_M cA cZ a rv X) sz) := by
  refine Met.ofW (cc := b_M_limit) (maxL := 3) (ret := (some .int)) (by decide) rfl ?_
  intro p e s m args below meth c s₁ B hml hv
  obtain ⟨rfl, hsz, hP, hK, hD0, hN⟩ := hv
  have hx := B.exec
  have hb := B.bytes
  have hr := B.returns
  have hts : ∀ w ∈ lw_G, w.before [.ref (a 0), .int x1].toArray s = true := fun w h => atoms_spec (ws := ws_M_limit) B.pre w (List.mem_cons_of_mem _ h)
  have hown : s.vm.findClass R_M = some m.cls := findClass_of_methodNamed B.named
  have hlocks := B.notSynchronized
  have hfix : CallFix p m c b_M_limit 3 s [.ref (a 0), .int x1].toArray lw_G R_M := ⟨hx, hb, hml, hown, hts⟩
  have hK1 := hK.sub (tys' := [(cA, .int)]) [0] rfl
  subst hsz
  have hD := hD0.self (sz := s.heap.size)
  generalize hAe : va_A (w_M cA cZ a rv X) s.heap.size = A at hD ⊢
  have hA : ∀ q : Nat, s.heap.size ≤ q → A q := fun q h => by rw [← hAe]; exact Or.inr h
  have hS : va_S A s.heap s.heap [] := va_S.rf
  have hl := lv_entry ([.ref (a 0), .int x1]) (n := 3) (Nat.le_of_ble_eq_true rfl)
  rw [lg_entry_eq]
  generalize (lg_sl ([.ref (a 0), .int x1]) ++ List.replicate (3 - (lg_sl ([.ref (a 0), .int x1])).length) Slot.unset).toArray = ls at hl ⊢
  have hl : lv_has ls 3 [(0, .ref (a 0)), (1, .int x1)] := hl
  refine lv_aload_n hx hb d_M_limit_0 rfl (lv_at hl 0 rfl) ?_
  refine lv_iconst (v := 0) hx hb d_M_limit_1 (by decide) ?_
  refine va_put (D := (dC, dI)) (ci := 4) (v := .int 0) (ty := .int) (C := R_M) (T := F_M) (N := 39) hx hb hts i_M t_M t_M_ok n_M hown hK hP hD hS 0 rfl rfl 0 (by decide) (hts _ m_f_M_1) (fun _ h9 => h9) rfl (by decide +kernel) rfl rfl (Nat.le_of_ble_eq_true rfl) d_M_limit_2 (fun H locs hP hD hS => ?_)
  have hP : va_P (dC, dI) classes (w_M cA cZ a rv (upf X 0 (fun _ => 0))) H := hP
  have hD : va_D A (w_M cA cZ a rv (upf X 0 (fun _ => 0))) := hD
  refine lv_iload_n hx hb d_M_limit_5 rfl (lv_at hl 1 rfl) ?_
  refine lv_iconst (v := 0) hx hb d_M_limit_6 (by decide) ?_
  refine lv_bipush (v := 32) hx hb d_M_limit_7 (by decide) ?_
  refine nc_ro (va_runS (As := [.int x1, .int 0, .int 32]) (rest := []) hfix (c_M_in l dC dI cA x1 0 32) (k_M_72 hts hN ⟨Nat.le_of_ble_eq_true rfl, Nat.le_of_ble_eq_true rfl⟩) (nc_preS0 hK1 hN) rfl rfl hl.1 rfl (lv_room (Nat.le_of_ble_eq_true rfl)) d_M_limit_9 ⟨Nat.zero_le _, Nat.zero_le _⟩) (fun r er => ?_)
  obtain ⟨rfl, hz_440⟩ := er
  refine lv_if_ne (tgt := 17) hx hb d_M_limit_12 (by decide) (fun c_441 => ?_) (fun c_441 => ?_)
  · refine lv_aload_n hx hb d_M_limit_17 rfl (lv_at hl 0 rfl) ?_
    refine va_get (D := (dC, dI)) (ci := 4) (v := .int (X 9 0)) (C := R_M) (T := F_M) (N := 39) hx hb hts i_M hown hK hP 0 rfl rfl 9 (by decide) (hts _ m_f_M_35) (fun _ h9 => h9) rfl d_M_limit_18 ?_
    refine lv_istore_n (lv' := [(2, .int (X 9 0)), (0, .ref (a 0)), (1, .int x1)]) hx hb d_M_limit_21 rfl hl (by decide) rfl (fun ls hl => ?_)
    refine lv_aload_n hx hb d_M_limit_22 rfl (lv_at hl 1 rfl) ?_
    refine lv_iload_n hx hb d_M_limit_23 rfl (lv_at hl 2 rfl) ?_
    refine va_put (D := (dC, dI)) (ci := 4) (v := .int x1) (ty := .int) (C := R_M) (T := F_M) (N := 39) hx hb hts i_M t_M t_M_ok n_M hown hK hP hD hS 0 rfl rfl 9 (by decide) (hts _ m_f_M_35) (fun _ h9 => h9) rfl (by decide +kernel) rfl rfl (Nat.le_of_ble_eq_true rfl) d_M_limit_24 (fun H locs hP hD hS => ?_)
    have hP : va_P (dC, dI) classes (w_M cA cZ a rv (upf (upf X 0 (fun _ => 0)) 9 (fun _ => x1))) H := hP
    have hD : va_D A (w_M cA cZ a rv (upf (upf X 0 (fun _ => 0)) 9 (fun _ => x1))) := hD
    refine lv_iload_n hx hb d_M_limit_27 rfl (lv_at hl 0 rfl) ?_
    have hF : (f_M_limit X x1) = ((X 9 0), (upf (upf X 0 (fun _ => 0)) 9 (fun _ => x1))) := by rw [f_M_limit, if_neg c_441]
    exact W.iret (v := (X 9 0)) hx hb hr (fun t ht hW => ⟨⟨(X 9 0), (), rfl, by rw [hF], by rw [hF, ht]; exact hP, by rw [hF]; exact hD⟩, hS.F ht⟩) hS.2.2 d_M_limit_28
  · refine lv_iconst (v := (-1)) hx hb d_M_limit_15 (by decide) ?_
    have hF : (f_M_limit X x1) = ((-1), (upf X 0 (fun _ => 0))) := by rw [f_M_limit, if_pos c_441]
    exact W.iret (v := (-1)) hx hb hr (fun t ht hW => ⟨⟨(-1), (), rfl, by rw [hF], by rw [hF, ht]; exact hP, by rw [hF]; exact hD⟩, hS.F ht⟩) hS.2.2 d_M_limit_16
def f_M_scoreOf_L4 (X : Nat → Nat → Int32) (x1 : Int32) : Nat → Int32 → Int32 → Int32
  | 0, z3, z2 => 0
  | n + 1, z3, z2 => (if 4 ≤ z3 then z2 else (f_M_scoreOf_L4 X x1 n (z3 + 1) (z2 + (((X 8) z3.toNatClampNeg) * ((X 6) (((4 * x1) + z3)).toNatClampNeg)))))
def f_M_scoreOf (X : Nat → Nat → Int32) (x1 : Int32) : Int32 := (f_M_scoreOf_L4 X x1 (nc_mu 4 0 + 1) 0 0)
abbrev ws_M_scoreOf : List Cond := .code y_M_scoreOf b_M_scoreOf 4 (some .int) :: lw_G
abbrev rm_M_scoreOf : Room := { frames := 0, cells := 0, slots := 0, locals := 0 }
set_option maxHeartbeats 4000000 in
set_option maxRecDepth 100000 in
theorem c_M_scoreOf (l : Launch) (dC : Nat → ClassId) (dI : Nat → Nat → Nat) (cA cZ : ClassId) (a : Nat → Nat) (rv : Value) (X : Nat → Nat → Int32) (x1 : Int32) (ht : 0 ≤ x1.toInt ∧ x1.toInt < 32) : Met l y_M_scoreOf ws_M_scoreOf rm_M_scoreOf (nc_PreZ (dC, dI) cA cZ [.ref (a 0), .int x1] (w_M cA cZ a rv X)) (vp_Si (fun r => r = (f_M_scoreOf X x1))) 0 0 (fun _ => False) := by
  refine Met.ofW (cc := b_M_scoreOf) (maxL := 4) (ret := (some .int)) (by decide) rfl ?_
  intro p e s m args below meth c s₁ B hml hv
  obtain ⟨rfl, hP, hK, hD, hN⟩ := hv
  have hx := B.exec
  have hb := B.bytes
  have hr := B.returns
  have hts : ∀ w ∈ lw_G, w.before [.ref (a 0), .int x1].toArray s = true := fun w h => atoms_spec (ws := ws_M_scoreOf) B.pre w (List.mem_cons_of_mem _ h)
  have hown : s.vm.findClass R_M = some m.cls := findClass_of_methodNamed B.named
  have hlocks := B.notSynchronized
  have hfix : CallFix p m c b_M_scoreOf 4 s [.ref (a 0), .int x1].toArray lw_G R_M := ⟨hx, hb, hml, hown, hts⟩
  have hK1 := hK.sub (tys' := [(cA, .int)]) [0] rfl
  have hl := lv_entry ([.ref (a 0), .int x1]) (n := 4) (Nat.le_of_ble_eq_true rfl)
  rw [lg_entry_eq]
  generalize (lg_sl ([.ref (a 0), .int x1]) ++ List.replicate (4 - (lg_sl ([.ref (a 0), .int x1])).length) Slot.unset).toArray = ls at hl ⊢
  have hl : lv_has ls 4 [(0, .ref (a 0)), (1, .int x1)] := hl
  refine lv_iconst (v := 0) hx hb d_M_scoreOf_0 (by decide) ?_
  refine lv_istore_n (lv' := [(2, .int 0), (0, .ref (a 0)), (1, .int x1)]) hx hb d_M_scoreOf_1 rfl hl (by decide) rfl (fun ls hl => ?_)
  refine lv_iconst (v := 0) hx hb d_M_scoreOf_2 (by decide) ?_
  refine lv_istore_n (lv' := [(3, .int 0), (2, .int 0), (0, .ref (a 0)), (1, .int x1)]) hx hb d_M_scoreOf_3 rfl hl (by decide) rfl (fun ls hl => ?_)
  have loop_4 : ∀ (n : Nat) (z3 z2 : Int32) (ls : Array Slot), (f_M_scoreOf X x1) = (f_M_scoreOf_L4 X x1 n z3 z2) → nc_mu 4 z3 < n → 0 ≤ z3.toInt → lv_has ls 4 [(0, .ref (a 0)), (1, .int x1), (3, .int z3), (2, .int z2)] → W p l e (headSpec ws_M_scoreOf rm_M_scoreOf).room s m [.ref (a 0), .int x1].toArray below meth c s.heap [] 0 0 (MQ below (vp_Si (fun r => r = (f_M_scoreOf X x1))) [.ref (a 0), .int x1].toArray s 0 0 (fun _ => False)) (F0 m 4 ls []) := by
    intro n
    induction n with
    | zero =>
      intro z3 z2 ls hE hm h0_4 hl
      exact absurd hm (Nat.not_lt_zero _)
    | succ n ih =>
      intro z3 z2 ls hE hm h0_4 hl
      refine lv_iload_n hx hb d_M_scoreOf_4 rfl (lv_at hl 2 rfl) ?_
      refine lv_iconst (v := 4) hx hb d_M_scoreOf_5 (by decide) ?_
      refine lv_icmp_ge (tgt := 35) hx hb d_M_scoreOf_6 (by decide) (fun c_442 => ?_) (fun c_442 => ?_)
      · refine lv_iload_n hx hb d_M_scoreOf_35 rfl (lv_at hl 3 rfl) ?_
        exact W.iret (v := z2) hx hb hr (fun t ht hW => ⟨z2, rfl, by rw [hE, f_M_scoreOf_L4, if_pos c_442], ht⟩) (fun _ h => nomatch h) d_M_scoreOf_36
      · refine lv_iload_n hx hb d_M_scoreOf_9 rfl (lv_at hl 3 rfl) ?_
        refine lv_aload_n hx hb d_M_scoreOf_10 rfl (lv_at hl 0 rfl) ?_
        refine va_get (D := (dC, dI)) (ci := 4) (v := .ref (a 7)) (C := R_M) (T := F_M) (N := 39) hx hb hts i_M hown hK hP 0 rfl rfl 8 (by decide) (hts _ m_f_M_32) (fun _ h9 => h9) rfl d_M_scoreOf_11 ?_
        refine lv_iload_n hx hb d_M_scoreOf_14 rfl (lv_at hl 2 rfl) ?_
        refine va_iald (f := (X 8)) hx hb hK hP 7 0 rfl rfl (by have q0 := nc_nle c_442 (L_4) rfl; have q1 := ht.1; have q2 := ht.2; have q3 := h0_4; exact vp_in_iff.mpr ⟨by omega, by omega⟩) d_M_scoreOf_15 ?_
        refine lv_aload_n hx hb d_M_scoreOf_16 rfl (lv_at hl 0 rfl) ?_
        refine va_get (D := (dC, dI)) (ci := 4) (v := .ref (a 5)) (C := R_M) (T := F_M) (N := 39) hx hb hts i_M hown hK hP 0 rfl rfl 6 (by decide) (hts _ m_f_M_26) (fun _ h9 => h9) rfl d_M_scoreOf_17 ?_
        refine lv_iconst (v := 4) hx hb d_M_scoreOf_20 (by decide) ?_
        refine lv_iload_n hx hb d_M_scoreOf_21 rfl (lv_at hl 1 rfl) ?_
        refine lv_imul hx hb d_M_scoreOf_22 ?_
        refine lv_iload_n hx hb d_M_scoreOf_23 rfl (lv_at hl 2 rfl) ?_
        refine lv_iadd hx hb d_M_scoreOf_24 ?_
        refine va_iald (f := (X 6)) hx hb hK hP 5 0 rfl rfl (by have q0 := nc_nle c_442 (L_4) rfl; have q1 := ht.1; have q2 := ht.2; have q3 := h0_4; exact nc_4m (by omega) (by omega) (by omega) (by omega)) d_M_scoreOf_25 ?_
        refine lv_imul hx hb d_M_scoreOf_26 ?_
        refine lv_iadd hx hb d_M_scoreOf_27 ?_
        refine lv_istore_n (lv' := [(2, .int (z2 + (((X 8) z3.toNatClampNeg) * ((X 6) (((4 * x1) + z3)).toNatClampNeg)))), (0, .ref (a 0)), (1, .int x1), (3, .int z3)]) hx hb d_M_scoreOf_28 rfl hl (by decide) rfl (fun ls hl => ?_)
        refine lv_iinc (v := (z3 + 1)) (lv' := [(3, .int (z3 + 1)), (2, .int (z2 + (((X 8) z3.toNatClampNeg) * ((X 6) (((4 * x1) + z3)).toNatClampNeg)))), (0, .ref (a 0)), (1, .int x1)]) hx hb d_M_scoreOf_29 hl (k := 3) rfl rfl (by decide) rfl (fun ls hl => ?_)
        refine lv_goto (tgt := 4) hx hb d_M_scoreOf_32 (by decide) ?_
        exact ih (z3 + 1) (z2 + (((X 8) z3.toNatClampNeg) * ((X 6) (((4 * x1) + z3)).toNatClampNeg))) ls (by rw [hE, f_M_scoreOf_L4, if_neg c_442]) (nc_mu_step c_442 hm) (nc_i_step c_442 h0_4) (lv_sub hl [2, 3, 0, 1] rfl)
  exact loop_4 (nc_mu 4 0 + 1) 0 0 ls (by rw [f_M_scoreOf]) (Nat.lt_succ_self _) (by decide) (lv_sub hl [2, 3, 0, 1] rfl)
def f_M_score (X : Nat → Nat → Int32) (x1 : Int32) : Int32 × (Nat → Nat → Int32) := (if (f_M_noThing (upf X 0 (fun _ => 0)) x1) = 0 then ((1000 + (f_M_scoreOf (upf X 0 (fun _ => 0)) x1)), (upf X 0 (fun _ => 0))) else ((-1), (upf X 0 (fun _ => 0))))
abbrev ws_M_score : List Cond := .code y_M_score b_M_score 2 (some .int) :: lw_G
abbrev rm_M_score : Room := { frames := 2, cells := 0, slots := 0, locals := 43 }
set_option maxHeartbeats 4000000 in
set_option maxRecDepth 100000 in
theorem c_M_score (l : Launch) (dC : Nat → ClassId) (dI : Nat → Nat → Nat) (cA cZ : ClassId) (sz : Nat) (a : Nat → Nat) (rv : Value) (X : Nat → Nat → Int32) (x1 : Int32) (hmt : m_t X) : Met l y_M_score ws_M_score rm_M_score (nc_PreZM (dC, dI) cA cZ sz [.ref (a 0), .int x1] (w_M cA cZ a rv X)) (va_Qi (fun r (_ : Unit) => r = (f_M_score X x1).1) (fun _ t => va_P (dC, dI) classes (w_M cA cZ a rv (f_M_score X x1).2) t.heap ∧ va_D (va_A (w_M cA cZ a rv X) sz) (w_M cA cZ a rv (f_M_score X x1).2)) (va_A (w_M cA cZ a rv X) sz)) 0 0 (va_A (w_M cA cZ a rv X) sz) := by
  refine Met.ofW (cc := b_M_score) (maxL := 2) (ret := (some .int)) (by decide) rfl ?_
  intro p e s m args below meth c s₁ B hml hv
  obtain ⟨rfl, hsz, hP, hK, hD0, hN⟩ := hv
  have hx := B.exec
  have hb := B.bytes
  have hr := B.returns
  have hts : ∀ w ∈ lw_G, w.before [.ref (a 0), .int x1].toArray s = true := fun w h => atoms_spec (ws := ws_M_score) B.pre w (List.mem_cons_of_mem _ h)
  have hown : s.vm.findClass R_M = some m.cls := findClass_of_methodNamed B.named
  have hlocks := B.notSynchronized
  have hfix : CallFix p m c b_M_score 2 s [.ref (a 0), .int x1].toArray lw_G R_M := ⟨hx, hb, hml, hown, hts⟩
  have hK1 := hK.sub (tys' := [(cA, .int)]) [0] rfl
  subst hsz
  have hD := hD0.self (sz := s.heap.size)
  generalize hAe : va_A (w_M cA cZ a rv X) s.heap.size = A at hD ⊢
  have hA : ∀ q : Nat, s.heap.size ≤ q → A q := fun q h => by rw [← hAe]; exact Or.inr h
  have hS : va_S A s.heap s.heap [] := va_S.rf
  have hl := lv_entry ([.ref (a 0), .int x1]) (n := 2) (Nat.le_of_ble_eq_true rfl)
  rw [lg_entry_eq]
  generalize (lg_sl ([.ref (a 0), .int x1]) ++ List.replicate (2 - (lg_sl ([.ref (a 0), .int x1])).length) Slot.unset).toArray = ls at hl ⊢
  have hl : lv_has ls 2 [(0, .ref (a 0)), (1, .int x1)] := hl
  refine lv_aload_n hx hb d_M_score_0 rfl (lv_at hl 0 rfl) ?_
  refine lv_iconst (v := 0) hx hb d_M_score_1 (by decide) ?_
  refine va_put (D := (dC, dI)) (ci := 4) (v := .int 0) (ty := .int) (C := R_M) (T := F_M) (N := 39) hx hb hts i_M t_M t_M_ok n_M hown hK hP hD hS 0 rfl rfl 0 (by decide) (hts _ m_f_M_1) (fun _ h9 => h9) rfl (by decide +kernel) rfl rfl (Nat.le_of_ble_eq_true rfl) d_M_score_2 (fun H locs hP hD hS => ?_)
  have hP : va_P (dC, dI) classes (w_M cA cZ a rv (upf X 0 (fun _ => 0))) H := hP
  have hD : va_D A (w_M cA cZ a rv (upf X 0 (fun _ => 0))) := hD
  refine lv_aload_n hx hb d_M_score_5 rfl (lv_at hl 0 rfl) ?_
  refine lv_iload_n hx hb d_M_score_6 rfl (lv_at hl 1 rfl) ?_
  refine nc_ro (va_runV (As := [.int x1]) (rest := []) hfix (c_M_noThing l dC dI cA cZ a rv (upf X 0 (fun _ => 0)) x1) (k_M_76 hts hN ⟨Nat.le_of_ble_eq_true rfl, Nat.le_of_ble_eq_true rfl⟩) (nc_preVZ hK hN hP hD rfl rfl) rfl rfl hl.1 rfl (lv_room (Nat.le_of_ble_eq_true rfl)) d_M_score_7 ⟨Nat.zero_le _, Nat.zero_le _⟩) (fun r er => ?_)
  obtain ⟨rfl, hz_443⟩ := er
  refine lv_if_eq (tgt := 17) hx hb d_M_score_10 (by decide) (fun c_444 => ?_) (fun c_444 => ?_)
  · refine lv_sipush (v := 1000) hx hb d_M_score_17 (by decide) ?_
    refine lv_aload_n hx hb d_M_score_20 rfl (lv_at hl 0 rfl) ?_
    refine lv_iload_n hx hb d_M_score_21 rfl (lv_at hl 1 rfl) ?_
    refine nc_ro (va_runV (As := [.int x1]) (rest := [.int 1000]) hfix (c_M_scoreOf l dC dI cA cZ a rv (upf X 0 (fun _ => 0)) x1 (by have q0 := nc_eq c_444 rfl (L_0); have q1 := hmt.1; have q2 := hmt.2; have q3 := noThing_zero hmt c_444; exact ⟨by omega, by omega⟩)) (k_M_80 hts hN ⟨Nat.le_of_ble_eq_true rfl, Nat.le_of_ble_eq_true rfl⟩) (nc_preVZ hK hN hP hD rfl rfl) rfl rfl hl.1 rfl (lv_room (Nat.le_of_ble_eq_true rfl)) d_M_score_22 ⟨Nat.zero_le _, Nat.zero_le _⟩) (fun r er => ?_)
    subst er
    refine lv_iadd hx hb d_M_score_25 ?_
    have hF : (f_M_score X x1) = ((1000 + (f_M_scoreOf (upf X 0 (fun _ => 0)) x1)), (upf X 0 (fun _ => 0))) := by rw [f_M_score, if_pos c_444]
    exact W.iret (v := (1000 + (f_M_scoreOf (upf X 0 (fun _ => 0)) x1))) hx hb hr (fun t ht hW => ⟨⟨(1000 + (f_M_scoreOf (upf X 0 (fun _ => 0)) x1)), (), rfl, by rw [hF], by rw [hF, ht]; exact hP, by rw [hF]; exact hD⟩, hS.F ht⟩) hS.2.2 d_M_score_26
  · refine lv_iconst (v := (-1)) hx hb d_M_score_13 (by decide) ?_
    refine lv_goto (tgt := 26) hx hb d_M_score_14 (by decide) ?_
    have hF : (f_M_score X x1) = ((-1), (upf X 0 (fun _ => 0))) := by rw [f_M_score, if_neg c_444]
    exact W.iret (v := (-1)) hx hb hr (fun t ht hW => ⟨⟨(-1), (), rfl, by rw [hF], by rw [hF, ht]; exact hP, by rw [hF]; exact hD⟩, hS.F ht⟩) hS.2.2 d_M_score_26
def f_M_isAlike_L78 (X : Nat → Nat → Int32) (x1 x2 : Int32) : Nat → Int32 → Int32 → Int32
  | 0, z4, z3 => 0
  | n + 1, z4, z3 => (if 4 ≤ z4 then z3 else (if z3 = 0 then (f_M_isAlike_L78 X x1 x2 n (z4 + 1) 0) else (if ((X 6) (((4 * x1) + z4)).toNatClampNeg) = ((X 6) (((4 * x2) + z4)).toNatClampNeg) then (f_M_isAlike_L78 X x1 x2 n (z4 + 1) 1) else (f_M_isAlike_L78 X x1 x2 n (z4 + 1) 0))))
def f_M_isAlike (X : Nat → Nat → Int32) (x1 x2 : Int32) : Int32 := (if ((X 4) x1.toNatClampNeg) = ((X 4) x2.toNatClampNeg) then (if ((X 4) x1.toNatClampNeg) < 0 then (f_M_isAlike_L78 X x1 x2 (nc_mu 4 0 + 1) 0 0) else (if ((X 2) x1.toNatClampNeg) = ((X 2) x2.toNatClampNeg) then (if ((X 3) x1.toNatClampNeg) = ((X 3) x2.toNatClampNeg) then (if ((X 5) x1.toNatClampNeg) = ((X 5) x2.toNatClampNeg) then (f_M_isAlike_L78 X x1 x2 (nc_mu 4 0 + 1) 0 1) else (f_M_isAlike_L78 X x1 x2 (nc_mu 4 0 + 1) 0 0)) else (f_M_isAlike_L78 X x1 x2 (nc_mu 4 0 + 1) 0 0)) else (f_M_isAlike_L78 X x1 x2 (nc_mu 4 0 + 1) 0 0))) else (f_M_isAlike_L78 X x1 x2 (nc_mu 4 0 + 1) 0 0))
abbrev ws_M_isAlike : List Cond := .code y_M_isAlike b_M_isAlike 5 (some .boolean) :: lw_G
abbrev rm_M_isAlike : Room := { frames := 0, cells := 0, slots := 0, locals := 0 }
set_option maxHeartbeats 4000000 in
set_option maxRecDepth 100000 in
theorem c_M_isAlike (l : Launch) (dC : Nat → ClassId) (dI : Nat → Nat → Nat) (cA cZ : ClassId) (a : Nat → Nat) (rv : Value) (X : Nat → Nat → Int32) (x1 x2 : Int32) (ht1 : 0 ≤ x1.toInt ∧ x1.toInt < 32) (ht2 : 0 ≤ x2.toInt ∧ x2.toInt < 32) : Met l y_M_isAlike ws_M_isAlike rm_M_isAlike (nc_PreZ (dC, dI) cA cZ [.ref (a 0), .int x1, .int x2] (w_M cA cZ a rv X)) (vp_Si (fun r => (r = (f_M_isAlike X x1 x2) ∧ narrow .boolean (.int r) = .int r))) 0 0 (fun _ => False) := by
  refine Met.ofW (cc := b_M_isAlike) (maxL := 5) (ret := (some .boolean)) (by decide) rfl ?_
  intro p e s m args below meth c s₁ B hml hv
  obtain ⟨rfl, hP, hK, hD, hN⟩ := hv
  have hx := B.exec
  have hb := B.bytes
  have hr := B.returns
  have hts : ∀ w ∈ lw_G, w.before [.ref (a 0), .int x1, .int x2].toArray s = true := fun w h => atoms_spec (ws := ws_M_isAlike) B.pre w (List.mem_cons_of_mem _ h)
  have hown : s.vm.findClass R_M = some m.cls := findClass_of_methodNamed B.named
  have hlocks := B.notSynchronized
  have hfix : CallFix p m c b_M_isAlike 5 s [.ref (a 0), .int x1, .int x2].toArray lw_G R_M := ⟨hx, hb, hml, hown, hts⟩
  have hK1 := hK.sub (tys' := [(cA, .int)]) [0] rfl
  have hl := lv_entry ([.ref (a 0), .int x1, .int x2]) (n := 5) (Nat.le_of_ble_eq_true rfl)
  rw [lg_entry_eq]
  generalize (lg_sl ([.ref (a 0), .int x1, .int x2]) ++ List.replicate (5 - (lg_sl ([.ref (a 0), .int x1, .int x2])).length) Slot.unset).toArray = ls at hl ⊢
  have hl : lv_has ls 5 [(0, .ref (a 0)), (1, .int x1), (2, .int x2)] := hl
  have loop_78 : ∀ (n : Nat) (z4 z3 : Int32) (ls : Array Slot), (f_M_isAlike X x1 x2) = (f_M_isAlike_L78 X x1 x2 n z4 z3) → nc_mu 4 z4 < n → 0 ≤ z4.toInt → narrow .boolean (.int z3) = .int z3 → lv_has ls 5 [(0, .ref (a 0)), (1, .int x1), (2, .int x2), (4, .int z4), (3, .int z3)] → W p l e (headSpec ws_M_isAlike rm_M_isAlike).room s m [.ref (a 0), .int x1, .int x2].toArray below meth c s.heap [] 0 0 (MQ below (vp_Si (fun r => (r = (f_M_isAlike X x1 x2) ∧ narrow .boolean (.int r) = .int r))) [.ref (a 0), .int x1, .int x2].toArray s 0 0 (fun _ => False)) (F0 m 78 ls []) := by
    intro n
    induction n with
    | zero =>
      intro z4 z3 ls hE hm h0_78 hb3_78 hl
      exact absurd hm (Nat.not_lt_zero _)
    | succ n ih =>
      intro z4 z3 ls hE hm h0_78 hb3_78 hl
      refine lv_iload hx hb d_M_isAlike_78 (lv_at hl 3 rfl) ?_
      refine lv_iconst (v := 4) hx hb d_M_isAlike_80 (by decide) ?_
      refine lv_icmp_ge (tgt := 125) hx hb d_M_isAlike_81 (by decide) (fun c_445 => ?_) (fun c_445 => ?_)
      · refine lv_iload_n hx hb d_M_isAlike_125 rfl (lv_at hl 4 rfl) ?_
        exact W.zret (v := z3) hx hb hr hb3_78 (fun t ht hW => ⟨z3, rfl, ⟨by rw [hE, f_M_isAlike_L78, if_pos c_445], hb3_78⟩, ht⟩) (fun _ h => nomatch h) d_M_isAlike_126
      · refine lv_iload_n hx hb d_M_isAlike_84 rfl (lv_at hl 4 rfl) ?_
        refine lv_if_eq (tgt := 117) hx hb d_M_isAlike_85 (by decide) (fun c_446 => ?_) (fun c_446 => ?_)
        · refine lv_iconst (v := 0) hx hb d_M_isAlike_117 (by decide) ?_
          refine lv_istore_n (lv' := [(3, .int 0), (0, .ref (a 0)), (1, .int x1), (2, .int x2), (4, .int z4)]) hx hb d_M_isAlike_118 rfl hl (by decide) rfl (fun ls hl => ?_)
          refine lv_iinc (v := (z4 + 1)) (lv' := [(4, .int (z4 + 1)), (3, .int 0), (0, .ref (a 0)), (1, .int x1), (2, .int x2)]) hx hb d_M_isAlike_119 hl (k := 4) rfl rfl (by decide) rfl (fun ls hl => ?_)
          refine lv_goto (tgt := 78) hx hb d_M_isAlike_122 (by decide) ?_
          exact ih (z4 + 1) 0 ls (by rw [hE, f_M_isAlike_L78, if_neg c_445, if_pos c_446]) (nc_mu_step c_445 hm) (nc_i_step c_445 h0_78) rfl (lv_sub hl [2, 3, 4, 0, 1] rfl)
        · refine lv_aload_n hx hb d_M_isAlike_88 rfl (lv_at hl 0 rfl) ?_
          refine va_get (D := (dC, dI)) (ci := 4) (v := .ref (a 5)) (C := R_M) (T := F_M) (N := 39) hx hb hts i_M hown hK hP 0 rfl rfl 6 (by decide) (hts _ m_f_M_26) (fun _ h9 => h9) rfl d_M_isAlike_89 ?_
          refine lv_iconst (v := 4) hx hb d_M_isAlike_92 (by decide) ?_
          refine lv_iload_n hx hb d_M_isAlike_93 rfl (lv_at hl 1 rfl) ?_
          refine lv_imul hx hb d_M_isAlike_94 ?_
          refine lv_iload hx hb d_M_isAlike_95 (lv_at hl 3 rfl) ?_
          refine lv_iadd hx hb d_M_isAlike_97 ?_
          refine va_iald (f := (X 6)) hx hb hK hP 5 0 rfl rfl (by have q0 := nc_nle c_445 (L_4) rfl; have q1 := nc_ne c_446 rfl (L_0); have q2 := ht1.1; have q3 := ht1.2; have q4 := ht2.1; have q5 := ht2.2; have q6 := h0_78; exact nc_4m (by omega) (by omega) (by omega) (by omega)) d_M_isAlike_98 ?_
          refine lv_aload_n hx hb d_M_isAlike_99 rfl (lv_at hl 0 rfl) ?_
          refine va_get (D := (dC, dI)) (ci := 4) (v := .ref (a 5)) (C := R_M) (T := F_M) (N := 39) hx hb hts i_M hown hK hP 0 rfl rfl 6 (by decide) (hts _ m_f_M_26) (fun _ h9 => h9) rfl d_M_isAlike_100 ?_
          refine lv_iconst (v := 4) hx hb d_M_isAlike_103 (by decide) ?_
          refine lv_iload_n hx hb d_M_isAlike_104 rfl (lv_at hl 2 rfl) ?_
          refine lv_imul hx hb d_M_isAlike_105 ?_
          refine lv_iload hx hb d_M_isAlike_106 (lv_at hl 3 rfl) ?_
          refine lv_iadd hx hb d_M_isAlike_108 ?_
          refine va_iald (f := (X 6)) hx hb hK hP 5 0 rfl rfl (by have q0 := nc_nle c_445 (L_4) rfl; have q1 := nc_ne c_446 rfl (L_0); have q2 := ht1.1; have q3 := ht1.2; have q4 := ht2.1; have q5 := ht2.2; have q6 := h0_78; exact nc_4m (by omega) (by omega) (by omega) (by omega)) d_M_isAlike_109 ?_
          refine lv_icmp_ne (tgt := 117) hx hb d_M_isAlike_110 (by decide) (fun c_447 => ?_) (fun c_447 => ?_)
          · refine lv_iconst (v := 0) hx hb d_M_isAlike_117 (by decide) ?_
            refine lv_istore_n (lv' := [(3, .int 0), (0, .ref (a 0)), (1, .int x1), (2, .int x2), (4, .int z4)]) hx hb d_M_isAlike_118 rfl hl (by decide) rfl (fun ls hl => ?_)
            refine lv_iinc (v := (z4 + 1)) (lv' := [(4, .int (z4 + 1)), (3, .int 0), (0, .ref (a 0)), (1, .int x1), (2, .int x2)]) hx hb d_M_isAlike_119 hl (k := 4) rfl rfl (by decide) rfl (fun ls hl => ?_)
            refine lv_goto (tgt := 78) hx hb d_M_isAlike_122 (by decide) ?_
            exact ih (z4 + 1) 0 ls (by rw [hE, f_M_isAlike_L78, if_neg c_445, if_neg c_446, if_neg c_447]) (nc_mu_step c_445 hm) (nc_i_step c_445 h0_78) rfl (lv_sub hl [2, 3, 4, 0, 1] rfl)
          · refine lv_iconst (v := 1) hx hb d_M_isAlike_113 (by decide) ?_
            refine lv_goto (tgt := 118) hx hb d_M_isAlike_114 (by decide) ?_
            refine lv_istore_n (lv' := [(3, .int 1), (0, .ref (a 0)), (1, .int x1), (2, .int x2), (4, .int z4)]) hx hb d_M_isAlike_118 rfl hl (by decide) rfl (fun ls hl => ?_)
            refine lv_iinc (v := (z4 + 1)) (lv' := [(4, .int (z4 + 1)), (3, .int 1), (0, .ref (a 0)), (1, .int x1), (2, .int x2)]) hx hb d_M_isAlike_119 hl (k := 4) rfl rfl (by decide) rfl (fun ls hl => ?_)
            refine lv_goto (tgt := 78) hx hb d_M_isAlike_122 (by decide) ?_
            exact ih (z4 + 1) 1 ls (by rw [hE, f_M_isAlike_L78, if_neg c_445, if_neg c_446, if_pos c_447]) (nc_mu_step c_445 hm) (nc_i_step c_445 h0_78) rfl (lv_sub hl [2, 3, 4, 0, 1] rfl)
  refine lv_aload_n hx hb d_M_isAlike_0 rfl (lv_at hl 0 rfl) ?_
  refine va_get (D := (dC, dI)) (ci := 4) (v := .ref (a 3)) (C := R_M) (T := F_M) (N := 39) hx hb hts i_M hown hK hP 0 rfl rfl 4 (by decide) (hts _ m_f_M_20) (fun _ h9 => h9) rfl d_M_isAlike_1 ?_
  refine lv_iload_n hx hb d_M_isAlike_4 rfl (lv_at hl 1 rfl) ?_
  refine va_iald (f := (X 4)) hx hb hK hP 3 0 rfl rfl (by have q0 := ht1.1; have q1 := ht1.2; have q2 := ht2.1; have q3 := ht2.2; exact vp_in_iff.mpr ⟨by omega, by omega⟩) d_M_isAlike_5 ?_
  refine lv_aload_n hx hb d_M_isAlike_6 rfl (lv_at hl 0 rfl) ?_
  refine va_get (D := (dC, dI)) (ci := 4) (v := .ref (a 3)) (C := R_M) (T := F_M) (N := 39) hx hb hts i_M hown hK hP 0 rfl rfl 4 (by decide) (hts _ m_f_M_20) (fun _ h9 => h9) rfl d_M_isAlike_7 ?_
  refine lv_iload_n hx hb d_M_isAlike_10 rfl (lv_at hl 2 rfl) ?_
  refine va_iald (f := (X 4)) hx hb hK hP 3 0 rfl rfl (by have q0 := ht1.1; have q1 := ht1.2; have q2 := ht2.1; have q3 := ht2.2; exact vp_in_iff.mpr ⟨by omega, by omega⟩) d_M_isAlike_11 ?_
  refine lv_icmp_ne (tgt := 73) hx hb d_M_isAlike_12 (by decide) (fun c_448 => ?_) (fun c_448 => ?_)
  · refine lv_iconst (v := 0) hx hb d_M_isAlike_73 (by decide) ?_
    refine lv_istore_n (lv' := [(3, .int 0), (0, .ref (a 0)), (1, .int x1), (2, .int x2)]) hx hb d_M_isAlike_74 rfl hl (by decide) rfl (fun ls hl => ?_)
    refine lv_iconst (v := 0) hx hb d_M_isAlike_75 (by decide) ?_
    refine lv_istore (lv' := [(4, .int 0), (3, .int 0), (0, .ref (a 0)), (1, .int x1), (2, .int x2)]) hx hb d_M_isAlike_76 hl (by decide) rfl (fun ls hl => ?_)
    exact loop_78 (nc_mu 4 0 + 1) 0 0 ls (by rw [f_M_isAlike, if_neg c_448]) (Nat.lt_succ_self _) (by decide) rfl (lv_sub hl [2, 3, 4, 0, 1] rfl)
  · refine lv_aload_n hx hb d_M_isAlike_15 rfl (lv_at hl 0 rfl) ?_
    refine va_get (D := (dC, dI)) (ci := 4) (v := .ref (a 3)) (C := R_M) (T := F_M) (N := 39) hx hb hts i_M hown hK hP 0 rfl rfl 4 (by decide) (hts _ m_f_M_20) (fun _ h9 => h9) rfl d_M_isAlike_16 ?_
    refine lv_iload_n hx hb d_M_isAlike_19 rfl (lv_at hl 1 rfl) ?_
    refine va_iald (f := (X 4)) hx hb hK hP 3 0 rfl rfl (by have q0 := nc_eq c_448 rfl rfl; have q1 := ht1.1; have q2 := ht1.2; have q3 := ht2.1; have q4 := ht2.2; exact vp_in_iff.mpr ⟨by omega, by omega⟩) d_M_isAlike_20 ?_
    refine lv_if_lt (tgt := 73) hx hb d_M_isAlike_21 (by decide) (fun c_449 => ?_) (fun c_449 => ?_)
    · refine lv_iconst (v := 0) hx hb d_M_isAlike_73 (by decide) ?_
      refine lv_istore_n (lv' := [(3, .int 0), (0, .ref (a 0)), (1, .int x1), (2, .int x2)]) hx hb d_M_isAlike_74 rfl hl (by decide) rfl (fun ls hl => ?_)
      refine lv_iconst (v := 0) hx hb d_M_isAlike_75 (by decide) ?_
      refine lv_istore (lv' := [(4, .int 0), (3, .int 0), (0, .ref (a 0)), (1, .int x1), (2, .int x2)]) hx hb d_M_isAlike_76 hl (by decide) rfl (fun ls hl => ?_)
      exact loop_78 (nc_mu 4 0 + 1) 0 0 ls (by rw [f_M_isAlike, if_pos c_448, if_pos c_449]) (Nat.lt_succ_self _) (by decide) rfl (lv_sub hl [2, 3, 4, 0, 1] rfl)
    · refine lv_aload_n hx hb d_M_isAlike_24 rfl (lv_at hl 0 rfl) ?_
      refine va_get (D := (dC, dI)) (ci := 4) (v := .ref (a 1)) (C := R_M) (T := F_M) (N := 39) hx hb hts i_M hown hK hP 0 rfl rfl 2 (by decide) (hts _ m_f_M_13) (fun _ h9 => h9) rfl d_M_isAlike_25 ?_
      refine lv_iload_n hx hb d_M_isAlike_28 rfl (lv_at hl 1 rfl) ?_
      refine va_iald (f := (X 2)) hx hb hK hP 1 0 rfl rfl (by have q0 := nc_eq c_448 rfl rfl; have q1 := nc_nlt c_449 rfl (L_0); have q2 := ht1.1; have q3 := ht1.2; have q4 := ht2.1; have q5 := ht2.2; exact vp_in_iff.mpr ⟨by omega, by omega⟩) d_M_isAlike_29 ?_
      refine lv_aload_n hx hb d_M_isAlike_30 rfl (lv_at hl 0 rfl) ?_
      refine va_get (D := (dC, dI)) (ci := 4) (v := .ref (a 1)) (C := R_M) (T := F_M) (N := 39) hx hb hts i_M hown hK hP 0 rfl rfl 2 (by decide) (hts _ m_f_M_13) (fun _ h9 => h9) rfl d_M_isAlike_31 ?_
      refine lv_iload_n hx hb d_M_isAlike_34 rfl (lv_at hl 2 rfl) ?_
      refine va_iald (f := (X 2)) hx hb hK hP 1 0 rfl rfl (by have q0 := nc_eq c_448 rfl rfl; have q1 := nc_nlt c_449 rfl (L_0); have q2 := ht1.1; have q3 := ht1.2; have q4 := ht2.1; have q5 := ht2.2; exact vp_in_iff.mpr ⟨by omega, by omega⟩) d_M_isAlike_35 ?_
      refine lv_icmp_ne (tgt := 73) hx hb d_M_isAlike_36 (by decide) (fun c_450 => ?_) (fun c_450 => ?_)
      · refine lv_iconst (v := 0) hx hb d_M_isAlike_73 (by decide) ?_
        refine lv_istore_n (lv' := [(3, .int 0), (0, .ref (a 0)), (1, .int x1), (2, .int x2)]) hx hb d_M_isAlike_74 rfl hl (by decide) rfl (fun ls hl => ?_)
        refine lv_iconst (v := 0) hx hb d_M_isAlike_75 (by decide) ?_
        refine lv_istore (lv' := [(4, .int 0), (3, .int 0), (0, .ref (a 0)), (1, .int x1), (2, .int x2)]) hx hb d_M_isAlike_76 hl (by decide) rfl (fun ls hl => ?_)
        exact loop_78 (nc_mu 4 0 + 1) 0 0 ls (by rw [f_M_isAlike, if_pos c_448, if_neg c_449, if_neg c_450]) (Nat.lt_succ_self _) (by decide) rfl (lv_sub hl [2, 3, 4, 0, 1] rfl)
      · refine lv_aload_n hx hb d_M_isAlike_39 rfl (lv_at hl 0 rfl) ?_
        refine va_get (D := (dC, dI)) (ci := 4) (v := .ref (a 2)) (C := R_M) (T := F_M) (N := 39) hx hb hts i_M hown hK hP 0 rfl rfl 3 (by decide) (hts _ m_f_M_17) (fun _ h9 => h9) rfl d_M_isAlike_40 ?_
        refine lv_iload_n hx hb d_M_isAlike_43 rfl (lv_at hl 1 rfl) ?_
        refine va_iald (f := (X 3)) hx hb hK hP 2 0 rfl rfl (by have q0 := nc_eq c_448 rfl rfl; have q1 := nc_nlt c_449 rfl (L_0); have q2 := nc_eq c_450 rfl rfl; have q3 := ht1.1; have q4 := ht1.2; have q5 := ht2.1; have q6 := ht2.2; exact vp_in_iff.mpr ⟨by omega, by omega⟩) d_M_isAlike_44 ?_
        refine lv_aload_n hx hb d_M_isAlike_45 rfl (lv_at hl 0 rfl) ?_
        refine va_get (D := (dC, dI)) (ci := 4) (v := .ref (a 2)) (C := R_M) (T := F_M) (N := 39) hx hb hts i_M hown hK hP 0 rfl rfl 3 (by decide) (hts _ m_f_M_17) (fun _ h9 => h9) rfl d_M_isAlike_46 ?_
        refine lv_iload_n hx hb d_M_isAlike_49 rfl (lv_at hl 2 rfl) ?_
        refine va_iald (f := (X 3)) hx hb hK hP 2 0 rfl rfl (by have q0 := nc_eq c_448 rfl rfl; have q1 := nc_nlt c_449 rfl (L_0); have q2 := nc_eq c_450 rfl rfl; have q3 := ht1.1; have q4 := ht1.2; have q5 := ht2.1; have q6 := ht2.2; exact vp_in_iff.mpr ⟨by omega, by omega⟩) d_M_isAlike_50 ?_
        refine lv_icmp_ne (tgt := 73) hx hb d_M_isAlike_51 (by decide) (fun c_451 => ?_) (fun c_451 => ?_)
        · refine lv_iconst (v := 0) hx hb d_M_isAlike_73 (by decide) ?_
          refine lv_istore_n (lv' := [(3, .int 0), (0, .ref (a 0)), (1, .int x1), (2, .int x2)]) hx hb d_M_isAlike_74 rfl hl (by decide) rfl (fun ls hl => ?_)
          refine lv_iconst (v := 0) hx hb d_M_isAlike_75 (by decide) ?_
          refine lv_istore (lv' := [(4, .int 0), (3, .int 0), (0, .ref (a 0)), (1, .int x1), (2, .int x2)]) hx hb d_M_isAlike_76 hl (by decide) rfl (fun ls hl => ?_)
          exact loop_78 (nc_mu 4 0 + 1) 0 0 ls (by rw [f_M_isAlike, if_pos c_448, if_neg c_449, if_pos c_450, if_neg c_451]) (Nat.lt_succ_self _) (by decide) rfl (lv_sub hl [2, 3, 4, 0, 1] rfl)
        · refine lv_aload_n hx hb d_M_isAlike_54 rfl (lv_at hl 0 rfl) ?_
          refine va_get (D := (dC, dI)) (ci := 4) (v := .ref (a 4)) (C := R_M) (T := F_M) (N := 39) hx hb hts i_M hown hK hP 0 rfl rfl 5 (by decide) (hts _ m_f_M_23) (fun _ h9 => h9) rfl d_M_isAlike_55 ?_
          refine lv_iload_n hx hb d_M_isAlike_58 rfl (lv_at hl 1 rfl) ?_
          refine va_iald (f := (X 5)) hx hb hK hP 4 0 rfl rfl (by have q0 := nc_eq c_448 rfl rfl; have q1 := nc_nlt c_449 rfl (L_0); have q2 := nc_eq c_450 rfl rfl; have q3 := nc_eq c_451 rfl rfl; have q4 := ht1.1; have q5 := ht1.2; have q6 := ht2.1; have q7 := ht2.2; exact vp_in_iff.mpr ⟨by omega, by omega⟩) d_M_isAlike_59 ?_
          refine lv_aload_n hx hb d_M_isAlike_60 rfl (lv_at hl 0 rfl) ?_
          refine va_get (D := (dC, dI)) (ci := 4) (v := .ref (a 4)) (C := R_M) (T := F_M) (N := 39) hx hb hts i_M hown hK hP 0 rfl rfl 5 (by decide) (hts _ m_f_M_23) (fun _ h9 => h9) rfl d_M_isAlike_61 ?_
          refine lv_iload_n hx hb d_M_isAlike_64 rfl (lv_at hl 2 rfl) ?_
          refine va_iald (f := (X 5)) hx hb hK hP 4 0 rfl rfl (by have q0 := nc_eq c_448 rfl rfl; have q1 := nc_nlt c_449 rfl (L_0); have q2 := nc_eq c_450 rfl rfl; have q3 := nc_eq c_451 rfl rfl; have q4 := ht1.1; have q5 := ht1.2; have q6 := ht2.1; have q7 := ht2.2; exact vp_in_iff.mpr ⟨by omega, by omega⟩) d_M_isAlike_65 ?_
          refine lv_icmp_ne (tgt := 73) hx hb d_M_isAlike_66 (by decide) (fun c_452 => ?_) (fun c_452 => ?_)
          · refine lv_iconst (v := 0) hx hb d_M_isAlike_73 (by decide) ?_
            refine lv_istore_n (lv' := [(3, .int 0), (0, .ref (a 0)), (1, .int x1), (2, .int x2)]) hx hb d_M_isAlike_74 rfl hl (by decide) rfl (fun ls hl => ?_)
            refine lv_iconst (v := 0) hx hb d_M_isAlike_75 (by decide) ?_
            refine lv_istore (lv' := [(4, .int 0), (3, .int 0), (0, .ref (a 0)), (1, .int x1), (2, .int x2)]) hx hb d_M_isAlike_76 hl (by decide) rfl (fun ls hl => ?_)
            exact loop_78 (nc_mu 4 0 + 1) 0 0 ls (by rw [f_M_isAlike, if_pos c_448, if_neg c_449, if_pos c_450, if_pos c_451, if_neg c_452]) (Nat.lt_succ_self _) (by decide) rfl (lv_sub hl [2, 3, 4, 0, 1] rfl)
          · refine lv_iconst (v := 1) hx hb d_M_isAlike_69 (by decide) ?_
            refine lv_goto (tgt := 74) hx hb d_M_isAlike_70 (by decide) ?_
            refine lv_istore_n (lv' := [(3, .int 1), (0, .ref (a 0)), (1, .int x1), (2, .int x2)]) hx hb d_M_isAlike_74 rfl hl (by decide) rfl (fun ls hl => ?_)
            refine lv_iconst (v := 0) hx hb d_M_isAlike_75 (by decide) ?_
            refine lv_istore (lv' := [(4, .int 0), (3, .int 1), (0, .ref (a 0)), (1, .int x1), (2, .int x2)]) hx hb d_M_isAlike_76 hl (by decide) rfl (fun ls hl => ?_)
            exact loop_78 (nc_mu 4 0 + 1) 0 1 ls (by rw [f_M_isAlike, if_pos c_448, if_neg c_449, if_pos c_450, if_pos c_451, if_pos c_452]) (Nat.lt_succ_self _) (by decide) rfl (lv_sub hl [2, 3, 4, 0, 1] rfl)
def f_M_alike (X : Nat → Nat → Int32) (x1 x2 : Int32) : Int32 × (Nat → Nat → Int32) := (if (f_M_noThing (upf X 0 (fun _ => 0)) x1) = 0 then (if (f_M_noThing (upf X 0 (fun _ => 0)) x2) = 0 then (if (f_M_isAlike (upf X 0 (fun _ => 0)) x1 x2) = 0 then (0, (upf X 0 (fun _ => 0))) else (1, (upf X 0 (fun _ => 0)))) else ((-1), (upf X 0 (fun _ => 0)))) else ((-1), (upf X 0 (fun _ => 0))))
abbrev ws_M_alike : List Cond := .code y_M_alike b_M_alike 3 (some .int) :: lw_G
abbrev rm_M_alike : Room := { frames := 2, cells := 0, slots := 0, locals := 43 }
set_option maxHeartbeats 4000000 in
set_option maxRecDepth 100000 in
theorem c_M_alike (l : Launch) (dC : Nat → ClassId) (dI : Nat → Nat → Nat) (cA cZ : ClassId) (sz : Nat) (a : Nat → Nat) (rv : Value) (X : Nat → Nat → Int32) (x1 x2 : Int32) (hmt : m_t X) : Met l y_M_alike ws_M_alike rm_M_alike (nc_PreZM (dC, dI) cA cZ sz [.ref (a 0), .int x1, .int x2] (w_M cA cZ a rv X)) (va_Qi (fun r (_ : Unit) => r = (f_M_alike X x1 x2).1) (fun _ t => va_P (dC, dI) classes (w_M cA cZ a rv (f_M_alike X x1 x2).2) t.heap ∧ va_D (va_A (w_M cA cZ a rv X) sz) (w_M cA cZ a rv (f_M_alike X x1 x2).2)) (va_A (w_M cA cZ a rv X) sz)) 0 0 (va_A (w_M cA cZ a rv X) sz) := by
  refine Met.ofW (cc := b_M_alike) (maxL := 3) (ret := (some .int)) (by decide) rfl ?_
  intro p e s m args below meth c s₁ B hml hv
  obtain ⟨rfl, hsz, hP, hK, hD0, hN⟩ := hv
  have hx := B.exec
  have hb := B.bytes
  have hr := B.returns
  have hts : ∀ w ∈ lw_G, w.before [.ref (a 0), .int x1, .int x2].toArray s = true := fun w h => atoms_spec (ws := ws_M_alike) B.pre w (List.mem_cons_of_mem _ h)
  have hown : s.vm.findClass R_M = some m.cls := findClass_of_methodNamed B.named
  have hlocks := B.notSynchronized
  have hfix : CallFix p m c b_M_alike 3 s [.ref (a 0), .int x1, .int x2].toArray lw_G R_M := ⟨hx, hb, hml, hown, hts⟩
  have hK1 := hK.sub (tys' := [(cA, .int)]) [0] rfl
  subst hsz
  have hD := hD0.self (sz := s.heap.size)
  generalize hAe : va_A (w_M cA cZ a rv X) s.heap.size = A at hD ⊢
  have hA : ∀ q : Nat, s.heap.size ≤ q → A q := fun q h => by rw [← hAe]; exact Or.inr h
  have hS : va_S A s.heap s.heap [] := va_S.rf
  have hl := lv_entry ([.ref (a 0), .int x1, .int x2]) (n := 3) (Nat.le_of_ble_eq_true rfl)
  rw [lg_entry_eq]
  generalize (lg_sl ([.ref (a 0), .int x1, .int x2]) ++ List.replicate (3 - (lg_sl ([.ref (a 0), .int x1, .int x2])).length) Slot.unset).toArray = ls at hl ⊢
  have hl : lv_has ls 3 [(0, .ref (a 0)), (1, .int x1), (2, .int x2)] := hl
  refine lv_aload_n hx hb d_M_alike_0 rfl (lv_at hl 0 rfl) ?_
  refine lv_iconst (v := 0) hx hb d_M_alike_1 (by decide) ?_
  refine va_put (D := (dC, dI)) (ci := 4) (v := .int 0) (ty := .int) (C := R_M) (T := F_M) (N := 39) hx hb hts i_M t_M t_M_ok n_M hown hK hP hD hS 0 rfl rfl 0 (by decide) (hts _ m_f_M_1) (fun _ h9 => h9) rfl (by decide +kernel) rfl rfl (Nat.le_of_ble_eq_true rfl) d_M_alike_2 (fun H locs hP hD hS => ?_)
  have hP : va_P (dC, dI) classes (w_M cA cZ a rv (upf X 0 (fun _ => 0))) H := hP
  have hD : va_D A (w_M cA cZ a rv (upf X 0 (fun _ => 0))) := hD
  refine lv_aload_n hx hb d_M_alike_5 rfl (lv_at hl 0 rfl) ?_
  refine lv_iload_n hx hb d_M_alike_6 rfl (lv_at hl 1 rfl) ?_
  refine nc_ro (va_runV (As := [.int x1]) (rest := []) hfix (c_M_noThing l dC dI cA cZ a rv (upf X 0 (fun _ => 0)) x1) (k_M_76 hts hN ⟨Nat.le_of_ble_eq_true rfl, Nat.le_of_ble_eq_true rfl⟩) (nc_preVZ hK hN hP hD rfl rfl) rfl rfl hl.1 rfl (lv_room (Nat.le_of_ble_eq_true rfl)) d_M_alike_7 ⟨Nat.zero_le _, Nat.zero_le _⟩) (fun r er => ?_)
  obtain ⟨rfl, hz_453⟩ := er
  refine lv_if_ne (tgt := 21) hx hb d_M_alike_10 (by decide) (fun c_454 => ?_) (fun c_454 => ?_)
  · refine lv_iconst (v := (-1)) hx hb d_M_alike_21 (by decide) ?_
    refine lv_goto (tgt := 39) hx hb d_M_alike_22 (by decide) ?_
    have hF : (f_M_alike X x1 x2) = ((-1), (upf X 0 (fun _ => 0))) := by rw [f_M_alike, if_neg c_454]
    exact W.iret (v := (-1)) hx hb hr (fun t ht hW => ⟨⟨(-1), (), rfl, by rw [hF], by rw [hF, ht]; exact hP, by rw [hF]; exact hD⟩, hS.F ht⟩) hS.2.2 d_M_alike_39
  · refine lv_aload_n hx hb d_M_alike_13 rfl (lv_at hl 0 rfl) ?_
    refine lv_iload_n hx hb d_M_alike_14 rfl (lv_at hl 2 rfl) ?_
    refine nc_ro (va_runV (As := [.int x2]) (rest := []) hfix (c_M_noThing l dC dI cA cZ a rv (upf X 0 (fun _ => 0)) x2) (k_M_76 hts hN ⟨Nat.le_of_ble_eq_true rfl, Nat.le_of_ble_eq_true rfl⟩) (nc_preVZ hK hN hP hD rfl rfl) rfl rfl hl.1 rfl (lv_room (Nat.le_of_ble_eq_true rfl)) d_M_alike_15 ⟨Nat.zero_le _, Nat.zero_le _⟩) (fun r er => ?_)
    obtain ⟨rfl, hz_455⟩ := er
    refine lv_if_eq (tgt := 25) hx hb d_M_alike_18 (by decide) (fun c_456 => ?_) (fun c_456 => ?_)
    · refine lv_aload_n hx hb d_M_alike_25 rfl (lv_at hl 0 rfl) ?_
      refine lv_iload_n hx hb d_M_alike_26 rfl (lv_at hl 1 rfl) ?_
      refine lv_iload_n hx hb d_M_alike_27 rfl (lv_at hl 2 rfl) ?_
      refine nc_ro (va_runV (As := [.int x1, .int x2]) (rest := []) hfix (c_M_isAlike l dC dI cA cZ a rv (upf X 0 (fun _ => 0)) x1 x2 (by have q0 := nc_eq c_454 rfl (L_0); have q1 := nc_eq c_456 rfl (L_0); have q2 := hmt.1; have q3 := hmt.2; have q4 := noThing_zero hmt c_454; have q5 := noThing_zero hmt c_456; exact ⟨by omega, by omega⟩) (by have q0 := nc_eq c_454 rfl (L_0); have q1 := nc_eq c_456 rfl (L_0); have q2 := hmt.1; have q3 := hmt.2; have q4 := noThing_zero hmt c_454; have q5 := noThing_zero hmt c_456; exact ⟨by omega, by omega⟩)) (k_M_84 hts hN ⟨Nat.le_of_ble_eq_true rfl, Nat.le_of_ble_eq_true rfl⟩) (nc_preVZ hK hN hP hD rfl rfl) rfl rfl hl.1 rfl (lv_room (Nat.le_of_ble_eq_true rfl)) d_M_alike_28 ⟨Nat.zero_le _, Nat.zero_le _⟩) (fun r er => ?_)
      obtain ⟨rfl, hz_457⟩ := er
      refine lv_if_eq (tgt := 38) hx hb d_M_alike_31 (by decide) (fun c_458 => ?_) (fun c_458 => ?_)
      · refine lv_iconst (v := 0) hx hb d_M_alike_38 (by decide) ?_
        have hF : (f_M_alike X x1 x2) = (0, (upf X 0 (fun _ => 0))) := by rw [f_M_alike, if_pos c_454, if_pos c_456, if_pos c_458]
        exact W.iret (v := 0) hx hb hr (fun t ht hW => ⟨⟨0, (), rfl, by rw [hF], by rw [hF, ht]; exact hP, by rw [hF]; exact hD⟩, hS.F ht⟩) hS.2.2 d_M_alike_39
      · refine lv_iconst (v := 1) hx hb d_M_alike_34 (by decide) ?_
        refine lv_goto (tgt := 39) hx hb d_M_alike_35 (by decide) ?_
        have hF : (f_M_alike X x1 x2) = (1, (upf X 0 (fun _ => 0))) := by rw [f_M_alike, if_pos c_454, if_pos c_456, if_neg c_458]
        exact W.iret (v := 1) hx hb hr (fun t ht hW => ⟨⟨1, (), rfl, by rw [hF], by rw [hF, ht]; exact hP, by rw [hF]; exact hD⟩, hS.F ht⟩) hS.2.2 d_M_alike_39
    · refine lv_iconst (v := (-1)) hx hb d_M_alike_21 (by decide) ?_
      refine lv_goto (tgt := 39) hx hb d_M_alike_22 (by decide) ?_
      have hF : (f_M_alike X x1 x2) = ((-1), (upf X 0 (fun _ => 0))) := by rw [f_M_alike, if_pos c_454, if_neg c_456]
      exact W.iret (v := (-1)) hx hb hr (fun t ht hW => ⟨⟨(-1), (), rfl, by rw [hF], by rw [hF, ht]; exact hP, by rw [hF]; exact hD⟩, hS.F ht⟩) hS.2.2 d_M_alike_39
def f_M_type (X : Nat → Nat → Int32) (x1 : Int32) : Int32 × (Nat → Nat → Int32) := (if (f_M_in x1 0 37) = 0 then (if (f_M_in x1 41 60) = 0 then ((-1), (upf X 0 (fun _ => 0))) else (if (X 11 0) = 30 then ((-3), (upf X 0 (fun _ => 0))) else (((X 11 0) + 1), (upf (upf (upf X 0 (fun _ => 0)) 10 (upd (X 10) ((X 11 0) : Int32).toNatClampNeg x1)) 11 (fun _ => ((X 11 0) + 1)))))) else (if (X 11 0) = 30 then ((-3), (upf X 0 (fun _ => 0))) else (((X 11 0) + 1), (upf (upf (upf X 0 (fun _ => 0)) 10 (upd (X 10) ((X 11 0) : Int32).toNatClampNeg x1)) 11 (fun _ => ((X 11 0) + 1))))))
abbrev ws_M_type : List Cond := .code y_M_type b_M_type 2 (some .int) :: lw_G
abbrev rm_M_type : Room := { frames := 1, cells := 0, slots := 0, locals := 22 }
set_option maxHeartbeats 4000000 in
set_option maxRecDepth 100000 in
theorem c_M_type (l : Launch) (dC : Nat → ClassId) (dI : Nat → Nat → Nat) (cA cZ : ClassId) (sz : Nat) (a : Nat → Nat) (rv : Value) (X : Nat → Nat → Int32) (x1 : Int32) (hms : 0 ≤ (X 11 0).toInt ∧ (X 11 0).toInt ≤ 30) : Met l y_M_type ws_M_type rm_M_type (nc_PreZM (dC, dI) cA cZ sz [.ref (a 0), .int x1] (w_M cA cZ a rv X)) (va_Qi (fun r (_ : Unit) => r = (f_M_type X x1).1) (fun _ t => va_P (dC, dI) classes (w_M cA cZ a rv (f_M_type X x1).2) t.heap ∧ va_D (va_A (w_M cA cZ a rv X) sz) (w_M cA cZ a rv (f_M_type X x1).2)) (va_A (w_M cA cZ a rv X) sz)) 0 0 (va_A (w_M cA cZ a rv X) sz) := by
  refine Met.ofW (cc := b_M_type) (maxL := 2) (ret := (some .int)) (by decide) rfl ?_
  intro p e s m args below meth c s₁ B hml hv
  obtain ⟨rfl, hsz, hP, hK, hD0, hN⟩ := hv
  have hx := B.exec
  have hb := B.bytes
  have hr := B.returns
  have hts : ∀ w ∈ lw_G, w.before [.ref (a 0), .int x1].toArray s = true := fun w h => atoms_spec (ws := ws_M_type) B.pre w (List.mem_cons_of_mem _ h)
  have hown : s.vm.findClass R_M = some m.cls := findClass_of_methodNamed B.named
  have hlocks := B.notSynchronized
  have hfix : CallFix p m c b_M_type 2 s [.ref (a 0), .int x1].toArray lw_G R_M := ⟨hx, hb, hml, hown, hts⟩
  have hK1 := hK.sub (tys' := [(cA, .int)]) [0] rfl
  subst hsz
  have hD := hD0.self (sz := s.heap.size)
  generalize hAe : va_A (w_M cA cZ a rv X) s.heap.size = A at hD ⊢
  have hA : ∀ q : Nat, s.heap.size ≤ q → A q := fun q h => by rw [← hAe]; exact Or.inr h
  have hS : va_S A s.heap s.heap [] := va_S.rf
  have hl := lv_entry ([.ref (a 0), .int x1]) (n := 2) (Nat.le_of_ble_eq_true rfl)
  rw [lg_entry_eq]
  generalize (lg_sl ([.ref (a 0), .int x1]) ++ List.replicate (2 - (lg_sl ([.ref (a 0), .int x1])).length) Slot.unset).toArray = ls at hl ⊢
  have hl : lv_has ls 2 [(0, .ref (a 0)), (1, .int x1)] := hl
  refine lv_aload_n hx hb d_M_type_0 rfl (lv_at hl 0 rfl) ?_
  refine lv_iconst (v := 0) hx hb d_M_type_1 (by decide) ?_
  refine va_put (D := (dC, dI)) (ci := 4) (v := .int 0) (ty := .int) (C := R_M) (T := F_M) (N := 39) hx hb hts i_M t_M t_M_ok n_M hown hK hP hD hS 0 rfl rfl 0 (by decide) (hts _ m_f_M_1) (fun _ h9 => h9) rfl (by decide +kernel) rfl rfl (Nat.le_of_ble_eq_true rfl) d_M_type_2 (fun H locs hP hD hS => ?_)
  have hP : va_P (dC, dI) classes (w_M cA cZ a rv (upf X 0 (fun _ => 0))) H := hP
  have hD : va_D A (w_M cA cZ a rv (upf X 0 (fun _ => 0))) := hD
  refine lv_iload_n hx hb d_M_type_5 rfl (lv_at hl 1 rfl) ?_
  refine lv_iconst (v := 0) hx hb d_M_type_6 (by decide) ?_
  refine lv_bipush (v := 37) hx hb d_M_type_7 (by decide) ?_
  refine nc_ro (va_runS (As := [.int x1, .int 0, .int 37]) (rest := []) hfix (c_M_in l dC dI cA x1 0 37) (k_M_72 hts hN ⟨Nat.le_of_ble_eq_true rfl, Nat.le_of_ble_eq_true rfl⟩) (nc_preS0 hK1 hN) rfl rfl hl.1 rfl (lv_room (Nat.le_of_ble_eq_true rfl)) d_M_type_9 ⟨Nat.zero_le _, Nat.zero_le _⟩) (fun r er => ?_)
  obtain ⟨rfl, hz_459⟩ := er
  refine lv_if_ne (tgt := 28) hx hb d_M_type_12 (by decide) (fun c_460 => ?_) (fun c_460 => ?_)
  · refine lv_aload_n hx hb d_M_type_28 rfl (lv_at hl 0 rfl) ?_
    refine va_get (D := (dC, dI)) (ci := 4) (v := .int (X 11 0)) (C := R_M) (T := F_M) (N := 39) hx hb hts i_M hown hK hP 0 rfl rfl 11 (by decide) (hts _ m_f_M_88) (fun _ h9 => h9) rfl d_M_type_29 ?_
    refine lv_bipush (v := 30) hx hb d_M_type_32 (by decide) ?_
    refine lv_icmp_ne (tgt := 40) hx hb d_M_type_34 (by decide) (fun c_461 => ?_) (fun c_461 => ?_)
    · refine lv_aload_n hx hb d_M_type_40 rfl (lv_at hl 0 rfl) ?_
      refine va_get (D := (dC, dI)) (ci := 4) (v := .ref (a 8)) (C := R_M) (T := F_M) (N := 39) hx hb hts i_M hown hK hP 0 rfl rfl 10 (by decide) (hts _ m_f_M_38) (fun _ h9 => h9) rfl d_M_type_41 ?_
      refine lv_aload_n hx hb d_M_type_44 rfl (lv_at hl 0 rfl) ?_
      refine va_get (D := (dC, dI)) (ci := 4) (v := .int (X 11 0)) (C := R_M) (T := F_M) (N := 39) hx hb hts i_M hown hK hP 0 rfl rfl 11 (by decide) (hts _ m_f_M_88) (fun _ h9 => h9) rfl d_M_type_45 ?_
      refine lv_iload_n hx hb d_M_type_48 rfl (lv_at hl 1 rfl) ?_
      refine va_iast (f := (X 10)) hx hb hK hP hD hS 8 0 rfl rfl (by have q0 := nc_ne c_460 rfl (L_0); have q1 := nc_ne c_461 rfl (L_30); have q2 := hms.1; have q3 := hms.2; have q4 := L_0; have q5 := L_37; have q6 := in_pos c_460; exact vp_in_iff.mpr ⟨by omega, by omega⟩) d_M_type_49 (fun H locs hP hD hS => ?_)
      have hP : va_P (dC, dI) classes (w_M cA cZ a rv (upf (upf X 0 (fun _ => 0)) 10 (upd (X 10) ((X 11 0) : Int32).toNatClampNeg x1))) H := hP
      have hD : va_D A (w_M cA cZ a rv (upf (upf X 0 (fun _ => 0)) 10 (upd (X 10) ((X 11 0) : Int32).toNatClampNeg x1))) := hD
      refine lv_aload_n hx hb d_M_type_50 rfl (lv_at hl 0 rfl) ?_
      refine lv_dup hx hb d_M_type_51 rfl ?_
      refine va_get (D := (dC, dI)) (ci := 4) (v := .int (X 11 0)) (C := R_M) (T := F_M) (N := 39) hx hb hts i_M hown hK hP 0 rfl rfl 11 (by decide) (hts _ m_f_M_88) (fun _ h9 => h9) rfl d_M_type_52 ?_
      refine lv_iconst (v := 1) hx hb d_M_type_55 (by decide) ?_
      refine lv_iadd hx hb d_M_type_56 ?_
      refine va_put (D := (dC, dI)) (ci := 4) (v := .int ((X 11 0) + 1)) (ty := .int) (C := R_M) (T := F_M) (N := 39) hx hb hts i_M t_M t_M_ok n_M hown hK hP hD hS 0 rfl rfl 11 (by decide) (hts _ m_f_M_88) (fun _ h9 => h9) rfl (by decide +kernel) rfl rfl (Nat.le_of_ble_eq_true rfl) d_M_type_57 (fun H locs hP hD hS => ?_)
      have hP : va_P (dC, dI) classes (w_M cA cZ a rv (upf (upf (upf X 0 (fun _ => 0)) 10 (upd (X 10) ((X 11 0) : Int32).toNatClampNeg x1)) 11 (fun _ => ((X 11 0) + 1)))) H := hP
      have hD : va_D A (w_M cA cZ a rv (upf (upf (upf X 0 (fun _ => 0)) 10 (upd (X 10) ((X 11 0) : Int32).toNatClampNeg x1)) 11 (fun _ => ((X 11 0) + 1)))) := hD
      refine lv_aload_n hx hb d_M_type_60 rfl (lv_at hl 0 rfl) ?_
      refine va_get (D := (dC, dI)) (ci := 4) (v := .int ((X 11 0) + 1)) (C := R_M) (T := F_M) (N := 39) hx hb hts i_M hown hK hP 0 rfl rfl 11 (by decide) (hts _ m_f_M_88) (fun _ h9 => h9) rfl d_M_type_61 ?_
      have hF : (f_M_type X x1) = (((X 11 0) + 1), (upf (upf (upf X 0 (fun _ => 0)) 10 (upd (X 10) ((X 11 0) : Int32).toNatClampNeg x1)) 11 (fun _ => ((X 11 0) + 1)))) := by rw [f_M_type, if_neg c_460, if_neg c_461]
      exact W.iret (v := ((X 11 0) + 1)) hx hb hr (fun t ht hW => ⟨⟨((X 11 0) + 1), (), rfl, by rw [hF], by rw [hF, ht]; exact hP, by rw [hF]; exact hD⟩, hS.F ht⟩) hS.2.2 d_M_type_64
    · refine lv_bipush (v := (-3)) hx hb d_M_type_37 (by decide) ?_
      have hF : (f_M_type X x1) = ((-3), (upf X 0 (fun _ => 0))) := by rw [f_M_type, if_neg c_460, if_pos c_461]
      exact W.iret (v := (-3)) hx hb hr (fun t ht hW => ⟨⟨(-3), (), rfl, by rw [hF], by rw [hF, ht]; exact hP, by rw [hF]; exact hD⟩, hS.F ht⟩) hS.2.2 d_M_type_39
  · refine lv_iload_n hx hb d_M_type_15 rfl (lv_at hl 1 rfl) ?_
    refine lv_bipush (v := 41) hx hb d_M_type_16 (by decide) ?_
    refine lv_bipush (v := 60) hx hb d_M_type_18 (by decide) ?_
    refine nc_ro (va_runS (As := [.int x1, .int 41, .int 60]) (rest := []) hfix (c_M_in l dC dI cA x1 41 60) (k_M_72 hts hN ⟨Nat.le_of_ble_eq_true rfl, Nat.le_of_ble_eq_true rfl⟩) (nc_preS0 hK1 hN) rfl rfl hl.1 rfl (lv_room (Nat.le_of_ble_eq_true rfl)) d_M_type_20 ⟨Nat.zero_le _, Nat.zero_le _⟩) (fun r er => ?_)
    obtain ⟨rfl, hz_462⟩ := er
    refine lv_if_ne (tgt := 28) hx hb d_M_type_23 (by decide) (fun c_463 => ?_) (fun c_463 => ?_)
    · refine lv_aload_n hx hb d_M_type_28 rfl (lv_at hl 0 rfl) ?_
      refine va_get (D := (dC, dI)) (ci := 4) (v := .int (X 11 0)) (C := R_M) (T := F_M) (N := 39) hx hb hts i_M hown hK hP 0 rfl rfl 11 (by decide) (hts _ m_f_M_88) (fun _ h9 => h9) rfl d_M_type_29 ?_
      refine lv_bipush (v := 30) hx hb d_M_type_32 (by decide) ?_
      refine lv_icmp_ne (tgt := 40) hx hb d_M_type_34 (by decide) (fun c_464 => ?_) (fun c_464 => ?_)
      · refine lv_aload_n hx hb d_M_type_40 rfl (lv_at hl 0 rfl) ?_
        refine va_get (D := (dC, dI)) (ci := 4) (v := .ref (a 8)) (C := R_M) (T := F_M) (N := 39) hx hb hts i_M hown hK hP 0 rfl rfl 10 (by decide) (hts _ m_f_M_38) (fun _ h9 => h9) rfl d_M_type_41 ?_
        refine lv_aload_n hx hb d_M_type_44 rfl (lv_at hl 0 rfl) ?_
        refine va_get (D := (dC, dI)) (ci := 4) (v := .int (X 11 0)) (C := R_M) (T := F_M) (N := 39) hx hb hts i_M hown hK hP 0 rfl rfl 11 (by decide) (hts _ m_f_M_88) (fun _ h9 => h9) rfl d_M_type_45 ?_
        refine lv_iload_n hx hb d_M_type_48 rfl (lv_at hl 1 rfl) ?_
        refine va_iast (f := (X 10)) hx hb hK hP hD hS 8 0 rfl rfl (by have q0 := nc_eq c_460 rfl (L_0); have q1 := nc_ne c_463 rfl (L_0); have q2 := nc_ne c_464 rfl (L_30); have q3 := hms.1; have q4 := hms.2; have q5 := L_41; have q6 := L_60; have q7 := in_pos c_463; exact vp_in_iff.mpr ⟨by omega, by omega⟩) d_M_type_49 (fun H locs hP hD hS => ?_)
        have hP : va_P (dC, dI) classes (w_M cA cZ a rv (upf (upf X 0 (fun _ => 0)) 10 (upd (X 10) ((X 11 0) : Int32).toNatClampNeg x1))) H := hP
        have hD : va_D A (w_M cA cZ a rv (upf (upf X 0 (fun _ => 0)) 10 (upd (X 10) ((X 11 0) : Int32).toNatClampNeg x1))) := hD
        refine lv_aload_n hx hb d_M_type_50 rfl (lv_at hl 0 rfl) ?_
        refine lv_dup hx hb d_M_type_51 rfl ?_
        refine va_get (D := (dC, dI)) (ci := 4) (v := .int (X 11 0)) (C := R_M) (T := F_M) (N := 39) hx hb hts i_M hown hK hP 0 rfl rfl 11 (by decide) (hts _ m_f_M_88) (fun _ h9 => h9) rfl d_M_type_52 ?_
        refine lv_iconst (v := 1) hx hb d_M_type_55 (by decide) ?_
        refine lv_iadd hx hb d_M_type_56 ?_
        refine va_put (D := (dC, dI)) (ci := 4) (v := .int ((X 11 0) + 1)) (ty := .int) (C := R_M) (T := F_M) (N := 39) hx hb hts i_M t_M t_M_ok n_M hown hK hP hD hS 0 rfl rfl 11 (by decide) (hts _ m_f_M_88) (fun _ h9 => h9) rfl (by decide +kernel) rfl rfl (Nat.le_of_ble_eq_true rfl) d_M_type_57 (fun H locs hP hD hS => ?_)
        have hP : va_P (dC, dI) classes (w_M cA cZ a rv (upf (upf (upf X 0 (fun _ => 0)) 10 (upd (X 10) ((X 11 0) : Int32).toNatClampNeg x1)) 11 (fun _ => ((X 11 0) + 1)))) H := hP
        have hD : va_D A (w_M cA cZ a rv (upf (upf (upf X 0 (fun _ => 0)) 10 (upd (X 10) ((X 11 0) : Int32).toNatClampNeg x1)) 11 (fun _ => ((X 11 0) + 1)))) := hD
        refine lv_aload_n hx hb d_M_type_60 rfl (lv_at hl 0 rfl) ?_
        refine va_get (D := (dC, dI)) (ci := 4) (v := .int ((X 11 0) + 1)) (C := R_M) (T := F_M) (N := 39) hx hb hts i_M hown hK hP 0 rfl rfl 11 (by decide) (hts _ m_f_M_88) (fun _ h9 => h9) rfl d_M_type_61 ?_
        have hF : (f_M_type X x1) = (((X 11 0) + 1), (upf (upf (upf X 0 (fun _ => 0)) 10 (upd (X 10) ((X 11 0) : Int32).toNatClampNeg x1)) 11 (fun _ => ((X 11 0) + 1)))) := by rw [f_M_type, if_pos c_460, if_neg c_463, if_neg c_464]
        exact W.iret (v := ((X 11 0) + 1)) hx hb hr (fun t ht hW => ⟨⟨((X 11 0) + 1), (), rfl, by rw [hF], by rw [hF, ht]; exact hP, by rw [hF]; exact hD⟩, hS.F ht⟩) hS.2.2 d_M_type_64
      · refine lv_bipush (v := (-3)) hx hb d_M_type_37 (by decide) ?_
        have hF : (f_M_type X x1) = ((-3), (upf X 0 (fun _ => 0))) := by rw [f_M_type, if_pos c_460, if_neg c_463, if_pos c_464]
        exact W.iret (v := (-3)) hx hb hr (fun t ht hW => ⟨⟨(-3), (), rfl, by rw [hF], by rw [hF, ht]; exact hP, by rw [hF]; exact hD⟩, hS.F ht⟩) hS.2.2 d_M_type_39
    · refine lv_iconst (v := (-1)) hx hb d_M_type_26 (by decide) ?_
      have hF : (f_M_type X x1) = ((-1), (upf X 0 (fun _ => 0))) := by rw [f_M_type, if_pos c_460, if_pos c_463]
      exact W.iret (v := (-1)) hx hb hr (fun t ht hW => ⟨⟨(-1), (), rfl, by rw [hF], by rw [hF, ht]; exact hP, by rw [hF]; exact hD⟩, hS.F ht⟩) hS.2.2 d_M_type_27
def f_M_wipe (X : Nat → Nat → Int32) : Int32 × (Nat → Nat → Int32) := ((X 11 0), (upf (upf X 0 (fun _ => 0)) 11 (fun _ => 0)))
abbrev ws_M_wipe : List Cond := .code y_M_wipe b_M_wipe 2 (some .int) :: lw_G
abbrev rm_M_wipe : Room := { frames := 0, cells := 0, slots := 0, locals := 0 }
set_option maxHeartbeats 4000000 in
set_option maxRecDepth 100000 in
theorem c_M_wipe (l : Launch) (dC : Nat → ClassId) (dI : Nat → Nat → Nat) (cA cZ : ClassId) (sz : Nat) (a : Nat → Nat) (rv : Value) (X : Nat → Nat → Int32) : Met l y_M_wipe ws_M_wipe rm_M_wipe (nc_PreZM (dC, dI) cA cZ sz [.ref (a 0)] (w_M cA cZ a rv X)) (va_Qi (fun r (_ : Unit) => r = (f_M_wipe X).1) (fun _ t => va_P (dC, dI) classes (w_M cA cZ a rv (f_M_wipe X).2) t.heap ∧ va_D (va_A (w_M cA cZ a rv X) sz) (w_M cA cZ a rv (f_M_wipe X).2)) (va_A (w_M cA cZ a rv X) sz)) 0 0 (va_A (w_M cA cZ a rv X) sz) := by
  refine Met.ofW (cc := b_M_wipe) (maxL := 2) (ret := (some .int)) (by decide) rfl ?_
  intro p e s m args below meth c s₁ B hml hv
  obtain ⟨rfl, hsz, hP, hK, hD0, hN⟩ := hv
  have hx := B.exec
  have hb := B.bytes
  have hr := B.returns
  have hts : ∀ w ∈ lw_G, w.before [.ref (a 0)].toArray s = true := fun w h => atoms_spec (ws := ws_M_wipe) B.pre w (List.mem_cons_of_mem _ h)
  have hown : s.vm.findClass R_M = some m.cls := findClass_of_methodNamed B.named
  have hlocks := B.notSynchronized
  have hfix : CallFix p m c b_M_wipe 2 s [.ref (a 0)].toArray lw_G R_M := ⟨hx, hb, hml, hown, hts⟩
  have hK1 := hK.sub (tys' := [(cA, .int)]) [0] rfl
  subst hsz
  have hD := hD0.self (sz := s.heap.size)
  generalize hAe : va_A (w_M cA cZ a rv X) s.heap.size = A at hD ⊢
  have hA : ∀ q : Nat, s.heap.size ≤ q → A q := fun q h => by rw [← hAe]; exact Or.inr h
  have hS : va_S A s.heap s.heap [] := va_S.rf
  have hl := lv_entry ([.ref (a 0)]) (n := 2) (Nat.le_of_ble_eq_true rfl)
  rw [lg_entry_eq]
  generalize (lg_sl ([.ref (a 0)]) ++ List.replicate (2 - (lg_sl ([.ref (a 0)])).length) Slot.unset).toArray = ls at hl ⊢
  have hl : lv_has ls 2 [(0, .ref (a 0))] := hl
  refine lv_aload_n hx hb d_M_wipe_0 rfl (lv_at hl 0 rfl) ?_
  refine lv_iconst (v := 0) hx hb d_M_wipe_1 (by decide) ?_
  refine va_put (D := (dC, dI)) (ci := 4) (v := .int 0) (ty := .int) (C := R_M) (T := F_M) (N := 39) hx hb hts i_M t_M t_M_ok n_M hown hK hP hD hS 0 rfl rfl 0 (by decide) (hts _ m_f_M_1) (fun _ h9 => h9) rfl (by decide +kernel) rfl rfl (Nat.le_of_ble_eq_true rfl) d_M_wipe_2 (fun H locs hP hD hS => ?_)
  have hP : va_P (dC, dI) classes (w_M cA cZ a rv (upf X 0 (fun _ => 0))) H := hP
  have hD : va_D A (w_M cA cZ a rv (upf X 0 (fun _ => 0))) := hD
  refine lv_aload_n hx hb d_M_wipe_5 rfl (lv_at hl 0 rfl) ?_
  refine va_get (D := (dC, dI)) (ci := 4) (v := .int (X 11 0)) (C := R_M) (T := F_M) (N := 39) hx hb hts i_M hown hK hP 0 rfl rfl 11 (by decide) (hts _ m_f_M_88) (fun _ h9 => h9) rfl d_M_wipe_6 ?_
  refine lv_istore_n (lv' := [(1, .int (X 11 0)), (0, .ref (a 0))]) hx hb d_M_wipe_9 rfl hl (by decide) rfl (fun ls hl => ?_)
  refine lv_aload_n hx hb d_M_wipe_10 rfl (lv_at hl 1 rfl) ?_
  refine lv_iconst (v := 0) hx hb d_M_wipe_11 (by decide) ?_
  refine va_put (D := (dC, dI)) (ci := 4) (v := .int 0) (ty := .int) (C := R_M) (T := F_M) (N := 39) hx hb hts i_M t_M t_M_ok n_M hown hK hP hD hS 0 rfl rfl 11 (by decide) (hts _ m_f_M_88) (fun _ h9 => h9) rfl (by decide +kernel) rfl rfl (Nat.le_of_ble_eq_true rfl) d_M_wipe_12 (fun H locs hP hD hS => ?_)
  have hP : va_P (dC, dI) classes (w_M cA cZ a rv (upf (upf X 0 (fun _ => 0)) 11 (fun _ => 0))) H := hP
  have hD : va_D A (w_M cA cZ a rv (upf (upf X 0 (fun _ => 0)) 11 (fun _ => 0))) := hD
  refine lv_iload_n hx hb d_M_wipe_15 rfl (lv_at hl 0 rfl) ?_
  have hF : (f_M_wipe X) = ((X 11 0), (upf (upf X 0 (fun _ => 0)) 11 (fun _ => 0))) := by rw [f_M_wipe]
  exact W.iret (v := (X 11 0)) hx hb hr (fun t ht hW => ⟨⟨(X 11 0), (), rfl, by rw [hF], by rw [hF, ht]; exact hP, by rw [hF]; exact hD⟩, hS.F ht⟩) hS.2.2 d_M_wipe_16
def f_M_told (X : Nat → Nat → Int32) (x1 : Int32) : Int32 × (Nat → Nat → Int32) := (if x1 = 0 then ((X 35 0), (upf X 0 (fun _ => 0))) else (if x1 = 1 then ((X 36 0), (upf X 0 (fun _ => 0))) else (if x1 = 2 then ((X 37 0), (upf X 0 (fun _ => 0))) else ((-1), (upf X 0 (fun _ => 0))))))
abbrev ws_M_told : List Cond := .code y_M_told b_M_told 2 (some .int) :: lw_G
abbrev rm_M_told : Room := { frames := 0, cells := 0, slots := 0, locals := 0 }
set_option maxHeartbeats 4000000 in
set_option maxRecDepth 100000 in
theorem c_M_told (l : Launch) (dC : Nat → ClassId) (dI : Nat → Nat → Nat) (cA cZ : ClassId) (sz : Nat) (a : Nat → Nat) (rv : Value) (X : Nat → Nat → Int32) (x1 : Int32) : Met l y_M_told ws_M_told rm_M_told (nc_PreZM (dC, dI) cA cZ sz [.ref (a 0), .int x1] (w_M cA cZ a rv X)) (va_Qi (fun r (_ : Unit) => r = (f_M_told X x1).1) (fun _ t => va_P (dC, dI) classes (w_M cA cZ a rv (f_M_told X x1).2) t.heap ∧ va_D (va_A (w_M cA cZ a rv X) sz) (w_M cA cZ a rv (f_M_told X x1).2)) (va_A (w_M cA cZ a rv X) sz)) 0 0 (va_A (w_M cA cZ a rv X) sz) := by
  refine Met.ofW (cc := b_M_told) (maxL := 2) (ret := (some .int)) (by decide) rfl ?_
  intro p e s m args below meth c s₁ B hml hv
  obtain ⟨rfl, hsz, hP, hK, hD0, hN⟩ := hv
  have hx := B.exec
  have hb := B.bytes
  have hr := B.returns
  have hts : ∀ w ∈ lw_G, w.before [.ref (a 0), .int x1].toArray s = true := fun w h => atoms_spec (ws := ws_M_told) B.pre w (List.mem_cons_of_mem _ h)
  have hown : s.vm.findClass R_M = some m.cls := findClass_of_methodNamed B.named
  have hlocks := B.notSynchronized
  have hfix : CallFix p m c b_M_told 2 s [.ref (a 0), .int x1].toArray lw_G R_M := ⟨hx, hb, hml, hown, hts⟩
  have hK1 := hK.sub (tys' := [(cA, .int)]) [0] rfl
  subst hsz
  have hD := hD0.self (sz := s.heap.size)
  generalize hAe : va_A (w_M cA cZ a rv X) s.heap.size = A at hD ⊢
  have hA : ∀ q : Nat, s.heap.size ≤ q → A q := fun q h => by rw [← hAe]; exact Or.inr h
  have hS : va_S A s.heap s.heap [] := va_S.rf
  have hl := lv_entry ([.ref (a 0), .int x1]) (n := 2) (Nat.le_of_ble_eq_true rfl)
  rw [lg_entry_eq]
  generalize (lg_sl ([.ref (a 0), .int x1]) ++ List.replicate (2 - (lg_sl ([.ref (a 0), .int x1])).length) Slot.unset).toArray = ls at hl ⊢
  have hl : lv_has ls 2 [(0, .ref (a 0)), (1, .int x1)] := hl
  refine lv_aload_n hx hb d_M_told_0 rfl (lv_at hl 0 rfl) ?_
  refine lv_iconst (v := 0) hx hb d_M_told_1 (by decide) ?_
  refine va_put (D := (dC, dI)) (ci := 4) (v := .int 0) (ty := .int) (C := R_M) (T := F_M) (N := 39) hx hb hts i_M t_M t_M_ok n_M hown hK hP hD hS 0 rfl rfl 0 (by decide) (hts _ m_f_M_1) (fun _ h9 => h9) rfl (by decide +kernel) rfl rfl (Nat.le_of_ble_eq_true rfl) d_M_told_2 (fun H locs hP hD hS => ?_)
  have hP : va_P (dC, dI) classes (w_M cA cZ a rv (upf X 0 (fun _ => 0))) H := hP
  have hD : va_D A (w_M cA cZ a rv (upf X 0 (fun _ => 0))) := hD
  refine lv_iload_n hx hb d_M_told_5 rfl (lv_at hl 1 rfl) ?_
  refine lv_if_ne (tgt := 16) hx hb d_M_told_6 (by decide) (fun c_465 => ?_) (fun c_465 => ?_)
  · refine lv_iload_n hx hb d_M_told_16 rfl (lv_at hl 1 rfl) ?_
    refine lv_iconst (v := 1) hx hb d_M_told_17 (by decide) ?_
    refine lv_icmp_ne (tgt := 28) hx hb d_M_told_18 (by decide) (fun c_466 => ?_) (fun c_466 => ?_)
    · refine lv_iload_n hx hb d_M_told_28 rfl (lv_at hl 1 rfl) ?_
      refine lv_iconst (v := 2) hx hb d_M_told_29 (by decide) ?_
      refine lv_icmp_ne (tgt := 40) hx hb d_M_told_30 (by decide) (fun c_467 => ?_) (fun c_467 => ?_)
      · refine lv_iconst (v := (-1)) hx hb d_M_told_40 (by decide) ?_
        have hF : (f_M_told X x1) = ((-1), (upf X 0 (fun _ => 0))) := by rw [f_M_told, if_neg c_465, if_neg c_466, if_neg c_467]
        exact W.iret (v := (-1)) hx hb hr (fun t ht hW => ⟨⟨(-1), (), rfl, by rw [hF], by rw [hF, ht]; exact hP, by rw [hF]; exact hD⟩, hS.F ht⟩) hS.2.2 d_M_told_41
      · refine lv_aload_n hx hb d_M_told_33 rfl (lv_at hl 0 rfl) ?_
        refine va_get (D := (dC, dI)) (ci := 4) (v := .int (X 37 0)) (C := R_M) (T := F_M) (N := 39) hx hb hts i_M hown hK hP 0 rfl rfl 37 (by decide) (hts _ m_f_M_66) (fun _ h9 => h9) rfl d_M_told_34 ?_
        refine lv_goto (tgt := 41) hx hb d_M_told_37 (by decide) ?_
        have hF : (f_M_told X x1) = ((X 37 0), (upf X 0 (fun _ => 0))) := by rw [f_M_told, if_neg c_465, if_neg c_466, if_pos c_467]
        exact W.iret (v := (X 37 0)) hx hb hr (fun t ht hW => ⟨⟨(X 37 0), (), rfl, by rw [hF], by rw [hF, ht]; exact hP, by rw [hF]; exact hD⟩, hS.F ht⟩) hS.2.2 d_M_told_41
    · refine lv_aload_n hx hb d_M_told_21 rfl (lv_at hl 0 rfl) ?_
      refine va_get (D := (dC, dI)) (ci := 4) (v := .int (X 36 0)) (C := R_M) (T := F_M) (N := 39) hx hb hts i_M hown hK hP 0 rfl rfl 36 (by decide) (hts _ m_f_M_63) (fun _ h9 => h9) rfl d_M_told_22 ?_
      refine lv_goto (tgt := 41) hx hb d_M_told_25 (by decide) ?_
      have hF : (f_M_told X x1) = ((X 36 0), (upf X 0 (fun _ => 0))) := by rw [f_M_told, if_neg c_465, if_pos c_466]
      exact W.iret (v := (X 36 0)) hx hb hr (fun t ht hW => ⟨⟨(X 36 0), (), rfl, by rw [hF], by rw [hF, ht]; exact hP, by rw [hF]; exact hD⟩, hS.F ht⟩) hS.2.2 d_M_told_41
  · refine lv_aload_n hx hb d_M_told_9 rfl (lv_at hl 0 rfl) ?_
    refine va_get (D := (dC, dI)) (ci := 4) (v := .int (X 35 0)) (C := R_M) (T := F_M) (N := 39) hx hb hts i_M hown hK hP 0 rfl rfl 35 (by decide) (hts _ m_f_M_60) (fun _ h9 => h9) rfl d_M_told_10 ?_
    refine lv_goto (tgt := 41) hx hb d_M_told_13 (by decide) ?_
    have hF : (f_M_told X x1) = ((X 35 0), (upf X 0 (fun _ => 0))) := by rw [f_M_told, if_pos c_465]
    exact W.iret (v := (X 35 0)) hx hb hr (fun t ht hW => ⟨⟨(X 35 0), (), rfl, by rw [hF], by rw [hF, ht]; exact hP, by rw [hF]; exact hD⟩, hS.F ht⟩) hS.2.2 d_M_told_41
def f_M_chosen (X : Nat → Nat → Int32) (x1 : Int32) : Int32 × (Nat → Nat → Int32) := (if (f_M_in x1 (-1) ((X 33 0) - 1)) = 0 then ((-1), (upf X 0 (fun _ => 0))) else (if 0 ≤ x1 then (((X 32) x1.toNatClampNeg), (upf X 0 (fun _ => 0))) else ((X 33 0), (upf X 0 (fun _ => 0)))))
abbrev ws_M_chosen : List Cond := .code y_M_chosen b_M_chosen 2 (some .int) :: lw_G
abbrev rm_M_chosen : Room := { frames := 1, cells := 0, slots := 0, locals := 22 }
set_option maxHeartbeats 4000000 in
set_option maxRecDepth 100000 in
theorem c_M_chosen (l : Launch) (dC : Nat → ClassId) (dI : Nat → Nat → Nat) (cA cZ : ClassId) (sz : Nat) (a : Nat → Nat) (rv : Value) (X : Nat → Nat → Int32) (x1 : Int32) (hmc : 0 ≤ (X 33 0).toInt ∧ (X 33 0).toInt ≤ 32) : Met l y_M_chosen ws_M_chosen rm_M_chosen (nc_PreZM (dC, dI) cA cZ sz [.ref (a 0), .int x1] (w_M cA cZ a rv X)) (va_Qi (fun r (_ : Unit) => r = (f_M_chosen X x1).1) (fun _ t => va_P (dC, dI) classes (w_M cA cZ a rv (f_M_chosen X x1).2) t.heap ∧ va_D (va_A (w_M cA cZ a rv X) sz) (w_M cA cZ a rv (f_M_chosen X x1).2)) (va_A (w_M cA cZ a rv X) sz)) 0 0 (va_A (w_M cA cZ a rv X) sz) := by
  refine Met.ofW (cc := b_M_chosen) (maxL := 2) (ret := (some .int)) (by decide) rfl ?_
  intro p e s m args below meth c s₁ B hml hv
  obtain ⟨rfl, hsz, hP, hK, hD0, hN⟩ := hv
  have hx := B.exec
  have hb := B.bytes
  have hr := B.returns
  have hts : ∀ w ∈ lw_G, w.before [.ref (a 0), .int x1].toArray s = true := fun w h => atoms_spec (ws := ws_M_chosen) B.pre w (List.mem_cons_of_mem _ h)
  have hown : s.vm.findClass R_M = some m.cls := findClass_of_methodNamed B.named
  have hlocks := B.notSynchronized
  have hfix : CallFix p m c b_M_chosen 2 s [.ref (a 0), .int x1].toArray lw_G R_M := ⟨hx, hb, hml, hown, hts⟩
  have hK1 := hK.sub (tys' := [(cA, .int)]) [0] rfl
  subst hsz
  have hD := hD0.self (sz := s.heap.size)
  generalize hAe : va_A (w_M cA cZ a rv X) s.heap.size = A at hD ⊢
  have hA : ∀ q : Nat, s.heap.size ≤ q → A q := fun q h => by rw [← hAe]; exact Or.inr h
  have hS : va_S A s.heap s.heap [] := va_S.rf
  have hl := lv_entry ([.ref (a 0), .int x1]) (n := 2) (Nat.le_of_ble_eq_true rfl)
  rw [lg_entry_eq]
  generalize (lg_sl ([.ref (a 0), .int x1]) ++ List.replicate (2 - (lg_sl ([.ref (a 0), .int x1])).length) Slot.unset).toArray = ls at hl ⊢
  have hl : lv_has ls 2 [(0, .ref (a 0)), (1, .int x1)] := hl
  refine lv_aload_n hx hb d_M_chosen_0 rfl (lv_at hl 0 rfl) ?_
  refine lv_iconst (v := 0) hx hb d_M_chosen_1 (by decide) ?_
  refine va_put (D := (dC, dI)) (ci := 4) (v := .int 0) (ty := .int) (C := R_M) (T := F_M) (N := 39) hx hb hts i_M t_M t_M_ok n_M hown hK hP hD hS 0 rfl rfl 0 (by decide) (hts _ m_f_M_1) (fun _ h9 => h9) rfl (by decide +kernel) rfl rfl (Nat.le_of_ble_eq_true rfl) d_M_chosen_2 (fun H locs hP hD hS => ?_)
  have hP : va_P (dC, dI) classes (w_M cA cZ a rv (upf X 0 (fun _ => 0))) H := hP
  have hD : va_D A (w_M cA cZ a rv (upf X 0 (fun _ => 0))) := hD
  refine lv_iload_n hx hb d_M_chosen_5 rfl (lv_at hl 1 rfl) ?_
  refine lv_iconst (v := (-1)) hx hb d_M_chosen_6 (by decide) ?_
  refine lv_aload_n hx hb d_M_chosen_7 rfl (lv_at hl 0 rfl) ?_
  refine va_get (D := (dC, dI)) (ci := 4) (v := .int (X 33 0)) (C := R_M) (T := F_M) (N := 39) hx hb hts i_M hown hK hP 0 rfl rfl 33 (by decide) (hts _ m_f_M_195) (fun _ h9 => h9) rfl d_M_chosen_8 ?_
  refine lv_iconst (v := 1) hx hb d_M_chosen_11 (by decide) ?_
  refine lv_isub hx hb d_M_chosen_12 ?_
  refine nc_ro (va_runS (As := [.int x1, .int (-1), .int ((X 33 0) - 1)]) (rest := []) hfix (c_M_in l dC dI cA x1 (-1) ((X 33 0) - 1)) (k_M_72 hts hN ⟨Nat.le_of_ble_eq_true rfl, Nat.le_of_ble_eq_true rfl⟩) (nc_preS0 hK1 hN) rfl rfl hl.1 rfl (lv_room (Nat.le_of_ble_eq_true rfl)) d_M_chosen_13 ⟨Nat.zero_le _, Nat.zero_le _⟩) (fun r er => ?_)
  obtain ⟨rfl, hz_468⟩ := er
  refine lv_if_ne (tgt := 23) hx hb d_M_chosen_16 (by decide) (fun c_469 => ?_) (fun c_469 => ?_)
  · refine lv_iload_n hx hb d_M_chosen_23 rfl (lv_at hl 1 rfl) ?_
    refine lv_if_ge (tgt := 34) hx hb d_M_chosen_24 (by decide) (fun c_470 => ?_) (fun c_470 => ?_)
    · refine lv_aload_n hx hb d_M_chosen_34 rfl (lv_at hl 0 rfl) ?_
      refine va_get (D := (dC, dI)) (ci := 4) (v := .ref (a 13)) (C := R_M) (T := F_M) (N := 39) hx hb hts i_M hown hK hP 0 rfl rfl 32 (by decide) (hts _ m_f_M_54) (fun _ h9 => h9) rfl d_M_chosen_35 ?_
      refine lv_iload_n hx hb d_M_chosen_38 rfl (lv_at hl 1 rfl) ?_
      refine va_iald (f := (X 32)) hx hb hK hP 13 0 rfl rfl (by have q0 := nc_ne c_469 rfl (L_0); have q1 := nc_le c_470 (L_0) rfl; have q2 := hmc.1; have q3 := hmc.2; have q4 := (nc_sub1 hmc.1); have q5 := L_m1; have q6 := L_33; have q7 := L_0; have q8 := L_1; have q9 := in_pos c_469; exact vp_in_iff.mpr ⟨by omega, by omega⟩) d_M_chosen_39 ?_
      have hF : (f_M_chosen X x1) = (((X 32) x1.toNatClampNeg), (upf X 0 (fun _ => 0))) := by rw [f_M_chosen, if_neg c_469, if_pos c_470]
      exact W.iret (v := ((X 32) x1.toNatClampNeg)) hx hb hr (fun t ht hW => ⟨⟨((X 32) x1.toNatClampNeg), (), rfl, by rw [hF], by rw [hF, ht]; exact hP, by rw [hF]; exact hD⟩, hS.F ht⟩) hS.2.2 d_M_chosen_40
    · refine lv_aload_n hx hb d_M_chosen_27 rfl (lv_at hl 0 rfl) ?_
      refine va_get (D := (dC, dI)) (ci := 4) (v := .int (X 33 0)) (C := R_M) (T := F_M) (N := 39) hx hb hts i_M hown hK hP 0 rfl rfl 33 (by decide) (hts _ m_f_M_195) (fun _ h9 => h9) rfl d_M_chosen_28 ?_
      refine lv_goto (tgt := 40) hx hb d_M_chosen_31 (by decide) ?_
      have hF : (f_M_chosen X x1) = ((X 33 0), (upf X 0 (fun _ => 0))) := by rw [f_M_chosen, if_neg c_469, if_neg c_470]
      exact W.iret (v := (X 33 0)) hx hb hr (fun t ht hW => ⟨⟨(X 33 0), (), rfl, by rw [hF], by rw [hF, ht]; exact hP, by rw [hF]; exact hD⟩, hS.F ht⟩) hS.2.2 d_M_chosen_40
  · refine lv_iconst (v := (-1)) hx hb d_M_chosen_19 (by decide) ?_
    refine lv_goto (tgt := 40) hx hb d_M_chosen_20 (by decide) ?_
    have hF : (f_M_chosen X x1) = ((-1), (upf X 0 (fun _ => 0))) := by rw [f_M_chosen, if_pos c_469]
    exact W.iret (v := (-1)) hx hb hr (fun t ht hW => ⟨⟨(-1), (), rfl, by rw [hF], by rw [hF, ht]; exact hP, by rw [hF]; exact hD⟩, hS.F ht⟩) hS.2.2 d_M_chosen_40
