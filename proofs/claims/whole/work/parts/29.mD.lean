def f_M_tell (X : Nat → Nat → Int32) (x1 x2 x3 : Int32) : (Nat → Nat → Int32) := (upf (upf (upf X 35 (fun _ => x1)) 36 (fun _ => x2)) 37 (fun _ => x3))
abbrev ws_M_tell : List Cond := .code y_M_tell b_M_tell 4 none :: lw_G
abbrev rm_M_tell : Room := { frames := 0, cells := 0, slots := 0, locals := 0 }
set_option maxHeartbeats 4000000 in
set_option maxRecDepth 100000 in
theorem c_M_tell (l : Launch) (dC : Nat → ClassId) (dI : Nat → Nat → Nat) (cA cZ : ClassId) (sz : Nat) (a : Nat → Nat) (rv : Value) (X : Nat → Nat → Int32) (x1 x2 x3 : Int32) : Met l y_M_tell ws_M_tell rm_M_tell (nc_PreZM (dC, dI) cA cZ sz [.ref (a 0), .int x1, .int x2, .int x3] (w_M cA cZ a rv X)) (va_Qv (fun _ : Unit => True) (fun _ t => va_P (dC, dI) classes (w_M cA cZ a rv (f_M_tell X x1 x2 x3)) t.heap ∧ va_D (va_A (w_M cA cZ a rv X) sz) (w_M cA cZ a rv (f_M_tell X x1 x2 x3))) (va_A (w_M cA cZ a rv X) sz)) 0 0 (va_A (w_M cA cZ a rv X) sz) := by
  refine Met.ofW (cc := b_M_tell) (maxL := 4) (ret := none) (by decide) rfl ?_
  intro p e s m args below meth c s₁ B hml hv
  obtain ⟨rfl, hsz, hP, hK, hD0, hN⟩ := hv
  have hx := B.exec
  have hb := B.bytes
  have hr := B.returns
  have hts : ∀ w ∈ lw_G, w.before [.ref (a 0), .int x1, .int x2, .int x3].toArray s = true := fun w h => atoms_spec (ws := ws_M_tell) B.pre w (List.mem_cons_of_mem _ h)
  have hown : s.vm.findClass R_M = some m.cls := findClass_of_methodNamed B.named
  have hlocks := B.notSynchronized
  have hfix : CallFix p m c b_M_tell 4 s [.ref (a 0), .int x1, .int x2, .int x3].toArray lw_G R_M := ⟨hx, hb, hml, hown, hts⟩
  have hK1 := hK.sub (tys' := [(cA, .int)]) [0] rfl
  subst hsz
  have hD := hD0.self (sz := s.heap.size)
  generalize hAe : va_A (w_M cA cZ a rv X) s.heap.size = A at hD ⊢
  have hA : ∀ q : Nat, s.heap.size ≤ q → A q := fun q h => by rw [← hAe]; exact Or.inr h
  have hS : va_S A s.heap s.heap [] := va_S.rf
  have hl := lv_entry ([.ref (a 0), .int x1, .int x2, .int x3]) (n := 4) (Nat.le_of_ble_eq_true rfl)
  rw [lg_entry_eq]
  generalize (lg_sl ([.ref (a 0), .int x1, .int x2, .int x3]) ++ List.replicate (4 - (lg_sl ([.ref (a 0), .int x1, .int x2, .int x3])).length) Slot.unset).toArray = ls at hl ⊢
  have hl : lv_has ls 4 [(0, .ref (a 0)), (1, .int x1), (2, .int x2), (3, .int x3)] := hl
  refine lv_aload_n hx hb d_M_tell_0 rfl (lv_at hl 0 rfl) ?_
  refine lv_iload_n hx hb d_M_tell_1 rfl (lv_at hl 1 rfl) ?_
  refine va_put (D := (dC, dI)) (ci := 4) (v := .int x1) (ty := .int) (C := R_M) (T := F_M) (N := 39) hx hb hts i_M t_M t_M_ok n_M hown hK hP hD hS 0 rfl rfl 35 (by decide) (hts _ m_f_M_60) (fun _ h9 => h9) rfl (by decide +kernel) rfl rfl (Nat.le_of_ble_eq_true rfl) d_M_tell_2 (fun H locs hP hD hS => ?_)
  have hP : va_P (dC, dI) classes (w_M cA cZ a rv (upf X 35 (fun _ => x1))) H := hP
  have hD : va_D A (w_M cA cZ a rv (upf X 35 (fun _ => x1))) := hD
  refine lv_aload_n hx hb d_M_tell_5 rfl (lv_at hl 0 rfl) ?_
  refine lv_iload_n hx hb d_M_tell_6 rfl (lv_at hl 2 rfl) ?_
  refine va_put (D := (dC, dI)) (ci := 4) (v := .int x2) (ty := .int) (C := R_M) (T := F_M) (N := 39) hx hb hts i_M t_M t_M_ok n_M hown hK hP hD hS 0 rfl rfl 36 (by decide) (hts _ m_f_M_63) (fun _ h9 => h9) rfl (by decide +kernel) rfl rfl (Nat.le_of_ble_eq_true rfl) d_M_tell_7 (fun H locs hP hD hS => ?_)
  have hP : va_P (dC, dI) classes (w_M cA cZ a rv (upf (upf X 35 (fun _ => x1)) 36 (fun _ => x2))) H := hP
  have hD : va_D A (w_M cA cZ a rv (upf (upf X 35 (fun _ => x1)) 36 (fun _ => x2))) := hD
  refine lv_aload_n hx hb d_M_tell_10 rfl (lv_at hl 0 rfl) ?_
  refine lv_iload_n hx hb d_M_tell_11 rfl (lv_at hl 3 rfl) ?_
  refine va_put (D := (dC, dI)) (ci := 4) (v := .int x3) (ty := .int) (C := R_M) (T := F_M) (N := 39) hx hb hts i_M t_M t_M_ok n_M hown hK hP hD hS 0 rfl rfl 37 (by decide) (hts _ m_f_M_66) (fun _ h9 => h9) rfl (by decide +kernel) rfl rfl (Nat.le_of_ble_eq_true rfl) d_M_tell_12 (fun H locs hP hD hS => ?_)
  have hP : va_P (dC, dI) classes (w_M cA cZ a rv (upf (upf (upf X 35 (fun _ => x1)) 36 (fun _ => x2)) 37 (fun _ => x3))) H := hP
  have hD : va_D A (w_M cA cZ a rv (upf (upf (upf X 35 (fun _ => x1)) 36 (fun _ => x2)) 37 (fun _ => x3))) := hD
  have hF : (f_M_tell X x1 x2 x3) = (upf (upf (upf X 35 (fun _ => x1)) 36 (fun _ => x2)) 37 (fun _ => x3)) := by rw [f_M_tell]
  exact W.vret hx hb hr (fun t ht hW => ⟨⟨(), rfl, trivial, by rw [hF, ht]; exact hP, by rw [hF]; exact hD⟩, hS.F ht⟩) hS.2.2 d_M_tell_15
def f_M_groupOf_L42 (X : Nat → Nat → Int32) (set gg : Int32) (y3 y4 y5 : Int32) : Nat → Int32 → Int32 → Int32
  | 0, z7, z6 => 0
  | n + 1, z7, z6 => (if (X 1 0) ≤ z7 then z6 else (if (f_M_has set z7) = 0 then (f_M_groupOf_L42 X set gg y3 y4 y5 n (z7 + 1) z6) else (if (f_M_isAlike X y5 z7) = 0 then (f_M_groupOf_L42 X set gg y3 y4 y5 n (z7 + 1) z6) else (f_M_groupOf_L42 X set gg y3 y4 y5 n (z7 + 1) (z6 ||| ((1 : Int32) <<< (z7 &&& 31)))))))
def f_M_groupOf_L8 (X : Nat → Nat → Int32) (set gg : Int32) : Nat → Int32 → Int32 → Int32 → Int32 × (Nat → Nat → Int32)
  | 0, z5, z4, z3 => (0, X)
  | n + 1, z5, z4, z3 => (if (X 1 0) ≤ z5 then (0, (upf X 38 (fun _ => z4))) else (if (f_M_has (set &&& (z3 ^^^ (-1))) z5) = 0 then (f_M_groupOf_L8 X set gg n (z5 + 1) z4 z3) else (if z4 = gg then ((f_M_groupOf_L42 X set gg z3 z4 z5 (nc_mu (X 1 0) (z5 + 1) + 1) (z5 + 1) ((1 : Int32) <<< (z5 &&& 31))), X) else (f_M_groupOf_L8 X set gg n (z5 + 1) (z4 + 1) (z3 ||| (f_M_groupOf_L42 X set gg z3 z4 z5 (nc_mu (X 1 0) (z5 + 1) + 1) (z5 + 1) ((1 : Int32) <<< (z5 &&& 31))))))))
def f_M_groupOf (X : Nat → Nat → Int32) (set gg : Int32) : Int32 × (Nat → Nat → Int32) := (f_M_groupOf_L8 X set gg (nc_mu (X 1 0) 0 + 1) 0 0 0)
abbrev ws_M_groupOf : List Cond := .code y_M_groupOf b_M_groupOf 8 (some .int) :: lw_G
abbrev rm_M_groupOf : Room := { frames := 1, cells := 0, slots := 0, locals := 24 }
set_option maxHeartbeats 4000000 in
set_option maxRecDepth 100000 in
theorem c_M_groupOf (l : Launch) (dC : Nat → ClassId) (dI : Nat → Nat → Nat) (cA cZ : ClassId) (sz : Nat) (a : Nat → Nat) (rv : Value) (X : Nat → Nat → Int32) (set gg : Int32) (hmt : m_t X) : Met l y_M_groupOf ws_M_groupOf rm_M_groupOf (nc_PreZM (dC, dI) cA cZ sz [.ref (a 0), .int set, .int gg] (w_M cA cZ a rv X)) (va_Qi (fun r (_ : Unit) => r = (f_M_groupOf X set gg).1) (fun _ t => va_P (dC, dI) classes (w_M cA cZ a rv (f_M_groupOf X set gg).2) t.heap ∧ va_D (va_A (w_M cA cZ a rv X) sz) (w_M cA cZ a rv (f_M_groupOf X set gg).2)) (va_A (w_M cA cZ a rv X) sz)) 0 0 (va_A (w_M cA cZ a rv X) sz) := by
  refine Met.ofW (cc := b_M_groupOf) (maxL := 8) (ret := (some .int)) (by decide) rfl ?_
  intro p e s m args below meth c s₁ B hml hv
  obtain ⟨rfl, hsz, hP, hK, hD0, hN⟩ := hv
  have hx := B.exec
  have hb := B.bytes
  have hr := B.returns
  have hts : ∀ w ∈ lw_G, w.before [.ref (a 0), .int set, .int gg].toArray s = true := fun w h => atoms_spec (ws := ws_M_groupOf) B.pre w (List.mem_cons_of_mem _ h)
  have hown : s.vm.findClass R_M = some m.cls := findClass_of_methodNamed B.named
  have hlocks := B.notSynchronized
  have hfix : CallFix p m c b_M_groupOf 8 s [.ref (a 0), .int set, .int gg].toArray lw_G R_M := ⟨hx, hb, hml, hown, hts⟩
  have hK1 := hK.sub (tys' := [(cA, .int)]) [0] rfl
  subst hsz
  have hD := hD0.self (sz := s.heap.size)
  generalize hAe : va_A (w_M cA cZ a rv X) s.heap.size = A at hD ⊢
  have hA : ∀ q : Nat, s.heap.size ≤ q → A q := fun q h => by rw [← hAe]; exact Or.inr h
  have hS : va_S A s.heap s.heap [] := va_S.rf
  have hl := lv_entry ([.ref (a 0), .int set, .int gg]) (n := 8) (Nat.le_of_ble_eq_true rfl)
  rw [lg_entry_eq]
  generalize (lg_sl ([.ref (a 0), .int set, .int gg]) ++ List.replicate (8 - (lg_sl ([.ref (a 0), .int set, .int gg])).length) Slot.unset).toArray = ls at hl ⊢
  have hl : lv_has ls 8 [(0, .ref (a 0)), (1, .int set), (2, .int gg)] := hl
  refine lv_iconst (v := 0) hx hb d_M_groupOf_0 (by decide) ?_
  refine lv_istore_n (lv' := [(3, .int 0), (0, .ref (a 0)), (1, .int set), (2, .int gg)]) hx hb d_M_groupOf_1 rfl hl (by decide) rfl (fun ls hl => ?_)
  refine lv_iconst (v := 0) hx hb d_M_groupOf_2 (by decide) ?_
  refine lv_istore (lv' := [(4, .int 0), (3, .int 0), (0, .ref (a 0)), (1, .int set), (2, .int gg)]) hx hb d_M_groupOf_3 hl (by decide) rfl (fun ls hl => ?_)
  refine lv_iconst (v := 0) hx hb d_M_groupOf_5 (by decide) ?_
  refine lv_istore (lv' := [(5, .int 0), (4, .int 0), (3, .int 0), (0, .ref (a 0)), (1, .int set), (2, .int gg)]) hx hb d_M_groupOf_6 hl (by decide) rfl (fun ls hl => ?_)
  have loop_8 : ∀ (n : Nat) (z5 z4 z3 : Int32) (ls : Array Slot), (f_M_groupOf X set gg) = (f_M_groupOf_L8 X set gg n z5 z4 z3) → nc_mu (X 1 0) z5 < n → 0 ≤ z5.toInt → lv_has ls 8 [(0, .ref (a 0)), (1, .int set), (2, .int gg), (5, .int z5), (4, .int z4), (3, .int z3)] → W p l e (headSpec ws_M_groupOf rm_M_groupOf).room s m [.ref (a 0), .int set, .int gg].toArray below meth c s.heap [] 0 0 (MQ below (va_Qi (fun r (_ : Unit) => r = (f_M_groupOf X set gg).1) (fun _ t => va_P (dC, dI) classes (w_M cA cZ a rv (f_M_groupOf X set gg).2) t.heap ∧ va_D A (w_M cA cZ a rv (f_M_groupOf X set gg).2)) A) [.ref (a 0), .int set, .int gg].toArray s 0 0 A) (F0 m 8 ls []) := by
    intro n
    induction n with
    | zero =>
      intro z5 z4 z3 ls hE hm h0_8 hl
      exact absurd hm (Nat.not_lt_zero _)
    | succ n ih =>
      intro z5 z4 z3 ls hE hm h0_8 hl
      refine lv_iload hx hb d_M_groupOf_8 (lv_at hl 3 rfl) ?_
      refine lv_aload_n hx hb d_M_groupOf_10 rfl (lv_at hl 0 rfl) ?_
      refine va_get (D := (dC, dI)) (ci := 4) (v := .int (X 1 0)) (C := R_M) (T := F_M) (N := 39) hx hb hts i_M hown hK hP 0 rfl rfl 1 (by decide) (hts _ m_f_M_69) (fun _ h9 => h9) rfl d_M_groupOf_11 ?_
      refine lv_icmp_ge (tgt := 114) hx hb d_M_groupOf_14 (by decide) (fun c_611 => ?_) (fun c_611 => ?_)
      · refine lv_aload_n hx hb d_M_groupOf_114 rfl (lv_at hl 0 rfl) ?_
        refine lv_iload hx hb d_M_groupOf_115 (lv_at hl 4 rfl) ?_
        refine va_put (D := (dC, dI)) (ci := 4) (v := .int z4) (ty := .int) (C := R_M) (T := F_M) (N := 39) hx hb hts i_M t_M t_M_ok n_M hown hK hP hD hS 0 rfl rfl 38 (by decide) (hts _ m_f_M_205) (fun _ h9 => h9) rfl (by decide +kernel) rfl rfl (Nat.le_of_ble_eq_true rfl) d_M_groupOf_117 (fun H locs hP hD hS => ?_)
        have hP : va_P (dC, dI) classes (w_M cA cZ a rv (upf X 38 (fun _ => z4))) H := hP
        have hD : va_D A (w_M cA cZ a rv (upf X 38 (fun _ => z4))) := hD
        refine lv_iconst (v := 0) hx hb d_M_groupOf_120 (by decide) ?_
        have hF : (f_M_groupOf X set gg) = (0, (upf X 38 (fun _ => z4))) := by rw [hE, f_M_groupOf_L8, if_pos c_611]
        exact W.iret (v := 0) hx hb hr (fun t ht hW => ⟨⟨0, (), rfl, by rw [hF], by rw [hF, ht]; exact hP, by rw [hF]; exact hD⟩, hS.F ht⟩) hS.2.2 d_M_groupOf_121
      · refine lv_iload_n hx hb d_M_groupOf_17 rfl (lv_at hl 1 rfl) ?_
        refine lv_iload_n hx hb d_M_groupOf_18 rfl (lv_at hl 5 rfl) ?_
        refine lv_iconst (v := (-1)) hx hb d_M_groupOf_19 (by decide) ?_
        refine lv_ixor hx hb d_M_groupOf_20 ?_
        refine lv_iand hx hb d_M_groupOf_21 ?_
        refine lv_iload hx hb d_M_groupOf_22 (lv_at hl 3 rfl) ?_
        refine nc_ro (va_runS (As := [.int (set &&& (z3 ^^^ (-1))), .int z5]) (rest := []) hfix (c_M_has l dC dI cA (set &&& (z3 ^^^ (-1))) z5) (k_M_114 hts hN ⟨Nat.le_of_ble_eq_true rfl, Nat.le_of_ble_eq_true rfl⟩) (nc_preS0 hK1 hN) rfl rfl hl.1 rfl (lv_room (Nat.le_of_ble_eq_true rfl)) d_M_groupOf_24 ⟨Nat.zero_le _, Nat.zero_le _⟩) (fun r er => ?_)
        obtain ⟨rfl, hz_612⟩ := er
        refine lv_if_eq (tgt := 108) hx hb d_M_groupOf_27 (by decide) (fun c_613 => ?_) (fun c_613 => ?_)
        · refine lv_iinc (v := (z5 + 1)) (lv' := [(5, .int (z5 + 1)), (0, .ref (a 0)), (1, .int set), (2, .int gg), (4, .int z4), (3, .int z3)]) hx hb d_M_groupOf_108 hl (k := 3) rfl rfl (by decide) rfl (fun ls hl => ?_)
          refine lv_goto (tgt := 8) hx hb d_M_groupOf_111 (by decide) ?_
          exact ih (z5 + 1) z4 z3 ls (by rw [hE, f_M_groupOf_L8, if_neg c_611, if_pos c_613]) (nc_mu_step c_611 hm) (nc_i_step c_611 h0_8) (lv_sub hl [1, 2, 3, 0, 4, 5] rfl)
        · refine lv_iconst (v := 1) hx hb d_M_groupOf_30 (by decide) ?_
          refine lv_iload hx hb d_M_groupOf_31 (lv_at hl 3 rfl) ?_
          refine lv_ishl hx hb d_M_groupOf_33 ?_
          refine lv_istore (lv' := [(6, .int ((1 : Int32) <<< (z5 &&& 31))), (0, .ref (a 0)), (1, .int set), (2, .int gg), (5, .int z5), (4, .int z4), (3, .int z3)]) hx hb d_M_groupOf_34 hl (by decide) rfl (fun ls hl => ?_)
          refine lv_iload hx hb d_M_groupOf_36 (lv_at hl 4 rfl) ?_
          refine lv_iconst (v := 1) hx hb d_M_groupOf_38 (by decide) ?_
          refine lv_iadd hx hb d_M_groupOf_39 ?_
          refine lv_istore (lv' := [(7, .int (z5 + 1)), (6, .int ((1 : Int32) <<< (z5 &&& 31))), (0, .ref (a 0)), (1, .int set), (2, .int gg), (5, .int z5), (4, .int z4), (3, .int z3)]) hx hb d_M_groupOf_40 hl (by decide) rfl (fun ls hl => ?_)
          have loop_42 : ∀ (n : Nat) (z7 z6 : Int32) (ls : Array Slot), nc_mu (X 1 0) z7 < n → 0 ≤ z7.toInt → (∀ ls : Array Slot, lv_has ls 8 [(0, .ref (a 0)), (1, .int set), (2, .int gg), (3, .int z3), (4, .int z4), (5, .int z5), (6, .int (f_M_groupOf_L42 X set gg z3 z4 z5 n z7 z6))] → W p l e (headSpec ws_M_groupOf rm_M_groupOf).room s m [.ref (a 0), .int set, .int gg].toArray below meth c s.heap [] 0 0 (MQ below (va_Qi (fun r (_ : Unit) => r = (f_M_groupOf X set gg).1) (fun _ t => va_P (dC, dI) classes (w_M cA cZ a rv (f_M_groupOf X set gg).2) t.heap ∧ va_D A (w_M cA cZ a rv (f_M_groupOf X set gg).2)) A) [.ref (a 0), .int set, .int gg].toArray s 0 0 A) (F0 m 91 ls [])) → lv_has ls 8 [(0, .ref (a 0)), (1, .int set), (2, .int gg), (3, .int z3), (4, .int z4), (5, .int z5), (7, .int z7), (6, .int z6)] → W p l e (headSpec ws_M_groupOf rm_M_groupOf).room s m [.ref (a 0), .int set, .int gg].toArray below meth c s.heap [] 0 0 (MQ below (va_Qi (fun r (_ : Unit) => r = (f_M_groupOf X set gg).1) (fun _ t => va_P (dC, dI) classes (w_M cA cZ a rv (f_M_groupOf X set gg).2) t.heap ∧ va_D A (w_M cA cZ a rv (f_M_groupOf X set gg).2)) A) [.ref (a 0), .int set, .int gg].toArray s 0 0 A) (F0 m 42 ls []) := by
            intro n
            induction n with
            | zero =>
              intro z7 z6 ls hm h0_42 hK9 hl
              exact absurd hm (Nat.not_lt_zero _)
            | succ n ih =>
              intro z7 z6 ls hm h0_42 hK9 hl
              refine lv_iload hx hb d_M_groupOf_42 (lv_at hl 6 rfl) ?_
              refine lv_aload_n hx hb d_M_groupOf_44 rfl (lv_at hl 0 rfl) ?_
              refine va_get (D := (dC, dI)) (ci := 4) (v := .int (X 1 0)) (C := R_M) (T := F_M) (N := 39) hx hb hts i_M hown hK hP 0 rfl rfl 1 (by decide) (hts _ m_f_M_69) (fun _ h9 => h9) rfl d_M_groupOf_45 ?_
              refine lv_icmp_ge (tgt := 91) hx hb d_M_groupOf_48 (by decide) (fun c_614 => ?_) (fun c_614 => ?_)
              · exact hK9 ls (by rw [f_M_groupOf_L42, if_pos c_614]; exact lv_sub hl [0, 1, 2, 3, 4, 5, 7] rfl)
              · refine lv_iload_n hx hb d_M_groupOf_51 rfl (lv_at hl 1 rfl) ?_
                refine lv_iload hx hb d_M_groupOf_52 (lv_at hl 6 rfl) ?_
                refine nc_ro (va_runS (As := [.int set, .int z7]) (rest := []) hfix (c_M_has l dC dI cA set z7) (k_M_114 hts hN ⟨Nat.le_of_ble_eq_true rfl, Nat.le_of_ble_eq_true rfl⟩) (nc_preS0 hK1 hN) rfl rfl hl.1 rfl (lv_room (Nat.le_of_ble_eq_true rfl)) d_M_groupOf_54 ⟨Nat.zero_le _, Nat.zero_le _⟩) (fun r er => ?_)
                obtain ⟨rfl, hz_615⟩ := er
                refine lv_if_eq (tgt := 81) hx hb d_M_groupOf_57 (by decide) (fun c_616 => ?_) (fun c_616 => ?_)
                · refine lv_iload hx hb d_M_groupOf_81 (lv_at hl 7 rfl) ?_
                  refine lv_istore (lv' := [(6, .int z6), (0, .ref (a 0)), (1, .int set), (2, .int gg), (3, .int z3), (4, .int z4), (5, .int z5), (7, .int z7)]) hx hb d_M_groupOf_83 hl (by decide) rfl (fun ls hl => ?_)
                  refine lv_iinc (v := (z7 + 1)) (lv' := [(7, .int (z7 + 1)), (6, .int z6), (0, .ref (a 0)), (1, .int set), (2, .int gg), (3, .int z3), (4, .int z4), (5, .int z5)]) hx hb d_M_groupOf_85 hl (k := 7) rfl rfl (by decide) rfl (fun ls hl => ?_)
                  refine lv_goto (tgt := 42) hx hb d_M_groupOf_88 (by decide) ?_
                  exact ih (z7 + 1) z6 ls (nc_mu_step c_614 hm) (nc_i_step c_614 h0_42) (fun ls hl => hK9 ls (by rw [f_M_groupOf_L42, if_neg c_614, if_pos c_616]; exact hl)) (lv_sub hl [2, 3, 4, 5, 6, 7, 0, 1] rfl)
                · refine lv_aload_n hx hb d_M_groupOf_60 rfl (lv_at hl 0 rfl) ?_
                  refine lv_iload hx hb d_M_groupOf_61 (lv_at hl 5 rfl) ?_
                  refine lv_iload hx hb d_M_groupOf_63 (lv_at hl 6 rfl) ?_
                  refine nc_ro (va_runV (As := [.int z5, .int z7]) (rest := []) hfix (c_M_isAlike l dC dI cA cZ a rv X z5 z7 (by have q0 := nc_nle c_611 rfl rfl; have q1 := nc_ne c_613 rfl (L_0); have q2 := nc_nle c_614 rfl rfl; have q3 := nc_ne c_616 rfl (L_0); have q4 := hmt.1; have q5 := hmt.2; have q6 := h0_8; have q7 := h0_42; exact ⟨by omega, by omega⟩) (by have q0 := nc_nle c_611 rfl rfl; have q1 := nc_ne c_613 rfl (L_0); have q2 := nc_nle c_614 rfl rfl; have q3 := nc_ne c_616 rfl (L_0); have q4 := hmt.1; have q5 := hmt.2; have q6 := h0_8; have q7 := h0_42; exact ⟨by omega, by omega⟩)) (k_M_84 hts hN ⟨Nat.le_of_ble_eq_true rfl, Nat.le_of_ble_eq_true rfl⟩) (nc_preVZ hK hN hP hD rfl rfl) rfl rfl hl.1 rfl (lv_room (Nat.le_of_ble_eq_true rfl)) d_M_groupOf_65 ⟨Nat.zero_le _, Nat.zero_le _⟩) (fun r er => ?_)
                  obtain ⟨rfl, hz_617⟩ := er
                  refine lv_if_eq (tgt := 81) hx hb d_M_groupOf_68 (by decide) (fun c_618 => ?_) (fun c_618 => ?_)
                  · refine lv_iload hx hb d_M_groupOf_81 (lv_at hl 7 rfl) ?_
                    refine lv_istore (lv' := [(6, .int z6), (0, .ref (a 0)), (1, .int set), (2, .int gg), (3, .int z3), (4, .int z4), (5, .int z5), (7, .int z7)]) hx hb d_M_groupOf_83 hl (by decide) rfl (fun ls hl => ?_)
                    refine lv_iinc (v := (z7 + 1)) (lv' := [(7, .int (z7 + 1)), (6, .int z6), (0, .ref (a 0)), (1, .int set), (2, .int gg), (3, .int z3), (4, .int z4), (5, .int z5)]) hx hb d_M_groupOf_85 hl (k := 7) rfl rfl (by decide) rfl (fun ls hl => ?_)
                    refine lv_goto (tgt := 42) hx hb d_M_groupOf_88 (by decide) ?_
                    exact ih (z7 + 1) z6 ls (nc_mu_step c_614 hm) (nc_i_step c_614 h0_42) (fun ls hl => hK9 ls (by rw [f_M_groupOf_L42, if_neg c_614, if_neg c_616, if_pos c_618]; exact hl)) (lv_sub hl [2, 3, 4, 5, 6, 7, 0, 1] rfl)
                  · refine lv_iload hx hb d_M_groupOf_71 (lv_at hl 7 rfl) ?_
                    refine lv_iconst (v := 1) hx hb d_M_groupOf_73 (by decide) ?_
                    refine lv_iload hx hb d_M_groupOf_74 (lv_at hl 6 rfl) ?_
                    refine lv_ishl hx hb d_M_groupOf_76 ?_
                    refine lv_ior hx hb d_M_groupOf_77 ?_
                    refine lv_goto (tgt := 83) hx hb d_M_groupOf_78 (by decide) ?_
                    refine lv_istore (lv' := [(6, .int (z6 ||| ((1 : Int32) <<< (z7 &&& 31)))), (0, .ref (a 0)), (1, .int set), (2, .int gg), (3, .int z3), (4, .int z4), (5, .int z5), (7, .int z7)]) hx hb d_M_groupOf_83 hl (by decide) rfl (fun ls hl => ?_)
                    refine lv_iinc (v := (z7 + 1)) (lv' := [(7, .int (z7 + 1)), (6, .int (z6 ||| ((1 : Int32) <<< (z7 &&& 31)))), (0, .ref (a 0)), (1, .int set), (2, .int gg), (3, .int z3), (4, .int z4), (5, .int z5)]) hx hb d_M_groupOf_85 hl (k := 7) rfl rfl (by decide) rfl (fun ls hl => ?_)
                    refine lv_goto (tgt := 42) hx hb d_M_groupOf_88 (by decide) ?_
                    exact ih (z7 + 1) (z6 ||| ((1 : Int32) <<< (z7 &&& 31))) ls (nc_mu_step c_614 hm) (nc_i_step c_614 h0_42) (fun ls hl => hK9 ls (by rw [f_M_groupOf_L42, if_neg c_614, if_neg c_616, if_neg c_618]; exact hl)) (lv_sub hl [2, 3, 4, 5, 6, 7, 0, 1] rfl)
          refine loop_42 (nc_mu (X 1 0) (z5 + 1) + 1) (z5 + 1) ((1 : Int32) <<< (z5 &&& 31)) ls (Nat.lt_succ_self _) ((nc_i_step c_611 h0_8)) (fun ls hl => ?_) (lv_sub hl [2, 3, 4, 7, 6, 5, 0, 1] rfl)
          refine lv_iload hx hb d_M_groupOf_91 (lv_at hl 4 rfl) ?_
          refine lv_iload_n hx hb d_M_groupOf_93 rfl (lv_at hl 2 rfl) ?_
          refine lv_icmp_ne (tgt := 100) hx hb d_M_groupOf_94 (by decide) (fun c_619 => ?_) (fun c_619 => ?_)
          · refine lv_iload_n hx hb d_M_groupOf_100 rfl (lv_at hl 3 rfl) ?_
            refine lv_iload hx hb d_M_groupOf_101 (lv_at hl 6 rfl) ?_
            refine lv_ior hx hb d_M_groupOf_103 ?_
            refine lv_istore_n (lv' := [(3, .int (z3 ||| (f_M_groupOf_L42 X set gg z3 z4 z5 (nc_mu (X 1 0) (z5 + 1) + 1) (z5 + 1) ((1 : Int32) <<< (z5 &&& 31))))), (0, .ref (a 0)), (1, .int set), (2, .int gg), (4, .int z4), (5, .int z5), (6, .int (f_M_groupOf_L42 X set gg z3 z4 z5 (nc_mu (X 1 0) (z5 + 1) + 1) (z5 + 1) ((1 : Int32) <<< (z5 &&& 31))))]) hx hb d_M_groupOf_104 rfl hl (by decide) rfl (fun ls hl => ?_)
            refine lv_iinc (v := (z4 + 1)) (lv' := [(4, .int (z4 + 1)), (3, .int (z3 ||| (f_M_groupOf_L42 X set gg z3 z4 z5 (nc_mu (X 1 0) (z5 + 1) + 1) (z5 + 1) ((1 : Int32) <<< (z5 &&& 31))))), (0, .ref (a 0)), (1, .int set), (2, .int gg), (5, .int z5), (6, .int (f_M_groupOf_L42 X set gg z3 z4 z5 (nc_mu (X 1 0) (z5 + 1) + 1) (z5 + 1) ((1 : Int32) <<< (z5 &&& 31))))]) hx hb d_M_groupOf_105 hl (k := 4) rfl rfl (by decide) rfl (fun ls hl => ?_)
            refine lv_iinc (v := (z5 + 1)) (lv' := [(5, .int (z5 + 1)), (4, .int (z4 + 1)), (3, .int (z3 ||| (f_M_groupOf_L42 X set gg z3 z4 z5 (nc_mu (X 1 0) (z5 + 1) + 1) (z5 + 1) ((1 : Int32) <<< (z5 &&& 31))))), (0, .ref (a 0)), (1, .int set), (2, .int gg), (6, .int (f_M_groupOf_L42 X set gg z3 z4 z5 (nc_mu (X 1 0) (z5 + 1) + 1) (z5 + 1) ((1 : Int32) <<< (z5 &&& 31))))]) hx hb d_M_groupOf_108 hl (k := 5) rfl rfl (by decide) rfl (fun ls hl => ?_)
            refine lv_goto (tgt := 8) hx hb d_M_groupOf_111 (by decide) ?_
            exact ih (z5 + 1) (z4 + 1) (z3 ||| (f_M_groupOf_L42 X set gg z3 z4 z5 (nc_mu (X 1 0) (z5 + 1) + 1) (z5 + 1) ((1 : Int32) <<< (z5 &&& 31)))) ls (by rw [hE, f_M_groupOf_L8, if_neg c_611, if_neg c_613, if_neg c_619]) (nc_mu_step c_611 hm) (nc_i_step c_611 h0_8) (lv_sub hl [3, 4, 5, 0, 1, 2] rfl)
          · refine lv_iload hx hb d_M_groupOf_97 (lv_at hl 6 rfl) ?_
            have hF : (f_M_groupOf X set gg) = ((f_M_groupOf_L42 X set gg z3 z4 z5 (nc_mu (X 1 0) (z5 + 1) + 1) (z5 + 1) ((1 : Int32) <<< (z5 &&& 31))), X) := by rw [hE, f_M_groupOf_L8, if_neg c_611, if_neg c_613, if_pos c_619]
            exact W.iret (v := (f_M_groupOf_L42 X set gg z3 z4 z5 (nc_mu (X 1 0) (z5 + 1) + 1) (z5 + 1) ((1 : Int32) <<< (z5 &&& 31)))) hx hb hr (fun t ht hW => ⟨⟨(f_M_groupOf_L42 X set gg z3 z4 z5 (nc_mu (X 1 0) (z5 + 1) + 1) (z5 + 1) ((1 : Int32) <<< (z5 &&& 31))), (), rfl, by rw [hF], by rw [hF, ht]; exact hP, by rw [hF]; exact hD⟩, hS.F ht⟩) hS.2.2 d_M_groupOf_99
  exact loop_8 (nc_mu (X 1 0) 0 + 1) 0 0 0 ls (by rw [f_M_groupOf]) (Nat.lt_succ_self _) (by decide) (lv_sub hl [3, 4, 5, 0, 1, 2] rfl)
theorem gr_fr8 {set gg : Int32} {X : Nat → Nat → Int32} {k : Nat} (h : Nat.beq k 38 = false) : ∀ (n : Nat) (z5 z4 z3 : Int32), (f_M_groupOf_L8 X set gg n z5 z4 z3).2 k = X k := by
  intro n
  induction n with
  | zero => intro z5 z4 z3; rfl
  | succ n ih =>
    intro z5 z4 z3
    rw [f_M_groupOf_L8]
    split
    · exact upf_ne h
    · split
      · exact ih _ _ _
      · split
        · rfl
        · exact ih _ _ _
theorem gr_fr {set gg : Int32} {X : Nat → Nat → Int32} {k : Nat} (h : Nat.beq k 38 = false) : (f_M_groupOf X set gg).2 k = X k := by
  unfold f_M_groupOf
  exact gr_fr8 h _ _ _ _
theorem gr_t {set gg : Int32} {X : Nat → Nat → Int32} (h : m_t X) : m_t (f_M_groupOf X set gg).2 := by
  unfold m_t
  rw [gr_fr rfl]
  exact h
theorem gr_k {set gg : Int32} {X : Nat → Nat → Int32} (h : m_k X) : m_k (f_M_groupOf X set gg).2 := by
  unfold m_k
  rw [gr_fr rfl]
  exact h
def f_M_asked_L56 (x1 x2 : Int32) (y3 : Int32) : Nat → (Nat → Nat → Int32) → Int32 → Int32 → Int32 × (Nat → Nat → Int32)
  | 0, X, z5, z4 => (0, X)
  | n + 1, X, z5, z4 => (if (X 1 0) ≤ z5 then (if x2 = (-1) then (z4, X) else ((-1), X)) else (if (f_M_has y3 z5) = 0 then (f_M_asked_L56 x1 x2 y3 n X (z5 + 1) z4) else (if z4 = x2 then (z5, X) else (f_M_asked_L56 x1 x2 y3 n X (z5 + 1) (z4 + 1)))))
def f_M_asked (X : Nat → Nat → Int32) (x1 x2 : Int32) : Int32 × (Nat → Nat → Int32) := (if 0 ≤ x1 then (if x1 = (-1) then (((f_M_groupOf (upf X 0 (fun _ => 0)) (X 29 0) x1).2 38 0), (f_M_groupOf (upf X 0 (fun _ => 0)) (X 29 0) x1).2) else (if (f_M_groupOf (upf X 0 (fun _ => 0)) (X 29 0) x1).1 = 0 then ((-1), (f_M_groupOf (upf X 0 (fun _ => 0)) (X 29 0) x1).2) else (if x1 < (-1) then ((-1), (f_M_groupOf (upf X 0 (fun _ => 0)) (X 29 0) x1).2) else (if (-1) ≤ x2 then (f_M_asked_L56 x1 x2 (f_M_groupOf (upf X 0 (fun _ => 0)) (X 29 0) x1).1 (nc_mu ((f_M_groupOf (upf X 0 (fun _ => 0)) (X 29 0) x1).2 1 0) 0 + 1) (f_M_groupOf (upf X 0 (fun _ => 0)) (X 29 0) x1).2 0 0) else ((-1), (f_M_groupOf (upf X 0 (fun _ => 0)) (X 29 0) x1).2))))) else (if x1 = (-1) then (((f_M_groupOf (upf X 0 (fun _ => 0)) (X 29 0) 99).2 38 0), (f_M_groupOf (upf X 0 (fun _ => 0)) (X 29 0) 99).2) else (if (f_M_groupOf (upf X 0 (fun _ => 0)) (X 29 0) 99).1 = 0 then ((-1), (f_M_groupOf (upf X 0 (fun _ => 0)) (X 29 0) 99).2) else (if x1 < (-1) then ((-1), (f_M_groupOf (upf X 0 (fun _ => 0)) (X 29 0) 99).2) else (if (-1) ≤ x2 then (f_M_asked_L56 x1 x2 (f_M_groupOf (upf X 0 (fun _ => 0)) (X 29 0) 99).1 (nc_mu ((f_M_groupOf (upf X 0 (fun _ => 0)) (X 29 0) 99).2 1 0) 0 + 1) (f_M_groupOf (upf X 0 (fun _ => 0)) (X 29 0) 99).2 0 0) else ((-1), (f_M_groupOf (upf X 0 (fun _ => 0)) (X 29 0) 99).2))))))
abbrev ws_M_asked : List Cond := .code y_M_asked b_M_asked 6 (some .int) :: lw_G
abbrev rm_M_asked : Room := { frames := 2, cells := 0, slots := 0, locals := 51 }
set_option maxHeartbeats 4000000 in
set_option maxRecDepth 100000 in
theorem c_M_asked (l : Launch) (dC : Nat → ClassId) (dI : Nat → Nat → Nat) (cA cZ : ClassId) (sz : Nat) (a : Nat → Nat) (rv : Value) (X : Nat → Nat → Int32) (x1 x2 : Int32) (hmt : m_t X) : Met l y_M_asked ws_M_asked rm_M_asked (nc_PreZM (dC, dI) cA cZ sz [.ref (a 0), .int x1, .int x2] (w_M cA cZ a rv X)) (va_Qi (fun r (_ : Unit) => r = (f_M_asked X x1 x2).1) (fun _ t => va_P (dC, dI) classes (w_M cA cZ a rv (f_M_asked X x1 x2).2) t.heap ∧ va_D (va_A (w_M cA cZ a rv X) sz) (w_M cA cZ a rv (f_M_asked X x1 x2).2)) (va_A (w_M cA cZ a rv X) sz)) 0 0 (va_A (w_M cA cZ a rv X) sz) := by
  refine Met.ofW (cc := b_M_asked) (maxL := 6) (ret := (some .int)) (by decide) rfl ?_
  intro p e s m args below meth c s₁ B hml hv
  obtain ⟨rfl, hsz, hP, hK, hD0, hN⟩ := hv
  have hx := B.exec
  have hb := B.bytes
  have hr := B.returns
  have hts : ∀ w ∈ lw_G, w.before [.ref (a 0), .int x1, .int x2].toArray s = true := fun w h => atoms_spec (ws := ws_M_asked) B.pre w (List.mem_cons_of_mem _ h)
  have hown : s.vm.findClass R_M = some m.cls := findClass_of_methodNamed B.named
  have hlocks := B.notSynchronized
  have hfix : CallFix p m c b_M_asked 6 s [.ref (a 0), .int x1, .int x2].toArray lw_G R_M := ⟨hx, hb, hml, hown, hts⟩
  have hK1 := hK.sub (tys' := [(cA, .int)]) [0] rfl
  subst hsz
  have hD := hD0.self (sz := s.heap.size)
  generalize hAe : va_A (w_M cA cZ a rv X) s.heap.size = A at hD ⊢
  have hA : ∀ q : Nat, s.heap.size ≤ q → A q := fun q h => by rw [← hAe]; exact Or.inr h
  have hS : va_S A s.heap s.heap [] := va_S.rf
  have hl := lv_entry ([.ref (a 0), .int x1, .int x2]) (n := 6) (Nat.le_of_ble_eq_true rfl)
  rw [lg_entry_eq]
  generalize (lg_sl ([.ref (a 0), .int x1, .int x2]) ++ List.replicate (6 - (lg_sl ([.ref (a 0), .int x1, .int x2])).length) Slot.unset).toArray = ls at hl ⊢
  have hl : lv_has ls 6 [(0, .ref (a 0)), (1, .int x1), (2, .int x2)] := hl
  refine lv_aload_n hx hb d_M_asked_0 rfl (lv_at hl 0 rfl) ?_
  refine lv_iconst (v := 0) hx hb d_M_asked_1 (by decide) ?_
  refine va_put (D := (dC, dI)) (ci := 4) (v := .int 0) (ty := .int) (C := R_M) (T := F_M) (N := 39) hx hb hts i_M t_M t_M_ok n_M hown hK hP hD hS 0 rfl rfl 0 (by decide) (hts _ m_f_M_1) (fun _ h9 => h9) rfl (by decide +kernel) rfl rfl (Nat.le_of_ble_eq_true rfl) d_M_asked_2 (fun H locs hP hD hS => ?_)
  have hP : va_P (dC, dI) classes (w_M cA cZ a rv (upf X 0 (fun _ => 0))) H := hP
  have hD : va_D A (w_M cA cZ a rv (upf X 0 (fun _ => 0))) := hD
  refine lv_aload_n hx hb d_M_asked_5 rfl (lv_at hl 0 rfl) ?_
  refine lv_aload_n hx hb d_M_asked_6 rfl (lv_at hl 0 rfl) ?_
  refine va_get (D := (dC, dI)) (ci := 4) (v := .int (X 29 0)) (C := R_M) (T := F_M) (N := 39) hx hb hts i_M hown hK hP 0 rfl rfl 29 (by decide) (hts _ m_f_M_179) (fun _ h9 => h9) rfl d_M_asked_7 ?_
  refine lv_iload_n hx hb d_M_asked_10 rfl (lv_at hl 1 rfl) ?_
  refine lv_if_ge (tgt := 19) hx hb d_M_asked_11 (by decide) (fun c_620 => ?_) (fun c_620 => ?_)
  · refine lv_iload_n hx hb d_M_asked_19 rfl (lv_at hl 1 rfl) ?_
    have hFc := nc_free hD hS hA
    refine nc_mui (va_runV (As := [.int (X 29 0), .int x1]) (rest := []) hfix (c_M_groupOf l dC dI cA cZ H.size a rv (upf X 0 (fun _ => 0)) (X 29 0) x1 hmt) (k_M_208 hts hN ⟨Nat.le_of_ble_eq_true rfl, Nat.le_of_ble_eq_true rfl⟩) (nc_preVZM hK hN hP hD rfl rfl) rfl rfl hl.1 rfl (lv_room (Nat.le_of_ble_eq_true rfl)) d_M_asked_20 ⟨Nat.zero_le _, Nat.zero_le _⟩) hS hFc (fun r H locs er hP1 hD1 hk1 hS => ?_)
    subst er
    have hP : va_P (dC, dI) classes (w_M cA cZ a rv (f_M_groupOf (upf X 0 (fun _ => 0)) (X 29 0) x1).2) H := hP1
    have hD : va_D A (w_M cA cZ a rv (f_M_groupOf (upf X 0 (fun _ => 0)) (X 29 0) x1).2) := hD1.weaken (fun _ q _ h => hFc q.1 h)
    refine lv_istore_n (lv' := [(3, .int (f_M_groupOf (upf X 0 (fun _ => 0)) (X 29 0) x1).1), (0, .ref (a 0)), (1, .int x1), (2, .int x2)]) hx hb d_M_asked_23 rfl hl (by decide) rfl (fun ls hl => ?_)
    refine lv_iload_n hx hb d_M_asked_24 rfl (lv_at hl 2 rfl) ?_
    refine lv_iconst (v := (-1)) hx hb d_M_asked_25 (by decide) ?_
    refine lv_icmp_ne (tgt := 34) hx hb d_M_asked_26 (by decide) (fun c_621 => ?_) (fun c_621 => ?_)
    · refine lv_iload_n hx hb d_M_asked_34 rfl (lv_at hl 0 rfl) ?_
      refine lv_if_eq (tgt := 48) hx hb d_M_asked_35 (by decide) (fun c_622 => ?_) (fun c_622 => ?_)
      · refine lv_iconst (v := (-1)) hx hb d_M_asked_48 (by decide) ?_
        have hF : (f_M_asked X x1 x2) = ((-1), (f_M_groupOf (upf X 0 (fun _ => 0)) (X 29 0) x1).2) := by rw [f_M_asked, if_pos c_620, if_neg c_621, if_pos c_622]
        exact W.iret (v := (-1)) hx hb hr (fun t ht hW => ⟨⟨(-1), (), rfl, by rw [hF], by rw [hF, ht]; exact hP, by rw [hF]; exact hD⟩, hS.F ht⟩) hS.2.2 d_M_asked_49
      · refine lv_iload_n hx hb d_M_asked_38 rfl (lv_at hl 2 rfl) ?_
        refine lv_iconst (v := (-1)) hx hb d_M_asked_39 (by decide) ?_
        refine lv_icmp_lt (tgt := 48) hx hb d_M_asked_40 (by decide) (fun c_623 => ?_) (fun c_623 => ?_)
        · refine lv_iconst (v := (-1)) hx hb d_M_asked_48 (by decide) ?_
          have hF : (f_M_asked X x1 x2) = ((-1), (f_M_groupOf (upf X 0 (fun _ => 0)) (X 29 0) x1).2) := by rw [f_M_asked, if_pos c_620, if_neg c_621, if_neg c_622, if_pos c_623]
          exact W.iret (v := (-1)) hx hb hr (fun t ht hW => ⟨⟨(-1), (), rfl, by rw [hF], by rw [hF, ht]; exact hP, by rw [hF]; exact hD⟩, hS.F ht⟩) hS.2.2 d_M_asked_49
        · refine lv_iload_n hx hb d_M_asked_43 rfl (lv_at hl 3 rfl) ?_
          refine lv_iconst (v := (-1)) hx hb d_M_asked_44 (by decide) ?_
          refine lv_icmp_ge (tgt := 50) hx hb d_M_asked_45 (by decide) (fun c_624 => ?_) (fun c_624 => ?_)
          · refine lv_iconst (v := 0) hx hb d_M_asked_50 (by decide) ?_
            refine lv_istore (lv' := [(4, .int 0), (3, .int (f_M_groupOf (upf X 0 (fun _ => 0)) (X 29 0) x1).1), (0, .ref (a 0)), (1, .int x1), (2, .int x2)]) hx hb d_M_asked_51 hl (by decide) rfl (fun ls hl => ?_)
            refine lv_iconst (v := 0) hx hb d_M_asked_53 (by decide) ?_
            refine lv_istore (lv' := [(5, .int 0), (4, .int 0), (3, .int (f_M_groupOf (upf X 0 (fun _ => 0)) (X 29 0) x1).1), (0, .ref (a 0)), (1, .int x1), (2, .int x2)]) hx hb d_M_asked_54 hl (by decide) rfl (fun ls hl => ?_)
            have loop_56 : ∀ (n : Nat) (Xq : (Nat → Nat → Int32)) (z5 z4 : Int32) (H : Heap) (locs : List Loc) (ls : Array Slot), (f_M_asked X x1 x2) = (f_M_asked_L56 x1 x2 (f_M_groupOf (upf X 0 (fun _ => 0)) (X 29 0) x1).1 n Xq z5 z4) → nc_mu (Xq 1 0) z5 < n → 0 ≤ z5.toInt → m_t Xq → va_P (dC, dI) classes (w_M cA cZ a rv Xq) H → va_D A (w_M cA cZ a rv Xq) → va_S A s.heap H locs → lv_has ls 6 [(0, .ref (a 0)), (1, .int x1), (2, .int x2), (3, .int (f_M_groupOf (upf X 0 (fun _ => 0)) (X 29 0) x1).1), (5, .int z5), (4, .int z4)] → W p l e (headSpec ws_M_asked rm_M_asked).room s m [.ref (a 0), .int x1, .int x2].toArray below meth c H locs 0 0 (MQ below (va_Qi (fun r (_ : Unit) => r = (f_M_asked X x1 x2).1) (fun _ t => va_P (dC, dI) classes (w_M cA cZ a rv (f_M_asked X x1 x2).2) t.heap ∧ va_D A (w_M cA cZ a rv (f_M_asked X x1 x2).2)) A) [.ref (a 0), .int x1, .int x2].toArray s 0 0 A) (F0 m 56 ls []) := by
              intro n
              induction n with
              | zero =>
                intro Xq z5 z4 H locs ls hE hm h0_56 hmt hP hD hS hl
                exact absurd hm (Nat.not_lt_zero _)
              | succ n ih =>
                intro Xq z5 z4 H locs ls hE hm h0_56 hmt hP hD hS hl
                refine lv_iload hx hb d_M_asked_56 (lv_at hl 4 rfl) ?_
                refine lv_aload_n hx hb d_M_asked_58 rfl (lv_at hl 0 rfl) ?_
                refine va_get (D := (dC, dI)) (ci := 4) (v := .int (Xq 1 0)) (C := R_M) (T := F_M) (N := 39) hx hb hts i_M hown hK hP 0 rfl rfl 1 (by decide) (hts _ m_f_M_69) (fun _ h9 => h9) rfl d_M_asked_59 ?_
                refine lv_icmp_ge (tgt := 92) hx hb d_M_asked_62 (by decide) (fun c_625 => ?_) (fun c_625 => ?_)
                · refine lv_iload_n hx hb d_M_asked_92 rfl (lv_at hl 2 rfl) ?_
                  refine lv_iconst (v := (-1)) hx hb d_M_asked_93 (by decide) ?_
                  refine lv_icmp_ne (tgt := 102) hx hb d_M_asked_94 (by decide) (fun c_626 => ?_) (fun c_626 => ?_)
                  · refine lv_iconst (v := (-1)) hx hb d_M_asked_102 (by decide) ?_
                    have hF : (f_M_asked X x1 x2) = ((-1), Xq) := by rw [hE, f_M_asked_L56, if_pos c_625, if_neg c_626]
                    exact W.iret (v := (-1)) hx hb hr (fun t ht hW => ⟨⟨(-1), (), rfl, by rw [hF], by rw [hF, ht]; exact hP, by rw [hF]; exact hD⟩, hS.F ht⟩) hS.2.2 d_M_asked_103
                  · refine lv_iload hx hb d_M_asked_97 (lv_at hl 5 rfl) ?_
                    refine lv_goto (tgt := 103) hx hb d_M_asked_99 (by decide) ?_
                    have hF : (f_M_asked X x1 x2) = (z4, Xq) := by rw [hE, f_M_asked_L56, if_pos c_625, if_pos c_626]
                    exact W.iret (v := z4) hx hb hr (fun t ht hW => ⟨⟨z4, (), rfl, by rw [hF], by rw [hF, ht]; exact hP, by rw [hF]; exact hD⟩, hS.F ht⟩) hS.2.2 d_M_asked_103
                · refine lv_iload_n hx hb d_M_asked_65 rfl (lv_at hl 3 rfl) ?_
                  refine lv_iload hx hb d_M_asked_66 (lv_at hl 4 rfl) ?_
                  refine nc_ro (va_runS (As := [.int (f_M_groupOf (upf X 0 (fun _ => 0)) (X 29 0) x1).1, .int z5]) (rest := []) hfix (c_M_has l dC dI cA (f_M_groupOf (upf X 0 (fun _ => 0)) (X 29 0) x1).1 z5) (k_M_114 hts hN ⟨Nat.le_of_ble_eq_true rfl, Nat.le_of_ble_eq_true rfl⟩) (nc_preS0 hK1 hN) rfl rfl hl.1 rfl (lv_room (Nat.le_of_ble_eq_true rfl)) d_M_asked_68 ⟨Nat.zero_le _, Nat.zero_le _⟩) (fun r er => ?_)
                  obtain ⟨rfl, hz_627⟩ := er
                  refine lv_if_eq (tgt := 86) hx hb d_M_asked_71 (by decide) (fun c_628 => ?_) (fun c_628 => ?_)
                  · refine lv_iinc (v := (z5 + 1)) (lv' := [(5, .int (z5 + 1)), (0, .ref (a 0)), (1, .int x1), (2, .int x2), (3, .int (f_M_groupOf (upf X 0 (fun _ => 0)) (X 29 0) x1).1), (4, .int z4)]) hx hb d_M_asked_86 hl (k := 4) rfl rfl (by decide) rfl (fun ls hl => ?_)
                    refine lv_goto (tgt := 56) hx hb d_M_asked_89 (by decide) ?_
                    exact ih Xq (z5 + 1) z4 H locs ls (by rw [hE, f_M_asked_L56, if_neg c_625, if_pos c_628]) (nc_mu_step c_625 hm) (nc_i_step c_625 h0_56) hmt hP hD hS (lv_sub hl [1, 2, 3, 4, 0, 5] rfl)
                  · refine lv_iload hx hb d_M_asked_74 (lv_at hl 5 rfl) ?_
                    refine lv_iload_n hx hb d_M_asked_76 rfl (lv_at hl 2 rfl) ?_
                    refine lv_icmp_ne (tgt := 83) hx hb d_M_asked_77 (by decide) (fun c_629 => ?_) (fun c_629 => ?_)
                    · refine lv_iinc (v := (z4 + 1)) (lv' := [(4, .int (z4 + 1)), (0, .ref (a 0)), (1, .int x1), (2, .int x2), (3, .int (f_M_groupOf (upf X 0 (fun _ => 0)) (X 29 0) x1).1), (5, .int z5)]) hx hb d_M_asked_83 hl (k := 5) rfl rfl (by decide) rfl (fun ls hl => ?_)
                      refine lv_iinc (v := (z5 + 1)) (lv' := [(5, .int (z5 + 1)), (4, .int (z4 + 1)), (0, .ref (a 0)), (1, .int x1), (2, .int x2), (3, .int (f_M_groupOf (upf X 0 (fun _ => 0)) (X 29 0) x1).1)]) hx hb d_M_asked_86 hl (k := 5) rfl rfl (by decide) rfl (fun ls hl => ?_)
                      refine lv_goto (tgt := 56) hx hb d_M_asked_89 (by decide) ?_
                      exact ih Xq (z5 + 1) (z4 + 1) H locs ls (by rw [hE, f_M_asked_L56, if_neg c_625, if_neg c_628, if_neg c_629]) (nc_mu_step c_625 hm) (nc_i_step c_625 h0_56) hmt hP hD hS (lv_sub hl [2, 3, 4, 5, 0, 1] rfl)
                    · refine lv_iload hx hb d_M_asked_80 (lv_at hl 4 rfl) ?_
                      have hF : (f_M_asked X x1 x2) = (z5, Xq) := by rw [hE, f_M_asked_L56, if_neg c_625, if_neg c_628, if_pos c_629]
                      exact W.iret (v := z5) hx hb hr (fun t ht hW => ⟨⟨z5, (), rfl, by rw [hF], by rw [hF, ht]; exact hP, by rw [hF]; exact hD⟩, hS.F ht⟩) hS.2.2 d_M_asked_82
            exact loop_56 (nc_mu ((f_M_groupOf (upf X 0 (fun _ => 0)) (X 29 0) x1).2 1 0) 0 + 1) (f_M_groupOf (upf X 0 (fun _ => 0)) (X 29 0) x1).2 0 0 H locs ls (by rw [f_M_asked, if_pos c_620, if_neg c_621, if_neg c_622, if_neg c_623, if_pos c_624]) (Nat.lt_succ_self _) (by decide) (gr_t hmt) hP hD hS (lv_sub hl [3, 4, 5, 2, 0, 1] rfl)
          · refine lv_iconst (v := (-1)) hx hb d_M_asked_48 (by decide) ?_
            have hF : (f_M_asked X x1 x2) = ((-1), (f_M_groupOf (upf X 0 (fun _ => 0)) (X 29 0) x1).2) := by rw [f_M_asked, if_pos c_620, if_neg c_621, if_neg c_622, if_neg c_623, if_neg c_624]
            exact W.iret (v := (-1)) hx hb hr (fun t ht hW => ⟨⟨(-1), (), rfl, by rw [hF], by rw [hF, ht]; exact hP, by rw [hF]; exact hD⟩, hS.F ht⟩) hS.2.2 d_M_asked_49
    · refine lv_aload_n hx hb d_M_asked_29 rfl (lv_at hl 1 rfl) ?_
      refine va_get (D := (dC, dI)) (ci := 4) (v := .int ((f_M_groupOf (upf X 0 (fun _ => 0)) (X 29 0) x1).2 38 0)) (C := R_M) (T := F_M) (N := 39) hx hb hts i_M hown hK hP 0 rfl rfl 38 (by decide) (hts _ m_f_M_205) (fun _ h9 => h9) rfl d_M_asked_30 ?_
      have hF : (f_M_asked X x1 x2) = (((f_M_groupOf (upf X 0 (fun _ => 0)) (X 29 0) x1).2 38 0), (f_M_groupOf (upf X 0 (fun _ => 0)) (X 29 0) x1).2) := by rw [f_M_asked, if_pos c_620, if_pos c_621]
      exact W.iret (v := ((f_M_groupOf (upf X 0 (fun _ => 0)) (X 29 0) x1).2 38 0)) hx hb hr (fun t ht hW => ⟨⟨((f_M_groupOf (upf X 0 (fun _ => 0)) (X 29 0) x1).2 38 0), (), rfl, by rw [hF], by rw [hF, ht]; exact hP, by rw [hF]; exact hD⟩, hS.F ht⟩) hS.2.2 d_M_asked_33
  · refine lv_bipush (v := 99) hx hb d_M_asked_14 (by decide) ?_
    refine lv_goto (tgt := 20) hx hb d_M_asked_16 (by decide) ?_
    have hFc := nc_free hD hS hA
    refine nc_mui (va_runV (As := [.int (X 29 0), .int 99]) (rest := []) hfix (c_M_groupOf l dC dI cA cZ H.size a rv (upf X 0 (fun _ => 0)) (X 29 0) 99 hmt) (k_M_208 hts hN ⟨Nat.le_of_ble_eq_true rfl, Nat.le_of_ble_eq_true rfl⟩) (nc_preVZM hK hN hP hD rfl rfl) rfl rfl hl.1 rfl (lv_room (Nat.le_of_ble_eq_true rfl)) d_M_asked_20 ⟨Nat.zero_le _, Nat.zero_le _⟩) hS hFc (fun r H locs er hP1 hD1 hk1 hS => ?_)
    subst er
    have hP : va_P (dC, dI) classes (w_M cA cZ a rv (f_M_groupOf (upf X 0 (fun _ => 0)) (X 29 0) 99).2) H := hP1
    have hD : va_D A (w_M cA cZ a rv (f_M_groupOf (upf X 0 (fun _ => 0)) (X 29 0) 99).2) := hD1.weaken (fun _ q _ h => hFc q.1 h)
    refine lv_istore_n (lv' := [(3, .int (f_M_groupOf (upf X 0 (fun _ => 0)) (X 29 0) 99).1), (0, .ref (a 0)), (1, .int x1), (2, .int x2)]) hx hb d_M_asked_23 rfl hl (by decide) rfl (fun ls hl => ?_)
    refine lv_iload_n hx hb d_M_asked_24 rfl (lv_at hl 2 rfl) ?_
    refine lv_iconst (v := (-1)) hx hb d_M_asked_25 (by decide) ?_
    refine lv_icmp_ne (tgt := 34) hx hb d_M_asked_26 (by decide) (fun c_630 => ?_) (fun c_630 => ?_)
    · refine lv_iload_n hx hb d_M_asked_34 rfl (lv_at hl 0 rfl) ?_
      refine lv_if_eq (tgt := 48) hx hb d_M_asked_35 (by decide) (fun c_631 => ?_) (fun c_631 => ?_)
      · refine lv_iconst (v := (-1)) hx hb d_M_asked_48 (by decide) ?_
        have hF : (f_M_asked X x1 x2) = ((-1), (f_M_groupOf (upf X 0 (fun _ => 0)) (X 29 0) 99).2) := by rw [f_M_asked, if_neg c_620, if_neg c_630, if_pos c_631]
        exact W.iret (v := (-1)) hx hb hr (fun t ht hW => ⟨⟨(-1), (), rfl, by rw [hF], by rw [hF, ht]; exact hP, by rw [hF]; exact hD⟩, hS.F ht⟩) hS.2.2 d_M_asked_49
      · refine lv_iload_n hx hb d_M_asked_38 rfl (lv_at hl 2 rfl) ?_
        refine lv_iconst (v := (-1)) hx hb d_M_asked_39 (by decide) ?_
        refine lv_icmp_lt (tgt := 48) hx hb d_M_asked_40 (by decide) (fun c_632 => ?_) (fun c_632 => ?_)
        · refine lv_iconst (v := (-1)) hx hb d_M_asked_48 (by decide) ?_
          have hF : (f_M_asked X x1 x2) = ((-1), (f_M_groupOf (upf X 0 (fun _ => 0)) (X 29 0) 99).2) := by rw [f_M_asked, if_neg c_620, if_neg c_630, if_neg c_631, if_pos c_632]
          exact W.iret (v := (-1)) hx hb hr (fun t ht hW => ⟨⟨(-1), (), rfl, by rw [hF], by rw [hF, ht]; exact hP, by rw [hF]; exact hD⟩, hS.F ht⟩) hS.2.2 d_M_asked_49
        · refine lv_iload_n hx hb d_M_asked_43 rfl (lv_at hl 3 rfl) ?_
          refine lv_iconst (v := (-1)) hx hb d_M_asked_44 (by decide) ?_
          refine lv_icmp_ge (tgt := 50) hx hb d_M_asked_45 (by decide) (fun c_633 => ?_) (fun c_633 => ?_)
          · refine lv_iconst (v := 0) hx hb d_M_asked_50 (by decide) ?_
            refine lv_istore (lv' := [(4, .int 0), (3, .int (f_M_groupOf (upf X 0 (fun _ => 0)) (X 29 0) 99).1), (0, .ref (a 0)), (1, .int x1), (2, .int x2)]) hx hb d_M_asked_51 hl (by decide) rfl (fun ls hl => ?_)
            refine lv_iconst (v := 0) hx hb d_M_asked_53 (by decide) ?_
            refine lv_istore (lv' := [(5, .int 0), (4, .int 0), (3, .int (f_M_groupOf (upf X 0 (fun _ => 0)) (X 29 0) 99).1), (0, .ref (a 0)), (1, .int x1), (2, .int x2)]) hx hb d_M_asked_54 hl (by decide) rfl (fun ls hl => ?_)
            have loop_56 : ∀ (n : Nat) (Xq : (Nat → Nat → Int32)) (z5 z4 : Int32) (H : Heap) (locs : List Loc) (ls : Array Slot), (f_M_asked X x1 x2) = (f_M_asked_L56 x1 x2 (f_M_groupOf (upf X 0 (fun _ => 0)) (X 29 0) 99).1 n Xq z5 z4) → nc_mu (Xq 1 0) z5 < n → 0 ≤ z5.toInt → m_t Xq → va_P (dC, dI) classes (w_M cA cZ a rv Xq) H → va_D A (w_M cA cZ a rv Xq) → va_S A s.heap H locs → lv_has ls 6 [(0, .ref (a 0)), (1, .int x1), (2, .int x2), (3, .int (f_M_groupOf (upf X 0 (fun _ => 0)) (X 29 0) 99).1), (5, .int z5), (4, .int z4)] → W p l e (headSpec ws_M_asked rm_M_asked).room s m [.ref (a 0), .int x1, .int x2].toArray below meth c H locs 0 0 (MQ below (va_Qi (fun r (_ : Unit) => r = (f_M_asked X x1 x2).1) (fun _ t => va_P (dC, dI) classes (w_M cA cZ a rv (f_M_asked X x1 x2).2) t.heap ∧ va_D A (w_M cA cZ a rv (f_M_asked X x1 x2).2)) A) [.ref (a 0), .int x1, .int x2].toArray s 0 0 A) (F0 m 56 ls []) := by
              intro n
              induction n with
              | zero =>
                intro Xq z5 z4 H locs ls hE hm h0_56 hmt hP hD hS hl
                exact absurd hm (Nat.not_lt_zero _)
              | succ n ih =>
                intro Xq z5 z4 H locs ls hE hm h0_56 hmt hP hD hS hl
                refine lv_iload hx hb d_M_asked_56 (lv_at hl 4 rfl) ?_
                refine lv_aload_n hx hb d_M_asked_58 rfl (lv_at hl 0 rfl) ?_
                refine va_get (D := (dC, dI)) (ci := 4) (v := .int (Xq 1 0)) (C := R_M) (T := F_M) (N := 39) hx hb hts i_M hown hK hP 0 rfl rfl 1 (by decide) (hts _ m_f_M_69) (fun _ h9 => h9) rfl d_M_asked_59 ?_
                refine lv_icmp_ge (tgt := 92) hx hb d_M_asked_62 (by decide) (fun c_634 => ?_) (fun c_634 => ?_)
                · refine lv_iload_n hx hb d_M_asked_92 rfl (lv_at hl 2 rfl) ?_
                  refine lv_iconst (v := (-1)) hx hb d_M_asked_93 (by decide) ?_
                  refine lv_icmp_ne (tgt := 102) hx hb d_M_asked_94 (by decide) (fun c_635 => ?_) (fun c_635 => ?_)
                  · refine lv_iconst (v := (-1)) hx hb d_M_asked_102 (by decide) ?_
                    have hF : (f_M_asked X x1 x2) = ((-1), Xq) := by rw [hE, f_M_asked_L56, if_pos c_634, if_neg c_635]
                    exact W.iret (v := (-1)) hx hb hr (fun t ht hW => ⟨⟨(-1), (), rfl, by rw [hF], by rw [hF, ht]; exact hP, by rw [hF]; exact hD⟩, hS.F ht⟩) hS.2.2 d_M_asked_103
                  · refine lv_iload hx hb d_M_asked_97 (lv_at hl 5 rfl) ?_
                    refine lv_goto (tgt := 103) hx hb d_M_asked_99 (by decide) ?_
                    have hF : (f_M_asked X x1 x2) = (z4, Xq) := by rw [hE, f_M_asked_L56, if_pos c_634, if_pos c_635]
                    exact W.iret (v := z4) hx hb hr (fun t ht hW => ⟨⟨z4, (), rfl, by rw [hF], by rw [hF, ht]; exact hP, by rw [hF]; exact hD⟩, hS.F ht⟩) hS.2.2 d_M_asked_103
                · refine lv_iload_n hx hb d_M_asked_65 rfl (lv_at hl 3 rfl) ?_
                  refine lv_iload hx hb d_M_asked_66 (lv_at hl 4 rfl) ?_
                  refine nc_ro (va_runS (As := [.int (f_M_groupOf (upf X 0 (fun _ => 0)) (X 29 0) 99).1, .int z5]) (rest := []) hfix (c_M_has l dC dI cA (f_M_groupOf (upf X 0 (fun _ => 0)) (X 29 0) 99).1 z5) (k_M_114 hts hN ⟨Nat.le_of_ble_eq_true rfl, Nat.le_of_ble_eq_true rfl⟩) (nc_preS0 hK1 hN) rfl rfl hl.1 rfl (lv_room (Nat.le_of_ble_eq_true rfl)) d_M_asked_68 ⟨Nat.zero_le _, Nat.zero_le _⟩) (fun r er => ?_)
                  obtain ⟨rfl, hz_636⟩ := er
                  refine lv_if_eq (tgt := 86) hx hb d_M_asked_71 (by decide) (fun c_637 => ?_) (fun c_637 => ?_)
                  · refine lv_iinc (v := (z5 + 1)) (lv' := [(5, .int (z5 + 1)), (0, .ref (a 0)), (1, .int x1), (2, .int x2), (3, .int (f_M_groupOf (upf X 0 (fun _ => 0)) (X 29 0) 99).1), (4, .int z4)]) hx hb d_M_asked_86 hl (k := 4) rfl rfl (by decide) rfl (fun ls hl => ?_)
                    refine lv_goto (tgt := 56) hx hb d_M_asked_89 (by decide) ?_
                    exact ih Xq (z5 + 1) z4 H locs ls (by rw [hE, f_M_asked_L56, if_neg c_634, if_pos c_637]) (nc_mu_step c_634 hm) (nc_i_step c_634 h0_56) hmt hP hD hS (lv_sub hl [1, 2, 3, 4, 0, 5] rfl)
                  · refine lv_iload hx hb d_M_asked_74 (lv_at hl 5 rfl) ?_
                    refine lv_iload_n hx hb d_M_asked_76 rfl (lv_at hl 2 rfl) ?_
                    refine lv_icmp_ne (tgt := 83) hx hb d_M_asked_77 (by decide) (fun c_638 => ?_) (fun c_638 => ?_)
                    · refine lv_iinc (v := (z4 + 1)) (lv' := [(4, .int (z4 + 1)), (0, .ref (a 0)), (1, .int x1), (2, .int x2), (3, .int (f_M_groupOf (upf X 0 (fun _ => 0)) (X 29 0) 99).1), (5, .int z5)]) hx hb d_M_asked_83 hl (k := 5) rfl rfl (by decide) rfl (fun ls hl => ?_)
                      refine lv_iinc (v := (z5 + 1)) (lv' := [(5, .int (z5 + 1)), (4, .int (z4 + 1)), (0, .ref (a 0)), (1, .int x1), (2, .int x2), (3, .int (f_M_groupOf (upf X 0 (fun _ => 0)) (X 29 0) 99).1)]) hx hb d_M_asked_86 hl (k := 5) rfl rfl (by decide) rfl (fun ls hl => ?_)
                      refine lv_goto (tgt := 56) hx hb d_M_asked_89 (by decide) ?_
                      exact ih Xq (z5 + 1) (z4 + 1) H locs ls (by rw [hE, f_M_asked_L56, if_neg c_634, if_neg c_637, if_neg c_638]) (nc_mu_step c_634 hm) (nc_i_step c_634 h0_56) hmt hP hD hS (lv_sub hl [2, 3, 4, 5, 0, 1] rfl)
                    · refine lv_iload hx hb d_M_asked_80 (lv_at hl 4 rfl) ?_
                      have hF : (f_M_asked X x1 x2) = (z5, Xq) := by rw [hE, f_M_asked_L56, if_neg c_634, if_neg c_637, if_pos c_638]
                      exact W.iret (v := z5) hx hb hr (fun t ht hW => ⟨⟨z5, (), rfl, by rw [hF], by rw [hF, ht]; exact hP, by rw [hF]; exact hD⟩, hS.F ht⟩) hS.2.2 d_M_asked_82
            exact loop_56 (nc_mu ((f_M_groupOf (upf X 0 (fun _ => 0)) (X 29 0) 99).2 1 0) 0 + 1) (f_M_groupOf (upf X 0 (fun _ => 0)) (X 29 0) 99).2 0 0 H locs ls (by rw [f_M_asked, if_neg c_620, if_neg c_630, if_neg c_631, if_neg c_632, if_pos c_633]) (Nat.lt_succ_self _) (by decide) (gr_t hmt) hP hD hS (lv_sub hl [3, 4, 5, 2, 0, 1] rfl)
          · refine lv_iconst (v := (-1)) hx hb d_M_asked_48 (by decide) ?_
            have hF : (f_M_asked X x1 x2) = ((-1), (f_M_groupOf (upf X 0 (fun _ => 0)) (X 29 0) 99).2) := by rw [f_M_asked, if_neg c_620, if_neg c_630, if_neg c_631, if_neg c_632, if_neg c_633]
            exact W.iret (v := (-1)) hx hb hr (fun t ht hW => ⟨⟨(-1), (), rfl, by rw [hF], by rw [hF, ht]; exact hP, by rw [hF]; exact hD⟩, hS.F ht⟩) hS.2.2 d_M_asked_49
    · refine lv_aload_n hx hb d_M_asked_29 rfl (lv_at hl 1 rfl) ?_
      refine va_get (D := (dC, dI)) (ci := 4) (v := .int ((f_M_groupOf (upf X 0 (fun _ => 0)) (X 29 0) 99).2 38 0)) (C := R_M) (T := F_M) (N := 39) hx hb hts i_M hown hK hP 0 rfl rfl 38 (by decide) (hts _ m_f_M_205) (fun _ h9 => h9) rfl d_M_asked_30 ?_
      have hF : (f_M_asked X x1 x2) = (((f_M_groupOf (upf X 0 (fun _ => 0)) (X 29 0) 99).2 38 0), (f_M_groupOf (upf X 0 (fun _ => 0)) (X 29 0) 99).2) := by rw [f_M_asked, if_neg c_620, if_pos c_630]
      exact W.iret (v := ((f_M_groupOf (upf X 0 (fun _ => 0)) (X 29 0) 99).2 38 0)) hx hb hr (fun t ht hW => ⟨⟨((f_M_groupOf (upf X 0 (fun _ => 0)) (X 29 0) 99).2 38 0), (), rfl, by rw [hF], by rw [hF, ht]; exact hP, by rw [hF]; exact hD⟩, hS.F ht⟩) hS.2.2 d_M_asked_33
def f_M_count_L9 (X : Nat → Nat → Int32) (x1 : Int32) : Nat → Int32 → Int32 → Int32 × (Nat → Nat → Int32)
  | 0, z3, z2 => (0, X)
  | n + 1, z3, z2 => (if (X 1 0) ≤ z3 then (if x1 = 0 then ((X 1 0), (upf X 0 (fun _ => 0))) else (if x1 = 1 then ((f_bitCount (f_M_there (upf X 0 (fun _ => 0)))), (upf X 0 (fun _ => 0))) else (if x1 = 2 then (z2, (upf X 0 (fun _ => 0))) else (if x1 = 3 then ((X 11 0), (upf X 0 (fun _ => 0))) else (if x1 = 4 then ((X 26 0), (upf X 0 (fun _ => 0))) else (if x1 = 5 then ((X 9 0), (upf X 0 (fun _ => 0))) else ((-1), (upf X 0 (fun _ => 0))))))))) else (if ((X 5) z3.toNatClampNeg) = 2 then (f_M_count_L9 X x1 n (z3 + 1) (z2 + 1)) else (f_M_count_L9 X x1 n (z3 + 1) z2)))
def f_M_count (X : Nat → Nat → Int32) (x1 : Int32) : Int32 × (Nat → Nat → Int32) := (f_M_count_L9 X x1 (nc_mu (X 1 0) 0 + 1) 0 0)
abbrev ws_M_count : List Cond := .code y_M_count b_M_count 4 (some .int) :: lw_G
abbrev rm_M_count : Room := { frames := 1, cells := 0, slots := 0, locals := 22 }
set_option maxHeartbeats 4000000 in
set_option maxRecDepth 100000 in
theorem c_M_count (l : Launch) (dC : Nat → ClassId) (dI : Nat → Nat → Nat) (cA cZ : ClassId) (sz : Nat) (a : Nat → Nat) (rv : Value) (X : Nat → Nat → Int32) (x1 : Int32) (hmt : m_t X) : Met l y_M_count ws_M_count rm_M_count (nc_PreZM (dC, dI) cA cZ sz [.ref (a 0), .int x1] (w_M cA cZ a rv X)) (va_Qi (fun r (_ : Unit) => r = (f_M_count X x1).1) (fun _ t => va_P (dC, dI) classes (w_M cA cZ a rv (f_M_count X x1).2) t.heap ∧ va_D (va_A (w_M cA cZ a rv X) sz) (w_M cA cZ a rv (f_M_count X x1).2)) (va_A (w_M cA cZ a rv X) sz)) 0 0 (va_A (w_M cA cZ a rv X) sz) := by
  refine Met.ofW (cc := b_M_count) (maxL := 4) (ret := (some .int)) (by decide) rfl ?_
  intro p e s m args below meth c s₁ B hml hv
  obtain ⟨rfl, hsz, hP, hK, hD0, hN⟩ := hv
  have hx := B.exec
  have hb := B.bytes
  have hr := B.returns
  have hts : ∀ w ∈ lw_G, w.before [.ref (a 0), .int x1].toArray s = true := fun w h => atoms_spec (ws := ws_M_count) B.pre w (List.mem_cons_of_mem _ h)
  have hown : s.vm.findClass R_M = some m.cls := findClass_of_methodNamed B.named
  have hlocks := B.notSynchronized
  have hfix : CallFix p m c b_M_count 4 s [.ref (a 0), .int x1].toArray lw_G R_M := ⟨hx, hb, hml, hown, hts⟩
  have hK1 := hK.sub (tys' := [(cA, .int)]) [0] rfl
  subst hsz
  have hD := hD0.self (sz := s.heap.size)
  generalize hAe : va_A (w_M cA cZ a rv X) s.heap.size = A at hD ⊢
  have hA : ∀ q : Nat, s.heap.size ≤ q → A q := fun q h => by rw [← hAe]; exact Or.inr h
  have hS : va_S A s.heap s.heap [] := va_S.rf
  have hl := lv_entry ([.ref (a 0), .int x1]) (n := 4) (Nat.le_of_ble_eq_true rfl)
  rw [lg_entry_eq]
  generalize (lg_sl ([.ref (a 0), .int x1]) ++ List.replicate (4 - (lg_sl ([.ref (a 0), .int x1])).length) Slot.unset).toArray = ls at hl ⊢
  have hl : lv_has ls 4 [(0, .ref (a 0)), (1, .int x1)] := hl
  refine lv_aload_n hx hb d_M_count_0 rfl (lv_at hl 0 rfl) ?_
  refine lv_iconst (v := 0) hx hb d_M_count_1 (by decide) ?_
  refine va_put (D := (dC, dI)) (ci := 4) (v := .int 0) (ty := .int) (C := R_M) (T := F_M) (N := 39) hx hb hts i_M t_M t_M_ok n_M hown hK hP hD hS 0 rfl rfl 0 (by decide) (hts _ m_f_M_1) (fun _ h9 => h9) rfl (by decide +kernel) rfl rfl (Nat.le_of_ble_eq_true rfl) d_M_count_2 (fun H locs hP hD hS => ?_)
  have hP : va_P (dC, dI) classes (w_M cA cZ a rv (upf X 0 (fun _ => 0))) H := hP
  have hD : va_D A (w_M cA cZ a rv (upf X 0 (fun _ => 0))) := hD
  refine lv_iconst (v := 0) hx hb d_M_count_5 (by decide) ?_
  refine lv_istore_n (lv' := [(2, .int 0), (0, .ref (a 0)), (1, .int x1)]) hx hb d_M_count_6 rfl hl (by decide) rfl (fun ls hl => ?_)
  refine lv_iconst (v := 0) hx hb d_M_count_7 (by decide) ?_
  refine lv_istore_n (lv' := [(3, .int 0), (2, .int 0), (0, .ref (a 0)), (1, .int x1)]) hx hb d_M_count_8 rfl hl (by decide) rfl (fun ls hl => ?_)
  have loop_9 : ∀ (n : Nat) (z3 z2 : Int32) (ls : Array Slot), (f_M_count X x1) = (f_M_count_L9 X x1 n z3 z2) → nc_mu (X 1 0) z3 < n → 0 ≤ z3.toInt → lv_has ls 4 [(0, .ref (a 0)), (1, .int x1), (3, .int z3), (2, .int z2)] → W p l e (headSpec ws_M_count rm_M_count).room s m [.ref (a 0), .int x1].toArray below meth c H locs 0 0 (MQ below (va_Qi (fun r (_ : Unit) => r = (f_M_count X x1).1) (fun _ t => va_P (dC, dI) classes (w_M cA cZ a rv (f_M_count X x1).2) t.heap ∧ va_D A (w_M cA cZ a rv (f_M_count X x1).2)) A) [.ref (a 0), .int x1].toArray s 0 0 A) (F0 m 9 ls []) := by
    intro n
    induction n with
    | zero =>
      intro z3 z2 ls hE hm h0_9 hl
      exact absurd hm (Nat.not_lt_zero _)
    | succ n ih =>
      intro z3 z2 ls hE hm h0_9 hl
      refine lv_iload_n hx hb d_M_count_9 rfl (lv_at hl 2 rfl) ?_
      refine lv_aload_n hx hb d_M_count_10 rfl (lv_at hl 0 rfl) ?_
      refine va_get (D := (dC, dI)) (ci := 4) (v := .int (X 1 0)) (C := R_M) (T := F_M) (N := 39) hx hb hts i_M hown hK hP 0 rfl rfl 1 (by decide) (hts _ m_f_M_69) (fun _ h9 => h9) rfl d_M_count_11 ?_
      refine lv_icmp_ge (tgt := 41) hx hb d_M_count_14 (by decide) (fun c_639 => ?_) (fun c_639 => ?_)
      · refine lv_iload_n hx hb d_M_count_41 rfl (lv_at hl 1 rfl) ?_
        by_cases c_640 : x1 = 0
        · refine lv_tableIn (tgt := 80) (off := 38) hx hb d_M_count_42 (by rw [c_640]; decide) (by rw [c_640]; decide) (by rw [c_640]; decide) (by decide) ?_
          refine lv_aload_n hx hb d_M_count_80 rfl (lv_at hl 0 rfl) ?_
          refine va_get (D := (dC, dI)) (ci := 4) (v := .int (X 1 0)) (C := R_M) (T := F_M) (N := 39) hx hb hts i_M hown hK hP 0 rfl rfl 1 (by decide) (hts _ m_f_M_69) (fun _ h9 => h9) rfl d_M_count_81 ?_
          have hF : (f_M_count X x1) = ((X 1 0), (upf X 0 (fun _ => 0))) := by rw [hE, f_M_count_L9, if_pos c_639, if_pos c_640]
          exact W.iret (v := (X 1 0)) hx hb hr (fun t ht hW => ⟨⟨(X 1 0), (), rfl, by rw [hF], by rw [hF, ht]; exact hP, by rw [hF]; exact hD⟩, hS.F ht⟩) hS.2.2 d_M_count_84
        · by_cases c_641 : x1 = 1
          · refine lv_tableIn (tgt := 85) (off := 43) hx hb d_M_count_42 (by rw [c_641]; decide) (by rw [c_641]; decide) (by rw [c_641]; decide) (by decide) ?_
            refine lv_aload_n hx hb d_M_count_85 rfl (lv_at hl 0 rfl) ?_
            refine nc_ro (va_runV (As := []) (rest := []) hfix (c_M_there l dC dI cA cZ a rv (upf X 0 (fun _ => 0)) hmt) (k_M_152 hts hN ⟨Nat.le_of_ble_eq_true rfl, Nat.le_of_ble_eq_true rfl⟩) (nc_preVZ hK hN hP hD rfl rfl) rfl rfl hl.1 rfl (lv_room (Nat.le_of_ble_eq_true rfl)) d_M_count_86 ⟨Nat.zero_le _, Nat.zero_le _⟩) (fun r er => ?_)
            subst er
            refine nc_ro (va_runS (As := [.int (f_M_there (upf X 0 (fun _ => 0)))]) (rest := []) hfix (c_bitCount l dC dI cA (f_M_there (upf X 0 (fun _ => 0)))) (k_M_155 hts hN ⟨Nat.le_of_ble_eq_true rfl, Nat.le_of_ble_eq_true rfl⟩) (nc_preS0 hK1 hN) rfl rfl hl.1 rfl (lv_room (Nat.le_of_ble_eq_true rfl)) d_M_count_89 ⟨Nat.zero_le _, Nat.zero_le _⟩) (fun r er => ?_)
            subst er
            have hF : (f_M_count X x1) = ((f_bitCount (f_M_there (upf X 0 (fun _ => 0)))), (upf X 0 (fun _ => 0))) := by rw [hE, f_M_count_L9, if_pos c_639, if_neg c_640, if_pos c_641]
            exact W.iret (v := (f_bitCount (f_M_there (upf X 0 (fun _ => 0))))) hx hb hr (fun t ht hW => ⟨⟨(f_bitCount (f_M_there (upf X 0 (fun _ => 0)))), (), rfl, by rw [hF], by rw [hF, ht]; exact hP, by rw [hF]; exact hD⟩, hS.F ht⟩) hS.2.2 d_M_count_92
          · by_cases c_642 : x1 = 2
            · refine lv_tableIn (tgt := 93) (off := 51) hx hb d_M_count_42 (by rw [c_642]; decide) (by rw [c_642]; decide) (by rw [c_642]; decide) (by decide) ?_
              refine lv_iload_n hx hb d_M_count_93 rfl (lv_at hl 3 rfl) ?_
              have hF : (f_M_count X x1) = (z2, (upf X 0 (fun _ => 0))) := by rw [hE, f_M_count_L9, if_pos c_639, if_neg c_640, if_neg c_641, if_pos c_642]
              exact W.iret (v := z2) hx hb hr (fun t ht hW => ⟨⟨z2, (), rfl, by rw [hF], by rw [hF, ht]; exact hP, by rw [hF]; exact hD⟩, hS.F ht⟩) hS.2.2 d_M_count_94
            · by_cases c_643 : x1 = 3
              · refine lv_tableIn (tgt := 95) (off := 53) hx hb d_M_count_42 (by rw [c_643]; decide) (by rw [c_643]; decide) (by rw [c_643]; decide) (by decide) ?_
                refine lv_aload_n hx hb d_M_count_95 rfl (lv_at hl 0 rfl) ?_
                refine va_get (D := (dC, dI)) (ci := 4) (v := .int (X 11 0)) (C := R_M) (T := F_M) (N := 39) hx hb hts i_M hown hK hP 0 rfl rfl 11 (by decide) (hts _ m_f_M_88) (fun _ h9 => h9) rfl d_M_count_96 ?_
                have hF : (f_M_count X x1) = ((X 11 0), (upf X 0 (fun _ => 0))) := by rw [hE, f_M_count_L9, if_pos c_639, if_neg c_640, if_neg c_641, if_neg c_642, if_pos c_643]
                exact W.iret (v := (X 11 0)) hx hb hr (fun t ht hW => ⟨⟨(X 11 0), (), rfl, by rw [hF], by rw [hF, ht]; exact hP, by rw [hF]; exact hD⟩, hS.F ht⟩) hS.2.2 d_M_count_99
              · by_cases c_644 : x1 = 4
                · refine lv_tableIn (tgt := 100) (off := 58) hx hb d_M_count_42 (by rw [c_644]; decide) (by rw [c_644]; decide) (by rw [c_644]; decide) (by decide) ?_
                  refine lv_aload_n hx hb d_M_count_100 rfl (lv_at hl 0 rfl) ?_
                  refine va_get (D := (dC, dI)) (ci := 4) (v := .int (X 26 0)) (C := R_M) (T := F_M) (N := 39) hx hb hts i_M hown hK hP 0 rfl rfl 26 (by decide) (hts _ m_f_M_185) (fun _ h9 => h9) rfl d_M_count_101 ?_
                  have hF : (f_M_count X x1) = ((X 26 0), (upf X 0 (fun _ => 0))) := by rw [hE, f_M_count_L9, if_pos c_639, if_neg c_640, if_neg c_641, if_neg c_642, if_neg c_643, if_pos c_644]
                  exact W.iret (v := (X 26 0)) hx hb hr (fun t ht hW => ⟨⟨(X 26 0), (), rfl, by rw [hF], by rw [hF, ht]; exact hP, by rw [hF]; exact hD⟩, hS.F ht⟩) hS.2.2 d_M_count_104
                · by_cases c_645 : x1 = 5
                  · refine lv_tableIn (tgt := 105) (off := 63) hx hb d_M_count_42 (by rw [c_645]; decide) (by rw [c_645]; decide) (by rw [c_645]; decide) (by decide) ?_
                    refine lv_aload_n hx hb d_M_count_105 rfl (lv_at hl 0 rfl) ?_
                    refine va_get (D := (dC, dI)) (ci := 4) (v := .int (X 9 0)) (C := R_M) (T := F_M) (N := 39) hx hb hts i_M hown hK hP 0 rfl rfl 9 (by decide) (hts _ m_f_M_35) (fun _ h9 => h9) rfl d_M_count_106 ?_
                    have hF : (f_M_count X x1) = ((X 9 0), (upf X 0 (fun _ => 0))) := by rw [hE, f_M_count_L9, if_pos c_639, if_neg c_640, if_neg c_641, if_neg c_642, if_neg c_643, if_neg c_644, if_pos c_645]
                    exact W.iret (v := (X 9 0)) hx hb hr (fun t ht hW => ⟨⟨(X 9 0), (), rfl, by rw [hF], by rw [hF, ht]; exact hP, by rw [hF]; exact hD⟩, hS.F ht⟩) hS.2.2 d_M_count_109
                  · refine lv_tableOut (tgt := 110) hx hb d_M_count_42 (by have q0 := lv_neT c_640 L_0; have q1 := lv_neT c_641 L_1; have q2 := lv_neT c_642 L_2; have q3 := lv_neT c_643 L_3; have q4 := lv_neT c_644 L_4; have q5 := lv_neT c_645 L_5; omega) (by decide) ?_
                    refine lv_iconst (v := (-1)) hx hb d_M_count_110 (by decide) ?_
                    have hF : (f_M_count X x1) = ((-1), (upf X 0 (fun _ => 0))) := by rw [hE, f_M_count_L9, if_pos c_639, if_neg c_640, if_neg c_641, if_neg c_642, if_neg c_643, if_neg c_644, if_neg c_645]
                    exact W.iret (v := (-1)) hx hb hr (fun t ht hW => ⟨⟨(-1), (), rfl, by rw [hF], by rw [hF, ht]; exact hP, by rw [hF]; exact hD⟩, hS.F ht⟩) hS.2.2 d_M_count_111
      · refine lv_aload_n hx hb d_M_count_17 rfl (lv_at hl 0 rfl) ?_
        refine va_get (D := (dC, dI)) (ci := 4) (v := .ref (a 4)) (C := R_M) (T := F_M) (N := 39) hx hb hts i_M hown hK hP 0 rfl rfl 5 (by decide) (hts _ m_f_M_23) (fun _ h9 => h9) rfl d_M_count_18 ?_
        refine lv_iload_n hx hb d_M_count_21 rfl (lv_at hl 2 rfl) ?_
        refine va_iald (f := (X 5)) hx hb hK hP 4 0 rfl rfl (by have q0 := nc_nle c_639 rfl rfl; have q1 := hmt.1; have q2 := hmt.2; have q3 := h0_9; exact vp_in_iff.mpr ⟨by omega, by omega⟩) d_M_count_22 ?_
        refine lv_iconst (v := 2) hx hb d_M_count_23 (by decide) ?_
        refine lv_icmp_ne (tgt := 33) hx hb d_M_count_24 (by decide) (fun c_646 => ?_) (fun c_646 => ?_)
        · refine lv_iload_n hx hb d_M_count_33 rfl (lv_at hl 3 rfl) ?_
          refine lv_istore_n (lv' := [(2, .int z2), (0, .ref (a 0)), (1, .int x1), (3, .int z3)]) hx hb d_M_count_34 rfl hl (by decide) rfl (fun ls hl => ?_)
          refine lv_iinc (v := (z3 + 1)) (lv' := [(3, .int (z3 + 1)), (2, .int z2), (0, .ref (a 0)), (1, .int x1)]) hx hb d_M_count_35 hl (k := 3) rfl rfl (by decide) rfl (fun ls hl => ?_)
          refine lv_goto (tgt := 9) hx hb d_M_count_38 (by decide) ?_
          exact ih (z3 + 1) z2 ls (by rw [hE, f_M_count_L9, if_neg c_639, if_neg c_646]) (nc_mu_step c_639 hm) (nc_i_step c_639 h0_9) (lv_sub hl [2, 3, 0, 1] rfl)
        · refine lv_iload_n hx hb d_M_count_27 rfl (lv_at hl 3 rfl) ?_
          refine lv_iconst (v := 1) hx hb d_M_count_28 (by decide) ?_
          refine lv_iadd hx hb d_M_count_29 ?_
          refine lv_goto (tgt := 34) hx hb d_M_count_30 (by decide) ?_
          refine lv_istore_n (lv' := [(2, .int (z2 + 1)), (0, .ref (a 0)), (1, .int x1), (3, .int z3)]) hx hb d_M_count_34 rfl hl (by decide) rfl (fun ls hl => ?_)
          refine lv_iinc (v := (z3 + 1)) (lv' := [(3, .int (z3 + 1)), (2, .int (z2 + 1)), (0, .ref (a 0)), (1, .int x1)]) hx hb d_M_count_35 hl (k := 3) rfl rfl (by decide) rfl (fun ls hl => ?_)
          refine lv_goto (tgt := 9) hx hb d_M_count_38 (by decide) ?_
          exact ih (z3 + 1) (z2 + 1) ls (by rw [hE, f_M_count_L9, if_neg c_639, if_pos c_646]) (nc_mu_step c_639 hm) (nc_i_step c_639 h0_9) (lv_sub hl [2, 3, 0, 1] rfl)
  exact loop_9 (nc_mu (X 1 0) 0 + 1) 0 0 ls (by rw [f_M_count]) (Nat.lt_succ_self _) (by decide) (lv_sub hl [2, 3, 0, 1] rfl)
def f_M_fits (X : Nat → Nat → Int32) (x1 : Int32) : Int32 × (Nat → Nat → Int32) := (if (f_M_noThing (upf X 0 (fun _ => 0)) x1) = 0 then (if ((f_M_readDescriptionR (f_M_beginR (upf X 0 (fun _ => 0)) (X 11 0))) 15 0) = 0 then (if ((f_M_readDescriptionR (f_M_beginR (upf X 0 (fun _ => 0)) (X 11 0))) 13 0) ≤ ((f_M_readDescriptionR (f_M_beginR (upf X 0 (fun _ => 0)) (X 11 0))) 14 0) then ((f_M_fit (f_M_readDescriptionR (f_M_beginR (upf X 0 (fun _ => 0)) (X 11 0))) x1), (f_M_readDescriptionR (f_M_beginR (upf X 0 (fun _ => 0)) (X 11 0)))) else ((-2), (f_M_readDescriptionR (f_M_beginR (upf X 0 (fun _ => 0)) (X 11 0))))) else ((-2), (f_M_readDescriptionR (f_M_beginR (upf X 0 (fun _ => 0)) (X 11 0))))) else ((-1), (upf X 0 (fun _ => 0))))
abbrev ws_M_fits : List Cond := .code y_M_fits b_M_fits 2 (some .int) :: lw_G
abbrev rm_M_fits : Room := { frames := 3, cells := 0, slots := 0, locals := 68 }
set_option maxHeartbeats 4000000 in
set_option maxRecDepth 100000 in
theorem c_M_fits (l : Launch) (dC : Nat → ClassId) (dI : Nat → Nat → Nat) (cA cZ : ClassId) (sz : Nat) (a : Nat → Nat) (rv : Value) (X : Nat → Nat → Int32) (x1 : Int32) (hmt : m_t X) (hmk : m_k X) (hms : 0 ≤ (X 11 0).toInt ∧ (X 11 0).toInt ≤ 30) : Met l y_M_fits ws_M_fits rm_M_fits (nc_PreZM (dC, dI) cA cZ sz [.ref (a 0), .int x1] (w_M cA cZ a rv X)) (va_Qi (fun r (_ : Value) => r = (f_M_fits X x1).1) (fun (u : Value) t => va_P (dC, dI) classes (w_M cA cZ a u (f_M_fits X x1).2) t.heap ∧ va_D (va_A (w_M cA cZ a rv X) sz) (w_M cA cZ a u (f_M_fits X x1).2)) (va_A (w_M cA cZ a rv X) sz)) 0 0 (va_A (w_M cA cZ a rv X) sz) := by
  refine Met.ofW (cc := b_M_fits) (maxL := 2) (ret := (some .int)) (by decide) rfl ?_
  intro p e s m args below meth c s₁ B hml hv
  obtain ⟨rfl, hsz, hP, hK, hD0, hN⟩ := hv
  have hx := B.exec
  have hb := B.bytes
  have hr := B.returns
  have hts : ∀ w ∈ lw_G, w.before [.ref (a 0), .int x1].toArray s = true := fun w h => atoms_spec (ws := ws_M_fits) B.pre w (List.mem_cons_of_mem _ h)
  have hown : s.vm.findClass R_M = some m.cls := findClass_of_methodNamed B.named
  have hlocks := B.notSynchronized
  have hfix : CallFix p m c b_M_fits 2 s [.ref (a 0), .int x1].toArray lw_G R_M := ⟨hx, hb, hml, hown, hts⟩
  have hK1 := hK.sub (tys' := [(cA, .int)]) [0] rfl
  subst hsz
  have hD := hD0.self (sz := s.heap.size)
  generalize hAe : va_A (w_M cA cZ a rv X) s.heap.size = A at hD ⊢
  have hA : ∀ q : Nat, s.heap.size ≤ q → A q := fun q h => by rw [← hAe]; exact Or.inr h
  have hS : va_S A s.heap s.heap [] := va_S.rf
  have hl := lv_entry ([.ref (a 0), .int x1]) (n := 2) (Nat.le_of_ble_eq_true rfl)
  rw [lg_entry_eq]
  generalize (lg_sl ([.ref (a 0), .int x1]) ++ List.replicate (2 - (lg_sl ([.ref (a 0), .int x1])).length) Slot.unset).toArray = ls at hl ⊢
  have hl : lv_has ls 2 [(0, .ref (a 0)), (1, .int x1)] := hl
  refine lv_aload_n hx hb d_M_fits_0 rfl (lv_at hl 0 rfl) ?_
  refine lv_iconst (v := 0) hx hb d_M_fits_1 (by decide) ?_
  refine va_put (D := (dC, dI)) (ci := 4) (v := .int 0) (ty := .int) (C := R_M) (T := F_M) (N := 39) hx hb hts i_M t_M t_M_ok n_M hown hK hP hD hS 0 rfl rfl 0 (by decide) (hts _ m_f_M_1) (fun _ h9 => h9) rfl (by decide +kernel) rfl rfl (Nat.le_of_ble_eq_true rfl) d_M_fits_2 (fun H locs hP hD hS => ?_)
  have hP : va_P (dC, dI) classes (w_M cA cZ a rv (upf X 0 (fun _ => 0))) H := hP
  have hD : va_D A (w_M cA cZ a rv (upf X 0 (fun _ => 0))) := hD
  refine lv_aload_n hx hb d_M_fits_5 rfl (lv_at hl 0 rfl) ?_
  refine lv_iload_n hx hb d_M_fits_6 rfl (lv_at hl 1 rfl) ?_
  refine nc_ro (va_runV (As := [.int x1]) (rest := []) hfix (c_M_noThing l dC dI cA cZ a rv (upf X 0 (fun _ => 0)) x1) (k_M_76 hts hN ⟨Nat.le_of_ble_eq_true rfl, Nat.le_of_ble_eq_true rfl⟩) (nc_preVZ hK hN hP hD rfl rfl) rfl rfl hl.1 rfl (lv_room (Nat.le_of_ble_eq_true rfl)) d_M_fits_7 ⟨Nat.zero_le _, Nat.zero_le _⟩) (fun r er => ?_)
  obtain ⟨rfl, hz_647⟩ := er
  refine lv_if_eq (tgt := 15) hx hb d_M_fits_10 (by decide) (fun c_648 => ?_) (fun c_648 => ?_)
  · refine lv_aload_n hx hb d_M_fits_15 rfl (lv_at hl 0 rfl) ?_
    refine lv_aload_n hx hb d_M_fits_16 rfl (lv_at hl 0 rfl) ?_
    refine va_get (D := (dC, dI)) (ci := 4) (v := .ref (a 8)) (C := R_M) (T := F_M) (N := 39) hx hb hts i_M hown hK hP 0 rfl rfl 10 (by decide) (hts _ m_f_M_38) (fun _ h9 => h9) rfl d_M_fits_17 ?_
    refine lv_aload_n hx hb d_M_fits_20 rfl (lv_at hl 0 rfl) ?_
    refine va_get (D := (dC, dI)) (ci := 4) (v := .int (X 11 0)) (C := R_M) (T := F_M) (N := 39) hx hb hts i_M hown hK hP 0 rfl rfl 11 (by decide) (hts _ m_f_M_88) (fun _ h9 => h9) rfl d_M_fits_21 ?_
    have hFc := nc_free hD hS hA
    refine nc_muv (va_runV (As := [.ref (a 8), .int (X 11 0)]) (rest := []) hfix (c_M_beginR l dC dI cA cZ H.size a rv (upf X 0 (fun _ => 0)) (X 11 0)) (k_M_130 hts hN ⟨Nat.le_of_ble_eq_true rfl, Nat.le_of_ble_eq_true rfl⟩) (nc_preVZM hK hN hP hD rfl rfl) rfl rfl hl.1 rfl (lv_room (Nat.le_of_ble_eq_true rfl)) d_M_fits_24 ⟨Nat.zero_le _, Nat.zero_le _⟩) hS hFc (fun H locs hP1 hD1 hk1 hS => ?_)
    have hP : va_P (dC, dI) classes (w_M cA cZ a (.ref (a 8)) (f_M_beginR (upf X 0 (fun _ => 0)) (X 11 0))) H := hP1
    have hD : va_D A (w_M cA cZ a (.ref (a 8)) (f_M_beginR (upf X 0 (fun _ => 0)) (X 11 0))) := hD1.weaken (fun _ q _ h => hFc q.1 h)
    refine lv_aload_n hx hb d_M_fits_27 rfl (lv_at hl 0 rfl) ?_
    have hFc := nc_free hD hS hA
    refine nc_muv (va_runV (As := []) (rest := []) hfix (c_M_readDescriptionR l dC dI cA cZ H.size a (f_M_beginR (upf X 0 (fun _ => 0)) (X 11 0)) (bg_aR hms.2)) (k_M_134 hts hN ⟨Nat.le_of_ble_eq_true rfl, Nat.le_of_ble_eq_true rfl⟩) (nc_preVZM hK hN hP hD rfl rfl) rfl rfl hl.1 rfl (lv_room (Nat.le_of_ble_eq_true rfl)) d_M_fits_28 ⟨Nat.zero_le _, Nat.zero_le _⟩) hS hFc (fun H locs hP1 hD1 hk1 hS => ?_)
    have hP : va_P (dC, dI) classes (w_M cA cZ a (.ref (a 8)) (f_M_readDescriptionR (f_M_beginR (upf X 0 (fun _ => 0)) (X 11 0)))) H := hP1
    have hD : va_D A (w_M cA cZ a (.ref (a 8)) (f_M_readDescriptionR (f_M_beginR (upf X 0 (fun _ => 0)) (X 11 0)))) := hD1.weaken (fun _ q _ h => hFc q.1 h)
    refine lv_aload_n hx hb d_M_fits_31 rfl (lv_at hl 0 rfl) ?_
    refine va_get (D := (dC, dI)) (ci := 4) (v := .int ((f_M_readDescriptionR (f_M_beginR (upf X 0 (fun _ => 0)) (X 11 0))) 15 0)) (C := R_M) (T := F_M) (N := 39) hx hb hts i_M hown hK hP 0 rfl rfl 15 (by decide) (hts _ m_f_M_100) (fun _ h9 => h9) rfl d_M_fits_32 ?_
    refine lv_if_ne (tgt := 49) hx hb d_M_fits_35 (by decide) (fun c_649 => ?_) (fun c_649 => ?_)
    · refine lv_bipush (v := (-2)) hx hb d_M_fits_49 (by decide) ?_
      refine lv_goto (tgt := 59) hx hb d_M_fits_51 (by decide) ?_
      have hF : (f_M_fits X x1) = ((-2), (f_M_readDescriptionR (f_M_beginR (upf X 0 (fun _ => 0)) (X 11 0)))) := by rw [f_M_fits, if_pos c_648, if_neg c_649]
      exact W.iret (v := (-2)) hx hb hr (fun t ht hW => ⟨⟨(-2), (.ref (a 8)), rfl, by rw [hF], by rw [hF, ht]; exact hP, by rw [hF]; exact hD⟩, hS.F ht⟩) hS.2.2 d_M_fits_59
    · refine lv_aload_n hx hb d_M_fits_38 rfl (lv_at hl 0 rfl) ?_
      refine va_get (D := (dC, dI)) (ci := 4) (v := .int ((f_M_readDescriptionR (f_M_beginR (upf X 0 (fun _ => 0)) (X 11 0))) 14 0)) (C := R_M) (T := F_M) (N := 39) hx hb hts i_M hown hK hP 0 rfl rfl 14 (by decide) (hts _ m_f_M_97) (fun _ h9 => h9) rfl d_M_fits_39 ?_
      refine lv_aload_n hx hb d_M_fits_42 rfl (lv_at hl 0 rfl) ?_
      refine va_get (D := (dC, dI)) (ci := 4) (v := .int ((f_M_readDescriptionR (f_M_beginR (upf X 0 (fun _ => 0)) (X 11 0))) 13 0)) (C := R_M) (T := F_M) (N := 39) hx hb hts i_M hown hK hP 0 rfl rfl 13 (by decide) (hts _ m_f_M_94) (fun _ h9 => h9) rfl d_M_fits_43 ?_
      refine lv_icmp_ge (tgt := 54) hx hb d_M_fits_46 (by decide) (fun c_650 => ?_) (fun c_650 => ?_)
      · refine lv_aload_n hx hb d_M_fits_54 rfl (lv_at hl 0 rfl) ?_
        refine lv_iload_n hx hb d_M_fits_55 rfl (lv_at hl 1 rfl) ?_
        refine nc_ro (va_runV (As := [.int x1]) (rest := []) hfix (c_M_fit l dC dI cA cZ a (.ref (a 8)) (f_M_readDescriptionR (f_M_beginR (upf X 0 (fun _ => 0)) (X 11 0))) x1 (by have q0 := nc_eq c_648 rfl (L_0); have q1 := nc_eq c_649 rfl (L_0); have q2 := nc_le c_650 rfl rfl; have q3 := hmt.1; have q4 := hmt.2; have q5 := hms.1; have q6 := hms.2; have q7 := noThing_zero hmt c_648; exact ⟨by omega, by omega⟩) (rd_kR (bg_kR hmk)) (rdR_w c_649)) (k_M_127 hts hN ⟨Nat.le_of_ble_eq_true rfl, Nat.le_of_ble_eq_true rfl⟩) (nc_preVZ hK hN hP hD rfl rfl) rfl rfl hl.1 rfl (lv_room (Nat.le_of_ble_eq_true rfl)) d_M_fits_56 ⟨Nat.zero_le _, Nat.zero_le _⟩) (fun r er => ?_)
        subst er
        have hF : (f_M_fits X x1) = ((f_M_fit (f_M_readDescriptionR (f_M_beginR (upf X 0 (fun _ => 0)) (X 11 0))) x1), (f_M_readDescriptionR (f_M_beginR (upf X 0 (fun _ => 0)) (X 11 0)))) := by rw [f_M_fits, if_pos c_648, if_pos c_649, if_pos c_650]
        exact W.iret (v := (f_M_fit (f_M_readDescriptionR (f_M_beginR (upf X 0 (fun _ => 0)) (X 11 0))) x1)) hx hb hr (fun t ht hW => ⟨⟨(f_M_fit (f_M_readDescriptionR (f_M_beginR (upf X 0 (fun _ => 0)) (X 11 0))) x1), (.ref (a 8)), rfl, by rw [hF], by rw [hF, ht]; exact hP, by rw [hF]; exact hD⟩, hS.F ht⟩) hS.2.2 d_M_fits_59
      · refine lv_bipush (v := (-2)) hx hb d_M_fits_49 (by decide) ?_
        refine lv_goto (tgt := 59) hx hb d_M_fits_51 (by decide) ?_
        have hF : (f_M_fits X x1) = ((-2), (f_M_readDescriptionR (f_M_beginR (upf X 0 (fun _ => 0)) (X 11 0)))) := by rw [f_M_fits, if_pos c_648, if_pos c_649, if_neg c_650]
        exact W.iret (v := (-2)) hx hb hr (fun t ht hW => ⟨⟨(-2), (.ref (a 8)), rfl, by rw [hF], by rw [hF, ht]; exact hP, by rw [hF]; exact hD⟩, hS.F ht⟩) hS.2.2 d_M_fits_59
  · refine lv_iconst (v := (-1)) hx hb d_M_fits_13 (by decide) ?_
    have hF : (f_M_fits X x1) = ((-1), (upf X 0 (fun _ => 0))) := by rw [f_M_fits, if_neg c_648]
    exact W.iret (v := (-1)) hx hb hr (fun t ht hW => ⟨⟨(-1), rv, rfl, by rw [hF], by rw [hF, ht]; exact hP, by rw [hF]; exact hD⟩, hS.F ht⟩) hS.2.2 d_M_fits_14
