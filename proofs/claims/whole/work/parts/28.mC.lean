def f_M_hasWord (X : Nat → Nat → Int32) (x1 x2 : Int32) : Int32 := (f_M_has (((X 2) x1.toNatClampNeg) ||| ((X 3) x1.toNatClampNeg)) x2)
abbrev ws_M_hasWord : List Cond := .code y_M_hasWord b_M_hasWord 3 (some .boolean) :: lw_G
abbrev rm_M_hasWord : Room := { frames := 1, cells := 0, slots := 0, locals := 21 }
set_option maxHeartbeats 4000000 in
set_option maxRecDepth 100000 in
theorem c_M_hasWord (l : Launch) (dC : Nat → ClassId) (dI : Nat → Nat → Nat) (cA cZ : ClassId) (a : Nat → Nat) (rv : Value) (X : Nat → Nat → Int32) (x1 x2 : Int32) (ht : 0 ≤ x1.toInt ∧ x1.toInt < 32) : Met l y_M_hasWord ws_M_hasWord rm_M_hasWord (nc_PreZ (dC, dI) cA cZ [.ref (a 0), .int x1, .int x2] (w_M cA cZ a rv X)) (vp_Si (fun r => (r = (f_M_hasWord X x1 x2) ∧ narrow .boolean (.int r) = .int r))) 0 0 (fun _ => False) := by
  refine Met.ofW (cc := b_M_hasWord) (maxL := 3) (ret := (some .boolean)) (by decide) rfl ?_
  intro p e s m args below meth c s₁ B hml hv
  obtain ⟨rfl, hP, hK, hD, hN⟩ := hv
  have hx := B.exec
  have hb := B.bytes
  have hr := B.returns
  have hts : ∀ w ∈ lw_G, w.before [.ref (a 0), .int x1, .int x2].toArray s = true := fun w h => atoms_spec (ws := ws_M_hasWord) B.pre w (List.mem_cons_of_mem _ h)
  have hown : s.vm.findClass R_M = some m.cls := findClass_of_methodNamed B.named
  have hlocks := B.notSynchronized
  have hfix : CallFix p m c b_M_hasWord 3 s [.ref (a 0), .int x1, .int x2].toArray lw_G R_M := ⟨hx, hb, hml, hown, hts⟩
  have hK1 := hK.sub (tys' := [(cA, .int)]) [0] rfl
  have hl := lv_entry ([.ref (a 0), .int x1, .int x2]) (n := 3) (Nat.le_of_ble_eq_true rfl)
  rw [lg_entry_eq]
  generalize (lg_sl ([.ref (a 0), .int x1, .int x2]) ++ List.replicate (3 - (lg_sl ([.ref (a 0), .int x1, .int x2])).length) Slot.unset).toArray = ls at hl ⊢
  have hl : lv_has ls 3 [(0, .ref (a 0)), (1, .int x1), (2, .int x2)] := hl
  refine lv_aload_n hx hb d_M_hasWord_0 rfl (lv_at hl 0 rfl) ?_
  refine va_get (D := (dC, dI)) (ci := 4) (v := .ref (a 1)) (C := R_M) (T := F_M) (N := 39) hx hb hts i_M hown hK hP 0 rfl rfl 2 (by decide) (hts _ m_f_M_13) (fun _ h9 => h9) rfl d_M_hasWord_1 ?_
  refine lv_iload_n hx hb d_M_hasWord_4 rfl (lv_at hl 1 rfl) ?_
  refine va_iald (f := (X 2)) hx hb hK hP 1 0 rfl rfl (by have q0 := ht.1; have q1 := ht.2; exact vp_in_iff.mpr ⟨by omega, by omega⟩) d_M_hasWord_5 ?_
  refine lv_aload_n hx hb d_M_hasWord_6 rfl (lv_at hl 0 rfl) ?_
  refine va_get (D := (dC, dI)) (ci := 4) (v := .ref (a 2)) (C := R_M) (T := F_M) (N := 39) hx hb hts i_M hown hK hP 0 rfl rfl 3 (by decide) (hts _ m_f_M_17) (fun _ h9 => h9) rfl d_M_hasWord_7 ?_
  refine lv_iload_n hx hb d_M_hasWord_10 rfl (lv_at hl 1 rfl) ?_
  refine va_iald (f := (X 3)) hx hb hK hP 2 0 rfl rfl (by have q0 := ht.1; have q1 := ht.2; exact vp_in_iff.mpr ⟨by omega, by omega⟩) d_M_hasWord_11 ?_
  refine lv_ior hx hb d_M_hasWord_12 ?_
  refine lv_iload_n hx hb d_M_hasWord_13 rfl (lv_at hl 2 rfl) ?_
  refine nc_ro (va_runS (As := [.int (((X 2) x1.toNatClampNeg) ||| ((X 3) x1.toNatClampNeg)), .int x2]) (rest := []) hfix (c_M_has l dC dI cA (((X 2) x1.toNatClampNeg) ||| ((X 3) x1.toNatClampNeg)) x2) (k_M_114 hts hN ⟨Nat.le_of_ble_eq_true rfl, Nat.le_of_ble_eq_true rfl⟩) (nc_preS0 hK1 hN) rfl rfl hl.1 rfl (lv_room (Nat.le_of_ble_eq_true rfl)) d_M_hasWord_14 ⟨Nat.zero_le _, Nat.zero_le _⟩) (fun r er => ?_)
  obtain ⟨rfl, hz_523⟩ := er
  exact W.zret (v := (f_M_has (((X 2) x1.toNatClampNeg) ||| ((X 3) x1.toNatClampNeg)) x2)) hx hb hr hz_523 (fun t ht hW => ⟨(f_M_has (((X 2) x1.toNatClampNeg) ||| ((X 3) x1.toNatClampNeg)) x2), rfl, ⟨by rw [f_M_hasWord], hz_523⟩, ht⟩) (fun _ h => nomatch h) d_M_hasWord_17
def f_M_fit_L4 (X : Nat → Nat → Int32) (x1 : Int32) : Nat → Int32 → Int32 → Int32
  | 0, z3, z2 => 0
  | n + 1, z3, z2 => (if ((X 18 0) - 1) ≤ z3 then (if (f_M_has (X 16 0) 2) = 0 then (if (f_M_has (X 16 0) 3) = 0 then (if z2 = 0 then 0 else (if (f_M_has ((X 2) x1.toNatClampNeg) ((X 17) (((X 18 0) - 1)).toNatClampNeg)) = 0 then (if ((X 4) x1.toNatClampNeg) < 0 then ((0 : Int32) + 0) else (if ((X 7) (((X 4) x1.toNatClampNeg)).toNatClampNeg) = ((X 17) (((X 18 0) - 1)).toNatClampNeg) then ((0 : Int32) + 2) else ((0 : Int32) + 0))) else (if ((X 4) x1.toNatClampNeg) < 0 then ((1 : Int32) + 0) else (if ((X 7) (((X 4) x1.toNatClampNeg)).toNatClampNeg) = ((X 17) (((X 18 0) - 1)).toNatClampNeg) then ((1 : Int32) + 2) else ((1 : Int32) + 0))))) else (if (f_M_has (X 31 0) x1) = 0 then (if z2 = 0 then 0 else (if (f_M_has ((X 2) x1.toNatClampNeg) ((X 17) (((X 18 0) - 1)).toNatClampNeg)) = 0 then (if ((X 4) x1.toNatClampNeg) < 0 then ((0 : Int32) + 0) else (if ((X 7) (((X 4) x1.toNatClampNeg)).toNatClampNeg) = ((X 17) (((X 18 0) - 1)).toNatClampNeg) then ((0 : Int32) + 2) else ((0 : Int32) + 0))) else (if ((X 4) x1.toNatClampNeg) < 0 then ((1 : Int32) + 0) else (if ((X 7) (((X 4) x1.toNatClampNeg)).toNatClampNeg) = ((X 17) (((X 18 0) - 1)).toNatClampNeg) then ((1 : Int32) + 2) else ((1 : Int32) + 0))))) else (if z2 = 0 then 0 else 0))) else (if ((X 5) x1.toNatClampNeg) = 2 then (if (f_M_has (X 16 0) 3) = 0 then (if z2 = 0 then 0 else (if (f_M_has ((X 2) x1.toNatClampNeg) ((X 17) (((X 18 0) - 1)).toNatClampNeg)) = 0 then (if ((X 4) x1.toNatClampNeg) < 0 then ((0 : Int32) + 0) else (if ((X 7) (((X 4) x1.toNatClampNeg)).toNatClampNeg) = ((X 17) (((X 18 0) - 1)).toNatClampNeg) then ((0 : Int32) + 2) else ((0 : Int32) + 0))) else (if ((X 4) x1.toNatClampNeg) < 0 then ((1 : Int32) + 0) else (if ((X 7) (((X 4) x1.toNatClampNeg)).toNatClampNeg) = ((X 17) (((X 18 0) - 1)).toNatClampNeg) then ((1 : Int32) + 2) else ((1 : Int32) + 0))))) else (if (f_M_has (X 31 0) x1) = 0 then (if z2 = 0 then 0 else (if (f_M_has ((X 2) x1.toNatClampNeg) ((X 17) (((X 18 0) - 1)).toNatClampNeg)) = 0 then (if ((X 4) x1.toNatClampNeg) < 0 then ((0 : Int32) + 0) else (if ((X 7) (((X 4) x1.toNatClampNeg)).toNatClampNeg) = ((X 17) (((X 18 0) - 1)).toNatClampNeg) then ((0 : Int32) + 2) else ((0 : Int32) + 0))) else (if ((X 4) x1.toNatClampNeg) < 0 then ((1 : Int32) + 0) else (if ((X 7) (((X 4) x1.toNatClampNeg)).toNatClampNeg) = ((X 17) (((X 18 0) - 1)).toNatClampNeg) then ((1 : Int32) + 2) else ((1 : Int32) + 0))))) else (if z2 = 0 then 0 else 0))) else (if (f_M_has (X 16 0) 3) = 0 then (if z2 = 0 then 0 else 0) else (if (f_M_has (X 31 0) x1) = 0 then (if z2 = 0 then 0 else 0) else (if z2 = 0 then 0 else 0))))) else (if z2 = 0 then (f_M_fit_L4 X x1 n (z3 + 1) 0) else (if (f_M_hasWord X x1 ((X 17) z3.toNatClampNeg)) = 0 then (f_M_fit_L4 X x1 n (z3 + 1) 0) else (f_M_fit_L4 X x1 n (z3 + 1) 1))))
def f_M_fit (X : Nat → Nat → Int32) (x1 : Int32) : Int32 := (f_M_fit_L4 X x1 (nc_mu ((X 18 0) - 1) 0 + 1) 0 1)
abbrev ws_M_fit : List Cond := .code y_M_fit b_M_fit 6 (some .int) :: lw_G
abbrev rm_M_fit : Room := { frames := 2, cells := 0, slots := 0, locals := 43 }
set_option maxHeartbeats 4000000 in
set_option maxRecDepth 100000 in
theorem c_M_fit (l : Launch) (dC : Nat → ClassId) (dI : Nat → Nat → Nat) (cA cZ : ClassId) (a : Nat → Nat) (rv : Value) (X : Nat → Nat → Int32) (x1 : Int32) (ht : 0 ≤ x1.toInt ∧ x1.toInt < 32) (hmk : m_k X) (hw : 1 ≤ (X 18 0).toInt ∧ (X 18 0).toInt ≤ 6) : Met l y_M_fit ws_M_fit rm_M_fit (nc_PreZ (dC, dI) cA cZ [.ref (a 0), .int x1] (w_M cA cZ a rv X)) (vp_Si (fun r => r = (f_M_fit X x1))) 0 0 (fun _ => False) := by
  refine Met.ofW (cc := b_M_fit) (maxL := 6) (ret := (some .int)) (by decide) rfl ?_
  intro p e s m args below meth c s₁ B hml hv
  obtain ⟨rfl, hP, hK, hD, hN⟩ := hv
  have hx := B.exec
  have hb := B.bytes
  have hr := B.returns
  have hts : ∀ w ∈ lw_G, w.before [.ref (a 0), .int x1].toArray s = true := fun w h => atoms_spec (ws := ws_M_fit) B.pre w (List.mem_cons_of_mem _ h)
  have hown : s.vm.findClass R_M = some m.cls := findClass_of_methodNamed B.named
  have hlocks := B.notSynchronized
  have hfix : CallFix p m c b_M_fit 6 s [.ref (a 0), .int x1].toArray lw_G R_M := ⟨hx, hb, hml, hown, hts⟩
  have hK1 := hK.sub (tys' := [(cA, .int)]) [0] rfl
  have hl := lv_entry ([.ref (a 0), .int x1]) (n := 6) (Nat.le_of_ble_eq_true rfl)
  rw [lg_entry_eq]
  generalize (lg_sl ([.ref (a 0), .int x1]) ++ List.replicate (6 - (lg_sl ([.ref (a 0), .int x1])).length) Slot.unset).toArray = ls at hl ⊢
  have hl : lv_has ls 6 [(0, .ref (a 0)), (1, .int x1)] := hl
  refine lv_iconst (v := 1) hx hb d_M_fit_0 (by decide) ?_
  refine lv_istore_n (lv' := [(2, .int 1), (0, .ref (a 0)), (1, .int x1)]) hx hb d_M_fit_1 rfl hl (by decide) rfl (fun ls hl => ?_)
  refine lv_iconst (v := 0) hx hb d_M_fit_2 (by decide) ?_
  refine lv_istore_n (lv' := [(3, .int 0), (2, .int 1), (0, .ref (a 0)), (1, .int x1)]) hx hb d_M_fit_3 rfl hl (by decide) rfl (fun ls hl => ?_)
  have loop_4 : ∀ (n : Nat) (z3 z2 : Int32) (ls : Array Slot), (f_M_fit X x1) = (f_M_fit_L4 X x1 n z3 z2) → nc_mu ((X 18 0) - 1) z3 < n → 0 ≤ z3.toInt → lv_has ls 6 [(0, .ref (a 0)), (1, .int x1), (3, .int z3), (2, .int z2)] → W p l e (headSpec ws_M_fit rm_M_fit).room s m [.ref (a 0), .int x1].toArray below meth c s.heap [] 0 0 (MQ below (vp_Si (fun r => r = (f_M_fit X x1))) [.ref (a 0), .int x1].toArray s 0 0 (fun _ => False)) (F0 m 4 ls []) := by
    intro n
    induction n with
    | zero =>
      intro z3 z2 ls hE hm h0_4 hl
      exact absurd hm (Nat.not_lt_zero _)
    | succ n ih =>
      intro z3 z2 ls hE hm h0_4 hl
      refine lv_iload_n hx hb d_M_fit_4 rfl (lv_at hl 2 rfl) ?_
      refine lv_aload_n hx hb d_M_fit_5 rfl (lv_at hl 0 rfl) ?_
      refine va_get (D := (dC, dI)) (ci := 4) (v := .int (X 18 0)) (C := R_M) (T := F_M) (N := 39) hx hb hts i_M hown hK hP 0 rfl rfl 18 (by decide) (hts _ m_f_M_111) (fun _ h9 => h9) rfl d_M_fit_6 ?_
      refine lv_iconst (v := 1) hx hb d_M_fit_9 (by decide) ?_
      refine lv_isub hx hb d_M_fit_10 ?_
      refine lv_icmp_ge (tgt := 44) hx hb d_M_fit_11 (by decide) (fun c_524 => ?_) (fun c_524 => ?_)
      · refine lv_aload_n hx hb d_M_fit_44 rfl (lv_at hl 0 rfl) ?_
        refine va_get (D := (dC, dI)) (ci := 4) (v := .int (X 16 0)) (C := R_M) (T := F_M) (N := 39) hx hb hts i_M hown hK hP 0 rfl rfl 16 (by decide) (hts _ m_f_M_108) (fun _ h9 => h9) rfl d_M_fit_45 ?_
        refine lv_iconst (v := 2) hx hb d_M_fit_48 (by decide) ?_
        refine nc_ro (va_runS (As := [.int (X 16 0), .int 2]) (rest := []) hfix (c_M_has l dC dI cA (X 16 0) 2) (k_M_114 hts hN ⟨Nat.le_of_ble_eq_true rfl, Nat.le_of_ble_eq_true rfl⟩) (nc_preS0 hK1 hN) rfl rfl hl.1 rfl (lv_room (Nat.le_of_ble_eq_true rfl)) d_M_fit_49 ⟨Nat.zero_le _, Nat.zero_le _⟩) (fun r er => ?_)
        obtain ⟨rfl, hz_525⟩ := er
        refine lv_if_eq (tgt := 65) hx hb d_M_fit_52 (by decide) (fun c_526 => ?_) (fun c_526 => ?_)
        · refine lv_iconst (v := 1) hx hb d_M_fit_65 (by decide) ?_
          refine lv_goto (tgt := 70) hx hb d_M_fit_66 (by decide) ?_
          refine lv_istore_n (lv' := [(3, .int 1), (0, .ref (a 0)), (1, .int x1), (2, .int z2)]) hx hb d_M_fit_70 rfl hl (by decide) rfl (fun ls hl => ?_)
          refine lv_aload_n hx hb d_M_fit_71 rfl (lv_at hl 1 rfl) ?_
          refine va_get (D := (dC, dI)) (ci := 4) (v := .int (X 16 0)) (C := R_M) (T := F_M) (N := 39) hx hb hts i_M hown hK hP 0 rfl rfl 16 (by decide) (hts _ m_f_M_108) (fun _ h9 => h9) rfl d_M_fit_72 ?_
          refine lv_iconst (v := 3) hx hb d_M_fit_75 (by decide) ?_
          refine nc_ro (va_runS (As := [.int (X 16 0), .int 3]) (rest := []) hfix (c_M_has l dC dI cA (X 16 0) 3) (k_M_114 hts hN ⟨Nat.le_of_ble_eq_true rfl, Nat.le_of_ble_eq_true rfl⟩) (nc_preS0 hK1 hN) rfl rfl hl.1 rfl (lv_room (Nat.le_of_ble_eq_true rfl)) d_M_fit_76 ⟨Nat.zero_le _, Nat.zero_le _⟩) (fun r er => ?_)
          obtain ⟨rfl, hz_527⟩ := er
          refine lv_if_eq (tgt := 93) hx hb d_M_fit_79 (by decide) (fun c_528 => ?_) (fun c_528 => ?_)
          · refine lv_iconst (v := 1) hx hb d_M_fit_93 (by decide) ?_
            refine lv_goto (tgt := 98) hx hb d_M_fit_94 (by decide) ?_
            refine lv_istore (lv' := [(4, .int 1), (3, .int 1), (0, .ref (a 0)), (1, .int x1), (2, .int z2)]) hx hb d_M_fit_98 hl (by decide) rfl (fun ls hl => ?_)
            refine lv_iload_n hx hb d_M_fit_100 rfl (lv_at hl 4 rfl) ?_
            refine lv_if_eq (tgt := 113) hx hb d_M_fit_101 (by decide) (fun c_529 => ?_) (fun c_529 => ?_)
            · refine lv_iconst (v := 0) hx hb d_M_fit_113 (by decide) ?_
              exact W.iret (v := 0) hx hb hr (fun t ht hW => ⟨0, rfl, by rw [hE, f_M_fit_L4, if_pos c_524, if_pos c_526, if_pos c_528, if_pos c_529], ht⟩) (fun _ h => nomatch h) d_M_fit_114
            · refine lv_iload_n hx hb d_M_fit_104 rfl (lv_at hl 1 rfl) ?_
              refine lv_if_eq (tgt := 113) hx hb d_M_fit_105 (by decide) (fun c_530 => ?_) (fun c_530 => ?_)
              · exact absurd c_530 (by decide)
              · refine lv_iload hx hb d_M_fit_108 (lv_at hl 0 rfl) ?_
                refine lv_if_ne (tgt := 115) hx hb d_M_fit_110 (by decide) (fun c_531 => ?_) (fun c_531 => ?_)
                · refine lv_aload_n hx hb d_M_fit_115 rfl (lv_at hl 2 rfl) ?_
                  refine va_get (D := (dC, dI)) (ci := 4) (v := .ref (a 9)) (C := R_M) (T := F_M) (N := 39) hx hb hts i_M hown hK hP 0 rfl rfl 17 (by decide) (hts _ m_f_M_41) (fun _ h9 => h9) rfl d_M_fit_116 ?_
                  refine lv_aload_n hx hb d_M_fit_119 rfl (lv_at hl 2 rfl) ?_
                  refine va_get (D := (dC, dI)) (ci := 4) (v := .int (X 18 0)) (C := R_M) (T := F_M) (N := 39) hx hb hts i_M hown hK hP 0 rfl rfl 18 (by decide) (hts _ m_f_M_111) (fun _ h9 => h9) rfl d_M_fit_120 ?_
                  refine lv_iconst (v := 1) hx hb d_M_fit_123 (by decide) ?_
                  refine lv_isub hx hb d_M_fit_124 ?_
                  refine va_iald (f := (X 17)) hx hb hK hP 9 0 rfl rfl (by have q0 := nc_le c_524 rfl rfl; have q1 := nc_eq c_526 rfl (L_0); have q2 := nc_eq c_528 rfl (L_0); have q3 := nc_ne c_529 rfl (L_0); have q4 := ht.1; have q5 := ht.2; have q6 := hw.1; have q7 := hw.2; have q8 := (nc_sub1 (Int.le_trans (by decide) hw.1)); have q9 := h0_4; exact vp_in_iff.mpr ⟨by omega, by omega⟩) d_M_fit_125 ?_
                  refine lv_istore (lv' := [(5, .int ((X 17) (((X 18 0) - 1)).toNatClampNeg)), (4, .int 1), (3, .int 1), (0, .ref (a 0)), (1, .int x1), (2, .int z2)]) hx hb d_M_fit_126 hl (by decide) rfl (fun ls hl => ?_)
                  refine lv_aload_n hx hb d_M_fit_128 rfl (lv_at hl 3 rfl) ?_
                  refine va_get (D := (dC, dI)) (ci := 4) (v := .ref (a 1)) (C := R_M) (T := F_M) (N := 39) hx hb hts i_M hown hK hP 0 rfl rfl 2 (by decide) (hts _ m_f_M_13) (fun _ h9 => h9) rfl d_M_fit_129 ?_
                  refine lv_iload_n hx hb d_M_fit_132 rfl (lv_at hl 4 rfl) ?_
                  refine va_iald (f := (X 2)) hx hb hK hP 1 0 rfl rfl (by have q0 := nc_le c_524 rfl rfl; have q1 := nc_eq c_526 rfl (L_0); have q2 := nc_eq c_528 rfl (L_0); have q3 := nc_ne c_529 rfl (L_0); have q4 := ht.1; have q5 := ht.2; have q6 := hw.1; have q7 := hw.2; have q8 := (nc_sub1 (Int.le_trans (by decide) hw.1)); have q9 := h0_4; exact vp_in_iff.mpr ⟨by omega, by omega⟩) d_M_fit_133 ?_
                  refine lv_iload hx hb d_M_fit_134 (lv_at hl 0 rfl) ?_
                  refine nc_ro (va_runS (As := [.int ((X 2) x1.toNatClampNeg), .int ((X 17) (((X 18 0) - 1)).toNatClampNeg)]) (rest := []) hfix (c_M_has l dC dI cA ((X 2) x1.toNatClampNeg) ((X 17) (((X 18 0) - 1)).toNatClampNeg)) (k_M_114 hts hN ⟨Nat.le_of_ble_eq_true rfl, Nat.le_of_ble_eq_true rfl⟩) (nc_preS0 hK1 hN) rfl rfl hl.1 rfl (lv_room (Nat.le_of_ble_eq_true rfl)) d_M_fit_136 ⟨Nat.zero_le _, Nat.zero_le _⟩) (fun r er => ?_)
                  obtain ⟨rfl, hz_532⟩ := er
                  refine lv_if_eq (tgt := 146) hx hb d_M_fit_139 (by decide) (fun c_533 => ?_) (fun c_533 => ?_)
                  · refine lv_iconst (v := 0) hx hb d_M_fit_146 (by decide) ?_
                    refine lv_aload_n hx hb d_M_fit_147 rfl (lv_at hl 3 rfl) ?_
                    refine va_get (D := (dC, dI)) (ci := 4) (v := .ref (a 3)) (C := R_M) (T := F_M) (N := 39) hx hb hts i_M hown hK hP 0 rfl rfl 4 (by decide) (hts _ m_f_M_20) (fun _ h9 => h9) rfl d_M_fit_148 ?_
                    refine lv_iload_n hx hb d_M_fit_151 rfl (lv_at hl 4 rfl) ?_
                    refine va_iald (f := (X 4)) hx hb hK hP 3 0 rfl rfl (by have q0 := nc_le c_524 rfl rfl; have q1 := nc_eq c_526 rfl (L_0); have q2 := nc_eq c_528 rfl (L_0); have q3 := nc_ne c_529 rfl (L_0); have q4 := nc_eq c_533 rfl (L_0); have q5 := ht.1; have q6 := ht.2; have q7 := hw.1; have q8 := hw.2; have q9 := (nc_sub1 (Int.le_trans (by decide) hw.1)); have q10 := h0_4; exact vp_in_iff.mpr ⟨by omega, by omega⟩) d_M_fit_152 ?_
                    refine lv_if_lt (tgt := 176) hx hb d_M_fit_153 (by decide) (fun c_534 => ?_) (fun c_534 => ?_)
                    · refine lv_iconst (v := 0) hx hb d_M_fit_176 (by decide) ?_
                      refine lv_iadd hx hb d_M_fit_177 ?_
                      exact W.iret (v := ((0 : Int32) + 0)) hx hb hr (fun t ht hW => ⟨((0 : Int32) + 0), rfl, by rw [hE, f_M_fit_L4, if_pos c_524, if_pos c_526, if_pos c_528, if_neg c_529, if_pos c_533, if_pos c_534], ht⟩) (fun _ h => nomatch h) d_M_fit_178
                    · refine lv_aload_n hx hb d_M_fit_156 rfl (lv_at hl 3 rfl) ?_
                      refine va_get (D := (dC, dI)) (ci := 4) (v := .ref (a 6)) (C := R_M) (T := F_M) (N := 39) hx hb hts i_M hown hK hP 0 rfl rfl 7 (by decide) (hts _ m_f_M_29) (fun _ h9 => h9) rfl d_M_fit_157 ?_
                      refine lv_aload_n hx hb d_M_fit_160 rfl (lv_at hl 3 rfl) ?_
                      refine va_get (D := (dC, dI)) (ci := 4) (v := .ref (a 3)) (C := R_M) (T := F_M) (N := 39) hx hb hts i_M hown hK hP 0 rfl rfl 4 (by decide) (hts _ m_f_M_20) (fun _ h9 => h9) rfl d_M_fit_161 ?_
                      refine lv_iload_n hx hb d_M_fit_164 rfl (lv_at hl 4 rfl) ?_
                      refine va_iald (f := (X 4)) hx hb hK hP 3 0 rfl rfl (by have q0 := nc_le c_524 rfl rfl; have q1 := nc_eq c_526 rfl (L_0); have q2 := nc_eq c_528 rfl (L_0); have q3 := nc_ne c_529 rfl (L_0); have q4 := nc_eq c_533 rfl (L_0); have q5 := nc_nlt c_534 rfl (L_0); have q6 := ht.1; have q7 := ht.2; have q8 := hw.1; have q9 := hw.2; have q10 := (nc_sub1 (Int.le_trans (by decide) hw.1)); have q11 := h0_4; exact vp_in_iff.mpr ⟨by omega, by omega⟩) d_M_fit_165 ?_
                      refine va_iald (f := (X 7)) hx hb hK hP 6 0 rfl rfl (by have q0 := nc_le c_524 rfl rfl; have q1 := nc_eq c_526 rfl (L_0); have q2 := nc_eq c_528 rfl (L_0); have q3 := nc_ne c_529 rfl (L_0); have q4 := nc_eq c_533 rfl (L_0); have q5 := nc_nlt c_534 rfl (L_0); have q6 := ht.1; have q7 := ht.2; have q8 := hw.1; have q9 := hw.2; have q10 := (nc_sub1 (Int.le_trans (by decide) hw.1)); have q11 := h0_4; have q99 := hmk x1.toNatClampNeg; exact vp_in_iff.mpr ⟨by omega, by omega⟩) d_M_fit_166 ?_
                      refine lv_iload hx hb d_M_fit_167 (lv_at hl 0 rfl) ?_
                      refine lv_icmp_ne (tgt := 176) hx hb d_M_fit_169 (by decide) (fun c_535 => ?_) (fun c_535 => ?_)
                      · refine lv_iconst (v := 0) hx hb d_M_fit_176 (by decide) ?_
                        refine lv_iadd hx hb d_M_fit_177 ?_
                        exact W.iret (v := ((0 : Int32) + 0)) hx hb hr (fun t ht hW => ⟨((0 : Int32) + 0), rfl, by rw [hE, f_M_fit_L4, if_pos c_524, if_pos c_526, if_pos c_528, if_neg c_529, if_pos c_533, if_neg c_534, if_neg c_535], ht⟩) (fun _ h => nomatch h) d_M_fit_178
                      · refine lv_iconst (v := 2) hx hb d_M_fit_172 (by decide) ?_
                        refine lv_goto (tgt := 177) hx hb d_M_fit_173 (by decide) ?_
                        refine lv_iadd hx hb d_M_fit_177 ?_
                        exact W.iret (v := ((0 : Int32) + 2)) hx hb hr (fun t ht hW => ⟨((0 : Int32) + 2), rfl, by rw [hE, f_M_fit_L4, if_pos c_524, if_pos c_526, if_pos c_528, if_neg c_529, if_pos c_533, if_neg c_534, if_pos c_535], ht⟩) (fun _ h => nomatch h) d_M_fit_178
                  · refine lv_iconst (v := 1) hx hb d_M_fit_142 (by decide) ?_
                    refine lv_goto (tgt := 147) hx hb d_M_fit_143 (by decide) ?_
                    refine lv_aload_n hx hb d_M_fit_147 rfl (lv_at hl 3 rfl) ?_
                    refine va_get (D := (dC, dI)) (ci := 4) (v := .ref (a 3)) (C := R_M) (T := F_M) (N := 39) hx hb hts i_M hown hK hP 0 rfl rfl 4 (by decide) (hts _ m_f_M_20) (fun _ h9 => h9) rfl d_M_fit_148 ?_
                    refine lv_iload_n hx hb d_M_fit_151 rfl (lv_at hl 4 rfl) ?_
                    refine va_iald (f := (X 4)) hx hb hK hP 3 0 rfl rfl (by have q0 := nc_le c_524 rfl rfl; have q1 := nc_eq c_526 rfl (L_0); have q2 := nc_eq c_528 rfl (L_0); have q3 := nc_ne c_529 rfl (L_0); have q4 := nc_ne c_533 rfl (L_0); have q5 := ht.1; have q6 := ht.2; have q7 := hw.1; have q8 := hw.2; have q9 := (nc_sub1 (Int.le_trans (by decide) hw.1)); have q10 := h0_4; exact vp_in_iff.mpr ⟨by omega, by omega⟩) d_M_fit_152 ?_
                    refine lv_if_lt (tgt := 176) hx hb d_M_fit_153 (by decide) (fun c_536 => ?_) (fun c_536 => ?_)
                    · refine lv_iconst (v := 0) hx hb d_M_fit_176 (by decide) ?_
                      refine lv_iadd hx hb d_M_fit_177 ?_
                      exact W.iret (v := ((1 : Int32) + 0)) hx hb hr (fun t ht hW => ⟨((1 : Int32) + 0), rfl, by rw [hE, f_M_fit_L4, if_pos c_524, if_pos c_526, if_pos c_528, if_neg c_529, if_neg c_533, if_pos c_536], ht⟩) (fun _ h => nomatch h) d_M_fit_178
                    · refine lv_aload_n hx hb d_M_fit_156 rfl (lv_at hl 3 rfl) ?_
                      refine va_get (D := (dC, dI)) (ci := 4) (v := .ref (a 6)) (C := R_M) (T := F_M) (N := 39) hx hb hts i_M hown hK hP 0 rfl rfl 7 (by decide) (hts _ m_f_M_29) (fun _ h9 => h9) rfl d_M_fit_157 ?_
                      refine lv_aload_n hx hb d_M_fit_160 rfl (lv_at hl 3 rfl) ?_
                      refine va_get (D := (dC, dI)) (ci := 4) (v := .ref (a 3)) (C := R_M) (T := F_M) (N := 39) hx hb hts i_M hown hK hP 0 rfl rfl 4 (by decide) (hts _ m_f_M_20) (fun _ h9 => h9) rfl d_M_fit_161 ?_
                      refine lv_iload_n hx hb d_M_fit_164 rfl (lv_at hl 4 rfl) ?_
                      refine va_iald (f := (X 4)) hx hb hK hP 3 0 rfl rfl (by have q0 := nc_le c_524 rfl rfl; have q1 := nc_eq c_526 rfl (L_0); have q2 := nc_eq c_528 rfl (L_0); have q3 := nc_ne c_529 rfl (L_0); have q4 := nc_ne c_533 rfl (L_0); have q5 := nc_nlt c_536 rfl (L_0); have q6 := ht.1; have q7 := ht.2; have q8 := hw.1; have q9 := hw.2; have q10 := (nc_sub1 (Int.le_trans (by decide) hw.1)); have q11 := h0_4; exact vp_in_iff.mpr ⟨by omega, by omega⟩) d_M_fit_165 ?_
                      refine va_iald (f := (X 7)) hx hb hK hP 6 0 rfl rfl (by have q0 := nc_le c_524 rfl rfl; have q1 := nc_eq c_526 rfl (L_0); have q2 := nc_eq c_528 rfl (L_0); have q3 := nc_ne c_529 rfl (L_0); have q4 := nc_ne c_533 rfl (L_0); have q5 := nc_nlt c_536 rfl (L_0); have q6 := ht.1; have q7 := ht.2; have q8 := hw.1; have q9 := hw.2; have q10 := (nc_sub1 (Int.le_trans (by decide) hw.1)); have q11 := h0_4; have q99 := hmk x1.toNatClampNeg; exact vp_in_iff.mpr ⟨by omega, by omega⟩) d_M_fit_166 ?_
                      refine lv_iload hx hb d_M_fit_167 (lv_at hl 0 rfl) ?_
                      refine lv_icmp_ne (tgt := 176) hx hb d_M_fit_169 (by decide) (fun c_537 => ?_) (fun c_537 => ?_)
                      · refine lv_iconst (v := 0) hx hb d_M_fit_176 (by decide) ?_
                        refine lv_iadd hx hb d_M_fit_177 ?_
                        exact W.iret (v := ((1 : Int32) + 0)) hx hb hr (fun t ht hW => ⟨((1 : Int32) + 0), rfl, by rw [hE, f_M_fit_L4, if_pos c_524, if_pos c_526, if_pos c_528, if_neg c_529, if_neg c_533, if_neg c_536, if_neg c_537], ht⟩) (fun _ h => nomatch h) d_M_fit_178
                      · refine lv_iconst (v := 2) hx hb d_M_fit_172 (by decide) ?_
                        refine lv_goto (tgt := 177) hx hb d_M_fit_173 (by decide) ?_
                        refine lv_iadd hx hb d_M_fit_177 ?_
                        exact W.iret (v := ((1 : Int32) + 2)) hx hb hr (fun t ht hW => ⟨((1 : Int32) + 2), rfl, by rw [hE, f_M_fit_L4, if_pos c_524, if_pos c_526, if_pos c_528, if_neg c_529, if_neg c_533, if_neg c_536, if_pos c_537], ht⟩) (fun _ h => nomatch h) d_M_fit_178
                · exact absurd c_531 (by decide)
          · refine lv_aload_n hx hb d_M_fit_82 rfl (lv_at hl 1 rfl) ?_
            refine va_get (D := (dC, dI)) (ci := 4) (v := .int (X 31 0)) (C := R_M) (T := F_M) (N := 39) hx hb hts i_M hown hK hP 0 rfl rfl 31 (by decide) (hts _ m_f_M_124) (fun _ h9 => h9) rfl d_M_fit_83 ?_
            refine lv_iload_n hx hb d_M_fit_86 rfl (lv_at hl 2 rfl) ?_
            refine nc_ro (va_runS (As := [.int (X 31 0), .int x1]) (rest := []) hfix (c_M_has l dC dI cA (X 31 0) x1) (k_M_114 hts hN ⟨Nat.le_of_ble_eq_true rfl, Nat.le_of_ble_eq_true rfl⟩) (nc_preS0 hK1 hN) rfl rfl hl.1 rfl (lv_room (Nat.le_of_ble_eq_true rfl)) d_M_fit_87 ⟨Nat.zero_le _, Nat.zero_le _⟩) (fun r er => ?_)
            obtain ⟨rfl, hz_538⟩ := er
            refine lv_if_ne (tgt := 97) hx hb d_M_fit_90 (by decide) (fun c_539 => ?_) (fun c_539 => ?_)
            · refine lv_iconst (v := 0) hx hb d_M_fit_97 (by decide) ?_
              refine lv_istore (lv' := [(4, .int 0), (3, .int 1), (0, .ref (a 0)), (1, .int x1), (2, .int z2)]) hx hb d_M_fit_98 hl (by decide) rfl (fun ls hl => ?_)
              refine lv_iload_n hx hb d_M_fit_100 rfl (lv_at hl 4 rfl) ?_
              refine lv_if_eq (tgt := 113) hx hb d_M_fit_101 (by decide) (fun c_540 => ?_) (fun c_540 => ?_)
              · refine lv_iconst (v := 0) hx hb d_M_fit_113 (by decide) ?_
                exact W.iret (v := 0) hx hb hr (fun t ht hW => ⟨0, rfl, by rw [hE, f_M_fit_L4, if_pos c_524, if_pos c_526, if_neg c_528, if_neg c_539, if_pos c_540], ht⟩) (fun _ h => nomatch h) d_M_fit_114
              · refine lv_iload_n hx hb d_M_fit_104 rfl (lv_at hl 1 rfl) ?_
                refine lv_if_eq (tgt := 113) hx hb d_M_fit_105 (by decide) (fun c_541 => ?_) (fun c_541 => ?_)
                · exact absurd c_541 (by decide)
                · refine lv_iload hx hb d_M_fit_108 (lv_at hl 0 rfl) ?_
                  refine lv_if_ne (tgt := 115) hx hb d_M_fit_110 (by decide) (fun c_542 => ?_) (fun c_542 => ?_)
                  · exact absurd c_542 (by decide)
                  · refine lv_iconst (v := 0) hx hb d_M_fit_113 (by decide) ?_
                    exact W.iret (v := 0) hx hb hr (fun t ht hW => ⟨0, rfl, by rw [hE, f_M_fit_L4, if_pos c_524, if_pos c_526, if_neg c_528, if_neg c_539, if_neg c_540], ht⟩) (fun _ h => nomatch h) d_M_fit_114
            · refine lv_iconst (v := 1) hx hb d_M_fit_93 (by decide) ?_
              refine lv_goto (tgt := 98) hx hb d_M_fit_94 (by decide) ?_
              refine lv_istore (lv' := [(4, .int 1), (3, .int 1), (0, .ref (a 0)), (1, .int x1), (2, .int z2)]) hx hb d_M_fit_98 hl (by decide) rfl (fun ls hl => ?_)
              refine lv_iload_n hx hb d_M_fit_100 rfl (lv_at hl 4 rfl) ?_
              refine lv_if_eq (tgt := 113) hx hb d_M_fit_101 (by decide) (fun c_543 => ?_) (fun c_543 => ?_)
              · refine lv_iconst (v := 0) hx hb d_M_fit_113 (by decide) ?_
                exact W.iret (v := 0) hx hb hr (fun t ht hW => ⟨0, rfl, by rw [hE, f_M_fit_L4, if_pos c_524, if_pos c_526, if_neg c_528, if_pos c_539, if_pos c_543], ht⟩) (fun _ h => nomatch h) d_M_fit_114
              · refine lv_iload_n hx hb d_M_fit_104 rfl (lv_at hl 1 rfl) ?_
                refine lv_if_eq (tgt := 113) hx hb d_M_fit_105 (by decide) (fun c_544 => ?_) (fun c_544 => ?_)
                · exact absurd c_544 (by decide)
                · refine lv_iload hx hb d_M_fit_108 (lv_at hl 0 rfl) ?_
                  refine lv_if_ne (tgt := 115) hx hb d_M_fit_110 (by decide) (fun c_545 => ?_) (fun c_545 => ?_)
                  · refine lv_aload_n hx hb d_M_fit_115 rfl (lv_at hl 2 rfl) ?_
                    refine va_get (D := (dC, dI)) (ci := 4) (v := .ref (a 9)) (C := R_M) (T := F_M) (N := 39) hx hb hts i_M hown hK hP 0 rfl rfl 17 (by decide) (hts _ m_f_M_41) (fun _ h9 => h9) rfl d_M_fit_116 ?_
                    refine lv_aload_n hx hb d_M_fit_119 rfl (lv_at hl 2 rfl) ?_
                    refine va_get (D := (dC, dI)) (ci := 4) (v := .int (X 18 0)) (C := R_M) (T := F_M) (N := 39) hx hb hts i_M hown hK hP 0 rfl rfl 18 (by decide) (hts _ m_f_M_111) (fun _ h9 => h9) rfl d_M_fit_120 ?_
                    refine lv_iconst (v := 1) hx hb d_M_fit_123 (by decide) ?_
                    refine lv_isub hx hb d_M_fit_124 ?_
                    refine va_iald (f := (X 17)) hx hb hK hP 9 0 rfl rfl (by have q0 := nc_le c_524 rfl rfl; have q1 := nc_eq c_526 rfl (L_0); have q2 := nc_ne c_528 rfl (L_0); have q3 := nc_eq c_539 rfl (L_0); have q4 := nc_ne c_543 rfl (L_0); have q5 := ht.1; have q6 := ht.2; have q7 := hw.1; have q8 := hw.2; have q9 := (nc_sub1 (Int.le_trans (by decide) hw.1)); have q10 := h0_4; exact vp_in_iff.mpr ⟨by omega, by omega⟩) d_M_fit_125 ?_
                    refine lv_istore (lv' := [(5, .int ((X 17) (((X 18 0) - 1)).toNatClampNeg)), (4, .int 1), (3, .int 1), (0, .ref (a 0)), (1, .int x1), (2, .int z2)]) hx hb d_M_fit_126 hl (by decide) rfl (fun ls hl => ?_)
                    refine lv_aload_n hx hb d_M_fit_128 rfl (lv_at hl 3 rfl) ?_
                    refine va_get (D := (dC, dI)) (ci := 4) (v := .ref (a 1)) (C := R_M) (T := F_M) (N := 39) hx hb hts i_M hown hK hP 0 rfl rfl 2 (by decide) (hts _ m_f_M_13) (fun _ h9 => h9) rfl d_M_fit_129 ?_
                    refine lv_iload_n hx hb d_M_fit_132 rfl (lv_at hl 4 rfl) ?_
                    refine va_iald (f := (X 2)) hx hb hK hP 1 0 rfl rfl (by have q0 := nc_le c_524 rfl rfl; have q1 := nc_eq c_526 rfl (L_0); have q2 := nc_ne c_528 rfl (L_0); have q3 := nc_eq c_539 rfl (L_0); have q4 := nc_ne c_543 rfl (L_0); have q5 := ht.1; have q6 := ht.2; have q7 := hw.1; have q8 := hw.2; have q9 := (nc_sub1 (Int.le_trans (by decide) hw.1)); have q10 := h0_4; exact vp_in_iff.mpr ⟨by omega, by omega⟩) d_M_fit_133 ?_
                    refine lv_iload hx hb d_M_fit_134 (lv_at hl 0 rfl) ?_
                    refine nc_ro (va_runS (As := [.int ((X 2) x1.toNatClampNeg), .int ((X 17) (((X 18 0) - 1)).toNatClampNeg)]) (rest := []) hfix (c_M_has l dC dI cA ((X 2) x1.toNatClampNeg) ((X 17) (((X 18 0) - 1)).toNatClampNeg)) (k_M_114 hts hN ⟨Nat.le_of_ble_eq_true rfl, Nat.le_of_ble_eq_true rfl⟩) (nc_preS0 hK1 hN) rfl rfl hl.1 rfl (lv_room (Nat.le_of_ble_eq_true rfl)) d_M_fit_136 ⟨Nat.zero_le _, Nat.zero_le _⟩) (fun r er => ?_)
                    obtain ⟨rfl, hz_546⟩ := er
                    refine lv_if_eq (tgt := 146) hx hb d_M_fit_139 (by decide) (fun c_547 => ?_) (fun c_547 => ?_)
                    · refine lv_iconst (v := 0) hx hb d_M_fit_146 (by decide) ?_
                      refine lv_aload_n hx hb d_M_fit_147 rfl (lv_at hl 3 rfl) ?_
                      refine va_get (D := (dC, dI)) (ci := 4) (v := .ref (a 3)) (C := R_M) (T := F_M) (N := 39) hx hb hts i_M hown hK hP 0 rfl rfl 4 (by decide) (hts _ m_f_M_20) (fun _ h9 => h9) rfl d_M_fit_148 ?_
                      refine lv_iload_n hx hb d_M_fit_151 rfl (lv_at hl 4 rfl) ?_
                      refine va_iald (f := (X 4)) hx hb hK hP 3 0 rfl rfl (by have q0 := nc_le c_524 rfl rfl; have q1 := nc_eq c_526 rfl (L_0); have q2 := nc_ne c_528 rfl (L_0); have q3 := nc_eq c_539 rfl (L_0); have q4 := nc_ne c_543 rfl (L_0); have q5 := nc_eq c_547 rfl (L_0); have q6 := ht.1; have q7 := ht.2; have q8 := hw.1; have q9 := hw.2; have q10 := (nc_sub1 (Int.le_trans (by decide) hw.1)); have q11 := h0_4; exact vp_in_iff.mpr ⟨by omega, by omega⟩) d_M_fit_152 ?_
                      refine lv_if_lt (tgt := 176) hx hb d_M_fit_153 (by decide) (fun c_548 => ?_) (fun c_548 => ?_)
                      · refine lv_iconst (v := 0) hx hb d_M_fit_176 (by decide) ?_
                        refine lv_iadd hx hb d_M_fit_177 ?_
                        exact W.iret (v := ((0 : Int32) + 0)) hx hb hr (fun t ht hW => ⟨((0 : Int32) + 0), rfl, by rw [hE, f_M_fit_L4, if_pos c_524, if_pos c_526, if_neg c_528, if_pos c_539, if_neg c_543, if_pos c_547, if_pos c_548], ht⟩) (fun _ h => nomatch h) d_M_fit_178
                      · refine lv_aload_n hx hb d_M_fit_156 rfl (lv_at hl 3 rfl) ?_
                        refine va_get (D := (dC, dI)) (ci := 4) (v := .ref (a 6)) (C := R_M) (T := F_M) (N := 39) hx hb hts i_M hown hK hP 0 rfl rfl 7 (by decide) (hts _ m_f_M_29) (fun _ h9 => h9) rfl d_M_fit_157 ?_
                        refine lv_aload_n hx hb d_M_fit_160 rfl (lv_at hl 3 rfl) ?_
                        refine va_get (D := (dC, dI)) (ci := 4) (v := .ref (a 3)) (C := R_M) (T := F_M) (N := 39) hx hb hts i_M hown hK hP 0 rfl rfl 4 (by decide) (hts _ m_f_M_20) (fun _ h9 => h9) rfl d_M_fit_161 ?_
                        refine lv_iload_n hx hb d_M_fit_164 rfl (lv_at hl 4 rfl) ?_
                        refine va_iald (f := (X 4)) hx hb hK hP 3 0 rfl rfl (by have q0 := nc_le c_524 rfl rfl; have q1 := nc_eq c_526 rfl (L_0); have q2 := nc_ne c_528 rfl (L_0); have q3 := nc_eq c_539 rfl (L_0); have q4 := nc_ne c_543 rfl (L_0); have q5 := nc_eq c_547 rfl (L_0); have q6 := nc_nlt c_548 rfl (L_0); have q7 := ht.1; have q8 := ht.2; have q9 := hw.1; have q10 := hw.2; have q11 := (nc_sub1 (Int.le_trans (by decide) hw.1)); have q12 := h0_4; exact vp_in_iff.mpr ⟨by omega, by omega⟩) d_M_fit_165 ?_
                        refine va_iald (f := (X 7)) hx hb hK hP 6 0 rfl rfl (by have q0 := nc_le c_524 rfl rfl; have q1 := nc_eq c_526 rfl (L_0); have q2 := nc_ne c_528 rfl (L_0); have q3 := nc_eq c_539 rfl (L_0); have q4 := nc_ne c_543 rfl (L_0); have q5 := nc_eq c_547 rfl (L_0); have q6 := nc_nlt c_548 rfl (L_0); have q7 := ht.1; have q8 := ht.2; have q9 := hw.1; have q10 := hw.2; have q11 := (nc_sub1 (Int.le_trans (by decide) hw.1)); have q12 := h0_4; have q99 := hmk x1.toNatClampNeg; exact vp_in_iff.mpr ⟨by omega, by omega⟩) d_M_fit_166 ?_
                        refine lv_iload hx hb d_M_fit_167 (lv_at hl 0 rfl) ?_
                        refine lv_icmp_ne (tgt := 176) hx hb d_M_fit_169 (by decide) (fun c_549 => ?_) (fun c_549 => ?_)
                        · refine lv_iconst (v := 0) hx hb d_M_fit_176 (by decide) ?_
                          refine lv_iadd hx hb d_M_fit_177 ?_
                          exact W.iret (v := ((0 : Int32) + 0)) hx hb hr (fun t ht hW => ⟨((0 : Int32) + 0), rfl, by rw [hE, f_M_fit_L4, if_pos c_524, if_pos c_526, if_neg c_528, if_pos c_539, if_neg c_543, if_pos c_547, if_neg c_548, if_neg c_549], ht⟩) (fun _ h => nomatch h) d_M_fit_178
                        · refine lv_iconst (v := 2) hx hb d_M_fit_172 (by decide) ?_
                          refine lv_goto (tgt := 177) hx hb d_M_fit_173 (by decide) ?_
                          refine lv_iadd hx hb d_M_fit_177 ?_
                          exact W.iret (v := ((0 : Int32) + 2)) hx hb hr (fun t ht hW => ⟨((0 : Int32) + 2), rfl, by rw [hE, f_M_fit_L4, if_pos c_524, if_pos c_526, if_neg c_528, if_pos c_539, if_neg c_543, if_pos c_547, if_neg c_548, if_pos c_549], ht⟩) (fun _ h => nomatch h) d_M_fit_178
                    · refine lv_iconst (v := 1) hx hb d_M_fit_142 (by decide) ?_
                      refine lv_goto (tgt := 147) hx hb d_M_fit_143 (by decide) ?_
                      refine lv_aload_n hx hb d_M_fit_147 rfl (lv_at hl 3 rfl) ?_
                      refine va_get (D := (dC, dI)) (ci := 4) (v := .ref (a 3)) (C := R_M) (T := F_M) (N := 39) hx hb hts i_M hown hK hP 0 rfl rfl 4 (by decide) (hts _ m_f_M_20) (fun _ h9 => h9) rfl d_M_fit_148 ?_
                      refine lv_iload_n hx hb d_M_fit_151 rfl (lv_at hl 4 rfl) ?_
                      refine va_iald (f := (X 4)) hx hb hK hP 3 0 rfl rfl (by have q0 := nc_le c_524 rfl rfl; have q1 := nc_eq c_526 rfl (L_0); have q2 := nc_ne c_528 rfl (L_0); have q3 := nc_eq c_539 rfl (L_0); have q4 := nc_ne c_543 rfl (L_0); have q5 := nc_ne c_547 rfl (L_0); have q6 := ht.1; have q7 := ht.2; have q8 := hw.1; have q9 := hw.2; have q10 := (nc_sub1 (Int.le_trans (by decide) hw.1)); have q11 := h0_4; exact vp_in_iff.mpr ⟨by omega, by omega⟩) d_M_fit_152 ?_
                      refine lv_if_lt (tgt := 176) hx hb d_M_fit_153 (by decide) (fun c_550 => ?_) (fun c_550 => ?_)
                      · refine lv_iconst (v := 0) hx hb d_M_fit_176 (by decide) ?_
                        refine lv_iadd hx hb d_M_fit_177 ?_
                        exact W.iret (v := ((1 : Int32) + 0)) hx hb hr (fun t ht hW => ⟨((1 : Int32) + 0), rfl, by rw [hE, f_M_fit_L4, if_pos c_524, if_pos c_526, if_neg c_528, if_pos c_539, if_neg c_543, if_neg c_547, if_pos c_550], ht⟩) (fun _ h => nomatch h) d_M_fit_178
                      · refine lv_aload_n hx hb d_M_fit_156 rfl (lv_at hl 3 rfl) ?_
                        refine va_get (D := (dC, dI)) (ci := 4) (v := .ref (a 6)) (C := R_M) (T := F_M) (N := 39) hx hb hts i_M hown hK hP 0 rfl rfl 7 (by decide) (hts _ m_f_M_29) (fun _ h9 => h9) rfl d_M_fit_157 ?_
                        refine lv_aload_n hx hb d_M_fit_160 rfl (lv_at hl 3 rfl) ?_
                        refine va_get (D := (dC, dI)) (ci := 4) (v := .ref (a 3)) (C := R_M) (T := F_M) (N := 39) hx hb hts i_M hown hK hP 0 rfl rfl 4 (by decide) (hts _ m_f_M_20) (fun _ h9 => h9) rfl d_M_fit_161 ?_
                        refine lv_iload_n hx hb d_M_fit_164 rfl (lv_at hl 4 rfl) ?_
                        refine va_iald (f := (X 4)) hx hb hK hP 3 0 rfl rfl (by have q0 := nc_le c_524 rfl rfl; have q1 := nc_eq c_526 rfl (L_0); have q2 := nc_ne c_528 rfl (L_0); have q3 := nc_eq c_539 rfl (L_0); have q4 := nc_ne c_543 rfl (L_0); have q5 := nc_ne c_547 rfl (L_0); have q6 := nc_nlt c_550 rfl (L_0); have q7 := ht.1; have q8 := ht.2; have q9 := hw.1; have q10 := hw.2; have q11 := (nc_sub1 (Int.le_trans (by decide) hw.1)); have q12 := h0_4; exact vp_in_iff.mpr ⟨by omega, by omega⟩) d_M_fit_165 ?_
                        refine va_iald (f := (X 7)) hx hb hK hP 6 0 rfl rfl (by have q0 := nc_le c_524 rfl rfl; have q1 := nc_eq c_526 rfl (L_0); have q2 := nc_ne c_528 rfl (L_0); have q3 := nc_eq c_539 rfl (L_0); have q4 := nc_ne c_543 rfl (L_0); have q5 := nc_ne c_547 rfl (L_0); have q6 := nc_nlt c_550 rfl (L_0); have q7 := ht.1; have q8 := ht.2; have q9 := hw.1; have q10 := hw.2; have q11 := (nc_sub1 (Int.le_trans (by decide) hw.1)); have q12 := h0_4; have q99 := hmk x1.toNatClampNeg; exact vp_in_iff.mpr ⟨by omega, by omega⟩) d_M_fit_166 ?_
                        refine lv_iload hx hb d_M_fit_167 (lv_at hl 0 rfl) ?_
                        refine lv_icmp_ne (tgt := 176) hx hb d_M_fit_169 (by decide) (fun c_551 => ?_) (fun c_551 => ?_)
                        · refine lv_iconst (v := 0) hx hb d_M_fit_176 (by decide) ?_
                          refine lv_iadd hx hb d_M_fit_177 ?_
                          exact W.iret (v := ((1 : Int32) + 0)) hx hb hr (fun t ht hW => ⟨((1 : Int32) + 0), rfl, by rw [hE, f_M_fit_L4, if_pos c_524, if_pos c_526, if_neg c_528, if_pos c_539, if_neg c_543, if_neg c_547, if_neg c_550, if_neg c_551], ht⟩) (fun _ h => nomatch h) d_M_fit_178
                        · refine lv_iconst (v := 2) hx hb d_M_fit_172 (by decide) ?_
                          refine lv_goto (tgt := 177) hx hb d_M_fit_173 (by decide) ?_
                          refine lv_iadd hx hb d_M_fit_177 ?_
                          exact W.iret (v := ((1 : Int32) + 2)) hx hb hr (fun t ht hW => ⟨((1 : Int32) + 2), rfl, by rw [hE, f_M_fit_L4, if_pos c_524, if_pos c_526, if_neg c_528, if_pos c_539, if_neg c_543, if_neg c_547, if_neg c_550, if_pos c_551], ht⟩) (fun _ h => nomatch h) d_M_fit_178
                  · exact absurd c_545 (by decide)
        · refine lv_aload_n hx hb d_M_fit_55 rfl (lv_at hl 0 rfl) ?_
          refine va_get (D := (dC, dI)) (ci := 4) (v := .ref (a 4)) (C := R_M) (T := F_M) (N := 39) hx hb hts i_M hown hK hP 0 rfl rfl 5 (by decide) (hts _ m_f_M_23) (fun _ h9 => h9) rfl d_M_fit_56 ?_
          refine lv_iload_n hx hb d_M_fit_59 rfl (lv_at hl 1 rfl) ?_
          refine va_iald (f := (X 5)) hx hb hK hP 4 0 rfl rfl (by have q0 := nc_le c_524 rfl rfl; have q1 := nc_ne c_526 rfl (L_0); have q2 := ht.1; have q3 := ht.2; have q4 := hw.1; have q5 := hw.2; have q6 := (nc_sub1 (Int.le_trans (by decide) hw.1)); have q7 := h0_4; exact vp_in_iff.mpr ⟨by omega, by omega⟩) d_M_fit_60 ?_
          refine lv_iconst (v := 2) hx hb d_M_fit_61 (by decide) ?_
          refine lv_icmp_ne (tgt := 69) hx hb d_M_fit_62 (by decide) (fun c_552 => ?_) (fun c_552 => ?_)
          · refine lv_iconst (v := 0) hx hb d_M_fit_69 (by decide) ?_
            refine lv_istore_n (lv' := [(3, .int 0), (0, .ref (a 0)), (1, .int x1), (2, .int z2)]) hx hb d_M_fit_70 rfl hl (by decide) rfl (fun ls hl => ?_)
            refine lv_aload_n hx hb d_M_fit_71 rfl (lv_at hl 1 rfl) ?_
            refine va_get (D := (dC, dI)) (ci := 4) (v := .int (X 16 0)) (C := R_M) (T := F_M) (N := 39) hx hb hts i_M hown hK hP 0 rfl rfl 16 (by decide) (hts _ m_f_M_108) (fun _ h9 => h9) rfl d_M_fit_72 ?_
            refine lv_iconst (v := 3) hx hb d_M_fit_75 (by decide) ?_
            refine nc_ro (va_runS (As := [.int (X 16 0), .int 3]) (rest := []) hfix (c_M_has l dC dI cA (X 16 0) 3) (k_M_114 hts hN ⟨Nat.le_of_ble_eq_true rfl, Nat.le_of_ble_eq_true rfl⟩) (nc_preS0 hK1 hN) rfl rfl hl.1 rfl (lv_room (Nat.le_of_ble_eq_true rfl)) d_M_fit_76 ⟨Nat.zero_le _, Nat.zero_le _⟩) (fun r er => ?_)
            obtain ⟨rfl, hz_553⟩ := er
            refine lv_if_eq (tgt := 93) hx hb d_M_fit_79 (by decide) (fun c_554 => ?_) (fun c_554 => ?_)
            · refine lv_iconst (v := 1) hx hb d_M_fit_93 (by decide) ?_
              refine lv_goto (tgt := 98) hx hb d_M_fit_94 (by decide) ?_
              refine lv_istore (lv' := [(4, .int 1), (3, .int 0), (0, .ref (a 0)), (1, .int x1), (2, .int z2)]) hx hb d_M_fit_98 hl (by decide) rfl (fun ls hl => ?_)
              refine lv_iload_n hx hb d_M_fit_100 rfl (lv_at hl 4 rfl) ?_
              refine lv_if_eq (tgt := 113) hx hb d_M_fit_101 (by decide) (fun c_555 => ?_) (fun c_555 => ?_)
              · refine lv_iconst (v := 0) hx hb d_M_fit_113 (by decide) ?_
                exact W.iret (v := 0) hx hb hr (fun t ht hW => ⟨0, rfl, by rw [hE, f_M_fit_L4, if_pos c_524, if_neg c_526, if_neg c_552, if_pos c_554, if_pos c_555], ht⟩) (fun _ h => nomatch h) d_M_fit_114
              · refine lv_iload_n hx hb d_M_fit_104 rfl (lv_at hl 1 rfl) ?_
                refine lv_if_eq (tgt := 113) hx hb d_M_fit_105 (by decide) (fun c_556 => ?_) (fun c_556 => ?_)
                · refine lv_iconst (v := 0) hx hb d_M_fit_113 (by decide) ?_
                  exact W.iret (v := 0) hx hb hr (fun t ht hW => ⟨0, rfl, by rw [hE, f_M_fit_L4, if_pos c_524, if_neg c_526, if_neg c_552, if_pos c_554, if_neg c_555], ht⟩) (fun _ h => nomatch h) d_M_fit_114
                · exact absurd c_556 (by decide)
            · refine lv_aload_n hx hb d_M_fit_82 rfl (lv_at hl 1 rfl) ?_
              refine va_get (D := (dC, dI)) (ci := 4) (v := .int (X 31 0)) (C := R_M) (T := F_M) (N := 39) hx hb hts i_M hown hK hP 0 rfl rfl 31 (by decide) (hts _ m_f_M_124) (fun _ h9 => h9) rfl d_M_fit_83 ?_
              refine lv_iload_n hx hb d_M_fit_86 rfl (lv_at hl 2 rfl) ?_
              refine nc_ro (va_runS (As := [.int (X 31 0), .int x1]) (rest := []) hfix (c_M_has l dC dI cA (X 31 0) x1) (k_M_114 hts hN ⟨Nat.le_of_ble_eq_true rfl, Nat.le_of_ble_eq_true rfl⟩) (nc_preS0 hK1 hN) rfl rfl hl.1 rfl (lv_room (Nat.le_of_ble_eq_true rfl)) d_M_fit_87 ⟨Nat.zero_le _, Nat.zero_le _⟩) (fun r er => ?_)
              obtain ⟨rfl, hz_557⟩ := er
              refine lv_if_ne (tgt := 97) hx hb d_M_fit_90 (by decide) (fun c_558 => ?_) (fun c_558 => ?_)
              · refine lv_iconst (v := 0) hx hb d_M_fit_97 (by decide) ?_
                refine lv_istore (lv' := [(4, .int 0), (3, .int 0), (0, .ref (a 0)), (1, .int x1), (2, .int z2)]) hx hb d_M_fit_98 hl (by decide) rfl (fun ls hl => ?_)
                refine lv_iload_n hx hb d_M_fit_100 rfl (lv_at hl 4 rfl) ?_
                refine lv_if_eq (tgt := 113) hx hb d_M_fit_101 (by decide) (fun c_559 => ?_) (fun c_559 => ?_)
                · refine lv_iconst (v := 0) hx hb d_M_fit_113 (by decide) ?_
                  exact W.iret (v := 0) hx hb hr (fun t ht hW => ⟨0, rfl, by rw [hE, f_M_fit_L4, if_pos c_524, if_neg c_526, if_neg c_552, if_neg c_554, if_neg c_558, if_pos c_559], ht⟩) (fun _ h => nomatch h) d_M_fit_114
                · refine lv_iload_n hx hb d_M_fit_104 rfl (lv_at hl 1 rfl) ?_
                  refine lv_if_eq (tgt := 113) hx hb d_M_fit_105 (by decide) (fun c_560 => ?_) (fun c_560 => ?_)
                  · refine lv_iconst (v := 0) hx hb d_M_fit_113 (by decide) ?_
                    exact W.iret (v := 0) hx hb hr (fun t ht hW => ⟨0, rfl, by rw [hE, f_M_fit_L4, if_pos c_524, if_neg c_526, if_neg c_552, if_neg c_554, if_neg c_558, if_neg c_559], ht⟩) (fun _ h => nomatch h) d_M_fit_114
                  · exact absurd c_560 (by decide)
              · refine lv_iconst (v := 1) hx hb d_M_fit_93 (by decide) ?_
                refine lv_goto (tgt := 98) hx hb d_M_fit_94 (by decide) ?_
                refine lv_istore (lv' := [(4, .int 1), (3, .int 0), (0, .ref (a 0)), (1, .int x1), (2, .int z2)]) hx hb d_M_fit_98 hl (by decide) rfl (fun ls hl => ?_)
                refine lv_iload_n hx hb d_M_fit_100 rfl (lv_at hl 4 rfl) ?_
                refine lv_if_eq (tgt := 113) hx hb d_M_fit_101 (by decide) (fun c_561 => ?_) (fun c_561 => ?_)
                · refine lv_iconst (v := 0) hx hb d_M_fit_113 (by decide) ?_
                  exact W.iret (v := 0) hx hb hr (fun t ht hW => ⟨0, rfl, by rw [hE, f_M_fit_L4, if_pos c_524, if_neg c_526, if_neg c_552, if_neg c_554, if_pos c_558, if_pos c_561], ht⟩) (fun _ h => nomatch h) d_M_fit_114
                · refine lv_iload_n hx hb d_M_fit_104 rfl (lv_at hl 1 rfl) ?_
                  refine lv_if_eq (tgt := 113) hx hb d_M_fit_105 (by decide) (fun c_562 => ?_) (fun c_562 => ?_)
                  · refine lv_iconst (v := 0) hx hb d_M_fit_113 (by decide) ?_
                    exact W.iret (v := 0) hx hb hr (fun t ht hW => ⟨0, rfl, by rw [hE, f_M_fit_L4, if_pos c_524, if_neg c_526, if_neg c_552, if_neg c_554, if_pos c_558, if_neg c_561], ht⟩) (fun _ h => nomatch h) d_M_fit_114
                  · exact absurd c_562 (by decide)
          · refine lv_iconst (v := 1) hx hb d_M_fit_65 (by decide) ?_
            refine lv_goto (tgt := 70) hx hb d_M_fit_66 (by decide) ?_
            refine lv_istore_n (lv' := [(3, .int 1), (0, .ref (a 0)), (1, .int x1), (2, .int z2)]) hx hb d_M_fit_70 rfl hl (by decide) rfl (fun ls hl => ?_)
            refine lv_aload_n hx hb d_M_fit_71 rfl (lv_at hl 1 rfl) ?_
            refine va_get (D := (dC, dI)) (ci := 4) (v := .int (X 16 0)) (C := R_M) (T := F_M) (N := 39) hx hb hts i_M hown hK hP 0 rfl rfl 16 (by decide) (hts _ m_f_M_108) (fun _ h9 => h9) rfl d_M_fit_72 ?_
            refine lv_iconst (v := 3) hx hb d_M_fit_75 (by decide) ?_
            refine nc_ro (va_runS (As := [.int (X 16 0), .int 3]) (rest := []) hfix (c_M_has l dC dI cA (X 16 0) 3) (k_M_114 hts hN ⟨Nat.le_of_ble_eq_true rfl, Nat.le_of_ble_eq_true rfl⟩) (nc_preS0 hK1 hN) rfl rfl hl.1 rfl (lv_room (Nat.le_of_ble_eq_true rfl)) d_M_fit_76 ⟨Nat.zero_le _, Nat.zero_le _⟩) (fun r er => ?_)
            obtain ⟨rfl, hz_563⟩ := er
            refine lv_if_eq (tgt := 93) hx hb d_M_fit_79 (by decide) (fun c_564 => ?_) (fun c_564 => ?_)
            · refine lv_iconst (v := 1) hx hb d_M_fit_93 (by decide) ?_
              refine lv_goto (tgt := 98) hx hb d_M_fit_94 (by decide) ?_
              refine lv_istore (lv' := [(4, .int 1), (3, .int 1), (0, .ref (a 0)), (1, .int x1), (2, .int z2)]) hx hb d_M_fit_98 hl (by decide) rfl (fun ls hl => ?_)
              refine lv_iload_n hx hb d_M_fit_100 rfl (lv_at hl 4 rfl) ?_
              refine lv_if_eq (tgt := 113) hx hb d_M_fit_101 (by decide) (fun c_565 => ?_) (fun c_565 => ?_)
              · refine lv_iconst (v := 0) hx hb d_M_fit_113 (by decide) ?_
                exact W.iret (v := 0) hx hb hr (fun t ht hW => ⟨0, rfl, by rw [hE, f_M_fit_L4, if_pos c_524, if_neg c_526, if_pos c_552, if_pos c_564, if_pos c_565], ht⟩) (fun _ h => nomatch h) d_M_fit_114
              · refine lv_iload_n hx hb d_M_fit_104 rfl (lv_at hl 1 rfl) ?_
                refine lv_if_eq (tgt := 113) hx hb d_M_fit_105 (by decide) (fun c_566 => ?_) (fun c_566 => ?_)
                · exact absurd c_566 (by decide)
                · refine lv_iload hx hb d_M_fit_108 (lv_at hl 0 rfl) ?_
                  refine lv_if_ne (tgt := 115) hx hb d_M_fit_110 (by decide) (fun c_567 => ?_) (fun c_567 => ?_)
                  · refine lv_aload_n hx hb d_M_fit_115 rfl (lv_at hl 2 rfl) ?_
                    refine va_get (D := (dC, dI)) (ci := 4) (v := .ref (a 9)) (C := R_M) (T := F_M) (N := 39) hx hb hts i_M hown hK hP 0 rfl rfl 17 (by decide) (hts _ m_f_M_41) (fun _ h9 => h9) rfl d_M_fit_116 ?_
                    refine lv_aload_n hx hb d_M_fit_119 rfl (lv_at hl 2 rfl) ?_
                    refine va_get (D := (dC, dI)) (ci := 4) (v := .int (X 18 0)) (C := R_M) (T := F_M) (N := 39) hx hb hts i_M hown hK hP 0 rfl rfl 18 (by decide) (hts _ m_f_M_111) (fun _ h9 => h9) rfl d_M_fit_120 ?_
                    refine lv_iconst (v := 1) hx hb d_M_fit_123 (by decide) ?_
                    refine lv_isub hx hb d_M_fit_124 ?_
                    refine va_iald (f := (X 17)) hx hb hK hP 9 0 rfl rfl (by have q0 := nc_le c_524 rfl rfl; have q1 := nc_ne c_526 rfl (L_0); have q2 := nc_eq c_552 rfl (L_2); have q3 := nc_eq c_564 rfl (L_0); have q4 := nc_ne c_565 rfl (L_0); have q5 := ht.1; have q6 := ht.2; have q7 := hw.1; have q8 := hw.2; have q9 := (nc_sub1 (Int.le_trans (by decide) hw.1)); have q10 := h0_4; exact vp_in_iff.mpr ⟨by omega, by omega⟩) d_M_fit_125 ?_
                    refine lv_istore (lv' := [(5, .int ((X 17) (((X 18 0) - 1)).toNatClampNeg)), (4, .int 1), (3, .int 1), (0, .ref (a 0)), (1, .int x1), (2, .int z2)]) hx hb d_M_fit_126 hl (by decide) rfl (fun ls hl => ?_)
                    refine lv_aload_n hx hb d_M_fit_128 rfl (lv_at hl 3 rfl) ?_
                    refine va_get (D := (dC, dI)) (ci := 4) (v := .ref (a 1)) (C := R_M) (T := F_M) (N := 39) hx hb hts i_M hown hK hP 0 rfl rfl 2 (by decide) (hts _ m_f_M_13) (fun _ h9 => h9) rfl d_M_fit_129 ?_
                    refine lv_iload_n hx hb d_M_fit_132 rfl (lv_at hl 4 rfl) ?_
                    refine va_iald (f := (X 2)) hx hb hK hP 1 0 rfl rfl (by have q0 := nc_le c_524 rfl rfl; have q1 := nc_ne c_526 rfl (L_0); have q2 := nc_eq c_552 rfl (L_2); have q3 := nc_eq c_564 rfl (L_0); have q4 := nc_ne c_565 rfl (L_0); have q5 := ht.1; have q6 := ht.2; have q7 := hw.1; have q8 := hw.2; have q9 := (nc_sub1 (Int.le_trans (by decide) hw.1)); have q10 := h0_4; exact vp_in_iff.mpr ⟨by omega, by omega⟩) d_M_fit_133 ?_
                    refine lv_iload hx hb d_M_fit_134 (lv_at hl 0 rfl) ?_
                    refine nc_ro (va_runS (As := [.int ((X 2) x1.toNatClampNeg), .int ((X 17) (((X 18 0) - 1)).toNatClampNeg)]) (rest := []) hfix (c_M_has l dC dI cA ((X 2) x1.toNatClampNeg) ((X 17) (((X 18 0) - 1)).toNatClampNeg)) (k_M_114 hts hN ⟨Nat.le_of_ble_eq_true rfl, Nat.le_of_ble_eq_true rfl⟩) (nc_preS0 hK1 hN) rfl rfl hl.1 rfl (lv_room (Nat.le_of_ble_eq_true rfl)) d_M_fit_136 ⟨Nat.zero_le _, Nat.zero_le _⟩) (fun r er => ?_)
                    obtain ⟨rfl, hz_568⟩ := er
                    refine lv_if_eq (tgt := 146) hx hb d_M_fit_139 (by decide) (fun c_569 => ?_) (fun c_569 => ?_)
                    · refine lv_iconst (v := 0) hx hb d_M_fit_146 (by decide) ?_
                      refine lv_aload_n hx hb d_M_fit_147 rfl (lv_at hl 3 rfl) ?_
                      refine va_get (D := (dC, dI)) (ci := 4) (v := .ref (a 3)) (C := R_M) (T := F_M) (N := 39) hx hb hts i_M hown hK hP 0 rfl rfl 4 (by decide) (hts _ m_f_M_20) (fun _ h9 => h9) rfl d_M_fit_148 ?_
                      refine lv_iload_n hx hb d_M_fit_151 rfl (lv_at hl 4 rfl) ?_
                      refine va_iald (f := (X 4)) hx hb hK hP 3 0 rfl rfl (by have q0 := nc_le c_524 rfl rfl; have q1 := nc_ne c_526 rfl (L_0); have q2 := nc_eq c_552 rfl (L_2); have q3 := nc_eq c_564 rfl (L_0); have q4 := nc_ne c_565 rfl (L_0); have q5 := nc_eq c_569 rfl (L_0); have q6 := ht.1; have q7 := ht.2; have q8 := hw.1; have q9 := hw.2; have q10 := (nc_sub1 (Int.le_trans (by decide) hw.1)); have q11 := h0_4; exact vp_in_iff.mpr ⟨by omega, by omega⟩) d_M_fit_152 ?_
                      refine lv_if_lt (tgt := 176) hx hb d_M_fit_153 (by decide) (fun c_570 => ?_) (fun c_570 => ?_)
                      · refine lv_iconst (v := 0) hx hb d_M_fit_176 (by decide) ?_
                        refine lv_iadd hx hb d_M_fit_177 ?_
                        exact W.iret (v := ((0 : Int32) + 0)) hx hb hr (fun t ht hW => ⟨((0 : Int32) + 0), rfl, by rw [hE, f_M_fit_L4, if_pos c_524, if_neg c_526, if_pos c_552, if_pos c_564, if_neg c_565, if_pos c_569, if_pos c_570], ht⟩) (fun _ h => nomatch h) d_M_fit_178
                      · refine lv_aload_n hx hb d_M_fit_156 rfl (lv_at hl 3 rfl) ?_
                        refine va_get (D := (dC, dI)) (ci := 4) (v := .ref (a 6)) (C := R_M) (T := F_M) (N := 39) hx hb hts i_M hown hK hP 0 rfl rfl 7 (by decide) (hts _ m_f_M_29) (fun _ h9 => h9) rfl d_M_fit_157 ?_
                        refine lv_aload_n hx hb d_M_fit_160 rfl (lv_at hl 3 rfl) ?_
                        refine va_get (D := (dC, dI)) (ci := 4) (v := .ref (a 3)) (C := R_M) (T := F_M) (N := 39) hx hb hts i_M hown hK hP 0 rfl rfl 4 (by decide) (hts _ m_f_M_20) (fun _ h9 => h9) rfl d_M_fit_161 ?_
                        refine lv_iload_n hx hb d_M_fit_164 rfl (lv_at hl 4 rfl) ?_
                        refine va_iald (f := (X 4)) hx hb hK hP 3 0 rfl rfl (by have q0 := nc_le c_524 rfl rfl; have q1 := nc_ne c_526 rfl (L_0); have q2 := nc_eq c_552 rfl (L_2); have q3 := nc_eq c_564 rfl (L_0); have q4 := nc_ne c_565 rfl (L_0); have q5 := nc_eq c_569 rfl (L_0); have q6 := nc_nlt c_570 rfl (L_0); have q7 := ht.1; have q8 := ht.2; have q9 := hw.1; have q10 := hw.2; have q11 := (nc_sub1 (Int.le_trans (by decide) hw.1)); have q12 := h0_4; exact vp_in_iff.mpr ⟨by omega, by omega⟩) d_M_fit_165 ?_
                        refine va_iald (f := (X 7)) hx hb hK hP 6 0 rfl rfl (by have q0 := nc_le c_524 rfl rfl; have q1 := nc_ne c_526 rfl (L_0); have q2 := nc_eq c_552 rfl (L_2); have q3 := nc_eq c_564 rfl (L_0); have q4 := nc_ne c_565 rfl (L_0); have q5 := nc_eq c_569 rfl (L_0); have q6 := nc_nlt c_570 rfl (L_0); have q7 := ht.1; have q8 := ht.2; have q9 := hw.1; have q10 := hw.2; have q11 := (nc_sub1 (Int.le_trans (by decide) hw.1)); have q12 := h0_4; have q99 := hmk x1.toNatClampNeg; exact vp_in_iff.mpr ⟨by omega, by omega⟩) d_M_fit_166 ?_
                        refine lv_iload hx hb d_M_fit_167 (lv_at hl 0 rfl) ?_
                        refine lv_icmp_ne (tgt := 176) hx hb d_M_fit_169 (by decide) (fun c_571 => ?_) (fun c_571 => ?_)
                        · refine lv_iconst (v := 0) hx hb d_M_fit_176 (by decide) ?_
                          refine lv_iadd hx hb d_M_fit_177 ?_
                          exact W.iret (v := ((0 : Int32) + 0)) hx hb hr (fun t ht hW => ⟨((0 : Int32) + 0), rfl, by rw [hE, f_M_fit_L4, if_pos c_524, if_neg c_526, if_pos c_552, if_pos c_564, if_neg c_565, if_pos c_569, if_neg c_570, if_neg c_571], ht⟩) (fun _ h => nomatch h) d_M_fit_178
                        · refine lv_iconst (v := 2) hx hb d_M_fit_172 (by decide) ?_
                          refine lv_goto (tgt := 177) hx hb d_M_fit_173 (by decide) ?_
                          refine lv_iadd hx hb d_M_fit_177 ?_
                          exact W.iret (v := ((0 : Int32) + 2)) hx hb hr (fun t ht hW => ⟨((0 : Int32) + 2), rfl, by rw [hE, f_M_fit_L4, if_pos c_524, if_neg c_526, if_pos c_552, if_pos c_564, if_neg c_565, if_pos c_569, if_neg c_570, if_pos c_571], ht⟩) (fun _ h => nomatch h) d_M_fit_178
                    · refine lv_iconst (v := 1) hx hb d_M_fit_142 (by decide) ?_
                      refine lv_goto (tgt := 147) hx hb d_M_fit_143 (by decide) ?_
                      refine lv_aload_n hx hb d_M_fit_147 rfl (lv_at hl 3 rfl) ?_
                      refine va_get (D := (dC, dI)) (ci := 4) (v := .ref (a 3)) (C := R_M) (T := F_M) (N := 39) hx hb hts i_M hown hK hP 0 rfl rfl 4 (by decide) (hts _ m_f_M_20) (fun _ h9 => h9) rfl d_M_fit_148 ?_
                      refine lv_iload_n hx hb d_M_fit_151 rfl (lv_at hl 4 rfl) ?_
                      refine va_iald (f := (X 4)) hx hb hK hP 3 0 rfl rfl (by have q0 := nc_le c_524 rfl rfl; have q1 := nc_ne c_526 rfl (L_0); have q2 := nc_eq c_552 rfl (L_2); have q3 := nc_eq c_564 rfl (L_0); have q4 := nc_ne c_565 rfl (L_0); have q5 := nc_ne c_569 rfl (L_0); have q6 := ht.1; have q7 := ht.2; have q8 := hw.1; have q9 := hw.2; have q10 := (nc_sub1 (Int.le_trans (by decide) hw.1)); have q11 := h0_4; exact vp_in_iff.mpr ⟨by omega, by omega⟩) d_M_fit_152 ?_
                      refine lv_if_lt (tgt := 176) hx hb d_M_fit_153 (by decide) (fun c_572 => ?_) (fun c_572 => ?_)
                      · refine lv_iconst (v := 0) hx hb d_M_fit_176 (by decide) ?_
                        refine lv_iadd hx hb d_M_fit_177 ?_
                        exact W.iret (v := ((1 : Int32) + 0)) hx hb hr (fun t ht hW => ⟨((1 : Int32) + 0), rfl, by rw [hE, f_M_fit_L4, if_pos c_524, if_neg c_526, if_pos c_552, if_pos c_564, if_neg c_565, if_neg c_569, if_pos c_572], ht⟩) (fun _ h => nomatch h) d_M_fit_178
                      · refine lv_aload_n hx hb d_M_fit_156 rfl (lv_at hl 3 rfl) ?_
                        refine va_get (D := (dC, dI)) (ci := 4) (v := .ref (a 6)) (C := R_M) (T := F_M) (N := 39) hx hb hts i_M hown hK hP 0 rfl rfl 7 (by decide) (hts _ m_f_M_29) (fun _ h9 => h9) rfl d_M_fit_157 ?_
                        refine lv_aload_n hx hb d_M_fit_160 rfl (lv_at hl 3 rfl) ?_
                        refine va_get (D := (dC, dI)) (ci := 4) (v := .ref (a 3)) (C := R_M) (T := F_M) (N := 39) hx hb hts i_M hown hK hP 0 rfl rfl 4 (by decide) (hts _ m_f_M_20) (fun _ h9 => h9) rfl d_M_fit_161 ?_
                        refine lv_iload_n hx hb d_M_fit_164 rfl (lv_at hl 4 rfl) ?_
                        refine va_iald (f := (X 4)) hx hb hK hP 3 0 rfl rfl (by have q0 := nc_le c_524 rfl rfl; have q1 := nc_ne c_526 rfl (L_0); have q2 := nc_eq c_552 rfl (L_2); have q3 := nc_eq c_564 rfl (L_0); have q4 := nc_ne c_565 rfl (L_0); have q5 := nc_ne c_569 rfl (L_0); have q6 := nc_nlt c_572 rfl (L_0); have q7 := ht.1; have q8 := ht.2; have q9 := hw.1; have q10 := hw.2; have q11 := (nc_sub1 (Int.le_trans (by decide) hw.1)); have q12 := h0_4; exact vp_in_iff.mpr ⟨by omega, by omega⟩) d_M_fit_165 ?_
                        refine va_iald (f := (X 7)) hx hb hK hP 6 0 rfl rfl (by have q0 := nc_le c_524 rfl rfl; have q1 := nc_ne c_526 rfl (L_0); have q2 := nc_eq c_552 rfl (L_2); have q3 := nc_eq c_564 rfl (L_0); have q4 := nc_ne c_565 rfl (L_0); have q5 := nc_ne c_569 rfl (L_0); have q6 := nc_nlt c_572 rfl (L_0); have q7 := ht.1; have q8 := ht.2; have q9 := hw.1; have q10 := hw.2; have q11 := (nc_sub1 (Int.le_trans (by decide) hw.1)); have q12 := h0_4; have q99 := hmk x1.toNatClampNeg; exact vp_in_iff.mpr ⟨by omega, by omega⟩) d_M_fit_166 ?_
                        refine lv_iload hx hb d_M_fit_167 (lv_at hl 0 rfl) ?_
                        refine lv_icmp_ne (tgt := 176) hx hb d_M_fit_169 (by decide) (fun c_573 => ?_) (fun c_573 => ?_)
                        · refine lv_iconst (v := 0) hx hb d_M_fit_176 (by decide) ?_
                          refine lv_iadd hx hb d_M_fit_177 ?_
                          exact W.iret (v := ((1 : Int32) + 0)) hx hb hr (fun t ht hW => ⟨((1 : Int32) + 0), rfl, by rw [hE, f_M_fit_L4, if_pos c_524, if_neg c_526, if_pos c_552, if_pos c_564, if_neg c_565, if_neg c_569, if_neg c_572, if_neg c_573], ht⟩) (fun _ h => nomatch h) d_M_fit_178
                        · refine lv_iconst (v := 2) hx hb d_M_fit_172 (by decide) ?_
                          refine lv_goto (tgt := 177) hx hb d_M_fit_173 (by decide) ?_
                          refine lv_iadd hx hb d_M_fit_177 ?_
                          exact W.iret (v := ((1 : Int32) + 2)) hx hb hr (fun t ht hW => ⟨((1 : Int32) + 2), rfl, by rw [hE, f_M_fit_L4, if_pos c_524, if_neg c_526, if_pos c_552, if_pos c_564, if_neg c_565, if_neg c_569, if_neg c_572, if_pos c_573], ht⟩) (fun _ h => nomatch h) d_M_fit_178
                  · exact absurd c_567 (by decide)
            · refine lv_aload_n hx hb d_M_fit_82 rfl (lv_at hl 1 rfl) ?_
              refine va_get (D := (dC, dI)) (ci := 4) (v := .int (X 31 0)) (C := R_M) (T := F_M) (N := 39) hx hb hts i_M hown hK hP 0 rfl rfl 31 (by decide) (hts _ m_f_M_124) (fun _ h9 => h9) rfl d_M_fit_83 ?_
              refine lv_iload_n hx hb d_M_fit_86 rfl (lv_at hl 2 rfl) ?_
              refine nc_ro (va_runS (As := [.int (X 31 0), .int x1]) (rest := []) hfix (c_M_has l dC dI cA (X 31 0) x1) (k_M_114 hts hN ⟨Nat.le_of_ble_eq_true rfl, Nat.le_of_ble_eq_true rfl⟩) (nc_preS0 hK1 hN) rfl rfl hl.1 rfl (lv_room (Nat.le_of_ble_eq_true rfl)) d_M_fit_87 ⟨Nat.zero_le _, Nat.zero_le _⟩) (fun r er => ?_)
              obtain ⟨rfl, hz_574⟩ := er
              refine lv_if_ne (tgt := 97) hx hb d_M_fit_90 (by decide) (fun c_575 => ?_) (fun c_575 => ?_)
              · refine lv_iconst (v := 0) hx hb d_M_fit_97 (by decide) ?_
                refine lv_istore (lv' := [(4, .int 0), (3, .int 1), (0, .ref (a 0)), (1, .int x1), (2, .int z2)]) hx hb d_M_fit_98 hl (by decide) rfl (fun ls hl => ?_)
                refine lv_iload_n hx hb d_M_fit_100 rfl (lv_at hl 4 rfl) ?_
                refine lv_if_eq (tgt := 113) hx hb d_M_fit_101 (by decide) (fun c_576 => ?_) (fun c_576 => ?_)
                · refine lv_iconst (v := 0) hx hb d_M_fit_113 (by decide) ?_
                  exact W.iret (v := 0) hx hb hr (fun t ht hW => ⟨0, rfl, by rw [hE, f_M_fit_L4, if_pos c_524, if_neg c_526, if_pos c_552, if_neg c_564, if_neg c_575, if_pos c_576], ht⟩) (fun _ h => nomatch h) d_M_fit_114
                · refine lv_iload_n hx hb d_M_fit_104 rfl (lv_at hl 1 rfl) ?_
                  refine lv_if_eq (tgt := 113) hx hb d_M_fit_105 (by decide) (fun c_577 => ?_) (fun c_577 => ?_)
                  · exact absurd c_577 (by decide)
                  · refine lv_iload hx hb d_M_fit_108 (lv_at hl 0 rfl) ?_
                    refine lv_if_ne (tgt := 115) hx hb d_M_fit_110 (by decide) (fun c_578 => ?_) (fun c_578 => ?_)
                    · exact absurd c_578 (by decide)
                    · refine lv_iconst (v := 0) hx hb d_M_fit_113 (by decide) ?_
                      exact W.iret (v := 0) hx hb hr (fun t ht hW => ⟨0, rfl, by rw [hE, f_M_fit_L4, if_pos c_524, if_neg c_526, if_pos c_552, if_neg c_564, if_neg c_575, if_neg c_576], ht⟩) (fun _ h => nomatch h) d_M_fit_114
              · refine lv_iconst (v := 1) hx hb d_M_fit_93 (by decide) ?_
                refine lv_goto (tgt := 98) hx hb d_M_fit_94 (by decide) ?_
                refine lv_istore (lv' := [(4, .int 1), (3, .int 1), (0, .ref (a 0)), (1, .int x1), (2, .int z2)]) hx hb d_M_fit_98 hl (by decide) rfl (fun ls hl => ?_)
                refine lv_iload_n hx hb d_M_fit_100 rfl (lv_at hl 4 rfl) ?_
                refine lv_if_eq (tgt := 113) hx hb d_M_fit_101 (by decide) (fun c_579 => ?_) (fun c_579 => ?_)
                · refine lv_iconst (v := 0) hx hb d_M_fit_113 (by decide) ?_
                  exact W.iret (v := 0) hx hb hr (fun t ht hW => ⟨0, rfl, by rw [hE, f_M_fit_L4, if_pos c_524, if_neg c_526, if_pos c_552, if_neg c_564, if_pos c_575, if_pos c_579], ht⟩) (fun _ h => nomatch h) d_M_fit_114
                · refine lv_iload_n hx hb d_M_fit_104 rfl (lv_at hl 1 rfl) ?_
                  refine lv_if_eq (tgt := 113) hx hb d_M_fit_105 (by decide) (fun c_580 => ?_) (fun c_580 => ?_)
                  · exact absurd c_580 (by decide)
                  · refine lv_iload hx hb d_M_fit_108 (lv_at hl 0 rfl) ?_
                    refine lv_if_ne (tgt := 115) hx hb d_M_fit_110 (by decide) (fun c_581 => ?_) (fun c_581 => ?_)
                    · refine lv_aload_n hx hb d_M_fit_115 rfl (lv_at hl 2 rfl) ?_
                      refine va_get (D := (dC, dI)) (ci := 4) (v := .ref (a 9)) (C := R_M) (T := F_M) (N := 39) hx hb hts i_M hown hK hP 0 rfl rfl 17 (by decide) (hts _ m_f_M_41) (fun _ h9 => h9) rfl d_M_fit_116 ?_
                      refine lv_aload_n hx hb d_M_fit_119 rfl (lv_at hl 2 rfl) ?_
                      refine va_get (D := (dC, dI)) (ci := 4) (v := .int (X 18 0)) (C := R_M) (T := F_M) (N := 39) hx hb hts i_M hown hK hP 0 rfl rfl 18 (by decide) (hts _ m_f_M_111) (fun _ h9 => h9) rfl d_M_fit_120 ?_
                      refine lv_iconst (v := 1) hx hb d_M_fit_123 (by decide) ?_
                      refine lv_isub hx hb d_M_fit_124 ?_
                      refine va_iald (f := (X 17)) hx hb hK hP 9 0 rfl rfl (by have q0 := nc_le c_524 rfl rfl; have q1 := nc_ne c_526 rfl (L_0); have q2 := nc_eq c_552 rfl (L_2); have q3 := nc_ne c_564 rfl (L_0); have q4 := nc_eq c_575 rfl (L_0); have q5 := nc_ne c_579 rfl (L_0); have q6 := ht.1; have q7 := ht.2; have q8 := hw.1; have q9 := hw.2; have q10 := (nc_sub1 (Int.le_trans (by decide) hw.1)); have q11 := h0_4; exact vp_in_iff.mpr ⟨by omega, by omega⟩) d_M_fit_125 ?_
                      refine lv_istore (lv' := [(5, .int ((X 17) (((X 18 0) - 1)).toNatClampNeg)), (4, .int 1), (3, .int 1), (0, .ref (a 0)), (1, .int x1), (2, .int z2)]) hx hb d_M_fit_126 hl (by decide) rfl (fun ls hl => ?_)
                      refine lv_aload_n hx hb d_M_fit_128 rfl (lv_at hl 3 rfl) ?_
                      refine va_get (D := (dC, dI)) (ci := 4) (v := .ref (a 1)) (C := R_M) (T := F_M) (N := 39) hx hb hts i_M hown hK hP 0 rfl rfl 2 (by decide) (hts _ m_f_M_13) (fun _ h9 => h9) rfl d_M_fit_129 ?_
                      refine lv_iload_n hx hb d_M_fit_132 rfl (lv_at hl 4 rfl) ?_
                      refine va_iald (f := (X 2)) hx hb hK hP 1 0 rfl rfl (by have q0 := nc_le c_524 rfl rfl; have q1 := nc_ne c_526 rfl (L_0); have q2 := nc_eq c_552 rfl (L_2); have q3 := nc_ne c_564 rfl (L_0); have q4 := nc_eq c_575 rfl (L_0); have q5 := nc_ne c_579 rfl (L_0); have q6 := ht.1; have q7 := ht.2; have q8 := hw.1; have q9 := hw.2; have q10 := (nc_sub1 (Int.le_trans (by decide) hw.1)); have q11 := h0_4; exact vp_in_iff.mpr ⟨by omega, by omega⟩) d_M_fit_133 ?_
                      refine lv_iload hx hb d_M_fit_134 (lv_at hl 0 rfl) ?_
                      refine nc_ro (va_runS (As := [.int ((X 2) x1.toNatClampNeg), .int ((X 17) (((X 18 0) - 1)).toNatClampNeg)]) (rest := []) hfix (c_M_has l dC dI cA ((X 2) x1.toNatClampNeg) ((X 17) (((X 18 0) - 1)).toNatClampNeg)) (k_M_114 hts hN ⟨Nat.le_of_ble_eq_true rfl, Nat.le_of_ble_eq_true rfl⟩) (nc_preS0 hK1 hN) rfl rfl hl.1 rfl (lv_room (Nat.le_of_ble_eq_true rfl)) d_M_fit_136 ⟨Nat.zero_le _, Nat.zero_le _⟩) (fun r er => ?_)
                      obtain ⟨rfl, hz_582⟩ := er
                      refine lv_if_eq (tgt := 146) hx hb d_M_fit_139 (by decide) (fun c_583 => ?_) (fun c_583 => ?_)
                      · refine lv_iconst (v := 0) hx hb d_M_fit_146 (by decide) ?_
                        refine lv_aload_n hx hb d_M_fit_147 rfl (lv_at hl 3 rfl) ?_
                        refine va_get (D := (dC, dI)) (ci := 4) (v := .ref (a 3)) (C := R_M) (T := F_M) (N := 39) hx hb hts i_M hown hK hP 0 rfl rfl 4 (by decide) (hts _ m_f_M_20) (fun _ h9 => h9) rfl d_M_fit_148 ?_
                        refine lv_iload_n hx hb d_M_fit_151 rfl (lv_at hl 4 rfl) ?_
                        refine va_iald (f := (X 4)) hx hb hK hP 3 0 rfl rfl (by have q0 := nc_le c_524 rfl rfl; have q1 := nc_ne c_526 rfl (L_0); have q2 := nc_eq c_552 rfl (L_2); have q3 := nc_ne c_564 rfl (L_0); have q4 := nc_eq c_575 rfl (L_0); have q5 := nc_ne c_579 rfl (L_0); have q6 := nc_eq c_583 rfl (L_0); have q7 := ht.1; have q8 := ht.2; have q9 := hw.1; have q10 := hw.2; have q11 := (nc_sub1 (Int.le_trans (by decide) hw.1)); have q12 := h0_4; exact vp_in_iff.mpr ⟨by omega, by omega⟩) d_M_fit_152 ?_
                        refine lv_if_lt (tgt := 176) hx hb d_M_fit_153 (by decide) (fun c_584 => ?_) (fun c_584 => ?_)
                        · refine lv_iconst (v := 0) hx hb d_M_fit_176 (by decide) ?_
                          refine lv_iadd hx hb d_M_fit_177 ?_
                          exact W.iret (v := ((0 : Int32) + 0)) hx hb hr (fun t ht hW => ⟨((0 : Int32) + 0), rfl, by rw [hE, f_M_fit_L4, if_pos c_524, if_neg c_526, if_pos c_552, if_neg c_564, if_pos c_575, if_neg c_579, if_pos c_583, if_pos c_584], ht⟩) (fun _ h => nomatch h) d_M_fit_178
                        · refine lv_aload_n hx hb d_M_fit_156 rfl (lv_at hl 3 rfl) ?_
                          refine va_get (D := (dC, dI)) (ci := 4) (v := .ref (a 6)) (C := R_M) (T := F_M) (N := 39) hx hb hts i_M hown hK hP 0 rfl rfl 7 (by decide) (hts _ m_f_M_29) (fun _ h9 => h9) rfl d_M_fit_157 ?_
                          refine lv_aload_n hx hb d_M_fit_160 rfl (lv_at hl 3 rfl) ?_
                          refine va_get (D := (dC, dI)) (ci := 4) (v := .ref (a 3)) (C := R_M) (T := F_M) (N := 39) hx hb hts i_M hown hK hP 0 rfl rfl 4 (by decide) (hts _ m_f_M_20) (fun _ h9 => h9) rfl d_M_fit_161 ?_
                          refine lv_iload_n hx hb d_M_fit_164 rfl (lv_at hl 4 rfl) ?_
                          refine va_iald (f := (X 4)) hx hb hK hP 3 0 rfl rfl (by have q0 := nc_le c_524 rfl rfl; have q1 := nc_ne c_526 rfl (L_0); have q2 := nc_eq c_552 rfl (L_2); have q3 := nc_ne c_564 rfl (L_0); have q4 := nc_eq c_575 rfl (L_0); have q5 := nc_ne c_579 rfl (L_0); have q6 := nc_eq c_583 rfl (L_0); have q7 := nc_nlt c_584 rfl (L_0); have q8 := ht.1; have q9 := ht.2; have q10 := hw.1; have q11 := hw.2; have q12 := (nc_sub1 (Int.le_trans (by decide) hw.1)); have q13 := h0_4; exact vp_in_iff.mpr ⟨by omega, by omega⟩) d_M_fit_165 ?_
                          refine va_iald (f := (X 7)) hx hb hK hP 6 0 rfl rfl (by have q0 := nc_le c_524 rfl rfl; have q1 := nc_ne c_526 rfl (L_0); have q2 := nc_eq c_552 rfl (L_2); have q3 := nc_ne c_564 rfl (L_0); have q4 := nc_eq c_575 rfl (L_0); have q5 := nc_ne c_579 rfl (L_0); have q6 := nc_eq c_583 rfl (L_0); have q7 := nc_nlt c_584 rfl (L_0); have q8 := ht.1; have q9 := ht.2; have q10 := hw.1; have q11 := hw.2; have q12 := (nc_sub1 (Int.le_trans (by decide) hw.1)); have q13 := h0_4; have q99 := hmk x1.toNatClampNeg; exact vp_in_iff.mpr ⟨by omega, by omega⟩) d_M_fit_166 ?_
                          refine lv_iload hx hb d_M_fit_167 (lv_at hl 0 rfl) ?_
                          refine lv_icmp_ne (tgt := 176) hx hb d_M_fit_169 (by decide) (fun c_585 => ?_) (fun c_585 => ?_)
                          · refine lv_iconst (v := 0) hx hb d_M_fit_176 (by decide) ?_
                            refine lv_iadd hx hb d_M_fit_177 ?_
                            exact W.iret (v := ((0 : Int32) + 0)) hx hb hr (fun t ht hW => ⟨((0 : Int32) + 0), rfl, by rw [hE, f_M_fit_L4, if_pos c_524, if_neg c_526, if_pos c_552, if_neg c_564, if_pos c_575, if_neg c_579, if_pos c_583, if_neg c_584, if_neg c_585], ht⟩) (fun _ h => nomatch h) d_M_fit_178
                          · refine lv_iconst (v := 2) hx hb d_M_fit_172 (by decide) ?_
                            refine lv_goto (tgt := 177) hx hb d_M_fit_173 (by decide) ?_
                            refine lv_iadd hx hb d_M_fit_177 ?_
                            exact W.iret (v := ((0 : Int32) + 2)) hx hb hr (fun t ht hW => ⟨((0 : Int32) + 2), rfl, by rw [hE, f_M_fit_L4, if_pos c_524, if_neg c_526, if_pos c_552, if_neg c_564, if_pos c_575, if_neg c_579, if_pos c_583, if_neg c_584, if_pos c_585], ht⟩) (fun _ h => nomatch h) d_M_fit_178
                      · refine lv_iconst (v := 1) hx hb d_M_fit_142 (by decide) ?_
                        refine lv_goto (tgt := 147) hx hb d_M_fit_143 (by decide) ?_
                        refine lv_aload_n hx hb d_M_fit_147 rfl (lv_at hl 3 rfl) ?_
                        refine va_get (D := (dC, dI)) (ci := 4) (v := .ref (a 3)) (C := R_M) (T := F_M) (N := 39) hx hb hts i_M hown hK hP 0 rfl rfl 4 (by decide) (hts _ m_f_M_20) (fun _ h9 => h9) rfl d_M_fit_148 ?_
                        refine lv_iload_n hx hb d_M_fit_151 rfl (lv_at hl 4 rfl) ?_
                        refine va_iald (f := (X 4)) hx hb hK hP 3 0 rfl rfl (by have q0 := nc_le c_524 rfl rfl; have q1 := nc_ne c_526 rfl (L_0); have q2 := nc_eq c_552 rfl (L_2); have q3 := nc_ne c_564 rfl (L_0); have q4 := nc_eq c_575 rfl (L_0); have q5 := nc_ne c_579 rfl (L_0); have q6 := nc_ne c_583 rfl (L_0); have q7 := ht.1; have q8 := ht.2; have q9 := hw.1; have q10 := hw.2; have q11 := (nc_sub1 (Int.le_trans (by decide) hw.1)); have q12 := h0_4; exact vp_in_iff.mpr ⟨by omega, by omega⟩) d_M_fit_152 ?_
                        refine lv_if_lt (tgt := 176) hx hb d_M_fit_153 (by decide) (fun c_586 => ?_) (fun c_586 => ?_)
                        · refine lv_iconst (v := 0) hx hb d_M_fit_176 (by decide) ?_
                          refine lv_iadd hx hb d_M_fit_177 ?_
                          exact W.iret (v := ((1 : Int32) + 0)) hx hb hr (fun t ht hW => ⟨((1 : Int32) + 0), rfl, by rw [hE, f_M_fit_L4, if_pos c_524, if_neg c_526, if_pos c_552, if_neg c_564, if_pos c_575, if_neg c_579, if_neg c_583, if_pos c_586], ht⟩) (fun _ h => nomatch h) d_M_fit_178
                        · refine lv_aload_n hx hb d_M_fit_156 rfl (lv_at hl 3 rfl) ?_
                          refine va_get (D := (dC, dI)) (ci := 4) (v := .ref (a 6)) (C := R_M) (T := F_M) (N := 39) hx hb hts i_M hown hK hP 0 rfl rfl 7 (by decide) (hts _ m_f_M_29) (fun _ h9 => h9) rfl d_M_fit_157 ?_
                          refine lv_aload_n hx hb d_M_fit_160 rfl (lv_at hl 3 rfl) ?_
                          refine va_get (D := (dC, dI)) (ci := 4) (v := .ref (a 3)) (C := R_M) (T := F_M) (N := 39) hx hb hts i_M hown hK hP 0 rfl rfl 4 (by decide) (hts _ m_f_M_20) (fun _ h9 => h9) rfl d_M_fit_161 ?_
                          refine lv_iload_n hx hb d_M_fit_164 rfl (lv_at hl 4 rfl) ?_
                          refine va_iald (f := (X 4)) hx hb hK hP 3 0 rfl rfl (by have q0 := nc_le c_524 rfl rfl; have q1 := nc_ne c_526 rfl (L_0); have q2 := nc_eq c_552 rfl (L_2); have q3 := nc_ne c_564 rfl (L_0); have q4 := nc_eq c_575 rfl (L_0); have q5 := nc_ne c_579 rfl (L_0); have q6 := nc_ne c_583 rfl (L_0); have q7 := nc_nlt c_586 rfl (L_0); have q8 := ht.1; have q9 := ht.2; have q10 := hw.1; have q11 := hw.2; have q12 := (nc_sub1 (Int.le_trans (by decide) hw.1)); have q13 := h0_4; exact vp_in_iff.mpr ⟨by omega, by omega⟩) d_M_fit_165 ?_
                          refine va_iald (f := (X 7)) hx hb hK hP 6 0 rfl rfl (by have q0 := nc_le c_524 rfl rfl; have q1 := nc_ne c_526 rfl (L_0); have q2 := nc_eq c_552 rfl (L_2); have q3 := nc_ne c_564 rfl (L_0); have q4 := nc_eq c_575 rfl (L_0); have q5 := nc_ne c_579 rfl (L_0); have q6 := nc_ne c_583 rfl (L_0); have q7 := nc_nlt c_586 rfl (L_0); have q8 := ht.1; have q9 := ht.2; have q10 := hw.1; have q11 := hw.2; have q12 := (nc_sub1 (Int.le_trans (by decide) hw.1)); have q13 := h0_4; have q99 := hmk x1.toNatClampNeg; exact vp_in_iff.mpr ⟨by omega, by omega⟩) d_M_fit_166 ?_
                          refine lv_iload hx hb d_M_fit_167 (lv_at hl 0 rfl) ?_
                          refine lv_icmp_ne (tgt := 176) hx hb d_M_fit_169 (by decide) (fun c_587 => ?_) (fun c_587 => ?_)
                          · refine lv_iconst (v := 0) hx hb d_M_fit_176 (by decide) ?_
                            refine lv_iadd hx hb d_M_fit_177 ?_
                            exact W.iret (v := ((1 : Int32) + 0)) hx hb hr (fun t ht hW => ⟨((1 : Int32) + 0), rfl, by rw [hE, f_M_fit_L4, if_pos c_524, if_neg c_526, if_pos c_552, if_neg c_564, if_pos c_575, if_neg c_579, if_neg c_583, if_neg c_586, if_neg c_587], ht⟩) (fun _ h => nomatch h) d_M_fit_178
                          · refine lv_iconst (v := 2) hx hb d_M_fit_172 (by decide) ?_
                            refine lv_goto (tgt := 177) hx hb d_M_fit_173 (by decide) ?_
                            refine lv_iadd hx hb d_M_fit_177 ?_
                            exact W.iret (v := ((1 : Int32) + 2)) hx hb hr (fun t ht hW => ⟨((1 : Int32) + 2), rfl, by rw [hE, f_M_fit_L4, if_pos c_524, if_neg c_526, if_pos c_552, if_neg c_564, if_pos c_575, if_neg c_579, if_neg c_583, if_neg c_586, if_pos c_587], ht⟩) (fun _ h => nomatch h) d_M_fit_178
                    · exact absurd c_581 (by decide)
      · refine lv_iload_n hx hb d_M_fit_14 rfl (lv_at hl 3 rfl) ?_
        refine lv_if_eq (tgt := 36) hx hb d_M_fit_15 (by decide) (fun c_588 => ?_) (fun c_588 => ?_)
        · refine lv_iconst (v := 0) hx hb d_M_fit_36 (by decide) ?_
          refine lv_istore_n (lv' := [(2, .int 0), (0, .ref (a 0)), (1, .int x1), (3, .int z3)]) hx hb d_M_fit_37 rfl hl (by decide) rfl (fun ls hl => ?_)
          refine lv_iinc (v := (z3 + 1)) (lv' := [(3, .int (z3 + 1)), (2, .int 0), (0, .ref (a 0)), (1, .int x1)]) hx hb d_M_fit_38 hl (k := 3) rfl rfl (by decide) rfl (fun ls hl => ?_)
          refine lv_goto (tgt := 4) hx hb d_M_fit_41 (by decide) ?_
          exact ih (z3 + 1) 0 ls (by rw [hE, f_M_fit_L4, if_neg c_524, if_pos c_588]) (nc_mu_step c_524 hm) (nc_i_step c_524 h0_4) (lv_sub hl [2, 3, 0, 1] rfl)
        · refine lv_aload_n hx hb d_M_fit_18 rfl (lv_at hl 0 rfl) ?_
          refine lv_iload_n hx hb d_M_fit_19 rfl (lv_at hl 1 rfl) ?_
          refine lv_aload_n hx hb d_M_fit_20 rfl (lv_at hl 0 rfl) ?_
          refine va_get (D := (dC, dI)) (ci := 4) (v := .ref (a 9)) (C := R_M) (T := F_M) (N := 39) hx hb hts i_M hown hK hP 0 rfl rfl 17 (by decide) (hts _ m_f_M_41) (fun _ h9 => h9) rfl d_M_fit_21 ?_
          refine lv_iload_n hx hb d_M_fit_24 rfl (lv_at hl 2 rfl) ?_
          refine va_iald (f := (X 17)) hx hb hK hP 9 0 rfl rfl (by have q0 := nc_nle c_524 rfl rfl; have q1 := nc_ne c_588 rfl (L_0); have q2 := ht.1; have q3 := ht.2; have q4 := hw.1; have q5 := hw.2; have q6 := (nc_sub1 (Int.le_trans (by decide) hw.1)); have q7 := h0_4; exact vp_in_iff.mpr ⟨by omega, by omega⟩) d_M_fit_25 ?_
          refine nc_ro (va_runV (As := [.int x1, .int ((X 17) z3.toNatClampNeg)]) (rest := []) hfix (c_M_hasWord l dC dI cA cZ a rv X x1 ((X 17) z3.toNatClampNeg) (by have q0 := nc_nle c_524 rfl rfl; have q1 := nc_ne c_588 rfl (L_0); have q2 := ht.1; have q3 := ht.2; have q4 := hw.1; have q5 := hw.2; have q6 := (nc_sub1 (Int.le_trans (by decide) hw.1)); have q7 := h0_4; exact ⟨by omega, by omega⟩)) (k_M_121 hts hN ⟨Nat.le_of_ble_eq_true rfl, Nat.le_of_ble_eq_true rfl⟩) (nc_preVZ hK hN hP hD rfl rfl) rfl rfl hl.1 rfl (lv_room (Nat.le_of_ble_eq_true rfl)) d_M_fit_26 ⟨Nat.zero_le _, Nat.zero_le _⟩) (fun r er => ?_)
          obtain ⟨rfl, hz_589⟩ := er
          refine lv_if_eq (tgt := 36) hx hb d_M_fit_29 (by decide) (fun c_590 => ?_) (fun c_590 => ?_)
          · refine lv_iconst (v := 0) hx hb d_M_fit_36 (by decide) ?_
            refine lv_istore_n (lv' := [(2, .int 0), (0, .ref (a 0)), (1, .int x1), (3, .int z3)]) hx hb d_M_fit_37 rfl hl (by decide) rfl (fun ls hl => ?_)
            refine lv_iinc (v := (z3 + 1)) (lv' := [(3, .int (z3 + 1)), (2, .int 0), (0, .ref (a 0)), (1, .int x1)]) hx hb d_M_fit_38 hl (k := 3) rfl rfl (by decide) rfl (fun ls hl => ?_)
            refine lv_goto (tgt := 4) hx hb d_M_fit_41 (by decide) ?_
            exact ih (z3 + 1) 0 ls (by rw [hE, f_M_fit_L4, if_neg c_524, if_neg c_588, if_pos c_590]) (nc_mu_step c_524 hm) (nc_i_step c_524 h0_4) (lv_sub hl [2, 3, 0, 1] rfl)
          · refine lv_iconst (v := 1) hx hb d_M_fit_32 (by decide) ?_
            refine lv_goto (tgt := 37) hx hb d_M_fit_33 (by decide) ?_
            refine lv_istore_n (lv' := [(2, .int 1), (0, .ref (a 0)), (1, .int x1), (3, .int z3)]) hx hb d_M_fit_37 rfl hl (by decide) rfl (fun ls hl => ?_)
            refine lv_iinc (v := (z3 + 1)) (lv' := [(3, .int (z3 + 1)), (2, .int 1), (0, .ref (a 0)), (1, .int x1)]) hx hb d_M_fit_38 hl (k := 3) rfl rfl (by decide) rfl (fun ls hl => ?_)
            refine lv_goto (tgt := 4) hx hb d_M_fit_41 (by decide) ?_
            exact ih (z3 + 1) 1 ls (by rw [hE, f_M_fit_L4, if_neg c_524, if_neg c_588, if_neg c_590]) (nc_mu_step c_524 hm) (nc_i_step c_524 h0_4) (lv_sub hl [2, 3, 0, 1] rfl)
  exact loop_4 (nc_mu ((X 18 0) - 1) 0 + 1) 0 1 ls (by rw [f_M_fit]) (Nat.lt_succ_self _) (by decide) (lv_sub hl [2, 3, 0, 1] rfl)
def f_M_fitting_L4 (X : Nat → Nat → Int32) (x1 : Int32) : Nat → Int32 → Int32 → Int32
  | 0, z3, z2 => 0
  | n + 1, z3, z2 => (if (X 1 0) ≤ z3 then z2 else (if ((f_M_fit X z3) &&& x1) = 0 then (f_M_fitting_L4 X x1 n (z3 + 1) z2) else (f_M_fitting_L4 X x1 n (z3 + 1) (z2 ||| ((1 : Int32) <<< (z3 &&& 31))))))
def f_M_fitting (X : Nat → Nat → Int32) (x1 : Int32) : Int32 := (f_M_fitting_L4 X x1 (nc_mu (X 1 0) 0 + 1) 0 0)
abbrev ws_M_fitting : List Cond := .code y_M_fitting b_M_fitting 4 (some .int) :: lw_G
abbrev rm_M_fitting : Room := { frames := 3, cells := 0, slots := 0, locals := 68 }
set_option maxHeartbeats 4000000 in
set_option maxRecDepth 100000 in
theorem c_M_fitting (l : Launch) (dC : Nat → ClassId) (dI : Nat → Nat → Nat) (cA cZ : ClassId) (a : Nat → Nat) (rv : Value) (X : Nat → Nat → Int32) (x1 : Int32) (hmt : m_t X) (hmk : m_k X) (hw : 1 ≤ (X 18 0).toInt ∧ (X 18 0).toInt ≤ 6) : Met l y_M_fitting ws_M_fitting rm_M_fitting (nc_PreZ (dC, dI) cA cZ [.ref (a 0), .int x1] (w_M cA cZ a rv X)) (vp_Si (fun r => r = (f_M_fitting X x1))) 0 0 (fun _ => False) := by
  refine Met.ofW (cc := b_M_fitting) (maxL := 4) (ret := (some .int)) (by decide) rfl ?_
  intro p e s m args below meth c s₁ B hml hv
  obtain ⟨rfl, hP, hK, hD, hN⟩ := hv
  have hx := B.exec
  have hb := B.bytes
  have hr := B.returns
  have hts : ∀ w ∈ lw_G, w.before [.ref (a 0), .int x1].toArray s = true := fun w h => atoms_spec (ws := ws_M_fitting) B.pre w (List.mem_cons_of_mem _ h)
  have hown : s.vm.findClass R_M = some m.cls := findClass_of_methodNamed B.named
  have hlocks := B.notSynchronized
  have hfix : CallFix p m c b_M_fitting 4 s [.ref (a 0), .int x1].toArray lw_G R_M := ⟨hx, hb, hml, hown, hts⟩
  have hK1 := hK.sub (tys' := [(cA, .int)]) [0] rfl
  have hl := lv_entry ([.ref (a 0), .int x1]) (n := 4) (Nat.le_of_ble_eq_true rfl)
  rw [lg_entry_eq]
  generalize (lg_sl ([.ref (a 0), .int x1]) ++ List.replicate (4 - (lg_sl ([.ref (a 0), .int x1])).length) Slot.unset).toArray = ls at hl ⊢
  have hl : lv_has ls 4 [(0, .ref (a 0)), (1, .int x1)] := hl
  refine lv_iconst (v := 0) hx hb d_M_fitting_0 (by decide) ?_
  refine lv_istore_n (lv' := [(2, .int 0), (0, .ref (a 0)), (1, .int x1)]) hx hb d_M_fitting_1 rfl hl (by decide) rfl (fun ls hl => ?_)
  refine lv_iconst (v := 0) hx hb d_M_fitting_2 (by decide) ?_
  refine lv_istore_n (lv' := [(3, .int 0), (2, .int 0), (0, .ref (a 0)), (1, .int x1)]) hx hb d_M_fitting_3 rfl hl (by decide) rfl (fun ls hl => ?_)
  have loop_4 : ∀ (n : Nat) (z3 z2 : Int32) (ls : Array Slot), (f_M_fitting X x1) = (f_M_fitting_L4 X x1 n z3 z2) → nc_mu (X 1 0) z3 < n → 0 ≤ z3.toInt → lv_has ls 4 [(0, .ref (a 0)), (1, .int x1), (3, .int z3), (2, .int z2)] → W p l e (headSpec ws_M_fitting rm_M_fitting).room s m [.ref (a 0), .int x1].toArray below meth c s.heap [] 0 0 (MQ below (vp_Si (fun r => r = (f_M_fitting X x1))) [.ref (a 0), .int x1].toArray s 0 0 (fun _ => False)) (F0 m 4 ls []) := by
    intro n
    induction n with
    | zero =>
      intro z3 z2 ls hE hm h0_4 hl
      exact absurd hm (Nat.not_lt_zero _)
    | succ n ih =>
      intro z3 z2 ls hE hm h0_4 hl
      refine lv_iload_n hx hb d_M_fitting_4 rfl (lv_at hl 2 rfl) ?_
      refine lv_aload_n hx hb d_M_fitting_5 rfl (lv_at hl 0 rfl) ?_
      refine va_get (D := (dC, dI)) (ci := 4) (v := .int (X 1 0)) (C := R_M) (T := F_M) (N := 39) hx hb hts i_M hown hK hP 0 rfl rfl 1 (by decide) (hts _ m_f_M_69) (fun _ h9 => h9) rfl d_M_fitting_6 ?_
      refine lv_icmp_ge (tgt := 38) hx hb d_M_fitting_9 (by decide) (fun c_591 => ?_) (fun c_591 => ?_)
      · refine lv_iload_n hx hb d_M_fitting_38 rfl (lv_at hl 3 rfl) ?_
        exact W.iret (v := z2) hx hb hr (fun t ht hW => ⟨z2, rfl, by rw [hE, f_M_fitting_L4, if_pos c_591], ht⟩) (fun _ h => nomatch h) d_M_fitting_39
      · refine lv_aload_n hx hb d_M_fitting_12 rfl (lv_at hl 0 rfl) ?_
        refine lv_iload_n hx hb d_M_fitting_13 rfl (lv_at hl 2 rfl) ?_
        refine nc_ro (va_runV (As := [.int z3]) (rest := []) hfix (c_M_fit l dC dI cA cZ a rv X z3 (by have q0 := nc_nle c_591 rfl rfl; have q1 := hmt.1; have q2 := hmt.2; have q3 := h0_4; exact ⟨by omega, by omega⟩) hmk hw) (k_M_127 hts hN ⟨Nat.le_of_ble_eq_true rfl, Nat.le_of_ble_eq_true rfl⟩) (nc_preVZ hK hN hP hD rfl rfl) rfl rfl hl.1 rfl (lv_room (Nat.le_of_ble_eq_true rfl)) d_M_fitting_14 ⟨Nat.zero_le _, Nat.zero_le _⟩) (fun r er => ?_)
        subst er
        refine lv_iload_n hx hb d_M_fitting_17 rfl (lv_at hl 1 rfl) ?_
        refine lv_iand hx hb d_M_fitting_18 ?_
        refine lv_if_eq (tgt := 30) hx hb d_M_fitting_19 (by decide) (fun c_592 => ?_) (fun c_592 => ?_)
        · refine lv_iload_n hx hb d_M_fitting_30 rfl (lv_at hl 3 rfl) ?_
          refine lv_istore_n (lv' := [(2, .int z2), (0, .ref (a 0)), (1, .int x1), (3, .int z3)]) hx hb d_M_fitting_31 rfl hl (by decide) rfl (fun ls hl => ?_)
          refine lv_iinc (v := (z3 + 1)) (lv' := [(3, .int (z3 + 1)), (2, .int z2), (0, .ref (a 0)), (1, .int x1)]) hx hb d_M_fitting_32 hl (k := 3) rfl rfl (by decide) rfl (fun ls hl => ?_)
          refine lv_goto (tgt := 4) hx hb d_M_fitting_35 (by decide) ?_
          exact ih (z3 + 1) z2 ls (by rw [hE, f_M_fitting_L4, if_neg c_591, if_pos c_592]) (nc_mu_step c_591 hm) (nc_i_step c_591 h0_4) (lv_sub hl [2, 3, 0, 1] rfl)
        · refine lv_iload_n hx hb d_M_fitting_22 rfl (lv_at hl 3 rfl) ?_
          refine lv_iconst (v := 1) hx hb d_M_fitting_23 (by decide) ?_
          refine lv_iload_n hx hb d_M_fitting_24 rfl (lv_at hl 2 rfl) ?_
          refine lv_ishl hx hb d_M_fitting_25 ?_
          refine lv_ior hx hb d_M_fitting_26 ?_
          refine lv_goto (tgt := 31) hx hb d_M_fitting_27 (by decide) ?_
          refine lv_istore_n (lv' := [(2, .int (z2 ||| ((1 : Int32) <<< (z3 &&& 31)))), (0, .ref (a 0)), (1, .int x1), (3, .int z3)]) hx hb d_M_fitting_31 rfl hl (by decide) rfl (fun ls hl => ?_)
          refine lv_iinc (v := (z3 + 1)) (lv' := [(3, .int (z3 + 1)), (2, .int (z2 ||| ((1 : Int32) <<< (z3 &&& 31)))), (0, .ref (a 0)), (1, .int x1)]) hx hb d_M_fitting_32 hl (k := 3) rfl rfl (by decide) rfl (fun ls hl => ?_)
          refine lv_goto (tgt := 4) hx hb d_M_fitting_35 (by decide) ?_
          exact ih (z3 + 1) (z2 ||| ((1 : Int32) <<< (z3 &&& 31))) ls (by rw [hE, f_M_fitting_L4, if_neg c_591, if_neg c_592]) (nc_mu_step c_591 hm) (nc_i_step c_591 h0_4) (lv_sub hl [2, 3, 0, 1] rfl)
  exact loop_4 (nc_mu (X 1 0) 0 + 1) 0 0 ls (by rw [f_M_fitting]) (Nat.lt_succ_self _) (by decide) (lv_sub hl [2, 3, 0, 1] rfl)
def f_M_there_L4 (X : Nat → Nat → Int32) : Nat → Int32 → Int32 → Int32
  | 0, z2, z1 => 0
  | n + 1, z2, z1 => (if (X 1 0) ≤ z2 then z1 else (if ((X 5) z2.toNatClampNeg) = 1 then (f_M_there_L4 X n (z2 + 1) (z1 ||| ((1 : Int32) <<< (z2 &&& 31)))) else (if ((X 5) z2.toNatClampNeg) = 2 then (f_M_there_L4 X n (z2 + 1) (z1 ||| ((1 : Int32) <<< (z2 &&& 31)))) else (f_M_there_L4 X n (z2 + 1) z1))))
def f_M_there (X : Nat → Nat → Int32) : Int32 := (f_M_there_L4 X (nc_mu (X 1 0) 0 + 1) 0 0)
abbrev ws_M_there : List Cond := .code y_M_there b_M_there 3 (some .int) :: lw_G
abbrev rm_M_there : Room := { frames := 0, cells := 0, slots := 0, locals := 0 }
set_option maxHeartbeats 4000000 in
set_option maxRecDepth 100000 in
theorem c_M_there (l : Launch) (dC : Nat → ClassId) (dI : Nat → Nat → Nat) (cA cZ : ClassId) (a : Nat → Nat) (rv : Value) (X : Nat → Nat → Int32) (hmt : m_t X) : Met l y_M_there ws_M_there rm_M_there (nc_PreZ (dC, dI) cA cZ [.ref (a 0)] (w_M cA cZ a rv X)) (vp_Si (fun r => r = (f_M_there X))) 0 0 (fun _ => False) := by
  refine Met.ofW (cc := b_M_there) (maxL := 3) (ret := (some .int)) (by decide) rfl ?_
  intro p e s m args below meth c s₁ B hml hv
  obtain ⟨rfl, hP, hK, hD, hN⟩ := hv
  have hx := B.exec
  have hb := B.bytes
  have hr := B.returns
  have hts : ∀ w ∈ lw_G, w.before [.ref (a 0)].toArray s = true := fun w h => atoms_spec (ws := ws_M_there) B.pre w (List.mem_cons_of_mem _ h)
  have hown : s.vm.findClass R_M = some m.cls := findClass_of_methodNamed B.named
  have hlocks := B.notSynchronized
  have hfix : CallFix p m c b_M_there 3 s [.ref (a 0)].toArray lw_G R_M := ⟨hx, hb, hml, hown, hts⟩
  have hK1 := hK.sub (tys' := [(cA, .int)]) [0] rfl
  have hl := lv_entry ([.ref (a 0)]) (n := 3) (Nat.le_of_ble_eq_true rfl)
  rw [lg_entry_eq]
  generalize (lg_sl ([.ref (a 0)]) ++ List.replicate (3 - (lg_sl ([.ref (a 0)])).length) Slot.unset).toArray = ls at hl ⊢
  have hl : lv_has ls 3 [(0, .ref (a 0))] := hl
  refine lv_iconst (v := 0) hx hb d_M_there_0 (by decide) ?_
  refine lv_istore_n (lv' := [(1, .int 0), (0, .ref (a 0))]) hx hb d_M_there_1 rfl hl (by decide) rfl (fun ls hl => ?_)
  refine lv_iconst (v := 0) hx hb d_M_there_2 (by decide) ?_
  refine lv_istore_n (lv' := [(2, .int 0), (1, .int 0), (0, .ref (a 0))]) hx hb d_M_there_3 rfl hl (by decide) rfl (fun ls hl => ?_)
  have loop_4 : ∀ (n : Nat) (z2 z1 : Int32) (ls : Array Slot), (f_M_there X) = (f_M_there_L4 X n z2 z1) → nc_mu (X 1 0) z2 < n → 0 ≤ z2.toInt → lv_has ls 3 [(0, .ref (a 0)), (2, .int z2), (1, .int z1)] → W p l e (headSpec ws_M_there rm_M_there).room s m [.ref (a 0)].toArray below meth c s.heap [] 0 0 (MQ below (vp_Si (fun r => r = (f_M_there X))) [.ref (a 0)].toArray s 0 0 (fun _ => False)) (F0 m 4 ls []) := by
    intro n
    induction n with
    | zero =>
      intro z2 z1 ls hE hm h0_4 hl
      exact absurd hm (Nat.not_lt_zero _)
    | succ n ih =>
      intro z2 z1 ls hE hm h0_4 hl
      refine lv_iload_n hx hb d_M_there_4 rfl (lv_at hl 1 rfl) ?_
      refine lv_aload_n hx hb d_M_there_5 rfl (lv_at hl 0 rfl) ?_
      refine va_get (D := (dC, dI)) (ci := 4) (v := .int (X 1 0)) (C := R_M) (T := F_M) (N := 39) hx hb hts i_M hown hK hP 0 rfl rfl 1 (by decide) (hts _ m_f_M_69) (fun _ h9 => h9) rfl d_M_there_6 ?_
      refine lv_icmp_ge (tgt := 48) hx hb d_M_there_9 (by decide) (fun c_593 => ?_) (fun c_593 => ?_)
      · refine lv_iload_n hx hb d_M_there_48 rfl (lv_at hl 2 rfl) ?_
        exact W.iret (v := z1) hx hb hr (fun t ht hW => ⟨z1, rfl, by rw [hE, f_M_there_L4, if_pos c_593], ht⟩) (fun _ h => nomatch h) d_M_there_49
      · refine lv_aload_n hx hb d_M_there_12 rfl (lv_at hl 0 rfl) ?_
        refine va_get (D := (dC, dI)) (ci := 4) (v := .ref (a 4)) (C := R_M) (T := F_M) (N := 39) hx hb hts i_M hown hK hP 0 rfl rfl 5 (by decide) (hts _ m_f_M_23) (fun _ h9 => h9) rfl d_M_there_13 ?_
        refine lv_iload_n hx hb d_M_there_16 rfl (lv_at hl 1 rfl) ?_
        refine va_iald (f := (X 5)) hx hb hK hP 4 0 rfl rfl (by have q0 := nc_nle c_593 rfl rfl; have q1 := hmt.1; have q2 := hmt.2; have q3 := h0_4; exact vp_in_iff.mpr ⟨by omega, by omega⟩) d_M_there_17 ?_
        refine lv_iconst (v := 1) hx hb d_M_there_18 (by decide) ?_
        refine lv_icmp_eq (tgt := 32) hx hb d_M_there_19 (by decide) (fun c_594 => ?_) (fun c_594 => ?_)
        · refine lv_iload_n hx hb d_M_there_32 rfl (lv_at hl 2 rfl) ?_
          refine lv_iconst (v := 1) hx hb d_M_there_33 (by decide) ?_
          refine lv_iload_n hx hb d_M_there_34 rfl (lv_at hl 1 rfl) ?_
          refine lv_ishl hx hb d_M_there_35 ?_
          refine lv_ior hx hb d_M_there_36 ?_
          refine lv_goto (tgt := 41) hx hb d_M_there_37 (by decide) ?_
          refine lv_istore_n (lv' := [(1, .int (z1 ||| ((1 : Int32) <<< (z2 &&& 31)))), (0, .ref (a 0)), (2, .int z2)]) hx hb d_M_there_41 rfl hl (by decide) rfl (fun ls hl => ?_)
          refine lv_iinc (v := (z2 + 1)) (lv' := [(2, .int (z2 + 1)), (1, .int (z1 ||| ((1 : Int32) <<< (z2 &&& 31)))), (0, .ref (a 0))]) hx hb d_M_there_42 hl (k := 2) rfl rfl (by decide) rfl (fun ls hl => ?_)
          refine lv_goto (tgt := 4) hx hb d_M_there_45 (by decide) ?_
          exact ih (z2 + 1) (z1 ||| ((1 : Int32) <<< (z2 &&& 31))) ls (by rw [hE, f_M_there_L4, if_neg c_593, if_pos c_594]) (nc_mu_step c_593 hm) (nc_i_step c_593 h0_4) (lv_sub hl [2, 0, 1] rfl)
        · refine lv_aload_n hx hb d_M_there_22 rfl (lv_at hl 0 rfl) ?_
          refine va_get (D := (dC, dI)) (ci := 4) (v := .ref (a 4)) (C := R_M) (T := F_M) (N := 39) hx hb hts i_M hown hK hP 0 rfl rfl 5 (by decide) (hts _ m_f_M_23) (fun _ h9 => h9) rfl d_M_there_23 ?_
          refine lv_iload_n hx hb d_M_there_26 rfl (lv_at hl 1 rfl) ?_
          refine va_iald (f := (X 5)) hx hb hK hP 4 0 rfl rfl (by have q0 := nc_nle c_593 rfl rfl; have q1 := nc_ne c_594 rfl (L_1); have q2 := hmt.1; have q3 := hmt.2; have q4 := h0_4; exact vp_in_iff.mpr ⟨by omega, by omega⟩) d_M_there_27 ?_
          refine lv_iconst (v := 2) hx hb d_M_there_28 (by decide) ?_
          refine lv_icmp_ne (tgt := 40) hx hb d_M_there_29 (by decide) (fun c_595 => ?_) (fun c_595 => ?_)
          · refine lv_iload_n hx hb d_M_there_40 rfl (lv_at hl 2 rfl) ?_
            refine lv_istore_n (lv' := [(1, .int z1), (0, .ref (a 0)), (2, .int z2)]) hx hb d_M_there_41 rfl hl (by decide) rfl (fun ls hl => ?_)
            refine lv_iinc (v := (z2 + 1)) (lv' := [(2, .int (z2 + 1)), (1, .int z1), (0, .ref (a 0))]) hx hb d_M_there_42 hl (k := 2) rfl rfl (by decide) rfl (fun ls hl => ?_)
            refine lv_goto (tgt := 4) hx hb d_M_there_45 (by decide) ?_
            exact ih (z2 + 1) z1 ls (by rw [hE, f_M_there_L4, if_neg c_593, if_neg c_594, if_neg c_595]) (nc_mu_step c_593 hm) (nc_i_step c_593 h0_4) (lv_sub hl [2, 0, 1] rfl)
          · refine lv_iload_n hx hb d_M_there_32 rfl (lv_at hl 2 rfl) ?_
            refine lv_iconst (v := 1) hx hb d_M_there_33 (by decide) ?_
            refine lv_iload_n hx hb d_M_there_34 rfl (lv_at hl 1 rfl) ?_
            refine lv_ishl hx hb d_M_there_35 ?_
            refine lv_ior hx hb d_M_there_36 ?_
            refine lv_goto (tgt := 41) hx hb d_M_there_37 (by decide) ?_
            refine lv_istore_n (lv' := [(1, .int (z1 ||| ((1 : Int32) <<< (z2 &&& 31)))), (0, .ref (a 0)), (2, .int z2)]) hx hb d_M_there_41 rfl hl (by decide) rfl (fun ls hl => ?_)
            refine lv_iinc (v := (z2 + 1)) (lv' := [(2, .int (z2 + 1)), (1, .int (z1 ||| ((1 : Int32) <<< (z2 &&& 31)))), (0, .ref (a 0))]) hx hb d_M_there_42 hl (k := 2) rfl rfl (by decide) rfl (fun ls hl => ?_)
            refine lv_goto (tgt := 4) hx hb d_M_there_45 (by decide) ?_
            exact ih (z2 + 1) (z1 ||| ((1 : Int32) <<< (z2 &&& 31))) ls (by rw [hE, f_M_there_L4, if_neg c_593, if_neg c_594, if_pos c_595]) (nc_mu_step c_593 hm) (nc_i_step c_593 h0_4) (lv_sub hl [2, 0, 1] rfl)
  exact loop_4 (nc_mu (X 1 0) 0 + 1) 0 0 ls (by rw [f_M_there]) (Nat.lt_succ_self _) (by decide) (lv_sub hl [2, 0, 1] rfl)
def f_M_everything (X : Nat → Nat → Int32) : Int32 := (if (X 1 0) = 32 then (-1) else (((1 : Int32) <<< ((X 1 0) &&& 31)) - 1))
abbrev ws_M_everything : List Cond := .code y_M_everything b_M_everything 1 (some .int) :: lw_G
abbrev rm_M_everything : Room := { frames := 0, cells := 0, slots := 0, locals := 0 }
set_option maxHeartbeats 4000000 in
set_option maxRecDepth 100000 in
theorem c_M_everything (l : Launch) (dC : Nat → ClassId) (dI : Nat → Nat → Nat) (cA cZ : ClassId) (a : Nat → Nat) (rv : Value) (X : Nat → Nat → Int32) : Met l y_M_everything ws_M_everything rm_M_everything (nc_PreZ (dC, dI) cA cZ [.ref (a 0)] (w_M cA cZ a rv X)) (vp_Si (fun r => r = (f_M_everything X))) 0 0 (fun _ => False) := by
  refine Met.ofW (cc := b_M_everything) (maxL := 1) (ret := (some .int)) (by decide) rfl ?_
  intro p e s m args below meth c s₁ B hml hv
  obtain ⟨rfl, hP, hK, hD, hN⟩ := hv
  have hx := B.exec
  have hb := B.bytes
  have hr := B.returns
  have hts : ∀ w ∈ lw_G, w.before [.ref (a 0)].toArray s = true := fun w h => atoms_spec (ws := ws_M_everything) B.pre w (List.mem_cons_of_mem _ h)
  have hown : s.vm.findClass R_M = some m.cls := findClass_of_methodNamed B.named
  have hlocks := B.notSynchronized
  have hfix : CallFix p m c b_M_everything 1 s [.ref (a 0)].toArray lw_G R_M := ⟨hx, hb, hml, hown, hts⟩
  have hK1 := hK.sub (tys' := [(cA, .int)]) [0] rfl
  have hl := lv_entry ([.ref (a 0)]) (n := 1) (Nat.le_of_ble_eq_true rfl)
  rw [lg_entry_eq]
  generalize (lg_sl ([.ref (a 0)]) ++ List.replicate (1 - (lg_sl ([.ref (a 0)])).length) Slot.unset).toArray = ls at hl ⊢
  have hl : lv_has ls 1 [(0, .ref (a 0))] := hl
  refine lv_aload_n hx hb d_M_everything_0 rfl (lv_at hl 0 rfl) ?_
  refine va_get (D := (dC, dI)) (ci := 4) (v := .int (X 1 0)) (C := R_M) (T := F_M) (N := 39) hx hb hts i_M hown hK hP 0 rfl rfl 1 (by decide) (hts _ m_f_M_69) (fun _ h9 => h9) rfl d_M_everything_1 ?_
  refine lv_bipush (v := 32) hx hb d_M_everything_4 (by decide) ?_
  refine lv_icmp_ne (tgt := 13) hx hb d_M_everything_6 (by decide) (fun c_596 => ?_) (fun c_596 => ?_)
  · refine lv_iconst (v := 1) hx hb d_M_everything_13 (by decide) ?_
    refine lv_aload_n hx hb d_M_everything_14 rfl (lv_at hl 0 rfl) ?_
    refine va_get (D := (dC, dI)) (ci := 4) (v := .int (X 1 0)) (C := R_M) (T := F_M) (N := 39) hx hb hts i_M hown hK hP 0 rfl rfl 1 (by decide) (hts _ m_f_M_69) (fun _ h9 => h9) rfl d_M_everything_15 ?_
    refine lv_ishl hx hb d_M_everything_18 ?_
    refine lv_iconst (v := 1) hx hb d_M_everything_19 (by decide) ?_
    refine lv_isub hx hb d_M_everything_20 ?_
    exact W.iret (v := (((1 : Int32) <<< ((X 1 0) &&& 31)) - 1)) hx hb hr (fun t ht hW => ⟨(((1 : Int32) <<< ((X 1 0) &&& 31)) - 1), rfl, by rw [f_M_everything, if_neg c_596], ht⟩) (fun _ h => nomatch h) d_M_everything_21
  · refine lv_iconst (v := (-1)) hx hb d_M_everything_9 (by decide) ?_
    refine lv_goto (tgt := 21) hx hb d_M_everything_10 (by decide) ?_
    exact W.iret (v := (-1)) hx hb hr (fun t ht hW => ⟨(-1), rfl, by rw [f_M_everything, if_pos c_596], ht⟩) (fun _ h => nomatch h) d_M_everything_21
def f_M_likeliest_L9 (X : Nat → Nat → Int32) (set : Int32) : Nat → Int32 → Int32 → Int32 → Int32
  | 0, z4, z3, z2 => 0
  | n + 1, z4, z3, z2 => (if (X 1 0) ≤ z4 then z2 else (if (f_M_has set z4) = 0 then (f_M_likeliest_L9 X set n (z4 + 1) z3 z2) else (if (f_M_scoreOf X z4) < z3 then (f_M_likeliest_L9 X set n (z4 + 1) z3 z2) else (if (f_M_scoreOf X z4) ≤ z3 then (f_M_likeliest_L9 X set n (z4 + 1) (f_M_scoreOf X z4) (z2 ||| ((1 : Int32) <<< (z4 &&& 31)))) else (f_M_likeliest_L9 X set n (z4 + 1) (f_M_scoreOf X z4) (0 ||| ((1 : Int32) <<< (z4 &&& 31))))))))
def f_M_likeliest (X : Nat → Nat → Int32) (set : Int32) : Int32 := (f_M_likeliest_L9 X set (nc_mu (X 1 0) 0 + 1) 0 (-10000) 0)
abbrev ws_M_likeliest : List Cond := .code y_M_likeliest b_M_likeliest 5 (some .int) :: lw_G
abbrev rm_M_likeliest : Room := { frames := 1, cells := 0, slots := 0, locals := 23 }
set_option maxHeartbeats 4000000 in
set_option maxRecDepth 100000 in
theorem c_M_likeliest (l : Launch) (dC : Nat → ClassId) (dI : Nat → Nat → Nat) (cA cZ : ClassId) (a : Nat → Nat) (rv : Value) (X : Nat → Nat → Int32) (set : Int32) (hmt : m_t X) : Met l y_M_likeliest ws_M_likeliest rm_M_likeliest (nc_PreZ (dC, dI) cA cZ [.ref (a 0), .int set] (w_M cA cZ a rv X)) (vp_Si (fun r => r = (f_M_likeliest X set))) 0 0 (fun _ => False) := by
  refine Met.ofW (cc := b_M_likeliest) (maxL := 5) (ret := (some .int)) (by decide) rfl ?_
  intro p e s m args below meth c s₁ B hml hv
  obtain ⟨rfl, hP, hK, hD, hN⟩ := hv
  have hx := B.exec
  have hb := B.bytes
  have hr := B.returns
  have hts : ∀ w ∈ lw_G, w.before [.ref (a 0), .int set].toArray s = true := fun w h => atoms_spec (ws := ws_M_likeliest) B.pre w (List.mem_cons_of_mem _ h)
  have hown : s.vm.findClass R_M = some m.cls := findClass_of_methodNamed B.named
  have hlocks := B.notSynchronized
  have hfix : CallFix p m c b_M_likeliest 5 s [.ref (a 0), .int set].toArray lw_G R_M := ⟨hx, hb, hml, hown, hts⟩
  have hK1 := hK.sub (tys' := [(cA, .int)]) [0] rfl
  have hl := lv_entry ([.ref (a 0), .int set]) (n := 5) (Nat.le_of_ble_eq_true rfl)
  rw [lg_entry_eq]
  generalize (lg_sl ([.ref (a 0), .int set]) ++ List.replicate (5 - (lg_sl ([.ref (a 0), .int set])).length) Slot.unset).toArray = ls at hl ⊢
  have hl : lv_has ls 5 [(0, .ref (a 0)), (1, .int set)] := hl
  refine lv_iconst (v := 0) hx hb d_M_likeliest_0 (by decide) ?_
  refine lv_istore_n (lv' := [(2, .int 0), (0, .ref (a 0)), (1, .int set)]) hx hb d_M_likeliest_1 rfl hl (by decide) rfl (fun ls hl => ?_)
  refine lv_sipush (v := (-10000)) hx hb d_M_likeliest_2 (by decide) ?_
  refine lv_istore_n (lv' := [(3, .int (-10000)), (2, .int 0), (0, .ref (a 0)), (1, .int set)]) hx hb d_M_likeliest_5 rfl hl (by decide) rfl (fun ls hl => ?_)
  refine lv_iconst (v := 0) hx hb d_M_likeliest_6 (by decide) ?_
  refine lv_istore (lv' := [(4, .int 0), (3, .int (-10000)), (2, .int 0), (0, .ref (a 0)), (1, .int set)]) hx hb d_M_likeliest_7 hl (by decide) rfl (fun ls hl => ?_)
  have loop_9 : ∀ (n : Nat) (z4 z3 z2 : Int32) (ls : Array Slot), (f_M_likeliest X set) = (f_M_likeliest_L9 X set n z4 z3 z2) → nc_mu (X 1 0) z4 < n → 0 ≤ z4.toInt → lv_has ls 5 [(0, .ref (a 0)), (1, .int set), (4, .int z4), (3, .int z3), (2, .int z2)] → W p l e (headSpec ws_M_likeliest rm_M_likeliest).room s m [.ref (a 0), .int set].toArray below meth c s.heap [] 0 0 (MQ below (vp_Si (fun r => r = (f_M_likeliest X set))) [.ref (a 0), .int set].toArray s 0 0 (fun _ => False)) (F0 m 9 ls []) := by
    intro n
    induction n with
    | zero =>
      intro z4 z3 z2 ls hE hm h0_9 hl
      exact absurd hm (Nat.not_lt_zero _)
    | succ n ih =>
      intro z4 z3 z2 ls hE hm h0_9 hl
      refine lv_iload hx hb d_M_likeliest_9 (lv_at hl 2 rfl) ?_
      refine lv_aload_n hx hb d_M_likeliest_11 rfl (lv_at hl 0 rfl) ?_
      refine va_get (D := (dC, dI)) (ci := 4) (v := .int (X 1 0)) (C := R_M) (T := F_M) (N := 39) hx hb hts i_M hown hK hP 0 rfl rfl 1 (by decide) (hts _ m_f_M_69) (fun _ h9 => h9) rfl d_M_likeliest_12 ?_
      refine lv_icmp_ge (tgt := 73) hx hb d_M_likeliest_15 (by decide) (fun c_597 => ?_) (fun c_597 => ?_)
      · refine lv_iload_n hx hb d_M_likeliest_73 rfl (lv_at hl 4 rfl) ?_
        exact W.iret (v := z2) hx hb hr (fun t ht hW => ⟨z2, rfl, by rw [hE, f_M_likeliest_L9, if_pos c_597], ht⟩) (fun _ h => nomatch h) d_M_likeliest_74
      · refine lv_iload_n hx hb d_M_likeliest_18 rfl (lv_at hl 1 rfl) ?_
        refine lv_iload hx hb d_M_likeliest_19 (lv_at hl 2 rfl) ?_
        refine nc_ro (va_runS (As := [.int set, .int z4]) (rest := []) hfix (c_M_has l dC dI cA set z4) (k_M_114 hts hN ⟨Nat.le_of_ble_eq_true rfl, Nat.le_of_ble_eq_true rfl⟩) (nc_preS0 hK1 hN) rfl rfl hl.1 rfl (lv_room (Nat.le_of_ble_eq_true rfl)) d_M_likeliest_21 ⟨Nat.zero_le _, Nat.zero_le _⟩) (fun r er => ?_)
        obtain ⟨rfl, hz_598⟩ := er
        refine lv_if_eq (tgt := 67) hx hb d_M_likeliest_24 (by decide) (fun c_599 => ?_) (fun c_599 => ?_)
        · refine lv_iinc (v := (z4 + 1)) (lv' := [(4, .int (z4 + 1)), (0, .ref (a 0)), (1, .int set), (3, .int z3), (2, .int z2)]) hx hb d_M_likeliest_67 hl (k := 2) rfl rfl (by decide) rfl (fun ls hl => ?_)
          refine lv_goto (tgt := 9) hx hb d_M_likeliest_70 (by decide) ?_
          exact ih (z4 + 1) z3 z2 ls (by rw [hE, f_M_likeliest_L9, if_neg c_597, if_pos c_599]) (nc_mu_step c_597 hm) (nc_i_step c_597 h0_9) (lv_sub hl [1, 2, 0, 3, 4] rfl)
        · refine lv_aload_n hx hb d_M_likeliest_27 rfl (lv_at hl 0 rfl) ?_
          refine lv_iload hx hb d_M_likeliest_28 (lv_at hl 2 rfl) ?_
          refine nc_ro (va_runV (As := [.int z4]) (rest := []) hfix (c_M_scoreOf l dC dI cA cZ a rv X z4 (by have q0 := nc_nle c_597 rfl rfl; have q1 := nc_ne c_599 rfl (L_0); have q2 := hmt.1; have q3 := hmt.2; have q4 := h0_9; exact ⟨by omega, by omega⟩)) (k_M_80 hts hN ⟨Nat.le_of_ble_eq_true rfl, Nat.le_of_ble_eq_true rfl⟩) (nc_preVZ hK hN hP hD rfl rfl) rfl rfl hl.1 rfl (lv_room (Nat.le_of_ble_eq_true rfl)) d_M_likeliest_30 ⟨Nat.zero_le _, Nat.zero_le _⟩) (fun r er => ?_)
          subst er
          refine lv_iload_n hx hb d_M_likeliest_33 rfl (lv_at hl 3 rfl) ?_
          refine lv_icmp_lt (tgt := 67) hx hb d_M_likeliest_34 (by decide) (fun c_600 => ?_) (fun c_600 => ?_)
          · refine lv_iinc (v := (z4 + 1)) (lv' := [(4, .int (z4 + 1)), (0, .ref (a 0)), (1, .int set), (3, .int z3), (2, .int z2)]) hx hb d_M_likeliest_67 hl (k := 2) rfl rfl (by decide) rfl (fun ls hl => ?_)
            refine lv_goto (tgt := 9) hx hb d_M_likeliest_70 (by decide) ?_
            exact ih (z4 + 1) z3 z2 ls (by rw [hE, f_M_likeliest_L9, if_neg c_597, if_neg c_599, if_pos c_600]) (nc_mu_step c_597 hm) (nc_i_step c_597 h0_9) (lv_sub hl [1, 2, 0, 3, 4] rfl)
          · refine lv_aload_n hx hb d_M_likeliest_37 rfl (lv_at hl 0 rfl) ?_
            refine lv_iload hx hb d_M_likeliest_38 (lv_at hl 2 rfl) ?_
            refine nc_ro (va_runV (As := [.int z4]) (rest := []) hfix (c_M_scoreOf l dC dI cA cZ a rv X z4 (by have q0 := nc_nle c_597 rfl rfl; have q1 := nc_ne c_599 rfl (L_0); have q2 := nc_nlt c_600 rfl rfl; have q3 := hmt.1; have q4 := hmt.2; have q5 := h0_9; exact ⟨by omega, by omega⟩)) (k_M_80 hts hN ⟨Nat.le_of_ble_eq_true rfl, Nat.le_of_ble_eq_true rfl⟩) (nc_preVZ hK hN hP hD rfl rfl) rfl rfl hl.1 rfl (lv_room (Nat.le_of_ble_eq_true rfl)) d_M_likeliest_40 ⟨Nat.zero_le _, Nat.zero_le _⟩) (fun r er => ?_)
            subst er
            refine lv_iload_n hx hb d_M_likeliest_43 rfl (lv_at hl 3 rfl) ?_
            refine lv_icmp_le (tgt := 51) hx hb d_M_likeliest_44 (by decide) (fun c_601 => ?_) (fun c_601 => ?_)
            · refine lv_iload_n hx hb d_M_likeliest_51 rfl (lv_at hl 4 rfl) ?_
              refine lv_istore_n (lv' := [(2, .int z2), (0, .ref (a 0)), (1, .int set), (4, .int z4), (3, .int z3)]) hx hb d_M_likeliest_52 rfl hl (by decide) rfl (fun ls hl => ?_)
              refine lv_aload_n hx hb d_M_likeliest_53 rfl (lv_at hl 1 rfl) ?_
              refine lv_iload hx hb d_M_likeliest_54 (lv_at hl 3 rfl) ?_
              refine nc_ro (va_runV (As := [.int z4]) (rest := []) hfix (c_M_scoreOf l dC dI cA cZ a rv X z4 (by have q0 := nc_nle c_597 rfl rfl; have q1 := nc_ne c_599 rfl (L_0); have q2 := nc_nlt c_600 rfl rfl; have q3 := nc_le c_601 rfl rfl; have q4 := hmt.1; have q5 := hmt.2; have q6 := h0_9; exact ⟨by omega, by omega⟩)) (k_M_80 hts hN ⟨Nat.le_of_ble_eq_true rfl, Nat.le_of_ble_eq_true rfl⟩) (nc_preVZ hK hN hP hD rfl rfl) rfl rfl hl.1 rfl (lv_room (Nat.le_of_ble_eq_true rfl)) d_M_likeliest_56 ⟨Nat.zero_le _, Nat.zero_le _⟩) (fun r er => ?_)
              subst er
              refine lv_istore_n (lv' := [(3, .int (f_M_scoreOf X z4)), (2, .int z2), (0, .ref (a 0)), (1, .int set), (4, .int z4)]) hx hb d_M_likeliest_59 rfl hl (by decide) rfl (fun ls hl => ?_)
              refine lv_iload_n hx hb d_M_likeliest_60 rfl (lv_at hl 1 rfl) ?_
              refine lv_iconst (v := 1) hx hb d_M_likeliest_61 (by decide) ?_
              refine lv_iload hx hb d_M_likeliest_62 (lv_at hl 4 rfl) ?_
              refine lv_ishl hx hb d_M_likeliest_64 ?_
              refine lv_ior hx hb d_M_likeliest_65 ?_
              refine lv_istore_n (lv' := [(2, .int (z2 ||| ((1 : Int32) <<< (z4 &&& 31)))), (3, .int (f_M_scoreOf X z4)), (0, .ref (a 0)), (1, .int set), (4, .int z4)]) hx hb d_M_likeliest_66 rfl hl (by decide) rfl (fun ls hl => ?_)
              refine lv_iinc (v := (z4 + 1)) (lv' := [(4, .int (z4 + 1)), (2, .int (z2 ||| ((1 : Int32) <<< (z4 &&& 31)))), (3, .int (f_M_scoreOf X z4)), (0, .ref (a 0)), (1, .int set)]) hx hb d_M_likeliest_67 hl (k := 4) rfl rfl (by decide) rfl (fun ls hl => ?_)
              refine lv_goto (tgt := 9) hx hb d_M_likeliest_70 (by decide) ?_
              exact ih (z4 + 1) (f_M_scoreOf X z4) (z2 ||| ((1 : Int32) <<< (z4 &&& 31))) ls (by rw [hE, f_M_likeliest_L9, if_neg c_597, if_neg c_599, if_neg c_600, if_pos c_601]) (nc_mu_step c_597 hm) (nc_i_step c_597 h0_9) (lv_sub hl [3, 4, 0, 2, 1] rfl)
            · refine lv_iconst (v := 0) hx hb d_M_likeliest_47 (by decide) ?_
              refine lv_goto (tgt := 52) hx hb d_M_likeliest_48 (by decide) ?_
              refine lv_istore_n (lv' := [(2, .int 0), (0, .ref (a 0)), (1, .int set), (4, .int z4), (3, .int z3)]) hx hb d_M_likeliest_52 rfl hl (by decide) rfl (fun ls hl => ?_)
              refine lv_aload_n hx hb d_M_likeliest_53 rfl (lv_at hl 1 rfl) ?_
              refine lv_iload hx hb d_M_likeliest_54 (lv_at hl 3 rfl) ?_
              refine nc_ro (va_runV (As := [.int z4]) (rest := []) hfix (c_M_scoreOf l dC dI cA cZ a rv X z4 (by have q0 := nc_nle c_597 rfl rfl; have q1 := nc_ne c_599 rfl (L_0); have q2 := nc_nlt c_600 rfl rfl; have q3 := nc_nle c_601 rfl rfl; have q4 := hmt.1; have q5 := hmt.2; have q6 := h0_9; exact ⟨by omega, by omega⟩)) (k_M_80 hts hN ⟨Nat.le_of_ble_eq_true rfl, Nat.le_of_ble_eq_true rfl⟩) (nc_preVZ hK hN hP hD rfl rfl) rfl rfl hl.1 rfl (lv_room (Nat.le_of_ble_eq_true rfl)) d_M_likeliest_56 ⟨Nat.zero_le _, Nat.zero_le _⟩) (fun r er => ?_)
              subst er
              refine lv_istore_n (lv' := [(3, .int (f_M_scoreOf X z4)), (2, .int 0), (0, .ref (a 0)), (1, .int set), (4, .int z4)]) hx hb d_M_likeliest_59 rfl hl (by decide) rfl (fun ls hl => ?_)
              refine lv_iload_n hx hb d_M_likeliest_60 rfl (lv_at hl 1 rfl) ?_
              refine lv_iconst (v := 1) hx hb d_M_likeliest_61 (by decide) ?_
              refine lv_iload hx hb d_M_likeliest_62 (lv_at hl 4 rfl) ?_
              refine lv_ishl hx hb d_M_likeliest_64 ?_
              refine lv_ior hx hb d_M_likeliest_65 ?_
              refine lv_istore_n (lv' := [(2, .int (0 ||| ((1 : Int32) <<< (z4 &&& 31)))), (3, .int (f_M_scoreOf X z4)), (0, .ref (a 0)), (1, .int set), (4, .int z4)]) hx hb d_M_likeliest_66 rfl hl (by decide) rfl (fun ls hl => ?_)
              refine lv_iinc (v := (z4 + 1)) (lv' := [(4, .int (z4 + 1)), (2, .int (0 ||| ((1 : Int32) <<< (z4 &&& 31)))), (3, .int (f_M_scoreOf X z4)), (0, .ref (a 0)), (1, .int set)]) hx hb d_M_likeliest_67 hl (k := 4) rfl rfl (by decide) rfl (fun ls hl => ?_)
              refine lv_goto (tgt := 9) hx hb d_M_likeliest_70 (by decide) ?_
              exact ih (z4 + 1) (f_M_scoreOf X z4) (0 ||| ((1 : Int32) <<< (z4 &&& 31))) ls (by rw [hE, f_M_likeliest_L9, if_neg c_597, if_neg c_599, if_neg c_600, if_neg c_601]) (nc_mu_step c_597 hm) (nc_i_step c_597 h0_9) (lv_sub hl [3, 4, 0, 2, 1] rfl)
  exact loop_9 (nc_mu (X 1 0) 0 + 1) 0 (-10000) 0 ls (by rw [f_M_likeliest]) (Nat.lt_succ_self _) (by decide) (lv_sub hl [3, 4, 0, 1, 2] rfl)
def f_M_areAlike_L15 (X : Nat → Nat → Int32) (set : Int32) (y3 : Int32) : Nat → Int32 → Int32 → Int32
  | 0, z4, z2 => 0
  | n + 1, z4, z2 => (if y3 ≤ z4 then z2 else (if z2 = 0 then (f_M_areAlike_L15 X set y3 n (z4 + 1) 0) else (if (f_M_has set y3) = 0 then (f_M_areAlike_L15 X set y3 n (z4 + 1) 1) else (if (f_M_has set z4) = 0 then (f_M_areAlike_L15 X set y3 n (z4 + 1) 1) else (if (f_M_isAlike X y3 z4) = 0 then (f_M_areAlike_L15 X set y3 n (z4 + 1) 0) else (f_M_areAlike_L15 X set y3 n (z4 + 1) 1))))))
def f_M_areAlike_L4 (X : Nat → Nat → Int32) (set : Int32) : Nat → Int32 → Int32 → Int32
  | 0, z3, z2 => 0
  | n + 1, z3, z2 => (if (X 1 0) ≤ z3 then z2 else (f_M_areAlike_L4 X set n (z3 + 1) (f_M_areAlike_L15 X set z3 (nc_mu z3 0 + 1) 0 z2)))
def f_M_areAlike (X : Nat → Nat → Int32) (set : Int32) : Int32 := (f_M_areAlike_L4 X set (nc_mu (X 1 0) 0 + 1) 0 1)
abbrev ws_M_areAlike : List Cond := .code y_M_areAlike b_M_areAlike 5 (some .boolean) :: lw_G
abbrev rm_M_areAlike : Room := { frames := 1, cells := 0, slots := 0, locals := 24 }
theorem aa_nb {X : Nat → Nat → Int32} {set y3 : Int32} : ∀ (n : Nat) (z4 z2 : Int32), narrow .boolean (.int z2) = .int z2 → narrow .boolean (.int (f_M_areAlike_L15 X set y3 n z4 z2)) = .int (f_M_areAlike_L15 X set y3 n z4 z2) := by
  intro n
  induction n with
  | zero => intro z4 z2 h; rw [f_M_areAlike_L15]; rfl
  | succ n ih =>
    intro z4 z2 h
    rw [f_M_areAlike_L15]
    repeat' split
    all_goals first | exact h | exact ih _ _ rfl
set_option maxHeartbeats 4000000 in
set_option maxRecDepth 100000 in
theorem c_M_areAlike (l : Launch) (dC : Nat → ClassId) (dI : Nat → Nat → Nat) (cA cZ : ClassId) (a : Nat → Nat) (rv : Value) (X : Nat → Nat → Int32) (set : Int32) (hmt : m_t X) : Met l y_M_areAlike ws_M_areAlike rm_M_areAlike (nc_PreZ (dC, dI) cA cZ [.ref (a 0), .int set] (w_M cA cZ a rv X)) (vp_Si (fun r => (r = (f_M_areAlike X set) ∧ narrow .boolean (.int r) = .int r))) 0 0 (fun _ => False) := by
  refine Met.ofW (cc := b_M_areAlike) (maxL := 5) (ret := (some .boolean)) (by decide) rfl ?_
  intro p e s m args below meth c s₁ B hml hv
  obtain ⟨rfl, hP, hK, hD, hN⟩ := hv
  have hx := B.exec
  have hb := B.bytes
  have hr := B.returns
  have hts : ∀ w ∈ lw_G, w.before [.ref (a 0), .int set].toArray s = true := fun w h => atoms_spec (ws := ws_M_areAlike) B.pre w (List.mem_cons_of_mem _ h)
  have hown : s.vm.findClass R_M = some m.cls := findClass_of_methodNamed B.named
  have hlocks := B.notSynchronized
  have hfix : CallFix p m c b_M_areAlike 5 s [.ref (a 0), .int set].toArray lw_G R_M := ⟨hx, hb, hml, hown, hts⟩
  have hK1 := hK.sub (tys' := [(cA, .int)]) [0] rfl
  have hl := lv_entry ([.ref (a 0), .int set]) (n := 5) (Nat.le_of_ble_eq_true rfl)
  rw [lg_entry_eq]
  generalize (lg_sl ([.ref (a 0), .int set]) ++ List.replicate (5 - (lg_sl ([.ref (a 0), .int set])).length) Slot.unset).toArray = ls at hl ⊢
  have hl : lv_has ls 5 [(0, .ref (a 0)), (1, .int set)] := hl
  refine lv_iconst (v := 1) hx hb d_M_areAlike_0 (by decide) ?_
  refine lv_istore_n (lv' := [(2, .int 1), (0, .ref (a 0)), (1, .int set)]) hx hb d_M_areAlike_1 rfl hl (by decide) rfl (fun ls hl => ?_)
  refine lv_iconst (v := 0) hx hb d_M_areAlike_2 (by decide) ?_
  refine lv_istore_n (lv' := [(3, .int 0), (2, .int 1), (0, .ref (a 0)), (1, .int set)]) hx hb d_M_areAlike_3 rfl hl (by decide) rfl (fun ls hl => ?_)
  have loop_4 : ∀ (n : Nat) (z3 z2 : Int32) (ls : Array Slot), (f_M_areAlike X set) = (f_M_areAlike_L4 X set n z3 z2) → nc_mu (X 1 0) z3 < n → 0 ≤ z3.toInt → narrow .boolean (.int z2) = .int z2 → lv_has ls 5 [(0, .ref (a 0)), (1, .int set), (3, .int z3), (2, .int z2)] → W p l e (headSpec ws_M_areAlike rm_M_areAlike).room s m [.ref (a 0), .int set].toArray below meth c s.heap [] 0 0 (MQ below (vp_Si (fun r => (r = (f_M_areAlike X set) ∧ narrow .boolean (.int r) = .int r))) [.ref (a 0), .int set].toArray s 0 0 (fun _ => False)) (F0 m 4 ls []) := by
    intro n
    induction n with
    | zero =>
      intro z3 z2 ls hE hm h0_4 hb2_4 hl
      exact absurd hm (Nat.not_lt_zero _)
    | succ n ih =>
      intro z3 z2 ls hE hm h0_4 hb2_4 hl
      refine lv_iload_n hx hb d_M_areAlike_4 rfl (lv_at hl 2 rfl) ?_
      refine lv_aload_n hx hb d_M_areAlike_5 rfl (lv_at hl 0 rfl) ?_
      refine va_get (D := (dC, dI)) (ci := 4) (v := .int (X 1 0)) (C := R_M) (T := F_M) (N := 39) hx hb hts i_M hown hK hP 0 rfl rfl 1 (by decide) (hts _ m_f_M_69) (fun _ h9 => h9) rfl d_M_areAlike_6 ?_
      refine lv_icmp_ge (tgt := 70) hx hb d_M_areAlike_9 (by decide) (fun c_602 => ?_) (fun c_602 => ?_)
      · refine lv_iload_n hx hb d_M_areAlike_70 rfl (lv_at hl 3 rfl) ?_
        exact W.zret (v := z2) hx hb hr hb2_4 (fun t ht hW => ⟨z2, rfl, ⟨by rw [hE, f_M_areAlike_L4, if_pos c_602], hb2_4⟩, ht⟩) (fun _ h => nomatch h) d_M_areAlike_71
      · refine lv_iconst (v := 0) hx hb d_M_areAlike_12 (by decide) ?_
        refine lv_istore (lv' := [(4, .int 0), (0, .ref (a 0)), (1, .int set), (3, .int z3), (2, .int z2)]) hx hb d_M_areAlike_13 hl (by decide) rfl (fun ls hl => ?_)
        have loop_15 : ∀ (n : Nat) (z4 z2 : Int32) (ls : Array Slot), nc_mu z3 z4 < n → 0 ≤ z4.toInt → (∀ ls : Array Slot, lv_has ls 5 [(0, .ref (a 0)), (1, .int set), (3, .int z3), (2, .int (f_M_areAlike_L15 X set z3 n z4 z2))] → W p l e (headSpec ws_M_areAlike rm_M_areAlike).room s m [.ref (a 0), .int set].toArray below meth c s.heap [] 0 0 (MQ below (vp_Si (fun r => (r = (f_M_areAlike X set) ∧ narrow .boolean (.int r) = .int r))) [.ref (a 0), .int set].toArray s 0 0 (fun _ => False)) (F0 m 64 ls [])) → lv_has ls 5 [(0, .ref (a 0)), (1, .int set), (3, .int z3), (4, .int z4), (2, .int z2)] → W p l e (headSpec ws_M_areAlike rm_M_areAlike).room s m [.ref (a 0), .int set].toArray below meth c s.heap [] 0 0 (MQ below (vp_Si (fun r => (r = (f_M_areAlike X set) ∧ narrow .boolean (.int r) = .int r))) [.ref (a 0), .int set].toArray s 0 0 (fun _ => False)) (F0 m 15 ls []) := by
          intro n
          induction n with
          | zero =>
            intro z4 z2 ls hm h0_15 hK9 hl
            exact absurd hm (Nat.not_lt_zero _)
          | succ n ih =>
            intro z4 z2 ls hm h0_15 hK9 hl
            refine lv_iload hx hb d_M_areAlike_15 (lv_at hl 3 rfl) ?_
            refine lv_iload_n hx hb d_M_areAlike_17 rfl (lv_at hl 2 rfl) ?_
            refine lv_icmp_ge (tgt := 64) hx hb d_M_areAlike_18 (by decide) (fun c_603 => ?_) (fun c_603 => ?_)
            · exact hK9 ls (by rw [f_M_areAlike_L15, if_pos c_603]; exact lv_sub hl [0, 1, 2, 4] rfl)
            · refine lv_iload_n hx hb d_M_areAlike_21 rfl (lv_at hl 4 rfl) ?_
              refine lv_if_eq (tgt := 56) hx hb d_M_areAlike_22 (by decide) (fun c_604 => ?_) (fun c_604 => ?_)
              · refine lv_iconst (v := 0) hx hb d_M_areAlike_56 (by decide) ?_
                refine lv_istore_n (lv' := [(2, .int 0), (0, .ref (a 0)), (1, .int set), (3, .int z3), (4, .int z4)]) hx hb d_M_areAlike_57 rfl hl (by decide) rfl (fun ls hl => ?_)
                refine lv_iinc (v := (z4 + 1)) (lv' := [(4, .int (z4 + 1)), (2, .int 0), (0, .ref (a 0)), (1, .int set), (3, .int z3)]) hx hb d_M_areAlike_58 hl (k := 4) rfl rfl (by decide) rfl (fun ls hl => ?_)
                refine lv_goto (tgt := 15) hx hb d_M_areAlike_61 (by decide) ?_
                exact ih (z4 + 1) 0 ls (nc_mu_step c_603 hm) (nc_i_step c_603 h0_15) (fun ls hl => hK9 ls (by rw [f_M_areAlike_L15, if_neg c_603, if_pos c_604]; exact hl)) (lv_sub hl [2, 3, 4, 0, 1] rfl)
              · refine lv_iload_n hx hb d_M_areAlike_25 rfl (lv_at hl 1 rfl) ?_
                refine lv_iload_n hx hb d_M_areAlike_26 rfl (lv_at hl 2 rfl) ?_
                refine nc_ro (va_runS (As := [.int set, .int z3]) (rest := []) hfix (c_M_has l dC dI cA set z3) (k_M_114 hts hN ⟨Nat.le_of_ble_eq_true rfl, Nat.le_of_ble_eq_true rfl⟩) (nc_preS0 hK1 hN) rfl rfl hl.1 rfl (lv_room (Nat.le_of_ble_eq_true rfl)) d_M_areAlike_27 ⟨Nat.zero_le _, Nat.zero_le _⟩) (fun r er => ?_)
                obtain ⟨rfl, hz_605⟩ := er
                refine lv_if_eq (tgt := 52) hx hb d_M_areAlike_30 (by decide) (fun c_606 => ?_) (fun c_606 => ?_)
                · refine lv_iconst (v := 1) hx hb d_M_areAlike_52 (by decide) ?_
                  refine lv_goto (tgt := 57) hx hb d_M_areAlike_53 (by decide) ?_
                  refine lv_istore_n (lv' := [(2, .int 1), (0, .ref (a 0)), (1, .int set), (3, .int z3), (4, .int z4)]) hx hb d_M_areAlike_57 rfl hl (by decide) rfl (fun ls hl => ?_)
                  refine lv_iinc (v := (z4 + 1)) (lv' := [(4, .int (z4 + 1)), (2, .int 1), (0, .ref (a 0)), (1, .int set), (3, .int z3)]) hx hb d_M_areAlike_58 hl (k := 4) rfl rfl (by decide) rfl (fun ls hl => ?_)
                  refine lv_goto (tgt := 15) hx hb d_M_areAlike_61 (by decide) ?_
                  exact ih (z4 + 1) 1 ls (nc_mu_step c_603 hm) (nc_i_step c_603 h0_15) (fun ls hl => hK9 ls (by rw [f_M_areAlike_L15, if_neg c_603, if_neg c_604, if_pos c_606]; exact hl)) (lv_sub hl [2, 3, 4, 0, 1] rfl)
                · refine lv_iload_n hx hb d_M_areAlike_33 rfl (lv_at hl 1 rfl) ?_
                  refine lv_iload hx hb d_M_areAlike_34 (lv_at hl 3 rfl) ?_
                  refine nc_ro (va_runS (As := [.int set, .int z4]) (rest := []) hfix (c_M_has l dC dI cA set z4) (k_M_114 hts hN ⟨Nat.le_of_ble_eq_true rfl, Nat.le_of_ble_eq_true rfl⟩) (nc_preS0 hK1 hN) rfl rfl hl.1 rfl (lv_room (Nat.le_of_ble_eq_true rfl)) d_M_areAlike_36 ⟨Nat.zero_le _, Nat.zero_le _⟩) (fun r er => ?_)
                  obtain ⟨rfl, hz_607⟩ := er
                  refine lv_if_eq (tgt := 52) hx hb d_M_areAlike_39 (by decide) (fun c_608 => ?_) (fun c_608 => ?_)
                  · refine lv_iconst (v := 1) hx hb d_M_areAlike_52 (by decide) ?_
                    refine lv_goto (tgt := 57) hx hb d_M_areAlike_53 (by decide) ?_
                    refine lv_istore_n (lv' := [(2, .int 1), (0, .ref (a 0)), (1, .int set), (3, .int z3), (4, .int z4)]) hx hb d_M_areAlike_57 rfl hl (by decide) rfl (fun ls hl => ?_)
                    refine lv_iinc (v := (z4 + 1)) (lv' := [(4, .int (z4 + 1)), (2, .int 1), (0, .ref (a 0)), (1, .int set), (3, .int z3)]) hx hb d_M_areAlike_58 hl (k := 4) rfl rfl (by decide) rfl (fun ls hl => ?_)
                    refine lv_goto (tgt := 15) hx hb d_M_areAlike_61 (by decide) ?_
                    exact ih (z4 + 1) 1 ls (nc_mu_step c_603 hm) (nc_i_step c_603 h0_15) (fun ls hl => hK9 ls (by rw [f_M_areAlike_L15, if_neg c_603, if_neg c_604, if_neg c_606, if_pos c_608]; exact hl)) (lv_sub hl [2, 3, 4, 0, 1] rfl)
                  · refine lv_aload_n hx hb d_M_areAlike_42 rfl (lv_at hl 0 rfl) ?_
                    refine lv_iload_n hx hb d_M_areAlike_43 rfl (lv_at hl 2 rfl) ?_
                    refine lv_iload hx hb d_M_areAlike_44 (lv_at hl 3 rfl) ?_
                    refine nc_ro (va_runV (As := [.int z3, .int z4]) (rest := []) hfix (c_M_isAlike l dC dI cA cZ a rv X z3 z4 (by have q0 := nc_nle c_602 rfl rfl; have q1 := nc_nle c_603 rfl rfl; have q2 := nc_ne c_604 rfl (L_0); have q3 := nc_ne c_606 rfl (L_0); have q4 := nc_ne c_608 rfl (L_0); have q5 := hmt.1; have q6 := hmt.2; have q7 := h0_4; have q8 := h0_15; exact ⟨by omega, by omega⟩) (by have q0 := nc_nle c_602 rfl rfl; have q1 := nc_nle c_603 rfl rfl; have q2 := nc_ne c_604 rfl (L_0); have q3 := nc_ne c_606 rfl (L_0); have q4 := nc_ne c_608 rfl (L_0); have q5 := hmt.1; have q6 := hmt.2; have q7 := h0_4; have q8 := h0_15; exact ⟨by omega, by omega⟩)) (k_M_84 hts hN ⟨Nat.le_of_ble_eq_true rfl, Nat.le_of_ble_eq_true rfl⟩) (nc_preVZ hK hN hP hD rfl rfl) rfl rfl hl.1 rfl (lv_room (Nat.le_of_ble_eq_true rfl)) d_M_areAlike_46 ⟨Nat.zero_le _, Nat.zero_le _⟩) (fun r er => ?_)
                    obtain ⟨rfl, hz_609⟩ := er
                    refine lv_if_eq (tgt := 56) hx hb d_M_areAlike_49 (by decide) (fun c_610 => ?_) (fun c_610 => ?_)
                    · refine lv_iconst (v := 0) hx hb d_M_areAlike_56 (by decide) ?_
                      refine lv_istore_n (lv' := [(2, .int 0), (0, .ref (a 0)), (1, .int set), (3, .int z3), (4, .int z4)]) hx hb d_M_areAlike_57 rfl hl (by decide) rfl (fun ls hl => ?_)
                      refine lv_iinc (v := (z4 + 1)) (lv' := [(4, .int (z4 + 1)), (2, .int 0), (0, .ref (a 0)), (1, .int set), (3, .int z3)]) hx hb d_M_areAlike_58 hl (k := 4) rfl rfl (by decide) rfl (fun ls hl => ?_)
                      refine lv_goto (tgt := 15) hx hb d_M_areAlike_61 (by decide) ?_
                      exact ih (z4 + 1) 0 ls (nc_mu_step c_603 hm) (nc_i_step c_603 h0_15) (fun ls hl => hK9 ls (by rw [f_M_areAlike_L15, if_neg c_603, if_neg c_604, if_neg c_606, if_neg c_608, if_pos c_610]; exact hl)) (lv_sub hl [2, 3, 4, 0, 1] rfl)
                    · refine lv_iconst (v := 1) hx hb d_M_areAlike_52 (by decide) ?_
                      refine lv_goto (tgt := 57) hx hb d_M_areAlike_53 (by decide) ?_
                      refine lv_istore_n (lv' := [(2, .int 1), (0, .ref (a 0)), (1, .int set), (3, .int z3), (4, .int z4)]) hx hb d_M_areAlike_57 rfl hl (by decide) rfl (fun ls hl => ?_)
                      refine lv_iinc (v := (z4 + 1)) (lv' := [(4, .int (z4 + 1)), (2, .int 1), (0, .ref (a 0)), (1, .int set), (3, .int z3)]) hx hb d_M_areAlike_58 hl (k := 4) rfl rfl (by decide) rfl (fun ls hl => ?_)
                      refine lv_goto (tgt := 15) hx hb d_M_areAlike_61 (by decide) ?_
                      exact ih (z4 + 1) 1 ls (nc_mu_step c_603 hm) (nc_i_step c_603 h0_15) (fun ls hl => hK9 ls (by rw [f_M_areAlike_L15, if_neg c_603, if_neg c_604, if_neg c_606, if_neg c_608, if_neg c_610]; exact hl)) (lv_sub hl [2, 3, 4, 0, 1] rfl)
        refine loop_15 (nc_mu z3 0 + 1) 0 z2 ls (Nat.lt_succ_self _) (by decide) (fun ls hl => ?_) (lv_sub hl [1, 2, 3, 0, 4] rfl)
        refine lv_iinc (v := (z3 + 1)) (lv' := [(3, .int (z3 + 1)), (0, .ref (a 0)), (1, .int set), (2, .int (f_M_areAlike_L15 X set z3 (nc_mu z3 0 + 1) 0 z2))]) hx hb d_M_areAlike_64 hl (k := 2) rfl rfl (by decide) rfl (fun ls hl => ?_)
        refine lv_goto (tgt := 4) hx hb d_M_areAlike_67 (by decide) ?_
        exact ih (z3 + 1) (f_M_areAlike_L15 X set z3 (nc_mu z3 0 + 1) 0 z2) ls (by rw [hE, f_M_areAlike_L4, if_neg c_602]) (nc_mu_step c_602 hm) (nc_i_step c_602 h0_4) (aa_nb _ _ _ hb2_4) (lv_sub hl [1, 2, 0, 3] rfl)
  exact loop_4 (nc_mu (X 1 0) 0 + 1) 0 1 ls (by rw [f_M_areAlike]) (Nat.lt_succ_self _) (by decide) rfl (lv_sub hl [2, 3, 0, 1] rfl)
