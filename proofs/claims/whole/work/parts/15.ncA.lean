def f_NC_leadersOf_L25 (S : Nat → Nat → Nat → Int32) (set : Int32) (y2 y3 : Int32) : Nat → Int32 → Int32 → Int32
  | 0, z5, z4 => 0
  | n + 1, z5, z4 => (if z4 = 0 then z4 else (if y3 ≤ z5 then z4 else (if (f_NC_holds y2 z5) = 0 then (f_NC_leadersOf_L25 S set y2 y3 n (z5 + 1) 1) else (if (f_Things_areAlike (S 1) z5 y3) = 0 then (f_NC_leadersOf_L25 S set y2 y3 n (z5 + 1) 1) else (f_NC_leadersOf_L25 S set y2 y3 n (z5 + 1) 0)))))
def f_NC_leadersOf_L4 (S : Nat → Nat → Nat → Int32) (set : Int32) : Nat → Int32 → Int32 → Int32
  | 0, z3, z2 => 0
  | n + 1, z3, z2 => (if ((S 1) 7 0) ≤ z3 then z2 else (if (f_NC_leadersOf_L25 S set z2 z3 (nc_mu z3 0 + 1) 0 (f_NC_holds set z3)) = 0 then (f_NC_leadersOf_L4 S set n (z3 + 1) z2) else (f_NC_leadersOf_L4 S set n (z3 + 1) (z2 ||| ((1 : Int32) <<< (z3 &&& 31))))))
def f_NC_leadersOf (S : Nat → Nat → Nat → Int32) (set : Int32) : Int32 := (f_NC_leadersOf_L4 S set (nc_mu ((S 1) 7 0) 0 + 1) 0 0)
abbrev ws_NC_leadersOf : List Cond := .code y_NC_leadersOf b_NC_leadersOf 6 (some .int) :: lw_G
abbrev rm_NC_leadersOf : Room := { frames := 2, cells := 0, slots := 0, locals := 44 }
set_option maxHeartbeats 4000000 in
set_option maxRecDepth 100000 in
theorem c_NC_leadersOf (l : Launch) (dC : Nat → ClassId) (dI : Nat → Nat → Nat) (cA : ClassId) (ad : Nat → Nat → Nat) (S : Nat → Nat → Nat → Int32) (set : Int32) : Met l y_NC_leadersOf ws_NC_leadersOf rm_NC_leadersOf (nc_Pre (dC, dI) cA [.ref ((ad 0) 0), .int set] (w_NC cA ad S)) (vp_Si (fun r => r = (f_NC_leadersOf S set))) 0 0 (fun _ => False) := by
  refine Met.ofW (cc := b_NC_leadersOf) (maxL := 6) (ret := (some .int)) (by decide) rfl ?_
  intro p e s m args below meth c s₁ B hml hv
  obtain ⟨rfl, hP, hK, hD, hN⟩ := hv
  have hx := B.exec
  have hb := B.bytes
  have hr := B.returns
  have hts : ∀ w ∈ lw_G, w.before [.ref ((ad 0) 0), .int set].toArray s = true := fun w h => atoms_spec (ws := ws_NC_leadersOf) B.pre w (List.mem_cons_of_mem _ h)
  have hown : s.vm.findClass R_NC = some m.cls := findClass_of_methodNamed B.named
  have hlocks := B.notSynchronized
  have hfix : CallFix p m c b_NC_leadersOf 6 s [.ref ((ad 0) 0), .int set].toArray lw_G R_NC := ⟨hx, hb, hml, hown, hts⟩
  have hl := lv_entry ([.ref ((ad 0) 0), .int set]) (n := 6) (Nat.le_of_ble_eq_true rfl)
  rw [lg_entry_eq]
  generalize (lg_sl ([.ref ((ad 0) 0), .int set]) ++ List.replicate (6 - (lg_sl ([.ref ((ad 0) 0), .int set])).length) Slot.unset).toArray = ls at hl ⊢
  have hl : lv_has ls 6 [(0, .ref ((ad 0) 0)), (1, .int set)] := hl
  refine lv_iconst (v := 0) hx hb d_NC_leadersOf_0 (by decide) ?_
  refine lv_istore_n (lv' := [(2, .int 0), (0, .ref ((ad 0) 0)), (1, .int set)]) hx hb d_NC_leadersOf_1 rfl hl (by decide) rfl (fun ls hl => ?_)
  refine lv_iconst (v := 0) hx hb d_NC_leadersOf_2 (by decide) ?_
  refine lv_istore_n (lv' := [(3, .int 0), (2, .int 0), (0, .ref ((ad 0) 0)), (1, .int set)]) hx hb d_NC_leadersOf_3 rfl hl (by decide) rfl (fun ls hl => ?_)
  have loop_4 : ∀ (n : Nat) (z3 z2 : Int32) (ls : Array Slot), (f_NC_leadersOf S set) = (f_NC_leadersOf_L4 S set n z3 z2) → nc_mu ((S 1) 7 0) z3 < n → 0 ≤ z3.toInt → lv_has ls 6 [(0, .ref ((ad 0) 0)), (1, .int set), (3, .int z3), (2, .int z2)] → W p l e (headSpec ws_NC_leadersOf rm_NC_leadersOf).room s m [.ref ((ad 0) 0), .int set].toArray below meth c s.heap [] 0 0 (MQ below (vp_Si (fun r => r = (f_NC_leadersOf S set))) [.ref ((ad 0) 0), .int set].toArray s 0 0 (fun _ => False)) (F0 m 4 ls []) := by
    intro n
    induction n with
    | zero =>
      intro z3 z2 ls hE hm h0 hl
      exact absurd hm (Nat.not_lt_zero _)
    | succ n ih =>
      intro z3 z2 ls hE hm h0 hl
      refine lv_iload_n hx hb d_NC_leadersOf_4 rfl (lv_at hl 2 rfl) ?_
      refine lv_aload_n hx hb d_NC_leadersOf_5 rfl (lv_at hl 0 rfl) ?_
      refine va_get (D := (dC, dI)) (ci := 0) (v := .ref ((ad 1) 0)) (C := R_NC) (T := F_NC) (N := 15) hx hb hts i_NC hown hK hP 0 rfl rfl 0 (by decide) (hts _ m_f_NC_10) (fun _ h9 => h9) rfl d_NC_leadersOf_6 ?_
      refine va_getN (D := (dC, dI)) (ci := 1) (v := .int ((S 1) 7 0)) (C := R_Things) (T := F_Things) (N := 8) hx hb hts i_Things hown hK hP 3 rfl rfl 7 (by decide) (va_Nw.use rfl (hN _ m_f_NC_165)) (fun _ h9 => h9) rfl d_NC_leadersOf_9 ?_
      refine lv_icmp_ge (tgt := 88) hx hb d_NC_leadersOf_12 (by decide) (fun c_198 => ?_) (fun c_198 => ?_)
      · refine lv_iload_n hx hb d_NC_leadersOf_88 rfl (lv_at hl 3 rfl) ?_
        exact W.iret (v := z2) hx hb hr (fun t ht hW => ⟨z2, rfl, by rw [hE, f_NC_leadersOf_L4, if_pos c_198], ht⟩) (fun _ h => nomatch h) d_NC_leadersOf_89
      · refine lv_iload_n hx hb d_NC_leadersOf_15 rfl (lv_at hl 1 rfl) ?_
        refine lv_iload_n hx hb d_NC_leadersOf_16 rfl (lv_at hl 2 rfl) ?_
        refine nc_ro (va_runS (As := [.int set, .int z3]) (rest := []) hfix (c_NC_holds l dC dI cA set z3) (k_NC_126 hts hN ⟨Nat.le_of_ble_eq_true rfl, Nat.le_of_ble_eq_true rfl⟩) (nc_preS0 hK hN) rfl rfl hl.1 rfl (lv_room (Nat.le_of_ble_eq_true rfl)) d_NC_leadersOf_17 ⟨Nat.zero_le _, Nat.zero_le _⟩) (fun r er => ?_)
        obtain ⟨rfl, hz_199⟩ := er
        refine lv_istore (lv' := [(4, .int (f_NC_holds set z3)), (0, .ref ((ad 0) 0)), (1, .int set), (3, .int z3), (2, .int z2)]) hx hb d_NC_leadersOf_20 hl (by decide) rfl (fun ls hl => ?_)
        refine lv_iconst (v := 0) hx hb d_NC_leadersOf_22 (by decide) ?_
        refine lv_istore (lv' := [(5, .int 0), (4, .int (f_NC_holds set z3)), (0, .ref ((ad 0) 0)), (1, .int set), (3, .int z3), (2, .int z2)]) hx hb d_NC_leadersOf_23 hl (by decide) rfl (fun ls hl => ?_)
        have loop_25 : ∀ (n : Nat) (z5 z4 : Int32) (ls : Array Slot), nc_mu z3 z5 < n → 0 ≤ z5.toInt → (∀ ls : Array Slot, lv_has ls 6 [(0, .ref ((ad 0) 0)), (1, .int set), (2, .int z2), (3, .int z3), (4, .int (f_NC_leadersOf_L25 S set z2 z3 n z5 z4))] → W p l e (headSpec ws_NC_leadersOf rm_NC_leadersOf).room s m [.ref ((ad 0) 0), .int set].toArray below meth c s.heap [] 0 0 (MQ below (vp_Si (fun r => r = (f_NC_leadersOf S set))) [.ref ((ad 0) 0), .int set].toArray s 0 0 (fun _ => False)) (F0 m 71 ls [])) → lv_has ls 6 [(0, .ref ((ad 0) 0)), (1, .int set), (2, .int z2), (3, .int z3), (5, .int z5), (4, .int z4)] → W p l e (headSpec ws_NC_leadersOf rm_NC_leadersOf).room s m [.ref ((ad 0) 0), .int set].toArray below meth c s.heap [] 0 0 (MQ below (vp_Si (fun r => r = (f_NC_leadersOf S set))) [.ref ((ad 0) 0), .int set].toArray s 0 0 (fun _ => False)) (F0 m 25 ls []) := by
          intro n
          induction n with
          | zero =>
            intro z5 z4 ls hm h0 hK9 hl
            exact absurd hm (Nat.not_lt_zero _)
          | succ n ih =>
            intro z5 z4 ls hm h0 hK9 hl
            refine lv_iload hx hb d_NC_leadersOf_25 (lv_at hl 5 rfl) ?_
            refine lv_if_eq (tgt := 71) hx hb d_NC_leadersOf_27 (by decide) (fun c_200 => ?_) (fun c_200 => ?_)
            · exact hK9 ls (by rw [f_NC_leadersOf_L25, if_pos c_200]; exact lv_sub hl [0, 1, 2, 3, 5] rfl)
            · refine lv_iload hx hb d_NC_leadersOf_30 (lv_at hl 4 rfl) ?_
              refine lv_iload_n hx hb d_NC_leadersOf_32 rfl (lv_at hl 3 rfl) ?_
              refine lv_icmp_ge (tgt := 71) hx hb d_NC_leadersOf_33 (by decide) (fun c_201 => ?_) (fun c_201 => ?_)
              · exact hK9 ls (by rw [f_NC_leadersOf_L25, if_neg c_200, if_pos c_201]; exact lv_sub hl [0, 1, 2, 3, 5] rfl)
              · refine lv_iload_n hx hb d_NC_leadersOf_36 rfl (lv_at hl 2 rfl) ?_
                refine lv_iload hx hb d_NC_leadersOf_37 (lv_at hl 4 rfl) ?_
                refine nc_ro (va_runS (As := [.int z2, .int z5]) (rest := []) hfix (c_NC_holds l dC dI cA z2 z5) (k_NC_126 hts hN ⟨Nat.le_of_ble_eq_true rfl, Nat.le_of_ble_eq_true rfl⟩) (nc_preS0 hK hN) rfl rfl hl.1 rfl (lv_room (Nat.le_of_ble_eq_true rfl)) d_NC_leadersOf_39 ⟨Nat.zero_le _, Nat.zero_le _⟩) (fun r er => ?_)
                obtain ⟨rfl, hz_202⟩ := er
                refine lv_if_eq (tgt := 58) hx hb d_NC_leadersOf_42 (by decide) (fun c_203 => ?_) (fun c_203 => ?_)
                · refine lv_iconst (v := 1) hx hb d_NC_leadersOf_58 (by decide) ?_
                  refine lv_goto (tgt := 63) hx hb d_NC_leadersOf_59 (by decide) ?_
                  refine lv_istore (lv' := [(4, .int 1), (0, .ref ((ad 0) 0)), (1, .int set), (2, .int z2), (3, .int z3), (5, .int z5)]) hx hb d_NC_leadersOf_63 hl (by decide) rfl (fun ls hl => ?_)
                  refine lv_iinc (v := (z5 + 1)) (lv' := [(5, .int (z5 + 1)), (4, .int 1), (0, .ref ((ad 0) 0)), (1, .int set), (2, .int z2), (3, .int z3)]) hx hb d_NC_leadersOf_65 hl (k := 5) rfl rfl (by decide) rfl (fun ls hl => ?_)
                  refine lv_goto (tgt := 25) hx hb d_NC_leadersOf_68 (by decide) ?_
                  exact ih (z5 + 1) 1 ls (nc_mu_step c_201 hm) (nc_i_step c_201 h0) (fun ls hl => hK9 ls (by rw [f_NC_leadersOf_L25, if_neg c_200, if_neg c_201, if_pos c_203]; exact hl)) (lv_sub hl [2, 3, 4, 5, 0, 1] rfl)
                · refine lv_aload_n hx hb d_NC_leadersOf_45 rfl (lv_at hl 0 rfl) ?_
                  refine va_get (D := (dC, dI)) (ci := 0) (v := .ref ((ad 1) 0)) (C := R_NC) (T := F_NC) (N := 15) hx hb hts i_NC hown hK hP 0 rfl rfl 0 (by decide) (hts _ m_f_NC_10) (fun _ h9 => h9) rfl d_NC_leadersOf_46 ?_
                  refine lv_iload hx hb d_NC_leadersOf_49 (lv_at hl 4 rfl) ?_
                  refine lv_iload_n hx hb d_NC_leadersOf_51 rfl (lv_at hl 3 rfl) ?_
                  have hP_w_204 := hP.sub (ws' := (w_Things cA (ad 1) (S 1))) [3, 4, 5, 6, 7, 8, 9, 10] rfl
                  have hD_w_204 := hD.sub (ws' := (w_Things cA (ad 1) (S 1))) [3, 4, 5, 6, 7, 8, 9, 10] (by decide) rfl
                  refine nc_ro (va_runV (As := [.int z5, .int z3]) (rest := []) hfix (c_Things_areAlike l dC dI cA (ad 1) (S 1) z5 z3) (k_NC_107 hts hN ⟨Nat.le_of_ble_eq_true rfl, Nat.le_of_ble_eq_true rfl⟩) (nc_preV hK hN hP_w_204 hD_w_204 rfl rfl) rfl rfl hl.1 rfl (lv_room (Nat.le_of_ble_eq_true rfl)) d_NC_leadersOf_52 ⟨Nat.zero_le _, Nat.zero_le _⟩) (fun r er => ?_)
                  obtain ⟨rfl, hz_205⟩ := er
                  refine lv_if_ne (tgt := 62) hx hb d_NC_leadersOf_55 (by decide) (fun c_206 => ?_) (fun c_206 => ?_)
                  · refine lv_iconst (v := 0) hx hb d_NC_leadersOf_62 (by decide) ?_
                    refine lv_istore (lv' := [(4, .int 0), (0, .ref ((ad 0) 0)), (1, .int set), (2, .int z2), (3, .int z3), (5, .int z5)]) hx hb d_NC_leadersOf_63 hl (by decide) rfl (fun ls hl => ?_)
                    refine lv_iinc (v := (z5 + 1)) (lv' := [(5, .int (z5 + 1)), (4, .int 0), (0, .ref ((ad 0) 0)), (1, .int set), (2, .int z2), (3, .int z3)]) hx hb d_NC_leadersOf_65 hl (k := 5) rfl rfl (by decide) rfl (fun ls hl => ?_)
                    refine lv_goto (tgt := 25) hx hb d_NC_leadersOf_68 (by decide) ?_
                    exact ih (z5 + 1) 0 ls (nc_mu_step c_201 hm) (nc_i_step c_201 h0) (fun ls hl => hK9 ls (by rw [f_NC_leadersOf_L25, if_neg c_200, if_neg c_201, if_neg c_203, if_neg c_206]; exact hl)) (lv_sub hl [2, 3, 4, 5, 0, 1] rfl)
                  · refine lv_iconst (v := 1) hx hb d_NC_leadersOf_58 (by decide) ?_
                    refine lv_goto (tgt := 63) hx hb d_NC_leadersOf_59 (by decide) ?_
                    refine lv_istore (lv' := [(4, .int 1), (0, .ref ((ad 0) 0)), (1, .int set), (2, .int z2), (3, .int z3), (5, .int z5)]) hx hb d_NC_leadersOf_63 hl (by decide) rfl (fun ls hl => ?_)
                    refine lv_iinc (v := (z5 + 1)) (lv' := [(5, .int (z5 + 1)), (4, .int 1), (0, .ref ((ad 0) 0)), (1, .int set), (2, .int z2), (3, .int z3)]) hx hb d_NC_leadersOf_65 hl (k := 5) rfl rfl (by decide) rfl (fun ls hl => ?_)
                    refine lv_goto (tgt := 25) hx hb d_NC_leadersOf_68 (by decide) ?_
                    exact ih (z5 + 1) 1 ls (nc_mu_step c_201 hm) (nc_i_step c_201 h0) (fun ls hl => hK9 ls (by rw [f_NC_leadersOf_L25, if_neg c_200, if_neg c_201, if_neg c_203, if_pos c_206]; exact hl)) (lv_sub hl [2, 3, 4, 5, 0, 1] rfl)
        refine loop_25 (nc_mu z3 0 + 1) 0 (f_NC_holds set z3) ls (Nat.lt_succ_self _) (by decide) (fun ls hl => ?_) (lv_sub hl [2, 3, 5, 4, 0, 1] rfl)
        refine lv_iload hx hb d_NC_leadersOf_71 (lv_at hl 4 rfl) ?_
        refine lv_if_eq (tgt := 82) hx hb d_NC_leadersOf_73 (by decide) (fun c_207 => ?_) (fun c_207 => ?_)
        · refine lv_iinc (v := (z3 + 1)) (lv' := [(3, .int (z3 + 1)), (0, .ref ((ad 0) 0)), (1, .int set), (2, .int z2), (4, .int (f_NC_leadersOf_L25 S set z2 z3 (nc_mu z3 0 + 1) 0 (f_NC_holds set z3)))]) hx hb d_NC_leadersOf_82 hl (k := 3) rfl rfl (by decide) rfl (fun ls hl => ?_)
          refine lv_goto (tgt := 4) hx hb d_NC_leadersOf_85 (by decide) ?_
          exact ih (z3 + 1) z2 ls (by rw [hE, f_NC_leadersOf_L4, if_neg c_198, if_pos c_207]) (nc_mu_step c_198 hm) (nc_i_step c_198 h0) (lv_sub hl [1, 2, 0, 3] rfl)
        · refine lv_iload_n hx hb d_NC_leadersOf_76 rfl (lv_at hl 2 rfl) ?_
          refine lv_iconst (v := 1) hx hb d_NC_leadersOf_77 (by decide) ?_
          refine lv_iload_n hx hb d_NC_leadersOf_78 rfl (lv_at hl 3 rfl) ?_
          refine lv_ishl hx hb d_NC_leadersOf_79 ?_
          refine lv_ior hx hb d_NC_leadersOf_80 ?_
          refine lv_istore_n (lv' := [(2, .int (z2 ||| ((1 : Int32) <<< (z3 &&& 31)))), (0, .ref ((ad 0) 0)), (1, .int set), (3, .int z3), (4, .int (f_NC_leadersOf_L25 S set z2 z3 (nc_mu z3 0 + 1) 0 (f_NC_holds set z3)))]) hx hb d_NC_leadersOf_81 rfl hl (by decide) rfl (fun ls hl => ?_)
          refine lv_iinc (v := (z3 + 1)) (lv' := [(3, .int (z3 + 1)), (2, .int (z2 ||| ((1 : Int32) <<< (z3 &&& 31)))), (0, .ref ((ad 0) 0)), (1, .int set), (4, .int (f_NC_leadersOf_L25 S set z2 z3 (nc_mu z3 0 + 1) 0 (f_NC_holds set z3)))]) hx hb d_NC_leadersOf_82 hl (k := 3) rfl rfl (by decide) rfl (fun ls hl => ?_)
          refine lv_goto (tgt := 4) hx hb d_NC_leadersOf_85 (by decide) ?_
          exact ih (z3 + 1) (z2 ||| ((1 : Int32) <<< (z3 &&& 31))) ls (by rw [hE, f_NC_leadersOf_L4, if_neg c_198, if_neg c_207]) (nc_mu_step c_198 hm) (nc_i_step c_198 h0) (lv_sub hl [2, 3, 0, 1] rfl)
  exact loop_4 (nc_mu ((S 1) 7 0) 0 + 1) 0 0 ls (by rw [f_NC_leadersOf]) (Nat.lt_succ_self _) (by decide) (lv_sub hl [2, 3, 0, 1] rfl)
def f_NC_groupAt_L27 (S : Nat → Nat → Nat → Int32) (x1 : Int32) (y2 : Int32) : Nat → Int32 → Int32 → Int32
  | 0, z4, z3 => 0
  | n + 1, z4, z3 => (if ((S 1) 7 0) ≤ z4 then z3 else (if (f_NC_holds ((S 0) 10 0) z4) = 0 then (f_NC_groupAt_L27 S x1 y2 n (z4 + 1) z3) else (if (f_Things_areAlike (S 1) y2 z4) = 0 then (f_NC_groupAt_L27 S x1 y2 n (z4 + 1) z3) else (f_NC_groupAt_L27 S x1 y2 n (z4 + 1) (z3 ||| ((1 : Int32) <<< (z4 &&& 31)))))))
def f_NC_groupAt (S : Nat → Nat → Nat → Int32) (x1 : Int32) : Int32 := (if (f_NC_memberAt (f_NC_leadersOf S ((S 0) 10 0)) x1) = (-1) then 0 else (f_NC_groupAt_L27 S x1 (f_NC_memberAt (f_NC_leadersOf S ((S 0) 10 0)) x1) (nc_mu ((S 1) 7 0) 0 + 1) 0 ((1 : Int32) <<< ((f_NC_memberAt (f_NC_leadersOf S ((S 0) 10 0)) x1) &&& 31))))
abbrev ws_NC_groupAt : List Cond := .code y_NC_groupAt b_NC_groupAt 5 (some .int) :: lw_G
abbrev rm_NC_groupAt : Room := { frames := 3, cells := 0, slots := 0, locals := 69 }
set_option maxHeartbeats 4000000 in
set_option maxRecDepth 100000 in
theorem c_NC_groupAt (l : Launch) (dC : Nat → ClassId) (dI : Nat → Nat → Nat) (cA : ClassId) (ad : Nat → Nat → Nat) (S : Nat → Nat → Nat → Int32) (x1 : Int32) : Met l y_NC_groupAt ws_NC_groupAt rm_NC_groupAt (nc_Pre (dC, dI) cA [.ref ((ad 0) 0), .int x1] (w_NC cA ad S)) (vp_Si (fun r => r = (f_NC_groupAt S x1))) 0 0 (fun _ => False) := by
  refine Met.ofW (cc := b_NC_groupAt) (maxL := 5) (ret := (some .int)) (by decide) rfl ?_
  intro p e s m args below meth c s₁ B hml hv
  obtain ⟨rfl, hP, hK, hD, hN⟩ := hv
  have hx := B.exec
  have hb := B.bytes
  have hr := B.returns
  have hts : ∀ w ∈ lw_G, w.before [.ref ((ad 0) 0), .int x1].toArray s = true := fun w h => atoms_spec (ws := ws_NC_groupAt) B.pre w (List.mem_cons_of_mem _ h)
  have hown : s.vm.findClass R_NC = some m.cls := findClass_of_methodNamed B.named
  have hlocks := B.notSynchronized
  have hfix : CallFix p m c b_NC_groupAt 5 s [.ref ((ad 0) 0), .int x1].toArray lw_G R_NC := ⟨hx, hb, hml, hown, hts⟩
  have hl := lv_entry ([.ref ((ad 0) 0), .int x1]) (n := 5) (Nat.le_of_ble_eq_true rfl)
  rw [lg_entry_eq]
  generalize (lg_sl ([.ref ((ad 0) 0), .int x1]) ++ List.replicate (5 - (lg_sl ([.ref ((ad 0) 0), .int x1])).length) Slot.unset).toArray = ls at hl ⊢
  have hl : lv_has ls 5 [(0, .ref ((ad 0) 0)), (1, .int x1)] := hl
  refine lv_aload_n hx hb d_NC_groupAt_0 rfl (lv_at hl 0 rfl) ?_
  refine lv_aload_n hx hb d_NC_groupAt_1 rfl (lv_at hl 0 rfl) ?_
  refine va_get (D := (dC, dI)) (ci := 0) (v := .int ((S 0) 10 0)) (C := R_NC) (T := F_NC) (N := 15) hx hb hts i_NC hown hK hP 0 rfl rfl 10 (by decide) (hts _ m_f_NC_53) (fun _ h9 => h9) rfl d_NC_groupAt_2 ?_
  refine nc_ro (va_runV (As := [.int ((S 0) 10 0)]) (rest := []) hfix (c_NC_leadersOf l dC dI cA ad S ((S 0) 10 0)) (k_NC_151 hts hN ⟨Nat.le_of_ble_eq_true rfl, Nat.le_of_ble_eq_true rfl⟩) (nc_preV hK hN hP hD rfl rfl) rfl rfl hl.1 rfl (lv_room (Nat.le_of_ble_eq_true rfl)) d_NC_groupAt_5 ⟨Nat.zero_le _, Nat.zero_le _⟩) (fun r er => ?_)
  subst er
  refine lv_iload_n hx hb d_NC_groupAt_8 rfl (lv_at hl 1 rfl) ?_
  refine nc_ro (va_runS (As := [.int (f_NC_leadersOf S ((S 0) 10 0)), .int x1]) (rest := []) hfix (c_NC_memberAt l dC dI cA (f_NC_leadersOf S ((S 0) 10 0)) x1) (k_NC_162 hts hN ⟨Nat.le_of_ble_eq_true rfl, Nat.le_of_ble_eq_true rfl⟩) (nc_preS0 hK hN) rfl rfl hl.1 rfl (lv_room (Nat.le_of_ble_eq_true rfl)) d_NC_groupAt_9 ⟨Nat.zero_le _, Nat.zero_le _⟩) (fun r er => ?_)
  subst er
  refine lv_istore_n (lv' := [(2, .int (f_NC_memberAt (f_NC_leadersOf S ((S 0) 10 0)) x1)), (0, .ref ((ad 0) 0)), (1, .int x1)]) hx hb d_NC_groupAt_12 rfl hl (by decide) rfl (fun ls hl => ?_)
  refine lv_iload_n hx hb d_NC_groupAt_13 rfl (lv_at hl 0 rfl) ?_
  refine lv_iconst (v := (-1)) hx hb d_NC_groupAt_14 (by decide) ?_
  refine lv_icmp_ne (tgt := 20) hx hb d_NC_groupAt_15 (by decide) (fun c_208 => ?_) (fun c_208 => ?_)
  · refine lv_iconst (v := 1) hx hb d_NC_groupAt_20 (by decide) ?_
    refine lv_iload_n hx hb d_NC_groupAt_21 rfl (lv_at hl 0 rfl) ?_
    refine lv_ishl hx hb d_NC_groupAt_22 ?_
    refine lv_istore_n (lv' := [(3, .int ((1 : Int32) <<< ((f_NC_memberAt (f_NC_leadersOf S ((S 0) 10 0)) x1) &&& 31))), (2, .int (f_NC_memberAt (f_NC_leadersOf S ((S 0) 10 0)) x1)), (0, .ref ((ad 0) 0)), (1, .int x1)]) hx hb d_NC_groupAt_23 rfl hl (by decide) rfl (fun ls hl => ?_)
    refine lv_iconst (v := 0) hx hb d_NC_groupAt_24 (by decide) ?_
    refine lv_istore (lv' := [(4, .int 0), (3, .int ((1 : Int32) <<< ((f_NC_memberAt (f_NC_leadersOf S ((S 0) 10 0)) x1) &&& 31))), (2, .int (f_NC_memberAt (f_NC_leadersOf S ((S 0) 10 0)) x1)), (0, .ref ((ad 0) 0)), (1, .int x1)]) hx hb d_NC_groupAt_25 hl (by decide) rfl (fun ls hl => ?_)
    have loop_27 : ∀ (n : Nat) (z4 z3 : Int32) (ls : Array Slot), (f_NC_groupAt S x1) = (f_NC_groupAt_L27 S x1 (f_NC_memberAt (f_NC_leadersOf S ((S 0) 10 0)) x1) n z4 z3) → nc_mu ((S 1) 7 0) z4 < n → 0 ≤ z4.toInt → lv_has ls 5 [(0, .ref ((ad 0) 0)), (1, .int x1), (2, .int (f_NC_memberAt (f_NC_leadersOf S ((S 0) 10 0)) x1)), (4, .int z4), (3, .int z3)] → W p l e (headSpec ws_NC_groupAt rm_NC_groupAt).room s m [.ref ((ad 0) 0), .int x1].toArray below meth c s.heap [] 0 0 (MQ below (vp_Si (fun r => r = (f_NC_groupAt S x1))) [.ref ((ad 0) 0), .int x1].toArray s 0 0 (fun _ => False)) (F0 m 27 ls []) := by
      intro n
      induction n with
      | zero =>
        intro z4 z3 ls hE hm h0 hl
        exact absurd hm (Nat.not_lt_zero _)
      | succ n ih =>
        intro z4 z3 ls hE hm h0 hl
        refine lv_iload hx hb d_NC_groupAt_27 (lv_at hl 3 rfl) ?_
        refine lv_aload_n hx hb d_NC_groupAt_29 rfl (lv_at hl 0 rfl) ?_
        refine va_get (D := (dC, dI)) (ci := 0) (v := .ref ((ad 1) 0)) (C := R_NC) (T := F_NC) (N := 15) hx hb hts i_NC hown hK hP 0 rfl rfl 0 (by decide) (hts _ m_f_NC_10) (fun _ h9 => h9) rfl d_NC_groupAt_30 ?_
        refine va_getN (D := (dC, dI)) (ci := 1) (v := .int ((S 1) 7 0)) (C := R_Things) (T := F_Things) (N := 8) hx hb hts i_Things hown hK hP 3 rfl rfl 7 (by decide) (va_Nw.use rfl (hN _ m_f_NC_165)) (fun _ h9 => h9) rfl d_NC_groupAt_33 ?_
        refine lv_icmp_ge (tgt := 77) hx hb d_NC_groupAt_36 (by decide) (fun c_209 => ?_) (fun c_209 => ?_)
        · refine lv_iload_n hx hb d_NC_groupAt_77 rfl (lv_at hl 4 rfl) ?_
          exact W.iret (v := z3) hx hb hr (fun t ht hW => ⟨z3, rfl, by rw [hE, f_NC_groupAt_L27, if_pos c_209], ht⟩) (fun _ h => nomatch h) d_NC_groupAt_78
        · refine lv_aload_n hx hb d_NC_groupAt_39 rfl (lv_at hl 0 rfl) ?_
          refine va_get (D := (dC, dI)) (ci := 0) (v := .int ((S 0) 10 0)) (C := R_NC) (T := F_NC) (N := 15) hx hb hts i_NC hown hK hP 0 rfl rfl 10 (by decide) (hts _ m_f_NC_53) (fun _ h9 => h9) rfl d_NC_groupAt_40 ?_
          refine lv_iload hx hb d_NC_groupAt_43 (lv_at hl 3 rfl) ?_
          refine nc_ro (va_runS (As := [.int ((S 0) 10 0), .int z4]) (rest := []) hfix (c_NC_holds l dC dI cA ((S 0) 10 0) z4) (k_NC_126 hts hN ⟨Nat.le_of_ble_eq_true rfl, Nat.le_of_ble_eq_true rfl⟩) (nc_preS0 hK hN) rfl rfl hl.1 rfl (lv_room (Nat.le_of_ble_eq_true rfl)) d_NC_groupAt_45 ⟨Nat.zero_le _, Nat.zero_le _⟩) (fun r er => ?_)
          obtain ⟨rfl, hz_210⟩ := er
          refine lv_if_eq (tgt := 71) hx hb d_NC_groupAt_48 (by decide) (fun c_211 => ?_) (fun c_211 => ?_)
          · refine lv_iinc (v := (z4 + 1)) (lv' := [(4, .int (z4 + 1)), (0, .ref ((ad 0) 0)), (1, .int x1), (2, .int (f_NC_memberAt (f_NC_leadersOf S ((S 0) 10 0)) x1)), (3, .int z3)]) hx hb d_NC_groupAt_71 hl (k := 3) rfl rfl (by decide) rfl (fun ls hl => ?_)
            refine lv_goto (tgt := 27) hx hb d_NC_groupAt_74 (by decide) ?_
            exact ih (z4 + 1) z3 ls (by rw [hE, f_NC_groupAt_L27, if_neg c_209, if_pos c_211]) (nc_mu_step c_209 hm) (nc_i_step c_209 h0) (lv_sub hl [1, 2, 3, 0, 4] rfl)
          · refine lv_aload_n hx hb d_NC_groupAt_51 rfl (lv_at hl 0 rfl) ?_
            refine va_get (D := (dC, dI)) (ci := 0) (v := .ref ((ad 1) 0)) (C := R_NC) (T := F_NC) (N := 15) hx hb hts i_NC hown hK hP 0 rfl rfl 0 (by decide) (hts _ m_f_NC_10) (fun _ h9 => h9) rfl d_NC_groupAt_52 ?_
            refine lv_iload_n hx hb d_NC_groupAt_55 rfl (lv_at hl 2 rfl) ?_
            refine lv_iload hx hb d_NC_groupAt_56 (lv_at hl 3 rfl) ?_
            have hP_w_212 := hP.sub (ws' := (w_Things cA (ad 1) (S 1))) [3, 4, 5, 6, 7, 8, 9, 10] rfl
            have hD_w_212 := hD.sub (ws' := (w_Things cA (ad 1) (S 1))) [3, 4, 5, 6, 7, 8, 9, 10] (by decide) rfl
            refine nc_ro (va_runV (As := [.int (f_NC_memberAt (f_NC_leadersOf S ((S 0) 10 0)) x1), .int z4]) (rest := []) hfix (c_Things_areAlike l dC dI cA (ad 1) (S 1) (f_NC_memberAt (f_NC_leadersOf S ((S 0) 10 0)) x1) z4) (k_NC_107 hts hN ⟨Nat.le_of_ble_eq_true rfl, Nat.le_of_ble_eq_true rfl⟩) (nc_preV hK hN hP_w_212 hD_w_212 rfl rfl) rfl rfl hl.1 rfl (lv_room (Nat.le_of_ble_eq_true rfl)) d_NC_groupAt_58 ⟨Nat.zero_le _, Nat.zero_le _⟩) (fun r er => ?_)
            obtain ⟨rfl, hz_213⟩ := er
            refine lv_if_eq (tgt := 71) hx hb d_NC_groupAt_61 (by decide) (fun c_214 => ?_) (fun c_214 => ?_)
            · refine lv_iinc (v := (z4 + 1)) (lv' := [(4, .int (z4 + 1)), (0, .ref ((ad 0) 0)), (1, .int x1), (2, .int (f_NC_memberAt (f_NC_leadersOf S ((S 0) 10 0)) x1)), (3, .int z3)]) hx hb d_NC_groupAt_71 hl (k := 3) rfl rfl (by decide) rfl (fun ls hl => ?_)
              refine lv_goto (tgt := 27) hx hb d_NC_groupAt_74 (by decide) ?_
              exact ih (z4 + 1) z3 ls (by rw [hE, f_NC_groupAt_L27, if_neg c_209, if_neg c_211, if_pos c_214]) (nc_mu_step c_209 hm) (nc_i_step c_209 h0) (lv_sub hl [1, 2, 3, 0, 4] rfl)
            · refine lv_iload_n hx hb d_NC_groupAt_64 rfl (lv_at hl 4 rfl) ?_
              refine lv_iconst (v := 1) hx hb d_NC_groupAt_65 (by decide) ?_
              refine lv_iload hx hb d_NC_groupAt_66 (lv_at hl 3 rfl) ?_
              refine lv_ishl hx hb d_NC_groupAt_68 ?_
              refine lv_ior hx hb d_NC_groupAt_69 ?_
              refine lv_istore_n (lv' := [(3, .int (z3 ||| ((1 : Int32) <<< (z4 &&& 31)))), (0, .ref ((ad 0) 0)), (1, .int x1), (2, .int (f_NC_memberAt (f_NC_leadersOf S ((S 0) 10 0)) x1)), (4, .int z4)]) hx hb d_NC_groupAt_70 rfl hl (by decide) rfl (fun ls hl => ?_)
              refine lv_iinc (v := (z4 + 1)) (lv' := [(4, .int (z4 + 1)), (3, .int (z3 ||| ((1 : Int32) <<< (z4 &&& 31)))), (0, .ref ((ad 0) 0)), (1, .int x1), (2, .int (f_NC_memberAt (f_NC_leadersOf S ((S 0) 10 0)) x1))]) hx hb d_NC_groupAt_71 hl (k := 4) rfl rfl (by decide) rfl (fun ls hl => ?_)
              refine lv_goto (tgt := 27) hx hb d_NC_groupAt_74 (by decide) ?_
              exact ih (z4 + 1) (z3 ||| ((1 : Int32) <<< (z4 &&& 31))) ls (by rw [hE, f_NC_groupAt_L27, if_neg c_209, if_neg c_211, if_neg c_214]) (nc_mu_step c_209 hm) (nc_i_step c_209 h0) (lv_sub hl [2, 3, 4, 0, 1] rfl)
    exact loop_27 (nc_mu ((S 1) 7 0) 0 + 1) 0 ((1 : Int32) <<< ((f_NC_memberAt (f_NC_leadersOf S ((S 0) 10 0)) x1) &&& 31)) ls (by rw [f_NC_groupAt, if_neg c_208]) (Nat.lt_succ_self _) (by decide) (lv_sub hl [3, 4, 2, 0, 1] rfl)
  · refine lv_iconst (v := 0) hx hb d_NC_groupAt_18 (by decide) ?_
    exact W.iret (v := 0) hx hb hr (fun t ht hW => ⟨0, rfl, by rw [f_NC_groupAt, if_pos c_208], ht⟩) (fun _ h => nomatch h) d_NC_groupAt_19
def f_NC_tell (S : Nat → Nat → Nat → Int32) (x1 x2 x3 : Int32) : (Nat → Nat → Nat → Int32) := (upr S 0 (upf (upf (upf (S 0) 12 (fun _ => x1)) 13 (fun _ => x2)) 14 (fun _ => x3)))
abbrev ws_NC_tell : List Cond := .code y_NC_tell b_NC_tell 4 none :: lw_G
abbrev rm_NC_tell : Room := { frames := 0, cells := 0, slots := 0, locals := 0 }
set_option maxHeartbeats 4000000 in
set_option maxRecDepth 100000 in
theorem c_NC_tell (l : Launch) (dC : Nat → ClassId) (dI : Nat → Nat → Nat) (cA : ClassId) (sz : Nat) (ad : Nat → Nat → Nat) (S : Nat → Nat → Nat → Int32) (x1 x2 x3 : Int32) : Met l y_NC_tell ws_NC_tell rm_NC_tell (nc_PreM (dC, dI) cA sz [.ref ((ad 0) 0), .int x1, .int x2, .int x3] (w_NC cA ad S)) (va_Qv (fun _ : Unit => True) (fun _ t => va_P (dC, dI) classes (w_NC cA ad (f_NC_tell S x1 x2 x3)) t.heap ∧ va_D (va_A (w_NC cA ad S) sz) (w_NC cA ad (f_NC_tell S x1 x2 x3))) (va_A (w_NC cA ad S) sz)) 0 0 (va_A (w_NC cA ad S) sz) := by
  refine Met.ofW (cc := b_NC_tell) (maxL := 4) (ret := none) (by decide) rfl ?_
  intro p e s m args below meth c s₁ B hml hv
  obtain ⟨rfl, hsz, hP, hK, hD0, hN⟩ := hv
  have hx := B.exec
  have hb := B.bytes
  have hr := B.returns
  have hts : ∀ w ∈ lw_G, w.before [.ref ((ad 0) 0), .int x1, .int x2, .int x3].toArray s = true := fun w h => atoms_spec (ws := ws_NC_tell) B.pre w (List.mem_cons_of_mem _ h)
  have hown : s.vm.findClass R_NC = some m.cls := findClass_of_methodNamed B.named
  have hlocks := B.notSynchronized
  have hfix : CallFix p m c b_NC_tell 4 s [.ref ((ad 0) 0), .int x1, .int x2, .int x3].toArray lw_G R_NC := ⟨hx, hb, hml, hown, hts⟩
  subst hsz
  have hD := hD0.self (sz := s.heap.size)
  generalize hAe : va_A (w_NC cA ad S) s.heap.size = A at hD ⊢
  have hA : ∀ q : Nat, s.heap.size ≤ q → A q := fun q h => by rw [← hAe]; exact Or.inr h
  have hS : va_S A s.heap s.heap [] := va_S.rf
  have hl := lv_entry ([.ref ((ad 0) 0), .int x1, .int x2, .int x3]) (n := 4) (Nat.le_of_ble_eq_true rfl)
  rw [lg_entry_eq]
  generalize (lg_sl ([.ref ((ad 0) 0), .int x1, .int x2, .int x3]) ++ List.replicate (4 - (lg_sl ([.ref ((ad 0) 0), .int x1, .int x2, .int x3])).length) Slot.unset).toArray = ls at hl ⊢
  have hl : lv_has ls 4 [(0, .ref ((ad 0) 0)), (1, .int x1), (2, .int x2), (3, .int x3)] := hl
  refine lv_aload_n hx hb d_NC_tell_0 rfl (lv_at hl 0 rfl) ?_
  refine lv_iload_n hx hb d_NC_tell_1 rfl (lv_at hl 1 rfl) ?_
  refine va_put (D := (dC, dI)) (ci := 0) (v := .int x1) (ty := .int) (C := R_NC) (T := F_NC) (N := 15) hx hb hts i_NC t_NC t_NC_ok n_NC hown hK hP hD hS 0 rfl rfl 12 (by decide) (hts _ m_f_NC_59) (fun _ h9 => h9) rfl (by decide +kernel) rfl rfl (Nat.le_of_ble_eq_true rfl) d_NC_tell_2 (fun H locs hP hD hS => ?_)
  have hP : va_P (dC, dI) classes (w_NC cA ad (upr S 0 (upf (S 0) 12 (fun _ => x1)))) H := hP
  have hD : va_D A (w_NC cA ad (upr S 0 (upf (S 0) 12 (fun _ => x1)))) := hD
  refine lv_aload_n hx hb d_NC_tell_5 rfl (lv_at hl 0 rfl) ?_
  refine lv_iload_n hx hb d_NC_tell_6 rfl (lv_at hl 2 rfl) ?_
  refine va_put (D := (dC, dI)) (ci := 0) (v := .int x2) (ty := .int) (C := R_NC) (T := F_NC) (N := 15) hx hb hts i_NC t_NC t_NC_ok n_NC hown hK hP hD hS 0 rfl rfl 13 (by decide) (hts _ m_f_NC_62) (fun _ h9 => h9) rfl (by decide +kernel) rfl rfl (Nat.le_of_ble_eq_true rfl) d_NC_tell_7 (fun H locs hP hD hS => ?_)
  have hP : va_P (dC, dI) classes (w_NC cA ad (upr S 0 (upf (upf (S 0) 12 (fun _ => x1)) 13 (fun _ => x2)))) H := hP
  have hD : va_D A (w_NC cA ad (upr S 0 (upf (upf (S 0) 12 (fun _ => x1)) 13 (fun _ => x2)))) := hD
  refine lv_aload_n hx hb d_NC_tell_10 rfl (lv_at hl 0 rfl) ?_
  refine lv_iload_n hx hb d_NC_tell_11 rfl (lv_at hl 3 rfl) ?_
  refine va_put (D := (dC, dI)) (ci := 0) (v := .int x3) (ty := .int) (C := R_NC) (T := F_NC) (N := 15) hx hb hts i_NC t_NC t_NC_ok n_NC hown hK hP hD hS 0 rfl rfl 14 (by decide) (hts _ m_f_NC_65) (fun _ h9 => h9) rfl (by decide +kernel) rfl rfl (Nat.le_of_ble_eq_true rfl) d_NC_tell_12 (fun H locs hP hD hS => ?_)
  have hP : va_P (dC, dI) classes (w_NC cA ad (upr S 0 (upf (upf (upf (S 0) 12 (fun _ => x1)) 13 (fun _ => x2)) 14 (fun _ => x3)))) H := hP
  have hD : va_D A (w_NC cA ad (upr S 0 (upf (upf (upf (S 0) 12 (fun _ => x1)) 13 (fun _ => x2)) 14 (fun _ => x3)))) := hD
  have hF : (f_NC_tell S x1 x2 x3) = (upr S 0 (upf (upf (upf (S 0) 12 (fun _ => x1)) 13 (fun _ => x2)) 14 (fun _ => x3))) := by rw [f_NC_tell]
  exact W.vret hx hb hr (fun t ht hW => ⟨⟨(), rfl, trivial, by rw [hF, ht]; exact hP, by rw [hF]; exact hD⟩, hS.F ht⟩) hS.2.2 d_NC_tell_15
def f_NC_refuseRow (S : Nat → Nat → Nat → Int32) (x1 : Int32) : Int32 × (Nat → Nat → Nat → Int32) := ((-11), (f_NC_tell (upr S 0 (upf (S 0) 2 (fun _ => 0))) (-1) x1 (-1)))
abbrev ws_NC_refuseRow : List Cond := .code y_NC_refuseRow b_NC_refuseRow 2 (some .int) :: lw_G
abbrev rm_NC_refuseRow : Room := { frames := 1, cells := 0, slots := 0, locals := 23 }
set_option maxHeartbeats 4000000 in
set_option maxRecDepth 100000 in
theorem c_NC_refuseRow (l : Launch) (dC : Nat → ClassId) (dI : Nat → Nat → Nat) (cA : ClassId) (sz : Nat) (ad : Nat → Nat → Nat) (S : Nat → Nat → Nat → Int32) (x1 : Int32) : Met l y_NC_refuseRow ws_NC_refuseRow rm_NC_refuseRow (nc_PreM (dC, dI) cA sz [.ref ((ad 0) 0), .int x1] (w_NC cA ad S)) (va_Qi (fun r (_ : Unit) => r = (f_NC_refuseRow S x1).1) (fun _ t => va_P (dC, dI) classes (w_NC cA ad (f_NC_refuseRow S x1).2) t.heap ∧ va_D (va_A (w_NC cA ad S) sz) (w_NC cA ad (f_NC_refuseRow S x1).2)) (va_A (w_NC cA ad S) sz)) 0 0 (va_A (w_NC cA ad S) sz) := by
  refine Met.ofW (cc := b_NC_refuseRow) (maxL := 2) (ret := (some .int)) (by decide) rfl ?_
  intro p e s m args below meth c s₁ B hml hv
  obtain ⟨rfl, hsz, hP, hK, hD0, hN⟩ := hv
  have hx := B.exec
  have hb := B.bytes
  have hr := B.returns
  have hts : ∀ w ∈ lw_G, w.before [.ref ((ad 0) 0), .int x1].toArray s = true := fun w h => atoms_spec (ws := ws_NC_refuseRow) B.pre w (List.mem_cons_of_mem _ h)
  have hown : s.vm.findClass R_NC = some m.cls := findClass_of_methodNamed B.named
  have hlocks := B.notSynchronized
  have hfix : CallFix p m c b_NC_refuseRow 2 s [.ref ((ad 0) 0), .int x1].toArray lw_G R_NC := ⟨hx, hb, hml, hown, hts⟩
  subst hsz
  have hD := hD0.self (sz := s.heap.size)
  generalize hAe : va_A (w_NC cA ad S) s.heap.size = A at hD ⊢
  have hA : ∀ q : Nat, s.heap.size ≤ q → A q := fun q h => by rw [← hAe]; exact Or.inr h
  have hS : va_S A s.heap s.heap [] := va_S.rf
  have hl := lv_entry ([.ref ((ad 0) 0), .int x1]) (n := 2) (Nat.le_of_ble_eq_true rfl)
  rw [lg_entry_eq]
  generalize (lg_sl ([.ref ((ad 0) 0), .int x1]) ++ List.replicate (2 - (lg_sl ([.ref ((ad 0) 0), .int x1])).length) Slot.unset).toArray = ls at hl ⊢
  have hl : lv_has ls 2 [(0, .ref ((ad 0) 0)), (1, .int x1)] := hl
  refine lv_aload_n hx hb d_NC_refuseRow_0 rfl (lv_at hl 0 rfl) ?_
  refine lv_iconst (v := 0) hx hb d_NC_refuseRow_1 (by decide) ?_
  refine va_put (D := (dC, dI)) (ci := 0) (v := .int 0) (ty := .int) (C := R_NC) (T := F_NC) (N := 15) hx hb hts i_NC t_NC t_NC_ok n_NC hown hK hP hD hS 0 rfl rfl 2 (by decide) (hts _ m_f_NC_20) (fun _ h9 => h9) rfl (by decide +kernel) rfl rfl (Nat.le_of_ble_eq_true rfl) d_NC_refuseRow_2 (fun H locs hP hD hS => ?_)
  have hP : va_P (dC, dI) classes (w_NC cA ad (upr S 0 (upf (S 0) 2 (fun _ => 0)))) H := hP
  have hD : va_D A (w_NC cA ad (upr S 0 (upf (S 0) 2 (fun _ => 0)))) := hD
  refine lv_aload_n hx hb d_NC_refuseRow_5 rfl (lv_at hl 0 rfl) ?_
  refine lv_iconst (v := (-1)) hx hb d_NC_refuseRow_6 (by decide) ?_
  refine lv_iload_n hx hb d_NC_refuseRow_7 rfl (lv_at hl 1 rfl) ?_
  refine lv_iconst (v := (-1)) hx hb d_NC_refuseRow_8 (by decide) ?_
  have hFc := nc_free hD hS hA
  refine nc_muv (va_runV (As := [.int (-1), .int x1, .int (-1)]) (rest := []) hfix (c_NC_tell l dC dI cA H.size ad (upr S 0 (upf (S 0) 2 (fun _ => 0))) (-1) x1 (-1)) (k_NC_141 hts hN ⟨Nat.le_of_ble_eq_true rfl, Nat.le_of_ble_eq_true rfl⟩) (nc_preVM hK hN hP hD rfl rfl) rfl rfl hl.1 rfl (lv_room (Nat.le_of_ble_eq_true rfl)) d_NC_refuseRow_9 ⟨Nat.zero_le _, Nat.zero_le _⟩) hS hFc (fun H locs hP1 hD1 hk1 hS => ?_)
  have hP : va_P (dC, dI) classes (w_NC cA ad (f_NC_tell (upr S 0 (upf (S 0) 2 (fun _ => 0))) (-1) x1 (-1))) H := hP1
  have hD : va_D A (w_NC cA ad (f_NC_tell (upr S 0 (upf (S 0) 2 (fun _ => 0))) (-1) x1 (-1))) := hD1.weaken (fun _ q _ h => hFc q.1 h)
  refine lv_bipush (v := (-11)) hx hb d_NC_refuseRow_12 (by decide) ?_
  have hF : (f_NC_refuseRow S x1) = ((-11), (f_NC_tell (upr S 0 (upf (S 0) 2 (fun _ => 0))) (-1) x1 (-1))) := by rw [f_NC_refuseRow]
  exact W.iret (v := (-11)) hx hb hr (fun t ht hW => ⟨⟨(-11), (), rfl, by rw [hF], by rw [hF, ht]; exact hP, by rw [hF]; exact hD⟩, hS.F ht⟩) hS.2.2 d_NC_refuseRow_14
def f_NC_bestOf_L8 (S : Nat → Nat → Nat → Int32) (set : Int32) : Nat → Int32 → Int32 → Int32 → Int32
  | 0, z4, z3, z2 => 0
  | n + 1, z4, z3, z2 => (if ((S 1) 7 0) ≤ z4 then z2 else (if (f_NC_holds set z4) = 0 then (f_NC_bestOf_L8 S set n (z4 + 1) z3 z2) else (if (f_Things_scoreOf (S 1) z4) ≤ z3 then (if (f_Things_scoreOf (S 1) z4) = z3 then (f_NC_bestOf_L8 S set n (z4 + 1) z3 (z2 ||| ((1 : Int32) <<< (z4 &&& 31)))) else (f_NC_bestOf_L8 S set n (z4 + 1) z3 z2)) else (if (f_Things_scoreOf (S 1) z4) = (f_Things_scoreOf (S 1) z4) then (f_NC_bestOf_L8 S set n (z4 + 1) (f_Things_scoreOf (S 1) z4) (0 ||| ((1 : Int32) <<< (z4 &&& 31)))) else (f_NC_bestOf_L8 S set n (z4 + 1) (f_Things_scoreOf (S 1) z4) 0)))))
def f_NC_bestOf (S : Nat → Nat → Nat → Int32) (set : Int32) : Int32 := (f_NC_bestOf_L8 S set (nc_mu ((S 1) 7 0) 0 + 1) 0 (-2147483648) 0)
abbrev ws_NC_bestOf : List Cond := .code y_NC_bestOf b_NC_bestOf 6 (some .int) :: lw_G
abbrev rm_NC_bestOf : Room := { frames := 2, cells := 0, slots := 0, locals := 44 }
set_option maxHeartbeats 4000000 in
set_option maxRecDepth 100000 in
theorem c_NC_bestOf (l : Launch) (dC : Nat → ClassId) (dI : Nat → Nat → Nat) (cA : ClassId) (ad : Nat → Nat → Nat) (S : Nat → Nat → Nat → Int32) (set : Int32) : Met l y_NC_bestOf ws_NC_bestOf rm_NC_bestOf (nc_Pre (dC, dI) cA [.ref ((ad 0) 0), .int set] (w_NC cA ad S)) (vp_Si (fun r => r = (f_NC_bestOf S set))) 0 0 (fun _ => False) := by
  refine Met.ofW (cc := b_NC_bestOf) (maxL := 6) (ret := (some .int)) (by decide) rfl ?_
  intro p e s m args below meth c s₁ B hml hv
  obtain ⟨rfl, hP, hK, hD, hN⟩ := hv
  have hx := B.exec
  have hb := B.bytes
  have hr := B.returns
  have hts : ∀ w ∈ lw_G, w.before [.ref ((ad 0) 0), .int set].toArray s = true := fun w h => atoms_spec (ws := ws_NC_bestOf) B.pre w (List.mem_cons_of_mem _ h)
  have hown : s.vm.findClass R_NC = some m.cls := findClass_of_methodNamed B.named
  have hlocks := B.notSynchronized
  have hfix : CallFix p m c b_NC_bestOf 6 s [.ref ((ad 0) 0), .int set].toArray lw_G R_NC := ⟨hx, hb, hml, hown, hts⟩
  have hl := lv_entry ([.ref ((ad 0) 0), .int set]) (n := 6) (Nat.le_of_ble_eq_true rfl)
  rw [lg_entry_eq]
  generalize (lg_sl ([.ref ((ad 0) 0), .int set]) ++ List.replicate (6 - (lg_sl ([.ref ((ad 0) 0), .int set])).length) Slot.unset).toArray = ls at hl ⊢
  have hl : lv_has ls 6 [(0, .ref ((ad 0) 0)), (1, .int set)] := hl
  refine lv_iconst (v := 0) hx hb d_NC_bestOf_0 (by decide) ?_
  refine lv_istore_n (lv' := [(2, .int 0), (0, .ref ((ad 0) 0)), (1, .int set)]) hx hb d_NC_bestOf_1 rfl hl (by decide) rfl (fun ls hl => ?_)
  refine lv_ldc (v := (-2147483648)) hx hb hown (hts _ m_c_NC_225) d_NC_bestOf_2 ?_
  refine lv_istore_n (lv' := [(3, .int (-2147483648)), (2, .int 0), (0, .ref ((ad 0) 0)), (1, .int set)]) hx hb d_NC_bestOf_4 rfl hl (by decide) rfl (fun ls hl => ?_)
  refine lv_iconst (v := 0) hx hb d_NC_bestOf_5 (by decide) ?_
  refine lv_istore (lv' := [(4, .int 0), (3, .int (-2147483648)), (2, .int 0), (0, .ref ((ad 0) 0)), (1, .int set)]) hx hb d_NC_bestOf_6 hl (by decide) rfl (fun ls hl => ?_)
  have loop_8 : ∀ (n : Nat) (z4 z3 z2 : Int32) (ls : Array Slot), (f_NC_bestOf S set) = (f_NC_bestOf_L8 S set n z4 z3 z2) → nc_mu ((S 1) 7 0) z4 < n → 0 ≤ z4.toInt → lv_has ls 6 [(0, .ref ((ad 0) 0)), (1, .int set), (4, .int z4), (3, .int z3), (2, .int z2)] → W p l e (headSpec ws_NC_bestOf rm_NC_bestOf).room s m [.ref ((ad 0) 0), .int set].toArray below meth c s.heap [] 0 0 (MQ below (vp_Si (fun r => r = (f_NC_bestOf S set))) [.ref ((ad 0) 0), .int set].toArray s 0 0 (fun _ => False)) (F0 m 8 ls []) := by
    intro n
    induction n with
    | zero =>
      intro z4 z3 z2 ls hE hm h0 hl
      exact absurd hm (Nat.not_lt_zero _)
    | succ n ih =>
      intro z4 z3 z2 ls hE hm h0 hl
      refine lv_iload hx hb d_NC_bestOf_8 (lv_at hl 2 rfl) ?_
      refine lv_aload_n hx hb d_NC_bestOf_10 rfl (lv_at hl 0 rfl) ?_
      refine va_get (D := (dC, dI)) (ci := 0) (v := .ref ((ad 1) 0)) (C := R_NC) (T := F_NC) (N := 15) hx hb hts i_NC hown hK hP 0 rfl rfl 0 (by decide) (hts _ m_f_NC_10) (fun _ h9 => h9) rfl d_NC_bestOf_11 ?_
      refine va_getN (D := (dC, dI)) (ci := 1) (v := .int ((S 1) 7 0)) (C := R_Things) (T := F_Things) (N := 8) hx hb hts i_Things hown hK hP 3 rfl rfl 7 (by decide) (va_Nw.use rfl (hN _ m_f_NC_165)) (fun _ h9 => h9) rfl d_NC_bestOf_14 ?_
      refine lv_icmp_ge (tgt := 70) hx hb d_NC_bestOf_17 (by decide) (fun c_215 => ?_) (fun c_215 => ?_)
      · refine lv_iload_n hx hb d_NC_bestOf_70 rfl (lv_at hl 4 rfl) ?_
        exact W.iret (v := z2) hx hb hr (fun t ht hW => ⟨z2, rfl, by rw [hE, f_NC_bestOf_L8, if_pos c_215], ht⟩) (fun _ h => nomatch h) d_NC_bestOf_71
      · refine lv_iload_n hx hb d_NC_bestOf_20 rfl (lv_at hl 1 rfl) ?_
        refine lv_iload hx hb d_NC_bestOf_21 (lv_at hl 2 rfl) ?_
        refine nc_ro (va_runS (As := [.int set, .int z4]) (rest := []) hfix (c_NC_holds l dC dI cA set z4) (k_NC_126 hts hN ⟨Nat.le_of_ble_eq_true rfl, Nat.le_of_ble_eq_true rfl⟩) (nc_preS0 hK hN) rfl rfl hl.1 rfl (lv_room (Nat.le_of_ble_eq_true rfl)) d_NC_bestOf_23 ⟨Nat.zero_le _, Nat.zero_le _⟩) (fun r er => ?_)
        obtain ⟨rfl, hz_216⟩ := er
        refine lv_if_eq (tgt := 64) hx hb d_NC_bestOf_26 (by decide) (fun c_217 => ?_) (fun c_217 => ?_)
        · refine lv_iinc (v := (z4 + 1)) (lv' := [(4, .int (z4 + 1)), (0, .ref ((ad 0) 0)), (1, .int set), (3, .int z3), (2, .int z2)]) hx hb d_NC_bestOf_64 hl (k := 2) rfl rfl (by decide) rfl (fun ls hl => ?_)
          refine lv_goto (tgt := 8) hx hb d_NC_bestOf_67 (by decide) ?_
          exact ih (z4 + 1) z3 z2 ls (by rw [hE, f_NC_bestOf_L8, if_neg c_215, if_pos c_217]) (nc_mu_step c_215 hm) (nc_i_step c_215 h0) (lv_sub hl [1, 2, 0, 3, 4] rfl)
        · refine lv_aload_n hx hb d_NC_bestOf_29 rfl (lv_at hl 0 rfl) ?_
          refine va_get (D := (dC, dI)) (ci := 0) (v := .ref ((ad 1) 0)) (C := R_NC) (T := F_NC) (N := 15) hx hb hts i_NC hown hK hP 0 rfl rfl 0 (by decide) (hts _ m_f_NC_10) (fun _ h9 => h9) rfl d_NC_bestOf_30 ?_
          refine lv_iload hx hb d_NC_bestOf_33 (lv_at hl 2 rfl) ?_
          have hP_w_218 := hP.sub (ws' := (w_Things cA (ad 1) (S 1))) [3, 4, 5, 6, 7, 8, 9, 10] rfl
          have hD_w_218 := hD.sub (ws' := (w_Things cA (ad 1) (S 1))) [3, 4, 5, 6, 7, 8, 9, 10] (by decide) rfl
          refine nc_ro (va_runV (As := [.int z4]) (rest := []) hfix (c_Things_scoreOf l dC dI cA (ad 1) (S 1) z4) (k_NC_103 hts hN ⟨Nat.le_of_ble_eq_true rfl, Nat.le_of_ble_eq_true rfl⟩) (nc_preV hK hN hP_w_218 hD_w_218 rfl rfl) rfl rfl hl.1 rfl (lv_room (Nat.le_of_ble_eq_true rfl)) d_NC_bestOf_35 ⟨Nat.zero_le _, Nat.zero_le _⟩) (fun r er => ?_)
          subst er
          refine lv_istore (lv' := [(5, .int (f_Things_scoreOf (S 1) z4)), (0, .ref ((ad 0) 0)), (1, .int set), (4, .int z4), (3, .int z3), (2, .int z2)]) hx hb d_NC_bestOf_38 hl (by decide) rfl (fun ls hl => ?_)
          refine lv_iload hx hb d_NC_bestOf_40 (lv_at hl 0 rfl) ?_
          refine lv_iload_n hx hb d_NC_bestOf_42 rfl (lv_at hl 4 rfl) ?_
          refine lv_icmp_le (tgt := 51) hx hb d_NC_bestOf_43 (by decide) (fun c_219 => ?_) (fun c_219 => ?_)
          · refine lv_iload hx hb d_NC_bestOf_51 (lv_at hl 0 rfl) ?_
            refine lv_iload_n hx hb d_NC_bestOf_53 rfl (lv_at hl 4 rfl) ?_
            refine lv_icmp_ne (tgt := 64) hx hb d_NC_bestOf_54 (by decide) (fun c_220 => ?_) (fun c_220 => ?_)
            · refine lv_iinc (v := (z4 + 1)) (lv' := [(4, .int (z4 + 1)), (5, .int (f_Things_scoreOf (S 1) z4)), (0, .ref ((ad 0) 0)), (1, .int set), (3, .int z3), (2, .int z2)]) hx hb d_NC_bestOf_64 hl (k := 3) rfl rfl (by decide) rfl (fun ls hl => ?_)
              refine lv_goto (tgt := 8) hx hb d_NC_bestOf_67 (by decide) ?_
              exact ih (z4 + 1) z3 z2 ls (by rw [hE, f_NC_bestOf_L8, if_neg c_215, if_neg c_217, if_pos c_219, if_neg c_220]) (nc_mu_step c_215 hm) (nc_i_step c_215 h0) (lv_sub hl [2, 3, 0, 4, 5] rfl)
            · refine lv_iload_n hx hb d_NC_bestOf_57 rfl (lv_at hl 5 rfl) ?_
              refine lv_iconst (v := 1) hx hb d_NC_bestOf_58 (by decide) ?_
              refine lv_iload hx hb d_NC_bestOf_59 (lv_at hl 3 rfl) ?_
              refine lv_ishl hx hb d_NC_bestOf_61 ?_
              refine lv_ior hx hb d_NC_bestOf_62 ?_
              refine lv_istore_n (lv' := [(2, .int (z2 ||| ((1 : Int32) <<< (z4 &&& 31)))), (5, .int (f_Things_scoreOf (S 1) z4)), (0, .ref ((ad 0) 0)), (1, .int set), (4, .int z4), (3, .int z3)]) hx hb d_NC_bestOf_63 rfl hl (by decide) rfl (fun ls hl => ?_)
              refine lv_iinc (v := (z4 + 1)) (lv' := [(4, .int (z4 + 1)), (2, .int (z2 ||| ((1 : Int32) <<< (z4 &&& 31)))), (5, .int (f_Things_scoreOf (S 1) z4)), (0, .ref ((ad 0) 0)), (1, .int set), (3, .int z3)]) hx hb d_NC_bestOf_64 hl (k := 4) rfl rfl (by decide) rfl (fun ls hl => ?_)
              refine lv_goto (tgt := 8) hx hb d_NC_bestOf_67 (by decide) ?_
              exact ih (z4 + 1) z3 (z2 ||| ((1 : Int32) <<< (z4 &&& 31))) ls (by rw [hE, f_NC_bestOf_L8, if_neg c_215, if_neg c_217, if_pos c_219, if_pos c_220]) (nc_mu_step c_215 hm) (nc_i_step c_215 h0) (lv_sub hl [3, 4, 0, 5, 1] rfl)
          · refine lv_iload hx hb d_NC_bestOf_46 (lv_at hl 0 rfl) ?_
            refine lv_istore_n (lv' := [(3, .int (f_Things_scoreOf (S 1) z4)), (5, .int (f_Things_scoreOf (S 1) z4)), (0, .ref ((ad 0) 0)), (1, .int set), (4, .int z4), (2, .int z2)]) hx hb d_NC_bestOf_48 rfl hl (by decide) rfl (fun ls hl => ?_)
            refine lv_iconst (v := 0) hx hb d_NC_bestOf_49 (by decide) ?_
            refine lv_istore_n (lv' := [(2, .int 0), (3, .int (f_Things_scoreOf (S 1) z4)), (5, .int (f_Things_scoreOf (S 1) z4)), (0, .ref ((ad 0) 0)), (1, .int set), (4, .int z4)]) hx hb d_NC_bestOf_50 rfl hl (by decide) rfl (fun ls hl => ?_)
            refine lv_iload hx hb d_NC_bestOf_51 (lv_at hl 2 rfl) ?_
            refine lv_iload_n hx hb d_NC_bestOf_53 rfl (lv_at hl 1 rfl) ?_
            refine lv_icmp_ne (tgt := 64) hx hb d_NC_bestOf_54 (by decide) (fun c_221 => ?_) (fun c_221 => ?_)
            · refine lv_iinc (v := (z4 + 1)) (lv' := [(4, .int (z4 + 1)), (2, .int 0), (3, .int (f_Things_scoreOf (S 1) z4)), (5, .int (f_Things_scoreOf (S 1) z4)), (0, .ref ((ad 0) 0)), (1, .int set)]) hx hb d_NC_bestOf_64 hl (k := 5) rfl rfl (by decide) rfl (fun ls hl => ?_)
              refine lv_goto (tgt := 8) hx hb d_NC_bestOf_67 (by decide) ?_
              exact ih (z4 + 1) (f_Things_scoreOf (S 1) z4) 0 ls (by rw [hE, f_NC_bestOf_L8, if_neg c_215, if_neg c_217, if_neg c_219, if_neg c_221]) (nc_mu_step c_215 hm) (nc_i_step c_215 h0) (lv_sub hl [4, 5, 0, 2, 1] rfl)
            · refine lv_iload_n hx hb d_NC_bestOf_57 rfl (lv_at hl 0 rfl) ?_
              refine lv_iconst (v := 1) hx hb d_NC_bestOf_58 (by decide) ?_
              refine lv_iload hx hb d_NC_bestOf_59 (lv_at hl 5 rfl) ?_
              refine lv_ishl hx hb d_NC_bestOf_61 ?_
              refine lv_ior hx hb d_NC_bestOf_62 ?_
              refine lv_istore_n (lv' := [(2, .int (0 ||| ((1 : Int32) <<< (z4 &&& 31)))), (3, .int (f_Things_scoreOf (S 1) z4)), (5, .int (f_Things_scoreOf (S 1) z4)), (0, .ref ((ad 0) 0)), (1, .int set), (4, .int z4)]) hx hb d_NC_bestOf_63 rfl hl (by decide) rfl (fun ls hl => ?_)
              refine lv_iinc (v := (z4 + 1)) (lv' := [(4, .int (z4 + 1)), (2, .int (0 ||| ((1 : Int32) <<< (z4 &&& 31)))), (3, .int (f_Things_scoreOf (S 1) z4)), (5, .int (f_Things_scoreOf (S 1) z4)), (0, .ref ((ad 0) 0)), (1, .int set)]) hx hb d_NC_bestOf_64 hl (k := 5) rfl rfl (by decide) rfl (fun ls hl => ?_)
              refine lv_goto (tgt := 8) hx hb d_NC_bestOf_67 (by decide) ?_
              exact ih (z4 + 1) (f_Things_scoreOf (S 1) z4) (0 ||| ((1 : Int32) <<< (z4 &&& 31))) ls (by rw [hE, f_NC_bestOf_L8, if_neg c_215, if_neg c_217, if_neg c_219, if_pos c_221]) (nc_mu_step c_215 hm) (nc_i_step c_215 h0) (lv_sub hl [4, 5, 0, 2, 1] rfl)
  exact loop_8 (nc_mu ((S 1) 7 0) 0 + 1) 0 (-2147483648) 0 ls (by rw [f_NC_bestOf]) (Nat.lt_succ_self _) (by decide) (lv_sub hl [3, 4, 0, 1, 2] rfl)
def f_NC_fittingSetP_L20 (S : Nat → Nat → Nat → Int32) (x1 x2 : Int32) (y4 y5 : Int32) : Nat → Int32 → Int32 → Int32
  | 0, z7, z6 => 0
  | n + 1, z7, z6 => (if ((S 1) 7 0) ≤ z7 then (if (f_Phrase_tells (S 2) x1 32) = 0 then (if (f_Phrase_tells (S 2) x1 33) = 0 then z6 else (z6 &&& (((S 4) 2 0) ^^^ (-1)))) else (if (f_Phrase_tells (S 2) x1 33) = 0 then (z6 &&& (f_Things_placedSet (S 1) 2)) else ((z6 &&& (f_Things_placedSet (S 1) 2)) &&& (((S 4) 2 0) ^^^ (-1))))) else (if ((f_Things_fitByWords (S 1) z7 y4 y5) &&& x2) = 0 then (f_NC_fittingSetP_L20 S x1 x2 y4 y5 n (z7 + 1) z6) else (f_NC_fittingSetP_L20 S x1 x2 y4 y5 n (z7 + 1) (z6 ||| ((1 : Int32) <<< (z7 &&& 31))))))
def f_NC_fittingSetP (S : Nat → Nat → Nat → Int32) (x1 x2 : Int32) : Int32 := (f_NC_fittingSetP_L20 S x1 x2 (f_Phrase_leadingOf (S 2) x1) (f_Phrase_lastOf (S 2) x1) (nc_mu ((S 1) 7 0) 0 + 1) 0 0)
abbrev ws_NC_fittingSetP : List Cond := .code y_NC_fittingSet b_NC_fittingSet 8 (some .int) :: lw_G
abbrev rm_NC_fittingSetP : Room := { frames := 2, cells := 0, slots := 0, locals := 47 }
set_option maxHeartbeats 4000000 in
set_option maxRecDepth 100000 in
theorem c_NC_fittingSetP (l : Launch) (dC : Nat → ClassId) (dI : Nat → Nat → Nat) (cA : ClassId) (ad : Nat → Nat → Nat) (S : Nat → Nat → Nat → Int32) (x1 x2 : Int32) : Met l y_NC_fittingSet ws_NC_fittingSetP rm_NC_fittingSetP (nc_Pre (dC, dI) cA [.ref ((ad 0) 0), .ref ((ad 2) 0), .int x1, .int x2] (w_NC cA ad S)) (vp_Si (fun r => r = (f_NC_fittingSetP S x1 x2))) 0 0 (fun _ => False) := by
  refine Met.ofW (cc := b_NC_fittingSet) (maxL := 8) (ret := (some .int)) (by decide) rfl ?_
  intro p e s m args below meth c s₁ B hml hv
  obtain ⟨rfl, hP, hK, hD, hN⟩ := hv
  have hx := B.exec
  have hb := B.bytes
  have hr := B.returns
  have hts : ∀ w ∈ lw_G, w.before [.ref ((ad 0) 0), .ref ((ad 2) 0), .int x1, .int x2].toArray s = true := fun w h => atoms_spec (ws := ws_NC_fittingSetP) B.pre w (List.mem_cons_of_mem _ h)
  have hown : s.vm.findClass R_NC = some m.cls := findClass_of_methodNamed B.named
  have hlocks := B.notSynchronized
  have hfix : CallFix p m c b_NC_fittingSet 8 s [.ref ((ad 0) 0), .ref ((ad 2) 0), .int x1, .int x2].toArray lw_G R_NC := ⟨hx, hb, hml, hown, hts⟩
  have hl := lv_entry ([.ref ((ad 0) 0), .ref ((ad 2) 0), .int x1, .int x2]) (n := 8) (Nat.le_of_ble_eq_true rfl)
  rw [lg_entry_eq]
  generalize (lg_sl ([.ref ((ad 0) 0), .ref ((ad 2) 0), .int x1, .int x2]) ++ List.replicate (8 - (lg_sl ([.ref ((ad 0) 0), .ref ((ad 2) 0), .int x1, .int x2])).length) Slot.unset).toArray = ls at hl ⊢
  have hl : lv_has ls 8 [(0, .ref ((ad 0) 0)), (1, .ref ((ad 2) 0)), (2, .int x1), (3, .int x2)] := hl
  refine lv_aload_n hx hb d_NC_fittingSet_0 rfl (lv_at hl 1 rfl) ?_
  refine lv_iload_n hx hb d_NC_fittingSet_1 rfl (lv_at hl 2 rfl) ?_
  have hP_w_222 := hP.sub (ws' := (w_Phrase cA (ad 2) (S 2))) [11, 12, 13, 14, 15, 16, 17, 18] rfl
  have hD_w_222 := hD.sub (ws' := (w_Phrase cA (ad 2) (S 2))) [11, 12, 13, 14, 15, 16, 17, 18] (by decide) rfl
  refine nc_ro (va_runV (As := [.int x1]) (rest := []) hfix (c_Phrase_leadingOf l dC dI cA (ad 2) (S 2) x1) (k_NC_226 hts hN ⟨Nat.le_of_ble_eq_true rfl, Nat.le_of_ble_eq_true rfl⟩) (nc_preV hK hN hP_w_222 hD_w_222 rfl rfl) rfl rfl hl.1 rfl (lv_room (Nat.le_of_ble_eq_true rfl)) d_NC_fittingSet_2 ⟨Nat.zero_le _, Nat.zero_le _⟩) (fun r er => ?_)
  subst er
  refine lv_istore (lv' := [(4, .int (f_Phrase_leadingOf (S 2) x1)), (0, .ref ((ad 0) 0)), (1, .ref ((ad 2) 0)), (2, .int x1), (3, .int x2)]) hx hb d_NC_fittingSet_5 hl (by decide) rfl (fun ls hl => ?_)
  refine lv_aload_n hx hb d_NC_fittingSet_7 rfl (lv_at hl 2 rfl) ?_
  refine lv_iload_n hx hb d_NC_fittingSet_8 rfl (lv_at hl 3 rfl) ?_
  refine nc_ro (va_runV (As := [.int x1]) (rest := []) hfix (c_Phrase_lastOf l dC dI cA (ad 2) (S 2) x1) (k_NC_229 hts hN ⟨Nat.le_of_ble_eq_true rfl, Nat.le_of_ble_eq_true rfl⟩) (nc_preV hK hN hP_w_222 hD_w_222 rfl rfl) rfl rfl hl.1 rfl (lv_room (Nat.le_of_ble_eq_true rfl)) d_NC_fittingSet_9 ⟨Nat.zero_le _, Nat.zero_le _⟩) (fun r er => ?_)
  subst er
  refine lv_istore (lv' := [(5, .int (f_Phrase_lastOf (S 2) x1)), (4, .int (f_Phrase_leadingOf (S 2) x1)), (0, .ref ((ad 0) 0)), (1, .ref ((ad 2) 0)), (2, .int x1), (3, .int x2)]) hx hb d_NC_fittingSet_12 hl (by decide) rfl (fun ls hl => ?_)
  refine lv_iconst (v := 0) hx hb d_NC_fittingSet_14 (by decide) ?_
  refine lv_istore (lv' := [(6, .int 0), (5, .int (f_Phrase_lastOf (S 2) x1)), (4, .int (f_Phrase_leadingOf (S 2) x1)), (0, .ref ((ad 0) 0)), (1, .ref ((ad 2) 0)), (2, .int x1), (3, .int x2)]) hx hb d_NC_fittingSet_15 hl (by decide) rfl (fun ls hl => ?_)
  refine lv_iconst (v := 0) hx hb d_NC_fittingSet_17 (by decide) ?_
  refine lv_istore (lv' := [(7, .int 0), (6, .int 0), (5, .int (f_Phrase_lastOf (S 2) x1)), (4, .int (f_Phrase_leadingOf (S 2) x1)), (0, .ref ((ad 0) 0)), (1, .ref ((ad 2) 0)), (2, .int x1), (3, .int x2)]) hx hb d_NC_fittingSet_18 hl (by decide) rfl (fun ls hl => ?_)
  have loop_20 : ∀ (n : Nat) (z7 z6 : Int32) (ls : Array Slot), (f_NC_fittingSetP S x1 x2) = (f_NC_fittingSetP_L20 S x1 x2 (f_Phrase_leadingOf (S 2) x1) (f_Phrase_lastOf (S 2) x1) n z7 z6) → nc_mu ((S 1) 7 0) z7 < n → 0 ≤ z7.toInt → lv_has ls 8 [(0, .ref ((ad 0) 0)), (1, .ref ((ad 2) 0)), (2, .int x1), (3, .int x2), (4, .int (f_Phrase_leadingOf (S 2) x1)), (5, .int (f_Phrase_lastOf (S 2) x1)), (7, .int z7), (6, .int z6)] → W p l e (headSpec ws_NC_fittingSetP rm_NC_fittingSetP).room s m [.ref ((ad 0) 0), .ref ((ad 2) 0), .int x1, .int x2].toArray below meth c s.heap [] 0 0 (MQ below (vp_Si (fun r => r = (f_NC_fittingSetP S x1 x2))) [.ref ((ad 0) 0), .ref ((ad 2) 0), .int x1, .int x2].toArray s 0 0 (fun _ => False)) (F0 m 20 ls []) := by
    intro n
    induction n with
    | zero =>
      intro z7 z6 ls hE hm h0 hl
      exact absurd hm (Nat.not_lt_zero _)
    | succ n ih =>
      intro z7 z6 ls hE hm h0 hl
      refine lv_iload hx hb d_NC_fittingSet_20 (lv_at hl 6 rfl) ?_
      refine lv_aload_n hx hb d_NC_fittingSet_22 rfl (lv_at hl 0 rfl) ?_
      refine va_get (D := (dC, dI)) (ci := 0) (v := .ref ((ad 1) 0)) (C := R_NC) (T := F_NC) (N := 15) hx hb hts i_NC hown hK hP 0 rfl rfl 0 (by decide) (hts _ m_f_NC_10) (fun _ h9 => h9) rfl d_NC_fittingSet_23 ?_
      refine va_getN (D := (dC, dI)) (ci := 1) (v := .int ((S 1) 7 0)) (C := R_Things) (T := F_Things) (N := 8) hx hb hts i_Things hown hK hP 3 rfl rfl 7 (by decide) (va_Nw.use rfl (hN _ m_f_NC_165)) (fun _ h9 => h9) rfl d_NC_fittingSet_26 ?_
      refine lv_icmp_ge (tgt := 65) hx hb d_NC_fittingSet_29 (by decide) (fun c_223 => ?_) (fun c_223 => ?_)
      · refine lv_aload_n hx hb d_NC_fittingSet_65 rfl (lv_at hl 1 rfl) ?_
        refine lv_iload_n hx hb d_NC_fittingSet_66 rfl (lv_at hl 2 rfl) ?_
        refine lv_bipush (v := 32) hx hb d_NC_fittingSet_67 (by decide) ?_
        refine nc_ro (va_runV (As := [.int x1, .int 32]) (rest := []) hfix (c_Phrase_tells l dC dI cA (ad 2) (S 2) x1 32) (k_NC_222 hts hN ⟨Nat.le_of_ble_eq_true rfl, Nat.le_of_ble_eq_true rfl⟩) (nc_preV hK hN hP_w_222 hD_w_222 rfl rfl) rfl rfl hl.1 rfl (lv_room (Nat.le_of_ble_eq_true rfl)) d_NC_fittingSet_69 ⟨Nat.zero_le _, Nat.zero_le _⟩) (fun r er => ?_)
        obtain ⟨rfl, hz_224⟩ := er
        refine lv_if_eq (tgt := 88) hx hb d_NC_fittingSet_72 (by decide) (fun c_225 => ?_) (fun c_225 => ?_)
        · refine lv_aload_n hx hb d_NC_fittingSet_88 rfl (lv_at hl 1 rfl) ?_
          refine lv_iload_n hx hb d_NC_fittingSet_89 rfl (lv_at hl 2 rfl) ?_
          refine lv_bipush (v := 33) hx hb d_NC_fittingSet_90 (by decide) ?_
          refine nc_ro (va_runV (As := [.int x1, .int 33]) (rest := []) hfix (c_Phrase_tells l dC dI cA (ad 2) (S 2) x1 33) (k_NC_222 hts hN ⟨Nat.le_of_ble_eq_true rfl, Nat.le_of_ble_eq_true rfl⟩) (nc_preV hK hN hP_w_222 hD_w_222 rfl rfl) rfl rfl hl.1 rfl (lv_room (Nat.le_of_ble_eq_true rfl)) d_NC_fittingSet_92 ⟨Nat.zero_le _, Nat.zero_le _⟩) (fun r er => ?_)
          obtain ⟨rfl, hz_226⟩ := er
          refine lv_if_eq (tgt := 112) hx hb d_NC_fittingSet_95 (by decide) (fun c_227 => ?_) (fun c_227 => ?_)
          · refine lv_iload hx hb d_NC_fittingSet_112 (lv_at hl 7 rfl) ?_
            exact W.iret (v := z6) hx hb hr (fun t ht hW => ⟨z6, rfl, by rw [hE, f_NC_fittingSetP_L20, if_pos c_223, if_pos c_225, if_pos c_227], ht⟩) (fun _ h => nomatch h) d_NC_fittingSet_114
          · refine lv_iload hx hb d_NC_fittingSet_98 (lv_at hl 7 rfl) ?_
            refine lv_aload_n hx hb d_NC_fittingSet_100 rfl (lv_at hl 0 rfl) ?_
            refine va_get (D := (dC, dI)) (ci := 0) (v := .ref ((ad 4) 0)) (C := R_NC) (T := F_NC) (N := 15) hx hb hts i_NC hown hK hP 0 rfl rfl 7 (by decide) (hts _ m_f_NC_43) (fun _ h9 => h9) rfl d_NC_fittingSet_101 ?_
            refine va_getN (D := (dC, dI)) (ci := 3) (v := .int ((S 4) 2 0)) (C := R_Picks) (T := F_Picks) (N := 3) hx hb hts i_Picks hown hK hP 27 rfl rfl 2 (by decide) (va_Nw.use rfl (hN _ m_f_NC_235)) (fun _ h9 => h9) rfl d_NC_fittingSet_104 ?_
            refine lv_iconst (v := (-1)) hx hb d_NC_fittingSet_107 (by decide) ?_
            refine lv_ixor hx hb d_NC_fittingSet_108 ?_
            refine lv_iand hx hb d_NC_fittingSet_109 ?_
            refine lv_istore (lv' := [(6, .int (z6 &&& (((S 4) 2 0) ^^^ (-1)))), (0, .ref ((ad 0) 0)), (1, .ref ((ad 2) 0)), (2, .int x1), (3, .int x2), (4, .int (f_Phrase_leadingOf (S 2) x1)), (5, .int (f_Phrase_lastOf (S 2) x1)), (7, .int z7)]) hx hb d_NC_fittingSet_110 hl (by decide) rfl (fun ls hl => ?_)
            refine lv_iload hx hb d_NC_fittingSet_112 (lv_at hl 0 rfl) ?_
            exact W.iret (v := (z6 &&& (((S 4) 2 0) ^^^ (-1)))) hx hb hr (fun t ht hW => ⟨(z6 &&& (((S 4) 2 0) ^^^ (-1))), rfl, by rw [hE, f_NC_fittingSetP_L20, if_pos c_223, if_pos c_225, if_neg c_227], ht⟩) (fun _ h => nomatch h) d_NC_fittingSet_114
        · refine lv_iload hx hb d_NC_fittingSet_75 (lv_at hl 7 rfl) ?_
          refine lv_aload_n hx hb d_NC_fittingSet_77 rfl (lv_at hl 0 rfl) ?_
          refine va_get (D := (dC, dI)) (ci := 0) (v := .ref ((ad 1) 0)) (C := R_NC) (T := F_NC) (N := 15) hx hb hts i_NC hown hK hP 0 rfl rfl 0 (by decide) (hts _ m_f_NC_10) (fun _ h9 => h9) rfl d_NC_fittingSet_78 ?_
          refine lv_iconst (v := 2) hx hb d_NC_fittingSet_81 (by decide) ?_
          have hP_w_228 := hP.sub (ws' := (w_Things cA (ad 1) (S 1))) [3, 4, 5, 6, 7, 8, 9, 10] rfl
          have hD_w_228 := hD.sub (ws' := (w_Things cA (ad 1) (S 1))) [3, 4, 5, 6, 7, 8, 9, 10] (by decide) rfl
          refine nc_ro (va_runV (As := [.int 2]) (rest := [.int z6]) hfix (c_Things_placedSet l dC dI cA (ad 1) (S 1) 2) (k_NC_171 hts hN ⟨Nat.le_of_ble_eq_true rfl, Nat.le_of_ble_eq_true rfl⟩) (nc_preV hK hN hP_w_228 hD_w_228 rfl rfl) rfl rfl hl.1 rfl (lv_room (Nat.le_of_ble_eq_true rfl)) d_NC_fittingSet_82 ⟨Nat.zero_le _, Nat.zero_le _⟩) (fun r er => ?_)
          subst er
          refine lv_iand hx hb d_NC_fittingSet_85 ?_
          refine lv_istore (lv' := [(6, .int (z6 &&& (f_Things_placedSet (S 1) 2))), (0, .ref ((ad 0) 0)), (1, .ref ((ad 2) 0)), (2, .int x1), (3, .int x2), (4, .int (f_Phrase_leadingOf (S 2) x1)), (5, .int (f_Phrase_lastOf (S 2) x1)), (7, .int z7)]) hx hb d_NC_fittingSet_86 hl (by decide) rfl (fun ls hl => ?_)
          refine lv_aload_n hx hb d_NC_fittingSet_88 rfl (lv_at hl 2 rfl) ?_
          refine lv_iload_n hx hb d_NC_fittingSet_89 rfl (lv_at hl 3 rfl) ?_
          refine lv_bipush (v := 33) hx hb d_NC_fittingSet_90 (by decide) ?_
          refine nc_ro (va_runV (As := [.int x1, .int 33]) (rest := []) hfix (c_Phrase_tells l dC dI cA (ad 2) (S 2) x1 33) (k_NC_222 hts hN ⟨Nat.le_of_ble_eq_true rfl, Nat.le_of_ble_eq_true rfl⟩) (nc_preV hK hN hP_w_222 hD_w_222 rfl rfl) rfl rfl hl.1 rfl (lv_room (Nat.le_of_ble_eq_true rfl)) d_NC_fittingSet_92 ⟨Nat.zero_le _, Nat.zero_le _⟩) (fun r er => ?_)
          obtain ⟨rfl, hz_229⟩ := er
          refine lv_if_eq (tgt := 112) hx hb d_NC_fittingSet_95 (by decide) (fun c_230 => ?_) (fun c_230 => ?_)
          · refine lv_iload hx hb d_NC_fittingSet_112 (lv_at hl 0 rfl) ?_
            exact W.iret (v := (z6 &&& (f_Things_placedSet (S 1) 2))) hx hb hr (fun t ht hW => ⟨(z6 &&& (f_Things_placedSet (S 1) 2)), rfl, by rw [hE, f_NC_fittingSetP_L20, if_pos c_223, if_neg c_225, if_pos c_230], ht⟩) (fun _ h => nomatch h) d_NC_fittingSet_114
          · refine lv_iload hx hb d_NC_fittingSet_98 (lv_at hl 0 rfl) ?_
            refine lv_aload_n hx hb d_NC_fittingSet_100 rfl (lv_at hl 1 rfl) ?_
            refine va_get (D := (dC, dI)) (ci := 0) (v := .ref ((ad 4) 0)) (C := R_NC) (T := F_NC) (N := 15) hx hb hts i_NC hown hK hP 0 rfl rfl 7 (by decide) (hts _ m_f_NC_43) (fun _ h9 => h9) rfl d_NC_fittingSet_101 ?_
            refine va_getN (D := (dC, dI)) (ci := 3) (v := .int ((S 4) 2 0)) (C := R_Picks) (T := F_Picks) (N := 3) hx hb hts i_Picks hown hK hP 27 rfl rfl 2 (by decide) (va_Nw.use rfl (hN _ m_f_NC_235)) (fun _ h9 => h9) rfl d_NC_fittingSet_104 ?_
            refine lv_iconst (v := (-1)) hx hb d_NC_fittingSet_107 (by decide) ?_
            refine lv_ixor hx hb d_NC_fittingSet_108 ?_
            refine lv_iand hx hb d_NC_fittingSet_109 ?_
            refine lv_istore (lv' := [(6, .int ((z6 &&& (f_Things_placedSet (S 1) 2)) &&& (((S 4) 2 0) ^^^ (-1)))), (0, .ref ((ad 0) 0)), (1, .ref ((ad 2) 0)), (2, .int x1), (3, .int x2), (4, .int (f_Phrase_leadingOf (S 2) x1)), (5, .int (f_Phrase_lastOf (S 2) x1)), (7, .int z7)]) hx hb d_NC_fittingSet_110 hl (by decide) rfl (fun ls hl => ?_)
            refine lv_iload hx hb d_NC_fittingSet_112 (lv_at hl 0 rfl) ?_
            exact W.iret (v := ((z6 &&& (f_Things_placedSet (S 1) 2)) &&& (((S 4) 2 0) ^^^ (-1)))) hx hb hr (fun t ht hW => ⟨((z6 &&& (f_Things_placedSet (S 1) 2)) &&& (((S 4) 2 0) ^^^ (-1))), rfl, by rw [hE, f_NC_fittingSetP_L20, if_pos c_223, if_neg c_225, if_neg c_230], ht⟩) (fun _ h => nomatch h) d_NC_fittingSet_114
      · refine lv_aload_n hx hb d_NC_fittingSet_32 rfl (lv_at hl 0 rfl) ?_
        refine va_get (D := (dC, dI)) (ci := 0) (v := .ref ((ad 1) 0)) (C := R_NC) (T := F_NC) (N := 15) hx hb hts i_NC hown hK hP 0 rfl rfl 0 (by decide) (hts _ m_f_NC_10) (fun _ h9 => h9) rfl d_NC_fittingSet_33 ?_
        refine lv_iload hx hb d_NC_fittingSet_36 (lv_at hl 6 rfl) ?_
        refine lv_iload hx hb d_NC_fittingSet_38 (lv_at hl 4 rfl) ?_
        refine lv_iload hx hb d_NC_fittingSet_40 (lv_at hl 5 rfl) ?_
        have hP_w_231 := hP.sub (ws' := (w_Things cA (ad 1) (S 1))) [3, 4, 5, 6, 7, 8, 9, 10] rfl
        have hD_w_231 := hD.sub (ws' := (w_Things cA (ad 1) (S 1))) [3, 4, 5, 6, 7, 8, 9, 10] (by decide) rfl
        refine nc_ro (va_runV (As := [.int z7, .int (f_Phrase_leadingOf (S 2) x1), .int (f_Phrase_lastOf (S 2) x1)]) (rest := []) hfix (c_Things_fitByWords l dC dI cA (ad 1) (S 1) z7 (f_Phrase_leadingOf (S 2) x1) (f_Phrase_lastOf (S 2) x1)) (k_NC_232 hts hN ⟨Nat.le_of_ble_eq_true rfl, Nat.le_of_ble_eq_true rfl⟩) (nc_preV hK hN hP_w_231 hD_w_231 rfl rfl) rfl rfl hl.1 rfl (lv_room (Nat.le_of_ble_eq_true rfl)) d_NC_fittingSet_42 ⟨Nat.zero_le _, Nat.zero_le _⟩) (fun r er => ?_)
        subst er
        refine lv_iload_n hx hb d_NC_fittingSet_45 rfl (lv_at hl 3 rfl) ?_
        refine lv_iand hx hb d_NC_fittingSet_46 ?_
        refine lv_if_eq (tgt := 59) hx hb d_NC_fittingSet_47 (by decide) (fun c_232 => ?_) (fun c_232 => ?_)
        · refine lv_iinc (v := (z7 + 1)) (lv' := [(7, .int (z7 + 1)), (0, .ref ((ad 0) 0)), (1, .ref ((ad 2) 0)), (2, .int x1), (3, .int x2), (4, .int (f_Phrase_leadingOf (S 2) x1)), (5, .int (f_Phrase_lastOf (S 2) x1)), (6, .int z6)]) hx hb d_NC_fittingSet_59 hl (k := 6) rfl rfl (by decide) rfl (fun ls hl => ?_)
          refine lv_goto (tgt := 20) hx hb d_NC_fittingSet_62 (by decide) ?_
          exact ih (z7 + 1) z6 ls (by rw [hE, f_NC_fittingSetP_L20, if_neg c_223, if_pos c_232]) (nc_mu_step c_223 hm) (nc_i_step c_223 h0) (lv_sub hl [1, 2, 3, 4, 5, 6, 0, 7] rfl)
        · refine lv_iload hx hb d_NC_fittingSet_50 (lv_at hl 7 rfl) ?_
          refine lv_iconst (v := 1) hx hb d_NC_fittingSet_52 (by decide) ?_
          refine lv_iload hx hb d_NC_fittingSet_53 (lv_at hl 6 rfl) ?_
          refine lv_ishl hx hb d_NC_fittingSet_55 ?_
          refine lv_ior hx hb d_NC_fittingSet_56 ?_
          refine lv_istore (lv' := [(6, .int (z6 ||| ((1 : Int32) <<< (z7 &&& 31)))), (0, .ref ((ad 0) 0)), (1, .ref ((ad 2) 0)), (2, .int x1), (3, .int x2), (4, .int (f_Phrase_leadingOf (S 2) x1)), (5, .int (f_Phrase_lastOf (S 2) x1)), (7, .int z7)]) hx hb d_NC_fittingSet_57 hl (by decide) rfl (fun ls hl => ?_)
          refine lv_iinc (v := (z7 + 1)) (lv' := [(7, .int (z7 + 1)), (6, .int (z6 ||| ((1 : Int32) <<< (z7 &&& 31)))), (0, .ref ((ad 0) 0)), (1, .ref ((ad 2) 0)), (2, .int x1), (3, .int x2), (4, .int (f_Phrase_leadingOf (S 2) x1)), (5, .int (f_Phrase_lastOf (S 2) x1))]) hx hb d_NC_fittingSet_59 hl (k := 7) rfl rfl (by decide) rfl (fun ls hl => ?_)
          refine lv_goto (tgt := 20) hx hb d_NC_fittingSet_62 (by decide) ?_
          exact ih (z7 + 1) (z6 ||| ((1 : Int32) <<< (z7 &&& 31))) ls (by rw [hE, f_NC_fittingSetP_L20, if_neg c_223, if_neg c_232]) (nc_mu_step c_223 hm) (nc_i_step c_223 h0) (lv_sub hl [2, 3, 4, 5, 6, 7, 0, 1] rfl)
  exact loop_20 (nc_mu ((S 1) 7 0) 0 + 1) 0 0 ls (by rw [f_NC_fittingSetP]) (Nat.lt_succ_self _) (by decide) (lv_sub hl [4, 5, 6, 7, 3, 2, 0, 1] rfl)
def f_NC_fittingSetD_L20 (S : Nat → Nat → Nat → Int32) (x1 x2 : Int32) (y4 y5 : Int32) : Nat → Int32 → Int32 → Int32
  | 0, z7, z6 => 0
  | n + 1, z7, z6 => (if ((S 1) 7 0) ≤ z7 then (if (f_Phrase_tells (S 3) x1 32) = 0 then (if (f_Phrase_tells (S 3) x1 33) = 0 then z6 else (z6 &&& (((S 4) 2 0) ^^^ (-1)))) else (if (f_Phrase_tells (S 3) x1 33) = 0 then (z6 &&& (f_Things_placedSet (S 1) 2)) else ((z6 &&& (f_Things_placedSet (S 1) 2)) &&& (((S 4) 2 0) ^^^ (-1))))) else (if ((f_Things_fitByWords (S 1) z7 y4 y5) &&& x2) = 0 then (f_NC_fittingSetD_L20 S x1 x2 y4 y5 n (z7 + 1) z6) else (f_NC_fittingSetD_L20 S x1 x2 y4 y5 n (z7 + 1) (z6 ||| ((1 : Int32) <<< (z7 &&& 31))))))
def f_NC_fittingSetD (S : Nat → Nat → Nat → Int32) (x1 x2 : Int32) : Int32 := (f_NC_fittingSetD_L20 S x1 x2 (f_Phrase_leadingOf (S 3) x1) (f_Phrase_lastOf (S 3) x1) (nc_mu ((S 1) 7 0) 0 + 1) 0 0)
abbrev ws_NC_fittingSetD : List Cond := .code y_NC_fittingSet b_NC_fittingSet 8 (some .int) :: lw_G
abbrev rm_NC_fittingSetD : Room := { frames := 2, cells := 0, slots := 0, locals := 47 }
set_option maxHeartbeats 4000000 in
set_option maxRecDepth 100000 in
theorem c_NC_fittingSetD (l : Launch) (dC : Nat → ClassId) (dI : Nat → Nat → Nat) (cA : ClassId) (ad : Nat → Nat → Nat) (S : Nat → Nat → Nat → Int32) (x1 x2 : Int32) : Met l y_NC_fittingSet ws_NC_fittingSetD rm_NC_fittingSetD (nc_Pre (dC, dI) cA [.ref ((ad 0) 0), .ref ((ad 3) 0), .int x1, .int x2] (w_NC cA ad S)) (vp_Si (fun r => r = (f_NC_fittingSetD S x1 x2))) 0 0 (fun _ => False) := by
  refine Met.ofW (cc := b_NC_fittingSet) (maxL := 8) (ret := (some .int)) (by decide) rfl ?_
  intro p e s m args below meth c s₁ B hml hv
  obtain ⟨rfl, hP, hK, hD, hN⟩ := hv
  have hx := B.exec
  have hb := B.bytes
  have hr := B.returns
  have hts : ∀ w ∈ lw_G, w.before [.ref ((ad 0) 0), .ref ((ad 3) 0), .int x1, .int x2].toArray s = true := fun w h => atoms_spec (ws := ws_NC_fittingSetD) B.pre w (List.mem_cons_of_mem _ h)
  have hown : s.vm.findClass R_NC = some m.cls := findClass_of_methodNamed B.named
  have hlocks := B.notSynchronized
  have hfix : CallFix p m c b_NC_fittingSet 8 s [.ref ((ad 0) 0), .ref ((ad 3) 0), .int x1, .int x2].toArray lw_G R_NC := ⟨hx, hb, hml, hown, hts⟩
  have hl := lv_entry ([.ref ((ad 0) 0), .ref ((ad 3) 0), .int x1, .int x2]) (n := 8) (Nat.le_of_ble_eq_true rfl)
  rw [lg_entry_eq]
  generalize (lg_sl ([.ref ((ad 0) 0), .ref ((ad 3) 0), .int x1, .int x2]) ++ List.replicate (8 - (lg_sl ([.ref ((ad 0) 0), .ref ((ad 3) 0), .int x1, .int x2])).length) Slot.unset).toArray = ls at hl ⊢
  have hl : lv_has ls 8 [(0, .ref ((ad 0) 0)), (1, .ref ((ad 3) 0)), (2, .int x1), (3, .int x2)] := hl
  refine lv_aload_n hx hb d_NC_fittingSet_0 rfl (lv_at hl 1 rfl) ?_
  refine lv_iload_n hx hb d_NC_fittingSet_1 rfl (lv_at hl 2 rfl) ?_
  have hP_w_233 := hP.sub (ws' := (w_Phrase cA (ad 3) (S 3))) [19, 20, 21, 22, 23, 24, 25, 26] rfl
  have hD_w_233 := hD.sub (ws' := (w_Phrase cA (ad 3) (S 3))) [19, 20, 21, 22, 23, 24, 25, 26] (by decide) rfl
  refine nc_ro (va_runV (As := [.int x1]) (rest := []) hfix (c_Phrase_leadingOf l dC dI cA (ad 3) (S 3) x1) (k_NC_226 hts hN ⟨Nat.le_of_ble_eq_true rfl, Nat.le_of_ble_eq_true rfl⟩) (nc_preV hK hN hP_w_233 hD_w_233 rfl rfl) rfl rfl hl.1 rfl (lv_room (Nat.le_of_ble_eq_true rfl)) d_NC_fittingSet_2 ⟨Nat.zero_le _, Nat.zero_le _⟩) (fun r er => ?_)
  subst er
  refine lv_istore (lv' := [(4, .int (f_Phrase_leadingOf (S 3) x1)), (0, .ref ((ad 0) 0)), (1, .ref ((ad 3) 0)), (2, .int x1), (3, .int x2)]) hx hb d_NC_fittingSet_5 hl (by decide) rfl (fun ls hl => ?_)
  refine lv_aload_n hx hb d_NC_fittingSet_7 rfl (lv_at hl 2 rfl) ?_
  refine lv_iload_n hx hb d_NC_fittingSet_8 rfl (lv_at hl 3 rfl) ?_
  refine nc_ro (va_runV (As := [.int x1]) (rest := []) hfix (c_Phrase_lastOf l dC dI cA (ad 3) (S 3) x1) (k_NC_229 hts hN ⟨Nat.le_of_ble_eq_true rfl, Nat.le_of_ble_eq_true rfl⟩) (nc_preV hK hN hP_w_233 hD_w_233 rfl rfl) rfl rfl hl.1 rfl (lv_room (Nat.le_of_ble_eq_true rfl)) d_NC_fittingSet_9 ⟨Nat.zero_le _, Nat.zero_le _⟩) (fun r er => ?_)
  subst er
  refine lv_istore (lv' := [(5, .int (f_Phrase_lastOf (S 3) x1)), (4, .int (f_Phrase_leadingOf (S 3) x1)), (0, .ref ((ad 0) 0)), (1, .ref ((ad 3) 0)), (2, .int x1), (3, .int x2)]) hx hb d_NC_fittingSet_12 hl (by decide) rfl (fun ls hl => ?_)
  refine lv_iconst (v := 0) hx hb d_NC_fittingSet_14 (by decide) ?_
  refine lv_istore (lv' := [(6, .int 0), (5, .int (f_Phrase_lastOf (S 3) x1)), (4, .int (f_Phrase_leadingOf (S 3) x1)), (0, .ref ((ad 0) 0)), (1, .ref ((ad 3) 0)), (2, .int x1), (3, .int x2)]) hx hb d_NC_fittingSet_15 hl (by decide) rfl (fun ls hl => ?_)
  refine lv_iconst (v := 0) hx hb d_NC_fittingSet_17 (by decide) ?_
  refine lv_istore (lv' := [(7, .int 0), (6, .int 0), (5, .int (f_Phrase_lastOf (S 3) x1)), (4, .int (f_Phrase_leadingOf (S 3) x1)), (0, .ref ((ad 0) 0)), (1, .ref ((ad 3) 0)), (2, .int x1), (3, .int x2)]) hx hb d_NC_fittingSet_18 hl (by decide) rfl (fun ls hl => ?_)
  have loop_20 : ∀ (n : Nat) (z7 z6 : Int32) (ls : Array Slot), (f_NC_fittingSetD S x1 x2) = (f_NC_fittingSetD_L20 S x1 x2 (f_Phrase_leadingOf (S 3) x1) (f_Phrase_lastOf (S 3) x1) n z7 z6) → nc_mu ((S 1) 7 0) z7 < n → 0 ≤ z7.toInt → lv_has ls 8 [(0, .ref ((ad 0) 0)), (1, .ref ((ad 3) 0)), (2, .int x1), (3, .int x2), (4, .int (f_Phrase_leadingOf (S 3) x1)), (5, .int (f_Phrase_lastOf (S 3) x1)), (7, .int z7), (6, .int z6)] → W p l e (headSpec ws_NC_fittingSetD rm_NC_fittingSetD).room s m [.ref ((ad 0) 0), .ref ((ad 3) 0), .int x1, .int x2].toArray below meth c s.heap [] 0 0 (MQ below (vp_Si (fun r => r = (f_NC_fittingSetD S x1 x2))) [.ref ((ad 0) 0), .ref ((ad 3) 0), .int x1, .int x2].toArray s 0 0 (fun _ => False)) (F0 m 20 ls []) := by
    intro n
    induction n with
    | zero =>
      intro z7 z6 ls hE hm h0 hl
      exact absurd hm (Nat.not_lt_zero _)
    | succ n ih =>
      intro z7 z6 ls hE hm h0 hl
      refine lv_iload hx hb d_NC_fittingSet_20 (lv_at hl 6 rfl) ?_
      refine lv_aload_n hx hb d_NC_fittingSet_22 rfl (lv_at hl 0 rfl) ?_
      refine va_get (D := (dC, dI)) (ci := 0) (v := .ref ((ad 1) 0)) (C := R_NC) (T := F_NC) (N := 15) hx hb hts i_NC hown hK hP 0 rfl rfl 0 (by decide) (hts _ m_f_NC_10) (fun _ h9 => h9) rfl d_NC_fittingSet_23 ?_
      refine va_getN (D := (dC, dI)) (ci := 1) (v := .int ((S 1) 7 0)) (C := R_Things) (T := F_Things) (N := 8) hx hb hts i_Things hown hK hP 3 rfl rfl 7 (by decide) (va_Nw.use rfl (hN _ m_f_NC_165)) (fun _ h9 => h9) rfl d_NC_fittingSet_26 ?_
      refine lv_icmp_ge (tgt := 65) hx hb d_NC_fittingSet_29 (by decide) (fun c_234 => ?_) (fun c_234 => ?_)
      · refine lv_aload_n hx hb d_NC_fittingSet_65 rfl (lv_at hl 1 rfl) ?_
        refine lv_iload_n hx hb d_NC_fittingSet_66 rfl (lv_at hl 2 rfl) ?_
        refine lv_bipush (v := 32) hx hb d_NC_fittingSet_67 (by decide) ?_
        refine nc_ro (va_runV (As := [.int x1, .int 32]) (rest := []) hfix (c_Phrase_tells l dC dI cA (ad 3) (S 3) x1 32) (k_NC_222 hts hN ⟨Nat.le_of_ble_eq_true rfl, Nat.le_of_ble_eq_true rfl⟩) (nc_preV hK hN hP_w_233 hD_w_233 rfl rfl) rfl rfl hl.1 rfl (lv_room (Nat.le_of_ble_eq_true rfl)) d_NC_fittingSet_69 ⟨Nat.zero_le _, Nat.zero_le _⟩) (fun r er => ?_)
        obtain ⟨rfl, hz_235⟩ := er
        refine lv_if_eq (tgt := 88) hx hb d_NC_fittingSet_72 (by decide) (fun c_236 => ?_) (fun c_236 => ?_)
        · refine lv_aload_n hx hb d_NC_fittingSet_88 rfl (lv_at hl 1 rfl) ?_
          refine lv_iload_n hx hb d_NC_fittingSet_89 rfl (lv_at hl 2 rfl) ?_
          refine lv_bipush (v := 33) hx hb d_NC_fittingSet_90 (by decide) ?_
          refine nc_ro (va_runV (As := [.int x1, .int 33]) (rest := []) hfix (c_Phrase_tells l dC dI cA (ad 3) (S 3) x1 33) (k_NC_222 hts hN ⟨Nat.le_of_ble_eq_true rfl, Nat.le_of_ble_eq_true rfl⟩) (nc_preV hK hN hP_w_233 hD_w_233 rfl rfl) rfl rfl hl.1 rfl (lv_room (Nat.le_of_ble_eq_true rfl)) d_NC_fittingSet_92 ⟨Nat.zero_le _, Nat.zero_le _⟩) (fun r er => ?_)
          obtain ⟨rfl, hz_237⟩ := er
          refine lv_if_eq (tgt := 112) hx hb d_NC_fittingSet_95 (by decide) (fun c_238 => ?_) (fun c_238 => ?_)
          · refine lv_iload hx hb d_NC_fittingSet_112 (lv_at hl 7 rfl) ?_
            exact W.iret (v := z6) hx hb hr (fun t ht hW => ⟨z6, rfl, by rw [hE, f_NC_fittingSetD_L20, if_pos c_234, if_pos c_236, if_pos c_238], ht⟩) (fun _ h => nomatch h) d_NC_fittingSet_114
          · refine lv_iload hx hb d_NC_fittingSet_98 (lv_at hl 7 rfl) ?_
            refine lv_aload_n hx hb d_NC_fittingSet_100 rfl (lv_at hl 0 rfl) ?_
            refine va_get (D := (dC, dI)) (ci := 0) (v := .ref ((ad 4) 0)) (C := R_NC) (T := F_NC) (N := 15) hx hb hts i_NC hown hK hP 0 rfl rfl 7 (by decide) (hts _ m_f_NC_43) (fun _ h9 => h9) rfl d_NC_fittingSet_101 ?_
            refine va_getN (D := (dC, dI)) (ci := 3) (v := .int ((S 4) 2 0)) (C := R_Picks) (T := F_Picks) (N := 3) hx hb hts i_Picks hown hK hP 27 rfl rfl 2 (by decide) (va_Nw.use rfl (hN _ m_f_NC_235)) (fun _ h9 => h9) rfl d_NC_fittingSet_104 ?_
            refine lv_iconst (v := (-1)) hx hb d_NC_fittingSet_107 (by decide) ?_
            refine lv_ixor hx hb d_NC_fittingSet_108 ?_
            refine lv_iand hx hb d_NC_fittingSet_109 ?_
            refine lv_istore (lv' := [(6, .int (z6 &&& (((S 4) 2 0) ^^^ (-1)))), (0, .ref ((ad 0) 0)), (1, .ref ((ad 3) 0)), (2, .int x1), (3, .int x2), (4, .int (f_Phrase_leadingOf (S 3) x1)), (5, .int (f_Phrase_lastOf (S 3) x1)), (7, .int z7)]) hx hb d_NC_fittingSet_110 hl (by decide) rfl (fun ls hl => ?_)
            refine lv_iload hx hb d_NC_fittingSet_112 (lv_at hl 0 rfl) ?_
            exact W.iret (v := (z6 &&& (((S 4) 2 0) ^^^ (-1)))) hx hb hr (fun t ht hW => ⟨(z6 &&& (((S 4) 2 0) ^^^ (-1))), rfl, by rw [hE, f_NC_fittingSetD_L20, if_pos c_234, if_pos c_236, if_neg c_238], ht⟩) (fun _ h => nomatch h) d_NC_fittingSet_114
        · refine lv_iload hx hb d_NC_fittingSet_75 (lv_at hl 7 rfl) ?_
          refine lv_aload_n hx hb d_NC_fittingSet_77 rfl (lv_at hl 0 rfl) ?_
          refine va_get (D := (dC, dI)) (ci := 0) (v := .ref ((ad 1) 0)) (C := R_NC) (T := F_NC) (N := 15) hx hb hts i_NC hown hK hP 0 rfl rfl 0 (by decide) (hts _ m_f_NC_10) (fun _ h9 => h9) rfl d_NC_fittingSet_78 ?_
          refine lv_iconst (v := 2) hx hb d_NC_fittingSet_81 (by decide) ?_
          have hP_w_239 := hP.sub (ws' := (w_Things cA (ad 1) (S 1))) [3, 4, 5, 6, 7, 8, 9, 10] rfl
          have hD_w_239 := hD.sub (ws' := (w_Things cA (ad 1) (S 1))) [3, 4, 5, 6, 7, 8, 9, 10] (by decide) rfl
          refine nc_ro (va_runV (As := [.int 2]) (rest := [.int z6]) hfix (c_Things_placedSet l dC dI cA (ad 1) (S 1) 2) (k_NC_171 hts hN ⟨Nat.le_of_ble_eq_true rfl, Nat.le_of_ble_eq_true rfl⟩) (nc_preV hK hN hP_w_239 hD_w_239 rfl rfl) rfl rfl hl.1 rfl (lv_room (Nat.le_of_ble_eq_true rfl)) d_NC_fittingSet_82 ⟨Nat.zero_le _, Nat.zero_le _⟩) (fun r er => ?_)
          subst er
          refine lv_iand hx hb d_NC_fittingSet_85 ?_
          refine lv_istore (lv' := [(6, .int (z6 &&& (f_Things_placedSet (S 1) 2))), (0, .ref ((ad 0) 0)), (1, .ref ((ad 3) 0)), (2, .int x1), (3, .int x2), (4, .int (f_Phrase_leadingOf (S 3) x1)), (5, .int (f_Phrase_lastOf (S 3) x1)), (7, .int z7)]) hx hb d_NC_fittingSet_86 hl (by decide) rfl (fun ls hl => ?_)
          refine lv_aload_n hx hb d_NC_fittingSet_88 rfl (lv_at hl 2 rfl) ?_
          refine lv_iload_n hx hb d_NC_fittingSet_89 rfl (lv_at hl 3 rfl) ?_
          refine lv_bipush (v := 33) hx hb d_NC_fittingSet_90 (by decide) ?_
          refine nc_ro (va_runV (As := [.int x1, .int 33]) (rest := []) hfix (c_Phrase_tells l dC dI cA (ad 3) (S 3) x1 33) (k_NC_222 hts hN ⟨Nat.le_of_ble_eq_true rfl, Nat.le_of_ble_eq_true rfl⟩) (nc_preV hK hN hP_w_233 hD_w_233 rfl rfl) rfl rfl hl.1 rfl (lv_room (Nat.le_of_ble_eq_true rfl)) d_NC_fittingSet_92 ⟨Nat.zero_le _, Nat.zero_le _⟩) (fun r er => ?_)
          obtain ⟨rfl, hz_240⟩ := er
          refine lv_if_eq (tgt := 112) hx hb d_NC_fittingSet_95 (by decide) (fun c_241 => ?_) (fun c_241 => ?_)
          · refine lv_iload hx hb d_NC_fittingSet_112 (lv_at hl 0 rfl) ?_
            exact W.iret (v := (z6 &&& (f_Things_placedSet (S 1) 2))) hx hb hr (fun t ht hW => ⟨(z6 &&& (f_Things_placedSet (S 1) 2)), rfl, by rw [hE, f_NC_fittingSetD_L20, if_pos c_234, if_neg c_236, if_pos c_241], ht⟩) (fun _ h => nomatch h) d_NC_fittingSet_114
          · refine lv_iload hx hb d_NC_fittingSet_98 (lv_at hl 0 rfl) ?_
            refine lv_aload_n hx hb d_NC_fittingSet_100 rfl (lv_at hl 1 rfl) ?_
            refine va_get (D := (dC, dI)) (ci := 0) (v := .ref ((ad 4) 0)) (C := R_NC) (T := F_NC) (N := 15) hx hb hts i_NC hown hK hP 0 rfl rfl 7 (by decide) (hts _ m_f_NC_43) (fun _ h9 => h9) rfl d_NC_fittingSet_101 ?_
            refine va_getN (D := (dC, dI)) (ci := 3) (v := .int ((S 4) 2 0)) (C := R_Picks) (T := F_Picks) (N := 3) hx hb hts i_Picks hown hK hP 27 rfl rfl 2 (by decide) (va_Nw.use rfl (hN _ m_f_NC_235)) (fun _ h9 => h9) rfl d_NC_fittingSet_104 ?_
            refine lv_iconst (v := (-1)) hx hb d_NC_fittingSet_107 (by decide) ?_
            refine lv_ixor hx hb d_NC_fittingSet_108 ?_
            refine lv_iand hx hb d_NC_fittingSet_109 ?_
            refine lv_istore (lv' := [(6, .int ((z6 &&& (f_Things_placedSet (S 1) 2)) &&& (((S 4) 2 0) ^^^ (-1)))), (0, .ref ((ad 0) 0)), (1, .ref ((ad 3) 0)), (2, .int x1), (3, .int x2), (4, .int (f_Phrase_leadingOf (S 3) x1)), (5, .int (f_Phrase_lastOf (S 3) x1)), (7, .int z7)]) hx hb d_NC_fittingSet_110 hl (by decide) rfl (fun ls hl => ?_)
            refine lv_iload hx hb d_NC_fittingSet_112 (lv_at hl 0 rfl) ?_
            exact W.iret (v := ((z6 &&& (f_Things_placedSet (S 1) 2)) &&& (((S 4) 2 0) ^^^ (-1)))) hx hb hr (fun t ht hW => ⟨((z6 &&& (f_Things_placedSet (S 1) 2)) &&& (((S 4) 2 0) ^^^ (-1))), rfl, by rw [hE, f_NC_fittingSetD_L20, if_pos c_234, if_neg c_236, if_neg c_241], ht⟩) (fun _ h => nomatch h) d_NC_fittingSet_114
      · refine lv_aload_n hx hb d_NC_fittingSet_32 rfl (lv_at hl 0 rfl) ?_
        refine va_get (D := (dC, dI)) (ci := 0) (v := .ref ((ad 1) 0)) (C := R_NC) (T := F_NC) (N := 15) hx hb hts i_NC hown hK hP 0 rfl rfl 0 (by decide) (hts _ m_f_NC_10) (fun _ h9 => h9) rfl d_NC_fittingSet_33 ?_
        refine lv_iload hx hb d_NC_fittingSet_36 (lv_at hl 6 rfl) ?_
        refine lv_iload hx hb d_NC_fittingSet_38 (lv_at hl 4 rfl) ?_
        refine lv_iload hx hb d_NC_fittingSet_40 (lv_at hl 5 rfl) ?_
        have hP_w_242 := hP.sub (ws' := (w_Things cA (ad 1) (S 1))) [3, 4, 5, 6, 7, 8, 9, 10] rfl
        have hD_w_242 := hD.sub (ws' := (w_Things cA (ad 1) (S 1))) [3, 4, 5, 6, 7, 8, 9, 10] (by decide) rfl
        refine nc_ro (va_runV (As := [.int z7, .int (f_Phrase_leadingOf (S 3) x1), .int (f_Phrase_lastOf (S 3) x1)]) (rest := []) hfix (c_Things_fitByWords l dC dI cA (ad 1) (S 1) z7 (f_Phrase_leadingOf (S 3) x1) (f_Phrase_lastOf (S 3) x1)) (k_NC_232 hts hN ⟨Nat.le_of_ble_eq_true rfl, Nat.le_of_ble_eq_true rfl⟩) (nc_preV hK hN hP_w_242 hD_w_242 rfl rfl) rfl rfl hl.1 rfl (lv_room (Nat.le_of_ble_eq_true rfl)) d_NC_fittingSet_42 ⟨Nat.zero_le _, Nat.zero_le _⟩) (fun r er => ?_)
        subst er
        refine lv_iload_n hx hb d_NC_fittingSet_45 rfl (lv_at hl 3 rfl) ?_
        refine lv_iand hx hb d_NC_fittingSet_46 ?_
        refine lv_if_eq (tgt := 59) hx hb d_NC_fittingSet_47 (by decide) (fun c_243 => ?_) (fun c_243 => ?_)
        · refine lv_iinc (v := (z7 + 1)) (lv' := [(7, .int (z7 + 1)), (0, .ref ((ad 0) 0)), (1, .ref ((ad 3) 0)), (2, .int x1), (3, .int x2), (4, .int (f_Phrase_leadingOf (S 3) x1)), (5, .int (f_Phrase_lastOf (S 3) x1)), (6, .int z6)]) hx hb d_NC_fittingSet_59 hl (k := 6) rfl rfl (by decide) rfl (fun ls hl => ?_)
          refine lv_goto (tgt := 20) hx hb d_NC_fittingSet_62 (by decide) ?_
          exact ih (z7 + 1) z6 ls (by rw [hE, f_NC_fittingSetD_L20, if_neg c_234, if_pos c_243]) (nc_mu_step c_234 hm) (nc_i_step c_234 h0) (lv_sub hl [1, 2, 3, 4, 5, 6, 0, 7] rfl)
        · refine lv_iload hx hb d_NC_fittingSet_50 (lv_at hl 7 rfl) ?_
          refine lv_iconst (v := 1) hx hb d_NC_fittingSet_52 (by decide) ?_
          refine lv_iload hx hb d_NC_fittingSet_53 (lv_at hl 6 rfl) ?_
          refine lv_ishl hx hb d_NC_fittingSet_55 ?_
          refine lv_ior hx hb d_NC_fittingSet_56 ?_
          refine lv_istore (lv' := [(6, .int (z6 ||| ((1 : Int32) <<< (z7 &&& 31)))), (0, .ref ((ad 0) 0)), (1, .ref ((ad 3) 0)), (2, .int x1), (3, .int x2), (4, .int (f_Phrase_leadingOf (S 3) x1)), (5, .int (f_Phrase_lastOf (S 3) x1)), (7, .int z7)]) hx hb d_NC_fittingSet_57 hl (by decide) rfl (fun ls hl => ?_)
          refine lv_iinc (v := (z7 + 1)) (lv' := [(7, .int (z7 + 1)), (6, .int (z6 ||| ((1 : Int32) <<< (z7 &&& 31)))), (0, .ref ((ad 0) 0)), (1, .ref ((ad 3) 0)), (2, .int x1), (3, .int x2), (4, .int (f_Phrase_leadingOf (S 3) x1)), (5, .int (f_Phrase_lastOf (S 3) x1))]) hx hb d_NC_fittingSet_59 hl (k := 7) rfl rfl (by decide) rfl (fun ls hl => ?_)
          refine lv_goto (tgt := 20) hx hb d_NC_fittingSet_62 (by decide) ?_
          exact ih (z7 + 1) (z6 ||| ((1 : Int32) <<< (z7 &&& 31))) ls (by rw [hE, f_NC_fittingSetD_L20, if_neg c_234, if_neg c_243]) (nc_mu_step c_234 hm) (nc_i_step c_234 h0) (lv_sub hl [2, 3, 4, 5, 6, 7, 0, 1] rfl)
  exact loop_20 (nc_mu ((S 1) 7 0) 0 + 1) 0 0 ls (by rw [f_NC_fittingSetD]) (Nat.lt_succ_self _) (by decide) (lv_sub hl [4, 5, 6, 7, 3, 2, 0, 1] rfl)
def f_NC_replyFault_L37 (S : Nat → Nat → Nat → Int32) : Nat → Int32 → Int32
  | 0, z1 => 0
  | n + 1, z1 => (if ((S 0) 2 0) ≤ z1 then (-1) else (if 30 ≤ z1 then (-1) else (if 6 ≤ z1 then z1 else (if (f_NC_isWord (((S 0) 1) z1.toNatClampNeg)) = 0 then z1 else (f_NC_replyFault_L37 S n (z1 + 1))))))
def f_NC_replyFault (S : Nat → Nat → Nat → Int32) : Int32 := (if ((S 0) 2 0) = 0 then 0 else (if (f_NC_isNumber (((S 0) 1) (0 : Int32).toNatClampNeg)) = 0 then (f_NC_replyFault_L37 S (nc_mu ((S 0) 2 0) 0 + 1) 0) else (if ((S 0) 2 0) = 1 then (-1) else 1)))
abbrev ws_NC_replyFault : List Cond := .code y_NC_replyFault b_NC_replyFault 2 (some .int) :: lw_G
abbrev rm_NC_replyFault : Room := { frames := 1, cells := 0, slots := 0, locals := 20 }
set_option maxHeartbeats 4000000 in
set_option maxRecDepth 100000 in
theorem c_NC_replyFault (l : Launch) (dC : Nat → ClassId) (dI : Nat → Nat → Nat) (cA : ClassId) (ad : Nat → Nat → Nat) (S : Nat → Nat → Nat → Int32) : Met l y_NC_replyFault ws_NC_replyFault rm_NC_replyFault (nc_Pre (dC, dI) cA [.ref ((ad 0) 0)] (w_NC cA ad S)) (vp_Si (fun r => r = (f_NC_replyFault S))) 0 0 (fun _ => False) := by
  refine Met.ofW (cc := b_NC_replyFault) (maxL := 2) (ret := (some .int)) (by decide) rfl ?_
  intro p e s m args below meth c s₁ B hml hv
  obtain ⟨rfl, hP, hK, hD, hN⟩ := hv
  have hx := B.exec
  have hb := B.bytes
  have hr := B.returns
  have hts : ∀ w ∈ lw_G, w.before [.ref ((ad 0) 0)].toArray s = true := fun w h => atoms_spec (ws := ws_NC_replyFault) B.pre w (List.mem_cons_of_mem _ h)
  have hown : s.vm.findClass R_NC = some m.cls := findClass_of_methodNamed B.named
  have hlocks := B.notSynchronized
  have hfix : CallFix p m c b_NC_replyFault 2 s [.ref ((ad 0) 0)].toArray lw_G R_NC := ⟨hx, hb, hml, hown, hts⟩
  have hl := lv_entry ([.ref ((ad 0) 0)]) (n := 2) (Nat.le_of_ble_eq_true rfl)
  rw [lg_entry_eq]
  generalize (lg_sl ([.ref ((ad 0) 0)]) ++ List.replicate (2 - (lg_sl ([.ref ((ad 0) 0)])).length) Slot.unset).toArray = ls at hl ⊢
  have hl : lv_has ls 2 [(0, .ref ((ad 0) 0))] := hl
  refine lv_aload_n hx hb d_NC_replyFault_0 rfl (lv_at hl 0 rfl) ?_
  refine va_get (D := (dC, dI)) (ci := 0) (v := .int ((S 0) 2 0)) (C := R_NC) (T := F_NC) (N := 15) hx hb hts i_NC hown hK hP 0 rfl rfl 2 (by decide) (hts _ m_f_NC_20) (fun _ h9 => h9) rfl d_NC_replyFault_1 ?_
  refine lv_if_ne (tgt := 9) hx hb d_NC_replyFault_4 (by decide) (fun c_244 => ?_) (fun c_244 => ?_)
  · refine lv_aload_n hx hb d_NC_replyFault_9 rfl (lv_at hl 0 rfl) ?_
    refine va_get (D := (dC, dI)) (ci := 0) (v := .ref ((ad 0) 1)) (C := R_NC) (T := F_NC) (N := 15) hx hb hts i_NC hown hK hP 0 rfl rfl 1 (by decide) (hts _ m_f_NC_16) (fun _ h9 => h9) rfl d_NC_replyFault_10 ?_
    refine lv_iconst (v := 0) hx hb d_NC_replyFault_13 (by decide) ?_
    refine va_iald (f := ((S 0) 1)) hx hb hK hP 1 0 rfl rfl (by unfold vp_in; decide) d_NC_replyFault_14 ?_
    refine nc_ro (va_runS (As := [.int (((S 0) 1) (0 : Int32).toNatClampNeg)]) (rest := []) hfix (c_NC_isNumber l dC dI cA (((S 0) 1) (0 : Int32).toNatClampNeg)) (k_NC_177 hts hN ⟨Nat.le_of_ble_eq_true rfl, Nat.le_of_ble_eq_true rfl⟩) (nc_preS0 hK hN) rfl rfl hl.1 rfl (lv_room (Nat.le_of_ble_eq_true rfl)) d_NC_replyFault_15 ⟨Nat.zero_le _, Nat.zero_le _⟩) (fun r er => ?_)
    obtain ⟨rfl, hz_245⟩ := er
    refine lv_if_eq (tgt := 35) hx hb d_NC_replyFault_18 (by decide) (fun c_246 => ?_) (fun c_246 => ?_)
    · refine lv_iconst (v := 0) hx hb d_NC_replyFault_35 (by decide) ?_
      refine lv_istore_n (lv' := [(1, .int 0), (0, .ref ((ad 0) 0))]) hx hb d_NC_replyFault_36 rfl hl (by decide) rfl (fun ls hl => ?_)
      have loop_37 : ∀ (n : Nat) (z1 : Int32) (ls : Array Slot), (f_NC_replyFault S) = (f_NC_replyFault_L37 S n z1) → nc_mu ((S 0) 2 0) z1 < n → 0 ≤ z1.toInt → lv_has ls 2 [(0, .ref ((ad 0) 0)), (1, .int z1)] → W p l e (headSpec ws_NC_replyFault rm_NC_replyFault).room s m [.ref ((ad 0) 0)].toArray below meth c s.heap [] 0 0 (MQ below (vp_Si (fun r => r = (f_NC_replyFault S))) [.ref ((ad 0) 0)].toArray s 0 0 (fun _ => False)) (F0 m 37 ls []) := by
        intro n
        induction n with
        | zero =>
          intro z1 ls hE hm h0 hl
          exact absurd hm (Nat.not_lt_zero _)
        | succ n ih =>
          intro z1 ls hE hm h0 hl
          refine lv_iload_n hx hb d_NC_replyFault_37 rfl (lv_at hl 1 rfl) ?_
          refine lv_aload_n hx hb d_NC_replyFault_38 rfl (lv_at hl 0 rfl) ?_
          refine va_get (D := (dC, dI)) (ci := 0) (v := .int ((S 0) 2 0)) (C := R_NC) (T := F_NC) (N := 15) hx hb hts i_NC hown hK hP 0 rfl rfl 2 (by decide) (hts _ m_f_NC_20) (fun _ h9 => h9) rfl d_NC_replyFault_39 ?_
          refine lv_icmp_ge (tgt := 80) hx hb d_NC_replyFault_42 (by decide) (fun c_247 => ?_) (fun c_247 => ?_)
          · refine lv_iconst (v := (-1)) hx hb d_NC_replyFault_80 (by decide) ?_
            exact W.iret (v := (-1)) hx hb hr (fun t ht hW => ⟨(-1), rfl, by rw [hE, f_NC_replyFault_L37, if_pos c_247], ht⟩) (fun _ h => nomatch h) d_NC_replyFault_81
          · refine lv_iload_n hx hb d_NC_replyFault_45 rfl (lv_at hl 1 rfl) ?_
            refine lv_aload_n hx hb d_NC_replyFault_46 rfl (lv_at hl 0 rfl) ?_
            refine va_get (D := (dC, dI)) (ci := 0) (v := .ref ((ad 0) 1)) (C := R_NC) (T := F_NC) (N := 15) hx hb hts i_NC hown hK hP 0 rfl rfl 1 (by decide) (hts _ m_f_NC_16) (fun _ h9 => h9) rfl d_NC_replyFault_47 ?_
            refine va_alen (v := 30) hx hb hK hP 1 0 rfl rfl rfl d_NC_replyFault_50 ?_
            refine lv_icmp_ge (tgt := 80) hx hb d_NC_replyFault_51 (by decide) (fun c_248 => ?_) (fun c_248 => ?_)
            · refine lv_iconst (v := (-1)) hx hb d_NC_replyFault_80 (by decide) ?_
              exact W.iret (v := (-1)) hx hb hr (fun t ht hW => ⟨(-1), rfl, by rw [hE, f_NC_replyFault_L37, if_neg c_247, if_pos c_248], ht⟩) (fun _ h => nomatch h) d_NC_replyFault_81
            · refine lv_iload_n hx hb d_NC_replyFault_54 rfl (lv_at hl 1 rfl) ?_
              refine lv_bipush (v := 6) hx hb d_NC_replyFault_55 (by decide) ?_
              refine lv_icmp_ge (tgt := 72) hx hb d_NC_replyFault_57 (by decide) (fun c_249 => ?_) (fun c_249 => ?_)
              · refine lv_iload_n hx hb d_NC_replyFault_72 rfl (lv_at hl 1 rfl) ?_
                exact W.iret (v := z1) hx hb hr (fun t ht hW => ⟨z1, rfl, by rw [hE, f_NC_replyFault_L37, if_neg c_247, if_neg c_248, if_pos c_249], ht⟩) (fun _ h => nomatch h) d_NC_replyFault_73
              · refine lv_aload_n hx hb d_NC_replyFault_60 rfl (lv_at hl 0 rfl) ?_
                refine va_get (D := (dC, dI)) (ci := 0) (v := .ref ((ad 0) 1)) (C := R_NC) (T := F_NC) (N := 15) hx hb hts i_NC hown hK hP 0 rfl rfl 1 (by decide) (hts _ m_f_NC_16) (fun _ h9 => h9) rfl d_NC_replyFault_61 ?_
                refine lv_iload_n hx hb d_NC_replyFault_64 rfl (lv_at hl 1 rfl) ?_
                refine va_iald (f := ((S 0) 1)) hx hb hK hP 1 0 rfl rfl (by have q0 := nc_nle c_247 rfl rfl; have q1 := nc_nle c_248 (L_30) rfl; have q2 := nc_nle c_249 (L_6) rfl; have q3 := h0; exact vp_in_iff.mpr ⟨by omega, by omega⟩) d_NC_replyFault_65 ?_
                refine nc_ro (va_runS (As := [.int (((S 0) 1) z1.toNatClampNeg)]) (rest := []) hfix (c_NC_isWord l dC dI cA (((S 0) 1) z1.toNatClampNeg)) (k_NC_238 hts hN ⟨Nat.le_of_ble_eq_true rfl, Nat.le_of_ble_eq_true rfl⟩) (nc_preS0 hK hN) rfl rfl hl.1 rfl (lv_room (Nat.le_of_ble_eq_true rfl)) d_NC_replyFault_66 ⟨Nat.zero_le _, Nat.zero_le _⟩) (fun r er => ?_)
                obtain ⟨rfl, hz_250⟩ := er
                refine lv_if_ne (tgt := 74) hx hb d_NC_replyFault_69 (by decide) (fun c_251 => ?_) (fun c_251 => ?_)
                · refine lv_iinc (v := (z1 + 1)) (lv' := [(1, .int (z1 + 1)), (0, .ref ((ad 0) 0))]) hx hb d_NC_replyFault_74 hl (k := 1) rfl rfl (by decide) rfl (fun ls hl => ?_)
                  refine lv_goto (tgt := 37) hx hb d_NC_replyFault_77 (by decide) ?_
                  exact ih (z1 + 1) ls (by rw [hE, f_NC_replyFault_L37, if_neg c_247, if_neg c_248, if_neg c_249, if_neg c_251]) (nc_mu_step c_247 hm) (nc_i_step c_247 h0) (lv_sub hl [1, 0] rfl)
                · refine lv_iload_n hx hb d_NC_replyFault_72 rfl (lv_at hl 1 rfl) ?_
                  exact W.iret (v := z1) hx hb hr (fun t ht hW => ⟨z1, rfl, by rw [hE, f_NC_replyFault_L37, if_neg c_247, if_neg c_248, if_neg c_249, if_pos c_251], ht⟩) (fun _ h => nomatch h) d_NC_replyFault_73
      exact loop_37 (nc_mu ((S 0) 2 0) 0 + 1) 0 ls (by rw [f_NC_replyFault, if_neg c_244, if_pos c_246]) (Nat.lt_succ_self _) (by decide) (lv_sub hl [1, 0] rfl)
    · refine lv_aload_n hx hb d_NC_replyFault_21 rfl (lv_at hl 0 rfl) ?_
      refine va_get (D := (dC, dI)) (ci := 0) (v := .int ((S 0) 2 0)) (C := R_NC) (T := F_NC) (N := 15) hx hb hts i_NC hown hK hP 0 rfl rfl 2 (by decide) (hts _ m_f_NC_20) (fun _ h9 => h9) rfl d_NC_replyFault_22 ?_
      refine lv_iconst (v := 1) hx hb d_NC_replyFault_25 (by decide) ?_
      refine lv_icmp_ne (tgt := 33) hx hb d_NC_replyFault_26 (by decide) (fun c_252 => ?_) (fun c_252 => ?_)
      · refine lv_iconst (v := 1) hx hb d_NC_replyFault_33 (by decide) ?_
        exact W.iret (v := 1) hx hb hr (fun t ht hW => ⟨1, rfl, by rw [f_NC_replyFault, if_neg c_244, if_neg c_246, if_neg c_252], ht⟩) (fun _ h => nomatch h) d_NC_replyFault_34
      · refine lv_iconst (v := (-1)) hx hb d_NC_replyFault_29 (by decide) ?_
        refine lv_goto (tgt := 34) hx hb d_NC_replyFault_30 (by decide) ?_
        exact W.iret (v := (-1)) hx hb hr (fun t ht hW => ⟨(-1), rfl, by rw [f_NC_replyFault, if_neg c_244, if_neg c_246, if_pos c_252], ht⟩) (fun _ h => nomatch h) d_NC_replyFault_34
  · refine lv_iconst (v := 0) hx hb d_NC_replyFault_7 (by decide) ?_
    exact W.iret (v := 0) hx hb hr (fun t ht hW => ⟨0, rfl, by rw [f_NC_replyFault, if_pos c_244], ht⟩) (fun _ h => nomatch h) d_NC_replyFault_8
def f_NC_leftByRow_L70 (S : Nat → Nat → Nat → Int32) (y1 : Int32) : Nat → Int32 → Int32 → Int32
  | 0, z3, z2 => 0
  | n + 1, z3, z2 => (if ((S 1) 7 0) ≤ z3 then z2 else (if (f_NC_holds ((S 0) 10 0) z3) = 0 then (f_NC_leftByRow_L70 S y1 n (z3 + 1) z2) else (if (f_Things_hasWords (S 1) z3 y1) = 0 then (f_NC_leftByRow_L70 S y1 n (z3 + 1) z2) else (f_NC_leftByRow_L70 S y1 n (z3 + 1) (z2 ||| ((1 : Int32) <<< (z3 &&& 31)))))))
def f_NC_leftByRow_L32 (S : Nat → Nat → Nat → Int32) : Nat → Int32 → Int32 → Int32
  | 0, z2, z1 => 0
  | n + 1, z2, z1 => (if ((S 0) 2 0) ≤ z2 then (f_NC_leftByRow_L70 S z1 (nc_mu ((S 1) 7 0) 0 + 1) 0 0) else (if 30 ≤ z2 then (f_NC_leftByRow_L70 S z1 (nc_mu ((S 1) 7 0) 0 + 1) 0 0) else (f_NC_leftByRow_L32 S n (z2 + 1) (z1 ||| ((1 : Int32) <<< ((((S 0) 1) z2.toNatClampNeg) &&& 31))))))
def f_NC_leftByRow (S : Nat → Nat → Nat → Int32) : Int32 := (if (f_NC_isNumber (((S 0) 1) (0 : Int32).toNatClampNeg)) = 0 then (f_NC_leftByRow_L32 S (nc_mu ((S 0) 2 0) 0 + 1) 0 0) else (f_NC_groupAt S (((((S 0) 1) (0 : Int32).toNatClampNeg) - 40) - 1)))
abbrev ws_NC_leftByRow : List Cond := .code y_NC_leftByRow b_NC_leftByRow 4 (some .int) :: lw_G
abbrev rm_NC_leftByRow : Room := { frames := 4, cells := 0, slots := 0, locals := 93 }
set_option maxHeartbeats 4000000 in
set_option maxRecDepth 100000 in
theorem c_NC_leftByRow (l : Launch) (dC : Nat → ClassId) (dI : Nat → Nat → Nat) (cA : ClassId) (ad : Nat → Nat → Nat) (S : Nat → Nat → Nat → Int32) : Met l y_NC_leftByRow ws_NC_leftByRow rm_NC_leftByRow (nc_Pre (dC, dI) cA [.ref ((ad 0) 0)] (w_NC cA ad S)) (vp_Si (fun r => r = (f_NC_leftByRow S))) 0 0 (fun _ => False) := by
  refine Met.ofW (cc := b_NC_leftByRow) (maxL := 4) (ret := (some .int)) (by decide) rfl ?_
  intro p e s m args below meth c s₁ B hml hv
  obtain ⟨rfl, hP, hK, hD, hN⟩ := hv
  have hx := B.exec
  have hb := B.bytes
  have hr := B.returns
  have hts : ∀ w ∈ lw_G, w.before [.ref ((ad 0) 0)].toArray s = true := fun w h => atoms_spec (ws := ws_NC_leftByRow) B.pre w (List.mem_cons_of_mem _ h)
  have hown : s.vm.findClass R_NC = some m.cls := findClass_of_methodNamed B.named
  have hlocks := B.notSynchronized
  have hfix : CallFix p m c b_NC_leftByRow 4 s [.ref ((ad 0) 0)].toArray lw_G R_NC := ⟨hx, hb, hml, hown, hts⟩
  have hl := lv_entry ([.ref ((ad 0) 0)]) (n := 4) (Nat.le_of_ble_eq_true rfl)
  rw [lg_entry_eq]
  generalize (lg_sl ([.ref ((ad 0) 0)]) ++ List.replicate (4 - (lg_sl ([.ref ((ad 0) 0)])).length) Slot.unset).toArray = ls at hl ⊢
  have hl : lv_has ls 4 [(0, .ref ((ad 0) 0))] := hl
  refine lv_aload_n hx hb d_NC_leftByRow_0 rfl (lv_at hl 0 rfl) ?_
  refine va_get (D := (dC, dI)) (ci := 0) (v := .ref ((ad 0) 1)) (C := R_NC) (T := F_NC) (N := 15) hx hb hts i_NC hown hK hP 0 rfl rfl 1 (by decide) (hts _ m_f_NC_16) (fun _ h9 => h9) rfl d_NC_leftByRow_1 ?_
  refine lv_iconst (v := 0) hx hb d_NC_leftByRow_4 (by decide) ?_
  refine va_iald (f := ((S 0) 1)) hx hb hK hP 1 0 rfl rfl (by unfold vp_in; decide) d_NC_leftByRow_5 ?_
  refine nc_ro (va_runS (As := [.int (((S 0) 1) (0 : Int32).toNatClampNeg)]) (rest := []) hfix (c_NC_isNumber l dC dI cA (((S 0) 1) (0 : Int32).toNatClampNeg)) (k_NC_177 hts hN ⟨Nat.le_of_ble_eq_true rfl, Nat.le_of_ble_eq_true rfl⟩) (nc_preS0 hK hN) rfl rfl hl.1 rfl (lv_room (Nat.le_of_ble_eq_true rfl)) d_NC_leftByRow_6 ⟨Nat.zero_le _, Nat.zero_le _⟩) (fun r er => ?_)
  obtain ⟨rfl, hz_253⟩ := er
  refine lv_if_eq (tgt := 28) hx hb d_NC_leftByRow_9 (by decide) (fun c_254 => ?_) (fun c_254 => ?_)
  · refine lv_iconst (v := 0) hx hb d_NC_leftByRow_28 (by decide) ?_
    refine lv_istore_n (lv' := [(1, .int 0), (0, .ref ((ad 0) 0))]) hx hb d_NC_leftByRow_29 rfl hl (by decide) rfl (fun ls hl => ?_)
    refine lv_iconst (v := 0) hx hb d_NC_leftByRow_30 (by decide) ?_
    refine lv_istore_n (lv' := [(2, .int 0), (1, .int 0), (0, .ref ((ad 0) 0))]) hx hb d_NC_leftByRow_31 rfl hl (by decide) rfl (fun ls hl => ?_)
    have loop_32 : ∀ (n : Nat) (z2 z1 : Int32) (ls : Array Slot), (f_NC_leftByRow S) = (f_NC_leftByRow_L32 S n z2 z1) → nc_mu ((S 0) 2 0) z2 < n → 0 ≤ z2.toInt → lv_has ls 4 [(0, .ref ((ad 0) 0)), (2, .int z2), (1, .int z1)] → W p l e (headSpec ws_NC_leftByRow rm_NC_leftByRow).room s m [.ref ((ad 0) 0)].toArray below meth c s.heap [] 0 0 (MQ below (vp_Si (fun r => r = (f_NC_leftByRow S))) [.ref ((ad 0) 0)].toArray s 0 0 (fun _ => False)) (F0 m 32 ls []) := by
      intro n
      induction n with
      | zero =>
        intro z2 z1 ls hE hm h0 hl
        exact absurd hm (Nat.not_lt_zero _)
      | succ n ih =>
        intro z2 z1 ls hE hm h0 hl
        refine lv_iload_n hx hb d_NC_leftByRow_32 rfl (lv_at hl 1 rfl) ?_
        refine lv_aload_n hx hb d_NC_leftByRow_33 rfl (lv_at hl 0 rfl) ?_
        refine va_get (D := (dC, dI)) (ci := 0) (v := .int ((S 0) 2 0)) (C := R_NC) (T := F_NC) (N := 15) hx hb hts i_NC hown hK hP 0 rfl rfl 2 (by decide) (hts _ m_f_NC_20) (fun _ h9 => h9) rfl d_NC_leftByRow_34 ?_
        refine lv_icmp_ge (tgt := 66) hx hb d_NC_leftByRow_37 (by decide) (fun c_255 => ?_) (fun c_255 => ?_)
        · refine lv_iconst (v := 0) hx hb d_NC_leftByRow_66 (by decide) ?_
          refine lv_istore_n (lv' := [(2, .int 0), (0, .ref ((ad 0) 0)), (1, .int z1)]) hx hb d_NC_leftByRow_67 rfl hl (by decide) rfl (fun ls hl => ?_)
          refine lv_iconst (v := 0) hx hb d_NC_leftByRow_68 (by decide) ?_
          refine lv_istore_n (lv' := [(3, .int 0), (2, .int 0), (0, .ref ((ad 0) 0)), (1, .int z1)]) hx hb d_NC_leftByRow_69 rfl hl (by decide) rfl (fun ls hl => ?_)
          have loop_70 : ∀ (n : Nat) (z3 z2 : Int32) (ls : Array Slot), (f_NC_leftByRow S) = (f_NC_leftByRow_L70 S z1 n z3 z2) → nc_mu ((S 1) 7 0) z3 < n → 0 ≤ z3.toInt → lv_has ls 4 [(0, .ref ((ad 0) 0)), (1, .int z1), (3, .int z3), (2, .int z2)] → W p l e (headSpec ws_NC_leftByRow rm_NC_leftByRow).room s m [.ref ((ad 0) 0)].toArray below meth c s.heap [] 0 0 (MQ below (vp_Si (fun r => r = (f_NC_leftByRow S))) [.ref ((ad 0) 0)].toArray s 0 0 (fun _ => False)) (F0 m 70 ls []) := by
            intro n
            induction n with
            | zero =>
              intro z3 z2 ls hE hm h0 hl
              exact absurd hm (Nat.not_lt_zero _)
            | succ n ih =>
              intro z3 z2 ls hE hm h0 hl
              refine lv_iload_n hx hb d_NC_leftByRow_70 rfl (lv_at hl 2 rfl) ?_
              refine lv_aload_n hx hb d_NC_leftByRow_71 rfl (lv_at hl 0 rfl) ?_
              refine va_get (D := (dC, dI)) (ci := 0) (v := .ref ((ad 1) 0)) (C := R_NC) (T := F_NC) (N := 15) hx hb hts i_NC hown hK hP 0 rfl rfl 0 (by decide) (hts _ m_f_NC_10) (fun _ h9 => h9) rfl d_NC_leftByRow_72 ?_
              refine va_getN (D := (dC, dI)) (ci := 1) (v := .int ((S 1) 7 0)) (C := R_Things) (T := F_Things) (N := 8) hx hb hts i_Things hown hK hP 3 rfl rfl 7 (by decide) (va_Nw.use rfl (hN _ m_f_NC_165)) (fun _ h9 => h9) rfl d_NC_leftByRow_75 ?_
              refine lv_icmp_ge (tgt := 116) hx hb d_NC_leftByRow_78 (by decide) (fun c_256 => ?_) (fun c_256 => ?_)
              · refine lv_iload_n hx hb d_NC_leftByRow_116 rfl (lv_at hl 3 rfl) ?_
                exact W.iret (v := z2) hx hb hr (fun t ht hW => ⟨z2, rfl, by rw [hE, f_NC_leftByRow_L70, if_pos c_256], ht⟩) (fun _ h => nomatch h) d_NC_leftByRow_117
              · refine lv_aload_n hx hb d_NC_leftByRow_81 rfl (lv_at hl 0 rfl) ?_
                refine va_get (D := (dC, dI)) (ci := 0) (v := .int ((S 0) 10 0)) (C := R_NC) (T := F_NC) (N := 15) hx hb hts i_NC hown hK hP 0 rfl rfl 10 (by decide) (hts _ m_f_NC_53) (fun _ h9 => h9) rfl d_NC_leftByRow_82 ?_
                refine lv_iload_n hx hb d_NC_leftByRow_85 rfl (lv_at hl 2 rfl) ?_
                refine nc_ro (va_runS (As := [.int ((S 0) 10 0), .int z3]) (rest := []) hfix (c_NC_holds l dC dI cA ((S 0) 10 0) z3) (k_NC_126 hts hN ⟨Nat.le_of_ble_eq_true rfl, Nat.le_of_ble_eq_true rfl⟩) (nc_preS0 hK hN) rfl rfl hl.1 rfl (lv_room (Nat.le_of_ble_eq_true rfl)) d_NC_leftByRow_86 ⟨Nat.zero_le _, Nat.zero_le _⟩) (fun r er => ?_)
                obtain ⟨rfl, hz_257⟩ := er
                refine lv_if_eq (tgt := 110) hx hb d_NC_leftByRow_89 (by decide) (fun c_258 => ?_) (fun c_258 => ?_)
                · refine lv_iinc (v := (z3 + 1)) (lv' := [(3, .int (z3 + 1)), (0, .ref ((ad 0) 0)), (1, .int z1), (2, .int z2)]) hx hb d_NC_leftByRow_110 hl (k := 2) rfl rfl (by decide) rfl (fun ls hl => ?_)
                  refine lv_goto (tgt := 70) hx hb d_NC_leftByRow_113 (by decide) ?_
                  exact ih (z3 + 1) z2 ls (by rw [hE, f_NC_leftByRow_L70, if_neg c_256, if_pos c_258]) (nc_mu_step c_256 hm) (nc_i_step c_256 h0) (lv_sub hl [1, 2, 0, 3] rfl)
                · refine lv_aload_n hx hb d_NC_leftByRow_92 rfl (lv_at hl 0 rfl) ?_
                  refine va_get (D := (dC, dI)) (ci := 0) (v := .ref ((ad 1) 0)) (C := R_NC) (T := F_NC) (N := 15) hx hb hts i_NC hown hK hP 0 rfl rfl 0 (by decide) (hts _ m_f_NC_10) (fun _ h9 => h9) rfl d_NC_leftByRow_93 ?_
                  refine lv_iload_n hx hb d_NC_leftByRow_96 rfl (lv_at hl 2 rfl) ?_
                  refine lv_iload_n hx hb d_NC_leftByRow_97 rfl (lv_at hl 1 rfl) ?_
                  have hP_w_259 := hP.sub (ws' := (w_Things cA (ad 1) (S 1))) [3, 4, 5, 6, 7, 8, 9, 10] rfl
                  have hD_w_259 := hD.sub (ws' := (w_Things cA (ad 1) (S 1))) [3, 4, 5, 6, 7, 8, 9, 10] (by decide) rfl
                  refine nc_ro (va_runV (As := [.int z3, .int z1]) (rest := []) hfix (c_Things_hasWords l dC dI cA (ad 1) (S 1) z3 z1) (k_NC_241 hts hN ⟨Nat.le_of_ble_eq_true rfl, Nat.le_of_ble_eq_true rfl⟩) (nc_preV hK hN hP_w_259 hD_w_259 rfl rfl) rfl rfl hl.1 rfl (lv_room (Nat.le_of_ble_eq_true rfl)) d_NC_leftByRow_98 ⟨Nat.zero_le _, Nat.zero_le _⟩) (fun r er => ?_)
                  obtain ⟨rfl, hz_260⟩ := er
                  refine lv_if_eq (tgt := 110) hx hb d_NC_leftByRow_101 (by decide) (fun c_261 => ?_) (fun c_261 => ?_)
                  · refine lv_iinc (v := (z3 + 1)) (lv' := [(3, .int (z3 + 1)), (0, .ref ((ad 0) 0)), (1, .int z1), (2, .int z2)]) hx hb d_NC_leftByRow_110 hl (k := 2) rfl rfl (by decide) rfl (fun ls hl => ?_)
                    refine lv_goto (tgt := 70) hx hb d_NC_leftByRow_113 (by decide) ?_
                    exact ih (z3 + 1) z2 ls (by rw [hE, f_NC_leftByRow_L70, if_neg c_256, if_neg c_258, if_pos c_261]) (nc_mu_step c_256 hm) (nc_i_step c_256 h0) (lv_sub hl [1, 2, 0, 3] rfl)
                  · refine lv_iload_n hx hb d_NC_leftByRow_104 rfl (lv_at hl 3 rfl) ?_
                    refine lv_iconst (v := 1) hx hb d_NC_leftByRow_105 (by decide) ?_
                    refine lv_iload_n hx hb d_NC_leftByRow_106 rfl (lv_at hl 2 rfl) ?_
                    refine lv_ishl hx hb d_NC_leftByRow_107 ?_
                    refine lv_ior hx hb d_NC_leftByRow_108 ?_
                    refine lv_istore_n (lv' := [(2, .int (z2 ||| ((1 : Int32) <<< (z3 &&& 31)))), (0, .ref ((ad 0) 0)), (1, .int z1), (3, .int z3)]) hx hb d_NC_leftByRow_109 rfl hl (by decide) rfl (fun ls hl => ?_)
                    refine lv_iinc (v := (z3 + 1)) (lv' := [(3, .int (z3 + 1)), (2, .int (z2 ||| ((1 : Int32) <<< (z3 &&& 31)))), (0, .ref ((ad 0) 0)), (1, .int z1)]) hx hb d_NC_leftByRow_110 hl (k := 3) rfl rfl (by decide) rfl (fun ls hl => ?_)
                    refine lv_goto (tgt := 70) hx hb d_NC_leftByRow_113 (by decide) ?_
                    exact ih (z3 + 1) (z2 ||| ((1 : Int32) <<< (z3 &&& 31))) ls (by rw [hE, f_NC_leftByRow_L70, if_neg c_256, if_neg c_258, if_neg c_261]) (nc_mu_step c_256 hm) (nc_i_step c_256 h0) (lv_sub hl [2, 3, 0, 1] rfl)
          exact loop_70 (nc_mu ((S 1) 7 0) 0 + 1) 0 0 ls (by rw [hE, f_NC_leftByRow_L32, if_pos c_255]) (Nat.lt_succ_self _) (by decide) (lv_sub hl [2, 3, 0, 1] rfl)
        · refine lv_iload_n hx hb d_NC_leftByRow_40 rfl (lv_at hl 1 rfl) ?_
          refine lv_aload_n hx hb d_NC_leftByRow_41 rfl (lv_at hl 0 rfl) ?_
          refine va_get (D := (dC, dI)) (ci := 0) (v := .ref ((ad 0) 1)) (C := R_NC) (T := F_NC) (N := 15) hx hb hts i_NC hown hK hP 0 rfl rfl 1 (by decide) (hts _ m_f_NC_16) (fun _ h9 => h9) rfl d_NC_leftByRow_42 ?_
          refine va_alen (v := 30) hx hb hK hP 1 0 rfl rfl rfl d_NC_leftByRow_45 ?_
          refine lv_icmp_ge (tgt := 66) hx hb d_NC_leftByRow_46 (by decide) (fun c_262 => ?_) (fun c_262 => ?_)
          · refine lv_iconst (v := 0) hx hb d_NC_leftByRow_66 (by decide) ?_
            refine lv_istore_n (lv' := [(2, .int 0), (0, .ref ((ad 0) 0)), (1, .int z1)]) hx hb d_NC_leftByRow_67 rfl hl (by decide) rfl (fun ls hl => ?_)
            refine lv_iconst (v := 0) hx hb d_NC_leftByRow_68 (by decide) ?_
            refine lv_istore_n (lv' := [(3, .int 0), (2, .int 0), (0, .ref ((ad 0) 0)), (1, .int z1)]) hx hb d_NC_leftByRow_69 rfl hl (by decide) rfl (fun ls hl => ?_)
            have loop_70 : ∀ (n : Nat) (z3 z2 : Int32) (ls : Array Slot), (f_NC_leftByRow S) = (f_NC_leftByRow_L70 S z1 n z3 z2) → nc_mu ((S 1) 7 0) z3 < n → 0 ≤ z3.toInt → lv_has ls 4 [(0, .ref ((ad 0) 0)), (1, .int z1), (3, .int z3), (2, .int z2)] → W p l e (headSpec ws_NC_leftByRow rm_NC_leftByRow).room s m [.ref ((ad 0) 0)].toArray below meth c s.heap [] 0 0 (MQ below (vp_Si (fun r => r = (f_NC_leftByRow S))) [.ref ((ad 0) 0)].toArray s 0 0 (fun _ => False)) (F0 m 70 ls []) := by
              intro n
              induction n with
              | zero =>
                intro z3 z2 ls hE hm h0 hl
                exact absurd hm (Nat.not_lt_zero _)
              | succ n ih =>
                intro z3 z2 ls hE hm h0 hl
                refine lv_iload_n hx hb d_NC_leftByRow_70 rfl (lv_at hl 2 rfl) ?_
                refine lv_aload_n hx hb d_NC_leftByRow_71 rfl (lv_at hl 0 rfl) ?_
                refine va_get (D := (dC, dI)) (ci := 0) (v := .ref ((ad 1) 0)) (C := R_NC) (T := F_NC) (N := 15) hx hb hts i_NC hown hK hP 0 rfl rfl 0 (by decide) (hts _ m_f_NC_10) (fun _ h9 => h9) rfl d_NC_leftByRow_72 ?_
                refine va_getN (D := (dC, dI)) (ci := 1) (v := .int ((S 1) 7 0)) (C := R_Things) (T := F_Things) (N := 8) hx hb hts i_Things hown hK hP 3 rfl rfl 7 (by decide) (va_Nw.use rfl (hN _ m_f_NC_165)) (fun _ h9 => h9) rfl d_NC_leftByRow_75 ?_
                refine lv_icmp_ge (tgt := 116) hx hb d_NC_leftByRow_78 (by decide) (fun c_263 => ?_) (fun c_263 => ?_)
                · refine lv_iload_n hx hb d_NC_leftByRow_116 rfl (lv_at hl 3 rfl) ?_
                  exact W.iret (v := z2) hx hb hr (fun t ht hW => ⟨z2, rfl, by rw [hE, f_NC_leftByRow_L70, if_pos c_263], ht⟩) (fun _ h => nomatch h) d_NC_leftByRow_117
                · refine lv_aload_n hx hb d_NC_leftByRow_81 rfl (lv_at hl 0 rfl) ?_
                  refine va_get (D := (dC, dI)) (ci := 0) (v := .int ((S 0) 10 0)) (C := R_NC) (T := F_NC) (N := 15) hx hb hts i_NC hown hK hP 0 rfl rfl 10 (by decide) (hts _ m_f_NC_53) (fun _ h9 => h9) rfl d_NC_leftByRow_82 ?_
                  refine lv_iload_n hx hb d_NC_leftByRow_85 rfl (lv_at hl 2 rfl) ?_
                  refine nc_ro (va_runS (As := [.int ((S 0) 10 0), .int z3]) (rest := []) hfix (c_NC_holds l dC dI cA ((S 0) 10 0) z3) (k_NC_126 hts hN ⟨Nat.le_of_ble_eq_true rfl, Nat.le_of_ble_eq_true rfl⟩) (nc_preS0 hK hN) rfl rfl hl.1 rfl (lv_room (Nat.le_of_ble_eq_true rfl)) d_NC_leftByRow_86 ⟨Nat.zero_le _, Nat.zero_le _⟩) (fun r er => ?_)
                  obtain ⟨rfl, hz_264⟩ := er
                  refine lv_if_eq (tgt := 110) hx hb d_NC_leftByRow_89 (by decide) (fun c_265 => ?_) (fun c_265 => ?_)
                  · refine lv_iinc (v := (z3 + 1)) (lv' := [(3, .int (z3 + 1)), (0, .ref ((ad 0) 0)), (1, .int z1), (2, .int z2)]) hx hb d_NC_leftByRow_110 hl (k := 2) rfl rfl (by decide) rfl (fun ls hl => ?_)
                    refine lv_goto (tgt := 70) hx hb d_NC_leftByRow_113 (by decide) ?_
                    exact ih (z3 + 1) z2 ls (by rw [hE, f_NC_leftByRow_L70, if_neg c_263, if_pos c_265]) (nc_mu_step c_263 hm) (nc_i_step c_263 h0) (lv_sub hl [1, 2, 0, 3] rfl)
                  · refine lv_aload_n hx hb d_NC_leftByRow_92 rfl (lv_at hl 0 rfl) ?_
                    refine va_get (D := (dC, dI)) (ci := 0) (v := .ref ((ad 1) 0)) (C := R_NC) (T := F_NC) (N := 15) hx hb hts i_NC hown hK hP 0 rfl rfl 0 (by decide) (hts _ m_f_NC_10) (fun _ h9 => h9) rfl d_NC_leftByRow_93 ?_
                    refine lv_iload_n hx hb d_NC_leftByRow_96 rfl (lv_at hl 2 rfl) ?_
                    refine lv_iload_n hx hb d_NC_leftByRow_97 rfl (lv_at hl 1 rfl) ?_
                    have hP_w_266 := hP.sub (ws' := (w_Things cA (ad 1) (S 1))) [3, 4, 5, 6, 7, 8, 9, 10] rfl
                    have hD_w_266 := hD.sub (ws' := (w_Things cA (ad 1) (S 1))) [3, 4, 5, 6, 7, 8, 9, 10] (by decide) rfl
                    refine nc_ro (va_runV (As := [.int z3, .int z1]) (rest := []) hfix (c_Things_hasWords l dC dI cA (ad 1) (S 1) z3 z1) (k_NC_241 hts hN ⟨Nat.le_of_ble_eq_true rfl, Nat.le_of_ble_eq_true rfl⟩) (nc_preV hK hN hP_w_266 hD_w_266 rfl rfl) rfl rfl hl.1 rfl (lv_room (Nat.le_of_ble_eq_true rfl)) d_NC_leftByRow_98 ⟨Nat.zero_le _, Nat.zero_le _⟩) (fun r er => ?_)
                    obtain ⟨rfl, hz_267⟩ := er
                    refine lv_if_eq (tgt := 110) hx hb d_NC_leftByRow_101 (by decide) (fun c_268 => ?_) (fun c_268 => ?_)
                    · refine lv_iinc (v := (z3 + 1)) (lv' := [(3, .int (z3 + 1)), (0, .ref ((ad 0) 0)), (1, .int z1), (2, .int z2)]) hx hb d_NC_leftByRow_110 hl (k := 2) rfl rfl (by decide) rfl (fun ls hl => ?_)
                      refine lv_goto (tgt := 70) hx hb d_NC_leftByRow_113 (by decide) ?_
                      exact ih (z3 + 1) z2 ls (by rw [hE, f_NC_leftByRow_L70, if_neg c_263, if_neg c_265, if_pos c_268]) (nc_mu_step c_263 hm) (nc_i_step c_263 h0) (lv_sub hl [1, 2, 0, 3] rfl)
                    · refine lv_iload_n hx hb d_NC_leftByRow_104 rfl (lv_at hl 3 rfl) ?_
                      refine lv_iconst (v := 1) hx hb d_NC_leftByRow_105 (by decide) ?_
                      refine lv_iload_n hx hb d_NC_leftByRow_106 rfl (lv_at hl 2 rfl) ?_
                      refine lv_ishl hx hb d_NC_leftByRow_107 ?_
                      refine lv_ior hx hb d_NC_leftByRow_108 ?_
                      refine lv_istore_n (lv' := [(2, .int (z2 ||| ((1 : Int32) <<< (z3 &&& 31)))), (0, .ref ((ad 0) 0)), (1, .int z1), (3, .int z3)]) hx hb d_NC_leftByRow_109 rfl hl (by decide) rfl (fun ls hl => ?_)
                      refine lv_iinc (v := (z3 + 1)) (lv' := [(3, .int (z3 + 1)), (2, .int (z2 ||| ((1 : Int32) <<< (z3 &&& 31)))), (0, .ref ((ad 0) 0)), (1, .int z1)]) hx hb d_NC_leftByRow_110 hl (k := 3) rfl rfl (by decide) rfl (fun ls hl => ?_)
                      refine lv_goto (tgt := 70) hx hb d_NC_leftByRow_113 (by decide) ?_
                      exact ih (z3 + 1) (z2 ||| ((1 : Int32) <<< (z3 &&& 31))) ls (by rw [hE, f_NC_leftByRow_L70, if_neg c_263, if_neg c_265, if_neg c_268]) (nc_mu_step c_263 hm) (nc_i_step c_263 h0) (lv_sub hl [2, 3, 0, 1] rfl)
            exact loop_70 (nc_mu ((S 1) 7 0) 0 + 1) 0 0 ls (by rw [hE, f_NC_leftByRow_L32, if_neg c_255, if_pos c_262]) (Nat.lt_succ_self _) (by decide) (lv_sub hl [2, 3, 0, 1] rfl)
          · refine lv_iload_n hx hb d_NC_leftByRow_49 rfl (lv_at hl 2 rfl) ?_
            refine lv_iconst (v := 1) hx hb d_NC_leftByRow_50 (by decide) ?_
            refine lv_aload_n hx hb d_NC_leftByRow_51 rfl (lv_at hl 0 rfl) ?_
            refine va_get (D := (dC, dI)) (ci := 0) (v := .ref ((ad 0) 1)) (C := R_NC) (T := F_NC) (N := 15) hx hb hts i_NC hown hK hP 0 rfl rfl 1 (by decide) (hts _ m_f_NC_16) (fun _ h9 => h9) rfl d_NC_leftByRow_52 ?_
            refine lv_iload_n hx hb d_NC_leftByRow_55 rfl (lv_at hl 1 rfl) ?_
            refine va_iald (f := ((S 0) 1)) hx hb hK hP 1 0 rfl rfl (by have q0 := nc_nle c_255 rfl rfl; have q1 := nc_nle c_262 (L_30) rfl; have q2 := h0; exact vp_in_iff.mpr ⟨by omega, by omega⟩) d_NC_leftByRow_56 ?_
            refine lv_ishl hx hb d_NC_leftByRow_57 ?_
            refine lv_ior hx hb d_NC_leftByRow_58 ?_
            refine lv_istore_n (lv' := [(1, .int (z1 ||| ((1 : Int32) <<< ((((S 0) 1) z2.toNatClampNeg) &&& 31)))), (0, .ref ((ad 0) 0)), (2, .int z2)]) hx hb d_NC_leftByRow_59 rfl hl (by decide) rfl (fun ls hl => ?_)
            refine lv_iinc (v := (z2 + 1)) (lv' := [(2, .int (z2 + 1)), (1, .int (z1 ||| ((1 : Int32) <<< ((((S 0) 1) z2.toNatClampNeg) &&& 31)))), (0, .ref ((ad 0) 0))]) hx hb d_NC_leftByRow_60 hl (k := 2) rfl rfl (by decide) rfl (fun ls hl => ?_)
            refine lv_goto (tgt := 32) hx hb d_NC_leftByRow_63 (by decide) ?_
            exact ih (z2 + 1) (z1 ||| ((1 : Int32) <<< ((((S 0) 1) z2.toNatClampNeg) &&& 31))) ls (by rw [hE, f_NC_leftByRow_L32, if_neg c_255, if_neg c_262]) (nc_mu_step c_255 hm) (nc_i_step c_255 h0) (lv_sub hl [2, 0, 1] rfl)
    exact loop_32 (nc_mu ((S 0) 2 0) 0 + 1) 0 0 ls (by rw [f_NC_leftByRow, if_pos c_254]) (Nat.lt_succ_self _) (by decide) (lv_sub hl [2, 0, 1] rfl)
  · refine lv_aload_n hx hb d_NC_leftByRow_12 rfl (lv_at hl 0 rfl) ?_
    refine lv_aload_n hx hb d_NC_leftByRow_13 rfl (lv_at hl 0 rfl) ?_
    refine va_get (D := (dC, dI)) (ci := 0) (v := .ref ((ad 0) 1)) (C := R_NC) (T := F_NC) (N := 15) hx hb hts i_NC hown hK hP 0 rfl rfl 1 (by decide) (hts _ m_f_NC_16) (fun _ h9 => h9) rfl d_NC_leftByRow_14 ?_
    refine lv_iconst (v := 0) hx hb d_NC_leftByRow_17 (by decide) ?_
    refine va_iald (f := ((S 0) 1)) hx hb hK hP 1 0 rfl rfl (by unfold vp_in; decide) d_NC_leftByRow_18 ?_
    refine lv_bipush (v := 40) hx hb d_NC_leftByRow_19 (by decide) ?_
    refine lv_isub hx hb d_NC_leftByRow_21 ?_
    refine lv_iconst (v := 1) hx hb d_NC_leftByRow_22 (by decide) ?_
    refine lv_isub hx hb d_NC_leftByRow_23 ?_
    refine nc_ro (va_runV (As := [.int (((((S 0) 1) (0 : Int32).toNatClampNeg) - 40) - 1)]) (rest := []) hfix (c_NC_groupAt l dC dI cA ad S (((((S 0) 1) (0 : Int32).toNatClampNeg) - 40) - 1)) (k_NC_159 hts hN ⟨Nat.le_of_ble_eq_true rfl, Nat.le_of_ble_eq_true rfl⟩) (nc_preV hK hN hP hD rfl rfl) rfl rfl hl.1 rfl (lv_room (Nat.le_of_ble_eq_true rfl)) d_NC_leftByRow_24 ⟨Nat.zero_le _, Nat.zero_le _⟩) (fun r er => ?_)
    subst er
    exact W.iret (v := (f_NC_groupAt S (((((S 0) 1) (0 : Int32).toNatClampNeg) - 40) - 1))) hx hb hr (fun t ht hW => ⟨(f_NC_groupAt S (((((S 0) 1) (0 : Int32).toNatClampNeg) - 40) - 1)), rfl, by rw [f_NC_leftByRow, if_neg c_254], ht⟩) (fun _ h => nomatch h) d_NC_leftByRow_27
