def f_Picks_clear (K : Nat → Nat → Int32) : (Nat → Nat → Int32) := (upf (upf K 1 (fun _ => 0)) 2 (fun _ => 0))
abbrev ws_Picks_clear : List Cond := .code y_Picks_clear b_Picks_clear 1 none :: lw_G
abbrev rm_Picks_clear : Room := { frames := 0, cells := 0, slots := 0, locals := 0 }
set_option maxHeartbeats 4000000 in
set_option maxRecDepth 100000 in
theorem c_Picks_clear (l : Launch) (dC : Nat → ClassId) (dI : Nat → Nat → Nat) (cA : ClassId) (sz : Nat) (a : Nat → Nat) (K : Nat → Nat → Int32) : Met l y_Picks_clear ws_Picks_clear rm_Picks_clear (nc_PreM (dC, dI) cA sz [.ref (a 0)] (w_Picks cA a K)) (va_Qv (fun _ : Unit => True) (fun _ t => va_P (dC, dI) classes (w_Picks cA a (f_Picks_clear K)) t.heap ∧ va_D (va_A (w_Picks cA a K) sz) (w_Picks cA a (f_Picks_clear K))) (va_A (w_Picks cA a K) sz)) 0 0 (va_A (w_Picks cA a K) sz) := by
  refine Met.ofW (cc := b_Picks_clear) (maxL := 1) (ret := none) (by decide) rfl ?_
  intro p e s m args below meth c s₁ B hml hv
  obtain ⟨rfl, hsz, hP, hK, hD0, hN⟩ := hv
  have hx := B.exec
  have hb := B.bytes
  have hr := B.returns
  have hts : ∀ w ∈ lw_G, w.before [.ref (a 0)].toArray s = true := fun w h => atoms_spec (ws := ws_Picks_clear) B.pre w (List.mem_cons_of_mem _ h)
  have hown : s.vm.findClass R_Picks = some m.cls := findClass_of_methodNamed B.named
  have hlocks := B.notSynchronized
  have hfix : CallFix p m c b_Picks_clear 1 s [.ref (a 0)].toArray lw_G R_Picks := ⟨hx, hb, hml, hown, hts⟩
  subst hsz
  have hD := hD0.self (sz := s.heap.size)
  generalize hAe : va_A (w_Picks cA a K) s.heap.size = A at hD ⊢
  have hA : ∀ q : Nat, s.heap.size ≤ q → A q := fun q h => by rw [← hAe]; exact Or.inr h
  have hS : va_S A s.heap s.heap [] := va_S.rf
  have hl := lv_entry ([.ref (a 0)]) (n := 1) (Nat.le_of_ble_eq_true rfl)
  rw [lg_entry_eq]
  generalize (lg_sl ([.ref (a 0)]) ++ List.replicate (1 - (lg_sl ([.ref (a 0)])).length) Slot.unset).toArray = ls at hl ⊢
  have hl : lv_has ls 1 [(0, .ref (a 0))] := hl
  refine lv_aload_n hx hb d_Picks_clear_0 rfl (lv_at hl 0 rfl) ?_
  refine lv_iconst (v := 0) hx hb d_Picks_clear_1 (by decide) ?_
  refine va_put (D := (dC, dI)) (ci := 3) (v := .int 0) (ty := .int) (C := R_Picks) (T := F_Picks) (N := 3) hx hb hts i_Picks t_Picks t_Picks_ok n_Picks hown hK hP hD hS 0 rfl rfl 1 (by decide) (hts _ m_f_Picks_15) (fun _ h9 => h9) rfl (by decide +kernel) rfl rfl (Nat.le_of_ble_eq_true rfl) d_Picks_clear_2 (fun H locs hP hD hS => ?_)
  have hP : va_P (dC, dI) classes (w_Picks cA a (upf K 1 (fun _ => 0))) H := hP
  have hD : va_D A (w_Picks cA a (upf K 1 (fun _ => 0))) := hD
  refine lv_aload_n hx hb d_Picks_clear_5 rfl (lv_at hl 0 rfl) ?_
  refine lv_iconst (v := 0) hx hb d_Picks_clear_6 (by decide) ?_
  refine va_put (D := (dC, dI)) (ci := 3) (v := .int 0) (ty := .int) (C := R_Picks) (T := F_Picks) (N := 3) hx hb hts i_Picks t_Picks t_Picks_ok n_Picks hown hK hP hD hS 0 rfl rfl 2 (by decide) (hts _ m_f_Picks_19) (fun _ h9 => h9) rfl (by decide +kernel) rfl rfl (Nat.le_of_ble_eq_true rfl) d_Picks_clear_7 (fun H locs hP hD hS => ?_)
  have hP : va_P (dC, dI) classes (w_Picks cA a (upf (upf K 1 (fun _ => 0)) 2 (fun _ => 0))) H := hP
  have hD : va_D A (w_Picks cA a (upf (upf K 1 (fun _ => 0)) 2 (fun _ => 0))) := hD
  have hF : (f_Picks_clear K) = (upf (upf K 1 (fun _ => 0)) 2 (fun _ => 0)) := by rw [f_Picks_clear]
  exact W.vret hx hb hr (fun t ht hW => ⟨⟨(), rfl, trivial, by rw [hF, ht]; exact hP, by rw [hF]; exact hD⟩, hS.F ht⟩) hS.2.2 d_Picks_clear_10
def f_Picks_add_L2 (x1 : Int32) : Nat → (Nat → Nat → Int32) → Int32 → (Nat → Nat → Int32)
  | 0, K, z2 => K
  | n + 1, K, z2 => (if 32 ≤ z2 then K else (if (f_NC_holds x1 z2) = 0 then (f_Picks_add_L2 x1 n K (z2 + 1)) else (if (f_NC_holds (K 2 0) z2) = 0 then (if 32 ≤ (K 1 0) then (f_Picks_add_L2 x1 n K (z2 + 1)) else (f_Picks_add_L2 x1 n (upf (upf (upf K 0 (upd (K 0) ((K 1 0) : Int32).toNatClampNeg z2)) 1 (fun _ => ((K 1 0) + 1))) 2 (fun _ => ((K 2 0) ||| ((1 : Int32) <<< (z2 &&& 31))))) (z2 + 1))) else (f_Picks_add_L2 x1 n K (z2 + 1)))))
def f_Picks_add (K : Nat → Nat → Int32) (x1 : Int32) : (Nat → Nat → Int32) := (f_Picks_add_L2 x1 (nc_mu 32 0 + 1) K 0)
abbrev ws_Picks_add : List Cond := .code y_Picks_add b_Picks_add 3 none :: lw_G
abbrev rm_Picks_add : Room := { frames := 1, cells := 0, slots := 0, locals := 21 }
set_option maxHeartbeats 4000000 in
set_option maxRecDepth 100000 in
theorem c_Picks_add (l : Launch) (dC : Nat → ClassId) (dI : Nat → Nat → Nat) (cA : ClassId) (sz : Nat) (a : Nat → Nat) (K : Nat → Nat → Int32) (x1 : Int32) (hz : 0 ≤ (K 1 0).toInt) : Met l y_Picks_add ws_Picks_add rm_Picks_add (nc_PreM (dC, dI) cA sz [.ref (a 0), .int x1] (w_Picks cA a K)) (va_Qv (fun _ : Unit => True) (fun _ t => va_P (dC, dI) classes (w_Picks cA a (f_Picks_add K x1)) t.heap ∧ va_D (va_A (w_Picks cA a K) sz) (w_Picks cA a (f_Picks_add K x1))) (va_A (w_Picks cA a K) sz)) 0 0 (va_A (w_Picks cA a K) sz) := by
  refine Met.ofW (cc := b_Picks_add) (maxL := 3) (ret := none) (by decide) rfl ?_
  intro p e s m args below meth c s₁ B hml hv
  obtain ⟨rfl, hsz, hP, hK, hD0, hN⟩ := hv
  have hx := B.exec
  have hb := B.bytes
  have hr := B.returns
  have hts : ∀ w ∈ lw_G, w.before [.ref (a 0), .int x1].toArray s = true := fun w h => atoms_spec (ws := ws_Picks_add) B.pre w (List.mem_cons_of_mem _ h)
  have hown : s.vm.findClass R_Picks = some m.cls := findClass_of_methodNamed B.named
  have hlocks := B.notSynchronized
  have hfix : CallFix p m c b_Picks_add 3 s [.ref (a 0), .int x1].toArray lw_G R_Picks := ⟨hx, hb, hml, hown, hts⟩
  subst hsz
  have hD := hD0.self (sz := s.heap.size)
  generalize hAe : va_A (w_Picks cA a K) s.heap.size = A at hD ⊢
  have hA : ∀ q : Nat, s.heap.size ≤ q → A q := fun q h => by rw [← hAe]; exact Or.inr h
  have hS : va_S A s.heap s.heap [] := va_S.rf
  have hl := lv_entry ([.ref (a 0), .int x1]) (n := 3) (Nat.le_of_ble_eq_true rfl)
  rw [lg_entry_eq]
  generalize (lg_sl ([.ref (a 0), .int x1]) ++ List.replicate (3 - (lg_sl ([.ref (a 0), .int x1])).length) Slot.unset).toArray = ls at hl ⊢
  have hl : lv_has ls 3 [(0, .ref (a 0)), (1, .int x1)] := hl
  refine lv_iconst (v := 0) hx hb d_Picks_add_0 (by decide) ?_
  refine lv_istore_n (lv' := [(2, .int 0), (0, .ref (a 0)), (1, .int x1)]) hx hb d_Picks_add_1 rfl hl (by decide) rfl (fun ls hl => ?_)
  have loop_2 : ∀ (n : Nat) (Kq : (Nat → Nat → Int32)) (z2 : Int32) (H : Heap) (locs : List Loc) (ls : Array Slot), (f_Picks_add K x1) = (f_Picks_add_L2 x1 n Kq z2) → nc_mu 32 z2 < n → 0 ≤ z2.toInt → 0 ≤ (Kq 1 0).toInt → va_P (dC, dI) classes (w_Picks cA a Kq) H → va_D A (w_Picks cA a Kq) → va_S A s.heap H locs → lv_has ls 3 [(0, .ref (a 0)), (1, .int x1), (2, .int z2)] → W p l e (headSpec ws_Picks_add rm_Picks_add).room s m [.ref (a 0), .int x1].toArray below meth c H locs 0 0 (MQ below (va_Qv (fun _ : Unit => True) (fun _ t => va_P (dC, dI) classes (w_Picks cA a (f_Picks_add K x1)) t.heap ∧ va_D A (w_Picks cA a (f_Picks_add K x1))) A) [.ref (a 0), .int x1].toArray s 0 0 A) (F0 m 2 ls []) := by
    intro n
    induction n with
    | zero =>
      intro Kq z2 H locs ls hE hm h0 hz hP hD hS hl
      exact absurd hm (Nat.not_lt_zero _)
    | succ n ih =>
      intro Kq z2 H locs ls hE hm h0 hz hP hD hS hl
      refine lv_iload_n hx hb d_Picks_add_2 rfl (lv_at hl 2 rfl) ?_
      refine lv_bipush (v := 32) hx hb d_Picks_add_3 (by decide) ?_
      refine lv_icmp_ge (tgt := 74) hx hb d_Picks_add_5 (by decide) (fun c_91 => ?_) (fun c_91 => ?_)
      · have hF : (f_Picks_add K x1) = Kq := by rw [hE, f_Picks_add_L2, if_pos c_91]
        exact W.vret hx hb hr (fun t ht hW => ⟨⟨(), rfl, trivial, by rw [hF, ht]; exact hP, by rw [hF]; exact hD⟩, hS.F ht⟩) hS.2.2 d_Picks_add_74
      · refine lv_iload_n hx hb d_Picks_add_8 rfl (lv_at hl 1 rfl) ?_
        refine lv_iload_n hx hb d_Picks_add_9 rfl (lv_at hl 2 rfl) ?_
        refine nc_ro (va_runSN (As := [.int x1, .int z2]) (rest := []) hfix (c_NC_holds l dC dI cA x1 z2) (k_Picks_22 hts hN ⟨Nat.le_of_ble_eq_true rfl, Nat.le_of_ble_eq_true rfl⟩) (nc_preS0 hK hN) rfl rfl hl.1 rfl (lv_room (Nat.le_of_ble_eq_true rfl)) d_Picks_add_10 ⟨Nat.zero_le _, Nat.zero_le _⟩) (fun r er => ?_)
        obtain ⟨rfl, hz_92⟩ := er
        refine lv_if_eq (tgt := 68) hx hb d_Picks_add_13 (by decide) (fun c_93 => ?_) (fun c_93 => ?_)
        · refine lv_iinc (v := (z2 + 1)) (lv' := [(2, .int (z2 + 1)), (0, .ref (a 0)), (1, .int x1)]) hx hb d_Picks_add_68 hl (k := 2) rfl rfl (by decide) rfl (fun ls hl => ?_)
          refine lv_goto (tgt := 2) hx hb d_Picks_add_71 (by decide) ?_
          exact ih Kq (z2 + 1) H locs ls (by rw [hE, f_Picks_add_L2, if_neg c_91, if_pos c_93]) (nc_mu_step c_91 hm) (nc_i_step c_91 h0) hz hP hD hS (lv_sub hl [1, 2, 0] rfl)
        · refine lv_aload_n hx hb d_Picks_add_16 rfl (lv_at hl 0 rfl) ?_
          refine va_get (D := (dC, dI)) (ci := 3) (v := .int (Kq 2 0)) (C := R_Picks) (T := F_Picks) (N := 3) hx hb hts i_Picks hown hK hP 0 rfl rfl 2 (by decide) (hts _ m_f_Picks_19) (fun _ h9 => h9) rfl d_Picks_add_17 ?_
          refine lv_iload_n hx hb d_Picks_add_20 rfl (lv_at hl 2 rfl) ?_
          refine nc_ro (va_runSN (As := [.int (Kq 2 0), .int z2]) (rest := []) hfix (c_NC_holds l dC dI cA (Kq 2 0) z2) (k_Picks_22 hts hN ⟨Nat.le_of_ble_eq_true rfl, Nat.le_of_ble_eq_true rfl⟩) (nc_preS0 hK hN) rfl rfl hl.1 rfl (lv_room (Nat.le_of_ble_eq_true rfl)) d_Picks_add_21 ⟨Nat.zero_le _, Nat.zero_le _⟩) (fun r er => ?_)
          obtain ⟨rfl, hz_94⟩ := er
          refine lv_if_ne (tgt := 68) hx hb d_Picks_add_24 (by decide) (fun c_95 => ?_) (fun c_95 => ?_)
          · refine lv_iinc (v := (z2 + 1)) (lv' := [(2, .int (z2 + 1)), (0, .ref (a 0)), (1, .int x1)]) hx hb d_Picks_add_68 hl (k := 2) rfl rfl (by decide) rfl (fun ls hl => ?_)
            refine lv_goto (tgt := 2) hx hb d_Picks_add_71 (by decide) ?_
            exact ih Kq (z2 + 1) H locs ls (by rw [hE, f_Picks_add_L2, if_neg c_91, if_neg c_93, if_neg c_95]) (nc_mu_step c_91 hm) (nc_i_step c_91 h0) hz hP hD hS (lv_sub hl [1, 2, 0] rfl)
          · refine lv_aload_n hx hb d_Picks_add_27 rfl (lv_at hl 0 rfl) ?_
            refine va_get (D := (dC, dI)) (ci := 3) (v := .int (Kq 1 0)) (C := R_Picks) (T := F_Picks) (N := 3) hx hb hts i_Picks hown hK hP 0 rfl rfl 1 (by decide) (hts _ m_f_Picks_15) (fun _ h9 => h9) rfl d_Picks_add_28 ?_
            refine lv_bipush (v := 32) hx hb d_Picks_add_31 (by decide) ?_
            refine lv_icmp_ge (tgt := 68) hx hb d_Picks_add_33 (by decide) (fun c_96 => ?_) (fun c_96 => ?_)
            · refine lv_iinc (v := (z2 + 1)) (lv' := [(2, .int (z2 + 1)), (0, .ref (a 0)), (1, .int x1)]) hx hb d_Picks_add_68 hl (k := 2) rfl rfl (by decide) rfl (fun ls hl => ?_)
              refine lv_goto (tgt := 2) hx hb d_Picks_add_71 (by decide) ?_
              exact ih Kq (z2 + 1) H locs ls (by rw [hE, f_Picks_add_L2, if_neg c_91, if_neg c_93, if_pos c_95, if_pos c_96]) (nc_mu_step c_91 hm) (nc_i_step c_91 h0) hz hP hD hS (lv_sub hl [1, 2, 0] rfl)
            · refine lv_aload_n hx hb d_Picks_add_36 rfl (lv_at hl 0 rfl) ?_
              refine va_get (D := (dC, dI)) (ci := 3) (v := .ref (a 1)) (C := R_Picks) (T := F_Picks) (N := 3) hx hb hts i_Picks hown hK hP 0 rfl rfl 0 (by decide) (hts _ m_f_Picks_9) (fun _ h9 => h9) rfl d_Picks_add_37 ?_
              refine lv_aload_n hx hb d_Picks_add_40 rfl (lv_at hl 0 rfl) ?_
              refine va_get (D := (dC, dI)) (ci := 3) (v := .int (Kq 1 0)) (C := R_Picks) (T := F_Picks) (N := 3) hx hb hts i_Picks hown hK hP 0 rfl rfl 1 (by decide) (hts _ m_f_Picks_15) (fun _ h9 => h9) rfl d_Picks_add_41 ?_
              refine lv_iload_n hx hb d_Picks_add_44 rfl (lv_at hl 2 rfl) ?_
              refine va_iast (f := (Kq 0)) hx hb hK hP hD hS 1 0 rfl rfl (by have q0 := nc_nle c_91 (L_32) rfl; have q1 := nc_eq c_95 rfl (L_0); have q2 := nc_nle c_96 (L_32) rfl; have q3 := h0; have q4 := hz; exact vp_in_iff.mpr ⟨by omega, by omega⟩) d_Picks_add_45 (fun H locs hP hD hS => ?_)
              have hP : va_P (dC, dI) classes (w_Picks cA a (upf Kq 0 (upd (Kq 0) ((Kq 1 0) : Int32).toNatClampNeg z2))) H := hP
              have hD : va_D A (w_Picks cA a (upf Kq 0 (upd (Kq 0) ((Kq 1 0) : Int32).toNatClampNeg z2))) := hD
              refine lv_aload_n hx hb d_Picks_add_46 rfl (lv_at hl 0 rfl) ?_
              refine lv_dup hx hb d_Picks_add_47 rfl ?_
              refine va_get (D := (dC, dI)) (ci := 3) (v := .int (Kq 1 0)) (C := R_Picks) (T := F_Picks) (N := 3) hx hb hts i_Picks hown hK hP 0 rfl rfl 1 (by decide) (hts _ m_f_Picks_15) (fun _ h9 => h9) rfl d_Picks_add_48 ?_
              refine lv_iconst (v := 1) hx hb d_Picks_add_51 (by decide) ?_
              refine lv_iadd hx hb d_Picks_add_52 ?_
              refine va_put (D := (dC, dI)) (ci := 3) (v := .int ((Kq 1 0) + 1)) (ty := .int) (C := R_Picks) (T := F_Picks) (N := 3) hx hb hts i_Picks t_Picks t_Picks_ok n_Picks hown hK hP hD hS 0 rfl rfl 1 (by decide) (hts _ m_f_Picks_15) (fun _ h9 => h9) rfl (by decide +kernel) rfl rfl (Nat.le_of_ble_eq_true rfl) d_Picks_add_53 (fun H locs hP hD hS => ?_)
              have hP : va_P (dC, dI) classes (w_Picks cA a (upf (upf Kq 0 (upd (Kq 0) ((Kq 1 0) : Int32).toNatClampNeg z2)) 1 (fun _ => ((Kq 1 0) + 1)))) H := hP
              have hD : va_D A (w_Picks cA a (upf (upf Kq 0 (upd (Kq 0) ((Kq 1 0) : Int32).toNatClampNeg z2)) 1 (fun _ => ((Kq 1 0) + 1)))) := hD
              refine lv_aload_n hx hb d_Picks_add_56 rfl (lv_at hl 0 rfl) ?_
              refine lv_dup hx hb d_Picks_add_57 rfl ?_
              refine va_get (D := (dC, dI)) (ci := 3) (v := .int (Kq 2 0)) (C := R_Picks) (T := F_Picks) (N := 3) hx hb hts i_Picks hown hK hP 0 rfl rfl 2 (by decide) (hts _ m_f_Picks_19) (fun _ h9 => h9) rfl d_Picks_add_58 ?_
              refine lv_iconst (v := 1) hx hb d_Picks_add_61 (by decide) ?_
              refine lv_iload_n hx hb d_Picks_add_62 rfl (lv_at hl 2 rfl) ?_
              refine lv_ishl hx hb d_Picks_add_63 ?_
              refine lv_ior hx hb d_Picks_add_64 ?_
              refine va_put (D := (dC, dI)) (ci := 3) (v := .int ((Kq 2 0) ||| ((1 : Int32) <<< (z2 &&& 31)))) (ty := .int) (C := R_Picks) (T := F_Picks) (N := 3) hx hb hts i_Picks t_Picks t_Picks_ok n_Picks hown hK hP hD hS 0 rfl rfl 2 (by decide) (hts _ m_f_Picks_19) (fun _ h9 => h9) rfl (by decide +kernel) rfl rfl (Nat.le_of_ble_eq_true rfl) d_Picks_add_65 (fun H locs hP hD hS => ?_)
              have hP : va_P (dC, dI) classes (w_Picks cA a (upf (upf (upf Kq 0 (upd (Kq 0) ((Kq 1 0) : Int32).toNatClampNeg z2)) 1 (fun _ => ((Kq 1 0) + 1))) 2 (fun _ => ((Kq 2 0) ||| ((1 : Int32) <<< (z2 &&& 31)))))) H := hP
              have hD : va_D A (w_Picks cA a (upf (upf (upf Kq 0 (upd (Kq 0) ((Kq 1 0) : Int32).toNatClampNeg z2)) 1 (fun _ => ((Kq 1 0) + 1))) 2 (fun _ => ((Kq 2 0) ||| ((1 : Int32) <<< (z2 &&& 31)))))) := hD
              refine lv_iinc (v := (z2 + 1)) (lv' := [(2, .int (z2 + 1)), (0, .ref (a 0)), (1, .int x1)]) hx hb d_Picks_add_68 hl (k := 2) rfl rfl (by decide) rfl (fun ls hl => ?_)
              refine lv_goto (tgt := 2) hx hb d_Picks_add_71 (by decide) ?_
              exact ih (upf (upf (upf Kq 0 (upd (Kq 0) ((Kq 1 0) : Int32).toNatClampNeg z2)) 1 (fun _ => ((Kq 1 0) + 1))) 2 (fun _ => ((Kq 2 0) ||| ((1 : Int32) <<< (z2 &&& 31))))) (z2 + 1) H locs ls (by rw [hE, f_Picks_add_L2, if_neg c_91, if_neg c_93, if_pos c_95, if_neg c_96]) (nc_mu_step c_91 hm) (nc_i_step c_91 h0) (nc_i_step c_96 hz) hP hD hS (lv_sub hl [1, 2, 0] rfl)
  exact loop_2 (nc_mu 32 0 + 1) K 0 s.heap [] ls (by rw [f_Picks_add]) (Nat.lt_succ_self _) (by decide) hz hP hD hS (lv_sub hl [1, 2, 0] rfl)
theorem add_zL {x1 : Int32} : ∀ (n : Nat) (K : Nat → Nat → Int32) (z : Int32), 0 ≤ (K 1 0).toInt → 0 ≤ ((f_Picks_add_L2 x1 n K z) 1 0).toInt := by
  intro n
  induction n with
  | zero => intro K z h; exact h
  | succ n ih =>
    intro K z h
    rw [f_Picks_add_L2]
    repeat' split
    all_goals first | exact h | exact ih _ _ h | exact ih _ _ (nc_i_step (by assumption) h)
theorem add_z {K : Nat → Nat → Int32} {x1 : Int32} (h : 0 ≤ (K 1 0).toInt) : 0 ≤ ((f_Picks_add K x1) 1 0).toInt := by
  unfold f_Picks_add
  exact add_zL _ _ _ h
def f_Picks_at (K : Nat → Nat → Int32) (x1 : Int32) : Int32 := (if x1 < 0 then (-1) else (if (K 1 0) ≤ x1 then (-1) else (if 32 ≤ x1 then (-1) else ((K 0) x1.toNatClampNeg))))
abbrev ws_Picks_at : List Cond := .code y_Picks_at b_Picks_at 2 (some .int) :: lw_G
abbrev rm_Picks_at : Room := { frames := 0, cells := 0, slots := 0, locals := 0 }
set_option maxHeartbeats 4000000 in
set_option maxRecDepth 100000 in
theorem c_Picks_at (l : Launch) (dC : Nat → ClassId) (dI : Nat → Nat → Nat) (cA : ClassId) (a : Nat → Nat) (K : Nat → Nat → Int32) (x1 : Int32) : Met l y_Picks_at ws_Picks_at rm_Picks_at (nc_Pre (dC, dI) cA [.ref (a 0), .int x1] (w_Picks cA a K)) (vp_Si (fun r => r = (f_Picks_at K x1))) 0 0 (fun _ => False) := by
  refine Met.ofW (cc := b_Picks_at) (maxL := 2) (ret := (some .int)) (by decide) rfl ?_
  intro p e s m args below meth c s₁ B hml hv
  obtain ⟨rfl, hP, hK, hD, hN⟩ := hv
  have hx := B.exec
  have hb := B.bytes
  have hr := B.returns
  have hts : ∀ w ∈ lw_G, w.before [.ref (a 0), .int x1].toArray s = true := fun w h => atoms_spec (ws := ws_Picks_at) B.pre w (List.mem_cons_of_mem _ h)
  have hown : s.vm.findClass R_Picks = some m.cls := findClass_of_methodNamed B.named
  have hlocks := B.notSynchronized
  have hfix : CallFix p m c b_Picks_at 2 s [.ref (a 0), .int x1].toArray lw_G R_Picks := ⟨hx, hb, hml, hown, hts⟩
  have hl := lv_entry ([.ref (a 0), .int x1]) (n := 2) (Nat.le_of_ble_eq_true rfl)
  rw [lg_entry_eq]
  generalize (lg_sl ([.ref (a 0), .int x1]) ++ List.replicate (2 - (lg_sl ([.ref (a 0), .int x1])).length) Slot.unset).toArray = ls at hl ⊢
  have hl : lv_has ls 2 [(0, .ref (a 0)), (1, .int x1)] := hl
  refine lv_iload_n hx hb d_Picks_at_0 rfl (lv_at hl 1 rfl) ?_
  refine lv_if_lt (tgt := 30) hx hb d_Picks_at_1 (by decide) (fun c_97 => ?_) (fun c_97 => ?_)
  · refine lv_iconst (v := (-1)) hx hb d_Picks_at_30 (by decide) ?_
    exact W.iret (v := (-1)) hx hb hr (fun t ht hW => ⟨(-1), rfl, by rw [f_Picks_at, if_pos c_97], ht⟩) (fun _ h => nomatch h) d_Picks_at_31
  · refine lv_iload_n hx hb d_Picks_at_4 rfl (lv_at hl 1 rfl) ?_
    refine lv_aload_n hx hb d_Picks_at_5 rfl (lv_at hl 0 rfl) ?_
    refine va_get (D := (dC, dI)) (ci := 3) (v := .int (K 1 0)) (C := R_Picks) (T := F_Picks) (N := 3) hx hb hts i_Picks hown hK hP 0 rfl rfl 1 (by decide) (hts _ m_f_Picks_15) (fun _ h9 => h9) rfl d_Picks_at_6 ?_
    refine lv_icmp_ge (tgt := 30) hx hb d_Picks_at_9 (by decide) (fun c_98 => ?_) (fun c_98 => ?_)
    · refine lv_iconst (v := (-1)) hx hb d_Picks_at_30 (by decide) ?_
      exact W.iret (v := (-1)) hx hb hr (fun t ht hW => ⟨(-1), rfl, by rw [f_Picks_at, if_neg c_97, if_pos c_98], ht⟩) (fun _ h => nomatch h) d_Picks_at_31
    · refine lv_iload_n hx hb d_Picks_at_12 rfl (lv_at hl 1 rfl) ?_
      refine lv_aload_n hx hb d_Picks_at_13 rfl (lv_at hl 0 rfl) ?_
      refine va_get (D := (dC, dI)) (ci := 3) (v := .ref (a 1)) (C := R_Picks) (T := F_Picks) (N := 3) hx hb hts i_Picks hown hK hP 0 rfl rfl 0 (by decide) (hts _ m_f_Picks_9) (fun _ h9 => h9) rfl d_Picks_at_14 ?_
      refine va_alen (v := 32) hx hb hK hP 1 0 rfl rfl rfl d_Picks_at_17 ?_
      refine lv_icmp_ge (tgt := 30) hx hb d_Picks_at_18 (by decide) (fun c_99 => ?_) (fun c_99 => ?_)
      · refine lv_iconst (v := (-1)) hx hb d_Picks_at_30 (by decide) ?_
        exact W.iret (v := (-1)) hx hb hr (fun t ht hW => ⟨(-1), rfl, by rw [f_Picks_at, if_neg c_97, if_neg c_98, if_pos c_99], ht⟩) (fun _ h => nomatch h) d_Picks_at_31
      · refine lv_aload_n hx hb d_Picks_at_21 rfl (lv_at hl 0 rfl) ?_
        refine va_get (D := (dC, dI)) (ci := 3) (v := .ref (a 1)) (C := R_Picks) (T := F_Picks) (N := 3) hx hb hts i_Picks hown hK hP 0 rfl rfl 0 (by decide) (hts _ m_f_Picks_9) (fun _ h9 => h9) rfl d_Picks_at_22 ?_
        refine lv_iload_n hx hb d_Picks_at_25 rfl (lv_at hl 1 rfl) ?_
        refine va_iald (f := (K 0)) hx hb hK hP 1 0 rfl rfl (by have q0 := nc_nlt c_97 rfl (L_0); have q1 := nc_nle c_98 rfl rfl; have q2 := nc_nle c_99 (L_32) rfl; exact vp_in_iff.mpr ⟨by omega, by omega⟩) d_Picks_at_26 ?_
        refine lv_goto (tgt := 31) hx hb d_Picks_at_27 (by decide) ?_
        exact W.iret (v := ((K 0) x1.toNatClampNeg)) hx hb hr (fun t ht hW => ⟨((K 0) x1.toNatClampNeg), rfl, by rw [f_Picks_at, if_neg c_97, if_neg c_98, if_neg c_99], ht⟩) (fun _ h => nomatch h) d_Picks_at_31
