def f_NC_goThrough_L14  : Nat → (Nat → Nat → Nat → Int32) → Int32 → Int32 × (Nat → Nat → Nat → Int32)
  | 0, S, z1 => (0, S)
  | n + 1, S, z1 => (if ((S 2) 4 0) ≤ z1 then (if (((f_NC_tell S (-1) (-1) (-1)) 5) 1 0) ≤ (((f_NC_tell S (-1) (-1) (-1)) 0) 3 0) then ((((f_NC_tell S (-1) (-1) (-1)) 5) 1 0), (upr (upr (f_NC_tell S (-1) (-1) (-1)) 4 ((f_NC_tell S (-1) (-1) (-1)) 5)) 5 ((f_NC_tell S (-1) (-1) (-1)) 4))) else ((-17), (f_NC_tell S (-1) (-1) (-1)))) else (if (f_NC_goThroughPart S z1).1 = 0 then (f_NC_goThrough_L14 n (f_NC_goThroughPart S z1).2 (z1 + 1)) else ((f_NC_endAt (f_NC_goThroughPart S z1).2 z1 (f_NC_goThroughPart S z1).1).1, (f_NC_endAt (f_NC_goThroughPart S z1).2 z1 (f_NC_goThroughPart S z1).1).2)))
def f_NC_goThrough (S : Nat → Nat → Nat → Int32) : Int32 × (Nat → Nat → Nat → Int32) := (f_NC_goThrough_L14 (nc_mu ((S 2) 4 0) 0 + 1) (upr (upr S 0 (upf (S 0) 10 (fun _ => 0))) 5 (f_Picks_clear (S 5))) 0)
abbrev ws_NC_goThrough : List Cond := .code y_NC_goThrough b_NC_goThrough 3 (some .int) :: lw_G
abbrev rm_NC_goThrough : Room := { frames := 5, cells := 0, slots := 0, locals := 123 }
set_option maxHeartbeats 4000000 in
set_option maxRecDepth 100000 in
theorem c_NC_goThrough (l : Launch) (dC : Nat → ClassId) (dI : Nat → Nat → Nat) (cA : ClassId) (sz : Nat) (ad : Nat → Nat → Nat) (S : Nat → Nat → Nat → Int32) : Met l y_NC_goThrough ws_NC_goThrough rm_NC_goThrough (nc_PreM (dC, dI) cA sz [.ref ((ad 0) 0)] (w_NC cA ad S)) (va_Qi (fun r (_ : Nat → Nat → Nat) => r = (f_NC_goThrough S).1) (fun (u : Nat → Nat → Nat) t => va_P (dC, dI) classes (w_NC cA u (f_NC_goThrough S).2) t.heap ∧ va_D (va_A (w_NC cA ad S) sz) (w_NC cA u (f_NC_goThrough S).2)) (va_A (w_NC cA ad S) sz)) 0 0 (va_A (w_NC cA ad S) sz) := by
  refine Met.ofW (cc := b_NC_goThrough) (maxL := 3) (ret := (some .int)) (by decide) rfl ?_
  intro p e s m args below meth c s₁ B hml hv
  obtain ⟨rfl, hsz, hP, hK, hD0, hN⟩ := hv
  have hx := B.exec
  have hb := B.bytes
  have hr := B.returns
  have hts : ∀ w ∈ lw_G, w.before [.ref ((ad 0) 0)].toArray s = true := fun w h => atoms_spec (ws := ws_NC_goThrough) B.pre w (List.mem_cons_of_mem _ h)
  have hown : s.vm.findClass R_NC = some m.cls := findClass_of_methodNamed B.named
  have hlocks := B.notSynchronized
  have hfix : CallFix p m c b_NC_goThrough 3 s [.ref ((ad 0) 0)].toArray lw_G R_NC := ⟨hx, hb, hml, hown, hts⟩
  subst hsz
  have hD := hD0.self (sz := s.heap.size)
  generalize hAe : va_A (w_NC cA ad S) s.heap.size = A at hD ⊢
  have hA : ∀ q : Nat, s.heap.size ≤ q → A q := fun q h => by rw [← hAe]; exact Or.inr h
  have hS : va_S A s.heap s.heap [] := va_S.rf
  have hl := lv_entry ([.ref ((ad 0) 0)]) (n := 3) (Nat.le_of_ble_eq_true rfl)
  rw [lg_entry_eq]
  generalize (lg_sl ([.ref ((ad 0) 0)]) ++ List.replicate (3 - (lg_sl ([.ref ((ad 0) 0)])).length) Slot.unset).toArray = ls at hl ⊢
  have hl : lv_has ls 3 [(0, .ref ((ad 0) 0))] := hl
  refine lv_aload_n hx hb d_NC_goThrough_0 rfl (lv_at hl 0 rfl) ?_
  refine lv_iconst (v := 0) hx hb d_NC_goThrough_1 (by decide) ?_
  refine va_put (D := (dC, dI)) (ci := 0) (v := .int 0) (ty := .int) (C := R_NC) (T := F_NC) (N := 15) hx hb hts i_NC t_NC t_NC_ok n_NC hown hK hP hD hS 0 rfl rfl 10 (by decide) (hts _ m_f_NC_53) (fun _ h9 => h9) rfl (by decide +kernel) rfl rfl (Nat.le_of_ble_eq_true rfl) d_NC_goThrough_2 (fun H locs hP hD hS => ?_)
  have hP : va_P (dC, dI) classes (w_NC cA ad (upr S 0 (upf (S 0) 10 (fun _ => 0)))) H := hP
  have hD : va_D A (w_NC cA ad (upr S 0 (upf (S 0) 10 (fun _ => 0)))) := hD
  refine lv_aload_n hx hb d_NC_goThrough_5 rfl (lv_at hl 0 rfl) ?_
  refine va_get (D := (dC, dI)) (ci := 0) (v := .ref ((ad 5) 0)) (C := R_NC) (T := F_NC) (N := 15) hx hb hts i_NC hown hK hP 0 rfl rfl 8 (by decide) (hts _ m_f_NC_47) (fun _ h9 => h9) rfl d_NC_goThrough_6 ?_
  have hP_w_333 := hP.sub (ws' := (w_Picks cA (ad 5) (S 5))) [29, 30] rfl
  have hD_w_333 := hD.sub (ws' := (w_Picks cA (ad 5) (S 5))) [29, 30] (by decide) rfl
  have hFc := va_free (wc := (w_Picks cA (ad 5) (S 5))) hD hS hA [29, 30] rfl
  refine nc_muv (va_runV (As := []) (rest := []) hfix (c_Picks_clear l dC dI cA H.size (ad 5) (S 5)) (k_NC_180 hts hN ⟨Nat.le_of_ble_eq_true rfl, Nat.le_of_ble_eq_true rfl⟩) (nc_preVM hK hN hP_w_333 hD_w_333 rfl rfl) rfl rfl hl.1 rfl (lv_room (Nat.le_of_ble_eq_true rfl)) d_NC_goThrough_9 ⟨Nat.zero_le _, Nat.zero_le _⟩) hS hFc (fun H locs hP1 hD1 hk1 hS => ?_)
  obtain ⟨hP, hD⟩ := va_join (wr := va_pick (w_NC cA ad (upr S 0 (upf (S 0) 10 (fun _ => 0)))) [0, 1, 2, 3, 4, 5, 6, 7, 8, 9, 10, 11, 12, 13, 14, 15, 16, 17, 18, 19, 20, 21, 22, 23, 24, 25, 26, 27, 28]) (w1 := (w_Picks cA (ad 5) (f_Picks_clear (S 5)))) hP hD [29, 30] [0, 1, 2, 3, 4, 5, 6, 7, 8, 9, 10, 11, 12, 13, 14, 15, 16, 17, 18, 19, 20, 21, 22, 23, 24, 25, 26, 27, 28] rfl rfl (by decide) (by decide) hk1 hFc hP1 hD1
  have hP : va_P (dC, dI) classes (w_NC cA ad (upr (upr S 0 (upf (S 0) 10 (fun _ => 0))) 5 (f_Picks_clear (S 5)))) H := hP.sub [0, 1, 2, 3, 4, 5, 6, 7, 8, 9, 10, 11, 12, 13, 14, 15, 16, 17, 18, 19, 20, 21, 22, 23, 24, 25, 26, 27, 28, 29, 30] rfl
  have hD : va_D A (w_NC cA ad (upr (upr S 0 (upf (S 0) 10 (fun _ => 0))) 5 (f_Picks_clear (S 5)))) := hD.sub [0, 1, 2, 3, 4, 5, 6, 7, 8, 9, 10, 11, 12, 13, 14, 15, 16, 17, 18, 19, 20, 21, 22, 23, 24, 25, 26, 27, 28, 29, 30] (by decide) rfl
  refine lv_iconst (v := 0) hx hb d_NC_goThrough_12 (by decide) ?_
  refine lv_istore_n (lv' := [(1, .int 0), (0, .ref ((ad 0) 0))]) hx hb d_NC_goThrough_13 rfl hl (by decide) rfl (fun ls hl => ?_)
  have loop_14 : ∀ (n : Nat) (Sq : (Nat → Nat → Nat → Int32)) (z1 : Int32) (H : Heap) (locs : List Loc) (ls : Array Slot), (f_NC_goThrough S) = (f_NC_goThrough_L14 n Sq z1) → nc_mu ((Sq 2) 4 0) z1 < n → 0 ≤ ((Sq 5) 1 0).toInt → va_P (dC, dI) classes (w_NC cA ad Sq) H → va_D A (w_NC cA ad Sq) → va_S A s.heap H locs → lv_has ls 3 [(0, .ref ((ad 0) 0)), (1, .int z1)] → W p l e (headSpec ws_NC_goThrough rm_NC_goThrough).room s m [.ref ((ad 0) 0)].toArray below meth c H locs 0 0 (MQ below (va_Qi (fun r (_ : Nat → Nat → Nat) => r = (f_NC_goThrough S).1) (fun (u : Nat → Nat → Nat) t => va_P (dC, dI) classes (w_NC cA u (f_NC_goThrough S).2) t.heap ∧ va_D A (w_NC cA u (f_NC_goThrough S).2)) A) [.ref ((ad 0) 0)].toArray s 0 0 A) (F0 m 14 ls []) := by
    intro n
    induction n with
    | zero =>
      intro Sq z1 H locs ls hE hm hg hP hD hS hl
      exact absurd hm (Nat.not_lt_zero _)
    | succ n ih =>
      intro Sq z1 H locs ls hE hm hg hP hD hS hl
      refine lv_iload_n hx hb d_NC_goThrough_14 rfl (lv_at hl 1 rfl) ?_
      refine lv_aload_n hx hb d_NC_goThrough_15 rfl (lv_at hl 0 rfl) ?_
      refine va_get (D := (dC, dI)) (ci := 0) (v := .ref ((ad 2) 0)) (C := R_NC) (T := F_NC) (N := 15) hx hb hts i_NC hown hK hP 0 rfl rfl 4 (by decide) (hts _ m_f_NC_30) (fun _ h9 => h9) rfl d_NC_goThrough_16 ?_
      refine va_getN (D := (dC, dI)) (ci := 2) (v := .int ((Sq 2) 4 0)) (C := R_Phrase) (T := F_Phrase) (N := 11) hx hb hts i_Phrase hown hK hP 11 rfl rfl 4 (by decide) (va_Nw.use rfl (hN _ m_f_NC_174)) (fun _ h9 => h9) rfl d_NC_goThrough_19 ?_
      refine lv_icmp_ge (tgt := 48) hx hb d_NC_goThrough_22 (by decide) (fun c_334 => ?_) (fun c_334 => ?_)
      · refine lv_aload_n hx hb d_NC_goThrough_48 rfl (lv_at hl 0 rfl) ?_
        refine lv_iconst (v := (-1)) hx hb d_NC_goThrough_49 (by decide) ?_
        refine lv_iconst (v := (-1)) hx hb d_NC_goThrough_50 (by decide) ?_
        refine lv_iconst (v := (-1)) hx hb d_NC_goThrough_51 (by decide) ?_
        have hFc := nc_free hD hS hA
        refine nc_muv (va_runV (As := [.int (-1), .int (-1), .int (-1)]) (rest := []) hfix (c_NC_tell l dC dI cA H.size ad Sq (-1) (-1) (-1)) (k_NC_141 hts hN ⟨Nat.le_of_ble_eq_true rfl, Nat.le_of_ble_eq_true rfl⟩) (nc_preVM hK hN hP hD rfl rfl) rfl rfl hl.1 rfl (lv_room (Nat.le_of_ble_eq_true rfl)) d_NC_goThrough_52 ⟨Nat.zero_le _, Nat.zero_le _⟩) hS hFc (fun H locs hP1 hD1 hk1 hS => ?_)
        have hP : va_P (dC, dI) classes (w_NC cA ad (f_NC_tell Sq (-1) (-1) (-1))) H := hP1
        have hD : va_D A (w_NC cA ad (f_NC_tell Sq (-1) (-1) (-1))) := hD1.weaken (fun _ q _ h => hFc q.1 h)
        refine lv_aload_n hx hb d_NC_goThrough_55 rfl (lv_at hl 0 rfl) ?_
        refine va_get (D := (dC, dI)) (ci := 0) (v := .ref ((ad 5) 0)) (C := R_NC) (T := F_NC) (N := 15) hx hb hts i_NC hown hK hP 0 rfl rfl 8 (by decide) (hts _ m_f_NC_47) (fun _ h9 => h9) rfl d_NC_goThrough_56 ?_
        refine va_getN (D := (dC, dI)) (ci := 3) (v := .int (((f_NC_tell Sq (-1) (-1) (-1)) 5) 1 0)) (C := R_Picks) (T := F_Picks) (N := 3) hx hb hts i_Picks hown hK hP 29 rfl rfl 1 (by decide) (va_Nw.use rfl (hN _ m_f_NC_145)) (fun _ h9 => h9) rfl d_NC_goThrough_59 ?_
        refine lv_aload_n hx hb d_NC_goThrough_62 rfl (lv_at hl 0 rfl) ?_
        refine va_get (D := (dC, dI)) (ci := 0) (v := .int (((f_NC_tell Sq (-1) (-1) (-1)) 0) 3 0)) (C := R_NC) (T := F_NC) (N := 15) hx hb hts i_NC hown hK hP 0 rfl rfl 3 (by decide) (hts _ m_f_NC_24) (fun _ h9 => h9) rfl d_NC_goThrough_63 ?_
        refine lv_icmp_le (tgt := 72) hx hb d_NC_goThrough_66 (by decide) (fun c_335 => ?_) (fun c_335 => ?_)
        · refine lv_aload_n hx hb d_NC_goThrough_72 rfl (lv_at hl 0 rfl) ?_
          refine va_get (D := (dC, dI)) (ci := 0) (v := .ref ((ad 4) 0)) (C := R_NC) (T := F_NC) (N := 15) hx hb hts i_NC hown hK hP 0 rfl rfl 7 (by decide) (hts _ m_f_NC_43) (fun _ h9 => h9) rfl d_NC_goThrough_73 ?_
          refine lv_astore_n (lv' := [(1, .ref ((ad 4) 0)), (0, .ref ((ad 0) 0))]) hx hb d_NC_goThrough_76 rfl hl (by decide) rfl (fun ls hl => ?_)
          refine lv_aload_n hx hb d_NC_goThrough_77 rfl (lv_at hl 1 rfl) ?_
          refine lv_aload_n hx hb d_NC_goThrough_78 rfl (lv_at hl 1 rfl) ?_
          refine va_get (D := (dC, dI)) (ci := 0) (v := .ref ((ad 5) 0)) (C := R_NC) (T := F_NC) (N := 15) hx hb hts i_NC hown hK hP 0 rfl rfl 8 (by decide) (hts _ m_f_NC_47) (fun _ h9 => h9) rfl d_NC_goThrough_79 ?_
          refine va_put (D := (dC, dI)) (ci := 0) (v := .ref ((ad 5) 0)) (ty := (t_NC 7)) (C := R_NC) (T := F_NC) (N := 15) hx hb hts i_NC t_NC t_NC_ok n_NC hown hK hP hD hS 0 rfl rfl 7 (by decide) (hts _ m_f_NC_43) (fun _ h9 => h9) rfl (by decide +kernel) rfl rfl (Nat.le_of_ble_eq_true rfl) d_NC_goThrough_82 (fun H locs hP hD hS => ?_)
          have hP : va_P (dC, dI) classes (List.set (w_NC cA ad (f_NC_tell Sq (-1) (-1) (-1))) 0 (((ad 0) 0), .inr (0, [.ref ((ad 1) 0), .ref ((ad 0) 1), .int (((f_NC_tell Sq (-1) (-1) (-1)) 0) 2 0), .int (((f_NC_tell Sq (-1) (-1) (-1)) 0) 3 0), .ref ((ad 2) 0), .ref ((ad 3) 0), .ref ((ad 0) 2), .ref ((ad 5) 0), .ref ((ad 5) 0), .int (((f_NC_tell Sq (-1) (-1) (-1)) 0) 9 0), .int (((f_NC_tell Sq (-1) (-1) (-1)) 0) 10 0), .int (((f_NC_tell Sq (-1) (-1) (-1)) 0) 11 0), .int (((f_NC_tell Sq (-1) (-1) (-1)) 0) 12 0), .int (((f_NC_tell Sq (-1) (-1) (-1)) 0) 13 0), .int (((f_NC_tell Sq (-1) (-1) (-1)) 0) 14 0)]))) H := hP
          have hD : va_D A (List.set (w_NC cA ad (f_NC_tell Sq (-1) (-1) (-1))) 0 (((ad 0) 0), .inr (0, [.ref ((ad 1) 0), .ref ((ad 0) 1), .int (((f_NC_tell Sq (-1) (-1) (-1)) 0) 2 0), .int (((f_NC_tell Sq (-1) (-1) (-1)) 0) 3 0), .ref ((ad 2) 0), .ref ((ad 3) 0), .ref ((ad 0) 2), .ref ((ad 5) 0), .ref ((ad 5) 0), .int (((f_NC_tell Sq (-1) (-1) (-1)) 0) 9 0), .int (((f_NC_tell Sq (-1) (-1) (-1)) 0) 10 0), .int (((f_NC_tell Sq (-1) (-1) (-1)) 0) 11 0), .int (((f_NC_tell Sq (-1) (-1) (-1)) 0) 12 0), .int (((f_NC_tell Sq (-1) (-1) (-1)) 0) 13 0), .int (((f_NC_tell Sq (-1) (-1) (-1)) 0) 14 0)]))) := hD
          refine lv_aload_n hx hb d_NC_goThrough_85 rfl (lv_at hl 1 rfl) ?_
          refine lv_aload_n hx hb d_NC_goThrough_86 rfl (lv_at hl 0 rfl) ?_
          refine va_put (D := (dC, dI)) (ci := 0) (v := .ref ((ad 4) 0)) (ty := (t_NC 8)) (C := R_NC) (T := F_NC) (N := 15) hx hb hts i_NC t_NC t_NC_ok n_NC hown hK hP hD hS 0 rfl rfl 8 (by decide) (hts _ m_f_NC_47) (fun _ h9 => h9) rfl (by decide +kernel) rfl rfl (Nat.le_of_ble_eq_true rfl) d_NC_goThrough_87 (fun H locs hP hD hS => ?_)
          have hP : va_P (dC, dI) classes (List.set (w_NC cA ad (f_NC_tell Sq (-1) (-1) (-1))) 0 (((ad 0) 0), .inr (0, [.ref ((ad 1) 0), .ref ((ad 0) 1), .int (((f_NC_tell Sq (-1) (-1) (-1)) 0) 2 0), .int (((f_NC_tell Sq (-1) (-1) (-1)) 0) 3 0), .ref ((ad 2) 0), .ref ((ad 3) 0), .ref ((ad 0) 2), .ref ((ad 5) 0), .ref ((ad 4) 0), .int (((f_NC_tell Sq (-1) (-1) (-1)) 0) 9 0), .int (((f_NC_tell Sq (-1) (-1) (-1)) 0) 10 0), .int (((f_NC_tell Sq (-1) (-1) (-1)) 0) 11 0), .int (((f_NC_tell Sq (-1) (-1) (-1)) 0) 12 0), .int (((f_NC_tell Sq (-1) (-1) (-1)) 0) 13 0), .int (((f_NC_tell Sq (-1) (-1) (-1)) 0) 14 0)]))) H := hP
          have hD : va_D A (List.set (w_NC cA ad (f_NC_tell Sq (-1) (-1) (-1))) 0 (((ad 0) 0), .inr (0, [.ref ((ad 1) 0), .ref ((ad 0) 1), .int (((f_NC_tell Sq (-1) (-1) (-1)) 0) 2 0), .int (((f_NC_tell Sq (-1) (-1) (-1)) 0) 3 0), .ref ((ad 2) 0), .ref ((ad 3) 0), .ref ((ad 0) 2), .ref ((ad 5) 0), .ref ((ad 4) 0), .int (((f_NC_tell Sq (-1) (-1) (-1)) 0) 9 0), .int (((f_NC_tell Sq (-1) (-1) (-1)) 0) 10 0), .int (((f_NC_tell Sq (-1) (-1) (-1)) 0) 11 0), .int (((f_NC_tell Sq (-1) (-1) (-1)) 0) 12 0), .int (((f_NC_tell Sq (-1) (-1) (-1)) 0) 13 0), .int (((f_NC_tell Sq (-1) (-1) (-1)) 0) 14 0)]))) := hD
          have hP : va_P (dC, dI) classes (w_NC cA (nc_sw ad 4 5) (upr (upr (f_NC_tell Sq (-1) (-1) (-1)) 4 ((f_NC_tell Sq (-1) (-1) (-1)) 5)) 5 ((f_NC_tell Sq (-1) (-1) (-1)) 4))) H := hP.sub [0, 1, 2, 3, 4, 5, 6, 7, 8, 9, 10, 11, 12, 13, 14, 15, 16, 17, 18, 19, 20, 21, 22, 23, 24, 25, 26, 29, 30, 27, 28] rfl
          have hD : va_D A (w_NC cA (nc_sw ad 4 5) (upr (upr (f_NC_tell Sq (-1) (-1) (-1)) 4 ((f_NC_tell Sq (-1) (-1) (-1)) 5)) 5 ((f_NC_tell Sq (-1) (-1) (-1)) 4))) := hD.sub [0, 1, 2, 3, 4, 5, 6, 7, 8, 9, 10, 11, 12, 13, 14, 15, 16, 17, 18, 19, 20, 21, 22, 23, 24, 25, 26, 29, 30, 27, 28] (by decide) rfl
          refine lv_aload_n hx hb d_NC_goThrough_90 rfl (lv_at hl 1 rfl) ?_
          refine va_get (D := (dC, dI)) (ci := 0) (v := .ref ((ad 5) 0)) (C := R_NC) (T := F_NC) (N := 15) hx hb hts i_NC hown hK hP 0 rfl rfl 7 (by decide) (hts _ m_f_NC_43) (fun _ h9 => h9) rfl d_NC_goThrough_91 ?_
          refine va_getN (D := (dC, dI)) (ci := 3) (v := .int (((f_NC_tell Sq (-1) (-1) (-1)) 5) 1 0)) (C := R_Picks) (T := F_Picks) (N := 3) hx hb hts i_Picks hown hK hP 27 rfl rfl 1 (by decide) (va_Nw.use rfl (hN _ m_f_NC_145)) (fun _ h9 => h9) rfl d_NC_goThrough_94 ?_
          have hF : (f_NC_goThrough S) = ((((f_NC_tell Sq (-1) (-1) (-1)) 5) 1 0), (upr (upr (f_NC_tell Sq (-1) (-1) (-1)) 4 ((f_NC_tell Sq (-1) (-1) (-1)) 5)) 5 ((f_NC_tell Sq (-1) (-1) (-1)) 4))) := by rw [hE, f_NC_goThrough_L14, if_pos c_334, if_pos c_335]
          exact W.iret (v := (((f_NC_tell Sq (-1) (-1) (-1)) 5) 1 0)) hx hb hr (fun t ht hW => ⟨⟨(((f_NC_tell Sq (-1) (-1) (-1)) 5) 1 0), (nc_sw ad 4 5), rfl, by rw [hF], by rw [hF, ht]; exact hP, by rw [hF]; exact hD⟩, hS.F ht⟩) hS.2.2 d_NC_goThrough_97
        · refine lv_bipush (v := (-17)) hx hb d_NC_goThrough_69 (by decide) ?_
          have hF : (f_NC_goThrough S) = ((-17), (f_NC_tell Sq (-1) (-1) (-1))) := by rw [hE, f_NC_goThrough_L14, if_pos c_334, if_neg c_335]
          exact W.iret (v := (-17)) hx hb hr (fun t ht hW => ⟨⟨(-17), ad, rfl, by rw [hF], by rw [hF, ht]; exact hP, by rw [hF]; exact hD⟩, hS.F ht⟩) hS.2.2 d_NC_goThrough_71
      · refine lv_aload_n hx hb d_NC_goThrough_25 rfl (lv_at hl 0 rfl) ?_
        refine lv_iload_n hx hb d_NC_goThrough_26 rfl (lv_at hl 1 rfl) ?_
        have hFc := nc_free hD hS hA
        refine nc_mui (va_runV (As := [.int z1]) (rest := []) hfix (c_NC_goThroughPart l dC dI cA H.size ad Sq z1 hg) (k_NC_183 hts hN ⟨Nat.le_of_ble_eq_true rfl, Nat.le_of_ble_eq_true rfl⟩) (nc_preVM hK hN hP hD rfl rfl) rfl rfl hl.1 rfl (lv_room (Nat.le_of_ble_eq_true rfl)) d_NC_goThrough_27 ⟨Nat.zero_le _, Nat.zero_le _⟩) hS hFc (fun r H locs er hP1 hD1 hk1 hS => ?_)
        subst er
        have hP : va_P (dC, dI) classes (w_NC cA ad (f_NC_goThroughPart Sq z1).2) H := hP1
        have hD : va_D A (w_NC cA ad (f_NC_goThroughPart Sq z1).2) := hD1.weaken (fun _ q _ h => hFc q.1 h)
        refine lv_istore_n (lv' := [(2, .int (f_NC_goThroughPart Sq z1).1), (0, .ref ((ad 0) 0)), (1, .int z1)]) hx hb d_NC_goThrough_30 rfl hl (by decide) rfl (fun ls hl => ?_)
        refine lv_iload_n hx hb d_NC_goThrough_31 rfl (lv_at hl 0 rfl) ?_
        refine lv_if_eq (tgt := 42) hx hb d_NC_goThrough_32 (by decide) (fun c_336 => ?_) (fun c_336 => ?_)
        · refine lv_iinc (v := (z1 + 1)) (lv' := [(1, .int (z1 + 1)), (2, .int (f_NC_goThroughPart Sq z1).1), (0, .ref ((ad 0) 0))]) hx hb d_NC_goThrough_42 hl (k := 2) rfl rfl (by decide) rfl (fun ls hl => ?_)
          refine lv_goto (tgt := 14) hx hb d_NC_goThrough_45 (by decide) ?_
          exact ih (f_NC_goThroughPart Sq z1).2 (z1 + 1) H locs ls (by rw [hE, f_NC_goThrough_L14, if_neg c_334, if_pos c_336]) (by rw [gtp_P]; exact nc_mu_step c_334 hm) (gtp_z hg) hP hD hS (lv_sub hl [2, 0] rfl)
        · refine lv_aload_n hx hb d_NC_goThrough_35 rfl (lv_at hl 1 rfl) ?_
          refine lv_iload_n hx hb d_NC_goThrough_36 rfl (lv_at hl 2 rfl) ?_
          refine lv_iload_n hx hb d_NC_goThrough_37 rfl (lv_at hl 0 rfl) ?_
          have hFc := nc_free hD hS hA
          refine nc_mui (va_runV (As := [.int z1, .int (f_NC_goThroughPart Sq z1).1]) (rest := []) hfix (c_NC_endAt l dC dI cA H.size ad (f_NC_goThroughPart Sq z1).2 z1 (f_NC_goThroughPart Sq z1).1) (k_NC_186 hts hN ⟨Nat.le_of_ble_eq_true rfl, Nat.le_of_ble_eq_true rfl⟩) (nc_preVM hK hN hP hD rfl rfl) rfl rfl hl.1 rfl (lv_room (Nat.le_of_ble_eq_true rfl)) d_NC_goThrough_38 ⟨Nat.zero_le _, Nat.zero_le _⟩) hS hFc (fun r H locs er hP1 hD1 hk1 hS => ?_)
          subst er
          have hP : va_P (dC, dI) classes (w_NC cA ad (f_NC_endAt (f_NC_goThroughPart Sq z1).2 z1 (f_NC_goThroughPart Sq z1).1).2) H := hP1
          have hD : va_D A (w_NC cA ad (f_NC_endAt (f_NC_goThroughPart Sq z1).2 z1 (f_NC_goThroughPart Sq z1).1).2) := hD1.weaken (fun _ q _ h => hFc q.1 h)
          have hF : (f_NC_goThrough S) = ((f_NC_endAt (f_NC_goThroughPart Sq z1).2 z1 (f_NC_goThroughPart Sq z1).1).1, (f_NC_endAt (f_NC_goThroughPart Sq z1).2 z1 (f_NC_goThroughPart Sq z1).1).2) := by rw [hE, f_NC_goThrough_L14, if_neg c_334, if_neg c_336]
          exact W.iret (v := (f_NC_endAt (f_NC_goThroughPart Sq z1).2 z1 (f_NC_goThroughPart Sq z1).1).1) hx hb hr (fun t ht hW => ⟨⟨(f_NC_endAt (f_NC_goThroughPart Sq z1).2 z1 (f_NC_goThroughPart Sq z1).1).1, ad, rfl, by rw [hF], by rw [hF, ht]; exact hP, by rw [hF]; exact hD⟩, hS.F ht⟩) hS.2.2 d_NC_goThrough_41
  exact loop_14 (nc_mu ((S 2) 4 0) 0 + 1) (upr (upr S 0 (upf (S 0) 10 (fun _ => 0))) 5 (f_Picks_clear (S 5))) 0 H locs ls (by rw [f_NC_goThrough]) (Nat.lt_succ_self _) (by show 0 ≤ (0 : Int32).toInt; decide) hP hD hS (lv_sub hl [1, 0] rfl)
def f_NC_thing (S : Nat → Nat → Nat → Int32) : Int32 × (Nat → Nat → Nat → Int32) := ((f_Things_add (S 1)).1, (upr S 1 (f_Things_add (S 1)).2))
abbrev ws_NC_thing : List Cond := .code y_NC_thing b_NC_thing 1 (some .int) :: lw_G
abbrev rm_NC_thing : Room := { frames := 1, cells := 0, slots := 0, locals := 20 }
set_option maxHeartbeats 4000000 in
set_option maxRecDepth 100000 in
theorem c_NC_thing (l : Launch) (dC : Nat → ClassId) (dI : Nat → Nat → Nat) (cA : ClassId) (sz : Nat) (ad : Nat → Nat → Nat) (S : Nat → Nat → Nat → Int32) : Met l y_NC_thing ws_NC_thing rm_NC_thing (nc_PreM (dC, dI) cA sz [.ref ((ad 0) 0)] (w_NC cA ad S)) (va_Qi (fun r (_ : Unit) => r = (f_NC_thing S).1) (fun _ t => va_P (dC, dI) classes (w_NC cA ad (f_NC_thing S).2) t.heap ∧ va_D (va_A (w_NC cA ad S) sz) (w_NC cA ad (f_NC_thing S).2)) (va_A (w_NC cA ad S) sz)) 0 0 (va_A (w_NC cA ad S) sz) := by
  refine Met.ofW (cc := b_NC_thing) (maxL := 1) (ret := (some .int)) (by decide) rfl ?_
  intro p e s m args below meth c s₁ B hml hv
  obtain ⟨rfl, hsz, hP, hK, hD0, hN⟩ := hv
  have hx := B.exec
  have hb := B.bytes
  have hr := B.returns
  have hts : ∀ w ∈ lw_G, w.before [.ref ((ad 0) 0)].toArray s = true := fun w h => atoms_spec (ws := ws_NC_thing) B.pre w (List.mem_cons_of_mem _ h)
  have hown : s.vm.findClass R_NC = some m.cls := findClass_of_methodNamed B.named
  have hlocks := B.notSynchronized
  have hfix : CallFix p m c b_NC_thing 1 s [.ref ((ad 0) 0)].toArray lw_G R_NC := ⟨hx, hb, hml, hown, hts⟩
  subst hsz
  have hD := hD0.self (sz := s.heap.size)
  generalize hAe : va_A (w_NC cA ad S) s.heap.size = A at hD ⊢
  have hA : ∀ q : Nat, s.heap.size ≤ q → A q := fun q h => by rw [← hAe]; exact Or.inr h
  have hS : va_S A s.heap s.heap [] := va_S.rf
  have hl := lv_entry ([.ref ((ad 0) 0)]) (n := 1) (Nat.le_of_ble_eq_true rfl)
  rw [lg_entry_eq]
  generalize (lg_sl ([.ref ((ad 0) 0)]) ++ List.replicate (1 - (lg_sl ([.ref ((ad 0) 0)])).length) Slot.unset).toArray = ls at hl ⊢
  have hl : lv_has ls 1 [(0, .ref ((ad 0) 0))] := hl
  refine lv_aload_n hx hb d_NC_thing_0 rfl (lv_at hl 0 rfl) ?_
  refine va_get (D := (dC, dI)) (ci := 0) (v := .ref ((ad 1) 0)) (C := R_NC) (T := F_NC) (N := 15) hx hb hts i_NC hown hK hP 0 rfl rfl 0 (by decide) (hts _ m_f_NC_10) (fun _ h9 => h9) rfl d_NC_thing_1 ?_
  have hP_w_337 := hP.sub (ws' := (w_Things cA (ad 1) (S 1))) [3, 4, 5, 6, 7, 8, 9, 10] rfl
  have hD_w_337 := hD.sub (ws' := (w_Things cA (ad 1) (S 1))) [3, 4, 5, 6, 7, 8, 9, 10] (by decide) rfl
  have hFc := va_free (wc := (w_Things cA (ad 1) (S 1))) hD hS hA [3, 4, 5, 6, 7, 8, 9, 10] rfl
  refine nc_mui (va_runV (As := []) (rest := []) hfix (c_Things_add l dC dI cA s.heap.size (ad 1) (S 1)) (k_NC_74 hts hN ⟨Nat.le_of_ble_eq_true rfl, Nat.le_of_ble_eq_true rfl⟩) (nc_preVM hK hN hP_w_337 hD_w_337 rfl rfl) rfl rfl hl.1 rfl (lv_room (Nat.le_of_ble_eq_true rfl)) d_NC_thing_4 ⟨Nat.zero_le _, Nat.zero_le _⟩) hS hFc (fun r H locs er hP1 hD1 hk1 hS => ?_)
  subst er
  obtain ⟨hP, hD⟩ := va_join (wr := va_pick (w_NC cA ad S) [0, 1, 2, 11, 12, 13, 14, 15, 16, 17, 18, 19, 20, 21, 22, 23, 24, 25, 26, 27, 28, 29, 30]) (w1 := (w_Things cA (ad 1) (f_Things_add (S 1)).2)) hP hD [3, 4, 5, 6, 7, 8, 9, 10] [0, 1, 2, 11, 12, 13, 14, 15, 16, 17, 18, 19, 20, 21, 22, 23, 24, 25, 26, 27, 28, 29, 30] rfl rfl (by decide) (by decide) hk1 hFc hP1 hD1
  have hP : va_P (dC, dI) classes (w_NC cA ad (upr S 1 (f_Things_add (S 1)).2)) H := hP.sub [0, 1, 2, 23, 24, 25, 26, 27, 28, 29, 30, 3, 4, 5, 6, 7, 8, 9, 10, 11, 12, 13, 14, 15, 16, 17, 18, 19, 20, 21, 22] rfl
  have hD : va_D A (w_NC cA ad (upr S 1 (f_Things_add (S 1)).2)) := hD.sub [0, 1, 2, 23, 24, 25, 26, 27, 28, 29, 30, 3, 4, 5, 6, 7, 8, 9, 10, 11, 12, 13, 14, 15, 16, 17, 18, 19, 20, 21, 22] (by decide) rfl
  have hF : (f_NC_thing S) = ((f_Things_add (S 1)).1, (upr S 1 (f_Things_add (S 1)).2)) := by rw [f_NC_thing]
  exact W.iret (v := (f_Things_add (S 1)).1) hx hb hr (fun t ht hW => ⟨⟨(f_Things_add (S 1)).1, (), rfl, by rw [hF], by rw [hF, ht]; exact hP, by rw [hF]; exact hD⟩, hS.F ht⟩) hS.2.2 d_NC_thing_7
def f_NC_word (S : Nat → Nat → Nat → Int32) (x1 x2 x3 x4 : Int32) : Int32 × (Nat → Nat → Nat → Int32) := ((f_Things_setWord (S 1) x1 x2 x3 x4).1, (upr S 1 (f_Things_setWord (S 1) x1 x2 x3 x4).2))
abbrev ws_NC_word : List Cond := .code y_NC_word b_NC_word 5 (some .int) :: lw_G
abbrev rm_NC_word : Room := { frames := 2, cells := 0, slots := 0, locals := 47 }
set_option maxHeartbeats 4000000 in
set_option maxRecDepth 100000 in
theorem c_NC_word (l : Launch) (dC : Nat → ClassId) (dI : Nat → Nat → Nat) (cA : ClassId) (sz : Nat) (ad : Nat → Nat → Nat) (S : Nat → Nat → Nat → Int32) (x1 x2 x3 x4 : Int32) : Met l y_NC_word ws_NC_word rm_NC_word (nc_PreM (dC, dI) cA sz [.ref ((ad 0) 0), .int x1, .int x2, .int x3, .int x4] (w_NC cA ad S)) (va_Qi (fun r (_ : Unit) => r = (f_NC_word S x1 x2 x3 x4).1) (fun _ t => va_P (dC, dI) classes (w_NC cA ad (f_NC_word S x1 x2 x3 x4).2) t.heap ∧ va_D (va_A (w_NC cA ad S) sz) (w_NC cA ad (f_NC_word S x1 x2 x3 x4).2)) (va_A (w_NC cA ad S) sz)) 0 0 (va_A (w_NC cA ad S) sz) := by
  refine Met.ofW (cc := b_NC_word) (maxL := 5) (ret := (some .int)) (by decide) rfl ?_
  intro p e s m args below meth c s₁ B hml hv
  obtain ⟨rfl, hsz, hP, hK, hD0, hN⟩ := hv
  have hx := B.exec
  have hb := B.bytes
  have hr := B.returns
  have hts : ∀ w ∈ lw_G, w.before [.ref ((ad 0) 0), .int x1, .int x2, .int x3, .int x4].toArray s = true := fun w h => atoms_spec (ws := ws_NC_word) B.pre w (List.mem_cons_of_mem _ h)
  have hown : s.vm.findClass R_NC = some m.cls := findClass_of_methodNamed B.named
  have hlocks := B.notSynchronized
  have hfix : CallFix p m c b_NC_word 5 s [.ref ((ad 0) 0), .int x1, .int x2, .int x3, .int x4].toArray lw_G R_NC := ⟨hx, hb, hml, hown, hts⟩
  subst hsz
  have hD := hD0.self (sz := s.heap.size)
  generalize hAe : va_A (w_NC cA ad S) s.heap.size = A at hD ⊢
  have hA : ∀ q : Nat, s.heap.size ≤ q → A q := fun q h => by rw [← hAe]; exact Or.inr h
  have hS : va_S A s.heap s.heap [] := va_S.rf
  have hl := lv_entry ([.ref ((ad 0) 0), .int x1, .int x2, .int x3, .int x4]) (n := 5) (Nat.le_of_ble_eq_true rfl)
  rw [lg_entry_eq]
  generalize (lg_sl ([.ref ((ad 0) 0), .int x1, .int x2, .int x3, .int x4]) ++ List.replicate (5 - (lg_sl ([.ref ((ad 0) 0), .int x1, .int x2, .int x3, .int x4])).length) Slot.unset).toArray = ls at hl ⊢
  have hl : lv_has ls 5 [(0, .ref ((ad 0) 0)), (1, .int x1), (2, .int x2), (3, .int x3), (4, .int x4)] := hl
  refine lv_aload_n hx hb d_NC_word_0 rfl (lv_at hl 0 rfl) ?_
  refine va_get (D := (dC, dI)) (ci := 0) (v := .ref ((ad 1) 0)) (C := R_NC) (T := F_NC) (N := 15) hx hb hts i_NC hown hK hP 0 rfl rfl 0 (by decide) (hts _ m_f_NC_10) (fun _ h9 => h9) rfl d_NC_word_1 ?_
  refine lv_iload_n hx hb d_NC_word_4 rfl (lv_at hl 1 rfl) ?_
  refine lv_iload_n hx hb d_NC_word_5 rfl (lv_at hl 2 rfl) ?_
  refine lv_iload_n hx hb d_NC_word_6 rfl (lv_at hl 3 rfl) ?_
  refine lv_iload hx hb d_NC_word_7 (lv_at hl 4 rfl) ?_
  have hP_w_338 := hP.sub (ws' := (w_Things cA (ad 1) (S 1))) [3, 4, 5, 6, 7, 8, 9, 10] rfl
  have hD_w_338 := hD.sub (ws' := (w_Things cA (ad 1) (S 1))) [3, 4, 5, 6, 7, 8, 9, 10] (by decide) rfl
  have hFc := va_free (wc := (w_Things cA (ad 1) (S 1))) hD hS hA [3, 4, 5, 6, 7, 8, 9, 10] rfl
  refine nc_mui (va_runV (As := [.int x1, .int x2, .int x3, .int x4]) (rest := []) hfix (c_Things_setWord l dC dI cA s.heap.size (ad 1) (S 1) x1 x2 x3 x4) (k_NC_78 hts hN ⟨Nat.le_of_ble_eq_true rfl, Nat.le_of_ble_eq_true rfl⟩) (nc_preVM hK hN hP_w_338 hD_w_338 rfl rfl) rfl rfl hl.1 rfl (lv_room (Nat.le_of_ble_eq_true rfl)) d_NC_word_9 ⟨Nat.zero_le _, Nat.zero_le _⟩) hS hFc (fun r H locs er hP1 hD1 hk1 hS => ?_)
  subst er
  obtain ⟨hP, hD⟩ := va_join (wr := va_pick (w_NC cA ad S) [0, 1, 2, 11, 12, 13, 14, 15, 16, 17, 18, 19, 20, 21, 22, 23, 24, 25, 26, 27, 28, 29, 30]) (w1 := (w_Things cA (ad 1) (f_Things_setWord (S 1) x1 x2 x3 x4).2)) hP hD [3, 4, 5, 6, 7, 8, 9, 10] [0, 1, 2, 11, 12, 13, 14, 15, 16, 17, 18, 19, 20, 21, 22, 23, 24, 25, 26, 27, 28, 29, 30] rfl rfl (by decide) (by decide) hk1 hFc hP1 hD1
  have hP : va_P (dC, dI) classes (w_NC cA ad (upr S 1 (f_Things_setWord (S 1) x1 x2 x3 x4).2)) H := hP.sub [0, 1, 2, 23, 24, 25, 26, 27, 28, 29, 30, 3, 4, 5, 6, 7, 8, 9, 10, 11, 12, 13, 14, 15, 16, 17, 18, 19, 20, 21, 22] rfl
  have hD : va_D A (w_NC cA ad (upr S 1 (f_Things_setWord (S 1) x1 x2 x3 x4).2)) := hD.sub [0, 1, 2, 23, 24, 25, 26, 27, 28, 29, 30, 3, 4, 5, 6, 7, 8, 9, 10, 11, 12, 13, 14, 15, 16, 17, 18, 19, 20, 21, 22] (by decide) rfl
  have hF : (f_NC_word S x1 x2 x3 x4) = ((f_Things_setWord (S 1) x1 x2 x3 x4).1, (upr S 1 (f_Things_setWord (S 1) x1 x2 x3 x4).2)) := by rw [f_NC_word]
  exact W.iret (v := (f_Things_setWord (S 1) x1 x2 x3 x4).1) hx hb hr (fun t ht hW => ⟨⟨(f_Things_setWord (S 1) x1 x2 x3 x4).1, (), rfl, by rw [hF], by rw [hF, ht]; exact hP, by rw [hF]; exact hD⟩, hS.F ht⟩) hS.2.2 d_NC_word_12
def f_NC_kind (S : Nat → Nat → Nat → Int32) (x1 x2 : Int32) : Int32 × (Nat → Nat → Nat → Int32) := ((f_Things_setKind (S 1) x1 x2).1, (upr S 1 (f_Things_setKind (S 1) x1 x2).2))
abbrev ws_NC_kind : List Cond := .code y_NC_kind b_NC_kind 3 (some .int) :: lw_G
abbrev rm_NC_kind : Room := { frames := 2, cells := 0, slots := 0, locals := 44 }
set_option maxHeartbeats 4000000 in
set_option maxRecDepth 100000 in
theorem c_NC_kind (l : Launch) (dC : Nat → ClassId) (dI : Nat → Nat → Nat) (cA : ClassId) (sz : Nat) (ad : Nat → Nat → Nat) (S : Nat → Nat → Nat → Int32) (x1 x2 : Int32) : Met l y_NC_kind ws_NC_kind rm_NC_kind (nc_PreM (dC, dI) cA sz [.ref ((ad 0) 0), .int x1, .int x2] (w_NC cA ad S)) (va_Qi (fun r (_ : Unit) => r = (f_NC_kind S x1 x2).1) (fun _ t => va_P (dC, dI) classes (w_NC cA ad (f_NC_kind S x1 x2).2) t.heap ∧ va_D (va_A (w_NC cA ad S) sz) (w_NC cA ad (f_NC_kind S x1 x2).2)) (va_A (w_NC cA ad S) sz)) 0 0 (va_A (w_NC cA ad S) sz) := by
  refine Met.ofW (cc := b_NC_kind) (maxL := 3) (ret := (some .int)) (by decide) rfl ?_
  intro p e s m args below meth c s₁ B hml hv
  obtain ⟨rfl, hsz, hP, hK, hD0, hN⟩ := hv
  have hx := B.exec
  have hb := B.bytes
  have hr := B.returns
  have hts : ∀ w ∈ lw_G, w.before [.ref ((ad 0) 0), .int x1, .int x2].toArray s = true := fun w h => atoms_spec (ws := ws_NC_kind) B.pre w (List.mem_cons_of_mem _ h)
  have hown : s.vm.findClass R_NC = some m.cls := findClass_of_methodNamed B.named
  have hlocks := B.notSynchronized
  have hfix : CallFix p m c b_NC_kind 3 s [.ref ((ad 0) 0), .int x1, .int x2].toArray lw_G R_NC := ⟨hx, hb, hml, hown, hts⟩
  subst hsz
  have hD := hD0.self (sz := s.heap.size)
  generalize hAe : va_A (w_NC cA ad S) s.heap.size = A at hD ⊢
  have hA : ∀ q : Nat, s.heap.size ≤ q → A q := fun q h => by rw [← hAe]; exact Or.inr h
  have hS : va_S A s.heap s.heap [] := va_S.rf
  have hl := lv_entry ([.ref ((ad 0) 0), .int x1, .int x2]) (n := 3) (Nat.le_of_ble_eq_true rfl)
  rw [lg_entry_eq]
  generalize (lg_sl ([.ref ((ad 0) 0), .int x1, .int x2]) ++ List.replicate (3 - (lg_sl ([.ref ((ad 0) 0), .int x1, .int x2])).length) Slot.unset).toArray = ls at hl ⊢
  have hl : lv_has ls 3 [(0, .ref ((ad 0) 0)), (1, .int x1), (2, .int x2)] := hl
  refine lv_aload_n hx hb d_NC_kind_0 rfl (lv_at hl 0 rfl) ?_
  refine va_get (D := (dC, dI)) (ci := 0) (v := .ref ((ad 1) 0)) (C := R_NC) (T := F_NC) (N := 15) hx hb hts i_NC hown hK hP 0 rfl rfl 0 (by decide) (hts _ m_f_NC_10) (fun _ h9 => h9) rfl d_NC_kind_1 ?_
  refine lv_iload_n hx hb d_NC_kind_4 rfl (lv_at hl 1 rfl) ?_
  refine lv_iload_n hx hb d_NC_kind_5 rfl (lv_at hl 2 rfl) ?_
  have hP_w_339 := hP.sub (ws' := (w_Things cA (ad 1) (S 1))) [3, 4, 5, 6, 7, 8, 9, 10] rfl
  have hD_w_339 := hD.sub (ws' := (w_Things cA (ad 1) (S 1))) [3, 4, 5, 6, 7, 8, 9, 10] (by decide) rfl
  have hFc := va_free (wc := (w_Things cA (ad 1) (S 1))) hD hS hA [3, 4, 5, 6, 7, 8, 9, 10] rfl
  refine nc_mui (va_runV (As := [.int x1, .int x2]) (rest := []) hfix (c_Things_setKind l dC dI cA s.heap.size (ad 1) (S 1) x1 x2) (k_NC_82 hts hN ⟨Nat.le_of_ble_eq_true rfl, Nat.le_of_ble_eq_true rfl⟩) (nc_preVM hK hN hP_w_339 hD_w_339 rfl rfl) rfl rfl hl.1 rfl (lv_room (Nat.le_of_ble_eq_true rfl)) d_NC_kind_6 ⟨Nat.zero_le _, Nat.zero_le _⟩) hS hFc (fun r H locs er hP1 hD1 hk1 hS => ?_)
  subst er
  obtain ⟨hP, hD⟩ := va_join (wr := va_pick (w_NC cA ad S) [0, 1, 2, 11, 12, 13, 14, 15, 16, 17, 18, 19, 20, 21, 22, 23, 24, 25, 26, 27, 28, 29, 30]) (w1 := (w_Things cA (ad 1) (f_Things_setKind (S 1) x1 x2).2)) hP hD [3, 4, 5, 6, 7, 8, 9, 10] [0, 1, 2, 11, 12, 13, 14, 15, 16, 17, 18, 19, 20, 21, 22, 23, 24, 25, 26, 27, 28, 29, 30] rfl rfl (by decide) (by decide) hk1 hFc hP1 hD1
  have hP : va_P (dC, dI) classes (w_NC cA ad (upr S 1 (f_Things_setKind (S 1) x1 x2).2)) H := hP.sub [0, 1, 2, 23, 24, 25, 26, 27, 28, 29, 30, 3, 4, 5, 6, 7, 8, 9, 10, 11, 12, 13, 14, 15, 16, 17, 18, 19, 20, 21, 22] rfl
  have hD : va_D A (w_NC cA ad (upr S 1 (f_Things_setKind (S 1) x1 x2).2)) := hD.sub [0, 1, 2, 23, 24, 25, 26, 27, 28, 29, 30, 3, 4, 5, 6, 7, 8, 9, 10, 11, 12, 13, 14, 15, 16, 17, 18, 19, 20, 21, 22] (by decide) rfl
  have hF : (f_NC_kind S x1 x2) = ((f_Things_setKind (S 1) x1 x2).1, (upr S 1 (f_Things_setKind (S 1) x1 x2).2)) := by rw [f_NC_kind]
  exact W.iret (v := (f_Things_setKind (S 1) x1 x2).1) hx hb hr (fun t ht hW => ⟨⟨(f_Things_setKind (S 1) x1 x2).1, (), rfl, by rw [hF], by rw [hF, ht]; exact hP, by rw [hF]; exact hD⟩, hS.F ht⟩) hS.2.2 d_NC_kind_9
def f_NC_place (S : Nat → Nat → Nat → Int32) (x1 x2 : Int32) : Int32 × (Nat → Nat → Nat → Int32) := ((f_Things_setPlace (S 1) x1 x2).1, (upr S 1 (f_Things_setPlace (S 1) x1 x2).2))
abbrev ws_NC_place : List Cond := .code y_NC_place b_NC_place 3 (some .int) :: lw_G
abbrev rm_NC_place : Room := { frames := 2, cells := 0, slots := 0, locals := 44 }
set_option maxHeartbeats 4000000 in
set_option maxRecDepth 100000 in
theorem c_NC_place (l : Launch) (dC : Nat → ClassId) (dI : Nat → Nat → Nat) (cA : ClassId) (sz : Nat) (ad : Nat → Nat → Nat) (S : Nat → Nat → Nat → Int32) (x1 x2 : Int32) : Met l y_NC_place ws_NC_place rm_NC_place (nc_PreM (dC, dI) cA sz [.ref ((ad 0) 0), .int x1, .int x2] (w_NC cA ad S)) (va_Qi (fun r (_ : Unit) => r = (f_NC_place S x1 x2).1) (fun _ t => va_P (dC, dI) classes (w_NC cA ad (f_NC_place S x1 x2).2) t.heap ∧ va_D (va_A (w_NC cA ad S) sz) (w_NC cA ad (f_NC_place S x1 x2).2)) (va_A (w_NC cA ad S) sz)) 0 0 (va_A (w_NC cA ad S) sz) := by
  refine Met.ofW (cc := b_NC_place) (maxL := 3) (ret := (some .int)) (by decide) rfl ?_
  intro p e s m args below meth c s₁ B hml hv
  obtain ⟨rfl, hsz, hP, hK, hD0, hN⟩ := hv
  have hx := B.exec
  have hb := B.bytes
  have hr := B.returns
  have hts : ∀ w ∈ lw_G, w.before [.ref ((ad 0) 0), .int x1, .int x2].toArray s = true := fun w h => atoms_spec (ws := ws_NC_place) B.pre w (List.mem_cons_of_mem _ h)
  have hown : s.vm.findClass R_NC = some m.cls := findClass_of_methodNamed B.named
  have hlocks := B.notSynchronized
  have hfix : CallFix p m c b_NC_place 3 s [.ref ((ad 0) 0), .int x1, .int x2].toArray lw_G R_NC := ⟨hx, hb, hml, hown, hts⟩
  subst hsz
  have hD := hD0.self (sz := s.heap.size)
  generalize hAe : va_A (w_NC cA ad S) s.heap.size = A at hD ⊢
  have hA : ∀ q : Nat, s.heap.size ≤ q → A q := fun q h => by rw [← hAe]; exact Or.inr h
  have hS : va_S A s.heap s.heap [] := va_S.rf
  have hl := lv_entry ([.ref ((ad 0) 0), .int x1, .int x2]) (n := 3) (Nat.le_of_ble_eq_true rfl)
  rw [lg_entry_eq]
  generalize (lg_sl ([.ref ((ad 0) 0), .int x1, .int x2]) ++ List.replicate (3 - (lg_sl ([.ref ((ad 0) 0), .int x1, .int x2])).length) Slot.unset).toArray = ls at hl ⊢
  have hl : lv_has ls 3 [(0, .ref ((ad 0) 0)), (1, .int x1), (2, .int x2)] := hl
  refine lv_aload_n hx hb d_NC_place_0 rfl (lv_at hl 0 rfl) ?_
  refine va_get (D := (dC, dI)) (ci := 0) (v := .ref ((ad 1) 0)) (C := R_NC) (T := F_NC) (N := 15) hx hb hts i_NC hown hK hP 0 rfl rfl 0 (by decide) (hts _ m_f_NC_10) (fun _ h9 => h9) rfl d_NC_place_1 ?_
  refine lv_iload_n hx hb d_NC_place_4 rfl (lv_at hl 1 rfl) ?_
  refine lv_iload_n hx hb d_NC_place_5 rfl (lv_at hl 2 rfl) ?_
  have hP_w_340 := hP.sub (ws' := (w_Things cA (ad 1) (S 1))) [3, 4, 5, 6, 7, 8, 9, 10] rfl
  have hD_w_340 := hD.sub (ws' := (w_Things cA (ad 1) (S 1))) [3, 4, 5, 6, 7, 8, 9, 10] (by decide) rfl
  have hFc := va_free (wc := (w_Things cA (ad 1) (S 1))) hD hS hA [3, 4, 5, 6, 7, 8, 9, 10] rfl
  refine nc_mui (va_runV (As := [.int x1, .int x2]) (rest := []) hfix (c_Things_setPlace l dC dI cA s.heap.size (ad 1) (S 1) x1 x2) (k_NC_86 hts hN ⟨Nat.le_of_ble_eq_true rfl, Nat.le_of_ble_eq_true rfl⟩) (nc_preVM hK hN hP_w_340 hD_w_340 rfl rfl) rfl rfl hl.1 rfl (lv_room (Nat.le_of_ble_eq_true rfl)) d_NC_place_6 ⟨Nat.zero_le _, Nat.zero_le _⟩) hS hFc (fun r H locs er hP1 hD1 hk1 hS => ?_)
  subst er
  obtain ⟨hP, hD⟩ := va_join (wr := va_pick (w_NC cA ad S) [0, 1, 2, 11, 12, 13, 14, 15, 16, 17, 18, 19, 20, 21, 22, 23, 24, 25, 26, 27, 28, 29, 30]) (w1 := (w_Things cA (ad 1) (f_Things_setPlace (S 1) x1 x2).2)) hP hD [3, 4, 5, 6, 7, 8, 9, 10] [0, 1, 2, 11, 12, 13, 14, 15, 16, 17, 18, 19, 20, 21, 22, 23, 24, 25, 26, 27, 28, 29, 30] rfl rfl (by decide) (by decide) hk1 hFc hP1 hD1
  have hP : va_P (dC, dI) classes (w_NC cA ad (upr S 1 (f_Things_setPlace (S 1) x1 x2).2)) H := hP.sub [0, 1, 2, 23, 24, 25, 26, 27, 28, 29, 30, 3, 4, 5, 6, 7, 8, 9, 10, 11, 12, 13, 14, 15, 16, 17, 18, 19, 20, 21, 22] rfl
  have hD : va_D A (w_NC cA ad (upr S 1 (f_Things_setPlace (S 1) x1 x2).2)) := hD.sub [0, 1, 2, 23, 24, 25, 26, 27, 28, 29, 30, 3, 4, 5, 6, 7, 8, 9, 10, 11, 12, 13, 14, 15, 16, 17, 18, 19, 20, 21, 22] (by decide) rfl
  have hF : (f_NC_place S x1 x2) = ((f_Things_setPlace (S 1) x1 x2).1, (upr S 1 (f_Things_setPlace (S 1) x1 x2).2)) := by rw [f_NC_place]
  exact W.iret (v := (f_Things_setPlace (S 1) x1 x2).1) hx hb hr (fun t ht hW => ⟨⟨(f_Things_setPlace (S 1) x1 x2).1, (), rfl, by rw [hF], by rw [hF, ht]; exact hP, by rw [hF]; exact hD⟩, hS.F ht⟩) hS.2.2 d_NC_place_9
def f_NC_mark (S : Nat → Nat → Nat → Int32) (x1 x2 x3 : Int32) : Int32 × (Nat → Nat → Nat → Int32) := ((f_Things_setMark (S 1) x1 x2 x3).1, (upr S 1 (f_Things_setMark (S 1) x1 x2 x3).2))
abbrev ws_NC_mark : List Cond := .code y_NC_mark b_NC_mark 4 (some .int) :: lw_G
abbrev rm_NC_mark : Room := { frames := 2, cells := 0, slots := 0, locals := 46 }
set_option maxHeartbeats 4000000 in
set_option maxRecDepth 100000 in
theorem c_NC_mark (l : Launch) (dC : Nat → ClassId) (dI : Nat → Nat → Nat) (cA : ClassId) (sz : Nat) (ad : Nat → Nat → Nat) (S : Nat → Nat → Nat → Int32) (x1 x2 x3 : Int32) : Met l y_NC_mark ws_NC_mark rm_NC_mark (nc_PreM (dC, dI) cA sz [.ref ((ad 0) 0), .int x1, .int x2, .int x3] (w_NC cA ad S)) (va_Qi (fun r (_ : Unit) => r = (f_NC_mark S x1 x2 x3).1) (fun _ t => va_P (dC, dI) classes (w_NC cA ad (f_NC_mark S x1 x2 x3).2) t.heap ∧ va_D (va_A (w_NC cA ad S) sz) (w_NC cA ad (f_NC_mark S x1 x2 x3).2)) (va_A (w_NC cA ad S) sz)) 0 0 (va_A (w_NC cA ad S) sz) := by
  refine Met.ofW (cc := b_NC_mark) (maxL := 4) (ret := (some .int)) (by decide) rfl ?_
  intro p e s m args below meth c s₁ B hml hv
  obtain ⟨rfl, hsz, hP, hK, hD0, hN⟩ := hv
  have hx := B.exec
  have hb := B.bytes
  have hr := B.returns
  have hts : ∀ w ∈ lw_G, w.before [.ref ((ad 0) 0), .int x1, .int x2, .int x3].toArray s = true := fun w h => atoms_spec (ws := ws_NC_mark) B.pre w (List.mem_cons_of_mem _ h)
  have hown : s.vm.findClass R_NC = some m.cls := findClass_of_methodNamed B.named
  have hlocks := B.notSynchronized
  have hfix : CallFix p m c b_NC_mark 4 s [.ref ((ad 0) 0), .int x1, .int x2, .int x3].toArray lw_G R_NC := ⟨hx, hb, hml, hown, hts⟩
  subst hsz
  have hD := hD0.self (sz := s.heap.size)
  generalize hAe : va_A (w_NC cA ad S) s.heap.size = A at hD ⊢
  have hA : ∀ q : Nat, s.heap.size ≤ q → A q := fun q h => by rw [← hAe]; exact Or.inr h
  have hS : va_S A s.heap s.heap [] := va_S.rf
  have hl := lv_entry ([.ref ((ad 0) 0), .int x1, .int x2, .int x3]) (n := 4) (Nat.le_of_ble_eq_true rfl)
  rw [lg_entry_eq]
  generalize (lg_sl ([.ref ((ad 0) 0), .int x1, .int x2, .int x3]) ++ List.replicate (4 - (lg_sl ([.ref ((ad 0) 0), .int x1, .int x2, .int x3])).length) Slot.unset).toArray = ls at hl ⊢
  have hl : lv_has ls 4 [(0, .ref ((ad 0) 0)), (1, .int x1), (2, .int x2), (3, .int x3)] := hl
  refine lv_aload_n hx hb d_NC_mark_0 rfl (lv_at hl 0 rfl) ?_
  refine va_get (D := (dC, dI)) (ci := 0) (v := .ref ((ad 1) 0)) (C := R_NC) (T := F_NC) (N := 15) hx hb hts i_NC hown hK hP 0 rfl rfl 0 (by decide) (hts _ m_f_NC_10) (fun _ h9 => h9) rfl d_NC_mark_1 ?_
  refine lv_iload_n hx hb d_NC_mark_4 rfl (lv_at hl 1 rfl) ?_
  refine lv_iload_n hx hb d_NC_mark_5 rfl (lv_at hl 2 rfl) ?_
  refine lv_iload_n hx hb d_NC_mark_6 rfl (lv_at hl 3 rfl) ?_
  have hP_w_341 := hP.sub (ws' := (w_Things cA (ad 1) (S 1))) [3, 4, 5, 6, 7, 8, 9, 10] rfl
  have hD_w_341 := hD.sub (ws' := (w_Things cA (ad 1) (S 1))) [3, 4, 5, 6, 7, 8, 9, 10] (by decide) rfl
  have hFc := va_free (wc := (w_Things cA (ad 1) (S 1))) hD hS hA [3, 4, 5, 6, 7, 8, 9, 10] rfl
  refine nc_mui (va_runV (As := [.int x1, .int x2, .int x3]) (rest := []) hfix (c_Things_setMark l dC dI cA s.heap.size (ad 1) (S 1) x1 x2 x3) (k_NC_89 hts hN ⟨Nat.le_of_ble_eq_true rfl, Nat.le_of_ble_eq_true rfl⟩) (nc_preVM hK hN hP_w_341 hD_w_341 rfl rfl) rfl rfl hl.1 rfl (lv_room (Nat.le_of_ble_eq_true rfl)) d_NC_mark_7 ⟨Nat.zero_le _, Nat.zero_le _⟩) hS hFc (fun r H locs er hP1 hD1 hk1 hS => ?_)
  subst er
  obtain ⟨hP, hD⟩ := va_join (wr := va_pick (w_NC cA ad S) [0, 1, 2, 11, 12, 13, 14, 15, 16, 17, 18, 19, 20, 21, 22, 23, 24, 25, 26, 27, 28, 29, 30]) (w1 := (w_Things cA (ad 1) (f_Things_setMark (S 1) x1 x2 x3).2)) hP hD [3, 4, 5, 6, 7, 8, 9, 10] [0, 1, 2, 11, 12, 13, 14, 15, 16, 17, 18, 19, 20, 21, 22, 23, 24, 25, 26, 27, 28, 29, 30] rfl rfl (by decide) (by decide) hk1 hFc hP1 hD1
  have hP : va_P (dC, dI) classes (w_NC cA ad (upr S 1 (f_Things_setMark (S 1) x1 x2 x3).2)) H := hP.sub [0, 1, 2, 23, 24, 25, 26, 27, 28, 29, 30, 3, 4, 5, 6, 7, 8, 9, 10, 11, 12, 13, 14, 15, 16, 17, 18, 19, 20, 21, 22] rfl
  have hD : va_D A (w_NC cA ad (upr S 1 (f_Things_setMark (S 1) x1 x2 x3).2)) := hD.sub [0, 1, 2, 23, 24, 25, 26, 27, 28, 29, 30, 3, 4, 5, 6, 7, 8, 9, 10, 11, 12, 13, 14, 15, 16, 17, 18, 19, 20, 21, 22] (by decide) rfl
  have hF : (f_NC_mark S x1 x2 x3) = ((f_Things_setMark (S 1) x1 x2 x3).1, (upr S 1 (f_Things_setMark (S 1) x1 x2 x3).2)) := by rw [f_NC_mark]
  exact W.iret (v := (f_Things_setMark (S 1) x1 x2 x3).1) hx hb hr (fun t ht hW => ⟨⟨(f_Things_setMark (S 1) x1 x2 x3).1, (), rfl, by rw [hF], by rw [hF, ht]; exact hP, by rw [hF]; exact hD⟩, hS.F ht⟩) hS.2.2 d_NC_mark_10
def f_NC_plural (S : Nat → Nat → Nat → Int32) (x1 x2 : Int32) : Int32 × (Nat → Nat → Nat → Int32) := ((f_Things_setPlural (S 1) x1 x2).1, (upr S 1 (f_Things_setPlural (S 1) x1 x2).2))
abbrev ws_NC_plural : List Cond := .code y_NC_plural b_NC_plural 3 (some .int) :: lw_G
abbrev rm_NC_plural : Room := { frames := 2, cells := 0, slots := 0, locals := 43 }
set_option maxHeartbeats 4000000 in
set_option maxRecDepth 100000 in
theorem c_NC_plural (l : Launch) (dC : Nat → ClassId) (dI : Nat → Nat → Nat) (cA : ClassId) (sz : Nat) (ad : Nat → Nat → Nat) (S : Nat → Nat → Nat → Int32) (x1 x2 : Int32) : Met l y_NC_plural ws_NC_plural rm_NC_plural (nc_PreM (dC, dI) cA sz [.ref ((ad 0) 0), .int x1, .int x2] (w_NC cA ad S)) (va_Qi (fun r (_ : Unit) => r = (f_NC_plural S x1 x2).1) (fun _ t => va_P (dC, dI) classes (w_NC cA ad (f_NC_plural S x1 x2).2) t.heap ∧ va_D (va_A (w_NC cA ad S) sz) (w_NC cA ad (f_NC_plural S x1 x2).2)) (va_A (w_NC cA ad S) sz)) 0 0 (va_A (w_NC cA ad S) sz) := by
  refine Met.ofW (cc := b_NC_plural) (maxL := 3) (ret := (some .int)) (by decide) rfl ?_
  intro p e s m args below meth c s₁ B hml hv
  obtain ⟨rfl, hsz, hP, hK, hD0, hN⟩ := hv
  have hx := B.exec
  have hb := B.bytes
  have hr := B.returns
  have hts : ∀ w ∈ lw_G, w.before [.ref ((ad 0) 0), .int x1, .int x2].toArray s = true := fun w h => atoms_spec (ws := ws_NC_plural) B.pre w (List.mem_cons_of_mem _ h)
  have hown : s.vm.findClass R_NC = some m.cls := findClass_of_methodNamed B.named
  have hlocks := B.notSynchronized
  have hfix : CallFix p m c b_NC_plural 3 s [.ref ((ad 0) 0), .int x1, .int x2].toArray lw_G R_NC := ⟨hx, hb, hml, hown, hts⟩
  subst hsz
  have hD := hD0.self (sz := s.heap.size)
  generalize hAe : va_A (w_NC cA ad S) s.heap.size = A at hD ⊢
  have hA : ∀ q : Nat, s.heap.size ≤ q → A q := fun q h => by rw [← hAe]; exact Or.inr h
  have hS : va_S A s.heap s.heap [] := va_S.rf
  have hl := lv_entry ([.ref ((ad 0) 0), .int x1, .int x2]) (n := 3) (Nat.le_of_ble_eq_true rfl)
  rw [lg_entry_eq]
  generalize (lg_sl ([.ref ((ad 0) 0), .int x1, .int x2]) ++ List.replicate (3 - (lg_sl ([.ref ((ad 0) 0), .int x1, .int x2])).length) Slot.unset).toArray = ls at hl ⊢
  have hl : lv_has ls 3 [(0, .ref ((ad 0) 0)), (1, .int x1), (2, .int x2)] := hl
  refine lv_aload_n hx hb d_NC_plural_0 rfl (lv_at hl 0 rfl) ?_
  refine va_get (D := (dC, dI)) (ci := 0) (v := .ref ((ad 1) 0)) (C := R_NC) (T := F_NC) (N := 15) hx hb hts i_NC hown hK hP 0 rfl rfl 0 (by decide) (hts _ m_f_NC_10) (fun _ h9 => h9) rfl d_NC_plural_1 ?_
  refine lv_iload_n hx hb d_NC_plural_4 rfl (lv_at hl 1 rfl) ?_
  refine lv_iload_n hx hb d_NC_plural_5 rfl (lv_at hl 2 rfl) ?_
  have hP_w_342 := hP.sub (ws' := (w_Things cA (ad 1) (S 1))) [3, 4, 5, 6, 7, 8, 9, 10] rfl
  have hD_w_342 := hD.sub (ws' := (w_Things cA (ad 1) (S 1))) [3, 4, 5, 6, 7, 8, 9, 10] (by decide) rfl
  have hFc := va_free (wc := (w_Things cA (ad 1) (S 1))) hD hS hA [3, 4, 5, 6, 7, 8, 9, 10] rfl
  refine nc_mui (va_runV (As := [.int x1, .int x2]) (rest := []) hfix (c_Things_setPlural l dC dI cA s.heap.size (ad 1) (S 1) x1 x2) (k_NC_93 hts hN ⟨Nat.le_of_ble_eq_true rfl, Nat.le_of_ble_eq_true rfl⟩) (nc_preVM hK hN hP_w_342 hD_w_342 rfl rfl) rfl rfl hl.1 rfl (lv_room (Nat.le_of_ble_eq_true rfl)) d_NC_plural_6 ⟨Nat.zero_le _, Nat.zero_le _⟩) hS hFc (fun r H locs er hP1 hD1 hk1 hS => ?_)
  subst er
  obtain ⟨hP, hD⟩ := va_join (wr := va_pick (w_NC cA ad S) [0, 1, 2, 11, 12, 13, 14, 15, 16, 17, 18, 19, 20, 21, 22, 23, 24, 25, 26, 27, 28, 29, 30]) (w1 := (w_Things cA (ad 1) (f_Things_setPlural (S 1) x1 x2).2)) hP hD [3, 4, 5, 6, 7, 8, 9, 10] [0, 1, 2, 11, 12, 13, 14, 15, 16, 17, 18, 19, 20, 21, 22, 23, 24, 25, 26, 27, 28, 29, 30] rfl rfl (by decide) (by decide) hk1 hFc hP1 hD1
  have hP : va_P (dC, dI) classes (w_NC cA ad (upr S 1 (f_Things_setPlural (S 1) x1 x2).2)) H := hP.sub [0, 1, 2, 23, 24, 25, 26, 27, 28, 29, 30, 3, 4, 5, 6, 7, 8, 9, 10, 11, 12, 13, 14, 15, 16, 17, 18, 19, 20, 21, 22] rfl
  have hD : va_D A (w_NC cA ad (upr S 1 (f_Things_setPlural (S 1) x1 x2).2)) := hD.sub [0, 1, 2, 23, 24, 25, 26, 27, 28, 29, 30, 3, 4, 5, 6, 7, 8, 9, 10, 11, 12, 13, 14, 15, 16, 17, 18, 19, 20, 21, 22] (by decide) rfl
  have hF : (f_NC_plural S x1 x2) = ((f_Things_setPlural (S 1) x1 x2).1, (upr S 1 (f_Things_setPlural (S 1) x1 x2).2)) := by rw [f_NC_plural]
  exact W.iret (v := (f_Things_setPlural (S 1) x1 x2).1) hx hb hr (fun t ht hW => ⟨⟨(f_Things_setPlural (S 1) x1 x2).1, (), rfl, by rw [hF], by rw [hF, ht]; exact hP, by rw [hF]; exact hD⟩, hS.F ht⟩) hS.2.2 d_NC_plural_9
def f_NC_weight (S : Nat → Nat → Nat → Int32) (x1 x2 : Int32) : Int32 × (Nat → Nat → Nat → Int32) := ((f_Things_setWeight (S 1) x1 x2).1, (upr S 1 (f_Things_setWeight (S 1) x1 x2).2))
abbrev ws_NC_weight : List Cond := .code y_NC_weight b_NC_weight 3 (some .int) :: lw_G
abbrev rm_NC_weight : Room := { frames := 2, cells := 0, slots := 0, locals := 43 }
set_option maxHeartbeats 4000000 in
set_option maxRecDepth 100000 in
theorem c_NC_weight (l : Launch) (dC : Nat → ClassId) (dI : Nat → Nat → Nat) (cA : ClassId) (sz : Nat) (ad : Nat → Nat → Nat) (S : Nat → Nat → Nat → Int32) (x1 x2 : Int32) : Met l y_NC_weight ws_NC_weight rm_NC_weight (nc_PreM (dC, dI) cA sz [.ref ((ad 0) 0), .int x1, .int x2] (w_NC cA ad S)) (va_Qi (fun r (_ : Unit) => r = (f_NC_weight S x1 x2).1) (fun _ t => va_P (dC, dI) classes (w_NC cA ad (f_NC_weight S x1 x2).2) t.heap ∧ va_D (va_A (w_NC cA ad S) sz) (w_NC cA ad (f_NC_weight S x1 x2).2)) (va_A (w_NC cA ad S) sz)) 0 0 (va_A (w_NC cA ad S) sz) := by
  refine Met.ofW (cc := b_NC_weight) (maxL := 3) (ret := (some .int)) (by decide) rfl ?_
  intro p e s m args below meth c s₁ B hml hv
  obtain ⟨rfl, hsz, hP, hK, hD0, hN⟩ := hv
  have hx := B.exec
  have hb := B.bytes
  have hr := B.returns
  have hts : ∀ w ∈ lw_G, w.before [.ref ((ad 0) 0), .int x1, .int x2].toArray s = true := fun w h => atoms_spec (ws := ws_NC_weight) B.pre w (List.mem_cons_of_mem _ h)
  have hown : s.vm.findClass R_NC = some m.cls := findClass_of_methodNamed B.named
  have hlocks := B.notSynchronized
  have hfix : CallFix p m c b_NC_weight 3 s [.ref ((ad 0) 0), .int x1, .int x2].toArray lw_G R_NC := ⟨hx, hb, hml, hown, hts⟩
  subst hsz
  have hD := hD0.self (sz := s.heap.size)
  generalize hAe : va_A (w_NC cA ad S) s.heap.size = A at hD ⊢
  have hA : ∀ q : Nat, s.heap.size ≤ q → A q := fun q h => by rw [← hAe]; exact Or.inr h
  have hS : va_S A s.heap s.heap [] := va_S.rf
  have hl := lv_entry ([.ref ((ad 0) 0), .int x1, .int x2]) (n := 3) (Nat.le_of_ble_eq_true rfl)
  rw [lg_entry_eq]
  generalize (lg_sl ([.ref ((ad 0) 0), .int x1, .int x2]) ++ List.replicate (3 - (lg_sl ([.ref ((ad 0) 0), .int x1, .int x2])).length) Slot.unset).toArray = ls at hl ⊢
  have hl : lv_has ls 3 [(0, .ref ((ad 0) 0)), (1, .int x1), (2, .int x2)] := hl
  refine lv_aload_n hx hb d_NC_weight_0 rfl (lv_at hl 0 rfl) ?_
  refine va_get (D := (dC, dI)) (ci := 0) (v := .ref ((ad 1) 0)) (C := R_NC) (T := F_NC) (N := 15) hx hb hts i_NC hown hK hP 0 rfl rfl 0 (by decide) (hts _ m_f_NC_10) (fun _ h9 => h9) rfl d_NC_weight_1 ?_
  refine lv_iload_n hx hb d_NC_weight_4 rfl (lv_at hl 1 rfl) ?_
  refine lv_iload_n hx hb d_NC_weight_5 rfl (lv_at hl 2 rfl) ?_
  have hP_w_343 := hP.sub (ws' := (w_Things cA (ad 1) (S 1))) [3, 4, 5, 6, 7, 8, 9, 10] rfl
  have hD_w_343 := hD.sub (ws' := (w_Things cA (ad 1) (S 1))) [3, 4, 5, 6, 7, 8, 9, 10] (by decide) rfl
  have hFc := va_free (wc := (w_Things cA (ad 1) (S 1))) hD hS hA [3, 4, 5, 6, 7, 8, 9, 10] rfl
  refine nc_mui (va_runV (As := [.int x1, .int x2]) (rest := []) hfix (c_Things_setWeight l dC dI cA s.heap.size (ad 1) (S 1) x1 x2) (k_NC_96 hts hN ⟨Nat.le_of_ble_eq_true rfl, Nat.le_of_ble_eq_true rfl⟩) (nc_preVM hK hN hP_w_343 hD_w_343 rfl rfl) rfl rfl hl.1 rfl (lv_room (Nat.le_of_ble_eq_true rfl)) d_NC_weight_6 ⟨Nat.zero_le _, Nat.zero_le _⟩) hS hFc (fun r H locs er hP1 hD1 hk1 hS => ?_)
  subst er
  obtain ⟨hP, hD⟩ := va_join (wr := va_pick (w_NC cA ad S) [0, 1, 2, 11, 12, 13, 14, 15, 16, 17, 18, 19, 20, 21, 22, 23, 24, 25, 26, 27, 28, 29, 30]) (w1 := (w_Things cA (ad 1) (f_Things_setWeight (S 1) x1 x2).2)) hP hD [3, 4, 5, 6, 7, 8, 9, 10] [0, 1, 2, 11, 12, 13, 14, 15, 16, 17, 18, 19, 20, 21, 22, 23, 24, 25, 26, 27, 28, 29, 30] rfl rfl (by decide) (by decide) hk1 hFc hP1 hD1
  have hP : va_P (dC, dI) classes (w_NC cA ad (upr S 1 (f_Things_setWeight (S 1) x1 x2).2)) H := hP.sub [0, 1, 2, 23, 24, 25, 26, 27, 28, 29, 30, 3, 4, 5, 6, 7, 8, 9, 10, 11, 12, 13, 14, 15, 16, 17, 18, 19, 20, 21, 22] rfl
  have hD : va_D A (w_NC cA ad (upr S 1 (f_Things_setWeight (S 1) x1 x2).2)) := hD.sub [0, 1, 2, 23, 24, 25, 26, 27, 28, 29, 30, 3, 4, 5, 6, 7, 8, 9, 10, 11, 12, 13, 14, 15, 16, 17, 18, 19, 20, 21, 22] (by decide) rfl
  have hF : (f_NC_weight S x1 x2) = ((f_Things_setWeight (S 1) x1 x2).1, (upr S 1 (f_Things_setWeight (S 1) x1 x2).2)) := by rw [f_NC_weight]
  exact W.iret (v := (f_Things_setWeight (S 1) x1 x2).1) hx hb hr (fun t ht hW => ⟨⟨(f_Things_setWeight (S 1) x1 x2).1, (), rfl, by rw [hF], by rw [hF, ht]; exact hP, by rw [hF]; exact hD⟩, hS.F ht⟩) hS.2.2 d_NC_weight_9
def f_NC_limit (S : Nat → Nat → Nat → Int32) (x1 : Int32) : Int32 × (Nat → Nat → Nat → Int32) := (if x1 < 0 then ((-1), S) else (if x1 ≤ 32 then (((S 0) 3 0), (upr S 0 (upf (S 0) 3 (fun _ => x1)))) else ((-1), S)))
abbrev ws_NC_limit : List Cond := .code y_NC_limit b_NC_limit 3 (some .int) :: lw_G
abbrev rm_NC_limit : Room := { frames := 0, cells := 0, slots := 0, locals := 0 }
set_option maxHeartbeats 4000000 in
set_option maxRecDepth 100000 in
theorem c_NC_limit (l : Launch) (dC : Nat → ClassId) (dI : Nat → Nat → Nat) (cA : ClassId) (sz : Nat) (ad : Nat → Nat → Nat) (S : Nat → Nat → Nat → Int32) (x1 : Int32) : Met l y_NC_limit ws_NC_limit rm_NC_limit (nc_PreM (dC, dI) cA sz [.ref ((ad 0) 0), .int x1] (w_NC cA ad S)) (va_Qi (fun r (_ : Unit) => r = (f_NC_limit S x1).1) (fun _ t => va_P (dC, dI) classes (w_NC cA ad (f_NC_limit S x1).2) t.heap ∧ va_D (va_A (w_NC cA ad S) sz) (w_NC cA ad (f_NC_limit S x1).2)) (va_A (w_NC cA ad S) sz)) 0 0 (va_A (w_NC cA ad S) sz) := by
  refine Met.ofW (cc := b_NC_limit) (maxL := 3) (ret := (some .int)) (by decide) rfl ?_
  intro p e s m args below meth c s₁ B hml hv
  obtain ⟨rfl, hsz, hP, hK, hD0, hN⟩ := hv
  have hx := B.exec
  have hb := B.bytes
  have hr := B.returns
  have hts : ∀ w ∈ lw_G, w.before [.ref ((ad 0) 0), .int x1].toArray s = true := fun w h => atoms_spec (ws := ws_NC_limit) B.pre w (List.mem_cons_of_mem _ h)
  have hown : s.vm.findClass R_NC = some m.cls := findClass_of_methodNamed B.named
  have hlocks := B.notSynchronized
  have hfix : CallFix p m c b_NC_limit 3 s [.ref ((ad 0) 0), .int x1].toArray lw_G R_NC := ⟨hx, hb, hml, hown, hts⟩
  subst hsz
  have hD := hD0.self (sz := s.heap.size)
  generalize hAe : va_A (w_NC cA ad S) s.heap.size = A at hD ⊢
  have hA : ∀ q : Nat, s.heap.size ≤ q → A q := fun q h => by rw [← hAe]; exact Or.inr h
  have hS : va_S A s.heap s.heap [] := va_S.rf
  have hl := lv_entry ([.ref ((ad 0) 0), .int x1]) (n := 3) (Nat.le_of_ble_eq_true rfl)
  rw [lg_entry_eq]
  generalize (lg_sl ([.ref ((ad 0) 0), .int x1]) ++ List.replicate (3 - (lg_sl ([.ref ((ad 0) 0), .int x1])).length) Slot.unset).toArray = ls at hl ⊢
  have hl : lv_has ls 3 [(0, .ref ((ad 0) 0)), (1, .int x1)] := hl
  refine lv_iload_n hx hb d_NC_limit_0 rfl (lv_at hl 1 rfl) ?_
  refine lv_if_lt (tgt := 10) hx hb d_NC_limit_1 (by decide) (fun c_344 => ?_) (fun c_344 => ?_)
  · refine lv_iconst (v := (-1)) hx hb d_NC_limit_10 (by decide) ?_
    have hF : (f_NC_limit S x1) = ((-1), S) := by rw [f_NC_limit, if_pos c_344]
    exact W.iret (v := (-1)) hx hb hr (fun t ht hW => ⟨⟨(-1), (), rfl, by rw [hF], by rw [hF, ht]; exact hP, by rw [hF]; exact hD⟩, hS.F ht⟩) hS.2.2 d_NC_limit_11
  · refine lv_iload_n hx hb d_NC_limit_4 rfl (lv_at hl 1 rfl) ?_
    refine lv_bipush (v := 32) hx hb d_NC_limit_5 (by decide) ?_
    refine lv_icmp_le (tgt := 12) hx hb d_NC_limit_7 (by decide) (fun c_345 => ?_) (fun c_345 => ?_)
    · refine lv_aload_n hx hb d_NC_limit_12 rfl (lv_at hl 0 rfl) ?_
      refine va_get (D := (dC, dI)) (ci := 0) (v := .int ((S 0) 3 0)) (C := R_NC) (T := F_NC) (N := 15) hx hb hts i_NC hown hK hP 0 rfl rfl 3 (by decide) (hts _ m_f_NC_24) (fun _ h9 => h9) rfl d_NC_limit_13 ?_
      refine lv_istore_n (lv' := [(2, .int ((S 0) 3 0)), (0, .ref ((ad 0) 0)), (1, .int x1)]) hx hb d_NC_limit_16 rfl hl (by decide) rfl (fun ls hl => ?_)
      refine lv_aload_n hx hb d_NC_limit_17 rfl (lv_at hl 1 rfl) ?_
      refine lv_iload_n hx hb d_NC_limit_18 rfl (lv_at hl 2 rfl) ?_
      refine va_put (D := (dC, dI)) (ci := 0) (v := .int x1) (ty := .int) (C := R_NC) (T := F_NC) (N := 15) hx hb hts i_NC t_NC t_NC_ok n_NC hown hK hP hD hS 0 rfl rfl 3 (by decide) (hts _ m_f_NC_24) (fun _ h9 => h9) rfl (by decide +kernel) rfl rfl (Nat.le_of_ble_eq_true rfl) d_NC_limit_19 (fun H locs hP hD hS => ?_)
      have hP : va_P (dC, dI) classes (w_NC cA ad (upr S 0 (upf (S 0) 3 (fun _ => x1)))) H := hP
      have hD : va_D A (w_NC cA ad (upr S 0 (upf (S 0) 3 (fun _ => x1)))) := hD
      refine lv_iload_n hx hb d_NC_limit_22 rfl (lv_at hl 0 rfl) ?_
      have hF : (f_NC_limit S x1) = (((S 0) 3 0), (upr S 0 (upf (S 0) 3 (fun _ => x1)))) := by rw [f_NC_limit, if_neg c_344, if_pos c_345]
      exact W.iret (v := ((S 0) 3 0)) hx hb hr (fun t ht hW => ⟨⟨((S 0) 3 0), (), rfl, by rw [hF], by rw [hF, ht]; exact hP, by rw [hF]; exact hD⟩, hS.F ht⟩) hS.2.2 d_NC_limit_23
    · refine lv_iconst (v := (-1)) hx hb d_NC_limit_10 (by decide) ?_
      have hF : (f_NC_limit S x1) = ((-1), S) := by rw [f_NC_limit, if_neg c_344, if_neg c_345]
      exact W.iret (v := (-1)) hx hb hr (fun t ht hW => ⟨⟨(-1), (), rfl, by rw [hF], by rw [hF, ht]; exact hP, by rw [hF]; exact hD⟩, hS.F ht⟩) hS.2.2 d_NC_limit_11
def f_NC_score (S : Nat → Nat → Nat → Int32) (x1 : Int32) : Int32 := (if (f_Things_has (S 1) x1) = 0 then (-1) else ((f_Things_scoreOf (S 1) x1) + 1000))
abbrev ws_NC_score : List Cond := .code y_NC_score b_NC_score 2 (some .int) :: lw_G
abbrev rm_NC_score : Room := { frames := 2, cells := 0, slots := 0, locals := 44 }
set_option maxHeartbeats 4000000 in
set_option maxRecDepth 100000 in
theorem c_NC_score (l : Launch) (dC : Nat → ClassId) (dI : Nat → Nat → Nat) (cA : ClassId) (ad : Nat → Nat → Nat) (S : Nat → Nat → Nat → Int32) (x1 : Int32) : Met l y_NC_score ws_NC_score rm_NC_score (nc_Pre (dC, dI) cA [.ref ((ad 0) 0), .int x1] (w_NC cA ad S)) (vp_Si (fun r => r = (f_NC_score S x1))) 0 0 (fun _ => False) := by
  refine Met.ofW (cc := b_NC_score) (maxL := 2) (ret := (some .int)) (by decide) rfl ?_
  intro p e s m args below meth c s₁ B hml hv
  obtain ⟨rfl, hP, hK, hD, hN⟩ := hv
  have hx := B.exec
  have hb := B.bytes
  have hr := B.returns
  have hts : ∀ w ∈ lw_G, w.before [.ref ((ad 0) 0), .int x1].toArray s = true := fun w h => atoms_spec (ws := ws_NC_score) B.pre w (List.mem_cons_of_mem _ h)
  have hown : s.vm.findClass R_NC = some m.cls := findClass_of_methodNamed B.named
  have hlocks := B.notSynchronized
  have hfix : CallFix p m c b_NC_score 2 s [.ref ((ad 0) 0), .int x1].toArray lw_G R_NC := ⟨hx, hb, hml, hown, hts⟩
  have hl := lv_entry ([.ref ((ad 0) 0), .int x1]) (n := 2) (Nat.le_of_ble_eq_true rfl)
  rw [lg_entry_eq]
  generalize (lg_sl ([.ref ((ad 0) 0), .int x1]) ++ List.replicate (2 - (lg_sl ([.ref ((ad 0) 0), .int x1])).length) Slot.unset).toArray = ls at hl ⊢
  have hl : lv_has ls 2 [(0, .ref ((ad 0) 0)), (1, .int x1)] := hl
  refine lv_aload_n hx hb d_NC_score_0 rfl (lv_at hl 0 rfl) ?_
  refine va_get (D := (dC, dI)) (ci := 0) (v := .ref ((ad 1) 0)) (C := R_NC) (T := F_NC) (N := 15) hx hb hts i_NC hown hK hP 0 rfl rfl 0 (by decide) (hts _ m_f_NC_10) (fun _ h9 => h9) rfl d_NC_score_1 ?_
  refine lv_iload_n hx hb d_NC_score_4 rfl (lv_at hl 1 rfl) ?_
  have hP_w_346 := hP.sub (ws' := (w_Things cA (ad 1) (S 1))) [3, 4, 5, 6, 7, 8, 9, 10] rfl
  have hD_w_346 := hD.sub (ws' := (w_Things cA (ad 1) (S 1))) [3, 4, 5, 6, 7, 8, 9, 10] (by decide) rfl
  refine nc_ro (va_runV (As := [.int x1]) (rest := []) hfix (c_Things_has l dC dI cA (ad 1) (S 1) x1) (k_NC_99 hts hN ⟨Nat.le_of_ble_eq_true rfl, Nat.le_of_ble_eq_true rfl⟩) (nc_preV hK hN hP_w_346 hD_w_346 rfl rfl) rfl rfl hl.1 rfl (lv_room (Nat.le_of_ble_eq_true rfl)) d_NC_score_5 ⟨Nat.zero_le _, Nat.zero_le _⟩) (fun r er => ?_)
  obtain ⟨rfl, hz_347⟩ := er
  refine lv_if_eq (tgt := 26) hx hb d_NC_score_8 (by decide) (fun c_348 => ?_) (fun c_348 => ?_)
  · refine lv_iconst (v := (-1)) hx hb d_NC_score_26 (by decide) ?_
    exact W.iret (v := (-1)) hx hb hr (fun t ht hW => ⟨(-1), rfl, by rw [f_NC_score, if_pos c_348], ht⟩) (fun _ h => nomatch h) d_NC_score_27
  · refine lv_aload_n hx hb d_NC_score_11 rfl (lv_at hl 0 rfl) ?_
    refine va_get (D := (dC, dI)) (ci := 0) (v := .ref ((ad 1) 0)) (C := R_NC) (T := F_NC) (N := 15) hx hb hts i_NC hown hK hP 0 rfl rfl 0 (by decide) (hts _ m_f_NC_10) (fun _ h9 => h9) rfl d_NC_score_12 ?_
    refine lv_iload_n hx hb d_NC_score_15 rfl (lv_at hl 1 rfl) ?_
    refine nc_ro (va_runV (As := [.int x1]) (rest := []) hfix (c_Things_scoreOf l dC dI cA (ad 1) (S 1) x1) (k_NC_103 hts hN ⟨Nat.le_of_ble_eq_true rfl, Nat.le_of_ble_eq_true rfl⟩) (nc_preV hK hN hP_w_346 hD_w_346 rfl rfl) rfl rfl hl.1 rfl (lv_room (Nat.le_of_ble_eq_true rfl)) d_NC_score_16 ⟨Nat.zero_le _, Nat.zero_le _⟩) (fun r er => ?_)
    subst er
    refine lv_sipush (v := 1000) hx hb d_NC_score_19 (by decide) ?_
    refine lv_iadd hx hb d_NC_score_22 ?_
    refine lv_goto (tgt := 27) hx hb d_NC_score_23 (by decide) ?_
    exact W.iret (v := ((f_Things_scoreOf (S 1) x1) + 1000)) hx hb hr (fun t ht hW => ⟨((f_Things_scoreOf (S 1) x1) + 1000), rfl, by rw [f_NC_score, if_neg c_348], ht⟩) (fun _ h => nomatch h) d_NC_score_27
def f_NC_alike (S : Nat → Nat → Nat → Int32) (x1 x2 : Int32) : Int32 := (if (f_Things_has (S 1) x1) = 0 then (-1) else (if (f_Things_has (S 1) x2) = 0 then (-1) else (if (f_Things_areAlike (S 1) x1 x2) = 0 then 0 else 1)))
abbrev ws_NC_alike : List Cond := .code y_NC_alike b_NC_alike 3 (some .int) :: lw_G
abbrev rm_NC_alike : Room := { frames := 2, cells := 0, slots := 0, locals := 44 }
set_option maxHeartbeats 4000000 in
set_option maxRecDepth 100000 in
theorem c_NC_alike (l : Launch) (dC : Nat → ClassId) (dI : Nat → Nat → Nat) (cA : ClassId) (ad : Nat → Nat → Nat) (S : Nat → Nat → Nat → Int32) (x1 x2 : Int32) : Met l y_NC_alike ws_NC_alike rm_NC_alike (nc_Pre (dC, dI) cA [.ref ((ad 0) 0), .int x1, .int x2] (w_NC cA ad S)) (vp_Si (fun r => r = (f_NC_alike S x1 x2))) 0 0 (fun _ => False) := by
  refine Met.ofW (cc := b_NC_alike) (maxL := 3) (ret := (some .int)) (by decide) rfl ?_
  intro p e s m args below meth c s₁ B hml hv
  obtain ⟨rfl, hP, hK, hD, hN⟩ := hv
  have hx := B.exec
  have hb := B.bytes
  have hr := B.returns
  have hts : ∀ w ∈ lw_G, w.before [.ref ((ad 0) 0), .int x1, .int x2].toArray s = true := fun w h => atoms_spec (ws := ws_NC_alike) B.pre w (List.mem_cons_of_mem _ h)
  have hown : s.vm.findClass R_NC = some m.cls := findClass_of_methodNamed B.named
  have hlocks := B.notSynchronized
  have hfix : CallFix p m c b_NC_alike 3 s [.ref ((ad 0) 0), .int x1, .int x2].toArray lw_G R_NC := ⟨hx, hb, hml, hown, hts⟩
  have hl := lv_entry ([.ref ((ad 0) 0), .int x1, .int x2]) (n := 3) (Nat.le_of_ble_eq_true rfl)
  rw [lg_entry_eq]
  generalize (lg_sl ([.ref ((ad 0) 0), .int x1, .int x2]) ++ List.replicate (3 - (lg_sl ([.ref ((ad 0) 0), .int x1, .int x2])).length) Slot.unset).toArray = ls at hl ⊢
  have hl : lv_has ls 3 [(0, .ref ((ad 0) 0)), (1, .int x1), (2, .int x2)] := hl
  refine lv_aload_n hx hb d_NC_alike_0 rfl (lv_at hl 0 rfl) ?_
  refine va_get (D := (dC, dI)) (ci := 0) (v := .ref ((ad 1) 0)) (C := R_NC) (T := F_NC) (N := 15) hx hb hts i_NC hown hK hP 0 rfl rfl 0 (by decide) (hts _ m_f_NC_10) (fun _ h9 => h9) rfl d_NC_alike_1 ?_
  refine lv_iload_n hx hb d_NC_alike_4 rfl (lv_at hl 1 rfl) ?_
  have hP_w_349 := hP.sub (ws' := (w_Things cA (ad 1) (S 1))) [3, 4, 5, 6, 7, 8, 9, 10] rfl
  have hD_w_349 := hD.sub (ws' := (w_Things cA (ad 1) (S 1))) [3, 4, 5, 6, 7, 8, 9, 10] (by decide) rfl
  refine nc_ro (va_runV (As := [.int x1]) (rest := []) hfix (c_Things_has l dC dI cA (ad 1) (S 1) x1) (k_NC_99 hts hN ⟨Nat.le_of_ble_eq_true rfl, Nat.le_of_ble_eq_true rfl⟩) (nc_preV hK hN hP_w_349 hD_w_349 rfl rfl) rfl rfl hl.1 rfl (lv_room (Nat.le_of_ble_eq_true rfl)) d_NC_alike_5 ⟨Nat.zero_le _, Nat.zero_le _⟩) (fun r er => ?_)
  obtain ⟨rfl, hz_350⟩ := er
  refine lv_if_eq (tgt := 22) hx hb d_NC_alike_8 (by decide) (fun c_351 => ?_) (fun c_351 => ?_)
  · refine lv_iconst (v := (-1)) hx hb d_NC_alike_22 (by decide) ?_
    exact W.iret (v := (-1)) hx hb hr (fun t ht hW => ⟨(-1), rfl, by rw [f_NC_alike, if_pos c_351], ht⟩) (fun _ h => nomatch h) d_NC_alike_23
  · refine lv_aload_n hx hb d_NC_alike_11 rfl (lv_at hl 0 rfl) ?_
    refine va_get (D := (dC, dI)) (ci := 0) (v := .ref ((ad 1) 0)) (C := R_NC) (T := F_NC) (N := 15) hx hb hts i_NC hown hK hP 0 rfl rfl 0 (by decide) (hts _ m_f_NC_10) (fun _ h9 => h9) rfl d_NC_alike_12 ?_
    refine lv_iload_n hx hb d_NC_alike_15 rfl (lv_at hl 2 rfl) ?_
    refine nc_ro (va_runV (As := [.int x2]) (rest := []) hfix (c_Things_has l dC dI cA (ad 1) (S 1) x2) (k_NC_99 hts hN ⟨Nat.le_of_ble_eq_true rfl, Nat.le_of_ble_eq_true rfl⟩) (nc_preV hK hN hP_w_349 hD_w_349 rfl rfl) rfl rfl hl.1 rfl (lv_room (Nat.le_of_ble_eq_true rfl)) d_NC_alike_16 ⟨Nat.zero_le _, Nat.zero_le _⟩) (fun r er => ?_)
    obtain ⟨rfl, hz_352⟩ := er
    refine lv_if_ne (tgt := 24) hx hb d_NC_alike_19 (by decide) (fun c_353 => ?_) (fun c_353 => ?_)
    · refine lv_aload_n hx hb d_NC_alike_24 rfl (lv_at hl 0 rfl) ?_
      refine va_get (D := (dC, dI)) (ci := 0) (v := .ref ((ad 1) 0)) (C := R_NC) (T := F_NC) (N := 15) hx hb hts i_NC hown hK hP 0 rfl rfl 0 (by decide) (hts _ m_f_NC_10) (fun _ h9 => h9) rfl d_NC_alike_25 ?_
      refine lv_iload_n hx hb d_NC_alike_28 rfl (lv_at hl 1 rfl) ?_
      refine lv_iload_n hx hb d_NC_alike_29 rfl (lv_at hl 2 rfl) ?_
      refine nc_ro (va_runV (As := [.int x1, .int x2]) (rest := []) hfix (c_Things_areAlike l dC dI cA (ad 1) (S 1) x1 x2) (k_NC_107 hts hN ⟨Nat.le_of_ble_eq_true rfl, Nat.le_of_ble_eq_true rfl⟩) (nc_preV hK hN hP_w_349 hD_w_349 rfl rfl) rfl rfl hl.1 rfl (lv_room (Nat.le_of_ble_eq_true rfl)) d_NC_alike_30 ⟨Nat.zero_le _, Nat.zero_le _⟩) (fun r er => ?_)
      obtain ⟨rfl, hz_354⟩ := er
      refine lv_if_eq (tgt := 40) hx hb d_NC_alike_33 (by decide) (fun c_355 => ?_) (fun c_355 => ?_)
      · refine lv_iconst (v := 0) hx hb d_NC_alike_40 (by decide) ?_
        exact W.iret (v := 0) hx hb hr (fun t ht hW => ⟨0, rfl, by rw [f_NC_alike, if_neg c_351, if_neg c_353, if_pos c_355], ht⟩) (fun _ h => nomatch h) d_NC_alike_41
      · refine lv_iconst (v := 1) hx hb d_NC_alike_36 (by decide) ?_
        refine lv_goto (tgt := 41) hx hb d_NC_alike_37 (by decide) ?_
        exact W.iret (v := 1) hx hb hr (fun t ht hW => ⟨1, rfl, by rw [f_NC_alike, if_neg c_351, if_neg c_353, if_neg c_355], ht⟩) (fun _ h => nomatch h) d_NC_alike_41
    · refine lv_iconst (v := (-1)) hx hb d_NC_alike_22 (by decide) ?_
      exact W.iret (v := (-1)) hx hb hr (fun t ht hW => ⟨(-1), rfl, by rw [f_NC_alike, if_neg c_351, if_pos c_353], ht⟩) (fun _ h => nomatch h) d_NC_alike_23
def f_NC_type (S : Nat → Nat → Nat → Int32) (x1 : Int32) : Int32 × (Nat → Nat → Nat → Int32) := (if (f_NC_isToken x1) = 0 then ((-1), S) else (if ((S 0) 2 0) < 30 then ((((S 0) 2 0) + 1), (upr S 0 (upf (upf (S 0) 1 (upd ((S 0) 1) (((S 0) 2 0) : Int32).toNatClampNeg x1)) 2 (fun _ => (((S 0) 2 0) + 1))))) else ((-3), S)))
abbrev ws_NC_type : List Cond := .code y_NC_type b_NC_type 2 (some .int) :: lw_G
abbrev rm_NC_type : Room := { frames := 2, cells := 0, slots := 0, locals := 40 }
set_option maxHeartbeats 4000000 in
set_option maxRecDepth 100000 in
theorem c_NC_type (l : Launch) (dC : Nat → ClassId) (dI : Nat → Nat → Nat) (cA : ClassId) (sz : Nat) (ad : Nat → Nat → Nat) (S : Nat → Nat → Nat → Int32) (x1 : Int32) (hw : 0 ≤ ((S 0) 2 0).toInt) : Met l y_NC_type ws_NC_type rm_NC_type (nc_PreM (dC, dI) cA sz [.ref ((ad 0) 0), .int x1] (w_NC cA ad S)) (va_Qi (fun r (_ : Unit) => r = (f_NC_type S x1).1) (fun _ t => va_P (dC, dI) classes (w_NC cA ad (f_NC_type S x1).2) t.heap ∧ va_D (va_A (w_NC cA ad S) sz) (w_NC cA ad (f_NC_type S x1).2)) (va_A (w_NC cA ad S) sz)) 0 0 (va_A (w_NC cA ad S) sz) := by
  refine Met.ofW (cc := b_NC_type) (maxL := 2) (ret := (some .int)) (by decide) rfl ?_
  intro p e s m args below meth c s₁ B hml hv
  obtain ⟨rfl, hsz, hP, hK, hD0, hN⟩ := hv
  have hx := B.exec
  have hb := B.bytes
  have hr := B.returns
  have hts : ∀ w ∈ lw_G, w.before [.ref ((ad 0) 0), .int x1].toArray s = true := fun w h => atoms_spec (ws := ws_NC_type) B.pre w (List.mem_cons_of_mem _ h)
  have hown : s.vm.findClass R_NC = some m.cls := findClass_of_methodNamed B.named
  have hlocks := B.notSynchronized
  have hfix : CallFix p m c b_NC_type 2 s [.ref ((ad 0) 0), .int x1].toArray lw_G R_NC := ⟨hx, hb, hml, hown, hts⟩
  subst hsz
  have hD := hD0.self (sz := s.heap.size)
  generalize hAe : va_A (w_NC cA ad S) s.heap.size = A at hD ⊢
  have hA : ∀ q : Nat, s.heap.size ≤ q → A q := fun q h => by rw [← hAe]; exact Or.inr h
  have hS : va_S A s.heap s.heap [] := va_S.rf
  have hl := lv_entry ([.ref ((ad 0) 0), .int x1]) (n := 2) (Nat.le_of_ble_eq_true rfl)
  rw [lg_entry_eq]
  generalize (lg_sl ([.ref ((ad 0) 0), .int x1]) ++ List.replicate (2 - (lg_sl ([.ref ((ad 0) 0), .int x1])).length) Slot.unset).toArray = ls at hl ⊢
  have hl : lv_has ls 2 [(0, .ref ((ad 0) 0)), (1, .int x1)] := hl
  refine lv_iload_n hx hb d_NC_type_0 rfl (lv_at hl 1 rfl) ?_
  refine nc_ro (va_runS (As := [.int x1]) (rest := []) hfix (c_NC_isToken l dC dI cA x1) (k_NC_111 hts hN ⟨Nat.le_of_ble_eq_true rfl, Nat.le_of_ble_eq_true rfl⟩) (nc_preS0 hK hN) rfl rfl hl.1 rfl (lv_room (Nat.le_of_ble_eq_true rfl)) d_NC_type_1 ⟨Nat.zero_le _, Nat.zero_le _⟩) (fun r er => ?_)
  obtain ⟨rfl, hz_356⟩ := er
  refine lv_if_ne (tgt := 9) hx hb d_NC_type_4 (by decide) (fun c_357 => ?_) (fun c_357 => ?_)
  · refine lv_aload_n hx hb d_NC_type_9 rfl (lv_at hl 0 rfl) ?_
    refine va_get (D := (dC, dI)) (ci := 0) (v := .int ((S 0) 2 0)) (C := R_NC) (T := F_NC) (N := 15) hx hb hts i_NC hown hK hP 0 rfl rfl 2 (by decide) (hts _ m_f_NC_20) (fun _ h9 => h9) rfl d_NC_type_10 ?_
    refine lv_bipush (v := 30) hx hb d_NC_type_13 (by decide) ?_
    refine lv_icmp_lt (tgt := 21) hx hb d_NC_type_15 (by decide) (fun c_358 => ?_) (fun c_358 => ?_)
    · refine lv_aload_n hx hb d_NC_type_21 rfl (lv_at hl 0 rfl) ?_
      refine va_get (D := (dC, dI)) (ci := 0) (v := .ref ((ad 0) 1)) (C := R_NC) (T := F_NC) (N := 15) hx hb hts i_NC hown hK hP 0 rfl rfl 1 (by decide) (hts _ m_f_NC_16) (fun _ h9 => h9) rfl d_NC_type_22 ?_
      refine lv_aload_n hx hb d_NC_type_25 rfl (lv_at hl 0 rfl) ?_
      refine va_get (D := (dC, dI)) (ci := 0) (v := .int ((S 0) 2 0)) (C := R_NC) (T := F_NC) (N := 15) hx hb hts i_NC hown hK hP 0 rfl rfl 2 (by decide) (hts _ m_f_NC_20) (fun _ h9 => h9) rfl d_NC_type_26 ?_
      refine lv_iload_n hx hb d_NC_type_29 rfl (lv_at hl 1 rfl) ?_
      refine va_iast (f := ((S 0) 1)) hx hb hK hP hD hS 1 0 rfl rfl (by have q9 := hw; have q10 := nc_lt c_358 rfl (L_30); exact vp_in_iff.mpr ⟨by omega, by omega⟩) d_NC_type_30 (fun H locs hP hD hS => ?_)
      have hP : va_P (dC, dI) classes (w_NC cA ad (upr S 0 (upf (S 0) 1 (upd ((S 0) 1) (((S 0) 2 0) : Int32).toNatClampNeg x1)))) H := hP
      have hD : va_D A (w_NC cA ad (upr S 0 (upf (S 0) 1 (upd ((S 0) 1) (((S 0) 2 0) : Int32).toNatClampNeg x1)))) := hD
      refine lv_aload_n hx hb d_NC_type_31 rfl (lv_at hl 0 rfl) ?_
      refine lv_dup hx hb d_NC_type_32 rfl ?_
      refine va_get (D := (dC, dI)) (ci := 0) (v := .int ((S 0) 2 0)) (C := R_NC) (T := F_NC) (N := 15) hx hb hts i_NC hown hK hP 0 rfl rfl 2 (by decide) (hts _ m_f_NC_20) (fun _ h9 => h9) rfl d_NC_type_33 ?_
      refine lv_iconst (v := 1) hx hb d_NC_type_36 (by decide) ?_
      refine lv_iadd hx hb d_NC_type_37 ?_
      refine va_put (D := (dC, dI)) (ci := 0) (v := .int (((S 0) 2 0) + 1)) (ty := .int) (C := R_NC) (T := F_NC) (N := 15) hx hb hts i_NC t_NC t_NC_ok n_NC hown hK hP hD hS 0 rfl rfl 2 (by decide) (hts _ m_f_NC_20) (fun _ h9 => h9) rfl (by decide +kernel) rfl rfl (Nat.le_of_ble_eq_true rfl) d_NC_type_38 (fun H locs hP hD hS => ?_)
      have hP : va_P (dC, dI) classes (w_NC cA ad (upr S 0 (upf (upf (S 0) 1 (upd ((S 0) 1) (((S 0) 2 0) : Int32).toNatClampNeg x1)) 2 (fun _ => (((S 0) 2 0) + 1))))) H := hP
      have hD : va_D A (w_NC cA ad (upr S 0 (upf (upf (S 0) 1 (upd ((S 0) 1) (((S 0) 2 0) : Int32).toNatClampNeg x1)) 2 (fun _ => (((S 0) 2 0) + 1))))) := hD
      refine lv_aload_n hx hb d_NC_type_41 rfl (lv_at hl 0 rfl) ?_
      refine va_get (D := (dC, dI)) (ci := 0) (v := .int (((S 0) 2 0) + 1)) (C := R_NC) (T := F_NC) (N := 15) hx hb hts i_NC hown hK hP 0 rfl rfl 2 (by decide) (hts _ m_f_NC_20) (fun _ h9 => h9) rfl d_NC_type_42 ?_
      have hF : (f_NC_type S x1) = ((((S 0) 2 0) + 1), (upr S 0 (upf (upf (S 0) 1 (upd ((S 0) 1) (((S 0) 2 0) : Int32).toNatClampNeg x1)) 2 (fun _ => (((S 0) 2 0) + 1))))) := by rw [f_NC_type, if_neg c_357, if_pos c_358]
      exact W.iret (v := (((S 0) 2 0) + 1)) hx hb hr (fun t ht hW => ⟨⟨(((S 0) 2 0) + 1), (), rfl, by rw [hF], by rw [hF, ht]; exact hP, by rw [hF]; exact hD⟩, hS.F ht⟩) hS.2.2 d_NC_type_45
    · refine lv_bipush (v := (-3)) hx hb d_NC_type_18 (by decide) ?_
      have hF : (f_NC_type S x1) = ((-3), S) := by rw [f_NC_type, if_neg c_357, if_neg c_358]
      exact W.iret (v := (-3)) hx hb hr (fun t ht hW => ⟨⟨(-3), (), rfl, by rw [hF], by rw [hF, ht]; exact hP, by rw [hF]; exact hD⟩, hS.F ht⟩) hS.2.2 d_NC_type_20
  · refine lv_iconst (v := (-1)) hx hb d_NC_type_7 (by decide) ?_
    have hF : (f_NC_type S x1) = ((-1), S) := by rw [f_NC_type, if_pos c_357]
    exact W.iret (v := (-1)) hx hb hr (fun t ht hW => ⟨⟨(-1), (), rfl, by rw [hF], by rw [hF, ht]; exact hP, by rw [hF]; exact hD⟩, hS.F ht⟩) hS.2.2 d_NC_type_8
def f_NC_wipe (S : Nat → Nat → Nat → Int32) : Int32 × (Nat → Nat → Nat → Int32) := (((S 0) 2 0), (upr S 0 (upf (S 0) 2 (fun _ => 0))))
abbrev ws_NC_wipe : List Cond := .code y_NC_wipe b_NC_wipe 2 (some .int) :: lw_G
abbrev rm_NC_wipe : Room := { frames := 0, cells := 0, slots := 0, locals := 0 }
set_option maxHeartbeats 4000000 in
set_option maxRecDepth 100000 in
theorem c_NC_wipe (l : Launch) (dC : Nat → ClassId) (dI : Nat → Nat → Nat) (cA : ClassId) (sz : Nat) (ad : Nat → Nat → Nat) (S : Nat → Nat → Nat → Int32) : Met l y_NC_wipe ws_NC_wipe rm_NC_wipe (nc_PreM (dC, dI) cA sz [.ref ((ad 0) 0)] (w_NC cA ad S)) (va_Qi (fun r (_ : Unit) => r = (f_NC_wipe S).1) (fun _ t => va_P (dC, dI) classes (w_NC cA ad (f_NC_wipe S).2) t.heap ∧ va_D (va_A (w_NC cA ad S) sz) (w_NC cA ad (f_NC_wipe S).2)) (va_A (w_NC cA ad S) sz)) 0 0 (va_A (w_NC cA ad S) sz) := by
  refine Met.ofW (cc := b_NC_wipe) (maxL := 2) (ret := (some .int)) (by decide) rfl ?_
  intro p e s m args below meth c s₁ B hml hv
  obtain ⟨rfl, hsz, hP, hK, hD0, hN⟩ := hv
  have hx := B.exec
  have hb := B.bytes
  have hr := B.returns
  have hts : ∀ w ∈ lw_G, w.before [.ref ((ad 0) 0)].toArray s = true := fun w h => atoms_spec (ws := ws_NC_wipe) B.pre w (List.mem_cons_of_mem _ h)
  have hown : s.vm.findClass R_NC = some m.cls := findClass_of_methodNamed B.named
  have hlocks := B.notSynchronized
  have hfix : CallFix p m c b_NC_wipe 2 s [.ref ((ad 0) 0)].toArray lw_G R_NC := ⟨hx, hb, hml, hown, hts⟩
  subst hsz
  have hD := hD0.self (sz := s.heap.size)
  generalize hAe : va_A (w_NC cA ad S) s.heap.size = A at hD ⊢
  have hA : ∀ q : Nat, s.heap.size ≤ q → A q := fun q h => by rw [← hAe]; exact Or.inr h
  have hS : va_S A s.heap s.heap [] := va_S.rf
  have hl := lv_entry ([.ref ((ad 0) 0)]) (n := 2) (Nat.le_of_ble_eq_true rfl)
  rw [lg_entry_eq]
  generalize (lg_sl ([.ref ((ad 0) 0)]) ++ List.replicate (2 - (lg_sl ([.ref ((ad 0) 0)])).length) Slot.unset).toArray = ls at hl ⊢
  have hl : lv_has ls 2 [(0, .ref ((ad 0) 0))] := hl
  refine lv_aload_n hx hb d_NC_wipe_0 rfl (lv_at hl 0 rfl) ?_
  refine va_get (D := (dC, dI)) (ci := 0) (v := .int ((S 0) 2 0)) (C := R_NC) (T := F_NC) (N := 15) hx hb hts i_NC hown hK hP 0 rfl rfl 2 (by decide) (hts _ m_f_NC_20) (fun _ h9 => h9) rfl d_NC_wipe_1 ?_
  refine lv_istore_n (lv' := [(1, .int ((S 0) 2 0)), (0, .ref ((ad 0) 0))]) hx hb d_NC_wipe_4 rfl hl (by decide) rfl (fun ls hl => ?_)
  refine lv_aload_n hx hb d_NC_wipe_5 rfl (lv_at hl 1 rfl) ?_
  refine lv_iconst (v := 0) hx hb d_NC_wipe_6 (by decide) ?_
  refine va_put (D := (dC, dI)) (ci := 0) (v := .int 0) (ty := .int) (C := R_NC) (T := F_NC) (N := 15) hx hb hts i_NC t_NC t_NC_ok n_NC hown hK hP hD hS 0 rfl rfl 2 (by decide) (hts _ m_f_NC_20) (fun _ h9 => h9) rfl (by decide +kernel) rfl rfl (Nat.le_of_ble_eq_true rfl) d_NC_wipe_7 (fun H locs hP hD hS => ?_)
  have hP : va_P (dC, dI) classes (w_NC cA ad (upr S 0 (upf (S 0) 2 (fun _ => 0)))) H := hP
  have hD : va_D A (w_NC cA ad (upr S 0 (upf (S 0) 2 (fun _ => 0)))) := hD
  refine lv_iload_n hx hb d_NC_wipe_10 rfl (lv_at hl 0 rfl) ?_
  have hF : (f_NC_wipe S) = (((S 0) 2 0), (upr S 0 (upf (S 0) 2 (fun _ => 0)))) := by rw [f_NC_wipe]
  exact W.iret (v := ((S 0) 2 0)) hx hb hr (fun t ht hW => ⟨⟨((S 0) 2 0), (), rfl, by rw [hF], by rw [hF, ht]; exact hP, by rw [hF]; exact hD⟩, hS.F ht⟩) hS.2.2 d_NC_wipe_11
def f_NC_fits (S : Nat → Nat → Nat → Int32) (x1 : Int32) : Int32 × (Nat → Nat → Nat → Int32) := (if (f_Things_has (S 1) x1) = 0 then ((-1), S) else (if (f_Phrase_read (S 3) ((S 0) 1) ((S 0) 2 0)).1 = (-1) then (if (f_Phrase_isDescription (f_Phrase_read (S 3) ((S 0) 1) ((S 0) 2 0)).2) = 0 then ((-2), (upr S 3 (f_Phrase_read (S 3) ((S 0) 1) ((S 0) 2 0)).2)) else (if (f_NC_holds (f_NC_fittingSetD (upr S 3 (f_Phrase_read (S 3) ((S 0) 1) ((S 0) 2 0)).2) 0 1) x1) = 0 then (if (f_NC_holds (f_NC_fittingSetD (upr S 3 (f_Phrase_read (S 3) ((S 0) 1) ((S 0) 2 0)).2) 0 2) x1) = 0 then (((0 : Int32) ||| 0), (upr S 3 (f_Phrase_read (S 3) ((S 0) 1) ((S 0) 2 0)).2)) else (((0 : Int32) ||| 2), (upr S 3 (f_Phrase_read (S 3) ((S 0) 1) ((S 0) 2 0)).2))) else (if (f_NC_holds (f_NC_fittingSetD (upr S 3 (f_Phrase_read (S 3) ((S 0) 1) ((S 0) 2 0)).2) 0 2) x1) = 0 then (((1 : Int32) ||| 0), (upr S 3 (f_Phrase_read (S 3) ((S 0) 1) ((S 0) 2 0)).2)) else (((1 : Int32) ||| 2), (upr S 3 (f_Phrase_read (S 3) ((S 0) 1) ((S 0) 2 0)).2))))) else ((-2), (upr S 3 (f_Phrase_read (S 3) ((S 0) 1) ((S 0) 2 0)).2))))
abbrev ws_NC_fits : List Cond := .code y_NC_fits b_NC_fits 4 (some .int) :: lw_G
abbrev rm_NC_fits : Room := { frames := 6, cells := 0, slots := 0, locals := 130 }
set_option maxHeartbeats 4000000 in
set_option maxRecDepth 100000 in
theorem c_NC_fits (l : Launch) (dC : Nat → ClassId) (dI : Nat → Nat → Nat) (cA : ClassId) (sz : Nat) (ad : Nat → Nat → Nat) (S : Nat → Nat → Nat → Int32) (x1 : Int32) : Met l y_NC_fits ws_NC_fits rm_NC_fits (nc_PreM (dC, dI) cA sz [.ref ((ad 0) 0), .int x1] (w_NC cA ad S)) (va_Qi (fun r (_ : Unit) => r = (f_NC_fits S x1).1) (fun _ t => va_P (dC, dI) classes (w_NC cA ad (f_NC_fits S x1).2) t.heap ∧ va_D (va_A (w_NC cA ad S) sz) (w_NC cA ad (f_NC_fits S x1).2)) (va_A (w_NC cA ad S) sz)) 0 0 (va_A (w_NC cA ad S) sz) := by
  refine Met.ofW (cc := b_NC_fits) (maxL := 4) (ret := (some .int)) (by decide) rfl ?_
  intro p e s m args below meth c s₁ B hml hv
  obtain ⟨rfl, hsz, hP, hK, hD0, hN⟩ := hv
  have hx := B.exec
  have hb := B.bytes
  have hr := B.returns
  have hts : ∀ w ∈ lw_G, w.before [.ref ((ad 0) 0), .int x1].toArray s = true := fun w h => atoms_spec (ws := ws_NC_fits) B.pre w (List.mem_cons_of_mem _ h)
  have hown : s.vm.findClass R_NC = some m.cls := findClass_of_methodNamed B.named
  have hlocks := B.notSynchronized
  have hfix : CallFix p m c b_NC_fits 4 s [.ref ((ad 0) 0), .int x1].toArray lw_G R_NC := ⟨hx, hb, hml, hown, hts⟩
  subst hsz
  have hD := hD0.self (sz := s.heap.size)
  generalize hAe : va_A (w_NC cA ad S) s.heap.size = A at hD ⊢
  have hA : ∀ q : Nat, s.heap.size ≤ q → A q := fun q h => by rw [← hAe]; exact Or.inr h
  have hS : va_S A s.heap s.heap [] := va_S.rf
  have hl := lv_entry ([.ref ((ad 0) 0), .int x1]) (n := 4) (Nat.le_of_ble_eq_true rfl)
  rw [lg_entry_eq]
  generalize (lg_sl ([.ref ((ad 0) 0), .int x1]) ++ List.replicate (4 - (lg_sl ([.ref ((ad 0) 0), .int x1])).length) Slot.unset).toArray = ls at hl ⊢
  have hl : lv_has ls 4 [(0, .ref ((ad 0) 0)), (1, .int x1)] := hl
  refine lv_aload_n hx hb d_NC_fits_0 rfl (lv_at hl 0 rfl) ?_
  refine va_get (D := (dC, dI)) (ci := 0) (v := .ref ((ad 1) 0)) (C := R_NC) (T := F_NC) (N := 15) hx hb hts i_NC hown hK hP 0 rfl rfl 0 (by decide) (hts _ m_f_NC_10) (fun _ h9 => h9) rfl d_NC_fits_1 ?_
  refine lv_iload_n hx hb d_NC_fits_4 rfl (lv_at hl 1 rfl) ?_
  have hP_w_359 := hP.sub (ws' := (w_Things cA (ad 1) (S 1))) [3, 4, 5, 6, 7, 8, 9, 10] rfl
  have hD_w_359 := hD.sub (ws' := (w_Things cA (ad 1) (S 1))) [3, 4, 5, 6, 7, 8, 9, 10] (by decide) rfl
  refine nc_ro (va_runV (As := [.int x1]) (rest := []) hfix (c_Things_has l dC dI cA (ad 1) (S 1) x1) (k_NC_99 hts hN ⟨Nat.le_of_ble_eq_true rfl, Nat.le_of_ble_eq_true rfl⟩) (nc_preV hK hN hP_w_359 hD_w_359 rfl rfl) rfl rfl hl.1 rfl (lv_room (Nat.le_of_ble_eq_true rfl)) d_NC_fits_5 ⟨Nat.zero_le _, Nat.zero_le _⟩) (fun r er => ?_)
  obtain ⟨rfl, hz_360⟩ := er
  refine lv_if_ne (tgt := 13) hx hb d_NC_fits_8 (by decide) (fun c_361 => ?_) (fun c_361 => ?_)
  · refine lv_aload_n hx hb d_NC_fits_13 rfl (lv_at hl 0 rfl) ?_
    refine va_get (D := (dC, dI)) (ci := 0) (v := .ref ((ad 3) 0)) (C := R_NC) (T := F_NC) (N := 15) hx hb hts i_NC hown hK hP 0 rfl rfl 5 (by decide) (hts _ m_f_NC_34) (fun _ h9 => h9) rfl d_NC_fits_14 ?_
    refine lv_aload_n hx hb d_NC_fits_17 rfl (lv_at hl 0 rfl) ?_
    refine va_get (D := (dC, dI)) (ci := 0) (v := .ref ((ad 0) 1)) (C := R_NC) (T := F_NC) (N := 15) hx hb hts i_NC hown hK hP 0 rfl rfl 1 (by decide) (hts _ m_f_NC_16) (fun _ h9 => h9) rfl d_NC_fits_18 ?_
    refine lv_aload_n hx hb d_NC_fits_21 rfl (lv_at hl 0 rfl) ?_
    refine va_get (D := (dC, dI)) (ci := 0) (v := .int ((S 0) 2 0)) (C := R_NC) (T := F_NC) (N := 15) hx hb hts i_NC hown hK hP 0 rfl rfl 2 (by decide) (hts _ m_f_NC_20) (fun _ h9 => h9) rfl d_NC_fits_22 ?_
    have hP_w_362 := hP.sub (ws' := (w_Phrase cA (ad 3) (S 3) ++ [(((ad 0) 1), .inl (cA, 30, .inl ((S 0) 1)))])) [19, 20, 21, 22, 23, 24, 25, 26, 1] rfl
    have hD_w_362 := hD.sub (ws' := (w_Phrase cA (ad 3) (S 3) ++ [(((ad 0) 1), .inl (cA, 30, .inl ((S 0) 1)))])) [19, 20, 21, 22, 23, 24, 25, 26, 1] (by decide) rfl
    have hFc := va_free (wc := (w_Phrase cA (ad 3) (S 3) ++ [(((ad 0) 1), .inl (cA, 30, .inl ((S 0) 1)))])) hD hS hA [19, 20, 21, 22, 23, 24, 25, 26, 1] rfl
    refine nc_mui (va_runV (As := [.ref ((ad 0) 1), .int ((S 0) 2 0)]) (rest := []) hfix (c_Phrase_read l dC dI cA s.heap.size (ad 3) ((ad 0) 1) (S 3) ((S 0) 1) ((S 0) 2 0)) (k_NC_114 hts hN ⟨Nat.le_of_ble_eq_true rfl, Nat.le_of_ble_eq_true rfl⟩) (nc_preVM hK hN hP_w_362 hD_w_362 rfl rfl) rfl rfl hl.1 rfl (lv_room (Nat.le_of_ble_eq_true rfl)) d_NC_fits_25 ⟨Nat.zero_le _, Nat.zero_le _⟩) hS hFc (fun r H locs er hP1 hD1 hk1 hS => ?_)
    subst er
    obtain ⟨hP, hD⟩ := va_join (wr := va_pick (w_NC cA ad S) [0, 2, 3, 4, 5, 6, 7, 8, 9, 10, 11, 12, 13, 14, 15, 16, 17, 18, 27, 28, 29, 30]) (w1 := (w_Phrase cA (ad 3) (f_Phrase_read (S 3) ((S 0) 1) ((S 0) 2 0)).2 ++ [(((ad 0) 1), .inl (cA, 30, .inl ((S 0) 1)))])) hP hD [19, 20, 21, 22, 23, 24, 25, 26, 1] [0, 2, 3, 4, 5, 6, 7, 8, 9, 10, 11, 12, 13, 14, 15, 16, 17, 18, 27, 28, 29, 30] rfl rfl (by decide) (by decide) hk1 hFc hP1 hD1
    have hP : va_P (dC, dI) classes (w_NC cA ad (upr S 3 (f_Phrase_read (S 3) ((S 0) 1) ((S 0) 2 0)).2)) H := hP.sub [0, 30, 1, 2, 3, 4, 5, 6, 7, 8, 9, 10, 11, 12, 13, 14, 15, 16, 17, 22, 23, 24, 25, 26, 27, 28, 29, 18, 19, 20, 21] rfl
    have hD : va_D A (w_NC cA ad (upr S 3 (f_Phrase_read (S 3) ((S 0) 1) ((S 0) 2 0)).2)) := hD.sub [0, 30, 1, 2, 3, 4, 5, 6, 7, 8, 9, 10, 11, 12, 13, 14, 15, 16, 17, 22, 23, 24, 25, 26, 27, 28, 29, 18, 19, 20, 21] (by decide) rfl
    refine lv_iconst (v := (-1)) hx hb d_NC_fits_28 (by decide) ?_
    refine lv_icmp_ne (tgt := 42) hx hb d_NC_fits_29 (by decide) (fun c_363 => ?_) (fun c_363 => ?_)
    · refine lv_bipush (v := (-2)) hx hb d_NC_fits_42 (by decide) ?_
      have hF : (f_NC_fits S x1) = ((-2), (upr S 3 (f_Phrase_read (S 3) ((S 0) 1) ((S 0) 2 0)).2)) := by rw [f_NC_fits, if_neg c_361, if_neg c_363]
      exact W.iret (v := (-2)) hx hb hr (fun t ht hW => ⟨⟨(-2), (), rfl, by rw [hF], by rw [hF, ht]; exact hP, by rw [hF]; exact hD⟩, hS.F ht⟩) hS.2.2 d_NC_fits_44
    · refine lv_aload_n hx hb d_NC_fits_32 rfl (lv_at hl 0 rfl) ?_
      refine va_get (D := (dC, dI)) (ci := 0) (v := .ref ((ad 3) 0)) (C := R_NC) (T := F_NC) (N := 15) hx hb hts i_NC hown hK hP 0 rfl rfl 5 (by decide) (hts _ m_f_NC_34) (fun _ h9 => h9) rfl d_NC_fits_33 ?_
      have hP_w_364 := hP.sub (ws' := (w_Phrase cA (ad 3) (f_Phrase_read (S 3) ((S 0) 1) ((S 0) 2 0)).2)) [19, 20, 21, 22, 23, 24, 25, 26] rfl
      have hD_w_364 := hD.sub (ws' := (w_Phrase cA (ad 3) (f_Phrase_read (S 3) ((S 0) 1) ((S 0) 2 0)).2)) [19, 20, 21, 22, 23, 24, 25, 26] (by decide) rfl
      refine nc_ro (va_runV (As := []) (rest := []) hfix (c_Phrase_isDescription l dC dI cA (ad 3) (f_Phrase_read (S 3) ((S 0) 1) ((S 0) 2 0)).2) (k_NC_118 hts hN ⟨Nat.le_of_ble_eq_true rfl, Nat.le_of_ble_eq_true rfl⟩) (nc_preV hK hN hP_w_364 hD_w_364 rfl rfl) rfl rfl hl.1 rfl (lv_room (Nat.le_of_ble_eq_true rfl)) d_NC_fits_36 ⟨Nat.zero_le _, Nat.zero_le _⟩) (fun r er => ?_)
      obtain ⟨rfl, hz_365⟩ := er
      refine lv_if_ne (tgt := 45) hx hb d_NC_fits_39 (by decide) (fun c_366 => ?_) (fun c_366 => ?_)
      · refine lv_aload_n hx hb d_NC_fits_45 rfl (lv_at hl 0 rfl) ?_
        refine lv_aload_n hx hb d_NC_fits_46 rfl (lv_at hl 0 rfl) ?_
        refine va_get (D := (dC, dI)) (ci := 0) (v := .ref ((ad 3) 0)) (C := R_NC) (T := F_NC) (N := 15) hx hb hts i_NC hown hK hP 0 rfl rfl 5 (by decide) (hts _ m_f_NC_34) (fun _ h9 => h9) rfl d_NC_fits_47 ?_
        refine lv_iconst (v := 0) hx hb d_NC_fits_50 (by decide) ?_
        refine lv_iconst (v := 1) hx hb d_NC_fits_51 (by decide) ?_
        refine nc_ro (va_runV (As := [.ref ((ad 3) 0), .int 0, .int 1]) (rest := []) hfix (c_NC_fittingSetD l dC dI cA ad (upr S 3 (f_Phrase_read (S 3) ((S 0) 1) ((S 0) 2 0)).2) 0 1) (k_NC_122 hts hN ⟨Nat.le_of_ble_eq_true rfl, Nat.le_of_ble_eq_true rfl⟩) (nc_preV hK hN hP hD rfl rfl) rfl rfl hl.1 rfl (lv_room (Nat.le_of_ble_eq_true rfl)) d_NC_fits_52 ⟨Nat.zero_le _, Nat.zero_le _⟩) (fun r er => ?_)
        subst er
        refine lv_iload_n hx hb d_NC_fits_55 rfl (lv_at hl 1 rfl) ?_
        refine nc_ro (va_runS (As := [.int (f_NC_fittingSetD (upr S 3 (f_Phrase_read (S 3) ((S 0) 1) ((S 0) 2 0)).2) 0 1), .int x1]) (rest := []) hfix (c_NC_holds l dC dI cA (f_NC_fittingSetD (upr S 3 (f_Phrase_read (S 3) ((S 0) 1) ((S 0) 2 0)).2) 0 1) x1) (k_NC_126 hts hN ⟨Nat.le_of_ble_eq_true rfl, Nat.le_of_ble_eq_true rfl⟩) (nc_preS0 hK hN) rfl rfl hl.1 rfl (lv_room (Nat.le_of_ble_eq_true rfl)) d_NC_fits_56 ⟨Nat.zero_le _, Nat.zero_le _⟩) (fun r er => ?_)
        obtain ⟨rfl, hz_367⟩ := er
        refine lv_if_eq (tgt := 66) hx hb d_NC_fits_59 (by decide) (fun c_368 => ?_) (fun c_368 => ?_)
        · refine lv_iconst (v := 0) hx hb d_NC_fits_66 (by decide) ?_
          refine lv_istore_n (lv' := [(2, .int 0), (0, .ref ((ad 0) 0)), (1, .int x1)]) hx hb d_NC_fits_67 rfl hl (by decide) rfl (fun ls hl => ?_)
          refine lv_aload_n hx hb d_NC_fits_68 rfl (lv_at hl 1 rfl) ?_
          refine lv_aload_n hx hb d_NC_fits_69 rfl (lv_at hl 1 rfl) ?_
          refine va_get (D := (dC, dI)) (ci := 0) (v := .ref ((ad 3) 0)) (C := R_NC) (T := F_NC) (N := 15) hx hb hts i_NC hown hK hP 0 rfl rfl 5 (by decide) (hts _ m_f_NC_34) (fun _ h9 => h9) rfl d_NC_fits_70 ?_
          refine lv_iconst (v := 0) hx hb d_NC_fits_73 (by decide) ?_
          refine lv_iconst (v := 2) hx hb d_NC_fits_74 (by decide) ?_
          refine nc_ro (va_runV (As := [.ref ((ad 3) 0), .int 0, .int 2]) (rest := []) hfix (c_NC_fittingSetD l dC dI cA ad (upr S 3 (f_Phrase_read (S 3) ((S 0) 1) ((S 0) 2 0)).2) 0 2) (k_NC_122 hts hN ⟨Nat.le_of_ble_eq_true rfl, Nat.le_of_ble_eq_true rfl⟩) (nc_preV hK hN hP hD rfl rfl) rfl rfl hl.1 rfl (lv_room (Nat.le_of_ble_eq_true rfl)) d_NC_fits_75 ⟨Nat.zero_le _, Nat.zero_le _⟩) (fun r er => ?_)
          subst er
          refine lv_iload_n hx hb d_NC_fits_78 rfl (lv_at hl 2 rfl) ?_
          refine nc_ro (va_runS (As := [.int (f_NC_fittingSetD (upr S 3 (f_Phrase_read (S 3) ((S 0) 1) ((S 0) 2 0)).2) 0 2), .int x1]) (rest := []) hfix (c_NC_holds l dC dI cA (f_NC_fittingSetD (upr S 3 (f_Phrase_read (S 3) ((S 0) 1) ((S 0) 2 0)).2) 0 2) x1) (k_NC_126 hts hN ⟨Nat.le_of_ble_eq_true rfl, Nat.le_of_ble_eq_true rfl⟩) (nc_preS0 hK hN) rfl rfl hl.1 rfl (lv_room (Nat.le_of_ble_eq_true rfl)) d_NC_fits_79 ⟨Nat.zero_le _, Nat.zero_le _⟩) (fun r er => ?_)
          obtain ⟨rfl, hz_369⟩ := er
          refine lv_if_eq (tgt := 89) hx hb d_NC_fits_82 (by decide) (fun c_370 => ?_) (fun c_370 => ?_)
          · refine lv_iconst (v := 0) hx hb d_NC_fits_89 (by decide) ?_
            refine lv_istore_n (lv' := [(3, .int 0), (2, .int 0), (0, .ref ((ad 0) 0)), (1, .int x1)]) hx hb d_NC_fits_90 rfl hl (by decide) rfl (fun ls hl => ?_)
            refine lv_iload_n hx hb d_NC_fits_91 rfl (lv_at hl 1 rfl) ?_
            refine lv_iload_n hx hb d_NC_fits_92 rfl (lv_at hl 0 rfl) ?_
            refine lv_ior hx hb d_NC_fits_93 ?_
            have hF : (f_NC_fits S x1) = (((0 : Int32) ||| 0), (upr S 3 (f_Phrase_read (S 3) ((S 0) 1) ((S 0) 2 0)).2)) := by rw [f_NC_fits, if_neg c_361, if_pos c_363, if_neg c_366, if_pos c_368, if_pos c_370]
            exact W.iret (v := ((0 : Int32) ||| 0)) hx hb hr (fun t ht hW => ⟨⟨((0 : Int32) ||| 0), (), rfl, by rw [hF], by rw [hF, ht]; exact hP, by rw [hF]; exact hD⟩, hS.F ht⟩) hS.2.2 d_NC_fits_94
          · refine lv_iconst (v := 2) hx hb d_NC_fits_85 (by decide) ?_
            refine lv_goto (tgt := 90) hx hb d_NC_fits_86 (by decide) ?_
            refine lv_istore_n (lv' := [(3, .int 2), (2, .int 0), (0, .ref ((ad 0) 0)), (1, .int x1)]) hx hb d_NC_fits_90 rfl hl (by decide) rfl (fun ls hl => ?_)
            refine lv_iload_n hx hb d_NC_fits_91 rfl (lv_at hl 1 rfl) ?_
            refine lv_iload_n hx hb d_NC_fits_92 rfl (lv_at hl 0 rfl) ?_
            refine lv_ior hx hb d_NC_fits_93 ?_
            have hF : (f_NC_fits S x1) = (((0 : Int32) ||| 2), (upr S 3 (f_Phrase_read (S 3) ((S 0) 1) ((S 0) 2 0)).2)) := by rw [f_NC_fits, if_neg c_361, if_pos c_363, if_neg c_366, if_pos c_368, if_neg c_370]
            exact W.iret (v := ((0 : Int32) ||| 2)) hx hb hr (fun t ht hW => ⟨⟨((0 : Int32) ||| 2), (), rfl, by rw [hF], by rw [hF, ht]; exact hP, by rw [hF]; exact hD⟩, hS.F ht⟩) hS.2.2 d_NC_fits_94
        · refine lv_iconst (v := 1) hx hb d_NC_fits_62 (by decide) ?_
          refine lv_goto (tgt := 67) hx hb d_NC_fits_63 (by decide) ?_
          refine lv_istore_n (lv' := [(2, .int 1), (0, .ref ((ad 0) 0)), (1, .int x1)]) hx hb d_NC_fits_67 rfl hl (by decide) rfl (fun ls hl => ?_)
          refine lv_aload_n hx hb d_NC_fits_68 rfl (lv_at hl 1 rfl) ?_
          refine lv_aload_n hx hb d_NC_fits_69 rfl (lv_at hl 1 rfl) ?_
          refine va_get (D := (dC, dI)) (ci := 0) (v := .ref ((ad 3) 0)) (C := R_NC) (T := F_NC) (N := 15) hx hb hts i_NC hown hK hP 0 rfl rfl 5 (by decide) (hts _ m_f_NC_34) (fun _ h9 => h9) rfl d_NC_fits_70 ?_
          refine lv_iconst (v := 0) hx hb d_NC_fits_73 (by decide) ?_
          refine lv_iconst (v := 2) hx hb d_NC_fits_74 (by decide) ?_
          refine nc_ro (va_runV (As := [.ref ((ad 3) 0), .int 0, .int 2]) (rest := []) hfix (c_NC_fittingSetD l dC dI cA ad (upr S 3 (f_Phrase_read (S 3) ((S 0) 1) ((S 0) 2 0)).2) 0 2) (k_NC_122 hts hN ⟨Nat.le_of_ble_eq_true rfl, Nat.le_of_ble_eq_true rfl⟩) (nc_preV hK hN hP hD rfl rfl) rfl rfl hl.1 rfl (lv_room (Nat.le_of_ble_eq_true rfl)) d_NC_fits_75 ⟨Nat.zero_le _, Nat.zero_le _⟩) (fun r er => ?_)
          subst er
          refine lv_iload_n hx hb d_NC_fits_78 rfl (lv_at hl 2 rfl) ?_
          refine nc_ro (va_runS (As := [.int (f_NC_fittingSetD (upr S 3 (f_Phrase_read (S 3) ((S 0) 1) ((S 0) 2 0)).2) 0 2), .int x1]) (rest := []) hfix (c_NC_holds l dC dI cA (f_NC_fittingSetD (upr S 3 (f_Phrase_read (S 3) ((S 0) 1) ((S 0) 2 0)).2) 0 2) x1) (k_NC_126 hts hN ⟨Nat.le_of_ble_eq_true rfl, Nat.le_of_ble_eq_true rfl⟩) (nc_preS0 hK hN) rfl rfl hl.1 rfl (lv_room (Nat.le_of_ble_eq_true rfl)) d_NC_fits_79 ⟨Nat.zero_le _, Nat.zero_le _⟩) (fun r er => ?_)
          obtain ⟨rfl, hz_371⟩ := er
          refine lv_if_eq (tgt := 89) hx hb d_NC_fits_82 (by decide) (fun c_372 => ?_) (fun c_372 => ?_)
          · refine lv_iconst (v := 0) hx hb d_NC_fits_89 (by decide) ?_
            refine lv_istore_n (lv' := [(3, .int 0), (2, .int 1), (0, .ref ((ad 0) 0)), (1, .int x1)]) hx hb d_NC_fits_90 rfl hl (by decide) rfl (fun ls hl => ?_)
            refine lv_iload_n hx hb d_NC_fits_91 rfl (lv_at hl 1 rfl) ?_
            refine lv_iload_n hx hb d_NC_fits_92 rfl (lv_at hl 0 rfl) ?_
            refine lv_ior hx hb d_NC_fits_93 ?_
            have hF : (f_NC_fits S x1) = (((1 : Int32) ||| 0), (upr S 3 (f_Phrase_read (S 3) ((S 0) 1) ((S 0) 2 0)).2)) := by rw [f_NC_fits, if_neg c_361, if_pos c_363, if_neg c_366, if_neg c_368, if_pos c_372]
            exact W.iret (v := ((1 : Int32) ||| 0)) hx hb hr (fun t ht hW => ⟨⟨((1 : Int32) ||| 0), (), rfl, by rw [hF], by rw [hF, ht]; exact hP, by rw [hF]; exact hD⟩, hS.F ht⟩) hS.2.2 d_NC_fits_94
          · refine lv_iconst (v := 2) hx hb d_NC_fits_85 (by decide) ?_
            refine lv_goto (tgt := 90) hx hb d_NC_fits_86 (by decide) ?_
            refine lv_istore_n (lv' := [(3, .int 2), (2, .int 1), (0, .ref ((ad 0) 0)), (1, .int x1)]) hx hb d_NC_fits_90 rfl hl (by decide) rfl (fun ls hl => ?_)
            refine lv_iload_n hx hb d_NC_fits_91 rfl (lv_at hl 1 rfl) ?_
            refine lv_iload_n hx hb d_NC_fits_92 rfl (lv_at hl 0 rfl) ?_
            refine lv_ior hx hb d_NC_fits_93 ?_
            have hF : (f_NC_fits S x1) = (((1 : Int32) ||| 2), (upr S 3 (f_Phrase_read (S 3) ((S 0) 1) ((S 0) 2 0)).2)) := by rw [f_NC_fits, if_neg c_361, if_pos c_363, if_neg c_366, if_neg c_368, if_neg c_372]
            exact W.iret (v := ((1 : Int32) ||| 2)) hx hb hr (fun t ht hW => ⟨⟨((1 : Int32) ||| 2), (), rfl, by rw [hF], by rw [hF, ht]; exact hP, by rw [hF]; exact hD⟩, hS.F ht⟩) hS.2.2 d_NC_fits_94
      · refine lv_bipush (v := (-2)) hx hb d_NC_fits_42 (by decide) ?_
        have hF : (f_NC_fits S x1) = ((-2), (upr S 3 (f_Phrase_read (S 3) ((S 0) 1) ((S 0) 2 0)).2)) := by rw [f_NC_fits, if_neg c_361, if_pos c_363, if_pos c_366]
        exact W.iret (v := (-2)) hx hb hr (fun t ht hW => ⟨⟨(-2), (), rfl, by rw [hF], by rw [hF, ht]; exact hP, by rw [hF]; exact hD⟩, hS.F ht⟩) hS.2.2 d_NC_fits_44
  · refine lv_iconst (v := (-1)) hx hb d_NC_fits_11 (by decide) ?_
    have hF : (f_NC_fits S x1) = ((-1), S) := by rw [f_NC_fits, if_pos c_361]
    exact W.iret (v := (-1)) hx hb hr (fun t ht hW => ⟨⟨(-1), (), rfl, by rw [hF], by rw [hF, ht]; exact hP, by rw [hF]; exact hD⟩, hS.F ht⟩) hS.2.2 d_NC_fits_12
def f_NC_choose (S : Nat → Nat → Nat → Int32) : Int32 × (Nat → Nat → Nat → Int32) := (if (f_Phrase_read (S 3) ((S 0) 1) ((S 0) 2 0)).1 = (-1) then ((f_NC_goThrough (upr (upr (upr S 0 (upf (upf (S 0) 2 (fun _ => 0)) 6 (f_fill 30 ((S 0) 6) (-1)))) 2 (f_Phrase_read (S 3) ((S 0) 1) ((S 0) 2 0)).2) 3 (S 2))).1, (f_NC_goThrough (upr (upr (upr S 0 (upf (upf (S 0) 2 (fun _ => 0)) 6 (f_fill 30 ((S 0) 6) (-1)))) 2 (f_Phrase_read (S 3) ((S 0) 1) ((S 0) 2 0)).2) 3 (S 2))).2) else ((f_NC_refuseRow (upr S 3 (f_Phrase_read (S 3) ((S 0) 1) ((S 0) 2 0)).2) (f_Phrase_read (S 3) ((S 0) 1) ((S 0) 2 0)).1).1, (f_NC_refuseRow (upr S 3 (f_Phrase_read (S 3) ((S 0) 1) ((S 0) 2 0)).2) (f_Phrase_read (S 3) ((S 0) 1) ((S 0) 2 0)).1).2))
abbrev ws_NC_choose : List Cond := .code y_NC_choose b_NC_choose 3 (some .int) :: lw_G
abbrev rm_NC_choose : Room := { frames := 6, cells := 0, slots := 0, locals := 145 }
set_option maxHeartbeats 4000000 in
set_option maxRecDepth 100000 in
theorem c_NC_choose (l : Launch) (dC : Nat → ClassId) (dI : Nat → Nat → Nat) (cA : ClassId) (sz : Nat) (ad : Nat → Nat → Nat) (S : Nat → Nat → Nat → Int32) : Met l y_NC_choose ws_NC_choose rm_NC_choose (nc_PreM (dC, dI) cA sz [.ref ((ad 0) 0)] (w_NC cA ad S)) (va_Qi (fun r (_ : Nat → Nat → Nat) => r = (f_NC_choose S).1) (fun (u : Nat → Nat → Nat) t => va_P (dC, dI) classes (w_NC cA u (f_NC_choose S).2) t.heap ∧ va_D (va_A (w_NC cA ad S) sz) (w_NC cA u (f_NC_choose S).2)) (va_A (w_NC cA ad S) sz)) 0 0 (va_A (w_NC cA ad S) sz) := by
  refine Met.ofW (cc := b_NC_choose) (maxL := 3) (ret := (some .int)) (by decide) rfl ?_
  intro p e s m args below meth c s₁ B hml hv
  obtain ⟨rfl, hsz, hP, hK, hD0, hN⟩ := hv
  have hx := B.exec
  have hb := B.bytes
  have hr := B.returns
  have hts : ∀ w ∈ lw_G, w.before [.ref ((ad 0) 0)].toArray s = true := fun w h => atoms_spec (ws := ws_NC_choose) B.pre w (List.mem_cons_of_mem _ h)
  have hown : s.vm.findClass R_NC = some m.cls := findClass_of_methodNamed B.named
  have hlocks := B.notSynchronized
  have hfix : CallFix p m c b_NC_choose 3 s [.ref ((ad 0) 0)].toArray lw_G R_NC := ⟨hx, hb, hml, hown, hts⟩
  subst hsz
  have hD := hD0.self (sz := s.heap.size)
  generalize hAe : va_A (w_NC cA ad S) s.heap.size = A at hD ⊢
  have hA : ∀ q : Nat, s.heap.size ≤ q → A q := fun q h => by rw [← hAe]; exact Or.inr h
  have hS : va_S A s.heap s.heap [] := va_S.rf
  have hl := lv_entry ([.ref ((ad 0) 0)]) (n := 3) (Nat.le_of_ble_eq_true rfl)
  rw [lg_entry_eq]
  generalize (lg_sl ([.ref ((ad 0) 0)]) ++ List.replicate (3 - (lg_sl ([.ref ((ad 0) 0)])).length) Slot.unset).toArray = ls at hl ⊢
  have hl : lv_has ls 3 [(0, .ref ((ad 0) 0))] := hl
  refine lv_aload_n hx hb d_NC_choose_0 rfl (lv_at hl 0 rfl) ?_
  refine va_get (D := (dC, dI)) (ci := 0) (v := .ref ((ad 3) 0)) (C := R_NC) (T := F_NC) (N := 15) hx hb hts i_NC hown hK hP 0 rfl rfl 5 (by decide) (hts _ m_f_NC_34) (fun _ h9 => h9) rfl d_NC_choose_1 ?_
  refine lv_aload_n hx hb d_NC_choose_4 rfl (lv_at hl 0 rfl) ?_
  refine va_get (D := (dC, dI)) (ci := 0) (v := .ref ((ad 0) 1)) (C := R_NC) (T := F_NC) (N := 15) hx hb hts i_NC hown hK hP 0 rfl rfl 1 (by decide) (hts _ m_f_NC_16) (fun _ h9 => h9) rfl d_NC_choose_5 ?_
  refine lv_aload_n hx hb d_NC_choose_8 rfl (lv_at hl 0 rfl) ?_
  refine va_get (D := (dC, dI)) (ci := 0) (v := .int ((S 0) 2 0)) (C := R_NC) (T := F_NC) (N := 15) hx hb hts i_NC hown hK hP 0 rfl rfl 2 (by decide) (hts _ m_f_NC_20) (fun _ h9 => h9) rfl d_NC_choose_9 ?_
  have hP_w_373 := hP.sub (ws' := (w_Phrase cA (ad 3) (S 3) ++ [(((ad 0) 1), .inl (cA, 30, .inl ((S 0) 1)))])) [19, 20, 21, 22, 23, 24, 25, 26, 1] rfl
  have hD_w_373 := hD.sub (ws' := (w_Phrase cA (ad 3) (S 3) ++ [(((ad 0) 1), .inl (cA, 30, .inl ((S 0) 1)))])) [19, 20, 21, 22, 23, 24, 25, 26, 1] (by decide) rfl
  have hFc := va_free (wc := (w_Phrase cA (ad 3) (S 3) ++ [(((ad 0) 1), .inl (cA, 30, .inl ((S 0) 1)))])) hD hS hA [19, 20, 21, 22, 23, 24, 25, 26, 1] rfl
  refine nc_mui (va_runV (As := [.ref ((ad 0) 1), .int ((S 0) 2 0)]) (rest := []) hfix (c_Phrase_read l dC dI cA s.heap.size (ad 3) ((ad 0) 1) (S 3) ((S 0) 1) ((S 0) 2 0)) (k_NC_114 hts hN ⟨Nat.le_of_ble_eq_true rfl, Nat.le_of_ble_eq_true rfl⟩) (nc_preVM hK hN hP_w_373 hD_w_373 rfl rfl) rfl rfl hl.1 rfl (lv_room (Nat.le_of_ble_eq_true rfl)) d_NC_choose_12 ⟨Nat.zero_le _, Nat.zero_le _⟩) hS hFc (fun r H locs er hP1 hD1 hk1 hS => ?_)
  subst er
  obtain ⟨hP, hD⟩ := va_join (wr := va_pick (w_NC cA ad S) [0, 2, 3, 4, 5, 6, 7, 8, 9, 10, 11, 12, 13, 14, 15, 16, 17, 18, 27, 28, 29, 30]) (w1 := (w_Phrase cA (ad 3) (f_Phrase_read (S 3) ((S 0) 1) ((S 0) 2 0)).2 ++ [(((ad 0) 1), .inl (cA, 30, .inl ((S 0) 1)))])) hP hD [19, 20, 21, 22, 23, 24, 25, 26, 1] [0, 2, 3, 4, 5, 6, 7, 8, 9, 10, 11, 12, 13, 14, 15, 16, 17, 18, 27, 28, 29, 30] rfl rfl (by decide) (by decide) hk1 hFc hP1 hD1
  have hP : va_P (dC, dI) classes (w_NC cA ad (upr S 3 (f_Phrase_read (S 3) ((S 0) 1) ((S 0) 2 0)).2)) H := hP.sub [0, 30, 1, 2, 3, 4, 5, 6, 7, 8, 9, 10, 11, 12, 13, 14, 15, 16, 17, 22, 23, 24, 25, 26, 27, 28, 29, 18, 19, 20, 21] rfl
  have hD : va_D A (w_NC cA ad (upr S 3 (f_Phrase_read (S 3) ((S 0) 1) ((S 0) 2 0)).2)) := hD.sub [0, 30, 1, 2, 3, 4, 5, 6, 7, 8, 9, 10, 11, 12, 13, 14, 15, 16, 17, 22, 23, 24, 25, 26, 27, 28, 29, 18, 19, 20, 21] (by decide) rfl
  refine lv_istore_n (lv' := [(1, .int (f_Phrase_read (S 3) ((S 0) 1) ((S 0) 2 0)).1), (0, .ref ((ad 0) 0))]) hx hb d_NC_choose_15 rfl hl (by decide) rfl (fun ls hl => ?_)
  refine lv_iload_n hx hb d_NC_choose_16 rfl (lv_at hl 0 rfl) ?_
  refine lv_iconst (v := (-1)) hx hb d_NC_choose_17 (by decide) ?_
  refine lv_icmp_eq (tgt := 27) hx hb d_NC_choose_18 (by decide) (fun c_374 => ?_) (fun c_374 => ?_)
  · refine lv_aload_n hx hb d_NC_choose_27 rfl (lv_at hl 1 rfl) ?_
    refine lv_iconst (v := 0) hx hb d_NC_choose_28 (by decide) ?_
    refine va_put (D := (dC, dI)) (ci := 0) (v := .int 0) (ty := .int) (C := R_NC) (T := F_NC) (N := 15) hx hb hts i_NC t_NC t_NC_ok n_NC hown hK hP hD hS 0 rfl rfl 2 (by decide) (hts _ m_f_NC_20) (fun _ h9 => h9) rfl (by decide +kernel) rfl rfl (Nat.le_of_ble_eq_true rfl) d_NC_choose_29 (fun H locs hP hD hS => ?_)
    have hP : va_P (dC, dI) classes (w_NC cA ad (upr (upr S 0 (upf (S 0) 2 (fun _ => 0))) 3 (f_Phrase_read (S 3) ((S 0) 1) ((S 0) 2 0)).2)) H := hP
    have hD : va_D A (w_NC cA ad (upr (upr S 0 (upf (S 0) 2 (fun _ => 0))) 3 (f_Phrase_read (S 3) ((S 0) 1) ((S 0) 2 0)).2)) := hD
    refine lv_aload_n hx hb d_NC_choose_32 rfl (lv_at hl 1 rfl) ?_
    refine va_get (D := (dC, dI)) (ci := 0) (v := .ref ((ad 2) 0)) (C := R_NC) (T := F_NC) (N := 15) hx hb hts i_NC hown hK hP 0 rfl rfl 4 (by decide) (hts _ m_f_NC_30) (fun _ h9 => h9) rfl d_NC_choose_33 ?_
    refine lv_astore_n (lv' := [(2, .ref ((ad 2) 0)), (1, .int (f_Phrase_read (S 3) ((S 0) 1) ((S 0) 2 0)).1), (0, .ref ((ad 0) 0))]) hx hb d_NC_choose_36 rfl hl (by decide) rfl (fun ls hl => ?_)
    refine lv_aload_n hx hb d_NC_choose_37 rfl (lv_at hl 2 rfl) ?_
    refine lv_aload_n hx hb d_NC_choose_38 rfl (lv_at hl 2 rfl) ?_
    refine va_get (D := (dC, dI)) (ci := 0) (v := .ref ((ad 3) 0)) (C := R_NC) (T := F_NC) (N := 15) hx hb hts i_NC hown hK hP 0 rfl rfl 5 (by decide) (hts _ m_f_NC_34) (fun _ h9 => h9) rfl d_NC_choose_39 ?_
    refine va_put (D := (dC, dI)) (ci := 0) (v := .ref ((ad 3) 0)) (ty := (t_NC 4)) (C := R_NC) (T := F_NC) (N := 15) hx hb hts i_NC t_NC t_NC_ok n_NC hown hK hP hD hS 0 rfl rfl 4 (by decide) (hts _ m_f_NC_30) (fun _ h9 => h9) rfl (by decide +kernel) rfl rfl (Nat.le_of_ble_eq_true rfl) d_NC_choose_42 (fun H locs hP hD hS => ?_)
    have hP : va_P (dC, dI) classes (List.set (w_NC cA ad (upr (upr S 0 (upf (S 0) 2 (fun _ => 0))) 3 (f_Phrase_read (S 3) ((S 0) 1) ((S 0) 2 0)).2)) 0 (((ad 0) 0), .inr (0, [.ref ((ad 1) 0), .ref ((ad 0) 1), .int 0, .int ((S 0) 3 0), .ref ((ad 3) 0), .ref ((ad 3) 0), .ref ((ad 0) 2), .ref ((ad 4) 0), .ref ((ad 5) 0), .int ((S 0) 9 0), .int ((S 0) 10 0), .int ((S 0) 11 0), .int ((S 0) 12 0), .int ((S 0) 13 0), .int ((S 0) 14 0)]))) H := hP
    have hD : va_D A (List.set (w_NC cA ad (upr (upr S 0 (upf (S 0) 2 (fun _ => 0))) 3 (f_Phrase_read (S 3) ((S 0) 1) ((S 0) 2 0)).2)) 0 (((ad 0) 0), .inr (0, [.ref ((ad 1) 0), .ref ((ad 0) 1), .int 0, .int ((S 0) 3 0), .ref ((ad 3) 0), .ref ((ad 3) 0), .ref ((ad 0) 2), .ref ((ad 4) 0), .ref ((ad 5) 0), .int ((S 0) 9 0), .int ((S 0) 10 0), .int ((S 0) 11 0), .int ((S 0) 12 0), .int ((S 0) 13 0), .int ((S 0) 14 0)]))) := hD
    refine lv_aload_n hx hb d_NC_choose_45 rfl (lv_at hl 2 rfl) ?_
    refine lv_aload_n hx hb d_NC_choose_46 rfl (lv_at hl 0 rfl) ?_
    refine va_put (D := (dC, dI)) (ci := 0) (v := .ref ((ad 2) 0)) (ty := (t_NC 5)) (C := R_NC) (T := F_NC) (N := 15) hx hb hts i_NC t_NC t_NC_ok n_NC hown hK hP hD hS 0 rfl rfl 5 (by decide) (hts _ m_f_NC_34) (fun _ h9 => h9) rfl (by decide +kernel) rfl rfl (Nat.le_of_ble_eq_true rfl) d_NC_choose_47 (fun H locs hP hD hS => ?_)
    have hP : va_P (dC, dI) classes (List.set (w_NC cA ad (upr (upr S 0 (upf (S 0) 2 (fun _ => 0))) 3 (f_Phrase_read (S 3) ((S 0) 1) ((S 0) 2 0)).2)) 0 (((ad 0) 0), .inr (0, [.ref ((ad 1) 0), .ref ((ad 0) 1), .int 0, .int ((S 0) 3 0), .ref ((ad 3) 0), .ref ((ad 2) 0), .ref ((ad 0) 2), .ref ((ad 4) 0), .ref ((ad 5) 0), .int ((S 0) 9 0), .int ((S 0) 10 0), .int ((S 0) 11 0), .int ((S 0) 12 0), .int ((S 0) 13 0), .int ((S 0) 14 0)]))) H := hP
    have hD : va_D A (List.set (w_NC cA ad (upr (upr S 0 (upf (S 0) 2 (fun _ => 0))) 3 (f_Phrase_read (S 3) ((S 0) 1) ((S 0) 2 0)).2)) 0 (((ad 0) 0), .inr (0, [.ref ((ad 1) 0), .ref ((ad 0) 1), .int 0, .int ((S 0) 3 0), .ref ((ad 3) 0), .ref ((ad 2) 0), .ref ((ad 0) 2), .ref ((ad 4) 0), .ref ((ad 5) 0), .int ((S 0) 9 0), .int ((S 0) 10 0), .int ((S 0) 11 0), .int ((S 0) 12 0), .int ((S 0) 13 0), .int ((S 0) 14 0)]))) := hD
    have hP : va_P (dC, dI) classes (w_NC cA (nc_sw ad 2 3) (upr (upr (upr S 0 (upf (S 0) 2 (fun _ => 0))) 2 (f_Phrase_read (S 3) ((S 0) 1) ((S 0) 2 0)).2) 3 (S 2))) H := hP.sub [0, 1, 2, 3, 4, 5, 6, 7, 8, 9, 10, 19, 20, 21, 22, 23, 24, 25, 26, 11, 12, 13, 14, 15, 16, 17, 18, 27, 28, 29, 30] rfl
    have hD : va_D A (w_NC cA (nc_sw ad 2 3) (upr (upr (upr S 0 (upf (S 0) 2 (fun _ => 0))) 2 (f_Phrase_read (S 3) ((S 0) 1) ((S 0) 2 0)).2) 3 (S 2))) := hD.sub [0, 1, 2, 3, 4, 5, 6, 7, 8, 9, 10, 19, 20, 21, 22, 23, 24, 25, 26, 11, 12, 13, 14, 15, 16, 17, 18, 27, 28, 29, 30] (by decide) rfl
    refine lv_aload_n hx hb d_NC_choose_50 rfl (lv_at hl 2 rfl) ?_
    refine va_get (D := (dC, dI)) (ci := 0) (v := .ref ((ad 0) 2)) (C := R_NC) (T := F_NC) (N := 15) hx hb hts i_NC hown hK hP 0 rfl rfl 6 (by decide) (hts _ m_f_NC_37) (fun _ h9 => h9) rfl d_NC_choose_51 ?_
    refine lv_iconst (v := (-1)) hx hb d_NC_choose_54 (by decide) ?_
    have hP_w_375 := hP.sub (ws' := [(((ad 0) 2), .inl (cA, 30, .inl ((S 0) 6)))]) [2] rfl
    have hD_w_375 := hD.sub (ws' := [(((ad 0) 2), .inl (cA, 30, .inl ((S 0) 6)))]) [2] (by decide) rfl
    have hFc := va_free (wc := [(((ad 0) 2), .inl (cA, 30, .inl ((S 0) 6)))]) hD hS hA [2] rfl
    refine nc_muv (va_runS (As := [.ref ((ad 0) 2), .int (-1)]) (rest := []) hfix (c_fill l dC dI cA H.size ((ad 0) 2) 30 ((S 0) 6) (-1) (by decide)) (k_NC_68 hts hN ⟨Nat.le_of_ble_eq_true rfl, Nat.le_of_ble_eq_true rfl⟩) (nc_preSM hK hN hP_w_375 hD_w_375) rfl rfl hl.1 rfl (lv_room (Nat.le_of_ble_eq_true rfl)) d_NC_choose_55 ⟨Nat.zero_le _, Nat.zero_le _⟩) hS hFc (fun H locs hP1 hD1 hk1 hS => ?_)
    obtain ⟨hP, hD⟩ := va_join (wr := va_pick (w_NC cA (nc_sw ad 2 3) (upr (upr (upr S 0 (upf (S 0) 2 (fun _ => 0))) 2 (f_Phrase_read (S 3) ((S 0) 1) ((S 0) 2 0)).2) 3 (S 2))) [0, 1, 3, 4, 5, 6, 7, 8, 9, 10, 11, 12, 13, 14, 15, 16, 17, 18, 19, 20, 21, 22, 23, 24, 25, 26, 27, 28, 29, 30]) (w1 := [(((ad 0) 2), .inl (cA, 30, .inl (f_fill 30 ((S 0) 6) (-1))))]) hP hD [2] [0, 1, 3, 4, 5, 6, 7, 8, 9, 10, 11, 12, 13, 14, 15, 16, 17, 18, 19, 20, 21, 22, 23, 24, 25, 26, 27, 28, 29, 30] rfl rfl (by decide) (by decide) hk1 hFc hP1 hD1
    have hP : va_P (dC, dI) classes (w_NC cA (nc_sw ad 2 3) (upr (upr (upr S 0 (upf (upf (S 0) 2 (fun _ => 0)) 6 (f_fill 30 ((S 0) 6) (-1)))) 2 (f_Phrase_read (S 3) ((S 0) 1) ((S 0) 2 0)).2) 3 (S 2))) H := hP.sub [0, 1, 30, 2, 3, 4, 5, 6, 7, 8, 9, 10, 11, 12, 13, 14, 15, 16, 17, 18, 19, 20, 21, 22, 23, 24, 25, 26, 27, 28, 29] rfl
    have hD : va_D A (w_NC cA (nc_sw ad 2 3) (upr (upr (upr S 0 (upf (upf (S 0) 2 (fun _ => 0)) 6 (f_fill 30 ((S 0) 6) (-1)))) 2 (f_Phrase_read (S 3) ((S 0) 1) ((S 0) 2 0)).2) 3 (S 2))) := hD.sub [0, 1, 30, 2, 3, 4, 5, 6, 7, 8, 9, 10, 11, 12, 13, 14, 15, 16, 17, 18, 19, 20, 21, 22, 23, 24, 25, 26, 27, 28, 29] (by decide) rfl
    refine lv_aload_n hx hb d_NC_choose_58 rfl (lv_at hl 2 rfl) ?_
    have hFc := nc_free hD hS hA
    refine nc_mumi (va_runV (As := []) (rest := []) hfix (c_NC_goThrough l dC dI cA H.size (nc_sw ad 2 3) (upr (upr (upr S 0 (upf (upf (S 0) 2 (fun _ => 0)) 6 (f_fill 30 ((S 0) 6) (-1)))) 2 (f_Phrase_read (S 3) ((S 0) 1) ((S 0) 2 0)).2) 3 (S 2))) (k_NC_132 hts hN ⟨Nat.le_of_ble_eq_true rfl, Nat.le_of_ble_eq_true rfl⟩) (nc_preVM hK hN hP hD rfl rfl) rfl rfl hl.1 rfl (lv_room (Nat.le_of_ble_eq_true rfl)) d_NC_choose_59 ⟨Nat.zero_le _, Nat.zero_le _⟩) hS hFc (fun r ad_376 H locs er hP1 hD1 hk1 hS => ?_)
    subst er
    have hP : va_P (dC, dI) classes (w_NC cA ad_376 (f_NC_goThrough (upr (upr (upr S 0 (upf (upf (S 0) 2 (fun _ => 0)) 6 (f_fill 30 ((S 0) 6) (-1)))) 2 (f_Phrase_read (S 3) ((S 0) 1) ((S 0) 2 0)).2) 3 (S 2))).2) H := hP1
    have hD : va_D A (w_NC cA ad_376 (f_NC_goThrough (upr (upr (upr S 0 (upf (upf (S 0) 2 (fun _ => 0)) 6 (f_fill 30 ((S 0) 6) (-1)))) 2 (f_Phrase_read (S 3) ((S 0) 1) ((S 0) 2 0)).2) 3 (S 2))).2) := hD1.weaken (fun _ q _ h => hFc q.1 h)
    have hF : (f_NC_choose S) = ((f_NC_goThrough (upr (upr (upr S 0 (upf (upf (S 0) 2 (fun _ => 0)) 6 (f_fill 30 ((S 0) 6) (-1)))) 2 (f_Phrase_read (S 3) ((S 0) 1) ((S 0) 2 0)).2) 3 (S 2))).1, (f_NC_goThrough (upr (upr (upr S 0 (upf (upf (S 0) 2 (fun _ => 0)) 6 (f_fill 30 ((S 0) 6) (-1)))) 2 (f_Phrase_read (S 3) ((S 0) 1) ((S 0) 2 0)).2) 3 (S 2))).2) := by rw [f_NC_choose, if_pos c_374]
    exact W.iret (v := (f_NC_goThrough (upr (upr (upr S 0 (upf (upf (S 0) 2 (fun _ => 0)) 6 (f_fill 30 ((S 0) 6) (-1)))) 2 (f_Phrase_read (S 3) ((S 0) 1) ((S 0) 2 0)).2) 3 (S 2))).1) hx hb hr (fun t ht hW => ⟨⟨(f_NC_goThrough (upr (upr (upr S 0 (upf (upf (S 0) 2 (fun _ => 0)) 6 (f_fill 30 ((S 0) 6) (-1)))) 2 (f_Phrase_read (S 3) ((S 0) 1) ((S 0) 2 0)).2) 3 (S 2))).1, ad_376, rfl, by rw [hF], by rw [hF, ht]; exact hP, by rw [hF]; exact hD⟩, hS.F ht⟩) hS.2.2 d_NC_choose_62
  · refine lv_aload_n hx hb d_NC_choose_21 rfl (lv_at hl 1 rfl) ?_
    refine lv_iload_n hx hb d_NC_choose_22 rfl (lv_at hl 0 rfl) ?_
    have hFc := nc_free hD hS hA
    refine nc_mui (va_runV (As := [.int (f_Phrase_read (S 3) ((S 0) 1) ((S 0) 2 0)).1]) (rest := []) hfix (c_NC_refuseRow l dC dI cA H.size ad (upr S 3 (f_Phrase_read (S 3) ((S 0) 1) ((S 0) 2 0)).2) (f_Phrase_read (S 3) ((S 0) 1) ((S 0) 2 0)).1) (k_NC_129 hts hN ⟨Nat.le_of_ble_eq_true rfl, Nat.le_of_ble_eq_true rfl⟩) (nc_preVM hK hN hP hD rfl rfl) rfl rfl hl.1 rfl (lv_room (Nat.le_of_ble_eq_true rfl)) d_NC_choose_23 ⟨Nat.zero_le _, Nat.zero_le _⟩) hS hFc (fun r H locs er hP1 hD1 hk1 hS => ?_)
    subst er
    have hP : va_P (dC, dI) classes (w_NC cA ad (f_NC_refuseRow (upr S 3 (f_Phrase_read (S 3) ((S 0) 1) ((S 0) 2 0)).2) (f_Phrase_read (S 3) ((S 0) 1) ((S 0) 2 0)).1).2) H := hP1
    have hD : va_D A (w_NC cA ad (f_NC_refuseRow (upr S 3 (f_Phrase_read (S 3) ((S 0) 1) ((S 0) 2 0)).2) (f_Phrase_read (S 3) ((S 0) 1) ((S 0) 2 0)).1).2) := hD1.weaken (fun _ q _ h => hFc q.1 h)
    have hF : (f_NC_choose S) = ((f_NC_refuseRow (upr S 3 (f_Phrase_read (S 3) ((S 0) 1) ((S 0) 2 0)).2) (f_Phrase_read (S 3) ((S 0) 1) ((S 0) 2 0)).1).1, (f_NC_refuseRow (upr S 3 (f_Phrase_read (S 3) ((S 0) 1) ((S 0) 2 0)).2) (f_Phrase_read (S 3) ((S 0) 1) ((S 0) 2 0)).1).2) := by rw [f_NC_choose, if_neg c_374]
    exact W.iret (v := (f_NC_refuseRow (upr S 3 (f_Phrase_read (S 3) ((S 0) 1) ((S 0) 2 0)).2) (f_Phrase_read (S 3) ((S 0) 1) ((S 0) 2 0)).1).1) hx hb hr (fun t ht hW => ⟨⟨(f_NC_refuseRow (upr S 3 (f_Phrase_read (S 3) ((S 0) 1) ((S 0) 2 0)).2) (f_Phrase_read (S 3) ((S 0) 1) ((S 0) 2 0)).1).1, ad, rfl, by rw [hF], by rw [hF, ht]; exact hP, by rw [hF]; exact hD⟩, hS.F ht⟩) hS.2.2 d_NC_choose_26
def f_NC_reply (S : Nat → Nat → Nat → Int32) : Int32 × (Nat → Nat → Nat → Int32) := (if ((S 0) 10 0) = 0 then ((-4), S) else (if (f_NC_replyFault S) = (-1) then (if (f_NC_leftByRow S) = 0 then ((-18), (f_NC_tell (upr S 0 (upf (S 0) 2 (fun _ => 0))) ((S 0) 11 0) (-1) (-1))) else (if ((S 0) 11 0) < 0 then ((f_NC_goThrough (upr S 0 (upf (S 0) 2 (fun _ => 0)))).1, (f_NC_goThrough (upr S 0 (upf (S 0) 2 (fun _ => 0)))).2) else (if 30 ≤ ((S 0) 11 0) then ((f_NC_goThrough (upr S 0 (upf (S 0) 2 (fun _ => 0)))).1, (f_NC_goThrough (upr S 0 (upf (S 0) 2 (fun _ => 0)))).2) else ((f_NC_goThrough (upr S 0 (upf (upf (S 0) 2 (fun _ => 0)) 6 (upd ((S 0) 6) (((S 0) 11 0) : Int32).toNatClampNeg (f_NC_leftByRow S))))).1, (f_NC_goThrough (upr S 0 (upf (upf (S 0) 2 (fun _ => 0)) 6 (upd ((S 0) 6) (((S 0) 11 0) : Int32).toNatClampNeg (f_NC_leftByRow S))))).2)))) else ((f_NC_refuseRow S (f_NC_replyFault S)).1, (f_NC_refuseRow S (f_NC_replyFault S)).2)))
abbrev ws_NC_reply : List Cond := .code y_NC_reply b_NC_reply 3 (some .int) :: lw_G
abbrev rm_NC_reply : Room := { frames := 6, cells := 0, slots := 0, locals := 145 }
set_option maxHeartbeats 4000000 in
set_option maxRecDepth 100000 in
theorem c_NC_reply (l : Launch) (dC : Nat → ClassId) (dI : Nat → Nat → Nat) (cA : ClassId) (sz : Nat) (ad : Nat → Nat → Nat) (S : Nat → Nat → Nat → Int32) : Met l y_NC_reply ws_NC_reply rm_NC_reply (nc_PreM (dC, dI) cA sz [.ref ((ad 0) 0)] (w_NC cA ad S)) (va_Qi (fun r (_ : Nat → Nat → Nat) => r = (f_NC_reply S).1) (fun (u : Nat → Nat → Nat) t => va_P (dC, dI) classes (w_NC cA u (f_NC_reply S).2) t.heap ∧ va_D (va_A (w_NC cA ad S) sz) (w_NC cA u (f_NC_reply S).2)) (va_A (w_NC cA ad S) sz)) 0 0 (va_A (w_NC cA ad S) sz) := by
  refine Met.ofW (cc := b_NC_reply) (maxL := 3) (ret := (some .int)) (by decide) rfl ?_
  intro p e s m args below meth c s₁ B hml hv
  obtain ⟨rfl, hsz, hP, hK, hD0, hN⟩ := hv
  have hx := B.exec
  have hb := B.bytes
  have hr := B.returns
  have hts : ∀ w ∈ lw_G, w.before [.ref ((ad 0) 0)].toArray s = true := fun w h => atoms_spec (ws := ws_NC_reply) B.pre w (List.mem_cons_of_mem _ h)
  have hown : s.vm.findClass R_NC = some m.cls := findClass_of_methodNamed B.named
  have hlocks := B.notSynchronized
  have hfix : CallFix p m c b_NC_reply 3 s [.ref ((ad 0) 0)].toArray lw_G R_NC := ⟨hx, hb, hml, hown, hts⟩
  subst hsz
  have hD := hD0.self (sz := s.heap.size)
  generalize hAe : va_A (w_NC cA ad S) s.heap.size = A at hD ⊢
  have hA : ∀ q : Nat, s.heap.size ≤ q → A q := fun q h => by rw [← hAe]; exact Or.inr h
  have hS : va_S A s.heap s.heap [] := va_S.rf
  have hl := lv_entry ([.ref ((ad 0) 0)]) (n := 3) (Nat.le_of_ble_eq_true rfl)
  rw [lg_entry_eq]
  generalize (lg_sl ([.ref ((ad 0) 0)]) ++ List.replicate (3 - (lg_sl ([.ref ((ad 0) 0)])).length) Slot.unset).toArray = ls at hl ⊢
  have hl : lv_has ls 3 [(0, .ref ((ad 0) 0))] := hl
  refine lv_aload_n hx hb d_NC_reply_0 rfl (lv_at hl 0 rfl) ?_
  refine va_get (D := (dC, dI)) (ci := 0) (v := .int ((S 0) 10 0)) (C := R_NC) (T := F_NC) (N := 15) hx hb hts i_NC hown hK hP 0 rfl rfl 10 (by decide) (hts _ m_f_NC_53) (fun _ h9 => h9) rfl d_NC_reply_1 ?_
  refine lv_if_ne (tgt := 10) hx hb d_NC_reply_4 (by decide) (fun c_377 => ?_) (fun c_377 => ?_)
  · refine lv_aload_n hx hb d_NC_reply_10 rfl (lv_at hl 0 rfl) ?_
    refine nc_ro (va_runV (As := []) (rest := []) hfix (c_NC_replyFault l dC dI cA ad S) (k_NC_135 hts hN ⟨Nat.le_of_ble_eq_true rfl, Nat.le_of_ble_eq_true rfl⟩) (nc_preV hK hN hP hD rfl rfl) rfl rfl hl.1 rfl (lv_room (Nat.le_of_ble_eq_true rfl)) d_NC_reply_11 ⟨Nat.zero_le _, Nat.zero_le _⟩) (fun r er => ?_)
    subst er
    refine lv_istore_n (lv' := [(1, .int (f_NC_replyFault S)), (0, .ref ((ad 0) 0))]) hx hb d_NC_reply_14 rfl hl (by decide) rfl (fun ls hl => ?_)
    refine lv_iload_n hx hb d_NC_reply_15 rfl (lv_at hl 0 rfl) ?_
    refine lv_iconst (v := (-1)) hx hb d_NC_reply_16 (by decide) ?_
    refine lv_icmp_eq (tgt := 26) hx hb d_NC_reply_17 (by decide) (fun c_378 => ?_) (fun c_378 => ?_)
    · refine lv_aload_n hx hb d_NC_reply_26 rfl (lv_at hl 1 rfl) ?_
      refine nc_ro (va_runV (As := []) (rest := []) hfix (c_NC_leftByRow l dC dI cA ad S) (k_NC_138 hts hN ⟨Nat.le_of_ble_eq_true rfl, Nat.le_of_ble_eq_true rfl⟩) (nc_preV hK hN hP hD rfl rfl) rfl rfl hl.1 rfl (lv_room (Nat.le_of_ble_eq_true rfl)) d_NC_reply_27 ⟨Nat.zero_le _, Nat.zero_le _⟩) (fun r er => ?_)
      subst er
      refine lv_istore_n (lv' := [(2, .int (f_NC_leftByRow S)), (1, .int (f_NC_replyFault S)), (0, .ref ((ad 0) 0))]) hx hb d_NC_reply_30 rfl hl (by decide) rfl (fun ls hl => ?_)
      refine lv_aload_n hx hb d_NC_reply_31 rfl (lv_at hl 2 rfl) ?_
      refine lv_iconst (v := 0) hx hb d_NC_reply_32 (by decide) ?_
      refine va_put (D := (dC, dI)) (ci := 0) (v := .int 0) (ty := .int) (C := R_NC) (T := F_NC) (N := 15) hx hb hts i_NC t_NC t_NC_ok n_NC hown hK hP hD hS 0 rfl rfl 2 (by decide) (hts _ m_f_NC_20) (fun _ h9 => h9) rfl (by decide +kernel) rfl rfl (Nat.le_of_ble_eq_true rfl) d_NC_reply_33 (fun H locs hP hD hS => ?_)
      have hP : va_P (dC, dI) classes (w_NC cA ad (upr S 0 (upf (S 0) 2 (fun _ => 0)))) H := hP
      have hD : va_D A (w_NC cA ad (upr S 0 (upf (S 0) 2 (fun _ => 0)))) := hD
      refine lv_iload_n hx hb d_NC_reply_36 rfl (lv_at hl 0 rfl) ?_
      refine lv_if_ne (tgt := 53) hx hb d_NC_reply_37 (by decide) (fun c_379 => ?_) (fun c_379 => ?_)
      · refine lv_aload_n hx hb d_NC_reply_53 rfl (lv_at hl 2 rfl) ?_
        refine va_get (D := (dC, dI)) (ci := 0) (v := .int ((S 0) 11 0)) (C := R_NC) (T := F_NC) (N := 15) hx hb hts i_NC hown hK hP 0 rfl rfl 11 (by decide) (hts _ m_f_NC_56) (fun _ h9 => h9) rfl d_NC_reply_54 ?_
        refine lv_if_lt (tgt := 82) hx hb d_NC_reply_57 (by decide) (fun c_380 => ?_) (fun c_380 => ?_)
        · refine lv_aload_n hx hb d_NC_reply_82 rfl (lv_at hl 2 rfl) ?_
          have hFc := nc_free hD hS hA
          refine nc_mumi (va_runV (As := []) (rest := []) hfix (c_NC_goThrough l dC dI cA H.size ad (upr S 0 (upf (S 0) 2 (fun _ => 0)))) (k_NC_132 hts hN ⟨Nat.le_of_ble_eq_true rfl, Nat.le_of_ble_eq_true rfl⟩) (nc_preVM hK hN hP hD rfl rfl) rfl rfl hl.1 rfl (lv_room (Nat.le_of_ble_eq_true rfl)) d_NC_reply_83 ⟨Nat.zero_le _, Nat.zero_le _⟩) hS hFc (fun r ad_381 H locs er hP1 hD1 hk1 hS => ?_)
          subst er
          have hP : va_P (dC, dI) classes (w_NC cA ad_381 (f_NC_goThrough (upr S 0 (upf (S 0) 2 (fun _ => 0)))).2) H := hP1
          have hD : va_D A (w_NC cA ad_381 (f_NC_goThrough (upr S 0 (upf (S 0) 2 (fun _ => 0)))).2) := hD1.weaken (fun _ q _ h => hFc q.1 h)
          have hF : (f_NC_reply S) = ((f_NC_goThrough (upr S 0 (upf (S 0) 2 (fun _ => 0)))).1, (f_NC_goThrough (upr S 0 (upf (S 0) 2 (fun _ => 0)))).2) := by rw [f_NC_reply, if_neg c_377, if_pos c_378, if_neg c_379, if_pos c_380]
          exact W.iret (v := (f_NC_goThrough (upr S 0 (upf (S 0) 2 (fun _ => 0)))).1) hx hb hr (fun t ht hW => ⟨⟨(f_NC_goThrough (upr S 0 (upf (S 0) 2 (fun _ => 0)))).1, ad_381, rfl, by rw [hF], by rw [hF, ht]; exact hP, by rw [hF]; exact hD⟩, hS.F ht⟩) hS.2.2 d_NC_reply_86
        · refine lv_aload_n hx hb d_NC_reply_60 rfl (lv_at hl 2 rfl) ?_
          refine va_get (D := (dC, dI)) (ci := 0) (v := .int ((S 0) 11 0)) (C := R_NC) (T := F_NC) (N := 15) hx hb hts i_NC hown hK hP 0 rfl rfl 11 (by decide) (hts _ m_f_NC_56) (fun _ h9 => h9) rfl d_NC_reply_61 ?_
          refine lv_aload_n hx hb d_NC_reply_64 rfl (lv_at hl 2 rfl) ?_
          refine va_get (D := (dC, dI)) (ci := 0) (v := .ref ((ad 0) 2)) (C := R_NC) (T := F_NC) (N := 15) hx hb hts i_NC hown hK hP 0 rfl rfl 6 (by decide) (hts _ m_f_NC_37) (fun _ h9 => h9) rfl d_NC_reply_65 ?_
          refine va_alen (v := 30) hx hb hK hP 2 0 rfl rfl rfl d_NC_reply_68 ?_
          refine lv_icmp_ge (tgt := 82) hx hb d_NC_reply_69 (by decide) (fun c_382 => ?_) (fun c_382 => ?_)
          · refine lv_aload_n hx hb d_NC_reply_82 rfl (lv_at hl 2 rfl) ?_
            have hFc := nc_free hD hS hA
            refine nc_mumi (va_runV (As := []) (rest := []) hfix (c_NC_goThrough l dC dI cA H.size ad (upr S 0 (upf (S 0) 2 (fun _ => 0)))) (k_NC_132 hts hN ⟨Nat.le_of_ble_eq_true rfl, Nat.le_of_ble_eq_true rfl⟩) (nc_preVM hK hN hP hD rfl rfl) rfl rfl hl.1 rfl (lv_room (Nat.le_of_ble_eq_true rfl)) d_NC_reply_83 ⟨Nat.zero_le _, Nat.zero_le _⟩) hS hFc (fun r ad_383 H locs er hP1 hD1 hk1 hS => ?_)
            subst er
            have hP : va_P (dC, dI) classes (w_NC cA ad_383 (f_NC_goThrough (upr S 0 (upf (S 0) 2 (fun _ => 0)))).2) H := hP1
            have hD : va_D A (w_NC cA ad_383 (f_NC_goThrough (upr S 0 (upf (S 0) 2 (fun _ => 0)))).2) := hD1.weaken (fun _ q _ h => hFc q.1 h)
            have hF : (f_NC_reply S) = ((f_NC_goThrough (upr S 0 (upf (S 0) 2 (fun _ => 0)))).1, (f_NC_goThrough (upr S 0 (upf (S 0) 2 (fun _ => 0)))).2) := by rw [f_NC_reply, if_neg c_377, if_pos c_378, if_neg c_379, if_neg c_380, if_pos c_382]
            exact W.iret (v := (f_NC_goThrough (upr S 0 (upf (S 0) 2 (fun _ => 0)))).1) hx hb hr (fun t ht hW => ⟨⟨(f_NC_goThrough (upr S 0 (upf (S 0) 2 (fun _ => 0)))).1, ad_383, rfl, by rw [hF], by rw [hF, ht]; exact hP, by rw [hF]; exact hD⟩, hS.F ht⟩) hS.2.2 d_NC_reply_86
          · refine lv_aload_n hx hb d_NC_reply_72 rfl (lv_at hl 2 rfl) ?_
            refine va_get (D := (dC, dI)) (ci := 0) (v := .ref ((ad 0) 2)) (C := R_NC) (T := F_NC) (N := 15) hx hb hts i_NC hown hK hP 0 rfl rfl 6 (by decide) (hts _ m_f_NC_37) (fun _ h9 => h9) rfl d_NC_reply_73 ?_
            refine lv_aload_n hx hb d_NC_reply_76 rfl (lv_at hl 2 rfl) ?_
            refine va_get (D := (dC, dI)) (ci := 0) (v := .int ((S 0) 11 0)) (C := R_NC) (T := F_NC) (N := 15) hx hb hts i_NC hown hK hP 0 rfl rfl 11 (by decide) (hts _ m_f_NC_56) (fun _ h9 => h9) rfl d_NC_reply_77 ?_
            refine lv_iload_n hx hb d_NC_reply_80 rfl (lv_at hl 0 rfl) ?_
            refine va_iast (f := ((S 0) 6)) hx hb hK hP hD hS 2 0 rfl rfl (by have q0 := nc_eq c_378 rfl (L_m1); have q1 := nc_nlt c_380 rfl (L_0); have q2 := nc_nle c_382 (L_30) rfl; exact vp_in_iff.mpr ⟨by omega, by omega⟩) d_NC_reply_81 (fun H locs hP hD hS => ?_)
            have hP : va_P (dC, dI) classes (w_NC cA ad (upr S 0 (upf (upf (S 0) 2 (fun _ => 0)) 6 (upd ((S 0) 6) (((S 0) 11 0) : Int32).toNatClampNeg (f_NC_leftByRow S))))) H := hP
            have hD : va_D A (w_NC cA ad (upr S 0 (upf (upf (S 0) 2 (fun _ => 0)) 6 (upd ((S 0) 6) (((S 0) 11 0) : Int32).toNatClampNeg (f_NC_leftByRow S))))) := hD
            refine lv_aload_n hx hb d_NC_reply_82 rfl (lv_at hl 2 rfl) ?_
            have hFc := nc_free hD hS hA
            refine nc_mumi (va_runV (As := []) (rest := []) hfix (c_NC_goThrough l dC dI cA H.size ad (upr S 0 (upf (upf (S 0) 2 (fun _ => 0)) 6 (upd ((S 0) 6) (((S 0) 11 0) : Int32).toNatClampNeg (f_NC_leftByRow S))))) (k_NC_132 hts hN ⟨Nat.le_of_ble_eq_true rfl, Nat.le_of_ble_eq_true rfl⟩) (nc_preVM hK hN hP hD rfl rfl) rfl rfl hl.1 rfl (lv_room (Nat.le_of_ble_eq_true rfl)) d_NC_reply_83 ⟨Nat.zero_le _, Nat.zero_le _⟩) hS hFc (fun r ad_384 H locs er hP1 hD1 hk1 hS => ?_)
            subst er
            have hP : va_P (dC, dI) classes (w_NC cA ad_384 (f_NC_goThrough (upr S 0 (upf (upf (S 0) 2 (fun _ => 0)) 6 (upd ((S 0) 6) (((S 0) 11 0) : Int32).toNatClampNeg (f_NC_leftByRow S))))).2) H := hP1
            have hD : va_D A (w_NC cA ad_384 (f_NC_goThrough (upr S 0 (upf (upf (S 0) 2 (fun _ => 0)) 6 (upd ((S 0) 6) (((S 0) 11 0) : Int32).toNatClampNeg (f_NC_leftByRow S))))).2) := hD1.weaken (fun _ q _ h => hFc q.1 h)
            have hF : (f_NC_reply S) = ((f_NC_goThrough (upr S 0 (upf (upf (S 0) 2 (fun _ => 0)) 6 (upd ((S 0) 6) (((S 0) 11 0) : Int32).toNatClampNeg (f_NC_leftByRow S))))).1, (f_NC_goThrough (upr S 0 (upf (upf (S 0) 2 (fun _ => 0)) 6 (upd ((S 0) 6) (((S 0) 11 0) : Int32).toNatClampNeg (f_NC_leftByRow S))))).2) := by rw [f_NC_reply, if_neg c_377, if_pos c_378, if_neg c_379, if_neg c_380, if_neg c_382]
            exact W.iret (v := (f_NC_goThrough (upr S 0 (upf (upf (S 0) 2 (fun _ => 0)) 6 (upd ((S 0) 6) (((S 0) 11 0) : Int32).toNatClampNeg (f_NC_leftByRow S))))).1) hx hb hr (fun t ht hW => ⟨⟨(f_NC_goThrough (upr S 0 (upf (upf (S 0) 2 (fun _ => 0)) 6 (upd ((S 0) 6) (((S 0) 11 0) : Int32).toNatClampNeg (f_NC_leftByRow S))))).1, ad_384, rfl, by rw [hF], by rw [hF, ht]; exact hP, by rw [hF]; exact hD⟩, hS.F ht⟩) hS.2.2 d_NC_reply_86
      · refine lv_aload_n hx hb d_NC_reply_40 rfl (lv_at hl 2 rfl) ?_
        refine lv_aload_n hx hb d_NC_reply_41 rfl (lv_at hl 2 rfl) ?_
        refine va_get (D := (dC, dI)) (ci := 0) (v := .int ((S 0) 11 0)) (C := R_NC) (T := F_NC) (N := 15) hx hb hts i_NC hown hK hP 0 rfl rfl 11 (by decide) (hts _ m_f_NC_56) (fun _ h9 => h9) rfl d_NC_reply_42 ?_
        refine lv_iconst (v := (-1)) hx hb d_NC_reply_45 (by decide) ?_
        refine lv_iconst (v := (-1)) hx hb d_NC_reply_46 (by decide) ?_
        have hFc := nc_free hD hS hA
        refine nc_muv (va_runV (As := [.int ((S 0) 11 0), .int (-1), .int (-1)]) (rest := []) hfix (c_NC_tell l dC dI cA H.size ad (upr S 0 (upf (S 0) 2 (fun _ => 0))) ((S 0) 11 0) (-1) (-1)) (k_NC_141 hts hN ⟨Nat.le_of_ble_eq_true rfl, Nat.le_of_ble_eq_true rfl⟩) (nc_preVM hK hN hP hD rfl rfl) rfl rfl hl.1 rfl (lv_room (Nat.le_of_ble_eq_true rfl)) d_NC_reply_47 ⟨Nat.zero_le _, Nat.zero_le _⟩) hS hFc (fun H locs hP1 hD1 hk1 hS => ?_)
        have hP : va_P (dC, dI) classes (w_NC cA ad (f_NC_tell (upr S 0 (upf (S 0) 2 (fun _ => 0))) ((S 0) 11 0) (-1) (-1))) H := hP1
        have hD : va_D A (w_NC cA ad (f_NC_tell (upr S 0 (upf (S 0) 2 (fun _ => 0))) ((S 0) 11 0) (-1) (-1))) := hD1.weaken (fun _ q _ h => hFc q.1 h)
        refine lv_bipush (v := (-18)) hx hb d_NC_reply_50 (by decide) ?_
        have hF : (f_NC_reply S) = ((-18), (f_NC_tell (upr S 0 (upf (S 0) 2 (fun _ => 0))) ((S 0) 11 0) (-1) (-1))) := by rw [f_NC_reply, if_neg c_377, if_pos c_378, if_pos c_379]
        exact W.iret (v := (-18)) hx hb hr (fun t ht hW => ⟨⟨(-18), ad, rfl, by rw [hF], by rw [hF, ht]; exact hP, by rw [hF]; exact hD⟩, hS.F ht⟩) hS.2.2 d_NC_reply_52
    · refine lv_aload_n hx hb d_NC_reply_20 rfl (lv_at hl 1 rfl) ?_
      refine lv_iload_n hx hb d_NC_reply_21 rfl (lv_at hl 0 rfl) ?_
      have hFc := nc_free hD hS hA
      refine nc_mui (va_runV (As := [.int (f_NC_replyFault S)]) (rest := []) hfix (c_NC_refuseRow l dC dI cA s.heap.size ad S (f_NC_replyFault S)) (k_NC_129 hts hN ⟨Nat.le_of_ble_eq_true rfl, Nat.le_of_ble_eq_true rfl⟩) (nc_preVM hK hN hP hD rfl rfl) rfl rfl hl.1 rfl (lv_room (Nat.le_of_ble_eq_true rfl)) d_NC_reply_22 ⟨Nat.zero_le _, Nat.zero_le _⟩) hS hFc (fun r H locs er hP1 hD1 hk1 hS => ?_)
      subst er
      have hP : va_P (dC, dI) classes (w_NC cA ad (f_NC_refuseRow S (f_NC_replyFault S)).2) H := hP1
      have hD : va_D A (w_NC cA ad (f_NC_refuseRow S (f_NC_replyFault S)).2) := hD1.weaken (fun _ q _ h => hFc q.1 h)
      have hF : (f_NC_reply S) = ((f_NC_refuseRow S (f_NC_replyFault S)).1, (f_NC_refuseRow S (f_NC_replyFault S)).2) := by rw [f_NC_reply, if_neg c_377, if_neg c_378]
      exact W.iret (v := (f_NC_refuseRow S (f_NC_replyFault S)).1) hx hb hr (fun t ht hW => ⟨⟨(f_NC_refuseRow S (f_NC_replyFault S)).1, ad, rfl, by rw [hF], by rw [hF, ht]; exact hP, by rw [hF]; exact hD⟩, hS.F ht⟩) hS.2.2 d_NC_reply_25
  · refine lv_bipush (v := (-4)) hx hb d_NC_reply_7 (by decide) ?_
    have hF : (f_NC_reply S) = ((-4), S) := by rw [f_NC_reply, if_pos c_377]
    exact W.iret (v := (-4)) hx hb hr (fun t ht hW => ⟨⟨(-4), ad, rfl, by rw [hF], by rw [hF, ht]; exact hP, by rw [hF]; exact hD⟩, hS.F ht⟩) hS.2.2 d_NC_reply_9
def f_NC_chosen (S : Nat → Nat → Nat → Int32) (x1 : Int32) : Int32 := (if x1 = (-1) then ((S 4) 1 0) else (f_Picks_at (S 4) x1))
abbrev ws_NC_chosen : List Cond := .code y_NC_chosen b_NC_chosen 2 (some .int) :: lw_G
abbrev rm_NC_chosen : Room := { frames := 1, cells := 0, slots := 0, locals := 21 }
set_option maxHeartbeats 4000000 in
set_option maxRecDepth 100000 in
theorem c_NC_chosen (l : Launch) (dC : Nat → ClassId) (dI : Nat → Nat → Nat) (cA : ClassId) (ad : Nat → Nat → Nat) (S : Nat → Nat → Nat → Int32) (x1 : Int32) : Met l y_NC_chosen ws_NC_chosen rm_NC_chosen (nc_Pre (dC, dI) cA [.ref ((ad 0) 0), .int x1] (w_NC cA ad S)) (vp_Si (fun r => r = (f_NC_chosen S x1))) 0 0 (fun _ => False) := by
  refine Met.ofW (cc := b_NC_chosen) (maxL := 2) (ret := (some .int)) (by decide) rfl ?_
  intro p e s m args below meth c s₁ B hml hv
  obtain ⟨rfl, hP, hK, hD, hN⟩ := hv
  have hx := B.exec
  have hb := B.bytes
  have hr := B.returns
  have hts : ∀ w ∈ lw_G, w.before [.ref ((ad 0) 0), .int x1].toArray s = true := fun w h => atoms_spec (ws := ws_NC_chosen) B.pre w (List.mem_cons_of_mem _ h)
  have hown : s.vm.findClass R_NC = some m.cls := findClass_of_methodNamed B.named
  have hlocks := B.notSynchronized
  have hfix : CallFix p m c b_NC_chosen 2 s [.ref ((ad 0) 0), .int x1].toArray lw_G R_NC := ⟨hx, hb, hml, hown, hts⟩
  have hl := lv_entry ([.ref ((ad 0) 0), .int x1]) (n := 2) (Nat.le_of_ble_eq_true rfl)
  rw [lg_entry_eq]
  generalize (lg_sl ([.ref ((ad 0) 0), .int x1]) ++ List.replicate (2 - (lg_sl ([.ref ((ad 0) 0), .int x1])).length) Slot.unset).toArray = ls at hl ⊢
  have hl : lv_has ls 2 [(0, .ref ((ad 0) 0)), (1, .int x1)] := hl
  refine lv_iload_n hx hb d_NC_chosen_0 rfl (lv_at hl 1 rfl) ?_
  refine lv_iconst (v := (-1)) hx hb d_NC_chosen_1 (by decide) ?_
  refine lv_icmp_ne (tgt := 15) hx hb d_NC_chosen_2 (by decide) (fun c_385 => ?_) (fun c_385 => ?_)
  · refine lv_aload_n hx hb d_NC_chosen_15 rfl (lv_at hl 0 rfl) ?_
    refine va_get (D := (dC, dI)) (ci := 0) (v := .ref ((ad 4) 0)) (C := R_NC) (T := F_NC) (N := 15) hx hb hts i_NC hown hK hP 0 rfl rfl 7 (by decide) (hts _ m_f_NC_43) (fun _ h9 => h9) rfl d_NC_chosen_16 ?_
    refine lv_iload_n hx hb d_NC_chosen_19 rfl (lv_at hl 1 rfl) ?_
    have hP_w_386 := hP.sub (ws' := (w_Picks cA (ad 4) (S 4))) [27, 28] rfl
    have hD_w_386 := hD.sub (ws' := (w_Picks cA (ad 4) (S 4))) [27, 28] (by decide) rfl
    refine nc_ro (va_runV (As := [.int x1]) (rest := []) hfix (c_Picks_at l dC dI cA (ad 4) (S 4) x1) (k_NC_148 hts hN ⟨Nat.le_of_ble_eq_true rfl, Nat.le_of_ble_eq_true rfl⟩) (nc_preV hK hN hP_w_386 hD_w_386 rfl rfl) rfl rfl hl.1 rfl (lv_room (Nat.le_of_ble_eq_true rfl)) d_NC_chosen_20 ⟨Nat.zero_le _, Nat.zero_le _⟩) (fun r er => ?_)
    subst er
    exact W.iret (v := (f_Picks_at (S 4) x1)) hx hb hr (fun t ht hW => ⟨(f_Picks_at (S 4) x1), rfl, by rw [f_NC_chosen, if_neg c_385], ht⟩) (fun _ h => nomatch h) d_NC_chosen_23
  · refine lv_aload_n hx hb d_NC_chosen_5 rfl (lv_at hl 0 rfl) ?_
    refine va_get (D := (dC, dI)) (ci := 0) (v := .ref ((ad 4) 0)) (C := R_NC) (T := F_NC) (N := 15) hx hb hts i_NC hown hK hP 0 rfl rfl 7 (by decide) (hts _ m_f_NC_43) (fun _ h9 => h9) rfl d_NC_chosen_6 ?_
    refine va_getN (D := (dC, dI)) (ci := 3) (v := .int ((S 4) 1 0)) (C := R_Picks) (T := F_Picks) (N := 3) hx hb hts i_Picks hown hK hP 27 rfl rfl 1 (by decide) (va_Nw.use rfl (hN _ m_f_NC_145)) (fun _ h9 => h9) rfl d_NC_chosen_9 ?_
    refine lv_goto (tgt := 23) hx hb d_NC_chosen_12 (by decide) ?_
    exact W.iret (v := ((S 4) 1 0)) hx hb hr (fun t ht hW => ⟨((S 4) 1 0), rfl, by rw [f_NC_chosen, if_pos c_385], ht⟩) (fun _ h => nomatch h) d_NC_chosen_23
def f_NC_asked (S : Nat → Nat → Nat → Int32) (x1 x2 : Int32) : Int32 := (if x1 = (-1) then (f_bitCount (f_NC_leadersOf S ((S 0) 10 0))) else (if (f_NC_groupAt S x1) = 0 then (-1) else (if x2 = (-1) then (f_bitCount (f_NC_groupAt S x1)) else (f_NC_memberAt (f_NC_groupAt S x1) x2))))
abbrev ws_NC_asked : List Cond := .code y_NC_asked b_NC_asked 4 (some .int) :: lw_G
abbrev rm_NC_asked : Room := { frames := 4, cells := 0, slots := 0, locals := 93 }
set_option maxHeartbeats 4000000 in
set_option maxRecDepth 100000 in
theorem c_NC_asked (l : Launch) (dC : Nat → ClassId) (dI : Nat → Nat → Nat) (cA : ClassId) (ad : Nat → Nat → Nat) (S : Nat → Nat → Nat → Int32) (x1 x2 : Int32) : Met l y_NC_asked ws_NC_asked rm_NC_asked (nc_Pre (dC, dI) cA [.ref ((ad 0) 0), .int x1, .int x2] (w_NC cA ad S)) (vp_Si (fun r => r = (f_NC_asked S x1 x2))) 0 0 (fun _ => False) := by
  refine Met.ofW (cc := b_NC_asked) (maxL := 4) (ret := (some .int)) (by decide) rfl ?_
  intro p e s m args below meth c s₁ B hml hv
  obtain ⟨rfl, hP, hK, hD, hN⟩ := hv
  have hx := B.exec
  have hb := B.bytes
  have hr := B.returns
  have hts : ∀ w ∈ lw_G, w.before [.ref ((ad 0) 0), .int x1, .int x2].toArray s = true := fun w h => atoms_spec (ws := ws_NC_asked) B.pre w (List.mem_cons_of_mem _ h)
  have hown : s.vm.findClass R_NC = some m.cls := findClass_of_methodNamed B.named
  have hlocks := B.notSynchronized
  have hfix : CallFix p m c b_NC_asked 4 s [.ref ((ad 0) 0), .int x1, .int x2].toArray lw_G R_NC := ⟨hx, hb, hml, hown, hts⟩
  have hl := lv_entry ([.ref ((ad 0) 0), .int x1, .int x2]) (n := 4) (Nat.le_of_ble_eq_true rfl)
  rw [lg_entry_eq]
  generalize (lg_sl ([.ref ((ad 0) 0), .int x1, .int x2]) ++ List.replicate (4 - (lg_sl ([.ref ((ad 0) 0), .int x1, .int x2])).length) Slot.unset).toArray = ls at hl ⊢
  have hl : lv_has ls 4 [(0, .ref ((ad 0) 0)), (1, .int x1), (2, .int x2)] := hl
  refine lv_iload_n hx hb d_NC_asked_0 rfl (lv_at hl 1 rfl) ?_
  refine lv_iconst (v := (-1)) hx hb d_NC_asked_1 (by decide) ?_
  refine lv_icmp_ne (tgt := 17) hx hb d_NC_asked_2 (by decide) (fun c_387 => ?_) (fun c_387 => ?_)
  · refine lv_aload_n hx hb d_NC_asked_17 rfl (lv_at hl 0 rfl) ?_
    refine lv_iload_n hx hb d_NC_asked_18 rfl (lv_at hl 1 rfl) ?_
    refine nc_ro (va_runV (As := [.int x1]) (rest := []) hfix (c_NC_groupAt l dC dI cA ad S x1) (k_NC_159 hts hN ⟨Nat.le_of_ble_eq_true rfl, Nat.le_of_ble_eq_true rfl⟩) (nc_preV hK hN hP hD rfl rfl) rfl rfl hl.1 rfl (lv_room (Nat.le_of_ble_eq_true rfl)) d_NC_asked_19 ⟨Nat.zero_le _, Nat.zero_le _⟩) (fun r er => ?_)
    subst er
    refine lv_istore_n (lv' := [(3, .int (f_NC_groupAt S x1)), (0, .ref ((ad 0) 0)), (1, .int x1), (2, .int x2)]) hx hb d_NC_asked_22 rfl hl (by decide) rfl (fun ls hl => ?_)
    refine lv_iload_n hx hb d_NC_asked_23 rfl (lv_at hl 0 rfl) ?_
    refine lv_if_ne (tgt := 29) hx hb d_NC_asked_24 (by decide) (fun c_388 => ?_) (fun c_388 => ?_)
    · refine lv_iload_n hx hb d_NC_asked_29 rfl (lv_at hl 3 rfl) ?_
      refine lv_iconst (v := (-1)) hx hb d_NC_asked_30 (by decide) ?_
      refine lv_icmp_ne (tgt := 41) hx hb d_NC_asked_31 (by decide) (fun c_389 => ?_) (fun c_389 => ?_)
      · refine lv_iload_n hx hb d_NC_asked_41 rfl (lv_at hl 0 rfl) ?_
        refine lv_iload_n hx hb d_NC_asked_42 rfl (lv_at hl 3 rfl) ?_
        refine nc_ro (va_runS (As := [.int (f_NC_groupAt S x1), .int x2]) (rest := []) hfix (c_NC_memberAt l dC dI cA (f_NC_groupAt S x1) x2) (k_NC_162 hts hN ⟨Nat.le_of_ble_eq_true rfl, Nat.le_of_ble_eq_true rfl⟩) (nc_preS0 hK hN) rfl rfl hl.1 rfl (lv_room (Nat.le_of_ble_eq_true rfl)) d_NC_asked_43 ⟨Nat.zero_le _, Nat.zero_le _⟩) (fun r er => ?_)
        subst er
        exact W.iret (v := (f_NC_memberAt (f_NC_groupAt S x1) x2)) hx hb hr (fun t ht hW => ⟨(f_NC_memberAt (f_NC_groupAt S x1) x2), rfl, by rw [f_NC_asked, if_neg c_387, if_neg c_388, if_neg c_389], ht⟩) (fun _ h => nomatch h) d_NC_asked_46
      · refine lv_iload_n hx hb d_NC_asked_34 rfl (lv_at hl 0 rfl) ?_
        refine nc_ro (va_runS (As := [.int (f_NC_groupAt S x1)]) (rest := []) hfix (c_bitCount l dC dI cA (f_NC_groupAt S x1)) (k_NC_154 hts hN ⟨Nat.le_of_ble_eq_true rfl, Nat.le_of_ble_eq_true rfl⟩) (nc_preS0 hK hN) rfl rfl hl.1 rfl (lv_room (Nat.le_of_ble_eq_true rfl)) d_NC_asked_35 ⟨Nat.zero_le _, Nat.zero_le _⟩) (fun r er => ?_)
        subst er
        refine lv_goto (tgt := 46) hx hb d_NC_asked_38 (by decide) ?_
        exact W.iret (v := (f_bitCount (f_NC_groupAt S x1))) hx hb hr (fun t ht hW => ⟨(f_bitCount (f_NC_groupAt S x1)), rfl, by rw [f_NC_asked, if_neg c_387, if_neg c_388, if_pos c_389], ht⟩) (fun _ h => nomatch h) d_NC_asked_46
    · refine lv_iconst (v := (-1)) hx hb d_NC_asked_27 (by decide) ?_
      exact W.iret (v := (-1)) hx hb hr (fun t ht hW => ⟨(-1), rfl, by rw [f_NC_asked, if_neg c_387, if_pos c_388], ht⟩) (fun _ h => nomatch h) d_NC_asked_28
  · refine lv_aload_n hx hb d_NC_asked_5 rfl (lv_at hl 0 rfl) ?_
    refine lv_aload_n hx hb d_NC_asked_6 rfl (lv_at hl 0 rfl) ?_
    refine va_get (D := (dC, dI)) (ci := 0) (v := .int ((S 0) 10 0)) (C := R_NC) (T := F_NC) (N := 15) hx hb hts i_NC hown hK hP 0 rfl rfl 10 (by decide) (hts _ m_f_NC_53) (fun _ h9 => h9) rfl d_NC_asked_7 ?_
    refine nc_ro (va_runV (As := [.int ((S 0) 10 0)]) (rest := []) hfix (c_NC_leadersOf l dC dI cA ad S ((S 0) 10 0)) (k_NC_151 hts hN ⟨Nat.le_of_ble_eq_true rfl, Nat.le_of_ble_eq_true rfl⟩) (nc_preV hK hN hP hD rfl rfl) rfl rfl hl.1 rfl (lv_room (Nat.le_of_ble_eq_true rfl)) d_NC_asked_10 ⟨Nat.zero_le _, Nat.zero_le _⟩) (fun r er => ?_)
    subst er
    refine nc_ro (va_runS (As := [.int (f_NC_leadersOf S ((S 0) 10 0))]) (rest := []) hfix (c_bitCount l dC dI cA (f_NC_leadersOf S ((S 0) 10 0))) (k_NC_154 hts hN ⟨Nat.le_of_ble_eq_true rfl, Nat.le_of_ble_eq_true rfl⟩) (nc_preS0 hK hN) rfl rfl hl.1 rfl (lv_room (Nat.le_of_ble_eq_true rfl)) d_NC_asked_13 ⟨Nat.zero_le _, Nat.zero_le _⟩) (fun r er => ?_)
    subst er
    exact W.iret (v := (f_bitCount (f_NC_leadersOf S ((S 0) 10 0)))) hx hb hr (fun t ht hW => ⟨(f_bitCount (f_NC_leadersOf S ((S 0) 10 0))), rfl, by rw [f_NC_asked, if_pos c_387], ht⟩) (fun _ h => nomatch h) d_NC_asked_16
def f_NC_told (S : Nat → Nat → Nat → Int32) (x1 : Int32) : Int32 := (if x1 = 0 then ((S 0) 12 0) else (if x1 = 1 then ((S 0) 13 0) else (if x1 = 2 then ((S 0) 14 0) else (-1))))
abbrev ws_NC_told : List Cond := .code y_NC_told b_NC_told 2 (some .int) :: lw_G
abbrev rm_NC_told : Room := { frames := 0, cells := 0, slots := 0, locals := 0 }
set_option maxHeartbeats 4000000 in
set_option maxRecDepth 100000 in
theorem c_NC_told (l : Launch) (dC : Nat → ClassId) (dI : Nat → Nat → Nat) (cA : ClassId) (ad : Nat → Nat → Nat) (S : Nat → Nat → Nat → Int32) (x1 : Int32) : Met l y_NC_told ws_NC_told rm_NC_told (nc_Pre (dC, dI) cA [.ref ((ad 0) 0), .int x1] (w_NC cA ad S)) (vp_Si (fun r => r = (f_NC_told S x1))) 0 0 (fun _ => False) := by
  refine Met.ofW (cc := b_NC_told) (maxL := 2) (ret := (some .int)) (by decide) rfl ?_
  intro p e s m args below meth c s₁ B hml hv
  obtain ⟨rfl, hP, hK, hD, hN⟩ := hv
  have hx := B.exec
  have hb := B.bytes
  have hr := B.returns
  have hts : ∀ w ∈ lw_G, w.before [.ref ((ad 0) 0), .int x1].toArray s = true := fun w h => atoms_spec (ws := ws_NC_told) B.pre w (List.mem_cons_of_mem _ h)
  have hown : s.vm.findClass R_NC = some m.cls := findClass_of_methodNamed B.named
  have hlocks := B.notSynchronized
  have hfix : CallFix p m c b_NC_told 2 s [.ref ((ad 0) 0), .int x1].toArray lw_G R_NC := ⟨hx, hb, hml, hown, hts⟩
  have hl := lv_entry ([.ref ((ad 0) 0), .int x1]) (n := 2) (Nat.le_of_ble_eq_true rfl)
  rw [lg_entry_eq]
  generalize (lg_sl ([.ref ((ad 0) 0), .int x1]) ++ List.replicate (2 - (lg_sl ([.ref ((ad 0) 0), .int x1])).length) Slot.unset).toArray = ls at hl ⊢
  have hl : lv_has ls 2 [(0, .ref ((ad 0) 0)), (1, .int x1)] := hl
  refine lv_iload_n hx hb d_NC_told_0 rfl (lv_at hl 1 rfl) ?_
  by_cases c_390 : x1 = 0
  · refine lv_tableIn (tgt := 28) (off := 27) hx hb d_NC_told_1 (by rw [c_390]; decide) (by rw [c_390]; decide) (by rw [c_390]; decide) (by decide) ?_
    refine lv_aload_n hx hb d_NC_told_28 rfl (lv_at hl 0 rfl) ?_
    refine va_get (D := (dC, dI)) (ci := 0) (v := .int ((S 0) 12 0)) (C := R_NC) (T := F_NC) (N := 15) hx hb hts i_NC hown hK hP 0 rfl rfl 12 (by decide) (hts _ m_f_NC_59) (fun _ h9 => h9) rfl d_NC_told_29 ?_
    exact W.iret (v := ((S 0) 12 0)) hx hb hr (fun t ht hW => ⟨((S 0) 12 0), rfl, by rw [f_NC_told, if_pos c_390], ht⟩) (fun _ h => nomatch h) d_NC_told_32
  · by_cases c_391 : x1 = 1
    · refine lv_tableIn (tgt := 33) (off := 32) hx hb d_NC_told_1 (by rw [c_391]; decide) (by rw [c_391]; decide) (by rw [c_391]; decide) (by decide) ?_
      refine lv_aload_n hx hb d_NC_told_33 rfl (lv_at hl 0 rfl) ?_
      refine va_get (D := (dC, dI)) (ci := 0) (v := .int ((S 0) 13 0)) (C := R_NC) (T := F_NC) (N := 15) hx hb hts i_NC hown hK hP 0 rfl rfl 13 (by decide) (hts _ m_f_NC_62) (fun _ h9 => h9) rfl d_NC_told_34 ?_
      exact W.iret (v := ((S 0) 13 0)) hx hb hr (fun t ht hW => ⟨((S 0) 13 0), rfl, by rw [f_NC_told, if_neg c_390, if_pos c_391], ht⟩) (fun _ h => nomatch h) d_NC_told_37
    · by_cases c_392 : x1 = 2
      · refine lv_tableIn (tgt := 38) (off := 37) hx hb d_NC_told_1 (by rw [c_392]; decide) (by rw [c_392]; decide) (by rw [c_392]; decide) (by decide) ?_
        refine lv_aload_n hx hb d_NC_told_38 rfl (lv_at hl 0 rfl) ?_
        refine va_get (D := (dC, dI)) (ci := 0) (v := .int ((S 0) 14 0)) (C := R_NC) (T := F_NC) (N := 15) hx hb hts i_NC hown hK hP 0 rfl rfl 14 (by decide) (hts _ m_f_NC_65) (fun _ h9 => h9) rfl d_NC_told_39 ?_
        exact W.iret (v := ((S 0) 14 0)) hx hb hr (fun t ht hW => ⟨((S 0) 14 0), rfl, by rw [f_NC_told, if_neg c_390, if_neg c_391, if_pos c_392], ht⟩) (fun _ h => nomatch h) d_NC_told_42
      · refine lv_tableOut (tgt := 43) hx hb d_NC_told_1 (by have q0 := lv_neT c_390 L_0; have q1 := lv_neT c_391 L_1; have q2 := lv_neT c_392 L_2; omega) (by decide) ?_
        refine lv_iconst (v := (-1)) hx hb d_NC_told_43 (by decide) ?_
        exact W.iret (v := (-1)) hx hb hr (fun t ht hW => ⟨(-1), rfl, by rw [f_NC_told, if_neg c_390, if_neg c_391, if_neg c_392], ht⟩) (fun _ h => nomatch h) d_NC_told_44
def f_NC_count (S : Nat → Nat → Nat → Int32) (x1 : Int32) : Int32 := (if x1 = 0 then ((S 1) 7 0) else (if x1 = 1 then (f_bitCount (f_Things_thereSet (S 1))) else (if x1 = 2 then (f_bitCount (f_Things_placedSet (S 1) 2)) else (if x1 = 3 then ((S 0) 2 0) else (if x1 = 4 then ((S 2) 4 0) else (if x1 = 5 then ((S 0) 3 0) else (-1)))))))
abbrev ws_NC_count : List Cond := .code y_NC_count b_NC_count 2 (some .int) :: lw_G
abbrev rm_NC_count : Room := { frames := 2, cells := 0, slots := 0, locals := 43 }
set_option maxHeartbeats 4000000 in
set_option maxRecDepth 100000 in
theorem c_NC_count (l : Launch) (dC : Nat → ClassId) (dI : Nat → Nat → Nat) (cA : ClassId) (ad : Nat → Nat → Nat) (S : Nat → Nat → Nat → Int32) (x1 : Int32) : Met l y_NC_count ws_NC_count rm_NC_count (nc_Pre (dC, dI) cA [.ref ((ad 0) 0), .int x1] (w_NC cA ad S)) (vp_Si (fun r => r = (f_NC_count S x1))) 0 0 (fun _ => False) := by
  refine Met.ofW (cc := b_NC_count) (maxL := 2) (ret := (some .int)) (by decide) rfl ?_
  intro p e s m args below meth c s₁ B hml hv
  obtain ⟨rfl, hP, hK, hD, hN⟩ := hv
  have hx := B.exec
  have hb := B.bytes
  have hr := B.returns
  have hts : ∀ w ∈ lw_G, w.before [.ref ((ad 0) 0), .int x1].toArray s = true := fun w h => atoms_spec (ws := ws_NC_count) B.pre w (List.mem_cons_of_mem _ h)
  have hown : s.vm.findClass R_NC = some m.cls := findClass_of_methodNamed B.named
  have hlocks := B.notSynchronized
  have hfix : CallFix p m c b_NC_count 2 s [.ref ((ad 0) 0), .int x1].toArray lw_G R_NC := ⟨hx, hb, hml, hown, hts⟩
  have hl := lv_entry ([.ref ((ad 0) 0), .int x1]) (n := 2) (Nat.le_of_ble_eq_true rfl)
  rw [lg_entry_eq]
  generalize (lg_sl ([.ref ((ad 0) 0), .int x1]) ++ List.replicate (2 - (lg_sl ([.ref ((ad 0) 0), .int x1])).length) Slot.unset).toArray = ls at hl ⊢
  have hl : lv_has ls 2 [(0, .ref ((ad 0) 0)), (1, .int x1)] := hl
  refine lv_iload_n hx hb d_NC_count_0 rfl (lv_at hl 1 rfl) ?_
  by_cases c_393 : x1 = 0
  · refine lv_tableIn (tgt := 40) (off := 39) hx hb d_NC_count_1 (by rw [c_393]; decide) (by rw [c_393]; decide) (by rw [c_393]; decide) (by decide) ?_
    refine lv_aload_n hx hb d_NC_count_40 rfl (lv_at hl 0 rfl) ?_
    refine va_get (D := (dC, dI)) (ci := 0) (v := .ref ((ad 1) 0)) (C := R_NC) (T := F_NC) (N := 15) hx hb hts i_NC hown hK hP 0 rfl rfl 0 (by decide) (hts _ m_f_NC_10) (fun _ h9 => h9) rfl d_NC_count_41 ?_
    refine va_getN (D := (dC, dI)) (ci := 1) (v := .int ((S 1) 7 0)) (C := R_Things) (T := F_Things) (N := 8) hx hb hts i_Things hown hK hP 3 rfl rfl 7 (by decide) (va_Nw.use rfl (hN _ m_f_NC_165)) (fun _ h9 => h9) rfl d_NC_count_44 ?_
    exact W.iret (v := ((S 1) 7 0)) hx hb hr (fun t ht hW => ⟨((S 1) 7 0), rfl, by rw [f_NC_count, if_pos c_393], ht⟩) (fun _ h => nomatch h) d_NC_count_47
  · by_cases c_394 : x1 = 1
    · refine lv_tableIn (tgt := 48) (off := 47) hx hb d_NC_count_1 (by rw [c_394]; decide) (by rw [c_394]; decide) (by rw [c_394]; decide) (by decide) ?_
      refine lv_aload_n hx hb d_NC_count_48 rfl (lv_at hl 0 rfl) ?_
      refine va_get (D := (dC, dI)) (ci := 0) (v := .ref ((ad 1) 0)) (C := R_NC) (T := F_NC) (N := 15) hx hb hts i_NC hown hK hP 0 rfl rfl 0 (by decide) (hts _ m_f_NC_10) (fun _ h9 => h9) rfl d_NC_count_49 ?_
      have hP_w_395 := hP.sub (ws' := (w_Things cA (ad 1) (S 1))) [3, 4, 5, 6, 7, 8, 9, 10] rfl
      have hD_w_395 := hD.sub (ws' := (w_Things cA (ad 1) (S 1))) [3, 4, 5, 6, 7, 8, 9, 10] (by decide) rfl
      refine nc_ro (va_runV (As := []) (rest := []) hfix (c_Things_thereSet l dC dI cA (ad 1) (S 1)) (k_NC_168 hts hN ⟨Nat.le_of_ble_eq_true rfl, Nat.le_of_ble_eq_true rfl⟩) (nc_preV hK hN hP_w_395 hD_w_395 rfl rfl) rfl rfl hl.1 rfl (lv_room (Nat.le_of_ble_eq_true rfl)) d_NC_count_52 ⟨Nat.zero_le _, Nat.zero_le _⟩) (fun r er => ?_)
      subst er
      refine nc_ro (va_runS (As := [.int (f_Things_thereSet (S 1))]) (rest := []) hfix (c_bitCount l dC dI cA (f_Things_thereSet (S 1))) (k_NC_154 hts hN ⟨Nat.le_of_ble_eq_true rfl, Nat.le_of_ble_eq_true rfl⟩) (nc_preS0 hK hN) rfl rfl hl.1 rfl (lv_room (Nat.le_of_ble_eq_true rfl)) d_NC_count_55 ⟨Nat.zero_le _, Nat.zero_le _⟩) (fun r er => ?_)
      subst er
      exact W.iret (v := (f_bitCount (f_Things_thereSet (S 1)))) hx hb hr (fun t ht hW => ⟨(f_bitCount (f_Things_thereSet (S 1))), rfl, by rw [f_NC_count, if_neg c_393, if_pos c_394], ht⟩) (fun _ h => nomatch h) d_NC_count_58
    · by_cases c_396 : x1 = 2
      · refine lv_tableIn (tgt := 59) (off := 58) hx hb d_NC_count_1 (by rw [c_396]; decide) (by rw [c_396]; decide) (by rw [c_396]; decide) (by decide) ?_
        refine lv_aload_n hx hb d_NC_count_59 rfl (lv_at hl 0 rfl) ?_
        refine va_get (D := (dC, dI)) (ci := 0) (v := .ref ((ad 1) 0)) (C := R_NC) (T := F_NC) (N := 15) hx hb hts i_NC hown hK hP 0 rfl rfl 0 (by decide) (hts _ m_f_NC_10) (fun _ h9 => h9) rfl d_NC_count_60 ?_
        refine lv_iconst (v := 2) hx hb d_NC_count_63 (by decide) ?_
        have hP_w_397 := hP.sub (ws' := (w_Things cA (ad 1) (S 1))) [3, 4, 5, 6, 7, 8, 9, 10] rfl
        have hD_w_397 := hD.sub (ws' := (w_Things cA (ad 1) (S 1))) [3, 4, 5, 6, 7, 8, 9, 10] (by decide) rfl
        refine nc_ro (va_runV (As := [.int 2]) (rest := []) hfix (c_Things_placedSet l dC dI cA (ad 1) (S 1) 2) (k_NC_171 hts hN ⟨Nat.le_of_ble_eq_true rfl, Nat.le_of_ble_eq_true rfl⟩) (nc_preV hK hN hP_w_397 hD_w_397 rfl rfl) rfl rfl hl.1 rfl (lv_room (Nat.le_of_ble_eq_true rfl)) d_NC_count_64 ⟨Nat.zero_le _, Nat.zero_le _⟩) (fun r er => ?_)
        subst er
        refine nc_ro (va_runS (As := [.int (f_Things_placedSet (S 1) 2)]) (rest := []) hfix (c_bitCount l dC dI cA (f_Things_placedSet (S 1) 2)) (k_NC_154 hts hN ⟨Nat.le_of_ble_eq_true rfl, Nat.le_of_ble_eq_true rfl⟩) (nc_preS0 hK hN) rfl rfl hl.1 rfl (lv_room (Nat.le_of_ble_eq_true rfl)) d_NC_count_67 ⟨Nat.zero_le _, Nat.zero_le _⟩) (fun r er => ?_)
        subst er
        exact W.iret (v := (f_bitCount (f_Things_placedSet (S 1) 2))) hx hb hr (fun t ht hW => ⟨(f_bitCount (f_Things_placedSet (S 1) 2)), rfl, by rw [f_NC_count, if_neg c_393, if_neg c_394, if_pos c_396], ht⟩) (fun _ h => nomatch h) d_NC_count_70
      · by_cases c_398 : x1 = 3
        · refine lv_tableIn (tgt := 71) (off := 70) hx hb d_NC_count_1 (by rw [c_398]; decide) (by rw [c_398]; decide) (by rw [c_398]; decide) (by decide) ?_
          refine lv_aload_n hx hb d_NC_count_71 rfl (lv_at hl 0 rfl) ?_
          refine va_get (D := (dC, dI)) (ci := 0) (v := .int ((S 0) 2 0)) (C := R_NC) (T := F_NC) (N := 15) hx hb hts i_NC hown hK hP 0 rfl rfl 2 (by decide) (hts _ m_f_NC_20) (fun _ h9 => h9) rfl d_NC_count_72 ?_
          exact W.iret (v := ((S 0) 2 0)) hx hb hr (fun t ht hW => ⟨((S 0) 2 0), rfl, by rw [f_NC_count, if_neg c_393, if_neg c_394, if_neg c_396, if_pos c_398], ht⟩) (fun _ h => nomatch h) d_NC_count_75
        · by_cases c_399 : x1 = 4
          · refine lv_tableIn (tgt := 76) (off := 75) hx hb d_NC_count_1 (by rw [c_399]; decide) (by rw [c_399]; decide) (by rw [c_399]; decide) (by decide) ?_
            refine lv_aload_n hx hb d_NC_count_76 rfl (lv_at hl 0 rfl) ?_
            refine va_get (D := (dC, dI)) (ci := 0) (v := .ref ((ad 2) 0)) (C := R_NC) (T := F_NC) (N := 15) hx hb hts i_NC hown hK hP 0 rfl rfl 4 (by decide) (hts _ m_f_NC_30) (fun _ h9 => h9) rfl d_NC_count_77 ?_
            refine va_getN (D := (dC, dI)) (ci := 2) (v := .int ((S 2) 4 0)) (C := R_Phrase) (T := F_Phrase) (N := 11) hx hb hts i_Phrase hown hK hP 11 rfl rfl 4 (by decide) (va_Nw.use rfl (hN _ m_f_NC_174)) (fun _ h9 => h9) rfl d_NC_count_80 ?_
            exact W.iret (v := ((S 2) 4 0)) hx hb hr (fun t ht hW => ⟨((S 2) 4 0), rfl, by rw [f_NC_count, if_neg c_393, if_neg c_394, if_neg c_396, if_neg c_398, if_pos c_399], ht⟩) (fun _ h => nomatch h) d_NC_count_83
          · by_cases c_400 : x1 = 5
            · refine lv_tableIn (tgt := 84) (off := 83) hx hb d_NC_count_1 (by rw [c_400]; decide) (by rw [c_400]; decide) (by rw [c_400]; decide) (by decide) ?_
              refine lv_aload_n hx hb d_NC_count_84 rfl (lv_at hl 0 rfl) ?_
              refine va_get (D := (dC, dI)) (ci := 0) (v := .int ((S 0) 3 0)) (C := R_NC) (T := F_NC) (N := 15) hx hb hts i_NC hown hK hP 0 rfl rfl 3 (by decide) (hts _ m_f_NC_24) (fun _ h9 => h9) rfl d_NC_count_85 ?_
              exact W.iret (v := ((S 0) 3 0)) hx hb hr (fun t ht hW => ⟨((S 0) 3 0), rfl, by rw [f_NC_count, if_neg c_393, if_neg c_394, if_neg c_396, if_neg c_398, if_neg c_399, if_pos c_400], ht⟩) (fun _ h => nomatch h) d_NC_count_88
            · refine lv_tableOut (tgt := 89) hx hb d_NC_count_1 (by have q0 := lv_neT c_393 L_0; have q1 := lv_neT c_394 L_1; have q2 := lv_neT c_396 L_2; have q3 := lv_neT c_398 L_3; have q4 := lv_neT c_399 L_4; have q5 := lv_neT c_400 L_5; omega) (by decide) ?_
              refine lv_iconst (v := (-1)) hx hb d_NC_count_89 (by decide) ?_
              exact W.iret (v := (-1)) hx hb hr (fun t ht hW => ⟨(-1), rfl, by rw [f_NC_count, if_neg c_393, if_neg c_394, if_neg c_396, if_neg c_398, if_neg c_399, if_neg c_400], ht⟩) (fun _ h => nomatch h) d_NC_count_90
