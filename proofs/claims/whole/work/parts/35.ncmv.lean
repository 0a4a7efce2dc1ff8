section NCG
variable {p : Program} {l : Launch} {e : Env} {R : Room} {s : State} {m : MethodId} {args : Array Value} {below : List Frame} {meth : Method} {c : Code} {H : Heap} {locs : List Loc} {cells slots : Nat} {Q : State → Prop}
variable {pc : Nat} {ls : Array Slot} {rest st0 : List Value} {a : Array Value} {A0 A1 : Nat → Prop} {H0 : Heap} {D : va_G} {cl : List vw_C}
theorem nc_mug {σ : Type} {po : Int32 → σ → Prop} {w2 : σ → va_W} (hr : va_Run p l e R s m args below meth c H locs cells slots 0 0 (F0 m pc ls st0) rest (va_Qi po (fun u t => va_P D cl (w2 u) t.heap ∧ va_D A1 (w2 u)) A1 a) A1) (hS : va_S A0 H0 H locs) (hF : ∀ q, A1 q → A0 q)
    (kk : ∀ (r : Int32) (u : σ) (H1 : Heap) (locs1 : List Loc), po r u → va_P D cl (w2 u) H1 → va_D A1 (w2 u) → (∀ q : Nat, q < H.size → ¬ A1 q → H1[q]? = H[q]?) → va_S A0 H0 H1 locs1 → W p l e R s m args below meth c H1 locs1 cells slots Q (F0 m (pc + 3) ls (.int r :: rest))) : W p l e R s m args below meth c H locs cells slots Q (F0 m pc ls st0) :=
  va_calli hr hS (fun q _ h => hF q h) hF (fun r u t H1 locs1 ht _ hp hB _ hk hS1 => kk r u H1 locs1 hp (by rw [← ht]; exact hB.1) hB.2 hk hS1)
end NCG
set_option maxHeartbeats 4000000 in
set_option maxRecDepth 100000 in
theorem c2_NC_goThrough (l : Launch) (dC : Nat → ClassId) (dI : Nat → Nat → Nat) (cA : ClassId) (sz : Nat) (ad : Nat → Nat → Nat) (S : Nat → Nat → Nat → Int32) : Met l y_NC_goThrough ws_NC_goThrough rm_NC_goThrough (nc_PreM (dC, dI) cA sz [.ref ((ad 0) 0)] (w_NC cA ad S)) (va_Qi (fun r (u : Nat → Nat → Nat) => r = (f_NC_goThrough S).1 ∧ u 0 = ad 0) (fun (u : Nat → Nat → Nat) t => va_P (dC, dI) classes (w_NC cA u (f_NC_goThrough S).2) t.heap ∧ va_D (va_A (w_NC cA ad S) sz) (w_NC cA u (f_NC_goThrough S).2)) (va_A (w_NC cA ad S) sz)) 0 0 (va_A (w_NC cA ad S) sz) := by
  refine Met.ofW (cc := b_NC_goThrough) (maxL := 3) (ret := (some .int)) (by decide) rfl ?_
  intro p e s m args below meth c s₁ B hml hv
  obtain ⟨rfl, hsz, hP, hK, hD0, hN⟩ := hv
  have hx := B.exec
  have hb := B.bytes
  have hr := B.returns
  have hts : ∀ w ∈ lw_G, w.before [.ref ((ad 0) 0)].toArray s = true := fun w h => atoms_spec (ws := ws_NC_goThrough) B.pre w (List.mem_cons_of_mem _ h)
  have hown : s.vm.findClass R_NC = some m.cls := findClass_of_methodNamed B.named
  have hlocks := B.notSynchronized
  have hfix : CallFix p m c b_NC_goThrough 3 s [.ref ((ad 0) 0)].toArray lw_G R_NC := ⟨hx, hb, hml, hown, hts⟩
  subst hsz
  have hD := hD0.self (sz := s.heap.size)
  generalize hAe : va_A (w_NC cA ad S) s.heap.size = A at hD ⊢
  have hA : ∀ q : Nat, s.heap.size ≤ q → A q := fun q h => by rw [← hAe]; exact Or.inr h
  have hS : va_S A s.heap s.heap [] := va_S.rf
  have hl := lv_entry ([.ref ((ad 0) 0)]) (n := 3) (Nat.le_of_ble_eq_true rfl)
  rw [lg_entry_eq]
  generalize (lg_sl ([.ref ((ad 0) 0)]) ++ List.replicate (3 - (lg_sl ([.ref ((ad 0) 0)])).length) Slot.unset).toArray = ls at hl ⊢
  have hl : lv_has ls 3 [(0, .ref ((ad 0) 0))] := hl
  refine lv_aload_n hx hb d_NC_goThrough_0 rfl (lv_at hl 0 rfl) ?_
  refine lv_iconst (v := 0) hx hb d_NC_goThrough_1 (by decide) ?_
  refine va_put (D := (dC, dI)) (ci := 0) (v := .int 0) (ty := .int) (C := R_NC) (T := F_NC) (N := 15) hx hb hts i_NC t_NC t_NC_ok n_NC hown hK hP hD hS 0 rfl rfl 10 (by decide) (hts _ m_f_NC_53) (fun _ h9 => h9) rfl (by decide +kernel) rfl rfl (Nat.le_of_ble_eq_true rfl) d_NC_goThrough_2 (fun H locs hP hD hS => ?_)
  have hP : va_P (dC, dI) classes (w_NC cA ad (upr S 0 (upf (S 0) 10 (fun _ => 0)))) H := hP
  have hD : va_D A (w_NC cA ad (upr S 0 (upf (S 0) 10 (fun _ => 0)))) := hD
  refine lv_aload_n hx hb d_NC_goThrough_5 rfl (lv_at hl 0 rfl) ?_
  refine va_get (D := (dC, dI)) (ci := 0) (v := .ref ((ad 5) 0)) (C := R_NC) (T := F_NC) (N := 15) hx hb hts i_NC hown hK hP 0 rfl rfl 8 (by decide) (hts _ m_f_NC_47) (fun _ h9 => h9) rfl d_NC_goThrough_6 ?_
  have hP_w_401 := hP.sub (ws' := (w_Picks cA (ad 5) (S 5))) [29, 30] rfl
  have hD_w_401 := hD.sub (ws' := (w_Picks cA (ad 5) (S 5))) [29, 30] (by decide) rfl
  have hFc := va_free (wc := (w_Picks cA (ad 5) (S 5))) hD hS hA [29, 30] rfl
  refine nc_muv (va_runV (As := []) (rest := []) hfix (c_Picks_clear l dC dI cA H.size (ad 5) (S 5)) (k_NC_180 hts hN ⟨Nat.le_of_ble_eq_true rfl, Nat.le_of_ble_eq_true rfl⟩) (nc_preVM hK hN hP_w_401 hD_w_401 rfl rfl) rfl rfl hl.1 rfl (lv_room (Nat.le_of_ble_eq_true rfl)) d_NC_goThrough_9 ⟨Nat.zero_le _, Nat.zero_le _⟩) hS hFc (fun H locs hP1 hD1 hk1 hS => ?_)
  obtain ⟨hP, hD⟩ := va_join (wr := va_pick (w_NC cA ad (upr S 0 (upf (S 0) 10 (fun _ => 0)))) [0, 1, 2, 3, 4, 5, 6, 7, 8, 9, 10, 11, 12, 13, 14, 15, 16, 17, 18, 19, 20, 21, 22, 23, 24, 25, 26, 27, 28]) (w1 := (w_Picks cA (ad 5) (f_Picks_clear (S 5)))) hP hD [29, 30] [0, 1, 2, 3, 4, 5, 6, 7, 8, 9, 10, 11, 12, 13, 14, 15, 16, 17, 18, 19, 20, 21, 22, 23, 24, 25, 26, 27, 28] rfl rfl (by decide) (by decide) hk1 hFc hP1 hD1
  have hP : va_P (dC, dI) classes (w_NC cA ad (upr (upr S 0 (upf (S 0) 10 (fun _ => 0))) 5 (f_Picks_clear (S 5)))) H := hP.sub [0, 1, 2, 3, 4, 5, 6, 7, 8, 9, 10, 11, 12, 13, 14, 15, 16, 17, 18, 19, 20, 21, 22, 23, 24, 25, 26, 27, 28, 29, 30] rfl
  have hD : va_D A (w_NC cA ad (upr (upr S 0 (upf (S 0) 10 (fun _ => 0))) 5 (f_Picks_clear (S 5)))) := hD.sub [0, 1, 2, 3, 4, 5, 6, 7, 8, 9, 10, 11, 12, 13, 14, 15, 16, 17, 18, 19, 20, 21, 22, 23, 24, 25, 26, 27, 28, 29, 30] (by decide) rfl
  refine lv_iconst (v := 0) hx hb d_NC_goThrough_12 (by decide) ?_
  refine lv_istore_n (lv' := [(1, .int 0), (0, .ref ((ad 0) 0))]) hx hb d_NC_goThrough_13 rfl hl (by decide) rfl (fun ls hl => ?_)
  have loop_14 : ∀ (n : Nat) (Sq : (Nat → Nat → Nat → Int32)) (z1 : Int32) (H : Heap) (locs : List Loc) (ls : Array Slot), (f_NC_goThrough S) = (f_NC_goThrough_L14 n Sq z1) → nc_mu ((Sq 2) 4 0) z1 < n → 0 ≤ ((Sq 5) 1 0).toInt → va_P (dC, dI) classes (w_NC cA ad Sq) H → va_D A (w_NC cA ad Sq) → va_S A s.heap H locs → lv_has ls 3 [(0, .ref ((ad 0) 0)), (1, .int z1)] → W p l e (headSpec ws_NC_goThrough rm_NC_goThrough).room s m [.ref ((ad 0) 0)].toArray below meth c H locs 0 0 (MQ below (va_Qi (fun r (u : Nat → Nat → Nat) => r = (f_NC_goThrough S).1 ∧ u 0 = ad 0) (fun (u : Nat → Nat → Nat) t => va_P (dC, dI) classes (w_NC cA u (f_NC_goThrough S).2) t.heap ∧ va_D A (w_NC cA u (f_NC_goThrough S).2)) A) [.ref ((ad 0) 0)].toArray s 0 0 A) (F0 m 14 ls []) := by
    intro n
    induction n with
    | zero =>
      intro Sq z1 H locs ls hE hm hg hP hD hS hl
      exact absurd hm (Nat.not_lt_zero _)
    | succ n ih =>
      intro Sq z1 H locs ls hE hm hg hP hD hS hl
      refine lv_iload_n hx hb d_NC_goThrough_14 rfl (lv_at hl 1 rfl) ?_
      refine lv_aload_n hx hb d_NC_goThrough_15 rfl (lv_at hl 0 rfl) ?_
      refine va_get (D := (dC, dI)) (ci := 0) (v := .ref ((ad 2) 0)) (C := R_NC) (T := F_NC) (N := 15) hx hb hts i_NC hown hK hP 0 rfl rfl 4 (by decide) (hts _ m_f_NC_30) (fun _ h9 => h9) rfl d_NC_goThrough_16 ?_
      refine va_getN (D := (dC, dI)) (ci := 2) (v := .int ((Sq 2) 4 0)) (C := R_Phrase) (T := F_Phrase) (N := 11) hx hb hts i_Phrase hown hK hP 11 rfl rfl 4 (by decide) (va_Nw.use rfl (hN _ m_f_NC_174)) (fun _ h9 => h9) rfl d_NC_goThrough_19 ?_
      refine lv_icmp_ge (tgt := 48) hx hb d_NC_goThrough_22 (by decide) (fun c_402 => ?_) (fun c_402 => ?_)
      · refine lv_aload_n hx hb d_NC_goThrough_48 rfl (lv_at hl 0 rfl) ?_
        refine lv_iconst (v := (-1)) hx hb d_NC_goThrough_49 (by decide) ?_
        refine lv_iconst (v := (-1)) hx hb d_NC_goThrough_50 (by decide) ?_
        refine lv_iconst (v := (-1)) hx hb d_NC_goThrough_51 (by decide) ?_
        have hFc := nc_free hD hS hA
        refine nc_muv (va_runV (As := [.int (-1), .int (-1), .int (-1)]) (rest := []) hfix (c_NC_tell l dC dI cA H.size ad Sq (-1) (-1) (-1)) (k_NC_141 hts hN ⟨Nat.le_of_ble_eq_true rfl, Nat.le_of_ble_eq_true rfl⟩) (nc_preVM hK hN hP hD rfl rfl) rfl rfl hl.1 rfl (lv_room (Nat.le_of_ble_eq_true rfl)) d_NC_goThrough_52 ⟨Nat.zero_le _, Nat.zero_le _⟩) hS hFc (fun H locs hP1 hD1 hk1 hS => ?_)
        have hP : va_P (dC, dI) classes (w_NC cA ad (f_NC_tell Sq (-1) (-1) (-1))) H := hP1
        have hD : va_D A (w_NC cA ad (f_NC_tell Sq (-1) (-1) (-1))) := hD1.weaken (fun _ q _ h => hFc q.1 h)
        refine lv_aload_n hx hb d_NC_goThrough_55 rfl (lv_at hl 0 rfl) ?_
        refine va_get (D := (dC, dI)) (ci := 0) (v := .ref ((ad 5) 0)) (C := R_NC) (T := F_NC) (N := 15) hx hb hts i_NC hown hK hP 0 rfl rfl 8 (by decide) (hts _ m_f_NC_47) (fun _ h9 => h9) rfl d_NC_goThrough_56 ?_
        refine va_getN (D := (dC, dI)) (ci := 3) (v := .int (((f_NC_tell Sq (-1) (-1) (-1)) 5) 1 0)) (C := R_Picks) (T := F_Picks) (N := 3) hx hb hts i_Picks hown hK hP 29 rfl rfl 1 (by decide) (va_Nw.use rfl (hN _ m_f_NC_145)) (fun _ h9 => h9) rfl d_NC_goThrough_59 ?_
        refine lv_aload_n hx hb d_NC_goThrough_62 rfl (lv_at hl 0 rfl) ?_
        refine va_get (D := (dC, dI)) (ci := 0) (v := .int (((f_NC_tell Sq (-1) (-1) (-1)) 0) 3 0)) (C := R_NC) (T := F_NC) (N := 15) hx hb hts i_NC hown hK hP 0 rfl rfl 3 (by decide) (hts _ m_f_NC_24) (fun _ h9 => h9) rfl d_NC_goThrough_63 ?_
        refine lv_icmp_le (tgt := 72) hx hb d_NC_goThrough_66 (by decide) (fun c_403 => ?_) (fun c_403 => ?_)
        · refine lv_aload_n hx hb d_NC_goThrough_72 rfl (lv_at hl 0 rfl) ?_
          refine va_get (D := (dC, dI)) (ci := 0) (v := .ref ((ad 4) 0)) (C := R_NC) (T := F_NC) (N := 15) hx hb hts i_NC hown hK hP 0 rfl rfl 7 (by decide) (hts _ m_f_NC_43) (fun _ h9 => h9) rfl d_NC_goThrough_73 ?_
          refine lv_astore_n (lv' := [(1, .ref ((ad 4) 0)), (0, .ref ((ad 0) 0))]) hx hb d_NC_goThrough_76 rfl hl (by decide) rfl (fun ls hl => ?_)
          refine lv_aload_n hx hb d_NC_goThrough_77 rfl (lv_at hl 1 rfl) ?_
          refine lv_aload_n hx hb d_NC_goThrough_78 rfl (lv_at hl 1 rfl) ?_
          refine va_get (D := (dC, dI)) (ci := 0) (v := .ref ((ad 5) 0)) (C := R_NC) (T := F_NC) (N := 15) hx hb hts i_NC hown hK hP 0 rfl rfl 8 (by decide) (hts _ m_f_NC_47) (fun _ h9 => h9) rfl d_NC_goThrough_79 ?_
          refine va_put (D := (dC, dI)) (ci := 0) (v := .ref ((ad 5) 0)) (ty := (t_NC 7)) (C := R_NC) (T := F_NC) (N := 15) hx hb hts i_NC t_NC t_NC_ok n_NC hown hK hP hD hS 0 rfl rfl 7 (by decide) (hts _ m_f_NC_43) (fun _ h9 => h9) rfl (by decide +kernel) rfl rfl (Nat.le_of_ble_eq_true rfl) d_NC_goThrough_82 (fun H locs hP hD hS => ?_)
          have hP : va_P (dC, dI) classes (List.set (w_NC cA ad (f_NC_tell Sq (-1) (-1) (-1))) 0 (((ad 0) 0), .inr (0, [.ref ((ad 1) 0), .ref ((ad 0) 1), .int (((f_NC_tell Sq (-1) (-1) (-1)) 0) 2 0), .int (((f_NC_tell Sq (-1) (-1) (-1)) 0) 3 0), .ref ((ad 2) 0), .ref ((ad 3) 0), .ref ((ad 0) 2), .ref ((ad 5) 0), .ref ((ad 5) 0), .int (((f_NC_tell Sq (-1) (-1) (-1)) 0) 9 0), .int (((f_NC_tell Sq (-1) (-1) (-1)) 0) 10 0), .int (((f_NC_tell Sq (-1) (-1) (-1)) 0) 11 0), .int (((f_NC_tell Sq (-1) (-1) (-1)) 0) 12 0), .int (((f_NC_tell Sq (-1) (-1) (-1)) 0) 13 0), .int (((f_NC_tell Sq (-1) (-1) (-1)) 0) 14 0)]))) H := hP
          have hD : va_D A (List.set (w_NC cA ad (f_NC_tell Sq (-1) (-1) (-1))) 0 (((ad 0) 0), .inr (0, [.ref ((ad 1) 0), .ref ((ad 0) 1), .int (((f_NC_tell Sq (-1) (-1) (-1)) 0) 2 0), .int (((f_NC_tell Sq (-1) (-1) (-1)) 0) 3 0), .ref ((ad 2) 0), .ref ((ad 3) 0), .ref ((ad 0) 2), .ref ((ad 5) 0), .ref ((ad 5) 0), .int (((f_NC_tell Sq (-1) (-1) (-1)) 0) 9 0), .int (((f_NC_tell Sq (-1) (-1) (-1)) 0) 10 0), .int (((f_NC_tell Sq (-1) (-1) (-1)) 0) 11 0), .int (((f_NC_tell Sq (-1) (-1) (-1)) 0) 12 0), .int (((f_NC_tell Sq (-1) (-1) (-1)) 0) 13 0), .int (((f_NC_tell Sq (-1) (-1) (-1)) 0) 14 0)]))) := hD
          refine lv_aload_n hx hb d_NC_goThrough_85 rfl (lv_at hl 1 rfl) ?_
          refine lv_aload_n hx hb d_NC_goThrough_86 rfl (lv_at hl 0 rfl) ?_
          refine va_put (D := (dC, dI)) (ci := 0) (v := .ref ((ad 4) 0)) (ty := (t_NC 8)) (C := R_NC) (T := F_NC) (N := 15) hx hb hts i_NC t_NC t_NC_ok n_NC hown hK hP hD hS 0 rfl rfl 8 (by decide) (hts _ m_f_NC_47) (fun _ h9 => h9) rfl (by decide +kernel) rfl rfl (Nat.le_of_ble_eq_true rfl) d_NC_goThrough_87 (fun H locs hP hD hS => ?_)
          have hP : va_P (dC, dI) classes (List.set (w_NC cA ad (f_NC_tell Sq (-1) (-1) (-1))) 0 (((ad 0) 0), .inr (0, [.ref ((ad 1) 0), .ref ((ad 0) 1), .int (((f_NC_tell Sq (-1) (-1) (-1)) 0) 2 0), .int (((f_NC_tell Sq (-1) (-1) (-1)) 0) 3 0), .ref ((ad 2) 0), .ref ((ad 3) 0), .ref ((ad 0) 2), .ref ((ad 5) 0), .ref ((ad 4) 0), .int (((f_NC_tell Sq (-1) (-1) (-1)) 0) 9 0), .int (((f_NC_tell Sq (-1) (-1) (-1)) 0) 10 0), .int (((f_NC_tell Sq (-1) (-1) (-1)) 0) 11 0), .int (((f_NC_tell Sq (-1) (-1) (-1)) 0) 12 0), .int (((f_NC_tell Sq (-1) (-1) (-1)) 0) 13 0), .int (((f_NC_tell Sq (-1) (-1) (-1)) 0) 14 0)]))) H := hP
          have hD : va_D A (List.set (w_NC cA ad (f_NC_tell Sq (-1) (-1) (-1))) 0 (((ad 0) 0), .inr (0, [.ref ((ad 1) 0), .ref ((ad 0) 1), .int (((f_NC_tell Sq (-1) (-1) (-1)) 0) 2 0), .int (((f_NC_tell Sq (-1) (-1) (-1)) 0) 3 0), .ref ((ad 2) 0), .ref ((ad 3) 0), .ref ((ad 0) 2), .ref ((ad 5) 0), .ref ((ad 4) 0), .int (((f_NC_tell Sq (-1) (-1) (-1)) 0) 9 0), .int (((f_NC_tell Sq (-1) (-1) (-1)) 0) 10 0), .int (((f_NC_tell Sq (-1) (-1) (-1)) 0) 11 0), .int (((f_NC_tell Sq (-1) (-1) (-1)) 0) 12 0), .int (((f_NC_tell Sq (-1) (-1) (-1)) 0) 13 0), .int (((f_NC_tell Sq (-1) (-1) (-1)) 0) 14 0)]))) := hD
          have hP : va_P (dC, dI) classes (w_NC cA (nc_sw ad 4 5) (upr (upr (f_NC_tell Sq (-1) (-1) (-1)) 4 ((f_NC_tell Sq (-1) (-1) (-1)) 5)) 5 ((f_NC_tell Sq (-1) (-1) (-1)) 4))) H := hP.sub [0, 1, 2, 3, 4, 5, 6, 7, 8, 9, 10, 11, 12, 13, 14, 15, 16, 17, 18, 19, 20, 21, 22, 23, 24, 25, 26, 29, 30, 27, 28] rfl
          have hD : va_D A (w_NC cA (nc_sw ad 4 5) (upr (upr (f_NC_tell Sq (-1) (-1) (-1)) 4 ((f_NC_tell Sq (-1) (-1) (-1)) 5)) 5 ((f_NC_tell Sq (-1) (-1) (-1)) 4))) := hD.sub [0, 1, 2, 3, 4, 5, 6, 7, 8, 9, 10, 11, 12, 13, 14, 15, 16, 17, 18, 19, 20, 21, 22, 23, 24, 25, 26, 29, 30, 27, 28] (by decide) rfl
          refine lv_aload_n hx hb d_NC_goThrough_90 rfl (lv_at hl 1 rfl) ?_
          refine va_get (D := (dC, dI)) (ci := 0) (v := .ref ((ad 5) 0)) (C := R_NC) (T := F_NC) (N := 15) hx hb hts i_NC hown hK hP 0 rfl rfl 7 (by decide) (hts _ m_f_NC_43) (fun _ h9 => h9) rfl d_NC_goThrough_91 ?_
          refine va_getN (D := (dC, dI)) (ci := 3) (v := .int (((f_NC_tell Sq (-1) (-1) (-1)) 5) 1 0)) (C := R_Picks) (T := F_Picks) (N := 3) hx hb hts i_Picks hown hK hP 27 rfl rfl 1 (by decide) (va_Nw.use rfl (hN _ m_f_NC_145)) (fun _ h9 => h9) rfl d_NC_goThrough_94 ?_
          have hF : (f_NC_goThrough S) = ((((f_NC_tell Sq (-1) (-1) (-1)) 5) 1 0), (upr (upr (f_NC_tell Sq (-1) (-1) (-1)) 4 ((f_NC_tell Sq (-1) (-1) (-1)) 5)) 5 ((f_NC_tell Sq (-1) (-1) (-1)) 4))) := by rw [hE, f_NC_goThrough_L14, if_pos c_402, if_pos c_403]
          exact W.iret (v := (((f_NC_tell Sq (-1) (-1) (-1)) 5) 1 0)) hx hb hr (fun t ht hW => ⟨⟨(((f_NC_tell Sq (-1) (-1) (-1)) 5) 1 0), (nc_sw ad 4 5), rfl, ⟨by rw [hF], rfl⟩, by rw [hF, ht]; exact hP, by rw [hF]; exact hD⟩, hS.F ht⟩) hS.2.2 d_NC_goThrough_97
        · refine lv_bipush (v := (-17)) hx hb d_NC_goThrough_69 (by decide) ?_
          have hF : (f_NC_goThrough S) = ((-17), (f_NC_tell Sq (-1) (-1) (-1))) := by rw [hE, f_NC_goThrough_L14, if_pos c_402, if_neg c_403]
          exact W.iret (v := (-17)) hx hb hr (fun t ht hW => ⟨⟨(-17), ad, rfl, ⟨by rw [hF], rfl⟩, by rw [hF, ht]; exact hP, by rw [hF]; exact hD⟩, hS.F ht⟩) hS.2.2 d_NC_goThrough_71
      · refine lv_aload_n hx hb d_NC_goThrough_25 rfl (lv_at hl 0 rfl) ?_
        refine lv_iload_n hx hb d_NC_goThrough_26 rfl (lv_at hl 1 rfl) ?_
        have hFc := nc_free hD hS hA
        refine nc_mui (va_runV (As := [.int z1]) (rest := []) hfix (c_NC_goThroughPart l dC dI cA H.size ad Sq z1 hg) (k_NC_183 hts hN ⟨Nat.le_of_ble_eq_true rfl, Nat.le_of_ble_eq_true rfl⟩) (nc_preVM hK hN hP hD rfl rfl) rfl rfl hl.1 rfl (lv_room (Nat.le_of_ble_eq_true rfl)) d_NC_goThrough_27 ⟨Nat.zero_le _, Nat.zero_le _⟩) hS hFc (fun r H locs er hP1 hD1 hk1 hS => ?_)
        subst er
        have hP : va_P (dC, dI) classes (w_NC cA ad (f_NC_goThroughPart Sq z1).2) H := hP1
        have hD : va_D A (w_NC cA ad (f_NC_goThroughPart Sq z1).2) := hD1.weaken (fun _ q _ h => hFc q.1 h)
        refine lv_istore_n (lv' := [(2, .int (f_NC_goThroughPart Sq z1).1), (0, .ref ((ad 0) 0)), (1, .int z1)]) hx hb d_NC_goThrough_30 rfl hl (by decide) rfl (fun ls hl => ?_)
        refine lv_iload_n hx hb d_NC_goThrough_31 rfl (lv_at hl 0 rfl) ?_
        refine lv_if_eq (tgt := 42) hx hb d_NC_goThrough_32 (by decide) (fun c_404 => ?_) (fun c_404 => ?_)
        · refine lv_iinc (v := (z1 + 1)) (lv' := [(1, .int (z1 + 1)), (2, .int (f_NC_goThroughPart Sq z1).1), (0, .ref ((ad 0) 0))]) hx hb d_NC_goThrough_42 hl (k := 2) rfl rfl (by decide) rfl (fun ls hl => ?_)
          refine lv_goto (tgt := 14) hx hb d_NC_goThrough_45 (by decide) ?_
          exact ih (f_NC_goThroughPart Sq z1).2 (z1 + 1) H locs ls (by rw [hE, f_NC_goThrough_L14, if_neg c_402, if_pos c_404]) (by rw [gtp_P]; exact nc_mu_step c_402 hm) (gtp_z hg) hP hD hS (lv_sub hl [2, 0] rfl)
        · refine lv_aload_n hx hb d_NC_goThrough_35 rfl (lv_at hl 1 rfl) ?_
          refine lv_iload_n hx hb d_NC_goThrough_36 rfl (lv_at hl 2 rfl) ?_
          refine lv_iload_n hx hb d_NC_goThrough_37 rfl (lv_at hl 0 rfl) ?_
          have hFc := nc_free hD hS hA
          refine nc_mui (va_runV (As := [.int z1, .int (f_NC_goThroughPart Sq z1).1]) (rest := []) hfix (c_NC_endAt l dC dI cA H.size ad (f_NC_goThroughPart Sq z1).2 z1 (f_NC_goThroughPart Sq z1).1) (k_NC_186 hts hN ⟨Nat.le_of_ble_eq_true rfl, Nat.le_of_ble_eq_true rfl⟩) (nc_preVM hK hN hP hD rfl rfl) rfl rfl hl.1 rfl (lv_room (Nat.le_of_ble_eq_true rfl)) d_NC_goThrough_38 ⟨Nat.zero_le _, Nat.zero_le _⟩) hS hFc (fun r H locs er hP1 hD1 hk1 hS => ?_)
          subst er
          have hP : va_P (dC, dI) classes (w_NC cA ad (f_NC_endAt (f_NC_goThroughPart Sq z1).2 z1 (f_NC_goThroughPart Sq z1).1).2) H := hP1
          have hD : va_D A (w_NC cA ad (f_NC_endAt (f_NC_goThroughPart Sq z1).2 z1 (f_NC_goThroughPart Sq z1).1).2) := hD1.weaken (fun _ q _ h => hFc q.1 h)
          have hF : (f_NC_goThrough S) = ((f_NC_endAt (f_NC_goThroughPart Sq z1).2 z1 (f_NC_goThroughPart Sq z1).1).1, (f_NC_endAt (f_NC_goThroughPart Sq z1).2 z1 (f_NC_goThroughPart Sq z1).1).2) := by rw [hE, f_NC_goThrough_L14, if_neg c_402, if_neg c_404]
          exact W.iret (v := (f_NC_endAt (f_NC_goThroughPart Sq z1).2 z1 (f_NC_goThroughPart Sq z1).1).1) hx hb hr (fun t ht hW => ⟨⟨(f_NC_endAt (f_NC_goThroughPart Sq z1).2 z1 (f_NC_goThroughPart Sq z1).1).1, ad, rfl, ⟨by rw [hF], rfl⟩, by rw [hF, ht]; exact hP, by rw [hF]; exact hD⟩, hS.F ht⟩) hS.2.2 d_NC_goThrough_41
  exact loop_14 (nc_mu ((S 2) 4 0) 0 + 1) (upr (upr S 0 (upf (S 0) 10 (fun _ => 0))) 5 (f_Picks_clear (S 5))) 0 H locs ls (by rw [f_NC_goThrough]) (Nat.lt_succ_self _) (by show 0 ≤ (0 : Int32).toInt; decide) hP hD hS (lv_sub hl [1, 0] rfl)
set_option maxHeartbeats 4000000 in
set_option maxRecDepth 100000 in
theorem c2_NC_choose (l : Launch) (dC : Nat → ClassId) (dI : Nat → Nat → Nat) (cA : ClassId) (sz : Nat) (ad : Nat → Nat → Nat) (S : Nat → Nat → Nat → Int32) : Met l y_NC_choose ws_NC_choose rm_NC_choose (nc_PreM (dC, dI) cA sz [.ref ((ad 0) 0)] (w_NC cA ad S)) (va_Qi (fun r (u : Nat → Nat → Nat) => r = (f_NC_choose S).1 ∧ u 0 = ad 0) (fun (u : Nat → Nat → Nat) t => va_P (dC, dI) classes (w_NC cA u (f_NC_choose S).2) t.heap ∧ va_D (va_A (w_NC cA ad S) sz) (w_NC cA u (f_NC_choose S).2)) (va_A (w_NC cA ad S) sz)) 0 0 (va_A (w_NC cA ad S) sz) := by
  refine Met.ofW (cc := b_NC_choose) (maxL := 3) (ret := (some .int)) (by decide) rfl ?_
  intro p e s m args below meth c s₁ B hml hv
  obtain ⟨rfl, hsz, hP, hK, hD0, hN⟩ := hv
  have hx := B.exec
  have hb := B.bytes
  have hr := B.returns
  have hts : ∀ w ∈ lw_G, w.before [.ref ((ad 0) 0)].toArray s = true := fun w h => atoms_spec (ws := ws_NC_choose) B.pre w (List.mem_cons_of_mem _ h)
  have hown : s.vm.findClass R_NC = some m.cls := findClass_of_methodNamed B.named
  have hlocks := B.notSynchronized
  have hfix : CallFix p m c b_NC_choose 3 s [.ref ((ad 0) 0)].toArray lw_G R_NC := ⟨hx, hb, hml, hown, hts⟩
  subst hsz
  have hD := hD0.self (sz := s.heap.size)
  generalize hAe : va_A (w_NC cA ad S) s.heap.size = A at hD ⊢
  have hA : ∀ q : Nat, s.heap.size ≤ q → A q := fun q h => by rw [← hAe]; exact Or.inr h
  have hS : va_S A s.heap s.heap [] := va_S.rf
  have hl := lv_entry ([.ref ((ad 0) 0)]) (n := 3) (Nat.le_of_ble_eq_true rfl)
  rw [lg_entry_eq]
  generalize (lg_sl ([.ref ((ad 0) 0)]) ++ List.replicate (3 - (lg_sl ([.ref ((ad 0) 0)])).length) Slot.unset).toArray = ls at hl ⊢
  have hl : lv_has ls 3 [(0, .ref ((ad 0) 0))] := hl
  refine lv_aload_n hx hb d_NC_choose_0 rfl (lv_at hl 0 rfl) ?_
  refine va_get (D := (dC, dI)) (ci := 0) (v := .ref ((ad 3) 0)) (C := R_NC) (T := F_NC) (N := 15) hx hb hts i_NC hown hK hP 0 rfl rfl 5 (by decide) (hts _ m_f_NC_34) (fun _ h9 => h9) rfl d_NC_choose_1 ?_
  refine lv_aload_n hx hb d_NC_choose_4 rfl (lv_at hl 0 rfl) ?_
  refine va_get (D := (dC, dI)) (ci := 0) (v := .ref ((ad 0) 1)) (C := R_NC) (T := F_NC) (N := 15) hx hb hts i_NC hown hK hP 0 rfl rfl 1 (by decide) (hts _ m_f_NC_16) (fun _ h9 => h9) rfl d_NC_choose_5 ?_
  refine lv_aload_n hx hb d_NC_choose_8 rfl (lv_at hl 0 rfl) ?_
  refine va_get (D := (dC, dI)) (ci := 0) (v := .int ((S 0) 2 0)) (C := R_NC) (T := F_NC) (N := 15) hx hb hts i_NC hown hK hP 0 rfl rfl 2 (by decide) (hts _ m_f_NC_20) (fun _ h9 => h9) rfl d_NC_choose_9 ?_
  have hP_w_405 := hP.sub (ws' := (w_Phrase cA (ad 3) (S 3) ++ [(((ad 0) 1), .inl (cA, 30, .inl ((S 0) 1)))])) [19, 20, 21, 22, 23, 24, 25, 26, 1] rfl
  have hD_w_405 := hD.sub (ws' := (w_Phrase cA (ad 3) (S 3) ++ [(((ad 0) 1), .inl (cA, 30, .inl ((S 0) 1)))])) [19, 20, 21, 22, 23, 24, 25, 26, 1] (by decide) rfl
  have hFc := va_free (wc := (w_Phrase cA (ad 3) (S 3) ++ [(((ad 0) 1), .inl (cA, 30, .inl ((S 0) 1)))])) hD hS hA [19, 20, 21, 22, 23, 24, 25, 26, 1] rfl
  refine nc_mui (va_runV (As := [.ref ((ad 0) 1), .int ((S 0) 2 0)]) (rest := []) hfix (c_Phrase_read l dC dI cA s.heap.size (ad 3) ((ad 0) 1) (S 3) ((S 0) 1) ((S 0) 2 0)) (k_NC_114 hts hN ⟨Nat.le_of_ble_eq_true rfl, Nat.le_of_ble_eq_true rfl⟩) (nc_preVM hK hN hP_w_405 hD_w_405 rfl rfl) rfl rfl hl.1 rfl (lv_room (Nat.le_of_ble_eq_true rfl)) d_NC_choose_12 ⟨Nat.zero_le _, Nat.zero_le _⟩) hS hFc (fun r H locs er hP1 hD1 hk1 hS => ?_)
  subst er
  obtain ⟨hP, hD⟩ := va_join (wr := va_pick (w_NC cA ad S) [0, 2, 3, 4, 5, 6, 7, 8, 9, 10, 11, 12, 13, 14, 15, 16, 17, 18, 27, 28, 29, 30]) (w1 := (w_Phrase cA (ad 3) (f_Phrase_read (S 3) ((S 0) 1) ((S 0) 2 0)).2 ++ [(((ad 0) 1), .inl (cA, 30, .inl ((S 0) 1)))])) hP hD [19, 20, 21, 22, 23, 24, 25, 26, 1] [0, 2, 3, 4, 5, 6, 7, 8, 9, 10, 11, 12, 13, 14, 15, 16, 17, 18, 27, 28, 29, 30] rfl rfl (by decide) (by decide) hk1 hFc hP1 hD1
  have hP : va_P (dC, dI) classes (w_NC cA ad (upr S 3 (f_Phrase_read (S 3) ((S 0) 1) ((S 0) 2 0)).2)) H := hP.sub [0, 30, 1, 2, 3, 4, 5, 6, 7, 8, 9, 10, 11, 12, 13, 14, 15, 16, 17, 22, 23, 24, 25, 26, 27, 28, 29, 18, 19, 20, 21] rfl
  have hD : va_D A (w_NC cA ad (upr S 3 (f_Phrase_read (S 3) ((S 0) 1) ((S 0) 2 0)).2)) := hD.sub [0, 30, 1, 2, 3, 4, 5, 6, 7, 8, 9, 10, 11, 12, 13, 14, 15, 16, 17, 22, 23, 24, 25, 26, 27, 28, 29, 18, 19, 20, 21] (by decide) rfl
  refine lv_istore_n (lv' := [(1, .int (f_Phrase_read (S 3) ((S 0) 1) ((S 0) 2 0)).1), (0, .ref ((ad 0) 0))]) hx hb d_NC_choose_15 rfl hl (by decide) rfl (fun ls hl => ?_)
  refine lv_iload_n hx hb d_NC_choose_16 rfl (lv_at hl 0 rfl) ?_
  refine lv_iconst (v := (-1)) hx hb d_NC_choose_17 (by decide) ?_
  refine lv_icmp_eq (tgt := 27) hx hb d_NC_choose_18 (by decide) (fun c_406 => ?_) (fun c_406 => ?_)
  · refine lv_aload_n hx hb d_NC_choose_27 rfl (lv_at hl 1 rfl) ?_
    refine lv_iconst (v := 0) hx hb d_NC_choose_28 (by decide) ?_
    refine va_put (D := (dC, dI)) (ci := 0) (v := .int 0) (ty := .int) (C := R_NC) (T := F_NC) (N := 15) hx hb hts i_NC t_NC t_NC_ok n_NC hown hK hP hD hS 0 rfl rfl 2 (by decide) (hts _ m_f_NC_20) (fun _ h9 => h9) rfl (by decide +kernel) rfl rfl (Nat.le_of_ble_eq_true rfl) d_NC_choose_29 (fun H locs hP hD hS => ?_)
    have hP : va_P (dC, dI) classes (w_NC cA ad (upr (upr S 0 (upf (S 0) 2 (fun _ => 0))) 3 (f_Phrase_read (S 3) ((S 0) 1) ((S 0) 2 0)).2)) H := hP
    have hD : va_D A (w_NC cA ad (upr (upr S 0 (upf (S 0) 2 (fun _ => 0))) 3 (f_Phrase_read (S 3) ((S 0) 1) ((S 0) 2 0)).2)) := hD
    refine lv_aload_n hx hb d_NC_choose_32 rfl (lv_at hl 1 rfl) ?_
    refine va_get (D := (dC, dI)) (ci := 0) (v := .ref ((ad 2) 0)) (C := R_NC) (T := F_NC) (N := 15) hx hb hts i_NC hown hK hP 0 rfl rfl 4 (by decide) (hts _ m_f_NC_30) (fun _ h9 => h9) rfl d_NC_choose_33 ?_
    refine lv_astore_n (lv' := [(2, .ref ((ad 2) 0)), (1, .int (f_Phrase_read (S 3) ((S 0) 1) ((S 0) 2 0)).1), (0, .ref ((ad 0) 0))]) hx hb d_NC_choose_36 rfl hl (by decide) rfl (fun ls hl => ?_)
    refine lv_aload_n hx hb d_NC_choose_37 rfl (lv_at hl 2 rfl) ?_
    refine lv_aload_n hx hb d_NC_choose_38 rfl (lv_at hl 2 rfl) ?_
    refine va_get (D := (dC, dI)) (ci := 0) (v := .ref ((ad 3) 0)) (C := R_NC) (T := F_NC) (N := 15) hx hb hts i_NC hown hK hP 0 rfl rfl 5 (by decide) (hts _ m_f_NC_34) (fun _ h9 => h9) rfl d_NC_choose_39 ?_
    refine va_put (D := (dC, dI)) (ci := 0) (v := .ref ((ad 3) 0)) (ty := (t_NC 4)) (C := R_NC) (T := F_NC) (N := 15) hx hb hts i_NC t_NC t_NC_ok n_NC hown hK hP hD hS 0 rfl rfl 4 (by decide) (hts _ m_f_NC_30) (fun _ h9 => h9) rfl (by decide +kernel) rfl rfl (Nat.le_of_ble_eq_true rfl) d_NC_choose_42 (fun H locs hP hD hS => ?_)
    have hP : va_P (dC, dI) classes (List.set (w_NC cA ad (upr (upr S 0 (upf (S 0) 2 (fun _ => 0))) 3 (f_Phrase_read (S 3) ((S 0) 1) ((S 0) 2 0)).2)) 0 (((ad 0) 0), .inr (0, [.ref ((ad 1) 0), .ref ((ad 0) 1), .int 0, .int ((S 0) 3 0), .ref ((ad 3) 0), .ref ((ad 3) 0), .ref ((ad 0) 2), .ref ((ad 4) 0), .ref ((ad 5) 0), .int ((S 0) 9 0), .int ((S 0) 10 0), .int ((S 0) 11 0), .int ((S 0) 12 0), .int ((S 0) 13 0), .int ((S 0) 14 0)]))) H := hP
    have hD : va_D A (List.set (w_NC cA ad (upr (upr S 0 (upf (S 0) 2 (fun _ => 0))) 3 (f_Phrase_read (S 3) ((S 0) 1) ((S 0) 2 0)).2)) 0 (((ad 0) 0), .inr (0, [.ref ((ad 1) 0), .ref ((ad 0) 1), .int 0, .int ((S 0) 3 0), .ref ((ad 3) 0), .ref ((ad 3) 0), .ref ((ad 0) 2), .ref ((ad 4) 0), .ref ((ad 5) 0), .int ((S 0) 9 0), .int ((S 0) 10 0), .int ((S 0) 11 0), .int ((S 0) 12 0), .int ((S 0) 13 0), .int ((S 0) 14 0)]))) := hD
    refine lv_aload_n hx hb d_NC_choose_45 rfl (lv_at hl 2 rfl) ?_
    refine lv_aload_n hx hb d_NC_choose_46 rfl (lv_at hl 0 rfl) ?_
    refine va_put (D := (dC, dI)) (ci := 0) (v := .ref ((ad 2) 0)) (ty := (t_NC 5)) (C := R_NC) (T := F_NC) (N := 15) hx hb hts i_NC t_NC t_NC_ok n_NC hown hK hP hD hS 0 rfl rfl 5 (by decide) (hts _ m_f_NC_34) (fun _ h9 => h9) rfl (by decide +kernel) rfl rfl (Nat.le_of_ble_eq_true rfl) d_NC_choose_47 (fun H locs hP hD hS => ?_)
    have hP : va_P (dC, dI) classes (List.set (w_NC cA ad (upr (upr S 0 (upf (S 0) 2 (fun _ => 0))) 3 (f_Phrase_read (S 3) ((S 0) 1) ((S 0) 2 0)).2)) 0 (((ad 0) 0), .inr (0, [.ref ((ad 1) 0), .ref ((ad 0) 1), .int 0, .int ((S 0) 3 0), .ref ((ad 3) 0), .ref ((ad 2) 0), .ref ((ad 0) 2), .ref ((ad 4) 0), .ref ((ad 5) 0), .int ((S 0) 9 0), .int ((S 0) 10 0), .int ((S 0) 11 0), .int ((S 0) 12 0), .int ((S 0) 13 0), .int ((S 0) 14 0)]))) H := hP
    have hD : va_D A (List.set (w_NC cA ad (upr (upr S 0 (upf (S 0) 2 (fun _ => 0))) 3 (f_Phrase_read (S 3) ((S 0) 1) ((S 0) 2 0)).2)) 0 (((ad 0) 0), .inr (0, [.ref ((ad 1) 0), .ref ((ad 0) 1), .int 0, .int ((S 0) 3 0), .ref ((ad 3) 0), .ref ((ad 2) 0), .ref ((ad 0) 2), .ref ((ad 4) 0), .ref ((ad 5) 0), .int ((S 0) 9 0), .int ((S 0) 10 0), .int ((S 0) 11 0), .int ((S 0) 12 0), .int ((S 0) 13 0), .int ((S 0) 14 0)]))) := hD
    have hP : va_P (dC, dI) classes (w_NC cA (nc_sw ad 2 3) (upr (upr (upr S 0 (upf (S 0) 2 (fun _ => 0))) 2 (f_Phrase_read (S 3) ((S 0) 1) ((S 0) 2 0)).2) 3 (S 2))) H := hP.sub [0, 1, 2, 3, 4, 5, 6, 7, 8, 9, 10, 19, 20, 21, 22, 23, 24, 25, 26, 11, 12, 13, 14, 15, 16, 17, 18, 27, 28, 29, 30] rfl
    have hD : va_D A (w_NC cA (nc_sw ad 2 3) (upr (upr (upr S 0 (upf (S 0) 2 (fun _ => 0))) 2 (f_Phrase_read (S 3) ((S 0) 1) ((S 0) 2 0)).2) 3 (S 2))) := hD.sub [0, 1, 2, 3, 4, 5, 6, 7, 8, 9, 10, 19, 20, 21, 22, 23, 24, 25, 26, 11, 12, 13, 14, 15, 16, 17, 18, 27, 28, 29, 30] (by decide) rfl
    refine lv_aload_n hx hb d_NC_choose_50 rfl (lv_at hl 2 rfl) ?_
    refine va_get (D := (dC, dI)) (ci := 0) (v := .ref ((ad 0) 2)) (C := R_NC) (T := F_NC) (N := 15) hx hb hts i_NC hown hK hP 0 rfl rfl 6 (by decide) (hts _ m_f_NC_37) (fun _ h9 => h9) rfl d_NC_choose_51 ?_
    refine lv_iconst (v := (-1)) hx hb d_NC_choose_54 (by decide) ?_
    have hP_w_407 := hP.sub (ws' := [(((ad 0) 2), .inl (cA, 30, .inl ((S 0) 6)))]) [2] rfl
    have hD_w_407 := hD.sub (ws' := [(((ad 0) 2), .inl (cA, 30, .inl ((S 0) 6)))]) [2] (by decide) rfl
    have hFc := va_free (wc := [(((ad 0) 2), .inl (cA, 30, .inl ((S 0) 6)))]) hD hS hA [2] rfl
    refine nc_muv (va_runS (As := [.ref ((ad 0) 2), .int (-1)]) (rest := []) hfix (c_fill l dC dI cA H.size ((ad 0) 2) 30 ((S 0) 6) (-1) (by decide)) (k_NC_68 hts hN ⟨Nat.le_of_ble_eq_true rfl, Nat.le_of_ble_eq_true rfl⟩) (nc_preSM hK hN hP_w_407 hD_w_407) rfl rfl hl.1 rfl (lv_room (Nat.le_of_ble_eq_true rfl)) d_NC_choose_55 ⟨Nat.zero_le _, Nat.zero_le _⟩) hS hFc (fun H locs hP1 hD1 hk1 hS => ?_)
    obtain ⟨hP, hD⟩ := va_join (wr := va_pick (w_NC cA (nc_sw ad 2 3) (upr (upr (upr S 0 (upf (S 0) 2 (fun _ => 0))) 2 (f_Phrase_read (S 3) ((S 0) 1) ((S 0) 2 0)).2) 3 (S 2))) [0, 1, 3, 4, 5, 6, 7, 8, 9, 10, 11, 12, 13, 14, 15, 16, 17, 18, 19, 20, 21, 22, 23, 24, 25, 26, 27, 28, 29, 30]) (w1 := [(((ad 0) 2), .inl (cA, 30, .inl (f_fill 30 ((S 0) 6) (-1))))]) hP hD [2] [0, 1, 3, 4, 5, 6, 7, 8, 9, 10, 11, 12, 13, 14, 15, 16, 17, 18, 19, 20, 21, 22, 23, 24, 25, 26, 27, 28, 29, 30] rfl rfl (by decide) (by decide) hk1 hFc hP1 hD1
    have hP : va_P (dC, dI) classes (w_NC cA (nc_sw ad 2 3) (upr (upr (upr S 0 (upf (upf (S 0) 2 (fun _ => 0)) 6 (f_fill 30 ((S 0) 6) (-1)))) 2 (f_Phrase_read (S 3) ((S 0) 1) ((S 0) 2 0)).2) 3 (S 2))) H := hP.sub [0, 1, 30, 2, 3, 4, 5, 6, 7, 8, 9, 10, 11, 12, 13, 14, 15, 16, 17, 18, 19, 20, 21, 22, 23, 24, 25, 26, 27, 28, 29] rfl
    have hD : va_D A (w_NC cA (nc_sw ad 2 3) (upr (upr (upr S 0 (upf (upf (S 0) 2 (fun _ => 0)) 6 (f_fill 30 ((S 0) 6) (-1)))) 2 (f_Phrase_read (S 3) ((S 0) 1) ((S 0) 2 0)).2) 3 (S 2))) := hD.sub [0, 1, 30, 2, 3, 4, 5, 6, 7, 8, 9, 10, 11, 12, 13, 14, 15, 16, 17, 18, 19, 20, 21, 22, 23, 24, 25, 26, 27, 28, 29] (by decide) rfl
    refine lv_aload_n hx hb d_NC_choose_58 rfl (lv_at hl 2 rfl) ?_
    have hFc := nc_free hD hS hA
    refine nc_mug (va_runV (As := []) (rest := []) hfix (c2_NC_goThrough l dC dI cA H.size (nc_sw ad 2 3) (upr (upr (upr S 0 (upf (upf (S 0) 2 (fun _ => 0)) 6 (f_fill 30 ((S 0) 6) (-1)))) 2 (f_Phrase_read (S 3) ((S 0) 1) ((S 0) 2 0)).2) 3 (S 2))) (k_NC_132 hts hN ⟨Nat.le_of_ble_eq_true rfl, Nat.le_of_ble_eq_true rfl⟩) (nc_preVM hK hN hP hD rfl rfl) rfl rfl hl.1 rfl (lv_room (Nat.le_of_ble_eq_true rfl)) d_NC_choose_59 ⟨Nat.zero_le _, Nat.zero_le _⟩) hS hFc (fun r ad_408 H locs er hP1 hD1 hk1 hS => ?_)
    obtain ⟨rfl, hroot_ad_408⟩ := er
    have hP : va_P (dC, dI) classes (w_NC cA ad_408 (f_NC_goThrough (upr (upr (upr S 0 (upf (upf (S 0) 2 (fun _ => 0)) 6 (f_fill 30 ((S 0) 6) (-1)))) 2 (f_Phrase_read (S 3) ((S 0) 1) ((S 0) 2 0)).2) 3 (S 2))).2) H := hP1
    have hD : va_D A (w_NC cA ad_408 (f_NC_goThrough (upr (upr (upr S 0 (upf (upf (S 0) 2 (fun _ => 0)) 6 (f_fill 30 ((S 0) 6) (-1)))) 2 (f_Phrase_read (S 3) ((S 0) 1) ((S 0) 2 0)).2) 3 (S 2))).2) := hD1.weaken (fun _ q _ h => hFc q.1 h)
    have hF : (f_NC_choose S) = ((f_NC_goThrough (upr (upr (upr S 0 (upf (upf (S 0) 2 (fun _ => 0)) 6 (f_fill 30 ((S 0) 6) (-1)))) 2 (f_Phrase_read (S 3) ((S 0) 1) ((S 0) 2 0)).2) 3 (S 2))).1, (f_NC_goThrough (upr (upr (upr S 0 (upf (upf (S 0) 2 (fun _ => 0)) 6 (f_fill 30 ((S 0) 6) (-1)))) 2 (f_Phrase_read (S 3) ((S 0) 1) ((S 0) 2 0)).2) 3 (S 2))).2) := by rw [f_NC_choose, if_pos c_406]
    exact W.iret (v := (f_NC_goThrough (upr (upr (upr S 0 (upf (upf (S 0) 2 (fun _ => 0)) 6 (f_fill 30 ((S 0) 6) (-1)))) 2 (f_Phrase_read (S 3) ((S 0) 1) ((S 0) 2 0)).2) 3 (S 2))).1) hx hb hr (fun t ht hW => ⟨⟨(f_NC_goThrough (upr (upr (upr S 0 (upf (upf (S 0) 2 (fun _ => 0)) 6 (f_fill 30 ((S 0) 6) (-1)))) 2 (f_Phrase_read (S 3) ((S 0) 1) ((S 0) 2 0)).2) 3 (S 2))).1, ad_408, rfl, ⟨by rw [hF], hroot_ad_408⟩, by rw [hF, ht]; exact hP, by rw [hF]; exact hD⟩, hS.F ht⟩) hS.2.2 d_NC_choose_62
  · refine lv_aload_n hx hb d_NC_choose_21 rfl (lv_at hl 1 rfl) ?_
    refine lv_iload_n hx hb d_NC_choose_22 rfl (lv_at hl 0 rfl) ?_
    have hFc := nc_free hD hS hA
    refine nc_mui (va_runV (As := [.int (f_Phrase_read (S 3) ((S 0) 1) ((S 0) 2 0)).1]) (rest := []) hfix (c_NC_refuseRow l dC dI cA H.size ad (upr S 3 (f_Phrase_read (S 3) ((S 0) 1) ((S 0) 2 0)).2) (f_Phrase_read (S 3) ((S 0) 1) ((S 0) 2 0)).1) (k_NC_129 hts hN ⟨Nat.le_of_ble_eq_true rfl, Nat.le_of_ble_eq_true rfl⟩) (nc_preVM hK hN hP hD rfl rfl) rfl rfl hl.1 rfl (lv_room (Nat.le_of_ble_eq_true rfl)) d_NC_choose_23 ⟨Nat.zero_le _, Nat.zero_le _⟩) hS hFc (fun r H locs er hP1 hD1 hk1 hS => ?_)
    subst er
    have hP : va_P (dC, dI) classes (w_NC cA ad (f_NC_refuseRow (upr S 3 (f_Phrase_read (S 3) ((S 0) 1) ((S 0) 2 0)).2) (f_Phrase_read (S 3) ((S 0) 1) ((S 0) 2 0)).1).2) H := hP1
    have hD : va_D A (w_NC cA ad (f_NC_refuseRow (upr S 3 (f_Phrase_read (S 3) ((S 0) 1) ((S 0) 2 0)).2) (f_Phrase_read (S 3) ((S 0) 1) ((S 0) 2 0)).1).2) := hD1.weaken (fun _ q _ h => hFc q.1 h)
    have hF : (f_NC_choose S) = ((f_NC_refuseRow (upr S 3 (f_Phrase_read (S 3) ((S 0) 1) ((S 0) 2 0)).2) (f_Phrase_read (S 3) ((S 0) 1) ((S 0) 2 0)).1).1, (f_NC_refuseRow (upr S 3 (f_Phrase_read (S 3) ((S 0) 1) ((S 0) 2 0)).2) (f_Phrase_read (S 3) ((S 0) 1) ((S 0) 2 0)).1).2) := by rw [f_NC_choose, if_neg c_406]
    exact W.iret (v := (f_NC_refuseRow (upr S 3 (f_Phrase_read (S 3) ((S 0) 1) ((S 0) 2 0)).2) (f_Phrase_read (S 3) ((S 0) 1) ((S 0) 2 0)).1).1) hx hb hr (fun t ht hW => ⟨⟨(f_NC_refuseRow (upr S 3 (f_Phrase_read (S 3) ((S 0) 1) ((S 0) 2 0)).2) (f_Phrase_read (S 3) ((S 0) 1) ((S 0) 2 0)).1).1, ad, rfl, ⟨by rw [hF], rfl⟩, by rw [hF, ht]; exact hP, by rw [hF]; exact hD⟩, hS.F ht⟩) hS.2.2 d_NC_choose_26
set_option maxHeartbeats 4000000 in
set_option maxRecDepth 100000 in
theorem c2_NC_reply (l : Launch) (dC : Nat → ClassId) (dI : Nat → Nat → Nat) (cA : ClassId) (sz : Nat) (ad : Nat → Nat → Nat) (S : Nat → Nat → Nat → Int32) : Met l y_NC_reply ws_NC_reply rm_NC_reply (nc_PreM (dC, dI) cA sz [.ref ((ad 0) 0)] (w_NC cA ad S)) (va_Qi (fun r (u : Nat → Nat → Nat) => r = (f_NC_reply S).1 ∧ u 0 = ad 0) (fun (u : Nat → Nat → Nat) t => va_P (dC, dI) classes (w_NC cA u (f_NC_reply S).2) t.heap ∧ va_D (va_A (w_NC cA ad S) sz) (w_NC cA u (f_NC_reply S).2)) (va_A (w_NC cA ad S) sz)) 0 0 (va_A (w_NC cA ad S) sz) := by
  refine Met.ofW (cc := b_NC_reply) (maxL := 3) (ret := (some .int)) (by decide) rfl ?_
  intro p e s m args below meth c s₁ B hml hv
  obtain ⟨rfl, hsz, hP, hK, hD0, hN⟩ := hv
  have hx := B.exec
  have hb := B.bytes
  have hr := B.returns
  have hts : ∀ w ∈ lw_G, w.before [.ref ((ad 0) 0)].toArray s = true := fun w h => atoms_spec (ws := ws_NC_reply) B.pre w (List.mem_cons_of_mem _ h)
  have hown : s.vm.findClass R_NC = some m.cls := findClass_of_methodNamed B.named
  have hlocks := B.notSynchronized
  have hfix : CallFix p m c b_NC_reply 3 s [.ref ((ad 0) 0)].toArray lw_G R_NC := ⟨hx, hb, hml, hown, hts⟩
  subst hsz
  have hD := hD0.self (sz := s.heap.size)
  generalize hAe : va_A (w_NC cA ad S) s.heap.size = A at hD ⊢
  have hA : ∀ q : Nat, s.heap.size ≤ q → A q := fun q h => by rw [← hAe]; exact Or.inr h
  have hS : va_S A s.heap s.heap [] := va_S.rf
  have hl := lv_entry ([.ref ((ad 0) 0)]) (n := 3) (Nat.le_of_ble_eq_true rfl)
  rw [lg_entry_eq]
  generalize (lg_sl ([.ref ((ad 0) 0)]) ++ List.replicate (3 - (lg_sl ([.ref ((ad 0) 0)])).length) Slot.unset).toArray = ls at hl ⊢
  have hl : lv_has ls 3 [(0, .ref ((ad 0) 0))] := hl
  refine lv_aload_n hx hb d_NC_reply_0 rfl (lv_at hl 0 rfl) ?_
  refine va_get (D := (dC, dI)) (ci := 0) (v := .int ((S 0) 10 0)) (C := R_NC) (T := F_NC) (N := 15) hx hb hts i_NC hown hK hP 0 rfl rfl 10 (by decide) (hts _ m_f_NC_53) (fun _ h9 => h9) rfl d_NC_reply_1 ?_
  refine lv_if_ne (tgt := 10) hx hb d_NC_reply_4 (by decide) (fun c_409 => ?_) (fun c_409 => ?_)
  · refine lv_aload_n hx hb d_NC_reply_10 rfl (lv_at hl 0 rfl) ?_
    refine nc_ro (va_runV (As := []) (rest := []) hfix (c_NC_replyFault l dC dI cA ad S) (k_NC_135 hts hN ⟨Nat.le_of_ble_eq_true rfl, Nat.le_of_ble_eq_true rfl⟩) (nc_preV hK hN hP hD rfl rfl) rfl rfl hl.1 rfl (lv_room (Nat.le_of_ble_eq_true rfl)) d_NC_reply_11 ⟨Nat.zero_le _, Nat.zero_le _⟩) (fun r er => ?_)
    subst er
    refine lv_istore_n (lv' := [(1, .int (f_NC_replyFault S)), (0, .ref ((ad 0) 0))]) hx hb d_NC_reply_14 rfl hl (by decide) rfl (fun ls hl => ?_)
    refine lv_iload_n hx hb d_NC_reply_15 rfl (lv_at hl 0 rfl) ?_
    refine lv_iconst (v := (-1)) hx hb d_NC_reply_16 (by decide) ?_
    refine lv_icmp_eq (tgt := 26) hx hb d_NC_reply_17 (by decide) (fun c_410 => ?_) (fun c_410 => ?_)
    · refine lv_aload_n hx hb d_NC_reply_26 rfl (lv_at hl 1 rfl) ?_
      refine nc_ro (va_runV (As := []) (rest := []) hfix (c_NC_leftByRow l dC dI cA ad S) (k_NC_138 hts hN ⟨Nat.le_of_ble_eq_true rfl, Nat.le_of_ble_eq_true rfl⟩) (nc_preV hK hN hP hD rfl rfl) rfl rfl hl.1 rfl (lv_room (Nat.le_of_ble_eq_true rfl)) d_NC_reply_27 ⟨Nat.zero_le _, Nat.zero_le _⟩) (fun r er => ?_)
      subst er
      refine lv_istore_n (lv' := [(2, .int (f_NC_leftByRow S)), (1, .int (f_NC_replyFault S)), (0, .ref ((ad 0) 0))]) hx hb d_NC_reply_30 rfl hl (by decide) rfl (fun ls hl => ?_)
      refine lv_aload_n hx hb d_NC_reply_31 rfl (lv_at hl 2 rfl) ?_
      refine lv_iconst (v := 0) hx hb d_NC_reply_32 (by decide) ?_
      refine va_put (D := (dC, dI)) (ci := 0) (v := .int 0) (ty := .int) (C := R_NC) (T := F_NC) (N := 15) hx hb hts i_NC t_NC t_NC_ok n_NC hown hK hP hD hS 0 rfl rfl 2 (by decide) (hts _ m_f_NC_20) (fun _ h9 => h9) rfl (by decide +kernel) rfl rfl (Nat.le_of_ble_eq_true rfl) d_NC_reply_33 (fun H locs hP hD hS => ?_)
      have hP : va_P (dC, dI) classes (w_NC cA ad (upr S 0 (upf (S 0) 2 (fun _ => 0)))) H := hP
      have hD : va_D A (w_NC cA ad (upr S 0 (upf (S 0) 2 (fun _ => 0)))) := hD
      refine lv_iload_n hx hb d_NC_reply_36 rfl (lv_at hl 0 rfl) ?_
      refine lv_if_ne (tgt := 53) hx hb d_NC_reply_37 (by decide) (fun c_411 => ?_) (fun c_411 => ?_)
      · refine lv_aload_n hx hb d_NC_reply_53 rfl (lv_at hl 2 rfl) ?_
        refine va_get (D := (dC, dI)) (ci := 0) (v := .int ((S 0) 11 0)) (C := R_NC) (T := F_NC) (N := 15) hx hb hts i_NC hown hK hP 0 rfl rfl 11 (by decide) (hts _ m_f_NC_56) (fun _ h9 => h9) rfl d_NC_reply_54 ?_
        refine lv_if_lt (tgt := 82) hx hb d_NC_reply_57 (by decide) (fun c_412 => ?_) (fun c_412 => ?_)
        · refine lv_aload_n hx hb d_NC_reply_82 rfl (lv_at hl 2 rfl) ?_
          have hFc := nc_free hD hS hA
          refine nc_mug (va_runV (As := []) (rest := []) hfix (c2_NC_goThrough l dC dI cA H.size ad (upr S 0 (upf (S 0) 2 (fun _ => 0)))) (k_NC_132 hts hN ⟨Nat.le_of_ble_eq_true rfl, Nat.le_of_ble_eq_true rfl⟩) (nc_preVM hK hN hP hD rfl rfl) rfl rfl hl.1 rfl (lv_room (Nat.le_of_ble_eq_true rfl)) d_NC_reply_83 ⟨Nat.zero_le _, Nat.zero_le _⟩) hS hFc (fun r ad_413 H locs er hP1 hD1 hk1 hS => ?_)
          obtain ⟨rfl, hroot_ad_413⟩ := er
          have hP : va_P (dC, dI) classes (w_NC cA ad_413 (f_NC_goThrough (upr S 0 (upf (S 0) 2 (fun _ => 0)))).2) H := hP1
          have hD : va_D A (w_NC cA ad_413 (f_NC_goThrough (upr S 0 (upf (S 0) 2 (fun _ => 0)))).2) := hD1.weaken (fun _ q _ h => hFc q.1 h)
          have hF : (f_NC_reply S) = ((f_NC_goThrough (upr S 0 (upf (S 0) 2 (fun _ => 0)))).1, (f_NC_goThrough (upr S 0 (upf (S 0) 2 (fun _ => 0)))).2) := by rw [f_NC_reply, if_neg c_409, if_pos c_410, if_neg c_411, if_pos c_412]
          exact W.iret (v := (f_NC_goThrough (upr S 0 (upf (S 0) 2 (fun _ => 0)))).1) hx hb hr (fun t ht hW => ⟨⟨(f_NC_goThrough (upr S 0 (upf (S 0) 2 (fun _ => 0)))).1, ad_413, rfl, ⟨by rw [hF], hroot_ad_413⟩, by rw [hF, ht]; exact hP, by rw [hF]; exact hD⟩, hS.F ht⟩) hS.2.2 d_NC_reply_86
        · refine lv_aload_n hx hb d_NC_reply_60 rfl (lv_at hl 2 rfl) ?_
          refine va_get (D := (dC, dI)) (ci := 0) (v := .int ((S 0) 11 0)) (C := R_NC) (T := F_NC) (N := 15) hx hb hts i_NC hown hK hP 0 rfl rfl 11 (by decide) (hts _ m_f_NC_56) (fun _ h9 => h9) rfl d_NC_reply_61 ?_
          refine lv_aload_n hx hb d_NC_reply_64 rfl (lv_at hl 2 rfl) ?_
          refine va_get (D := (dC, dI)) (ci := 0) (v := .ref ((ad 0) 2)) (C := R_NC) (T := F_NC) (N := 15) hx hb hts i_NC hown hK hP 0 rfl rfl 6 (by decide) (hts _ m_f_NC_37) (fun _ h9 => h9) rfl d_NC_reply_65 ?_
          refine va_alen (v := 30) hx hb hK hP 2 0 rfl rfl rfl d_NC_reply_68 ?_
          refine lv_icmp_ge (tgt := 82) hx hb d_NC_reply_69 (by decide) (fun c_414 => ?_) (fun c_414 => ?_)
          · refine lv_aload_n hx hb d_NC_reply_82 rfl (lv_at hl 2 rfl) ?_
            have hFc := nc_free hD hS hA
            refine nc_mug (va_runV (As := []) (rest := []) hfix (c2_NC_goThrough l dC dI cA H.size ad (upr S 0 (upf (S 0) 2 (fun _ => 0)))) (k_NC_132 hts hN ⟨Nat.le_of_ble_eq_true rfl, Nat.le_of_ble_eq_true rfl⟩) (nc_preVM hK hN hP hD rfl rfl) rfl rfl hl.1 rfl (lv_room (Nat.le_of_ble_eq_true rfl)) d_NC_reply_83 ⟨Nat.zero_le _, Nat.zero_le _⟩) hS hFc (fun r ad_415 H locs er hP1 hD1 hk1 hS => ?_)
            obtain ⟨rfl, hroot_ad_415⟩ := er
            have hP : va_P (dC, dI) classes (w_NC cA ad_415 (f_NC_goThrough (upr S 0 (upf (S 0) 2 (fun _ => 0)))).2) H := hP1
            have hD : va_D A (w_NC cA ad_415 (f_NC_goThrough (upr S 0 (upf (S 0) 2 (fun _ => 0)))).2) := hD1.weaken (fun _ q _ h => hFc q.1 h)
            have hF : (f_NC_reply S) = ((f_NC_goThrough (upr S 0 (upf (S 0) 2 (fun _ => 0)))).1, (f_NC_goThrough (upr S 0 (upf (S 0) 2 (fun _ => 0)))).2) := by rw [f_NC_reply, if_neg c_409, if_pos c_410, if_neg c_411, if_neg c_412, if_pos c_414]
            exact W.iret (v := (f_NC_goThrough (upr S 0 (upf (S 0) 2 (fun _ => 0)))).1) hx hb hr (fun t ht hW => ⟨⟨(f_NC_goThrough (upr S 0 (upf (S 0) 2 (fun _ => 0)))).1, ad_415, rfl, ⟨by rw [hF], hroot_ad_415⟩, by rw [hF, ht]; exact hP, by rw [hF]; exact hD⟩, hS.F ht⟩) hS.2.2 d_NC_reply_86
          · refine lv_aload_n hx hb d_NC_reply_72 rfl (lv_at hl 2 rfl) ?_
            refine va_get (D := (dC, dI)) (ci := 0) (v := .ref ((ad 0) 2)) (C := R_NC) (T := F_NC) (N := 15) hx hb hts i_NC hown hK hP 0 rfl rfl 6 (by decide) (hts _ m_f_NC_37) (fun _ h9 => h9) rfl d_NC_reply_73 ?_
            refine lv_aload_n hx hb d_NC_reply_76 rfl (lv_at hl 2 rfl) ?_
            refine va_get (D := (dC, dI)) (ci := 0) (v := .int ((S 0) 11 0)) (C := R_NC) (T := F_NC) (N := 15) hx hb hts i_NC hown hK hP 0 rfl rfl 11 (by decide) (hts _ m_f_NC_56) (fun _ h9 => h9) rfl d_NC_reply_77 ?_
            refine lv_iload_n hx hb d_NC_reply_80 rfl (lv_at hl 0 rfl) ?_
            refine va_iast (f := ((S 0) 6)) hx hb hK hP hD hS 2 0 rfl rfl (by have q0 := nc_eq c_410 rfl (L_m1); have q1 := nc_nlt c_412 rfl (L_0); have q2 := nc_nle c_414 (L_30) rfl; exact vp_in_iff.mpr ⟨by omega, by omega⟩) d_NC_reply_81 (fun H locs hP hD hS => ?_)
            have hP : va_P (dC, dI) classes (w_NC cA ad (upr S 0 (upf (upf (S 0) 2 (fun _ => 0)) 6 (upd ((S 0) 6) (((S 0) 11 0) : Int32).toNatClampNeg (f_NC_leftByRow S))))) H := hP
            have hD : va_D A (w_NC cA ad (upr S 0 (upf (upf (S 0) 2 (fun _ => 0)) 6 (upd ((S 0) 6) (((S 0) 11 0) : Int32).toNatClampNeg (f_NC_leftByRow S))))) := hD
            refine lv_aload_n hx hb d_NC_reply_82 rfl (lv_at hl 2 rfl) ?_
            have hFc := nc_free hD hS hA
            refine nc_mug (va_runV (As := []) (rest := []) hfix (c2_NC_goThrough l dC dI cA H.size ad (upr S 0 (upf (upf (S 0) 2 (fun _ => 0)) 6 (upd ((S 0) 6) (((S 0) 11 0) : Int32).toNatClampNeg (f_NC_leftByRow S))))) (k_NC_132 hts hN ⟨Nat.le_of_ble_eq_true rfl, Nat.le_of_ble_eq_true rfl⟩) (nc_preVM hK hN hP hD rfl rfl) rfl rfl hl.1 rfl (lv_room (Nat.le_of_ble_eq_true rfl)) d_NC_reply_83 ⟨Nat.zero_le _, Nat.zero_le _⟩) hS hFc (fun r ad_416 H locs er hP1 hD1 hk1 hS => ?_)
            obtain ⟨rfl, hroot_ad_416⟩ := er
            have hP : va_P (dC, dI) classes (w_NC cA ad_416 (f_NC_goThrough (upr S 0 (upf (upf (S 0) 2 (fun _ => 0)) 6 (upd ((S 0) 6) (((S 0) 11 0) : Int32).toNatClampNeg (f_NC_leftByRow S))))).2) H := hP1
            have hD : va_D A (w_NC cA ad_416 (f_NC_goThrough (upr S 0 (upf (upf (S 0) 2 (fun _ => 0)) 6 (upd ((S 0) 6) (((S 0) 11 0) : Int32).toNatClampNeg (f_NC_leftByRow S))))).2) := hD1.weaken (fun _ q _ h => hFc q.1 h)
            have hF : (f_NC_reply S) = ((f_NC_goThrough (upr S 0 (upf (upf (S 0) 2 (fun _ => 0)) 6 (upd ((S 0) 6) (((S 0) 11 0) : Int32).toNatClampNeg (f_NC_leftByRow S))))).1, (f_NC_goThrough (upr S 0 (upf (upf (S 0) 2 (fun _ => 0)) 6 (upd ((S 0) 6) (((S 0) 11 0) : Int32).toNatClampNeg (f_NC_leftByRow S))))).2) := by rw [f_NC_reply, if_neg c_409, if_pos c_410, if_neg c_411, if_neg c_412, if_neg c_414]
            exact W.iret (v := (f_NC_goThrough (upr S 0 (upf (upf (S 0) 2 (fun _ => 0)) 6 (upd ((S 0) 6) (((S 0) 11 0) : Int32).toNatClampNeg (f_NC_leftByRow S))))).1) hx hb hr (fun t ht hW => ⟨⟨(f_NC_goThrough (upr S 0 (upf (upf (S 0) 2 (fun _ => 0)) 6 (upd ((S 0) 6) (((S 0) 11 0) : Int32).toNatClampNeg (f_NC_leftByRow S))))).1, ad_416, rfl, ⟨by rw [hF], hroot_ad_416⟩, by rw [hF, ht]; exact hP, by rw [hF]; exact hD⟩, hS.F ht⟩) hS.2.2 d_NC_reply_86
      · refine lv_aload_n hx hb d_NC_reply_40 rfl (lv_at hl 2 rfl) ?_
        refine lv_aload_n hx hb d_NC_reply_41 rfl (lv_at hl 2 rfl) ?_
        refine va_get (D := (dC, dI)) (ci := 0) (v := .int ((S 0) 11 0)) (C := R_NC) (T := F_NC) (N := 15) hx hb hts i_NC hown hK hP 0 rfl rfl 11 (by decide) (hts _ m_f_NC_56) (fun _ h9 => h9) rfl d_NC_reply_42 ?_
        refine lv_iconst (v := (-1)) hx hb d_NC_reply_45 (by decide) ?_
        refine lv_iconst (v := (-1)) hx hb d_NC_reply_46 (by decide) ?_
        have hFc := nc_free hD hS hA
        refine nc_muv (va_runV (As := [.int ((S 0) 11 0), .int (-1), .int (-1)]) (rest := []) hfix (c_NC_tell l dC dI cA H.size ad (upr S 0 (upf (S 0) 2 (fun _ => 0))) ((S 0) 11 0) (-1) (-1)) (k_NC_141 hts hN ⟨Nat.le_of_ble_eq_true rfl, Nat.le_of_ble_eq_true rfl⟩) (nc_preVM hK hN hP hD rfl rfl) rfl rfl hl.1 rfl (lv_room (Nat.le_of_ble_eq_true rfl)) d_NC_reply_47 ⟨Nat.zero_le _, Nat.zero_le _⟩) hS hFc (fun H locs hP1 hD1 hk1 hS => ?_)
        have hP : va_P (dC, dI) classes (w_NC cA ad (f_NC_tell (upr S 0 (upf (S 0) 2 (fun _ => 0))) ((S 0) 11 0) (-1) (-1))) H := hP1
        have hD : va_D A (w_NC cA ad (f_NC_tell (upr S 0 (upf (S 0) 2 (fun _ => 0))) ((S 0) 11 0) (-1) (-1))) := hD1.weaken (fun _ q _ h => hFc q.1 h)
        refine lv_bipush (v := (-18)) hx hb d_NC_reply_50 (by decide) ?_
        have hF : (f_NC_reply S) = ((-18), (f_NC_tell (upr S 0 (upf (S 0) 2 (fun _ => 0))) ((S 0) 11 0) (-1) (-1))) := by rw [f_NC_reply, if_neg c_409, if_pos c_410, if_pos c_411]
        exact W.iret (v := (-18)) hx hb hr (fun t ht hW => ⟨⟨(-18), ad, rfl, ⟨by rw [hF], rfl⟩, by rw [hF, ht]; exact hP, by rw [hF]; exact hD⟩, hS.F ht⟩) hS.2.2 d_NC_reply_52
    · refine lv_aload_n hx hb d_NC_reply_20 rfl (lv_at hl 1 rfl) ?_
      refine lv_iload_n hx hb d_NC_reply_21 rfl (lv_at hl 0 rfl) ?_
      have hFc := nc_free hD hS hA
      refine nc_mui (va_runV (As := [.int (f_NC_replyFault S)]) (rest := []) hfix (c_NC_refuseRow l dC dI cA s.heap.size ad S (f_NC_replyFault S)) (k_NC_129 hts hN ⟨Nat.le_of_ble_eq_true rfl, Nat.le_of_ble_eq_true rfl⟩) (nc_preVM hK hN hP hD rfl rfl) rfl rfl hl.1 rfl (lv_room (Nat.le_of_ble_eq_true rfl)) d_NC_reply_22 ⟨Nat.zero_le _, Nat.zero_le _⟩) hS hFc (fun r H locs er hP1 hD1 hk1 hS => ?_)
      subst er
      have hP : va_P (dC, dI) classes (w_NC cA ad (f_NC_refuseRow S (f_NC_replyFault S)).2) H := hP1
      have hD : va_D A (w_NC cA ad (f_NC_refuseRow S (f_NC_replyFault S)).2) := hD1.weaken (fun _ q _ h => hFc q.1 h)
      have hF : (f_NC_reply S) = ((f_NC_refuseRow S (f_NC_replyFault S)).1, (f_NC_refuseRow S (f_NC_replyFault S)).2) := by rw [f_NC_reply, if_neg c_409, if_neg c_410]
      exact W.iret (v := (f_NC_refuseRow S (f_NC_replyFault S)).1) hx hb hr (fun t ht hW => ⟨⟨(f_NC_refuseRow S (f_NC_replyFault S)).1, ad, rfl, ⟨by rw [hF], rfl⟩, by rw [hF, ht]; exact hP, by rw [hF]; exact hD⟩, hS.F ht⟩) hS.2.2 d_NC_reply_25
  · refine lv_bipush (v := (-4)) hx hb d_NC_reply_7 (by decide) ?_
    have hF : (f_NC_reply S) = ((-4), S) := by rw [f_NC_reply, if_pos c_409]
    exact W.iret (v := (-4)) hx hb hr (fun t ht hW => ⟨⟨(-4), ad, rfl, ⟨by rw [hF], rfl⟩, by rw [hF, ht]; exact hP, by rw [hF]; exact hD⟩, hS.F ht⟩) hS.2.2 d_NC_reply_9
