def f_Phrase_isPart (P : Nat → Nat → Int32) (x1 : Int32) : Int32 := (if x1 < 0 then 0 else (if (P 4 0) ≤ x1 then 0 else (if 30 ≤ x1 then 0 else 1)))
abbrev ws_Phrase_isPart : List Cond := .code y_Phrase_isPart b_Phrase_isPart 2 (some .boolean) :: lw_G
abbrev rm_Phrase_isPart : Room := { frames := 0, cells := 0, slots := 0, locals := 0 }
set_option maxHeartbeats 4000000 in
set_option maxRecDepth 100000 in
theorem c_Phrase_isPart (l : Launch) (dC : Nat → ClassId) (dI : Nat → Nat → Nat) (cA : ClassId) (a : Nat → Nat) (P : Nat → Nat → Int32) (x1 : Int32) : Met l y_Phrase_isPart ws_Phrase_isPart rm_Phrase_isPart (nc_Pre (dC, dI) cA [.ref (a 0), .int x1] (w_Phrase cA a P)) (vp_Si (fun r => (r = (f_Phrase_isPart P x1) ∧ narrow .boolean (.int r) = .int r))) 0 0 (fun _ => False) := by
  refine Met.ofW (cc := b_Phrase_isPart) (maxL := 2) (ret := (some .boolean)) (by decide) rfl ?_
  intro p e s m args below meth c s₁ B hml hv
  obtain ⟨rfl, hP, hK, hD, hN⟩ := hv
  have hx := B.exec
  have hb := B.bytes
  have hr := B.returns
  have hts : ∀ w ∈ lw_G, w.before [.ref (a 0), .int x1].toArray s = true := fun w h => atoms_spec (ws := ws_Phrase_isPart) B.pre w (List.mem_cons_of_mem _ h)
  have hown : s.vm.findClass R_Phrase = some m.cls := findClass_of_methodNamed B.named
  have hlocks := B.notSynchronized
  have hfix : CallFix p m c b_Phrase_isPart 2 s [.ref (a 0), .int x1].toArray lw_G R_Phrase := ⟨hx, hb, hml, hown, hts⟩
  have hl := lv_entry ([.ref (a 0), .int x1]) (n := 2) (Nat.le_of_ble_eq_true rfl)
  rw [lg_entry_eq]
  generalize (lg_sl ([.ref (a 0), .int x1]) ++ List.replicate (2 - (lg_sl ([.ref (a 0), .int x1])).length) Slot.unset).toArray = ls at hl ⊢
  have hl : lv_has ls 2 [(0, .ref (a 0)), (1, .int x1)] := hl
  refine lv_iload_n hx hb d_Phrase_isPart_0 rfl (lv_at hl 1 rfl) ?_
  refine lv_if_lt (tgt := 22) hx hb d_Phrase_isPart_1 (by decide) (fun c_100 => ?_) (fun c_100 => ?_)
  · refine lv_iconst (v := 0) hx hb d_Phrase_isPart_22 (by decide) ?_
    exact W.zret (v := 0) hx hb hr rfl (fun t ht hW => ⟨0, rfl, ⟨by rw [f_Phrase_isPart, if_pos c_100], rfl⟩, ht⟩) (fun _ h => nomatch h) d_Phrase_isPart_23
  · refine lv_iload_n hx hb d_Phrase_isPart_4 rfl (lv_at hl 1 rfl) ?_
    refine lv_aload_n hx hb d_Phrase_isPart_5 rfl (lv_at hl 0 rfl) ?_
    refine va_get (D := (dC, dI)) (ci := 2) (v := .int (P 4 0)) (C := R_Phrase) (T := F_Phrase) (N := 11) hx hb hts i_Phrase hown hK hP 0 rfl rfl 4 (by decide) (hts _ m_f_Phrase_24) (fun _ h9 => h9) rfl d_Phrase_isPart_6 ?_
    refine lv_icmp_ge (tgt := 22) hx hb d_Phrase_isPart_9 (by decide) (fun c_101 => ?_) (fun c_101 => ?_)
    · refine lv_iconst (v := 0) hx hb d_Phrase_isPart_22 (by decide) ?_
      exact W.zret (v := 0) hx hb hr rfl (fun t ht hW => ⟨0, rfl, ⟨by rw [f_Phrase_isPart, if_neg c_100, if_pos c_101], rfl⟩, ht⟩) (fun _ h => nomatch h) d_Phrase_isPart_23
    · refine lv_iload_n hx hb d_Phrase_isPart_12 rfl (lv_at hl 1 rfl) ?_
      refine lv_bipush (v := 30) hx hb d_Phrase_isPart_13 (by decide) ?_
      refine lv_icmp_ge (tgt := 22) hx hb d_Phrase_isPart_15 (by decide) (fun c_102 => ?_) (fun c_102 => ?_)
      · refine lv_iconst (v := 0) hx hb d_Phrase_isPart_22 (by decide) ?_
        exact W.zret (v := 0) hx hb hr rfl (fun t ht hW => ⟨0, rfl, ⟨by rw [f_Phrase_isPart, if_neg c_100, if_neg c_101, if_pos c_102], rfl⟩, ht⟩) (fun _ h => nomatch h) d_Phrase_isPart_23
      · refine lv_iconst (v := 1) hx hb d_Phrase_isPart_18 (by decide) ?_
        refine lv_goto (tgt := 23) hx hb d_Phrase_isPart_19 (by decide) ?_
        exact W.zret (v := 1) hx hb hr rfl (fun t ht hW => ⟨1, rfl, ⟨by rw [f_Phrase_isPart, if_neg c_100, if_neg c_101, if_neg c_102], rfl⟩, ht⟩) (fun _ h => nomatch h) d_Phrase_isPart_23
theorem isPart_pos {P : Nat → Nat → Int32} {x1 : Int32} (h : ¬ f_Phrase_isPart P x1 = 0) : 0 ≤ x1.toInt ∧ x1.toInt < (P 4 0).toInt ∧ x1.toInt < 30 := by
  unfold f_Phrase_isPart at h
  split at h
  · exact absurd rfl h
  · split at h
    · exact absurd rfl h
    · split at h
      · exact absurd rfl h
      · rename_i h1 h2 h3
        have q1 := nc_nlt h1 rfl L_0
        have q2 := nc_nle h2 rfl rfl
        have q3 := nc_nle h3 L_30 rfl
        exact ⟨q1, q2, q3⟩
def f_Phrase_isOwn (P : Nat → Nat → Int32) (x1 : Int32) : Int32 := (if x1 < 0 then 0 else (if (P 8 0) ≤ x1 then 0 else (if 30 ≤ x1 then 0 else 1)))
abbrev ws_Phrase_isOwn : List Cond := .code y_Phrase_isOwn b_Phrase_isOwn 2 (some .boolean) :: lw_G
abbrev rm_Phrase_isOwn : Room := { frames := 0, cells := 0, slots := 0, locals := 0 }
set_option maxHeartbeats 4000000 in
set_option maxRecDepth 100000 in
theorem c_Phrase_isOwn (l : Launch) (dC : Nat → ClassId) (dI : Nat → Nat → Nat) (cA : ClassId) (a : Nat → Nat) (P : Nat → Nat → Int32) (x1 : Int32) : Met l y_Phrase_isOwn ws_Phrase_isOwn rm_Phrase_isOwn (nc_Pre (dC, dI) cA [.ref (a 0), .int x1] (w_Phrase cA a P)) (vp_Si (fun r => (r = (f_Phrase_isOwn P x1) ∧ narrow .boolean (.int r) = .int r))) 0 0 (fun _ => False) := by
  refine Met.ofW (cc := b_Phrase_isOwn) (maxL := 2) (ret := (some .boolean)) (by decide) rfl ?_
  intro p e s m args below meth c s₁ B hml hv
  obtain ⟨rfl, hP, hK, hD, hN⟩ := hv
  have hx := B.exec
  have hb := B.bytes
  have hr := B.returns
  have hts : ∀ w ∈ lw_G, w.before [.ref (a 0), .int x1].toArray s = true := fun w h => atoms_spec (ws := ws_Phrase_isOwn) B.pre w (List.mem_cons_of_mem _ h)
  have hown : s.vm.findClass R_Phrase = some m.cls := findClass_of_methodNamed B.named
  have hlocks := B.notSynchronized
  have hfix : CallFix p m c b_Phrase_isOwn 2 s [.ref (a 0), .int x1].toArray lw_G R_Phrase := ⟨hx, hb, hml, hown, hts⟩
  have hl := lv_entry ([.ref (a 0), .int x1]) (n := 2) (Nat.le_of_ble_eq_true rfl)
  rw [lg_entry_eq]
  generalize (lg_sl ([.ref (a 0), .int x1]) ++ List.replicate (2 - (lg_sl ([.ref (a 0), .int x1])).length) Slot.unset).toArray = ls at hl ⊢
  have hl : lv_has ls 2 [(0, .ref (a 0)), (1, .int x1)] := hl
  refine lv_iload_n hx hb d_Phrase_isOwn_0 rfl (lv_at hl 1 rfl) ?_
  refine lv_if_lt (tgt := 22) hx hb d_Phrase_isOwn_1 (by decide) (fun c_103 => ?_) (fun c_103 => ?_)
  · refine lv_iconst (v := 0) hx hb d_Phrase_isOwn_22 (by decide) ?_
    exact W.zret (v := 0) hx hb hr rfl (fun t ht hW => ⟨0, rfl, ⟨by rw [f_Phrase_isOwn, if_pos c_103], rfl⟩, ht⟩) (fun _ h => nomatch h) d_Phrase_isOwn_23
  · refine lv_iload_n hx hb d_Phrase_isOwn_4 rfl (lv_at hl 1 rfl) ?_
    refine lv_aload_n hx hb d_Phrase_isOwn_5 rfl (lv_at hl 0 rfl) ?_
    refine va_get (D := (dC, dI)) (ci := 2) (v := .int (P 8 0)) (C := R_Phrase) (T := F_Phrase) (N := 11) hx hb hts i_Phrase hown hK hP 0 rfl rfl 8 (by decide) (hts _ m_f_Phrase_37) (fun _ h9 => h9) rfl d_Phrase_isOwn_6 ?_
    refine lv_icmp_ge (tgt := 22) hx hb d_Phrase_isOwn_9 (by decide) (fun c_104 => ?_) (fun c_104 => ?_)
    · refine lv_iconst (v := 0) hx hb d_Phrase_isOwn_22 (by decide) ?_
      exact W.zret (v := 0) hx hb hr rfl (fun t ht hW => ⟨0, rfl, ⟨by rw [f_Phrase_isOwn, if_neg c_103, if_pos c_104], rfl⟩, ht⟩) (fun _ h => nomatch h) d_Phrase_isOwn_23
    · refine lv_iload_n hx hb d_Phrase_isOwn_12 rfl (lv_at hl 1 rfl) ?_
      refine lv_bipush (v := 30) hx hb d_Phrase_isOwn_13 (by decide) ?_
      refine lv_icmp_ge (tgt := 22) hx hb d_Phrase_isOwn_15 (by decide) (fun c_105 => ?_) (fun c_105 => ?_)
      · refine lv_iconst (v := 0) hx hb d_Phrase_isOwn_22 (by decide) ?_
        exact W.zret (v := 0) hx hb hr rfl (fun t ht hW => ⟨0, rfl, ⟨by rw [f_Phrase_isOwn, if_neg c_103, if_neg c_104, if_pos c_105], rfl⟩, ht⟩) (fun _ h => nomatch h) d_Phrase_isOwn_23
      · refine lv_iconst (v := 1) hx hb d_Phrase_isOwn_18 (by decide) ?_
        refine lv_goto (tgt := 23) hx hb d_Phrase_isOwn_19 (by decide) ?_
        exact W.zret (v := 1) hx hb hr rfl (fun t ht hW => ⟨1, rfl, ⟨by rw [f_Phrase_isOwn, if_neg c_103, if_neg c_104, if_neg c_105], rfl⟩, ht⟩) (fun _ h => nomatch h) d_Phrase_isOwn_23
theorem isOwn_pos {P : Nat → Nat → Int32} {x1 : Int32} (h : ¬ f_Phrase_isOwn P x1 = 0) : 0 ≤ x1.toInt ∧ x1.toInt < (P 8 0).toInt ∧ x1.toInt < 30 := by
  unfold f_Phrase_isOwn at h
  split at h
  · exact absurd rfl h
  · split at h
    · exact absurd rfl h
    · split at h
      · exact absurd rfl h
      · rename_i h1 h2 h3
        have q1 := nc_nlt h1 rfl L_0
        have q2 := nc_nle h2 rfl rfl
        have q3 := nc_nle h3 L_30 rfl
        exact ⟨q1, q2, q3⟩
def f_Phrase_isDescription (P : Nat → Nat → Int32) : Int32 := (if (P 4 0) = 1 then (if (P 8 0) = 1 then (if ((P 0) (0 : Int32).toNatClampNeg) = 0 then 1 else 0) else 0) else 0)
abbrev ws_Phrase_isDescription : List Cond := .code y_Phrase_isDescription b_Phrase_isDescription 1 (some .boolean) :: lw_G
abbrev rm_Phrase_isDescription : Room := { frames := 0, cells := 0, slots := 0, locals := 0 }
set_option maxHeartbeats 4000000 in
set_option maxRecDepth 100000 in
theorem c_Phrase_isDescription (l : Launch) (dC : Nat → ClassId) (dI : Nat → Nat → Nat) (cA : ClassId) (a : Nat → Nat) (P : Nat → Nat → Int32) : Met l y_Phrase_isDescription ws_Phrase_isDescription rm_Phrase_isDescription (nc_Pre (dC, dI) cA [.ref (a 0)] (w_Phrase cA a P)) (vp_Si (fun r => (r = (f_Phrase_isDescription P) ∧ narrow .boolean (.int r) = .int r))) 0 0 (fun _ => False) := by
  refine Met.ofW (cc := b_Phrase_isDescription) (maxL := 1) (ret := (some .boolean)) (by decide) rfl ?_
  intro p e s m args below meth c s₁ B hml hv
  obtain ⟨rfl, hP, hK, hD, hN⟩ := hv
  have hx := B.exec
  have hb := B.bytes
  have hr := B.returns
  have hts : ∀ w ∈ lw_G, w.before [.ref (a 0)].toArray s = true := fun w h => atoms_spec (ws := ws_Phrase_isDescription) B.pre w (List.mem_cons_of_mem _ h)
  have hown : s.vm.findClass R_Phrase = some m.cls := findClass_of_methodNamed B.named
  have hlocks := B.notSynchronized
  have hfix : CallFix p m c b_Phrase_isDescription 1 s [.ref (a 0)].toArray lw_G R_Phrase := ⟨hx, hb, hml, hown, hts⟩
  have hl := lv_entry ([.ref (a 0)]) (n := 1) (Nat.le_of_ble_eq_true rfl)
  rw [lg_entry_eq]
  generalize (lg_sl ([.ref (a 0)]) ++ List.replicate (1 - (lg_sl ([.ref (a 0)])).length) Slot.unset).toArray = ls at hl ⊢
  have hl : lv_has ls 1 [(0, .ref (a 0))] := hl
  refine lv_aload_n hx hb d_Phrase_isDescription_0 rfl (lv_at hl 0 rfl) ?_
  refine va_get (D := (dC, dI)) (ci := 2) (v := .int (P 4 0)) (C := R_Phrase) (T := F_Phrase) (N := 11) hx hb hts i_Phrase hown hK hP 0 rfl rfl 4 (by decide) (hts _ m_f_Phrase_24) (fun _ h9 => h9) rfl d_Phrase_isDescription_1 ?_
  refine lv_iconst (v := 1) hx hb d_Phrase_isDescription_4 (by decide) ?_
  refine lv_icmp_ne (tgt := 29) hx hb d_Phrase_isDescription_5 (by decide) (fun c_106 => ?_) (fun c_106 => ?_)
  · refine lv_iconst (v := 0) hx hb d_Phrase_isDescription_29 (by decide) ?_
    exact W.zret (v := 0) hx hb hr rfl (fun t ht hW => ⟨0, rfl, ⟨by rw [f_Phrase_isDescription, if_neg c_106], rfl⟩, ht⟩) (fun _ h => nomatch h) d_Phrase_isDescription_30
  · refine lv_aload_n hx hb d_Phrase_isDescription_8 rfl (lv_at hl 0 rfl) ?_
    refine va_get (D := (dC, dI)) (ci := 2) (v := .int (P 8 0)) (C := R_Phrase) (T := F_Phrase) (N := 11) hx hb hts i_Phrase hown hK hP 0 rfl rfl 8 (by decide) (hts _ m_f_Phrase_37) (fun _ h9 => h9) rfl d_Phrase_isDescription_9 ?_
    refine lv_iconst (v := 1) hx hb d_Phrase_isDescription_12 (by decide) ?_
    refine lv_icmp_ne (tgt := 29) hx hb d_Phrase_isDescription_13 (by decide) (fun c_107 => ?_) (fun c_107 => ?_)
    · refine lv_iconst (v := 0) hx hb d_Phrase_isDescription_29 (by decide) ?_
      exact W.zret (v := 0) hx hb hr rfl (fun t ht hW => ⟨0, rfl, ⟨by rw [f_Phrase_isDescription, if_pos c_106, if_neg c_107], rfl⟩, ht⟩) (fun _ h => nomatch h) d_Phrase_isDescription_30
    · refine lv_aload_n hx hb d_Phrase_isDescription_16 rfl (lv_at hl 0 rfl) ?_
      refine va_get (D := (dC, dI)) (ci := 2) (v := .ref (a 1)) (C := R_Phrase) (T := F_Phrase) (N := 11) hx hb hts i_Phrase hown hK hP 0 rfl rfl 0 (by decide) (hts _ m_f_Phrase_9) (fun _ h9 => h9) rfl d_Phrase_isDescription_17 ?_
      refine lv_iconst (v := 0) hx hb d_Phrase_isDescription_20 (by decide) ?_
      refine va_iald (f := (P 0)) hx hb hK hP 1 0 rfl rfl (by unfold vp_in; decide) d_Phrase_isDescription_21 ?_
      refine lv_if_ne (tgt := 29) hx hb d_Phrase_isDescription_22 (by decide) (fun c_108 => ?_) (fun c_108 => ?_)
      · refine lv_iconst (v := 0) hx hb d_Phrase_isDescription_29 (by decide) ?_
        exact W.zret (v := 0) hx hb hr rfl (fun t ht hW => ⟨0, rfl, ⟨by rw [f_Phrase_isDescription, if_pos c_106, if_pos c_107, if_neg c_108], rfl⟩, ht⟩) (fun _ h => nomatch h) d_Phrase_isDescription_30
      · refine lv_iconst (v := 1) hx hb d_Phrase_isDescription_25 (by decide) ?_
        refine lv_goto (tgt := 30) hx hb d_Phrase_isDescription_26 (by decide) ?_
        exact W.zret (v := 1) hx hb hr rfl (fun t ht hW => ⟨1, rfl, ⟨by rw [f_Phrase_isDescription, if_pos c_106, if_pos c_107, if_pos c_108], rfl⟩, ht⟩) (fun _ h => nomatch h) d_Phrase_isDescription_30
def f_Phrase_mayEnd (P : Nat → Nat → Int32) : Int32 := (if (P 9 0) = 1 then 1 else (if (P 9 0) = 4 then 1 else 0))
abbrev ws_Phrase_mayEnd : List Cond := .code y_Phrase_mayEnd b_Phrase_mayEnd 1 (some .boolean) :: lw_G
abbrev rm_Phrase_mayEnd : Room := { frames := 0, cells := 0, slots := 0, locals := 0 }
set_option maxHeartbeats 4000000 in
set_option maxRecDepth 100000 in
theorem c_Phrase_mayEnd (l : Launch) (dC : Nat → ClassId) (dI : Nat → Nat → Nat) (cA : ClassId) (a : Nat → Nat) (P : Nat → Nat → Int32) : Met l y_Phrase_mayEnd ws_Phrase_mayEnd rm_Phrase_mayEnd (nc_Pre (dC, dI) cA [.ref (a 0)] (w_Phrase cA a P)) (vp_Si (fun r => (r = (f_Phrase_mayEnd P) ∧ narrow .boolean (.int r) = .int r))) 0 0 (fun _ => False) := by
  refine Met.ofW (cc := b_Phrase_mayEnd) (maxL := 1) (ret := (some .boolean)) (by decide) rfl ?_
  intro p e s m args below meth c s₁ B hml hv
  obtain ⟨rfl, hP, hK, hD, hN⟩ := hv
  have hx := B.exec
  have hb := B.bytes
  have hr := B.returns
  have hts : ∀ w ∈ lw_G, w.before [.ref (a 0)].toArray s = true := fun w h => atoms_spec (ws := ws_Phrase_mayEnd) B.pre w (List.mem_cons_of_mem _ h)
  have hown : s.vm.findClass R_Phrase = some m.cls := findClass_of_methodNamed B.named
  have hlocks := B.notSynchronized
  have hfix : CallFix p m c b_Phrase_mayEnd 1 s [.ref (a 0)].toArray lw_G R_Phrase := ⟨hx, hb, hml, hown, hts⟩
  have hl := lv_entry ([.ref (a 0)]) (n := 1) (Nat.le_of_ble_eq_true rfl)
  rw [lg_entry_eq]
  generalize (lg_sl ([.ref (a 0)]) ++ List.replicate (1 - (lg_sl ([.ref (a 0)])).length) Slot.unset).toArray = ls at hl ⊢
  have hl : lv_has ls 1 [(0, .ref (a 0))] := hl
  refine lv_aload_n hx hb d_Phrase_mayEnd_0 rfl (lv_at hl 0 rfl) ?_
  refine va_get (D := (dC, dI)) (ci := 2) (v := .int (P 9 0)) (C := R_Phrase) (T := F_Phrase) (N := 11) hx hb hts i_Phrase hown hK hP 0 rfl rfl 9 (by decide) (hts _ m_f_Phrase_40) (fun _ h9 => h9) rfl d_Phrase_mayEnd_1 ?_
  refine lv_iconst (v := 1) hx hb d_Phrase_mayEnd_4 (by decide) ?_
  refine lv_icmp_eq (tgt := 16) hx hb d_Phrase_mayEnd_5 (by decide) (fun c_109 => ?_) (fun c_109 => ?_)
  · refine lv_iconst (v := 1) hx hb d_Phrase_mayEnd_16 (by decide) ?_
    refine lv_goto (tgt := 21) hx hb d_Phrase_mayEnd_17 (by decide) ?_
    exact W.zret (v := 1) hx hb hr rfl (fun t ht hW => ⟨1, rfl, ⟨by rw [f_Phrase_mayEnd, if_pos c_109], rfl⟩, ht⟩) (fun _ h => nomatch h) d_Phrase_mayEnd_21
  · refine lv_aload_n hx hb d_Phrase_mayEnd_8 rfl (lv_at hl 0 rfl) ?_
    refine va_get (D := (dC, dI)) (ci := 2) (v := .int (P 9 0)) (C := R_Phrase) (T := F_Phrase) (N := 11) hx hb hts i_Phrase hown hK hP 0 rfl rfl 9 (by decide) (hts _ m_f_Phrase_40) (fun _ h9 => h9) rfl d_Phrase_mayEnd_9 ?_
    refine lv_iconst (v := 4) hx hb d_Phrase_mayEnd_12 (by decide) ?_
    refine lv_icmp_ne (tgt := 20) hx hb d_Phrase_mayEnd_13 (by decide) (fun c_110 => ?_) (fun c_110 => ?_)
    · refine lv_iconst (v := 0) hx hb d_Phrase_mayEnd_20 (by decide) ?_
      exact W.zret (v := 0) hx hb hr rfl (fun t ht hW => ⟨0, rfl, ⟨by rw [f_Phrase_mayEnd, if_neg c_109, if_neg c_110], rfl⟩, ht⟩) (fun _ h => nomatch h) d_Phrase_mayEnd_21
    · refine lv_iconst (v := 1) hx hb d_Phrase_mayEnd_16 (by decide) ?_
      refine lv_goto (tgt := 21) hx hb d_Phrase_mayEnd_17 (by decide) ?_
      exact W.zret (v := 1) hx hb hr rfl (fun t ht hW => ⟨1, rfl, ⟨by rw [f_Phrase_mayEnd, if_neg c_109, if_pos c_110], rfl⟩, ht⟩) (fun _ h => nomatch h) d_Phrase_mayEnd_21
def ph_ok (P : Nat → Nat → Int32) : Prop := 0 ≤ (P 4 0).toInt ∧ 0 ≤ (P 8 0).toInt
def f_Phrase_amountOf (P : Nat → Nat → Int32) (x1 : Int32) : Int32 := (if (f_Phrase_isPart P x1) = 0 then 0 else ((P 0) x1.toNatClampNeg))
abbrev ws_Phrase_amountOf : List Cond := .code y_Phrase_amountOf b_Phrase_amountOf 2 (some .int) :: lw_G
abbrev rm_Phrase_amountOf : Room := { frames := 1, cells := 0, slots := 0, locals := 21 }
set_option maxHeartbeats 4000000 in
set_option maxRecDepth 100000 in
theorem c_Phrase_amountOf (l : Launch) (dC : Nat → ClassId) (dI : Nat → Nat → Nat) (cA : ClassId) (a : Nat → Nat) (P : Nat → Nat → Int32) (x1 : Int32) : Met l y_Phrase_amountOf ws_Phrase_amountOf rm_Phrase_amountOf (nc_Pre (dC, dI) cA [.ref (a 0), .int x1] (w_Phrase cA a P)) (vp_Si (fun r => r = (f_Phrase_amountOf P x1))) 0 0 (fun _ => False) := by
  refine Met.ofW (cc := b_Phrase_amountOf) (maxL := 2) (ret := (some .int)) (by decide) rfl ?_
  intro p e s m args below meth c s₁ B hml hv
  obtain ⟨rfl, hP, hK, hD, hN⟩ := hv
  have hx := B.exec
  have hb := B.bytes
  have hr := B.returns
  have hts : ∀ w ∈ lw_G, w.before [.ref (a 0), .int x1].toArray s = true := fun w h => atoms_spec (ws := ws_Phrase_amountOf) B.pre w (List.mem_cons_of_mem _ h)
  have hown : s.vm.findClass R_Phrase = some m.cls := findClass_of_methodNamed B.named
  have hlocks := B.notSynchronized
  have hfix : CallFix p m c b_Phrase_amountOf 2 s [.ref (a 0), .int x1].toArray lw_G R_Phrase := ⟨hx, hb, hml, hown, hts⟩
  have hl := lv_entry ([.ref (a 0), .int x1]) (n := 2) (Nat.le_of_ble_eq_true rfl)
  rw [lg_entry_eq]
  generalize (lg_sl ([.ref (a 0), .int x1]) ++ List.replicate (2 - (lg_sl ([.ref (a 0), .int x1])).length) Slot.unset).toArray = ls at hl ⊢
  have hl : lv_has ls 2 [(0, .ref (a 0)), (1, .int x1)] := hl
  refine lv_aload_n hx hb d_Phrase_amountOf_0 rfl (lv_at hl 0 rfl) ?_
  refine lv_iload_n hx hb d_Phrase_amountOf_1 rfl (lv_at hl 1 rfl) ?_
  refine nc_ro (va_runV (As := [.int x1]) (rest := []) hfix (c_Phrase_isPart l dC dI cA a P x1) (k_Phrase_54 hts hN ⟨Nat.le_of_ble_eq_true rfl, Nat.le_of_ble_eq_true rfl⟩) (nc_preV hK hN hP hD rfl rfl) rfl rfl hl.1 rfl (lv_room (Nat.le_of_ble_eq_true rfl)) d_Phrase_amountOf_2 ⟨Nat.zero_le _, Nat.zero_le _⟩) (fun r er => ?_)
  obtain ⟨rfl, hz_111⟩ := er
  refine lv_if_eq (tgt := 17) hx hb d_Phrase_amountOf_5 (by decide) (fun c_112 => ?_) (fun c_112 => ?_)
  · refine lv_iconst (v := 0) hx hb d_Phrase_amountOf_17 (by decide) ?_
    exact W.iret (v := 0) hx hb hr (fun t ht hW => ⟨0, rfl, by rw [f_Phrase_amountOf, if_pos c_112], ht⟩) (fun _ h => nomatch h) d_Phrase_amountOf_18
  · refine lv_aload_n hx hb d_Phrase_amountOf_8 rfl (lv_at hl 0 rfl) ?_
    refine va_get (D := (dC, dI)) (ci := 2) (v := .ref (a 1)) (C := R_Phrase) (T := F_Phrase) (N := 11) hx hb hts i_Phrase hown hK hP 0 rfl rfl 0 (by decide) (hts _ m_f_Phrase_9) (fun _ h9 => h9) rfl d_Phrase_amountOf_9 ?_
    refine lv_iload_n hx hb d_Phrase_amountOf_12 rfl (lv_at hl 1 rfl) ?_
    refine va_iald (f := (P 0)) hx hb hK hP 1 0 rfl rfl (by have q0 := isPart_pos c_112; exact vp_in_iff.mpr ⟨by omega, by omega⟩) d_Phrase_amountOf_13 ?_
    refine lv_goto (tgt := 18) hx hb d_Phrase_amountOf_14 (by decide) ?_
    exact W.iret (v := ((P 0) x1.toNatClampNeg)) hx hb hr (fun t ht hW => ⟨((P 0) x1.toNatClampNeg), rfl, by rw [f_Phrase_amountOf, if_neg c_112], ht⟩) (fun _ h => nomatch h) d_Phrase_amountOf_18
def f_Phrase_mainOf (P : Nat → Nat → Int32) (x1 : Int32) : Int32 := (if (f_Phrase_isPart P x1) = 0 then (-1) else ((P 1) x1.toNatClampNeg))
abbrev ws_Phrase_mainOf : List Cond := .code y_Phrase_mainOf b_Phrase_mainOf 2 (some .int) :: lw_G
abbrev rm_Phrase_mainOf : Room := { frames := 1, cells := 0, slots := 0, locals := 21 }
set_option maxHeartbeats 4000000 in
set_option maxRecDepth 100000 in
theorem c_Phrase_mainOf (l : Launch) (dC : Nat → ClassId) (dI : Nat → Nat → Nat) (cA : ClassId) (a : Nat → Nat) (P : Nat → Nat → Int32) (x1 : Int32) : Met l y_Phrase_mainOf ws_Phrase_mainOf rm_Phrase_mainOf (nc_Pre (dC, dI) cA [.ref (a 0), .int x1] (w_Phrase cA a P)) (vp_Si (fun r => r = (f_Phrase_mainOf P x1))) 0 0 (fun _ => False) := by
  refine Met.ofW (cc := b_Phrase_mainOf) (maxL := 2) (ret := (some .int)) (by decide) rfl ?_
  intro p e s m args below meth c s₁ B hml hv
  obtain ⟨rfl, hP, hK, hD, hN⟩ := hv
  have hx := B.exec
  have hb := B.bytes
  have hr := B.returns
  have hts : ∀ w ∈ lw_G, w.before [.ref (a 0), .int x1].toArray s = true := fun w h => atoms_spec (ws := ws_Phrase_mainOf) B.pre w (List.mem_cons_of_mem _ h)
  have hown : s.vm.findClass R_Phrase = some m.cls := findClass_of_methodNamed B.named
  have hlocks := B.notSynchronized
  have hfix : CallFix p m c b_Phrase_mainOf 2 s [.ref (a 0), .int x1].toArray lw_G R_Phrase := ⟨hx, hb, hml, hown, hts⟩
  have hl := lv_entry ([.ref (a 0), .int x1]) (n := 2) (Nat.le_of_ble_eq_true rfl)
  rw [lg_entry_eq]
  generalize (lg_sl ([.ref (a 0), .int x1]) ++ List.replicate (2 - (lg_sl ([.ref (a 0), .int x1])).length) Slot.unset).toArray = ls at hl ⊢
  have hl : lv_has ls 2 [(0, .ref (a 0)), (1, .int x1)] := hl
  refine lv_aload_n hx hb d_Phrase_mainOf_0 rfl (lv_at hl 0 rfl) ?_
  refine lv_iload_n hx hb d_Phrase_mainOf_1 rfl (lv_at hl 1 rfl) ?_
  refine nc_ro (va_runV (As := [.int x1]) (rest := []) hfix (c_Phrase_isPart l dC dI cA a P x1) (k_Phrase_54 hts hN ⟨Nat.le_of_ble_eq_true rfl, Nat.le_of_ble_eq_true rfl⟩) (nc_preV hK hN hP hD rfl rfl) rfl rfl hl.1 rfl (lv_room (Nat.le_of_ble_eq_true rfl)) d_Phrase_mainOf_2 ⟨Nat.zero_le _, Nat.zero_le _⟩) (fun r er => ?_)
  obtain ⟨rfl, hz_113⟩ := er
  refine lv_if_eq (tgt := 17) hx hb d_Phrase_mainOf_5 (by decide) (fun c_114 => ?_) (fun c_114 => ?_)
  · refine lv_iconst (v := (-1)) hx hb d_Phrase_mainOf_17 (by decide) ?_
    exact W.iret (v := (-1)) hx hb hr (fun t ht hW => ⟨(-1), rfl, by rw [f_Phrase_mainOf, if_pos c_114], ht⟩) (fun _ h => nomatch h) d_Phrase_mainOf_18
  · refine lv_aload_n hx hb d_Phrase_mainOf_8 rfl (lv_at hl 0 rfl) ?_
    refine va_get (D := (dC, dI)) (ci := 2) (v := .ref (a 2)) (C := R_Phrase) (T := F_Phrase) (N := 11) hx hb hts i_Phrase hown hK hP 0 rfl rfl 1 (by decide) (hts _ m_f_Phrase_15) (fun _ h9 => h9) rfl d_Phrase_mainOf_9 ?_
    refine lv_iload_n hx hb d_Phrase_mainOf_12 rfl (lv_at hl 1 rfl) ?_
    refine va_iald (f := (P 1)) hx hb hK hP 2 0 rfl rfl (by have q0 := isPart_pos c_114; exact vp_in_iff.mpr ⟨by omega, by omega⟩) d_Phrase_mainOf_13 ?_
    refine lv_goto (tgt := 18) hx hb d_Phrase_mainOf_14 (by decide) ?_
    exact W.iret (v := ((P 1) x1.toNatClampNeg)) hx hb hr (fun t ht hW => ⟨((P 1) x1.toNatClampNeg), rfl, by rw [f_Phrase_mainOf, if_neg c_114], ht⟩) (fun _ h => nomatch h) d_Phrase_mainOf_18
def f_Phrase_exceptsStart (P : Nat → Nat → Int32) (x1 : Int32) : Int32 := (if (f_Phrase_isPart P x1) = 0 then 0 else ((P 2) x1.toNatClampNeg))
abbrev ws_Phrase_exceptsStart : List Cond := .code y_Phrase_exceptsStart b_Phrase_exceptsStart 2 (some .int) :: lw_G
abbrev rm_Phrase_exceptsStart : Room := { frames := 1, cells := 0, slots := 0, locals := 21 }
set_option maxHeartbeats 4000000 in
set_option maxRecDepth 100000 in
theorem c_Phrase_exceptsStart (l : Launch) (dC : Nat → ClassId) (dI : Nat → Nat → Nat) (cA : ClassId) (a : Nat → Nat) (P : Nat → Nat → Int32) (x1 : Int32) : Met l y_Phrase_exceptsStart ws_Phrase_exceptsStart rm_Phrase_exceptsStart (nc_Pre (dC, dI) cA [.ref (a 0), .int x1] (w_Phrase cA a P)) (vp_Si (fun r => r = (f_Phrase_exceptsStart P x1))) 0 0 (fun _ => False) := by
  refine Met.ofW (cc := b_Phrase_exceptsStart) (maxL := 2) (ret := (some .int)) (by decide) rfl ?_
  intro p e s m args below meth c s₁ B hml hv
  obtain ⟨rfl, hP, hK, hD, hN⟩ := hv
  have hx := B.exec
  have hb := B.bytes
  have hr := B.returns
  have hts : ∀ w ∈ lw_G, w.before [.ref (a 0), .int x1].toArray s = true := fun w h => atoms_spec (ws := ws_Phrase_exceptsStart) B.pre w (List.mem_cons_of_mem _ h)
  have hown : s.vm.findClass R_Phrase = some m.cls := findClass_of_methodNamed B.named
  have hlocks := B.notSynchronized
  have hfix : CallFix p m c b_Phrase_exceptsStart 2 s [.ref (a 0), .int x1].toArray lw_G R_Phrase := ⟨hx, hb, hml, hown, hts⟩
  have hl := lv_entry ([.ref (a 0), .int x1]) (n := 2) (Nat.le_of_ble_eq_true rfl)
  rw [lg_entry_eq]
  generalize (lg_sl ([.ref (a 0), .int x1]) ++ List.replicate (2 - (lg_sl ([.ref (a 0), .int x1])).length) Slot.unset).toArray = ls at hl ⊢
  have hl : lv_has ls 2 [(0, .ref (a 0)), (1, .int x1)] := hl
  refine lv_aload_n hx hb d_Phrase_exceptsStart_0 rfl (lv_at hl 0 rfl) ?_
  refine lv_iload_n hx hb d_Phrase_exceptsStart_1 rfl (lv_at hl 1 rfl) ?_
  refine nc_ro (va_runV (As := [.int x1]) (rest := []) hfix (c_Phrase_isPart l dC dI cA a P x1) (k_Phrase_54 hts hN ⟨Nat.le_of_ble_eq_true rfl, Nat.le_of_ble_eq_true rfl⟩) (nc_preV hK hN hP hD rfl rfl) rfl rfl hl.1 rfl (lv_room (Nat.le_of_ble_eq_true rfl)) d_Phrase_exceptsStart_2 ⟨Nat.zero_le _, Nat.zero_le _⟩) (fun r er => ?_)
  obtain ⟨rfl, hz_115⟩ := er
  refine lv_if_eq (tgt := 17) hx hb d_Phrase_exceptsStart_5 (by decide) (fun c_116 => ?_) (fun c_116 => ?_)
  · refine lv_iconst (v := 0) hx hb d_Phrase_exceptsStart_17 (by decide) ?_
    exact W.iret (v := 0) hx hb hr (fun t ht hW => ⟨0, rfl, by rw [f_Phrase_exceptsStart, if_pos c_116], ht⟩) (fun _ h => nomatch h) d_Phrase_exceptsStart_18
  · refine lv_aload_n hx hb d_Phrase_exceptsStart_8 rfl (lv_at hl 0 rfl) ?_
    refine va_get (D := (dC, dI)) (ci := 2) (v := .ref (a 3)) (C := R_Phrase) (T := F_Phrase) (N := 11) hx hb hts i_Phrase hown hK hP 0 rfl rfl 2 (by decide) (hts _ m_f_Phrase_18) (fun _ h9 => h9) rfl d_Phrase_exceptsStart_9 ?_
    refine lv_iload_n hx hb d_Phrase_exceptsStart_12 rfl (lv_at hl 1 rfl) ?_
    refine va_iald (f := (P 2)) hx hb hK hP 3 0 rfl rfl (by have q0 := isPart_pos c_116; exact vp_in_iff.mpr ⟨by omega, by omega⟩) d_Phrase_exceptsStart_13 ?_
    refine lv_goto (tgt := 18) hx hb d_Phrase_exceptsStart_14 (by decide) ?_
    exact W.iret (v := ((P 2) x1.toNatClampNeg)) hx hb hr (fun t ht hW => ⟨((P 2) x1.toNatClampNeg), rfl, by rw [f_Phrase_exceptsStart, if_neg c_116], ht⟩) (fun _ h => nomatch h) d_Phrase_exceptsStart_18
def f_Phrase_exceptsEnd (P : Nat → Nat → Int32) (x1 : Int32) : Int32 := (if (f_Phrase_isPart P x1) = 0 then 0 else ((P 3) x1.toNatClampNeg))
abbrev ws_Phrase_exceptsEnd : List Cond := .code y_Phrase_exceptsEnd b_Phrase_exceptsEnd 2 (some .int) :: lw_G
abbrev rm_Phrase_exceptsEnd : Room := { frames := 1, cells := 0, slots := 0, locals := 21 }
set_option maxHeartbeats 4000000 in
set_option maxRecDepth 100000 in
theorem c_Phrase_exceptsEnd (l : Launch) (dC : Nat → ClassId) (dI : Nat → Nat → Nat) (cA : ClassId) (a : Nat → Nat) (P : Nat → Nat → Int32) (x1 : Int32) : Met l y_Phrase_exceptsEnd ws_Phrase_exceptsEnd rm_Phrase_exceptsEnd (nc_Pre (dC, dI) cA [.ref (a 0), .int x1] (w_Phrase cA a P)) (vp_Si (fun r => r = (f_Phrase_exceptsEnd P x1))) 0 0 (fun _ => False) := by
  refine Met.ofW (cc := b_Phrase_exceptsEnd) (maxL := 2) (ret := (some .int)) (by decide) rfl ?_
  intro p e s m args below meth c s₁ B hml hv
  obtain ⟨rfl, hP, hK, hD, hN⟩ := hv
  have hx := B.exec
  have hb := B.bytes
  have hr := B.returns
  have hts : ∀ w ∈ lw_G, w.before [.ref (a 0), .int x1].toArray s = true := fun w h => atoms_spec (ws := ws_Phrase_exceptsEnd) B.pre w (List.mem_cons_of_mem _ h)
  have hown : s.vm.findClass R_Phrase = some m.cls := findClass_of_methodNamed B.named
  have hlocks := B.notSynchronized
  have hfix : CallFix p m c b_Phrase_exceptsEnd 2 s [.ref (a 0), .int x1].toArray lw_G R_Phrase := ⟨hx, hb, hml, hown, hts⟩
  have hl := lv_entry ([.ref (a 0), .int x1]) (n := 2) (Nat.le_of_ble_eq_true rfl)
  rw [lg_entry_eq]
  generalize (lg_sl ([.ref (a 0), .int x1]) ++ List.replicate (2 - (lg_sl ([.ref (a 0), .int x1])).length) Slot.unset).toArray = ls at hl ⊢
  have hl : lv_has ls 2 [(0, .ref (a 0)), (1, .int x1)] := hl
  refine lv_aload_n hx hb d_Phrase_exceptsEnd_0 rfl (lv_at hl 0 rfl) ?_
  refine lv_iload_n hx hb d_Phrase_exceptsEnd_1 rfl (lv_at hl 1 rfl) ?_
  refine nc_ro (va_runV (As := [.int x1]) (rest := []) hfix (c_Phrase_isPart l dC dI cA a P x1) (k_Phrase_54 hts hN ⟨Nat.le_of_ble_eq_true rfl, Nat.le_of_ble_eq_true rfl⟩) (nc_preV hK hN hP hD rfl rfl) rfl rfl hl.1 rfl (lv_room (Nat.le_of_ble_eq_true rfl)) d_Phrase_exceptsEnd_2 ⟨Nat.zero_le _, Nat.zero_le _⟩) (fun r er => ?_)
  obtain ⟨rfl, hz_117⟩ := er
  refine lv_if_eq (tgt := 17) hx hb d_Phrase_exceptsEnd_5 (by decide) (fun c_118 => ?_) (fun c_118 => ?_)
  · refine lv_iconst (v := 0) hx hb d_Phrase_exceptsEnd_17 (by decide) ?_
    exact W.iret (v := 0) hx hb hr (fun t ht hW => ⟨0, rfl, by rw [f_Phrase_exceptsEnd, if_pos c_118], ht⟩) (fun _ h => nomatch h) d_Phrase_exceptsEnd_18
  · refine lv_aload_n hx hb d_Phrase_exceptsEnd_8 rfl (lv_at hl 0 rfl) ?_
    refine va_get (D := (dC, dI)) (ci := 2) (v := .ref (a 4)) (C := R_Phrase) (T := F_Phrase) (N := 11) hx hb hts i_Phrase hown hK hP 0 rfl rfl 3 (by decide) (hts _ m_f_Phrase_21) (fun _ h9 => h9) rfl d_Phrase_exceptsEnd_9 ?_
    refine lv_iload_n hx hb d_Phrase_exceptsEnd_12 rfl (lv_at hl 1 rfl) ?_
    refine va_iald (f := (P 3)) hx hb hK hP 4 0 rfl rfl (by have q0 := isPart_pos c_118; exact vp_in_iff.mpr ⟨by omega, by omega⟩) d_Phrase_exceptsEnd_13 ?_
    refine lv_goto (tgt := 18) hx hb d_Phrase_exceptsEnd_14 (by decide) ?_
    exact W.iret (v := ((P 3) x1.toNatClampNeg)) hx hb hr (fun t ht hW => ⟨((P 3) x1.toNatClampNeg), rfl, by rw [f_Phrase_exceptsEnd, if_neg c_118], ht⟩) (fun _ h => nomatch h) d_Phrase_exceptsEnd_18
def f_Phrase_leadingOf (P : Nat → Nat → Int32) (x1 : Int32) : Int32 := (if (f_Phrase_isOwn P x1) = 0 then 0 else ((P 6) x1.toNatClampNeg))
abbrev ws_Phrase_leadingOf : List Cond := .code y_Phrase_leadingOf b_Phrase_leadingOf 2 (some .int) :: lw_G
abbrev rm_Phrase_leadingOf : Room := { frames := 1, cells := 0, slots := 0, locals := 21 }
set_option maxHeartbeats 4000000 in
set_option maxRecDepth 100000 in
theorem c_Phrase_leadingOf (l : Launch) (dC : Nat → ClassId) (dI : Nat → Nat → Nat) (cA : ClassId) (a : Nat → Nat) (P : Nat → Nat → Int32) (x1 : Int32) : Met l y_Phrase_leadingOf ws_Phrase_leadingOf rm_Phrase_leadingOf (nc_Pre (dC, dI) cA [.ref (a 0), .int x1] (w_Phrase cA a P)) (vp_Si (fun r => r = (f_Phrase_leadingOf P x1))) 0 0 (fun _ => False) := by
  refine Met.ofW (cc := b_Phrase_leadingOf) (maxL := 2) (ret := (some .int)) (by decide) rfl ?_
  intro p e s m args below meth c s₁ B hml hv
  obtain ⟨rfl, hP, hK, hD, hN⟩ := hv
  have hx := B.exec
  have hb := B.bytes
  have hr := B.returns
  have hts : ∀ w ∈ lw_G, w.before [.ref (a 0), .int x1].toArray s = true := fun w h => atoms_spec (ws := ws_Phrase_leadingOf) B.pre w (List.mem_cons_of_mem _ h)
  have hown : s.vm.findClass R_Phrase = some m.cls := findClass_of_methodNamed B.named
  have hlocks := B.notSynchronized
  have hfix : CallFix p m c b_Phrase_leadingOf 2 s [.ref (a 0), .int x1].toArray lw_G R_Phrase := ⟨hx, hb, hml, hown, hts⟩
  have hl := lv_entry ([.ref (a 0), .int x1]) (n := 2) (Nat.le_of_ble_eq_true rfl)
  rw [lg_entry_eq]
  generalize (lg_sl ([.ref (a 0), .int x1]) ++ List.replicate (2 - (lg_sl ([.ref (a 0), .int x1])).length) Slot.unset).toArray = ls at hl ⊢
  have hl : lv_has ls 2 [(0, .ref (a 0)), (1, .int x1)] := hl
  refine lv_aload_n hx hb d_Phrase_leadingOf_0 rfl (lv_at hl 0 rfl) ?_
  refine lv_iload_n hx hb d_Phrase_leadingOf_1 rfl (lv_at hl 1 rfl) ?_
  refine nc_ro (va_runV (As := [.int x1]) (rest := []) hfix (c_Phrase_isOwn l dC dI cA a P x1) (k_Phrase_57 hts hN ⟨Nat.le_of_ble_eq_true rfl, Nat.le_of_ble_eq_true rfl⟩) (nc_preV hK hN hP hD rfl rfl) rfl rfl hl.1 rfl (lv_room (Nat.le_of_ble_eq_true rfl)) d_Phrase_leadingOf_2 ⟨Nat.zero_le _, Nat.zero_le _⟩) (fun r er => ?_)
  obtain ⟨rfl, hz_119⟩ := er
  refine lv_if_eq (tgt := 17) hx hb d_Phrase_leadingOf_5 (by decide) (fun c_120 => ?_) (fun c_120 => ?_)
  · refine lv_iconst (v := 0) hx hb d_Phrase_leadingOf_17 (by decide) ?_
    exact W.iret (v := 0) hx hb hr (fun t ht hW => ⟨0, rfl, by rw [f_Phrase_leadingOf, if_pos c_120], ht⟩) (fun _ h => nomatch h) d_Phrase_leadingOf_18
  · refine lv_aload_n hx hb d_Phrase_leadingOf_8 rfl (lv_at hl 0 rfl) ?_
    refine va_get (D := (dC, dI)) (ci := 2) (v := .ref (a 6)) (C := R_Phrase) (T := F_Phrase) (N := 11) hx hb hts i_Phrase hown hK hP 0 rfl rfl 6 (by decide) (hts _ m_f_Phrase_31) (fun _ h9 => h9) rfl d_Phrase_leadingOf_9 ?_
    refine lv_iload_n hx hb d_Phrase_leadingOf_12 rfl (lv_at hl 1 rfl) ?_
    refine va_iald (f := (P 6)) hx hb hK hP 6 0 rfl rfl (by have q0 := isOwn_pos c_120; exact vp_in_iff.mpr ⟨by omega, by omega⟩) d_Phrase_leadingOf_13 ?_
    refine lv_goto (tgt := 18) hx hb d_Phrase_leadingOf_14 (by decide) ?_
    exact W.iret (v := ((P 6) x1.toNatClampNeg)) hx hb hr (fun t ht hW => ⟨((P 6) x1.toNatClampNeg), rfl, by rw [f_Phrase_leadingOf, if_neg c_120], ht⟩) (fun _ h => nomatch h) d_Phrase_leadingOf_18
def f_Phrase_lastOf (P : Nat → Nat → Int32) (x1 : Int32) : Int32 := (if (f_Phrase_isOwn P x1) = 0 then (-1) else ((P 7) x1.toNatClampNeg))
abbrev ws_Phrase_lastOf : List Cond := .code y_Phrase_lastOf b_Phrase_lastOf 2 (some .int) :: lw_G
abbrev rm_Phrase_lastOf : Room := { frames := 1, cells := 0, slots := 0, locals := 21 }
set_option maxHeartbeats 4000000 in
set_option maxRecDepth 100000 in
theorem c_Phrase_lastOf (l : Launch) (dC : Nat → ClassId) (dI : Nat → Nat → Nat) (cA : ClassId) (a : Nat → Nat) (P : Nat → Nat → Int32) (x1 : Int32) : Met l y_Phrase_lastOf ws_Phrase_lastOf rm_Phrase_lastOf (nc_Pre (dC, dI) cA [.ref (a 0), .int x1] (w_Phrase cA a P)) (vp_Si (fun r => r = (f_Phrase_lastOf P x1))) 0 0 (fun _ => False) := by
  refine Met.ofW (cc := b_Phrase_lastOf) (maxL := 2) (ret := (some .int)) (by decide) rfl ?_
  intro p e s m args below meth c s₁ B hml hv
  obtain ⟨rfl, hP, hK, hD, hN⟩ := hv
  have hx := B.exec
  have hb := B.bytes
  have hr := B.returns
  have hts : ∀ w ∈ lw_G, w.before [.ref (a 0), .int x1].toArray s = true := fun w h => atoms_spec (ws := ws_Phrase_lastOf) B.pre w (List.mem_cons_of_mem _ h)
  have hown : s.vm.findClass R_Phrase = some m.cls := findClass_of_methodNamed B.named
  have hlocks := B.notSynchronized
  have hfix : CallFix p m c b_Phrase_lastOf 2 s [.ref (a 0), .int x1].toArray lw_G R_Phrase := ⟨hx, hb, hml, hown, hts⟩
  have hl := lv_entry ([.ref (a 0), .int x1]) (n := 2) (Nat.le_of_ble_eq_true rfl)
  rw [lg_entry_eq]
  generalize (lg_sl ([.ref (a 0), .int x1]) ++ List.replicate (2 - (lg_sl ([.ref (a 0), .int x1])).length) Slot.unset).toArray = ls at hl ⊢
  have hl : lv_has ls 2 [(0, .ref (a 0)), (1, .int x1)] := hl
  refine lv_aload_n hx hb d_Phrase_lastOf_0 rfl (lv_at hl 0 rfl) ?_
  refine lv_iload_n hx hb d_Phrase_lastOf_1 rfl (lv_at hl 1 rfl) ?_
  refine nc_ro (va_runV (As := [.int x1]) (rest := []) hfix (c_Phrase_isOwn l dC dI cA a P x1) (k_Phrase_57 hts hN ⟨Nat.le_of_ble_eq_true rfl, Nat.le_of_ble_eq_true rfl⟩) (nc_preV hK hN hP hD rfl rfl) rfl rfl hl.1 rfl (lv_room (Nat.le_of_ble_eq_true rfl)) d_Phrase_lastOf_2 ⟨Nat.zero_le _, Nat.zero_le _⟩) (fun r er => ?_)
  obtain ⟨rfl, hz_121⟩ := er
  refine lv_if_eq (tgt := 17) hx hb d_Phrase_lastOf_5 (by decide) (fun c_122 => ?_) (fun c_122 => ?_)
  · refine lv_iconst (v := (-1)) hx hb d_Phrase_lastOf_17 (by decide) ?_
    exact W.iret (v := (-1)) hx hb hr (fun t ht hW => ⟨(-1), rfl, by rw [f_Phrase_lastOf, if_pos c_122], ht⟩) (fun _ h => nomatch h) d_Phrase_lastOf_18
  · refine lv_aload_n hx hb d_Phrase_lastOf_8 rfl (lv_at hl 0 rfl) ?_
    refine va_get (D := (dC, dI)) (ci := 2) (v := .ref (a 7)) (C := R_Phrase) (T := F_Phrase) (N := 11) hx hb hts i_Phrase hown hK hP 0 rfl rfl 7 (by decide) (hts _ m_f_Phrase_34) (fun _ h9 => h9) rfl d_Phrase_lastOf_9 ?_
    refine lv_iload_n hx hb d_Phrase_lastOf_12 rfl (lv_at hl 1 rfl) ?_
    refine va_iald (f := (P 7)) hx hb hK hP 7 0 rfl rfl (by have q0 := isOwn_pos c_122; exact vp_in_iff.mpr ⟨by omega, by omega⟩) d_Phrase_lastOf_13 ?_
    refine lv_goto (tgt := 18) hx hb d_Phrase_lastOf_14 (by decide) ?_
    exact W.iret (v := ((P 7) x1.toNatClampNeg)) hx hb hr (fun t ht hW => ⟨((P 7) x1.toNatClampNeg), rfl, by rw [f_Phrase_lastOf, if_neg c_122], ht⟩) (fun _ h => nomatch h) d_Phrase_lastOf_18
def f_Phrase_tells (P : Nat → Nat → Int32) (x1 x2 : Int32) : Int32 := (if (f_Phrase_isOwn P x1) = 0 then 0 else (if (((P 5) x1.toNatClampNeg) &&& ((1 : Int32) <<< ((x2 - 30) &&& 31))) = 0 then 0 else 1))
abbrev ws_Phrase_tells : List Cond := .code y_Phrase_tells b_Phrase_tells 3 (some .boolean) :: lw_G
abbrev rm_Phrase_tells : Room := { frames := 1, cells := 0, slots := 0, locals := 21 }
set_option maxHeartbeats 4000000 in
set_option maxRecDepth 100000 in
theorem c_Phrase_tells (l : Launch) (dC : Nat → ClassId) (dI : Nat → Nat → Nat) (cA : ClassId) (a : Nat → Nat) (P : Nat → Nat → Int32) (x1 x2 : Int32) : Met l y_Phrase_tells ws_Phrase_tells rm_Phrase_tells (nc_Pre (dC, dI) cA [.ref (a 0), .int x1, .int x2] (w_Phrase cA a P)) (vp_Si (fun r => (r = (f_Phrase_tells P x1 x2) ∧ narrow .boolean (.int r) = .int r))) 0 0 (fun _ => False) := by
  refine Met.ofW (cc := b_Phrase_tells) (maxL := 3) (ret := (some .boolean)) (by decide) rfl ?_
  intro p e s m args below meth c s₁ B hml hv
  obtain ⟨rfl, hP, hK, hD, hN⟩ := hv
  have hx := B.exec
  have hb := B.bytes
  have hr := B.returns
  have hts : ∀ w ∈ lw_G, w.before [.ref (a 0), .int x1, .int x2].toArray s = true := fun w h => atoms_spec (ws := ws_Phrase_tells) B.pre w (List.mem_cons_of_mem _ h)
  have hown : s.vm.findClass R_Phrase = some m.cls := findClass_of_methodNamed B.named
  have hlocks := B.notSynchronized
  have hfix : CallFix p m c b_Phrase_tells 3 s [.ref (a 0), .int x1, .int x2].toArray lw_G R_Phrase := ⟨hx, hb, hml, hown, hts⟩
  have hl := lv_entry ([.ref (a 0), .int x1, .int x2]) (n := 3) (Nat.le_of_ble_eq_true rfl)
  rw [lg_entry_eq]
  generalize (lg_sl ([.ref (a 0), .int x1, .int x2]) ++ List.replicate (3 - (lg_sl ([.ref (a 0), .int x1, .int x2])).length) Slot.unset).toArray = ls at hl ⊢
  have hl : lv_has ls 3 [(0, .ref (a 0)), (1, .int x1), (2, .int x2)] := hl
  refine lv_aload_n hx hb d_Phrase_tells_0 rfl (lv_at hl 0 rfl) ?_
  refine lv_iload_n hx hb d_Phrase_tells_1 rfl (lv_at hl 1 rfl) ?_
  refine nc_ro (va_runV (As := [.int x1]) (rest := []) hfix (c_Phrase_isOwn l dC dI cA a P x1) (k_Phrase_57 hts hN ⟨Nat.le_of_ble_eq_true rfl, Nat.le_of_ble_eq_true rfl⟩) (nc_preV hK hN hP hD rfl rfl) rfl rfl hl.1 rfl (lv_room (Nat.le_of_ble_eq_true rfl)) d_Phrase_tells_2 ⟨Nat.zero_le _, Nat.zero_le _⟩) (fun r er => ?_)
  obtain ⟨rfl, hz_123⟩ := er
  refine lv_if_eq (tgt := 28) hx hb d_Phrase_tells_5 (by decide) (fun c_124 => ?_) (fun c_124 => ?_)
  · refine lv_iconst (v := 0) hx hb d_Phrase_tells_28 (by decide) ?_
    exact W.zret (v := 0) hx hb hr rfl (fun t ht hW => ⟨0, rfl, ⟨by rw [f_Phrase_tells, if_pos c_124], rfl⟩, ht⟩) (fun _ h => nomatch h) d_Phrase_tells_29
  · refine lv_aload_n hx hb d_Phrase_tells_8 rfl (lv_at hl 0 rfl) ?_
    refine va_get (D := (dC, dI)) (ci := 2) (v := .ref (a 5)) (C := R_Phrase) (T := F_Phrase) (N := 11) hx hb hts i_Phrase hown hK hP 0 rfl rfl 5 (by decide) (hts _ m_f_Phrase_28) (fun _ h9 => h9) rfl d_Phrase_tells_9 ?_
    refine lv_iload_n hx hb d_Phrase_tells_12 rfl (lv_at hl 1 rfl) ?_
    refine va_iald (f := (P 5)) hx hb hK hP 5 0 rfl rfl (by have q0 := isOwn_pos c_124; exact vp_in_iff.mpr ⟨by omega, by omega⟩) d_Phrase_tells_13 ?_
    refine lv_iconst (v := 1) hx hb d_Phrase_tells_14 (by decide) ?_
    refine lv_iload_n hx hb d_Phrase_tells_15 rfl (lv_at hl 2 rfl) ?_
    refine lv_bipush (v := 30) hx hb d_Phrase_tells_16 (by decide) ?_
    refine lv_isub hx hb d_Phrase_tells_18 ?_
    refine lv_ishl hx hb d_Phrase_tells_19 ?_
    refine lv_iand hx hb d_Phrase_tells_20 ?_
    refine lv_if_eq (tgt := 28) hx hb d_Phrase_tells_21 (by decide) (fun c_125 => ?_) (fun c_125 => ?_)
    · refine lv_iconst (v := 0) hx hb d_Phrase_tells_28 (by decide) ?_
      exact W.zret (v := 0) hx hb hr rfl (fun t ht hW => ⟨0, rfl, ⟨by rw [f_Phrase_tells, if_neg c_124, if_pos c_125], rfl⟩, ht⟩) (fun _ h => nomatch h) d_Phrase_tells_29
    · refine lv_iconst (v := 1) hx hb d_Phrase_tells_24 (by decide) ?_
      refine lv_goto (tgt := 29) hx hb d_Phrase_tells_25 (by decide) ?_
      exact W.zret (v := 1) hx hb hr rfl (fun t ht hW => ⟨1, rfl, ⟨by rw [f_Phrase_tells, if_neg c_124, if_neg c_125], rfl⟩, ht⟩) (fun _ h => nomatch h) d_Phrase_tells_29
def f_Phrase_closePart (P : Nat → Nat → Int32) : Int32 × (Nat → Nat → Int32) := (1, (upf P 9 (fun _ => 0)))
abbrev ws_Phrase_closePart : List Cond := .code y_Phrase_closePart b_Phrase_closePart 1 (some .boolean) :: lw_G
abbrev rm_Phrase_closePart : Room := { frames := 0, cells := 0, slots := 0, locals := 0 }
set_option maxHeartbeats 4000000 in
set_option maxRecDepth 100000 in
theorem c_Phrase_closePart (l : Launch) (dC : Nat → ClassId) (dI : Nat → Nat → Nat) (cA : ClassId) (sz : Nat) (a : Nat → Nat) (P : Nat → Nat → Int32) : Met l y_Phrase_closePart ws_Phrase_closePart rm_Phrase_closePart (nc_PreM (dC, dI) cA sz [.ref (a 0)] (w_Phrase cA a P)) (va_Qi (fun r (_ : Unit) => (r = (f_Phrase_closePart P).1 ∧ narrow .boolean (.int r) = .int r)) (fun _ t => va_P (dC, dI) classes (w_Phrase cA a (f_Phrase_closePart P).2) t.heap ∧ va_D (va_A (w_Phrase cA a P) sz) (w_Phrase cA a (f_Phrase_closePart P).2)) (va_A (w_Phrase cA a P) sz)) 0 0 (va_A (w_Phrase cA a P) sz) := by
  refine Met.ofW (cc := b_Phrase_closePart) (maxL := 1) (ret := (some .boolean)) (by decide) rfl ?_
  intro p e s m args below meth c s₁ B hml hv
  obtain ⟨rfl, hsz, hP, hK, hD0, hN⟩ := hv
  have hx := B.exec
  have hb := B.bytes
  have hr := B.returns
  have hts : ∀ w ∈ lw_G, w.before [.ref (a 0)].toArray s = true := fun w h => atoms_spec (ws := ws_Phrase_closePart) B.pre w (List.mem_cons_of_mem _ h)
  have hown : s.vm.findClass R_Phrase = some m.cls := findClass_of_methodNamed B.named
  have hlocks := B.notSynchronized
  have hfix : CallFix p m c b_Phrase_closePart 1 s [.ref (a 0)].toArray lw_G R_Phrase := ⟨hx, hb, hml, hown, hts⟩
  subst hsz
  have hD := hD0.self (sz := s.heap.size)
  generalize hAe : va_A (w_Phrase cA a P) s.heap.size = A at hD ⊢
  have hA : ∀ q : Nat, s.heap.size ≤ q → A q := fun q h => by rw [← hAe]; exact Or.inr h
  have hS : va_S A s.heap s.heap [] := va_S.rf
  have hl := lv_entry ([.ref (a 0)]) (n := 1) (Nat.le_of_ble_eq_true rfl)
  rw [lg_entry_eq]
  generalize (lg_sl ([.ref (a 0)]) ++ List.replicate (1 - (lg_sl ([.ref (a 0)])).length) Slot.unset).toArray = ls at hl ⊢
  have hl : lv_has ls 1 [(0, .ref (a 0))] := hl
  refine lv_aload_n hx hb d_Phrase_closePart_0 rfl (lv_at hl 0 rfl) ?_
  refine lv_iconst (v := 0) hx hb d_Phrase_closePart_1 (by decide) ?_
  refine va_put (D := (dC, dI)) (ci := 2) (v := .int 0) (ty := .int) (C := R_Phrase) (T := F_Phrase) (N := 11) hx hb hts i_Phrase t_Phrase t_Phrase_ok n_Phrase hown hK hP hD hS 0 rfl rfl 9 (by decide) (hts _ m_f_Phrase_40) (fun _ h9 => h9) rfl (by decide +kernel) rfl rfl (Nat.le_of_ble_eq_true rfl) d_Phrase_closePart_2 (fun H locs hP hD hS => ?_)
  have hP : va_P (dC, dI) classes (w_Phrase cA a (upf P 9 (fun _ => 0))) H := hP
  have hD : va_D A (w_Phrase cA a (upf P 9 (fun _ => 0))) := hD
  refine lv_iconst (v := 1) hx hb d_Phrase_closePart_5 (by decide) ?_
  have hF : (f_Phrase_closePart P) = (1, (upf P 9 (fun _ => 0))) := by rw [f_Phrase_closePart]
  exact W.zret (v := 1) hx hb hr rfl (fun t ht hW => ⟨⟨1, (), rfl, ⟨by rw [hF], rfl⟩, by rw [hF, ht]; exact hP, by rw [hF]; exact hD⟩, hS.F ht⟩) hS.2.2 d_Phrase_closePart_6
theorem ok_closePart {P : Nat → Nat → Int32} (h : ph_ok P) : ph_ok (f_Phrase_closePart P).2 := h
