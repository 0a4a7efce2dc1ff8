def bc1 (x : Int32) : Int32 := x - (nc_ushr x 1 &&& 1431655765)
def bc2 (x : Int32) : Int32 := (x &&& 858993459) + (nc_ushr x 2 &&& 858993459)
def bc3 (x : Int32) : Int32 := (x + nc_ushr x 4) &&& 252645135
def bc4 (x : Int32) : Int32 := x + nc_ushr x 8
def bc5 (x : Int32) : Int32 := x + nc_ushr x 16
def f_bitCount (x : Int32) : Int32 := ((bc5 (bc4 (bc3 (bc2 (bc1 x))))) &&& 63)
abbrev ws_bitCount : List Cond := .code y_Integer_bitCount b_Integer_bitCount 1 (some .int) :: lw_G
abbrev rm_bitCount : Room := { frames := 0, cells := 0, slots := 0, locals := 0 }
set_option maxHeartbeats 4000000 in
set_option maxRecDepth 100000 in
theorem c_bitCount (l : Launch) (dC : Nat → ClassId) (dI : Nat → Nat → Nat) (cA : ClassId) (x : Int32) : Met l y_Integer_bitCount ws_bitCount rm_bitCount (nc_Pre (dC, dI) cA [.int x] ([] : va_W)) (vp_Si (fun r => r = (f_bitCount x))) 0 0 (fun _ => False) := by
  refine Met.ofW (cc := b_Integer_bitCount) (maxL := 1) (ret := (some .int)) (by decide) rfl ?_
  intro p e s m args below meth c s₁ B hml hv
  obtain ⟨rfl, hP, hK, hD, hN⟩ := hv
  have hx := B.exec
  have hb := B.bytes
  have hr := B.returns
  have hts : ∀ w ∈ lw_G, w.before [.int x].toArray s = true := fun w h => atoms_spec (ws := ws_bitCount) B.pre w (List.mem_cons_of_mem _ h)
  have hown : s.vm.findClass R_Integer = some m.cls := findClass_of_methodNamed B.named
  have hlocks := B.notSynchronized
  have hfix : CallFix p m c b_Integer_bitCount 1 s [.int x].toArray lw_G R_Integer := ⟨hx, hb, hml, hown, hts⟩
  have hl := lv_entry ([.int x]) (n := 1) (Nat.le_of_ble_eq_true rfl)
  rw [lg_entry_eq]
  generalize (lg_sl ([.int x]) ++ List.replicate (1 - (lg_sl ([.int x])).length) Slot.unset).toArray = ls at hl ⊢
  have hl : lv_has ls 1 [(0, .int x)] := hl
  refine lv_iload_n hx hb d_Integer_bitCount_0 rfl (lv_at hl 0 rfl) ?_
  refine lv_iload_n hx hb d_Integer_bitCount_1 rfl (lv_at hl 0 rfl) ?_
  refine lv_iconst (v := 1) hx hb d_Integer_bitCount_2 (by decide) ?_
  refine lv_iushr (v := (nc_ushr x 1)) hx hb d_Integer_bitCount_3 rfl ?_
  refine lv_ldcw (v := 1431655765) hx hb hown (hts _ m_c_Integer_265) d_Integer_bitCount_4 ?_
  refine lv_iand hx hb d_Integer_bitCount_7 ?_
  refine lv_isub hx hb d_Integer_bitCount_8 ?_
  refine lv_istore_n (lv' := [(0, .int (bc1 x))]) hx hb d_Integer_bitCount_9 rfl hl (by decide) rfl (fun ls hl => ?_)
  refine lv_iload_n hx hb d_Integer_bitCount_10 rfl (lv_at hl 0 rfl) ?_
  refine lv_ldcw (v := 858993459) hx hb hown (hts _ m_c_Integer_266) d_Integer_bitCount_11 ?_
  refine lv_iand hx hb d_Integer_bitCount_14 ?_
  refine lv_iload_n hx hb d_Integer_bitCount_15 rfl (lv_at hl 0 rfl) ?_
  refine lv_iconst (v := 2) hx hb d_Integer_bitCount_16 (by decide) ?_
  refine lv_iushr (v := (nc_ushr (bc1 x) 2)) hx hb d_Integer_bitCount_17 rfl ?_
  refine lv_ldcw (v := 858993459) hx hb hown (hts _ m_c_Integer_266) d_Integer_bitCount_18 ?_
  refine lv_iand hx hb d_Integer_bitCount_21 ?_
  refine lv_iadd hx hb d_Integer_bitCount_22 ?_
  refine lv_istore_n (lv' := [(0, .int (bc2 (bc1 x)))]) hx hb d_Integer_bitCount_23 rfl hl (by decide) rfl (fun ls hl => ?_)
  refine lv_iload_n hx hb d_Integer_bitCount_24 rfl (lv_at hl 0 rfl) ?_
  refine lv_iload_n hx hb d_Integer_bitCount_25 rfl (lv_at hl 0 rfl) ?_
  refine lv_iconst (v := 4) hx hb d_Integer_bitCount_26 (by decide) ?_
  refine lv_iushr (v := (nc_ushr (bc2 (bc1 x)) 4)) hx hb d_Integer_bitCount_27 rfl ?_
  refine lv_iadd hx hb d_Integer_bitCount_28 ?_
  refine lv_ldcw (v := 252645135) hx hb hown (hts _ m_c_Integer_267) d_Integer_bitCount_29 ?_
  refine lv_iand hx hb d_Integer_bitCount_32 ?_
  refine lv_istore_n (lv' := [(0, .int (bc3 (bc2 (bc1 x))))]) hx hb d_Integer_bitCount_33 rfl hl (by decide) rfl (fun ls hl => ?_)
  refine lv_iload_n hx hb d_Integer_bitCount_34 rfl (lv_at hl 0 rfl) ?_
  refine lv_iload_n hx hb d_Integer_bitCount_35 rfl (lv_at hl 0 rfl) ?_
  refine lv_bipush (v := 8) hx hb d_Integer_bitCount_36 (by decide) ?_
  refine lv_iushr (v := (nc_ushr (bc3 (bc2 (bc1 x))) 8)) hx hb d_Integer_bitCount_38 rfl ?_
  refine lv_iadd hx hb d_Integer_bitCount_39 ?_
  refine lv_istore_n (lv' := [(0, .int (bc4 (bc3 (bc2 (bc1 x)))))]) hx hb d_Integer_bitCount_40 rfl hl (by decide) rfl (fun ls hl => ?_)
  refine lv_iload_n hx hb d_Integer_bitCount_41 rfl (lv_at hl 0 rfl) ?_
  refine lv_iload_n hx hb d_Integer_bitCount_42 rfl (lv_at hl 0 rfl) ?_
  refine lv_bipush (v := 16) hx hb d_Integer_bitCount_43 (by decide) ?_
  refine lv_iushr (v := (nc_ushr (bc4 (bc3 (bc2 (bc1 x)))) 16)) hx hb d_Integer_bitCount_45 rfl ?_
  refine lv_iadd hx hb d_Integer_bitCount_46 ?_
  refine lv_istore_n (lv' := [(0, .int (bc5 (bc4 (bc3 (bc2 (bc1 x))))))]) hx hb d_Integer_bitCount_47 rfl hl (by decide) rfl (fun ls hl => ?_)
  refine lv_iload_n hx hb d_Integer_bitCount_48 rfl (lv_at hl 0 rfl) ?_
  refine lv_bipush (v := 63) hx hb d_Integer_bitCount_49 (by decide) ?_
  refine lv_iand hx hb d_Integer_bitCount_51 ?_
  exact W.iret (v := ((bc5 (bc4 (bc3 (bc2 (bc1 x))))) &&& 63)) hx hb hr (fun t ht hW => ⟨((bc5 (bc4 (bc3 (bc2 (bc1 x))))) &&& 63), rfl, by rw [f_bitCount], ht⟩) (fun _ h => nomatch h) d_Integer_bitCount_52
def f_fill_L5 (nn : Nat) (x1 : Int32) (y3 : Int32) : Nat → (Nat → Int32) → Int32 → (Nat → Int32)
  | 0, f, z2 => f
  | n + 1, f, z2 => (if y3 ≤ z2 then f else (f_fill_L5 nn x1 y3 n (upd f (z2 : Int32).toNatClampNeg x1) (z2 + 1)))
def f_fill (nn : Nat) (f : Nat → Int32) (x1 : Int32) : (Nat → Int32) := (f_fill_L5 nn x1 (nI nn) (nc_mu (nI nn) 0 + 1) f 0)
abbrev ws_fill : List Cond := .code y_Arrays_fill b_Arrays_fill 4 none :: lw_G
abbrev rm_fill : Room := { frames := 0, cells := 0, slots := 0, locals := 0 }
set_option maxHeartbeats 4000000 in
set_option maxRecDepth 100000 in
theorem c_fill (l : Launch) (dC : Nat → ClassId) (dI : Nat → Nat → Nat) (cA : ClassId) (sz : Nat) (r0 : Nat) (nn : Nat) (f : Nat → Int32) (x1 : Int32) (hn : nn < 2 ^ 31) : Met l y_Arrays_fill ws_fill rm_fill (nc_PreM (dC, dI) cA sz [.ref r0, .int x1] [(r0, .inl (cA, nn, .inl f))]) (va_Qv (fun _ : Unit => True) (fun _ t => va_P (dC, dI) classes [(r0, .inl (cA, nn, .inl (f_fill nn f x1)))] t.heap ∧ va_D (va_A [(r0, .inl (cA, nn, .inl f))] sz) [(r0, .inl (cA, nn, .inl (f_fill nn f x1)))]) (va_A [(r0, .inl (cA, nn, .inl f))] sz)) 0 0 (va_A [(r0, .inl (cA, nn, .inl f))] sz) := by
  refine Met.ofW (cc := b_Arrays_fill) (maxL := 4) (ret := none) (by decide) rfl ?_
  intro p e s m args below meth c s₁ B hml hv
  obtain ⟨rfl, hsz, hP, hK, hD0, hN⟩ := hv
  have hx := B.exec
  have hb := B.bytes
  have hr := B.returns
  have hts : ∀ w ∈ lw_G, w.before [.ref r0, .int x1].toArray s = true := fun w h => atoms_spec (ws := ws_fill) B.pre w (List.mem_cons_of_mem _ h)
  have hown : s.vm.findClass R_Arrays = some m.cls := findClass_of_methodNamed B.named
  have hlocks := B.notSynchronized
  have hfix : CallFix p m c b_Arrays_fill 4 s [.ref r0, .int x1].toArray lw_G R_Arrays := ⟨hx, hb, hml, hown, hts⟩
  subst hsz
  have hD := hD0.self (sz := s.heap.size)
  generalize hAe : va_A [(r0, .inl (cA, nn, .inl f))] s.heap.size = A at hD ⊢
  have hA : ∀ q : Nat, s.heap.size ≤ q → A q := fun q h => by rw [← hAe]; exact Or.inr h
  have hS : va_S A s.heap s.heap [] := va_S.rf
  have hl := lv_entry ([.ref r0, .int x1]) (n := 4) (Nat.le_of_ble_eq_true rfl)
  rw [lg_entry_eq]
  generalize (lg_sl ([.ref r0, .int x1]) ++ List.replicate (4 - (lg_sl ([.ref r0, .int x1])).length) Slot.unset).toArray = ls at hl ⊢
  have hl : lv_has ls 4 [(0, .ref r0), (1, .int x1)] := hl
  refine lv_iconst (v := 0) hx hb d_Arrays_fill_0 (by decide) ?_
  refine lv_istore_n (lv' := [(2, .int 0), (0, .ref r0), (1, .int x1)]) hx hb d_Arrays_fill_1 rfl hl (by decide) rfl (fun ls hl => ?_)
  refine lv_aload_n hx hb d_Arrays_fill_2 rfl (lv_at hl 1 rfl) ?_
  refine va_alen (v := (nI nn)) hx hb hK hP 0 0 rfl rfl rfl d_Arrays_fill_3 ?_
  refine lv_istore_n (lv' := [(3, .int (nI nn)), (2, .int 0), (0, .ref r0), (1, .int x1)]) hx hb d_Arrays_fill_4 rfl hl (by decide) rfl (fun ls hl => ?_)
  have loop_5 : ∀ (n : Nat) (fq : (Nat → Int32)) (z2 : Int32) (H : Heap) (locs : List Loc) (ls : Array Slot), (f_fill nn f x1) = (f_fill_L5 nn x1 (nI nn) n fq z2) → nc_mu (nI nn) z2 < n → 0 ≤ z2.toInt → va_P (dC, dI) classes [(r0, .inl (cA, nn, .inl fq))] H → va_D A [(r0, .inl (cA, nn, .inl fq))] → va_S A s.heap H locs → lv_has ls 4 [(0, .ref r0), (1, .int x1), (3, .int (nI nn)), (2, .int z2)] → W p l e (headSpec ws_fill rm_fill).room s m [.ref r0, .int x1].toArray below meth c H locs 0 0 (MQ below (va_Qv (fun _ : Unit => True) (fun _ t => va_P (dC, dI) classes [(r0, .inl (cA, nn, .inl (f_fill nn f x1)))] t.heap ∧ va_D A [(r0, .inl (cA, nn, .inl (f_fill nn f x1)))]) A) [.ref r0, .int x1].toArray s 0 0 A) (F0 m 5 ls []) := by
    intro n
    induction n with
    | zero =>
      intro fq z2 H locs ls hE hm h0 hP hD hS hl
      exact absurd hm (Nat.not_lt_zero _)
    | succ n ih =>
      intro fq z2 H locs ls hE hm h0 hP hD hS hl
      refine lv_iload_n hx hb d_Arrays_fill_5 rfl (lv_at hl 3 rfl) ?_
      refine lv_iload_n hx hb d_Arrays_fill_6 rfl (lv_at hl 2 rfl) ?_
      refine lv_icmp_ge (tgt := 20) hx hb d_Arrays_fill_7 (by decide) (fun c_1 => ?_) (fun c_1 => ?_)
      · have hF : (f_fill nn f x1) = fq := by rw [hE, f_fill_L5, if_pos c_1]
        exact W.vret hx hb hr (fun t ht hW => ⟨⟨(), rfl, trivial, by rw [hF, ht]; exact hP, by rw [hF]; exact hD⟩, hS.F ht⟩) hS.2.2 d_Arrays_fill_20
      · refine lv_aload_n hx hb d_Arrays_fill_10 rfl (lv_at hl 0 rfl) ?_
        refine lv_iload_n hx hb d_Arrays_fill_11 rfl (lv_at hl 3 rfl) ?_
        refine lv_iload_n hx hb d_Arrays_fill_12 rfl (lv_at hl 1 rfl) ?_
        refine va_iast (f := fq) hx hb hK hP hD hS 0 0 rfl rfl (by have q0 := nI_toInt hn; have q1 := h0; have q2 := nc_nle c_1 rfl rfl; have q3 := h0; exact vp_in_iff.mpr ⟨by omega, by omega⟩) d_Arrays_fill_13 (fun H locs hP hD hS => ?_)
        have hP : va_P (dC, dI) classes [(r0, .inl (cA, nn, .inl (upd fq (z2 : Int32).toNatClampNeg x1)))] H := hP
        have hD : va_D A [(r0, .inl (cA, nn, .inl (upd fq (z2 : Int32).toNatClampNeg x1)))] := hD
        refine lv_iinc (v := (z2 + 1)) (lv' := [(2, .int (z2 + 1)), (0, .ref r0), (1, .int x1), (3, .int (nI nn))]) hx hb d_Arrays_fill_14 hl (k := 3) rfl rfl (by decide) rfl (fun ls hl => ?_)
        refine lv_goto (tgt := 5) hx hb d_Arrays_fill_17 (by decide) ?_
        exact ih (upd fq (z2 : Int32).toNatClampNeg x1) (z2 + 1) H locs ls (by rw [hE, f_fill_L5, if_neg c_1]) (nc_mu_step c_1 hm) (nc_i_step c_1 h0) hP hD hS (lv_sub hl [1, 2, 3, 0] rfl)
  exact loop_5 (nc_mu (nI nn) 0 + 1) f 0 s.heap [] ls (by rw [f_fill]) (Nat.lt_succ_self _) (by decide) hP hD hS (lv_sub hl [2, 3, 0, 1] rfl)
def f_NC_isWord (x : Int32) : Int32 := (if x < 0 then 0 else (if 30 ≤ x then 0 else 1))
abbrev ws_NC_isWord : List Cond := .code y_NC_isWord b_NC_isWord 1 (some .boolean) :: lw_G
abbrev rm_NC_isWord : Room := { frames := 0, cells := 0, slots := 0, locals := 0 }
set_option maxHeartbeats 4000000 in
set_option maxRecDepth 100000 in
theorem c_NC_isWord (l : Launch) (dC : Nat → ClassId) (dI : Nat → Nat → Nat) (cA : ClassId) (x : Int32) : Met l y_NC_isWord ws_NC_isWord rm_NC_isWord (nc_Pre (dC, dI) cA [.int x] ([] : va_W)) (vp_Si (fun r => (r = (f_NC_isWord x) ∧ narrow .boolean (.int r) = .int r))) 0 0 (fun _ => False) := by
  refine Met.ofW (cc := b_NC_isWord) (maxL := 1) (ret := (some .boolean)) (by decide) rfl ?_
  intro p e s m args below meth c s₁ B hml hv
  obtain ⟨rfl, hP, hK, hD, hN⟩ := hv
  have hx := B.exec
  have hb := B.bytes
  have hr := B.returns
  have hts : ∀ w ∈ lw_G, w.before [.int x].toArray s = true := fun w h => atoms_spec (ws := ws_NC_isWord) B.pre w (List.mem_cons_of_mem _ h)
  have hown : s.vm.findClass R_NC = some m.cls := findClass_of_methodNamed B.named
  have hlocks := B.notSynchronized
  have hfix : CallFix p m c b_NC_isWord 1 s [.int x].toArray lw_G R_NC := ⟨hx, hb, hml, hown, hts⟩
  have hl := lv_entry ([.int x]) (n := 1) (Nat.le_of_ble_eq_true rfl)
  rw [lg_entry_eq]
  generalize (lg_sl ([.int x]) ++ List.replicate (1 - (lg_sl ([.int x])).length) Slot.unset).toArray = ls at hl ⊢
  have hl : lv_has ls 1 [(0, .int x)] := hl
  refine lv_iload_n hx hb d_NC_isWord_0 rfl (lv_at hl 0 rfl) ?_
  refine lv_if_lt (tgt := 14) hx hb d_NC_isWord_1 (by decide) (fun c_2 => ?_) (fun c_2 => ?_)
  · refine lv_iconst (v := 0) hx hb d_NC_isWord_14 (by decide) ?_
    exact W.zret (v := 0) hx hb hr rfl (fun t ht hW => ⟨0, rfl, ⟨by rw [f_NC_isWord, if_pos c_2], rfl⟩, ht⟩) (fun _ h => nomatch h) d_NC_isWord_15
  · refine lv_iload_n hx hb d_NC_isWord_4 rfl (lv_at hl 0 rfl) ?_
    refine lv_bipush (v := 30) hx hb d_NC_isWord_5 (by decide) ?_
    refine lv_icmp_ge (tgt := 14) hx hb d_NC_isWord_7 (by decide) (fun c_3 => ?_) (fun c_3 => ?_)
    · refine lv_iconst (v := 0) hx hb d_NC_isWord_14 (by decide) ?_
      exact W.zret (v := 0) hx hb hr rfl (fun t ht hW => ⟨0, rfl, ⟨by rw [f_NC_isWord, if_neg c_2, if_pos c_3], rfl⟩, ht⟩) (fun _ h => nomatch h) d_NC_isWord_15
    · refine lv_iconst (v := 1) hx hb d_NC_isWord_10 (by decide) ?_
      refine lv_goto (tgt := 15) hx hb d_NC_isWord_11 (by decide) ?_
      exact W.zret (v := 1) hx hb hr rfl (fun t ht hW => ⟨1, rfl, ⟨by rw [f_NC_isWord, if_neg c_2, if_neg c_3], rfl⟩, ht⟩) (fun _ h => nomatch h) d_NC_isWord_15
theorem isWord_pos {x : Int32} (h : ¬ f_NC_isWord x = 0) : 0 ≤ x.toInt ∧ x.toInt < 30 := by
  unfold f_NC_isWord at h
  split at h
  · exact absurd rfl h
  · split at h
    · exact absurd rfl h
    · rename_i h1 h2
      have q1 := nc_nlt h1 rfl L_0
      have q2 := nc_nle h2 L_30 rfl
      exact ⟨q1, q2⟩
def f_NC_isArticle (x : Int32) : Int32 := (if x < 30 then 0 else (if 33 < x then 0 else 1))
abbrev ws_NC_isArticle : List Cond := .code y_NC_isArticle b_NC_isArticle 1 (some .boolean) :: lw_G
abbrev rm_NC_isArticle : Room := { frames := 0, cells := 0, slots := 0, locals := 0 }
set_option maxHeartbeats 4000000 in
set_option maxRecDepth 100000 in
theorem c_NC_isArticle (l : Launch) (dC : Nat → ClassId) (dI : Nat → Nat → Nat) (cA : ClassId) (x : Int32) : Met l y_NC_isArticle ws_NC_isArticle rm_NC_isArticle (nc_Pre (dC, dI) cA [.int x] ([] : va_W)) (vp_Si (fun r => (r = (f_NC_isArticle x) ∧ narrow .boolean (.int r) = .int r))) 0 0 (fun _ => False) := by
  refine Met.ofW (cc := b_NC_isArticle) (maxL := 1) (ret := (some .boolean)) (by decide) rfl ?_
  intro p e s m args below meth c s₁ B hml hv
  obtain ⟨rfl, hP, hK, hD, hN⟩ := hv
  have hx := B.exec
  have hb := B.bytes
  have hr := B.returns
  have hts : ∀ w ∈ lw_G, w.before [.int x].toArray s = true := fun w h => atoms_spec (ws := ws_NC_isArticle) B.pre w (List.mem_cons_of_mem _ h)
  have hown : s.vm.findClass R_NC = some m.cls := findClass_of_methodNamed B.named
  have hlocks := B.notSynchronized
  have hfix : CallFix p m c b_NC_isArticle 1 s [.int x].toArray lw_G R_NC := ⟨hx, hb, hml, hown, hts⟩
  have hl := lv_entry ([.int x]) (n := 1) (Nat.le_of_ble_eq_true rfl)
  rw [lg_entry_eq]
  generalize (lg_sl ([.int x]) ++ List.replicate (1 - (lg_sl ([.int x])).length) Slot.unset).toArray = ls at hl ⊢
  have hl : lv_has ls 1 [(0, .int x)] := hl
  refine lv_iload_n hx hb d_NC_isArticle_0 rfl (lv_at hl 0 rfl) ?_
  refine lv_bipush (v := 30) hx hb d_NC_isArticle_1 (by decide) ?_
  refine lv_icmp_lt (tgt := 16) hx hb d_NC_isArticle_3 (by decide) (fun c_4 => ?_) (fun c_4 => ?_)
  · refine lv_iconst (v := 0) hx hb d_NC_isArticle_16 (by decide) ?_
    exact W.zret (v := 0) hx hb hr rfl (fun t ht hW => ⟨0, rfl, ⟨by rw [f_NC_isArticle, if_pos c_4], rfl⟩, ht⟩) (fun _ h => nomatch h) d_NC_isArticle_17
  · refine lv_iload_n hx hb d_NC_isArticle_6 rfl (lv_at hl 0 rfl) ?_
    refine lv_bipush (v := 33) hx hb d_NC_isArticle_7 (by decide) ?_
    refine lv_icmp_gt (tgt := 16) hx hb d_NC_isArticle_9 (by decide) (fun c_5 => ?_) (fun c_5 => ?_)
    · refine lv_iconst (v := 0) hx hb d_NC_isArticle_16 (by decide) ?_
      exact W.zret (v := 0) hx hb hr rfl (fun t ht hW => ⟨0, rfl, ⟨by rw [f_NC_isArticle, if_neg c_4, if_pos c_5], rfl⟩, ht⟩) (fun _ h => nomatch h) d_NC_isArticle_17
    · refine lv_iconst (v := 1) hx hb d_NC_isArticle_12 (by decide) ?_
      refine lv_goto (tgt := 17) hx hb d_NC_isArticle_13 (by decide) ?_
      exact W.zret (v := 1) hx hb hr rfl (fun t ht hW => ⟨1, rfl, ⟨by rw [f_NC_isArticle, if_neg c_4, if_neg c_5], rfl⟩, ht⟩) (fun _ h => nomatch h) d_NC_isArticle_17
def f_NC_isNumber (x : Int32) : Int32 := (if x ≤ 40 then 0 else (if 60 < x then 0 else 1))
abbrev ws_NC_isNumber : List Cond := .code y_NC_isNumber b_NC_isNumber 1 (some .boolean) :: lw_G
abbrev rm_NC_isNumber : Room := { frames := 0, cells := 0, slots := 0, locals := 0 }
set_option maxHeartbeats 4000000 in
set_option maxRecDepth 100000 in
theorem c_NC_isNumber (l : Launch) (dC : Nat → ClassId) (dI : Nat → Nat → Nat) (cA : ClassId) (x : Int32) : Met l y_NC_isNumber ws_NC_isNumber rm_NC_isNumber (nc_Pre (dC, dI) cA [.int x] ([] : va_W)) (vp_Si (fun r => (r = (f_NC_isNumber x) ∧ narrow .boolean (.int r) = .int r))) 0 0 (fun _ => False) := by
  refine Met.ofW (cc := b_NC_isNumber) (maxL := 1) (ret := (some .boolean)) (by decide) rfl ?_
  intro p e s m args below meth c s₁ B hml hv
  obtain ⟨rfl, hP, hK, hD, hN⟩ := hv
  have hx := B.exec
  have hb := B.bytes
  have hr := B.returns
  have hts : ∀ w ∈ lw_G, w.before [.int x].toArray s = true := fun w h => atoms_spec (ws := ws_NC_isNumber) B.pre w (List.mem_cons_of_mem _ h)
  have hown : s.vm.findClass R_NC = some m.cls := findClass_of_methodNamed B.named
  have hlocks := B.notSynchronized
  have hfix : CallFix p m c b_NC_isNumber 1 s [.int x].toArray lw_G R_NC := ⟨hx, hb, hml, hown, hts⟩
  have hl := lv_entry ([.int x]) (n := 1) (Nat.le_of_ble_eq_true rfl)
  rw [lg_entry_eq]
  generalize (lg_sl ([.int x]) ++ List.replicate (1 - (lg_sl ([.int x])).length) Slot.unset).toArray = ls at hl ⊢
  have hl : lv_has ls 1 [(0, .int x)] := hl
  refine lv_iload_n hx hb d_NC_isNumber_0 rfl (lv_at hl 0 rfl) ?_
  refine lv_bipush (v := 40) hx hb d_NC_isNumber_1 (by decide) ?_
  refine lv_icmp_le (tgt := 16) hx hb d_NC_isNumber_3 (by decide) (fun c_6 => ?_) (fun c_6 => ?_)
  · refine lv_iconst (v := 0) hx hb d_NC_isNumber_16 (by decide) ?_
    exact W.zret (v := 0) hx hb hr rfl (fun t ht hW => ⟨0, rfl, ⟨by rw [f_NC_isNumber, if_pos c_6], rfl⟩, ht⟩) (fun _ h => nomatch h) d_NC_isNumber_17
  · refine lv_iload_n hx hb d_NC_isNumber_6 rfl (lv_at hl 0 rfl) ?_
    refine lv_bipush (v := 60) hx hb d_NC_isNumber_7 (by decide) ?_
    refine lv_icmp_gt (tgt := 16) hx hb d_NC_isNumber_9 (by decide) (fun c_7 => ?_) (fun c_7 => ?_)
    · refine lv_iconst (v := 0) hx hb d_NC_isNumber_16 (by decide) ?_
      exact W.zret (v := 0) hx hb hr rfl (fun t ht hW => ⟨0, rfl, ⟨by rw [f_NC_isNumber, if_neg c_6, if_pos c_7], rfl⟩, ht⟩) (fun _ h => nomatch h) d_NC_isNumber_17
    · refine lv_iconst (v := 1) hx hb d_NC_isNumber_12 (by decide) ?_
      refine lv_goto (tgt := 17) hx hb d_NC_isNumber_13 (by decide) ?_
      exact W.zret (v := 1) hx hb hr rfl (fun t ht hW => ⟨1, rfl, ⟨by rw [f_NC_isNumber, if_neg c_6, if_neg c_7], rfl⟩, ht⟩) (fun _ h => nomatch h) d_NC_isNumber_17
def f_NC_isToken (x : Int32) : Int32 := (if x < 0 then (if (f_NC_isNumber x) = 0 then 0 else 1) else (if x ≤ 37 then 1 else (if (f_NC_isNumber x) = 0 then 0 else 1)))
abbrev ws_NC_isToken : List Cond := .code y_NC_isToken b_NC_isToken 1 (some .boolean) :: lw_G
abbrev rm_NC_isToken : Room := { frames := 1, cells := 0, slots := 0, locals := 20 }
set_option maxHeartbeats 4000000 in
set_option maxRecDepth 100000 in
theorem c_NC_isToken (l : Launch) (dC : Nat → ClassId) (dI : Nat → Nat → Nat) (cA : ClassId) (x : Int32) : Met l y_NC_isToken ws_NC_isToken rm_NC_isToken (nc_Pre (dC, dI) cA [.int x] ([] : va_W)) (vp_Si (fun r => (r = (f_NC_isToken x) ∧ narrow .boolean (.int r) = .int r))) 0 0 (fun _ => False) := by
  refine Met.ofW (cc := b_NC_isToken) (maxL := 1) (ret := (some .boolean)) (by decide) rfl ?_
  intro p e s m args below meth c s₁ B hml hv
  obtain ⟨rfl, hP, hK, hD, hN⟩ := hv
  have hx := B.exec
  have hb := B.bytes
  have hr := B.returns
  have hts : ∀ w ∈ lw_G, w.before [.int x].toArray s = true := fun w h => atoms_spec (ws := ws_NC_isToken) B.pre w (List.mem_cons_of_mem _ h)
  have hown : s.vm.findClass R_NC = some m.cls := findClass_of_methodNamed B.named
  have hlocks := B.notSynchronized
  have hfix : CallFix p m c b_NC_isToken 1 s [.int x].toArray lw_G R_NC := ⟨hx, hb, hml, hown, hts⟩
  have hl := lv_entry ([.int x]) (n := 1) (Nat.le_of_ble_eq_true rfl)
  rw [lg_entry_eq]
  generalize (lg_sl ([.int x]) ++ List.replicate (1 - (lg_sl ([.int x])).length) Slot.unset).toArray = ls at hl ⊢
  have hl : lv_has ls 1 [(0, .int x)] := hl
  refine lv_iload_n hx hb d_NC_isToken_0 rfl (lv_at hl 0 rfl) ?_
  refine lv_if_lt (tgt := 10) hx hb d_NC_isToken_1 (by decide) (fun c_8 => ?_) (fun c_8 => ?_)
  · refine lv_iload_n hx hb d_NC_isToken_10 rfl (lv_at hl 0 rfl) ?_
    refine nc_ro (va_runS (As := [.int x]) (rest := []) hfix (c_NC_isNumber l dC dI cA x) (k_NC_177 hts hN ⟨Nat.le_of_ble_eq_true rfl, Nat.le_of_ble_eq_true rfl⟩) (nc_preS0 hK hN) rfl rfl hl.1 rfl (lv_room (Nat.le_of_ble_eq_true rfl)) d_NC_isToken_11 ⟨Nat.zero_le _, Nat.zero_le _⟩) (fun r er => ?_)
    obtain ⟨rfl, hz_9⟩ := er
    refine lv_if_eq (tgt := 21) hx hb d_NC_isToken_14 (by decide) (fun c_10 => ?_) (fun c_10 => ?_)
    · refine lv_iconst (v := 0) hx hb d_NC_isToken_21 (by decide) ?_
      exact W.zret (v := 0) hx hb hr rfl (fun t ht hW => ⟨0, rfl, ⟨by rw [f_NC_isToken, if_pos c_8, if_pos c_10], rfl⟩, ht⟩) (fun _ h => nomatch h) d_NC_isToken_22
    · refine lv_iconst (v := 1) hx hb d_NC_isToken_17 (by decide) ?_
      refine lv_goto (tgt := 22) hx hb d_NC_isToken_18 (by decide) ?_
      exact W.zret (v := 1) hx hb hr rfl (fun t ht hW => ⟨1, rfl, ⟨by rw [f_NC_isToken, if_pos c_8, if_neg c_10], rfl⟩, ht⟩) (fun _ h => nomatch h) d_NC_isToken_22
  · refine lv_iload_n hx hb d_NC_isToken_4 rfl (lv_at hl 0 rfl) ?_
    refine lv_bipush (v := 37) hx hb d_NC_isToken_5 (by decide) ?_
    refine lv_icmp_le (tgt := 17) hx hb d_NC_isToken_7 (by decide) (fun c_11 => ?_) (fun c_11 => ?_)
    · refine lv_iconst (v := 1) hx hb d_NC_isToken_17 (by decide) ?_
      refine lv_goto (tgt := 22) hx hb d_NC_isToken_18 (by decide) ?_
      exact W.zret (v := 1) hx hb hr rfl (fun t ht hW => ⟨1, rfl, ⟨by rw [f_NC_isToken, if_neg c_8, if_pos c_11], rfl⟩, ht⟩) (fun _ h => nomatch h) d_NC_isToken_22
    · refine lv_iload_n hx hb d_NC_isToken_10 rfl (lv_at hl 0 rfl) ?_
      refine nc_ro (va_runS (As := [.int x]) (rest := []) hfix (c_NC_isNumber l dC dI cA x) (k_NC_177 hts hN ⟨Nat.le_of_ble_eq_true rfl, Nat.le_of_ble_eq_true rfl⟩) (nc_preS0 hK hN) rfl rfl hl.1 rfl (lv_room (Nat.le_of_ble_eq_true rfl)) d_NC_isToken_11 ⟨Nat.zero_le _, Nat.zero_le _⟩) (fun r er => ?_)
      obtain ⟨rfl, hz_12⟩ := er
      refine lv_if_eq (tgt := 21) hx hb d_NC_isToken_14 (by decide) (fun c_13 => ?_) (fun c_13 => ?_)
      · refine lv_iconst (v := 0) hx hb d_NC_isToken_21 (by decide) ?_
        exact W.zret (v := 0) hx hb hr rfl (fun t ht hW => ⟨0, rfl, ⟨by rw [f_NC_isToken, if_neg c_8, if_neg c_11, if_pos c_13], rfl⟩, ht⟩) (fun _ h => nomatch h) d_NC_isToken_22
      · refine lv_iconst (v := 1) hx hb d_NC_isToken_17 (by decide) ?_
        refine lv_goto (tgt := 22) hx hb d_NC_isToken_18 (by decide) ?_
        exact W.zret (v := 1) hx hb hr rfl (fun t ht hW => ⟨1, rfl, ⟨by rw [f_NC_isToken, if_neg c_8, if_neg c_11, if_neg c_13], rfl⟩, ht⟩) (fun _ h => nomatch h) d_NC_isToken_22
def f_NC_holds (set x : Int32) : Int32 := (if ((nc_ushr set x) &&& 1) = 0 then 0 else 1)
abbrev ws_NC_holds : List Cond := .code y_NC_holds b_NC_holds 2 (some .boolean) :: lw_G
abbrev rm_NC_holds : Room := { frames := 0, cells := 0, slots := 0, locals := 0 }
set_option maxHeartbeats 4000000 in
set_option maxRecDepth 100000 in
theorem c_NC_holds (l : Launch) (dC : Nat → ClassId) (dI : Nat → Nat → Nat) (cA : ClassId) (set x : Int32) : Met l y_NC_holds ws_NC_holds rm_NC_holds (nc_Pre (dC, dI) cA [.int set, .int x] ([] : va_W)) (vp_Si (fun r => (r = (f_NC_holds set x) ∧ narrow .boolean (.int r) = .int r))) 0 0 (fun _ => False) := by
  refine Met.ofW (cc := b_NC_holds) (maxL := 2) (ret := (some .boolean)) (by decide) rfl ?_
  intro p e s m args below meth c s₁ B hml hv
  obtain ⟨rfl, hP, hK, hD, hN⟩ := hv
  have hx := B.exec
  have hb := B.bytes
  have hr := B.returns
  have hts : ∀ w ∈ lw_G, w.before [.int set, .int x].toArray s = true := fun w h => atoms_spec (ws := ws_NC_holds) B.pre w (List.mem_cons_of_mem _ h)
  have hown : s.vm.findClass R_NC = some m.cls := findClass_of_methodNamed B.named
  have hlocks := B.notSynchronized
  have hfix : CallFix p m c b_NC_holds 2 s [.int set, .int x].toArray lw_G R_NC := ⟨hx, hb, hml, hown, hts⟩
  have hl := lv_entry ([.int set, .int x]) (n := 2) (Nat.le_of_ble_eq_true rfl)
  rw [lg_entry_eq]
  generalize (lg_sl ([.int set, .int x]) ++ List.replicate (2 - (lg_sl ([.int set, .int x])).length) Slot.unset).toArray = ls at hl ⊢
  have hl : lv_has ls 2 [(0, .int set), (1, .int x)] := hl
  refine lv_iload_n hx hb d_NC_holds_0 rfl (lv_at hl 0 rfl) ?_
  refine lv_iload_n hx hb d_NC_holds_1 rfl (lv_at hl 1 rfl) ?_
  refine lv_iushr (v := (nc_ushr set x)) hx hb d_NC_holds_2 rfl ?_
  refine lv_iconst (v := 1) hx hb d_NC_holds_3 (by decide) ?_
  refine lv_iand hx hb d_NC_holds_4 ?_
  refine lv_if_eq (tgt := 12) hx hb d_NC_holds_5 (by decide) (fun c_14 => ?_) (fun c_14 => ?_)
  · refine lv_iconst (v := 0) hx hb d_NC_holds_12 (by decide) ?_
    exact W.zret (v := 0) hx hb hr rfl (fun t ht hW => ⟨0, rfl, ⟨by rw [f_NC_holds, if_pos c_14], rfl⟩, ht⟩) (fun _ h => nomatch h) d_NC_holds_13
  · refine lv_iconst (v := 1) hx hb d_NC_holds_8 (by decide) ?_
    refine lv_goto (tgt := 13) hx hb d_NC_holds_9 (by decide) ?_
    exact W.zret (v := 1) hx hb hr rfl (fun t ht hW => ⟨1, rfl, ⟨by rw [f_NC_holds, if_neg c_14], rfl⟩, ht⟩) (fun _ h => nomatch h) d_NC_holds_13
def f_NC_leastOf (set : Int32) : Int32 := (set &&& (-set))
abbrev ws_NC_leastOf : List Cond := .code y_NC_leastOf b_NC_leastOf 1 (some .int) :: lw_G
abbrev rm_NC_leastOf : Room := { frames := 0, cells := 0, slots := 0, locals := 0 }
set_option maxHeartbeats 4000000 in
set_option maxRecDepth 100000 in
theorem c_NC_leastOf (l : Launch) (dC : Nat → ClassId) (dI : Nat → Nat → Nat) (cA : ClassId) (set : Int32) : Met l y_NC_leastOf ws_NC_leastOf rm_NC_leastOf (nc_Pre (dC, dI) cA [.int set] ([] : va_W)) (vp_Si (fun r => r = (f_NC_leastOf set))) 0 0 (fun _ => False) := by
  refine Met.ofW (cc := b_NC_leastOf) (maxL := 1) (ret := (some .int)) (by decide) rfl ?_
  intro p e s m args below meth c s₁ B hml hv
  obtain ⟨rfl, hP, hK, hD, hN⟩ := hv
  have hx := B.exec
  have hb := B.bytes
  have hr := B.returns
  have hts : ∀ w ∈ lw_G, w.before [.int set].toArray s = true := fun w h => atoms_spec (ws := ws_NC_leastOf) B.pre w (List.mem_cons_of_mem _ h)
  have hown : s.vm.findClass R_NC = some m.cls := findClass_of_methodNamed B.named
  have hlocks := B.notSynchronized
  have hfix : CallFix p m c b_NC_leastOf 1 s [.int set].toArray lw_G R_NC := ⟨hx, hb, hml, hown, hts⟩
  have hl := lv_entry ([.int set]) (n := 1) (Nat.le_of_ble_eq_true rfl)
  rw [lg_entry_eq]
  generalize (lg_sl ([.int set]) ++ List.replicate (1 - (lg_sl ([.int set])).length) Slot.unset).toArray = ls at hl ⊢
  have hl : lv_has ls 1 [(0, .int set)] := hl
  refine lv_iload_n hx hb d_NC_leastOf_0 rfl (lv_at hl 0 rfl) ?_
  refine lv_iload_n hx hb d_NC_leastOf_1 rfl (lv_at hl 0 rfl) ?_
  refine lv_ineg hx hb d_NC_leastOf_2 ?_
  refine lv_iand hx hb d_NC_leastOf_3 ?_
  exact W.iret (v := (set &&& (-set))) hx hb hr (fun t ht hW => ⟨(set &&& (-set)), rfl, by rw [f_NC_leastOf], ht⟩) (fun _ h => nomatch h) d_NC_leastOf_4
def f_NC_memberAt_L4 (set x : Int32) : Nat → Int32 → Int32 → Int32
  | 0, z3, z2 => 0
  | n + 1, z3, z2 => (if 32 ≤ z3 then (-1) else (if (f_NC_holds set z3) = 0 then (f_NC_memberAt_L4 set x n (z3 + 1) z2) else (if z2 = x then z3 else (f_NC_memberAt_L4 set x n (z3 + 1) (z2 + 1)))))
def f_NC_memberAt (set x : Int32) : Int32 := (f_NC_memberAt_L4 set x (nc_mu 32 0 + 1) 0 0)
abbrev ws_NC_memberAt : List Cond := .code y_NC_memberAt b_NC_memberAt 4 (some .int) :: lw_G
abbrev rm_NC_memberAt : Room := { frames := 1, cells := 0, slots := 0, locals := 21 }
set_option maxHeartbeats 4000000 in
set_option maxRecDepth 100000 in
theorem c_NC_memberAt (l : Launch) (dC : Nat → ClassId) (dI : Nat → Nat → Nat) (cA : ClassId) (set x : Int32) : Met l y_NC_memberAt ws_NC_memberAt rm_NC_memberAt (nc_Pre (dC, dI) cA [.int set, .int x] ([] : va_W)) (vp_Si (fun r => r = (f_NC_memberAt set x))) 0 0 (fun _ => False) := by
  refine Met.ofW (cc := b_NC_memberAt) (maxL := 4) (ret := (some .int)) (by decide) rfl ?_
  intro p e s m args below meth c s₁ B hml hv
  obtain ⟨rfl, hP, hK, hD, hN⟩ := hv
  have hx := B.exec
  have hb := B.bytes
  have hr := B.returns
  have hts : ∀ w ∈ lw_G, w.before [.int set, .int x].toArray s = true := fun w h => atoms_spec (ws := ws_NC_memberAt) B.pre w (List.mem_cons_of_mem _ h)
  have hown : s.vm.findClass R_NC = some m.cls := findClass_of_methodNamed B.named
  have hlocks := B.notSynchronized
  have hfix : CallFix p m c b_NC_memberAt 4 s [.int set, .int x].toArray lw_G R_NC := ⟨hx, hb, hml, hown, hts⟩
  have hl := lv_entry ([.int set, .int x]) (n := 4) (Nat.le_of_ble_eq_true rfl)
  rw [lg_entry_eq]
  generalize (lg_sl ([.int set, .int x]) ++ List.replicate (4 - (lg_sl ([.int set, .int x])).length) Slot.unset).toArray = ls at hl ⊢
  have hl : lv_has ls 4 [(0, .int set), (1, .int x)] := hl
  refine lv_iconst (v := 0) hx hb d_NC_memberAt_0 (by decide) ?_
  refine lv_istore_n (lv' := [(2, .int 0), (0, .int set), (1, .int x)]) hx hb d_NC_memberAt_1 rfl hl (by decide) rfl (fun ls hl => ?_)
  refine lv_iconst (v := 0) hx hb d_NC_memberAt_2 (by decide) ?_
  refine lv_istore_n (lv' := [(3, .int 0), (2, .int 0), (0, .int set), (1, .int x)]) hx hb d_NC_memberAt_3 rfl hl (by decide) rfl (fun ls hl => ?_)
  have loop_4 : ∀ (n : Nat) (z3 z2 : Int32) (ls : Array Slot), (f_NC_memberAt set x) = (f_NC_memberAt_L4 set x n z3 z2) → nc_mu 32 z3 < n → 0 ≤ z3.toInt → lv_has ls 4 [(0, .int set), (1, .int x), (3, .int z3), (2, .int z2)] → W p l e (headSpec ws_NC_memberAt rm_NC_memberAt).room s m [.int set, .int x].toArray below meth c s.heap [] 0 0 (MQ below (vp_Si (fun r => r = (f_NC_memberAt set x))) [.int set, .int x].toArray s 0 0 (fun _ => False)) (F0 m 4 ls []) := by
    intro n
    induction n with
    | zero =>
      intro z3 z2 ls hE hm h0 hl
      exact absurd hm (Nat.not_lt_zero _)
    | succ n ih =>
      intro z3 z2 ls hE hm h0 hl
      refine lv_iload_n hx hb d_NC_memberAt_4 rfl (lv_at hl 2 rfl) ?_
      refine lv_bipush (v := 32) hx hb d_NC_memberAt_5 (by decide) ?_
      refine lv_icmp_ge (tgt := 34) hx hb d_NC_memberAt_7 (by decide) (fun c_15 => ?_) (fun c_15 => ?_)
      · refine lv_iconst (v := (-1)) hx hb d_NC_memberAt_34 (by decide) ?_
        exact W.iret (v := (-1)) hx hb hr (fun t ht hW => ⟨(-1), rfl, by rw [hE, f_NC_memberAt_L4, if_pos c_15], ht⟩) (fun _ h => nomatch h) d_NC_memberAt_35
      · refine lv_iload_n hx hb d_NC_memberAt_10 rfl (lv_at hl 0 rfl) ?_
        refine lv_iload_n hx hb d_NC_memberAt_11 rfl (lv_at hl 2 rfl) ?_
        refine nc_ro (va_runS (As := [.int set, .int z3]) (rest := []) hfix (c_NC_holds l dC dI cA set z3) (k_NC_126 hts hN ⟨Nat.le_of_ble_eq_true rfl, Nat.le_of_ble_eq_true rfl⟩) (nc_preS0 hK hN) rfl rfl hl.1 rfl (lv_room (Nat.le_of_ble_eq_true rfl)) d_NC_memberAt_12 ⟨Nat.zero_le _, Nat.zero_le _⟩) (fun r er => ?_)
        obtain ⟨rfl, hz_16⟩ := er
        refine lv_if_eq (tgt := 28) hx hb d_NC_memberAt_15 (by decide) (fun c_17 => ?_) (fun c_17 => ?_)
        · refine lv_iinc (v := (z3 + 1)) (lv' := [(3, .int (z3 + 1)), (0, .int set), (1, .int x), (2, .int z2)]) hx hb d_NC_memberAt_28 hl (k := 2) rfl rfl (by decide) rfl (fun ls hl => ?_)
          refine lv_goto (tgt := 4) hx hb d_NC_memberAt_31 (by decide) ?_
          exact ih (z3 + 1) z2 ls (by rw [hE, f_NC_memberAt_L4, if_neg c_15, if_pos c_17]) (nc_mu_step c_15 hm) (nc_i_step c_15 h0) (lv_sub hl [1, 2, 0, 3] rfl)
        · refine lv_iload_n hx hb d_NC_memberAt_18 rfl (lv_at hl 3 rfl) ?_
          refine lv_iload_n hx hb d_NC_memberAt_19 rfl (lv_at hl 1 rfl) ?_
          refine lv_icmp_ne (tgt := 25) hx hb d_NC_memberAt_20 (by decide) (fun c_18 => ?_) (fun c_18 => ?_)
          · refine lv_iinc (v := (z2 + 1)) (lv' := [(2, .int (z2 + 1)), (0, .int set), (1, .int x), (3, .int z3)]) hx hb d_NC_memberAt_25 hl (k := 3) rfl rfl (by decide) rfl (fun ls hl => ?_)
            refine lv_iinc (v := (z3 + 1)) (lv' := [(3, .int (z3 + 1)), (2, .int (z2 + 1)), (0, .int set), (1, .int x)]) hx hb d_NC_memberAt_28 hl (k := 3) rfl rfl (by decide) rfl (fun ls hl => ?_)
            refine lv_goto (tgt := 4) hx hb d_NC_memberAt_31 (by decide) ?_
            exact ih (z3 + 1) (z2 + 1) ls (by rw [hE, f_NC_memberAt_L4, if_neg c_15, if_neg c_17, if_neg c_18]) (nc_mu_step c_15 hm) (nc_i_step c_15 h0) (lv_sub hl [2, 3, 0, 1] rfl)
          · refine lv_iload_n hx hb d_NC_memberAt_23 rfl (lv_at hl 2 rfl) ?_
            exact W.iret (v := z3) hx hb hr (fun t ht hW => ⟨z3, rfl, by rw [hE, f_NC_memberAt_L4, if_neg c_15, if_neg c_17, if_pos c_18], ht⟩) (fun _ h => nomatch h) d_NC_memberAt_24
  exact loop_4 (nc_mu 32 0 + 1) 0 0 ls (by rw [f_NC_memberAt]) (Nat.lt_succ_self _) (by decide) (lv_sub hl [2, 3, 0, 1] rfl)
def f_Things_isRule (x : Int32) : Int32 := (if x < 0 then 0 else (if 4 ≤ x then 0 else 1))
abbrev ws_Things_isRule : List Cond := .code y_Things_isRule b_Things_isRule 1 (some .boolean) :: lw_G
abbrev rm_Things_isRule : Room := { frames := 0, cells := 0, slots := 0, locals := 0 }
set_option maxHeartbeats 4000000 in
set_option maxRecDepth 100000 in
theorem c_Things_isRule (l : Launch) (dC : Nat → ClassId) (dI : Nat → Nat → Nat) (cA : ClassId) (x : Int32) : Met l y_Things_isRule ws_Things_isRule rm_Things_isRule (nc_Pre (dC, dI) cA [.int x] ([] : va_W)) (vp_Si (fun r => (r = (f_Things_isRule x) ∧ narrow .boolean (.int r) = .int r))) 0 0 (fun _ => False) := by
  refine Met.ofW (cc := b_Things_isRule) (maxL := 1) (ret := (some .boolean)) (by decide) rfl ?_
  intro p e s m args below meth c s₁ B hml hv
  obtain ⟨rfl, hP, hK, hD, hN⟩ := hv
  have hx := B.exec
  have hb := B.bytes
  have hr := B.returns
  have hts : ∀ w ∈ lw_G, w.before [.int x].toArray s = true := fun w h => atoms_spec (ws := ws_Things_isRule) B.pre w (List.mem_cons_of_mem _ h)
  have hown : s.vm.findClass R_Things = some m.cls := findClass_of_methodNamed B.named
  have hlocks := B.notSynchronized
  have hfix : CallFix p m c b_Things_isRule 1 s [.int x].toArray lw_G R_Things := ⟨hx, hb, hml, hown, hts⟩
  have hl := lv_entry ([.int x]) (n := 1) (Nat.le_of_ble_eq_true rfl)
  rw [lg_entry_eq]
  generalize (lg_sl ([.int x]) ++ List.replicate (1 - (lg_sl ([.int x])).length) Slot.unset).toArray = ls at hl ⊢
  have hl : lv_has ls 1 [(0, .int x)] := hl
  refine lv_iload_n hx hb d_Things_isRule_0 rfl (lv_at hl 0 rfl) ?_
  refine lv_if_lt (tgt := 13) hx hb d_Things_isRule_1 (by decide) (fun c_19 => ?_) (fun c_19 => ?_)
  · refine lv_iconst (v := 0) hx hb d_Things_isRule_13 (by decide) ?_
    exact W.zret (v := 0) hx hb hr rfl (fun t ht hW => ⟨0, rfl, ⟨by rw [f_Things_isRule, if_pos c_19], rfl⟩, ht⟩) (fun _ h => nomatch h) d_Things_isRule_14
  · refine lv_iload_n hx hb d_Things_isRule_4 rfl (lv_at hl 0 rfl) ?_
    refine lv_iconst (v := 4) hx hb d_Things_isRule_5 (by decide) ?_
    refine lv_icmp_ge (tgt := 13) hx hb d_Things_isRule_6 (by decide) (fun c_20 => ?_) (fun c_20 => ?_)
    · refine lv_iconst (v := 0) hx hb d_Things_isRule_13 (by decide) ?_
      exact W.zret (v := 0) hx hb hr rfl (fun t ht hW => ⟨0, rfl, ⟨by rw [f_Things_isRule, if_neg c_19, if_pos c_20], rfl⟩, ht⟩) (fun _ h => nomatch h) d_Things_isRule_14
    · refine lv_iconst (v := 1) hx hb d_Things_isRule_9 (by decide) ?_
      refine lv_goto (tgt := 14) hx hb d_Things_isRule_10 (by decide) ?_
      exact W.zret (v := 1) hx hb hr rfl (fun t ht hW => ⟨1, rfl, ⟨by rw [f_Things_isRule, if_neg c_19, if_neg c_20], rfl⟩, ht⟩) (fun _ h => nomatch h) d_Things_isRule_14
theorem isRule_pos {x : Int32} (h : ¬ f_Things_isRule x = 0) : 0 ≤ x.toInt ∧ x.toInt < 4 := by
  unfold f_Things_isRule at h
  split at h
  · exact absurd rfl h
  · split at h
    · exact absurd rfl h
    · rename_i h1 h2
      have q1 := nc_nlt h1 rfl L_0
      have q2 := nc_nle h2 L_4 rfl
      exact ⟨q1, q2⟩
def f_Things_isKind (x : Int32) : Int32 := (if x < 0 then 0 else (if 16 ≤ x then 0 else 1))
abbrev ws_Things_isKind : List Cond := .code y_Things_isKind b_Things_isKind 1 (some .boolean) :: lw_G
abbrev rm_Things_isKind : Room := { frames := 0, cells := 0, slots := 0, locals := 0 }
set_option maxHeartbeats 4000000 in
set_option maxRecDepth 100000 in
theorem c_Things_isKind (l : Launch) (dC : Nat → ClassId) (dI : Nat → Nat → Nat) (cA : ClassId) (x : Int32) : Met l y_Things_isKind ws_Things_isKind rm_Things_isKind (nc_Pre (dC, dI) cA [.int x] ([] : va_W)) (vp_Si (fun r => (r = (f_Things_isKind x) ∧ narrow .boolean (.int r) = .int r))) 0 0 (fun _ => False) := by
  refine Met.ofW (cc := b_Things_isKind) (maxL := 1) (ret := (some .boolean)) (by decide) rfl ?_
  intro p e s m args below meth c s₁ B hml hv
  obtain ⟨rfl, hP, hK, hD, hN⟩ := hv
  have hx := B.exec
  have hb := B.bytes
  have hr := B.returns
  have hts : ∀ w ∈ lw_G, w.before [.int x].toArray s = true := fun w h => atoms_spec (ws := ws_Things_isKind) B.pre w (List.mem_cons_of_mem _ h)
  have hown : s.vm.findClass R_Things = some m.cls := findClass_of_methodNamed B.named
  have hlocks := B.notSynchronized
  have hfix : CallFix p m c b_Things_isKind 1 s [.int x].toArray lw_G R_Things := ⟨hx, hb, hml, hown, hts⟩
  have hl := lv_entry ([.int x]) (n := 1) (Nat.le_of_ble_eq_true rfl)
  rw [lg_entry_eq]
  generalize (lg_sl ([.int x]) ++ List.replicate (1 - (lg_sl ([.int x])).length) Slot.unset).toArray = ls at hl ⊢
  have hl : lv_has ls 1 [(0, .int x)] := hl
  refine lv_iload_n hx hb d_Things_isKind_0 rfl (lv_at hl 0 rfl) ?_
  refine lv_if_lt (tgt := 14) hx hb d_Things_isKind_1 (by decide) (fun c_21 => ?_) (fun c_21 => ?_)
  · refine lv_iconst (v := 0) hx hb d_Things_isKind_14 (by decide) ?_
    exact W.zret (v := 0) hx hb hr rfl (fun t ht hW => ⟨0, rfl, ⟨by rw [f_Things_isKind, if_pos c_21], rfl⟩, ht⟩) (fun _ h => nomatch h) d_Things_isKind_15
  · refine lv_iload_n hx hb d_Things_isKind_4 rfl (lv_at hl 0 rfl) ?_
    refine lv_bipush (v := 16) hx hb d_Things_isKind_5 (by decide) ?_
    refine lv_icmp_ge (tgt := 14) hx hb d_Things_isKind_7 (by decide) (fun c_22 => ?_) (fun c_22 => ?_)
    · refine lv_iconst (v := 0) hx hb d_Things_isKind_14 (by decide) ?_
      exact W.zret (v := 0) hx hb hr rfl (fun t ht hW => ⟨0, rfl, ⟨by rw [f_Things_isKind, if_neg c_21, if_pos c_22], rfl⟩, ht⟩) (fun _ h => nomatch h) d_Things_isKind_15
    · refine lv_iconst (v := 1) hx hb d_Things_isKind_10 (by decide) ?_
      refine lv_goto (tgt := 15) hx hb d_Things_isKind_11 (by decide) ?_
      exact W.zret (v := 1) hx hb hr rfl (fun t ht hW => ⟨1, rfl, ⟨by rw [f_Things_isKind, if_neg c_21, if_neg c_22], rfl⟩, ht⟩) (fun _ h => nomatch h) d_Things_isKind_15
theorem isKind_pos {x : Int32} (h : ¬ f_Things_isKind x = 0) : 0 ≤ x.toInt ∧ x.toInt < 16 := by
  unfold f_Things_isKind at h
  split at h
  · exact absurd rfl h
  · split at h
    · exact absurd rfl h
    · rename_i h1 h2
      have q1 := nc_nlt h1 rfl L_0
      have q2 := nc_nle h2 L_16 rfl
      exact ⟨q1, q2⟩
