def f_M_beginR (X : Nat → Nat → Int32) (x1 : Int32) : (Nat → Nat → Int32) := (upf (upf (upf X 13 (fun _ => x1)) 14 (fun _ => 0)) 15 (fun _ => 0))
abbrev ws_M_beginR : List Cond := .code y_M_begin b_M_begin 3 none :: lw_G
abbrev rm_M_beginR : Room := { frames := 0, cells := 0, slots := 0, locals := 0 }
set_option maxHeartbeats 4000000 in
set_option maxRecDepth 100000 in
theorem c_M_beginR (l : Launch) (dC : Nat → ClassId) (dI : Nat → Nat → Nat) (cA cZ : ClassId) (sz : Nat) (a : Nat → Nat) (rv : Value) (X : Nat → Nat → Int32) (x1 : Int32) : Met l y_M_begin ws_M_beginR rm_M_beginR (nc_PreZM (dC, dI) cA cZ sz [.ref (a 0), .ref (a 8), .int x1] (w_M cA cZ a rv X)) (va_Qv (fun _ : Unit => True) (fun _ t => va_P (dC, dI) classes (w_M cA cZ a (.ref (a 8)) (f_M_beginR X x1)) t.heap ∧ va_D (va_A (w_M cA cZ a rv X) sz) (w_M cA cZ a (.ref (a 8)) (f_M_beginR X x1))) (va_A (w_M cA cZ a rv X) sz)) 0 0 (va_A (w_M cA cZ a rv X) sz) := by
  refine Met.ofW (cc := b_M_begin) (maxL := 3) (ret := none) (by decide) rfl ?_
  intro p e s m args below meth c s₁ B hml hv
  obtain ⟨rfl, hsz, hP, hK, hD0, hN⟩ := hv
  have hx := B.exec
  have hb := B.bytes
  have hr := B.returns
  have hts : ∀ w ∈ lw_G, w.before [.ref (a 0), .ref (a 8), .int x1].toArray s = true := fun w h => atoms_spec (ws := ws_M_beginR) B.pre w (List.mem_cons_of_mem _ h)
  have hown : s.vm.findClass R_M = some m.cls := findClass_of_methodNamed B.named
  have hlocks := B.notSynchronized
  have hfix : CallFix p m c b_M_begin 3 s [.ref (a 0), .ref (a 8), .int x1].toArray lw_G R_M := ⟨hx, hb, hml, hown, hts⟩
  have hK1 := hK.sub (tys' := [(cA, .int)]) [0] rfl
  subst hsz
  have hD := hD0.self (sz := s.heap.size)
  generalize hAe : va_A (w_M cA cZ a rv X) s.heap.size = A at hD ⊢
  have hA : ∀ q : Nat, s.heap.size ≤ q → A q := fun q h => by rw [← hAe]; exact Or.inr h
  have hS : va_S A s.heap s.heap [] := va_S.rf
  have hl := lv_entry ([.ref (a 0), .ref (a 8), .int x1]) (n := 3) (Nat.le_of_ble_eq_true rfl)
  rw [lg_entry_eq]
  generalize (lg_sl ([.ref (a 0), .ref (a 8), .int x1]) ++ List.replicate (3 - (lg_sl ([.ref (a 0), .ref (a 8), .int x1])).length) Slot.unset).toArray = ls at hl ⊢
  have hl : lv_has ls 3 [(0, .ref (a 0)), (1, .ref (a 8)), (2, .int x1)] := hl
  refine lv_aload_n hx hb d_M_begin_0 rfl (lv_at hl 0 rfl) ?_
  refine lv_aload_n hx hb d_M_begin_1 rfl (lv_at hl 1 rfl) ?_
  refine va_put (D := (dC, dI)) (ci := 4) (v := .ref (a 8)) (ty := (t_M 12)) (C := R_M) (T := F_M) (N := 39) hx hb hts i_M t_M t_M_ok n_M hown hK hP hD hS 0 rfl rfl 12 (by decide) (hts _ m_f_M_91) (fun _ h9 => h9) rfl (by decide +kernel) rfl rfl (Nat.le_of_ble_eq_true rfl) d_M_begin_2 (fun H locs hP hD hS => ?_)
  have hP : va_P (dC, dI) classes (w_M cA cZ a (.ref (a 8)) X) H := hP
  have hD : va_D A (w_M cA cZ a (.ref (a 8)) X) := hD
  refine lv_aload_n hx hb d_M_begin_5 rfl (lv_at hl 0 rfl) ?_
  refine lv_iload_n hx hb d_M_begin_6 rfl (lv_at hl 2 rfl) ?_
  refine va_put (D := (dC, dI)) (ci := 4) (v := .int x1) (ty := .int) (C := R_M) (T := F_M) (N := 39) hx hb hts i_M t_M t_M_ok n_M hown hK hP hD hS 0 rfl rfl 13 (by decide) (hts _ m_f_M_94) (fun _ h9 => h9) rfl (by decide +kernel) rfl rfl (Nat.le_of_ble_eq_true rfl) d_M_begin_7 (fun H locs hP hD hS => ?_)
  have hP : va_P (dC, dI) classes (w_M cA cZ a (.ref (a 8)) (upf X 13 (fun _ => x1))) H := hP
  have hD : va_D A (w_M cA cZ a (.ref (a 8)) (upf X 13 (fun _ => x1))) := hD
  refine lv_aload_n hx hb d_M_begin_10 rfl (lv_at hl 0 rfl) ?_
  refine lv_iconst (v := 0) hx hb d_M_begin_11 (by decide) ?_
  refine va_put (D := (dC, dI)) (ci := 4) (v := .int 0) (ty := .int) (C := R_M) (T := F_M) (N := 39) hx hb hts i_M t_M t_M_ok n_M hown hK hP hD hS 0 rfl rfl 14 (by decide) (hts _ m_f_M_97) (fun _ h9 => h9) rfl (by decide +kernel) rfl rfl (Nat.le_of_ble_eq_true rfl) d_M_begin_12 (fun H locs hP hD hS => ?_)
  have hP : va_P (dC, dI) classes (w_M cA cZ a (.ref (a 8)) (upf (upf X 13 (fun _ => x1)) 14 (fun _ => 0))) H := hP
  have hD : va_D A (w_M cA cZ a (.ref (a 8)) (upf (upf X 13 (fun _ => x1)) 14 (fun _ => 0))) := hD
  refine lv_aload_n hx hb d_M_begin_15 rfl (lv_at hl 0 rfl) ?_
  refine lv_iconst (v := 0) hx hb d_M_begin_16 (by decide) ?_
  refine va_put (D := (dC, dI)) (ci := 4) (v := .int 0) (ty := .boolean) (C := R_M) (T := F_M) (N := 39) hx hb hts i_M t_M t_M_ok n_M hown hK hP hD hS 0 rfl rfl 15 (by decide) (hts _ m_f_M_100) (fun _ h9 => h9) rfl (by decide +kernel) rfl rfl (Nat.le_of_ble_eq_true rfl) d_M_begin_17 (fun H locs hP hD hS => ?_)
  have hP : va_P (dC, dI) classes (w_M cA cZ a (.ref (a 8)) (upf (upf (upf X 13 (fun _ => x1)) 14 (fun _ => 0)) 15 (fun _ => 0))) H := hP
  have hD : va_D A (w_M cA cZ a (.ref (a 8)) (upf (upf (upf X 13 (fun _ => x1)) 14 (fun _ => 0)) 15 (fun _ => 0))) := hD
  have hF : (f_M_beginR X x1) = (upf (upf (upf X 13 (fun _ => x1)) 14 (fun _ => 0)) 15 (fun _ => 0)) := by rw [f_M_beginR]
  exact W.vret hx hb hr (fun t ht hW => ⟨⟨(), rfl, trivial, by rw [hF, ht]; exact hP, by rw [hF]; exact hD⟩, hS.F ht⟩) hS.2.2 d_M_begin_20
theorem upf_ne {X : Nat → Nat → Int32} {k j : Nat} {g : Nat → Int32} (h : Nat.beq j k = false) : upf X k g j = X j := by
  unfold upf
  rw [h]
theorem upf_eq {X : Nat → Nat → Int32} {k : Nat} {g : Nat → Int32} : upf X k g k = g := by
  unfold upf
  rw [Nat.beq_refl]
theorem bg_aR {X : Nat → Nat → Int32} {n : Int32} (h : n.toInt ≤ 30) : m_a (f_M_beginR X n) := ⟨by show 0 ≤ (0 : Int32).toInt; decide, by show (0 : Int32).toInt ≤ 100; decide, h⟩
theorem bg_tR {X : Nat → Nat → Int32} {n : Int32} (h : m_t X) : m_t (f_M_beginR X n) := h
theorem bg_kR {X : Nat → Nat → Int32} {n : Int32} (h : m_k X) : m_k (f_M_beginR X n) := h
def f_M_beginF (X : Nat → Nat → Int32) (x1 : Int32) : (Nat → Nat → Int32) := (upf (upf (upf X 13 (fun _ => x1)) 14 (fun _ => 0)) 15 (fun _ => 0))
abbrev ws_M_beginF : List Cond := .code y_M_begin b_M_begin 3 none :: lw_G
abbrev rm_M_beginF : Room := { frames := 0, cells := 0, slots := 0, locals := 0 }
set_option maxHeartbeats 4000000 in
set_option maxRecDepth 100000 in
theorem c_M_beginF (l : Launch) (dC : Nat → ClassId) (dI : Nat → Nat → Nat) (cA cZ : ClassId) (sz : Nat) (a : Nat → Nat) (rv : Value) (X : Nat → Nat → Int32) (x1 : Int32) : Met l y_M_begin ws_M_beginF rm_M_beginF (nc_PreZM (dC, dI) cA cZ sz [.ref (a 0), .ref (a 10), .int x1] (w_M cA cZ a rv X)) (va_Qv (fun _ : Unit => True) (fun _ t => va_P (dC, dI) classes (w_M cA cZ a (.ref (a 10)) (f_M_beginF X x1)) t.heap ∧ va_D (va_A (w_M cA cZ a rv X) sz) (w_M cA cZ a (.ref (a 10)) (f_M_beginF X x1))) (va_A (w_M cA cZ a rv X) sz)) 0 0 (va_A (w_M cA cZ a rv X) sz) := by
  refine Met.ofW (cc := b_M_begin) (maxL := 3) (ret := none) (by decide) rfl ?_
  intro p e s m args below meth c s₁ B hml hv
  obtain ⟨rfl, hsz, hP, hK, hD0, hN⟩ := hv
  have hx := B.exec
  have hb := B.bytes
  have hr := B.returns
  have hts : ∀ w ∈ lw_G, w.before [.ref (a 0), .ref (a 10), .int x1].toArray s = true := fun w h => atoms_spec (ws := ws_M_beginF) B.pre w (List.mem_cons_of_mem _ h)
  have hown : s.vm.findClass R_M = some m.cls := findClass_of_methodNamed B.named
  have hlocks := B.notSynchronized
  have hfix : CallFix p m c b_M_begin 3 s [.ref (a 0), .ref (a 10), .int x1].toArray lw_G R_M := ⟨hx, hb, hml, hown, hts⟩
  have hK1 := hK.sub (tys' := [(cA, .int)]) [0] rfl
  subst hsz
  have hD := hD0.self (sz := s.heap.size)
  generalize hAe : va_A (w_M cA cZ a rv X) s.heap.size = A at hD ⊢
  have hA : ∀ q : Nat, s.heap.size ≤ q → A q := fun q h => by rw [← hAe]; exact Or.inr h
  have hS : va_S A s.heap s.heap [] := va_S.rf
  have hl := lv_entry ([.ref (a 0), .ref (a 10), .int x1]) (n := 3) (Nat.le_of_ble_eq_true rfl)
  rw [lg_entry_eq]
  generalize (lg_sl ([.ref (a 0), .ref (a 10), .int x1]) ++ List.replicate (3 - (lg_sl ([.ref (a 0), .ref (a 10), .int x1])).length) Slot.unset).toArray = ls at hl ⊢
  have hl : lv_has ls 3 [(0, .ref (a 0)), (1, .ref (a 10)), (2, .int x1)] := hl
  refine lv_aload_n hx hb d_M_begin_0 rfl (lv_at hl 0 rfl) ?_
  refine lv_aload_n hx hb d_M_begin_1 rfl (lv_at hl 1 rfl) ?_
  refine va_put (D := (dC, dI)) (ci := 4) (v := .ref (a 10)) (ty := (t_M 12)) (C := R_M) (T := F_M) (N := 39) hx hb hts i_M t_M t_M_ok n_M hown hK hP hD hS 0 rfl rfl 12 (by decide) (hts _ m_f_M_91) (fun _ h9 => h9) rfl (by decide +kernel) rfl rfl (Nat.le_of_ble_eq_true rfl) d_M_begin_2 (fun H locs hP hD hS => ?_)
  have hP : va_P (dC, dI) classes (w_M cA cZ a (.ref (a 10)) X) H := hP
  have hD : va_D A (w_M cA cZ a (.ref (a 10)) X) := hD
  refine lv_aload_n hx hb d_M_begin_5 rfl (lv_at hl 0 rfl) ?_
  refine lv_iload_n hx hb d_M_begin_6 rfl (lv_at hl 2 rfl) ?_
  refine va_put (D := (dC, dI)) (ci := 4) (v := .int x1) (ty := .int) (C := R_M) (T := F_M) (N := 39) hx hb hts i_M t_M t_M_ok n_M hown hK hP hD hS 0 rfl rfl 13 (by decide) (hts _ m_f_M_94) (fun _ h9 => h9) rfl (by decide +kernel) rfl rfl (Nat.le_of_ble_eq_true rfl) d_M_begin_7 (fun H locs hP hD hS => ?_)
  have hP : va_P (dC, dI) classes (w_M cA cZ a (.ref (a 10)) (upf X 13 (fun _ => x1))) H := hP
  have hD : va_D A (w_M cA cZ a (.ref (a 10)) (upf X 13 (fun _ => x1))) := hD
  refine lv_aload_n hx hb d_M_begin_10 rfl (lv_at hl 0 rfl) ?_
  refine lv_iconst (v := 0) hx hb d_M_begin_11 (by decide) ?_
  refine va_put (D := (dC, dI)) (ci := 4) (v := .int 0) (ty := .int) (C := R_M) (T := F_M) (N := 39) hx hb hts i_M t_M t_M_ok n_M hown hK hP hD hS 0 rfl rfl 14 (by decide) (hts _ m_f_M_97) (fun _ h9 => h9) rfl (by decide +kernel) rfl rfl (Nat.le_of_ble_eq_true rfl) d_M_begin_12 (fun H locs hP hD hS => ?_)
  have hP : va_P (dC, dI) classes (w_M cA cZ a (.ref (a 10)) (upf (upf X 13 (fun _ => x1)) 14 (fun _ => 0))) H := hP
  have hD : va_D A (w_M cA cZ a (.ref (a 10)) (upf (upf X 13 (fun _ => x1)) 14 (fun _ => 0))) := hD
  refine lv_aload_n hx hb d_M_begin_15 rfl (lv_at hl 0 rfl) ?_
  refine lv_iconst (v := 0) hx hb d_M_begin_16 (by decide) ?_
  refine va_put (D := (dC, dI)) (ci := 4) (v := .int 0) (ty := .boolean) (C := R_M) (T := F_M) (N := 39) hx hb hts i_M t_M t_M_ok n_M hown hK hP hD hS 0 rfl rfl 15 (by decide) (hts _ m_f_M_100) (fun _ h9 => h9) rfl (by decide +kernel) rfl rfl (Nat.le_of_ble_eq_true rfl) d_M_begin_17 (fun H locs hP hD hS => ?_)
  have hP : va_P (dC, dI) classes (w_M cA cZ a (.ref (a 10)) (upf (upf (upf X 13 (fun _ => x1)) 14 (fun _ => 0)) 15 (fun _ => 0))) H := hP
  have hD : va_D A (w_M cA cZ a (.ref (a 10)) (upf (upf (upf X 13 (fun _ => x1)) 14 (fun _ => 0)) 15 (fun _ => 0))) := hD
  have hF : (f_M_beginF X x1) = (upf (upf (upf X 13 (fun _ => x1)) 14 (fun _ => 0)) 15 (fun _ => 0)) := by rw [f_M_beginF]
  exact W.vret hx hb hr (fun t ht hW => ⟨⟨(), rfl, trivial, by rw [hF, ht]; exact hP, by rw [hF]; exact hD⟩, hS.F ht⟩) hS.2.2 d_M_begin_20
theorem bg_aF {X : Nat → Nat → Int32} {n : Int32} (h : n.toInt ≤ 30) : m_a (f_M_beginF X n) := ⟨by show 0 ≤ (0 : Int32).toInt; decide, by show (0 : Int32).toInt ≤ 100; decide, h⟩
theorem bg_tF {X : Nat → Nat → Int32} {n : Int32} (h : m_t X) : m_t (f_M_beginF X n) := h
theorem bg_kF {X : Nat → Nat → Int32} {n : Int32} (h : m_k X) : m_k (f_M_beginF X n) := h
theorem ma_step {X : Nat → Nat → Int32} (c : ¬ (X 13 0) ≤ (X 14 0)) (h : m_a X) : m_a (upf X 14 (fun _ => (X 14 0) + 1)) := by
  have h1 := nc_add1 c
  have h2 := nc_nle c rfl rfl
  have h3 := h.1
  have h4 := h.2.2
  refine ⟨?_, ?_, h.2.2⟩
  · show 0 ≤ ((X 14 0) + 1).toInt
    omega
  · show ((X 14 0) + 1).toInt ≤ 100
    omega
/-- Y is X with the reading further on -/
def m_adv (X Y : Nat → Nat → Int32) : Prop := m_a Y ∧ Y 13 = X 13 ∧ (X 14 0).toInt ≤ (Y 14 0).toInt ∧ ((Y 14 0).toInt ≤ (X 14 0).toInt ∨ (Y 14 0).toInt ≤ 30)
theorem m_adv_rfl {X : Nat → Nat → Int32} (h : m_a X) : m_adv X X := ⟨h, rfl, Int.le_refl _, Or.inl (Int.le_refl _)⟩
theorem m_adv_trans {X Y Z : Nat → Nat → Int32} (h1 : m_adv X Y) (h2 : m_adv Y Z) : m_adv X Z := by
  obtain ⟨a1, a2, a3, a4⟩ := h1
  obtain ⟨b1, b2, b3, b4⟩ := h2
  exact ⟨b1, b2.trans a2, Int.le_trans a3 b3, by omega⟩
theorem m_adv_step {X : Nat → Nat → Int32} (c : ¬ (X 13 0) ≤ (X 14 0)) (h : m_a X) : m_adv X (upf X 14 (fun _ => (X 14 0) + 1)) := by
  have h1 := nc_add1 c
  have h2 := nc_nle c rfl rfl
  have h4 := h.2.2
  refine ⟨ma_step c h, rfl, ?_, Or.inr ?_⟩
  · show (X 14 0).toInt ≤ ((X 14 0) + 1).toInt
    omega
  · show ((X 14 0) + 1).toInt ≤ 30
    omega
theorem mu_adv {X Y : Nat → Nat → Int32} {n : Nat} (c : ¬ (X 13 0) ≤ (X 14 0)) (h : m_adv (upf X 14 (fun _ => (X 14 0) + 1)) Y) (hm : nc_mu (X 13 0) (X 14 0) < n + 1) : nc_mu (Y 13 0) (Y 14 0) < n := by
  obtain ⟨a1, a2, a3, a4⟩ := h
  have a3' : ((X 14 0) + 1).toInt ≤ (Y 14 0).toInt := a3
  have a2' : Y 13 = X 13 := a2
  have h1 := nc_add1 c
  have h2 := nc_nle c rfl rfl
  unfold nc_mu at hm ⊢
  rw [a2']
  omega
theorem mu_adv3 {X Y : Nat → Nat → Int32} {n : Nat} (h : m_adv X Y) (c : ¬ (Y 13 0) ≤ (Y 14 0)) (hm : nc_mu (X 13 0) (X 14 0) < n + 1) : nc_mu (Y 13 0) ((Y 14 0) + 1) < n := by
  obtain ⟨a1, a2, a3, a4⟩ := h
  have h1 := nc_add1 c
  have h2 := nc_nle c rfl rfl
  unfold nc_mu at hm ⊢
  rw [a2] at h2 ⊢
  omega
def f_M_hereR (X : Nat → Nat → Int32) : Int32 := (if (X 13 0) ≤ (X 14 0) then (-1) else ((X 10) ((X 14 0)).toNatClampNeg))
abbrev ws_M_hereR : List Cond := .code y_M_here b_M_here 1 (some .int) :: lw_G
abbrev rm_M_hereR : Room := { frames := 0, cells := 0, slots := 0, locals := 0 }
set_option maxHeartbeats 4000000 in
set_option maxRecDepth 100000 in
theorem c_M_hereR (l : Launch) (dC : Nat → ClassId) (dI : Nat → Nat → Nat) (cA cZ : ClassId) (a : Nat → Nat) (X : Nat → Nat → Int32) (hma : m_a X) : Met l y_M_here ws_M_hereR rm_M_hereR (nc_PreZ (dC, dI) cA cZ [.ref (a 0)] (w_M cA cZ a (.ref (a 8)) X)) (vp_Si (fun r => r = (f_M_hereR X))) 0 0 (fun _ => False) := by
  refine Met.ofW (cc := b_M_here) (maxL := 1) (ret := (some .int)) (by decide) rfl ?_
  intro p e s m args below meth c s₁ B hml hv
  obtain ⟨rfl, hP, hK, hD, hN⟩ := hv
  have hx := B.exec
  have hb := B.bytes
  have hr := B.returns
  have hts : ∀ w ∈ lw_G, w.before [.ref (a 0)].toArray s = true := fun w h => atoms_spec (ws := ws_M_hereR) B.pre w (List.mem_cons_of_mem _ h)
  have hown : s.vm.findClass R_M = some m.cls := findClass_of_methodNamed B.named
  have hlocks := B.notSynchronized
  have hfix : CallFix p m c b_M_here 1 s [.ref (a 0)].toArray lw_G R_M := ⟨hx, hb, hml, hown, hts⟩
  have hK1 := hK.sub (tys' := [(cA, .int)]) [0] rfl
  have hl := lv_entry ([.ref (a 0)]) (n := 1) (Nat.le_of_ble_eq_true rfl)
  rw [lg_entry_eq]
  generalize (lg_sl ([.ref (a 0)]) ++ List.replicate (1 - (lg_sl ([.ref (a 0)])).length) Slot.unset).toArray = ls at hl ⊢
  have hl : lv_has ls 1 [(0, .ref (a 0))] := hl
  refine lv_aload_n hx hb d_M_here_0 rfl (lv_at hl 0 rfl) ?_
  refine va_get (D := (dC, dI)) (ci := 4) (v := .int (X 14 0)) (C := R_M) (T := F_M) (N := 39) hx hb hts i_M hown hK hP 0 rfl rfl 14 (by decide) (hts _ m_f_M_97) (fun _ h9 => h9) rfl d_M_here_1 ?_
  refine lv_aload_n hx hb d_M_here_4 rfl (lv_at hl 0 rfl) ?_
  refine va_get (D := (dC, dI)) (ci := 4) (v := .int (X 13 0)) (C := R_M) (T := F_M) (N := 39) hx hb hts i_M hown hK hP 0 rfl rfl 13 (by decide) (hts _ m_f_M_94) (fun _ h9 => h9) rfl d_M_here_5 ?_
  refine lv_icmp_ge (tgt := 23) hx hb d_M_here_8 (by decide) (fun c_471 => ?_) (fun c_471 => ?_)
  · refine lv_iconst (v := (-1)) hx hb d_M_here_23 (by decide) ?_
    exact W.iret (v := (-1)) hx hb hr (fun t ht hW => ⟨(-1), rfl, by rw [f_M_hereR, if_pos c_471], ht⟩) (fun _ h => nomatch h) d_M_here_24
  · refine lv_aload_n hx hb d_M_here_11 rfl (lv_at hl 0 rfl) ?_
    refine va_get (D := (dC, dI)) (ci := 4) (v := .ref (a 8)) (C := R_M) (T := F_M) (N := 39) hx hb hts i_M hown hK hP 0 rfl rfl 12 (by decide) (hts _ m_f_M_91) (fun _ h9 => h9) rfl d_M_here_12 ?_
    refine lv_aload_n hx hb d_M_here_15 rfl (lv_at hl 0 rfl) ?_
    refine va_get (D := (dC, dI)) (ci := 4) (v := .int (X 14 0)) (C := R_M) (T := F_M) (N := 39) hx hb hts i_M hown hK hP 0 rfl rfl 14 (by decide) (hts _ m_f_M_97) (fun _ h9 => h9) rfl d_M_here_16 ?_
    refine va_iald (f := (X 10)) hx hb hK hP 8 0 rfl rfl (by have q0 := nc_nle c_471 rfl rfl; have q1 := hma.1; have q2 := hma.2.1; have q3 := hma.2.2; exact vp_in_iff.mpr ⟨by omega, by omega⟩) d_M_here_19 ?_
    refine lv_goto (tgt := 24) hx hb d_M_here_20 (by decide) ?_
    exact W.iret (v := ((X 10) ((X 14 0)).toNatClampNeg)) hx hb hr (fun t ht hW => ⟨((X 10) ((X 14 0)).toNatClampNeg), rfl, by rw [f_M_hereR, if_neg c_471], ht⟩) (fun _ h => nomatch h) d_M_here_24
theorem hereR_in {X : Nat → Nat → Int32} {lo hi : Int32} (h : ¬ f_M_in (f_M_hereR X) lo hi = 0) (hl : 0 ≤ lo.toInt) : ¬ (X 13 0) ≤ (X 14 0) := by
  intro c
  have h1 := (in_pos h).1
  unfold f_M_hereR at h1
  rw [if_pos c] at h1
  have h2 : (-1 : Int32).toInt = -1 := by decide
  omega
theorem hereR_eq {X : Nat → Nat → Int32} {y : Int32} (h : f_M_hereR X = y) (hy : ¬ y = -1) : ¬ (X 13 0) ≤ (X 14 0) := by
  intro c
  unfold f_M_hereR at h
  rw [if_pos c] at h
  exact hy h.symm
theorem hereR_gt {X : Nat → Nat → Int32} (h : ¬ f_M_hereR X ≤ 40) : ¬ (X 13 0) ≤ (X 14 0) := by
  intro c
  unfold f_M_hereR at h
  rw [if_pos c] at h
  exact h (by decide)
def f_M_hereF (X : Nat → Nat → Int32) : Int32 := (if (X 13 0) ≤ (X 14 0) then (-1) else ((X 24) ((X 14 0)).toNatClampNeg))
abbrev ws_M_hereF : List Cond := .code y_M_here b_M_here 1 (some .int) :: lw_G
abbrev rm_M_hereF : Room := { frames := 0, cells := 0, slots := 0, locals := 0 }
set_option maxHeartbeats 4000000 in
set_option maxRecDepth 100000 in
theorem c_M_hereF (l : Launch) (dC : Nat → ClassId) (dI : Nat → Nat → Nat) (cA cZ : ClassId) (a : Nat → Nat) (X : Nat → Nat → Int32) (hma : m_a X) : Met l y_M_here ws_M_hereF rm_M_hereF (nc_PreZ (dC, dI) cA cZ [.ref (a 0)] (w_M cA cZ a (.ref (a 10)) X)) (vp_Si (fun r => r = (f_M_hereF X))) 0 0 (fun _ => False) := by
  refine Met.ofW (cc := b_M_here) (maxL := 1) (ret := (some .int)) (by decide) rfl ?_
  intro p e s m args below meth c s₁ B hml hv
  obtain ⟨rfl, hP, hK, hD, hN⟩ := hv
  have hx := B.exec
  have hb := B.bytes
  have hr := B.returns
  have hts : ∀ w ∈ lw_G, w.before [.ref (a 0)].toArray s = true := fun w h => atoms_spec (ws := ws_M_hereF) B.pre w (List.mem_cons_of_mem _ h)
  have hown : s.vm.findClass R_M = some m.cls := findClass_of_methodNamed B.named
  have hlocks := B.notSynchronized
  have hfix : CallFix p m c b_M_here 1 s [.ref (a 0)].toArray lw_G R_M := ⟨hx, hb, hml, hown, hts⟩
  have hK1 := hK.sub (tys' := [(cA, .int)]) [0] rfl
  have hl := lv_entry ([.ref (a 0)]) (n := 1) (Nat.le_of_ble_eq_true rfl)
  rw [lg_entry_eq]
  generalize (lg_sl ([.ref (a 0)]) ++ List.replicate (1 - (lg_sl ([.ref (a 0)])).length) Slot.unset).toArray = ls at hl ⊢
  have hl : lv_has ls 1 [(0, .ref (a 0))] := hl
  refine lv_aload_n hx hb d_M_here_0 rfl (lv_at hl 0 rfl) ?_
  refine va_get (D := (dC, dI)) (ci := 4) (v := .int (X 14 0)) (C := R_M) (T := F_M) (N := 39) hx hb hts i_M hown hK hP 0 rfl rfl 14 (by decide) (hts _ m_f_M_97) (fun _ h9 => h9) rfl d_M_here_1 ?_
  refine lv_aload_n hx hb d_M_here_4 rfl (lv_at hl 0 rfl) ?_
  refine va_get (D := (dC, dI)) (ci := 4) (v := .int (X 13 0)) (C := R_M) (T := F_M) (N := 39) hx hb hts i_M hown hK hP 0 rfl rfl 13 (by decide) (hts _ m_f_M_94) (fun _ h9 => h9) rfl d_M_here_5 ?_
  refine lv_icmp_ge (tgt := 23) hx hb d_M_here_8 (by decide) (fun c_472 => ?_) (fun c_472 => ?_)
  · refine lv_iconst (v := (-1)) hx hb d_M_here_23 (by decide) ?_
    exact W.iret (v := (-1)) hx hb hr (fun t ht hW => ⟨(-1), rfl, by rw [f_M_hereF, if_pos c_472], ht⟩) (fun _ h => nomatch h) d_M_here_24
  · refine lv_aload_n hx hb d_M_here_11 rfl (lv_at hl 0 rfl) ?_
    refine va_get (D := (dC, dI)) (ci := 4) (v := .ref (a 10)) (C := R_M) (T := F_M) (N := 39) hx hb hts i_M hown hK hP 0 rfl rfl 12 (by decide) (hts _ m_f_M_91) (fun _ h9 => h9) rfl d_M_here_12 ?_
    refine lv_aload_n hx hb d_M_here_15 rfl (lv_at hl 0 rfl) ?_
    refine va_get (D := (dC, dI)) (ci := 4) (v := .int (X 14 0)) (C := R_M) (T := F_M) (N := 39) hx hb hts i_M hown hK hP 0 rfl rfl 14 (by decide) (hts _ m_f_M_97) (fun _ h9 => h9) rfl d_M_here_16 ?_
    refine va_iald (f := (X 24)) hx hb hK hP 10 0 rfl rfl (by have q0 := nc_nle c_472 rfl rfl; have q1 := hma.1; have q2 := hma.2.1; have q3 := hma.2.2; exact vp_in_iff.mpr ⟨by omega, by omega⟩) d_M_here_19 ?_
    refine lv_goto (tgt := 24) hx hb d_M_here_20 (by decide) ?_
    exact W.iret (v := ((X 24) ((X 14 0)).toNatClampNeg)) hx hb hr (fun t ht hW => ⟨((X 24) ((X 14 0)).toNatClampNeg), rfl, by rw [f_M_hereF, if_neg c_472], ht⟩) (fun _ h => nomatch h) d_M_here_24
theorem hereF_in {X : Nat → Nat → Int32} {lo hi : Int32} (h : ¬ f_M_in (f_M_hereF X) lo hi = 0) (hl : 0 ≤ lo.toInt) : ¬ (X 13 0) ≤ (X 14 0) := by
  intro c
  have h1 := (in_pos h).1
  unfold f_M_hereF at h1
  rw [if_pos c] at h1
  have h2 : (-1 : Int32).toInt = -1 := by decide
  omega
theorem hereF_eq {X : Nat → Nat → Int32} {y : Int32} (h : f_M_hereF X = y) (hy : ¬ y = -1) : ¬ (X 13 0) ≤ (X 14 0) := by
  intro c
  unfold f_M_hereF at h
  rw [if_pos c] at h
  exact hy h.symm
theorem hereF_gt {X : Nat → Nat → Int32} (h : ¬ f_M_hereF X ≤ 40) : ¬ (X 13 0) ≤ (X 14 0) := by
  intro c
  unfold f_M_hereF at h
  rw [if_pos c] at h
  exact h (by decide)
def f_M_isWordR (X : Nat → Nat → Int32) : Int32 := (f_M_in (f_M_hereR X) 0 29)
abbrev ws_M_isWordR : List Cond := .code y_M_isWord b_M_isWord 1 (some .boolean) :: lw_G
abbrev rm_M_isWordR : Room := { frames := 1, cells := 0, slots := 0, locals := 22 }
set_option maxHeartbeats 4000000 in
set_option maxRecDepth 100000 in
theorem c_M_isWordR (l : Launch) (dC : Nat → ClassId) (dI : Nat → Nat → Nat) (cA cZ : ClassId) (a : Nat → Nat) (X : Nat → Nat → Int32) (hma : m_a X) : Met l y_M_isWord ws_M_isWordR rm_M_isWordR (nc_PreZ (dC, dI) cA cZ [.ref (a 0)] (w_M cA cZ a (.ref (a 8)) X)) (vp_Si (fun r => (r = (f_M_isWordR X) ∧ narrow .boolean (.int r) = .int r))) 0 0 (fun _ => False) := by
  refine Met.ofW (cc := b_M_isWord) (maxL := 1) (ret := (some .boolean)) (by decide) rfl ?_
  intro p e s m args below meth c s₁ B hml hv
  obtain ⟨rfl, hP, hK, hD, hN⟩ := hv
  have hx := B.exec
  have hb := B.bytes
  have hr := B.returns
  have hts : ∀ w ∈ lw_G, w.before [.ref (a 0)].toArray s = true := fun w h => atoms_spec (ws := ws_M_isWordR) B.pre w (List.mem_cons_of_mem _ h)
  have hown : s.vm.findClass R_M = some m.cls := findClass_of_methodNamed B.named
  have hlocks := B.notSynchronized
  have hfix : CallFix p m c b_M_isWord 1 s [.ref (a 0)].toArray lw_G R_M := ⟨hx, hb, hml, hown, hts⟩
  have hK1 := hK.sub (tys' := [(cA, .int)]) [0] rfl
  have hl := lv_entry ([.ref (a 0)]) (n := 1) (Nat.le_of_ble_eq_true rfl)
  rw [lg_entry_eq]
  generalize (lg_sl ([.ref (a 0)]) ++ List.replicate (1 - (lg_sl ([.ref (a 0)])).length) Slot.unset).toArray = ls at hl ⊢
  have hl : lv_has ls 1 [(0, .ref (a 0))] := hl
  refine lv_aload_n hx hb d_M_isWord_0 rfl (lv_at hl 0 rfl) ?_
  refine nc_ro (va_runV (As := []) (rest := []) hfix (c_M_hereR l dC dI cA cZ a X hma) (k_M_104 hts hN ⟨Nat.le_of_ble_eq_true rfl, Nat.le_of_ble_eq_true rfl⟩) (nc_preVZ hK hN hP hD rfl rfl) rfl rfl hl.1 rfl (lv_room (Nat.le_of_ble_eq_true rfl)) d_M_isWord_1 ⟨Nat.zero_le _, Nat.zero_le _⟩) (fun r er => ?_)
  subst er
  refine lv_iconst (v := 0) hx hb d_M_isWord_4 (by decide) ?_
  refine lv_bipush (v := 29) hx hb d_M_isWord_5 (by decide) ?_
  refine nc_ro (va_runS (As := [.int (f_M_hereR X), .int 0, .int 29]) (rest := []) hfix (c_M_in l dC dI cA (f_M_hereR X) 0 29) (k_M_72 hts hN ⟨Nat.le_of_ble_eq_true rfl, Nat.le_of_ble_eq_true rfl⟩) (nc_preS0 hK1 hN) rfl rfl hl.1 rfl (lv_room (Nat.le_of_ble_eq_true rfl)) d_M_isWord_7 ⟨Nat.zero_le _, Nat.zero_le _⟩) (fun r er => ?_)
  obtain ⟨rfl, hz_473⟩ := er
  exact W.zret (v := (f_M_in (f_M_hereR X) 0 29)) hx hb hr hz_473 (fun t ht hW => ⟨(f_M_in (f_M_hereR X) 0 29), rfl, ⟨by rw [f_M_isWordR], hz_473⟩, ht⟩) (fun _ h => nomatch h) d_M_isWord_10
theorem isWordR_lt {X : Nat → Nat → Int32} (h : ¬ f_M_isWordR X = 0) : ¬ (X 13 0) ≤ (X 14 0) := hereR_in (lo := 0) (hi := 29) h (by decide)
def f_M_isWordF (X : Nat → Nat → Int32) : Int32 := (f_M_in (f_M_hereF X) 0 29)
abbrev ws_M_isWordF : List Cond := .code y_M_isWord b_M_isWord 1 (some .boolean) :: lw_G
abbrev rm_M_isWordF : Room := { frames := 1, cells := 0, slots := 0, locals := 22 }
set_option maxHeartbeats 4000000 in
set_option maxRecDepth 100000 in
theorem c_M_isWordF (l : Launch) (dC : Nat → ClassId) (dI : Nat → Nat → Nat) (cA cZ : ClassId) (a : Nat → Nat) (X : Nat → Nat → Int32) (hma : m_a X) : Met l y_M_isWord ws_M_isWordF rm_M_isWordF (nc_PreZ (dC, dI) cA cZ [.ref (a 0)] (w_M cA cZ a (.ref (a 10)) X)) (vp_Si (fun r => (r = (f_M_isWordF X) ∧ narrow .boolean (.int r) = .int r))) 0 0 (fun _ => False) := by
  refine Met.ofW (cc := b_M_isWord) (maxL := 1) (ret := (some .boolean)) (by decide) rfl ?_
  intro p e s m args below meth c s₁ B hml hv
  obtain ⟨rfl, hP, hK, hD, hN⟩ := hv
  have hx := B.exec
  have hb := B.bytes
  have hr := B.returns
  have hts : ∀ w ∈ lw_G, w.before [.ref (a 0)].toArray s = true := fun w h => atoms_spec (ws := ws_M_isWordF) B.pre w (List.mem_cons_of_mem _ h)
  have hown : s.vm.findClass R_M = some m.cls := findClass_of_methodNamed B.named
  have hlocks := B.notSynchronized
  have hfix : CallFix p m c b_M_isWord 1 s [.ref (a 0)].toArray lw_G R_M := ⟨hx, hb, hml, hown, hts⟩
  have hK1 := hK.sub (tys' := [(cA, .int)]) [0] rfl
  have hl := lv_entry ([.ref (a 0)]) (n := 1) (Nat.le_of_ble_eq_true rfl)
  rw [lg_entry_eq]
  generalize (lg_sl ([.ref (a 0)]) ++ List.replicate (1 - (lg_sl ([.ref (a 0)])).length) Slot.unset).toArray = ls at hl ⊢
  have hl : lv_has ls 1 [(0, .ref (a 0))] := hl
  refine lv_aload_n hx hb d_M_isWord_0 rfl (lv_at hl 0 rfl) ?_
  refine nc_ro (va_runV (As := []) (rest := []) hfix (c_M_hereF l dC dI cA cZ a X hma) (k_M_104 hts hN ⟨Nat.le_of_ble_eq_true rfl, Nat.le_of_ble_eq_true rfl⟩) (nc_preVZ hK hN hP hD rfl rfl) rfl rfl hl.1 rfl (lv_room (Nat.le_of_ble_eq_true rfl)) d_M_isWord_1 ⟨Nat.zero_le _, Nat.zero_le _⟩) (fun r er => ?_)
  subst er
  refine lv_iconst (v := 0) hx hb d_M_isWord_4 (by decide) ?_
  refine lv_bipush (v := 29) hx hb d_M_isWord_5 (by decide) ?_
  refine nc_ro (va_runS (As := [.int (f_M_hereF X), .int 0, .int 29]) (rest := []) hfix (c_M_in l dC dI cA (f_M_hereF X) 0 29) (k_M_72 hts hN ⟨Nat.le_of_ble_eq_true rfl, Nat.le_of_ble_eq_true rfl⟩) (nc_preS0 hK1 hN) rfl rfl hl.1 rfl (lv_room (Nat.le_of_ble_eq_true rfl)) d_M_isWord_7 ⟨Nat.zero_le _, Nat.zero_le _⟩) (fun r er => ?_)
  obtain ⟨rfl, hz_474⟩ := er
  exact W.zret (v := (f_M_in (f_M_hereF X) 0 29)) hx hb hr hz_474 (fun t ht hW => ⟨(f_M_in (f_M_hereF X) 0 29), rfl, ⟨by rw [f_M_isWordF], hz_474⟩, ht⟩) (fun _ h => nomatch h) d_M_isWord_10
theorem isWordF_lt {X : Nat → Nat → Int32} (h : ¬ f_M_isWordF X = 0) : ¬ (X 13 0) ≤ (X 14 0) := hereF_in (lo := 0) (hi := 29) h (by decide)
def f_M_readDescriptionR_L88  : Nat → (Nat → Nat → Int32) → (Nat → Nat → Int32)
  | 0, X => X
  | n + 1, X => (if (X 15 0) = 0 then (if (f_M_isWordR X) = 0 then X else (if 6 ≤ (X 18 0) then X else (f_M_readDescriptionR_L88 n (upf (upf (upf X 14 (fun _ => ((X 14 0) + 1))) 17 (upd (X 17) ((X 18 0) : Int32).toNatClampNeg (f_M_hereR X))) 18 (fun _ => ((X 18 0) + 1)))))) else X)
def f_M_readDescriptionR_L10  : Nat → (Nat → Nat → Int32) → (Nat → Nat → Int32)
  | 0, X => X
  | n + 1, X => (if (f_M_in (f_M_hereR X) 30 33) = 0 then (if (f_M_isWordR X) = 0 then (f_M_readDescriptionR_L88 (nc_mu 6 (X 18 0) + 1) (upf X 15 (fun _ => 1))) else (f_M_readDescriptionR_L88 (nc_mu 6 (X 18 0) + 1) (upf X 15 (fun _ => 0)))) else (if (f_M_has (X 16 0) ((f_M_hereR X) - 30)) = 0 then (f_M_readDescriptionR_L10 n (upf (upf X 14 (fun _ => ((X 14 0) + 1))) 16 (fun _ => ((X 16 0) ||| ((1 : Int32) <<< (((f_M_hereR X) - 30) &&& 31)))))) else (if (f_M_isWordR X) = 0 then (f_M_readDescriptionR_L88 (nc_mu 6 (X 18 0) + 1) (upf X 15 (fun _ => 1))) else (f_M_readDescriptionR_L88 (nc_mu 6 (X 18 0) + 1) (upf X 15 (fun _ => 0))))))
def f_M_readDescriptionR (X : Nat → Nat → Int32) : (Nat → Nat → Int32) := (f_M_readDescriptionR_L10 (nc_mu (X 13 0) (X 14 0) + 1) (upf (upf X 16 (fun _ => 0)) 18 (fun _ => 0)))
abbrev ws_M_readDescriptionR : List Cond := .code y_M_readDescription b_M_readDescription 1 none :: lw_G
abbrev rm_M_readDescriptionR : Room := { frames := 2, cells := 0, slots := 0, locals := 42 }
set_option maxHeartbeats 4000000 in
set_option maxRecDepth 100000 in
theorem c_M_readDescriptionR (l : Launch) (dC : Nat → ClassId) (dI : Nat → Nat → Nat) (cA cZ : ClassId) (sz : Nat) (a : Nat → Nat) (X : Nat → Nat → Int32) (hma : m_a X) : Met l y_M_readDescription ws_M_readDescriptionR rm_M_readDescriptionR (nc_PreZM (dC, dI) cA cZ sz [.ref (a 0)] (w_M cA cZ a (.ref (a 8)) X)) (va_Qv (fun _ : Unit => True) (fun _ t => va_P (dC, dI) classes (w_M cA cZ a (.ref (a 8)) (f_M_readDescriptionR X)) t.heap ∧ va_D (va_A (w_M cA cZ a (.ref (a 8)) X) sz) (w_M cA cZ a (.ref (a 8)) (f_M_readDescriptionR X))) (va_A (w_M cA cZ a (.ref (a 8)) X) sz)) 0 0 (va_A (w_M cA cZ a (.ref (a 8)) X) sz) := by
  refine Met.ofW (cc := b_M_readDescription) (maxL := 1) (ret := none) (by decide) rfl ?_
  intro p e s m args below meth c s₁ B hml hv
  obtain ⟨rfl, hsz, hP, hK, hD0, hN⟩ := hv
  have hx := B.exec
  have hb := B.bytes
  have hr := B.returns
  have hts : ∀ w ∈ lw_G, w.before [.ref (a 0)].toArray s = true := fun w h => atoms_spec (ws := ws_M_readDescriptionR) B.pre w (List.mem_cons_of_mem _ h)
  have hown : s.vm.findClass R_M = some m.cls := findClass_of_methodNamed B.named
  have hlocks := B.notSynchronized
  have hfix : CallFix p m c b_M_readDescription 1 s [.ref (a 0)].toArray lw_G R_M := ⟨hx, hb, hml, hown, hts⟩
  have hK1 := hK.sub (tys' := [(cA, .int)]) [0] rfl
  subst hsz
  have hD := hD0.self (sz := s.heap.size)
  generalize hAe : va_A (w_M cA cZ a (.ref (a 8)) X) s.heap.size = A at hD ⊢
  have hA : ∀ q : Nat, s.heap.size ≤ q → A q := fun q h => by rw [← hAe]; exact Or.inr h
  have hS : va_S A s.heap s.heap [] := va_S.rf
  have hl := lv_entry ([.ref (a 0)]) (n := 1) (Nat.le_of_ble_eq_true rfl)
  rw [lg_entry_eq]
  generalize (lg_sl ([.ref (a 0)]) ++ List.replicate (1 - (lg_sl ([.ref (a 0)])).length) Slot.unset).toArray = ls at hl ⊢
  have hl : lv_has ls 1 [(0, .ref (a 0))] := hl
  refine lv_aload_n hx hb d_M_readDescription_0 rfl (lv_at hl 0 rfl) ?_
  refine lv_iconst (v := 0) hx hb d_M_readDescription_1 (by decide) ?_
  refine va_put (D := (dC, dI)) (ci := 4) (v := .int 0) (ty := .int) (C := R_M) (T := F_M) (N := 39) hx hb hts i_M t_M t_M_ok n_M hown hK hP hD hS 0 rfl rfl 16 (by decide) (hts _ m_f_M_108) (fun _ h9 => h9) rfl (by decide +kernel) rfl rfl (Nat.le_of_ble_eq_true rfl) d_M_readDescription_2 (fun H locs hP hD hS => ?_)
  have hP : va_P (dC, dI) classes (w_M cA cZ a (.ref (a 8)) (upf X 16 (fun _ => 0))) H := hP
  have hD : va_D A (w_M cA cZ a (.ref (a 8)) (upf X 16 (fun _ => 0))) := hD
  refine lv_aload_n hx hb d_M_readDescription_5 rfl (lv_at hl 0 rfl) ?_
  refine lv_iconst (v := 0) hx hb d_M_readDescription_6 (by decide) ?_
  refine va_put (D := (dC, dI)) (ci := 4) (v := .int 0) (ty := .int) (C := R_M) (T := F_M) (N := 39) hx hb hts i_M t_M t_M_ok n_M hown hK hP hD hS 0 rfl rfl 18 (by decide) (hts _ m_f_M_111) (fun _ h9 => h9) rfl (by decide +kernel) rfl rfl (Nat.le_of_ble_eq_true rfl) d_M_readDescription_7 (fun H locs hP hD hS => ?_)
  have hP : va_P (dC, dI) classes (w_M cA cZ a (.ref (a 8)) (upf (upf X 16 (fun _ => 0)) 18 (fun _ => 0))) H := hP
  have hD : va_D A (w_M cA cZ a (.ref (a 8)) (upf (upf X 16 (fun _ => 0)) 18 (fun _ => 0))) := hD
  have loop_10 : ∀ (n : Nat) (Xq : (Nat → Nat → Int32)) (H : Heap) (locs : List Loc) (ls : Array Slot), (f_M_readDescriptionR X) = (f_M_readDescriptionR_L10 n Xq) → nc_mu (Xq 13 0) (Xq 14 0) < n → m_a Xq → 0 ≤ (Xq 18 0).toInt → va_P (dC, dI) classes (w_M cA cZ a (.ref (a 8)) Xq) H → va_D A (w_M cA cZ a (.ref (a 8)) Xq) → va_S A s.heap H locs → lv_has ls 1 [(0, .ref (a 0))] → W p l e (headSpec ws_M_readDescriptionR rm_M_readDescriptionR).room s m [.ref (a 0)].toArray below meth c H locs 0 0 (MQ below (va_Qv (fun _ : Unit => True) (fun _ t => va_P (dC, dI) classes (w_M cA cZ a (.ref (a 8)) (f_M_readDescriptionR X)) t.heap ∧ va_D A (w_M cA cZ a (.ref (a 8)) (f_M_readDescriptionR X))) A) [.ref (a 0)].toArray s 0 0 A) (F0 m 10 ls []) := by
    intro n
    induction n with
    | zero =>
      intro Xq H locs ls hE hm hma hw0 hP hD hS hl
      exact absurd hm (Nat.not_lt_zero _)
    | succ n ih =>
      intro Xq H locs ls hE hm hma hw0 hP hD hS hl
      refine lv_aload_n hx hb d_M_readDescription_10 rfl (lv_at hl 0 rfl) ?_
      refine nc_ro (va_runV (As := []) (rest := []) hfix (c_M_hereR l dC dI cA cZ a Xq hma) (k_M_104 hts hN ⟨Nat.le_of_ble_eq_true rfl, Nat.le_of_ble_eq_true rfl⟩) (nc_preVZ hK hN hP hD rfl rfl) rfl rfl hl.1 rfl (lv_room (Nat.le_of_ble_eq_true rfl)) d_M_readDescription_11 ⟨Nat.zero_le _, Nat.zero_le _⟩) (fun r er => ?_)
      subst er
      refine lv_bipush (v := 30) hx hb d_M_readDescription_14 (by decide) ?_
      refine lv_bipush (v := 33) hx hb d_M_readDescription_16 (by decide) ?_
      refine nc_ro (va_runS (As := [.int (f_M_hereR Xq), .int 30, .int 33]) (rest := []) hfix (c_M_in l dC dI cA (f_M_hereR Xq) 30 33) (k_M_72 hts hN ⟨Nat.le_of_ble_eq_true rfl, Nat.le_of_ble_eq_true rfl⟩) (nc_preS0 hK1 hN) rfl rfl hl.1 rfl (lv_room (Nat.le_of_ble_eq_true rfl)) d_M_readDescription_18 ⟨Nat.zero_le _, Nat.zero_le _⟩) (fun r er => ?_)
      obtain ⟨rfl, hz_475⟩ := er
      refine lv_if_eq (tgt := 72) hx hb d_M_readDescription_21 (by decide) (fun c_476 => ?_) (fun c_476 => ?_)
      · refine lv_aload_n hx hb d_M_readDescription_72 rfl (lv_at hl 0 rfl) ?_
        refine lv_aload_n hx hb d_M_readDescription_73 rfl (lv_at hl 0 rfl) ?_
        refine nc_ro (va_runV (As := []) (rest := [.ref (a 0)]) hfix (c_M_isWordR l dC dI cA cZ a Xq hma) (k_M_117 hts hN ⟨Nat.le_of_ble_eq_true rfl, Nat.le_of_ble_eq_true rfl⟩) (nc_preVZ hK hN hP hD rfl rfl) rfl rfl hl.1 rfl (lv_room (Nat.le_of_ble_eq_true rfl)) d_M_readDescription_74 ⟨Nat.zero_le _, Nat.zero_le _⟩) (fun r er => ?_)
        obtain ⟨rfl, hz_477⟩ := er
        refine lv_if_ne (tgt := 84) hx hb d_M_readDescription_77 (by decide) (fun c_478 => ?_) (fun c_478 => ?_)
        · refine lv_iconst (v := 0) hx hb d_M_readDescription_84 (by decide) ?_
          refine va_put (D := (dC, dI)) (ci := 4) (v := .int 0) (ty := .boolean) (C := R_M) (T := F_M) (N := 39) hx hb hts i_M t_M t_M_ok n_M hown hK hP hD hS 0 rfl rfl 15 (by decide) (hts _ m_f_M_100) (fun _ h9 => h9) rfl (by decide +kernel) rfl rfl (Nat.le_of_ble_eq_true rfl) d_M_readDescription_85 (fun H locs hP hD hS => ?_)
          have hP : va_P (dC, dI) classes (w_M cA cZ a (.ref (a 8)) (upf Xq 15 (fun _ => 0))) H := hP
          have hD : va_D A (w_M cA cZ a (.ref (a 8)) (upf Xq 15 (fun _ => 0))) := hD
          have loop_88 : ∀ (n : Nat) (Xq : (Nat → Nat → Int32)) (H : Heap) (locs : List Loc) (ls : Array Slot), (f_M_readDescriptionR X) = (f_M_readDescriptionR_L88 n Xq) → nc_mu 6 (Xq 18 0) < n → 0 ≤ (Xq 18 0).toInt → m_a Xq → va_P (dC, dI) classes (w_M cA cZ a (.ref (a 8)) Xq) H → va_D A (w_M cA cZ a (.ref (a 8)) Xq) → va_S A s.heap H locs → lv_has ls 1 [(0, .ref (a 0))] → W p l e (headSpec ws_M_readDescriptionR rm_M_readDescriptionR).room s m [.ref (a 0)].toArray below meth c H locs 0 0 (MQ below (va_Qv (fun _ : Unit => True) (fun _ t => va_P (dC, dI) classes (w_M cA cZ a (.ref (a 8)) (f_M_readDescriptionR X)) t.heap ∧ va_D A (w_M cA cZ a (.ref (a 8)) (f_M_readDescriptionR X))) A) [.ref (a 0)].toArray s 0 0 A) (F0 m 88 ls []) := by
            intro n
            induction n with
            | zero =>
              intro Xq H locs ls hE hm h0_88 hma hP hD hS hl
              exact absurd hm (Nat.not_lt_zero _)
            | succ n ih =>
              intro Xq H locs ls hE hm h0_88 hma hP hD hS hl
              refine lv_aload_n hx hb d_M_readDescription_88 rfl (lv_at hl 0 rfl) ?_
              refine va_get (D := (dC, dI)) (ci := 4) (v := .int (Xq 15 0)) (C := R_M) (T := F_M) (N := 39) hx hb hts i_M hown hK hP 0 rfl rfl 15 (by decide) (hts _ m_f_M_100) (fun _ h9 => h9) rfl d_M_readDescription_89 ?_
              refine lv_if_ne (tgt := 147) hx hb d_M_readDescription_92 (by decide) (fun c_479 => ?_) (fun c_479 => ?_)
              · have hF : (f_M_readDescriptionR X) = Xq := by rw [hE, f_M_readDescriptionR_L88, if_neg c_479]
                exact W.vret hx hb hr (fun t ht hW => ⟨⟨(), rfl, trivial, by rw [hF, ht]; exact hP, by rw [hF]; exact hD⟩, hS.F ht⟩) hS.2.2 d_M_readDescription_147
              · refine lv_aload_n hx hb d_M_readDescription_95 rfl (lv_at hl 0 rfl) ?_
                refine nc_ro (va_runV (As := []) (rest := []) hfix (c_M_isWordR l dC dI cA cZ a Xq hma) (k_M_117 hts hN ⟨Nat.le_of_ble_eq_true rfl, Nat.le_of_ble_eq_true rfl⟩) (nc_preVZ hK hN hP hD rfl rfl) rfl rfl hl.1 rfl (lv_room (Nat.le_of_ble_eq_true rfl)) d_M_readDescription_96 ⟨Nat.zero_le _, Nat.zero_le _⟩) (fun r er => ?_)
                obtain ⟨rfl, hz_480⟩ := er
                refine lv_if_eq (tgt := 147) hx hb d_M_readDescription_99 (by decide) (fun c_481 => ?_) (fun c_481 => ?_)
                · have hF : (f_M_readDescriptionR X) = Xq := by rw [hE, f_M_readDescriptionR_L88, if_pos c_479, if_pos c_481]
                  exact W.vret hx hb hr (fun t ht hW => ⟨⟨(), rfl, trivial, by rw [hF, ht]; exact hP, by rw [hF]; exact hD⟩, hS.F ht⟩) hS.2.2 d_M_readDescription_147
                · refine lv_aload_n hx hb d_M_readDescription_102 rfl (lv_at hl 0 rfl) ?_
                  refine va_get (D := (dC, dI)) (ci := 4) (v := .int (Xq 18 0)) (C := R_M) (T := F_M) (N := 39) hx hb hts i_M hown hK hP 0 rfl rfl 18 (by decide) (hts _ m_f_M_111) (fun _ h9 => h9) rfl d_M_readDescription_103 ?_
                  refine lv_bipush (v := 6) hx hb d_M_readDescription_106 (by decide) ?_
                  refine lv_icmp_ge (tgt := 147) hx hb d_M_readDescription_108 (by decide) (fun c_482 => ?_) (fun c_482 => ?_)
                  · have hF : (f_M_readDescriptionR X) = Xq := by rw [hE, f_M_readDescriptionR_L88, if_pos c_479, if_neg c_481, if_pos c_482]
                    exact W.vret hx hb hr (fun t ht hW => ⟨⟨(), rfl, trivial, by rw [hF, ht]; exact hP, by rw [hF]; exact hD⟩, hS.F ht⟩) hS.2.2 d_M_readDescription_147
                  · refine lv_aload_n hx hb d_M_readDescription_111 rfl (lv_at hl 0 rfl) ?_
                    refine va_get (D := (dC, dI)) (ci := 4) (v := .ref (a 9)) (C := R_M) (T := F_M) (N := 39) hx hb hts i_M hown hK hP 0 rfl rfl 17 (by decide) (hts _ m_f_M_41) (fun _ h9 => h9) rfl d_M_readDescription_112 ?_
                    refine lv_aload_n hx hb d_M_readDescription_115 rfl (lv_at hl 0 rfl) ?_
                    refine va_get (D := (dC, dI)) (ci := 4) (v := .int (Xq 18 0)) (C := R_M) (T := F_M) (N := 39) hx hb hts i_M hown hK hP 0 rfl rfl 18 (by decide) (hts _ m_f_M_111) (fun _ h9 => h9) rfl d_M_readDescription_116 ?_
                    refine lv_aload_n hx hb d_M_readDescription_119 rfl (lv_at hl 0 rfl) ?_
                    refine nc_ro (va_runV (As := []) (rest := [.int (Xq 18 0), .ref (a 9)]) hfix (c_M_hereR l dC dI cA cZ a Xq hma) (k_M_104 hts hN ⟨Nat.le_of_ble_eq_true rfl, Nat.le_of_ble_eq_true rfl⟩) (nc_preVZ hK hN hP hD rfl rfl) rfl rfl hl.1 rfl (lv_room (Nat.le_of_ble_eq_true rfl)) d_M_readDescription_120 ⟨Nat.zero_le _, Nat.zero_le _⟩) (fun r er => ?_)
                    subst er
                    refine va_iast (f := (Xq 17)) hx hb hK hP hD hS 9 0 rfl rfl (by have q0 := nc_eq c_479 rfl (L_0); have q1 := nc_ne c_481 rfl (L_0); have q2 := nc_nle c_482 (L_6) rfl; have q3 := hw0; have q4 := h0_88; exact vp_in_iff.mpr ⟨by omega, by omega⟩) d_M_readDescription_123 (fun H locs hP hD hS => ?_)
                    have hP : va_P (dC, dI) classes (w_M cA cZ a (.ref (a 8)) (upf Xq 17 (upd (Xq 17) ((Xq 18 0) : Int32).toNatClampNeg (f_M_hereR Xq)))) H := hP
                    have hD : va_D A (w_M cA cZ a (.ref (a 8)) (upf Xq 17 (upd (Xq 17) ((Xq 18 0) : Int32).toNatClampNeg (f_M_hereR Xq)))) := hD
                    refine lv_aload_n hx hb d_M_readDescription_124 rfl (lv_at hl 0 rfl) ?_
                    refine lv_dup hx hb d_M_readDescription_125 rfl ?_
                    refine va_get (D := (dC, dI)) (ci := 4) (v := .int (Xq 18 0)) (C := R_M) (T := F_M) (N := 39) hx hb hts i_M hown hK hP 0 rfl rfl 18 (by decide) (hts _ m_f_M_111) (fun _ h9 => h9) rfl d_M_readDescription_126 ?_
                    refine lv_iconst (v := 1) hx hb d_M_readDescription_129 (by decide) ?_
                    refine lv_iadd hx hb d_M_readDescription_130 ?_
                    refine va_put (D := (dC, dI)) (ci := 4) (v := .int ((Xq 18 0) + 1)) (ty := .int) (C := R_M) (T := F_M) (N := 39) hx hb hts i_M t_M t_M_ok n_M hown hK hP hD hS 0 rfl rfl 18 (by decide) (hts _ m_f_M_111) (fun _ h9 => h9) rfl (by decide +kernel) rfl rfl (Nat.le_of_ble_eq_true rfl) d_M_readDescription_131 (fun H locs hP hD hS => ?_)
                    have hP : va_P (dC, dI) classes (w_M cA cZ a (.ref (a 8)) (upf (upf Xq 17 (upd (Xq 17) ((Xq 18 0) : Int32).toNatClampNeg (f_M_hereR Xq))) 18 (fun _ => ((Xq 18 0) + 1)))) H := hP
                    have hD : va_D A (w_M cA cZ a (.ref (a 8)) (upf (upf Xq 17 (upd (Xq 17) ((Xq 18 0) : Int32).toNatClampNeg (f_M_hereR Xq))) 18 (fun _ => ((Xq 18 0) + 1)))) := hD
                    refine lv_aload_n hx hb d_M_readDescription_134 rfl (lv_at hl 0 rfl) ?_
                    refine lv_dup hx hb d_M_readDescription_135 rfl ?_
                    refine va_get (D := (dC, dI)) (ci := 4) (v := .int (Xq 14 0)) (C := R_M) (T := F_M) (N := 39) hx hb hts i_M hown hK hP 0 rfl rfl 14 (by decide) (hts _ m_f_M_97) (fun _ h9 => h9) rfl d_M_readDescription_136 ?_
                    refine lv_iconst (v := 1) hx hb d_M_readDescription_139 (by decide) ?_
                    refine lv_iadd hx hb d_M_readDescription_140 ?_
                    refine va_put (D := (dC, dI)) (ci := 4) (v := .int ((Xq 14 0) + 1)) (ty := .int) (C := R_M) (T := F_M) (N := 39) hx hb hts i_M t_M t_M_ok n_M hown hK hP hD hS 0 rfl rfl 14 (by decide) (hts _ m_f_M_97) (fun _ h9 => h9) rfl (by decide +kernel) rfl rfl (Nat.le_of_ble_eq_true rfl) d_M_readDescription_141 (fun H locs hP hD hS => ?_)
                    have hP : va_P (dC, dI) classes (w_M cA cZ a (.ref (a 8)) (upf (upf (upf Xq 14 (fun _ => ((Xq 14 0) + 1))) 17 (upd (Xq 17) ((Xq 18 0) : Int32).toNatClampNeg (f_M_hereR Xq))) 18 (fun _ => ((Xq 18 0) + 1)))) H := hP
                    have hD : va_D A (w_M cA cZ a (.ref (a 8)) (upf (upf (upf Xq 14 (fun _ => ((Xq 14 0) + 1))) 17 (upd (Xq 17) ((Xq 18 0) : Int32).toNatClampNeg (f_M_hereR Xq))) 18 (fun _ => ((Xq 18 0) + 1)))) := hD
                    refine lv_goto (tgt := 88) hx hb d_M_readDescription_144 (by decide) ?_
                    exact ih (upf (upf (upf Xq 14 (fun _ => ((Xq 14 0) + 1))) 17 (upd (Xq 17) ((Xq 18 0) : Int32).toNatClampNeg (f_M_hereR Xq))) 18 (fun _ => ((Xq 18 0) + 1)))  H locs ls (by rw [hE, f_M_readDescriptionR_L88, if_pos c_479, if_neg c_481, if_neg c_482]) (nc_mu_step c_482 hm) (nc_i_step c_482 h0_88) (ma_step (isWordR_lt c_481) hma) hP hD hS (lv_sub hl [0] rfl)
          exact loop_88 (nc_mu 6 (Xq 18 0) + 1) (upf Xq 15 (fun _ => 0)) H locs ls (by rw [hE, f_M_readDescriptionR_L10, if_pos c_476, if_neg c_478]) (Nat.lt_succ_self _) (hw0) hma hP hD hS (lv_sub hl [0] rfl)
        · refine lv_iconst (v := 1) hx hb d_M_readDescription_80 (by decide) ?_
          refine lv_goto (tgt := 85) hx hb d_M_readDescription_81 (by decide) ?_
          refine va_put (D := (dC, dI)) (ci := 4) (v := .int 1) (ty := .boolean) (C := R_M) (T := F_M) (N := 39) hx hb hts i_M t_M t_M_ok n_M hown hK hP hD hS 0 rfl rfl 15 (by decide) (hts _ m_f_M_100) (fun _ h9 => h9) rfl (by decide +kernel) rfl rfl (Nat.le_of_ble_eq_true rfl) d_M_readDescription_85 (fun H locs hP hD hS => ?_)
          have hP : va_P (dC, dI) classes (w_M cA cZ a (.ref (a 8)) (upf Xq 15 (fun _ => 1))) H := hP
          have hD : va_D A (w_M cA cZ a (.ref (a 8)) (upf Xq 15 (fun _ => 1))) := hD
          have loop_88 : ∀ (n : Nat) (Xq : (Nat → Nat → Int32)) (H : Heap) (locs : List Loc) (ls : Array Slot), (f_M_readDescriptionR X) = (f_M_readDescriptionR_L88 n Xq) → nc_mu 6 (Xq 18 0) < n → 0 ≤ (Xq 18 0).toInt → m_a Xq → va_P (dC, dI) classes (w_M cA cZ a (.ref (a 8)) Xq) H → va_D A (w_M cA cZ a (.ref (a 8)) Xq) → va_S A s.heap H locs → lv_has ls 1 [(0, .ref (a 0))] → W p l e (headSpec ws_M_readDescriptionR rm_M_readDescriptionR).room s m [.ref (a 0)].toArray below meth c H locs 0 0 (MQ below (va_Qv (fun _ : Unit => True) (fun _ t => va_P (dC, dI) classes (w_M cA cZ a (.ref (a 8)) (f_M_readDescriptionR X)) t.heap ∧ va_D A (w_M cA cZ a (.ref (a 8)) (f_M_readDescriptionR X))) A) [.ref (a 0)].toArray s 0 0 A) (F0 m 88 ls []) := by
            intro n
            induction n with
            | zero =>
              intro Xq H locs ls hE hm h0_88 hma hP hD hS hl
              exact absurd hm (Nat.not_lt_zero _)
            | succ n ih =>
              intro Xq H locs ls hE hm h0_88 hma hP hD hS hl
              refine lv_aload_n hx hb d_M_readDescription_88 rfl (lv_at hl 0 rfl) ?_
              refine va_get (D := (dC, dI)) (ci := 4) (v := .int (Xq 15 0)) (C := R_M) (T := F_M) (N := 39) hx hb hts i_M hown hK hP 0 rfl rfl 15 (by decide) (hts _ m_f_M_100) (fun _ h9 => h9) rfl d_M_readDescription_89 ?_
              refine lv_if_ne (tgt := 147) hx hb d_M_readDescription_92 (by decide) (fun c_483 => ?_) (fun c_483 => ?_)
              · have hF : (f_M_readDescriptionR X) = Xq := by rw [hE, f_M_readDescriptionR_L88, if_neg c_483]
                exact W.vret hx hb hr (fun t ht hW => ⟨⟨(), rfl, trivial, by rw [hF, ht]; exact hP, by rw [hF]; exact hD⟩, hS.F ht⟩) hS.2.2 d_M_readDescription_147
              · refine lv_aload_n hx hb d_M_readDescription_95 rfl (lv_at hl 0 rfl) ?_
                refine nc_ro (va_runV (As := []) (rest := []) hfix (c_M_isWordR l dC dI cA cZ a Xq hma) (k_M_117 hts hN ⟨Nat.le_of_ble_eq_true rfl, Nat.le_of_ble_eq_true rfl⟩) (nc_preVZ hK hN hP hD rfl rfl) rfl rfl hl.1 rfl (lv_room (Nat.le_of_ble_eq_true rfl)) d_M_readDescription_96 ⟨Nat.zero_le _, Nat.zero_le _⟩) (fun r er => ?_)
                obtain ⟨rfl, hz_484⟩ := er
                refine lv_if_eq (tgt := 147) hx hb d_M_readDescription_99 (by decide) (fun c_485 => ?_) (fun c_485 => ?_)
                · have hF : (f_M_readDescriptionR X) = Xq := by rw [hE, f_M_readDescriptionR_L88, if_pos c_483, if_pos c_485]
                  exact W.vret hx hb hr (fun t ht hW => ⟨⟨(), rfl, trivial, by rw [hF, ht]; exact hP, by rw [hF]; exact hD⟩, hS.F ht⟩) hS.2.2 d_M_readDescription_147
                · refine lv_aload_n hx hb d_M_readDescription_102 rfl (lv_at hl 0 rfl) ?_
                  refine va_get (D := (dC, dI)) (ci := 4) (v := .int (Xq 18 0)) (C := R_M) (T := F_M) (N := 39) hx hb hts i_M hown hK hP 0 rfl rfl 18 (by decide) (hts _ m_f_M_111) (fun _ h9 => h9) rfl d_M_readDescription_103 ?_
                  refine lv_bipush (v := 6) hx hb d_M_readDescription_106 (by decide) ?_
                  refine lv_icmp_ge (tgt := 147) hx hb d_M_readDescription_108 (by decide) (fun c_486 => ?_) (fun c_486 => ?_)
                  · have hF : (f_M_readDescriptionR X) = Xq := by rw [hE, f_M_readDescriptionR_L88, if_pos c_483, if_neg c_485, if_pos c_486]
                    exact W.vret hx hb hr (fun t ht hW => ⟨⟨(), rfl, trivial, by rw [hF, ht]; exact hP, by rw [hF]; exact hD⟩, hS.F ht⟩) hS.2.2 d_M_readDescription_147
                  · refine lv_aload_n hx hb d_M_readDescription_111 rfl (lv_at hl 0 rfl) ?_
                    refine va_get (D := (dC, dI)) (ci := 4) (v := .ref (a 9)) (C := R_M) (T := F_M) (N := 39) hx hb hts i_M hown hK hP 0 rfl rfl 17 (by decide) (hts _ m_f_M_41) (fun _ h9 => h9) rfl d_M_readDescription_112 ?_
                    refine lv_aload_n hx hb d_M_readDescription_115 rfl (lv_at hl 0 rfl) ?_
                    refine va_get (D := (dC, dI)) (ci := 4) (v := .int (Xq 18 0)) (C := R_M) (T := F_M) (N := 39) hx hb hts i_M hown hK hP 0 rfl rfl 18 (by decide) (hts _ m_f_M_111) (fun _ h9 => h9) rfl d_M_readDescription_116 ?_
                    refine lv_aload_n hx hb d_M_readDescription_119 rfl (lv_at hl 0 rfl) ?_
                    refine nc_ro (va_runV (As := []) (rest := [.int (Xq 18 0), .ref (a 9)]) hfix (c_M_hereR l dC dI cA cZ a Xq hma) (k_M_104 hts hN ⟨Nat.le_of_ble_eq_true rfl, Nat.le_of_ble_eq_true rfl⟩) (nc_preVZ hK hN hP hD rfl rfl) rfl rfl hl.1 rfl (lv_room (Nat.le_of_ble_eq_true rfl)) d_M_readDescription_120 ⟨Nat.zero_le _, Nat.zero_le _⟩) (fun r er => ?_)
                    subst er
                    refine va_iast (f := (Xq 17)) hx hb hK hP hD hS 9 0 rfl rfl (by have q0 := nc_eq c_483 rfl (L_0); have q1 := nc_ne c_485 rfl (L_0); have q2 := nc_nle c_486 (L_6) rfl; have q3 := hw0; have q4 := h0_88; exact vp_in_iff.mpr ⟨by omega, by omega⟩) d_M_readDescription_123 (fun H locs hP hD hS => ?_)
                    have hP : va_P (dC, dI) classes (w_M cA cZ a (.ref (a 8)) (upf Xq 17 (upd (Xq 17) ((Xq 18 0) : Int32).toNatClampNeg (f_M_hereR Xq)))) H := hP
                    have hD : va_D A (w_M cA cZ a (.ref (a 8)) (upf Xq 17 (upd (Xq 17) ((Xq 18 0) : Int32).toNatClampNeg (f_M_hereR Xq)))) := hD
                    refine lv_aload_n hx hb d_M_readDescription_124 rfl (lv_at hl 0 rfl) ?_
                    refine lv_dup hx hb d_M_readDescription_125 rfl ?_
                    refine va_get (D := (dC, dI)) (ci := 4) (v := .int (Xq 18 0)) (C := R_M) (T := F_M) (N := 39) hx hb hts i_M hown hK hP 0 rfl rfl 18 (by decide) (hts _ m_f_M_111) (fun _ h9 => h9) rfl d_M_readDescription_126 ?_
                    refine lv_iconst (v := 1) hx hb d_M_readDescription_129 (by decide) ?_
                    refine lv_iadd hx hb d_M_readDescription_130 ?_
                    refine va_put (D := (dC, dI)) (ci := 4) (v := .int ((Xq 18 0) + 1)) (ty := .int) (C := R_M) (T := F_M) (N := 39) hx hb hts i_M t_M t_M_ok n_M hown hK hP hD hS 0 rfl rfl 18 (by decide) (hts _ m_f_M_111) (fun _ h9 => h9) rfl (by decide +kernel) rfl rfl (Nat.le_of_ble_eq_true rfl) d_M_readDescription_131 (fun H locs hP hD hS => ?_)
                    have hP : va_P (dC, dI) classes (w_M cA cZ a (.ref (a 8)) (upf (upf Xq 17 (upd (Xq 17) ((Xq 18 0) : Int32).toNatClampNeg (f_M_hereR Xq))) 18 (fun _ => ((Xq 18 0) + 1)))) H := hP
                    have hD : va_D A (w_M cA cZ a (.ref (a 8)) (upf (upf Xq 17 (upd (Xq 17) ((Xq 18 0) : Int32).toNatClampNeg (f_M_hereR Xq))) 18 (fun _ => ((Xq 18 0) + 1)))) := hD
                    refine lv_aload_n hx hb d_M_readDescription_134 rfl (lv_at hl 0 rfl) ?_
                    refine lv_dup hx hb d_M_readDescription_135 rfl ?_
                    refine va_get (D := (dC, dI)) (ci := 4) (v := .int (Xq 14 0)) (C := R_M) (T := F_M) (N := 39) hx hb hts i_M hown hK hP 0 rfl rfl 14 (by decide) (hts _ m_f_M_97) (fun _ h9 => h9) rfl d_M_readDescription_136 ?_
                    refine lv_iconst (v := 1) hx hb d_M_readDescription_139 (by decide) ?_
                    refine lv_iadd hx hb d_M_readDescription_140 ?_
                    refine va_put (D := (dC, dI)) (ci := 4) (v := .int ((Xq 14 0) + 1)) (ty := .int) (C := R_M) (T := F_M) (N := 39) hx hb hts i_M t_M t_M_ok n_M hown hK hP hD hS 0 rfl rfl 14 (by decide) (hts _ m_f_M_97) (fun _ h9 => h9) rfl (by decide +kernel) rfl rfl (Nat.le_of_ble_eq_true rfl) d_M_readDescription_141 (fun H locs hP hD hS => ?_)
                    have hP : va_P (dC, dI) classes (w_M cA cZ a (.ref (a 8)) (upf (upf (upf Xq 14 (fun _ => ((Xq 14 0) + 1))) 17 (upd (Xq 17) ((Xq 18 0) : Int32).toNatClampNeg (f_M_hereR Xq))) 18 (fun _ => ((Xq 18 0) + 1)))) H := hP
                    have hD : va_D A (w_M cA cZ a (.ref (a 8)) (upf (upf (upf Xq 14 (fun _ => ((Xq 14 0) + 1))) 17 (upd (Xq 17) ((Xq 18 0) : Int32).toNatClampNeg (f_M_hereR Xq))) 18 (fun _ => ((Xq 18 0) + 1)))) := hD
                    refine lv_goto (tgt := 88) hx hb d_M_readDescription_144 (by decide) ?_
                    exact ih (upf (upf (upf Xq 14 (fun _ => ((Xq 14 0) + 1))) 17 (upd (Xq 17) ((Xq 18 0) : Int32).toNatClampNeg (f_M_hereR Xq))) 18 (fun _ => ((Xq 18 0) + 1)))  H locs ls (by rw [hE, f_M_readDescriptionR_L88, if_pos c_483, if_neg c_485, if_neg c_486]) (nc_mu_step c_486 hm) (nc_i_step c_486 h0_88) (ma_step (isWordR_lt c_485) hma) hP hD hS (lv_sub hl [0] rfl)
          exact loop_88 (nc_mu 6 (Xq 18 0) + 1) (upf Xq 15 (fun _ => 1)) H locs ls (by rw [hE, f_M_readDescriptionR_L10, if_pos c_476, if_pos c_478]) (Nat.lt_succ_self _) (hw0) hma hP hD hS (lv_sub hl [0] rfl)
      · refine lv_aload_n hx hb d_M_readDescription_24 rfl (lv_at hl 0 rfl) ?_
        refine va_get (D := (dC, dI)) (ci := 4) (v := .int (Xq 16 0)) (C := R_M) (T := F_M) (N := 39) hx hb hts i_M hown hK hP 0 rfl rfl 16 (by decide) (hts _ m_f_M_108) (fun _ h9 => h9) rfl d_M_readDescription_25 ?_
        refine lv_aload_n hx hb d_M_readDescription_28 rfl (lv_at hl 0 rfl) ?_
        refine nc_ro (va_runV (As := []) (rest := [.int (Xq 16 0)]) hfix (c_M_hereR l dC dI cA cZ a Xq hma) (k_M_104 hts hN ⟨Nat.le_of_ble_eq_true rfl, Nat.le_of_ble_eq_true rfl⟩) (nc_preVZ hK hN hP hD rfl rfl) rfl rfl hl.1 rfl (lv_room (Nat.le_of_ble_eq_true rfl)) d_M_readDescription_29 ⟨Nat.zero_le _, Nat.zero_le _⟩) (fun r er => ?_)
        subst er
        refine lv_bipush (v := 30) hx hb d_M_readDescription_32 (by decide) ?_
        refine lv_isub hx hb d_M_readDescription_34 ?_
        refine nc_ro (va_runS (As := [.int (Xq 16 0), .int ((f_M_hereR Xq) - 30)]) (rest := []) hfix (c_M_has l dC dI cA (Xq 16 0) ((f_M_hereR Xq) - 30)) (k_M_114 hts hN ⟨Nat.le_of_ble_eq_true rfl, Nat.le_of_ble_eq_true rfl⟩) (nc_preS0 hK1 hN) rfl rfl hl.1 rfl (lv_room (Nat.le_of_ble_eq_true rfl)) d_M_readDescription_35 ⟨Nat.zero_le _, Nat.zero_le _⟩) (fun r er => ?_)
        obtain ⟨rfl, hz_487⟩ := er
        refine lv_if_ne (tgt := 72) hx hb d_M_readDescription_38 (by decide) (fun c_488 => ?_) (fun c_488 => ?_)
        · refine lv_aload_n hx hb d_M_readDescription_72 rfl (lv_at hl 0 rfl) ?_
          refine lv_aload_n hx hb d_M_readDescription_73 rfl (lv_at hl 0 rfl) ?_
          refine nc_ro (va_runV (As := []) (rest := [.ref (a 0)]) hfix (c_M_isWordR l dC dI cA cZ a Xq hma) (k_M_117 hts hN ⟨Nat.le_of_ble_eq_true rfl, Nat.le_of_ble_eq_true rfl⟩) (nc_preVZ hK hN hP hD rfl rfl) rfl rfl hl.1 rfl (lv_room (Nat.le_of_ble_eq_true rfl)) d_M_readDescription_74 ⟨Nat.zero_le _, Nat.zero_le _⟩) (fun r er => ?_)
          obtain ⟨rfl, hz_489⟩ := er
          refine lv_if_ne (tgt := 84) hx hb d_M_readDescription_77 (by decide) (fun c_490 => ?_) (fun c_490 => ?_)
          · refine lv_iconst (v := 0) hx hb d_M_readDescription_84 (by decide) ?_
            refine va_put (D := (dC, dI)) (ci := 4) (v := .int 0) (ty := .boolean) (C := R_M) (T := F_M) (N := 39) hx hb hts i_M t_M t_M_ok n_M hown hK hP hD hS 0 rfl rfl 15 (by decide) (hts _ m_f_M_100) (fun _ h9 => h9) rfl (by decide +kernel) rfl rfl (Nat.le_of_ble_eq_true rfl) d_M_readDescription_85 (fun H locs hP hD hS => ?_)
            have hP : va_P (dC, dI) classes (w_M cA cZ a (.ref (a 8)) (upf Xq 15 (fun _ => 0))) H := hP
            have hD : va_D A (w_M cA cZ a (.ref (a 8)) (upf Xq 15 (fun _ => 0))) := hD
            have loop_88 : ∀ (n : Nat) (Xq : (Nat → Nat → Int32)) (H : Heap) (locs : List Loc) (ls : Array Slot), (f_M_readDescriptionR X) = (f_M_readDescriptionR_L88 n Xq) → nc_mu 6 (Xq 18 0) < n → 0 ≤ (Xq 18 0).toInt → m_a Xq → va_P (dC, dI) classes (w_M cA cZ a (.ref (a 8)) Xq) H → va_D A (w_M cA cZ a (.ref (a 8)) Xq) → va_S A s.heap H locs → lv_has ls 1 [(0, .ref (a 0))] → W p l e (headSpec ws_M_readDescriptionR rm_M_readDescriptionR).room s m [.ref (a 0)].toArray below meth c H locs 0 0 (MQ below (va_Qv (fun _ : Unit => True) (fun _ t => va_P (dC, dI) classes (w_M cA cZ a (.ref (a 8)) (f_M_readDescriptionR X)) t.heap ∧ va_D A (w_M cA cZ a (.ref (a 8)) (f_M_readDescriptionR X))) A) [.ref (a 0)].toArray s 0 0 A) (F0 m 88 ls []) := by
              intro n
              induction n with
              | zero =>
                intro Xq H locs ls hE hm h0_88 hma hP hD hS hl
                exact absurd hm (Nat.not_lt_zero _)
              | succ n ih =>
                intro Xq H locs ls hE hm h0_88 hma hP hD hS hl
                refine lv_aload_n hx hb d_M_readDescription_88 rfl (lv_at hl 0 rfl) ?_
                refine va_get (D := (dC, dI)) (ci := 4) (v := .int (Xq 15 0)) (C := R_M) (T := F_M) (N := 39) hx hb hts i_M hown hK hP 0 rfl rfl 15 (by decide) (hts _ m_f_M_100) (fun _ h9 => h9) rfl d_M_readDescription_89 ?_
                refine lv_if_ne (tgt := 147) hx hb d_M_readDescription_92 (by decide) (fun c_491 => ?_) (fun c_491 => ?_)
                · have hF : (f_M_readDescriptionR X) = Xq := by rw [hE, f_M_readDescriptionR_L88, if_neg c_491]
                  exact W.vret hx hb hr (fun t ht hW => ⟨⟨(), rfl, trivial, by rw [hF, ht]; exact hP, by rw [hF]; exact hD⟩, hS.F ht⟩) hS.2.2 d_M_readDescription_147
                · refine lv_aload_n hx hb d_M_readDescription_95 rfl (lv_at hl 0 rfl) ?_
                  refine nc_ro (va_runV (As := []) (rest := []) hfix (c_M_isWordR l dC dI cA cZ a Xq hma) (k_M_117 hts hN ⟨Nat.le_of_ble_eq_true rfl, Nat.le_of_ble_eq_true rfl⟩) (nc_preVZ hK hN hP hD rfl rfl) rfl rfl hl.1 rfl (lv_room (Nat.le_of_ble_eq_true rfl)) d_M_readDescription_96 ⟨Nat.zero_le _, Nat.zero_le _⟩) (fun r er => ?_)
                  obtain ⟨rfl, hz_492⟩ := er
                  refine lv_if_eq (tgt := 147) hx hb d_M_readDescription_99 (by decide) (fun c_493 => ?_) (fun c_493 => ?_)
                  · have hF : (f_M_readDescriptionR X) = Xq := by rw [hE, f_M_readDescriptionR_L88, if_pos c_491, if_pos c_493]
                    exact W.vret hx hb hr (fun t ht hW => ⟨⟨(), rfl, trivial, by rw [hF, ht]; exact hP, by rw [hF]; exact hD⟩, hS.F ht⟩) hS.2.2 d_M_readDescription_147
                  · refine lv_aload_n hx hb d_M_readDescription_102 rfl (lv_at hl 0 rfl) ?_
                    refine va_get (D := (dC, dI)) (ci := 4) (v := .int (Xq 18 0)) (C := R_M) (T := F_M) (N := 39) hx hb hts i_M hown hK hP 0 rfl rfl 18 (by decide) (hts _ m_f_M_111) (fun _ h9 => h9) rfl d_M_readDescription_103 ?_
                    refine lv_bipush (v := 6) hx hb d_M_readDescription_106 (by decide) ?_
                    refine lv_icmp_ge (tgt := 147) hx hb d_M_readDescription_108 (by decide) (fun c_494 => ?_) (fun c_494 => ?_)
                    · have hF : (f_M_readDescriptionR X) = Xq := by rw [hE, f_M_readDescriptionR_L88, if_pos c_491, if_neg c_493, if_pos c_494]
                      exact W.vret hx hb hr (fun t ht hW => ⟨⟨(), rfl, trivial, by rw [hF, ht]; exact hP, by rw [hF]; exact hD⟩, hS.F ht⟩) hS.2.2 d_M_readDescription_147
                    · refine lv_aload_n hx hb d_M_readDescription_111 rfl (lv_at hl 0 rfl) ?_
                      refine va_get (D := (dC, dI)) (ci := 4) (v := .ref (a 9)) (C := R_M) (T := F_M) (N := 39) hx hb hts i_M hown hK hP 0 rfl rfl 17 (by decide) (hts _ m_f_M_41) (fun _ h9 => h9) rfl d_M_readDescription_112 ?_
                      refine lv_aload_n hx hb d_M_readDescription_115 rfl (lv_at hl 0 rfl) ?_
                      refine va_get (D := (dC, dI)) (ci := 4) (v := .int (Xq 18 0)) (C := R_M) (T := F_M) (N := 39) hx hb hts i_M hown hK hP 0 rfl rfl 18 (by decide) (hts _ m_f_M_111) (fun _ h9 => h9) rfl d_M_readDescription_116 ?_
                      refine lv_aload_n hx hb d_M_readDescription_119 rfl (lv_at hl 0 rfl) ?_
                      refine nc_ro (va_runV (As := []) (rest := [.int (Xq 18 0), .ref (a 9)]) hfix (c_M_hereR l dC dI cA cZ a Xq hma) (k_M_104 hts hN ⟨Nat.le_of_ble_eq_true rfl, Nat.le_of_ble_eq_true rfl⟩) (nc_preVZ hK hN hP hD rfl rfl) rfl rfl hl.1 rfl (lv_room (Nat.le_of_ble_eq_true rfl)) d_M_readDescription_120 ⟨Nat.zero_le _, Nat.zero_le _⟩) (fun r er => ?_)
                      subst er
                      refine va_iast (f := (Xq 17)) hx hb hK hP hD hS 9 0 rfl rfl (by have q0 := nc_eq c_491 rfl (L_0); have q1 := nc_ne c_493 rfl (L_0); have q2 := nc_nle c_494 (L_6) rfl; have q3 := hw0; have q4 := L_30; have q5 := L_33; have q6 := in_pos c_476; have q7 := h0_88; exact vp_in_iff.mpr ⟨by omega, by omega⟩) d_M_readDescription_123 (fun H locs hP hD hS => ?_)
                      have hP : va_P (dC, dI) classes (w_M cA cZ a (.ref (a 8)) (upf Xq 17 (upd (Xq 17) ((Xq 18 0) : Int32).toNatClampNeg (f_M_hereR Xq)))) H := hP
                      have hD : va_D A (w_M cA cZ a (.ref (a 8)) (upf Xq 17 (upd (Xq 17) ((Xq 18 0) : Int32).toNatClampNeg (f_M_hereR Xq)))) := hD
                      refine lv_aload_n hx hb d_M_readDescription_124 rfl (lv_at hl 0 rfl) ?_
                      refine lv_dup hx hb d_M_readDescription_125 rfl ?_
                      refine va_get (D := (dC, dI)) (ci := 4) (v := .int (Xq 18 0)) (C := R_M) (T := F_M) (N := 39) hx hb hts i_M hown hK hP 0 rfl rfl 18 (by decide) (hts _ m_f_M_111) (fun _ h9 => h9) rfl d_M_readDescription_126 ?_
                      refine lv_iconst (v := 1) hx hb d_M_readDescription_129 (by decide) ?_
                      refine lv_iadd hx hb d_M_readDescription_130 ?_
                      refine va_put (D := (dC, dI)) (ci := 4) (v := .int ((Xq 18 0) + 1)) (ty := .int) (C := R_M) (T := F_M) (N := 39) hx hb hts i_M t_M t_M_ok n_M hown hK hP hD hS 0 rfl rfl 18 (by decide) (hts _ m_f_M_111) (fun _ h9 => h9) rfl (by decide +kernel) rfl rfl (Nat.le_of_ble_eq_true rfl) d_M_readDescription_131 (fun H locs hP hD hS => ?_)
                      have hP : va_P (dC, dI) classes (w_M cA cZ a (.ref (a 8)) (upf (upf Xq 17 (upd (Xq 17) ((Xq 18 0) : Int32).toNatClampNeg (f_M_hereR Xq))) 18 (fun _ => ((Xq 18 0) + 1)))) H := hP
                      have hD : va_D A (w_M cA cZ a (.ref (a 8)) (upf (upf Xq 17 (upd (Xq 17) ((Xq 18 0) : Int32).toNatClampNeg (f_M_hereR Xq))) 18 (fun _ => ((Xq 18 0) + 1)))) := hD
                      refine lv_aload_n hx hb d_M_readDescription_134 rfl (lv_at hl 0 rfl) ?_
                      refine lv_dup hx hb d_M_readDescription_135 rfl ?_
                      refine va_get (D := (dC, dI)) (ci := 4) (v := .int (Xq 14 0)) (C := R_M) (T := F_M) (N := 39) hx hb hts i_M hown hK hP 0 rfl rfl 14 (by decide) (hts _ m_f_M_97) (fun _ h9 => h9) rfl d_M_readDescription_136 ?_
                      refine lv_iconst (v := 1) hx hb d_M_readDescription_139 (by decide) ?_
                      refine lv_iadd hx hb d_M_readDescription_140 ?_
                      refine va_put (D := (dC, dI)) (ci := 4) (v := .int ((Xq 14 0) + 1)) (ty := .int) (C := R_M) (T := F_M) (N := 39) hx hb hts i_M t_M t_M_ok n_M hown hK hP hD hS 0 rfl rfl 14 (by decide) (hts _ m_f_M_97) (fun _ h9 => h9) rfl (by decide +kernel) rfl rfl (Nat.le_of_ble_eq_true rfl) d_M_readDescription_141 (fun H locs hP hD hS => ?_)
                      have hP : va_P (dC, dI) classes (w_M cA cZ a (.ref (a 8)) (upf (upf (upf Xq 14 (fun _ => ((Xq 14 0) + 1))) 17 (upd (Xq 17) ((Xq 18 0) : Int32).toNatClampNeg (f_M_hereR Xq))) 18 (fun _ => ((Xq 18 0) + 1)))) H := hP
                      have hD : va_D A (w_M cA cZ a (.ref (a 8)) (upf (upf (upf Xq 14 (fun _ => ((Xq 14 0) + 1))) 17 (upd (Xq 17) ((Xq 18 0) : Int32).toNatClampNeg (f_M_hereR Xq))) 18 (fun _ => ((Xq 18 0) + 1)))) := hD
                      refine lv_goto (tgt := 88) hx hb d_M_readDescription_144 (by decide) ?_
                      exact ih (upf (upf (upf Xq 14 (fun _ => ((Xq 14 0) + 1))) 17 (upd (Xq 17) ((Xq 18 0) : Int32).toNatClampNeg (f_M_hereR Xq))) 18 (fun _ => ((Xq 18 0) + 1)))  H locs ls (by rw [hE, f_M_readDescriptionR_L88, if_pos c_491, if_neg c_493, if_neg c_494]) (nc_mu_step c_494 hm) (nc_i_step c_494 h0_88) (ma_step (isWordR_lt c_493) hma) hP hD hS (lv_sub hl [0] rfl)
            exact loop_88 (nc_mu 6 (Xq 18 0) + 1) (upf Xq 15 (fun _ => 0)) H locs ls (by rw [hE, f_M_readDescriptionR_L10, if_neg c_476, if_neg c_488, if_neg c_490]) (Nat.lt_succ_self _) (hw0) hma hP hD hS (lv_sub hl [0] rfl)
          · refine lv_iconst (v := 1) hx hb d_M_readDescription_80 (by decide) ?_
            refine lv_goto (tgt := 85) hx hb d_M_readDescription_81 (by decide) ?_
            refine va_put (D := (dC, dI)) (ci := 4) (v := .int 1) (ty := .boolean) (C := R_M) (T := F_M) (N := 39) hx hb hts i_M t_M t_M_ok n_M hown hK hP hD hS 0 rfl rfl 15 (by decide) (hts _ m_f_M_100) (fun _ h9 => h9) rfl (by decide +kernel) rfl rfl (Nat.le_of_ble_eq_true rfl) d_M_readDescription_85 (fun H locs hP hD hS => ?_)
            have hP : va_P (dC, dI) classes (w_M cA cZ a (.ref (a 8)) (upf Xq 15 (fun _ => 1))) H := hP
            have hD : va_D A (w_M cA cZ a (.ref (a 8)) (upf Xq 15 (fun _ => 1))) := hD
            have loop_88 : ∀ (n : Nat) (Xq : (Nat → Nat → Int32)) (H : Heap) (locs : List Loc) (ls : Array Slot), (f_M_readDescriptionR X) = (f_M_readDescriptionR_L88 n Xq) → nc_mu 6 (Xq 18 0) < n → 0 ≤ (Xq 18 0).toInt → m_a Xq → va_P (dC, dI) classes (w_M cA cZ a (.ref (a 8)) Xq) H → va_D A (w_M cA cZ a (.ref (a 8)) Xq) → va_S A s.heap H locs → lv_has ls 1 [(0, .ref (a 0))] → W p l e (headSpec ws_M_readDescriptionR rm_M_readDescriptionR).room s m [.ref (a 0)].toArray below meth c H locs 0 0 (MQ below (va_Qv (fun _ : Unit => True) (fun _ t => va_P (dC, dI) classes (w_M cA cZ a (.ref (a 8)) (f_M_readDescriptionR X)) t.heap ∧ va_D A (w_M cA cZ a (.ref (a 8)) (f_M_readDescriptionR X))) A) [.ref (a 0)].toArray s 0 0 A) (F0 m 88 ls []) := by
              intro n
              induction n with
              | zero =>
                intro Xq H locs ls hE hm h0_88 hma hP hD hS hl
                exact absurd hm (Nat.not_lt_zero _)
              | succ n ih =>
                intro Xq H locs ls hE hm h0_88 hma hP hD hS hl
                refine lv_aload_n hx hb d_M_readDescription_88 rfl (lv_at hl 0 rfl) ?_
                refine va_get (D := (dC, dI)) (ci := 4) (v := .int (Xq 15 0)) (C := R_M) (T := F_M) (N := 39) hx hb hts i_M hown hK hP 0 rfl rfl 15 (by decide) (hts _ m_f_M_100) (fun _ h9 => h9) rfl d_M_readDescription_89 ?_
                refine lv_if_ne (tgt := 147) hx hb d_M_readDescription_92 (by decide) (fun c_495 => ?_) (fun c_495 => ?_)
                · have hF : (f_M_readDescriptionR X) = Xq := by rw [hE, f_M_readDescriptionR_L88, if_neg c_495]
                  exact W.vret hx hb hr (fun t ht hW => ⟨⟨(), rfl, trivial, by rw [hF, ht]; exact hP, by rw [hF]; exact hD⟩, hS.F ht⟩) hS.2.2 d_M_readDescription_147
                · refine lv_aload_n hx hb d_M_readDescription_95 rfl (lv_at hl 0 rfl) ?_
                  refine nc_ro (va_runV (As := []) (rest := []) hfix (c_M_isWordR l dC dI cA cZ a Xq hma) (k_M_117 hts hN ⟨Nat.le_of_ble_eq_true rfl, Nat.le_of_ble_eq_true rfl⟩) (nc_preVZ hK hN hP hD rfl rfl) rfl rfl hl.1 rfl (lv_room (Nat.le_of_ble_eq_true rfl)) d_M_readDescription_96 ⟨Nat.zero_le _, Nat.zero_le _⟩) (fun r er => ?_)
                  obtain ⟨rfl, hz_496⟩ := er
                  refine lv_if_eq (tgt := 147) hx hb d_M_readDescription_99 (by decide) (fun c_497 => ?_) (fun c_497 => ?_)
                  · have hF : (f_M_readDescriptionR X) = Xq := by rw [hE, f_M_readDescriptionR_L88, if_pos c_495, if_pos c_497]
                    exact W.vret hx hb hr (fun t ht hW => ⟨⟨(), rfl, trivial, by rw [hF, ht]; exact hP, by rw [hF]; exact hD⟩, hS.F ht⟩) hS.2.2 d_M_readDescription_147
                  · refine lv_aload_n hx hb d_M_readDescription_102 rfl (lv_at hl 0 rfl) ?_
                    refine va_get (D := (dC, dI)) (ci := 4) (v := .int (Xq 18 0)) (C := R_M) (T := F_M) (N := 39) hx hb hts i_M hown hK hP 0 rfl rfl 18 (by decide) (hts _ m_f_M_111) (fun _ h9 => h9) rfl d_M_readDescription_103 ?_
                    refine lv_bipush (v := 6) hx hb d_M_readDescription_106 (by decide) ?_
                    refine lv_icmp_ge (tgt := 147) hx hb d_M_readDescription_108 (by decide) (fun c_498 => ?_) (fun c_498 => ?_)
                    · have hF : (f_M_readDescriptionR X) = Xq := by rw [hE, f_M_readDescriptionR_L88, if_pos c_495, if_neg c_497, if_pos c_498]
                      exact W.vret hx hb hr (fun t ht hW => ⟨⟨(), rfl, trivial, by rw [hF, ht]; exact hP, by rw [hF]; exact hD⟩, hS.F ht⟩) hS.2.2 d_M_readDescription_147
                    · refine lv_aload_n hx hb d_M_readDescription_111 rfl (lv_at hl 0 rfl) ?_
                      refine va_get (D := (dC, dI)) (ci := 4) (v := .ref (a 9)) (C := R_M) (T := F_M) (N := 39) hx hb hts i_M hown hK hP 0 rfl rfl 17 (by decide) (hts _ m_f_M_41) (fun _ h9 => h9) rfl d_M_readDescription_112 ?_
                      refine lv_aload_n hx hb d_M_readDescription_115 rfl (lv_at hl 0 rfl) ?_
                      refine va_get (D := (dC, dI)) (ci := 4) (v := .int (Xq 18 0)) (C := R_M) (T := F_M) (N := 39) hx hb hts i_M hown hK hP 0 rfl rfl 18 (by decide) (hts _ m_f_M_111) (fun _ h9 => h9) rfl d_M_readDescription_116 ?_
                      refine lv_aload_n hx hb d_M_readDescription_119 rfl (lv_at hl 0 rfl) ?_
                      refine nc_ro (va_runV (As := []) (rest := [.int (Xq 18 0), .ref (a 9)]) hfix (c_M_hereR l dC dI cA cZ a Xq hma) (k_M_104 hts hN ⟨Nat.le_of_ble_eq_true rfl, Nat.le_of_ble_eq_true rfl⟩) (nc_preVZ hK hN hP hD rfl rfl) rfl rfl hl.1 rfl (lv_room (Nat.le_of_ble_eq_true rfl)) d_M_readDescription_120 ⟨Nat.zero_le _, Nat.zero_le _⟩) (fun r er => ?_)
                      subst er
                      refine va_iast (f := (Xq 17)) hx hb hK hP hD hS 9 0 rfl rfl (by have q0 := nc_eq c_495 rfl (L_0); have q1 := nc_ne c_497 rfl (L_0); have q2 := nc_nle c_498 (L_6) rfl; have q3 := hw0; have q4 := L_30; have q5 := L_33; have q6 := in_pos c_476; have q7 := h0_88; exact vp_in_iff.mpr ⟨by omega, by omega⟩) d_M_readDescription_123 (fun H locs hP hD hS => ?_)
                      have hP : va_P (dC, dI) classes (w_M cA cZ a (.ref (a 8)) (upf Xq 17 (upd (Xq 17) ((Xq 18 0) : Int32).toNatClampNeg (f_M_hereR Xq)))) H := hP
                      have hD : va_D A (w_M cA cZ a (.ref (a 8)) (upf Xq 17 (upd (Xq 17) ((Xq 18 0) : Int32).toNatClampNeg (f_M_hereR Xq)))) := hD
                      refine lv_aload_n hx hb d_M_readDescription_124 rfl (lv_at hl 0 rfl) ?_
                      refine lv_dup hx hb d_M_readDescription_125 rfl ?_
                      refine va_get (D := (dC, dI)) (ci := 4) (v := .int (Xq 18 0)) (C := R_M) (T := F_M) (N := 39) hx hb hts i_M hown hK hP 0 rfl rfl 18 (by decide) (hts _ m_f_M_111) (fun _ h9 => h9) rfl d_M_readDescription_126 ?_
                      refine lv_iconst (v := 1) hx hb d_M_readDescription_129 (by decide) ?_
                      refine lv_iadd hx hb d_M_readDescription_130 ?_
                      refine va_put (D := (dC, dI)) (ci := 4) (v := .int ((Xq 18 0) + 1)) (ty := .int) (C := R_M) (T := F_M) (N := 39) hx hb hts i_M t_M t_M_ok n_M hown hK hP hD hS 0 rfl rfl 18 (by decide) (hts _ m_f_M_111) (fun _ h9 => h9) rfl (by decide +kernel) rfl rfl (Nat.le_of_ble_eq_true rfl) d_M_readDescription_131 (fun H locs hP hD hS => ?_)
                      have hP : va_P (dC, dI) classes (w_M cA cZ a (.ref (a 8)) (upf (upf Xq 17 (upd (Xq 17) ((Xq 18 0) : Int32).toNatClampNeg (f_M_hereR Xq))) 18 (fun _ => ((Xq 18 0) + 1)))) H := hP
                      have hD : va_D A (w_M cA cZ a (.ref (a 8)) (upf (upf Xq 17 (upd (Xq 17) ((Xq 18 0) : Int32).toNatClampNeg (f_M_hereR Xq))) 18 (fun _ => ((Xq 18 0) + 1)))) := hD
                      refine lv_aload_n hx hb d_M_readDescription_134 rfl (lv_at hl 0 rfl) ?_
                      refine lv_dup hx hb d_M_readDescription_135 rfl ?_
                      refine va_get (D := (dC, dI)) (ci := 4) (v := .int (Xq 14 0)) (C := R_M) (T := F_M) (N := 39) hx hb hts i_M hown hK hP 0 rfl rfl 14 (by decide) (hts _ m_f_M_97) (fun _ h9 => h9) rfl d_M_readDescription_136 ?_
                      refine lv_iconst (v := 1) hx hb d_M_readDescription_139 (by decide) ?_
                      refine lv_iadd hx hb d_M_readDescription_140 ?_
                      refine va_put (D := (dC, dI)) (ci := 4) (v := .int ((Xq 14 0) + 1)) (ty := .int) (C := R_M) (T := F_M) (N := 39) hx hb hts i_M t_M t_M_ok n_M hown hK hP hD hS 0 rfl rfl 14 (by decide) (hts _ m_f_M_97) (fun _ h9 => h9) rfl (by decide +kernel) rfl rfl (Nat.le_of_ble_eq_true rfl) d_M_readDescription_141 (fun H locs hP hD hS => ?_)
                      have hP : va_P (dC, dI) classes (w_M cA cZ a (.ref (a 8)) (upf (upf (upf Xq 14 (fun _ => ((Xq 14 0) + 1))) 17 (upd (Xq 17) ((Xq 18 0) : Int32).toNatClampNeg (f_M_hereR Xq))) 18 (fun _ => ((Xq 18 0) + 1)))) H := hP
                      have hD : va_D A (w_M cA cZ a (.ref (a 8)) (upf (upf (upf Xq 14 (fun _ => ((Xq 14 0) + 1))) 17 (upd (Xq 17) ((Xq 18 0) : Int32).toNatClampNeg (f_M_hereR Xq))) 18 (fun _ => ((Xq 18 0) + 1)))) := hD
                      refine lv_goto (tgt := 88) hx hb d_M_readDescription_144 (by decide) ?_
                      exact ih (upf (upf (upf Xq 14 (fun _ => ((Xq 14 0) + 1))) 17 (upd (Xq 17) ((Xq 18 0) : Int32).toNatClampNeg (f_M_hereR Xq))) 18 (fun _ => ((Xq 18 0) + 1)))  H locs ls (by rw [hE, f_M_readDescriptionR_L88, if_pos c_495, if_neg c_497, if_neg c_498]) (nc_mu_step c_498 hm) (nc_i_step c_498 h0_88) (ma_step (isWordR_lt c_497) hma) hP hD hS (lv_sub hl [0] rfl)
            exact loop_88 (nc_mu 6 (Xq 18 0) + 1) (upf Xq 15 (fun _ => 1)) H locs ls (by rw [hE, f_M_readDescriptionR_L10, if_neg c_476, if_neg c_488, if_pos c_490]) (Nat.lt_succ_self _) (hw0) hma hP hD hS (lv_sub hl [0] rfl)
        · refine lv_aload_n hx hb d_M_readDescription_41 rfl (lv_at hl 0 rfl) ?_
          refine lv_aload_n hx hb d_M_readDescription_42 rfl (lv_at hl 0 rfl) ?_
          refine va_get (D := (dC, dI)) (ci := 4) (v := .int (Xq 16 0)) (C := R_M) (T := F_M) (N := 39) hx hb hts i_M hown hK hP 0 rfl rfl 16 (by decide) (hts _ m_f_M_108) (fun _ h9 => h9) rfl d_M_readDescription_43 ?_
          refine lv_iconst (v := 1) hx hb d_M_readDescription_46 (by decide) ?_
          refine lv_aload_n hx hb d_M_readDescription_47 rfl (lv_at hl 0 rfl) ?_
          refine nc_ro (va_runV (As := []) (rest := [.int 1, .int (Xq 16 0), .ref (a 0)]) hfix (c_M_hereR l dC dI cA cZ a Xq hma) (k_M_104 hts hN ⟨Nat.le_of_ble_eq_true rfl, Nat.le_of_ble_eq_true rfl⟩) (nc_preVZ hK hN hP hD rfl rfl) rfl rfl hl.1 rfl (lv_room (Nat.le_of_ble_eq_true rfl)) d_M_readDescription_48 ⟨Nat.zero_le _, Nat.zero_le _⟩) (fun r er => ?_)
          subst er
          refine lv_bipush (v := 30) hx hb d_M_readDescription_51 (by decide) ?_
          refine lv_isub hx hb d_M_readDescription_53 ?_
          refine lv_ishl hx hb d_M_readDescription_54 ?_
          refine lv_ior hx hb d_M_readDescription_55 ?_
          refine va_put (D := (dC, dI)) (ci := 4) (v := .int ((Xq 16 0) ||| ((1 : Int32) <<< (((f_M_hereR Xq) - 30) &&& 31)))) (ty := .int) (C := R_M) (T := F_M) (N := 39) hx hb hts i_M t_M t_M_ok n_M hown hK hP hD hS 0 rfl rfl 16 (by decide) (hts _ m_f_M_108) (fun _ h9 => h9) rfl (by decide +kernel) rfl rfl (Nat.le_of_ble_eq_true rfl) d_M_readDescription_56 (fun H locs hP hD hS => ?_)
          have hP : va_P (dC, dI) classes (w_M cA cZ a (.ref (a 8)) (upf Xq 16 (fun _ => ((Xq 16 0) ||| ((1 : Int32) <<< (((f_M_hereR Xq) - 30) &&& 31)))))) H := hP
          have hD : va_D A (w_M cA cZ a (.ref (a 8)) (upf Xq 16 (fun _ => ((Xq 16 0) ||| ((1 : Int32) <<< (((f_M_hereR Xq) - 30) &&& 31)))))) := hD
          refine lv_aload_n hx hb d_M_readDescription_59 rfl (lv_at hl 0 rfl) ?_
          refine lv_dup hx hb d_M_readDescription_60 rfl ?_
          refine va_get (D := (dC, dI)) (ci := 4) (v := .int (Xq 14 0)) (C := R_M) (T := F_M) (N := 39) hx hb hts i_M hown hK hP 0 rfl rfl 14 (by decide) (hts _ m_f_M_97) (fun _ h9 => h9) rfl d_M_readDescription_61 ?_
          refine lv_iconst (v := 1) hx hb d_M_readDescription_64 (by decide) ?_
          refine lv_iadd hx hb d_M_readDescription_65 ?_
          refine va_put (D := (dC, dI)) (ci := 4) (v := .int ((Xq 14 0) + 1)) (ty := .int) (C := R_M) (T := F_M) (N := 39) hx hb hts i_M t_M t_M_ok n_M hown hK hP hD hS 0 rfl rfl 14 (by decide) (hts _ m_f_M_97) (fun _ h9 => h9) rfl (by decide +kernel) rfl rfl (Nat.le_of_ble_eq_true rfl) d_M_readDescription_66 (fun H locs hP hD hS => ?_)
          have hP : va_P (dC, dI) classes (w_M cA cZ a (.ref (a 8)) (upf (upf Xq 14 (fun _ => ((Xq 14 0) + 1))) 16 (fun _ => ((Xq 16 0) ||| ((1 : Int32) <<< (((f_M_hereR Xq) - 30) &&& 31)))))) H := hP
          have hD : va_D A (w_M cA cZ a (.ref (a 8)) (upf (upf Xq 14 (fun _ => ((Xq 14 0) + 1))) 16 (fun _ => ((Xq 16 0) ||| ((1 : Int32) <<< (((f_M_hereR Xq) - 30) &&& 31)))))) := hD
          refine lv_goto (tgt := 10) hx hb d_M_readDescription_69 (by decide) ?_
          exact ih (upf (upf Xq 14 (fun _ => ((Xq 14 0) + 1))) 16 (fun _ => ((Xq 16 0) ||| ((1 : Int32) <<< (((f_M_hereR Xq) - 30) &&& 31)))))  H locs ls (by rw [hE, f_M_readDescriptionR_L10, if_neg c_476, if_pos c_488]) (nc_mu_step (hereR_in c_476 (by decide)) hm) (ma_step (hereR_in c_476 (by decide)) hma) hw0 hP hD hS (lv_sub hl [0] rfl)
  exact loop_10 (nc_mu (X 13 0) (X 14 0) + 1) (upf (upf X 16 (fun _ => 0)) 18 (fun _ => 0)) H locs ls (by rw [f_M_readDescriptionR]) (Nat.lt_succ_self _) hma (by show 0 ≤ (0 : Int32).toInt; decide) hP hD hS (lv_sub hl [0] rfl)
theorem rdR_fr8 {k : Nat} (h1 : Nat.beq k 14 = false) (h2 : Nat.beq k 17 = false) (h3 : Nat.beq k 18 = false) : ∀ (n : Nat) (X : Nat → Nat → Int32), f_M_readDescriptionR_L88 n X k = X k := by
  intro n
  induction n with
  | zero => intro X; rfl
  | succ n ih =>
    intro X
    rw [f_M_readDescriptionR_L88]
    split
    · split
      · rfl
      · split
        · rfl
        · rw [ih, upf_ne h3, upf_ne h2, upf_ne h1]
    · rfl
theorem rdR_fr10 {k : Nat} (h1 : Nat.beq k 14 = false) (h4 : Nat.beq k 15 = false) (h5 : Nat.beq k 16 = false) (h2 : Nat.beq k 17 = false) (h3 : Nat.beq k 18 = false) : ∀ (n : Nat) (X : Nat → Nat → Int32), f_M_readDescriptionR_L10 n X k = X k := by
  intro n
  induction n with
  | zero => intro X; rfl
  | succ n ih =>
    intro X
    rw [f_M_readDescriptionR_L10]
    split
    · split
      · rw [rdR_fr8 h1 h2 h3, upf_ne h4]
      · rw [rdR_fr8 h1 h2 h3, upf_ne h4]
    · split
      · rw [ih, upf_ne h5, upf_ne h1]
      · split
        · rw [rdR_fr8 h1 h2 h3, upf_ne h4]
        · rw [rdR_fr8 h1 h2 h3, upf_ne h4]
theorem rdR_fr {X : Nat → Nat → Int32} {k : Nat} (h1 : Nat.beq k 14 = false) (h4 : Nat.beq k 15 = false) (h5 : Nat.beq k 16 = false) (h2 : Nat.beq k 17 = false) (h3 : Nat.beq k 18 = false) : f_M_readDescriptionR X k = X k := by
  unfold f_M_readDescriptionR
  rw [rdR_fr10 h1 h4 h5 h2 h3, upf_ne h3, upf_ne h5]
theorem rd_tR {X : Nat → Nat → Int32} (h : m_t X) : m_t (f_M_readDescriptionR X) := by
  unfold m_t
  rw [rdR_fr rfl rfl rfl rfl rfl]
  exact h
theorem rd_kR {X : Nat → Nat → Int32} (h : m_k X) : m_k (f_M_readDescriptionR X) := by
  unfold m_k
  rw [rdR_fr rfl rfl rfl rfl rfl]
  exact h
theorem rdR_w8 : ∀ (n : Nat) (X : Nat → Nat → Int32), 0 ≤ (X 18 0).toInt → (X 18 0).toInt ≤ 6 → (X 18 0).toInt ≤ ((f_M_readDescriptionR_L88 n X) 18 0).toInt ∧ ((f_M_readDescriptionR_L88 n X) 18 0).toInt ≤ 6 ∧ (f_M_readDescriptionR_L88 n X) 15 = X 15 := by
  intro n
  induction n with
  | zero => intro X h1 h2; exact ⟨Int.le_refl _, h2, rfl⟩
  | succ n ih =>
    intro X h1 h2
    rw [f_M_readDescriptionR_L88]
    split
    · split
      · exact ⟨Int.le_refl _, h2, rfl⟩
      · split
        · exact ⟨Int.le_refl _, h2, rfl⟩
        · rename_i c
          have e1 := nc_add1 c
          have e2 := nc_nle c L_6 rfl
          obtain ⟨i1, i2, i3⟩ := ih (upf (upf (upf X 14 (fun _ => ((X 14 0) + 1))) 17 (upd (X 17) ((X 18 0) : Int32).toNatClampNeg (f_M_hereR X))) 18 (fun _ => ((X 18 0) + 1))) (by show 0 ≤ ((X 18 0) + 1).toInt; omega) (by show ((X 18 0) + 1).toInt ≤ 6; omega)
          have i1' : ((X 18 0) + 1).toInt ≤ ((f_M_readDescriptionR_L88 n (upf (upf (upf X 14 (fun _ => ((X 14 0) + 1))) 17 (upd (X 17) ((X 18 0) : Int32).toNatClampNeg (f_M_hereR X))) 18 (fun _ => ((X 18 0) + 1)))) 18 0).toInt := i1
          exact ⟨by omega, i2, i3⟩
    · exact ⟨Int.le_refl _, h2, rfl⟩
theorem rdR_w8p {n : Nat} {X : Nat → Nat → Int32} (h0 : X 18 0 = 0) (c1 : X 15 0 = 0) (c2 : ¬ f_M_isWordR X = 0) : 1 ≤ ((f_M_readDescriptionR_L88 (n + 1) X) 18 0).toInt ∧ ((f_M_readDescriptionR_L88 (n + 1) X) 18 0).toInt ≤ 6 := by
  have c3 : ¬ 6 ≤ X 18 0 := by rw [h0]; decide
  rw [f_M_readDescriptionR_L88, if_pos c1, if_neg c2, if_neg c3]
  have e1 : (X 18 0 + 1).toInt = 1 := by rw [h0]; decide
  obtain ⟨i1, i2, -⟩ := rdR_w8 n (upf (upf (upf X 14 (fun _ => ((X 14 0) + 1))) 17 (upd (X 17) ((X 18 0) : Int32).toNatClampNeg (f_M_hereR X))) 18 (fun _ => ((X 18 0) + 1))) (by show 0 ≤ ((X 18 0) + 1).toInt; omega) (by show ((X 18 0) + 1).toInt ≤ 6; omega)
  have i1' : ((X 18 0) + 1).toInt ≤ ((f_M_readDescriptionR_L88 n (upf (upf (upf X 14 (fun _ => ((X 14 0) + 1))) 17 (upd (X 17) ((X 18 0) : Int32).toNatClampNeg (f_M_hereR X))) 18 (fun _ => ((X 18 0) + 1)))) 18 0).toInt := i1
  exact ⟨by omega, i2⟩
theorem rdR_w15 {n : Nat} {X : Nat → Nat → Int32} (h0 : X 18 0 = 0) : (f_M_readDescriptionR_L88 n X) 15 = X 15 := (rdR_w8 n X (by rw [h0]; decide) (by rw [h0]; decide)).2.2
theorem rdR_w10 : ∀ (n : Nat) (X : Nat → Nat → Int32), nc_mu (X 13 0) (X 14 0) < n → X 18 0 = 0 → (f_M_readDescriptionR_L10 n X) 15 0 = 0 → 1 ≤ ((f_M_readDescriptionR_L10 n X) 18 0).toInt ∧ ((f_M_readDescriptionR_L10 n X) 18 0).toInt ≤ 6 := by
  intro n
  induction n with
  | zero => intro X hm; exact absurd hm (Nat.not_lt_zero _)
  | succ n ih =>
    intro X hm h0
    rw [f_M_readDescriptionR_L10]
    have bad : ∀ m : Nat, ¬ (f_M_readDescriptionR_L88 m (upf X 15 (fun _ => 1))) 15 0 = 0 := by
      intro m
      rw [rdR_w15 (X := upf X 15 (fun _ => 1)) h0]
      show ¬ (1 : Int32) = 0
      decide
    split
    · split
      · intro h; exact absurd h (bad _)
      · rename_i c
        intro _
        exact rdR_w8p (X := upf X 15 (fun _ => 0)) h0 rfl c
    · rename_i c
      split
      · exact ih _ (nc_mu_step (hereR_in c (by decide)) hm) h0
      · split
        · intro h; exact absurd h (bad _)
        · rename_i c2
          intro _
          exact rdR_w8p (X := upf X 15 (fun _ => 0)) h0 rfl c2
theorem rdR_w {X : Nat → Nat → Int32} (h : (f_M_readDescriptionR X) 15 0 = 0) : 1 ≤ ((f_M_readDescriptionR X) 18 0).toInt ∧ ((f_M_readDescriptionR X) 18 0).toInt ≤ 6 := by
  unfold f_M_readDescriptionR at h ⊢
  exact rdR_w10 _ _ (Nat.lt_succ_self _) rfl h
theorem rdR_a8 : ∀ (n : Nat) (X : Nat → Nat → Int32), m_a X → m_adv X (f_M_readDescriptionR_L88 n X) := by
  intro n
  induction n with
  | zero => intro X h; exact m_adv_rfl h
  | succ n ih =>
    intro X h
    rw [f_M_readDescriptionR_L88]
    split
    · split
      · exact m_adv_rfl h
      · rename_i c
        split
        · exact m_adv_rfl h
        · have s1 := m_adv_step (isWordR_lt c) h
          exact m_adv_trans s1 (ih _ s1.1)
    · exact m_adv_rfl h
theorem rdR_a10 : ∀ (n : Nat) (X : Nat → Nat → Int32), m_a X → m_adv X (f_M_readDescriptionR_L10 n X) := by
  intro n
  induction n with
  | zero => intro X h; exact m_adv_rfl h
  | succ n ih =>
    intro X h
    rw [f_M_readDescriptionR_L10]
    split
    · split
      · exact rdR_a8 _ (upf X 15 (fun _ => 1)) h
      · exact rdR_a8 _ (upf X 15 (fun _ => 0)) h
    · rename_i c
      split
      · have s1 := m_adv_step (hereR_in c (by decide)) h
        exact m_adv_trans s1 (ih _ s1.1)
      · split
        · exact rdR_a8 _ (upf X 15 (fun _ => 1)) h
        · exact rdR_a8 _ (upf X 15 (fun _ => 0)) h
theorem rdR_a {X : Nat → Nat → Int32} (h : m_a X) : m_adv X (f_M_readDescriptionR X) := by
  unfold f_M_readDescriptionR
  exact rdR_a10 _ (upf (upf X 16 (fun _ => 0)) 18 (fun _ => 0)) h
def f_M_readDescriptionF_L88  : Nat → (Nat → Nat → Int32) → (Nat → Nat → Int32)
  | 0, X => X
  | n + 1, X => (if (X 15 0) = 0 then (if (f_M_isWordF X) = 0 then X else (if 6 ≤ (X 18 0) then X else (f_M_readDescriptionF_L88 n (upf (upf (upf X 14 (fun _ => ((X 14 0) + 1))) 17 (upd (X 17) ((X 18 0) : Int32).toNatClampNeg (f_M_hereF X))) 18 (fun _ => ((X 18 0) + 1)))))) else X)
def f_M_readDescriptionF_L10  : Nat → (Nat → Nat → Int32) → (Nat → Nat → Int32)
  | 0, X => X
  | n + 1, X => (if (f_M_in (f_M_hereF X) 30 33) = 0 then (if (f_M_isWordF X) = 0 then (f_M_readDescriptionF_L88 (nc_mu 6 (X 18 0) + 1) (upf X 15 (fun _ => 1))) else (f_M_readDescriptionF_L88 (nc_mu 6 (X 18 0) + 1) (upf X 15 (fun _ => 0)))) else (if (f_M_has (X 16 0) ((f_M_hereF X) - 30)) = 0 then (f_M_readDescriptionF_L10 n (upf (upf X 14 (fun _ => ((X 14 0) + 1))) 16 (fun _ => ((X 16 0) ||| ((1 : Int32) <<< (((f_M_hereF X) - 30) &&& 31)))))) else (if (f_M_isWordF X) = 0 then (f_M_readDescriptionF_L88 (nc_mu 6 (X 18 0) + 1) (upf X 15 (fun _ => 1))) else (f_M_readDescriptionF_L88 (nc_mu 6 (X 18 0) + 1) (upf X 15 (fun _ => 0))))))
def f_M_readDescriptionF (X : Nat → Nat → Int32) : (Nat → Nat → Int32) := (f_M_readDescriptionF_L10 (nc_mu (X 13 0) (X 14 0) + 1) (upf (upf X 16 (fun _ => 0)) 18 (fun _ => 0)))
abbrev ws_M_readDescriptionF : List Cond := .code y_M_readDescription b_M_readDescription 1 none :: lw_G
abbrev rm_M_readDescriptionF : Room := { frames := 2, cells := 0, slots := 0, locals := 42 }
set_option maxHeartbeats 4000000 in
set_option maxRecDepth 100000 in
theorem c_M_readDescriptionF (l : Launch) (dC : Nat → ClassId) (dI : Nat → Nat → Nat) (cA cZ : ClassId) (sz : Nat) (a : Nat → Nat) (X : Nat → Nat → Int32) (hma : m_a X) : Met l y_M_readDescription ws_M_readDescriptionF rm_M_readDescriptionF (nc_PreZM (dC, dI) cA cZ sz [.ref (a 0)] (w_M cA cZ a (.ref (a 10)) X)) (va_Qv (fun _ : Unit => True) (fun _ t => va_P (dC, dI) classes (w_M cA cZ a (.ref (a 10)) (f_M_readDescriptionF X)) t.heap ∧ va_D (va_A (w_M cA cZ a (.ref (a 10)) X) sz) (w_M cA cZ a (.ref (a 10)) (f_M_readDescriptionF X))) (va_A (w_M cA cZ a (.ref (a 10)) X) sz)) 0 0 (va_A (w_M cA cZ a (.ref (a 10)) X) sz) := by
  refine Met.ofW (cc := b_M_readDescription) (maxL := 1) (ret := none) (by decide) rfl ?_
  intro p e s m args below meth c s₁ B hml hv
  obtain ⟨rfl, hsz, hP, hK, hD0, hN⟩ := hv
  have hx := B.exec
  have hb := B.bytes
  have hr := B.returns
  have hts : ∀ w ∈ lw_G, w.before [.ref (a 0)].toArray s = true := fun w h => atoms_spec (ws := ws_M_readDescriptionF) B.pre w (List.mem_cons_of_mem _ h)
  have hown : s.vm.findClass R_M = some m.cls := findClass_of_methodNamed B.named
  have hlocks := B.notSynchronized
  have hfix : CallFix p m c b_M_readDescription 1 s [.ref (a 0)].toArray lw_G R_M := ⟨hx, hb, hml, hown, hts⟩
  have hK1 := hK.sub (tys' := [(cA, .int)]) [0] rfl
  subst hsz
  have hD := hD0.self (sz := s.heap.size)
  generalize hAe : va_A (w_M cA cZ a (.ref (a 10)) X) s.heap.size = A at hD ⊢
  have hA : ∀ q : Nat, s.heap.size ≤ q → A q := fun q h => by rw [← hAe]; exact Or.inr h
  have hS : va_S A s.heap s.heap [] := va_S.rf
  have hl := lv_entry ([.ref (a 0)]) (n := 1) (Nat.le_of_ble_eq_true rfl)
  rw [lg_entry_eq]
  generalize (lg_sl ([.ref (a 0)]) ++ List.replicate (1 - (lg_sl ([.ref (a 0)])).length) Slot.unset).toArray = ls at hl ⊢
  have hl : lv_has ls 1 [(0, .ref (a 0))] := hl
  refine lv_aload_n hx hb d_M_readDescription_0 rfl (lv_at hl 0 rfl) ?_
  refine lv_iconst (v := 0) hx hb d_M_readDescription_1 (by decide) ?_
  refine va_put (D := (dC, dI)) (ci := 4) (v := .int 0) (ty := .int) (C := R_M) (T := F_M) (N := 39) hx hb hts i_M t_M t_M_ok n_M hown hK hP hD hS 0 rfl rfl 16 (by decide) (hts _ m_f_M_108) (fun _ h9 => h9) rfl (by decide +kernel) rfl rfl (Nat.le_of_ble_eq_true rfl) d_M_readDescription_2 (fun H locs hP hD hS => ?_)
  have hP : va_P (dC, dI) classes (w_M cA cZ a (.ref (a 10)) (upf X 16 (fun _ => 0))) H := hP
  have hD : va_D A (w_M cA cZ a (.ref (a 10)) (upf X 16 (fun _ => 0))) := hD
  refine lv_aload_n hx hb d_M_readDescription_5 rfl (lv_at hl 0 rfl) ?_
  refine lv_iconst (v := 0) hx hb d_M_readDescription_6 (by decide) ?_
  refine va_put (D := (dC, dI)) (ci := 4) (v := .int 0) (ty := .int) (C := R_M) (T := F_M) (N := 39) hx hb hts i_M t_M t_M_ok n_M hown hK hP hD hS 0 rfl rfl 18 (by decide) (hts _ m_f_M_111) (fun _ h9 => h9) rfl (by decide +kernel) rfl rfl (Nat.le_of_ble_eq_true rfl) d_M_readDescription_7 (fun H locs hP hD hS => ?_)
  have hP : va_P (dC, dI) classes (w_M cA cZ a (.ref (a 10)) (upf (upf X 16 (fun _ => 0)) 18 (fun _ => 0))) H := hP
  have hD : va_D A (w_M cA cZ a (.ref (a 10)) (upf (upf X 16 (fun _ => 0)) 18 (fun _ => 0))) := hD
  have loop_10 : ∀ (n : Nat) (Xq : (Nat → Nat → Int32)) (H : Heap) (locs : List Loc) (ls : Array Slot), (f_M_readDescriptionF X) = (f_M_readDescriptionF_L10 n Xq) → nc_mu (Xq 13 0) (Xq 14 0) < n → m_a Xq → 0 ≤ (Xq 18 0).toInt → va_P (dC, dI) classes (w_M cA cZ a (.ref (a 10)) Xq) H → va_D A (w_M cA cZ a (.ref (a 10)) Xq) → va_S A s.heap H locs → lv_has ls 1 [(0, .ref (a 0))] → W p l e (headSpec ws_M_readDescriptionF rm_M_readDescriptionF).room s m [.ref (a 0)].toArray below meth c H locs 0 0 (MQ below (va_Qv (fun _ : Unit => True) (fun _ t => va_P (dC, dI) classes (w_M cA cZ a (.ref (a 10)) (f_M_readDescriptionF X)) t.heap ∧ va_D A (w_M cA cZ a (.ref (a 10)) (f_M_readDescriptionF X))) A) [.ref (a 0)].toArray s 0 0 A) (F0 m 10 ls []) := by
    intro n
    induction n with
    | zero =>
      intro Xq H locs ls hE hm hma hw0 hP hD hS hl
      exact absurd hm (Nat.not_lt_zero _)
    | succ n ih =>
      intro Xq H locs ls hE hm hma hw0 hP hD hS hl
      refine lv_aload_n hx hb d_M_readDescription_10 rfl (lv_at hl 0 rfl) ?_
      refine nc_ro (va_runV (As := []) (rest := []) hfix (c_M_hereF l dC dI cA cZ a Xq hma) (k_M_104 hts hN ⟨Nat.le_of_ble_eq_true rfl, Nat.le_of_ble_eq_true rfl⟩) (nc_preVZ hK hN hP hD rfl rfl) rfl rfl hl.1 rfl (lv_room (Nat.le_of_ble_eq_true rfl)) d_M_readDescription_11 ⟨Nat.zero_le _, Nat.zero_le _⟩) (fun r er => ?_)
      subst er
      refine lv_bipush (v := 30) hx hb d_M_readDescription_14 (by decide) ?_
      refine lv_bipush (v := 33) hx hb d_M_readDescription_16 (by decide) ?_
      refine nc_ro (va_runS (As := [.int (f_M_hereF Xq), .int 30, .int 33]) (rest := []) hfix (c_M_in l dC dI cA (f_M_hereF Xq) 30 33) (k_M_72 hts hN ⟨Nat.le_of_ble_eq_true rfl, Nat.le_of_ble_eq_true rfl⟩) (nc_preS0 hK1 hN) rfl rfl hl.1 rfl (lv_room (Nat.le_of_ble_eq_true rfl)) d_M_readDescription_18 ⟨Nat.zero_le _, Nat.zero_le _⟩) (fun r er => ?_)
      obtain ⟨rfl, hz_499⟩ := er
      refine lv_if_eq (tgt := 72) hx hb d_M_readDescription_21 (by decide) (fun c_500 => ?_) (fun c_500 => ?_)
      · refine lv_aload_n hx hb d_M_readDescription_72 rfl (lv_at hl 0 rfl) ?_
        refine lv_aload_n hx hb d_M_readDescription_73 rfl (lv_at hl 0 rfl) ?_
        refine nc_ro (va_runV (As := []) (rest := [.ref (a 0)]) hfix (c_M_isWordF l dC dI cA cZ a Xq hma) (k_M_117 hts hN ⟨Nat.le_of_ble_eq_true rfl, Nat.le_of_ble_eq_true rfl⟩) (nc_preVZ hK hN hP hD rfl rfl) rfl rfl hl.1 rfl (lv_room (Nat.le_of_ble_eq_true rfl)) d_M_readDescription_74 ⟨Nat.zero_le _, Nat.zero_le _⟩) (fun r er => ?_)
        obtain ⟨rfl, hz_501⟩ := er
        refine lv_if_ne (tgt := 84) hx hb d_M_readDescription_77 (by decide) (fun c_502 => ?_) (fun c_502 => ?_)
        · refine lv_iconst (v := 0) hx hb d_M_readDescription_84 (by decide) ?_
          refine va_put (D := (dC, dI)) (ci := 4) (v := .int 0) (ty := .boolean) (C := R_M) (T := F_M) (N := 39) hx hb hts i_M t_M t_M_ok n_M hown hK hP hD hS 0 rfl rfl 15 (by decide) (hts _ m_f_M_100) (fun _ h9 => h9) rfl (by decide +kernel) rfl rfl (Nat.le_of_ble_eq_true rfl) d_M_readDescription_85 (fun H locs hP hD hS => ?_)
          have hP : va_P (dC, dI) classes (w_M cA cZ a (.ref (a 10)) (upf Xq 15 (fun _ => 0))) H := hP
          have hD : va_D A (w_M cA cZ a (.ref (a 10)) (upf Xq 15 (fun _ => 0))) := hD
          have loop_88 : ∀ (n : Nat) (Xq : (Nat → Nat → Int32)) (H : Heap) (locs : List Loc) (ls : Array Slot), (f_M_readDescriptionF X) = (f_M_readDescriptionF_L88 n Xq) → nc_mu 6 (Xq 18 0) < n → 0 ≤ (Xq 18 0).toInt → m_a Xq → va_P (dC, dI) classes (w_M cA cZ a (.ref (a 10)) Xq) H → va_D A (w_M cA cZ a (.ref (a 10)) Xq) → va_S A s.heap H locs → lv_has ls 1 [(0, .ref (a 0))] → W p l e (headSpec ws_M_readDescriptionF rm_M_readDescriptionF).room s m [.ref (a 0)].toArray below meth c H locs 0 0 (MQ below (va_Qv (fun _ : Unit => True) (fun _ t => va_P (dC, dI) classes (w_M cA cZ a (.ref (a 10)) (f_M_readDescriptionF X)) t.heap ∧ va_D A (w_M cA cZ a (.ref (a 10)) (f_M_readDescriptionF X))) A) [.ref (a 0)].toArray s 0 0 A) (F0 m 88 ls []) := by
            intro n
            induction n with
            | zero =>
              intro Xq H locs ls hE hm h0_88 hma hP hD hS hl
              exact absurd hm (Nat.not_lt_zero _)
            | succ n ih =>
              intro Xq H locs ls hE hm h0_88 hma hP hD hS hl
              refine lv_aload_n hx hb d_M_readDescription_88 rfl (lv_at hl 0 rfl) ?_
              refine va_get (D := (dC, dI)) (ci := 4) (v := .int (Xq 15 0)) (C := R_M) (T := F_M) (N := 39) hx hb hts i_M hown hK hP 0 rfl rfl 15 (by decide) (hts _ m_f_M_100) (fun _ h9 => h9) rfl d_M_readDescription_89 ?_
              refine lv_if_ne (tgt := 147) hx hb d_M_readDescription_92 (by decide) (fun c_503 => ?_) (fun c_503 => ?_)
              · have hF : (f_M_readDescriptionF X) = Xq := by rw [hE, f_M_readDescriptionF_L88, if_neg c_503]
                exact W.vret hx hb hr (fun t ht hW => ⟨⟨(), rfl, trivial, by rw [hF, ht]; exact hP, by rw [hF]; exact hD⟩, hS.F ht⟩) hS.2.2 d_M_readDescription_147
              · refine lv_aload_n hx hb d_M_readDescription_95 rfl (lv_at hl 0 rfl) ?_
                refine nc_ro (va_runV (As := []) (rest := []) hfix (c_M_isWordF l dC dI cA cZ a Xq hma) (k_M_117 hts hN ⟨Nat.le_of_ble_eq_true rfl, Nat.le_of_ble_eq_true rfl⟩) (nc_preVZ hK hN hP hD rfl rfl) rfl rfl hl.1 rfl (lv_room (Nat.le_of_ble_eq_true rfl)) d_M_readDescription_96 ⟨Nat.zero_le _, Nat.zero_le _⟩) (fun r er => ?_)
                obtain ⟨rfl, hz_504⟩ := er
                refine lv_if_eq (tgt := 147) hx hb d_M_readDescription_99 (by decide) (fun c_505 => ?_) (fun c_505 => ?_)
                · have hF : (f_M_readDescriptionF X) = Xq := by rw [hE, f_M_readDescriptionF_L88, if_pos c_503, if_pos c_505]
                  exact W.vret hx hb hr (fun t ht hW => ⟨⟨(), rfl, trivial, by rw [hF, ht]; exact hP, by rw [hF]; exact hD⟩, hS.F ht⟩) hS.2.2 d_M_readDescription_147
                · refine lv_aload_n hx hb d_M_readDescription_102 rfl (lv_at hl 0 rfl) ?_
                  refine va_get (D := (dC, dI)) (ci := 4) (v := .int (Xq 18 0)) (C := R_M) (T := F_M) (N := 39) hx hb hts i_M hown hK hP 0 rfl rfl 18 (by decide) (hts _ m_f_M_111) (fun _ h9 => h9) rfl d_M_readDescription_103 ?_
                  refine lv_bipush (v := 6) hx hb d_M_readDescription_106 (by decide) ?_
                  refine lv_icmp_ge (tgt := 147) hx hb d_M_readDescription_108 (by decide) (fun c_506 => ?_) (fun c_506 => ?_)
                  · have hF : (f_M_readDescriptionF X) = Xq := by rw [hE, f_M_readDescriptionF_L88, if_pos c_503, if_neg c_505, if_pos c_506]
                    exact W.vret hx hb hr (fun t ht hW => ⟨⟨(), rfl, trivial, by rw [hF, ht]; exact hP, by rw [hF]; exact hD⟩, hS.F ht⟩) hS.2.2 d_M_readDescription_147
                  · refine lv_aload_n hx hb d_M_readDescription_111 rfl (lv_at hl 0 rfl) ?_
                    refine va_get (D := (dC, dI)) (ci := 4) (v := .ref (a 9)) (C := R_M) (T := F_M) (N := 39) hx hb hts i_M hown hK hP 0 rfl rfl 17 (by decide) (hts _ m_f_M_41) (fun _ h9 => h9) rfl d_M_readDescription_112 ?_
                    refine lv_aload_n hx hb d_M_readDescription_115 rfl (lv_at hl 0 rfl) ?_
                    refine va_get (D := (dC, dI)) (ci := 4) (v := .int (Xq 18 0)) (C := R_M) (T := F_M) (N := 39) hx hb hts i_M hown hK hP 0 rfl rfl 18 (by decide) (hts _ m_f_M_111) (fun _ h9 => h9) rfl d_M_readDescription_116 ?_
                    refine lv_aload_n hx hb d_M_readDescription_119 rfl (lv_at hl 0 rfl) ?_
                    refine nc_ro (va_runV (As := []) (rest := [.int (Xq 18 0), .ref (a 9)]) hfix (c_M_hereF l dC dI cA cZ a Xq hma) (k_M_104 hts hN ⟨Nat.le_of_ble_eq_true rfl, Nat.le_of_ble_eq_true rfl⟩) (nc_preVZ hK hN hP hD rfl rfl) rfl rfl hl.1 rfl (lv_room (Nat.le_of_ble_eq_true rfl)) d_M_readDescription_120 ⟨Nat.zero_le _, Nat.zero_le _⟩) (fun r er => ?_)
                    subst er
                    refine va_iast (f := (Xq 17)) hx hb hK hP hD hS 9 0 rfl rfl (by have q0 := nc_eq c_503 rfl (L_0); have q1 := nc_ne c_505 rfl (L_0); have q2 := nc_nle c_506 (L_6) rfl; have q3 := hw0; have q4 := h0_88; exact vp_in_iff.mpr ⟨by omega, by omega⟩) d_M_readDescription_123 (fun H locs hP hD hS => ?_)
                    have hP : va_P (dC, dI) classes (w_M cA cZ a (.ref (a 10)) (upf Xq 17 (upd (Xq 17) ((Xq 18 0) : Int32).toNatClampNeg (f_M_hereF Xq)))) H := hP
                    have hD : va_D A (w_M cA cZ a (.ref (a 10)) (upf Xq 17 (upd (Xq 17) ((Xq 18 0) : Int32).toNatClampNeg (f_M_hereF Xq)))) := hD
                    refine lv_aload_n hx hb d_M_readDescription_124 rfl (lv_at hl 0 rfl) ?_
                    refine lv_dup hx hb d_M_readDescription_125 rfl ?_
                    refine va_get (D := (dC, dI)) (ci := 4) (v := .int (Xq 18 0)) (C := R_M) (T := F_M) (N := 39) hx hb hts i_M hown hK hP 0 rfl rfl 18 (by decide) (hts _ m_f_M_111) (fun _ h9 => h9) rfl d_M_readDescription_126 ?_
                    refine lv_iconst (v := 1) hx hb d_M_readDescription_129 (by decide) ?_
                    refine lv_iadd hx hb d_M_readDescription_130 ?_
                    refine va_put (D := (dC, dI)) (ci := 4) (v := .int ((Xq 18 0) + 1)) (ty := .int) (C := R_M) (T := F_M) (N := 39) hx hb hts i_M t_M t_M_ok n_M hown hK hP hD hS 0 rfl rfl 18 (by decide) (hts _ m_f_M_111) (fun _ h9 => h9) rfl (by decide +kernel) rfl rfl (Nat.le_of_ble_eq_true rfl) d_M_readDescription_131 (fun H locs hP hD hS => ?_)
                    have hP : va_P (dC, dI) classes (w_M cA cZ a (.ref (a 10)) (upf (upf Xq 17 (upd (Xq 17) ((Xq 18 0) : Int32).toNatClampNeg (f_M_hereF Xq))) 18 (fun _ => ((Xq 18 0) + 1)))) H := hP
                    have hD : va_D A (w_M cA cZ a (.ref (a 10)) (upf (upf Xq 17 (upd (Xq 17) ((Xq 18 0) : Int32).toNatClampNeg (f_M_hereF Xq))) 18 (fun _ => ((Xq 18 0) + 1)))) := hD
                    refine lv_aload_n hx hb d_M_readDescription_134 rfl (lv_at hl 0 rfl) ?_
                    refine lv_dup hx hb d_M_readDescription_135 rfl ?_
                    refine va_get (D := (dC, dI)) (ci := 4) (v := .int (Xq 14 0)) (C := R_M) (T := F_M) (N := 39) hx hb hts i_M hown hK hP 0 rfl rfl 14 (by decide) (hts _ m_f_M_97) (fun _ h9 => h9) rfl d_M_readDescription_136 ?_
                    refine lv_iconst (v := 1) hx hb d_M_readDescription_139 (by decide) ?_
                    refine lv_iadd hx hb d_M_readDescription_140 ?_
                    refine va_put (D := (dC, dI)) (ci := 4) (v := .int ((Xq 14 0) + 1)) (ty := .int) (C := R_M) (T := F_M) (N := 39) hx hb hts i_M t_M t_M_ok n_M hown hK hP hD hS 0 rfl rfl 14 (by decide) (hts _ m_f_M_97) (fun _ h9 => h9) rfl (by decide +kernel) rfl rfl (Nat.le_of_ble_eq_true rfl) d_M_readDescription_141 (fun H locs hP hD hS => ?_)
                    have hP : va_P (dC, dI) classes (w_M cA cZ a (.ref (a 10)) (upf (upf (upf Xq 14 (fun _ => ((Xq 14 0) + 1))) 17 (upd (Xq 17) ((Xq 18 0) : Int32).toNatClampNeg (f_M_hereF Xq))) 18 (fun _ => ((Xq 18 0) + 1)))) H := hP
                    have hD : va_D A (w_M cA cZ a (.ref (a 10)) (upf (upf (upf Xq 14 (fun _ => ((Xq 14 0) + 1))) 17 (upd (Xq 17) ((Xq 18 0) : Int32).toNatClampNeg (f_M_hereF Xq))) 18 (fun _ => ((Xq 18 0) + 1)))) := hD
                    refine lv_goto (tgt := 88) hx hb d_M_readDescription_144 (by decide) ?_
                    exact ih (upf (upf (upf Xq 14 (fun _ => ((Xq 14 0) + 1))) 17 (upd (Xq 17) ((Xq 18 0) : Int32).toNatClampNeg (f_M_hereF Xq))) 18 (fun _ => ((Xq 18 0) + 1)))  H locs ls (by rw [hE, f_M_readDescriptionF_L88, if_pos c_503, if_neg c_505, if_neg c_506]) (nc_mu_step c_506 hm) (nc_i_step c_506 h0_88) (ma_step (isWordF_lt c_505) hma) hP hD hS (lv_sub hl [0] rfl)
          exact loop_88 (nc_mu 6 (Xq 18 0) + 1) (upf Xq 15 (fun _ => 0)) H locs ls (by rw [hE, f_M_readDescriptionF_L10, if_pos c_500, if_neg c_502]) (Nat.lt_succ_self _) (hw0) hma hP hD hS (lv_sub hl [0] rfl)
        · refine lv_iconst (v := 1) hx hb d_M_readDescription_80 (by decide) ?_
          refine lv_goto (tgt := 85) hx hb d_M_readDescription_81 (by decide) ?_
          refine va_put (D := (dC, dI)) (ci := 4) (v := .int 1) (ty := .boolean) (C := R_M) (T := F_M) (N := 39) hx hb hts i_M t_M t_M_ok n_M hown hK hP hD hS 0 rfl rfl 15 (by decide) (hts _ m_f_M_100) (fun _ h9 => h9) rfl (by decide +kernel) rfl rfl (Nat.le_of_ble_eq_true rfl) d_M_readDescription_85 (fun H locs hP hD hS => ?_)
          have hP : va_P (dC, dI) classes (w_M cA cZ a (.ref (a 10)) (upf Xq 15 (fun _ => 1))) H := hP
          have hD : va_D A (w_M cA cZ a (.ref (a 10)) (upf Xq 15 (fun _ => 1))) := hD
          have loop_88 : ∀ (n : Nat) (Xq : (Nat → Nat → Int32)) (H : Heap) (locs : List Loc) (ls : Array Slot), (f_M_readDescriptionF X) = (f_M_readDescriptionF_L88 n Xq) → nc_mu 6 (Xq 18 0) < n → 0 ≤ (Xq 18 0).toInt → m_a Xq → va_P (dC, dI) classes (w_M cA cZ a (.ref (a 10)) Xq) H → va_D A (w_M cA cZ a (.ref (a 10)) Xq) → va_S A s.heap H locs → lv_has ls 1 [(0, .ref (a 0))] → W p l e (headSpec ws_M_readDescriptionF rm_M_readDescriptionF).room s m [.ref (a 0)].toArray below meth c H locs 0 0 (MQ below (va_Qv (fun _ : Unit => True) (fun _ t => va_P (dC, dI) classes (w_M cA cZ a (.ref (a 10)) (f_M_readDescriptionF X)) t.heap ∧ va_D A (w_M cA cZ a (.ref (a 10)) (f_M_readDescriptionF X))) A) [.ref (a 0)].toArray s 0 0 A) (F0 m 88 ls []) := by
            intro n
            induction n with
            | zero =>
              intro Xq H locs ls hE hm h0_88 hma hP hD hS hl
              exact absurd hm (Nat.not_lt_zero _)
            | succ n ih =>
              intro Xq H locs ls hE hm h0_88 hma hP hD hS hl
              refine lv_aload_n hx hb d_M_readDescription_88 rfl (lv_at hl 0 rfl) ?_
              refine va_get (D := (dC, dI)) (ci := 4) (v := .int (Xq 15 0)) (C := R_M) (T := F_M) (N := 39) hx hb hts i_M hown hK hP 0 rfl rfl 15 (by decide) (hts _ m_f_M_100) (fun _ h9 => h9) rfl d_M_readDescription_89 ?_
              refine lv_if_ne (tgt := 147) hx hb d_M_readDescription_92 (by decide) (fun c_507 => ?_) (fun c_507 => ?_)
              · have hF : (f_M_readDescriptionF X) = Xq := by rw [hE, f_M_readDescriptionF_L88, if_neg c_507]
                exact W.vret hx hb hr (fun t ht hW => ⟨⟨(), rfl, trivial, by rw [hF, ht]; exact hP, by rw [hF]; exact hD⟩, hS.F ht⟩) hS.2.2 d_M_readDescription_147
              · refine lv_aload_n hx hb d_M_readDescription_95 rfl (lv_at hl 0 rfl) ?_
                refine nc_ro (va_runV (As := []) (rest := []) hfix (c_M_isWordF l dC dI cA cZ a Xq hma) (k_M_117 hts hN ⟨Nat.le_of_ble_eq_true rfl, Nat.le_of_ble_eq_true rfl⟩) (nc_preVZ hK hN hP hD rfl rfl) rfl rfl hl.1 rfl (lv_room (Nat.le_of_ble_eq_true rfl)) d_M_readDescription_96 ⟨Nat.zero_le _, Nat.zero_le _⟩) (fun r er => ?_)
                obtain ⟨rfl, hz_508⟩ := er
                refine lv_if_eq (tgt := 147) hx hb d_M_readDescription_99 (by decide) (fun c_509 => ?_) (fun c_509 => ?_)
                · have hF : (f_M_readDescriptionF X) = Xq := by rw [hE, f_M_readDescriptionF_L88, if_pos c_507, if_pos c_509]
                  exact W.vret hx hb hr (fun t ht hW => ⟨⟨(), rfl, trivial, by rw [hF, ht]; exact hP, by rw [hF]; exact hD⟩, hS.F ht⟩) hS.2.2 d_M_readDescription_147
                · refine lv_aload_n hx hb d_M_readDescription_102 rfl (lv_at hl 0 rfl) ?_
                  refine va_get (D := (dC, dI)) (ci := 4) (v := .int (Xq 18 0)) (C := R_M) (T := F_M) (N := 39) hx hb hts i_M hown hK hP 0 rfl rfl 18 (by decide) (hts _ m_f_M_111) (fun _ h9 => h9) rfl d_M_readDescription_103 ?_
                  refine lv_bipush (v := 6) hx hb d_M_readDescription_106 (by decide) ?_
                  refine lv_icmp_ge (tgt := 147) hx hb d_M_readDescription_108 (by decide) (fun c_510 => ?_) (fun c_510 => ?_)
                  · have hF : (f_M_readDescriptionF X) = Xq := by rw [hE, f_M_readDescriptionF_L88, if_pos c_507, if_neg c_509, if_pos c_510]
                    exact W.vret hx hb hr (fun t ht hW => ⟨⟨(), rfl, trivial, by rw [hF, ht]; exact hP, by rw [hF]; exact hD⟩, hS.F ht⟩) hS.2.2 d_M_readDescription_147
                  · refine lv_aload_n hx hb d_M_readDescription_111 rfl (lv_at hl 0 rfl) ?_
                    refine va_get (D := (dC, dI)) (ci := 4) (v := .ref (a 9)) (C := R_M) (T := F_M) (N := 39) hx hb hts i_M hown hK hP 0 rfl rfl 17 (by decide) (hts _ m_f_M_41) (fun _ h9 => h9) rfl d_M_readDescription_112 ?_
                    refine lv_aload_n hx hb d_M_readDescription_115 rfl (lv_at hl 0 rfl) ?_
                    refine va_get (D := (dC, dI)) (ci := 4) (v := .int (Xq 18 0)) (C := R_M) (T := F_M) (N := 39) hx hb hts i_M hown hK hP 0 rfl rfl 18 (by decide) (hts _ m_f_M_111) (fun _ h9 => h9) rfl d_M_readDescription_116 ?_
                    refine lv_aload_n hx hb d_M_readDescription_119 rfl (lv_at hl 0 rfl) ?_
                    refine nc_ro (va_runV (As := []) (rest := [.int (Xq 18 0), .ref (a 9)]) hfix (c_M_hereF l dC dI cA cZ a Xq hma) (k_M_104 hts hN ⟨Nat.le_of_ble_eq_true rfl, Nat.le_of_ble_eq_true rfl⟩) (nc_preVZ hK hN hP hD rfl rfl) rfl rfl hl.1 rfl (lv_room (Nat.le_of_ble_eq_true rfl)) d_M_readDescription_120 ⟨Nat.zero_le _, Nat.zero_le _⟩) (fun r er => ?_)
                    subst er
                    refine va_iast (f := (Xq 17)) hx hb hK hP hD hS 9 0 rfl rfl (by have q0 := nc_eq c_507 rfl (L_0); have q1 := nc_ne c_509 rfl (L_0); have q2 := nc_nle c_510 (L_6) rfl; have q3 := hw0; have q4 := h0_88; exact vp_in_iff.mpr ⟨by omega, by omega⟩) d_M_readDescription_123 (fun H locs hP hD hS => ?_)
                    have hP : va_P (dC, dI) classes (w_M cA cZ a (.ref (a 10)) (upf Xq 17 (upd (Xq 17) ((Xq 18 0) : Int32).toNatClampNeg (f_M_hereF Xq)))) H := hP
                    have hD : va_D A (w_M cA cZ a (.ref (a 10)) (upf Xq 17 (upd (Xq 17) ((Xq 18 0) : Int32).toNatClampNeg (f_M_hereF Xq)))) := hD
                    refine lv_aload_n hx hb d_M_readDescription_124 rfl (lv_at hl 0 rfl) ?_
                    refine lv_dup hx hb d_M_readDescription_125 rfl ?_
                    refine va_get (D := (dC, dI)) (ci := 4) (v := .int (Xq 18 0)) (C := R_M) (T := F_M) (N := 39) hx hb hts i_M hown hK hP 0 rfl rfl 18 (by decide) (hts _ m_f_M_111) (fun _ h9 => h9) rfl d_M_readDescription_126 ?_
                    refine lv_iconst (v := 1) hx hb d_M_readDescription_129 (by decide) ?_
                    refine lv_iadd hx hb d_M_readDescription_130 ?_
                    refine va_put (D := (dC, dI)) (ci := 4) (v := .int ((Xq 18 0) + 1)) (ty := .int) (C := R_M) (T := F_M) (N := 39) hx hb hts i_M t_M t_M_ok n_M hown hK hP hD hS 0 rfl rfl 18 (by decide) (hts _ m_f_M_111) (fun _ h9 => h9) rfl (by decide +kernel) rfl rfl (Nat.le_of_ble_eq_true rfl) d_M_readDescription_131 (fun H locs hP hD hS => ?_)
                    have hP : va_P (dC, dI) classes (w_M cA cZ a (.ref (a 10)) (upf (upf Xq 17 (upd (Xq 17) ((Xq 18 0) : Int32).toNatClampNeg (f_M_hereF Xq))) 18 (fun _ => ((Xq 18 0) + 1)))) H := hP
                    have hD : va_D A (w_M cA cZ a (.ref (a 10)) (upf (upf Xq 17 (upd (Xq 17) ((Xq 18 0) : Int32).toNatClampNeg (f_M_hereF Xq))) 18 (fun _ => ((Xq 18 0) + 1)))) := hD
                    refine lv_aload_n hx hb d_M_readDescription_134 rfl (lv_at hl 0 rfl) ?_
                    refine lv_dup hx hb d_M_readDescription_135 rfl ?_
                    refine va_get (D := (dC, dI)) (ci := 4) (v := .int (Xq 14 0)) (C := R_M) (T := F_M) (N := 39) hx hb hts i_M hown hK hP 0 rfl rfl 14 (by decide) (hts _ m_f_M_97) (fun _ h9 => h9) rfl d_M_readDescription_136 ?_
                    refine lv_iconst (v := 1) hx hb d_M_readDescription_139 (by decide) ?_
                    refine lv_iadd hx hb d_M_readDescription_140 ?_
                    refine va_put (D := (dC, dI)) (ci := 4) (v := .int ((Xq 14 0) + 1)) (ty := .int) (C := R_M) (T := F_M) (N := 39) hx hb hts i_M t_M t_M_ok n_M hown hK hP hD hS 0 rfl rfl 14 (by decide) (hts _ m_f_M_97) (fun _ h9 => h9) rfl (by decide +kernel) rfl rfl (Nat.le_of_ble_eq_true rfl) d_M_readDescription_141 (fun H locs hP hD hS => ?_)
                    have hP : va_P (dC, dI) classes (w_M cA cZ a (.ref (a 10)) (upf (upf (upf Xq 14 (fun _ => ((Xq 14 0) + 1))) 17 (upd (Xq 17) ((Xq 18 0) : Int32).toNatClampNeg (f_M_hereF Xq))) 18 (fun _ => ((Xq 18 0) + 1)))) H := hP
                    have hD : va_D A (w_M cA cZ a (.ref (a 10)) (upf (upf (upf Xq 14 (fun _ => ((Xq 14 0) + 1))) 17 (upd (Xq 17) ((Xq 18 0) : Int32).toNatClampNeg (f_M_hereF Xq))) 18 (fun _ => ((Xq 18 0) + 1)))) := hD
                    refine lv_goto (tgt := 88) hx hb d_M_readDescription_144 (by decide) ?_
                    exact ih (upf (upf (upf Xq 14 (fun _ => ((Xq 14 0) + 1))) 17 (upd (Xq 17) ((Xq 18 0) : Int32).toNatClampNeg (f_M_hereF Xq))) 18 (fun _ => ((Xq 18 0) + 1)))  H locs ls (by rw [hE, f_M_readDescriptionF_L88, if_pos c_507, if_neg c_509, if_neg c_510]) (nc_mu_step c_510 hm) (nc_i_step c_510 h0_88) (ma_step (isWordF_lt c_509) hma) hP hD hS (lv_sub hl [0] rfl)
          exact loop_88 (nc_mu 6 (Xq 18 0) + 1) (upf Xq 15 (fun _ => 1)) H locs ls (by rw [hE, f_M_readDescriptionF_L10, if_pos c_500, if_pos c_502]) (Nat.lt_succ_self _) (hw0) hma hP hD hS (lv_sub hl [0] rfl)
      · refine lv_aload_n hx hb d_M_readDescription_24 rfl (lv_at hl 0 rfl) ?_
        refine va_get (D := (dC, dI)) (ci := 4) (v := .int (Xq 16 0)) (C := R_M) (T := F_M) (N := 39) hx hb hts i_M hown hK hP 0 rfl rfl 16 (by decide) (hts _ m_f_M_108) (fun _ h9 => h9) rfl d_M_readDescription_25 ?_
        refine lv_aload_n hx hb d_M_readDescription_28 rfl (lv_at hl 0 rfl) ?_
        refine nc_ro (va_runV (As := []) (rest := [.int (Xq 16 0)]) hfix (c_M_hereF l dC dI cA cZ a Xq hma) (k_M_104 hts hN ⟨Nat.le_of_ble_eq_true rfl, Nat.le_of_ble_eq_true rfl⟩) (nc_preVZ hK hN hP hD rfl rfl) rfl rfl hl.1 rfl (lv_room (Nat.le_of_ble_eq_true rfl)) d_M_readDescription_29 ⟨Nat.zero_le _, Nat.zero_le _⟩) (fun r er => ?_)
        subst er
        refine lv_bipush (v := 30) hx hb d_M_readDescription_32 (by decide) ?_
        refine lv_isub hx hb d_M_readDescription_34 ?_
        refine nc_ro (va_runS (As := [.int (Xq 16 0), .int ((f_M_hereF Xq) - 30)]) (rest := []) hfix (c_M_has l dC dI cA (Xq 16 0) ((f_M_hereF Xq) - 30)) (k_M_114 hts hN ⟨Nat.le_of_ble_eq_true rfl, Nat.le_of_ble_eq_true rfl⟩) (nc_preS0 hK1 hN) rfl rfl hl.1 rfl (lv_room (Nat.le_of_ble_eq_true rfl)) d_M_readDescription_35 ⟨Nat.zero_le _, Nat.zero_le _⟩) (fun r er => ?_)
        obtain ⟨rfl, hz_511⟩ := er
        refine lv_if_ne (tgt := 72) hx hb d_M_readDescription_38 (by decide) (fun c_512 => ?_) (fun c_512 => ?_)
        · refine lv_aload_n hx hb d_M_readDescription_72 rfl (lv_at hl 0 rfl) ?_
          refine lv_aload_n hx hb d_M_readDescription_73 rfl (lv_at hl 0 rfl) ?_
          refine nc_ro (va_runV (As := []) (rest := [.ref (a 0)]) hfix (c_M_isWordF l dC dI cA cZ a Xq hma) (k_M_117 hts hN ⟨Nat.le_of_ble_eq_true rfl, Nat.le_of_ble_eq_true rfl⟩) (nc_preVZ hK hN hP hD rfl rfl) rfl rfl hl.1 rfl (lv_room (Nat.le_of_ble_eq_true rfl)) d_M_readDescription_74 ⟨Nat.zero_le _, Nat.zero_le _⟩) (fun r er => ?_)
          obtain ⟨rfl, hz_513⟩ := er
          refine lv_if_ne (tgt := 84) hx hb d_M_readDescription_77 (by decide) (fun c_514 => ?_) (fun c_514 => ?_)
          · refine lv_iconst (v := 0) hx hb d_M_readDescription_84 (by decide) ?_
            refine va_put (D := (dC, dI)) (ci := 4) (v := .int 0) (ty := .boolean) (C := R_M) (T := F_M) (N := 39) hx hb hts i_M t_M t_M_ok n_M hown hK hP hD hS 0 rfl rfl 15 (by decide) (hts _ m_f_M_100) (fun _ h9 => h9) rfl (by decide +kernel) rfl rfl (Nat.le_of_ble_eq_true rfl) d_M_readDescription_85 (fun H locs hP hD hS => ?_)
            have hP : va_P (dC, dI) classes (w_M cA cZ a (.ref (a 10)) (upf Xq 15 (fun _ => 0))) H := hP
            have hD : va_D A (w_M cA cZ a (.ref (a 10)) (upf Xq 15 (fun _ => 0))) := hD
            have loop_88 : ∀ (n : Nat) (Xq : (Nat → Nat → Int32)) (H : Heap) (locs : List Loc) (ls : Array Slot), (f_M_readDescriptionF X) = (f_M_readDescriptionF_L88 n Xq) → nc_mu 6 (Xq 18 0) < n → 0 ≤ (Xq 18 0).toInt → m_a Xq → va_P (dC, dI) classes (w_M cA cZ a (.ref (a 10)) Xq) H → va_D A (w_M cA cZ a (.ref (a 10)) Xq) → va_S A s.heap H locs → lv_has ls 1 [(0, .ref (a 0))] → W p l e (headSpec ws_M_readDescriptionF rm_M_readDescriptionF).room s m [.ref (a 0)].toArray below meth c H locs 0 0 (MQ below (va_Qv (fun _ : Unit => True) (fun _ t => va_P (dC, dI) classes (w_M cA cZ a (.ref (a 10)) (f_M_readDescriptionF X)) t.heap ∧ va_D A (w_M cA cZ a (.ref (a 10)) (f_M_readDescriptionF X))) A) [.ref (a 0)].toArray s 0 0 A) (F0 m 88 ls []) := by
              intro n
              induction n with
              | zero =>
                intro Xq H locs ls hE hm h0_88 hma hP hD hS hl
                exact absurd hm (Nat.not_lt_zero _)
              | succ n ih =>
                intro Xq H locs ls hE hm h0_88 hma hP hD hS hl
                refine lv_aload_n hx hb d_M_readDescription_88 rfl (lv_at hl 0 rfl) ?_
                refine va_get (D := (dC, dI)) (ci := 4) (v := .int (Xq 15 0)) (C := R_M) (T := F_M) (N := 39) hx hb hts i_M hown hK hP 0 rfl rfl 15 (by decide) (hts _ m_f_M_100) (fun _ h9 => h9) rfl d_M_readDescription_89 ?_
                refine lv_if_ne (tgt := 147) hx hb d_M_readDescription_92 (by decide) (fun c_515 => ?_) (fun c_515 => ?_)
                · have hF : (f_M_readDescriptionF X) = Xq := by rw [hE, f_M_readDescriptionF_L88, if_neg c_515]
                  exact W.vret hx hb hr (fun t ht hW => ⟨⟨(), rfl, trivial, by rw [hF, ht]; exact hP, by rw [hF]; exact hD⟩, hS.F ht⟩) hS.2.2 d_M_readDescription_147
                · refine lv_aload_n hx hb d_M_readDescription_95 rfl (lv_at hl 0 rfl) ?_
                  refine nc_ro (va_runV (As := []) (rest := []) hfix (c_M_isWordF l dC dI cA cZ a Xq hma) (k_M_117 hts hN ⟨Nat.le_of_ble_eq_true rfl, Nat.le_of_ble_eq_true rfl⟩) (nc_preVZ hK hN hP hD rfl rfl) rfl rfl hl.1 rfl (lv_room (Nat.le_of_ble_eq_true rfl)) d_M_readDescription_96 ⟨Nat.zero_le _, Nat.zero_le _⟩) (fun r er => ?_)
                  obtain ⟨rfl, hz_516⟩ := er
                  refine lv_if_eq (tgt := 147) hx hb d_M_readDescription_99 (by decide) (fun c_517 => ?_) (fun c_517 => ?_)
                  · have hF : (f_M_readDescriptionF X) = Xq := by rw [hE, f_M_readDescriptionF_L88, if_pos c_515, if_pos c_517]
                    exact W.vret hx hb hr (fun t ht hW => ⟨⟨(), rfl, trivial, by rw [hF, ht]; exact hP, by rw [hF]; exact hD⟩, hS.F ht⟩) hS.2.2 d_M_readDescription_147
                  · refine lv_aload_n hx hb d_M_readDescription_102 rfl (lv_at hl 0 rfl) ?_
                    refine va_get (D := (dC, dI)) (ci := 4) (v := .int (Xq 18 0)) (C := R_M) (T := F_M) (N := 39) hx hb hts i_M hown hK hP 0 rfl rfl 18 (by decide) (hts _ m_f_M_111) (fun _ h9 => h9) rfl d_M_readDescription_103 ?_
                    refine lv_bipush (v := 6) hx hb d_M_readDescription_106 (by decide) ?_
                    refine lv_icmp_ge (tgt := 147) hx hb d_M_readDescription_108 (by decide) (fun c_518 => ?_) (fun c_518 => ?_)
                    · have hF : (f_M_readDescriptionF X) = Xq := by rw [hE, f_M_readDescriptionF_L88, if_pos c_515, if_neg c_517, if_pos c_518]
                      exact W.vret hx hb hr (fun t ht hW => ⟨⟨(), rfl, trivial, by rw [hF, ht]; exact hP, by rw [hF]; exact hD⟩, hS.F ht⟩) hS.2.2 d_M_readDescription_147
                    · refine lv_aload_n hx hb d_M_readDescription_111 rfl (lv_at hl 0 rfl) ?_
                      refine va_get (D := (dC, dI)) (ci := 4) (v := .ref (a 9)) (C := R_M) (T := F_M) (N := 39) hx hb hts i_M hown hK hP 0 rfl rfl 17 (by decide) (hts _ m_f_M_41) (fun _ h9 => h9) rfl d_M_readDescription_112 ?_
                      refine lv_aload_n hx hb d_M_readDescription_115 rfl (lv_at hl 0 rfl) ?_
                      refine va_get (D := (dC, dI)) (ci := 4) (v := .int (Xq 18 0)) (C := R_M) (T := F_M) (N := 39) hx hb hts i_M hown hK hP 0 rfl rfl 18 (by decide) (hts _ m_f_M_111) (fun _ h9 => h9) rfl d_M_readDescription_116 ?_
                      refine lv_aload_n hx hb d_M_readDescription_119 rfl (lv_at hl 0 rfl) ?_
                      refine nc_ro (va_runV (As := []) (rest := [.int (Xq 18 0), .ref (a 9)]) hfix (c_M_hereF l dC dI cA cZ a Xq hma) (k_M_104 hts hN ⟨Nat.le_of_ble_eq_true rfl, Nat.le_of_ble_eq_true rfl⟩) (nc_preVZ hK hN hP hD rfl rfl) rfl rfl hl.1 rfl (lv_room (Nat.le_of_ble_eq_true rfl)) d_M_readDescription_120 ⟨Nat.zero_le _, Nat.zero_le _⟩) (fun r er => ?_)
                      subst er
                      refine va_iast (f := (Xq 17)) hx hb hK hP hD hS 9 0 rfl rfl (by have q0 := nc_eq c_515 rfl (L_0); have q1 := nc_ne c_517 rfl (L_0); have q2 := nc_nle c_518 (L_6) rfl; have q3 := hw0; have q4 := L_30; have q5 := L_33; have q6 := in_pos c_500; have q7 := h0_88; exact vp_in_iff.mpr ⟨by omega, by omega⟩) d_M_readDescription_123 (fun H locs hP hD hS => ?_)
                      have hP : va_P (dC, dI) classes (w_M cA cZ a (.ref (a 10)) (upf Xq 17 (upd (Xq 17) ((Xq 18 0) : Int32).toNatClampNeg (f_M_hereF Xq)))) H := hP
                      have hD : va_D A (w_M cA cZ a (.ref (a 10)) (upf Xq 17 (upd (Xq 17) ((Xq 18 0) : Int32).toNatClampNeg (f_M_hereF Xq)))) := hD
                      refine lv_aload_n hx hb d_M_readDescription_124 rfl (lv_at hl 0 rfl) ?_
                      refine lv_dup hx hb d_M_readDescription_125 rfl ?_
                      refine va_get (D := (dC, dI)) (ci := 4) (v := .int (Xq 18 0)) (C := R_M) (T := F_M) (N := 39) hx hb hts i_M hown hK hP 0 rfl rfl 18 (by decide) (hts _ m_f_M_111) (fun _ h9 => h9) rfl d_M_readDescription_126 ?_
                      refine lv_iconst (v := 1) hx hb d_M_readDescription_129 (by decide) ?_
                      refine lv_iadd hx hb d_M_readDescription_130 ?_
                      refine va_put (D := (dC, dI)) (ci := 4) (v := .int ((Xq 18 0) + 1)) (ty := .int) (C := R_M) (T := F_M) (N := 39) hx hb hts i_M t_M t_M_ok n_M hown hK hP hD hS 0 rfl rfl 18 (by decide) (hts _ m_f_M_111) (fun _ h9 => h9) rfl (by decide +kernel) rfl rfl (Nat.le_of_ble_eq_true rfl) d_M_readDescription_131 (fun H locs hP hD hS => ?_)
                      have hP : va_P (dC, dI) classes (w_M cA cZ a (.ref (a 10)) (upf (upf Xq 17 (upd (Xq 17) ((Xq 18 0) : Int32).toNatClampNeg (f_M_hereF Xq))) 18 (fun _ => ((Xq 18 0) + 1)))) H := hP
                      have hD : va_D A (w_M cA cZ a (.ref (a 10)) (upf (upf Xq 17 (upd (Xq 17) ((Xq 18 0) : Int32).toNatClampNeg (f_M_hereF Xq))) 18 (fun _ => ((Xq 18 0) + 1)))) := hD
                      refine lv_aload_n hx hb d_M_readDescription_134 rfl (lv_at hl 0 rfl) ?_
                      refine lv_dup hx hb d_M_readDescription_135 rfl ?_
                      refine va_get (D := (dC, dI)) (ci := 4) (v := .int (Xq 14 0)) (C := R_M) (T := F_M) (N := 39) hx hb hts i_M hown hK hP 0 rfl rfl 14 (by decide) (hts _ m_f_M_97) (fun _ h9 => h9) rfl d_M_readDescription_136 ?_
                      refine lv_iconst (v := 1) hx hb d_M_readDescription_139 (by decide) ?_
                      refine lv_iadd hx hb d_M_readDescription_140 ?_
                      refine va_put (D := (dC, dI)) (ci := 4) (v := .int ((Xq 14 0) + 1)) (ty := .int) (C := R_M) (T := F_M) (N := 39) hx hb hts i_M t_M t_M_ok n_M hown hK hP hD hS 0 rfl rfl 14 (by decide) (hts _ m_f_M_97) (fun _ h9 => h9) rfl (by decide +kernel) rfl rfl (Nat.le_of_ble_eq_true rfl) d_M_readDescription_141 (fun H locs hP hD hS => ?_)
                      have hP : va_P (dC, dI) classes (w_M cA cZ a (.ref (a 10)) (upf (upf (upf Xq 14 (fun _ => ((Xq 14 0) + 1))) 17 (upd (Xq 17) ((Xq 18 0) : Int32).toNatClampNeg (f_M_hereF Xq))) 18 (fun _ => ((Xq 18 0) + 1)))) H := hP
                      have hD : va_D A (w_M cA cZ a (.ref (a 10)) (upf (upf (upf Xq 14 (fun _ => ((Xq 14 0) + 1))) 17 (upd (Xq 17) ((Xq 18 0) : Int32).toNatClampNeg (f_M_hereF Xq))) 18 (fun _ => ((Xq 18 0) + 1)))) := hD
                      refine lv_goto (tgt := 88) hx hb d_M_readDescription_144 (by decide) ?_
                      exact ih (upf (upf (upf Xq 14 (fun _ => ((Xq 14 0) + 1))) 17 (upd (Xq 17) ((Xq 18 0) : Int32).toNatClampNeg (f_M_hereF Xq))) 18 (fun _ => ((Xq 18 0) + 1)))  H locs ls (by rw [hE, f_M_readDescriptionF_L88, if_pos c_515, if_neg c_517, if_neg c_518]) (nc_mu_step c_518 hm) (nc_i_step c_518 h0_88) (ma_step (isWordF_lt c_517) hma) hP hD hS (lv_sub hl [0] rfl)
            exact loop_88 (nc_mu 6 (Xq 18 0) + 1) (upf Xq 15 (fun _ => 0)) H locs ls (by rw [hE, f_M_readDescriptionF_L10, if_neg c_500, if_neg c_512, if_neg c_514]) (Nat.lt_succ_self _) (hw0) hma hP hD hS (lv_sub hl [0] rfl)
          · refine lv_iconst (v := 1) hx hb d_M_readDescription_80 (by decide) ?_
            refine lv_goto (tgt := 85) hx hb d_M_readDescription_81 (by decide) ?_
            refine va_put (D := (dC, dI)) (ci := 4) (v := .int 1) (ty := .boolean) (C := R_M) (T := F_M) (N := 39) hx hb hts i_M t_M t_M_ok n_M hown hK hP hD hS 0 rfl rfl 15 (by decide) (hts _ m_f_M_100) (fun _ h9 => h9) rfl (by decide +kernel) rfl rfl (Nat.le_of_ble_eq_true rfl) d_M_readDescription_85 (fun H locs hP hD hS => ?_)
            have hP : va_P (dC, dI) classes (w_M cA cZ a (.ref (a 10)) (upf Xq 15 (fun _ => 1))) H := hP
            have hD : va_D A (w_M cA cZ a (.ref (a 10)) (upf Xq 15 (fun _ => 1))) := hD
            have loop_88 : ∀ (n : Nat) (Xq : (Nat → Nat → Int32)) (H : Heap) (locs : List Loc) (ls : Array Slot), (f_M_readDescriptionF X) = (f_M_readDescriptionF_L88 n Xq) → nc_mu 6 (Xq 18 0) < n → 0 ≤ (Xq 18 0).toInt → m_a Xq → va_P (dC, dI) classes (w_M cA cZ a (.ref (a 10)) Xq) H → va_D A (w_M cA cZ a (.ref (a 10)) Xq) → va_S A s.heap H locs → lv_has ls 1 [(0, .ref (a 0))] → W p l e (headSpec ws_M_readDescriptionF rm_M_readDescriptionF).room s m [.ref (a 0)].toArray below meth c H locs 0 0 (MQ below (va_Qv (fun _ : Unit => True) (fun _ t => va_P (dC, dI) classes (w_M cA cZ a (.ref (a 10)) (f_M_readDescriptionF X)) t.heap ∧ va_D A (w_M cA cZ a (.ref (a 10)) (f_M_readDescriptionF X))) A) [.ref (a 0)].toArray s 0 0 A) (F0 m 88 ls []) := by
              intro n
              induction n with
              | zero =>
                intro Xq H locs ls hE hm h0_88 hma hP hD hS hl
                exact absurd hm (Nat.not_lt_zero _)
              | succ n ih =>
                intro Xq H locs ls hE hm h0_88 hma hP hD hS hl
                refine lv_aload_n hx hb d_M_readDescription_88 rfl (lv_at hl 0 rfl) ?_
                refine va_get (D := (dC, dI)) (ci := 4) (v := .int (Xq 15 0)) (C := R_M) (T := F_M) (N := 39) hx hb hts i_M hown hK hP 0 rfl rfl 15 (by decide) (hts _ m_f_M_100) (fun _ h9 => h9) rfl d_M_readDescription_89 ?_
                refine lv_if_ne (tgt := 147) hx hb d_M_readDescription_92 (by decide) (fun c_519 => ?_) (fun c_519 => ?_)
                · have hF : (f_M_readDescriptionF X) = Xq := by rw [hE, f_M_readDescriptionF_L88, if_neg c_519]
                  exact W.vret hx hb hr (fun t ht hW => ⟨⟨(), rfl, trivial, by rw [hF, ht]; exact hP, by rw [hF]; exact hD⟩, hS.F ht⟩) hS.2.2 d_M_readDescription_147
                · refine lv_aload_n hx hb d_M_readDescription_95 rfl (lv_at hl 0 rfl) ?_
                  refine nc_ro (va_runV (As := []) (rest := []) hfix (c_M_isWordF l dC dI cA cZ a Xq hma) (k_M_117 hts hN ⟨Nat.le_of_ble_eq_true rfl, Nat.le_of_ble_eq_true rfl⟩) (nc_preVZ hK hN hP hD rfl rfl) rfl rfl hl.1 rfl (lv_room (Nat.le_of_ble_eq_true rfl)) d_M_readDescription_96 ⟨Nat.zero_le _, Nat.zero_le _⟩) (fun r er => ?_)
                  obtain ⟨rfl, hz_520⟩ := er
                  refine lv_if_eq (tgt := 147) hx hb d_M_readDescription_99 (by decide) (fun c_521 => ?_) (fun c_521 => ?_)
                  · have hF : (f_M_readDescriptionF X) = Xq := by rw [hE, f_M_readDescriptionF_L88, if_pos c_519, if_pos c_521]
                    exact W.vret hx hb hr (fun t ht hW => ⟨⟨(), rfl, trivial, by rw [hF, ht]; exact hP, by rw [hF]; exact hD⟩, hS.F ht⟩) hS.2.2 d_M_readDescription_147
                  · refine lv_aload_n hx hb d_M_readDescription_102 rfl (lv_at hl 0 rfl) ?_
                    refine va_get (D := (dC, dI)) (ci := 4) (v := .int (Xq 18 0)) (C := R_M) (T := F_M) (N := 39) hx hb hts i_M hown hK hP 0 rfl rfl 18 (by decide) (hts _ m_f_M_111) (fun _ h9 => h9) rfl d_M_readDescription_103 ?_
                    refine lv_bipush (v := 6) hx hb d_M_readDescription_106 (by decide) ?_
                    refine lv_icmp_ge (tgt := 147) hx hb d_M_readDescription_108 (by decide) (fun c_522 => ?_) (fun c_522 => ?_)
                    · have hF : (f_M_readDescriptionF X) = Xq := by rw [hE, f_M_readDescriptionF_L88, if_pos c_519, if_neg c_521, if_pos c_522]
                      exact W.vret hx hb hr (fun t ht hW => ⟨⟨(), rfl, trivial, by rw [hF, ht]; exact hP, by rw [hF]; exact hD⟩, hS.F ht⟩) hS.2.2 d_M_readDescription_147
                    · refine lv_aload_n hx hb d_M_readDescription_111 rfl (lv_at hl 0 rfl) ?_
                      refine va_get (D := (dC, dI)) (ci := 4) (v := .ref (a 9)) (C := R_M) (T := F_M) (N := 39) hx hb hts i_M hown hK hP 0 rfl rfl 17 (by decide) (hts _ m_f_M_41) (fun _ h9 => h9) rfl d_M_readDescription_112 ?_
                      refine lv_aload_n hx hb d_M_readDescription_115 rfl (lv_at hl 0 rfl) ?_
                      refine va_get (D := (dC, dI)) (ci := 4) (v := .int (Xq 18 0)) (C := R_M) (T := F_M) (N := 39) hx hb hts i_M hown hK hP 0 rfl rfl 18 (by decide) (hts _ m_f_M_111) (fun _ h9 => h9) rfl d_M_readDescription_116 ?_
                      refine lv_aload_n hx hb d_M_readDescription_119 rfl (lv_at hl 0 rfl) ?_
                      refine nc_ro (va_runV (As := []) (rest := [.int (Xq 18 0), .ref (a 9)]) hfix (c_M_hereF l dC dI cA cZ a Xq hma) (k_M_104 hts hN ⟨Nat.le_of_ble_eq_true rfl, Nat.le_of_ble_eq_true rfl⟩) (nc_preVZ hK hN hP hD rfl rfl) rfl rfl hl.1 rfl (lv_room (Nat.le_of_ble_eq_true rfl)) d_M_readDescription_120 ⟨Nat.zero_le _, Nat.zero_le _⟩) (fun r er => ?_)
                      subst er
                      refine va_iast (f := (Xq 17)) hx hb hK hP hD hS 9 0 rfl rfl (by have q0 := nc_eq c_519 rfl (L_0); have q1 := nc_ne c_521 rfl (L_0); have q2 := nc_nle c_522 (L_6) rfl; have q3 := hw0; have q4 := L_30; have q5 := L_33; have q6 := in_pos c_500; have q7 := h0_88; exact vp_in_iff.mpr ⟨by omega, by omega⟩) d_M_readDescription_123 (fun H locs hP hD hS => ?_)
                      have hP : va_P (dC, dI) classes (w_M cA cZ a (.ref (a 10)) (upf Xq 17 (upd (Xq 17) ((Xq 18 0) : Int32).toNatClampNeg (f_M_hereF Xq)))) H := hP
                      have hD : va_D A (w_M cA cZ a (.ref (a 10)) (upf Xq 17 (upd (Xq 17) ((Xq 18 0) : Int32).toNatClampNeg (f_M_hereF Xq)))) := hD
                      refine lv_aload_n hx hb d_M_readDescription_124 rfl (lv_at hl 0 rfl) ?_
                      refine lv_dup hx hb d_M_readDescription_125 rfl ?_
                      refine va_get (D := (dC, dI)) (ci := 4) (v := .int (Xq 18 0)) (C := R_M) (T := F_M) (N := 39) hx hb hts i_M hown hK hP 0 rfl rfl 18 (by decide) (hts _ m_f_M_111) (fun _ h9 => h9) rfl d_M_readDescription_126 ?_
                      refine lv_iconst (v := 1) hx hb d_M_readDescription_129 (by decide) ?_
                      refine lv_iadd hx hb d_M_readDescription_130 ?_
                      refine va_put (D := (dC, dI)) (ci := 4) (v := .int ((Xq 18 0) + 1)) (ty := .int) (C := R_M) (T := F_M) (N := 39) hx hb hts i_M t_M t_M_ok n_M hown hK hP hD hS 0 rfl rfl 18 (by decide) (hts _ m_f_M_111) (fun _ h9 => h9) rfl (by decide +kernel) rfl rfl (Nat.le_of_ble_eq_true rfl) d_M_readDescription_131 (fun H locs hP hD hS => ?_)
                      have hP : va_P (dC, dI) classes (w_M cA cZ a (.ref (a 10)) (upf (upf Xq 17 (upd (Xq 17) ((Xq 18 0) : Int32).toNatClampNeg (f_M_hereF Xq))) 18 (fun _ => ((Xq 18 0) + 1)))) H := hP
                      have hD : va_D A (w_M cA cZ a (.ref (a 10)) (upf (upf Xq 17 (upd (Xq 17) ((Xq 18 0) : Int32).toNatClampNeg (f_M_hereF Xq))) 18 (fun _ => ((Xq 18 0) + 1)))) := hD
                      refine lv_aload_n hx hb d_M_readDescription_134 rfl (lv_at hl 0 rfl) ?_
                      refine lv_dup hx hb d_M_readDescription_135 rfl ?_
                      refine va_get (D := (dC, dI)) (ci := 4) (v := .int (Xq 14 0)) (C := R_M) (T := F_M) (N := 39) hx hb hts i_M hown hK hP 0 rfl rfl 14 (by decide) (hts _ m_f_M_97) (fun _ h9 => h9) rfl d_M_readDescription_136 ?_
                      refine lv_iconst (v := 1) hx hb d_M_readDescription_139 (by decide) ?_
                      refine lv_iadd hx hb d_M_readDescription_140 ?_
                      refine va_put (D := (dC, dI)) (ci := 4) (v := .int ((Xq 14 0) + 1)) (ty := .int) (C := R_M) (T := F_M) (N := 39) hx hb hts i_M t_M t_M_ok n_M hown hK hP hD hS 0 rfl rfl 14 (by decide) (hts _ m_f_M_97) (fun _ h9 => h9) rfl (by decide +kernel) rfl rfl (Nat.le_of_ble_eq_true rfl) d_M_readDescription_141 (fun H locs hP hD hS => ?_)
                      have hP : va_P (dC, dI) classes (w_M cA cZ a (.ref (a 10)) (upf (upf (upf Xq 14 (fun _ => ((Xq 14 0) + 1))) 17 (upd (Xq 17) ((Xq 18 0) : Int32).toNatClampNeg (f_M_hereF Xq))) 18 (fun _ => ((Xq 18 0) + 1)))) H := hP
                      have hD : va_D A (w_M cA cZ a (.ref (a 10)) (upf (upf (upf Xq 14 (fun _ => ((Xq 14 0) + 1))) 17 (upd (Xq 17) ((Xq 18 0) : Int32).toNatClampNeg (f_M_hereF Xq))) 18 (fun _ => ((Xq 18 0) + 1)))) := hD
                      refine lv_goto (tgt := 88) hx hb d_M_readDescription_144 (by decide) ?_
                      exact ih (upf (upf (upf Xq 14 (fun _ => ((Xq 14 0) + 1))) 17 (upd (Xq 17) ((Xq 18 0) : Int32).toNatClampNeg (f_M_hereF Xq))) 18 (fun _ => ((Xq 18 0) + 1)))  H locs ls (by rw [hE, f_M_readDescriptionF_L88, if_pos c_519, if_neg c_521, if_neg c_522]) (nc_mu_step c_522 hm) (nc_i_step c_522 h0_88) (ma_step (isWordF_lt c_521) hma) hP hD hS (lv_sub hl [0] rfl)
            exact loop_88 (nc_mu 6 (Xq 18 0) + 1) (upf Xq 15 (fun _ => 1)) H locs ls (by rw [hE, f_M_readDescriptionF_L10, if_neg c_500, if_neg c_512, if_pos c_514]) (Nat.lt_succ_self _) (hw0) hma hP hD hS (lv_sub hl [0] rfl)
        · refine lv_aload_n hx hb d_M_readDescription_41 rfl (lv_at hl 0 rfl) ?_
          refine lv_aload_n hx hb d_M_readDescription_42 rfl (lv_at hl 0 rfl) ?_
          refine va_get (D := (dC, dI)) (ci := 4) (v := .int (Xq 16 0)) (C := R_M) (T := F_M) (N := 39) hx hb hts i_M hown hK hP 0 rfl rfl 16 (by decide) (hts _ m_f_M_108) (fun _ h9 => h9) rfl d_M_readDescription_43 ?_
          refine lv_iconst (v := 1) hx hb d_M_readDescription_46 (by decide) ?_
          refine lv_aload_n hx hb d_M_readDescription_47 rfl (lv_at hl 0 rfl) ?_
          refine nc_ro (va_runV (As := []) (rest := [.int 1, .int (Xq 16 0), .ref (a 0)]) hfix (c_M_hereF l dC dI cA cZ a Xq hma) (k_M_104 hts hN ⟨Nat.le_of_ble_eq_true rfl, Nat.le_of_ble_eq_true rfl⟩) (nc_preVZ hK hN hP hD rfl rfl) rfl rfl hl.1 rfl (lv_room (Nat.le_of_ble_eq_true rfl)) d_M_readDescription_48 ⟨Nat.zero_le _, Nat.zero_le _⟩) (fun r er => ?_)
          subst er
          refine lv_bipush (v := 30) hx hb d_M_readDescription_51 (by decide) ?_
          refine lv_isub hx hb d_M_readDescription_53 ?_
          refine lv_ishl hx hb d_M_readDescription_54 ?_
          refine lv_ior hx hb d_M_readDescription_55 ?_
          refine va_put (D := (dC, dI)) (ci := 4) (v := .int ((Xq 16 0) ||| ((1 : Int32) <<< (((f_M_hereF Xq) - 30) &&& 31)))) (ty := .int) (C := R_M) (T := F_M) (N := 39) hx hb hts i_M t_M t_M_ok n_M hown hK hP hD hS 0 rfl rfl 16 (by decide) (hts _ m_f_M_108) (fun _ h9 => h9) rfl (by decide +kernel) rfl rfl (Nat.le_of_ble_eq_true rfl) d_M_readDescription_56 (fun H locs hP hD hS => ?_)
          have hP : va_P (dC, dI) classes (w_M cA cZ a (.ref (a 10)) (upf Xq 16 (fun _ => ((Xq 16 0) ||| ((1 : Int32) <<< (((f_M_hereF Xq) - 30) &&& 31)))))) H := hP
          have hD : va_D A (w_M cA cZ a (.ref (a 10)) (upf Xq 16 (fun _ => ((Xq 16 0) ||| ((1 : Int32) <<< (((f_M_hereF Xq) - 30) &&& 31)))))) := hD
          refine lv_aload_n hx hb d_M_readDescription_59 rfl (lv_at hl 0 rfl) ?_
          refine lv_dup hx hb d_M_readDescription_60 rfl ?_
          refine va_get (D := (dC, dI)) (ci := 4) (v := .int (Xq 14 0)) (C := R_M) (T := F_M) (N := 39) hx hb hts i_M hown hK hP 0 rfl rfl 14 (by decide) (hts _ m_f_M_97) (fun _ h9 => h9) rfl d_M_readDescription_61 ?_
          refine lv_iconst (v := 1) hx hb d_M_readDescription_64 (by decide) ?_
          refine lv_iadd hx hb d_M_readDescription_65 ?_
          refine va_put (D := (dC, dI)) (ci := 4) (v := .int ((Xq 14 0) + 1)) (ty := .int) (C := R_M) (T := F_M) (N := 39) hx hb hts i_M t_M t_M_ok n_M hown hK hP hD hS 0 rfl rfl 14 (by decide) (hts _ m_f_M_97) (fun _ h9 => h9) rfl (by decide +kernel) rfl rfl (Nat.le_of_ble_eq_true rfl) d_M_readDescription_66 (fun H locs hP hD hS => ?_)
          have hP : va_P (dC, dI) classes (w_M cA cZ a (.ref (a 10)) (upf (upf Xq 14 (fun _ => ((Xq 14 0) + 1))) 16 (fun _ => ((Xq 16 0) ||| ((1 : Int32) <<< (((f_M_hereF Xq) - 30) &&& 31)))))) H := hP
          have hD : va_D A (w_M cA cZ a (.ref (a 10)) (upf (upf Xq 14 (fun _ => ((Xq 14 0) + 1))) 16 (fun _ => ((Xq 16 0) ||| ((1 : Int32) <<< (((f_M_hereF Xq) - 30) &&& 31)))))) := hD
          refine lv_goto (tgt := 10) hx hb d_M_readDescription_69 (by decide) ?_
          exact ih (upf (upf Xq 14 (fun _ => ((Xq 14 0) + 1))) 16 (fun _ => ((Xq 16 0) ||| ((1 : Int32) <<< (((f_M_hereF Xq) - 30) &&& 31)))))  H locs ls (by rw [hE, f_M_readDescriptionF_L10, if_neg c_500, if_pos c_512]) (nc_mu_step (hereF_in c_500 (by decide)) hm) (ma_step (hereF_in c_500 (by decide)) hma) hw0 hP hD hS (lv_sub hl [0] rfl)
  exact loop_10 (nc_mu (X 13 0) (X 14 0) + 1) (upf (upf X 16 (fun _ => 0)) 18 (fun _ => 0)) H locs ls (by rw [f_M_readDescriptionF]) (Nat.lt_succ_self _) hma (by show 0 ≤ (0 : Int32).toInt; decide) hP hD hS (lv_sub hl [0] rfl)
theorem rdF_fr8 {k : Nat} (h1 : Nat.beq k 14 = false) (h2 : Nat.beq k 17 = false) (h3 : Nat.beq k 18 = false) : ∀ (n : Nat) (X : Nat → Nat → Int32), f_M_readDescriptionF_L88 n X k = X k := by
  intro n
  induction n with
  | zero => intro X; rfl
  | succ n ih =>
    intro X
    rw [f_M_readDescriptionF_L88]
    split
    · split
      · rfl
      · split
        · rfl
        · rw [ih, upf_ne h3, upf_ne h2, upf_ne h1]
    · rfl
theorem rdF_fr10 {k : Nat} (h1 : Nat.beq k 14 = false) (h4 : Nat.beq k 15 = false) (h5 : Nat.beq k 16 = false) (h2 : Nat.beq k 17 = false) (h3 : Nat.beq k 18 = false) : ∀ (n : Nat) (X : Nat → Nat → Int32), f_M_readDescriptionF_L10 n X k = X k := by
  intro n
  induction n with
  | zero => intro X; rfl
  | succ n ih =>
    intro X
    rw [f_M_readDescriptionF_L10]
    split
    · split
      · rw [rdF_fr8 h1 h2 h3, upf_ne h4]
      · rw [rdF_fr8 h1 h2 h3, upf_ne h4]
    · split
      · rw [ih, upf_ne h5, upf_ne h1]
      · split
        · rw [rdF_fr8 h1 h2 h3, upf_ne h4]
        · rw [rdF_fr8 h1 h2 h3, upf_ne h4]
theorem rdF_fr {X : Nat → Nat → Int32} {k : Nat} (h1 : Nat.beq k 14 = false) (h4 : Nat.beq k 15 = false) (h5 : Nat.beq k 16 = false) (h2 : Nat.beq k 17 = false) (h3 : Nat.beq k 18 = false) : f_M_readDescriptionF X k = X k := by
  unfold f_M_readDescriptionF
  rw [rdF_fr10 h1 h4 h5 h2 h3, upf_ne h3, upf_ne h5]
theorem rd_tF {X : Nat → Nat → Int32} (h : m_t X) : m_t (f_M_readDescriptionF X) := by
  unfold m_t
  rw [rdF_fr rfl rfl rfl rfl rfl]
  exact h
theorem rd_kF {X : Nat → Nat → Int32} (h : m_k X) : m_k (f_M_readDescriptionF X) := by
  unfold m_k
  rw [rdF_fr rfl rfl rfl rfl rfl]
  exact h
theorem rdF_w8 : ∀ (n : Nat) (X : Nat → Nat → Int32), 0 ≤ (X 18 0).toInt → (X 18 0).toInt ≤ 6 → (X 18 0).toInt ≤ ((f_M_readDescriptionF_L88 n X) 18 0).toInt ∧ ((f_M_readDescriptionF_L88 n X) 18 0).toInt ≤ 6 ∧ (f_M_readDescriptionF_L88 n X) 15 = X 15 := by
  intro n
  induction n with
  | zero => intro X h1 h2; exact ⟨Int.le_refl _, h2, rfl⟩
  | succ n ih =>
    intro X h1 h2
    rw [f_M_readDescriptionF_L88]
    split
    · split
      · exact ⟨Int.le_refl _, h2, rfl⟩
      · split
        · exact ⟨Int.le_refl _, h2, rfl⟩
        · rename_i c
          have e1 := nc_add1 c
          have e2 := nc_nle c L_6 rfl
          obtain ⟨i1, i2, i3⟩ := ih (upf (upf (upf X 14 (fun _ => ((X 14 0) + 1))) 17 (upd (X 17) ((X 18 0) : Int32).toNatClampNeg (f_M_hereF X))) 18 (fun _ => ((X 18 0) + 1))) (by show 0 ≤ ((X 18 0) + 1).toInt; omega) (by show ((X 18 0) + 1).toInt ≤ 6; omega)
          have i1' : ((X 18 0) + 1).toInt ≤ ((f_M_readDescriptionF_L88 n (upf (upf (upf X 14 (fun _ => ((X 14 0) + 1))) 17 (upd (X 17) ((X 18 0) : Int32).toNatClampNeg (f_M_hereF X))) 18 (fun _ => ((X 18 0) + 1)))) 18 0).toInt := i1
          exact ⟨by omega, i2, i3⟩
    · exact ⟨Int.le_refl _, h2, rfl⟩
theorem rdF_w8p {n : Nat} {X : Nat → Nat → Int32} (h0 : X 18 0 = 0) (c1 : X 15 0 = 0) (c2 : ¬ f_M_isWordF X = 0) : 1 ≤ ((f_M_readDescriptionF_L88 (n + 1) X) 18 0).toInt ∧ ((f_M_readDescriptionF_L88 (n + 1) X) 18 0).toInt ≤ 6 := by
  have c3 : ¬ 6 ≤ X 18 0 := by rw [h0]; decide
  rw [f_M_readDescriptionF_L88, if_pos c1, if_neg c2, if_neg c3]
  have e1 : (X 18 0 + 1).toInt = 1 := by rw [h0]; decide
  obtain ⟨i1, i2, -⟩ := rdF_w8 n (upf (upf (upf X 14 (fun _ => ((X 14 0) + 1))) 17 (upd (X 17) ((X 18 0) : Int32).toNatClampNeg (f_M_hereF X))) 18 (fun _ => ((X 18 0) + 1))) (by show 0 ≤ ((X 18 0) + 1).toInt; omega) (by show ((X 18 0) + 1).toInt ≤ 6; omega)
  have i1' : ((X 18 0) + 1).toInt ≤ ((f_M_readDescriptionF_L88 n (upf (upf (upf X 14 (fun _ => ((X 14 0) + 1))) 17 (upd (X 17) ((X 18 0) : Int32).toNatClampNeg (f_M_hereF X))) 18 (fun _ => ((X 18 0) + 1)))) 18 0).toInt := i1
  exact ⟨by omega, i2⟩
theorem rdF_w15 {n : Nat} {X : Nat → Nat → Int32} (h0 : X 18 0 = 0) : (f_M_readDescriptionF_L88 n X) 15 = X 15 := (rdF_w8 n X (by rw [h0]; decide) (by rw [h0]; decide)).2.2
theorem rdF_w10 : ∀ (n : Nat) (X : Nat → Nat → Int32), nc_mu (X 13 0) (X 14 0) < n → X 18 0 = 0 → (f_M_readDescriptionF_L10 n X) 15 0 = 0 → 1 ≤ ((f_M_readDescriptionF_L10 n X) 18 0).toInt ∧ ((f_M_readDescriptionF_L10 n X) 18 0).toInt ≤ 6 := by
  intro n
  induction n with
  | zero => intro X hm; exact absurd hm (Nat.not_lt_zero _)
  | succ n ih =>
    intro X hm h0
    rw [f_M_readDescriptionF_L10]
    have bad : ∀ m : Nat, ¬ (f_M_readDescriptionF_L88 m (upf X 15 (fun _ => 1))) 15 0 = 0 := by
      intro m
      rw [rdF_w15 (X := upf X 15 (fun _ => 1)) h0]
      show ¬ (1 : Int32) = 0
      decide
    split
    · split
      · intro h; exact absurd h (bad _)
      · rename_i c
        intro _
        exact rdF_w8p (X := upf X 15 (fun _ => 0)) h0 rfl c
    · rename_i c
      split
      · exact ih _ (nc_mu_step (hereF_in c (by decide)) hm) h0
      · split
        · intro h; exact absurd h (bad _)
        · rename_i c2
          intro _
          exact rdF_w8p (X := upf X 15 (fun _ => 0)) h0 rfl c2
theorem rdF_w {X : Nat → Nat → Int32} (h : (f_M_readDescriptionF X) 15 0 = 0) : 1 ≤ ((f_M_readDescriptionF X) 18 0).toInt ∧ ((f_M_readDescriptionF X) 18 0).toInt ≤ 6 := by
  unfold f_M_readDescriptionF at h ⊢
  exact rdF_w10 _ _ (Nat.lt_succ_self _) rfl h
theorem rdF_a8 : ∀ (n : Nat) (X : Nat → Nat → Int32), m_a X → m_adv X (f_M_readDescriptionF_L88 n X) := by
  intro n
  induction n with
  | zero => intro X h; exact m_adv_rfl h
  | succ n ih =>
    intro X h
    rw [f_M_readDescriptionF_L88]
    split
    · split
      · exact m_adv_rfl h
      · rename_i c
        split
        · exact m_adv_rfl h
        · have s1 := m_adv_step (isWordF_lt c) h
          exact m_adv_trans s1 (ih _ s1.1)
    · exact m_adv_rfl h
theorem rdF_a10 : ∀ (n : Nat) (X : Nat → Nat → Int32), m_a X → m_adv X (f_M_readDescriptionF_L10 n X) := by
  intro n
  induction n with
  | zero => intro X h; exact m_adv_rfl h
  | succ n ih =>
    intro X h
    rw [f_M_readDescriptionF_L10]
    split
    · split
      · exact rdF_a8 _ (upf X 15 (fun _ => 1)) h
      · exact rdF_a8 _ (upf X 15 (fun _ => 0)) h
    · rename_i c
      split
      · have s1 := m_adv_step (hereF_in c (by decide)) h
        exact m_adv_trans s1 (ih _ s1.1)
      · split
        · exact rdF_a8 _ (upf X 15 (fun _ => 1)) h
        · exact rdF_a8 _ (upf X 15 (fun _ => 0)) h
theorem rdF_a {X : Nat → Nat → Int32} (h : m_a X) : m_adv X (f_M_readDescriptionF X) := by
  unfold f_M_readDescriptionF
  exact rdF_a10 _ (upf (upf X 16 (fun _ => 0)) 18 (fun _ => 0)) h
