def f_M_isPhraseR_L11 (x1 : Int32) : Nat → (Nat → Nat → Int32) → Int32 → Int32 × (Nat → Nat → Int32)
  | 0, X, z3 => (0, X)
  | n + 1, X, z3 => (if ((f_M_partR X 0 0 0) 15 0) = 0 then (if (f_M_hereR (f_M_partR X 0 0 0)) = 36 then (f_M_isPhraseR_L11 x1 n (upf (f_M_partR X 0 0 0) 14 (fun _ => (((f_M_partR X 0 0 0) 14 0) + 1))) (z3 + 1)) else (if ((f_M_partR X 0 0 0) 14 0) = ((f_M_partR X 0 0 0) 13 0) then (1, (upf (upf (f_M_partR X 0 0 0) 14 (fun _ => ((f_M_partR X 0 0 0) 14 0))) 23 (fun _ => (z3 + 1)))) else (0, (upf (upf (f_M_partR X 0 0 0) 14 (fun _ => ((f_M_partR X 0 0 0) 14 0))) 23 (fun _ => (z3 + 1)))))) else (0, (f_M_partR X 0 0 0)))
def f_M_isPhraseR (X : Nat → Nat → Int32) (x1 : Int32) : Int32 × (Nat → Nat → Int32) := (f_M_isPhraseR_L11 x1 (nc_mu ((f_M_beginR X x1) 13 0) ((f_M_beginR X x1) 14 0) + 1) (f_M_beginR X x1) 0)
abbrev ws_M_isPhraseR : List Cond := .code y_M_isPhrase b_M_isPhrase 5 (some .boolean) :: lw_G
abbrev rm_M_isPhraseR : Room := { frames := 5, cells := 0, slots := 0, locals := 122 }
set_option maxHeartbeats 4000000 in
set_option maxRecDepth 100000 in
theorem c_M_isPhraseR (l : Launch) (dC : Nat → ClassId) (dI : Nat → Nat → Nat) (cA cZ : ClassId) (sz : Nat) (a : Nat → Nat) (rv : Value) (X : Nat → Nat → Int32) (x1 : Int32) (hmt : m_t X) (hmk : m_k X) (hn : x1.toInt ≤ 30) : Met l y_M_isPhrase ws_M_isPhraseR rm_M_isPhraseR (nc_PreZM (dC, dI) cA cZ sz [.ref (a 0), .ref (a 8), .int x1] (w_M cA cZ a rv X)) (va_Qi (fun r (_ : Unit) => (r = (f_M_isPhraseR X x1).1 ∧ narrow .boolean (.int r) = .int r)) (fun _ t => va_P (dC, dI) classes (w_M cA cZ a (.ref (a 8)) (f_M_isPhraseR X x1).2) t.heap ∧ va_D (va_A (w_M cA cZ a rv X) sz) (w_M cA cZ a (.ref (a 8)) (f_M_isPhraseR X x1).2)) (va_A (w_M cA cZ a rv X) sz)) 0 0 (va_A (w_M cA cZ a rv X) sz) := by
  refine Met.ofW (cc := b_M_isPhrase) (maxL := 5) (ret := (some .boolean)) (by decide) rfl ?_
  intro p e s m args below meth c s₁ B hml hv
  obtain ⟨rfl, hsz, hP, hK, hD0, hN⟩ := hv
  have hx := B.exec
  have hb := B.bytes
  have hr := B.returns
  have hts : ∀ w ∈ lw_G, w.before [.ref (a 0), .ref (a 8), .int x1].toArray s = true := fun w h => atoms_spec (ws := ws_M_isPhraseR) B.pre w (List.mem_cons_of_mem _ h)
  have hown : s.vm.findClass R_M = some m.cls := findClass_of_methodNamed B.named
  have hlocks := B.notSynchronized
  have hfix : CallFix p m c b_M_isPhrase 5 s [.ref (a 0), .ref (a 8), .int x1].toArray lw_G R_M := ⟨hx, hb, hml, hown, hts⟩
  have hK1 := hK.sub (tys' := [(cA, .int)]) [0] rfl
  subst hsz
  have hD := hD0.self (sz := s.heap.size)
  generalize hAe : va_A (w_M cA cZ a rv X) s.heap.size = A at hD ⊢
  have hA : ∀ q : Nat, s.heap.size ≤ q → A q := fun q h => by rw [← hAe]; exact Or.inr h
  have hS : va_S A s.heap s.heap [] := va_S.rf
  have hl := lv_entry ([.ref (a 0), .ref (a 8), .int x1]) (n := 5) (Nat.le_of_ble_eq_true rfl)
  rw [lg_entry_eq]
  generalize (lg_sl ([.ref (a 0), .ref (a 8), .int x1]) ++ List.replicate (5 - (lg_sl ([.ref (a 0), .ref (a 8), .int x1])).length) Slot.unset).toArray = ls at hl ⊢
  have hl : lv_has ls 5 [(0, .ref (a 0)), (1, .ref (a 8)), (2, .int x1)] := hl
  refine lv_aload_n hx hb d_M_isPhrase_0 rfl (lv_at hl 0 rfl) ?_
  refine lv_aload_n hx hb d_M_isPhrase_1 rfl (lv_at hl 1 rfl) ?_
  refine lv_iload_n hx hb d_M_isPhrase_2 rfl (lv_at hl 2 rfl) ?_
  have hFc := nc_free hD hS hA
  refine nc_muv (va_runV (As := [.ref (a 8), .int x1]) (rest := []) hfix (c_M_beginR l dC dI cA cZ s.heap.size a rv X x1) (k_M_130 hts hN ⟨Nat.le_of_ble_eq_true rfl, Nat.le_of_ble_eq_true rfl⟩) (nc_preVZM hK hN hP hD rfl rfl) rfl rfl hl.1 rfl (lv_room (Nat.le_of_ble_eq_true rfl)) d_M_isPhrase_3 ⟨Nat.zero_le _, Nat.zero_le _⟩) hS hFc (fun H locs hP1 hD1 hk1 hS => ?_)
  have hP : va_P (dC, dI) classes (w_M cA cZ a (.ref (a 8)) (f_M_beginR X x1)) H := hP1
  have hD : va_D A (w_M cA cZ a (.ref (a 8)) (f_M_beginR X x1)) := hD1.weaken (fun _ q _ h => hFc q.1 h)
  refine lv_iconst (v := 0) hx hb d_M_isPhrase_6 (by decide) ?_
  refine lv_istore_n (lv' := [(3, .int 0), (0, .ref (a 0)), (1, .ref (a 8)), (2, .int x1)]) hx hb d_M_isPhrase_7 rfl hl (by decide) rfl (fun ls hl => ?_)
  refine lv_iconst (v := 1) hx hb d_M_isPhrase_8 (by decide) ?_
  refine lv_istore (lv' := [(4, .int 1), (3, .int 0), (0, .ref (a 0)), (1, .ref (a 8)), (2, .int x1)]) hx hb d_M_isPhrase_9 hl (by decide) rfl (fun ls hl => ?_)
  have loop_11 : ∀ (n : Nat) (Xq : (Nat → Nat → Int32)) (z3 : Int32) (H : Heap) (locs : List Loc) (ls : Array Slot), (f_M_isPhraseR X x1) = (f_M_isPhraseR_L11 x1 n Xq z3) → nc_mu (Xq 13 0) (Xq 14 0) < n → m_a Xq → m_t Xq → m_k Xq → va_P (dC, dI) classes (w_M cA cZ a (.ref (a 8)) Xq) H → va_D A (w_M cA cZ a (.ref (a 8)) Xq) → va_S A s.heap H locs → lv_has ls 5 [(0, .ref (a 0)), (1, .ref (a 8)), (2, .int x1), (4, .int 1), (3, .int z3)] → W p l e (headSpec ws_M_isPhraseR rm_M_isPhraseR).room s m [.ref (a 0), .ref (a 8), .int x1].toArray below meth c H locs 0 0 (MQ below (va_Qi (fun r (_ : Unit) => (r = (f_M_isPhraseR X x1).1 ∧ narrow .boolean (.int r) = .int r)) (fun _ t => va_P (dC, dI) classes (w_M cA cZ a (.ref (a 8)) (f_M_isPhraseR X x1).2) t.heap ∧ va_D A (w_M cA cZ a (.ref (a 8)) (f_M_isPhraseR X x1).2)) A) [.ref (a 0), .ref (a 8), .int x1].toArray s 0 0 A) (F0 m 11 ls []) := by
    intro n
    induction n with
    | zero =>
      intro Xq z3 H locs ls hE hm hma hmt hmk hP hD hS hl
      exact absurd hm (Nat.not_lt_zero _)
    | succ n ih =>
      intro Xq z3 H locs ls hE hm hma hmt hmk hP hD hS hl
      refine lv_iload hx hb d_M_isPhrase_11 (lv_at hl 3 rfl) ?_
      refine lv_if_eq (tgt := 76) hx hb d_M_isPhrase_13 (by decide) (fun c_857 => ?_) (fun c_857 => ?_)
      · exact absurd c_857 (by decide)
      · refine lv_aload_n hx hb d_M_isPhrase_16 rfl (lv_at hl 0 rfl) ?_
        refine lv_iconst (v := 0) hx hb d_M_isPhrase_17 (by decide) ?_
        refine lv_iconst (v := 0) hx hb d_M_isPhrase_18 (by decide) ?_
        refine lv_iconst (v := 0) hx hb d_M_isPhrase_19 (by decide) ?_
        have hFc := nc_free hD hS hA
        refine nc_muv (va_runV (As := [.int 0, .int 0, .int 0]) (rest := []) hfix (c_M_partR l dC dI cA cZ H.size a Xq 0 0 0 hma hmt hmk) (k_M_172 hts hN ⟨Nat.le_of_ble_eq_true rfl, Nat.le_of_ble_eq_true rfl⟩) (nc_preVZM hK hN hP hD rfl rfl) rfl rfl hl.1 rfl (lv_room (Nat.le_of_ble_eq_true rfl)) d_M_isPhrase_20 ⟨Nat.zero_le _, Nat.zero_le _⟩) hS hFc (fun H locs hP1 hD1 hk1 hS => ?_)
        have hP : va_P (dC, dI) classes (w_M cA cZ a (.ref (a 8)) (f_M_partR Xq 0 0 0)) H := hP1
        have hD : va_D A (w_M cA cZ a (.ref (a 8)) (f_M_partR Xq 0 0 0)) := hD1.weaken (fun _ q _ h => hFc q.1 h)
        refine lv_iinc (v := (z3 + 1)) (lv' := [(3, .int (z3 + 1)), (0, .ref (a 0)), (1, .ref (a 8)), (2, .int x1), (4, .int 1)]) hx hb d_M_isPhrase_23 hl (k := 4) rfl rfl (by decide) rfl (fun ls hl => ?_)
        refine lv_aload_n hx hb d_M_isPhrase_26 rfl (lv_at hl 1 rfl) ?_
        refine va_get (D := (dC, dI)) (ci := 4) (v := .int ((f_M_partR Xq 0 0 0) 15 0)) (C := R_M) (T := F_M) (N := 39) hx hb hts i_M hown hK hP 0 rfl rfl 15 (by decide) (hts _ m_f_M_100) (fun _ h9 => h9) rfl d_M_isPhrase_27 ?_
        refine lv_if_eq (tgt := 35) hx hb d_M_isPhrase_30 (by decide) (fun c_858 => ?_) (fun c_858 => ?_)
        · refine lv_aload_n hx hb d_M_isPhrase_35 rfl (lv_at hl 1 rfl) ?_
          refine nc_ro (va_runV (As := []) (rest := []) hfix (c_M_hereR l dC dI cA cZ a (f_M_partR Xq 0 0 0) (ptR_a hma hmt hmk).1) (k_M_104 hts hN ⟨Nat.le_of_ble_eq_true rfl, Nat.le_of_ble_eq_true rfl⟩) (nc_preVZ hK hN hP hD rfl rfl) rfl rfl hl.1 rfl (lv_room (Nat.le_of_ble_eq_true rfl)) d_M_isPhrase_36 ⟨Nat.zero_le _, Nat.zero_le _⟩) (fun r er => ?_)
          subst er
          refine lv_bipush (v := 36) hx hb d_M_isPhrase_39 (by decide) ?_
          refine lv_icmp_ne (tgt := 48) hx hb d_M_isPhrase_41 (by decide) (fun c_859 => ?_) (fun c_859 => ?_)
          · refine lv_iconst (v := 0) hx hb d_M_isPhrase_48 (by decide) ?_
            refine lv_istore (lv' := [(4, .int 0), (3, .int (z3 + 1)), (0, .ref (a 0)), (1, .ref (a 8)), (2, .int x1)]) hx hb d_M_isPhrase_49 hl (by decide) rfl (fun ls hl => ?_)
            refine lv_aload_n hx hb d_M_isPhrase_51 rfl (lv_at hl 2 rfl) ?_
            refine lv_iload hx hb d_M_isPhrase_52 (lv_at hl 0 rfl) ?_
            refine lv_if_eq (tgt := 66) hx hb d_M_isPhrase_54 (by decide) (fun c_860 => ?_) (fun c_860 => ?_)
            · refine lv_aload_n hx hb d_M_isPhrase_66 rfl (lv_at hl 2 rfl) ?_
              refine va_get (D := (dC, dI)) (ci := 4) (v := .int ((f_M_partR Xq 0 0 0) 14 0)) (C := R_M) (T := F_M) (N := 39) hx hb hts i_M hown hK hP 0 rfl rfl 14 (by decide) (hts _ m_f_M_97) (fun _ h9 => h9) rfl d_M_isPhrase_67 ?_
              refine va_put (D := (dC, dI)) (ci := 4) (v := .int ((f_M_partR Xq 0 0 0) 14 0)) (ty := .int) (C := R_M) (T := F_M) (N := 39) hx hb hts i_M t_M t_M_ok n_M hown hK hP hD hS 0 rfl rfl 14 (by decide) (hts _ m_f_M_97) (fun _ h9 => h9) rfl (by decide +kernel) rfl rfl (Nat.le_of_ble_eq_true rfl) d_M_isPhrase_70 (fun H locs hP hD hS => ?_)
              have hP : va_P (dC, dI) classes (w_M cA cZ a (.ref (a 8)) (upf (f_M_partR Xq 0 0 0) 14 (fun _ => ((f_M_partR Xq 0 0 0) 14 0)))) H := hP
              have hD : va_D A (w_M cA cZ a (.ref (a 8)) (upf (f_M_partR Xq 0 0 0) 14 (fun _ => ((f_M_partR Xq 0 0 0) 14 0)))) := hD
              refine lv_goto (tgt := 11) hx hb d_M_isPhrase_73 (by decide) ?_
              refine lv_iload hx hb d_M_isPhrase_11 (lv_at hl 0 rfl) ?_
              refine lv_if_eq (tgt := 76) hx hb d_M_isPhrase_13 (by decide) (fun c_861 => ?_) (fun c_861 => ?_)
              · refine lv_aload_n hx hb d_M_isPhrase_76 rfl (lv_at hl 2 rfl) ?_
                refine lv_iload_n hx hb d_M_isPhrase_77 rfl (lv_at hl 1 rfl) ?_
                refine va_put (D := (dC, dI)) (ci := 4) (v := .int (z3 + 1)) (ty := .int) (C := R_M) (T := F_M) (N := 39) hx hb hts i_M t_M t_M_ok n_M hown hK hP hD hS 0 rfl rfl 23 (by decide) (hts _ m_f_M_176) (fun _ h9 => h9) rfl (by decide +kernel) rfl rfl (Nat.le_of_ble_eq_true rfl) d_M_isPhrase_78 (fun H locs hP hD hS => ?_)
                have hP : va_P (dC, dI) classes (w_M cA cZ a (.ref (a 8)) (upf (upf (f_M_partR Xq 0 0 0) 14 (fun _ => ((f_M_partR Xq 0 0 0) 14 0))) 23 (fun _ => (z3 + 1)))) H := hP
                have hD : va_D A (w_M cA cZ a (.ref (a 8)) (upf (upf (f_M_partR Xq 0 0 0) 14 (fun _ => ((f_M_partR Xq 0 0 0) 14 0))) 23 (fun _ => (z3 + 1)))) := hD
                refine lv_aload_n hx hb d_M_isPhrase_81 rfl (lv_at hl 2 rfl) ?_
                refine va_get (D := (dC, dI)) (ci := 4) (v := .int ((f_M_partR Xq 0 0 0) 14 0)) (C := R_M) (T := F_M) (N := 39) hx hb hts i_M hown hK hP 0 rfl rfl 14 (by decide) (hts _ m_f_M_97) (fun _ h9 => h9) rfl d_M_isPhrase_82 ?_
                refine lv_aload_n hx hb d_M_isPhrase_85 rfl (lv_at hl 2 rfl) ?_
                refine va_get (D := (dC, dI)) (ci := 4) (v := .int ((f_M_partR Xq 0 0 0) 13 0)) (C := R_M) (T := F_M) (N := 39) hx hb hts i_M hown hK hP 0 rfl rfl 13 (by decide) (hts _ m_f_M_94) (fun _ h9 => h9) rfl d_M_isPhrase_86 ?_
                refine lv_icmp_ne (tgt := 96) hx hb d_M_isPhrase_89 (by decide) (fun c_862 => ?_) (fun c_862 => ?_)
                · refine lv_iconst (v := 0) hx hb d_M_isPhrase_96 (by decide) ?_
                  have hF : (f_M_isPhraseR X x1) = (0, (upf (upf (f_M_partR Xq 0 0 0) 14 (fun _ => ((f_M_partR Xq 0 0 0) 14 0))) 23 (fun _ => (z3 + 1)))) := by rw [hE, f_M_isPhraseR_L11, if_pos c_858, if_neg c_859, if_neg c_862]
                  exact W.zret (v := 0) hx hb hr rfl (fun t ht hW => ⟨⟨0, (), rfl, ⟨by rw [hF], rfl⟩, by rw [hF, ht]; exact hP, by rw [hF]; exact hD⟩, hS.F ht⟩) hS.2.2 d_M_isPhrase_97
                · refine lv_iconst (v := 1) hx hb d_M_isPhrase_92 (by decide) ?_
                  refine lv_goto (tgt := 97) hx hb d_M_isPhrase_93 (by decide) ?_
                  have hF : (f_M_isPhraseR X x1) = (1, (upf (upf (f_M_partR Xq 0 0 0) 14 (fun _ => ((f_M_partR Xq 0 0 0) 14 0))) 23 (fun _ => (z3 + 1)))) := by rw [hE, f_M_isPhraseR_L11, if_pos c_858, if_neg c_859, if_pos c_862]
                  exact W.zret (v := 1) hx hb hr rfl (fun t ht hW => ⟨⟨1, (), rfl, ⟨by rw [hF], rfl⟩, by rw [hF, ht]; exact hP, by rw [hF]; exact hD⟩, hS.F ht⟩) hS.2.2 d_M_isPhrase_97
              · exact absurd c_861 (by decide)
            · exact absurd c_860 (by decide)
          · refine lv_iconst (v := 1) hx hb d_M_isPhrase_44 (by decide) ?_
            refine lv_goto (tgt := 49) hx hb d_M_isPhrase_45 (by decide) ?_
            refine lv_istore (lv' := [(4, .int 1), (3, .int (z3 + 1)), (0, .ref (a 0)), (1, .ref (a 8)), (2, .int x1)]) hx hb d_M_isPhrase_49 hl (by decide) rfl (fun ls hl => ?_)
            refine lv_aload_n hx hb d_M_isPhrase_51 rfl (lv_at hl 2 rfl) ?_
            refine lv_iload hx hb d_M_isPhrase_52 (lv_at hl 0 rfl) ?_
            refine lv_if_eq (tgt := 66) hx hb d_M_isPhrase_54 (by decide) (fun c_863 => ?_) (fun c_863 => ?_)
            · exact absurd c_863 (by decide)
            · refine lv_aload_n hx hb d_M_isPhrase_57 rfl (lv_at hl 2 rfl) ?_
              refine va_get (D := (dC, dI)) (ci := 4) (v := .int ((f_M_partR Xq 0 0 0) 14 0)) (C := R_M) (T := F_M) (N := 39) hx hb hts i_M hown hK hP 0 rfl rfl 14 (by decide) (hts _ m_f_M_97) (fun _ h9 => h9) rfl d_M_isPhrase_58 ?_
              refine lv_iconst (v := 1) hx hb d_M_isPhrase_61 (by decide) ?_
              refine lv_iadd hx hb d_M_isPhrase_62 ?_
              refine lv_goto (tgt := 70) hx hb d_M_isPhrase_63 (by decide) ?_
              refine va_put (D := (dC, dI)) (ci := 4) (v := .int (((f_M_partR Xq 0 0 0) 14 0) + 1)) (ty := .int) (C := R_M) (T := F_M) (N := 39) hx hb hts i_M t_M t_M_ok n_M hown hK hP hD hS 0 rfl rfl 14 (by decide) (hts _ m_f_M_97) (fun _ h9 => h9) rfl (by decide +kernel) rfl rfl (Nat.le_of_ble_eq_true rfl) d_M_isPhrase_70 (fun H locs hP hD hS => ?_)
              have hP : va_P (dC, dI) classes (w_M cA cZ a (.ref (a 8)) (upf (f_M_partR Xq 0 0 0) 14 (fun _ => (((f_M_partR Xq 0 0 0) 14 0) + 1)))) H := hP
              have hD : va_D A (w_M cA cZ a (.ref (a 8)) (upf (f_M_partR Xq 0 0 0) 14 (fun _ => (((f_M_partR Xq 0 0 0) 14 0) + 1)))) := hD
              refine lv_goto (tgt := 11) hx hb d_M_isPhrase_73 (by decide) ?_
              exact ih (upf (f_M_partR Xq 0 0 0) 14 (fun _ => (((f_M_partR Xq 0 0 0) 14 0) + 1))) (z3 + 1) H locs ls (by rw [hE, f_M_isPhraseR_L11, if_pos c_858, if_pos c_859]) (mu_adv4 (ptR_a hma hmt hmk) (hereR_eq c_859 (by decide)) hm) (m_adv_trans (ptR_a hma hmt hmk) (m_adv_step (hereR_eq c_859 (by decide)) (ptR_a hma hmt hmk).1)).1 (pt14_tR hmt) (pt14_kR hmk) hP hD hS (lv_sub hl [2, 3, 4, 0, 1] rfl)
        · refine lv_iconst (v := 0) hx hb d_M_isPhrase_33 (by decide) ?_
          have hF : (f_M_isPhraseR X x1) = (0, (f_M_partR Xq 0 0 0)) := by rw [hE, f_M_isPhraseR_L11, if_neg c_858]
          exact W.zret (v := 0) hx hb hr rfl (fun t ht hW => ⟨⟨0, (), rfl, ⟨by rw [hF], rfl⟩, by rw [hF, ht]; exact hP, by rw [hF]; exact hD⟩, hS.F ht⟩) hS.2.2 d_M_isPhrase_34
  exact loop_11 (nc_mu ((f_M_beginR X x1) 13 0) ((f_M_beginR X x1) 14 0) + 1) (f_M_beginR X x1) 0 H locs ls (by rw [f_M_isPhraseR]) (Nat.lt_succ_self _) (bg_aR hn) (bg_tR hmt) (bg_kR hmk) hP hD hS (lv_sub hl [2, 3, 4, 0, 1] rfl)
theorem ip_L {x1 : Int32} {k : Nat} (hk : pkR k) (h23 : Nat.beq k 23 = false) : ∀ (n : Nat) (X : Nat → Nat → Int32) (z3 : Int32), (f_M_isPhraseR_L11 x1 n X z3).2 k = X k := by
  have hk2 := hk
  obtain ⟨⟨k14, -⟩, -⟩ := hk2
  intro n
  induction n with
  | zero => intro X z3; rfl
  | succ n ih =>
    intro X z3
    rw [f_M_isPhraseR_L11]
    split
    · split
      · rw [ih, upf_ne k14, ptR_fr hk]
      · split
        · show upf (upf (f_M_partR X 0 0 0) 14 _) 23 _ k = X k
          rw [upf_ne h23, upf_ne k14, ptR_fr hk]
        · show upf (upf (f_M_partR X 0 0 0) 14 _) 23 _ k = X k
          rw [upf_ne h23, upf_ne k14, ptR_fr hk]
    · exact ptR_fr hk
theorem ip_fr {X : Nat → Nat → Int32} {x1 : Int32} {k : Nat} (hk : pkR k) (h23 : Nat.beq k 23 = false) (h13 : Nat.beq k 13 = false) : (f_M_isPhraseR X x1).2 k = X k := by
  have hk2 := hk
  obtain ⟨⟨k14, k15, -⟩, -⟩ := hk2
  unfold f_M_isPhraseR
  rw [ip_L hk h23]
  unfold f_M_beginR
  rw [upf_ne k15, upf_ne k14, upf_ne h13]
theorem ip_tR {X : Nat → Nat → Int32} {x1 : Int32} (h : m_t X) : m_t (f_M_isPhraseR X x1).2 := by
  unfold m_t
  rw [ip_fr ⟨⟨rfl, rfl, rfl, rfl, rfl⟩, rfl, rfl, rfl, rfl⟩ rfl rfl]
  exact h
theorem ip_kR {X : Nat → Nat → Int32} {x1 : Int32} (h : m_k X) : m_k (f_M_isPhraseR X x1).2 := by
  unfold m_k
  rw [ip_fr ⟨⟨rfl, rfl, rfl, rfl, rfl⟩, rfl, rfl, rfl, rfl⟩ rfl rfl]
  exact h
theorem ip_partsL {x1 : Int32} : ∀ (n : Nat) (X : Nat → Nat → Int32) (z3 : Int32), m_a X → 0 ≤ z3.toInt → z3.toInt ≤ (X 14 0).toInt → (X 14 0).toInt ≤ 30 → ¬ (f_M_isPhraseR_L11 x1 n X z3).1 = 0 → ((f_M_isPhraseR_L11 x1 n X z3).2 23 0).toInt ≤ 30 := by
  intro n
  induction n with
  | zero => intro X z3 _ _ _ _ hh; exact absurd rfl hh
  | succ n ih =>
    intro X z3 h h0 h1 h2
    rw [f_M_isPhraseR_L11]
    split
    · rename_i cw
      have s1 := ptR_lt h cw
      have s2 := ptR_aa (x1 := 0) (x2 := 0) (x3 := 0) h
      obtain ⟨a1, a2, a3, a4⟩ := s2
      have e3 : (z3 + 1).toInt = z3.toInt + 1 := nc_add1 (b := 100) (fun q => by have := nc_le q L_100 rfl; omega)
      split
      · rename_i c
        have c2 := hereR_eq c (by decide)
        have c3 := nc_add1 c2
        have c4 := nc_nle c2 rfl rfl
        have c5 := a1.2.2
        exact ih (upf (f_M_partR X 0 0 0) 14 (fun _ => (((f_M_partR X 0 0 0) 14 0) + 1))) (z3 + 1) (ma_step c2 a1) (by omega) (by show (z3 + 1).toInt ≤ (((f_M_partR X 0 0 0) 14 0) + 1).toInt; omega) (by show (((f_M_partR X 0 0 0) 14 0) + 1).toInt ≤ 30; omega)
      · split
        · intro _
          show (z3 + 1).toInt ≤ 30
          omega
        · intro hh
          exact absurd rfl hh
    · intro hh
      exact absurd rfl hh
theorem ip_parts {X : Nat → Nat → Int32} {x1 : Int32} (hn : x1.toInt ≤ 30) (hh : ¬ (f_M_isPhraseR X x1).1 = 0) : ((f_M_isPhraseR X x1).2 23 0).toInt ≤ 30 := by
  unfold f_M_isPhraseR at hh ⊢
  exact ip_partsL _ _ _ (bg_aR hn) (by decide) (by show (0 : Int32).toInt ≤ (0 : Int32).toInt; decide) (by show (0 : Int32).toInt ≤ 30; decide) hh
