set_option maxHeartbeats 8000000 in
set_option maxRecDepth 100000 in
theorem law_loop_open (Rel : (Nat → Nat → Nat → Int32) → (Nat → Nat → Int32) → Prop) (p_t : ∀ (S : Nat → Nat → Nat → Int32) (X : Nat → Nat → Int32), Rel S X → m_t X) (p_k : ∀ (S : Nat → Nat → Nat → Int32) (X : Nat → Nat → Int32), Rel S X → m_k X) (p_s : ∀ (S : Nat → Nat → Nat → Int32) (X : Nat → Nat → Int32), Rel S X → 0 ≤ (X 11 0).toInt ∧ (X 11 0).toInt ≤ 30) (p_ps : ∀ (S : Nat → Nat → Nat → Int32) (X : Nat → Nat → Int32), Rel S X → (X 25 0).toInt ≤ 30) (p_pp : ∀ (S : Nat → Nat → Nat → Int32) (X : Nat → Nat → Int32), Rel S X → (X 26 0).toInt ≤ 30) (p_ap : ∀ (S : Nat → Nat → Nat → Int32) (X : Nat → Nat → Int32), Rel S X → 0 ≤ (X 30 0).toInt ∧ (X 30 0).toInt < 30) (p_c : ∀ (S : Nat → Nat → Nat → Int32) (X : Nat → Nat → Int32), Rel S X → 0 ≤ (X 33 0).toInt ∧ (X 33 0).toInt ≤ 32) (p_row : ∀ (S : Nat → Nat → Nat → Int32) (X : Nat → Nat → Int32), Rel S X → 0 ≤ ((S 0) 2 0).toInt) (r_thing : ∀ (S : Nat → Nat → Nat → Int32) (X : Nat → Nat → Int32), Rel S X → (f_NC_thing S).1 = (f_M_thing X).1 ∧ Rel (f_NC_thing S).2 (f_M_thing X).2) (r_word : ∀ (S : Nat → Nat → Nat → Int32) (X : Nat → Nat → Int32) (x1 x2 x3 x4 : Int32), Rel S X → (f_NC_word S x1 x2 x3 x4).1 = (f_M_word X x1 x2 x3 x4).1 ∧ Rel (f_NC_word S x1 x2 x3 x4).2 (f_M_word X x1 x2 x3 x4).2) (r_kind : ∀ (S : Nat → Nat → Nat → Int32) (X : Nat → Nat → Int32) (x1 x2 : Int32), Rel S X → (f_NC_kind S x1 x2).1 = (f_M_kind X x1 x2).1 ∧ Rel (f_NC_kind S x1 x2).2 (f_M_kind X x1 x2).2) (r_place : ∀ (S : Nat → Nat → Nat → Int32) (X : Nat → Nat → Int32) (x1 x2 : Int32), Rel S X → (f_NC_place S x1 x2).1 = (f_M_place X x1 x2).1 ∧ Rel (f_NC_place S x1 x2).2 (f_M_place X x1 x2).2) (r_mark : ∀ (S : Nat → Nat → Nat → Int32) (X : Nat → Nat → Int32) (x1 x2 x3 : Int32), Rel S X → (f_NC_mark S x1 x2 x3).1 = (f_M_mark X x1 x2 x3).1 ∧ Rel (f_NC_mark S x1 x2 x3).2 (f_M_mark X x1 x2 x3).2) (r_plural : ∀ (S : Nat → Nat → Nat → Int32) (X : Nat → Nat → Int32) (x1 x2 : Int32), Rel S X → (f_NC_plural S x1 x2).1 = (f_M_plural X x1 x2).1 ∧ Rel (f_NC_plural S x1 x2).2 (f_M_plural X x1 x2).2) (r_weight : ∀ (S : Nat → Nat → Nat → Int32) (X : Nat → Nat → Int32) (x1 x2 : Int32), Rel S X → (f_NC_weight S x1 x2).1 = (f_M_weight X x1 x2).1 ∧ Rel (f_NC_weight S x1 x2).2 (f_M_weight X x1 x2).2) (r_limit : ∀ (S : Nat → Nat → Nat → Int32) (X : Nat → Nat → Int32) (x1 : Int32), Rel S X → (f_NC_limit S x1).1 = (f_M_limit X x1).1 ∧ Rel (f_NC_limit S x1).2 (f_M_limit X x1).2) (r_score : ∀ (S : Nat → Nat → Nat → Int32) (X : Nat → Nat → Int32) (x1 : Int32), Rel S X → (f_NC_score S x1) = (f_M_score X x1).1 ∧ Rel S (f_M_score X x1).2) (r_alike : ∀ (S : Nat → Nat → Nat → Int32) (X : Nat → Nat → Int32) (x1 x2 : Int32), Rel S X → (f_NC_alike S x1 x2) = (f_M_alike X x1 x2).1 ∧ Rel S (f_M_alike X x1 x2).2) (r_type : ∀ (S : Nat → Nat → Nat → Int32) (X : Nat → Nat → Int32) (x1 : Int32), Rel S X → (f_NC_type S x1).1 = (f_M_type X x1).1 ∧ Rel (f_NC_type S x1).2 (f_M_type X x1).2) (r_wipe : ∀ (S : Nat → Nat → Nat → Int32) (X : Nat → Nat → Int32), Rel S X → (f_NC_wipe S).1 = (f_M_wipe X).1 ∧ Rel (f_NC_wipe S).2 (f_M_wipe X).2) (r_fits : ∀ (S : Nat → Nat → Nat → Int32) (X : Nat → Nat → Int32) (x1 : Int32), Rel S X → (f_NC_fits S x1).1 = (f_M_fits X x1).1 ∧ Rel (f_NC_fits S x1).2 (f_M_fits X x1).2) (r_choose : ∀ (S : Nat → Nat → Nat → Int32) (X : Nat → Nat → Int32), Rel S X → (f_NC_choose S).1 = (f_M_choose X).1 ∧ Rel (f_NC_choose S).2 (f_M_choose X).2) (r_reply : ∀ (S : Nat → Nat → Nat → Int32) (X : Nat → Nat → Int32), Rel S X → (f_NC_reply S).1 = (f_M_reply X).1 ∧ Rel (f_NC_reply S).2 (f_M_reply X).2) (r_chosen : ∀ (S : Nat → Nat → Nat → Int32) (X : Nat → Nat → Int32) (x1 : Int32), Rel S X → (f_NC_chosen S x1) = (f_M_chosen X x1).1 ∧ Rel S (f_M_chosen X x1).2) (r_asked : ∀ (S : Nat → Nat → Nat → Int32) (X : Nat → Nat → Int32) (x1 x2 : Int32), Rel S X → (f_NC_asked S x1 x2) = (f_M_asked X x1 x2).1 ∧ Rel S (f_M_asked X x1 x2).2) (r_told : ∀ (S : Nat → Nat → Nat → Int32) (X : Nat → Nat → Int32) (x1 : Int32), Rel S X → (f_NC_told S x1) = (f_M_told X x1).1 ∧ Rel S (f_M_told X x1).2) (r_count : ∀ (S : Nat → Nat → Nat → Int32) (X : Nat → Nat → Int32) (x1 : Int32), Rel S X → (f_NC_count S x1) = (f_M_count X x1).1 ∧ Rel S (f_M_count X x1).2) {p : Program} {l : Launch} {e : Env} {s : State} {m : MethodId} {below : List Frame} {meth : Method} {c : Code} {dC : Nat → ClassId} {dI : Nat → Nat → Nat} {cA cZ : ClassId} {b L : Nat} {xs : Nat → Int32} (hL : L ≤ 2560) (C0 : lw_At p s m meth c b L xs) (hK : va_K (dC, dI) classes [(cA, .int), (cZ, .boolean)] s) (a : Nat → Nat) :
    ∀ (n i : Nat) (z3 : Int32) (ad : Nat → Nat → Nat) (rv : Value) (S : Nat → Nat → Nat → Int32) (X : Nat → Nat → Int32) (H : Heap) (locs : List Loc) (ls : Array Slot), i ≤ L → L < i + n → z3 = nI i → Rel S X → va_P (dC, dI) classes ((w_NC cA ad S) ++ (w_M cA cZ a rv X)) H → va_D (fun q : Nat => s.heap.size ≤ q) ((w_NC cA ad S) ++ (w_M cA cZ a rv X)) → va_S (fun q : Nat => s.heap.size ≤ q) s.heap H locs → lv_has ls 4 [(0, .ref b), (1, .ref ((ad 0) 0)), (2, .ref (a 0)), (3, .int z3)] → W p l e room_1 s m #[Value.ref b] below meth c H locs 46 1376 (lw_Z below #[Value.ref b] s) (F0 m 18 ls []) := by
  obtain ⟨hx, hb, hr, hml, hown, hts0, hX, hbl, hlocks, hgv⟩ := C0
  have hA : ∀ q : Nat, s.heap.size ≤ q → (fun q : Nat => s.heap.size ≤ q) q := fun _ h => h
  have hbA : ¬ (fun q : Nat => s.heap.size ≤ q) b := Nat.not_le.mpr hbl
  have hts : ∀ w ∈ lw_G, w.before #[Value.ref b] s = true := fun w h => hts0 w (List.mem_filter.mp h).1
  have hN : nc_N s := nc_N_of hts0
  have hK1 := hK.sub (tys' := [(cA, .int)]) [0] rfl
  have hfix : CallFix p m c code 4 s #[Value.ref b] lw_G R_law := ⟨hx, hb, hml, hown, hts⟩
  intro n
  induction n with
  | zero =>
    intro i z3 ad rv S X H locs ls h1 h2
    exact absurd h2 (by omega)
  | succ n ih =>
    intro i z3 ad rv S X H locs ls hiL hn ez hrel hP hD hS hl
    refine lv_iload_n hx hb d_law_18 rfl (lv_at hl 3 rfl) ?_
    refine lv_aload_n hx hb d_law_19 rfl (lv_at hl 0 rfl) ?_
    refine va_slen hx hb hX hbl hbA hS d_law_20 ?_
    refine lv_iconst (v := 5) hx hb d_law_21 (by decide) ?_
    refine lv_isub hx hb d_law_22 ?_
    refine lv_icmp_gt (tgt := 669) hx hb d_law_23 (by decide) (fun c_0 => ?_) (fun c_0 => ?_)
    · refine lv_iconst (v := 1) hx hb d_law_669 (by decide) ?_
      refine va_forget (fun q hq => hS.2.2 q hq) ?_
      exact lw_ret hx hb hr hlocks d_law_670
    · have hi : i + 5 ≤ L := lw_hi hL hiL ez c_0
      refine lv_aload_n hx hb d_law_26 rfl (lv_at hl 0 rfl) ?_
      refine lv_iload_n hx hb d_law_27 rfl (lv_at hl 3 rfl) ?_
      refine va_sld hx hb hX hbl hbA hS (lw_in0 hL hi ez) d_law_28 ?_
      refine lv_bipush (v := 31) hx hb d_law_29 (by decide) ?_
      refine lv_iand hx hb d_law_31 ?_
      by_cases c_911 : ((xs z3.toNatClampNeg) &&& 31) = 0
      · refine lv_tableIn (tgt := 124) (off := 92) hx hb d_law_32 (by rw [c_911]; decide) (by rw [c_911]; decide) (by rw [c_911]; decide) (by decide) ?_
        refine lv_aload_n hx hb d_law_124 rfl (lv_at hl 1 rfl) ?_
        have hP_w_912 := hP.sub (ws' := (w_NC cA ad S)) [0, 1, 2, 3, 4, 5, 6, 7, 8, 9, 10, 11, 12, 13, 14, 15, 16, 17, 18, 19, 20, 21, 22, 23, 24, 25, 26, 27, 28, 29, 30] rfl
        have hD_w_912 := hD.sub (ws' := (w_NC cA ad S)) [0, 1, 2, 3, 4, 5, 6, 7, 8, 9, 10, 11, 12, 13, 14, 15, 16, 17, 18, 19, 20, 21, 22, 23, 24, 25, 26, 27, 28, 29, 30] (by decide) rfl
        have hFc := va_free (wc := (w_NC cA ad S)) hD hS hA [0, 1, 2, 3, 4, 5, 6, 7, 8, 9, 10, 11, 12, 13, 14, 15, 16, 17, 18, 19, 20, 21, 22, 23, 24, 25, 26, 27, 28, 29, 30] rfl
        refine nc_mui (va_runV (As := []) (rest := []) hfix (c_NC_thing l dC dI cA H.size ad S) (k_law_13 hts hN ⟨Nat.le_of_ble_eq_true rfl, Nat.le_of_ble_eq_true rfl⟩) (nc_preVM hK1 hN hP_w_912 hD_w_912 rfl rfl) rfl rfl hl.1 rfl (lv_room (Nat.le_of_ble_eq_true rfl)) d_law_125 ⟨Nat.le_of_ble_eq_true rfl, Nat.le_of_ble_eq_true rfl⟩) hS hFc (fun r H locs er hP1 hD1 hk1 hS => ?_)
        subst er
        obtain ⟨hP, hD⟩ := va_join (wr := (w_M cA cZ a rv X)) (w1 := (w_NC cA ad (f_NC_thing S).2)) hP hD [0, 1, 2, 3, 4, 5, 6, 7, 8, 9, 10, 11, 12, 13, 14, 15, 16, 17, 18, 19, 20, 21, 22, 23, 24, 25, 26, 27, 28, 29, 30] [31, 32, 33, 34, 35, 36, 37, 38, 39, 40, 41, 42, 43, 44, 45] rfl rfl (by decide) (by decide) hk1 hFc hP1 hD1
        have hP : va_P (dC, dI) classes ((w_NC cA ad (f_NC_thing S).2) ++ (w_M cA cZ a rv X)) H := hP.sub [15, 16, 17, 18, 19, 20, 21, 22, 23, 24, 25, 26, 27, 28, 29, 30, 31, 32, 33, 34, 35, 36, 37, 38, 39, 40, 41, 42, 43, 44, 45, 0, 1, 2, 3, 4, 5, 6, 7, 8, 9, 10, 11, 12, 13, 14] rfl
        have hD : va_D (fun q : Nat => s.heap.size ≤ q) ((w_NC cA ad (f_NC_thing S).2) ++ (w_M cA cZ a rv X)) := hD.sub [15, 16, 17, 18, 19, 20, 21, 22, 23, 24, 25, 26, 27, 28, 29, 30, 31, 32, 33, 34, 35, 36, 37, 38, 39, 40, 41, 42, 43, 44, 45, 0, 1, 2, 3, 4, 5, 6, 7, 8, 9, 10, 11, 12, 13, 14] (by decide) rfl
        refine lv_aload_n hx hb d_law_128 rfl (lv_at hl 2 rfl) ?_
        have hP_w_913 := hP.sub (ws' := (w_M cA cZ a rv X)) [31, 32, 33, 34, 35, 36, 37, 38, 39, 40, 41, 42, 43, 44, 45] rfl
        have hD_w_913 := hD.sub (ws' := (w_M cA cZ a rv X)) [31, 32, 33, 34, 35, 36, 37, 38, 39, 40, 41, 42, 43, 44, 45] (by decide) rfl
        have hFc := va_free (wc := (w_M cA cZ a rv X)) hD hS hA [31, 32, 33, 34, 35, 36, 37, 38, 39, 40, 41, 42, 43, 44, 45] rfl
        refine nc_mui (va_runV (As := []) (rest := [.int (f_NC_thing S).1]) hfix (c_M_thing l dC dI cA cZ H.size a rv X (p_t S X hrel)) (k_law_17 hts hN ⟨Nat.le_of_ble_eq_true rfl, Nat.le_of_ble_eq_true rfl⟩) (nc_preVZM hK hN hP_w_913 hD_w_913 rfl rfl) rfl rfl hl.1 rfl (lv_room (Nat.le_of_ble_eq_true rfl)) d_law_129 ⟨Nat.le_of_ble_eq_true rfl, Nat.le_of_ble_eq_true rfl⟩) hS hFc (fun r H locs er hP1 hD1 hk1 hS => ?_)
        subst er
        obtain ⟨hP, hD⟩ := va_join (wr := (w_NC cA ad (f_NC_thing S).2)) (w1 := (w_M cA cZ a rv (f_M_thing X).2)) hP hD [31, 32, 33, 34, 35, 36, 37, 38, 39, 40, 41, 42, 43, 44, 45] [0, 1, 2, 3, 4, 5, 6, 7, 8, 9, 10, 11, 12, 13, 14, 15, 16, 17, 18, 19, 20, 21, 22, 23, 24, 25, 26, 27, 28, 29, 30] rfl rfl (by decide) (by decide) hk1 hFc hP1 hD1
        have hP : va_P (dC, dI) classes ((w_NC cA ad (f_NC_thing S).2) ++ (w_M cA cZ a rv (f_M_thing X).2)) H := hP.sub [0, 1, 2, 3, 4, 5, 6, 7, 8, 9, 10, 11, 12, 13, 14, 15, 16, 17, 18, 19, 20, 21, 22, 23, 24, 25, 26, 27, 28, 29, 30, 31, 32, 33, 34, 35, 36, 37, 38, 39, 40, 41, 42, 43, 44, 45] rfl
        have hD : va_D (fun q : Nat => s.heap.size ≤ q) ((w_NC cA ad (f_NC_thing S).2) ++ (w_M cA cZ a rv (f_M_thing X).2)) := hD.sub [0, 1, 2, 3, 4, 5, 6, 7, 8, 9, 10, 11, 12, 13, 14, 15, 16, 17, 18, 19, 20, 21, 22, 23, 24, 25, 26, 27, 28, 29, 30, 31, 32, 33, 34, 35, 36, 37, 38, 39, 40, 41, 42, 43, 44, 45] (by decide) rfl
        refine lv_icmp_eq (tgt := 663) hx hb d_law_132 (by decide) (fun c_914 => ?_) (fun c_914 => ?_)
        · refine lv_iinc (v := (z3 + 5)) (lv' := [(3, .int (z3 + 5)), (0, .ref b), (1, .ref (ad 0 0)), (2, .ref (a 0))]) hx hb d_law_663 hl (k := 3) rfl rfl (by decide) rfl (fun ls hl => ?_)
          refine lv_goto (tgt := 18) hx hb d_law_666 (by decide) ?_
          exact ih (i + 5) (z3 + 5) ad rv (f_NC_thing S).2 (f_M_thing X).2 H locs ls (by omega) (by omega) (lw_z5 ez) (r_thing S X hrel).2 hP hD hS (lv_sub hl [1, 2, 3, 0] rfl)
        · exact absurd (r_thing S X hrel).1 c_914
      · by_cases c_915 : ((xs z3.toNatClampNeg) &&& 31) = 1
        · refine lv_tableIn (tgt := 137) (off := 105) hx hb d_law_32 (by rw [c_915]; decide) (by rw [c_915]; decide) (by rw [c_915]; decide) (by decide) ?_
          refine lv_aload_n hx hb d_law_137 rfl (lv_at hl 1 rfl) ?_
          refine lv_aload_n hx hb d_law_138 rfl (lv_at hl 0 rfl) ?_
          refine lv_iload_n hx hb d_law_139 rfl (lv_at hl 3 rfl) ?_
          refine lv_iconst (v := 1) hx hb d_law_140 (by decide) ?_
          refine lv_iadd hx hb d_law_141 ?_
          refine va_sld hx hb hX hbl hbA hS (lw_in1 hL hi ez) d_law_142 ?_
          refine lv_aload_n hx hb d_law_143 rfl (lv_at hl 0 rfl) ?_
          refine lv_iload_n hx hb d_law_144 rfl (lv_at hl 3 rfl) ?_
          refine lv_iconst (v := 2) hx hb d_law_145 (by decide) ?_
          refine lv_iadd hx hb d_law_146 ?_
          refine va_sld hx hb hX hbl hbA hS (lw_in2 hL hi ez) d_law_147 ?_
          refine lv_aload_n hx hb d_law_148 rfl (lv_at hl 0 rfl) ?_
          refine lv_iload_n hx hb d_law_149 rfl (lv_at hl 3 rfl) ?_
          refine lv_iconst (v := 3) hx hb d_law_150 (by decide) ?_
          refine lv_iadd hx hb d_law_151 ?_
          refine va_sld hx hb hX hbl hbA hS (lw_in3 hL hi ez) d_law_152 ?_
          refine lv_if_eq (tgt := 160) hx hb d_law_153 (by decide) (fun c_916 => ?_) (fun c_916 => ?_)
          · refine lv_iconst (v := 0) hx hb d_law_160 (by decide) ?_
            refine lv_aload_n hx hb d_law_161 rfl (lv_at hl 0 rfl) ?_
            refine lv_iload_n hx hb d_law_162 rfl (lv_at hl 3 rfl) ?_
            refine lv_iconst (v := 4) hx hb d_law_163 (by decide) ?_
            refine lv_iadd hx hb d_law_164 ?_
            refine va_sld hx hb hX hbl hbA hS (lw_in4 hL hi ez) d_law_165 ?_
            refine lv_if_eq (tgt := 173) hx hb d_law_166 (by decide) (fun c_917 => ?_) (fun c_917 => ?_)
            · refine lv_iconst (v := 0) hx hb d_law_173 (by decide) ?_
              have hP_w_918 := hP.sub (ws' := (w_NC cA ad S)) [0, 1, 2, 3, 4, 5, 6, 7, 8, 9, 10, 11, 12, 13, 14, 15, 16, 17, 18, 19, 20, 21, 22, 23, 24, 25, 26, 27, 28, 29, 30] rfl
              have hD_w_918 := hD.sub (ws' := (w_NC cA ad S)) [0, 1, 2, 3, 4, 5, 6, 7, 8, 9, 10, 11, 12, 13, 14, 15, 16, 17, 18, 19, 20, 21, 22, 23, 24, 25, 26, 27, 28, 29, 30] (by decide) rfl
              have hFc := va_free (wc := (w_NC cA ad S)) hD hS hA [0, 1, 2, 3, 4, 5, 6, 7, 8, 9, 10, 11, 12, 13, 14, 15, 16, 17, 18, 19, 20, 21, 22, 23, 24, 25, 26, 27, 28, 29, 30] rfl
              refine nc_mui (va_runV (As := [.int (xs (z3 + 1).toNatClampNeg), .int (xs (z3 + 2).toNatClampNeg), .int 0, .int 0]) (rest := []) hfix (c_NC_word l dC dI cA H.size ad S (xs (z3 + 1).toNatClampNeg) (xs (z3 + 2).toNatClampNeg) 0 0) (k_law_18 hts hN ⟨Nat.le_of_ble_eq_true rfl, Nat.le_of_ble_eq_true rfl⟩) (nc_preVM hK1 hN hP_w_918 hD_w_918 rfl rfl) rfl rfl hl.1 rfl (lv_room (Nat.le_of_ble_eq_true rfl)) d_law_174 ⟨Nat.le_of_ble_eq_true rfl, Nat.le_of_ble_eq_true rfl⟩) hS hFc (fun r H locs er hP1 hD1 hk1 hS => ?_)
              subst er
              obtain ⟨hP, hD⟩ := va_join (wr := (w_M cA cZ a rv X)) (w1 := (w_NC cA ad (f_NC_word S (xs (z3 + 1).toNatClampNeg) (xs (z3 + 2).toNatClampNeg) 0 0).2)) hP hD [0, 1, 2, 3, 4, 5, 6, 7, 8, 9, 10, 11, 12, 13, 14, 15, 16, 17, 18, 19, 20, 21, 22, 23, 24, 25, 26, 27, 28, 29, 30] [31, 32, 33, 34, 35, 36, 37, 38, 39, 40, 41, 42, 43, 44, 45] rfl rfl (by decide) (by decide) hk1 hFc hP1 hD1
              have hP : va_P (dC, dI) classes ((w_NC cA ad (f_NC_word S (xs (z3 + 1).toNatClampNeg) (xs (z3 + 2).toNatClampNeg) 0 0).2) ++ (w_M cA cZ a rv X)) H := hP.sub [15, 16, 17, 18, 19, 20, 21, 22, 23, 24, 25, 26, 27, 28, 29, 30, 31, 32, 33, 34, 35, 36, 37, 38, 39, 40, 41, 42, 43, 44, 45, 0, 1, 2, 3, 4, 5, 6, 7, 8, 9, 10, 11, 12, 13, 14] rfl
              have hD : va_D (fun q : Nat => s.heap.size ≤ q) ((w_NC cA ad (f_NC_word S (xs (z3 + 1).toNatClampNeg) (xs (z3 + 2).toNatClampNeg) 0 0).2) ++ (w_M cA cZ a rv X)) := hD.sub [15, 16, 17, 18, 19, 20, 21, 22, 23, 24, 25, 26, 27, 28, 29, 30, 31, 32, 33, 34, 35, 36, 37, 38, 39, 40, 41, 42, 43, 44, 45, 0, 1, 2, 3, 4, 5, 6, 7, 8, 9, 10, 11, 12, 13, 14] (by decide) rfl
              refine lv_aload_n hx hb d_law_177 rfl (lv_at hl 2 rfl) ?_
              refine lv_aload_n hx hb d_law_178 rfl (lv_at hl 0 rfl) ?_
              refine lv_iload_n hx hb d_law_179 rfl (lv_at hl 3 rfl) ?_
              refine lv_iconst (v := 1) hx hb d_law_180 (by decide) ?_
              refine lv_iadd hx hb d_law_181 ?_
              refine va_sld hx hb hX hbl hbA hS (lw_in1 hL hi ez) d_law_182 ?_
              refine lv_aload_n hx hb d_law_183 rfl (lv_at hl 0 rfl) ?_
              refine lv_iload_n hx hb d_law_184 rfl (lv_at hl 3 rfl) ?_
              refine lv_iconst (v := 2) hx hb d_law_185 (by decide) ?_
              refine lv_iadd hx hb d_law_186 ?_
              refine va_sld hx hb hX hbl hbA hS (lw_in2 hL hi ez) d_law_187 ?_
              refine lv_aload_n hx hb d_law_188 rfl (lv_at hl 0 rfl) ?_
              refine lv_iload_n hx hb d_law_189 rfl (lv_at hl 3 rfl) ?_
              refine lv_iconst (v := 3) hx hb d_law_190 (by decide) ?_
              refine lv_iadd hx hb d_law_191 ?_
              refine va_sld hx hb hX hbl hbA hS (lw_in3 hL hi ez) d_law_192 ?_
              refine lv_if_eq (tgt := 200) hx hb d_law_193 (by decide) (fun c_919 => ?_) (fun c_919 => ?_)
              · refine lv_iconst (v := 0) hx hb d_law_200 (by decide) ?_
                refine lv_aload_n hx hb d_law_201 rfl (lv_at hl 0 rfl) ?_
                refine lv_iload_n hx hb d_law_202 rfl (lv_at hl 3 rfl) ?_
                refine lv_iconst (v := 4) hx hb d_law_203 (by decide) ?_
                refine lv_iadd hx hb d_law_204 ?_
                refine va_sld hx hb hX hbl hbA hS (lw_in4 hL hi ez) d_law_205 ?_
                refine lv_if_eq (tgt := 213) hx hb d_law_206 (by decide) (fun c_920 => ?_) (fun c_920 => ?_)
                · refine lv_iconst (v := 0) hx hb d_law_213 (by decide) ?_
                  have hP_w_921 := hP.sub (ws' := (w_M cA cZ a rv X)) [31, 32, 33, 34, 35, 36, 37, 38, 39, 40, 41, 42, 43, 44, 45] rfl
                  have hD_w_921 := hD.sub (ws' := (w_M cA cZ a rv X)) [31, 32, 33, 34, 35, 36, 37, 38, 39, 40, 41, 42, 43, 44, 45] (by decide) rfl
                  have hFc := va_free (wc := (w_M cA cZ a rv X)) hD hS hA [31, 32, 33, 34, 35, 36, 37, 38, 39, 40, 41, 42, 43, 44, 45] rfl
                  refine nc_mui (va_runV (As := [.int (xs (z3 + 1).toNatClampNeg), .int (xs (z3 + 2).toNatClampNeg), .int 0, .int 0]) (rest := [.int (f_NC_word S (xs (z3 + 1).toNatClampNeg) (xs (z3 + 2).toNatClampNeg) 0 0).1]) hfix (c_M_word l dC dI cA cZ H.size a rv X (xs (z3 + 1).toNatClampNeg) (xs (z3 + 2).toNatClampNeg) 0 0 (p_t S X hrel)) (k_law_22 hts hN ⟨Nat.le_of_ble_eq_true rfl, Nat.le_of_ble_eq_true rfl⟩) (nc_preVZM hK hN hP_w_921 hD_w_921 rfl rfl) rfl rfl hl.1 rfl (lv_room (Nat.le_of_ble_eq_true rfl)) d_law_214 ⟨Nat.le_of_ble_eq_true rfl, Nat.le_of_ble_eq_true rfl⟩) hS hFc (fun r H locs er hP1 hD1 hk1 hS => ?_)
                  subst er
                  obtain ⟨hP, hD⟩ := va_join (wr := (w_NC cA ad (f_NC_word S (xs (z3 + 1).toNatClampNeg) (xs (z3 + 2).toNatClampNeg) 0 0).2)) (w1 := (w_M cA cZ a rv (f_M_word X (xs (z3 + 1).toNatClampNeg) (xs (z3 + 2).toNatClampNeg) 0 0).2)) hP hD [31, 32, 33, 34, 35, 36, 37, 38, 39, 40, 41, 42, 43, 44, 45] [0, 1, 2, 3, 4, 5, 6, 7, 8, 9, 10, 11, 12, 13, 14, 15, 16, 17, 18, 19, 20, 21, 22, 23, 24, 25, 26, 27, 28, 29, 30] rfl rfl (by decide) (by decide) hk1 hFc hP1 hD1
                  have hP : va_P (dC, dI) classes ((w_NC cA ad (f_NC_word S (xs (z3 + 1).toNatClampNeg) (xs (z3 + 2).toNatClampNeg) 0 0).2) ++ (w_M cA cZ a rv (f_M_word X (xs (z3 + 1).toNatClampNeg) (xs (z3 + 2).toNatClampNeg) 0 0).2)) H := hP.sub [0, 1, 2, 3, 4, 5, 6, 7, 8, 9, 10, 11, 12, 13, 14, 15, 16, 17, 18, 19, 20, 21, 22, 23, 24, 25, 26, 27, 28, 29, 30, 31, 32, 33, 34, 35, 36, 37, 38, 39, 40, 41, 42, 43, 44, 45] rfl
                  have hD : va_D (fun q : Nat => s.heap.size ≤ q) ((w_NC cA ad (f_NC_word S (xs (z3 + 1).toNatClampNeg) (xs (z3 + 2).toNatClampNeg) 0 0).2) ++ (w_M cA cZ a rv (f_M_word X (xs (z3 + 1).toNatClampNeg) (xs (z3 + 2).toNatClampNeg) 0 0).2)) := hD.sub [0, 1, 2, 3, 4, 5, 6, 7, 8, 9, 10, 11, 12, 13, 14, 15, 16, 17, 18, 19, 20, 21, 22, 23, 24, 25, 26, 27, 28, 29, 30, 31, 32, 33, 34, 35, 36, 37, 38, 39, 40, 41, 42, 43, 44, 45] (by decide) rfl
                  refine lv_icmp_eq (tgt := 663) hx hb d_law_217 (by decide) (fun c_922 => ?_) (fun c_922 => ?_)
                  · refine lv_iinc (v := (z3 + 5)) (lv' := [(3, .int (z3 + 5)), (0, .ref b), (1, .ref (ad 0 0)), (2, .ref (a 0))]) hx hb d_law_663 hl (k := 3) rfl rfl (by decide) rfl (fun ls hl => ?_)
                    refine lv_goto (tgt := 18) hx hb d_law_666 (by decide) ?_
                    exact ih (i + 5) (z3 + 5) ad rv (f_NC_word S (xs (z3 + 1).toNatClampNeg) (xs (z3 + 2).toNatClampNeg) 0 0).2 (f_M_word X (xs (z3 + 1).toNatClampNeg) (xs (z3 + 2).toNatClampNeg) 0 0).2 H locs ls (by omega) (by omega) (lw_z5 ez) (r_word S X (xs (z3 + 1).toNatClampNeg) (xs (z3 + 2).toNatClampNeg) 0 0 hrel).2 hP hD hS (lv_sub hl [1, 2, 3, 0] rfl)
                  · exact absurd (r_word S X (xs (z3 + 1).toNatClampNeg) (xs (z3 + 2).toNatClampNeg) 0 0 hrel).1 c_922
                · exact absurd c_917 c_920
              · exact absurd c_916 c_919
            · refine lv_iconst (v := 1) hx hb d_law_169 (by decide) ?_
              refine lv_goto (tgt := 174) hx hb d_law_170 (by decide) ?_
              have hP_w_923 := hP.sub (ws' := (w_NC cA ad S)) [0, 1, 2, 3, 4, 5, 6, 7, 8, 9, 10, 11, 12, 13, 14, 15, 16, 17, 18, 19, 20, 21, 22, 23, 24, 25, 26, 27, 28, 29, 30] rfl
              have hD_w_923 := hD.sub (ws' := (w_NC cA ad S)) [0, 1, 2, 3, 4, 5, 6, 7, 8, 9, 10, 11, 12, 13, 14, 15, 16, 17, 18, 19, 20, 21, 22, 23, 24, 25, 26, 27, 28, 29, 30] (by decide) rfl
              have hFc := va_free (wc := (w_NC cA ad S)) hD hS hA [0, 1, 2, 3, 4, 5, 6, 7, 8, 9, 10, 11, 12, 13, 14, 15, 16, 17, 18, 19, 20, 21, 22, 23, 24, 25, 26, 27, 28, 29, 30] rfl
              refine nc_mui (va_runV (As := [.int (xs (z3 + 1).toNatClampNeg), .int (xs (z3 + 2).toNatClampNeg), .int 0, .int 1]) (rest := []) hfix (c_NC_word l dC dI cA H.size ad S (xs (z3 + 1).toNatClampNeg) (xs (z3 + 2).toNatClampNeg) 0 1) (k_law_18 hts hN ⟨Nat.le_of_ble_eq_true rfl, Nat.le_of_ble_eq_true rfl⟩) (nc_preVM hK1 hN hP_w_923 hD_w_923 rfl rfl) rfl rfl hl.1 rfl (lv_room (Nat.le_of_ble_eq_true rfl)) d_law_174 ⟨Nat.le_of_ble_eq_true rfl, Nat.le_of_ble_eq_true rfl⟩) hS hFc (fun r H locs er hP1 hD1 hk1 hS => ?_)
              subst er
              obtain ⟨hP, hD⟩ := va_join (wr := (w_M cA cZ a rv X)) (w1 := (w_NC cA ad (f_NC_word S (xs (z3 + 1).toNatClampNeg) (xs (z3 + 2).toNatClampNeg) 0 1).2)) hP hD [0, 1, 2, 3, 4, 5, 6, 7, 8, 9, 10, 11, 12, 13, 14, 15, 16, 17, 18, 19, 20, 21, 22, 23, 24, 25, 26, 27, 28, 29, 30] [31, 32, 33, 34, 35, 36, 37, 38, 39, 40, 41, 42, 43, 44, 45] rfl rfl (by decide) (by decide) hk1 hFc hP1 hD1
              have hP : va_P (dC, dI) classes ((w_NC cA ad (f_NC_word S (xs (z3 + 1).toNatClampNeg) (xs (z3 + 2).toNatClampNeg) 0 1).2) ++ (w_M cA cZ a rv X)) H := hP.sub [15, 16, 17, 18, 19, 20, 21, 22, 23, 24, 25, 26, 27, 28, 29, 30, 31, 32, 33, 34, 35, 36, 37, 38, 39, 40, 41, 42, 43, 44, 45, 0, 1, 2, 3, 4, 5, 6, 7, 8, 9, 10, 11, 12, 13, 14] rfl
              have hD : va_D (fun q : Nat => s.heap.size ≤ q) ((w_NC cA ad (f_NC_word S (xs (z3 + 1).toNatClampNeg) (xs (z3 + 2).toNatClampNeg) 0 1).2) ++ (w_M cA cZ a rv X)) := hD.sub [15, 16, 17, 18, 19, 20, 21, 22, 23, 24, 25, 26, 27, 28, 29, 30, 31, 32, 33, 34, 35, 36, 37, 38, 39, 40, 41, 42, 43, 44, 45, 0, 1, 2, 3, 4, 5, 6, 7, 8, 9, 10, 11, 12, 13, 14] (by decide) rfl
              refine lv_aload_n hx hb d_law_177 rfl (lv_at hl 2 rfl) ?_
              refine lv_aload_n hx hb d_law_178 rfl (lv_at hl 0 rfl) ?_
              refine lv_iload_n hx hb d_law_179 rfl (lv_at hl 3 rfl) ?_
              refine lv_iconst (v := 1) hx hb d_law_180 (by decide) ?_
              refine lv_iadd hx hb d_law_181 ?_
              refine va_sld hx hb hX hbl hbA hS (lw_in1 hL hi ez) d_law_182 ?_
              refine lv_aload_n hx hb d_law_183 rfl (lv_at hl 0 rfl) ?_
              refine lv_iload_n hx hb d_law_184 rfl (lv_at hl 3 rfl) ?_
              refine lv_iconst (v := 2) hx hb d_law_185 (by decide) ?_
              refine lv_iadd hx hb d_law_186 ?_
              refine va_sld hx hb hX hbl hbA hS (lw_in2 hL hi ez) d_law_187 ?_
              refine lv_aload_n hx hb d_law_188 rfl (lv_at hl 0 rfl) ?_
              refine lv_iload_n hx hb d_law_189 rfl (lv_at hl 3 rfl) ?_
              refine lv_iconst (v := 3) hx hb d_law_190 (by decide) ?_
              refine lv_iadd hx hb d_law_191 ?_
              refine va_sld hx hb hX hbl hbA hS (lw_in3 hL hi ez) d_law_192 ?_
              refine lv_if_eq (tgt := 200) hx hb d_law_193 (by decide) (fun c_924 => ?_) (fun c_924 => ?_)
              · refine lv_iconst (v := 0) hx hb d_law_200 (by decide) ?_
                refine lv_aload_n hx hb d_law_201 rfl (lv_at hl 0 rfl) ?_
                refine lv_iload_n hx hb d_law_202 rfl (lv_at hl 3 rfl) ?_
                refine lv_iconst (v := 4) hx hb d_law_203 (by decide) ?_
                refine lv_iadd hx hb d_law_204 ?_
                refine va_sld hx hb hX hbl hbA hS (lw_in4 hL hi ez) d_law_205 ?_
                refine lv_if_eq (tgt := 213) hx hb d_law_206 (by decide) (fun c_925 => ?_) (fun c_925 => ?_)
                · exact absurd c_925 c_917
                · refine lv_iconst (v := 1) hx hb d_law_209 (by decide) ?_
                  refine lv_goto (tgt := 214) hx hb d_law_210 (by decide) ?_
                  have hP_w_926 := hP.sub (ws' := (w_M cA cZ a rv X)) [31, 32, 33, 34, 35, 36, 37, 38, 39, 40, 41, 42, 43, 44, 45] rfl
                  have hD_w_926 := hD.sub (ws' := (w_M cA cZ a rv X)) [31, 32, 33, 34, 35, 36, 37, 38, 39, 40, 41, 42, 43, 44, 45] (by decide) rfl
                  have hFc := va_free (wc := (w_M cA cZ a rv X)) hD hS hA [31, 32, 33, 34, 35, 36, 37, 38, 39, 40, 41, 42, 43, 44, 45] rfl
                  refine nc_mui (va_runV (As := [.int (xs (z3 + 1).toNatClampNeg), .int (xs (z3 + 2).toNatClampNeg), .int 0, .int 1]) (rest := [.int (f_NC_word S (xs (z3 + 1).toNatClampNeg) (xs (z3 + 2).toNatClampNeg) 0 1).1]) hfix (c_M_word l dC dI cA cZ H.size a rv X (xs (z3 + 1).toNatClampNeg) (xs (z3 + 2).toNatClampNeg) 0 1 (p_t S X hrel)) (k_law_22 hts hN ⟨Nat.le_of_ble_eq_true rfl, Nat.le_of_ble_eq_true rfl⟩) (nc_preVZM hK hN hP_w_926 hD_w_926 rfl rfl) rfl rfl hl.1 rfl (lv_room (Nat.le_of_ble_eq_true rfl)) d_law_214 ⟨Nat.le_of_ble_eq_true rfl, Nat.le_of_ble_eq_true rfl⟩) hS hFc (fun r H locs er hP1 hD1 hk1 hS => ?_)
                  subst er
                  obtain ⟨hP, hD⟩ := va_join (wr := (w_NC cA ad (f_NC_word S (xs (z3 + 1).toNatClampNeg) (xs (z3 + 2).toNatClampNeg) 0 1).2)) (w1 := (w_M cA cZ a rv (f_M_word X (xs (z3 + 1).toNatClampNeg) (xs (z3 + 2).toNatClampNeg) 0 1).2)) hP hD [31, 32, 33, 34, 35, 36, 37, 38, 39, 40, 41, 42, 43, 44, 45] [0, 1, 2, 3, 4, 5, 6, 7, 8, 9, 10, 11, 12, 13, 14, 15, 16, 17, 18, 19, 20, 21, 22, 23, 24, 25, 26, 27, 28, 29, 30] rfl rfl (by decide) (by decide) hk1 hFc hP1 hD1
                  have hP : va_P (dC, dI) classes ((w_NC cA ad (f_NC_word S (xs (z3 + 1).toNatClampNeg) (xs (z3 + 2).toNatClampNeg) 0 1).2) ++ (w_M cA cZ a rv (f_M_word X (xs (z3 + 1).toNatClampNeg) (xs (z3 + 2).toNatClampNeg) 0 1).2)) H := hP.sub [0, 1, 2, 3, 4, 5, 6, 7, 8, 9, 10, 11, 12, 13, 14, 15, 16, 17, 18, 19, 20, 21, 22, 23, 24, 25, 26, 27, 28, 29, 30, 31, 32, 33, 34, 35, 36, 37, 38, 39, 40, 41, 42, 43, 44, 45] rfl
                  have hD : va_D (fun q : Nat => s.heap.size ≤ q) ((w_NC cA ad (f_NC_word S (xs (z3 + 1).toNatClampNeg) (xs (z3 + 2).toNatClampNeg) 0 1).2) ++ (w_M cA cZ a rv (f_M_word X (xs (z3 + 1).toNatClampNeg) (xs (z3 + 2).toNatClampNeg) 0 1).2)) := hD.sub [0, 1, 2, 3, 4, 5, 6, 7, 8, 9, 10, 11, 12, 13, 14, 15, 16, 17, 18, 19, 20, 21, 22, 23, 24, 25, 26, 27, 28, 29, 30, 31, 32, 33, 34, 35, 36, 37, 38, 39, 40, 41, 42, 43, 44, 45] (by decide) rfl
                  refine lv_icmp_eq (tgt := 663) hx hb d_law_217 (by decide) (fun c_927 => ?_) (fun c_927 => ?_)
                  · refine lv_iinc (v := (z3 + 5)) (lv' := [(3, .int (z3 + 5)), (0, .ref b), (1, .ref (ad 0 0)), (2, .ref (a 0))]) hx hb d_law_663 hl (k := 3) rfl rfl (by decide) rfl (fun ls hl => ?_)
                    refine lv_goto (tgt := 18) hx hb d_law_666 (by decide) ?_
                    exact ih (i + 5) (z3 + 5) ad rv (f_NC_word S (xs (z3 + 1).toNatClampNeg) (xs (z3 + 2).toNatClampNeg) 0 1).2 (f_M_word X (xs (z3 + 1).toNatClampNeg) (xs (z3 + 2).toNatClampNeg) 0 1).2 H locs ls (by omega) (by omega) (lw_z5 ez) (r_word S X (xs (z3 + 1).toNatClampNeg) (xs (z3 + 2).toNatClampNeg) 0 1 hrel).2 hP hD hS (lv_sub hl [1, 2, 3, 0] rfl)
                  · exact absurd (r_word S X (xs (z3 + 1).toNatClampNeg) (xs (z3 + 2).toNatClampNeg) 0 1 hrel).1 c_927
              · exact absurd c_916 c_924
          · refine lv_iconst (v := 1) hx hb d_law_156 (by decide) ?_
            refine lv_goto (tgt := 161) hx hb d_law_157 (by decide) ?_
            refine lv_aload_n hx hb d_law_161 rfl (lv_at hl 0 rfl) ?_
            refine lv_iload_n hx hb d_law_162 rfl (lv_at hl 3 rfl) ?_
            refine lv_iconst (v := 4) hx hb d_law_163 (by decide) ?_
            refine lv_iadd hx hb d_law_164 ?_
            refine va_sld hx hb hX hbl hbA hS (lw_in4 hL hi ez) d_law_165 ?_
            refine lv_if_eq (tgt := 173) hx hb d_law_166 (by decide) (fun c_928 => ?_) (fun c_928 => ?_)
            · refine lv_iconst (v := 0) hx hb d_law_173 (by decide) ?_
              have hP_w_929 := hP.sub (ws' := (w_NC cA ad S)) [0, 1, 2, 3, 4, 5, 6, 7, 8, 9, 10, 11, 12, 13, 14, 15, 16, 17, 18, 19, 20, 21, 22, 23, 24, 25, 26, 27, 28, 29, 30] rfl
              have hD_w_929 := hD.sub (ws' := (w_NC cA ad S)) [0, 1, 2, 3, 4, 5, 6, 7, 8, 9, 10, 11, 12, 13, 14, 15, 16, 17, 18, 19, 20, 21, 22, 23, 24, 25, 26, 27, 28, 29, 30] (by decide) rfl
              have hFc := va_free (wc := (w_NC cA ad S)) hD hS hA [0, 1, 2, 3, 4, 5, 6, 7, 8, 9, 10, 11, 12, 13, 14, 15, 16, 17, 18, 19, 20, 21, 22, 23, 24, 25, 26, 27, 28, 29, 30] rfl
              refine nc_mui (va_runV (As := [.int (xs (z3 + 1).toNatClampNeg), .int (xs (z3 + 2).toNatClampNeg), .int 1, .int 0]) (rest := []) hfix (c_NC_word l dC dI cA H.size ad S (xs (z3 + 1).toNatClampNeg) (xs (z3 + 2).toNatClampNeg) 1 0) (k_law_18 hts hN ⟨Nat.le_of_ble_eq_true rfl, Nat.le_of_ble_eq_true rfl⟩) (nc_preVM hK1 hN hP_w_929 hD_w_929 rfl rfl) rfl rfl hl.1 rfl (lv_room (Nat.le_of_ble_eq_true rfl)) d_law_174 ⟨Nat.le_of_ble_eq_true rfl, Nat.le_of_ble_eq_true rfl⟩) hS hFc (fun r H locs er hP1 hD1 hk1 hS => ?_)
              subst er
              obtain ⟨hP, hD⟩ := va_join (wr := (w_M cA cZ a rv X)) (w1 := (w_NC cA ad (f_NC_word S (xs (z3 + 1).toNatClampNeg) (xs (z3 + 2).toNatClampNeg) 1 0).2)) hP hD [0, 1, 2, 3, 4, 5, 6, 7, 8, 9, 10, 11, 12, 13, 14, 15, 16, 17, 18, 19, 20, 21, 22, 23, 24, 25, 26, 27, 28, 29, 30] [31, 32, 33, 34, 35, 36, 37, 38, 39, 40, 41, 42, 43, 44, 45] rfl rfl (by decide) (by decide) hk1 hFc hP1 hD1
              have hP : va_P (dC, dI) classes ((w_NC cA ad (f_NC_word S (xs (z3 + 1).toNatClampNeg) (xs (z3 + 2).toNatClampNeg) 1 0).2) ++ (w_M cA cZ a rv X)) H := hP.sub [15, 16, 17, 18, 19, 20, 21, 22, 23, 24, 25, 26, 27, 28, 29, 30, 31, 32, 33, 34, 35, 36, 37, 38, 39, 40, 41, 42, 43, 44, 45, 0, 1, 2, 3, 4, 5, 6, 7, 8, 9, 10, 11, 12, 13, 14] rfl
              have hD : va_D (fun q : Nat => s.heap.size ≤ q) ((w_NC cA ad (f_NC_word S (xs (z3 + 1).toNatClampNeg) (xs (z3 + 2).toNatClampNeg) 1 0).2) ++ (w_M cA cZ a rv X)) := hD.sub [15, 16, 17, 18, 19, 20, 21, 22, 23, 24, 25, 26, 27, 28, 29, 30, 31, 32, 33, 34, 35, 36, 37, 38, 39, 40, 41, 42, 43, 44, 45, 0, 1, 2, 3, 4, 5, 6, 7, 8, 9, 10, 11, 12, 13, 14] (by decide) rfl
              refine lv_aload_n hx hb d_law_177 rfl (lv_at hl 2 rfl) ?_
              refine lv_aload_n hx hb d_law_178 rfl (lv_at hl 0 rfl) ?_
              refine lv_iload_n hx hb d_law_179 rfl (lv_at hl 3 rfl) ?_
              refine lv_iconst (v := 1) hx hb d_law_180 (by decide) ?_
              refine lv_iadd hx hb d_law_181 ?_
              refine va_sld hx hb hX hbl hbA hS (lw_in1 hL hi ez) d_law_182 ?_
              refine lv_aload_n hx hb d_law_183 rfl (lv_at hl 0 rfl) ?_
              refine lv_iload_n hx hb d_law_184 rfl (lv_at hl 3 rfl) ?_
              refine lv_iconst (v := 2) hx hb d_law_185 (by decide) ?_
              refine lv_iadd hx hb d_law_186 ?_
              refine va_sld hx hb hX hbl hbA hS (lw_in2 hL hi ez) d_law_187 ?_
              refine lv_aload_n hx hb d_law_188 rfl (lv_at hl 0 rfl) ?_
              refine lv_iload_n hx hb d_law_189 rfl (lv_at hl 3 rfl) ?_
              refine lv_iconst (v := 3) hx hb d_law_190 (by decide) ?_
              refine lv_iadd hx hb d_law_191 ?_
              refine va_sld hx hb hX hbl hbA hS (lw_in3 hL hi ez) d_law_192 ?_
              refine lv_if_eq (tgt := 200) hx hb d_law_193 (by decide) (fun c_930 => ?_) (fun c_930 => ?_)
              · exact absurd c_930 c_916
              · refine lv_iconst (v := 1) hx hb d_law_196 (by decide) ?_
                refine lv_goto (tgt := 201) hx hb d_law_197 (by decide) ?_
                refine lv_aload_n hx hb d_law_201 rfl (lv_at hl 0 rfl) ?_
                refine lv_iload_n hx hb d_law_202 rfl (lv_at hl 3 rfl) ?_
                refine lv_iconst (v := 4) hx hb d_law_203 (by decide) ?_
                refine lv_iadd hx hb d_law_204 ?_
                refine va_sld hx hb hX hbl hbA hS (lw_in4 hL hi ez) d_law_205 ?_
                refine lv_if_eq (tgt := 213) hx hb d_law_206 (by decide) (fun c_931 => ?_) (fun c_931 => ?_)
                · refine lv_iconst (v := 0) hx hb d_law_213 (by decide) ?_
                  have hP_w_932 := hP.sub (ws' := (w_M cA cZ a rv X)) [31, 32, 33, 34, 35, 36, 37, 38, 39, 40, 41, 42, 43, 44, 45] rfl
                  have hD_w_932 := hD.sub (ws' := (w_M cA cZ a rv X)) [31, 32, 33, 34, 35, 36, 37, 38, 39, 40, 41, 42, 43, 44, 45] (by decide) rfl
                  have hFc := va_free (wc := (w_M cA cZ a rv X)) hD hS hA [31, 32, 33, 34, 35, 36, 37, 38, 39, 40, 41, 42, 43, 44, 45] rfl
                  refine nc_mui (va_runV (As := [.int (xs (z3 + 1).toNatClampNeg), .int (xs (z3 + 2).toNatClampNeg), .int 1, .int 0]) (rest := [.int (f_NC_word S (xs (z3 + 1).toNatClampNeg) (xs (z3 + 2).toNatClampNeg) 1 0).1]) hfix (c_M_word l dC dI cA cZ H.size a rv X (xs (z3 + 1).toNatClampNeg) (xs (z3 + 2).toNatClampNeg) 1 0 (p_t S X hrel)) (k_law_22 hts hN ⟨Nat.le_of_ble_eq_true rfl, Nat.le_of_ble_eq_true rfl⟩) (nc_preVZM hK hN hP_w_932 hD_w_932 rfl rfl) rfl rfl hl.1 rfl (lv_room (Nat.le_of_ble_eq_true rfl)) d_law_214 ⟨Nat.le_of_ble_eq_true rfl, Nat.le_of_ble_eq_true rfl⟩) hS hFc (fun r H locs er hP1 hD1 hk1 hS => ?_)
                  subst er
                  obtain ⟨hP, hD⟩ := va_join (wr := (w_NC cA ad (f_NC_word S (xs (z3 + 1).toNatClampNeg) (xs (z3 + 2).toNatClampNeg) 1 0).2)) (w1 := (w_M cA cZ a rv (f_M_word X (xs (z3 + 1).toNatClampNeg) (xs (z3 + 2).toNatClampNeg) 1 0).2)) hP hD [31, 32, 33, 34, 35, 36, 37, 38, 39, 40, 41, 42, 43, 44, 45] [0, 1, 2, 3, 4, 5, 6, 7, 8, 9, 10, 11, 12, 13, 14, 15, 16, 17, 18, 19, 20, 21, 22, 23, 24, 25, 26, 27, 28, 29, 30] rfl rfl (by decide) (by decide) hk1 hFc hP1 hD1
                  have hP : va_P (dC, dI) classes ((w_NC cA ad (f_NC_word S (xs (z3 + 1).toNatClampNeg) (xs (z3 + 2).toNatClampNeg) 1 0).2) ++ (w_M cA cZ a rv (f_M_word X (xs (z3 + 1).toNatClampNeg) (xs (z3 + 2).toNatClampNeg) 1 0).2)) H := hP.sub [0, 1, 2, 3, 4, 5, 6, 7, 8, 9, 10, 11, 12, 13, 14, 15, 16, 17, 18, 19, 20, 21, 22, 23, 24, 25, 26, 27, 28, 29, 30, 31, 32, 33, 34, 35, 36, 37, 38, 39, 40, 41, 42, 43, 44, 45] rfl
                  have hD : va_D (fun q : Nat => s.heap.size ≤ q) ((w_NC cA ad (f_NC_word S (xs (z3 + 1).toNatClampNeg) (xs (z3 + 2).toNatClampNeg) 1 0).2) ++ (w_M cA cZ a rv (f_M_word X (xs (z3 + 1).toNatClampNeg) (xs (z3 + 2).toNatClampNeg) 1 0).2)) := hD.sub [0, 1, 2, 3, 4, 5, 6, 7, 8, 9, 10, 11, 12, 13, 14, 15, 16, 17, 18, 19, 20, 21, 22, 23, 24, 25, 26, 27, 28, 29, 30, 31, 32, 33, 34, 35, 36, 37, 38, 39, 40, 41, 42, 43, 44, 45] (by decide) rfl
                  refine lv_icmp_eq (tgt := 663) hx hb d_law_217 (by decide) (fun c_933 => ?_) (fun c_933 => ?_)
                  · refine lv_iinc (v := (z3 + 5)) (lv' := [(3, .int (z3 + 5)), (0, .ref b), (1, .ref (ad 0 0)), (2, .ref (a 0))]) hx hb d_law_663 hl (k := 3) rfl rfl (by decide) rfl (fun ls hl => ?_)
                    refine lv_goto (tgt := 18) hx hb d_law_666 (by decide) ?_
                    exact ih (i + 5) (z3 + 5) ad rv (f_NC_word S (xs (z3 + 1).toNatClampNeg) (xs (z3 + 2).toNatClampNeg) 1 0).2 (f_M_word X (xs (z3 + 1).toNatClampNeg) (xs (z3 + 2).toNatClampNeg) 1 0).2 H locs ls (by omega) (by omega) (lw_z5 ez) (r_word S X (xs (z3 + 1).toNatClampNeg) (xs (z3 + 2).toNatClampNeg) 1 0 hrel).2 hP hD hS (lv_sub hl [1, 2, 3, 0] rfl)
                  · exact absurd (r_word S X (xs (z3 + 1).toNatClampNeg) (xs (z3 + 2).toNatClampNeg) 1 0 hrel).1 c_933
                · exact absurd c_928 c_931
            · refine lv_iconst (v := 1) hx hb d_law_169 (by decide) ?_
              refine lv_goto (tgt := 174) hx hb d_law_170 (by decide) ?_
              have hP_w_934 := hP.sub (ws' := (w_NC cA ad S)) [0, 1, 2, 3, 4, 5, 6, 7, 8, 9, 10, 11, 12, 13, 14, 15, 16, 17, 18, 19, 20, 21, 22, 23, 24, 25, 26, 27, 28, 29, 30] rfl
              have hD_w_934 := hD.sub (ws' := (w_NC cA ad S)) [0, 1, 2, 3, 4, 5, 6, 7, 8, 9, 10, 11, 12, 13, 14, 15, 16, 17, 18, 19, 20, 21, 22, 23, 24, 25, 26, 27, 28, 29, 30] (by decide) rfl
              have hFc := va_free (wc := (w_NC cA ad S)) hD hS hA [0, 1, 2, 3, 4, 5, 6, 7, 8, 9, 10, 11, 12, 13, 14, 15, 16, 17, 18, 19, 20, 21, 22, 23, 24, 25, 26, 27, 28, 29, 30] rfl
              refine nc_mui (va_runV (As := [.int (xs (z3 + 1).toNatClampNeg), .int (xs (z3 + 2).toNatClampNeg), .int 1, .int 1]) (rest := []) hfix (c_NC_word l dC dI cA H.size ad S (xs (z3 + 1).toNatClampNeg) (xs (z3 + 2).toNatClampNeg) 1 1) (k_law_18 hts hN ⟨Nat.le_of_ble_eq_true rfl, Nat.le_of_ble_eq_true rfl⟩) (nc_preVM hK1 hN hP_w_934 hD_w_934 rfl rfl) rfl rfl hl.1 rfl (lv_room (Nat.le_of_ble_eq_true rfl)) d_law_174 ⟨Nat.le_of_ble_eq_true rfl, Nat.le_of_ble_eq_true rfl⟩) hS hFc (fun r H locs er hP1 hD1 hk1 hS => ?_)
              subst er
              obtain ⟨hP, hD⟩ := va_join (wr := (w_M cA cZ a rv X)) (w1 := (w_NC cA ad (f_NC_word S (xs (z3 + 1).toNatClampNeg) (xs (z3 + 2).toNatClampNeg) 1 1).2)) hP hD [0, 1, 2, 3, 4, 5, 6, 7, 8, 9, 10, 11, 12, 13, 14, 15, 16, 17, 18, 19, 20, 21, 22, 23, 24, 25, 26, 27, 28, 29, 30] [31, 32, 33, 34, 35, 36, 37, 38, 39, 40, 41, 42, 43, 44, 45] rfl rfl (by decide) (by decide) hk1 hFc hP1 hD1
              have hP : va_P (dC, dI) classes ((w_NC cA ad (f_NC_word S (xs (z3 + 1).toNatClampNeg) (xs (z3 + 2).toNatClampNeg) 1 1).2) ++ (w_M cA cZ a rv X)) H := hP.sub [15, 16, 17, 18, 19, 20, 21, 22, 23, 24, 25, 26, 27, 28, 29, 30, 31, 32, 33, 34, 35, 36, 37, 38, 39, 40, 41, 42, 43, 44, 45, 0, 1, 2, 3, 4, 5, 6, 7, 8, 9, 10, 11, 12, 13, 14] rfl
              have hD : va_D (fun q : Nat => s.heap.size ≤ q) ((w_NC cA ad (f_NC_word S (xs (z3 + 1).toNatClampNeg) (xs (z3 + 2).toNatClampNeg) 1 1).2) ++ (w_M cA cZ a rv X)) := hD.sub [15, 16, 17, 18, 19, 20, 21, 22, 23, 24, 25, 26, 27, 28, 29, 30, 31, 32, 33, 34, 35, 36, 37, 38, 39, 40, 41, 42, 43, 44, 45, 0, 1, 2, 3, 4, 5, 6, 7, 8, 9, 10, 11, 12, 13, 14] (by decide) rfl
              refine lv_aload_n hx hb d_law_177 rfl (lv_at hl 2 rfl) ?_
              refine lv_aload_n hx hb d_law_178 rfl (lv_at hl 0 rfl) ?_
              refine lv_iload_n hx hb d_law_179 rfl (lv_at hl 3 rfl) ?_
              refine lv_iconst (v := 1) hx hb d_law_180 (by decide) ?_
              refine lv_iadd hx hb d_law_181 ?_
              refine va_sld hx hb hX hbl hbA hS (lw_in1 hL hi ez) d_law_182 ?_
              refine lv_aload_n hx hb d_law_183 rfl (lv_at hl 0 rfl) ?_
              refine lv_iload_n hx hb d_law_184 rfl (lv_at hl 3 rfl) ?_
              refine lv_iconst (v := 2) hx hb d_law_185 (by decide) ?_
              refine lv_iadd hx hb d_law_186 ?_
              refine va_sld hx hb hX hbl hbA hS (lw_in2 hL hi ez) d_law_187 ?_
              refine lv_aload_n hx hb d_law_188 rfl (lv_at hl 0 rfl) ?_
              refine lv_iload_n hx hb d_law_189 rfl (lv_at hl 3 rfl) ?_
              refine lv_iconst (v := 3) hx hb d_law_190 (by decide) ?_
              refine lv_iadd hx hb d_law_191 ?_
              refine va_sld hx hb hX hbl hbA hS (lw_in3 hL hi ez) d_law_192 ?_
              refine lv_if_eq (tgt := 200) hx hb d_law_193 (by decide) (fun c_935 => ?_) (fun c_935 => ?_)
              · exact absurd c_935 c_916
              · refine lv_iconst (v := 1) hx hb d_law_196 (by decide) ?_
                refine lv_goto (tgt := 201) hx hb d_law_197 (by decide) ?_
                refine lv_aload_n hx hb d_law_201 rfl (lv_at hl 0 rfl) ?_
                refine lv_iload_n hx hb d_law_202 rfl (lv_at hl 3 rfl) ?_
                refine lv_iconst (v := 4) hx hb d_law_203 (by decide) ?_
                refine lv_iadd hx hb d_law_204 ?_
                refine va_sld hx hb hX hbl hbA hS (lw_in4 hL hi ez) d_law_205 ?_
                refine lv_if_eq (tgt := 213) hx hb d_law_206 (by decide) (fun c_936 => ?_) (fun c_936 => ?_)
                · exact absurd c_936 c_928
                · refine lv_iconst (v := 1) hx hb d_law_209 (by decide) ?_
                  refine lv_goto (tgt := 214) hx hb d_law_210 (by decide) ?_
                  have hP_w_937 := hP.sub (ws' := (w_M cA cZ a rv X)) [31, 32, 33, 34, 35, 36, 37, 38, 39, 40, 41, 42, 43, 44, 45] rfl
                  have hD_w_937 := hD.sub (ws' := (w_M cA cZ a rv X)) [31, 32, 33, 34, 35, 36, 37, 38, 39, 40, 41, 42, 43, 44, 45] (by decide) rfl
                  have hFc := va_free (wc := (w_M cA cZ a rv X)) hD hS hA [31, 32, 33, 34, 35, 36, 37, 38, 39, 40, 41, 42, 43, 44, 45] rfl
                  refine nc_mui (va_runV (As := [.int (xs (z3 + 1).toNatClampNeg), .int (xs (z3 + 2).toNatClampNeg), .int 1, .int 1]) (rest := [.int (f_NC_word S (xs (z3 + 1).toNatClampNeg) (xs (z3 + 2).toNatClampNeg) 1 1).1]) hfix (c_M_word l dC dI cA cZ H.size a rv X (xs (z3 + 1).toNatClampNeg) (xs (z3 + 2).toNatClampNeg) 1 1 (p_t S X hrel)) (k_law_22 hts hN ⟨Nat.le_of_ble_eq_true rfl, Nat.le_of_ble_eq_true rfl⟩) (nc_preVZM hK hN hP_w_937 hD_w_937 rfl rfl) rfl rfl hl.1 rfl (lv_room (Nat.le_of_ble_eq_true rfl)) d_law_214 ⟨Nat.le_of_ble_eq_true rfl, Nat.le_of_ble_eq_true rfl⟩) hS hFc (fun r H locs er hP1 hD1 hk1 hS => ?_)
                  subst er
                  obtain ⟨hP, hD⟩ := va_join (wr := (w_NC cA ad (f_NC_word S (xs (z3 + 1).toNatClampNeg) (xs (z3 + 2).toNatClampNeg) 1 1).2)) (w1 := (w_M cA cZ a rv (f_M_word X (xs (z3 + 1).toNatClampNeg) (xs (z3 + 2).toNatClampNeg) 1 1).2)) hP hD [31, 32, 33, 34, 35, 36, 37, 38, 39, 40, 41, 42, 43, 44, 45] [0, 1, 2, 3, 4, 5, 6, 7, 8, 9, 10, 11, 12, 13, 14, 15, 16, 17, 18, 19, 20, 21, 22, 23, 24, 25, 26, 27, 28, 29, 30] rfl rfl (by decide) (by decide) hk1 hFc hP1 hD1
                  have hP : va_P (dC, dI) classes ((w_NC cA ad (f_NC_word S (xs (z3 + 1).toNatClampNeg) (xs (z3 + 2).toNatClampNeg) 1 1).2) ++ (w_M cA cZ a rv (f_M_word X (xs (z3 + 1).toNatClampNeg) (xs (z3 + 2).toNatClampNeg) 1 1).2)) H := hP.sub [0, 1, 2, 3, 4, 5, 6, 7, 8, 9, 10, 11, 12, 13, 14, 15, 16, 17, 18, 19, 20, 21, 22, 23, 24, 25, 26, 27, 28, 29, 30, 31, 32, 33, 34, 35, 36, 37, 38, 39, 40, 41, 42, 43, 44, 45] rfl
                  have hD : va_D (fun q : Nat => s.heap.size ≤ q) ((w_NC cA ad (f_NC_word S (xs (z3 + 1).toNatClampNeg) (xs (z3 + 2).toNatClampNeg) 1 1).2) ++ (w_M cA cZ a rv (f_M_word X (xs (z3 + 1).toNatClampNeg) (xs (z3 + 2).toNatClampNeg) 1 1).2)) := hD.sub [0, 1, 2, 3, 4, 5, 6, 7, 8, 9, 10, 11, 12, 13, 14, 15, 16, 17, 18, 19, 20, 21, 22, 23, 24, 25, 26, 27, 28, 29, 30, 31, 32, 33, 34, 35, 36, 37, 38, 39, 40, 41, 42, 43, 44, 45] (by decide) rfl
                  refine lv_icmp_eq (tgt := 663) hx hb d_law_217 (by decide) (fun c_938 => ?_) (fun c_938 => ?_)
                  · refine lv_iinc (v := (z3 + 5)) (lv' := [(3, .int (z3 + 5)), (0, .ref b), (1, .ref (ad 0 0)), (2, .ref (a 0))]) hx hb d_law_663 hl (k := 3) rfl rfl (by decide) rfl (fun ls hl => ?_)
                    refine lv_goto (tgt := 18) hx hb d_law_666 (by decide) ?_
                    exact ih (i + 5) (z3 + 5) ad rv (f_NC_word S (xs (z3 + 1).toNatClampNeg) (xs (z3 + 2).toNatClampNeg) 1 1).2 (f_M_word X (xs (z3 + 1).toNatClampNeg) (xs (z3 + 2).toNatClampNeg) 1 1).2 H locs ls (by omega) (by omega) (lw_z5 ez) (r_word S X (xs (z3 + 1).toNatClampNeg) (xs (z3 + 2).toNatClampNeg) 1 1 hrel).2 hP hD hS (lv_sub hl [1, 2, 3, 0] rfl)
                  · exact absurd (r_word S X (xs (z3 + 1).toNatClampNeg) (xs (z3 + 2).toNatClampNeg) 1 1 hrel).1 c_938
        · by_cases c_939 : ((xs z3.toNatClampNeg) &&& 31) = 2
          · refine lv_tableIn (tgt := 222) (off := 190) hx hb d_law_32 (by rw [c_939]; decide) (by rw [c_939]; decide) (by rw [c_939]; decide) (by decide) ?_
            refine lv_aload_n hx hb d_law_222 rfl (lv_at hl 1 rfl) ?_
            refine lv_aload_n hx hb d_law_223 rfl (lv_at hl 0 rfl) ?_
            refine lv_iload_n hx hb d_law_224 rfl (lv_at hl 3 rfl) ?_
            refine lv_iconst (v := 1) hx hb d_law_225 (by decide) ?_
            refine lv_iadd hx hb d_law_226 ?_
            refine va_sld hx hb hX hbl hbA hS (lw_in1 hL hi ez) d_law_227 ?_
            refine lv_aload_n hx hb d_law_228 rfl (lv_at hl 0 rfl) ?_
            refine lv_iload_n hx hb d_law_229 rfl (lv_at hl 3 rfl) ?_
            refine lv_iconst (v := 2) hx hb d_law_230 (by decide) ?_
            refine lv_iadd hx hb d_law_231 ?_
            refine va_sld hx hb hX hbl hbA hS (lw_in2 hL hi ez) d_law_232 ?_
            have hP_w_940 := hP.sub (ws' := (w_NC cA ad S)) [0, 1, 2, 3, 4, 5, 6, 7, 8, 9, 10, 11, 12, 13, 14, 15, 16, 17, 18, 19, 20, 21, 22, 23, 24, 25, 26, 27, 28, 29, 30] rfl
            have hD_w_940 := hD.sub (ws' := (w_NC cA ad S)) [0, 1, 2, 3, 4, 5, 6, 7, 8, 9, 10, 11, 12, 13, 14, 15, 16, 17, 18, 19, 20, 21, 22, 23, 24, 25, 26, 27, 28, 29, 30] (by decide) rfl
            have hFc := va_free (wc := (w_NC cA ad S)) hD hS hA [0, 1, 2, 3, 4, 5, 6, 7, 8, 9, 10, 11, 12, 13, 14, 15, 16, 17, 18, 19, 20, 21, 22, 23, 24, 25, 26, 27, 28, 29, 30] rfl
            refine nc_mui (va_runV (As := [.int (xs (z3 + 1).toNatClampNeg), .int (xs (z3 + 2).toNatClampNeg)]) (rest := []) hfix (c_NC_kind l dC dI cA H.size ad S (xs (z3 + 1).toNatClampNeg) (xs (z3 + 2).toNatClampNeg)) (k_law_23 hts hN ⟨Nat.le_of_ble_eq_true rfl, Nat.le_of_ble_eq_true rfl⟩) (nc_preVM hK1 hN hP_w_940 hD_w_940 rfl rfl) rfl rfl hl.1 rfl (lv_room (Nat.le_of_ble_eq_true rfl)) d_law_233 ⟨Nat.le_of_ble_eq_true rfl, Nat.le_of_ble_eq_true rfl⟩) hS hFc (fun r H locs er hP1 hD1 hk1 hS => ?_)
            subst er
            obtain ⟨hP, hD⟩ := va_join (wr := (w_M cA cZ a rv X)) (w1 := (w_NC cA ad (f_NC_kind S (xs (z3 + 1).toNatClampNeg) (xs (z3 + 2).toNatClampNeg)).2)) hP hD [0, 1, 2, 3, 4, 5, 6, 7, 8, 9, 10, 11, 12, 13, 14, 15, 16, 17, 18, 19, 20, 21, 22, 23, 24, 25, 26, 27, 28, 29, 30] [31, 32, 33, 34, 35, 36, 37, 38, 39, 40, 41, 42, 43, 44, 45] rfl rfl (by decide) (by decide) hk1 hFc hP1 hD1
            have hP : va_P (dC, dI) classes ((w_NC cA ad (f_NC_kind S (xs (z3 + 1).toNatClampNeg) (xs (z3 + 2).toNatClampNeg)).2) ++ (w_M cA cZ a rv X)) H := hP.sub [15, 16, 17, 18, 19, 20, 21, 22, 23, 24, 25, 26, 27, 28, 29, 30, 31, 32, 33, 34, 35, 36, 37, 38, 39, 40, 41, 42, 43, 44, 45, 0, 1, 2, 3, 4, 5, 6, 7, 8, 9, 10, 11, 12, 13, 14] rfl
            have hD : va_D (fun q : Nat => s.heap.size ≤ q) ((w_NC cA ad (f_NC_kind S (xs (z3 + 1).toNatClampNeg) (xs (z3 + 2).toNatClampNeg)).2) ++ (w_M cA cZ a rv X)) := hD.sub [15, 16, 17, 18, 19, 20, 21, 22, 23, 24, 25, 26, 27, 28, 29, 30, 31, 32, 33, 34, 35, 36, 37, 38, 39, 40, 41, 42, 43, 44, 45, 0, 1, 2, 3, 4, 5, 6, 7, 8, 9, 10, 11, 12, 13, 14] (by decide) rfl
            refine lv_aload_n hx hb d_law_236 rfl (lv_at hl 2 rfl) ?_
            refine lv_aload_n hx hb d_law_237 rfl (lv_at hl 0 rfl) ?_
            refine lv_iload_n hx hb d_law_238 rfl (lv_at hl 3 rfl) ?_
            refine lv_iconst (v := 1) hx hb d_law_239 (by decide) ?_
            refine lv_iadd hx hb d_law_240 ?_
            refine va_sld hx hb hX hbl hbA hS (lw_in1 hL hi ez) d_law_241 ?_
            refine lv_aload_n hx hb d_law_242 rfl (lv_at hl 0 rfl) ?_
            refine lv_iload_n hx hb d_law_243 rfl (lv_at hl 3 rfl) ?_
            refine lv_iconst (v := 2) hx hb d_law_244 (by decide) ?_
            refine lv_iadd hx hb d_law_245 ?_
            refine va_sld hx hb hX hbl hbA hS (lw_in2 hL hi ez) d_law_246 ?_
            have hP_w_941 := hP.sub (ws' := (w_M cA cZ a rv X)) [31, 32, 33, 34, 35, 36, 37, 38, 39, 40, 41, 42, 43, 44, 45] rfl
            have hD_w_941 := hD.sub (ws' := (w_M cA cZ a rv X)) [31, 32, 33, 34, 35, 36, 37, 38, 39, 40, 41, 42, 43, 44, 45] (by decide) rfl
            have hFc := va_free (wc := (w_M cA cZ a rv X)) hD hS hA [31, 32, 33, 34, 35, 36, 37, 38, 39, 40, 41, 42, 43, 44, 45] rfl
            refine nc_mui (va_runV (As := [.int (xs (z3 + 1).toNatClampNeg), .int (xs (z3 + 2).toNatClampNeg)]) (rest := [.int (f_NC_kind S (xs (z3 + 1).toNatClampNeg) (xs (z3 + 2).toNatClampNeg)).1]) hfix (c_M_kind l dC dI cA cZ H.size a rv X (xs (z3 + 1).toNatClampNeg) (xs (z3 + 2).toNatClampNeg) (p_t S X hrel)) (k_law_27 hts hN ⟨Nat.le_of_ble_eq_true rfl, Nat.le_of_ble_eq_true rfl⟩) (nc_preVZM hK hN hP_w_941 hD_w_941 rfl rfl) rfl rfl hl.1 rfl (lv_room (Nat.le_of_ble_eq_true rfl)) d_law_247 ⟨Nat.le_of_ble_eq_true rfl, Nat.le_of_ble_eq_true rfl⟩) hS hFc (fun r H locs er hP1 hD1 hk1 hS => ?_)
            subst er
            obtain ⟨hP, hD⟩ := va_join (wr := (w_NC cA ad (f_NC_kind S (xs (z3 + 1).toNatClampNeg) (xs (z3 + 2).toNatClampNeg)).2)) (w1 := (w_M cA cZ a rv (f_M_kind X (xs (z3 + 1).toNatClampNeg) (xs (z3 + 2).toNatClampNeg)).2)) hP hD [31, 32, 33, 34, 35, 36, 37, 38, 39, 40, 41, 42, 43, 44, 45] [0, 1, 2, 3, 4, 5, 6, 7, 8, 9, 10, 11, 12, 13, 14, 15, 16, 17, 18, 19, 20, 21, 22, 23, 24, 25, 26, 27, 28, 29, 30] rfl rfl (by decide) (by decide) hk1 hFc hP1 hD1
            have hP : va_P (dC, dI) classes ((w_NC cA ad (f_NC_kind S (xs (z3 + 1).toNatClampNeg) (xs (z3 + 2).toNatClampNeg)).2) ++ (w_M cA cZ a rv (f_M_kind X (xs (z3 + 1).toNatClampNeg) (xs (z3 + 2).toNatClampNeg)).2)) H := hP.sub [0, 1, 2, 3, 4, 5, 6, 7, 8, 9, 10, 11, 12, 13, 14, 15, 16, 17, 18, 19, 20, 21, 22, 23, 24, 25, 26, 27, 28, 29, 30, 31, 32, 33, 34, 35, 36, 37, 38, 39, 40, 41, 42, 43, 44, 45] rfl
            have hD : va_D (fun q : Nat => s.heap.size ≤ q) ((w_NC cA ad (f_NC_kind S (xs (z3 + 1).toNatClampNeg) (xs (z3 + 2).toNatClampNeg)).2) ++ (w_M cA cZ a rv (f_M_kind X (xs (z3 + 1).toNatClampNeg) (xs (z3 + 2).toNatClampNeg)).2)) := hD.sub [0, 1, 2, 3, 4, 5, 6, 7, 8, 9, 10, 11, 12, 13, 14, 15, 16, 17, 18, 19, 20, 21, 22, 23, 24, 25, 26, 27, 28, 29, 30, 31, 32, 33, 34, 35, 36, 37, 38, 39, 40, 41, 42, 43, 44, 45] (by decide) rfl
            refine lv_icmp_eq (tgt := 663) hx hb d_law_250 (by decide) (fun c_942 => ?_) (fun c_942 => ?_)
            · refine lv_iinc (v := (z3 + 5)) (lv' := [(3, .int (z3 + 5)), (0, .ref b), (1, .ref (ad 0 0)), (2, .ref (a 0))]) hx hb d_law_663 hl (k := 3) rfl rfl (by decide) rfl (fun ls hl => ?_)
              refine lv_goto (tgt := 18) hx hb d_law_666 (by decide) ?_
              exact ih (i + 5) (z3 + 5) ad rv (f_NC_kind S (xs (z3 + 1).toNatClampNeg) (xs (z3 + 2).toNatClampNeg)).2 (f_M_kind X (xs (z3 + 1).toNatClampNeg) (xs (z3 + 2).toNatClampNeg)).2 H locs ls (by omega) (by omega) (lw_z5 ez) (r_kind S X (xs (z3 + 1).toNatClampNeg) (xs (z3 + 2).toNatClampNeg) hrel).2 hP hD hS (lv_sub hl [1, 2, 3, 0] rfl)
            · exact absurd (r_kind S X (xs (z3 + 1).toNatClampNeg) (xs (z3 + 2).toNatClampNeg) hrel).1 c_942
          · by_cases c_943 : ((xs z3.toNatClampNeg) &&& 31) = 3
            · refine lv_tableIn (tgt := 255) (off := 223) hx hb d_law_32 (by rw [c_943]; decide) (by rw [c_943]; decide) (by rw [c_943]; decide) (by decide) ?_
              refine lv_aload_n hx hb d_law_255 rfl (lv_at hl 1 rfl) ?_
              refine lv_aload_n hx hb d_law_256 rfl (lv_at hl 0 rfl) ?_
              refine lv_iload_n hx hb d_law_257 rfl (lv_at hl 3 rfl) ?_
              refine lv_iconst (v := 1) hx hb d_law_258 (by decide) ?_
              refine lv_iadd hx hb d_law_259 ?_
              refine va_sld hx hb hX hbl hbA hS (lw_in1 hL hi ez) d_law_260 ?_
              refine lv_aload_n hx hb d_law_261 rfl (lv_at hl 0 rfl) ?_
              refine lv_iload_n hx hb d_law_262 rfl (lv_at hl 3 rfl) ?_
              refine lv_iconst (v := 2) hx hb d_law_263 (by decide) ?_
              refine lv_iadd hx hb d_law_264 ?_
              refine va_sld hx hb hX hbl hbA hS (lw_in2 hL hi ez) d_law_265 ?_
              have hP_w_944 := hP.sub (ws' := (w_NC cA ad S)) [0, 1, 2, 3, 4, 5, 6, 7, 8, 9, 10, 11, 12, 13, 14, 15, 16, 17, 18, 19, 20, 21, 22, 23, 24, 25, 26, 27, 28, 29, 30] rfl
              have hD_w_944 := hD.sub (ws' := (w_NC cA ad S)) [0, 1, 2, 3, 4, 5, 6, 7, 8, 9, 10, 11, 12, 13, 14, 15, 16, 17, 18, 19, 20, 21, 22, 23, 24, 25, 26, 27, 28, 29, 30] (by decide) rfl
              have hFc := va_free (wc := (w_NC cA ad S)) hD hS hA [0, 1, 2, 3, 4, 5, 6, 7, 8, 9, 10, 11, 12, 13, 14, 15, 16, 17, 18, 19, 20, 21, 22, 23, 24, 25, 26, 27, 28, 29, 30] rfl
              refine nc_mui (va_runV (As := [.int (xs (z3 + 1).toNatClampNeg), .int (xs (z3 + 2).toNatClampNeg)]) (rest := []) hfix (c_NC_place l dC dI cA H.size ad S (xs (z3 + 1).toNatClampNeg) (xs (z3 + 2).toNatClampNeg)) (k_law_28 hts hN ⟨Nat.le_of_ble_eq_true rfl, Nat.le_of_ble_eq_true rfl⟩) (nc_preVM hK1 hN hP_w_944 hD_w_944 rfl rfl) rfl rfl hl.1 rfl (lv_room (Nat.le_of_ble_eq_true rfl)) d_law_266 ⟨Nat.le_of_ble_eq_true rfl, Nat.le_of_ble_eq_true rfl⟩) hS hFc (fun r H locs er hP1 hD1 hk1 hS => ?_)
              subst er
              obtain ⟨hP, hD⟩ := va_join (wr := (w_M cA cZ a rv X)) (w1 := (w_NC cA ad (f_NC_place S (xs (z3 + 1).toNatClampNeg) (xs (z3 + 2).toNatClampNeg)).2)) hP hD [0, 1, 2, 3, 4, 5, 6, 7, 8, 9, 10, 11, 12, 13, 14, 15, 16, 17, 18, 19, 20, 21, 22, 23, 24, 25, 26, 27, 28, 29, 30] [31, 32, 33, 34, 35, 36, 37, 38, 39, 40, 41, 42, 43, 44, 45] rfl rfl (by decide) (by decide) hk1 hFc hP1 hD1
              have hP : va_P (dC, dI) classes ((w_NC cA ad (f_NC_place S (xs (z3 + 1).toNatClampNeg) (xs (z3 + 2).toNatClampNeg)).2) ++ (w_M cA cZ a rv X)) H := hP.sub [15, 16, 17, 18, 19, 20, 21, 22, 23, 24, 25, 26, 27, 28, 29, 30, 31, 32, 33, 34, 35, 36, 37, 38, 39, 40, 41, 42, 43, 44, 45, 0, 1, 2, 3, 4, 5, 6, 7, 8, 9, 10, 11, 12, 13, 14] rfl
              have hD : va_D (fun q : Nat => s.heap.size ≤ q) ((w_NC cA ad (f_NC_place S (xs (z3 + 1).toNatClampNeg) (xs (z3 + 2).toNatClampNeg)).2) ++ (w_M cA cZ a rv X)) := hD.sub [15, 16, 17, 18, 19, 20, 21, 22, 23, 24, 25, 26, 27, 28, 29, 30, 31, 32, 33, 34, 35, 36, 37, 38, 39, 40, 41, 42, 43, 44, 45, 0, 1, 2, 3, 4, 5, 6, 7, 8, 9, 10, 11, 12, 13, 14] (by decide) rfl
              refine lv_aload_n hx hb d_law_269 rfl (lv_at hl 2 rfl) ?_
              refine lv_aload_n hx hb d_law_270 rfl (lv_at hl 0 rfl) ?_
              refine lv_iload_n hx hb d_law_271 rfl (lv_at hl 3 rfl) ?_
              refine lv_iconst (v := 1) hx hb d_law_272 (by decide) ?_
              refine lv_iadd hx hb d_law_273 ?_
              refine va_sld hx hb hX hbl hbA hS (lw_in1 hL hi ez) d_law_274 ?_
              refine lv_aload_n hx hb d_law_275 rfl (lv_at hl 0 rfl) ?_
              refine lv_iload_n hx hb d_law_276 rfl (lv_at hl 3 rfl) ?_
              refine lv_iconst (v := 2) hx hb d_law_277 (by decide) ?_
              refine lv_iadd hx hb d_law_278 ?_
              refine va_sld hx hb hX hbl hbA hS (lw_in2 hL hi ez) d_law_279 ?_
              have hP_w_945 := hP.sub (ws' := (w_M cA cZ a rv X)) [31, 32, 33, 34, 35, 36, 37, 38, 39, 40, 41, 42, 43, 44, 45] rfl
              have hD_w_945 := hD.sub (ws' := (w_M cA cZ a rv X)) [31, 32, 33, 34, 35, 36, 37, 38, 39, 40, 41, 42, 43, 44, 45] (by decide) rfl
              have hFc := va_free (wc := (w_M cA cZ a rv X)) hD hS hA [31, 32, 33, 34, 35, 36, 37, 38, 39, 40, 41, 42, 43, 44, 45] rfl
              refine nc_mui (va_runV (As := [.int (xs (z3 + 1).toNatClampNeg), .int (xs (z3 + 2).toNatClampNeg)]) (rest := [.int (f_NC_place S (xs (z3 + 1).toNatClampNeg) (xs (z3 + 2).toNatClampNeg)).1]) hfix (c_M_place l dC dI cA cZ H.size a rv X (xs (z3 + 1).toNatClampNeg) (xs (z3 + 2).toNatClampNeg) (p_t S X hrel)) (k_law_31 hts hN ⟨Nat.le_of_ble_eq_true rfl, Nat.le_of_ble_eq_true rfl⟩) (nc_preVZM hK hN hP_w_945 hD_w_945 rfl rfl) rfl rfl hl.1 rfl (lv_room (Nat.le_of_ble_eq_true rfl)) d_law_280 ⟨Nat.le_of_ble_eq_true rfl, Nat.le_of_ble_eq_true rfl⟩) hS hFc (fun r H locs er hP1 hD1 hk1 hS => ?_)
              subst er
              obtain ⟨hP, hD⟩ := va_join (wr := (w_NC cA ad (f_NC_place S (xs (z3 + 1).toNatClampNeg) (xs (z3 + 2).toNatClampNeg)).2)) (w1 := (w_M cA cZ a rv (f_M_place X (xs (z3 + 1).toNatClampNeg) (xs (z3 + 2).toNatClampNeg)).2)) hP hD [31, 32, 33, 34, 35, 36, 37, 38, 39, 40, 41, 42, 43, 44, 45] [0, 1, 2, 3, 4, 5, 6, 7, 8, 9, 10, 11, 12, 13, 14, 15, 16, 17, 18, 19, 20, 21, 22, 23, 24, 25, 26, 27, 28, 29, 30] rfl rfl (by decide) (by decide) hk1 hFc hP1 hD1
              have hP : va_P (dC, dI) classes ((w_NC cA ad (f_NC_place S (xs (z3 + 1).toNatClampNeg) (xs (z3 + 2).toNatClampNeg)).2) ++ (w_M cA cZ a rv (f_M_place X (xs (z3 + 1).toNatClampNeg) (xs (z3 + 2).toNatClampNeg)).2)) H := hP.sub [0, 1, 2, 3, 4, 5, 6, 7, 8, 9, 10, 11, 12, 13, 14, 15, 16, 17, 18, 19, 20, 21, 22, 23, 24, 25, 26, 27, 28, 29, 30, 31, 32, 33, 34, 35, 36, 37, 38, 39, 40, 41, 42, 43, 44, 45] rfl
              have hD : va_D (fun q : Nat => s.heap.size ≤ q) ((w_NC cA ad (f_NC_place S (xs (z3 + 1).toNatClampNeg) (xs (z3 + 2).toNatClampNeg)).2) ++ (w_M cA cZ a rv (f_M_place X (xs (z3 + 1).toNatClampNeg) (xs (z3 + 2).toNatClampNeg)).2)) := hD.sub [0, 1, 2, 3, 4, 5, 6, 7, 8, 9, 10, 11, 12, 13, 14, 15, 16, 17, 18, 19, 20, 21, 22, 23, 24, 25, 26, 27, 28, 29, 30, 31, 32, 33, 34, 35, 36, 37, 38, 39, 40, 41, 42, 43, 44, 45] (by decide) rfl
              refine lv_icmp_eq (tgt := 663) hx hb d_law_283 (by decide) (fun c_946 => ?_) (fun c_946 => ?_)
              · refine lv_iinc (v := (z3 + 5)) (lv' := [(3, .int (z3 + 5)), (0, .ref b), (1, .ref (ad 0 0)), (2, .ref (a 0))]) hx hb d_law_663 hl (k := 3) rfl rfl (by decide) rfl (fun ls hl => ?_)
                refine lv_goto (tgt := 18) hx hb d_law_666 (by decide) ?_
                exact ih (i + 5) (z3 + 5) ad rv (f_NC_place S (xs (z3 + 1).toNatClampNeg) (xs (z3 + 2).toNatClampNeg)).2 (f_M_place X (xs (z3 + 1).toNatClampNeg) (xs (z3 + 2).toNatClampNeg)).2 H locs ls (by omega) (by omega) (lw_z5 ez) (r_place S X (xs (z3 + 1).toNatClampNeg) (xs (z3 + 2).toNatClampNeg) hrel).2 hP hD hS (lv_sub hl [1, 2, 3, 0] rfl)
              · exact absurd (r_place S X (xs (z3 + 1).toNatClampNeg) (xs (z3 + 2).toNatClampNeg) hrel).1 c_946
            · by_cases c_947 : ((xs z3.toNatClampNeg) &&& 31) = 4
              · refine lv_tableIn (tgt := 288) (off := 256) hx hb d_law_32 (by rw [c_947]; decide) (by rw [c_947]; decide) (by rw [c_947]; decide) (by decide) ?_
                refine lv_aload_n hx hb d_law_288 rfl (lv_at hl 1 rfl) ?_
                refine lv_aload_n hx hb d_law_289 rfl (lv_at hl 0 rfl) ?_
                refine lv_iload_n hx hb d_law_290 rfl (lv_at hl 3 rfl) ?_
                refine lv_iconst (v := 1) hx hb d_law_291 (by decide) ?_
                refine lv_iadd hx hb d_law_292 ?_
                refine va_sld hx hb hX hbl hbA hS (lw_in1 hL hi ez) d_law_293 ?_
                refine lv_aload_n hx hb d_law_294 rfl (lv_at hl 0 rfl) ?_
                refine lv_iload_n hx hb d_law_295 rfl (lv_at hl 3 rfl) ?_
                refine lv_iconst (v := 2) hx hb d_law_296 (by decide) ?_
                refine lv_iadd hx hb d_law_297 ?_
                refine va_sld hx hb hX hbl hbA hS (lw_in2 hL hi ez) d_law_298 ?_
                refine lv_aload_n hx hb d_law_299 rfl (lv_at hl 0 rfl) ?_
                refine lv_iload_n hx hb d_law_300 rfl (lv_at hl 3 rfl) ?_
                refine lv_iconst (v := 3) hx hb d_law_301 (by decide) ?_
                refine lv_iadd hx hb d_law_302 ?_
                refine va_sld hx hb hX hbl hbA hS (lw_in3 hL hi ez) d_law_303 ?_
                have hP_w_948 := hP.sub (ws' := (w_NC cA ad S)) [0, 1, 2, 3, 4, 5, 6, 7, 8, 9, 10, 11, 12, 13, 14, 15, 16, 17, 18, 19, 20, 21, 22, 23, 24, 25, 26, 27, 28, 29, 30] rfl
                have hD_w_948 := hD.sub (ws' := (w_NC cA ad S)) [0, 1, 2, 3, 4, 5, 6, 7, 8, 9, 10, 11, 12, 13, 14, 15, 16, 17, 18, 19, 20, 21, 22, 23, 24, 25, 26, 27, 28, 29, 30] (by decide) rfl
                have hFc := va_free (wc := (w_NC cA ad S)) hD hS hA [0, 1, 2, 3, 4, 5, 6, 7, 8, 9, 10, 11, 12, 13, 14, 15, 16, 17, 18, 19, 20, 21, 22, 23, 24, 25, 26, 27, 28, 29, 30] rfl
                refine nc_mui (va_runV (As := [.int (xs (z3 + 1).toNatClampNeg), .int (xs (z3 + 2).toNatClampNeg), .int (xs (z3 + 3).toNatClampNeg)]) (rest := []) hfix (c_NC_mark l dC dI cA H.size ad S (xs (z3 + 1).toNatClampNeg) (xs (z3 + 2).toNatClampNeg) (xs (z3 + 3).toNatClampNeg)) (k_law_32 hts hN ⟨Nat.le_of_ble_eq_true rfl, Nat.le_of_ble_eq_true rfl⟩) (nc_preVM hK1 hN hP_w_948 hD_w_948 rfl rfl) rfl rfl hl.1 rfl (lv_room (Nat.le_of_ble_eq_true rfl)) d_law_304 ⟨Nat.le_of_ble_eq_true rfl, Nat.le_of_ble_eq_true rfl⟩) hS hFc (fun r H locs er hP1 hD1 hk1 hS => ?_)
                subst er
                obtain ⟨hP, hD⟩ := va_join (wr := (w_M cA cZ a rv X)) (w1 := (w_NC cA ad (f_NC_mark S (xs (z3 + 1).toNatClampNeg) (xs (z3 + 2).toNatClampNeg) (xs (z3 + 3).toNatClampNeg)).2)) hP hD [0, 1, 2, 3, 4, 5, 6, 7, 8, 9, 10, 11, 12, 13, 14, 15, 16, 17, 18, 19, 20, 21, 22, 23, 24, 25, 26, 27, 28, 29, 30] [31, 32, 33, 34, 35, 36, 37, 38, 39, 40, 41, 42, 43, 44, 45] rfl rfl (by decide) (by decide) hk1 hFc hP1 hD1
                have hP : va_P (dC, dI) classes ((w_NC cA ad (f_NC_mark S (xs (z3 + 1).toNatClampNeg) (xs (z3 + 2).toNatClampNeg) (xs (z3 + 3).toNatClampNeg)).2) ++ (w_M cA cZ a rv X)) H := hP.sub [15, 16, 17, 18, 19, 20, 21, 22, 23, 24, 25, 26, 27, 28, 29, 30, 31, 32, 33, 34, 35, 36, 37, 38, 39, 40, 41, 42, 43, 44, 45, 0, 1, 2, 3, 4, 5, 6, 7, 8, 9, 10, 11, 12, 13, 14] rfl
                have hD : va_D (fun q : Nat => s.heap.size ≤ q) ((w_NC cA ad (f_NC_mark S (xs (z3 + 1).toNatClampNeg) (xs (z3 + 2).toNatClampNeg) (xs (z3 + 3).toNatClampNeg)).2) ++ (w_M cA cZ a rv X)) := hD.sub [15, 16, 17, 18, 19, 20, 21, 22, 23, 24, 25, 26, 27, 28, 29, 30, 31, 32, 33, 34, 35, 36, 37, 38, 39, 40, 41, 42, 43, 44, 45, 0, 1, 2, 3, 4, 5, 6, 7, 8, 9, 10, 11, 12, 13, 14] (by decide) rfl
                refine lv_aload_n hx hb d_law_307 rfl (lv_at hl 2 rfl) ?_
                refine lv_aload_n hx hb d_law_308 rfl (lv_at hl 0 rfl) ?_
                refine lv_iload_n hx hb d_law_309 rfl (lv_at hl 3 rfl) ?_
                refine lv_iconst (v := 1) hx hb d_law_310 (by decide) ?_
                refine lv_iadd hx hb d_law_311 ?_
                refine va_sld hx hb hX hbl hbA hS (lw_in1 hL hi ez) d_law_312 ?_
                refine lv_aload_n hx hb d_law_313 rfl (lv_at hl 0 rfl) ?_
                refine lv_iload_n hx hb d_law_314 rfl (lv_at hl 3 rfl) ?_
                refine lv_iconst (v := 2) hx hb d_law_315 (by decide) ?_
                refine lv_iadd hx hb d_law_316 ?_
                refine va_sld hx hb hX hbl hbA hS (lw_in2 hL hi ez) d_law_317 ?_
                refine lv_aload_n hx hb d_law_318 rfl (lv_at hl 0 rfl) ?_
                refine lv_iload_n hx hb d_law_319 rfl (lv_at hl 3 rfl) ?_
                refine lv_iconst (v := 3) hx hb d_law_320 (by decide) ?_
                refine lv_iadd hx hb d_law_321 ?_
                refine va_sld hx hb hX hbl hbA hS (lw_in3 hL hi ez) d_law_322 ?_
                have hP_w_949 := hP.sub (ws' := (w_M cA cZ a rv X)) [31, 32, 33, 34, 35, 36, 37, 38, 39, 40, 41, 42, 43, 44, 45] rfl
                have hD_w_949 := hD.sub (ws' := (w_M cA cZ a rv X)) [31, 32, 33, 34, 35, 36, 37, 38, 39, 40, 41, 42, 43, 44, 45] (by decide) rfl
                have hFc := va_free (wc := (w_M cA cZ a rv X)) hD hS hA [31, 32, 33, 34, 35, 36, 37, 38, 39, 40, 41, 42, 43, 44, 45] rfl
                refine nc_mui (va_runV (As := [.int (xs (z3 + 1).toNatClampNeg), .int (xs (z3 + 2).toNatClampNeg), .int (xs (z3 + 3).toNatClampNeg)]) (rest := [.int (f_NC_mark S (xs (z3 + 1).toNatClampNeg) (xs (z3 + 2).toNatClampNeg) (xs (z3 + 3).toNatClampNeg)).1]) hfix (c_M_mark l dC dI cA cZ H.size a rv X (xs (z3 + 1).toNatClampNeg) (xs (z3 + 2).toNatClampNeg) (xs (z3 + 3).toNatClampNeg) (p_t S X hrel)) (k_law_36 hts hN ⟨Nat.le_of_ble_eq_true rfl, Nat.le_of_ble_eq_true rfl⟩) (nc_preVZM hK hN hP_w_949 hD_w_949 rfl rfl) rfl rfl hl.1 rfl (lv_room (Nat.le_of_ble_eq_true rfl)) d_law_323 ⟨Nat.le_of_ble_eq_true rfl, Nat.le_of_ble_eq_true rfl⟩) hS hFc (fun r H locs er hP1 hD1 hk1 hS => ?_)
                subst er
                obtain ⟨hP, hD⟩ := va_join (wr := (w_NC cA ad (f_NC_mark S (xs (z3 + 1).toNatClampNeg) (xs (z3 + 2).toNatClampNeg) (xs (z3 + 3).toNatClampNeg)).2)) (w1 := (w_M cA cZ a rv (f_M_mark X (xs (z3 + 1).toNatClampNeg) (xs (z3 + 2).toNatClampNeg) (xs (z3 + 3).toNatClampNeg)).2)) hP hD [31, 32, 33, 34, 35, 36, 37, 38, 39, 40, 41, 42, 43, 44, 45] [0, 1, 2, 3, 4, 5, 6, 7, 8, 9, 10, 11, 12, 13, 14, 15, 16, 17, 18, 19, 20, 21, 22, 23, 24, 25, 26, 27, 28, 29, 30] rfl rfl (by decide) (by decide) hk1 hFc hP1 hD1
                have hP : va_P (dC, dI) classes ((w_NC cA ad (f_NC_mark S (xs (z3 + 1).toNatClampNeg) (xs (z3 + 2).toNatClampNeg) (xs (z3 + 3).toNatClampNeg)).2) ++ (w_M cA cZ a rv (f_M_mark X (xs (z3 + 1).toNatClampNeg) (xs (z3 + 2).toNatClampNeg) (xs (z3 + 3).toNatClampNeg)).2)) H := hP.sub [0, 1, 2, 3, 4, 5, 6, 7, 8, 9, 10, 11, 12, 13, 14, 15, 16, 17, 18, 19, 20, 21, 22, 23, 24, 25, 26, 27, 28, 29, 30, 31, 32, 33, 34, 35, 36, 37, 38, 39, 40, 41, 42, 43, 44, 45] rfl
                have hD : va_D (fun q : Nat => s.heap.size ≤ q) ((w_NC cA ad (f_NC_mark S (xs (z3 + 1).toNatClampNeg) (xs (z3 + 2).toNatClampNeg) (xs (z3 + 3).toNatClampNeg)).2) ++ (w_M cA cZ a rv (f_M_mark X (xs (z3 + 1).toNatClampNeg) (xs (z3 + 2).toNatClampNeg) (xs (z3 + 3).toNatClampNeg)).2)) := hD.sub [0, 1, 2, 3, 4, 5, 6, 7, 8, 9, 10, 11, 12, 13, 14, 15, 16, 17, 18, 19, 20, 21, 22, 23, 24, 25, 26, 27, 28, 29, 30, 31, 32, 33, 34, 35, 36, 37, 38, 39, 40, 41, 42, 43, 44, 45] (by decide) rfl
                refine lv_icmp_eq (tgt := 663) hx hb d_law_326 (by decide) (fun c_950 => ?_) (fun c_950 => ?_)
                · refine lv_iinc (v := (z3 + 5)) (lv' := [(3, .int (z3 + 5)), (0, .ref b), (1, .ref (ad 0 0)), (2, .ref (a 0))]) hx hb d_law_663 hl (k := 3) rfl rfl (by decide) rfl (fun ls hl => ?_)
                  refine lv_goto (tgt := 18) hx hb d_law_666 (by decide) ?_
                  exact ih (i + 5) (z3 + 5) ad rv (f_NC_mark S (xs (z3 + 1).toNatClampNeg) (xs (z3 + 2).toNatClampNeg) (xs (z3 + 3).toNatClampNeg)).2 (f_M_mark X (xs (z3 + 1).toNatClampNeg) (xs (z3 + 2).toNatClampNeg) (xs (z3 + 3).toNatClampNeg)).2 H locs ls (by omega) (by omega) (lw_z5 ez) (r_mark S X (xs (z3 + 1).toNatClampNeg) (xs (z3 + 2).toNatClampNeg) (xs (z3 + 3).toNatClampNeg) hrel).2 hP hD hS (lv_sub hl [1, 2, 3, 0] rfl)
                · exact absurd (r_mark S X (xs (z3 + 1).toNatClampNeg) (xs (z3 + 2).toNatClampNeg) (xs (z3 + 3).toNatClampNeg) hrel).1 c_950
              · by_cases c_951 : ((xs z3.toNatClampNeg) &&& 31) = 5
                · refine lv_tableIn (tgt := 331) (off := 299) hx hb d_law_32 (by rw [c_951]; decide) (by rw [c_951]; decide) (by rw [c_951]; decide) (by decide) ?_
                  refine lv_aload_n hx hb d_law_331 rfl (lv_at hl 1 rfl) ?_
                  refine lv_aload_n hx hb d_law_332 rfl (lv_at hl 0 rfl) ?_
                  refine lv_iload_n hx hb d_law_333 rfl (lv_at hl 3 rfl) ?_
                  refine lv_iconst (v := 1) hx hb d_law_334 (by decide) ?_
                  refine lv_iadd hx hb d_law_335 ?_
                  refine va_sld hx hb hX hbl hbA hS (lw_in1 hL hi ez) d_law_336 ?_
                  refine lv_aload_n hx hb d_law_337 rfl (lv_at hl 0 rfl) ?_
                  refine lv_iload_n hx hb d_law_338 rfl (lv_at hl 3 rfl) ?_
                  refine lv_iconst (v := 2) hx hb d_law_339 (by decide) ?_
                  refine lv_iadd hx hb d_law_340 ?_
                  refine va_sld hx hb hX hbl hbA hS (lw_in2 hL hi ez) d_law_341 ?_
                  have hP_w_952 := hP.sub (ws' := (w_NC cA ad S)) [0, 1, 2, 3, 4, 5, 6, 7, 8, 9, 10, 11, 12, 13, 14, 15, 16, 17, 18, 19, 20, 21, 22, 23, 24, 25, 26, 27, 28, 29, 30] rfl
                  have hD_w_952 := hD.sub (ws' := (w_NC cA ad S)) [0, 1, 2, 3, 4, 5, 6, 7, 8, 9, 10, 11, 12, 13, 14, 15, 16, 17, 18, 19, 20, 21, 22, 23, 24, 25, 26, 27, 28, 29, 30] (by decide) rfl
                  have hFc := va_free (wc := (w_NC cA ad S)) hD hS hA [0, 1, 2, 3, 4, 5, 6, 7, 8, 9, 10, 11, 12, 13, 14, 15, 16, 17, 18, 19, 20, 21, 22, 23, 24, 25, 26, 27, 28, 29, 30] rfl
                  refine nc_mui (va_runV (As := [.int (xs (z3 + 1).toNatClampNeg), .int (xs (z3 + 2).toNatClampNeg)]) (rest := []) hfix (c_NC_plural l dC dI cA H.size ad S (xs (z3 + 1).toNatClampNeg) (xs (z3 + 2).toNatClampNeg)) (k_law_37 hts hN ⟨Nat.le_of_ble_eq_true rfl, Nat.le_of_ble_eq_true rfl⟩) (nc_preVM hK1 hN hP_w_952 hD_w_952 rfl rfl) rfl rfl hl.1 rfl (lv_room (Nat.le_of_ble_eq_true rfl)) d_law_342 ⟨Nat.le_of_ble_eq_true rfl, Nat.le_of_ble_eq_true rfl⟩) hS hFc (fun r H locs er hP1 hD1 hk1 hS => ?_)
                  subst er
                  obtain ⟨hP, hD⟩ := va_join (wr := (w_M cA cZ a rv X)) (w1 := (w_NC cA ad (f_NC_plural S (xs (z3 + 1).toNatClampNeg) (xs (z3 + 2).toNatClampNeg)).2)) hP hD [0, 1, 2, 3, 4, 5, 6, 7, 8, 9, 10, 11, 12, 13, 14, 15, 16, 17, 18, 19, 20, 21, 22, 23, 24, 25, 26, 27, 28, 29, 30] [31, 32, 33, 34, 35, 36, 37, 38, 39, 40, 41, 42, 43, 44, 45] rfl rfl (by decide) (by decide) hk1 hFc hP1 hD1
                  have hP : va_P (dC, dI) classes ((w_NC cA ad (f_NC_plural S (xs (z3 + 1).toNatClampNeg) (xs (z3 + 2).toNatClampNeg)).2) ++ (w_M cA cZ a rv X)) H := hP.sub [15, 16, 17, 18, 19, 20, 21, 22, 23, 24, 25, 26, 27, 28, 29, 30, 31, 32, 33, 34, 35, 36, 37, 38, 39, 40, 41, 42, 43, 44, 45, 0, 1, 2, 3, 4, 5, 6, 7, 8, 9, 10, 11, 12, 13, 14] rfl
                  have hD : va_D (fun q : Nat => s.heap.size ≤ q) ((w_NC cA ad (f_NC_plural S (xs (z3 + 1).toNatClampNeg) (xs (z3 + 2).toNatClampNeg)).2) ++ (w_M cA cZ a rv X)) := hD.sub [15, 16, 17, 18, 19, 20, 21, 22, 23, 24, 25, 26, 27, 28, 29, 30, 31, 32, 33, 34, 35, 36, 37, 38, 39, 40, 41, 42, 43, 44, 45, 0, 1, 2, 3, 4, 5, 6, 7, 8, 9, 10, 11, 12, 13, 14] (by decide) rfl
                  refine lv_aload_n hx hb d_law_345 rfl (lv_at hl 2 rfl) ?_
                  refine lv_aload_n hx hb d_law_346 rfl (lv_at hl 0 rfl) ?_
                  refine lv_iload_n hx hb d_law_347 rfl (lv_at hl 3 rfl) ?_
                  refine lv_iconst (v := 1) hx hb d_law_348 (by decide) ?_
                  refine lv_iadd hx hb d_law_349 ?_
                  refine va_sld hx hb hX hbl hbA hS (lw_in1 hL hi ez) d_law_350 ?_
                  refine lv_aload_n hx hb d_law_351 rfl (lv_at hl 0 rfl) ?_
                  refine lv_iload_n hx hb d_law_352 rfl (lv_at hl 3 rfl) ?_
                  refine lv_iconst (v := 2) hx hb d_law_353 (by decide) ?_
                  refine lv_iadd hx hb d_law_354 ?_
                  refine va_sld hx hb hX hbl hbA hS (lw_in2 hL hi ez) d_law_355 ?_
                  have hP_w_953 := hP.sub (ws' := (w_M cA cZ a rv X)) [31, 32, 33, 34, 35, 36, 37, 38, 39, 40, 41, 42, 43, 44, 45] rfl
                  have hD_w_953 := hD.sub (ws' := (w_M cA cZ a rv X)) [31, 32, 33, 34, 35, 36, 37, 38, 39, 40, 41, 42, 43, 44, 45] (by decide) rfl
                  have hFc := va_free (wc := (w_M cA cZ a rv X)) hD hS hA [31, 32, 33, 34, 35, 36, 37, 38, 39, 40, 41, 42, 43, 44, 45] rfl
                  refine nc_mui (va_runV (As := [.int (xs (z3 + 1).toNatClampNeg), .int (xs (z3 + 2).toNatClampNeg)]) (rest := [.int (f_NC_plural S (xs (z3 + 1).toNatClampNeg) (xs (z3 + 2).toNatClampNeg)).1]) hfix (c_M_plural l dC dI cA cZ H.size a rv X (xs (z3 + 1).toNatClampNeg) (xs (z3 + 2).toNatClampNeg)) (k_law_40 hts hN ⟨Nat.le_of_ble_eq_true rfl, Nat.le_of_ble_eq_true rfl⟩) (nc_preVZM hK hN hP_w_953 hD_w_953 rfl rfl) rfl rfl hl.1 rfl (lv_room (Nat.le_of_ble_eq_true rfl)) d_law_356 ⟨Nat.le_of_ble_eq_true rfl, Nat.le_of_ble_eq_true rfl⟩) hS hFc (fun r H locs er hP1 hD1 hk1 hS => ?_)
                  subst er
                  obtain ⟨hP, hD⟩ := va_join (wr := (w_NC cA ad (f_NC_plural S (xs (z3 + 1).toNatClampNeg) (xs (z3 + 2).toNatClampNeg)).2)) (w1 := (w_M cA cZ a rv (f_M_plural X (xs (z3 + 1).toNatClampNeg) (xs (z3 + 2).toNatClampNeg)).2)) hP hD [31, 32, 33, 34, 35, 36, 37, 38, 39, 40, 41, 42, 43, 44, 45] [0, 1, 2, 3, 4, 5, 6, 7, 8, 9, 10, 11, 12, 13, 14, 15, 16, 17, 18, 19, 20, 21, 22, 23, 24, 25, 26, 27, 28, 29, 30] rfl rfl (by decide) (by decide) hk1 hFc hP1 hD1
                  have hP : va_P (dC, dI) classes ((w_NC cA ad (f_NC_plural S (xs (z3 + 1).toNatClampNeg) (xs (z3 + 2).toNatClampNeg)).2) ++ (w_M cA cZ a rv (f_M_plural X (xs (z3 + 1).toNatClampNeg) (xs (z3 + 2).toNatClampNeg)).2)) H := hP.sub [0, 1, 2, 3, 4, 5, 6, 7, 8, 9, 10, 11, 12, 13, 14, 15, 16, 17, 18, 19, 20, 21, 22, 23, 24, 25, 26, 27, 28, 29, 30, 31, 32, 33, 34, 35, 36, 37, 38, 39, 40, 41, 42, 43, 44, 45] rfl
                  have hD : va_D (fun q : Nat => s.heap.size ≤ q) ((w_NC cA ad (f_NC_plural S (xs (z3 + 1).toNatClampNeg) (xs (z3 + 2).toNatClampNeg)).2) ++ (w_M cA cZ a rv (f_M_plural X (xs (z3 + 1).toNatClampNeg) (xs (z3 + 2).toNatClampNeg)).2)) := hD.sub [0, 1, 2, 3, 4, 5, 6, 7, 8, 9, 10, 11, 12, 13, 14, 15, 16, 17, 18, 19, 20, 21, 22, 23, 24, 25, 26, 27, 28, 29, 30, 31, 32, 33, 34, 35, 36, 37, 38, 39, 40, 41, 42, 43, 44, 45] (by decide) rfl
                  refine lv_icmp_eq (tgt := 663) hx hb d_law_359 (by decide) (fun c_954 => ?_) (fun c_954 => ?_)
                  · refine lv_iinc (v := (z3 + 5)) (lv' := [(3, .int (z3 + 5)), (0, .ref b), (1, .ref (ad 0 0)), (2, .ref (a 0))]) hx hb d_law_663 hl (k := 3) rfl rfl (by decide) rfl (fun ls hl => ?_)
                    refine lv_goto (tgt := 18) hx hb d_law_666 (by decide) ?_
                    exact ih (i + 5) (z3 + 5) ad rv (f_NC_plural S (xs (z3 + 1).toNatClampNeg) (xs (z3 + 2).toNatClampNeg)).2 (f_M_plural X (xs (z3 + 1).toNatClampNeg) (xs (z3 + 2).toNatClampNeg)).2 H locs ls (by omega) (by omega) (lw_z5 ez) (r_plural S X (xs (z3 + 1).toNatClampNeg) (xs (z3 + 2).toNatClampNeg) hrel).2 hP hD hS (lv_sub hl [1, 2, 3, 0] rfl)
                  · exact absurd (r_plural S X (xs (z3 + 1).toNatClampNeg) (xs (z3 + 2).toNatClampNeg) hrel).1 c_954
                · by_cases c_955 : ((xs z3.toNatClampNeg) &&& 31) = 6
                  · refine lv_tableIn (tgt := 364) (off := 332) hx hb d_law_32 (by rw [c_955]; decide) (by rw [c_955]; decide) (by rw [c_955]; decide) (by decide) ?_
                    refine lv_aload_n hx hb d_law_364 rfl (lv_at hl 1 rfl) ?_
                    refine lv_aload_n hx hb d_law_365 rfl (lv_at hl 0 rfl) ?_
                    refine lv_iload_n hx hb d_law_366 rfl (lv_at hl 3 rfl) ?_
                    refine lv_iconst (v := 1) hx hb d_law_367 (by decide) ?_
                    refine lv_iadd hx hb d_law_368 ?_
                    refine va_sld hx hb hX hbl hbA hS (lw_in1 hL hi ez) d_law_369 ?_
                    refine lv_aload_n hx hb d_law_370 rfl (lv_at hl 0 rfl) ?_
                    refine lv_iload_n hx hb d_law_371 rfl (lv_at hl 3 rfl) ?_
                    refine lv_iconst (v := 2) hx hb d_law_372 (by decide) ?_
                    refine lv_iadd hx hb d_law_373 ?_
                    refine va_sld hx hb hX hbl hbA hS (lw_in2 hL hi ez) d_law_374 ?_
                    have hP_w_956 := hP.sub (ws' := (w_NC cA ad S)) [0, 1, 2, 3, 4, 5, 6, 7, 8, 9, 10, 11, 12, 13, 14, 15, 16, 17, 18, 19, 20, 21, 22, 23, 24, 25, 26, 27, 28, 29, 30] rfl
                    have hD_w_956 := hD.sub (ws' := (w_NC cA ad S)) [0, 1, 2, 3, 4, 5, 6, 7, 8, 9, 10, 11, 12, 13, 14, 15, 16, 17, 18, 19, 20, 21, 22, 23, 24, 25, 26, 27, 28, 29, 30] (by decide) rfl
                    have hFc := va_free (wc := (w_NC cA ad S)) hD hS hA [0, 1, 2, 3, 4, 5, 6, 7, 8, 9, 10, 11, 12, 13, 14, 15, 16, 17, 18, 19, 20, 21, 22, 23, 24, 25, 26, 27, 28, 29, 30] rfl
                    refine nc_mui (va_runV (As := [.int (xs (z3 + 1).toNatClampNeg), .int (xs (z3 + 2).toNatClampNeg)]) (rest := []) hfix (c_NC_weight l dC dI cA H.size ad S (xs (z3 + 1).toNatClampNeg) (xs (z3 + 2).toNatClampNeg)) (k_law_41 hts hN ⟨Nat.le_of_ble_eq_true rfl, Nat.le_of_ble_eq_true rfl⟩) (nc_preVM hK1 hN hP_w_956 hD_w_956 rfl rfl) rfl rfl hl.1 rfl (lv_room (Nat.le_of_ble_eq_true rfl)) d_law_375 ⟨Nat.le_of_ble_eq_true rfl, Nat.le_of_ble_eq_true rfl⟩) hS hFc (fun r H locs er hP1 hD1 hk1 hS => ?_)
                    subst er
                    obtain ⟨hP, hD⟩ := va_join (wr := (w_M cA cZ a rv X)) (w1 := (w_NC cA ad (f_NC_weight S (xs (z3 + 1).toNatClampNeg) (xs (z3 + 2).toNatClampNeg)).2)) hP hD [0, 1, 2, 3, 4, 5, 6, 7, 8, 9, 10, 11, 12, 13, 14, 15, 16, 17, 18, 19, 20, 21, 22, 23, 24, 25, 26, 27, 28, 29, 30] [31, 32, 33, 34, 35, 36, 37, 38, 39, 40, 41, 42, 43, 44, 45] rfl rfl (by decide) (by decide) hk1 hFc hP1 hD1
                    have hP : va_P (dC, dI) classes ((w_NC cA ad (f_NC_weight S (xs (z3 + 1).toNatClampNeg) (xs (z3 + 2).toNatClampNeg)).2) ++ (w_M cA cZ a rv X)) H := hP.sub [15, 16, 17, 18, 19, 20, 21, 22, 23, 24, 25, 26, 27, 28, 29, 30, 31, 32, 33, 34, 35, 36, 37, 38, 39, 40, 41, 42, 43, 44, 45, 0, 1, 2, 3, 4, 5, 6, 7, 8, 9, 10, 11, 12, 13, 14] rfl
                    have hD : va_D (fun q : Nat => s.heap.size ≤ q) ((w_NC cA ad (f_NC_weight S (xs (z3 + 1).toNatClampNeg) (xs (z3 + 2).toNatClampNeg)).2) ++ (w_M cA cZ a rv X)) := hD.sub [15, 16, 17, 18, 19, 20, 21, 22, 23, 24, 25, 26, 27, 28, 29, 30, 31, 32, 33, 34, 35, 36, 37, 38, 39, 40, 41, 42, 43, 44, 45, 0, 1, 2, 3, 4, 5, 6, 7, 8, 9, 10, 11, 12, 13, 14] (by decide) rfl
                    refine lv_aload_n hx hb d_law_378 rfl (lv_at hl 2 rfl) ?_
                    refine lv_aload_n hx hb d_law_379 rfl (lv_at hl 0 rfl) ?_
                    refine lv_iload_n hx hb d_law_380 rfl (lv_at hl 3 rfl) ?_
                    refine lv_iconst (v := 1) hx hb d_law_381 (by decide) ?_
                    refine lv_iadd hx hb d_law_382 ?_
                    refine va_sld hx hb hX hbl hbA hS (lw_in1 hL hi ez) d_law_383 ?_
                    refine lv_aload_n hx hb d_law_384 rfl (lv_at hl 0 rfl) ?_
                    refine lv_iload_n hx hb d_law_385 rfl (lv_at hl 3 rfl) ?_
                    refine lv_iconst (v := 2) hx hb d_law_386 (by decide) ?_
                    refine lv_iadd hx hb d_law_387 ?_
                    refine va_sld hx hb hX hbl hbA hS (lw_in2 hL hi ez) d_law_388 ?_
                    have hP_w_957 := hP.sub (ws' := (w_M cA cZ a rv X)) [31, 32, 33, 34, 35, 36, 37, 38, 39, 40, 41, 42, 43, 44, 45] rfl
                    have hD_w_957 := hD.sub (ws' := (w_M cA cZ a rv X)) [31, 32, 33, 34, 35, 36, 37, 38, 39, 40, 41, 42, 43, 44, 45] (by decide) rfl
                    have hFc := va_free (wc := (w_M cA cZ a rv X)) hD hS hA [31, 32, 33, 34, 35, 36, 37, 38, 39, 40, 41, 42, 43, 44, 45] rfl
                    refine nc_mui (va_runV (As := [.int (xs (z3 + 1).toNatClampNeg), .int (xs (z3 + 2).toNatClampNeg)]) (rest := [.int (f_NC_weight S (xs (z3 + 1).toNatClampNeg) (xs (z3 + 2).toNatClampNeg)).1]) hfix (c_M_weight l dC dI cA cZ H.size a rv X (xs (z3 + 1).toNatClampNeg) (xs (z3 + 2).toNatClampNeg)) (k_law_44 hts hN ⟨Nat.le_of_ble_eq_true rfl, Nat.le_of_ble_eq_true rfl⟩) (nc_preVZM hK hN hP_w_957 hD_w_957 rfl rfl) rfl rfl hl.1 rfl (lv_room (Nat.le_of_ble_eq_true rfl)) d_law_389 ⟨Nat.le_of_ble_eq_true rfl, Nat.le_of_ble_eq_true rfl⟩) hS hFc (fun r H locs er hP1 hD1 hk1 hS => ?_)
                    subst er
                    obtain ⟨hP, hD⟩ := va_join (wr := (w_NC cA ad (f_NC_weight S (xs (z3 + 1).toNatClampNeg) (xs (z3 + 2).toNatClampNeg)).2)) (w1 := (w_M cA cZ a rv (f_M_weight X (xs (z3 + 1).toNatClampNeg) (xs (z3 + 2).toNatClampNeg)).2)) hP hD [31, 32, 33, 34, 35, 36, 37, 38, 39, 40, 41, 42, 43, 44, 45] [0, 1, 2, 3, 4, 5, 6, 7, 8, 9, 10, 11, 12, 13, 14, 15, 16, 17, 18, 19, 20, 21, 22, 23, 24, 25, 26, 27, 28, 29, 30] rfl rfl (by decide) (by decide) hk1 hFc hP1 hD1
                    have hP : va_P (dC, dI) classes ((w_NC cA ad (f_NC_weight S (xs (z3 + 1).toNatClampNeg) (xs (z3 + 2).toNatClampNeg)).2) ++ (w_M cA cZ a rv (f_M_weight X (xs (z3 + 1).toNatClampNeg) (xs (z3 + 2).toNatClampNeg)).2)) H := hP.sub [0, 1, 2, 3, 4, 5, 6, 7, 8, 9, 10, 11, 12, 13, 14, 15, 16, 17, 18, 19, 20, 21, 22, 23, 24, 25, 26, 27, 28, 29, 30, 31, 32, 33, 34, 35, 36, 37, 38, 39, 40, 41, 42, 43, 44, 45] rfl
                    have hD : va_D (fun q : Nat => s.heap.size ≤ q) ((w_NC cA ad (f_NC_weight S (xs (z3 + 1).toNatClampNeg) (xs (z3 + 2).toNatClampNeg)).2) ++ (w_M cA cZ a rv (f_M_weight X (xs (z3 + 1).toNatClampNeg) (xs (z3 + 2).toNatClampNeg)).2)) := hD.sub [0, 1, 2, 3, 4, 5, 6, 7, 8, 9, 10, 11, 12, 13, 14, 15, 16, 17, 18, 19, 20, 21, 22, 23, 24, 25, 26, 27, 28, 29, 30, 31, 32, 33, 34, 35, 36, 37, 38, 39, 40, 41, 42, 43, 44, 45] (by decide) rfl
                    refine lv_icmp_eq (tgt := 663) hx hb d_law_392 (by decide) (fun c_958 => ?_) (fun c_958 => ?_)
                    · refine lv_iinc (v := (z3 + 5)) (lv' := [(3, .int (z3 + 5)), (0, .ref b), (1, .ref (ad 0 0)), (2, .ref (a 0))]) hx hb d_law_663 hl (k := 3) rfl rfl (by decide) rfl (fun ls hl => ?_)
                      refine lv_goto (tgt := 18) hx hb d_law_666 (by decide) ?_
                      exact ih (i + 5) (z3 + 5) ad rv (f_NC_weight S (xs (z3 + 1).toNatClampNeg) (xs (z3 + 2).toNatClampNeg)).2 (f_M_weight X (xs (z3 + 1).toNatClampNeg) (xs (z3 + 2).toNatClampNeg)).2 H locs ls (by omega) (by omega) (lw_z5 ez) (r_weight S X (xs (z3 + 1).toNatClampNeg) (xs (z3 + 2).toNatClampNeg) hrel).2 hP hD hS (lv_sub hl [1, 2, 3, 0] rfl)
                    · exact absurd (r_weight S X (xs (z3 + 1).toNatClampNeg) (xs (z3 + 2).toNatClampNeg) hrel).1 c_958
                  · by_cases c_959 : ((xs z3.toNatClampNeg) &&& 31) = 7
                    · refine lv_tableIn (tgt := 397) (off := 365) hx hb d_law_32 (by rw [c_959]; decide) (by rw [c_959]; decide) (by rw [c_959]; decide) (by decide) ?_
                      refine lv_aload_n hx hb d_law_397 rfl (lv_at hl 1 rfl) ?_
                      refine lv_aload_n hx hb d_law_398 rfl (lv_at hl 0 rfl) ?_
                      refine lv_iload_n hx hb d_law_399 rfl (lv_at hl 3 rfl) ?_
                      refine lv_iconst (v := 1) hx hb d_law_400 (by decide) ?_
                      refine lv_iadd hx hb d_law_401 ?_
                      refine va_sld hx hb hX hbl hbA hS (lw_in1 hL hi ez) d_law_402 ?_
                      have hP_w_960 := hP.sub (ws' := (w_NC cA ad S)) [0, 1, 2, 3, 4, 5, 6, 7, 8, 9, 10, 11, 12, 13, 14, 15, 16, 17, 18, 19, 20, 21, 22, 23, 24, 25, 26, 27, 28, 29, 30] rfl
                      have hD_w_960 := hD.sub (ws' := (w_NC cA ad S)) [0, 1, 2, 3, 4, 5, 6, 7, 8, 9, 10, 11, 12, 13, 14, 15, 16, 17, 18, 19, 20, 21, 22, 23, 24, 25, 26, 27, 28, 29, 30] (by decide) rfl
                      have hFc := va_free (wc := (w_NC cA ad S)) hD hS hA [0, 1, 2, 3, 4, 5, 6, 7, 8, 9, 10, 11, 12, 13, 14, 15, 16, 17, 18, 19, 20, 21, 22, 23, 24, 25, 26, 27, 28, 29, 30] rfl
                      refine nc_mui (va_runV (As := [.int (xs (z3 + 1).toNatClampNeg)]) (rest := []) hfix (c_NC_limit l dC dI cA H.size ad S (xs (z3 + 1).toNatClampNeg)) (k_law_45 hts hN ⟨Nat.le_of_ble_eq_true rfl, Nat.le_of_ble_eq_true rfl⟩) (nc_preVM hK1 hN hP_w_960 hD_w_960 rfl rfl) rfl rfl hl.1 rfl (lv_room (Nat.le_of_ble_eq_true rfl)) d_law_403 ⟨Nat.le_of_ble_eq_true rfl, Nat.le_of_ble_eq_true rfl⟩) hS hFc (fun r H locs er hP1 hD1 hk1 hS => ?_)
                      subst er
                      obtain ⟨hP, hD⟩ := va_join (wr := (w_M cA cZ a rv X)) (w1 := (w_NC cA ad (f_NC_limit S (xs (z3 + 1).toNatClampNeg)).2)) hP hD [0, 1, 2, 3, 4, 5, 6, 7, 8, 9, 10, 11, 12, 13, 14, 15, 16, 17, 18, 19, 20, 21, 22, 23, 24, 25, 26, 27, 28, 29, 30] [31, 32, 33, 34, 35, 36, 37, 38, 39, 40, 41, 42, 43, 44, 45] rfl rfl (by decide) (by decide) hk1 hFc hP1 hD1
                      have hP : va_P (dC, dI) classes ((w_NC cA ad (f_NC_limit S (xs (z3 + 1).toNatClampNeg)).2) ++ (w_M cA cZ a rv X)) H := hP.sub [15, 16, 17, 18, 19, 20, 21, 22, 23, 24, 25, 26, 27, 28, 29, 30, 31, 32, 33, 34, 35, 36, 37, 38, 39, 40, 41, 42, 43, 44, 45, 0, 1, 2, 3, 4, 5, 6, 7, 8, 9, 10, 11, 12, 13, 14] rfl
                      have hD : va_D (fun q : Nat => s.heap.size ≤ q) ((w_NC cA ad (f_NC_limit S (xs (z3 + 1).toNatClampNeg)).2) ++ (w_M cA cZ a rv X)) := hD.sub [15, 16, 17, 18, 19, 20, 21, 22, 23, 24, 25, 26, 27, 28, 29, 30, 31, 32, 33, 34, 35, 36, 37, 38, 39, 40, 41, 42, 43, 44, 45, 0, 1, 2, 3, 4, 5, 6, 7, 8, 9, 10, 11, 12, 13, 14] (by decide) rfl
                      refine lv_aload_n hx hb d_law_406 rfl (lv_at hl 2 rfl) ?_
                      refine lv_aload_n hx hb d_law_407 rfl (lv_at hl 0 rfl) ?_
                      refine lv_iload_n hx hb d_law_408 rfl (lv_at hl 3 rfl) ?_
                      refine lv_iconst (v := 1) hx hb d_law_409 (by decide) ?_
                      refine lv_iadd hx hb d_law_410 ?_
                      refine va_sld hx hb hX hbl hbA hS (lw_in1 hL hi ez) d_law_411 ?_
                      have hP_w_961 := hP.sub (ws' := (w_M cA cZ a rv X)) [31, 32, 33, 34, 35, 36, 37, 38, 39, 40, 41, 42, 43, 44, 45] rfl
                      have hD_w_961 := hD.sub (ws' := (w_M cA cZ a rv X)) [31, 32, 33, 34, 35, 36, 37, 38, 39, 40, 41, 42, 43, 44, 45] (by decide) rfl
                      have hFc := va_free (wc := (w_M cA cZ a rv X)) hD hS hA [31, 32, 33, 34, 35, 36, 37, 38, 39, 40, 41, 42, 43, 44, 45] rfl
                      refine nc_mui (va_runV (As := [.int (xs (z3 + 1).toNatClampNeg)]) (rest := [.int (f_NC_limit S (xs (z3 + 1).toNatClampNeg)).1]) hfix (c_M_limit l dC dI cA cZ H.size a rv X (xs (z3 + 1).toNatClampNeg)) (k_law_49 hts hN ⟨Nat.le_of_ble_eq_true rfl, Nat.le_of_ble_eq_true rfl⟩) (nc_preVZM hK hN hP_w_961 hD_w_961 rfl rfl) rfl rfl hl.1 rfl (lv_room (Nat.le_of_ble_eq_true rfl)) d_law_412 ⟨Nat.le_of_ble_eq_true rfl, Nat.le_of_ble_eq_true rfl⟩) hS hFc (fun r H locs er hP1 hD1 hk1 hS => ?_)
                      subst er
                      obtain ⟨hP, hD⟩ := va_join (wr := (w_NC cA ad (f_NC_limit S (xs (z3 + 1).toNatClampNeg)).2)) (w1 := (w_M cA cZ a rv (f_M_limit X (xs (z3 + 1).toNatClampNeg)).2)) hP hD [31, 32, 33, 34, 35, 36, 37, 38, 39, 40, 41, 42, 43, 44, 45] [0, 1, 2, 3, 4, 5, 6, 7, 8, 9, 10, 11, 12, 13, 14, 15, 16, 17, 18, 19, 20, 21, 22, 23, 24, 25, 26, 27, 28, 29, 30] rfl rfl (by decide) (by decide) hk1 hFc hP1 hD1
                      have hP : va_P (dC, dI) classes ((w_NC cA ad (f_NC_limit S (xs (z3 + 1).toNatClampNeg)).2) ++ (w_M cA cZ a rv (f_M_limit X (xs (z3 + 1).toNatClampNeg)).2)) H := hP.sub [0, 1, 2, 3, 4, 5, 6, 7, 8, 9, 10, 11, 12, 13, 14, 15, 16, 17, 18, 19, 20, 21, 22, 23, 24, 25, 26, 27, 28, 29, 30, 31, 32, 33, 34, 35, 36, 37, 38, 39, 40, 41, 42, 43, 44, 45] rfl
                      have hD : va_D (fun q : Nat => s.heap.size ≤ q) ((w_NC cA ad (f_NC_limit S (xs (z3 + 1).toNatClampNeg)).2) ++ (w_M cA cZ a rv (f_M_limit X (xs (z3 + 1).toNatClampNeg)).2)) := hD.sub [0, 1, 2, 3, 4, 5, 6, 7, 8, 9, 10, 11, 12, 13, 14, 15, 16, 17, 18, 19, 20, 21, 22, 23, 24, 25, 26, 27, 28, 29, 30, 31, 32, 33, 34, 35, 36, 37, 38, 39, 40, 41, 42, 43, 44, 45] (by decide) rfl
                      refine lv_icmp_eq (tgt := 663) hx hb d_law_415 (by decide) (fun c_962 => ?_) (fun c_962 => ?_)
                      · refine lv_iinc (v := (z3 + 5)) (lv' := [(3, .int (z3 + 5)), (0, .ref b), (1, .ref (ad 0 0)), (2, .ref (a 0))]) hx hb d_law_663 hl (k := 3) rfl rfl (by decide) rfl (fun ls hl => ?_)
                        refine lv_goto (tgt := 18) hx hb d_law_666 (by decide) ?_
                        exact ih (i + 5) (z3 + 5) ad rv (f_NC_limit S (xs (z3 + 1).toNatClampNeg)).2 (f_M_limit X (xs (z3 + 1).toNatClampNeg)).2 H locs ls (by omega) (by omega) (lw_z5 ez) (r_limit S X (xs (z3 + 1).toNatClampNeg) hrel).2 hP hD hS (lv_sub hl [1, 2, 3, 0] rfl)
                      · exact absurd (r_limit S X (xs (z3 + 1).toNatClampNeg) hrel).1 c_962
                    · by_cases c_963 : ((xs z3.toNatClampNeg) &&& 31) = 8
                      · refine lv_tableIn (tgt := 420) (off := 388) hx hb d_law_32 (by rw [c_963]; decide) (by rw [c_963]; decide) (by rw [c_963]; decide) (by decide) ?_
                        refine lv_aload_n hx hb d_law_420 rfl (lv_at hl 1 rfl) ?_
                        refine lv_aload_n hx hb d_law_421 rfl (lv_at hl 0 rfl) ?_
                        refine lv_iload_n hx hb d_law_422 rfl (lv_at hl 3 rfl) ?_
                        refine lv_iconst (v := 1) hx hb d_law_423 (by decide) ?_
                        refine lv_iadd hx hb d_law_424 ?_
                        refine va_sld hx hb hX hbl hbA hS (lw_in1 hL hi ez) d_law_425 ?_
                        have hP_w_964 := hP.sub (ws' := (w_NC cA ad S)) [0, 1, 2, 3, 4, 5, 6, 7, 8, 9, 10, 11, 12, 13, 14, 15, 16, 17, 18, 19, 20, 21, 22, 23, 24, 25, 26, 27, 28, 29, 30] rfl
                        have hD_w_964 := hD.sub (ws' := (w_NC cA ad S)) [0, 1, 2, 3, 4, 5, 6, 7, 8, 9, 10, 11, 12, 13, 14, 15, 16, 17, 18, 19, 20, 21, 22, 23, 24, 25, 26, 27, 28, 29, 30] (by decide) rfl
                        refine nc_ro (va_runV (As := [.int (xs (z3 + 1).toNatClampNeg)]) (rest := []) hfix (c_NC_score l dC dI cA ad S (xs (z3 + 1).toNatClampNeg)) (k_law_50 hts hN ⟨Nat.le_of_ble_eq_true rfl, Nat.le_of_ble_eq_true rfl⟩) (nc_preV hK1 hN hP_w_964 hD_w_964 rfl rfl) rfl rfl hl.1 rfl (lv_room (Nat.le_of_ble_eq_true rfl)) d_law_426 ⟨Nat.le_of_ble_eq_true rfl, Nat.le_of_ble_eq_true rfl⟩) (fun r er => ?_)
                        subst er
                        refine lv_aload_n hx hb d_law_429 rfl (lv_at hl 2 rfl) ?_
                        refine lv_aload_n hx hb d_law_430 rfl (lv_at hl 0 rfl) ?_
                        refine lv_iload_n hx hb d_law_431 rfl (lv_at hl 3 rfl) ?_
                        refine lv_iconst (v := 1) hx hb d_law_432 (by decide) ?_
                        refine lv_iadd hx hb d_law_433 ?_
                        refine va_sld hx hb hX hbl hbA hS (lw_in1 hL hi ez) d_law_434 ?_
                        have hP_w_965 := hP.sub (ws' := (w_M cA cZ a rv X)) [31, 32, 33, 34, 35, 36, 37, 38, 39, 40, 41, 42, 43, 44, 45] rfl
                        have hD_w_965 := hD.sub (ws' := (w_M cA cZ a rv X)) [31, 32, 33, 34, 35, 36, 37, 38, 39, 40, 41, 42, 43, 44, 45] (by decide) rfl
                        have hFc := va_free (wc := (w_M cA cZ a rv X)) hD hS hA [31, 32, 33, 34, 35, 36, 37, 38, 39, 40, 41, 42, 43, 44, 45] rfl
                        refine nc_mui (va_runV (As := [.int (xs (z3 + 1).toNatClampNeg)]) (rest := [.int (f_NC_score S (xs (z3 + 1).toNatClampNeg))]) hfix (c_M_score l dC dI cA cZ H.size a rv X (xs (z3 + 1).toNatClampNeg) (p_t S X hrel)) (k_law_53 hts hN ⟨Nat.le_of_ble_eq_true rfl, Nat.le_of_ble_eq_true rfl⟩) (nc_preVZM hK hN hP_w_965 hD_w_965 rfl rfl) rfl rfl hl.1 rfl (lv_room (Nat.le_of_ble_eq_true rfl)) d_law_435 ⟨Nat.le_of_ble_eq_true rfl, Nat.le_of_ble_eq_true rfl⟩) hS hFc (fun r H locs er hP1 hD1 hk1 hS => ?_)
                        subst er
                        obtain ⟨hP, hD⟩ := va_join (wr := (w_NC cA ad S)) (w1 := (w_M cA cZ a rv (f_M_score X (xs (z3 + 1).toNatClampNeg)).2)) hP hD [31, 32, 33, 34, 35, 36, 37, 38, 39, 40, 41, 42, 43, 44, 45] [0, 1, 2, 3, 4, 5, 6, 7, 8, 9, 10, 11, 12, 13, 14, 15, 16, 17, 18, 19, 20, 21, 22, 23, 24, 25, 26, 27, 28, 29, 30] rfl rfl (by decide) (by decide) hk1 hFc hP1 hD1
                        have hP : va_P (dC, dI) classes ((w_NC cA ad S) ++ (w_M cA cZ a rv (f_M_score X (xs (z3 + 1).toNatClampNeg)).2)) H := hP.sub [0, 1, 2, 3, 4, 5, 6, 7, 8, 9, 10, 11, 12, 13, 14, 15, 16, 17, 18, 19, 20, 21, 22, 23, 24, 25, 26, 27, 28, 29, 30, 31, 32, 33, 34, 35, 36, 37, 38, 39, 40, 41, 42, 43, 44, 45] rfl
                        have hD : va_D (fun q : Nat => s.heap.size ≤ q) ((w_NC cA ad S) ++ (w_M cA cZ a rv (f_M_score X (xs (z3 + 1).toNatClampNeg)).2)) := hD.sub [0, 1, 2, 3, 4, 5, 6, 7, 8, 9, 10, 11, 12, 13, 14, 15, 16, 17, 18, 19, 20, 21, 22, 23, 24, 25, 26, 27, 28, 29, 30, 31, 32, 33, 34, 35, 36, 37, 38, 39, 40, 41, 42, 43, 44, 45] (by decide) rfl
                        refine lv_icmp_eq (tgt := 663) hx hb d_law_438 (by decide) (fun c_966 => ?_) (fun c_966 => ?_)
                        · refine lv_iinc (v := (z3 + 5)) (lv' := [(3, .int (z3 + 5)), (0, .ref b), (1, .ref (ad 0 0)), (2, .ref (a 0))]) hx hb d_law_663 hl (k := 3) rfl rfl (by decide) rfl (fun ls hl => ?_)
                          refine lv_goto (tgt := 18) hx hb d_law_666 (by decide) ?_
                          exact ih (i + 5) (z3 + 5) ad rv S (f_M_score X (xs (z3 + 1).toNatClampNeg)).2 H locs ls (by omega) (by omega) (lw_z5 ez) (r_score S X (xs (z3 + 1).toNatClampNeg) hrel).2 hP hD hS (lv_sub hl [1, 2, 3, 0] rfl)
                        · exact absurd (r_score S X (xs (z3 + 1).toNatClampNeg) hrel).1 c_966
                      · by_cases c_967 : ((xs z3.toNatClampNeg) &&& 31) = 9
                        · refine lv_tableIn (tgt := 443) (off := 411) hx hb d_law_32 (by rw [c_967]; decide) (by rw [c_967]; decide) (by rw [c_967]; decide) (by decide) ?_
                          refine lv_aload_n hx hb d_law_443 rfl (lv_at hl 1 rfl) ?_
                          refine lv_aload_n hx hb d_law_444 rfl (lv_at hl 0 rfl) ?_
                          refine lv_iload_n hx hb d_law_445 rfl (lv_at hl 3 rfl) ?_
                          refine lv_iconst (v := 1) hx hb d_law_446 (by decide) ?_
                          refine lv_iadd hx hb d_law_447 ?_
                          refine va_sld hx hb hX hbl hbA hS (lw_in1 hL hi ez) d_law_448 ?_
                          refine lv_aload_n hx hb d_law_449 rfl (lv_at hl 0 rfl) ?_
                          refine lv_iload_n hx hb d_law_450 rfl (lv_at hl 3 rfl) ?_
                          refine lv_iconst (v := 2) hx hb d_law_451 (by decide) ?_
                          refine lv_iadd hx hb d_law_452 ?_
                          refine va_sld hx hb hX hbl hbA hS (lw_in2 hL hi ez) d_law_453 ?_
                          have hP_w_968 := hP.sub (ws' := (w_NC cA ad S)) [0, 1, 2, 3, 4, 5, 6, 7, 8, 9, 10, 11, 12, 13, 14, 15, 16, 17, 18, 19, 20, 21, 22, 23, 24, 25, 26, 27, 28, 29, 30] rfl
                          have hD_w_968 := hD.sub (ws' := (w_NC cA ad S)) [0, 1, 2, 3, 4, 5, 6, 7, 8, 9, 10, 11, 12, 13, 14, 15, 16, 17, 18, 19, 20, 21, 22, 23, 24, 25, 26, 27, 28, 29, 30] (by decide) rfl
                          refine nc_ro (va_runV (As := [.int (xs (z3 + 1).toNatClampNeg), .int (xs (z3 + 2).toNatClampNeg)]) (rest := []) hfix (c_NC_alike l dC dI cA ad S (xs (z3 + 1).toNatClampNeg) (xs (z3 + 2).toNatClampNeg)) (k_law_54 hts hN ⟨Nat.le_of_ble_eq_true rfl, Nat.le_of_ble_eq_true rfl⟩) (nc_preV hK1 hN hP_w_968 hD_w_968 rfl rfl) rfl rfl hl.1 rfl (lv_room (Nat.le_of_ble_eq_true rfl)) d_law_454 ⟨Nat.le_of_ble_eq_true rfl, Nat.le_of_ble_eq_true rfl⟩) (fun r er => ?_)
                          subst er
                          refine lv_aload_n hx hb d_law_457 rfl (lv_at hl 2 rfl) ?_
                          refine lv_aload_n hx hb d_law_458 rfl (lv_at hl 0 rfl) ?_
                          refine lv_iload_n hx hb d_law_459 rfl (lv_at hl 3 rfl) ?_
                          refine lv_iconst (v := 1) hx hb d_law_460 (by decide) ?_
                          refine lv_iadd hx hb d_law_461 ?_
                          refine va_sld hx hb hX hbl hbA hS (lw_in1 hL hi ez) d_law_462 ?_
                          refine lv_aload_n hx hb d_law_463 rfl (lv_at hl 0 rfl) ?_
                          refine lv_iload_n hx hb d_law_464 rfl (lv_at hl 3 rfl) ?_
                          refine lv_iconst (v := 2) hx hb d_law_465 (by decide) ?_
                          refine lv_iadd hx hb d_law_466 ?_
                          refine va_sld hx hb hX hbl hbA hS (lw_in2 hL hi ez) d_law_467 ?_
                          have hP_w_969 := hP.sub (ws' := (w_M cA cZ a rv X)) [31, 32, 33, 34, 35, 36, 37, 38, 39, 40, 41, 42, 43, 44, 45] rfl
                          have hD_w_969 := hD.sub (ws' := (w_M cA cZ a rv X)) [31, 32, 33, 34, 35, 36, 37, 38, 39, 40, 41, 42, 43, 44, 45] (by decide) rfl
                          have hFc := va_free (wc := (w_M cA cZ a rv X)) hD hS hA [31, 32, 33, 34, 35, 36, 37, 38, 39, 40, 41, 42, 43, 44, 45] rfl
                          refine nc_mui (va_runV (As := [.int (xs (z3 + 1).toNatClampNeg), .int (xs (z3 + 2).toNatClampNeg)]) (rest := [.int (f_NC_alike S (xs (z3 + 1).toNatClampNeg) (xs (z3 + 2).toNatClampNeg))]) hfix (c_M_alike l dC dI cA cZ H.size a rv X (xs (z3 + 1).toNatClampNeg) (xs (z3 + 2).toNatClampNeg) (p_t S X hrel)) (k_law_57 hts hN ⟨Nat.le_of_ble_eq_true rfl, Nat.le_of_ble_eq_true rfl⟩) (nc_preVZM hK hN hP_w_969 hD_w_969 rfl rfl) rfl rfl hl.1 rfl (lv_room (Nat.le_of_ble_eq_true rfl)) d_law_468 ⟨Nat.le_of_ble_eq_true rfl, Nat.le_of_ble_eq_true rfl⟩) hS hFc (fun r H locs er hP1 hD1 hk1 hS => ?_)
                          subst er
                          obtain ⟨hP, hD⟩ := va_join (wr := (w_NC cA ad S)) (w1 := (w_M cA cZ a rv (f_M_alike X (xs (z3 + 1).toNatClampNeg) (xs (z3 + 2).toNatClampNeg)).2)) hP hD [31, 32, 33, 34, 35, 36, 37, 38, 39, 40, 41, 42, 43, 44, 45] [0, 1, 2, 3, 4, 5, 6, 7, 8, 9, 10, 11, 12, 13, 14, 15, 16, 17, 18, 19, 20, 21, 22, 23, 24, 25, 26, 27, 28, 29, 30] rfl rfl (by decide) (by decide) hk1 hFc hP1 hD1
                          have hP : va_P (dC, dI) classes ((w_NC cA ad S) ++ (w_M cA cZ a rv (f_M_alike X (xs (z3 + 1).toNatClampNeg) (xs (z3 + 2).toNatClampNeg)).2)) H := hP.sub [0, 1, 2, 3, 4, 5, 6, 7, 8, 9, 10, 11, 12, 13, 14, 15, 16, 17, 18, 19, 20, 21, 22, 23, 24, 25, 26, 27, 28, 29, 30, 31, 32, 33, 34, 35, 36, 37, 38, 39, 40, 41, 42, 43, 44, 45] rfl
                          have hD : va_D (fun q : Nat => s.heap.size ≤ q) ((w_NC cA ad S) ++ (w_M cA cZ a rv (f_M_alike X (xs (z3 + 1).toNatClampNeg) (xs (z3 + 2).toNatClampNeg)).2)) := hD.sub [0, 1, 2, 3, 4, 5, 6, 7, 8, 9, 10, 11, 12, 13, 14, 15, 16, 17, 18, 19, 20, 21, 22, 23, 24, 25, 26, 27, 28, 29, 30, 31, 32, 33, 34, 35, 36, 37, 38, 39, 40, 41, 42, 43, 44, 45] (by decide) rfl
                          refine lv_icmp_eq (tgt := 663) hx hb d_law_471 (by decide) (fun c_970 => ?_) (fun c_970 => ?_)
                          · refine lv_iinc (v := (z3 + 5)) (lv' := [(3, .int (z3 + 5)), (0, .ref b), (1, .ref (ad 0 0)), (2, .ref (a 0))]) hx hb d_law_663 hl (k := 3) rfl rfl (by decide) rfl (fun ls hl => ?_)
                            refine lv_goto (tgt := 18) hx hb d_law_666 (by decide) ?_
                            exact ih (i + 5) (z3 + 5) ad rv S (f_M_alike X (xs (z3 + 1).toNatClampNeg) (xs (z3 + 2).toNatClampNeg)).2 H locs ls (by omega) (by omega) (lw_z5 ez) (r_alike S X (xs (z3 + 1).toNatClampNeg) (xs (z3 + 2).toNatClampNeg) hrel).2 hP hD hS (lv_sub hl [1, 2, 3, 0] rfl)
                          · exact absurd (r_alike S X (xs (z3 + 1).toNatClampNeg) (xs (z3 + 2).toNatClampNeg) hrel).1 c_970
                        · by_cases c_971 : ((xs z3.toNatClampNeg) &&& 31) = 10
                          · refine lv_tableIn (tgt := 476) (off := 444) hx hb d_law_32 (by rw [c_971]; decide) (by rw [c_971]; decide) (by rw [c_971]; decide) (by decide) ?_
                            refine lv_aload_n hx hb d_law_476 rfl (lv_at hl 1 rfl) ?_
                            refine lv_aload_n hx hb d_law_477 rfl (lv_at hl 0 rfl) ?_
                            refine lv_iload_n hx hb d_law_478 rfl (lv_at hl 3 rfl) ?_
                            refine lv_iconst (v := 1) hx hb d_law_479 (by decide) ?_
                            refine lv_iadd hx hb d_law_480 ?_
                            refine va_sld hx hb hX hbl hbA hS (lw_in1 hL hi ez) d_law_481 ?_
                            have hP_w_972 := hP.sub (ws' := (w_NC cA ad S)) [0, 1, 2, 3, 4, 5, 6, 7, 8, 9, 10, 11, 12, 13, 14, 15, 16, 17, 18, 19, 20, 21, 22, 23, 24, 25, 26, 27, 28, 29, 30] rfl
                            have hD_w_972 := hD.sub (ws' := (w_NC cA ad S)) [0, 1, 2, 3, 4, 5, 6, 7, 8, 9, 10, 11, 12, 13, 14, 15, 16, 17, 18, 19, 20, 21, 22, 23, 24, 25, 26, 27, 28, 29, 30] (by decide) rfl
                            have hFc := va_free (wc := (w_NC cA ad S)) hD hS hA [0, 1, 2, 3, 4, 5, 6, 7, 8, 9, 10, 11, 12, 13, 14, 15, 16, 17, 18, 19, 20, 21, 22, 23, 24, 25, 26, 27, 28, 29, 30] rfl
                            refine nc_mui (va_runV (As := [.int (xs (z3 + 1).toNatClampNeg)]) (rest := []) hfix (c_NC_type l dC dI cA H.size ad S (xs (z3 + 1).toNatClampNeg) (p_row S X hrel)) (k_law_58 hts hN ⟨Nat.le_of_ble_eq_true rfl, Nat.le_of_ble_eq_true rfl⟩) (nc_preVM hK1 hN hP_w_972 hD_w_972 rfl rfl) rfl rfl hl.1 rfl (lv_room (Nat.le_of_ble_eq_true rfl)) d_law_482 ⟨Nat.le_of_ble_eq_true rfl, Nat.le_of_ble_eq_true rfl⟩) hS hFc (fun r H locs er hP1 hD1 hk1 hS => ?_)
                            subst er
                            obtain ⟨hP, hD⟩ := va_join (wr := (w_M cA cZ a rv X)) (w1 := (w_NC cA ad (f_NC_type S (xs (z3 + 1).toNatClampNeg)).2)) hP hD [0, 1, 2, 3, 4, 5, 6, 7, 8, 9, 10, 11, 12, 13, 14, 15, 16, 17, 18, 19, 20, 21, 22, 23, 24, 25, 26, 27, 28, 29, 30] [31, 32, 33, 34, 35, 36, 37, 38, 39, 40, 41, 42, 43, 44, 45] rfl rfl (by decide) (by decide) hk1 hFc hP1 hD1
                            have hP : va_P (dC, dI) classes ((w_NC cA ad (f_NC_type S (xs (z3 + 1).toNatClampNeg)).2) ++ (w_M cA cZ a rv X)) H := hP.sub [15, 16, 17, 18, 19, 20, 21, 22, 23, 24, 25, 26, 27, 28, 29, 30, 31, 32, 33, 34, 35, 36, 37, 38, 39, 40, 41, 42, 43, 44, 45, 0, 1, 2, 3, 4, 5, 6, 7, 8, 9, 10, 11, 12, 13, 14] rfl
                            have hD : va_D (fun q : Nat => s.heap.size ≤ q) ((w_NC cA ad (f_NC_type S (xs (z3 + 1).toNatClampNeg)).2) ++ (w_M cA cZ a rv X)) := hD.sub [15, 16, 17, 18, 19, 20, 21, 22, 23, 24, 25, 26, 27, 28, 29, 30, 31, 32, 33, 34, 35, 36, 37, 38, 39, 40, 41, 42, 43, 44, 45, 0, 1, 2, 3, 4, 5, 6, 7, 8, 9, 10, 11, 12, 13, 14] (by decide) rfl
                            refine lv_aload_n hx hb d_law_485 rfl (lv_at hl 2 rfl) ?_
                            refine lv_aload_n hx hb d_law_486 rfl (lv_at hl 0 rfl) ?_
                            refine lv_iload_n hx hb d_law_487 rfl (lv_at hl 3 rfl) ?_
                            refine lv_iconst (v := 1) hx hb d_law_488 (by decide) ?_
                            refine lv_iadd hx hb d_law_489 ?_
                            refine va_sld hx hb hX hbl hbA hS (lw_in1 hL hi ez) d_law_490 ?_
                            have hP_w_973 := hP.sub (ws' := (w_M cA cZ a rv X)) [31, 32, 33, 34, 35, 36, 37, 38, 39, 40, 41, 42, 43, 44, 45] rfl
                            have hD_w_973 := hD.sub (ws' := (w_M cA cZ a rv X)) [31, 32, 33, 34, 35, 36, 37, 38, 39, 40, 41, 42, 43, 44, 45] (by decide) rfl
                            have hFc := va_free (wc := (w_M cA cZ a rv X)) hD hS hA [31, 32, 33, 34, 35, 36, 37, 38, 39, 40, 41, 42, 43, 44, 45] rfl
                            refine nc_mui (va_runV (As := [.int (xs (z3 + 1).toNatClampNeg)]) (rest := [.int (f_NC_type S (xs (z3 + 1).toNatClampNeg)).1]) hfix (c_M_type l dC dI cA cZ H.size a rv X (xs (z3 + 1).toNatClampNeg) (p_s S X hrel)) (k_law_61 hts hN ⟨Nat.le_of_ble_eq_true rfl, Nat.le_of_ble_eq_true rfl⟩) (nc_preVZM hK hN hP_w_973 hD_w_973 rfl rfl) rfl rfl hl.1 rfl (lv_room (Nat.le_of_ble_eq_true rfl)) d_law_491 ⟨Nat.le_of_ble_eq_true rfl, Nat.le_of_ble_eq_true rfl⟩) hS hFc (fun r H locs er hP1 hD1 hk1 hS => ?_)
                            subst er
                            obtain ⟨hP, hD⟩ := va_join (wr := (w_NC cA ad (f_NC_type S (xs (z3 + 1).toNatClampNeg)).2)) (w1 := (w_M cA cZ a rv (f_M_type X (xs (z3 + 1).toNatClampNeg)).2)) hP hD [31, 32, 33, 34, 35, 36, 37, 38, 39, 40, 41, 42, 43, 44, 45] [0, 1, 2, 3, 4, 5, 6, 7, 8, 9, 10, 11, 12, 13, 14, 15, 16, 17, 18, 19, 20, 21, 22, 23, 24, 25, 26, 27, 28, 29, 30] rfl rfl (by decide) (by decide) hk1 hFc hP1 hD1
                            have hP : va_P (dC, dI) classes ((w_NC cA ad (f_NC_type S (xs (z3 + 1).toNatClampNeg)).2) ++ (w_M cA cZ a rv (f_M_type X (xs (z3 + 1).toNatClampNeg)).2)) H := hP.sub [0, 1, 2, 3, 4, 5, 6, 7, 8, 9, 10, 11, 12, 13, 14, 15, 16, 17, 18, 19, 20, 21, 22, 23, 24, 25, 26, 27, 28, 29, 30, 31, 32, 33, 34, 35, 36, 37, 38, 39, 40, 41, 42, 43, 44, 45] rfl
                            have hD : va_D (fun q : Nat => s.heap.size ≤ q) ((w_NC cA ad (f_NC_type S (xs (z3 + 1).toNatClampNeg)).2) ++ (w_M cA cZ a rv (f_M_type X (xs (z3 + 1).toNatClampNeg)).2)) := hD.sub [0, 1, 2, 3, 4, 5, 6, 7, 8, 9, 10, 11, 12, 13, 14, 15, 16, 17, 18, 19, 20, 21, 22, 23, 24, 25, 26, 27, 28, 29, 30, 31, 32, 33, 34, 35, 36, 37, 38, 39, 40, 41, 42, 43, 44, 45] (by decide) rfl
                            refine lv_icmp_eq (tgt := 663) hx hb d_law_494 (by decide) (fun c_974 => ?_) (fun c_974 => ?_)
                            · refine lv_iinc (v := (z3 + 5)) (lv' := [(3, .int (z3 + 5)), (0, .ref b), (1, .ref (ad 0 0)), (2, .ref (a 0))]) hx hb d_law_663 hl (k := 3) rfl rfl (by decide) rfl (fun ls hl => ?_)
                              refine lv_goto (tgt := 18) hx hb d_law_666 (by decide) ?_
                              exact ih (i + 5) (z3 + 5) ad rv (f_NC_type S (xs (z3 + 1).toNatClampNeg)).2 (f_M_type X (xs (z3 + 1).toNatClampNeg)).2 H locs ls (by omega) (by omega) (lw_z5 ez) (r_type S X (xs (z3 + 1).toNatClampNeg) hrel).2 hP hD hS (lv_sub hl [1, 2, 3, 0] rfl)
                            · exact absurd (r_type S X (xs (z3 + 1).toNatClampNeg) hrel).1 c_974
                          · by_cases c_975 : ((xs z3.toNatClampNeg) &&& 31) = 11
                            · refine lv_tableIn (tgt := 499) (off := 467) hx hb d_law_32 (by rw [c_975]; decide) (by rw [c_975]; decide) (by rw [c_975]; decide) (by decide) ?_
                              refine lv_aload_n hx hb d_law_499 rfl (lv_at hl 1 rfl) ?_
                              have hP_w_976 := hP.sub (ws' := (w_NC cA ad S)) [0, 1, 2, 3, 4, 5, 6, 7, 8, 9, 10, 11, 12, 13, 14, 15, 16, 17, 18, 19, 20, 21, 22, 23, 24, 25, 26, 27, 28, 29, 30] rfl
                              have hD_w_976 := hD.sub (ws' := (w_NC cA ad S)) [0, 1, 2, 3, 4, 5, 6, 7, 8, 9, 10, 11, 12, 13, 14, 15, 16, 17, 18, 19, 20, 21, 22, 23, 24, 25, 26, 27, 28, 29, 30] (by decide) rfl
                              have hFc := va_free (wc := (w_NC cA ad S)) hD hS hA [0, 1, 2, 3, 4, 5, 6, 7, 8, 9, 10, 11, 12, 13, 14, 15, 16, 17, 18, 19, 20, 21, 22, 23, 24, 25, 26, 27, 28, 29, 30] rfl
                              refine nc_mui (va_runV (As := []) (rest := []) hfix (c_NC_wipe l dC dI cA H.size ad S) (k_law_62 hts hN ⟨Nat.le_of_ble_eq_true rfl, Nat.le_of_ble_eq_true rfl⟩) (nc_preVM hK1 hN hP_w_976 hD_w_976 rfl rfl) rfl rfl hl.1 rfl (lv_room (Nat.le_of_ble_eq_true rfl)) d_law_500 ⟨Nat.le_of_ble_eq_true rfl, Nat.le_of_ble_eq_true rfl⟩) hS hFc (fun r H locs er hP1 hD1 hk1 hS => ?_)
                              subst er
                              obtain ⟨hP, hD⟩ := va_join (wr := (w_M cA cZ a rv X)) (w1 := (w_NC cA ad (f_NC_wipe S).2)) hP hD [0, 1, 2, 3, 4, 5, 6, 7, 8, 9, 10, 11, 12, 13, 14, 15, 16, 17, 18, 19, 20, 21, 22, 23, 24, 25, 26, 27, 28, 29, 30] [31, 32, 33, 34, 35, 36, 37, 38, 39, 40, 41, 42, 43, 44, 45] rfl rfl (by decide) (by decide) hk1 hFc hP1 hD1
                              have hP : va_P (dC, dI) classes ((w_NC cA ad (f_NC_wipe S).2) ++ (w_M cA cZ a rv X)) H := hP.sub [15, 16, 17, 18, 19, 20, 21, 22, 23, 24, 25, 26, 27, 28, 29, 30, 31, 32, 33, 34, 35, 36, 37, 38, 39, 40, 41, 42, 43, 44, 45, 0, 1, 2, 3, 4, 5, 6, 7, 8, 9, 10, 11, 12, 13, 14] rfl
                              have hD : va_D (fun q : Nat => s.heap.size ≤ q) ((w_NC cA ad (f_NC_wipe S).2) ++ (w_M cA cZ a rv X)) := hD.sub [15, 16, 17, 18, 19, 20, 21, 22, 23, 24, 25, 26, 27, 28, 29, 30, 31, 32, 33, 34, 35, 36, 37, 38, 39, 40, 41, 42, 43, 44, 45, 0, 1, 2, 3, 4, 5, 6, 7, 8, 9, 10, 11, 12, 13, 14] (by decide) rfl
                              refine lv_aload_n hx hb d_law_503 rfl (lv_at hl 2 rfl) ?_
                              have hP_w_977 := hP.sub (ws' := (w_M cA cZ a rv X)) [31, 32, 33, 34, 35, 36, 37, 38, 39, 40, 41, 42, 43, 44, 45] rfl
                              have hD_w_977 := hD.sub (ws' := (w_M cA cZ a rv X)) [31, 32, 33, 34, 35, 36, 37, 38, 39, 40, 41, 42, 43, 44, 45] (by decide) rfl
                              have hFc := va_free (wc := (w_M cA cZ a rv X)) hD hS hA [31, 32, 33, 34, 35, 36, 37, 38, 39, 40, 41, 42, 43, 44, 45] rfl
                              refine nc_mui (va_runV (As := []) (rest := [.int (f_NC_wipe S).1]) hfix (c_M_wipe l dC dI cA cZ H.size a rv X) (k_law_65 hts hN ⟨Nat.le_of_ble_eq_true rfl, Nat.le_of_ble_eq_true rfl⟩) (nc_preVZM hK hN hP_w_977 hD_w_977 rfl rfl) rfl rfl hl.1 rfl (lv_room (Nat.le_of_ble_eq_true rfl)) d_law_504 ⟨Nat.le_of_ble_eq_true rfl, Nat.le_of_ble_eq_true rfl⟩) hS hFc (fun r H locs er hP1 hD1 hk1 hS => ?_)
                              subst er
                              obtain ⟨hP, hD⟩ := va_join (wr := (w_NC cA ad (f_NC_wipe S).2)) (w1 := (w_M cA cZ a rv (f_M_wipe X).2)) hP hD [31, 32, 33, 34, 35, 36, 37, 38, 39, 40, 41, 42, 43, 44, 45] [0, 1, 2, 3, 4, 5, 6, 7, 8, 9, 10, 11, 12, 13, 14, 15, 16, 17, 18, 19, 20, 21, 22, 23, 24, 25, 26, 27, 28, 29, 30] rfl rfl (by decide) (by decide) hk1 hFc hP1 hD1
                              have hP : va_P (dC, dI) classes ((w_NC cA ad (f_NC_wipe S).2) ++ (w_M cA cZ a rv (f_M_wipe X).2)) H := hP.sub [0, 1, 2, 3, 4, 5, 6, 7, 8, 9, 10, 11, 12, 13, 14, 15, 16, 17, 18, 19, 20, 21, 22, 23, 24, 25, 26, 27, 28, 29, 30, 31, 32, 33, 34, 35, 36, 37, 38, 39, 40, 41, 42, 43, 44, 45] rfl
                              have hD : va_D (fun q : Nat => s.heap.size ≤ q) ((w_NC cA ad (f_NC_wipe S).2) ++ (w_M cA cZ a rv (f_M_wipe X).2)) := hD.sub [0, 1, 2, 3, 4, 5, 6, 7, 8, 9, 10, 11, 12, 13, 14, 15, 16, 17, 18, 19, 20, 21, 22, 23, 24, 25, 26, 27, 28, 29, 30, 31, 32, 33, 34, 35, 36, 37, 38, 39, 40, 41, 42, 43, 44, 45] (by decide) rfl
                              refine lv_icmp_eq (tgt := 663) hx hb d_law_507 (by decide) (fun c_978 => ?_) (fun c_978 => ?_)
                              · refine lv_iinc (v := (z3 + 5)) (lv' := [(3, .int (z3 + 5)), (0, .ref b), (1, .ref (ad 0 0)), (2, .ref (a 0))]) hx hb d_law_663 hl (k := 3) rfl rfl (by decide) rfl (fun ls hl => ?_)
                                refine lv_goto (tgt := 18) hx hb d_law_666 (by decide) ?_
                                exact ih (i + 5) (z3 + 5) ad rv (f_NC_wipe S).2 (f_M_wipe X).2 H locs ls (by omega) (by omega) (lw_z5 ez) (r_wipe S X hrel).2 hP hD hS (lv_sub hl [1, 2, 3, 0] rfl)
                              · exact absurd (r_wipe S X hrel).1 c_978
                            · by_cases c_979 : ((xs z3.toNatClampNeg) &&& 31) = 12
                              · refine lv_tableIn (tgt := 512) (off := 480) hx hb d_law_32 (by rw [c_979]; decide) (by rw [c_979]; decide) (by rw [c_979]; decide) (by decide) ?_
                                refine lv_aload_n hx hb d_law_512 rfl (lv_at hl 1 rfl) ?_
                                refine lv_aload_n hx hb d_law_513 rfl (lv_at hl 0 rfl) ?_
                                refine lv_iload_n hx hb d_law_514 rfl (lv_at hl 3 rfl) ?_
                                refine lv_iconst (v := 1) hx hb d_law_515 (by decide) ?_
                                refine lv_iadd hx hb d_law_516 ?_
                                refine va_sld hx hb hX hbl hbA hS (lw_in1 hL hi ez) d_law_517 ?_
                                have hP_w_980 := hP.sub (ws' := (w_NC cA ad S)) [0, 1, 2, 3, 4, 5, 6, 7, 8, 9, 10, 11, 12, 13, 14, 15, 16, 17, 18, 19, 20, 21, 22, 23, 24, 25, 26, 27, 28, 29, 30] rfl
                                have hD_w_980 := hD.sub (ws' := (w_NC cA ad S)) [0, 1, 2, 3, 4, 5, 6, 7, 8, 9, 10, 11, 12, 13, 14, 15, 16, 17, 18, 19, 20, 21, 22, 23, 24, 25, 26, 27, 28, 29, 30] (by decide) rfl
                                have hFc := va_free (wc := (w_NC cA ad S)) hD hS hA [0, 1, 2, 3, 4, 5, 6, 7, 8, 9, 10, 11, 12, 13, 14, 15, 16, 17, 18, 19, 20, 21, 22, 23, 24, 25, 26, 27, 28, 29, 30] rfl
                                refine nc_mui (va_runV (As := [.int (xs (z3 + 1).toNatClampNeg)]) (rest := []) hfix (c_NC_fits l dC dI cA H.size ad S (xs (z3 + 1).toNatClampNeg)) (k_law_66 hts hN ⟨Nat.le_of_ble_eq_true rfl, Nat.le_of_ble_eq_true rfl⟩) (nc_preVM hK1 hN hP_w_980 hD_w_980 rfl rfl) rfl rfl hl.1 rfl (lv_room (Nat.le_of_ble_eq_true rfl)) d_law_518 ⟨Nat.le_of_ble_eq_true rfl, Nat.le_of_ble_eq_true rfl⟩) hS hFc (fun r H locs er hP1 hD1 hk1 hS => ?_)
                                subst er
                                obtain ⟨hP, hD⟩ := va_join (wr := (w_M cA cZ a rv X)) (w1 := (w_NC cA ad (f_NC_fits S (xs (z3 + 1).toNatClampNeg)).2)) hP hD [0, 1, 2, 3, 4, 5, 6, 7, 8, 9, 10, 11, 12, 13, 14, 15, 16, 17, 18, 19, 20, 21, 22, 23, 24, 25, 26, 27, 28, 29, 30] [31, 32, 33, 34, 35, 36, 37, 38, 39, 40, 41, 42, 43, 44, 45] rfl rfl (by decide) (by decide) hk1 hFc hP1 hD1
                                have hP : va_P (dC, dI) classes ((w_NC cA ad (f_NC_fits S (xs (z3 + 1).toNatClampNeg)).2) ++ (w_M cA cZ a rv X)) H := hP.sub [15, 16, 17, 18, 19, 20, 21, 22, 23, 24, 25, 26, 27, 28, 29, 30, 31, 32, 33, 34, 35, 36, 37, 38, 39, 40, 41, 42, 43, 44, 45, 0, 1, 2, 3, 4, 5, 6, 7, 8, 9, 10, 11, 12, 13, 14] rfl
                                have hD : va_D (fun q : Nat => s.heap.size ≤ q) ((w_NC cA ad (f_NC_fits S (xs (z3 + 1).toNatClampNeg)).2) ++ (w_M cA cZ a rv X)) := hD.sub [15, 16, 17, 18, 19, 20, 21, 22, 23, 24, 25, 26, 27, 28, 29, 30, 31, 32, 33, 34, 35, 36, 37, 38, 39, 40, 41, 42, 43, 44, 45, 0, 1, 2, 3, 4, 5, 6, 7, 8, 9, 10, 11, 12, 13, 14] (by decide) rfl
                                refine lv_aload_n hx hb d_law_521 rfl (lv_at hl 2 rfl) ?_
                                refine lv_aload_n hx hb d_law_522 rfl (lv_at hl 0 rfl) ?_
                                refine lv_iload_n hx hb d_law_523 rfl (lv_at hl 3 rfl) ?_
                                refine lv_iconst (v := 1) hx hb d_law_524 (by decide) ?_
                                refine lv_iadd hx hb d_law_525 ?_
                                refine va_sld hx hb hX hbl hbA hS (lw_in1 hL hi ez) d_law_526 ?_
                                have hP_w_981 := hP.sub (ws' := (w_M cA cZ a rv X)) [31, 32, 33, 34, 35, 36, 37, 38, 39, 40, 41, 42, 43, 44, 45] rfl
                                have hD_w_981 := hD.sub (ws' := (w_M cA cZ a rv X)) [31, 32, 33, 34, 35, 36, 37, 38, 39, 40, 41, 42, 43, 44, 45] (by decide) rfl
                                have hFc := va_free (wc := (w_M cA cZ a rv X)) hD hS hA [31, 32, 33, 34, 35, 36, 37, 38, 39, 40, 41, 42, 43, 44, 45] rfl
                                refine nc_mug (va_runV (As := [.int (xs (z3 + 1).toNatClampNeg)]) (rest := [.int (f_NC_fits S (xs (z3 + 1).toNatClampNeg)).1]) hfix (c_M_fits l dC dI cA cZ H.size a rv X (xs (z3 + 1).toNatClampNeg) (p_t S X hrel) (p_k S X hrel) (p_s S X hrel)) (k_law_69 hts hN ⟨Nat.le_of_ble_eq_true rfl, Nat.le_of_ble_eq_true rfl⟩) (nc_preVZM hK hN hP_w_981 hD_w_981 rfl rfl) rfl rfl hl.1 rfl (lv_room (Nat.le_of_ble_eq_true rfl)) d_law_527 ⟨Nat.le_of_ble_eq_true rfl, Nat.le_of_ble_eq_true rfl⟩) hS hFc (fun r rv_982 H locs er hP1 hD1 hk1 hS => ?_)
                                subst er
                                obtain ⟨hP, hD⟩ := va_join (wr := (w_NC cA ad (f_NC_fits S (xs (z3 + 1).toNatClampNeg)).2)) (w1 := (w_M cA cZ a rv_982 (f_M_fits X (xs (z3 + 1).toNatClampNeg)).2)) hP hD [31, 32, 33, 34, 35, 36, 37, 38, 39, 40, 41, 42, 43, 44, 45] [0, 1, 2, 3, 4, 5, 6, 7, 8, 9, 10, 11, 12, 13, 14, 15, 16, 17, 18, 19, 20, 21, 22, 23, 24, 25, 26, 27, 28, 29, 30] rfl rfl (by decide) (by decide) hk1 hFc hP1 hD1
                                have hP : va_P (dC, dI) classes ((w_NC cA ad (f_NC_fits S (xs (z3 + 1).toNatClampNeg)).2) ++ (w_M cA cZ a rv_982 (f_M_fits X (xs (z3 + 1).toNatClampNeg)).2)) H := hP.sub [0, 1, 2, 3, 4, 5, 6, 7, 8, 9, 10, 11, 12, 13, 14, 15, 16, 17, 18, 19, 20, 21, 22, 23, 24, 25, 26, 27, 28, 29, 30, 31, 32, 33, 34, 35, 36, 37, 38, 39, 40, 41, 42, 43, 44, 45] rfl
                                have hD : va_D (fun q : Nat => s.heap.size ≤ q) ((w_NC cA ad (f_NC_fits S (xs (z3 + 1).toNatClampNeg)).2) ++ (w_M cA cZ a rv_982 (f_M_fits X (xs (z3 + 1).toNatClampNeg)).2)) := hD.sub [0, 1, 2, 3, 4, 5, 6, 7, 8, 9, 10, 11, 12, 13, 14, 15, 16, 17, 18, 19, 20, 21, 22, 23, 24, 25, 26, 27, 28, 29, 30, 31, 32, 33, 34, 35, 36, 37, 38, 39, 40, 41, 42, 43, 44, 45] (by decide) rfl
                                refine lv_icmp_eq (tgt := 663) hx hb d_law_530 (by decide) (fun c_983 => ?_) (fun c_983 => ?_)
                                · refine lv_iinc (v := (z3 + 5)) (lv' := [(3, .int (z3 + 5)), (0, .ref b), (1, .ref (ad 0 0)), (2, .ref (a 0))]) hx hb d_law_663 hl (k := 3) rfl rfl (by decide) rfl (fun ls hl => ?_)
                                  refine lv_goto (tgt := 18) hx hb d_law_666 (by decide) ?_
                                  exact ih (i + 5) (z3 + 5) ad rv_982 (f_NC_fits S (xs (z3 + 1).toNatClampNeg)).2 (f_M_fits X (xs (z3 + 1).toNatClampNeg)).2 H locs ls (by omega) (by omega) (lw_z5 ez) (r_fits S X (xs (z3 + 1).toNatClampNeg) hrel).2 hP hD hS (lv_sub hl [1, 2, 3, 0] rfl)
                                · exact absurd (r_fits S X (xs (z3 + 1).toNatClampNeg) hrel).1 c_983
                              · by_cases c_984 : ((xs z3.toNatClampNeg) &&& 31) = 13
                                · refine lv_tableIn (tgt := 535) (off := 503) hx hb d_law_32 (by rw [c_984]; decide) (by rw [c_984]; decide) (by rw [c_984]; decide) (by decide) ?_
                                  refine lv_aload_n hx hb d_law_535 rfl (lv_at hl 1 rfl) ?_
                                  have hP_w_985 := hP.sub (ws' := (w_NC cA ad S)) [0, 1, 2, 3, 4, 5, 6, 7, 8, 9, 10, 11, 12, 13, 14, 15, 16, 17, 18, 19, 20, 21, 22, 23, 24, 25, 26, 27, 28, 29, 30] rfl
                                  have hD_w_985 := hD.sub (ws' := (w_NC cA ad S)) [0, 1, 2, 3, 4, 5, 6, 7, 8, 9, 10, 11, 12, 13, 14, 15, 16, 17, 18, 19, 20, 21, 22, 23, 24, 25, 26, 27, 28, 29, 30] (by decide) rfl
                                  have hFc := va_free (wc := (w_NC cA ad S)) hD hS hA [0, 1, 2, 3, 4, 5, 6, 7, 8, 9, 10, 11, 12, 13, 14, 15, 16, 17, 18, 19, 20, 21, 22, 23, 24, 25, 26, 27, 28, 29, 30] rfl
                                  refine nc_mug (va_runV (As := []) (rest := []) hfix (c2_NC_choose l dC dI cA H.size ad S) (k_law_70 hts hN ⟨Nat.le_of_ble_eq_true rfl, Nat.le_of_ble_eq_true rfl⟩) (nc_preVM hK1 hN hP_w_985 hD_w_985 rfl rfl) rfl rfl hl.1 rfl (lv_room (Nat.le_of_ble_eq_true rfl)) d_law_536 ⟨Nat.le_of_ble_eq_true rfl, Nat.le_of_ble_eq_true rfl⟩) hS hFc (fun r ad_986 H locs er hP1 hD1 hk1 hS => ?_)
                                  obtain ⟨rfl, hroot_ad_986⟩ := er
                                  obtain ⟨hP, hD⟩ := va_join (wr := (w_M cA cZ a rv X)) (w1 := (w_NC cA ad_986 (f_NC_choose S).2)) hP hD [0, 1, 2, 3, 4, 5, 6, 7, 8, 9, 10, 11, 12, 13, 14, 15, 16, 17, 18, 19, 20, 21, 22, 23, 24, 25, 26, 27, 28, 29, 30] [31, 32, 33, 34, 35, 36, 37, 38, 39, 40, 41, 42, 43, 44, 45] rfl rfl (by decide) (by decide) hk1 hFc hP1 hD1
                                  have hP : va_P (dC, dI) classes ((w_NC cA ad_986 (f_NC_choose S).2) ++ (w_M cA cZ a rv X)) H := hP.sub [15, 16, 17, 18, 19, 20, 21, 22, 23, 24, 25, 26, 27, 28, 29, 30, 31, 32, 33, 34, 35, 36, 37, 38, 39, 40, 41, 42, 43, 44, 45, 0, 1, 2, 3, 4, 5, 6, 7, 8, 9, 10, 11, 12, 13, 14] rfl
                                  have hD : va_D (fun q : Nat => s.heap.size ≤ q) ((w_NC cA ad_986 (f_NC_choose S).2) ++ (w_M cA cZ a rv X)) := hD.sub [15, 16, 17, 18, 19, 20, 21, 22, 23, 24, 25, 26, 27, 28, 29, 30, 31, 32, 33, 34, 35, 36, 37, 38, 39, 40, 41, 42, 43, 44, 45, 0, 1, 2, 3, 4, 5, 6, 7, 8, 9, 10, 11, 12, 13, 14] (by decide) rfl
                                  refine lv_aload_n hx hb d_law_539 rfl (lv_at hl 2 rfl) ?_
                                  have hP_w_987 := hP.sub (ws' := (w_M cA cZ a rv X)) [31, 32, 33, 34, 35, 36, 37, 38, 39, 40, 41, 42, 43, 44, 45] rfl
                                  have hD_w_987 := hD.sub (ws' := (w_M cA cZ a rv X)) [31, 32, 33, 34, 35, 36, 37, 38, 39, 40, 41, 42, 43, 44, 45] (by decide) rfl
                                  have hFc := va_free (wc := (w_M cA cZ a rv X)) hD hS hA [31, 32, 33, 34, 35, 36, 37, 38, 39, 40, 41, 42, 43, 44, 45] rfl
                                  refine nc_mug (va_runV (As := []) (rest := [.int (f_NC_choose S).1]) hfix (c_M_choose l dC dI cA cZ H.size a rv X (p_t S X hrel) (p_k S X hrel) (p_s S X hrel)) (k_law_73 hts hN ⟨Nat.le_of_ble_eq_true rfl, Nat.le_of_ble_eq_true rfl⟩) (nc_preVZM hK hN hP_w_987 hD_w_987 rfl rfl) rfl rfl hl.1 rfl (lv_room (Nat.le_of_ble_eq_true rfl)) d_law_540 ⟨Nat.le_of_ble_eq_true rfl, Nat.le_of_ble_eq_true rfl⟩) hS hFc (fun r rv_988 H locs er hP1 hD1 hk1 hS => ?_)
                                  subst er
                                  obtain ⟨hP, hD⟩ := va_join (wr := (w_NC cA ad_986 (f_NC_choose S).2)) (w1 := (w_M cA cZ a rv_988 (f_M_choose X).2)) hP hD [31, 32, 33, 34, 35, 36, 37, 38, 39, 40, 41, 42, 43, 44, 45] [0, 1, 2, 3, 4, 5, 6, 7, 8, 9, 10, 11, 12, 13, 14, 15, 16, 17, 18, 19, 20, 21, 22, 23, 24, 25, 26, 27, 28, 29, 30] rfl rfl (by decide) (by decide) hk1 hFc hP1 hD1
                                  have hP : va_P (dC, dI) classes ((w_NC cA ad_986 (f_NC_choose S).2) ++ (w_M cA cZ a rv_988 (f_M_choose X).2)) H := hP.sub [0, 1, 2, 3, 4, 5, 6, 7, 8, 9, 10, 11, 12, 13, 14, 15, 16, 17, 18, 19, 20, 21, 22, 23, 24, 25, 26, 27, 28, 29, 30, 31, 32, 33, 34, 35, 36, 37, 38, 39, 40, 41, 42, 43, 44, 45] rfl
                                  have hD : va_D (fun q : Nat => s.heap.size ≤ q) ((w_NC cA ad_986 (f_NC_choose S).2) ++ (w_M cA cZ a rv_988 (f_M_choose X).2)) := hD.sub [0, 1, 2, 3, 4, 5, 6, 7, 8, 9, 10, 11, 12, 13, 14, 15, 16, 17, 18, 19, 20, 21, 22, 23, 24, 25, 26, 27, 28, 29, 30, 31, 32, 33, 34, 35, 36, 37, 38, 39, 40, 41, 42, 43, 44, 45] (by decide) rfl
                                  refine lv_icmp_eq (tgt := 663) hx hb d_law_543 (by decide) (fun c_989 => ?_) (fun c_989 => ?_)
                                  · refine lv_iinc (v := (z3 + 5)) (lv' := [(3, .int (z3 + 5)), (0, .ref b), (1, .ref (ad 0 0)), (2, .ref (a 0))]) hx hb d_law_663 hl (k := 3) rfl rfl (by decide) rfl (fun ls hl => ?_)
                                    refine lv_goto (tgt := 18) hx hb d_law_666 (by decide) ?_
                                    exact ih (i + 5) (z3 + 5) ad_986 rv_988 (f_NC_choose S).2 (f_M_choose X).2 H locs ls (by omega) (by omega) (lw_z5 ez) (r_choose S X hrel).2 hP hD hS (by rw [hroot_ad_986]; exact lv_sub hl [1, 2, 3, 0] rfl)
                                  · exact absurd (r_choose S X hrel).1 c_989
                                · by_cases c_990 : ((xs z3.toNatClampNeg) &&& 31) = 14
                                  · refine lv_tableIn (tgt := 548) (off := 516) hx hb d_law_32 (by rw [c_990]; decide) (by rw [c_990]; decide) (by rw [c_990]; decide) (by decide) ?_
                                    refine lv_aload_n hx hb d_law_548 rfl (lv_at hl 1 rfl) ?_
                                    have hP_w_991 := hP.sub (ws' := (w_NC cA ad S)) [0, 1, 2, 3, 4, 5, 6, 7, 8, 9, 10, 11, 12, 13, 14, 15, 16, 17, 18, 19, 20, 21, 22, 23, 24, 25, 26, 27, 28, 29, 30] rfl
                                    have hD_w_991 := hD.sub (ws' := (w_NC cA ad S)) [0, 1, 2, 3, 4, 5, 6, 7, 8, 9, 10, 11, 12, 13, 14, 15, 16, 17, 18, 19, 20, 21, 22, 23, 24, 25, 26, 27, 28, 29, 30] (by decide) rfl
                                    have hFc := va_free (wc := (w_NC cA ad S)) hD hS hA [0, 1, 2, 3, 4, 5, 6, 7, 8, 9, 10, 11, 12, 13, 14, 15, 16, 17, 18, 19, 20, 21, 22, 23, 24, 25, 26, 27, 28, 29, 30] rfl
                                    refine nc_mug (va_runV (As := []) (rest := []) hfix (c2_NC_reply l dC dI cA H.size ad S) (k_law_74 hts hN ⟨Nat.le_of_ble_eq_true rfl, Nat.le_of_ble_eq_true rfl⟩) (nc_preVM hK1 hN hP_w_991 hD_w_991 rfl rfl) rfl rfl hl.1 rfl (lv_room (Nat.le_of_ble_eq_true rfl)) d_law_549 ⟨Nat.le_of_ble_eq_true rfl, Nat.le_of_ble_eq_true rfl⟩) hS hFc (fun r ad_992 H locs er hP1 hD1 hk1 hS => ?_)
                                    obtain ⟨rfl, hroot_ad_992⟩ := er
                                    obtain ⟨hP, hD⟩ := va_join (wr := (w_M cA cZ a rv X)) (w1 := (w_NC cA ad_992 (f_NC_reply S).2)) hP hD [0, 1, 2, 3, 4, 5, 6, 7, 8, 9, 10, 11, 12, 13, 14, 15, 16, 17, 18, 19, 20, 21, 22, 23, 24, 25, 26, 27, 28, 29, 30] [31, 32, 33, 34, 35, 36, 37, 38, 39, 40, 41, 42, 43, 44, 45] rfl rfl (by decide) (by decide) hk1 hFc hP1 hD1
                                    have hP : va_P (dC, dI) classes ((w_NC cA ad_992 (f_NC_reply S).2) ++ (w_M cA cZ a rv X)) H := hP.sub [15, 16, 17, 18, 19, 20, 21, 22, 23, 24, 25, 26, 27, 28, 29, 30, 31, 32, 33, 34, 35, 36, 37, 38, 39, 40, 41, 42, 43, 44, 45, 0, 1, 2, 3, 4, 5, 6, 7, 8, 9, 10, 11, 12, 13, 14] rfl
                                    have hD : va_D (fun q : Nat => s.heap.size ≤ q) ((w_NC cA ad_992 (f_NC_reply S).2) ++ (w_M cA cZ a rv X)) := hD.sub [15, 16, 17, 18, 19, 20, 21, 22, 23, 24, 25, 26, 27, 28, 29, 30, 31, 32, 33, 34, 35, 36, 37, 38, 39, 40, 41, 42, 43, 44, 45, 0, 1, 2, 3, 4, 5, 6, 7, 8, 9, 10, 11, 12, 13, 14] (by decide) rfl
                                    refine lv_aload_n hx hb d_law_552 rfl (lv_at hl 2 rfl) ?_
                                    have hP_w_993 := hP.sub (ws' := (w_M cA cZ a rv X)) [31, 32, 33, 34, 35, 36, 37, 38, 39, 40, 41, 42, 43, 44, 45] rfl
                                    have hD_w_993 := hD.sub (ws' := (w_M cA cZ a rv X)) [31, 32, 33, 34, 35, 36, 37, 38, 39, 40, 41, 42, 43, 44, 45] (by decide) rfl
                                    have hFc := va_free (wc := (w_M cA cZ a rv X)) hD hS hA [31, 32, 33, 34, 35, 36, 37, 38, 39, 40, 41, 42, 43, 44, 45] rfl
                                    refine nc_mug (va_runV (As := []) (rest := [.int (f_NC_reply S).1]) hfix (c_M_reply l dC dI cA cZ H.size a rv X (p_t S X hrel) (p_k S X hrel) (p_s S X hrel) (p_ps S X hrel) (p_pp S X hrel) (p_ap S X hrel)) (k_law_77 hts hN ⟨Nat.le_of_ble_eq_true rfl, Nat.le_of_ble_eq_true rfl⟩) (nc_preVZM hK hN hP_w_993 hD_w_993 rfl rfl) rfl rfl hl.1 rfl (lv_room (Nat.le_of_ble_eq_true rfl)) d_law_553 ⟨Nat.le_of_ble_eq_true rfl, Nat.le_of_ble_eq_true rfl⟩) hS hFc (fun r rv_994 H locs er hP1 hD1 hk1 hS => ?_)
                                    subst er
                                    obtain ⟨hP, hD⟩ := va_join (wr := (w_NC cA ad_992 (f_NC_reply S).2)) (w1 := (w_M cA cZ a rv_994 (f_M_reply X).2)) hP hD [31, 32, 33, 34, 35, 36, 37, 38, 39, 40, 41, 42, 43, 44, 45] [0, 1, 2, 3, 4, 5, 6, 7, 8, 9, 10, 11, 12, 13, 14, 15, 16, 17, 18, 19, 20, 21, 22, 23, 24, 25, 26, 27, 28, 29, 30] rfl rfl (by decide) (by decide) hk1 hFc hP1 hD1
                                    have hP : va_P (dC, dI) classes ((w_NC cA ad_992 (f_NC_reply S).2) ++ (w_M cA cZ a rv_994 (f_M_reply X).2)) H := hP.sub [0, 1, 2, 3, 4, 5, 6, 7, 8, 9, 10, 11, 12, 13, 14, 15, 16, 17, 18, 19, 20, 21, 22, 23, 24, 25, 26, 27, 28, 29, 30, 31, 32, 33, 34, 35, 36, 37, 38, 39, 40, 41, 42, 43, 44, 45] rfl
                                    have hD : va_D (fun q : Nat => s.heap.size ≤ q) ((w_NC cA ad_992 (f_NC_reply S).2) ++ (w_M cA cZ a rv_994 (f_M_reply X).2)) := hD.sub [0, 1, 2, 3, 4, 5, 6, 7, 8, 9, 10, 11, 12, 13, 14, 15, 16, 17, 18, 19, 20, 21, 22, 23, 24, 25, 26, 27, 28, 29, 30, 31, 32, 33, 34, 35, 36, 37, 38, 39, 40, 41, 42, 43, 44, 45] (by decide) rfl
                                    refine lv_icmp_eq (tgt := 663) hx hb d_law_556 (by decide) (fun c_995 => ?_) (fun c_995 => ?_)
                                    · refine lv_iinc (v := (z3 + 5)) (lv' := [(3, .int (z3 + 5)), (0, .ref b), (1, .ref (ad 0 0)), (2, .ref (a 0))]) hx hb d_law_663 hl (k := 3) rfl rfl (by decide) rfl (fun ls hl => ?_)
                                      refine lv_goto (tgt := 18) hx hb d_law_666 (by decide) ?_
                                      exact ih (i + 5) (z3 + 5) ad_992 rv_994 (f_NC_reply S).2 (f_M_reply X).2 H locs ls (by omega) (by omega) (lw_z5 ez) (r_reply S X hrel).2 hP hD hS (by rw [hroot_ad_992]; exact lv_sub hl [1, 2, 3, 0] rfl)
                                    · exact absurd (r_reply S X hrel).1 c_995
                                  · by_cases c_996 : ((xs z3.toNatClampNeg) &&& 31) = 15
                                    · refine lv_tableIn (tgt := 561) (off := 529) hx hb d_law_32 (by rw [c_996]; decide) (by rw [c_996]; decide) (by rw [c_996]; decide) (by decide) ?_
                                      refine lv_aload_n hx hb d_law_561 rfl (lv_at hl 1 rfl) ?_
                                      refine lv_aload_n hx hb d_law_562 rfl (lv_at hl 0 rfl) ?_
                                      refine lv_iload_n hx hb d_law_563 rfl (lv_at hl 3 rfl) ?_
                                      refine lv_iconst (v := 1) hx hb d_law_564 (by decide) ?_
                                      refine lv_iadd hx hb d_law_565 ?_
                                      refine va_sld hx hb hX hbl hbA hS (lw_in1 hL hi ez) d_law_566 ?_
                                      have hP_w_997 := hP.sub (ws' := (w_NC cA ad S)) [0, 1, 2, 3, 4, 5, 6, 7, 8, 9, 10, 11, 12, 13, 14, 15, 16, 17, 18, 19, 20, 21, 22, 23, 24, 25, 26, 27, 28, 29, 30] rfl
                                      have hD_w_997 := hD.sub (ws' := (w_NC cA ad S)) [0, 1, 2, 3, 4, 5, 6, 7, 8, 9, 10, 11, 12, 13, 14, 15, 16, 17, 18, 19, 20, 21, 22, 23, 24, 25, 26, 27, 28, 29, 30] (by decide) rfl
                                      refine nc_ro (va_runV (As := [.int (xs (z3 + 1).toNatClampNeg)]) (rest := []) hfix (c_NC_chosen l dC dI cA ad S (xs (z3 + 1).toNatClampNeg)) (k_law_78 hts hN ⟨Nat.le_of_ble_eq_true rfl, Nat.le_of_ble_eq_true rfl⟩) (nc_preV hK1 hN hP_w_997 hD_w_997 rfl rfl) rfl rfl hl.1 rfl (lv_room (Nat.le_of_ble_eq_true rfl)) d_law_567 ⟨Nat.le_of_ble_eq_true rfl, Nat.le_of_ble_eq_true rfl⟩) (fun r er => ?_)
                                      subst er
                                      refine lv_aload_n hx hb d_law_570 rfl (lv_at hl 2 rfl) ?_
                                      refine lv_aload_n hx hb d_law_571 rfl (lv_at hl 0 rfl) ?_
                                      refine lv_iload_n hx hb d_law_572 rfl (lv_at hl 3 rfl) ?_
                                      refine lv_iconst (v := 1) hx hb d_law_573 (by decide) ?_
                                      refine lv_iadd hx hb d_law_574 ?_
                                      refine va_sld hx hb hX hbl hbA hS (lw_in1 hL hi ez) d_law_575 ?_
                                      have hP_w_998 := hP.sub (ws' := (w_M cA cZ a rv X)) [31, 32, 33, 34, 35, 36, 37, 38, 39, 40, 41, 42, 43, 44, 45] rfl
                                      have hD_w_998 := hD.sub (ws' := (w_M cA cZ a rv X)) [31, 32, 33, 34, 35, 36, 37, 38, 39, 40, 41, 42, 43, 44, 45] (by decide) rfl
                                      have hFc := va_free (wc := (w_M cA cZ a rv X)) hD hS hA [31, 32, 33, 34, 35, 36, 37, 38, 39, 40, 41, 42, 43, 44, 45] rfl
                                      refine nc_mui (va_runV (As := [.int (xs (z3 + 1).toNatClampNeg)]) (rest := [.int (f_NC_chosen S (xs (z3 + 1).toNatClampNeg))]) hfix (c_M_chosen l dC dI cA cZ H.size a rv X (xs (z3 + 1).toNatClampNeg) (p_c S X hrel)) (k_law_81 hts hN ⟨Nat.le_of_ble_eq_true rfl, Nat.le_of_ble_eq_true rfl⟩) (nc_preVZM hK hN hP_w_998 hD_w_998 rfl rfl) rfl rfl hl.1 rfl (lv_room (Nat.le_of_ble_eq_true rfl)) d_law_576 ⟨Nat.le_of_ble_eq_true rfl, Nat.le_of_ble_eq_true rfl⟩) hS hFc (fun r H locs er hP1 hD1 hk1 hS => ?_)
                                      subst er
                                      obtain ⟨hP, hD⟩ := va_join (wr := (w_NC cA ad S)) (w1 := (w_M cA cZ a rv (f_M_chosen X (xs (z3 + 1).toNatClampNeg)).2)) hP hD [31, 32, 33, 34, 35, 36, 37, 38, 39, 40, 41, 42, 43, 44, 45] [0, 1, 2, 3, 4, 5, 6, 7, 8, 9, 10, 11, 12, 13, 14, 15, 16, 17, 18, 19, 20, 21, 22, 23, 24, 25, 26, 27, 28, 29, 30] rfl rfl (by decide) (by decide) hk1 hFc hP1 hD1
                                      have hP : va_P (dC, dI) classes ((w_NC cA ad S) ++ (w_M cA cZ a rv (f_M_chosen X (xs (z3 + 1).toNatClampNeg)).2)) H := hP.sub [0, 1, 2, 3, 4, 5, 6, 7, 8, 9, 10, 11, 12, 13, 14, 15, 16, 17, 18, 19, 20, 21, 22, 23, 24, 25, 26, 27, 28, 29, 30, 31, 32, 33, 34, 35, 36, 37, 38, 39, 40, 41, 42, 43, 44, 45] rfl
                                      have hD : va_D (fun q : Nat => s.heap.size ≤ q) ((w_NC cA ad S) ++ (w_M cA cZ a rv (f_M_chosen X (xs (z3 + 1).toNatClampNeg)).2)) := hD.sub [0, 1, 2, 3, 4, 5, 6, 7, 8, 9, 10, 11, 12, 13, 14, 15, 16, 17, 18, 19, 20, 21, 22, 23, 24, 25, 26, 27, 28, 29, 30, 31, 32, 33, 34, 35, 36, 37, 38, 39, 40, 41, 42, 43, 44, 45] (by decide) rfl
                                      refine lv_icmp_eq (tgt := 663) hx hb d_law_579 (by decide) (fun c_999 => ?_) (fun c_999 => ?_)
                                      · refine lv_iinc (v := (z3 + 5)) (lv' := [(3, .int (z3 + 5)), (0, .ref b), (1, .ref (ad 0 0)), (2, .ref (a 0))]) hx hb d_law_663 hl (k := 3) rfl rfl (by decide) rfl (fun ls hl => ?_)
                                        refine lv_goto (tgt := 18) hx hb d_law_666 (by decide) ?_
                                        exact ih (i + 5) (z3 + 5) ad rv S (f_M_chosen X (xs (z3 + 1).toNatClampNeg)).2 H locs ls (by omega) (by omega) (lw_z5 ez) (r_chosen S X (xs (z3 + 1).toNatClampNeg) hrel).2 hP hD hS (lv_sub hl [1, 2, 3, 0] rfl)
                                      · exact absurd (r_chosen S X (xs (z3 + 1).toNatClampNeg) hrel).1 c_999
                                    · by_cases c_1000 : ((xs z3.toNatClampNeg) &&& 31) = 16
                                      · refine lv_tableIn (tgt := 584) (off := 552) hx hb d_law_32 (by rw [c_1000]; decide) (by rw [c_1000]; decide) (by rw [c_1000]; decide) (by decide) ?_
                                        refine lv_aload_n hx hb d_law_584 rfl (lv_at hl 1 rfl) ?_
                                        refine lv_aload_n hx hb d_law_585 rfl (lv_at hl 0 rfl) ?_
                                        refine lv_iload_n hx hb d_law_586 rfl (lv_at hl 3 rfl) ?_
                                        refine lv_iconst (v := 1) hx hb d_law_587 (by decide) ?_
                                        refine lv_iadd hx hb d_law_588 ?_
                                        refine va_sld hx hb hX hbl hbA hS (lw_in1 hL hi ez) d_law_589 ?_
                                        refine lv_aload_n hx hb d_law_590 rfl (lv_at hl 0 rfl) ?_
                                        refine lv_iload_n hx hb d_law_591 rfl (lv_at hl 3 rfl) ?_
                                        refine lv_iconst (v := 2) hx hb d_law_592 (by decide) ?_
                                        refine lv_iadd hx hb d_law_593 ?_
                                        refine va_sld hx hb hX hbl hbA hS (lw_in2 hL hi ez) d_law_594 ?_
                                        have hP_w_1001 := hP.sub (ws' := (w_NC cA ad S)) [0, 1, 2, 3, 4, 5, 6, 7, 8, 9, 10, 11, 12, 13, 14, 15, 16, 17, 18, 19, 20, 21, 22, 23, 24, 25, 26, 27, 28, 29, 30] rfl
                                        have hD_w_1001 := hD.sub (ws' := (w_NC cA ad S)) [0, 1, 2, 3, 4, 5, 6, 7, 8, 9, 10, 11, 12, 13, 14, 15, 16, 17, 18, 19, 20, 21, 22, 23, 24, 25, 26, 27, 28, 29, 30] (by decide) rfl
                                        refine nc_ro (va_runV (As := [.int (xs (z3 + 1).toNatClampNeg), .int (xs (z3 + 2).toNatClampNeg)]) (rest := []) hfix (c_NC_asked l dC dI cA ad S (xs (z3 + 1).toNatClampNeg) (xs (z3 + 2).toNatClampNeg)) (k_law_82 hts hN ⟨Nat.le_of_ble_eq_true rfl, Nat.le_of_ble_eq_true rfl⟩) (nc_preV hK1 hN hP_w_1001 hD_w_1001 rfl rfl) rfl rfl hl.1 rfl (lv_room (Nat.le_of_ble_eq_true rfl)) d_law_595 ⟨Nat.le_of_ble_eq_true rfl, Nat.le_of_ble_eq_true rfl⟩) (fun r er => ?_)
                                        subst er
                                        refine lv_aload_n hx hb d_law_598 rfl (lv_at hl 2 rfl) ?_
                                        refine lv_aload_n hx hb d_law_599 rfl (lv_at hl 0 rfl) ?_
                                        refine lv_iload_n hx hb d_law_600 rfl (lv_at hl 3 rfl) ?_
                                        refine lv_iconst (v := 1) hx hb d_law_601 (by decide) ?_
                                        refine lv_iadd hx hb d_law_602 ?_
                                        refine va_sld hx hb hX hbl hbA hS (lw_in1 hL hi ez) d_law_603 ?_
                                        refine lv_aload_n hx hb d_law_604 rfl (lv_at hl 0 rfl) ?_
                                        refine lv_iload_n hx hb d_law_605 rfl (lv_at hl 3 rfl) ?_
                                        refine lv_iconst (v := 2) hx hb d_law_606 (by decide) ?_
                                        refine lv_iadd hx hb d_law_607 ?_
                                        refine va_sld hx hb hX hbl hbA hS (lw_in2 hL hi ez) d_law_608 ?_
                                        have hP_w_1002 := hP.sub (ws' := (w_M cA cZ a rv X)) [31, 32, 33, 34, 35, 36, 37, 38, 39, 40, 41, 42, 43, 44, 45] rfl
                                        have hD_w_1002 := hD.sub (ws' := (w_M cA cZ a rv X)) [31, 32, 33, 34, 35, 36, 37, 38, 39, 40, 41, 42, 43, 44, 45] (by decide) rfl
                                        have hFc := va_free (wc := (w_M cA cZ a rv X)) hD hS hA [31, 32, 33, 34, 35, 36, 37, 38, 39, 40, 41, 42, 43, 44, 45] rfl
                                        refine nc_mui (va_runV (As := [.int (xs (z3 + 1).toNatClampNeg), .int (xs (z3 + 2).toNatClampNeg)]) (rest := [.int (f_NC_asked S (xs (z3 + 1).toNatClampNeg) (xs (z3 + 2).toNatClampNeg))]) hfix (c_M_asked l dC dI cA cZ H.size a rv X (xs (z3 + 1).toNatClampNeg) (xs (z3 + 2).toNatClampNeg) (p_t S X hrel)) (k_law_85 hts hN ⟨Nat.le_of_ble_eq_true rfl, Nat.le_of_ble_eq_true rfl⟩) (nc_preVZM hK hN hP_w_1002 hD_w_1002 rfl rfl) rfl rfl hl.1 rfl (lv_room (Nat.le_of_ble_eq_true rfl)) d_law_609 ⟨Nat.le_of_ble_eq_true rfl, Nat.le_of_ble_eq_true rfl⟩) hS hFc (fun r H locs er hP1 hD1 hk1 hS => ?_)
                                        subst er
                                        obtain ⟨hP, hD⟩ := va_join (wr := (w_NC cA ad S)) (w1 := (w_M cA cZ a rv (f_M_asked X (xs (z3 + 1).toNatClampNeg) (xs (z3 + 2).toNatClampNeg)).2)) hP hD [31, 32, 33, 34, 35, 36, 37, 38, 39, 40, 41, 42, 43, 44, 45] [0, 1, 2, 3, 4, 5, 6, 7, 8, 9, 10, 11, 12, 13, 14, 15, 16, 17, 18, 19, 20, 21, 22, 23, 24, 25, 26, 27, 28, 29, 30] rfl rfl (by decide) (by decide) hk1 hFc hP1 hD1
                                        have hP : va_P (dC, dI) classes ((w_NC cA ad S) ++ (w_M cA cZ a rv (f_M_asked X (xs (z3 + 1).toNatClampNeg) (xs (z3 + 2).toNatClampNeg)).2)) H := hP.sub [0, 1, 2, 3, 4, 5, 6, 7, 8, 9, 10, 11, 12, 13, 14, 15, 16, 17, 18, 19, 20, 21, 22, 23, 24, 25, 26, 27, 28, 29, 30, 31, 32, 33, 34, 35, 36, 37, 38, 39, 40, 41, 42, 43, 44, 45] rfl
                                        have hD : va_D (fun q : Nat => s.heap.size ≤ q) ((w_NC cA ad S) ++ (w_M cA cZ a rv (f_M_asked X (xs (z3 + 1).toNatClampNeg) (xs (z3 + 2).toNatClampNeg)).2)) := hD.sub [0, 1, 2, 3, 4, 5, 6, 7, 8, 9, 10, 11, 12, 13, 14, 15, 16, 17, 18, 19, 20, 21, 22, 23, 24, 25, 26, 27, 28, 29, 30, 31, 32, 33, 34, 35, 36, 37, 38, 39, 40, 41, 42, 43, 44, 45] (by decide) rfl
                                        refine lv_icmp_eq (tgt := 663) hx hb d_law_612 (by decide) (fun c_1003 => ?_) (fun c_1003 => ?_)
                                        · refine lv_iinc (v := (z3 + 5)) (lv' := [(3, .int (z3 + 5)), (0, .ref b), (1, .ref (ad 0 0)), (2, .ref (a 0))]) hx hb d_law_663 hl (k := 3) rfl rfl (by decide) rfl (fun ls hl => ?_)
                                          refine lv_goto (tgt := 18) hx hb d_law_666 (by decide) ?_
                                          exact ih (i + 5) (z3 + 5) ad rv S (f_M_asked X (xs (z3 + 1).toNatClampNeg) (xs (z3 + 2).toNatClampNeg)).2 H locs ls (by omega) (by omega) (lw_z5 ez) (r_asked S X (xs (z3 + 1).toNatClampNeg) (xs (z3 + 2).toNatClampNeg) hrel).2 hP hD hS (lv_sub hl [1, 2, 3, 0] rfl)
                                        · exact absurd (r_asked S X (xs (z3 + 1).toNatClampNeg) (xs (z3 + 2).toNatClampNeg) hrel).1 c_1003
                                      · by_cases c_1004 : ((xs z3.toNatClampNeg) &&& 31) = 17
                                        · refine lv_tableIn (tgt := 617) (off := 585) hx hb d_law_32 (by rw [c_1004]; decide) (by rw [c_1004]; decide) (by rw [c_1004]; decide) (by decide) ?_
                                          refine lv_aload_n hx hb d_law_617 rfl (lv_at hl 1 rfl) ?_
                                          refine lv_aload_n hx hb d_law_618 rfl (lv_at hl 0 rfl) ?_
                                          refine lv_iload_n hx hb d_law_619 rfl (lv_at hl 3 rfl) ?_
                                          refine lv_iconst (v := 1) hx hb d_law_620 (by decide) ?_
                                          refine lv_iadd hx hb d_law_621 ?_
                                          refine va_sld hx hb hX hbl hbA hS (lw_in1 hL hi ez) d_law_622 ?_
                                          have hP_w_1005 := hP.sub (ws' := (w_NC cA ad S)) [0, 1, 2, 3, 4, 5, 6, 7, 8, 9, 10, 11, 12, 13, 14, 15, 16, 17, 18, 19, 20, 21, 22, 23, 24, 25, 26, 27, 28, 29, 30] rfl
                                          have hD_w_1005 := hD.sub (ws' := (w_NC cA ad S)) [0, 1, 2, 3, 4, 5, 6, 7, 8, 9, 10, 11, 12, 13, 14, 15, 16, 17, 18, 19, 20, 21, 22, 23, 24, 25, 26, 27, 28, 29, 30] (by decide) rfl
                                          refine nc_ro (va_runV (As := [.int (xs (z3 + 1).toNatClampNeg)]) (rest := []) hfix (c_NC_told l dC dI cA ad S (xs (z3 + 1).toNatClampNeg)) (k_law_86 hts hN ⟨Nat.le_of_ble_eq_true rfl, Nat.le_of_ble_eq_true rfl⟩) (nc_preV hK1 hN hP_w_1005 hD_w_1005 rfl rfl) rfl rfl hl.1 rfl (lv_room (Nat.le_of_ble_eq_true rfl)) d_law_623 ⟨Nat.le_of_ble_eq_true rfl, Nat.le_of_ble_eq_true rfl⟩) (fun r er => ?_)
                                          subst er
                                          refine lv_aload_n hx hb d_law_626 rfl (lv_at hl 2 rfl) ?_
                                          refine lv_aload_n hx hb d_law_627 rfl (lv_at hl 0 rfl) ?_
                                          refine lv_iload_n hx hb d_law_628 rfl (lv_at hl 3 rfl) ?_
                                          refine lv_iconst (v := 1) hx hb d_law_629 (by decide) ?_
                                          refine lv_iadd hx hb d_law_630 ?_
                                          refine va_sld hx hb hX hbl hbA hS (lw_in1 hL hi ez) d_law_631 ?_
                                          have hP_w_1006 := hP.sub (ws' := (w_M cA cZ a rv X)) [31, 32, 33, 34, 35, 36, 37, 38, 39, 40, 41, 42, 43, 44, 45] rfl
                                          have hD_w_1006 := hD.sub (ws' := (w_M cA cZ a rv X)) [31, 32, 33, 34, 35, 36, 37, 38, 39, 40, 41, 42, 43, 44, 45] (by decide) rfl
                                          have hFc := va_free (wc := (w_M cA cZ a rv X)) hD hS hA [31, 32, 33, 34, 35, 36, 37, 38, 39, 40, 41, 42, 43, 44, 45] rfl
                                          refine nc_mui (va_runV (As := [.int (xs (z3 + 1).toNatClampNeg)]) (rest := [.int (f_NC_told S (xs (z3 + 1).toNatClampNeg))]) hfix (c_M_told l dC dI cA cZ H.size a rv X (xs (z3 + 1).toNatClampNeg)) (k_law_89 hts hN ⟨Nat.le_of_ble_eq_true rfl, Nat.le_of_ble_eq_true rfl⟩) (nc_preVZM hK hN hP_w_1006 hD_w_1006 rfl rfl) rfl rfl hl.1 rfl (lv_room (Nat.le_of_ble_eq_true rfl)) d_law_632 ⟨Nat.le_of_ble_eq_true rfl, Nat.le_of_ble_eq_true rfl⟩) hS hFc (fun r H locs er hP1 hD1 hk1 hS => ?_)
                                          subst er
                                          obtain ⟨hP, hD⟩ := va_join (wr := (w_NC cA ad S)) (w1 := (w_M cA cZ a rv (f_M_told X (xs (z3 + 1).toNatClampNeg)).2)) hP hD [31, 32, 33, 34, 35, 36, 37, 38, 39, 40, 41, 42, 43, 44, 45] [0, 1, 2, 3, 4, 5, 6, 7, 8, 9, 10, 11, 12, 13, 14, 15, 16, 17, 18, 19, 20, 21, 22, 23, 24, 25, 26, 27, 28, 29, 30] rfl rfl (by decide) (by decide) hk1 hFc hP1 hD1
                                          have hP : va_P (dC, dI) classes ((w_NC cA ad S) ++ (w_M cA cZ a rv (f_M_told X (xs (z3 + 1).toNatClampNeg)).2)) H := hP.sub [0, 1, 2, 3, 4, 5, 6, 7, 8, 9, 10, 11, 12, 13, 14, 15, 16, 17, 18, 19, 20, 21, 22, 23, 24, 25, 26, 27, 28, 29, 30, 31, 32, 33, 34, 35, 36, 37, 38, 39, 40, 41, 42, 43, 44, 45] rfl
                                          have hD : va_D (fun q : Nat => s.heap.size ≤ q) ((w_NC cA ad S) ++ (w_M cA cZ a rv (f_M_told X (xs (z3 + 1).toNatClampNeg)).2)) := hD.sub [0, 1, 2, 3, 4, 5, 6, 7, 8, 9, 10, 11, 12, 13, 14, 15, 16, 17, 18, 19, 20, 21, 22, 23, 24, 25, 26, 27, 28, 29, 30, 31, 32, 33, 34, 35, 36, 37, 38, 39, 40, 41, 42, 43, 44, 45] (by decide) rfl
                                          refine lv_icmp_eq (tgt := 663) hx hb d_law_635 (by decide) (fun c_1007 => ?_) (fun c_1007 => ?_)
                                          · refine lv_iinc (v := (z3 + 5)) (lv' := [(3, .int (z3 + 5)), (0, .ref b), (1, .ref (ad 0 0)), (2, .ref (a 0))]) hx hb d_law_663 hl (k := 3) rfl rfl (by decide) rfl (fun ls hl => ?_)
                                            refine lv_goto (tgt := 18) hx hb d_law_666 (by decide) ?_
                                            exact ih (i + 5) (z3 + 5) ad rv S (f_M_told X (xs (z3 + 1).toNatClampNeg)).2 H locs ls (by omega) (by omega) (lw_z5 ez) (r_told S X (xs (z3 + 1).toNatClampNeg) hrel).2 hP hD hS (lv_sub hl [1, 2, 3, 0] rfl)
                                          · exact absurd (r_told S X (xs (z3 + 1).toNatClampNeg) hrel).1 c_1007
                                        · by_cases c_1008 : ((xs z3.toNatClampNeg) &&& 31) = 18
                                          · refine lv_tableIn (tgt := 640) (off := 608) hx hb d_law_32 (by rw [c_1008]; decide) (by rw [c_1008]; decide) (by rw [c_1008]; decide) (by decide) ?_
                                            refine lv_aload_n hx hb d_law_640 rfl (lv_at hl 1 rfl) ?_
                                            refine lv_aload_n hx hb d_law_641 rfl (lv_at hl 0 rfl) ?_
                                            refine lv_iload_n hx hb d_law_642 rfl (lv_at hl 3 rfl) ?_
                                            refine lv_iconst (v := 1) hx hb d_law_643 (by decide) ?_
                                            refine lv_iadd hx hb d_law_644 ?_
                                            refine va_sld hx hb hX hbl hbA hS (lw_in1 hL hi ez) d_law_645 ?_
                                            have hP_w_1009 := hP.sub (ws' := (w_NC cA ad S)) [0, 1, 2, 3, 4, 5, 6, 7, 8, 9, 10, 11, 12, 13, 14, 15, 16, 17, 18, 19, 20, 21, 22, 23, 24, 25, 26, 27, 28, 29, 30] rfl
                                            have hD_w_1009 := hD.sub (ws' := (w_NC cA ad S)) [0, 1, 2, 3, 4, 5, 6, 7, 8, 9, 10, 11, 12, 13, 14, 15, 16, 17, 18, 19, 20, 21, 22, 23, 24, 25, 26, 27, 28, 29, 30] (by decide) rfl
                                            refine nc_ro (va_runV (As := [.int (xs (z3 + 1).toNatClampNeg)]) (rest := []) hfix (c_NC_count l dC dI cA ad S (xs (z3 + 1).toNatClampNeg)) (k_law_90 hts hN ⟨Nat.le_of_ble_eq_true rfl, Nat.le_of_ble_eq_true rfl⟩) (nc_preV hK1 hN hP_w_1009 hD_w_1009 rfl rfl) rfl rfl hl.1 rfl (lv_room (Nat.le_of_ble_eq_true rfl)) d_law_646 ⟨Nat.le_of_ble_eq_true rfl, Nat.le_of_ble_eq_true rfl⟩) (fun r er => ?_)
                                            subst er
                                            refine lv_aload_n hx hb d_law_649 rfl (lv_at hl 2 rfl) ?_
                                            refine lv_aload_n hx hb d_law_650 rfl (lv_at hl 0 rfl) ?_
                                            refine lv_iload_n hx hb d_law_651 rfl (lv_at hl 3 rfl) ?_
                                            refine lv_iconst (v := 1) hx hb d_law_652 (by decide) ?_
                                            refine lv_iadd hx hb d_law_653 ?_
                                            refine va_sld hx hb hX hbl hbA hS (lw_in1 hL hi ez) d_law_654 ?_
                                            have hP_w_1010 := hP.sub (ws' := (w_M cA cZ a rv X)) [31, 32, 33, 34, 35, 36, 37, 38, 39, 40, 41, 42, 43, 44, 45] rfl
                                            have hD_w_1010 := hD.sub (ws' := (w_M cA cZ a rv X)) [31, 32, 33, 34, 35, 36, 37, 38, 39, 40, 41, 42, 43, 44, 45] (by decide) rfl
                                            have hFc := va_free (wc := (w_M cA cZ a rv X)) hD hS hA [31, 32, 33, 34, 35, 36, 37, 38, 39, 40, 41, 42, 43, 44, 45] rfl
                                            refine nc_mui (va_runV (As := [.int (xs (z3 + 1).toNatClampNeg)]) (rest := [.int (f_NC_count S (xs (z3 + 1).toNatClampNeg))]) hfix (c_M_count l dC dI cA cZ H.size a rv X (xs (z3 + 1).toNatClampNeg) (p_t S X hrel)) (k_law_93 hts hN ⟨Nat.le_of_ble_eq_true rfl, Nat.le_of_ble_eq_true rfl⟩) (nc_preVZM hK hN hP_w_1010 hD_w_1010 rfl rfl) rfl rfl hl.1 rfl (lv_room (Nat.le_of_ble_eq_true rfl)) d_law_655 ⟨Nat.le_of_ble_eq_true rfl, Nat.le_of_ble_eq_true rfl⟩) hS hFc (fun r H locs er hP1 hD1 hk1 hS => ?_)
                                            subst er
                                            obtain ⟨hP, hD⟩ := va_join (wr := (w_NC cA ad S)) (w1 := (w_M cA cZ a rv (f_M_count X (xs (z3 + 1).toNatClampNeg)).2)) hP hD [31, 32, 33, 34, 35, 36, 37, 38, 39, 40, 41, 42, 43, 44, 45] [0, 1, 2, 3, 4, 5, 6, 7, 8, 9, 10, 11, 12, 13, 14, 15, 16, 17, 18, 19, 20, 21, 22, 23, 24, 25, 26, 27, 28, 29, 30] rfl rfl (by decide) (by decide) hk1 hFc hP1 hD1
                                            have hP : va_P (dC, dI) classes ((w_NC cA ad S) ++ (w_M cA cZ a rv (f_M_count X (xs (z3 + 1).toNatClampNeg)).2)) H := hP.sub [0, 1, 2, 3, 4, 5, 6, 7, 8, 9, 10, 11, 12, 13, 14, 15, 16, 17, 18, 19, 20, 21, 22, 23, 24, 25, 26, 27, 28, 29, 30, 31, 32, 33, 34, 35, 36, 37, 38, 39, 40, 41, 42, 43, 44, 45] rfl
                                            have hD : va_D (fun q : Nat => s.heap.size ≤ q) ((w_NC cA ad S) ++ (w_M cA cZ a rv (f_M_count X (xs (z3 + 1).toNatClampNeg)).2)) := hD.sub [0, 1, 2, 3, 4, 5, 6, 7, 8, 9, 10, 11, 12, 13, 14, 15, 16, 17, 18, 19, 20, 21, 22, 23, 24, 25, 26, 27, 28, 29, 30, 31, 32, 33, 34, 35, 36, 37, 38, 39, 40, 41, 42, 43, 44, 45] (by decide) rfl
                                            refine lv_icmp_eq (tgt := 663) hx hb d_law_658 (by decide) (fun c_1011 => ?_) (fun c_1011 => ?_)
                                            · refine lv_iinc (v := (z3 + 5)) (lv' := [(3, .int (z3 + 5)), (0, .ref b), (1, .ref (ad 0 0)), (2, .ref (a 0))]) hx hb d_law_663 hl (k := 3) rfl rfl (by decide) rfl (fun ls hl => ?_)
                                              refine lv_goto (tgt := 18) hx hb d_law_666 (by decide) ?_
                                              exact ih (i + 5) (z3 + 5) ad rv S (f_M_count X (xs (z3 + 1).toNatClampNeg)).2 H locs ls (by omega) (by omega) (lw_z5 ez) (r_count S X (xs (z3 + 1).toNatClampNeg) hrel).2 hP hD hS (lv_sub hl [1, 2, 3, 0] rfl)
                                            · exact absurd (r_count S X (xs (z3 + 1).toNatClampNeg) hrel).1 c_1011
                                          · refine lv_tableOut (tgt := 663) hx hb d_law_32 (by have q0 := lv_neT c_911 L_0; have q1 := lv_neT c_915 L_1; have q2 := lv_neT c_939 L_2; have q3 := lv_neT c_943 L_3; have q4 := lv_neT c_947 L_4; have q5 := lv_neT c_951 L_5; have q6 := lv_neT c_955 L_6; have q7 := lv_neT c_959 L_7; have q8 := lv_neT c_963 L_8; have q9 := lv_neT c_967 L_9; have q10 := lv_neT c_971 L_10; have q11 := lv_neT c_975 L_11; have q12 := lv_neT c_979 L_12; have q13 := lv_neT c_984 L_13; have q14 := lv_neT c_990 L_14; have q15 := lv_neT c_996 L_15; have q16 := lv_neT c_1000 L_16; have q17 := lv_neT c_1004 L_17; have q18 := lv_neT c_1008 L_18; omega) (by decide) ?_
                                            refine lv_iinc (v := (z3 + 5)) (lv' := [(3, .int (z3 + 5)), (0, .ref b), (1, .ref ((ad 0) 0)), (2, .ref (a 0))]) hx hb d_law_663 hl (k := 3) rfl rfl (by decide) rfl (fun ls hl => ?_)
                                            refine lv_goto (tgt := 18) hx hb d_law_666 (by decide) ?_
                                            exact ih (i + 5) (z3 + 5) ad rv S X H locs ls (by omega) (by omega) (lw_z5 ez) hrel hP hD hS (lv_sub hl [1, 2, 3, 0] rfl)
