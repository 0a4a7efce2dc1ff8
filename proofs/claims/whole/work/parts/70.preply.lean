/-! ===== reply ===== -/
def Bse (X X' : Nat → Nat → Int32) : Prop := (∀ k, (0 < k ∧ k < 11) ∨ (23 < k ∧ k < 38 ∧ ¬ k = 34) → X' k = X k) ∧ X' 11 0 = 0
theorem fin_N {S S' : Nat → Nat → Nat → Int32} {X X' : Nat → Nat → Int32} (h : Rel S X) (g1 : S' 1 = S 1) (g2 : S' 2 = S 2) (g01 : S' 0 1 = S 0 1) (g02 : S' 0 2 0 = 0) (g03 : S' 0 3 = S 0 3) (g4 : S' 4 = S 4) (g10 : S' 0 10 = S 0 10) (g11 : S' 0 11 = S 0 11) (f : ∀ k, (0 < k ∧ k < 11) ∨ (23 < k ∧ k < 27) ∨ (28 < k ∧ k < 34) → X' k = X k) (f11 : X' 11 0 = 0) (hL : RLeft (S' 0) X') : RelN S' X' := by
  obtain ⟨h21, h22, h23, hok⟩ := h.2.1
  refine ⟨?_, ?_, ?_, ?_, ?_, hL, ?_⟩
  · rw [g1]
    exact RT_fr h.1 (fun k a b => f k (by omega))
  · unfold RRow
    rw [g01, g02, f 10 (by omega), f11]
    exact ⟨h21, rfl, ⟨by decide, by decide⟩, hok⟩
  · rw [g03, f 9 (by omega)]
    exact h.2.2.1
  · exact RLat_of h.2.2.2.1 g4 (f 31 (by omega)) (f 32 (by omega)) (f 33 (by omega))
  · unfold RAsk
    rw [g10, g11, f 29 (by omega), f 30 (by omega)]
    exact h.2.2.2.2.1
  · unfold RPhr
    rw [g2, f 24 (by omega), f 25 (by omega), f 26 (by omega)]
    exact h.2.2.2.2.2.2.2
theorem tell_ne {X : Nat → Nat → Int32} {x1 x2 x3 : Int32} {j : Nat} (a1 : ¬ j = 35) (a2 : ¬ j = 36) (a3 : ¬ j = 37) : (f_M_tell X x1 x2 x3) j = X j := by
  show (upf (upf (upf X 35 _) 36 _) 37 _) j = X j
  rw [upf_ne (nb a3), upf_ne (nb a2), upf_ne (nb a1)]
theorem fin_tell {S : Nat → Nat → Nat → Int32} {X X' : Nat → Nat → Int32} (h : Rel S X) (ha : AskN X) (hB : Bse X X') (v1 v2 v3 : Int32) : Rel (f_NC_tell (upr S 0 (upf (S 0) 2 (fun _ => 0))) v1 v2 v3) (f_M_tell X' v1 v2 v3) ∧ AskN (f_M_tell X' v1 v2 v3) := by
  have f : ∀ k, (0 < k ∧ k < 11) ∨ (23 < k ∧ k < 34) → (f_M_tell X' v1 v2 v3) k = X k := fun k hk => (tell_ne (by omega) (by omega) (by omega)).trans (hB.1 k (by omega))
  have f11 : (f_M_tell X' v1 v2 v3) 11 0 = 0 := by
    rw [tell_ne (by omega) (by omega) (by omega)]
    exact hB.2
  constructor
  · refine Rel_N (fin_N h rfl rfl rfl rfl rfl rfl rfl rfl (fun k hk => f k (by omega)) f11 ?_) ⟨rfl, rfl, rfl⟩
    intro k hk
    rw [f 28 (by omega), f 27 (by omega)]
    exact h.2.2.2.2.2.1 k hk
  · unfold AskN
    rw [f 29 (by omega), f 1 (by omega)]
    exact ha
theorem fin_go {S : Nat → Nat → Nat → Int32} {X X' : Nat → Nat → Int32} (h : Rel S X) (hB : Bse X X') {p : Nat} (hp : p < 30) (left : Int32) : (f_NC_goThrough (upr S 0 (upf (upf (S 0) 2 (fun _ => 0)) 6 (upd ((S 0) 6) p left)))).1 = (f_M_go (upf (upf X' 27 (upd (X' 27) p left)) 28 (upd (X' 28) p 1))).1 ∧ Rel (f_NC_goThrough (upr S 0 (upf (upf (S 0) 2 (fun _ => 0)) 6 (upd ((S 0) 6) p left)))).2 (f_M_go (upf (upf X' 27 (upd (X' 27) p left)) 28 (upd (X' 28) p 1))).2 ∧ AskN (f_M_go (upf (upf X' 27 (upd (X' 27) p left)) 28 (upd (X' 28) p 1))).2 := by
  apply go_res
  refine fin_N h rfl rfl rfl rfl rfl rfl rfl rfl (fun k hk => ?_) hB.2 ?_
  · rw [upf_ne (nb (by omega)), upf_ne (nb (by omega))]
    exact hB.1 k (by omega)
  · intro k hk
    show upd ((S 0) 6) p left k = if upd (X' 28) p 1 k = 0 then -1 else upd (X' 27) p left k
    by_cases e : k = p
    · rw [e, pk_us, pk_us, pk_us, if_neg one0]
    · rw [pk_un e, pk_un e, pk_un e, hB.1 28 (by omega), hB.1 27 (by omega)]
      exact h.2.2.2.2.2.1 k hk
def rpl1 (X : Nat → Nat → Int32) : Nat → Nat → Int32 := upf (f_M_beginR (upf X 0 (fun _ => 0)) (X 11 0)) 11 (fun _ => 0)
def rpg (G : Int32 × (Nat → Nat → Int32)) : Int32 × (Nat → Nat → Int32) := if G.2 15 0 = 0 then (if G.2 13 0 ≤ (G.2 14 0) + 1 then (if G.1 = 0 then ((-18), (f_M_tell (upf G.2 14 (fun _ => ((G.2 14 0) + 1))) (G.2 30 0) (-1) (-1))) else f_M_go (upf (upf (upf G.2 14 (fun _ => ((G.2 14 0) + 1))) 27 (upd (G.2 27) ((G.2 30 0) : Int32).toNatClampNeg G.1)) 28 (upd (G.2 28) ((G.2 30 0) : Int32).toNatClampNeg (vp_nar .boolean 1)))) else ((-11), (f_M_tell (upf G.2 14 (fun _ => ((G.2 14 0) + 1))) (-1) ((G.2 14 0) + 1) (-1)))) else ((-11), (f_M_tell (upf G.2 14 (fun _ => ((G.2 14 0) + 1))) (-1) ((G.2 14 0) + 1) (-1)))
theorem rp_a (X : Nat → Nat → Int32) (c : X 29 0 = 0) : f_M_reply X = ((-4), (upf X 0 (fun _ => 0))) := by
  unfold f_M_reply
  rw [if_pos c]
theorem rp_b (X : Nat → Nat → Int32) (c : ¬ X 29 0 = 0) (c4 : f_M_hereR (rpl1 X) ≤ 40) : f_M_reply X = f_M_reply_L84 (nc_mu 6 0 + 1) (upf (rpl1 X) 18 (fun _ => 0)) ((f_M_beginR (upf X 0 (fun _ => 0)) (X 11 0)) 29 0) := by
  unfold rpl1 at c4 ⊢
  unfold f_M_reply
  rw [if_neg c, if_pos c4]
theorem rp_c (X : Nat → Nat → Int32) (c : ¬ X 29 0 = 0) (c4 : ¬ f_M_hereR (rpl1 X) ≤ 40) : f_M_reply X = rpg (f_M_groupOf (rpl1 X) ((f_M_beginR (upf X 0 (fun _ => 0)) (X 11 0)) 29 0) ((f_M_hereR (rpl1 X) - 40) - 1)) := by
  unfold rpl1 at c4 ⊢
  unfold f_M_reply
  rw [if_neg c, if_neg c4]
  generalize f_M_groupOf (upf (f_M_beginR (upf X 0 (fun _ => 0)) (X 11 0)) 11 (fun _ => 0)) ((f_M_beginR (upf X 0 (fun _ => 0)) (X 11 0)) 29 0) ((f_M_hereR (upf (f_M_beginR (upf X 0 (fun _ => 0)) (X 11 0)) 11 (fun _ => 0)) - 40) - 1) = G
  unfold rpg
  rfl
def rpx (X : Nat → Nat → Int32) (z : Int32) : Int32 × (Nat → Nat → Int32) := if (X 18 0) = 0 then ((-11), (f_M_tell (upf X 15 (fun _ => 1)) (-1) (X 14 0) (-1))) else (if (X 13 0) ≤ (X 14 0) then (if z = 0 then ((-18), (f_M_tell (upf X 15 (fun _ => 0)) (X 30 0) (-1) (-1))) else f_M_go (upf (upf (upf X 15 (fun _ => 0)) 27 (upd (X 27) ((X 30 0) : Int32).toNatClampNeg z)) 28 (upd (X 28) ((X 30 0) : Int32).toNatClampNeg (vp_nar .boolean 1)))) else ((-11), (f_M_tell (upf X 15 (fun _ => 0)) (-1) (X 14 0) (-1))))
theorem l84_eq (m : Nat) (X : Nat → Nat → Int32) (z : Int32) : f_M_reply_L84 (m + 1) X z = if (f_M_isWordR X) = 0 then rpx X z else (if 6 ≤ (X 18 0) then rpx X z else f_M_reply_L84 m (upf (upf X 14 (fun _ => ((X 14 0) + 1))) 18 (fun _ => ((X 18 0) + 1))) (f_M_reply_L102 X (nc_mu (X 1 0) 0 + 1) 0 z)) := rfl
theorem l102 {X : Nat → Nat → Int32} {N : Nat} (hN : N ≤ 32) (en : X 1 0 = nI N) : ∀ (m i : Nat) (z : Int32), i + m = N → ∀ t, t < 32 → (bt (f_M_reply_L102 X (m + 1) (nI i) z) t = true ↔ bt z t = true ∧ (i ≤ t → t < N → ¬ f_M_hasWord X (nI t) (f_M_hereR X) = 0)) := by
  intro m
  induction m with
  | zero =>
    intro i z hi t ht
    have q : X 1 0 ≤ nI i := by
      rw [en, Int32.le_iff_toInt_le, nI_toInt (by omega), nI_toInt (by omega)]
      omega
    rw [f_M_reply_L102, if_pos q]
    exact ⟨fun w => ⟨w, fun a b => absurd b (by omega)⟩, fun w => w.1⟩
  | succ m ih =>
    intro i z hi t ht
    have q : ¬ X 1 0 ≤ nI i := by
      rw [en, Int32.le_iff_toInt_le, nI_toInt (by omega), nI_toInt (by omega)]
      omega
    rw [f_M_reply_L102, if_neg q, nI_1]
    by_cases c : f_M_hasWord X (nI i) (f_M_hereR X) = 0
    · rw [if_pos c, ih (i + 1) _ (by omega) t ht, b_and, b_not ht, b_sh1 (by omega) ht]
      constructor
      · intro w
        have e : ¬ t = i := by
          intro e
          rw [decide_eq_true e] at w
          exact absurd w.1 (by simp)
        rw [decide_eq_false e] at w
        refine ⟨by simpa using w.1, fun a b => w.2 (by omega) b⟩
      · intro w
        have e : ¬ t = i := by
          intro e
          subst e
          exact w.2 (Nat.le_refl _) (by omega) c
        rw [decide_eq_false e]
        exact ⟨by simpa using w.1, fun a b => w.2 (by omega) b⟩
    · rw [if_neg c, ih (i + 1) _ (by omega) t ht]
      constructor
      · intro w
        refine ⟨w.1, fun a b => ?_⟩
        by_cases e : t = i
        · rw [e]
          exact c
        · exact w.2 (by omega) b
      · intro w
        exact ⟨w.1, fun a b => w.2 (by omega) b⟩
theorem l84 {f : Nat → Int32} {n N : Nat} (hn : n ≤ 30) (hN : N ≤ 32) : ∀ (m c : Nat) (X : Nat → Nat → Int32) (z : Int32), c + m = 6 → c ≤ wd f n 6 0 → X 10 = f → X 1 0 = nI N → X 13 0 = nI n → X 14 0 = nI c → X 18 0 = nI c →
    ∃ X' z', f_M_reply_L84 (m + 1) X z = rpx X' z' ∧ X' 14 0 = nI (wd f n 6 0) ∧ X' 18 0 = nI (wd f n 6 0) ∧ (∀ k, ¬ k = 14 → ¬ k = 18 → X' k = X k) ∧ ∀ t, t < 32 → (bt z' t = true ↔ bt z t = true ∧ (t < N → ∀ j, c ≤ j → j < wd f n 6 0 → ¬ f_M_hasWord X (nI t) (f j) = 0)) := by
  intro m
  have e6 : (6 : Int32).toInt = 6 := by decide
  have w6 := wd_le (f := f) (n := n) 6 0
  induction m with
  | zero =>
    intro c X z hc hcw e10 en e13 e14 e18
    have ec : c = wd f n 6 0 := by omega
    refine ⟨X, z, ?_, by rw [← ec]; exact e14, by rw [← ec]; exact e18, fun k _ _ => rfl, fun t ht => ⟨fun q => ⟨q, fun _ j a b => absurd b (by omega)⟩, fun q => q.1⟩⟩
    have q6 : (6 : Int32) ≤ X 18 0 := by
      rw [e18, Int32.le_iff_toInt_le, nI_toInt (by omega)]
      omega
    rw [l84_eq, if_pos q6]
    by_cases c1 : f_M_isWordR X = 0
    · rw [if_pos c1]
    · rw [if_neg c1]
  | succ m ih =>
    intro c X z hc hcw e10 en e13 e14 e18
    have eh : f_M_hereR X = tk f n c := by
      rw [hereR_tk hn (by omega) e13 e14, e10]
    have q6 : ¬ (6 : Int32) ≤ X 18 0 := by
      rw [e18, Int32.le_iff_toInt_le, nI_toInt (by omega)]
      omega
    by_cases cw : c = wd f n 6 0
    · have hx := wd_exit (f := f) (n := n) 6 0 (by omega)
      rw [Nat.zero_add, ← cw] at hx
      refine ⟨X, z, ?_, by rw [← cw]; exact e14, by rw [← cw]; exact e18, fun k _ _ => rfl, fun t ht => ⟨fun q => ⟨q, fun _ j a b => absurd b (by omega)⟩, fun q => q.1⟩⟩
      have c1 : f_M_isWordR X = 0 := by
        unfold f_M_isWordR
        rw [eh]
        exact hx
      rw [l84_eq, if_pos c1]
    · obtain ⟨k1, k2⟩ := wd_ok (f := f) (n := n) 6 0 c (by omega)
      rw [Nat.zero_add] at k1 k2
      have et : tk f n c = f c := tk_in k1
      have c1 : ¬ f_M_isWordR X = 0 := by
        unfold f_M_isWordR
        rw [eh, et, in_1 (show (0 : Int32).toInt ≤ (f c).toInt ∧ (f c).toInt ≤ (29 : Int32).toInt from k2)]
        exact one0
      obtain ⟨X', z', i1, i2, i3, i4, i5⟩ := ih (c + 1) (upf (upf X 14 (fun _ => ((X 14 0) + 1))) 18 (fun _ => ((X 18 0) + 1))) (f_M_reply_L102 X (nc_mu (X 1 0) 0 + 1) 0 z) (by omega) (by omega) e10 en e13 (by show X 14 0 + 1 = _; rw [e14, nI_1]) (by show X 18 0 + 1 = _; rw [e18, nI_1])
      refine ⟨X', z', ?_, i2, i3, fun k a1 a2 => (i4 k a1 a2).trans ((upf_ne (nb a2)).trans (upf_ne (nb a1))), fun t ht => ?_⟩
      · rw [l84_eq, if_neg c1, if_neg q6]
        exact i1
      · have l := l102 hN en N 0 z (by omega) t ht
        rw [nI_0] at l
        rw [i5 t ht, en, mu_n0 (by omega), l, eh, et]
        constructor
        · rintro ⟨⟨w1, w2⟩, w3⟩
          refine ⟨w1, fun htn j a b => ?_⟩
          by_cases e : j = c
          · rw [e]
            exact w2 (Nat.zero_le _) htn
          · exact w3 htn j (by omega) b
        · rintro ⟨w1, w2⟩
          exact ⟨⟨w1, fun _ htn => w2 htn c (Nat.le_refl _) (by omega)⟩, fun htn j a b => w2 htn j (by omega) b⟩
theorem rf_L {S : Nat → Nat → Nat → Int32} {f : Nat → Int32} {n : Nat} (hn : n ≤ 30) (hf : S 0 1 = f) (hs : S 0 2 0 = nI n) : ∀ (m i : Nat), i + m = n → i ≤ wd f n 6 0 → f_NC_replyFault_L37 S (m + 1) (nI i) = if wd f n 6 0 = n then -1 else nI (wd f n 6 0) := by
  intro m
  have e6 : (6 : Int32).toInt = 6 := by decide
  have e30 : (30 : Int32).toInt = 30 := by decide
  have w6 := wd_le (f := f) (n := n) 6 0
  have wn := wd_n (f := f) (n := n) 6 0 (Nat.zero_le _)
  induction m with
  | zero =>
    intro i hi hw
    rw [f_NC_replyFault_L37, hs, if_pos, if_pos (by omega)]
    rw [Int32.le_iff_toInt_le, nI_toInt (by omega), nI_toInt (by omega)]
    omega
  | succ m ih =>
    intro i hi hw
    have q1 : ¬ nI n ≤ nI i := by
      rw [Int32.le_iff_toInt_le, nI_toInt (by omega), nI_toInt (by omega)]
      omega
    have q2 : ¬ (30 : Int32) ≤ nI i := by
      rw [Int32.le_iff_toInt_le, nI_toInt (by omega)]
      omega
    rw [f_NC_replyFault_L37, hs, if_neg q1, if_neg q2, hf, nI_clamp (by omega), e_isWord, nI_1]
    by_cases c6 : 6 ≤ i
    · have q3 : (6 : Int32) ≤ nI i := by
        rw [Int32.le_iff_toInt_le, nI_toInt (by omega)]
        omega
      rw [if_pos q3, if_neg (by omega), show i = wd f n 6 0 by omega]
    · have q3 : ¬ (6 : Int32) ≤ nI i := by
        rw [Int32.le_iff_toInt_le, nI_toInt (by omega)]
        omega
      rw [if_neg q3]
      by_cases cw : i = wd f n 6 0
      · have hx := wd_exit (f := f) (n := n) 6 0 (by omega)
        rw [Nat.zero_add, ← cw, tk_in (by omega)] at hx
        rw [if_pos hx, if_neg (by omega), cw]
      · obtain ⟨k1, k2⟩ := wd_ok (f := f) (n := n) 6 0 i (by omega)
        rw [Nat.zero_add] at k2
        rw [in_1 (show (0 : Int32).toInt ≤ (f i).toInt ∧ (f i).toInt ≤ (29 : Int32).toInt from k2), if_neg one0]
        exact ih (i + 1) (by omega) (by omega)
theorem lb_L {S : Nat → Nat → Nat → Int32} {f : Nat → Int32} {n : Nat} (hn : n ≤ 30) (hf : S 0 1 = f) (hs : S 0 2 0 = nI n) : ∀ (m i : Nat), i + m = n → f_NC_leftByRow_L32 S (m + 1) (nI i) (ld f 0 i) = f_NC_leftByRow_L70 S (ld f 0 n) (nc_mu ((S 1) 7 0) 0 + 1) 0 0 := by
  intro m
  induction m with
  | zero =>
    intro i hi
    rw [f_NC_leftByRow_L32, hs, if_pos, show i = n by omega]
    rw [Int32.le_iff_toInt_le, nI_toInt (by omega), nI_toInt (by omega)]
    omega
  | succ m ih =>
    intro i hi
    have e30 : (30 : Int32).toInt = 30 := by decide
    have q1 : ¬ nI n ≤ nI i := by
      rw [Int32.le_iff_toInt_le, nI_toInt (by omega), nI_toInt (by omega)]
      omega
    have q2 : ¬ (30 : Int32) ≤ nI i := by
      rw [Int32.le_iff_toInt_le, nI_toInt (by omega)]
      omega
    have e : ld f 0 i ||| ((1 : Int32) <<< (f i &&& 31)) = ld f 0 (i + 1) := by
      show _ = ld f 0 i ||| ((1 : Int32) <<< (f (0 + i) &&& 31))
      rw [Nat.zero_add]
    rw [f_NC_leftByRow_L32, hs, if_neg q1, if_neg q2, hf, nI_clamp (by omega), e, nI_1]
    exact ih (i + 1) (by omega)
theorem s_left {S : Nat → Nat → Nat → Int32} {X : Nat → Nat → Int32} (h : RT (S 1) X) {N : Nat} (hN : N ≤ 32) (en : X 1 0 = nI N) (y : Int32) : ∀ (m i : Nat) (a : Int32), i + m = N → f_NC_leftByRow_L70 S y (m + 1) (nI i) a = mkS (fun t => bt (S 0 10 0) t && decide (y &&& ((X 2 t ||| X 3 t) ^^^ (-1)) = 0)) m i a := by
  intro m
  have e7 : (S 1) 7 0 = nI N := h.2.1.trans en
  induction m with
  | zero =>
    intro i a hi
    rw [f_NC_leftByRow_L70, e7, if_pos, mkS_0]
    rw [Int32.le_iff_toInt_le, nI_toInt (by omega), nI_toInt (by omega)]
    omega
  | succ m ih =>
    intro i a hi
    have q : ¬ nI N ≤ nI i := by
      rw [Int32.le_iff_toInt_le, nI_toInt (by omega), nI_toInt (by omega)]
      omega
    have i32 : i < 32 := by omega
    have hw : f_Things_hasWords (S 1) (nI i) y = if y &&& ((X 2 i ||| X 3 i) ^^^ (-1)) = 0 then 1 else 0 := by
      unfold f_Things_hasWords
      rw [t_has1 h (by rw [en, nI_toInt (by omega), nI_toInt (by omega)]; omega), if_neg one0, nI_clamp (by omega), h.1.1, h.1.2.1]
    rw [f_NC_leftByRow_L70, e7, if_neg q, hw, nI_1]
    cases hb : bt (S 0 10 0) i
    · rw [if_pos ((nc_h0 i32).mpr hb), mkS_f (by rw [hb]; simp)]
      exact ih (i + 1) a (by omega)
    · have g1 : ¬ f_NC_holds (S 0 10 0) (nI i) = 0 := fun w => by
        rw [(nc_h0 i32).mp w] at hb
        exact absurd hb (by decide)
      rw [if_neg g1]
      by_cases c : y &&& ((X 2 i ||| X 3 i) ^^^ (-1)) = 0
      · rw [if_pos c, if_neg one0, mkS_t (by rw [hb, decide_eq_true c]; rfl)]
        exact ih (i + 1) _ (by omega)
      · rw [if_neg c, if_pos rfl, mkS_f (by rw [hb, decide_eq_false c]; simp)]
        exact ih (i + 1) a (by omega)
