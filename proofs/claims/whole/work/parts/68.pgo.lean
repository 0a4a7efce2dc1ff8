/-! ===== going through the phrase ===== -/
def RelN (S : Nat → Nat → Nat → Int32) (X : Nat → Nat → Int32) : Prop := RT (S 1) X ∧ RRow (S 0) X ∧ S 0 3 0 = X 9 0 ∧ RLat (S 4) X ∧ RAsk (S 0) X ∧ RLeft (S 0) X ∧ RPhr (S 2) X
theorem Rel_N {S : Nat → Nat → Nat → Int32} {X : Nat → Nat → Int32} (h : RelN S X) (t : RTold (S 0) X) : Rel S X := ⟨h.1, h.2.1, h.2.2.1, h.2.2.2.1, h.2.2.2.2.1, h.2.2.2.2.2.1, t, h.2.2.2.2.2.2⟩
theorem N_Rel {S : Nat → Nat → Nat → Int32} {X : Nat → Nat → Int32} (h : Rel S X) : RelN S X := ⟨h.1, h.2.1, h.2.2.1, h.2.2.2.1, h.2.2.2.2.1, h.2.2.2.2.2.1, h.2.2.2.2.2.2.2⟩
theorem RelN_of {S S' : Nat → Nat → Nat → Int32} {X X' : Nat → Nat → Int32} (h : RelN S X) (g1 : S' 1 = S 1) (g2 : S' 2 = S 2) (g01 : S' 0 1 = S 0 1) (g02 : S' 0 2 = S 0 2) (g03 : S' 0 3 = S 0 3) (g06 : S' 0 6 = S 0 6) (fr : ∀ k, (0 < k ∧ k < 12) ∨ (23 < k ∧ k < 29) → X' k = X k) (hLat : RLat (S' 4) X') (hAsk : RAsk (S' 0) X') : RelN S' X' := by
  obtain ⟨h1, h2, h3, h4, h5, h6, h7⟩ := h
  refine ⟨?_, ?_, ?_, hLat, hAsk, ?_, ?_⟩
  · rw [g1]
    exact RT_fr h1 (fun k a b => fr k (by omega))
  · unfold RRow
    rw [g01, g02, fr 10 (by omega), fr 11 (by omega)]
    exact h2
  · rw [g03, fr 9 (by omega)]
    exact h3
  · unfold RLeft
    rw [g06, fr 28 (by omega), fr 27 (by omega)]
    exact h6
  · unfold RPhr
    rw [g2, fr 24 (by omega), fr 25 (by omega), fr 26 (by omega)]
    exact h7
theorem RLat_of {K K' X X' : Nat → Nat → Int32} (h : RLat K X) (g : K' = K) (f1 : X' 31 = X 31) (f2 : X' 32 = X 32) (f3 : X' 33 = X 33) : RLat K' X' := by
  unfold RLat
  rw [g, f1, f2, f3]
  exact h
theorem pkF_of {k : Nat} (h : k < 14 ∨ 22 < k) : pkF k := ⟨⟨nb (by omega), nb (by omega), nb (by omega), nb (by omega), nb (by omega)⟩, nb (by omega), nb (by omega), nb (by omega), nb (by omega)⟩
theorem go_end {m : Nat} {X Y : Nat → Nat → Int32} {z3 z2 z1 w : Int32} (hY : f_M_partF X 1 ((X 27) z3.toNatClampNeg) ((X 28) (z3 : Int32).toNatClampNeg) = Y) (c : ¬ X 26 0 ≤ z3) (hr : 0 < Y 19 0 ∨ ¬ Y 20 0 = 0) (hw : w = if Y 19 0 = 2 ∨ Y 19 0 = 3 ∨ Y 19 0 = 5 then 0 else Y 21 0) : f_M_go_L23 (m + 1) X z3 z2 z1 = ((if Y 19 0 ≤ 0 then 0 else (-10) - Y 19 0), upf (upf (f_M_tell (upf Y 14 (fun _ => (Y 14 0 + 1))) z3 (-1) w) 29 (fun _ => Y 20 0)) 30 (fun _ => z3)) := by
  have inner : ∀ v : Int32, (if ((f_M_tell (upf Y 14 (fun _ => (Y 14 0 + 1))) z3 (-1) v) 19 0) ≤ 0 then (0, (upf (upf (f_M_tell (upf Y 14 (fun _ => (Y 14 0 + 1))) z3 (-1) v) 29 (fun _ => ((f_M_tell (upf Y 14 (fun _ => (Y 14 0 + 1))) z3 (-1) v) 20 0))) 30 (fun _ => z3))) else (((-10) - ((f_M_tell (upf Y 14 (fun _ => (Y 14 0 + 1))) z3 (-1) v) 19 0)), (upf (upf (f_M_tell (upf Y 14 (fun _ => (Y 14 0 + 1))) z3 (-1) v) 29 (fun _ => ((f_M_tell (upf Y 14 (fun _ => (Y 14 0 + 1))) z3 (-1) v) 20 0))) 30 (fun _ => z3)))) = (((if Y 19 0 ≤ 0 then 0 else (-10) - Y 19 0), upf (upf (f_M_tell (upf Y 14 (fun _ => (Y 14 0 + 1))) z3 (-1) v) 29 (fun _ => Y 20 0)) 30 (fun _ => z3)) : Int32 × (Nat → Nat → Int32)) := by
    intro v
    show (if Y 19 0 ≤ 0 then (0, (upf (upf (f_M_tell (upf Y 14 (fun _ => (Y 14 0 + 1))) z3 (-1) v) 29 (fun _ => Y 20 0)) 30 (fun _ => z3))) else (((-10) - Y 19 0), (upf (upf (f_M_tell (upf Y 14 (fun _ => (Y 14 0 + 1))) z3 (-1) v) 29 (fun _ => Y 20 0)) 30 (fun _ => z3)))) = _
    by_cases c : Y 19 0 ≤ 0
    · rw [if_pos c, if_pos c]
    · rw [if_neg c, if_neg c]
  have core : ∀ B : (Nat → Nat → Int32) → Int32 × (Nat → Nat → Int32), ∀ V : Int32 → Int32 × (Nat → Nat → Int32), (if Y 19 0 = 2 then V 0 else (if Y 19 0 = 3 then V 0 else (if Y 19 0 = 5 then V 0 else V (Y 21 0)))) = V w := by
    intro B V
    by_cases c2 : Y 19 0 = 2
    · rw [if_pos c2, hw, if_pos (Or.inl c2)]
    · by_cases c3 : Y 19 0 = 3
      · rw [if_neg c2, if_pos c3, hw, if_pos (Or.inr (Or.inl c3))]
      · by_cases c5 : Y 19 0 = 5
        · rw [if_neg c2, if_neg c3, if_pos c5, hw, if_pos (Or.inr (Or.inr c5))]
        · rw [if_neg c2, if_neg c3, if_neg c5, hw, if_neg (fun q => by rcases q with q | q | q <;> contradiction)]
  rw [f_M_go_L23, if_neg c, hY, inner 0, inner (Y 21 0)]
  have k := core (fun _ => (0, Y)) (fun v => ((if Y 19 0 ≤ 0 then 0 else (-10) - Y 19 0), upf (upf (f_M_tell (upf Y 14 (fun _ => (Y 14 0 + 1))) z3 (-1) v) 29 (fun _ => Y 20 0)) 30 (fun _ => z3)))
  by_cases p : 0 < Y 19 0
  · rw [if_pos p]
    exact k
  · rw [if_neg p, if_neg (hr.resolve_left p)]
    exact k
theorem go_next {m : Nat} {X Y : Nat → Nat → Int32} {z3 z2 z1 : Int32} (hY : f_M_partF X 1 ((X 27) z3.toNatClampNeg) ((X 28) (z3 : Int32).toNatClampNeg) = Y) (c : ¬ X 26 0 ≤ z3) (h19 : Y 19 0 = 0) (h20 : Y 20 0 = 0) : f_M_go_L23 (m + 1) X z3 z2 z1 = f_M_go_L23 m (f_M_go_L145 z1 z3 (nc_mu (Y 1 0) 0 + 1) (upf Y 14 (fun _ => (Y 14 0 + 1))) 0 z2).2 (z3 + 1) (f_M_go_L145 z1 z3 (nc_mu (Y 1 0) 0 + 1) (upf Y 14 (fun _ => (Y 14 0 + 1))) 0 z2).1 (z1 ||| ((f_M_go_L145 z1 z3 (nc_mu (Y 1 0) 0 + 1) (upf Y 14 (fun _ => (Y 14 0 + 1))) 0 z2).2 22 0)) := by
  rw [f_M_go_L23, if_neg c, hY, if_neg (show ¬ 0 < Y 19 0 by rw [h19]; decide), if_pos h20]
theorem end_eq (S : Nat → Nat → Nat → Int32) (x1 x2 : Int32) : f_NC_endAt S x1 x2 = ((if x2 = 1 then 0 else (-10) - x2), f_NC_tell S x1 (-1) (if x2 = 2 ∨ x2 = 3 ∨ x2 = 5 then 0 else f_bitCount (S 0 9 0))) := by
  unfold f_NC_endAt
  by_cases c2 : x2 = 2
  · rw [if_pos c2, if_pos (Or.inl c2)]
    by_cases c1 : x2 = 1
    · rw [if_pos c1, if_pos c1]
    · rw [if_neg c1, if_neg c1]
  · by_cases c3 : x2 = 3
    · rw [if_neg c2, if_pos c3, if_pos (Or.inr (Or.inl c3))]
      by_cases c1 : x2 = 1
      · rw [if_pos c1, if_pos c1]
      · rw [if_neg c1, if_neg c1]
    · by_cases c5 : x2 = 5
      · rw [if_neg c2, if_neg c3, if_pos c5, if_pos (Or.inr (Or.inr c5))]
        by_cases c1 : x2 = 1
        · rw [if_pos c1, if_pos c1]
        · rw [if_neg c1, if_neg c1]
      · have n : ¬ (x2 = 2 ∨ x2 = 3 ∨ x2 = 5) := fun q => by rcases q with q | q | q <;> contradiction
        rw [if_neg c2, if_neg c3, if_neg c5, if_neg n]
        by_cases c1 : x2 = 1
        · rw [if_pos c1, if_pos c1]
        · rw [if_neg c1, if_neg c1]
theorem end_rel {S G2 : Nat → Nat → Nat → Int32} {X Y : Nat → Nat → Int32} {k : Nat} (h : RelN S X) (hG : GF S G2) (fy : ∀ j, (j < 14 ∨ 22 < j) → Y j = X j) (hk : k < 30) (h10 : G2 0 10 0 = Y 20 0) (h11 : ¬ Y 20 0 = 0 → G2 0 11 0 = nI k) (g : Nat → Int32) (w : Int32) : Rel (f_NC_tell G2 (nI k) (-1) w) (upf (upf (f_M_tell (upf Y 14 g) (nI k) (-1) w) 29 (fun _ => Y 20 0)) 30 (fun _ => nI k)) := by
  obtain ⟨q1, q2, q4, q0⟩ := hG
  have fr : ∀ j, ¬ j = 14 → ¬ j = 35 → ¬ j = 36 → ¬ j = 37 → ¬ j = 29 → ¬ j = 30 → (j < 14 ∨ 22 < j) → (upf (upf (f_M_tell (upf Y 14 g) (nI k) (-1) w) 29 (fun _ => Y 20 0)) 30 (fun _ => nI k)) j = X j := by
    intro j a1 a2 a3 a4 a5 a6 a7
    rw [upf_ne (nb a6), upf_ne (nb a5)]
    show (upf (upf (upf (upf Y 14 g) 35 _) 36 _) 37 _) j = X j
    rw [upf_ne (nb a4), upf_ne (nb a3), upf_ne (nb a2), upf_ne (nb a1)]
    exact fy j a7
  refine Rel_N (RelN_of h q1 q2 (q0 1 (by omega) (by omega) (by omega)) (q0 2 (by omega) (by omega) (by omega)) (q0 3 (by omega) (by omega) (by omega)) (q0 6 (by omega) (by omega) (by omega)) (fun j hj => fr j (by omega) (by omega) (by omega) (by omega) (by omega) (by omega) (by omega)) ?_ ?_) ?_
  · exact RLat_of h.2.2.2.1 q4 (fr 31 (by omega) (by omega) (by omega) (by omega) (by omega) (by omega) (by omega)) (fr 32 (by omega) (by omega) (by omega) (by omega) (by omega) (by omega) (by omega)) (fr 33 (by omega) (by omega) (by omega) (by omega) (by omega) (by omega) (by omega))
  · refine ⟨h10, h11, ?_⟩
    show 0 ≤ (nI k).toInt ∧ (nI k).toInt < 30
    rw [nI_toInt (by omega)]
    omega
  · exact ⟨rfl, rfl, rfl⟩
def AskN (X : Nat → Nat → Int32) : Prop := ∀ t, t < 32 → bt (X 29 0) t = true → (t : Int) < (X 1 0).toInt
theorem Ask_0 {X : Nat → Nat → Int32} (h : X 29 0 = 0) : AskN X := fun t _ q => by
  rw [h, b_0] at q
  exact absurd q (by decide)
theorem part_lt {f : Nat → Int32} {n k a b : Nat} {P : Nat → Nat → Int32} (hp : PartAt f n P k a b) : a < n := by
  obtain ⟨d, m, b1, p1, p2, p3⟩ := hp
  rcases p3 with ⟨t34, _⟩ | ⟨t40, _⟩ | ⟨_, _, _, _, _, _, _, pD⟩
  · exact tk_is t34 (by decide)
  · exact tk_40 t40
  · exact (desc_tk pD.1).1
theorem go_L {f : Nat → Int32} {n N K : Nat} (hn : n ≤ 30) (hN : N ≤ 32) (hK : K ≤ 30) (hok : ∀ j : Nat, okTok (f j)) : ∀ (m k a c : Nat) (S : Nat → Nat → Nat → Int32) (X : Nat → Nat → Int32), k + m = K → PhrAt f n (S 2) m k a → RelN S X → X 26 0 = nI K → X 24 = f → X 1 0 = nI N → X 13 0 = nI n → X 14 0 = nI a → X 15 0 = 0 → X 29 0 = 0 → PInv (S 5) X c →
    (f_NC_goThrough_L14 (m + 1) S (nI k)).1 = (f_M_go_L23 (m + 1) X (nI k) (nI c) (S 5 2 0)).1 ∧ Rel (f_NC_goThrough_L14 (m + 1) S (nI k)).2 (f_M_go_L23 (m + 1) X (nI k) (nI c) (S 5 2 0)).2 ∧ AskN (f_M_go_L23 (m + 1) X (nI k) (nI c) (S 5 2 0)).2 := by
  intro m
  induction m with
  | zero =>
    intro k a c S X hkm hph hR eK e24 en e13 e14 e15 x29 hI
    have p4 : S 2 4 0 = nI K := hR.2.2.2.2.2.2.1.trans eK
    have q : nI K ≤ nI k := by
      rw [Int32.le_iff_toInt_le, nI_toInt (by omega), nI_toInt (by omega)]
      omega
    obtain ⟨k1, k2, k3⟩ := hI
    have hc : c ≤ 32 := by
      rw [k2]
      exact cnt_le _ _
    have h3 := hR.2.2.1
    have eC : f_NC_goThrough_L14 (0 + 1) S (nI k) = (if S 5 1 0 ≤ S 0 3 0 then (S 5 1 0, (upr (upr (f_NC_tell S (-1) (-1) (-1)) 4 (S 5)) 5 (S 4))) else ((-17), (f_NC_tell S (-1) (-1) (-1)))) := by
      rw [f_NC_goThrough_L14, if_pos (by rw [p4]; exact q)]
      rfl
    have eM : f_M_go_L23 (0 + 1) X (nI k) (nI c) (S 5 2 0) = (if nI c ≤ X 9 0 then (f_M_go_L230 (nI c) (nc_mu (nI c) 0 + 1) (upf (upf (f_M_tell X (-1) (-1) (-1)) 31 (fun _ => S 5 2 0)) 33 (fun _ => nI c)) 0) else ((-17), (f_M_tell X (-1) (-1) (-1)))) := by
      rw [f_M_go_L23, if_pos (by rw [eK]; exact q)]
      rfl
    have frT : ∀ j, ¬ j = 35 → ¬ j = 36 → ¬ j = 37 → (f_M_tell X (-1) (-1) (-1)) j = X j := by
      intro j a1 a2 a3
      show (upf (upf (upf X 35 _) 36 _) 37 _) j = X j
      rw [upf_ne (nb a3), upf_ne (nb a2), upf_ne (nb a1)]
    rw [eC, eM, k1, h3]
    by_cases cl : nI c ≤ X 9 0
    · rw [if_pos cl, if_pos cl, mu_n0 (by omega)]
      obtain ⟨i1, i2, _, i4⟩ := copy_L hc c 0 (upf (upf (f_M_tell X (-1) (-1) (-1)) 31 (fun _ => S 5 2 0)) 33 (fun _ => nI c)) (by omega)
      rw [nI_0] at i1 i2 i4
      refine ⟨i1.symm, ?_⟩
      generalize f_M_go_L230 (nI c) (c + 1) (upf (upf (f_M_tell X (-1) (-1) (-1)) 31 (fun _ => S 5 2 0)) 33 (fun _ => nI c)) 0 = Z at i2 i4 ⊢
      have fr : ∀ j, ¬ j = 31 → ¬ j = 32 → ¬ j = 33 → ¬ j = 35 → ¬ j = 36 → ¬ j = 37 → Z.2 j = X j := by
        intro j a1 a2 a3 a4 a5 a6
        rw [i4 j a2, upf_ne (nb a3), upf_ne (nb a1)]
        exact frT j a4 a5 a6
      refine ⟨Rel_N (RelN_of hR rfl rfl rfl rfl rfl rfl (fun j hj => fr j (by omega) (by omega) (by omega) (by omega) (by omega) (by omega)) ?_ ?_) ?_, Ask_0 (by rw [fr 29 (by omega) (by omega) (by omega) (by omega) (by omega) (by omega)]; exact x29)⟩
      · show RLat (S 5) Z.2
        have z33 : Z.2 33 0 = nI c := congrFun (i4 33 (by omega)) 0
        have z31 : Z.2 31 0 = S 5 2 0 := congrFun (i4 31 (by omega)) 0
        refine ⟨k1.trans z33.symm, z31.symm, ?_, ?_⟩
        · rw [z33, nI_toInt (by omega)]
          omega
        · intro j hj
          rw [z33, nI_toInt (by omega)] at hj
          exact (k3 j (by omega)).trans (i2 j (Nat.zero_le _) (by omega)).symm
      · show RAsk (S 0) Z.2
        unfold RAsk
        rw [fr 29 (by omega) (by omega) (by omega) (by omega) (by omega) (by omega), fr 30 (by omega) (by omega) (by omega) (by omega) (by omega) (by omega)]
        exact hR.2.2.2.2.1
      · exact ⟨(congrFun (i4 35 (by omega)) 0).symm, (congrFun (i4 36 (by omega)) 0).symm, (congrFun (i4 37 (by omega)) 0).symm⟩
    · rw [if_neg cl, if_neg cl]
      refine ⟨rfl, Rel_N (RelN_of hR rfl rfl rfl rfl rfl rfl (fun j hj => frT j (by omega) (by omega) (by omega)) ?_ ?_) ⟨rfl, rfl, rfl⟩, Ask_0 (X := f_M_tell X (-1) (-1) (-1)) x29⟩
      · exact hR.2.2.2.1
      · exact hR.2.2.2.2.1
  | succ m ih =>
    intro k a c S X hkm hph hR eK e24 en e13 e14 e15 x29 hI
    obtain ⟨b, hp, hph'⟩ := hph
    have hal := part_lt hp
    have p4 : S 2 4 0 = nI K := hR.2.2.2.2.2.2.1.trans eK
    have hP4 : (k : Int) < (S 2 4 0).toInt := by
      rw [p4, nI_toInt (by omega)]
      omega
    have q : ¬ nI K ≤ nI k := by
      rw [Int32.le_iff_toInt_le, nI_toInt (by omega), nI_toInt (by omega)]
      omega
    have c1 : ¬ S 2 4 0 ≤ nI k := by
      rw [p4]
      exact q
    have c2 : ¬ X 26 0 ≤ nI k := by
      rw [eK]
      exact q
    have res := part_res hn hN (by omega) hR.1 en hP4 hok hR.2.2.2.1.2.1 e24 e13 e14 (by omega) (hR.2.2.2.2.2.1 k (by omega)) hp
    have pos := ptF_pos hn (by omega) e13 e14 e15 1 (X 27 k) (X 28 k)
    rw [e24, part_pr (by omega) hp] at pos
    have fy : ∀ j, (j < 14 ∨ 22 < j) → (f_M_partF X 1 (X 27 k) (X 28 k)) j = X j := fun j hj => ptF_fr (pkF_of hj)
    have hYe : f_M_partF X 1 ((X 27) (nI k).toNatClampNeg) ((X 28) (nI k).toNatClampNeg) = f_M_partF X 1 (X 27 k) (X 28 k) := by rw [nI_clamp (by omega)]
    generalize f_M_partF X 1 (X 27 k) (X 28 k) = Y at res pos fy hYe
    obtain ⟨y14, y15⟩ := pos
    rw [f_NC_goThrough_L14, if_neg c1]
    generalize f_NC_goThroughPart S (nI k) = G at res ⊢
    rcases res with ⟨g1, g2, g3, g4, g5, g6, g7⟩ | ⟨g1, g2, g3, g4, g5, g6, g7, g8⟩ | ⟨g1, g2, g3, g4, g5⟩ | ⟨g1, g2, g3, g4, g5, g6⟩
    · rw [if_pos g1, go_next hYe c2 g2 g3]
      have y34 : PInv (S 5) (upf Y 14 (fun _ => (Y 14 0 + 1))) c := by
        refine ⟨hI.1, hI.2.1, fun j hj => ?_⟩
        show S 5 0 j = Y 34 j
        rw [fy 34 (by omega)]
        exact hI.2.2 j hj
      have yen : Y 1 0 = nI N := by
        rw [fy 1 (by omega)]
        exact en
      obtain ⟨c', w1, w2, w3, w4⟩ := add_res (y3 := nI k) (K := S 5) (X := upf Y 14 (fun _ => (Y 14 0 + 1))) hN g7 yen rfl y34
      have w1' : (f_M_go_L145 (S 5 2 0) (nI k) (nc_mu (Y 1 0) 0 + 1) (upf Y 14 (fun _ => (Y 14 0 + 1))) 0 (nI c)).1 = nI c' := w1
      have w2' : PInv (f_Picks_add (S 5) (Y 22 0)) (f_M_go_L145 (S 5 2 0) (nI k) (nc_mu (Y 1 0) 0 + 1) (upf Y 14 (fun _ => (Y 14 0 + 1))) 0 (nI c)).2 c' := w2
      have w4' : ∀ j, ¬ j = 34 → (f_M_go_L145 (S 5 2 0) (nI k) (nc_mu (Y 1 0) 0 + 1) (upf Y 14 (fun _ => (Y 14 0 + 1))) 0 (nI c)).2 j = (upf Y 14 (fun _ => (Y 14 0 + 1))) j := w4
      generalize f_M_go_L145 (S 5 2 0) (nI k) (nc_mu (Y 1 0) 0 + 1) (upf Y 14 (fun _ => (Y 14 0 + 1))) 0 (nI c) = Z at w1' w2' w4' ⊢
      have z22 : Z.2 22 0 = Y 22 0 := congrFun (w4' 22 (by omega)) 0
      have eA : S 5 2 0 ||| Z.2 22 0 = G.2 5 2 0 := by
        rw [z22, g6, w3]
      rw [eA, w1', nI_1]
      have fr : ∀ j, ¬ j = 34 → ¬ j = 14 → (j < 14 ∨ 22 < j) → Z.2 j = X j := by
        intro j a1 a2 a3
        rw [w4' j a1, upf_ne (nb a2)]
        exact fy j a3
      obtain ⟨q1, q2, q4, q0⟩ := g4
      have hR' : RelN G.2 Z.2 := by
        refine RelN_of hR q1 q2 (q0 1 (by omega) (by omega) (by omega)) (q0 2 (by omega) (by omega) (by omega)) (q0 3 (by omega) (by omega) (by omega)) (q0 6 (by omega) (by omega) (by omega)) (fun j hj => fr j (by omega) (by omega) (by omega)) ?_ ?_
        · exact RLat_of hR.2.2.2.1 q4 (fr 31 (by omega) (by omega) (by omega)) (fr 32 (by omega) (by omega) (by omega)) (fr 33 (by omega) (by omega) (by omega))
        · have a1 := hR.2.2.2.2.1
          unfold RAsk at a1 ⊢
          rw [g5, fr 29 (by omega) (by omega) (by omega), fr 30 (by omega) (by omega) (by omega)]
          exact ⟨a1.1, fun w => absurd x29 w, a1.2.2⟩
      refine ih (k + 1) (b + 1) c' G.2 Z.2 (by omega) (by rw [q2]; exact hph') hR' ?_ ?_ ?_ ?_ ?_ ?_ ?_ ?_
      · rw [fr 26 (by omega) (by omega) (by omega)]
        exact eK
      · rw [fr 24 (by omega) (by omega) (by omega)]
        exact e24
      · rw [fr 1 (by omega) (by omega) (by omega)]
        exact en
      · rw [fr 13 (by omega) (by omega) (by omega)]
        exact e13
      · rw [w4' 14 (by omega)]
        show Y 14 0 + 1 = nI (b + 1)
        rw [y14, nI_1]
      · rw [w4' 15 (by omega)]
        show Y 15 0 = 0
        rw [y15]
        rfl
      · rw [fr 29 (by omega) (by omega) (by omega)]
        exact x29
      · rw [g6]
        exact w2'
    · rw [if_neg (by rw [g1]; exact one0), end_eq, g1, go_end (w := Y 21 0) hYe c2 (Or.inr g3) (by rw [g2, if_neg (by decide)]), g2, if_pos rfl, if_neg (by decide), if_pos (by decide), ← g7]
      refine ⟨rfl, end_rel hR g4 fy (by omega) g5 (fun _ => g6) _ _, fun t ht hb => ?_⟩
      show (t : Int) < (Y 1 0).toInt
      have := g8 t ht hb
      rw [fy 1 (by omega), en, nI_toInt (by omega)]
      omega
    · have n0 : ¬ G.1 = 0 := fun w => by rcases g1 with g | g | g <;> exact absurd (g.symm.trans w) (by decide)
      have n1 : ¬ G.1 = 1 := fun w => by rcases g1 with g | g | g <;> exact absurd (g.symm.trans w) (by decide)
      have n2 : ¬ G.1 ≤ 0 := by rcases g1 with g | g | g <;> rw [g] <;> decide
      have n3 : 0 < G.1 := by rcases g1 with g | g | g <;> rw [g] <;> decide
      rw [if_neg n0, end_eq, go_end (w := 0) hYe c2 (Or.inl (by rw [g2]; exact n3)) (by rw [g2, if_pos g1]), g2, if_neg n1, if_pos g1, if_neg n2]
      refine ⟨rfl, end_rel hR g4 fy (by omega) ?_ (fun w => absurd g3 w) _ _, Ask_0 g3⟩
      rw [g5, g3, hR.2.2.2.2.1.1, x29]
    · have n0 : ¬ G.1 = 0 := fun w => by rcases g1 with g | g <;> exact absurd (g.symm.trans w) (by decide)
      have n1 : ¬ G.1 = 1 := fun w => by rcases g1 with g | g <;> exact absurd (g.symm.trans w) (by decide)
      have n2 : ¬ G.1 ≤ 0 := by rcases g1 with g | g <;> rw [g] <;> decide
      have n3 : 0 < G.1 := by rcases g1 with g | g <;> rw [g] <;> decide
      have n4 : ¬ (G.1 = 2 ∨ G.1 = 3 ∨ G.1 = 5) := by rcases g1 with g | g <;> rw [g] <;> decide
      rw [if_neg n0, end_eq, go_end (w := Y 21 0) hYe c2 (Or.inl (by rw [g2]; exact n3)) (by rw [g2, if_neg n4]), g2, if_neg n1, if_neg n4, if_neg n2, ← g6]
      refine ⟨rfl, end_rel hR g4 fy (by omega) ?_ (fun w => absurd g3 w) _ _, Ask_0 g3⟩
      rw [g5, g3, hR.2.2.2.2.1.1, x29]
