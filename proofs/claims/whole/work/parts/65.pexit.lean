/-! ===== the end of a part; its EXCEPTs ===== -/
theorem upr_ne {S : Nat → Nat → Nat → Int32} {k j : Nat} {g : Nat → Nat → Int32} (h : Nat.beq j k = false) : upr S k g j = S j := by
  unfold upr
  rw [h]
def FR (S S1 : Nat → Nat → Nat → Int32) : Prop := (∀ r, ¬ r = 0 → S1 r = S r) ∧ ∀ j, ¬ j = 9 → S1 0 j = S 0 j
theorem FR_refl (S : Nat → Nat → Nat → Int32) : FR S S := ⟨fun _ _ => rfl, fun _ _ => rfl⟩
theorem FR_9 (S : Nat → Nat → Nat → Int32) (g : Nat → Int32) : FR S (upr S 0 (upf (S 0) 9 g)) := ⟨fun r hr => upr_ne (nb hr), fun j hj => by show upf (S 0) 9 g j = S 0 j; rw [upf_ne (nb hj)]⟩
theorem FR_trans {S S1 S2 : Nat → Nat → Nat → Int32} (h : FR S S1) (g : FR S1 S2) : FR S S2 := ⟨fun r hr => (g.1 r hr).trans (h.1 r hr), fun j hj => (g.2 j hj).trans (h.2 j hj)⟩
theorem GF_FR {S S1 S2 : Nat → Nat → Nat → Int32} (h : FR S S1) (g : GF S1 S2) : GF S S2 := ⟨g.1.trans (h.1 1 (by omega)), g.2.1.trans (h.1 2 (by omega)), g.2.2.1.trans (h.1 4 (by omega)), fun j h1 h2 h3 => (g.2.2.2 j h1 h2 h3).trans (h.2 j h1)⟩
theorem GF_of {S S1 : Nat → Nat → Nat → Int32} (h : FR S S1) : GF S S1 := ⟨h.1 1 (by omega), h.1 2 (by omega), h.1 4 (by omega), fun j h1 _ _ => h.2 j h1⟩
theorem PRes_FR {N k : Nat} {S S1 : Nat → Nat → Nat → Int32} {G : Int32 × (Nat → Nat → Nat → Int32)} {Y : Nat → Nat → Int32} (h : FR S S1) (g : PRes N k S1 G Y) : PRes N k S G Y := by
  rcases g with ⟨g1, g2, g3, g4, g5, g6, g7⟩ | ⟨g1, g2, g3, g4, g5⟩ | ⟨g1, g2, g3, g4, g5⟩ | ⟨g1, g2, g3, g4, g5, g6⟩
  · exact Or.inl ⟨g1, g2, g3, GF_FR h g4, g5.trans (h.2 10 (by omega)), by rw [g6, h.1 5 (by omega)], g7⟩
  · exact Or.inr (Or.inl ⟨g1, g2, g3, GF_FR h g4, g5⟩)
  · exact Or.inr (Or.inr (Or.inl ⟨g1, g2, g3, GF_FR h g4, g5.trans (h.2 10 (by omega))⟩))
  · exact Or.inr (Or.inr (Or.inr ⟨g1, g2, g3, GF_FR h g4, g5.trans (h.2 10 (by omega)), g6⟩))
def gpB (S : Nat → Nat → Nat → Int32) (x1 main : Int32) : Int32 × (Nat → Nat → Nat → Int32) := if f_Phrase_amountOf (S 2) x1 ≤ 0 then (if f_Phrase_amountOf (S 2) x1 = (-1) then (0, (upr S 5 (f_Picks_add (S 5) ((S 0) 9 0)))) else f_NC_giveMeant S x1 main) else f_NC_giveNumber S (f_Phrase_amountOf (S 2) x1)
def gpC (S : Nat → Nat → Nat → Int32) (x1 main : Int32) : Int32 × (Nat → Nat → Nat → Int32) := if ((S 0) 9 0) = 0 then (5, S) else gpB S x1 main
def gpA (S : Nat → Nat → Nat → Int32) (x1 main : Int32) : Int32 × (Nat → Nat → Nat → Int32) := if (f_NC_takeExceptsAway S x1).1 = 0 then (4, (f_NC_takeExceptsAway S x1).2) else gpC (f_NC_takeExceptsAway S x1).2 x1 main
def gpF (S : Nat → Nat → Nat → Int32) (x1 main fit : Int32) : Int32 × (Nat → Nat → Nat → Int32) := if fit = 0 then (2, S) else (if (fit &&& (f_Things_thereSet (S 1))) = 0 then (3, (upr S 0 (upf (S 0) 9 (fun _ => (fit &&& (f_Things_thereSet (S 1))))))) else gpA (upr S 0 (upf (S 0) 9 (fun _ => (fit &&& (f_Things_thereSet (S 1)))))) x1 main)
theorem gp_eq (S : Nat → Nat → Nat → Int32) (x1 : Int32) : f_NC_goThroughPart S x1 = if f_Phrase_mainOf (S 2) x1 = (-1) then gpF S x1 (f_Phrase_mainOf (S 2) x1) (f_Things_allSet (S 1)) else gpF S x1 (f_Phrase_mainOf (S 2) x1) (f_NC_fittingSetP S (f_Phrase_mainOf (S 2) x1) 3) := rfl
/-- the kinds of a part, by what it is asked to give -/
def AKd (S : Nat → Nat → Nat → Int32) (k : Nat) (main x2 x3 y4 y5 y8 y9 : Int32) : Prop :=
  (y4 = 1 ∧ y5 = 0 ∧ f_Phrase_amountOf (S 2) (nI k) = -1)
  ∨ (∃ nn : Nat, 0 < nn ∧ nn ≤ 20 ∧ y4 = 0 ∧ y5 = nI nn ∧ f_Phrase_amountOf (S 2) (nI k) = nI nn)
  ∨ (y4 = 0 ∧ y5 = 0 ∧ f_Phrase_amountOf (S 2) (nI k) = 0 ∧ S 0 6 k = (if x3 = 0 then -1 else x2) ∧ ∃ d : Nat, main = nI d ∧ ((f_Phrase_tells (S 2) (nI d) 31 = 0) ↔ y9 = 0) ∧ ∀ S', S' 1 = S 1 → S' 2 = S 2 → S' 4 = S 4 → f_NC_fittingSetP S' (nI d) 2 = y8)
theorem AKd_FR {S S1 : Nat → Nat → Nat → Int32} {k : Nat} {main x2 x3 y4 y5 y8 y9 : Int32} (h : FR S S1) (g : AKd S k main x2 x3 y4 y5 y8 y9) : AKd S1 k main x2 x3 y4 y5 y8 y9 := by
  unfold AKd
  rw [h.1 2 (by omega), h.1 1 (by omega), h.1 4 (by omega), h.2 6 (by omega)]
  exact g
def xit (x2 x3 : Int32) (X : Nat → Nat → Int32) (y4 y5 y8 y9 z : Int32) : Nat → Nat → Int32 := if z = 0 then upf X 19 (fun _ => 5) else (if y5 ≤ f_bitCount z then f_M_partF_J400 1 x2 x3 (upf X 19 (fun _ => X 19 0)) y4 y5 y8 y9 z else upf X 19 (fun _ => 6))
theorem xit_res {N k : Nat} (hN : N ≤ 32) (hk : k < 30) {S : Nat → Nat → Nat → Int32} {X : Nat → Nat → Int32} (h : RT (S 1) X) (en : X 1 0 = nI N) {main x2 x3 y4 y5 y8 y9 z : Int32} (hz : S 0 9 0 = z) (x19 : X 19 0 = 0) (x20 : X 20 0 = 0) (x21 : X 21 0 = f_bitCount z) (x22 : X 22 0 = 0) (hs : ∀ t, t < 32 → bt z t = true → t < N) (hA : AKd S k main x2 x3 y4 y5 y8 y9) : PRes N k S (gpC S (nI k) main) (xit x2 x3 X y4 y5 y8 y9 z) := by
  unfold gpC xit
  rw [hz]
  by_cases c0 : z = 0
  · rw [if_pos c0, if_pos c0]
    exact Or.inr (Or.inr (Or.inl ⟨Or.inr (Or.inr rfl), rfl, x20, GF_of (FR_refl S), rfl⟩))
  · rw [if_neg c0, if_neg c0]
    unfold gpB
    rcases hA with ⟨a1, a2, a3⟩ | ⟨nn, n1, n2, a1, a2, a3⟩ | ⟨a1, a2, a3, a4, d, a5, a6, a7⟩
    · rw [a1, a2, a3, if_pos (by decide), if_pos rfl, if_pos (bc_0 z)]
      unfold f_M_partF_J400
      rw [if_pos (Int32.le_refl 0), if_neg one0, hz]
      exact Or.inl ⟨rfl, x19, x20, ⟨rfl, rfl, rfl, fun j _ _ _ => rfl⟩, rfl, rfl, hs⟩
    · have q : ¬ nI nn ≤ 0 := by
        rw [Int32.le_iff_toInt_le, nI_toInt (by omega)]
        have e0 : (0 : Int32).toInt = 0 := by decide
        omega
      rw [a2, a3, if_neg q]
      by_cases cb : nI nn ≤ f_bitCount z
      · rw [if_pos cb]
        exact num_res (X := upf X 19 (fun _ => X 19 0)) hN n1 n2 h en hz x19 x20 x22 hs cb
      · rw [if_neg cb]
        unfold f_NC_giveNumber
        rw [hz, if_neg cb]
        exact Or.inr (Or.inr (Or.inr ⟨Or.inr rfl, rfl, x20, GF_of (FR_refl S), rfl, by show X 21 0 = f_bitCount (S 0 9 0); rw [hz, x21]⟩))
    · rw [a1, a2, a3, if_pos (by decide), if_neg (by decide), if_pos (bc_0 z), a5]
      exact mean_res (X := upf X 19 (fun _ => X 19 0)) hN h en hk hz a4 (a7 S rfl rfl rfl) a6 x19 x20 x21 hs
theorem l254_0 {m : Nat} {X : Nat → Nat → Int32} {x2 x3 y4 y5 y8 y9 z : Int32} (x19 : X 19 0 = 0) (hy : y4 = 0 ∨ ¬ f_M_hereF X = 35) : f_M_partF_L254 1 x2 x3 y4 y5 y8 y9 (m + 1) X z = xit x2 x3 X y4 y5 y8 y9 z := by
  have core : (if (X 19 0) = 0 then (if z = 0 then (if (1 : Int32) = 0 then (upf X 19 (fun _ => 5)) else (upf X 19 (fun _ => 5))) else (if y5 ≤ (f_bitCount z) then (if (1 : Int32) = 0 then (upf X 19 (fun _ => (X 19 0))) else (if (X 19 0) ≤ 0 then (f_M_partF_J400 1 x2 x3 (upf X 19 (fun _ => (X 19 0))) y4 y5 y8 y9 z) else (upf X 19 (fun _ => (X 19 0))))) else (if (1 : Int32) = 0 then (upf X 19 (fun _ => 6)) else (upf X 19 (fun _ => 6))))) else (if (1 : Int32) = 0 then (upf X 19 (fun _ => (X 19 0))) else (if (X 19 0) ≤ 0 then (f_M_partF_J400 1 x2 x3 (upf X 19 (fun _ => (X 19 0))) y4 y5 y8 y9 z) else (upf X 19 (fun _ => (X 19 0)))))) = xit x2 x3 X y4 y5 y8 y9 z := by
    unfold xit
    rw [if_pos x19]
    by_cases c0 : z = 0
    · rw [if_pos c0, if_pos c0, if_neg one0]
    · rw [if_neg c0, if_neg c0]
      by_cases cb : y5 ≤ f_bitCount z
      · rw [if_pos cb, if_pos cb, if_neg one0, if_pos (by rw [x19]; exact Int32.le_refl 0)]
      · rw [if_neg cb, if_neg cb, if_neg one0]
  by_cases c4 : y4 = 0
  · rw [f_M_partF_L254, if_pos c4]
    exact core
  · rw [f_M_partF_L254, if_neg c4, if_neg (hy.resolve_left c4)]
    exact core
theorem l254_r {m : Nat} {X : Nat → Nat → Int32} {x2 x3 y4 y5 y8 y9 z : Int32} (x19 : ¬ X 19 0 ≤ 0) (hy : y4 = 0 ∨ ¬ f_M_hereF X = 35) : f_M_partF_L254 1 x2 x3 y4 y5 y8 y9 (m + 1) X z = upf X 19 (fun _ => X 19 0) := by
  have n19 : ¬ X 19 0 = 0 := fun q => x19 (by rw [q]; exact Int32.le_refl 0)
  by_cases c4 : y4 = 0
  · rw [f_M_partF_L254, if_pos c4, if_neg n19, if_neg one0, if_neg x19]
  · rw [f_M_partF_L254, if_neg c4, if_neg (hy.resolve_left c4), if_neg n19, if_neg one0, if_neg x19]
theorem exc_skip {f : Nat → Int32} {n : Nat} (hn : n ≤ 30) {P : Nat → Nat → Int32} {c : Nat} {x2 x3 y4 y5 y8 y9 : Int32} (hy : ¬ y4 = 0) (hc : ¬ tk f n c = 35) : ∀ (m d b fu : Nat) (X : Nat → Nat → Int32) (z : Int32), ExcAt f n P m d b c → b ≤ n → n - b ≤ fu → X 24 = f → X 13 0 = nI n → X 14 0 = nI b → ¬ X 19 0 ≤ 0 →
    (f_M_partF_L254 1 x2 x3 y4 y5 y8 y9 (fu + 1) X z) 19 0 = X 19 0 ∧ (f_M_partF_L254 1 x2 x3 y4 y5 y8 y9 (fu + 1) X z) 20 0 = X 20 0 ∧ (f_M_partF_L254 1 x2 x3 y4 y5 y8 y9 (fu + 1) X z) 21 0 = X 21 0 := by
  intro m
  induction m with
  | zero =>
    intro d b fu X z hE hb hf e24 e13 e14 x19
    have eh := hereF_tk hn (by omega) e13 e14
    have hbc : b = c := hE
    rw [e24, hbc] at eh
    rw [l254_r x19 (Or.inr (by rw [eh]; exact hc))]
    exact ⟨rfl, rfl, rfl⟩
  | succ m ih =>
    intro d b fu X z hE hb hf e24 e13 e14 x19
    obtain ⟨t35, b1, hD, hE'⟩ := hE
    have hl := tk_is t35 (by decide)
    have eh := hereF_tk hn (by omega) e13 e14
    rw [e24, t35] at eh
    obtain ⟨k1, k2, k3, k4, k5, k6⟩ := rdF_all (a := b + 1) hn (by omega) (X := upf X 14 (fun _ => ((X 14 0) + 1))) e13 (by show X 14 0 + 1 = _; rw [e14, nI_1])
    have e24' : (upf X 14 (fun _ => ((X 14 0) + 1))) 24 = f := e24
    rw [e24'] at k1 k2
    have hb1 := hD.2.1
    have hw := hD.1
    rw [if_neg (by omega)] at k2
    have r19 : (f_M_readDescriptionF (upf X 14 (fun _ => ((X 14 0) + 1)))) 19 = X 19 := k6 19 (by omega)
    have r20 : (f_M_readDescriptionF (upf X 14 (fun _ => ((X 14 0) + 1)))) 20 = X 20 := k6 20 (by omega)
    have r21 : (f_M_readDescriptionF (upf X 14 (fun _ => ((X 14 0) + 1)))) 21 = X 21 := k6 21 (by omega)
    have r24 : (f_M_readDescriptionF (upf X 14 (fun _ => ((X 14 0) + 1)))) 24 = f := (k6 24 (by omega)).trans e24
    have r13 : (f_M_readDescriptionF (upf X 14 (fun _ => ((X 14 0) + 1)))) 13 0 = nI n := by
      rw [k6 13 (by omega)]
      exact e13
    have n19 : ¬ X 19 0 = 0 := fun q => x19 (by rw [q]; exact Int32.le_refl 0)
    have lt := dA_lt (f := f) (n := n) (a := b + 1) hl hw
    have dw := dW_le (f := f) (n := n) (a := b + 1) hl
    obtain ⟨fu', rfl⟩ : ∃ fu', fu = fu' + 1 := ⟨fu - 1, by omega⟩
    rw [f_M_partF_L254, if_neg hy, if_pos eh]
    generalize f_M_readDescriptionF (upf X 14 (fun _ => ((X 14 0) + 1))) = R at *
    rw [if_pos k2, if_neg (by rw [r19]; exact n19)]
    obtain ⟨i1, i2, i3⟩ := ih (d + 1) b1 fu' R z hE' (by omega) (by omega) r24 r13 (by rw [k1, hb1]) (by rw [r19]; exact x19)
    rw [i1, i2, i3, r19, r20, r21]
    exact ⟨rfl, rfl, rfl⟩
def ExOut (N : Nat) (S : Nat → Nat → Nat → Int32) (T : Int32 × (Nat → Nat → Nat → Int32)) (Y X : Nat → Nat → Int32) (z x2 x3 y4 y5 y8 y9 : Int32) : Prop :=
  (T.1 = 0 ∧ Y 19 0 = 4 ∧ Y 20 0 = X 20 0 ∧ Y 21 0 = f_bitCount (T.2 0 9 0) ∧ FR S T.2)
  ∨ (T.1 = 1 ∧ FR S T.2 ∧ (∀ t, t < 32 → bt (T.2 0 9 0) t = true → bt z t = true) ∧ ∃ X', Y = xit x2 x3 X' y4 y5 y8 y9 (T.2 0 9 0) ∧ X' 19 0 = 0 ∧ X' 20 0 = X 20 0 ∧ X' 22 0 = X 22 0 ∧ X' 21 0 = f_bitCount (T.2 0 9 0) ∧ RT (S 1) X' ∧ X' 1 0 = X 1 0)
theorem RT_fr {T X X' : Nat → Nat → Int32} (h : RT T X) (fr : ∀ k, 0 < k → k < 9 → X' k = X k) : RT T X' := by
  unfold RT m_t m_k
  rw [fr 1 (by omega) (by omega), fr 2 (by omega) (by omega), fr 3 (by omega) (by omega), fr 4 (by omega) (by omega), fr 5 (by omega) (by omega), fr 6 (by omega) (by omega), fr 7 (by omega) (by omega), fr 8 (by omega) (by omega)]
  exact h
theorem and_sub {a b : Int32} {t : Nat} (h : bt (a &&& b) t = true) : bt a t = true := by
  rw [b_and] at h
  cases q : bt a t
  · rw [q] at h
    exact absurd h (by simp)
  · rfl
theorem and_cm (a b : Int32) : a &&& b = b &&& a := by
  apply b_ext
  intro i _
  rw [b_and, b_and, Bool.and_comm]
theorem exc_res {f : Nat → Int32} {n N : Nat} (hn : n ≤ 30) {c : Nat} {xk x2 x3 y4 y5 y8 y9 : Int32} (hy : ¬ y4 = 0) (hc : ¬ tk f n c = 35) : ∀ (m d b fu : Nat) (S : Nat → Nat → Nat → Int32) (X : Nat → Nat → Int32) (z : Int32), ExcAt f n (S 2) m d b c → b ≤ n → n - b ≤ fu → d + m ≤ 30 → RT (S 1) X → S 4 2 0 = X 31 0 → X 24 = f → X 13 0 = nI n → X 14 0 = nI b → X 19 0 = 0 → X 21 0 = f_bitCount z → S 0 9 0 = z →
    ExOut N S (f_NC_takeExceptsAway_L18 xk (nI (d + m)) (m + 1) S (nI d)) (f_M_partF_L254 1 x2 x3 y4 y5 y8 y9 (fu + 1) X z) X z x2 x3 y4 y5 y8 y9 := by
  intro m
  induction m with
  | zero =>
    intro d b fu S X z hE hb hf hdm hT hl e24 e13 e14 x19 x21 hz
    have eh := hereF_tk hn (by omega) e13 e14
    have hbc : b = c := hE
    rw [e24, hbc] at eh
    rw [l254_0 x19 (Or.inr (by rw [eh]; exact hc)), f_NC_takeExceptsAway_L18, if_pos (by rw [Nat.add_zero]; exact Int32.le_refl _)]
    refine Or.inr ⟨rfl, FR_refl S, fun t _ q => by rw [← hz]; exact q, X, ?_, x19, rfl, rfl, ?_, hT, rfl⟩
    · show xit x2 x3 X y4 y5 y8 y9 z = xit x2 x3 X y4 y5 y8 y9 (S 0 9 0)
      rw [hz]
    · show X 21 0 = f_bitCount (S 0 9 0)
      rw [hz]
      exact x21
  | succ m ih =>
    intro d b fu S X z hE hb hf hdm hT hl e24 e13 e14 x19 x21 hz
    obtain ⟨t35, b1, hD, hE'⟩ := hE
    have hl2 := tk_is t35 (by decide)
    have eh := hereF_tk hn (by omega) e13 e14
    rw [e24, t35] at eh
    have kk := rdF_all (a := b + 1) hn (by omega) (X := upf X 14 (fun _ => ((X 14 0) + 1))) e13 (by show X 14 0 + 1 = _; rw [e14, nI_1])
    have e24' : (upf X 14 (fun _ => ((X 14 0) + 1))) 24 = f := e24
    rw [e24'] at kk
    have dY := des_y hD kk
    obtain ⟨k1, k2, k3, k4, k5, k6⟩ := kk
    have hb1 := hD.2.1
    have hw := hD.1
    rw [if_neg (by omega)] at k2
    have fr : ∀ k, ¬ k = 14 → ¬ k = 15 → ¬ k = 16 → ¬ k = 17 → ¬ k = 18 → (f_M_readDescriptionF (upf X 14 (fun _ => ((X 14 0) + 1)))) k = X k := fun k a1 a2 a3 a4 a5 => (k6 k (by omega)).trans (upf_ne (nb a1))
    have lt := dA_lt (f := f) (n := n) (a := b + 1) hl2 hw
    have dw := dW_le (f := f) (n := n) (a := b + 1) hl2
    obtain ⟨fu', rfl⟩ : ∃ fu', fu = fu' + 1 := ⟨fu - 1, by omega⟩
    have q1 : ¬ nI (d + (m + 1)) ≤ nI d := by
      rw [Int32.le_iff_toInt_le, nI_toInt (by omega), nI_toInt (by omega)]
      omega
    rw [f_M_partF_L254, if_neg hy, if_pos eh, f_NC_takeExceptsAway_L18, if_neg q1]
    generalize f_M_readDescriptionF (upf X 14 (fun _ => ((X 14 0) + 1))) = R at *
    have hR : RT (S 1) R := RT_fr hT (fun k h1 h2 => fr k (by omega) (by omega) (by omega) (by omega) (by omega))
    have hlR : S 4 2 0 = R 31 0 := by
      rw [fr 31 (by omega) (by omega) (by omega) (by omega) (by omega)]
      exact hl
    have r13 : R 13 0 = nI n := by
      rw [fr 13 (by omega) (by omega) (by omega) (by omega) (by omega)]
      exact e13
    have r24 : R 24 = f := (fr 24 (by omega) (by omega) (by omega) (by omega) (by omega)).trans e24
    have r19 : R 19 = X 19 := fr 19 (by omega) (by omega) (by omega) (by omega) (by omega)
    have r20 : R 20 = X 20 := fr 20 (by omega) (by omega) (by omega) (by omega) (by omega)
    have r22 : R 22 = X 22 := fr 22 (by omega) (by omega) (by omega) (by omega) (by omega)
    have r1 : R 1 = X 1 := fr 1 (by omega) (by omega) (by omega) (by omega) (by omega)
    have r19z : R 19 0 = 0 := by
      rw [r19]
      exact x19
    rw [if_pos k2, if_pos r19z, hz, e_fitP hR dY hlR 3, and_cm z (f_M_fitting R 3)]
    generalize f_M_fitting R 3 &&& z = g
    by_cases cg : g = 0
    · rw [if_pos cg, if_pos cg]
      have ez : z &&& (g ^^^ (-1)) = z := by rw [cg, rest_0]
      rw [ez]
      obtain ⟨i1, i2, i3⟩ := exc_skip (x2 := x2) (x3 := x3) (y5 := y5) (y8 := y8) (y9 := y9) hn hy hc m (d + 1) b1 fu' (upf (upf R 19 (fun _ => 4)) 21 (fun _ => f_bitCount z)) z hE' (by omega) (by omega) r24 r13 (by show R 14 0 = _; rw [k1, hb1]) (by show ¬ (4 : Int32) ≤ 0; decide)
      exact Or.inl ⟨rfl, i1, i2.trans (congrFun r20 0), i3.trans (congrArg f_bitCount hz.symm), FR_refl S⟩
    · rw [if_neg cg, if_neg cg, nI_1]
      have w := ih (d + 1) b1 fu' (upr S 0 (upf (S 0) 9 (fun _ => z &&& (g ^^^ (-1))))) (upf (upf R 19 (fun _ => 0)) 21 (fun _ => f_bitCount (z &&& (g ^^^ (-1))))) (z &&& (g ^^^ (-1))) hE' (by omega) (by omega) (by omega) hR hlR r24 r13 (by show R 14 0 = _; rw [k1, hb1]) rfl rfl rfl
      rw [show d + 1 + m = d + (m + 1) by omega] at w
      rcases w with ⟨w1, w2, w3, w4, w5⟩ | ⟨w1, w2, w3, X', w4, w5, w6, w7, w8, w9, w10⟩
      · exact Or.inl ⟨w1, w2, w3.trans (congrFun r20 0), w4, FR_trans (FR_9 S _) w5⟩
      · exact Or.inr ⟨w1, FR_trans (FR_9 S _) w2, fun t ht q => and_sub (w3 t ht q), X', w4, w5, w6.trans (congrFun r20 0), w7.trans (congrFun r22 0), w8, w9, w10.trans (congrFun r1 0)⟩
