/-! ===== what a part gives: the component against the reference ===== -/
def GF (S S' : Nat → Nat → Nat → Int32) : Prop := S' 1 = S 1 ∧ S' 2 = S 2 ∧ S' 4 = S 4 ∧ ∀ j, ¬ j = 9 → ¬ j = 10 → ¬ j = 11 → S' 0 j = S 0 j
def PRes (N k : Nat) (S : Nat → Nat → Nat → Int32) (G : Int32 × (Nat → Nat → Nat → Int32)) (Y : Nat → Nat → Int32) : Prop :=
  (G.1 = 0 ∧ Y 19 0 = 0 ∧ Y 20 0 = 0 ∧ GF S G.2 ∧ G.2 0 10 = S 0 10 ∧ G.2 5 = f_Picks_add (S 5) (Y 22 0) ∧ ∀ t, t < 32 → bt (Y 22 0) t = true → t < N)
  ∨ (G.1 = 1 ∧ Y 19 0 = 0 ∧ ¬ Y 20 0 = 0 ∧ GF S G.2 ∧ G.2 0 10 0 = Y 20 0 ∧ G.2 0 11 0 = nI k ∧ Y 21 0 = f_bitCount (G.2 0 9 0) ∧ ∀ t, t < 32 → bt (Y 20 0) t = true → t < N)
  ∨ ((G.1 = 2 ∨ G.1 = 3 ∨ G.1 = 5) ∧ Y 19 0 = G.1 ∧ Y 20 0 = 0 ∧ GF S G.2 ∧ G.2 0 10 = S 0 10)
  ∨ ((G.1 = 4 ∨ G.1 = 6) ∧ Y 19 0 = G.1 ∧ Y 20 0 = 0 ∧ GF S G.2 ∧ G.2 0 10 = S 0 10 ∧ Y 21 0 = f_bitCount (G.2 0 9 0))
theorem lst_b {x : Int32} {t : Nat} (h : bt (f_M_least x) t = true) : bt x t = true := by
  unfold f_M_least at h
  rw [b_and] at h
  cases h9 : bt x t
  · rw [h9] at h
    exact absurd h (by simp)
  · rfl
theorem and_m1 {x : Int32} : x &&& (-1) = x := by
  apply b_ext
  intro i hi
  rw [b_and, b_m1 i hi, Bool.and_true]
theorem bc_0 (x : Int32) : (0 : Int32) ≤ f_bitCount x := by
  have l := cnt_le x 32
  rw [e_bc, Int32.le_iff_toInt_le, nI_toInt (by omega)]
  exact Int.natCast_nonneg _
theorem mean_J {X : Nat → Nat → Int32} {x2 x3 y8 y9 z L : Int32} (hm : z &&& y8 = 0) (hL : L = z &&& (if x3 = 0 then -1 else x2)) : f_M_partF_J400 1 x2 x3 X 0 0 y8 y9 z = (if (f_M_likeliest X L) = 0 then (upf (upf X 19 (fun _ => 3)) 21 (fun _ => 0)) else (if y9 = 0 then (if (f_M_areAlike X (f_M_likeliest X L)) = 0 then (upf X 20 (fun _ => (f_M_likeliest X L))) else (upf X 22 (fun _ => (f_M_least (f_M_likeliest X L))))) else (upf X 22 (fun _ => (f_M_least (f_M_likeliest X L)))))) := by
  unfold f_M_partF_J400
  rw [if_pos (Int32.le_refl 0), if_pos rfl, if_pos hm]
  by_cases c : x3 = 0
  · rw [if_pos c, and_m1] at hL
    rw [if_pos c, hL]
  · rw [if_neg c] at hL
    rw [if_neg c, hL]
theorem mean_res {N k d : Nat} (hN : N ≤ 32) {S : Nat → Nat → Nat → Int32} {X : Nat → Nat → Int32} (h : RT (S 1) X) (en : X 1 0 = nI N) (hk : k < 30) {x2 x3 z y8 y9 : Int32} (hz : S 0 9 0 = z) (hL : S 0 6 k = if x3 = 0 then -1 else x2) (h8 : f_NC_fittingSetP S (nI d) 2 = y8) (h9 : (f_Phrase_tells (S 2) (nI d) 31 = 0) ↔ y9 = 0) (x19 : X 19 0 = 0) (x20 : X 20 0 = 0) (x21 : X 21 0 = f_bitCount z) (hs : ∀ t, t < 32 → bt z t = true → t < N) : PRes N k S (f_NC_giveMeant S (nI k) (nI d)) (f_M_partF_J400 1 x2 x3 X 0 0 y8 y9 z) := by
  unfold f_NC_giveMeant
  rw [hz, h8]
  by_cases cm : z &&& y8 = 0
  · have k1 : ¬ nI k < 0 := by
      rw [Int32.lt_iff_toInt_lt, nI_toInt (by omega)]
      have e0 : (0 : Int32).toInt = 0 := by decide
      omega
    have k2 : ¬ 30 ≤ nI k := by
      rw [Int32.le_iff_toInt_le, nI_toInt (by omega)]
      have e0 : (30 : Int32).toInt = 30 := by decide
      omega
    rw [if_pos cm, if_neg k1, if_neg k2, nI_clamp (by omega), mean_J cm rfl, ← hL]
    have hsL : ∀ t, t < 32 → bt (z &&& S 0 6 k) t = true → t < N := by
      intro t ht hb
      rw [b_and] at hb
      refine hs t ht ?_
      cases q : bt z t
      · rw [q] at hb
        exact absurd hb (by simp)
      · rfl
    generalize z &&& S 0 6 k = L at hsL ⊢
    obtain ⟨s1, s2⟩ := lk_sub h hN en L
    rw [e_best h]
    by_cases cL : L = 0
    · have q : f_M_likeliest X L = 0 := s2.mpr (fun t _ => by rw [cL, b_0])
      rw [if_pos cL, if_pos q]
      exact Or.inr (Or.inr (Or.inl ⟨Or.inr (Or.inl rfl), rfl, x20, ⟨rfl, rfl, rfl, fun j _ _ _ => rfl⟩, rfl⟩))
    · have q : ¬ f_M_likeliest X L = 0 := by
        intro q
        apply cL
        apply b_ext
        intro i hi
        rw [b_0]
        cases h7 : bt L i
        · rfl
        · exact absurd (s2.mp q i (hsL i hi h7)) (by rw [h7]; decide)
      rw [if_neg cL, if_neg q]
      have hB : ∀ t, t < 32 → bt (f_M_likeliest X L) t = true → t < N := fun t ht hb => (s1 t ht hb).2
      generalize f_M_likeliest X L = B at q hB ⊢
      have hG : ∀ t, t < 32 → bt (f_M_least B) t = true → t < N := fun t ht hb => hB t ht (lst_b hb)
      have give : PRes N k S ((0 : Int32), (upr S 5 (f_Picks_add (S 5) (f_NC_leastOf B)))) (upf X 22 (fun _ => f_M_least B)) := Or.inl ⟨rfl, x19, x20, ⟨rfl, rfl, rfl, fun j _ _ _ => rfl⟩, rfl, rfl, hG⟩
      by_cases c9 : y9 = 0
      · rw [if_pos (h9.mpr c9), if_pos c9]
        by_cases c1 : f_M_areAlike X B = 0
        · rw [if_neg (fun w => (e_one h hN en q hB).mp w c1), if_pos c1]
          exact Or.inr (Or.inl ⟨rfl, x19, q, ⟨rfl, rfl, rfl, fun j j9 j10 j11 => by show upf (upf (S 0) 10 _) 11 _ j = _; rw [upf_ne (nb j11), upf_ne (nb j10)]⟩, rfl, rfl, by show X 21 0 = f_bitCount (S 0 9 0); rw [x21, hz], hB⟩)
        · rw [if_pos ((e_one h hN en q hB).mpr c1), if_neg c1]
          exact give
      · rw [if_neg (fun w => c9 (h9.mp w)), if_neg c9]
        exact give
  · rw [if_neg cm]
    unfold f_M_partF_J400
    rw [if_pos (Int32.le_refl 0), if_pos rfl, if_neg cm]
    refine Or.inl ⟨rfl, x19, x20, ⟨rfl, rfl, rfl, fun j _ _ _ => rfl⟩, rfl, rfl, ?_⟩
    intro t ht hb
    have hb2 : bt (z &&& y8) t = true := hb
    rw [b_and] at hb2
    refine hs t ht ?_
    cases q : bt z t
    · rw [q] at hb2
      exact absurd hb2 (by simp)
    · rfl
theorem rest_s {c g l : Int32} : (c &&& (g ^^^ (-1))) &&& (l ^^^ (-1)) = c &&& ((g ||| l) ^^^ (-1)) := by
  apply b_ext
  intro i hi
  rw [b_and, b_and, b_not hi, b_not hi, b_and, b_not hi, b_or]
  cases bt c i <;> cases bt g i <;> cases bt l i <;> rfl
theorem rest_e {c g : Int32} (h : ∀ t, t < 32 → bt g t = true → bt c t = true) : c &&& ((c &&& (g ^^^ (-1))) ^^^ (-1)) = g := by
  apply b_ext
  intro i hi
  rw [b_and, b_not hi, b_and, b_not hi]
  have q := h i hi
  cases h1 : bt c i <;> cases h2 : bt g i
  · rfl
  · rw [h1, h2] at q
    exact absurd (q rfl) (by decide)
  · rfl
  · rfl
theorem rest_0 {c : Int32} : c &&& ((0 : Int32) ^^^ (-1)) = c := by
  apply b_ext
  intro i hi
  rw [b_and, b_not hi, b_0]
  cases bt c i <;> rfl
theorem num_L {N nn : Nat} (hN : N ≤ 32) (hnn : nn ≤ 20) {S : Nat → Nat → Nat → Int32} {c x2 x3 y4 y8 y9 : Int32} (hc : S 0 9 0 = c) : ∀ (m i : Nat) (X : Nat → Nat → Int32), i + m = nn → RT (S 1) X → X 1 0 = nI N → (∀ t, t < 32 → bt (X 22 0) t = true → bt c t = true) →
    (∀ j, ¬ j = 22 → (f_M_partF_L408 1 x2 x3 y4 (nI nn) y8 y9 c (m + 1) X (nI i)) j = X j) ∧ (∀ t, t < 32 → bt ((f_M_partF_L408 1 x2 x3 y4 (nI nn) y8 y9 c (m + 1) X (nI i)) 22 0) t = true → bt c t = true) ∧ f_NC_giveNumber_L21 S (nI nn) (m + 1) (nI i) (c &&& ((X 22 0) ^^^ (-1))) = (0, (upr S 5 (f_Picks_add (S 5) ((f_M_partF_L408 1 x2 x3 y4 (nI nn) y8 y9 c (m + 1) X (nI i)) 22 0)))) := by
  intro m
  induction m with
  | zero =>
    intro i X hi h en hs
    have q : nI nn ≤ nI i := by
      rw [Int32.le_iff_toInt_le, nI_toInt (by omega), nI_toInt (by omega)]
      omega
    rw [f_M_partF_L408, if_pos q, f_NC_giveNumber_L21, if_pos q, hc, rest_e hs]
    exact ⟨fun j _ => rfl, hs, rfl⟩
  | succ m ih =>
    intro i X hi h en hs
    have q : ¬ nI nn ≤ nI i := by
      rw [Int32.le_iff_toInt_le, nI_toInt (by omega), nI_toInt (by omega)]
      omega
    rw [f_M_partF_L408, if_neg q, f_NC_giveNumber_L21, if_neg q, e_best h, nI_1]
    have sb := (lk_sub h hN en (c &&& ((X 22 0) ^^^ (-1)))).1
    have e : f_NC_leastOf (f_M_likeliest X (c &&& ((X 22 0) ^^^ (-1)))) = f_M_least (f_M_likeliest X (c &&& ((X 22 0) ^^^ (-1)))) := rfl
    rw [e]
    have hs' : ∀ t, t < 32 → bt ((X 22 0) ||| f_M_least (f_M_likeliest X (c &&& ((X 22 0) ^^^ (-1))))) t = true → bt c t = true := by
      intro t ht hb
      rw [b_or] at hb
      cases h1 : bt (X 22 0) t
      · rw [h1, Bool.false_or] at hb
        have k := (sb t ht (lst_b hb)).1
        rw [b_and] at k
        cases h2 : bt c t
        · rw [h2] at k
          exact absurd k (by simp)
        · rfl
      · exact hs t ht h1
    generalize f_M_least (f_M_likeliest X (c &&& ((X 22 0) ^^^ (-1)))) = l at hs' ⊢
    rw [rest_s]
    obtain ⟨i1, i2, i3⟩ := ih (i + 1) (upf X 22 (fun _ => ((X 22 0) ||| l))) (by omega) h en hs'
    exact ⟨fun j hj => (i1 j hj).trans (upf_ne (nb hj)), i2, i3⟩
theorem num_res {N k nn : Nat} (hN : N ≤ 32) (hn1 : 0 < nn) (hnn : nn ≤ 20) {S : Nat → Nat → Nat → Int32} {X : Nat → Nat → Int32} (h : RT (S 1) X) (en : X 1 0 = nI N) {x2 x3 y4 y8 y9 z : Int32} (hz : S 0 9 0 = z) (x19 : X 19 0 = 0) (x20 : X 20 0 = 0) (x22 : X 22 0 = 0) (hs : ∀ t, t < 32 → bt z t = true → t < N) (hb : nI nn ≤ f_bitCount z) : PRes N k S (f_NC_giveNumber S (nI nn)) (f_M_partF_J400 1 x2 x3 X y4 (nI nn) y8 y9 z) := by
  have q : ¬ nI nn ≤ 0 := by
    rw [Int32.le_iff_toInt_le, nI_toInt (by omega)]
    have e0 : (0 : Int32).toInt = 0 := by decide
    omega
  unfold f_NC_giveNumber f_M_partF_J400
  rw [hz, if_pos hb, if_neg q, mu_n0 (by omega)]
  obtain ⟨i1, i2, i3⟩ := num_L (nn := nn) (x2 := x2) (x3 := x3) (y4 := y4) (y8 := y8) (y9 := y9) hN hnn hz nn 0 X (by omega) h en (fun t ht q => by rw [x22, b_0] at q; exact absurd q (by decide))
  rw [x22, rest_0, nI_0] at i3
  rw [nI_0] at i1 i2
  rw [i3]
  exact Or.inl ⟨rfl, by rw [i1 19 (by omega)]; exact x19, by rw [i1 20 (by omega)]; exact x20, ⟨rfl, rfl, rfl, fun j _ _ _ => rfl⟩, rfl, rfl, fun t ht hb => hs t ht (i2 t ht hb)⟩
