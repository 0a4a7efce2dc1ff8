/-! ===== the likeliest; whether all are alike ===== -/
theorem e_sc {T X : Nat → Nat → Int32} (h : RT T X) {t : Nat} (ht : (t : Int) < (X 1 0).toInt) : f_Things_scoreOf T (nI t) = sc X t := by
  have t2 := h.2.2.1.2
  rw [e_score h (by rw [nI_toInt (by omega)]; omega), m_sc (by omega)]
theorem best_L {S : Nat → Nat → Nat → Int32} {X : Nat → Nat → Int32} (h : RT (S 1) X) {n : Nat} (hn : n ≤ 32) (en : X 1 0 = nI n) {set : Int32} : ∀ (m i : Nat) (gC bC gM bM : Int32), i + m = n → ((gC = gM ∧ bC = bM ∧ -324 ≤ gM.toInt) ∨ (gC = -2147483648 ∧ gM = -10000 ∧ bC = 0 ∧ bM = 0)) → f_NC_bestOf_L8 S set (m + 1) (nI i) gC bC = f_M_likeliest_L9 X set (m + 1) (nI i) gM bM := by
  have ei : (X 1 0).toInt = (n : Int) := by rw [en, nI_toInt (by omega)]
  have e1 : (-2147483648 : Int32).toInt = -2147483648 := by decide
  have e2 : (-10000 : Int32).toInt = -10000 := by decide
  intro m
  induction m with
  | zero =>
    intro i gC bC gM bM hi hR
    rw [f_NC_bestOf_L8, f_M_likeliest_L9, h.2.1, en, if_pos (nI_le (by omega) (by omega)), if_pos (nI_le (by omega) (by omega))]
    rcases hR with q | q
    · exact q.2.1
    · rw [q.2.2.1, q.2.2.2]
  | succ m ih =>
    intro i gC bC gM bM hi hR
    have hb := sc_b h i
    rw [f_NC_bestOf_L8, f_M_likeliest_L9, h.2.1, en, if_neg (nI_ge (by omega) (by omega)), if_neg (nI_ge (by omega) (by omega)), nI_1, e_sc h (by omega), m_sc (by omega)]
    have eh : (f_NC_holds set (nI i) = 0) ↔ (f_M_has set (nI i) = 0) := by rw [nc_h0 (by omega), m_h0 (by omega)]
    by_cases c : f_M_has set (nI i) = 0
    · rw [if_pos c, if_pos (eh.mpr c)]
      exact ih (i + 1) gC bC gM bM (by omega) hR
    · rw [if_neg c, if_neg (fun q => c (eh.mp q)), if_pos (rfl : sc X i = sc X i)]
      rcases hR with ⟨rfl, rfl, q3⟩ | ⟨rfl, rfl, rfl, rfl⟩
      · by_cases c2 : sc X i ≤ gC
        · rw [if_pos c2]
          by_cases c3 : sc X i = gC
          · rw [if_pos c3, if_neg (by rw [c3, Int32.lt_iff_toInt_lt]; omega), if_pos c2]
            exact ih (i + 1) _ _ _ _ (by omega) (Or.inl ⟨c3.symm, rfl, hb.1⟩)
          · have c4 : sc X i < gC := by
              rw [Int32.le_iff_toInt_le] at c2
              rw [Int32.lt_iff_toInt_lt]
              have : ¬ (sc X i).toInt = gC.toInt := fun k => c3 (Int32.toInt_inj.mp k)
              omega
            rw [if_neg c3, if_pos c4]
            exact ih (i + 1) _ _ _ _ (by omega) (Or.inl ⟨rfl, rfl, q3⟩)
        · rw [if_neg c2, if_neg (by rw [Int32.le_iff_toInt_le] at c2; rw [Int32.lt_iff_toInt_lt]; omega), if_neg c2]
          exact ih (i + 1) _ _ _ _ (by omega) (Or.inl ⟨rfl, rfl, hb.1⟩)
      · have c2 : ¬ sc X i ≤ -2147483648 := by
          rw [Int32.le_iff_toInt_le]
          omega
        have c3 : ¬ sc X i < -10000 := by
          rw [Int32.lt_iff_toInt_lt]
          omega
        have c4 : ¬ sc X i ≤ -10000 := by
          rw [Int32.le_iff_toInt_le]
          omega
        rw [if_neg c2, if_neg c3, if_neg c4]
        exact ih (i + 1) _ _ _ _ (by omega) (Or.inl ⟨rfl, rfl, hb.1⟩)
theorem e_best {S : Nat → Nat → Nat → Int32} {X : Nat → Nat → Int32} (h : RT (S 1) X) (set : Int32) : f_NC_bestOf S set = f_M_likeliest X set := by
  obtain ⟨n, hn, en, _⟩ := th_n h
  have k := best_L h hn en (set := set) n 0 (-2147483648) 0 (-10000) 0 (by omega) (Or.inr ⟨rfl, rfl, rfl, rfl⟩)
  unfold f_NC_bestOf f_M_likeliest
  rw [h.2.1, en, mu_n0 (by omega)]
  rw [nI_0] at k
  exact k
theorem lk_L {X : Nat → Nat → Int32} {n : Nat} (hn : n ≤ 32) (en : X 1 0 = nI n) (hs : ∀ a, -324 ≤ (sc X a).toInt) {set : Int32} : ∀ (m i : Nat) (g b : Int32), i + m = n → ((¬ b = 0) ∨ g = -10000) → (∀ t, t < 32 → bt b t = true → bt set t = true ∧ t < n) →
    (∀ t, t < 32 → bt (f_M_likeliest_L9 X set (m + 1) (nI i) g b) t = true → bt set t = true ∧ t < n) ∧ ((f_M_likeliest_L9 X set (m + 1) (nI i) g b = 0) ↔ (b = 0 ∧ ∀ t, i ≤ t → t < n → bt set t = false)) := by
  have e2 : (-10000 : Int32).toInt = -10000 := by decide
  intro m
  induction m with
  | zero =>
    intro i g b hi hg hb
    rw [f_M_likeliest_L9, en, if_pos (nI_le (by omega) (by omega))]
    exact ⟨hb, fun q => ⟨q, fun t t1 t2 => absurd t2 (by omega)⟩, fun q => q.1⟩
  | succ m ih =>
    intro i g b hi hg hb
    rw [f_M_likeliest_L9, en, if_neg (nI_ge (by omega) (by omega)), nI_1, m_sc (by omega)]
    have sb := hs i
    have bit : ∀ z : Int32, ¬ (z ||| ((1 : Int32) <<< (nI i &&& 31))) = 0 := by
      intro z q
      have := congrArg (fun y => bt y i) q
      simp only [b_or, b_0, b_sh1 (show i < 32 by omega) (show i < 32 by omega)] at this
      simp at this
    by_cases c : f_M_has set (nI i) = 0
    · have nl := (m_h0 (by omega)).mp c
      rw [if_pos c]
      obtain ⟨k1, k2⟩ := ih (i + 1) g b (by omega) hg hb
      refine ⟨k1, k2.trans (and_congr Iff.rfl ⟨fun q t t1 t2 => ?_, fun q t t1 t2 => q t (by omega) t2⟩)⟩
      rcases Nat.lt_or_ge i t with q3 | q3
      · exact q t q3 t2
      · rw [show t = i by omega]
        exact nl
    · have hl : bt set i = true := by
        cases h9 : bt set i
        · exact absurd ((m_h0 (by omega)).mpr h9) c
        · rfl
      have no : ∀ A : Prop, ¬ (A ∧ ∀ t, i ≤ t → t < n → bt set t = false) := fun A q => by
        have := q.2 i (Nat.le_refl _) (by omega)
        rw [hl] at this
        exact absurd this (by decide)
      have sub : ∀ z : Int32, (∀ t, t < 32 → bt z t = true → bt set t = true ∧ t < n) → ∀ t, t < 32 → bt (z ||| ((1 : Int32) <<< (nI i &&& 31))) t = true → bt set t = true ∧ t < n := by
        intro z hz t ht q
        rw [b_or, b_sh1 (by omega) ht, Bool.or_eq_true, decide_eq_true_eq] at q
        rcases q with q | q
        · exact hz t ht q
        · rw [q]
          exact ⟨hl, by omega⟩
      have sub0 : ∀ t, t < 32 → bt 0 t = true → bt set t = true ∧ t < n := fun t _ q => by
        rw [b_0] at q
        exact absurd q (by decide)
      rw [if_neg c]
      by_cases c2 : sc X i < g
      · rw [if_pos c2]
        have hb0 : ¬ b = 0 := by
          rcases hg with q | q
          · exact q
          · rw [q, Int32.lt_iff_toInt_lt] at c2
            omega
        obtain ⟨k1, k2⟩ := ih (i + 1) g b (by omega) hg hb
        exact ⟨k1, fun q => absurd (k2.mp q).1 hb0, fun q => absurd q (no _)⟩
      · rw [if_neg c2]
        by_cases c3 : sc X i ≤ g
        · rw [if_pos c3]
          obtain ⟨k1, k2⟩ := ih (i + 1) (sc X i) _ (by omega) (Or.inl (bit b)) (sub b hb)
          exact ⟨k1, fun q => absurd (k2.mp q).1 (bit b), fun q => absurd q (no _)⟩
        · rw [if_neg c3]
          obtain ⟨k1, k2⟩ := ih (i + 1) (sc X i) _ (by omega) (Or.inl (bit 0)) (sub 0 sub0)
          exact ⟨k1, fun q => absurd (k2.mp q).1 (bit 0), fun q => absurd q (no _)⟩
theorem lk_sub {T X : Nat → Nat → Int32} (h : RT T X) {n : Nat} (hn : n ≤ 32) (en : X 1 0 = nI n) (set : Int32) : (∀ t, t < 32 → bt (f_M_likeliest X set) t = true → bt set t = true ∧ t < n) ∧ ((f_M_likeliest X set = 0) ↔ (∀ t, t < n → bt set t = false)) := by
  obtain ⟨k1, k2⟩ := lk_L hn en (fun a => (sc_b h a).1) (set := set) n 0 (-10000) 0 (by omega) (Or.inr rfl) (fun t _ q => by rw [b_0] at q; exact absurd q (by decide))
  have e : f_M_likeliest X set = f_M_likeliest_L9 X set (n + 1) (nI 0) (-10000) 0 := by
    unfold f_M_likeliest
    rw [en, mu_n0 (by omega)]
    rfl
  rw [e]
  exact ⟨k1, k2.trans ⟨fun q t t1 => q.2 t (Nat.zero_le _) t1, fun q => ⟨rfl, fun t _ t1 => q t t1⟩⟩⟩
/-! == all alike == -/
theorem al_L15 {X : Nat → Nat → Int32} {set : Int32} {a : Nat} (ha : a < 32) : ∀ (m i : Nat) (z : Int32), i + m = a → (z = 0 ∨ z = 1) → (f_M_areAlike_L15 X set (nI a) (m + 1) (nI i) z = 0 ∨ f_M_areAlike_L15 X set (nI a) (m + 1) (nI i) z = 1) ∧ ((f_M_areAlike_L15 X set (nI a) (m + 1) (nI i) z = 1) ↔ (z = 1 ∧ ∀ b, i ≤ b → b < a → bt set a = true → bt set b = true → alk X a b)) := by
  intro m
  induction m with
  | zero =>
    intro i z hi hz
    rw [f_M_areAlike_L15, if_pos (nI_le (by omega) (by omega))]
    exact ⟨hz, fun q => ⟨q, fun b b1 b2 => absurd b2 (by omega)⟩, fun q => q.1⟩
  | succ m ih =>
    intro i z hi hz
    have k0 := ih (i + 1) 0 (by omega) (Or.inl rfl)
    have k1 := ih (i + 1) 1 (by omega) (Or.inr rfl)
    have ok : (bt set a = true → bt set i = true → alk X a i) → ((f_M_areAlike_L15 X set (nI a) (m + 1) (nI (i + 1)) 1 = 1) ↔ ((1 : Int32) = 1 ∧ ∀ b, i ≤ b → b < a → bt set a = true → bt set b = true → alk X a b)) := by
      intro hx
      refine k1.2.trans ⟨fun q => ⟨rfl, fun b b1 b2 b3 b4 => ?_⟩, fun q => ⟨rfl, fun b b1 b2 => q.2 b (by omega) b2⟩⟩
      rcases Nat.lt_or_ge i b with q3 | q3
      · exact q.2 b q3 b2 b3 b4
      · have e : b = i := by omega
        rw [e] at b4 ⊢
        exact hx b3 b4
    rw [f_M_areAlike_L15, if_neg (nI_ge (by omega) (by omega)), nI_1]
    rcases hz with rfl | rfl
    · rw [if_pos rfl]
      exact ⟨k0.1, fun q => absurd (k0.2.mp q).1 (by decide), fun q => absurd q.1 (by decide)⟩
    · rw [if_neg one0]
      by_cases c : f_M_has set (nI a) = 0
      · have nl := (m_h0 ha).mp c
        rw [if_pos c]
        exact ⟨k1.1, ok (fun q => by rw [nl] at q; exact absurd q (by decide))⟩
      · rw [if_neg c]
        by_cases c2 : f_M_has set (nI i) = 0
        · have nl := (m_h0 (by omega)).mp c2
          rw [if_pos c2]
          exact ⟨k1.1, ok (fun _ q => by rw [nl] at q; exact absurd q (by decide))⟩
        · rw [if_neg c2]
          by_cases c3 : f_M_isAlike X (nI a) (nI i) = 0
          · rw [if_pos c3]
            have na := (m_alk ha (by omega)).mp c3
            have h1 : bt set a = true := by
              cases h9 : bt set a
              · exact absurd ((m_h0 ha).mpr h9) c
              · rfl
            have h2 : bt set i = true := by
              cases h9 : bt set i
              · exact absurd ((m_h0 (by omega)).mpr h9) c2
              · rfl
            exact ⟨k0.1, fun q => absurd (k0.2.mp q).1 (by decide), fun q => absurd (q.2 i (Nat.le_refl _) (by omega) h1 h2) na⟩
          · rw [if_neg c3]
            have ya : alk X a i := by
              rcases Classical.em (alk X a i) with q | q
              · exact q
              · exact absurd ((m_alk ha (by omega)).mpr q) c3
            exact ⟨k1.1, ok (fun _ _ => ya)⟩
theorem al_L4 {X : Nat → Nat → Int32} {n : Nat} (hn : n ≤ 32) (en : X 1 0 = nI n) {set : Int32} : ∀ (m i : Nat) (z : Int32), i + m = n → (z = 0 ∨ z = 1) → (f_M_areAlike_L4 X set (m + 1) (nI i) z = 0 ∨ f_M_areAlike_L4 X set (m + 1) (nI i) z = 1) ∧ ((f_M_areAlike_L4 X set (m + 1) (nI i) z = 1) ↔ (z = 1 ∧ ∀ a, i ≤ a → a < n → ∀ b, b < a → bt set a = true → bt set b = true → alk X a b)) := by
  intro m
  induction m with
  | zero =>
    intro i z hi hz
    rw [f_M_areAlike_L4, en, if_pos (nI_le (by omega) (by omega))]
    exact ⟨hz, fun q => ⟨q, fun a a1 a2 => absurd a2 (by omega)⟩, fun q => q.1⟩
  | succ m ih =>
    intro i z hi hz
    have k := al_L15 (X := X) (set := set) (a := i) (by omega) i 0 z (by omega) hz
    rw [nI_0] at k
    rw [f_M_areAlike_L4, en, if_neg (nI_ge (by omega) (by omega)), mu_n0 (by omega), nI_1]
    have q := ih (i + 1) _ (by omega) k.1
    refine ⟨q.1, q.2.trans ?_⟩
    rw [k.2]
    refine ⟨fun w => ⟨w.1.1, fun a a1 a2 b b1 => ?_⟩, fun w => ⟨⟨w.1, fun b _ b1 => w.2 i (Nat.le_refl _) (by omega) b b1⟩, fun a a1 a2 => w.2 a (by omega) a2⟩⟩
    rcases Nat.lt_or_ge i a with q3 | q3
    · exact w.2 a q3 a2 b b1
    · have e : a = i := by omega
      subst e
      exact w.1.2 b (Nat.zero_le _) b1
theorem al_all {X : Nat → Nat → Int32} {n : Nat} (hn : n ≤ 32) (en : X 1 0 = nI n) (set : Int32) : (f_M_areAlike X set = 0) ↔ ¬ (∀ a, a < n → ∀ b, b < a → bt set a = true → bt set b = true → alk X a b) := by
  have k := al_L4 hn en (set := set) n 0 1 (by omega) (Or.inr rfl)
  have e : f_M_areAlike X set = f_M_areAlike_L4 X set (n + 1) (nI 0) 1 := by
    unfold f_M_areAlike
    rw [en, mu_n0 (by omega)]
    rfl
  rw [e]
  have k2 : (f_M_areAlike_L4 X set (n + 1) (nI 0) 1 = 1) ↔ (∀ a, a < n → ∀ b, b < a → bt set a = true → bt set b = true → alk X a b) := k.2.trans ⟨fun q a a1 => q.2 a (Nat.zero_le _) a1, fun q => ⟨rfl, fun a _ a1 => q a a1⟩⟩
  rw [← k2]
  rcases k.1 with q | q
  · rw [q]
    exact ⟨fun _ => by decide, fun _ => rfl⟩
  · rw [q]
    exact ⟨fun w => absurd w one0, fun w => absurd rfl w⟩
theorem least_of {p : Nat → Prop} : ∀ t, p t → ∃ s, p s ∧ ∀ u, u < s → ¬ p u := by
  intro t
  induction t using Nat.strongRecOn with
  | ind t ih =>
    intro ht
    rcases Classical.em (∃ u, u < t ∧ p u) with q | q
    · obtain ⟨u, u1, u2⟩ := q
      exact ih u u1 u2
    · exact ⟨t, ht, fun u u1 u2 => q ⟨u, u1, u2⟩⟩
theorem b_ne {x : Int32} (h : ¬ x = 0) : ∃ t, t < 32 ∧ bt x t = true := by
  rcases Classical.em (∃ t, t < 32 ∧ bt x t = true) with q | q
  · exact q
  · exact absurd (b_ext (fun i hi => by
      rw [b_0]
      cases hb : bt x i
      · rfl
      · exact absurd ⟨i, hi, hb⟩ q)) h
theorem cnt_z {x : Int32} : ∀ n, (∀ t, t < n → bt x t = false) → cnt x n = 0 := by
  intro n
  induction n with
  | zero => intro _; rfl
  | succ n ih =>
    intro h
    rw [cnt, ih (fun t ht => h t (by omega)), h n (by omega)]
    rfl
theorem cnt_1 {x : Int32} {s : Nat} (hs : s < 32) (h1 : bt x s = true) (h2 : ∀ t, t < 32 → bt x t = true → t = s) : cnt x 32 = 1 := by
  have z : ∀ t, t < 32 → ¬ t = s → bt x t = false := fun t ht hts => by
    cases hb : bt x t
    · rfl
    · exact absurd (h2 t ht hb) hts
  rw [cnt_hi (n := s + 1) (fun t t1 t2 => z t t2 (by omega)) (by omega), cnt, cnt_z s (fun t ht => z t (by omega) (by omega)), h1]
  rfl
theorem e_one {S : Nat → Nat → Nat → Int32} {X : Nat → Nat → Int32} (h : RT (S 1) X) {n : Nat} (hn : n ≤ 32) (en : X 1 0 = nI n) {set : Int32} (h0 : ¬ set = 0) (hb : ∀ t, t < 32 → bt set t = true → t < n) : (f_bitCount (f_NC_leadersOf S set) = 1) ↔ ¬ f_M_areAlike X set = 0 := by
  have hL := ld_all h hn en set
  have l32 := cnt_le (f_NC_leadersOf S set) 32
  have e1 : (f_bitCount (f_NC_leadersOf S set) = 1) ↔ cnt (f_NC_leadersOf S set) 32 = 1 := by
    rw [e_bc]
    exact nI_eq (a := cnt (f_NC_leadersOf S set) 32) (b := 1) (by omega) (by omega)
  rw [e1, al_all hn en, Classical.not_not]
  constructor
  · intro hc a ha b hba sa sb
    have uni : ∀ s t, s < 32 → t < 32 → bt (f_NC_leadersOf S set) s = true → bt (f_NC_leadersOf S set) t = true → s = t := by
      intro s t s1 t1 s2 t2
      have q1 : cnt (f_NC_leadersOf S set) (s + 1) = cnt (f_NC_leadersOf S set) s + (if bt (f_NC_leadersOf S set) s = true then 1 else 0) := rfl
      have q2 : cnt (f_NC_leadersOf S set) (t + 1) = cnt (f_NC_leadersOf S set) t + (if bt (f_NC_leadersOf S set) t = true then 1 else 0) := rfl
      rw [if_pos s2] at q1
      rw [if_pos t2] at q2
      have m1 := cnt_mono (f_NC_leadersOf S set) (a := s + 1) (b := 32) (by omega)
      have m2 := cnt_mono (f_NC_leadersOf S set) (a := t + 1) (b := 32) (by omega)
      exact cnt_inj s2 t2 (by omega)
    have toL : ∀ t, t < n → bt set t = true → ∃ l, l < n ∧ bt (f_NC_leadersOf S set) l = true ∧ (l = t ∨ alk X l t) := by
      intro t
      induction t using Nat.strongRecOn with
      | ind t ih =>
        intro ht st
        rcases Classical.em (∃ v, v < t ∧ bt set v = true ∧ alk X v t) with q | q
        · obtain ⟨v, v1, v2, v3⟩ := q
          obtain ⟨l, l1, l2, l3⟩ := ih v v1 (by omega) v2
          refine ⟨l, l1, l2, Or.inr ?_⟩
          rcases l3 with k | k
          · rw [k]
            exact v3
          · exact alk_trans k v3
        · exact ⟨t, ht, (hL t (by omega)).mpr ⟨ht, st, fun u u1 u2 u3 => q ⟨u, u1, u2, u3⟩⟩, Or.inl rfl⟩
    obtain ⟨l, l1, l2, l3⟩ := toL a ha sa
    obtain ⟨k, k1, k2, k3⟩ := toL b (by omega) sb
    have e := uni l k (by omega) (by omega) l2 k2
    subst e
    rcases l3 with q | q
    · rcases k3 with w | w
      · omega
      · rw [← q]
        exact w
    · rcases k3 with w | w
      · rw [← w]
        exact alk_symm q
      · exact alk_trans (alk_symm q) w
  · intro hall
    obtain ⟨t, t1, t2⟩ := b_ne h0
    obtain ⟨s, ⟨s1, s2⟩, s3⟩ := least_of (p := fun t => t < 32 ∧ bt set t = true) t ⟨t1, t2⟩
    have sn := hb s s1 s2
    refine cnt_1 s1 ((hL s s1).mpr ⟨sn, s2, fun u u1 u2 => absurd ⟨by omega, u2⟩ (s3 u u1)⟩) (fun t ht hl => ?_)
    obtain ⟨q1, q2, q3⟩ := (hL t ht).mp hl
    rcases Nat.lt_trichotomy t s with w | w | w
    · exact absurd ⟨by omega, q2⟩ (s3 t w)
    · exact w
    · exact absurd (alk_symm (hall t q1 s w q2 s2)) (q3 s w s2)
