/-! ===== which things fit a description ===== -/
def fwv (X : Nat → Nat → Int32) (last : Int32) (t : Nat) : Int32 := (if (f_M_has (X 2 t) last) = 0 then (if (X 4 t) < 0 then ((0 : Int32) + 0) else (if (X 7 (X 4 t).toNatClampNeg) = last then ((0 : Int32) + 2) else ((0 : Int32) + 0))) else (if (X 4 t) < 0 then ((1 : Int32) + 0) else (if (X 7 (X 4 t).toNatClampNeg) = last then ((1 : Int32) + 2) else ((1 : Int32) + 0))))
def fok (X : Nat → Nat → Int32) (t : Nat) : Prop := (bt (X 16 0) 2 = true → X 5 t = 2) ∧ (bt (X 16 0) 3 = true → bt (X 31 0) t = false)
theorem fit_L {X : Nat → Nat → Int32} {w t : Nat} (hw : 0 < w) (hw6 : w ≤ 6) (ew : X 18 0 = nI w) (ht : t < 32) : ∀ (m i : Nat) (z : Int32), i + m = w - 1 → (z = 0 ∨ z = 1) →
    ((z = 1 ∧ (∀ k, i ≤ k → k < w - 1 → ¬ f_M_hasWord X (nI t) (X 17 k) = 0) ∧ fok X t) → f_M_fit_L4 X (nI t) (m + 1) (nI i) z = fwv X (X 17 (w - 1)) t) ∧ (¬ (z = 1 ∧ (∀ k, i ≤ k → k < w - 1 → ¬ f_M_hasWord X (nI t) (X 17 k) = 0) ∧ fok X t) → f_M_fit_L4 X (nI t) (m + 1) (nI i) z = 0) := by
  have e1 : X 18 0 - 1 = nI (w - 1) := by
    rw [ew, show w = (w - 1) + 1 by omega, nI_pred, Nat.add_sub_cancel]
  have ct : (nI t).toNatClampNeg = t := nI_clamp (by omega)
  have cw : (nI (w - 1)).toNatClampNeg = w - 1 := nI_clamp (by omega)
  have f2 : (f_M_has (X 16 0) 2 = 0) ↔ bt (X 16 0) 2 = false := m_h0 (t := 2) (by omega)
  have f3 : (f_M_has (X 16 0) 3 = 0) ↔ bt (X 16 0) 3 = false := m_h0 (t := 3) (by omega)
  have fl : (f_M_has (X 31 0) (nI t) = 0) ↔ bt (X 31 0) t = false := m_h0 ht
  intro m
  induction m with
  | zero =>
    intro i z hi hz
    rw [f_M_fit_L4, e1, if_pos (nI_le (by omega) (by omega)), ct, cw]
    have all : ∀ k, i ≤ k → k < w - 1 → ¬ f_M_hasWord X (nI t) (X 17 k) = 0 := fun k k1 k2 => absurd k2 (by omega)
    rcases hz with rfl | rfl
    · refine ⟨fun q => absurd q.1 (by decide), fun _ => ?_⟩
      by_cases c2 : f_M_has (X 16 0) 2 = 0
      · rw [if_pos c2]
        by_cases c3 : f_M_has (X 16 0) 3 = 0
        · rw [if_pos c3, if_pos rfl]
        · rw [if_neg c3]
          by_cases c4 : f_M_has (X 31 0) (nI t) = 0
          · rw [if_pos c4, if_pos rfl]
          · rw [if_neg c4, if_pos rfl]
      · rw [if_neg c2]
        by_cases c5 : X 5 t = 2
        · rw [if_pos c5]
          by_cases c3 : f_M_has (X 16 0) 3 = 0
          · rw [if_pos c3, if_pos rfl]
          · rw [if_neg c3]
            by_cases c4 : f_M_has (X 31 0) (nI t) = 0
            · rw [if_pos c4, if_pos rfl]
            · rw [if_neg c4, if_pos rfl]
        · rw [if_neg c5]
          by_cases c3 : f_M_has (X 16 0) 3 = 0
          · rw [if_pos c3, if_pos rfl]
          · rw [if_neg c3]
            by_cases c4 : f_M_has (X 31 0) (nI t) = 0
            · rw [if_pos c4, if_pos rfl]
            · rw [if_neg c4, if_pos rfl]
    · have no : ∀ {A : Prop}, (fok X t → A) → (¬ fok X t → f_M_hasWord X (nI t) 0 = f_M_hasWord X (nI t) 0) → True := fun _ _ => trivial
      by_cases c2 : f_M_has (X 16 0) 2 = 0
      · rw [if_pos c2]
        have d2 := f2.mp c2
        by_cases c3 : f_M_has (X 16 0) 3 = 0
        · have d3 := f3.mp c3
          have ok : fok X t := ⟨fun q => by rw [d2] at q; exact absurd q (by decide), fun q => by rw [d3] at q; exact absurd q (by decide)⟩
          rw [if_pos c3, if_neg one0]
          exact ⟨fun _ => rfl, fun q => absurd ⟨rfl, all, ok⟩ q⟩
        · rw [if_neg c3]
          by_cases c4 : f_M_has (X 31 0) (nI t) = 0
          · have ok : fok X t := ⟨fun q => by rw [d2] at q; exact absurd q (by decide), fun _ => fl.mp c4⟩
            rw [if_pos c4, if_neg one0]
            exact ⟨fun _ => rfl, fun q => absurd ⟨rfl, all, ok⟩ q⟩
          · rw [if_neg c4, if_neg one0]
            refine ⟨fun q => absurd (fl.mpr (q.2.2.2 ?_)) c4, fun _ => rfl⟩
            cases h9 : bt (X 16 0) 3
            · exact absurd (f3.mpr h9) c3
            · rfl
      · rw [if_neg c2]
        have d2 : bt (X 16 0) 2 = true := by
          cases h9 : bt (X 16 0) 2
          · exact absurd (f2.mpr h9) c2
          · rfl
        by_cases c5 : X 5 t = 2
        · rw [if_pos c5]
          by_cases c3 : f_M_has (X 16 0) 3 = 0
          · have d3 := f3.mp c3
            have ok : fok X t := ⟨fun _ => c5, fun q => by rw [d3] at q; exact absurd q (by decide)⟩
            rw [if_pos c3, if_neg one0]
            exact ⟨fun _ => rfl, fun q => absurd ⟨rfl, all, ok⟩ q⟩
          · rw [if_neg c3]
            by_cases c4 : f_M_has (X 31 0) (nI t) = 0
            · have ok : fok X t := ⟨fun _ => c5, fun _ => fl.mp c4⟩
              rw [if_pos c4, if_neg one0]
              exact ⟨fun _ => rfl, fun q => absurd ⟨rfl, all, ok⟩ q⟩
            · rw [if_neg c4, if_neg one0]
              refine ⟨fun q => absurd (fl.mpr (q.2.2.2 ?_)) c4, fun _ => rfl⟩
              cases h9 : bt (X 16 0) 3
              · exact absurd (f3.mpr h9) c3
              · rfl
        · rw [if_neg c5]
          refine ⟨fun q => absurd (q.2.2.1 d2) c5, fun _ => ?_⟩
          by_cases c3 : f_M_has (X 16 0) 3 = 0
          · rw [if_pos c3, if_neg one0]
          · rw [if_neg c3]
            by_cases c4 : f_M_has (X 31 0) (nI t) = 0
            · rw [if_pos c4, if_neg one0]
            · rw [if_neg c4, if_neg one0]
  | succ m ih =>
    intro i z hi hz
    have k0 := ih (i + 1) 0 (by omega) (Or.inl rfl)
    have k1 := ih (i + 1) 1 (by omega) (Or.inr rfl)
    rw [f_M_fit_L4, e1, if_neg (nI_ge (by omega) (by omega)), nI_1, nI_clamp (n := i) (by omega)]
    have z0 : f_M_fit_L4 X (nI t) (m + 1) (nI (i + 1)) 0 = 0 := k0.2 (fun q => absurd q.1 (by decide))
    rcases hz with rfl | rfl
    · rw [if_pos rfl, z0]
      exact ⟨fun q => absurd q.1 (by decide), fun _ => rfl⟩
    · rw [if_neg one0]
      by_cases c : f_M_hasWord X (nI t) (X 17 i) = 0
      · rw [if_pos c, z0]
        exact ⟨fun q => absurd c (q.2.1 i (Nat.le_refl _) (by omega)), fun _ => rfl⟩
      · rw [if_neg c]
        have e : ((1 : Int32) = 1 ∧ (∀ k, i + 1 ≤ k → k < w - 1 → ¬ f_M_hasWord X (nI t) (X 17 k) = 0) ∧ fok X t) ↔ ((1 : Int32) = 1 ∧ (∀ k, i ≤ k → k < w - 1 → ¬ f_M_hasWord X (nI t) (X 17 k) = 0) ∧ fok X t) := by
          refine and_congr Iff.rfl (and_congr ⟨fun q k q1 q2 => ?_, fun q k q1 q2 => q k (by omega) q2⟩ Iff.rfl)
          rcases Nat.lt_or_ge i k with q3 | q3
          · exact q k q3 q2
          · rw [show k = i by omega]
            exact c
        exact ⟨fun q => k1.1 (e.mpr q), fun q => k1.2 (fun q9 => q (e.mp q9))⟩
theorem m_fit {X : Nat → Nat → Int32} {w t : Nat} (hw : 0 < w) (hw6 : w ≤ 6) (ew : X 18 0 = nI w) (ht : t < 32) :
    (((∀ k, k < w - 1 → ¬ f_M_hasWord X (nI t) (X 17 k) = 0) ∧ fok X t) → f_M_fit X (nI t) = fwv X (X 17 (w - 1)) t) ∧ (¬ ((∀ k, k < w - 1 → ¬ f_M_hasWord X (nI t) (X 17 k) = 0) ∧ fok X t) → f_M_fit X (nI t) = 0) := by
  have e1 : X 18 0 - 1 = nI (w - 1) := by
    rw [ew, show w = (w - 1) + 1 by omega, nI_pred, Nat.add_sub_cancel]
  have k := fit_L hw hw6 ew ht (w - 1) 0 1 (by omega) (Or.inr rfl)
  have e : f_M_fit X (nI t) = f_M_fit_L4 X (nI t) (w - 1 + 1) (nI 0) 1 := by
    unfold f_M_fit
    rw [e1, mu_n0 (by omega)]
    rfl
  rw [e]
  exact ⟨fun q => k.1 ⟨rfl, fun j _ hj => q.1 j hj, q.2⟩, fun q => k.2 (fun q9 => q ⟨fun j hj => q9.2.1 j (Nat.zero_le _) hj, q9.2.2⟩)⟩
theorem and_bit {x : Int32} {j : Nat} (hj : j < 32) : (x &&& ((1 : Int32) <<< (nI j &&& 31)) = 0) ↔ bt x j = false := by
  constructor
  · intro q
    have := congrArg (fun y => bt y j) q
    simp only [b_and, b_0, b_sh1 hj hj, decide_true, Bool.and_true] at this
    exact this
  · intro q
    apply b_ext
    intro i hi
    rw [b_and, b_sh1 hj hi, b_0]
    by_cases e : i = j
    · rw [e, q]
      rfl
    · rw [decide_eq_false e, Bool.and_false]
theorem b_sub {x y : Int32} : (x &&& (y ^^^ (-1)) = 0) ↔ ∀ j, j < 32 → bt x j = true → bt y j = true := by
  constructor
  · intro q j hj hx
    have := congrArg (fun y => bt y j) q
    simp only [b_and, b_0, b_not hj, hx, Bool.true_and] at this
    cases h9 : bt y j
    · rw [h9] at this
      exact absurd this (by decide)
    · rfl
  · intro q
    apply b_ext
    intro j hj
    rw [b_and, b_not hj, b_0]
    cases h9 : bt x j
    · rfl
    · rw [q j hj h9]
      rfl
def wdOk (x : Int32) : Prop := 0 ≤ x.toInt ∧ x.toInt ≤ 29
theorem wdOk_nI {x : Int32} (h : wdOk x) : ∃ l : Nat, l < 30 ∧ x = nI l := ⟨x.toInt.toNat, by have := h.1; have := h.2; omega, nI_of0 h.1⟩
theorem b_ld {f : Nat → Int32} {a : Nat} : ∀ m : Nat, (∀ k, k < m → wdOk (f (a + k))) → ∀ j, j < 32 → (bt (ld f a m) j = true ↔ ∃ k, k < m ∧ f (a + k) = nI j) := by
  intro m
  induction m with
  | zero =>
    intro _ j hj
    rw [ld, b_0]
    exact ⟨fun q => absurd q (by decide), fun ⟨k, k1, _⟩ => absurd k1 (by omega)⟩
  | succ m ih =>
    intro h j hj
    obtain ⟨l, l1, l2⟩ := wdOk_nI (h m (by omega))
    rw [ld, b_or, Bool.or_eq_true, ih (fun k hk => h k (by omega)) j hj, l2, b_sh1 (by omega) hj, decide_eq_true_eq]
    constructor
    · rintro (⟨k, k1, k2⟩ | q)
      · exact ⟨k, by omega, k2⟩
      · exact ⟨m, by omega, by rw [l2, q]⟩
    · rintro ⟨k, k1, k2⟩
      rcases Nat.lt_or_ge k m with q3 | q3
      · exact Or.inl ⟨k, q3, k2⟩
      · have e : k = m := by omega
        rw [e, l2] at k2
        exact Or.inr ((nI_eq (by omega) (by omega)).mp k2).symm
theorem own_1 {P : Nat → Nat → Int32} {d : Nat} (hd : d < 30) (h : (d : Int) < (P 8 0).toInt) : f_Phrase_isOwn P (nI d) = 1 := by
  have e : (nI d).toInt = (d : Int) := nI_toInt (by omega)
  have e0 : (0 : Int32).toInt = 0 := by decide
  have e30 : (30 : Int32).toInt = 30 := by decide
  have c1 : ¬ nI d < 0 := by
    rw [Int32.lt_iff_toInt_lt]
    omega
  have c2 : ¬ P 8 0 ≤ nI d := by
    rw [Int32.le_iff_toInt_le]
    omega
  have c3 : ¬ (30 : Int32) ≤ nI d := by
    rw [Int32.le_iff_toInt_le]
    omega
  unfold f_Phrase_isOwn
  rw [if_neg c1, if_neg c2, if_neg c3]
theorem tells_b {P : Nat → Nat → Int32} {d j : Nat} {x : Int32} (hd : d < 30) (h : (d : Int) < (P 8 0).toInt) (hj : j < 32) (hx : x - 30 = nI j) : (f_Phrase_tells P (nI d) x = 0) ↔ bt (P 5 d) j = false := by
  unfold f_Phrase_tells
  rw [own_1 hd h, if_neg one0, hx, nI_clamp (by omega)]
  by_cases c : P 5 d &&& ((1 : Int32) <<< (nI j &&& 31)) = 0
  · rw [if_pos c]
    exact ⟨fun _ => (and_bit hj).mp c, fun _ => rfl⟩
  · rw [if_neg c]
    exact ⟨fun q => absurd q one0, fun q => absurd ((and_bit hj).mpr q) c⟩
theorem fbw {T X : Nat → Nat → Int32} (h : RT T X) {t l : Nat} {lead : Int32} (ht : (t : Int) < (X 1 0).toInt) (hl : l < 30) : f_Things_fitByWords T (nI t) lead (nI l) = if lead &&& ((X 2 t ||| X 3 t) ^^^ (-1)) = 0 then fwv X (nI l) t else 0 := by
  have h' := h
  obtain ⟨⟨h0, h1, h4, h5, h6⟩, h7, ⟨t1, t2⟩, hj, hk, mk, hm, hw⟩ := h
  have ct : (nI t).toNatClampNeg = t := nI_clamp (by omega)
  have el : (nI l).toInt = (l : Int) := nI_toInt (by omega)
  have et : (nI t).toInt = (t : Int) := nI_toInt (by omega)
  have e0 : (0 : Int32).toInt = 0 := by decide
  have e15 : (15 : Int32).toInt = 15 := by decide
  have e29 : (29 : Int32).toInt = 29 := by decide
  have k16 := mk t
  unfold f_Things_fitByWords
  rw [t_has1 h' (by omega), if_neg one0, e_isWord, in_1 (by omega), if_neg one0, ct, h0, h1, (hj t ht).1, h5]
  by_cases c : lead &&& ((X 2 t ||| X 3 t) ^^^ (-1)) = 0
  · rw [if_pos c, if_pos c]
    unfold fwv
    have eb : (nc_ushr (X 2 t) (nI l) &&& 1 = 0) ↔ (f_M_has (X 2 t) (nI l) = 0) := by
      rw [m_h0 (by omega), b_has (by omega)]
      cases bt (X 2 t) l <;> simp
    have ek : (f_Things_isKind (X 4 t) = 0) ↔ X 4 t < 0 := by
      rw [e_isKind, e_in, Int32.lt_iff_toInt_lt]
      by_cases q : (0 : Int32).toInt ≤ (X 4 t).toInt ∧ (X 4 t).toInt ≤ (15 : Int32).toInt
      · rw [if_pos q]
        exact ⟨fun k => absurd k one0, fun k => by omega⟩
      · rw [if_neg q]
        exact ⟨fun _ => by omega, fun _ => rfl⟩
    by_cases c2 : f_M_has (X 2 t) (nI l) = 0
    · rw [if_pos c2, if_pos (eb.mpr c2)]
      by_cases c3 : X 4 t < 0
      · rw [if_pos c3, if_pos (ek.mpr c3)]
        rfl
      · rw [if_neg c3, if_neg (fun q => c3 (ek.mp q))]
        by_cases c4 : X 7 (X 4 t).toNatClampNeg = nI l
        · rw [if_pos c4, if_pos c4]
          rfl
        · rw [if_neg c4, if_neg c4]
          rfl
    · rw [if_neg c2, if_neg (fun q => c2 (eb.mp q))]
      by_cases c3 : X 4 t < 0
      · rw [if_pos c3, if_pos (ek.mpr c3)]
        rfl
      · rw [if_neg c3, if_neg (fun q => c3 (ek.mp q))]
        by_cases c4 : X 7 (X 4 t).toNatClampNeg = nI l
        · rw [if_pos c4, if_pos c4]
          rfl
        · rw [if_neg c4, if_neg c4]
          rfl
  · rw [if_neg c, if_neg c]
theorem s_fitting {X : Nat → Nat → Int32} {n : Nat} (hn : n ≤ 32) (en : X 1 0 = nI n) (ways : Int32) : ∀ (m i : Nat) (a : Int32), i + m = n → f_M_fitting_L4 X ways (m + 1) (nI i) a = mkS (fun t => !decide (f_M_fit X (nI t) &&& ways = 0)) m i a := by
  intro m
  induction m with
  | zero =>
    intro i a hi
    rw [f_M_fitting_L4, en, if_pos (nI_le (by omega) (by omega)), mkS_0]
  | succ m ih =>
    intro i a hi
    rw [f_M_fitting_L4, en, if_neg (nI_ge (by omega) (by omega)), nI_1, ih (i + 1) _ (by omega), ih (i + 1) _ (by omega)]
    by_cases c : f_M_fit X (nI i) &&& ways = 0
    · rw [if_pos c, mkS_f (by rw [decide_eq_true c]; decide)]
    · rw [if_neg c, mkS_t (by rw [decide_eq_false c]; decide)]
theorem b_fitting {X : Nat → Nat → Int32} {n t : Nat} (hn : n ≤ 32) (en : X 1 0 = nI n) (ht : t < 32) (ways : Int32) : bt (f_M_fitting X ways) t = (decide (t < n) && !decide (f_M_fit X (nI t) &&& ways = 0)) := by
  have k := s_fitting hn en ways n 0 0 (by omega)
  rw [nI_0] at k
  unfold f_M_fitting
  rw [en, mu_n0 (by omega), k, b_mk0 hn ht]
/-- a description that stands in a phrase is the one that the reference has just read -/
def DesY (f : Nat → Int32) (P Y : Nat → Nat → Int32) (d a w : Nat) : Prop :=
  d < 30 ∧ (d : Int) < (P 8 0).toInt ∧ 0 < w ∧ w ≤ 6 ∧ P 5 d = Y 16 0 ∧ P 6 d = ld f a (w - 1) ∧ P 7 d = f (a + w - 1) ∧ Y 18 0 = nI w ∧ (∀ k, k < w → Y 17 k = f (a + k)) ∧ ∀ k, k < w → wdOk (f (a + k))
theorem s_fitP {S : Nat → Nat → Nat → Int32} {X : Nat → Nat → Int32} (h : RT (S 1) X) {n : Nat} (hn : n ≤ 32) (en : X 1 0 = nI n) (x ways y4 y5 : Int32) : ∀ (m i : Nat) (a : Int32), i + m = n → f_NC_fittingSetP_L20 S x ways y4 y5 (m + 1) (nI i) a = (if (f_Phrase_tells (S 2) x 32) = 0 then (if (f_Phrase_tells (S 2) x 33) = 0 then (mkS (fun t => !decide (f_Things_fitByWords (S 1) (nI t) y4 y5 &&& ways = 0)) m i a) else ((mkS (fun t => !decide (f_Things_fitByWords (S 1) (nI t) y4 y5 &&& ways = 0)) m i a) &&& (((S 4) 2 0) ^^^ (-1)))) else (if (f_Phrase_tells (S 2) x 33) = 0 then ((mkS (fun t => !decide (f_Things_fitByWords (S 1) (nI t) y4 y5 &&& ways = 0)) m i a) &&& (f_Things_placedSet (S 1) 2)) else (((mkS (fun t => !decide (f_Things_fitByWords (S 1) (nI t) y4 y5 &&& ways = 0)) m i a) &&& (f_Things_placedSet (S 1) 2)) &&& (((S 4) 2 0) ^^^ (-1))))) := by
  intro m
  induction m with
  | zero =>
    intro i a hi
    rw [f_NC_fittingSetP_L20, h.2.1, en, if_pos (nI_le (by omega) (by omega)), mkS_0]
  | succ m ih =>
    intro i a hi
    rw [f_NC_fittingSetP_L20, h.2.1, en, if_neg (nI_ge (by omega) (by omega)), nI_1, ih (i + 1) _ (by omega), ih (i + 1) _ (by omega)]
    by_cases c : f_Things_fitByWords (S 1) (nI i) y4 y5 &&& ways = 0
    · rw [if_pos c, mkS_f (by rw [decide_eq_true c]; decide)]
    · rw [if_neg c, mkS_t (by rw [decide_eq_false c]; decide)]
theorem e_fitP {S : Nat → Nat → Nat → Int32} {Y : Nat → Nat → Int32} (h : RT (S 1) Y) {f : Nat → Int32} {d a w : Nat} (hd : DesY f (S 2) Y d a w) (hl : S 4 2 0 = Y 31 0) (ways : Int32) : f_NC_fittingSetP S (nI d) ways = f_M_fitting Y ways := by
  obtain ⟨n, hn, en, ei⟩ := th_n h
  obtain ⟨d1, d2, w1, w2, p5, p6, p7, y18, y17, wok⟩ := hd
  obtain ⟨l, l1, l2⟩ := wdOk_nI (wok (w - 1) (by omega))
  have ecl : (nI d).toNatClampNeg = d := nI_clamp (by omega)
  have e7 : f (a + w - 1) = nI l := by rw [show a + w - 1 = a + (w - 1) by omega, l2]
  have eL : f_Phrase_leadingOf (S 2) (nI d) = ld f a (w - 1) := by
    unfold f_Phrase_leadingOf
    rw [own_1 d1 d2, if_neg one0, ecl, p6]
  have eW : f_Phrase_lastOf (S 2) (nI d) = nI l := by
    unfold f_Phrase_lastOf
    rw [own_1 d1 d2, if_neg one0, ecl, p7, e7]
  have t2 : (f_Phrase_tells (S 2) (nI d) 32 = 0) ↔ bt (Y 16 0) 2 = false := by
    rw [← p5]
    exact tells_b (j := 2) d1 d2 (by omega) (by decide)
  have t3 : (f_Phrase_tells (S 2) (nI d) 33 = 0) ↔ bt (Y 16 0) 3 = false := by
    rw [← p5]
    exact tells_b (j := 3) d1 d2 (by omega) (by decide)
  have k := s_fitP h hn en (nI d) ways (ld f a (w - 1)) (nI l) n 0 0 (by omega)
  rw [nI_0] at k
  unfold f_NC_fittingSetP
  rw [eL, eW, h.2.1, en, mu_n0 (by omega), k]
  apply b_ext
  intro t ht
  rw [b_fitting hn en ht]
  have main : t < n → (decide (f_M_fit Y (nI t) &&& ways = 0)) = (decide (f_Things_fitByWords (S 1) (nI t) (ld f a (w - 1)) (nI l) &&& ways = 0) || (bt (Y 16 0) 2 && !decide (Y 5 t = 2)) || (bt (Y 16 0) 3 && bt (Y 31 0) t)) := by
    intro htn
    have e17 : Y 17 (w - 1) = nI l := by rw [y17 (w - 1) (by omega), l2]
    have hW : (ld f a (w - 1) &&& ((Y 2 t ||| Y 3 t) ^^^ (-1)) = 0) ↔ (∀ k, k < w - 1 → ¬ f_M_hasWord Y (nI t) (Y 17 k) = 0) := by
      rw [b_sub]
      have hh : ∀ k, k < w - 1 → ∀ j, j < 30 → f (a + k) = nI j → ((f_M_hasWord Y (nI t) (Y 17 k) = 0) ↔ bt (Y 2 t ||| Y 3 t) j = false) := by
        intro k hk j hj ej
        unfold f_M_hasWord
        rw [y17 k (by omega), ej, nI_clamp (by omega)]
        exact m_h0 (by omega)
      constructor
      · intro q k hk e0
        obtain ⟨j, j1, j2⟩ := wdOk_nI (wok k (by omega))
        have := q j (by omega) ((b_ld (w - 1) (fun k hk => wok k (by omega)) j (by omega)).mpr ⟨k, hk, j2⟩)
        rw [(hh k hk j j1 j2).mp e0] at this
        exact absurd this (by decide)
      · intro q j hj hb
        obtain ⟨k, k1, k2⟩ := (b_ld (w - 1) (fun k hk => wok k (by omega)) j hj).mp hb
        obtain ⟨j', j1, j2⟩ := wdOk_nI (wok k (by omega))
        have ej : j = j' := (nI_eq (by omega) (by omega)).mp (k2.symm.trans j2)
        cases h9 : bt (Y 2 t ||| Y 3 t) j
        · exact absurd ((hh k k1 j (by omega) k2).mpr h9) (q k k1)
        · rfl
    have kf := m_fit (X := Y) (t := t) w1 w2 y18 (by omega)
    rw [fbw h (by omega) l1]
    by_cases cW : ld f a (w - 1) &&& ((Y 2 t ||| Y 3 t) ^^^ (-1)) = 0
    · rw [if_pos cW]
      by_cases cO : fok Y t
      · rw [kf.1 ⟨hW.mp cW, cO⟩, e17]
        have z1 : (bt (Y 16 0) 2 && !decide (Y 5 t = 2)) = false := by
          cases h9 : bt (Y 16 0) 2
          · rfl
          · rw [decide_eq_true (cO.1 h9)]
            rfl
        have z2 : (bt (Y 16 0) 3 && bt (Y 31 0) t) = false := by
          cases h9 : bt (Y 16 0) 3
          · rfl
          · rw [cO.2 h9]
            rfl
        rw [z1, z2, Bool.or_false, Bool.or_false]
      · rw [kf.2 (fun q => cO q.2)]
        have z0 : decide ((0 : Int32) &&& ways = 0) = true := decide_eq_true (by apply b_ext; intro i hi; rw [b_and, b_0]; rfl)
        rw [z0]
        cases h2 : bt (Y 16 0) 2
        · cases h3 : bt (Y 16 0) 3
          · exact absurd ⟨fun q => by rw [h2] at q; exact absurd q (by decide), fun q => by rw [h3] at q; exact absurd q (by decide)⟩ cO
          · cases h4 : bt (Y 31 0) t
            · exact absurd ⟨fun q => by rw [h2] at q; exact absurd q (by decide), fun _ => h4⟩ cO
            · simp
        · by_cases h5 : Y 5 t = 2
          · cases h3 : bt (Y 16 0) 3
            · exact absurd ⟨fun _ => h5, fun q => by rw [h3] at q; exact absurd q (by decide)⟩ cO
            · cases h4 : bt (Y 31 0) t
              · exact absurd ⟨fun _ => h5, fun _ => h4⟩ cO
              · simp
          · rw [decide_eq_false h5]
            simp
    · rw [if_neg cW, kf.2 (fun q => cW (hW.mpr q.1))]
      have z0 : decide ((0 : Int32) &&& ways = 0) = true := decide_eq_true (by apply b_ext; intro i hi; rw [b_and, b_0]; rfl)
      rw [z0, Bool.true_or, Bool.true_or]
  have mk1 : bt (mkS (fun t => !decide (f_Things_fitByWords (S 1) (nI t) (ld f a (w - 1)) (nI l) &&& ways = 0)) n 0 0) t = (decide (t < n) && !decide (f_Things_fitByWords (S 1) (nI t) (ld f a (w - 1)) (nI l) &&& ways = 0)) := b_mk0 hn ht
  have mk2 : bt (f_Things_placedSet (S 1) 2) t = (decide (t < n) && decide (Y 5 t = 2)) := by rw [s_placed h hn en, b_mk0 hn ht]
  by_cases htn : t < n
  · rw [main htn]
    rw [decide_eq_true htn, Bool.true_and] at mk1 mk2 ⊢
    by_cases c2 : f_Phrase_tells (S 2) (nI d) 32 = 0
    · have b2 := t2.mp c2
      rw [if_pos c2, b2]
      by_cases c3 : f_Phrase_tells (S 2) (nI d) 33 = 0
      · have b3 := t3.mp c3
        rw [if_pos c3, b3, mk1]
        simp
      · have b3 : bt (Y 16 0) 3 = true := by
          cases h9 : bt (Y 16 0) 3
          · exact absurd (t3.mpr h9) c3
          · rfl
        rw [if_neg c3, b3, b_and, b_not ht, mk1, hl]
        simp
    · have b2 : bt (Y 16 0) 2 = true := by
        cases h9 : bt (Y 16 0) 2
        · exact absurd (t2.mpr h9) c2
        · rfl
      rw [if_neg c2, b2]
      by_cases c3 : f_Phrase_tells (S 2) (nI d) 33 = 0
      · have b3 := t3.mp c3
        rw [if_pos c3, b3, b_and, mk1, mk2]
        simp
      · have b3 : bt (Y 16 0) 3 = true := by
          cases h9 : bt (Y 16 0) 3
          · exact absurd (t3.mpr h9) c3
          · rfl
        rw [if_neg c3, b3, b_and, b_and, b_not ht, mk1, mk2, hl]
        simp
  · rw [decide_eq_false htn, Bool.false_and] at mk1 mk2 ⊢
    by_cases c2 : f_Phrase_tells (S 2) (nI d) 32 = 0
    · rw [if_pos c2]
      by_cases c3 : f_Phrase_tells (S 2) (nI d) 33 = 0
      · rw [if_pos c3, mk1]
      · rw [if_neg c3, b_and, mk1]
        rfl
    · rw [if_neg c2]
      by_cases c3 : f_Phrase_tells (S 2) (nI d) 33 = 0
      · rw [if_pos c3, b_and, mk1]
        rfl
      · rw [if_neg c3, b_and, b_and, mk1]
        rfl
theorem s_fitD {S : Nat → Nat → Nat → Int32} {X : Nat → Nat → Int32} (h : RT (S 1) X) {n : Nat} (hn : n ≤ 32) (en : X 1 0 = nI n) (x ways y4 y5 : Int32) : ∀ (m i : Nat) (a : Int32), i + m = n → f_NC_fittingSetD_L20 S x ways y4 y5 (m + 1) (nI i) a = (if (f_Phrase_tells (S 3) x 32) = 0 then (if (f_Phrase_tells (S 3) x 33) = 0 then (mkS (fun t => !decide (f_Things_fitByWords (S 1) (nI t) y4 y5 &&& ways = 0)) m i a) else ((mkS (fun t => !decide (f_Things_fitByWords (S 1) (nI t) y4 y5 &&& ways = 0)) m i a) &&& (((S 4) 2 0) ^^^ (-1)))) else (if (f_Phrase_tells (S 3) x 33) = 0 then ((mkS (fun t => !decide (f_Things_fitByWords (S 1) (nI t) y4 y5 &&& ways = 0)) m i a) &&& (f_Things_placedSet (S 1) 2)) else (((mkS (fun t => !decide (f_Things_fitByWords (S 1) (nI t) y4 y5 &&& ways = 0)) m i a) &&& (f_Things_placedSet (S 1) 2)) &&& (((S 4) 2 0) ^^^ (-1))))) := by
  intro m
  induction m with
  | zero =>
    intro i a hi
    rw [f_NC_fittingSetD_L20, h.2.1, en, if_pos (nI_le (by omega) (by omega)), mkS_0]
  | succ m ih =>
    intro i a hi
    rw [f_NC_fittingSetD_L20, h.2.1, en, if_neg (nI_ge (by omega) (by omega)), nI_1, ih (i + 1) _ (by omega), ih (i + 1) _ (by omega)]
    by_cases c : f_Things_fitByWords (S 1) (nI i) y4 y5 &&& ways = 0
    · rw [if_pos c, mkS_f (by rw [decide_eq_true c]; decide)]
    · rw [if_neg c, mkS_t (by rw [decide_eq_false c]; decide)]
theorem e_fitD {S : Nat → Nat → Nat → Int32} {Y : Nat → Nat → Int32} (h : RT (S 1) Y) {f : Nat → Int32} {d a w : Nat} (hd : DesY f (S 3) Y d a w) (hl : S 4 2 0 = Y 31 0) (ways : Int32) : f_NC_fittingSetD S (nI d) ways = f_M_fitting Y ways := by
  obtain ⟨n, hn, en, ei⟩ := th_n h
  obtain ⟨d1, d2, w1, w2, p5, p6, p7, y18, y17, wok⟩ := hd
  obtain ⟨l, l1, l2⟩ := wdOk_nI (wok (w - 1) (by omega))
  have ecl : (nI d).toNatClampNeg = d := nI_clamp (by omega)
  have e7 : f (a + w - 1) = nI l := by rw [show a + w - 1 = a + (w - 1) by omega, l2]
  have eL : f_Phrase_leadingOf (S 3) (nI d) = ld f a (w - 1) := by
    unfold f_Phrase_leadingOf
    rw [own_1 d1 d2, if_neg one0, ecl, p6]
  have eW : f_Phrase_lastOf (S 3) (nI d) = nI l := by
    unfold f_Phrase_lastOf
    rw [own_1 d1 d2, if_neg one0, ecl, p7, e7]
  have t2 : (f_Phrase_tells (S 3) (nI d) 32 = 0) ↔ bt (Y 16 0) 2 = false := by
    rw [← p5]
    exact tells_b (j := 2) d1 d2 (by omega) (by decide)
  have t3 : (f_Phrase_tells (S 3) (nI d) 33 = 0) ↔ bt (Y 16 0) 3 = false := by
    rw [← p5]
    exact tells_b (j := 3) d1 d2 (by omega) (by decide)
  have k := s_fitD h hn en (nI d) ways (ld f a (w - 1)) (nI l) n 0 0 (by omega)
  rw [nI_0] at k
  unfold f_NC_fittingSetD
  rw [eL, eW, h.2.1, en, mu_n0 (by omega), k]
  apply b_ext
  intro t ht
  rw [b_fitting hn en ht]
  have main : t < n → (decide (f_M_fit Y (nI t) &&& ways = 0)) = (decide (f_Things_fitByWords (S 1) (nI t) (ld f a (w - 1)) (nI l) &&& ways = 0) || (bt (Y 16 0) 2 && !decide (Y 5 t = 2)) || (bt (Y 16 0) 3 && bt (Y 31 0) t)) := by
    intro htn
    have e17 : Y 17 (w - 1) = nI l := by rw [y17 (w - 1) (by omega), l2]
    have hW : (ld f a (w - 1) &&& ((Y 2 t ||| Y 3 t) ^^^ (-1)) = 0) ↔ (∀ k, k < w - 1 → ¬ f_M_hasWord Y (nI t) (Y 17 k) = 0) := by
      rw [b_sub]
      have hh : ∀ k, k < w - 1 → ∀ j, j < 30 → f (a + k) = nI j → ((f_M_hasWord Y (nI t) (Y 17 k) = 0) ↔ bt (Y 2 t ||| Y 3 t) j = false) := by
        intro k hk j hj ej
        unfold f_M_hasWord
        rw [y17 k (by omega), ej, nI_clamp (by omega)]
        exact m_h0 (by omega)
      constructor
      · intro q k hk e0
        obtain ⟨j, j1, j2⟩ := wdOk_nI (wok k (by omega))
        have := q j (by omega) ((b_ld (w - 1) (fun k hk => wok k (by omega)) j (by omega)).mpr ⟨k, hk, j2⟩)
        rw [(hh k hk j j1 j2).mp e0] at this
        exact absurd this (by decide)
      · intro q j hj hb
        obtain ⟨k, k1, k2⟩ := (b_ld (w - 1) (fun k hk => wok k (by omega)) j hj).mp hb
        obtain ⟨j', j1, j2⟩ := wdOk_nI (wok k (by omega))
        have ej : j = j' := (nI_eq (by omega) (by omega)).mp (k2.symm.trans j2)
        cases h9 : bt (Y 2 t ||| Y 3 t) j
        · exact absurd ((hh k k1 j (by omega) k2).mpr h9) (q k k1)
        · rfl
    have kf := m_fit (X := Y) (t := t) w1 w2 y18 (by omega)
    rw [fbw h (by omega) l1]
    by_cases cW : ld f a (w - 1) &&& ((Y 2 t ||| Y 3 t) ^^^ (-1)) = 0
    · rw [if_pos cW]
      by_cases cO : fok Y t
      · rw [kf.1 ⟨hW.mp cW, cO⟩, e17]
        have z1 : (bt (Y 16 0) 2 && !decide (Y 5 t = 2)) = false := by
          cases h9 : bt (Y 16 0) 2
          · rfl
          · rw [decide_eq_true (cO.1 h9)]
            rfl
        have z2 : (bt (Y 16 0) 3 && bt (Y 31 0) t) = false := by
          cases h9 : bt (Y 16 0) 3
          · rfl
          · rw [cO.2 h9]
            rfl
        rw [z1, z2, Bool.or_false, Bool.or_false]
      · rw [kf.2 (fun q => cO q.2)]
        have z0 : decide ((0 : Int32) &&& ways = 0) = true := decide_eq_true (by apply b_ext; intro i hi; rw [b_and, b_0]; rfl)
        rw [z0]
        cases h2 : bt (Y 16 0) 2
        · cases h3 : bt (Y 16 0) 3
          · exact absurd ⟨fun q => by rw [h2] at q; exact absurd q (by decide), fun q => by rw [h3] at q; exact absurd q (by decide)⟩ cO
          · cases h4 : bt (Y 31 0) t
            · exact absurd ⟨fun q => by rw [h2] at q; exact absurd q (by decide), fun _ => h4⟩ cO
            · simp
        · by_cases h5 : Y 5 t = 2
          · cases h3 : bt (Y 16 0) 3
            · exact absurd ⟨fun _ => h5, fun q => by rw [h3] at q; exact absurd q (by decide)⟩ cO
            · cases h4 : bt (Y 31 0) t
              · exact absurd ⟨fun _ => h5, fun _ => h4⟩ cO
              · simp
          · rw [decide_eq_false h5]
            simp
    · rw [if_neg cW, kf.2 (fun q => cW (hW.mpr q.1))]
      have z0 : decide ((0 : Int32) &&& ways = 0) = true := decide_eq_true (by apply b_ext; intro i hi; rw [b_and, b_0]; rfl)
      rw [z0, Bool.true_or, Bool.true_or]
  have mk1 : bt (mkS (fun t => !decide (f_Things_fitByWords (S 1) (nI t) (ld f a (w - 1)) (nI l) &&& ways = 0)) n 0 0) t = (decide (t < n) && !decide (f_Things_fitByWords (S 1) (nI t) (ld f a (w - 1)) (nI l) &&& ways = 0)) := b_mk0 hn ht
  have mk2 : bt (f_Things_placedSet (S 1) 2) t = (decide (t < n) && decide (Y 5 t = 2)) := by rw [s_placed h hn en, b_mk0 hn ht]
  by_cases htn : t < n
  · rw [main htn]
    rw [decide_eq_true htn, Bool.true_and] at mk1 mk2 ⊢
    by_cases c2 : f_Phrase_tells (S 3) (nI d) 32 = 0
    · have b2 := t2.mp c2
      rw [if_pos c2, b2]
      by_cases c3 : f_Phrase_tells (S 3) (nI d) 33 = 0
      · have b3 := t3.mp c3
        rw [if_pos c3, b3, mk1]
        simp
      · have b3 : bt (Y 16 0) 3 = true := by
          cases h9 : bt (Y 16 0) 3
          · exact absurd (t3.mpr h9) c3
          · rfl
        rw [if_neg c3, b3, b_and, b_not ht, mk1, hl]
        simp
    · have b2 : bt (Y 16 0) 2 = true := by
        cases h9 : bt (Y 16 0) 2
        · exact absurd (t2.mpr h9) c2
        · rfl
      rw [if_neg c2, b2]
      by_cases c3 : f_Phrase_tells (S 3) (nI d) 33 = 0
      · have b3 := t3.mp c3
        rw [if_pos c3, b3, b_and, mk1, mk2]
        simp
      · have b3 : bt (Y 16 0) 3 = true := by
          cases h9 : bt (Y 16 0) 3
          · exact absurd (t3.mpr h9) c3
          · rfl
        rw [if_neg c3, b3, b_and, b_and, b_not ht, mk1, mk2, hl]
        simp
  · rw [decide_eq_false htn, Bool.false_and] at mk1 mk2 ⊢
    by_cases c2 : f_Phrase_tells (S 3) (nI d) 32 = 0
    · rw [if_pos c2]
      by_cases c3 : f_Phrase_tells (S 3) (nI d) 33 = 0
      · rw [if_pos c3, mk1]
      · rw [if_neg c3, b_and, mk1]
        rfl
    · rw [if_neg c2]
      by_cases c3 : f_Phrase_tells (S 3) (nI d) 33 = 0
      · rw [if_pos c3, b_and, mk1]
        rfl
      · rw [if_neg c3, b_and, b_and, mk1]
        rfl
