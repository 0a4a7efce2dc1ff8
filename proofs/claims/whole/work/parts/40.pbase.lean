/-! ===== sets by a loop; the relation of the two states ===== -/
def mkS (p : Nat → Bool) : Nat → Nat → Int32 → Int32
  | 0, _, a => a
  | m + 1, i, a => mkS p m (i + 1) (if p i = true then a ||| ((1 : Int32) <<< (nI i &&& 31)) else a)
theorem mkS_s (p : Nat → Bool) (m i : Nat) (a : Int32) : mkS p (m + 1) i a = mkS p m (i + 1) (if p i = true then a ||| ((1 : Int32) <<< (nI i &&& 31)) else a) := rfl
theorem mkS_0 (p : Nat → Bool) (i : Nat) (a : Int32) : mkS p 0 i a = a := rfl
theorem mkS_t {p : Nat → Bool} {m i : Nat} {a : Int32} (h : p i = true) : mkS p (m + 1) i a = mkS p m (i + 1) (a ||| ((1 : Int32) <<< (nI i &&& 31))) := by rw [mkS_s, if_pos h]
theorem mkS_f {p : Nat → Bool} {m i : Nat} {a : Int32} (h : ¬ p i = true) : mkS p (m + 1) i a = mkS p m (i + 1) a := by rw [mkS_s, if_neg h]
theorem mkS_congr {p q : Nat → Bool} : ∀ (m i : Nat) (a : Int32), (∀ t, i ≤ t → t < i + m → p t = q t) → mkS p m i a = mkS q m i a := by
  intro m
  induction m with
  | zero => intro i a _; rfl
  | succ m ih =>
    intro i a h
    rw [mkS_s, mkS_s, h i (Nat.le_refl _) (by omega)]
    exact ih (i + 1) _ (fun t h1 h2 => h t (by omega) (by omega))
theorem b_mk {p : Nat → Bool} : ∀ (m i : Nat) (a : Int32) (t : Nat), i + m ≤ 32 → t < 32 → bt (mkS p m i a) t = (bt a t || (decide (i ≤ t ∧ t < i + m) && p t)) := by
  intro m
  induction m with
  | zero =>
    intro i a t _ _
    rw [mkS_0, decide_eq_false (by omega)]
    simp
  | succ m ih =>
    intro i a t h ht
    by_cases hp : p i = true
    · rw [mkS_t hp, ih (i + 1) _ t (by omega) ht, b_or, b_sh1 (by omega) ht]
      by_cases e : t = i
      · subst e
        rw [decide_eq_true (rfl : t = t), decide_eq_true (by omega : t ≤ t ∧ t < t + (m + 1)), hp]
        simp
      · rw [decide_eq_false e, Bool.or_false]
        by_cases e2 : i ≤ t ∧ t < i + (m + 1)
        · rw [decide_eq_true e2, decide_eq_true (by omega : i + 1 ≤ t ∧ t < i + 1 + m)]
        · rw [decide_eq_false e2, decide_eq_false (by omega : ¬ (i + 1 ≤ t ∧ t < i + 1 + m))]
    · rw [mkS_f hp, ih (i + 1) _ t (by omega) ht]
      by_cases e : t = i
      · subst e
        have hf : p t = false := by
          cases h9 : p t
          · rfl
          · exact absurd h9 hp
        rw [hf, Bool.and_false, Bool.and_false]
      · by_cases e2 : i ≤ t ∧ t < i + (m + 1)
        · rw [decide_eq_true e2, decide_eq_true (by omega : i + 1 ≤ t ∧ t < i + 1 + m)]
        · rw [decide_eq_false e2, decide_eq_false (by omega : ¬ (i + 1 ≤ t ∧ t < i + 1 + m))]
theorem b_mk0 {p : Nat → Bool} {n t : Nat} (hn : n ≤ 32) (ht : t < 32) : bt (mkS p n 0 0) t = (decide (t < n) && p t) := by
  rw [b_mk n 0 0 t (by omega) ht, b_0, Bool.false_or]
  by_cases e : t < n
  · rw [decide_eq_true e, decide_eq_true (by omega : 0 ≤ t ∧ t < 0 + n)]
  · rw [decide_eq_false e, decide_eq_false (by omega : ¬ (0 ≤ t ∧ t < 0 + n))]
theorem mu_nI {n i : Nat} (hn : n < 2 ^ 31) (hi : i < 2 ^ 31) : nc_mu (nI n) (nI i) = n - i := by
  unfold nc_mu
  rw [nI_toInt hn, nI_toInt hi]
  omega
theorem mu_n0 {n : Nat} (hn : n < 2 ^ 31) : nc_mu (nI n) 0 = n := by
  rw [← nI_0, mu_nI hn (by omega), Nat.sub_zero]
theorem nc_h {x : Int32} {t : Nat} (ht : t < 32) : f_NC_holds x (nI t) = if bt x t then 1 else 0 := by
  unfold f_NC_holds
  rw [b_has ht]
  cases bt x t <;> rfl
theorem nc_h0 {x : Int32} {t : Nat} (ht : t < 32) : (f_NC_holds x (nI t) = 0) ↔ bt x t = false := by
  rw [nc_h ht]
  cases bt x t <;> simp
theorem m_h0 {x : Int32} {t : Nat} (ht : t < 32) : (f_M_has x (nI t) = 0) ↔ bt x t = false := by
  rw [m_has ht]
  cases bt x t <;> simp
/-! == the phrase, as its tokens tell it == -/
def tk (f : Nat → Int32) (n i : Nat) : Int32 := if i < n then f i else -1
def ar (f : Nat → Int32) (n : Nat) : Nat → Nat → Int32 → Nat × Int32
  | 0, a, fl => (a, fl)
  | m + 1, a, fl => if f_M_in (tk f n a) 30 33 = 0 then (a, fl) else if f_M_has fl (tk f n a - 30) = 0 then ar f n m (a + 1) (fl ||| ((1 : Int32) <<< ((tk f n a - 30) &&& 31))) else (a, fl)
def wd (f : Nat → Int32) (n : Nat) : Nat → Nat → Nat
  | 0, _ => 0
  | m + 1, a => if f_M_in (tk f n a) 0 29 = 0 then 0 else wd f n m (a + 1) + 1
def ld (f : Nat → Int32) (a : Nat) : Nat → Int32
  | 0 => 0
  | k + 1 => ld f a k ||| ((1 : Int32) <<< (f (a + k) &&& 31))
/-- where the words of a description at a begin, what its articles are, how many words it has -/
def dA (f : Nat → Int32) (n a : Nat) : Nat := (ar f n (n - a + 1) a 0).1
def dF (f : Nat → Int32) (n a : Nat) : Int32 := (ar f n (n - a + 1) a 0).2
def dW (f : Nat → Int32) (n a : Nat) : Nat := wd f n 6 (dA f n a)
def DescAt (f : Nat → Int32) (n : Nat) (P : Nat → Nat → Int32) (d a b : Nat) : Prop :=
  0 < dW f n a ∧ b = dA f n a + dW f n a ∧ d < 30 ∧ (d : Int) < (P 8 0).toInt ∧ P 5 d = dF f n a ∧ P 6 d = ld f (dA f n a) (dW f n a - 1) ∧ P 7 d = f (dA f n a + dW f n a - 1)
def ExcAt (f : Nat → Int32) (n : Nat) (P : Nat → Nat → Int32) : Nat → Nat → Nat → Nat → Prop
  | 0, _, a, b => a = b
  | m + 1, d, a, b => tk f n a = 35 ∧ ∃ b1, DescAt f n P d (a + 1) b1 ∧ ExcAt f n P m (d + 1) b1 b
def hq (f : Nat → Int32) (n a : Nat) : Nat := if tk f n a = 37 then a + 1 else a
def dscd (f : Nat → Int32) (n a : Nat) : Prop := tk f n a = 37 ∨ (a < n ∧ ¬ tk f n a = 35 ∧ ¬ tk f n a = 36)
def PartAt (f : Nat → Int32) (n : Nat) (P : Nat → Nat → Int32) (k a b : Nat) : Prop :=
  ∃ d m b1 : Nat, P 3 k = nI (d + m) ∧ d + m ≤ 30 ∧
    ((tk f n a = 34 ∧ P 0 k = -1 ∧ ¬ tk f n b = 35 ∧
        ((dscd f n (a + 1) ∧ 0 < d ∧ P 1 k = nI (d - 1) ∧ P 2 k = nI d ∧ DescAt f n P (d - 1) (hq f n (a + 1)) b1 ∧ ExcAt f n P m d b1 b)
        ∨ (¬ dscd f n (a + 1) ∧ P 1 k = -1 ∧ P 2 k = nI d ∧ ExcAt f n P m d (a + 1) b)))
    ∨ (40 < tk f n a ∧ P 0 k = tk f n a - 40 ∧ 0 < d ∧ m = 0 ∧ P 1 k = nI (d - 1) ∧ P 2 k = nI d ∧ DescAt f n P (d - 1) (hq f n (a + 1)) b)
    ∨ (¬ tk f n a = 34 ∧ ¬ 40 < tk f n a ∧ P 0 k = 0 ∧ 0 < d ∧ m = 0 ∧ P 1 k = nI (d - 1) ∧ P 2 k = nI d ∧ DescAt f n P (d - 1) a b))
def PhrAt (f : Nat → Int32) (n : Nat) (P : Nat → Nat → Int32) : Nat → Nat → Nat → Prop
  | 0, _, _ => True
  | m + 1, k, a => ∃ b, PartAt f n P k a b ∧ PhrAt f n P m (k + 1) (b + 1)
/-! == the relation == -/
def okTok (x : Int32) : Prop := (0 ≤ x.toInt ∧ x.toInt ≤ 37) ∨ (41 ≤ x.toInt ∧ x.toInt ≤ 60)
def RT (T X : Nat → Nat → Int32) : Prop :=
  (T 0 = X 2 ∧ T 1 = X 3 ∧ T 4 = X 6 ∧ T 5 = X 7 ∧ T 6 = X 8) ∧ T 7 0 = X 1 0 ∧ m_t X ∧
  (∀ j : Nat, (j : Int) < (X 1 0).toInt → T 2 j = X 4 j ∧ T 3 j = X 5 j ∧ -1 ≤ (X 4 j).toInt) ∧
  (∀ j : Nat, (X 1 0).toInt ≤ (j : Int) → j < 32 → T 2 j = -1 ∧ T 3 j = 1) ∧ m_k X ∧
  (∀ j : Nat, -9 ≤ (X 6 j).toInt ∧ (X 6 j).toInt ≤ 9) ∧ (∀ j : Nat, 0 ≤ (X 8 j).toInt ∧ (X 8 j).toInt ≤ 9)
def RRow (O X : Nat → Nat → Int32) : Prop := O 1 = X 10 ∧ O 2 0 = X 11 0 ∧ (0 ≤ (X 11 0).toInt ∧ (X 11 0).toInt ≤ 30) ∧ ∀ j : Nat, okTok (X 10 j)
def RLat (K X : Nat → Nat → Int32) : Prop := K 1 0 = X 33 0 ∧ K 2 0 = X 31 0 ∧ (0 ≤ (X 33 0).toInt ∧ (X 33 0).toInt ≤ 32) ∧ ∀ j : Nat, (j : Int) < (X 33 0).toInt → K 0 j = X 32 j
def RAsk (O X : Nat → Nat → Int32) : Prop := O 10 0 = X 29 0 ∧ (¬ X 29 0 = 0 → O 11 0 = X 30 0) ∧ (0 ≤ (X 30 0).toInt ∧ (X 30 0).toInt < 30)
def RLeft (O X : Nat → Nat → Int32) : Prop := ∀ k : Nat, k < 30 → O 6 k = if X 28 k = 0 then -1 else X 27 k
def RTold (O X : Nat → Nat → Int32) : Prop := O 12 0 = X 35 0 ∧ O 13 0 = X 36 0 ∧ O 14 0 = X 37 0
def RPhr (P X : Nat → Nat → Int32) : Prop := P 4 0 = X 26 0 ∧ (P 8 0).toInt ≤ 30 ∧ (∀ j : Nat, okTok (X 24 j)) ∧ ∃ n K : Nat, n ≤ 30 ∧ K ≤ 30 ∧ X 25 0 = nI n ∧ X 26 0 = nI K ∧ PhrAt (X 24) n P K 0 0
def Rel (S : Nat → Nat → Nat → Int32) (X : Nat → Nat → Int32) : Prop :=
  RT (S 1) X ∧ RRow (S 0) X ∧ S 0 3 0 = X 9 0 ∧ RLat (S 4) X ∧ RAsk (S 0) X ∧ RLeft (S 0) X ∧ RTold (S 0) X ∧ RPhr (S 2) X
theorem p_t (S : Nat → Nat → Nat → Int32) (X : Nat → Nat → Int32) (h : Rel S X) : m_t X := h.1.2.2.1
theorem p_k (S : Nat → Nat → Nat → Int32) (X : Nat → Nat → Int32) (h : Rel S X) : m_k X := h.1.2.2.2.2.2.1
theorem p_s (S : Nat → Nat → Nat → Int32) (X : Nat → Nat → Int32) (h : Rel S X) : 0 ≤ (X 11 0).toInt ∧ (X 11 0).toInt ≤ 30 := h.2.1.2.2.1
theorem p_ps (S : Nat → Nat → Nat → Int32) (X : Nat → Nat → Int32) (h : Rel S X) : (X 25 0).toInt ≤ 30 := by
  obtain ⟨_, _, _, _, _, _, _, _, _, _, n, K, h1, h2, h3, h4, h5⟩ := h
  rw [h3, nI_toInt (by omega)]
  omega
theorem p_pp (S : Nat → Nat → Nat → Int32) (X : Nat → Nat → Int32) (h : Rel S X) : (X 26 0).toInt ≤ 30 := by
  obtain ⟨_, _, _, _, _, _, _, _, _, _, n, K, h1, h2, h3, h4, h5⟩ := h
  rw [h4, nI_toInt (by omega)]
  omega
theorem p_ap (S : Nat → Nat → Nat → Int32) (X : Nat → Nat → Int32) (h : Rel S X) : 0 ≤ (X 30 0).toInt ∧ (X 30 0).toInt < 30 := h.2.2.2.2.1.2.2
theorem p_c (S : Nat → Nat → Nat → Int32) (X : Nat → Nat → Int32) (h : Rel S X) : 0 ≤ (X 33 0).toInt ∧ (X 33 0).toInt ≤ 32 := h.2.2.2.1.2.2.1
theorem p_row (S : Nat → Nat → Nat → Int32) (X : Nat → Nat → Int32) (h : Rel S X) : 0 ≤ ((S 0) 2 0).toInt := by
  rw [h.2.1.2.1]
  exact h.2.1.2.2.1.1
