/-! ===== what is given, in order ===== -/
theorem cnt_lt {x : Int32} {i : Nat} (hi : i < 32) (h : bt x i = false) : cnt x 32 < 32 := by
  have k : ∀ n, i < n → cnt x n < n := by
    intro n
    induction n with
    | zero => intro q; exact absurd q (Nat.not_lt_zero _)
    | succ n ih =>
      intro q
      have e : cnt x (n + 1) = cnt x n + (if bt x n then 1 else 0) := rfl
      by_cases c : i = n
      · rw [e, ← c, h]
        have := cnt_le x i
        simp
        omega
      · have := ih (by omega)
        rw [e]
        cases bt x n
        · simp
          omega
        · simp
          omega
  exact k 32 hi
theorem cnt_bit {x : Int32} {i : Nat} (hi : i < 32) (h : bt x i = false) : cnt (x ||| ((1 : Int32) <<< (nI i &&& 31))) 32 = cnt x 32 + 1 := by
  have e : cnt (((1 : Int32) <<< (nI i &&& 31)) &&& (x ^^^ (-1))) 32 = 1 := by
    apply cnt_1 (s := i) hi
    · rw [b_and, b_sh1 hi hi, b_not hi, h, decide_eq_true rfl]
      rfl
    · intro t ht q
      rw [b_and, b_sh1 hi ht] at q
      by_cases c : t = i
      · exact c
      · rw [decide_eq_false c] at q
        exact absurd q (by simp)
  rw [cnt_or _ _ 32 (Nat.le_refl _), e]
theorem add_tail {g : Int32} : ∀ (m i : Nat) (K : Nat → Nat → Int32), i + m = 32 → (∀ t, i ≤ t → t < 32 → bt g t = false) → f_Picks_add_L2 g (m + 1) K (nI i) = K := by
  intro m
  induction m with
  | zero =>
    intro i K hi _
    rw [f_Picks_add_L2, if_pos]
    rw [Int32.le_iff_toInt_le, nI_toInt (by omega)]
    have e32 : (32 : Int32).toInt = 32 := by decide
    omega
  | succ m ih =>
    intro i K hi hz
    rw [f_Picks_add_L2, if_neg, if_pos ((nc_h0 (by omega)).mpr (hz i (Nat.le_refl _) (by omega))), nI_1]
    · exact ih (i + 1) K (by omega) (fun t h1 h2 => hz t (by omega) h2)
    · rw [Int32.le_iff_toInt_le, nI_toInt (by omega)]
      have e32 : (32 : Int32).toInt = 32 := by decide
      omega
def PInv (K X : Nat → Nat → Int32) (c : Nat) : Prop := K 1 0 = nI c ∧ c = cnt (K 2 0) 32 ∧ ∀ j, j < c → K 0 j = X 34 j
theorem add_L {N : Nat} (hN : N ≤ 32) {all g y3 : Int32} (hg : ∀ t, t < 32 → bt g t = true → t < N) : ∀ (m i c : Nat) (K X : Nat → Nat → Int32), i + m = N → X 1 0 = nI N → X 22 0 = g → PInv K X c → (∀ t, t < 32 → bt (K 2 0) t = (bt all t || (bt g t && decide (t < i)))) →
    ∃ c', (f_M_go_L145 all y3 (m + 1) X (nI i) (nI c)).1 = nI c' ∧ PInv (f_Picks_add_L2 g (m + (32 - N) + 1) K (nI i)) (f_M_go_L145 all y3 (m + 1) X (nI i) (nI c)).2 c' ∧ (f_Picks_add_L2 g (m + (32 - N) + 1) K (nI i)) 2 0 = all ||| g ∧ ∀ j, ¬ j = 34 → (f_M_go_L145 all y3 (m + 1) X (nI i) (nI c)).2 j = X j := by
  intro m
  induction m with
  | zero =>
    intro i c K X hi en eg hI hb
    have q : X 1 0 ≤ nI i := by
      rw [en, Int32.le_iff_toInt_le, nI_toInt (by omega), nI_toInt (by omega)]
      omega
    rw [f_M_go_L145, if_pos q, add_tail (0 + (32 - N)) i K (by omega) (fun t h1 h2 => by
      cases h9 : bt g t
      · rfl
      · have := hg t h2 h9
        omega)]
    refine ⟨c, rfl, hI, ?_, fun j _ => rfl⟩
    apply b_ext
    intro t ht
    rw [hb t ht, b_or]
    cases h9 : bt g t
    · rfl
    · rw [decide_eq_true (by have := hg t ht h9; omega : t < i)]
      rfl
  | succ m ih =>
    intro i c K X hi en eg hI hb
    have q : ¬ X 1 0 ≤ nI i := by
      rw [en, Int32.le_iff_toInt_le, nI_toInt (by omega), nI_toInt (by omega)]
      omega
    have e32 : (32 : Int32).toInt = 32 := by decide
    have q2 : ¬ (32 : Int32) ≤ nI i := by
      rw [Int32.le_iff_toInt_le, nI_toInt (by omega)]
      omega
    have i32 : i < 32 := by omega
    have ki : bt (K 2 0) i = bt all i := by
      rw [hb i i32, decide_eq_false (by omega), Bool.and_false, Bool.or_false]
    rw [show m + 1 + (32 - N) + 1 = (m + (32 - N) + 1) + 1 by omega, f_M_go_L145, if_neg q, eg, f_Picks_add_L2, if_neg q2, nI_1]
    have skip : ¬ (bt g i = true ∧ bt all i = false) → ∀ t, t < 32 → bt (K 2 0) t = (bt all t || (bt g t && decide (t < i + 1))) := by
      intro hno t ht
      rw [hb t ht]
      by_cases c1 : t = i
      · subst c1
        rw [decide_eq_false (by omega : ¬ t < t), decide_eq_true (by omega : t < t + 1)]
        cases h1 : bt all t
        · cases h2 : bt g t
          · rfl
          · exact absurd ⟨h2, h1⟩ hno
        · rfl
      · by_cases c2 : t < i
        · rw [decide_eq_true c2, decide_eq_true (by omega : t < i + 1)]
        · rw [decide_eq_false c2, decide_eq_false (by omega : ¬ t < i + 1)]
    cases hgi : bt g i
    · rw [if_pos ((nc_h0 i32).mpr hgi), if_pos ((m_h0 i32).mpr (by rw [b_and, hgi]; rfl))]
      exact ih (i + 1) c K X (by omega) en eg hI (skip (fun w => by rw [hgi] at w; exact absurd w.1 (by decide)))
    · have g1 : ¬ f_NC_holds g (nI i) = 0 := fun w => by
        rw [(nc_h0 i32).mp w] at hgi
        exact absurd hgi (by decide)
      rw [if_neg g1]
      cases hai : bt all i
      · have hk0 : bt (K 2 0) i = false := ki.trans hai
        have cl := cnt_lt i32 hk0
        obtain ⟨k1, k2, k3⟩ := hI
        have q3 : ¬ (32 : Int32) ≤ K 1 0 := by
          rw [k1, Int32.le_iff_toInt_le, nI_toInt (by omega)]
          omega
        have g2 : ¬ f_M_has (g &&& (all ^^^ (-1))) (nI i) = 0 := fun w => by
          have w2 := (m_h0 i32).mp w
          rw [b_and, hgi, b_not i32, hai] at w2
          exact absurd w2 (by decide)
        rw [if_pos ((nc_h0 i32).mpr hk0), if_neg q3, if_neg g2, k1, nI_1, nI_clamp (by omega)]
        have v1 : c + 1 = cnt ((K 2 0) ||| ((1 : Int32) <<< (nI i &&& 31))) 32 := by
          rw [cnt_bit i32 hk0, ← k2]
        have v2 : ∀ j, j < c + 1 → upd (K 0) c (nI i) j = upd (X 34) c (nI i) j := by
          intro j hj
          by_cases e : j = c
          · rw [e, pk_us, pk_us]
          · rw [pk_un e, pk_un e]
            exact k3 j (by omega)
        have v3 : ∀ t, t < 32 → bt ((K 2 0) ||| ((1 : Int32) <<< (nI i &&& 31))) t = (bt all t || (bt g t && decide (t < i + 1))) := by
          intro t ht
          rw [b_or, b_sh1 i32 ht, hb t ht]
          by_cases c1 : t = i
          · subst c1
            rw [decide_eq_true rfl, decide_eq_true (by omega : t < t + 1), hgi, hai]
            simp
          · rw [decide_eq_false c1, Bool.or_false]
            by_cases c2 : t < i
            · rw [decide_eq_true c2, decide_eq_true (by omega : t < i + 1)]
            · rw [decide_eq_false c2, decide_eq_false (by omega : ¬ t < i + 1)]
        obtain ⟨c', w1, w2, w3, w4⟩ := ih (i + 1) (c + 1) (upf (upf (upf K 0 (upd (K 0) c (nI i))) 1 (fun _ => (nI (c + 1)))) 2 (fun _ => ((K 2 0) ||| ((1 : Int32) <<< (nI i &&& 31))))) (upf X 34 (upd (X 34) c (nI i))) (by omega) en eg ⟨rfl, v1, v2⟩ v3
        exact ⟨c', w1, w2, w3, fun j hj => (w4 j hj).trans (upf_ne (nb hj))⟩
      · have g3 : ¬ f_NC_holds (K 2 0) (nI i) = 0 := fun w => by
          rw [(nc_h0 i32).mp w, hai] at ki
          exact absurd ki (by decide)
        rw [if_neg g3, if_pos ((m_h0 i32).mpr (by rw [b_and, b_not i32, hai]; simp))]
        exact ih (i + 1) c K X (by omega) en eg hI (skip (fun w => by rw [hai] at w; exact absurd w.2 (by decide)))
theorem add_res {N c : Nat} (hN : N ≤ 32) {g y3 : Int32} {K X : Nat → Nat → Int32} (hg : ∀ t, t < 32 → bt g t = true → t < N) (en : X 1 0 = nI N) (eg : X 22 0 = g) (hI : PInv K X c) :
    ∃ c', (f_M_go_L145 (K 2 0) y3 (nc_mu (X 1 0) 0 + 1) X 0 (nI c)).1 = nI c' ∧ PInv (f_Picks_add K g) (f_M_go_L145 (K 2 0) y3 (nc_mu (X 1 0) 0 + 1) X 0 (nI c)).2 c' ∧ (f_Picks_add K g) 2 0 = K 2 0 ||| g ∧ ∀ j, ¬ j = 34 → (f_M_go_L145 (K 2 0) y3 (nc_mu (X 1 0) 0 + 1) X 0 (nI c)).2 j = X j := by
  have w := add_L (y3 := y3) (all := K 2 0) hN hg N 0 c K X (by omega) en eg hI (fun t ht => by rw [decide_eq_false (Nat.not_lt_zero _), Bool.and_false, Bool.or_false])
  rw [nI_0, show N + (32 - N) + 1 = 33 by omega] at w
  rw [en, mu_n0 (by omega)]
  exact w
theorem copy_L {c : Nat} (hc : c ≤ 32) : ∀ (m i : Nat) (X : Nat → Nat → Int32), i + m = c →
    (f_M_go_L230 (nI c) (m + 1) X (nI i)).1 = nI c ∧ (∀ j, i ≤ j → j < c → (f_M_go_L230 (nI c) (m + 1) X (nI i)).2 32 j = X 34 j) ∧ (∀ j, j < i → (f_M_go_L230 (nI c) (m + 1) X (nI i)).2 32 j = X 32 j) ∧ (∀ k, ¬ k = 32 → (f_M_go_L230 (nI c) (m + 1) X (nI i)).2 k = X k) := by
  intro m
  induction m with
  | zero =>
    intro i X hi
    rw [f_M_go_L230, if_pos]
    · exact ⟨rfl, fun j h1 h2 => absurd h2 (by omega), fun j _ => rfl, fun k _ => rfl⟩
    · rw [Int32.le_iff_toInt_le, nI_toInt (by omega), nI_toInt (by omega)]
      omega
  | succ m ih =>
    intro i X hi
    rw [f_M_go_L230, if_neg, nI_1, nI_clamp (by omega)]
    · obtain ⟨i1, i2, i3, i4⟩ := ih (i + 1) (upf X 32 (upd (X 32) i (X 34 i))) (by omega)
      refine ⟨i1, fun j h1 h2 => ?_, fun j h1 => ?_, fun k hk => (i4 k hk).trans (upf_ne (nb hk))⟩
      · by_cases e : j = i
        · rw [e, i3 i (by omega)]
          show upd (X 32) i (X 34 i) i = X 34 i
          rw [pk_us]
        · exact i2 j (by omega) h2
      · rw [i3 j (by omega)]
        show upd (X 32) i (X 34 i) j = X 32 j
        rw [pk_un (by omega)]
    · rw [Int32.le_iff_toInt_le, nI_toInt (by omega), nI_toInt (by omega)]
      omega
