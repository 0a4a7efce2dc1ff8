/-! ===== sets of things ===== -/
theorem th_n {T X : Nat → Nat → Int32} (h : RT T X) : ∃ n : Nat, n ≤ 32 ∧ X 1 0 = nI n ∧ (X 1 0).toInt = (n : Int) := by
  obtain ⟨t1, t2⟩ := h.2.2.1
  exact ⟨(X 1 0).toInt.toNat, by omega, nI_of0 t1, by omega⟩
theorem s_placedL {T X : Nat → Nat → Int32} (h : RT T X) {n : Nat} (hn : n ≤ 32) (en : X 1 0 = nI n) (x : Int32) : ∀ (m i : Nat) (a : Int32), i + m = n → f_Things_placedSet_L4 T x (m + 1) (nI i) a = mkS (fun t => decide (X 5 t = x)) m i a := by
  have hj := h.2.2.2.1
  have ei : (X 1 0).toInt = (n : Int) := by rw [en, nI_toInt (by omega)]
  intro m
  induction m with
  | zero =>
    intro i a hi
    rw [f_Things_placedSet_L4, h.2.1, en, if_pos (nI_le (by omega) (by omega)), mkS_0]
  | succ m ih =>
    intro i a hi
    have c32 : ¬ (32 : Int32) ≤ nI i := nI_ge (a := i) (b := 32) (by omega) (by omega)
    rw [f_Things_placedSet_L4, h.2.1, en, if_neg (nI_ge (by omega) (by omega)), if_neg c32, nI_clamp (by omega), (hj i (by omega)).2.1, nI_1, ih (i + 1) _ (by omega), ih (i + 1) _ (by omega)]
    by_cases c : X 5 i = x
    · rw [if_pos c, mkS_t (decide_eq_true c)]
    · rw [if_neg c, mkS_f (by rw [decide_eq_false c]; decide)]
theorem s_placed {T X : Nat → Nat → Int32} (h : RT T X) {n : Nat} (hn : n ≤ 32) (en : X 1 0 = nI n) (x : Int32) : f_Things_placedSet T x = mkS (fun t => decide (X 5 t = x)) n 0 0 := by
  unfold f_Things_placedSet
  rw [h.2.1, en, mu_n0 (by omega), ← s_placedL h hn en x n 0 0 (by omega), nI_0]
theorem s_thereL {X : Nat → Nat → Int32} {n : Nat} (hn : n ≤ 32) (en : X 1 0 = nI n) : ∀ (m i : Nat) (a : Int32), i + m = n → f_M_there_L4 X (m + 1) (nI i) a = mkS (fun t => decide (X 5 t = 1) || decide (X 5 t = 2)) m i a := by
  intro m
  induction m with
  | zero =>
    intro i a hi
    rw [f_M_there_L4, en, if_pos (nI_le (by omega) (by omega)), mkS_0]
  | succ m ih =>
    intro i a hi
    rw [f_M_there_L4, en, if_neg (nI_ge (by omega) (by omega)), nI_clamp (by omega), nI_1, ih (i + 1) _ (by omega), ih (i + 1) _ (by omega)]
    by_cases c : X 5 i = 1
    · rw [if_pos c, mkS_t (by rw [decide_eq_true c]; rfl)]
    · rw [if_neg c]
      by_cases c2 : X 5 i = 2
      · rw [if_pos c2, mkS_t (by rw [decide_eq_true c2, Bool.or_true])]
      · rw [if_neg c2, mkS_f (by rw [decide_eq_false c, decide_eq_false c2]; decide)]
theorem s_there {X : Nat → Nat → Int32} {n : Nat} (hn : n ≤ 32) (en : X 1 0 = nI n) : f_M_there X = mkS (fun t => decide (X 5 t = 1) || decide (X 5 t = 2)) n 0 0 := by
  unfold f_M_there
  rw [en, mu_n0 (by omega), ← s_thereL hn en n 0 0 (by omega), nI_0]
theorem e_there {T X : Nat → Nat → Int32} (h : RT T X) : f_Things_thereSet T = f_M_there X := by
  obtain ⟨n, hn, en, _⟩ := th_n h
  unfold f_Things_thereSet
  rw [s_placed h hn en, s_placed h hn en, s_there hn en]
  apply b_ext
  intro t ht
  rw [b_or, b_mk0 hn ht, b_mk0 hn ht, b_mk0 hn ht]
  cases decide (t < n) <;> rfl
theorem s_allL {T X : Nat → Nat → Int32} (h : RT T X) {n : Nat} (hn : n ≤ 32) (en : X 1 0 = nI n) : ∀ (m i : Nat) (a : Int32), i + m = n → f_Things_allSet_L4 T (m + 1) (nI i) a = mkS (fun _ => true) m i a := by
  intro m
  induction m with
  | zero =>
    intro i a hi
    rw [f_Things_allSet_L4, h.2.1, en, if_pos (nI_le (by omega) (by omega)), mkS_0]
  | succ m ih =>
    intro i a hi
    rw [f_Things_allSet_L4, h.2.1, en, if_neg (nI_ge (by omega) (by omega)), nI_1, ih (i + 1) _ (by omega), mkS_t rfl]
theorem ev_32 : ∀ n, n < 33 → mkS (fun _ => true) n 0 0 = if nI n = 32 then -1 else ((1 : Int32) <<< (nI n &&& 31)) - 1 := by decide +kernel
theorem e_all {T X : Nat → Nat → Int32} (h : RT T X) : f_Things_allSet T = f_M_everything X := by
  obtain ⟨n, hn, en, _⟩ := th_n h
  unfold f_Things_allSet f_M_everything
  have q := s_allL h hn en n 0 0 (by omega)
  rw [nI_0] at q
  rw [h.2.1, en, mu_n0 (by omega), q, ev_32 n (by omega)]
theorem b_all {T X : Nat → Nat → Int32} (h : RT T X) {n t : Nat} (hn : n ≤ 32) (en : X 1 0 = nI n) (ht : t < 32) : bt (f_Things_allSet T) t = decide (t < n) := by
  have q := s_allL h hn en n 0 0 (by omega)
  rw [nI_0] at q
  unfold f_Things_allSet
  rw [h.2.1, en, mu_n0 (by omega), q, b_mk0 hn ht, Bool.and_true]
/-! == how many are held == -/
def nof (p : Nat → Bool) : Nat → Nat
  | 0 => 0
  | n + 1 => nof p n + (if p n = true then 1 else 0)
theorem cnt_nof {x : Int32} {p : Nat → Bool} : ∀ n : Nat, (∀ t, t < n → bt x t = p t) → cnt x n = nof p n := by
  intro n
  induction n with
  | zero => intro _; rfl
  | succ n ih =>
    intro h
    rw [cnt, nof, ih (fun t ht => h t (by omega)), h n (by omega)]
theorem nof_z {p : Nat → Bool} {n : Nat} : ∀ m : Nat, (∀ t, n ≤ t → p t = false) → n ≤ m → nof p m = nof p n := by
  intro m h
  induction m with
  | zero =>
    intro q
    rw [show n = 0 by omega]
  | succ m ih =>
    intro q
    rcases Nat.lt_or_ge n (m + 1) with q2 | q2
    · rw [nof, ih (by omega), h m (by omega)]
      rfl
    · rw [show n = m + 1 by omega]
theorem nof_le (p : Nat → Bool) : ∀ n, nof p n ≤ n := by
  intro n
  induction n with
  | zero => exact Nat.le_refl _
  | succ n ih =>
    rw [nof]
    split <;> omega
theorem cnt_mk {p : Nat → Bool} {n : Nat} (hn : n ≤ 32) : cnt (mkS p n 0 0) 32 = nof p n := by
  rw [cnt_nof (p := fun t => decide (t < n) && p t) 32 (fun t ht => b_mk0 hn ht), nof_z 32 (fun t ht => by rw [decide_eq_false (by omega)]; rfl) hn]
  have : ∀ m, m ≤ n → nof (fun t => decide (t < n) && p t) m = nof p m := by
    intro m
    induction m with
    | zero => intro _; rfl
    | succ m ih =>
      intro q
      rw [nof, nof, ih (by omega), decide_eq_true (by omega : m < n), Bool.true_and]
  exact this n (Nat.le_refl _)
def cOut (X : Nat → Nat → Int32) (x1 z2 : Int32) : Int32 := if x1 = 0 then X 1 0 else if x1 = 1 then f_bitCount (f_M_there (upf X 0 (fun _ => 0))) else if x1 = 2 then z2 else if x1 = 3 then X 11 0 else if x1 = 4 then X 26 0 else if x1 = 5 then X 9 0 else -1
theorem count_L {X : Nat → Nat → Int32} {n : Nat} (hn : n ≤ 32) (en : X 1 0 = nI n) (x1 : Int32) : ∀ (m i : Nat), i + m = n → f_M_count_L9 X x1 (m + 1) (nI i) (nI (nof (fun t => decide (X 5 t = 2)) i)) = (cOut X x1 (nI (nof (fun t => decide (X 5 t = 2)) n)), upf X 0 (fun _ => 0)) := by
  intro m
  induction m with
  | zero =>
    intro i hi
    have e : i = n := by omega
    subst e
    rw [f_M_count_L9, en, if_pos (nI_le (by omega) (by omega))]
    unfold cOut
    rw [en]
    by_cases c0 : x1 = 0
    · rw [if_pos c0, if_pos c0]
    · rw [if_neg c0, if_neg c0]
      by_cases c1 : x1 = 1
      · rw [if_pos c1, if_pos c1]
      · rw [if_neg c1, if_neg c1]
        by_cases c2 : x1 = 2
        · rw [if_pos c2, if_pos c2]
        · rw [if_neg c2, if_neg c2]
          by_cases c3 : x1 = 3
          · rw [if_pos c3, if_pos c3]
          · rw [if_neg c3, if_neg c3]
            by_cases c4 : x1 = 4
            · rw [if_pos c4, if_pos c4]
            · rw [if_neg c4, if_neg c4]
              by_cases c5 : x1 = 5
              · rw [if_pos c5, if_pos c5]
              · rw [if_neg c5, if_neg c5]
  | succ m ih =>
    intro i hi
    have q := ih (i + 1) (by omega)
    rw [f_M_count_L9, en, if_neg (nI_ge (by omega) (by omega)), nI_clamp (by omega), nI_1, nI_1]
    rw [nof] at q
    by_cases c : X 5 i = 2
    · rw [if_pos c]
      rw [if_pos (decide_eq_true c)] at q
      exact q
    · rw [if_neg c]
      rw [if_neg (by rw [decide_eq_false c]; decide)] at q
      exact q
theorem r_count (S : Nat → Nat → Nat → Int32) (X : Nat → Nat → Int32) (x1 : Int32) (h : Rel S X) : f_NC_count S x1 = (f_M_count X x1).1 ∧ Rel S (f_M_count X x1).2 := by
  obtain ⟨n, hn, en, _⟩ := th_n h.1
  have kB : f_M_count X x1 = (cOut X x1 (nI (nof (fun t => decide (X 5 t = 2)) n)), upf X 0 (fun _ => 0)) := by
    have q := count_L hn en x1 n 0 (by omega)
    unfold f_M_count
    rw [en, mu_n0 (by omega)]
    exact q
  rw [kB]
  refine ⟨?_, Rel_0 h⟩
  show f_NC_count S x1 = cOut X x1 _
  unfold f_NC_count cOut
  have e1 : f_M_there (upf X 0 (fun _ => 0)) = f_M_there X := by
    rw [s_there hn en, s_there (X := upf X 0 (fun _ => 0)) hn en]
    rfl
  rw [h.1.2.1, e_there h.1, e1, s_placed h.1 hn en, e_bc (mkS _ n 0 0), cnt_mk hn, h.2.1.2.1, h.2.2.1, h.2.2.2.2.2.2.2.1]
