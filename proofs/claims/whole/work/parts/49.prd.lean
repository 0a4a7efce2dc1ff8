/-! ===== how the reference reads a description ===== -/
theorem tk_in {f : Nat → Int32} {n a : Nat} (h : a < n) : tk f n a = f a := by
  unfold tk
  rw [if_pos h]
theorem tk_out {f : Nat → Int32} {n a : Nat} (h : ¬ a < n) : tk f n a = -1 := by
  unfold tk
  rw [if_neg h]
theorem tk_lt {f : Nat → Int32} {n a : Nat} {lo hi : Int32} (h0 : 0 ≤ lo.toInt) (h : ¬ f_M_in (tk f n a) lo hi = 0) : a < n := by
  rcases Nat.lt_or_ge a n with q | q
  · exact q
  · have k := in_of h
    rw [tk_out (by omega), show (-1 : Int32).toInt = -1 by decide] at k
    omega
theorem ar_le {f : Nat → Int32} {n : Nat} : ∀ (m a : Nat) (fl : Int32), a ≤ (ar f n m a fl).1 ∧ (ar f n m a fl).1 ≤ a + m := by
  intro m
  induction m with
  | zero => intro a fl; exact ⟨Nat.le_refl _, Nat.le_refl _⟩
  | succ m ih =>
    intro a fl
    rw [ar]
    split
    · exact ⟨Nat.le_refl _, Nat.le_add_right _ _⟩
    · split
      · have q := ih (a + 1) (fl ||| ((1 : Int32) <<< ((tk f n a - 30) &&& 31)))
        omega
      · exact ⟨Nat.le_refl _, Nat.le_add_right _ _⟩
theorem wd_le {f : Nat → Int32} {n : Nat} : ∀ (m a : Nat), wd f n m a ≤ m := by
  intro m
  induction m with
  | zero => intro a; exact Nat.le_refl _
  | succ m ih =>
    intro a
    have q := ih (a + 1)
    rw [wd]
    split <;> omega
theorem wd_ok {f : Nat → Int32} {n : Nat} : ∀ (m a k : Nat), k < wd f n m a → a + k < n ∧ wdOk (f (a + k)) := by
  have e0 : (0 : Int32).toInt = 0 := by decide
  have e29 : (29 : Int32).toInt = 29 := by decide
  intro m
  induction m with
  | zero => intro a k h; exact absurd h (Nat.not_lt_zero _)
  | succ m ih =>
    intro a k h
    rw [wd] at h
    by_cases c : f_M_in (tk f n a) 0 29 = 0
    · rw [if_pos c] at h
      exact absurd h (Nat.not_lt_zero _)
    · rw [if_neg c] at h
      have hl := tk_lt (by decide) c
      rcases Nat.eq_zero_or_pos k with q | q
      · subst q
        have k2 := in_of c
        rw [tk_in hl] at k2
        exact ⟨hl, by rw [Nat.add_zero]; exact ⟨by omega, by omega⟩⟩
      · have q2 := ih (a + 1) (k - 1) (by omega)
        rw [show a + 1 + (k - 1) = a + k by omega] at q2
        exact q2
theorem wd_pos {f : Nat → Int32} {n m a : Nat} : (wd f n (m + 1) a = 0) ↔ f_M_in (tk f n a) 0 29 = 0 := by
  rw [wd]
  by_cases c : f_M_in (tk f n a) 0 29 = 0
  · rw [if_pos c]
    exact ⟨fun _ => c, fun _ => rfl⟩
  · rw [if_neg c]
    exact ⟨fun q => absurd q (Nat.succ_ne_zero _), fun q => absurd q c⟩
theorem hereR_tk {X : Nat → Nat → Int32} {n a : Nat} (hn : n ≤ 30) (ha : a ≤ 200) (e13 : X 13 0 = nI n) (e14 : X 14 0 = nI a) : f_M_hereR X = tk (X 10) n a := by
  unfold f_M_hereR
  rw [e13, e14, nI_clamp (by omega)]
  by_cases c : a < n
  · rw [if_neg (nI_ge c (by omega)), tk_in c]
  · rw [if_pos (nI_le (by omega) (by omega)), tk_out c]
theorem rd88R {n a : Nat} (hn : n ≤ 30) (ha : a ≤ 150) : ∀ (m c : Nat) (X : Nat → Nat → Int32), c + m = 6 → X 13 0 = nI n → X 14 0 = nI (a + c) → X 15 0 = 0 → X 18 0 = nI c →
    (f_M_readDescriptionR_L88 (m + 1) X) 14 0 = nI (a + c + wd (X 10) n m (a + c)) ∧ (f_M_readDescriptionR_L88 (m + 1) X) 18 0 = nI (c + wd (X 10) n m (a + c)) ∧ (f_M_readDescriptionR_L88 (m + 1) X) 15 0 = 0 ∧ (∀ k, k < c → (f_M_readDescriptionR_L88 (m + 1) X) 17 k = X 17 k) ∧ (∀ k, c ≤ k → k < c + wd (X 10) n m (a + c) → (f_M_readDescriptionR_L88 (m + 1) X) 17 k = X 10 (a + k)) ∧ (∀ j, (j < 14 ∨ 18 < j ∨ j = 16) → (f_M_readDescriptionR_L88 (m + 1) X) j = X j) := by
  intro m
  induction m with
  | zero =>
    intro c X hc e13 e14 e15 e18
    have ec : c = 6 := by omega
    have hh : f_M_readDescriptionR_L88 (0 + 1) X = X := by
      rw [f_M_readDescriptionR_L88, if_pos e15]
      by_cases q : f_M_isWordR X = 0
      · rw [if_pos q]
      · rw [if_neg q, if_pos (by rw [e18, ec]; decide)]
    rw [hh, wd]
    exact ⟨e14, e18, e15, fun _ _ => rfl, fun k k1 k2 => absurd k2 (by omega), fun _ _ => rfl⟩
  | succ m ih =>
    intro c X hc e13 e14 e15 e18
    have eh := hereR_tk hn (by omega) e13 e14
    have ew : f_M_isWordR X = f_M_in (tk (X 10) n (a + c)) 0 29 := by
      unfold f_M_isWordR
      rw [eh]
    by_cases q : f_M_in (tk (X 10) n (a + c)) 0 29 = 0
    · have hh : f_M_readDescriptionR_L88 (m + 1 + 1) X = X := by
        rw [f_M_readDescriptionR_L88, if_pos e15, ew, if_pos q]
      rw [hh, wd, if_pos q]
      exact ⟨e14, e18, e15, fun _ _ => rfl, fun k k1 k2 => absurd k2 (by omega), fun _ _ => rfl⟩
    · have hl := tk_lt (by decide) q
      have c6 : ¬ (6 : Int32) ≤ X 18 0 := by
        rw [e18]
        exact nI_ge (a := c) (b := 6) (by omega) (by omega)
      have hh : f_M_readDescriptionR_L88 (m + 1 + 1) X = f_M_readDescriptionR_L88 (m + 1) (upf (upf (upf X 14 (fun _ => ((X 14 0) + 1))) 17 (upd (X 17) ((X 18 0) : Int32).toNatClampNeg (f_M_hereR X))) 18 (fun _ => ((X 18 0) + 1))) := by
        rw [f_M_readDescriptionR_L88, if_pos e15, ew, if_neg q, if_neg c6]
      have e17 : upd (X 17) ((X 18 0) : Int32).toNatClampNeg (f_M_hereR X) = upd (X 17) c (X 10 (a + c)) := by
        rw [e18, nI_clamp (by omega), eh, tk_in hl]
      rw [e17] at hh
      obtain ⟨k1, k2, k3, k4, k5, k6⟩ := ih (c + 1) (upf (upf (upf X 14 (fun _ => ((X 14 0) + 1))) 17 (upd (X 17) c (X 10 (a + c)))) 18 (fun _ => ((X 18 0) + 1))) (by omega) e13 (by show X 14 0 + 1 = _; rw [e14, nI_1]; rfl) e15 (by show X 18 0 + 1 = _; rw [e18, nI_1])
      have k1' : (f_M_readDescriptionR_L88 (m + 1) (upf (upf (upf X 14 (fun _ => ((X 14 0) + 1))) 17 (upd (X 17) c (X 10 (a + c)))) 18 (fun _ => ((X 18 0) + 1)))) 14 0 = nI (a + (c + 1) + wd (X 10) n m (a + (c + 1))) := k1
      have k2' : (f_M_readDescriptionR_L88 (m + 1) (upf (upf (upf X 14 (fun _ => ((X 14 0) + 1))) 17 (upd (X 17) c (X 10 (a + c)))) 18 (fun _ => ((X 18 0) + 1)))) 18 0 = nI (c + 1 + wd (X 10) n m (a + (c + 1))) := k2
      have k5' : ∀ k, c + 1 ≤ k → k < c + 1 + wd (X 10) n m (a + (c + 1)) → (f_M_readDescriptionR_L88 (m + 1) (upf (upf (upf X 14 (fun _ => ((X 14 0) + 1))) 17 (upd (X 17) c (X 10 (a + c)))) 18 (fun _ => ((X 18 0) + 1)))) 17 k = X 10 (a + k) := k5
      have k4' : ∀ k, k < c + 1 → (f_M_readDescriptionR_L88 (m + 1) (upf (upf (upf X 14 (fun _ => ((X 14 0) + 1))) 17 (upd (X 17) c (X 10 (a + c)))) 18 (fun _ => ((X 18 0) + 1)))) 17 k = upd (X 17) c (X 10 (a + c)) k := k4
      rw [hh, wd, if_neg q, show a + c + 1 = a + (c + 1) by omega]
      refine ⟨?_, ?_, k3, fun k hk => ?_, fun k h1 h2 => ?_, fun j hj => ?_⟩
      · rw [k1']
        congr 1
        omega
      · rw [k2']
        congr 1
        omega
      · rw [k4' k (by omega), pk_un (by omega)]
      · rcases Nat.lt_or_ge c k with w | w
        · exact k5' k w (by omega)
        · have e : k = c := by omega
          rw [e, k4' c (by omega), pk_us]
      · rw [k6 j hj, upf_ne (nb (by omega)), upf_ne (nb (by omega)), upf_ne (nb (by omega))]
/-- what a state looks like once a description at a has been read -/
def rdY (f : Nat → Int32) (n a : Nat) (fl : Int32) (w : Nat) (X Y : Nat → Nat → Int32) : Prop :=
  Y 14 0 = nI (a + w) ∧ Y 15 0 = (if w = 0 then 1 else 0) ∧ Y 16 0 = fl ∧ Y 18 0 = nI w ∧ (∀ k, k < w → Y 17 k = f (a + k)) ∧ ∀ j, (j < 14 ∨ 18 < j) → Y j = X j
theorem rdXR {n a : Nat} (hn : n ≤ 30) (ha : a ≤ 150) {X : Nat → Nat → Int32} (e13 : X 13 0 = nI n) (e14 : X 14 0 = nI a) (e18 : X 18 0 = 0) : rdY (X 10) n a (X 16 0) (wd (X 10) n 6 a) X (if (f_M_isWordR X) = 0 then (f_M_readDescriptionR_L88 (nc_mu 6 (X 18 0) + 1) (upf X 15 (fun _ => 1))) else (f_M_readDescriptionR_L88 (nc_mu 6 (X 18 0) + 1) (upf X 15 (fun _ => 0)))) := by
  have eh := hereR_tk hn (by omega) e13 e14
  have ew : f_M_isWordR X = f_M_in (tk (X 10) n a) 0 29 := by
    unfold f_M_isWordR
    rw [eh]
  have e6 : nc_mu 6 (X 18 0) + 1 = 6 + 1 := by
    rw [e18]
    decide
  rw [ew, e6]
  by_cases q : f_M_in (tk (X 10) n a) 0 29 = 0
  · have hw : wd (X 10) n 6 a = 0 := wd_pos.mpr q
    have hh : f_M_readDescriptionR_L88 (6 + 1) (upf X 15 (fun _ => 1)) = upf X 15 (fun _ => 1) := by
      rw [f_M_readDescriptionR_L88, if_neg (show ¬ (upf X 15 (fun _ => 1)) 15 0 = 0 from one0)]
    rw [if_pos q, hh, hw]
    exact ⟨e14, rfl, rfl, by show X 18 0 = nI 0; rw [e18, nI_0], fun k hk => absurd hk (Nat.not_lt_zero _), fun j hj => upf_ne (nb (by omega))⟩
  · have hw : ¬ wd (X 10) n 6 a = 0 := fun w => q (wd_pos.mp w)
    obtain ⟨k1, k2, k3, k4, k5, k6⟩ := rd88R hn ha 6 0 (upf X 15 (fun _ => 0)) rfl e13 e14 rfl (by show X 18 0 = nI 0; rw [e18, nI_0])
    have k6' : ∀ j, (j < 14 ∨ 18 < j ∨ j = 16) → (f_M_readDescriptionR_L88 (6 + 1) (upf X 15 (fun _ => 0))) j = (upf X 15 (fun _ => 0)) j := k6
    rw [if_neg q]
    refine ⟨k1, by rw [if_neg hw]; exact k3, by rw [k6' 16 (by omega)]; rfl, ?_, ?_, fun j hj => by rw [k6' j (by omega), upf_ne (nb (by omega))]⟩
    · have k2' : (f_M_readDescriptionR_L88 (6 + 1) (upf X 15 (fun _ => 0))) 18 0 = nI (0 + wd (X 10) n 6 a) := k2
      rw [k2', Nat.zero_add]
    · intro k hk
      have k5' : ∀ k, 0 ≤ k → k < 0 + wd (X 10) n 6 a → (f_M_readDescriptionR_L88 (6 + 1) (upf X 15 (fun _ => 0))) 17 k = X 10 (a + k) := k5
      exact k5' k (Nat.zero_le _) (by omega)
theorem rd10R {n : Nat} (hn : n ≤ 30) : ∀ (m a : Nat) (X : Nat → Nat → Int32), m = n - a → a ≤ 100 → X 13 0 = nI n → X 14 0 = nI a → X 18 0 = 0 → rdY (X 10) n (ar (X 10) n (m + 1) a (X 16 0)).1 (ar (X 10) n (m + 1) a (X 16 0)).2 (wd (X 10) n 6 (ar (X 10) n (m + 1) a (X 16 0)).1) X (f_M_readDescriptionR_L10 (m + 1) X) := by
  intro m
  induction m with
  | zero =>
    intro a X hm ha e13 e14 e18
    have eh := hereR_tk hn (by omega) e13 e14
    have c : f_M_in (tk (X 10) n a) 30 33 = 0 := by
      rw [tk_out (by omega)]
      decide
    have k := rdXR hn (by omega) e13 e14 e18
    rw [f_M_readDescriptionR_L10, eh, if_pos c, ar, if_pos c]
    exact k
  | succ m ih =>
    intro a X hm ha e13 e14 e18
    have eh := hereR_tk hn (by omega) e13 e14
    have k := rdXR hn (by omega) e13 e14 e18
    by_cases c : f_M_in (tk (X 10) n a) 30 33 = 0
    · rw [f_M_readDescriptionR_L10, eh, if_pos c, ar, if_pos c]
      exact k
    · by_cases c2 : f_M_has (X 16 0) (tk (X 10) n a - 30) = 0
      · rw [f_M_readDescriptionR_L10, eh, if_neg c, if_pos c2, ar, if_neg c, if_pos c2]
        obtain ⟨k1, k2, k3, k4, k5, k6⟩ := ih (a + 1) (upf (upf X 14 (fun _ => ((X 14 0) + 1))) 16 (fun _ => ((X 16 0) ||| ((1 : Int32) <<< ((tk (X 10) n a - 30) &&& 31))))) (by omega) (by omega) e13 (by show X 14 0 + 1 = _; rw [e14, nI_1]) e18
        exact ⟨k1, k2, k3, k4, k5, fun j hj => by rw [k6 j hj, upf_ne (nb (by omega)), upf_ne (nb (by omega))]⟩
      · rw [f_M_readDescriptionR_L10, eh, if_neg c, if_neg c2, ar, if_neg c, if_neg c2]
        exact k
theorem rdR_all {n a : Nat} (hn : n ≤ 30) (ha : a ≤ 100) {X : Nat → Nat → Int32} (e13 : X 13 0 = nI n) (e14 : X 14 0 = nI a) : rdY (X 10) n (dA (X 10) n a) (dF (X 10) n a) (dW (X 10) n a) X (f_M_readDescriptionR X) := by
  have k := rd10R hn (n - a) a (upf (upf X 16 (fun _ => 0)) 18 (fun _ => 0)) rfl ha e13 e14 rfl
  unfold f_M_readDescriptionR
  rw [e13, e14, mu_nI (by omega) (by omega)]
  obtain ⟨k1, k2, k3, k4, k5, k6⟩ := k
  exact ⟨k1, k2, k3, k4, k5, fun j hj => by rw [k6 j hj, upf_ne (nb (by omega)), upf_ne (nb (by omega))]⟩
theorem hereF_tk {X : Nat → Nat → Int32} {n a : Nat} (hn : n ≤ 30) (ha : a ≤ 200) (e13 : X 13 0 = nI n) (e14 : X 14 0 = nI a) : f_M_hereF X = tk (X 24) n a := by
  unfold f_M_hereF
  rw [e13, e14, nI_clamp (by omega)]
  by_cases c : a < n
  · rw [if_neg (nI_ge c (by omega)), tk_in c]
  · rw [if_pos (nI_le (by omega) (by omega)), tk_out c]
theorem rd88F {n a : Nat} (hn : n ≤ 30) (ha : a ≤ 150) : ∀ (m c : Nat) (X : Nat → Nat → Int32), c + m = 6 → X 13 0 = nI n → X 14 0 = nI (a + c) → X 15 0 = 0 → X 18 0 = nI c →
    (f_M_readDescriptionF_L88 (m + 1) X) 14 0 = nI (a + c + wd (X 24) n m (a + c)) ∧ (f_M_readDescriptionF_L88 (m + 1) X) 18 0 = nI (c + wd (X 24) n m (a + c)) ∧ (f_M_readDescriptionF_L88 (m + 1) X) 15 0 = 0 ∧ (∀ k, k < c → (f_M_readDescriptionF_L88 (m + 1) X) 17 k = X 17 k) ∧ (∀ k, c ≤ k → k < c + wd (X 24) n m (a + c) → (f_M_readDescriptionF_L88 (m + 1) X) 17 k = X 24 (a + k)) ∧ (∀ j, (j < 14 ∨ 18 < j ∨ j = 16) → (f_M_readDescriptionF_L88 (m + 1) X) j = X j) := by
  intro m
  induction m with
  | zero =>
    intro c X hc e13 e14 e15 e18
    have ec : c = 6 := by omega
    have hh : f_M_readDescriptionF_L88 (0 + 1) X = X := by
      rw [f_M_readDescriptionF_L88, if_pos e15]
      by_cases q : f_M_isWordF X = 0
      · rw [if_pos q]
      · rw [if_neg q, if_pos (by rw [e18, ec]; decide)]
    rw [hh, wd]
    exact ⟨e14, e18, e15, fun _ _ => rfl, fun k k1 k2 => absurd k2 (by omega), fun _ _ => rfl⟩
  | succ m ih =>
    intro c X hc e13 e14 e15 e18
    have eh := hereF_tk hn (by omega) e13 e14
    have ew : f_M_isWordF X = f_M_in (tk (X 24) n (a + c)) 0 29 := by
      unfold f_M_isWordF
      rw [eh]
    by_cases q : f_M_in (tk (X 24) n (a + c)) 0 29 = 0
    · have hh : f_M_readDescriptionF_L88 (m + 1 + 1) X = X := by
        rw [f_M_readDescriptionF_L88, if_pos e15, ew, if_pos q]
      rw [hh, wd, if_pos q]
      exact ⟨e14, e18, e15, fun _ _ => rfl, fun k k1 k2 => absurd k2 (by omega), fun _ _ => rfl⟩
    · have hl := tk_lt (by decide) q
      have c6 : ¬ (6 : Int32) ≤ X 18 0 := by
        rw [e18]
        exact nI_ge (a := c) (b := 6) (by omega) (by omega)
      have hh : f_M_readDescriptionF_L88 (m + 1 + 1) X = f_M_readDescriptionF_L88 (m + 1) (upf (upf (upf X 14 (fun _ => ((X 14 0) + 1))) 17 (upd (X 17) ((X 18 0) : Int32).toNatClampNeg (f_M_hereF X))) 18 (fun _ => ((X 18 0) + 1))) := by
        rw [f_M_readDescriptionF_L88, if_pos e15, ew, if_neg q, if_neg c6]
      have e17 : upd (X 17) ((X 18 0) : Int32).toNatClampNeg (f_M_hereF X) = upd (X 17) c (X 24 (a + c)) := by
        rw [e18, nI_clamp (by omega), eh, tk_in hl]
      rw [e17] at hh
      obtain ⟨k1, k2, k3, k4, k5, k6⟩ := ih (c + 1) (upf (upf (upf X 14 (fun _ => ((X 14 0) + 1))) 17 (upd (X 17) c (X 24 (a + c)))) 18 (fun _ => ((X 18 0) + 1))) (by omega) e13 (by show X 14 0 + 1 = _; rw [e14, nI_1]; rfl) e15 (by show X 18 0 + 1 = _; rw [e18, nI_1])
      have k1' : (f_M_readDescriptionF_L88 (m + 1) (upf (upf (upf X 14 (fun _ => ((X 14 0) + 1))) 17 (upd (X 17) c (X 24 (a + c)))) 18 (fun _ => ((X 18 0) + 1)))) 14 0 = nI (a + (c + 1) + wd (X 24) n m (a + (c + 1))) := k1
      have k2' : (f_M_readDescriptionF_L88 (m + 1) (upf (upf (upf X 14 (fun _ => ((X 14 0) + 1))) 17 (upd (X 17) c (X 24 (a + c)))) 18 (fun _ => ((X 18 0) + 1)))) 18 0 = nI (c + 1 + wd (X 24) n m (a + (c + 1))) := k2
      have k5' : ∀ k, c + 1 ≤ k → k < c + 1 + wd (X 24) n m (a + (c + 1)) → (f_M_readDescriptionF_L88 (m + 1) (upf (upf (upf X 14 (fun _ => ((X 14 0) + 1))) 17 (upd (X 17) c (X 24 (a + c)))) 18 (fun _ => ((X 18 0) + 1)))) 17 k = X 24 (a + k) := k5
      have k4' : ∀ k, k < c + 1 → (f_M_readDescriptionF_L88 (m + 1) (upf (upf (upf X 14 (fun _ => ((X 14 0) + 1))) 17 (upd (X 17) c (X 24 (a + c)))) 18 (fun _ => ((X 18 0) + 1)))) 17 k = upd (X 17) c (X 24 (a + c)) k := k4
      rw [hh, wd, if_neg q, show a + c + 1 = a + (c + 1) by omega]
      refine ⟨?_, ?_, k3, fun k hk => ?_, fun k h1 h2 => ?_, fun j hj => ?_⟩
      · rw [k1']
        congr 1
        omega
      · rw [k2']
        congr 1
        omega
      · rw [k4' k (by omega), pk_un (by omega)]
      · rcases Nat.lt_or_ge c k with w | w
        · exact k5' k w (by omega)
        · have e : k = c := by omega
          rw [e, k4' c (by omega), pk_us]
      · rw [k6 j hj, upf_ne (nb (by omega)), upf_ne (nb (by omega)), upf_ne (nb (by omega))]
theorem rdXF {n a : Nat} (hn : n ≤ 30) (ha : a ≤ 150) {X : Nat → Nat → Int32} (e13 : X 13 0 = nI n) (e14 : X 14 0 = nI a) (e18 : X 18 0 = 0) : rdY (X 24) n a (X 16 0) (wd (X 24) n 6 a) X (if (f_M_isWordF X) = 0 then (f_M_readDescriptionF_L88 (nc_mu 6 (X 18 0) + 1) (upf X 15 (fun _ => 1))) else (f_M_readDescriptionF_L88 (nc_mu 6 (X 18 0) + 1) (upf X 15 (fun _ => 0)))) := by
  have eh := hereF_tk hn (by omega) e13 e14
  have ew : f_M_isWordF X = f_M_in (tk (X 24) n a) 0 29 := by
    unfold f_M_isWordF
    rw [eh]
  have e6 : nc_mu 6 (X 18 0) + 1 = 6 + 1 := by
    rw [e18]
    decide
  rw [ew, e6]
  by_cases q : f_M_in (tk (X 24) n a) 0 29 = 0
  · have hw : wd (X 24) n 6 a = 0 := wd_pos.mpr q
    have hh : f_M_readDescriptionF_L88 (6 + 1) (upf X 15 (fun _ => 1)) = upf X 15 (fun _ => 1) := by
      rw [f_M_readDescriptionF_L88, if_neg (show ¬ (upf X 15 (fun _ => 1)) 15 0 = 0 from one0)]
    rw [if_pos q, hh, hw]
    exact ⟨e14, rfl, rfl, by show X 18 0 = nI 0; rw [e18, nI_0], fun k hk => absurd hk (Nat.not_lt_zero _), fun j hj => upf_ne (nb (by omega))⟩
  · have hw : ¬ wd (X 24) n 6 a = 0 := fun w => q (wd_pos.mp w)
    obtain ⟨k1, k2, k3, k4, k5, k6⟩ := rd88F hn ha 6 0 (upf X 15 (fun _ => 0)) rfl e13 e14 rfl (by show X 18 0 = nI 0; rw [e18, nI_0])
    have k6' : ∀ j, (j < 14 ∨ 18 < j ∨ j = 16) → (f_M_readDescriptionF_L88 (6 + 1) (upf X 15 (fun _ => 0))) j = (upf X 15 (fun _ => 0)) j := k6
    rw [if_neg q]
    refine ⟨k1, by rw [if_neg hw]; exact k3, by rw [k6' 16 (by omega)]; rfl, ?_, ?_, fun j hj => by rw [k6' j (by omega), upf_ne (nb (by omega))]⟩
    · have k2' : (f_M_readDescriptionF_L88 (6 + 1) (upf X 15 (fun _ => 0))) 18 0 = nI (0 + wd (X 24) n 6 a) := k2
      rw [k2', Nat.zero_add]
    · intro k hk
      have k5' : ∀ k, 0 ≤ k → k < 0 + wd (X 24) n 6 a → (f_M_readDescriptionF_L88 (6 + 1) (upf X 15 (fun _ => 0))) 17 k = X 24 (a + k) := k5
      exact k5' k (Nat.zero_le _) (by omega)
theorem rd10F {n : Nat} (hn : n ≤ 30) : ∀ (m a : Nat) (X : Nat → Nat → Int32), m = n - a → a ≤ 100 → X 13 0 = nI n → X 14 0 = nI a → X 18 0 = 0 → rdY (X 24) n (ar (X 24) n (m + 1) a (X 16 0)).1 (ar (X 24) n (m + 1) a (X 16 0)).2 (wd (X 24) n 6 (ar (X 24) n (m + 1) a (X 16 0)).1) X (f_M_readDescriptionF_L10 (m + 1) X) := by
  intro m
  induction m with
  | zero =>
    intro a X hm ha e13 e14 e18
    have eh := hereF_tk hn (by omega) e13 e14
    have c : f_M_in (tk (X 24) n a) 30 33 = 0 := by
      rw [tk_out (by omega)]
      decide
    have k := rdXF hn (by omega) e13 e14 e18
    rw [f_M_readDescriptionF_L10, eh, if_pos c, ar, if_pos c]
    exact k
  | succ m ih =>
    intro a X hm ha e13 e14 e18
    have eh := hereF_tk hn (by omega) e13 e14
    have k := rdXF hn (by omega) e13 e14 e18
    by_cases c : f_M_in (tk (X 24) n a) 30 33 = 0
    · rw [f_M_readDescriptionF_L10, eh, if_pos c, ar, if_pos c]
      exact k
    · by_cases c2 : f_M_has (X 16 0) (tk (X 24) n a - 30) = 0
      · rw [f_M_readDescriptionF_L10, eh, if_neg c, if_pos c2, ar, if_neg c, if_pos c2]
        obtain ⟨k1, k2, k3, k4, k5, k6⟩ := ih (a + 1) (upf (upf X 14 (fun _ => ((X 14 0) + 1))) 16 (fun _ => ((X 16 0) ||| ((1 : Int32) <<< ((tk (X 24) n a - 30) &&& 31))))) (by omega) (by omega) e13 (by show X 14 0 + 1 = _; rw [e14, nI_1]) e18
        exact ⟨k1, k2, k3, k4, k5, fun j hj => by rw [k6 j hj, upf_ne (nb (by omega)), upf_ne (nb (by omega))]⟩
      · rw [f_M_readDescriptionF_L10, eh, if_neg c, if_neg c2, ar, if_neg c, if_neg c2]
        exact k
theorem rdF_all {n a : Nat} (hn : n ≤ 30) (ha : a ≤ 100) {X : Nat → Nat → Int32} (e13 : X 13 0 = nI n) (e14 : X 14 0 = nI a) : rdY (X 24) n (dA (X 24) n a) (dF (X 24) n a) (dW (X 24) n a) X (f_M_readDescriptionF X) := by
  have k := rd10F hn (n - a) a (upf (upf X 16 (fun _ => 0)) 18 (fun _ => 0)) rfl ha e13 e14 rfl
  unfold f_M_readDescriptionF
  rw [e13, e14, mu_nI (by omega) (by omega)]
  obtain ⟨k1, k2, k3, k4, k5, k6⟩ := k
  exact ⟨k1, k2, k3, k4, k5, fun j hj => by rw [k6 j hj, upf_ne (nb (by omega)), upf_ne (nb (by omega))]⟩
