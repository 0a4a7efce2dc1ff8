/-! ===== a PART, as the component reads it: the first steps ===== -/
theorem nrm (t : Int32 × (Nat → Nat → Int32)) : (((if t.1 = 0 then (0, t.2) else (1, t.2)) : Int32 × (Nat → Nat → Int32)).1 = 0 ↔ t.1 = 0) ∧ ((if t.1 = 0 then (0, t.2) else (1, t.2)) : Int32 × (Nat → Nat → Int32)).2 = t.2 := by
  by_cases c : t.1 = 0
  · rw [if_pos c]
    exact ⟨⟨fun _ => c, fun _ => rfl⟩, rfl⟩
  · rw [if_neg c]
    exact ⟨⟨fun q => absurd q one0, fun q => absurd q c⟩, rfl⟩
theorem RL_same {f : Nat → Int32} {n i : Nat} {P Q : Nat → Nat → Int32} (hn : n ≤ 30) (hi : i < n) (h1 : (f_Phrase_take P (f i)).1 = 0 ↔ (f_Phrase_take Q (f i)).1 = 0) (h2 : (f_Phrase_take P (f i)).2 = (f_Phrase_take Q (f i)).2) : RL f n P i = RL f n Q i := by
  rw [RL_s hn hi, RL_s hn hi, h2]
  by_cases c : (f_Phrase_take Q (f i)).1 = 0
  · rw [if_pos c, if_pos (h1.mpr c)]
  · rw [if_neg c, if_neg (fun q => c (h1.mp q))]
/-- behind ALL or a number a description is opened -/
theorem om_step {f : Nat → Int32} {n k d q : Nat} (hn : n ≤ 30) (hk : k < 30) (hd : d < 30) {P : Nat → Nat → Int32} (h9 : P 9 0 = 1 ∨ P 9 0 = 2) (h4 : P 4 0 = nI (k + 1)) (h8 : P 8 0 = nI d) (hq1 : q < n) (n36 : ¬ f q = 36) (n35 : ¬ f q = 35) : RL f n P q = RL f n (f_Phrase_openMain P).2 (hq f n q) := by
  obtain ⟨m1, m2, m3, m4, m5, m6, m7⟩ := open_M hk hd h4 h8
  have tkP : f_Phrase_take P (f q) = if f q = 37 then (1, (f_Phrase_openMain P).2) else (if (f_Phrase_takeInDescription (f_Phrase_openMain P).2 (f q)).1 = 0 then (0, (f_Phrase_takeInDescription (f_Phrase_openMain P).2 (f q)).2) else (1, (f_Phrase_takeInDescription (f_Phrase_openMain P).2 (f q)).2)) := by
    unfold f_Phrase_take
    rw [if_neg n36, if_neg n35]
    rcases h9 with h9 | h9
    · rw [h9, if_neg one0, if_pos rfl, m1, if_neg one0]
    · rw [h9, if_neg (by decide), if_neg (by decide), if_pos rfl, m1, if_neg one0]
  unfold hq
  rw [tk_in hq1]
  by_cases c : f q = 37
  · rw [if_pos c, RL_s hn hq1, tkP, if_pos c, if_neg one0]
  · rw [if_neg c]
    rw [if_neg c] at tkP
    have nr := nrm (f_Phrase_takeInDescription (f_Phrase_openMain P).2 (f q))
    refine RL_same hn hq1 ?_ ?_
    · rw [tkP, take_D (Or.inl m2.2.2.1) n36 n35]
      exact nr.1
    · rw [tkP, take_D (Or.inl m2.2.2.1) n36 n35]
      exact nr.2
theorem set_A {P : Nat → Nat → Int32} {k : Nat} (hk : k < 30) (h4 : P 4 0 = nI (k + 1)) (x y : Int32) : f_Phrase_setAmount P x y = (1, (upf (upf P 0 (upd (P 0) k x)) 9 (fun _ => y))) := by
  obtain ⟨p1, p2⟩ := part_1 hk h4
  unfold f_Phrase_setAmount
  rw [p1, p2, if_neg one0, nI_clamp (by omega)]
/-- a part that begins with ALL or a number -/
theorem at_amount {f : Nat → Int32} {n k d a : Nat} (hn : n ≤ 30) (hk : k < 30) {P : Nat → Nat → Int32} (h9 : P 9 0 = 0) (h4 : P 4 0 = nI k) (h8 : P 8 0 = nI d) (ha : a < n) (hx : f a = 34 ∨ (¬ f_M_in (f a) 41 60 = 0)) :
    ∃ Q, RL f n P a = RL f n Q (a + 1) ∧ Q 4 0 = nI (k + 1) ∧ Q 8 0 = nI d ∧ Kp P Q k d ∧ Q 1 k = -1 ∧ Q 2 k = nI d ∧ Q 3 k = nI d ∧ ((f a = 34 → Q 0 k = -1 ∧ Q 9 0 = 1) ∧ (¬ f a = 34 → Q 0 k = f a - 40 ∧ Q 9 0 = 2)) := by
  obtain ⟨o1, o2, o3, o4, o5, o6, o7, o8⟩ := open_P (d := d) hk h4 h8
  have n36 : ¬ f a = 36 := fun q => by
    rcases hx with w | w
    · rw [q] at w
      exact absurd w (by decide)
    · rw [q] at w
      exact w (by decide)
  have n35 : ¬ f a = 35 := fun q => by
    rcases hx with w | w
    · rw [q] at w
      exact absurd w (by decide)
    · rw [q] at w
      exact w (by decide)
  have step : ∀ x y : Int32, f_Phrase_takeAtPart P (f a) = ((f_Phrase_setAmount (f_Phrase_openPart P).2 x y).1, (f_Phrase_setAmount (f_Phrase_openPart P).2 x y).2) → RL f n P a = RL f n (upf (upf (f_Phrase_openPart P).2 0 (upd ((f_Phrase_openPart P).2 0) k x)) 9 (fun _ => y)) (a + 1) := by
    intro x y e
    have tk1 : f_Phrase_take P (f a) = (1, (upf (upf (f_Phrase_openPart P).2 0 (upd ((f_Phrase_openPart P).2 0) k x)) 9 (fun _ => y))) := by
      unfold f_Phrase_take
      rw [if_neg n36, if_neg n35, if_pos h9, e, set_A hk o2]
    rw [RL_s hn ha, tk1, if_neg one0]
  have keep : ∀ x y : Int32, Kp P (upf (upf (f_Phrase_openPart P).2 0 (upd ((f_Phrase_openPart P).2 0) k x)) 9 (fun _ => y)) k d := by
    intro x y
    refine ⟨fun i hi => ⟨?_, (o4.1 i hi).2⟩, o4.2⟩
    show upd ((f_Phrase_openPart P).2 0) k x i = _
    rw [pk_un (by omega)]
    exact (o4.1 i hi).1
  by_cases c : f a = 34
  · have e : f_Phrase_takeAtPart P (f a) = ((f_Phrase_setAmount (f_Phrase_openPart P).2 (-1) 1).1, (f_Phrase_setAmount (f_Phrase_openPart P).2 (-1) 1).2) := by
      unfold f_Phrase_takeAtPart
      rw [o1, if_neg one0, if_pos c]
    refine ⟨_, step (-1) 1 e, o2, o3, keep _ _, o6, o7, o8, fun _ => ⟨?_, rfl⟩, fun q => absurd c q⟩
    show upd ((f_Phrase_openPart P).2 0) k (-1) k = -1
    rw [pk_us]
  · have c2 : ¬ f_M_in (f a) 41 60 = 0 := by
      rcases hx with w | w
      · exact absurd w c
      · exact w
    have e : f_Phrase_takeAtPart P (f a) = ((f_Phrase_setAmount (f_Phrase_openPart P).2 (f a - 40) 2).1, (f_Phrase_setAmount (f_Phrase_openPart P).2 (f a - 40) 2).2) := by
      unfold f_Phrase_takeAtPart
      rw [o1, if_neg one0, if_neg c, e_isNumber, if_neg c2]
    refine ⟨_, step (f a - 40) 2 e, o2, o3, keep _ _, o6, o7, o8, fun q => absurd q c, fun _ => ⟨?_, rfl⟩⟩
    show upd ((f_Phrase_openPart P).2 0) k (f a - 40) k = f a - 40
    rw [pk_us]
/-- a part that is a description alone -/
theorem at_desc {f : Nat → Int32} {n k d a : Nat} (hn : n ≤ 30) (hk : k < 30) (hd : d < 30) {P : Nat → Nat → Int32} (h9 : P 9 0 = 0) (h4 : P 4 0 = nI k) (h8 : P 8 0 = nI d) (ha : a < n) (n36 : ¬ f a = 36) (n35 : ¬ f a = 35) (n34 : ¬ f a = 34) (nn : f_M_in (f a) 41 60 = 0) :
    ∃ Q, RL f n P a = RL f n Q a ∧ Op Q k d ∧ Kp P Q k d ∧ Q 0 k = 0 ∧ Q 1 k = nI d ∧ Q 2 k = nI (d + 1) ∧ Q 3 k = nI (d + 1) := by
  obtain ⟨o1, o2, o3, o4, o5, o6, o7, o8⟩ := open_P (d := d) hk h4 h8
  obtain ⟨m1, m2, m3, m4, m5, m6, m7⟩ := open_M hk hd o2 o3
  refine ⟨(f_Phrase_openMain (f_Phrase_openPart P).2).2, ?_, m2, Kp_trans o4 m3 (Nat.le_refl _) (Nat.le_refl _), by rw [m5]; exact o5, m6, m7, m4⟩
  have nr := nrm (f_Phrase_takeInDescription (f_Phrase_openMain (f_Phrase_openPart P).2).2 (f a))
  have tkP : f_Phrase_take P (f a) = (if (f_Phrase_takeInDescription (f_Phrase_openMain (f_Phrase_openPart P).2).2 (f a)).1 = 0 then (0, (f_Phrase_takeInDescription (f_Phrase_openMain (f_Phrase_openPart P).2).2 (f a)).2) else (1, (f_Phrase_takeInDescription (f_Phrase_openMain (f_Phrase_openPart P).2).2 (f a)).2)) := by
    have e : f_Phrase_takeAtPart P (f a) = (if (f_Phrase_takeInDescription (f_Phrase_openMain (f_Phrase_openPart P).2).2 (f a)).1 = 0 then (0, (f_Phrase_takeInDescription (f_Phrase_openMain (f_Phrase_openPart P).2).2 (f a)).2) else (1, (f_Phrase_takeInDescription (f_Phrase_openMain (f_Phrase_openPart P).2).2 (f a)).2)) := by
      unfold f_Phrase_takeAtPart
      rw [o1, if_neg one0, if_neg n34, e_isNumber, if_pos nn, m1, if_neg one0]
    unfold f_Phrase_take
    rw [if_neg n36, if_neg n35, if_pos h9, e]
  refine RL_same hn ha ?_ ?_
  · rw [tkP, take_D (Or.inl m2.2.2.1) n36 n35]
    exact nr.1
  · rw [tkP, take_D (Or.inl m2.2.2.1) n36 n35]
    exact nr.2
