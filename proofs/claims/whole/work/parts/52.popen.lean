/-! ===== parts and descriptions are opened ===== -/
def Kp (P Q : Nat → Nat → Int32) (k d : Nat) : Prop := (∀ i, i < k → Q 0 i = P 0 i ∧ Q 1 i = P 1 i ∧ Q 2 i = P 2 i ∧ Q 3 i = P 3 i) ∧ (∀ i, i < d → Q 5 i = P 5 i ∧ Q 6 i = P 6 i ∧ Q 7 i = P 7 i)
theorem Kp_refl (P : Nat → Nat → Int32) (k d : Nat) : Kp P P k d := ⟨fun _ _ => ⟨rfl, rfl, rfl, rfl⟩, fun _ _ => ⟨rfl, rfl, rfl⟩⟩
theorem Kp_trans {P Q R : Nat → Nat → Int32} {k d k' d' : Nat} (h : Kp P Q k d) (g : Kp Q R k' d') (hk : k ≤ k') (hd : d ≤ d') : Kp P R k d := by
  refine ⟨fun i hi => ?_, fun i hi => ?_⟩
  · obtain ⟨a1, a2, a3, a4⟩ := h.1 i hi
    obtain ⟨b1, b2, b3, b4⟩ := g.1 i (by omega)
    exact ⟨b1.trans a1, b2.trans a2, b3.trans a3, b4.trans a4⟩
  · obtain ⟨a1, a2, a3⟩ := h.2 i hi
    obtain ⟨b1, b2, b3⟩ := g.2 i (by omega)
    exact ⟨b1.trans a1, b2.trans a2, b3.trans a3⟩
theorem part_1 {P : Nat → Nat → Int32} {k : Nat} (hk : k < 30) (h : P 4 0 = nI (k + 1)) : P 4 0 - 1 = nI k ∧ f_Phrase_isPart P (nI k) = 1 := by
  have e : (nI k).toInt = (k : Int) := nI_toInt (by omega)
  have e0 : (0 : Int32).toInt = 0 := by decide
  have e30 : (30 : Int32).toInt = 30 := by decide
  have c1 : ¬ nI k < 0 := by
    rw [Int32.lt_iff_toInt_lt]
    omega
  have c3 : ¬ (30 : Int32) ≤ nI k := by
    rw [Int32.le_iff_toInt_le]
    omega
  refine ⟨by rw [h, nI_pred], ?_⟩
  unfold f_Phrase_isPart
  rw [if_neg c1, h, if_neg (nI_ge (by omega) (by omega)), if_neg c3]
/-- description d of part k has just been opened -/
def Op (P : Nat → Nat → Int32) (k d : Nat) : Prop := P 4 0 = nI (k + 1) ∧ P 8 0 = nI (d + 1) ∧ P 9 0 = 3 ∧ P 10 0 = 0 ∧ P 5 d = 0 ∧ P 6 d = 0 ∧ k < 30 ∧ d < 30
theorem open_D {P : Nat → Nat → Int32} {k d : Nat} (hk : k < 30) (hd : d < 30) (h4 : P 4 0 = nI (k + 1)) (h8 : P 8 0 = nI d) :
    (f_Phrase_openDescription P).1 = 1 ∧ Op (f_Phrase_openDescription P).2 k d ∧ Kp P (f_Phrase_openDescription P).2 k d ∧ (f_Phrase_openDescription P).2 3 k = nI (d + 1) ∧ (f_Phrase_openDescription P).2 0 = P 0 ∧ (f_Phrase_openDescription P).2 1 = P 1 ∧ (f_Phrase_openDescription P).2 2 = P 2 := by
  obtain ⟨p1, p2⟩ := part_1 hk h4
  have c : P 8 0 < 30 := by
    rw [h8]
    exact nI_lt (a := d) (b := 30) hd (by omega)
  have e : f_Phrase_openDescription P = (1, (upf (upf (upf (upf (upf (upf (upf P 3 (upd (P 3) k ((P 8 0) + 1))) 5 (upd (P 5) d 0)) 6 (upd (P 6) d 0)) 7 (upd (P 7) d (-1))) 8 (fun _ => ((P 8 0) + 1))) 9 (fun _ => 3)) 10 (fun _ => 0))) := by
    unfold f_Phrase_openDescription
    rw [p1, p2, if_neg one0, if_pos c, nI_clamp (n := k) (by omega)]
    rw [h8, nI_clamp (n := d) (by omega)]
  rw [e]
  refine ⟨rfl, ⟨h4, ?_, rfl, rfl, ?_, ?_, hk, hd⟩, ⟨fun i hi => ⟨rfl, rfl, rfl, ?_⟩, fun i hi => ⟨?_, ?_, ?_⟩⟩, ?_, rfl, rfl, rfl⟩
  · show P 8 0 + 1 = _
    rw [h8, nI_1]
  · show upd (P 5) d 0 d = 0
    rw [pk_us]
  · show upd (P 6) d 0 d = 0
    rw [pk_us]
  · show upd (P 3) k _ i = _
    rw [pk_un (by omega)]
  · show upd (P 5) d _ i = _
    rw [pk_un (by omega)]
  · show upd (P 6) d _ i = _
    rw [pk_un (by omega)]
  · show upd (P 7) d _ i = _
    rw [pk_un (by omega)]
  · show upd (P 3) k _ k = _
    rw [pk_us, h8, nI_1]
theorem open_M {P : Nat → Nat → Int32} {k d : Nat} (hk : k < 30) (hd : d < 30) (h4 : P 4 0 = nI (k + 1)) (h8 : P 8 0 = nI d) :
    (f_Phrase_openMain P).1 = 1 ∧ Op (f_Phrase_openMain P).2 k d ∧ Kp P (f_Phrase_openMain P).2 k d ∧ (f_Phrase_openMain P).2 3 k = nI (d + 1) ∧ (f_Phrase_openMain P).2 0 = P 0 ∧ (f_Phrase_openMain P).2 1 k = nI d ∧ (f_Phrase_openMain P).2 2 k = nI (d + 1) := by
  obtain ⟨p1, p2⟩ := part_1 hk h4
  obtain ⟨q1, q2, q3, q4, q5, q6, q7⟩ := open_D hk hd h4 h8
  have e : f_Phrase_openMain P = (1, (upf (upf (f_Phrase_openDescription P).2 1 (upd ((f_Phrase_openDescription P).2 1) k (((f_Phrase_openDescription P).2 8 0) - 1))) 2 (upd ((f_Phrase_openDescription P).2 2) k ((f_Phrase_openDescription P).2 8 0)))) := by
    unfold f_Phrase_openMain
    rw [p1, p2, if_neg one0, q1, if_neg one0, nI_clamp (n := k) (by omega)]
  rw [e]
  generalize (f_Phrase_openDescription P).2 = Q at *
  obtain ⟨o1, o2, o3, o4, o5, o6, o7, o8⟩ := q2
  refine ⟨rfl, ⟨o1, o2, o3, o4, o5, o6, o7, o8⟩, ⟨fun i hi => ⟨(q3.1 i hi).1, ?_, ?_, (q3.1 i hi).2.2.2⟩, q3.2⟩, q4, q5, ?_, ?_⟩
  · show upd (Q 1) k _ i = _
    rw [pk_un (by omega)]
    exact (q3.1 i hi).2.1
  · show upd (Q 2) k _ i = _
    rw [pk_un (by omega)]
    exact (q3.1 i hi).2.2.1
  · show upd (Q 1) k _ k = _
    rw [pk_us, o2, nI_pred]
  · show upd (Q 2) k _ k = _
    rw [pk_us, o2]
theorem open_P {P : Nat → Nat → Int32} {k d : Nat} (hk : k < 30) (h4 : P 4 0 = nI k) (h8 : P 8 0 = nI d) :
    (f_Phrase_openPart P).1 = 1 ∧ (f_Phrase_openPart P).2 4 0 = nI (k + 1) ∧ (f_Phrase_openPart P).2 8 0 = nI d ∧ Kp P (f_Phrase_openPart P).2 k d ∧ (f_Phrase_openPart P).2 0 k = 0 ∧ (f_Phrase_openPart P).2 1 k = -1 ∧ (f_Phrase_openPart P).2 2 k = nI d ∧ (f_Phrase_openPart P).2 3 k = nI d := by
  have c : P 4 0 < 30 := by
    rw [h4]
    exact nI_lt (a := k) (b := 30) hk (by omega)
  have e : f_Phrase_openPart P = (1, (upf (upf (upf (upf (upf P 0 (upd (P 0) k 0)) 1 (upd (P 1) k (-1))) 2 (upd (P 2) k (P 8 0))) 3 (upd (P 3) k (P 8 0))) 4 (fun _ => ((P 4 0) + 1)))) := by
    unfold f_Phrase_openPart
    rw [if_pos c, h4, nI_clamp (n := k) (by omega)]
  rw [e]
  refine ⟨rfl, ?_, h8, ⟨fun i hi => ⟨?_, ?_, ?_, ?_⟩, fun i hi => ⟨rfl, rfl, rfl⟩⟩, ?_, ?_, ?_, ?_⟩
  · show P 4 0 + 1 = _
    rw [h4, nI_1]
  · show upd (P 0) k _ i = _
    rw [pk_un (by omega)]
  · show upd (P 1) k _ i = _
    rw [pk_un (by omega)]
  · show upd (P 2) k _ i = _
    rw [pk_un (by omega)]
  · show upd (P 3) k _ i = _
    rw [pk_un (by omega)]
  · show upd (P 0) k _ k = _
    rw [pk_us]
  · show upd (P 1) k _ k = _
    rw [pk_us]
  · show upd (P 2) k _ k = _
    rw [pk_us, h8]
  · show upd (P 3) k _ k = _
    rw [pk_us, h8]
/-- what may stand behind b: only AND, EXCEPT, the end -/
def Stop (f : Nat → Int32) (n : Nat) (P : Nat → Nat → Int32) (b : Nat) : Prop := f_Phrase_mayEnd P = 1 ∧ (b < n → ¬ f b = 36 → ¬ f b = 35 → (RL f n P b).1 = nI b)
theorem desc_op {f : Nat → Int32} {n k d q : Nat} (hn : n ≤ 30) (hq : q ≤ n) {P : Nat → Nat → Int32} (h : Op P k d) :
    (dW f n q = 0 → (RL f n P q).1 = nI (dA f n q)) ∧
    (0 < dW f n q → ∃ Q, RL f n P q = RL f n Q (dA f n q + dW f n q) ∧ Q 4 0 = nI (k + 1) ∧ Q 8 0 = nI (d + 1) ∧ Stop f n Q (dA f n q + dW f n q) ∧ DescAt f n Q d q (dA f n q + dW f n q) ∧ Kp P Q 30 d ∧ Q 9 0 = 4) := by
  obtain ⟨o1, o2, o3, o4, o5, o6, o7, o8⟩ := h
  have hd : inD P d := ⟨o2, o8⟩
  obtain ⟨r1, r2⟩ := rl_desc (f := f) hn hq hd o3 o4 o5 o6
  refine ⟨r1, fun hw => ?_⟩
  obtain ⟨Q, k1, k2, k3, k4, k5, k6, k7, k8⟩ := r2 hw
  have q8 : Q 8 0 = nI (d + 1) := by rw [k8 8 (by omega)]; exact o2
  refine ⟨Q, k1, by rw [k8 4 (by omega)]; exact o1, q8, ⟨end_4 (Or.inl k2), fun hl h36 h35 => rl_behind hn hq ⟨q8, o8⟩ k2 hw k3 hl h36 h35⟩, ⟨hw, rfl, o8, ?_, k4, k5, k6⟩, ⟨fun i _ => ?_, fun i hi => k7 i (by omega)⟩, k2⟩
  · rw [q8, nI_toInt (by omega)]
    omega
  · rw [k8 0 (by omega), k8 1 (by omega), k8 2 (by omega), k8 3 (by omega)]
    exact ⟨rfl, rfl, rfl, rfl⟩
