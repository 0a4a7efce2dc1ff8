/-! ===== Int32 by its bits: bt x i ===== -/
def bt (x : Int32) (i : Nat) : Bool := x.toBitVec.getLsbD i
theorem b_ext {x y : Int32} (h : ∀ i, i < 32 → bt x i = bt y i) : x = y := Int32.toBitVec_inj.mp (BitVec.eq_of_getLsbD_eq (fun i hi => h i hi))
theorem b_or (x y : Int32) (i : Nat) : bt (x ||| y) i = (bt x i || bt y i) := by unfold bt; rw [Int32.toBitVec_or, BitVec.getLsbD_or]
theorem b_and (x y : Int32) (i : Nat) : bt (x &&& y) i = (bt x i && bt y i) := by unfold bt; rw [Int32.toBitVec_and, BitVec.getLsbD_and]
theorem b_xor (x y : Int32) (i : Nat) : bt (x ^^^ y) i = (bt x i ^^ bt y i) := by unfold bt; rw [Int32.toBitVec_xor, BitVec.getLsbD_xor]
theorem b_big {x : Int32} {i : Nat} (h : 32 ≤ i) : bt x i = false := BitVec.getLsbD_of_ge _ _ h
theorem b_255 (i : Nat) : bt 255 i = decide (i < 8) := by
  rcases Nat.lt_or_ge i 32 with h | h
  · exact (by decide +kernel : ∀ i, i < 32 → bt 255 i = decide (i < 8)) i h
  · rw [b_big h, decide_eq_false (by omega)]
theorem b_65535 (i : Nat) : bt 65535 i = decide (i < 16) := by
  rcases Nat.lt_or_ge i 32 with h | h
  · exact (by decide +kernel : ∀ i, i < 32 → bt 65535 i = decide (i < 16)) i h
  · rw [b_big h, decide_eq_false (by omega)]
theorem b_m1 : ∀ i, i < 32 → bt (-1) i = true := by decide +kernel
theorem b_0 (i : Nat) : bt 0 i = false := BitVec.getLsbD_zero
theorem s_l : ∀ n, n < 32 → ((nI n &&& 31).toBitVec.smod 32).toNat = n := by decide +kernel
theorem s_u : ∀ n, n < 32 → (((nI n).toUInt32 &&& Int32.toUInt32 31).toBitVec % 32).toNat = n := by decide +kernel
theorem b_shl (n : Nat) (hn : n < 32) (x : Int32) {i : Nat} (hi : i < 32) : bt (x <<< (nI n &&& 31)) i = (decide (n ≤ i) && bt x (i - n)) := by
  unfold bt
  rw [Int32.toBitVec_shiftLeft]
  show (x.toBitVec <<< ((nI n &&& 31).toBitVec.smod 32).toNat).getLsbD i = _
  rw [s_l n hn, BitVec.getLsbD_shiftLeft]
  rcases Nat.lt_or_ge i n with h | h
  · simp [h, Nat.not_le.mpr h]
  · simp [hi, h, Nat.not_lt.mpr h]
theorem b_ushr (n : Nat) (hn : n < 32) (x : Int32) (i : Nat) : bt ((x.toUInt32 >>> ((nI n).toUInt32 &&& Int32.toUInt32 31)).toInt32) i = bt x (n + i) := by
  show (x.toUInt32 >>> ((nI n).toUInt32 &&& Int32.toUInt32 31)).toBitVec.getLsbD i = x.toUInt32.toBitVec.getLsbD (n + i)
  rw [UInt32.toBitVec_shiftRight]
  show (x.toUInt32.toBitVec >>> (((nI n).toUInt32 &&& Int32.toUInt32 31).toBitVec % 32).toNat).getLsbD i = _
  rw [s_u n hn, BitVec.getLsbD_ushiftRight]
theorem b_sshr (n : Nat) (hn : n < 32) (x : Int32) {i : Nat} (hi : i < 32) : bt (x >>> (nI n &&& 31)) i = if n + i < 32 then bt x (n + i) else bt x 31 := by
  unfold bt
  rw [Int32.toBitVec_shiftRight]
  show (x.toBitVec.sshiftRight ((nI n &&& 31).toBitVec.smod 32).toNat).getLsbD i = _
  rw [s_l n hn, BitVec.getLsbD_sshiftRight, BitVec.msb_eq_getLsbD_last]
  simp [hi]
theorem b_shl8 (x : Int32) {i : Nat} (hi : i < 32) : bt (x <<< ((8 : Int32) &&& 31)) i = (decide (8 ≤ i) && bt x (i - 8)) := b_shl 8 (by omega) x hi
theorem b_shl16 (x : Int32) {i : Nat} (hi : i < 32) : bt (x <<< ((16 : Int32) &&& 31)) i = (decide (16 ≤ i) && bt x (i - 16)) := b_shl 16 (by omega) x hi
theorem b_shl24 (x : Int32) {i : Nat} (hi : i < 32) : bt (x <<< ((24 : Int32) &&& 31)) i = (decide (24 ≤ i) && bt x (i - 24)) := b_shl 24 (by omega) x hi
theorem b_sshr8 (x : Int32) {i : Nat} (hi : i < 32) : bt (x >>> ((8 : Int32) &&& 31)) i = if 8 + i < 32 then bt x (8 + i) else bt x 31 := b_sshr 8 (by omega) x hi
theorem b_1 (i : Nat) : bt 1 i = decide (i = 0) := by
  rcases Nat.lt_or_ge i 32 with h | h
  · exact (by decide +kernel : ∀ i, i < 32 → bt 1 i = decide (i = 0)) i h
  · rw [b_big h, decide_eq_false (by omega)]
theorem b_sh1 {n i : Nat} (hn : n < 32) (hi : i < 32) : bt ((1 : Int32) <<< (nI n &&& 31)) i = decide (i = n) := by
  rw [b_shl n hn 1 hi, b_1]
  by_cases h : i = n
  · subst h
    simp
  · rw [decide_eq_false h]
    by_cases h2 : n ≤ i
    · have h3 : ¬ i - n = 0 := by omega
      simp [h3]
    · simp [h2]
theorem b_not {x : Int32} {i : Nat} (hi : i < 32) : bt (x ^^^ (-1)) i = !bt x i := by
  rw [b_xor, b_m1 i hi]
  simp
theorem b_and1 (x : Int32) : x &&& 1 = if bt x 0 then 1 else 0 := by
  apply b_ext
  intro i hi
  rw [b_and, b_1]
  by_cases h : i = 0
  · subst h
    cases bt x 0
    · rfl
    · rfl
  · rw [decide_eq_false h]
    cases bt x 0
    · simp [b_0]
    · simp [b_1, h]
theorem b_has {x : Int32} {t : Nat} (ht : t < 32) : (nc_ushr x (nI t) &&& 1) = if bt x t then 1 else 0 := by
  unfold nc_ushr
  rw [b_and1, b_ushr t ht, Nat.add_zero]
theorem nI_of0 {z : Int32} (h : 0 ≤ z.toInt) : z = nI z.toInt.toNat := by
  apply Int32.toInt_inj.mp
  have h2 := Int32.toInt_lt z
  rw [nI_toInt (by omega)]
  omega
theorem m_has {x : Int32} {t : Nat} (ht : t < 32) : f_M_has x (nI t) = if bt x t then 1 else 0 := by
  unfold f_M_has
  rw [b_has ht]
  cases bt x t <;> rfl
theorem m_hasz {x z : Int32} (h0 : 0 ≤ z.toInt) (h : z.toInt < 32) : f_M_has x z = if bt x z.toInt.toNat then 1 else 0 := by
  have e := nI_of0 h0
  have h1 : f_M_has x (nI z.toInt.toNat) = if bt x z.toInt.toNat then 1 else 0 := m_has (by omega)
  rw [← e] at h1
  exact h1
/-- how many of the bits below t are set -/
def cnt (x : Int32) : Nat → Nat
  | 0 => 0
  | t + 1 => cnt x t + (if bt x t then 1 else 0)
theorem cnt_le (x : Int32) : ∀ n : Nat, cnt x n ≤ n := by
  intro n
  induction n with
  | zero => exact Nat.le_refl _
  | succ n ih =>
    rw [cnt]
    split <;> omega
theorem cnt_mono (x : Int32) {a b : Nat} (h : a ≤ b) : cnt x a ≤ cnt x b := by
  induction b with
  | zero => rw [Nat.le_zero.mp h]; exact Nat.le_refl _
  | succ b ih =>
    rcases Nat.lt_or_ge a (b + 1) with q | q
    · have := ih (by omega)
      rw [cnt]
      omega
    · rw [Nat.le_antisymm h q]; exact Nat.le_refl _
theorem cnt_or (a g : Int32) : ∀ n : Nat, n ≤ 32 → cnt (a ||| g) n = cnt a n + cnt (g &&& (a ^^^ (-1))) n := by
  intro n
  induction n with
  | zero => intro _; rfl
  | succ n ih =>
    intro h
    rw [cnt, cnt, cnt, ih (by omega), b_or, b_and, b_not (by omega)]
    cases bt a n <;> cases bt g n <;> simp <;> omega
theorem cnt_32 {z1 z2 : Int32} (hn : 0 ≤ z2.toInt ∧ z2.toInt ≤ (cnt z1 32 : Nat)) : z2.toInt ≤ 32 := by
  have := cnt_le z1 32
  omega
def gn_in (a g z4 z2 : Int32) : Prop := 0 ≤ z2.toInt ∧ z2.toInt ≤ (cnt a 32 + cnt (g &&& (a ^^^ (-1))) z4.toInt.toNat : Nat)
theorem gn_init {a g z2 : Int32} (hn : 0 ≤ z2.toInt ∧ z2.toInt ≤ (cnt a 32 : Nat)) : gn_in a g 0 z2 := hn
theorem gn_skip {X : Nat → Nat → Int32} {a g z4 z2 : Int32} (c : ¬ (X 1 0) ≤ z4) (h0 : 0 ≤ z4.toInt) (_ : m_t X) (h : gn_in a g z4 z2) : gn_in a g (z4 + 1) z2 := by
  have e := nc_add1 c
  have e2 := cnt_mono (g &&& (a ^^^ (-1))) (a := z4.toInt.toNat) (b := (z4 + 1).toInt.toNat) (by omega)
  obtain ⟨h1, h2⟩ := h
  exact ⟨h1, by omega⟩
theorem gn_bit {X : Nat → Nat → Int32} {a g z4 : Int32} (c : ¬ (X 1 0) ≤ z4) (ch : ¬ f_M_has (g &&& (a ^^^ (-1))) z4 = 0) (h0 : 0 ≤ z4.toInt) (hmt : m_t X) : cnt (g &&& (a ^^^ (-1))) (z4 + 1).toInt.toNat = cnt (g &&& (a ^^^ (-1))) z4.toInt.toNat + 1 ∧ cnt a 32 + cnt (g &&& (a ^^^ (-1))) (z4 + 1).toInt.toNat ≤ 32 := by
  have e := nc_add1 c
  have q := nc_nle c rfl rfl
  have q2 := hmt.2
  have e2 : (z4 + 1).toInt.toNat = z4.toInt.toNat + 1 := by omega
  rw [m_hasz h0 (by omega)] at ch
  have hb : bt (g &&& (a ^^^ (-1))) z4.toInt.toNat = true := by
    cases hb : bt (g &&& (a ^^^ (-1))) z4.toInt.toNat
    · rw [hb] at ch
      exact absurd rfl ch
    · rfl
  have e3 : cnt (g &&& (a ^^^ (-1))) (z4 + 1).toInt.toNat = cnt (g &&& (a ^^^ (-1))) z4.toInt.toNat + 1 := by
    rw [e2, cnt, hb]
    rfl
  refine ⟨e3, ?_⟩
  have e4 := cnt_mono (g &&& (a ^^^ (-1))) (a := (z4 + 1).toInt.toNat) (b := 32) (by omega)
  have e5 := cnt_or a g 32 (Nat.le_refl _)
  have e6 := cnt_le (a ||| g) 32
  omega
theorem gn_step {X : Nat → Nat → Int32} {a g z4 z2 : Int32} (c : ¬ (X 1 0) ≤ z4) (ch : ¬ f_M_has (g &&& (a ^^^ (-1))) z4 = 0) (h0 : 0 ≤ z4.toInt) (hmt : m_t X) (h : gn_in a g z4 z2) : gn_in a g (z4 + 1) (z2 + 1) := by
  obtain ⟨e1, e2⟩ := gn_bit c ch h0 hmt
  obtain ⟨h1, h2⟩ := h
  have e3 : (z2 + 1).toInt = z2.toInt + 1 := nc_add1 (b := 32) (fun q => by have := nc_le q L_32 rfl; omega)
  exact ⟨by omega, by omega⟩
theorem gn_lt {X : Nat → Nat → Int32} {a g z4 z2 : Int32} (c : ¬ (X 1 0) ≤ z4) (ch : ¬ f_M_has (g &&& (a ^^^ (-1))) z4 = 0) (h0 : 0 ≤ z4.toInt) (hmt : m_t X) (h : gn_in a g z4 z2) : vp_in z2 32 := by
  obtain ⟨e1, e2⟩ := gn_bit c ch h0 hmt
  obtain ⟨h1, h2⟩ := h
  exact vp_in_iff.mpr ⟨h1, by omega⟩
theorem fr_ma {X Y : Nat → Nat → Int32} (e13 : Y 13 = X 13) (e14 : Y 14 = X 14) (h : m_a X) : m_a Y := by
  unfold m_a
  rw [e13, e14]
  exact h
theorem fr_mt {X Y : Nat → Nat → Int32} (e : Y 1 = X 1) (h : m_t X) : m_t Y := by
  unfold m_t
  rw [e]
  exact h
theorem fr_mk {X Y : Nat → Nat → Int32} (e : Y 4 = X 4) (h : m_k X) : m_k Y := by
  unfold m_k
  rw [e]
  exact h
theorem go_at {X Y : Nat → Nat → Int32} {z3 : Int32} (h : m_adv X Y) (hat : (X 14 0).toInt ≤ 31 + z3.toInt) (c : ¬ (X 26 0) ≤ z3) (hpp : (X 26 0).toInt ≤ 30) (h0 : 0 ≤ z3.toInt) : (Y 14 0).toInt ≤ 31 + z3.toInt ∧ 0 ≤ (Y 14 0).toInt ∧ z3.toInt < 30 ∧ ((Y 14 0) + 1).toInt = (Y 14 0).toInt + 1 ∧ (Y 13 0).toInt ≤ 30 := by
  obtain ⟨a1, a2, a3, a4⟩ := h
  have q := nc_nle c rfl rfl
  have b1 := a1.1
  have b2 : (Y 14 0).toInt ≤ 31 + z3.toInt := by omega
  exact ⟨b2, b1, by omega, nc_add1 (b := 100) (fun q => by have := nc_le q L_100 rfl; omega), a1.2.2⟩
theorem go_ma {X Y : Nat → Nat → Int32} {z3 : Int32} (h : m_adv X Y) (hat : (X 14 0).toInt ≤ 31 + z3.toInt) (c : ¬ (X 26 0) ≤ z3) (hpp : (X 26 0).toInt ≤ 30) (h0 : 0 ≤ z3.toInt) : m_a (upf Y 14 (fun _ => (Y 14 0) + 1)) := by
  obtain ⟨q1, q2, q3, q4, q5⟩ := go_at h hat c hpp h0
  refine ⟨?_, ?_, q5⟩
  · show 0 ≤ ((Y 14 0) + 1).toInt
    omega
  · show ((Y 14 0) + 1).toInt ≤ 100
    omega
theorem go_hat {X Y : Nat → Nat → Int32} {z3 : Int32} (h : m_adv X Y) (hat : (X 14 0).toInt ≤ 31 + z3.toInt) (c : ¬ (X 26 0) ≤ z3) (hpp : (X 26 0).toInt ≤ 30) (h0 : 0 ≤ z3.toInt) : ((Y 14 0) + 1).toInt ≤ 31 + (z3 + 1).toInt := by
  obtain ⟨q1, q2, q3, q4, q5⟩ := go_at h hat c hpp h0
  have e := nc_add1 c
  omega
theorem mu_adv4 {X Y : Nat → Nat → Int32} {n : Nat} (h : m_adv X Y) (c : ¬ (Y 13 0) ≤ (Y 14 0)) (hm : nc_mu (X 13 0) (X 14 0) < n + 1) : nc_mu ((upf Y 14 (fun _ => (Y 14 0) + 1)) 13 0) ((upf Y 14 (fun _ => (Y 14 0) + 1)) 14 0) < n := by
  show nc_mu (Y 13 0) ((Y 14 0) + 1) < n
  exact mu_adv3 h c hm
theorem u14_t {X : Nat → Nat → Int32} {g : Nat → Int32} (h : m_t X) : m_t (upf X 14 g) := h
theorem u14_k {X : Nat → Nat → Int32} {g : Nat → Int32} (h : m_k X) : m_k (upf X 14 g) := h
theorem pt14_tR {X : Nat → Nat → Int32} {x1 x2 x3 : Int32} {g : Nat → Int32} (h : m_t X) : m_t (upf (f_M_partR X x1 x2 x3) 14 g) := u14_t (pt_tR h)
theorem pt14_kR {X : Nat → Nat → Int32} {x1 x2 x3 : Int32} {g : Nat → Int32} (h : m_k X) : m_k (upf (f_M_partR X x1 x2 x3) 14 g) := u14_k (pt_kR h)
theorem pt14_tF {X : Nat → Nat → Int32} {x1 x2 x3 : Int32} {g : Nat → Int32} (h : m_t X) : m_t (upf (f_M_partF X x1 x2 x3) 14 g) := u14_t (pt_tF h)
theorem pt14_kF {X : Nat → Nat → Int32} {x1 x2 x3 : Int32} {g : Nat → Int32} (h : m_k X) : m_k (upf (f_M_partF X x1 x2 x3) 14 g) := u14_k (pt_kF h)
