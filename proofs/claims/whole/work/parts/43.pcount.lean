/-! ===== bitCount counts the bits ===== -/
def U (x : Int32) : Nat := x.toBitVec.toNat
theorem U_lt (x : Int32) : U x < 4294967296 := x.toBitVec.isLt
theorem U_inj {x y : Int32} (h : U x = U y) : x = y := Int32.toBitVec_inj.mp (BitVec.toNat_inj.mp h)
theorem U_add (x y : Int32) : U (x + y) = (U x + U y) % 4294967296 := by
  unfold U
  rw [Int32.toBitVec_add, BitVec.toNat_add]
theorem U_sub (x y : Int32) : U (x - y) = (4294967296 - U y + U x) % 4294967296 := by
  unfold U
  rw [Int32.toBitVec_sub, BitVec.toNat_sub]
theorem U_and (x y : Int32) : U (x &&& y) = U x &&& U y := by
  unfold U
  rw [Int32.toBitVec_and, BitVec.toNat_and]
theorem U_shr (k : Nat) (hk : k < 32) (x : Int32) : U (nc_ushr x (nI k)) = U x / 2 ^ k := by
  show (x.toUInt32 >>> ((nI k).toUInt32 &&& Int32.toUInt32 31)).toBitVec.toNat = x.toUInt32.toBitVec.toNat / 2 ^ k
  rw [UInt32.toBitVec_shiftRight]
  show (x.toUInt32.toBitVec >>> (((nI k).toUInt32 &&& Int32.toUInt32 31).toBitVec % 32).toNat).toNat = _
  rw [s_u k hk, BitVec.toNat_ushiftRight, Nat.shiftRight_eq_div_pow]
theorem nd_and {a m q r : Nat} (ha : a < 256) (hm : m < 256) : (a + 256 * q) &&& (m + 256 * r) = (a &&& m) + 256 * (q &&& r) := by
  have h1 : ((a + 256 * q) &&& (m + 256 * r)) % 256 = (a + 256 * q) % 256 &&& (m + 256 * r) % 256 := Nat.and_mod_two_pow (n := 8)
  have h2 : ((a + 256 * q) &&& (m + 256 * r)) / 256 = (a + 256 * q) / 256 &&& (m + 256 * r) / 256 := Nat.and_div_two_pow (n := 8)
  rw [show (a + 256 * q) % 256 = a by omega, show (m + 256 * r) % 256 = m by omega] at h1
  rw [show (a + 256 * q) / 256 = q by omega, show (m + 256 * r) / 256 = r by omega] at h2
  have h3 := Nat.div_add_mod ((a + 256 * q) &&& (m + 256 * r)) 256
  rw [h1, h2] at h3
  rw [← h3, Nat.add_comm]
theorem and4 {b0 b1 b2 b3 m : Nat} (h0 : b0 < 256) (h1 : b1 < 256) (h2 : b2 < 256) (hm : m < 256) : (b0 + 256 * (b1 + 256 * (b2 + 256 * b3))) &&& (m + 256 * (m + 256 * (m + 256 * m))) = (b0 &&& m) + 256 * ((b1 &&& m) + 256 * ((b2 &&& m) + 256 * (b3 &&& m))) := by
  rw [nd_and h0 hm, nd_and h1 hm, nd_and h2 hm]
def v1 (b : Nat) : Nat := b - (b / 2 &&& 85)
def v2 (b : Nat) : Nat := (b &&& 51) + (b / 4 &&& 51)
def pop (b : Nat) : Nat := b % 2 + b / 2 % 2 + b / 4 % 2 + b / 8 % 2 + b / 16 % 2 + b / 32 % 2 + b / 64 % 2 + b / 128 % 2
theorem v_1 : ∀ b, b < 256 → ∀ c, c < 2 → (b / 2 + 128 * c) &&& 85 = b / 2 &&& 85 ∧ (b / 2 &&& 85) ≤ b := by decide +kernel
theorem v_2 : ∀ b, b < 256 → ∀ c, c < 4 → (b / 4 + 64 * c) &&& 51 = b / 4 &&& 51 ∧ (b &&& 51) + (b / 4 &&& 51) < 256 := by decide +kernel
theorem v_3 : ∀ b, b < 256 → v2 (v1 b) ≤ 68 ∧ v2 (v1 b) % 16 ≤ 4 ∧ pop b ≤ 8 := by decide +kernel
theorem v_4 : ∀ b, b < 256 → ∀ c, c < 5 → (v2 (v1 b) + (v2 (v1 b) / 16 + 16 * c)) &&& 15 = pop b := by decide +kernel
theorem v_5 : ∀ b, b < 256 → v1 b < 256 := by
  intro b h
  unfold v1
  omega
theorem bc1_b {x : Int32} {b0 b1 b2 b3 : Nat} (h0 : b0 < 256) (h1 : b1 < 256) (h2 : b2 < 256) (h3 : b3 < 256) (h : U x = b0 + 256 * (b1 + 256 * (b2 + 256 * b3))) : U (bc1 x) = v1 b0 + 256 * (v1 b1 + 256 * (v1 b2 + 256 * v1 b3)) := by
  have e : U (nc_ushr x 1) = (b0 / 2 + 128 * (b1 % 2)) + 256 * ((b1 / 2 + 128 * (b2 % 2)) + 256 * ((b2 / 2 + 128 * (b3 % 2)) + 256 * (b3 / 2 + 128 * 0))) := by
    have q : U (nc_ushr x 1) = U x / 2 := U_shr 1 (by omega) x
    rw [q, h]
    omega
  have em : U 1431655765 = 85 + 256 * (85 + 256 * (85 + 256 * 85)) := by decide
  have k0 := v_1 b0 h0 (b1 % 2) (by omega)
  have k1 := v_1 b1 h1 (b2 % 2) (by omega)
  have k2 := v_1 b2 h2 (b3 % 2) (by omega)
  have k3 := v_1 b3 h3 0 (by omega)
  unfold bc1
  rw [U_sub, U_and, e, em, and4 (by omega) (by omega) (by omega) (by omega), k0.1, k1.1, k2.1, k3.1, h]
  unfold v1
  omega
theorem bc2_b {x : Int32} {b0 b1 b2 b3 : Nat} (h0 : b0 < 256) (h1 : b1 < 256) (h2 : b2 < 256) (h3 : b3 < 256) (h : U x = b0 + 256 * (b1 + 256 * (b2 + 256 * b3))) : U (bc2 x) = v2 b0 + 256 * (v2 b1 + 256 * (v2 b2 + 256 * v2 b3)) := by
  have e : U (nc_ushr x 2) = (b0 / 4 + 64 * (b1 % 4)) + 256 * ((b1 / 4 + 64 * (b2 % 4)) + 256 * ((b2 / 4 + 64 * (b3 % 4)) + 256 * (b3 / 4 + 64 * 0))) := by
    have q : U (nc_ushr x 2) = U x / 4 := U_shr 2 (by omega) x
    rw [q, h]
    omega
  have em : U 858993459 = 51 + 256 * (51 + 256 * (51 + 256 * 51)) := by decide
  have k0 := v_2 b0 h0 (b1 % 4) (by omega)
  have k1 := v_2 b1 h1 (b2 % 4) (by omega)
  have k2 := v_2 b2 h2 (b3 % 4) (by omega)
  have k3 := v_2 b3 h3 0 (by omega)
  unfold bc2
  rw [U_add, U_and, U_and, e, em, h, and4 h0 h1 h2 (by omega), and4 (by omega) (by omega) (by omega) (by omega), k0.1, k1.1, k2.1, k3.1]
  unfold v2
  omega
theorem bc3_b {x : Int32} {b0 b1 b2 b3 : Nat} (h0 : b0 < 256) (h1 : b1 < 256) (h2 : b2 < 256) (h3 : b3 < 256) (h : U x = v2 (v1 b0) + 256 * (v2 (v1 b1) + 256 * (v2 (v1 b2) + 256 * v2 (v1 b3)))) : U (bc3 x) = pop b0 + 256 * (pop b1 + 256 * (pop b2 + 256 * pop b3)) := by
  have l0 := v_3 b0 h0
  have l1 := v_3 b1 h1
  have l2 := v_3 b2 h2
  have l3 := v_3 b3 h3
  have k0 := v_4 b0 h0 (v2 (v1 b1) % 16) (by omega)
  have k1 := v_4 b1 h1 (v2 (v1 b2) % 16) (by omega)
  have k2 := v_4 b2 h2 (v2 (v1 b3) % 16) (by omega)
  have k3 := v_4 b3 h3 0 (by omega)
  have em : U 252645135 = 15 + 256 * (15 + 256 * (15 + 256 * 15)) := by decide
  have e : U (x + nc_ushr x 4) = (v2 (v1 b0) + (v2 (v1 b0) / 16 + 16 * (v2 (v1 b1) % 16))) + 256 * ((v2 (v1 b1) + (v2 (v1 b1) / 16 + 16 * (v2 (v1 b2) % 16))) + 256 * ((v2 (v1 b2) + (v2 (v1 b2) / 16 + 16 * (v2 (v1 b3) % 16))) + 256 * (v2 (v1 b3) + (v2 (v1 b3) / 16 + 16 * 0)))) := by
    have q : U (nc_ushr x 4) = U x / 16 := U_shr 4 (by omega) x
    rw [U_add, q, h]
    generalize v2 (v1 b0) = w0 at *
    generalize v2 (v1 b1) = w1 at *
    generalize v2 (v1 b2) = w2 at *
    generalize v2 (v1 b3) = w3 at *
    omega
  unfold bc3
  rw [U_and, e, em, and4 (by omega) (by omega) (by omega) (by omega), k0, k1, k2, k3]
theorem bt_U (x : Int32) (i : Nat) : bt x i = decide (U x / 2 ^ i % 2 = 1) := by
  unfold bt U
  rw [BitVec.getLsbD, Nat.testBit_eq_decide_div_mod_eq]
theorem bt_n (x : Int32) (i : Nat) : (if bt x i = true then 1 else 0) = U x / 2 ^ i % 2 := by
  rw [bt_U]
  rcases Nat.mod_two_eq_zero_or_one (U x / 2 ^ i) with q | q
  · rw [q]
    rfl
  · rw [q]
    rfl
theorem pop_m (y : Nat) : pop (y % 256) = y % 2 + y / 2 % 2 + y / 4 % 2 + y / 8 % 2 + y / 16 % 2 + y / 32 % 2 + y / 64 % 2 + y / 128 % 2 := by
  unfold pop
  rw [show y % 256 % 2 = y % 2 by omega, show y % 256 / 2 % 2 = y / 2 % 2 by omega, show y % 256 / 4 % 2 = y / 4 % 2 by omega, show y % 256 / 8 % 2 = y / 8 % 2 by omega, show y % 256 / 16 % 2 = y / 16 % 2 by omega, show y % 256 / 32 % 2 = y / 32 % 2 by omega, show y % 256 / 64 % 2 = y / 64 % 2 by omega, show y % 256 / 128 % 2 = y / 128 % 2 by omega]
theorem cnt_8 (x : Int32) (s : Nat) : cnt x (s + 8) = cnt x s + pop (U x / 2 ^ s % 256) := by
  have e : ∀ i : Nat, U x / 2 ^ (s + i) = U x / 2 ^ s / 2 ^ i := fun i => by rw [Nat.pow_add, Nat.div_div_eq_div_mul]
  have e1 : U x / 2 ^ (s + 1) = U x / 2 ^ s / 2 := e 1
  have e2 : U x / 2 ^ (s + 1 + 1) = U x / 2 ^ s / 4 := e 2
  have e3 : U x / 2 ^ (s + 1 + 1 + 1) = U x / 2 ^ s / 8 := e 3
  have e4 : U x / 2 ^ (s + 1 + 1 + 1 + 1) = U x / 2 ^ s / 16 := e 4
  have e5 : U x / 2 ^ (s + 1 + 1 + 1 + 1 + 1) = U x / 2 ^ s / 32 := e 5
  have e6 : U x / 2 ^ (s + 1 + 1 + 1 + 1 + 1 + 1) = U x / 2 ^ s / 64 := e 6
  have e7 : U x / 2 ^ (s + 1 + 1 + 1 + 1 + 1 + 1 + 1) = U x / 2 ^ s / 128 := e 7
  show cnt x (s + 1 + 1 + 1 + 1 + 1 + 1 + 1 + 1) = _
  rw [cnt, cnt, cnt, cnt, cnt, cnt, cnt, cnt, bt_n, bt_n, bt_n, bt_n, bt_n, bt_n, bt_n, bt_n, e1, e2, e3, e4, e5, e6, e7, pop_m]
  omega
theorem cnt_b {x : Int32} {b0 b1 b2 b3 : Nat} (h0 : b0 < 256) (h1 : b1 < 256) (h2 : b2 < 256) (h3 : b3 < 256) (h : U x = b0 + 256 * (b1 + 256 * (b2 + 256 * b3))) : cnt x 32 = pop b0 + pop b1 + pop b2 + pop b3 := by
  have k0 : U x / 2 ^ 0 % 256 = b0 := by
    rw [h, show (2 : Nat) ^ 0 = 1 from rfl]
    omega
  have k1 : U x / 2 ^ 8 % 256 = b1 := by
    rw [h, show (2 : Nat) ^ 8 = 256 from rfl]
    omega
  have k2 : U x / 2 ^ 16 % 256 = b2 := by
    rw [h, show (2 : Nat) ^ 16 = 65536 from rfl]
    omega
  have k3 : U x / 2 ^ 24 % 256 = b3 := by
    rw [h, show (2 : Nat) ^ 24 = 16777216 from rfl]
    omega
  have c0 : cnt x 8 = cnt x 0 + pop (U x / 2 ^ 0 % 256) := cnt_8 x 0
  have c1 : cnt x 16 = cnt x 8 + pop (U x / 2 ^ 8 % 256) := cnt_8 x 8
  have c2 : cnt x 24 = cnt x 16 + pop (U x / 2 ^ 16 % 256) := cnt_8 x 16
  have c3 : cnt x 32 = cnt x 24 + pop (U x / 2 ^ 24 % 256) := cnt_8 x 24
  have cz : cnt x 0 = 0 := rfl
  rw [c3, c2, c1, c0, k0, k1, k2, k3, cz]
  omega
theorem n_5 {w0 w1 w2 w3 : Nat} (l0 : w0 ≤ 8) (l1 : w1 ≤ 8) (l2 : w2 ≤ 8) (l3 : w3 ≤ 8) : ((w0 + w1) + 256 * ((w1 + w2) + 256 * ((w2 + w3) + 256 * w3)) + ((w0 + w1) + 256 * ((w1 + w2) + 256 * ((w2 + w3) + 256 * w3))) / 65536) % 4294967296 = (w0 + w1 + w2 + w3) + 256 * ((w1 + w2 + w3) + 256 * ((w2 + w3) + 256 * w3)) := by
  have h : ((w0 + w1) + 256 * ((w1 + w2) + 256 * ((w2 + w3) + 256 * w3))) / 65536 = (w2 + w3) + 256 * w3 := by omega
  rw [h]
  omega
theorem e_bc (x : Int32) : f_bitCount x = nI (cnt x 32) := by
  have hl := U_lt x
  obtain ⟨b0, b1, b2, b3, h0, h1, h2, h3, h⟩ : ∃ b0 b1 b2 b3 : Nat, b0 < 256 ∧ b1 < 256 ∧ b2 < 256 ∧ b3 < 256 ∧ U x = b0 + 256 * (b1 + 256 * (b2 + 256 * b3)) := ⟨U x % 256, U x / 256 % 256, U x / 65536 % 256, U x / 16777216, by omega, by omega, by omega, by omega, by omega⟩
  have s1 := bc1_b h0 h1 h2 h3 h
  have s2 := bc2_b (v_5 b0 h0) (v_5 b1 h1) (v_5 b2 h2) (v_5 b3 h3) s1
  have s3 := bc3_b h0 h1 h2 h3 s2
  have l0 := (v_3 b0 h0).2.2
  have l1 := (v_3 b1 h1).2.2
  have l2 := (v_3 b2 h2).2.2
  have l3 := (v_3 b3 h3).2.2
  rw [cnt_b h0 h1 h2 h3 h]
  apply U_inj
  unfold f_bitCount
  generalize bc3 (bc2 (bc1 x)) = y at *
  have s4 : U (bc4 y) = (pop b0 + pop b1) + 256 * ((pop b1 + pop b2) + 256 * ((pop b2 + pop b3) + 256 * pop b3)) := by
    have q : U (nc_ushr y 8) = U y / 256 := U_shr 8 (by omega) y
    unfold bc4
    rw [U_add, q, s3]
    generalize pop b0 = w0 at *
    generalize pop b1 = w1 at *
    generalize pop b2 = w2 at *
    generalize pop b3 = w3 at *
    omega
  have s5 : U (bc5 (bc4 y)) = (pop b0 + pop b1 + pop b2 + pop b3) + 256 * ((pop b1 + pop b2 + pop b3) + 256 * ((pop b2 + pop b3) + 256 * pop b3)) := by
    have q : U (nc_ushr (bc4 y) 16) = U (bc4 y) / 65536 := U_shr 16 (by omega) _
    unfold bc5
    rw [U_add, q, s4]
    exact n_5 l0 l1 l2 l3
  have e63 : U 63 = 2 ^ 6 - 1 := by decide
  have en : U (nI (pop b0 + pop b1 + pop b2 + pop b3)) = pop b0 + pop b1 + pop b2 + pop b3 := by
    show (BitVec.ofNat 32 (pop b0 + pop b1 + pop b2 + pop b3)).toNat = _
    rw [BitVec.toNat_ofNat]
    exact Nat.mod_eq_of_lt (by omega)
  rw [U_and, e63, Nat.and_two_pow_sub_one_eq_mod, en]
  rw [s5]
  generalize pop b0 = w0 at *
  generalize pop b1 = w1 at *
  generalize pop b2 = w2 at *
  generalize pop b3 = w3 at *
  omega
