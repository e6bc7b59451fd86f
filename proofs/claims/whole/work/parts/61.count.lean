/-! Integer.bitCount: the sum of the bits -/
theorem bt_nI (X : Nat) {i : Nat} (hi : i < 32) : bt (nI X) i = X.testBit i := by
  show (BitVec.ofNat 32 X).getLsbD i = X.testBit i
  rw [BitVec.getLsbD_ofNat, decide_eq_true hi, Bool.true_and]
theorem nI_and (a b : Nat) : nI a &&& nI b = nI (a &&& b) := b_ext (fun i hi => by rw [b_and, bt_nI _ hi, bt_nI _ hi, bt_nI _ hi, Nat.testBit_and])
theorem nI_ushr {X : Nat} (n : Nat) (hn : n < 32) (hX : X < 2 ^ 32) : ((nI X).toUInt32 >>> ((nI n).toUInt32 &&& Int32.toUInt32 31)).toInt32 = nI (X / 2 ^ n) := b_ext (fun i hi => by
  rw [b_ushr n hn, bt_nI _ hi, Nat.testBit_div_two_pow]
  by_cases h : n + i < 32
  · rw [bt_nI _ h, Nat.add_comm]
  · rw [b_big (by omega), Nat.testBit_lt_two_pow (Nat.lt_of_lt_of_le hX (Nat.pow_le_pow_right (by omega) (by omega)))])
theorem land_lane {k a b m n : Nat} (ha : a < 2 ^ k) (hm : m < 2 ^ k) : (2 ^ k * b + a) &&& (2 ^ k * n + m) = 2 ^ k * (b &&& n) + (a &&& m) := by
  refine Nat.eq_of_testBit_eq (fun i => ?_)
  have h3 : a &&& m < 2 ^ k := Nat.lt_of_le_of_lt Nat.and_le_left ha
  rw [Nat.testBit_and, Nat.testBit_two_pow_mul_add _ ha, Nat.testBit_two_pow_mul_add _ hm, Nat.testBit_two_pow_mul_add _ h3]
  split
  · rw [Nat.testBit_and]
  · rw [Nat.testBit_and]
def cn1 (a : Nat) : Nat := a - (a / 2 &&& 85)
def cn2 (a : Nat) : Nat := (cn1 a &&& 51) + (cn1 a / 4 &&& 51)
def cn3 (a : Nat) : Nat := (cn2 a + cn2 a / 16) &&& 15
theorem cn_a : ∀ a, a < 256 → (a / 2 &&& 85 ≤ a ∧ (a / 2 + 128 * 0 &&& 85 = a / 2 &&& 85) ∧ (a / 2 + 128 * 1 &&& 85 = a / 2 &&& 85)) := by decide +kernel
theorem cn_b : ∀ a, a < 256 → ∀ z, z < 4 → ((cn1 a / 4 + 64 * z) &&& 51 = cn1 a / 4 &&& 51) := by decide +kernel
theorem cn_c : ∀ a, a < 256 → cn2 a < 69 := by decide +kernel
theorem cn_d : ∀ a, a < 69 → ∀ z, z < 5 → (a + a / 16 + 16 * z) &&& 15 = (a + a / 16) &&& 15 := by decide +kernel
theorem cn_e : ∀ a, a < 256 → cn2 a % 16 < 5 := by decide +kernel
theorem cn_f : ∀ a, a < 256 → cn3 a ≤ 8 ∧ cn3 a = a % 2 + a / 2 % 2 + a / 4 % 2 + a / 8 % 2 + a / 16 % 2 + a / 32 % 2 + a / 64 % 2 + a / 128 % 2 := by decide +kernel
theorem cn_63 : ∀ a, a < 25 → ∀ z, z < 64 → (a + 64 * (4 * z)) % 64 = a := by omega
theorem lane3 {a b c m : Nat} (ha : a < 256) (hb : b < 256) (hm : m < 256) : (a + 256 * (b + 256 * c)) &&& (m + 256 * (m + 256 * (m + 256 * m))) = (a &&& m) + 256 * ((b &&& m) + 256 * (c &&& (m + 256 * m))) := by
  have h1 := land_lane (k := 8) (b := b + 256 * c) (n := m + 256 * (m + 256 * m)) (show a < 2 ^ 8 from ha) (show m < 2 ^ 8 from hm)
  have h2 := land_lane (k := 8) (b := c) (n := m + 256 * m) (show b < 2 ^ 8 from hb) (show m < 2 ^ 8 from hm)
  rw [show (2 : Nat) ^ 8 = 256 from rfl] at h1 h2
  rw [Nat.add_comm a, Nat.add_comm m, h1, Nat.add_comm b, Nat.add_comm m, h2]
  omega
theorem lane1 {c m : Nat} (hc : c < 256) (hm : m < 256) : c &&& (m + 256 * m) = c &&& m := by
  have h1 := land_lane (k := 8) (b := 0) (n := m) (show c < 2 ^ 8 from hc) (show m < 2 ^ 8 from hm)
  rw [show (2 : Nat) ^ 8 = 256 from rfl, Nat.zero_and] at h1
  rw [Nat.add_comm m, show 256 * 0 + c = c from by omega] at *
  rw [h1]; omega
def cnt (X : Nat) : Nat := cn3 (X % 256) + cn3 (X / 256 % 256) + cn3 (X / 65536)
