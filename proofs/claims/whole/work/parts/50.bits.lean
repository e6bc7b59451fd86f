/-! ===== Int32 by its bits: bt x i ===== -/
def bt (x : Int32) (i : Nat) : Bool := x.toBitVec.getLsbD i
theorem b_ext {x y : Int32} (h : ∀ i, i < 32 → bt x i = bt y i) : x = y := Int32.toBitVec_inj.mp (BitVec.eq_of_getLsbD_eq (fun i hi => h i hi))
theorem b_or (x y : Int32) (i : Nat) : bt (x ||| y) i = (bt x i || bt y i) := by unfold bt; rw [Int32.toBitVec_or, BitVec.getLsbD_or]
theorem b_and (x y : Int32) (i : Nat) : bt (x &&& y) i = (bt x i && bt y i) := by unfold bt; rw [Int32.toBitVec_and, BitVec.getLsbD_and]
theorem b_xor (x y : Int32) (i : Nat) : bt (x ^^^ y) i = (bt x i ^^ bt y i) := by unfold bt; rw [Int32.toBitVec_xor, BitVec.getLsbD_xor]
theorem b_big {x : Int32} {i : Nat} (h : 32 ≤ i) : bt x i = false := BitVec.getLsbD_of_ge _ _ h
theorem b_255 (i : Nat) : bt 255 i = decide (i < 8) := by
  rcases Nat.lt_or_ge i 32 with h | h
  · exact (by decide +kernel : ∀ i, i < 32 → bt 255 i = decide (i < 8)) i h
  · rw [b_big h, decide_eq_false (by omega)]
theorem b_65535 (i : Nat) : bt 65535 i = decide (i < 16) := by
  rcases Nat.lt_or_ge i 32 with h | h
  · exact (by decide +kernel : ∀ i, i < 32 → bt 65535 i = decide (i < 16)) i h
  · rw [b_big h, decide_eq_false (by omega)]
theorem b_m1 : ∀ i, i < 32 → bt (-1) i = true := by decide +kernel
theorem b_0 (i : Nat) : bt 0 i = false := BitVec.getLsbD_zero
theorem s_l : ∀ n, n < 32 → ((nI n &&& 31).toBitVec.smod 32).toNat = n := by decide +kernel
theorem s_u : ∀ n, n < 32 → (((nI n).toUInt32 &&& Int32.toUInt32 31).toBitVec % 32).toNat = n := by decide +kernel
theorem b_shl (n : Nat) (hn : n < 32) (x : Int32) {i : Nat} (hi : i < 32) : bt (x <<< (nI n &&& 31)) i = (decide (n ≤ i) && bt x (i - n)) := by
  unfold bt
  rw [Int32.toBitVec_shiftLeft]
  show (x.toBitVec <<< ((nI n &&& 31).toBitVec.smod 32).toNat).getLsbD i = _
  rw [s_l n hn, BitVec.getLsbD_shiftLeft]
  rcases Nat.lt_or_ge i n with h | h
  · simp [h, Nat.not_le.mpr h]
  · simp [hi, h, Nat.not_lt.mpr h]
theorem b_ushr (n : Nat) (hn : n < 32) (x : Int32) (i : Nat) : bt ((x.toUInt32 >>> ((nI n).toUInt32 &&& Int32.toUInt32 31)).toInt32) i = bt x (n + i) := by
  show (x.toUInt32 >>> ((nI n).toUInt32 &&& Int32.toUInt32 31)).toBitVec.getLsbD i = x.toUInt32.toBitVec.getLsbD (n + i)
  rw [UInt32.toBitVec_shiftRight]
  show (x.toUInt32.toBitVec >>> (((nI n).toUInt32 &&& Int32.toUInt32 31).toBitVec % 32).toNat).getLsbD i = _
  rw [s_u n hn, BitVec.getLsbD_ushiftRight]
theorem b_sshr (n : Nat) (hn : n < 32) (x : Int32) {i : Nat} (hi : i < 32) : bt (x >>> (nI n &&& 31)) i = if n + i < 32 then bt x (n + i) else bt x 31 := by
  unfold bt
  rw [Int32.toBitVec_shiftRight]
  show (x.toBitVec.sshiftRight ((nI n &&& 31).toBitVec.smod 32).toNat).getLsbD i = _
  rw [s_l n hn, BitVec.getLsbD_sshiftRight, BitVec.msb_eq_getLsbD_last]
  simp [hi]

theorem b_1 : ∀ i, i < 32 → bt 1 i = decide (i = 0) := by decide +kernel
theorem b_63 : ∀ i, i < 32 → bt 63 i = decide (i < 6) := by decide +kernel
theorem b_one {k i : Nat} (hk : k < 32) (hi : i < 32) : bt ((1 : Int32) <<< (nI k &&& 31)) i = decide (i = k) := by
  rw [b_shl k hk _ hi]
  by_cases h : k ≤ i
  · rw [b_1 _ (by omega), decide_eq_true h, Bool.true_and]
    by_cases h2 : i = k
    · rw [decide_eq_true h2, decide_eq_true (by omega)]
    · rw [decide_eq_false h2, decide_eq_false (by omega)]
  · rw [decide_eq_false h, decide_eq_false (by omega), Bool.false_and]
theorem b_not (x : Int32) {i : Nat} (hi : i < 32) : bt (x ^^^ (-1)) i = !bt x i := by rw [b_xor, b_m1 i hi, Bool.xor_true]
def b2 (c : Bool) : Int32 := if c then 1 else 0
theorem b2_bt (c : Bool) {i : Nat} (hi : i < 32) : bt (b2 c) i = (decide (i = 0) && c) := by
  cases c
  · rw [show b2 false = 0 from rfl, b_0]; simp
  · rw [show b2 true = 1 from rfl, b_1 i hi]; simp
theorem b2_0 (c : Bool) : b2 c = 0 ↔ c = false := by cases c <;> decide
theorem b2_1 (c : Bool) : b2 c = 1 ↔ c = true := by cases c <;> decide
/-- one bit, shifted down -/
theorem t_and1 (x : Int32) {k : Nat} (hk : k < 32) : (x >>> (nI k &&& 31)) &&& 1 = b2 (bt x k) := by
  refine b_ext (fun i hi => ?_)
  rw [b_and, b_sshr k hk x hi, b_1 i hi, b2_bt _ hi]
  by_cases h : i = 0
  · subst h; simp [hk]
  · simp [h]
theorem t_and0 (x : Int32) : x &&& 1 = b2 (bt x 0) := by
  refine b_ext (fun i hi => ?_)
  rw [b_and, b_1 i hi, b2_bt _ hi]
  by_cases h : i = 0
  · subst h; simp
  · simp [h]
/-- one bit, by its mask -/
theorem t_mask (x : Int32) {k : Nat} (hk : k < 32) : (x &&& ((1 : Int32) <<< (nI k &&& 31))) = 0 ↔ bt x k = false := by
  constructor
  · intro h
    have h1 := congrArg (fun z => bt z k) h
    simp only [b_and, b_one hk hk, b_0] at h1
    simpa using h1
  · intro h
    refine b_ext (fun i hi => ?_)
    rw [b_and, b_one hk hi, b_0]
    by_cases e : i = k
    · subst e; rw [h]; rfl
    · simp [e]
theorem b_b2shl (c : Bool) {k i : Nat} (hk : k < 32) (hi : i < 32) : bt (b2 c <<< (nI k &&& 31)) i = (decide (i = k) && c) := by
  rw [b_shl k hk _ hi]
  by_cases h : k ≤ i
  · rw [b2_bt c (by omega), decide_eq_true h, Bool.true_and]
    by_cases h2 : i = k
    · rw [decide_eq_true h2, decide_eq_true (by omega)]
    · rw [decide_eq_false h2, decide_eq_false (by omega)]
  · rw [decide_eq_false h, decide_eq_false (by omega), Bool.false_and, Bool.false_and]
/-- no bit above the keys -/
def lo24 (x : Int32) : Prop := ∀ i, 24 ≤ i → bt x i = false
theorem lo_0 : lo24 0 := fun i _ => b_0 i
theorem lo_or {x y : Int32} (h1 : lo24 x) (h2 : lo24 y) : lo24 (x ||| y) := fun i hi => by rw [b_or, h1 i hi, h2 i hi]; rfl
theorem lo_and {x : Int32} (y : Int32) (h1 : lo24 x) : lo24 (x &&& y) := fun i hi => by rw [b_and, h1 i hi]; rfl
theorem lo_xor {x y : Int32} (h1 : lo24 x) (h2 : lo24 y) : lo24 (x ^^^ y) := fun i hi => by rw [b_xor, h1 i hi, h2 i hi]; rfl
theorem lo_one {k : Nat} (hk : k < 24) : lo24 ((1 : Int32) <<< (nI k &&& 31)) := fun i hi => by
  by_cases h : i < 32
  · rw [b_one (by omega) h]; simp; omega
  · exact b_big (by omega)
theorem lo_b2 (c : Bool) {k : Nat} (hk : k < 24) : lo24 (b2 c <<< (nI k &&& 31)) := fun i hi => by
  by_cases h : i < 32
  · rw [b_b2shl c (by omega) h]; simp; omega
  · exact b_big (by omega)
theorem lo_ext {x y : Int32} (h1 : lo24 x) (h2 : lo24 y) (h : ∀ i, i < 24 → bt x i = bt y i) : x = y := b_ext (fun i _ => by
  by_cases hi : i < 24
  · exact h i hi
  · rw [h1 i (by omega), h2 i (by omega)])
theorem lit_nI (n : Nat) : (OfNat.ofNat n : Int32) = nI n := rfl
theorem le24 {c i : Nat} (hc : c < 2 ^ 31) (hi : i < 2 ^ 31) : nI c ≤ nI i ↔ c ≤ i := nI_leI hc hi
theorem in_nI {i n : Nat} (h : i < n) (hn : n < 2 ^ 31) : vp_in (nI i) n := vp_in_nI h hn
/-- T is S but for the components of K -/
def eqx (K : List Nat) (S T : GS) : Prop := (∀ c, c ∉ K → T.1 c = S.1 c) ∧ T.2 = S.2
theorem eqx.rf {K : List Nat} {S : GS} : eqx K S S := ⟨fun _ _ => rfl, rfl⟩
theorem eqx.tr {K : List Nat} {S T U : GS} (h1 : eqx K S T) (h2 : eqx K T U) : eqx K S U := ⟨fun c hc => (h2.1 c hc).trans (h1.1 c hc), h2.2.trans h1.2⟩
theorem eqx.up {K K' : List Nat} {S T : GS} (h : eqx K S T) (hK : ∀ c ∈ K, c ∈ K') : eqx K' S T := ⟨fun c hc => h.1 c (fun h => hc (hK c h)), h.2⟩
theorem eqx.gI {K : List Nat} {S T : GS} (h : eqx K S T) {k : Nat} (hk : k ∈ K) (f : Nat → Int32) : eqx K S (gI T k f) := ⟨fun c hc => by
  have : c ≠ k := fun e => hc (e ▸ hk)
  show (if c = k then f else T.1 c) = S.1 c
  rw [if_neg this]; exact h.1 c hc, h.2⟩
theorem gI_s (S : GS) (k : Nat) (f : Nat → Int32) : (gI S k f).1 k = f := if_pos rfl
theorem gI_n (S : GS) {k j : Nat} (f : Nat → Int32) (h : j ≠ k) : (gI S k f).1 j = S.1 j := if_neg h
theorem gI_2 (S : GS) (k : Nat) (f : Nat → Int32) : (gI S k f).2 = S.2 := rfl
theorem upd_s (f : Nat → Int32) (k : Nat) (x : Int32) : upd f k x k = x := pk_us
theorem upd_n (f : Nat → Int32) {k j : Nat} (x : Int32) (h : j ≠ k) : upd f k x j = f j := pk_un h
