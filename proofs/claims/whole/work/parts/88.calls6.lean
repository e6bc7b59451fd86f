theorem jn_and (a b : Nat) : jn a &&& jn b = jn (a &&& b) := Int64.toBitVec_inj.mp (BitVec.eq_of_getLsbD_eq (fun i hi => by
  rw [Int64.toBitVec_and, BitVec.getLsbD_and, jn_bv, jn_bv, jn_bv, BitVec.getLsbD_ofNat, BitVec.getLsbD_ofNat, BitVec.getLsbD_ofNat, Nat.testBit_and, decide_eq_true hi]
  simp))
theorem jn_sshr {X p : Nat} (hp : p < 64) (hX : X < 2 ^ 63) : jn X >>> ((nI p).toInt64 &&& 63) = jn (X / 2 ^ p) := by
  refine Int64.toBitVec_inj.mp (BitVec.eq_of_getLsbD_eq (fun i hi => ?_))
  rw [Int64.toBitVec_shiftRight]
  show ((jn X).toBitVec.sshiftRight (((nI p).toInt64 &&& 63).toBitVec.smod 64).toNat).getLsbD i = _
  rw [s_l64 p hp, BitVec.getLsbD_sshiftRight, BitVec.msb_eq_getLsbD_last, jn_bv, jn_bv, BitVec.getLsbD_ofNat, BitVec.getLsbD_ofNat, BitVec.getLsbD_ofNat, Nat.testBit_div_two_pow]
  have h63 : X.testBit (64 - 1) = false := Nat.testBit_lt_two_pow hX
  rw [h63]
  by_cases h : p + i < 64
  · simp [hi, h, Nat.add_comm]
  · have h2 : X.testBit (i + p) = false := Nat.testBit_lt_two_pow (Nat.lt_of_lt_of_le hX (Nat.pow_le_pow_right (by omega) (by omega)))
    simp [hi, h, h2]
theorem jn_to32 {x : Nat} (hx : x < 2 ^ 31) : (jn x).toInt32 = nI x := by
  rw [← jn_32 hx]
  exact Int32.toInt32_toInt64 _
theorem pkc_get {r : Nat → Nat} (h : ∀ i, r (i + 1) < 128) : ∀ {n i : Nat}, i < n → pkc r n / 128 ^ i % 128 = r (i + 1)
  | 0, i, hi => absurd hi (by omega)
  | n + 1, i, hi => by
    show (pkc r n + r (n + 1) * 128 ^ n) / 128 ^ i % 128 = r (i + 1)
    have hlt := pkc_lt h n
    have hpos : 0 < 128 ^ i := Nat.pow_pos (by omega)
    rcases Nat.lt_or_ge i n with w | w
    · obtain ⟨d, rfl⟩ : ∃ d, n = i + 1 + d := ⟨n - i - 1, by omega⟩
      have e : r (i + 1 + d + 1) * 128 ^ (i + 1 + d) = 128 ^ i * (128 * (128 ^ d * r (i + 1 + d + 1))) := by
        rw [Nat.pow_add, Nat.pow_succ, Nat.mul_comm]
        simp only [Nat.mul_assoc]
      rw [e, Nat.add_mul_div_left _ _ hpos, Nat.add_mul_mod_self_left]
      exact pkc_get h w
    · have : i = n := by omega
      subst this
      rw [Nat.add_mul_div_right _ _ hpos, Nat.div_eq_of_lt hlt, Nat.zero_add, Nat.mod_eq_of_lt (h i)]
section LC6
variable {xs : Nat → Int32} {k n : Nat} {K : GS → GS → (Nat → Int64) → Prop} {S M : GS} {o : Nat → Int64}
theorem rc_5 (h : Rel S M n) (hK : ∀ S' M' o', Rel S' M' (n + 100) → K S' M' o') : LC_5 xs k K S M o := by
  have h0 := h
  obtain ⟨N, dn, e, h1, h2, h3, h4, _, s, _, LP, TK, lt, h5⟩ := h0
  have hk : ∀ g, K S (gI M 0 g) o := fun g => hK _ _ _ ((h.f _).mono (by omega))
  unfold LC_5 wp_G_report wp_Re_partOfTaken wp_Mo_report
  generalize xs (6 * k + 1) = p
  have hlt := pkN_lt h5.gT
  refine ⟨fun z => ⟨fun _ => ⟨fun _ => hk _, fun y => absurd rfl y⟩, fun y => absurd z y⟩, fun z => ⟨fun y => ?_, fun y => ⟨fun w => absurd w z, fun _ => ⟨fun w => absurd w y, fun _ => ⟨fun _ => hk _, fun v => absurd rfl v⟩⟩⟩⟩⟩
  have hp : ∃ q, q < 7 ∧ p = nI q := in_rng (b := 7) (by omega) z (by
    have h2 : (6 : Int32).toInt = 6 := by decide
    rw [Int32.le_iff_toInt_le, h2] at y
    rw [Int32.lt_iff_toInt_lt, nI_toInt (by omega)]
    omega)
  obtain ⟨q, q1, rfl⟩ := hp
  have e63 : (63 : Int32) + nI q = nI (63 + q) := nI_add 63 q
  have hm : ∀ r : Int32, r = nI (TK q) → (((nI q < (0 : Int32) → ((r = (-1 : Int32) → K S (gI M 0 (fun _ => 0)) o) ∧ (¬ r = (-1 : Int32) → False))) ∧ (¬ nI q < (0 : Int32) → ((nI q ≤ (6 : Int32) → (vp_in ((63 : Int32) + nI q) 77 ∧ ((r = (M.1 29) ((63 : Int32) + nI q).toNatClampNeg → K S (gI M 0 (fun _ => 0)) o) ∧ (¬ r = (M.1 29) ((63 : Int32) + nI q).toNatClampNeg → False)))) ∧ (¬ nI q ≤ (6 : Int32) → ((r = (-1 : Int32) → K S (gI M 0 (fun _ => 0)) o) ∧ (¬ r = (-1 : Int32) → False))))))) := fun r hr => by
    refine ⟨fun w => absurd w z, fun _ => ⟨fun _ => ?_, fun w => absurd y w⟩⟩
    rw [e63, nI_clamp (by omega), h5.mT q q1]
    exact ⟨in_nI (by omega) (by omega), fun _ => hk _, fun w => absurd hr w⟩
  rw [h5.sT]
  refine ⟨fun w => hm _ ?_, fun w => hm _ ?_⟩
  · have hq : q = 0 := Classical.byContradiction (fun v => nI_ne (b := 0) (by omega) (by omega) v w)
    subst hq
    have e1 : jn (pkN TK) &&& (255 : Int64) = jn (pkN TK &&& 255) := jn_and _ 255
    have g := h5.gT.1
    rw [e1, show (255 : Nat) = 2 ^ 8 - 1 from rfl, Nat.and_two_pow_sub_one_eq_mod, show pkN TK % 2 ^ 8 = TK 0 from by unfold pkN; omega, jn_to32 (by omega)]
  · have hq : q ≠ 0 := fun v => w (by rw [v]; rfl)
    obtain ⟨i, rfl⟩ : ∃ i, q = i + 1 := ⟨q - 1, by omega⟩
    have e0 : nI (i + 1) - (1 : Int32) = nI i := nI_pred i
    have e2 : (7 : Int32) * nI i = nI (7 * i) := pk_mul 7 i
    have e3 : (8 : Int32) + nI (7 * i) = nI (8 + 7 * i) := nI_add 8 _
    have e1 : ∀ X, jn X &&& (127 : Int64) = jn (X &&& 127) := fun X => jn_and _ 127
    have g := h5.gT.2 i
    have g0 := h5.gT.1
    have hx : pkN TK / 256 = pkc TK 6 := by unfold pkN; omega
    rw [e0, e2, e3, jn_sshr (by omega) hlt, e1, show (127 : Nat) = 2 ^ 7 - 1 from rfl, Nat.and_two_pow_sub_one_eq_mod, p2, ← Nat.div_div_eq_div_mul, hx, show (2 : Nat) ^ 7 = 128 from rfl, pkc_get h5.gT.2 (by omega), jn_to32 (by omega)]
end LC6
