/-! The report of what is down: made of both sides -/
def dF (h : Nat → Int32) : Nat → Nat
  | 0 => 0
  | t + 1 => if h (4 + t) ≤ 0 then dF h t else dF h t + 1
def eF (h : Nat → Int32) : Nat → Nat → Nat
  | 0, _ => 0
  | t + 1, j => if h (4 + t) ≤ 0 then eF h t j else if j = dF h t + 1 then 4 + t else eF h t j
def mF (h : Nat → Int32) : Nat → Nat
  | 0 => 0
  | t + 1 => if h (100 + t) ≤ 0 then mF h t else mF h t + 2 ^ t
theorem dF_le (h : Nat → Int32) : ∀ t, dF h t ≤ t
  | 0 => Nat.le_refl _
  | t + 1 => by unfold dF; have := dF_le h t; split <;> omega
theorem dF_mono (h : Nat → Int32) : ∀ {t u}, t ≤ u → dF h t ≤ dF h u := by
  intro t u hu
  induction u with
  | zero => rw [show t = 0 from by omega]; exact Nat.le_refl _
  | succ u ih =>
    rcases Nat.lt_or_ge u t with w | w
    · rw [show t = u + 1 from by omega]; exact Nat.le_refl _
    · have := ih w
      show dF h t ≤ if h (4 + u) ≤ 0 then dF h u else dF h u + 1
      split <;> omega
theorem eF_0 (h : Nat → Int32) : ∀ t j, dF h t < j → eF h t j = 0
  | 0, _, _ => rfl
  | t + 1, j, hj => by
    unfold dF at hj
    unfold eF
    split
    · rename_i w; rw [if_pos w] at hj; exact eF_0 h t j hj
    · rename_i w; rw [if_neg w] at hj; rw [if_neg (by omega)]; exact eF_0 h t j (by omega)
theorem eF_lt (h : Nat → Int32) : ∀ t j, eF h t j < 4 + t
  | 0, j => by show 0 < 4; omega
  | t + 1, j => by
    have := eF_lt h t j
    unfold eF
    split
    · omega
    · split <;> omega
theorem mF_lt (h : Nat → Int32) : ∀ t, mF h t < 2 ^ t
  | 0 => Nat.zero_lt_one
  | t + 1 => by
    have := mF_lt h t
    unfold mF
    rw [Nat.pow_succ]
    split <;> omega
def rp (h : Nat → Int32) (j : Nat) : Nat := if j = 0 then mF h 8 else if 6 < dF h 96 then 1 else eF h 96 j
theorem rp_good (h : Nat → Int32) : good (rp h) := ⟨mF_lt h 8, fun i => by
  unfold rp
  rw [if_neg (by omega)]
  split
  · omega
  · have := eF_lt h 96 (i + 1); omega⟩
theorem pkc_zero {e : Nat → Nat} {d : Nat} (h : ∀ j, d < j → e j = 0) : ∀ n, d ≤ n → pkc e n = pkc e d := by
  intro n hn
  induction n with
  | zero => rw [show d = 0 from by omega]
  | succ n ih =>
    rcases Nat.lt_or_ge n d with w | w
    · rw [show d = n + 1 from by omega]
    · show pkc e n + e (n + 1) * 128 ^ n = pkc e d
      rw [h (n + 1) (by omega), ih w]; omega
theorem p2 (d : Nat) : 2 ^ (8 + 7 * d) = 256 * 128 ^ d := by rw [Nat.pow_add, Nat.pow_mul]
set_option maxHeartbeats 1000000 in
theorem p_packed {S : GS} {post : Int64 → Prop} (hp : post (jn (pkN (rp (S.1 27))))) : wp_Re_packed S post := by
  generalize hh : S.1 27 = h at hp
  have l45 : ∃ n, L_Re_packed_45 S post n (jn (mF h 8)) 0 0 0 4 := by
    have hz : ∀ x n, x < 2 ^ 8 → jn x ||| jn (256 * n) = jn (256 * n + x) := fun x n hx => jn_lor (p := 8) (by omega) hx
    have ex : ∀ t n, t ≤ 96 → 6 < dF h t → J_Re_packed_117 S post (jn (mF h 8)) n (jn (256 * pkc (fun _ => 1) 6)) (nI (dF h t)) (nI (4 + t)) := fun t n ht hd => by
      have hle := dF_le h t
      refine ⟨fun z => absurd ((le24 (i := 6) (by omega) (by omega)).mp z) (by omega), fun _ => ?_⟩
      rw [hz _ _ (mF_lt h 8)]
      have hm := dF_mono h ht
      unfold pkN at hp
      rw [pkc_congr (r := fun _ => 1) (fun i hi => by unfold rp; rw [if_neg (by omega), if_pos (by omega)])] at hp
      exact hp
    refine pk_loop (fun n t (_ : Unit) => L_Re_packed_45 S post n (jn (mF h 8)) (jn (256 * pkc (eF h t) (dF h t))) (jn (256 * pkc (fun _ => 1) (min (dF h t) 6))) (nI (dF h t)) (nI (4 + t))) (fun t _ => dF h t ≤ 7) 96 0 () (by omega) (by show 0 ≤ 7; omega) ?_ ?_
    · intro n _ hd
      refine ⟨fun _ => ?_, fun z => absurd ((le24 (c := 100) (i := 100) (by omega) (by omega)).mpr (Nat.le_refl _)) z⟩
      by_cases w : 6 < dF h 96
      · rw [show min (dF h 96) 6 = 6 from by omega]; exact ex 96 _ (Nat.le_refl _) w
      · refine ⟨fun _ => ?_, fun z => absurd ((le24 (i := 6) (by omega) (by omega)).mpr (by omega)) z⟩
        rw [hz _ _ (mF_lt h 8)]
        unfold pkN at hp
        rw [pkc_congr (r := eF h 96) (fun i hi => by unfold rp; rw [if_neg (by omega), if_neg w]), pkc_zero (eF_0 h 96) 6 (by omega)] at hp
        exact hp
    · intro n t _ ht hd ih
      have hle := dF_le h t
      show ((100 : Int32) ≤ nI (4 + t) → _) ∧ (¬ (100 : Int32) ≤ nI (4 + t) → _)
      have h6 : (6 : Int32) < nI (dF h t) ↔ 6 < dF h t := nI_ltI (a := 6) (by omega) (by omega)
      have h6' : (6 : Int32) ≤ nI (dF h t) ↔ 6 ≤ dF h t := le24 (c := 6) (by omega) (by omega)
      rw [h6, h6']
      refine ⟨fun z => absurd ((le24 (c := 100) (by omega) (by omega)).mp z) (by omega), fun _ => ⟨fun w => ?_, fun w => ⟨in_nI (by omega) (by omega), ?_⟩⟩⟩
      · rw [show min (dF h t) 6 = 6 from by omega]; exact ex t _ (by omega) w
      · rw [nI_clamp (by omega), hh, nI_1]
        have hpl : (8 : Int32) + 7 * nI (dF h t) = nI (8 + 7 * dF h t) := by
          have : (7 : Int32) * nI (dF h t) = nI (7 * dF h t) := pk_mul 7 _
          rw [this]; exact nI_add 8 _
        rw [hpl, jn_32 (c := 4 + t) (by omega)]
        have hlt : 256 * pkc (eF h t) (dF h t) < 2 ^ (8 + 7 * dF h t) := by
          rw [p2]
          exact Nat.mul_lt_mul_of_pos_left (pkc_lt (fun i => by have := eF_lt h t (i + 1); omega) _) (by omega)
        have hlt1 : 256 * pkc (fun _ => 1) (dF h t) < 2 ^ (8 + 7 * dF h t) := by
          rw [p2]
          exact Nat.mul_lt_mul_of_pos_left (pkc_lt (fun i => by omega) _) (by omega)
        refine ⟨fun z => ?_, fun z => ?_⟩
        · have e1 : dF h (t + 1) = dF h t := if_pos z
          have e2 : eF h (t + 1) = eF h t := funext (fun j => if_pos z)
          have := ih () (by rw [e1]; exact hd)
          rw [e1, e2] at this
          exact this
        · have e1 : dF h (t + 1) = dF h t + 1 := if_neg z
          have e2 : 256 * pkc (eF h (t + 1)) (dF h t + 1) = 2 ^ (8 + 7 * dF h t) * (4 + t) + 256 * pkc (eF h t) (dF h t) := by
            show 256 * (pkc (eF h (t + 1)) (dF h t) + eF h (t + 1) (dF h t + 1) * 128 ^ dF h t) = _
            have e3 : eF h (t + 1) (dF h t + 1) = 4 + t := by
              show (if h (4 + t) ≤ 0 then _ else if dF h t + 1 = dF h t + 1 then 4 + t else _) = 4 + t
              rw [if_neg z, if_pos rfl]
            rw [e3, pkc_congr (r := eF h t) (fun i hi => by
              show (if h (4 + t) ≤ 0 then eF h t (i + 1) else if i + 1 = dF h t + 1 then 4 + t else eF h t (i + 1)) = eF h t (i + 1)
              rw [if_neg z, if_neg (by omega)]), p2, Nat.mul_add, Nat.add_comm, Nat.mul_assoc, Nat.mul_comm (4 + t)]
          have := ih () (by rw [e1]; omega)
          rw [e1, e2] at this
          unfold J_Re_packed_105
          rw [jn_or (by omega) hlt, nI_1, nI_1]
          refine ⟨fun w6 => ?_, fun w6 => ?_⟩
          · have hs : min (dF h t + 1) 6 = min (dF h t) 6 := by omega
            have h0 : ∀ x : Int64, x ||| 0 = x := fun x => Int64.or_zero
            rw [hs] at this
            rw [h0]
            exact this
          · have hs1 : min (dF h t + 1) 6 = dF h t + 1 := by omega
            have hs2 : min (dF h t) 6 = dF h t := by omega
            have h1 : (1 : Int64) = jn 1 := rfl
            rw [hs1] at this
            rw [hs2, h1, jn_or (by omega) hlt1]
            have e4 : 256 * pkc (fun _ => 1) (dF h t + 1) = 2 ^ (8 + 7 * dF h t) * 1 + 256 * pkc (fun _ => 1) (dF h t) := by
              show 256 * (pkc (fun _ => 1) (dF h t) + 1 * 128 ^ dF h t) = _
              rw [p2]; omega
            rw [e4] at this
            exact this
  refine pk_loop (fun n i (_ : Unit) => L_Re_packed_4 S post n (jn (mF h i)) (nI i)) (fun i _ => True) 8 0 () (by omega) trivial ?_ ?_
  · intro n _ _
    exact ⟨fun _ => l45, fun z => absurd ((le24 (c := 8) (i := 8) (by omega) (by omega)).mpr (Nat.le_refl _)) z⟩
  · intro n i _ hi _ ih
    show ((8 : Int32) ≤ nI i → _) ∧ (¬ (8 : Int32) ≤ nI i → _)
    have e1 : (100 : Int32) + nI i = nI (100 + i) := nI_add 100 i
    have h1 : (1 : Int64) = jn 1 := rfl
    rw [e1, nI_clamp (by omega), hh, nI_1, h1, jn_or (by omega) (mF_lt h i)]
    refine ⟨fun z => absurd ((le24 (c := 8) (by omega) (by omega)).mp z) (by omega), fun _ => ⟨in_nI (by omega) (by omega), fun z => ?_, fun z => ?_⟩⟩
    · have e : mF h (i + 1) = mF h i := if_pos z
      have := ih () trivial
      rw [e] at this
      exact this
    · have e : mF h (i + 1) = mF h i + 2 ^ i := if_neg z
      have := ih () trivial
      rw [e, show mF h i + 2 ^ i = 2 ^ i * 1 + mF h i from by omega] at this
      exact this
