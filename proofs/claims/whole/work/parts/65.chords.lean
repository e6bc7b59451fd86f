/-! Chords: can the first row grow, which chord is at its start -/
theorem lo_nI {x : Int32} (h : lo24 x) : ∃ X, X < 2 ^ 24 ∧ x = nI X := by
  have hx : x = nI x.toBitVec.toNat := b_ext (fun i hi => by rw [bt_nI _ hi]; rfl)
  refine ⟨x.toBitVec.toNat, Nat.lt_pow_two_of_testBit _ (fun i hi => ?_), hx⟩
  exact h i hi
theorem p_bits {x : Int32} {post : Int32 → Prop} (h : lo24 x) (hp : post (nI (sumB x))) : wp_Ji_bitCount x post := by
  obtain ⟨X, hX, e⟩ := lo_nI h
  subst e
  rw [cnt_sum hX] at hp
  exact p_bitCount hX hp
theorem q_bits {x : Int32} {post : Int32 → Prop} (hp : post (nI (sumB x))) : wp_Mo_bitsOf x post := q_bitsOf hp
theorem sumB_le (x : Int32) : sumB x ≤ 24 := by
  have h : ∀ l : List Nat, (l.map (fun k => (bt x k).toNat)).foldr (· + ·) 0 ≤ l.length := fun l => by
    induction l with
    | nil => exact Nat.le_refl _
    | cons a l ih =>
      have : (bt x a).toNat ≤ 1 := by cases bt x a <;> decide
      simp only [List.map, List.foldr, List.length]; omega
  exact h (List.range 24)
theorem and_sub (x y : Int32) : x &&& (y ^^^ (-1)) = 0 ↔ y &&& x = x := by
  constructor
  · intro h
    refine b_ext (fun i hi => ?_)
    have := congrArg (fun z => bt z i) h
    simp only [b_and, b_not _ hi, b_0] at this
    rw [b_and]
    revert this
    cases bt x i <;> cases bt y i <;> decide
  · intro h
    refine b_ext (fun i hi => ?_)
    have := congrArg (fun z => bt z i) h
    simp only [b_and] at this
    rw [b_and, b_not _ hi, b_0]
    revert this
    cases bt x i <;> cases bt y i <;> decide
def grow (ck : Nat → Int32) (ks : Int32) (n : Nat) : Prop := ∃ c, c < n ∧ ck c &&& ks = ks ∧ ck c ≠ ks
noncomputable def gw (ck : Nat → Int32) (ks : Int32) : Bool := @decide (grow ck ks 4) (Classical.propDecidable _)
theorem gw_t {ck : Nat → Int32} {ks : Int32} (h : grow ck ks 4) : gw ck ks = true := @decide_eq_true _ (Classical.propDecidable _) h
theorem gw_f {ck : Nat → Int32} {ks : Int32} (h : ¬ grow ck ks 4) : gw ck ks = false := @decide_eq_false _ (Classical.propDecidable _) h
theorem gw_congr {ck dk : Nat → Int32} {ks : Int32} (h : ∀ c, c < 4 → dk c = ck c) : gw dk ks = gw ck ks := by
  have : grow dk ks 4 = grow ck ks 4 := propext ⟨fun ⟨c, h1, h2, h3⟩ => ⟨c, h1, h c h1 ▸ h2, h c h1 ▸ h3⟩, fun ⟨c, h1, h2, h3⟩ => ⟨c, h1, (h c h1).symm ▸ h2, (h c h1).symm ▸ h3⟩⟩
  unfold gw
  rw [this]
theorem p_canGrow {S : GS} {ks : Int32} {post : Int32 → Prop} (hp : post (b2 (gw (S.1 22) ks))) : wp_Ch_canGrowFrom S ks post := by
  refine pk_loop (fun n i (_ : Unit) => L_Ch_canGrowFrom_2 S post n ks (nI i)) (fun i _ => ¬ grow (S.1 22) ks i) 4 0 () (by omega) (fun ⟨c, h, _⟩ => absurd h (by omega)) ?_ ?_
  · intro n _ h
    rw [gw_f h] at hp
    exact ⟨fun _ => hp, fun z => absurd ((le24 (c := 4) (i := 4) (by omega) (by omega)).mpr (Nat.le_refl _)) z⟩
  · intro n i _ hi h ih
    show ((4 : Int32) ≤ nI i → _) ∧ (¬ (4 : Int32) ≤ nI i → _)
    rw [nI_clamp (by omega), and_sub, nI_1]
    have hin := in_nI (n := 4) hi (by omega)
    refine ⟨fun z => absurd ((le24 (c := 4) (by omega) (by omega)).mp z) (by omega), fun _ => ⟨hin, fun z => ⟨hin, fun y => ih () ?_, fun y => ?_⟩, fun z => ih () ?_⟩⟩
    · rintro ⟨c, h1, h2, h3⟩
      rcases Nat.lt_or_ge c i with w | w
      · exact h ⟨c, w, h2, h3⟩
      · rw [show c = i from by omega] at h3; exact h3 y
    · rw [gw_t ⟨i, hi, z, y⟩] at hp; exact hp
    · rintro ⟨c, h1, h2, h3⟩
      rcases Nat.lt_or_ge c i with w | w
      · exact h ⟨c, w, h2, h3⟩
      · rw [show c = i from by omega] at h2; exact z h2
noncomputable def wts (ck : Nat → Int32) (e : Nat → Nat) (s0 now : Int32) (N m : Nat) : Bool := gw ck (keysN e m) && (decide (m = N) && (decide (N ≤ 8) && decide (¬ s0 + 9 ≤ now)))
theorem p_waits {S : GS} {e : Nat → Nat} {N m : Nat} {post : Int32 → Prop} (h : QS S e N) (hN : 0 < N) (hm : m ≤ N) (hp : post (b2 (wts (S.1 22) e (S.1 17 0) (S.1 0 0) N m))) : wp_G_waitsForChord S (nI m) post := by
  have h2 := h.2.1
  unfold wp_G_waitsForChord wp_Eq_length wp_Eq_scanAt
  have c0 : (0 : Int32).toNatClampNeg = 0 := rfl
  have h8 : (8 : Int32) < nI m ↔ 8 < m := nI_ltI (a := 8) (by omega) (by omega)
  rw [h.1, h8, c0]
  unfold wts at hp
  refine ⟨fun z => ⟨fun y => ?_, fun y => ⟨in_nI (i := 0) (by omega) (by omega), fun x => ?_, fun x => p_firstKeys h hm (p_canGrow ?_)⟩⟩, fun z => ?_⟩
  · have : m = N := Classical.byContradiction (fun w => nI_ne (by omega) (by omega) w z)
    rw [decide_eq_false (show ¬ N ≤ 8 by omega), Bool.false_and, Bool.and_false, Bool.and_false] at hp; exact hp
  · rw [decide_eq_false (show ¬ ¬ S.1 17 0 + 9 ≤ S.1 0 0 from fun w => w x), Bool.and_false, Bool.and_false, Bool.and_false] at hp; exact hp
  · have : m = N := Classical.byContradiction (fun w => nI_ne (by omega) (by omega) w z)
    rw [decide_eq_true this, decide_eq_true (show N ≤ 8 by omega), decide_eq_true x, Bool.and_true, Bool.and_true, Bool.and_true] at hp
    rw [b2_0]
    generalize gw (S.1 22) (keysN e m) = g at hp ⊢
    cases g
    · exact ⟨fun _ => hp, fun w => absurd rfl w⟩
    · exact ⟨fun w => absurd w (by decide), fun _ => hp⟩
  · rw [decide_eq_false (fun w => z (by rw [w])), Bool.false_and, Bool.and_false] at hp; exact hp
theorem q_waits {M : GS} {e : Nat → Nat} {N m : Nat} {post : Int32 → Prop} (h : QM M e N) (hN : 0 < N) (hm : m ≤ N) (hp : post (b2 (wts (M.1 21) e (M.1 15 0) (M.1 1 0) N m))) : wp_Mo_waitsForChord M (nI m) post := by
  have h2 := h.2.1
  unfold wp_Mo_waitsForChord
  refine q_keysOf h hm ?_
  refine pk_loop (fun n i (x : Bool) => L_Mo_waitsForChord_11 M post n (nI m) (keysN e m) (b2 x) (nI i)) (fun i x => x = true ↔ grow (M.1 21) (keysN e m) i) 4 0 false (by omega) ⟨fun z => absurd z (by decide), fun ⟨c, h, _⟩ => absurd h (by omega)⟩ ?_ ?_
  · intro n x hx
    show ((4 : Int32) ≤ nI 4 → _) ∧ (¬ (4 : Int32) ≤ nI 4 → _)
    refine ⟨fun _ => ?_, fun z => absurd ((le24 (c := 4) (i := 4) (by omega) (by omega)).mpr (Nat.le_refl _)) z⟩
    have c0 : (0 : Int32).toNatClampNeg = 0 := rfl
    have h8 : (8 : Int32) < nI N ↔ 8 < N := nI_ltI (a := 8) (by omega) (by omega)
    have hg : gw (M.1 21) (keysN e m) = x := by
      by_cases w : grow (M.1 21) (keysN e m) 4
      · rw [gw_t w, hx.mpr w]
      · rw [gw_f w]; cases x
        · rfl
        · exact absurd (hx.mp rfl) w
    unfold wts at hp
    rw [h.1, h8, c0, b2_0]
    rw [hg] at hp
    refine ⟨fun z => ?_, fun z => ⟨fun y => ⟨fun w => ?_, fun w => ⟨in_nI (i := 0) (by omega) (by omega), fun v => ?_, fun v => ?_⟩⟩, fun y => ?_⟩⟩
    · rw [z, Bool.false_and] at hp; exact hp
    · rw [decide_eq_false (show ¬ N ≤ 8 by omega), Bool.false_and, Bool.and_false, Bool.and_false] at hp; exact hp
    · rw [decide_eq_false (show ¬ ¬ M.1 15 0 + 9 ≤ M.1 1 0 from fun w => w v), Bool.and_false, Bool.and_false, Bool.and_false] at hp; exact hp
    · have y2 : m = N := Classical.byContradiction (fun w => nI_ne (by omega) (by omega) w y)
      rw [decide_eq_true y2, decide_eq_true (show N ≤ 8 by omega), decide_eq_true v, Bool.and_true, Bool.and_true, Bool.and_true, (by simpa using z : x = true)] at hp
      exact hp
    · rw [decide_eq_false (fun w => y (by rw [w])), Bool.false_and, Bool.and_false] at hp; exact hp
  · intro n i x hi hx ih
    show ((4 : Int32) ≤ nI i → _) ∧ (¬ (4 : Int32) ≤ nI i → _)
    unfold J_Mo_waitsForChord_45
    rw [nI_clamp (by omega), nI_1, b2_0]
    have hin := in_nI (n := 4) hi (by omega)
    refine ⟨fun z => absurd ((le24 (c := 4) (by omega) (by omega)).mp z) (by omega), fun _ => ⟨fun z => ⟨hin, fun y => ⟨hin, fun w => ih false ?_, fun w => ih true ?_⟩, fun y => ih false ?_⟩, fun z => ih true ?_⟩⟩
    · refine ⟨fun v => absurd v (by decide), fun ⟨c, h1, h2, h3⟩ => ?_⟩
      rcases Nat.lt_or_ge c i with u | u
      · exact absurd (hx.mpr ⟨c, u, h2, h3⟩) (by rw [z]; decide)
      · rw [show c = i from by omega] at h3; exact absurd w h3
    · exact ⟨fun _ => ⟨i, by omega, y, w⟩, fun _ => rfl⟩
    · refine ⟨fun v => absurd v (by decide), fun ⟨c, h1, h2, h3⟩ => ?_⟩
      rcases Nat.lt_or_ge c i with u | u
      · exact absurd (hx.mpr ⟨c, u, h2, h3⟩) (by rw [z]; decide)
      · rw [show c = i from by omega] at h2; exact absurd h2 y
    · obtain ⟨c, h1, h2⟩ := hx.mp (by simpa using z)
      exact ⟨fun _ => ⟨c, by omega, h2⟩, fun _ => rfl⟩
