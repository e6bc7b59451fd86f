/-! The store of reports, both sides -/
theorem dF_congr {h g : Nat → Int32} (e : ∀ c, c < 108 → g c = h c) : ∀ t, t ≤ 96 → dF g t = dF h t
  | 0, _ => rfl
  | t + 1, ht => by unfold dF; rw [e (4 + t) (by omega), dF_congr e t (by omega)]
theorem eF_congr {h g : Nat → Int32} (e : ∀ c, c < 108 → g c = h c) : ∀ t j, t ≤ 96 → eF g t j = eF h t j
  | 0, _, _ => rfl
  | t + 1, j, ht => by unfold eF; rw [e (4 + t) (by omega), eF_congr e t j (by omega), dF_congr e t (by omega)]
theorem mF_congr {h g : Nat → Int32} (e : ∀ c, c < 108 → g c = h c) : ∀ t, t ≤ 8 → mF g t = mF h t
  | 0, _ => rfl
  | t + 1, ht => by unfold mF; rw [e (100 + t) (by omega), mF_congr e t (by omega)]
theorem rp_congr {h g : Nat → Int32} (e : ∀ c, c < 108 → g c = h c) : rp g = rp h := funext (fun j => by
  unfold rp
  rw [mF_congr e 8 (by omega), dF_congr e 96 (by omega), eF_congr e 96 j (by omega)])
theorem q_copy {M : GS} {a b : Nat} {post : GS → Prop} (ha : a ≤ 10) (hb : b ≤ 10) (hab : a ≠ b) (hp : ∀ M', eqx [29] M M' → (∀ i, i < 7 → M'.1 29 (7 * b + i) = M.1 29 (7 * a + i)) → (∀ j, j < 7 * b ∨ 7 * b + 7 ≤ j → M'.1 29 j = M.1 29 j) → post M') : wp_Mo_copyReport M (nI a) (nI b) post := by
  refine pk_loop (fun n i (U : GS) => L_Mo_copyReport_2 post n (nI a) (nI b) (nI i) U) (fun i U => eqx [29] M U ∧ (∀ j, j < i → U.1 29 (7 * b + j) = M.1 29 (7 * a + j)) ∧ ∀ j, j < 7 * b ∨ 7 * b + 7 ≤ j → U.1 29 j = M.1 29 j) 7 0 M (by omega) ⟨eqx.rf, fun j h => absurd h (by omega), fun _ _ => rfl⟩ ?_ ?_
  · rintro n U ⟨u1, u2, u3⟩
    exact ⟨fun _ => hp U u1 u2 u3, fun z => absurd ((le24 (c := 7) (i := 7) (by omega) (by omega)).mpr (Nat.le_refl _)) z⟩
  · rintro n i U hi ⟨u1, u2, u3⟩ ih
    show ((7 : Int32) ≤ nI i → _) ∧ (¬ (7 : Int32) ≤ nI i → _)
    have e7 : ∀ x, (7 : Int32) * nI x + nI i = nI (7 * x + i) := fun x => by
      have : (7 : Int32) * nI x = nI (7 * x) := pk_mul 7 x
      rw [this, nI_add]
    rw [e7, e7, nI_clamp (by omega), nI_clamp (by omega), nI_1]
    refine ⟨fun z => absurd ((le24 (c := 7) (by omega) (by omega)).mp z) (by omega), fun _ => ⟨in_nI (by omega) (by omega), in_nI (by omega) (by omega), ih _ ⟨u1.gI (by simp) _, fun j hj => ?_, fun j hj => ?_⟩⟩⟩
    · rw [gI_s]
      by_cases e : j = i
      · rw [e, upd_s]; exact u3 _ (by omega)
      · rw [upd_n _ _ (by omega)]; exact u2 j (by omega)
    · rw [gI_s, upd_n _ _ (by omega)]; exact u3 j hj
theorem nI_inj {a b : Nat} (ha : a < 2 ^ 31) (hb : b < 2 ^ 31) : nI a = nI b ↔ a = b := ⟨fun h => Classical.byContradiction (fun w => nI_ne ha hb w h), fun h => by rw [h]⟩
theorem good_lt {r : Nat → Nat} (h : good r) (i : Nat) : r i < 256 := by
  cases i with
  | zero => exact h.1
  | succ i => have := h.2 i; omega
set_option maxHeartbeats 1000000 in
theorem q_tell {M : GS} {s : Nat} {LP : Nat → Nat} {post : GS → Prop} (h5 : M.1 5 0 = nI s) (hs : s ≤ 8) (hg : good LP) (hL : ∀ i, i < 7 → M.1 29 (56 + i) = nI (LP i))
    (k1 : (∀ i, i < 7 → rp (M.1 28) i = LP i) → ∀ M', eqx [29] M M' → (∀ j, j < 70 → M'.1 29 j = M.1 29 j) → post M')
    (k2 : ¬ (∀ i, i < 7 → rp (M.1 28) i = LP i) → s = 8 → ∀ M', eqx [6, 29] M M' → M'.1 6 0 = 1 → (∀ j, j < 70 → M'.1 29 j = M.1 29 j) → post M')
    (k3 : ¬ (∀ i, i < 7 → rp (M.1 28) i = LP i) → s < 8 → ∀ M', eqx [5, 29] M M' → M'.1 5 0 = nI (s + 1) → (∀ i, i < 7 → M'.1 29 (7 * s + i) = nI (rp (M.1 28) i)) → (∀ i, i < 7 → M'.1 29 (56 + i) = nI (rp (M.1 28) i)) → (∀ j, j < 70 → j < 7 * s ∨ 7 * s + 7 ≤ j → j < 56 ∨ 63 ≤ j → M'.1 29 j = M.1 29 j) → post M') : wp_Mo_tell M post := by
  unfold wp_Mo_tell
  refine q_make (fun T t1 t2 t3 => ?_)
  have hr := rp_good (M.1 28)
  refine pk_loop (fun n i (x : Bool) => L_Mo_tell_8 post n (b2 x) (nI i) T) (fun i x => x = true ↔ ∃ j, j < i ∧ rp (M.1 28) j ≠ LP j) 7 0 false (by omega) ⟨fun z => absurd z (by decide), fun ⟨j, w, _⟩ => absurd w (by omega)⟩ ?_ ?_
  · intro n x hx
    show ((7 : Int32) ≤ nI 7 → _) ∧ (¬ (7 : Int32) ≤ nI 7 → _)
    refine ⟨fun _ => ?_, fun z => absurd ((le24 (c := 7) (i := 7) (by omega) (by omega)).mpr (Nat.le_refl _)) z⟩
    have h58 : T.1 5 0 = (8 : Int32) ↔ s = 8 := by rw [t1.1 5 (by simp), h5]; exact nI_inj (b := 8) (by omega) (by omega)
    unfold J_Mo_tell_72
    rw [h58, b2_0]
    refine ⟨fun z => ⟨fun _ => ?_, fun w => absurd z w⟩, fun z => ⟨fun w => ?_, fun w => ⟨fun y => absurd y z, fun _ => ?_⟩⟩⟩
    · refine k1 (fun i hi => Classical.byContradiction (fun w => ?_)) T t1 t3
      have := hx.mpr ⟨i, hi, w⟩
      rw [z] at this
      exact absurd this (by decide)
    · obtain ⟨j, y1, y2⟩ := hx.mp (by simpa using z)
      exact k2 (fun y => y2 (y j y1)) w _ ((t1.up (by simp)).gI (by simp) _) (by rw [gI_s]) (by rw [gI_n _ _ (by decide)]; exact t3)
    · obtain ⟨j, y1, y2⟩ := hx.mp (by simpa using z)
      rw [t1.1 5 (by simp), h5]
      refine q_copy (a := 10) (b := s) (by omega) (by omega) (by omega) (fun U u1 u2 u3 => ?_)
      refine q_copy (a := 10) (b := 8) (by omega) (by omega) (by omega) (fun V v1 v2 v3 => ?_)
      refine k3 (fun y => y2 (y j y1)) (by omega) _ ((t1.tr (u1.tr v1)).up (by simp) |>.gI (by simp) _) ?_ (fun i hi => ?_) (fun i hi => ?_) (fun i hi l1 l2 => ?_)
      · rw [gI_s, v1.1 5 (by simp), u1.1 5 (by simp), t1.1 5 (by simp), h5, nI_1]
      · rw [gI_n _ _ (by decide), v3 _ (by omega), u2 i hi]; exact t2 i hi
      · rw [gI_n _ _ (by decide)]
        have := v2 i hi
        rw [show 7 * 8 + i = 56 + i from by omega] at this
        rw [this, u3 _ (by omega)]; exact t2 i hi
      · rw [gI_n _ _ (by decide), v3 _ (by omega), u3 _ l1]; exact t3 i hi
  · intro n i x hi hx ih
    show ((7 : Int32) ≤ nI i → _) ∧ (¬ (7 : Int32) ≤ nI i → _)
    have e1 : (70 : Int32) + nI i = nI (70 + i) := nI_add 70 i
    have e2 : (56 : Int32) + nI i = nI (56 + i) := nI_add 56 i
    have g1 := good_lt hr i
    have g2 := good_lt hg i
    unfold J_Mo_tell_39
    rw [e1, e2, nI_clamp (by omega), nI_clamp (by omega), t2 i hi, t3 (56 + i) (by omega), hL i hi, nI_inj (by omega) (by omega), nI_1, b2_0]
    refine ⟨fun z => absurd ((le24 (c := 7) (by omega) (by omega)).mp z) (by omega), fun _ => ⟨fun z => ⟨in_nI (by omega) (by omega), in_nI (by omega) (by omega), fun w => ih false ?_, fun w => ih true ?_⟩, fun z => ih true ?_⟩⟩
    · refine ⟨fun y => absurd y (by decide), fun ⟨j, y1, y2⟩ => ?_⟩
      rcases Nat.lt_or_ge j i with u | u
      · have := hx.mpr ⟨j, u, y2⟩
        rw [z] at this
        exact absurd this (by decide)
      · rw [show j = i from by omega] at y2; exact absurd w y2
    · exact ⟨fun _ => ⟨i, by omega, w⟩, fun _ => rfl⟩
    · obtain ⟨j, y1, y2⟩ := hx.mp (by simpa using z)
      exact ⟨fun _ => ⟨j, by omega, y2⟩, fun _ => rfl⟩
