theorem nI_or1 {a p : Nat} (hp : p < 32) (ha : a < 2 ^ p) : nI a ||| ((1 : Int32) <<< (nI p &&& 31)) = nI (2 ^ p * 1 + a) := b_ext (fun i hi => by
  rw [b_or, bt_nI _ hi, b_one hp hi, bt_nI _ hi, Nat.testBit_two_pow_mul_add _ ha]
  by_cases h : i < p
  · rw [if_pos h, decide_eq_false (by omega), Bool.or_false]
  · have : a.testBit i = false := Nat.testBit_lt_two_pow (Nat.lt_of_lt_of_le ha (Nat.pow_le_pow_right (by omega) (by omega)))
    rw [if_neg h, this, Bool.false_or, show (1 : Nat) = 2 ^ 0 from rfl, Nat.testBit_two_pow]
    by_cases e : i = p
    · rw [decide_eq_true e, decide_eq_true (by omega)]
    · rw [decide_eq_false e, decide_eq_false (by omega)])
set_option maxHeartbeats 2000000 in
theorem q_make {M : GS} {post : GS → Prop} (hp : ∀ M', eqx [29] M M' → (∀ j, j < 7 → M'.1 29 (70 + j) = nI (rp (M.1 28) j)) → (∀ j, j < 70 → M'.1 29 j = M.1 29 j) → post M') : wp_Mo_makeReport M post := by
  generalize hh : M.1 28 = h at hp
  have e70 : ∀ i, (70 : Int32) + nI i = nI (70 + i) := fun i => nI_add 70 i
  have j136 : ∀ x2 x3 T, eqx [29] M T → (∀ j, j < 6 → T.1 29 (70 + (j + 1)) = nI (rp h (j + 1))) → (∀ j, j < 70 → T.1 29 j = M.1 29 j) → J_Mo_makeReport_136 post (nI (mF h 8)) x2 x3 T := fun x2 x3 T g1 g2 g3 => by
    refine ⟨in_nI (i := 70) (by omega) (by omega), hp _ (g1.gI (by simp) _) (fun j hj => ?_) (fun j hj => ?_)⟩
    · rw [gI_s]
      show upd (T.1 29) 70 (nI (mF h 8)) (70 + j) = _
      cases j with
      | zero => exact upd_s _ _ _
      | succ j => rw [upd_n _ _ (by omega)]; exact g2 j (by omega)
    · rw [gI_s]
      show upd (T.1 29) 70 (nI (mF h 8)) j = _
      rw [upd_n _ _ (by omega)]; exact g3 j hj
  have l108 : ∀ T, eqx [29] M T → (∀ j, j < 6 → T.1 29 (70 + (j + 1)) = nI (eF h 96 (j + 1))) → (∀ j, j < 70 → T.1 29 j = M.1 29 j) → ∃ n, L_Mo_makeReport_108 post n (nI (mF h 8)) (nI (dF h 96)) 1 T := fun T g1 g2 g3 => by
    have hle := dF_le h 96
    have h6 : nI (dF h 96) ≤ (6 : Int32) ↔ dF h 96 ≤ 6 := le24 (i := 6) (by omega) (by omega)
    by_cases w : 6 < dF h 96
    · refine pk_loop (fun n i (U : GS) => L_Mo_makeReport_108 post n (nI (mF h 8)) (nI (dF h 96)) (nI i) U) (fun i U => eqx [29] M U ∧ (∀ j, j < 6 → j + 1 < i → U.1 29 (70 + (j + 1)) = 1) ∧ ∀ j, j < 70 → U.1 29 j = M.1 29 j) 7 1 T (by omega) ⟨g1, fun j _ hj => absurd hj (by omega), g3⟩ ?_ ?_
      · rintro n U ⟨u1, u2, u3⟩
        refine ⟨fun _ => j136 _ _ U u1 (fun j hj => ?_) u3, fun z => absurd ((le24 (c := 7) (i := 7) (by omega) (by omega)).mpr (Nat.le_refl _)) z⟩
        rw [u2 j hj (by omega)]
        unfold rp
        rw [if_neg (by omega), if_pos w]; rfl
      · rintro n i U hi ⟨u1, u2, u3⟩ ih
        show ((7 : Int32) ≤ nI i → _) ∧ (¬ (7 : Int32) ≤ nI i → _)
        rw [h6, e70, nI_clamp (by omega), nI_1]
        refine ⟨fun z => absurd ((le24 (c := 7) (by omega) (by omega)).mp z) (by omega), fun _ => ⟨fun z => absurd z (by omega), fun _ => ⟨in_nI (by omega) (by omega), ih _ ⟨u1.gI (by simp) _, fun j hj hj2 => ?_, fun j hj => ?_⟩⟩⟩⟩
        · rw [gI_s]
          by_cases e : j + 1 = i
          · rw [e, upd_s]
          · rw [upd_n _ _ (by omega)]; exact u2 j hj (by omega)
        · rw [gI_s, upd_n _ _ (by omega)]; exact u3 j hj
    · refine ⟨1, ?_⟩
      have hrp : ∀ j, j < 6 → T.1 29 (70 + (j + 1)) = nI (rp h (j + 1)) := fun j hj => by
        rw [g2 j hj]
        unfold rp
        rw [if_neg (by omega), if_neg w]
      exact ⟨fun _ => j136 _ _ T g1 hrp g3, fun _ => ⟨fun _ => j136 _ _ T g1 hrp g3, fun z => absurd (h6.mpr (by omega)) z⟩⟩
  have l30 : ∀ T, eqx [29] M T → (∀ j, j < 6 → T.1 29 (70 + (j + 1)) = 0) → (∀ j, j < 70 → T.1 29 j = M.1 29 j) → ∃ n, L_Mo_makeReport_30 post n 0 0 4 T := fun T g1 g2 g3 => by
    refine pk_loop (fun n t (U : GS) => L_Mo_makeReport_30 post n (nI (mF h (t - 96))) (nI (dF h (min t 96))) (nI (4 + t)) U) (fun t U => eqx [29] M U ∧ (∀ j, j < 6 → U.1 29 (70 + (j + 1)) = nI (eF h (min t 96) (j + 1))) ∧ ∀ j, j < 70 → U.1 29 j = M.1 29 j) 104 0 T (by omega) ⟨g1, fun j hj => by rw [g2 j hj]; rfl, g3⟩ ?_ ?_
    · rintro n U ⟨u1, u2, u3⟩
      exact ⟨fun _ => l108 U u1 u2 u3, fun z => absurd ((le24 (c := 108) (i := 108) (by omega) (by omega)).mpr (Nat.le_refl _)) z⟩
    · rintro n t U ht ⟨u1, u2, u3⟩ ih
      show ((108 : Int32) ≤ nI (4 + t) → _) ∧ (¬ (108 : Int32) ≤ nI (4 + t) → _)
      have hlt : nI (4 + t) < (100 : Int32) ↔ 4 + t < 100 := nI_ltI (b := 100) (by omega) (by omega)
      have hge : (100 : Int32) ≤ nI (4 + t) ↔ 100 ≤ 4 + t := le24 (c := 100) (by omega) (by omega)
      rw [nI_clamp (by omega), u1.1 28 (by simp), hh, hlt]
      unfold J_Mo_makeReport_63 J_Mo_makeReport_77
      rw [hge, nI_1, nI_1]
      refine ⟨fun z => absurd ((le24 (c := 108) (by omega) (by omega)).mp z) (by omega), fun _ => ⟨in_nI (by omega) (by omega), ?_⟩⟩
      rcases Nat.lt_or_ge t 96 with w | w
      · have hle := dF_le h t
        have a1 : min t 96 = t := by omega
        have a2 : min (t + 1) 96 = t + 1 := by omega
        have a3 : t - 96 = 0 := by omega
        have a4 : t + 1 - 96 = 0 := by omega
        rw [a1, a3]
        rw [a1] at u2
        rw [a2, a4] at ih
        refine ⟨fun z => ?_, fun z => ⟨fun _ => ⟨fun y => absurd y (by omega), fun _ => ⟨fun y => absurd y (by omega), fun _ => ?_⟩⟩, fun y => absurd (by omega) y⟩⟩
        · have e1 : dF h (t + 1) = dF h t := if_pos z
          have e2 : eF h (t + 1) = eF h t := funext (fun j => if_pos z)
          have := ih U ⟨u1, by rw [e2]; exact u2, u3⟩
          rw [e1] at this
          exact this
        · have e1 : dF h (t + 1) = dF h t + 1 := if_neg z
          have e2 : ∀ j, eF h (t + 1) j = if j = dF h t + 1 then 4 + t else eF h t j := fun j => if_neg z
          have h7 : (7 : Int32) ≤ nI (dF h t + 1) ↔ 7 ≤ dF h t + 1 := le24 (c := 7) (by omega) (by omega)
          rw [h7, e70, nI_clamp (by omega)]
          refine ⟨fun y => ?_, fun y => ⟨in_nI (by omega) (by omega), ?_⟩⟩
          · have := ih U ⟨u1, fun j hj => by rw [e2, if_neg (by omega)]; exact u2 j hj, u3⟩
            rw [e1] at this
            exact this
          · have := ih (gI U 29 (upd (U.1 29) (70 + (dF h t + 1)) (nI (4 + t)))) ⟨u1.gI (by simp) _, fun j hj => ?_, fun j hj => ?_⟩
            · rw [e1] at this
              exact this
            · rw [gI_s, e2]
              by_cases e : j = dF h t
              · rw [e, upd_s, if_pos rfl]
              · rw [upd_n _ _ (by omega), if_neg (by omega)]; exact u2 j hj
            · rw [gI_s, upd_n _ _ (by omega)]; exact u3 j hj
      · have a1 : min t 96 = 96 := by omega
        have a2 : min (t + 1) 96 = 96 := by omega
        have a4 : t + 1 - 96 = (t - 96) + 1 := by omega
        have a5 : 4 + t = 100 + (t - 96) := by omega
        rw [a1]
        rw [a1] at u2
        rw [a2, a4] at ih
        have hs : nI (4 + t) - (100 : Int32) = nI (t - 96) := by
          have : nI (4 + t) - (100 : Int32) = nI (4 + t - 100) := pk_sub (b := 100) (by omega)
          rw [this]; congr 1; omega
        have := ih U ⟨u1, u2, u3⟩
        refine ⟨fun z => ?_, fun z => ⟨fun y => absurd y (by omega), fun _ => ⟨fun _ => ⟨fun _ => ?_, fun y => absurd (by omega) y⟩, fun y => absurd (by omega) y⟩⟩⟩
        · have e : mF h (t - 96 + 1) = mF h (t - 96) := if_pos (by rw [← a5]; exact z)
          rw [e] at this
          exact this
        · have e : mF h (t - 96 + 1) = mF h (t - 96) + 2 ^ (t - 96) := if_neg (by rw [← a5]; exact z)
          rw [e, show mF h (t - 96) + 2 ^ (t - 96) = 2 ^ (t - 96) * 1 + mF h (t - 96) from by omega] at this
          rw [hs, nI_or1 (by omega) (mF_lt h _)]
          exact this
  refine pk_loop (fun n i (U : GS) => L_Mo_makeReport_6 post n 0 0 (nI i) U) (fun i U => eqx [29] M U ∧ (∀ j, j < 6 → j + 1 < i → U.1 29 (70 + (j + 1)) = 0) ∧ ∀ j, j < 70 → U.1 29 j = M.1 29 j) 7 1 M (by omega) ⟨eqx.rf, fun j _ hj => absurd hj (by omega), fun _ _ => rfl⟩ ?_ ?_
  · rintro n U ⟨u1, u2, u3⟩
    exact ⟨fun _ => l30 U u1 (fun j hj => u2 j hj (by omega)) u3, fun z => absurd ((le24 (c := 7) (i := 7) (by omega) (by omega)).mpr (Nat.le_refl _)) z⟩
  · rintro n i U hi ⟨u1, u2, u3⟩ ih
    show ((7 : Int32) ≤ nI i → _) ∧ (¬ (7 : Int32) ≤ nI i → _)
    rw [e70, nI_clamp (by omega), nI_1]
    refine ⟨fun z => absurd ((le24 (c := 7) (by omega) (by omega)).mp z) (by omega), fun _ => ⟨in_nI (by omega) (by omega), ih _ ⟨u1.gI (by simp) _, fun j hj hj2 => ?_, fun j hj => ?_⟩⟩⟩
    · rw [gI_s]
      by_cases e : j + 1 = i
      · rw [e, upd_s]
      · rw [upd_n _ _ (by omega)]; exact u2 j hj (by omega)
    · rw [gI_s, upd_n _ _ (by omega)]; exact u3 j hj
