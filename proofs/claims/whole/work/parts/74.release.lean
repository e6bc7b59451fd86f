theorem gI_gI (M : GS) (k : Nat) (f g : Nat → Int32) : gI (gI M k f) k g = gI M k g := by
  unfold gI
  congr 1
  funext j
  by_cases e : j = k
  · rw [if_pos e, if_pos e]
  · rw [if_neg e, if_neg e]; exact if_neg e
theorem upd_self (f : Nat → Int32) (i : Nat) : upd f i (f i) = f := funext (fun j => by
  by_cases e : j = i
  · rw [e, upd_s]
  · rw [upd_n _ _ e])
def relB (M : GS) (k j : Nat) : Bool := decide (M.1 25 k = 3) && (decide (j < 24) && (decide (M.1 25 j = 3) && decide (M.1 27 j = M.1 27 k)))
def relF (M : GS) (k i j : Nat) : Int32 := if (decide (j = k) || (decide (j < i) && relB M k j)) = true then 0 else M.1 25 j
theorem relB_t {M : GS} {k j : Nat} : relB M k j = true ↔ M.1 25 k = 3 ∧ j < 24 ∧ M.1 25 j = 3 ∧ M.1 27 j = M.1 27 k := by
  unfold relB
  rw [Bool.and_eq_true, Bool.and_eq_true, Bool.and_eq_true, decide_eq_true_iff, decide_eq_true_iff, decide_eq_true_iff, decide_eq_true_iff]
theorem relF_t {M : GS} {k i j : Nat} (h : j = k ∨ (j < i ∧ relB M k j = true)) : relF M k i j = 0 := by
  unfold relF
  rw [if_pos (by rw [Bool.or_eq_true, Bool.and_eq_true, decide_eq_true_iff, decide_eq_true_iff]; exact h)]
theorem relF_f {M : GS} {k i j : Nat} (h : ¬ (j = k ∨ (j < i ∧ relB M k j = true))) : relF M k i j = M.1 25 j := by
  unfold relF
  rw [if_neg (by rw [Bool.or_eq_true, Bool.and_eq_true, decide_eq_true_iff, decide_eq_true_iff]; exact h)]
set_option maxHeartbeats 1000000 in
theorem q_rel {M : GS} {k : Nat} {P : GS → Prop} (hk : k < 24) (h : M.1 25 k = 1 ∨ M.1 25 k = 3 → wp_Mo_change (gI M 25 (relF M k 24)) (M.1 26 k) (-1) P) (h' : ¬ (M.1 25 k = 1 ∨ M.1 25 k = 3) → P (gI M 25 (relF M k 24))) : wp_Mo_takeRelease M (nI k) P := by
  have hin := in_nI (n := 24) hk (by omega)
  have j91 : J_Mo_takeRelease_91 P (nI k) (M.1 25 k) (M.1 26 k) (M.1 27 k) (gI M 25 (relF M k 24)) := by
    unfold J_Mo_takeRelease_91 J_Mo_takeRelease_101
    exact ⟨fun z => h (Or.inl z), fun z => ⟨fun w => h (Or.inr w), fun w => h' (fun v => v.elim z w)⟩⟩
  have c1 : (nI k).toNatClampNeg = k := nI_clamp (by omega)
  unfold wp_Mo_takeRelease
  rw [c1]
  refine ⟨hin, hin, hin, hin, fun z => ?_, fun z => ?_⟩
  · have h0 : upd (M.1 25) k 0 = relF M k 0 := funext (fun j => by
      by_cases e : j = k
      · rw [e, upd_s, relF_t (Or.inl rfl)]
      · rw [upd_n _ _ e, relF_f (fun w => w.elim e (fun v => absurd v.1 (by omega)))])
    rw [h0]
    refine pk_loop (fun n i (U : GS) => L_Mo_takeRelease_37 P n (nI k) (M.1 25 k) (M.1 26 k) (M.1 27 k) (nI i) U) (fun i U => U = gI M 25 (relF M k i)) 24 0 _ (by omega) rfl ?_ ?_
    · rintro n U rfl
      exact ⟨fun _ => j91, fun y => absurd ((le24 (c := 24) (i := 24) (by omega) (by omega)).mpr (Nat.le_refl _)) y⟩
    · rintro n i U hi rfl ih
      have hin2 := in_nI (n := 24) hi (by omega)
      show ((24 : Int32) ≤ nI i → _) ∧ (¬ (24 : Int32) ≤ nI i → _)
      unfold J_Mo_takeRelease_77
      rw [nI_clamp (by omega), nI_1, gI_s, gI_n _ _ (show 27 ≠ 25 by decide), upd_self, gI_gI, gI_gI]
      have keep : ¬ (relB M k i = true ∧ i ≠ k) → relF M k i = relF M k (i + 1) := fun hn => funext (fun j => by
        by_cases e : j = k ∨ (j < i ∧ relB M k j = true)
        · rw [relF_t e, relF_t (e.elim Or.inl (fun v => Or.inr ⟨by omega, v.2⟩))]
        · rw [relF_f e, relF_f (fun v => e (v.elim Or.inl (fun w => ?_)))]
          by_cases u : j = i
          · by_cases uk : j = k
            · exact Or.inl uk
            · exact absurd ⟨by rw [← u]; exact w.2, by rw [← u]; exact uk⟩ hn
          · exact Or.inr ⟨by omega, w.2⟩)
      refine ⟨fun y => absurd ((le24 (c := 24) (by omega) (by omega)).mp y) (by omega), fun _ => ⟨hin2, fun y => ⟨hin2, fun w => ⟨hin2, ih _ ?_⟩, fun w => ⟨hin2, hin2, ih _ ?_⟩⟩, fun y => ⟨hin2, hin2, ih _ ?_⟩⟩⟩
      · have hik : i ≠ k := fun u => by
          rw [relF_t (Or.inl u)] at y; exact absurd y (by decide)
        have hik2 : M.1 25 i = 3 := by
          rw [relF_f (fun v => v.elim hik (fun u => absurd u.1 (by omega)))] at y; exact y
        congr 1
        funext j
        by_cases e : j = i
        · rw [e, upd_s, relF_t (Or.inr ⟨by omega, relB_t.mpr ⟨z, hi, hik2, w⟩⟩)]
        · rw [upd_n _ _ e]
          by_cases f : j = k ∨ (j < i ∧ relB M k j = true)
          · rw [relF_t f, relF_t (f.elim Or.inl (fun v => Or.inr ⟨by omega, v.2⟩))]
          · rw [relF_f f, relF_f (fun v => f (v.elim Or.inl (fun u => Or.inr ⟨by omega, u.2⟩)))]
      · rw [keep (fun v => w (relB_t.mp v.1).2.2.2)]
      · rw [keep (fun v => ?_)]
        rw [relF_f (fun u => u.elim v.2 (fun t => absurd t.1 (by omega)))] at y
        exact y (relB_t.mp v.1).2.2.1
  · have h0 : upd (M.1 25) k 0 = relF M k 24 := funext (fun j => by
      by_cases e : j = k
      · rw [e, upd_s, relF_t (Or.inl rfl)]
      · rw [upd_n _ _ e, relF_f (fun w => w.elim e (fun v => z (relB_t.mp v.2).1))])
    rw [h0]
    exact j91
theorem bt_bit {k j : Nat} (hk : k < 24) (hj : j < 24) : bt (bit k) j = decide (j = k) := b_one (by omega) (by omega)
/-- the holds after a release -/
theorem RH.rel {S M S' : GS} {C k : Nat} {dn : Nat → Bool} (hk : k < 24) (h : RH S M C dn) (s8 : S'.1 8 = S.1 8) (s9 : S'.1 9 = S.1 9) (s24 : ∀ l, l < 4 → S'.1 24 l = S.1 24 l &&& (bit k ^^^ (-1))) (s25 : ∀ j, j < 24 → S'.1 25 j = if (decide (j = k) || relB M k j) = true then 0 else S.1 25 j) (s26 : ∀ j, j < 24 → (decide (j = k) || relB M k j) = false → S'.1 26 j = S.1 26 j) : RH S' (gI M 25 (relF M k 24)) C (fun j => if k = j then false else dn j) := by
  obtain ⟨h1, ⟨⟨c, hc1, hc2, hc3⟩, h2⟩, h3⟩ := h
  have hF : ∀ j, j < 24 → ((decide (j = k) || relB M k j) = true ∧ relF M k 24 j = 0) ∨ ((decide (j = k) || relB M k j) = false ∧ relF M k 24 j = M.1 25 j ∧ j ≠ k ∧ relB M k j = false) := fun j hj => by
    by_cases e : j = k
    · exact Or.inl ⟨by simp [e], relF_t (Or.inl e)⟩
    · cases hb : relB M k j
      · exact Or.inr ⟨by simp [e], relF_f (fun w => w.elim e (fun v => by rw [hb] at v; exact absurd v.2 (by decide))), e, rfl⟩
      · exact Or.inl ⟨by simp, relF_t (Or.inr ⟨hj, hb⟩)⟩
  refine ⟨fun l hl => ?_, ⟨⟨c, hc1, ?_, fun j hj w => ?_⟩, fun j hj => ?_⟩, fun j hj w => ?_⟩
  · obtain ⟨a1, a2, a3, a4⟩ := h1 l hl
    rw [gI_n _ _ (by decide), gI_n _ _ (by decide), gI_s, gI_n _ _ (by decide), s8, s9, s24 l hl]
    refine ⟨a1, a2, lo_and _ a3, fun j hj => ?_⟩
    rw [b_and, b_not _ (by omega), bt_bit hk hj]
    rcases hF j hj with ⟨f1, f2⟩ | ⟨f1, f2, f3, f4⟩
    · rw [f2]
      refine ⟨fun w => ?_, fun w => absurd w.1 (by decide)⟩
      rw [Bool.and_eq_true] at w
      have hjk : j ≠ k := by simpa using w.2
      have hb : relB M k j = true := by simpa [hjk] using f1
      have := ((a4 j hj).mp w.1).1
      rw [(relB_t.mp hb).2.2.1] at this
      exact absurd this (by decide)
    · rw [f2, ← a4 j hj]
      simp [f3]
  · rw [gI_n _ _ (by decide)]; exact hc2
  · rw [gI_s] at w
    rw [gI_n _ _ (by decide)]
    rcases hF j hj with ⟨f1, f2⟩ | ⟨f1, f2, f3, f4⟩
    · rw [f2] at w; exact absurd w (by decide)
    · rw [f2] at w; exact hc3 j hj w
  · rw [gI_s, gI_n _ _ (by decide), gI_n _ _ (by decide), s25 j hj]
    rcases hF j hj with ⟨f1, f2⟩ | ⟨f1, f2, f3, f4⟩
    · rw [f2, f1, if_pos rfl]
      exact ⟨Or.inl rfl, fun w => w.elim (fun v => absurd v (by decide)) (fun v => absurd v (by decide)), fun _ => rfl, fun w => absurd w (by decide), fun w => absurd w (by decide)⟩
    · obtain ⟨b1, b2', b3, b4, b5⟩ := h2 j hj
      rw [f2, f1, if_neg (by decide), s26 j hj f1]
      refine ⟨b1, b2', b3, b4, fun w => ⟨(b5 w).1, fun i hi => ?_⟩⟩
      rw [(b5 w).2 i hi]
      rcases hF i hi with ⟨g1, g2⟩ | ⟨g1, g2, _, _⟩
      · rw [g2]
        refine ⟨fun v => ?_, fun v => absurd v.1 (by decide)⟩
        exfalso
        have hb : relB M k j = true := by
          by_cases e : i = k
          · rw [e] at v
            exact relB_t.mpr ⟨v.1, hj, w, v.2.symm⟩
          · have hbi : relB M k i = true := by simpa [e] using g1
            obtain ⟨t1, _, _, t4⟩ := relB_t.mp hbi
            exact relB_t.mpr ⟨t1, hj, w, v.2.symm.trans t4⟩
        rw [hb] at f4
        exact absurd f4 (by decide)
      · rw [g2]
  · rw [gI_s] at w
    rcases hF j hj with ⟨f1, f2⟩ | ⟨f1, f2, f3, f4⟩
    · rw [f2] at w; exact absurd rfl w
    · rw [f2] at w
      show (if k = j then false else dn j) = true
      rw [if_neg (fun v : k = j => f3 v.symm)]; exact h3 j hj w
