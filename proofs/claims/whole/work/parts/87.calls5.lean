section LC5
variable {xs : Nat → Int32} {k n : Nat} {K : GS → GS → (Nat → Int64) → Prop} {S M : GS} {o : Nat → Int64}
theorem lay_iff {p : Int32} : lay p ↔ ¬ p < 1 ∧ ¬ (3 : Int32) < p := by
  constructor
  · rintro ⟨w, w1, w2, rfl⟩
    exact ⟨fun z => absurd ((nI_ltI (b := 1) (by omega) (by omega)).mp z) (by omega), fun z => absurd ((nI_ltI (a := 3) (by omega) (by omega)).mp z) (by omega)⟩
  · rintro ⟨h0, h1⟩
    have h2 : (1 : Int32).toInt = 1 := by decide
    have h3 : (3 : Int32).toInt = 3 := by decide
    rw [Int32.lt_iff_toInt_lt, h2] at h0
    rw [Int32.lt_iff_toInt_lt, h3] at h1
    refine ⟨p.toInt.toNat, by omega, by omega, Int32.toInt_inj.mp ?_⟩
    rw [nI_toInt (by omega)]
    omega
theorem ge4 {p : Int32} : (4 : Int32) ≤ p ↔ (3 : Int32) < p := by
  have h2 : (4 : Int32).toInt = 4 := by decide
  have h3 : (3 : Int32).toInt = 3 := by decide
  rw [Int32.le_iff_toInt_le, Int32.lt_iff_toInt_lt, h2, h3]
  omega
theorem lay_g {p : Int32} {post : Int32 → Prop} (h1 : lay p → post 1) (h0 : ¬ lay p → post 0) : wp_G_isUpperLayer p post :=
  ⟨fun z => h0 (fun c => (lay_iff.mp c).1 z), fun z => ⟨fun y => h0 (fun c => (lay_iff.mp c).2 (ge4.mp y)), fun y => h1 (lay_iff.mpr ⟨z, fun w => y (ge4.mpr w)⟩)⟩⟩
theorem nar0 : narrow .boolean (.int 0) = .int 0 := nar_ok false
theorem nar1 : narrow .boolean (.int 1) = .int 1 := nar_ok true
theorem okA_1 {a b : Int32} : okA 1 a b ↔ cod a := by unfold okA; constructor
                                                      · intro h; rcases h with z | z | z | z | z | z | z <;> first | exact z.2 | exact absurd z (by decide) | exact absurd z.1 (by decide)
                                                      · exact fun h => Or.inr (Or.inl ⟨rfl, h⟩)
theorem okA_l {x a b : Int32} (hx : x = 2 ∨ x = 3 ∨ x = 4) : okA x a b ↔ lay a := by
  unfold okA
  rcases hx with rfl | rfl | rfl
  · exact ⟨fun h => by rcases h with z | z | z | z | z | z | z <;> first | exact absurd z (by decide) | exact absurd z.1 (by decide) | exact z.2, fun h => Or.inr (Or.inr (Or.inl ⟨rfl, h⟩))⟩
  · exact ⟨fun h => by rcases h with z | z | z | z | z | z | z <;> first | exact absurd z (by decide) | exact absurd z.1 (by decide) | exact z.2, fun h => Or.inr (Or.inr (Or.inr (Or.inl ⟨rfl, h⟩)))⟩
  · exact ⟨fun h => by rcases h with z | z | z | z | z | z | z <;> first | exact absurd z (by decide) | exact absurd z.1 (by decide) | exact z.2, fun h => Or.inr (Or.inr (Or.inr (Or.inr (Or.inl ⟨rfl, h⟩))))⟩
theorem okA_5 {a b : Int32} : okA 5 a b ↔ cod a ∧ lay b := by
  unfold okA
  exact ⟨fun h => by rcases h with z | z | z | z | z | z | z <;> first | exact absurd z (by decide) | exact absurd z.1 (by decide) | exact z.2, fun h => Or.inr (Or.inr (Or.inr (Or.inr (Or.inr (Or.inl ⟨rfl, h⟩)))))⟩
theorem okA_6 {a b : Int32} : okA 6 a b ↔ ∃ m, m < 4 ∧ a = nI m := by
  unfold okA
  exact ⟨fun h => by rcases h with z | z | z | z | z | z | z <;> first | exact absurd z (by decide) | exact absurd z.1 (by decide) | exact z.2, fun h => Or.inr (Or.inr (Or.inr (Or.inr (Or.inr (Or.inr ⟨rfl, h⟩)))))⟩
theorem okA_n {x a b : Int32} (h0 : ¬ x = 0) (h1 : ¬ x = 1) (h2 : ¬ x = 2) (h3 : ¬ x = 3) (h4 : ¬ x = 4) (h5 : ¬ x = 5) (h6 : ¬ x = 6) : ¬ okA x a b := by
  unfold okA
  intro h
  rcases h with z | z | z | z | z | z | z <;> simp_all
theorem act_g {x a b : Int32} {post : Int32 → Prop} (h1 : okA x a b → post 1) (h0 : ¬ okA x a b → post 0) : wp_G_isAction x a b post := by
  have j51 : ∀ {x}, (x = 2 ∨ x = 3 ∨ x = 4) → (okA x a b → post 1) → (¬ okA x a b → post 0) → J_G_isAction_51 post x a b := fun {x} hx u v => lay_g (fun c => ⟨nar1, u ((okA_l hx).mpr c)⟩) (fun c => ⟨nar0, v (fun y => c ((okA_l hx).mp y))⟩)
  refine ⟨fun z => h1 (Or.inl z), fun z0 => ⟨fun z => ?_, fun z1 => ⟨fun z => j51 (Or.inl z) h1 h0, fun z2 => ⟨fun z => j51 (Or.inr (Or.inl z)) h1 h0, fun z3 => ⟨fun z => j51 (Or.inr (Or.inr z)) h1 h0, fun z4 => ⟨fun z => ?_, fun z5 => ⟨fun z => ?_, fun z6 => h0 (okA_n z0 z1 z2 z3 z4 z5 z6)⟩⟩⟩⟩⟩⟩⟩
  · subst z
    exact code_g (fun c => ⟨nar1, h1 (okA_1.mpr c)⟩) (fun c => ⟨nar0, h0 (fun y => c (okA_1.mp y))⟩)
  · subst z
    exact code_g (fun c => ⟨fun y => absurd y (by decide), fun _ => lay_g (fun l => ⟨fun y => absurd y (by decide), fun _ => h1 (okA_5.mpr ⟨c, l⟩)⟩) (fun l => ⟨fun _ => h0 (fun y => l (okA_5.mp y).2), fun y => absurd rfl y⟩)⟩) (fun c => ⟨fun _ => h0 (fun y => c (okA_5.mp y).1), fun y => absurd rfl y⟩)
  · subst z
    refine ⟨fun y => h0 (fun w => ?_), fun y => ⟨fun w => h0 (fun v => ?_), fun w => h1 (okA_6.mpr (in_rng (b := 4) (by omega) y (Int32.not_le.mp w)))⟩⟩
    · obtain ⟨m, m1, rfl⟩ := okA_6.mp w
      exact ne_neg m (by omega) y
    · obtain ⟨m, m1, rfl⟩ := okA_6.mp v
      exact absurd ((le24 (c := 4) (by omega) (by omega)).mp w) (by omega)
theorem act_m {x a b : Int32} {post : Int32 → Prop} (h1 : okA x a b → post 1) (h0 : ¬ okA x a b → post 0) : wp_Mo_isSound x a b post := by
  have j15 : ∀ g : Bool, (g = true ↔ lay a) → J_Mo_isSound_15 post x a b (b2 g) := fun g hg => by
    have jl : (x = 2 ∨ x = 3 ∨ x = 4) → (narrow .boolean (.int (b2 g)) = .int (b2 g) ∧ post (b2 g)) := fun hx => by
      refine ⟨nar_ok g, ?_⟩
      cases g
      · exact h0 (fun y => absurd (hg.mpr ((okA_l hx).mp y)) (by decide))
      · exact h1 ((okA_l hx).mpr (hg.mp rfl))
    refine ⟨fun z => h1 (Or.inl z), fun z0 => ⟨fun z => ?_, fun z1 => ⟨fun z => jl (Or.inl z), fun z2 => ⟨fun z => jl (Or.inr (Or.inl z)), fun z3 => ⟨fun z => jl (Or.inr (Or.inr z)), fun z4 => ⟨fun z => ?_, fun z5 => ⟨fun z => ?_, fun z6 => h0 (okA_n z0 z1 z2 z3 z4 z5 z6)⟩⟩⟩⟩⟩⟩⟩
    · subst z
      exact code_m (fun c => ⟨nar1, h1 (okA_1.mpr c)⟩) (fun c => ⟨nar0, h0 (fun y => c (okA_1.mp y))⟩)
    · subst z
      exact code_m (fun c => ⟨fun y => absurd y (by decide), fun _ => ⟨fun y => h0 (fun w => (lay_iff.mp (okA_5.mp w).2).1 y), fun y => ⟨fun w => h0 (fun v => (lay_iff.mp (okA_5.mp v).2).2 w), fun w => h1 (okA_5.mpr ⟨c, lay_iff.mpr ⟨y, w⟩⟩)⟩⟩⟩) (fun c => ⟨fun _ => h0 (fun y => c (okA_5.mp y).1), fun y => absurd rfl y⟩)
    · subst z
      exact isFour_is (fun y => ⟨nar1, h1 (okA_6.mpr y)⟩) (fun y => ⟨nar0, h0 (fun w => y (okA_6.mp w))⟩)
  exact ⟨fun z => j15 false ⟨fun y => absurd y (by decide), fun y => absurd z (lay_iff.mp y).1⟩, fun z => ⟨fun y => j15 false ⟨fun w => absurd w (by decide), fun w => absurd y (lay_iff.mp w).2⟩, fun y => j15 true ⟨fun _ => lay_iff.mpr ⟨z, y⟩, fun _ => rfl⟩⟩⟩
theorem rc_8 (h : Rel S M n) (hK : ∀ S' M' o', Rel S' M' (n + 100) → K S' M' o') : LC_8 xs k K S M o := by
  unfold LC_8 wpH_Lw_map
  generalize xs (6 * k + 1) = p
  generalize xs (6 * k + 2) = i
  generalize xs (6 * k + 3) = x
  generalize xs (6 * k + 4) = a
  generalize xs (6 * k + 5) = b
  obtain ⟨x1, x2, x3⟩ := h.rkm
  have h18 : ∀ (P : GS → Prop), P (gI M 0 (fun _ => 1)) → J_Mo_map_18 P p i x a b M := fun P hP => by
    unfold J_Mo_map_18 J_Mo_map_19 J_Mo_map_47
    exact ⟨fun _ => ref_1 ⟨fun z => absurd z (by decide), fun _ => hP⟩, fun z => absurd rfl z⟩
  have hfin1 : wp_Mo_thrown (gI M 0 (fun _ => 1)) (fun r => ((r = 1 → K S (gI M 0 (fun _ => 1)) o) ∧ (¬ r = 1 → False))) := ⟨fun _ => hK _ _ _ ((h.f _).mono (by omega)), fun y => absurd (by show (gI M 0 (fun _ => 1)).1 0 0 = 1; rw [gI_s]) y⟩
  have hfin2 : wp_Mo_thrown (gI M 0 (fun _ => 2)) (fun r => ((r = 2 → K S (gI M 0 (fun _ => 2)) o) ∧ (¬ r = 2 → False))) := ⟨fun _ => hK _ _ _ ((h.f _).mono (by omega)), fun y => absurd (by show (gI M 0 (fun _ => 2)).1 0 0 = 2; rw [gI_s]) y⟩
  by_cases hp : ∃ q, q < 4 ∧ p = nI q
  · obtain ⟨q, q1, rfl⟩ := hp
    by_cases hi : ∃ j, j < 24 ∧ i = nI j
    · obtain ⟨j, j1, rfl⟩ := hi
      have hin := in_nI (i := 24 * q + j) (n := 96) (by omega) (by omega)
      have cc : (nI (24 * q + j)).toNatClampNeg = 24 * q + j := nI_clamp (by omega)
      by_cases hv : okA x a b
      · refine Or.inl (reqLayer_ok q1 (reqKey_ok j1 (act_g (fun _ => ⟨fun z => absurd z (by decide), fun _ => ?_⟩) (fun z => absurd hv z))))
        unfold wp_Km_setAction
        rw [pl_1, cc]
        refine ⟨hin, hin, hin, isFour_is (fun _ => ⟨fun z => absurd z (by decide), fun _ => isKey_is (fun _ => ⟨fun z => absurd z (by decide), fun _ => ⟨fun z => absurd z (by decide), fun _ => act_m (fun _ => ⟨fun z => absurd z (by decide), fun _ => ref_0 ⟨fun _ => ?_, fun z => absurd rfl z⟩⟩) (fun z => absurd hv z)⟩⟩) (fun z => absurd ⟨j, j1, rfl⟩ z)⟩) (fun z => absurd ⟨q, q1, rfl⟩ z)⟩
        rw [pl_2, cc]
        refine ⟨hin, hin, hin, fun _ => hK _ _ _ ((h.km (((eqx.rf.gI (by simp) _).gI (by simp) _).gI (by simp) _) ((((eqx.rf.gI (by simp) _).gI (by simp) _).gI (by simp) _).gI (by simp) _) ⟨fun z hz => ?_, ?_, ?_⟩).mono (by omega)), fun y => absurd ?_ y⟩
        · simp only [gI_s, gI_n _ _ (show 18 ≠ 19 by decide), gI_n _ _ (show 18 ≠ 20 by decide), gI_n _ _ (show 19 ≠ 20 by decide), gI_n _ _ (show 17 ≠ 18 by decide), gI_n _ _ (show 17 ≠ 19 by decide), gI_n _ _ (show 17 ≠ 0 by decide), gI_n _ _ (show 18 ≠ 0 by decide), gI_n _ _ (show 19 ≠ 0 by decide)]
          by_cases ez : z = 24 * q + j
          · rw [ez, upd_s, upd_s, upd_s, upd_s, upd_s, upd_s]; exact ⟨rfl, rfl, rfl, hv⟩
          · rw [upd_n _ _ ez, upd_n _ _ ez, upd_n _ _ ez, upd_n _ _ ez, upd_n _ _ ez, upd_n _ _ ez]; exact x1 z hz
        · simp only [gI_n _ _ (show 21 ≠ 18 by decide), gI_n _ _ (show 21 ≠ 19 by decide), gI_n _ _ (show 21 ≠ 20 by decide), gI_n _ _ (show 20 ≠ 17 by decide), gI_n _ _ (show 20 ≠ 18 by decide), gI_n _ _ (show 20 ≠ 19 by decide), gI_n _ _ (show 20 ≠ 0 by decide)]
          exact x2
        · simp only [gI_n _ _ (show 22 ≠ 18 by decide), gI_n _ _ (show 22 ≠ 19 by decide), gI_n _ _ (show 22 ≠ 20 by decide), gI_n _ _ (show 23 ≠ 18 by decide), gI_n _ _ (show 23 ≠ 19 by decide), gI_n _ _ (show 23 ≠ 20 by decide), gI_n _ _ (show 21 ≠ 17 by decide), gI_n _ _ (show 21 ≠ 18 by decide), gI_n _ _ (show 21 ≠ 19 by decide), gI_n _ _ (show 21 ≠ 0 by decide), gI_n _ _ (show 22 ≠ 17 by decide), gI_n _ _ (show 22 ≠ 0 by decide)]
          exact x3
        · show (gI (gI (gI (gI M 0 (fun _ => 0)) 17 _) 18 _) 19 _).1 0 0 = 0
          rw [gI_n _ _ (by decide), gI_n _ _ (by decide), gI_n _ _ (by decide), gI_s]
      · have hE : wpT_G_map S (nI q) (nI j) x a b eA := Or.inr (reqLayer_ok q1 (Or.inr (reqKey_ok j1 (act_g (fun z => absurd z hv) (fun _ => ⟨fun _ => rfl, fun z => absurd rfl z⟩)))))
        refine Or.inr (Or.inr ⟨hE, isFour_is (fun _ => ⟨fun z => absurd z (by decide), fun _ => isKey_is (fun _ => ⟨fun z => absurd z (by decide), fun _ => ⟨fun z => absurd z (by decide), fun _ => act_m (fun z => absurd z hv) (fun _ => ⟨fun _ => ref_2 ⟨fun z => absurd z (by decide), fun _ => hfin2⟩, fun z => absurd rfl z⟩)⟩⟩) (fun z => absurd ⟨j, j1, rfl⟩ z)⟩) (fun z => absurd ⟨q, q1, rfl⟩ z)⟩)
    · exact Or.inr (Or.inl ⟨Or.inr (reqLayer_ok q1 (Or.inl (reqKey_no hi))), isFour_is (fun _ => ⟨fun z => absurd z (by decide), fun _ => isKey_is (fun z => absurd z hi) (fun _ => ⟨fun _ => h18 _ hfin1, fun z => absurd rfl z⟩)⟩) (fun z => absurd ⟨q, q1, rfl⟩ z)⟩)
  · exact Or.inr (Or.inl ⟨Or.inl (reqLayer_no hp), isFour_is (fun z => absurd z hp) (fun _ => ⟨fun _ => h18 _ hfin1, fun z => absurd rfl z⟩)⟩)
end LC5
