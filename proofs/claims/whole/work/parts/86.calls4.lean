section LC4
variable {xs : Nat → Int32} {k n : Nat} {K : GS → GS → (Nat → Int64) → Prop} {S M : GS} {o : Nat → Int64}
theorem Rel.rkm (h : Rel S M n) : Rkm S M := by
  obtain ⟨N, dn, e, h1, ⟨h2, h7, h6, h8⟩, _⟩ := h
  exact h8
theorem cod_of {p : Int32} (h0 : ¬ p < 4) (h1 : ¬ (107 : Int32) < p) : cod p := by
  have h2 : (4 : Int32).toInt = 4 := by decide
  have h3 : (107 : Int32).toInt = 107 := by decide
  rw [Int32.lt_iff_toInt_lt, h2] at h0
  rw [Int32.lt_iff_toInt_lt, h3] at h1
  refine ⟨p.toInt.toNat, by omega, by omega, Int32.toInt_inj.mp ?_⟩
  rw [nI_toInt (by omega)]
  omega
theorem cod_iff {p : Int32} : cod p ↔ ¬ p < 4 ∧ ¬ (107 : Int32) < p := by
  constructor
  · rintro ⟨w, w1, w2, rfl⟩
    exact ⟨fun z => absurd ((nI_ltI (b := 4) (by omega) (by omega)).mp z) (by omega), fun z => absurd ((nI_ltI (a := 107) (by omega) (by omega)).mp z) (by omega)⟩
  · exact fun h => cod_of h.1 h.2
theorem code_g {p : Int32} {post : Int32 → Prop} (h1 : cod p → post 1) (h0 : ¬ cod p → post 0) : wp_G_isCode p post :=
  ⟨fun z => h0 (fun c => (cod_iff.mp c).1 z), fun z => ⟨fun y => h0 (fun c => (cod_iff.mp c).2 y), fun y => h1 (cod_of z y)⟩⟩
theorem code_m {p : Int32} {post : Int32 → Prop} (h1 : cod p → post 1) (h0 : ¬ cod p → post 0) : wp_Mo_isCode p post :=
  ⟨fun z => h0 (fun c => (cod_iff.mp c).1 z), fun z => ⟨fun y => h0 (fun c => (cod_iff.mp c).2 y), fun y => h1 (cod_of z y)⟩⟩
theorem rc_9 (h : Rel S M n) (hK : ∀ S' M' o', Rel S' M' (n + 100) → K S' M' o') : LC_9 xs k K S M o := by
  unfold LC_9 wpH_Lw_macro
  generalize xs (6 * k + 1) = p
  generalize xs (6 * k + 2) = i
  generalize xs (6 * k + 3) = v
  obtain ⟨x1, x2, x3⟩ := h.rkm
  have h35 : ∀ (P : GS → Prop), P (gI M 0 (fun _ => 1)) → J_Mo_macro_15 P p i v M := fun P hP => by
    unfold J_Mo_macro_15 J_Mo_macro_35
    exact ref_1 ⟨fun z => absurd z (by decide), fun _ => hP⟩
  have hfin1 : wp_Mo_thrown (gI M 0 (fun _ => 1)) (fun r => ((r = 1 → K S (gI M 0 (fun _ => 1)) o) ∧ (¬ r = 1 → False))) := ⟨fun _ => hK _ _ _ ((h.f _).mono (by omega)), fun y => absurd (by show (gI M 0 (fun _ => 1)).1 0 0 = 1; rw [gI_s]) y⟩
  have hfin2 : wp_Mo_thrown (gI M 0 (fun _ => 2)) (fun r => ((r = 2 → K S (gI M 0 (fun _ => 2)) o) ∧ (¬ r = 2 → False))) := ⟨fun _ => hK _ _ _ ((h.f _).mono (by omega)), fun y => absurd (by show (gI M 0 (fun _ => 2)).1 0 0 = 2; rw [gI_s]) y⟩
  have nle : ∀ {x : Int32}, ¬ (4 : Int32) ≤ x ↔ x < 4 := fun {x} => Int32.not_le
  by_cases hp : ∃ q, q < 4 ∧ p = nI q
  · obtain ⟨q, q1, rfl⟩ := hp
    have n1 := ne_neg q (by omega)
    have n2 : ¬ (4 : Int32) ≤ nI q := fun z => absurd ((le24 (c := 4) (by omega) (by omega)).mp z) (by omega)
    by_cases hi : ∃ j, j < 4 ∧ i = nI j
    · obtain ⟨j, j1, rfl⟩ := hi
      have n3 := ne_neg j (by omega)
      have n4 : nI j < (4 : Int32) := (nI_ltI (b := 4) (by omega) (by omega)).mpr j1
      have e1 : nI q * (4 : Int32) + nI j = nI (4 * q + j) := by
        have : nI q * (4 : Int32) = nI (q * 4) := pk_mul q 4
        rw [this, nI_add, Nat.mul_comm]
      have e2 : (4 : Int32) * nI q + nI j = nI (4 * q + j) := by
        have : (4 : Int32) * nI q = nI (4 * q) := pk_mul 4 q
        rw [this, nI_add]
      have hin := in_nI (i := 4 * q + j) (n := 16) (by omega) (by omega)
      have cc : (nI (4 * q + j)).toNatClampNeg = 4 * q + j := nI_clamp (by omega)
      have hmo : ∀ P : GS → Prop, ((v = 0 ∨ cod v) → P (gI (gI M 0 (fun _ => 0)) 20 (upd (M.1 20) (4 * q + j) v))) → (¬ (v = 0 ∨ cod v) → P (gI M 0 (fun _ => 2))) → wp_Mo_macro M (nI q) (nI j) v P := fun P u w => by
        have h34 : (v = 0 ∨ cod v) → J_Mo_macro_34 P (nI q) (nI j) v M := fun hv => by
          unfold J_Mo_macro_34 J_Mo_macro_35
          refine ref_0 ⟨fun _ => ?_, fun z => absurd rfl z⟩
          rw [e2, cc, gI_n _ _ (show 20 ≠ 0 by decide)]
          exact ⟨hin, u hv⟩
        refine isFour_is (fun _ => ⟨fun z => absurd z (by decide), fun _ => isFour_is (fun _ => ⟨fun z => absurd z (by decide), fun _ => ⟨fun z => h34 (Or.inl z), fun z => code_m (fun c => ⟨fun y => absurd y (by decide), fun _ => h34 (Or.inr c)⟩) (fun c => ⟨fun _ => ?_, fun y => absurd rfl y⟩)⟩⟩) (fun z => absurd ⟨j, j1, rfl⟩ z)⟩) (fun z => absurd ⟨q, q1, rfl⟩ z)
        unfold J_Mo_macro_35
        exact ref_2 ⟨fun z => absurd z (by decide), fun _ => w (fun y => y.elim (fun y => absurd y z) c)⟩
      by_cases hv : v = 0 ∨ cod v
      · have hset : ∀ P : GS → Prop, P (gI S 21 (upd (S.1 21) (4 * q + j) v)) → J_G_macro_49 P (nI q) (nI j) v S := fun P hP => by
          unfold J_G_macro_49 wp_Km_setMacroCode
          rw [e1, cc]
          exact ⟨hin, hP⟩
        have hgo : (fun S1 => wp_Mo_macro M (nI q) (nI j) v (fun M492 => wp_Mo_thrown M492 (fun r496 => ((r496 = 0 → K S1 M492 o) ∧ (¬ r496 = 0 → False))))) (gI S 21 (upd (S.1 21) (4 * q + j) v)) := by
          refine hmo _ (fun _ => ⟨fun _ => hK _ _ _ ((h.km (eqx.rf.gI (by simp) _) ((eqx.rf.gI (by simp) _).gI (by simp) _) ⟨?_, fun z hz => ?_, ?_⟩).mono (by omega)), fun y => absurd ?_ y⟩) (fun z => absurd hv z)
          · simp only [gI_n _ _ (show 18 ≠ 21 by decide), gI_n _ _ (show 19 ≠ 21 by decide), gI_n _ _ (show 20 ≠ 21 by decide), gI_n _ _ (show 17 ≠ 20 by decide), gI_n _ _ (show 18 ≠ 20 by decide), gI_n _ _ (show 19 ≠ 20 by decide), gI_n _ _ (show 17 ≠ 0 by decide), gI_n _ _ (show 18 ≠ 0 by decide), gI_n _ _ (show 19 ≠ 0 by decide)]
            exact x1
          · rw [gI_s, gI_s]
            by_cases ez : z = 4 * q + j
            · rw [ez, upd_s, upd_s]; exact ⟨rfl, hv⟩
            · rw [upd_n _ _ ez, upd_n _ _ ez]; exact x2 z hz
          · simp only [gI_n _ _ (show 22 ≠ 21 by decide), gI_n _ _ (show 23 ≠ 21 by decide), gI_n _ _ (show 21 ≠ 20 by decide), gI_n _ _ (show 22 ≠ 20 by decide), gI_n _ _ (show 21 ≠ 0 by decide), gI_n _ _ (show 22 ≠ 0 by decide)]
            exact x3
          · show (gI (gI M 0 (fun _ => 0)) 20 _).1 0 0 = 0
            rw [gI_n _ _ (by decide), gI_s]
        exact Or.inl ⟨fun z => absurd z n1, fun _ => ⟨fun z => absurd z n2, fun _ => ⟨fun z => absurd z n3, fun _ => ⟨fun _ => ⟨fun _ => hset _ hgo, fun _ => code_g (fun _ => ⟨fun y => absurd y (by decide), fun _ => hset _ hgo⟩) (fun c => absurd (hv.resolve_left (by assumption)) c)⟩, fun z => absurd n4 z⟩⟩⟩⟩
      · have hE : wpT_G_macro S (nI q) (nI j) v eA := ⟨fun z => absurd z n1, fun _ => ⟨fun z => absurd z n2, fun _ => ⟨fun z => absurd z n3, fun _ => ⟨fun _ => ⟨fun z => absurd (Or.inl z) hv, fun _ => code_g (fun c => absurd (Or.inr c) hv) (fun _ => ⟨fun _ => rfl, fun z => absurd rfl z⟩)⟩, fun z => absurd n4 z⟩⟩⟩⟩
        exact Or.inr (Or.inr ⟨hE, hmo _ (fun z => absurd z hv) (fun _ => hfin2)⟩)
    · have hE : wpT_G_macro S (nI q) i v eI := ⟨fun z => absurd z n1, fun _ => ⟨fun z => absurd z n2, fun _ => ⟨fun _ => rfl, fun z => ⟨fun y => absurd (in_rng (b := 4) (by omega) z y) hi, fun _ => rfl⟩⟩⟩⟩
      exact Or.inr (Or.inl ⟨hE, isFour_is (fun _ => ⟨fun z => absurd z (by decide), fun _ => isFour_is (fun z => absurd z hi) (fun _ => ⟨fun _ => h35 _ hfin1, fun z => absurd rfl z⟩)⟩) (fun z => absurd ⟨q, q1, rfl⟩ z)⟩)
  · have hE : wpT_G_macro S p i v eI := ⟨fun _ => rfl, fun z => ⟨fun _ => rfl, fun y => absurd (in_rng (b := 4) (by omega) z (nle.mp y)) hp⟩⟩
    exact Or.inr (Or.inl ⟨hE, isFour_is (fun z => absurd z hp) (fun _ => ⟨fun _ => h35 _ hfin1, fun z => absurd rfl z⟩)⟩)
end LC4
