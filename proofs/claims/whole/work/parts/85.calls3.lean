section LC3
variable {xs : Nat → Int32} {k n : Nat} {K : GS → GS → (Nat → Int64) → Prop} {S M : GS} {o : Nat → Int64}
theorem rng2 {p : Int32} (h0 : ¬ p < 1) (h1 : p ≤ 100) : ∃ m, 1 ≤ m ∧ m ≤ 100 ∧ p = nI m := by
  have h2 : (1 : Int32).toInt = 1 := by decide
  have h3 : (100 : Int32).toInt = 100 := by decide
  rw [Int32.lt_iff_toInt_lt, h2] at h0
  rw [Int32.le_iff_toInt_le, h3] at h1
  refine ⟨p.toInt.toNat, by omega, by omega, Int32.toInt_inj.mp ?_⟩
  rw [nI_toInt (by omega)]
  omega
theorem s_scans {m : Nat} (hm : m ≤ 100) (hn : n < 2 ^ 19) {W : (Int32 → GS → Prop) → Prop} {post : Int32 → GS → Prop} (hpost : ∀ x S' M', Rel S' M' (n + m) → M'.1 0 0 = 0 → (∀ P : Int32 → GS → Prop, P x M' → W P) → post x S') : ∀ d i x S M, i + d = m → Rel S M (n + i) → M.1 0 0 = 0 → (∀ P, L_Mo_scans_29 P (d + 1) (nI m) x (nI i) M → W P) → L_G_scans_25 post (d + 1) (nI m) x (nI i) S := by
  intro d
  induction d with
  | zero =>
    intro i x S M hi h hf hW
    have : i = m := by omega
    subst this
    exact ⟨fun _ => hpost x S M h hf (fun P hP => hW P ⟨fun _ => hP, fun z => absurd ((le24 (by omega) (by omega)).mpr (Nat.le_refl _)) z⟩), fun z => absurd ((le24 (by omega) (by omega)).mpr (Nat.le_refl _)) z⟩
  | succ d ih =>
    intro i x S M hi h hf hW
    have hlt : ¬ nI m ≤ nI i := fun z => absurd ((le24 (by omega) (by omega)).mp z) (by omega)
    refine ⟨fun z => absurd z hlt, fun _ => s_scan h (by omega) (fun j S' M' hj hr hf' run => ?_)⟩
    rw [nI_1]
    refine ih (i + 1) (x + nI j) S' M' (by omega) hr (hf'.trans hf) (fun P hP => hW P ⟨fun z => absurd z hlt, fun _ => run _ ?_⟩)
    rw [nI_1]
    exact hP
theorem rc_3 (h : Rel S M n) (hn : n < 2 ^ 19) (hK : ∀ S' M' o', Rel S' M' (n + 100) → K S' M' o') : LC_3 xs k K S M o := by
  unfold LC_3 wpH_Lw_scans
  generalize xs (6 * k + 1) = p
  by_cases hp : ¬ p < 1 ∧ p ≤ 100
  · obtain ⟨m, m1, m2, m3⟩ := rng2 hp.1 hp.2
    subst m3
    refine Or.inl ⟨fun z => absurd z hp.1, fun _ => ⟨fun _ => ⟨m + 1, ?_⟩, fun z => absurd hp.2 z⟩⟩
    refine s_scans (n := n) (W := fun P => wp_Mo_scans M (nI m) P) m2 hn (fun x S' M' hr hf run => ?_) m 0 0 S (gI M 0 (fun _ => 0)) (by omega) (h.f _) (by rw [gI_s]) (fun P hP => ?_)
    · refine run _ ⟨fun _ => ⟨fun _ => ⟨fun _ => hK _ _ _ (hr.mono (by omega)), fun y => absurd ?_ y⟩, fun y => absurd rfl y⟩, fun y => absurd hf y⟩
      rw [lg_cmp_eq]; rfl
    · refine ⟨fun z => absurd z hp.1, fun _ => ⟨fun _ => ?_, fun z => absurd hp.2 z⟩⟩
      unfold J_Mo_scans_17
      exact ref_0 ⟨fun _ => ⟨m + 1, hP⟩, fun z => absurd rfl z⟩
  · have hE : wpT_G_scans S p eA := ⟨fun _ => rfl, fun z => ⟨fun y => absurd ⟨z, y⟩ hp, fun _ => rfl⟩⟩
    have hfin : ∀ r265 : Int32, wp_Mo_thrown (gI M 0 (fun _ => 1)) (fun r271 => ((r271 = 1 → (((1 : Int32) = (0 : Int32) → (((lg_cmp (o (0 : Int32).toNatClampNeg) r265.toInt64) = (0 : Int32) → (K S (gI M 0 (fun _ => 1)) o)) ∧ (¬ (lg_cmp (o (0 : Int32).toNatClampNeg) r265.toInt64) = (0 : Int32) → False))) ∧ (¬ (1 : Int32) = (0 : Int32) → (K S (gI M 0 (fun _ => 1)) o)))) ∧ (¬ r271 = 1 → False))) := fun r265 => ⟨fun _ => ⟨fun z => absurd z (by decide), fun _ => hK _ _ _ ((h.f _).mono (by omega))⟩, fun y => absurd (by show (gI M 0 (fun _ => 1)).1 0 0 = 1; rw [gI_s]) y⟩
    refine Or.inr ⟨hE, ⟨fun _ => ?_, fun z => ⟨fun y => absurd ⟨z, y⟩ hp, fun _ => ?_⟩⟩⟩
    · unfold J_Mo_scans_12 J_Mo_scans_17
      exact ref_1 ⟨fun z => absurd z (by decide), fun _ => hfin _⟩
    · unfold J_Mo_scans_12 J_Mo_scans_17
      exact ref_1 ⟨fun z => absurd z (by decide), fun _ => hfin _⟩
theorem rc_13 (h : Rel S M n) (hK : ∀ S' M' o', Rel S' M' (n + 100) → K S' M' o') : LC_13 xs k K S M o := by
  unfold LC_13 wpH_Lw_key
  generalize xs (6 * k + 1) = p
  generalize xs (6 * k + 2) = v
  obtain ⟨x1, x2, x3, x4, x5, x6⟩ := h.rmx
  have hfin : ∀ r720 : Int32, wp_Mo_thrown (gI M 0 (fun _ => 1)) (fun r726 => ((r726 = 1 → (((1 : Int32) = (0 : Int32) → (((lg_cmp (o (0 : Int32).toNatClampNeg) r720.toInt64) = (0 : Int32) → (K S (gI M 0 (fun _ => 1)) o)) ∧ (¬ (lg_cmp (o (0 : Int32).toNatClampNeg) r720.toInt64) = (0 : Int32) → False))) ∧ (¬ (1 : Int32) = (0 : Int32) → (K S (gI M 0 (fun _ => 1)) o)))) ∧ (¬ r726 = 1 → False))) := fun r720 => ⟨fun _ => ⟨fun z => absurd z (by decide), fun _ => hK _ _ _ ((h.f _).mono (by omega))⟩, fun y => absurd (by show (gI M 0 (fun _ => 1)).1 0 0 = 1; rw [gI_s]) y⟩
  have h19 : ∀ (P : Int32 → GS → Prop) (p v : Int32), P 0 (gI M 0 (fun _ => 1)) → J_Mo_key_19 P p v M := fun P p v hP => by
    unfold J_Mo_key_19 J_Mo_key_20
    exact ref_1 ⟨fun z => absurd z (by decide), fun _ => hP⟩
  by_cases hk : ∃ q, q < 24 ∧ p = nI q
  · obtain ⟨q, q1, q2⟩ := hk
    subst q2
    have cq : (nI q).toNatClampNeg = q := nI_clamp (by omega)
    have hin := in_nI (n := 24) q1 (by omega)
    by_cases hv : ∃ w, w < 4 ∧ v = nI w
    · obtain ⟨w, w1, w2⟩ := hv
      subst w2
      have h3 : nI w ≤ (3 : Int32) ↔ w ≤ 3 := le24 (i := 3) (by omega) (by omega)
      have hmo : ∀ P : Int32 → GS → Prop, J_Mo_key_20 P (nI q) (nI w) 0 M → wp_Mo_key M (nI q) (nI w) P := fun P hP => isKey_is (fun _ => ⟨fun z => absurd z (by decide), fun _ => isFour_is (fun _ => ⟨fun z => absurd z (by decide), fun _ => hP⟩) (fun z => absurd ⟨w, w1, rfl⟩ z)⟩) (fun z => absurd ⟨q, q1, rfl⟩ z)
      have j92 : ∀ (g : Bool) (P : Int32 → GS → Prop), P (b2 g) (gI M 0 (fun _ => 0)) → J_Mo_key_92 P (nI q) (nI w) (b2 g) (gI M 0 (fun _ => 0)) := fun g P hP => by
        cases g
        · exact ⟨fun _ => hP, fun z => absurd rfl z⟩
        · exact ⟨fun z => absurd z (by decide), fun _ => hP⟩
      have g10 : (gI M 0 (fun _ => 0)).1 10 q = b2 (bt (S.1 2 0) q) := by rw [gI_n _ _ (by decide)]; exact x2.2 q q1
      have g11 : (gI M 0 (fun _ => 0)).1 11 q = b2 (bt (S.1 3 0) q) := by rw [gI_n _ _ (by decide)]; exact x3.2 q q1
      have g13 : (gI M 0 (fun _ => 0)).1 13 q = b2 (bt (S.1 4 0) q) := by rw [gI_n _ _ (by decide)]; exact x4.2 q q1
      refine Or.inl (reqKey_ok q1 ⟨fun z => absurd z (ne_neg w (by omega)), fun _ => ⟨fun _ => ?_, fun z => absurd (h3.mpr (by omega)) z⟩⟩)
      unfold wp_Mx_keysThatAre
      dsimp only
      rw [t_and1 _ (by omega), t_and1 _ (by omega), t_and1 _ (by omega), t_and1 _ (by omega), b_and, b_not _ (by omega)]
      have hok : ∀ g : Bool, (∀ P : Int32 → GS → Prop, P (b2 g) (gI M 0 (fun _ => 0)) → J_Mo_key_20 P (nI q) (nI w) 0 M) → wp_Mo_key M (nI q) (nI w) (fun r720 M720 => wp_Mo_thrown M720 (fun r726 => ((r726 = (0 : Int32) → (((0 : Int32) = (0 : Int32) → (((lg_cmp ((vp_updL o (0 : Int32).toNatClampNeg (b2 g).toInt64) (0 : Int32).toNatClampNeg) r720.toInt64) = (0 : Int32) → (K S M720 (vp_updL o (0 : Int32).toNatClampNeg (b2 g).toInt64))) ∧ (¬ (lg_cmp ((vp_updL o (0 : Int32).toNatClampNeg (b2 g).toInt64) (0 : Int32).toNatClampNeg) r720.toInt64) = (0 : Int32) → False))) ∧ (¬ (0 : Int32) = (0 : Int32) → (K S M720 (vp_updL o (0 : Int32).toNatClampNeg (b2 g).toInt64))))) ∧ (¬ r726 = (0 : Int32) → False)))) := fun g hg => by
        refine hmo _ (hg _ ?_)
        refine ⟨fun _ => ⟨fun _ => ⟨fun _ => hK _ _ _ ((h.f _).mono (by omega)), fun y => absurd ?_ y⟩, fun y => absurd rfl y⟩, fun y => absurd ?_ y⟩
        · rw [lg_cmp_eq]; rfl
        · show (gI M 0 (fun _ => 0)).1 0 0 = 0
          rw [gI_s]
      rcases (by omega : w = 0 ∨ w = 1 ∨ w = 2 ∨ w = 3) with z | z | z | z <;> subst z
      · refine ⟨fun _ => hok _ (fun P hP => ref_0 ⟨fun _ => ⟨fun _ => ⟨hin, ?_⟩, fun z => absurd rfl z⟩, fun z => absurd rfl z⟩), fun z => absurd rfl z⟩
        rw [cq, g10]; exact j92 _ _ hP
      · refine ⟨fun z => absurd z (by decide), fun _ => ⟨fun _ => hok _ (fun P hP => ref_0 ⟨fun _ => ⟨fun z => absurd z (by decide), fun _ => ⟨fun _ => ⟨hin, ?_⟩, fun z => absurd rfl z⟩⟩, fun z => absurd rfl z⟩), fun z => absurd rfl z⟩⟩
        rw [cq, g11]; exact j92 _ _ hP
      · refine ⟨fun z => absurd z (by decide), fun _ => ⟨fun z => absurd z (by decide), fun _ => ⟨fun _ => hok _ (fun P hP => ref_0 ⟨fun _ => ⟨fun z => absurd z (by decide), fun _ => ⟨fun z => absurd z (by decide), fun _ => ⟨fun _ => ⟨hin, ?_⟩, fun z => absurd rfl z⟩⟩⟩, fun z => absurd rfl z⟩), fun z => absurd rfl z⟩⟩⟩
        rw [cq, g13]; exact j92 _ _ hP
      · refine ⟨fun z => absurd z (by decide), fun _ => ⟨fun z => absurd z (by decide), fun _ => ⟨fun z => absurd z (by decide), fun _ => hok _ (fun P hP => ref_0 ⟨fun _ => ⟨fun z => absurd z (by decide), fun _ => ⟨fun z => absurd z (by decide), fun _ => ⟨fun z => absurd z (by decide), fun _ => ⟨hin, ?_⟩⟩⟩⟩, fun z => absurd rfl z⟩)⟩⟩⟩
        unfold J_Mo_key_91
        rw [cq, g11, g13, b2_0, b2_0]
        generalize bt (S.1 3 0) q = g1 at hP ⊢
        generalize bt (S.1 4 0) q = g2 at hP ⊢
        cases g1
        · exact ⟨fun _ => j92 false _ hP, fun z => absurd rfl z⟩
        · refine ⟨fun z => absurd z (by decide), fun _ => ⟨hin, ?_⟩⟩
          cases g2
          · exact ⟨fun _ => j92 true _ hP, fun z => absurd rfl z⟩
          · exact ⟨fun z => absurd z (by decide), fun _ => j92 false _ hP⟩
    · have hE : wpT_G_key S (nI q) v eI := Or.inr (reqKey_ok q1 ⟨fun _ => rfl, fun z => ⟨fun y => absurd (in_rng (b := 4) (by omega) z (by
          have h2 : (3 : Int32).toInt = 3 := by decide
          rw [Int32.le_iff_toInt_le, h2] at y
          rw [Int32.lt_iff_toInt_lt, nI_toInt (by omega)]
          omega)) hv, fun _ => rfl⟩⟩)
      exact Or.inr ⟨hE, isKey_is (fun _ => ⟨fun z => absurd z (by decide), fun _ => isFour_is (fun z => absurd z hv) (fun _ => ⟨fun _ => h19 _ _ _ (hfin _), fun z => absurd rfl z⟩)⟩) (fun z => absurd ⟨q, q1, rfl⟩ z)⟩
  · exact Or.inr ⟨Or.inl (reqKey_no hk), isKey_is (fun z => absurd z hk) (fun _ => ⟨fun _ => h19 _ _ _ (hfin _), fun z => absurd rfl z⟩)⟩
end LC3
