/-! The calls -/
theorem in_rng {p : Int32} {b : Nat} (hb : b < 2 ^ 31) (h0 : ¬ p < 0) (h1 : p < nI b) : ∃ n, n < b ∧ p = nI n := by
  have h2 : (0 : Int32).toInt = 0 := by decide
  rw [Int32.lt_iff_toInt_lt, h2] at h0
  rw [Int32.lt_iff_toInt_lt, nI_toInt hb] at h1
  refine ⟨p.toInt.toNat, by omega, Int32.toInt_inj.mp ?_⟩
  rw [nI_toInt (by omega)]
  omega
theorem Rel.mono {S M : GS} {K K' : Nat} (h : Rel S M K) (hK : K ≤ K') : Rel S M K' := by
  obtain ⟨N, dn, e, h1, ⟨a1, a2, ⟨n, t, a3, a4, a5⟩, a6⟩, h3, ⟨b1, ⟨⟨c, b2', b3⟩, b4⟩, b5⟩, h5⟩ := h
  exact ⟨N, dn, e, h1, ⟨a1, a2, ⟨n, t, a3, by omega, a5⟩, a6⟩, h3, ⟨b1, ⟨⟨c, by omega, b3⟩, b4⟩, b5⟩, h5⟩
theorem Rel.f {S M : GS} {K : Nat} (h : Rel S M K) (g : Nat → Int32) : Rel S (gI M 0 g) K := by
  obtain ⟨N, dn, e, h1, h2, h3, h4, h5⟩ := h
  have a : ∀ c, c ≠ 0 → (gI M 0 g).1 c = M.1 c := fun c u => gI_n _ _ u
  have h2' : RA S (gI M 0 g) (24 * K, (gI M 0 g).1 0 0) := by
    obtain ⟨⟨u1, _⟩, u2⟩ := h2
    refine ⟨⟨?_, rfl⟩, ?_⟩
    · rw [a 1 (by decide)]; exact u1
    · unfold Rmx Rhi Rkm at u2 ⊢
      rw [a 3 (by simp), a 7 (by simp), a 8 (by simp), a 10 (by simp), a 11 (by simp), a 12 (by simp), a 13 (by simp), a 16 (by simp), a 17 (by simp), a 18 (by simp), a 19 (by simp), a 20 (by simp), a 21 (by simp), a 22 (by simp)]
      exact u2
  exact ⟨N, dn, e, h1, h2', h3.up (fun c _ => rfl) (fun c hc => a c (by revert hc; simp; omega)), h4.up (fun c _ => rfl) (fun c hc => a c (by revert hc; simp; omega)), h5.up (fun c _ => rfl) rfl (fun c hc => a c (by revert hc; simp; omega))⟩
section LC
variable {xs : Nat → Int32} {k n : Nat} {K : GS → GS → (Nat → Int64) → Prop} {S M : GS} {o : Nat → Int64}
theorem rc_2 (h : Rel S M n) (hn : n < 2 ^ 19) (hK : ∀ S' M' o', Rel S' M' (n + 100) → K S' M' o') : LC_2 xs k K S M o := by
  unfold LC_2 wp_G_scan
  refine s_scan (h.f (fun _ => 0)) (by omega) (fun j S' M' hj hr _ run => ?_)
  exact run _ ⟨fun _ => hK _ _ _ (hr.mono (by omega)), fun z => absurd rfl z⟩
theorem rc_6 (h : Rel S M n) (hK : ∀ S' M' o', Rel S' M' (n + 100) → K S' M' o') : LC_6 xs k K S M o := by
  have h0 := h
  obtain ⟨N, dn, e, h1, h2, h3, h4, _, s, _, _, _, _, h5⟩ := h0
  unfold LC_6 wp_G_waiting wp_Re_stored wp_Mo_waiting
  refine ⟨fun _ => hK _ _ _ ((h.f _).mono (by omega)), fun z => absurd ?_ z⟩
  show S.1 11 0 = M.1 5 0
  rw [h5.ss, h5.ms]
theorem rc_7 (h : Rel S M n) (hK : ∀ S' M' o', Rel S' M' (n + 100) → K S' M' o') : LC_7 xs k K S M o := by
  have h0 := h
  obtain ⟨N, dn, e, h1, h2, h3, h4, _, s, _, _, _, lt, h5⟩ := h0
  unfold LC_7 wp_G_late wp_Re_isLate wp_Mo_late
  dsimp only
  rw [h5.sl, h5.ml]
  exact ⟨nar_ok lt, nar_ok lt, nar_ok lt, fun _ => hK _ _ _ ((h.f _).mono (by omega)), fun z => absurd rfl z⟩
theorem rc_14 (h : Rel S M n) (hK : ∀ S' M' o', Rel S' M' (n + 100) → K S' M' o') : LC_14 xs k K S M o := by
  have h0 := h
  obtain ⟨N, dn, e, h1, h2, h3, h4, h5⟩ := h0
  unfold LC_14 wp_G_queued wp_Eq_length wp_Mo_queued
  refine ⟨fun _ => hK _ _ _ ((h.f _).mono (by omega)), fun z => absurd ?_ z⟩
  show S.1 7 0 = M.1 2 0
  rw [h3.1.1, h3.1.2.1]
theorem rc_15 (h : Rel S M n) (hn : n < 2 ^ 19) (hK : ∀ S' M' o', Rel S' M' (n + 100) → K S' M' o') : LC_15 xs k K S M o := by
  have h0 := h
  obtain ⟨N, dn, e, h1, ⟨_, _, ⟨nx, t, a1, a2, a3, a4, a5, a6⟩, _⟩, h3, h4, h5⟩ := h0
  have hk : ∀ g, K S (gI M 0 g) o := fun g => hK _ _ _ ((h.f _).mono (by omega))
  unfold LC_15 wp_G_history wp_Hi_latest wp_Mo_history
  generalize xs (6 * k + 1) = p
  rw [a3, a4, a5]
  refine ⟨fun z => ⟨fun _ => ⟨fun _ => hk _, fun y => absurd rfl y⟩, fun y => absurd z y⟩, fun z => ⟨fun y => ?_, fun y => ⟨fun w => absurd w z, fun _ => ⟨fun _ => ⟨fun _ => hk _, fun w => absurd rfl w⟩, fun w => ⟨fun v => absurd ?_ y, fun _ => ⟨fun _ => hk _, fun v => absurd rfl v⟩⟩⟩⟩⟩⟩
  · obtain ⟨q, q1, q2⟩ := in_rng (b := min t 32) (by omega) z y
    subst q2
    have e1 : nI nx + (32 : Int32) - 1 - nI q = nI (nx + 31 - q) := by
      have u1 : nI nx + (32 : Int32) = nI (nx + 32) := nI_add nx 32
      have u2 : nI (nx + 32) - (1 : Int32) = nI (nx + 31) := nI_pred (nx + 31)
      rw [u1, u2, pk_sub (by omega)]
    have e2 : nI (nx + 31 - q) - nI (nx + 31 - q) / (32 : Int32) * (32 : Int32) = nI ((nx + 31 - q) % 32) := pk_rem (d := 32) (by omega) (by omega) (by omega)
    have h31 : (31 : Int32) < nI q ↔ 31 < q := nI_ltI (a := 31) (by omega) (by omega)
    rw [e1, e2, nI_clamp (by omega), nI_clamp (by omega), h31, nI_ltI (by omega) (by omega)]
    refine ⟨in_nI (by omega) (by omega), fun w => absurd w z, fun _ => ⟨fun w => absurd w (by omega), fun _ => ⟨fun _ => ⟨in_nI (by omega) (by omega), fun _ => hk _, fun w => absurd (a6 q q1) w⟩, fun w => absurd (by omega) w⟩⟩⟩
  · obtain ⟨q, q1, q2⟩ := in_rng (b := t) (by omega) z v
    subst q2
    have h31 : (31 : Int32) < nI q ↔ 31 < q := nI_ltI (a := 31) (by omega) (by omega)
    rw [h31] at w
    exact (nI_ltI (by omega) (by omega)).mpr (by omega)
theorem isKey_is {p : Int32} {post : Int32 → Prop} (h1 : (∃ q, q < 24 ∧ p = nI q) → post 1) (h0 : ¬ (∃ q, q < 24 ∧ p = nI q) → post 0) : wp_Mo_isKey p post := by
  unfold wp_Mo_isKey
  refine ⟨fun z => h0 (fun ⟨q, q1, q2⟩ => absurd (q2 ▸ z) (ne_neg q (by omega))), fun z => ⟨fun y => h0 (fun ⟨q, q1, q2⟩ => ?_), fun y => h1 (in_rng (b := 24) (by omega) z (Int32.not_le.mp y))⟩⟩
  rw [q2] at y
  exact absurd ((le24 (c := 24) (by omega) (by omega)).mp y) (by omega)
theorem isFour_is {p : Int32} {post : Int32 → Prop} (h1 : (∃ q, q < 4 ∧ p = nI q) → post 1) (h0 : ¬ (∃ q, q < 4 ∧ p = nI q) → post 0) : wp_Mo_isFour p post := by
  unfold wp_Mo_isFour
  refine ⟨fun z => h0 (fun ⟨q, q1, q2⟩ => absurd (q2 ▸ z) (ne_neg q (by omega))), fun z => ⟨fun y => h0 (fun ⟨q, q1, q2⟩ => ?_), fun y => h1 (in_rng (b := 4) (by omega) z (Int32.not_le.mp y))⟩⟩
  rw [q2] at y
  exact absurd ((le24 (c := 4) (by omega) (by omega)).mp y) (by omega)
theorem reqKey_ok {q : Nat} {post : Unit → Prop} (hq : q < 24) (h : post ()) : wp_G_requireKey (nI q) post :=
  ⟨fun z => absurd z (ne_neg q (by omega)), fun _ => ⟨fun _ => h, fun z => absurd ((nI_ltI (b := 24) (by omega) (by omega)).mpr hq) z⟩⟩
theorem reqLayer_ok {q : Nat} {post : Unit → Prop} (hq : q < 4) (h : post ()) : wp_G_requireLayer (nI q) post :=
  ⟨fun z => absurd z (ne_neg q (by omega)), fun _ => ⟨fun _ => h, fun z => absurd ((nI_ltI (b := 4) (by omega) (by omega)).mpr hq) z⟩⟩
theorem reqKey_no {p : Int32} (h : ¬ ∃ q, q < 24 ∧ p = nI q) : wpT_G_requireKey p eI :=
  ⟨fun _ => rfl, fun z => ⟨fun y => absurd (in_rng (b := 24) (by omega) z y) h, fun _ => rfl⟩⟩
theorem reqLayer_no {p : Int32} (h : ¬ ∃ q, q < 4 ∧ p = nI q) : wpT_G_requireLayer p eI :=
  ⟨fun _ => rfl, fun z => ⟨fun y => absurd (in_rng (b := 4) (by omega) z y) h, fun _ => rfl⟩⟩
theorem ref_0 {post : Int32 → GS → Prop} (h : post 0 (gI M 0 (fun _ => 0))) : wp_Mo_refused M 0 post := ⟨fun _ => h, fun z => absurd (by decide) z⟩
theorem ref_1 {post : Int32 → GS → Prop} (h : post 1 (gI M 0 (fun _ => 1))) : wp_Mo_refused M 1 post := ⟨fun z => absurd z (by decide), fun _ => h⟩
theorem ref_2 {post : Int32 → GS → Prop} (h : post 1 (gI M 0 (fun _ => 2))) : wp_Mo_refused M 2 post := ⟨fun z => absurd z (by decide), fun _ => h⟩
theorem ref_3 {post : Int32 → GS → Prop} (h : post 1 (gI M 0 (fun _ => 3))) : wp_Mo_refused M 3 post := ⟨fun z => absurd z (by decide), fun _ => h⟩
theorem rc_11 (h : Rel S M n) (hK : ∀ S' M' o', Rel S' M' (n + 100) → K S' M' o') : LC_11 xs k K S M o := by
  have h0 := (h.f (fun _ => 0))
  obtain ⟨N, dn, e, h1, h2, h3, h4, h5⟩ := h0
  unfold LC_11 wpH_Lw_on
  generalize xs (6 * k + 1) = p
  by_cases hp : ∃ q, q < 4 ∧ p = nI q
  · obtain ⟨q, q1, q2⟩ := hp
    subst q2
    have hm : ∀ post : Int32 → GS → Prop, post (b2 (onL S q)) (gI M 0 (fun _ => 0)) → wp_Mo_on M (nI q) post := fun post hpost => isFour_is (fun _ => ⟨fun z => absurd z (by decide), fun _ => ref_0 ⟨fun _ => q_isOn h4.1 q1 (by
      generalize onL S q = g at hpost ⊢
      cases g
      · exact ⟨fun _ => hpost, fun z => absurd rfl z⟩
      · exact ⟨fun z => absurd z (by decide), fun _ => hpost⟩), fun z => absurd rfl z⟩⟩) (fun z => absurd ⟨q, q1, rfl⟩ z)
    refine Or.inl (reqLayer_ok q1 (p_isOn q1 ⟨nar_ok _, fun z => hm _ ?_, fun z => hm _ ?_⟩))
    · rw [z]
      refine ⟨fun _ => ⟨fun _ => ⟨fun _ => ⟨fun _ => hK _ _ _ ((h.f _).mono (by omega)), fun y => absurd ?_ y⟩, fun y => absurd rfl y⟩, fun y => absurd rfl y⟩, fun y => absurd ?_ y⟩
      · rw [lg_cmp_eq]; rfl
      · show (gI M 0 (fun _ => 0)).1 0 0 = 0
        rw [gI_s]
    · refine ⟨fun _ => ⟨fun _ => ⟨fun y => absurd y z, fun _ => ⟨fun _ => hK _ _ _ ((h.f _).mono (by omega)), fun y => absurd ?_ y⟩⟩, fun y => absurd rfl y⟩, fun y => absurd ?_ y⟩
      · rw [lg_cmp_eq]; rfl
      · show (gI M 0 (fun _ => 0)).1 0 0 = 0
        rw [gI_s]
  · refine Or.inr ⟨Or.inl (reqLayer_no hp), isFour_is (fun z => absurd z hp) (fun _ => ⟨fun _ => ref_1 ⟨fun z => absurd z (by decide), fun _ => ?_⟩, fun z => absurd rfl z⟩)⟩
    refine ⟨fun _ => ⟨fun z => absurd z (by decide), fun _ => hK _ _ _ ((h.f _).mono (by omega))⟩, fun y => absurd ?_ y⟩
    show (gI M 0 (fun _ => 1)).1 0 0 = 1
    rw [gI_s]
theorem rc_12 (h : Rel S M n) (hK : ∀ S' M' o', Rel S' M' (n + 100) → K S' M' o') : LC_12 xs k K S M o := by
  have h0 := (h.f (fun _ => 0))
  obtain ⟨N, dn, e, h1, h2, h3, h4, h5⟩ := h0
  unfold LC_12 wpH_Lw_top
  generalize xs (6 * k + 1) = p
  by_cases hp : ∃ q, q < 24 ∧ p = nI q
  · obtain ⟨q, q1, q2⟩ := hp
    subst q2
    refine Or.inl (reqKey_ok q1 (p_top q1 (isKey_is (fun _ => ⟨fun z => absurd z (by decide), fun _ => ref_0 ⟨fun _ => q_top h4.1 (fun i hi => (h2.2.2.2.1 i hi).1) q1 ?_, fun z => absurd rfl z⟩⟩) (fun z => absurd ⟨q, q1, rfl⟩ z))))
    refine ⟨fun _ => ⟨fun _ => ⟨fun _ => hK _ _ _ ((h.f _).mono (by omega)), fun y => absurd ?_ y⟩, fun y => absurd rfl y⟩, fun y => absurd ?_ y⟩
    · rw [lg_cmp_eq]; rfl
    · show (gI M 0 (fun _ => 0)).1 0 0 = 0
      rw [gI_s]
  · refine Or.inr ⟨Or.inl (reqKey_no hp), isKey_is (fun z => absurd z hp) (fun _ => ⟨fun _ => ref_1 ⟨fun z => absurd z (by decide), fun _ => ?_⟩, fun z => absurd rfl z⟩)⟩
    refine ⟨fun _ => ⟨fun z => absurd z (by decide), fun _ => hK _ _ _ ((h.f _).mono (by omega))⟩, fun y => absurd ?_ y⟩
    show (gI M 0 (fun _ => 1)).1 0 0 = 1
    rw [gI_s]
end LC
