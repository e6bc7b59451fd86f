section LC2
variable {xs : Nat → Int32} {k n : Nat} {K : GS → GS → (Nat → Int64) → Prop} {S M : GS} {o : Nat → Int64}
theorem Rel.mx {S' M' : GS} (h : Rel S M n) (a : eqx [1, 13] S S') (b : eqx [0, 7, 8] M M') (c : Rmx S' M') : Rel S' M' n := by
  obtain ⟨N, dn, e, h1, ⟨⟨h2, _⟩, _, h6, h7⟩, h3, h4, h5⟩ := h
  refine ⟨N, dn, e, h1, ⟨⟨?_, rfl⟩, c, ?_, ?_⟩, h3.up (fun c hc => a.1 c (by revert hc; simp; omega)) (fun c hc => b.1 c (by revert hc; simp; omega)), h4.up (fun c hc => a.1 c (by revert hc; simp; omega)) (fun c hc => b.1 c (by revert hc; simp; omega)), h5.up (fun c hc => a.1 c (by revert hc; simp; omega)) a.2 (fun c hc => b.1 c (by revert hc; simp; omega))⟩
  · rw [a.1 0 (by simp), b.1 1 (by simp)]; exact h2
  · unfold Rhi at h6 ⊢
    rw [a.1 5 (by simp), a.1 6 (by simp), a.1 15 (by simp), b.1 3 (by simp), b.1 16 (by simp)]; exact h6
  · unfold Rkm at h7 ⊢
    rw [a.1 18 (by simp), a.1 19 (by simp), a.1 20 (by simp), a.1 21 (by simp), a.1 22 (by simp), a.1 23 (by simp), b.1 17 (by simp), b.1 18 (by simp), b.1 19 (by simp), b.1 20 (by simp), b.1 21 (by simp), b.1 22 (by simp)]; exact h7
theorem Rel.km {S' M' : GS} (h : Rel S M n) (a : eqx [18, 19, 20, 21, 22, 23] S S') (b : eqx [0, 17, 18, 19, 20, 21, 22] M M') (c : Rkm S' M') : Rel S' M' n := by
  obtain ⟨N, dn, e, h1, ⟨⟨h2, _⟩, h7, h6, _⟩, h3, h4, h5⟩ := h
  refine ⟨N, dn, e, h1, ⟨⟨?_, rfl⟩, ?_, ?_, c⟩, h3.up (fun c hc => a.1 c (by revert hc; simp; omega)) (fun c hc => b.1 c (by revert hc; simp; omega)), h4.up (fun c hc => a.1 c (by revert hc; simp; omega)) (fun c hc => b.1 c (by revert hc; simp; omega)), h5.up (fun c hc => a.1 c (by revert hc; simp; omega)) a.2 (fun c hc => b.1 c (by revert hc; simp; omega))⟩
  · rw [a.1 0 (by simp), b.1 1 (by simp)]; exact h2
  · exact h7.up (fun c hc => a.1 c (by revert hc; simp; omega)) (fun c hc => b.1 c (by revert hc; simp; omega))
  · unfold Rhi at h6 ⊢
    rw [a.1 5 (by simp), a.1 6 (by simp), a.1 15 (by simp), b.1 3 (by simp), b.1 16 (by simp)]; exact h6
theorem Rel.rmx (h : Rel S M n) : Rmx S M := by
  obtain ⟨N, dn, e, h1, ⟨h2, h7, h6, _⟩, _⟩ := h
  exact h7
theorem wire_core (h : Rel S M n) {p : Int32} {v : Bool} {post : Int32 → GS × (Nat → Int64) → Prop} (hp : ∀ r S1 M1, Rel S1 M1 n → (∀ P : GS → Prop, P M1 → wp_Mo_wire M p (b2 v) P) → M1.1 0 0 = r → post r (S1, o)) : wpH_Lw_wire S o p (b2 v) post := by
  unfold wpH_Lw_wire
  obtain ⟨x1, x2, x3, x4, x5, x6⟩ := h.rmx
  by_cases hk : ∃ q, q < 24 ∧ p = nI q
  · obtain ⟨q, q1, q2⟩ := hk
    subst q2
    have cq : (nI q).toNatClampNeg = q := nI_clamp (by omega)
    have hin := in_nI (n := 24) q1 (by omega)
    have fin : ∀ y, isS y (upd (M.1 7) q (b2 v)) → post 0 (gI S 1 (fun _ => y), o) := fun y hy => by
      refine hp 0 _ (gI (gI M 0 (fun _ => 0)) 7 (upd (M.1 7) q (b2 v))) (h.mx (eqx.rf.gI (by simp) _) ((eqx.rf.gI (by simp) _).gI (by simp) _) ⟨?_, ?_, ?_, ?_, ?_, ?_⟩) (fun P hP => isKey_is (fun _ => ⟨fun z => absurd z (by decide), fun _ => ref_0 ⟨fun _ => ⟨hin, ?_⟩, fun z => absurd rfl z⟩⟩) (fun z => absurd ⟨q, q1, rfl⟩ z)) ?_
      · rw [gI_s, gI_s]; exact hy
      · rw [gI_n _ _ (by decide), gI_n _ _ (by decide), gI_n _ _ (by decide)]; exact x2
      · rw [gI_n _ _ (by decide), gI_n _ _ (by decide), gI_n _ _ (by decide)]; exact x3
      · rw [gI_n _ _ (by decide), gI_n _ _ (by decide), gI_n _ _ (by decide)]; exact x4
      · rw [gI_n _ _ (by decide), gI_n _ _ (by decide), gI_n _ _ (by decide)]; exact x5
      · rw [gI_n _ _ (by decide), gI_n _ _ (by decide), gI_n _ _ (by decide)]; exact x6
      · rw [cq, nar_b2, gI_n _ _ (by decide)]; exact hP
      · rw [gI_n _ _ (by decide), gI_s]
    refine Or.inl (reqKey_ok q1 ?_)
    cases v
    · exact ⟨fun _ => fin _ (isS_and q1 x1), fun z => absurd rfl z⟩
    · exact ⟨fun z => absurd z (by decide), fun _ => fin _ (isS_or q1 x1)⟩
  · exact Or.inr ⟨Or.inl (reqKey_no hk), hp 1 S (gI M 0 (fun _ => 1)) (h.f _) (fun P hP => isKey_is (fun z => absurd z hk) (fun _ => ⟨fun _ => ref_1 ⟨fun z => absurd z (by decide), fun _ => hP⟩, fun z => absurd rfl z⟩)) (by rw [gI_s])⟩
theorem rc_0 (h : Rel S M n) (hK : ∀ S' M' o', Rel S' M' (n + 100) → K S' M' o') : LC_0 xs k K S M o := by
  unfold LC_0
  refine ⟨fun z => wire_core (v := false) h (fun r S1 M1 hr run hf => ⟨fun _ => run _ ⟨fun _ => hK _ _ _ (hr.mono (by omega)), fun y => absurd hf y⟩, fun y => absurd z y⟩), fun z => wire_core (v := true) h (fun r S1 M1 hr run hf => ⟨fun y => absurd y z, fun _ => run _ ⟨fun _ => hK _ _ _ (hr.mono (by omega)), fun y => absurd hf y⟩⟩)⟩
theorem rc_1 (h : Rel S M n) (hK : ∀ S' M' o', Rel S' M' (n + 100) → K S' M' o') : LC_1 xs k K S M o := by
  unfold LC_1 wpH_Lw_bounce
  generalize xs (6 * k + 1) = p
  generalize xs (6 * k + 2) = v
  obtain ⟨x1, x2, x3, x4, x5, x6⟩ := h.rmx
  by_cases hk : ∃ q, q < 24 ∧ p = nI q
  · obtain ⟨q, q1, q2⟩ := hk
    subst q2
    have cq : (nI q).toNatClampNeg = q := nI_clamp (by omega)
    have hin := in_nI (n := 24) q1 (by omega)
    by_cases hv : ¬ v < 0 ∧ v ≤ 255
    · refine Or.inl (reqKey_ok q1 ⟨fun z => absurd z hv.1, fun _ => ⟨fun _ => ⟨hin, ?_⟩, fun z => absurd hv.2 z⟩⟩)
      refine isKey_is (fun _ => ⟨fun z => absurd z (by decide), fun _ => ⟨fun z => absurd z hv.1, fun _ => ⟨fun _ => ref_0 ⟨fun _ => ⟨hin, ?_⟩, fun z => absurd rfl z⟩, fun z => absurd hv.2 z⟩⟩⟩) (fun z => absurd ⟨q, q1, rfl⟩ z)
      refine ⟨fun _ => hK _ _ _ ((h.mx (eqx.rf.gI (by simp) _) ((eqx.rf.gI (by simp) _).gI (by simp) _) ⟨?_, ?_, ?_, ?_, fun i hi => ?_, ?_⟩).mono (by omega)), fun y => absurd ?_ y⟩
      · rw [gI_n _ _ (by decide), gI_n _ _ (by decide), gI_n _ _ (by decide)]; exact x1
      · rw [gI_n _ _ (by decide), gI_n _ _ (by decide), gI_n _ _ (by decide)]; exact x2
      · rw [gI_n _ _ (by decide), gI_n _ _ (by decide), gI_n _ _ (by decide)]; exact x3
      · rw [gI_n _ _ (by decide), gI_n _ _ (by decide), gI_n _ _ (by decide)]; exact x4
      · rw [gI_s, gI_s, cq, gI_n _ _ (by decide)]
        by_cases e : i = q
        · rw [e, upd_s, upd_s]
        · rw [upd_n _ _ e, upd_n _ _ e]; exact x5 i hi
      · rw [gI_n _ _ (by decide), gI_n _ _ (by decide), gI_n _ _ (by decide)]; exact x6
      · show (gI (gI M 0 (fun _ => 0)) 8 _).1 0 0 = 0
        rw [gI_n _ _ (by decide), gI_s]
    · have hE : wpT_G_bounce S (nI q) v eA := Or.inr (reqKey_ok q1 ⟨fun _ => rfl, fun z => ⟨fun y => absurd ⟨z, y⟩ hv, fun _ => rfl⟩⟩)
      refine Or.inr (Or.inr ⟨hE, isKey_is (fun _ => ⟨fun z => absurd z (by decide), fun _ => ?_⟩) (fun z => absurd ⟨q, q1, rfl⟩ z)⟩)
      have h23 : ∀ P : GS → Prop, P (gI M 0 (fun _ => 2)) → J_Mo_bounce_23 P (nI q) v M := fun P hP => by
        unfold J_Mo_bounce_23 J_Mo_bounce_28
        exact ref_2 ⟨fun z => absurd z (by decide), fun _ => hP⟩
      have hfin : wp_Mo_thrown (gI M 0 (fun _ => 2)) (fun r219 => ((r219 = 2 → K S (gI M 0 (fun _ => 2)) o) ∧ (¬ r219 = 2 → False))) := ⟨fun _ => hK _ _ _ ((h.f _).mono (by omega)), fun y => absurd (by show (gI M 0 (fun _ => 2)).1 0 0 = 2; rw [gI_s]) y⟩
      exact ⟨fun _ => h23 _ hfin, fun z => ⟨fun y => absurd ⟨z, y⟩ hv, fun _ => h23 _ hfin⟩⟩
  · refine Or.inr (Or.inl ⟨Or.inl (reqKey_no hk), isKey_is (fun z => absurd z hk) (fun _ => ⟨fun _ => ref_1 ⟨fun z => absurd z (by decide), fun _ => ?_⟩, fun z => absurd rfl z⟩)⟩)
    refine ⟨fun _ => hK _ _ _ ((h.f _).mono (by omega)), fun y => absurd ?_ y⟩
    show (gI M 0 (fun _ => 1)).1 0 0 = 1
    rw [gI_s]
end LC2
