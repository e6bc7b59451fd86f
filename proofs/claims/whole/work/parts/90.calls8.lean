def pfc (T0 : GS) (i : Nat) (T : GS) : Prop := eqx [29] T0 T ∧ (∀ j z, j < i → z < 7 → T.1 29 (7 * j + z) = T0.1 29 (7 * (j + 1) + z)) ∧ ∀ x, 7 * i ≤ x → T.1 29 x = T0.1 29 x
def pex (P : Int32 → GS → Prop) (T : GS) : Prop := (T.1 6 0 = 0 → P 1 T) ∧ (¬ T.1 6 0 = 0 → wp_Mo_tell (gI T 6 (fun _ => 0)) (fun S68 => P 1 S68))
theorem q_shift {T0 : GS} {s : Nat} (hs : s ≤ 8) (h5 : T0.1 5 0 = nI s) : ∀ d i T, i + d = s → pfc T0 i T → ∃ M1, pfc T0 s M1 ∧ ∀ P, pex P M1 → L_Mo_poll_33 P (d + 1) (nI i) T := by
  intro d
  induction d with
  | zero =>
    intro i T hi h
    have : i = s := by omega
    subst this
    refine ⟨T, h, fun P hP => ⟨fun _ => hP, fun z => absurd ?_ z⟩⟩
    rw [h.1.1 5 (by simp), h5, le24 (by omega) (by omega)]
    exact Nat.le_refl _
  | succ d ih =>
    intro i T hi h
    obtain ⟨h1, h2, h3⟩ := h
    obtain ⟨U, ⟨u1, u2, u3⟩, run⟩ := dt_wp_Mo_copyReport T (nI (i + 1)) (nI i) (fun M' => eqx [29] T M' ∧ (∀ z, z < 7 → M'.1 29 (7 * i + z) = T.1 29 (7 * (i + 1) + z)) ∧ ∀ j, j < 7 * i ∨ 7 * i + 7 ≤ j → M'.1 29 j = T.1 29 j) (q_copy (a := i + 1) (b := i) (by omega) (by omega) (by omega) (fun M' a b c => ⟨a, b, c⟩))
    obtain ⟨M1, g1, g2⟩ := ih (i + 1) U (by omega) ⟨h1.tr u1, fun j z hj hz => by
      by_cases e : j = i
      · rw [e, u2 z hz, h3 _ (by omega)]
      · rw [u3 _ (by omega), h2 j z (by omega) hz], fun x hx => by rw [u3 _ (by omega), h3 _ (by omega)]⟩
    refine ⟨M1, g1, fun P hP => ⟨fun z => absurd z ?_, fun _ => ?_⟩⟩
    · rw [h1.1 5 (by simp), h5, le24 (by omega) (by omega)]; omega
    · rw [nI_1]
      exact run _ (g2 P hP)
section LC8
variable {xs : Nat → Int32} {k n : Nat} {K : GS → GS → (Nat → Int64) → Prop} {S M : GS} {o : Nat → Int64}
theorem Rel.re {S' M' : GS} (h : Rel S M n) (a : eqr [10, 11, 12, 27] S S') (b : eqr [0, 5, 6, 28, 29] M M') (c : Rre S' M') : Rel S' M' n := by
  obtain ⟨N, dn, e, h1, ⟨⟨h2, _⟩, h7, h6, h8⟩, h3, h4, h5⟩ := h
  refine ⟨N, dn, e, h1, ⟨⟨?_, rfl⟩, h7.up (fun c hc => a c (by revert hc; simp; omega)) (fun c hc => b c (by revert hc; simp; omega)), ?_, ?_⟩, h3.up (fun c hc => a c (by revert hc; simp; omega)) (fun c hc => b c (by revert hc; simp; omega)), h4.up (fun c hc => a c (by revert hc; simp; omega)) (fun c hc => b c (by revert hc; simp; omega)), c⟩
  · rw [a 0 (by simp), b 1 (by simp)]; exact h2
  · unfold Rhi at h6 ⊢
    rw [a 5 (by simp), a 6 (by simp), a 15 (by simp), b 3 (by simp), b 16 (by simp)]; exact h6
  · unfold Rkm at h8 ⊢
    rw [a 18 (by simp), a 19 (by simp), a 20 (by simp), a 21 (by simp), a 22 (by simp), a 23 (by simp), b 17 (by simp), b 18 (by simp), b 19 (by simp), b 20 (by simp), b 21 (by simp), b 22 (by simp)]; exact h8
set_option maxHeartbeats 2000000 in
theorem rc_4 (h : Rel S M n) (hK : ∀ S' M' o', Rel S' M' (n + 100) → K S' M' o') : LC_4 xs k K S M o := by
  have h0 := h
  obtain ⟨N, dn, e, h1, h2, h3, h4, oo, s, R, LP, TK, lt, h5⟩ := h0
  have s8 := h5.s8
  have o8 := h5.o8
  unfold LC_4 wp_G_poll wp_Re_takeOldest wp_Mo_poll
  have hz : nI s = (0 : Int32) ↔ s = 0 := nI_inj (b := 0) (by omega) (by omega)
  rw [h5.ss, h5.ms, h5.so, hz, h5.sl, b2_0, nI_clamp (by omega)]
  refine ⟨fun z => ⟨nar0, fun _ => ⟨fun _ => hK _ _ _ ((h.f _).mono (by omega)), fun y => absurd rfl y⟩, fun y => absurd z y⟩, fun z => ⟨in_nI o8 (by omega), ?_⟩⟩
  obtain ⟨M2, ⟨m1, m2, m3⟩, run2⟩ := dt_wp_Mo_copyReport (gI M 0 (fun _ => 0)) (nI 0) (nI 9) (fun M' => eqx [29] (gI M 0 (fun _ => 0)) M' ∧ (∀ i, i < 7 → M'.1 29 (7 * 9 + i) = (gI M 0 (fun _ => 0)).1 29 (7 * 0 + i)) ∧ ∀ j, j < 7 * 9 ∨ 7 * 9 + 7 ≤ j → M'.1 29 j = (gI M 0 (fun _ => 0)).1 29 j) (q_copy (a := 0) (b := 9) (by omega) (by omega) (by omega) (fun M' a b c => ⟨a, b, c⟩))
  have e5 : M2.1 5 0 - 1 = nI (s - 1) := by
    rw [m1.1 5 (by simp), gI_n _ _ (by decide), h5.ms]
    exact pk_sub (b := 1) (by omega)
  obtain ⟨M1, ⟨g1, g2, g3⟩, run1⟩ := q_shift (T0 := gI M2 5 (fun _ => M2.1 5 0 - 1)) (s := s - 1) (by omega) (by rw [gI_s, e5]) (s - 1) 0 (gI M2 5 (fun _ => M2.1 5 0 - 1)) (by omega) ⟨eqx.rf, fun j z hj => absurd hj (by omega), fun _ _ => rfl⟩
  have hM1 : eqr [0, 5, 29] M M1 := (((eqr.rf.gI (by simp) _).tr (m1.r.up (by simp))).gI (by simp) _).tr (g1.r.up (by simp))
  have hrun : ∀ P : Int32 → GS → Prop, pex P M1 → wp_Mo_copyReport (gI M 0 (fun _ => 0)) 0 9 (fun S18 => ∃ q33, L_Mo_poll_33 P q33 0 (gI S18 5 (fun _ => S18.1 5 0 - 1))) := fun P hP => run2 _ ⟨s - 1 + 1, run1 P hP⟩
  have hg29 : ∀ x, x < 63 ∨ 70 ≤ x → (gI M2 5 (fun _ => M2.1 5 0 - 1)).1 29 x = M.1 29 x := fun x hx => by rw [gI_n _ _ (by decide), m3 x (by omega), gI_n _ _ (by decide)]
  have e1 : nI oo + 1 - (nI oo + 1) / (8 : Int32) * (8 : Int32) = nI ((oo + 1) % 8) := by
    rw [nI_1]; exact pk_rem (d := 8) (by omega) (by omega) (by omega)
  have e2 : nI s - (1 : Int32) = nI (s - 1) := pk_sub (b := 1) (by omega)
  rw [e1, e2]
  have hm6 : M1.1 6 0 = b2 lt := by rw [hM1 6 (by simp)]; exact h5.ml
  have hRr : ∀ S1 M1', S1.1 10 0 = nI ((oo + 1) % 8) → S1.1 11 0 = nI (s - 1) → S1.1 27 = S.1 27 → S1.2 2 = S.2 2 → S1.2 0 = S.2 0 → S1.2 1 0 = S.2 2 oo → ∀ l2 : Bool, S1.1 12 0 = b2 l2 → M1'.1 6 0 = b2 l2 → (∀ c, c ≠ 6 → M1'.1 c = M1.1 c) → Rre S1 M1' := fun S1 M1' a1 a2 a3 a4 a5 a6 l2 a7 a8 a9 => by
    refine ⟨(oo + 1) % 8, s - 1, fun j => R (j + 1), LP, R 0, l2, by omega, by omega, a1, a2, ?_, a7, a8, fun j hj => h5.gR (j + 1) (by omega), fun j hj => ?_, fun j hj i hi => ?_, h5.gP, ?_, fun i hi => ?_, h5.gR 0 (by omega), ?_, fun i hi => ?_, fun c hc => ?_⟩
    · rw [a9 5 (by decide), g1.1 5 (by simp), gI_s, e5]
    · rw [a4, show ((oo + 1) % 8 + j) % 8 = (oo + (j + 1)) % 8 from by omega]; exact h5.sR (j + 1) (by omega)
    · rw [a9 29 (by decide), g2 j i hj hi, hg29 _ (by omega)]; exact h5.mR (j + 1) (by omega) i hi
    · rw [a5]; exact h5.sP
    · rw [a9 29 (by decide), g3 _ (by omega), hg29 _ (by omega)]; exact h5.mP i hi
    · rw [a6]
      have := h5.sR 0 (by omega)
      rw [show (oo + 0) % 8 = oo from by omega] at this
      exact this
    · rw [a9 29 (by decide), g3 _ (by omega), gI_n _ _ (by decide)]
      have := m2 i hi
      rw [show 7 * 9 + i = 63 + i from by omega] at this
      rw [this, gI_n _ _ (by decide)]
      have := h5.mR 0 (by omega) i hi
      exact this
    · rw [a9 28 (by decide), hM1 28 (by simp), a3]; exact h5.hd c hc
  refine ⟨fun y => ⟨nar1, fun w => absurd w z, fun _ => hrun _ ⟨fun _ => ⟨fun _ => hK _ _ _ ((h.re (((eqr.rf.gL 1 _).gI (by simp) _).gI (by simp) _) (hM1.up (by simp)) (hRr _ M1 ?_ ?_ ?_ rfl rfl rfl false ?_ ?_ (fun c _ => rfl))).mono (by omega)), fun w => absurd rfl w⟩, fun w => absurd ?_ w⟩⟩, fun y => ?_⟩
  · rw [gI_n _ _ (by decide), gI_s]
  · rw [gI_s]
  · rw [gI_n _ _ (by decide), gI_n _ _ (by decide), gL_1]
  · rw [gI_n _ _ (by decide), gI_n _ _ (by decide), gL_1, h5.sl, y]
  · rw [hm6, y]
  · rw [hm6, y]; rfl
  · refine s_tell (S := gI (gI (gI (gL S 1 (fun _ => S.2 2 oo)) 10 (fun _ => nI ((oo + 1) % 8))) 11 (fun _ => nI (s - 1))) 12 (fun _ => 0)) (M := gI M1 6 (fun _ => 0)) (hRr _ _ ?_ ?_ ?_ rfl rfl rfl false ?_ ?_ (fun c hc => gI_n _ _ hc)) (fun S' M' a1 a2 a3 run => ⟨nar1, fun w => absurd w z, fun _ => hrun _ ⟨fun w => absurd w ?_, fun _ => run _ ⟨fun _ => hK _ _ _ ((h.re ((((((eqr.rf.gL 1 _).gI (by simp) _).gI (by simp) _).gI (by simp) _)).tr (a1.up (by simp))) (((hM1.up (by simp)).gI (by simp) _).tr (a2.up (by simp))) a3).mono (by omega)), fun w => absurd rfl w⟩⟩⟩)
    · rw [gI_n _ _ (by decide), gI_n _ _ (by decide), gI_s]
    · rw [gI_n _ _ (by decide), gI_s]
    · rw [gI_n _ _ (by decide), gI_n _ _ (by decide), gI_n _ _ (by decide), gL_1]
    · rw [gI_s]; rfl
    · rw [gI_s]; rfl
    · rw [hm6, b2_0]; exact y
end LC8
