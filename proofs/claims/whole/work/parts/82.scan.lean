/-! A scan -/
def Rel (S M : GS) (K : Nat) : Prop := ∃ N dn e, N ≤ 8 ∧ RA S M (24 * K, M.1 0 0) ∧ RQ S M N dn e ∧ RH S M (32 * K) dn ∧ Rre S M
theorem RA.now {S M : GS} {T : Nat × Int32} (h : RA S M T) : RA (gI S 0 (fun _ => S.1 0 0 + 1)) (gI M 1 (fun _ => M.1 1 0 + 1)) T := by
  have g : ∀ c, c ≠ 0 → (gI S 0 (fun _ => S.1 0 0 + 1)).1 c = S.1 c := fun c u => gI_n _ _ u
  have f : ∀ c, c ≠ 1 → (gI M 1 (fun _ => M.1 1 0 + 1)).1 c = M.1 c := fun c u => gI_n _ _ u
  obtain ⟨⟨h0, h00⟩, h⟩ := h
  refine ⟨⟨?_, ?_⟩, ?_⟩
  · rw [gI_s, gI_s, h0]
  · rw [gI_n _ _ (by decide)]; exact h00
  · unfold Rmx Rhi Rkm at h ⊢
    rw [g 1 (by simp), g 2 (by simp), g 3 (by simp), g 4 (by simp), g 5 (by simp), g 6 (by simp), g 13 (by simp), g 14 (by simp), g 15 (by simp), g 18 (by simp), g 19 (by simp), g 20 (by simp), g 21 (by simp), g 22 (by simp), g 23 (by simp), f 3 (by simp), f 7 (by simp), f 8 (by simp), f 10 (by simp), f 11 (by simp), f 12 (by simp), f 13 (by simp), f 16 (by simp), f 17 (by simp), f 18 (by simp), f 19 (by simp), f 20 (by simp), f 21 (by simp), f 22 (by simp)]
    exact h
set_option maxHeartbeats 4000000 in
theorem s_loop {T : Nat × Int32} {C0 j : Nat} (hC0 : C0 + 32 < 2 ^ 30) {WW : (Int32 → GS → Prop) → Prop} {post : Int32 → GS → Prop} (hpost : ∀ S' M' N' dn' e', N' ≤ 8 → RA S' M' T → RQ S' M' N' dn' e' → RH S' M' (C0 + 32) dn' → Rre S' M' → (∀ P : Int32 → GS → Prop, P (nI j) (gI M' 1 (fun _ => M'.1 1 0 + 1)) → WW P) → post (nI j) (gI S' 0 (fun _ => S'.1 0 0 + 1))) : ∀ f N i S M C dn e, N + 2 ≤ f → i + N ≤ 32 → C ≤ C0 + i → RA S M T → RQ S M N dn e → RH S M C dn → Rre S M → (∀ P, L_Mo_scanOnce_11 P f (nI j) 1 M → WW P) → L_G_runScan_16 post f (nI j) 1 (nI i) S := by
  intro f
  induction f with
  | zero => intro N i S M C dn e hf; exact absurd hf (by omega)
  | succ f ih =>
    intro N i S M C dn e hf hi hC hA hQ hH hR hW
    have hup : ∀ {C : Nat} {S' M' : GS} {dn' : Nat → Bool}, C ≤ C0 + 32 → RH S' M' C dn' → RH S' M' (C0 + 32) dn' := fun hc h => by
      obtain ⟨u1, ⟨⟨c, c1, c2⟩, u2⟩, u3⟩ := h
      exact ⟨u1, ⟨⟨c, by omega, c2⟩, u2⟩, u3⟩
    have hle0 : ∀ x, x ≤ 32 → (nI x ≤ (0 : Int32) ↔ x ≤ 0) := fun x hx => le24 (i := 0) (by omega) (by omega)
    have hq0 : N = 0 → ∀ P : Int32 → GS → Prop, P (nI j) (gI M 1 (fun _ => M.1 1 0 + 1)) → L_Mo_scanOnce_11 P (f + 1) (nI j) 1 M := fun hz P hP => by
      refine ⟨fun z => absurd z (by decide), fun _ => ⟨fun _ => hP, fun z => absurd ?_ z⟩⟩
      rw [hQ.1.2.1, hz]; decide
    refine ⟨fun z => absurd z (by decide), fun _ => ⟨fun z => ?_, fun z => ?_⟩⟩
    · have h32 : 32 ≤ i := (le24 (c := 32) (by omega) (by omega)).mp z
      exact hpost S M N dn e (by omega) hA hQ (hup (by omega) hH) hR (fun P hP => hW P (hq0 (by omega) P hP))
    · have h32 : ¬ 32 ≤ i := fun y => z ((le24 (c := 32) (by omega) (by omega)).mpr y)
      have hex : ∀ S' M' N' dn' e' C', C' ≤ C0 + 32 → N' ≤ 8 → RA S' M' T → RQ S' M' N' dn' e' → RH S' M' C' dn' → Rre S' M' → (∀ P : Int32 → GS → Prop, P (nI j) (gI M' 1 (fun _ => M'.1 1 0 + 1)) → WW P) → L_G_runScan_16 post f (nI j) 0 (nI i + 1) S' := fun S' M' N' dn' e' C' hc hn r1 r2 r3 r4 run => by
        obtain ⟨f', rfl⟩ : ∃ f', f = f' + 1 := ⟨f - 1, by omega⟩
        exact ⟨fun _ => hpost S' M' N' dn' e' hn r1 r2 (hup hc r3) r4 run, fun y => absurd rfl y⟩
      rcases Nat.eq_zero_or_pos N with hz | hpos
      · have hw : wp_G_takeFirst S (fun r27 S27 => L_G_runScan_16 post f (nI j) r27 (nI i + 1) S27) := by
          unfold wp_G_takeFirst wp_Eq_length
          refine ⟨fun _ => hex S M N dn e C (by omega) (by omega) hA hQ hH hR (fun P hP => hW P (hq0 hz P hP)), fun y => absurd ?_ y⟩
          rw [hQ.1.1, hz]; rfl
        exact hw
      · have hne : ¬ M.1 2 0 ≤ (0 : Int32) := by
          rw [hQ.1.2.1, hle0 N (by omega)]; omega
        refine s_first hA hQ hH hR hpos (by omega) (by omega) (fun r S' M' N' dn' e' hr r1 r2 r3 r4 run => ?_)
        rcases hr with ⟨q1, q2, q3⟩ | ⟨q1, q2⟩
        · subst q1
          refine hex S' M' N' dn' e' (C + 1) (by omega) (by omega) r1 r2 r3 r4 (fun P hP => hW P ⟨fun y => absurd y (by decide), fun _ => ⟨fun y => absurd y hne, fun _ => run _ ?_⟩⟩)
          obtain ⟨f', rfl⟩ : ∃ f', f = f' + 1 := ⟨f - 1, by omega⟩
          exact ⟨fun _ => hP, fun y => absurd rfl y⟩
        · subst q1
          rw [nI_1]
          exact ih N' (i + 1) S' M' (C + 1) dn' e' (by omega) (by omega) (by omega) r1 r2 r3 r4 (fun P hP => hW P ⟨fun y => absurd y (by decide), fun _ => ⟨fun y => absurd y hne, fun _ => run _ hP⟩⟩)
set_option maxHeartbeats 4000000 in
theorem s_scan {S M : GS} {K : Nat} (h : Rel S M K) (hK : K < 2 ^ 20) {post : Int32 → GS → Prop} (hp : ∀ j S' M', j ≤ 24 → Rel S' M' (K + 1) → M'.1 0 0 = M.1 0 0 → (∀ P : Int32 → GS → Prop, P (nI j) M' → wp_Mo_scanOnce M P) → post (nI j) S') : wp_G_runScan S post := by
  obtain ⟨N, dn, e, hN, hA, hQ, hH, hR⟩ := h
  unfold wp_G_runScan
  obtain ⟨M1, hlook, run1⟩ := dt_wp_Mo_look M _ (s_look hA.2.1)
  refine hlook _ (fun S1 a1 a2 a3 => ?_)
  have hnow1 : S1.1 0 0 = M1.1 1 0 := by rw [a1.1 0 (by simp), a2.1 1 (by simp)]; exact hA.1.1
  have hQ1 : RQ S1 M1 N dn e := hQ.up (fun c hc => a1.1 c (by revert hc; simp; omega)) (fun c hc => a2.1 c (by revert hc; simp; omega))
  have hHi1 : Rhi S1 M1 (24 * K) := by
    have := hA.2.2.1
    unfold Rhi at this ⊢
    rw [a1.1 5 (by simp), a1.1 6 (by simp), a1.1 15 (by simp), a2.1 3 (by simp), a2.1 16 (by simp)]
    exact this
  have hK1 : Rkm S1 M1 := by
    have := hA.2.2.2
    unfold Rkm at this ⊢
    rw [a1.1 18 (by simp), a1.1 19 (by simp), a1.1 20 (by simp), a1.1 21 (by simp), a1.1 22 (by simp), a1.1 23 (by simp), a2.1 17 (by simp), a2.1 18 (by simp), a2.1 19 (by simp), a2.1 20 (by simp), a2.1 21 (by simp), a2.1 22 (by simp)]
    exact this
  have hH1 : RH S1 M1 (32 * K) dn := hH.up (fun c hc => a1.1 c (by revert hc; simp; omega)) (fun c hc => a2.1 c (by revert hc; simp; omega))
  have hR1 : Rre S1 M1 := hR.up (fun c hc => a1.1 c (by revert hc; simp; omega)) a1.2 (fun c hc => a2.1 c (by revert hc; simp; omega))
  refine ⟨25, s_bring (T := 24 * K) (N0 := N) (dn := dn) hN hnow1 (fun P => wp_Mo_believe M1 P) _ (fun j S2 M2 hj hB run2 => ?_) 24 0 0 S1 M1 (by omega) (by omega) ⟨eqx.rf, eqx.rf, a3, hHi1, N, e, by omega, hQ1.1, hQ1.2.1, hQ1.2.2⟩ (fun P hP => ⟨25, hP⟩)⟩
  obtain ⟨b1, b2', b3, b4, N2, e2, hN2, b5, b6, b7⟩ := hB
  have hA2 : RA S2 M2 (24 * (K + 1), M.1 0 0) := by
    refine ⟨⟨?_, ?_⟩, b3, b4, ?_⟩
    · rw [b1.1 0 (by simp), b2'.1 1 (by simp)]; exact hnow1
    · rw [b2'.1 0 (by simp), a2.1 0 (by simp)]
    · unfold Rkm at hK1 ⊢
      rw [b1.1 18 (by simp), b1.1 19 (by simp), b1.1 20 (by simp), b1.1 21 (by simp), b1.1 22 (by simp), b1.1 23 (by simp), b2'.1 17 (by simp), b2'.1 18 (by simp), b2'.1 19 (by simp), b2'.1 20 (by simp), b2'.1 21 (by simp), b2'.1 22 (by simp)]
      exact hK1
  have hQ2 : RQ S2 M2 N2 dn e2 := ⟨b5, b6, b7⟩
  have hH2 : RH S2 M2 (32 * K) dn := hH1.up (fun c hc => b1.1 c (by revert hc; simp; omega)) (fun c hc => b2'.1 c (by revert hc; simp; omega))
  have hR2 : Rre S2 M2 := hR1.up (fun c hc => b1.1 c (by revert hc; simp; omega)) b1.2 (fun c hc => b2'.1 c (by revert hc; simp; omega))
  refine ⟨N2 + 2, s_loop (T := (24 * (K + 1), M.1 0 0)) (C0 := 32 * K) (by omega) (WW := fun P => wp_Mo_scanOnce M P) (fun S' M' N' dn' e' hN' r1 r2 r3 r4 run => ?_) (N2 + 2) N2 0 S2 M2 (32 * K) dn e2 (by omega) (by omega) (by omega) hA2 hQ2 hH2 hR2 (fun P hP => run1 _ (run2 _ ⟨N2 + 2, hP⟩))⟩
  have hf0 : (gI M' 1 (fun _ => M'.1 1 0 + 1)).1 0 0 = M.1 0 0 := by rw [gI_n _ _ (by decide)]; exact r1.1.2
  refine hp j _ _ hj ⟨N', dn', e', hN', by rw [hf0]; exact r1.now, r2.up (fun c hc => gI_n _ _ (by revert hc; simp; omega)) (fun c hc => gI_n _ _ (by revert hc; simp; omega)), ?_, r4.up (fun c hc => gI_n _ _ (by revert hc; simp; omega)) rfl (fun c hc => gI_n _ _ (by revert hc; simp; omega))⟩ hf0 run
  exact r3.up (fun c hc => gI_n _ _ (by revert hc; simp; omega)) (fun c hc => gI_n _ _ (by revert hc; simp; omega))
