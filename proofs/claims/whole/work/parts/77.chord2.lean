theorem q_tc {M : GS} {e : Nat → Nat} {N b n : Nat} {P : GS → Prop} (h : QM M e N) (hb : b < 4) (hs : sumB (M.1 21 b) = n) (hn : n ≤ N) (hr : wp_Mo_change (cM (gI M 4 (fun _ => M.1 4 0 + 1)) e (M.1 22 b) (M.1 4 0 + 1) n) (M.1 22 b) 1 (fun S83 => wp_Mo_drop S83 (nI n) (fun S88 => wp_Mo_disarm S88 P))) : wp_Mo_takeChord M (nI b) P := by
  have h2 := h.2.1
  have hin := in_nI (n := 4) hb (by omega)
  have c1 : (nI b).toNatClampNeg = b := nI_clamp (by omega)
  unfold wp_Mo_takeChord
  rw [c1]
  refine ⟨hin, q_bits ?_⟩
  rw [hs]
  clear hs
  generalize hv : M.1 22 b = v at hr
  have h22 : (gI M 4 (fun _ => M.1 4 0 + 1)).1 22 b = v := by rw [gI_n _ _ (by decide)]; exact hv
  have h14 : (gI M 4 (fun _ => M.1 4 0 + 1)).1 14 = M.1 14 := gI_n _ _ (by decide)
  have h4 : (gI M 4 (fun _ => M.1 4 0 + 1)).1 4 0 = M.1 4 0 + 1 := by rw [gI_s]
  revert hr h22 h14 h4
  generalize gI M 4 (fun _ => M.1 4 0 + 1) = M0
  generalize M.1 4 0 + 1 = id
  intro hr h22 h14 h4
  refine pk_loop (fun q i (U : GS) => L_Mo_takeChord_22 P q (nI b) (nI n) (nI i) U) (fun i U => U = cM M0 e v id i) n 0 M0 (by omega) rfl ?_ ?_
  · intro q U hU
    have hx := cM_x M0 e v id n
    rw [← hU] at hx hr
    refine ⟨fun _ => ⟨hin, ?_⟩, fun z => absurd ((le24 (by omega) (by omega)).mpr (Nat.le_refl _)) z⟩
    rw [c1, hx.1 22 (by simp), h22]
    exact hr
  · intro q i U hi hU ih
    have hx := cM_x M0 e v id i
    have hstep : cM M0 e v id (i + 1) = gI (gI (gI (cM M0 e v id i) 25 (upd ((cM M0 e v id i).1 25) (e i / 2) 3)) 26 (upd ((cM M0 e v id i).1 26) (e i / 2) v)) 27 (upd ((cM M0 e v id i).1 27) (e i / 2) id) := rfl
    rw [← hU] at hx hstep
    have hei := h.2.2 i (by omega)
    show (nI n ≤ nI i → _) ∧ (¬ nI n ≤ nI i → _)
    have c2 : (nI i).toNatClampNeg = i := nI_clamp (by omega)
    have c3 : (nI (e i / 2)).toNatClampNeg = e i / 2 := nI_clamp (by omega)
    have hin3 := in_nI (i := e i / 2) (n := 24) (by omega) (by omega)
    rw [c1, c2, hx.1 14 (by simp), hx.1 22 (by simp), hx.1 4 (by simp), h14, h22, h4, hei.2, e_div _ hei.1, c3, nI_1]
    exact ⟨fun z => absurd ((le24 (by omega) (by omega)).mp z) (by omega), fun _ => ⟨in_nI (by omega) (by omega), hin3, hin, hin3, hin3, ih _ hstep.symm⟩⟩
set_option maxHeartbeats 2000000 in
theorem s_chord {S M : GS} {T : Nat × Int32} {C N m b : Nat} {dn : Nat → Bool} {e : Nat → Nat} (hA : RA S M T) (hQ : RQ S M N dn e) (hH : RH S M C dn) (hR : Rre S M) (hN2 : N ≤ 32) (hC : C < 2 ^ 30) (hb : b < 4) (hm : m ≤ N) (hI : isC (S.1 22) e m b) (hpr : ∀ i, i < m → e i % 2 = 1) {post : GS → Prop} (hp : ∀ S' M' N' dn' e', N' < N → RA S' M' T → RQ S' M' N' dn' e' → RH S' M' (C + 1) dn' → Rre S' M' → (∀ P : GS → Prop, P M' → wp_Mo_takeChord M (nI b) P) → post S') : wp_G_takeChord S (nI b) post := by
  obtain ⟨i1, i2, i3⟩ := hI
  obtain ⟨k1, k2, k3, k4⟩ := hA.2.2.2.2.2 b hb
  have hQS := hQ.s hN2
  have hin := in_nI (n := 4) hb (by omega)
  generalize hn : sumB (S.1 22 b) = n at i1 i2 i3
  have he48 : ∀ i, i < n → e i < 48 := fun i hi => (hQS.2.2 i (by omega)).1
  have hbx : ∀ j, j < 24 → (bt (S.1 22 b) j = true ↔ ∃ i, i < n ∧ e i / 2 = j) := fun j hj => by rw [← i3]; exact keysN_bt he48 j hj
  have hx0 : S.1 22 b ≠ 0 := (lo_ne0 k3).mpr ⟨e 0 / 2, by have := he48 0 i1; omega, (hbx _ (by have := he48 0 i1; omega)).mpr ⟨0, i1, rfl⟩⟩
  have hcod := k4 hx0
  obtain ⟨w, w1, w2, w3⟩ := hcod
  have hfree : ∀ j, j < 24 → bt (S.1 22 b) j = true → M.1 25 j = 0 := fun j hj hz => by
    obtain ⟨i, z1, z2⟩ := (hbx j hj).mp hz
    have := hQ.2.1.free (n := n) (by omega) (fun i hi => hpr i (by omega)) z1
    rw [z2] at this
    refine Classical.byContradiction (fun y => ?_)
    rw [hH.2.2 j hj y] at this
    exact absurd this (by decide)
  unfold wp_G_takeChord wp_Ch_keysOf wp_Ch_codeOf
  rw [nI_clamp (by omega)]
  refine ⟨hin, hin, p_bits k3 ?_⟩
  rw [hn]
  refine p_remove (m := n) hQ.1.1 hN2 (by omega) (fun S1 a1 a2 a3 => ?_)
  refine p_begin (fun S2 b1 b2' b3 => ?_)
  have hS2 : eqx [7, 16, 17, 25, 26] S S2 := (a1.up (by simp)).tr (b1.up (by simp))
  have hxM := cM_x (gI M 4 (fun _ => M.1 4 0 + 1)) e (M.1 22 b) (M.1 4 0 + 1) n
  have hfM := cM_f (gI M 4 (fun _ => M.1 4 0 + 1)) e (M.1 22 b) (M.1 4 0 + 1) n he48
  generalize hM1 : cM (gI M 4 (fun _ => M.1 4 0 + 1)) e (M.1 22 b) (M.1 4 0 + 1) n = M1 at hxM hfM
  have hMM1 : eqr [4, 25, 26, 27] M M1 := (eqr.rf.gI (by simp) _).tr (hxM.r.up (by simp))
  have hRH : RH S2 M1 (C + 1) (dst dn e n) := by
    refine hH.chord (b' := 0) hC k3 ⟨w, w1, w2, w3⟩ hfree hbx (fun i hi => hpr i (by omega)) (hS2.1 8 (by simp)) (hS2.1 9 (by simp)) (hS2.1 24 (by simp)) (fun k hk => ?_) (fun k hk => ?_) ?_ (hMM1 23 (by simp)) (hMM1 24 (by simp)) (fun k hk => ?_)
    · rw [b2' k hk, a1.1 25 (by simp)]
    · rw [b3 k hk, a1.1 26 (by simp)]
    · rw [hxM.1 4 (by simp), gI_s]
    · have := hfM k hk
      rw [i3, k2, gI_n _ _ (show 25 ≠ 4 by decide), gI_n _ _ (show 26 ≠ 4 by decide), gI_n _ _ (show 27 ≠ 4 by decide)] at this
      exact this
  have hRre : Rre S2 M1 := hR.up (fun c hc => hS2.1 c (by revert hc; simp; omega)) hS2.2 (fun c hc => hMM1 c (by revert hc; simp; omega))
  rw [w3]
  refine s_down hRre w2 (fun S3 M2 d1 d2 d3 run => ?_)
  have hM2 : eqr [4, 5, 6, 25, 26, 27, 28, 29] M M2 := (hMM1.up (by simp)).tr (d2.up (by simp))
  obtain ⟨M3, ⟨m1, m2, m3⟩, hrun3⟩ := dt_wp_Mo_drop M2 (nI n) (fun M' => eqx [2, 14, 15] M2 M' ∧ M'.1 2 0 = nI (N - n) ∧ ∀ i, i < N - n → M'.1 14 i = M2.1 14 (i + n) ∧ M'.1 15 i = M2.1 15 (i + n)) (q_drop (N := N) (m := n) (by rw [hM2 2 (by simp)]; exact hQ.1.2.1) hN2 (by omega) (fun M' u v w => ⟨u, v, w⟩))
  obtain ⟨M4, ⟨n1, n2⟩, hrun4⟩ := dt_wp_Mo_disarm M3 (fun M' => eqx [24] M3 M' ∧ ∀ l, l < 4 → M'.1 24 l = 0) (q_disarm (fun M' u v => ⟨u, v⟩))
  have hS3 : eqr [7, 11, 12, 16, 17, 25, 26, 27] S S3 := (hS2.r.up (by simp)).tr (d1.up (by simp))
  have hM4 : eqr [2, 4, 5, 6, 14, 15, 24, 25, 26, 27, 28, 29] M M4 := ((hM2.up (by simp)).tr (m1.r.up (by simp))).tr (n1.r.up (by simp))
  unfold wp_La_disarm
  refine hp _ M4 (N - n) (dst dn e n) (fun i => e (i + n)) (by omega) (hA.up ((hS3.up (by simp)).gI (by simp) _) (hM4.up (by simp))) (hQ.drop (by omega) ?_ (fun i hi => ?_) ?_ (fun i hi => ?_) (hM4 13 (by simp))) ?_ ?_ (fun P hP => q_tc (hQ.m hN2) hb (n := n) (by rw [k1, hn]) (by omega) ?_)
  · rw [gI_n _ _ (by decide), d1 7 (by simp), b1.1 7 (by simp)]; exact a2
  · rw [gI_n _ _ (by decide), gI_n _ _ (by decide), d1 16 (by simp), d1 17 (by simp), b1.1 16 (by simp), b1.1 17 (by simp)]; exact a3 i hi
  · rw [n1.1 2 (by simp)]; exact m2
  · rw [n1.1 14 (by simp), n1.1 15 (by simp), (m3 i hi).1, (m3 i hi).2, hM2 14 (by simp), hM2 15 (by simp)]; exact ⟨rfl, rfl⟩
  · have hRH3 : RH S3 M3 (C + 1) (dst dn e n) := hRH.up (fun c hc => d1 c (by revert hc; simp; omega)) (fun c hc => (m1.1 c (by revert hc; simp; omega)).trans (d2 c (by revert hc; simp; omega)))
    exact hRH3.disarm n1 n2
  · exact d3.up (fun c hc => gI_n _ _ (by revert hc; simp; omega)) rfl (fun c hc => (n1.1 c (by revert hc; simp; omega)).trans (m1.1 c (by revert hc; simp; omega)))
  · rw [hM1, k2, w3]
    exact run _ (hrun3 _ (hrun4 P hP))
