set_option maxHeartbeats 2000000 in
theorem s_release {S M : GS} {T : Nat × Int32} {C N : Nat} {dn : Nat → Bool} {e : Nat → Nat} (hA : RA S M T) (hQ : RQ S M N dn e) (hH : RH S M C dn) (hR : Rre S M) (hN : 0 < N) (hN2 : N ≤ 32) (h0 : e 0 % 2 = 0) {post : GS → Prop} (hp : ∀ S' M' dn' e', RA S' M' T → RQ S' M' (N - 1) dn' e' → RH S' M' C dn' → Rre S' M' → (∀ P : GS → Prop, P M' → wp_Mo_takeRelease M (nI (e 0 / 2)) (fun S22 => wp_Mo_drop S22 1 P)) → post S') : wp_G_takeRelease S post := by
  have hQS := hQ.s hN2
  have he0 := (hQS.2.2 0 hN).1
  generalize hk' : e 0 / 2 = k at hp
  have hk : k < 24 := by omega
  have hdn : dst dn e 1 = fun j => if k = j then false else dn j := funext (fun j => by
    show (if e 0 / 2 = j then decide (e 0 % 2 = 1) else dn j) = _
    rw [hk', decide_eq_false (show ¬ e 0 % 2 = 1 by omega)])
  unfold wp_G_takeRelease
  refine p_keyAt (i := 0) hQS hN ?_
  rw [hk']
  refine p_remove (m := 1) hQ.1.1 hN2 hN (fun S1 a1 a2 a3 => ?_)
  refine p_letGo (fun S2 b1 b2' => ?_)
  have hS2 : eqx [7, 16, 17, 24] S S2 := (a1.up (by simp)).tr (b1.up (by simp))
  have hin := in_nI (n := 24) hk (by omega)
  have fin : ∀ S' M2, eqr [7, 11, 12, 16, 17, 24, 25, 26, 27] S S' → eqr [5, 6, 25, 28, 29] M M2 → S'.1 7 = S2.1 7 → S'.1 16 = S2.1 16 → S'.1 17 = S2.1 17 → RH S' M2 C (fun j => if k = j then false else dn j) → Rre S' M2 → (∀ P : GS → Prop, P M2 → wp_Mo_takeRelease M (nI k) P) → post S' := fun S' M2 x1 x2 x3 x4 x5 x6 x7 run => by
    obtain ⟨M', ⟨m1, m2, m3⟩, hrun⟩ := dt_wp_Mo_drop M2 (nI 1) (fun M' => eqx [2, 14, 15] M2 M' ∧ M'.1 2 0 = nI (N - 1) ∧ ∀ i, i < N - 1 → M'.1 14 i = M2.1 14 (i + 1) ∧ M'.1 15 i = M2.1 15 (i + 1)) (q_drop (N := N) (m := 1) (by rw [x2 2 (by simp)]; exact hQ.1.2.1) hN2 hN (fun M' u v w => ⟨u, v, w⟩))
    have hM' : eqr [2, 5, 6, 14, 15, 25, 28, 29] M M' := (x2.up (by simp)).tr (m1.r.up (by simp))
    refine hp S' M' (dst dn e 1) (fun i => e (i + 1)) (hA.up (x1.up (by simp)) (hM'.up (by simp))) (hQ.drop hN ?_ (fun i hi => ?_) m2 (fun i hi => ?_) (hM' 13 (by simp))) ?_ (x7.up (fun c _ => rfl) rfl (fun c hc => m1.1 c (by revert hc; simp; omega))) (fun P hP => run _ (hrun P hP))
    · rw [x3, b1.1 7 (by simp)]; exact a2
    · rw [x4, x5, b1.1 16 (by simp), b1.1 17 (by simp)]; exact a3 i hi
    · rw [(m3 i hi).1, (m3 i hi).2, x2 14 (by simp), x2 15 (by simp)]; exact ⟨rfl, rfl⟩
    · rw [hdn]
      exact x6.up (fun c _ => rfl) (fun c hc => m1.1 c (by revert hc; simp; omega))
  obtain ⟨q1, q2, q3, q4, q5⟩ := hH.2.1.2 k hk
  have hS24 : ∀ l, l < 4 → S2.1 24 l = S.1 24 l &&& (bit k ^^^ (-1)) := fun l hl => by rw [b2' l hl, a1.1 24 (by simp)]
  have hM1 : eqr [25] M (gI M 25 (relF M k 24)) := eqr.rf.gI (by simp) _
  unfold wp_Ho_end
  rw [nI_clamp (by omega), hS2.1 25 (by simp), hS2.1 26 (by simp)]
  by_cases hc : M.1 25 k = 1 ∨ M.1 25 k = 3
  · obtain ⟨⟨w, w1, w2, w3⟩, w4⟩ := q2 hc
    rw [w4, w3]
    have wne : nI w ≠ 0 := nI_ne (b := 0) (by omega) (by omega) (by omega)
    have hbx : ∀ j, j < 24 → bt (S.1 26 k) j = (decide (j = k) || relB M k j) := fun j hj => by
      rcases hc with c1 | c3
      · rw [q4 c1, bt_bit hk hj]
        have : relB M k j = false := by
          cases hb : relB M k j
          · rfl
          · have := (relB_t.mp hb).1; rw [c1] at this; exact absurd this (by decide)
        rw [this, Bool.or_false]
      · have := (q5 c3).2 j hj
        cases hb : bt (S.1 26 k) j
        · symm
          rw [Bool.or_eq_false_iff, decide_eq_false_iff_not]
          rw [hb] at this
          refine ⟨fun z => ?_, ?_⟩
          · rw [z] at this; exact absurd (this.mpr ⟨c3, rfl⟩) (by decide)
          · cases hr : relB M k j
            · rfl
            · exact absurd (this.mpr (relB_t.mp hr).2.2) (by decide)
        · have h2 := this.mp hb
          rw [relB_t.mpr ⟨c3, hj, h2⟩, Bool.or_true]
    refine ⟨hin, fun z => absurd z wne, fun _ => ⟨hin, p_begin (fun S3 c1 c2 c3 => ⟨fun z => absurd z wne, fun _ => ?_⟩)⟩⟩
    have hS3 : eqx [7, 16, 17, 24, 25, 26] S S3 := (hS2.up (by simp)).tr (c1.up (by simp))
    have hRH : RH S3 (gI M 25 (relF M k 24)) C (fun j => if k = j then false else dn j) := by
      refine hH.rel hk (hS3.1 8 (by simp)) (hS3.1 9 (by simp)) (fun l hl => ?_) (fun j hj => ?_) (fun j hj z => ?_)
      · rw [c1.1 24 (by simp)]; exact hS24 l hl
      · rw [c2 j hj, hbx j hj, hS2.1 25 (by simp)]
      · rw [c3 j hj, hbx j hj, z, hS2.1 26 (by simp)]; rfl
    have hRre : Rre S3 (gI M 25 (relF M k 24)) := hR.up (fun c hc => hS3.1 c (by revert hc; simp; omega)) hS3.2 (fun c hc => hM1 c (by revert hc; simp; omega))
    refine s_up hRre w2 (fun S4 M2 d1 d2 d3 run => ?_)
    refine fin S4 M2 ((hS3.r.up (by simp)).tr (d1.up (by simp))) ((hM1.up (by simp)).tr (d2.up (by simp))) ?_ ?_ ?_ ?_ d3 (fun P hP => q_rel hk (fun _ => by rw [w3]; exact run P hP) (fun z => absurd hc z))
    · rw [d1 7 (by simp), c1.1 7 (by simp)]
    · rw [d1 16 (by simp), c1.1 16 (by simp)]
    · rw [d1 17 (by simp), c1.1 17 (by simp)]
    · exact hRH.up (fun c hc => d1 c (by revert hc; simp; omega)) (fun c hc => d2 c (by revert hc; simp; omega))
  · have hz : S.1 25 k = 0 := q3 (by
      rcases q1 with z | z | z | z
      · exact Or.inl z
      · exact absurd (Or.inl z) hc
      · exact Or.inr z
      · exact absurd (Or.inr z) hc)
    rw [hz]
    refine ⟨hin, fun _ => ⟨fun _ => ?_, fun z => absurd rfl z⟩, fun z => absurd rfl z⟩
    have hnb : ∀ j, relB M k j = false := fun j => by
      cases hb : relB M k j
      · rfl
      · exact absurd (Or.inr (relB_t.mp hb).1) hc
    refine fin S2 _ (hS2.r.up (by simp)) (hM1.up (by simp)) rfl rfl rfl ?_ ?_ (fun P hP => q_rel hk (fun z => absurd z hc) (fun _ => hP))
    · refine hH.rel hk (hS2.1 8 (by simp)) (hS2.1 9 (by simp)) hS24 (fun j hj => ?_) (fun j hj z => ?_)
      · rw [hS2.1 25 (by simp), hnb j, Bool.or_false]
        by_cases ej : j = k
        · rw [ej, hz]; simp
        · simp [ej]
      · rw [hS2.1 26 (by simp)]
    · exact hR.up (fun c hc => hS2.1 c (by revert hc; simp; omega)) hS2.2 (fun c hc => hM1 c (by revert hc; simp; omega))
