def ACT (M : GS) (k : Nat) (x2 x3 : Int32) (P : Int32 → GS → Prop) : Prop := wp_Mo_topOf M (nI k) (fun r66 => (((0 : Int32) ≤ r66 → J_Mo_takeFirst_89 P (nI k) x2 x3 r66 (nI k) ((24 : Int32) * r66 + nI k) M) ∧ (¬ (0 : Int32) ≤ r66 → J_Mo_takeFirst_89 P (nI k) x2 x3 r66 (nI k) (-1) M)))
set_option maxHeartbeats 4000000 in
theorem s_act {S M : GS} {T : Nat × Int32} {C N k : Nat} {dn : Nat → Bool} {e : Nat → Nat} (x2 x3 : Int32) (hA : RA S M T) (hQ : RQ S M N dn e) (hH : RH S M C dn) (hR : Rre S M) (hN : 0 < N) (hN2 : N ≤ 32) (hk' : e 0 / 2 = k) (h1 : e 0 % 2 = 1)
    {post : Int32 → GS → Prop} (hp : ∀ r S' M' N' dn' e', ((r = 0 ∧ N' = N ∧ N ≤ 8) ∨ (r = 1 ∧ N' = N - 1)) → RA S' M' T → RQ S' M' N' dn' e' → RH S' M' C dn' → Rre S' M' → (∀ P : Int32 → GS → Prop, P r M' → ACT M k x2 x3 P) → post r S') : wp_G_takeByAction S post := by
  have hQS := hQ.s hN2
  have hQM := hQ.m hN2
  have he0 := (hQS.2.2 0 hN).1
  have hk : k < 24 := by omega
  have hkm : ∀ i, i < 96 → M.1 17 i = S.1 18 i := fun i hi => (hA.2.2.2.1 i hi).1
  unfold wp_G_takeByAction
  refine p_keyAt (i := 0) hQS hN ?_
  rw [hk']
  refine p_top hk ?_
  have hact : ∀ P : Int32 → GS → Prop, ((0 : Int32) ≤ topN S k → wp_Mo_act M (nI k) ((24 : Int32) * topN S k + nI k) (fun r89 S89 => ((r89 = 0 → P 0 S89) ∧ (¬ r89 = 0 → wp_Mo_drop S89 1 (fun S99 => P 1 S99))))) → (¬ (0 : Int32) ≤ topN S k → wp_Mo_act M (nI k) (-1) (fun r89 S89 => ((r89 = 0 → P 0 S89) ∧ (¬ r89 = 0 → wp_Mo_drop S89 1 (fun S99 => P 1 S99))))) → ACT M k x2 x3 P := fun P u v => q_top hH.1 hkm hk ⟨fun z => u z, fun z => v z⟩
  rcases topN_is S k with ht | ⟨l, hl, ht, hne⟩
  · rw [ht] at hact ⊢
    refine ⟨fun _ => ⟨fun z => absurd z (by decide), fun _ => ?_⟩, fun z => absurd rfl z⟩
    refine ⟨fun z => absurd z (by decide), fun _ => ?_⟩
    refine s_do (a := 0) (bb := 0) (ax := -1) hA hQ hH hR hN hN2 hk' h1 (Or.inl rfl) (fun z => absurd z (by decide)) (fun S1 _ Q hq => ⟨fun _ => hq, fun z => absurd rfl z⟩) (fun z => absurd z (by decide)) (fun z => absurd z (by decide)) (fun S' M' dn' e' r1 r2 r3 r4 run => hp 1 S' M' (N - 1) dn' e' (Or.inr ⟨rfl, rfl⟩) r1 r2 r3 r4 (fun P hP => hact P (fun z => absurd z (by decide)) (fun _ => ?_)))
    exact ⟨fun z => absurd z (by decide), fun _ => ⟨fun z => absurd z (by decide), fun _ => ⟨fun z => absurd z (by decide), fun _ => run P hP⟩⟩⟩
  · rw [ht] at hact ⊢
    generalize hpl : 24 * l + k = p at hne
    have hp96 : p < 96 := by omega
    have hin := in_nI (n := 96) hp96 (by omega)
    have cp : (nI p).toNatClampNeg = p := nI_clamp (by omega)
    obtain ⟨k1, k2, k3, k4⟩ := hA.2.2.2.1 p hp96
    have hge : ∀ x, x < 2 ^ 31 → (0 : Int32) ≤ nI x := fun x hx => (le24 (c := 0) (by omega) hx).mpr (Nat.zero_le _)
    rw [pl_2, hpl] at hact
    have hs0 : S.1 17 0 = M.1 15 0 := (hQ.1.2.2 0 hN).2.2.2
    have hnow : S.1 0 0 = M.1 1 0 := hA.1.1
    have hACT : ∀ (Q : Int32 → GS → Prop), J_Mo_act_44 Q (nI k) (nI p) (S.1 18 p) (S.1 19 p) (if S.1 18 p = 5 then tapV e N (S.1 17 0) (S.1 0 0) else 1) M → wp_Mo_act M (nI k) (nI p) Q := fun Q hq => by
      unfold wp_Mo_act J_Mo_act_14 J_Mo_act_29
      rw [cp, k1, k2]
      refine ⟨fun _ => ⟨hin, fun _ => ⟨hin, fun z => ?_, fun z => ?_⟩, fun z => absurd (hge p (by omega)) z⟩, fun z => absurd (hge p (by omega)) z⟩
      · rw [if_pos z] at hq
        refine q_tapOf hQM hN ?_
        rw [← hs0, ← hnow]
        exact hq
      · rw [if_neg z] at hq; exact hq
    have hKa : ∀ S1 : GS, S1.1 19 = S.1 19 → ∀ Q : Int32 → Prop, Q (S.1 19 p) → wp_Km_a S1 (nI l) (nI k) Q := fun S1 h Q hq => ⟨fun z => absurd z (ne_m1 l (by omega)), fun _ => by rw [pl_1, hpl, cp, h]; exact ⟨hin, hq⟩⟩
    have hKb : ∀ S1 : GS, S1.1 20 = S.1 20 → ∀ Q : Int32 → Prop, Q (S.1 20 p) → wp_Km_b S1 (nI l) (nI k) Q := fun S1 h Q hq => ⟨fun z => absurd z (ne_m1 l (by omega)), fun _ => by rw [pl_1, hpl, cp, h]; exact ⟨hin, hq⟩⟩
    have hmb : vp_in (nI p) 96 ∧ M.1 19 (nI p).toNatClampNeg = S.1 20 p := ⟨hin, by rw [cp]; exact k3⟩
    refine ⟨fun z => absurd z (ne_m1 l (by omega)), fun _ => ?_⟩
    rw [pl_1, hpl, cp]
    refine ⟨hin, fun z => p_gTap hQS hN ⟨fun _ => ⟨fun y => ?_, fun y => ?_⟩, fun y => absurd z y⟩, fun z => ⟨fun y => absurd y z, fun _ => ?_⟩⟩
    · rcases tapV_is e N (S.1 17 0) (S.1 0 0) with w | w | w
      · refine hp 0 S M N dn e (Or.inl ⟨rfl, rfl, w.2⟩) hA hQ hH hR (fun P hP => hact P (fun _ => hACT _ ?_) (fun v => absurd (hge l (by omega)) v))
        rw [if_pos z, y]
        exact ⟨fun _ => ⟨fun _ => hP, fun v => absurd rfl v⟩, fun v => absurd rfl v⟩
      · rw [y] at w; exact absurd w (by decide)
      · rw [y] at w; exact absurd w (by decide)
    · refine s_do (ax := nI p) hA hQ hH hR hN hN2 hk' h1 k4 (fun _ => ?_) hKa (fun _ => hKb) (fun _ => hmb) (fun S' M' dn' e' r1 r2 r3 r4 run => hp 1 S' M' (N - 1) dn' e' (Or.inr ⟨rfl, rfl⟩) r1 r2 r3 r4 (fun P hP => hact P (fun _ => hACT _ (run P hP)) (fun v => absurd (hge l (by omega)) v)))
      rcases tapV_is e N (S.1 17 0) (S.1 0 0) with w | w | w
      · exact absurd w.1 y
      · exact Or.inl w
      · exact Or.inr w
    · refine s_do (ax := nI p) hA hQ hH hR hN hN2 hk' h1 k4 (fun v => absurd v z) hKa (fun v => absurd v z) (fun v => absurd v z) (fun S' M' dn' e' r1 r2 r3 r4 run => hp 1 S' M' (N - 1) dn' e' (Or.inr ⟨rfl, rfl⟩) r1 r2 r3 r4 (fun P hP => hact P (fun _ => hACT _ ?_) (fun v => absurd (hge l (by omega)) v)))
      have := run P hP
      rw [if_neg z] at this ⊢
      exact this
set_option maxHeartbeats 4000000 in
theorem s_first {S M : GS} {T : Nat × Int32} {C N : Nat} {dn : Nat → Bool} {e : Nat → Nat} (hA : RA S M T) (hQ : RQ S M N dn e) (hH : RH S M C dn) (hR : Rre S M) (hN : 0 < N) (hN2 : N ≤ 32) (hC : C < 2 ^ 30)
    {post : Int32 → GS → Prop} (hp : ∀ r S' M' N' dn' e', ((r = 0 ∧ N' = N ∧ N ≤ 8) ∨ (r = 1 ∧ N' < N)) → RA S' M' T → RQ S' M' N' dn' e' → RH S' M' (C + 1) dn' → Rre S' M' → (∀ P : Int32 → GS → Prop, P r M' → wp_Mo_takeFirst M P) → post r S') : wp_G_takeFirst S post := by
  have hQS := hQ.s hN2
  have hQM := hQ.m hN2
  have he0 := (hQS.2.2 0 hN).1
  have hup : ∀ {S' M' : GS} {dn' : Nat → Bool}, RH S' M' C dn' → RH S' M' (C + 1) dn' := fun h => by
    obtain ⟨u1, ⟨⟨c, c1, c2⟩, u2⟩, u3⟩ := h
    exact ⟨u1, ⟨⟨c, by omega, c2⟩, u2⟩, u3⟩
  have hs0 : S.1 17 0 = M.1 15 0 := (hQ.1.2.2 0 hN).2.2.2
  have hnow : S.1 0 0 = M.1 1 0 := hA.1.1
  have c0 : (0 : Int32).toNatClampNeg = 0 := rfl
  have hin0 := in_nI (i := 0) (n := 80) (by omega) (by omega)
  have hck : ∀ c, c < 4 → M.1 21 c = S.1 22 c := fun c hc => (hA.2.2.2.2.2 c hc).1
  unfold wp_G_takeFirst wp_Eq_length
  have hn0 : nI N = (0 : Int32) ↔ N = 0 := nI_inj (b := 0) (by omega) (by omega)
  dsimp only
  rw [hQS.1, hn0]
  have href : ∀ P : Int32 → GS → Prop, (e 0 % 2 = 0 → wp_Mo_takeRelease M (nI (e 0 / 2)) (fun S22 => wp_Mo_drop S22 1 (fun S27 => P 1 S27))) → (e 0 % 2 = 1 → wp_Mo_rowLength M (fun r33 => wp_Mo_waitsForChord M r33 (fun r39 => ((r39 = (0 : Int32) → wp_Mo_chordOf M r33 (fun r49 => ((r49 < (0 : Int32) → ACT M (e 0 / 2) r33 r49 P) ∧ (¬ r49 < (0 : Int32) → wp_Mo_takeChord M r49 (fun S59 => P 1 S59))))) ∧ (¬ r39 = (0 : Int32) → P 0 M))))) → wp_Mo_takeFirst M P := fun P u v => by
    unfold wp_Mo_takeFirst
    rw [c0, (hQM.2.2 0 hN).2, e_rem _ he0, e_div _ he0]
    refine ⟨hin0, hin0, fun z => u ?_, fun z => v ?_⟩
    · rcases Nat.mod_two_eq_zero_or_one (e 0) with w | w
      · exact w
      · rw [w] at z; exact absurd z (by decide)
    · rcases Nat.mod_two_eq_zero_or_one (e 0) with w | w
      · rw [w] at z; exact absurd rfl z
      · exact w
  refine ⟨fun z => absurd z (by omega), fun _ => p_isPress (i := 0) hQS hN ?_⟩
  rcases Nat.mod_two_eq_zero_or_one (e 0) with h0 | h1
  · rw [h0]
    refine ⟨fun _ => ?_, fun z => absurd rfl z⟩
    exact s_release hA hQ hH hR hN hN2 h0 (fun S' M' dn' e' r1 r2 r3 r4 run => hp 1 S' M' (N - 1) dn' e' (Or.inr ⟨rfl, by omega⟩) r1 r2 (hup r3) r4 (fun P hP => href P (fun _ => run _ hP) (fun z => absurd z (by omega))))
  · rw [h1]
    refine ⟨fun z => absurd z (by decide), fun _ => p_row hQS ?_⟩
    have hrc : rowF (M.1 15) e N 0 = rowF (S.1 17) e N 0 := rowF_congr (N := N) (fun i hi => ((hQ.1.2.2 i hi).2.2.2).symm) N 0 (by omega)
    have hrl := (rowF_le (S.1 17) e N 0).2
    have hrp := rowF_pr (S.1 17) e N 0
    generalize rowF (S.1 17) e N 0 = m at hrc hrl hrp
    rw [Nat.zero_add] at hrl
    refine p_waits hQS hN hrl ?_
    have hw : wts (M.1 21) e (M.1 15 0) (M.1 1 0) N m = wts (S.1 22) e (S.1 17 0) (S.1 0 0) N m := by
      unfold wts
      rw [gw_congr hck, hs0, hnow]
    have href2 : ∀ P : Int32 → GS → Prop, (wts (S.1 22) e (S.1 17 0) (S.1 0 0) N m = false → wp_Mo_chordOf M (nI m) (fun r49 => ((r49 < (0 : Int32) → ACT M (e 0 / 2) (nI m) r49 P) ∧ (¬ r49 < (0 : Int32) → wp_Mo_takeChord M r49 (fun S59 => P 1 S59))))) → (wts (S.1 22) e (S.1 17 0) (S.1 0 0) N m = true → P 0 M) → wp_Mo_takeFirst M P := fun P u v => href P (fun z => absurd z (by omega)) (fun _ => q_row hQM (by
      rw [hrc]
      refine q_waits hQM hN hrl ?_
      rw [hw, b2_0]
      exact ⟨u, fun z => v (by simpa using z)⟩))
    rw [b2_0]
    refine ⟨fun hwf => ?_, fun hwt => ?_⟩
    · refine p_longest hQS hrl (fun c hc => (hA.2.2.2.2.2 c hc).2.2.1) (fun x hx => ?_)
      have href3 : ∀ P : Int32 → GS → Prop, ((x < (0 : Int32) → ACT M (e 0 / 2) (nI m) x P) ∧ (¬ x < (0 : Int32) → wp_Mo_takeChord M x (fun S59 => P 1 S59))) → wp_Mo_takeFirst M P := fun P u => href2 P (fun _ => q_chordOf hQM hrl (fun y hy => by
        have : y = x := bst_uniq (bst_congr (ck := M.1 21) (fun c hc => (hck c hc).symm) hy) hx
        rw [this]; exact u)) (fun v => by rw [hwf] at v; exact absurd v (by decide))
      rcases hx with ⟨g1, g2⟩ | ⟨b, g1, g2, g3, g4, g5, g6⟩
      · refine ⟨fun _ => ?_, fun z => absurd g1 z⟩
        refine s_act (nI m) x hA hQ hH hR hN hN2 rfl h1 (fun r S' M' N' dn' e' hr r1 r2 r3 r4 run => ?_)
        have hrun : ∀ P : Int32 → GS → Prop, P r M' → wp_Mo_takeFirst M P := fun P hP => href3 P ⟨fun _ => run P hP, fun z => absurd (by rw [g1]; decide) z⟩
        rcases hr with ⟨q1, q2, q3⟩ | ⟨q1, q2⟩
        · subst q1
          exact ⟨by decide, hp 0 S' M' N' dn' e' (Or.inl ⟨rfl, q2, q3⟩) r1 r2 (hup r3) r4 hrun⟩
        · subst q1
          exact ⟨by decide, hp 1 S' M' N' dn' e' (Or.inr ⟨rfl, by omega⟩) r1 r2 (hup r3) r4 hrun⟩
      · rw [g3] at href3 ⊢
        refine ⟨fun z => absurd z (ne_m1 b (by omega)), fun _ => ?_⟩
        exact s_chord hA hQ hH hR hN2 hC g2 hrl g4 (fun i hi => hrp i (by omega) hi) (fun S' M' N' dn' e' hlt r1 r2 r3 r4 run => hp 1 S' M' N' dn' e' (Or.inr ⟨rfl, hlt⟩) r1 r2 r3 r4 (fun P hP => href3 P ⟨fun z => absurd z (ne_neg b (by omega)), fun _ => run _ hP⟩))
    · have hwt' : wts (S.1 22) e (S.1 17 0) (S.1 0 0) N m = true := by simpa using hwt
      refine hp 0 S M N dn e (Or.inl ⟨rfl, rfl, ?_⟩) hA hQ (hup hH) hR (fun P hP => href2 P (fun z => absurd z hwt) (fun _ => hP))
      unfold wts at hwt'
      rw [Bool.and_eq_true, Bool.and_eq_true, Bool.and_eq_true, decide_eq_true_iff, decide_eq_true_iff] at hwt'
      exact hwt'.2.2.1
