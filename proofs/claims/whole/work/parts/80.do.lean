set_option maxHeartbeats 4000000 in
theorem s_do {S M : GS} {T : Nat × Int32} {C N k : Nat} {dn : Nat → Bool} {e : Nat → Nat} {kd a bb ax tv r18 : Int32} (hA : RA S M T) (hQ : RQ S M N dn e) (hH : RH S M C dn) (hR : Rre S M) (hN : 0 < N) (hN2 : N ≤ 32) (hk' : e 0 / 2 = k) (h1 : e 0 % 2 = 1) (hok : okA kd a bb) (htv : kd = 5 → tv = 1 ∨ tv = 2)
    (ha : ∀ S1 : GS, S1.1 19 = S.1 19 → ∀ Q : Int32 → Prop, Q a → wp_Km_a S1 r18 (nI k) Q) (hbb : kd = 5 → ∀ S1 : GS, S1.1 20 = S.1 20 → ∀ Q : Int32 → Prop, Q bb → wp_Km_b S1 r18 (nI k) Q) (hmb : kd = 5 → vp_in ax 96 ∧ M.1 19 ax.toNatClampNeg = bb)
    {post : Int32 → GS → Prop} (hp : ∀ S' M' dn' e', RA S' M' T → RQ S' M' (N - 1) dn' e' → RH S' M' C dn' → Rre S' M' → (∀ P : Int32 → GS → Prop, P 1 M' → J_Mo_act_44 (fun r89 S89 => ((r89 = 0 → P 0 S89) ∧ (¬ r89 = 0 → wp_Mo_drop S89 1 (fun S99 => P 1 S99)))) (nI k) ax kd a (if kd = 5 then tv else 1) M) → post 1 S') : J_G_takeByAction_59 post (nI k) r18 kd tv S := by
  have hQS := hQ.s hN2
  have he0 := (hQS.2.2 0 hN).1
  have hk : k < 24 := by omega
  have hin := in_nI (n := 24) hk (by omega)
  have ck : (nI k).toNatClampNeg = k := nI_clamp (by omega)
  have hdn : dst dn e 1 = fun j => if k = j then true else dn j := funext (fun j => by
    show (if e 0 / 2 = j then decide (e 0 % 2 = 1) else dn j) = _
    rw [hk', decide_eq_true h1])
  have hf : M.1 25 k = 0 := by
    have := hQ.2.1.free (n := 1) (by omega) (fun i hi => by rw [show i = 0 from by omega]; exact h1) (i := 0) (by omega)
    rw [hk'] at this
    refine Classical.byContradiction (fun y => ?_)
    rw [hH.2.2 k hk y] at this
    exact absurd this (by decide)
  have hy : (if kd = 5 then tv else 1) ≠ 0 := by
    by_cases w : kd = 5
    · rw [if_pos w]; rcases htv w with v | v <;> rw [v] <;> decide
    · rw [if_neg w]; decide
  unfold J_G_takeByAction_59
  refine p_remove (m := 1) hQ.1.1 hN2 hN (fun S1 a1 a2 a3 => ?_)
  have main : ∀ S3 M3, eqr [7, 8, 9, 11, 12, 16, 17, 24, 25, 26, 27] S S3 → eqr [5, 6, 23, 24, 25, 26, 28, 29] M M3 → S3.1 7 = S1.1 7 → S3.1 16 = S1.1 16 → S3.1 17 = S1.1 17 → RH S3 M3 C (dst dn e 1) → Rre S3 M3 → (∀ Q : Int32 → GS → Prop, Q 1 M3 → J_Mo_act_44 Q (nI k) ax kd a (if kd = 5 then tv else 1) M) → post 1 S3 := fun S3 M3 x1 x2 x3 x4 x5 x6 x7 run => by
    obtain ⟨M', ⟨m1, m2, m3⟩, hrun⟩ := dt_wp_Mo_drop M3 (nI 1) (fun M' => eqx [2, 14, 15] M3 M' ∧ M'.1 2 0 = nI (N - 1) ∧ ∀ i, i < N - 1 → M'.1 14 i = M3.1 14 (i + 1) ∧ M'.1 15 i = M3.1 15 (i + 1)) (q_drop (N := N) (m := 1) (by rw [x2 2 (by simp)]; exact hQ.1.2.1) hN2 hN (fun M' u v w => ⟨u, v, w⟩))
    have hM' : eqr [2, 5, 6, 14, 15, 23, 24, 25, 26, 28, 29] M M' := (x2.up (by simp)).tr (m1.r.up (by simp))
    refine hp S3 M' (dst dn e 1) (fun i => e (i + 1)) (hA.up (x1.up (by simp)) (hM'.up (by simp))) (hQ.drop hN ?_ (fun i hi => ?_) m2 (fun i hi => ?_) (hM' 13 (by simp))) (x6.up (fun c _ => rfl) (fun c hc => m1.1 c (by revert hc; simp; omega))) (x7.up (fun c _ => rfl) rfl (fun c hc => m1.1 c (by revert hc; simp; omega))) (fun P hP => run _ ⟨fun z => absurd z (by decide), fun _ => hrun _ hP⟩)
    · rw [x3]; exact a2
    · rw [x4, x5]; exact a3 i hi
    · rw [(m3 i hi).1, (m3 i hi).2, x2 14 (by simp), x2 15 (by simp)]; exact ⟨rfl, rfl⟩
  have fin : ∀ S2 M2, eqr [7, 8, 9, 11, 12, 16, 17, 24, 25, 26, 27] S S2 → eqr [5, 6, 23, 24, 25, 26, 28, 29] M M2 → S2.1 7 = S1.1 7 → S2.1 16 = S1.1 16 → S2.1 17 = S1.1 17 → RH S2 M2 C (dst dn e 1) → Rre S2 M2 → (∀ Q : Int32 → GS → Prop, J_Mo_act_196 Q (nI k) ax kd a (if kd = 5 then tv else 1) M2 → J_Mo_act_44 Q (nI k) ax kd a (if kd = 5 then tv else 1) M) → J_G_takeByAction_197 post (nI k) r18 kd tv a S2 := fun S2 M2 x1 x2 x3 x4 x5 x6 x7 run => by
    unfold J_G_takeByAction_197
    refine ⟨fun z => main S2 M2 x1 x2 x3 x4 x5 x6 x7 (fun Q hq => run Q ⟨fun _ => hq, fun y => absurd z y⟩), fun z => ?_⟩
    obtain ⟨M3, ⟨n1, n2⟩, hrun⟩ := dt_wp_Mo_disarm M2 (fun M' => eqx [24] M2 M' ∧ ∀ l, l < 4 → M'.1 24 l = 0) (q_disarm (fun M' u v => ⟨u, v⟩))
    unfold wp_La_disarm
    refine main _ M3 (x1.gI (by simp) _) (x2.tr (n1.r.up (by simp))) ?_ ?_ ?_ (x6.disarm n1 n2) (x7.up (fun c hc => gI_n _ _ (by revert hc; simp; omega)) rfl (fun c hc => n1.1 c (by revert hc; simp; omega))) (fun Q hq => run Q ⟨fun y => absurd y z, fun _ => hrun _ hq⟩)
    · rw [gI_n _ _ (by decide)]; exact x3
    · rw [gI_n _ _ (by decide)]; exact x4
    · rw [gI_n _ _ (by decide)]; exact x5
  refine ha S1 (a1.1 19 (by simp)) _ ?_
  have hS1 : eqr [7, 8, 9, 11, 12, 16, 17, 24, 25, 26, 27] S S1 := a1.r.up (by simp)
  have hH1 : RH S1 M C dn := hH.up (fun c hc => a1.1 c (by revert hc; simp; omega)) (fun c _ => rfl)
  have hR1 : Rre S1 M := hR.up (fun c hc => a1.1 c (by revert hc; simp; omega)) a1.2 (fun c _ => rfl)
  have hK1 : Rkm S1 M := (hA.up (M' := M) (hS1.up (by simp)) eqr.rf).2.2.2
  have hmono : ∀ j, j < 24 → dn j = true → dst dn e 1 j = true := fun j hj w => by
    rw [hdn]
    show (if k = j then true else dn j) = true
    split
    · rfl
    · exact w
  have hbe : ∀ (x v : Int32) (P : GS → Prop), P (gI (gI M 25 (upd (M.1 25) k x)) 26 (upd (M.1 26) k v)) → wp_Mo_begin M (nI k) x v P := fun x v P hP => by
    unfold wp_Mo_begin
    rw [ck]
    exact ⟨hin, hin, hP⟩
  have hMb : ∀ (x v : Int32), eqr [5, 6, 23, 24, 25, 26, 28, 29] M (gI (gI M 25 (upd (M.1 25) k x)) 26 (upd (M.1 26) k v)) := fun x v => (eqr.rf.gI (by simp) _).gI (by simp) _
  have hhold : ∀ l, l < 4 → RH (gI S1 24 (upd (S1.1 24) l (S1.1 24 l ||| ((1 : Int32) <<< (nI k &&& 31))))) (gI (gI M 25 (upd (M.1 25) k 2)) 26 (upd (M.1 26) k (nI l))) C (dst dn e 1) := fun l hl => by rw [hdn]; exact hH1.held hk hl hf
  have hhold2 : ∀ l, Rre (gI S1 24 (upd (S1.1 24) l (S1.1 24 l ||| ((1 : Int32) <<< (nI k &&& 31))))) (gI (gI M 25 (upd (M.1 25) k 2)) 26 (upd (M.1 26) k (nI l))) := fun l => hR1.up (fun c hc => gI_n _ _ (by revert hc; simp; omega)) rfl (fun c hc => by rw [gI_n _ _ (by revert hc; simp; omega), gI_n _ _ (by revert hc; simp; omega)])
  rcases hok with z0 | ⟨z0, w, w1, w2, w3⟩ | ⟨z0, l, l1, l2, l3⟩ | ⟨z0, l, l1, l2, l3⟩ | ⟨z0, l, l1, l2, l3⟩ | ⟨z0, ⟨w, w1, w2, w3⟩, l, l1, l2, l3⟩ | ⟨z0, m, m1, m2⟩
  · subst z0
    exact ⟨fun z => absurd z (by decide), fun _ => ⟨fun z => absurd z (by decide), fun _ => ⟨fun z => absurd z (by decide), fun _ => ⟨fun z => absurd z (by decide), fun _ => ⟨fun z => absurd z (by decide), fun _ => ⟨fun z => absurd z (by decide), fun _ => (fin S1 M hS1 eqr.rf rfl rfl rfl (hH1.mono hmono) hR1 (fun Q hq => ⟨fun z => absurd z hy, fun _ => ⟨fun z => absurd z (by decide), fun _ => ⟨fun z => absurd z (by decide), fun _ => ⟨fun z => absurd z (by decide), fun _ => ⟨fun z => absurd z (by decide), fun _ => ⟨fun z => absurd z (by decide), fun _ => ⟨fun z => absurd z (by decide), fun _ => hq⟩⟩⟩⟩⟩⟩⟩))⟩⟩⟩⟩⟩⟩
  · subst z0
    subst w3
    refine ⟨fun _ => p_begin (x := bit k) (fun S2 c1 c2 c3 => ?_), fun z => absurd rfl z⟩
    have hR2 : Rre S2 (gI (gI M 25 (upd (M.1 25) k 1)) 26 (upd (M.1 26) k (nI w))) := hR1.up (fun c hc => c1.1 c (by revert hc; simp; omega)) c1.2 (fun c hc => by rw [gI_n _ _ (by revert hc; simp; omega), gI_n _ _ (by revert hc; simp; omega)])
    have hH2 : RH S2 (gI (gI M 25 (upd (M.1 25) k 1)) 26 (upd (M.1 26) k (nI w))) C (dst dn e 1) := by
      rw [hdn]
      exact hH1.code hk ⟨w, w1, w2, rfl⟩ hf (c1.1 8 (by simp)) (c1.1 9 (by simp)) (c1.1 24 (by simp)) c2 c3
    refine s_down hR2 w2 (fun S3 M3 d1 d2 d3 run => ?_)
    refine fin S3 M3 ((hS1.tr (c1.r.up (by simp))).tr (d1.up (by simp))) ((hMb 1 (nI w)).tr (d2.up (by simp))) ?_ ?_ ?_ (hH2.up (fun c hc => d1 c (by revert hc; simp; omega)) (fun c hc => d2 c (by revert hc; simp; omega))) d3 (fun Q hq => ⟨fun z => absurd z hy, fun _ => ⟨fun _ => hbe _ _ _ (run _ hq), fun z => absurd rfl z⟩⟩)
    · rw [d1 7 (by simp), c1.1 7 (by simp)]
    · rw [d1 16 (by simp), c1.1 16 (by simp)]
    · rw [d1 17 (by simp), c1.1 17 (by simp)]
  · subst z0
    subst l3
    have cl : (nI l).toNatClampNeg = l := nI_clamp (by omega)
    have hin4 := in_nI (n := 4) l2 (by omega)
    refine ⟨fun z => absurd z (by decide), fun _ => ⟨fun _ => ?_, fun z => absurd rfl z⟩⟩
    unfold wp_La_hold
    rw [cl]
    exact ⟨hin4, hin4, fin _ _ (hS1.gI (by simp) _) (hMb 2 (nI l)) (gI_n _ _ (by decide)) (gI_n _ _ (by decide)) (gI_n _ _ (by decide)) (hhold l l2) (hhold2 l) (fun Q hq => ⟨fun z => absurd z hy, fun _ => ⟨fun z => absurd z (by decide), fun _ => ⟨fun _ => hbe _ _ _ hq, fun z => absurd rfl z⟩⟩⟩)⟩
  · subst z0
    subst l3
    have cl : (nI l).toNatClampNeg = l := nI_clamp (by omega)
    have hin4 := in_nI (n := 4) l2 (by omega)
    refine ⟨fun z => absurd z (by decide), fun _ => ⟨fun z => absurd z (by decide), fun _ => ⟨fun _ => ?_, fun z => absurd rfl z⟩⟩⟩
    unfold wp_La_turnLock
    refine fin _ (gI M 23 (upd (M.1 23) l (b2 (!bt (S1.1 8 0) l)))) (hS1.gI (by simp) _) (eqr.rf.gI (by simp) _) (gI_n _ _ (by decide)) (gI_n _ _ (by decide)) (gI_n _ _ (by decide)) ((hH1.mono hmono).lock l2) (hR1.up (fun c hc => gI_n _ _ (by revert hc; simp; omega)) rfl (fun c hc => gI_n _ _ (by revert hc; simp; omega))) (fun Q hq => ⟨fun z => absurd z hy, fun _ => ⟨fun z => absurd z (by decide), fun _ => ⟨fun z => absurd z (by decide), fun _ => ⟨fun _ => ?_, fun z => absurd rfl z⟩⟩⟩⟩)
    unfold J_Mo_act_142
    rw [cl, (hH1.1 l l2).1, b2_0]
    generalize bt (S1.1 8 0) l = g at hq ⊢
    cases g
    · exact ⟨hin4, fun _ => ⟨hin4, hq⟩, fun z => absurd rfl z⟩
    · exact ⟨hin4, fun z => absurd z (by decide), fun _ => ⟨hin4, hq⟩⟩
  · subst z0
    subst l3
    have cl : (nI l).toNatClampNeg = l := nI_clamp (by omega)
    have hin4 := in_nI (n := 4) l2 (by omega)
    refine ⟨fun z => absurd z (by decide), fun _ => ⟨fun z => absurd z (by decide), fun _ => ⟨fun z => absurd z (by decide), fun _ => ⟨fun _ => ?_, fun z => absurd rfl z⟩⟩⟩⟩
    unfold wp_La_arm
    refine fin _ (gI M 24 (upd (M.1 24) l 1)) (hS1.gI (by simp) _) (eqr.rf.gI (by simp) _) (gI_n _ _ (by decide)) (gI_n _ _ (by decide)) (gI_n _ _ (by decide)) ((hH1.mono hmono).arm l2) (hR1.up (fun c hc => gI_n _ _ (by revert hc; simp; omega)) rfl (fun c hc => gI_n _ _ (by revert hc; simp; omega))) (fun Q hq => ⟨fun z => absurd z hy, fun _ => ⟨fun z => absurd z (by decide), fun _ => ⟨fun z => absurd z (by decide), fun _ => ⟨fun z => absurd z (by decide), fun _ => ⟨fun _ => ⟨hin4, ?_⟩, fun z => absurd rfl z⟩⟩⟩⟩⟩)
    rw [cl]
    exact hq
  · subst z0
    subst w3
    subst l3
    have cl : (nI l).toNatClampNeg = l := nI_clamp (by omega)
    have hin4 := in_nI (n := 4) l2 (by omega)
    obtain ⟨mb1, mb2⟩ := hmb rfl
    refine ⟨fun z => absurd z (by decide), fun _ => ⟨fun z => absurd z (by decide), fun _ => ⟨fun z => absurd z (by decide), fun _ => ⟨fun z => absurd z (by decide), fun _ => ⟨fun _ => ?_, fun z => absurd rfl z⟩⟩⟩⟩⟩
    unfold wp_G_actTap
    rw [if_pos rfl] at fin hy
    rcases htv rfl with v | v
    · subst v
      refine ⟨fun z => absurd z (by decide), fun _ => ha S1 (a1.1 19 (by simp)) _ (s_touch hR1 w2 (fun S2 M2 d1 d2 d3 run => ?_))⟩
      refine fin S2 M2 (hS1.tr (d1.up (by simp))) (d2.up (by simp)) (d1 7 (by simp)) (d1 16 (by simp)) (d1 17 (by simp)) ((hH1.mono hmono).up (fun c hc => d1 c (by revert hc; simp; omega)) (fun c hc => d2 c (by revert hc; simp; omega))) d3 (fun Q hq => ⟨fun z => absurd z hy, fun _ => ⟨fun z => absurd z (by decide), fun _ => ⟨fun z => absurd z (by decide), fun _ => ⟨fun z => absurd z (by decide), fun _ => ⟨fun z => absurd z (by decide), fun _ => ⟨fun _ => ⟨fun _ => run _ hq, fun z => absurd rfl z⟩, fun z => absurd rfl z⟩⟩⟩⟩⟩⟩)
    · subst v
      refine ⟨fun _ => hbb rfl S1 (a1.1 20 (by simp)) _ ?_, fun z => absurd rfl z⟩
      unfold wp_La_hold
      rw [cl]
      refine ⟨hin4, hin4, fin _ _ (hS1.gI (by simp) _) (hMb 2 (nI l)) (gI_n _ _ (by decide)) (gI_n _ _ (by decide)) (gI_n _ _ (by decide)) (hhold l l2) (hhold2 l) (fun Q hq => ⟨fun z => absurd z hy, fun _ => ⟨fun z => absurd z (by decide), fun _ => ⟨fun z => absurd z (by decide), fun _ => ⟨fun z => absurd z (by decide), fun _ => ⟨fun z => absurd z (by decide), fun _ => ⟨fun _ => ⟨fun z => absurd z (by decide), fun _ => ⟨mb1, ?_⟩⟩, fun z => absurd rfl z⟩⟩⟩⟩⟩⟩)⟩
      rw [mb2]
      exact hbe _ _ _ hq
  · subst z0
    subst m2
    refine ⟨fun z => absurd z (by decide), fun _ => ⟨fun z => absurd z (by decide), fun _ => ⟨fun z => absurd z (by decide), fun _ => ⟨fun z => absurd z (by decide), fun _ => ⟨fun z => absurd z (by decide), fun _ => ⟨fun _ => s_play hK1 hR1 m1 (fun S2 M2 d1 d2 d3 run => ?_), fun z => absurd rfl z⟩⟩⟩⟩⟩⟩
    exact fin S2 M2 (hS1.tr (d1.up (by simp))) (d2.up (by simp)) (d1 7 (by simp)) (d1 16 (by simp)) (d1 17 (by simp)) ((hH1.mono hmono).up (fun c hc => d1 c (by revert hc; simp; omega)) (fun c hc => d2 c (by revert hc; simp; omega))) d3 (fun Q hq => ⟨fun z => absurd z hy, fun _ => ⟨fun z => absurd z (by decide), fun _ => ⟨fun z => absurd z (by decide), fun _ => ⟨fun z => absurd z (by decide), fun _ => ⟨fun z => absurd z (by decide), fun _ => ⟨fun z => absurd z (by decide), fun _ => ⟨fun _ => run _ hq, fun z => absurd rfl z⟩⟩⟩⟩⟩⟩⟩)
