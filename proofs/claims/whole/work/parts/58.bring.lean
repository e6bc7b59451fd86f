/-! History, queue, and which keys the events make down: the scan's events of both -/
def Rhi (S M : GS) (T : Nat) : Prop := ∃ n t, n < 32 ∧ t ≤ T ∧ S.1 5 0 = nI n ∧ S.1 6 0 = nI (min t 32) ∧ M.1 3 0 = nI t ∧ ∀ i, i < min t 32 → S.1 15 ((n + 31 - i) % 32) = M.1 16 i
def Rqu (S M : GS) (e : Nat → Nat) (N : Nat) : Prop := S.1 7 0 = nI N ∧ M.1 2 0 = nI N ∧ ∀ i, i < N → e i < 48 ∧ S.1 16 i = nI (e i) ∧ M.1 14 i = nI (e i) ∧ S.1 17 i = M.1 15 i
def dst (dn : Nat → Bool) (e : Nat → Nat) : Nat → Nat → Bool
  | 0, k => dn k
  | i + 1, k => if e i / 2 = k then decide (e i % 2 = 1) else dst dn e i k
def Alt (dn : Nat → Bool) (e : Nat → Nat) (N : Nat) : Prop := ∀ i, i < N → decide (e i % 2 = 1) = !dst dn e i (e i / 2)
theorem dst_congr {dn : Nat → Bool} {e f : Nat → Nat} : ∀ {N : Nat}, (∀ i, i < N → f i = e i) → ∀ k, dst dn f N k = dst dn e N k
  | 0, _, _ => rfl
  | N + 1, h, k => by
    show (if f N / 2 = k then decide (f N % 2 = 1) else dst dn f N k) = if e N / 2 = k then decide (e N % 2 = 1) else dst dn e N k
    rw [h N (by omega), dst_congr (fun i hi => h i (by omega)) k]
theorem dst_drop {dn : Nat → Bool} {e : Nat → Nat} (m : Nat) : ∀ (N k : Nat), dst (dst dn e m) (fun i => e (i + m)) N k = dst dn e (N + m) k
  | 0, k => by rw [Nat.zero_add]; rfl
  | N + 1, k => by
    rw [show N + 1 + m = (N + m) + 1 from by omega]
    show (if e (N + m) / 2 = k then decide (e (N + m) % 2 = 1) else dst (dst dn e m) (fun i => e (i + m)) N k) = if e (N + m) / 2 = k then decide (e (N + m) % 2 = 1) else dst dn e (N + m) k
    rw [dst_drop m N k]
theorem Alt.drop {dn : Nat → Bool} {e : Nat → Nat} {N m : Nat} (h : Alt dn e (N + m)) : Alt (dst dn e m) (fun i => e (i + m)) N := fun i hi => by
  show decide (e (i + m) % 2 = 1) = !dst (dst dn e m) (fun i => e (i + m)) i (e (i + m) / 2)
  rw [dst_drop, h (i + m) (by omega)]
theorem ev_val (k : Nat) (p : Bool) : (2 : Int32) * nI k + b2 p = nI (2 * k + p.toNat) := by
  have e2 : (2 : Int32) * nI k = nI (2 * k) := pk_mul 2 k
  rw [e2]
  cases p
  · exact Int32.add_zero _
  · exact nI_1 _
def Bi (T N0 : Nat) (dn : Nat → Bool) (S0 M0 : GS) (i : Nat) (S M : GS) : Prop :=
  eqx [4, 5, 6, 7, 15, 16, 17] S0 S ∧ eqx [2, 3, 13, 14, 15, 16] M0 M ∧ Rmx S M ∧ Rhi S M (T + i) ∧ ∃ N e, N ≤ N0 + i ∧ Rqu S M e N ∧ Alt dn e N ∧ ∀ k, k < 24 → M.1 13 k = b2 (dst dn e N k)
theorem Bi.no {T N0 : Nat} {dn : Nat → Bool} {S0 M0 : GS} {i : Nat} {S M : GS} (h : Bi T N0 dn S0 M0 i S M) : Bi T N0 dn S0 M0 (i + 1) S M := by
  obtain ⟨h1, h2, h3, ⟨n, t, g1, g2, g3⟩, N, e, h5, h6⟩ := h
  exact ⟨h1, h2, h3, ⟨n, t, g1, by omega, g3⟩, N, e, by omega, h6⟩
set_option maxHeartbeats 1000000 in
theorem Bi.ev {T N0 : Nat} {dn : Nat → Bool} {S0 M0 : GS} {i : Nat} {S M S' M' : GS} {p : Bool} {n t N : Nat} {e : Nat → Nat} (hi : i < 24) (hN0 : N0 ≤ 8)
    (h1 : eqx [4, 5, 6, 7, 15, 16, 17] S0 S') (h2 : eqx [2, 3, 13, 14, 15, 16] M0 M') (h3 : Rmx S' M')
    (hn : n < 32) (ht : t ≤ T + i) (hh : ∀ j, j < min t 32 → S.1 15 ((n + 31 - j) % 32) = M.1 16 j)
    (s5 : S'.1 5 0 = nI ((n + 1) % 32)) (s6 : S'.1 6 0 = nI (min (min t 32 + 1) 32)) (s15 : S'.1 15 = upd (S.1 15) n (nI (2 * i + p.toNat)))
    (m3 : M'.1 3 0 = nI (t + 1)) (m16 : ∀ j, j < 32 → M'.1 16 j = if j = 0 then nI (2 * i + p.toNat) else M.1 16 (j - 1))
    (hN : N ≤ N0 + i) (hq : ∀ j, j < N → e j < 48 ∧ S.1 16 j = nI (e j) ∧ M.1 14 j = nI (e j) ∧ S.1 17 j = M.1 15 j)
    (s7 : S'.1 7 0 = nI (N + 1)) (m2 : M'.1 2 0 = nI (N + 1)) (s16 : S'.1 16 = upd (S.1 16) N (nI (2 * i + p.toNat))) (m14 : M'.1 14 = upd (M.1 14) N (nI (2 * i + p.toNat)))
    (s17 : S'.1 17 = upd (S.1 17) N (S.1 0 0)) (m15 : M'.1 15 = upd (M.1 15) N (M.1 1 0)) (hnow : S.1 0 0 = M.1 1 0)
    (ha : Alt dn e N) (hd : ∀ k, k < 24 → M.1 13 k = b2 (dst dn e N k)) (hb : dst dn e N i = !p) (m13 : M'.1 13 = upd (M.1 13) i (b2 p)) : Bi T N0 dn S0 M0 (i + 1) S' M' := by
  refine ⟨h1, h2, h3, ⟨(n + 1) % 32, t + 1, by omega, by omega, s5, ?_, m3, fun j hj => ?_⟩, N + 1, fun j => if j = N then 2 * i + p.toNat else e j, by omega, ⟨s7, m2, fun j hj => ?_⟩, fun j hj => ?_, fun k hk => ?_⟩
  · rw [s6, show min (min t 32 + 1) 32 = min (t + 1) 32 from by omega]
  · rw [s15, m16 j (by omega)]
    by_cases e0 : j = 0
    · subst e0; rw [if_pos rfl, show ((n + 1) % 32 + 31 - 0) % 32 = n from by omega, upd_s]
    · rw [if_neg e0, upd_n _ _ (by omega), show ((n + 1) % 32 + 31 - j) % 32 = (n + 31 - (j - 1)) % 32 from by omega, hh (j - 1) (by omega)]
  · have hp : p.toNat ≤ 1 := by cases p <;> decide
    rw [s16, m14, s17, m15]
    dsimp only
    by_cases e0 : j = N
    · subst e0; rw [if_pos rfl, upd_s, upd_s, upd_s, upd_s]; exact ⟨by omega, rfl, rfl, hnow⟩
    · rw [if_neg e0, upd_n _ _ e0, upd_n _ _ e0, upd_n _ _ e0, upd_n _ _ e0]; exact hq j (by omega)
  · have hc : ∀ j, j ≤ N → ∀ k, dst dn (fun j => if j = N then 2 * i + p.toNat else e j) j k = dst dn e j k := fun j hj => dst_congr (fun z hz => if_neg (by omega))
    rw [hc j (by omega)]
    dsimp only
    by_cases e0 : j = N
    · subst e0
      simp only [↓reduceIte]
      cases p
      · rw [show (2 * i + false.toNat) / 2 = i from by simp, hb, show (2 * i + false.toNat) % 2 = 0 from by simp]; rfl
      · rw [show (2 * i + true.toNat) / 2 = i from by simp; omega, hb, show (2 * i + true.toNat) % 2 = 1 from by simp]; rfl
    · simp only [if_neg e0]; exact ha j (by omega)
  · have hc : ∀ j, j ≤ N → ∀ k, dst dn (fun j => if j = N then 2 * i + p.toNat else e j) j k = dst dn e j k := fun j hj => dst_congr (fun z hz => if_neg (by omega))
    show M'.1 13 k = b2 (if (if N = N then 2 * i + p.toNat else e N) / 2 = k then decide ((if N = N then 2 * i + p.toNat else e N) % 2 = 1) else dst dn (fun j => if j = N then 2 * i + p.toNat else e j) N k)
    rw [if_pos rfl, hc N (Nat.le_refl _), m13]
    have hp2 : (2 * i + p.toNat) / 2 = i := by cases p <;> simp <;> omega
    have hp3 : decide ((2 * i + p.toNat) % 2 = 1) = p := by cases p <;> simp <;> omega
    rw [hp2, hp3]
    by_cases e0 : i = k
    · subst e0; rw [if_pos rfl, upd_s]
    · rw [if_neg e0, upd_n _ _ (fun z => e0 z.symm)]; exact hd k hk
set_option maxHeartbeats 1000000 in
theorem s_bring {T N0 : Nat} {dn : Nat → Bool} {S0 M0 : GS} (hN0 : N0 ≤ 8) (hnow : S0.1 0 0 = M0.1 1 0) (W : (Int32 → GS → Prop) → Prop) (post : Int32 → GS → Prop) (hpost : ∀ j S' M', j ≤ 24 → Bi T N0 dn S0 M0 24 S' M' → (∀ P : Int32 → GS → Prop, P (nI j) M' → W P) → post (nI j) S') : ∀ d i j S M, i + d = 24 → j ≤ i → Bi T N0 dn S0 M0 i S M → (∀ P, L_Mo_believe_4 P (d + 1) (nI j) (nI i) M → W P) → L_G_bringEvents_4 post (d + 1) (nI j) (nI i) S := by
  intro d
  induction d with
  | zero =>
    intro i j S M hi hj hB hW
    have : i = 24 := by omega
    subst this
    refine ⟨fun _ => hpost j S M hj hB (fun P hP => hW P ⟨fun _ => hP, fun e => absurd ((le24 (c := 24) (i := 24) (by omega) (by omega)).mpr (Nat.le_refl _)) e⟩), fun e => absurd ((le24 (c := 24) (i := 24) (by omega) (by omega)).mpr (Nat.le_refl _)) e⟩
  | succ d ih =>
    intro i j S M hi hj hB hW
    have hi4 : i < 24 := by omega
    have hB0 := hB
    obtain ⟨h1, h2, h3, ⟨n, t, hn, ht, s5, s6, m3, hh⟩, N, e, hN, ⟨s7, m2, hq⟩, ha, hd⟩ := hB
    obtain ⟨x1, x2, x3, x4, x5, x6⟩ := h3
    have hb13 : ∀ k, k < 24 → bt (S.1 4 0) k = dst dn e N k := fun k hk => by
      have := (x4.2 k hk).symm.trans (hd k hk)
      generalize bt (S.1 4 0) k = u at this ⊢
      generalize dst dn e N k = v at this ⊢
      revert this; cases u <;> cases v <;> decide
    have hev : ∀ p : Bool, bt (S.1 4 0) i = !p → bt (S.1 3 0) i = p → (p = true → crnB (bt (S.1 3 0)) i = false) → ∀ y : Int32, isS y (upd (M.1 13) i (b2 p)) → wp_Hi_add (gI S 4 (fun _ => y)) (nI (2 * i + p.toNat)) (fun S29 => wp_Eq_add S29 (nI (2 * i + p.toNat)) (S29.1 0 0) (fun S41 => L_G_bringEvents_4 post (d + 1) (nI (j + 1)) (nI (i + 1)) S41)) := fun p c1 c2 c3 y hy => by
      have hbr := dt_wp_Mo_bring (gI M 13 (upd (M.1 13) i (b2 p))) (nI i) (b2 p) _ (q_bring (N := N) (t := t) (by rw [gI_n _ _ (by decide)]; exact m2) (by omega) (by rw [gI_n _ _ (by decide)]; exact m3) (fun M' a1 a2 a3 a4 a5 a6 => (⟨a1, a2, a3, a4, a5, a6⟩ : (fun M' => eqx [2, 3, 14, 15, 16] (gI M 13 (upd (M.1 13) i (b2 p))) M' ∧ M'.1 2 0 = nI (N + 1) ∧ M'.1 3 0 = nI (t + 1) ∧ M'.1 14 = upd ((gI M 13 (upd (M.1 13) i (b2 p))).1 14) N ((2 : Int32) * nI i + b2 p) ∧ M'.1 15 = upd ((gI M 13 (upd (M.1 13) i (b2 p))).1 15) N ((gI M 13 (upd (M.1 13) i (b2 p))).1 1 0) ∧ ∀ z, z < 32 → M'.1 16 z = if z = 0 then (2 : Int32) * nI i + b2 p else (gI M 13 (upd (M.1 13) i (b2 p))).1 16 (z - 1)) M')))
      obtain ⟨M', ⟨a1, a2, a3, a4, a5, a6⟩, hrun⟩ := hbr
      rw [gI_n _ _ (by decide), ev_val] at a4
      rw [gI_n _ _ (by decide), gI_n _ _ (by decide)] at a5
      simp only [ev_val, gI_n M (upd (M.1 13) i (b2 p)) (show 16 ≠ 13 by decide)] at a6
      refine p_event (n := n) (c := min t 32) (N := N) (by rw [gI_n _ _ (by decide)]; exact s5) hn (by rw [gI_n _ _ (by decide)]; exact s6) (by omega) (by rw [gI_n _ _ (by decide)]; exact s7) (by omega) (fun S' b1 b2' b3 b4 b5 b6 b7 => ?_)
      rw [gI_n _ _ (by decide)] at b4 b6
      rw [gI_n _ _ (by decide), gI_n _ _ (by decide)] at b7
      have m13 : M'.1 13 = upd (M.1 13) i (b2 p) := by rw [a1.1 13 (by simp), gI_s]
      have hS' : eqx [4, 5, 6, 7, 15, 16, 17] S S' := (eqx.rf.gI (by simp) _).tr (b1.up (by simp))
      have hM' : eqx [2, 3, 13, 14, 15, 16] M M' := (eqx.rf.gI (by simp) _).tr (a1.up (by simp))
      have hR : Rmx S' M' := by
        refine ⟨?_, ?_, ?_, ?_, ?_, ?_⟩
        · rw [hS'.1 1 (by simp), hM'.1 7 (by simp)]; exact x1
        · rw [hS'.1 2 (by simp), hM'.1 10 (by simp)]; exact x2
        · rw [hS'.1 3 (by simp), hM'.1 11 (by simp)]; exact x3
        · rw [b1.1 4 (by simp), gI_s, m13]; exact hy
        · rw [hS'.1 13 (by simp), hM'.1 8 (by simp)]; exact x5
        · rw [hS'.1 14 (by simp), hM'.1 12 (by simp)]; exact x6
      refine ih (i + 1) (j + 1) S' M' (by omega) (by omega) (Bi.ev (p := p) hi4 hN0 (h1.tr hS') (h2.tr hM') hR hn ht hh b2' b3 b4 a3 a6 hN hq b5 a2 b6 a4 b7 a5 ?_ ha hd ((hb13 i hi4).symm.trans c1) m13) (fun P hP => hW P (q_bel_ev hi4 x3.2 x4.2 ⟨c1, c2, c3⟩ (by rw [nI_1]; exact hrun _ hP)))
      rw [h1.1 0 (by simp), h2.1 1 (by simp)]; exact hnow
    have hg : ∀ v : Nat, (nI (2 * i + v) = -1) → v ≤ 1 → False := fun v hz hv => by
      have h0 : (-1 : Int32).toInt = -1 := by decide
      rw [← hz, nI_toInt (by omega)] at h0
      omega
    refine ⟨fun e => absurd ((le24 (c := 24) (by omega) (by omega)).mp e) (by omega), fun _ => p_believe hi4 (fun c1 c2 => ⟨fun z => (hg 0 z (by omega)).elim, fun _ => ?_⟩) (fun c1 c2 c3 => ⟨fun z => (hg 1 z (by omega)).elim, fun _ => ?_⟩) (fun c => ⟨fun _ => ?_, fun z => absurd rfl z⟩)⟩
    · rw [nI_1, nI_1]
      exact hev false c1 c2 (fun z => absurd z (by decide)) _ (isS_and hi4 x4)
    · rw [nI_1, nI_1]
      exact hev true c1 c2 (fun _ => c3) _ (isS_or hi4 x4)
    · rw [nI_1]
      exact ih (i + 1) j S M (by omega) (by omega) hB0.no (fun P hP => hW P (q_bel_no hi4 x3.2 x4.2 c hP))
