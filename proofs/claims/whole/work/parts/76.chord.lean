/-! A chord is taken -/
theorem dst_press {dn : Nat → Bool} {e : Nat → Nat} {n : Nat} (h : ∀ i, i < n → e i % 2 = 1) (k : Nat) : ∀ i, i ≤ n → (dst dn e i k = true ↔ dn k = true ∨ ∃ j, j < i ∧ e j / 2 = k)
  | 0, _ => ⟨Or.inl, fun w => w.elim id (fun ⟨j, v, _⟩ => absurd v (by omega))⟩
  | i + 1, hi => by
    show (if e i / 2 = k then decide (e i % 2 = 1) else dst dn e i k) = true ↔ _
    by_cases ek : e i / 2 = k
    · rw [if_pos ek, decide_eq_true (h i (by omega))]
      exact ⟨fun _ => Or.inr ⟨i, by omega, ek⟩, fun _ => rfl⟩
    · rw [if_neg ek, dst_press h k i (by omega)]
      refine ⟨fun w => w.elim Or.inl (fun ⟨j, v1, v2⟩ => Or.inr ⟨j, by omega, v2⟩), fun w => w.elim Or.inl (fun ⟨j, v1, v2⟩ => Or.inr ⟨j, ?_, v2⟩)⟩
      rcases Nat.lt_or_ge j i with u | u
      · exact u
      · rw [show j = i from by omega] at v2; exact absurd v2 ek
theorem Alt.free {dn : Nat → Bool} {e : Nat → Nat} {N n : Nat} (h : Alt dn e N) (hn : n ≤ N) (hp : ∀ i, i < n → e i % 2 = 1) {i : Nat} (hi : i < n) : dn (e i / 2) = false := by
  have h1 := h i (by omega)
  rw [decide_eq_true (hp i hi)] at h1
  cases hd : dn (e i / 2)
  · rfl
  · have := (dst_press hp (e i / 2) i (by omega)).mpr (Or.inl hd)
    rw [this] at h1
    exact absurd h1 (by decide)
theorem q_disarm {M : GS} {post : GS → Prop} (hp : ∀ M', eqx [24] M M' → (∀ l, l < 4 → M'.1 24 l = 0) → post M') : wp_Mo_disarm M post := by
  refine pk_loop (fun n i (U : GS) => L_Mo_disarm_2 post n (nI i) U) (fun i U => eqx [24] M U ∧ ∀ l, l < i → U.1 24 l = 0) 4 0 M (by omega) ⟨eqx.rf, fun l h => absurd h (by omega)⟩ ?_ ?_
  · rintro n U ⟨u1, u2⟩
    exact ⟨fun _ => hp U u1 u2, fun z => absurd ((le24 (c := 4) (i := 4) (by omega) (by omega)).mpr (Nat.le_refl _)) z⟩
  · rintro n i U hi ⟨u1, u2⟩ ih
    show ((4 : Int32) ≤ nI i → _) ∧ (¬ (4 : Int32) ≤ nI i → _)
    have hin := in_nI (n := 4) hi (by omega)
    rw [nI_clamp (by omega), nI_1]
    refine ⟨fun z => absurd ((le24 (c := 4) (by omega) (by omega)).mp z) (by omega), fun _ => ⟨hin, ih _ ⟨u1.gI (by simp) _, fun l hl => ?_⟩⟩⟩
    rw [gI_s]
    by_cases e : l = i
    · rw [e, upd_s]; decide
    · rw [upd_n _ _ e]; exact u2 l (by omega)
theorem RH.disarm {S M M' : GS} {C : Nat} {dn : Nat → Bool} (h : RH S M C dn) (a : eqx [24] M M') (b : ∀ l, l < 4 → M'.1 24 l = 0) : RH (gI S 9 (fun _ => 0)) M' C dn := by
  obtain ⟨h1, h2, h3⟩ := h
  unfold RH Rla Rho at *
  rw [gI_n _ _ (show 8 ≠ 9 by decide), gI_n _ _ (show 24 ≠ 9 by decide), gI_n _ _ (show 25 ≠ 9 by decide), gI_n _ _ (show 26 ≠ 9 by decide), gI_s, a.1 4 (by simp), a.1 23 (by simp), a.1 25 (by simp), a.1 26 (by simp), a.1 27 (by simp)]
  refine ⟨fun l hl => ⟨(h1 l hl).1, ?_, (h1 l hl).2.2⟩, h2, h3⟩
  rw [b l hl, b_0]; rfl
def cM (M : GS) (e : Nat → Nat) (v id : Int32) : Nat → GS
  | 0 => M
  | i + 1 => gI (gI (gI (cM M e v id i) 25 (upd ((cM M e v id i).1 25) (e i / 2) 3)) 26 (upd ((cM M e v id i).1 26) (e i / 2) v)) 27 (upd ((cM M e v id i).1 27) (e i / 2) id)
theorem cM_x (M : GS) (e : Nat → Nat) (v id : Int32) : ∀ i, eqx [25, 26, 27] M (cM M e v id i)
  | 0 => eqx.rf
  | i + 1 => (((cM_x M e v id i).gI (by simp) _).gI (by simp) _).gI (by simp) _
theorem cM_f (M : GS) (e : Nat → Nat) (v id : Int32) : ∀ i, (∀ j, j < i → e j < 48) → ∀ k, k < 24 → (cM M e v id i).1 25 k = (if bt (keysN e i) k = true then 3 else M.1 25 k) ∧ (cM M e v id i).1 26 k = (if bt (keysN e i) k = true then v else M.1 26 k) ∧ (cM M e v id i).1 27 k = (if bt (keysN e i) k = true then id else M.1 27 k)
  | 0, _, k, _ => by
    have : ¬ bt (keysN e 0) k = true := by show ¬ bt 0 k = true; rw [b_0]; decide
    rw [if_neg this, if_neg this, if_neg this]; exact ⟨rfl, rfl, rfl⟩
  | i + 1, he, k, hk => by
    have ih := cM_f M e v id i (fun j hj => he j (by omega)) k hk
    have hei := he i (by omega)
    have hbk : bt (keysN e (i + 1)) k = (bt (keysN e i) k || decide (k = e i / 2)) := by
      show bt (keysN e i ||| bit (e i / 2)) k = _
      rw [b_or, bt_bit (by omega) hk]
    have g1 : (cM M e v id (i + 1)).1 25 = upd ((cM M e v id i).1 25) (e i / 2) 3 := by
      show (gI (gI (gI _ 25 _) 26 _) 27 _).1 25 = _
      rw [gI_n _ _ (by decide), gI_n _ _ (by decide), gI_s]
    have g2 : (cM M e v id (i + 1)).1 26 = upd ((cM M e v id i).1 26) (e i / 2) v := by
      show (gI (gI (gI _ 25 _) 26 _) 27 _).1 26 = _
      rw [gI_n _ _ (by decide), gI_s]
    have g3 : (cM M e v id (i + 1)).1 27 = upd ((cM M e v id i).1 27) (e i / 2) id := by
      show (gI (gI (gI _ 25 _) 26 _) 27 _).1 27 = _
      rw [gI_s]
    rw [g1, g2, g3, hbk]
    by_cases ek : k = e i / 2
    · rw [← ek, upd_s, upd_s, upd_s]; simp
    · rw [upd_n _ _ ek, upd_n _ _ ek, upd_n _ _ ek, ih.1, ih.2.1, ih.2.2]; simp [ek]
theorem RH.chord {S M S' M' : GS} {C n b' : Nat} {dn : Nat → Bool} {e : Nat → Nat} {x v : Int32} (hC : C < 2 ^ 30) (h : RH S M C dn) (hx : lo24 x) (hv : cod v) (hfree : ∀ j, j < 24 → bt x j = true → M.1 25 j = 0) (hb : ∀ j, j < 24 → (bt x j = true ↔ ∃ i, i < n ∧ e i / 2 = j)) (hpr : ∀ i, i < n → e i % 2 = 1)
    (s8 : S'.1 8 = S.1 8) (s9 : S'.1 9 = S.1 9) (s24 : S'.1 24 = S.1 24) (s25 : ∀ k, k < 24 → S'.1 25 k = if bt x k then v else S.1 25 k) (s26 : ∀ k, k < 24 → S'.1 26 k = if bt x k then x else S.1 26 k)
    (m4 : M'.1 4 0 = M.1 4 0 + 1) (m23 : M'.1 23 = M.1 23) (m24 : M'.1 24 = M.1 24) (mc : ∀ k, k < 24 → M'.1 25 k = (if bt x k = true then 3 else M.1 25 k) ∧ M'.1 26 k = (if bt x k = true then v else M.1 26 k) ∧ M'.1 27 k = (if bt x k = true then M.1 4 0 + 1 else M.1 27 k)) : RH S' M' (C + 1) (dst dn e n) := by
  obtain ⟨h1, ⟨⟨c, hc1, hc2, hc3⟩, h2⟩, h3⟩ := h
  rw [hc2, nI_1] at m4 mc
  refine ⟨fun l hl => ?_, ⟨⟨c + 1, by omega, m4, fun k hk w => ?_⟩, fun k hk => ?_⟩, fun k hk w => ?_⟩
  · obtain ⟨a1, a2, a3, a4⟩ := h1 l hl
    rw [m23, m24, s8, s9, s24]
    refine ⟨a1, a2, a3, fun k hk => ?_⟩
    rw [(mc k hk).1, (mc k hk).2.1, a4 k hk]
    by_cases bx : bt x k = true
    · rw [if_pos bx, hfree k hk bx]
      exact ⟨fun w => absurd w.1 (by decide), fun w => absurd w.1 (by decide)⟩
    · rw [if_neg bx, if_neg bx]
  · rw [(mc k hk).1] at w
    rw [(mc k hk).2.2]
    by_cases bx : bt x k = true
    · rw [if_pos bx]; exact ⟨c + 1, by omega, by omega, rfl⟩
    · rw [if_neg bx]
      rw [if_neg bx] at w
      obtain ⟨d, d1, d2, d3⟩ := hc3 k hk w
      exact ⟨d, d1, by omega, d3⟩
  · rw [(mc k hk).1, (mc k hk).2.1, (mc k hk).2.2, s25 k hk, s26 k hk]
    by_cases bx : bt x k = true
    · rw [if_pos bx, if_pos bx, if_pos bx, if_pos bx, if_pos bx]
      refine ⟨Or.inr (Or.inr (Or.inr rfl)), fun _ => ⟨hv, rfl⟩, fun w => w.elim (fun y => absurd y (by decide)) (fun y => absurd y (by decide)), fun w => absurd w (by decide), fun _ => ⟨hx, fun i hi => ?_⟩⟩
      rw [(mc i hi).1, (mc i hi).2.2]
      by_cases bi : bt x i = true
      · rw [if_pos bi, if_pos bi]; exact ⟨fun _ => ⟨rfl, rfl⟩, fun _ => bi⟩
      · rw [if_neg bi, if_neg bi]
        refine ⟨fun w => absurd w bi, fun w => ?_⟩
        obtain ⟨d, d1, d2, d3⟩ := hc3 i hi w.1
        rw [d3] at w
        exact absurd w.2 (nI_ne (by omega) (by omega) (by omega))
    · rw [if_neg bx, if_neg bx, if_neg bx, if_neg bx, if_neg bx]
      obtain ⟨b1, b2', b3, b4, b5⟩ := h2 k hk
      refine ⟨b1, b2', b3, b4, fun w => ⟨(b5 w).1, fun i hi => ?_⟩⟩
      rw [(mc i hi).1, (mc i hi).2.2, (b5 w).2 i hi]
      by_cases bi : bt x i = true
      · rw [if_pos bi, if_pos bi, hfree i hi bi]
        refine ⟨fun y => absurd y.1 (by decide), fun y => ?_⟩
        obtain ⟨d, d1, d2, d3⟩ := hc3 k hk w
        rw [d3] at y
        exact absurd y.2 (nI_ne (by omega) (by omega) (by omega))
      · rw [if_neg bi, if_neg bi]
  · rw [dst_press hpr k n (Nat.le_refl _)]
    rw [(mc k hk).1] at w
    by_cases bx : bt x k = true
    · exact Or.inr ((hb k hk).mp bx)
    · rw [if_neg bx] at w; exact Or.inl (h3 k hk w)
