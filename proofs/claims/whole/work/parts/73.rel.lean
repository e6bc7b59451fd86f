/-! What holds of both while events are taken -/
def cod (x : Int32) : Prop := ∃ w, 4 ≤ w ∧ w < 108 ∧ x = nI w
def lay (x : Int32) : Prop := ∃ l, 1 ≤ l ∧ l < 4 ∧ x = nI l
def okA (x a b : Int32) : Prop := x = 0 ∨ (x = 1 ∧ cod a) ∨ (x = 2 ∧ lay a) ∨ (x = 3 ∧ lay a) ∨ (x = 4 ∧ lay a) ∨ (x = 5 ∧ cod a ∧ lay b) ∨ (x = 6 ∧ ∃ m, m < 4 ∧ a = nI m)
def Rkm (S M : GS) : Prop := (∀ i, i < 96 → M.1 17 i = S.1 18 i ∧ M.1 18 i = S.1 19 i ∧ M.1 19 i = S.1 20 i ∧ okA (S.1 18 i) (S.1 19 i) (S.1 20 i)) ∧ (∀ i, i < 16 → M.1 20 i = S.1 21 i ∧ (S.1 21 i = 0 ∨ cod (S.1 21 i))) ∧ ∀ c, c < 4 → M.1 21 c = S.1 22 c ∧ M.1 22 c = S.1 23 c ∧ lo24 (S.1 22 c) ∧ (S.1 22 c ≠ 0 → cod (S.1 23 c))
def RA (S M : GS) (T : Nat × Int32) : Prop := (S.1 0 0 = M.1 1 0 ∧ M.1 0 0 = T.2) ∧ Rmx S M ∧ Rhi S M T.1 ∧ Rkm S M
theorem RA.up {S M S' M' : GS} {T : Nat × Int32} (h : RA S M T) (a : eqr [7, 8, 9, 10, 11, 12, 16, 17, 24, 25, 26, 27] S S') (b : eqr [2, 4, 5, 6, 14, 15, 23, 24, 25, 26, 27, 28, 29] M M') : RA S' M' T := by
  unfold RA Rmx Rhi Rkm at h ⊢
  rw [a 0 (by simp), a 1 (by simp), a 2 (by simp), a 3 (by simp), a 4 (by simp), a 5 (by simp), a 6 (by simp), a 13 (by simp), a 14 (by simp), a 15 (by simp), a 18 (by simp), a 19 (by simp), a 20 (by simp), a 21 (by simp), a 22 (by simp), a 23 (by simp), b 0 (by simp), b 1 (by simp), b 3 (by simp), b 7 (by simp), b 8 (by simp), b 10 (by simp), b 11 (by simp), b 12 (by simp), b 13 (by simp), b 16 (by simp), b 17 (by simp), b 18 (by simp), b 19 (by simp), b 20 (by simp), b 21 (by simp), b 22 (by simp)]
  exact h
def RQ (S M : GS) (N : Nat) (dn : Nat → Bool) (e : Nat → Nat) : Prop := Rqu S M e N ∧ Alt dn e N ∧ ∀ k, k < 24 → M.1 13 k = b2 (dst dn e N k)
theorem RQ.up {S M S' M' : GS} {N : Nat} {dn : Nat → Bool} {e : Nat → Nat} (h : RQ S M N dn e) (a : ∀ c ∈ [7, 16, 17], S'.1 c = S.1 c) (b : ∀ c ∈ [2, 13, 14, 15], M'.1 c = M.1 c) : RQ S' M' N dn e := by
  unfold RQ Rqu at h ⊢
  rw [a 7 (by simp), a 16 (by simp), a 17 (by simp), b 2 (by simp), b 13 (by simp), b 14 (by simp), b 15 (by simp)]
  exact h
theorem RQ.drop {S M S' M' : GS} {N m : Nat} {dn : Nat → Bool} {e : Nat → Nat} (h : RQ S M N dn e) (hm : m ≤ N) (s7 : S'.1 7 0 = nI (N - m)) (sq : ∀ i, i < N - m → S'.1 16 i = S.1 16 (i + m) ∧ S'.1 17 i = S.1 17 (i + m)) (m2 : M'.1 2 0 = nI (N - m)) (mq : ∀ i, i < N - m → M'.1 14 i = M.1 14 (i + m) ∧ M'.1 15 i = M.1 15 (i + m)) (m13 : M'.1 13 = M.1 13) : RQ S' M' (N - m) (dst dn e m) (fun i => e (i + m)) := by
  obtain ⟨⟨h1, h2, h3⟩, h4, h5⟩ := h
  refine ⟨⟨s7, m2, fun i hi => ?_⟩, Alt.drop (by rw [Nat.sub_add_cancel hm]; exact h4), fun k hk => ?_⟩
  · rw [(sq i hi).1, (sq i hi).2, (mq i hi).1, (mq i hi).2]
    exact h3 (i + m) (by omega)
  · rw [m13, dst_drop, Nat.sub_add_cancel hm]; exact h5 k hk
theorem RQ.s {S M : GS} {N : Nat} {dn : Nat → Bool} {e : Nat → Nat} (h : RQ S M N dn e) (hN : N ≤ 32) : QS S e N := ⟨h.1.1, hN, fun i hi => ⟨(h.1.2.2 i hi).1, (h.1.2.2 i hi).2.1⟩⟩
theorem RQ.m {S M : GS} {N : Nat} {dn : Nat → Bool} {e : Nat → Nat} (h : RQ S M N dn e) (hN : N ≤ 32) : QM M e N := ⟨h.1.2.1, hN, fun i hi => ⟨(h.1.2.2 i hi).1, (h.1.2.2 i hi).2.2.1⟩⟩
def Rho (S M : GS) (C : Nat) : Prop := (∃ c, c ≤ C ∧ M.1 4 0 = nI c ∧ ∀ k, k < 24 → M.1 25 k = 3 → ∃ d, 1 ≤ d ∧ d ≤ c ∧ M.1 27 k = nI d) ∧ ∀ k, k < 24 →
  (M.1 25 k = 0 ∨ M.1 25 k = 1 ∨ M.1 25 k = 2 ∨ M.1 25 k = 3) ∧
  (M.1 25 k = 1 ∨ M.1 25 k = 3 → cod (M.1 26 k) ∧ S.1 25 k = M.1 26 k) ∧
  (M.1 25 k = 0 ∨ M.1 25 k = 2 → S.1 25 k = 0) ∧
  (M.1 25 k = 1 → S.1 26 k = bit k) ∧
  (M.1 25 k = 3 → lo24 (S.1 26 k) ∧ ∀ j, j < 24 → (bt (S.1 26 k) j = true ↔ M.1 25 j = 3 ∧ M.1 27 j = M.1 27 k))
def RH (S M : GS) (C : Nat) (dn : Nat → Bool) : Prop := Rla S M ∧ Rho S M C ∧ ∀ k, k < 24 → M.1 25 k ≠ 0 → dn k = true
theorem RH.up {S M S' M' : GS} {C : Nat} {dn : Nat → Bool} (h : RH S M C dn) (a : ∀ c ∈ [8, 9, 24, 25, 26], S'.1 c = S.1 c) (b : ∀ c ∈ [4, 23, 24, 25, 26, 27], M'.1 c = M.1 c) : RH S' M' C dn := by
  unfold RH Rla Rho at h ⊢
  rw [a 8 (by simp), a 9 (by simp), a 24 (by simp), a 25 (by simp), a 26 (by simp), b 4 (by simp), b 23 (by simp), b 24 (by simp), b 25 (by simp), b 26 (by simp), b 27 (by simp)]
  exact h
theorem Rre.up {S M S' M' : GS} (h : Rre S M) (a : ∀ c ∈ [10, 11, 12, 27], S'.1 c = S.1 c) (a2 : S'.2 = S.2) (b : ∀ c ∈ [5, 6, 28, 29], M'.1 c = M.1 c) : Rre S' M' := by
  unfold Rre Rr at h ⊢
  rw [a 10 (by simp), a 11 (by simp), a 12 (by simp), a 27 (by simp), a2, b 5 (by simp), b 6 (by simp), b 28 (by simp), b 29 (by simp)]
  exact h
theorem p_letGo {S : GS} {k : Nat} {post : GS → Prop} (hp : ∀ S', eqx [24] S S' → (∀ l, l < 4 → S'.1 24 l = S.1 24 l &&& (bit k ^^^ (-1))) → post S') : wp_La_letGo S (nI k) post := by
  refine pk_loop (fun n i (U : GS) => L_La_letGo_2 post n (nI k) (nI i) U) (fun i U => eqx [24] S U ∧ ∀ l, l < 4 → U.1 24 l = if l < i then S.1 24 l &&& (bit k ^^^ (-1)) else S.1 24 l) 4 0 S (by omega) ⟨eqx.rf, fun l _ => by rw [if_neg (by omega)]⟩ ?_ ?_
  · rintro n U ⟨u1, u2⟩
    exact ⟨fun _ => hp U u1 (fun l hl => by rw [u2 l hl, if_pos hl]), fun z => absurd ((le24 (c := 4) (i := 4) (by omega) (by omega)).mpr (Nat.le_refl _)) z⟩
  · rintro n i U hi ⟨u1, u2⟩ ih
    show ((4 : Int32) ≤ nI i → _) ∧ (¬ (4 : Int32) ≤ nI i → _)
    have hin := in_nI (n := 4) hi (by omega)
    rw [nI_clamp (by omega), nI_1]
    refine ⟨fun z => absurd ((le24 (c := 4) (by omega) (by omega)).mp z) (by omega), fun _ => ⟨hin, hin, ih _ ⟨u1.gI (by simp) _, fun l hl => ?_⟩⟩⟩
    rw [gI_s]
    by_cases e : l = i
    · rw [e, upd_s, u2 i hi, if_neg (by omega), if_pos (by omega)]; rfl
    · rw [upd_n _ _ e, u2 l hl]
      by_cases w : l < i
      · rw [if_pos w, if_pos (by omega)]
      · rw [if_neg w, if_neg (by omega)]
theorem p_begin {S : GS} {x v : Int32} {post : GS → Prop} (hp : ∀ S', eqx [25, 26] S S' → (∀ k, k < 24 → S'.1 25 k = if bt x k then v else S.1 25 k) → (∀ k, k < 24 → S'.1 26 k = if bt x k then x else S.1 26 k) → post S') : wp_Ho_begin S x v post := by
  refine pk_loop (fun n i (U : GS) => L_Ho_begin_2 post n x v (nI i) U) (fun i U => eqx [25, 26] S U ∧ ∀ k, k < 24 → U.1 25 k = (if k < i ∧ bt x k = true then v else S.1 25 k) ∧ U.1 26 k = (if k < i ∧ bt x k = true then x else S.1 26 k)) 24 0 S (by omega) ⟨eqx.rf, fun l _ => by rw [if_neg (by omega), if_neg (by omega)]; exact ⟨rfl, rfl⟩⟩ ?_ ?_
  · rintro n U ⟨u1, u2⟩
    refine ⟨fun _ => hp U u1 (fun k hk => ?_) (fun k hk => ?_), fun z => absurd ((le24 (c := 24) (i := 24) (by omega) (by omega)).mpr (Nat.le_refl _)) z⟩
    · rw [(u2 k hk).1]; simp [hk]
    · rw [(u2 k hk).2]; simp [hk]
  · rintro n i U hi ⟨u1, u2⟩ ih
    show ((24 : Int32) ≤ nI i → _) ∧ (¬ (24 : Int32) ≤ nI i → _)
    have hin := in_nI (n := 24) hi (by omega)
    rw [t_and1 _ (by omega), b2_0, nI_clamp (by omega), nI_1]
    refine ⟨fun z => absurd ((le24 (c := 24) (by omega) (by omega)).mp z) (by omega), fun _ => ⟨fun z => ih U ⟨u1, fun k hk => ?_⟩, fun z => ⟨hin, hin, ih _ ⟨(u1.gI (by simp) _).gI (by simp) _, fun k hk => ?_⟩⟩⟩⟩
    · rw [(u2 k hk).1, (u2 k hk).2]
      by_cases e : k = i
      · subst e; simp [z]
      · have : k < i ↔ k < i + 1 := by omega
        simp [this]
    · rw [gI_n _ _ (show 25 ≠ 26 by decide), gI_s, gI_s]
      by_cases e : k = i
      · subst e
        rw [upd_s, upd_s]
        simp at z
        simp [z]
      · rw [upd_n _ _ e, upd_n _ _ e, (u2 k hk).1, (u2 k hk).2]
        have : k < i ↔ k < i + 1 := by omega
        simp [this]
