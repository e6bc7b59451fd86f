/-! What a press does -/
def tapV (e : Nat → Nat) (N : Nat) (s0 now : Int32) : Int32 := if tapF e (N - 1) 1 0 = 0 ∧ (s0 + 20 ≤ now ∨ 8 < N) then 2 else nI (tapF e (N - 1) 1 0)
theorem p_gTap {S : GS} {e : Nat → Nat} {N : Nat} {post : Int32 → Prop} (h : QS S e N) (hN : 0 < N) (hp : post (tapV e N (S.1 17 0) (S.1 0 0))) : wp_G_tellTap S post := by
  have h2 := h.2.1
  unfold wp_G_tellTap wp_Eq_scanAt wp_Eq_length J_G_tellTap_38 J_G_tellTap_43
  refine p_tellTap h hN ?_
  have c0 : (0 : Int32).toNatClampNeg = 0 := rfl
  have h8 : nI N ≤ (8 : Int32) ↔ N ≤ 8 := le24 (i := 8) (by omega) (by omega)
  have ht := tapF_le e (N - 1) 1 0
  have h0 : nI (tapF e (N - 1) 1 0) = 0 ↔ tapF e (N - 1) 1 0 = 0 := nI_inj (b := 0) (by omega) (by omega)
  dsimp only
  rw [c0, h.1, h8, h0]
  unfold tapV at hp
  refine ⟨in_nI (i := 0) (by omega) (by omega), fun z => ⟨fun w => ⟨fun y => absurd y (by decide), fun _ => ?_⟩, fun w => ?_⟩, fun z => ⟨fun y => ⟨fun w => ⟨fun _ => ?_, fun v => absurd rfl v⟩, fun w => ?_⟩, fun y => ⟨fun w => ⟨fun v => absurd v (by decide), fun _ => ?_⟩, fun w => ?_⟩⟩⟩
  · rw [if_pos ⟨w, Or.inl z⟩] at hp; exact hp
  · rw [if_neg (fun v => w v.1)] at hp; exact hp
  · rw [if_neg (fun v => v.2.elim z (by omega))] at hp; exact hp
  · rw [if_neg (fun v => w v.1)] at hp; exact hp
  · rw [if_pos ⟨w, Or.inr (by omega)⟩] at hp; exact hp
  · rw [if_neg (fun v => w v.1)] at hp; exact hp
theorem tapV_is (e : Nat → Nat) (N : Nat) (s0 now : Int32) : (tapV e N s0 now = 0 ∧ N ≤ 8) ∨ tapV e N s0 now = 1 ∨ tapV e N s0 now = 2 := by
  have ht := tapF_le e (N - 1) 1 0
  unfold tapV
  split
  · exact Or.inr (Or.inr rfl)
  · rename_i w
    rcases (by omega : tapF e (N - 1) 1 0 = 0 ∨ tapF e (N - 1) 1 0 = 1 ∨ tapF e (N - 1) 1 0 = 2) with z | z | z
    · exact Or.inl ⟨by rw [z]; rfl, by
        rcases Nat.lt_or_ge 8 N with v | v
        · exact absurd ⟨z, Or.inr v⟩ w
        · exact v⟩
    · exact Or.inr (Or.inl (by rw [z]; rfl))
    · exact Or.inr (Or.inr (by rw [z]; rfl))
theorem s_touch {S M : GS} {c : Nat} (h : Rre S M) (hc : c < 108) {post : GS → Prop} (hp : ∀ S' M', eqr [11, 12, 27] S S' → eqr [5, 6, 28, 29] M M' → Rre S' M' → (∀ P : GS → Prop, P M' → wp_Mo_touch M (nI c) P) → post S') : wp_Re_goDown S (nI c) (fun S1 => wp_Re_letGo S1 (nI c) post) := by
  refine s_down h hc (fun S1 M1 a1 a2 a3 run1 => s_up a3 hc (fun S2 M2 b1 b2' b3 run2 => hp S2 M2 (a1.tr b1) (a2.tr b2') b3 (fun P hP => ?_)))
  exact run1 _ (run2 _ hP)
set_option maxHeartbeats 1000000 in
theorem s_play {S M : GS} {m : Nat} (hK : Rkm S M) (h : Rre S M) (hm : m < 4) {post : GS → Prop} (hp : ∀ S' M', eqr [11, 12, 27] S S' → eqr [5, 6, 28, 29] M M' → Rre S' M' → (∀ P : GS → Prop, P M' → wp_Mo_play M (nI m) P) → post S') : wp_G_playMacro S (nI m) post := by
  have hl : ∀ d i S1 M1, i + d = 4 → eqr [11, 12, 27] S S1 → eqr [5, 6, 28, 29] M M1 → Rre S1 M1 → (∀ P : GS → Prop, L_Mo_play_2 P (d + 1) (nI m) (nI i) M1 → wp_Mo_play M (nI m) P) → L_G_playMacro_2 post (d + 1) (nI m) (nI i) S1 := by
    intro d
    induction d with
    | zero =>
      intro i S1 M1 hi a1 a2 a3 run
      have : i = 4 := by omega
      subst this
      exact ⟨fun _ => hp S1 M1 a1 a2 a3 (fun P hP => run P ⟨fun _ => hP, fun z => absurd ((le24 (c := 4) (i := 4) (by omega) (by omega)).mpr (Nat.le_refl _)) z⟩), fun z => absurd ((le24 (c := 4) (i := 4) (by omega) (by omega)).mpr (Nat.le_refl _)) z⟩
    | succ d ih =>
      intro i S1 M1 hi a1 a2 a3 run
      show ((4 : Int32) ≤ nI i → _) ∧ (¬ (4 : Int32) ≤ nI i → _)
      have e1 : nI m * (4 : Int32) + nI i = nI (4 * m + i) := by
        have : nI m * (4 : Int32) = nI (m * 4) := pk_mul m 4
        rw [this, nI_add, Nat.mul_comm]
      have e2 : (4 : Int32) * nI m + nI i = nI (4 * m + i) := by
        have : (4 : Int32) * nI m = nI (4 * m) := pk_mul 4 m
        rw [this, nI_add]
      have hin := in_nI (i := 4 * m + i) (n := 16) (by omega) (by omega)
      obtain ⟨k1, k2⟩ := hK.2.1 (4 * m + i) (by omega)
      have c1 : (nI (4 * m + i)).toNatClampNeg = 4 * m + i := nI_clamp (by omega)
      unfold wp_Km_macroCode
      rw [e1, c1, a1 21 (by simp), nI_1]
      have refl0 : S.1 21 (4 * m + i) = 0 → ∀ P : GS → Prop, L_Mo_play_2 P (d + 1) (nI m) (nI (i + 1)) M1 → L_Mo_play_2 P (d + 1 + 1) (nI m) (nI i) M1 := fun hz P hP => by
        show ((4 : Int32) ≤ nI i → _) ∧ (¬ (4 : Int32) ≤ nI i → _)
        rw [e2, c1, a2 20 (by simp), k1, hz, nI_1]
        exact ⟨fun z => absurd ((le24 (c := 4) (by omega) (by omega)).mp z) (by omega), fun _ => ⟨hin, fun _ => hP, fun z => absurd (by decide) z⟩⟩
      have refl1 : ∀ w, 4 ≤ w → w < 108 → S.1 21 (4 * m + i) = nI w → ∀ P : GS → Prop, wp_Mo_touch M1 (nI w) (fun S31 => L_Mo_play_2 P (d + 1) (nI m) (nI (i + 1)) S31) → L_Mo_play_2 P (d + 1 + 1) (nI m) (nI i) M1 := fun w w1 w2 hz P hP => by
        show ((4 : Int32) ≤ nI i → _) ∧ (¬ (4 : Int32) ≤ nI i → _)
        rw [e2, c1, a2 20 (by simp), k1, hz, nI_1]
        exact ⟨fun z => absurd ((le24 (c := 4) (by omega) (by omega)).mp z) (by omega), fun _ => ⟨hin, fun z => absurd ((le24 (i := 0) (by omega) (by omega)).mp z) (by omega), fun _ => ⟨hin, hP⟩⟩⟩
      refine ⟨fun z => absurd ((le24 (c := 4) (by omega) (by omega)).mp z) (by omega), fun _ => ⟨hin, fun z => ih (i + 1) S1 M1 (by omega) a1 a2 a3 (fun P hP => run P (refl0 z P hP)), fun z => ?_⟩⟩
      rcases k2 with y | ⟨w, w1, w2, w3⟩
      · exact absurd y z
      · rw [w3]
        refine s_touch a3 w2 (fun S2 M2 b1 b2' b3 run2 => ih (i + 1) S2 M2 (by omega) (a1.tr b1) (a2.tr b2') b3 (fun P hP => run P (refl1 w w1 w2 w3 P (run2 _ hP))))
  exact ⟨5, hl 4 0 S M (by omega) eqr.rf eqr.rf h (fun P hP => ⟨5, hP⟩)⟩
theorem RH.mono {S M : GS} {C : Nat} {dn dn' : Nat → Bool} (h : RH S M C dn) (hd : ∀ k, k < 24 → dn k = true → dn' k = true) : RH S M C dn' := ⟨h.1, h.2.1, fun k hk w => hd k hk (h.2.2 k hk w)⟩
theorem RH.lock {S M : GS} {C l : Nat} {dn : Nat → Bool} (h : RH S M C dn) (hl : l < 4) : RH (gI S 8 (fun _ => S.1 8 0 ^^^ ((1 : Int32) <<< (nI l &&& 31)))) (gI M 23 (upd (M.1 23) l (b2 (!bt (S.1 8 0) l)))) C dn := by
  obtain ⟨h1, h2, h3⟩ := h
  unfold RH Rla Rho at *
  simp only [gI_s, gI_n _ _ (show 9 ≠ 8 by decide), gI_n _ _ (show 24 ≠ 8 by decide), gI_n _ _ (show 25 ≠ 8 by decide), gI_n _ _ (show 26 ≠ 8 by decide), gI_n _ _ (show 4 ≠ 23 by decide), gI_n _ _ (show 24 ≠ 23 by decide), gI_n _ _ (show 25 ≠ 23 by decide), gI_n _ _ (show 26 ≠ 23 by decide), gI_n _ _ (show 27 ≠ 23 by decide)]
  refine ⟨fun j hj => ⟨?_, (h1 j hj).2⟩, h2, h3⟩
  rw [b_xor, b_one (by omega) (by omega)]
  by_cases e : j = l
  · rw [e, upd_s]; simp
  · rw [upd_n _ _ e, (h1 j hj).1]; simp [e]
theorem RH.arm {S M : GS} {C l : Nat} {dn : Nat → Bool} (h : RH S M C dn) (hl : l < 4) : RH (gI S 9 (fun _ => S.1 9 0 ||| ((1 : Int32) <<< (nI l &&& 31)))) (gI M 24 (upd (M.1 24) l 1)) C dn := by
  obtain ⟨h1, h2, h3⟩ := h
  unfold RH Rla Rho at *
  simp only [gI_s, gI_n _ _ (show 8 ≠ 9 by decide), gI_n _ _ (show 24 ≠ 9 by decide), gI_n _ _ (show 25 ≠ 9 by decide), gI_n _ _ (show 26 ≠ 9 by decide), gI_n _ _ (show 4 ≠ 24 by decide), gI_n _ _ (show 23 ≠ 24 by decide), gI_n _ _ (show 25 ≠ 24 by decide), gI_n _ _ (show 26 ≠ 24 by decide), gI_n _ _ (show 27 ≠ 24 by decide)]
  refine ⟨fun j hj => ⟨(h1 j hj).1, ?_, (h1 j hj).2.2⟩, h2, h3⟩
  rw [b_or, b_one (by omega) (by omega)]
  by_cases e : j = l
  · rw [e, upd_s]; simp [b2]
  · rw [upd_n _ _ e, (h1 j hj).2.1]; simp [e]
