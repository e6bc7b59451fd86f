/-! An event comes: history and queue of both -/
set_option maxHeartbeats 1000000 in
theorem q_bring {M : GS} {k N t : Nat} {p : Int32} {post : GS → Prop} (hN : M.1 2 0 = nI N) (hN2 : N < 80) (ht : M.1 3 0 = nI t)
    (h : ∀ M', eqx [2, 3, 14, 15, 16] M M' → M'.1 2 0 = nI (N + 1) → M'.1 3 0 = nI (t + 1) → M'.1 14 = upd (M.1 14) N ((2 : Int32) * nI k + p) → M'.1 15 = upd (M.1 15) N (M.1 1 0) → (∀ i, i < 32 → M'.1 16 i = if i = 0 then (2 : Int32) * nI k + p else M.1 16 (i - 1)) → post M') : wp_Mo_bring M (nI k) p post := by
  unfold wp_Mo_bring
  have hc : (nI N).toNatClampNeg = N := nI_clamp (by omega)
  rw [hN, hc, nI_1]
  refine ⟨in_nI hN2 (by omega), in_nI hN2 (by omega), ?_⟩
  generalize hT0 : gI (gI (gI M 14 (upd (M.1 14) N ((2 : Int32) * nI k + p))) 15 (upd (M.1 15) N (M.1 1 0))) 2 (fun _ => nI (N + 1)) = T0
  have a16 : T0.1 16 = M.1 16 := by rw [← hT0, gI_n _ _ (by decide), gI_n _ _ (by decide), gI_n _ _ (by decide)]
  have a3 : T0.1 3 = M.1 3 := by rw [← hT0, gI_n _ _ (by decide), gI_n _ _ (by decide), gI_n _ _ (by decide)]
  have e0 : eqx [2, 3, 14, 15, 16] M T0 := by rw [← hT0]; exact ((eqx.rf.gI (by simp) _).gI (by simp) _).gI (by simp) _
  have a2 : T0.1 2 0 = nI (N + 1) := by rw [← hT0, gI_s]
  have a14 : T0.1 14 = upd (M.1 14) N ((2 : Int32) * nI k + p) := by rw [← hT0, gI_n _ _ (by decide), gI_n _ _ (by decide), gI_s]
  have a15 : T0.1 15 = upd (M.1 15) N (M.1 1 0) := by rw [← hT0, gI_n _ _ (by decide), gI_s]
  refine ⟨32, ?_⟩
  refine pk_loopD (fun n i (T : GS) => L_Mo_bring_40 post n (nI k) p (nI i) T) (fun i T => i < 32 ∧ eqx [16] T0 T ∧ ∀ j, j < 32 → T.1 16 j = if i < j then M.1 16 (j - 1) else M.1 16 j) ?_ ?_ 31 T0 ⟨by omega, eqx.rf, fun j hj => by rw [if_neg (by omega), a16]⟩
  · rintro n T ⟨-, g1, g2⟩
    refine ⟨fun _ => ⟨in_nI (i := 0) (by omega) (by omega), h _ ?_ ?_ ?_ ?_ ?_ (fun i hi => ?_)⟩, fun e => absurd ((le24 (c := 0) (i := 0) (by omega) (by omega)).mpr (Nat.le_refl _)) e⟩
    · exact ((e0.tr (g1.up (by simp))).gI (by simp) _).gI (by simp) _
    · rw [gI_n _ _ (by decide), gI_n _ _ (by decide), g1.1 2 (by simp), a2]
    · rw [gI_s]; show T.1 3 0 + 1 = nI (t + 1); rw [g1.1 3 (by simp), a3, ht, nI_1]
    · rw [gI_n _ _ (by decide), gI_n _ _ (by decide), g1.1 14 (by simp), a14]
    · rw [gI_n _ _ (by decide), gI_n _ _ (by decide), g1.1 15 (by simp), a15]
    · rw [gI_n _ _ (by decide), gI_s]
      by_cases e : i = 0
      · subst e; rw [if_pos rfl]; exact upd_s _ _ _
      · rw [if_neg e]
        have : upd (T.1 16) (0 : Int32).toNatClampNeg ((2 : Int32) * nI k + p) i = T.1 16 i := upd_n _ _ e
        rw [this, g2 i hi, if_pos (by omega)]
  · rintro n i T ⟨hi, g1, g2⟩ ih
    have c1 : (nI (i + 1)).toNatClampNeg = i + 1 := nI_clamp (by omega)
    have e1 : nI (i + 1) - 1 = nI i := nI_pred i
    have c0 : (nI i).toNatClampNeg = i := nI_clamp (by omega)
    have e2 : nI (i + 1) + -1 = nI i := pk_m1 i
    refine ⟨fun e => absurd ((le24 (c := i + 1) (i := 0) (by omega) (by omega)).mp e) (by omega), fun _ => ?_⟩
    rw [e1, c1, c0, e2]
    refine ⟨in_nI (by omega) (by omega), in_nI (by omega) (by omega), ih _ ⟨by omega, g1.gI (by simp) _, fun j hj => ?_⟩⟩
    rw [gI_s]
    by_cases e : j = i + 1
    · subst e; rw [upd_s, g2 i (by omega), if_neg (by omega), if_pos (by omega)]; rfl
    · rw [upd_n _ _ e, g2 j hj]
      by_cases hl : i + 1 < j
      · rw [if_pos hl, if_pos (by omega)]
      · rw [if_neg hl, if_neg (by omega)]
set_option maxHeartbeats 1000000 in
theorem p_event {S : GS} {n c N : Nat} {v : Int32} {K : GS → Prop} (hn : S.1 5 0 = nI n) (hn2 : n < 32) (hc : S.1 6 0 = nI c) (hc2 : c ≤ 32) (hN : S.1 7 0 = nI N) (hN2 : N < 32)
    (h : ∀ S', eqx [5, 6, 7, 15, 16, 17] S S' → S'.1 5 0 = nI ((n + 1) % 32) → S'.1 6 0 = nI (min (c + 1) 32) → S'.1 15 = upd (S.1 15) n v → S'.1 7 0 = nI (N + 1) → S'.1 16 = upd (S.1 16) N v → S'.1 17 = upd (S.1 17) N (S.1 0 0) → K S') : wp_Hi_add S v (fun S29 => wp_Eq_add S29 v (S29.1 0 0) K) := by
  unfold wp_Hi_add
  have c1 : (nI n).toNatClampNeg = n := nI_clamp (by omega)
  rw [hn, hc, c1, nI_1, nI_1]
  refine ⟨in_nI hn2 (by omega), ?_⟩
  have e1 : nI (n + 1) - nI (n + 1) / 32 * 32 = nI ((n + 1) % 32) := pk_rem (a := n + 1) (d := 32) (by omega) (by omega) (by omega)
  have e2 : (if (32 : Int32) < nI (c + 1) then (32 : Int32) else nI (c + 1)) = nI (min (c + 1) 32) := by
    by_cases hl : 32 < c + 1
    · have hz : (32 : Int32) < nI (c + 1) := (nI_ltI (a := 32) (by omega) (by omega)).mpr hl
      rw [if_pos hz, Nat.min_eq_right (by omega)]; rfl
    · have hz : ¬ (32 : Int32) < nI (c + 1) := fun z => hl ((nI_ltI (a := 32) (by omega) (by omega)).mp z)
      rw [if_neg hz, Nat.min_eq_left (by omega)]
  rw [e1, e2]
  generalize hT : gI (gI (gI S 15 (upd (S.1 15) n v)) 5 (fun _ => nI ((n + 1) % 32))) 6 (fun _ => nI (min (c + 1) 32)) = T
  have t7 : T.1 7 = S.1 7 := by rw [← hT, gI_n _ _ (by decide), gI_n _ _ (by decide), gI_n _ _ (by decide)]
  have t16 : T.1 16 = S.1 16 := by rw [← hT, gI_n _ _ (by decide), gI_n _ _ (by decide), gI_n _ _ (by decide)]
  have t17 : T.1 17 = S.1 17 := by rw [← hT, gI_n _ _ (by decide), gI_n _ _ (by decide), gI_n _ _ (by decide)]
  have t0 : T.1 0 = S.1 0 := by rw [← hT, gI_n _ _ (by decide), gI_n _ _ (by decide), gI_n _ _ (by decide)]
  have t5 : T.1 5 0 = nI ((n + 1) % 32) := by rw [← hT, gI_n _ _ (by decide), gI_s]
  have t6 : T.1 6 0 = nI (min (c + 1) 32) := by rw [← hT, gI_s]
  have t15 : T.1 15 = upd (S.1 15) n v := by rw [← hT, gI_n _ _ (by decide), gI_n _ _ (by decide), gI_s]
  have eT : eqx [5, 6, 7, 15, 16, 17] S T := by rw [← hT]; exact ((eqx.rf.gI (by simp) _).gI (by simp) _).gI (by simp) _
  unfold wp_Eq_add
  dsimp only
  have c2 : (nI N).toNatClampNeg = N := nI_clamp (by omega)
  rw [t7, hN, c2, nI_1, t0, t16, t17]
  refine ⟨fun e => absurd ((le24 (c := 32) (by omega) (by omega)).mp e) (by omega), fun _ => ⟨in_nI hN2 (by omega), in_nI hN2 (by omega), h _ (((eT.gI (by simp) _).gI (by simp) _).gI (by simp) _) ?_ ?_ ?_ ?_ ?_ ?_⟩⟩
  · rw [gI_n _ _ (by decide), gI_n _ _ (by decide), gI_n _ _ (by decide), t5]
  · rw [gI_n _ _ (by decide), gI_n _ _ (by decide), gI_n _ _ (by decide), t6]
  · rw [gI_n _ _ (by decide), gI_n _ _ (by decide), gI_n _ _ (by decide), t15]
  · rw [gI_s]
  · rw [gI_n _ _ (by decide), gI_n _ _ (by decide), gI_s]
  · rw [gI_n _ _ (by decide), gI_s]
section QB
variable {P : Int32 → GS → Prop} {M : GS} {n i : Nat} {x : Int32} {s b : Nat → Bool}
theorem q_bel_no (hi : i < 24) (hs : ∀ j, j < 24 → M.1 11 j = b2 (s j)) (hb : ∀ j, j < 24 → M.1 13 j = b2 (b j)) (hc : b i = s i ∨ (b i = false ∧ crnB s i = true)) (h : L_Mo_believe_4 P n x (nI (i + 1)) M) : L_Mo_believe_4 P (n + 1) x (nI i) M := by
  have c1 : (nI i).toNatClampNeg = i := nI_clamp (by omega)
  have hin := in_nI (n := 24) hi (by omega)
  have k65 : J_Mo_believe_65 P (fun z0 z1 z2 => L_Mo_believe_4 P n z0 z1 z2) x (nI i) 0 M := by
    unfold J_Mo_believe_65 J_Mo_believe_66
    exact ⟨fun _ => ⟨fun _ => by rw [nI_1]; exact h, fun e => absurd rfl e⟩, fun e => absurd rfl e⟩
  have k41 : b i = false ∨ s i = true → J_Mo_believe_41 P (fun z0 z1 z2 => L_Mo_believe_4 P n z0 z1 z2) x (nI i) M := fun hz => by
    unfold J_Mo_believe_41 J_Mo_believe_42
    rw [c1, hs i hi, hb i hi, b2_0, b2_0]
    exact ⟨hin, fun _ => k65, fun e => ⟨hin, fun e2 => by rcases hz with z | z; exact absurd z e; rw [z] at e2; exact absurd e2 (by decide), fun _ => k65⟩⟩
  show ((24 : Int32) ≤ nI i → _) ∧ (¬ (24 : Int32) ≤ nI i → _)
  refine ⟨fun e => absurd ((le24 (c := 24) (by omega) (by omega)).mp e) (by omega), fun _ => ⟨hin, ?_⟩⟩
  rw [c1, hs i hi, hb i hi, b2_0, b2_0]
  refine ⟨fun e => k41 ?_, fun e => ⟨hin, fun e2 => q_corners hi (f := s) (fun j hj => by rw [if_neg (by decide)]; exact hs j hj) ?_, fun e2 => k41 ?_⟩⟩
  · rcases hc with z | z
    · exact Or.inl (by rw [z]; exact e)
    · exact Or.inl z.1
  · rw [b2_0]
    rcases hc with z | z
    · rw [z] at e2; exact absurd e2 e
    · exact ⟨fun e3 => absurd e3 (by rw [z.2]; decide), fun _ => k41 (Or.inl z.1)⟩
  · exact Or.inr (by simpa using e)
theorem q_bel_ev {p : Bool} (hi : i < 24) (hs : ∀ j, j < 24 → M.1 11 j = b2 (s j)) (hb : ∀ j, j < 24 → M.1 13 j = b2 (b j)) (hc : b i = !p ∧ s i = p ∧ (p = true → crnB s i = false)) (h : wp_Mo_bring (gI M 13 (upd (M.1 13) i (b2 p))) (nI i) (b2 p) (fun M1 => L_Mo_believe_4 P n (x + 1) (nI (i + 1)) M1)) : L_Mo_believe_4 P (n + 1) x (nI i) M := by
  have c1 : (nI i).toNatClampNeg = i := nI_clamp (by omega)
  have hin := in_nI (n := 24) hi (by omega)
  obtain ⟨h1, h2, h3⟩ := hc
  have k77 : ∀ y, J_Mo_believe_77 P (fun z0 z1 z2 => L_Mo_believe_4 P n z0 z1 z2) x (nI i) (b2 p) y M := fun y => by
    unfold J_Mo_believe_77 J_Mo_believe_95
    rw [c1, nar_b2, nI_1]
    cases p
    · exact ⟨hin, fun _ => h, fun e => absurd rfl e⟩
    · exact ⟨hin, fun e => absurd e (by decide), fun _ => h⟩
  show ((24 : Int32) ≤ nI i → _) ∧ (¬ (24 : Int32) ≤ nI i → _)
  refine ⟨fun e => absurd ((le24 (c := 24) (by omega) (by omega)).mp e) (by omega), fun _ => ⟨hin, ?_⟩⟩
  rw [c1, hs i hi, hb i hi, b2_0, b2_0]
  cases p
  · refine ⟨fun _ => ?_, fun e => absurd h2 e⟩
    unfold J_Mo_believe_41 J_Mo_believe_42
    rw [c1, hs i hi, hb i hi, b2_0, b2_0]
    refine ⟨hin, fun e => by rw [h1] at e; exact absurd e (by decide), fun _ => ⟨hin, fun _ => ?_, fun e => absurd h2 e⟩⟩
    unfold J_Mo_believe_66
    exact ⟨fun _ => ⟨fun e => absurd e (by decide), fun _ => k77 1⟩, fun e => absurd rfl e⟩
  · refine ⟨fun e => by rw [h2] at e; exact absurd e (by decide), fun _ => ⟨hin, fun _ => q_corners hi (f := s) (fun j hj => by rw [if_neg (by decide)]; exact hs j hj) ?_, fun e => absurd h1 e⟩⟩
    rw [h3 rfl]
    refine ⟨fun _ => ?_, fun e => absurd rfl e⟩
    unfold J_Mo_believe_42
    rw [c1, hs i hi, hb i hi, b2_0, b2_0]
    refine ⟨hin, fun _ => ?_, fun e => absurd h1 e⟩
    unfold J_Mo_believe_65 J_Mo_believe_66
    exact ⟨fun e => absurd e (by decide), fun _ => k77 0⟩
end QB
