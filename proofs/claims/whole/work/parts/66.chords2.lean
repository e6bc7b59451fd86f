/-- chord c stands at the start of a row of m presses -/
def isC (ck : Nat → Int32) (e : Nat → Nat) (m c : Nat) : Prop := 0 < sumB (ck c) ∧ sumB (ck c) ≤ m ∧ keysN e (sumB (ck c)) = ck c
def bst (ck : Nat → Int32) (e : Nat → Nat) (m lo hi : Nat) (x : Int32) : Prop := (x = -1 ∧ ∀ c, lo ≤ c → c < hi → ¬ isC ck e m c) ∨ ∃ b, lo ≤ b ∧ b < hi ∧ x = nI b ∧ isC ck e m b ∧ (∀ c, lo ≤ c → c < hi → isC ck e m c → sumB (ck c) ≤ sumB (ck b)) ∧ ∀ c, lo ≤ c → c < b → isC ck e m c → sumB (ck c) < sumB (ck b)
theorem isC_congr {ck dk : Nat → Int32} {e : Nat → Nat} {m c : Nat} (h : dk c = ck c) : isC dk e m c ↔ isC ck e m c := by unfold isC; rw [h]
theorem bst_congr {ck dk : Nat → Int32} {e : Nat → Nat} {m : Nat} {x : Int32} (h : ∀ c, c < 4 → dk c = ck c) (hb : bst ck e m 0 4 x) : bst dk e m 0 4 x := by
  rcases hb with ⟨h1, h2⟩ | ⟨b, h1, h2, h3, h4, h5, h6⟩
  · exact Or.inl ⟨h1, fun c l1 l2 w => h2 c l1 l2 ((isC_congr (h c l2)).mp w)⟩
  · refine Or.inr ⟨b, h1, h2, h3, (isC_congr (h b h2)).mpr h4, fun c l1 l2 w => ?_, fun c l1 l2 w => ?_⟩
    · rw [h c l2, h b h2]; exact h5 c l1 l2 ((isC_congr (h c l2)).mp w)
    · rw [h c (by omega), h b h2]; exact h6 c l1 l2 ((isC_congr (h c (by omega))).mp w)
theorem bst_uniq {ck : Nat → Int32} {e : Nat → Nat} {m : Nat} {x y : Int32} (h1 : bst ck e m 0 4 x) (h2 : bst ck e m 0 4 y) : x = y := by
  rcases h1 with ⟨a1, a2⟩ | ⟨b, a1, a2, a3, a4, a5, a6⟩ <;> rcases h2 with ⟨c1, c2⟩ | ⟨d, c1, c2, c3, c4, c5, c6⟩
  · rw [a1, c1]
  · exact absurd c4 (a2 d c1 c2)
  · exact absurd a4 (c2 b a1 a2)
  · have g1 := a5 d c1 c2 c4
    have g2 := c5 b a1 a2 a4
    rcases Nat.lt_trichotomy b d with w | w | w
    · have := c6 b a1 w a4; omega
    · rw [a3, c3, w]
    · have := a6 d c1 w c4; omega
theorem ne_neg (b : Nat) (hb : b < 2 ^ 31) : ¬ nI b < (0 : Int32) := fun z => absurd ((nI_ltI (a := b) (b := 0) hb (by omega)).mp z) (by omega)
theorem p_longest {S : GS} {e : Nat → Nat} {N m : Nat} {post : Int32 → Prop} (h : QS S e N) (hm : m ≤ N) (hk : ∀ c, c < 4 → lo24 (S.1 22 c)) (hp : ∀ x, bst (S.1 22) e m 0 4 x → post x) : wp_Ch_longestAtStart S (nI m) post := by
  have h2 := h.2.1
  refine pk_loop (fun n i (st : Int32 × Nat) => L_Ch_longestAtStart_8 S post n (nI m) st.1 (nI st.2) (nI i)) (fun i st => st.2 ≤ 24 ∧ bst (S.1 22) e m 0 i st.1 ∧ (∀ c, c < i → isC (S.1 22) e m c → sumB (S.1 22 c) ≤ st.2) ∧ ((st.1 = -1 ∧ st.2 = 0) ∨ ∃ b, b < i ∧ st.1 = nI b ∧ st.2 = sumB (S.1 22 b))) 4 0 (-1, 0) (by omega) ⟨by omega, Or.inl ⟨rfl, fun c _ l => absurd l (by omega)⟩, fun c l => absurd l (by omega), Or.inl ⟨rfl, rfl⟩⟩ ?_ ?_
  · rintro n ⟨x, t⟩ ⟨-, h1, -⟩
    exact ⟨fun _ => hp x h1, fun z => absurd ((le24 (c := 4) (i := 4) (by omega) (by omega)).mpr (Nat.le_refl _)) z⟩
  · rintro n i ⟨x, t⟩ hi ⟨h0, h1, h3, h4⟩ ih
    dsimp only at h0 h1 h3 h4
    show ((4 : Int32) ≤ nI i → _) ∧ (¬ (4 : Int32) ≤ nI i → _)
    have hle := sumB_le (S.1 22 i)
    have hin := in_nI (n := 4) hi (by omega)
    refine ⟨fun z => absurd ((le24 (c := 4) (by omega) (by omega)).mp z) (by omega), fun _ => ⟨hin, ?_⟩⟩
    rw [nI_clamp (by omega), nI_1]
    refine p_bits (hk i hi) ?_
    have hkeep : (isC (S.1 22) e m i → sumB (S.1 22 i) ≤ t) → L_Ch_longestAtStart_8 S post n (nI m) x (nI t) (nI (i + 1)) := fun hq => by
      refine ih (x, t) ⟨h0, ?_, fun c l w => ?_, ?_⟩
      · rcases h1 with ⟨g1, g2⟩ | ⟨b, g1, g2, g3, g4, g5, g6⟩
        · refine Or.inl ⟨g1, fun c l1 l2 w => ?_⟩
          rcases Nat.lt_or_ge c i with u | u
          · exact g2 c l1 u w
          · have hci : c = i := by omega
            subst hci
            rcases h4 with ⟨_, f2⟩ | ⟨b, f1, f2, _⟩
            · have := hq w; have := w.1; omega
            · rw [g1] at f2
              exact ne_neg b (by omega) (by rw [← f2]; decide)
        · refine Or.inr ⟨b, g1, by omega, g3, g4, fun c l1 l2 w => ?_, g6⟩
          rcases Nat.lt_or_ge c i with u | u
          · exact g5 c l1 u w
          · have hci : c = i := by omega
            subst hci
            rcases h4 with ⟨f1, _⟩ | ⟨b', f1, f2, f3⟩
            · rw [g3] at f1
              exact absurd (show nI b < 0 by rw [f1]; decide) (ne_neg b (by omega))
            · have : b = b' := Classical.byContradiction (fun v => nI_ne (by omega) (by omega) v (g3.symm.trans f2))
              subst this
              rw [← f3]; exact hq w
      · rcases Nat.lt_or_ge c i with u | u
        · exact h3 c u w
        · have hci : c = i := by omega
          subst hci; exact hq w
      · rcases h4 with f | ⟨b, f1, f2⟩
        · exact Or.inl f
        · exact Or.inr ⟨b, by omega, f2⟩
    rw [le24 (by omega) (by omega), nI_ltI (by omega) (by omega)]
    refine ⟨fun z => hkeep (fun _ => z), fun z => ⟨fun y => hkeep (fun w => absurd w.2.1 (by omega)), fun y => p_firstKeys h (by omega) ⟨hin, fun w => ?_, fun w => hkeep (fun v => absurd v.2.2 w)⟩⟩⟩
    have hC : isC (S.1 22) e m i := ⟨by omega, by omega, w⟩
    refine ih (nI i, sumB (S.1 22 i)) ⟨hle, Or.inr ⟨i, by omega, by omega, rfl, hC, fun c l1 l2 v => ?_, fun c l1 l2 v => ?_⟩, fun c l v => ?_, Or.inr ⟨i, by omega, rfl, rfl⟩⟩
    · rcases Nat.lt_or_ge c i with u | u
      · have := h3 c u v; omega
      · rw [show c = i from by omega]; exact Nat.le_refl _
    · have := h3 c l2 v; omega
    · rcases Nat.lt_or_ge c i with u | u
      · have := h3 c u v; dsimp only; omega
      · rw [show c = i from by omega]; exact Nat.le_refl _
theorem q_chordOf {M : GS} {e : Nat → Nat} {N m : Nat} {post : Int32 → Prop} (h : QM M e N) (hm : m ≤ N) (hp : ∀ x, bst (M.1 21) e m 0 4 x → post x) : wp_Mo_chordOf M (nI m) post := by
  have h2 := h.2.1
  have hl : ∀ d x, d ≤ 4 → bst (M.1 21) e m d 4 x → L_Mo_chordOf_4 M post (d + 1) (nI m) x (nI d - 1) := by
    intro d
    induction d with
    | zero =>
      intro x _ hx
      exact ⟨fun _ => hp x hx, fun z => absurd (by decide) z⟩
    | succ d ih =>
      intro x hd hx
      show (nI (d + 1) - 1 < 0 → _) ∧ (¬ nI (d + 1) - 1 < 0 → _)
      have e1 : nI (d + 1) - 1 = nI d := nI_pred d
      have e2 : nI d + -1 = nI d - 1 := by rw [Int32.sub_eq_add_neg]
      have hin := in_nI (i := d) (n := 4) (by omega) (by omega)
      rw [e1, nI_clamp (by omega)]
      refine ⟨fun z => absurd z (ne_neg d (by omega)), fun _ => ⟨hin, q_bits ?_⟩⟩
      have hle := sumB_le (M.1 21 d)
      have hkeep : (isC (M.1 21) e m d → ∃ b, b < 4 ∧ x = nI b ∧ sumB (M.1 21 d) < sumB (M.1 21 b)) → L_Mo_chordOf_4 M post (d + 1) (nI m) x (nI d + -1) := fun hq => by
        rw [e2]
        refine ih x (by omega) ?_
        rcases hx with ⟨g1, g2⟩ | ⟨b, g1, g2, g3, g4, g5, g6⟩
        · refine Or.inl ⟨g1, fun c l1 l2 w => ?_⟩
          rcases Nat.lt_or_ge d c with u | u
          · exact g2 c u l2 w
          · have hci : c = d := by omega
            subst hci
            obtain ⟨b, f0, f2, f3⟩ := hq w
            rw [g1] at f2
            exact ne_neg b (by omega) (by rw [← f2]; decide)
        · have hd2 : isC (M.1 21) e m d → sumB (M.1 21 d) < sumB (M.1 21 b) := fun w => by
            obtain ⟨b', f0, f2, f3⟩ := hq w
            have : b = b' := Classical.byContradiction (fun v => nI_ne (by omega) (by omega) v (g3.symm.trans f2))
            rw [this]; exact f3
          refine Or.inr ⟨b, by omega, g2, g3, g4, fun c l1 l2 w => ?_, fun c l1 l2 w => ?_⟩
          · rcases Nat.lt_or_ge d c with u | u
            · exact g5 c u l2 w
            · have hci : c = d := by omega
              subst hci
              exact Nat.le_of_lt (hd2 w)
          · rcases Nat.lt_or_ge d c with u | u
            · exact g6 c u l2 w
            · have hci : c = d := by omega
              subst hci
              exact hd2 w
      have hset : isC (M.1 21) e m d → (∀ b, b < 4 → x = nI b → sumB (M.1 21 b) ≤ sumB (M.1 21 d)) → L_Mo_chordOf_4 M post (d + 1) (nI m) (nI d) (nI d + -1) := fun hq hs => by
        rw [e2]
        refine ih (nI d) (by omega) (Or.inr ⟨d, Nat.le_refl _, by omega, rfl, hq, fun c l1 l2 w => ?_, fun c l1 l2 => absurd l1 (by omega)⟩)
        rcases Nat.lt_or_ge d c with u | u
        · rcases hx with ⟨g1, g2⟩ | ⟨b, g1, g2, g3, g4, g5, g6⟩
          · exact absurd w (g2 c u l2)
          · have := g5 c u l2 w
            have := hs b g2 g3
            omega
        · rw [show c = d from by omega]; exact Nat.le_refl _
      have k0 : (isC (M.1 21) e m d → False) → J_Mo_chordOf_49 M post (fun z0 z1 z2 => L_Mo_chordOf_4 M post (d + 1) z0 z1 z2) (nI m) x (nI d) (nI (sumB (M.1 21 d))) := fun w => ⟨fun _ => hkeep (fun v => (w v).elim), fun v => absurd rfl v⟩
      have h0 : nI (sumB (M.1 21 d)) ≤ (0 : Int32) ↔ sumB (M.1 21 d) ≤ 0 := le24 (i := 0) (by omega) (by omega)
      rw [h0, nI_ltI (by omega) (by omega)]
      refine ⟨fun z => k0 (fun v => absurd v.1 (by omega)), fun z => ⟨fun y => k0 (fun v => absurd v.2.1 (by omega)), fun y => q_keysOf h (by omega) ⟨hin, fun w => ?_, fun w => k0 (fun v => w v.2.2)⟩⟩⟩
      have hC : isC (M.1 21) e m d := ⟨by omega, by omega, w⟩
      refine ⟨fun v => absurd v (by decide), fun _ => ⟨fun v => hset hC (fun b hb hx2 => ?_), fun v => ?_⟩⟩
      · rw [hx2] at v; exact absurd v (ne_neg b (by omega))
      · rcases hx with ⟨g1, g2⟩ | ⟨b, g1, g2, g3, g4, g5, g6⟩
        · rw [g1] at v; exact absurd (by decide) v
        · have hle2 := sumB_le (M.1 21 b)
          rw [g3, nI_clamp (by omega)]
          refine ⟨in_nI g2 (by omega), q_bits ?_⟩
          rw [nI_ltI (by omega) (by omega), ← g3]
          refine ⟨fun u => hkeep (fun _ => ⟨b, g2, g3, u⟩), fun u => hset hC (fun b' hb' hx2 => ?_)⟩
          have : b = b' := Classical.byContradiction (fun v => nI_ne (by omega) (by omega) v (g3.symm.trans hx2))
          rw [← this]; omega
  exact ⟨5, hl 4 (-1) (by omega) (Or.inl ⟨rfl, fun c l1 l2 => absurd l2 (by omega)⟩)⟩
