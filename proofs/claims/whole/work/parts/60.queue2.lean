set_option maxHeartbeats 1000000 in
theorem q_drop {M : GS} {N m : Nat} {post : GS → Prop} (h1 : M.1 2 0 = nI N) (h2 : N ≤ 32) (hm : m ≤ N)
    (hp : ∀ M', eqx [2, 14, 15] M M' → M'.1 2 0 = nI (N - m) → (∀ i, i < N - m → M'.1 14 i = M.1 14 (i + m) ∧ M'.1 15 i = M.1 15 (i + m)) → post M') : wp_Mo_drop M (nI m) post := by
  have hs : nI N - nI m = nI (N - m) := pk_sub hm
  unfold wp_Mo_drop
  rw [h1, hs]
  refine pk_loop (fun n i (T : GS) => L_Mo_drop_12 post n (nI m) (nI i) T) (fun i T => eqx [2, 14, 15] M T ∧ T.1 2 0 = nI (N - m) ∧ ∀ j, j < 32 → T.1 14 j = (if j < i then M.1 14 (j + m) else M.1 14 j) ∧ T.1 15 j = (if j < i then M.1 15 (j + m) else M.1 15 j)) (N - m) 0 _ (by omega) ⟨eqx.rf.gI (by simp) _, by rw [gI_s], fun j _ => ?_⟩ ?_ ?_
  · rw [gI_n _ _ (by decide), gI_n _ _ (by decide), if_neg (by omega), if_neg (by omega)]; exact ⟨rfl, rfl⟩
  · rintro n T ⟨g1, g0, g2⟩
    show (T.1 2 0 ≤ nI (N - m) → _) ∧ (¬ T.1 2 0 ≤ nI (N - m) → _)
    rw [g0, le24 (by omega) (by omega)]
    refine ⟨fun _ => hp _ g1 g0 (fun i hi => ?_), fun z => absurd (Nat.le_refl _) z⟩
    have := g2 i (by omega)
    rw [if_pos hi, if_pos hi] at this
    exact this
  · rintro n i T hi ⟨g1, g0, g2⟩ ih
    show (T.1 2 0 ≤ nI i → _) ∧ (¬ T.1 2 0 ≤ nI i → _)
    rw [g0, le24 (by omega) (by omega), nI_add, nI_clamp (by omega), nI_clamp (by omega), nI_1]
    refine ⟨fun z => absurd z (by omega), fun _ => ⟨in_nI (by omega) (by omega), in_nI (by omega) (by omega), in_nI (by omega) (by omega), in_nI (by omega) (by omega), ih _ ⟨(g1.gI (by simp) _).gI (by simp) _, by rw [gI_n _ _ (by decide), gI_n _ _ (by decide), g0], fun j hj => ?_⟩⟩⟩
    rw [gI_n _ _ (show 14 ≠ 15 by decide), gI_s, gI_s]
    by_cases e : j = i
    · subst e
      rw [upd_s, upd_s, if_pos (by omega), if_pos (by omega), (g2 (j + m) (by omega)).1, (g2 (j + m) (by omega)).2]
      by_cases m0 : m = 0
      · subst m0; exact ⟨by simp, by simp⟩
      · rw [if_neg (by omega), if_neg (by omega)]; exact ⟨rfl, rfl⟩
    · rw [upd_n _ _ e, upd_n _ _ e, (g2 j hj).1, (g2 j hj).2]
      by_cases l : j < i
      · rw [if_pos l, if_pos l, if_pos (by omega), if_pos (by omega)]; exact ⟨rfl, rfl⟩
      · rw [if_neg l, if_neg l, if_neg (by omega), if_neg (by omega)]; exact ⟨rfl, rfl⟩
/-! What the events behind the first press tell of it -/
def tapF (e : Nat → Nat) : Nat → Nat → Int32 → Nat
  | 0, _, _ => 0
  | d + 1, i, p => if e i % 2 = 1 then tapF e d (i + 1) (p ||| bit (e i / 2)) else if e i / 2 = e 0 / 2 then 1 else if bt p (e i / 2) = true then 2 else tapF e d (i + 1) p
theorem tapF_le (e : Nat → Nat) : ∀ d i p, tapF e d i p ≤ 2
  | 0, _, _ => Nat.zero_le _
  | d + 1, i, p => by
    unfold tapF
    split
    · exact tapF_le e d _ _
    · split
      · omega
      · split
        · omega
        · exact tapF_le e d _ _
theorem p_tellTap {S : GS} {e : Nat → Nat} {N : Nat} {post : Int32 → Prop} (h : QS S e N) (hN : 0 < N) (hp : post (nI (tapF e (N - 1) 1 0))) : wp_Eq_tellTap S post := by
  have hl : ∀ d i p, i + d = N → post (nI (tapF e d i p)) → L_Eq_tellTap_4 S post (d + 1) p (nI i) := by
    intro d
    have h2 := h.2.1
    induction d with
    | zero =>
      intro i p hi hq
      show (S.1 7 0 ≤ nI i → _) ∧ (¬ S.1 7 0 ≤ nI i → _)
      rw [h.1, le24 (by omega) (by omega)]
      exact ⟨fun _ => hq, fun z => absurd (by omega) z⟩
    | succ d ih =>
      intro i p hi hq
      show (S.1 7 0 ≤ nI i → _) ∧ (¬ S.1 7 0 ≤ nI i → _)
      rw [h.1, le24 (by omega) (by omega), nI_1]
      refine ⟨fun z => absurd z (by omega), fun _ => p_keyAt h (by omega) (p_isPress h (by omega) ?_)⟩
      have he := (h.2.2 i (by omega)).1
      have he0 := (h.2.2 0 (by omega)).1
      unfold tapF at hq
      rcases Nat.mod_two_eq_zero_or_one (e i) with z | z <;> rw [z] at hq ⊢
      · rw [if_neg (by omega)] at hq
        refine ⟨fun _ => p_keyAt h (by omega) (p_keyAt (i := 0) h (by omega) ?_), fun y => absurd rfl y⟩
        by_cases k : e i / 2 = e 0 / 2
        · rw [if_pos k] at hq
          rw [k]
          exact ⟨fun _ => hq, fun y => absurd rfl y⟩
        · rw [if_neg k] at hq
          refine ⟨fun y => absurd y (nI_ne (by omega) (by omega) k), fun _ => ?_⟩
          rw [t_mask _ (by omega)]
          by_cases b : bt p (e i / 2) = true
          · rw [if_pos b] at hq
            exact ⟨fun y => absurd y (by rw [b]; decide), fun _ => hq⟩
          · rw [if_neg b] at hq
            exact ⟨fun _ => ih (i + 1) p (by omega) hq, fun y => absurd (by simpa using b) y⟩
      · rw [if_pos rfl] at hq
        exact ⟨fun y => absurd y (by decide), fun _ => ih (i + 1) _ (by omega) hq⟩
  exact ⟨N - 1 + 1, hl (N - 1) 1 0 (by omega) hp⟩
theorem q_tapOf {M : GS} {e : Nat → Nat} {N : Nat} {post : Int32 → Prop} (h : QM M e N) (hN : 0 < N) (hp : post (if tapF e (N - 1) 1 0 = 0 ∧ ((M.1 15 0) + 20 ≤ M.1 1 0 ∨ 8 < N) then 2 else nI (tapF e (N - 1) 1 0))) : wp_Mo_tapOf M post := by
  have hl : ∀ d i p, i + d = N → post (if tapF e d i p = 0 ∧ ((M.1 15 0) + 20 ≤ M.1 1 0 ∨ 8 < N) then 2 else nI (tapF e d i p)) → L_Mo_tapOf_13 M post (d + 1) (nI (e 0 / 2)) p (nI i) := by
    intro d
    have h2 := h.2.1
    induction d with
    | zero =>
      intro i p hi hq
      show (M.1 2 0 ≤ nI i → _) ∧ (¬ M.1 2 0 ≤ nI i → _)
      have h8 : nI N ≤ (8 : Int32) ↔ N ≤ 8 := le24 (i := 8) (by omega) (by omega)
      rw [h.1, le24 (by omega) (by omega), h8]
      refine ⟨fun _ => ⟨in_nI (i := 0) (by omega) (by omega), fun y => ?_, fun y => ⟨fun z => ?_, fun z => ?_⟩⟩, fun z => absurd (by omega) z⟩
      · rw [if_pos ⟨rfl, Or.inl y⟩] at hq; exact hq
      · rw [if_neg (fun w => w.2.elim y (by omega))] at hq; exact hq
      · rw [if_pos ⟨rfl, Or.inr (by omega)⟩] at hq; exact hq
    | succ d ih =>
      intro i p hi hq
      show (M.1 2 0 ≤ nI i → _) ∧ (¬ M.1 2 0 ≤ nI i → _)
      have he := (h.2.2 i (by omega)).1
      have he0 := (h.2.2 0 (by omega)).1
      rw [h.1, le24 (by omega) (by omega), nI_1, nI_clamp (by omega), (h.2.2 i (by omega)).2, e_rem _ he, e_div _ he]
      refine ⟨fun z => absurd z (by omega), fun _ => ⟨in_nI (by omega) (by omega), in_nI (by omega) (by omega), ?_⟩⟩
      unfold tapF at hq
      rcases Nat.mod_two_eq_zero_or_one (e i) with z | z <;> simp only [z] at hq ⊢
      · simp only [show ¬ (0 : Nat) = 1 by decide, if_false] at hq
        refine ⟨fun y => absurd y (by decide), fun _ => ?_⟩
        by_cases k : e i / 2 = e 0 / 2
        · simp only [if_pos k] at hq
          rw [k]
          exact ⟨fun _ => by rw [if_neg (by omega)] at hq; exact hq, fun y => absurd rfl y⟩
        · simp only [if_neg k] at hq
          refine ⟨fun y => absurd y (nI_ne (by omega) (by omega) k), fun _ => ?_⟩
          rw [t_and1 _ (by omega), b2_1]
          by_cases b : bt p (e i / 2) = true
          · simp only [if_pos b] at hq
            exact ⟨fun _ => by rw [if_neg (by omega)] at hq; exact hq, fun y => absurd b y⟩
          · simp only [if_neg b] at hq
            exact ⟨fun y => absurd y b, fun _ => ih (i + 1) p (by omega) hq⟩
      · simp only [if_true] at hq
        exact ⟨fun _ => ih (i + 1) _ (by omega) hq, fun y => absurd rfl y⟩
  refine ⟨in_nI (i := 0) (by omega) (by omega), N - 1 + 1, ?_⟩
  have c0 : (0 : Int32).toNatClampNeg = 0 := rfl
  rw [c0, (h.2.2 0 hN).2, e_div _ (h.2.2 0 hN).1]
  exact hl (N - 1) 1 0 (by omega) hp
