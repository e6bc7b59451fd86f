/-! The queue's questions, both sides, by one pure function each -/
theorem e_and : ∀ x, x < 48 → nI x &&& 1 = nI (x % 2) := by decide +kernel
theorem e_shr : ∀ x, x < 48 → nI x >>> ((1 : Int32) &&& 31) = nI (x / 2) := by decide +kernel
theorem e_div : ∀ x, x < 48 → nI x / 2 = nI (x / 2) := by decide +kernel
theorem e_rem : ∀ x, x < 48 → nI x - nI x / 2 * 2 = nI (x % 2) := by decide +kernel
theorem nI_ne {a b : Nat} (ha : a < 2 ^ 31) (hb : b < 2 ^ 31) (h : a ≠ b) : nI a ≠ nI b := fun e => h (by
  have := congrArg Int32.toNatClampNeg e
  rwa [nI_clamp ha, nI_clamp hb] at this)
def QS (S : GS) (e : Nat → Nat) (N : Nat) : Prop := S.1 7 0 = nI N ∧ N ≤ 32 ∧ ∀ i, i < N → e i < 48 ∧ S.1 16 i = nI (e i)
def QM (M : GS) (e : Nat → Nat) (N : Nat) : Prop := M.1 2 0 = nI N ∧ N ≤ 32 ∧ ∀ i, i < N → e i < 48 ∧ M.1 14 i = nI (e i)
theorem p_keyAt {S : GS} {e : Nat → Nat} {N i : Nat} {post : Int32 → Prop} (h : QS S e N) (hi : i < N) (hp : post (nI (e i / 2))) : wp_Eq_keyAt S (nI i) post := by
  obtain ⟨-, h2, h3⟩ := h
  refine ⟨in_nI (by omega) (by omega), ?_⟩
  rw [nI_clamp (by omega), (h3 i hi).2, e_shr _ (h3 i hi).1]; exact hp
theorem p_isPress {S : GS} {e : Nat → Nat} {N i : Nat} {post : Int32 → Prop} (h : QS S e N) (hi : i < N) (hp : post (nI (e i % 2))) : wp_Eq_isPress S (nI i) post := by
  obtain ⟨-, h2, h3⟩ := h
  refine ⟨in_nI (by omega) (by omega), ?_⟩
  rw [nI_clamp (by omega), (h3 i hi).2, e_and _ (h3 i hi).1]
  rcases Nat.mod_two_eq_zero_or_one (e i) with z | z <;> rw [z] at hp ⊢
  · exact ⟨fun _ => hp, fun y => absurd rfl y⟩
  · exact ⟨fun y => absurd y (by decide), fun _ => hp⟩
def rowF (sc : Nat → Int32) (e : Nat → Nat) : Nat → Nat → Nat
  | 0, i => i
  | d + 1, i => if e i % 2 = 1 ∧ ¬ sc 0 + 9 < sc i then rowF sc e d (i + 1) else i
theorem rowF_le (sc : Nat → Int32) (e : Nat → Nat) : ∀ d i, i ≤ rowF sc e d i ∧ rowF sc e d i ≤ i + d
  | 0, i => ⟨Nat.le_refl _, Nat.le_refl _⟩
  | d + 1, i => by
    unfold rowF
    split
    · have := rowF_le sc e d (i + 1); omega
    · omega
theorem rowF_pr (sc : Nat → Int32) (e : Nat → Nat) : ∀ d i j, i ≤ j → j < rowF sc e d i → e j % 2 = 1
  | 0, i, j, h1, h2 => absurd h2 (by show ¬ j < i; omega)
  | d + 1, i, j, h1, h2 => by
    unfold rowF at h2
    split at h2
    · rename_i hc
      rcases Nat.lt_or_ge i j with z | z
      · exact rowF_pr sc e d (i + 1) j z h2
      · rw [show j = i from by omega]; exact hc.1
    · omega
theorem rowF_congr {sc sd : Nat → Int32} {e : Nat → Nat} {N : Nat} (h : ∀ i, i < N → sd i = sc i) : ∀ d i, i + d ≤ N → rowF sd e d i = rowF sc e d i
  | 0, i, _ => rfl
  | d + 1, i, hi => by
    unfold rowF
    rw [h 0 (by omega), h i (by omega), rowF_congr h d (i + 1) (by omega)]
theorem p_row {S : GS} {e : Nat → Nat} {N : Nat} {post : Int32 → Prop} (h : QS S e N) (hp : post (nI (rowF (S.1 17) e N 0))) : wp_Eq_rowLength S post := by
  have hl : ∀ d i, i + d = N → post (nI (rowF (S.1 17) e d i)) → L_Eq_rowLength_2 S post (d + 1) (nI i) := by
    intro d
    have h2 := h.2.1
    induction d with
    | zero =>
      intro i hi hq
      show (S.1 7 0 ≤ nI i → _) ∧ (¬ S.1 7 0 ≤ nI i → _)
      rw [h.1, le24 (by omega) (by omega)]
      exact ⟨fun _ => hq, fun z => absurd (by omega) z⟩
    | succ d ih =>
      intro i hi hq
      show (S.1 7 0 ≤ nI i → _) ∧ (¬ S.1 7 0 ≤ nI i → _)
      rw [h.1, le24 (by omega) (by omega)]
      refine ⟨fun z => absurd z (by omega), fun _ => p_isPress h (by omega) ?_⟩
      unfold rowF at hq
      have c0 : (0 : Int32).toNatClampNeg = 0 := rfl
      rw [nI_clamp (by omega), c0, nI_1]
      rcases Nat.mod_two_eq_zero_or_one (e i) with z | z
      · rw [if_neg (by rw [z]; exact fun y => absurd y.1 (by decide))] at hq
        rw [z]
        exact ⟨fun _ => hq, fun y => absurd rfl y⟩
      · rw [z]
        refine ⟨fun y => absurd y (by decide), fun _ => ⟨in_nI (by omega) (by omega), in_nI (i := 0) (by omega) (by omega), fun y => ?_, fun y => ?_⟩⟩
        · rw [if_neg (fun w => w.2 y)] at hq; exact hq
        · rw [if_pos ⟨z, y⟩] at hq; exact ih (i + 1) (by omega) hq
  exact ⟨N + 1, hl N 0 (by omega) hp⟩
theorem q_row {M : GS} {e : Nat → Nat} {N : Nat} {post : Int32 → Prop} (h : QM M e N) (hp : post (nI (rowF (M.1 15) e N 0))) : wp_Mo_rowLength M post := by
  have hl : ∀ d i, i + d = N → post (nI (rowF (M.1 15) e d i)) → L_Mo_rowLength_2 M post (d + 1) (nI i) := by
    intro d
    have h2 := h.2.1
    induction d with
    | zero =>
      intro i hi hq
      show (M.1 2 0 ≤ nI i → _) ∧ (¬ M.1 2 0 ≤ nI i → _)
      rw [h.1, le24 (by omega) (by omega)]
      exact ⟨fun _ => hq, fun z => absurd (by omega) z⟩
    | succ d ih =>
      intro i hi hq
      show (M.1 2 0 ≤ nI i → _) ∧ (¬ M.1 2 0 ≤ nI i → _)
      rw [h.1, le24 (by omega) (by omega)]
      unfold rowF at hq
      have c0 : (0 : Int32).toNatClampNeg = 0 := rfl
      rw [nI_clamp (by omega), c0, nI_1, (h.2.2 i (by omega)).2, e_rem _ (h.2.2 i (by omega)).1]
      refine ⟨fun z => absurd z (by omega), fun _ => ⟨in_nI (by omega) (by omega), ?_⟩⟩
      rcases Nat.mod_two_eq_zero_or_one (e i) with z | z
      · rw [if_neg (by rw [z]; exact fun y => absurd y.1 (by decide))] at hq
        rw [z]
        exact ⟨fun y => absurd y (by decide), fun _ => hq⟩
      · rw [z]
        refine ⟨fun _ => ⟨in_nI (by omega) (by omega), in_nI (i := 0) (by omega) (by omega), fun y => ?_, fun y => ?_⟩, fun y => absurd rfl y⟩
        · rw [if_neg (fun w => w.2 y)] at hq; exact hq
        · rw [if_pos ⟨z, y⟩] at hq; exact ih (i + 1) (by omega) hq
  exact ⟨N + 1, hl N 0 (by omega) hp⟩
def bit (k : Nat) : Int32 := (1 : Int32) <<< (nI k &&& 31)
def keysN (e : Nat → Nat) : Nat → Int32
  | 0 => 0
  | m + 1 => keysN e m ||| bit (e m / 2)
theorem keysN_lo {e : Nat → Nat} : ∀ {m : Nat}, (∀ i, i < m → e i < 48) → lo24 (keysN e m)
  | 0, _ => lo_0
  | m + 1, h => lo_or (keysN_lo (fun i hi => h i (by omega))) (lo_one (by have := h m (by omega); omega))
theorem keysN_bt {e : Nat → Nat} : ∀ {m : Nat}, (∀ i, i < m → e i < 48) → ∀ k, k < 24 → (bt (keysN e m) k = true ↔ ∃ i, i < m ∧ e i / 2 = k)
  | 0, _, k, _ => by
    show bt 0 k = true ↔ _
    rw [b_0]
    exact ⟨fun z => absurd z (by decide), fun ⟨i, h, _⟩ => absurd h (by omega)⟩
  | m + 1, h, k, hk => by
    show bt (keysN e m ||| bit (e m / 2)) k = true ↔ _
    have hm := h m (by omega)
    rw [b_or, bit, b_one (by omega) (by omega), Bool.or_eq_true, keysN_bt (fun i hi => h i (by omega)) k hk, decide_eq_true_iff]
    constructor
    · rintro (⟨i, h1, h2⟩ | h1)
      · exact ⟨i, by omega, h2⟩
      · exact ⟨m, by omega, h1.symm⟩
    · rintro ⟨i, h1, h2⟩
      rcases Nat.lt_or_ge i m with z | z
      · exact Or.inl ⟨i, z, h2⟩
      · rw [show i = m from by omega] at h2; exact Or.inr h2.symm
theorem p_firstKeys {S : GS} {e : Nat → Nat} {N m : Nat} {post : Int32 → Prop} (h : QS S e N) (hm : m ≤ N) (hp : post (keysN e m)) : wp_Eq_firstKeys S (nI m) post := by
  have h2 := h.2.1
  refine pk_loop (fun n i (x : Int32) => L_Eq_firstKeys_4 S post n (nI m) x (nI i)) (fun i x => x = keysN e i) m 0 0 (by omega) rfl ?_ ?_
  · intro n x hx
    subst hx
    show (nI m ≤ nI m → _) ∧ (¬ nI m ≤ nI m → _)
    rw [le24 (by omega) (by omega)]
    exact ⟨fun _ => hp, fun z => absurd (by omega) z⟩
  · intro n i x hi hx ih
    subst hx
    show (nI m ≤ nI i → _) ∧ (¬ nI m ≤ nI i → _)
    rw [le24 (by omega) (by omega), h.1, le24 (by omega) (by omega), nI_1]
    exact ⟨fun z => absurd z (by omega), fun _ => ⟨fun z => absurd z (by omega), fun _ => p_keyAt h (by omega) (ih _ rfl)⟩⟩
theorem q_keysOf {M : GS} {e : Nat → Nat} {N m : Nat} {post : Int32 → Prop} (h : QM M e N) (hm : m ≤ N) (hp : post (keysN e m)) : wp_Mo_keysOf M (nI m) post := by
  have h2 := h.2.1
  refine pk_loop (fun n i (x : Int32) => L_Mo_keysOf_4 M post n (nI m) x (nI i)) (fun i x => x = keysN e i) m 0 0 (by omega) rfl ?_ ?_
  · intro n x hx
    subst hx
    show (nI m ≤ nI m → _) ∧ (¬ nI m ≤ nI m → _)
    rw [le24 (by omega) (by omega)]
    exact ⟨fun _ => hp, fun z => absurd (by omega) z⟩
  · intro n i x hi hx ih
    subst hx
    show (nI m ≤ nI i → _) ∧ (¬ nI m ≤ nI i → _)
    rw [le24 (by omega) (by omega), nI_1, nI_clamp (by omega), (h.2.2 i (by omega)).2, e_div _ (h.2.2 i (by omega)).1]
    exact ⟨fun z => absurd z (by omega), fun _ => ⟨in_nI (by omega) (by omega), ih _ rfl⟩⟩
set_option maxHeartbeats 1000000 in
theorem p_remove {S : GS} {N m : Nat} {post : GS → Prop} (h1 : S.1 7 0 = nI N) (h2 : N ≤ 32) (hm : m ≤ N)
    (hp : ∀ S', eqx [7, 16, 17] S S' → S'.1 7 0 = nI (N - m) → (∀ i, i < N - m → S'.1 16 i = S.1 16 (i + m) ∧ S'.1 17 i = S.1 17 (i + m)) → post S') : wp_Eq_removeFirst S (nI m) post := by
  refine pk_loop (fun n i (T : GS) => L_Eq_removeFirst_2 post n (nI m) (nI i) T) (fun i T => m ≤ i ∧ eqx [16, 17] S T ∧ ∀ j, j < 32 → T.1 16 j = (if j + m < i then S.1 16 (j + m) else S.1 16 j) ∧ T.1 17 j = (if j + m < i then S.1 17 (j + m) else S.1 17 j)) N m S hm ⟨Nat.le_refl _, eqx.rf, fun j _ => by rw [if_neg (by omega), if_neg (by omega)]; exact ⟨rfl, rfl⟩⟩ ?_ ?_
  · rintro n T ⟨-, g1, g2⟩
    show (T.1 7 0 ≤ nI N → _) ∧ (¬ T.1 7 0 ≤ nI N → _)
    rw [g1.1 7 (by simp), h1, le24 (by omega) (by omega)]
    have hs : nI N - nI m = nI (N - m) := pk_sub hm
    refine ⟨fun _ => hp _ ((g1.up (by simp)).gI (by simp) _) ?_ (fun i hi => ?_), fun z => absurd (Nat.le_refl _) z⟩
    · rw [gI_s, hs]
      have hz : ¬ nI (N - m) < (0 : Int32) := fun z => absurd ((nI_ltI (a := N - m) (b := 0) (by omega) (by omega)).mp z) (by omega)
      rw [if_neg hz]
    · rw [gI_n _ _ (by decide), gI_n _ _ (by decide)]
      have := g2 i (by omega)
      rw [if_pos (by omega), if_pos (by omega)] at this
      exact this
  · rintro n i T hi ⟨hmi, g1, g2⟩ ih
    · show (T.1 7 0 ≤ nI i → _) ∧ (¬ T.1 7 0 ≤ nI i → _)
      have hs : nI i - nI m = nI (i - m) := pk_sub hmi
      rw [g1.1 7 (by simp), h1, le24 (by omega) (by omega), hs, nI_clamp (by omega), nI_clamp (by omega), nI_1]
      refine ⟨fun z => absurd z (by omega), fun _ => ⟨in_nI (by omega) (by omega), in_nI (by omega) (by omega), in_nI (by omega) (by omega), in_nI (by omega) (by omega), ih _ ⟨by omega, (g1.gI (by simp) _).gI (by simp) _, fun j hj => ?_⟩⟩⟩
      rw [gI_n _ _ (show 16 ≠ 17 by decide), gI_s, gI_s]
      by_cases e : j = i - m
      · subst e
        rw [upd_s, upd_s, show i - m + m = i from by omega, if_pos (by omega), if_pos (by omega), (g2 i (by omega)).1, (g2 i (by omega)).2]
        by_cases m0 : m = 0
        · subst m0; exact ⟨by simp, by simp⟩
        · rw [if_neg (by omega), if_neg (by omega)]; exact ⟨rfl, rfl⟩
      · rw [upd_n _ _ e, upd_n _ _ e, (g2 j hj).1, (g2 j hj).2]
        by_cases l : j + m < i
        · rw [if_pos l, if_pos l, if_pos (by omega), if_pos (by omega)]; exact ⟨rfl, rfl⟩
        · rw [if_neg l, if_neg l, if_neg (by omega), if_neg (by omega)]; exact ⟨rfl, rfl⟩
