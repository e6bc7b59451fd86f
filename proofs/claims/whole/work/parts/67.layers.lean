/-! Layers: which are on, and a key's top layer -/
def Rla (S M : GS) : Prop := ∀ l, l < 4 → M.1 23 l = b2 (bt (S.1 8 0) l) ∧ M.1 24 l = b2 (bt (S.1 9 0) l) ∧ lo24 (S.1 24 l) ∧ ∀ k, k < 24 → (bt (S.1 24 l) k = true ↔ M.1 25 k = 2 ∧ M.1 26 k = nI l)
def onL (S : GS) (l : Nat) : Bool := decide (l = 0) || (decide (S.1 24 l ≠ 0) || (bt (S.1 8 0) l || bt (S.1 9 0) l))
theorem lo_ne0 {x : Int32} (h : lo24 x) : x ≠ 0 ↔ ∃ k, k < 24 ∧ bt x k = true := by
  constructor
  · intro hx
    refine Classical.byContradiction (fun hn => hx (lo_ext h lo_0 (fun i hi => ?_)))
    rw [b_0]
    cases hb : bt x i
    · rfl
    · exact absurd ⟨i, hi, hb⟩ hn
  · rintro ⟨k, _, hk⟩ rfl
    rw [b_0] at hk
    exact absurd hk (by decide)
theorem p_isOn {S : GS} {l : Nat} {post : Int32 → Prop} (hl : l < 4) (hp : post (b2 (onL S l))) : wp_La_isOn S (nI l) post := by
  unfold wp_La_isOn
  unfold onL at hp
  rw [nI_clamp (by omega), t_and1 _ (by omega), b2_0, b_or]
  by_cases h0 : l = 0
  · subst h0
    exact ⟨fun _ => hp, fun z => absurd rfl z⟩
  · rw [decide_eq_false h0, Bool.false_or] at hp
    refine ⟨fun z => absurd z (nI_ne (b := 0) (by omega) (by omega) h0), fun _ => ⟨in_nI hl (by omega), fun z => ?_, fun z => ?_⟩⟩
    · rw [decide_eq_false (fun w => w z), Bool.false_or] at hp
      generalize (bt (S.1 8 0) l || bt (S.1 9 0) l) = g at hp ⊢
      cases g
      · exact ⟨fun _ => hp, fun w => absurd rfl w⟩
      · exact ⟨fun w => absurd w (by decide), fun _ => hp⟩
    · rw [decide_eq_true z, Bool.true_or] at hp; exact hp
theorem q_isOn {S M : GS} {l : Nat} {post : Int32 → Prop} (h : Rla S M) (hl : l < 4) (hp : post (b2 (onL S l))) : wp_Mo_isOn M (nI l) post := by
  obtain ⟨h1, h2, h3, h4⟩ := h l hl
  have hlp : ∀ x : Bool, (onL S l = true ↔ x = true ∨ ∃ k, k < 24 ∧ M.1 25 k = 2 ∧ M.1 26 k = nI l) → ∃ n, L_Mo_isOn_30 M post n (nI l) (b2 x) 0 := fun x hx => by
    refine pk_loop (fun n i (y : Bool) => L_Mo_isOn_30 M post n (nI l) (b2 y) (nI i)) (fun i y => y = true ↔ x = true ∨ ∃ k, k < i ∧ M.1 25 k = 2 ∧ M.1 26 k = nI l) 24 0 x (by omega) ⟨Or.inl, fun z => z.elim id (fun ⟨k, w, _⟩ => absurd w (by omega))⟩ ?_ ?_
    · intro n y hy
      have : onL S l = y := by
        cases y
        · cases ho : onL S l
          · rfl
          · exact absurd (hy.mpr (hx.mp ho)) (by decide)
        · exact hx.mpr (hy.mp rfl)
      rw [this] at hp
      exact ⟨fun _ => ⟨nar_ok y, hp⟩, fun z => absurd ((le24 (c := 24) (i := 24) (by omega) (by omega)).mpr (Nat.le_refl _)) z⟩
    · intro n i y hi hy ih
      have hin := in_nI (n := 24) hi (by omega)
      show ((24 : Int32) ≤ nI i → _) ∧ (¬ (24 : Int32) ≤ nI i → _)
      unfold J_Mo_isOn_60
      rw [nI_clamp (by omega), nI_1, b2_0]
      refine ⟨fun z => absurd ((le24 (c := 24) (by omega) (by omega)).mp z) (by omega), fun _ => ⟨fun z => ⟨hin, fun a => ⟨hin, fun b => ih true ?_, fun b => ih false ?_⟩, fun a => ih false ?_⟩, fun z => ih true ?_⟩⟩
      · exact ⟨fun _ => Or.inr ⟨i, by omega, a, b⟩, fun _ => rfl⟩
      · refine ⟨fun w => absurd w (by decide), fun w => ?_⟩
        rw [← z]
        refine hy.mpr (w.elim Or.inl (fun ⟨k, w1, w2, w3⟩ => Or.inr ⟨k, ?_, w2, w3⟩))
        rcases Nat.lt_or_ge k i with u | u
        · exact u
        · rw [show k = i from by omega] at w3; exact absurd w3 b
      · refine ⟨fun w => absurd w (by decide), fun w => ?_⟩
        rw [← z]
        refine hy.mpr (w.elim Or.inl (fun ⟨k, w1, w2, w3⟩ => Or.inr ⟨k, ?_, w2, w3⟩))
        rcases Nat.lt_or_ge k i with u | u
        · exact u
        · rw [show k = i from by omega] at w2; exact absurd w2 a
      · have := hy.mp (by simpa using z)
        exact ⟨fun _ => this.elim Or.inl (fun ⟨k, w1, w2⟩ => Or.inr ⟨k, by omega, w2⟩), fun _ => rfl⟩
  have hex : (∃ k, k < 24 ∧ M.1 25 k = 2 ∧ M.1 26 k = nI l) ↔ S.1 24 l ≠ 0 := by
    rw [lo_ne0 h3]
    exact ⟨fun ⟨k, w1, w2⟩ => ⟨k, w1, (h4 k w1).mpr w2⟩, fun ⟨k, w1, w2⟩ => ⟨k, w1, (h4 k w1).mp w2⟩⟩
  have ht : onL S l = true ↔ l = 0 ∨ S.1 24 l ≠ 0 ∨ bt (S.1 8 0) l = true ∨ bt (S.1 9 0) l = true := by
    unfold onL
    rw [Bool.or_eq_true, Bool.or_eq_true, Bool.or_eq_true, decide_eq_true_iff, decide_eq_true_iff]
  rw [hex] at hlp
  unfold wp_Mo_isOn J_Mo_isOn_22
  rw [nI_clamp (by omega), h1, h2, b2_0, b2_0]
  have hin := in_nI (n := 4) hl (by omega)
  refine ⟨fun z => hlp true ?_, fun z => ⟨hin, fun a => ⟨hin, fun b => hlp false ?_, fun b => hlp true ?_⟩, fun a => hlp true ?_⟩⟩
  · have : l = 0 := Classical.byContradiction (fun w => nI_ne (b := 0) (by omega) (by omega) w z)
    exact ⟨fun _ => Or.inl rfl, fun _ => ht.mpr (Or.inl this)⟩
  · rw [ht, a, b]
    refine ⟨fun w => Or.inr ?_, fun w => Or.inr (Or.inl (w.elim (fun v => absurd v (by decide)) id))⟩
    rcases w with w | w | w | w
    · rw [w] at z; exact absurd rfl z
    · exact w
    · exact absurd w (by decide)
    · exact absurd w (by decide)
  · exact ⟨fun _ => Or.inl rfl, fun _ => ht.mpr (Or.inr (Or.inr (Or.inr (by simpa using b))))⟩
  · exact ⟨fun _ => Or.inl rfl, fun _ => ht.mpr (Or.inr (Or.inr (Or.inl (by simpa using a))))⟩
def okL (S : GS) (k l : Nat) : Bool := onL S l && decide (S.1 18 (24 * l + k) ≠ 0)
def topN (S : GS) (k : Nat) : Int32 := if okL S k 3 then nI 3 else if okL S k 2 then nI 2 else if okL S k 1 then nI 1 else if okL S k 0 then nI 0 else -1
theorem topN_is (S : GS) (k : Nat) : topN S k = -1 ∨ ∃ l, l < 4 ∧ topN S k = nI l ∧ S.1 18 (24 * l + k) ≠ 0 := by
  unfold topN
  split
  · rename_i h; exact Or.inr ⟨3, by omega, rfl, by unfold okL at h; simp at h; exact h.2⟩
  · split
    · rename_i h; exact Or.inr ⟨2, by omega, rfl, by unfold okL at h; simp at h; exact h.2⟩
    · split
      · rename_i h; exact Or.inr ⟨1, by omega, rfl, by unfold okL at h; simp at h; exact h.2⟩
      · split
        · rename_i h; exact Or.inr ⟨0, by omega, rfl, by unfold okL at h; simp at h; simpa using h.2⟩
        · exact Or.inl rfl
theorem pl_1 (l k : Nat) : nI l * (24 : Int32) + nI k = nI (24 * l + k) := by
  have : nI l * (24 : Int32) = nI (l * 24) := pk_mul l 24
  rw [this, nI_add, Nat.mul_comm]
theorem pl_2 (l k : Nat) : (24 : Int32) * nI l + nI k = nI (24 * l + k) := by
  have : (24 : Int32) * nI l = nI (24 * l) := pk_mul 24 l
  rw [this, nI_add]
theorem ne_m1 (b : Nat) (hb : b < 2 ^ 31) : nI b ≠ -1 := fun z => ne_neg b hb (by rw [z]; decide)
theorem p_top {S : GS} {k : Nat} {post : Int32 → Prop} (hk : k < 24) (hp : post (topN S k)) : wp_Km_topLayer S (nI k) post := by
  have st : ∀ n l, l < 4 → (okL S k l = true → post (nI l)) → (okL S k l = false → L_Km_topLayer_2 S post n (nI k) (nI l + -1)) → L_Km_topLayer_2 S post (n + 1) (nI k) (nI l) := fun n l hl ht hf => by
    refine ⟨fun z => absurd z (ne_neg l (by omega)), fun _ => ⟨fun z => absurd z (ne_m1 l (by omega)), fun _ => ?_⟩⟩
    rw [pl_1, nI_clamp (by omega)]
    refine ⟨in_nI (by omega) (by omega), fun z => hf ?_, fun z => p_isOn hl ?_⟩
    · unfold okL; rw [decide_eq_false (fun w => w z), Bool.and_false]
    · unfold okL at ht hf
      rw [decide_eq_true z, Bool.and_true] at ht hf
      rw [b2_0]
      exact ⟨hf, fun w => ht (by simpa using w)⟩
  unfold topN at hp
  refine ⟨5, st 4 3 (by omega) (fun a => ?_) (fun a => st 3 2 (by omega) (fun b => ?_) (fun b => st 2 1 (by omega) (fun c => ?_) (fun c => st 1 0 (by omega) (fun d => ?_) (fun d => ⟨fun _ => ?_, fun z => absurd (by decide) z⟩))))⟩
  · rw [if_pos a] at hp; exact hp
  · rw [if_neg (by rw [a]; decide), if_pos b] at hp; exact hp
  · rw [if_neg (by rw [a]; decide), if_neg (by rw [b]; decide), if_pos c] at hp; exact hp
  · rw [if_neg (by rw [a]; decide), if_neg (by rw [b]; decide), if_neg (by rw [c]; decide), if_pos d] at hp; exact hp
  · rw [if_neg (by rw [a]; decide), if_neg (by rw [b]; decide), if_neg (by rw [c]; decide), if_neg (by rw [d]; decide)] at hp; exact hp
theorem q_top {S M : GS} {k : Nat} {post : Int32 → Prop} (h : Rla S M) (hkm : ∀ i, i < 96 → M.1 17 i = S.1 18 i) (hk : k < 24) (hp : post (topN S k)) : wp_Mo_topOf M (nI k) post := by
  have st : ∀ n l x, l < 4 → L_Mo_topOf_4 M post n (nI k) (if okL S k l then nI l else x) (nI (l + 1)) → L_Mo_topOf_4 M post (n + 1) (nI k) x (nI l) := fun n l x hl hL => by
    show ((4 : Int32) ≤ nI l → _) ∧ (¬ (4 : Int32) ≤ nI l → _)
    rw [pl_2, nI_clamp (by omega), nI_1, hkm _ (by omega)]
    refine ⟨fun z => absurd ((le24 (c := 4) (by omega) (by omega)).mp z) (by omega), fun _ => q_isOn h hl ?_⟩
    unfold okL at hL
    rw [b2_0]
    refine ⟨fun z => ?_, fun z => ⟨in_nI (by omega) (by omega), fun w => ?_, fun w => ?_⟩⟩
    · rw [z, Bool.false_and, if_neg (by decide)] at hL; exact hL
    · rw [decide_eq_false (fun v => v w), Bool.and_false, if_neg (by decide)] at hL; exact hL
    · rw [decide_eq_true w, Bool.and_true, if_pos (by simpa using z)] at hL; exact hL
  refine ⟨5, st 4 0 _ (by omega) (st 3 1 _ (by omega) (st 2 2 _ (by omega) (st 1 3 _ (by omega) ⟨fun _ => hp, fun z => absurd ((le24 (c := 4) (i := 4) (by omega) (by omega)).mpr (Nat.le_refl _)) z⟩)))⟩
