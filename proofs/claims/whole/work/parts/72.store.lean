def eqr (K : List Nat) (S T : GS) : Prop := ∀ c, c ∉ K → T.1 c = S.1 c
theorem eqr.rf {K : List Nat} {S : GS} : eqr K S S := fun _ _ => rfl
theorem eqr.tr {K : List Nat} {S T U : GS} (h1 : eqr K S T) (h2 : eqr K T U) : eqr K S U := fun c hc => (h2 c hc).trans (h1 c hc)
theorem eqr.up {K K' : List Nat} {S T : GS} (h : eqr K S T) (hK : ∀ c ∈ K, c ∈ K') : eqr K' S T := fun c hc => h c (fun h => hc (hK c h))
theorem eqr.gI {K : List Nat} {S T : GS} (h : eqr K S T) {k : Nat} (hk : k ∈ K) (f : Nat → Int32) : eqr K S (gI T k f) := fun c hc => by
  have : c ≠ k := fun e => hc (e ▸ hk)
  show (if c = k then f else T.1 c) = S.1 c
  rw [if_neg this]; exact h c hc
theorem eqr.gL {K : List Nat} {S T : GS} (h : eqr K S T) (k : Nat) (f : Nat → Int64) : eqr K S (gL T k f) := h
theorem eqx.r {K : List Nat} {S T : GS} (h : eqx K S T) : eqr K S T := h.1
theorem gL_1 (S : GS) (k : Nat) (f : Nat → Int64) : (gL S k f).1 = S.1 := rfl
theorem gL_s (S : GS) (k : Nat) (f : Nat → Int64) : (gL S k f).2 k = f := if_pos rfl
theorem gL_n (S : GS) {k j : Nat} (f : Nat → Int64) (h : j ≠ k) : (gL S k f).2 j = S.2 j := if_neg h
def Rr (S M : GS) (o s : Nat) (R : Nat → Nat → Nat) (LP TK : Nat → Nat) (lt : Bool) : Prop :=
  (o < 8) ∧ (s ≤ 8) ∧ (S.1 10 0 = nI o) ∧ (S.1 11 0 = nI s) ∧ (M.1 5 0 = nI s) ∧ (S.1 12 0 = b2 lt) ∧ (M.1 6 0 = b2 lt) ∧ (∀ j, j < s → good (R j)) ∧ (∀ j, j < s → S.2 2 ((o + j) % 8) = jn (pkN (R j))) ∧ (∀ j, j < s → ∀ i, i < 7 → M.1 29 (7 * j + i) = nI (R j i)) ∧ (good LP) ∧ (S.2 0 0 = jn (pkN LP)) ∧ (∀ i, i < 7 → M.1 29 (56 + i) = nI (LP i)) ∧ (good TK) ∧ (S.2 1 0 = jn (pkN TK)) ∧ (∀ i, i < 7 → M.1 29 (63 + i) = nI (TK i)) ∧ (∀ c, c < 108 → S.1 27 c = M.1 28 c)
theorem Rr.o8 {S M : GS} {o s : Nat} {R : Nat → Nat → Nat} {LP TK : Nat → Nat} {lt : Bool} (h : Rr S M o s R LP TK lt) : o < 8 := h.1
theorem Rr.s8 {S M : GS} {o s : Nat} {R : Nat → Nat → Nat} {LP TK : Nat → Nat} {lt : Bool} (h : Rr S M o s R LP TK lt) : s ≤ 8 := h.2.1
theorem Rr.so {S M : GS} {o s : Nat} {R : Nat → Nat → Nat} {LP TK : Nat → Nat} {lt : Bool} (h : Rr S M o s R LP TK lt) : S.1 10 0 = nI o := h.2.2.1
theorem Rr.ss {S M : GS} {o s : Nat} {R : Nat → Nat → Nat} {LP TK : Nat → Nat} {lt : Bool} (h : Rr S M o s R LP TK lt) : S.1 11 0 = nI s := h.2.2.2.1
theorem Rr.ms {S M : GS} {o s : Nat} {R : Nat → Nat → Nat} {LP TK : Nat → Nat} {lt : Bool} (h : Rr S M o s R LP TK lt) : M.1 5 0 = nI s := h.2.2.2.2.1
theorem Rr.sl {S M : GS} {o s : Nat} {R : Nat → Nat → Nat} {LP TK : Nat → Nat} {lt : Bool} (h : Rr S M o s R LP TK lt) : S.1 12 0 = b2 lt := h.2.2.2.2.2.1
theorem Rr.ml {S M : GS} {o s : Nat} {R : Nat → Nat → Nat} {LP TK : Nat → Nat} {lt : Bool} (h : Rr S M o s R LP TK lt) : M.1 6 0 = b2 lt := h.2.2.2.2.2.2.1
theorem Rr.gR {S M : GS} {o s : Nat} {R : Nat → Nat → Nat} {LP TK : Nat → Nat} {lt : Bool} (h : Rr S M o s R LP TK lt) : ∀ j, j < s → good (R j) := h.2.2.2.2.2.2.2.1
theorem Rr.sR {S M : GS} {o s : Nat} {R : Nat → Nat → Nat} {LP TK : Nat → Nat} {lt : Bool} (h : Rr S M o s R LP TK lt) : ∀ j, j < s → S.2 2 ((o + j) % 8) = jn (pkN (R j)) := h.2.2.2.2.2.2.2.2.1
theorem Rr.mR {S M : GS} {o s : Nat} {R : Nat → Nat → Nat} {LP TK : Nat → Nat} {lt : Bool} (h : Rr S M o s R LP TK lt) : ∀ j, j < s → ∀ i, i < 7 → M.1 29 (7 * j + i) = nI (R j i) := h.2.2.2.2.2.2.2.2.2.1
theorem Rr.gP {S M : GS} {o s : Nat} {R : Nat → Nat → Nat} {LP TK : Nat → Nat} {lt : Bool} (h : Rr S M o s R LP TK lt) : good LP := h.2.2.2.2.2.2.2.2.2.2.1
theorem Rr.sP {S M : GS} {o s : Nat} {R : Nat → Nat → Nat} {LP TK : Nat → Nat} {lt : Bool} (h : Rr S M o s R LP TK lt) : S.2 0 0 = jn (pkN LP) := h.2.2.2.2.2.2.2.2.2.2.2.1
theorem Rr.mP {S M : GS} {o s : Nat} {R : Nat → Nat → Nat} {LP TK : Nat → Nat} {lt : Bool} (h : Rr S M o s R LP TK lt) : ∀ i, i < 7 → M.1 29 (56 + i) = nI (LP i) := h.2.2.2.2.2.2.2.2.2.2.2.2.1
theorem Rr.gT {S M : GS} {o s : Nat} {R : Nat → Nat → Nat} {LP TK : Nat → Nat} {lt : Bool} (h : Rr S M o s R LP TK lt) : good TK := h.2.2.2.2.2.2.2.2.2.2.2.2.2.1
theorem Rr.sT {S M : GS} {o s : Nat} {R : Nat → Nat → Nat} {LP TK : Nat → Nat} {lt : Bool} (h : Rr S M o s R LP TK lt) : S.2 1 0 = jn (pkN TK) := h.2.2.2.2.2.2.2.2.2.2.2.2.2.2.1
theorem Rr.mT {S M : GS} {o s : Nat} {R : Nat → Nat → Nat} {LP TK : Nat → Nat} {lt : Bool} (h : Rr S M o s R LP TK lt) : ∀ i, i < 7 → M.1 29 (63 + i) = nI (TK i) := h.2.2.2.2.2.2.2.2.2.2.2.2.2.2.2.1
theorem Rr.hd {S M : GS} {o s : Nat} {R : Nat → Nat → Nat} {LP TK : Nat → Nat} {lt : Bool} (h : Rr S M o s R LP TK lt) : ∀ c, c < 108 → S.1 27 c = M.1 28 c := h.2.2.2.2.2.2.2.2.2.2.2.2.2.2.2.2
def Rre (S M : GS) : Prop := ∃ o s R LP TK lt, Rr S M o s R LP TK lt
set_option maxHeartbeats 1000000 in
theorem s_tell {S M : GS} (h : Rre S M) {post : GS → Prop} (hp : ∀ S' M', eqr [11, 12] S S' → eqr [5, 6, 29] M M' → Rre S' M' → (∀ P : GS → Prop, P M' → wp_Mo_tell M P) → post S') : wp_Re_packed S (fun r => wp_Re_putIfOther S r post) := by
  obtain ⟨o, s, R, LP, TK, lt, h⟩ := h
  have hrp : rp (M.1 28) = rp (S.1 27) := rp_congr (fun c hc => (h.hd c hc).symm)
  have hr := rp_good (S.1 27)
  have s8 := h.s8
  have o8 := h.o8
  refine p_packed ?_
  unfold wp_Re_putIfOther
  rw [lg_cmp_eq, h.sP, pkN_inj hr h.gP, h.ss, h.so, nI_1, nI_add]
  have h58 : nI s = (8 : Int32) ↔ s = 8 := nI_inj (b := 8) (by omega) (by omega)
  have hrem : nI (o + s) - nI (o + s) / (8 : Int32) * (8 : Int32) = nI ((o + s) % 8) := pk_rem (d := 8) (by omega) (by omega) (by omega)
  rw [h58, hrem, nI_clamp (by omega)]
  refine ⟨fun z => ?_, fun z => ⟨fun w => ?_, fun w => ⟨in_nI (by omega) (by omega), ?_⟩⟩⟩
  · obtain ⟨M', ⟨m1, m2⟩, hrun⟩ := dt_wp_Mo_tell M (fun M' => eqx [29] M M' ∧ ∀ j, j < 70 → M'.1 29 j = M.1 29 j) (q_tell h.ms h.s8 h.gP h.mP (fun _ M' a b => ⟨a, b⟩) (fun y => absurd (by rw [hrp]; exact z) y) (fun y => absurd (by rw [hrp]; exact z) y))
    refine hp S M' eqr.rf (m1.r.up (by simp)) ⟨o, s, R, LP, TK, lt, ⟨o8, s8, h.so, h.ss, ?_, h.sl, ?_, h.gR, h.sR, fun j hj i hi => ?_, h.gP, h.sP, fun i hi => ?_, h.gT, h.sT, fun i hi => ?_, fun c hc => ?_⟩⟩ hrun
    · rw [m1.1 5 (by simp)]; exact h.ms
    · rw [m1.1 6 (by simp)]; exact h.ml
    · rw [m2 _ (by omega)]; exact h.mR j hj i hi
    · rw [m2 _ (by omega)]; exact h.mP i hi
    · rw [m2 _ (by omega)]; exact h.mT i hi
    · rw [m1.1 28 (by simp)]; exact h.hd c hc
  · obtain ⟨M', ⟨m1, m3, m2⟩, hrun⟩ := dt_wp_Mo_tell M (fun M' => eqx [6, 29] M M' ∧ M'.1 6 0 = 1 ∧ ∀ j, j < 70 → M'.1 29 j = M.1 29 j) (q_tell h.ms h.s8 h.gP h.mP (fun y => absurd (by rw [hrp] at y; exact y) z) (fun _ _ M' a b c => ⟨a, b, c⟩) (fun _ y => absurd w (by omega)))
    refine hp _ M' (eqr.rf.gI (by simp) _) (m1.r.up (by simp)) ⟨o, s, R, LP, TK, true, ⟨o8, s8, ?_, ?_, ?_, ?_, m3, h.gR, h.sR, fun j hj i hi => ?_, h.gP, h.sP, fun i hi => ?_, h.gT, h.sT, fun i hi => ?_, fun c hc => ?_⟩⟩ hrun
    · rw [gI_n _ _ (by decide)]; exact h.so
    · rw [gI_n _ _ (by decide)]; exact h.ss
    · rw [m1.1 5 (by simp)]; exact h.ms
    · rw [gI_s]; rfl
    · rw [m2 _ (by omega)]; exact h.mR j hj i hi
    · rw [m2 _ (by omega)]; exact h.mP i hi
    · rw [m2 _ (by omega)]; exact h.mT i hi
    · rw [gI_n _ _ (by decide), m1.1 28 (by simp)]; exact h.hd c hc
  · obtain ⟨M', ⟨m1, m5, ma, mb, mc⟩, hrun⟩ := dt_wp_Mo_tell M (fun M' => eqx [5, 29] M M' ∧ M'.1 5 0 = nI (s + 1) ∧ (∀ i, i < 7 → M'.1 29 (7 * s + i) = nI (rp (M.1 28) i)) ∧ (∀ i, i < 7 → M'.1 29 (56 + i) = nI (rp (M.1 28) i)) ∧ ∀ j, j < 70 → j < 7 * s ∨ 7 * s + 7 ≤ j → j < 56 ∨ 63 ≤ j → M'.1 29 j = M.1 29 j) (q_tell h.ms h.s8 h.gP h.mP (fun y => absurd (by rw [hrp] at y; exact y) z) (fun _ y => absurd y w) (fun _ _ M' a b c d e => ⟨a, b, c, d, e⟩))
    rw [hrp] at ma mb
    have hs7 : s < 8 := by omega
    refine hp _ M' (((eqr.rf.gL 2 _).gI (by simp) _).gL 0 _) (m1.r.up (by simp)) ⟨o, s + 1, fun j => if j = s then rp (S.1 27) else R j, rp (S.1 27), TK, lt, ⟨o8, by omega, ?_, ?_, m5, ?_, ?_, fun j hj => ?_, fun j hj => ?_, fun j hj i hi => ?_, hr, ?_, mb, h.gT, ?_, fun i hi => ?_, fun c hc => ?_⟩⟩ hrun
    · rw [gL_1, gI_n _ _ (by decide), gL_1]; exact h.so
    · rw [gL_1, gI_s]
    · rw [gL_1, gI_n _ _ (by decide), gL_1]; exact h.sl
    · rw [m1.1 6 (by simp)]; exact h.ml
    · dsimp only
      by_cases e : j = s
      · rw [if_pos e]; exact hr
      · rw [if_neg e]; exact h.gR j (by omega)
    · rw [gL_n _ _ (by decide), gI_2, gL_s]
      dsimp only
      by_cases e : j = s
      · rw [if_pos e, e]; exact pk_uLs
      · rw [if_neg e, pk_uLn (by omega)]; exact h.sR j (by omega)
    · dsimp only
      by_cases e : j = s
      · rw [if_pos e, e]; exact ma i hi
      · rw [if_neg e, mc _ (by omega) (by omega) (by omega)]; exact h.mR j (by omega) i hi
    · rw [gL_s]
    · rw [gL_n _ _ (by decide), gI_2, gL_n _ _ (by decide)]; exact h.sT
    · rw [mc _ (by omega) (by omega) (by omega)]; exact h.mT i hi
    · rw [gL_1, gI_n _ _ (by decide), gL_1, m1.1 28 (by simp)]; exact h.hd c hc
/-- a code goes down, or up -/
theorem Rre.upd {S M : GS} (h : Rre S M) {c : Nat} {x y : Int32} (hx : x = y) : Rre (gI S 27 (upd (S.1 27) c x)) (gI M 28 (upd (M.1 28) c y)) := by
  subst hx
  obtain ⟨o, s, R, LP, TK, lt, h⟩ := h
  refine ⟨o, s, R, LP, TK, lt, ⟨h.o8, h.s8, ?_, ?_, ?_, ?_, ?_, h.gR, h.sR, fun j hj i hi => ?_, h.gP, h.sP, fun i hi => ?_, h.gT, h.sT, fun i hi => ?_, fun d hd => ?_⟩⟩
  · rw [gI_n _ _ (by decide)]; exact h.so
  · rw [gI_n _ _ (by decide)]; exact h.ss
  · rw [gI_n _ _ (by decide)]; exact h.ms
  · rw [gI_n _ _ (by decide)]; exact h.sl
  · rw [gI_n _ _ (by decide)]; exact h.ml
  · rw [gI_n _ _ (by decide)]; exact h.mR j hj i hi
  · rw [gI_n _ _ (by decide)]; exact h.mP i hi
  · rw [gI_n _ _ (by decide)]; exact h.mT i hi
  · rw [gI_s, gI_s]
    by_cases e : d = c
    · rw [e, upd_s, upd_s]
    · rw [upd_n _ _ e, upd_n _ _ e]; exact h.hd d hd
theorem s_down {S M : GS} {c : Nat} (h : Rre S M) (hc : c < 108) {post : GS → Prop} (hp : ∀ S' M', eqr [11, 12, 27] S S' → eqr [5, 6, 28, 29] M M' → Rre S' M' → (∀ P : GS → Prop, P M' → wp_Mo_change M (nI c) 1 P) → post S') : wp_Re_goDown S (nI c) post := by
  have hin := in_nI (n := 108) hc (by omega)
  unfold wp_Re_goDown
  rw [nI_clamp (by omega)]
  have hcc := h
  obtain ⟨_, _, _, _, _, _, h0⟩ := hcc
  refine ⟨hin, hin, s_tell (h.upd (c := c) (y := M.1 28 c + 1) (by rw [h0.hd c hc])) (fun S' M' a b r run => hp S' M' ((eqr.rf.gI (by simp) _).tr (a.up (by simp))) ((eqr.rf.gI (by simp) _).tr (b.up (by simp))) r (fun P hP => ?_))⟩
  unfold wp_Mo_change
  rw [nI_clamp (by omega)]
  exact ⟨hin, hin, run _ hP⟩
theorem s_up {S M : GS} {c : Nat} (h : Rre S M) (hc : c < 108) {post : GS → Prop} (hp : ∀ S' M', eqr [11, 12, 27] S S' → eqr [5, 6, 28, 29] M M' → Rre S' M' → (∀ P : GS → Prop, P M' → wp_Mo_change M (nI c) (-1) P) → post S') : wp_Re_letGo S (nI c) post := by
  have hin := in_nI (n := 108) hc (by omega)
  unfold wp_Re_letGo
  rw [nI_clamp (by omega)]
  have hcc := h
  obtain ⟨_, _, _, _, _, _, h0⟩ := hcc
  refine ⟨hin, hin, s_tell (h.upd (c := c) (y := M.1 28 c + -1) (by rw [h0.hd c hc, Int32.sub_eq_add_neg])) (fun S' M' a b r run => hp S' M' ((eqr.rf.gI (by simp) _).tr (a.up (by simp))) ((eqr.rf.gI (by simp) _).tr (b.up (by simp))) r (fun P hP => ?_))⟩
  unfold wp_Mo_change
  rw [nI_clamp (by omega)]
  exact ⟨hin, hin, run _ hP⟩
