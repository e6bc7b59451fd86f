theorem lo_ushr {v : Int32} : (v.toUInt32 >>> ((24 : Int32).toUInt32 &&& Int32.toUInt32 31)).toInt32 = (0 : Int32) ↔ lo24 v := by
  have hb : ∀ i, bt ((v.toUInt32 >>> ((24 : Int32).toUInt32 &&& Int32.toUInt32 31)).toInt32) i = bt v (24 + i) := fun i => b_ushr 24 (by omega) v i
  constructor
  · intro h i hi
    have := hb (i - 24)
    rw [h, b_0, show 24 + (i - 24) = i from by omega] at this
    exact this.symm
  · intro h
    refine b_ext (fun i hi => ?_)
    rw [hb, b_0]
    exact h _ (by omega)
theorem lo_rng {v : Int32} (hv : v ≠ 0) : lo24 v ↔ ¬ v ≤ 0 ∧ ¬ (16777216 : Int32) ≤ v := by
  constructor
  · intro h
    obtain ⟨X, hX, rfl⟩ := lo_nI h
    have h0 : X ≠ 0 := fun z => hv (by rw [z]; rfl)
    exact ⟨fun z => absurd ((le24 (i := 0) (by omega) (by omega)).mp z) (by omega), fun z => absurd ((le24 (c := 16777216) (by omega) (by omega)).mp z) (by omega)⟩
  · rintro ⟨h1, h2⟩
    obtain ⟨X, hX, rfl⟩ := in_rng (b := 16777216) (by omega) (fun z => h1 (Int32.le_of_lt z)) (Int32.not_le.mp h2)
    intro i hi
    by_cases h : i < 32
    · rw [bt_nI _ h]
      exact Nat.testBit_lt_two_pow (Nat.lt_of_lt_of_le hX (show 2 ^ 24 ≤ 2 ^ i from Nat.pow_le_pow_right (by omega) hi))
    · exact b_big (by omega)
def okC (v w : Int32) : Prop := lo24 v ∧ 2 ≤ sumB v ∧ sumB v ≤ 4 ∧ cod w
theorem chd_g {v : Int32} {post : Int32 → Prop} (h1 : lo24 v ∧ 2 ≤ sumB v ∧ sumB v ≤ 4 → post 1) (h0 : ¬ (lo24 v ∧ 2 ≤ sumB v ∧ sumB v ≤ 4) → post 0) : wp_G_isChord v post := by
  unfold wp_G_isChord
  rw [lo_ushr]
  by_cases h : lo24 v
  · refine p_bits h ⟨fun _ => ?_, fun z => absurd h z⟩
    have := sumB_le v
    have e2 : nI (sumB v) < (2 : Int32) ↔ sumB v < 2 := nI_ltI (b := 2) (by omega) (by omega)
    have e4 : (4 : Int32) < nI (sumB v) ↔ 4 < sumB v := nI_ltI (a := 4) (by omega) (by omega)
    rw [e2, e4]
    exact ⟨fun z => h0 (fun w => absurd w.2.1 (by omega)), fun z => ⟨fun y => h0 (fun w => absurd w.2.2 (by omega)), fun y => h1 ⟨h, by omega, by omega⟩⟩⟩
  · have hany : ∀ (x : Int32) (Q : Int32 → Prop), (∀ r, Q r) → wp_Ji_bitCount x Q := fun x Q hQ => hQ _
    exact hany _ _ (fun r => ⟨fun z => absurd z h, fun _ => h0 (fun w => h w.1)⟩)
theorem els_g {S : GS} {p v : Int32} {post : Int32 → Prop} (h1 : (∃ d, d < 4 ∧ nI d ≠ p ∧ S.1 22 d = v) → post 1) (h0 : ¬ (∃ d, d < 4 ∧ nI d ≠ p ∧ S.1 22 d = v) → post 0) : wp_Ch_hasElsewhere S p v post := by
  refine pk_loop (fun n i (_ : Unit) => L_Ch_hasElsewhere_2 S post n p v (nI i)) (fun i _ => ¬ ∃ d, d < i ∧ nI d ≠ p ∧ S.1 22 d = v) 4 0 () (by omega) (fun ⟨d, w, _⟩ => absurd w (by omega)) ?_ ?_
  · intro n _ h
    exact ⟨fun _ => h0 h, fun z => absurd ((le24 (c := 4) (i := 4) (by omega) (by omega)).mpr (Nat.le_refl _)) z⟩
  · intro n i _ hi h ih
    show ((4 : Int32) ≤ nI i → _) ∧ (¬ (4 : Int32) ≤ nI i → _)
    rw [nI_clamp (by omega), nI_1]
    have nx : ¬ (nI i ≠ p ∧ S.1 22 i = v) → L_Ch_hasElsewhere_2 S post n p v (nI (i + 1)) := fun hn => ih () (fun ⟨d, w1, w2⟩ => by
      rcases Nat.lt_or_ge d i with u | u
      · exact h ⟨d, u, w2⟩
      · rw [show d = i from by omega] at w2; exact hn w2)
    exact ⟨fun z => absurd ((le24 (c := 4) (by omega) (by omega)).mp z) (by omega), fun _ => ⟨fun z => nx (fun w => w.1 z), fun z => ⟨in_nI hi (by omega), fun y => h1 ⟨i, hi, z, y⟩, fun y => nx (fun w => y w.2)⟩⟩⟩
theorem chd_m {M : GS} {p v w : Int32} {P : GS → Prop} (k1 : ¬ (∃ q, q < 4 ∧ p = nI q) → P (gI M 0 (fun _ => 1))) (k2 : (∃ q, q < 4 ∧ p = nI q) → ¬ (v = 0 ∨ okC v w) → P (gI M 0 (fun _ => 2))) (k3 : (∃ q, q < 4 ∧ p = nI q) → (v = 0 ∨ okC v w) → (v ≠ 0 ∧ ∃ d, d < 4 ∧ nI d ≠ p ∧ M.1 21 d = v) → P (gI M 0 (fun _ => 3))) (k0 : ∀ q, q < 4 → p = nI q → (v = 0 ∨ okC v w) → ¬ (v ≠ 0 ∧ ∃ d, d < 4 ∧ nI d ≠ p ∧ M.1 21 d = v) → P (gI (gI (gI M 0 (fun _ => 0)) 21 (upd (M.1 21) q v)) 22 (upd (M.1 22) q w))) : wp_Mo_chord M p v w P := by
  have j44 : ∀ (r : Int32) (g : Bool), (g = true ↔ v = 0 ∨ okC v w) → J_Mo_chord_44 P p v w r (b2 g) M := fun r g hg => by
    refine pk_loop (fun n i (x : Bool) => L_Mo_chord_52 P n p v w r (b2 g) (b2 x) (nI i) M) (fun i x => x = true ↔ v ≠ 0 ∧ ∃ d, d < i ∧ nI d ≠ p ∧ M.1 21 d = v) 4 0 false (by omega) ⟨fun z => absurd z (by decide), fun ⟨_, d, u, _⟩ => absurd u (by omega)⟩ ?_ ?_
    · intro n x hx
      refine ⟨fun _ => isFour_is (fun hq => ⟨fun z => absurd z (by decide), fun _ => ?_⟩) (fun hq => ⟨fun _ => ref_1 ⟨fun z => absurd z (by decide), fun _ => k1 hq⟩, fun z => absurd rfl z⟩), fun z => absurd ((le24 (c := 4) (i := 4) (by omega) (by omega)).mpr (Nat.le_refl _)) z⟩
      rw [b2_0, b2_0]
      refine ⟨fun z => ref_2 ⟨fun y => absurd y (by decide), fun _ => k2 hq (fun y => ?_)⟩, fun z => ⟨fun y => ref_0 ⟨fun _ => ?_, fun u => absurd rfl u⟩, fun y => ref_3 ⟨fun u => absurd u (by decide), fun _ => k3 hq (hg.mp (by simpa using z)) (hx.mp (by simpa using y))⟩⟩⟩
      · rw [hg.mpr y] at z; exact absurd z (by decide)
      · obtain ⟨q, q1, rfl⟩ := hq
        have hin := in_nI (n := 4) q1 (by omega)
        rw [nI_clamp (by omega), gI_n _ _ (show 21 ≠ 0 by decide), gI_n _ _ (show 22 ≠ 0 by decide)]
        exact ⟨hin, hin, k0 q q1 rfl (hg.mp (by simpa using z)) (fun u => by rw [hx.mpr u] at y; exact absurd y (by decide))⟩
    · intro n i x hi hx ih
      show ((4 : Int32) ≤ nI i → _) ∧ (¬ (4 : Int32) ≤ nI i → _)
      unfold J_Mo_chord_84
      rw [nI_clamp (by omega), nI_1, b2_0 x]
      have nx : x = false → ¬ (v ≠ 0 ∧ nI i ≠ p ∧ M.1 21 i = v) → L_Mo_chord_52 P n p v w r (b2 g) 0 (nI (i + 1)) M := fun hz hn => ih false ⟨fun z => absurd z (by decide), fun ⟨u1, d, u2, u3⟩ => by
        rcases Nat.lt_or_ge d i with t | t
        · have := hx.mpr ⟨u1, d, t, u3⟩
          rw [hz] at this; exact absurd this (by decide)
        · rw [show d = i from by omega] at u3; exact absurd ⟨u1, u3⟩ hn⟩
      refine ⟨fun z => absurd ((le24 (c := 4) (by omega) (by omega)).mp z) (by omega), fun _ => ⟨fun z => ⟨fun y => nx z (fun u => u.1 y), fun y => ⟨fun u => nx z (fun t => t.2.1 u), fun u => ⟨in_nI hi (by omega), fun t => ih true ⟨fun _ => ⟨y, i, by omega, u, t⟩, fun _ => rfl⟩, fun t => nx z (fun s => t s.2.2)⟩⟩⟩, fun z => ih true ?_⟩⟩
      obtain ⟨u1, d, u2, u3⟩ := hx.mp (by simpa using z)
      exact ⟨fun _ => ⟨u1, d, by omega, u3⟩, fun _ => rfl⟩
  have hle := sumB_le v
  refine q_bits ⟨fun z => j44 _ true ⟨fun _ => Or.inl z, fun _ => rfl⟩, fun z => ?_⟩
  have no : ¬ okC v w → J_Mo_chord_43 P p v w (nI (sumB v)) M := fun hn => j44 _ false ⟨fun y => absurd y (by decide), fun y => absurd (y.resolve_left z) hn⟩
  have e1 : nI (sumB v) ≤ (1 : Int32) ↔ sumB v ≤ 1 := le24 (i := 1) (by omega) (by omega)
  have e5 : (5 : Int32) ≤ nI (sumB v) ↔ 5 ≤ sumB v := le24 (c := 5) (by omega) (by omega)
  rw [e1, e5]
  refine ⟨fun y => no (fun u => ((lo_rng z).mp u.1).1 y), fun y => ⟨fun x => no (fun u => ((lo_rng z).mp u.1).2 x), fun x => ⟨fun u => no (fun t => absurd t.2.1 (by omega)), fun u => ⟨fun t => no (fun s => absurd s.2.2.1 (by omega)), fun t => code_m (fun c => ⟨fun s => absurd s (by decide), fun _ => j44 _ true ⟨fun _ => Or.inr ⟨(lo_rng z).mpr ⟨y, x⟩, by omega, by omega, c⟩, fun _ => rfl⟩⟩) (fun c => ⟨fun _ => no (fun s => c s.2.2.2), fun s => absurd rfl s⟩)⟩⟩⟩⟩
section LC7
variable {xs : Nat → Int32} {k n : Nat} {K : GS → GS → (Nat → Int64) → Prop} {S M : GS} {o : Nat → Int64}
theorem rc_10 (h : Rel S M n) (hK : ∀ S' M' o', Rel S' M' (n + 100) → K S' M' o') : LC_10 xs k K S M o := by
  unfold LC_10 wpH_Lw_chord
  generalize xs (6 * k + 1) = p
  generalize xs (6 * k + 2) = v
  generalize xs (6 * k + 3) = w
  obtain ⟨x1, x2, x3⟩ := h.rkm
  have hfin : ∀ f : Int32, wp_Mo_thrown (gI M 0 (fun _ => f)) (fun r => ((r = f → K S (gI M 0 (fun _ => f)) o) ∧ (¬ r = f → False))) := fun f => ⟨fun _ => hK _ _ _ ((h.f _).mono (by omega)), fun y => absurd (by show (gI M 0 (fun _ => f)).1 0 0 = f; rw [gI_s]) y⟩
  by_cases hp : ∃ q, q < 4 ∧ p = nI q
  · have hp' := hp
    obtain ⟨q, q1, rfl⟩ := hp'
    have n1 := ne_neg q (by omega)
    have n4 : nI q < (4 : Int32) := (nI_ltI (b := 4) (by omega) (by omega)).mpr q1
    have cq : (nI q).toNatClampNeg = q := nI_clamp (by omega)
    have hin := in_nI (n := 4) q1 (by omega)
    have htw : (∃ d, d < 4 ∧ nI d ≠ nI q ∧ M.1 21 d = v) ↔ ∃ d, d < 4 ∧ nI d ≠ nI q ∧ S.1 22 d = v := ⟨fun ⟨d, d1, d2, d3⟩ => ⟨d, d1, d2, by rw [← (x3 d d1).1]; exact d3⟩, fun ⟨d, d1, d2, d3⟩ => ⟨d, d1, d2, by rw [(x3 d d1).1]; exact d3⟩⟩
    by_cases hv : v = 0 ∨ okC v w
    · by_cases ht : v ≠ 0 ∧ ∃ d, d < 4 ∧ nI d ≠ nI q ∧ S.1 22 d = v
      · have hok := hv.resolve_left ht.1
        have hE : wpT_G_chord S (nI q) v w eS := ⟨fun z => absurd z n1, fun _ => ⟨fun _ => ⟨fun z => absurd z ht.1, fun _ => chd_g (fun _ => ⟨fun z => absurd z (by decide), fun _ => code_g (fun _ => ⟨fun z => absurd z (by decide), fun _ => ⟨fun z => absurd z ht.1, fun _ => els_g (fun _ => ⟨fun z => absurd z (by decide), fun _ => rfl⟩) (fun z => absurd ht.2 z)⟩⟩) (fun z => absurd hok.2.2.2 z)⟩) (fun z => absurd ⟨hok.1, hok.2.1, hok.2.2.1⟩ z)⟩, fun z => absurd n4 z⟩⟩
        exact Or.inr (Or.inr (Or.inr ⟨hE, chd_m (fun z => absurd hp z) (fun _ z => absurd hv z) (fun _ _ _ => hfin 3) (fun _ _ _ _ z => absurd ⟨ht.1, htw.mpr ht.2⟩ z)⟩))
      · have hset : ∀ P : GS → Prop, P (gI (gI S 22 (upd (S.1 22) q v)) 23 (upd (S.1 23) q w)) → J_G_chord_73 P (nI q) v w S := fun P hP => by
          unfold J_G_chord_73 wp_Ch_setChord
          rw [cq]
          exact ⟨hin, hin, hP⟩
        have hgo : (fun S1 => wp_Mo_chord M (nI q) v w (fun M552 => wp_Mo_thrown M552 (fun r556 => ((r556 = 0 → K S1 M552 o) ∧ (¬ r556 = 0 → False))))) (gI (gI S 22 (upd (S.1 22) q v)) 23 (upd (S.1 23) q w)) := by
          refine chd_m (fun z => absurd hp z) (fun _ z => absurd hv z) (fun _ _ z => absurd ⟨z.1, htw.mp z.2⟩ ht) (fun q' q1' eq _ _ => ?_)
          have hqq : q = q' := Classical.byContradiction (fun u => nI_ne (by omega) (by omega) u eq)
          subst hqq
          refine ⟨fun _ => hK _ _ _ ((h.km ((eqx.rf.gI (by simp) _).gI (by simp) _) (((eqx.rf.gI (by simp) _).gI (by simp) _).gI (by simp) _) ⟨?_, ?_, fun c hc => ?_⟩).mono (by omega)), fun y => absurd ?_ y⟩
          · simp only [gI_n _ _ (show 18 ≠ 22 by decide), gI_n _ _ (show 18 ≠ 23 by decide), gI_n _ _ (show 19 ≠ 22 by decide), gI_n _ _ (show 19 ≠ 23 by decide), gI_n _ _ (show 20 ≠ 22 by decide), gI_n _ _ (show 20 ≠ 23 by decide), gI_n _ _ (show 17 ≠ 21 by decide), gI_n _ _ (show 17 ≠ 22 by decide), gI_n _ _ (show 17 ≠ 0 by decide), gI_n _ _ (show 18 ≠ 21 by decide), gI_n _ _ (show 18 ≠ 0 by decide), gI_n _ _ (show 19 ≠ 21 by decide), gI_n _ _ (show 19 ≠ 0 by decide)]
            exact x1
          · simp only [gI_n _ _ (show 21 ≠ 22 by decide), gI_n _ _ (show 21 ≠ 23 by decide), gI_n _ _ (show 20 ≠ 21 by decide), gI_n _ _ (show 20 ≠ 22 by decide), gI_n _ _ (show 20 ≠ 0 by decide)]
            exact x2
          · simp only [gI_s, gI_n _ _ (show 22 ≠ 23 by decide), gI_n _ _ (show 21 ≠ 22 by decide)]
            by_cases ec : c = q
            · rw [ec, upd_s, upd_s, upd_s, upd_s]
              refine ⟨rfl, rfl, ?_, fun z => (hv.resolve_left z).2.2.2⟩
              rcases hv with z | z
              · rw [z]; exact lo_0
              · exact z.1
            · rw [upd_n _ _ ec, upd_n _ _ ec, upd_n _ _ ec, upd_n _ _ ec]; exact x3 c hc
          · show (gI (gI (gI M 0 (fun _ => 0)) 21 _) 22 _).1 0 0 = 0
            rw [gI_n _ _ (by decide), gI_n _ _ (by decide), gI_s]
        have j47 : J_G_chord_47 (fun S1 => wp_Mo_chord M (nI q) v w (fun M552 => wp_Mo_thrown M552 (fun r556 => ((r556 = 0 → K S1 M552 o) ∧ (¬ r556 = 0 → False))))) (nI q) v w S := ⟨fun _ => hset _ hgo, fun z => els_g (fun y => absurd ⟨z, y⟩ ht) (fun _ => ⟨fun _ => hset _ hgo, fun y => absurd rfl y⟩)⟩
        exact Or.inl ⟨fun z => absurd z n1, fun _ => ⟨fun _ => ⟨fun _ => j47, fun z => chd_g (fun _ => ⟨fun y => absurd y (by decide), fun _ => code_g (fun _ => ⟨fun y => absurd y (by decide), fun _ => j47⟩) (fun y => absurd (hv.resolve_left z).2.2.2 y)⟩) (fun y => absurd ⟨(hv.resolve_left z).1, (hv.resolve_left z).2.1, (hv.resolve_left z).2.2.1⟩ y)⟩, fun z => absurd n4 z⟩⟩
    · have hE : wpT_G_chord S (nI q) v w eA := ⟨fun z => absurd z n1, fun _ => ⟨fun _ => ⟨fun z => absurd (Or.inl z) hv, fun _ => chd_g (fun c => ⟨fun z => absurd z (by decide), fun _ => code_g (fun d => absurd (Or.inr ⟨c.1, c.2.1, c.2.2, d⟩) hv) (fun _ => ⟨fun _ => rfl, fun z => absurd rfl z⟩)⟩) (fun _ => ⟨fun _ => rfl, fun z => absurd rfl z⟩)⟩, fun z => absurd n4 z⟩⟩
      exact Or.inr (Or.inr (Or.inl ⟨hE, chd_m (fun z => absurd hp z) (fun _ _ => hfin 2) (fun _ z => absurd z hv) (fun _ _ _ z => absurd z hv)⟩))
  · have hE : wpT_G_chord S p v w eI := ⟨fun _ => rfl, fun z => ⟨fun y => absurd (in_rng (b := 4) (by omega) z y) hp, fun _ => rfl⟩⟩
    exact Or.inr (Or.inl ⟨hE, chd_m (fun _ => hfin 1) (fun z => absurd z hp) (fun z => absurd z hp) (fun q q1 z => absurd ⟨q, q1, z⟩ hp)⟩)
end LC7
