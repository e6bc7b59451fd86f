/-! The reference's look -/
def nz (x : Int32) : Bool := decide (x ≠ 0)
theorem nz_b2 (c : Bool) : nz (b2 c) = c := by cases c <;> decide
theorem nz_f {x : Int32} : nz x = false ↔ x = 0 := by unfold nz; rw [decide_eq_false_iff_not]; exact Decidable.not_not
theorem nz_t {x : Int32} : nz x = true ↔ ¬ x = 0 := by unfold nz; rw [decide_eq_true_iff]
theorem nar_b2 (c : Bool) : vp_nar .boolean (b2 c) = b2 c := by cases c <;> decide
theorem nar_ok (c : Bool) : narrow .boolean (.int (b2 c)) = .int (b2 c) := by cases c <;> decide
theorem b2_t : b2 true = 1 := rfl
theorem b2_f : b2 false = 0 := rfl
section QH
variable {S : GS} {post : Int32 → Prop} {k17 : Int32 → Int32 → Int32 → Int32 → Int32 → Int32 → Prop} {k26 : Int32 → Int32 → Int32 → Int32 → Int32 → Int32 → Int32 → Prop}
theorem q_139 {x1 x2 x8 x9 x10 : Int32} {k i j : Nat} {hb al : Bool} (hk : k < 24) (hi : i < 4) (hj : j < 6) (h : k26 x1 x2 (nI (k / 6)) (nI (k % 6)) (b2 (hb || (decide (i ≠ k / 6) && (decide (j ≠ k % 6) && al)))) (nI i) (nI j + 1)) : J_Mo_hasCorners_139 S post k17 k26 x1 x2 (nI (k / 6)) (nI (k % 6)) (b2 hb) (nI i) (nI j) x8 x9 x10 (b2 al) := by
  unfold J_Mo_hasCorners_139 J_Mo_hasCorners_164
  rw [nI_eq (by omega) (by omega), nI_eq (by omega) (by omega), b2_0, b2_0]
  cases hb
  · refine ⟨fun _ => ⟨fun e => ?_, fun e => ⟨fun e2 => ?_, fun e2 => ⟨fun e3 => ?_, fun e3 => ?_⟩⟩⟩, fun e => absurd rfl e⟩
    · rw [show (false || (decide (i ≠ k / 6) && (decide (j ≠ k % 6) && al))) = false by simp [e]] at h; exact h
    · rw [show (false || (decide (i ≠ k / 6) && (decide (j ≠ k % 6) && al))) = false by simp [e2]] at h; exact h
    · rw [show (false || (decide (i ≠ k / 6) && (decide (j ≠ k % 6) && al))) = false by simp [e3]] at h; exact h
    · have e4 : al = true := by simpa using e3
      rw [show (false || (decide (i ≠ k / 6) && (decide (j ≠ k % 6) && al))) = true by simp [e, e2, e4]] at h; exact h
  · exact ⟨fun e => absurd e (by decide), fun _ => h⟩
end QH
def prc (f : Nat → Bool) (k r c : Nat) : Bool := decide (r ≠ k / 6) && (decide (c ≠ k % 6) && (f (6 * (k / 6) + c) && (f (6 * r + k % 6) && f (6 * r + c))))
theorem crn_prc {f : Nat → Bool} {k : Nat} : crn f k ↔ ∃ r, r < 4 ∧ ∃ c, c < 6 ∧ prc f k r c = true := by
  unfold crn prc
  constructor
  · rintro ⟨r, h1, h2, h3, c, h4, h5, h6, h7⟩
    exact ⟨r, h1, c, h4, by simp [h2, h3, h5, h6, h7]⟩
  · rintro ⟨r, h1, c, h4, h⟩
    simp only [Bool.and_eq_true, decide_eq_true_eq] at h
    exact ⟨r, h1, h.1, h.2.2.2.1, c, h4, h.2.1, h.2.2.1, h.2.2.2.2⟩
theorem n6 {a c : Nat} : (6 : Int32) * nI a + nI c = nI (6 * a + c) := by rw [show (6 : Int32) = nI 6 from rfl, pk_mul, nI_add]
set_option maxHeartbeats 2000000 in
theorem q_corners {S : GS} {k : Nat} {p1 : Int32} {post : Int32 → Prop} (hk : k < 24) {f : Nat → Bool} (hf : ∀ i, i < 24 → (if p1 = 0 then S.1 9 i else S.1 11 i) = b2 (f i)) (h : post (b2 (crnB f k))) : wp_Mo_hasCorners S (nI k) p1 post := by
  unfold wp_Mo_hasCorners
  rw [k_rem hk, k_div hk]
  have hd : k / 6 < 4 := by omega
  have hm : k % 6 < 6 := by omega
  refine pk_loop (fun n i (x5 : Bool) => L_Mo_hasCorners_17 S post n (nI k) p1 (nI (k / 6)) (nI (k % 6)) (b2 x5) (nI i)) (fun i x5 => x5 = true ↔ ∃ r, r < i ∧ ∃ c, c < 6 ∧ prc f k r c = true) 4 0 false (by omega) ⟨fun e => absurd e (by decide), fun ⟨r, hr, _⟩ => absurd hr (by omega)⟩ ?_ ?_
  · intro n x5 hI
    refine ⟨fun _ => ⟨nar_ok _, ?_⟩, fun e => absurd ((le24 (c := 4) (i := 4) (by omega) (by omega)).mpr (Nat.le_refl _)) e⟩
    have : x5 = crnB f k := by
      cases e : crnB f k
      · cases e2 : x5
        · rfl
        · exact absurd (crn_prc.mpr (hI.mp e2)) (crnB_f.mp e)
      · exact hI.mpr (crn_prc.mp (crnB_t.mp e))
    rw [this]; exact h
  · intro n i x5 hi hI ih
    refine ⟨fun e => absurd ((le24 (c := 4) (by omega) (by omega)).mp e) (by omega), fun _ => ?_⟩
    refine pk_loop (fun n2 j (y5 : Bool) => L_Mo_hasCorners_26 S post (fun z0 z1 z2 z3 z4 z5 => L_Mo_hasCorners_17 S post n z0 z1 z2 z3 z4 z5) n2 (nI k) p1 (nI (k / 6)) (nI (k % 6)) (b2 y5) (nI i) (nI j)) (fun j y5 => y5 = true ↔ (∃ r, r < i ∧ ∃ c, c < 6 ∧ prc f k r c = true) ∨ ∃ c, c < j ∧ prc f k i c = true) 6 0 x5 (by omega) ⟨fun e => Or.inl (hI.mp e), fun e => hI.mpr (e.elim id (fun ⟨c, hc, _⟩ => absurd hc (by omega)))⟩ ?_ ?_
    · intro n2 y5 hJ
      refine ⟨fun _ => ?_, fun e => absurd ((le24 (c := 6) (i := 6) (by omega) (by omega)).mpr (Nat.le_refl _)) e⟩
      show L_Mo_hasCorners_17 S post n (nI k) p1 (nI (k / 6)) (nI (k % 6)) (b2 y5) (nI i + 1)
      rw [nI_1]
      refine ih y5 ⟨fun e => ?_, fun ⟨r, hr, c, hc, hp⟩ => hJ.mpr ?_⟩
      · rcases hJ.mp e with ⟨r, hr, hz⟩ | ⟨c, hc, hz⟩
        · exact ⟨r, by omega, hz⟩
        · exact ⟨i, by omega, c, hc, hz⟩
      · by_cases e : r = i
        · subst e; exact Or.inr ⟨c, hc, hp⟩
        · exact Or.inl ⟨r, by omega, c, hc, hp⟩
    · intro n2 j y5 hj hJ ih2
      have i1 : 6 * (k / 6) + j < 24 := by omega
      have i2 : 6 * i + k % 6 < 24 := by omega
      have i3 : 6 * i + j < 24 := by omega
      have fin : ∀ al : Bool, al = (f (6 * (k / 6) + j) && (f (6 * i + k % 6) && f (6 * i + j))) → ∀ x8 x9 x10, J_Mo_hasCorners_139 S post (fun z0 z1 z2 z3 z4 z5 => L_Mo_hasCorners_17 S post n z0 z1 z2 z3 z4 z5) (fun z0 z1 z2 z3 z4 z5 z6 => L_Mo_hasCorners_26 S post (fun z0 z1 z2 z3 z4 z5 => L_Mo_hasCorners_17 S post n z0 z1 z2 z3 z4 z5) n2 z0 z1 z2 z3 z4 z5 z6) (nI k) p1 (nI (k / 6)) (nI (k % 6)) (b2 y5) (nI i) (nI j) x8 x9 x10 (b2 al) := by
        intro al hal x8 x9 x10
        refine q_139 hk hi hj ?_
        show L_Mo_hasCorners_26 S post _ n2 _ _ _ _ _ _ (nI j + 1)
        rw [nI_1]
        have hp : (decide (i ≠ k / 6) && (decide (j ≠ k % 6) && al)) = prc f k i j := by unfold prc; rw [hal]
        rw [hp]
        refine ih2 _ ⟨fun e => ?_, fun e => ?_⟩
        · rw [Bool.or_eq_true] at e
          rcases e with e | e
          · rcases hJ.mp e with hz | ⟨c, hc, hz⟩
            · exact Or.inl hz
            · exact Or.inr ⟨c, by omega, hz⟩
          · exact Or.inr ⟨j, by omega, e⟩
        · rw [Bool.or_eq_true]
          rcases e with hz | ⟨c, hc, hz⟩
          · exact Or.inl (hJ.mpr (Or.inl hz))
          · by_cases e : c = j
            · subst e; exact Or.inr hz
            · exact Or.inl (hJ.mpr (Or.inr ⟨c, by omega, hz⟩))
      have c1 : (nI (6 * (k / 6) + j)).toNatClampNeg = 6 * (k / 6) + j := nI_clamp (by omega)
      have c2 : (nI (6 * i + k % 6)).toNatClampNeg = 6 * i + k % 6 := nI_clamp (by omega)
      have c3 : (nI (6 * i + j)).toNatClampNeg = 6 * i + j := nI_clamp (by omega)
      refine ⟨fun e => absurd ((le24 (c := 6) (by omega) (by omega)).mp e) (by omega), fun _ => ?_⟩
      simp only [n6, c1, c2, c3]
      refine ⟨fun e => ?_, fun e => ?_⟩
      · have g1 := hf _ i1
        have g2 := hf _ i2
        have g3 := hf _ i3
        rw [if_pos e] at g1 g2 g3
        rw [g1, g2, g3, b2_0, b2_0, b2_0]
        refine ⟨in_nI i1 (by omega), fun e1 => ?_, fun e1 => ⟨in_nI i2 (by omega), fun e2 => ?_, fun e2 => ⟨in_nI i3 (by omega), fun e3 => ?_, fun e3 => ?_⟩⟩⟩
        · exact fin false (by rw [e1]; rfl) _ _ _
        · exact fin false (by rw [e2]; simp) _ _ _
        · exact fin false (by rw [e3]; simp) _ _ _
        · exact fin true (by simp at e1 e2 e3; rw [e1, e2, e3]; rfl) _ _ _
      · have g1 := hf _ i1
        have g2 := hf _ i2
        have g3 := hf _ i3
        rw [if_neg e] at g1 g2 g3
        rw [g1, g2, g3, b2_0, b2_0, b2_0]
        refine ⟨in_nI i1 (by omega), fun e1 => ?_, fun e1 => ⟨in_nI i2 (by omega), fun e2 => ?_, fun e2 => ⟨in_nI i3 (by omega), fun e3 => ?_, fun e3 => ?_⟩⟩⟩
        · exact fin false (by rw [e1]; rfl) _ _ _
        · exact fin false (by rw [e2]; simp) _ _ _
        · exact fin false (by rw [e3]; simp) _ _ _
        · exact fin true (by simp at e1 e2 e3; rw [e1, e2, e3]; rfl) _ _ _
