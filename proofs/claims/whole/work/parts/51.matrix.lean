/-! The class's Matrix, as functions on sets of keys -/
def crn (f : Nat → Bool) (k : Nat) : Prop := ∃ r, r < 4 ∧ r ≠ k / 6 ∧ f (6 * r + k % 6) = true ∧ ∃ c, c < 6 ∧ c ≠ k % 6 ∧ f (6 * (k / 6) + c) = true ∧ f (6 * r + c) = true
noncomputable def crnB (f : Nat → Bool) (k : Nat) : Bool := @decide (crn f k) (Classical.propDecidable _)
theorem crnB_t {f : Nat → Bool} {k : Nat} : crnB f k = true ↔ crn f k := @decide_eq_true_iff (crn f k) (Classical.propDecidable _)
theorem crnB_f {f : Nat → Bool} {k : Nat} : crnB f k = false ↔ ¬ crn f k := @decide_eq_false_iff_not (crn f k) (Classical.propDecidable _)
theorem crn_congr {f g : Nat → Bool} {k : Nat} (hk : k < 24) (h : ∀ i, i < 24 → f i = g i) : crnB f k = crnB g k := by
  have key : ∀ f g : Nat → Bool, (∀ i, i < 24 → f i = g i) → crn f k → crn g k := by
    intro f g h ⟨r, h1, h2, h3, c, h4, h5, h6, h7⟩
    exact ⟨r, h1, h2, by rw [← h _ (by omega)]; exact h3, c, h4, h5, by rw [← h _ (by omega)]; exact h6, by rw [← h _ (by omega)]; exact h7⟩
  cases e : crnB f k
  · exact (crnB_f.mpr (fun hz => crnB_f.mp e (key g f (fun i hi => (h i hi).symm) hz))).symm
  · exact (crnB_t.mpr (key f g h (crnB_t.mp e))).symm
theorem rw_bt {x : Int32} {r c : Nat} (hr : r < 4) (hc : c < 32) : bt ((x >>> ((nI r * 6) &&& 31)) &&& 63) c = (decide (c < 6) && bt x (6 * r + c)) := by
  have e : nI r * 6 = nI (6 * r) := by rw [show (6 : Int32) = nI 6 from rfl, pk_mul, Nat.mul_comm]
  rw [b_and, e, b_sshr (6 * r) (by omega) x hc, b_63 c hc]
  by_cases h : c < 6
  · rw [if_pos (by omega), decide_eq_true h, Bool.and_true, Bool.true_and]
  · rw [decide_eq_false h, Bool.and_false, Bool.false_and]
theorem k_div {k : Nat} (hk : k < 24) : nI k / 6 = nI (k / 6) := pk_div (a := k) (d := 6) (by omega) (by omega) (by omega)
theorem k_rem {k : Nat} (hk : k < 24) : nI k - nI k / 6 * 6 = nI (k % 6) := pk_rem (a := k) (d := 6) (by omega) (by omega) (by omega)
set_option maxHeartbeats 1000000 in
theorem p_corner {x : Int32} {k : Nat} (hk : k < 24) {post : Int32 → Prop} (h1 : crn (bt x) k → post 1) (h0 : ¬ crn (bt x) k → post 0) : wp_Mx_isFourthCorner (nI k) x post := by
  unfold wp_Mx_isFourthCorner
  rw [k_rem hk, k_div hk]
  unfold wp_Mx_rowOf
  dsimp only
  have hd : k / 6 < 4 := by omega
  have hm : k % 6 < 6 := by omega
  generalize hz : ((x >>> ((nI (k / 6) * 6) &&& 31)) &&& 63) &&& (((1 : Int32) <<< (nI (k % 6) &&& 31)) ^^^ (-1)) = z
  have hzb : ∀ c, c < 32 → bt z c = ((decide (c < 6) && bt x (6 * (k / 6) + c)) && !decide (c = k % 6)) := by
    intro c hc
    rw [← hz, b_and, rw_bt hd hc, b_not _ hc, b_one (by omega) hc]
  refine pk_loop (fun n i (_ : Unit) => L_Mx_isFourthCorner_26 post n (nI k) x (nI (k / 6)) (nI (k % 6)) z (nI i)) (fun i _ => ∀ r, r < i → ¬ (r ≠ k / 6 ∧ bt x (6 * r + k % 6) = true ∧ ∃ c, c < 6 ∧ c ≠ k % 6 ∧ bt x (6 * (k / 6) + c) = true ∧ bt x (6 * r + c) = true)) 4 0 () (by omega) (fun r h => by omega) ?_ ?_
  · intro n _ hI
    refine ⟨fun _ => h0 (fun ⟨r, hr, h2, h3, h4⟩ => hI r hr ⟨h2, h3, h4⟩), fun h => absurd ((le24 (c := 4) (i := 4) (by omega) (by omega)).mpr (Nat.le_refl 4)) h⟩
  · intro n i _ hi hI ih
    have next : ¬ (i ≠ k / 6 ∧ bt x (6 * i + k % 6) = true ∧ ∃ c, c < 6 ∧ c ≠ k % 6 ∧ bt x (6 * (k / 6) + c) = true ∧ bt x (6 * i + c) = true) → L_Mx_isFourthCorner_26 post n (nI k) x (nI (k / 6)) (nI (k % 6)) z (nI i + 1) := fun hn => by
      rw [nI_1]; exact ih () (lt_s hI hn)
    refine ⟨fun h => absurd ((le24 (c := 4) (by omega) (by omega)).mp h) (by omega), fun _ => ?_⟩
    unfold wp_Mx_rowOf
    have hb : bt ((x >>> ((nI i * 6) &&& 31)) &&& 63) (k % 6) = bt x (6 * i + k % 6) := by rw [rw_bt hi (by omega), decide_eq_true hm, Bool.true_and]
    have hr : ∀ c, c < 32 → bt ((x >>> ((nI i * 6) &&& 31)) &&& 63) c = (decide (c < 6) && bt x (6 * i + c)) := fun c hc => rw_bt hi hc
    generalize ((x >>> ((nI i * 6) &&& 31)) &&& 63) = w at hb hr ⊢
    dsimp only
    rw [t_and1 w (k := k % 6) (by omega), hb, b2_0]
    refine ⟨fun h => next (fun hn => hn.1 ((nI_eq (by omega) (by omega)).mp h)), fun hne => ⟨fun h => next (fun hn => by rw [h] at hn; exact absurd hn.2.1 (by decide)), fun h2 => ⟨fun h => next ?_, fun h3 => h1 ?_⟩⟩⟩
    · rintro ⟨-, -, c, hc, hck, hx1, hx2⟩
      have := congrArg (fun q => bt q c) h
      simp only [b_and, hr c (by omega), hzb c (by omega), b_0] at this
      simp [hc, hck, hx1, hx2] at this
    · have : ∃ c, c < 32 ∧ bt (w &&& z) c = true := by
        apply Classical.byContradiction
        intro hno
        refine h3 (b_ext (fun c hc => ?_))
        rw [b_0]
        cases e : bt (w &&& z) c
        · rfl
        · exact absurd ⟨c, hc, e⟩ hno
      obtain ⟨c, hc, e⟩ := this
      rw [b_and, hr c hc, hzb c hc] at e
      simp only [Bool.and_eq_true, decide_eq_true_eq, Bool.not_eq_true', decide_eq_false_iff_not] at e
      exact ⟨i, hi, fun e2 => hne (by rw [e2]), by simpa using h2, c, e.1.1, e.2.2, e.2.1.2, e.1.2⟩
theorem p_cornerB {x : Int32} {k : Nat} (hk : k < 24) {post : Int32 → Prop} (h : post (b2 (crnB (bt x) k))) : wp_Mx_isFourthCorner (nI k) x post :=
  p_corner hk (fun hc => by rw [crnB_t.mpr hc] at h; exact h) (fun hc => by rw [crnB_f.mpr hc] at h; exact h)
set_option maxHeartbeats 1000000 in
theorem p_closed {S : GS} {post : Int32 → GS → Prop} (hw : lo24 (S.1 1 0)) (h : ∀ x S', lo24 x → (∀ i, i < 24 → bt x i = (bt (S.1 1 0) i ^^ bt (S.1 13 i) 0)) → eqx [13] S S' → (∀ i, i < 24 → S'.1 13 i = (S.1 13 i) >>> ((1 : Int32) &&& 31)) → post x S') : wp_Mx_closedContacts S post := by
  unfold wp_Mx_closedContacts
  refine pk_loop (fun n i (st : Int32 × GS) => L_Mx_closedContacts_7 post n st.1 (nI i) st.2) (fun i st => lo24 st.1 ∧ (∀ j, j < 24 → bt st.1 j = if j < i then (bt (S.1 1 0) j ^^ bt (S.1 13 j) 0) else bt (S.1 1 0) j) ∧ eqx [13] S st.2 ∧ ∀ j, j < 24 → st.2.1 13 j = if j < i then (S.1 13 j) >>> ((1 : Int32) &&& 31) else S.1 13 j) 24 0 (S.1 1 0, S) (by omega) ⟨hw, fun j _ => by simp, eqx.rf, fun j _ => by simp⟩ ?_ ?_
  · rintro n ⟨x, T⟩ ⟨h1, h2, h3, h4⟩
    exact ⟨fun _ => h x T h1 (fun i hi => by have := h2 i hi; rw [if_pos hi] at this; exact this) h3 (fun i hi => by have := h4 i hi; rw [if_pos hi] at this; exact this), fun h => absurd ((le24 (c := 24) (i := 24) (by omega) (by omega)).mpr (Nat.le_refl _)) h⟩
  · rintro n i ⟨x, T⟩ hi ⟨h1, h2, h3, h4⟩ ih
    have hc : (nI i).toNatClampNeg = i := nI_clamp (by omega)
    refine ⟨fun h => absurd ((le24 (c := 24) (by omega) (by omega)).mp h) (by omega), fun _ => ⟨in_nI hi (by omega), in_nI hi (by omega), in_nI hi (by omega), ?_⟩⟩
    rw [nI_1]
    simp only [hc]
    rw [t_and0]
    refine ih (_, _) ⟨lo_xor h1 (lo_b2 _ hi), fun j hj => ?_, h3.gI (by simp) _, fun j hj => ?_⟩
    · show bt (x ^^^ _) j = _
      rw [b_xor, b_b2shl _ (by omega) (by omega), h2 j hj]
      have e13 := h4 i hi
      rw [if_neg (by omega)] at e13
      by_cases e : j = i
      · subst e
        rw [if_neg (by omega), if_pos (by omega), e13]; simp
      · by_cases hlt : j < i
        · rw [if_pos hlt, if_pos (by omega)]; simp [e]
        · rw [if_neg hlt, if_neg (by omega)]; simp [e]
    · show (gI T 13 _).1 13 j = _
      rw [gI_s]
      by_cases e : j = i
      · subst e
        rw [upd_s, if_pos (by omega), h4 j hj, if_neg (by omega)]
      · rw [upd_n _ _ e, h4 j hj]
        by_cases hlt : j < i
        · rw [if_pos hlt, if_pos (by omega)]
        · rw [if_neg hlt, if_neg (by omega)]
/-- for how long a key was read otherwise, before the count is looked at -/
def ow (r s : Bool) (o : Int32) : Int32 := if r = s then 0 else o + 1
set_option maxHeartbeats 1000000 in
theorem p_watch {S : GS} {k : Nat} {post : GS → Prop} (hk : k < 24) (hs : lo24 (S.1 3 0)) (h : ∀ S', eqx [3, 14] S S' → lo24 (S'.1 3 0) → (∀ i, i < 24 → bt (S'.1 3 0) i = if i = k ∧ ow (bt (S.1 2 0) k) (bt (S.1 3 0) k) (S.1 14 k) = 5 then !bt (S.1 3 0) i else bt (S.1 3 0) i) → (∀ i, i < 24 → S'.1 14 i = if i = k then (if ow (bt (S.1 2 0) k) (bt (S.1 3 0) k) (S.1 14 k) = 5 then 0 else ow (bt (S.1 2 0) k) (bt (S.1 3 0) k) (S.1 14 k)) else S.1 14 i) → post S') : wp_Mx_watch S (nI k) post := by
  have hc : (nI k).toNatClampNeg = k := nI_clamp (by omega)
  have hin : vp_in (nI k) 24 := in_nI hk (by omega)
  have key : ∀ y : Int32, y = ow (bt (S.1 2 0) k) (bt (S.1 3 0) k) (S.1 14 k) → J_Mx_watch_35 post (nI k) ((1 : Int32) <<< (nI k &&& 31)) (nI k) y S := by
    intro y hy
    unfold J_Mx_watch_35
    rw [← hy] at h
    simp only [hc, upd_s]
    refine ⟨hin, hin, fun h5 => ⟨hin, h _ ?_ ?_ (fun i hi => ?_) (fun i hi => ?_)⟩, fun h5 => h _ ?_ ?_ (fun i hi => ?_) (fun i hi => ?_)⟩
    · exact ((eqx.rf.gI (by simp) _).gI (by simp) _).gI (by simp) _
    · rw [gI_n _ _ (by decide), gI_s]; exact lo_xor hs (lo_one hk)
    · rw [gI_n _ _ (by decide), gI_s, b_xor, b_one (by omega) (by omega)]
      by_cases e : i = k
      · simp [e, h5]
      · simp [e]
    · rw [gI_s]
      by_cases e : i = k
      · subst e; rw [upd_s, if_pos rfl, if_pos h5]
      · rw [upd_n _ _ e, upd_n _ _ e, if_neg e]
    · exact eqx.rf.gI (by simp) _
    · rw [gI_n _ _ (by decide)]; exact hs
    · rw [gI_n _ _ (by decide), if_neg (fun z => h5 z.2)]
    · rw [gI_s]
      by_cases e : i = k
      · subst e; rw [upd_s, if_pos rfl, if_neg h5]
      · rw [upd_n _ _ e, if_neg e]
  unfold wp_Mx_watch
  rw [t_mask _ (by omega), b_xor]
  refine ⟨fun e => key 0 ?_, fun e => ⟨hin, key _ ?_⟩⟩
  · rw [ow, if_pos]; revert e; cases bt (S.1 2 0) k <;> cases bt (S.1 3 0) k <;> simp
  · rw [hc, ow, if_neg]; revert e; cases bt (S.1 2 0) k <;> cases bt (S.1 3 0) k <;> simp
