/-! The two matrices: a set of keys as an int and as an array of booleans -/
def isS (x : Int32) (f : Nat → Int32) : Prop := lo24 x ∧ ∀ i, i < 24 → f i = b2 (bt x i)
theorem isS.up {x : Int32} {f g : Nat → Int32} (h : isS x f) (hg : ∀ i, i < 24 → g i = f i) : isS x g := ⟨h.1, fun i hi => (hg i hi).trans (h.2 i hi)⟩
theorem isS_or {x : Int32} {f : Nat → Int32} {k : Nat} (hk : k < 24) (h : isS x f) : isS (x ||| ((1 : Int32) <<< (nI k &&& 31))) (upd f k 1) := ⟨lo_or h.1 (lo_one hk), fun i hi => by
  rw [b_or, b_one (by omega) (by omega)]
  by_cases e : i = k
  · subst e; rw [upd_s]; simp [b2]
  · rw [upd_n _ _ e, h.2 i hi]; simp [e]⟩
theorem isS_and {x : Int32} {f : Nat → Int32} {k : Nat} (hk : k < 24) (h : isS x f) : isS (x &&& (((1 : Int32) <<< (nI k &&& 31)) ^^^ (-1))) (upd f k 0) := ⟨lo_and _ h.1, fun i hi => by
  rw [b_and, b_not _ (by omega), b_one (by omega) (by omega)]
  by_cases e : i = k
  · subst e; rw [upd_s]; simp [b2]
  · rw [upd_n _ _ e, h.2 i hi]; simp [e]⟩
def Rmx (S M : GS) : Prop := isS (S.1 1 0) (M.1 7) ∧ isS (S.1 2 0) (M.1 10) ∧ isS (S.1 3 0) (M.1 11) ∧ isS (S.1 4 0) (M.1 13) ∧ (∀ i, i < 24 → S.1 13 i = M.1 8 i) ∧ ∀ i, i < 24 → S.1 14 i = M.1 12 i
theorem Rmx.up {S S' M M' : GS} (h : Rmx S M) (hS : ∀ c ∈ [1, 2, 3, 4, 13, 14], S'.1 c = S.1 c) (hM : ∀ c ∈ [7, 8, 10, 11, 12, 13], M'.1 c = M.1 c) : Rmx S' M' := by
  obtain ⟨h1, h2, h3, h4, h5, h6⟩ := h
  unfold Rmx
  rw [hS 1 (by simp), hS 2 (by simp), hS 3 (by simp), hS 4 (by simp), hS 13 (by simp), hS 14 (by simp), hM 7 (by simp), hM 8 (by simp), hM 10 (by simp), hM 11 (by simp), hM 12 (by simp), hM 13 (by simp)]
  exact ⟨h1, h2, h3, h4, h5, h6⟩
theorem s_look {S M : GS} (h : Rmx S M) : wp_Mo_look M (fun M' => ∀ post : GS → Prop, (∀ S', eqx [2, 3, 13, 14] S S' → eqx [8, 9, 10, 11, 12] M M' → Rmx S' M' → post S') → wp_Mx_look S post) := by
  obtain ⟨h1, h2, h3, h4, h5, h6⟩ := h
  refine q_look (w := bt (S.1 1 0)) (s := bt (S.1 3 0)) h1.2 h3.2 (cl := fun i => (bt (S.1 1 0) i ^^ bt (M.1 8 i) 0)) (fun _ => rfl) (fun _ => rfl) (fun M' e8 m8 m10 m11 m12 post hK => ?_)
  refine p_look h1.1 h3.1 (fun x S' hx hxb e2 s13 l2 s2 l3 s3 => ?_)
  have hcl : ∀ i, i < 24 → bt x i = (bt (S.1 1 0) i ^^ bt (M.1 8 i) 0) := fun i hi => by rw [hxb i hi, h5 i hi]
  have hrd : ∀ i, i < 24 → bt (S'.1 2 0) i = ((bt (S.1 1 0) i ^^ bt (M.1 8 i) 0) || crnB (fun i => (bt (S.1 1 0) i ^^ bt (M.1 8 i) 0)) i) := fun i hi => by
    rw [s2 i hi, hcl i hi, crn_congr hi hcl]
  refine hK S' e2 e8 ⟨?_, ⟨l2, fun i hi => ?_⟩, ⟨l3, fun i hi => ?_⟩, ?_, fun i hi => ?_, fun i hi => ?_⟩
  · rw [e2.1 1 (by simp), e8.1 7 (by simp)]; exact h1
  · rw [m10 i hi, hrd i hi]
  · rw [m11 i hi, (s3 i hi).1, hrd i hi, h6 i hi]
  · rw [e2.1 4 (by simp), e8.1 13 (by simp)]; exact h4
  · rw [s13 i hi, m8 i hi, h5 i hi]
  · rw [m12 i hi, (s3 i hi).2, hrd i hi, h6 i hi]
