/-! Matrix.look and Matrix.believe of the class -/
set_option maxHeartbeats 1000000 in
theorem p_look54 {T : GS} {x1 : Int32} {post : GS → Prop} (hs : lo24 (T.1 3 0)) (h : ∀ S', eqx [3, 14] T S' → lo24 (S'.1 3 0) → (∀ i, i < 24 → bt (S'.1 3 0) i = (if ow (bt (T.1 2 0) i) (bt (T.1 3 0) i) (T.1 14 i) = 5 then !bt (T.1 3 0) i else bt (T.1 3 0) i) ∧ S'.1 14 i = (if ow (bt (T.1 2 0) i) (bt (T.1 3 0) i) (T.1 14 i) = 5 then 0 else ow (bt (T.1 2 0) i) (bt (T.1 3 0) i) (T.1 14 i))) → post S') : ∃ n, L_Mx_look_54 post n x1 0 T := by
  refine pk_loop (fun n i (U : GS) => L_Mx_look_54 post n x1 (nI i) U) (fun i U => eqx [3, 14] T U ∧ lo24 (U.1 3 0) ∧ ∀ j, j < 24 → bt (U.1 3 0) j = (if j < i ∧ ow (bt (T.1 2 0) j) (bt (T.1 3 0) j) (T.1 14 j) = 5 then !bt (T.1 3 0) j else bt (T.1 3 0) j) ∧ U.1 14 j = (if j < i then (if ow (bt (T.1 2 0) j) (bt (T.1 3 0) j) (T.1 14 j) = 5 then 0 else ow (bt (T.1 2 0) j) (bt (T.1 3 0) j) (T.1 14 j)) else T.1 14 j)) 24 0 T (by omega) ⟨eqx.rf, hs, fun j _ => by simp⟩ ?_ ?_
  · rintro n U ⟨h1, h2, h3⟩
    refine ⟨fun _ => h U h1 h2 (fun i hi => ?_), fun h => absurd ((le24 (c := 24) (i := 24) (by omega) (by omega)).mpr (Nat.le_refl _)) h⟩
    obtain ⟨a, b⟩ := h3 i hi
    rw [if_pos hi] at b
    exact ⟨by rw [a]; simp [hi], b⟩
  · rintro n i U hi ⟨h1, h2, h3⟩ ih
    refine ⟨fun h => absurd ((le24 (c := 24) (by omega) (by omega)).mp h) (by omega), fun _ => ?_⟩
    have e2 : U.1 2 = T.1 2 := h1.1 2 (by simp)
    obtain ⟨a, b⟩ := h3 i hi
    rw [if_neg (by omega)] at b
    rw [if_neg (by omega)] at a
    refine p_watch hi h2 (fun V hV hl hb ho => ?_)
    rw [e2, a, b] at hb ho
    show L_Mx_look_54 post n x1 (nI i + 1) V
    rw [nI_1]
    refine ih V ⟨h1.tr hV, hl, fun j hj => ?_⟩
    obtain ⟨c, d⟩ := h3 j hj
    have hbj := hb j hj
    have hoj := ho j hj
    by_cases e : j = i
    · subst e
      rw [if_pos rfl] at hoj
      refine ⟨?_, by rw [if_pos (show j < j + 1 by omega)]; exact hoj⟩
      rw [hbj, a]
      by_cases h5 : ow (bt (T.1 2 0) j) (bt (T.1 3 0) j) (T.1 14 j) = 5
      · simp [h5]
      · simp [h5]
    · rw [if_neg e] at hoj
      rw [if_neg (fun z => e z.1)] at hbj
      rw [hbj, hoj, c, d]
      by_cases hlt : j < i
      · rw [if_pos hlt, if_pos (show j < i + 1 by omega)]
        simp [hlt, show j < i + 1 by omega]
      · rw [if_neg hlt, if_neg (show ¬ j < i + 1 by omega)]
        simp [hlt, show ¬ j < i + 1 by omega]
set_option maxHeartbeats 1000000 in
theorem p_look {S : GS} {post : GS → Prop} (hw : lo24 (S.1 1 0)) (hs : lo24 (S.1 3 0)) (h : ∀ (x : Int32) (S' : GS), lo24 x → (∀ i, i < 24 → bt x i = (bt (S.1 1 0) i ^^ bt (S.1 13 i) 0)) → eqx [2, 3, 13, 14] S S' → (∀ i, i < 24 → S'.1 13 i = (S.1 13 i) >>> ((1 : Int32) &&& 31)) → lo24 (S'.1 2 0) → (∀ i, i < 24 → bt (S'.1 2 0) i = (bt x i || crnB (bt x) i)) → lo24 (S'.1 3 0) → (∀ i, i < 24 → bt (S'.1 3 0) i = (if ow (bt (S'.1 2 0) i) (bt (S.1 3 0) i) (S.1 14 i) = 5 then !bt (S.1 3 0) i else bt (S.1 3 0) i) ∧ S'.1 14 i = (if ow (bt (S'.1 2 0) i) (bt (S.1 3 0) i) (S.1 14 i) = 5 then 0 else ow (bt (S'.1 2 0) i) (bt (S.1 3 0) i) (S.1 14 i))) → post S') : wp_Mx_look S post := by
  unfold wp_Mx_look
  refine p_closed hw (fun x S1 hx hxb hS1 h13 => ?_)
  refine pk_loop (fun n i (T : GS) => L_Mx_look_12 post n x (nI i) T) (fun i T => eqx [2, 13] S T ∧ (∀ j, j < 24 → T.1 13 j = (S.1 13 j) >>> ((1 : Int32) &&& 31)) ∧ lo24 (T.1 2 0) ∧ ∀ j, j < 24 → bt (T.1 2 0) j = if j < i then (bt x j || crnB (bt x) j) else bt x j) 24 0 (gI S1 2 (fun _ => x)) (by omega) ⟨(hS1.up (by simp)).gI (by simp) _, fun j hj => by rw [gI_n _ _ (by decide)]; exact h13 j hj, by rw [gI_s]; exact hx, fun j _ => by rw [gI_s]; simp⟩ ?_ ?_
  · rintro n T ⟨h1, h2, h3, h4⟩
    refine ⟨fun _ => ?_, fun h => absurd ((le24 (c := 24) (i := 24) (by omega) (by omega)).mpr (Nat.le_refl _)) h⟩
    have e3 : T.1 3 = S.1 3 := h1.1 3 (by simp)
    have e14 : T.1 14 = S.1 14 := h1.1 14 (by simp)
    refine p_look54 (by rw [e3]; exact hs) (fun S' hS' hl hb => ?_)
    have f2 : S'.1 2 = T.1 2 := hS'.1 2 (by simp)
    have f13 : S'.1 13 = T.1 13 := hS'.1 13 (by simp)
    rw [e3, e14] at hb
    refine h x S' hx hxb ((h1.up (by simp)).tr (hS'.up (by simp))) (fun i hi => by rw [f13]; exact h2 i hi) (by rw [f2]; exact h3) (fun i hi => ?_) hl (fun i hi => ?_)
    · rw [f2, h4 i hi, if_pos hi]
    · rw [f2]; exact hb i hi
  · rintro n i T hi ⟨h1, h2, h3, h4⟩ ih
    refine ⟨fun h => absurd ((le24 (c := 24) (by omega) (by omega)).mp h) (by omega), fun _ => ?_⟩
    rw [t_and1 x (by omega), b2_0, nI_1]
    have keep : (bt x i || crnB (bt x) i) = bt x i → L_Mx_look_12 post n x (nI (i + 1)) T := fun e => ih T ⟨h1, h2, h3, fun j hj => by
      rw [h4 j hj]
      by_cases e1 : j = i
      · subst e1; rw [if_neg (by omega), if_pos (by omega), e]
      · by_cases hlt : j < i
        · rw [if_pos hlt, if_pos (by omega)]
        · rw [if_neg hlt, if_neg (by omega)]⟩
    refine ⟨fun hx0 => p_cornerB hi ?_, fun hx1 => keep ?_⟩
    · refine ⟨fun hc => keep ?_, fun hc => ih _ ⟨h1.gI (by simp) _, fun j hj => by rw [gI_n _ _ (by decide)]; exact h2 j hj, by rw [gI_s]; exact lo_or h3 (lo_one hi), fun j hj => ?_⟩⟩
      · rw [(b2_0 _).mp hc]; simp
      · rw [gI_s, b_or, b_one (by omega) (by omega), h4 j hj]
        have hc1 : crnB (bt x) i = true := by
          cases e : crnB (bt x) i
          · rw [e] at hc; exact absurd rfl hc
          · rfl
        by_cases e1 : j = i
        · subst e1; rw [if_pos (show j < j + 1 by omega), hc1]; simp
        · by_cases hlt : j < i
          · rw [if_pos hlt, if_pos (show j < i + 1 by omega)]; simp [e1]
          · rw [if_neg hlt, if_neg (show ¬ j < i + 1 by omega)]; simp [e1]
    · have : bt x i = true := by simpa using hx1
      rw [this]; rfl
set_option maxHeartbeats 1000000 in
theorem p_believe {S : GS} {k : Nat} {post : Int32 → GS → Prop} (hk : k < 24)
    (hgo : bt (S.1 4 0) k = true → bt (S.1 3 0) k = false → post (nI (2 * k)) (gI S 4 (fun _ => (S.1 4 0) &&& (((1 : Int32) <<< (nI k &&& 31)) ^^^ (-1)))))
    (hco : bt (S.1 4 0) k = false → bt (S.1 3 0) k = true → crnB (bt (S.1 3 0)) k = false → post (nI (2 * k + 1)) (gI S 4 (fun _ => (S.1 4 0) ||| ((1 : Int32) <<< (nI k &&& 31)))))
    (hno : bt (S.1 4 0) k = bt (S.1 3 0) k ∨ (bt (S.1 4 0) k = false ∧ crnB (bt (S.1 3 0)) k = true) → post (-1) S) : wp_Mx_believe S (nI k) post := by
  unfold wp_Mx_believe
  have e2 : (2 : Int32) * nI k = nI (2 * k) := pk_mul 2 k
  rw [t_mask _ (by omega), t_mask _ (by omega), b_and, b_and, b_not _ (by omega), b_not _ (by omega), e2, nI_1]
  refine ⟨fun h1 => ⟨fun h2 => hno (Or.inl ?_), fun h2 => p_cornerB hk ⟨fun h3 => hco ?_ ?_ ((b2_0 _).mp h3), fun h3 => hno (Or.inr ⟨?_, ?_⟩)⟩⟩, fun h1 => hgo ?_ ?_⟩
  · revert h1 h2; cases bt (S.1 4 0) k <;> cases bt (S.1 3 0) k <;> simp
  · revert h2; cases bt (S.1 4 0) k <;> cases bt (S.1 3 0) k <;> simp
  · revert h2; cases bt (S.1 4 0) k <;> cases bt (S.1 3 0) k <;> simp
  · revert h2; cases bt (S.1 4 0) k <;> cases bt (S.1 3 0) k <;> simp
  · cases e : crnB (bt (S.1 3 0)) k
    · rw [e] at h3; exact absurd rfl h3
    · rfl
  · revert h1; cases bt (S.1 4 0) k <;> cases bt (S.1 3 0) k <;> simp
  · revert h1; cases bt (S.1 4 0) k <;> cases bt (S.1 3 0) k <;> simp
