set_option maxHeartbeats 2000000 in
theorem q_look {M : GS} {post : GS → Prop} {w s : Nat → Bool} (hw : ∀ i, i < 24 → M.1 7 i = b2 (w i)) (hs : ∀ i, i < 24 → M.1 11 i = b2 (s i)) {cl rd : Nat → Bool} (hcl : ∀ i, cl i = (w i ^^ bt (M.1 8 i) 0)) (hrd : ∀ i, rd i = (cl i || crnB cl i))
    (h : ∀ M', eqx [8, 9, 10, 11, 12] M M' → (∀ i, i < 24 → M'.1 8 i = (M.1 8 i) >>> ((1 : Int32) &&& 31)) → (∀ i, i < 24 → M'.1 10 i = b2 (rd i)) → (∀ i, i < 24 → M'.1 11 i = b2 (if ow (rd i) (s i) (M.1 12 i) = 5 then !s i else s i)) → (∀ i, i < 24 → M'.1 12 i = if ow (rd i) (s i) (M.1 12 i) = 5 then 0 else ow (rd i) (s i) (M.1 12 i)) → post M') : wp_Mo_look M post := by
  unfold wp_Mo_look
  have hlt : ∀ {i : Nat}, i < 24 → ¬ (24 : Int32) ≤ nI i := fun {i} hi e => absurd ((le24 (c := 24) (by omega) (by omega)).mp e) (by omega)
  have hge : (24 : Int32) ≤ nI 24 := (le24 (c := 24) (i := 24) (by omega) (by omega)).mpr (Nat.le_refl _)
  refine pk_loop (fun n i (T : GS) => L_Mo_look_2 post n (nI i) T) (fun i T => eqx [8, 9] M T ∧ ∀ j, j < 24 → T.1 8 j = (if j < i then (M.1 8 j) >>> ((1 : Int32) &&& 31) else M.1 8 j) ∧ (j < i → T.1 9 j = b2 (cl j))) 24 0 M (by omega) ⟨eqx.rf, fun j _ => ⟨by simp, fun e => absurd e (by omega)⟩⟩ ?_ ?_
  · rintro n T ⟨h1, h2⟩
    refine ⟨fun _ => ?_, fun e => absurd hge e⟩
    have e8 : ∀ j, j < 24 → T.1 8 j = (M.1 8 j) >>> ((1 : Int32) &&& 31) := fun j hj => by have := (h2 j hj).1; rw [if_pos hj] at this; exact this
    have e9 : ∀ j, j < 24 → T.1 9 j = b2 (cl j) := fun j hj => (h2 j hj).2 hj
    refine pk_loop (fun n i (U : GS) => L_Mo_look_67 post n (nI i) U) (fun i U => eqx [10, 12] T U ∧ ∀ j, j < 24 → (j < i → U.1 10 j = b2 (rd j)) ∧ U.1 12 j = (if j < i then ow (rd j) (s j) (M.1 12 j) else M.1 12 j)) 24 0 T (by omega) ⟨eqx.rf, fun j _ => ⟨fun e => absurd e (by omega), by rw [if_neg (by omega)]; exact congrFun (h1.1 12 (by simp)) j⟩⟩ ?_ ?_
    · rintro n U ⟨g1, g2⟩
      refine ⟨fun _ => ?_, fun e => absurd hge e⟩
      have f10 : ∀ j, j < 24 → U.1 10 j = b2 (rd j) := fun j hj => (g2 j hj).1 hj
      have f12 : ∀ j, j < 24 → U.1 12 j = ow (rd j) (s j) (M.1 12 j) := fun j hj => by have := (g2 j hj).2; rw [if_pos hj] at this; exact this
      have f11 : ∀ j, j < 24 → U.1 11 j = b2 (s j) := fun j hj => by rw [g1.1 11 (by simp), h1.1 11 (by simp)]; exact hs j hj
      refine pk_loop (fun n i (V : GS) => L_Mo_look_143 post n (nI i) V) (fun i V => eqx [11, 12] U V ∧ ∀ j, j < 24 → V.1 11 j = b2 (if j < i ∧ ow (rd j) (s j) (M.1 12 j) = 5 then !s j else s j) ∧ V.1 12 j = (if j < i ∧ ow (rd j) (s j) (M.1 12 j) = 5 then 0 else ow (rd j) (s j) (M.1 12 j))) 24 0 U (by omega) ⟨eqx.rf, fun j hj => ⟨by rw [if_neg (fun z => absurd z.1 (by omega))]; exact f11 j hj, by rw [if_neg (fun z => absurd z.1 (by omega))]; exact f12 j hj⟩⟩ ?_ ?_
      · rintro n V ⟨k1, k2⟩
        refine ⟨fun _ => ?_, fun e => absurd hge e⟩
        refine h V (((h1.up (by simp)).tr (g1.up (by simp))).tr (k1.up (by simp))) (fun i hi => ?_) (fun i hi => ?_) (fun i hi => ?_) (fun i hi => ?_)
        · rw [k1.1 8 (by simp), g1.1 8 (by simp)]; exact e8 i hi
        · rw [k1.1 10 (by simp)]; exact f10 i hi
        · rw [(k2 i hi).1]; simp [hi]
        · rw [(k2 i hi).2]; simp [hi]
      · rintro n i V hi ⟨k1, k2⟩ ih
        have hc : (nI i).toNatClampNeg = i := nI_clamp (by omega)
        have hin := in_nI (n := 24) hi (by omega)
        refine ⟨fun e => absurd e (hlt hi), fun _ => ⟨hin, ?_⟩⟩
        simp only [hc]
        rw [nI_1]
        have a12 : V.1 12 i = ow (rd i) (s i) (M.1 12 i) := by rw [(k2 i hi).2, if_neg (fun z => absurd z.1 (by omega))]
        have a10 : V.1 10 i = b2 (rd i) := by rw [k1.1 10 (by simp)]; exact f10 i hi
        refine ⟨fun e5 => ⟨hin, hin, hin, ih _ ⟨(k1.gI (by simp) _).gI (by simp) _, fun j hj => ?_⟩⟩, fun e5 => ih _ ⟨k1, fun j hj => ?_⟩⟩
        · rw [gI_n _ _ (by decide), gI_s, gI_s, a10, nar_b2]
          rw [a12] at e5
          have hrs : rd i = !s i := by
            unfold ow at e5
            by_cases hz : rd i = s i
            · rw [if_pos hz] at e5; exact absurd e5 (by decide)
            · revert hz; cases rd i <;> cases s i <;> simp
          by_cases e : j = i
          · subst e; rw [upd_s, upd_s, if_pos ⟨by omega, e5⟩, if_pos ⟨by omega, e5⟩]; exact ⟨by rw [hrs], rfl⟩
          · rw [upd_n _ _ e, upd_n _ _ e, (k2 j hj).1, (k2 j hj).2]
            by_cases hl : j < i
            · simp [hl, show j < i + 1 by omega]
            · simp [hl, show ¬ j < i + 1 by omega]
        · rw [a12] at e5
          rw [(k2 j hj).1, (k2 j hj).2]
          by_cases e : j = i
          · subst e; simp [e5]
          · by_cases hl : j < i
            · simp [hl, show j < i + 1 by omega]
            · simp [hl, show ¬ j < i + 1 by omega]
    · rintro n i U hi ⟨g1, g2⟩ ih
      have hc : (nI i).toNatClampNeg = i := nI_clamp (by omega)
      have hin := in_nI (n := 24) hi (by omega)
      have a9 : ∀ j, j < 24 → U.1 9 j = b2 (cl j) := fun j hj => by rw [g1.1 9 (by simp)]; exact e9 j hj
      have a11 : U.1 11 i = b2 (s i) := by rw [g1.1 11 (by simp), h1.1 11 (by simp)]; exact hs i hi
      have a12 : U.1 12 i = M.1 12 i := by rw [(g2 i hi).2, if_neg (by omega)]
      have key : ∀ b : Bool, b = rd i → J_Mo_look_101 post (fun z0 z1 => L_Mo_look_67 post n z0 z1) (nI i) (nI i) (b2 b) U := by
        intro b hb
        subst hb
        unfold J_Mo_look_101
        simp only [hc, upd_s, nar_b2, a11, a12]
        refine ⟨hin, hin, hin, fun e => ⟨hin, ?_⟩, fun e => ⟨hin, hin, ?_⟩⟩
        · rw [nI_1]
          refine ih _ ⟨(g1.gI (by simp) _).gI (by simp) _, fun j hj => ?_⟩
          rw [gI_n _ _ (by decide), gI_s, gI_s]
          have es : rd i = s i := by revert e; cases rd i <;> cases s i <;> decide
          by_cases ej : j = i
          · subst ej; rw [upd_s, upd_s, if_pos (by omega)]
            exact ⟨fun _ => rfl, by unfold ow; rw [if_pos es]⟩
          · rw [upd_n _ _ ej, upd_n _ _ ej]
            refine ⟨fun hl => (g2 j hj).1 (by omega), ?_⟩
            rw [(g2 j hj).2]
            by_cases hl : j < i
            · rw [if_pos hl, if_pos (by omega)]
            · rw [if_neg hl, if_neg (by omega)]
        · rw [nI_1]
          refine ih _ ⟨(g1.gI (by simp) _).gI (by simp) _, fun j hj => ?_⟩
          rw [gI_n _ _ (by decide), gI_s, gI_s]
          have es : ¬ rd i = s i := fun z => e (by rw [z])
          by_cases ej : j = i
          · subst ej; rw [upd_s, upd_s, if_pos (by omega)]
            exact ⟨fun _ => rfl, by unfold ow; rw [if_neg es]⟩
          · rw [upd_n _ _ ej, upd_n _ _ ej]
            refine ⟨fun hl => (g2 j hj).1 (by omega), ?_⟩
            rw [(g2 j hj).2]
            by_cases hl : j < i
            · rw [if_pos hl, if_pos (by omega)]
            · rw [if_neg hl, if_neg (by omega)]
      refine ⟨fun e => absurd e (hlt hi), fun _ => ⟨hin, ?_⟩⟩
      unfold J_Mo_look_96
      simp only [hc, a9 i hi, b2_0]
      refine ⟨fun e0 => q_corners hi (f := cl) (fun j hj => by rw [if_pos rfl]; exact a9 j hj) ?_, fun e1 => key true ?_⟩
      · rw [b2_0]
        refine ⟨fun e => key false ?_, fun e => key true ?_⟩
        · rw [hrd, e0, e]; rfl
        · rw [hrd]; simp at e; rw [e]; simp
      · rw [hrd]; simp at e1; rw [e1]; rfl
  · rintro n i T hi ⟨h1, h2⟩ ih
    have hc : (nI i).toNatClampNeg = i := nI_clamp (by omega)
    have hin := in_nI (n := 24) hi (by omega)
    have a7 : T.1 7 i = b2 (w i) := by rw [h1.1 7 (by simp)]; exact hw i hi
    have a8 : T.1 8 i = M.1 8 i := by rw [(h2 i hi).1, if_neg (by omega)]
    have key : ∀ b : Bool, b = cl i → J_Mo_look_44 post (fun z0 z1 => L_Mo_look_2 post n z0 z1) (nI i) (nI i) (b2 b) T := by
      intro b hb
      subst hb
      unfold J_Mo_look_44
      simp only [hc, nar_b2]
      refine ⟨hin, hin, hin, ?_⟩
      rw [nI_1]
      refine ih _ ⟨(h1.gI (by simp) _).gI (by simp) _, fun j hj => ?_⟩
      rw [gI_s, gI_n _ _ (show (9 : Nat) ≠ 8 by decide), gI_s]
      by_cases ej : j = i
      · subst ej; rw [upd_s, upd_s, if_pos (by omega), a8]
        exact ⟨rfl, fun _ => rfl⟩
      · rw [upd_n _ _ ej, upd_n _ _ ej]
        refine ⟨?_, fun hl => (h2 j hj).2 (by omega)⟩
        rw [(h2 j hj).1]
        by_cases hl : j < i
        · rw [if_pos hl, if_pos (by omega)]
        · rw [if_neg hl, if_neg (by omega)]
    refine ⟨fun e => absurd e (hlt hi), fun _ => ⟨hin, hin, ?_⟩⟩
    unfold J_Mo_look_36
    simp only [hc, a7, a8]
    rw [t_and0, b2_1]
    refine ⟨fun e => ⟨fun z => key false ?_, fun z => key true ?_⟩, fun e => ⟨fun z => key false ?_, fun z => key true ?_⟩⟩
    · rw [hcl, e]; have := (b2_1 _).mp z; rw [this]; rfl
    · rw [hcl, e]; rw [b2_1] at z; revert z; cases w i <;> simp
    · rw [hcl]; have := (b2_0 _).mp z; rw [this]; revert e; cases bt (M.1 8 i) 0 <;> simp
    · rw [hcl]; rw [b2_0] at z; revert e z; cases bt (M.1 8 i) 0 <;> cases w i <;> simp
