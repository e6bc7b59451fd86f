theorem RH.code {S M S' : GS} {C k : Nat} {dn : Nat → Bool} {v : Int32} (h : RH S M C dn) (hk : k < 24) (hv : cod v) (hf : M.1 25 k = 0) (s8 : S'.1 8 = S.1 8) (s9 : S'.1 9 = S.1 9) (s24 : S'.1 24 = S.1 24) (s25 : ∀ j, j < 24 → S'.1 25 j = if bt (bit k) j then v else S.1 25 j) (s26 : ∀ j, j < 24 → S'.1 26 j = if bt (bit k) j then bit k else S.1 26 j) : RH S' (gI (gI M 25 (upd (M.1 25) k 1)) 26 (upd (M.1 26) k v)) C (fun j => if k = j then true else dn j) := by
  obtain ⟨h1, ⟨⟨c, hc1, hc2, hc3⟩, h2⟩, h3⟩ := h
  have g25 : (gI (gI M 25 (upd (M.1 25) k 1)) 26 (upd (M.1 26) k v)).1 25 = upd (M.1 25) k 1 := by rw [gI_n _ _ (by decide), gI_s]
  have g26 : (gI (gI M 25 (upd (M.1 25) k 1)) 26 (upd (M.1 26) k v)).1 26 = upd (M.1 26) k v := gI_s _ _ _
  have g : ∀ c, c ≠ 25 → c ≠ 26 → (gI (gI M 25 (upd (M.1 25) k 1)) 26 (upd (M.1 26) k v)).1 c = M.1 c := fun c u1 u2 => by rw [gI_n _ _ u2, gI_n _ _ u1]
  unfold RH Rla Rho
  rw [g25, g26, g 23 (by decide) (by decide), g 24 (by decide) (by decide), g 4 (by decide) (by decide), g 27 (by decide) (by decide), s8, s9, s24]
  refine ⟨fun l hl => ?_, ⟨⟨c, hc1, hc2, fun j hj w => ?_⟩, fun j hj => ?_⟩, fun j hj w => ?_⟩
  · obtain ⟨a1, a2, a3, a4⟩ := h1 l hl
    refine ⟨a1, a2, a3, fun j hj => ?_⟩
    by_cases e : j = k
    · rw [e, upd_s, upd_s, a4 k hk, hf]
      exact ⟨fun w => absurd w.1 (by decide), fun w => absurd w.1 (by decide)⟩
    · rw [upd_n _ _ e, upd_n _ _ e]; exact a4 j hj
  · by_cases e : j = k
    · rw [e, upd_s] at w; exact absurd w (by decide)
    · rw [upd_n _ _ e] at w; exact hc3 j hj w
  · rw [s25 j hj, s26 j hj, bt_bit hk hj]
    by_cases e : j = k
    · rw [e, upd_s, upd_s, decide_eq_true rfl, if_pos rfl, if_pos rfl]
      exact ⟨Or.inr (Or.inl rfl), fun _ => ⟨hv, rfl⟩, fun w => w.elim (fun y => absurd y (by decide)) (fun y => absurd y (by decide)), fun _ => rfl, fun w => absurd w (by decide)⟩
    · obtain ⟨b1, b2', b3, b4, b5⟩ := h2 j hj
      rw [upd_n _ _ e, upd_n _ _ e, decide_eq_false e, if_neg (by decide), if_neg (by decide)]
      refine ⟨b1, b2', b3, b4, fun w => ⟨(b5 w).1, fun i hi => ?_⟩⟩
      rw [(b5 w).2 i hi]
      by_cases ei : i = k
      · rw [ei, upd_s, hf]; exact ⟨fun y => absurd y.1 (by decide), fun y => absurd y.1 (by decide)⟩
      · rw [upd_n _ _ ei]
  · by_cases e : j = k
    · exact if_pos e.symm
    · rw [upd_n _ _ e] at w
      show (if k = j then true else dn j) = true
      rw [if_neg (fun y : k = j => e y.symm)]; exact h3 j hj w
theorem RH.held {S M : GS} {C k l : Nat} {dn : Nat → Bool} (h : RH S M C dn) (hk : k < 24) (hl : l < 4) (hf : M.1 25 k = 0) : RH (gI S 24 (upd (S.1 24) l (S.1 24 l ||| ((1 : Int32) <<< (nI k &&& 31))))) (gI (gI M 25 (upd (M.1 25) k 2)) 26 (upd (M.1 26) k (nI l))) C (fun j => if k = j then true else dn j) := by
  obtain ⟨h1, ⟨⟨c, hc1, hc2, hc3⟩, h2⟩, h3⟩ := h
  have g25 : (gI (gI M 25 (upd (M.1 25) k 2)) 26 (upd (M.1 26) k (nI l))).1 25 = upd (M.1 25) k 2 := by rw [gI_n _ _ (by decide), gI_s]
  have g26 : (gI (gI M 25 (upd (M.1 25) k 2)) 26 (upd (M.1 26) k (nI l))).1 26 = upd (M.1 26) k (nI l) := gI_s _ _ _
  have g : ∀ c, c ≠ 25 → c ≠ 26 → (gI (gI M 25 (upd (M.1 25) k 2)) 26 (upd (M.1 26) k (nI l))).1 c = M.1 c := fun c u1 u2 => by rw [gI_n _ _ u2, gI_n _ _ u1]
  unfold RH Rla Rho
  rw [g25, g26, g 23 (by decide) (by decide), g 24 (by decide) (by decide), g 4 (by decide) (by decide), g 27 (by decide) (by decide), gI_n _ _ (show 8 ≠ 24 by decide), gI_n _ _ (show 9 ≠ 24 by decide), gI_n _ _ (show 25 ≠ 24 by decide), gI_n _ _ (show 26 ≠ 24 by decide), gI_s]
  refine ⟨fun i hi => ?_, ⟨⟨c, hc1, hc2, fun j hj w => ?_⟩, fun j hj => ?_⟩, fun j hj w => ?_⟩
  · obtain ⟨a1, a2, a3, a4⟩ := h1 i hi
    by_cases ei : i = l
    · subst ei
      rw [upd_s]
      refine ⟨a1, a2, lo_or a3 (lo_one hk), fun j hj => ?_⟩
      rw [b_or, b_one (by omega) (by omega)]
      by_cases e : j = k
      · rw [e, upd_s, upd_s]; simp
      · rw [upd_n _ _ e, upd_n _ _ e, ← a4 j hj]; simp [e]
    · rw [upd_n _ _ ei]
      refine ⟨a1, a2, a3, fun j hj => ?_⟩
      by_cases e : j = k
      · rw [e, upd_s, upd_s, a4 k hk, hf]
        exact ⟨fun w => absurd w.1 (by decide), fun w => absurd w.2 (nI_ne (by omega) (by omega) (fun y => ei y.symm))⟩
      · rw [upd_n _ _ e, upd_n _ _ e]; exact a4 j hj
  · by_cases e : j = k
    · rw [e, upd_s] at w; exact absurd w (by decide)
    · rw [upd_n _ _ e] at w; exact hc3 j hj w
  · by_cases e : j = k
    · rw [e, upd_s, upd_s, (h2 k hk).2.2.1 (Or.inl hf)]
      exact ⟨Or.inr (Or.inr (Or.inl rfl)), fun w => w.elim (fun y => absurd y (by decide)) (fun y => absurd y (by decide)), fun _ => rfl, fun w => absurd w (by decide), fun w => absurd w (by decide)⟩
    · obtain ⟨b1, b2', b3, b4, b5⟩ := h2 j hj
      rw [upd_n _ _ e, upd_n _ _ e]
      refine ⟨b1, b2', b3, b4, fun w => ⟨(b5 w).1, fun i hi => ?_⟩⟩
      rw [(b5 w).2 i hi]
      by_cases ei : i = k
      · rw [ei, upd_s, hf]; exact ⟨fun y => absurd y.1 (by decide), fun y => absurd y.1 (by decide)⟩
      · rw [upd_n _ _ ei]
  · by_cases e : j = k
    · exact if_pos e.symm
    · rw [upd_n _ _ e] at w
      show (if k = j then true else dn j) = true
      rw [if_neg (fun y : k = j => e y.symm)]; exact h3 j hj w
