theorem rel_0 : Rel z0 z0 0 := by
  have hs : isS 0 (fun _ => 0) := ⟨lo_0, fun i _ => by rw [b_0]; rfl⟩
  have hg : good (fun _ => 0) := ⟨by decide, fun _ => by show 0 < 128; omega⟩
  refine ⟨0, fun _ => false, fun _ => 0, by omega, ⟨⟨rfl, rfl⟩, ⟨hs, hs, hs, hs, fun _ _ => rfl, fun _ _ => rfl⟩, ⟨0, 0, by omega, by omega, rfl, rfl, rfl, fun i hi => absurd hi (by omega)⟩, ⟨fun _ _ => ⟨rfl, rfl, rfl, Or.inl rfl⟩, fun _ _ => ⟨rfl, Or.inl rfl⟩, fun _ _ => ⟨rfl, rfl, lo_0, fun z => absurd rfl z⟩⟩⟩, ⟨⟨rfl, rfl, fun i hi => absurd hi (by omega)⟩, fun i hi => absurd hi (by omega), fun _ _ => rfl⟩, ⟨fun l _ => ⟨?_, ?_, lo_0, fun j _ => ?_⟩, ⟨⟨0, by omega, rfl, fun _ _ z => absurd z (show ¬ (0 : Int32) = 3 by decide)⟩, fun j _ => ⟨Or.inl rfl, fun z => z.elim (fun y => absurd y (show ¬ (0 : Int32) = 1 by decide)) (fun y => absurd y (show ¬ (0 : Int32) = 3 by decide)), fun _ => rfl, fun z => absurd z (show ¬ (0 : Int32) = 1 by decide), fun z => absurd z (show ¬ (0 : Int32) = 3 by decide)⟩⟩, fun j _ z => absurd rfl z⟩, ⟨0, 0, fun _ _ => 0, fun _ => 0, fun _ => 0, false, by omega, by omega, rfl, rfl, rfl, rfl, rfl, fun j hj => absurd hj (by omega), fun j hj => absurd hj (by omega), fun j hj => absurd hj (by omega), hg, rfl, fun _ _ => rfl, hg, rfl, fun _ _ => rfl, fun _ _ => rfl⟩⟩
  · show (0 : Int32) = b2 (bt 0 l)
    rw [b_0]; rfl
  · show (0 : Int32) = b2 (bt 0 l)
    rw [b_0]; rfl
  · show bt 0 j = true ↔ (0 : Int32) = 2 ∧ _
    rw [b_0]
    exact ⟨fun z => absurd z (by decide), fun z => absurd z.1 (by decide)⟩
set_option maxHeartbeats 1000000 in
theorem law_all {L : Nat} {xs : Nat → Int32} (hL : L ≤ 3072) : ∀ d k S M o, k + d = 512 → Rel S M (100 * k) → LW xs L (d + 1) k S M o := by
  intro d
  induction d with
  | zero => intro k S M o hk h hlen; exact absurd hlen (by omega)
  | succ d ih =>
    intro k S M o hk h hlen
    have hn : 100 * k < 2 ^ 19 := by omega
    have hK : ∀ S' M' o', Rel S' M' (100 * k + 100) → (fun S M o => LW xs L (d + 1) (k + 1) S M o) S' M' o' := fun S' M' o' hr => ih (k + 1) S' M' o' (by omega) (by rw [Nat.mul_succ]; exact hr)
    unfold LSw
    exact ⟨fun _ => rc_0 h hK, fun _ => ⟨fun _ => rc_1 h hK, fun _ => ⟨fun _ => rc_2 h hn hK, fun _ => ⟨fun _ => rc_3 h hn hK, fun _ => ⟨fun _ => rc_4 h hK, fun _ => ⟨fun _ => rc_5 h hK, fun _ => ⟨fun _ => rc_6 h hK, fun _ => ⟨fun _ => rc_7 h hK, fun _ => ⟨fun _ => rc_8 h hK, fun _ => ⟨fun _ => rc_9 h hK, fun _ => ⟨fun _ => rc_10 h hK, fun _ => ⟨fun _ => rc_11 h hK, fun _ => ⟨fun _ => rc_12 h hK, fun _ => ⟨fun _ => rc_13 h hK, fun _ => ⟨fun _ => rc_14 h hK, fun _ => ⟨fun _ => rc_15 h hn hK, fun _ => hK _ _ _ (h.mono (by omega))⟩⟩⟩⟩⟩⟩⟩⟩⟩⟩⟩⟩⟩⟩⟩⟩
theorem law_holds {L : Nat} {xs : Nat → Int32} (hL : L ≤ 3072) : ∃ n, LW xs L n 0 z0 z0 (fun _ => 0) := ⟨513, law_all hL 512 0 z0 z0 _ (by omega) rel_0⟩
