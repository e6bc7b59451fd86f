section CT
variable {a b c : Nat}
theorem st1 (ha : a < 256) (hb : b < 256) (hc : c < 256) : nI (a + 256 * (b + 256 * c)) - (((nI (a + 256 * (b + 256 * c))).toUInt32 >>> ((1 : Int32).toUInt32 &&& Int32.toUInt32 31)).toInt32 &&& (1431655765 : Int32)) = nI (cn1 a + 256 * (cn1 b + 256 * cn1 c)) := by
  have h1 : ((nI (a + 256 * (b + 256 * c))).toUInt32 >>> ((1 : Int32).toUInt32 &&& Int32.toUInt32 31)).toInt32 = nI ((a + 256 * (b + 256 * c)) / 2) := nI_ushr (X := a + 256 * (b + 256 * c)) 1 (by omega) (by omega)
  have h2 : nI ((a + 256 * (b + 256 * c)) / 2) &&& (1431655765 : Int32) = nI ((a + 256 * (b + 256 * c)) / 2 &&& 1431655765) := nI_and _ _
  have h3 : (a + 256 * (b + 256 * c)) / 2 = (a / 2 + 128 * (b % 2)) + 256 * ((b / 2 + 128 * (c % 2)) + 256 * (c / 2)) := by omega
  have h4 := lane3 (a := a / 2 + 128 * (b % 2)) (b := b / 2 + 128 * (c % 2)) (c := c / 2) (m := 85) (by omega) (by omega) (by omega)
  rw [lane1 (by omega) (by omega), show 85 + 256 * (85 + 256 * (85 + 256 * 85)) = 1431655765 from rfl, ← h3] at h4
  have k : ∀ x z, x < 256 → z < 2 → (x / 2 + 128 * z) &&& 85 = x / 2 &&& 85 := fun x z hx hz => by
    have := cn_a x hx
    rcases (by omega : z = 0 ∨ z = 1) with w | w <;> subst w
    · exact this.2.1
    · exact this.2.2
  rw [k a _ ha (by omega), k b _ hb (by omega)] at h4
  have q1 := (cn_a a ha).1
  have q2 := (cn_a b hb).1
  have q3 := (cn_a c hc).1
  rw [h1, h2, h4, pk_sub (by omega)]
  congr 1
  show _ = (a - (a / 2 &&& 85)) + 256 * ((b - (b / 2 &&& 85)) + 256 * (c - (c / 2 &&& 85)))
  omega
theorem cn1_lt : ∀ a, a < 256 → cn1 a < 256 := by decide +kernel
theorem cn2_lt (ha : a < 256) : cn2 a < 256 := Nat.lt_trans (cn_c a ha) (by decide)
theorem st2 (ha : a < 256) (hb : b < 256) (hc : c < 256) : (nI (cn1 a + 256 * (cn1 b + 256 * cn1 c)) &&& (858993459 : Int32)) + (((nI (cn1 a + 256 * (cn1 b + 256 * cn1 c))).toUInt32 >>> ((2 : Int32).toUInt32 &&& Int32.toUInt32 31)).toInt32 &&& (858993459 : Int32)) = nI (cn2 a + 256 * (cn2 b + 256 * cn2 c)) := by
  have a1 := cn1_lt a ha
  have b1 := cn1_lt b hb
  have c1 := cn1_lt c hc
  have h1 : ((nI (cn1 a + 256 * (cn1 b + 256 * cn1 c))).toUInt32 >>> ((2 : Int32).toUInt32 &&& Int32.toUInt32 31)).toInt32 = nI ((cn1 a + 256 * (cn1 b + 256 * cn1 c)) / 4) := nI_ushr (X := cn1 a + 256 * (cn1 b + 256 * cn1 c)) 2 (by omega) (by omega)
  have h2 : ∀ x, nI x &&& (858993459 : Int32) = nI (x &&& 858993459) := fun x => nI_and _ _
  have h3 : (cn1 a + 256 * (cn1 b + 256 * cn1 c)) / 4 = (cn1 a / 4 + 64 * (cn1 b % 4)) + 256 * ((cn1 b / 4 + 64 * (cn1 c % 4)) + 256 * (cn1 c / 4)) := by omega
  have h4 := lane3 (a := cn1 a / 4 + 64 * (cn1 b % 4)) (b := cn1 b / 4 + 64 * (cn1 c % 4)) (c := cn1 c / 4) (m := 51) (by omega) (by omega) (by omega)
  have h5 := lane3 (a := cn1 a) (b := cn1 b) (c := cn1 c) (m := 51) a1 b1 (by omega)
  rw [lane1 (by omega) (by omega), show 51 + 256 * (51 + 256 * (51 + 256 * 51)) = 858993459 from rfl] at h5
  rw [lane1 (by omega) (by omega), show 51 + 256 * (51 + 256 * (51 + 256 * 51)) = 858993459 from rfl, ← h3, cn_b a ha _ (by omega), cn_b b hb _ (by omega)] at h4
  rw [h1, h2, h2, h4, h5, nI_add]
  congr 1
  show _ = ((cn1 a &&& 51) + (cn1 a / 4 &&& 51)) + 256 * (((cn1 b &&& 51) + (cn1 b / 4 &&& 51)) + 256 * ((cn1 c &&& 51) + (cn1 c / 4 &&& 51)))
  omega
theorem st3 (ha : a < 256) (hb : b < 256) (hc : c < 256) : (nI (cn2 a + 256 * (cn2 b + 256 * cn2 c)) + ((nI (cn2 a + 256 * (cn2 b + 256 * cn2 c))).toUInt32 >>> ((4 : Int32).toUInt32 &&& Int32.toUInt32 31)).toInt32) &&& (252645135 : Int32) = nI (cn3 a + 256 * (cn3 b + 256 * cn3 c)) := by
  have a1 := cn_c a ha
  have b1 := cn_c b hb
  have c1 := cn_c c hc
  have a2 := cn_e a ha
  have b2 := cn_e b hb
  have c2 := cn_e c hc
  have h1 : ((nI (cn2 a + 256 * (cn2 b + 256 * cn2 c))).toUInt32 >>> ((4 : Int32).toUInt32 &&& Int32.toUInt32 31)).toInt32 = nI ((cn2 a + 256 * (cn2 b + 256 * cn2 c)) / 16) := nI_ushr (X := cn2 a + 256 * (cn2 b + 256 * cn2 c)) 4 (by omega) (by omega)
  have h2 : ∀ x, nI x &&& (252645135 : Int32) = nI (x &&& 252645135) := fun x => nI_and _ _
  have h3 : (cn2 a + 256 * (cn2 b + 256 * cn2 c)) + (cn2 a + 256 * (cn2 b + 256 * cn2 c)) / 16 = (cn2 a + cn2 a / 16 + 16 * (cn2 b % 16)) + 256 * ((cn2 b + cn2 b / 16 + 16 * (cn2 c % 16)) + 256 * (cn2 c + cn2 c / 16)) := by omega
  have h4 := lane3 (a := cn2 a + cn2 a / 16 + 16 * (cn2 b % 16)) (b := cn2 b + cn2 b / 16 + 16 * (cn2 c % 16)) (c := cn2 c + cn2 c / 16) (m := 15) (by omega) (by omega) (by omega)
  rw [lane1 (by omega) (by omega), show 15 + 256 * (15 + 256 * (15 + 256 * 15)) = 252645135 from rfl, ← h3, cn_d _ a1 _ b2, cn_d _ b1 _ c2] at h4
  rw [h1, nI_add, h2, h4]
  rfl
theorem st4 (ha : a ≤ 8) (hb : b ≤ 8) (hc : c ≤ 8) : ((nI (a + 256 * (b + 256 * c)) + ((nI (a + 256 * (b + 256 * c))).toUInt32 >>> ((8 : Int32).toUInt32 &&& Int32.toUInt32 31)).toInt32) + ((nI (a + 256 * (b + 256 * c)) + ((nI (a + 256 * (b + 256 * c))).toUInt32 >>> ((8 : Int32).toUInt32 &&& Int32.toUInt32 31)).toInt32).toUInt32 >>> ((16 : Int32).toUInt32 &&& Int32.toUInt32 31)).toInt32) &&& (63 : Int32) = nI (a + b + c) := by
  have h1 : ((nI (a + 256 * (b + 256 * c))).toUInt32 >>> ((8 : Int32).toUInt32 &&& Int32.toUInt32 31)).toInt32 = nI ((a + 256 * (b + 256 * c)) / 256) := nI_ushr (X := a + 256 * (b + 256 * c)) 8 (by omega) (by omega)
  rw [h1, nI_add]
  have h2 : ((nI (a + 256 * (b + 256 * c) + (a + 256 * (b + 256 * c)) / 256)).toUInt32 >>> ((16 : Int32).toUInt32 &&& Int32.toUInt32 31)).toInt32 = nI ((a + 256 * (b + 256 * c) + (a + 256 * (b + 256 * c)) / 256) / 65536) := nI_ushr (X := a + 256 * (b + 256 * c) + (a + 256 * (b + 256 * c)) / 256) 16 (by omega) (by omega)
  have h3 : ∀ x, nI x &&& (63 : Int32) = nI (x &&& 63) := fun x => nI_and _ _
  rw [h2, nI_add, h3, show (63 : Nat) = 2 ^ 6 - 1 from rfl, Nat.and_two_pow_sub_one_eq_mod]
  have g1 : (a + 256 * (b + 256 * c)) / 256 = b + 256 * c := by omega
  rw [g1]
  have g2 : (a + 256 * (b + 256 * c) + (b + 256 * c)) / 65536 = c := by omega
  rw [g2]
  congr 1
  omega
end CT
theorem q_bitsOf {x : Int32} {post : Int32 → Prop} (hp : post (nI (((List.range 24).map (fun k => (bt x k).toNat)).foldr (· + ·) 0))) : wp_Mo_bitsOf x post := by
  have hs : ∀ (l : List Nat) (z : Nat), (l ++ [z]).foldr (· + ·) 0 = l.foldr (· + ·) 0 + z := fun l z => by
    induction l with
    | nil => simp
    | cons y l ih => simp only [List.cons_append, List.foldr_cons, ih]; omega
  refine pk_loop (fun n i (y : Int32) => L_Mo_bitsOf_4 post n x y (nI i)) (fun i y => y = nI (((List.range i).map (fun k => (bt x k).toNat)).foldr (· + ·) 0)) 24 0 0 (by omega) rfl ?_ ?_
  · intro n y hy
    subst hy
    exact ⟨fun _ => hp, fun z => absurd ((le24 (c := 24) (i := 24) (by omega) (by omega)).mpr (Nat.le_refl _)) z⟩
  · intro n i y hi hy ih
    subst hy
    refine ⟨fun z => absurd ((le24 (c := 24) (by omega) (by omega)).mp z) (by omega), fun _ => ?_⟩
    rw [t_and1 _ (by omega), nI_1]
    refine ih _ ?_
    rw [List.range_succ, List.map_append, List.map_singleton, hs, ← nI_add]
    congr 1
    cases bt x i <;> rfl
