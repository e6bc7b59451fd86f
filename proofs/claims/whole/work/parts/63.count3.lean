theorem p_bitCount {X : Nat} {post : Int32 → Prop} (hX : X < 2 ^ 24) (hp : post (nI (cnt X))) : wp_Ji_bitCount (nI X) post := by
  unfold wp_Ji_bitCount
  have e : X = X % 256 + 256 * (X / 256 % 256 + 256 * (X / 65536)) := by omega
  have ha : X % 256 < 256 := by omega
  have hb : X / 256 % 256 < 256 := by omega
  have hc : X / 65536 < 256 := by omega
  unfold cnt at hp
  revert e ha hb hc hp
  generalize X % 256 = a
  generalize X / 256 % 256 = b
  generalize X / 65536 = c
  intro hp e ha hb hc
  subst e
  rw [st1 ha hb hc, st2 ha hb hc, st3 ha hb hc, st4 (cn_f a ha).1 (cn_f b hb).1 (cn_f c hc).1]
  exact hp
