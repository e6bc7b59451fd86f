abbrev lawW (cI cZ cJ : ClassId) (a bm : Nat → Nat) (ao : Nat) (S M : GS) (o : Nat → Int64) : va_W := gkW cI cZ cJ a S ++ (mdW cI cZ cJ bm M ++ [(ao, .inl (cJ, 1, .inr (.inl o)))])
abbrev lawTs : List Cond := cw_G_init :: tbG
def LawCtx (p : Program) (l : Launch) (s : State) (m : MethodId) (meth : Method) (c : Code) (b L : Nat) (xs : Nat → Int32) (D : va_G) (cI cZ cJ : ClassId) (A : Nat → Prop) : Prop :=
  p.tables.exec = Jvm.exec ∧ c.code = code ∧ c.maxLocals = 7 ∧ s.vm.findClass R_Lw = some m.cls ∧ (∀ w ∈ lawTs, w.before #[Value.ref b] s = true) ∧ l.flags = flags0 ∧ TE s ∧ va_K D vwCl (tys cI cZ cJ) s ∧ (∀ q, A q ↔ s.heap.size ≤ q) ∧ va_X b L xs s s.heap ∧ b < s.heap.size ∧ L ≤ 3072
section LW1
variable {D : va_G} {A : Nat → Prop} {H0 H : Heap} {locs : List Loc} {cI cZ cJ : ClassId} {a bm : Nat → Nat} {ao : Nat} {S M : GS} {o : Nat → Int64}
theorem law_m (h : wf D A H0 (lawW cI cZ cJ a bm ao S M o) H locs) : wf D A H0 (mdW cI cZ cJ bm M ++ (gkW cI cZ cJ a S ++ [(ao, .inl (cJ, 1, .inr (.inl o)))])) H locs := wf_perm (List.perm_append_comm_assoc _ _ _) h
theorem law_m' (h : wf D A H0 (mdW cI cZ cJ bm M ++ (gkW cI cZ cJ a S ++ [(ao, .inl (cJ, 1, .inr (.inl o)))])) H locs) : wf D A H0 (lawW cI cZ cJ a bm ao S M o) H locs := wf_perm (List.perm_append_comm_assoc _ _ _) h
theorem law_h (h : wf D A H0 (lawW cI cZ cJ a bm ao S M o) H locs) : wf D A H0 (hWf cI cZ cJ a ao (S, o) ++ mdW cI cZ cJ bm M) H locs := by
  refine wf_perm ?_ h
  unfold hWf
  rw [List.append_assoc]
  exact List.Perm.append_left _ List.perm_append_comm
theorem law_h' {u : GS × (Nat → Int64)} (h : wf D A H0 (hWf cI cZ cJ a ao u ++ mdW cI cZ cJ bm M) H locs) : wf D A H0 (lawW cI cZ cJ a bm ao u.1 M u.2) H locs := by
  refine wf_perm ?_ h
  unfold hWf
  rw [List.append_assoc]
  exact List.Perm.append_left _ List.perm_append_comm
end LW1
section LW2
variable {p : Program} {l : Launch} {e : Env} {R : Room} {s : State} {m : MethodId} {args : Array Value} {below : List Frame} {meth : Method} {c : Code} {H : Heap} {locs : List Loc} {cells slots : Nat} {Q : State → Prop}
variable {cc : ByteArray} {pc : Nat} {ls : Array Slot} {rest st0 : List Value} {D : va_G} {A : Nat → Prop} {ty : List (ClassId × FieldType)} {av : Array Value} {cI cZ cJ : ClassId} {a bm : Nat → Nat} {ao : Nat} {S M : GS} {o : Nat → Int64}
theorem lq_gi {post : Int32 → GS → Prop} (hw : wf D A s.heap (lawW cI cZ cJ a bm ao S M o) H locs) (hA : ∀ q, s.heap.size ≤ q → A q) (hr : va_Run p l e R s m args below meth c H locs cells slots 0 0 (F0 m pc ls st0) rest (va_Qi post (gB D ty (gkW cI cZ cJ a) (va_A (gkW cI cZ cJ a S) H.size)) (va_A (gkW cI cZ cJ a S) H.size) av) (va_A (gkW cI cZ cJ a S) H.size))
    (kk : ∀ (r : Int32) (S1 : GS) (H1 : Heap) (locs1 : List Loc), wf D A s.heap (lawW cI cZ cJ a bm ao S1 M o) H1 locs1 → post r S1 → W p l e R s m args below meth c H1 locs1 cells slots Q (F0 m (pc + 3) ls (.int r :: rest))) : W p l e R s m args below meth c H locs cells slots Q (F0 m pc ls st0) :=
  gF_i hw hA hr (fun r u H1 l1 h hp => kk r u H1 l1 h hp)
theorem lq_mv {post : GS → Prop} (hw : wf D A s.heap (lawW cI cZ cJ a bm ao S M o) H locs) (hA : ∀ q, s.heap.size ≤ q → A q) (hr : va_Run p l e R s m args below meth c H locs cells slots 0 0 (F0 m pc ls st0) rest (va_Qv post (gB D ty (mdW cI cZ cJ bm) (va_A (mdW cI cZ cJ bm M) H.size)) (va_A (mdW cI cZ cJ bm M) H.size) av) (va_A (mdW cI cZ cJ bm M) H.size))
    (kk : ∀ (M1 : GS) (H1 : Heap) (locs1 : List Loc), wf D A s.heap (lawW cI cZ cJ a bm ao S M1 o) H1 locs1 → post M1 → W p l e R s m args below meth c H1 locs1 cells slots Q (F0 m (pc + 3) ls rest)) : W p l e R s m args below meth c H locs cells slots Q (F0 m pc ls st0) :=
  gF_v (law_m hw) hA hr (fun u H1 l1 h hp => kk u H1 l1 (law_m' h) hp)
theorem lq_mi {post : Int32 → GS → Prop} (hw : wf D A s.heap (lawW cI cZ cJ a bm ao S M o) H locs) (hA : ∀ q, s.heap.size ≤ q → A q) (hr : va_Run p l e R s m args below meth c H locs cells slots 0 0 (F0 m pc ls st0) rest (va_Qi post (gB D ty (mdW cI cZ cJ bm) (va_A (mdW cI cZ cJ bm M) H.size)) (va_A (mdW cI cZ cJ bm M) H.size) av) (va_A (mdW cI cZ cJ bm M) H.size))
    (kk : ∀ (r : Int32) (M1 : GS) (H1 : Heap) (locs1 : List Loc), wf D A s.heap (lawW cI cZ cJ a bm ao S M1 o) H1 locs1 → post r M1 → W p l e R s m args below meth c H1 locs1 cells slots Q (F0 m (pc + 3) ls (.int r :: rest))) : W p l e R s m args below meth c H locs cells slots Q (F0 m pc ls st0) :=
  gF_i (law_m hw) hA hr (fun r u H1 l1 h hp => kk r u H1 l1 (law_m' h) hp)
theorem lq_h {post : Int32 → GS × (Nat → Int64) → Prop} (hw : wf D A s.heap (lawW cI cZ cJ a bm ao S M o) H locs) (hA : ∀ q, s.heap.size ≤ q → A q) (hr : va_Run p l e R s m args below meth c H locs cells slots 1 6 (F0 m pc ls st0) rest (va_Qi post (gB D ty (hWf cI cZ cJ a ao) (va_A (hWf cI cZ cJ a ao (S, o)) H.size)) (va_A (hWf cI cZ cJ a ao (S, o)) H.size) av) (va_A (hWf cI cZ cJ a ao (S, o)) H.size))
    (kk : ∀ (r : Int32) (u : GS × (Nat → Int64)) (H1 : Heap) (locs1 : List Loc), wf D A s.heap (lawW cI cZ cJ a bm ao u.1 M u.2) H1 locs1 → post r u → W p l e R s m args below meth c H1 locs1 (cells + 1) (slots + 6) Q (F0 m (pc + 3) ls (.int r :: rest))) : W p l e R s m args below meth c H locs cells slots Q (F0 m pc ls st0) :=
  gF_i (law_h hw) hA hr (fun r u H1 l1 h hp => kk r u H1 l1 (law_h' h) hp)
theorem h_preS {ws : va_W} {As : List Value} (hE : TE s) (hK : va_K D vwCl ty s) (hw : wf D A s.heap ws H locs) (hAe : ∀ q, A q → s.heap.size ≤ q) : PreS s H (va_Pc As (hPre D ty ws H.size)) As :=
  ⟨h_blind, fun U hU hW => ⟨rfl, hE.at hW (fun q hq => by rw [hU]; exact hw.2.2.2.1 q hq (fun h => by have := hAe q h; omega)), by rw [hU], by rw [hU]; exact hw.1, va_K.moved hW.alike hK, hw.2.1.weaken (fun _ _ _ _ => trivial)⟩⟩
theorem nI6 (k j : Nat) : nI (6 * k) + nI j = nI (6 * k + j) := nI_add _ _
/-- script[i + j] -/
theorem w_scr {b L : Nat} {xs : Nat → Int32} {k j : Nat} {jv : Int32} {lv : List (Nat × Value)} (hx : p.tables.exec = Jvm.exec) (hb : c.code = cc) (hX : va_X b L xs s s.heap) (hbl : b < s.heap.size) (hAe : ∀ q, A q → s.heap.size ≤ q) (hS : va_S A s.heap H locs) (hl : lv_has ls 7 lv) (p0 p4 : Nat) (h0 : lv[p0]? = some (0, .ref b)) (h4 : lv[p4]? = some (4, .int (nI (6 * k)))) (hj : jv = nI j) (hk : 6 * k + j < L) (hL : L ≤ 3072)
    (d0 : decode cc pc = .ok (.aload_n 0, 1)) (d1 : decode cc (pc + 1) = .ok (.iload 4, 2)) {jn : Int} (d2 : decode cc (pc + 1 + 2) = .ok (.iconst jn, 1)) (hjn : Int32.ofInt jn = jv) (d3 : decode cc (pc + 1 + 2 + 1) = .ok (.iadd, 1)) (d4 : decode cc (pc + 1 + 2 + 1 + 1) = .ok (.iaload, 1))
    (kk : W p l e R s m args below meth c H locs cells slots Q (F0 m (pc + 6) ls (.int (xs (6 * k + j)) :: rest))) : W p l e R s m args below meth c H locs cells slots Q (F0 m pc ls rest) := by
  refine lv_aload_n hx hb d0 rfl (lv_at hl p0 h0) ?_
  refine lv_iload hx hb d1 (lv_at hl p4 h4) ?_
  refine lv_iconst hx hb d2 hjn ?_
  refine lv_iadd hx hb d3 ?_
  rw [hj, nI6]
  refine va_sld hx hb hX hbl (fun h => by have := hAe b h; omega) hS (vp_in_nI hk (by omega)) d4 ?_
  rw [nI_clamp (by omega)]
  exact kk
theorem w_scr0 {b L : Nat} {xs : Nat → Int32} {k : Nat} {lv : List (Nat × Value)} (hx : p.tables.exec = Jvm.exec) (hb : c.code = cc) (hX : va_X b L xs s s.heap) (hbl : b < s.heap.size) (hAe : ∀ q, A q → s.heap.size ≤ q) (hS : va_S A s.heap H locs) (hl : lv_has ls 7 lv) (p0 p4 : Nat) (h0 : lv[p0]? = some (0, .ref b)) (h4 : lv[p4]? = some (4, .int (nI (6 * k)))) (hk : 6 * k < L) (hL : L ≤ 3072)
    (d0 : decode cc pc = .ok (.aload_n 0, 1)) (d1 : decode cc (pc + 1) = .ok (.iload 4, 2)) (d4 : decode cc (pc + 1 + 2) = .ok (.iaload, 1))
    (kk : W p l e R s m args below meth c H locs cells slots Q (F0 m (pc + 4) ls (.int (xs (6 * k)) :: rest))) : W p l e R s m args below meth c H locs cells slots Q (F0 m pc ls rest) := by
  refine lv_aload_n hx hb d0 rfl (lv_at hl p0 h0) ?_
  refine lv_iload hx hb d1 (lv_at hl p4 h4) ?_
  refine va_sld hx hb hX hbl (fun h => by have := hAe b h; omega) hS (vp_in_nI hk (by omega)) d4 ?_
  rw [nI_clamp (by omega)]
  exact kk
end LW2
