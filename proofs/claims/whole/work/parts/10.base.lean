/-! Part 02: the words of the walk: states as tables of contents, worlds, entry and end of a method, calls -/
abbrev GS : Type := (Nat → Nat → Int32) × (Nat → Nat → Int64)
def gI (S : GS) (k : Nat) (f : Nat → Int32) : GS := (fun j => if j = k then f else S.1 j, S.2)
def gL (S : GS) (k : Nat) (f : Nat → Int64) : GS := (S.1, fun j => if j = k then f else S.2 j)
abbrev tys (cI cZ cJ : ClassId) : List (ClassId × FieldType) := [(cI, .int), (cZ, .boolean), (cJ, .long)]
def wf (D : va_G) (A : Nat → Prop) (H0 : Heap) (ws : va_W) (H : Heap) (locs : List Loc) : Prop := va_P D vwCl ws H ∧ va_D A ws ∧ va_S A H0 H locs
/-- a start: the world is there -/
def gPre (D : va_G) (ty : List (ClassId × FieldType)) (ws : va_W) (sz : Nat) (U : State) : Prop := U.heap.size = sz ∧ va_P D vwCl ws U.heap ∧ va_K D vwCl ty U ∧ va_D (fun _ => True) ws
def rPre (D : va_G) (ty : List (ClassId × FieldType)) (ws : va_W) (U : State) : Prop := va_P D vwCl ws U.heap ∧ va_K D vwCl ty U
def gB {σ : Type} (D : va_G) (ty : List (ClassId × FieldType)) (Wf : σ → va_W) (A : Nat → Prop) (u : σ) (t : State) : Prop := va_P D vwCl (Wf u) t.heap ∧ va_K D vwCl ty t ∧ va_D A (Wf u)
theorem g_blind {D : va_G} {ty : List (ClassId × FieldType)} {ws : va_W} {sz : Nat} {av : List Value} : FrameBlind (va_Pc av (gPre D ty ws sz)) := fun a U g mk q => by
  obtain ⟨q0, q1, qP, qK, qD⟩ := q
  exact ⟨q0, q1, qP, va_K.moved (u := U) (U := U.calling g mk a) (Vm.Alike.refl U.vm) qK, qD⟩
theorem r_blind {D : va_G} {ty : List (ClassId × FieldType)} {ws : va_W} {av : List Value} : FrameBlind (va_Pc av (rPre D ty ws)) := fun a U g mk q => by
  obtain ⟨q0, qP, qK⟩ := q
  exact ⟨q0, qP, va_K.moved (u := U) (U := U.calling g mk a) (Vm.Alike.refl U.vm) qK⟩
theorem p_blind {av : List Value} : FrameBlind (va_Pc av (fun _ => True)) := fun _ _ _ _ q => q
section G1
variable {D : va_G} {ty : List (ClassId × FieldType)} {ws : va_W} {s : State} {H : Heap} {A : Nat → Prop} {locs : List Loc} {H0 : Heap}
theorem g_preV {b : Nat} {As : List Value} {q0 ci : Nat} {q : vw_C} {fs : List Value} (hK : va_K D vwCl ty s) (hw : wf D A H0 ws H locs) (hc : vwCl[ci]? = some q) (he : ws[q0]? = some (b, .inr (ci, fs))) : PreV s H q.1 b (va_Pc (.ref b :: As) (gPre D ty ws H.size)) As :=
  ⟨g_blind, va_recv hK hw.1 hc he, fun U hU hW => ⟨rfl, by rw [hU], by rw [hU]; exact hw.1, va_K.moved hW.alike hK, hw.2.1.weaken (fun _ _ _ _ => trivial)⟩⟩
theorem r_preV {b : Nat} {As : List Value} {q0 ci : Nat} {q : vw_C} {fs : List Value} (hK : va_K D vwCl ty s) (hP : va_P D vwCl ws H) (hc : vwCl[ci]? = some q) (he : ws[q0]? = some (b, .inr (ci, fs))) : PreV s H q.1 b (va_Pc (.ref b :: As) (rPre D ty ws)) As :=
  ⟨r_blind, va_recv hK hP hc he, fun U hU hW => ⟨rfl, by rw [hU]; exact hP, va_K.moved hW.alike hK⟩⟩
theorem g_preS {As : List Value} (hK : va_K D vwCl ty s) (hw : wf D A H0 ws H locs) : PreS s H (va_Pc As (gPre D ty ws H.size)) As :=
  ⟨g_blind, fun U hU hW => ⟨rfl, by rw [hU], by rw [hU]; exact hw.1, va_K.moved hW.alike hK, hw.2.1.weaken (fun _ _ _ _ => trivial)⟩⟩
theorem r_preS {As : List Value} (hK : va_K D vwCl ty s) (hP : va_P D vwCl ws H) : PreS s H (va_Pc As (rPre D ty ws)) As :=
  ⟨r_blind, fun U hU hW => ⟨rfl, by rw [hU]; exact hP, va_K.moved hW.alike hK⟩⟩
theorem p_preS {As : List Value} : PreS s H (va_Pc As (fun _ => True)) As := ⟨p_blind, fun _ _ _ => ⟨rfl, trivial⟩⟩
theorem p_preV {b : Nat} {As : List Value} {q0 ci : Nat} {q : vw_C} {fs : List Value} (hK : va_K D vwCl ty s) (hP : va_P D vwCl ws H) (hc : vwCl[ci]? = some q) (he : ws[q0]? = some (b, .inr (ci, fs))) : PreV s H q.1 b (va_Pc (.ref b :: As) (fun _ => True)) As :=
  ⟨p_blind, va_recv hK hP hc he, fun _ _ _ => ⟨rfl, trivial⟩⟩
end G1
section G2
variable {l : Launch} {y : MethodName} {w w' : List Cond} {rm : Room} {cc : ByteArray} {maxL : Nat} {ret : Option FieldType} {D : va_G} {ty : List (ClassId × FieldType)} {ws : va_W} {av : List Value}
/-- a method's entry, a writer: the world, the locals, and any end -/
theorem gm_w {QF : (Nat → Prop) → Array Value → State → Outcome → State → Prop} {mc ms sz : Nat} (hy : plainName y.cls = true) (hw : w = Cond.code y cc maxL ret :: w') (hav : (lg_sl av).length ≤ maxL)
    (body : ∀ (p : Program) (e : Env) (s : State) (m : MethodId) (args : Array Value) (below : List Frame) (meth : Method) (c : Code) (A : Nat → Prop) (ls : Array Slot), p.tables.exec = Jvm.exec → c.code = cc → meth.sig.returnType = ret → (∀ x ∈ w, x.before args s = true) → s.vm.findClass y.cls = some m.cls → meth.name = y.name → meth.locks = false → c.maxLocals = maxL → va_K D vwCl ty s → (∀ q, s.heap.size ≤ q → A q) → wf D A s.heap ws s.heap [] → lv_has ls maxL (lv_args 0 av) →
      W p l e rm s m args below meth c s.heap [] 0 0 (MQ below (QF A) args s mc ms A) (F0 m 0 ls [])) :
    Met l y w rm (va_Pc av (gPre D ty ws sz)) (QF (va_A ws sz)) mc ms (va_A ws sz) := by
  refine Met.ofW (cc := cc) (maxL := maxL) (ret := ret) hy hw ?_
  intro p e s m args below meth c s₁ B hml hv
  obtain ⟨rfl, hsz, hP, hK, hD0⟩ := hv
  subst hsz
  have hl := lv_entry av (n := maxL) hav
  rw [lg_entry_eq]
  exact body p e s m _ below meth c (va_A ws s.heap.size) _ B.exec B.bytes B.returns (atoms_spec (ws := w) B.pre) (findClass_of_methodNamed B.named) (name_of_methodNamed B.named B.method).1 B.notSynchronized hml hK (fun q h => Or.inr h) ⟨hP, hD0.self, va_S.rf⟩ hl
theorem gm_r {Qc : Array Value → State → Outcome → State → Prop} (hy : plainName y.cls = true) (hw : w = Cond.code y cc maxL ret :: w') (hav : (lg_sl av).length ≤ maxL)
    (body : ∀ (p : Program) (e : Env) (s : State) (m : MethodId) (args : Array Value) (below : List Frame) (meth : Method) (c : Code) (ls : Array Slot), p.tables.exec = Jvm.exec → c.code = cc → meth.sig.returnType = ret → (∀ x ∈ w, x.before args s = true) → s.vm.findClass y.cls = some m.cls → meth.locks = false → c.maxLocals = maxL → va_K D vwCl ty s → va_P D vwCl ws s.heap → lv_has ls maxL (lv_args 0 av) →
      W p l e rm s m args below meth c s.heap [] 0 0 (MQ below Qc args s 0 0 (fun _ => False)) (F0 m 0 ls [])) :
    Met l y w rm (va_Pc av (rPre D ty ws)) Qc 0 0 (fun _ => False) := by
  refine Met.ofW (cc := cc) (maxL := maxL) (ret := ret) hy hw ?_
  intro p e s m args below meth c s₁ B hml hv
  obtain ⟨rfl, hP, hK⟩ := hv
  have hl := lv_entry av (n := maxL) hav
  rw [lg_entry_eq]
  exact body p e s m _ below meth c _ B.exec B.bytes B.returns (atoms_spec (ws := w) B.pre) (findClass_of_methodNamed B.named) B.notSynchronized hml hK hP hl
theorem gm_p {Qc : Array Value → State → Outcome → State → Prop} (hy : plainFor y = true) (hw : w = Cond.code y cc maxL ret :: w') (hav : (lg_sl av).length ≤ maxL)
    (body : ∀ (p : Program) (e : Env) (s : State) (m : MethodId) (args : Array Value) (below : List Frame) (meth : Method) (c : Code) (ls : Array Slot), p.tables.exec = Jvm.exec → c.code = cc → meth.sig.returnType = ret → (∀ x ∈ w, x.before args s = true) → s.vm.findClass y.cls = some m.cls → meth.locks = false → c.maxLocals = maxL → lv_has ls maxL (lv_args 0 av) →
      W p l e rm s m args below meth c s.heap [] 0 0 (MQ below Qc args s 0 0 (fun _ => False)) (F0 m 0 ls [])) :
    Met l y w rm (va_Pc av (fun _ => True)) Qc 0 0 (fun _ => False) := by
  refine va_MetF (cc := cc) (maxL := maxL) (ret := ret) hy hw ?_
  intro p e s m args below meth c s₁ B hml hv
  obtain ⟨rfl, -⟩ := hv
  have hl := lv_entry av (n := maxL) hav
  rw [lg_entry_eq]
  exact body p e s m _ below meth c _ B.exec B.bytes B.returns (atoms_spec (ws := w) B.pre) (findClass_of_methodNamed B.named) B.notSynchronized hml hl
end G2
section G3
variable {p : Program} {l : Launch} {e : Env} {R : Room} {s : State} {m : MethodId} {args : Array Value} {below : List Frame} {meth : Method} {c : Code} {H : Heap} {locs : List Loc} {cells slots : Nat} {Q : State → Prop}
variable {cc : ByteArray} {pc : Nat} {ls : Array Slot} {rest st0 : List Value} {D : va_G} {A : Nat → Prop} {ty : List (ClassId × FieldType)} {ws : va_W} {av : Array Value}
-- ends
theorem gr_v {σ : Type} {Wf : σ → va_W} {post : σ → Prop} (hx : p.tables.exec = Jvm.exec) (hb : c.code = cc) (hr : meth.sig.returnType = none) (hlk : meth.locks = false) (hK : va_K D vwCl ty s) (u : σ) (hw : wf D A s.heap (Wf u) H locs) (hp : post u) (hd : decode cc pc = .ok (.return_, 1)) :
    W p l e R s m args below meth c H locs cells slots (MQ below (va_Qv post (gB D ty Wf A) A) args s cells slots A) (F0 m pc ls []) :=
  W.vret hx hb hr (fun t ht hW => ⟨⟨u, rfl, hp, by rw [ht]; exact hw.1, va_K.moved hW.alike hK, hw.2.1⟩, hw.2.2.F ht⟩) hw.2.2.2.2 hd hlk
theorem gr_i {σ : Type} {Wf : σ → va_W} {post : Int32 → σ → Prop} {v : Int32} (hx : p.tables.exec = Jvm.exec) (hb : c.code = cc) (hr : meth.sig.returnType = some .int) (hlk : meth.locks = false) (hK : va_K D vwCl ty s) (u : σ) (hw : wf D A s.heap (Wf u) H locs) (hp : post v u) (hd : decode cc pc = .ok (.ireturn, 1)) :
    W p l e R s m args below meth c H locs cells slots (MQ below (va_Qi post (gB D ty Wf A) A) args s cells slots A) (F0 m pc ls [.int v]) :=
  W.iret hx hb hr (fun t ht hW => ⟨⟨v, u, rfl, hp, by rw [ht]; exact hw.1, va_K.moved hW.alike hK, hw.2.1⟩, hw.2.2.F ht⟩) hw.2.2.2.2 hd hlk
theorem gr_z {σ : Type} {Wf : σ → va_W} {post : Int32 → σ → Prop} {v : Int32} (hx : p.tables.exec = Jvm.exec) (hb : c.code = cc) (hr : meth.sig.returnType = some .boolean) (hlk : meth.locks = false) (hK : va_K D vwCl ty s) (u : σ) (hw : wf D A s.heap (Wf u) H locs) (hn : narrow .boolean (.int v) = .int v) (hp : post v u) (hd : decode cc pc = .ok (.ireturn, 1)) :
    W p l e R s m args below meth c H locs cells slots (MQ below (va_Qi post (gB D ty Wf A) A) args s cells slots A) (F0 m pc ls [.int v]) :=
  W.zret hx hb hr hn (fun t ht hW => ⟨⟨v, u, rfl, hp, by rw [ht]; exact hw.1, va_K.moved hW.alike hK, hw.2.1⟩, hw.2.2.F ht⟩) hw.2.2.2.2 hd hlk
theorem rr_i {post : Int32 → Prop} {v : Int32} (hx : p.tables.exec = Jvm.exec) (hb : c.code = cc) (hr : meth.sig.returnType = some .int) (hlk : meth.locks = false) (hp : post v) (hd : decode cc pc = .ok (.ireturn, 1)) :
    W p l e R s m args below meth c s.heap [] cells slots (MQ below (vp_Si post) args s cells slots (fun _ => False)) (F0 m pc ls [.int v]) :=
  W.iret hx hb hr (fun t ht hW => ⟨v, rfl, hp, ht⟩) (fun q h => by cases h) hd hlk
theorem rr_z {post : Int32 → Prop} {v : Int32} (hx : p.tables.exec = Jvm.exec) (hb : c.code = cc) (hr : meth.sig.returnType = some .boolean) (hlk : meth.locks = false) (hn : narrow .boolean (.int v) = .int v) (hp : post v) (hd : decode cc pc = .ok (.ireturn, 1)) :
    W p l e R s m args below meth c s.heap [] cells slots (MQ below (vp_Si post) args s cells slots (fun _ => False)) (F0 m pc ls [.int v]) :=
  W.zret hx hb hr hn (fun t ht hW => ⟨v, rfl, hp, ht⟩) (fun q h => by cases h) hd hlk
theorem rr_l {post : Int64 → Prop} {v : Int64} (hx : p.tables.exec = Jvm.exec) (hb : c.code = cc) (hr : meth.sig.returnType = some .long) (hlk : meth.locks = false) (hp : post v) (hd : decode cc pc = .ok (.lreturn, 1)) :
    W p l e R s m args below meth c s.heap [] cells slots (MQ below (vp_Sl post) args s cells slots (fun _ => False)) (F0 m pc ls [.long v]) :=
  W.lret hx hb hr (fun t ht hW => ⟨v, rfl, hp, ht⟩) (fun q h => by cases h) hd hlk
theorem rr_v {post : Unit → Prop} (hx : p.tables.exec = Jvm.exec) (hb : c.code = cc) (hr : meth.sig.returnType = none) (hlk : meth.locks = false) (hp : post ()) (hd : decode cc pc = .ok (.return_, 1)) :
    W p l e R s m args below meth c s.heap [] cells slots (MQ below (va_Sv post) args s cells slots (fun _ => False)) (F0 m pc ls []) :=
  W.vret hx hb hr (fun t ht hW => ⟨rfl, hp, ht⟩) (fun q h => by cases h) hd hlk
-- behind a call that writes: the callee's world is the whole world
theorem g_after {σ : Type} {Wf : σ → va_W} {u : σ} {t : State} {H1 : Heap} {locs1 : List Loc} (hw : wf D A s.heap ws H locs) (hA : ∀ q, s.heap.size ≤ q → A q) (ht : t.heap = H1) (hB : gB D ty Wf (va_A ws H.size) u t) (hS : va_S A s.heap H1 locs1) : wf D A s.heap (Wf u) H1 locs1 := by
  refine ⟨by rw [← ht]; exact hB.1, hB.2.2.weaken (fun k q _ h => ?_), hS⟩
  rcases h with ⟨j, x, h⟩ | h
  · exact hw.2.1.2 j (q.1, x) h
  · exact hA _ (Nat.le_trans hw.2.2.1 h)
theorem g_inA (hw : wf D A s.heap ws H locs) (hA : ∀ q, s.heap.size ≤ q → A q) : ∀ q, va_A ws H.size q → A q := by
  intro q h
  rcases h with ⟨j, x, h⟩ | h
  · exact hw.2.1.2 j _ h
  · exact hA _ (Nat.le_trans hw.2.2.1 h)
theorem gc_v {σ : Type} {Wf : σ → va_W} {post : σ → Prop} (hw : wf D A s.heap ws H locs) (hA : ∀ q, s.heap.size ≤ q → A q) (hr : va_Run p l e R s m args below meth c H locs cells slots 0 0 (F0 m pc ls st0) rest (va_Qv post (gB D ty Wf (va_A ws H.size)) (va_A ws H.size) av) (va_A ws H.size))
    (kk : ∀ (u : σ) (H1 : Heap) (locs1 : List Loc), wf D A s.heap (Wf u) H1 locs1 → post u → W p l e R s m args below meth c H1 locs1 cells slots Q (F0 m (pc + 3) ls rest)) : W p l e R s m args below meth c H locs cells slots Q (F0 m pc ls st0) :=
  va_callv hr hw.2.2 (fun q _ h => g_inA hw hA q h) (g_inA hw hA) (fun u t H1 locs1 ht _ hp hB _ _ hS => kk u H1 locs1 (g_after hw hA ht hB hS) hp)
theorem gc_i {σ : Type} {Wf : σ → va_W} {post : Int32 → σ → Prop} (hw : wf D A s.heap ws H locs) (hA : ∀ q, s.heap.size ≤ q → A q) (hr : va_Run p l e R s m args below meth c H locs cells slots 0 0 (F0 m pc ls st0) rest (va_Qi post (gB D ty Wf (va_A ws H.size)) (va_A ws H.size) av) (va_A ws H.size))
    (kk : ∀ (r : Int32) (u : σ) (H1 : Heap) (locs1 : List Loc), wf D A s.heap (Wf u) H1 locs1 → post r u → W p l e R s m args below meth c H1 locs1 cells slots Q (F0 m (pc + 3) ls (.int r :: rest))) : W p l e R s m args below meth c H locs cells slots Q (F0 m pc ls st0) :=
  va_calli hr hw.2.2 (fun q _ h => g_inA hw hA q h) (g_inA hw hA) (fun r u t H1 locs1 ht _ hp hB _ _ hS => kk r u H1 locs1 (g_after hw hA ht hB hS) hp)
end G3

