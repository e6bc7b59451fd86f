/-! Part 20: exceptions: a method that throws (nothing old is written, one cell of six slots comes), a throw that passes through, a throw that is caught -/
abbrev eI : String := "java/lang/IndexOutOfBoundsException"
abbrev eA : String := "java/lang/IllegalArgumentException"
abbrev eS : String := "java/lang/IllegalStateException"
abbrev eNm : List String := ["java/lang/RuntimeException", "java/lang/Exception"]
def thr (E : String) (st : State) (x : Addr) (t : State) : Prop := st.heap.size ≤ x ∧ ∃ cell : Cell, t.heap[x]? = some cell ∧ cell.vm = .none ∧ st.vm.findClass E = some cell.cls
def thrEnd (E : String) (st : State) (x : Addr) (t : State) : Prop := thr E st x t ∧ st.WarmedH t.vm ∧ st.sameButNew ({ t with vm := st.vm } : State) [] 1 6
def MT (below : List Frame) (E : String) (s : State) : State → Prop := fun t => ∃ x, t.status = .running ∧ Ended t below (.threw x) ∧ thrEnd E s x t
def MetT (l : Launch) (y : MethodName) (ws : List Cond) (rm : Room) (Pc : Array Value → State → Prop) (E : String) : Prop :=
  MetFree l y (headSpec ws rm) Pc (fun _ _ _ _ _ => True) (fun _ st o t => ∃ x, o = .threw x ∧ thrEnd E st x t)
/-- what is old stays, to the cell -/
theorem same_old {s t : State} {k n : Nat} (h : s.sameButNew t [] k n) : ∀ q : Nat, q < s.heap.size → t.heap[q]? = s.heap[q]? := by
  intro q hq
  obtain ⟨c', h1, h2, h3, h4⟩ := h.2.2.2.2.2 q s.heap[q] (Array.getElem?_eq_getElem hq)
  rw [Array.getElem?_eq_getElem hq]
  have hs : c'.slots = s.heap[q].slots := Array.ext_getElem? (fun i => h4 i (by simp))
  rw [hs] at h2
  exact h1.trans (congrArg some h2)
-- the words on exceptions that aren't carried by the tables' list alone
def xw : List Cond := [.castable eI eI, .castable eA eA, .castable eS eS, .declares (Bundle.initS "java/lang/RuntimeException"), .declares (Bundle.initS "java/lang/Exception"), .declares (Bundle.initS Bundle.tN)]
def xlit : List (Nat × String) := [(79, "the pattern is not 0 .. 255"), (92, "many is not 1 .. 100"), (115, "no such action"), (123, "no such place in a macro"), (130, "neither 0 nor a code"), (136, "no such chord"), (141, "not the keys or not the code of a chord"), (149, "another chord has just these keys"), (162, "what is not 0 .. 3"), (173, "no such key"), (175, "no such layer")]
def TE (U : State) : Prop := (∀ w ∈ xw, va_Nw w U) ∧ va_Zq Bundle.tN "UNASSIGNED_STACK" Bundle.steD (fun _ => False) U U.heap ∧ va_Zq Bundle.tN "SUPPRESSED_SENTINEL" Bundle.listD (fun _ => False) U U.heap ∧
  (va_Nc eA eI U ∧ va_Nc eS eI U ∧ va_Nc eS eA U) ∧ (va_Nw (.laysStatic Bundle.tN "UNASSIGNED_STACK" Bundle.steD) U ∧ va_Nw (.laysStatic Bundle.tN "SUPPRESSED_SENTINEL" Bundle.listD) U) ∧ ∀ q ∈ xlit, ∃ a, vk_R R_G q.1 q.2 a U
theorem xw_warm {w : Cond} (h : w ∈ xw) {s U : State} (hW : s.WarmedH U.vm) (hZ : va_Nw w s) : va_Nw w U := by
  have hc : ∀ a b, va_Nw (.castable a b) s → va_Nw (.castable a b) U := fun a b hZ => va_tabs rfl (rfl : (s.setVm U.vm).vm = U.vm) (by rw [Cond.castable_setVm hW.alike]; exact hZ)
  simp only [xw, List.mem_cons, List.not_mem_nil, or_false] at h
  rcases h with rfl | rfl | rfl | rfl | rfl | rfl
  · exact hc _ _ hZ
  · exact hc _ _ hZ
  · exact hc _ _ hZ
  · exact va_Nw.warmD hW hZ
  · exact va_Nw.warmD hW hZ
  · exact va_Nw.warmD hW hZ
theorem lays_at {s U : State} {C n d : String} {A A' : Array Value} (h : (Cond.laysStatic C n d).before A s = true) (hW : s.vm.Alike U.vm) (hH : ∀ q : Nat, q < s.heap.size → U.heap[q]? = s.heap[q]?) : (Cond.laysStatic C n d).before A' U = true := by
  obtain ⟨c, k, i, f, a, cell, hc, hi, hst, ha, hcell, hs, hcls, hlt, hty⟩ := Cond.laysStatic_spec h
  obtain ⟨k', hi', hek⟩ := State.fieldFound?_setVm hW hi
  exact Cond.laysStatic_of (s := U) (by rw [hW.findClass]; exact hc) hi' hst (by rw [hek]; exact ha) ((hH a (Array.getElem?_eq_some_iff.mp hcell).1).trans hcell) hs hcls hlt (by rw [hek]; exact hty)
theorem TE.at {s U : State} (h : TE s) (hW : s.WarmedH U.vm) (hH : ∀ q : Nat, q < s.heap.size → U.heap[q]? = s.heap[q]?) : TE U := by
  obtain ⟨h1, h2, h3, ⟨h4, h5, h6⟩, ⟨h8, h9⟩, h7⟩ := h
  refine ⟨fun w hw => xw_warm hw hW (h1 w hw), (h2.kept (fun a h _ => hH a h)).moved hW.alike, (h3.kept (fun a h _ => hH a h)).moved hW.alike, ⟨h4.moved hW.alike, h5.moved hW.alike, h6.moved hW.alike⟩, ⟨lays_at h8 hW.alike hH, lays_at h9 hW.alike hH⟩, fun q hq => ?_⟩
  obtain ⟨a, ha⟩ := h7 q hq
  exact ⟨a, ha.warm hW⟩
def xref1 : Cond := .isRef (.static Bundle.tN "UNASSIGNED_STACK" Bundle.steD)
def xref2 : Cond := .isRef (.static Bundle.tN "SUPPRESSED_SENTINEL" Bundle.listD)
theorem ref_of_Z {args : Array Value} {U : State} {C n d : String} {A : Nat → Prop} (h : va_Zq C n d A U U.heap) : (Cond.isRef (.static C n d)).before args U = true := by
  rcases h with ⟨cf, kf, fi, f, a, cell, h1, h2, h3, h4, h5, h6, h7, -⟩ | ⟨t, cf, kf, fi, f, a, cell, h1, h2, h3, h4, h5, h6, h7, -⟩
  · have hv := Term.static_eval (args := args) (first := U) (o := none) (idx := []) h1 h2 h4 h5 h6 h7
    simp [Cond.before, Cond.holds, Cond.value, hv]
  · have hv := Term.static_eval (args := args) (first := U) (o := none) (idx := []) h1 h2 h4 h5 h6 h7
    simp [Cond.before, Cond.holds, Cond.value, hv]
set_option maxRecDepth 100000 in
theorem xa_I : ∀ a ∈ Bundle.ownAtoms R_G 125 eI eNm, (a ∈ tables_1 ∧ goodWord a = true) ∨ a ∈ xw ∨ a = xref1 ∨ a = xref2 ∨ a = .laysStatic Bundle.tN "UNASSIGNED_STACK" Bundle.steD ∨ a = .laysStatic Bundle.tN "SUPPRESSED_SENTINEL" Bundle.listD := by decide +kernel
set_option maxRecDepth 100000 in
theorem xa_A : ∀ a ∈ Bundle.ownAtoms R_G 81 eA eNm, (a ∈ tables_1 ∧ goodWord a = true) ∨ a ∈ xw ∨ a = xref1 ∨ a = xref2 ∨ a = .laysStatic Bundle.tN "UNASSIGNED_STACK" Bundle.steD ∨ a = .laysStatic Bundle.tN "SUPPRESSED_SENTINEL" Bundle.listD := by decide +kernel
set_option maxRecDepth 100000 in
theorem xa_S : ∀ a ∈ Bundle.ownAtoms R_G 151 eS eNm, (a ∈ tables_1 ∧ goodWord a = true) ∨ a ∈ xw ∨ a = xref1 ∨ a = xref2 ∨ a = .laysStatic Bundle.tN "UNASSIGNED_STACK" Bundle.steD ∨ a = .laysStatic Bundle.tN "SUPPRESSED_SENTINEL" Bundle.listD := by decide +kernel
theorem te_atoms {L ws : List Cond} {s : State} {args : Array Value} (hL : ∀ a ∈ L, (a ∈ tables_1 ∧ goodWord a = true) ∨ a ∈ xw ∨ a = xref1 ∨ a = xref2 ∨ a = .laysStatic Bundle.tN "UNASSIGNED_STACK" Bundle.steD ∨ a = .laysStatic Bundle.tN "SUPPRESSED_SENTINEL" Bundle.listD) (hws : ∀ w ∈ tbG, w ∈ ws) (hts : ∀ w ∈ ws, w.before args s = true) (hE : TE s) : ∀ a ∈ L, a.before args s = true := by
  intro a ha
  rcases hL a ha with ⟨h1, h2⟩ | h | rfl | rfl | rfl | rfl
  · exact hts a (hws a (tb_in h1 h2))
  · have hZ := hE.1 a h
    simp only [xw, List.mem_cons, List.not_mem_nil, or_false] at h
    rcases h with rfl | rfl | rfl | rfl | rfl | rfl <;> exact va_any rfl hZ
  · exact ref_of_Z hE.2.1
  · exact ref_of_Z hE.2.2.1
  · exact lays_at hE.2.2.2.2.1.1 (Vm.Alike.refl _) (fun _ _ => rfl)
  · exact lays_at hE.2.2.2.2.1.2 (Vm.Alike.refl _) (fun _ _ => rfl)
section T1
variable {l : Launch} {y : MethodName} {w w' : List Cond} {rm : Room} {cc : ByteArray} {maxL : Nat} {ret : Option FieldType} {D : va_G} {ty : List (ClassId × FieldType)} {ws : va_W} {av : List Value} {E : String}
theorem MetT.ofW {Pc : Array Value → State → Prop} (hy : plainName y.cls = true) (hw : w = Cond.code y cc maxL ret :: w')
    (body : ∀ p e s m args below meth c s₁, BodyLoose p l y (headSpec w rm) cc maxL ret e s m args below meth c s₁ → c.maxLocals = maxL → Pc args s →
      W p l e rm s m args below meth c s.heap [] 0 0 (MT below E s) (entryFrame m args maxL)) : MetT l y w rm Pc E := by
  refine MetFree.of_bodyS (code := cc) (maxLocals := maxL) (ret := ret) hy ?_ ?_
  · intro args s m h hn
    obtain ⟨meth, c, h1, h2, h3, h4, h5, h6, -, -⟩ := Cond.code_spec hn (atoms_spec (ws := w) h _ (by rw [hw]; exact List.mem_cons_self))
    exact ⟨meth, c, h1, h2, h3, h4, h5, h6⟩
  · intro p e s m args below meth c s₁ B hml hP _
    have hh0 : s₁.heap = s.heap := by rw [B.state]; rfl
    obtain ⟨t, a1, x, b1, b2, b3⟩ := body p e s m args below meth c s₁ B hml hP s₁ hh0 (Stand.of_body B)
    exact ⟨t, .threw x, a1, b1, b2, x, rfl, b3⟩
theorem gt_r (hy : plainName y.cls = true) (hw : w = Cond.code y cc maxL ret :: w') (hav : (lg_sl av).length ≤ maxL)
    (body : ∀ (p : Program) (e : Env) (s : State) (m : MethodId) (args : Array Value) (below : List Frame) (meth : Method) (c : Code) (ls : Array Slot), p.tables.exec = Jvm.exec → c.code = cc → (∀ x ∈ w, x.before args s = true) → s.vm.findClass y.cls = some m.cls → meth.locks = false → c.maxLocals = maxL → (∀ pc, ∀ x ∈ c.exceptionTable.toList, covers x pc = false) → TE s → va_K D vwCl ty s → va_P D vwCl ws s.heap → lv_has ls maxL (lv_args 0 av) →
      W p l e rm s m args below meth c s.heap [] 0 0 (MT below E s) (F0 m 0 ls [])) :
    MetT l y w rm (va_Pc av (fun U => TE U ∧ rPre D ty ws U)) E := by
  refine MetT.ofW (cc := cc) (maxL := maxL) (ret := ret) hy hw ?_
  intro p e s m args below meth c s₁ B hml hv
  obtain ⟨rfl, hE, hP, hK⟩ := hv
  have hl := lv_entry av (n := maxL) hav
  have hts := atoms_spec (ws := w) B.pre
  have hno := B.noHandlers (hts _ (by rw [hw]; exact List.mem_cons_self))
  rw [lg_entry_eq]
  exact body p e s m _ below meth c _ B.exec B.bytes hts (findClass_of_methodNamed B.named) B.notSynchronized hml (fun pc x hx => by simp [Array.isEmpty_iff.mp hno] at hx) hE hK hP hl
theorem gt_p (hy : plainName y.cls = true) (hw : w = Cond.code y cc maxL ret :: w') (hav : (lg_sl av).length ≤ maxL)
    (body : ∀ (p : Program) (e : Env) (s : State) (m : MethodId) (args : Array Value) (below : List Frame) (meth : Method) (c : Code) (ls : Array Slot), p.tables.exec = Jvm.exec → c.code = cc → (∀ x ∈ w, x.before args s = true) → s.vm.findClass y.cls = some m.cls → meth.locks = false → c.maxLocals = maxL → (∀ pc, ∀ x ∈ c.exceptionTable.toList, covers x pc = false) → TE s → lv_has ls maxL (lv_args 0 av) →
      W p l e rm s m args below meth c s.heap [] 0 0 (MT below E s) (F0 m 0 ls [])) :
    MetT l y w rm (va_Pc av TE) E := by
  refine MetT.ofW (cc := cc) (maxL := maxL) (ret := ret) hy hw ?_
  intro p e s m args below meth c s₁ B hml hv
  obtain ⟨rfl, hE⟩ := hv
  have hl := lv_entry av (n := maxL) hav
  have hts := atoms_spec (ws := w) B.pre
  have hno := B.noHandlers (hts _ (by rw [hw]; exact List.mem_cons_self))
  rw [lg_entry_eq]
  exact body p e s m _ below meth c _ B.exec B.bytes hts (findClass_of_methodNamed B.named) B.notSynchronized hml (fun pc x hx => by simp [Array.isEmpty_iff.mp hno] at hx) hE hl
end T1
section T2
variable {p : Program} {l : Launch} {e : Env} {R : Room} {s : State} {m : MethodId} {args : Array Value} {below : List Frame} {meth : Method} {c : Code} {H : Heap} {locs : List Loc} {cells slots : Nat} {Q : State → Prop}
variable {cc : ByteArray} {pc nL : Nat} {ls : Array Slot} {rest : List Value}
/-- throw new E("..") -/
theorem w_thr (hfl : l.flags = flags0) (hx : p.tables.exec = Jvm.exec) (hb : c.code = cc) (hlk : meth.locks = false) (hml : c.maxLocals = nL) (hsz : ls.size = nL) (hno : ∀ pc, ∀ x ∈ c.exceptionTable.toList, covers x pc = false)
    {own cls : String} {ik ic kk q : Nat} {tx : String} (hown : s.vm.findClass own = some m.cls) (hcl : (Cond.classLink own ik cls).before args s = true) (hinst : (Cond.instantiable cls 6).before args s = true) (hini : (Cond.initialized cls).before args s = true)
    (hfit : Bundle.fit cls = true) (hat : ∀ a ∈ Bundle.ownAtoms own ic cls eNm, a.before args s = true) (hstr : vk_R own kk tx q s) (hR : 1 ≤ R.cells ∧ 6 ≤ R.slots ∧ 5 < R.frames ∧ 82 ≤ R.locals)
    (d0 : decode cc pc = .ok (.new ik, 3)) (d1 : decode cc (pc + 3) = .ok (.dup, 1)) (d2 : decode cc (pc + 3 + 1) = .ok (.ldc kk, 2)) (d3 : decode cc (pc + 3 + 1 + 2) = .ok (.invokespecial ic, 3)) (d4 : decode cc (pc + 3 + 1 + 2 + 3) = .ok (.athrow, 1)) :
    W p l e R s m args below meth c s.heap [] 0 0 (MT below cls s) (F0 m pc ls []) := by
  refine W.newc hx hb hown hcl hinst hini rfl d0 (by omega) (by omega) fun cC kC h1 h2 h3 h4 => ?_
  refine W.eq (g2 := F0 m (pc + 3) ls [.ref s.heap.size]) rfl ?_
  refine lv_dup hx hb d1 rfl ?_
  refine va_ldcS hx hb hown hstr d2 ?_
  intro T hT X
  have htr := Launch.traces_off hfl X.admits
  obtain ⟨U, st, hrun, hend, hW, hsame, ce, hce, hO⟩ := X.ctorThrowS (names := eNm) hx htr hown hfit (by decide +kernel) hat (fun x h => by cases h) h1 h2 (a := s.heap.size) (by rw [hT]; simp [freshCell]) (Nat.le_refl _) (msg := .ref q) rfl (g := F0 m (pc + 3 + 1 + 2) ls [.ref q, .ref s.heap.size, .ref s.heap.size]) rfl (by rw [hml]; exact hsz) rfl rfl (rest := []) rfl (by rw [hb]; exact d3) (by rw [hb]; exact d4) (hno _) (by show 2 + 3 < R.frames; omega) (by show 2 * 0 + 1 + (13 * 3 + 42) ≤ R.locals; omega)
  exact ⟨U, st, s.heap.size, hrun, hend, ⟨Nat.le_refl _, ce, hce, hO.vm, hO.cls⟩, hW, hsame⟩
/-- a call whose callee throws: back at the caller's frame, with the note -/
theorem t_inv {T : State} (X : Stand p l e R s m args below meth c T locs cells slots) {y : MethodName} {w w' : List Cond} {rm : Room} {Pc : Array Value → State → Prop} {E : String} {bytes : ByteArray} {maxL len : Nat} {ret : Option FieldType} {g : JFrame} {ig : Instr} {mk : MethodId} {a : Array Value}
    (hM : MetT l y w rm Pc E) (hg : g.method = m) (hsize : g.locals.size = c.maxLocals) (hdg : decode c.code g.pc = .ok (ig, len)) (hW : 2 * g.monitorRoom + (g.stack.map fun v => v.category).sum ≤ 8) (hn : T.methodNamed? y = some mk)
    (hw : w = Cond.code y bytes maxL ret :: w') (hR : rm.frames + 1 ≤ R.frames ∧ 8 + (maxL + 11) + rm.locals ≤ R.locals ∧ cells + rm.cells ≤ R.cells ∧ slots + rm.slots ≤ R.slots)
    (hws : ∀ x ∈ w, x.before a T = true) (hini : (Cond.initialized y.cls).before a T = true) (hP : Pc a (T.calling g mk a)) :
    ∃ (x : Addr) (T' : State), Stand p l e R s m args below meth c T' locs (cells + 1) (slots + 6) ∧ T.heap.size ≤ x ∧ T.heap.size ≤ T'.heap.size ∧ (∃ cell : Cell, T'.heap[x]? = some cell ∧ cell.vm = .none ∧ T.vm.findClass E = some cell.cls) ∧ (∀ q : Nat, q < T.heap.size → T'.heap[q]? = T.heap[q]?) ∧
      Steps p.tables e below (doInvoke e (T.setTop g) [] mk a).1 ((T'.setTop g).pushFrame (.throwing x)) := by
  have hcode : (Cond.code y bytes maxL ret).before a T = true := hws _ (by rw [hw]; exact List.mem_cons_self)
  obtain ⟨methY, cY, hmY, hcY, -, hlY, -⟩ := Cond.code_spec hn hcode
  obtain ⟨kY, hkY, -⟩ := className_of_methodNamed hn
  have hinitY : kY.init = .initialized := Cond.initialized_spec (findClass_of_methodNamed hn) hkY hini
  have h : At T g.method c below := by rw [hg]; exact X.here
  have happ : (headSpec w rm).appliesLoose y e.platform (T.calling g mk a) = true :=
    Spec.appliesLoose_calling (g := g) h hdg hn hkY hinitY
      (X.room_calling (g := g) (R' := rm) hsize hmY hcY hR.1 (by rw [hlY]; omega) hR.2.2.1 hR.2.2.2) (atoms_intro hws)
  obtain ⟨mid, hmid⟩ := h.above
  have hfr : (T.setTop g).frames = (.java g :: mid) ++ below := by rw [State.frames_setTop' g h.top, hmid]; rfl
  obtain ⟨o, s₂, hsteps, -, hend, x, rfl, ⟨hx1, cell, hx2, hx3, hx4⟩, hW2, hsame⟩ := Steps.callFree hM p X.admits X.cas X.clock (acts := []) hfr happ hP trivial
  rw [State.frames_setTop' g h.top, X.tail] at hend
  have hold := same_old hsame
  obtain ⟨T', X', hWT, hsT, ht⟩ := X.outOfThrown hg hend hW2 hsame
  have hh : T'.heap = s₂.heap := by rw [ht, Stand.throwing_heap]
  rw [List.append_nil] at X'
  refine ⟨x, T', X', hx1, ?_, ⟨cell, by rw [hh]; exact hx2, hx3, hx4⟩, fun q hq => by rw [hh]; exact hold q hq, by rw [← ht]; exact hsteps⟩
  rw [hh]
  exact hsame.2.1
end T2
