/-! Part 21: a throw passes through a caller without handlers; a throw is caught in a method with handlers, its catch types cold or warm -/
theorem te_blind {av : List Value} : FrameBlind (va_Pc av TE) := fun a U g mk q => ⟨q.1, TE.at (U := U.calling g mk a) q.2 (State.WarmedH.refl U) (fun _ _ => rfl)⟩
theorem ter_blind {av : List Value} {D : va_G} {ty : List (ClassId × FieldType)} {ws : va_W} : FrameBlind (va_Pc av (fun U => TE U ∧ rPre D ty ws U)) := fun a U g mk q =>
  ⟨q.1, TE.at (U := U.calling g mk a) q.2.1 (State.WarmedH.refl U) (fun _ _ => rfl), q.2.2.1, va_K.moved (u := U) (U := U.calling g mk a) (Vm.Alike.refl U.vm) q.2.2.2⟩
theorem te_preS {s : State} {As : List Value} (hE : TE s) : PreS s s.heap (va_Pc As TE) As := ⟨te_blind, fun U hU hW => ⟨rfl, hE.at hW (fun q _ => by rw [hU])⟩⟩
section T3
variable {p : Program} {l : Launch} {e : Env} {R : Room} {s : State} {m : MethodId} {args : Array Value} {below : List Frame} {meth : Method} {c : Code} {H : Heap} {locs : List Loc} {cells slots : Nat} {Q : State → Prop}
variable {cc : ByteArray} {pc nL : Nat} {ls : Array Slot} {rest st0 : List Value} {Ts : List Cond} {own C E : String} {y : MethodName} {bytes : ByteArray} {maxL n index : Nat} {ret : Option FieldType} {w w' : List Cond} {rm : Room} {Pc : Array Value → State → Prop} {As : List Value} {b : Addr}
theorem w_passS (S : CallFix p m c cc nL s args Ts own) (hM : MetT l y w rm Pc E) (hw : w = Cond.code y bytes maxL ret :: w') (cw : CallB R s args own index y bytes maxL ret w rm 1 6 n ∧ (Cond.static y).before args s = true) (hp : PreS s s.heap Pc As)
    (hn : As.length = n) (hsize : ls.size = nL) (hstack : st0 = As.reverse ++ rest) (hW : (rest.map fun v => v.category).sum ≤ 8) (hdg : decode cc pc = .ok (.invokestatic index, 3)) (hf : 1 ≤ R.cells ∧ 6 ≤ R.slots) (hlk : meth.locks = false) (hno : ∀ pc, ∀ x ∈ c.exceptionTable.toList, covers x pc = false) :
    W p l e R s m args below meth c s.heap [] 0 0 (MT below E s) (F0 m pc ls st0) := by
  obtain ⟨⟨hrc, hrs, hfr, hlo, hws, hcw, hcode, hini, hy, hlen, hl⟩, hstt⟩ := cw
  obtain ⟨hx, hb, hml, ho, -⟩ := S
  intro T hT X
  obtain ⟨mk, hnamed⟩ := Cond.code_named hcode
  obtain ⟨methM, cM, hmethM, -, -, -, -, -, -, hsigM⟩ := Cond.code_spec hnamed hcode
  have hstatic : methM.isStatic = true := Cond.static_spec hnamed hmethM hstt
  obtain ⟨kP, hkP, -⟩ := className_of_methodNamed hnamed
  have hinitP : kP.init = .initialized := Cond.initialized_spec (findClass_of_methodNamed hnamed) hkP hini
  obtain ⟨vm₁, X₁, hstep₁⟩ := X.invokestatic hx ho hl hnamed hmethM hstatic hkP hinitP hy (g := F0 m pc ls st0) rfl (argsL := As) (rest := rest) (hn.trans (hlen _ hsigM)) hstack (by rw [hb]; exact hdg)
  obtain ⟨x, T', X', hx1, hx2, ⟨cell, hc1, hc2, hc3⟩, hold, hst⟩ := t_inv X₁ hM (g := F0 m pc ls rest) (a := As.toArray) rfl (hsize.trans hml.symm) (by rw [hb]; exact hdg) (by show 2 * 0 + (rest.map fun v => v.category).sum ≤ 8; omega) (X₁.named hnamed) hw ⟨hfr, hlo, by omega, by omega⟩ (fun w h => hws w h _ _ X₁.warmed) (word_at X₁.warmed (Or.inl (by first | rfl | simp [Cond.onTables, Cond.keeps, Cond.steady])) hini) (hp.1 _ _ _ _ (hp.2 _ hT X₁.warmed))
  obtain ⟨hwalk, hrun, hend, hWm, hsame⟩ := X'.leaveThrown x (g := F0 m pc ls rest) rfl rfl rfl (hno _)
  have hsz : s.heap.size = T.heap.size := by rw [hT]
  refine ⟨_, hstep₁ _ fun acts => by rw [doInvoke_state]; exact hst.trans hwalk, x, hrun, hend, ⟨by rw [hsz]; exact hx1, cell, hc1, hc2, by rw [← X₁.warmed.alike.findClass]; exact hc3⟩, hWm, hsame⟩
/-- one row of the table whose catch type links to a class -/
theorem th_one {e : Env} {S : State} {f : JFrame} {a : Addr} {x : ExceptionTableEntry} {t : List ExceptionTableEntry} {cT : ClassId} {cell : Cell} {K : Handler → Pre} {N : CtlPost} {d : Bool} {acts : List Action} (hx : covers x f.pc = true) (h0 : x.catchType ≠ 0)
    (hl : S.vm.ClassLinks e.platform f.method.cls x.catchType cT) (hcell : S.heap[a]? = some cell) (hobj : ∀ k, cell.vm ≠ .statics k) (hk : ∃ k, S.vm.classes[cell.cls]? = some k) (hc : ∃ k, S.vm.classes[cT]? = some k) :
    wp (findHandler.go f a (x :: t)) K N e d acts S ↔ if S.vm.assignable cell.cls cT = true then K (.found x.handlerPc) d acts (S.setVm (S.vm.noted f.method.cls x.catchType (.cls cT))) else wp (findHandler.go f a t) K N e d acts (S.setVm (S.vm.noted f.method.cls x.catchType (.cls cT))) := by
  simp only [covers] at hx
  have hal : S.vm.Alike (S.vm.noted f.method.cls x.catchType (.cls cT)) := (Vm.Alike.refl S.vm).noted _ _ _
  obtain ⟨ha, ht⟩ := (resolveClass_links e.toSetting hl).op (op := VmOp.resolveClass f.method.cls x.catchType) rfl
  obtain ⟨k1, hk1⟩ := hk
  obtain ⟨k2, hk2⟩ := hc
  obtain ⟨k3, hk3, -⟩ := hal.2.2 _ _ hk1
  obtain ⟨k4, hk4, -⟩ := hal.2.2 _ _ hk2
  have hq : (S.vm.noted f.method.cls x.catchType (.cls cT)).assignable cell.cls cT = S.vm.assignable cell.cls cT := by rw [hal.assignable]
  cases hfit : S.vm.assignable cell.cls cT <;> rw [hfit] at hq <;>
    simp [findHandler.go, hx, h0, ha, ht, hcell, hobj, hk3, hk4, hq, VmOp.dirties, VmOp.acts]
/-- the rows of a table lead to the handler at hpc -/
def catches (own E : String) (pc hpc : Nat) (args : Array Value) (s : State) : List (Nat × Nat × Nat × Nat) → Prop
  | [] => False
  | (a, b, h, ct) :: t => (a ≤ pc ∧ pc < b ∧ ct ≠ 0) ∧ ((h = hpc ∧ (Cond.classLink own ct E).before args s = true) ∨ (∃ nm, (Cond.classLink own ct nm).before args s = true ∧ va_Nc E nm s ∧ catches own E pc hpc args s t))
theorem th_go {e : Env} {f : JFrame} {a : Addr} {cell : Cell} {hpc : Nat} (hpl : e.platform.magicAccessors = ({} : Platform).magicAccessors) (hown : s.vm.findClass own = some f.method.cls) (hvm : cell.vm = .none) (hE : s.vm.findClass E = some cell.cls) :
    ∀ (tab : List ExceptionTableEntry) (S : State), s.WarmedH S.vm → S.heap[a]? = some cell → catches own E f.pc hpc args s (tab.map (fun h => (h.startPc, h.endPc, h.handlerPc, h.catchType))) →
      ∃ vm', s.WarmedH vm' ∧ ∀ (K : Handler → Pre) (N : CtlPost) (d : Bool) (acts : List Action), wp (findHandler.go f a tab) K N e d acts S ↔ K (.found hpc) d acts (S.setVm vm') := by
  obtain ⟨k0, hk0⟩ := Vm.classAt_of_findClass hE
  intro tab
  induction tab with
  | nil => intro S _ _ h; exact h.elim
  | cons x t ih =>
    intro S hW hcell h
    obtain ⟨⟨h1, h2, h0⟩, h⟩ := h
    have hx : covers x f.pc = true := by simp [covers]; exact ⟨h1, h2⟩
    obtain ⟨k1, hk1, -⟩ := hW.alike.2.2 _ _ hk0
    have hobj : ∀ k, cell.vm ≠ .statics k := fun k h => by rw [hvm] at h; cases h
    have go : ∀ nm, (Cond.classLink own x.catchType nm).before args s = true → ∃ cT, s.vm.findClass nm = some cT ∧ S.vm.ClassLinks e.platform f.method.cls x.catchType cT ∧ s.WarmedH (S.vm.noted f.method.cls x.catchType (.cls cT)) ∧ ∃ k, S.vm.classes[cT]? = some k := by
      intro nm hlk
      obtain ⟨cT, hcT, hcl⟩ := Cond.classLink_spec hown hlk e.platform hpl
      obtain ⟨dk, _, _, kt, hd, _, _, _, _, hkt, _, hopen⟩ := hcl.here
      obtain ⟨kt', hkt', -⟩ := hW.alike.2.2 _ _ hkt
      exact ⟨cT, hcT, hW.classLinks hcl, hW.noted hd hopen (State.rightAt_cls hcl), kt', hkt'⟩
    rcases h with ⟨rfl, hlk⟩ | ⟨nm, hlk, ⟨c1, c2, hc1, hc2, hno⟩, hrest⟩
    · obtain ⟨cT, hcT, hcl, hW', hkT⟩ := go E hlk
      cases hE.symm.trans hcT
      refine ⟨_, hW', fun K N d acts => ?_⟩
      rw [th_one hx h0 hcl hcell hobj ⟨k1, hk1⟩ hkT, if_pos (va_asg _ _)]
    · obtain ⟨cT, hcT, hcl, hW', hkT⟩ := go nm hlk
      cases hE.symm.trans hc1
      cases hcT.symm.trans hc2
      obtain ⟨vm', hV, hq⟩ := ih (S.setVm (S.vm.noted f.method.cls x.catchType (.cls _))) hW' hcell hrest
      refine ⟨vm', hV, fun K N d acts => ?_⟩
      rw [th_one hx h0 hcl hcell hobj ⟨k1, hk1⟩ hkT, if_neg (by rw [hW.alike.assignable, hno]; decide)]
      exact hq K N d acts
theorem th_step {e : Env} {S : State} {a : Addr} {f : JFrame} {r : List Frame} {hpc : Nat} {vm' : Vm} (hfind : ∀ (K : Handler → Pre) (N : CtlPost) (d : Bool) (acts : List Action), wp (findHandler f a) K N e d acts S ↔ K (.found hpc) d acts (S.setVm vm')) :
    (stepThrowing e S a (.java f :: r)).Is ((S.setVm vm').setFrames (.java { f with pc := hpc, stack := [.ref a] } :: r)) [] := by
  simp only [stepThrowing, searchFrame, vmDo]
  generalize hr : Sem.go _ e false [] S = res
  obtain ⟨as, rfl, ha⟩ := Sem.eq_ok_of hr (a := Handler.found hpc) (s' := S.setVm vm') (acts' := []) (by simp [hfind _ _ _ _])
  exact ⟨rfl, ha⟩
theorem th_caught {T : State} (X : Stand p l e R s m args below meth c T locs cells slots) {g : JFrame} (hg : g.method = m) {a : Addr} {cell : Cell} {hpc : Nat} {hh : List (Nat × Nat × Nat × Nat)} (hown : s.vm.findClass own = some m.cls) (hvm : cell.vm = .none) (hE : s.vm.findClass E = some cell.cls) (hcell : T.heap[a]? = some cell)
    (htab : c.exceptionTable.toList.map (fun h => (h.startPc, h.endPc, h.handlerPc, h.catchType)) = hh) (hcat : catches own E g.pc hpc args s hh) :
    ∃ vm', Stand p l e R s m args below meth c (T.setVm vm') locs cells slots ∧ ∀ target, Steps p.tables e below ((T.setVm vm').setTop { g with pc := hpc, stack := [.ref a] }) target → Steps p.tables e below ((T.setTop g).pushFrame (.throwing a)) target := by
  have hpl : e.platform.magicAccessors = ({} : Platform).magicAccessors := by rw [X.admits.platform]
  subst hg
  obtain ⟨vm', hW', hq⟩ := th_go (e := e) (f := g) (a := a) (hpc := hpc) hpl hown hvm hE c.exceptionTable.toList ((T.setTop g).pushFrame (.throwing a)) (by rw [Stand.throwing_vm]; exact X.warmed) (by rw [Stand.throwing_heap]; exact hcell) (by rw [htab]; exact hcat)
  refine ⟨vm', X.noted hW', fun target hrest => ?_⟩
  have h := X.here
  obtain ⟨hgo, hw⟩ := h.throwing a
  refine Steps.head hgo hw ?_
  rw [stepThread_throwing (frames_entered h.top _), (th_step (S := (T.setTop g).pushFrame (.throwing a)) (f := g) (hpc := hpc) (vm' := vm') (fun K N d acts => by rw [W.findHandler_eq (s := (T.setTop g).pushFrame (.throwing a)) (f := g) (meth := meth) (code := c) X.method' X.code]; exact hq K N d acts)).1]
  obtain ⟨g₀, hg0⟩ := Option.isSome_iff_exists.mp h.top
  obtain ⟨r, hr⟩ := State.topJava?_eq_some.mp hg0
  have hr' : (T.setVm vm').frames = .java g₀ :: r := hr
  have he : ∀ (u : State) (F G : List Frame), ((u.setFrames F).setVm vm').setFrames G = (u.setVm vm').setFrames G := fun u F G => by
    rw [show (u.setFrames F).setVm vm' = (u.setVm vm').setFrames F from rfl, State.setFrames_setFrames]
  rw [State.setTop_of_frames _ hr'] at hrest
  rw [hr, List.tail_cons, State.pushFrame, he, State.setTop_of_frames _ hr, he]
  exact hrest
theorem w_catchV (S : CallFix p m c cc nL s args Ts own) (hM : MetT l y w rm Pc E) (hw : w = Cond.code y bytes maxL ret :: w') (cw : CallW R s args own C index y bytes maxL ret w rm 1 6 n) (hp : PreV s H C b Pc As)
    (hn : As.length = n) (hsize : ls.size = nL) (hstack : st0 = As.reverse ++ .ref b :: rest) (hW : (rest.map fun v => v.category).sum ≤ 8) (hdg : decode cc pc = .ok (.invokevirtual index, 3)) (hf : cells + 1 ≤ R.cells ∧ slots + 6 ≤ R.slots)
    {hpc : Nat} {hh : List (Nat × Nat × Nat × Nat)} (htab : c.exceptionTable.toList.map (fun h => (h.startPc, h.endPc, h.handlerPc, h.catchType)) = hh) (hcat : catches own E pc hpc args s hh)
    (kk : ∀ (x : Nat) (H1 : Heap), (∀ q : Nat, q < H.size → H1[q]? = H[q]?) → H.size ≤ H1.size → W p l e R s m args below meth c H1 locs (cells + 1) (slots + 6) Q (F0 m hpc ls [.ref x])) :
    W p l e R s m args below meth c H locs cells slots Q (F0 m pc ls st0) := by
  obtain ⟨⟨hrc, hrs, hfr, hlo, hws, hcw, hcode, hini, hy, hlen, hl⟩, hinst, hsel⟩ := cw
  obtain ⟨hx, hb, hml, ho, -⟩ := S
  obtain ⟨hbl, ⟨cellB, hcB, hoB, hclB⟩, hPc⟩ := hp
  intro T hT X
  obtain ⟨mk, methM, hnamed, hmethM, hstM, habM⟩ := Cond.instanceMethod_spec hinst
  obtain ⟨methM', cM, hmethM', -, -, -, -, -, -, hsigM⟩ := Cond.code_spec hnamed hcode
  cases hmethM.symm.trans hmethM'
  obtain ⟨c2, r2, m2, q1, q2, q3, q4, kP, hkP, hkPi⟩ := Cond.selects_spec hsel
  cases hclB.symm.trans q1
  cases (State.methodFound?_of_named hnamed hy).symm.trans q2
  cases hnamed.symm.trans q3
  have hselP : selectMethod e.platform s.vm cellB.cls mk = .method mk := by rw [Launch.admits_selectMethod X.admits]; exact q4
  obtain ⟨vm₁, X₁, hstep₁⟩ := X.invokevirtual hx ho hl hnamed hmethM hstM hkP hkPi hy (a := b) (cell := cellB) (by rw [hT]; exact hcB)
    (fun z h => by rw [h] at hoB; cases hoB) hselP hmethM habM hkP hkPi (g := F0 m pc ls st0) rfl (argsL := As) (rest := rest) (hn.trans (hlen _ hsigM)) hstack (by rw [hb]; exact hdg)
  obtain ⟨x, T', X', hx1, hx2, ⟨cell, hc1, hc2, hc3⟩, hold, hst⟩ := t_inv X₁ hM (g := F0 m pc ls rest) (a := (Value.ref b :: As).toArray) rfl (hsize.trans hml.symm) (by rw [hb]; exact hdg) (by show 2 * 0 + (rest.map fun v => v.category).sum ≤ 8; omega) (X₁.named hnamed) hw ⟨hfr, hlo, by omega, by omega⟩ (fun w h => hws w h _ _ X₁.warmed) (word_at X₁.warmed (Or.inl (by first | rfl | simp [Cond.onTables, Cond.keeps, Cond.steady])) hini) (hbl _ _ _ _ (hPc _ hT X₁.warmed))
  obtain ⟨vm', X'', st⟩ := th_caught X' (g := F0 m pc ls rest) rfl ho hc2 (by rw [← X₁.warmed.alike.findClass]; exact hc3) hc1 htab hcat
  obtain ⟨t, a1, b1⟩ := kk x T'.heap (fun q hq => by rw [hold q (by show q < T.heap.size; rw [hT]; exact hq)]; show T.heap[q]? = _; rw [hT]) (by rw [← hT]; exact hx2) (T'.setVm vm') rfl X''
  exact ⟨t, hstep₁ _ fun acts => by rw [doInvoke_state]; exact hst.trans (st t a1), b1⟩
end T3
