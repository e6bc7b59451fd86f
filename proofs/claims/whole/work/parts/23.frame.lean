/-! Part 23: worlds side by side; methods with handlers: entry, static call -/
theorem p_iff {D : va_G} {cl : List vw_C} {ws : va_W} {H : Heap} : va_P D cl ws H ↔ ∀ q ∈ ws, va_at D cl q H :=
  ⟨fun h q hq => by obtain ⟨i, hi⟩ := List.getElem?_of_mem hq; exact h i q hi, fun h k q hk => h q (List.mem_of_getElem? hk)⟩
theorem d_iff {A : Nat → Prop} {ws : va_W} : va_D A ws ↔ (ws.map (fun q => q.1)).Nodup ∧ ∀ q ∈ ws, A q.1 := by
  constructor
  · intro h
    refine ⟨?_, fun q hq => by obtain ⟨i, hi⟩ := List.getElem?_of_mem hq; exact h.2 i q hi⟩
    refine List.pairwise_iff_getElem.mpr (fun i j hi hj hij e => ?_)
    rw [List.length_map] at hi hj
    rw [List.getElem_map, List.getElem_map] at e
    have := h.1 i j ws[i] ws[j] (List.getElem?_eq_getElem hi) (List.getElem?_eq_getElem hj) e
    omega
  · intro h
    refine ⟨fun i j p q hi hj e => ?_, fun k q hk => h.2 q (List.mem_of_getElem? hk)⟩
    have hp := List.pairwise_iff_getElem.mp h.1
    obtain ⟨hi1, hi2⟩ := List.getElem?_eq_some_iff.mp hi
    obtain ⟨hj1, hj2⟩ := List.getElem?_eq_some_iff.mp hj
    rcases Nat.lt_trichotomy i j with h1 | h1 | h1
    · exact absurd (by rw [List.getElem_map, List.getElem_map, hi2, hj2]; exact e) (hp i j (by rw [List.length_map]; exact hi1) (by rw [List.length_map]; exact hj1) h1)
    · exact h1
    · exact absurd (by rw [List.getElem_map, List.getElem_map, hi2, hj2]; exact e.symm) (hp j i (by rw [List.length_map]; exact hj1) (by rw [List.length_map]; exact hi1) h1)
section FR
variable {D : va_G} {A : Nat → Prop} {H0 H H1 : Heap} {w1 w2 w3 ws ws' : va_W} {locs locs1 : List Loc}
theorem wf_perm (hp : List.Perm ws ws') (h : wf D A H0 ws H locs) : wf D A H0 ws' H locs := by
  refine ⟨p_iff.mpr (fun q hq => p_iff.mp h.1 q (hp.mem_iff.mpr hq)), d_iff.mpr ⟨(hp.map _).nodup_iff.mp (d_iff.mp h.2.1).1, fun q hq => (d_iff.mp h.2.1).2 q (hp.mem_iff.mpr hq)⟩, h.2.2⟩
theorem wfl (h : wf D A H0 (w1 ++ w2) H locs) : wf D A H0 w1 H locs :=
  ⟨p_iff.mpr (fun q hq => p_iff.mp h.1 q (List.mem_append_left _ hq)), d_iff.mpr ⟨by have := (d_iff.mp h.2.1).1; rw [List.map_append] at this; exact (List.nodup_append.mp this).1, fun q hq => (d_iff.mp h.2.1).2 q (List.mem_append_left _ hq)⟩, h.2.2⟩
theorem wf_grow (h : wf D A H0 ws H locs) (hq : ∀ q : Nat, q < H.size → H1[q]? = H[q]?) (hs : H.size ≤ H1.size) : wf D A H0 ws H1 locs :=
  ⟨h.1.kept (fun k q hk => hq q.1 (h.1 k q hk).lt), h.2.1, Nat.le_trans h.2.2.1 hs, fun q h1 h2 => (hq q (Nat.lt_of_lt_of_le h1 h.2.2.1)).trans (h.2.2.2.1 q h1 h2), h.2.2.2.2⟩
theorem wf_frame (h : wf D A H0 (w1 ++ w2) H locs) (hA : ∀ q, H0.size ≤ q → A q) (hP : va_P D vwCl w3 H1) (hD : va_D (va_A w1 H.size) w3) (hk : ∀ q : Nat, q < H.size → ¬ va_A w1 H.size q → H1[q]? = H[q]?) (hS : va_S A H0 H1 locs1) : wf D A H0 (w3 ++ w2) H1 locs1 := by
  obtain ⟨hd1, hd2⟩ := d_iff.mp h.2.1
  obtain ⟨he1, he2⟩ := d_iff.mp hD
  rw [List.map_append] at hd1
  obtain ⟨n1, n2, n3⟩ := List.nodup_append.mp hd1
  have hin : ∀ q, va_A w1 H.size q → A q := by
    intro q hq
    rcases hq with ⟨j, x, hj⟩ | hq
    · exact hd2 (q, x) (List.mem_append_left _ (List.mem_of_getElem? hj))
    · exact hA q (Nat.le_trans h.2.2.1 hq)
  have apart : ∀ q ∈ w2, q.1 < H.size ∧ ¬ va_A w1 H.size q.1 := by
    intro q hq
    have hlt := (p_iff.mp h.1 q (List.mem_append_right _ hq)).lt
    refine ⟨hlt, fun hz => ?_⟩
    rcases hz with ⟨j, x, hj⟩ | hz
    · exact n3 q.1 (List.mem_map.mpr ⟨(q.1, x), List.mem_of_getElem? hj, rfl⟩) q.1 (List.mem_map.mpr ⟨q, hq, rfl⟩) rfl
    · omega
  refine ⟨p_iff.mpr (fun q hq => ?_), d_iff.mpr ⟨?_, fun q hq => ?_⟩, hS⟩
  · rcases List.mem_append.mp hq with hq | hq
    · exact p_iff.mp hP q hq
    · exact (p_iff.mp h.1 q (List.mem_append_right _ hq)).kept (hk q.1 (apart q hq).1 (apart q hq).2)
  · rw [List.map_append]
    refine List.nodup_append.mpr ⟨he1, n2, fun a ha b hb hab => ?_⟩
    obtain ⟨q, hq, rfl⟩ := List.mem_map.mp ha
    obtain ⟨r, hr, rfl⟩ := List.mem_map.mp hb
    exact (apart r hr).2 (by rw [← hab]; exact he2 q hq)
  · rcases List.mem_append.mp hq with hq | hq
    · exact hin q.1 (he2 q hq)
    · exact hd2 q (List.mem_append_right _ hq)
end FR
section FC
variable {p : Program} {l : Launch} {e : Env} {R : Room} {s : State} {m : MethodId} {args : Array Value} {below : List Frame} {meth : Method} {c : Code} {H : Heap} {locs : List Loc} {cells slots : Nat} {Q : State → Prop}
variable {cc : ByteArray} {pc mc ms : Nat} {ls : Array Slot} {rest st0 : List Value} {D : va_G} {A : Nat → Prop} {ty : List (ClassId × FieldType)} {w1 w2 ws : va_W} {av : Array Value}
theorem f_inA (hw : wf D A s.heap (w1 ++ w2) H locs) (hA : ∀ q, s.heap.size ≤ q → A q) : ∀ q, va_A w1 H.size q → A q := g_inA (wfl hw) hA
theorem gF_v {σ : Type} {Wf : σ → va_W} {post : σ → Prop} (hw : wf D A s.heap (w1 ++ w2) H locs) (hA : ∀ q, s.heap.size ≤ q → A q) (hr : va_Run p l e R s m args below meth c H locs cells slots mc ms (F0 m pc ls st0) rest (va_Qv post (gB D ty Wf (va_A w1 H.size)) (va_A w1 H.size) av) (va_A w1 H.size))
    (kk : ∀ (u : σ) (H1 : Heap) (locs1 : List Loc), wf D A s.heap (Wf u ++ w2) H1 locs1 → post u → W p l e R s m args below meth c H1 locs1 (cells + mc) (slots + ms) Q (F0 m (pc + 3) ls rest)) : W p l e R s m args below meth c H locs cells slots Q (F0 m pc ls st0) :=
  va_callv hr hw.2.2 (fun q _ h => f_inA hw hA q h) (f_inA hw hA) (fun u t H1 locs1 ht _ hp hB _ hk hS => kk u H1 locs1 (wf_frame hw hA (by rw [← ht]; exact hB.1) hB.2.2 hk hS) hp)
theorem gF_i {σ : Type} {Wf : σ → va_W} {post : Int32 → σ → Prop} (hw : wf D A s.heap (w1 ++ w2) H locs) (hA : ∀ q, s.heap.size ≤ q → A q) (hr : va_Run p l e R s m args below meth c H locs cells slots mc ms (F0 m pc ls st0) rest (va_Qi post (gB D ty Wf (va_A w1 H.size)) (va_A w1 H.size) av) (va_A w1 H.size))
    (kk : ∀ (r : Int32) (u : σ) (H1 : Heap) (locs1 : List Loc), wf D A s.heap (Wf u ++ w2) H1 locs1 → post r u → W p l e R s m args below meth c H1 locs1 (cells + mc) (slots + ms) Q (F0 m (pc + 3) ls (.int r :: rest))) : W p l e R s m args below meth c H locs cells slots Q (F0 m pc ls st0) :=
  va_calli hr hw.2.2 (fun q _ h => f_inA hw hA q h) (f_inA hw hA) (fun r u t H1 locs1 ht _ hp hB _ hk hS => kk r u H1 locs1 (wf_frame hw hA (by rw [← ht]; exact hB.1) hB.2.2 hk hS) hp)
theorem ter_preV {b : Nat} {As : List Value} {q0 ci : Nat} {q : vw_C} {fs : List Value} (hE : TE s) (hK : va_K D vwCl ty s) (hP : va_P D vwCl ws s.heap) (hc : vwCl[ci]? = some q) (he : ws[q0]? = some (b, .inr (ci, fs))) : PreV s s.heap q.1 b (va_Pc (.ref b :: As) (fun U => TE U ∧ rPre D ty ws U)) As :=
  ⟨ter_blind, va_recv hK hP hc he, fun U hU hW => ⟨rfl, hE.at hW (fun q _ => by rw [hU]), by rw [hU]; exact hP, va_K.moved hW.alike hK⟩⟩
/-- a static method with handlers is called -/
theorem va_runSW {own : String} {index maxL nL n : Nat} {y : MethodName} {bytes : ByteArray} {ret : Option FieldType} {hh : List (Nat × Nat × Nat × Nat)} {w w' Ts : List Cond} {rm : Room} {Pc : Array Value → State → Prop} {Qc : Array Value → State → Outcome → State → Prop} {free : Addr → Prop} {As : List Value} {g : JFrame}
    (S : CallFix p m c cc nL s args Ts own) (hM : Met l y w rm Pc Qc mc ms free) (hw : w = Cond.codeWith y bytes maxL ret hh :: w') (hws : GoodIn Ts w) (hl : (Cond.methodLink own index y).before args s = true) (hstt : (Cond.static y).before args s = true) (hini : (Cond.initialized y.cls).before args s = true)
    (hy : y.cls ≠ "java/lang/invoke/MethodHandle" ∧ y.cls ≠ "java/lang/invoke/VarHandle" ∧ (parseMethodDescriptor y.desc).map (fun d => d.parameters.length) = some n) (hR : rm.cells = mc ∧ rm.slots = ms ∧ rm.frames + 1 ≤ R.frames ∧ 8 + (maxL + 11) + rm.locals ≤ R.locals) (hp : PreS s H Pc As)
    (hg : g.method = m) (hn : As.length = n) (hsize : g.locals.size = nL) (hstack : g.stack = As.reverse ++ rest) (hW : 2 * g.monitorRoom + (rest.map fun v => v.category).sum ≤ 8) (hdg : decode cc g.pc = .ok (.invokestatic index, 3)) (hf : cells + mc ≤ R.cells ∧ slots + ms ≤ R.slots) :
    va_Run p l e R s m args below meth c H locs cells slots mc ms g rest (Qc As.toArray) free := by
  obtain ⟨hx, hb, hml, ho, hts⟩ := S
  have hcw : Cond.codeWith y bytes maxL ret hh ∈ w := by rw [hw]; exact List.mem_cons_self
  have hcode : (Cond.codeWith y bytes maxL ret hh).before args s = true := hts _ (hws _ hcw).1
  have hK : Back l R p e below s args y 3 8 (PreOf R mc ms Pc) (PostOf Qc mc ms free) := va_backW (hh := hh) (bytes := bytes) (maxL := maxL) (ret := ret) hM hp.1 hR.1 hR.2.1 hR.2.2.1 hR.2.2.2 (pay_in hts hws) hcw (fun a' U hW => word_at hW (Or.inl (by first | rfl | simp [Cond.onTables, Cond.keeps, Cond.steady])) hini)
  obtain ⟨mk, methM, cM, hnamed, hmethM, -, -, -, -, -, -, hsigM⟩ := Cond.codeWith_spec hcode
  have hstatic : methM.isStatic = true := Cond.static_spec hnamed hmethM hstt
  obtain ⟨kP, hkP, -⟩ := className_of_methodNamed hnamed
  have hinitP : kP.init = .initialized := Cond.initialized_spec (findClass_of_methodNamed hnamed) hkP hini
  have hlen : As.length = methM.sig.parameters.length := by
    have h2 := hy.2.2
    rw [hsigM] at h2
    rw [hn]; exact (Option.some.inj h2).symm
  intro T hT X
  obtain ⟨vm₁, X₁, hstep₁⟩ := X.invokestatic hx ho hl hnamed hmethM hstatic hkP hinitP ⟨hy.1, hy.2.1⟩ (g := g) hg (argsL := As) (rest := rest) hlen hstack (by rw [hb]; exact hdg)
  obtain ⟨v, ⟨U', l2, c2, s2⟩, X', ⟨g', mk', t, L, e1, e2, hq, h1, hL, h2, h3⟩, hsteps⟩ := hK m meth c ⟨T.setVm vm₁, locs, cells, slots⟩ { g with stack := rest } (.invokestatic index) mk As.toArray X₁ hg (hsize.trans hml.symm) (by rw [hb]; exact hdg) hW (X₁.named hnamed) ⟨hf.1, hf.2, hp.2 (T.setVm vm₁) hT X₁.warmed⟩
  dsimp only [Pt.U, Pt.locs, Pt.cells, Pt.slots] at X' e1 e2 h1 h2 h3 hsteps
  subst h1; subst h2; subst h3
  exact ⟨v, (T.setVm vm₁).calling g' mk' As.toArray, t, U', L, hT, X', hL, e1, e2, hq, fun target h => hstep₁ _ fun acts => by rw [doInvoke_state]; exact hsteps.trans h⟩
end FC
section FM
variable {l : Launch} {y : MethodName} {w w' : List Cond} {rm : Room} {cc : ByteArray} {maxL : Nat} {ret : Option FieldType} {hh : List (Nat × Nat × Nat × Nat)} {D : va_G} {ty : List (ClassId × FieldType)} {ws : va_W} {av : List Value}
def hPre (D : va_G) (ty : List (ClassId × FieldType)) (ws : va_W) (sz : Nat) (U : State) : Prop := TE U ∧ gPre D ty ws sz U
theorem h_blind {sz : Nat} : FrameBlind (va_Pc av (hPre D ty ws sz)) := fun a U g mk q => ⟨q.1, TE.at (U := U.calling g mk a) q.2.1 (State.WarmedH.refl U) (fun _ _ => rfl), (g_blind a U g mk ⟨q.1, q.2.2⟩).2⟩
theorem gm_h {QF : (Nat → Prop) → Array Value → State → Outcome → State → Prop} {mc ms sz : Nat} (hy : plainName y.cls = true) (hw : w = Cond.codeWith y cc maxL ret hh :: w') (hav : (lg_sl av).length ≤ maxL)
    (body : ∀ (p : Program) (e : Env) (s : State) (m : MethodId) (args : Array Value) (below : List Frame) (meth : Method) (c : Code) (A : Nat → Prop) (ls : Array Slot), p.tables.exec = Jvm.exec → c.code = cc → meth.sig.returnType = ret → (∀ x ∈ w, x.before args s = true) → s.vm.findClass y.cls = some m.cls → meth.locks = false → c.maxLocals = maxL → c.exceptionTable.toList.map (fun h => (h.startPc, h.endPc, h.handlerPc, h.catchType)) = hh → TE s → va_K D vwCl ty s → (∀ q, s.heap.size ≤ q → A q) → wf D A s.heap ws s.heap [] → lv_has ls maxL (lv_args 0 av) →
      W p l e rm s m args below meth c s.heap [] 0 0 (MQ below (QF A) args s mc ms A) (F0 m 0 ls [])) :
    Met l y w rm (va_Pc av (hPre D ty ws sz)) (QF (va_A ws sz)) mc ms (va_A ws sz) := by
  refine va_MetW (cc := cc) (maxL := maxL) (ret := ret) (hh := hh) hy hw ?_
  intro p e s m args below meth c s₁ B hml hv
  obtain ⟨rfl, hE, hsz, hP, hK, hD0⟩ := hv
  subst hsz
  have hl := lv_entry av (n := maxL) hav
  have hts := atoms_spec (ws := w) B.pre
  obtain ⟨m9, meth9, c9, hn9, hm9, hc9, -, -, htab, -⟩ := Cond.codeWith_spec (hts (Cond.codeWith y cc maxL ret hh) (by rw [hw]; exact List.mem_cons_self))
  cases B.named.symm.trans hn9
  cases B.method.symm.trans hm9
  cases (Stand.of_body B).code.symm.trans hc9
  rw [lg_entry_eq]
  exact body p e s m _ below meth c (va_A ws s.heap.size) _ B.exec B.bytes B.returns hts (findClass_of_methodNamed B.named) B.notSynchronized hml htab hE hK (fun q h => Or.inr h) ⟨hP, hD0.self, va_S.rf⟩ hl
end FM
