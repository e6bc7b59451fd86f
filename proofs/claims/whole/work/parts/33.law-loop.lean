/-! THE CLAIM OUT OF ONE WALK OF THE LAW'S BODY. Your part is whole_start (and what it stands on); all else here is the same for every law, but numbers. -/
def R_law : String := "GhostKeysLaw"
def lw_P (b : Addr) (xs : List Int32) (args : Array Value) (s : State) : Prop := args = #[.ref b] ∧ s.IntsAt b xs ∧ xs.length ≤ 3072 ∧ (Jvm.Cond.and given_1 narrow_1).before args s = true
def lw_Q (_ : Array Value) (s : State) (o : Outcome) (t : State) : Prop := o = .returned (some (.int 1)) ∧ Framed s o t [] 1085 9889
def lw_Z (below : List Frame) (a : Array Value) (s : State) : State → Prop := fun t => ∃ o, t.status = .running ∧ Ended t below o ∧ lw_Q a s o t
/-- the law's own end, with 1 on the stack, nothing written that was there before, its room as the claim has it -/
theorem lw_ret {p : Program} {l : Launch} {e : Env} {s : State} {m : MethodId} {below : List Frame} {meth : Method} {c : Code} {b : Nat} (hx : p.tables.exec = Jvm.exec) (hb : c.code = code) (hr : meth.sig.returnType = ret) (hlocks : meth.locks = false) {pc : Nat} {H : Heap} {ls : Array Slot} (hdg : decode code pc = .ok (.ireturn, 1)) : W p l e room_1 s m #[Value.ref b] below meth c H [] 1085 9889 (lw_Z below #[Value.ref b] s) (F0 m pc ls [.int 1]) := by
  intro T hT X
  obtain ⟨fs, hret, hrun, hended, hW, hframe⟩ := X.leave (v := some (.int 1)) (hlocks := hlocks) (fun h => by rw [hr] at h; cases h)
  have hmeth' : T.vm.method? m = some meth := X.method'
  refine ⟨T.setFrames fs, ?_, .returned (some (.int 1)), hrun, hended, rfl, ⟨_, rfl⟩, hW, hframe⟩
  jvm_step X.here [X.here.top, hx, hb, hdg, hmeth', hr, ret, narrow_b1]
  (try refine ⟨rfl, ?_⟩); (try refine ⟨rfl, ?_⟩)
  first | (intro acts; rw [hret _ acts rfl rfl rfl]) | rw [hret _ _ rfl rfl rfl]
  exact Steps.refl _
/-- what holds at the law's entry: the machine, the code, the tables' words (any of lw_tbl by 'hts w (by decide +kernel)'), the script of L ints xs at the cell b, what the Statement gives of the start (any of its parts by flat_of_before) -/
def lw_At (p : Program) (s : State) (m : MethodId) (meth : Method) (c : Code) (b L : Nat) (xs : Nat → Int32) : Prop :=
  p.tables.exec = Jvm.exec ∧ c.code = code ∧ meth.sig.returnType = ret ∧ c.maxLocals = 7 ∧ s.vm.findClass R_law = some m.cls ∧ (∀ w ∈ lw_tbl, w.before #[Value.ref b] s = true) ∧ va_X b L xs s s.heap ∧ b < s.heap.size ∧ meth.locks = false ∧ (Jvm.Cond.and given_1 narrow_1).before #[Value.ref b] s = true
def LSw (xs : Nat → Int32) (k : Nat) (K : GS → GS → (Nat → Int64) → Prop) (S M : GS) (o : Nat → Int64) : Prop := (((xs (6 * k) &&& (15 : Int32)) = (0 : Int32) → LC_0 xs k K S M o) ∧ (¬ (xs (6 * k) &&& (15 : Int32)) = (0 : Int32) → (((xs (6 * k) &&& (15 : Int32)) = (1 : Int32) → LC_1 xs k K S M o) ∧ (¬ (xs (6 * k) &&& (15 : Int32)) = (1 : Int32) → (((xs (6 * k) &&& (15 : Int32)) = (2 : Int32) → LC_2 xs k K S M o) ∧ (¬ (xs (6 * k) &&& (15 : Int32)) = (2 : Int32) → (((xs (6 * k) &&& (15 : Int32)) = (3 : Int32) → LC_3 xs k K S M o) ∧ (¬ (xs (6 * k) &&& (15 : Int32)) = (3 : Int32) → (((xs (6 * k) &&& (15 : Int32)) = (4 : Int32) → LC_4 xs k K S M o) ∧ (¬ (xs (6 * k) &&& (15 : Int32)) = (4 : Int32) → (((xs (6 * k) &&& (15 : Int32)) = (5 : Int32) → LC_5 xs k K S M o) ∧ (¬ (xs (6 * k) &&& (15 : Int32)) = (5 : Int32) → (((xs (6 * k) &&& (15 : Int32)) = (6 : Int32) → LC_6 xs k K S M o) ∧ (¬ (xs (6 * k) &&& (15 : Int32)) = (6 : Int32) → (((xs (6 * k) &&& (15 : Int32)) = (7 : Int32) → LC_7 xs k K S M o) ∧ (¬ (xs (6 * k) &&& (15 : Int32)) = (7 : Int32) → (((xs (6 * k) &&& (15 : Int32)) = (8 : Int32) → LC_8 xs k K S M o) ∧ (¬ (xs (6 * k) &&& (15 : Int32)) = (8 : Int32) → (((xs (6 * k) &&& (15 : Int32)) = (9 : Int32) → LC_9 xs k K S M o) ∧ (¬ (xs (6 * k) &&& (15 : Int32)) = (9 : Int32) → (((xs (6 * k) &&& (15 : Int32)) = (10 : Int32) → LC_10 xs k K S M o) ∧ (¬ (xs (6 * k) &&& (15 : Int32)) = (10 : Int32) → (((xs (6 * k) &&& (15 : Int32)) = (11 : Int32) → LC_11 xs k K S M o) ∧ (¬ (xs (6 * k) &&& (15 : Int32)) = (11 : Int32) → (((xs (6 * k) &&& (15 : Int32)) = (12 : Int32) → LC_12 xs k K S M o) ∧ (¬ (xs (6 * k) &&& (15 : Int32)) = (12 : Int32) → (((xs (6 * k) &&& (15 : Int32)) = (13 : Int32) → LC_13 xs k K S M o) ∧ (¬ (xs (6 * k) &&& (15 : Int32)) = (13 : Int32) → (((xs (6 * k) &&& (15 : Int32)) = (14 : Int32) → LC_14 xs k K S M o) ∧ (¬ (xs (6 * k) &&& (15 : Int32)) = (14 : Int32) → (((xs (6 * k) &&& (15 : Int32)) = (15 : Int32) → LC_15 xs k K S M o) ∧ (¬ (xs (6 * k) &&& (15 : Int32)) = (15 : Int32) → K S M o))))))))))))))))))))))))))))))))
/-- the law's loop, as a walk over the two states: what is to be shown of every script -/
def LW (xs : Nat → Int32) (L : Nat) : Nat → Nat → GS → GS → (Nat → Int64) → Prop
  | 0, _, _, _, _ => False
  | n + 1, k, S, M, o => 6 * k + 6 ≤ L → LSw xs k (fun S M o => LW xs L n (k + 1) S M o) S M o
set_option maxHeartbeats 4000000 in
set_option maxRecDepth 100000 in
theorem law_loop {p : Program} {l : Launch} {e : Env} {s : State} {m : MethodId} {below : List Frame} {meth : Method} {c : Code} {b L : Nat} {xs : Nat → Int32} {D : va_G} {cI cZ cJ : ClassId} {A : Nat → Prop} {a bm : Nat → Nat} {ao : Nat} (C : LawCtx p l s m meth c b L xs D cI cZ cJ A) (hr : meth.sig.returnType = ret) (hlk : meth.locks = false) :
    ∀ (n k : Nat) (S M : GS) (o : Nat → Int64) (H : Heap) (locs : List Loc) (ls : Array Slot), k ≤ 512 → lv_has ls 7 [(0, .ref b), (1, .ref (a 0)), (2, .ref (bm 0)), (3, .ref ao), (4, .int (nI (6 * k)))] → wf D A s.heap (lawW cI cZ cJ a bm ao S M o) H locs → LW xs L n k S M o → W p l e room_1 s m #[Value.ref b] below meth c H locs (50 + k) (1631 + 6 * k) (lw_Z below #[Value.ref b] s) (F0 m 23 ls []) := by
  have C' := C
  obtain ⟨hx, hb, hml, hown, hts, hfl, hE, hK, hAA, hX, hbl, hL⟩ := C'
  have hAe : ∀ q, A q → s.heap.size ≤ q := fun q h => (hAA q).mp h
  have hnb : ¬ A b := fun h => by have := hAe b h; omega
  intro n
  induction n with
  | zero => intro k S M o H locs ls _ _ _ hf; exact False.elim hf
  | succ n ih =>
    intro k S M o H locs ls hk hl hw hf
    unfold LW at hf
    have kk : ∀ (S M : GS) (o : Nat → Int64) (H : Heap) (locs : List Loc) (ls : Array Slot), 6 * k + 6 ≤ L → lv_has ls 7 [(0, .ref b), (1, .ref (a 0)), (2, .ref (bm 0)), (3, .ref ao), (4, .int (nI (6 * k)))] → wf D A s.heap (lawW cI cZ cJ a bm ao S M o) H locs → LW xs L n (k + 1) S M o → W p l e room_1 s m #[Value.ref b] below meth c H locs (50 + k + 1) (1631 + 6 * k + 6) (lw_Z below #[Value.ref b] s) (F0 m 794 ls []) := by
      intro S M o H locs ls hkL hl hw hf
      have e6 : nI (6 * k) + Int32.ofInt 6 = nI (6 * (k + 1)) := by rw [show Int32.ofInt 6 = nI 6 from rfl, nI_add]; rfl
      refine lv_iinc (pc := 794) (k := 4) (v := nI (6 * (k + 1))) (lv' := [(4, .int (nI (6 * (k + 1)))), (0, .ref b), (1, .ref (a 0)), (2, .ref (bm 0)), (3, .ref ao)]) hx hb d_law_794 hl rfl e6 (by decide) rfl (fun ls hl => ?_)
      refine lv_goto (pc := 797) (tgt := 23) hx hb d_law_797 (by decide) ?_
      have h1 := ih (k + 1) S M o H locs ls (by omega) (lv_sub hl [1, 2, 3, 4, 0] rfl) hw hf
      rw [show 50 + (k + 1) = 50 + k + 1 by omega, show 1631 + 6 * (k + 1) = 1631 + 6 * k + 6 by omega] at h1
      exact h1
    refine lv_iload (pc := 23) hx hb d_law_23 (lv_at hl 4 rfl) ?_
    refine lv_aload_n (pc := 25) hx hb d_law_25 rfl (lv_at hl 0 rfl) ?_
    refine va_slen (pc := 26) hx hb hX hbl hnb hw.2.2 d_law_26 ?_
    refine lv_bipush (pc := 27) (v := 6) hx hb d_law_27 (by decide) ?_
    refine lv_isub (pc := 29) hx hb d_law_29 ?_
    have hcmp : (Int32.ofNat L - 6 < nI (6 * k)) ↔ L < 6 * k + 6 := by
      rw [Int32.lt_iff_toInt_lt, show Int32.ofNat L - 6 = nI L - nI 6 from rfl, pk_sub_toInt (by omega) (by omega), nI_toInt (by omega)]
      omega
    refine lv_icmp_gt (pc := 30) (tgt := 800) hx hb d_law_30 (by decide) (fun hc => ?_) (fun hc => ?_)
    · refine lv_iconst (pc := 800) (v := 1) hx hb d_law_800 (by decide) ?_
      refine va_forget (fun q hq => hAe _ (hw.2.2.2.2 q hq)) ?_
      refine W.widen (k := 1085) (n := 9889) (by omega) (by omega) ?_
      exact lw_ret (pc := 801) hx hb hr hlk d_law_801
    have hkL : 6 * k + 6 ≤ L := by rw [hcmp] at hc; omega
    replace hf := hf hkL
    refine w_scr0 (pc := 33) hx hb hX hbl hAe hw.2.2 hl 0 4 rfl rfl (by omega) hL d_law_33 d_law_34 d_law_36 ?_
    refine lv_bipush (pc := 37) (v := 15) hx hb d_law_37 (by decide) ?_
    refine lv_iand (pc := 39) hx hb d_law_39 ?_
    have hcc : 50 + k + 1 ≤ room_1.cells := by show _ ≤ 1085; omega
    have hss : 1631 + 6 * k + 6 ≤ room_1.slots := by show _ ≤ 9889; omega
    unfold LSw at hf
    by_cases hs0 : (xs (6 * k) &&& (15 : Int32)) = (0 : Int32)
    · replace hf := hf.1 hs0
      refine lv_tableIn (pc := 40) (off := 80) (tgt := 120) hx hb d_law_40 (by rw [hs0]; decide) (by rw [hs0]; decide) (by rw [hs0]; decide) (by decide) ?_
      exact lc_0 C hkL hcc hss hl hw hf (fun S M o H locs ls hl hw hf => kk S M o H locs ls hkL hl hw hf)
    replace hf := hf.2 hs0
    by_cases hs1 : (xs (6 * k) &&& (15 : Int32)) = (1 : Int32)
    · replace hf := hf.1 hs1
      refine lv_tableIn (pc := 40) (off := 144) (tgt := 184) hx hb d_law_40 (by rw [hs1]; decide) (by rw [hs1]; decide) (by rw [hs1]; decide) (by decide) ?_
      exact lc_1 C hkL hcc hss hl hw hf (fun S M o H locs ls hl hw hf => kk S M o H locs ls hkL hl hw hf)
    replace hf := hf.2 hs1
    by_cases hs2 : (xs (6 * k) &&& (15 : Int32)) = (2 : Int32)
    · replace hf := hf.1 hs2
      refine lv_tableIn (pc := 40) (off := 192) (tgt := 232) hx hb d_law_40 (by rw [hs2]; decide) (by rw [hs2]; decide) (by rw [hs2]; decide) (by decide) ?_
      exact lc_2 C hkL hcc hss hl hw hf (fun S M o H locs ls hl hw hf => kk S M o H locs ls hkL hl hw hf)
    replace hf := hf.2 hs2
    by_cases hs3 : (xs (6 * k) &&& (15 : Int32)) = (3 : Int32)
    · replace hf := hf.1 hs3
      refine lv_tableIn (pc := 40) (off := 205) (tgt := 245) hx hb d_law_40 (by rw [hs3]; decide) (by rw [hs3]; decide) (by rw [hs3]; decide) (by decide) ?_
      exact lc_3 C hkL hcc hss hl hw hf (fun S M o H locs ls hl hw hf => kk S M o H locs ls hkL hl hw hf)
    replace hf := hf.2 hs3
    by_cases hs4 : (xs (6 * k) &&& (15 : Int32)) = (4 : Int32)
    · replace hf := hf.1 hs4
      refine lv_tableIn (pc := 40) (off := 261) (tgt := 301) hx hb d_law_40 (by rw [hs4]; decide) (by rw [hs4]; decide) (by rw [hs4]; decide) (by decide) ?_
      exact lc_4 C hkL hcc hss hl hw hf (fun S M o H locs ls hl hw hf => kk S M o H locs ls hkL hl hw hf)
    replace hf := hf.2 hs4
    by_cases hs5 : (xs (6 * k) &&& (15 : Int32)) = (5 : Int32)
    · replace hf := hf.1 hs5
      refine lv_tableIn (pc := 40) (off := 274) (tgt := 314) hx hb d_law_40 (by rw [hs5]; decide) (by rw [hs5]; decide) (by rw [hs5]; decide) (by decide) ?_
      exact lc_5 C hkL hcc hss hl hw hf (fun S M o H locs ls hl hw hf => kk S M o H locs ls hkL hl hw hf)
    replace hf := hf.2 hs5
    by_cases hs6 : (xs (6 * k) &&& (15 : Int32)) = (6 : Int32)
    · replace hf := hf.1 hs6
      refine lv_tableIn (pc := 40) (off := 299) (tgt := 339) hx hb d_law_40 (by rw [hs6]; decide) (by rw [hs6]; decide) (by rw [hs6]; decide) (by decide) ?_
      exact lc_6 C hkL hcc hss hl hw hf (fun S M o H locs ls hl hw hf => kk S M o H locs ls hkL hl hw hf)
    replace hf := hf.2 hs6
    by_cases hs7 : (xs (6 * k) &&& (15 : Int32)) = (7 : Int32)
    · replace hf := hf.1 hs7
      refine lv_tableIn (pc := 40) (off := 312) (tgt := 352) hx hb d_law_40 (by rw [hs7]; decide) (by rw [hs7]; decide) (by rw [hs7]; decide) (by decide) ?_
      exact lc_7 C hkL hcc hss hl hw hf (fun S M o H locs ls hl hw hf => kk S M o H locs ls hkL hl hw hf)
    replace hf := hf.2 hs7
    by_cases hs8 : (xs (6 * k) &&& (15 : Int32)) = (8 : Int32)
    · replace hf := hf.1 hs8
      refine lv_tableIn (pc := 40) (off := 325) (tgt := 365) hx hb d_law_40 (by rw [hs8]; decide) (by rw [hs8]; decide) (by rw [hs8]; decide) (by decide) ?_
      exact lc_8 C hkL hcc hss hl hw hf (fun S M o H locs ls hl hw hf => kk S M o H locs ls hkL hl hw hf)
    replace hf := hf.2 hs8
    by_cases hs9 : (xs (6 * k) &&& (15 : Int32)) = (9 : Int32)
    · replace hf := hf.1 hs9
      refine lv_tableIn (pc := 40) (off := 409) (tgt := 449) hx hb d_law_40 (by rw [hs9]; decide) (by rw [hs9]; decide) (by rw [hs9]; decide) (by decide) ?_
      exact lc_9 C hkL hcc hss hl hw hf (fun S M o H locs ls hl hw hf => kk S M o H locs ls hkL hl hw hf)
    replace hf := hf.2 hs9
    by_cases hs10 : (xs (6 * k) &&& (15 : Int32)) = (10 : Int32)
    · replace hf := hf.1 hs10
      refine lv_tableIn (pc := 40) (off := 469) (tgt := 509) hx hb d_law_40 (by rw [hs10]; decide) (by rw [hs10]; decide) (by rw [hs10]; decide) (by decide) ?_
      exact lc_10 C hkL hcc hss hl hw hf (fun S M o H locs ls hl hw hf => kk S M o H locs ls hkL hl hw hf)
    replace hf := hf.2 hs10
    by_cases hs11 : (xs (6 * k) &&& (15 : Int32)) = (11 : Int32)
    · replace hf := hf.1 hs11
      refine lv_tableIn (pc := 40) (off := 529) (tgt := 569) hx hb d_law_40 (by rw [hs11]; decide) (by rw [hs11]; decide) (by rw [hs11]; decide) (by decide) ?_
      exact lc_11 C hkL hcc hss hl hw hf (fun S M o H locs ls hl hw hf => kk S M o H locs ls hkL hl hw hf)
    replace hf := hf.2 hs11
    by_cases hs12 : (xs (6 * k) &&& (15 : Int32)) = (12 : Int32)
    · replace hf := hf.1 hs12
      refine lv_tableIn (pc := 40) (off := 592) (tgt := 632) hx hb d_law_40 (by rw [hs12]; decide) (by rw [hs12]; decide) (by rw [hs12]; decide) (by decide) ?_
      exact lc_12 C hkL hcc hss hl hw hf (fun S M o H locs ls hl hw hf => kk S M o H locs ls hkL hl hw hf)
    replace hf := hf.2 hs12
    by_cases hs13 : (xs (6 * k) &&& (15 : Int32)) = (13 : Int32)
    · replace hf := hf.1 hs13
      refine lv_tableIn (pc := 40) (off := 648) (tgt := 688) hx hb d_law_40 (by rw [hs13]; decide) (by rw [hs13]; decide) (by rw [hs13]; decide) (by decide) ?_
      exact lc_13 C hkL hcc hss hl hw hf (fun S M o H locs ls hl hw hf => kk S M o H locs ls hkL hl hw hf)
    replace hf := hf.2 hs13
    by_cases hs14 : (xs (6 * k) &&& (15 : Int32)) = (14 : Int32)
    · replace hf := hf.1 hs14
      refine lv_tableIn (pc := 40) (off := 716) (tgt := 756) hx hb d_law_40 (by rw [hs14]; decide) (by rw [hs14]; decide) (by rw [hs14]; decide) (by decide) ?_
      exact lc_14 C hkL hcc hss hl hw hf (fun S M o H locs ls hl hw hf => kk S M o H locs ls hkL hl hw hf)
    replace hf := hf.2 hs14
    by_cases hs15 : (xs (6 * k) &&& (15 : Int32)) = (15 : Int32)
    · replace hf := hf.1 hs15
      refine lv_tableIn (pc := 40) (off := 729) (tgt := 769) hx hb d_law_40 (by rw [hs15]; decide) (by rw [hs15]; decide) (by rw [hs15]; decide) (by decide) ?_
      exact lc_15 C hkL hcc hss hl hw hf (fun S M o H locs ls hl hw hf => kk S M o H locs ls hkL hl hw hf)
    replace hf := hf.2 hs15
    have ehs0 := lv_neT hs0 (a := 0) (by decide)
    have ehs1 := lv_neT hs1 (a := 1) (by decide)
    have ehs2 := lv_neT hs2 (a := 2) (by decide)
    have ehs3 := lv_neT hs3 (a := 3) (by decide)
    have ehs4 := lv_neT hs4 (a := 4) (by decide)
    have ehs5 := lv_neT hs5 (a := 5) (by decide)
    have ehs6 := lv_neT hs6 (a := 6) (by decide)
    have ehs7 := lv_neT hs7 (a := 7) (by decide)
    have ehs8 := lv_neT hs8 (a := 8) (by decide)
    have ehs9 := lv_neT hs9 (a := 9) (by decide)
    have ehs10 := lv_neT hs10 (a := 10) (by decide)
    have ehs11 := lv_neT hs11 (a := 11) (by decide)
    have ehs12 := lv_neT hs12 (a := 12) (by decide)
    have ehs13 := lv_neT hs13 (a := 13) (by decide)
    have ehs14 := lv_neT hs14 (a := 14) (by decide)
    have ehs15 := lv_neT hs15 (a := 15) (by decide)
    refine lv_tableOut (pc := 40) (tgt := 794) hx hb d_law_40 (by omega) (by decide) ?_
    refine W.widen (k := 50 + k + 1) (n := 1631 + 6 * k + 6) (by omega) (by omega) ?_
    exact kk S M o H locs ls hkL hl hw hf
theorem law_K {s : State} {args : Array Value} (hts : ∀ w ∈ tbG, w.before args s = true) : ∃ (D : va_G) (cI cZ cJ : ClassId), va_K D vwCl (tys cI cZ cJ) s := by
  have arr : ∀ t : FieldType, (Cond.arrayClass t).before args s = true → ∃ cA : ClassId, ArrOfT s cA t ∧ s.vm.findClass ("[" ++ t.toString) = some cA := by
    intro t h
    obtain ⟨cA, kA, comp, h1, h2, h3⟩ := Cond.arrayClass_spec h
    exact ⟨cA, fun n z => ⟨fun k h => (by cases h), kA, h2, comp, h3⟩, h1⟩
  obtain ⟨c0, i0, h0⟩ := u_known (N := 9) hts tl_G (hts _ tn_G)
  obtain ⟨c1, i1, h1⟩ := u_known (N := 6) hts tl_Mx (hts _ tn_Mx)
  obtain ⟨c2, i2, h2⟩ := u_known (N := 3) hts tl_Hi (hts _ tn_Hi)
  obtain ⟨c3, i3, h3⟩ := u_known (N := 3) hts tl_Eq (hts _ tn_Eq)
  obtain ⟨c4, i4, h4⟩ := u_known (N := 4) hts tl_Km (hts _ tn_Km)
  obtain ⟨c5, i5, h5⟩ := u_known (N := 2) hts tl_Ch (hts _ tn_Ch)
  obtain ⟨c6, i6, h6⟩ := u_known (N := 3) hts tl_La (hts _ tn_La)
  obtain ⟨c7, i7, h7⟩ := u_known (N := 2) hts tl_Ho (hts _ tn_Ho)
  obtain ⟨c8, i8, h8⟩ := u_known (N := 7) hts tl_Re (hts _ tn_Re)
  obtain ⟨c9, i9, h9⟩ := u_known (N := 30) hts tl_Mo (hts _ tn_Mo)
  obtain ⟨cI, a1, a2⟩ := arr .int (hts _ ta_int)
  obtain ⟨cZ, b1, b2⟩ := arr .boolean (hts _ ta_boolean)
  obtain ⟨cJ, d1, d2⟩ := arr .long (hts _ ta_long)
  refine ⟨(fun c => ([c0, c1, c2, c3, c4, c5, c6, c7, c8, c9] : List Nat).getD c 0, fun c => ([i0, i1, i2, i3, i4, i5, i6, i7, i8, i9] : List (Nat → Nat)).getD c (fun _ => 0)), cI, cZ, cJ, fun c q h => ?_, fun k q h => ?_⟩
  · have hlt : c < 10 := (List.getElem?_eq_some_iff.mp h).1
    rcases (show c = 0 ∨ c = 1 ∨ c = 2 ∨ c = 3 ∨ c = 4 ∨ c = 5 ∨ c = 6 ∨ c = 7 ∨ c = 8 ∨ c = 9 by omega) with rfl | rfl | rfl | rfl | rfl | rfl | rfl | rfl | rfl | rfl
    · cases h; exact h0
    · cases h; exact h1
    · cases h; exact h2
    · cases h; exact h3
    · cases h; exact h4
    · cases h; exact h5
    · cases h; exact h6
    · cases h; exact h7
    · cases h; exact h8
    · cases h; exact h9
  · have hlt : k < 3 := (List.getElem?_eq_some_iff.mp h).1
    rcases (show k = 0 ∨ k = 1 ∨ k = 2 by omega) with rfl | rfl | rfl
    · cases h; exact ⟨a1, a2⟩
    · cases h; exact ⟨b1, b2⟩
    · cases h; exact ⟨d1, d2⟩
set_option maxRecDepth 100000 in
theorem xw_tab : ∀ w ∈ xw, w ∈ tables_1 := by decide +kernel
set_option maxRecDepth 100000 in
theorem xl_tab : ∀ q ∈ xlit, Cond.stringRef R_G q.1 q.2 ∈ tables_1 := by decide +kernel
set_option maxRecDepth 100000 in
theorem xl_nar : ∀ q ∈ xlit, Cond.exactly (.string R_G q.1) "java/lang/String" ∈ flatC (Jvm.Cond.and given_1 narrow_1) := by decide +kernel
set_option maxRecDepth 100000 in
theorem xn_nar : ∀ w ∈ [Cond.not (.castable eA eI), Cond.not (.castable eS eI), Cond.not (.castable eS eA), xref1, xref2], w ∈ flatC (Jvm.Cond.and given_1 narrow_1) := by decide +kernel
set_option maxRecDepth 100000 in
theorem xs_tab : ∀ w ∈ [Cond.laysStatic Bundle.tN "UNASSIGNED_STACK" Bundle.steD, Cond.laysStatic Bundle.tN "SUPPRESSED_SENTINEL" Bundle.listD, Cond.initialized Bundle.tN], w ∈ tables_1 := by decide +kernel
theorem law_TE {s : State} {args : Array Value} (ht : ∀ w ∈ tables_1, w.before args s = true) (hg : (Jvm.Cond.and given_1 narrow_1).before args s = true) : TE s := by
  have hs := flat_of_before _ hg
  have hA : ∀ a : Nat, a < s.heap.size → ¬ (fun _ : Nat => False) a := fun _ _ h => h
  refine ⟨fun w hw => ?_, va_Zqof (ht _ (xs_tab _ (by simp))) (ht _ (xs_tab (Cond.initialized Bundle.tN) (by simp))) (hs _ (xn_nar xref1 (by simp))) hA, va_Zqof (ht _ (xs_tab _ (by simp))) (ht _ (xs_tab (Cond.initialized Bundle.tN) (by simp))) (hs _ (xn_nar xref2 (by simp))) hA, ⟨va_Nc.of (hs _ (xn_nar _ (by simp))), va_Nc.of (hs _ (xn_nar _ (by simp))), va_Nc.of (hs _ (xn_nar _ (by simp)))⟩, ⟨lays_at (ht _ (xs_tab _ (by simp))) (Vm.Alike.refl _) (fun _ _ => rfl), lays_at (ht _ (xs_tab _ (by simp))) (Vm.Alike.refl _) (fun _ _ => rfl)⟩, fun q hq => ?_⟩
  · have h := ht w (xw_tab w hw)
    simp only [xw, List.mem_cons, List.not_mem_nil, or_false] at hw
    rcases hw with rfl | rfl | rfl | rfl | rfl | rfl <;> exact va_Nw.of rfl h
  · obtain ⟨a, cc, cell, k, h1, -⟩ := Cond.exactly_spec (hs _ (xl_nar q hq))
    exact ⟨a, vk_R.of (ht _ (xl_tab q hq)) h1⟩
