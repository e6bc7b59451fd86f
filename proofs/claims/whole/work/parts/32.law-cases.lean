def LC_0 (xs : Nat → Int32) (k : Nat) (K : GS → GS → (Nat → Int64) → Prop) (S M : GS) (o : Nat → Int64) : Prop := (((xs (6 * k + 2)) = (0 : Int32) → (wpH_Lw_wire S o (xs (6 * k + 1)) (0 : Int32) (fun r141 u141 => (((xs (6 * k + 2)) = (0 : Int32) → (wp_Mo_wire M (xs (6 * k + 1)) (0 : Int32) (fun M167 => (wp_Mo_thrown M167 (fun r171 => ((r171 = r141 → (K u141.1 M167 u141.2)) ∧ (¬ r171 = r141 → False))))))) ∧ (¬ (xs (6 * k + 2)) = (0 : Int32) → (wp_Mo_wire M (xs (6 * k + 1)) (1 : Int32) (fun M167 => (wp_Mo_thrown M167 (fun r171 => ((r171 = r141 → (K u141.1 M167 u141.2)) ∧ (¬ r171 = r141 → False))))))))))) ∧ (¬ (xs (6 * k + 2)) = (0 : Int32) → (wpH_Lw_wire S o (xs (6 * k + 1)) (1 : Int32) (fun r141 u141 => (((xs (6 * k + 2)) = (0 : Int32) → (wp_Mo_wire M (xs (6 * k + 1)) (0 : Int32) (fun M167 => (wp_Mo_thrown M167 (fun r171 => ((r171 = r141 → (K u141.1 M167 u141.2)) ∧ (¬ r171 = r141 → False))))))) ∧ (¬ (xs (6 * k + 2)) = (0 : Int32) → (wp_Mo_wire M (xs (6 * k + 1)) (1 : Int32) (fun M167 => (wp_Mo_thrown M167 (fun r171 => ((r171 = r141 → (K u141.1 M167 u141.2)) ∧ (¬ r171 = r141 → False))))))))))))
set_option maxHeartbeats 4000000 in
set_option maxRecDepth 100000 in
theorem lc_0 {p : Program} {l : Launch} {e : Env} {s : State} {m : MethodId} {below : List Frame} {meth : Method} {c : Code} {b L : Nat} {xs : Nat → Int32} {D : va_G} {cI cZ cJ : ClassId} {A : Nat → Prop} {a bm : Nat → Nat} {ao : Nat} {Q : State → Prop} (C : LawCtx p l s m meth c b L xs D cI cZ cJ A) {k : Nat} {K : GS → GS → (Nat → Int64) → Prop} {S M : GS} {o : Nat → Int64} {H : Heap} {locs : List Loc} {ls : Array Slot} {cells slots : Nat} (hk : 6 * k + 6 ≤ L) (hcc : cells + 1 ≤ room_1.cells) (hss : slots + 6 ≤ room_1.slots)
    (hl : lv_has ls 7 [(0, .ref b), (1, .ref (a 0)), (2, .ref (bm 0)), (3, .ref ao), (4, .int (nI (6 * k)))]) (hw : wf D A s.heap (lawW cI cZ cJ a bm ao S M o) H locs) (hf : LC_0 xs k K S M o)
    (kk : ∀ (S M : GS) (o : Nat → Int64) (H : Heap) (locs : List Loc) (ls : Array Slot), lv_has ls 7 [(0, .ref b), (1, .ref (a 0)), (2, .ref (bm 0)), (3, .ref ao), (4, .int (nI (6 * k)))] → wf D A s.heap (lawW cI cZ cJ a bm ao S M o) H locs → K S M o → W p l e room_1 s m #[Value.ref b] below meth c H locs (cells + 1) (slots + 6) Q (F0 m 794 ls [])) :
    W p l e room_1 s m #[Value.ref b] below meth c H locs cells slots Q (F0 m 120 ls []) := by
  obtain ⟨hx, hb, hml, hown, hts, hfl, hE, hK, hAA, hX, hbl, hL⟩ := C
  have hA : ∀ q, s.heap.size ≤ q → A q := fun q h => (hAA q).mpr h
  have hAe : ∀ q, A q → s.heap.size ≤ q := fun q h => (hAA q).mp h
  have hcd : cells + 0 ≤ room_1.cells := by omega
  have hsd : slots + 0 ≤ room_1.slots := by omega
  have hcd1 : cells + 1 + 0 ≤ room_1.cells := by omega
  have hsd1 : slots + 6 + 0 ≤ room_1.slots := by omega
  unfold LC_0 at hf
  refine lv_aload_n (pc := 120) hx hb d_law_120 rfl (lv_at hl 1 rfl) ?_
  refine w_scr (pc := 121) (jv := 1) (j := 1) hx hb hX hbl hAe hw.2.2 hl 0 4 rfl rfl rfl (by omega) hL d_law_121 d_law_122 d_law_124 (by decide) d_law_125 d_law_126 ?_
  refine w_scr (pc := 127) (jv := 2) (j := 2) hx hb hX hbl hAe hw.2.2 hl 0 4 rfl rfl rfl (by omega) hL d_law_127 d_law_128 d_law_130 (by decide) d_law_131 d_law_132 ?_
  refine lv_if_eq (pc := 133) (tgt := 140) hx hb d_law_133 (by decide) (fun hc => ?_) (fun hc => ?_)
  · replace hf := hf.1 hc
    refine lv_iconst (pc := 140) (v := 0) hx hb d_law_140 (by decide) ?_
    refine lq_h (pc := 141) hw hA (va_runSW (n := 3) (As := [.ref (a 0), .int (xs (6 * k + 1)), .int (0 : Int32)]) (rest := []) ⟨hx, hb, hml, hown, hts⟩ (ch_Lw_wire l hfl D cI cZ cJ a ao _ _ _ _ _ _ hf) rfl (tb_goodC tc_Lw_wire) (hts _ (List.mem_cons_of_mem _ tm_Lw_53)) (hts _ (List.mem_cons_of_mem _ ts_Lw_wire)) (hts _ (List.mem_cons_of_mem _ tz_Lw)) (by decide +kernel) ⟨rfl, rfl, Nat.le_of_ble_eq_true rfl, Nat.le_of_ble_eq_true rfl⟩ (h_preS hE hK (wfl (law_h hw)) hAe) rfl rfl hl.1 rfl (lv_room (Nat.le_of_ble_eq_true rfl)) d_law_141 ⟨hcc, hss⟩) (fun r141 u141 H locs hw hf => ?_)
    refine lv_istore (pc := 144) (lv' := [(5, .int r141), (0, .ref b), (1, .ref (a 0)), (2, .ref (bm 0)), (3, .ref ao), (4, .int (nI (6 * k)))]) hx hb d_law_144 hl (by decide) rfl (fun ls hl => ?_)
    refine lv_aload_n (pc := 146) hx hb d_law_146 rfl (lv_at hl 3 rfl) ?_
    refine w_scr (pc := 147) (jv := 1) (j := 1) hx hb hX hbl hAe hw.2.2 hl 1 5 rfl rfl rfl (by omega) hL d_law_147 d_law_148 d_law_150 (by decide) d_law_151 d_law_152 ?_
    refine w_scr (pc := 153) (jv := 2) (j := 2) hx hb hX hbl hAe hw.2.2 hl 1 5 rfl rfl rfl (by omega) hL d_law_153 d_law_154 d_law_156 (by decide) d_law_157 d_law_158 ?_
    refine lv_if_eq (pc := 159) (tgt := 166) hx hb d_law_159 (by decide) (fun hc => ?_) (fun hc => ?_)
    · replace hf := hf.1 hc
      refine lv_iconst (pc := 166) (v := 0) hx hb d_law_166 (by decide) ?_
      refine lq_mv (pc := 167) hw hA (va_runV (As := [.int (xs (6 * k + 1)), .int (0 : Int32)]) (rest := []) ⟨hx, hb, hml, hown, hts⟩ (c_Mo_wire l D cI cZ cJ bm _ _ _ _ _ hf) (cwV 2 hts (tb_wsV tc_Mo_wire tm_Lw_58 ti_Mo_wire te_Mo_wire tz_Mo) rfl rfl rfl (by decide +kernel) ⟨Nat.le_of_ble_eq_true rfl, Nat.le_of_ble_eq_true rfl⟩) (g_preV (q0 := 0) (ci := 9) hK (wfl (law_m hw)) rfl rfl) rfl rfl hl.1 rfl (lv_room (Nat.le_of_ble_eq_true rfl)) d_law_167 ⟨hcd1, hsd1⟩) (fun M167 H locs hw hf => ?_)
      refine lv_aload_n (pc := 170) hx hb d_law_170 rfl (lv_at hl 3 rfl) ?_
      refine vp_callSi (pc := 171) (W.runV (As := []) (rest := []) ⟨hx, hb, hml, hown, hts⟩ (c_Mo_thrown l D cI cZ cJ bm _  _ hf) (cwV 0 hts (tb_wsV tc_Mo_thrown tm_Lw_59 ti_Mo_thrown te_Mo_thrown tz_Mo) rfl rfl rfl (by decide +kernel) ⟨Nat.le_of_ble_eq_true rfl, Nat.le_of_ble_eq_true rfl⟩) (r_preV (q0 := 0) (ci := 9) hK (wfl (law_m hw)).1 rfl rfl) rfl rfl hl.1 rfl (lv_room (Nat.le_of_ble_eq_true rfl)) d_law_171 ⟨hcd1, hsd1⟩) (fun r171 hf => ?_)
      refine lv_iload (pc := 174) hx hb d_law_174 (lv_at hl 0 rfl) ?_
      refine lv_icmp_eq (pc := 176) (tgt := 181) hx hb d_law_176 (by decide) (fun hc => ?_) (fun hc => ?_)
      · replace hf := hf.1 hc
        refine lv_goto (pc := 181) (tgt := 794) hx hb d_law_181 (by decide) ?_
        exact kk _ _ _ _ _ _ (lv_sub hl [1, 2, 3, 4, 5] rfl) hw hf
      replace hf := hf.2 hc
      exact False.elim hf
    replace hf := hf.2 hc
    refine lv_iconst (pc := 162) (v := 1) hx hb d_law_162 (by decide) ?_
    refine lv_goto (pc := 163) (tgt := 167) hx hb d_law_163 (by decide) ?_
    refine lq_mv (pc := 167) hw hA (va_runV (As := [.int (xs (6 * k + 1)), .int (1 : Int32)]) (rest := []) ⟨hx, hb, hml, hown, hts⟩ (c_Mo_wire l D cI cZ cJ bm _ _ _ _ _ hf) (cwV 2 hts (tb_wsV tc_Mo_wire tm_Lw_58 ti_Mo_wire te_Mo_wire tz_Mo) rfl rfl rfl (by decide +kernel) ⟨Nat.le_of_ble_eq_true rfl, Nat.le_of_ble_eq_true rfl⟩) (g_preV (q0 := 0) (ci := 9) hK (wfl (law_m hw)) rfl rfl) rfl rfl hl.1 rfl (lv_room (Nat.le_of_ble_eq_true rfl)) d_law_167 ⟨hcd1, hsd1⟩) (fun M167 H locs hw hf => ?_)
    refine lv_aload_n (pc := 170) hx hb d_law_170 rfl (lv_at hl 3 rfl) ?_
    refine vp_callSi (pc := 171) (W.runV (As := []) (rest := []) ⟨hx, hb, hml, hown, hts⟩ (c_Mo_thrown l D cI cZ cJ bm _  _ hf) (cwV 0 hts (tb_wsV tc_Mo_thrown tm_Lw_59 ti_Mo_thrown te_Mo_thrown tz_Mo) rfl rfl rfl (by decide +kernel) ⟨Nat.le_of_ble_eq_true rfl, Nat.le_of_ble_eq_true rfl⟩) (r_preV (q0 := 0) (ci := 9) hK (wfl (law_m hw)).1 rfl rfl) rfl rfl hl.1 rfl (lv_room (Nat.le_of_ble_eq_true rfl)) d_law_171 ⟨hcd1, hsd1⟩) (fun r171 hf => ?_)
    refine lv_iload (pc := 174) hx hb d_law_174 (lv_at hl 0 rfl) ?_
    refine lv_icmp_eq (pc := 176) (tgt := 181) hx hb d_law_176 (by decide) (fun hc => ?_) (fun hc => ?_)
    · replace hf := hf.1 hc
      refine lv_goto (pc := 181) (tgt := 794) hx hb d_law_181 (by decide) ?_
      exact kk _ _ _ _ _ _ (lv_sub hl [1, 2, 3, 4, 5] rfl) hw hf
    replace hf := hf.2 hc
    exact False.elim hf
  replace hf := hf.2 hc
  refine lv_iconst (pc := 136) (v := 1) hx hb d_law_136 (by decide) ?_
  refine lv_goto (pc := 137) (tgt := 141) hx hb d_law_137 (by decide) ?_
  refine lq_h (pc := 141) hw hA (va_runSW (n := 3) (As := [.ref (a 0), .int (xs (6 * k + 1)), .int (1 : Int32)]) (rest := []) ⟨hx, hb, hml, hown, hts⟩ (ch_Lw_wire l hfl D cI cZ cJ a ao _ _ _ _ _ _ hf) rfl (tb_goodC tc_Lw_wire) (hts _ (List.mem_cons_of_mem _ tm_Lw_53)) (hts _ (List.mem_cons_of_mem _ ts_Lw_wire)) (hts _ (List.mem_cons_of_mem _ tz_Lw)) (by decide +kernel) ⟨rfl, rfl, Nat.le_of_ble_eq_true rfl, Nat.le_of_ble_eq_true rfl⟩ (h_preS hE hK (wfl (law_h hw)) hAe) rfl rfl hl.1 rfl (lv_room (Nat.le_of_ble_eq_true rfl)) d_law_141 ⟨hcc, hss⟩) (fun r141 u141 H locs hw hf => ?_)
  refine lv_istore (pc := 144) (lv' := [(5, .int r141), (0, .ref b), (1, .ref (a 0)), (2, .ref (bm 0)), (3, .ref ao), (4, .int (nI (6 * k)))]) hx hb d_law_144 hl (by decide) rfl (fun ls hl => ?_)
  refine lv_aload_n (pc := 146) hx hb d_law_146 rfl (lv_at hl 3 rfl) ?_
  refine w_scr (pc := 147) (jv := 1) (j := 1) hx hb hX hbl hAe hw.2.2 hl 1 5 rfl rfl rfl (by omega) hL d_law_147 d_law_148 d_law_150 (by decide) d_law_151 d_law_152 ?_
  refine w_scr (pc := 153) (jv := 2) (j := 2) hx hb hX hbl hAe hw.2.2 hl 1 5 rfl rfl rfl (by omega) hL d_law_153 d_law_154 d_law_156 (by decide) d_law_157 d_law_158 ?_
  refine lv_if_eq (pc := 159) (tgt := 166) hx hb d_law_159 (by decide) (fun hc => ?_) (fun hc => ?_)
  · replace hf := hf.1 hc
    refine lv_iconst (pc := 166) (v := 0) hx hb d_law_166 (by decide) ?_
    refine lq_mv (pc := 167) hw hA (va_runV (As := [.int (xs (6 * k + 1)), .int (0 : Int32)]) (rest := []) ⟨hx, hb, hml, hown, hts⟩ (c_Mo_wire l D cI cZ cJ bm _ _ _ _ _ hf) (cwV 2 hts (tb_wsV tc_Mo_wire tm_Lw_58 ti_Mo_wire te_Mo_wire tz_Mo) rfl rfl rfl (by decide +kernel) ⟨Nat.le_of_ble_eq_true rfl, Nat.le_of_ble_eq_true rfl⟩) (g_preV (q0 := 0) (ci := 9) hK (wfl (law_m hw)) rfl rfl) rfl rfl hl.1 rfl (lv_room (Nat.le_of_ble_eq_true rfl)) d_law_167 ⟨hcd1, hsd1⟩) (fun M167 H locs hw hf => ?_)
    refine lv_aload_n (pc := 170) hx hb d_law_170 rfl (lv_at hl 3 rfl) ?_
    refine vp_callSi (pc := 171) (W.runV (As := []) (rest := []) ⟨hx, hb, hml, hown, hts⟩ (c_Mo_thrown l D cI cZ cJ bm _  _ hf) (cwV 0 hts (tb_wsV tc_Mo_thrown tm_Lw_59 ti_Mo_thrown te_Mo_thrown tz_Mo) rfl rfl rfl (by decide +kernel) ⟨Nat.le_of_ble_eq_true rfl, Nat.le_of_ble_eq_true rfl⟩) (r_preV (q0 := 0) (ci := 9) hK (wfl (law_m hw)).1 rfl rfl) rfl rfl hl.1 rfl (lv_room (Nat.le_of_ble_eq_true rfl)) d_law_171 ⟨hcd1, hsd1⟩) (fun r171 hf => ?_)
    refine lv_iload (pc := 174) hx hb d_law_174 (lv_at hl 0 rfl) ?_
    refine lv_icmp_eq (pc := 176) (tgt := 181) hx hb d_law_176 (by decide) (fun hc => ?_) (fun hc => ?_)
    · replace hf := hf.1 hc
      refine lv_goto (pc := 181) (tgt := 794) hx hb d_law_181 (by decide) ?_
      exact kk _ _ _ _ _ _ (lv_sub hl [1, 2, 3, 4, 5] rfl) hw hf
    replace hf := hf.2 hc
    exact False.elim hf
  replace hf := hf.2 hc
  refine lv_iconst (pc := 162) (v := 1) hx hb d_law_162 (by decide) ?_
  refine lv_goto (pc := 163) (tgt := 167) hx hb d_law_163 (by decide) ?_
  refine lq_mv (pc := 167) hw hA (va_runV (As := [.int (xs (6 * k + 1)), .int (1 : Int32)]) (rest := []) ⟨hx, hb, hml, hown, hts⟩ (c_Mo_wire l D cI cZ cJ bm _ _ _ _ _ hf) (cwV 2 hts (tb_wsV tc_Mo_wire tm_Lw_58 ti_Mo_wire te_Mo_wire tz_Mo) rfl rfl rfl (by decide +kernel) ⟨Nat.le_of_ble_eq_true rfl, Nat.le_of_ble_eq_true rfl⟩) (g_preV (q0 := 0) (ci := 9) hK (wfl (law_m hw)) rfl rfl) rfl rfl hl.1 rfl (lv_room (Nat.le_of_ble_eq_true rfl)) d_law_167 ⟨hcd1, hsd1⟩) (fun M167 H locs hw hf => ?_)
  refine lv_aload_n (pc := 170) hx hb d_law_170 rfl (lv_at hl 3 rfl) ?_
  refine vp_callSi (pc := 171) (W.runV (As := []) (rest := []) ⟨hx, hb, hml, hown, hts⟩ (c_Mo_thrown l D cI cZ cJ bm _  _ hf) (cwV 0 hts (tb_wsV tc_Mo_thrown tm_Lw_59 ti_Mo_thrown te_Mo_thrown tz_Mo) rfl rfl rfl (by decide +kernel) ⟨Nat.le_of_ble_eq_true rfl, Nat.le_of_ble_eq_true rfl⟩) (r_preV (q0 := 0) (ci := 9) hK (wfl (law_m hw)).1 rfl rfl) rfl rfl hl.1 rfl (lv_room (Nat.le_of_ble_eq_true rfl)) d_law_171 ⟨hcd1, hsd1⟩) (fun r171 hf => ?_)
  refine lv_iload (pc := 174) hx hb d_law_174 (lv_at hl 0 rfl) ?_
  refine lv_icmp_eq (pc := 176) (tgt := 181) hx hb d_law_176 (by decide) (fun hc => ?_) (fun hc => ?_)
  · replace hf := hf.1 hc
    refine lv_goto (pc := 181) (tgt := 794) hx hb d_law_181 (by decide) ?_
    exact kk _ _ _ _ _ _ (lv_sub hl [1, 2, 3, 4, 5] rfl) hw hf
  replace hf := hf.2 hc
  exact False.elim hf
def LC_1 (xs : Nat → Int32) (k : Nat) (K : GS → GS → (Nat → Int64) → Prop) (S M : GS) (o : Nat → Int64) : Prop := (wpH_Lw_bounce S o (xs (6 * k + 1)) (xs (6 * k + 2)) (fun r197 u197 => (wp_Mo_bounce M (xs (6 * k + 1)) (xs (6 * k + 2)) (fun M215 => (wp_Mo_thrown M215 (fun r219 => ((r219 = r197 → (K u197.1 M215 u197.2)) ∧ (¬ r219 = r197 → False))))))))
set_option maxHeartbeats 4000000 in
set_option maxRecDepth 100000 in
theorem lc_1 {p : Program} {l : Launch} {e : Env} {s : State} {m : MethodId} {below : List Frame} {meth : Method} {c : Code} {b L : Nat} {xs : Nat → Int32} {D : va_G} {cI cZ cJ : ClassId} {A : Nat → Prop} {a bm : Nat → Nat} {ao : Nat} {Q : State → Prop} (C : LawCtx p l s m meth c b L xs D cI cZ cJ A) {k : Nat} {K : GS → GS → (Nat → Int64) → Prop} {S M : GS} {o : Nat → Int64} {H : Heap} {locs : List Loc} {ls : Array Slot} {cells slots : Nat} (hk : 6 * k + 6 ≤ L) (hcc : cells + 1 ≤ room_1.cells) (hss : slots + 6 ≤ room_1.slots)
    (hl : lv_has ls 7 [(0, .ref b), (1, .ref (a 0)), (2, .ref (bm 0)), (3, .ref ao), (4, .int (nI (6 * k)))]) (hw : wf D A s.heap (lawW cI cZ cJ a bm ao S M o) H locs) (hf : LC_1 xs k K S M o)
    (kk : ∀ (S M : GS) (o : Nat → Int64) (H : Heap) (locs : List Loc) (ls : Array Slot), lv_has ls 7 [(0, .ref b), (1, .ref (a 0)), (2, .ref (bm 0)), (3, .ref ao), (4, .int (nI (6 * k)))] → wf D A s.heap (lawW cI cZ cJ a bm ao S M o) H locs → K S M o → W p l e room_1 s m #[Value.ref b] below meth c H locs (cells + 1) (slots + 6) Q (F0 m 794 ls [])) :
    W p l e room_1 s m #[Value.ref b] below meth c H locs cells slots Q (F0 m 184 ls []) := by
  obtain ⟨hx, hb, hml, hown, hts, hfl, hE, hK, hAA, hX, hbl, hL⟩ := C
  have hA : ∀ q, s.heap.size ≤ q → A q := fun q h => (hAA q).mpr h
  have hAe : ∀ q, A q → s.heap.size ≤ q := fun q h => (hAA q).mp h
  have hcd : cells + 0 ≤ room_1.cells := by omega
  have hsd : slots + 0 ≤ room_1.slots := by omega
  have hcd1 : cells + 1 + 0 ≤ room_1.cells := by omega
  have hsd1 : slots + 6 + 0 ≤ room_1.slots := by omega
  unfold LC_1 at hf
  refine lv_aload_n (pc := 184) hx hb d_law_184 rfl (lv_at hl 1 rfl) ?_
  refine w_scr (pc := 185) (jv := 1) (j := 1) hx hb hX hbl hAe hw.2.2 hl 0 4 rfl rfl rfl (by omega) hL d_law_185 d_law_186 d_law_188 (by decide) d_law_189 d_law_190 ?_
  refine w_scr (pc := 191) (jv := 2) (j := 2) hx hb hX hbl hAe hw.2.2 hl 0 4 rfl rfl rfl (by omega) hL d_law_191 d_law_192 d_law_194 (by decide) d_law_195 d_law_196 ?_
  refine lq_h (pc := 197) hw hA (va_runSW (n := 3) (As := [.ref (a 0), .int (xs (6 * k + 1)), .int (xs (6 * k + 2))]) (rest := []) ⟨hx, hb, hml, hown, hts⟩ (ch_Lw_bounce l hfl D cI cZ cJ a ao _ _ _ _ _ _ hf) rfl (tb_goodC tc_Lw_bounce) (hts _ (List.mem_cons_of_mem _ tm_Lw_63)) (hts _ (List.mem_cons_of_mem _ ts_Lw_bounce)) (hts _ (List.mem_cons_of_mem _ tz_Lw)) (by decide +kernel) ⟨rfl, rfl, Nat.le_of_ble_eq_true rfl, Nat.le_of_ble_eq_true rfl⟩ (h_preS hE hK (wfl (law_h hw)) hAe) rfl rfl hl.1 rfl (lv_room (Nat.le_of_ble_eq_true rfl)) d_law_197 ⟨hcc, hss⟩) (fun r197 u197 H locs hw hf => ?_)
  refine lv_istore (pc := 200) (lv' := [(5, .int r197), (0, .ref b), (1, .ref (a 0)), (2, .ref (bm 0)), (3, .ref ao), (4, .int (nI (6 * k)))]) hx hb d_law_200 hl (by decide) rfl (fun ls hl => ?_)
  refine lv_aload_n (pc := 202) hx hb d_law_202 rfl (lv_at hl 3 rfl) ?_
  refine w_scr (pc := 203) (jv := 1) (j := 1) hx hb hX hbl hAe hw.2.2 hl 1 5 rfl rfl rfl (by omega) hL d_law_203 d_law_204 d_law_206 (by decide) d_law_207 d_law_208 ?_
  refine w_scr (pc := 209) (jv := 2) (j := 2) hx hb hX hbl hAe hw.2.2 hl 1 5 rfl rfl rfl (by omega) hL d_law_209 d_law_210 d_law_212 (by decide) d_law_213 d_law_214 ?_
  refine lq_mv (pc := 215) hw hA (va_runV (As := [.int (xs (6 * k + 1)), .int (xs (6 * k + 2))]) (rest := []) ⟨hx, hb, hml, hown, hts⟩ (c_Mo_bounce l D cI cZ cJ bm _ _ _ _ _ hf) (cwV 2 hts (tb_wsV tc_Mo_bounce tm_Lw_66 ti_Mo_bounce te_Mo_bounce tz_Mo) rfl rfl rfl (by decide +kernel) ⟨Nat.le_of_ble_eq_true rfl, Nat.le_of_ble_eq_true rfl⟩) (g_preV (q0 := 0) (ci := 9) hK (wfl (law_m hw)) rfl rfl) rfl rfl hl.1 rfl (lv_room (Nat.le_of_ble_eq_true rfl)) d_law_215 ⟨hcd1, hsd1⟩) (fun M215 H locs hw hf => ?_)
  refine lv_aload_n (pc := 218) hx hb d_law_218 rfl (lv_at hl 3 rfl) ?_
  refine vp_callSi (pc := 219) (W.runV (As := []) (rest := []) ⟨hx, hb, hml, hown, hts⟩ (c_Mo_thrown l D cI cZ cJ bm _  _ hf) (cwV 0 hts (tb_wsV tc_Mo_thrown tm_Lw_59 ti_Mo_thrown te_Mo_thrown tz_Mo) rfl rfl rfl (by decide +kernel) ⟨Nat.le_of_ble_eq_true rfl, Nat.le_of_ble_eq_true rfl⟩) (r_preV (q0 := 0) (ci := 9) hK (wfl (law_m hw)).1 rfl rfl) rfl rfl hl.1 rfl (lv_room (Nat.le_of_ble_eq_true rfl)) d_law_219 ⟨hcd1, hsd1⟩) (fun r219 hf => ?_)
  refine lv_iload (pc := 222) hx hb d_law_222 (lv_at hl 0 rfl) ?_
  refine lv_icmp_eq (pc := 224) (tgt := 229) hx hb d_law_224 (by decide) (fun hc => ?_) (fun hc => ?_)
  · replace hf := hf.1 hc
    refine lv_goto (pc := 229) (tgt := 794) hx hb d_law_229 (by decide) ?_
    exact kk _ _ _ _ _ _ (lv_sub hl [1, 2, 3, 4, 5] rfl) hw hf
  replace hf := hf.2 hc
  exact False.elim hf
def LC_2 (xs : Nat → Int32) (k : Nat) (K : GS → GS → (Nat → Int64) → Prop) (S M : GS) (o : Nat → Int64) : Prop := (wp_G_scan S (fun r233 S233 => (wp_Mo_scan M (fun r237 M237 => ((r233 = r237 → (K S233 M237 o)) ∧ (¬ r233 = r237 → False))))))
set_option maxHeartbeats 4000000 in
set_option maxRecDepth 100000 in
theorem lc_2 {p : Program} {l : Launch} {e : Env} {s : State} {m : MethodId} {below : List Frame} {meth : Method} {c : Code} {b L : Nat} {xs : Nat → Int32} {D : va_G} {cI cZ cJ : ClassId} {A : Nat → Prop} {a bm : Nat → Nat} {ao : Nat} {Q : State → Prop} (C : LawCtx p l s m meth c b L xs D cI cZ cJ A) {k : Nat} {K : GS → GS → (Nat → Int64) → Prop} {S M : GS} {o : Nat → Int64} {H : Heap} {locs : List Loc} {ls : Array Slot} {cells slots : Nat} (hk : 6 * k + 6 ≤ L) (hcc : cells + 1 ≤ room_1.cells) (hss : slots + 6 ≤ room_1.slots)
    (hl : lv_has ls 7 [(0, .ref b), (1, .ref (a 0)), (2, .ref (bm 0)), (3, .ref ao), (4, .int (nI (6 * k)))]) (hw : wf D A s.heap (lawW cI cZ cJ a bm ao S M o) H locs) (hf : LC_2 xs k K S M o)
    (kk : ∀ (S M : GS) (o : Nat → Int64) (H : Heap) (locs : List Loc) (ls : Array Slot), lv_has ls 7 [(0, .ref b), (1, .ref (a 0)), (2, .ref (bm 0)), (3, .ref ao), (4, .int (nI (6 * k)))] → wf D A s.heap (lawW cI cZ cJ a bm ao S M o) H locs → K S M o → W p l e room_1 s m #[Value.ref b] below meth c H locs (cells + 1) (slots + 6) Q (F0 m 794 ls [])) :
    W p l e room_1 s m #[Value.ref b] below meth c H locs cells slots Q (F0 m 232 ls []) := by
  obtain ⟨hx, hb, hml, hown, hts, hfl, hE, hK, hAA, hX, hbl, hL⟩ := C
  have hA : ∀ q, s.heap.size ≤ q → A q := fun q h => (hAA q).mpr h
  have hAe : ∀ q, A q → s.heap.size ≤ q := fun q h => (hAA q).mp h
  have hcd : cells + 0 ≤ room_1.cells := by omega
  have hsd : slots + 0 ≤ room_1.slots := by omega
  have hcd1 : cells + 1 + 0 ≤ room_1.cells := by omega
  have hsd1 : slots + 6 + 0 ≤ room_1.slots := by omega
  unfold LC_2 at hf
  refine lv_aload_n (pc := 232) hx hb d_law_232 rfl (lv_at hl 1 rfl) ?_
  refine lq_gi (pc := 233) hw hA (va_runV (As := []) (rest := []) ⟨hx, hb, hml, hown, hts⟩ (c_G_scan l D cI cZ cJ a _ _  _ hf) (cwV 0 hts (tb_wsV tc_G_scan tm_Lw_67 ti_G_scan te_G_scan tz_G) rfl rfl rfl (by decide +kernel) ⟨Nat.le_of_ble_eq_true rfl, Nat.le_of_ble_eq_true rfl⟩) (g_preV (q0 := 0) (ci := 0) hK (wfl hw) rfl rfl) rfl rfl hl.1 rfl (lv_room (Nat.le_of_ble_eq_true rfl)) d_law_233 ⟨hcd, hsd⟩) (fun r233 S233 H locs hw hf => ?_)
  refine lv_aload_n (pc := 236) hx hb d_law_236 rfl (lv_at hl 2 rfl) ?_
  refine lq_mi (pc := 237) hw hA (va_runV (As := []) (rest := [.int r233]) ⟨hx, hb, hml, hown, hts⟩ (c_Mo_scan l D cI cZ cJ bm _ _  _ hf) (cwV 0 hts (tb_wsV tc_Mo_scan tm_Lw_70 ti_Mo_scan te_Mo_scan tz_Mo) rfl rfl rfl (by decide +kernel) ⟨Nat.le_of_ble_eq_true rfl, Nat.le_of_ble_eq_true rfl⟩) (g_preV (q0 := 0) (ci := 9) hK (wfl (law_m hw)) rfl rfl) rfl rfl hl.1 rfl (lv_room (Nat.le_of_ble_eq_true rfl)) d_law_237 ⟨hcd, hsd⟩) (fun r237 M237 H locs hw hf => ?_)
  refine lv_icmp_eq (pc := 240) (tgt := 794) hx hb d_law_240 (by decide) (fun hc => ?_) (fun hc => ?_)
  · replace hf := hf.1 hc
    refine W.widen (k := cells + 1) (n := slots + 6) (by omega) (by omega) ?_
    exact kk _ _ _ _ _ _ (lv_sub hl [0, 1, 2, 3, 4] rfl) hw hf
  replace hf := hf.2 hc
  exact False.elim hf
def LC_3 (xs : Nat → Int32) (k : Nat) (K : GS → GS → (Nat → Int64) → Prop) (S M : GS) (o : Nat → Int64) : Prop := (wpH_Lw_scans S o (xs (6 * k + 1)) (fun r253 u253 => (wp_Mo_scans M (xs (6 * k + 1)) (fun r265 M265 => (wp_Mo_thrown M265 (fun r271 => ((r271 = r253 → ((r253 = (0 : Int32) → (((lg_cmp (u253.2 (0 : Int32).toNatClampNeg) r265.toInt64) = (0 : Int32) → (K u253.1 M265 u253.2)) ∧ (¬ (lg_cmp (u253.2 (0 : Int32).toNatClampNeg) r265.toInt64) = (0 : Int32) → False))) ∧ (¬ r253 = (0 : Int32) → (K u253.1 M265 u253.2)))) ∧ (¬ r271 = r253 → False))))))))
set_option maxHeartbeats 4000000 in
set_option maxRecDepth 100000 in
theorem lc_3 {p : Program} {l : Launch} {e : Env} {s : State} {m : MethodId} {below : List Frame} {meth : Method} {c : Code} {b L : Nat} {xs : Nat → Int32} {D : va_G} {cI cZ cJ : ClassId} {A : Nat → Prop} {a bm : Nat → Nat} {ao : Nat} {Q : State → Prop} (C : LawCtx p l s m meth c b L xs D cI cZ cJ A) {k : Nat} {K : GS → GS → (Nat → Int64) → Prop} {S M : GS} {o : Nat → Int64} {H : Heap} {locs : List Loc} {ls : Array Slot} {cells slots : Nat} (hk : 6 * k + 6 ≤ L) (hcc : cells + 1 ≤ room_1.cells) (hss : slots + 6 ≤ room_1.slots)
    (hl : lv_has ls 7 [(0, .ref b), (1, .ref (a 0)), (2, .ref (bm 0)), (3, .ref ao), (4, .int (nI (6 * k)))]) (hw : wf D A s.heap (lawW cI cZ cJ a bm ao S M o) H locs) (hf : LC_3 xs k K S M o)
    (kk : ∀ (S M : GS) (o : Nat → Int64) (H : Heap) (locs : List Loc) (ls : Array Slot), lv_has ls 7 [(0, .ref b), (1, .ref (a 0)), (2, .ref (bm 0)), (3, .ref ao), (4, .int (nI (6 * k)))] → wf D A s.heap (lawW cI cZ cJ a bm ao S M o) H locs → K S M o → W p l e room_1 s m #[Value.ref b] below meth c H locs (cells + 1) (slots + 6) Q (F0 m 794 ls [])) :
    W p l e room_1 s m #[Value.ref b] below meth c H locs cells slots Q (F0 m 245 ls []) := by
  obtain ⟨hx, hb, hml, hown, hts, hfl, hE, hK, hAA, hX, hbl, hL⟩ := C
  have hA : ∀ q, s.heap.size ≤ q → A q := fun q h => (hAA q).mpr h
  have hAe : ∀ q, A q → s.heap.size ≤ q := fun q h => (hAA q).mp h
  have hcd : cells + 0 ≤ room_1.cells := by omega
  have hsd : slots + 0 ≤ room_1.slots := by omega
  have hcd1 : cells + 1 + 0 ≤ room_1.cells := by omega
  have hsd1 : slots + 6 + 0 ≤ room_1.slots := by omega
  unfold LC_3 at hf
  refine lv_aload_n (pc := 245) hx hb d_law_245 rfl (lv_at hl 1 rfl) ?_
  refine w_scr (pc := 246) (jv := 1) (j := 1) hx hb hX hbl hAe hw.2.2 hl 0 4 rfl rfl rfl (by omega) hL d_law_246 d_law_247 d_law_249 (by decide) d_law_250 d_law_251 ?_
  refine lv_aload_n (pc := 252) hx hb d_law_252 rfl (lv_at hl 3 rfl) ?_
  refine lq_h (pc := 253) hw hA (va_runSW (n := 3) (As := [.ref (a 0), .int (xs (6 * k + 1)), .ref ao]) (rest := []) ⟨hx, hb, hml, hown, hts⟩ (ch_Lw_scans l hfl D cI cZ cJ a ao _ _ _ _ _ hf) rfl (tb_goodC tc_Lw_scans) (hts _ (List.mem_cons_of_mem _ tm_Lw_71)) (hts _ (List.mem_cons_of_mem _ ts_Lw_scans)) (hts _ (List.mem_cons_of_mem _ tz_Lw)) (by decide +kernel) ⟨rfl, rfl, Nat.le_of_ble_eq_true rfl, Nat.le_of_ble_eq_true rfl⟩ (h_preS hE hK (wfl (law_h hw)) hAe) rfl rfl hl.1 rfl (lv_room (Nat.le_of_ble_eq_true rfl)) d_law_253 ⟨hcc, hss⟩) (fun r253 u253 H locs hw hf => ?_)
  refine lv_istore (pc := 256) (lv' := [(5, .int r253), (0, .ref b), (1, .ref (a 0)), (2, .ref (bm 0)), (3, .ref ao), (4, .int (nI (6 * k)))]) hx hb d_law_256 hl (by decide) rfl (fun ls hl => ?_)
  refine lv_aload_n (pc := 258) hx hb d_law_258 rfl (lv_at hl 3 rfl) ?_
  refine w_scr (pc := 259) (jv := 1) (j := 1) hx hb hX hbl hAe hw.2.2 hl 1 5 rfl rfl rfl (by omega) hL d_law_259 d_law_260 d_law_262 (by decide) d_law_263 d_law_264 ?_
  refine lq_mi (pc := 265) hw hA (va_runV (As := [.int (xs (6 * k + 1))]) (rest := []) ⟨hx, hb, hml, hown, hts⟩ (c_Mo_scans l D cI cZ cJ bm _ _ _ _ hf) (cwV 1 hts (tb_wsV tc_Mo_scans tm_Lw_74 ti_Mo_scans te_Mo_scans tz_Mo) rfl rfl rfl (by decide +kernel) ⟨Nat.le_of_ble_eq_true rfl, Nat.le_of_ble_eq_true rfl⟩) (g_preV (q0 := 0) (ci := 9) hK (wfl (law_m hw)) rfl rfl) rfl rfl hl.1 rfl (lv_room (Nat.le_of_ble_eq_true rfl)) d_law_265 ⟨hcd1, hsd1⟩) (fun r265 M265 H locs hw hf => ?_)
  refine lv_istore (pc := 268) (lv' := [(6, .int r265), (5, .int r253), (0, .ref b), (1, .ref (a 0)), (2, .ref (bm 0)), (3, .ref ao), (4, .int (nI (6 * k)))]) hx hb d_law_268 hl (by decide) rfl (fun ls hl => ?_)
  refine lv_aload_n (pc := 270) hx hb d_law_270 rfl (lv_at hl 4 rfl) ?_
  refine vp_callSi (pc := 271) (W.runV (As := []) (rest := []) ⟨hx, hb, hml, hown, hts⟩ (c_Mo_thrown l D cI cZ cJ bm _  _ hf) (cwV 0 hts (tb_wsV tc_Mo_thrown tm_Lw_59 ti_Mo_thrown te_Mo_thrown tz_Mo) rfl rfl rfl (by decide +kernel) ⟨Nat.le_of_ble_eq_true rfl, Nat.le_of_ble_eq_true rfl⟩) (r_preV (q0 := 0) (ci := 9) hK (wfl (law_m hw)).1 rfl rfl) rfl rfl hl.1 rfl (lv_room (Nat.le_of_ble_eq_true rfl)) d_law_271 ⟨hcd1, hsd1⟩) (fun r271 hf => ?_)
  refine lv_iload (pc := 274) hx hb d_law_274 (lv_at hl 1 rfl) ?_
  refine lv_icmp_eq (pc := 276) (tgt := 281) hx hb d_law_276 (by decide) (fun hc => ?_) (fun hc => ?_)
  · replace hf := hf.1 hc
    refine lv_iload (pc := 281) hx hb d_law_281 (lv_at hl 1 rfl) ?_
    refine lv_if_ne (pc := 283) (tgt := 298) hx hb d_law_283 (by decide) (fun hc => ?_) (fun hc => ?_)
    · replace hf := hf.2 hc
      refine lv_goto (pc := 298) (tgt := 794) hx hb d_law_298 (by decide) ?_
      exact kk _ _ _ _ _ _ (lv_sub hl [2, 3, 4, 5, 6] rfl) hw hf
    replace hf := hf.1 hc
    refine lv_aload_n (pc := 286) hx hb d_law_286 rfl (lv_at hl 5 rfl) ?_
    refine lv_iconst (pc := 287) (v := 0) hx hb d_law_287 (by decide) ?_
    refine va_lald (pc := 288) hx hb hK hw.1 49 2 rfl rfl in01 d_law_288 ?_
    refine lv_iload (pc := 289) hx hb d_law_289 (lv_at hl 0 rfl) ?_
    refine lv_i2l (pc := 291) hx hb d_law_291 rfl ?_
    refine W.lcmp (pc := 292) hx hb d_law_292 ?_
    refine lv_if_eq (pc := 293) (tgt := 298) hx hb d_law_293 (by decide) (fun hc => ?_) (fun hc => ?_)
    · replace hf := hf.1 hc
      refine lv_goto (pc := 298) (tgt := 794) hx hb d_law_298 (by decide) ?_
      exact kk _ _ _ _ _ _ (lv_sub hl [2, 3, 4, 5, 6] rfl) hw hf
    replace hf := hf.2 hc
    exact False.elim hf
  replace hf := hf.2 hc
  exact False.elim hf
def LC_4 (xs : Nat → Int32) (k : Nat) (K : GS → GS → (Nat → Int64) → Prop) (S M : GS) (o : Nat → Int64) : Prop := (wp_G_poll S (fun r302 S302 => (wp_Mo_poll M (fun r306 M306 => ((r302 = r306 → (K S302 M306 o)) ∧ (¬ r302 = r306 → False))))))
set_option maxHeartbeats 4000000 in
set_option maxRecDepth 100000 in
theorem lc_4 {p : Program} {l : Launch} {e : Env} {s : State} {m : MethodId} {below : List Frame} {meth : Method} {c : Code} {b L : Nat} {xs : Nat → Int32} {D : va_G} {cI cZ cJ : ClassId} {A : Nat → Prop} {a bm : Nat → Nat} {ao : Nat} {Q : State → Prop} (C : LawCtx p l s m meth c b L xs D cI cZ cJ A) {k : Nat} {K : GS → GS → (Nat → Int64) → Prop} {S M : GS} {o : Nat → Int64} {H : Heap} {locs : List Loc} {ls : Array Slot} {cells slots : Nat} (hk : 6 * k + 6 ≤ L) (hcc : cells + 1 ≤ room_1.cells) (hss : slots + 6 ≤ room_1.slots)
    (hl : lv_has ls 7 [(0, .ref b), (1, .ref (a 0)), (2, .ref (bm 0)), (3, .ref ao), (4, .int (nI (6 * k)))]) (hw : wf D A s.heap (lawW cI cZ cJ a bm ao S M o) H locs) (hf : LC_4 xs k K S M o)
    (kk : ∀ (S M : GS) (o : Nat → Int64) (H : Heap) (locs : List Loc) (ls : Array Slot), lv_has ls 7 [(0, .ref b), (1, .ref (a 0)), (2, .ref (bm 0)), (3, .ref ao), (4, .int (nI (6 * k)))] → wf D A s.heap (lawW cI cZ cJ a bm ao S M o) H locs → K S M o → W p l e room_1 s m #[Value.ref b] below meth c H locs (cells + 1) (slots + 6) Q (F0 m 794 ls [])) :
    W p l e room_1 s m #[Value.ref b] below meth c H locs cells slots Q (F0 m 301 ls []) := by
  obtain ⟨hx, hb, hml, hown, hts, hfl, hE, hK, hAA, hX, hbl, hL⟩ := C
  have hA : ∀ q, s.heap.size ≤ q → A q := fun q h => (hAA q).mpr h
  have hAe : ∀ q, A q → s.heap.size ≤ q := fun q h => (hAA q).mp h
  have hcd : cells + 0 ≤ room_1.cells := by omega
  have hsd : slots + 0 ≤ room_1.slots := by omega
  have hcd1 : cells + 1 + 0 ≤ room_1.cells := by omega
  have hsd1 : slots + 6 + 0 ≤ room_1.slots := by omega
  unfold LC_4 at hf
  refine lv_aload_n (pc := 301) hx hb d_law_301 rfl (lv_at hl 1 rfl) ?_
  refine lq_gi (pc := 302) hw hA (va_runV (As := []) (rest := []) ⟨hx, hb, hml, hown, hts⟩ (c_G_poll l D cI cZ cJ a _ _  _ hf) (cwV 0 hts (tb_wsV tc_G_poll tm_Lw_75 ti_G_poll te_G_poll tz_G) rfl rfl rfl (by decide +kernel) ⟨Nat.le_of_ble_eq_true rfl, Nat.le_of_ble_eq_true rfl⟩) (g_preV (q0 := 0) (ci := 0) hK (wfl hw) rfl rfl) rfl rfl hl.1 rfl (lv_room (Nat.le_of_ble_eq_true rfl)) d_law_302 ⟨hcd, hsd⟩) (fun r302 S302 H locs hw hf => ?_)
  refine lv_aload_n (pc := 305) hx hb d_law_305 rfl (lv_at hl 2 rfl) ?_
  refine lq_mi (pc := 306) hw hA (va_runV (As := []) (rest := [.int r302]) ⟨hx, hb, hml, hown, hts⟩ (c_Mo_poll l D cI cZ cJ bm _ _  _ hf) (cwV 0 hts (tb_wsV tc_Mo_poll tm_Lw_79 ti_Mo_poll te_Mo_poll tz_Mo) rfl rfl rfl (by decide +kernel) ⟨Nat.le_of_ble_eq_true rfl, Nat.le_of_ble_eq_true rfl⟩) (g_preV (q0 := 0) (ci := 9) hK (wfl (law_m hw)) rfl rfl) rfl rfl hl.1 rfl (lv_room (Nat.le_of_ble_eq_true rfl)) d_law_306 ⟨hcd, hsd⟩) (fun r306 M306 H locs hw hf => ?_)
  refine lv_icmp_eq (pc := 309) (tgt := 794) hx hb d_law_309 (by decide) (fun hc => ?_) (fun hc => ?_)
  · replace hf := hf.1 hc
    refine W.widen (k := cells + 1) (n := slots + 6) (by omega) (by omega) ?_
    exact kk _ _ _ _ _ _ (lv_sub hl [0, 1, 2, 3, 4] rfl) hw hf
  replace hf := hf.2 hc
  exact False.elim hf
def LC_5 (xs : Nat → Int32) (k : Nat) (K : GS → GS → (Nat → Int64) → Prop) (S M : GS) (o : Nat → Int64) : Prop := (wp_G_report S (xs (6 * k + 1)) (fun r321 => (wp_Mo_report M (xs (6 * k + 1)) (fun r331 M331 => ((r321 = r331 → (K S M331 o)) ∧ (¬ r321 = r331 → False))))))
set_option maxHeartbeats 4000000 in
set_option maxRecDepth 100000 in
theorem lc_5 {p : Program} {l : Launch} {e : Env} {s : State} {m : MethodId} {below : List Frame} {meth : Method} {c : Code} {b L : Nat} {xs : Nat → Int32} {D : va_G} {cI cZ cJ : ClassId} {A : Nat → Prop} {a bm : Nat → Nat} {ao : Nat} {Q : State → Prop} (C : LawCtx p l s m meth c b L xs D cI cZ cJ A) {k : Nat} {K : GS → GS → (Nat → Int64) → Prop} {S M : GS} {o : Nat → Int64} {H : Heap} {locs : List Loc} {ls : Array Slot} {cells slots : Nat} (hk : 6 * k + 6 ≤ L) (hcc : cells + 1 ≤ room_1.cells) (hss : slots + 6 ≤ room_1.slots)
    (hl : lv_has ls 7 [(0, .ref b), (1, .ref (a 0)), (2, .ref (bm 0)), (3, .ref ao), (4, .int (nI (6 * k)))]) (hw : wf D A s.heap (lawW cI cZ cJ a bm ao S M o) H locs) (hf : LC_5 xs k K S M o)
    (kk : ∀ (S M : GS) (o : Nat → Int64) (H : Heap) (locs : List Loc) (ls : Array Slot), lv_has ls 7 [(0, .ref b), (1, .ref (a 0)), (2, .ref (bm 0)), (3, .ref ao), (4, .int (nI (6 * k)))] → wf D A s.heap (lawW cI cZ cJ a bm ao S M o) H locs → K S M o → W p l e room_1 s m #[Value.ref b] below meth c H locs (cells + 1) (slots + 6) Q (F0 m 794 ls [])) :
    W p l e room_1 s m #[Value.ref b] below meth c H locs cells slots Q (F0 m 314 ls []) := by
  obtain ⟨hx, hb, hml, hown, hts, hfl, hE, hK, hAA, hX, hbl, hL⟩ := C
  have hA : ∀ q, s.heap.size ≤ q → A q := fun q h => (hAA q).mpr h
  have hAe : ∀ q, A q → s.heap.size ≤ q := fun q h => (hAA q).mp h
  have hcd : cells + 0 ≤ room_1.cells := by omega
  have hsd : slots + 0 ≤ room_1.slots := by omega
  have hcd1 : cells + 1 + 0 ≤ room_1.cells := by omega
  have hsd1 : slots + 6 + 0 ≤ room_1.slots := by omega
  unfold LC_5 at hf
  refine lv_aload_n (pc := 314) hx hb d_law_314 rfl (lv_at hl 1 rfl) ?_
  refine w_scr (pc := 315) (jv := 1) (j := 1) hx hb hX hbl hAe hw.2.2 hl 0 4 rfl rfl rfl (by omega) hL d_law_315 d_law_316 d_law_318 (by decide) d_law_319 d_law_320 ?_
  refine vp_callSi (pc := 321) (W.runV (As := [.int (xs (6 * k + 1))]) (rest := []) ⟨hx, hb, hml, hown, hts⟩ (c_G_report l D cI cZ cJ a _ _ _ hf) (cwV 1 hts (tb_wsV tc_G_report tm_Lw_80 ti_G_report te_G_report tz_G) rfl rfl rfl (by decide +kernel) ⟨Nat.le_of_ble_eq_true rfl, Nat.le_of_ble_eq_true rfl⟩) (r_preV (q0 := 0) (ci := 0) hK (wfl hw).1 rfl rfl) rfl rfl hl.1 rfl (lv_room (Nat.le_of_ble_eq_true rfl)) d_law_321 ⟨hcd, hsd⟩) (fun r321 hf => ?_)
  refine lv_aload_n (pc := 324) hx hb d_law_324 rfl (lv_at hl 2 rfl) ?_
  refine w_scr (pc := 325) (jv := 1) (j := 1) hx hb hX hbl hAe hw.2.2 hl 0 4 rfl rfl rfl (by omega) hL d_law_325 d_law_326 d_law_328 (by decide) d_law_329 d_law_330 ?_
  refine lq_mi (pc := 331) hw hA (va_runV (As := [.int (xs (6 * k + 1))]) (rest := [.int r321]) ⟨hx, hb, hml, hown, hts⟩ (c_Mo_report l D cI cZ cJ bm _ _ _ _ hf) (cwV 1 hts (tb_wsV tc_Mo_report tm_Lw_83 ti_Mo_report te_Mo_report tz_Mo) rfl rfl rfl (by decide +kernel) ⟨Nat.le_of_ble_eq_true rfl, Nat.le_of_ble_eq_true rfl⟩) (g_preV (q0 := 0) (ci := 9) hK (wfl (law_m hw)) rfl rfl) rfl rfl hl.1 rfl (lv_room (Nat.le_of_ble_eq_true rfl)) d_law_331 ⟨hcd, hsd⟩) (fun r331 M331 H locs hw hf => ?_)
  refine lv_icmp_eq (pc := 334) (tgt := 794) hx hb d_law_334 (by decide) (fun hc => ?_) (fun hc => ?_)
  · replace hf := hf.1 hc
    refine W.widen (k := cells + 1) (n := slots + 6) (by omega) (by omega) ?_
    exact kk _ _ _ _ _ _ (lv_sub hl [0, 1, 2, 3, 4] rfl) hw hf
  replace hf := hf.2 hc
  exact False.elim hf
def LC_6 (xs : Nat → Int32) (k : Nat) (K : GS → GS → (Nat → Int64) → Prop) (S M : GS) (o : Nat → Int64) : Prop := (wp_G_waiting S (fun r340 => (wp_Mo_waiting M (fun r344 M344 => ((r340 = r344 → (K S M344 o)) ∧ (¬ r340 = r344 → False))))))
set_option maxHeartbeats 4000000 in
set_option maxRecDepth 100000 in
theorem lc_6 {p : Program} {l : Launch} {e : Env} {s : State} {m : MethodId} {below : List Frame} {meth : Method} {c : Code} {b L : Nat} {xs : Nat → Int32} {D : va_G} {cI cZ cJ : ClassId} {A : Nat → Prop} {a bm : Nat → Nat} {ao : Nat} {Q : State → Prop} (C : LawCtx p l s m meth c b L xs D cI cZ cJ A) {k : Nat} {K : GS → GS → (Nat → Int64) → Prop} {S M : GS} {o : Nat → Int64} {H : Heap} {locs : List Loc} {ls : Array Slot} {cells slots : Nat} (hk : 6 * k + 6 ≤ L) (hcc : cells + 1 ≤ room_1.cells) (hss : slots + 6 ≤ room_1.slots)
    (hl : lv_has ls 7 [(0, .ref b), (1, .ref (a 0)), (2, .ref (bm 0)), (3, .ref ao), (4, .int (nI (6 * k)))]) (hw : wf D A s.heap (lawW cI cZ cJ a bm ao S M o) H locs) (hf : LC_6 xs k K S M o)
    (kk : ∀ (S M : GS) (o : Nat → Int64) (H : Heap) (locs : List Loc) (ls : Array Slot), lv_has ls 7 [(0, .ref b), (1, .ref (a 0)), (2, .ref (bm 0)), (3, .ref ao), (4, .int (nI (6 * k)))] → wf D A s.heap (lawW cI cZ cJ a bm ao S M o) H locs → K S M o → W p l e room_1 s m #[Value.ref b] below meth c H locs (cells + 1) (slots + 6) Q (F0 m 794 ls [])) :
    W p l e room_1 s m #[Value.ref b] below meth c H locs cells slots Q (F0 m 339 ls []) := by
  obtain ⟨hx, hb, hml, hown, hts, hfl, hE, hK, hAA, hX, hbl, hL⟩ := C
  have hA : ∀ q, s.heap.size ≤ q → A q := fun q h => (hAA q).mpr h
  have hAe : ∀ q, A q → s.heap.size ≤ q := fun q h => (hAA q).mp h
  have hcd : cells + 0 ≤ room_1.cells := by omega
  have hsd : slots + 0 ≤ room_1.slots := by omega
  have hcd1 : cells + 1 + 0 ≤ room_1.cells := by omega
  have hsd1 : slots + 6 + 0 ≤ room_1.slots := by omega
  unfold LC_6 at hf
  refine lv_aload_n (pc := 339) hx hb d_law_339 rfl (lv_at hl 1 rfl) ?_
  refine vp_callSi (pc := 340) (W.runV (As := []) (rest := []) ⟨hx, hb, hml, hown, hts⟩ (c_G_waiting l D cI cZ cJ a _  _ hf) (cwV 0 hts (tb_wsV tc_G_waiting tm_Lw_84 ti_G_waiting te_G_waiting tz_G) rfl rfl rfl (by decide +kernel) ⟨Nat.le_of_ble_eq_true rfl, Nat.le_of_ble_eq_true rfl⟩) (r_preV (q0 := 0) (ci := 0) hK (wfl hw).1 rfl rfl) rfl rfl hl.1 rfl (lv_room (Nat.le_of_ble_eq_true rfl)) d_law_340 ⟨hcd, hsd⟩) (fun r340 hf => ?_)
  refine lv_aload_n (pc := 343) hx hb d_law_343 rfl (lv_at hl 2 rfl) ?_
  refine lq_mi (pc := 344) hw hA (va_runV (As := []) (rest := [.int r340]) ⟨hx, hb, hml, hown, hts⟩ (c_Mo_waiting l D cI cZ cJ bm _ _  _ hf) (cwV 0 hts (tb_wsV tc_Mo_waiting tm_Lw_87 ti_Mo_waiting te_Mo_waiting tz_Mo) rfl rfl rfl (by decide +kernel) ⟨Nat.le_of_ble_eq_true rfl, Nat.le_of_ble_eq_true rfl⟩) (g_preV (q0 := 0) (ci := 9) hK (wfl (law_m hw)) rfl rfl) rfl rfl hl.1 rfl (lv_room (Nat.le_of_ble_eq_true rfl)) d_law_344 ⟨hcd, hsd⟩) (fun r344 M344 H locs hw hf => ?_)
  refine lv_icmp_eq (pc := 347) (tgt := 794) hx hb d_law_347 (by decide) (fun hc => ?_) (fun hc => ?_)
  · replace hf := hf.1 hc
    refine W.widen (k := cells + 1) (n := slots + 6) (by omega) (by omega) ?_
    exact kk _ _ _ _ _ _ (lv_sub hl [0, 1, 2, 3, 4] rfl) hw hf
  replace hf := hf.2 hc
  exact False.elim hf
def LC_7 (xs : Nat → Int32) (k : Nat) (K : GS → GS → (Nat → Int64) → Prop) (S M : GS) (o : Nat → Int64) : Prop := (wp_G_late S (fun r353 => (wp_Mo_late M (fun r357 M357 => ((r353 = r357 → (K S M357 o)) ∧ (¬ r353 = r357 → False))))))
set_option maxHeartbeats 4000000 in
set_option maxRecDepth 100000 in
theorem lc_7 {p : Program} {l : Launch} {e : Env} {s : State} {m : MethodId} {below : List Frame} {meth : Method} {c : Code} {b L : Nat} {xs : Nat → Int32} {D : va_G} {cI cZ cJ : ClassId} {A : Nat → Prop} {a bm : Nat → Nat} {ao : Nat} {Q : State → Prop} (C : LawCtx p l s m meth c b L xs D cI cZ cJ A) {k : Nat} {K : GS → GS → (Nat → Int64) → Prop} {S M : GS} {o : Nat → Int64} {H : Heap} {locs : List Loc} {ls : Array Slot} {cells slots : Nat} (hk : 6 * k + 6 ≤ L) (hcc : cells + 1 ≤ room_1.cells) (hss : slots + 6 ≤ room_1.slots)
    (hl : lv_has ls 7 [(0, .ref b), (1, .ref (a 0)), (2, .ref (bm 0)), (3, .ref ao), (4, .int (nI (6 * k)))]) (hw : wf D A s.heap (lawW cI cZ cJ a bm ao S M o) H locs) (hf : LC_7 xs k K S M o)
    (kk : ∀ (S M : GS) (o : Nat → Int64) (H : Heap) (locs : List Loc) (ls : Array Slot), lv_has ls 7 [(0, .ref b), (1, .ref (a 0)), (2, .ref (bm 0)), (3, .ref ao), (4, .int (nI (6 * k)))] → wf D A s.heap (lawW cI cZ cJ a bm ao S M o) H locs → K S M o → W p l e room_1 s m #[Value.ref b] below meth c H locs (cells + 1) (slots + 6) Q (F0 m 794 ls [])) :
    W p l e room_1 s m #[Value.ref b] below meth c H locs cells slots Q (F0 m 352 ls []) := by
  obtain ⟨hx, hb, hml, hown, hts, hfl, hE, hK, hAA, hX, hbl, hL⟩ := C
  have hA : ∀ q, s.heap.size ≤ q → A q := fun q h => (hAA q).mpr h
  have hAe : ∀ q, A q → s.heap.size ≤ q := fun q h => (hAA q).mp h
  have hcd : cells + 0 ≤ room_1.cells := by omega
  have hsd : slots + 0 ≤ room_1.slots := by omega
  have hcd1 : cells + 1 + 0 ≤ room_1.cells := by omega
  have hsd1 : slots + 6 + 0 ≤ room_1.slots := by omega
  unfold LC_7 at hf
  refine lv_aload_n (pc := 352) hx hb d_law_352 rfl (lv_at hl 1 rfl) ?_
  refine vp_callSi (pc := 353) (W.runV (As := []) (rest := []) ⟨hx, hb, hml, hown, hts⟩ (c_G_late l D cI cZ cJ a _  _ hf) (cwV 0 hts (tb_wsV tc_G_late tm_Lw_88 ti_G_late te_G_late tz_G) rfl rfl rfl (by decide +kernel) ⟨Nat.le_of_ble_eq_true rfl, Nat.le_of_ble_eq_true rfl⟩) (r_preV (q0 := 0) (ci := 0) hK (wfl hw).1 rfl rfl) rfl rfl hl.1 rfl (lv_room (Nat.le_of_ble_eq_true rfl)) d_law_353 ⟨hcd, hsd⟩) (fun r353 hf => ?_)
  refine lv_aload_n (pc := 356) hx hb d_law_356 rfl (lv_at hl 2 rfl) ?_
  refine lq_mi (pc := 357) hw hA (va_runV (As := []) (rest := [.int r353]) ⟨hx, hb, hml, hown, hts⟩ (c_Mo_late l D cI cZ cJ bm _ _  _ hf) (cwV 0 hts (tb_wsV tc_Mo_late tm_Lw_91 ti_Mo_late te_Mo_late tz_Mo) rfl rfl rfl (by decide +kernel) ⟨Nat.le_of_ble_eq_true rfl, Nat.le_of_ble_eq_true rfl⟩) (g_preV (q0 := 0) (ci := 9) hK (wfl (law_m hw)) rfl rfl) rfl rfl hl.1 rfl (lv_room (Nat.le_of_ble_eq_true rfl)) d_law_357 ⟨hcd, hsd⟩) (fun r357 M357 H locs hw hf => ?_)
  refine lv_icmp_eq (pc := 360) (tgt := 794) hx hb d_law_360 (by decide) (fun hc => ?_) (fun hc => ?_)
  · replace hf := hf.1 hc
    refine W.widen (k := cells + 1) (n := slots + 6) (by omega) (by omega) ?_
    exact kk _ _ _ _ _ _ (lv_sub hl [0, 1, 2, 3, 4] rfl) hw hf
  replace hf := hf.2 hc
  exact False.elim hf
def LC_8 (xs : Nat → Int32) (k : Nat) (K : GS → GS → (Nat → Int64) → Prop) (S M : GS) (o : Nat → Int64) : Prop := (wpH_Lw_map S o (xs (6 * k + 1)) (xs (6 * k + 2)) (xs (6 * k + 3)) (xs (6 * k + 4)) (xs (6 * k + 5)) (fun r396 u396 => (wp_Mo_map M (xs (6 * k + 1)) (xs (6 * k + 2)) (xs (6 * k + 3)) (xs (6 * k + 4)) (xs (6 * k + 5)) (fun M432 => (wp_Mo_thrown M432 (fun r436 => ((r436 = r396 → (K u396.1 M432 u396.2)) ∧ (¬ r436 = r396 → False))))))))
set_option maxHeartbeats 4000000 in
set_option maxRecDepth 100000 in
theorem lc_8 {p : Program} {l : Launch} {e : Env} {s : State} {m : MethodId} {below : List Frame} {meth : Method} {c : Code} {b L : Nat} {xs : Nat → Int32} {D : va_G} {cI cZ cJ : ClassId} {A : Nat → Prop} {a bm : Nat → Nat} {ao : Nat} {Q : State → Prop} (C : LawCtx p l s m meth c b L xs D cI cZ cJ A) {k : Nat} {K : GS → GS → (Nat → Int64) → Prop} {S M : GS} {o : Nat → Int64} {H : Heap} {locs : List Loc} {ls : Array Slot} {cells slots : Nat} (hk : 6 * k + 6 ≤ L) (hcc : cells + 1 ≤ room_1.cells) (hss : slots + 6 ≤ room_1.slots)
    (hl : lv_has ls 7 [(0, .ref b), (1, .ref (a 0)), (2, .ref (bm 0)), (3, .ref ao), (4, .int (nI (6 * k)))]) (hw : wf D A s.heap (lawW cI cZ cJ a bm ao S M o) H locs) (hf : LC_8 xs k K S M o)
    (kk : ∀ (S M : GS) (o : Nat → Int64) (H : Heap) (locs : List Loc) (ls : Array Slot), lv_has ls 7 [(0, .ref b), (1, .ref (a 0)), (2, .ref (bm 0)), (3, .ref ao), (4, .int (nI (6 * k)))] → wf D A s.heap (lawW cI cZ cJ a bm ao S M o) H locs → K S M o → W p l e room_1 s m #[Value.ref b] below meth c H locs (cells + 1) (slots + 6) Q (F0 m 794 ls [])) :
    W p l e room_1 s m #[Value.ref b] below meth c H locs cells slots Q (F0 m 365 ls []) := by
  obtain ⟨hx, hb, hml, hown, hts, hfl, hE, hK, hAA, hX, hbl, hL⟩ := C
  have hA : ∀ q, s.heap.size ≤ q → A q := fun q h => (hAA q).mpr h
  have hAe : ∀ q, A q → s.heap.size ≤ q := fun q h => (hAA q).mp h
  have hcd : cells + 0 ≤ room_1.cells := by omega
  have hsd : slots + 0 ≤ room_1.slots := by omega
  have hcd1 : cells + 1 + 0 ≤ room_1.cells := by omega
  have hsd1 : slots + 6 + 0 ≤ room_1.slots := by omega
  unfold LC_8 at hf
  refine lv_aload_n (pc := 365) hx hb d_law_365 rfl (lv_at hl 1 rfl) ?_
  refine w_scr (pc := 366) (jv := 1) (j := 1) hx hb hX hbl hAe hw.2.2 hl 0 4 rfl rfl rfl (by omega) hL d_law_366 d_law_367 d_law_369 (by decide) d_law_370 d_law_371 ?_
  refine w_scr (pc := 372) (jv := 2) (j := 2) hx hb hX hbl hAe hw.2.2 hl 0 4 rfl rfl rfl (by omega) hL d_law_372 d_law_373 d_law_375 (by decide) d_law_376 d_law_377 ?_
  refine w_scr (pc := 378) (jv := 3) (j := 3) hx hb hX hbl hAe hw.2.2 hl 0 4 rfl rfl rfl (by omega) hL d_law_378 d_law_379 d_law_381 (by decide) d_law_382 d_law_383 ?_
  refine w_scr (pc := 384) (jv := 4) (j := 4) hx hb hX hbl hAe hw.2.2 hl 0 4 rfl rfl rfl (by omega) hL d_law_384 d_law_385 d_law_387 (by decide) d_law_388 d_law_389 ?_
  refine w_scr (pc := 390) (jv := 5) (j := 5) hx hb hX hbl hAe hw.2.2 hl 0 4 rfl rfl rfl (by omega) hL d_law_390 d_law_391 d_law_393 (by decide) d_law_394 d_law_395 ?_
  refine lq_h (pc := 396) hw hA (va_runSW (n := 6) (As := [.ref (a 0), .int (xs (6 * k + 1)), .int (xs (6 * k + 2)), .int (xs (6 * k + 3)), .int (xs (6 * k + 4)), .int (xs (6 * k + 5))]) (rest := []) ⟨hx, hb, hml, hown, hts⟩ (ch_Lw_map l hfl D cI cZ cJ a ao _ _ _ _ _ _ _ _ _ hf) rfl (tb_goodC tc_Lw_map) (hts _ (List.mem_cons_of_mem _ tm_Lw_92)) (hts _ (List.mem_cons_of_mem _ ts_Lw_map)) (hts _ (List.mem_cons_of_mem _ tz_Lw)) (by decide +kernel) ⟨rfl, rfl, Nat.le_of_ble_eq_true rfl, Nat.le_of_ble_eq_true rfl⟩ (h_preS hE hK (wfl (law_h hw)) hAe) rfl rfl hl.1 rfl (lv_room (Nat.le_of_ble_eq_true rfl)) d_law_396 ⟨hcc, hss⟩) (fun r396 u396 H locs hw hf => ?_)
  refine lv_istore (pc := 399) (lv' := [(5, .int r396), (0, .ref b), (1, .ref (a 0)), (2, .ref (bm 0)), (3, .ref ao), (4, .int (nI (6 * k)))]) hx hb d_law_399 hl (by decide) rfl (fun ls hl => ?_)
  refine lv_aload_n (pc := 401) hx hb d_law_401 rfl (lv_at hl 3 rfl) ?_
  refine w_scr (pc := 402) (jv := 1) (j := 1) hx hb hX hbl hAe hw.2.2 hl 1 5 rfl rfl rfl (by omega) hL d_law_402 d_law_403 d_law_405 (by decide) d_law_406 d_law_407 ?_
  refine w_scr (pc := 408) (jv := 2) (j := 2) hx hb hX hbl hAe hw.2.2 hl 1 5 rfl rfl rfl (by omega) hL d_law_408 d_law_409 d_law_411 (by decide) d_law_412 d_law_413 ?_
  refine w_scr (pc := 414) (jv := 3) (j := 3) hx hb hX hbl hAe hw.2.2 hl 1 5 rfl rfl rfl (by omega) hL d_law_414 d_law_415 d_law_417 (by decide) d_law_418 d_law_419 ?_
  refine w_scr (pc := 420) (jv := 4) (j := 4) hx hb hX hbl hAe hw.2.2 hl 1 5 rfl rfl rfl (by omega) hL d_law_420 d_law_421 d_law_423 (by decide) d_law_424 d_law_425 ?_
  refine w_scr (pc := 426) (jv := 5) (j := 5) hx hb hX hbl hAe hw.2.2 hl 1 5 rfl rfl rfl (by omega) hL d_law_426 d_law_427 d_law_429 (by decide) d_law_430 d_law_431 ?_
  refine lq_mv (pc := 432) hw hA (va_runV (As := [.int (xs (6 * k + 1)), .int (xs (6 * k + 2)), .int (xs (6 * k + 3)), .int (xs (6 * k + 4)), .int (xs (6 * k + 5))]) (rest := []) ⟨hx, hb, hml, hown, hts⟩ (c_Mo_map l D cI cZ cJ bm _ _ _ _ _ _ _ _ hf) (cwV 5 hts (tb_wsV tc_Mo_map tm_Lw_95 ti_Mo_map te_Mo_map tz_Mo) rfl rfl rfl (by decide +kernel) ⟨Nat.le_of_ble_eq_true rfl, Nat.le_of_ble_eq_true rfl⟩) (g_preV (q0 := 0) (ci := 9) hK (wfl (law_m hw)) rfl rfl) rfl rfl hl.1 rfl (lv_room (Nat.le_of_ble_eq_true rfl)) d_law_432 ⟨hcd1, hsd1⟩) (fun M432 H locs hw hf => ?_)
  refine lv_aload_n (pc := 435) hx hb d_law_435 rfl (lv_at hl 3 rfl) ?_
  refine vp_callSi (pc := 436) (W.runV (As := []) (rest := []) ⟨hx, hb, hml, hown, hts⟩ (c_Mo_thrown l D cI cZ cJ bm _  _ hf) (cwV 0 hts (tb_wsV tc_Mo_thrown tm_Lw_59 ti_Mo_thrown te_Mo_thrown tz_Mo) rfl rfl rfl (by decide +kernel) ⟨Nat.le_of_ble_eq_true rfl, Nat.le_of_ble_eq_true rfl⟩) (r_preV (q0 := 0) (ci := 9) hK (wfl (law_m hw)).1 rfl rfl) rfl rfl hl.1 rfl (lv_room (Nat.le_of_ble_eq_true rfl)) d_law_436 ⟨hcd1, hsd1⟩) (fun r436 hf => ?_)
  refine lv_iload (pc := 439) hx hb d_law_439 (lv_at hl 0 rfl) ?_
  refine lv_icmp_eq (pc := 441) (tgt := 446) hx hb d_law_441 (by decide) (fun hc => ?_) (fun hc => ?_)
  · replace hf := hf.1 hc
    refine lv_goto (pc := 446) (tgt := 794) hx hb d_law_446 (by decide) ?_
    exact kk _ _ _ _ _ _ (lv_sub hl [1, 2, 3, 4, 5] rfl) hw hf
  replace hf := hf.2 hc
  exact False.elim hf
def LC_9 (xs : Nat → Int32) (k : Nat) (K : GS → GS → (Nat → Int64) → Prop) (S M : GS) (o : Nat → Int64) : Prop := (wpH_Lw_macro S o (xs (6 * k + 1)) (xs (6 * k + 2)) (xs (6 * k + 3)) (fun r468 u468 => (wp_Mo_macro M (xs (6 * k + 1)) (xs (6 * k + 2)) (xs (6 * k + 3)) (fun M492 => (wp_Mo_thrown M492 (fun r496 => ((r496 = r468 → (K u468.1 M492 u468.2)) ∧ (¬ r496 = r468 → False))))))))
set_option maxHeartbeats 4000000 in
set_option maxRecDepth 100000 in
theorem lc_9 {p : Program} {l : Launch} {e : Env} {s : State} {m : MethodId} {below : List Frame} {meth : Method} {c : Code} {b L : Nat} {xs : Nat → Int32} {D : va_G} {cI cZ cJ : ClassId} {A : Nat → Prop} {a bm : Nat → Nat} {ao : Nat} {Q : State → Prop} (C : LawCtx p l s m meth c b L xs D cI cZ cJ A) {k : Nat} {K : GS → GS → (Nat → Int64) → Prop} {S M : GS} {o : Nat → Int64} {H : Heap} {locs : List Loc} {ls : Array Slot} {cells slots : Nat} (hk : 6 * k + 6 ≤ L) (hcc : cells + 1 ≤ room_1.cells) (hss : slots + 6 ≤ room_1.slots)
    (hl : lv_has ls 7 [(0, .ref b), (1, .ref (a 0)), (2, .ref (bm 0)), (3, .ref ao), (4, .int (nI (6 * k)))]) (hw : wf D A s.heap (lawW cI cZ cJ a bm ao S M o) H locs) (hf : LC_9 xs k K S M o)
    (kk : ∀ (S M : GS) (o : Nat → Int64) (H : Heap) (locs : List Loc) (ls : Array Slot), lv_has ls 7 [(0, .ref b), (1, .ref (a 0)), (2, .ref (bm 0)), (3, .ref ao), (4, .int (nI (6 * k)))] → wf D A s.heap (lawW cI cZ cJ a bm ao S M o) H locs → K S M o → W p l e room_1 s m #[Value.ref b] below meth c H locs (cells + 1) (slots + 6) Q (F0 m 794 ls [])) :
    W p l e room_1 s m #[Value.ref b] below meth c H locs cells slots Q (F0 m 449 ls []) := by
  obtain ⟨hx, hb, hml, hown, hts, hfl, hE, hK, hAA, hX, hbl, hL⟩ := C
  have hA : ∀ q, s.heap.size ≤ q → A q := fun q h => (hAA q).mpr h
  have hAe : ∀ q, A q → s.heap.size ≤ q := fun q h => (hAA q).mp h
  have hcd : cells + 0 ≤ room_1.cells := by omega
  have hsd : slots + 0 ≤ room_1.slots := by omega
  have hcd1 : cells + 1 + 0 ≤ room_1.cells := by omega
  have hsd1 : slots + 6 + 0 ≤ room_1.slots := by omega
  unfold LC_9 at hf
  refine lv_aload_n (pc := 449) hx hb d_law_449 rfl (lv_at hl 1 rfl) ?_
  refine w_scr (pc := 450) (jv := 1) (j := 1) hx hb hX hbl hAe hw.2.2 hl 0 4 rfl rfl rfl (by omega) hL d_law_450 d_law_451 d_law_453 (by decide) d_law_454 d_law_455 ?_
  refine w_scr (pc := 456) (jv := 2) (j := 2) hx hb hX hbl hAe hw.2.2 hl 0 4 rfl rfl rfl (by omega) hL d_law_456 d_law_457 d_law_459 (by decide) d_law_460 d_law_461 ?_
  refine w_scr (pc := 462) (jv := 3) (j := 3) hx hb hX hbl hAe hw.2.2 hl 0 4 rfl rfl rfl (by omega) hL d_law_462 d_law_463 d_law_465 (by decide) d_law_466 d_law_467 ?_
  refine lq_h (pc := 468) hw hA (va_runSW (n := 4) (As := [.ref (a 0), .int (xs (6 * k + 1)), .int (xs (6 * k + 2)), .int (xs (6 * k + 3))]) (rest := []) ⟨hx, hb, hml, hown, hts⟩ (ch_Lw_macro l hfl D cI cZ cJ a ao _ _ _ _ _ _ _ hf) rfl (tb_goodC tc_Lw_macro) (hts _ (List.mem_cons_of_mem _ tm_Lw_96)) (hts _ (List.mem_cons_of_mem _ ts_Lw_macro)) (hts _ (List.mem_cons_of_mem _ tz_Lw)) (by decide +kernel) ⟨rfl, rfl, Nat.le_of_ble_eq_true rfl, Nat.le_of_ble_eq_true rfl⟩ (h_preS hE hK (wfl (law_h hw)) hAe) rfl rfl hl.1 rfl (lv_room (Nat.le_of_ble_eq_true rfl)) d_law_468 ⟨hcc, hss⟩) (fun r468 u468 H locs hw hf => ?_)
  refine lv_istore (pc := 471) (lv' := [(5, .int r468), (0, .ref b), (1, .ref (a 0)), (2, .ref (bm 0)), (3, .ref ao), (4, .int (nI (6 * k)))]) hx hb d_law_471 hl (by decide) rfl (fun ls hl => ?_)
  refine lv_aload_n (pc := 473) hx hb d_law_473 rfl (lv_at hl 3 rfl) ?_
  refine w_scr (pc := 474) (jv := 1) (j := 1) hx hb hX hbl hAe hw.2.2 hl 1 5 rfl rfl rfl (by omega) hL d_law_474 d_law_475 d_law_477 (by decide) d_law_478 d_law_479 ?_
  refine w_scr (pc := 480) (jv := 2) (j := 2) hx hb hX hbl hAe hw.2.2 hl 1 5 rfl rfl rfl (by omega) hL d_law_480 d_law_481 d_law_483 (by decide) d_law_484 d_law_485 ?_
  refine w_scr (pc := 486) (jv := 3) (j := 3) hx hb hX hbl hAe hw.2.2 hl 1 5 rfl rfl rfl (by omega) hL d_law_486 d_law_487 d_law_489 (by decide) d_law_490 d_law_491 ?_
  refine lq_mv (pc := 492) hw hA (va_runV (As := [.int (xs (6 * k + 1)), .int (xs (6 * k + 2)), .int (xs (6 * k + 3))]) (rest := []) ⟨hx, hb, hml, hown, hts⟩ (c_Mo_macro l D cI cZ cJ bm _ _ _ _ _ _ hf) (cwV 3 hts (tb_wsV tc_Mo_macro tm_Lw_99 ti_Mo_macro te_Mo_macro tz_Mo) rfl rfl rfl (by decide +kernel) ⟨Nat.le_of_ble_eq_true rfl, Nat.le_of_ble_eq_true rfl⟩) (g_preV (q0 := 0) (ci := 9) hK (wfl (law_m hw)) rfl rfl) rfl rfl hl.1 rfl (lv_room (Nat.le_of_ble_eq_true rfl)) d_law_492 ⟨hcd1, hsd1⟩) (fun M492 H locs hw hf => ?_)
  refine lv_aload_n (pc := 495) hx hb d_law_495 rfl (lv_at hl 3 rfl) ?_
  refine vp_callSi (pc := 496) (W.runV (As := []) (rest := []) ⟨hx, hb, hml, hown, hts⟩ (c_Mo_thrown l D cI cZ cJ bm _  _ hf) (cwV 0 hts (tb_wsV tc_Mo_thrown tm_Lw_59 ti_Mo_thrown te_Mo_thrown tz_Mo) rfl rfl rfl (by decide +kernel) ⟨Nat.le_of_ble_eq_true rfl, Nat.le_of_ble_eq_true rfl⟩) (r_preV (q0 := 0) (ci := 9) hK (wfl (law_m hw)).1 rfl rfl) rfl rfl hl.1 rfl (lv_room (Nat.le_of_ble_eq_true rfl)) d_law_496 ⟨hcd1, hsd1⟩) (fun r496 hf => ?_)
  refine lv_iload (pc := 499) hx hb d_law_499 (lv_at hl 0 rfl) ?_
  refine lv_icmp_eq (pc := 501) (tgt := 506) hx hb d_law_501 (by decide) (fun hc => ?_) (fun hc => ?_)
  · replace hf := hf.1 hc
    refine lv_goto (pc := 506) (tgt := 794) hx hb d_law_506 (by decide) ?_
    exact kk _ _ _ _ _ _ (lv_sub hl [1, 2, 3, 4, 5] rfl) hw hf
  replace hf := hf.2 hc
  exact False.elim hf
def LC_10 (xs : Nat → Int32) (k : Nat) (K : GS → GS → (Nat → Int64) → Prop) (S M : GS) (o : Nat → Int64) : Prop := (wpH_Lw_chord S o (xs (6 * k + 1)) (xs (6 * k + 2)) (xs (6 * k + 3)) (fun r528 u528 => (wp_Mo_chord M (xs (6 * k + 1)) (xs (6 * k + 2)) (xs (6 * k + 3)) (fun M552 => (wp_Mo_thrown M552 (fun r556 => ((r556 = r528 → (K u528.1 M552 u528.2)) ∧ (¬ r556 = r528 → False))))))))
set_option maxHeartbeats 4000000 in
set_option maxRecDepth 100000 in
theorem lc_10 {p : Program} {l : Launch} {e : Env} {s : State} {m : MethodId} {below : List Frame} {meth : Method} {c : Code} {b L : Nat} {xs : Nat → Int32} {D : va_G} {cI cZ cJ : ClassId} {A : Nat → Prop} {a bm : Nat → Nat} {ao : Nat} {Q : State → Prop} (C : LawCtx p l s m meth c b L xs D cI cZ cJ A) {k : Nat} {K : GS → GS → (Nat → Int64) → Prop} {S M : GS} {o : Nat → Int64} {H : Heap} {locs : List Loc} {ls : Array Slot} {cells slots : Nat} (hk : 6 * k + 6 ≤ L) (hcc : cells + 1 ≤ room_1.cells) (hss : slots + 6 ≤ room_1.slots)
    (hl : lv_has ls 7 [(0, .ref b), (1, .ref (a 0)), (2, .ref (bm 0)), (3, .ref ao), (4, .int (nI (6 * k)))]) (hw : wf D A s.heap (lawW cI cZ cJ a bm ao S M o) H locs) (hf : LC_10 xs k K S M o)
    (kk : ∀ (S M : GS) (o : Nat → Int64) (H : Heap) (locs : List Loc) (ls : Array Slot), lv_has ls 7 [(0, .ref b), (1, .ref (a 0)), (2, .ref (bm 0)), (3, .ref ao), (4, .int (nI (6 * k)))] → wf D A s.heap (lawW cI cZ cJ a bm ao S M o) H locs → K S M o → W p l e room_1 s m #[Value.ref b] below meth c H locs (cells + 1) (slots + 6) Q (F0 m 794 ls [])) :
    W p l e room_1 s m #[Value.ref b] below meth c H locs cells slots Q (F0 m 509 ls []) := by
  obtain ⟨hx, hb, hml, hown, hts, hfl, hE, hK, hAA, hX, hbl, hL⟩ := C
  have hA : ∀ q, s.heap.size ≤ q → A q := fun q h => (hAA q).mpr h
  have hAe : ∀ q, A q → s.heap.size ≤ q := fun q h => (hAA q).mp h
  have hcd : cells + 0 ≤ room_1.cells := by omega
  have hsd : slots + 0 ≤ room_1.slots := by omega
  have hcd1 : cells + 1 + 0 ≤ room_1.cells := by omega
  have hsd1 : slots + 6 + 0 ≤ room_1.slots := by omega
  unfold LC_10 at hf
  refine lv_aload_n (pc := 509) hx hb d_law_509 rfl (lv_at hl 1 rfl) ?_
  refine w_scr (pc := 510) (jv := 1) (j := 1) hx hb hX hbl hAe hw.2.2 hl 0 4 rfl rfl rfl (by omega) hL d_law_510 d_law_511 d_law_513 (by decide) d_law_514 d_law_515 ?_
  refine w_scr (pc := 516) (jv := 2) (j := 2) hx hb hX hbl hAe hw.2.2 hl 0 4 rfl rfl rfl (by omega) hL d_law_516 d_law_517 d_law_519 (by decide) d_law_520 d_law_521 ?_
  refine w_scr (pc := 522) (jv := 3) (j := 3) hx hb hX hbl hAe hw.2.2 hl 0 4 rfl rfl rfl (by omega) hL d_law_522 d_law_523 d_law_525 (by decide) d_law_526 d_law_527 ?_
  refine lq_h (pc := 528) hw hA (va_runSW (n := 4) (As := [.ref (a 0), .int (xs (6 * k + 1)), .int (xs (6 * k + 2)), .int (xs (6 * k + 3))]) (rest := []) ⟨hx, hb, hml, hown, hts⟩ (ch_Lw_chord l hfl D cI cZ cJ a ao _ _ _ _ _ _ _ hf) rfl (tb_goodC tc_Lw_chord) (hts _ (List.mem_cons_of_mem _ tm_Lw_100)) (hts _ (List.mem_cons_of_mem _ ts_Lw_chord)) (hts _ (List.mem_cons_of_mem _ tz_Lw)) (by decide +kernel) ⟨rfl, rfl, Nat.le_of_ble_eq_true rfl, Nat.le_of_ble_eq_true rfl⟩ (h_preS hE hK (wfl (law_h hw)) hAe) rfl rfl hl.1 rfl (lv_room (Nat.le_of_ble_eq_true rfl)) d_law_528 ⟨hcc, hss⟩) (fun r528 u528 H locs hw hf => ?_)
  refine lv_istore (pc := 531) (lv' := [(5, .int r528), (0, .ref b), (1, .ref (a 0)), (2, .ref (bm 0)), (3, .ref ao), (4, .int (nI (6 * k)))]) hx hb d_law_531 hl (by decide) rfl (fun ls hl => ?_)
  refine lv_aload_n (pc := 533) hx hb d_law_533 rfl (lv_at hl 3 rfl) ?_
  refine w_scr (pc := 534) (jv := 1) (j := 1) hx hb hX hbl hAe hw.2.2 hl 1 5 rfl rfl rfl (by omega) hL d_law_534 d_law_535 d_law_537 (by decide) d_law_538 d_law_539 ?_
  refine w_scr (pc := 540) (jv := 2) (j := 2) hx hb hX hbl hAe hw.2.2 hl 1 5 rfl rfl rfl (by omega) hL d_law_540 d_law_541 d_law_543 (by decide) d_law_544 d_law_545 ?_
  refine w_scr (pc := 546) (jv := 3) (j := 3) hx hb hX hbl hAe hw.2.2 hl 1 5 rfl rfl rfl (by omega) hL d_law_546 d_law_547 d_law_549 (by decide) d_law_550 d_law_551 ?_
  refine lq_mv (pc := 552) hw hA (va_runV (As := [.int (xs (6 * k + 1)), .int (xs (6 * k + 2)), .int (xs (6 * k + 3))]) (rest := []) ⟨hx, hb, hml, hown, hts⟩ (c_Mo_chord l D cI cZ cJ bm _ _ _ _ _ _ hf) (cwV 3 hts (tb_wsV tc_Mo_chord tm_Lw_102 ti_Mo_chord te_Mo_chord tz_Mo) rfl rfl rfl (by decide +kernel) ⟨Nat.le_of_ble_eq_true rfl, Nat.le_of_ble_eq_true rfl⟩) (g_preV (q0 := 0) (ci := 9) hK (wfl (law_m hw)) rfl rfl) rfl rfl hl.1 rfl (lv_room (Nat.le_of_ble_eq_true rfl)) d_law_552 ⟨hcd1, hsd1⟩) (fun M552 H locs hw hf => ?_)
  refine lv_aload_n (pc := 555) hx hb d_law_555 rfl (lv_at hl 3 rfl) ?_
  refine vp_callSi (pc := 556) (W.runV (As := []) (rest := []) ⟨hx, hb, hml, hown, hts⟩ (c_Mo_thrown l D cI cZ cJ bm _  _ hf) (cwV 0 hts (tb_wsV tc_Mo_thrown tm_Lw_59 ti_Mo_thrown te_Mo_thrown tz_Mo) rfl rfl rfl (by decide +kernel) ⟨Nat.le_of_ble_eq_true rfl, Nat.le_of_ble_eq_true rfl⟩) (r_preV (q0 := 0) (ci := 9) hK (wfl (law_m hw)).1 rfl rfl) rfl rfl hl.1 rfl (lv_room (Nat.le_of_ble_eq_true rfl)) d_law_556 ⟨hcd1, hsd1⟩) (fun r556 hf => ?_)
  refine lv_iload (pc := 559) hx hb d_law_559 (lv_at hl 0 rfl) ?_
  refine lv_icmp_eq (pc := 561) (tgt := 566) hx hb d_law_561 (by decide) (fun hc => ?_) (fun hc => ?_)
  · replace hf := hf.1 hc
    refine lv_goto (pc := 566) (tgt := 794) hx hb d_law_566 (by decide) ?_
    exact kk _ _ _ _ _ _ (lv_sub hl [1, 2, 3, 4, 5] rfl) hw hf
  replace hf := hf.2 hc
  exact False.elim hf
def LC_11 (xs : Nat → Int32) (k : Nat) (K : GS → GS → (Nat → Int64) → Prop) (S M : GS) (o : Nat → Int64) : Prop := (wpH_Lw_on S o (xs (6 * k + 1)) (fun r577 u577 => (wp_Mo_on M (xs (6 * k + 1)) (fun r589 M589 => (wp_Mo_thrown M589 (fun r595 => ((r595 = r577 → ((r577 = (0 : Int32) → ((r589 = (0 : Int32) → (((lg_cmp (u577.2 (0 : Int32).toNatClampNeg) (0 : Int64)) = (0 : Int32) → (K u577.1 M589 u577.2)) ∧ (¬ (lg_cmp (u577.2 (0 : Int32).toNatClampNeg) (0 : Int64)) = (0 : Int32) → False))) ∧ (¬ r589 = (0 : Int32) → (((lg_cmp (u577.2 (0 : Int32).toNatClampNeg) (1 : Int64)) = (0 : Int32) → (K u577.1 M589 u577.2)) ∧ (¬ (lg_cmp (u577.2 (0 : Int32).toNatClampNeg) (1 : Int64)) = (0 : Int32) → False))))) ∧ (¬ r577 = (0 : Int32) → (K u577.1 M589 u577.2)))) ∧ (¬ r595 = r577 → False))))))))
set_option maxHeartbeats 4000000 in
set_option maxRecDepth 100000 in
theorem lc_11 {p : Program} {l : Launch} {e : Env} {s : State} {m : MethodId} {below : List Frame} {meth : Method} {c : Code} {b L : Nat} {xs : Nat → Int32} {D : va_G} {cI cZ cJ : ClassId} {A : Nat → Prop} {a bm : Nat → Nat} {ao : Nat} {Q : State → Prop} (C : LawCtx p l s m meth c b L xs D cI cZ cJ A) {k : Nat} {K : GS → GS → (Nat → Int64) → Prop} {S M : GS} {o : Nat → Int64} {H : Heap} {locs : List Loc} {ls : Array Slot} {cells slots : Nat} (hk : 6 * k + 6 ≤ L) (hcc : cells + 1 ≤ room_1.cells) (hss : slots + 6 ≤ room_1.slots)
    (hl : lv_has ls 7 [(0, .ref b), (1, .ref (a 0)), (2, .ref (bm 0)), (3, .ref ao), (4, .int (nI (6 * k)))]) (hw : wf D A s.heap (lawW cI cZ cJ a bm ao S M o) H locs) (hf : LC_11 xs k K S M o)
    (kk : ∀ (S M : GS) (o : Nat → Int64) (H : Heap) (locs : List Loc) (ls : Array Slot), lv_has ls 7 [(0, .ref b), (1, .ref (a 0)), (2, .ref (bm 0)), (3, .ref ao), (4, .int (nI (6 * k)))] → wf D A s.heap (lawW cI cZ cJ a bm ao S M o) H locs → K S M o → W p l e room_1 s m #[Value.ref b] below meth c H locs (cells + 1) (slots + 6) Q (F0 m 794 ls [])) :
    W p l e room_1 s m #[Value.ref b] below meth c H locs cells slots Q (F0 m 569 ls []) := by
  obtain ⟨hx, hb, hml, hown, hts, hfl, hE, hK, hAA, hX, hbl, hL⟩ := C
  have hA : ∀ q, s.heap.size ≤ q → A q := fun q h => (hAA q).mpr h
  have hAe : ∀ q, A q → s.heap.size ≤ q := fun q h => (hAA q).mp h
  have hcd : cells + 0 ≤ room_1.cells := by omega
  have hsd : slots + 0 ≤ room_1.slots := by omega
  have hcd1 : cells + 1 + 0 ≤ room_1.cells := by omega
  have hsd1 : slots + 6 + 0 ≤ room_1.slots := by omega
  unfold LC_11 at hf
  refine lv_aload_n (pc := 569) hx hb d_law_569 rfl (lv_at hl 1 rfl) ?_
  refine w_scr (pc := 570) (jv := 1) (j := 1) hx hb hX hbl hAe hw.2.2 hl 0 4 rfl rfl rfl (by omega) hL d_law_570 d_law_571 d_law_573 (by decide) d_law_574 d_law_575 ?_
  refine lv_aload_n (pc := 576) hx hb d_law_576 rfl (lv_at hl 3 rfl) ?_
  refine lq_h (pc := 577) hw hA (va_runSW (n := 3) (As := [.ref (a 0), .int (xs (6 * k + 1)), .ref ao]) (rest := []) ⟨hx, hb, hml, hown, hts⟩ (ch_Lw_on l hfl D cI cZ cJ a ao _ _ _ _ _ hf) rfl (tb_goodC tc_Lw_on) (hts _ (List.mem_cons_of_mem _ tm_Lw_103)) (hts _ (List.mem_cons_of_mem _ ts_Lw_on)) (hts _ (List.mem_cons_of_mem _ tz_Lw)) (by decide +kernel) ⟨rfl, rfl, Nat.le_of_ble_eq_true rfl, Nat.le_of_ble_eq_true rfl⟩ (h_preS hE hK (wfl (law_h hw)) hAe) rfl rfl hl.1 rfl (lv_room (Nat.le_of_ble_eq_true rfl)) d_law_577 ⟨hcc, hss⟩) (fun r577 u577 H locs hw hf => ?_)
  refine lv_istore (pc := 580) (lv' := [(5, .int r577), (0, .ref b), (1, .ref (a 0)), (2, .ref (bm 0)), (3, .ref ao), (4, .int (nI (6 * k)))]) hx hb d_law_580 hl (by decide) rfl (fun ls hl => ?_)
  refine lv_aload_n (pc := 582) hx hb d_law_582 rfl (lv_at hl 3 rfl) ?_
  refine w_scr (pc := 583) (jv := 1) (j := 1) hx hb hX hbl hAe hw.2.2 hl 1 5 rfl rfl rfl (by omega) hL d_law_583 d_law_584 d_law_586 (by decide) d_law_587 d_law_588 ?_
  refine lq_mi (pc := 589) hw hA (va_runV (As := [.int (xs (6 * k + 1))]) (rest := []) ⟨hx, hb, hml, hown, hts⟩ (c_Mo_on l D cI cZ cJ bm _ _ _ _ hf) (cwV 1 hts (tb_wsV tc_Mo_on tm_Lw_105 ti_Mo_on te_Mo_on tz_Mo) rfl rfl rfl (by decide +kernel) ⟨Nat.le_of_ble_eq_true rfl, Nat.le_of_ble_eq_true rfl⟩) (g_preV (q0 := 0) (ci := 9) hK (wfl (law_m hw)) rfl rfl) rfl rfl hl.1 rfl (lv_room (Nat.le_of_ble_eq_true rfl)) d_law_589 ⟨hcd1, hsd1⟩) (fun r589 M589 H locs hw hf => ?_)
  refine lv_istore (pc := 592) (lv' := [(6, .int r589), (5, .int r577), (0, .ref b), (1, .ref (a 0)), (2, .ref (bm 0)), (3, .ref ao), (4, .int (nI (6 * k)))]) hx hb d_law_592 hl (by decide) rfl (fun ls hl => ?_)
  refine lv_aload_n (pc := 594) hx hb d_law_594 rfl (lv_at hl 4 rfl) ?_
  refine vp_callSi (pc := 595) (W.runV (As := []) (rest := []) ⟨hx, hb, hml, hown, hts⟩ (c_Mo_thrown l D cI cZ cJ bm _  _ hf) (cwV 0 hts (tb_wsV tc_Mo_thrown tm_Lw_59 ti_Mo_thrown te_Mo_thrown tz_Mo) rfl rfl rfl (by decide +kernel) ⟨Nat.le_of_ble_eq_true rfl, Nat.le_of_ble_eq_true rfl⟩) (r_preV (q0 := 0) (ci := 9) hK (wfl (law_m hw)).1 rfl rfl) rfl rfl hl.1 rfl (lv_room (Nat.le_of_ble_eq_true rfl)) d_law_595 ⟨hcd1, hsd1⟩) (fun r595 hf => ?_)
  refine lv_iload (pc := 598) hx hb d_law_598 (lv_at hl 1 rfl) ?_
  refine lv_icmp_eq (pc := 600) (tgt := 605) hx hb d_law_600 (by decide) (fun hc => ?_) (fun hc => ?_)
  · replace hf := hf.1 hc
    refine lv_iload (pc := 605) hx hb d_law_605 (lv_at hl 1 rfl) ?_
    refine lv_if_ne (pc := 607) (tgt := 629) hx hb d_law_607 (by decide) (fun hc => ?_) (fun hc => ?_)
    · replace hf := hf.2 hc
      refine lv_goto (pc := 629) (tgt := 794) hx hb d_law_629 (by decide) ?_
      exact kk _ _ _ _ _ _ (lv_sub hl [2, 3, 4, 5, 6] rfl) hw hf
    replace hf := hf.1 hc
    refine lv_aload_n (pc := 610) hx hb d_law_610 rfl (lv_at hl 5 rfl) ?_
    refine lv_iconst (pc := 611) (v := 0) hx hb d_law_611 (by decide) ?_
    refine va_lald (pc := 612) hx hb hK hw.1 49 2 rfl rfl in01 d_law_612 ?_
    refine lv_iload (pc := 613) hx hb d_law_613 (lv_at hl 0 rfl) ?_
    refine lv_if_eq (pc := 615) (tgt := 622) hx hb d_law_615 (by decide) (fun hc => ?_) (fun hc => ?_)
    · replace hf := hf.1 hc
      refine lv_lconst (pc := 622) (v := 0) hx hb d_law_622 (by decide) ?_
      refine W.lcmp (pc := 623) hx hb d_law_623 ?_
      refine lv_if_eq (pc := 624) (tgt := 629) hx hb d_law_624 (by decide) (fun hc => ?_) (fun hc => ?_)
      · replace hf := hf.1 hc
        refine lv_goto (pc := 629) (tgt := 794) hx hb d_law_629 (by decide) ?_
        exact kk _ _ _ _ _ _ (lv_sub hl [2, 3, 4, 5, 6] rfl) hw hf
      replace hf := hf.2 hc
      exact False.elim hf
    replace hf := hf.2 hc
    refine lv_lconst (pc := 618) (v := 1) hx hb d_law_618 (by decide) ?_
    refine lv_goto (pc := 619) (tgt := 623) hx hb d_law_619 (by decide) ?_
    refine W.lcmp (pc := 623) hx hb d_law_623 ?_
    refine lv_if_eq (pc := 624) (tgt := 629) hx hb d_law_624 (by decide) (fun hc => ?_) (fun hc => ?_)
    · replace hf := hf.1 hc
      refine lv_goto (pc := 629) (tgt := 794) hx hb d_law_629 (by decide) ?_
      exact kk _ _ _ _ _ _ (lv_sub hl [2, 3, 4, 5, 6] rfl) hw hf
    replace hf := hf.2 hc
    exact False.elim hf
  replace hf := hf.2 hc
  exact False.elim hf
def LC_12 (xs : Nat → Int32) (k : Nat) (K : GS → GS → (Nat → Int64) → Prop) (S M : GS) (o : Nat → Int64) : Prop := (wpH_Lw_top S o (xs (6 * k + 1)) (fun r640 u640 => (wp_Mo_top M (xs (6 * k + 1)) (fun r652 M652 => (wp_Mo_thrown M652 (fun r658 => ((r658 = r640 → ((r640 = (0 : Int32) → (((lg_cmp (u640.2 (0 : Int32).toNatClampNeg) r652.toInt64) = (0 : Int32) → (K u640.1 M652 u640.2)) ∧ (¬ (lg_cmp (u640.2 (0 : Int32).toNatClampNeg) r652.toInt64) = (0 : Int32) → False))) ∧ (¬ r640 = (0 : Int32) → (K u640.1 M652 u640.2)))) ∧ (¬ r658 = r640 → False))))))))
set_option maxHeartbeats 4000000 in
set_option maxRecDepth 100000 in
theorem lc_12 {p : Program} {l : Launch} {e : Env} {s : State} {m : MethodId} {below : List Frame} {meth : Method} {c : Code} {b L : Nat} {xs : Nat → Int32} {D : va_G} {cI cZ cJ : ClassId} {A : Nat → Prop} {a bm : Nat → Nat} {ao : Nat} {Q : State → Prop} (C : LawCtx p l s m meth c b L xs D cI cZ cJ A) {k : Nat} {K : GS → GS → (Nat → Int64) → Prop} {S M : GS} {o : Nat → Int64} {H : Heap} {locs : List Loc} {ls : Array Slot} {cells slots : Nat} (hk : 6 * k + 6 ≤ L) (hcc : cells + 1 ≤ room_1.cells) (hss : slots + 6 ≤ room_1.slots)
    (hl : lv_has ls 7 [(0, .ref b), (1, .ref (a 0)), (2, .ref (bm 0)), (3, .ref ao), (4, .int (nI (6 * k)))]) (hw : wf D A s.heap (lawW cI cZ cJ a bm ao S M o) H locs) (hf : LC_12 xs k K S M o)
    (kk : ∀ (S M : GS) (o : Nat → Int64) (H : Heap) (locs : List Loc) (ls : Array Slot), lv_has ls 7 [(0, .ref b), (1, .ref (a 0)), (2, .ref (bm 0)), (3, .ref ao), (4, .int (nI (6 * k)))] → wf D A s.heap (lawW cI cZ cJ a bm ao S M o) H locs → K S M o → W p l e room_1 s m #[Value.ref b] below meth c H locs (cells + 1) (slots + 6) Q (F0 m 794 ls [])) :
    W p l e room_1 s m #[Value.ref b] below meth c H locs cells slots Q (F0 m 632 ls []) := by
  obtain ⟨hx, hb, hml, hown, hts, hfl, hE, hK, hAA, hX, hbl, hL⟩ := C
  have hA : ∀ q, s.heap.size ≤ q → A q := fun q h => (hAA q).mpr h
  have hAe : ∀ q, A q → s.heap.size ≤ q := fun q h => (hAA q).mp h
  have hcd : cells + 0 ≤ room_1.cells := by omega
  have hsd : slots + 0 ≤ room_1.slots := by omega
  have hcd1 : cells + 1 + 0 ≤ room_1.cells := by omega
  have hsd1 : slots + 6 + 0 ≤ room_1.slots := by omega
  unfold LC_12 at hf
  refine lv_aload_n (pc := 632) hx hb d_law_632 rfl (lv_at hl 1 rfl) ?_
  refine w_scr (pc := 633) (jv := 1) (j := 1) hx hb hX hbl hAe hw.2.2 hl 0 4 rfl rfl rfl (by omega) hL d_law_633 d_law_634 d_law_636 (by decide) d_law_637 d_law_638 ?_
  refine lv_aload_n (pc := 639) hx hb d_law_639 rfl (lv_at hl 3 rfl) ?_
  refine lq_h (pc := 640) hw hA (va_runSW (n := 3) (As := [.ref (a 0), .int (xs (6 * k + 1)), .ref ao]) (rest := []) ⟨hx, hb, hml, hown, hts⟩ (ch_Lw_top l hfl D cI cZ cJ a ao _ _ _ _ _ hf) rfl (tb_goodC tc_Lw_top) (hts _ (List.mem_cons_of_mem _ tm_Lw_106)) (hts _ (List.mem_cons_of_mem _ ts_Lw_top)) (hts _ (List.mem_cons_of_mem _ tz_Lw)) (by decide +kernel) ⟨rfl, rfl, Nat.le_of_ble_eq_true rfl, Nat.le_of_ble_eq_true rfl⟩ (h_preS hE hK (wfl (law_h hw)) hAe) rfl rfl hl.1 rfl (lv_room (Nat.le_of_ble_eq_true rfl)) d_law_640 ⟨hcc, hss⟩) (fun r640 u640 H locs hw hf => ?_)
  refine lv_istore (pc := 643) (lv' := [(5, .int r640), (0, .ref b), (1, .ref (a 0)), (2, .ref (bm 0)), (3, .ref ao), (4, .int (nI (6 * k)))]) hx hb d_law_643 hl (by decide) rfl (fun ls hl => ?_)
  refine lv_aload_n (pc := 645) hx hb d_law_645 rfl (lv_at hl 3 rfl) ?_
  refine w_scr (pc := 646) (jv := 1) (j := 1) hx hb hX hbl hAe hw.2.2 hl 1 5 rfl rfl rfl (by omega) hL d_law_646 d_law_647 d_law_649 (by decide) d_law_650 d_law_651 ?_
  refine lq_mi (pc := 652) hw hA (va_runV (As := [.int (xs (6 * k + 1))]) (rest := []) ⟨hx, hb, hml, hown, hts⟩ (c_Mo_top l D cI cZ cJ bm _ _ _ _ hf) (cwV 1 hts (tb_wsV tc_Mo_top tm_Lw_108 ti_Mo_top te_Mo_top tz_Mo) rfl rfl rfl (by decide +kernel) ⟨Nat.le_of_ble_eq_true rfl, Nat.le_of_ble_eq_true rfl⟩) (g_preV (q0 := 0) (ci := 9) hK (wfl (law_m hw)) rfl rfl) rfl rfl hl.1 rfl (lv_room (Nat.le_of_ble_eq_true rfl)) d_law_652 ⟨hcd1, hsd1⟩) (fun r652 M652 H locs hw hf => ?_)
  refine lv_istore (pc := 655) (lv' := [(6, .int r652), (5, .int r640), (0, .ref b), (1, .ref (a 0)), (2, .ref (bm 0)), (3, .ref ao), (4, .int (nI (6 * k)))]) hx hb d_law_655 hl (by decide) rfl (fun ls hl => ?_)
  refine lv_aload_n (pc := 657) hx hb d_law_657 rfl (lv_at hl 4 rfl) ?_
  refine vp_callSi (pc := 658) (W.runV (As := []) (rest := []) ⟨hx, hb, hml, hown, hts⟩ (c_Mo_thrown l D cI cZ cJ bm _  _ hf) (cwV 0 hts (tb_wsV tc_Mo_thrown tm_Lw_59 ti_Mo_thrown te_Mo_thrown tz_Mo) rfl rfl rfl (by decide +kernel) ⟨Nat.le_of_ble_eq_true rfl, Nat.le_of_ble_eq_true rfl⟩) (r_preV (q0 := 0) (ci := 9) hK (wfl (law_m hw)).1 rfl rfl) rfl rfl hl.1 rfl (lv_room (Nat.le_of_ble_eq_true rfl)) d_law_658 ⟨hcd1, hsd1⟩) (fun r658 hf => ?_)
  refine lv_iload (pc := 661) hx hb d_law_661 (lv_at hl 1 rfl) ?_
  refine lv_icmp_eq (pc := 663) (tgt := 668) hx hb d_law_663 (by decide) (fun hc => ?_) (fun hc => ?_)
  · replace hf := hf.1 hc
    refine lv_iload (pc := 668) hx hb d_law_668 (lv_at hl 1 rfl) ?_
    refine lv_if_ne (pc := 670) (tgt := 685) hx hb d_law_670 (by decide) (fun hc => ?_) (fun hc => ?_)
    · replace hf := hf.2 hc
      refine lv_goto (pc := 685) (tgt := 794) hx hb d_law_685 (by decide) ?_
      exact kk _ _ _ _ _ _ (lv_sub hl [2, 3, 4, 5, 6] rfl) hw hf
    replace hf := hf.1 hc
    refine lv_aload_n (pc := 673) hx hb d_law_673 rfl (lv_at hl 5 rfl) ?_
    refine lv_iconst (pc := 674) (v := 0) hx hb d_law_674 (by decide) ?_
    refine va_lald (pc := 675) hx hb hK hw.1 49 2 rfl rfl in01 d_law_675 ?_
    refine lv_iload (pc := 676) hx hb d_law_676 (lv_at hl 0 rfl) ?_
    refine lv_i2l (pc := 678) hx hb d_law_678 rfl ?_
    refine W.lcmp (pc := 679) hx hb d_law_679 ?_
    refine lv_if_eq (pc := 680) (tgt := 685) hx hb d_law_680 (by decide) (fun hc => ?_) (fun hc => ?_)
    · replace hf := hf.1 hc
      refine lv_goto (pc := 685) (tgt := 794) hx hb d_law_685 (by decide) ?_
      exact kk _ _ _ _ _ _ (lv_sub hl [2, 3, 4, 5, 6] rfl) hw hf
    replace hf := hf.2 hc
    exact False.elim hf
  replace hf := hf.2 hc
  exact False.elim hf
def LC_13 (xs : Nat → Int32) (k : Nat) (K : GS → GS → (Nat → Int64) → Prop) (S M : GS) (o : Nat → Int64) : Prop := (wpH_Lw_key S o (xs (6 * k + 1)) (xs (6 * k + 2)) (fun r702 u702 => (wp_Mo_key M (xs (6 * k + 1)) (xs (6 * k + 2)) (fun r720 M720 => (wp_Mo_thrown M720 (fun r726 => ((r726 = r702 → ((r702 = (0 : Int32) → (((lg_cmp (u702.2 (0 : Int32).toNatClampNeg) r720.toInt64) = (0 : Int32) → (K u702.1 M720 u702.2)) ∧ (¬ (lg_cmp (u702.2 (0 : Int32).toNatClampNeg) r720.toInt64) = (0 : Int32) → False))) ∧ (¬ r702 = (0 : Int32) → (K u702.1 M720 u702.2)))) ∧ (¬ r726 = r702 → False))))))))
set_option maxHeartbeats 4000000 in
set_option maxRecDepth 100000 in
theorem lc_13 {p : Program} {l : Launch} {e : Env} {s : State} {m : MethodId} {below : List Frame} {meth : Method} {c : Code} {b L : Nat} {xs : Nat → Int32} {D : va_G} {cI cZ cJ : ClassId} {A : Nat → Prop} {a bm : Nat → Nat} {ao : Nat} {Q : State → Prop} (C : LawCtx p l s m meth c b L xs D cI cZ cJ A) {k : Nat} {K : GS → GS → (Nat → Int64) → Prop} {S M : GS} {o : Nat → Int64} {H : Heap} {locs : List Loc} {ls : Array Slot} {cells slots : Nat} (hk : 6 * k + 6 ≤ L) (hcc : cells + 1 ≤ room_1.cells) (hss : slots + 6 ≤ room_1.slots)
    (hl : lv_has ls 7 [(0, .ref b), (1, .ref (a 0)), (2, .ref (bm 0)), (3, .ref ao), (4, .int (nI (6 * k)))]) (hw : wf D A s.heap (lawW cI cZ cJ a bm ao S M o) H locs) (hf : LC_13 xs k K S M o)
    (kk : ∀ (S M : GS) (o : Nat → Int64) (H : Heap) (locs : List Loc) (ls : Array Slot), lv_has ls 7 [(0, .ref b), (1, .ref (a 0)), (2, .ref (bm 0)), (3, .ref ao), (4, .int (nI (6 * k)))] → wf D A s.heap (lawW cI cZ cJ a bm ao S M o) H locs → K S M o → W p l e room_1 s m #[Value.ref b] below meth c H locs (cells + 1) (slots + 6) Q (F0 m 794 ls [])) :
    W p l e room_1 s m #[Value.ref b] below meth c H locs cells slots Q (F0 m 688 ls []) := by
  obtain ⟨hx, hb, hml, hown, hts, hfl, hE, hK, hAA, hX, hbl, hL⟩ := C
  have hA : ∀ q, s.heap.size ≤ q → A q := fun q h => (hAA q).mpr h
  have hAe : ∀ q, A q → s.heap.size ≤ q := fun q h => (hAA q).mp h
  have hcd : cells + 0 ≤ room_1.cells := by omega
  have hsd : slots + 0 ≤ room_1.slots := by omega
  have hcd1 : cells + 1 + 0 ≤ room_1.cells := by omega
  have hsd1 : slots + 6 + 0 ≤ room_1.slots := by omega
  unfold LC_13 at hf
  refine lv_aload_n (pc := 688) hx hb d_law_688 rfl (lv_at hl 1 rfl) ?_
  refine w_scr (pc := 689) (jv := 1) (j := 1) hx hb hX hbl hAe hw.2.2 hl 0 4 rfl rfl rfl (by omega) hL d_law_689 d_law_690 d_law_692 (by decide) d_law_693 d_law_694 ?_
  refine w_scr (pc := 695) (jv := 2) (j := 2) hx hb hX hbl hAe hw.2.2 hl 0 4 rfl rfl rfl (by omega) hL d_law_695 d_law_696 d_law_698 (by decide) d_law_699 d_law_700 ?_
  refine lv_aload_n (pc := 701) hx hb d_law_701 rfl (lv_at hl 3 rfl) ?_
  refine lq_h (pc := 702) hw hA (va_runSW (n := 4) (As := [.ref (a 0), .int (xs (6 * k + 1)), .int (xs (6 * k + 2)), .ref ao]) (rest := []) ⟨hx, hb, hml, hown, hts⟩ (ch_Lw_key l hfl D cI cZ cJ a ao _ _ _ _ _ _ hf) rfl (tb_goodC tc_Lw_key) (hts _ (List.mem_cons_of_mem _ tm_Lw_109)) (hts _ (List.mem_cons_of_mem _ ts_Lw_key)) (hts _ (List.mem_cons_of_mem _ tz_Lw)) (by decide +kernel) ⟨rfl, rfl, Nat.le_of_ble_eq_true rfl, Nat.le_of_ble_eq_true rfl⟩ (h_preS hE hK (wfl (law_h hw)) hAe) rfl rfl hl.1 rfl (lv_room (Nat.le_of_ble_eq_true rfl)) d_law_702 ⟨hcc, hss⟩) (fun r702 u702 H locs hw hf => ?_)
  refine lv_istore (pc := 705) (lv' := [(5, .int r702), (0, .ref b), (1, .ref (a 0)), (2, .ref (bm 0)), (3, .ref ao), (4, .int (nI (6 * k)))]) hx hb d_law_705 hl (by decide) rfl (fun ls hl => ?_)
  refine lv_aload_n (pc := 707) hx hb d_law_707 rfl (lv_at hl 3 rfl) ?_
  refine w_scr (pc := 708) (jv := 1) (j := 1) hx hb hX hbl hAe hw.2.2 hl 1 5 rfl rfl rfl (by omega) hL d_law_708 d_law_709 d_law_711 (by decide) d_law_712 d_law_713 ?_
  refine w_scr (pc := 714) (jv := 2) (j := 2) hx hb hX hbl hAe hw.2.2 hl 1 5 rfl rfl rfl (by omega) hL d_law_714 d_law_715 d_law_717 (by decide) d_law_718 d_law_719 ?_
  refine lq_mi (pc := 720) hw hA (va_runV (As := [.int (xs (6 * k + 1)), .int (xs (6 * k + 2))]) (rest := []) ⟨hx, hb, hml, hown, hts⟩ (c_Mo_key l D cI cZ cJ bm _ _ _ _ _ hf) (cwV 2 hts (tb_wsV tc_Mo_key tm_Lw_112 ti_Mo_key te_Mo_key tz_Mo) rfl rfl rfl (by decide +kernel) ⟨Nat.le_of_ble_eq_true rfl, Nat.le_of_ble_eq_true rfl⟩) (g_preV (q0 := 0) (ci := 9) hK (wfl (law_m hw)) rfl rfl) rfl rfl hl.1 rfl (lv_room (Nat.le_of_ble_eq_true rfl)) d_law_720 ⟨hcd1, hsd1⟩) (fun r720 M720 H locs hw hf => ?_)
  refine lv_istore (pc := 723) (lv' := [(6, .int r720), (5, .int r702), (0, .ref b), (1, .ref (a 0)), (2, .ref (bm 0)), (3, .ref ao), (4, .int (nI (6 * k)))]) hx hb d_law_723 hl (by decide) rfl (fun ls hl => ?_)
  refine lv_aload_n (pc := 725) hx hb d_law_725 rfl (lv_at hl 4 rfl) ?_
  refine vp_callSi (pc := 726) (W.runV (As := []) (rest := []) ⟨hx, hb, hml, hown, hts⟩ (c_Mo_thrown l D cI cZ cJ bm _  _ hf) (cwV 0 hts (tb_wsV tc_Mo_thrown tm_Lw_59 ti_Mo_thrown te_Mo_thrown tz_Mo) rfl rfl rfl (by decide +kernel) ⟨Nat.le_of_ble_eq_true rfl, Nat.le_of_ble_eq_true rfl⟩) (r_preV (q0 := 0) (ci := 9) hK (wfl (law_m hw)).1 rfl rfl) rfl rfl hl.1 rfl (lv_room (Nat.le_of_ble_eq_true rfl)) d_law_726 ⟨hcd1, hsd1⟩) (fun r726 hf => ?_)
  refine lv_iload (pc := 729) hx hb d_law_729 (lv_at hl 1 rfl) ?_
  refine lv_icmp_eq (pc := 731) (tgt := 736) hx hb d_law_731 (by decide) (fun hc => ?_) (fun hc => ?_)
  · replace hf := hf.1 hc
    refine lv_iload (pc := 736) hx hb d_law_736 (lv_at hl 1 rfl) ?_
    refine lv_if_ne (pc := 738) (tgt := 753) hx hb d_law_738 (by decide) (fun hc => ?_) (fun hc => ?_)
    · replace hf := hf.2 hc
      refine lv_goto (pc := 753) (tgt := 794) hx hb d_law_753 (by decide) ?_
      exact kk _ _ _ _ _ _ (lv_sub hl [2, 3, 4, 5, 6] rfl) hw hf
    replace hf := hf.1 hc
    refine lv_aload_n (pc := 741) hx hb d_law_741 rfl (lv_at hl 5 rfl) ?_
    refine lv_iconst (pc := 742) (v := 0) hx hb d_law_742 (by decide) ?_
    refine va_lald (pc := 743) hx hb hK hw.1 49 2 rfl rfl in01 d_law_743 ?_
    refine lv_iload (pc := 744) hx hb d_law_744 (lv_at hl 0 rfl) ?_
    refine lv_i2l (pc := 746) hx hb d_law_746 rfl ?_
    refine W.lcmp (pc := 747) hx hb d_law_747 ?_
    refine lv_if_eq (pc := 748) (tgt := 753) hx hb d_law_748 (by decide) (fun hc => ?_) (fun hc => ?_)
    · replace hf := hf.1 hc
      refine lv_goto (pc := 753) (tgt := 794) hx hb d_law_753 (by decide) ?_
      exact kk _ _ _ _ _ _ (lv_sub hl [2, 3, 4, 5, 6] rfl) hw hf
    replace hf := hf.2 hc
    exact False.elim hf
  replace hf := hf.2 hc
  exact False.elim hf
def LC_14 (xs : Nat → Int32) (k : Nat) (K : GS → GS → (Nat → Int64) → Prop) (S M : GS) (o : Nat → Int64) : Prop := (wp_G_queued S (fun r757 => (wp_Mo_queued M (fun r761 M761 => ((r757 = r761 → (K S M761 o)) ∧ (¬ r757 = r761 → False))))))
set_option maxHeartbeats 4000000 in
set_option maxRecDepth 100000 in
theorem lc_14 {p : Program} {l : Launch} {e : Env} {s : State} {m : MethodId} {below : List Frame} {meth : Method} {c : Code} {b L : Nat} {xs : Nat → Int32} {D : va_G} {cI cZ cJ : ClassId} {A : Nat → Prop} {a bm : Nat → Nat} {ao : Nat} {Q : State → Prop} (C : LawCtx p l s m meth c b L xs D cI cZ cJ A) {k : Nat} {K : GS → GS → (Nat → Int64) → Prop} {S M : GS} {o : Nat → Int64} {H : Heap} {locs : List Loc} {ls : Array Slot} {cells slots : Nat} (hk : 6 * k + 6 ≤ L) (hcc : cells + 1 ≤ room_1.cells) (hss : slots + 6 ≤ room_1.slots)
    (hl : lv_has ls 7 [(0, .ref b), (1, .ref (a 0)), (2, .ref (bm 0)), (3, .ref ao), (4, .int (nI (6 * k)))]) (hw : wf D A s.heap (lawW cI cZ cJ a bm ao S M o) H locs) (hf : LC_14 xs k K S M o)
    (kk : ∀ (S M : GS) (o : Nat → Int64) (H : Heap) (locs : List Loc) (ls : Array Slot), lv_has ls 7 [(0, .ref b), (1, .ref (a 0)), (2, .ref (bm 0)), (3, .ref ao), (4, .int (nI (6 * k)))] → wf D A s.heap (lawW cI cZ cJ a bm ao S M o) H locs → K S M o → W p l e room_1 s m #[Value.ref b] below meth c H locs (cells + 1) (slots + 6) Q (F0 m 794 ls [])) :
    W p l e room_1 s m #[Value.ref b] below meth c H locs cells slots Q (F0 m 756 ls []) := by
  obtain ⟨hx, hb, hml, hown, hts, hfl, hE, hK, hAA, hX, hbl, hL⟩ := C
  have hA : ∀ q, s.heap.size ≤ q → A q := fun q h => (hAA q).mpr h
  have hAe : ∀ q, A q → s.heap.size ≤ q := fun q h => (hAA q).mp h
  have hcd : cells + 0 ≤ room_1.cells := by omega
  have hsd : slots + 0 ≤ room_1.slots := by omega
  have hcd1 : cells + 1 + 0 ≤ room_1.cells := by omega
  have hsd1 : slots + 6 + 0 ≤ room_1.slots := by omega
  unfold LC_14 at hf
  refine lv_aload_n (pc := 756) hx hb d_law_756 rfl (lv_at hl 1 rfl) ?_
  refine vp_callSi (pc := 757) (W.runV (As := []) (rest := []) ⟨hx, hb, hml, hown, hts⟩ (c_G_queued l D cI cZ cJ a _  _ hf) (cwV 0 hts (tb_wsV tc_G_queued tm_Lw_113 ti_G_queued te_G_queued tz_G) rfl rfl rfl (by decide +kernel) ⟨Nat.le_of_ble_eq_true rfl, Nat.le_of_ble_eq_true rfl⟩) (r_preV (q0 := 0) (ci := 0) hK (wfl hw).1 rfl rfl) rfl rfl hl.1 rfl (lv_room (Nat.le_of_ble_eq_true rfl)) d_law_757 ⟨hcd, hsd⟩) (fun r757 hf => ?_)
  refine lv_aload_n (pc := 760) hx hb d_law_760 rfl (lv_at hl 2 rfl) ?_
  refine lq_mi (pc := 761) hw hA (va_runV (As := []) (rest := [.int r757]) ⟨hx, hb, hml, hown, hts⟩ (c_Mo_queued l D cI cZ cJ bm _ _  _ hf) (cwV 0 hts (tb_wsV tc_Mo_queued tm_Lw_116 ti_Mo_queued te_Mo_queued tz_Mo) rfl rfl rfl (by decide +kernel) ⟨Nat.le_of_ble_eq_true rfl, Nat.le_of_ble_eq_true rfl⟩) (g_preV (q0 := 0) (ci := 9) hK (wfl (law_m hw)) rfl rfl) rfl rfl hl.1 rfl (lv_room (Nat.le_of_ble_eq_true rfl)) d_law_761 ⟨hcd, hsd⟩) (fun r761 M761 H locs hw hf => ?_)
  refine lv_icmp_eq (pc := 764) (tgt := 794) hx hb d_law_764 (by decide) (fun hc => ?_) (fun hc => ?_)
  · replace hf := hf.1 hc
    refine W.widen (k := cells + 1) (n := slots + 6) (by omega) (by omega) ?_
    exact kk _ _ _ _ _ _ (lv_sub hl [0, 1, 2, 3, 4] rfl) hw hf
  replace hf := hf.2 hc
  exact False.elim hf
def LC_15 (xs : Nat → Int32) (k : Nat) (K : GS → GS → (Nat → Int64) → Prop) (S M : GS) (o : Nat → Int64) : Prop := (wp_G_history S (xs (6 * k + 1)) (fun r776 => (wp_Mo_history M (xs (6 * k + 1)) (fun r786 M786 => ((r776 = r786 → (K S M786 o)) ∧ (¬ r776 = r786 → False))))))
set_option maxHeartbeats 4000000 in
set_option maxRecDepth 100000 in
theorem lc_15 {p : Program} {l : Launch} {e : Env} {s : State} {m : MethodId} {below : List Frame} {meth : Method} {c : Code} {b L : Nat} {xs : Nat → Int32} {D : va_G} {cI cZ cJ : ClassId} {A : Nat → Prop} {a bm : Nat → Nat} {ao : Nat} {Q : State → Prop} (C : LawCtx p l s m meth c b L xs D cI cZ cJ A) {k : Nat} {K : GS → GS → (Nat → Int64) → Prop} {S M : GS} {o : Nat → Int64} {H : Heap} {locs : List Loc} {ls : Array Slot} {cells slots : Nat} (hk : 6 * k + 6 ≤ L) (hcc : cells + 1 ≤ room_1.cells) (hss : slots + 6 ≤ room_1.slots)
    (hl : lv_has ls 7 [(0, .ref b), (1, .ref (a 0)), (2, .ref (bm 0)), (3, .ref ao), (4, .int (nI (6 * k)))]) (hw : wf D A s.heap (lawW cI cZ cJ a bm ao S M o) H locs) (hf : LC_15 xs k K S M o)
    (kk : ∀ (S M : GS) (o : Nat → Int64) (H : Heap) (locs : List Loc) (ls : Array Slot), lv_has ls 7 [(0, .ref b), (1, .ref (a 0)), (2, .ref (bm 0)), (3, .ref ao), (4, .int (nI (6 * k)))] → wf D A s.heap (lawW cI cZ cJ a bm ao S M o) H locs → K S M o → W p l e room_1 s m #[Value.ref b] below meth c H locs (cells + 1) (slots + 6) Q (F0 m 794 ls [])) :
    W p l e room_1 s m #[Value.ref b] below meth c H locs cells slots Q (F0 m 769 ls []) := by
  obtain ⟨hx, hb, hml, hown, hts, hfl, hE, hK, hAA, hX, hbl, hL⟩ := C
  have hA : ∀ q, s.heap.size ≤ q → A q := fun q h => (hAA q).mpr h
  have hAe : ∀ q, A q → s.heap.size ≤ q := fun q h => (hAA q).mp h
  have hcd : cells + 0 ≤ room_1.cells := by omega
  have hsd : slots + 0 ≤ room_1.slots := by omega
  have hcd1 : cells + 1 + 0 ≤ room_1.cells := by omega
  have hsd1 : slots + 6 + 0 ≤ room_1.slots := by omega
  unfold LC_15 at hf
  refine lv_aload_n (pc := 769) hx hb d_law_769 rfl (lv_at hl 1 rfl) ?_
  refine w_scr (pc := 770) (jv := 1) (j := 1) hx hb hX hbl hAe hw.2.2 hl 0 4 rfl rfl rfl (by omega) hL d_law_770 d_law_771 d_law_773 (by decide) d_law_774 d_law_775 ?_
  refine vp_callSi (pc := 776) (W.runV (As := [.int (xs (6 * k + 1))]) (rest := []) ⟨hx, hb, hml, hown, hts⟩ (c_G_history l D cI cZ cJ a _ _ _ hf) (cwV 1 hts (tb_wsV tc_G_history tm_Lw_117 ti_G_history te_G_history tz_G) rfl rfl rfl (by decide +kernel) ⟨Nat.le_of_ble_eq_true rfl, Nat.le_of_ble_eq_true rfl⟩) (r_preV (q0 := 0) (ci := 0) hK (wfl hw).1 rfl rfl) rfl rfl hl.1 rfl (lv_room (Nat.le_of_ble_eq_true rfl)) d_law_776 ⟨hcd, hsd⟩) (fun r776 hf => ?_)
  refine lv_aload_n (pc := 779) hx hb d_law_779 rfl (lv_at hl 2 rfl) ?_
  refine w_scr (pc := 780) (jv := 1) (j := 1) hx hb hX hbl hAe hw.2.2 hl 0 4 rfl rfl rfl (by omega) hL d_law_780 d_law_781 d_law_783 (by decide) d_law_784 d_law_785 ?_
  refine lq_mi (pc := 786) hw hA (va_runV (As := [.int (xs (6 * k + 1))]) (rest := [.int r776]) ⟨hx, hb, hml, hown, hts⟩ (c_Mo_history l D cI cZ cJ bm _ _ _ _ hf) (cwV 1 hts (tb_wsV tc_Mo_history tm_Lw_120 ti_Mo_history te_Mo_history tz_Mo) rfl rfl rfl (by decide +kernel) ⟨Nat.le_of_ble_eq_true rfl, Nat.le_of_ble_eq_true rfl⟩) (g_preV (q0 := 0) (ci := 9) hK (wfl (law_m hw)) rfl rfl) rfl rfl hl.1 rfl (lv_room (Nat.le_of_ble_eq_true rfl)) d_law_786 ⟨hcd, hsd⟩) (fun r786 M786 H locs hw hf => ?_)
  refine lv_icmp_eq (pc := 789) (tgt := 794) hx hb d_law_789 (by decide) (fun hc => ?_) (fun hc => ?_)
  · replace hf := hf.1 hc
    refine W.widen (k := cells + 1) (n := slots + 6) (by omega) (by omega) ?_
    exact kk _ _ _ _ _ _ (lv_sub hl [0, 1, 2, 3, 4] rfl) hw hf
  replace hf := hf.2 hc
  exact False.elim hf
