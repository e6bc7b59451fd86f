def hWf (cI cZ cJ : ClassId) (a : Nat → Nat) (ao : Nat) (u : GS × (Nat → Int64)) : va_W := gkW cI cZ cJ a u.1 ++ [(ao, .inl (cJ, 1, .inr (.inl u.2)))]
theorem in01 : vp_in 0 1 := by unfold vp_in; decide
def wpH_Lw_wire (S : GS) (o : Nat → Int64) (p0 : Int32) (p1 : Int32) (post : Int32 → GS × (Nat → Int64) → Prop) : Prop := (wp_G_wire S p0 p1 (fun S1 => post 0 (S1, o))) ∨ (wpT_G_wire S p0 p1 eI ∧ post 1 (S, o))
abbrev rm_Lw_wire : Room := { frames := 8, cells := 1, slots := 6, locals := 124 }
set_option maxHeartbeats 4000000 in
set_option maxRecDepth 100000 in
theorem ch_Lw_wire (l : Launch) (hfl : l.flags = flags0) (D : va_G) (cI cZ cJ : ClassId) (a : Nat → Nat) (ao sz : Nat) (S : GS) (o : Nat → Int64) (p0 : Int32) (p1 : Int32) (post : Int32 → GS × (Nat → Int64) → Prop) (hf : wpH_Lw_wire S o p0 p1 post) : Met l y_Lw_wire ws_Lw_wire rm_Lw_wire (va_Pc [.ref (a 0), .int p0, .int p1] (hPre D (tys cI cZ cJ) (hWf cI cZ cJ a ao (S, o)) sz)) (va_Qi post (gB D (tys cI cZ cJ) (hWf cI cZ cJ a ao) (va_A (hWf cI cZ cJ a ao (S, o)) sz)) (va_A (hWf cI cZ cJ a ao (S, o)) sz)) 1 6 (va_A (hWf cI cZ cJ a ao (S, o)) sz) := by
  refine gm_h (QF := fun A => va_Qi post (gB D (tys cI cZ cJ) (hWf cI cZ cJ a ao) A) A) (cc := b_Lw_wire) (maxL := 4) (by decide) rfl (Nat.le_of_ble_eq_true rfl) ?_
  intro p e s m args below meth c A ls hx hb hr hts hown hlk hml htab hE hK hA hw hl
  have hl : lv_has ls 4 [(0, .ref (a 0)), (1, .int p0), (2, .int p1)] := hl
  refine lv_aload_n (pc := 0) hx hb d_Lw_wire_0 rfl (lv_at hl 0 rfl) ?_
  refine lv_iload_n (pc := 1) hx hb d_Lw_wire_1 rfl (lv_at hl 1 rfl) ?_
  refine lv_iload_n (pc := 2) hx hb d_Lw_wire_2 rfl (lv_at hl 2 rfl) ?_
  unfold wpH_Lw_wire at hf
  rcases hf with hf | hf
  · refine gF_v (pc := 3) (Wf := gkW cI cZ cJ a) hw hA (va_runV (As := [.int p0, .int p1]) (rest := []) ⟨hx, hb, hml, hown, hts⟩ (c_G_wire l D cI cZ cJ a _ _ _ _ _ hf) (cwV 2 hts (tb_wsV tc_G_wire tm_Lw_7 ti_G_wire te_G_wire tz_G) rfl rfl rfl (by decide +kernel) ⟨Nat.le_of_ble_eq_true rfl, Nat.le_of_ble_eq_true rfl⟩) (g_preV (q0 := 0) (ci := 0) hK (wfl hw) rfl rfl) rfl rfl hl.1 rfl (lv_room (Nat.le_of_ble_eq_true rfl)) d_Lw_wire_3 ⟨Nat.le_of_ble_eq_true rfl, Nat.le_of_ble_eq_true rfl⟩) (fun S1 H locs hw hf => ?_)
    refine lv_goto (pc := 6) (tgt := 12) hx hb d_Lw_wire_6 (by decide) ?_
    refine lv_iconst (pc := 12) (v := 0) hx hb d_Lw_wire_12 (by decide) ?_
    refine W.widen (k := 1) (n := 6) (by decide) (by decide) ?_
    exact gr_i (pc := 13) (Wf := hWf cI cZ cJ a ao) hx hb hr hlk hK (S1, o) hw hf d_Lw_wire_13
  · obtain ⟨hf, hpost⟩ := hf
    refine w_catchV (pc := 3) (hpc := 9) (As := [.int p0, .int p1]) (rest := []) ⟨hx, hb, hml, hown, hts⟩ (ct_G_wire l hfl D cI cZ cJ a _ _ _ _ hf) rfl (cwV 2 hts (tb_wsV tc_G_wire tm_Lw_7 ti_G_wire te_G_wire tz_G) rfl rfl rfl (by decide +kernel) ⟨Nat.le_of_ble_eq_true rfl, Nat.le_of_ble_eq_true rfl⟩) (ter_preV (q0 := 0) (ci := 0) hE hK (wfl hw).1 rfl rfl) rfl hl.1 rfl (Nat.le_of_ble_eq_true rfl) d_Lw_wire_3 ⟨Nat.le_of_ble_eq_true rfl, Nat.le_of_ble_eq_true rfl⟩ htab (⟨⟨by decide, by decide, by decide⟩, Or.inl ⟨rfl, hts _ (List.mem_cons_of_mem _ tq_Lw_13)⟩⟩) (fun x H1 hold hgr => ?_)
    have hw := wf_grow hw hold hgr
    refine lv_astore_n (pc := 9) (lv' := (3, .ref x) :: [(0, .ref (a 0)), (1, .int p0), (2, .int p1)]) hx hb d_Lw_wire_9 rfl hl (by decide) rfl (fun ls hl => ?_)
    refine lv_iconst (pc := 10) (v := 1) hx hb d_Lw_wire_10 (by decide) ?_
    exact gr_i (pc := 11) (Wf := hWf cI cZ cJ a ao) hx hb hr hlk hK (S, o) hw hpost d_Lw_wire_11
def wpH_Lw_bounce (S : GS) (o : Nat → Int64) (p0 : Int32) (p1 : Int32) (post : Int32 → GS × (Nat → Int64) → Prop) : Prop := (wp_G_bounce S p0 p1 (fun S1 => post 0 (S1, o))) ∨ (wpT_G_bounce S p0 p1 eI ∧ post 1 (S, o)) ∨ (wpT_G_bounce S p0 p1 eA ∧ post 2 (S, o))
abbrev rm_Lw_bounce : Room := { frames := 8, cells := 1, slots := 6, locals := 124 }
set_option maxHeartbeats 4000000 in
set_option maxRecDepth 100000 in
theorem ch_Lw_bounce (l : Launch) (hfl : l.flags = flags0) (D : va_G) (cI cZ cJ : ClassId) (a : Nat → Nat) (ao sz : Nat) (S : GS) (o : Nat → Int64) (p0 : Int32) (p1 : Int32) (post : Int32 → GS × (Nat → Int64) → Prop) (hf : wpH_Lw_bounce S o p0 p1 post) : Met l y_Lw_bounce ws_Lw_bounce rm_Lw_bounce (va_Pc [.ref (a 0), .int p0, .int p1] (hPre D (tys cI cZ cJ) (hWf cI cZ cJ a ao (S, o)) sz)) (va_Qi post (gB D (tys cI cZ cJ) (hWf cI cZ cJ a ao) (va_A (hWf cI cZ cJ a ao (S, o)) sz)) (va_A (hWf cI cZ cJ a ao (S, o)) sz)) 1 6 (va_A (hWf cI cZ cJ a ao (S, o)) sz) := by
  refine gm_h (QF := fun A => va_Qi post (gB D (tys cI cZ cJ) (hWf cI cZ cJ a ao) A) A) (cc := b_Lw_bounce) (maxL := 4) (by decide) rfl (Nat.le_of_ble_eq_true rfl) ?_
  intro p e s m args below meth c A ls hx hb hr hts hown hlk hml htab hE hK hA hw hl
  have hl : lv_has ls 4 [(0, .ref (a 0)), (1, .int p0), (2, .int p1)] := hl
  refine lv_aload_n (pc := 0) hx hb d_Lw_bounce_0 rfl (lv_at hl 0 rfl) ?_
  refine lv_iload_n (pc := 1) hx hb d_Lw_bounce_1 rfl (lv_at hl 1 rfl) ?_
  refine lv_iload_n (pc := 2) hx hb d_Lw_bounce_2 rfl (lv_at hl 2 rfl) ?_
  unfold wpH_Lw_bounce at hf
  rcases hf with hf | hf | hf
  · refine gF_v (pc := 3) (Wf := gkW cI cZ cJ a) hw hA (va_runV (As := [.int p0, .int p1]) (rest := []) ⟨hx, hb, hml, hown, hts⟩ (c_G_bounce l D cI cZ cJ a _ _ _ _ _ hf) (cwV 2 hts (tb_wsV tc_G_bounce tm_Lw_15 ti_G_bounce te_G_bounce tz_G) rfl rfl rfl (by decide +kernel) ⟨Nat.le_of_ble_eq_true rfl, Nat.le_of_ble_eq_true rfl⟩) (g_preV (q0 := 0) (ci := 0) hK (wfl hw) rfl rfl) rfl rfl hl.1 rfl (lv_room (Nat.le_of_ble_eq_true rfl)) d_Lw_bounce_3 ⟨Nat.le_of_ble_eq_true rfl, Nat.le_of_ble_eq_true rfl⟩) (fun S1 H locs hw hf => ?_)
    refine lv_goto (pc := 6) (tgt := 15) hx hb d_Lw_bounce_6 (by decide) ?_
    refine lv_iconst (pc := 15) (v := 0) hx hb d_Lw_bounce_15 (by decide) ?_
    refine W.widen (k := 1) (n := 6) (by decide) (by decide) ?_
    exact gr_i (pc := 16) (Wf := hWf cI cZ cJ a ao) hx hb hr hlk hK (S1, o) hw hf d_Lw_bounce_16
  · obtain ⟨hf, hpost⟩ := hf
    refine w_catchV (pc := 3) (hpc := 9) (As := [.int p0, .int p1]) (rest := []) ⟨hx, hb, hml, hown, hts⟩ (ct_G_bounce l hfl D cI cZ cJ a _ _ _ _ hf) rfl (cwV 2 hts (tb_wsV tc_G_bounce tm_Lw_15 ti_G_bounce te_G_bounce tz_G) rfl rfl rfl (by decide +kernel) ⟨Nat.le_of_ble_eq_true rfl, Nat.le_of_ble_eq_true rfl⟩) (ter_preV (q0 := 0) (ci := 0) hE hK (wfl hw).1 rfl rfl) rfl hl.1 rfl (Nat.le_of_ble_eq_true rfl) d_Lw_bounce_3 ⟨Nat.le_of_ble_eq_true rfl, Nat.le_of_ble_eq_true rfl⟩ htab (⟨⟨by decide, by decide, by decide⟩, Or.inl ⟨rfl, hts _ (List.mem_cons_of_mem _ tq_Lw_13)⟩⟩) (fun x H1 hold hgr => ?_)
    have hw := wf_grow hw hold hgr
    refine lv_astore_n (pc := 9) (lv' := (3, .ref x) :: [(0, .ref (a 0)), (1, .int p0), (2, .int p1)]) hx hb d_Lw_bounce_9 rfl hl (by decide) rfl (fun ls hl => ?_)
    refine lv_iconst (pc := 10) (v := 1) hx hb d_Lw_bounce_10 (by decide) ?_
    exact gr_i (pc := 11) (Wf := hWf cI cZ cJ a ao) hx hb hr hlk hK (S, o) hw hpost d_Lw_bounce_11
  · obtain ⟨hf, hpost⟩ := hf
    refine w_catchV (pc := 3) (hpc := 12) (As := [.int p0, .int p1]) (rest := []) ⟨hx, hb, hml, hown, hts⟩ (ct_G_bounce l hfl D cI cZ cJ a _ _ _ _ hf) rfl (cwV 2 hts (tb_wsV tc_G_bounce tm_Lw_15 ti_G_bounce te_G_bounce tz_G) rfl rfl rfl (by decide +kernel) ⟨Nat.le_of_ble_eq_true rfl, Nat.le_of_ble_eq_true rfl⟩) (ter_preV (q0 := 0) (ci := 0) hE hK (wfl hw).1 rfl rfl) rfl hl.1 rfl (Nat.le_of_ble_eq_true rfl) d_Lw_bounce_3 ⟨Nat.le_of_ble_eq_true rfl, Nat.le_of_ble_eq_true rfl⟩ htab (⟨⟨by decide, by decide, by decide⟩, Or.inr ⟨_, hts _ (List.mem_cons_of_mem _ tq_Lw_13), hE.2.2.2.1.1, ⟨⟨by decide, by decide, by decide⟩, Or.inl ⟨rfl, hts _ (List.mem_cons_of_mem _ tq_Lw_19)⟩⟩⟩⟩) (fun x H1 hold hgr => ?_)
    have hw := wf_grow hw hold hgr
    refine lv_astore_n (pc := 12) (lv' := (3, .ref x) :: [(0, .ref (a 0)), (1, .int p0), (2, .int p1)]) hx hb d_Lw_bounce_12 rfl hl (by decide) rfl (fun ls hl => ?_)
    refine lv_iconst (pc := 13) (v := 2) hx hb d_Lw_bounce_13 (by decide) ?_
    exact gr_i (pc := 14) (Wf := hWf cI cZ cJ a ao) hx hb hr hlk hK (S, o) hw hpost d_Lw_bounce_14
def wpH_Lw_scans (S : GS) (o : Nat → Int64) (p0 : Int32) (post : Int32 → GS × (Nat → Int64) → Prop) : Prop := (wp_G_scans S p0 (fun r S1 => post 0 (S1, (vp_updL o (0 : Int32).toNatClampNeg r.toInt64)))) ∨ (wpT_G_scans S p0 eA ∧ post 1 (S, o))
abbrev rm_Lw_scans : Room := { frames := 7, cells := 1, slots := 6, locals := 167 }
set_option maxHeartbeats 4000000 in
set_option maxRecDepth 100000 in
theorem ch_Lw_scans (l : Launch) (hfl : l.flags = flags0) (D : va_G) (cI cZ cJ : ClassId) (a : Nat → Nat) (ao sz : Nat) (S : GS) (o : Nat → Int64) (p0 : Int32) (post : Int32 → GS × (Nat → Int64) → Prop) (hf : wpH_Lw_scans S o p0 post) : Met l y_Lw_scans ws_Lw_scans rm_Lw_scans (va_Pc [.ref (a 0), .int p0, .ref ao] (hPre D (tys cI cZ cJ) (hWf cI cZ cJ a ao (S, o)) sz)) (va_Qi post (gB D (tys cI cZ cJ) (hWf cI cZ cJ a ao) (va_A (hWf cI cZ cJ a ao (S, o)) sz)) (va_A (hWf cI cZ cJ a ao (S, o)) sz)) 1 6 (va_A (hWf cI cZ cJ a ao (S, o)) sz) := by
  refine gm_h (QF := fun A => va_Qi post (gB D (tys cI cZ cJ) (hWf cI cZ cJ a ao) A) A) (cc := b_Lw_scans) (maxL := 4) (by decide) rfl (Nat.le_of_ble_eq_true rfl) ?_
  intro p e s m args below meth c A ls hx hb hr hts hown hlk hml htab hE hK hA hw hl
  have hl : lv_has ls 4 [(0, .ref (a 0)), (1, .int p0), (2, .ref ao)] := hl
  refine lv_aload_n (pc := 0) hx hb d_Lw_scans_0 rfl (lv_at hl 2 rfl) ?_
  refine lv_iconst (pc := 1) (v := 0) hx hb d_Lw_scans_1 (by decide) ?_
  refine lv_aload_n (pc := 2) hx hb d_Lw_scans_2 rfl (lv_at hl 0 rfl) ?_
  refine lv_iload_n (pc := 3) hx hb d_Lw_scans_3 rfl (lv_at hl 1 rfl) ?_
  unfold wpH_Lw_scans at hf
  rcases hf with hf | hf
  · refine gF_i (pc := 4) (Wf := gkW cI cZ cJ a) hw hA (va_runV (As := [.int p0]) (rest := [.int 0, .ref ao]) ⟨hx, hb, hml, hown, hts⟩ (c_G_scans l D cI cZ cJ a _ _ _ _ hf) (cwV 1 hts (tb_wsV tc_G_scans tm_Lw_21 ti_G_scans te_G_scans tz_G) rfl rfl rfl (by decide +kernel) ⟨Nat.le_of_ble_eq_true rfl, Nat.le_of_ble_eq_true rfl⟩) (g_preV (q0 := 0) (ci := 0) hK (wfl hw) rfl rfl) rfl rfl hl.1 rfl (lv_room (Nat.le_of_ble_eq_true rfl)) d_Lw_scans_4 ⟨Nat.le_of_ble_eq_true rfl, Nat.le_of_ble_eq_true rfl⟩) (fun r S1 H locs hw hf => ?_)
    refine lv_i2l (pc := 7) hx hb d_Lw_scans_7 rfl ?_
    refine va_last (pc := 8) hx hb hK hw.1 hw.2.1 hw.2.2 25 2 rfl rfl in01 d_Lw_scans_8 (fun H locs h1 h2 h3 => ?_)
    have hw : wf D A s.heap (hWf cI cZ cJ a ao (S1, (vp_updL o (0 : Int32).toNatClampNeg r.toInt64))) H locs := ⟨h1, h2, h3⟩
    refine lv_goto (pc := 9) (tgt := 15) hx hb d_Lw_scans_9 (by decide) ?_
    refine lv_iconst (pc := 15) (v := 0) hx hb d_Lw_scans_15 (by decide) ?_
    refine W.widen (k := 1) (n := 6) (by decide) (by decide) ?_
    exact gr_i (pc := 16) (Wf := hWf cI cZ cJ a ao) hx hb hr hlk hK (S1, (vp_updL o (0 : Int32).toNatClampNeg r.toInt64)) hw hf d_Lw_scans_16
  · obtain ⟨hf, hpost⟩ := hf
    refine w_catchV (pc := 4) (hpc := 12) (As := [.int p0]) (rest := [.int 0, .ref ao]) ⟨hx, hb, hml, hown, hts⟩ (ct_G_scans l hfl D cI cZ cJ a _ _ _ hf) rfl (cwV 1 hts (tb_wsV tc_G_scans tm_Lw_21 ti_G_scans te_G_scans tz_G) rfl rfl rfl (by decide +kernel) ⟨Nat.le_of_ble_eq_true rfl, Nat.le_of_ble_eq_true rfl⟩) (ter_preV (q0 := 0) (ci := 0) hE hK (wfl hw).1 rfl rfl) rfl hl.1 rfl (Nat.le_of_ble_eq_true rfl) d_Lw_scans_4 ⟨Nat.le_of_ble_eq_true rfl, Nat.le_of_ble_eq_true rfl⟩ htab (⟨⟨by decide, by decide, by decide⟩, Or.inl ⟨rfl, hts _ (List.mem_cons_of_mem _ tq_Lw_19)⟩⟩) (fun x H1 hold hgr => ?_)
    have hw := wf_grow hw hold hgr
    refine lv_astore_n (pc := 12) (lv' := (3, .ref x) :: [(0, .ref (a 0)), (1, .int p0), (2, .ref ao)]) hx hb d_Lw_scans_12 rfl hl (by decide) rfl (fun ls hl => ?_)
    refine lv_iconst (pc := 13) (v := 1) hx hb d_Lw_scans_13 (by decide) ?_
    exact gr_i (pc := 14) (Wf := hWf cI cZ cJ a ao) hx hb hr hlk hK (S, o) hw hpost d_Lw_scans_14
def wpH_Lw_map (S : GS) (o : Nat → Int64) (p0 : Int32) (p1 : Int32) (p2 : Int32) (p3 : Int32) (p4 : Int32) (post : Int32 → GS × (Nat → Int64) → Prop) : Prop := (wp_G_map S p0 p1 p2 p3 p4 (fun S1 => post 0 (S1, o))) ∨ (wpT_G_map S p0 p1 p2 p3 p4 eI ∧ post 1 (S, o)) ∨ (wpT_G_map S p0 p1 p2 p3 p4 eA ∧ post 2 (S, o))
abbrev rm_Lw_map : Room := { frames := 8, cells := 1, slots := 6, locals := 127 }
set_option maxHeartbeats 4000000 in
set_option maxRecDepth 100000 in
theorem ch_Lw_map (l : Launch) (hfl : l.flags = flags0) (D : va_G) (cI cZ cJ : ClassId) (a : Nat → Nat) (ao sz : Nat) (S : GS) (o : Nat → Int64) (p0 : Int32) (p1 : Int32) (p2 : Int32) (p3 : Int32) (p4 : Int32) (post : Int32 → GS × (Nat → Int64) → Prop) (hf : wpH_Lw_map S o p0 p1 p2 p3 p4 post) : Met l y_Lw_map ws_Lw_map rm_Lw_map (va_Pc [.ref (a 0), .int p0, .int p1, .int p2, .int p3, .int p4] (hPre D (tys cI cZ cJ) (hWf cI cZ cJ a ao (S, o)) sz)) (va_Qi post (gB D (tys cI cZ cJ) (hWf cI cZ cJ a ao) (va_A (hWf cI cZ cJ a ao (S, o)) sz)) (va_A (hWf cI cZ cJ a ao (S, o)) sz)) 1 6 (va_A (hWf cI cZ cJ a ao (S, o)) sz) := by
  refine gm_h (QF := fun A => va_Qi post (gB D (tys cI cZ cJ) (hWf cI cZ cJ a ao) A) A) (cc := b_Lw_map) (maxL := 7) (by decide) rfl (Nat.le_of_ble_eq_true rfl) ?_
  intro p e s m args below meth c A ls hx hb hr hts hown hlk hml htab hE hK hA hw hl
  have hl : lv_has ls 7 [(0, .ref (a 0)), (1, .int p0), (2, .int p1), (3, .int p2), (4, .int p3), (5, .int p4)] := hl
  refine lv_aload_n (pc := 0) hx hb d_Lw_map_0 rfl (lv_at hl 0 rfl) ?_
  refine lv_iload_n (pc := 1) hx hb d_Lw_map_1 rfl (lv_at hl 1 rfl) ?_
  refine lv_iload_n (pc := 2) hx hb d_Lw_map_2 rfl (lv_at hl 2 rfl) ?_
  refine lv_iload_n (pc := 3) hx hb d_Lw_map_3 rfl (lv_at hl 3 rfl) ?_
  refine lv_iload (pc := 4) hx hb d_Lw_map_4 (lv_at hl 4 rfl) ?_
  refine lv_iload (pc := 6) hx hb d_Lw_map_6 (lv_at hl 5 rfl) ?_
  unfold wpH_Lw_map at hf
  rcases hf with hf | hf | hf
  · refine gF_v (pc := 8) (Wf := gkW cI cZ cJ a) hw hA (va_runV (As := [.int p0, .int p1, .int p2, .int p3, .int p4]) (rest := []) ⟨hx, hb, hml, hown, hts⟩ (c_G_map l D cI cZ cJ a _ _ _ _ _ _ _ _ hf) (cwV 5 hts (tb_wsV tc_G_map tm_Lw_25 ti_G_map te_G_map tz_G) rfl rfl rfl (by decide +kernel) ⟨Nat.le_of_ble_eq_true rfl, Nat.le_of_ble_eq_true rfl⟩) (g_preV (q0 := 0) (ci := 0) hK (wfl hw) rfl rfl) rfl rfl hl.1 rfl (lv_room (Nat.le_of_ble_eq_true rfl)) d_Lw_map_8 ⟨Nat.le_of_ble_eq_true rfl, Nat.le_of_ble_eq_true rfl⟩) (fun S1 H locs hw hf => ?_)
    refine lv_goto (pc := 11) (tgt := 22) hx hb d_Lw_map_11 (by decide) ?_
    refine lv_iconst (pc := 22) (v := 0) hx hb d_Lw_map_22 (by decide) ?_
    refine W.widen (k := 1) (n := 6) (by decide) (by decide) ?_
    exact gr_i (pc := 23) (Wf := hWf cI cZ cJ a ao) hx hb hr hlk hK (S1, o) hw hf d_Lw_map_23
  · obtain ⟨hf, hpost⟩ := hf
    refine w_catchV (pc := 8) (hpc := 14) (As := [.int p0, .int p1, .int p2, .int p3, .int p4]) (rest := []) ⟨hx, hb, hml, hown, hts⟩ (ct_G_map l hfl D cI cZ cJ a _ _ _ _ _ _ _ hf) rfl (cwV 5 hts (tb_wsV tc_G_map tm_Lw_25 ti_G_map te_G_map tz_G) rfl rfl rfl (by decide +kernel) ⟨Nat.le_of_ble_eq_true rfl, Nat.le_of_ble_eq_true rfl⟩) (ter_preV (q0 := 0) (ci := 0) hE hK (wfl hw).1 rfl rfl) rfl hl.1 rfl (Nat.le_of_ble_eq_true rfl) d_Lw_map_8 ⟨Nat.le_of_ble_eq_true rfl, Nat.le_of_ble_eq_true rfl⟩ htab (⟨⟨by decide, by decide, by decide⟩, Or.inl ⟨rfl, hts _ (List.mem_cons_of_mem _ tq_Lw_13)⟩⟩) (fun x H1 hold hgr => ?_)
    have hw := wf_grow hw hold hgr
    refine lv_astore (pc := 14) (lv' := (6, .ref x) :: [(0, .ref (a 0)), (1, .int p0), (2, .int p1), (3, .int p2), (4, .int p3), (5, .int p4)]) hx hb d_Lw_map_14 hl (by decide) rfl (fun ls hl => ?_)
    refine lv_iconst (pc := 16) (v := 1) hx hb d_Lw_map_16 (by decide) ?_
    exact gr_i (pc := 17) (Wf := hWf cI cZ cJ a ao) hx hb hr hlk hK (S, o) hw hpost d_Lw_map_17
  · obtain ⟨hf, hpost⟩ := hf
    refine w_catchV (pc := 8) (hpc := 18) (As := [.int p0, .int p1, .int p2, .int p3, .int p4]) (rest := []) ⟨hx, hb, hml, hown, hts⟩ (ct_G_map l hfl D cI cZ cJ a _ _ _ _ _ _ _ hf) rfl (cwV 5 hts (tb_wsV tc_G_map tm_Lw_25 ti_G_map te_G_map tz_G) rfl rfl rfl (by decide +kernel) ⟨Nat.le_of_ble_eq_true rfl, Nat.le_of_ble_eq_true rfl⟩) (ter_preV (q0 := 0) (ci := 0) hE hK (wfl hw).1 rfl rfl) rfl hl.1 rfl (Nat.le_of_ble_eq_true rfl) d_Lw_map_8 ⟨Nat.le_of_ble_eq_true rfl, Nat.le_of_ble_eq_true rfl⟩ htab (⟨⟨by decide, by decide, by decide⟩, Or.inr ⟨_, hts _ (List.mem_cons_of_mem _ tq_Lw_13), hE.2.2.2.1.1, ⟨⟨by decide, by decide, by decide⟩, Or.inl ⟨rfl, hts _ (List.mem_cons_of_mem _ tq_Lw_19)⟩⟩⟩⟩) (fun x H1 hold hgr => ?_)
    have hw := wf_grow hw hold hgr
    refine lv_astore (pc := 18) (lv' := (6, .ref x) :: [(0, .ref (a 0)), (1, .int p0), (2, .int p1), (3, .int p2), (4, .int p3), (5, .int p4)]) hx hb d_Lw_map_18 hl (by decide) rfl (fun ls hl => ?_)
    refine lv_iconst (pc := 20) (v := 2) hx hb d_Lw_map_20 (by decide) ?_
    exact gr_i (pc := 21) (Wf := hWf cI cZ cJ a ao) hx hb hr hlk hK (S, o) hw hpost d_Lw_map_21
def wpH_Lw_macro (S : GS) (o : Nat → Int64) (p0 : Int32) (p1 : Int32) (p2 : Int32) (post : Int32 → GS × (Nat → Int64) → Prop) : Prop := (wp_G_macro S p0 p1 p2 (fun S1 => post 0 (S1, o))) ∨ (wpT_G_macro S p0 p1 p2 eI ∧ post 1 (S, o)) ∨ (wpT_G_macro S p0 p1 p2 eA ∧ post 2 (S, o))
abbrev rm_Lw_macro : Room := { frames := 7, cells := 1, slots := 6, locals := 105 }
set_option maxHeartbeats 4000000 in
set_option maxRecDepth 100000 in
theorem ch_Lw_macro (l : Launch) (hfl : l.flags = flags0) (D : va_G) (cI cZ cJ : ClassId) (a : Nat → Nat) (ao sz : Nat) (S : GS) (o : Nat → Int64) (p0 : Int32) (p1 : Int32) (p2 : Int32) (post : Int32 → GS × (Nat → Int64) → Prop) (hf : wpH_Lw_macro S o p0 p1 p2 post) : Met l y_Lw_macro ws_Lw_macro rm_Lw_macro (va_Pc [.ref (a 0), .int p0, .int p1, .int p2] (hPre D (tys cI cZ cJ) (hWf cI cZ cJ a ao (S, o)) sz)) (va_Qi post (gB D (tys cI cZ cJ) (hWf cI cZ cJ a ao) (va_A (hWf cI cZ cJ a ao (S, o)) sz)) (va_A (hWf cI cZ cJ a ao (S, o)) sz)) 1 6 (va_A (hWf cI cZ cJ a ao (S, o)) sz) := by
  refine gm_h (QF := fun A => va_Qi post (gB D (tys cI cZ cJ) (hWf cI cZ cJ a ao) A) A) (cc := b_Lw_macro) (maxL := 5) (by decide) rfl (Nat.le_of_ble_eq_true rfl) ?_
  intro p e s m args below meth c A ls hx hb hr hts hown hlk hml htab hE hK hA hw hl
  have hl : lv_has ls 5 [(0, .ref (a 0)), (1, .int p0), (2, .int p1), (3, .int p2)] := hl
  refine lv_aload_n (pc := 0) hx hb d_Lw_macro_0 rfl (lv_at hl 0 rfl) ?_
  refine lv_iload_n (pc := 1) hx hb d_Lw_macro_1 rfl (lv_at hl 1 rfl) ?_
  refine lv_iload_n (pc := 2) hx hb d_Lw_macro_2 rfl (lv_at hl 2 rfl) ?_
  refine lv_iload_n (pc := 3) hx hb d_Lw_macro_3 rfl (lv_at hl 3 rfl) ?_
  unfold wpH_Lw_macro at hf
  rcases hf with hf | hf | hf
  · refine gF_v (pc := 4) (Wf := gkW cI cZ cJ a) hw hA (va_runV (As := [.int p0, .int p1, .int p2]) (rest := []) ⟨hx, hb, hml, hown, hts⟩ (c_G_macro l D cI cZ cJ a _ _ _ _ _ _ hf) (cwV 3 hts (tb_wsV tc_G_macro tm_Lw_29 ti_G_macro te_G_macro tz_G) rfl rfl rfl (by decide +kernel) ⟨Nat.le_of_ble_eq_true rfl, Nat.le_of_ble_eq_true rfl⟩) (g_preV (q0 := 0) (ci := 0) hK (wfl hw) rfl rfl) rfl rfl hl.1 rfl (lv_room (Nat.le_of_ble_eq_true rfl)) d_Lw_macro_4 ⟨Nat.le_of_ble_eq_true rfl, Nat.le_of_ble_eq_true rfl⟩) (fun S1 H locs hw hf => ?_)
    refine lv_goto (pc := 7) (tgt := 18) hx hb d_Lw_macro_7 (by decide) ?_
    refine lv_iconst (pc := 18) (v := 0) hx hb d_Lw_macro_18 (by decide) ?_
    refine W.widen (k := 1) (n := 6) (by decide) (by decide) ?_
    exact gr_i (pc := 19) (Wf := hWf cI cZ cJ a ao) hx hb hr hlk hK (S1, o) hw hf d_Lw_macro_19
  · obtain ⟨hf, hpost⟩ := hf
    refine w_catchV (pc := 4) (hpc := 10) (As := [.int p0, .int p1, .int p2]) (rest := []) ⟨hx, hb, hml, hown, hts⟩ (ct_G_macro l hfl D cI cZ cJ a _ _ _ _ _ hf) rfl (cwV 3 hts (tb_wsV tc_G_macro tm_Lw_29 ti_G_macro te_G_macro tz_G) rfl rfl rfl (by decide +kernel) ⟨Nat.le_of_ble_eq_true rfl, Nat.le_of_ble_eq_true rfl⟩) (ter_preV (q0 := 0) (ci := 0) hE hK (wfl hw).1 rfl rfl) rfl hl.1 rfl (Nat.le_of_ble_eq_true rfl) d_Lw_macro_4 ⟨Nat.le_of_ble_eq_true rfl, Nat.le_of_ble_eq_true rfl⟩ htab (⟨⟨by decide, by decide, by decide⟩, Or.inl ⟨rfl, hts _ (List.mem_cons_of_mem _ tq_Lw_13)⟩⟩) (fun x H1 hold hgr => ?_)
    have hw := wf_grow hw hold hgr
    refine lv_astore (pc := 10) (lv' := (4, .ref x) :: [(0, .ref (a 0)), (1, .int p0), (2, .int p1), (3, .int p2)]) hx hb d_Lw_macro_10 hl (by decide) rfl (fun ls hl => ?_)
    refine lv_iconst (pc := 12) (v := 1) hx hb d_Lw_macro_12 (by decide) ?_
    exact gr_i (pc := 13) (Wf := hWf cI cZ cJ a ao) hx hb hr hlk hK (S, o) hw hpost d_Lw_macro_13
  · obtain ⟨hf, hpost⟩ := hf
    refine w_catchV (pc := 4) (hpc := 14) (As := [.int p0, .int p1, .int p2]) (rest := []) ⟨hx, hb, hml, hown, hts⟩ (ct_G_macro l hfl D cI cZ cJ a _ _ _ _ _ hf) rfl (cwV 3 hts (tb_wsV tc_G_macro tm_Lw_29 ti_G_macro te_G_macro tz_G) rfl rfl rfl (by decide +kernel) ⟨Nat.le_of_ble_eq_true rfl, Nat.le_of_ble_eq_true rfl⟩) (ter_preV (q0 := 0) (ci := 0) hE hK (wfl hw).1 rfl rfl) rfl hl.1 rfl (Nat.le_of_ble_eq_true rfl) d_Lw_macro_4 ⟨Nat.le_of_ble_eq_true rfl, Nat.le_of_ble_eq_true rfl⟩ htab (⟨⟨by decide, by decide, by decide⟩, Or.inr ⟨_, hts _ (List.mem_cons_of_mem _ tq_Lw_13), hE.2.2.2.1.1, ⟨⟨by decide, by decide, by decide⟩, Or.inl ⟨rfl, hts _ (List.mem_cons_of_mem _ tq_Lw_19)⟩⟩⟩⟩) (fun x H1 hold hgr => ?_)
    have hw := wf_grow hw hold hgr
    refine lv_astore (pc := 14) (lv' := (4, .ref x) :: [(0, .ref (a 0)), (1, .int p0), (2, .int p1), (3, .int p2)]) hx hb d_Lw_macro_14 hl (by decide) rfl (fun ls hl => ?_)
    refine lv_iconst (pc := 16) (v := 2) hx hb d_Lw_macro_16 (by decide) ?_
    exact gr_i (pc := 17) (Wf := hWf cI cZ cJ a ao) hx hb hr hlk hK (S, o) hw hpost d_Lw_macro_17
def wpH_Lw_chord (S : GS) (o : Nat → Int64) (p0 : Int32) (p1 : Int32) (p2 : Int32) (post : Int32 → GS × (Nat → Int64) → Prop) : Prop := (wp_G_chord S p0 p1 p2 (fun S1 => post 0 (S1, o))) ∨ (wpT_G_chord S p0 p1 p2 eI ∧ post 1 (S, o)) ∨ (wpT_G_chord S p0 p1 p2 eA ∧ post 2 (S, o)) ∨ (wpT_G_chord S p0 p1 p2 eS ∧ post 3 (S, o))
abbrev rm_Lw_chord : Room := { frames := 7, cells := 1, slots := 6, locals := 105 }
set_option maxHeartbeats 4000000 in
set_option maxRecDepth 100000 in
theorem ch_Lw_chord (l : Launch) (hfl : l.flags = flags0) (D : va_G) (cI cZ cJ : ClassId) (a : Nat → Nat) (ao sz : Nat) (S : GS) (o : Nat → Int64) (p0 : Int32) (p1 : Int32) (p2 : Int32) (post : Int32 → GS × (Nat → Int64) → Prop) (hf : wpH_Lw_chord S o p0 p1 p2 post) : Met l y_Lw_chord ws_Lw_chord rm_Lw_chord (va_Pc [.ref (a 0), .int p0, .int p1, .int p2] (hPre D (tys cI cZ cJ) (hWf cI cZ cJ a ao (S, o)) sz)) (va_Qi post (gB D (tys cI cZ cJ) (hWf cI cZ cJ a ao) (va_A (hWf cI cZ cJ a ao (S, o)) sz)) (va_A (hWf cI cZ cJ a ao (S, o)) sz)) 1 6 (va_A (hWf cI cZ cJ a ao (S, o)) sz) := by
  refine gm_h (QF := fun A => va_Qi post (gB D (tys cI cZ cJ) (hWf cI cZ cJ a ao) A) A) (cc := b_Lw_chord) (maxL := 5) (by decide) rfl (Nat.le_of_ble_eq_true rfl) ?_
  intro p e s m args below meth c A ls hx hb hr hts hown hlk hml htab hE hK hA hw hl
  have hl : lv_has ls 5 [(0, .ref (a 0)), (1, .int p0), (2, .int p1), (3, .int p2)] := hl
  refine lv_aload_n (pc := 0) hx hb d_Lw_chord_0 rfl (lv_at hl 0 rfl) ?_
  refine lv_iload_n (pc := 1) hx hb d_Lw_chord_1 rfl (lv_at hl 1 rfl) ?_
  refine lv_iload_n (pc := 2) hx hb d_Lw_chord_2 rfl (lv_at hl 2 rfl) ?_
  refine lv_iload_n (pc := 3) hx hb d_Lw_chord_3 rfl (lv_at hl 3 rfl) ?_
  unfold wpH_Lw_chord at hf
  rcases hf with hf | hf | hf | hf
  · refine gF_v (pc := 4) (Wf := gkW cI cZ cJ a) hw hA (va_runV (As := [.int p0, .int p1, .int p2]) (rest := []) ⟨hx, hb, hml, hown, hts⟩ (c_G_chord l D cI cZ cJ a _ _ _ _ _ _ hf) (cwV 3 hts (tb_wsV tc_G_chord tm_Lw_33 ti_G_chord te_G_chord tz_G) rfl rfl rfl (by decide +kernel) ⟨Nat.le_of_ble_eq_true rfl, Nat.le_of_ble_eq_true rfl⟩) (g_preV (q0 := 0) (ci := 0) hK (wfl hw) rfl rfl) rfl rfl hl.1 rfl (lv_room (Nat.le_of_ble_eq_true rfl)) d_Lw_chord_4 ⟨Nat.le_of_ble_eq_true rfl, Nat.le_of_ble_eq_true rfl⟩) (fun S1 H locs hw hf => ?_)
    refine lv_goto (pc := 7) (tgt := 22) hx hb d_Lw_chord_7 (by decide) ?_
    refine lv_iconst (pc := 22) (v := 0) hx hb d_Lw_chord_22 (by decide) ?_
    refine W.widen (k := 1) (n := 6) (by decide) (by decide) ?_
    exact gr_i (pc := 23) (Wf := hWf cI cZ cJ a ao) hx hb hr hlk hK (S1, o) hw hf d_Lw_chord_23
  · obtain ⟨hf, hpost⟩ := hf
    refine w_catchV (pc := 4) (hpc := 10) (As := [.int p0, .int p1, .int p2]) (rest := []) ⟨hx, hb, hml, hown, hts⟩ (ct_G_chord l hfl D cI cZ cJ a _ _ _ _ _ hf) rfl (cwV 3 hts (tb_wsV tc_G_chord tm_Lw_33 ti_G_chord te_G_chord tz_G) rfl rfl rfl (by decide +kernel) ⟨Nat.le_of_ble_eq_true rfl, Nat.le_of_ble_eq_true rfl⟩) (ter_preV (q0 := 0) (ci := 0) hE hK (wfl hw).1 rfl rfl) rfl hl.1 rfl (Nat.le_of_ble_eq_true rfl) d_Lw_chord_4 ⟨Nat.le_of_ble_eq_true rfl, Nat.le_of_ble_eq_true rfl⟩ htab (⟨⟨by decide, by decide, by decide⟩, Or.inl ⟨rfl, hts _ (List.mem_cons_of_mem _ tq_Lw_13)⟩⟩) (fun x H1 hold hgr => ?_)
    have hw := wf_grow hw hold hgr
    refine lv_astore (pc := 10) (lv' := (4, .ref x) :: [(0, .ref (a 0)), (1, .int p0), (2, .int p1), (3, .int p2)]) hx hb d_Lw_chord_10 hl (by decide) rfl (fun ls hl => ?_)
    refine lv_iconst (pc := 12) (v := 1) hx hb d_Lw_chord_12 (by decide) ?_
    exact gr_i (pc := 13) (Wf := hWf cI cZ cJ a ao) hx hb hr hlk hK (S, o) hw hpost d_Lw_chord_13
  · obtain ⟨hf, hpost⟩ := hf
    refine w_catchV (pc := 4) (hpc := 14) (As := [.int p0, .int p1, .int p2]) (rest := []) ⟨hx, hb, hml, hown, hts⟩ (ct_G_chord l hfl D cI cZ cJ a _ _ _ _ _ hf) rfl (cwV 3 hts (tb_wsV tc_G_chord tm_Lw_33 ti_G_chord te_G_chord tz_G) rfl rfl rfl (by decide +kernel) ⟨Nat.le_of_ble_eq_true rfl, Nat.le_of_ble_eq_true rfl⟩) (ter_preV (q0 := 0) (ci := 0) hE hK (wfl hw).1 rfl rfl) rfl hl.1 rfl (Nat.le_of_ble_eq_true rfl) d_Lw_chord_4 ⟨Nat.le_of_ble_eq_true rfl, Nat.le_of_ble_eq_true rfl⟩ htab (⟨⟨by decide, by decide, by decide⟩, Or.inr ⟨_, hts _ (List.mem_cons_of_mem _ tq_Lw_13), hE.2.2.2.1.1, ⟨⟨by decide, by decide, by decide⟩, Or.inl ⟨rfl, hts _ (List.mem_cons_of_mem _ tq_Lw_19)⟩⟩⟩⟩) (fun x H1 hold hgr => ?_)
    have hw := wf_grow hw hold hgr
    refine lv_astore (pc := 14) (lv' := (4, .ref x) :: [(0, .ref (a 0)), (1, .int p0), (2, .int p1), (3, .int p2)]) hx hb d_Lw_chord_14 hl (by decide) rfl (fun ls hl => ?_)
    refine lv_iconst (pc := 16) (v := 2) hx hb d_Lw_chord_16 (by decide) ?_
    exact gr_i (pc := 17) (Wf := hWf cI cZ cJ a ao) hx hb hr hlk hK (S, o) hw hpost d_Lw_chord_17
  · obtain ⟨hf, hpost⟩ := hf
    refine w_catchV (pc := 4) (hpc := 18) (As := [.int p0, .int p1, .int p2]) (rest := []) ⟨hx, hb, hml, hown, hts⟩ (ct_G_chord l hfl D cI cZ cJ a _ _ _ _ _ hf) rfl (cwV 3 hts (tb_wsV tc_G_chord tm_Lw_33 ti_G_chord te_G_chord tz_G) rfl rfl rfl (by decide +kernel) ⟨Nat.le_of_ble_eq_true rfl, Nat.le_of_ble_eq_true rfl⟩) (ter_preV (q0 := 0) (ci := 0) hE hK (wfl hw).1 rfl rfl) rfl hl.1 rfl (Nat.le_of_ble_eq_true rfl) d_Lw_chord_4 ⟨Nat.le_of_ble_eq_true rfl, Nat.le_of_ble_eq_true rfl⟩ htab (⟨⟨by decide, by decide, by decide⟩, Or.inr ⟨_, hts _ (List.mem_cons_of_mem _ tq_Lw_13), hE.2.2.2.1.2.1, ⟨⟨by decide, by decide, by decide⟩, Or.inr ⟨_, hts _ (List.mem_cons_of_mem _ tq_Lw_19), hE.2.2.2.1.2.2, ⟨⟨by decide, by decide, by decide⟩, Or.inl ⟨rfl, hts _ (List.mem_cons_of_mem _ tq_Lw_36)⟩⟩⟩⟩⟩⟩) (fun x H1 hold hgr => ?_)
    have hw := wf_grow hw hold hgr
    refine lv_astore (pc := 18) (lv' := (4, .ref x) :: [(0, .ref (a 0)), (1, .int p0), (2, .int p1), (3, .int p2)]) hx hb d_Lw_chord_18 hl (by decide) rfl (fun ls hl => ?_)
    refine lv_iconst (pc := 20) (v := 3) hx hb d_Lw_chord_20 (by decide) ?_
    exact gr_i (pc := 21) (Wf := hWf cI cZ cJ a ao) hx hb hr hlk hK (S, o) hw hpost d_Lw_chord_21
def wpH_Lw_on (S : GS) (o : Nat → Int64) (p0 : Int32) (post : Int32 → GS × (Nat → Int64) → Prop) : Prop := (wp_G_on S p0 (fun r => (r = 0 → post 0 (S, (vp_updL o (0 : Int32).toNatClampNeg (0 : Int64)))) ∧ (¬ r = 0 → post 0 (S, (vp_updL o (0 : Int32).toNatClampNeg (1 : Int64)))))) ∨ (wpT_G_on S p0 eI ∧ post 1 (S, o))
abbrev rm_Lw_on : Room := { frames := 8, cells := 1, slots := 6, locals := 123 }
set_option maxHeartbeats 4000000 in
set_option maxRecDepth 100000 in
theorem ch_Lw_on (l : Launch) (hfl : l.flags = flags0) (D : va_G) (cI cZ cJ : ClassId) (a : Nat → Nat) (ao sz : Nat) (S : GS) (o : Nat → Int64) (p0 : Int32) (post : Int32 → GS × (Nat → Int64) → Prop) (hf : wpH_Lw_on S o p0 post) : Met l y_Lw_on ws_Lw_on rm_Lw_on (va_Pc [.ref (a 0), .int p0, .ref ao] (hPre D (tys cI cZ cJ) (hWf cI cZ cJ a ao (S, o)) sz)) (va_Qi post (gB D (tys cI cZ cJ) (hWf cI cZ cJ a ao) (va_A (hWf cI cZ cJ a ao (S, o)) sz)) (va_A (hWf cI cZ cJ a ao (S, o)) sz)) 1 6 (va_A (hWf cI cZ cJ a ao (S, o)) sz) := by
  refine gm_h (QF := fun A => va_Qi post (gB D (tys cI cZ cJ) (hWf cI cZ cJ a ao) A) A) (cc := b_Lw_on) (maxL := 4) (by decide) rfl (Nat.le_of_ble_eq_true rfl) ?_
  intro p e s m args below meth c A ls hx hb hr hts hown hlk hml htab hE hK hA hw hl
  have hl : lv_has ls 4 [(0, .ref (a 0)), (1, .int p0), (2, .ref ao)] := hl
  refine lv_aload_n (pc := 0) hx hb d_Lw_on_0 rfl (lv_at hl 2 rfl) ?_
  refine lv_iconst (pc := 1) (v := 0) hx hb d_Lw_on_1 (by decide) ?_
  refine lv_aload_n (pc := 2) hx hb d_Lw_on_2 rfl (lv_at hl 0 rfl) ?_
  refine lv_iload_n (pc := 3) hx hb d_Lw_on_3 rfl (lv_at hl 1 rfl) ?_
  unfold wpH_Lw_on at hf
  rcases hf with hf | hf
  · refine vp_callSi (pc := 4) (W.runV (As := [.int p0]) (rest := [.int 0, .ref ao]) ⟨hx, hb, hml, hown, hts⟩ (c_G_on l D cI cZ cJ a _ _ _ hf) (cwV 1 hts (tb_wsV tc_G_on tm_Lw_38 ti_G_on te_G_on tz_G) rfl rfl rfl (by decide +kernel) ⟨Nat.le_of_ble_eq_true rfl, Nat.le_of_ble_eq_true rfl⟩) (r_preV (q0 := 0) (ci := 0) hK (wfl hw).1 rfl rfl) rfl rfl hl.1 rfl (lv_room (Nat.le_of_ble_eq_true rfl)) d_Lw_on_4 ⟨Nat.le_of_ble_eq_true rfl, Nat.le_of_ble_eq_true rfl⟩) (fun r hf => ?_)
    refine lv_if_eq (pc := 7) (tgt := 14) hx hb d_Lw_on_7 (by decide) (fun hc => ?_) (fun hc => ?_)
    · replace hf := hf.1 hc
      refine lv_lconst (pc := 14) (v := 0) hx hb d_Lw_on_14 (by decide) ?_
      refine va_last (pc := 15) hx hb hK hw.1 hw.2.1 hw.2.2 25 2 rfl rfl in01 d_Lw_on_15 (fun H locs h1 h2 h3 => ?_)
      have hw : wf D A s.heap (hWf cI cZ cJ a ao (S, (vp_updL o (0 : Int32).toNatClampNeg (0 : Int64)))) H locs := ⟨h1, h2, h3⟩
      refine lv_goto (pc := 16) (tgt := 22) hx hb d_Lw_on_16 (by decide) ?_
      refine lv_iconst (pc := 22) (v := 0) hx hb d_Lw_on_22 (by decide) ?_
      refine W.widen (k := 1) (n := 6) (by decide) (by decide) ?_
      exact gr_i (pc := 23) (Wf := hWf cI cZ cJ a ao) hx hb hr hlk hK (S, (vp_updL o (0 : Int32).toNatClampNeg (0 : Int64))) hw hf d_Lw_on_23
    replace hf := hf.2 hc
    refine lv_lconst (pc := 10) (v := 1) hx hb d_Lw_on_10 (by decide) ?_
    refine lv_goto (pc := 11) (tgt := 15) hx hb d_Lw_on_11 (by decide) ?_
    refine va_last (pc := 15) hx hb hK hw.1 hw.2.1 hw.2.2 25 2 rfl rfl in01 d_Lw_on_15 (fun H locs h1 h2 h3 => ?_)
    have hw : wf D A s.heap (hWf cI cZ cJ a ao (S, (vp_updL o (0 : Int32).toNatClampNeg (1 : Int64)))) H locs := ⟨h1, h2, h3⟩
    refine lv_goto (pc := 16) (tgt := 22) hx hb d_Lw_on_16 (by decide) ?_
    refine lv_iconst (pc := 22) (v := 0) hx hb d_Lw_on_22 (by decide) ?_
    refine W.widen (k := 1) (n := 6) (by decide) (by decide) ?_
    exact gr_i (pc := 23) (Wf := hWf cI cZ cJ a ao) hx hb hr hlk hK (S, (vp_updL o (0 : Int32).toNatClampNeg (1 : Int64))) hw hf d_Lw_on_23
  · obtain ⟨hf, hpost⟩ := hf
    refine w_catchV (pc := 4) (hpc := 19) (As := [.int p0]) (rest := [.int 0, .ref ao]) ⟨hx, hb, hml, hown, hts⟩ (ct_G_on l hfl D cI cZ cJ a _ _ _ hf) rfl (cwV 1 hts (tb_wsV tc_G_on tm_Lw_38 ti_G_on te_G_on tz_G) rfl rfl rfl (by decide +kernel) ⟨Nat.le_of_ble_eq_true rfl, Nat.le_of_ble_eq_true rfl⟩) (ter_preV (q0 := 0) (ci := 0) hE hK (wfl hw).1 rfl rfl) rfl hl.1 rfl (Nat.le_of_ble_eq_true rfl) d_Lw_on_4 ⟨Nat.le_of_ble_eq_true rfl, Nat.le_of_ble_eq_true rfl⟩ htab (⟨⟨by decide, by decide, by decide⟩, Or.inl ⟨rfl, hts _ (List.mem_cons_of_mem _ tq_Lw_13)⟩⟩) (fun x H1 hold hgr => ?_)
    have hw := wf_grow hw hold hgr
    refine lv_astore_n (pc := 19) (lv' := (3, .ref x) :: [(0, .ref (a 0)), (1, .int p0), (2, .ref ao)]) hx hb d_Lw_on_19 rfl hl (by decide) rfl (fun ls hl => ?_)
    refine lv_iconst (pc := 20) (v := 1) hx hb d_Lw_on_20 (by decide) ?_
    exact gr_i (pc := 21) (Wf := hWf cI cZ cJ a ao) hx hb hr hlk hK (S, o) hw hpost d_Lw_on_21
def wpH_Lw_top (S : GS) (o : Nat → Int64) (p0 : Int32) (post : Int32 → GS × (Nat → Int64) → Prop) : Prop := (wp_G_top S p0 (fun r => post 0 (S, (vp_updL o (0 : Int32).toNatClampNeg r.toInt64)))) ∨ (wpT_G_top S p0 eI ∧ post 1 (S, o))
abbrev rm_Lw_top : Room := { frames := 8, cells := 1, slots := 6, locals := 123 }
set_option maxHeartbeats 4000000 in
set_option maxRecDepth 100000 in
theorem ch_Lw_top (l : Launch) (hfl : l.flags = flags0) (D : va_G) (cI cZ cJ : ClassId) (a : Nat → Nat) (ao sz : Nat) (S : GS) (o : Nat → Int64) (p0 : Int32) (post : Int32 → GS × (Nat → Int64) → Prop) (hf : wpH_Lw_top S o p0 post) : Met l y_Lw_top ws_Lw_top rm_Lw_top (va_Pc [.ref (a 0), .int p0, .ref ao] (hPre D (tys cI cZ cJ) (hWf cI cZ cJ a ao (S, o)) sz)) (va_Qi post (gB D (tys cI cZ cJ) (hWf cI cZ cJ a ao) (va_A (hWf cI cZ cJ a ao (S, o)) sz)) (va_A (hWf cI cZ cJ a ao (S, o)) sz)) 1 6 (va_A (hWf cI cZ cJ a ao (S, o)) sz) := by
  refine gm_h (QF := fun A => va_Qi post (gB D (tys cI cZ cJ) (hWf cI cZ cJ a ao) A) A) (cc := b_Lw_top) (maxL := 4) (by decide) rfl (Nat.le_of_ble_eq_true rfl) ?_
  intro p e s m args below meth c A ls hx hb hr hts hown hlk hml htab hE hK hA hw hl
  have hl : lv_has ls 4 [(0, .ref (a 0)), (1, .int p0), (2, .ref ao)] := hl
  refine lv_aload_n (pc := 0) hx hb d_Lw_top_0 rfl (lv_at hl 2 rfl) ?_
  refine lv_iconst (pc := 1) (v := 0) hx hb d_Lw_top_1 (by decide) ?_
  refine lv_aload_n (pc := 2) hx hb d_Lw_top_2 rfl (lv_at hl 0 rfl) ?_
  refine lv_iload_n (pc := 3) hx hb d_Lw_top_3 rfl (lv_at hl 1 rfl) ?_
  unfold wpH_Lw_top at hf
  rcases hf with hf | hf
  · refine vp_callSi (pc := 4) (W.runV (As := [.int p0]) (rest := [.int 0, .ref ao]) ⟨hx, hb, hml, hown, hts⟩ (c_G_top l D cI cZ cJ a _ _ _ hf) (cwV 1 hts (tb_wsV tc_G_top tm_Lw_42 ti_G_top te_G_top tz_G) rfl rfl rfl (by decide +kernel) ⟨Nat.le_of_ble_eq_true rfl, Nat.le_of_ble_eq_true rfl⟩) (r_preV (q0 := 0) (ci := 0) hK (wfl hw).1 rfl rfl) rfl rfl hl.1 rfl (lv_room (Nat.le_of_ble_eq_true rfl)) d_Lw_top_4 ⟨Nat.le_of_ble_eq_true rfl, Nat.le_of_ble_eq_true rfl⟩) (fun r hf => ?_)
    refine lv_i2l (pc := 7) hx hb d_Lw_top_7 rfl ?_
    refine va_last (pc := 8) hx hb hK hw.1 hw.2.1 hw.2.2 25 2 rfl rfl in01 d_Lw_top_8 (fun H locs h1 h2 h3 => ?_)
    have hw : wf D A s.heap (hWf cI cZ cJ a ao (S, (vp_updL o (0 : Int32).toNatClampNeg r.toInt64))) H locs := ⟨h1, h2, h3⟩
    refine lv_goto (pc := 9) (tgt := 15) hx hb d_Lw_top_9 (by decide) ?_
    refine lv_iconst (pc := 15) (v := 0) hx hb d_Lw_top_15 (by decide) ?_
    refine W.widen (k := 1) (n := 6) (by decide) (by decide) ?_
    exact gr_i (pc := 16) (Wf := hWf cI cZ cJ a ao) hx hb hr hlk hK (S, (vp_updL o (0 : Int32).toNatClampNeg r.toInt64)) hw hf d_Lw_top_16
  · obtain ⟨hf, hpost⟩ := hf
    refine w_catchV (pc := 4) (hpc := 12) (As := [.int p0]) (rest := [.int 0, .ref ao]) ⟨hx, hb, hml, hown, hts⟩ (ct_G_top l hfl D cI cZ cJ a _ _ _ hf) rfl (cwV 1 hts (tb_wsV tc_G_top tm_Lw_42 ti_G_top te_G_top tz_G) rfl rfl rfl (by decide +kernel) ⟨Nat.le_of_ble_eq_true rfl, Nat.le_of_ble_eq_true rfl⟩) (ter_preV (q0 := 0) (ci := 0) hE hK (wfl hw).1 rfl rfl) rfl hl.1 rfl (Nat.le_of_ble_eq_true rfl) d_Lw_top_4 ⟨Nat.le_of_ble_eq_true rfl, Nat.le_of_ble_eq_true rfl⟩ htab (⟨⟨by decide, by decide, by decide⟩, Or.inl ⟨rfl, hts _ (List.mem_cons_of_mem _ tq_Lw_13)⟩⟩) (fun x H1 hold hgr => ?_)
    have hw := wf_grow hw hold hgr
    refine lv_astore_n (pc := 12) (lv' := (3, .ref x) :: [(0, .ref (a 0)), (1, .int p0), (2, .ref ao)]) hx hb d_Lw_top_12 rfl hl (by decide) rfl (fun ls hl => ?_)
    refine lv_iconst (pc := 13) (v := 1) hx hb d_Lw_top_13 (by decide) ?_
    exact gr_i (pc := 14) (Wf := hWf cI cZ cJ a ao) hx hb hr hlk hK (S, o) hw hpost d_Lw_top_14
def wpH_Lw_key (S : GS) (o : Nat → Int64) (p0 : Int32) (p1 : Int32) (post : Int32 → GS × (Nat → Int64) → Prop) : Prop := (wp_G_key S p0 p1 (fun r => post 0 (S, (vp_updL o (0 : Int32).toNatClampNeg r.toInt64)))) ∨ (wpT_G_key S p0 p1 eI ∧ post 1 (S, o))
abbrev rm_Lw_key : Room := { frames := 8, cells := 1, slots := 6, locals := 124 }
set_option maxHeartbeats 4000000 in
set_option maxRecDepth 100000 in
theorem ch_Lw_key (l : Launch) (hfl : l.flags = flags0) (D : va_G) (cI cZ cJ : ClassId) (a : Nat → Nat) (ao sz : Nat) (S : GS) (o : Nat → Int64) (p0 : Int32) (p1 : Int32) (post : Int32 → GS × (Nat → Int64) → Prop) (hf : wpH_Lw_key S o p0 p1 post) : Met l y_Lw_key ws_Lw_key rm_Lw_key (va_Pc [.ref (a 0), .int p0, .int p1, .ref ao] (hPre D (tys cI cZ cJ) (hWf cI cZ cJ a ao (S, o)) sz)) (va_Qi post (gB D (tys cI cZ cJ) (hWf cI cZ cJ a ao) (va_A (hWf cI cZ cJ a ao (S, o)) sz)) (va_A (hWf cI cZ cJ a ao (S, o)) sz)) 1 6 (va_A (hWf cI cZ cJ a ao (S, o)) sz) := by
  refine gm_h (QF := fun A => va_Qi post (gB D (tys cI cZ cJ) (hWf cI cZ cJ a ao) A) A) (cc := b_Lw_key) (maxL := 5) (by decide) rfl (Nat.le_of_ble_eq_true rfl) ?_
  intro p e s m args below meth c A ls hx hb hr hts hown hlk hml htab hE hK hA hw hl
  have hl : lv_has ls 5 [(0, .ref (a 0)), (1, .int p0), (2, .int p1), (3, .ref ao)] := hl
  refine lv_aload_n (pc := 0) hx hb d_Lw_key_0 rfl (lv_at hl 3 rfl) ?_
  refine lv_iconst (pc := 1) (v := 0) hx hb d_Lw_key_1 (by decide) ?_
  refine lv_aload_n (pc := 2) hx hb d_Lw_key_2 rfl (lv_at hl 0 rfl) ?_
  refine lv_iload_n (pc := 3) hx hb d_Lw_key_3 rfl (lv_at hl 1 rfl) ?_
  refine lv_iload_n (pc := 4) hx hb d_Lw_key_4 rfl (lv_at hl 2 rfl) ?_
  unfold wpH_Lw_key at hf
  rcases hf with hf | hf
  · refine vp_callSi (pc := 5) (W.runV (As := [.int p0, .int p1]) (rest := [.int 0, .ref ao]) ⟨hx, hb, hml, hown, hts⟩ (c_G_key l D cI cZ cJ a _ _ _ _ hf) (cwV 2 hts (tb_wsV tc_G_key tm_Lw_45 ti_G_key te_G_key tz_G) rfl rfl rfl (by decide +kernel) ⟨Nat.le_of_ble_eq_true rfl, Nat.le_of_ble_eq_true rfl⟩) (r_preV (q0 := 0) (ci := 0) hK (wfl hw).1 rfl rfl) rfl rfl hl.1 rfl (lv_room (Nat.le_of_ble_eq_true rfl)) d_Lw_key_5 ⟨Nat.le_of_ble_eq_true rfl, Nat.le_of_ble_eq_true rfl⟩) (fun r hf => ?_)
    refine lv_i2l (pc := 8) hx hb d_Lw_key_8 rfl ?_
    refine va_last (pc := 9) hx hb hK hw.1 hw.2.1 hw.2.2 25 2 rfl rfl in01 d_Lw_key_9 (fun H locs h1 h2 h3 => ?_)
    have hw : wf D A s.heap (hWf cI cZ cJ a ao (S, (vp_updL o (0 : Int32).toNatClampNeg r.toInt64))) H locs := ⟨h1, h2, h3⟩
    refine lv_goto (pc := 10) (tgt := 17) hx hb d_Lw_key_10 (by decide) ?_
    refine lv_iconst (pc := 17) (v := 0) hx hb d_Lw_key_17 (by decide) ?_
    refine W.widen (k := 1) (n := 6) (by decide) (by decide) ?_
    exact gr_i (pc := 18) (Wf := hWf cI cZ cJ a ao) hx hb hr hlk hK (S, (vp_updL o (0 : Int32).toNatClampNeg r.toInt64)) hw hf d_Lw_key_18
  · obtain ⟨hf, hpost⟩ := hf
    refine w_catchV (pc := 5) (hpc := 13) (As := [.int p0, .int p1]) (rest := [.int 0, .ref ao]) ⟨hx, hb, hml, hown, hts⟩ (ct_G_key l hfl D cI cZ cJ a _ _ _ _ hf) rfl (cwV 2 hts (tb_wsV tc_G_key tm_Lw_45 ti_G_key te_G_key tz_G) rfl rfl rfl (by decide +kernel) ⟨Nat.le_of_ble_eq_true rfl, Nat.le_of_ble_eq_true rfl⟩) (ter_preV (q0 := 0) (ci := 0) hE hK (wfl hw).1 rfl rfl) rfl hl.1 rfl (Nat.le_of_ble_eq_true rfl) d_Lw_key_5 ⟨Nat.le_of_ble_eq_true rfl, Nat.le_of_ble_eq_true rfl⟩ htab (⟨⟨by decide, by decide, by decide⟩, Or.inl ⟨rfl, hts _ (List.mem_cons_of_mem _ tq_Lw_13)⟩⟩) (fun x H1 hold hgr => ?_)
    have hw := wf_grow hw hold hgr
    refine lv_astore (pc := 13) (lv' := (4, .ref x) :: [(0, .ref (a 0)), (1, .int p0), (2, .int p1), (3, .ref ao)]) hx hb d_Lw_key_13 hl (by decide) rfl (fun ls hl => ?_)
    refine lv_iconst (pc := 15) (v := 1) hx hb d_Lw_key_15 (by decide) ?_
    exact gr_i (pc := 16) (Wf := hWf cI cZ cJ a ao) hx hb hr hlk hK (S, o) hw hpost d_Lw_key_16
