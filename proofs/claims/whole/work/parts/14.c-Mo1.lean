def wp_Mo_thrown (S : GS) (post : Int32 → Prop) : Prop := (post (S.1 0 0))
abbrev rm_Mo_thrown : Room := { frames := 0, cells := 0, slots := 0, locals := 0 }
set_option maxHeartbeats 4000000 in
set_option maxRecDepth 100000 in
theorem c_Mo_thrown (l : Launch) (D : va_G) (cI cZ cJ : ClassId) (a : Nat → Nat) (S : GS) (post : Int32 → Prop) (hf : wp_Mo_thrown S post) : Met l y_Mo_thrown ws_Mo_thrown rm_Mo_thrown (va_Pc [.ref (a 0)] (rPre D (tys cI cZ cJ) (mdW cI cZ cJ a S))) (vp_Si post) 0 0 (fun _ => False) := by
  refine gm_r (cc := b_Mo_thrown) (maxL := 1) (by decide) rfl (Nat.le_of_ble_eq_true rfl) ?_
  intro p e s m args below meth c ls hx hb hr hts hown hlk hml hK hP hl
  have hl : lv_has ls 1 [(0, .ref (a 0))] := hl
  have hinMo : ∀ w ∈ u_ws R_Mo T_Mo 30, w ∈ ws_Mo_thrown := fun w h => List.mem_cons_of_mem _ (tl_Mo w h)
  have hl80 := hts _ (List.mem_cons_of_mem _ tf_Mo_80)
  unfold wp_Mo_thrown at hf
  refine lv_aload_n (pc := 0) hx hb d_Mo_thrown_0 rfl (lv_at hl 0 rfl) ?_
  refine md_gt_Mo_fault (pc := 1) (v := (S.1 0 0)) hx hb hK hts hinMo hown hP hl80 rfl d_Mo_thrown_1 ?_
  exact rr_i (pc := 4) hx hb hr hlk hf d_Mo_thrown_4
def wp_Mo_refused (S : GS) (p0 : Int32) (post : Int32 → GS → Prop) : Prop := ((p0 ≤ (0 : Int32) → (post (0 : Int32) (gI S 0 (fun _ => p0)))) ∧ (¬ p0 ≤ (0 : Int32) → (post (1 : Int32) (gI S 0 (fun _ => p0)))))
abbrev rm_Mo_refused : Room := { frames := 0, cells := 0, slots := 0, locals := 0 }
set_option maxHeartbeats 4000000 in
set_option maxRecDepth 100000 in
theorem c_Mo_refused (l : Launch) (D : va_G) (cI cZ cJ : ClassId) (a : Nat → Nat) (sz : Nat) (S : GS) (p0 : Int32) (post : Int32 → GS → Prop) (hf : wp_Mo_refused S p0 post) : Met l y_Mo_refused ws_Mo_refused rm_Mo_refused (va_Pc [.ref (a 0), .int p0] (gPre D (tys cI cZ cJ) (mdW cI cZ cJ a S) sz)) (va_Qi post (gB D (tys cI cZ cJ) (mdW cI cZ cJ a) (va_A (mdW cI cZ cJ a S) sz)) (va_A (mdW cI cZ cJ a S) sz)) 0 0 (va_A (mdW cI cZ cJ a S) sz) := by
  refine gm_w (QF := fun A => va_Qi post (gB D (tys cI cZ cJ) (mdW cI cZ cJ a) A) A) (cc := b_Mo_refused) (maxL := 2) (by decide) rfl (Nat.le_of_ble_eq_true rfl) ?_
  intro p e s m args below meth c A ls hx hb hr hts hown hmn hlk hml hK hA hw hl
  have hl : lv_has ls 2 [(0, .ref (a 0)), (1, .int p0)] := hl
  have hinMo : ∀ w ∈ u_ws R_Mo T_Mo 30, w ∈ ws_Mo_refused := fun w h => List.mem_cons_of_mem _ (tl_Mo w h)
  have hl80 := hts _ (List.mem_cons_of_mem _ tf_Mo_80)
  unfold wp_Mo_refused at hf
  refine lv_aload_n (pc := 0) hx hb d_Mo_refused_0 rfl (lv_at hl 0 rfl) ?_
  refine lv_iload_n (pc := 1) hx hb d_Mo_refused_1 rfl (lv_at hl 1 rfl) ?_
  refine md_pt_Mo_fault (pc := 2) hx hb hK hts hinMo hown hw hl80 d_Mo_refused_2 (fun H locs hw => ?_)
  refine lv_iload_n (pc := 5) hx hb d_Mo_refused_5 rfl (lv_at hl 1 rfl) ?_
  refine lv_if_le (pc := 6) (tgt := 13) hx hb d_Mo_refused_6 (by decide) (fun hc => ?_) (fun hc => ?_)
  · replace hf := hf.1 hc
    refine lv_iconst (pc := 13) (v := 0) hx hb d_Mo_refused_13 (by decide) ?_
    exact gr_z (pc := 14) hx hb hr hlk hK (gI S 0 (fun _ => p0)) hw (by decide) hf d_Mo_refused_14
  replace hf := hf.2 hc
  refine lv_iconst (pc := 9) (v := 1) hx hb d_Mo_refused_9 (by decide) ?_
  refine lv_goto (pc := 10) (tgt := 14) hx hb d_Mo_refused_10 (by decide) ?_
  exact gr_z (pc := 14) hx hb hr hlk hK (gI S 0 (fun _ => p0)) hw (by decide) hf d_Mo_refused_14
def wp_Mo_isKey (p0 : Int32) (post : Int32 → Prop) : Prop := ((p0 < (0 : Int32) → (post (0 : Int32))) ∧ (¬ p0 < (0 : Int32) → (((24 : Int32) ≤ p0 → (post (0 : Int32))) ∧ (¬ (24 : Int32) ≤ p0 → (post (1 : Int32))))))
abbrev rm_Mo_isKey : Room := { frames := 0, cells := 0, slots := 0, locals := 0 }
set_option maxHeartbeats 4000000 in
set_option maxRecDepth 100000 in
theorem c_Mo_isKey (l : Launch) (p0 : Int32) (post : Int32 → Prop) (hf : wp_Mo_isKey p0 post) : Met l y_Mo_isKey ws_Mo_isKey rm_Mo_isKey (va_Pc [.int p0] (fun _ => True)) (vp_Si post) 0 0 (fun _ => False) := by
  refine gm_p (cc := b_Mo_isKey) (maxL := 1) (by decide) rfl (Nat.le_of_ble_eq_true rfl) ?_
  intro p e s m args below meth c ls hx hb hr hts hown hlk hml hl
  have hl : lv_has ls 1 [(0, .int p0)] := hl
  unfold wp_Mo_isKey at hf
  refine lv_iload_n (pc := 0) hx hb d_Mo_isKey_0 rfl (lv_at hl 0 rfl) ?_
  refine lv_if_lt (pc := 1) (tgt := 14) hx hb d_Mo_isKey_1 (by decide) (fun hc => ?_) (fun hc => ?_)
  · replace hf := hf.1 hc
    refine lv_iconst (pc := 14) (v := 0) hx hb d_Mo_isKey_14 (by decide) ?_
    exact rr_z (pc := 15) hx hb hr hlk (by decide) hf d_Mo_isKey_15
  replace hf := hf.2 hc
  refine lv_iload_n (pc := 4) hx hb d_Mo_isKey_4 rfl (lv_at hl 0 rfl) ?_
  refine lv_bipush (pc := 5) (v := 24) hx hb d_Mo_isKey_5 (by decide) ?_
  refine lv_icmp_ge (pc := 7) (tgt := 14) hx hb d_Mo_isKey_7 (by decide) (fun hc => ?_) (fun hc => ?_)
  · replace hf := hf.1 hc
    refine lv_iconst (pc := 14) (v := 0) hx hb d_Mo_isKey_14 (by decide) ?_
    exact rr_z (pc := 15) hx hb hr hlk (by decide) hf d_Mo_isKey_15
  replace hf := hf.2 hc
  refine lv_iconst (pc := 10) (v := 1) hx hb d_Mo_isKey_10 (by decide) ?_
  refine lv_goto (pc := 11) (tgt := 15) hx hb d_Mo_isKey_11 (by decide) ?_
  exact rr_z (pc := 15) hx hb hr hlk (by decide) hf d_Mo_isKey_15
def wp_Mo_isFour (p0 : Int32) (post : Int32 → Prop) : Prop := ((p0 < (0 : Int32) → (post (0 : Int32))) ∧ (¬ p0 < (0 : Int32) → (((4 : Int32) ≤ p0 → (post (0 : Int32))) ∧ (¬ (4 : Int32) ≤ p0 → (post (1 : Int32))))))
abbrev rm_Mo_isFour : Room := { frames := 0, cells := 0, slots := 0, locals := 0 }
set_option maxHeartbeats 4000000 in
set_option maxRecDepth 100000 in
theorem c_Mo_isFour (l : Launch) (p0 : Int32) (post : Int32 → Prop) (hf : wp_Mo_isFour p0 post) : Met l y_Mo_isFour ws_Mo_isFour rm_Mo_isFour (va_Pc [.int p0] (fun _ => True)) (vp_Si post) 0 0 (fun _ => False) := by
  refine gm_p (cc := b_Mo_isFour) (maxL := 1) (by decide) rfl (Nat.le_of_ble_eq_true rfl) ?_
  intro p e s m args below meth c ls hx hb hr hts hown hlk hml hl
  have hl : lv_has ls 1 [(0, .int p0)] := hl
  unfold wp_Mo_isFour at hf
  refine lv_iload_n (pc := 0) hx hb d_Mo_isFour_0 rfl (lv_at hl 0 rfl) ?_
  refine lv_if_lt (pc := 1) (tgt := 13) hx hb d_Mo_isFour_1 (by decide) (fun hc => ?_) (fun hc => ?_)
  · replace hf := hf.1 hc
    refine lv_iconst (pc := 13) (v := 0) hx hb d_Mo_isFour_13 (by decide) ?_
    exact rr_z (pc := 14) hx hb hr hlk (by decide) hf d_Mo_isFour_14
  replace hf := hf.2 hc
  refine lv_iload_n (pc := 4) hx hb d_Mo_isFour_4 rfl (lv_at hl 0 rfl) ?_
  refine lv_iconst (pc := 5) (v := 4) hx hb d_Mo_isFour_5 (by decide) ?_
  refine lv_icmp_ge (pc := 6) (tgt := 13) hx hb d_Mo_isFour_6 (by decide) (fun hc => ?_) (fun hc => ?_)
  · replace hf := hf.1 hc
    refine lv_iconst (pc := 13) (v := 0) hx hb d_Mo_isFour_13 (by decide) ?_
    exact rr_z (pc := 14) hx hb hr hlk (by decide) hf d_Mo_isFour_14
  replace hf := hf.2 hc
  refine lv_iconst (pc := 9) (v := 1) hx hb d_Mo_isFour_9 (by decide) ?_
  refine lv_goto (pc := 10) (tgt := 14) hx hb d_Mo_isFour_10 (by decide) ?_
  exact rr_z (pc := 14) hx hb hr hlk (by decide) hf d_Mo_isFour_14
def wp_Mo_isCode (p0 : Int32) (post : Int32 → Prop) : Prop := ((p0 < (4 : Int32) → (post (0 : Int32))) ∧ (¬ p0 < (4 : Int32) → (((107 : Int32) < p0 → (post (0 : Int32))) ∧ (¬ (107 : Int32) < p0 → (post (1 : Int32))))))
abbrev rm_Mo_isCode : Room := { frames := 0, cells := 0, slots := 0, locals := 0 }
set_option maxHeartbeats 4000000 in
set_option maxRecDepth 100000 in
theorem c_Mo_isCode (l : Launch) (p0 : Int32) (post : Int32 → Prop) (hf : wp_Mo_isCode p0 post) : Met l y_Mo_isCode ws_Mo_isCode rm_Mo_isCode (va_Pc [.int p0] (fun _ => True)) (vp_Si post) 0 0 (fun _ => False) := by
  refine gm_p (cc := b_Mo_isCode) (maxL := 1) (by decide) rfl (Nat.le_of_ble_eq_true rfl) ?_
  intro p e s m args below meth c ls hx hb hr hts hown hlk hml hl
  have hl : lv_has ls 1 [(0, .int p0)] := hl
  unfold wp_Mo_isCode at hf
  refine lv_iload_n (pc := 0) hx hb d_Mo_isCode_0 rfl (lv_at hl 0 rfl) ?_
  refine lv_iconst (pc := 1) (v := 4) hx hb d_Mo_isCode_1 (by decide) ?_
  refine lv_icmp_lt (pc := 2) (tgt := 15) hx hb d_Mo_isCode_2 (by decide) (fun hc => ?_) (fun hc => ?_)
  · replace hf := hf.1 hc
    refine lv_iconst (pc := 15) (v := 0) hx hb d_Mo_isCode_15 (by decide) ?_
    exact rr_z (pc := 16) hx hb hr hlk (by decide) hf d_Mo_isCode_16
  replace hf := hf.2 hc
  refine lv_iload_n (pc := 5) hx hb d_Mo_isCode_5 rfl (lv_at hl 0 rfl) ?_
  refine lv_bipush (pc := 6) (v := 107) hx hb d_Mo_isCode_6 (by decide) ?_
  refine lv_icmp_gt (pc := 8) (tgt := 15) hx hb d_Mo_isCode_8 (by decide) (fun hc => ?_) (fun hc => ?_)
  · replace hf := hf.1 hc
    refine lv_iconst (pc := 15) (v := 0) hx hb d_Mo_isCode_15 (by decide) ?_
    exact rr_z (pc := 16) hx hb hr hlk (by decide) hf d_Mo_isCode_16
  replace hf := hf.2 hc
  refine lv_iconst (pc := 11) (v := 1) hx hb d_Mo_isCode_11 (by decide) ?_
  refine lv_goto (pc := 12) (tgt := 16) hx hb d_Mo_isCode_12 (by decide) ?_
  exact rr_z (pc := 16) hx hb hr hlk (by decide) hf d_Mo_isCode_16
def J_Mo_wire_13 (post : GS → Prop) (x1 : Int32) (x2 : Int32) (y1 : Int32) (S : GS) : Prop := (wp_Mo_refused S y1 (fun r13 S13 => ((r13 = (0 : Int32) → (vp_in x1 24 ∧ (post (gI S13 7 (upd (S13.1 7) (x1).toNatClampNeg (vp_nar .boolean x2)))))) ∧ (¬ r13 = (0 : Int32) → (post S13)))))
def wp_Mo_wire (S : GS) (p0 : Int32) (p1 : Int32) (post : GS → Prop) : Prop := (wp_Mo_isKey p0 (fun r2 => ((r2 = (0 : Int32) → (J_Mo_wire_13 post p0 p1 (1 : Int32) S)) ∧ (¬ r2 = (0 : Int32) → (J_Mo_wire_13 post p0 p1 (0 : Int32) S)))))
abbrev rm_Mo_wire : Room := { frames := 1, cells := 0, slots := 0, locals := 21 }
set_option maxHeartbeats 4000000 in
set_option maxRecDepth 100000 in
theorem c_Mo_wire (l : Launch) (D : va_G) (cI cZ cJ : ClassId) (a : Nat → Nat) (sz : Nat) (S : GS) (p0 : Int32) (p1 : Int32) (post : GS → Prop) (hf : wp_Mo_wire S p0 p1 post) : Met l y_Mo_wire ws_Mo_wire rm_Mo_wire (va_Pc [.ref (a 0), .int p0, .int p1] (gPre D (tys cI cZ cJ) (mdW cI cZ cJ a S) sz)) (va_Qv post (gB D (tys cI cZ cJ) (mdW cI cZ cJ a) (va_A (mdW cI cZ cJ a S) sz)) (va_A (mdW cI cZ cJ a S) sz)) 0 0 (va_A (mdW cI cZ cJ a S) sz) := by
  refine gm_w (QF := fun A => va_Qv post (gB D (tys cI cZ cJ) (mdW cI cZ cJ a) A) A) (cc := b_Mo_wire) (maxL := 3) (by decide) rfl (Nat.le_of_ble_eq_true rfl) ?_
  intro p e s m args below meth c A ls hx hb hr hts hown hmn hlk hml hK hA hw hl
  have hl : lv_has ls 3 [(0, .ref (a 0)), (1, .int p0), (2, .int p1)] := hl
  have hinMo : ∀ w ∈ u_ws R_Mo T_Mo 30, w ∈ ws_Mo_wire := fun w h => List.mem_cons_of_mem _ (tl_Mo w h)
  have hl7 := hts _ (List.mem_cons_of_mem _ tf_Mo_7)
  have jn13 : ∀ (x1 : Int32) (x2 : Int32) (y1 : Int32) (S : GS) (H : Heap) (locs : List Loc) (ls : Array Slot), lv_has ls 3 [(0, .ref (a 0)), (1, .int x1), (2, .int x2)] → wf D A s.heap (mdW cI cZ cJ a S) H locs → J_Mo_wire_13 post x1 x2 y1 S → W p l e rm_Mo_wire s m args below meth c H locs 0 0 (MQ below (va_Qv post (gB D (tys cI cZ cJ) (mdW cI cZ cJ a) A) A) args s 0 0 A) (F0 m 13 ls [.int y1, .ref (a 0)]) := by
    intro x1 x2 y1 S H locs ls hl hw hf
    unfold J_Mo_wire_13 at hf
    refine gc_i (pc := 13) (Wf := mdW cI cZ cJ a) hw hA (va_runV (As := [.int y1]) (rest := []) ⟨hx, hb, hml, hown, hts⟩ (c_Mo_refused l D cI cZ cJ a _ _ _ _ hf) (cwV 1 hts (tb_wsV tc_Mo_refused tm_Mo_88 ti_Mo_refused te_Mo_refused tz_Mo) rfl rfl rfl (by decide +kernel) ⟨Nat.le_of_ble_eq_true rfl, Nat.le_of_ble_eq_true rfl⟩) (g_preV (q0 := 0) (ci := 9) hK hw rfl rfl) rfl rfl hl.1 rfl (lv_room (Nat.le_of_ble_eq_true rfl)) d_Mo_wire_13 ⟨Nat.zero_le _, Nat.zero_le _⟩) (fun r13 S13 H locs hw hf => ?_)
    refine lv_if_ne (pc := 16) (tgt := 26) hx hb d_Mo_wire_16 (by decide) (fun hc => ?_) (fun hc => ?_)
    · replace hf := hf.2 hc
      exact gr_v (pc := 26) hx hb hr hlk hK S13 hw hf d_Mo_wire_26
    replace hf := hf.1 hc
    refine lv_aload_n (pc := 19) hx hb d_Mo_wire_19 rfl (lv_at hl 0 rfl) ?_
    refine md_gt_Mo_wired (pc := 20) hx hb hK hts hinMo hown hw.1 hl7 d_Mo_wire_20 ?_
    refine lv_iload_n (pc := 23) hx hb d_Mo_wire_23 rfl (lv_at hl 1 rfl) ?_
    refine lv_iload_n (pc := 24) hx hb d_Mo_wire_24 rfl (lv_at hl 2 rfl) ?_
    refine md_st1 (pc := 25) hx hb hK hw hf.1 d_Mo_wire_25 (fun H locs hw => ?_)
    replace hf := hf.2
    exact gr_v (pc := 26) hx hb hr hlk hK (gI S13 7 (upd (S13.1 7) (x1).toNatClampNeg (vp_nar .boolean x2))) hw hf d_Mo_wire_26
  unfold wp_Mo_wire at hf
  refine lv_aload_n (pc := 0) hx hb d_Mo_wire_0 rfl (lv_at hl 0 rfl) ?_
  refine lv_iload_n (pc := 1) hx hb d_Mo_wire_1 rfl (lv_at hl 1 rfl) ?_
  refine vp_callSi (pc := 2) (W.runS (As := [.int p0]) (rest := [.ref (a 0)]) ⟨hx, hb, hml, hown, hts⟩ (c_Mo_isKey l _ _ hf) (cwS 1 hts (tb_wsS tc_Mo_isKey tm_Mo_84 ts_Mo_isKey tz_Mo) rfl rfl rfl (by decide +kernel) ⟨Nat.le_of_ble_eq_true rfl, Nat.le_of_ble_eq_true rfl⟩) p_preS rfl rfl hl.1 rfl (lv_room (Nat.le_of_ble_eq_true rfl)) d_Mo_wire_2 ⟨Nat.zero_le _, Nat.zero_le _⟩) (fun r2 hf => ?_)
  refine lv_if_eq (pc := 5) (tgt := 12) hx hb d_Mo_wire_5 (by decide) (fun hc => ?_) (fun hc => ?_)
  · replace hf := hf.1 hc
    refine lv_iconst (pc := 12) (v := 1) hx hb d_Mo_wire_12 (by decide) ?_
    exact jn13 p0 p1 (1 : Int32) S _ _ _ (lv_sub hl [0, 1, 2] rfl) hw hf
  replace hf := hf.2 hc
  refine lv_iconst (pc := 8) (v := 0) hx hb d_Mo_wire_8 (by decide) ?_
  refine lv_goto (pc := 9) (tgt := 13) hx hb d_Mo_wire_9 (by decide) ?_
  exact jn13 p0 p1 (0 : Int32) S _ _ _ (lv_sub hl [0, 1, 2] rfl) hw hf
def J_Mo_bounce_28 (post : GS → Prop) (x1 : Int32) (x2 : Int32) (y1 : Int32) (S : GS) : Prop := (wp_Mo_refused S y1 (fun r28 S28 => ((r28 = (0 : Int32) → (vp_in x1 24 ∧ (post (gI S28 8 (upd (S28.1 8) (x1).toNatClampNeg x2))))) ∧ (¬ r28 = (0 : Int32) → (post S28)))))
def J_Mo_bounce_23 (post : GS → Prop) (x1 : Int32) (x2 : Int32) (S : GS) : Prop := (J_Mo_bounce_28 post x1 x2 (2 : Int32) S)
def wp_Mo_bounce (S : GS) (p0 : Int32) (p1 : Int32) (post : GS → Prop) : Prop := (wp_Mo_isKey p0 (fun r2 => ((r2 = (0 : Int32) → (J_Mo_bounce_28 post p0 p1 (1 : Int32) S)) ∧ (¬ r2 = (0 : Int32) → ((p1 < (0 : Int32) → (J_Mo_bounce_23 post p0 p1 S)) ∧ (¬ p1 < (0 : Int32) → ((p1 ≤ (255 : Int32) → (J_Mo_bounce_28 post p0 p1 (0 : Int32) S)) ∧ (¬ p1 ≤ (255 : Int32) → (J_Mo_bounce_23 post p0 p1 S)))))))))
abbrev rm_Mo_bounce : Room := { frames := 1, cells := 0, slots := 0, locals := 21 }
set_option maxHeartbeats 4000000 in
set_option maxRecDepth 100000 in
theorem c_Mo_bounce (l : Launch) (D : va_G) (cI cZ cJ : ClassId) (a : Nat → Nat) (sz : Nat) (S : GS) (p0 : Int32) (p1 : Int32) (post : GS → Prop) (hf : wp_Mo_bounce S p0 p1 post) : Met l y_Mo_bounce ws_Mo_bounce rm_Mo_bounce (va_Pc [.ref (a 0), .int p0, .int p1] (gPre D (tys cI cZ cJ) (mdW cI cZ cJ a S) sz)) (va_Qv post (gB D (tys cI cZ cJ) (mdW cI cZ cJ a) (va_A (mdW cI cZ cJ a S) sz)) (va_A (mdW cI cZ cJ a S) sz)) 0 0 (va_A (mdW cI cZ cJ a S) sz) := by
  refine gm_w (QF := fun A => va_Qv post (gB D (tys cI cZ cJ) (mdW cI cZ cJ a) A) A) (cc := b_Mo_bounce) (maxL := 3) (by decide) rfl (Nat.le_of_ble_eq_true rfl) ?_
  intro p e s m args below meth c A ls hx hb hr hts hown hmn hlk hml hK hA hw hl
  have hl : lv_has ls 3 [(0, .ref (a 0)), (1, .int p0), (2, .int p1)] := hl
  have hinMo : ∀ w ∈ u_ws R_Mo T_Mo 30, w ∈ ws_Mo_bounce := fun w h => List.mem_cons_of_mem _ (tl_Mo w h)
  have hl13 := hts _ (List.mem_cons_of_mem _ tf_Mo_13)
  have jn28 : ∀ (x1 : Int32) (x2 : Int32) (y1 : Int32) (S : GS) (H : Heap) (locs : List Loc) (ls : Array Slot), lv_has ls 3 [(0, .ref (a 0)), (1, .int x1), (2, .int x2)] → wf D A s.heap (mdW cI cZ cJ a S) H locs → J_Mo_bounce_28 post x1 x2 y1 S → W p l e rm_Mo_bounce s m args below meth c H locs 0 0 (MQ below (va_Qv post (gB D (tys cI cZ cJ) (mdW cI cZ cJ a) A) A) args s 0 0 A) (F0 m 28 ls [.int y1, .ref (a 0)]) := by
    intro x1 x2 y1 S H locs ls hl hw hf
    unfold J_Mo_bounce_28 at hf
    refine gc_i (pc := 28) (Wf := mdW cI cZ cJ a) hw hA (va_runV (As := [.int y1]) (rest := []) ⟨hx, hb, hml, hown, hts⟩ (c_Mo_refused l D cI cZ cJ a _ _ _ _ hf) (cwV 1 hts (tb_wsV tc_Mo_refused tm_Mo_88 ti_Mo_refused te_Mo_refused tz_Mo) rfl rfl rfl (by decide +kernel) ⟨Nat.le_of_ble_eq_true rfl, Nat.le_of_ble_eq_true rfl⟩) (g_preV (q0 := 0) (ci := 9) hK hw rfl rfl) rfl rfl hl.1 rfl (lv_room (Nat.le_of_ble_eq_true rfl)) d_Mo_bounce_28 ⟨Nat.zero_le _, Nat.zero_le _⟩) (fun r28 S28 H locs hw hf => ?_)
    refine lv_if_ne (pc := 31) (tgt := 41) hx hb d_Mo_bounce_31 (by decide) (fun hc => ?_) (fun hc => ?_)
    · replace hf := hf.2 hc
      exact gr_v (pc := 41) hx hb hr hlk hK S28 hw hf d_Mo_bounce_41
    replace hf := hf.1 hc
    refine lv_aload_n (pc := 34) hx hb d_Mo_bounce_34 rfl (lv_at hl 0 rfl) ?_
    refine md_gt_Mo_bounces (pc := 35) hx hb hK hts hinMo hown hw.1 hl13 d_Mo_bounce_35 ?_
    refine lv_iload_n (pc := 38) hx hb d_Mo_bounce_38 rfl (lv_at hl 1 rfl) ?_
    refine lv_iload_n (pc := 39) hx hb d_Mo_bounce_39 rfl (lv_at hl 2 rfl) ?_
    refine md_st2 (pc := 40) hx hb hK hw hf.1 d_Mo_bounce_40 (fun H locs hw => ?_)
    replace hf := hf.2
    exact gr_v (pc := 41) hx hb hr hlk hK (gI S28 8 (upd (S28.1 8) (x1).toNatClampNeg x2)) hw hf d_Mo_bounce_41
  have jn23 : ∀ (x1 : Int32) (x2 : Int32) (S : GS) (H : Heap) (locs : List Loc) (ls : Array Slot), lv_has ls 3 [(0, .ref (a 0)), (1, .int x1), (2, .int x2)] → wf D A s.heap (mdW cI cZ cJ a S) H locs → J_Mo_bounce_23 post x1 x2 S → W p l e rm_Mo_bounce s m args below meth c H locs 0 0 (MQ below (va_Qv post (gB D (tys cI cZ cJ) (mdW cI cZ cJ a) A) A) args s 0 0 A) (F0 m 23 ls [.ref (a 0)]) := by
    intro x1 x2 S H locs ls hl hw hf
    unfold J_Mo_bounce_23 at hf
    refine lv_iconst (pc := 23) (v := 2) hx hb d_Mo_bounce_23 (by decide) ?_
    refine lv_goto (pc := 24) (tgt := 28) hx hb d_Mo_bounce_24 (by decide) ?_
    exact jn28 x1 x2 (2 : Int32) S _ _ _ (lv_sub hl [0, 1, 2] rfl) hw hf
  unfold wp_Mo_bounce at hf
  refine lv_aload_n (pc := 0) hx hb d_Mo_bounce_0 rfl (lv_at hl 0 rfl) ?_
  refine lv_iload_n (pc := 1) hx hb d_Mo_bounce_1 rfl (lv_at hl 1 rfl) ?_
  refine vp_callSi (pc := 2) (W.runS (As := [.int p0]) (rest := [.ref (a 0)]) ⟨hx, hb, hml, hown, hts⟩ (c_Mo_isKey l _ _ hf) (cwS 1 hts (tb_wsS tc_Mo_isKey tm_Mo_84 ts_Mo_isKey tz_Mo) rfl rfl rfl (by decide +kernel) ⟨Nat.le_of_ble_eq_true rfl, Nat.le_of_ble_eq_true rfl⟩) p_preS rfl rfl hl.1 rfl (lv_room (Nat.le_of_ble_eq_true rfl)) d_Mo_bounce_2 ⟨Nat.zero_le _, Nat.zero_le _⟩) (fun r2 hf => ?_)
  refine lv_if_ne (pc := 5) (tgt := 12) hx hb d_Mo_bounce_5 (by decide) (fun hc => ?_) (fun hc => ?_)
  · replace hf := hf.2 hc
    refine lv_iload_n (pc := 12) hx hb d_Mo_bounce_12 rfl (lv_at hl 2 rfl) ?_
    refine lv_if_lt (pc := 13) (tgt := 23) hx hb d_Mo_bounce_13 (by decide) (fun hc => ?_) (fun hc => ?_)
    · replace hf := hf.1 hc
      exact jn23 p0 p1 S _ _ _ (lv_sub hl [0, 1, 2] rfl) hw hf
    replace hf := hf.2 hc
    refine lv_iload_n (pc := 16) hx hb d_Mo_bounce_16 rfl (lv_at hl 2 rfl) ?_
    refine lv_sipush (pc := 17) (v := 255) hx hb d_Mo_bounce_17 (by decide) ?_
    refine lv_icmp_le (pc := 20) (tgt := 27) hx hb d_Mo_bounce_20 (by decide) (fun hc => ?_) (fun hc => ?_)
    · replace hf := hf.1 hc
      refine lv_iconst (pc := 27) (v := 0) hx hb d_Mo_bounce_27 (by decide) ?_
      exact jn28 p0 p1 (0 : Int32) S _ _ _ (lv_sub hl [0, 1, 2] rfl) hw hf
    replace hf := hf.2 hc
    exact jn23 p0 p1 S _ _ _ (lv_sub hl [0, 1, 2] rfl) hw hf
  replace hf := hf.1 hc
  refine lv_iconst (pc := 8) (v := 1) hx hb d_Mo_bounce_8 (by decide) ?_
  refine lv_goto (pc := 9) (tgt := 28) hx hb d_Mo_bounce_9 (by decide) ?_
  exact jn28 p0 p1 (1 : Int32) S _ _ _ (lv_sub hl [0, 1, 2] rfl) hw hf
def J_Mo_hasCorners_164 (S : GS) (post : Int32 → Prop) (k17 : Int32 → Int32 → Int32 → Int32 → Int32 → Int32 → Prop) (k26 : Int32 → Int32 → Int32 → Int32 → Int32 → Int32 → Int32 → Prop) (x1 : Int32) (x2 : Int32) (x3 : Int32) (x4 : Int32) (x5 : Int32) (x6 : Int32) (x7 : Int32) (x8 : Int32) (x9 : Int32) (x10 : Int32) (x11 : Int32) : Prop := (k26 x1 x2 x3 x4 (1 : Int32) x6 (x7 + (1 : Int32)))
def J_Mo_hasCorners_139 (S : GS) (post : Int32 → Prop) (k17 : Int32 → Int32 → Int32 → Int32 → Int32 → Int32 → Prop) (k26 : Int32 → Int32 → Int32 → Int32 → Int32 → Int32 → Int32 → Prop) (x1 : Int32) (x2 : Int32) (x3 : Int32) (x4 : Int32) (x5 : Int32) (x6 : Int32) (x7 : Int32) (x8 : Int32) (x9 : Int32) (x10 : Int32) (y0 : Int32) : Prop := ((x5 = (0 : Int32) → ((x6 = x3 → (k26 x1 x2 x3 x4 (0 : Int32) x6 (x7 + (1 : Int32)))) ∧ (¬ x6 = x3 → ((x7 = x4 → (k26 x1 x2 x3 x4 (0 : Int32) x6 (x7 + (1 : Int32)))) ∧ (¬ x7 = x4 → ((y0 = (0 : Int32) → (k26 x1 x2 x3 x4 (0 : Int32) x6 (x7 + (1 : Int32)))) ∧ (¬ y0 = (0 : Int32) → (J_Mo_hasCorners_164 S post k17 k26 x1 x2 x3 x4 x5 x6 x7 x8 x9 x10 y0)))))))) ∧ (¬ x5 = (0 : Int32) → (J_Mo_hasCorners_164 S post k17 k26 x1 x2 x3 x4 x5 x6 x7 x8 x9 x10 y0)))
def J_Mo_hasCorners_138 (S : GS) (post : Int32 → Prop) (k17 : Int32 → Int32 → Int32 → Int32 → Int32 → Int32 → Prop) (k26 : Int32 → Int32 → Int32 → Int32 → Int32 → Int32 → Int32 → Prop) (x1 : Int32) (x2 : Int32) (x3 : Int32) (x4 : Int32) (x5 : Int32) (x6 : Int32) (x7 : Int32) (x8 : Int32) (x9 : Int32) (x10 : Int32) : Prop := (J_Mo_hasCorners_139 S post k17 k26 x1 x2 x3 x4 x5 x6 x7 x8 x9 x10 (0 : Int32))
def J_Mo_hasCorners_100 (S : GS) (post : Int32 → Prop) (k17 : Int32 → Int32 → Int32 → Int32 → Int32 → Int32 → Prop) (k26 : Int32 → Int32 → Int32 → Int32 → Int32 → Int32 → Int32 → Prop) (x1 : Int32) (x2 : Int32) (x3 : Int32) (x4 : Int32) (x5 : Int32) (x6 : Int32) (x7 : Int32) (x8 : Int32) (x9 : Int32) (x10 : Int32) : Prop := (J_Mo_hasCorners_139 S post k17 k26 x1 x2 x3 x4 x5 x6 x7 x8 x9 x10 (0 : Int32))
def L_Mo_hasCorners_26 (S : GS) (post : Int32 → Prop) (k17 : Int32 → Int32 → Int32 → Int32 → Int32 → Int32 → Prop) : Nat → Int32 → Int32 → Int32 → Int32 → Int32 → Int32 → Int32 → Prop
  | 0, _, _, _, _, _, _, _ => False
  | n26 + 1, x1, x2, x3, x4, x5, x6, x7 => (((6 : Int32) ≤ x7 → (k17 x1 x2 x3 x4 x5 (x6 + (1 : Int32)))) ∧ (¬ (6 : Int32) ≤ x7 → ((x2 = (0 : Int32) → (vp_in (((6 : Int32) * x3) + x7) 24 ∧ ((((S.1 9) (((6 : Int32) * x3) + x7).toNatClampNeg) = (0 : Int32) → (J_Mo_hasCorners_138 S post k17 (fun z0 z1 z2 z3 z4 z5 z6 => L_Mo_hasCorners_26 S post k17 n26 z0 z1 z2 z3 z4 z5 z6) x1 x2 x3 x4 x5 x6 x7 (((6 : Int32) * x3) + x7) (((6 : Int32) * x6) + x4) (((6 : Int32) * x6) + x7))) ∧ (¬ ((S.1 9) (((6 : Int32) * x3) + x7).toNatClampNeg) = (0 : Int32) → (vp_in (((6 : Int32) * x6) + x4) 24 ∧ ((((S.1 9) (((6 : Int32) * x6) + x4).toNatClampNeg) = (0 : Int32) → (J_Mo_hasCorners_138 S post k17 (fun z0 z1 z2 z3 z4 z5 z6 => L_Mo_hasCorners_26 S post k17 n26 z0 z1 z2 z3 z4 z5 z6) x1 x2 x3 x4 x5 x6 x7 (((6 : Int32) * x3) + x7) (((6 : Int32) * x6) + x4) (((6 : Int32) * x6) + x7))) ∧ (¬ ((S.1 9) (((6 : Int32) * x6) + x4).toNatClampNeg) = (0 : Int32) → (vp_in (((6 : Int32) * x6) + x7) 24 ∧ ((((S.1 9) (((6 : Int32) * x6) + x7).toNatClampNeg) = (0 : Int32) → (J_Mo_hasCorners_138 S post k17 (fun z0 z1 z2 z3 z4 z5 z6 => L_Mo_hasCorners_26 S post k17 n26 z0 z1 z2 z3 z4 z5 z6) x1 x2 x3 x4 x5 x6 x7 (((6 : Int32) * x3) + x7) (((6 : Int32) * x6) + x4) (((6 : Int32) * x6) + x7))) ∧ (¬ ((S.1 9) (((6 : Int32) * x6) + x7).toNatClampNeg) = (0 : Int32) → (J_Mo_hasCorners_139 S post k17 (fun z0 z1 z2 z3 z4 z5 z6 => L_Mo_hasCorners_26 S post k17 n26 z0 z1 z2 z3 z4 z5 z6) x1 x2 x3 x4 x5 x6 x7 (((6 : Int32) * x3) + x7) (((6 : Int32) * x6) + x4) (((6 : Int32) * x6) + x7) (1 : Int32)))))))))))) ∧ (¬ x2 = (0 : Int32) → (vp_in (((6 : Int32) * x3) + x7) 24 ∧ ((((S.1 11) (((6 : Int32) * x3) + x7).toNatClampNeg) = (0 : Int32) → (J_Mo_hasCorners_100 S post k17 (fun z0 z1 z2 z3 z4 z5 z6 => L_Mo_hasCorners_26 S post k17 n26 z0 z1 z2 z3 z4 z5 z6) x1 x2 x3 x4 x5 x6 x7 (((6 : Int32) * x3) + x7) (((6 : Int32) * x6) + x4) (((6 : Int32) * x6) + x7))) ∧ (¬ ((S.1 11) (((6 : Int32) * x3) + x7).toNatClampNeg) = (0 : Int32) → (vp_in (((6 : Int32) * x6) + x4) 24 ∧ ((((S.1 11) (((6 : Int32) * x6) + x4).toNatClampNeg) = (0 : Int32) → (J_Mo_hasCorners_100 S post k17 (fun z0 z1 z2 z3 z4 z5 z6 => L_Mo_hasCorners_26 S post k17 n26 z0 z1 z2 z3 z4 z5 z6) x1 x2 x3 x4 x5 x6 x7 (((6 : Int32) * x3) + x7) (((6 : Int32) * x6) + x4) (((6 : Int32) * x6) + x7))) ∧ (¬ ((S.1 11) (((6 : Int32) * x6) + x4).toNatClampNeg) = (0 : Int32) → (vp_in (((6 : Int32) * x6) + x7) 24 ∧ ((((S.1 11) (((6 : Int32) * x6) + x7).toNatClampNeg) = (0 : Int32) → (J_Mo_hasCorners_100 S post k17 (fun z0 z1 z2 z3 z4 z5 z6 => L_Mo_hasCorners_26 S post k17 n26 z0 z1 z2 z3 z4 z5 z6) x1 x2 x3 x4 x5 x6 x7 (((6 : Int32) * x3) + x7) (((6 : Int32) * x6) + x4) (((6 : Int32) * x6) + x7))) ∧ (¬ ((S.1 11) (((6 : Int32) * x6) + x7).toNatClampNeg) = (0 : Int32) → (J_Mo_hasCorners_139 S post k17 (fun z0 z1 z2 z3 z4 z5 z6 => L_Mo_hasCorners_26 S post k17 n26 z0 z1 z2 z3 z4 z5 z6) x1 x2 x3 x4 x5 x6 x7 (((6 : Int32) * x3) + x7) (((6 : Int32) * x6) + x4) (((6 : Int32) * x6) + x7) (1 : Int32)))))))))))))))
def L_Mo_hasCorners_17 (S : GS) (post : Int32 → Prop) : Nat → Int32 → Int32 → Int32 → Int32 → Int32 → Int32 → Prop
  | 0, _, _, _, _, _, _ => False
  | n17 + 1, x1, x2, x3, x4, x5, x6 => (((4 : Int32) ≤ x6 → (narrow .boolean (.int x5) = .int x5 ∧ (post x5))) ∧ (¬ (4 : Int32) ≤ x6 → (∃ q26, L_Mo_hasCorners_26 S post (fun z0 z1 z2 z3 z4 z5 => L_Mo_hasCorners_17 S post n17 z0 z1 z2 z3 z4 z5) q26 x1 x2 x3 x4 x5 x6 (0 : Int32))))
def wp_Mo_hasCorners (S : GS) (p0 : Int32) (p1 : Int32) (post : Int32 → Prop) : Prop := (∃ q17, L_Mo_hasCorners_17 S post q17 p0 p1 (p0 / (6 : Int32)) (p0 - p0 / (6 : Int32) * (6 : Int32)) (0 : Int32) (0 : Int32))
abbrev rm_Mo_hasCorners : Room := { frames := 0, cells := 0, slots := 0, locals := 0 }
set_option maxHeartbeats 4000000 in
set_option maxRecDepth 100000 in
theorem c_Mo_hasCorners (l : Launch) (D : va_G) (cI cZ cJ : ClassId) (a : Nat → Nat) (S : GS) (p0 : Int32) (p1 : Int32) (post : Int32 → Prop) (hf : wp_Mo_hasCorners S p0 p1 post) : Met l y_Mo_hasCorners ws_Mo_hasCorners rm_Mo_hasCorners (va_Pc [.ref (a 0), .int p0, .int p1] (rPre D (tys cI cZ cJ) (mdW cI cZ cJ a S))) (vp_Si post) 0 0 (fun _ => False) := by
  refine gm_r (cc := b_Mo_hasCorners) (maxL := 12) (by decide) rfl (Nat.le_of_ble_eq_true rfl) ?_
  intro p e s m args below meth c ls hx hb hr hts hown hlk hml hK hP hl
  have hl : lv_has ls 12 [(0, .ref (a 0)), (1, .int p0), (2, .int p1)] := hl
  have hinMo : ∀ w ∈ u_ws R_Mo T_Mo 30, w ∈ ws_Mo_hasCorners := fun w h => List.mem_cons_of_mem _ (tl_Mo w h)
  have hl17 := hts _ (List.mem_cons_of_mem _ tf_Mo_17)
  have hl23 := hts _ (List.mem_cons_of_mem _ tf_Mo_23)
  unfold wp_Mo_hasCorners at hf
  refine lv_iload_n (pc := 0) hx hb d_Mo_hasCorners_0 rfl (lv_at hl 1 rfl) ?_
  refine lv_bipush (pc := 1) (v := 6) hx hb d_Mo_hasCorners_1 (by decide) ?_
  refine lv_idiv (pc := 3) hx hb d_Mo_hasCorners_3 (by decide) ?_
  refine lv_istore_n (pc := 4) (lv' := [(3, .int (p0 / (6 : Int32))), (0, .ref (a 0)), (1, .int p0), (2, .int p1)]) hx hb d_Mo_hasCorners_4 rfl hl (by decide) rfl (fun ls hl => ?_)
  refine lv_iload_n (pc := 5) hx hb d_Mo_hasCorners_5 rfl (lv_at hl 2 rfl) ?_
  refine lv_bipush (pc := 6) (v := 6) hx hb d_Mo_hasCorners_6 (by decide) ?_
  refine lv_irem (pc := 8) hx hb d_Mo_hasCorners_8 (by decide) ?_
  refine lv_istore (pc := 9) (lv' := [(4, .int (p0 - p0 / (6 : Int32) * (6 : Int32))), (3, .int (p0 / (6 : Int32))), (0, .ref (a 0)), (1, .int p0), (2, .int p1)]) hx hb d_Mo_hasCorners_9 hl (by decide) rfl (fun ls hl => ?_)
  refine lv_iconst (pc := 11) (v := 0) hx hb d_Mo_hasCorners_11 (by decide) ?_
  refine lv_istore (pc := 12) (lv' := [(5, .int (0 : Int32)), (4, .int (p0 - p0 / (6 : Int32) * (6 : Int32))), (3, .int (p0 / (6 : Int32))), (0, .ref (a 0)), (1, .int p0), (2, .int p1)]) hx hb d_Mo_hasCorners_12 hl (by decide) rfl (fun ls hl => ?_)
  refine lv_iconst (pc := 14) (v := 0) hx hb d_Mo_hasCorners_14 (by decide) ?_
  refine lv_istore (pc := 15) (lv' := [(6, .int (0 : Int32)), (5, .int (0 : Int32)), (4, .int (p0 - p0 / (6 : Int32) * (6 : Int32))), (3, .int (p0 / (6 : Int32))), (0, .ref (a 0)), (1, .int p0), (2, .int p1)]) hx hb d_Mo_hasCorners_15 hl (by decide) rfl (fun ls hl => ?_)
  obtain ⟨q17, hf⟩ := hf
  have lp17 : ∀ (n17 : Nat) (x1 : Int32) (x2 : Int32) (x3 : Int32) (x4 : Int32) (x5 : Int32) (x6 : Int32) (ls : Array Slot), lv_has ls 12 [(0, .ref (a 0)), (1, .int x1), (2, .int x2), (3, .int x3), (4, .int x4), (5, .int x5), (6, .int x6)] → L_Mo_hasCorners_17 S post n17 x1 x2 x3 x4 x5 x6 → W p l e rm_Mo_hasCorners s m args below meth c s.heap [] 0 0 (MQ below (vp_Si post) args s 0 0 (fun _ => False)) (F0 m 17 ls []) := by
    intro n17
    induction n17 with
    | zero => intro x1 x2 x3 x4 x5 x6 ls hl hf; exact False.elim hf
    | succ n17 ih17 =>
      intro x1 x2 x3 x4 x5 x6 ls hl hf
      unfold L_Mo_hasCorners_17 at hf
      refine lv_iload (pc := 17) hx hb d_Mo_hasCorners_17 (lv_at hl 6 rfl) ?_
      refine lv_iconst (pc := 19) (v := 4) hx hb d_Mo_hasCorners_19 (by decide) ?_
      refine lv_icmp_ge (pc := 20) (tgt := 183) hx hb d_Mo_hasCorners_20 (by decide) (fun hc => ?_) (fun hc => ?_)
      · replace hf := hf.1 hc
        refine lv_iload (pc := 183) hx hb d_Mo_hasCorners_183 (lv_at hl 5 rfl) ?_
        exact rr_z (pc := 185) hx hb hr hlk hf.1 hf.2 d_Mo_hasCorners_185
      replace hf := hf.2 hc
      refine lv_iconst (pc := 23) (v := 0) hx hb d_Mo_hasCorners_23 (by decide) ?_
      refine lv_istore (pc := 24) (lv' := [(7, .int (0 : Int32)), (0, .ref (a 0)), (1, .int x1), (2, .int x2), (3, .int x3), (4, .int x4), (5, .int x5), (6, .int x6)]) hx hb d_Mo_hasCorners_24 hl (by decide) rfl (fun ls hl => ?_)
      obtain ⟨q26, hf⟩ := hf
      have lp26 : ∀ (n26 : Nat) (x1 : Int32) (x2 : Int32) (x3 : Int32) (x4 : Int32) (x5 : Int32) (x6 : Int32) (x7 : Int32) (ls : Array Slot), lv_has ls 12 [(0, .ref (a 0)), (1, .int x1), (2, .int x2), (3, .int x3), (4, .int x4), (5, .int x5), (6, .int x6), (7, .int x7)] → L_Mo_hasCorners_26 S post (fun z0 z1 z2 z3 z4 z5 => L_Mo_hasCorners_17 S post n17 z0 z1 z2 z3 z4 z5) n26 x1 x2 x3 x4 x5 x6 x7 → W p l e rm_Mo_hasCorners s m args below meth c s.heap [] 0 0 (MQ below (vp_Si post) args s 0 0 (fun _ => False)) (F0 m 26 ls []) := by
        intro n26
        induction n26 with
        | zero => intro x1 x2 x3 x4 x5 x6 x7 ls hl hf; exact False.elim hf
        | succ n26 ih26 =>
          have jn164 : ∀ (x1 : Int32) (x2 : Int32) (x3 : Int32) (x4 : Int32) (x5 : Int32) (x6 : Int32) (x7 : Int32) (x8 : Int32) (x9 : Int32) (x10 : Int32) (x11 : Int32) (ls : Array Slot), lv_has ls 12 [(0, .ref (a 0)), (1, .int x1), (2, .int x2), (3, .int x3), (4, .int x4), (5, .int x5), (6, .int x6), (7, .int x7), (8, .int x8), (9, .int x9), (10, .int x10), (11, .int x11)] → J_Mo_hasCorners_164 S post (fun z0 z1 z2 z3 z4 z5 => L_Mo_hasCorners_17 S post n17 z0 z1 z2 z3 z4 z5) (fun z0 z1 z2 z3 z4 z5 z6 => L_Mo_hasCorners_26 S post (fun z0 z1 z2 z3 z4 z5 => L_Mo_hasCorners_17 S post n17 z0 z1 z2 z3 z4 z5) n26 z0 z1 z2 z3 z4 z5 z6) x1 x2 x3 x4 x5 x6 x7 x8 x9 x10 x11 → W p l e rm_Mo_hasCorners s m args below meth c s.heap [] 0 0 (MQ below (vp_Si post) args s 0 0 (fun _ => False)) (F0 m 164 ls []) := by
            intro x1 x2 x3 x4 x5 x6 x7 x8 x9 x10 x11 ls hl hf
            unfold J_Mo_hasCorners_164 at hf
            refine lv_iconst (pc := 164) (v := 1) hx hb d_Mo_hasCorners_164 (by decide) ?_
            refine lv_goto (pc := 165) (tgt := 169) hx hb d_Mo_hasCorners_165 (by decide) ?_
            refine lv_istore (pc := 169) (lv' := [(5, .int (1 : Int32)), (0, .ref (a 0)), (1, .int x1), (2, .int x2), (3, .int x3), (4, .int x4), (6, .int x6), (7, .int x7), (8, .int x8), (9, .int x9), (10, .int x10), (11, .int x11)]) hx hb d_Mo_hasCorners_169 hl (by decide) rfl (fun ls hl => ?_)
            refine lv_iinc (pc := 171) (k := 7) (v := (x7 + (1 : Int32))) (lv' := [(7, .int (x7 + (1 : Int32))), (5, .int (1 : Int32)), (0, .ref (a 0)), (1, .int x1), (2, .int x2), (3, .int x3), (4, .int x4), (6, .int x6), (8, .int x8), (9, .int x9), (10, .int x10), (11, .int x11)]) hx hb d_Mo_hasCorners_171 hl rfl rfl (by decide) rfl (fun ls hl => ?_)
            refine lv_goto (pc := 174) (tgt := 26) hx hb d_Mo_hasCorners_174 (by decide) ?_
            exact ih26 x1 x2 x3 x4 (1 : Int32) x6 (x7 + (1 : Int32)) _ (lv_sub hl [2, 3, 4, 5, 6, 1, 7, 0] rfl) hf
          have jn139 : ∀ (x1 : Int32) (x2 : Int32) (x3 : Int32) (x4 : Int32) (x5 : Int32) (x6 : Int32) (x7 : Int32) (x8 : Int32) (x9 : Int32) (x10 : Int32) (y0 : Int32) (ls : Array Slot), lv_has ls 12 [(0, .ref (a 0)), (1, .int x1), (2, .int x2), (3, .int x3), (4, .int x4), (5, .int x5), (6, .int x6), (7, .int x7), (8, .int x8), (9, .int x9), (10, .int x10)] → J_Mo_hasCorners_139 S post (fun z0 z1 z2 z3 z4 z5 => L_Mo_hasCorners_17 S post n17 z0 z1 z2 z3 z4 z5) (fun z0 z1 z2 z3 z4 z5 z6 => L_Mo_hasCorners_26 S post (fun z0 z1 z2 z3 z4 z5 => L_Mo_hasCorners_17 S post n17 z0 z1 z2 z3 z4 z5) n26 z0 z1 z2 z3 z4 z5 z6) x1 x2 x3 x4 x5 x6 x7 x8 x9 x10 y0 → W p l e rm_Mo_hasCorners s m args below meth c s.heap [] 0 0 (MQ below (vp_Si post) args s 0 0 (fun _ => False)) (F0 m 139 ls [.int y0]) := by
            intro x1 x2 x3 x4 x5 x6 x7 x8 x9 x10 y0 ls hl hf
            unfold J_Mo_hasCorners_139 at hf
            refine lv_istore (pc := 139) (lv' := [(11, .int y0), (0, .ref (a 0)), (1, .int x1), (2, .int x2), (3, .int x3), (4, .int x4), (5, .int x5), (6, .int x6), (7, .int x7), (8, .int x8), (9, .int x9), (10, .int x10)]) hx hb d_Mo_hasCorners_139 hl (by decide) rfl (fun ls hl => ?_)
            refine lv_iload (pc := 141) hx hb d_Mo_hasCorners_141 (lv_at hl 6 rfl) ?_
            refine lv_if_ne (pc := 143) (tgt := 164) hx hb d_Mo_hasCorners_143 (by decide) (fun hc => ?_) (fun hc => ?_)
            · replace hf := hf.2 hc
              exact jn164 x1 x2 x3 x4 x5 x6 x7 x8 x9 x10 y0 _ (lv_sub hl [1, 2, 3, 4, 5, 6, 7, 8, 9, 10, 11, 0] rfl) hf
            replace hf := hf.1 hc
            refine lv_iload (pc := 146) hx hb d_Mo_hasCorners_146 (lv_at hl 7 rfl) ?_
            refine lv_iload_n (pc := 148) hx hb d_Mo_hasCorners_148 rfl (lv_at hl 4 rfl) ?_
            refine lv_icmp_eq (pc := 149) (tgt := 168) hx hb d_Mo_hasCorners_149 (by decide) (fun hc => ?_) (fun hc => ?_)
            · replace hf := hf.1 hc
              refine lv_iconst (pc := 168) (v := 0) hx hb d_Mo_hasCorners_168 (by decide) ?_
              refine lv_istore (pc := 169) (lv' := [(5, .int (0 : Int32)), (11, .int y0), (0, .ref (a 0)), (1, .int x1), (2, .int x2), (3, .int x3), (4, .int x4), (6, .int x6), (7, .int x7), (8, .int x8), (9, .int x9), (10, .int x10)]) hx hb d_Mo_hasCorners_169 hl (by decide) rfl (fun ls hl => ?_)
              refine lv_iinc (pc := 171) (k := 8) (v := (x7 + (1 : Int32))) (lv' := [(7, .int (x7 + (1 : Int32))), (5, .int (0 : Int32)), (11, .int y0), (0, .ref (a 0)), (1, .int x1), (2, .int x2), (3, .int x3), (4, .int x4), (6, .int x6), (8, .int x8), (9, .int x9), (10, .int x10)]) hx hb d_Mo_hasCorners_171 hl rfl rfl (by decide) rfl (fun ls hl => ?_)
              refine lv_goto (pc := 174) (tgt := 26) hx hb d_Mo_hasCorners_174 (by decide) ?_
              exact ih26 x1 x2 x3 x4 (0 : Int32) x6 (x7 + (1 : Int32)) _ (lv_sub hl [3, 4, 5, 6, 7, 1, 8, 0] rfl) hf
            replace hf := hf.2 hc
            refine lv_iload (pc := 152) hx hb d_Mo_hasCorners_152 (lv_at hl 8 rfl) ?_
            refine lv_iload (pc := 154) hx hb d_Mo_hasCorners_154 (lv_at hl 5 rfl) ?_
            refine lv_icmp_eq (pc := 156) (tgt := 168) hx hb d_Mo_hasCorners_156 (by decide) (fun hc => ?_) (fun hc => ?_)
            · replace hf := hf.1 hc
              refine lv_iconst (pc := 168) (v := 0) hx hb d_Mo_hasCorners_168 (by decide) ?_
              refine lv_istore (pc := 169) (lv' := [(5, .int (0 : Int32)), (11, .int y0), (0, .ref (a 0)), (1, .int x1), (2, .int x2), (3, .int x3), (4, .int x4), (6, .int x6), (7, .int x7), (8, .int x8), (9, .int x9), (10, .int x10)]) hx hb d_Mo_hasCorners_169 hl (by decide) rfl (fun ls hl => ?_)
              refine lv_iinc (pc := 171) (k := 8) (v := (x7 + (1 : Int32))) (lv' := [(7, .int (x7 + (1 : Int32))), (5, .int (0 : Int32)), (11, .int y0), (0, .ref (a 0)), (1, .int x1), (2, .int x2), (3, .int x3), (4, .int x4), (6, .int x6), (8, .int x8), (9, .int x9), (10, .int x10)]) hx hb d_Mo_hasCorners_171 hl rfl rfl (by decide) rfl (fun ls hl => ?_)
              refine lv_goto (pc := 174) (tgt := 26) hx hb d_Mo_hasCorners_174 (by decide) ?_
              exact ih26 x1 x2 x3 x4 (0 : Int32) x6 (x7 + (1 : Int32)) _ (lv_sub hl [3, 4, 5, 6, 7, 1, 8, 0] rfl) hf
            replace hf := hf.2 hc
            refine lv_iload (pc := 159) hx hb d_Mo_hasCorners_159 (lv_at hl 0 rfl) ?_
            refine lv_if_eq (pc := 161) (tgt := 168) hx hb d_Mo_hasCorners_161 (by decide) (fun hc => ?_) (fun hc => ?_)
            · replace hf := hf.1 hc
              refine lv_iconst (pc := 168) (v := 0) hx hb d_Mo_hasCorners_168 (by decide) ?_
              refine lv_istore (pc := 169) (lv' := [(5, .int (0 : Int32)), (11, .int y0), (0, .ref (a 0)), (1, .int x1), (2, .int x2), (3, .int x3), (4, .int x4), (6, .int x6), (7, .int x7), (8, .int x8), (9, .int x9), (10, .int x10)]) hx hb d_Mo_hasCorners_169 hl (by decide) rfl (fun ls hl => ?_)
              refine lv_iinc (pc := 171) (k := 8) (v := (x7 + (1 : Int32))) (lv' := [(7, .int (x7 + (1 : Int32))), (5, .int (0 : Int32)), (11, .int y0), (0, .ref (a 0)), (1, .int x1), (2, .int x2), (3, .int x3), (4, .int x4), (6, .int x6), (8, .int x8), (9, .int x9), (10, .int x10)]) hx hb d_Mo_hasCorners_171 hl rfl rfl (by decide) rfl (fun ls hl => ?_)
              refine lv_goto (pc := 174) (tgt := 26) hx hb d_Mo_hasCorners_174 (by decide) ?_
              exact ih26 x1 x2 x3 x4 (0 : Int32) x6 (x7 + (1 : Int32)) _ (lv_sub hl [3, 4, 5, 6, 7, 1, 8, 0] rfl) hf
            replace hf := hf.2 hc
            exact jn164 x1 x2 x3 x4 x5 x6 x7 x8 x9 x10 y0 _ (lv_sub hl [1, 2, 3, 4, 5, 6, 7, 8, 9, 10, 11, 0] rfl) hf
          have jn138 : ∀ (x1 : Int32) (x2 : Int32) (x3 : Int32) (x4 : Int32) (x5 : Int32) (x6 : Int32) (x7 : Int32) (x8 : Int32) (x9 : Int32) (x10 : Int32) (ls : Array Slot), lv_has ls 12 [(0, .ref (a 0)), (1, .int x1), (2, .int x2), (3, .int x3), (4, .int x4), (5, .int x5), (6, .int x6), (7, .int x7), (8, .int x8), (9, .int x9), (10, .int x10)] → J_Mo_hasCorners_138 S post (fun z0 z1 z2 z3 z4 z5 => L_Mo_hasCorners_17 S post n17 z0 z1 z2 z3 z4 z5) (fun z0 z1 z2 z3 z4 z5 z6 => L_Mo_hasCorners_26 S post (fun z0 z1 z2 z3 z4 z5 => L_Mo_hasCorners_17 S post n17 z0 z1 z2 z3 z4 z5) n26 z0 z1 z2 z3 z4 z5 z6) x1 x2 x3 x4 x5 x6 x7 x8 x9 x10 → W p l e rm_Mo_hasCorners s m args below meth c s.heap [] 0 0 (MQ below (vp_Si post) args s 0 0 (fun _ => False)) (F0 m 138 ls []) := by
            intro x1 x2 x3 x4 x5 x6 x7 x8 x9 x10 ls hl hf
            unfold J_Mo_hasCorners_138 at hf
            refine lv_iconst (pc := 138) (v := 0) hx hb d_Mo_hasCorners_138 (by decide) ?_
            exact jn139 x1 x2 x3 x4 x5 x6 x7 x8 x9 x10 (0 : Int32) _ (lv_sub hl [0, 1, 2, 3, 4, 5, 6, 7, 8, 9, 10] rfl) hf
          have jn100 : ∀ (x1 : Int32) (x2 : Int32) (x3 : Int32) (x4 : Int32) (x5 : Int32) (x6 : Int32) (x7 : Int32) (x8 : Int32) (x9 : Int32) (x10 : Int32) (ls : Array Slot), lv_has ls 12 [(0, .ref (a 0)), (1, .int x1), (2, .int x2), (3, .int x3), (4, .int x4), (5, .int x5), (6, .int x6), (7, .int x7), (8, .int x8), (9, .int x9), (10, .int x10)] → J_Mo_hasCorners_100 S post (fun z0 z1 z2 z3 z4 z5 => L_Mo_hasCorners_17 S post n17 z0 z1 z2 z3 z4 z5) (fun z0 z1 z2 z3 z4 z5 z6 => L_Mo_hasCorners_26 S post (fun z0 z1 z2 z3 z4 z5 => L_Mo_hasCorners_17 S post n17 z0 z1 z2 z3 z4 z5) n26 z0 z1 z2 z3 z4 z5 z6) x1 x2 x3 x4 x5 x6 x7 x8 x9 x10 → W p l e rm_Mo_hasCorners s m args below meth c s.heap [] 0 0 (MQ below (vp_Si post) args s 0 0 (fun _ => False)) (F0 m 100 ls []) := by
            intro x1 x2 x3 x4 x5 x6 x7 x8 x9 x10 ls hl hf
            unfold J_Mo_hasCorners_100 at hf
            refine lv_iconst (pc := 100) (v := 0) hx hb d_Mo_hasCorners_100 (by decide) ?_
            refine lv_goto (pc := 101) (tgt := 139) hx hb d_Mo_hasCorners_101 (by decide) ?_
            exact jn139 x1 x2 x3 x4 x5 x6 x7 x8 x9 x10 (0 : Int32) _ (lv_sub hl [0, 1, 2, 3, 4, 5, 6, 7, 8, 9, 10] rfl) hf
          intro x1 x2 x3 x4 x5 x6 x7 ls hl hf
          unfold L_Mo_hasCorners_26 at hf
          refine lv_iload (pc := 26) hx hb d_Mo_hasCorners_26 (lv_at hl 7 rfl) ?_
          refine lv_bipush (pc := 28) (v := 6) hx hb d_Mo_hasCorners_28 (by decide) ?_
          refine lv_icmp_ge (pc := 30) (tgt := 177) hx hb d_Mo_hasCorners_30 (by decide) (fun hc => ?_) (fun hc => ?_)
          · replace hf := hf.1 hc
            refine lv_iinc (pc := 177) (k := 6) (v := (x6 + (1 : Int32))) (lv' := [(6, .int (x6 + (1 : Int32))), (0, .ref (a 0)), (1, .int x1), (2, .int x2), (3, .int x3), (4, .int x4), (5, .int x5), (7, .int x7)]) hx hb d_Mo_hasCorners_177 hl rfl rfl (by decide) rfl (fun ls hl => ?_)
            refine lv_goto (pc := 180) (tgt := 17) hx hb d_Mo_hasCorners_180 (by decide) ?_
            exact ih17 x1 x2 x3 x4 x5 (x6 + (1 : Int32)) _ (lv_sub hl [1, 2, 3, 4, 5, 6, 0] rfl) hf
          replace hf := hf.2 hc
          refine lv_bipush (pc := 33) (v := 6) hx hb d_Mo_hasCorners_33 (by decide) ?_
          refine lv_iload_n (pc := 35) hx hb d_Mo_hasCorners_35 rfl (lv_at hl 3 rfl) ?_
          refine lv_imul (pc := 36) hx hb d_Mo_hasCorners_36 ?_
          refine lv_iload (pc := 37) hx hb d_Mo_hasCorners_37 (lv_at hl 7 rfl) ?_
          refine lv_iadd (pc := 39) hx hb d_Mo_hasCorners_39 ?_
          refine lv_istore (pc := 40) (lv' := [(8, .int (((6 : Int32) * x3) + x7)), (0, .ref (a 0)), (1, .int x1), (2, .int x2), (3, .int x3), (4, .int x4), (5, .int x5), (6, .int x6), (7, .int x7)]) hx hb d_Mo_hasCorners_40 hl (by decide) rfl (fun ls hl => ?_)
          refine lv_bipush (pc := 42) (v := 6) hx hb d_Mo_hasCorners_42 (by decide) ?_
          refine lv_iload (pc := 44) hx hb d_Mo_hasCorners_44 (lv_at hl 7 rfl) ?_
          refine lv_imul (pc := 46) hx hb d_Mo_hasCorners_46 ?_
          refine lv_iload (pc := 47) hx hb d_Mo_hasCorners_47 (lv_at hl 5 rfl) ?_
          refine lv_iadd (pc := 49) hx hb d_Mo_hasCorners_49 ?_
          refine lv_istore (pc := 50) (lv' := [(9, .int (((6 : Int32) * x6) + x4)), (8, .int (((6 : Int32) * x3) + x7)), (0, .ref (a 0)), (1, .int x1), (2, .int x2), (3, .int x3), (4, .int x4), (5, .int x5), (6, .int x6), (7, .int x7)]) hx hb d_Mo_hasCorners_50 hl (by decide) rfl (fun ls hl => ?_)
          refine lv_bipush (pc := 52) (v := 6) hx hb d_Mo_hasCorners_52 (by decide) ?_
          refine lv_iload (pc := 54) hx hb d_Mo_hasCorners_54 (lv_at hl 8 rfl) ?_
          refine lv_imul (pc := 56) hx hb d_Mo_hasCorners_56 ?_
          refine lv_iload (pc := 57) hx hb d_Mo_hasCorners_57 (lv_at hl 9 rfl) ?_
          refine lv_iadd (pc := 59) hx hb d_Mo_hasCorners_59 ?_
          refine lv_istore (pc := 60) (lv' := [(10, .int (((6 : Int32) * x6) + x7)), (9, .int (((6 : Int32) * x6) + x4)), (8, .int (((6 : Int32) * x3) + x7)), (0, .ref (a 0)), (1, .int x1), (2, .int x2), (3, .int x3), (4, .int x4), (5, .int x5), (6, .int x6), (7, .int x7)]) hx hb d_Mo_hasCorners_60 hl (by decide) rfl (fun ls hl => ?_)
          refine lv_iload_n (pc := 62) hx hb d_Mo_hasCorners_62 rfl (lv_at hl 5 rfl) ?_
          refine lv_if_eq (pc := 63) (tgt := 104) hx hb d_Mo_hasCorners_63 (by decide) (fun hc => ?_) (fun hc => ?_)
          · replace hf := hf.1 hc
            refine lv_aload_n (pc := 104) hx hb d_Mo_hasCorners_104 rfl (lv_at hl 3 rfl) ?_
            refine md_gt_Mo_closed (pc := 105) hx hb hK hts hinMo hown hP hl17 d_Mo_hasCorners_105 ?_
            refine lv_iload (pc := 108) hx hb d_Mo_hasCorners_108 (lv_at hl 2 rfl) ?_
            refine md_ld3 (pc := 110) (v := ((S.1 9) (((6 : Int32) * x3) + x7).toNatClampNeg)) hx hb hK hP hf.1 rfl d_Mo_hasCorners_110 ?_
            replace hf := hf.2
            refine lv_if_eq (pc := 111) (tgt := 138) hx hb d_Mo_hasCorners_111 (by decide) (fun hc => ?_) (fun hc => ?_)
            · replace hf := hf.1 hc
              exact jn138 x1 x2 x3 x4 x5 x6 x7 (((6 : Int32) * x3) + x7) (((6 : Int32) * x6) + x4) (((6 : Int32) * x6) + x7) _ (lv_sub hl [3, 4, 5, 6, 7, 8, 9, 10, 2, 1, 0] rfl) hf
            replace hf := hf.2 hc
            refine lv_aload_n (pc := 114) hx hb d_Mo_hasCorners_114 rfl (lv_at hl 3 rfl) ?_
            refine md_gt_Mo_closed (pc := 115) hx hb hK hts hinMo hown hP hl17 d_Mo_hasCorners_115 ?_
            refine lv_iload (pc := 118) hx hb d_Mo_hasCorners_118 (lv_at hl 1 rfl) ?_
            refine md_ld3 (pc := 120) (v := ((S.1 9) (((6 : Int32) * x6) + x4).toNatClampNeg)) hx hb hK hP hf.1 rfl d_Mo_hasCorners_120 ?_
            replace hf := hf.2
            refine lv_if_eq (pc := 121) (tgt := 138) hx hb d_Mo_hasCorners_121 (by decide) (fun hc => ?_) (fun hc => ?_)
            · replace hf := hf.1 hc
              exact jn138 x1 x2 x3 x4 x5 x6 x7 (((6 : Int32) * x3) + x7) (((6 : Int32) * x6) + x4) (((6 : Int32) * x6) + x7) _ (lv_sub hl [3, 4, 5, 6, 7, 8, 9, 10, 2, 1, 0] rfl) hf
            replace hf := hf.2 hc
            refine lv_aload_n (pc := 124) hx hb d_Mo_hasCorners_124 rfl (lv_at hl 3 rfl) ?_
            refine md_gt_Mo_closed (pc := 125) hx hb hK hts hinMo hown hP hl17 d_Mo_hasCorners_125 ?_
            refine lv_iload (pc := 128) hx hb d_Mo_hasCorners_128 (lv_at hl 0 rfl) ?_
            refine md_ld3 (pc := 130) (v := ((S.1 9) (((6 : Int32) * x6) + x7).toNatClampNeg)) hx hb hK hP hf.1 rfl d_Mo_hasCorners_130 ?_
            replace hf := hf.2
            refine lv_if_eq (pc := 131) (tgt := 138) hx hb d_Mo_hasCorners_131 (by decide) (fun hc => ?_) (fun hc => ?_)
            · replace hf := hf.1 hc
              exact jn138 x1 x2 x3 x4 x5 x6 x7 (((6 : Int32) * x3) + x7) (((6 : Int32) * x6) + x4) (((6 : Int32) * x6) + x7) _ (lv_sub hl [3, 4, 5, 6, 7, 8, 9, 10, 2, 1, 0] rfl) hf
            replace hf := hf.2 hc
            refine lv_iconst (pc := 134) (v := 1) hx hb d_Mo_hasCorners_134 (by decide) ?_
            refine lv_goto (pc := 135) (tgt := 139) hx hb d_Mo_hasCorners_135 (by decide) ?_
            exact jn139 x1 x2 x3 x4 x5 x6 x7 (((6 : Int32) * x3) + x7) (((6 : Int32) * x6) + x4) (((6 : Int32) * x6) + x7) (1 : Int32) _ (lv_sub hl [3, 4, 5, 6, 7, 8, 9, 10, 2, 1, 0] rfl) hf
          replace hf := hf.2 hc
          refine lv_aload_n (pc := 66) hx hb d_Mo_hasCorners_66 rfl (lv_at hl 3 rfl) ?_
          refine md_gt_Mo_seen (pc := 67) hx hb hK hts hinMo hown hP hl23 d_Mo_hasCorners_67 ?_
          refine lv_iload (pc := 70) hx hb d_Mo_hasCorners_70 (lv_at hl 2 rfl) ?_
          refine md_ld5 (pc := 72) (v := ((S.1 11) (((6 : Int32) * x3) + x7).toNatClampNeg)) hx hb hK hP hf.1 rfl d_Mo_hasCorners_72 ?_
          replace hf := hf.2
          refine lv_if_eq (pc := 73) (tgt := 100) hx hb d_Mo_hasCorners_73 (by decide) (fun hc => ?_) (fun hc => ?_)
          · replace hf := hf.1 hc
            exact jn100 x1 x2 x3 x4 x5 x6 x7 (((6 : Int32) * x3) + x7) (((6 : Int32) * x6) + x4) (((6 : Int32) * x6) + x7) _ (lv_sub hl [3, 4, 5, 6, 7, 8, 9, 10, 2, 1, 0] rfl) hf
          replace hf := hf.2 hc
          refine lv_aload_n (pc := 76) hx hb d_Mo_hasCorners_76 rfl (lv_at hl 3 rfl) ?_
          refine md_gt_Mo_seen (pc := 77) hx hb hK hts hinMo hown hP hl23 d_Mo_hasCorners_77 ?_
          refine lv_iload (pc := 80) hx hb d_Mo_hasCorners_80 (lv_at hl 1 rfl) ?_
          refine md_ld5 (pc := 82) (v := ((S.1 11) (((6 : Int32) * x6) + x4).toNatClampNeg)) hx hb hK hP hf.1 rfl d_Mo_hasCorners_82 ?_
          replace hf := hf.2
          refine lv_if_eq (pc := 83) (tgt := 100) hx hb d_Mo_hasCorners_83 (by decide) (fun hc => ?_) (fun hc => ?_)
          · replace hf := hf.1 hc
            exact jn100 x1 x2 x3 x4 x5 x6 x7 (((6 : Int32) * x3) + x7) (((6 : Int32) * x6) + x4) (((6 : Int32) * x6) + x7) _ (lv_sub hl [3, 4, 5, 6, 7, 8, 9, 10, 2, 1, 0] rfl) hf
          replace hf := hf.2 hc
          refine lv_aload_n (pc := 86) hx hb d_Mo_hasCorners_86 rfl (lv_at hl 3 rfl) ?_
          refine md_gt_Mo_seen (pc := 87) hx hb hK hts hinMo hown hP hl23 d_Mo_hasCorners_87 ?_
          refine lv_iload (pc := 90) hx hb d_Mo_hasCorners_90 (lv_at hl 0 rfl) ?_
          refine md_ld5 (pc := 92) (v := ((S.1 11) (((6 : Int32) * x6) + x7).toNatClampNeg)) hx hb hK hP hf.1 rfl d_Mo_hasCorners_92 ?_
          replace hf := hf.2
          refine lv_if_eq (pc := 93) (tgt := 100) hx hb d_Mo_hasCorners_93 (by decide) (fun hc => ?_) (fun hc => ?_)
          · replace hf := hf.1 hc
            exact jn100 x1 x2 x3 x4 x5 x6 x7 (((6 : Int32) * x3) + x7) (((6 : Int32) * x6) + x4) (((6 : Int32) * x6) + x7) _ (lv_sub hl [3, 4, 5, 6, 7, 8, 9, 10, 2, 1, 0] rfl) hf
          replace hf := hf.2 hc
          refine lv_iconst (pc := 96) (v := 1) hx hb d_Mo_hasCorners_96 (by decide) ?_
          refine lv_goto (pc := 97) (tgt := 139) hx hb d_Mo_hasCorners_97 (by decide) ?_
          exact jn139 x1 x2 x3 x4 x5 x6 x7 (((6 : Int32) * x3) + x7) (((6 : Int32) * x6) + x4) (((6 : Int32) * x6) + x7) (1 : Int32) _ (lv_sub hl [3, 4, 5, 6, 7, 8, 9, 10, 2, 1, 0] rfl) hf
      exact lp26 q26 x1 x2 x3 x4 x5 x6 (0 : Int32) _ (lv_sub hl [1, 2, 3, 4, 5, 6, 7, 0] rfl) hf
  exact lp17 q17 p0 p1 (p0 / (6 : Int32)) (p0 - p0 / (6 : Int32) * (6 : Int32)) (0 : Int32) (0 : Int32) _ (lv_sub hl [4, 5, 6, 3, 2, 1, 0] rfl) hf
def J_Mo_look_44 (post : GS → Prop) (k2 : Int32 → GS → Prop) (x1 : Int32) (y1 : Int32) (y2 : Int32) (S : GS) : Prop := (vp_in y1 24 ∧ (vp_in x1 24 ∧ (vp_in x1 24 ∧ (k2 (x1 + (1 : Int32)) (gI (gI S 9 (upd (S.1 9) (y1).toNatClampNeg (vp_nar .boolean y2))) 8 (upd (S.1 8) (x1).toNatClampNeg (((S.1 8) x1.toNatClampNeg) >>> ((1 : Int32) &&& 31))))))))
def J_Mo_look_36 (post : GS → Prop) (k2 : Int32 → GS → Prop) (x1 : Int32) (y1 : Int32) (y2 : Int32) (y3 : Int32) (S : GS) : Prop := ((y2 = y3 → (J_Mo_look_44 post k2 x1 y1 (0 : Int32) S)) ∧ (¬ y2 = y3 → (J_Mo_look_44 post k2 x1 y1 (1 : Int32) S)))
def J_Mo_look_101 (post : GS → Prop) (k67 : Int32 → GS → Prop) (x1 : Int32) (y1 : Int32) (y2 : Int32) (S : GS) : Prop := (vp_in y1 24 ∧ (vp_in x1 24 ∧ (vp_in x1 24 ∧ ((((upd (S.1 10) (y1).toNatClampNeg (vp_nar .boolean y2)) x1.toNatClampNeg) = ((S.1 11) x1.toNatClampNeg) → (vp_in x1 24 ∧ (k67 (x1 + (1 : Int32)) (gI (gI S 10 (upd (S.1 10) (y1).toNatClampNeg (vp_nar .boolean y2))) 12 (upd (S.1 12) (x1).toNatClampNeg (0 : Int32)))))) ∧ (¬ ((upd (S.1 10) (y1).toNatClampNeg (vp_nar .boolean y2)) x1.toNatClampNeg) = ((S.1 11) x1.toNatClampNeg) → (vp_in x1 24 ∧ (vp_in x1 24 ∧ (k67 (x1 + (1 : Int32)) (gI (gI S 10 (upd (S.1 10) (y1).toNatClampNeg (vp_nar .boolean y2))) 12 (upd (S.1 12) (x1).toNatClampNeg (((S.1 12) x1.toNatClampNeg) + (1 : Int32))))))))))))
def J_Mo_look_96 (post : GS → Prop) (k67 : Int32 → GS → Prop) (x1 : Int32) (y1 : Int32) (S : GS) : Prop := (J_Mo_look_101 post k67 x1 y1 (1 : Int32) S)
def L_Mo_look_143 (post : GS → Prop) : Nat → Int32 → GS → Prop
  | 0, _, _ => False
  | n143 + 1, x1, S => (((24 : Int32) ≤ x1 → (post S)) ∧ (¬ (24 : Int32) ≤ x1 → (vp_in x1 24 ∧ ((((S.1 12) x1.toNatClampNeg) = (5 : Int32) → (vp_in x1 24 ∧ (vp_in x1 24 ∧ (vp_in x1 24 ∧ (L_Mo_look_143 post n143 (x1 + (1 : Int32)) (gI (gI S 11 (upd (S.1 11) (x1).toNatClampNeg (vp_nar .boolean ((S.1 10) x1.toNatClampNeg)))) 12 (upd (S.1 12) (x1).toNatClampNeg (0 : Int32)))))))) ∧ (¬ ((S.1 12) x1.toNatClampNeg) = (5 : Int32) → (L_Mo_look_143 post n143 (x1 + (1 : Int32)) S))))))
def L_Mo_look_67 (post : GS → Prop) : Nat → Int32 → GS → Prop
  | 0, _, _ => False
  | n67 + 1, x1, S => (((24 : Int32) ≤ x1 → (∃ q143, L_Mo_look_143 post q143 (0 : Int32) S)) ∧ (¬ (24 : Int32) ≤ x1 → (vp_in x1 24 ∧ ((((S.1 9) x1.toNatClampNeg) = (0 : Int32) → (wp_Mo_hasCorners S x1 (0 : Int32) (fun r90 => ((r90 = (0 : Int32) → (J_Mo_look_101 post (fun z0 z1 => L_Mo_look_67 post n67 z0 z1) x1 x1 (0 : Int32) S)) ∧ (¬ r90 = (0 : Int32) → (J_Mo_look_96 post (fun z0 z1 => L_Mo_look_67 post n67 z0 z1) x1 x1 S)))))) ∧ (¬ ((S.1 9) x1.toNatClampNeg) = (0 : Int32) → (J_Mo_look_96 post (fun z0 z1 => L_Mo_look_67 post n67 z0 z1) x1 x1 S))))))
def L_Mo_look_2 (post : GS → Prop) : Nat → Int32 → GS → Prop
  | 0, _, _ => False
  | n2 + 1, x1, S => (((24 : Int32) ≤ x1 → (∃ q67, L_Mo_look_67 post q67 (0 : Int32) S)) ∧ (¬ (24 : Int32) ≤ x1 → (vp_in x1 24 ∧ (vp_in x1 24 ∧ (((((S.1 8) x1.toNatClampNeg) &&& (1 : Int32)) = (1 : Int32) → (J_Mo_look_36 post (fun z0 z1 => L_Mo_look_2 post n2 z0 z1) x1 x1 ((S.1 7) x1.toNatClampNeg) (1 : Int32) S)) ∧ (¬ (((S.1 8) x1.toNatClampNeg) &&& (1 : Int32)) = (1 : Int32) → (J_Mo_look_36 post (fun z0 z1 => L_Mo_look_2 post n2 z0 z1) x1 x1 ((S.1 7) x1.toNatClampNeg) (0 : Int32) S)))))))
def wp_Mo_look (S : GS) (post : GS → Prop) : Prop := (∃ q2, L_Mo_look_2 post q2 (0 : Int32) S)
abbrev rm_Mo_look : Room := { frames := 1, cells := 0, slots := 0, locals := 31 }
set_option maxHeartbeats 4000000 in
set_option maxRecDepth 100000 in
theorem c_Mo_look (l : Launch) (D : va_G) (cI cZ cJ : ClassId) (a : Nat → Nat) (sz : Nat) (S : GS) (post : GS → Prop) (hf : wp_Mo_look S post) : Met l y_Mo_look ws_Mo_look rm_Mo_look (va_Pc [.ref (a 0)] (gPre D (tys cI cZ cJ) (mdW cI cZ cJ a S) sz)) (va_Qv post (gB D (tys cI cZ cJ) (mdW cI cZ cJ a) (va_A (mdW cI cZ cJ a S) sz)) (va_A (mdW cI cZ cJ a S) sz)) 0 0 (va_A (mdW cI cZ cJ a S) sz) := by
  refine gm_w (QF := fun A => va_Qv post (gB D (tys cI cZ cJ) (mdW cI cZ cJ a) A) A) (cc := b_Mo_look) (maxL := 2) (by decide) rfl (Nat.le_of_ble_eq_true rfl) ?_
  intro p e s m args below meth c A ls hx hb hr hts hown hmn hlk hml hK hA hw hl
  have hl : lv_has ls 2 [(0, .ref (a 0))] := hl
  have hinMo : ∀ w ∈ u_ws R_Mo T_Mo 30, w ∈ ws_Mo_look := fun w h => List.mem_cons_of_mem _ (tl_Mo w h)
  have hl7 := hts _ (List.mem_cons_of_mem _ tf_Mo_7)
  have hl13 := hts _ (List.mem_cons_of_mem _ tf_Mo_13)
  have hl17 := hts _ (List.mem_cons_of_mem _ tf_Mo_17)
  have hl20 := hts _ (List.mem_cons_of_mem _ tf_Mo_20)
  have hl23 := hts _ (List.mem_cons_of_mem _ tf_Mo_23)
  have hl26 := hts _ (List.mem_cons_of_mem _ tf_Mo_26)
  unfold wp_Mo_look at hf
  refine lv_iconst (pc := 0) (v := 0) hx hb d_Mo_look_0 (by decide) ?_
  refine lv_istore_n (pc := 1) (lv' := [(1, .int (0 : Int32)), (0, .ref (a 0))]) hx hb d_Mo_look_1 rfl hl (by decide) rfl (fun ls hl => ?_)
  obtain ⟨q2, hf⟩ := hf
  have lp2 : ∀ (n2 : Nat) (x1 : Int32) (S : GS) (H : Heap) (locs : List Loc) (ls : Array Slot), lv_has ls 2 [(0, .ref (a 0)), (1, .int x1)] → wf D A s.heap (mdW cI cZ cJ a S) H locs → L_Mo_look_2 post n2 x1 S → W p l e rm_Mo_look s m args below meth c H locs 0 0 (MQ below (va_Qv post (gB D (tys cI cZ cJ) (mdW cI cZ cJ a) A) A) args s 0 0 A) (F0 m 2 ls []) := by
    intro n2
    induction n2 with
    | zero => intro x1 S H locs ls hl hw hf; exact False.elim hf
    | succ n2 ih2 =>
      have jn44 : ∀ (x1 : Int32) (y1 : Int32) (y2 : Int32) (S : GS) (H : Heap) (locs : List Loc) (ls : Array Slot), lv_has ls 2 [(0, .ref (a 0)), (1, .int x1)] → wf D A s.heap (mdW cI cZ cJ a S) H locs → J_Mo_look_44 post (fun z0 z1 => L_Mo_look_2 post n2 z0 z1) x1 y1 y2 S → W p l e rm_Mo_look s m args below meth c H locs 0 0 (MQ below (va_Qv post (gB D (tys cI cZ cJ) (mdW cI cZ cJ a) A) A) args s 0 0 A) (F0 m 44 ls [.int y2, .int y1, .ref (a 3)]) := by
        intro x1 y1 y2 S H locs ls hl hw hf
        unfold J_Mo_look_44 at hf
        refine md_st3 (pc := 44) hx hb hK hw hf.1 d_Mo_look_44 (fun H locs hw => ?_)
        replace hf := hf.2
        refine lv_aload_n (pc := 45) hx hb d_Mo_look_45 rfl (lv_at hl 0 rfl) ?_
        refine md_gt_Mo_bounces (pc := 46) hx hb hK hts hinMo hown hw.1 hl13 d_Mo_look_46 ?_
        refine lv_iload_n (pc := 49) hx hb d_Mo_look_49 rfl (lv_at hl 1 rfl) ?_
        refine lv_aload_n (pc := 50) hx hb d_Mo_look_50 rfl (lv_at hl 0 rfl) ?_
        refine md_gt_Mo_bounces (pc := 51) hx hb hK hts hinMo hown hw.1 hl13 d_Mo_look_51 ?_
        refine lv_iload_n (pc := 54) hx hb d_Mo_look_54 rfl (lv_at hl 1 rfl) ?_
        refine md_ld2 (pc := 55) (v := ((S.1 8) x1.toNatClampNeg)) hx hb hK hw.1 hf.1 rfl d_Mo_look_55 ?_
        replace hf := hf.2
        refine lv_iconst (pc := 56) (v := 1) hx hb d_Mo_look_56 (by decide) ?_
        refine lv_ishr (pc := 57) hx hb d_Mo_look_57 ?_
        refine md_st2 (pc := 58) hx hb hK hw hf.1 d_Mo_look_58 (fun H locs hw => ?_)
        replace hf := hf.2
        have hw : wf D A s.heap (mdW cI cZ cJ a (gI (gI S 9 (upd (S.1 9) (y1).toNatClampNeg (vp_nar .boolean y2))) 8 (upd (S.1 8) (x1).toNatClampNeg (((S.1 8) x1.toNatClampNeg) >>> ((1 : Int32) &&& 31))))) H locs := hw
        refine lv_iinc (pc := 59) (k := 1) (v := (x1 + (1 : Int32))) (lv' := [(1, .int (x1 + (1 : Int32))), (0, .ref (a 0))]) hx hb d_Mo_look_59 hl rfl rfl (by decide) rfl (fun ls hl => ?_)
        refine lv_goto (pc := 62) (tgt := 2) hx hb d_Mo_look_62 (by decide) ?_
        exact ih2 (x1 + (1 : Int32)) (gI (gI S 9 (upd (S.1 9) (y1).toNatClampNeg (vp_nar .boolean y2))) 8 (upd (S.1 8) (x1).toNatClampNeg (((S.1 8) x1.toNatClampNeg) >>> ((1 : Int32) &&& 31)))) _ _ _ (lv_sub hl [1, 0] rfl) hw hf
      have jn36 : ∀ (x1 : Int32) (y1 : Int32) (y2 : Int32) (y3 : Int32) (S : GS) (H : Heap) (locs : List Loc) (ls : Array Slot), lv_has ls 2 [(0, .ref (a 0)), (1, .int x1)] → wf D A s.heap (mdW cI cZ cJ a S) H locs → J_Mo_look_36 post (fun z0 z1 => L_Mo_look_2 post n2 z0 z1) x1 y1 y2 y3 S → W p l e rm_Mo_look s m args below meth c H locs 0 0 (MQ below (va_Qv post (gB D (tys cI cZ cJ) (mdW cI cZ cJ a) A) A) args s 0 0 A) (F0 m 36 ls [.int y3, .int y2, .int y1, .ref (a 3)]) := by
        intro x1 y1 y2 y3 S H locs ls hl hw hf
        unfold J_Mo_look_36 at hf
        refine lv_icmp_eq (pc := 36) (tgt := 43) hx hb d_Mo_look_36 (by decide) (fun hc => ?_) (fun hc => ?_)
        · replace hf := hf.1 hc
          refine lv_iconst (pc := 43) (v := 0) hx hb d_Mo_look_43 (by decide) ?_
          exact jn44 x1 y1 (0 : Int32) S _ _ _ (lv_sub hl [0, 1] rfl) hw hf
        replace hf := hf.2 hc
        refine lv_iconst (pc := 39) (v := 1) hx hb d_Mo_look_39 (by decide) ?_
        refine lv_goto (pc := 40) (tgt := 44) hx hb d_Mo_look_40 (by decide) ?_
        exact jn44 x1 y1 (1 : Int32) S _ _ _ (lv_sub hl [0, 1] rfl) hw hf
      intro x1 S H locs ls hl hw hf
      unfold L_Mo_look_2 at hf
      refine lv_iload_n (pc := 2) hx hb d_Mo_look_2 rfl (lv_at hl 1 rfl) ?_
      refine lv_bipush (pc := 3) (v := 24) hx hb d_Mo_look_3 (by decide) ?_
      refine lv_icmp_ge (pc := 5) (tgt := 65) hx hb d_Mo_look_5 (by decide) (fun hc => ?_) (fun hc => ?_)
      · replace hf := hf.1 hc
        refine lv_iconst (pc := 65) (v := 0) hx hb d_Mo_look_65 (by decide) ?_
        refine lv_istore_n (pc := 66) (lv' := [(1, .int (0 : Int32)), (0, .ref (a 0))]) hx hb d_Mo_look_66 rfl hl (by decide) rfl (fun ls hl => ?_)
        obtain ⟨q67, hf⟩ := hf
        have lp67 : ∀ (n67 : Nat) (x1 : Int32) (S : GS) (H : Heap) (locs : List Loc) (ls : Array Slot), lv_has ls 2 [(0, .ref (a 0)), (1, .int x1)] → wf D A s.heap (mdW cI cZ cJ a S) H locs → L_Mo_look_67 post n67 x1 S → W p l e rm_Mo_look s m args below meth c H locs 0 0 (MQ below (va_Qv post (gB D (tys cI cZ cJ) (mdW cI cZ cJ a) A) A) args s 0 0 A) (F0 m 67 ls []) := by
          intro n67
          induction n67 with
          | zero => intro x1 S H locs ls hl hw hf; exact False.elim hf
          | succ n67 ih67 =>
            have jn101 : ∀ (x1 : Int32) (y1 : Int32) (y2 : Int32) (S : GS) (H : Heap) (locs : List Loc) (ls : Array Slot), lv_has ls 2 [(0, .ref (a 0)), (1, .int x1)] → wf D A s.heap (mdW cI cZ cJ a S) H locs → J_Mo_look_101 post (fun z0 z1 => L_Mo_look_67 post n67 z0 z1) x1 y1 y2 S → W p l e rm_Mo_look s m args below meth c H locs 0 0 (MQ below (va_Qv post (gB D (tys cI cZ cJ) (mdW cI cZ cJ a) A) A) args s 0 0 A) (F0 m 101 ls [.int y2, .int y1, .ref (a 4)]) := by
              intro x1 y1 y2 S H locs ls hl hw hf
              unfold J_Mo_look_101 at hf
              refine md_st4 (pc := 101) hx hb hK hw hf.1 d_Mo_look_101 (fun H locs hw => ?_)
              replace hf := hf.2
              refine lv_aload_n (pc := 102) hx hb d_Mo_look_102 rfl (lv_at hl 0 rfl) ?_
              refine md_gt_Mo_others (pc := 103) hx hb hK hts hinMo hown hw.1 hl26 d_Mo_look_103 ?_
              refine lv_iload_n (pc := 106) hx hb d_Mo_look_106 rfl (lv_at hl 1 rfl) ?_
              refine lv_aload_n (pc := 107) hx hb d_Mo_look_107 rfl (lv_at hl 0 rfl) ?_
              refine md_gt_Mo_read (pc := 108) hx hb hK hts hinMo hown hw.1 hl20 d_Mo_look_108 ?_
              refine lv_iload_n (pc := 111) hx hb d_Mo_look_111 rfl (lv_at hl 1 rfl) ?_
              refine md_ld4 (pc := 112) (v := ((upd (S.1 10) (y1).toNatClampNeg (vp_nar .boolean y2)) x1.toNatClampNeg)) hx hb hK hw.1 hf.1 rfl d_Mo_look_112 ?_
              replace hf := hf.2
              refine lv_aload_n (pc := 113) hx hb d_Mo_look_113 rfl (lv_at hl 0 rfl) ?_
              refine md_gt_Mo_seen (pc := 114) hx hb hK hts hinMo hown hw.1 hl23 d_Mo_look_114 ?_
              refine lv_iload_n (pc := 117) hx hb d_Mo_look_117 rfl (lv_at hl 1 rfl) ?_
              refine md_ld5 (pc := 118) (v := ((S.1 11) x1.toNatClampNeg)) hx hb hK hw.1 hf.1 rfl d_Mo_look_118 ?_
              replace hf := hf.2
              refine lv_icmp_eq (pc := 119) (tgt := 133) hx hb d_Mo_look_119 (by decide) (fun hc => ?_) (fun hc => ?_)
              · replace hf := hf.1 hc
                refine lv_iconst (pc := 133) (v := 0) hx hb d_Mo_look_133 (by decide) ?_
                refine md_st6 (pc := 134) hx hb hK hw hf.1 d_Mo_look_134 (fun H locs hw => ?_)
                replace hf := hf.2
                have hw : wf D A s.heap (mdW cI cZ cJ a (gI (gI S 10 (upd (S.1 10) (y1).toNatClampNeg (vp_nar .boolean y2))) 12 (upd (S.1 12) (x1).toNatClampNeg (0 : Int32)))) H locs := hw
                refine lv_iinc (pc := 135) (k := 1) (v := (x1 + (1 : Int32))) (lv' := [(1, .int (x1 + (1 : Int32))), (0, .ref (a 0))]) hx hb d_Mo_look_135 hl rfl rfl (by decide) rfl (fun ls hl => ?_)
                refine lv_goto (pc := 138) (tgt := 67) hx hb d_Mo_look_138 (by decide) ?_
                exact ih67 (x1 + (1 : Int32)) (gI (gI S 10 (upd (S.1 10) (y1).toNatClampNeg (vp_nar .boolean y2))) 12 (upd (S.1 12) (x1).toNatClampNeg (0 : Int32))) _ _ _ (lv_sub hl [1, 0] rfl) hw hf
              replace hf := hf.2 hc
              refine lv_aload_n (pc := 122) hx hb d_Mo_look_122 rfl (lv_at hl 0 rfl) ?_
              refine md_gt_Mo_others (pc := 123) hx hb hK hts hinMo hown hw.1 hl26 d_Mo_look_123 ?_
              refine lv_iload_n (pc := 126) hx hb d_Mo_look_126 rfl (lv_at hl 1 rfl) ?_
              refine md_ld6 (pc := 127) (v := ((S.1 12) x1.toNatClampNeg)) hx hb hK hw.1 hf.1 rfl d_Mo_look_127 ?_
              replace hf := hf.2
              refine lv_iconst (pc := 128) (v := 1) hx hb d_Mo_look_128 (by decide) ?_
              refine lv_iadd (pc := 129) hx hb d_Mo_look_129 ?_
              refine lv_goto (pc := 130) (tgt := 134) hx hb d_Mo_look_130 (by decide) ?_
              refine md_st6 (pc := 134) hx hb hK hw hf.1 d_Mo_look_134 (fun H locs hw => ?_)
              replace hf := hf.2
              have hw : wf D A s.heap (mdW cI cZ cJ a (gI (gI S 10 (upd (S.1 10) (y1).toNatClampNeg (vp_nar .boolean y2))) 12 (upd (S.1 12) (x1).toNatClampNeg (((S.1 12) x1.toNatClampNeg) + (1 : Int32))))) H locs := hw
              refine lv_iinc (pc := 135) (k := 1) (v := (x1 + (1 : Int32))) (lv' := [(1, .int (x1 + (1 : Int32))), (0, .ref (a 0))]) hx hb d_Mo_look_135 hl rfl rfl (by decide) rfl (fun ls hl => ?_)
              refine lv_goto (pc := 138) (tgt := 67) hx hb d_Mo_look_138 (by decide) ?_
              exact ih67 (x1 + (1 : Int32)) (gI (gI S 10 (upd (S.1 10) (y1).toNatClampNeg (vp_nar .boolean y2))) 12 (upd (S.1 12) (x1).toNatClampNeg (((S.1 12) x1.toNatClampNeg) + (1 : Int32)))) _ _ _ (lv_sub hl [1, 0] rfl) hw hf
            have jn96 : ∀ (x1 : Int32) (y1 : Int32) (S : GS) (H : Heap) (locs : List Loc) (ls : Array Slot), lv_has ls 2 [(0, .ref (a 0)), (1, .int x1)] → wf D A s.heap (mdW cI cZ cJ a S) H locs → J_Mo_look_96 post (fun z0 z1 => L_Mo_look_67 post n67 z0 z1) x1 y1 S → W p l e rm_Mo_look s m args below meth c H locs 0 0 (MQ below (va_Qv post (gB D (tys cI cZ cJ) (mdW cI cZ cJ a) A) A) args s 0 0 A) (F0 m 96 ls [.int y1, .ref (a 4)]) := by
              intro x1 y1 S H locs ls hl hw hf
              unfold J_Mo_look_96 at hf
              refine lv_iconst (pc := 96) (v := 1) hx hb d_Mo_look_96 (by decide) ?_
              refine lv_goto (pc := 97) (tgt := 101) hx hb d_Mo_look_97 (by decide) ?_
              exact jn101 x1 y1 (1 : Int32) S _ _ _ (lv_sub hl [0, 1] rfl) hw hf
            intro x1 S H locs ls hl hw hf
            unfold L_Mo_look_67 at hf
            refine lv_iload_n (pc := 67) hx hb d_Mo_look_67 rfl (lv_at hl 1 rfl) ?_
            refine lv_bipush (pc := 68) (v := 24) hx hb d_Mo_look_68 (by decide) ?_
            refine lv_icmp_ge (pc := 70) (tgt := 141) hx hb d_Mo_look_70 (by decide) (fun hc => ?_) (fun hc => ?_)
            · replace hf := hf.1 hc
              refine lv_iconst (pc := 141) (v := 0) hx hb d_Mo_look_141 (by decide) ?_
              refine lv_istore_n (pc := 142) (lv' := [(1, .int (0 : Int32)), (0, .ref (a 0))]) hx hb d_Mo_look_142 rfl hl (by decide) rfl (fun ls hl => ?_)
              obtain ⟨q143, hf⟩ := hf
              have lp143 : ∀ (n143 : Nat) (x1 : Int32) (S : GS) (H : Heap) (locs : List Loc) (ls : Array Slot), lv_has ls 2 [(0, .ref (a 0)), (1, .int x1)] → wf D A s.heap (mdW cI cZ cJ a S) H locs → L_Mo_look_143 post n143 x1 S → W p l e rm_Mo_look s m args below meth c H locs 0 0 (MQ below (va_Qv post (gB D (tys cI cZ cJ) (mdW cI cZ cJ a) A) A) args s 0 0 A) (F0 m 143 ls []) := by
                intro n143
                induction n143 with
                | zero => intro x1 S H locs ls hl hw hf; exact False.elim hf
                | succ n143 ih143 =>
                  intro x1 S H locs ls hl hw hf
                  unfold L_Mo_look_143 at hf
                  refine lv_iload_n (pc := 143) hx hb d_Mo_look_143 rfl (lv_at hl 1 rfl) ?_
                  refine lv_bipush (pc := 144) (v := 24) hx hb d_Mo_look_144 (by decide) ?_
                  refine lv_icmp_ge (pc := 146) (tgt := 184) hx hb d_Mo_look_146 (by decide) (fun hc => ?_) (fun hc => ?_)
                  · replace hf := hf.1 hc
                    exact gr_v (pc := 184) hx hb hr hlk hK S hw hf d_Mo_look_184
                  replace hf := hf.2 hc
                  refine lv_aload_n (pc := 149) hx hb d_Mo_look_149 rfl (lv_at hl 0 rfl) ?_
                  refine md_gt_Mo_others (pc := 150) hx hb hK hts hinMo hown hw.1 hl26 d_Mo_look_150 ?_
                  refine lv_iload_n (pc := 153) hx hb d_Mo_look_153 rfl (lv_at hl 1 rfl) ?_
                  refine md_ld6 (pc := 154) (v := ((S.1 12) x1.toNatClampNeg)) hx hb hK hw.1 hf.1 rfl d_Mo_look_154 ?_
                  replace hf := hf.2
                  refine lv_iconst (pc := 155) (v := 5) hx hb d_Mo_look_155 (by decide) ?_
                  refine lv_icmp_ne (pc := 156) (tgt := 178) hx hb d_Mo_look_156 (by decide) (fun hc => ?_) (fun hc => ?_)
                  · replace hf := hf.2 hc
                    refine lv_iinc (pc := 178) (k := 1) (v := (x1 + (1 : Int32))) (lv' := [(1, .int (x1 + (1 : Int32))), (0, .ref (a 0))]) hx hb d_Mo_look_178 hl rfl rfl (by decide) rfl (fun ls hl => ?_)
                    refine lv_goto (pc := 181) (tgt := 143) hx hb d_Mo_look_181 (by decide) ?_
                    exact ih143 (x1 + (1 : Int32)) S _ _ _ (lv_sub hl [1, 0] rfl) hw hf
                  replace hf := hf.1 hc
                  refine lv_aload_n (pc := 159) hx hb d_Mo_look_159 rfl (lv_at hl 0 rfl) ?_
                  refine md_gt_Mo_seen (pc := 160) hx hb hK hts hinMo hown hw.1 hl23 d_Mo_look_160 ?_
                  refine lv_iload_n (pc := 163) hx hb d_Mo_look_163 rfl (lv_at hl 1 rfl) ?_
                  refine lv_aload_n (pc := 164) hx hb d_Mo_look_164 rfl (lv_at hl 0 rfl) ?_
                  refine md_gt_Mo_read (pc := 165) hx hb hK hts hinMo hown hw.1 hl20 d_Mo_look_165 ?_
                  refine lv_iload_n (pc := 168) hx hb d_Mo_look_168 rfl (lv_at hl 1 rfl) ?_
                  refine md_ld4 (pc := 169) (v := ((S.1 10) x1.toNatClampNeg)) hx hb hK hw.1 hf.1 rfl d_Mo_look_169 ?_
                  replace hf := hf.2
                  refine md_st5 (pc := 170) hx hb hK hw hf.1 d_Mo_look_170 (fun H locs hw => ?_)
                  replace hf := hf.2
                  refine lv_aload_n (pc := 171) hx hb d_Mo_look_171 rfl (lv_at hl 0 rfl) ?_
                  refine md_gt_Mo_others (pc := 172) hx hb hK hts hinMo hown hw.1 hl26 d_Mo_look_172 ?_
                  refine lv_iload_n (pc := 175) hx hb d_Mo_look_175 rfl (lv_at hl 1 rfl) ?_
                  refine lv_iconst (pc := 176) (v := 0) hx hb d_Mo_look_176 (by decide) ?_
                  refine md_st6 (pc := 177) hx hb hK hw hf.1 d_Mo_look_177 (fun H locs hw => ?_)
                  replace hf := hf.2
                  have hw : wf D A s.heap (mdW cI cZ cJ a (gI (gI S 11 (upd (S.1 11) (x1).toNatClampNeg (vp_nar .boolean ((S.1 10) x1.toNatClampNeg)))) 12 (upd (S.1 12) (x1).toNatClampNeg (0 : Int32)))) H locs := hw
                  refine lv_iinc (pc := 178) (k := 1) (v := (x1 + (1 : Int32))) (lv' := [(1, .int (x1 + (1 : Int32))), (0, .ref (a 0))]) hx hb d_Mo_look_178 hl rfl rfl (by decide) rfl (fun ls hl => ?_)
                  refine lv_goto (pc := 181) (tgt := 143) hx hb d_Mo_look_181 (by decide) ?_
                  exact ih143 (x1 + (1 : Int32)) (gI (gI S 11 (upd (S.1 11) (x1).toNatClampNeg (vp_nar .boolean ((S.1 10) x1.toNatClampNeg)))) 12 (upd (S.1 12) (x1).toNatClampNeg (0 : Int32))) _ _ _ (lv_sub hl [1, 0] rfl) hw hf
              exact lp143 q143 (0 : Int32) S _ _ _ (lv_sub hl [1, 0] rfl) hw hf
            replace hf := hf.2 hc
            refine lv_aload_n (pc := 73) hx hb d_Mo_look_73 rfl (lv_at hl 0 rfl) ?_
            refine md_gt_Mo_read (pc := 74) hx hb hK hts hinMo hown hw.1 hl20 d_Mo_look_74 ?_
            refine lv_iload_n (pc := 77) hx hb d_Mo_look_77 rfl (lv_at hl 1 rfl) ?_
            refine lv_aload_n (pc := 78) hx hb d_Mo_look_78 rfl (lv_at hl 0 rfl) ?_
            refine md_gt_Mo_closed (pc := 79) hx hb hK hts hinMo hown hw.1 hl17 d_Mo_look_79 ?_
            refine lv_iload_n (pc := 82) hx hb d_Mo_look_82 rfl (lv_at hl 1 rfl) ?_
            refine md_ld3 (pc := 83) (v := ((S.1 9) x1.toNatClampNeg)) hx hb hK hw.1 hf.1 rfl d_Mo_look_83 ?_
            replace hf := hf.2
            refine lv_if_ne (pc := 84) (tgt := 96) hx hb d_Mo_look_84 (by decide) (fun hc => ?_) (fun hc => ?_)
            · replace hf := hf.2 hc
              exact jn96 x1 x1 S _ _ _ (lv_sub hl [0, 1] rfl) hw hf
            replace hf := hf.1 hc
            refine lv_aload_n (pc := 87) hx hb d_Mo_look_87 rfl (lv_at hl 0 rfl) ?_
            refine lv_iload_n (pc := 88) hx hb d_Mo_look_88 rfl (lv_at hl 1 rfl) ?_
            refine lv_iconst (pc := 89) (v := 0) hx hb d_Mo_look_89 (by decide) ?_
            refine vp_callSi (pc := 90) (W.runV (As := [.int x1, .int (0 : Int32)]) (rest := [.int x1, .ref (a 4)]) ⟨hx, hb, hml, hown, hts⟩ (c_Mo_hasCorners l D cI cZ cJ a _ _ _ _ hf) (cwV 2 hts (tb_wsV tc_Mo_hasCorners tm_Mo_91 ti_Mo_hasCorners te_Mo_hasCorners tz_Mo) rfl rfl rfl (by decide +kernel) ⟨Nat.le_of_ble_eq_true rfl, Nat.le_of_ble_eq_true rfl⟩) (r_preV (q0 := 0) (ci := 9) hK hw.1 rfl rfl) rfl rfl hl.1 rfl (lv_room (Nat.le_of_ble_eq_true rfl)) d_Mo_look_90 ⟨Nat.zero_le _, Nat.zero_le _⟩) (fun r90 hf => ?_)
            refine lv_if_eq (pc := 93) (tgt := 100) hx hb d_Mo_look_93 (by decide) (fun hc => ?_) (fun hc => ?_)
            · replace hf := hf.1 hc
              refine lv_iconst (pc := 100) (v := 0) hx hb d_Mo_look_100 (by decide) ?_
              exact jn101 x1 x1 (0 : Int32) S _ _ _ (lv_sub hl [0, 1] rfl) hw hf
            replace hf := hf.2 hc
            exact jn96 x1 x1 S _ _ _ (lv_sub hl [0, 1] rfl) hw hf
        exact lp67 q67 (0 : Int32) S _ _ _ (lv_sub hl [1, 0] rfl) hw hf
      replace hf := hf.2 hc
      refine lv_aload_n (pc := 8) hx hb d_Mo_look_8 rfl (lv_at hl 0 rfl) ?_
      refine md_gt_Mo_closed (pc := 9) hx hb hK hts hinMo hown hw.1 hl17 d_Mo_look_9 ?_
      refine lv_iload_n (pc := 12) hx hb d_Mo_look_12 rfl (lv_at hl 1 rfl) ?_
      refine lv_aload_n (pc := 13) hx hb d_Mo_look_13 rfl (lv_at hl 0 rfl) ?_
      refine md_gt_Mo_wired (pc := 14) hx hb hK hts hinMo hown hw.1 hl7 d_Mo_look_14 ?_
      refine lv_iload_n (pc := 17) hx hb d_Mo_look_17 rfl (lv_at hl 1 rfl) ?_
      refine md_ld1 (pc := 18) (v := ((S.1 7) x1.toNatClampNeg)) hx hb hK hw.1 hf.1 rfl d_Mo_look_18 ?_
      replace hf := hf.2
      refine lv_aload_n (pc := 19) hx hb d_Mo_look_19 rfl (lv_at hl 0 rfl) ?_
      refine md_gt_Mo_bounces (pc := 20) hx hb hK hts hinMo hown hw.1 hl13 d_Mo_look_20 ?_
      refine lv_iload_n (pc := 23) hx hb d_Mo_look_23 rfl (lv_at hl 1 rfl) ?_
      refine md_ld2 (pc := 24) (v := ((S.1 8) x1.toNatClampNeg)) hx hb hK hw.1 hf.1 rfl d_Mo_look_24 ?_
      replace hf := hf.2
      refine lv_iconst (pc := 25) (v := 1) hx hb d_Mo_look_25 (by decide) ?_
      refine lv_iand (pc := 26) hx hb d_Mo_look_26 ?_
      refine lv_iconst (pc := 27) (v := 1) hx hb d_Mo_look_27 (by decide) ?_
      refine lv_icmp_ne (pc := 28) (tgt := 35) hx hb d_Mo_look_28 (by decide) (fun hc => ?_) (fun hc => ?_)
      · replace hf := hf.2 hc
        refine lv_iconst (pc := 35) (v := 0) hx hb d_Mo_look_35 (by decide) ?_
        exact jn36 x1 x1 ((S.1 7) x1.toNatClampNeg) (0 : Int32) S _ _ _ (lv_sub hl [0, 1] rfl) hw hf
      replace hf := hf.1 hc
      refine lv_iconst (pc := 31) (v := 1) hx hb d_Mo_look_31 (by decide) ?_
      refine lv_goto (pc := 32) (tgt := 36) hx hb d_Mo_look_32 (by decide) ?_
      exact jn36 x1 x1 ((S.1 7) x1.toNatClampNeg) (1 : Int32) S _ _ _ (lv_sub hl [0, 1] rfl) hw hf
  exact lp2 q2 (0 : Int32) S _ _ _ (lv_sub hl [1, 0] rfl) hw hf
def L_Mo_bring_40 (post : GS → Prop) : Nat → Int32 → Int32 → Int32 → GS → Prop
  | 0, _, _, _, _ => False
  | n40 + 1, x1, x2, x3, S => ((x3 ≤ (0 : Int32) → (vp_in (0 : Int32) 32 ∧ (post (gI (gI S 16 (upd (S.1 16) ((0 : Int32)).toNatClampNeg (((2 : Int32) * x1) + x2))) 3 (fun _ => ((S.1 3 0) + (1 : Int32))))))) ∧ (¬ x3 ≤ (0 : Int32) → (vp_in (x3 - (1 : Int32)) 32 ∧ (vp_in x3 32 ∧ (L_Mo_bring_40 post n40 x1 x2 (x3 + (-1 : Int32)) (gI S 16 (upd (S.1 16) (x3).toNatClampNeg ((S.1 16) (x3 - (1 : Int32)).toNatClampNeg))))))))
def wp_Mo_bring (S : GS) (p0 : Int32) (p1 : Int32) (post : GS → Prop) : Prop := (vp_in (S.1 2 0) 80 ∧ (vp_in (S.1 2 0) 80 ∧ (∃ q40, L_Mo_bring_40 post q40 p0 p1 (31 : Int32) (gI (gI (gI S 14 (upd (S.1 14) ((S.1 2 0)).toNatClampNeg (((2 : Int32) * p0) + p1))) 15 (upd (S.1 15) ((S.1 2 0)).toNatClampNeg (S.1 1 0))) 2 (fun _ => ((S.1 2 0) + (1 : Int32)))))))
abbrev rm_Mo_bring : Room := { frames := 0, cells := 0, slots := 0, locals := 0 }
set_option maxHeartbeats 4000000 in
set_option maxRecDepth 100000 in
theorem c_Mo_bring (l : Launch) (D : va_G) (cI cZ cJ : ClassId) (a : Nat → Nat) (sz : Nat) (S : GS) (p0 : Int32) (p1 : Int32) (post : GS → Prop) (hf : wp_Mo_bring S p0 p1 post) : Met l y_Mo_bring ws_Mo_bring rm_Mo_bring (va_Pc [.ref (a 0), .int p0, .int p1] (gPre D (tys cI cZ cJ) (mdW cI cZ cJ a S) sz)) (va_Qv post (gB D (tys cI cZ cJ) (mdW cI cZ cJ a) (va_A (mdW cI cZ cJ a S) sz)) (va_A (mdW cI cZ cJ a S) sz)) 0 0 (va_A (mdW cI cZ cJ a S) sz) := by
  refine gm_w (QF := fun A => va_Qv post (gB D (tys cI cZ cJ) (mdW cI cZ cJ a) A) A) (cc := b_Mo_bring) (maxL := 4) (by decide) rfl (Nat.le_of_ble_eq_true rfl) ?_
  intro p e s m args below meth c A ls hx hb hr hts hown hmn hlk hml hK hA hw hl
  have hl : lv_has ls 4 [(0, .ref (a 0)), (1, .int p0), (2, .int p1)] := hl
  have hinMo : ∀ w ∈ u_ws R_Mo T_Mo 30, w ∈ ws_Mo_bring := fun w h => List.mem_cons_of_mem _ (tl_Mo w h)
  have hl32 := hts _ (List.mem_cons_of_mem _ tf_Mo_32)
  have hl35 := hts _ (List.mem_cons_of_mem _ tf_Mo_35)
  have hl38 := hts _ (List.mem_cons_of_mem _ tf_Mo_38)
  have hl95 := hts _ (List.mem_cons_of_mem _ tf_Mo_95)
  have hl98 := hts _ (List.mem_cons_of_mem _ tf_Mo_98)
  have hl101 := hts _ (List.mem_cons_of_mem _ tf_Mo_101)
  unfold wp_Mo_bring at hf
  refine lv_aload_n (pc := 0) hx hb d_Mo_bring_0 rfl (lv_at hl 0 rfl) ?_
  refine md_gt_Mo_events (pc := 1) hx hb hK hts hinMo hown hw.1 hl32 d_Mo_bring_1 ?_
  refine lv_aload_n (pc := 4) hx hb d_Mo_bring_4 rfl (lv_at hl 0 rfl) ?_
  refine md_gt_Mo_queued (pc := 5) (v := (S.1 2 0)) hx hb hK hts hinMo hown hw.1 hl95 rfl d_Mo_bring_5 ?_
  refine lv_iconst (pc := 8) (v := 2) hx hb d_Mo_bring_8 (by decide) ?_
  refine lv_iload_n (pc := 9) hx hb d_Mo_bring_9 rfl (lv_at hl 1 rfl) ?_
  refine lv_imul (pc := 10) hx hb d_Mo_bring_10 ?_
  refine lv_iload_n (pc := 11) hx hb d_Mo_bring_11 rfl (lv_at hl 2 rfl) ?_
  refine lv_iadd (pc := 12) hx hb d_Mo_bring_12 ?_
  refine md_st8 (pc := 13) hx hb hK hw hf.1 d_Mo_bring_13 (fun H locs hw => ?_)
  replace hf := hf.2
  refine lv_aload_n (pc := 14) hx hb d_Mo_bring_14 rfl (lv_at hl 0 rfl) ?_
  refine md_gt_Mo_scans (pc := 15) hx hb hK hts hinMo hown hw.1 hl35 d_Mo_bring_15 ?_
  refine lv_aload_n (pc := 18) hx hb d_Mo_bring_18 rfl (lv_at hl 0 rfl) ?_
  refine md_gt_Mo_queued (pc := 19) (v := (S.1 2 0)) hx hb hK hts hinMo hown hw.1 hl95 rfl d_Mo_bring_19 ?_
  refine lv_aload_n (pc := 22) hx hb d_Mo_bring_22 rfl (lv_at hl 0 rfl) ?_
  refine md_gt_Mo_now (pc := 23) (v := (S.1 1 0)) hx hb hK hts hinMo hown hw.1 hl98 rfl d_Mo_bring_23 ?_
  refine md_st9 (pc := 26) hx hb hK hw hf.1 d_Mo_bring_26 (fun H locs hw => ?_)
  replace hf := hf.2
  have hw : wf D A s.heap (mdW cI cZ cJ a (gI (gI S 14 (upd (S.1 14) ((S.1 2 0)).toNatClampNeg (((2 : Int32) * p0) + p1))) 15 (upd (S.1 15) ((S.1 2 0)).toNatClampNeg (S.1 1 0)))) H locs := hw
  refine lv_aload_n (pc := 27) hx hb d_Mo_bring_27 rfl (lv_at hl 0 rfl) ?_
  refine lv_dup (pc := 28) hx hb d_Mo_bring_28 rfl ?_
  refine md_gt_Mo_queued (pc := 29) (v := (S.1 2 0)) hx hb hK hts hinMo hown hw.1 hl95 rfl d_Mo_bring_29 ?_
  refine lv_iconst (pc := 32) (v := 1) hx hb d_Mo_bring_32 (by decide) ?_
  refine lv_iadd (pc := 33) hx hb d_Mo_bring_33 ?_
  refine md_pt_Mo_queued (pc := 34) hx hb hK hts hinMo hown hw hl95 d_Mo_bring_34 (fun H locs hw => ?_)
  refine lv_bipush (pc := 37) (v := 31) hx hb d_Mo_bring_37 (by decide) ?_
  refine lv_istore_n (pc := 39) (lv' := [(3, .int (31 : Int32)), (0, .ref (a 0)), (1, .int p0), (2, .int p1)]) hx hb d_Mo_bring_39 rfl hl (by decide) rfl (fun ls hl => ?_)
  obtain ⟨q40, hf⟩ := hf
  have lp40 : ∀ (n40 : Nat) (x1 : Int32) (x2 : Int32) (x3 : Int32) (S : GS) (H : Heap) (locs : List Loc) (ls : Array Slot), lv_has ls 4 [(0, .ref (a 0)), (1, .int x1), (2, .int x2), (3, .int x3)] → wf D A s.heap (mdW cI cZ cJ a S) H locs → L_Mo_bring_40 post n40 x1 x2 x3 S → W p l e rm_Mo_bring s m args below meth c H locs 0 0 (MQ below (va_Qv post (gB D (tys cI cZ cJ) (mdW cI cZ cJ a) A) A) args s 0 0 A) (F0 m 40 ls []) := by
    intro n40
    induction n40 with
    | zero => intro x1 x2 x3 S H locs ls hl hw hf; exact False.elim hf
    | succ n40 ih40 =>
      intro x1 x2 x3 S H locs ls hl hw hf
      unfold L_Mo_bring_40 at hf
      refine lv_iload_n (pc := 40) hx hb d_Mo_bring_40 rfl (lv_at hl 3 rfl) ?_
      refine lv_if_le (pc := 41) (tgt := 64) hx hb d_Mo_bring_41 (by decide) (fun hc => ?_) (fun hc => ?_)
      · replace hf := hf.1 hc
        refine lv_aload_n (pc := 64) hx hb d_Mo_bring_64 rfl (lv_at hl 0 rfl) ?_
        refine md_gt_Mo_latest (pc := 65) hx hb hK hts hinMo hown hw.1 hl38 d_Mo_bring_65 ?_
        refine lv_iconst (pc := 68) (v := 0) hx hb d_Mo_bring_68 (by decide) ?_
        refine lv_iconst (pc := 69) (v := 2) hx hb d_Mo_bring_69 (by decide) ?_
        refine lv_iload_n (pc := 70) hx hb d_Mo_bring_70 rfl (lv_at hl 1 rfl) ?_
        refine lv_imul (pc := 71) hx hb d_Mo_bring_71 ?_
        refine lv_iload_n (pc := 72) hx hb d_Mo_bring_72 rfl (lv_at hl 2 rfl) ?_
        refine lv_iadd (pc := 73) hx hb d_Mo_bring_73 ?_
        refine md_st10 (pc := 74) hx hb hK hw hf.1 d_Mo_bring_74 (fun H locs hw => ?_)
        replace hf := hf.2
        refine lv_aload_n (pc := 75) hx hb d_Mo_bring_75 rfl (lv_at hl 0 rfl) ?_
        refine lv_dup (pc := 76) hx hb d_Mo_bring_76 rfl ?_
        refine md_gt_Mo_told (pc := 77) (v := (S.1 3 0)) hx hb hK hts hinMo hown hw.1 hl101 rfl d_Mo_bring_77 ?_
        refine lv_iconst (pc := 80) (v := 1) hx hb d_Mo_bring_80 (by decide) ?_
        refine lv_iadd (pc := 81) hx hb d_Mo_bring_81 ?_
        refine md_pt_Mo_told (pc := 82) hx hb hK hts hinMo hown hw hl101 d_Mo_bring_82 (fun H locs hw => ?_)
        exact gr_v (pc := 85) hx hb hr hlk hK (gI (gI S 16 (upd (S.1 16) ((0 : Int32)).toNatClampNeg (((2 : Int32) * x1) + x2))) 3 (fun _ => ((S.1 3 0) + (1 : Int32)))) hw hf d_Mo_bring_85
      replace hf := hf.2 hc
      refine lv_aload_n (pc := 44) hx hb d_Mo_bring_44 rfl (lv_at hl 0 rfl) ?_
      refine md_gt_Mo_latest (pc := 45) hx hb hK hts hinMo hown hw.1 hl38 d_Mo_bring_45 ?_
      refine lv_iload_n (pc := 48) hx hb d_Mo_bring_48 rfl (lv_at hl 3 rfl) ?_
      refine lv_aload_n (pc := 49) hx hb d_Mo_bring_49 rfl (lv_at hl 0 rfl) ?_
      refine md_gt_Mo_latest (pc := 50) hx hb hK hts hinMo hown hw.1 hl38 d_Mo_bring_50 ?_
      refine lv_iload_n (pc := 53) hx hb d_Mo_bring_53 rfl (lv_at hl 3 rfl) ?_
      refine lv_iconst (pc := 54) (v := 1) hx hb d_Mo_bring_54 (by decide) ?_
      refine lv_isub (pc := 55) hx hb d_Mo_bring_55 ?_
      refine md_ld10 (pc := 56) (v := ((S.1 16) (x3 - (1 : Int32)).toNatClampNeg)) hx hb hK hw.1 hf.1 rfl d_Mo_bring_56 ?_
      replace hf := hf.2
      refine md_st10 (pc := 57) hx hb hK hw hf.1 d_Mo_bring_57 (fun H locs hw => ?_)
      replace hf := hf.2
      refine lv_iinc (pc := 58) (k := 3) (v := (x3 + (-1 : Int32))) (lv' := [(3, .int (x3 + (-1 : Int32))), (0, .ref (a 0)), (1, .int x1), (2, .int x2)]) hx hb d_Mo_bring_58 hl rfl rfl (by decide) rfl (fun ls hl => ?_)
      refine lv_goto (pc := 61) (tgt := 40) hx hb d_Mo_bring_61 (by decide) ?_
      exact ih40 x1 x2 (x3 + (-1 : Int32)) (gI S 16 (upd (S.1 16) (x3).toNatClampNeg ((S.1 16) (x3 - (1 : Int32)).toNatClampNeg))) _ _ _ (lv_sub hl [1, 2, 3, 0] rfl) hw hf
  exact lp40 q40 p0 p1 (31 : Int32) (gI (gI (gI S 14 (upd (S.1 14) ((S.1 2 0)).toNatClampNeg (((2 : Int32) * p0) + p1))) 15 (upd (S.1 15) ((S.1 2 0)).toNatClampNeg (S.1 1 0))) 2 (fun _ => ((S.1 2 0) + (1 : Int32)))) _ _ _ (lv_sub hl [1, 2, 3, 0] rfl) hw hf
def J_Mo_believe_95 (post : Int32 → GS → Prop) (k4 : Int32 → Int32 → GS → Prop) (x1 : Int32) (x2 : Int32) (x3 : Int32) (x4 : Int32) (y1 : Int32) (y2 : Int32) (S : GS) : Prop := (wp_Mo_bring S y1 y2 (fun S95 => (k4 (x1 + (1 : Int32)) (x2 + (1 : Int32)) S95)))
def J_Mo_believe_77 (post : Int32 → GS → Prop) (k4 : Int32 → Int32 → GS → Prop) (x1 : Int32) (x2 : Int32) (x3 : Int32) (x4 : Int32) (S : GS) : Prop := (vp_in x2 24 ∧ ((x3 = (0 : Int32) → (J_Mo_believe_95 post k4 x1 x2 x3 x4 x2 (0 : Int32) (gI S 13 (upd (S.1 13) (x2).toNatClampNeg (vp_nar .boolean x3))))) ∧ (¬ x3 = (0 : Int32) → (J_Mo_believe_95 post k4 x1 x2 x3 x4 x2 (1 : Int32) (gI S 13 (upd (S.1 13) (x2).toNatClampNeg (vp_nar .boolean x3)))))))
def J_Mo_believe_66 (post : Int32 → GS → Prop) (k4 : Int32 → Int32 → GS → Prop) (x1 : Int32) (x2 : Int32) (x3 : Int32) (y0 : Int32) (S : GS) : Prop := ((x3 = (0 : Int32) → ((y0 = (0 : Int32) → (k4 x1 (x2 + (1 : Int32)) S)) ∧ (¬ y0 = (0 : Int32) → (J_Mo_believe_77 post k4 x1 x2 x3 y0 S)))) ∧ (¬ x3 = (0 : Int32) → (J_Mo_believe_77 post k4 x1 x2 x3 y0 S)))
def J_Mo_believe_65 (post : Int32 → GS → Prop) (k4 : Int32 → Int32 → GS → Prop) (x1 : Int32) (x2 : Int32) (x3 : Int32) (S : GS) : Prop := (J_Mo_believe_66 post k4 x1 x2 x3 (0 : Int32) S)
def J_Mo_believe_42 (post : Int32 → GS → Prop) (k4 : Int32 → Int32 → GS → Prop) (x1 : Int32) (x2 : Int32) (y0 : Int32) (S : GS) : Prop := (vp_in x2 24 ∧ ((((S.1 13) x2.toNatClampNeg) = (0 : Int32) → (J_Mo_believe_65 post k4 x1 x2 y0 S)) ∧ (¬ ((S.1 13) x2.toNatClampNeg) = (0 : Int32) → (vp_in x2 24 ∧ ((((S.1 11) x2.toNatClampNeg) = (0 : Int32) → (J_Mo_believe_66 post k4 x1 x2 y0 (1 : Int32) S)) ∧ (¬ ((S.1 11) x2.toNatClampNeg) = (0 : Int32) → (J_Mo_believe_65 post k4 x1 x2 y0 S)))))))
def J_Mo_believe_41 (post : Int32 → GS → Prop) (k4 : Int32 → Int32 → GS → Prop) (x1 : Int32) (x2 : Int32) (S : GS) : Prop := (J_Mo_believe_42 post k4 x1 x2 (0 : Int32) S)
def L_Mo_believe_4 (post : Int32 → GS → Prop) : Nat → Int32 → Int32 → GS → Prop
  | 0, _, _, _ => False
  | n4 + 1, x1, x2, S => (((24 : Int32) ≤ x2 → (post x1 S)) ∧ (¬ (24 : Int32) ≤ x2 → (vp_in x2 24 ∧ ((((S.1 11) x2.toNatClampNeg) = (0 : Int32) → (J_Mo_believe_41 post (fun z0 z1 z2 => L_Mo_believe_4 post n4 z0 z1 z2) x1 x2 S)) ∧ (¬ ((S.1 11) x2.toNatClampNeg) = (0 : Int32) → (vp_in x2 24 ∧ ((((S.1 13) x2.toNatClampNeg) = (0 : Int32) → (wp_Mo_hasCorners S x2 (1 : Int32) (fun r31 => ((r31 = (0 : Int32) → (J_Mo_believe_42 post (fun z0 z1 z2 => L_Mo_believe_4 post n4 z0 z1 z2) x1 x2 (1 : Int32) S)) ∧ (¬ r31 = (0 : Int32) → (J_Mo_believe_41 post (fun z0 z1 z2 => L_Mo_believe_4 post n4 z0 z1 z2) x1 x2 S)))))) ∧ (¬ ((S.1 13) x2.toNatClampNeg) = (0 : Int32) → (J_Mo_believe_41 post (fun z0 z1 z2 => L_Mo_believe_4 post n4 z0 z1 z2) x1 x2 S)))))))))
def wp_Mo_believe (S : GS) (post : Int32 → GS → Prop) : Prop := (∃ q4, L_Mo_believe_4 post q4 (0 : Int32) (0 : Int32) S)
abbrev rm_Mo_believe : Room := { frames := 1, cells := 0, slots := 0, locals := 31 }
set_option maxHeartbeats 4000000 in
set_option maxRecDepth 100000 in
theorem c_Mo_believe (l : Launch) (D : va_G) (cI cZ cJ : ClassId) (a : Nat → Nat) (sz : Nat) (S : GS) (post : Int32 → GS → Prop) (hf : wp_Mo_believe S post) : Met l y_Mo_believe ws_Mo_believe rm_Mo_believe (va_Pc [.ref (a 0)] (gPre D (tys cI cZ cJ) (mdW cI cZ cJ a S) sz)) (va_Qi post (gB D (tys cI cZ cJ) (mdW cI cZ cJ a) (va_A (mdW cI cZ cJ a S) sz)) (va_A (mdW cI cZ cJ a S) sz)) 0 0 (va_A (mdW cI cZ cJ a S) sz) := by
  refine gm_w (QF := fun A => va_Qi post (gB D (tys cI cZ cJ) (mdW cI cZ cJ a) A) A) (cc := b_Mo_believe) (maxL := 5) (by decide) rfl (Nat.le_of_ble_eq_true rfl) ?_
  intro p e s m args below meth c A ls hx hb hr hts hown hmn hlk hml hK hA hw hl
  have hl : lv_has ls 5 [(0, .ref (a 0))] := hl
  have hinMo : ∀ w ∈ u_ws R_Mo T_Mo 30, w ∈ ws_Mo_believe := fun w h => List.mem_cons_of_mem _ (tl_Mo w h)
  have hl23 := hts _ (List.mem_cons_of_mem _ tf_Mo_23)
  have hl29 := hts _ (List.mem_cons_of_mem _ tf_Mo_29)
  unfold wp_Mo_believe at hf
  refine lv_iconst (pc := 0) (v := 0) hx hb d_Mo_believe_0 (by decide) ?_
  refine lv_istore_n (pc := 1) (lv' := [(1, .int (0 : Int32)), (0, .ref (a 0))]) hx hb d_Mo_believe_1 rfl hl (by decide) rfl (fun ls hl => ?_)
  refine lv_iconst (pc := 2) (v := 0) hx hb d_Mo_believe_2 (by decide) ?_
  refine lv_istore_n (pc := 3) (lv' := [(2, .int (0 : Int32)), (1, .int (0 : Int32)), (0, .ref (a 0))]) hx hb d_Mo_believe_3 rfl hl (by decide) rfl (fun ls hl => ?_)
  obtain ⟨q4, hf⟩ := hf
  have lp4 : ∀ (n4 : Nat) (x1 : Int32) (x2 : Int32) (S : GS) (H : Heap) (locs : List Loc) (ls : Array Slot), lv_has ls 5 [(0, .ref (a 0)), (1, .int x1), (2, .int x2)] → wf D A s.heap (mdW cI cZ cJ a S) H locs → L_Mo_believe_4 post n4 x1 x2 S → W p l e rm_Mo_believe s m args below meth c H locs 0 0 (MQ below (va_Qi post (gB D (tys cI cZ cJ) (mdW cI cZ cJ a) A) A) args s 0 0 A) (F0 m 4 ls []) := by
    intro n4
    induction n4 with
    | zero => intro x1 x2 S H locs ls hl hw hf; exact False.elim hf
    | succ n4 ih4 =>
      have jn95 : ∀ (x1 : Int32) (x2 : Int32) (x3 : Int32) (x4 : Int32) (y1 : Int32) (y2 : Int32) (S : GS) (H : Heap) (locs : List Loc) (ls : Array Slot), lv_has ls 5 [(0, .ref (a 0)), (1, .int x1), (2, .int x2), (3, .int x3), (4, .int x4)] → wf D A s.heap (mdW cI cZ cJ a S) H locs → J_Mo_believe_95 post (fun z0 z1 z2 => L_Mo_believe_4 post n4 z0 z1 z2) x1 x2 x3 x4 y1 y2 S → W p l e rm_Mo_believe s m args below meth c H locs 0 0 (MQ below (va_Qi post (gB D (tys cI cZ cJ) (mdW cI cZ cJ a) A) A) args s 0 0 A) (F0 m 95 ls [.int y2, .int y1, .ref (a 0)]) := by
        intro x1 x2 x3 x4 y1 y2 S H locs ls hl hw hf
        unfold J_Mo_believe_95 at hf
        refine gc_v (pc := 95) (Wf := mdW cI cZ cJ a) hw hA (va_runV (As := [.int y1, .int y2]) (rest := []) ⟨hx, hb, hml, hown, hts⟩ (c_Mo_bring l D cI cZ cJ a _ _ _ _ _ hf) (cwV 2 hts (tb_wsV tc_Mo_bring tm_Mo_104 ti_Mo_bring te_Mo_bring tz_Mo) rfl rfl rfl (by decide +kernel) ⟨Nat.le_of_ble_eq_true rfl, Nat.le_of_ble_eq_true rfl⟩) (g_preV (q0 := 0) (ci := 9) hK hw rfl rfl) rfl rfl hl.1 rfl (lv_room (Nat.le_of_ble_eq_true rfl)) d_Mo_believe_95 ⟨Nat.zero_le _, Nat.zero_le _⟩) (fun S95 H locs hw hf => ?_)
        refine lv_iinc (pc := 98) (k := 1) (v := (x1 + (1 : Int32))) (lv' := [(1, .int (x1 + (1 : Int32))), (0, .ref (a 0)), (2, .int x2), (3, .int x3), (4, .int x4)]) hx hb d_Mo_believe_98 hl rfl rfl (by decide) rfl (fun ls hl => ?_)
        refine lv_iinc (pc := 101) (k := 2) (v := (x2 + (1 : Int32))) (lv' := [(2, .int (x2 + (1 : Int32))), (1, .int (x1 + (1 : Int32))), (0, .ref (a 0)), (3, .int x3), (4, .int x4)]) hx hb d_Mo_believe_101 hl rfl rfl (by decide) rfl (fun ls hl => ?_)
        refine lv_goto (pc := 104) (tgt := 4) hx hb d_Mo_believe_104 (by decide) ?_
        exact ih4 (x1 + (1 : Int32)) (x2 + (1 : Int32)) S95 _ _ _ (lv_sub hl [2, 1, 0] rfl) hw hf
      have jn77 : ∀ (x1 : Int32) (x2 : Int32) (x3 : Int32) (x4 : Int32) (S : GS) (H : Heap) (locs : List Loc) (ls : Array Slot), lv_has ls 5 [(0, .ref (a 0)), (1, .int x1), (2, .int x2), (3, .int x3), (4, .int x4)] → wf D A s.heap (mdW cI cZ cJ a S) H locs → J_Mo_believe_77 post (fun z0 z1 z2 => L_Mo_believe_4 post n4 z0 z1 z2) x1 x2 x3 x4 S → W p l e rm_Mo_believe s m args below meth c H locs 0 0 (MQ below (va_Qi post (gB D (tys cI cZ cJ) (mdW cI cZ cJ a) A) A) args s 0 0 A) (F0 m 77 ls []) := by
        intro x1 x2 x3 x4 S H locs ls hl hw hf
        unfold J_Mo_believe_77 at hf
        refine lv_aload_n (pc := 77) hx hb d_Mo_believe_77 rfl (lv_at hl 0 rfl) ?_
        refine md_gt_Mo_believed (pc := 78) hx hb hK hts hinMo hown hw.1 hl29 d_Mo_believe_78 ?_
        refine lv_iload_n (pc := 81) hx hb d_Mo_believe_81 rfl (lv_at hl 2 rfl) ?_
        refine lv_iload_n (pc := 82) hx hb d_Mo_believe_82 rfl (lv_at hl 3 rfl) ?_
        refine md_st7 (pc := 83) hx hb hK hw hf.1 d_Mo_believe_83 (fun H locs hw => ?_)
        replace hf := hf.2
        refine lv_aload_n (pc := 84) hx hb d_Mo_believe_84 rfl (lv_at hl 0 rfl) ?_
        refine lv_iload_n (pc := 85) hx hb d_Mo_believe_85 rfl (lv_at hl 2 rfl) ?_
        refine lv_iload_n (pc := 86) hx hb d_Mo_believe_86 rfl (lv_at hl 3 rfl) ?_
        refine lv_if_eq (pc := 87) (tgt := 94) hx hb d_Mo_believe_87 (by decide) (fun hc => ?_) (fun hc => ?_)
        · replace hf := hf.1 hc
          refine lv_iconst (pc := 94) (v := 0) hx hb d_Mo_believe_94 (by decide) ?_
          exact jn95 x1 x2 x3 x4 x2 (0 : Int32) (gI S 13 (upd (S.1 13) (x2).toNatClampNeg (vp_nar .boolean x3))) _ _ _ (lv_sub hl [0, 1, 2, 3, 4] rfl) hw hf
        replace hf := hf.2 hc
        refine lv_iconst (pc := 90) (v := 1) hx hb d_Mo_believe_90 (by decide) ?_
        refine lv_goto (pc := 91) (tgt := 95) hx hb d_Mo_believe_91 (by decide) ?_
        exact jn95 x1 x2 x3 x4 x2 (1 : Int32) (gI S 13 (upd (S.1 13) (x2).toNatClampNeg (vp_nar .boolean x3))) _ _ _ (lv_sub hl [0, 1, 2, 3, 4] rfl) hw hf
      have jn66 : ∀ (x1 : Int32) (x2 : Int32) (x3 : Int32) (y0 : Int32) (S : GS) (H : Heap) (locs : List Loc) (ls : Array Slot), lv_has ls 5 [(0, .ref (a 0)), (1, .int x1), (2, .int x2), (3, .int x3)] → wf D A s.heap (mdW cI cZ cJ a S) H locs → J_Mo_believe_66 post (fun z0 z1 z2 => L_Mo_believe_4 post n4 z0 z1 z2) x1 x2 x3 y0 S → W p l e rm_Mo_believe s m args below meth c H locs 0 0 (MQ below (va_Qi post (gB D (tys cI cZ cJ) (mdW cI cZ cJ a) A) A) args s 0 0 A) (F0 m 66 ls [.int y0]) := by
        intro x1 x2 x3 y0 S H locs ls hl hw hf
        unfold J_Mo_believe_66 at hf
        refine lv_istore (pc := 66) (lv' := [(4, .int y0), (0, .ref (a 0)), (1, .int x1), (2, .int x2), (3, .int x3)]) hx hb d_Mo_believe_66 hl (by decide) rfl (fun ls hl => ?_)
        refine lv_iload_n (pc := 68) hx hb d_Mo_believe_68 rfl (lv_at hl 4 rfl) ?_
        refine lv_if_ne (pc := 69) (tgt := 77) hx hb d_Mo_believe_69 (by decide) (fun hc => ?_) (fun hc => ?_)
        · replace hf := hf.2 hc
          exact jn77 x1 x2 x3 y0 S _ _ _ (lv_sub hl [1, 2, 3, 4, 0] rfl) hw hf
        replace hf := hf.1 hc
        refine lv_iload (pc := 72) hx hb d_Mo_believe_72 (lv_at hl 0 rfl) ?_
        refine lv_if_eq (pc := 74) (tgt := 101) hx hb d_Mo_believe_74 (by decide) (fun hc => ?_) (fun hc => ?_)
        · replace hf := hf.1 hc
          refine lv_iinc (pc := 101) (k := 3) (v := (x2 + (1 : Int32))) (lv' := [(2, .int (x2 + (1 : Int32))), (4, .int y0), (0, .ref (a 0)), (1, .int x1), (3, .int x3)]) hx hb d_Mo_believe_101 hl rfl rfl (by decide) rfl (fun ls hl => ?_)
          refine lv_goto (pc := 104) (tgt := 4) hx hb d_Mo_believe_104 (by decide) ?_
          exact ih4 x1 (x2 + (1 : Int32)) S _ _ _ (lv_sub hl [2, 3, 0] rfl) hw hf
        replace hf := hf.2 hc
        exact jn77 x1 x2 x3 y0 S _ _ _ (lv_sub hl [1, 2, 3, 4, 0] rfl) hw hf
      have jn65 : ∀ (x1 : Int32) (x2 : Int32) (x3 : Int32) (S : GS) (H : Heap) (locs : List Loc) (ls : Array Slot), lv_has ls 5 [(0, .ref (a 0)), (1, .int x1), (2, .int x2), (3, .int x3)] → wf D A s.heap (mdW cI cZ cJ a S) H locs → J_Mo_believe_65 post (fun z0 z1 z2 => L_Mo_believe_4 post n4 z0 z1 z2) x1 x2 x3 S → W p l e rm_Mo_believe s m args below meth c H locs 0 0 (MQ below (va_Qi post (gB D (tys cI cZ cJ) (mdW cI cZ cJ a) A) A) args s 0 0 A) (F0 m 65 ls []) := by
        intro x1 x2 x3 S H locs ls hl hw hf
        unfold J_Mo_believe_65 at hf
        refine lv_iconst (pc := 65) (v := 0) hx hb d_Mo_believe_65 (by decide) ?_
        exact jn66 x1 x2 x3 (0 : Int32) S _ _ _ (lv_sub hl [0, 1, 2, 3] rfl) hw hf
      have jn42 : ∀ (x1 : Int32) (x2 : Int32) (y0 : Int32) (S : GS) (H : Heap) (locs : List Loc) (ls : Array Slot), lv_has ls 5 [(0, .ref (a 0)), (1, .int x1), (2, .int x2)] → wf D A s.heap (mdW cI cZ cJ a S) H locs → J_Mo_believe_42 post (fun z0 z1 z2 => L_Mo_believe_4 post n4 z0 z1 z2) x1 x2 y0 S → W p l e rm_Mo_believe s m args below meth c H locs 0 0 (MQ below (va_Qi post (gB D (tys cI cZ cJ) (mdW cI cZ cJ a) A) A) args s 0 0 A) (F0 m 42 ls [.int y0]) := by
        intro x1 x2 y0 S H locs ls hl hw hf
        unfold J_Mo_believe_42 at hf
        refine lv_istore_n (pc := 42) (lv' := [(3, .int y0), (0, .ref (a 0)), (1, .int x1), (2, .int x2)]) hx hb d_Mo_believe_42 rfl hl (by decide) rfl (fun ls hl => ?_)
        refine lv_aload_n (pc := 43) hx hb d_Mo_believe_43 rfl (lv_at hl 1 rfl) ?_
        refine md_gt_Mo_believed (pc := 44) hx hb hK hts hinMo hown hw.1 hl29 d_Mo_believe_44 ?_
        refine lv_iload_n (pc := 47) hx hb d_Mo_believe_47 rfl (lv_at hl 3 rfl) ?_
        refine md_ld7 (pc := 48) (v := ((S.1 13) x2.toNatClampNeg)) hx hb hK hw.1 hf.1 rfl d_Mo_believe_48 ?_
        replace hf := hf.2
        refine lv_if_eq (pc := 49) (tgt := 65) hx hb d_Mo_believe_49 (by decide) (fun hc => ?_) (fun hc => ?_)
        · replace hf := hf.1 hc
          exact jn65 x1 x2 y0 S _ _ _ (lv_sub hl [1, 2, 3, 0] rfl) hw hf
        replace hf := hf.2 hc
        refine lv_aload_n (pc := 52) hx hb d_Mo_believe_52 rfl (lv_at hl 1 rfl) ?_
        refine md_gt_Mo_seen (pc := 53) hx hb hK hts hinMo hown hw.1 hl23 d_Mo_believe_53 ?_
        refine lv_iload_n (pc := 56) hx hb d_Mo_believe_56 rfl (lv_at hl 3 rfl) ?_
        refine md_ld5 (pc := 57) (v := ((S.1 11) x2.toNatClampNeg)) hx hb hK hw.1 hf.1 rfl d_Mo_believe_57 ?_
        replace hf := hf.2
        refine lv_if_ne (pc := 58) (tgt := 65) hx hb d_Mo_believe_58 (by decide) (fun hc => ?_) (fun hc => ?_)
        · replace hf := hf.2 hc
          exact jn65 x1 x2 y0 S _ _ _ (lv_sub hl [1, 2, 3, 0] rfl) hw hf
        replace hf := hf.1 hc
        refine lv_iconst (pc := 61) (v := 1) hx hb d_Mo_believe_61 (by decide) ?_
        refine lv_goto (pc := 62) (tgt := 66) hx hb d_Mo_believe_62 (by decide) ?_
        exact jn66 x1 x2 y0 (1 : Int32) S _ _ _ (lv_sub hl [1, 2, 3, 0] rfl) hw hf
      have jn41 : ∀ (x1 : Int32) (x2 : Int32) (S : GS) (H : Heap) (locs : List Loc) (ls : Array Slot), lv_has ls 5 [(0, .ref (a 0)), (1, .int x1), (2, .int x2)] → wf D A s.heap (mdW cI cZ cJ a S) H locs → J_Mo_believe_41 post (fun z0 z1 z2 => L_Mo_believe_4 post n4 z0 z1 z2) x1 x2 S → W p l e rm_Mo_believe s m args below meth c H locs 0 0 (MQ below (va_Qi post (gB D (tys cI cZ cJ) (mdW cI cZ cJ a) A) A) args s 0 0 A) (F0 m 41 ls []) := by
        intro x1 x2 S H locs ls hl hw hf
        unfold J_Mo_believe_41 at hf
        refine lv_iconst (pc := 41) (v := 0) hx hb d_Mo_believe_41 (by decide) ?_
        exact jn42 x1 x2 (0 : Int32) S _ _ _ (lv_sub hl [0, 1, 2] rfl) hw hf
      intro x1 x2 S H locs ls hl hw hf
      unfold L_Mo_believe_4 at hf
      refine lv_iload_n (pc := 4) hx hb d_Mo_believe_4 rfl (lv_at hl 2 rfl) ?_
      refine lv_bipush (pc := 5) (v := 24) hx hb d_Mo_believe_5 (by decide) ?_
      refine lv_icmp_ge (pc := 7) (tgt := 107) hx hb d_Mo_believe_7 (by decide) (fun hc => ?_) (fun hc => ?_)
      · replace hf := hf.1 hc
        refine lv_iload_n (pc := 107) hx hb d_Mo_believe_107 rfl (lv_at hl 1 rfl) ?_
        exact gr_i (pc := 108) hx hb hr hlk hK S hw hf d_Mo_believe_108
      replace hf := hf.2 hc
      refine lv_aload_n (pc := 10) hx hb d_Mo_believe_10 rfl (lv_at hl 0 rfl) ?_
      refine md_gt_Mo_seen (pc := 11) hx hb hK hts hinMo hown hw.1 hl23 d_Mo_believe_11 ?_
      refine lv_iload_n (pc := 14) hx hb d_Mo_believe_14 rfl (lv_at hl 2 rfl) ?_
      refine md_ld5 (pc := 15) (v := ((S.1 11) x2.toNatClampNeg)) hx hb hK hw.1 hf.1 rfl d_Mo_believe_15 ?_
      replace hf := hf.2
      refine lv_if_eq (pc := 16) (tgt := 41) hx hb d_Mo_believe_16 (by decide) (fun hc => ?_) (fun hc => ?_)
      · replace hf := hf.1 hc
        exact jn41 x1 x2 S _ _ _ (lv_sub hl [0, 1, 2] rfl) hw hf
      replace hf := hf.2 hc
      refine lv_aload_n (pc := 19) hx hb d_Mo_believe_19 rfl (lv_at hl 0 rfl) ?_
      refine md_gt_Mo_believed (pc := 20) hx hb hK hts hinMo hown hw.1 hl29 d_Mo_believe_20 ?_
      refine lv_iload_n (pc := 23) hx hb d_Mo_believe_23 rfl (lv_at hl 2 rfl) ?_
      refine md_ld7 (pc := 24) (v := ((S.1 13) x2.toNatClampNeg)) hx hb hK hw.1 hf.1 rfl d_Mo_believe_24 ?_
      replace hf := hf.2
      refine lv_if_ne (pc := 25) (tgt := 41) hx hb d_Mo_believe_25 (by decide) (fun hc => ?_) (fun hc => ?_)
      · replace hf := hf.2 hc
        exact jn41 x1 x2 S _ _ _ (lv_sub hl [0, 1, 2] rfl) hw hf
      replace hf := hf.1 hc
      refine lv_aload_n (pc := 28) hx hb d_Mo_believe_28 rfl (lv_at hl 0 rfl) ?_
      refine lv_iload_n (pc := 29) hx hb d_Mo_believe_29 rfl (lv_at hl 2 rfl) ?_
      refine lv_iconst (pc := 30) (v := 1) hx hb d_Mo_believe_30 (by decide) ?_
      refine vp_callSi (pc := 31) (W.runV (As := [.int x2, .int (1 : Int32)]) (rest := []) ⟨hx, hb, hml, hown, hts⟩ (c_Mo_hasCorners l D cI cZ cJ a _ _ _ _ hf) (cwV 2 hts (tb_wsV tc_Mo_hasCorners tm_Mo_91 ti_Mo_hasCorners te_Mo_hasCorners tz_Mo) rfl rfl rfl (by decide +kernel) ⟨Nat.le_of_ble_eq_true rfl, Nat.le_of_ble_eq_true rfl⟩) (r_preV (q0 := 0) (ci := 9) hK hw.1 rfl rfl) rfl rfl hl.1 rfl (lv_room (Nat.le_of_ble_eq_true rfl)) d_Mo_believe_31 ⟨Nat.zero_le _, Nat.zero_le _⟩) (fun r31 hf => ?_)
      refine lv_if_ne (pc := 34) (tgt := 41) hx hb d_Mo_believe_34 (by decide) (fun hc => ?_) (fun hc => ?_)
      · replace hf := hf.2 hc
        exact jn41 x1 x2 S _ _ _ (lv_sub hl [0, 1, 2] rfl) hw hf
      replace hf := hf.1 hc
      refine lv_iconst (pc := 37) (v := 1) hx hb d_Mo_believe_37 (by decide) ?_
      refine lv_goto (pc := 38) (tgt := 42) hx hb d_Mo_believe_38 (by decide) ?_
      exact jn42 x1 x2 (1 : Int32) S _ _ _ (lv_sub hl [0, 1, 2] rfl) hw hf
  exact lp4 q4 (0 : Int32) (0 : Int32) S _ _ _ (lv_sub hl [2, 1, 0] rfl) hw hf
def J_Mo_isOn_60 (S : GS) (post : Int32 → Prop) (k30 : Int32 → Int32 → Int32 → Prop) (x1 : Int32) (x2 : Int32) (x3 : Int32) : Prop := (k30 x1 (1 : Int32) (x3 + (1 : Int32)))
def L_Mo_isOn_30 (S : GS) (post : Int32 → Prop) : Nat → Int32 → Int32 → Int32 → Prop
  | 0, _, _, _ => False
  | n30 + 1, x1, x2, x3 => (((24 : Int32) ≤ x3 → (narrow .boolean (.int x2) = .int x2 ∧ (post x2))) ∧ (¬ (24 : Int32) ≤ x3 → ((x2 = (0 : Int32) → (vp_in x3 24 ∧ ((((S.1 25) x3.toNatClampNeg) = (2 : Int32) → (vp_in x3 24 ∧ ((((S.1 26) x3.toNatClampNeg) = x1 → (J_Mo_isOn_60 S post (fun z0 z1 z2 => L_Mo_isOn_30 S post n30 z0 z1 z2) x1 x2 x3)) ∧ (¬ ((S.1 26) x3.toNatClampNeg) = x1 → (L_Mo_isOn_30 S post n30 x1 (0 : Int32) (x3 + (1 : Int32))))))) ∧ (¬ ((S.1 25) x3.toNatClampNeg) = (2 : Int32) → (L_Mo_isOn_30 S post n30 x1 (0 : Int32) (x3 + (1 : Int32))))))) ∧ (¬ x2 = (0 : Int32) → (J_Mo_isOn_60 S post (fun z0 z1 z2 => L_Mo_isOn_30 S post n30 z0 z1 z2) x1 x2 x3)))))
def J_Mo_isOn_22 (S : GS) (post : Int32 → Prop) (x1 : Int32) : Prop := (∃ q30, L_Mo_isOn_30 S post q30 x1 (1 : Int32) (0 : Int32))
def wp_Mo_isOn (S : GS) (p0 : Int32) (post : Int32 → Prop) : Prop := ((p0 = (0 : Int32) → (J_Mo_isOn_22 S post p0)) ∧ (¬ p0 = (0 : Int32) → (vp_in p0 4 ∧ ((((S.1 23) p0.toNatClampNeg) = (0 : Int32) → (vp_in p0 4 ∧ ((((S.1 24) p0.toNatClampNeg) = (0 : Int32) → (∃ q30, L_Mo_isOn_30 S post q30 p0 (0 : Int32) (0 : Int32))) ∧ (¬ ((S.1 24) p0.toNatClampNeg) = (0 : Int32) → (J_Mo_isOn_22 S post p0))))) ∧ (¬ ((S.1 23) p0.toNatClampNeg) = (0 : Int32) → (J_Mo_isOn_22 S post p0))))))
abbrev rm_Mo_isOn : Room := { frames := 0, cells := 0, slots := 0, locals := 0 }
set_option maxHeartbeats 4000000 in
set_option maxRecDepth 100000 in
theorem c_Mo_isOn (l : Launch) (D : va_G) (cI cZ cJ : ClassId) (a : Nat → Nat) (S : GS) (p0 : Int32) (post : Int32 → Prop) (hf : wp_Mo_isOn S p0 post) : Met l y_Mo_isOn ws_Mo_isOn rm_Mo_isOn (va_Pc [.ref (a 0), .int p0] (rPre D (tys cI cZ cJ) (mdW cI cZ cJ a S))) (vp_Si post) 0 0 (fun _ => False) := by
  refine gm_r (cc := b_Mo_isOn) (maxL := 4) (by decide) rfl (Nat.le_of_ble_eq_true rfl) ?_
  intro p e s m args below meth c ls hx hb hr hts hown hlk hml hK hP hl
  have hl : lv_has ls 4 [(0, .ref (a 0)), (1, .int p0)] := hl
  have hinMo : ∀ w ∈ u_ws R_Mo T_Mo 30, w ∈ ws_Mo_isOn := fun w h => List.mem_cons_of_mem _ (tl_Mo w h)
  have hl59 := hts _ (List.mem_cons_of_mem _ tf_Mo_59)
  have hl62 := hts _ (List.mem_cons_of_mem _ tf_Mo_62)
  have hl65 := hts _ (List.mem_cons_of_mem _ tf_Mo_65)
  have hl68 := hts _ (List.mem_cons_of_mem _ tf_Mo_68)
  have jn22 : ∀ (x1 : Int32) (ls : Array Slot), lv_has ls 4 [(0, .ref (a 0)), (1, .int x1)] → J_Mo_isOn_22 S post x1 → W p l e rm_Mo_isOn s m args below meth c s.heap [] 0 0 (MQ below (vp_Si post) args s 0 0 (fun _ => False)) (F0 m 22 ls []) := by
    intro x1 ls hl hf
    unfold J_Mo_isOn_22 at hf
    refine lv_iconst (pc := 22) (v := 1) hx hb d_Mo_isOn_22 (by decide) ?_
    refine lv_goto (pc := 23) (tgt := 27) hx hb d_Mo_isOn_23 (by decide) ?_
    refine lv_istore_n (pc := 27) (lv' := [(2, .int (1 : Int32)), (0, .ref (a 0)), (1, .int x1)]) hx hb d_Mo_isOn_27 rfl hl (by decide) rfl (fun ls hl => ?_)
    refine lv_iconst (pc := 28) (v := 0) hx hb d_Mo_isOn_28 (by decide) ?_
    refine lv_istore_n (pc := 29) (lv' := [(3, .int (0 : Int32)), (2, .int (1 : Int32)), (0, .ref (a 0)), (1, .int x1)]) hx hb d_Mo_isOn_29 rfl hl (by decide) rfl (fun ls hl => ?_)
    obtain ⟨q30, hf⟩ := hf
    have lp30 : ∀ (n30 : Nat) (x1 : Int32) (x2 : Int32) (x3 : Int32) (ls : Array Slot), lv_has ls 4 [(0, .ref (a 0)), (1, .int x1), (2, .int x2), (3, .int x3)] → L_Mo_isOn_30 S post n30 x1 x2 x3 → W p l e rm_Mo_isOn s m args below meth c s.heap [] 0 0 (MQ below (vp_Si post) args s 0 0 (fun _ => False)) (F0 m 30 ls []) := by
      intro n30
      induction n30 with
      | zero => intro x1 x2 x3 ls hl hf; exact False.elim hf
      | succ n30 ih30 =>
        have jn60 : ∀ (x1 : Int32) (x2 : Int32) (x3 : Int32) (ls : Array Slot), lv_has ls 4 [(0, .ref (a 0)), (1, .int x1), (2, .int x2), (3, .int x3)] → J_Mo_isOn_60 S post (fun z0 z1 z2 => L_Mo_isOn_30 S post n30 z0 z1 z2) x1 x2 x3 → W p l e rm_Mo_isOn s m args below meth c s.heap [] 0 0 (MQ below (vp_Si post) args s 0 0 (fun _ => False)) (F0 m 60 ls []) := by
          intro x1 x2 x3 ls hl hf
          unfold J_Mo_isOn_60 at hf
          refine lv_iconst (pc := 60) (v := 1) hx hb d_Mo_isOn_60 (by decide) ?_
          refine lv_goto (pc := 61) (tgt := 65) hx hb d_Mo_isOn_61 (by decide) ?_
          refine lv_istore_n (pc := 65) (lv' := [(2, .int (1 : Int32)), (0, .ref (a 0)), (1, .int x1), (3, .int x3)]) hx hb d_Mo_isOn_65 rfl hl (by decide) rfl (fun ls hl => ?_)
          refine lv_iinc (pc := 66) (k := 3) (v := (x3 + (1 : Int32))) (lv' := [(3, .int (x3 + (1 : Int32))), (2, .int (1 : Int32)), (0, .ref (a 0)), (1, .int x1)]) hx hb d_Mo_isOn_66 hl rfl rfl (by decide) rfl (fun ls hl => ?_)
          refine lv_goto (pc := 69) (tgt := 30) hx hb d_Mo_isOn_69 (by decide) ?_
          exact ih30 x1 (1 : Int32) (x3 + (1 : Int32)) _ (lv_sub hl [2, 3, 1, 0] rfl) hf
        intro x1 x2 x3 ls hl hf
        unfold L_Mo_isOn_30 at hf
        refine lv_iload_n (pc := 30) hx hb d_Mo_isOn_30 rfl (lv_at hl 3 rfl) ?_
        refine lv_bipush (pc := 31) (v := 24) hx hb d_Mo_isOn_31 (by decide) ?_
        refine lv_icmp_ge (pc := 33) (tgt := 72) hx hb d_Mo_isOn_33 (by decide) (fun hc => ?_) (fun hc => ?_)
        · replace hf := hf.1 hc
          refine lv_iload_n (pc := 72) hx hb d_Mo_isOn_72 rfl (lv_at hl 2 rfl) ?_
          exact rr_z (pc := 73) hx hb hr hlk hf.1 hf.2 d_Mo_isOn_73
        replace hf := hf.2 hc
        refine lv_iload_n (pc := 36) hx hb d_Mo_isOn_36 rfl (lv_at hl 2 rfl) ?_
        refine lv_if_ne (pc := 37) (tgt := 60) hx hb d_Mo_isOn_37 (by decide) (fun hc => ?_) (fun hc => ?_)
        · replace hf := hf.2 hc
          exact jn60 x1 x2 x3 _ (lv_sub hl [0, 1, 2, 3] rfl) hf
        replace hf := hf.1 hc
        refine lv_aload_n (pc := 40) hx hb d_Mo_isOn_40 rfl (lv_at hl 0 rfl) ?_
        refine md_gt_Mo_began (pc := 41) hx hb hK hts hinMo hown hP hl65 d_Mo_isOn_41 ?_
        refine lv_iload_n (pc := 44) hx hb d_Mo_isOn_44 rfl (lv_at hl 3 rfl) ?_
        refine md_ld19 (pc := 45) (v := ((S.1 25) x3.toNatClampNeg)) hx hb hK hP hf.1 rfl d_Mo_isOn_45 ?_
        replace hf := hf.2
        refine lv_iconst (pc := 46) (v := 2) hx hb d_Mo_isOn_46 (by decide) ?_
        refine lv_icmp_ne (pc := 47) (tgt := 64) hx hb d_Mo_isOn_47 (by decide) (fun hc => ?_) (fun hc => ?_)
        · replace hf := hf.2 hc
          refine lv_iconst (pc := 64) (v := 0) hx hb d_Mo_isOn_64 (by decide) ?_
          refine lv_istore_n (pc := 65) (lv' := [(2, .int (0 : Int32)), (0, .ref (a 0)), (1, .int x1), (3, .int x3)]) hx hb d_Mo_isOn_65 rfl hl (by decide) rfl (fun ls hl => ?_)
          refine lv_iinc (pc := 66) (k := 3) (v := (x3 + (1 : Int32))) (lv' := [(3, .int (x3 + (1 : Int32))), (2, .int (0 : Int32)), (0, .ref (a 0)), (1, .int x1)]) hx hb d_Mo_isOn_66 hl rfl rfl (by decide) rfl (fun ls hl => ?_)
          refine lv_goto (pc := 69) (tgt := 30) hx hb d_Mo_isOn_69 (by decide) ?_
          exact ih30 x1 (0 : Int32) (x3 + (1 : Int32)) _ (lv_sub hl [2, 3, 1, 0] rfl) hf
        replace hf := hf.1 hc
        refine lv_aload_n (pc := 50) hx hb d_Mo_isOn_50 rfl (lv_at hl 0 rfl) ?_
        refine md_gt_Mo_beganWhat (pc := 51) hx hb hK hts hinMo hown hP hl68 d_Mo_isOn_51 ?_
        refine lv_iload_n (pc := 54) hx hb d_Mo_isOn_54 rfl (lv_at hl 3 rfl) ?_
        refine md_ld20 (pc := 55) (v := ((S.1 26) x3.toNatClampNeg)) hx hb hK hP hf.1 rfl d_Mo_isOn_55 ?_
        replace hf := hf.2
        refine lv_iload_n (pc := 56) hx hb d_Mo_isOn_56 rfl (lv_at hl 1 rfl) ?_
        refine lv_icmp_ne (pc := 57) (tgt := 64) hx hb d_Mo_isOn_57 (by decide) (fun hc => ?_) (fun hc => ?_)
        · replace hf := hf.2 hc
          refine lv_iconst (pc := 64) (v := 0) hx hb d_Mo_isOn_64 (by decide) ?_
          refine lv_istore_n (pc := 65) (lv' := [(2, .int (0 : Int32)), (0, .ref (a 0)), (1, .int x1), (3, .int x3)]) hx hb d_Mo_isOn_65 rfl hl (by decide) rfl (fun ls hl => ?_)
          refine lv_iinc (pc := 66) (k := 3) (v := (x3 + (1 : Int32))) (lv' := [(3, .int (x3 + (1 : Int32))), (2, .int (0 : Int32)), (0, .ref (a 0)), (1, .int x1)]) hx hb d_Mo_isOn_66 hl rfl rfl (by decide) rfl (fun ls hl => ?_)
          refine lv_goto (pc := 69) (tgt := 30) hx hb d_Mo_isOn_69 (by decide) ?_
          exact ih30 x1 (0 : Int32) (x3 + (1 : Int32)) _ (lv_sub hl [2, 3, 1, 0] rfl) hf
        replace hf := hf.1 hc
        exact jn60 x1 x2 x3 _ (lv_sub hl [0, 1, 2, 3] rfl) hf
    exact lp30 q30 x1 (1 : Int32) (0 : Int32) _ (lv_sub hl [2, 3, 1, 0] rfl) hf
  unfold wp_Mo_isOn at hf
  refine lv_iload_n (pc := 0) hx hb d_Mo_isOn_0 rfl (lv_at hl 1 rfl) ?_
  refine lv_if_eq (pc := 1) (tgt := 22) hx hb d_Mo_isOn_1 (by decide) (fun hc => ?_) (fun hc => ?_)
  · replace hf := hf.1 hc
    exact jn22 p0 _ (lv_sub hl [0, 1] rfl) hf
  replace hf := hf.2 hc
  refine lv_aload_n (pc := 4) hx hb d_Mo_isOn_4 rfl (lv_at hl 0 rfl) ?_
  refine md_gt_Mo_locked (pc := 5) hx hb hK hts hinMo hown hP hl59 d_Mo_isOn_5 ?_
  refine lv_iload_n (pc := 8) hx hb d_Mo_isOn_8 rfl (lv_at hl 1 rfl) ?_
  refine md_ld17 (pc := 9) (v := ((S.1 23) p0.toNatClampNeg)) hx hb hK hP hf.1 rfl d_Mo_isOn_9 ?_
  replace hf := hf.2
  refine lv_if_ne (pc := 10) (tgt := 22) hx hb d_Mo_isOn_10 (by decide) (fun hc => ?_) (fun hc => ?_)
  · replace hf := hf.2 hc
    exact jn22 p0 _ (lv_sub hl [0, 1] rfl) hf
  replace hf := hf.1 hc
  refine lv_aload_n (pc := 13) hx hb d_Mo_isOn_13 rfl (lv_at hl 0 rfl) ?_
  refine md_gt_Mo_armed (pc := 14) hx hb hK hts hinMo hown hP hl62 d_Mo_isOn_14 ?_
  refine lv_iload_n (pc := 17) hx hb d_Mo_isOn_17 rfl (lv_at hl 1 rfl) ?_
  refine md_ld18 (pc := 18) (v := ((S.1 24) p0.toNatClampNeg)) hx hb hK hP hf.1 rfl d_Mo_isOn_18 ?_
  replace hf := hf.2
  refine lv_if_eq (pc := 19) (tgt := 26) hx hb d_Mo_isOn_19 (by decide) (fun hc => ?_) (fun hc => ?_)
  · replace hf := hf.1 hc
    refine lv_iconst (pc := 26) (v := 0) hx hb d_Mo_isOn_26 (by decide) ?_
    refine lv_istore_n (pc := 27) (lv' := [(2, .int (0 : Int32)), (0, .ref (a 0)), (1, .int p0)]) hx hb d_Mo_isOn_27 rfl hl (by decide) rfl (fun ls hl => ?_)
    refine lv_iconst (pc := 28) (v := 0) hx hb d_Mo_isOn_28 (by decide) ?_
    refine lv_istore_n (pc := 29) (lv' := [(3, .int (0 : Int32)), (2, .int (0 : Int32)), (0, .ref (a 0)), (1, .int p0)]) hx hb d_Mo_isOn_29 rfl hl (by decide) rfl (fun ls hl => ?_)
    obtain ⟨q30, hf⟩ := hf
    have lp30 : ∀ (n30 : Nat) (x1 : Int32) (x2 : Int32) (x3 : Int32) (ls : Array Slot), lv_has ls 4 [(0, .ref (a 0)), (1, .int x1), (2, .int x2), (3, .int x3)] → L_Mo_isOn_30 S post n30 x1 x2 x3 → W p l e rm_Mo_isOn s m args below meth c s.heap [] 0 0 (MQ below (vp_Si post) args s 0 0 (fun _ => False)) (F0 m 30 ls []) := by
      intro n30
      induction n30 with
      | zero => intro x1 x2 x3 ls hl hf; exact False.elim hf
      | succ n30 ih30 =>
        have jn60 : ∀ (x1 : Int32) (x2 : Int32) (x3 : Int32) (ls : Array Slot), lv_has ls 4 [(0, .ref (a 0)), (1, .int x1), (2, .int x2), (3, .int x3)] → J_Mo_isOn_60 S post (fun z0 z1 z2 => L_Mo_isOn_30 S post n30 z0 z1 z2) x1 x2 x3 → W p l e rm_Mo_isOn s m args below meth c s.heap [] 0 0 (MQ below (vp_Si post) args s 0 0 (fun _ => False)) (F0 m 60 ls []) := by
          intro x1 x2 x3 ls hl hf
          unfold J_Mo_isOn_60 at hf
          refine lv_iconst (pc := 60) (v := 1) hx hb d_Mo_isOn_60 (by decide) ?_
          refine lv_goto (pc := 61) (tgt := 65) hx hb d_Mo_isOn_61 (by decide) ?_
          refine lv_istore_n (pc := 65) (lv' := [(2, .int (1 : Int32)), (0, .ref (a 0)), (1, .int x1), (3, .int x3)]) hx hb d_Mo_isOn_65 rfl hl (by decide) rfl (fun ls hl => ?_)
          refine lv_iinc (pc := 66) (k := 3) (v := (x3 + (1 : Int32))) (lv' := [(3, .int (x3 + (1 : Int32))), (2, .int (1 : Int32)), (0, .ref (a 0)), (1, .int x1)]) hx hb d_Mo_isOn_66 hl rfl rfl (by decide) rfl (fun ls hl => ?_)
          refine lv_goto (pc := 69) (tgt := 30) hx hb d_Mo_isOn_69 (by decide) ?_
          exact ih30 x1 (1 : Int32) (x3 + (1 : Int32)) _ (lv_sub hl [2, 3, 1, 0] rfl) hf
        intro x1 x2 x3 ls hl hf
        unfold L_Mo_isOn_30 at hf
        refine lv_iload_n (pc := 30) hx hb d_Mo_isOn_30 rfl (lv_at hl 3 rfl) ?_
        refine lv_bipush (pc := 31) (v := 24) hx hb d_Mo_isOn_31 (by decide) ?_
        refine lv_icmp_ge (pc := 33) (tgt := 72) hx hb d_Mo_isOn_33 (by decide) (fun hc => ?_) (fun hc => ?_)
        · replace hf := hf.1 hc
          refine lv_iload_n (pc := 72) hx hb d_Mo_isOn_72 rfl (lv_at hl 2 rfl) ?_
          exact rr_z (pc := 73) hx hb hr hlk hf.1 hf.2 d_Mo_isOn_73
        replace hf := hf.2 hc
        refine lv_iload_n (pc := 36) hx hb d_Mo_isOn_36 rfl (lv_at hl 2 rfl) ?_
        refine lv_if_ne (pc := 37) (tgt := 60) hx hb d_Mo_isOn_37 (by decide) (fun hc => ?_) (fun hc => ?_)
        · replace hf := hf.2 hc
          exact jn60 x1 x2 x3 _ (lv_sub hl [0, 1, 2, 3] rfl) hf
        replace hf := hf.1 hc
        refine lv_aload_n (pc := 40) hx hb d_Mo_isOn_40 rfl (lv_at hl 0 rfl) ?_
        refine md_gt_Mo_began (pc := 41) hx hb hK hts hinMo hown hP hl65 d_Mo_isOn_41 ?_
        refine lv_iload_n (pc := 44) hx hb d_Mo_isOn_44 rfl (lv_at hl 3 rfl) ?_
        refine md_ld19 (pc := 45) (v := ((S.1 25) x3.toNatClampNeg)) hx hb hK hP hf.1 rfl d_Mo_isOn_45 ?_
        replace hf := hf.2
        refine lv_iconst (pc := 46) (v := 2) hx hb d_Mo_isOn_46 (by decide) ?_
        refine lv_icmp_ne (pc := 47) (tgt := 64) hx hb d_Mo_isOn_47 (by decide) (fun hc => ?_) (fun hc => ?_)
        · replace hf := hf.2 hc
          refine lv_iconst (pc := 64) (v := 0) hx hb d_Mo_isOn_64 (by decide) ?_
          refine lv_istore_n (pc := 65) (lv' := [(2, .int (0 : Int32)), (0, .ref (a 0)), (1, .int x1), (3, .int x3)]) hx hb d_Mo_isOn_65 rfl hl (by decide) rfl (fun ls hl => ?_)
          refine lv_iinc (pc := 66) (k := 3) (v := (x3 + (1 : Int32))) (lv' := [(3, .int (x3 + (1 : Int32))), (2, .int (0 : Int32)), (0, .ref (a 0)), (1, .int x1)]) hx hb d_Mo_isOn_66 hl rfl rfl (by decide) rfl (fun ls hl => ?_)
          refine lv_goto (pc := 69) (tgt := 30) hx hb d_Mo_isOn_69 (by decide) ?_
          exact ih30 x1 (0 : Int32) (x3 + (1 : Int32)) _ (lv_sub hl [2, 3, 1, 0] rfl) hf
        replace hf := hf.1 hc
        refine lv_aload_n (pc := 50) hx hb d_Mo_isOn_50 rfl (lv_at hl 0 rfl) ?_
        refine md_gt_Mo_beganWhat (pc := 51) hx hb hK hts hinMo hown hP hl68 d_Mo_isOn_51 ?_
        refine lv_iload_n (pc := 54) hx hb d_Mo_isOn_54 rfl (lv_at hl 3 rfl) ?_
        refine md_ld20 (pc := 55) (v := ((S.1 26) x3.toNatClampNeg)) hx hb hK hP hf.1 rfl d_Mo_isOn_55 ?_
        replace hf := hf.2
        refine lv_iload_n (pc := 56) hx hb d_Mo_isOn_56 rfl (lv_at hl 1 rfl) ?_
        refine lv_icmp_ne (pc := 57) (tgt := 64) hx hb d_Mo_isOn_57 (by decide) (fun hc => ?_) (fun hc => ?_)
        · replace hf := hf.2 hc
          refine lv_iconst (pc := 64) (v := 0) hx hb d_Mo_isOn_64 (by decide) ?_
          refine lv_istore_n (pc := 65) (lv' := [(2, .int (0 : Int32)), (0, .ref (a 0)), (1, .int x1), (3, .int x3)]) hx hb d_Mo_isOn_65 rfl hl (by decide) rfl (fun ls hl => ?_)
          refine lv_iinc (pc := 66) (k := 3) (v := (x3 + (1 : Int32))) (lv' := [(3, .int (x3 + (1 : Int32))), (2, .int (0 : Int32)), (0, .ref (a 0)), (1, .int x1)]) hx hb d_Mo_isOn_66 hl rfl rfl (by decide) rfl (fun ls hl => ?_)
          refine lv_goto (pc := 69) (tgt := 30) hx hb d_Mo_isOn_69 (by decide) ?_
          exact ih30 x1 (0 : Int32) (x3 + (1 : Int32)) _ (lv_sub hl [2, 3, 1, 0] rfl) hf
        replace hf := hf.1 hc
        exact jn60 x1 x2 x3 _ (lv_sub hl [0, 1, 2, 3] rfl) hf
    exact lp30 q30 p0 (0 : Int32) (0 : Int32) _ (lv_sub hl [2, 3, 1, 0] rfl) hf
  replace hf := hf.2 hc
  exact jn22 p0 _ (lv_sub hl [0, 1] rfl) hf
def L_Mo_topOf_4 (S : GS) (post : Int32 → Prop) : Nat → Int32 → Int32 → Int32 → Prop
  | 0, _, _, _ => False
  | n4 + 1, x1, x2, x3 => (((4 : Int32) ≤ x3 → (post x2)) ∧ (¬ (4 : Int32) ≤ x3 → (wp_Mo_isOn S x3 (fun r11 => ((r11 = (0 : Int32) → (L_Mo_topOf_4 S post n4 x1 x2 (x3 + (1 : Int32)))) ∧ (¬ r11 = (0 : Int32) → (vp_in (((24 : Int32) * x3) + x1) 96 ∧ ((((S.1 17) (((24 : Int32) * x3) + x1).toNatClampNeg) = (0 : Int32) → (L_Mo_topOf_4 S post n4 x1 x2 (x3 + (1 : Int32)))) ∧ (¬ ((S.1 17) (((24 : Int32) * x3) + x1).toNatClampNeg) = (0 : Int32) → (L_Mo_topOf_4 S post n4 x1 x3 (x3 + (1 : Int32))))))))))))
def wp_Mo_topOf (S : GS) (p0 : Int32) (post : Int32 → Prop) : Prop := (∃ q4, L_Mo_topOf_4 S post q4 p0 (-1 : Int32) (0 : Int32))
abbrev rm_Mo_topOf : Room := { frames := 1, cells := 0, slots := 0, locals := 23 }
set_option maxHeartbeats 4000000 in
set_option maxRecDepth 100000 in
theorem c_Mo_topOf (l : Launch) (D : va_G) (cI cZ cJ : ClassId) (a : Nat → Nat) (S : GS) (p0 : Int32) (post : Int32 → Prop) (hf : wp_Mo_topOf S p0 post) : Met l y_Mo_topOf ws_Mo_topOf rm_Mo_topOf (va_Pc [.ref (a 0), .int p0] (rPre D (tys cI cZ cJ) (mdW cI cZ cJ a S))) (vp_Si post) 0 0 (fun _ => False) := by
  refine gm_r (cc := b_Mo_topOf) (maxL := 4) (by decide) rfl (Nat.le_of_ble_eq_true rfl) ?_
  intro p e s m args below meth c ls hx hb hr hts hown hlk hml hK hP hl
  have hl : lv_has ls 4 [(0, .ref (a 0)), (1, .int p0)] := hl
  have hinMo : ∀ w ∈ u_ws R_Mo T_Mo 30, w ∈ ws_Mo_topOf := fun w h => List.mem_cons_of_mem _ (tl_Mo w h)
  have hl41 := hts _ (List.mem_cons_of_mem _ tf_Mo_41)
  unfold wp_Mo_topOf at hf
  refine lv_iconst (pc := 0) (v := -1) hx hb d_Mo_topOf_0 (by decide) ?_
  refine lv_istore_n (pc := 1) (lv' := [(2, .int (-1 : Int32)), (0, .ref (a 0)), (1, .int p0)]) hx hb d_Mo_topOf_1 rfl hl (by decide) rfl (fun ls hl => ?_)
  refine lv_iconst (pc := 2) (v := 0) hx hb d_Mo_topOf_2 (by decide) ?_
  refine lv_istore_n (pc := 3) (lv' := [(3, .int (0 : Int32)), (2, .int (-1 : Int32)), (0, .ref (a 0)), (1, .int p0)]) hx hb d_Mo_topOf_3 rfl hl (by decide) rfl (fun ls hl => ?_)
  obtain ⟨q4, hf⟩ := hf
  have lp4 : ∀ (n4 : Nat) (x1 : Int32) (x2 : Int32) (x3 : Int32) (ls : Array Slot), lv_has ls 4 [(0, .ref (a 0)), (1, .int x1), (2, .int x2), (3, .int x3)] → L_Mo_topOf_4 S post n4 x1 x2 x3 → W p l e rm_Mo_topOf s m args below meth c s.heap [] 0 0 (MQ below (vp_Si post) args s 0 0 (fun _ => False)) (F0 m 4 ls []) := by
    intro n4
    induction n4 with
    | zero => intro x1 x2 x3 ls hl hf; exact False.elim hf
    | succ n4 ih4 =>
      intro x1 x2 x3 ls hl hf
      unfold L_Mo_topOf_4 at hf
      refine lv_iload_n (pc := 4) hx hb d_Mo_topOf_4 rfl (lv_at hl 3 rfl) ?_
      refine lv_iconst (pc := 5) (v := 4) hx hb d_Mo_topOf_5 (by decide) ?_
      refine lv_icmp_ge (pc := 6) (tgt := 43) hx hb d_Mo_topOf_6 (by decide) (fun hc => ?_) (fun hc => ?_)
      · replace hf := hf.1 hc
        refine lv_iload_n (pc := 43) hx hb d_Mo_topOf_43 rfl (lv_at hl 2 rfl) ?_
        exact rr_i (pc := 44) hx hb hr hlk hf d_Mo_topOf_44
      replace hf := hf.2 hc
      refine lv_aload_n (pc := 9) hx hb d_Mo_topOf_9 rfl (lv_at hl 0 rfl) ?_
      refine lv_iload_n (pc := 10) hx hb d_Mo_topOf_10 rfl (lv_at hl 3 rfl) ?_
      refine vp_callSi (pc := 11) (W.runV (As := [.int x3]) (rest := []) ⟨hx, hb, hml, hown, hts⟩ (c_Mo_isOn l D cI cZ cJ a _ _ _ hf) (cwV 1 hts (tb_wsV tc_Mo_isOn tm_Mo_108 ti_Mo_isOn te_Mo_isOn tz_Mo) rfl rfl rfl (by decide +kernel) ⟨Nat.le_of_ble_eq_true rfl, Nat.le_of_ble_eq_true rfl⟩) (r_preV (q0 := 0) (ci := 9) hK hP rfl rfl) rfl rfl hl.1 rfl (lv_room (Nat.le_of_ble_eq_true rfl)) d_Mo_topOf_11 ⟨Nat.zero_le _, Nat.zero_le _⟩) (fun r11 hf => ?_)
      refine lv_if_eq (pc := 14) (tgt := 35) hx hb d_Mo_topOf_14 (by decide) (fun hc => ?_) (fun hc => ?_)
      · replace hf := hf.1 hc
        refine lv_iload_n (pc := 35) hx hb d_Mo_topOf_35 rfl (lv_at hl 2 rfl) ?_
        refine lv_istore_n (pc := 36) (lv' := [(2, .int x2), (0, .ref (a 0)), (1, .int x1), (3, .int x3)]) hx hb d_Mo_topOf_36 rfl hl (by decide) rfl (fun ls hl => ?_)
        refine lv_iinc (pc := 37) (k := 3) (v := (x3 + (1 : Int32))) (lv' := [(3, .int (x3 + (1 : Int32))), (2, .int x2), (0, .ref (a 0)), (1, .int x1)]) hx hb d_Mo_topOf_37 hl rfl rfl (by decide) rfl (fun ls hl => ?_)
        refine lv_goto (pc := 40) (tgt := 4) hx hb d_Mo_topOf_40 (by decide) ?_
        exact ih4 x1 x2 (x3 + (1 : Int32)) _ (lv_sub hl [2, 3, 1, 0] rfl) hf
      replace hf := hf.2 hc
      refine lv_aload_n (pc := 17) hx hb d_Mo_topOf_17 rfl (lv_at hl 0 rfl) ?_
      refine md_gt_Mo_kinds (pc := 18) hx hb hK hts hinMo hown hP hl41 d_Mo_topOf_18 ?_
      refine lv_bipush (pc := 21) (v := 24) hx hb d_Mo_topOf_21 (by decide) ?_
      refine lv_iload_n (pc := 23) hx hb d_Mo_topOf_23 rfl (lv_at hl 3 rfl) ?_
      refine lv_imul (pc := 24) hx hb d_Mo_topOf_24 ?_
      refine lv_iload_n (pc := 25) hx hb d_Mo_topOf_25 rfl (lv_at hl 1 rfl) ?_
      refine lv_iadd (pc := 26) hx hb d_Mo_topOf_26 ?_
      refine md_ld11 (pc := 27) (v := ((S.1 17) (((24 : Int32) * x3) + x1).toNatClampNeg)) hx hb hK hP hf.1 rfl d_Mo_topOf_27 ?_
      replace hf := hf.2
      refine lv_if_eq (pc := 28) (tgt := 35) hx hb d_Mo_topOf_28 (by decide) (fun hc => ?_) (fun hc => ?_)
      · replace hf := hf.1 hc
        refine lv_iload_n (pc := 35) hx hb d_Mo_topOf_35 rfl (lv_at hl 2 rfl) ?_
        refine lv_istore_n (pc := 36) (lv' := [(2, .int x2), (0, .ref (a 0)), (1, .int x1), (3, .int x3)]) hx hb d_Mo_topOf_36 rfl hl (by decide) rfl (fun ls hl => ?_)
        refine lv_iinc (pc := 37) (k := 3) (v := (x3 + (1 : Int32))) (lv' := [(3, .int (x3 + (1 : Int32))), (2, .int x2), (0, .ref (a 0)), (1, .int x1)]) hx hb d_Mo_topOf_37 hl rfl rfl (by decide) rfl (fun ls hl => ?_)
        refine lv_goto (pc := 40) (tgt := 4) hx hb d_Mo_topOf_40 (by decide) ?_
        exact ih4 x1 x2 (x3 + (1 : Int32)) _ (lv_sub hl [2, 3, 1, 0] rfl) hf
      replace hf := hf.2 hc
      refine lv_iload_n (pc := 31) hx hb d_Mo_topOf_31 rfl (lv_at hl 3 rfl) ?_
      refine lv_goto (pc := 32) (tgt := 36) hx hb d_Mo_topOf_32 (by decide) ?_
      refine lv_istore_n (pc := 36) (lv' := [(2, .int x3), (0, .ref (a 0)), (1, .int x1), (3, .int x3)]) hx hb d_Mo_topOf_36 rfl hl (by decide) rfl (fun ls hl => ?_)
      refine lv_iinc (pc := 37) (k := 3) (v := (x3 + (1 : Int32))) (lv' := [(3, .int (x3 + (1 : Int32))), (2, .int x3), (0, .ref (a 0)), (1, .int x1)]) hx hb d_Mo_topOf_37 hl rfl rfl (by decide) rfl (fun ls hl => ?_)
      refine lv_goto (pc := 40) (tgt := 4) hx hb d_Mo_topOf_40 (by decide) ?_
      exact ih4 x1 x3 (x3 + (1 : Int32)) _ (lv_sub hl [2, 3, 1, 0] rfl) hf
  exact lp4 q4 p0 (-1 : Int32) (0 : Int32) _ (lv_sub hl [2, 3, 1, 0] rfl) hf
def J_Mo_makeReport_136 (post : GS → Prop) (x1 : Int32) (x2 : Int32) (x3 : Int32) (S : GS) : Prop := (vp_in (70 : Int32) 77 ∧ (post (gI S 29 (upd (S.1 29) ((70 : Int32)).toNatClampNeg x1))))
def J_Mo_makeReport_77 (post : GS → Prop) (k30 : Int32 → Int32 → Int32 → GS → Prop) (x1 : Int32) (x2 : Int32) (x3 : Int32) (y0 : Int32) (S : GS) : Prop := (((100 : Int32) ≤ x3 → (k30 x1 y0 (x3 + (1 : Int32)) S)) ∧ (¬ (100 : Int32) ≤ x3 → (((7 : Int32) ≤ y0 → (k30 x1 y0 (x3 + (1 : Int32)) S)) ∧ (¬ (7 : Int32) ≤ y0 → (vp_in ((70 : Int32) + y0) 77 ∧ (k30 x1 y0 (x3 + (1 : Int32)) (gI S 29 (upd (S.1 29) (((70 : Int32) + y0)).toNatClampNeg x3))))))))
def J_Mo_makeReport_63 (post : GS → Prop) (k30 : Int32 → Int32 → Int32 → GS → Prop) (x1 : Int32) (x2 : Int32) (x3 : Int32) (y0 : Int32) (S : GS) : Prop := (((100 : Int32) ≤ x3 → (J_Mo_makeReport_77 post k30 y0 x2 x3 x2 S)) ∧ (¬ (100 : Int32) ≤ x3 → (J_Mo_makeReport_77 post k30 y0 x2 x3 (x2 + (1 : Int32)) S)))
def L_Mo_makeReport_108 (post : GS → Prop) : Nat → Int32 → Int32 → Int32 → GS → Prop
  | 0, _, _, _, _ => False
  | n108 + 1, x1, x2, x3, S => (((7 : Int32) ≤ x3 → (J_Mo_makeReport_136 post x1 x2 x3 S)) ∧ (¬ (7 : Int32) ≤ x3 → ((x2 ≤ (6 : Int32) → (J_Mo_makeReport_136 post x1 x2 x3 S)) ∧ (¬ x2 ≤ (6 : Int32) → (vp_in ((70 : Int32) + x3) 77 ∧ (L_Mo_makeReport_108 post n108 x1 x2 (x3 + (1 : Int32)) (gI S 29 (upd (S.1 29) (((70 : Int32) + x3)).toNatClampNeg (1 : Int32)))))))))
def L_Mo_makeReport_30 (post : GS → Prop) : Nat → Int32 → Int32 → Int32 → GS → Prop
  | 0, _, _, _, _ => False
  | n30 + 1, x1, x2, x3, S => (((108 : Int32) ≤ x3 → (∃ q108, L_Mo_makeReport_108 post q108 x1 x2 (1 : Int32) S)) ∧ (¬ (108 : Int32) ≤ x3 → (vp_in x3 108 ∧ ((((S.1 28) x3.toNatClampNeg) ≤ (0 : Int32) → (L_Mo_makeReport_30 post n30 x1 x2 (x3 + (1 : Int32)) S)) ∧ (¬ ((S.1 28) x3.toNatClampNeg) ≤ (0 : Int32) → ((x3 < (100 : Int32) → (J_Mo_makeReport_63 post (fun z0 z1 z2 z3 => L_Mo_makeReport_30 post n30 z0 z1 z2 z3) x1 x2 x3 x1 S)) ∧ (¬ x3 < (100 : Int32) → (J_Mo_makeReport_63 post (fun z0 z1 z2 z3 => L_Mo_makeReport_30 post n30 z0 z1 z2 z3) x1 x2 x3 (x1 ||| ((1 : Int32) <<< ((x3 - (100 : Int32)) &&& 31))) S))))))))
def L_Mo_makeReport_6 (post : GS → Prop) : Nat → Int32 → Int32 → Int32 → GS → Prop
  | 0, _, _, _, _ => False
  | n6 + 1, x1, x2, x3, S => (((7 : Int32) ≤ x3 → (∃ q30, L_Mo_makeReport_30 post q30 x1 x2 (4 : Int32) S)) ∧ (¬ (7 : Int32) ≤ x3 → (vp_in ((70 : Int32) + x3) 77 ∧ (L_Mo_makeReport_6 post n6 x1 x2 (x3 + (1 : Int32)) (gI S 29 (upd (S.1 29) (((70 : Int32) + x3)).toNatClampNeg (0 : Int32)))))))
def wp_Mo_makeReport (S : GS) (post : GS → Prop) : Prop := (∃ q6, L_Mo_makeReport_6 post q6 (0 : Int32) (0 : Int32) (1 : Int32) S)
abbrev rm_Mo_makeReport : Room := { frames := 0, cells := 0, slots := 0, locals := 0 }
set_option maxHeartbeats 4000000 in
set_option maxRecDepth 100000 in
theorem c_Mo_makeReport (l : Launch) (D : va_G) (cI cZ cJ : ClassId) (a : Nat → Nat) (sz : Nat) (S : GS) (post : GS → Prop) (hf : wp_Mo_makeReport S post) : Met l y_Mo_makeReport ws_Mo_makeReport rm_Mo_makeReport (va_Pc [.ref (a 0)] (gPre D (tys cI cZ cJ) (mdW cI cZ cJ a S) sz)) (va_Qv post (gB D (tys cI cZ cJ) (mdW cI cZ cJ a) (va_A (mdW cI cZ cJ a S) sz)) (va_A (mdW cI cZ cJ a S) sz)) 0 0 (va_A (mdW cI cZ cJ a S) sz) := by
  refine gm_w (QF := fun A => va_Qv post (gB D (tys cI cZ cJ) (mdW cI cZ cJ a) A) A) (cc := b_Mo_makeReport) (maxL := 4) (by decide) rfl (Nat.le_of_ble_eq_true rfl) ?_
  intro p e s m args below meth c A ls hx hb hr hts hown hmn hlk hml hK hA hw hl
  have hl : lv_has ls 4 [(0, .ref (a 0))] := hl
  have hinMo : ∀ w ∈ u_ws R_Mo T_Mo 30, w ∈ ws_Mo_makeReport := fun w h => List.mem_cons_of_mem _ (tl_Mo w h)
  have hl74 := hts _ (List.mem_cons_of_mem _ tf_Mo_74)
  have hl77 := hts _ (List.mem_cons_of_mem _ tf_Mo_77)
  have jn136 : ∀ (x1 : Int32) (x2 : Int32) (x3 : Int32) (S : GS) (H : Heap) (locs : List Loc) (ls : Array Slot), lv_has ls 4 [(0, .ref (a 0)), (1, .int x1), (2, .int x2), (3, .int x3)] → wf D A s.heap (mdW cI cZ cJ a S) H locs → J_Mo_makeReport_136 post x1 x2 x3 S → W p l e rm_Mo_makeReport s m args below meth c H locs 0 0 (MQ below (va_Qv post (gB D (tys cI cZ cJ) (mdW cI cZ cJ a) A) A) args s 0 0 A) (F0 m 136 ls []) := by
    intro x1 x2 x3 S H locs ls hl hw hf
    unfold J_Mo_makeReport_136 at hf
    refine lv_aload_n (pc := 136) hx hb d_Mo_makeReport_136 rfl (lv_at hl 0 rfl) ?_
    refine md_gt_Mo_reports (pc := 137) hx hb hK hts hinMo hown hw.1 hl77 d_Mo_makeReport_137 ?_
    refine lv_bipush (pc := 140) (v := 70) hx hb d_Mo_makeReport_140 (by decide) ?_
    refine lv_iload_n (pc := 142) hx hb d_Mo_makeReport_142 rfl (lv_at hl 1 rfl) ?_
    refine md_st23 (pc := 143) hx hb hK hw hf.1 d_Mo_makeReport_143 (fun H locs hw => ?_)
    replace hf := hf.2
    exact gr_v (pc := 144) hx hb hr hlk hK (gI S 29 (upd (S.1 29) ((70 : Int32)).toNatClampNeg x1)) hw hf d_Mo_makeReport_144
  unfold wp_Mo_makeReport at hf
  refine lv_iconst (pc := 0) (v := 0) hx hb d_Mo_makeReport_0 (by decide) ?_
  refine lv_istore_n (pc := 1) (lv' := [(1, .int (0 : Int32)), (0, .ref (a 0))]) hx hb d_Mo_makeReport_1 rfl hl (by decide) rfl (fun ls hl => ?_)
  refine lv_iconst (pc := 2) (v := 0) hx hb d_Mo_makeReport_2 (by decide) ?_
  refine lv_istore_n (pc := 3) (lv' := [(2, .int (0 : Int32)), (1, .int (0 : Int32)), (0, .ref (a 0))]) hx hb d_Mo_makeReport_3 rfl hl (by decide) rfl (fun ls hl => ?_)
  refine lv_iconst (pc := 4) (v := 1) hx hb d_Mo_makeReport_4 (by decide) ?_
  refine lv_istore_n (pc := 5) (lv' := [(3, .int (1 : Int32)), (2, .int (0 : Int32)), (1, .int (0 : Int32)), (0, .ref (a 0))]) hx hb d_Mo_makeReport_5 rfl hl (by decide) rfl (fun ls hl => ?_)
  obtain ⟨q6, hf⟩ := hf
  have lp6 : ∀ (n6 : Nat) (x1 : Int32) (x2 : Int32) (x3 : Int32) (S : GS) (H : Heap) (locs : List Loc) (ls : Array Slot), lv_has ls 4 [(0, .ref (a 0)), (1, .int x1), (2, .int x2), (3, .int x3)] → wf D A s.heap (mdW cI cZ cJ a S) H locs → L_Mo_makeReport_6 post n6 x1 x2 x3 S → W p l e rm_Mo_makeReport s m args below meth c H locs 0 0 (MQ below (va_Qv post (gB D (tys cI cZ cJ) (mdW cI cZ cJ a) A) A) args s 0 0 A) (F0 m 6 ls []) := by
    intro n6
    induction n6 with
    | zero => intro x1 x2 x3 S H locs ls hl hw hf; exact False.elim hf
    | succ n6 ih6 =>
      intro x1 x2 x3 S H locs ls hl hw hf
      unfold L_Mo_makeReport_6 at hf
      refine lv_iload_n (pc := 6) hx hb d_Mo_makeReport_6 rfl (lv_at hl 3 rfl) ?_
      refine lv_bipush (pc := 7) (v := 7) hx hb d_Mo_makeReport_7 (by decide) ?_
      refine lv_icmp_ge (pc := 9) (tgt := 28) hx hb d_Mo_makeReport_9 (by decide) (fun hc => ?_) (fun hc => ?_)
      · replace hf := hf.1 hc
        refine lv_iconst (pc := 28) (v := 4) hx hb d_Mo_makeReport_28 (by decide) ?_
        refine lv_istore_n (pc := 29) (lv' := [(3, .int (4 : Int32)), (0, .ref (a 0)), (1, .int x1), (2, .int x2)]) hx hb d_Mo_makeReport_29 rfl hl (by decide) rfl (fun ls hl => ?_)
        obtain ⟨q30, hf⟩ := hf
        have lp30 : ∀ (n30 : Nat) (x1 : Int32) (x2 : Int32) (x3 : Int32) (S : GS) (H : Heap) (locs : List Loc) (ls : Array Slot), lv_has ls 4 [(0, .ref (a 0)), (1, .int x1), (2, .int x2), (3, .int x3)] → wf D A s.heap (mdW cI cZ cJ a S) H locs → L_Mo_makeReport_30 post n30 x1 x2 x3 S → W p l e rm_Mo_makeReport s m args below meth c H locs 0 0 (MQ below (va_Qv post (gB D (tys cI cZ cJ) (mdW cI cZ cJ a) A) A) args s 0 0 A) (F0 m 30 ls []) := by
          intro n30
          induction n30 with
          | zero => intro x1 x2 x3 S H locs ls hl hw hf; exact False.elim hf
          | succ n30 ih30 =>
            have jn77 : ∀ (x1 : Int32) (x2 : Int32) (x3 : Int32) (y0 : Int32) (S : GS) (H : Heap) (locs : List Loc) (ls : Array Slot), lv_has ls 4 [(0, .ref (a 0)), (1, .int x1), (2, .int x2), (3, .int x3)] → wf D A s.heap (mdW cI cZ cJ a S) H locs → J_Mo_makeReport_77 post (fun z0 z1 z2 z3 => L_Mo_makeReport_30 post n30 z0 z1 z2 z3) x1 x2 x3 y0 S → W p l e rm_Mo_makeReport s m args below meth c H locs 0 0 (MQ below (va_Qv post (gB D (tys cI cZ cJ) (mdW cI cZ cJ a) A) A) args s 0 0 A) (F0 m 77 ls [.int y0]) := by
              intro x1 x2 x3 y0 S H locs ls hl hw hf
              unfold J_Mo_makeReport_77 at hf
              refine lv_istore_n (pc := 77) (lv' := [(2, .int y0), (0, .ref (a 0)), (1, .int x1), (3, .int x3)]) hx hb d_Mo_makeReport_77 rfl hl (by decide) rfl (fun ls hl => ?_)
              refine lv_iload_n (pc := 78) hx hb d_Mo_makeReport_78 rfl (lv_at hl 3 rfl) ?_
              refine lv_bipush (pc := 79) (v := 100) hx hb d_Mo_makeReport_79 (by decide) ?_
              refine lv_icmp_ge (pc := 81) (tgt := 100) hx hb d_Mo_makeReport_81 (by decide) (fun hc => ?_) (fun hc => ?_)
              · replace hf := hf.1 hc
                refine lv_iinc (pc := 100) (k := 3) (v := (x3 + (1 : Int32))) (lv' := [(3, .int (x3 + (1 : Int32))), (2, .int y0), (0, .ref (a 0)), (1, .int x1)]) hx hb d_Mo_makeReport_100 hl rfl rfl (by decide) rfl (fun ls hl => ?_)
                refine lv_goto (pc := 103) (tgt := 30) hx hb d_Mo_makeReport_103 (by decide) ?_
                exact ih30 x1 y0 (x3 + (1 : Int32)) S _ _ _ (lv_sub hl [2, 3, 1, 0] rfl) hw hf
              replace hf := hf.2 hc
              refine lv_iload_n (pc := 84) hx hb d_Mo_makeReport_84 rfl (lv_at hl 0 rfl) ?_
              refine lv_bipush (pc := 85) (v := 7) hx hb d_Mo_makeReport_85 (by decide) ?_
              refine lv_icmp_ge (pc := 87) (tgt := 100) hx hb d_Mo_makeReport_87 (by decide) (fun hc => ?_) (fun hc => ?_)
              · replace hf := hf.1 hc
                refine lv_iinc (pc := 100) (k := 3) (v := (x3 + (1 : Int32))) (lv' := [(3, .int (x3 + (1 : Int32))), (2, .int y0), (0, .ref (a 0)), (1, .int x1)]) hx hb d_Mo_makeReport_100 hl rfl rfl (by decide) rfl (fun ls hl => ?_)
                refine lv_goto (pc := 103) (tgt := 30) hx hb d_Mo_makeReport_103 (by decide) ?_
                exact ih30 x1 y0 (x3 + (1 : Int32)) S _ _ _ (lv_sub hl [2, 3, 1, 0] rfl) hw hf
              replace hf := hf.2 hc
              refine lv_aload_n (pc := 90) hx hb d_Mo_makeReport_90 rfl (lv_at hl 1 rfl) ?_
              refine md_gt_Mo_reports (pc := 91) hx hb hK hts hinMo hown hw.1 hl77 d_Mo_makeReport_91 ?_
              refine lv_bipush (pc := 94) (v := 70) hx hb d_Mo_makeReport_94 (by decide) ?_
              refine lv_iload_n (pc := 96) hx hb d_Mo_makeReport_96 rfl (lv_at hl 0 rfl) ?_
              refine lv_iadd (pc := 97) hx hb d_Mo_makeReport_97 ?_
              refine lv_iload_n (pc := 98) hx hb d_Mo_makeReport_98 rfl (lv_at hl 3 rfl) ?_
              refine md_st23 (pc := 99) hx hb hK hw hf.1 d_Mo_makeReport_99 (fun H locs hw => ?_)
              replace hf := hf.2
              refine lv_iinc (pc := 100) (k := 3) (v := (x3 + (1 : Int32))) (lv' := [(3, .int (x3 + (1 : Int32))), (2, .int y0), (0, .ref (a 0)), (1, .int x1)]) hx hb d_Mo_makeReport_100 hl rfl rfl (by decide) rfl (fun ls hl => ?_)
              refine lv_goto (pc := 103) (tgt := 30) hx hb d_Mo_makeReport_103 (by decide) ?_
              exact ih30 x1 y0 (x3 + (1 : Int32)) (gI S 29 (upd (S.1 29) (((70 : Int32) + y0)).toNatClampNeg x3)) _ _ _ (lv_sub hl [2, 3, 1, 0] rfl) hw hf
            have jn63 : ∀ (x1 : Int32) (x2 : Int32) (x3 : Int32) (y0 : Int32) (S : GS) (H : Heap) (locs : List Loc) (ls : Array Slot), lv_has ls 4 [(0, .ref (a 0)), (1, .int x1), (2, .int x2), (3, .int x3)] → wf D A s.heap (mdW cI cZ cJ a S) H locs → J_Mo_makeReport_63 post (fun z0 z1 z2 z3 => L_Mo_makeReport_30 post n30 z0 z1 z2 z3) x1 x2 x3 y0 S → W p l e rm_Mo_makeReport s m args below meth c H locs 0 0 (MQ below (va_Qv post (gB D (tys cI cZ cJ) (mdW cI cZ cJ a) A) A) args s 0 0 A) (F0 m 63 ls [.int y0]) := by
              intro x1 x2 x3 y0 S H locs ls hl hw hf
              unfold J_Mo_makeReport_63 at hf
              refine lv_istore_n (pc := 63) (lv' := [(1, .int y0), (0, .ref (a 0)), (2, .int x2), (3, .int x3)]) hx hb d_Mo_makeReport_63 rfl hl (by decide) rfl (fun ls hl => ?_)
              refine lv_iload_n (pc := 64) hx hb d_Mo_makeReport_64 rfl (lv_at hl 3 rfl) ?_
              refine lv_bipush (pc := 65) (v := 100) hx hb d_Mo_makeReport_65 (by decide) ?_
              refine lv_icmp_ge (pc := 67) (tgt := 76) hx hb d_Mo_makeReport_67 (by decide) (fun hc => ?_) (fun hc => ?_)
              · replace hf := hf.1 hc
                refine lv_iload_n (pc := 76) hx hb d_Mo_makeReport_76 rfl (lv_at hl 2 rfl) ?_
                exact jn77 y0 x2 x3 x2 S _ _ _ (lv_sub hl [1, 0, 2, 3] rfl) hw hf
              replace hf := hf.2 hc
              refine lv_iload_n (pc := 70) hx hb d_Mo_makeReport_70 rfl (lv_at hl 2 rfl) ?_
              refine lv_iconst (pc := 71) (v := 1) hx hb d_Mo_makeReport_71 (by decide) ?_
              refine lv_iadd (pc := 72) hx hb d_Mo_makeReport_72 ?_
              refine lv_goto (pc := 73) (tgt := 77) hx hb d_Mo_makeReport_73 (by decide) ?_
              exact jn77 y0 x2 x3 (x2 + (1 : Int32)) S _ _ _ (lv_sub hl [1, 0, 2, 3] rfl) hw hf
            intro x1 x2 x3 S H locs ls hl hw hf
            unfold L_Mo_makeReport_30 at hf
            refine lv_iload_n (pc := 30) hx hb d_Mo_makeReport_30 rfl (lv_at hl 3 rfl) ?_
            refine lv_bipush (pc := 31) (v := 108) hx hb d_Mo_makeReport_31 (by decide) ?_
            refine lv_icmp_ge (pc := 33) (tgt := 106) hx hb d_Mo_makeReport_33 (by decide) (fun hc => ?_) (fun hc => ?_)
            · replace hf := hf.1 hc
              refine lv_iconst (pc := 106) (v := 1) hx hb d_Mo_makeReport_106 (by decide) ?_
              refine lv_istore_n (pc := 107) (lv' := [(3, .int (1 : Int32)), (0, .ref (a 0)), (1, .int x1), (2, .int x2)]) hx hb d_Mo_makeReport_107 rfl hl (by decide) rfl (fun ls hl => ?_)
              obtain ⟨q108, hf⟩ := hf
              have lp108 : ∀ (n108 : Nat) (x1 : Int32) (x2 : Int32) (x3 : Int32) (S : GS) (H : Heap) (locs : List Loc) (ls : Array Slot), lv_has ls 4 [(0, .ref (a 0)), (1, .int x1), (2, .int x2), (3, .int x3)] → wf D A s.heap (mdW cI cZ cJ a S) H locs → L_Mo_makeReport_108 post n108 x1 x2 x3 S → W p l e rm_Mo_makeReport s m args below meth c H locs 0 0 (MQ below (va_Qv post (gB D (tys cI cZ cJ) (mdW cI cZ cJ a) A) A) args s 0 0 A) (F0 m 108 ls []) := by
                intro n108
                induction n108 with
                | zero => intro x1 x2 x3 S H locs ls hl hw hf; exact False.elim hf
                | succ n108 ih108 =>
                  intro x1 x2 x3 S H locs ls hl hw hf
                  unfold L_Mo_makeReport_108 at hf
                  refine lv_iload_n (pc := 108) hx hb d_Mo_makeReport_108 rfl (lv_at hl 3 rfl) ?_
                  refine lv_bipush (pc := 109) (v := 7) hx hb d_Mo_makeReport_109 (by decide) ?_
                  refine lv_icmp_ge (pc := 111) (tgt := 136) hx hb d_Mo_makeReport_111 (by decide) (fun hc => ?_) (fun hc => ?_)
                  · replace hf := hf.1 hc
                    exact jn136 x1 x2 x3 S _ _ _ (lv_sub hl [0, 1, 2, 3] rfl) hw hf
                  replace hf := hf.2 hc
                  refine lv_iload_n (pc := 114) hx hb d_Mo_makeReport_114 rfl (lv_at hl 2 rfl) ?_
                  refine lv_bipush (pc := 115) (v := 6) hx hb d_Mo_makeReport_115 (by decide) ?_
                  refine lv_icmp_le (pc := 117) (tgt := 136) hx hb d_Mo_makeReport_117 (by decide) (fun hc => ?_) (fun hc => ?_)
                  · replace hf := hf.1 hc
                    exact jn136 x1 x2 x3 S _ _ _ (lv_sub hl [0, 1, 2, 3] rfl) hw hf
                  replace hf := hf.2 hc
                  refine lv_aload_n (pc := 120) hx hb d_Mo_makeReport_120 rfl (lv_at hl 0 rfl) ?_
                  refine md_gt_Mo_reports (pc := 121) hx hb hK hts hinMo hown hw.1 hl77 d_Mo_makeReport_121 ?_
                  refine lv_bipush (pc := 124) (v := 70) hx hb d_Mo_makeReport_124 (by decide) ?_
                  refine lv_iload_n (pc := 126) hx hb d_Mo_makeReport_126 rfl (lv_at hl 3 rfl) ?_
                  refine lv_iadd (pc := 127) hx hb d_Mo_makeReport_127 ?_
                  refine lv_iconst (pc := 128) (v := 1) hx hb d_Mo_makeReport_128 (by decide) ?_
                  refine md_st23 (pc := 129) hx hb hK hw hf.1 d_Mo_makeReport_129 (fun H locs hw => ?_)
                  replace hf := hf.2
                  refine lv_iinc (pc := 130) (k := 3) (v := (x3 + (1 : Int32))) (lv' := [(3, .int (x3 + (1 : Int32))), (0, .ref (a 0)), (1, .int x1), (2, .int x2)]) hx hb d_Mo_makeReport_130 hl rfl rfl (by decide) rfl (fun ls hl => ?_)
                  refine lv_goto (pc := 133) (tgt := 108) hx hb d_Mo_makeReport_133 (by decide) ?_
                  exact ih108 x1 x2 (x3 + (1 : Int32)) (gI S 29 (upd (S.1 29) (((70 : Int32) + x3)).toNatClampNeg (1 : Int32))) _ _ _ (lv_sub hl [1, 2, 3, 0] rfl) hw hf
              exact lp108 q108 x1 x2 (1 : Int32) S _ _ _ (lv_sub hl [1, 2, 3, 0] rfl) hw hf
            replace hf := hf.2 hc
            refine lv_aload_n (pc := 36) hx hb d_Mo_makeReport_36 rfl (lv_at hl 0 rfl) ?_
            refine md_gt_Mo_down (pc := 37) hx hb hK hts hinMo hown hw.1 hl74 d_Mo_makeReport_37 ?_
            refine lv_iload_n (pc := 40) hx hb d_Mo_makeReport_40 rfl (lv_at hl 3 rfl) ?_
            refine md_ld22 (pc := 41) (v := ((S.1 28) x3.toNatClampNeg)) hx hb hK hw.1 hf.1 rfl d_Mo_makeReport_41 ?_
            replace hf := hf.2
            refine lv_if_le (pc := 42) (tgt := 100) hx hb d_Mo_makeReport_42 (by decide) (fun hc => ?_) (fun hc => ?_)
            · replace hf := hf.1 hc
              refine lv_iinc (pc := 100) (k := 3) (v := (x3 + (1 : Int32))) (lv' := [(3, .int (x3 + (1 : Int32))), (0, .ref (a 0)), (1, .int x1), (2, .int x2)]) hx hb d_Mo_makeReport_100 hl rfl rfl (by decide) rfl (fun ls hl => ?_)
              refine lv_goto (pc := 103) (tgt := 30) hx hb d_Mo_makeReport_103 (by decide) ?_
              exact ih30 x1 x2 (x3 + (1 : Int32)) S _ _ _ (lv_sub hl [1, 2, 3, 0] rfl) hw hf
            replace hf := hf.2 hc
            refine lv_iload_n (pc := 45) hx hb d_Mo_makeReport_45 rfl (lv_at hl 3 rfl) ?_
            refine lv_bipush (pc := 46) (v := 100) hx hb d_Mo_makeReport_46 (by decide) ?_
            refine lv_icmp_lt (pc := 48) (tgt := 62) hx hb d_Mo_makeReport_48 (by decide) (fun hc => ?_) (fun hc => ?_)
            · replace hf := hf.1 hc
              refine lv_iload_n (pc := 62) hx hb d_Mo_makeReport_62 rfl (lv_at hl 1 rfl) ?_
              exact jn63 x1 x2 x3 x1 S _ _ _ (lv_sub hl [0, 1, 2, 3] rfl) hw hf
            replace hf := hf.2 hc
            refine lv_iload_n (pc := 51) hx hb d_Mo_makeReport_51 rfl (lv_at hl 1 rfl) ?_
            refine lv_iconst (pc := 52) (v := 1) hx hb d_Mo_makeReport_52 (by decide) ?_
            refine lv_iload_n (pc := 53) hx hb d_Mo_makeReport_53 rfl (lv_at hl 3 rfl) ?_
            refine lv_bipush (pc := 54) (v := 100) hx hb d_Mo_makeReport_54 (by decide) ?_
            refine lv_isub (pc := 56) hx hb d_Mo_makeReport_56 ?_
            refine lv_ishl (pc := 57) hx hb d_Mo_makeReport_57 ?_
            refine lv_ior (pc := 58) hx hb d_Mo_makeReport_58 ?_
            refine lv_goto (pc := 59) (tgt := 63) hx hb d_Mo_makeReport_59 (by decide) ?_
            exact jn63 x1 x2 x3 (x1 ||| ((1 : Int32) <<< ((x3 - (100 : Int32)) &&& 31))) S _ _ _ (lv_sub hl [0, 1, 2, 3] rfl) hw hf
        exact lp30 q30 x1 x2 (4 : Int32) S _ _ _ (lv_sub hl [1, 2, 3, 0] rfl) hw hf
      replace hf := hf.2 hc
      refine lv_aload_n (pc := 12) hx hb d_Mo_makeReport_12 rfl (lv_at hl 0 rfl) ?_
      refine md_gt_Mo_reports (pc := 13) hx hb hK hts hinMo hown hw.1 hl77 d_Mo_makeReport_13 ?_
      refine lv_bipush (pc := 16) (v := 70) hx hb d_Mo_makeReport_16 (by decide) ?_
      refine lv_iload_n (pc := 18) hx hb d_Mo_makeReport_18 rfl (lv_at hl 3 rfl) ?_
      refine lv_iadd (pc := 19) hx hb d_Mo_makeReport_19 ?_
      refine lv_iconst (pc := 20) (v := 0) hx hb d_Mo_makeReport_20 (by decide) ?_
      refine md_st23 (pc := 21) hx hb hK hw hf.1 d_Mo_makeReport_21 (fun H locs hw => ?_)
      replace hf := hf.2
      refine lv_iinc (pc := 22) (k := 3) (v := (x3 + (1 : Int32))) (lv' := [(3, .int (x3 + (1 : Int32))), (0, .ref (a 0)), (1, .int x1), (2, .int x2)]) hx hb d_Mo_makeReport_22 hl rfl rfl (by decide) rfl (fun ls hl => ?_)
      refine lv_goto (pc := 25) (tgt := 6) hx hb d_Mo_makeReport_25 (by decide) ?_
      exact ih6 x1 x2 (x3 + (1 : Int32)) (gI S 29 (upd (S.1 29) (((70 : Int32) + x3)).toNatClampNeg (0 : Int32))) _ _ _ (lv_sub hl [1, 2, 3, 0] rfl) hw hf
  exact lp6 q6 (0 : Int32) (0 : Int32) (1 : Int32) S _ _ _ (lv_sub hl [3, 2, 1, 0] rfl) hw hf
def L_Mo_copyReport_2 (post : GS → Prop) : Nat → Int32 → Int32 → Int32 → GS → Prop
  | 0, _, _, _, _ => False
  | n2 + 1, x1, x2, x3, S => (((7 : Int32) ≤ x3 → (post S)) ∧ (¬ (7 : Int32) ≤ x3 → (vp_in (((7 : Int32) * x1) + x3) 77 ∧ (vp_in (((7 : Int32) * x2) + x3) 77 ∧ (L_Mo_copyReport_2 post n2 x1 x2 (x3 + (1 : Int32)) (gI S 29 (upd (S.1 29) ((((7 : Int32) * x2) + x3)).toNatClampNeg ((S.1 29) (((7 : Int32) * x1) + x3).toNatClampNeg))))))))
def wp_Mo_copyReport (S : GS) (p0 : Int32) (p1 : Int32) (post : GS → Prop) : Prop := (∃ q2, L_Mo_copyReport_2 post q2 p0 p1 (0 : Int32) S)
abbrev rm_Mo_copyReport : Room := { frames := 0, cells := 0, slots := 0, locals := 0 }
set_option maxHeartbeats 4000000 in
set_option maxRecDepth 100000 in
theorem c_Mo_copyReport (l : Launch) (D : va_G) (cI cZ cJ : ClassId) (a : Nat → Nat) (sz : Nat) (S : GS) (p0 : Int32) (p1 : Int32) (post : GS → Prop) (hf : wp_Mo_copyReport S p0 p1 post) : Met l y_Mo_copyReport ws_Mo_copyReport rm_Mo_copyReport (va_Pc [.ref (a 0), .int p0, .int p1] (gPre D (tys cI cZ cJ) (mdW cI cZ cJ a S) sz)) (va_Qv post (gB D (tys cI cZ cJ) (mdW cI cZ cJ a) (va_A (mdW cI cZ cJ a S) sz)) (va_A (mdW cI cZ cJ a S) sz)) 0 0 (va_A (mdW cI cZ cJ a S) sz) := by
  refine gm_w (QF := fun A => va_Qv post (gB D (tys cI cZ cJ) (mdW cI cZ cJ a) A) A) (cc := b_Mo_copyReport) (maxL := 4) (by decide) rfl (Nat.le_of_ble_eq_true rfl) ?_
  intro p e s m args below meth c A ls hx hb hr hts hown hmn hlk hml hK hA hw hl
  have hl : lv_has ls 4 [(0, .ref (a 0)), (1, .int p0), (2, .int p1)] := hl
  have hinMo : ∀ w ∈ u_ws R_Mo T_Mo 30, w ∈ ws_Mo_copyReport := fun w h => List.mem_cons_of_mem _ (tl_Mo w h)
  have hl77 := hts _ (List.mem_cons_of_mem _ tf_Mo_77)
  unfold wp_Mo_copyReport at hf
  refine lv_iconst (pc := 0) (v := 0) hx hb d_Mo_copyReport_0 (by decide) ?_
  refine lv_istore_n (pc := 1) (lv' := [(3, .int (0 : Int32)), (0, .ref (a 0)), (1, .int p0), (2, .int p1)]) hx hb d_Mo_copyReport_1 rfl hl (by decide) rfl (fun ls hl => ?_)
  obtain ⟨q2, hf⟩ := hf
  have lp2 : ∀ (n2 : Nat) (x1 : Int32) (x2 : Int32) (x3 : Int32) (S : GS) (H : Heap) (locs : List Loc) (ls : Array Slot), lv_has ls 4 [(0, .ref (a 0)), (1, .int x1), (2, .int x2), (3, .int x3)] → wf D A s.heap (mdW cI cZ cJ a S) H locs → L_Mo_copyReport_2 post n2 x1 x2 x3 S → W p l e rm_Mo_copyReport s m args below meth c H locs 0 0 (MQ below (va_Qv post (gB D (tys cI cZ cJ) (mdW cI cZ cJ a) A) A) args s 0 0 A) (F0 m 2 ls []) := by
    intro n2
    induction n2 with
    | zero => intro x1 x2 x3 S H locs ls hl hw hf; exact False.elim hf
    | succ n2 ih2 =>
      intro x1 x2 x3 S H locs ls hl hw hf
      unfold L_Mo_copyReport_2 at hf
      refine lv_iload_n (pc := 2) hx hb d_Mo_copyReport_2 rfl (lv_at hl 3 rfl) ?_
      refine lv_bipush (pc := 3) (v := 7) hx hb d_Mo_copyReport_3 (by decide) ?_
      refine lv_icmp_ge (pc := 5) (tgt := 36) hx hb d_Mo_copyReport_5 (by decide) (fun hc => ?_) (fun hc => ?_)
      · replace hf := hf.1 hc
        exact gr_v (pc := 36) hx hb hr hlk hK S hw hf d_Mo_copyReport_36
      replace hf := hf.2 hc
      refine lv_aload_n (pc := 8) hx hb d_Mo_copyReport_8 rfl (lv_at hl 0 rfl) ?_
      refine md_gt_Mo_reports (pc := 9) hx hb hK hts hinMo hown hw.1 hl77 d_Mo_copyReport_9 ?_
      refine lv_bipush (pc := 12) (v := 7) hx hb d_Mo_copyReport_12 (by decide) ?_
      refine lv_iload_n (pc := 14) hx hb d_Mo_copyReport_14 rfl (lv_at hl 2 rfl) ?_
      refine lv_imul (pc := 15) hx hb d_Mo_copyReport_15 ?_
      refine lv_iload_n (pc := 16) hx hb d_Mo_copyReport_16 rfl (lv_at hl 3 rfl) ?_
      refine lv_iadd (pc := 17) hx hb d_Mo_copyReport_17 ?_
      refine lv_aload_n (pc := 18) hx hb d_Mo_copyReport_18 rfl (lv_at hl 0 rfl) ?_
      refine md_gt_Mo_reports (pc := 19) hx hb hK hts hinMo hown hw.1 hl77 d_Mo_copyReport_19 ?_
      refine lv_bipush (pc := 22) (v := 7) hx hb d_Mo_copyReport_22 (by decide) ?_
      refine lv_iload_n (pc := 24) hx hb d_Mo_copyReport_24 rfl (lv_at hl 1 rfl) ?_
      refine lv_imul (pc := 25) hx hb d_Mo_copyReport_25 ?_
      refine lv_iload_n (pc := 26) hx hb d_Mo_copyReport_26 rfl (lv_at hl 3 rfl) ?_
      refine lv_iadd (pc := 27) hx hb d_Mo_copyReport_27 ?_
      refine md_ld23 (pc := 28) (v := ((S.1 29) (((7 : Int32) * x1) + x3).toNatClampNeg)) hx hb hK hw.1 hf.1 rfl d_Mo_copyReport_28 ?_
      replace hf := hf.2
      refine md_st23 (pc := 29) hx hb hK hw hf.1 d_Mo_copyReport_29 (fun H locs hw => ?_)
      replace hf := hf.2
      refine lv_iinc (pc := 30) (k := 3) (v := (x3 + (1 : Int32))) (lv' := [(3, .int (x3 + (1 : Int32))), (0, .ref (a 0)), (1, .int x1), (2, .int x2)]) hx hb d_Mo_copyReport_30 hl rfl rfl (by decide) rfl (fun ls hl => ?_)
      refine lv_goto (pc := 33) (tgt := 2) hx hb d_Mo_copyReport_33 (by decide) ?_
      exact ih2 x1 x2 (x3 + (1 : Int32)) (gI S 29 (upd (S.1 29) ((((7 : Int32) * x2) + x3)).toNatClampNeg ((S.1 29) (((7 : Int32) * x1) + x3).toNatClampNeg))) _ _ _ (lv_sub hl [1, 2, 3, 0] rfl) hw hf
  exact lp2 q2 p0 p1 (0 : Int32) S _ _ _ (lv_sub hl [1, 2, 3, 0] rfl) hw hf
def J_Mo_tell_72 (post : GS → Prop) (x1 : Int32) (x2 : Int32) (S : GS) : Prop := ((x1 = (0 : Int32) → (post S)) ∧ (¬ x1 = (0 : Int32) → (wp_Mo_copyReport S (10 : Int32) (S.1 5 0) (fun S83 => (wp_Mo_copyReport S83 (10 : Int32) (8 : Int32) (fun S91 => (post (gI S91 5 (fun _ => ((S91.1 5 0) + (1 : Int32)))))))))))
def J_Mo_tell_39 (post : GS → Prop) (k8 : Int32 → Int32 → GS → Prop) (x1 : Int32) (x2 : Int32) (S : GS) : Prop := (k8 (1 : Int32) (x2 + (1 : Int32)) S)
def L_Mo_tell_8 (post : GS → Prop) : Nat → Int32 → Int32 → GS → Prop
  | 0, _, _, _ => False
  | n8 + 1, x1, x2, S => (((7 : Int32) ≤ x2 → ((x1 = (0 : Int32) → (J_Mo_tell_72 post x1 x2 S)) ∧ (¬ x1 = (0 : Int32) → (((S.1 5 0) = (8 : Int32) → (post (gI S 6 (fun _ => (1 : Int32))))) ∧ (¬ (S.1 5 0) = (8 : Int32) → (J_Mo_tell_72 post x1 x2 S)))))) ∧ (¬ (7 : Int32) ≤ x2 → ((x1 = (0 : Int32) → (vp_in ((70 : Int32) + x2) 77 ∧ (vp_in ((56 : Int32) + x2) 77 ∧ ((((S.1 29) ((70 : Int32) + x2).toNatClampNeg) = ((S.1 29) ((56 : Int32) + x2).toNatClampNeg) → (L_Mo_tell_8 post n8 (0 : Int32) (x2 + (1 : Int32)) S)) ∧ (¬ ((S.1 29) ((70 : Int32) + x2).toNatClampNeg) = ((S.1 29) ((56 : Int32) + x2).toNatClampNeg) → (J_Mo_tell_39 post (fun z0 z1 z2 => L_Mo_tell_8 post n8 z0 z1 z2) x1 x2 S)))))) ∧ (¬ x1 = (0 : Int32) → (J_Mo_tell_39 post (fun z0 z1 z2 => L_Mo_tell_8 post n8 z0 z1 z2) x1 x2 S)))))
def wp_Mo_tell (S : GS) (post : GS → Prop) : Prop := (wp_Mo_makeReport S (fun S1 => (∃ q8, L_Mo_tell_8 post q8 (0 : Int32) (0 : Int32) S1)))
abbrev rm_Mo_tell : Room := { frames := 1, cells := 0, slots := 0, locals := 23 }
set_option maxHeartbeats 4000000 in
set_option maxRecDepth 100000 in
theorem c_Mo_tell (l : Launch) (D : va_G) (cI cZ cJ : ClassId) (a : Nat → Nat) (sz : Nat) (S : GS) (post : GS → Prop) (hf : wp_Mo_tell S post) : Met l y_Mo_tell ws_Mo_tell rm_Mo_tell (va_Pc [.ref (a 0)] (gPre D (tys cI cZ cJ) (mdW cI cZ cJ a S) sz)) (va_Qv post (gB D (tys cI cZ cJ) (mdW cI cZ cJ a) (va_A (mdW cI cZ cJ a S) sz)) (va_A (mdW cI cZ cJ a S) sz)) 0 0 (va_A (mdW cI cZ cJ a S) sz) := by
  refine gm_w (QF := fun A => va_Qv post (gB D (tys cI cZ cJ) (mdW cI cZ cJ a) A) A) (cc := b_Mo_tell) (maxL := 3) (by decide) rfl (Nat.le_of_ble_eq_true rfl) ?_
  intro p e s m args below meth c A ls hx hb hr hts hown hmn hlk hml hK hA hw hl
  have hl : lv_has ls 3 [(0, .ref (a 0))] := hl
  have hinMo : ∀ w ∈ u_ws R_Mo T_Mo 30, w ∈ ws_Mo_tell := fun w h => List.mem_cons_of_mem _ (tl_Mo w h)
  have hl77 := hts _ (List.mem_cons_of_mem _ tf_Mo_77)
  have hl114 := hts _ (List.mem_cons_of_mem _ tf_Mo_114)
  have hl117 := hts _ (List.mem_cons_of_mem _ tf_Mo_117)
  have jn72 : ∀ (x1 : Int32) (x2 : Int32) (S : GS) (H : Heap) (locs : List Loc) (ls : Array Slot), lv_has ls 3 [(0, .ref (a 0)), (1, .int x1), (2, .int x2)] → wf D A s.heap (mdW cI cZ cJ a S) H locs → J_Mo_tell_72 post x1 x2 S → W p l e rm_Mo_tell s m args below meth c H locs 0 0 (MQ below (va_Qv post (gB D (tys cI cZ cJ) (mdW cI cZ cJ a) A) A) args s 0 0 A) (F0 m 72 ls []) := by
    intro x1 x2 S H locs ls hl hw hf
    unfold J_Mo_tell_72 at hf
    refine lv_iload_n (pc := 72) hx hb d_Mo_tell_72 rfl (lv_at hl 1 rfl) ?_
    refine lv_if_eq (pc := 73) (tgt := 104) hx hb d_Mo_tell_73 (by decide) (fun hc => ?_) (fun hc => ?_)
    · replace hf := hf.1 hc
      exact gr_v (pc := 104) hx hb hr hlk hK S hw hf d_Mo_tell_104
    replace hf := hf.2 hc
    refine lv_aload_n (pc := 76) hx hb d_Mo_tell_76 rfl (lv_at hl 0 rfl) ?_
    refine lv_bipush (pc := 77) (v := 10) hx hb d_Mo_tell_77 (by decide) ?_
    refine lv_aload_n (pc := 79) hx hb d_Mo_tell_79 rfl (lv_at hl 0 rfl) ?_
    refine md_gt_Mo_stored (pc := 80) (v := (S.1 5 0)) hx hb hK hts hinMo hown hw.1 hl114 rfl d_Mo_tell_80 ?_
    refine gc_v (pc := 83) (Wf := mdW cI cZ cJ a) hw hA (va_runV (As := [.int (10 : Int32), .int (S.1 5 0)]) (rest := []) ⟨hx, hb, hml, hown, hts⟩ (c_Mo_copyReport l D cI cZ cJ a _ _ _ _ _ hf) (cwV 2 hts (tb_wsV tc_Mo_copyReport tm_Mo_121 ti_Mo_copyReport te_Mo_copyReport tz_Mo) rfl rfl rfl (by decide +kernel) ⟨Nat.le_of_ble_eq_true rfl, Nat.le_of_ble_eq_true rfl⟩) (g_preV (q0 := 0) (ci := 9) hK hw rfl rfl) rfl rfl hl.1 rfl (lv_room (Nat.le_of_ble_eq_true rfl)) d_Mo_tell_83 ⟨Nat.zero_le _, Nat.zero_le _⟩) (fun S83 H locs hw hf => ?_)
    refine lv_aload_n (pc := 86) hx hb d_Mo_tell_86 rfl (lv_at hl 0 rfl) ?_
    refine lv_bipush (pc := 87) (v := 10) hx hb d_Mo_tell_87 (by decide) ?_
    refine lv_bipush (pc := 89) (v := 8) hx hb d_Mo_tell_89 (by decide) ?_
    refine gc_v (pc := 91) (Wf := mdW cI cZ cJ a) hw hA (va_runV (As := [.int (10 : Int32), .int (8 : Int32)]) (rest := []) ⟨hx, hb, hml, hown, hts⟩ (c_Mo_copyReport l D cI cZ cJ a _ _ _ _ _ hf) (cwV 2 hts (tb_wsV tc_Mo_copyReport tm_Mo_121 ti_Mo_copyReport te_Mo_copyReport tz_Mo) rfl rfl rfl (by decide +kernel) ⟨Nat.le_of_ble_eq_true rfl, Nat.le_of_ble_eq_true rfl⟩) (g_preV (q0 := 0) (ci := 9) hK hw rfl rfl) rfl rfl hl.1 rfl (lv_room (Nat.le_of_ble_eq_true rfl)) d_Mo_tell_91 ⟨Nat.zero_le _, Nat.zero_le _⟩) (fun S91 H locs hw hf => ?_)
    refine lv_aload_n (pc := 94) hx hb d_Mo_tell_94 rfl (lv_at hl 0 rfl) ?_
    refine lv_dup (pc := 95) hx hb d_Mo_tell_95 rfl ?_
    refine md_gt_Mo_stored (pc := 96) (v := (S91.1 5 0)) hx hb hK hts hinMo hown hw.1 hl114 rfl d_Mo_tell_96 ?_
    refine lv_iconst (pc := 99) (v := 1) hx hb d_Mo_tell_99 (by decide) ?_
    refine lv_iadd (pc := 100) hx hb d_Mo_tell_100 ?_
    refine md_pt_Mo_stored (pc := 101) hx hb hK hts hinMo hown hw hl114 d_Mo_tell_101 (fun H locs hw => ?_)
    exact gr_v (pc := 104) hx hb hr hlk hK (gI S91 5 (fun _ => ((S91.1 5 0) + (1 : Int32)))) hw hf d_Mo_tell_104
  unfold wp_Mo_tell at hf
  refine lv_aload_n (pc := 0) hx hb d_Mo_tell_0 rfl (lv_at hl 0 rfl) ?_
  refine gc_v (pc := 1) (Wf := mdW cI cZ cJ a) hw hA (va_runV (As := []) (rest := []) ⟨hx, hb, hml, hown, hts⟩ (c_Mo_makeReport l D cI cZ cJ a _ _ _ hf) (cwV 0 hts (tb_wsV tc_Mo_makeReport tm_Mo_111 ti_Mo_makeReport te_Mo_makeReport tz_Mo) rfl rfl rfl (by decide +kernel) ⟨Nat.le_of_ble_eq_true rfl, Nat.le_of_ble_eq_true rfl⟩) (g_preV (q0 := 0) (ci := 9) hK hw rfl rfl) rfl rfl hl.1 rfl (lv_room (Nat.le_of_ble_eq_true rfl)) d_Mo_tell_1 ⟨Nat.zero_le _, Nat.zero_le _⟩) (fun S1 H locs hw hf => ?_)
  refine lv_iconst (pc := 4) (v := 0) hx hb d_Mo_tell_4 (by decide) ?_
  refine lv_istore_n (pc := 5) (lv' := [(1, .int (0 : Int32)), (0, .ref (a 0))]) hx hb d_Mo_tell_5 rfl hl (by decide) rfl (fun ls hl => ?_)
  refine lv_iconst (pc := 6) (v := 0) hx hb d_Mo_tell_6 (by decide) ?_
  refine lv_istore_n (pc := 7) (lv' := [(2, .int (0 : Int32)), (1, .int (0 : Int32)), (0, .ref (a 0))]) hx hb d_Mo_tell_7 rfl hl (by decide) rfl (fun ls hl => ?_)
  obtain ⟨q8, hf⟩ := hf
  have lp8 : ∀ (n8 : Nat) (x1 : Int32) (x2 : Int32) (S : GS) (H : Heap) (locs : List Loc) (ls : Array Slot), lv_has ls 3 [(0, .ref (a 0)), (1, .int x1), (2, .int x2)] → wf D A s.heap (mdW cI cZ cJ a S) H locs → L_Mo_tell_8 post n8 x1 x2 S → W p l e rm_Mo_tell s m args below meth c H locs 0 0 (MQ below (va_Qv post (gB D (tys cI cZ cJ) (mdW cI cZ cJ a) A) A) args s 0 0 A) (F0 m 8 ls []) := by
    intro n8
    induction n8 with
    | zero => intro x1 x2 S H locs ls hl hw hf; exact False.elim hf
    | succ n8 ih8 =>
      have jn39 : ∀ (x1 : Int32) (x2 : Int32) (S : GS) (H : Heap) (locs : List Loc) (ls : Array Slot), lv_has ls 3 [(0, .ref (a 0)), (1, .int x1), (2, .int x2)] → wf D A s.heap (mdW cI cZ cJ a S) H locs → J_Mo_tell_39 post (fun z0 z1 z2 => L_Mo_tell_8 post n8 z0 z1 z2) x1 x2 S → W p l e rm_Mo_tell s m args below meth c H locs 0 0 (MQ below (va_Qv post (gB D (tys cI cZ cJ) (mdW cI cZ cJ a) A) A) args s 0 0 A) (F0 m 39 ls []) := by
        intro x1 x2 S H locs ls hl hw hf
        unfold J_Mo_tell_39 at hf
        refine lv_iconst (pc := 39) (v := 1) hx hb d_Mo_tell_39 (by decide) ?_
        refine lv_goto (pc := 40) (tgt := 44) hx hb d_Mo_tell_40 (by decide) ?_
        refine lv_istore_n (pc := 44) (lv' := [(1, .int (1 : Int32)), (0, .ref (a 0)), (2, .int x2)]) hx hb d_Mo_tell_44 rfl hl (by decide) rfl (fun ls hl => ?_)
        refine lv_iinc (pc := 45) (k := 2) (v := (x2 + (1 : Int32))) (lv' := [(2, .int (x2 + (1 : Int32))), (1, .int (1 : Int32)), (0, .ref (a 0))]) hx hb d_Mo_tell_45 hl rfl rfl (by decide) rfl (fun ls hl => ?_)
        refine lv_goto (pc := 48) (tgt := 8) hx hb d_Mo_tell_48 (by decide) ?_
        exact ih8 (1 : Int32) (x2 + (1 : Int32)) S _ _ _ (lv_sub hl [2, 1, 0] rfl) hw hf
      intro x1 x2 S H locs ls hl hw hf
      unfold L_Mo_tell_8 at hf
      refine lv_iload_n (pc := 8) hx hb d_Mo_tell_8 rfl (lv_at hl 2 rfl) ?_
      refine lv_bipush (pc := 9) (v := 7) hx hb d_Mo_tell_9 (by decide) ?_
      refine lv_icmp_ge (pc := 11) (tgt := 51) hx hb d_Mo_tell_11 (by decide) (fun hc => ?_) (fun hc => ?_)
      · replace hf := hf.1 hc
        refine lv_iload_n (pc := 51) hx hb d_Mo_tell_51 rfl (lv_at hl 1 rfl) ?_
        refine lv_if_eq (pc := 52) (tgt := 72) hx hb d_Mo_tell_52 (by decide) (fun hc => ?_) (fun hc => ?_)
        · replace hf := hf.1 hc
          exact jn72 x1 x2 S _ _ _ (lv_sub hl [0, 1, 2] rfl) hw hf
        replace hf := hf.2 hc
        refine lv_aload_n (pc := 55) hx hb d_Mo_tell_55 rfl (lv_at hl 0 rfl) ?_
        refine md_gt_Mo_stored (pc := 56) (v := (S.1 5 0)) hx hb hK hts hinMo hown hw.1 hl114 rfl d_Mo_tell_56 ?_
        refine lv_bipush (pc := 59) (v := 8) hx hb d_Mo_tell_59 (by decide) ?_
        refine lv_icmp_ne (pc := 61) (tgt := 72) hx hb d_Mo_tell_61 (by decide) (fun hc => ?_) (fun hc => ?_)
        · replace hf := hf.2 hc
          exact jn72 x1 x2 S _ _ _ (lv_sub hl [0, 1, 2] rfl) hw hf
        replace hf := hf.1 hc
        refine lv_aload_n (pc := 64) hx hb d_Mo_tell_64 rfl (lv_at hl 0 rfl) ?_
        refine lv_iconst (pc := 65) (v := 1) hx hb d_Mo_tell_65 (by decide) ?_
        refine md_pt_Mo_late (pc := 66) hx hb hK hts hinMo hown hw hl117 (by decide) (by decide) d_Mo_tell_66 (fun H locs hw => ?_)
        refine lv_goto (pc := 69) (tgt := 104) hx hb d_Mo_tell_69 (by decide) ?_
        exact gr_v (pc := 104) hx hb hr hlk hK (gI S 6 (fun _ => (1 : Int32))) hw hf d_Mo_tell_104
      replace hf := hf.2 hc
      refine lv_iload_n (pc := 14) hx hb d_Mo_tell_14 rfl (lv_at hl 1 rfl) ?_
      refine lv_if_ne (pc := 15) (tgt := 39) hx hb d_Mo_tell_15 (by decide) (fun hc => ?_) (fun hc => ?_)
      · replace hf := hf.2 hc
        exact jn39 x1 x2 S _ _ _ (lv_sub hl [0, 1, 2] rfl) hw hf
      replace hf := hf.1 hc
      refine lv_aload_n (pc := 18) hx hb d_Mo_tell_18 rfl (lv_at hl 0 rfl) ?_
      refine md_gt_Mo_reports (pc := 19) hx hb hK hts hinMo hown hw.1 hl77 d_Mo_tell_19 ?_
      refine lv_bipush (pc := 22) (v := 70) hx hb d_Mo_tell_22 (by decide) ?_
      refine lv_iload_n (pc := 24) hx hb d_Mo_tell_24 rfl (lv_at hl 2 rfl) ?_
      refine lv_iadd (pc := 25) hx hb d_Mo_tell_25 ?_
      refine md_ld23 (pc := 26) (v := ((S.1 29) ((70 : Int32) + x2).toNatClampNeg)) hx hb hK hw.1 hf.1 rfl d_Mo_tell_26 ?_
      replace hf := hf.2
      refine lv_aload_n (pc := 27) hx hb d_Mo_tell_27 rfl (lv_at hl 0 rfl) ?_
      refine md_gt_Mo_reports (pc := 28) hx hb hK hts hinMo hown hw.1 hl77 d_Mo_tell_28 ?_
      refine lv_bipush (pc := 31) (v := 56) hx hb d_Mo_tell_31 (by decide) ?_
      refine lv_iload_n (pc := 33) hx hb d_Mo_tell_33 rfl (lv_at hl 2 rfl) ?_
      refine lv_iadd (pc := 34) hx hb d_Mo_tell_34 ?_
      refine md_ld23 (pc := 35) (v := ((S.1 29) ((56 : Int32) + x2).toNatClampNeg)) hx hb hK hw.1 hf.1 rfl d_Mo_tell_35 ?_
      replace hf := hf.2
      refine lv_icmp_eq (pc := 36) (tgt := 43) hx hb d_Mo_tell_36 (by decide) (fun hc => ?_) (fun hc => ?_)
      · replace hf := hf.1 hc
        refine lv_iconst (pc := 43) (v := 0) hx hb d_Mo_tell_43 (by decide) ?_
        refine lv_istore_n (pc := 44) (lv' := [(1, .int (0 : Int32)), (0, .ref (a 0)), (2, .int x2)]) hx hb d_Mo_tell_44 rfl hl (by decide) rfl (fun ls hl => ?_)
        refine lv_iinc (pc := 45) (k := 2) (v := (x2 + (1 : Int32))) (lv' := [(2, .int (x2 + (1 : Int32))), (1, .int (0 : Int32)), (0, .ref (a 0))]) hx hb d_Mo_tell_45 hl rfl rfl (by decide) rfl (fun ls hl => ?_)
        refine lv_goto (pc := 48) (tgt := 8) hx hb d_Mo_tell_48 (by decide) ?_
        exact ih8 (0 : Int32) (x2 + (1 : Int32)) S _ _ _ (lv_sub hl [2, 1, 0] rfl) hw hf
      replace hf := hf.2 hc
      exact jn39 x1 x2 S _ _ _ (lv_sub hl [0, 1, 2] rfl) hw hf
  exact lp8 q8 (0 : Int32) (0 : Int32) S1 _ _ _ (lv_sub hl [2, 1, 0] rfl) hw hf
def wp_Mo_change (S : GS) (p0 : Int32) (p1 : Int32) (post : GS → Prop) : Prop := (vp_in p0 108 ∧ (vp_in p0 108 ∧ (wp_Mo_tell (gI S 28 (upd (S.1 28) (p0).toNatClampNeg (((S.1 28) p0.toNatClampNeg) + p1))) (fun S15 => (post S15)))))
abbrev rm_Mo_change : Room := { frames := 2, cells := 0, slots := 0, locals := 45 }
set_option maxHeartbeats 4000000 in
set_option maxRecDepth 100000 in
theorem c_Mo_change (l : Launch) (D : va_G) (cI cZ cJ : ClassId) (a : Nat → Nat) (sz : Nat) (S : GS) (p0 : Int32) (p1 : Int32) (post : GS → Prop) (hf : wp_Mo_change S p0 p1 post) : Met l y_Mo_change ws_Mo_change rm_Mo_change (va_Pc [.ref (a 0), .int p0, .int p1] (gPre D (tys cI cZ cJ) (mdW cI cZ cJ a S) sz)) (va_Qv post (gB D (tys cI cZ cJ) (mdW cI cZ cJ a) (va_A (mdW cI cZ cJ a S) sz)) (va_A (mdW cI cZ cJ a S) sz)) 0 0 (va_A (mdW cI cZ cJ a S) sz) := by
  refine gm_w (QF := fun A => va_Qv post (gB D (tys cI cZ cJ) (mdW cI cZ cJ a) A) A) (cc := b_Mo_change) (maxL := 3) (by decide) rfl (Nat.le_of_ble_eq_true rfl) ?_
  intro p e s m args below meth c A ls hx hb hr hts hown hmn hlk hml hK hA hw hl
  have hl : lv_has ls 3 [(0, .ref (a 0)), (1, .int p0), (2, .int p1)] := hl
  have hinMo : ∀ w ∈ u_ws R_Mo T_Mo 30, w ∈ ws_Mo_change := fun w h => List.mem_cons_of_mem _ (tl_Mo w h)
  have hl74 := hts _ (List.mem_cons_of_mem _ tf_Mo_74)
  unfold wp_Mo_change at hf
  refine lv_aload_n (pc := 0) hx hb d_Mo_change_0 rfl (lv_at hl 0 rfl) ?_
  refine md_gt_Mo_down (pc := 1) hx hb hK hts hinMo hown hw.1 hl74 d_Mo_change_1 ?_
  refine lv_iload_n (pc := 4) hx hb d_Mo_change_4 rfl (lv_at hl 1 rfl) ?_
  refine lv_aload_n (pc := 5) hx hb d_Mo_change_5 rfl (lv_at hl 0 rfl) ?_
  refine md_gt_Mo_down (pc := 6) hx hb hK hts hinMo hown hw.1 hl74 d_Mo_change_6 ?_
  refine lv_iload_n (pc := 9) hx hb d_Mo_change_9 rfl (lv_at hl 1 rfl) ?_
  refine md_ld22 (pc := 10) (v := ((S.1 28) p0.toNatClampNeg)) hx hb hK hw.1 hf.1 rfl d_Mo_change_10 ?_
  replace hf := hf.2
  refine lv_iload_n (pc := 11) hx hb d_Mo_change_11 rfl (lv_at hl 2 rfl) ?_
  refine lv_iadd (pc := 12) hx hb d_Mo_change_12 ?_
  refine md_st22 (pc := 13) hx hb hK hw hf.1 d_Mo_change_13 (fun H locs hw => ?_)
  replace hf := hf.2
  refine lv_aload_n (pc := 14) hx hb d_Mo_change_14 rfl (lv_at hl 0 rfl) ?_
  refine gc_v (pc := 15) (Wf := mdW cI cZ cJ a) hw hA (va_runV (As := []) (rest := []) ⟨hx, hb, hml, hown, hts⟩ (c_Mo_tell l D cI cZ cJ a _ _ _ hf) (cwV 0 hts (tb_wsV tc_Mo_tell tm_Mo_124 ti_Mo_tell te_Mo_tell tz_Mo) rfl rfl rfl (by decide +kernel) ⟨Nat.le_of_ble_eq_true rfl, Nat.le_of_ble_eq_true rfl⟩) (g_preV (q0 := 0) (ci := 9) hK hw rfl rfl) rfl rfl hl.1 rfl (lv_room (Nat.le_of_ble_eq_true rfl)) d_Mo_change_15 ⟨Nat.zero_le _, Nat.zero_le _⟩) (fun S15 H locs hw hf => ?_)
  exact gr_v (pc := 18) hx hb hr hlk hK S15 hw hf d_Mo_change_18
def wp_Mo_touch (S : GS) (p0 : Int32) (post : GS → Prop) : Prop := (wp_Mo_change S p0 (1 : Int32) (fun S3 => (wp_Mo_change S3 p0 (-1 : Int32) (fun S9 => (post S9)))))
abbrev rm_Mo_touch : Room := { frames := 3, cells := 0, slots := 0, locals := 67 }
set_option maxHeartbeats 4000000 in
set_option maxRecDepth 100000 in
theorem c_Mo_touch (l : Launch) (D : va_G) (cI cZ cJ : ClassId) (a : Nat → Nat) (sz : Nat) (S : GS) (p0 : Int32) (post : GS → Prop) (hf : wp_Mo_touch S p0 post) : Met l y_Mo_touch ws_Mo_touch rm_Mo_touch (va_Pc [.ref (a 0), .int p0] (gPre D (tys cI cZ cJ) (mdW cI cZ cJ a S) sz)) (va_Qv post (gB D (tys cI cZ cJ) (mdW cI cZ cJ a) (va_A (mdW cI cZ cJ a S) sz)) (va_A (mdW cI cZ cJ a S) sz)) 0 0 (va_A (mdW cI cZ cJ a S) sz) := by
  refine gm_w (QF := fun A => va_Qv post (gB D (tys cI cZ cJ) (mdW cI cZ cJ a) A) A) (cc := b_Mo_touch) (maxL := 2) (by decide) rfl (Nat.le_of_ble_eq_true rfl) ?_
  intro p e s m args below meth c A ls hx hb hr hts hown hmn hlk hml hK hA hw hl
  have hl : lv_has ls 2 [(0, .ref (a 0)), (1, .int p0)] := hl
  unfold wp_Mo_touch at hf
  refine lv_aload_n (pc := 0) hx hb d_Mo_touch_0 rfl (lv_at hl 0 rfl) ?_
  refine lv_iload_n (pc := 1) hx hb d_Mo_touch_1 rfl (lv_at hl 1 rfl) ?_
  refine lv_iconst (pc := 2) (v := 1) hx hb d_Mo_touch_2 (by decide) ?_
  refine gc_v (pc := 3) (Wf := mdW cI cZ cJ a) hw hA (va_runV (As := [.int p0, .int (1 : Int32)]) (rest := []) ⟨hx, hb, hml, hown, hts⟩ (c_Mo_change l D cI cZ cJ a _ _ _ _ _ hf) (cwV 2 hts (tb_wsV tc_Mo_change tm_Mo_127 ti_Mo_change te_Mo_change tz_Mo) rfl rfl rfl (by decide +kernel) ⟨Nat.le_of_ble_eq_true rfl, Nat.le_of_ble_eq_true rfl⟩) (g_preV (q0 := 0) (ci := 9) hK hw rfl rfl) rfl rfl hl.1 rfl (lv_room (Nat.le_of_ble_eq_true rfl)) d_Mo_touch_3 ⟨Nat.zero_le _, Nat.zero_le _⟩) (fun S3 H locs hw hf => ?_)
  refine lv_aload_n (pc := 6) hx hb d_Mo_touch_6 rfl (lv_at hl 0 rfl) ?_
  refine lv_iload_n (pc := 7) hx hb d_Mo_touch_7 rfl (lv_at hl 1 rfl) ?_
  refine lv_iconst (pc := 8) (v := -1) hx hb d_Mo_touch_8 (by decide) ?_
  refine gc_v (pc := 9) (Wf := mdW cI cZ cJ a) hw hA (va_runV (As := [.int p0, .int (-1 : Int32)]) (rest := []) ⟨hx, hb, hml, hown, hts⟩ (c_Mo_change l D cI cZ cJ a _ _ _ _ _ hf) (cwV 2 hts (tb_wsV tc_Mo_change tm_Mo_127 ti_Mo_change te_Mo_change tz_Mo) rfl rfl rfl (by decide +kernel) ⟨Nat.le_of_ble_eq_true rfl, Nat.le_of_ble_eq_true rfl⟩) (g_preV (q0 := 0) (ci := 9) hK hw rfl rfl) rfl rfl hl.1 rfl (lv_room (Nat.le_of_ble_eq_true rfl)) d_Mo_touch_9 ⟨Nat.zero_le _, Nat.zero_le _⟩) (fun S9 H locs hw hf => ?_)
  exact gr_v (pc := 12) hx hb hr hlk hK S9 hw hf d_Mo_touch_12
def L_Mo_drop_12 (post : GS → Prop) : Nat → Int32 → Int32 → GS → Prop
  | 0, _, _, _ => False
  | n12 + 1, x1, x2, S => (((S.1 2 0) ≤ x2 → (post S)) ∧ (¬ (S.1 2 0) ≤ x2 → (vp_in (x2 + x1) 80 ∧ (vp_in x2 80 ∧ (vp_in (x2 + x1) 80 ∧ (vp_in x2 80 ∧ (L_Mo_drop_12 post n12 x1 (x2 + (1 : Int32)) (gI (gI S 14 (upd (S.1 14) (x2).toNatClampNeg ((S.1 14) (x2 + x1).toNatClampNeg))) 15 (upd (S.1 15) (x2).toNatClampNeg ((S.1 15) (x2 + x1).toNatClampNeg))))))))))
def wp_Mo_drop (S : GS) (p0 : Int32) (post : GS → Prop) : Prop := (∃ q12, L_Mo_drop_12 post q12 p0 (0 : Int32) (gI S 2 (fun _ => ((S.1 2 0) - p0))))
abbrev rm_Mo_drop : Room := { frames := 0, cells := 0, slots := 0, locals := 0 }
set_option maxHeartbeats 4000000 in
set_option maxRecDepth 100000 in
theorem c_Mo_drop (l : Launch) (D : va_G) (cI cZ cJ : ClassId) (a : Nat → Nat) (sz : Nat) (S : GS) (p0 : Int32) (post : GS → Prop) (hf : wp_Mo_drop S p0 post) : Met l y_Mo_drop ws_Mo_drop rm_Mo_drop (va_Pc [.ref (a 0), .int p0] (gPre D (tys cI cZ cJ) (mdW cI cZ cJ a S) sz)) (va_Qv post (gB D (tys cI cZ cJ) (mdW cI cZ cJ a) (va_A (mdW cI cZ cJ a S) sz)) (va_A (mdW cI cZ cJ a S) sz)) 0 0 (va_A (mdW cI cZ cJ a S) sz) := by
  refine gm_w (QF := fun A => va_Qv post (gB D (tys cI cZ cJ) (mdW cI cZ cJ a) A) A) (cc := b_Mo_drop) (maxL := 3) (by decide) rfl (Nat.le_of_ble_eq_true rfl) ?_
  intro p e s m args below meth c A ls hx hb hr hts hown hmn hlk hml hK hA hw hl
  have hl : lv_has ls 3 [(0, .ref (a 0)), (1, .int p0)] := hl
  have hinMo : ∀ w ∈ u_ws R_Mo T_Mo 30, w ∈ ws_Mo_drop := fun w h => List.mem_cons_of_mem _ (tl_Mo w h)
  have hl32 := hts _ (List.mem_cons_of_mem _ tf_Mo_32)
  have hl35 := hts _ (List.mem_cons_of_mem _ tf_Mo_35)
  have hl95 := hts _ (List.mem_cons_of_mem _ tf_Mo_95)
  unfold wp_Mo_drop at hf
  refine lv_aload_n (pc := 0) hx hb d_Mo_drop_0 rfl (lv_at hl 0 rfl) ?_
  refine lv_aload_n (pc := 1) hx hb d_Mo_drop_1 rfl (lv_at hl 0 rfl) ?_
  refine md_gt_Mo_queued (pc := 2) (v := (S.1 2 0)) hx hb hK hts hinMo hown hw.1 hl95 rfl d_Mo_drop_2 ?_
  refine lv_iload_n (pc := 5) hx hb d_Mo_drop_5 rfl (lv_at hl 1 rfl) ?_
  refine lv_isub (pc := 6) hx hb d_Mo_drop_6 ?_
  refine md_pt_Mo_queued (pc := 7) hx hb hK hts hinMo hown hw hl95 d_Mo_drop_7 (fun H locs hw => ?_)
  refine lv_iconst (pc := 10) (v := 0) hx hb d_Mo_drop_10 (by decide) ?_
  refine lv_istore_n (pc := 11) (lv' := [(2, .int (0 : Int32)), (0, .ref (a 0)), (1, .int p0)]) hx hb d_Mo_drop_11 rfl hl (by decide) rfl (fun ls hl => ?_)
  obtain ⟨q12, hf⟩ := hf
  have lp12 : ∀ (n12 : Nat) (x1 : Int32) (x2 : Int32) (S : GS) (H : Heap) (locs : List Loc) (ls : Array Slot), lv_has ls 3 [(0, .ref (a 0)), (1, .int x1), (2, .int x2)] → wf D A s.heap (mdW cI cZ cJ a S) H locs → L_Mo_drop_12 post n12 x1 x2 S → W p l e rm_Mo_drop s m args below meth c H locs 0 0 (MQ below (va_Qv post (gB D (tys cI cZ cJ) (mdW cI cZ cJ a) A) A) args s 0 0 A) (F0 m 12 ls []) := by
    intro n12
    induction n12 with
    | zero => intro x1 x2 S H locs ls hl hw hf; exact False.elim hf
    | succ n12 ih12 =>
      intro x1 x2 S H locs ls hl hw hf
      unfold L_Mo_drop_12 at hf
      refine lv_iload_n (pc := 12) hx hb d_Mo_drop_12 rfl (lv_at hl 2 rfl) ?_
      refine lv_aload_n (pc := 13) hx hb d_Mo_drop_13 rfl (lv_at hl 0 rfl) ?_
      refine md_gt_Mo_queued (pc := 14) (v := (S.1 2 0)) hx hb hK hts hinMo hown hw.1 hl95 rfl d_Mo_drop_14 ?_
      refine lv_icmp_ge (pc := 17) (tgt := 54) hx hb d_Mo_drop_17 (by decide) (fun hc => ?_) (fun hc => ?_)
      · replace hf := hf.1 hc
        exact gr_v (pc := 54) hx hb hr hlk hK S hw hf d_Mo_drop_54
      replace hf := hf.2 hc
      refine lv_aload_n (pc := 20) hx hb d_Mo_drop_20 rfl (lv_at hl 0 rfl) ?_
      refine md_gt_Mo_events (pc := 21) hx hb hK hts hinMo hown hw.1 hl32 d_Mo_drop_21 ?_
      refine lv_iload_n (pc := 24) hx hb d_Mo_drop_24 rfl (lv_at hl 2 rfl) ?_
      refine lv_aload_n (pc := 25) hx hb d_Mo_drop_25 rfl (lv_at hl 0 rfl) ?_
      refine md_gt_Mo_events (pc := 26) hx hb hK hts hinMo hown hw.1 hl32 d_Mo_drop_26 ?_
      refine lv_iload_n (pc := 29) hx hb d_Mo_drop_29 rfl (lv_at hl 2 rfl) ?_
      refine lv_iload_n (pc := 30) hx hb d_Mo_drop_30 rfl (lv_at hl 1 rfl) ?_
      refine lv_iadd (pc := 31) hx hb d_Mo_drop_31 ?_
      refine md_ld8 (pc := 32) (v := ((S.1 14) (x2 + x1).toNatClampNeg)) hx hb hK hw.1 hf.1 rfl d_Mo_drop_32 ?_
      replace hf := hf.2
      refine md_st8 (pc := 33) hx hb hK hw hf.1 d_Mo_drop_33 (fun H locs hw => ?_)
      replace hf := hf.2
      refine lv_aload_n (pc := 34) hx hb d_Mo_drop_34 rfl (lv_at hl 0 rfl) ?_
      refine md_gt_Mo_scans (pc := 35) hx hb hK hts hinMo hown hw.1 hl35 d_Mo_drop_35 ?_
      refine lv_iload_n (pc := 38) hx hb d_Mo_drop_38 rfl (lv_at hl 2 rfl) ?_
      refine lv_aload_n (pc := 39) hx hb d_Mo_drop_39 rfl (lv_at hl 0 rfl) ?_
      refine md_gt_Mo_scans (pc := 40) hx hb hK hts hinMo hown hw.1 hl35 d_Mo_drop_40 ?_
      refine lv_iload_n (pc := 43) hx hb d_Mo_drop_43 rfl (lv_at hl 2 rfl) ?_
      refine lv_iload_n (pc := 44) hx hb d_Mo_drop_44 rfl (lv_at hl 1 rfl) ?_
      refine lv_iadd (pc := 45) hx hb d_Mo_drop_45 ?_
      refine md_ld9 (pc := 46) (v := ((S.1 15) (x2 + x1).toNatClampNeg)) hx hb hK hw.1 hf.1 rfl d_Mo_drop_46 ?_
      replace hf := hf.2
      refine md_st9 (pc := 47) hx hb hK hw hf.1 d_Mo_drop_47 (fun H locs hw => ?_)
      replace hf := hf.2
      have hw : wf D A s.heap (mdW cI cZ cJ a (gI (gI S 14 (upd (S.1 14) (x2).toNatClampNeg ((S.1 14) (x2 + x1).toNatClampNeg))) 15 (upd (S.1 15) (x2).toNatClampNeg ((S.1 15) (x2 + x1).toNatClampNeg)))) H locs := hw
      refine lv_iinc (pc := 48) (k := 2) (v := (x2 + (1 : Int32))) (lv' := [(2, .int (x2 + (1 : Int32))), (0, .ref (a 0)), (1, .int x1)]) hx hb d_Mo_drop_48 hl rfl rfl (by decide) rfl (fun ls hl => ?_)
      refine lv_goto (pc := 51) (tgt := 12) hx hb d_Mo_drop_51 (by decide) ?_
      exact ih12 x1 (x2 + (1 : Int32)) (gI (gI S 14 (upd (S.1 14) (x2).toNatClampNeg ((S.1 14) (x2 + x1).toNatClampNeg))) 15 (upd (S.1 15) (x2).toNatClampNeg ((S.1 15) (x2 + x1).toNatClampNeg))) _ _ _ (lv_sub hl [1, 2, 0] rfl) hw hf
  exact lp12 q12 p0 (0 : Int32) (gI S 2 (fun _ => ((S.1 2 0) - p0))) _ _ _ (lv_sub hl [1, 2, 0] rfl) hw hf
def J_Mo_takeRelease_101 (post : GS → Prop) (x1 : Int32) (x2 : Int32) (x3 : Int32) (x4 : Int32) (S : GS) : Prop := (wp_Mo_change S x3 (-1 : Int32) (fun S104 => (post S104)))
def J_Mo_takeRelease_91 (post : GS → Prop) (x1 : Int32) (x2 : Int32) (x3 : Int32) (x4 : Int32) (S : GS) : Prop := ((x2 = (1 : Int32) → (J_Mo_takeRelease_101 post x1 x2 x3 x4 S)) ∧ (¬ x2 = (1 : Int32) → ((x2 = (3 : Int32) → (J_Mo_takeRelease_101 post x1 x2 x3 x4 S)) ∧ (¬ x2 = (3 : Int32) → (post S)))))
def J_Mo_takeRelease_77 (post : GS → Prop) (k37 : Int32 → Int32 → Int32 → Int32 → Int32 → GS → Prop) (x1 : Int32) (x2 : Int32) (x3 : Int32) (x4 : Int32) (x5 : Int32) (y1 : Int32) (S : GS) : Prop := (vp_in x5 24 ∧ (vp_in y1 24 ∧ (k37 x1 x2 x3 x4 (x5 + (1 : Int32)) (gI S 25 (upd (S.1 25) (y1).toNatClampNeg ((S.1 25) x5.toNatClampNeg))))))
def L_Mo_takeRelease_37 (post : GS → Prop) : Nat → Int32 → Int32 → Int32 → Int32 → Int32 → GS → Prop
  | 0, _, _, _, _, _, _ => False
  | n37 + 1, x1, x2, x3, x4, x5, S => (((24 : Int32) ≤ x5 → (J_Mo_takeRelease_91 post x1 x2 x3 x4 S)) ∧ (¬ (24 : Int32) ≤ x5 → (vp_in x5 24 ∧ ((((S.1 25) x5.toNatClampNeg) = (3 : Int32) → (vp_in x5 24 ∧ ((((S.1 27) x5.toNatClampNeg) = x4 → (vp_in x5 24 ∧ (L_Mo_takeRelease_37 post n37 x1 x2 x3 x4 (x5 + (1 : Int32)) (gI S 25 (upd (S.1 25) (x5).toNatClampNeg (0 : Int32)))))) ∧ (¬ ((S.1 27) x5.toNatClampNeg) = x4 → (J_Mo_takeRelease_77 post (fun z0 z1 z2 z3 z4 z5 => L_Mo_takeRelease_37 post n37 z0 z1 z2 z3 z4 z5) x1 x2 x3 x4 x5 x5 S))))) ∧ (¬ ((S.1 25) x5.toNatClampNeg) = (3 : Int32) → (J_Mo_takeRelease_77 post (fun z0 z1 z2 z3 z4 z5 => L_Mo_takeRelease_37 post n37 z0 z1 z2 z3 z4 z5) x1 x2 x3 x4 x5 x5 S))))))
def wp_Mo_takeRelease (S : GS) (p0 : Int32) (post : GS → Prop) : Prop := (vp_in p0 24 ∧ (vp_in p0 24 ∧ (vp_in p0 24 ∧ (vp_in p0 24 ∧ ((((S.1 25) p0.toNatClampNeg) = (3 : Int32) → (∃ q37, L_Mo_takeRelease_37 post q37 p0 ((S.1 25) p0.toNatClampNeg) ((S.1 26) p0.toNatClampNeg) ((S.1 27) p0.toNatClampNeg) (0 : Int32) (gI S 25 (upd (S.1 25) (p0).toNatClampNeg (0 : Int32))))) ∧ (¬ ((S.1 25) p0.toNatClampNeg) = (3 : Int32) → (J_Mo_takeRelease_91 post p0 ((S.1 25) p0.toNatClampNeg) ((S.1 26) p0.toNatClampNeg) ((S.1 27) p0.toNatClampNeg) (gI S 25 (upd (S.1 25) (p0).toNatClampNeg (0 : Int32))))))))))
abbrev rm_Mo_takeRelease : Room := { frames := 3, cells := 0, slots := 0, locals := 67 }
set_option maxHeartbeats 4000000 in
set_option maxRecDepth 100000 in
theorem c_Mo_takeRelease (l : Launch) (D : va_G) (cI cZ cJ : ClassId) (a : Nat → Nat) (sz : Nat) (S : GS) (p0 : Int32) (post : GS → Prop) (hf : wp_Mo_takeRelease S p0 post) : Met l y_Mo_takeRelease ws_Mo_takeRelease rm_Mo_takeRelease (va_Pc [.ref (a 0), .int p0] (gPre D (tys cI cZ cJ) (mdW cI cZ cJ a S) sz)) (va_Qv post (gB D (tys cI cZ cJ) (mdW cI cZ cJ a) (va_A (mdW cI cZ cJ a S) sz)) (va_A (mdW cI cZ cJ a S) sz)) 0 0 (va_A (mdW cI cZ cJ a S) sz) := by
  refine gm_w (QF := fun A => va_Qv post (gB D (tys cI cZ cJ) (mdW cI cZ cJ a) A) A) (cc := b_Mo_takeRelease) (maxL := 6) (by decide) rfl (Nat.le_of_ble_eq_true rfl) ?_
  intro p e s m args below meth c A ls hx hb hr hts hown hmn hlk hml hK hA hw hl
  have hl : lv_has ls 6 [(0, .ref (a 0)), (1, .int p0)] := hl
  have hinMo : ∀ w ∈ u_ws R_Mo T_Mo 30, w ∈ ws_Mo_takeRelease := fun w h => List.mem_cons_of_mem _ (tl_Mo w h)
  have hl65 := hts _ (List.mem_cons_of_mem _ tf_Mo_65)
  have hl68 := hts _ (List.mem_cons_of_mem _ tf_Mo_68)
  have hl71 := hts _ (List.mem_cons_of_mem _ tf_Mo_71)
  have jn101 : ∀ (x1 : Int32) (x2 : Int32) (x3 : Int32) (x4 : Int32) (S : GS) (H : Heap) (locs : List Loc) (ls : Array Slot), lv_has ls 6 [(0, .ref (a 0)), (1, .int x1), (2, .int x2), (3, .int x3), (4, .int x4)] → wf D A s.heap (mdW cI cZ cJ a S) H locs → J_Mo_takeRelease_101 post x1 x2 x3 x4 S → W p l e rm_Mo_takeRelease s m args below meth c H locs 0 0 (MQ below (va_Qv post (gB D (tys cI cZ cJ) (mdW cI cZ cJ a) A) A) args s 0 0 A) (F0 m 101 ls []) := by
    intro x1 x2 x3 x4 S H locs ls hl hw hf
    unfold J_Mo_takeRelease_101 at hf
    refine lv_aload_n (pc := 101) hx hb d_Mo_takeRelease_101 rfl (lv_at hl 0 rfl) ?_
    refine lv_iload_n (pc := 102) hx hb d_Mo_takeRelease_102 rfl (lv_at hl 3 rfl) ?_
    refine lv_iconst (pc := 103) (v := -1) hx hb d_Mo_takeRelease_103 (by decide) ?_
    refine gc_v (pc := 104) (Wf := mdW cI cZ cJ a) hw hA (va_runV (As := [.int x3, .int (-1 : Int32)]) (rest := []) ⟨hx, hb, hml, hown, hts⟩ (c_Mo_change l D cI cZ cJ a _ _ _ _ _ hf) (cwV 2 hts (tb_wsV tc_Mo_change tm_Mo_127 ti_Mo_change te_Mo_change tz_Mo) rfl rfl rfl (by decide +kernel) ⟨Nat.le_of_ble_eq_true rfl, Nat.le_of_ble_eq_true rfl⟩) (g_preV (q0 := 0) (ci := 9) hK hw rfl rfl) rfl rfl hl.1 rfl (lv_room (Nat.le_of_ble_eq_true rfl)) d_Mo_takeRelease_104 ⟨Nat.zero_le _, Nat.zero_le _⟩) (fun S104 H locs hw hf => ?_)
    exact gr_v (pc := 107) hx hb hr hlk hK S104 hw hf d_Mo_takeRelease_107
  have jn91 : ∀ (x1 : Int32) (x2 : Int32) (x3 : Int32) (x4 : Int32) (S : GS) (H : Heap) (locs : List Loc) (ls : Array Slot), lv_has ls 6 [(0, .ref (a 0)), (1, .int x1), (2, .int x2), (3, .int x3), (4, .int x4)] → wf D A s.heap (mdW cI cZ cJ a S) H locs → J_Mo_takeRelease_91 post x1 x2 x3 x4 S → W p l e rm_Mo_takeRelease s m args below meth c H locs 0 0 (MQ below (va_Qv post (gB D (tys cI cZ cJ) (mdW cI cZ cJ a) A) A) args s 0 0 A) (F0 m 91 ls []) := by
    intro x1 x2 x3 x4 S H locs ls hl hw hf
    unfold J_Mo_takeRelease_91 at hf
    refine lv_iload_n (pc := 91) hx hb d_Mo_takeRelease_91 rfl (lv_at hl 2 rfl) ?_
    refine lv_iconst (pc := 92) (v := 1) hx hb d_Mo_takeRelease_92 (by decide) ?_
    refine lv_icmp_eq (pc := 93) (tgt := 101) hx hb d_Mo_takeRelease_93 (by decide) (fun hc => ?_) (fun hc => ?_)
    · replace hf := hf.1 hc
      exact jn101 x1 x2 x3 x4 S _ _ _ (lv_sub hl [0, 1, 2, 3, 4] rfl) hw hf
    replace hf := hf.2 hc
    refine lv_iload_n (pc := 96) hx hb d_Mo_takeRelease_96 rfl (lv_at hl 2 rfl) ?_
    refine lv_iconst (pc := 97) (v := 3) hx hb d_Mo_takeRelease_97 (by decide) ?_
    refine lv_icmp_ne (pc := 98) (tgt := 107) hx hb d_Mo_takeRelease_98 (by decide) (fun hc => ?_) (fun hc => ?_)
    · replace hf := hf.2 hc
      exact gr_v (pc := 107) hx hb hr hlk hK S hw hf d_Mo_takeRelease_107
    replace hf := hf.1 hc
    exact jn101 x1 x2 x3 x4 S _ _ _ (lv_sub hl [0, 1, 2, 3, 4] rfl) hw hf
  unfold wp_Mo_takeRelease at hf
  refine lv_aload_n (pc := 0) hx hb d_Mo_takeRelease_0 rfl (lv_at hl 0 rfl) ?_
  refine md_gt_Mo_began (pc := 1) hx hb hK hts hinMo hown hw.1 hl65 d_Mo_takeRelease_1 ?_
  refine lv_iload_n (pc := 4) hx hb d_Mo_takeRelease_4 rfl (lv_at hl 1 rfl) ?_
  refine md_ld19 (pc := 5) (v := ((S.1 25) p0.toNatClampNeg)) hx hb hK hw.1 hf.1 rfl d_Mo_takeRelease_5 ?_
  replace hf := hf.2
  refine lv_istore_n (pc := 6) (lv' := [(2, .int ((S.1 25) p0.toNatClampNeg)), (0, .ref (a 0)), (1, .int p0)]) hx hb d_Mo_takeRelease_6 rfl hl (by decide) rfl (fun ls hl => ?_)
  refine lv_aload_n (pc := 7) hx hb d_Mo_takeRelease_7 rfl (lv_at hl 1 rfl) ?_
  refine md_gt_Mo_beganWhat (pc := 8) hx hb hK hts hinMo hown hw.1 hl68 d_Mo_takeRelease_8 ?_
  refine lv_iload_n (pc := 11) hx hb d_Mo_takeRelease_11 rfl (lv_at hl 2 rfl) ?_
  refine md_ld20 (pc := 12) (v := ((S.1 26) p0.toNatClampNeg)) hx hb hK hw.1 hf.1 rfl d_Mo_takeRelease_12 ?_
  replace hf := hf.2
  refine lv_istore_n (pc := 13) (lv' := [(3, .int ((S.1 26) p0.toNatClampNeg)), (2, .int ((S.1 25) p0.toNatClampNeg)), (0, .ref (a 0)), (1, .int p0)]) hx hb d_Mo_takeRelease_13 rfl hl (by decide) rfl (fun ls hl => ?_)
  refine lv_aload_n (pc := 14) hx hb d_Mo_takeRelease_14 rfl (lv_at hl 2 rfl) ?_
  refine md_gt_Mo_beganChord (pc := 15) hx hb hK hts hinMo hown hw.1 hl71 d_Mo_takeRelease_15 ?_
  refine lv_iload_n (pc := 18) hx hb d_Mo_takeRelease_18 rfl (lv_at hl 3 rfl) ?_
  refine md_ld21 (pc := 19) (v := ((S.1 27) p0.toNatClampNeg)) hx hb hK hw.1 hf.1 rfl d_Mo_takeRelease_19 ?_
  replace hf := hf.2
  refine lv_istore (pc := 20) (lv' := [(4, .int ((S.1 27) p0.toNatClampNeg)), (3, .int ((S.1 26) p0.toNatClampNeg)), (2, .int ((S.1 25) p0.toNatClampNeg)), (0, .ref (a 0)), (1, .int p0)]) hx hb d_Mo_takeRelease_20 hl (by decide) rfl (fun ls hl => ?_)
  refine lv_aload_n (pc := 22) hx hb d_Mo_takeRelease_22 rfl (lv_at hl 3 rfl) ?_
  refine md_gt_Mo_began (pc := 23) hx hb hK hts hinMo hown hw.1 hl65 d_Mo_takeRelease_23 ?_
  refine lv_iload_n (pc := 26) hx hb d_Mo_takeRelease_26 rfl (lv_at hl 4 rfl) ?_
  refine lv_iconst (pc := 27) (v := 0) hx hb d_Mo_takeRelease_27 (by decide) ?_
  refine md_st19 (pc := 28) hx hb hK hw hf.1 d_Mo_takeRelease_28 (fun H locs hw => ?_)
  replace hf := hf.2
  refine lv_iload_n (pc := 29) hx hb d_Mo_takeRelease_29 rfl (lv_at hl 2 rfl) ?_
  refine lv_iconst (pc := 30) (v := 3) hx hb d_Mo_takeRelease_30 (by decide) ?_
  refine lv_icmp_ne (pc := 31) (tgt := 91) hx hb d_Mo_takeRelease_31 (by decide) (fun hc => ?_) (fun hc => ?_)
  · replace hf := hf.2 hc
    exact jn91 p0 ((S.1 25) p0.toNatClampNeg) ((S.1 26) p0.toNatClampNeg) ((S.1 27) p0.toNatClampNeg) (gI S 25 (upd (S.1 25) (p0).toNatClampNeg (0 : Int32))) _ _ _ (lv_sub hl [3, 4, 2, 1, 0] rfl) hw hf
  replace hf := hf.1 hc
  refine lv_iconst (pc := 34) (v := 0) hx hb d_Mo_takeRelease_34 (by decide) ?_
  refine lv_istore (pc := 35) (lv' := [(5, .int (0 : Int32)), (4, .int ((S.1 27) p0.toNatClampNeg)), (3, .int ((S.1 26) p0.toNatClampNeg)), (2, .int ((S.1 25) p0.toNatClampNeg)), (0, .ref (a 0)), (1, .int p0)]) hx hb d_Mo_takeRelease_35 hl (by decide) rfl (fun ls hl => ?_)
  obtain ⟨q37, hf⟩ := hf
  have lp37 : ∀ (n37 : Nat) (x1 : Int32) (x2 : Int32) (x3 : Int32) (x4 : Int32) (x5 : Int32) (S : GS) (H : Heap) (locs : List Loc) (ls : Array Slot), lv_has ls 6 [(0, .ref (a 0)), (1, .int x1), (2, .int x2), (3, .int x3), (4, .int x4), (5, .int x5)] → wf D A s.heap (mdW cI cZ cJ a S) H locs → L_Mo_takeRelease_37 post n37 x1 x2 x3 x4 x5 S → W p l e rm_Mo_takeRelease s m args below meth c H locs 0 0 (MQ below (va_Qv post (gB D (tys cI cZ cJ) (mdW cI cZ cJ a) A) A) args s 0 0 A) (F0 m 37 ls []) := by
    intro n37
    induction n37 with
    | zero => intro x1 x2 x3 x4 x5 S H locs ls hl hw hf; exact False.elim hf
    | succ n37 ih37 =>
      have jn77 : ∀ (x1 : Int32) (x2 : Int32) (x3 : Int32) (x4 : Int32) (x5 : Int32) (y1 : Int32) (S : GS) (H : Heap) (locs : List Loc) (ls : Array Slot), lv_has ls 6 [(0, .ref (a 0)), (1, .int x1), (2, .int x2), (3, .int x3), (4, .int x4), (5, .int x5)] → wf D A s.heap (mdW cI cZ cJ a S) H locs → J_Mo_takeRelease_77 post (fun z0 z1 z2 z3 z4 z5 => L_Mo_takeRelease_37 post n37 z0 z1 z2 z3 z4 z5) x1 x2 x3 x4 x5 y1 S → W p l e rm_Mo_takeRelease s m args below meth c H locs 0 0 (MQ below (va_Qv post (gB D (tys cI cZ cJ) (mdW cI cZ cJ a) A) A) args s 0 0 A) (F0 m 77 ls [.int y1, .ref (a 19)]) := by
        intro x1 x2 x3 x4 x5 y1 S H locs ls hl hw hf
        unfold J_Mo_takeRelease_77 at hf
        refine lv_aload_n (pc := 77) hx hb d_Mo_takeRelease_77 rfl (lv_at hl 0 rfl) ?_
        refine md_gt_Mo_began (pc := 78) hx hb hK hts hinMo hown hw.1 hl65 d_Mo_takeRelease_78 ?_
        refine lv_iload (pc := 81) hx hb d_Mo_takeRelease_81 (lv_at hl 5 rfl) ?_
        refine md_ld19 (pc := 83) (v := ((S.1 25) x5.toNatClampNeg)) hx hb hK hw.1 hf.1 rfl d_Mo_takeRelease_83 ?_
        replace hf := hf.2
        refine md_st19 (pc := 84) hx hb hK hw hf.1 d_Mo_takeRelease_84 (fun H locs hw => ?_)
        replace hf := hf.2
        refine lv_iinc (pc := 85) (k := 5) (v := (x5 + (1 : Int32))) (lv' := [(5, .int (x5 + (1 : Int32))), (0, .ref (a 0)), (1, .int x1), (2, .int x2), (3, .int x3), (4, .int x4)]) hx hb d_Mo_takeRelease_85 hl rfl rfl (by decide) rfl (fun ls hl => ?_)
        refine lv_goto (pc := 88) (tgt := 37) hx hb d_Mo_takeRelease_88 (by decide) ?_
        exact ih37 x1 x2 x3 x4 (x5 + (1 : Int32)) (gI S 25 (upd (S.1 25) (y1).toNatClampNeg ((S.1 25) x5.toNatClampNeg))) _ _ _ (lv_sub hl [1, 2, 3, 4, 5, 0] rfl) hw hf
      intro x1 x2 x3 x4 x5 S H locs ls hl hw hf
      unfold L_Mo_takeRelease_37 at hf
      refine lv_iload (pc := 37) hx hb d_Mo_takeRelease_37 (lv_at hl 5 rfl) ?_
      refine lv_bipush (pc := 39) (v := 24) hx hb d_Mo_takeRelease_39 (by decide) ?_
      refine lv_icmp_ge (pc := 41) (tgt := 91) hx hb d_Mo_takeRelease_41 (by decide) (fun hc => ?_) (fun hc => ?_)
      · replace hf := hf.1 hc
        exact jn91 x1 x2 x3 x4 S _ _ _ (lv_sub hl [0, 1, 2, 3, 4] rfl) hw hf
      replace hf := hf.2 hc
      refine lv_aload_n (pc := 44) hx hb d_Mo_takeRelease_44 rfl (lv_at hl 0 rfl) ?_
      refine md_gt_Mo_began (pc := 45) hx hb hK hts hinMo hown hw.1 hl65 d_Mo_takeRelease_45 ?_
      refine lv_iload (pc := 48) hx hb d_Mo_takeRelease_48 (lv_at hl 5 rfl) ?_
      refine lv_aload_n (pc := 50) hx hb d_Mo_takeRelease_50 rfl (lv_at hl 0 rfl) ?_
      refine md_gt_Mo_began (pc := 51) hx hb hK hts hinMo hown hw.1 hl65 d_Mo_takeRelease_51 ?_
      refine lv_iload (pc := 54) hx hb d_Mo_takeRelease_54 (lv_at hl 5 rfl) ?_
      refine md_ld19 (pc := 56) (v := ((S.1 25) x5.toNatClampNeg)) hx hb hK hw.1 hf.1 rfl d_Mo_takeRelease_56 ?_
      replace hf := hf.2
      refine lv_iconst (pc := 57) (v := 3) hx hb d_Mo_takeRelease_57 (by decide) ?_
      refine lv_icmp_ne (pc := 58) (tgt := 77) hx hb d_Mo_takeRelease_58 (by decide) (fun hc => ?_) (fun hc => ?_)
      · replace hf := hf.2 hc
        exact jn77 x1 x2 x3 x4 x5 x5 S _ _ _ (lv_sub hl [0, 1, 2, 3, 4, 5] rfl) hw hf
      replace hf := hf.1 hc
      refine lv_aload_n (pc := 61) hx hb d_Mo_takeRelease_61 rfl (lv_at hl 0 rfl) ?_
      refine md_gt_Mo_beganChord (pc := 62) hx hb hK hts hinMo hown hw.1 hl71 d_Mo_takeRelease_62 ?_
      refine lv_iload (pc := 65) hx hb d_Mo_takeRelease_65 (lv_at hl 5 rfl) ?_
      refine md_ld21 (pc := 67) (v := ((S.1 27) x5.toNatClampNeg)) hx hb hK hw.1 hf.1 rfl d_Mo_takeRelease_67 ?_
      replace hf := hf.2
      refine lv_iload (pc := 68) hx hb d_Mo_takeRelease_68 (lv_at hl 4 rfl) ?_
      refine lv_icmp_ne (pc := 70) (tgt := 77) hx hb d_Mo_takeRelease_70 (by decide) (fun hc => ?_) (fun hc => ?_)
      · replace hf := hf.2 hc
        exact jn77 x1 x2 x3 x4 x5 x5 S _ _ _ (lv_sub hl [0, 1, 2, 3, 4, 5] rfl) hw hf
      replace hf := hf.1 hc
      refine lv_iconst (pc := 73) (v := 0) hx hb d_Mo_takeRelease_73 (by decide) ?_
      refine lv_goto (pc := 74) (tgt := 84) hx hb d_Mo_takeRelease_74 (by decide) ?_
      refine md_st19 (pc := 84) hx hb hK hw hf.1 d_Mo_takeRelease_84 (fun H locs hw => ?_)
      replace hf := hf.2
      refine lv_iinc (pc := 85) (k := 5) (v := (x5 + (1 : Int32))) (lv' := [(5, .int (x5 + (1 : Int32))), (0, .ref (a 0)), (1, .int x1), (2, .int x2), (3, .int x3), (4, .int x4)]) hx hb d_Mo_takeRelease_85 hl rfl rfl (by decide) rfl (fun ls hl => ?_)
      refine lv_goto (pc := 88) (tgt := 37) hx hb d_Mo_takeRelease_88 (by decide) ?_
      exact ih37 x1 x2 x3 x4 (x5 + (1 : Int32)) (gI S 25 (upd (S.1 25) (x5).toNatClampNeg (0 : Int32))) _ _ _ (lv_sub hl [1, 2, 3, 4, 5, 0] rfl) hw hf
  exact lp37 q37 p0 ((S.1 25) p0.toNatClampNeg) ((S.1 26) p0.toNatClampNeg) ((S.1 27) p0.toNatClampNeg) (0 : Int32) (gI S 25 (upd (S.1 25) (p0).toNatClampNeg (0 : Int32))) _ _ _ (lv_sub hl [4, 5, 3, 2, 1, 0] rfl) hw hf
def L_Mo_rowLength_2 (S : GS) (post : Int32 → Prop) : Nat → Int32 → Prop
  | 0, _ => False
  | n2 + 1, x1 => (((S.1 2 0) ≤ x1 → (post x1)) ∧ (¬ (S.1 2 0) ≤ x1 → (vp_in x1 80 ∧ (((((S.1 14) x1.toNatClampNeg) - ((S.1 14) x1.toNatClampNeg) / (2 : Int32) * (2 : Int32)) = (1 : Int32) → (vp_in x1 80 ∧ (vp_in (0 : Int32) 80 ∧ (((((S.1 15) (0 : Int32).toNatClampNeg) + (9 : Int32)) < ((S.1 15) x1.toNatClampNeg) → (post x1)) ∧ (¬ (((S.1 15) (0 : Int32).toNatClampNeg) + (9 : Int32)) < ((S.1 15) x1.toNatClampNeg) → (L_Mo_rowLength_2 S post n2 (x1 + (1 : Int32)))))))) ∧ (¬ (((S.1 14) x1.toNatClampNeg) - ((S.1 14) x1.toNatClampNeg) / (2 : Int32) * (2 : Int32)) = (1 : Int32) → (post x1))))))
def wp_Mo_rowLength (S : GS) (post : Int32 → Prop) : Prop := (∃ q2, L_Mo_rowLength_2 S post q2 (0 : Int32))
abbrev rm_Mo_rowLength : Room := { frames := 0, cells := 0, slots := 0, locals := 0 }
set_option maxHeartbeats 4000000 in
set_option maxRecDepth 100000 in
theorem c_Mo_rowLength (l : Launch) (D : va_G) (cI cZ cJ : ClassId) (a : Nat → Nat) (S : GS) (post : Int32 → Prop) (hf : wp_Mo_rowLength S post) : Met l y_Mo_rowLength ws_Mo_rowLength rm_Mo_rowLength (va_Pc [.ref (a 0)] (rPre D (tys cI cZ cJ) (mdW cI cZ cJ a S))) (vp_Si post) 0 0 (fun _ => False) := by
  refine gm_r (cc := b_Mo_rowLength) (maxL := 2) (by decide) rfl (Nat.le_of_ble_eq_true rfl) ?_
  intro p e s m args below meth c ls hx hb hr hts hown hlk hml hK hP hl
  have hl : lv_has ls 2 [(0, .ref (a 0))] := hl
  have hinMo : ∀ w ∈ u_ws R_Mo T_Mo 30, w ∈ ws_Mo_rowLength := fun w h => List.mem_cons_of_mem _ (tl_Mo w h)
  have hl32 := hts _ (List.mem_cons_of_mem _ tf_Mo_32)
  have hl35 := hts _ (List.mem_cons_of_mem _ tf_Mo_35)
  have hl95 := hts _ (List.mem_cons_of_mem _ tf_Mo_95)
  unfold wp_Mo_rowLength at hf
  refine lv_iconst (pc := 0) (v := 0) hx hb d_Mo_rowLength_0 (by decide) ?_
  refine lv_istore_n (pc := 1) (lv' := [(1, .int (0 : Int32)), (0, .ref (a 0))]) hx hb d_Mo_rowLength_1 rfl hl (by decide) rfl (fun ls hl => ?_)
  obtain ⟨q2, hf⟩ := hf
  have lp2 : ∀ (n2 : Nat) (x1 : Int32) (ls : Array Slot), lv_has ls 2 [(0, .ref (a 0)), (1, .int x1)] → L_Mo_rowLength_2 S post n2 x1 → W p l e rm_Mo_rowLength s m args below meth c s.heap [] 0 0 (MQ below (vp_Si post) args s 0 0 (fun _ => False)) (F0 m 2 ls []) := by
    intro n2
    induction n2 with
    | zero => intro x1 ls hl hf; exact False.elim hf
    | succ n2 ih2 =>
      intro x1 ls hl hf
      unfold L_Mo_rowLength_2 at hf
      refine lv_iload_n (pc := 2) hx hb d_Mo_rowLength_2 rfl (lv_at hl 1 rfl) ?_
      refine lv_aload_n (pc := 3) hx hb d_Mo_rowLength_3 rfl (lv_at hl 0 rfl) ?_
      refine md_gt_Mo_queued (pc := 4) (v := (S.1 2 0)) hx hb hK hts hinMo hown hP hl95 rfl d_Mo_rowLength_4 ?_
      refine lv_icmp_ge (pc := 7) (tgt := 46) hx hb d_Mo_rowLength_7 (by decide) (fun hc => ?_) (fun hc => ?_)
      · replace hf := hf.1 hc
        refine lv_iload_n (pc := 46) hx hb d_Mo_rowLength_46 rfl (lv_at hl 1 rfl) ?_
        exact rr_i (pc := 47) hx hb hr hlk hf d_Mo_rowLength_47
      replace hf := hf.2 hc
      refine lv_aload_n (pc := 10) hx hb d_Mo_rowLength_10 rfl (lv_at hl 0 rfl) ?_
      refine md_gt_Mo_events (pc := 11) hx hb hK hts hinMo hown hP hl32 d_Mo_rowLength_11 ?_
      refine lv_iload_n (pc := 14) hx hb d_Mo_rowLength_14 rfl (lv_at hl 1 rfl) ?_
      refine md_ld8 (pc := 15) (v := ((S.1 14) x1.toNatClampNeg)) hx hb hK hP hf.1 rfl d_Mo_rowLength_15 ?_
      replace hf := hf.2
      refine lv_iconst (pc := 16) (v := 2) hx hb d_Mo_rowLength_16 (by decide) ?_
      refine lv_irem (pc := 17) hx hb d_Mo_rowLength_17 (by decide) ?_
      refine lv_iconst (pc := 18) (v := 1) hx hb d_Mo_rowLength_18 (by decide) ?_
      refine lv_icmp_ne (pc := 19) (tgt := 46) hx hb d_Mo_rowLength_19 (by decide) (fun hc => ?_) (fun hc => ?_)
      · replace hf := hf.2 hc
        refine lv_iload_n (pc := 46) hx hb d_Mo_rowLength_46 rfl (lv_at hl 1 rfl) ?_
        exact rr_i (pc := 47) hx hb hr hlk hf d_Mo_rowLength_47
      replace hf := hf.1 hc
      refine lv_aload_n (pc := 22) hx hb d_Mo_rowLength_22 rfl (lv_at hl 0 rfl) ?_
      refine md_gt_Mo_scans (pc := 23) hx hb hK hts hinMo hown hP hl35 d_Mo_rowLength_23 ?_
      refine lv_iload_n (pc := 26) hx hb d_Mo_rowLength_26 rfl (lv_at hl 1 rfl) ?_
      refine md_ld9 (pc := 27) (v := ((S.1 15) x1.toNatClampNeg)) hx hb hK hP hf.1 rfl d_Mo_rowLength_27 ?_
      replace hf := hf.2
      refine lv_aload_n (pc := 28) hx hb d_Mo_rowLength_28 rfl (lv_at hl 0 rfl) ?_
      refine md_gt_Mo_scans (pc := 29) hx hb hK hts hinMo hown hP hl35 d_Mo_rowLength_29 ?_
      refine lv_iconst (pc := 32) (v := 0) hx hb d_Mo_rowLength_32 (by decide) ?_
      refine md_ld9 (pc := 33) (v := ((S.1 15) (0 : Int32).toNatClampNeg)) hx hb hK hP hf.1 rfl d_Mo_rowLength_33 ?_
      replace hf := hf.2
      refine lv_bipush (pc := 34) (v := 9) hx hb d_Mo_rowLength_34 (by decide) ?_
      refine lv_iadd (pc := 36) hx hb d_Mo_rowLength_36 ?_
      refine lv_icmp_gt (pc := 37) (tgt := 46) hx hb d_Mo_rowLength_37 (by decide) (fun hc => ?_) (fun hc => ?_)
      · replace hf := hf.1 hc
        refine lv_iload_n (pc := 46) hx hb d_Mo_rowLength_46 rfl (lv_at hl 1 rfl) ?_
        exact rr_i (pc := 47) hx hb hr hlk hf d_Mo_rowLength_47
      replace hf := hf.2 hc
      refine lv_iinc (pc := 40) (k := 1) (v := (x1 + (1 : Int32))) (lv' := [(1, .int (x1 + (1 : Int32))), (0, .ref (a 0))]) hx hb d_Mo_rowLength_40 hl rfl rfl (by decide) rfl (fun ls hl => ?_)
      refine lv_goto (pc := 43) (tgt := 2) hx hb d_Mo_rowLength_43 (by decide) ?_
      exact ih2 (x1 + (1 : Int32)) _ (lv_sub hl [1, 0] rfl) hf
  exact lp2 q2 (0 : Int32) _ (lv_sub hl [1, 0] rfl) hf
def L_Mo_keysOf_4 (S : GS) (post : Int32 → Prop) : Nat → Int32 → Int32 → Int32 → Prop
  | 0, _, _, _ => False
  | n4 + 1, x1, x2, x3 => ((x1 ≤ x3 → (post x2)) ∧ (¬ x1 ≤ x3 → (vp_in x3 80 ∧ (L_Mo_keysOf_4 S post n4 x1 (x2 ||| ((1 : Int32) <<< ((((S.1 14) x3.toNatClampNeg) / (2 : Int32)) &&& 31))) (x3 + (1 : Int32))))))
def wp_Mo_keysOf (S : GS) (p0 : Int32) (post : Int32 → Prop) : Prop := (∃ q4, L_Mo_keysOf_4 S post q4 p0 (0 : Int32) (0 : Int32))
abbrev rm_Mo_keysOf : Room := { frames := 0, cells := 0, slots := 0, locals := 0 }
set_option maxHeartbeats 4000000 in
set_option maxRecDepth 100000 in
theorem c_Mo_keysOf (l : Launch) (D : va_G) (cI cZ cJ : ClassId) (a : Nat → Nat) (S : GS) (p0 : Int32) (post : Int32 → Prop) (hf : wp_Mo_keysOf S p0 post) : Met l y_Mo_keysOf ws_Mo_keysOf rm_Mo_keysOf (va_Pc [.ref (a 0), .int p0] (rPre D (tys cI cZ cJ) (mdW cI cZ cJ a S))) (vp_Si post) 0 0 (fun _ => False) := by
  refine gm_r (cc := b_Mo_keysOf) (maxL := 4) (by decide) rfl (Nat.le_of_ble_eq_true rfl) ?_
  intro p e s m args below meth c ls hx hb hr hts hown hlk hml hK hP hl
  have hl : lv_has ls 4 [(0, .ref (a 0)), (1, .int p0)] := hl
  have hinMo : ∀ w ∈ u_ws R_Mo T_Mo 30, w ∈ ws_Mo_keysOf := fun w h => List.mem_cons_of_mem _ (tl_Mo w h)
  have hl32 := hts _ (List.mem_cons_of_mem _ tf_Mo_32)
  unfold wp_Mo_keysOf at hf
  refine lv_iconst (pc := 0) (v := 0) hx hb d_Mo_keysOf_0 (by decide) ?_
  refine lv_istore_n (pc := 1) (lv' := [(2, .int (0 : Int32)), (0, .ref (a 0)), (1, .int p0)]) hx hb d_Mo_keysOf_1 rfl hl (by decide) rfl (fun ls hl => ?_)
  refine lv_iconst (pc := 2) (v := 0) hx hb d_Mo_keysOf_2 (by decide) ?_
  refine lv_istore_n (pc := 3) (lv' := [(3, .int (0 : Int32)), (2, .int (0 : Int32)), (0, .ref (a 0)), (1, .int p0)]) hx hb d_Mo_keysOf_3 rfl hl (by decide) rfl (fun ls hl => ?_)
  obtain ⟨q4, hf⟩ := hf
  have lp4 : ∀ (n4 : Nat) (x1 : Int32) (x2 : Int32) (x3 : Int32) (ls : Array Slot), lv_has ls 4 [(0, .ref (a 0)), (1, .int x1), (2, .int x2), (3, .int x3)] → L_Mo_keysOf_4 S post n4 x1 x2 x3 → W p l e rm_Mo_keysOf s m args below meth c s.heap [] 0 0 (MQ below (vp_Si post) args s 0 0 (fun _ => False)) (F0 m 4 ls []) := by
    intro n4
    induction n4 with
    | zero => intro x1 x2 x3 ls hl hf; exact False.elim hf
    | succ n4 ih4 =>
      intro x1 x2 x3 ls hl hf
      unfold L_Mo_keysOf_4 at hf
      refine lv_iload_n (pc := 4) hx hb d_Mo_keysOf_4 rfl (lv_at hl 3 rfl) ?_
      refine lv_iload_n (pc := 5) hx hb d_Mo_keysOf_5 rfl (lv_at hl 1 rfl) ?_
      refine lv_icmp_ge (pc := 6) (tgt := 28) hx hb d_Mo_keysOf_6 (by decide) (fun hc => ?_) (fun hc => ?_)
      · replace hf := hf.1 hc
        refine lv_iload_n (pc := 28) hx hb d_Mo_keysOf_28 rfl (lv_at hl 2 rfl) ?_
        exact rr_i (pc := 29) hx hb hr hlk hf d_Mo_keysOf_29
      replace hf := hf.2 hc
      refine lv_iload_n (pc := 9) hx hb d_Mo_keysOf_9 rfl (lv_at hl 2 rfl) ?_
      refine lv_iconst (pc := 10) (v := 1) hx hb d_Mo_keysOf_10 (by decide) ?_
      refine lv_aload_n (pc := 11) hx hb d_Mo_keysOf_11 rfl (lv_at hl 0 rfl) ?_
      refine md_gt_Mo_events (pc := 12) hx hb hK hts hinMo hown hP hl32 d_Mo_keysOf_12 ?_
      refine lv_iload_n (pc := 15) hx hb d_Mo_keysOf_15 rfl (lv_at hl 3 rfl) ?_
      refine md_ld8 (pc := 16) (v := ((S.1 14) x3.toNatClampNeg)) hx hb hK hP hf.1 rfl d_Mo_keysOf_16 ?_
      replace hf := hf.2
      refine lv_iconst (pc := 17) (v := 2) hx hb d_Mo_keysOf_17 (by decide) ?_
      refine lv_idiv (pc := 18) hx hb d_Mo_keysOf_18 (by decide) ?_
      refine lv_ishl (pc := 19) hx hb d_Mo_keysOf_19 ?_
      refine lv_ior (pc := 20) hx hb d_Mo_keysOf_20 ?_
      refine lv_istore_n (pc := 21) (lv' := [(2, .int (x2 ||| ((1 : Int32) <<< ((((S.1 14) x3.toNatClampNeg) / (2 : Int32)) &&& 31)))), (0, .ref (a 0)), (1, .int x1), (3, .int x3)]) hx hb d_Mo_keysOf_21 rfl hl (by decide) rfl (fun ls hl => ?_)
      refine lv_iinc (pc := 22) (k := 3) (v := (x3 + (1 : Int32))) (lv' := [(3, .int (x3 + (1 : Int32))), (2, .int (x2 ||| ((1 : Int32) <<< ((((S.1 14) x3.toNatClampNeg) / (2 : Int32)) &&& 31)))), (0, .ref (a 0)), (1, .int x1)]) hx hb d_Mo_keysOf_22 hl rfl rfl (by decide) rfl (fun ls hl => ?_)
      refine lv_goto (pc := 25) (tgt := 4) hx hb d_Mo_keysOf_25 (by decide) ?_
      exact ih4 x1 (x2 ||| ((1 : Int32) <<< ((((S.1 14) x3.toNatClampNeg) / (2 : Int32)) &&& 31))) (x3 + (1 : Int32)) _ (lv_sub hl [2, 3, 1, 0] rfl) hf
  exact lp4 q4 p0 (0 : Int32) (0 : Int32) _ (lv_sub hl [2, 3, 1, 0] rfl) hf
def J_Mo_waitsForChord_45 (S : GS) (post : Int32 → Prop) (k11 : Int32 → Int32 → Int32 → Int32 → Prop) (x1 : Int32) (x2 : Int32) (x3 : Int32) (x4 : Int32) : Prop := (k11 x1 x2 (1 : Int32) (x4 + (1 : Int32)))
def L_Mo_waitsForChord_11 (S : GS) (post : Int32 → Prop) : Nat → Int32 → Int32 → Int32 → Int32 → Prop
  | 0, _, _, _, _ => False
  | n11 + 1, x1, x2, x3, x4 => (((4 : Int32) ≤ x4 → ((x3 = (0 : Int32) → (post (0 : Int32))) ∧ (¬ x3 = (0 : Int32) → ((x1 = (S.1 2 0) → (((8 : Int32) < (S.1 2 0) → (post (0 : Int32))) ∧ (¬ (8 : Int32) < (S.1 2 0) → (vp_in (0 : Int32) 80 ∧ (((((S.1 15) (0 : Int32).toNatClampNeg) + (9 : Int32)) ≤ (S.1 1 0) → (post (0 : Int32))) ∧ (¬ (((S.1 15) (0 : Int32).toNatClampNeg) + (9 : Int32)) ≤ (S.1 1 0) → (post (1 : Int32)))))))) ∧ (¬ x1 = (S.1 2 0) → (post (0 : Int32))))))) ∧ (¬ (4 : Int32) ≤ x4 → ((x3 = (0 : Int32) → (vp_in x4 4 ∧ (((((S.1 21) x4.toNatClampNeg) &&& x2) = x2 → (vp_in x4 4 ∧ ((((S.1 21) x4.toNatClampNeg) = x2 → (L_Mo_waitsForChord_11 S post n11 x1 x2 (0 : Int32) (x4 + (1 : Int32)))) ∧ (¬ ((S.1 21) x4.toNatClampNeg) = x2 → (J_Mo_waitsForChord_45 S post (fun z0 z1 z2 z3 => L_Mo_waitsForChord_11 S post n11 z0 z1 z2 z3) x1 x2 x3 x4))))) ∧ (¬ (((S.1 21) x4.toNatClampNeg) &&& x2) = x2 → (L_Mo_waitsForChord_11 S post n11 x1 x2 (0 : Int32) (x4 + (1 : Int32))))))) ∧ (¬ x3 = (0 : Int32) → (J_Mo_waitsForChord_45 S post (fun z0 z1 z2 z3 => L_Mo_waitsForChord_11 S post n11 z0 z1 z2 z3) x1 x2 x3 x4)))))
def wp_Mo_waitsForChord (S : GS) (p0 : Int32) (post : Int32 → Prop) : Prop := (wp_Mo_keysOf S p0 (fun r2 => (∃ q11, L_Mo_waitsForChord_11 S post q11 p0 r2 (0 : Int32) (0 : Int32))))
abbrev rm_Mo_waitsForChord : Room := { frames := 1, cells := 0, slots := 0, locals := 23 }
set_option maxHeartbeats 4000000 in
set_option maxRecDepth 100000 in
theorem c_Mo_waitsForChord (l : Launch) (D : va_G) (cI cZ cJ : ClassId) (a : Nat → Nat) (S : GS) (p0 : Int32) (post : Int32 → Prop) (hf : wp_Mo_waitsForChord S p0 post) : Met l y_Mo_waitsForChord ws_Mo_waitsForChord rm_Mo_waitsForChord (va_Pc [.ref (a 0), .int p0] (rPre D (tys cI cZ cJ) (mdW cI cZ cJ a S))) (vp_Si post) 0 0 (fun _ => False) := by
  refine gm_r (cc := b_Mo_waitsForChord) (maxL := 5) (by decide) rfl (Nat.le_of_ble_eq_true rfl) ?_
  intro p e s m args below meth c ls hx hb hr hts hown hlk hml hK hP hl
  have hl : lv_has ls 5 [(0, .ref (a 0)), (1, .int p0)] := hl
  have hinMo : ∀ w ∈ u_ws R_Mo T_Mo 30, w ∈ ws_Mo_waitsForChord := fun w h => List.mem_cons_of_mem _ (tl_Mo w h)
  have hl35 := hts _ (List.mem_cons_of_mem _ tf_Mo_35)
  have hl53 := hts _ (List.mem_cons_of_mem _ tf_Mo_53)
  have hl95 := hts _ (List.mem_cons_of_mem _ tf_Mo_95)
  have hl98 := hts _ (List.mem_cons_of_mem _ tf_Mo_98)
  unfold wp_Mo_waitsForChord at hf
  refine lv_aload_n (pc := 0) hx hb d_Mo_waitsForChord_0 rfl (lv_at hl 0 rfl) ?_
  refine lv_iload_n (pc := 1) hx hb d_Mo_waitsForChord_1 rfl (lv_at hl 1 rfl) ?_
  refine vp_callSi (pc := 2) (W.runV (As := [.int p0]) (rest := []) ⟨hx, hb, hml, hown, hts⟩ (c_Mo_keysOf l D cI cZ cJ a _ _ _ hf) (cwV 1 hts (tb_wsV tc_Mo_keysOf tm_Mo_130 ti_Mo_keysOf te_Mo_keysOf tz_Mo) rfl rfl rfl (by decide +kernel) ⟨Nat.le_of_ble_eq_true rfl, Nat.le_of_ble_eq_true rfl⟩) (r_preV (q0 := 0) (ci := 9) hK hP rfl rfl) rfl rfl hl.1 rfl (lv_room (Nat.le_of_ble_eq_true rfl)) d_Mo_waitsForChord_2 ⟨Nat.zero_le _, Nat.zero_le _⟩) (fun r2 hf => ?_)
  refine lv_istore_n (pc := 5) (lv' := [(2, .int r2), (0, .ref (a 0)), (1, .int p0)]) hx hb d_Mo_waitsForChord_5 rfl hl (by decide) rfl (fun ls hl => ?_)
  refine lv_iconst (pc := 6) (v := 0) hx hb d_Mo_waitsForChord_6 (by decide) ?_
  refine lv_istore_n (pc := 7) (lv' := [(3, .int (0 : Int32)), (2, .int r2), (0, .ref (a 0)), (1, .int p0)]) hx hb d_Mo_waitsForChord_7 rfl hl (by decide) rfl (fun ls hl => ?_)
  refine lv_iconst (pc := 8) (v := 0) hx hb d_Mo_waitsForChord_8 (by decide) ?_
  refine lv_istore (pc := 9) (lv' := [(4, .int (0 : Int32)), (3, .int (0 : Int32)), (2, .int r2), (0, .ref (a 0)), (1, .int p0)]) hx hb d_Mo_waitsForChord_9 hl (by decide) rfl (fun ls hl => ?_)
  obtain ⟨q11, hf⟩ := hf
  have lp11 : ∀ (n11 : Nat) (x1 : Int32) (x2 : Int32) (x3 : Int32) (x4 : Int32) (ls : Array Slot), lv_has ls 5 [(0, .ref (a 0)), (1, .int x1), (2, .int x2), (3, .int x3), (4, .int x4)] → L_Mo_waitsForChord_11 S post n11 x1 x2 x3 x4 → W p l e rm_Mo_waitsForChord s m args below meth c s.heap [] 0 0 (MQ below (vp_Si post) args s 0 0 (fun _ => False)) (F0 m 11 ls []) := by
    intro n11
    induction n11 with
    | zero => intro x1 x2 x3 x4 ls hl hf; exact False.elim hf
    | succ n11 ih11 =>
      have jn45 : ∀ (x1 : Int32) (x2 : Int32) (x3 : Int32) (x4 : Int32) (ls : Array Slot), lv_has ls 5 [(0, .ref (a 0)), (1, .int x1), (2, .int x2), (3, .int x3), (4, .int x4)] → J_Mo_waitsForChord_45 S post (fun z0 z1 z2 z3 => L_Mo_waitsForChord_11 S post n11 z0 z1 z2 z3) x1 x2 x3 x4 → W p l e rm_Mo_waitsForChord s m args below meth c s.heap [] 0 0 (MQ below (vp_Si post) args s 0 0 (fun _ => False)) (F0 m 45 ls []) := by
        intro x1 x2 x3 x4 ls hl hf
        unfold J_Mo_waitsForChord_45 at hf
        refine lv_iconst (pc := 45) (v := 1) hx hb d_Mo_waitsForChord_45 (by decide) ?_
        refine lv_goto (pc := 46) (tgt := 50) hx hb d_Mo_waitsForChord_46 (by decide) ?_
        refine lv_istore_n (pc := 50) (lv' := [(3, .int (1 : Int32)), (0, .ref (a 0)), (1, .int x1), (2, .int x2), (4, .int x4)]) hx hb d_Mo_waitsForChord_50 rfl hl (by decide) rfl (fun ls hl => ?_)
        refine lv_iinc (pc := 51) (k := 4) (v := (x4 + (1 : Int32))) (lv' := [(4, .int (x4 + (1 : Int32))), (3, .int (1 : Int32)), (0, .ref (a 0)), (1, .int x1), (2, .int x2)]) hx hb d_Mo_waitsForChord_51 hl rfl rfl (by decide) rfl (fun ls hl => ?_)
        refine lv_goto (pc := 54) (tgt := 11) hx hb d_Mo_waitsForChord_54 (by decide) ?_
        exact ih11 x1 x2 (1 : Int32) (x4 + (1 : Int32)) _ (lv_sub hl [2, 3, 4, 1, 0] rfl) hf
      intro x1 x2 x3 x4 ls hl hf
      unfold L_Mo_waitsForChord_11 at hf
      refine lv_iload (pc := 11) hx hb d_Mo_waitsForChord_11 (lv_at hl 4 rfl) ?_
      refine lv_iconst (pc := 13) (v := 4) hx hb d_Mo_waitsForChord_13 (by decide) ?_
      refine lv_icmp_ge (pc := 14) (tgt := 57) hx hb d_Mo_waitsForChord_14 (by decide) (fun hc => ?_) (fun hc => ?_)
      · replace hf := hf.1 hc
        refine lv_iload_n (pc := 57) hx hb d_Mo_waitsForChord_57 rfl (lv_at hl 3 rfl) ?_
        refine lv_if_eq (pc := 58) (tgt := 98) hx hb d_Mo_waitsForChord_58 (by decide) (fun hc => ?_) (fun hc => ?_)
        · replace hf := hf.1 hc
          refine lv_iconst (pc := 98) (v := 0) hx hb d_Mo_waitsForChord_98 (by decide) ?_
          exact rr_z (pc := 99) hx hb hr hlk (by decide) hf d_Mo_waitsForChord_99
        replace hf := hf.2 hc
        refine lv_iload_n (pc := 61) hx hb d_Mo_waitsForChord_61 rfl (lv_at hl 1 rfl) ?_
        refine lv_aload_n (pc := 62) hx hb d_Mo_waitsForChord_62 rfl (lv_at hl 0 rfl) ?_
        refine md_gt_Mo_queued (pc := 63) (v := (S.1 2 0)) hx hb hK hts hinMo hown hP hl95 rfl d_Mo_waitsForChord_63 ?_
        refine lv_icmp_ne (pc := 66) (tgt := 98) hx hb d_Mo_waitsForChord_66 (by decide) (fun hc => ?_) (fun hc => ?_)
        · replace hf := hf.2 hc
          refine lv_iconst (pc := 98) (v := 0) hx hb d_Mo_waitsForChord_98 (by decide) ?_
          exact rr_z (pc := 99) hx hb hr hlk (by decide) hf d_Mo_waitsForChord_99
        replace hf := hf.1 hc
        refine lv_aload_n (pc := 69) hx hb d_Mo_waitsForChord_69 rfl (lv_at hl 0 rfl) ?_
        refine md_gt_Mo_queued (pc := 70) (v := (S.1 2 0)) hx hb hK hts hinMo hown hP hl95 rfl d_Mo_waitsForChord_70 ?_
        refine lv_bipush (pc := 73) (v := 8) hx hb d_Mo_waitsForChord_73 (by decide) ?_
        refine lv_icmp_gt (pc := 75) (tgt := 98) hx hb d_Mo_waitsForChord_75 (by decide) (fun hc => ?_) (fun hc => ?_)
        · replace hf := hf.1 hc
          refine lv_iconst (pc := 98) (v := 0) hx hb d_Mo_waitsForChord_98 (by decide) ?_
          exact rr_z (pc := 99) hx hb hr hlk (by decide) hf d_Mo_waitsForChord_99
        replace hf := hf.2 hc
        refine lv_aload_n (pc := 78) hx hb d_Mo_waitsForChord_78 rfl (lv_at hl 0 rfl) ?_
        refine md_gt_Mo_now (pc := 79) (v := (S.1 1 0)) hx hb hK hts hinMo hown hP hl98 rfl d_Mo_waitsForChord_79 ?_
        refine lv_aload_n (pc := 82) hx hb d_Mo_waitsForChord_82 rfl (lv_at hl 0 rfl) ?_
        refine md_gt_Mo_scans (pc := 83) hx hb hK hts hinMo hown hP hl35 d_Mo_waitsForChord_83 ?_
        refine lv_iconst (pc := 86) (v := 0) hx hb d_Mo_waitsForChord_86 (by decide) ?_
        refine md_ld9 (pc := 87) (v := ((S.1 15) (0 : Int32).toNatClampNeg)) hx hb hK hP hf.1 rfl d_Mo_waitsForChord_87 ?_
        replace hf := hf.2
        refine lv_bipush (pc := 88) (v := 9) hx hb d_Mo_waitsForChord_88 (by decide) ?_
        refine lv_iadd (pc := 90) hx hb d_Mo_waitsForChord_90 ?_
        refine lv_icmp_ge (pc := 91) (tgt := 98) hx hb d_Mo_waitsForChord_91 (by decide) (fun hc => ?_) (fun hc => ?_)
        · replace hf := hf.1 hc
          refine lv_iconst (pc := 98) (v := 0) hx hb d_Mo_waitsForChord_98 (by decide) ?_
          exact rr_z (pc := 99) hx hb hr hlk (by decide) hf d_Mo_waitsForChord_99
        replace hf := hf.2 hc
        refine lv_iconst (pc := 94) (v := 1) hx hb d_Mo_waitsForChord_94 (by decide) ?_
        refine lv_goto (pc := 95) (tgt := 99) hx hb d_Mo_waitsForChord_95 (by decide) ?_
        exact rr_z (pc := 99) hx hb hr hlk (by decide) hf d_Mo_waitsForChord_99
      replace hf := hf.2 hc
      refine lv_iload_n (pc := 17) hx hb d_Mo_waitsForChord_17 rfl (lv_at hl 3 rfl) ?_
      refine lv_if_ne (pc := 18) (tgt := 45) hx hb d_Mo_waitsForChord_18 (by decide) (fun hc => ?_) (fun hc => ?_)
      · replace hf := hf.2 hc
        exact jn45 x1 x2 x3 x4 _ (lv_sub hl [0, 1, 2, 3, 4] rfl) hf
      replace hf := hf.1 hc
      refine lv_aload_n (pc := 21) hx hb d_Mo_waitsForChord_21 rfl (lv_at hl 0 rfl) ?_
      refine md_gt_Mo_chordKeys (pc := 22) hx hb hK hts hinMo hown hP hl53 d_Mo_waitsForChord_22 ?_
      refine lv_iload (pc := 25) hx hb d_Mo_waitsForChord_25 (lv_at hl 4 rfl) ?_
      refine md_ld15 (pc := 27) (v := ((S.1 21) x4.toNatClampNeg)) hx hb hK hP hf.1 rfl d_Mo_waitsForChord_27 ?_
      replace hf := hf.2
      refine lv_iload_n (pc := 28) hx hb d_Mo_waitsForChord_28 rfl (lv_at hl 2 rfl) ?_
      refine lv_iand (pc := 29) hx hb d_Mo_waitsForChord_29 ?_
      refine lv_iload_n (pc := 30) hx hb d_Mo_waitsForChord_30 rfl (lv_at hl 2 rfl) ?_
      refine lv_icmp_ne (pc := 31) (tgt := 49) hx hb d_Mo_waitsForChord_31 (by decide) (fun hc => ?_) (fun hc => ?_)
      · replace hf := hf.2 hc
        refine lv_iconst (pc := 49) (v := 0) hx hb d_Mo_waitsForChord_49 (by decide) ?_
        refine lv_istore_n (pc := 50) (lv' := [(3, .int (0 : Int32)), (0, .ref (a 0)), (1, .int x1), (2, .int x2), (4, .int x4)]) hx hb d_Mo_waitsForChord_50 rfl hl (by decide) rfl (fun ls hl => ?_)
        refine lv_iinc (pc := 51) (k := 4) (v := (x4 + (1 : Int32))) (lv' := [(4, .int (x4 + (1 : Int32))), (3, .int (0 : Int32)), (0, .ref (a 0)), (1, .int x1), (2, .int x2)]) hx hb d_Mo_waitsForChord_51 hl rfl rfl (by decide) rfl (fun ls hl => ?_)
        refine lv_goto (pc := 54) (tgt := 11) hx hb d_Mo_waitsForChord_54 (by decide) ?_
        exact ih11 x1 x2 (0 : Int32) (x4 + (1 : Int32)) _ (lv_sub hl [2, 3, 4, 1, 0] rfl) hf
      replace hf := hf.1 hc
      refine lv_aload_n (pc := 34) hx hb d_Mo_waitsForChord_34 rfl (lv_at hl 0 rfl) ?_
      refine md_gt_Mo_chordKeys (pc := 35) hx hb hK hts hinMo hown hP hl53 d_Mo_waitsForChord_35 ?_
      refine lv_iload (pc := 38) hx hb d_Mo_waitsForChord_38 (lv_at hl 4 rfl) ?_
      refine md_ld15 (pc := 40) (v := ((S.1 21) x4.toNatClampNeg)) hx hb hK hP hf.1 rfl d_Mo_waitsForChord_40 ?_
      replace hf := hf.2
      refine lv_iload_n (pc := 41) hx hb d_Mo_waitsForChord_41 rfl (lv_at hl 2 rfl) ?_
      refine lv_icmp_eq (pc := 42) (tgt := 49) hx hb d_Mo_waitsForChord_42 (by decide) (fun hc => ?_) (fun hc => ?_)
      · replace hf := hf.1 hc
        refine lv_iconst (pc := 49) (v := 0) hx hb d_Mo_waitsForChord_49 (by decide) ?_
        refine lv_istore_n (pc := 50) (lv' := [(3, .int (0 : Int32)), (0, .ref (a 0)), (1, .int x1), (2, .int x2), (4, .int x4)]) hx hb d_Mo_waitsForChord_50 rfl hl (by decide) rfl (fun ls hl => ?_)
        refine lv_iinc (pc := 51) (k := 4) (v := (x4 + (1 : Int32))) (lv' := [(4, .int (x4 + (1 : Int32))), (3, .int (0 : Int32)), (0, .ref (a 0)), (1, .int x1), (2, .int x2)]) hx hb d_Mo_waitsForChord_51 hl rfl rfl (by decide) rfl (fun ls hl => ?_)
        refine lv_goto (pc := 54) (tgt := 11) hx hb d_Mo_waitsForChord_54 (by decide) ?_
        exact ih11 x1 x2 (0 : Int32) (x4 + (1 : Int32)) _ (lv_sub hl [2, 3, 4, 1, 0] rfl) hf
      replace hf := hf.2 hc
      exact jn45 x1 x2 x3 x4 _ (lv_sub hl [0, 1, 2, 3, 4] rfl) hf
  exact lp11 q11 p0 r2 (0 : Int32) (0 : Int32) _ (lv_sub hl [3, 4, 2, 1, 0] rfl) hf
def L_Mo_bitsOf_4 (post : Int32 → Prop) : Nat → Int32 → Int32 → Int32 → Prop
  | 0, _, _, _ => False
  | n4 + 1, x0, x1, x2 => (((24 : Int32) ≤ x2 → (post x1)) ∧ (¬ (24 : Int32) ≤ x2 → (L_Mo_bitsOf_4 post n4 x0 (x1 + ((x0 >>> (x2 &&& 31)) &&& (1 : Int32))) (x2 + (1 : Int32)))))
def wp_Mo_bitsOf (p0 : Int32) (post : Int32 → Prop) : Prop := (∃ q4, L_Mo_bitsOf_4 post q4 p0 (0 : Int32) (0 : Int32))
abbrev rm_Mo_bitsOf : Room := { frames := 0, cells := 0, slots := 0, locals := 0 }
set_option maxHeartbeats 4000000 in
set_option maxRecDepth 100000 in
theorem c_Mo_bitsOf (l : Launch) (p0 : Int32) (post : Int32 → Prop) (hf : wp_Mo_bitsOf p0 post) : Met l y_Mo_bitsOf ws_Mo_bitsOf rm_Mo_bitsOf (va_Pc [.int p0] (fun _ => True)) (vp_Si post) 0 0 (fun _ => False) := by
  refine gm_p (cc := b_Mo_bitsOf) (maxL := 3) (by decide) rfl (Nat.le_of_ble_eq_true rfl) ?_
  intro p e s m args below meth c ls hx hb hr hts hown hlk hml hl
  have hl : lv_has ls 3 [(0, .int p0)] := hl
  unfold wp_Mo_bitsOf at hf
  refine lv_iconst (pc := 0) (v := 0) hx hb d_Mo_bitsOf_0 (by decide) ?_
  refine lv_istore_n (pc := 1) (lv' := [(1, .int (0 : Int32)), (0, .int p0)]) hx hb d_Mo_bitsOf_1 rfl hl (by decide) rfl (fun ls hl => ?_)
  refine lv_iconst (pc := 2) (v := 0) hx hb d_Mo_bitsOf_2 (by decide) ?_
  refine lv_istore_n (pc := 3) (lv' := [(2, .int (0 : Int32)), (1, .int (0 : Int32)), (0, .int p0)]) hx hb d_Mo_bitsOf_3 rfl hl (by decide) rfl (fun ls hl => ?_)
  obtain ⟨q4, hf⟩ := hf
  have lp4 : ∀ (n4 : Nat) (x0 : Int32) (x1 : Int32) (x2 : Int32) (ls : Array Slot), lv_has ls 3 [(0, .int x0), (1, .int x1), (2, .int x2)] → L_Mo_bitsOf_4 post n4 x0 x1 x2 → W p l e rm_Mo_bitsOf s m args below meth c s.heap [] 0 0 (MQ below (vp_Si post) args s 0 0 (fun _ => False)) (F0 m 4 ls []) := by
    intro n4
    induction n4 with
    | zero => intro x0 x1 x2 ls hl hf; exact False.elim hf
    | succ n4 ih4 =>
      intro x0 x1 x2 ls hl hf
      unfold L_Mo_bitsOf_4 at hf
      refine lv_iload_n (pc := 4) hx hb d_Mo_bitsOf_4 rfl (lv_at hl 2 rfl) ?_
      refine lv_bipush (pc := 5) (v := 24) hx hb d_Mo_bitsOf_5 (by decide) ?_
      refine lv_icmp_ge (pc := 7) (tgt := 24) hx hb d_Mo_bitsOf_7 (by decide) (fun hc => ?_) (fun hc => ?_)
      · replace hf := hf.1 hc
        refine lv_iload_n (pc := 24) hx hb d_Mo_bitsOf_24 rfl (lv_at hl 1 rfl) ?_
        exact rr_i (pc := 25) hx hb hr hlk hf d_Mo_bitsOf_25
      replace hf := hf.2 hc
      refine lv_iload_n (pc := 10) hx hb d_Mo_bitsOf_10 rfl (lv_at hl 1 rfl) ?_
      refine lv_iload_n (pc := 11) hx hb d_Mo_bitsOf_11 rfl (lv_at hl 0 rfl) ?_
      refine lv_iload_n (pc := 12) hx hb d_Mo_bitsOf_12 rfl (lv_at hl 2 rfl) ?_
      refine lv_ishr (pc := 13) hx hb d_Mo_bitsOf_13 ?_
      refine lv_iconst (pc := 14) (v := 1) hx hb d_Mo_bitsOf_14 (by decide) ?_
      refine lv_iand (pc := 15) hx hb d_Mo_bitsOf_15 ?_
      refine lv_iadd (pc := 16) hx hb d_Mo_bitsOf_16 ?_
      refine lv_istore_n (pc := 17) (lv' := [(1, .int (x1 + ((x0 >>> (x2 &&& 31)) &&& (1 : Int32)))), (0, .int x0), (2, .int x2)]) hx hb d_Mo_bitsOf_17 rfl hl (by decide) rfl (fun ls hl => ?_)
      refine lv_iinc (pc := 18) (k := 2) (v := (x2 + (1 : Int32))) (lv' := [(2, .int (x2 + (1 : Int32))), (1, .int (x1 + ((x0 >>> (x2 &&& 31)) &&& (1 : Int32)))), (0, .int x0)]) hx hb d_Mo_bitsOf_18 hl rfl rfl (by decide) rfl (fun ls hl => ?_)
      refine lv_goto (pc := 21) (tgt := 4) hx hb d_Mo_bitsOf_21 (by decide) ?_
      exact ih4 x0 (x1 + ((x0 >>> (x2 &&& 31)) &&& (1 : Int32))) (x2 + (1 : Int32)) _ (lv_sub hl [2, 1, 0] rfl) hf
  exact lp4 q4 p0 (0 : Int32) (0 : Int32) _ (lv_sub hl [2, 1, 0] rfl) hf
