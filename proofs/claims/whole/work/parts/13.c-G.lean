def wp_G_requireKey (p0 : Int32) (post : Unit → Prop) : Prop := ((p0 < (0 : Int32) → False) ∧ (¬ p0 < (0 : Int32) → ((p0 < (24 : Int32) → (post ())) ∧ (¬ p0 < (24 : Int32) → False))))
abbrev rm_G_requireKey : Room := { frames := 0, cells := 0, slots := 0, locals := 0 }
set_option maxHeartbeats 4000000 in
set_option maxRecDepth 100000 in
theorem c_G_requireKey (l : Launch) (p0 : Int32) (post : Unit → Prop) (hf : wp_G_requireKey p0 post) : Met l y_G_requireKey ws_G_requireKey rm_G_requireKey (va_Pc [.int p0] (fun _ => True)) (va_Sv post) 0 0 (fun _ => False) := by
  refine gm_p (cc := b_G_requireKey) (maxL := 1) (by decide) rfl (Nat.le_of_ble_eq_true rfl) ?_
  intro p e s m args below meth c ls hx hb hr hts hown hlk hml hl
  have hl : lv_has ls 1 [(0, .int p0)] := hl
  unfold wp_G_requireKey at hf
  refine lv_iload_n (pc := 0) hx hb d_G_requireKey_0 rfl (lv_at hl 0 rfl) ?_
  refine lv_if_lt (pc := 1) (tgt := 10) hx hb d_G_requireKey_1 (by decide) (fun hc => ?_) (fun hc => ?_)
  · replace hf := hf.1 hc
    exact False.elim hf
  replace hf := hf.2 hc
  refine lv_iload_n (pc := 4) hx hb d_G_requireKey_4 rfl (lv_at hl 0 rfl) ?_
  refine lv_bipush (pc := 5) (v := 24) hx hb d_G_requireKey_5 (by decide) ?_
  refine lv_icmp_lt (pc := 7) (tgt := 20) hx hb d_G_requireKey_7 (by decide) (fun hc => ?_) (fun hc => ?_)
  · replace hf := hf.1 hc
    exact rr_v (pc := 20) hx hb hr hlk hf d_G_requireKey_20
  replace hf := hf.2 hc
  exact False.elim hf
def wp_G_wire (S : GS) (p0 : Int32) (p1 : Int32) (post : GS → Prop) : Prop := (wp_G_requireKey p0 (fun _ => (wp_Mx_setWired S p0 p1 (fun S10 => (post S10)))))
abbrev rm_G_wire : Room := { frames := 1, cells := 0, slots := 0, locals := 22 }
set_option maxHeartbeats 4000000 in
set_option maxRecDepth 100000 in
theorem c_G_wire (l : Launch) (D : va_G) (cI cZ cJ : ClassId) (a : Nat → Nat) (sz : Nat) (S : GS) (p0 : Int32) (p1 : Int32) (post : GS → Prop) (hf : wp_G_wire S p0 p1 post) : Met l y_G_wire ws_G_wire rm_G_wire (va_Pc [.ref (a 0), .int p0, .int p1] (gPre D (tys cI cZ cJ) (gkW cI cZ cJ a S) sz)) (va_Qv post (gB D (tys cI cZ cJ) (gkW cI cZ cJ a) (va_A (gkW cI cZ cJ a S) sz)) (va_A (gkW cI cZ cJ a S) sz)) 0 0 (va_A (gkW cI cZ cJ a S) sz) := by
  refine gm_w (QF := fun A => va_Qv post (gB D (tys cI cZ cJ) (gkW cI cZ cJ a) A) A) (cc := b_G_wire) (maxL := 3) (by decide) rfl (Nat.le_of_ble_eq_true rfl) ?_
  intro p e s m args below meth c A ls hx hb hr hts hown hmn hlk hml hK hA hw hl
  have hl : lv_has ls 3 [(0, .ref (a 0)), (1, .int p0), (2, .int p1)] := hl
  have hinG : ∀ w ∈ u_ws R_G T_G 9, w ∈ ws_G_wire := fun w h => List.mem_cons_of_mem _ (tl_G w h)
  have hl12 := hts _ (List.mem_cons_of_mem _ tf_G_12)
  unfold wp_G_wire at hf
  refine lv_iload_n (pc := 0) hx hb d_G_wire_0 rfl (lv_at hl 1 rfl) ?_
  refine va_csv (pc := 1) (W.runS (As := [.int p0]) (rest := []) ⟨hx, hb, hml, hown, hts⟩ (c_G_requireKey l _ _ hf) (cwS 1 hts (tb_wsS tc_G_requireKey tm_G_69 ts_G_requireKey tz_G) rfl rfl rfl (by decide +kernel) ⟨Nat.le_of_ble_eq_true rfl, Nat.le_of_ble_eq_true rfl⟩) p_preS rfl rfl hl.1 rfl (lv_room (Nat.le_of_ble_eq_true rfl)) d_G_wire_1 ⟨Nat.zero_le _, Nat.zero_le _⟩) (fun hf => ?_)
  refine lv_aload_n (pc := 4) hx hb d_G_wire_4 rfl (lv_at hl 0 rfl) ?_
  refine gk_gt_G_matrix (pc := 5) hx hb hK hts hinG hown hw.1 hl12 d_G_wire_5 ?_
  refine lv_iload_n (pc := 8) hx hb d_G_wire_8 rfl (lv_at hl 1 rfl) ?_
  refine lv_iload_n (pc := 9) hx hb d_G_wire_9 rfl (lv_at hl 2 rfl) ?_
  refine gc_v (pc := 10) (Wf := gkW cI cZ cJ a) hw hA (va_runV (As := [.int p0, .int p1]) (rest := []) ⟨hx, hb, hml, hown, hts⟩ (c_Mx_setWired l D cI cZ cJ a _ _ _ _ _ hf) (cwV 2 hts (tb_wsV tc_Mx_setWired tm_G_73 ti_Mx_setWired te_Mx_setWired tz_Mx) rfl rfl rfl (by decide +kernel) ⟨Nat.le_of_ble_eq_true rfl, Nat.le_of_ble_eq_true rfl⟩) (g_preV (q0 := 1) (ci := 1) hK hw rfl rfl) rfl rfl hl.1 rfl (lv_room (Nat.le_of_ble_eq_true rfl)) d_G_wire_10 ⟨Nat.zero_le _, Nat.zero_le _⟩) (fun S10 H locs hw hf => ?_)
  exact gr_v (pc := 13) hx hb hr hlk hK S10 hw hf d_G_wire_13
def wp_G_bounce (S : GS) (p0 : Int32) (p1 : Int32) (post : GS → Prop) : Prop := (wp_G_requireKey p0 (fun _ => ((p1 < (0 : Int32) → False) ∧ (¬ p1 < (0 : Int32) → ((p1 ≤ (255 : Int32) → (wp_Mx_setBounce S p0 p1 (fun S31 => (post S31)))) ∧ (¬ p1 ≤ (255 : Int32) → False))))))
abbrev rm_G_bounce : Room := { frames := 1, cells := 0, slots := 0, locals := 22 }
set_option maxHeartbeats 4000000 in
set_option maxRecDepth 100000 in
theorem c_G_bounce (l : Launch) (D : va_G) (cI cZ cJ : ClassId) (a : Nat → Nat) (sz : Nat) (S : GS) (p0 : Int32) (p1 : Int32) (post : GS → Prop) (hf : wp_G_bounce S p0 p1 post) : Met l y_G_bounce ws_G_bounce rm_G_bounce (va_Pc [.ref (a 0), .int p0, .int p1] (gPre D (tys cI cZ cJ) (gkW cI cZ cJ a S) sz)) (va_Qv post (gB D (tys cI cZ cJ) (gkW cI cZ cJ a) (va_A (gkW cI cZ cJ a S) sz)) (va_A (gkW cI cZ cJ a S) sz)) 0 0 (va_A (gkW cI cZ cJ a S) sz) := by
  refine gm_w (QF := fun A => va_Qv post (gB D (tys cI cZ cJ) (gkW cI cZ cJ a) A) A) (cc := b_G_bounce) (maxL := 3) (by decide) rfl (Nat.le_of_ble_eq_true rfl) ?_
  intro p e s m args below meth c A ls hx hb hr hts hown hmn hlk hml hK hA hw hl
  have hl : lv_has ls 3 [(0, .ref (a 0)), (1, .int p0), (2, .int p1)] := hl
  have hinG : ∀ w ∈ u_ws R_G T_G 9, w ∈ ws_G_bounce := fun w h => List.mem_cons_of_mem _ (tl_G w h)
  have hl12 := hts _ (List.mem_cons_of_mem _ tf_G_12)
  unfold wp_G_bounce at hf
  refine lv_iload_n (pc := 0) hx hb d_G_bounce_0 rfl (lv_at hl 1 rfl) ?_
  refine va_csv (pc := 1) (W.runS (As := [.int p0]) (rest := []) ⟨hx, hb, hml, hown, hts⟩ (c_G_requireKey l _ _ hf) (cwS 1 hts (tb_wsS tc_G_requireKey tm_G_69 ts_G_requireKey tz_G) rfl rfl rfl (by decide +kernel) ⟨Nat.le_of_ble_eq_true rfl, Nat.le_of_ble_eq_true rfl⟩) p_preS rfl rfl hl.1 rfl (lv_room (Nat.le_of_ble_eq_true rfl)) d_G_bounce_1 ⟨Nat.zero_le _, Nat.zero_le _⟩) (fun hf => ?_)
  refine lv_iload_n (pc := 4) hx hb d_G_bounce_4 rfl (lv_at hl 2 rfl) ?_
  refine lv_if_lt (pc := 5) (tgt := 15) hx hb d_G_bounce_5 (by decide) (fun hc => ?_) (fun hc => ?_)
  · replace hf := hf.1 hc
    exact False.elim hf
  replace hf := hf.2 hc
  refine lv_iload_n (pc := 8) hx hb d_G_bounce_8 rfl (lv_at hl 2 rfl) ?_
  refine lv_sipush (pc := 9) (v := 255) hx hb d_G_bounce_9 (by decide) ?_
  refine lv_icmp_le (pc := 12) (tgt := 25) hx hb d_G_bounce_12 (by decide) (fun hc => ?_) (fun hc => ?_)
  · replace hf := hf.1 hc
    refine lv_aload_n (pc := 25) hx hb d_G_bounce_25 rfl (lv_at hl 0 rfl) ?_
    refine gk_gt_G_matrix (pc := 26) hx hb hK hts hinG hown hw.1 hl12 d_G_bounce_26 ?_
    refine lv_iload_n (pc := 29) hx hb d_G_bounce_29 rfl (lv_at hl 1 rfl) ?_
    refine lv_iload_n (pc := 30) hx hb d_G_bounce_30 rfl (lv_at hl 2 rfl) ?_
    refine gc_v (pc := 31) (Wf := gkW cI cZ cJ a) hw hA (va_runV (As := [.int p0, .int p1]) (rest := []) ⟨hx, hb, hml, hown, hts⟩ (c_Mx_setBounce l D cI cZ cJ a _ _ _ _ _ hf) (cwV 2 hts (tb_wsV tc_Mx_setBounce tm_G_84 ti_Mx_setBounce te_Mx_setBounce tz_Mx) rfl rfl rfl (by decide +kernel) ⟨Nat.le_of_ble_eq_true rfl, Nat.le_of_ble_eq_true rfl⟩) (g_preV (q0 := 1) (ci := 1) hK hw rfl rfl) rfl rfl hl.1 rfl (lv_room (Nat.le_of_ble_eq_true rfl)) d_G_bounce_31 ⟨Nat.zero_le _, Nat.zero_le _⟩) (fun S31 H locs hw hf => ?_)
    exact gr_v (pc := 34) hx hb hr hlk hK S31 hw hf d_G_bounce_34
  replace hf := hf.2 hc
  exact False.elim hf
def L_G_bringEvents_4 (post : Int32 → GS → Prop) : Nat → Int32 → Int32 → GS → Prop
  | 0, _, _, _ => False
  | n4 + 1, x1, x2, S => (((24 : Int32) ≤ x2 → (post x1 S)) ∧ (¬ (24 : Int32) ≤ x2 → (wp_Mx_believe S x2 (fun r15 S15 => ((r15 = (-1 : Int32) → (L_G_bringEvents_4 post n4 x1 (x2 + (1 : Int32)) S15)) ∧ (¬ r15 = (-1 : Int32) → (wp_Hi_add S15 r15 (fun S29 => (wp_Eq_add S29 r15 (S29.1 0 0) (fun S41 => (L_G_bringEvents_4 post n4 (x1 + (1 : Int32)) (x2 + (1 : Int32)) S41)))))))))))
def wp_G_bringEvents (S : GS) (post : Int32 → GS → Prop) : Prop := (∃ q4, L_G_bringEvents_4 post q4 (0 : Int32) (0 : Int32) S)
abbrev rm_G_bringEvents : Room := { frames := 3, cells := 0, slots := 0, locals := 69 }
set_option maxHeartbeats 4000000 in
set_option maxRecDepth 100000 in
theorem c_G_bringEvents (l : Launch) (D : va_G) (cI cZ cJ : ClassId) (a : Nat → Nat) (sz : Nat) (S : GS) (post : Int32 → GS → Prop) (hf : wp_G_bringEvents S post) : Met l y_G_bringEvents ws_G_bringEvents rm_G_bringEvents (va_Pc [.ref (a 0)] (gPre D (tys cI cZ cJ) (gkW cI cZ cJ a S) sz)) (va_Qi post (gB D (tys cI cZ cJ) (gkW cI cZ cJ a) (va_A (gkW cI cZ cJ a S) sz)) (va_A (gkW cI cZ cJ a S) sz)) 0 0 (va_A (gkW cI cZ cJ a S) sz) := by
  refine gm_w (QF := fun A => va_Qi post (gB D (tys cI cZ cJ) (gkW cI cZ cJ a) A) A) (cc := b_G_bringEvents) (maxL := 4) (by decide) rfl (Nat.le_of_ble_eq_true rfl) ?_
  intro p e s m args below meth c A ls hx hb hr hts hown hmn hlk hml hK hA hw hl
  have hl : lv_has ls 4 [(0, .ref (a 0))] := hl
  have hinG : ∀ w ∈ u_ws R_G T_G 9, w ∈ ws_G_bringEvents := fun w h => List.mem_cons_of_mem _ (tl_G w h)
  have hl12 := hts _ (List.mem_cons_of_mem _ tf_G_12)
  have hl19 := hts _ (List.mem_cons_of_mem _ tf_G_19)
  have hl26 := hts _ (List.mem_cons_of_mem _ tf_G_26)
  have hl65 := hts _ (List.mem_cons_of_mem _ tf_G_65)
  unfold wp_G_bringEvents at hf
  refine lv_iconst (pc := 0) (v := 0) hx hb d_G_bringEvents_0 (by decide) ?_
  refine lv_istore_n (pc := 1) (lv' := [(1, .int (0 : Int32)), (0, .ref (a 0))]) hx hb d_G_bringEvents_1 rfl hl (by decide) rfl (fun ls hl => ?_)
  refine lv_iconst (pc := 2) (v := 0) hx hb d_G_bringEvents_2 (by decide) ?_
  refine lv_istore_n (pc := 3) (lv' := [(2, .int (0 : Int32)), (1, .int (0 : Int32)), (0, .ref (a 0))]) hx hb d_G_bringEvents_3 rfl hl (by decide) rfl (fun ls hl => ?_)
  obtain ⟨q4, hf⟩ := hf
  have lp4 : ∀ (n4 : Nat) (x1 : Int32) (x2 : Int32) (S : GS) (H : Heap) (locs : List Loc) (ls : Array Slot), lv_has ls 4 [(0, .ref (a 0)), (1, .int x1), (2, .int x2)] → wf D A s.heap (gkW cI cZ cJ a S) H locs → L_G_bringEvents_4 post n4 x1 x2 S → W p l e rm_G_bringEvents s m args below meth c H locs 0 0 (MQ below (va_Qi post (gB D (tys cI cZ cJ) (gkW cI cZ cJ a) A) A) args s 0 0 A) (F0 m 4 ls []) := by
    intro n4
    induction n4 with
    | zero => intro x1 x2 S H locs ls hl hw hf; exact False.elim hf
    | succ n4 ih4 =>
      intro x1 x2 S H locs ls hl hw hf
      unfold L_G_bringEvents_4 at hf
      refine lv_iload_n (pc := 4) hx hb d_G_bringEvents_4 rfl (lv_at hl 2 rfl) ?_
      refine lv_bipush (pc := 5) (v := 24) hx hb d_G_bringEvents_5 (by decide) ?_
      refine lv_icmp_ge (pc := 7) (tgt := 53) hx hb d_G_bringEvents_7 (by decide) (fun hc => ?_) (fun hc => ?_)
      · replace hf := hf.1 hc
        refine lv_iload_n (pc := 53) hx hb d_G_bringEvents_53 rfl (lv_at hl 1 rfl) ?_
        exact gr_i (pc := 54) hx hb hr hlk hK S hw hf d_G_bringEvents_54
      replace hf := hf.2 hc
      refine lv_aload_n (pc := 10) hx hb d_G_bringEvents_10 rfl (lv_at hl 0 rfl) ?_
      refine gk_gt_G_matrix (pc := 11) hx hb hK hts hinG hown hw.1 hl12 d_G_bringEvents_11 ?_
      refine lv_iload_n (pc := 14) hx hb d_G_bringEvents_14 rfl (lv_at hl 2 rfl) ?_
      refine gc_i (pc := 15) (Wf := gkW cI cZ cJ a) hw hA (va_runV (As := [.int x2]) (rest := []) ⟨hx, hb, hml, hown, hts⟩ (c_Mx_believe l D cI cZ cJ a _ _ _ _ hf) (cwV 1 hts (tb_wsV tc_Mx_believe tm_G_194 ti_Mx_believe te_Mx_believe tz_Mx) rfl rfl rfl (by decide +kernel) ⟨Nat.le_of_ble_eq_true rfl, Nat.le_of_ble_eq_true rfl⟩) (g_preV (q0 := 1) (ci := 1) hK hw rfl rfl) rfl rfl hl.1 rfl (lv_room (Nat.le_of_ble_eq_true rfl)) d_G_bringEvents_15 ⟨Nat.zero_le _, Nat.zero_le _⟩) (fun r15 S15 H locs hw hf => ?_)
      refine lv_istore_n (pc := 18) (lv' := [(3, .int r15), (0, .ref (a 0)), (1, .int x1), (2, .int x2)]) hx hb d_G_bringEvents_18 rfl hl (by decide) rfl (fun ls hl => ?_)
      refine lv_iload_n (pc := 19) hx hb d_G_bringEvents_19 rfl (lv_at hl 0 rfl) ?_
      refine lv_iconst (pc := 20) (v := -1) hx hb d_G_bringEvents_20 (by decide) ?_
      refine lv_icmp_eq (pc := 21) (tgt := 47) hx hb d_G_bringEvents_21 (by decide) (fun hc => ?_) (fun hc => ?_)
      · replace hf := hf.1 hc
        refine lv_iinc (pc := 47) (k := 3) (v := (x2 + (1 : Int32))) (lv' := [(2, .int (x2 + (1 : Int32))), (3, .int r15), (0, .ref (a 0)), (1, .int x1)]) hx hb d_G_bringEvents_47 hl rfl rfl (by decide) rfl (fun ls hl => ?_)
        refine lv_goto (pc := 50) (tgt := 4) hx hb d_G_bringEvents_50 (by decide) ?_
        exact ih4 x1 (x2 + (1 : Int32)) S15 _ _ _ (lv_sub hl [2, 3, 0] rfl) hw hf
      replace hf := hf.2 hc
      refine lv_aload_n (pc := 24) hx hb d_G_bringEvents_24 rfl (lv_at hl 1 rfl) ?_
      refine gk_gt_G_past (pc := 25) hx hb hK hts hinG hown hw.1 hl19 d_G_bringEvents_25 ?_
      refine lv_iload_n (pc := 28) hx hb d_G_bringEvents_28 rfl (lv_at hl 0 rfl) ?_
      refine gc_v (pc := 29) (Wf := gkW cI cZ cJ a) hw hA (va_runV (As := [.int r15]) (rest := []) ⟨hx, hb, hml, hown, hts⟩ (c_Hi_add l D cI cZ cJ a _ _ _ _ hf) (cwV 1 hts (tb_wsV tc_Hi_add tm_G_197 ti_Hi_add te_Hi_add tz_Hi) rfl rfl rfl (by decide +kernel) ⟨Nat.le_of_ble_eq_true rfl, Nat.le_of_ble_eq_true rfl⟩) (g_preV (q0 := 2) (ci := 2) hK hw rfl rfl) rfl rfl hl.1 rfl (lv_room (Nat.le_of_ble_eq_true rfl)) d_G_bringEvents_29 ⟨Nat.zero_le _, Nat.zero_le _⟩) (fun S29 H locs hw hf => ?_)
      refine lv_aload_n (pc := 32) hx hb d_G_bringEvents_32 rfl (lv_at hl 1 rfl) ?_
      refine gk_gt_G_queue (pc := 33) hx hb hK hts hinG hown hw.1 hl26 d_G_bringEvents_33 ?_
      refine lv_iload_n (pc := 36) hx hb d_G_bringEvents_36 rfl (lv_at hl 0 rfl) ?_
      refine lv_aload_n (pc := 37) hx hb d_G_bringEvents_37 rfl (lv_at hl 1 rfl) ?_
      refine gk_gt_G_now (pc := 38) (v := (S29.1 0 0)) hx hb hK hts hinG hown hw.1 hl65 rfl d_G_bringEvents_38 ?_
      refine gc_v (pc := 41) (Wf := gkW cI cZ cJ a) hw hA (va_runV (As := [.int r15, .int (S29.1 0 0)]) (rest := []) ⟨hx, hb, hml, hown, hts⟩ (c_Eq_add l D cI cZ cJ a _ _ _ _ _ hf) (cwV 2 hts (tb_wsV tc_Eq_add tm_G_200 ti_Eq_add te_Eq_add tz_Eq) rfl rfl rfl (by decide +kernel) ⟨Nat.le_of_ble_eq_true rfl, Nat.le_of_ble_eq_true rfl⟩) (g_preV (q0 := 3) (ci := 3) hK hw rfl rfl) rfl rfl hl.1 rfl (lv_room (Nat.le_of_ble_eq_true rfl)) d_G_bringEvents_41 ⟨Nat.zero_le _, Nat.zero_le _⟩) (fun S41 H locs hw hf => ?_)
      refine lv_iinc (pc := 44) (k := 2) (v := (x1 + (1 : Int32))) (lv' := [(1, .int (x1 + (1 : Int32))), (3, .int r15), (0, .ref (a 0)), (2, .int x2)]) hx hb d_G_bringEvents_44 hl rfl rfl (by decide) rfl (fun ls hl => ?_)
      refine lv_iinc (pc := 47) (k := 3) (v := (x2 + (1 : Int32))) (lv' := [(2, .int (x2 + (1 : Int32))), (1, .int (x1 + (1 : Int32))), (3, .int r15), (0, .ref (a 0))]) hx hb d_G_bringEvents_47 hl rfl rfl (by decide) rfl (fun ls hl => ?_)
      refine lv_goto (pc := 50) (tgt := 4) hx hb d_G_bringEvents_50 (by decide) ?_
      exact ih4 (x1 + (1 : Int32)) (x2 + (1 : Int32)) S41 _ _ _ (lv_sub hl [3, 1, 0] rfl) hw hf
  exact lp4 q4 (0 : Int32) (0 : Int32) S _ _ _ (lv_sub hl [2, 1, 0] rfl) hw hf
def wp_G_takeRelease (S : GS) (post : GS → Prop) : Prop := (wp_Eq_keyAt S (0 : Int32) (fun r5 => (wp_Eq_removeFirst S (1 : Int32) (fun S14 => (wp_La_letGo S14 r5 (fun S22 => (wp_Ho_end S22 r5 (fun r30 S30 => ((r30 = (0 : Int32) → (post S30)) ∧ (¬ r30 = (0 : Int32) → (wp_Re_letGo S30 r30 (fun S43 => (post S43)))))))))))))
abbrev rm_G_takeRelease : Room := { frames := 2, cells := 0, slots := 0, locals := 50 }
set_option maxHeartbeats 4000000 in
set_option maxRecDepth 100000 in
theorem c_G_takeRelease (l : Launch) (D : va_G) (cI cZ cJ : ClassId) (a : Nat → Nat) (sz : Nat) (S : GS) (post : GS → Prop) (hf : wp_G_takeRelease S post) : Met l y_G_takeRelease ws_G_takeRelease rm_G_takeRelease (va_Pc [.ref (a 0)] (gPre D (tys cI cZ cJ) (gkW cI cZ cJ a S) sz)) (va_Qv post (gB D (tys cI cZ cJ) (gkW cI cZ cJ a) (va_A (gkW cI cZ cJ a S) sz)) (va_A (gkW cI cZ cJ a S) sz)) 0 0 (va_A (gkW cI cZ cJ a S) sz) := by
  refine gm_w (QF := fun A => va_Qv post (gB D (tys cI cZ cJ) (gkW cI cZ cJ a) A) A) (cc := b_G_takeRelease) (maxL := 3) (by decide) rfl (Nat.le_of_ble_eq_true rfl) ?_
  intro p e s m args below meth c A ls hx hb hr hts hown hmn hlk hml hK hA hw hl
  have hl : lv_has ls 3 [(0, .ref (a 0))] := hl
  have hinG : ∀ w ∈ u_ws R_G T_G 9, w ∈ ws_G_takeRelease := fun w h => List.mem_cons_of_mem _ (tl_G w h)
  have hl26 := hts _ (List.mem_cons_of_mem _ tf_G_26)
  have hl47 := hts _ (List.mem_cons_of_mem _ tf_G_47)
  have hl54 := hts _ (List.mem_cons_of_mem _ tf_G_54)
  have hl61 := hts _ (List.mem_cons_of_mem _ tf_G_61)
  unfold wp_G_takeRelease at hf
  refine lv_aload_n (pc := 0) hx hb d_G_takeRelease_0 rfl (lv_at hl 0 rfl) ?_
  refine gk_gt_G_queue (pc := 1) hx hb hK hts hinG hown hw.1 hl26 d_G_takeRelease_1 ?_
  refine lv_iconst (pc := 4) (v := 0) hx hb d_G_takeRelease_4 (by decide) ?_
  refine vp_callSi (pc := 5) (W.runV (As := [.int (0 : Int32)]) (rest := []) ⟨hx, hb, hml, hown, hts⟩ (c_Eq_keyAt l D cI cZ cJ a _ _ _ hf) (cwV 1 hts (tb_wsV tc_Eq_keyAt tm_G_224 ti_Eq_keyAt te_Eq_keyAt tz_Eq) rfl rfl rfl (by decide +kernel) ⟨Nat.le_of_ble_eq_true rfl, Nat.le_of_ble_eq_true rfl⟩) (r_preV (q0 := 3) (ci := 3) hK hw.1 rfl rfl) rfl rfl hl.1 rfl (lv_room (Nat.le_of_ble_eq_true rfl)) d_G_takeRelease_5 ⟨Nat.zero_le _, Nat.zero_le _⟩) (fun r5 hf => ?_)
  refine lv_istore_n (pc := 8) (lv' := [(1, .int r5), (0, .ref (a 0))]) hx hb d_G_takeRelease_8 rfl hl (by decide) rfl (fun ls hl => ?_)
  refine lv_aload_n (pc := 9) hx hb d_G_takeRelease_9 rfl (lv_at hl 1 rfl) ?_
  refine gk_gt_G_queue (pc := 10) hx hb hK hts hinG hown hw.1 hl26 d_G_takeRelease_10 ?_
  refine lv_iconst (pc := 13) (v := 1) hx hb d_G_takeRelease_13 (by decide) ?_
  refine gc_v (pc := 14) (Wf := gkW cI cZ cJ a) hw hA (va_runV (As := [.int (1 : Int32)]) (rest := []) ⟨hx, hb, hml, hown, hts⟩ (c_Eq_removeFirst l D cI cZ cJ a _ _ _ _ hf) (cwV 1 hts (tb_wsV tc_Eq_removeFirst tm_G_227 ti_Eq_removeFirst te_Eq_removeFirst tz_Eq) rfl rfl rfl (by decide +kernel) ⟨Nat.le_of_ble_eq_true rfl, Nat.le_of_ble_eq_true rfl⟩) (g_preV (q0 := 3) (ci := 3) hK hw rfl rfl) rfl rfl hl.1 rfl (lv_room (Nat.le_of_ble_eq_true rfl)) d_G_takeRelease_14 ⟨Nat.zero_le _, Nat.zero_le _⟩) (fun S14 H locs hw hf => ?_)
  refine lv_aload_n (pc := 17) hx hb d_G_takeRelease_17 rfl (lv_at hl 1 rfl) ?_
  refine gk_gt_G_layers (pc := 18) hx hb hK hts hinG hown hw.1 hl47 d_G_takeRelease_18 ?_
  refine lv_iload_n (pc := 21) hx hb d_G_takeRelease_21 rfl (lv_at hl 0 rfl) ?_
  refine gc_v (pc := 22) (Wf := gkW cI cZ cJ a) hw hA (va_runV (As := [.int r5]) (rest := []) ⟨hx, hb, hml, hown, hts⟩ (c_La_letGo l D cI cZ cJ a _ _ _ _ hf) (cwV 1 hts (tb_wsV tc_La_letGo tm_G_230 ti_La_letGo te_La_letGo tz_La) rfl rfl rfl (by decide +kernel) ⟨Nat.le_of_ble_eq_true rfl, Nat.le_of_ble_eq_true rfl⟩) (g_preV (q0 := 6) (ci := 6) hK hw rfl rfl) rfl rfl hl.1 rfl (lv_room (Nat.le_of_ble_eq_true rfl)) d_G_takeRelease_22 ⟨Nat.zero_le _, Nat.zero_le _⟩) (fun S22 H locs hw hf => ?_)
  refine lv_aload_n (pc := 25) hx hb d_G_takeRelease_25 rfl (lv_at hl 1 rfl) ?_
  refine gk_gt_G_holds (pc := 26) hx hb hK hts hinG hown hw.1 hl54 d_G_takeRelease_26 ?_
  refine lv_iload_n (pc := 29) hx hb d_G_takeRelease_29 rfl (lv_at hl 0 rfl) ?_
  refine gc_i (pc := 30) (Wf := gkW cI cZ cJ a) hw hA (va_runV (As := [.int r5]) (rest := []) ⟨hx, hb, hml, hown, hts⟩ (c_Ho_end l D cI cZ cJ a _ _ _ _ hf) (cwV 1 hts (tb_wsV tc_Ho_end tm_G_233 ti_Ho_end te_Ho_end tz_Ho) rfl rfl rfl (by decide +kernel) ⟨Nat.le_of_ble_eq_true rfl, Nat.le_of_ble_eq_true rfl⟩) (g_preV (q0 := 7) (ci := 7) hK hw rfl rfl) rfl rfl hl.1 rfl (lv_room (Nat.le_of_ble_eq_true rfl)) d_G_takeRelease_30 ⟨Nat.zero_le _, Nat.zero_le _⟩) (fun r30 S30 H locs hw hf => ?_)
  refine lv_istore_n (pc := 33) (lv' := [(2, .int r30), (1, .int r5), (0, .ref (a 0))]) hx hb d_G_takeRelease_33 rfl hl (by decide) rfl (fun ls hl => ?_)
  refine lv_iload_n (pc := 34) hx hb d_G_takeRelease_34 rfl (lv_at hl 0 rfl) ?_
  refine lv_if_eq (pc := 35) (tgt := 46) hx hb d_G_takeRelease_35 (by decide) (fun hc => ?_) (fun hc => ?_)
  · replace hf := hf.1 hc
    exact gr_v (pc := 46) hx hb hr hlk hK S30 hw hf d_G_takeRelease_46
  replace hf := hf.2 hc
  refine lv_aload_n (pc := 38) hx hb d_G_takeRelease_38 rfl (lv_at hl 2 rfl) ?_
  refine gk_gt_G_reports (pc := 39) hx hb hK hts hinG hown hw.1 hl61 d_G_takeRelease_39 ?_
  refine lv_iload_n (pc := 42) hx hb d_G_takeRelease_42 rfl (lv_at hl 0 rfl) ?_
  refine gc_v (pc := 43) (Wf := gkW cI cZ cJ a) hw hA (va_runV (As := [.int r30]) (rest := []) ⟨hx, hb, hml, hown, hts⟩ (c_Re_letGo l D cI cZ cJ a _ _ _ _ hf) (cwV 1 hts (tb_wsV tc_Re_letGo tm_G_236 ti_Re_letGo te_Re_letGo tz_Re) rfl rfl rfl (by decide +kernel) ⟨Nat.le_of_ble_eq_true rfl, Nat.le_of_ble_eq_true rfl⟩) (g_preV (q0 := 8) (ci := 8) hK hw rfl rfl) rfl rfl hl.1 rfl (lv_room (Nat.le_of_ble_eq_true rfl)) d_G_takeRelease_43 ⟨Nat.zero_le _, Nat.zero_le _⟩) (fun S43 H locs hw hf => ?_)
  exact gr_v (pc := 46) hx hb hr hlk hK S43 hw hf d_G_takeRelease_46
def wp_G_waitsForChord (S : GS) (p0 : Int32) (post : Int32 → Prop) : Prop := (wp_Eq_length S (fun r5 => ((p0 = r5 → (((8 : Int32) < p0 → (post (0 : Int32))) ∧ (¬ (8 : Int32) < p0 → (wp_Eq_scanAt S (0 : Int32) (fun r26 => (((r26 + (9 : Int32)) ≤ (S.1 0 0) → (post (0 : Int32))) ∧ (¬ (r26 + (9 : Int32)) ≤ (S.1 0 0) → (wp_Eq_firstKeys S p0 (fun r44 => (wp_Ch_canGrowFrom S r44 (fun r47 => ((r47 = (0 : Int32) → (post (0 : Int32))) ∧ (¬ r47 = (0 : Int32) → (post (1 : Int32))))))))))))))) ∧ (¬ p0 = r5 → (post (0 : Int32))))))
abbrev rm_G_waitsForChord : Room := { frames := 2, cells := 0, slots := 0, locals := 44 }
set_option maxHeartbeats 4000000 in
set_option maxRecDepth 100000 in
theorem c_G_waitsForChord (l : Launch) (D : va_G) (cI cZ cJ : ClassId) (a : Nat → Nat) (S : GS) (p0 : Int32) (post : Int32 → Prop) (hf : wp_G_waitsForChord S p0 post) : Met l y_G_waitsForChord ws_G_waitsForChord rm_G_waitsForChord (va_Pc [.ref (a 0), .int p0] (rPre D (tys cI cZ cJ) (gkW cI cZ cJ a S))) (vp_Si post) 0 0 (fun _ => False) := by
  refine gm_r (cc := b_G_waitsForChord) (maxL := 2) (by decide) rfl (Nat.le_of_ble_eq_true rfl) ?_
  intro p e s m args below meth c ls hx hb hr hts hown hlk hml hK hP hl
  have hl : lv_has ls 2 [(0, .ref (a 0)), (1, .int p0)] := hl
  have hinG : ∀ w ∈ u_ws R_G T_G 9, w ∈ ws_G_waitsForChord := fun w h => List.mem_cons_of_mem _ (tl_G w h)
  have hl26 := hts _ (List.mem_cons_of_mem _ tf_G_26)
  have hl40 := hts _ (List.mem_cons_of_mem _ tf_G_40)
  have hl65 := hts _ (List.mem_cons_of_mem _ tf_G_65)
  unfold wp_G_waitsForChord at hf
  refine lv_iload_n (pc := 0) hx hb d_G_waitsForChord_0 rfl (lv_at hl 1 rfl) ?_
  refine lv_aload_n (pc := 1) hx hb d_G_waitsForChord_1 rfl (lv_at hl 0 rfl) ?_
  refine gk_gt_G_queue (pc := 2) hx hb hK hts hinG hown hP hl26 d_G_waitsForChord_2 ?_
  refine vp_callSi (pc := 5) (W.runV (As := []) (rest := [.int p0]) ⟨hx, hb, hml, hown, hts⟩ (c_Eq_length l D cI cZ cJ a _ _ hf) (cwV 0 hts (tb_wsV tc_Eq_length tm_G_167 ti_Eq_length te_Eq_length tz_Eq) rfl rfl rfl (by decide +kernel) ⟨Nat.le_of_ble_eq_true rfl, Nat.le_of_ble_eq_true rfl⟩) (r_preV (q0 := 3) (ci := 3) hK hP rfl rfl) rfl rfl hl.1 rfl (lv_room (Nat.le_of_ble_eq_true rfl)) d_G_waitsForChord_5 ⟨Nat.zero_le _, Nat.zero_le _⟩) (fun r5 hf => ?_)
  refine lv_icmp_ne (pc := 8) (tgt := 57) hx hb d_G_waitsForChord_8 (by decide) (fun hc => ?_) (fun hc => ?_)
  · replace hf := hf.2 hc
    refine lv_iconst (pc := 57) (v := 0) hx hb d_G_waitsForChord_57 (by decide) ?_
    exact rr_z (pc := 58) hx hb hr hlk (by decide) hf d_G_waitsForChord_58
  replace hf := hf.1 hc
  refine lv_iload_n (pc := 11) hx hb d_G_waitsForChord_11 rfl (lv_at hl 1 rfl) ?_
  refine lv_bipush (pc := 12) (v := 8) hx hb d_G_waitsForChord_12 (by decide) ?_
  refine lv_icmp_gt (pc := 14) (tgt := 57) hx hb d_G_waitsForChord_14 (by decide) (fun hc => ?_) (fun hc => ?_)
  · replace hf := hf.1 hc
    refine lv_iconst (pc := 57) (v := 0) hx hb d_G_waitsForChord_57 (by decide) ?_
    exact rr_z (pc := 58) hx hb hr hlk (by decide) hf d_G_waitsForChord_58
  replace hf := hf.2 hc
  refine lv_aload_n (pc := 17) hx hb d_G_waitsForChord_17 rfl (lv_at hl 0 rfl) ?_
  refine gk_gt_G_now (pc := 18) (v := (S.1 0 0)) hx hb hK hts hinG hown hP hl65 rfl d_G_waitsForChord_18 ?_
  refine lv_aload_n (pc := 21) hx hb d_G_waitsForChord_21 rfl (lv_at hl 0 rfl) ?_
  refine gk_gt_G_queue (pc := 22) hx hb hK hts hinG hown hP hl26 d_G_waitsForChord_22 ?_
  refine lv_iconst (pc := 25) (v := 0) hx hb d_G_waitsForChord_25 (by decide) ?_
  refine vp_callSi (pc := 26) (W.runV (As := [.int (0 : Int32)]) (rest := [.int (S.1 0 0)]) ⟨hx, hb, hml, hown, hts⟩ (c_Eq_scanAt l D cI cZ cJ a _ _ _ hf) (cwV 1 hts (tb_wsV tc_Eq_scanAt tm_G_237 ti_Eq_scanAt te_Eq_scanAt tz_Eq) rfl rfl rfl (by decide +kernel) ⟨Nat.le_of_ble_eq_true rfl, Nat.le_of_ble_eq_true rfl⟩) (r_preV (q0 := 3) (ci := 3) hK hP rfl rfl) rfl rfl hl.1 rfl (lv_room (Nat.le_of_ble_eq_true rfl)) d_G_waitsForChord_26 ⟨Nat.zero_le _, Nat.zero_le _⟩) (fun r26 hf => ?_)
  refine lv_bipush (pc := 29) (v := 9) hx hb d_G_waitsForChord_29 (by decide) ?_
  refine lv_iadd (pc := 31) hx hb d_G_waitsForChord_31 ?_
  refine lv_icmp_ge (pc := 32) (tgt := 57) hx hb d_G_waitsForChord_32 (by decide) (fun hc => ?_) (fun hc => ?_)
  · replace hf := hf.1 hc
    refine lv_iconst (pc := 57) (v := 0) hx hb d_G_waitsForChord_57 (by decide) ?_
    exact rr_z (pc := 58) hx hb hr hlk (by decide) hf d_G_waitsForChord_58
  replace hf := hf.2 hc
  refine lv_aload_n (pc := 35) hx hb d_G_waitsForChord_35 rfl (lv_at hl 0 rfl) ?_
  refine gk_gt_G_chords (pc := 36) hx hb hK hts hinG hown hP hl40 d_G_waitsForChord_36 ?_
  refine lv_aload_n (pc := 39) hx hb d_G_waitsForChord_39 rfl (lv_at hl 0 rfl) ?_
  refine gk_gt_G_queue (pc := 40) hx hb hK hts hinG hown hP hl26 d_G_waitsForChord_40 ?_
  refine lv_iload_n (pc := 43) hx hb d_G_waitsForChord_43 rfl (lv_at hl 1 rfl) ?_
  refine vp_callSi (pc := 44) (W.runV (As := [.int p0]) (rest := [.ref (a 5)]) ⟨hx, hb, hml, hown, hts⟩ (c_Eq_firstKeys l D cI cZ cJ a _ _ _ hf) (cwV 1 hts (tb_wsV tc_Eq_firstKeys tm_G_240 ti_Eq_firstKeys te_Eq_firstKeys tz_Eq) rfl rfl rfl (by decide +kernel) ⟨Nat.le_of_ble_eq_true rfl, Nat.le_of_ble_eq_true rfl⟩) (r_preV (q0 := 3) (ci := 3) hK hP rfl rfl) rfl rfl hl.1 rfl (lv_room (Nat.le_of_ble_eq_true rfl)) d_G_waitsForChord_44 ⟨Nat.zero_le _, Nat.zero_le _⟩) (fun r44 hf => ?_)
  refine vp_callSi (pc := 47) (W.runV (As := [.int r44]) (rest := []) ⟨hx, hb, hml, hown, hts⟩ (c_Ch_canGrowFrom l D cI cZ cJ a _ _ _ hf) (cwV 1 hts (tb_wsV tc_Ch_canGrowFrom tm_G_243 ti_Ch_canGrowFrom te_Ch_canGrowFrom tz_Ch) rfl rfl rfl (by decide +kernel) ⟨Nat.le_of_ble_eq_true rfl, Nat.le_of_ble_eq_true rfl⟩) (r_preV (q0 := 5) (ci := 5) hK hP rfl rfl) rfl rfl hl.1 rfl (lv_room (Nat.le_of_ble_eq_true rfl)) d_G_waitsForChord_47 ⟨Nat.zero_le _, Nat.zero_le _⟩) (fun r47 hf => ?_)
  refine lv_if_eq (pc := 50) (tgt := 57) hx hb d_G_waitsForChord_50 (by decide) (fun hc => ?_) (fun hc => ?_)
  · replace hf := hf.1 hc
    refine lv_iconst (pc := 57) (v := 0) hx hb d_G_waitsForChord_57 (by decide) ?_
    exact rr_z (pc := 58) hx hb hr hlk (by decide) hf d_G_waitsForChord_58
  replace hf := hf.2 hc
  refine lv_iconst (pc := 53) (v := 1) hx hb d_G_waitsForChord_53 (by decide) ?_
  refine lv_goto (pc := 54) (tgt := 58) hx hb d_G_waitsForChord_54 (by decide) ?_
  exact rr_z (pc := 58) hx hb hr hlk (by decide) hf d_G_waitsForChord_58
def wp_G_takeChord (S : GS) (p0 : Int32) (post : GS → Prop) : Prop := (wp_Ch_keysOf S p0 (fun r5 => (wp_Ch_codeOf S p0 (fun r14 => (wp_Ji_bitCount r5 (fun r23 => (wp_Eq_removeFirst S r23 (fun S26 => (wp_Ho_begin S26 r5 r14 (fun S35 => (wp_Re_goDown S35 r14 (fun S43 => (wp_La_disarm S43 (fun S50 => (post S50)))))))))))))))
abbrev rm_G_takeChord : Room := { frames := 2, cells := 0, slots := 0, locals := 50 }
set_option maxHeartbeats 4000000 in
set_option maxRecDepth 100000 in
theorem c_G_takeChord (l : Launch) (D : va_G) (cI cZ cJ : ClassId) (a : Nat → Nat) (sz : Nat) (S : GS) (p0 : Int32) (post : GS → Prop) (hf : wp_G_takeChord S p0 post) : Met l y_G_takeChord ws_G_takeChord rm_G_takeChord (va_Pc [.ref (a 0), .int p0] (gPre D (tys cI cZ cJ) (gkW cI cZ cJ a S) sz)) (va_Qv post (gB D (tys cI cZ cJ) (gkW cI cZ cJ a) (va_A (gkW cI cZ cJ a S) sz)) (va_A (gkW cI cZ cJ a S) sz)) 0 0 (va_A (gkW cI cZ cJ a S) sz) := by
  refine gm_w (QF := fun A => va_Qv post (gB D (tys cI cZ cJ) (gkW cI cZ cJ a) A) A) (cc := b_G_takeChord) (maxL := 4) (by decide) rfl (Nat.le_of_ble_eq_true rfl) ?_
  intro p e s m args below meth c A ls hx hb hr hts hown hmn hlk hml hK hA hw hl
  have hl : lv_has ls 4 [(0, .ref (a 0)), (1, .int p0)] := hl
  have hinG : ∀ w ∈ u_ws R_G T_G 9, w ∈ ws_G_takeChord := fun w h => List.mem_cons_of_mem _ (tl_G w h)
  have hl26 := hts _ (List.mem_cons_of_mem _ tf_G_26)
  have hl40 := hts _ (List.mem_cons_of_mem _ tf_G_40)
  have hl47 := hts _ (List.mem_cons_of_mem _ tf_G_47)
  have hl54 := hts _ (List.mem_cons_of_mem _ tf_G_54)
  have hl61 := hts _ (List.mem_cons_of_mem _ tf_G_61)
  unfold wp_G_takeChord at hf
  refine lv_aload_n (pc := 0) hx hb d_G_takeChord_0 rfl (lv_at hl 0 rfl) ?_
  refine gk_gt_G_chords (pc := 1) hx hb hK hts hinG hown hw.1 hl40 d_G_takeChord_1 ?_
  refine lv_iload_n (pc := 4) hx hb d_G_takeChord_4 rfl (lv_at hl 1 rfl) ?_
  refine vp_callSi (pc := 5) (W.runV (As := [.int p0]) (rest := []) ⟨hx, hb, hml, hown, hts⟩ (c_Ch_keysOf l D cI cZ cJ a _ _ _ hf) (cwV 1 hts (tb_wsV tc_Ch_keysOf tm_G_246 ti_Ch_keysOf te_Ch_keysOf tz_Ch) rfl rfl rfl (by decide +kernel) ⟨Nat.le_of_ble_eq_true rfl, Nat.le_of_ble_eq_true rfl⟩) (r_preV (q0 := 5) (ci := 5) hK hw.1 rfl rfl) rfl rfl hl.1 rfl (lv_room (Nat.le_of_ble_eq_true rfl)) d_G_takeChord_5 ⟨Nat.zero_le _, Nat.zero_le _⟩) (fun r5 hf => ?_)
  refine lv_istore_n (pc := 8) (lv' := [(2, .int r5), (0, .ref (a 0)), (1, .int p0)]) hx hb d_G_takeChord_8 rfl hl (by decide) rfl (fun ls hl => ?_)
  refine lv_aload_n (pc := 9) hx hb d_G_takeChord_9 rfl (lv_at hl 1 rfl) ?_
  refine gk_gt_G_chords (pc := 10) hx hb hK hts hinG hown hw.1 hl40 d_G_takeChord_10 ?_
  refine lv_iload_n (pc := 13) hx hb d_G_takeChord_13 rfl (lv_at hl 2 rfl) ?_
  refine vp_callSi (pc := 14) (W.runV (As := [.int p0]) (rest := []) ⟨hx, hb, hml, hown, hts⟩ (c_Ch_codeOf l D cI cZ cJ a _ _ _ hf) (cwV 1 hts (tb_wsV tc_Ch_codeOf tm_G_249 ti_Ch_codeOf te_Ch_codeOf tz_Ch) rfl rfl rfl (by decide +kernel) ⟨Nat.le_of_ble_eq_true rfl, Nat.le_of_ble_eq_true rfl⟩) (r_preV (q0 := 5) (ci := 5) hK hw.1 rfl rfl) rfl rfl hl.1 rfl (lv_room (Nat.le_of_ble_eq_true rfl)) d_G_takeChord_14 ⟨Nat.zero_le _, Nat.zero_le _⟩) (fun r14 hf => ?_)
  refine lv_istore_n (pc := 17) (lv' := [(3, .int r14), (2, .int r5), (0, .ref (a 0)), (1, .int p0)]) hx hb d_G_takeChord_17 rfl hl (by decide) rfl (fun ls hl => ?_)
  refine lv_aload_n (pc := 18) hx hb d_G_takeChord_18 rfl (lv_at hl 2 rfl) ?_
  refine gk_gt_G_queue (pc := 19) hx hb hK hts hinG hown hw.1 hl26 d_G_takeChord_19 ?_
  refine lv_iload_n (pc := 22) hx hb d_G_takeChord_22 rfl (lv_at hl 1 rfl) ?_
  refine vp_callSi (pc := 23) (W.runS (As := [.int r5]) (rest := [.ref (a 3)]) ⟨hx, hb, hml, hown, hts⟩ (c_Ji_bitCount l _ _ hf) (va_cwS 1 hts (tb_vaS tc_Ji_bitCount tm_G_177 ts_Ji_bitCount tz_Ji) rfl rfl rfl (by decide +kernel) ⟨Nat.le_of_ble_eq_true rfl, Nat.le_of_ble_eq_true rfl⟩) p_preS rfl rfl hl.1 rfl (lv_room (Nat.le_of_ble_eq_true rfl)) d_G_takeChord_23 ⟨Nat.zero_le _, Nat.zero_le _⟩) (fun r23 hf => ?_)
  refine gc_v (pc := 26) (Wf := gkW cI cZ cJ a) hw hA (va_runV (As := [.int r23]) (rest := []) ⟨hx, hb, hml, hown, hts⟩ (c_Eq_removeFirst l D cI cZ cJ a _ _ _ _ hf) (cwV 1 hts (tb_wsV tc_Eq_removeFirst tm_G_227 ti_Eq_removeFirst te_Eq_removeFirst tz_Eq) rfl rfl rfl (by decide +kernel) ⟨Nat.le_of_ble_eq_true rfl, Nat.le_of_ble_eq_true rfl⟩) (g_preV (q0 := 3) (ci := 3) hK hw rfl rfl) rfl rfl hl.1 rfl (lv_room (Nat.le_of_ble_eq_true rfl)) d_G_takeChord_26 ⟨Nat.zero_le _, Nat.zero_le _⟩) (fun S26 H locs hw hf => ?_)
  refine lv_aload_n (pc := 29) hx hb d_G_takeChord_29 rfl (lv_at hl 2 rfl) ?_
  refine gk_gt_G_holds (pc := 30) hx hb hK hts hinG hown hw.1 hl54 d_G_takeChord_30 ?_
  refine lv_iload_n (pc := 33) hx hb d_G_takeChord_33 rfl (lv_at hl 1 rfl) ?_
  refine lv_iload_n (pc := 34) hx hb d_G_takeChord_34 rfl (lv_at hl 0 rfl) ?_
  refine gc_v (pc := 35) (Wf := gkW cI cZ cJ a) hw hA (va_runV (As := [.int r5, .int r14]) (rest := []) ⟨hx, hb, hml, hown, hts⟩ (c_Ho_begin l D cI cZ cJ a _ _ _ _ _ hf) (cwV 2 hts (tb_wsV tc_Ho_begin tm_G_252 ti_Ho_begin te_Ho_begin tz_Ho) rfl rfl rfl (by decide +kernel) ⟨Nat.le_of_ble_eq_true rfl, Nat.le_of_ble_eq_true rfl⟩) (g_preV (q0 := 7) (ci := 7) hK hw rfl rfl) rfl rfl hl.1 rfl (lv_room (Nat.le_of_ble_eq_true rfl)) d_G_takeChord_35 ⟨Nat.zero_le _, Nat.zero_le _⟩) (fun S35 H locs hw hf => ?_)
  refine lv_aload_n (pc := 38) hx hb d_G_takeChord_38 rfl (lv_at hl 2 rfl) ?_
  refine gk_gt_G_reports (pc := 39) hx hb hK hts hinG hown hw.1 hl61 d_G_takeChord_39 ?_
  refine lv_iload_n (pc := 42) hx hb d_G_takeChord_42 rfl (lv_at hl 0 rfl) ?_
  refine gc_v (pc := 43) (Wf := gkW cI cZ cJ a) hw hA (va_runV (As := [.int r14]) (rest := []) ⟨hx, hb, hml, hown, hts⟩ (c_Re_goDown l D cI cZ cJ a _ _ _ _ hf) (cwV 1 hts (tb_wsV tc_Re_goDown tm_G_255 ti_Re_goDown te_Re_goDown tz_Re) rfl rfl rfl (by decide +kernel) ⟨Nat.le_of_ble_eq_true rfl, Nat.le_of_ble_eq_true rfl⟩) (g_preV (q0 := 8) (ci := 8) hK hw rfl rfl) rfl rfl hl.1 rfl (lv_room (Nat.le_of_ble_eq_true rfl)) d_G_takeChord_43 ⟨Nat.zero_le _, Nat.zero_le _⟩) (fun S43 H locs hw hf => ?_)
  refine lv_aload_n (pc := 46) hx hb d_G_takeChord_46 rfl (lv_at hl 2 rfl) ?_
  refine gk_gt_G_layers (pc := 47) hx hb hK hts hinG hown hw.1 hl47 d_G_takeChord_47 ?_
  refine gc_v (pc := 50) (Wf := gkW cI cZ cJ a) hw hA (va_runV (As := []) (rest := []) ⟨hx, hb, hml, hown, hts⟩ (c_La_disarm l D cI cZ cJ a _ _ _ hf) (cwV 0 hts (tb_wsV tc_La_disarm tm_G_258 ti_La_disarm te_La_disarm tz_La) rfl rfl rfl (by decide +kernel) ⟨Nat.le_of_ble_eq_true rfl, Nat.le_of_ble_eq_true rfl⟩) (g_preV (q0 := 6) (ci := 6) hK hw rfl rfl) rfl rfl hl.1 rfl (lv_room (Nat.le_of_ble_eq_true rfl)) d_G_takeChord_50 ⟨Nat.zero_le _, Nat.zero_le _⟩) (fun S50 H locs hw hf => ?_)
  exact gr_v (pc := 53) hx hb hr hlk hK S50 hw hf d_G_takeChord_53
def J_G_tellTap_43 (S : GS) (post : Int32 → Prop) (x1 : Int32) (y0 : Int32) : Prop := ((x1 = (0 : Int32) → ((y0 = (0 : Int32) → (post x1)) ∧ (¬ y0 = (0 : Int32) → (post (2 : Int32))))) ∧ (¬ x1 = (0 : Int32) → (post x1)))
def J_G_tellTap_38 (S : GS) (post : Int32 → Prop) (x1 : Int32) : Prop := (J_G_tellTap_43 S post x1 (1 : Int32))
def wp_G_tellTap (S : GS) (post : Int32 → Prop) : Prop := (wp_Eq_tellTap S (fun r4 => (wp_Eq_scanAt S (0 : Int32) (fun r17 => (((r17 + (20 : Int32)) ≤ (S.1 0 0) → (J_G_tellTap_38 S post r4)) ∧ (¬ (r17 + (20 : Int32)) ≤ (S.1 0 0) → (wp_Eq_length S (fun r30 => ((r30 ≤ (8 : Int32) → (J_G_tellTap_43 S post r4 (0 : Int32))) ∧ (¬ r30 ≤ (8 : Int32) → (J_G_tellTap_38 S post r4)))))))))))
abbrev rm_G_tellTap : Room := { frames := 2, cells := 0, slots := 0, locals := 44 }
set_option maxHeartbeats 4000000 in
set_option maxRecDepth 100000 in
theorem c_G_tellTap (l : Launch) (D : va_G) (cI cZ cJ : ClassId) (a : Nat → Nat) (S : GS) (post : Int32 → Prop) (hf : wp_G_tellTap S post) : Met l y_G_tellTap ws_G_tellTap rm_G_tellTap (va_Pc [.ref (a 0)] (rPre D (tys cI cZ cJ) (gkW cI cZ cJ a S))) (vp_Si post) 0 0 (fun _ => False) := by
  refine gm_r (cc := b_G_tellTap) (maxL := 3) (by decide) rfl (Nat.le_of_ble_eq_true rfl) ?_
  intro p e s m args below meth c ls hx hb hr hts hown hlk hml hK hP hl
  have hl : lv_has ls 3 [(0, .ref (a 0))] := hl
  have hinG : ∀ w ∈ u_ws R_G T_G 9, w ∈ ws_G_tellTap := fun w h => List.mem_cons_of_mem _ (tl_G w h)
  have hl26 := hts _ (List.mem_cons_of_mem _ tf_G_26)
  have hl65 := hts _ (List.mem_cons_of_mem _ tf_G_65)
  have jn43 : ∀ (x1 : Int32) (y0 : Int32) (ls : Array Slot), lv_has ls 3 [(0, .ref (a 0)), (1, .int x1)] → J_G_tellTap_43 S post x1 y0 → W p l e rm_G_tellTap s m args below meth c s.heap [] 0 0 (MQ below (vp_Si post) args s 0 0 (fun _ => False)) (F0 m 43 ls [.int y0]) := by
    intro x1 y0 ls hl hf
    unfold J_G_tellTap_43 at hf
    refine lv_istore_n (pc := 43) (lv' := [(2, .int y0), (0, .ref (a 0)), (1, .int x1)]) hx hb d_G_tellTap_43 rfl hl (by decide) rfl (fun ls hl => ?_)
    refine lv_iload_n (pc := 44) hx hb d_G_tellTap_44 rfl (lv_at hl 2 rfl) ?_
    refine lv_if_ne (pc := 45) (tgt := 56) hx hb d_G_tellTap_45 (by decide) (fun hc => ?_) (fun hc => ?_)
    · replace hf := hf.2 hc
      refine lv_iload_n (pc := 56) hx hb d_G_tellTap_56 rfl (lv_at hl 2 rfl) ?_
      exact rr_i (pc := 57) hx hb hr hlk hf d_G_tellTap_57
    replace hf := hf.1 hc
    refine lv_iload_n (pc := 48) hx hb d_G_tellTap_48 rfl (lv_at hl 0 rfl) ?_
    refine lv_if_eq (pc := 49) (tgt := 56) hx hb d_G_tellTap_49 (by decide) (fun hc => ?_) (fun hc => ?_)
    · replace hf := hf.1 hc
      refine lv_iload_n (pc := 56) hx hb d_G_tellTap_56 rfl (lv_at hl 2 rfl) ?_
      exact rr_i (pc := 57) hx hb hr hlk hf d_G_tellTap_57
    replace hf := hf.2 hc
    refine lv_iconst (pc := 52) (v := 2) hx hb d_G_tellTap_52 (by decide) ?_
    refine lv_goto (pc := 53) (tgt := 57) hx hb d_G_tellTap_53 (by decide) ?_
    exact rr_i (pc := 57) hx hb hr hlk hf d_G_tellTap_57
  have jn38 : ∀ (x1 : Int32) (ls : Array Slot), lv_has ls 3 [(0, .ref (a 0)), (1, .int x1)] → J_G_tellTap_38 S post x1 → W p l e rm_G_tellTap s m args below meth c s.heap [] 0 0 (MQ below (vp_Si post) args s 0 0 (fun _ => False)) (F0 m 38 ls []) := by
    intro x1 ls hl hf
    unfold J_G_tellTap_38 at hf
    refine lv_iconst (pc := 38) (v := 1) hx hb d_G_tellTap_38 (by decide) ?_
    refine lv_goto (pc := 39) (tgt := 43) hx hb d_G_tellTap_39 (by decide) ?_
    exact jn43 x1 (1 : Int32) _ (lv_sub hl [0, 1] rfl) hf
  unfold wp_G_tellTap at hf
  refine lv_aload_n (pc := 0) hx hb d_G_tellTap_0 rfl (lv_at hl 0 rfl) ?_
  refine gk_gt_G_queue (pc := 1) hx hb hK hts hinG hown hP hl26 d_G_tellTap_1 ?_
  refine vp_callSi (pc := 4) (W.runV (As := []) (rest := []) ⟨hx, hb, hml, hown, hts⟩ (c_Eq_tellTap l D cI cZ cJ a _ _ hf) (cwV 0 hts (tb_wsV tc_Eq_tellTap tm_G_286 ti_Eq_tellTap te_Eq_tellTap tz_Eq) rfl rfl rfl (by decide +kernel) ⟨Nat.le_of_ble_eq_true rfl, Nat.le_of_ble_eq_true rfl⟩) (r_preV (q0 := 3) (ci := 3) hK hP rfl rfl) rfl rfl hl.1 rfl (lv_room (Nat.le_of_ble_eq_true rfl)) d_G_tellTap_4 ⟨Nat.zero_le _, Nat.zero_le _⟩) (fun r4 hf => ?_)
  refine lv_istore_n (pc := 7) (lv' := [(1, .int r4), (0, .ref (a 0))]) hx hb d_G_tellTap_7 rfl hl (by decide) rfl (fun ls hl => ?_)
  refine lv_aload_n (pc := 8) hx hb d_G_tellTap_8 rfl (lv_at hl 1 rfl) ?_
  refine gk_gt_G_now (pc := 9) (v := (S.1 0 0)) hx hb hK hts hinG hown hP hl65 rfl d_G_tellTap_9 ?_
  refine lv_aload_n (pc := 12) hx hb d_G_tellTap_12 rfl (lv_at hl 1 rfl) ?_
  refine gk_gt_G_queue (pc := 13) hx hb hK hts hinG hown hP hl26 d_G_tellTap_13 ?_
  refine lv_iconst (pc := 16) (v := 0) hx hb d_G_tellTap_16 (by decide) ?_
  refine vp_callSi (pc := 17) (W.runV (As := [.int (0 : Int32)]) (rest := [.int (S.1 0 0)]) ⟨hx, hb, hml, hown, hts⟩ (c_Eq_scanAt l D cI cZ cJ a _ _ _ hf) (cwV 1 hts (tb_wsV tc_Eq_scanAt tm_G_237 ti_Eq_scanAt te_Eq_scanAt tz_Eq) rfl rfl rfl (by decide +kernel) ⟨Nat.le_of_ble_eq_true rfl, Nat.le_of_ble_eq_true rfl⟩) (r_preV (q0 := 3) (ci := 3) hK hP rfl rfl) rfl rfl hl.1 rfl (lv_room (Nat.le_of_ble_eq_true rfl)) d_G_tellTap_17 ⟨Nat.zero_le _, Nat.zero_le _⟩) (fun r17 hf => ?_)
  refine lv_bipush (pc := 20) (v := 20) hx hb d_G_tellTap_20 (by decide) ?_
  refine lv_iadd (pc := 22) hx hb d_G_tellTap_22 ?_
  refine lv_icmp_ge (pc := 23) (tgt := 38) hx hb d_G_tellTap_23 (by decide) (fun hc => ?_) (fun hc => ?_)
  · replace hf := hf.1 hc
    exact jn38 r4 _ (lv_sub hl [1, 0] rfl) hf
  replace hf := hf.2 hc
  refine lv_aload_n (pc := 26) hx hb d_G_tellTap_26 rfl (lv_at hl 1 rfl) ?_
  refine gk_gt_G_queue (pc := 27) hx hb hK hts hinG hown hP hl26 d_G_tellTap_27 ?_
  refine vp_callSi (pc := 30) (W.runV (As := []) (rest := []) ⟨hx, hb, hml, hown, hts⟩ (c_Eq_length l D cI cZ cJ a _ _ hf) (cwV 0 hts (tb_wsV tc_Eq_length tm_G_167 ti_Eq_length te_Eq_length tz_Eq) rfl rfl rfl (by decide +kernel) ⟨Nat.le_of_ble_eq_true rfl, Nat.le_of_ble_eq_true rfl⟩) (r_preV (q0 := 3) (ci := 3) hK hP rfl rfl) rfl rfl hl.1 rfl (lv_room (Nat.le_of_ble_eq_true rfl)) d_G_tellTap_30 ⟨Nat.zero_le _, Nat.zero_le _⟩) (fun r30 hf => ?_)
  refine lv_bipush (pc := 33) (v := 8) hx hb d_G_tellTap_33 (by decide) ?_
  refine lv_icmp_le (pc := 35) (tgt := 42) hx hb d_G_tellTap_35 (by decide) (fun hc => ?_) (fun hc => ?_)
  · replace hf := hf.1 hc
    refine lv_iconst (pc := 42) (v := 0) hx hb d_G_tellTap_42 (by decide) ?_
    exact jn43 r4 (0 : Int32) _ (lv_sub hl [1, 0] rfl) hf
  replace hf := hf.2 hc
  exact jn38 r4 _ (lv_sub hl [1, 0] rfl) hf
def wp_G_actTap (S : GS) (p0 : Int32) (p1 : Int32) (p2 : Int32) (post : GS → Prop) : Prop := ((p2 = (2 : Int32) → (wp_Km_b S p1 p0 (fun r15 => (wp_La_hold S r15 p0 (fun S19 => (post S19)))))) ∧ (¬ p2 = (2 : Int32) → (wp_Km_a S p1 p0 (fun r31 => (wp_Re_goDown S r31 (fun S42 => (wp_Re_letGo S42 r31 (fun S51 => (post S51)))))))))
abbrev rm_G_actTap : Room := { frames := 2, cells := 0, slots := 0, locals := 50 }
set_option maxHeartbeats 4000000 in
set_option maxRecDepth 100000 in
theorem c_G_actTap (l : Launch) (D : va_G) (cI cZ cJ : ClassId) (a : Nat → Nat) (sz : Nat) (S : GS) (p0 : Int32) (p1 : Int32) (p2 : Int32) (post : GS → Prop) (hf : wp_G_actTap S p0 p1 p2 post) : Met l y_G_actTap ws_G_actTap rm_G_actTap (va_Pc [.ref (a 0), .int p0, .int p1, .int p2] (gPre D (tys cI cZ cJ) (gkW cI cZ cJ a S) sz)) (va_Qv post (gB D (tys cI cZ cJ) (gkW cI cZ cJ a) (va_A (gkW cI cZ cJ a S) sz)) (va_A (gkW cI cZ cJ a S) sz)) 0 0 (va_A (gkW cI cZ cJ a S) sz) := by
  refine gm_w (QF := fun A => va_Qv post (gB D (tys cI cZ cJ) (gkW cI cZ cJ a) A) A) (cc := b_G_actTap) (maxL := 5) (by decide) rfl (Nat.le_of_ble_eq_true rfl) ?_
  intro p e s m args below meth c A ls hx hb hr hts hown hmn hlk hml hK hA hw hl
  have hl : lv_has ls 5 [(0, .ref (a 0)), (1, .int p0), (2, .int p1), (3, .int p2)] := hl
  have hinG : ∀ w ∈ u_ws R_G T_G 9, w ∈ ws_G_actTap := fun w h => List.mem_cons_of_mem _ (tl_G w h)
  have hl33 := hts _ (List.mem_cons_of_mem _ tf_G_33)
  have hl47 := hts _ (List.mem_cons_of_mem _ tf_G_47)
  have hl61 := hts _ (List.mem_cons_of_mem _ tf_G_61)
  unfold wp_G_actTap at hf
  refine lv_iload_n (pc := 0) hx hb d_G_actTap_0 rfl (lv_at hl 3 rfl) ?_
  refine lv_iconst (pc := 1) (v := 2) hx hb d_G_actTap_1 (by decide) ?_
  refine lv_icmp_ne (pc := 2) (tgt := 25) hx hb d_G_actTap_2 (by decide) (fun hc => ?_) (fun hc => ?_)
  · replace hf := hf.2 hc
    refine lv_aload_n (pc := 25) hx hb d_G_actTap_25 rfl (lv_at hl 0 rfl) ?_
    refine gk_gt_G_keymap (pc := 26) hx hb hK hts hinG hown hw.1 hl33 d_G_actTap_26 ?_
    refine lv_iload_n (pc := 29) hx hb d_G_actTap_29 rfl (lv_at hl 2 rfl) ?_
    refine lv_iload_n (pc := 30) hx hb d_G_actTap_30 rfl (lv_at hl 1 rfl) ?_
    refine vp_callSi (pc := 31) (W.runV (As := [.int p1, .int p0]) (rest := []) ⟨hx, hb, hml, hown, hts⟩ (c_Km_a l D cI cZ cJ a _ _ _ _ hf) (cwV 2 hts (tb_wsV tc_Km_a tm_G_268 ti_Km_a te_Km_a tz_Km) rfl rfl rfl (by decide +kernel) ⟨Nat.le_of_ble_eq_true rfl, Nat.le_of_ble_eq_true rfl⟩) (r_preV (q0 := 4) (ci := 4) hK hw.1 rfl rfl) rfl rfl hl.1 rfl (lv_room (Nat.le_of_ble_eq_true rfl)) d_G_actTap_31 ⟨Nat.zero_le _, Nat.zero_le _⟩) (fun r31 hf => ?_)
    refine lv_istore (pc := 34) (lv' := [(4, .int r31), (0, .ref (a 0)), (1, .int p0), (2, .int p1), (3, .int p2)]) hx hb d_G_actTap_34 hl (by decide) rfl (fun ls hl => ?_)
    refine lv_aload_n (pc := 36) hx hb d_G_actTap_36 rfl (lv_at hl 1 rfl) ?_
    refine gk_gt_G_reports (pc := 37) hx hb hK hts hinG hown hw.1 hl61 d_G_actTap_37 ?_
    refine lv_iload (pc := 40) hx hb d_G_actTap_40 (lv_at hl 0 rfl) ?_
    refine gc_v (pc := 42) (Wf := gkW cI cZ cJ a) hw hA (va_runV (As := [.int r31]) (rest := []) ⟨hx, hb, hml, hown, hts⟩ (c_Re_goDown l D cI cZ cJ a _ _ _ _ hf) (cwV 1 hts (tb_wsV tc_Re_goDown tm_G_255 ti_Re_goDown te_Re_goDown tz_Re) rfl rfl rfl (by decide +kernel) ⟨Nat.le_of_ble_eq_true rfl, Nat.le_of_ble_eq_true rfl⟩) (g_preV (q0 := 8) (ci := 8) hK hw rfl rfl) rfl rfl hl.1 rfl (lv_room (Nat.le_of_ble_eq_true rfl)) d_G_actTap_42 ⟨Nat.zero_le _, Nat.zero_le _⟩) (fun S42 H locs hw hf => ?_)
    refine lv_aload_n (pc := 45) hx hb d_G_actTap_45 rfl (lv_at hl 1 rfl) ?_
    refine gk_gt_G_reports (pc := 46) hx hb hK hts hinG hown hw.1 hl61 d_G_actTap_46 ?_
    refine lv_iload (pc := 49) hx hb d_G_actTap_49 (lv_at hl 0 rfl) ?_
    refine gc_v (pc := 51) (Wf := gkW cI cZ cJ a) hw hA (va_runV (As := [.int r31]) (rest := []) ⟨hx, hb, hml, hown, hts⟩ (c_Re_letGo l D cI cZ cJ a _ _ _ _ hf) (cwV 1 hts (tb_wsV tc_Re_letGo tm_G_236 ti_Re_letGo te_Re_letGo tz_Re) rfl rfl rfl (by decide +kernel) ⟨Nat.le_of_ble_eq_true rfl, Nat.le_of_ble_eq_true rfl⟩) (g_preV (q0 := 8) (ci := 8) hK hw rfl rfl) rfl rfl hl.1 rfl (lv_room (Nat.le_of_ble_eq_true rfl)) d_G_actTap_51 ⟨Nat.zero_le _, Nat.zero_le _⟩) (fun S51 H locs hw hf => ?_)
    exact gr_v (pc := 54) hx hb hr hlk hK S51 hw hf d_G_actTap_54
  replace hf := hf.1 hc
  refine lv_aload_n (pc := 5) hx hb d_G_actTap_5 rfl (lv_at hl 0 rfl) ?_
  refine gk_gt_G_layers (pc := 6) hx hb hK hts hinG hown hw.1 hl47 d_G_actTap_6 ?_
  refine lv_aload_n (pc := 9) hx hb d_G_actTap_9 rfl (lv_at hl 0 rfl) ?_
  refine gk_gt_G_keymap (pc := 10) hx hb hK hts hinG hown hw.1 hl33 d_G_actTap_10 ?_
  refine lv_iload_n (pc := 13) hx hb d_G_actTap_13 rfl (lv_at hl 2 rfl) ?_
  refine lv_iload_n (pc := 14) hx hb d_G_actTap_14 rfl (lv_at hl 1 rfl) ?_
  refine vp_callSi (pc := 15) (W.runV (As := [.int p1, .int p0]) (rest := [.ref (a 6)]) ⟨hx, hb, hml, hown, hts⟩ (c_Km_b l D cI cZ cJ a _ _ _ _ hf) (cwV 2 hts (tb_wsV tc_Km_b tm_G_287 ti_Km_b te_Km_b tz_Km) rfl rfl rfl (by decide +kernel) ⟨Nat.le_of_ble_eq_true rfl, Nat.le_of_ble_eq_true rfl⟩) (r_preV (q0 := 4) (ci := 4) hK hw.1 rfl rfl) rfl rfl hl.1 rfl (lv_room (Nat.le_of_ble_eq_true rfl)) d_G_actTap_15 ⟨Nat.zero_le _, Nat.zero_le _⟩) (fun r15 hf => ?_)
  refine lv_iload_n (pc := 18) hx hb d_G_actTap_18 rfl (lv_at hl 1 rfl) ?_
  refine gc_v (pc := 19) (Wf := gkW cI cZ cJ a) hw hA (va_runV (As := [.int r15, .int p0]) (rest := []) ⟨hx, hb, hml, hown, hts⟩ (c_La_hold l D cI cZ cJ a _ _ _ _ _ hf) (cwV 2 hts (tb_wsV tc_La_hold tm_G_271 ti_La_hold te_La_hold tz_La) rfl rfl rfl (by decide +kernel) ⟨Nat.le_of_ble_eq_true rfl, Nat.le_of_ble_eq_true rfl⟩) (g_preV (q0 := 6) (ci := 6) hK hw rfl rfl) rfl rfl hl.1 rfl (lv_room (Nat.le_of_ble_eq_true rfl)) d_G_actTap_19 ⟨Nat.zero_le _, Nat.zero_le _⟩) (fun S19 H locs hw hf => ?_)
  refine lv_goto (pc := 22) (tgt := 54) hx hb d_G_actTap_22 (by decide) ?_
  exact gr_v (pc := 54) hx hb hr hlk hK S19 hw hf d_G_actTap_54
def L_G_playMacro_2 (post : GS → Prop) : Nat → Int32 → Int32 → GS → Prop
  | 0, _, _, _ => False
  | n2 + 1, x1, x2, S => (((4 : Int32) ≤ x2 → (post S)) ∧ (¬ (4 : Int32) ≤ x2 → (wp_Km_macroCode S x1 x2 (fun r13 => ((r13 = (0 : Int32) → (L_G_playMacro_2 post n2 x1 (x2 + (1 : Int32)) S)) ∧ (¬ r13 = (0 : Int32) → (wp_Re_goDown S r13 (fun S26 => (wp_Re_letGo S26 r13 (fun S34 => (L_G_playMacro_2 post n2 x1 (x2 + (1 : Int32)) S34)))))))))))
def wp_G_playMacro (S : GS) (p0 : Int32) (post : GS → Prop) : Prop := (∃ q2, L_G_playMacro_2 post q2 p0 (0 : Int32) S)
abbrev rm_G_playMacro : Room := { frames := 2, cells := 0, slots := 0, locals := 50 }
set_option maxHeartbeats 4000000 in
set_option maxRecDepth 100000 in
theorem c_G_playMacro (l : Launch) (D : va_G) (cI cZ cJ : ClassId) (a : Nat → Nat) (sz : Nat) (S : GS) (p0 : Int32) (post : GS → Prop) (hf : wp_G_playMacro S p0 post) : Met l y_G_playMacro ws_G_playMacro rm_G_playMacro (va_Pc [.ref (a 0), .int p0] (gPre D (tys cI cZ cJ) (gkW cI cZ cJ a S) sz)) (va_Qv post (gB D (tys cI cZ cJ) (gkW cI cZ cJ a) (va_A (gkW cI cZ cJ a S) sz)) (va_A (gkW cI cZ cJ a S) sz)) 0 0 (va_A (gkW cI cZ cJ a S) sz) := by
  refine gm_w (QF := fun A => va_Qv post (gB D (tys cI cZ cJ) (gkW cI cZ cJ a) A) A) (cc := b_G_playMacro) (maxL := 4) (by decide) rfl (Nat.le_of_ble_eq_true rfl) ?_
  intro p e s m args below meth c A ls hx hb hr hts hown hmn hlk hml hK hA hw hl
  have hl : lv_has ls 4 [(0, .ref (a 0)), (1, .int p0)] := hl
  have hinG : ∀ w ∈ u_ws R_G T_G 9, w ∈ ws_G_playMacro := fun w h => List.mem_cons_of_mem _ (tl_G w h)
  have hl33 := hts _ (List.mem_cons_of_mem _ tf_G_33)
  have hl61 := hts _ (List.mem_cons_of_mem _ tf_G_61)
  unfold wp_G_playMacro at hf
  refine lv_iconst (pc := 0) (v := 0) hx hb d_G_playMacro_0 (by decide) ?_
  refine lv_istore_n (pc := 1) (lv' := [(2, .int (0 : Int32)), (0, .ref (a 0)), (1, .int p0)]) hx hb d_G_playMacro_1 rfl hl (by decide) rfl (fun ls hl => ?_)
  obtain ⟨q2, hf⟩ := hf
  have lp2 : ∀ (n2 : Nat) (x1 : Int32) (x2 : Int32) (S : GS) (H : Heap) (locs : List Loc) (ls : Array Slot), lv_has ls 4 [(0, .ref (a 0)), (1, .int x1), (2, .int x2)] → wf D A s.heap (gkW cI cZ cJ a S) H locs → L_G_playMacro_2 post n2 x1 x2 S → W p l e rm_G_playMacro s m args below meth c H locs 0 0 (MQ below (va_Qv post (gB D (tys cI cZ cJ) (gkW cI cZ cJ a) A) A) args s 0 0 A) (F0 m 2 ls []) := by
    intro n2
    induction n2 with
    | zero => intro x1 x2 S H locs ls hl hw hf; exact False.elim hf
    | succ n2 ih2 =>
      intro x1 x2 S H locs ls hl hw hf
      unfold L_G_playMacro_2 at hf
      refine lv_iload_n (pc := 2) hx hb d_G_playMacro_2 rfl (lv_at hl 2 rfl) ?_
      refine lv_iconst (pc := 3) (v := 4) hx hb d_G_playMacro_3 (by decide) ?_
      refine lv_icmp_ge (pc := 4) (tgt := 43) hx hb d_G_playMacro_4 (by decide) (fun hc => ?_) (fun hc => ?_)
      · replace hf := hf.1 hc
        exact gr_v (pc := 43) hx hb hr hlk hK S hw hf d_G_playMacro_43
      replace hf := hf.2 hc
      refine lv_aload_n (pc := 7) hx hb d_G_playMacro_7 rfl (lv_at hl 0 rfl) ?_
      refine gk_gt_G_keymap (pc := 8) hx hb hK hts hinG hown hw.1 hl33 d_G_playMacro_8 ?_
      refine lv_iload_n (pc := 11) hx hb d_G_playMacro_11 rfl (lv_at hl 1 rfl) ?_
      refine lv_iload_n (pc := 12) hx hb d_G_playMacro_12 rfl (lv_at hl 2 rfl) ?_
      refine vp_callSi (pc := 13) (W.runV (As := [.int x1, .int x2]) (rest := []) ⟨hx, hb, hml, hown, hts⟩ (c_Km_macroCode l D cI cZ cJ a _ _ _ _ hf) (cwV 2 hts (tb_wsV tc_Km_macroCode tm_G_290 ti_Km_macroCode te_Km_macroCode tz_Km) rfl rfl rfl (by decide +kernel) ⟨Nat.le_of_ble_eq_true rfl, Nat.le_of_ble_eq_true rfl⟩) (r_preV (q0 := 4) (ci := 4) hK hw.1 rfl rfl) rfl rfl hl.1 rfl (lv_room (Nat.le_of_ble_eq_true rfl)) d_G_playMacro_13 ⟨Nat.zero_le _, Nat.zero_le _⟩) (fun r13 hf => ?_)
      refine lv_istore_n (pc := 16) (lv' := [(3, .int r13), (0, .ref (a 0)), (1, .int x1), (2, .int x2)]) hx hb d_G_playMacro_16 rfl hl (by decide) rfl (fun ls hl => ?_)
      refine lv_iload_n (pc := 17) hx hb d_G_playMacro_17 rfl (lv_at hl 0 rfl) ?_
      refine lv_if_eq (pc := 18) (tgt := 37) hx hb d_G_playMacro_18 (by decide) (fun hc => ?_) (fun hc => ?_)
      · replace hf := hf.1 hc
        refine lv_iinc (pc := 37) (k := 3) (v := (x2 + (1 : Int32))) (lv' := [(2, .int (x2 + (1 : Int32))), (3, .int r13), (0, .ref (a 0)), (1, .int x1)]) hx hb d_G_playMacro_37 hl rfl rfl (by decide) rfl (fun ls hl => ?_)
        refine lv_goto (pc := 40) (tgt := 2) hx hb d_G_playMacro_40 (by decide) ?_
        exact ih2 x1 (x2 + (1 : Int32)) S _ _ _ (lv_sub hl [2, 3, 0] rfl) hw hf
      replace hf := hf.2 hc
      refine lv_aload_n (pc := 21) hx hb d_G_playMacro_21 rfl (lv_at hl 1 rfl) ?_
      refine gk_gt_G_reports (pc := 22) hx hb hK hts hinG hown hw.1 hl61 d_G_playMacro_22 ?_
      refine lv_iload_n (pc := 25) hx hb d_G_playMacro_25 rfl (lv_at hl 0 rfl) ?_
      refine gc_v (pc := 26) (Wf := gkW cI cZ cJ a) hw hA (va_runV (As := [.int r13]) (rest := []) ⟨hx, hb, hml, hown, hts⟩ (c_Re_goDown l D cI cZ cJ a _ _ _ _ hf) (cwV 1 hts (tb_wsV tc_Re_goDown tm_G_255 ti_Re_goDown te_Re_goDown tz_Re) rfl rfl rfl (by decide +kernel) ⟨Nat.le_of_ble_eq_true rfl, Nat.le_of_ble_eq_true rfl⟩) (g_preV (q0 := 8) (ci := 8) hK hw rfl rfl) rfl rfl hl.1 rfl (lv_room (Nat.le_of_ble_eq_true rfl)) d_G_playMacro_26 ⟨Nat.zero_le _, Nat.zero_le _⟩) (fun S26 H locs hw hf => ?_)
      refine lv_aload_n (pc := 29) hx hb d_G_playMacro_29 rfl (lv_at hl 1 rfl) ?_
      refine gk_gt_G_reports (pc := 30) hx hb hK hts hinG hown hw.1 hl61 d_G_playMacro_30 ?_
      refine lv_iload_n (pc := 33) hx hb d_G_playMacro_33 rfl (lv_at hl 0 rfl) ?_
      refine gc_v (pc := 34) (Wf := gkW cI cZ cJ a) hw hA (va_runV (As := [.int r13]) (rest := []) ⟨hx, hb, hml, hown, hts⟩ (c_Re_letGo l D cI cZ cJ a _ _ _ _ hf) (cwV 1 hts (tb_wsV tc_Re_letGo tm_G_236 ti_Re_letGo te_Re_letGo tz_Re) rfl rfl rfl (by decide +kernel) ⟨Nat.le_of_ble_eq_true rfl, Nat.le_of_ble_eq_true rfl⟩) (g_preV (q0 := 8) (ci := 8) hK hw rfl rfl) rfl rfl hl.1 rfl (lv_room (Nat.le_of_ble_eq_true rfl)) d_G_playMacro_34 ⟨Nat.zero_le _, Nat.zero_le _⟩) (fun S34 H locs hw hf => ?_)
      refine lv_iinc (pc := 37) (k := 3) (v := (x2 + (1 : Int32))) (lv' := [(2, .int (x2 + (1 : Int32))), (3, .int r13), (0, .ref (a 0)), (1, .int x1)]) hx hb d_G_playMacro_37 hl rfl rfl (by decide) rfl (fun ls hl => ?_)
      refine lv_goto (pc := 40) (tgt := 2) hx hb d_G_playMacro_40 (by decide) ?_
      exact ih2 x1 (x2 + (1 : Int32)) S34 _ _ _ (lv_sub hl [2, 3, 0] rfl) hw hf
  exact lp2 q2 p0 (0 : Int32) S _ _ _ (lv_sub hl [1, 2, 0] rfl) hw hf
def J_G_takeByAction_197 (post : Int32 → GS → Prop) (x1 : Int32) (x2 : Int32) (x3 : Int32) (x4 : Int32) (x5 : Int32) (S : GS) : Prop := ((x3 = (4 : Int32) → (post (1 : Int32) S)) ∧ (¬ x3 = (4 : Int32) → (wp_La_disarm S (fun S206 => (post (1 : Int32) S206)))))
def J_G_takeByAction_59 (post : Int32 → GS → Prop) (x1 : Int32) (x2 : Int32) (x3 : Int32) (x4 : Int32) (S : GS) : Prop := (wp_Eq_removeFirst S (1 : Int32) (fun S64 => (wp_Km_a S64 x2 x1 (fun r73 => ((x3 = (1 : Int32) → (wp_Ho_begin S64 ((1 : Int32) <<< (x1 &&& 31)) r73 (fun S125 => (wp_Re_goDown S125 r73 (fun S134 => (J_G_takeByAction_197 post x1 x2 x3 x4 r73 S134)))))) ∧ (¬ x3 = (1 : Int32) → ((x3 = (2 : Int32) → (wp_La_hold S64 r73 x1 (fun S147 => (J_G_takeByAction_197 post x1 x2 x3 x4 r73 S147)))) ∧ (¬ x3 = (2 : Int32) → ((x3 = (3 : Int32) → (wp_La_turnLock S64 r73 (fun S159 => (J_G_takeByAction_197 post x1 x2 x3 x4 r73 S159)))) ∧ (¬ x3 = (3 : Int32) → ((x3 = (4 : Int32) → (wp_La_arm S64 r73 (fun S171 => (J_G_takeByAction_197 post x1 x2 x3 x4 r73 S171)))) ∧ (¬ x3 = (4 : Int32) → ((x3 = (5 : Int32) → (wp_G_actTap S64 x1 x2 x4 (fun S182 => (J_G_takeByAction_197 post x1 x2 x3 x4 r73 S182)))) ∧ (¬ x3 = (5 : Int32) → ((x3 = (6 : Int32) → (wp_G_playMacro S64 r73 (fun S191 => (J_G_takeByAction_197 post x1 x2 x3 x4 r73 S191)))) ∧ (¬ x3 = (6 : Int32) → (J_G_takeByAction_197 post x1 x2 x3 x4 r73 S64)))))))))))))))))
def J_G_takeByAction_45 (post : Int32 → GS → Prop) (x1 : Int32) (x2 : Int32) (x3 : Int32) (y0 : Int32) (S : GS) : Prop := ((x3 = (5 : Int32) → ((y0 = (0 : Int32) → (post (0 : Int32) S)) ∧ (¬ y0 = (0 : Int32) → (J_G_takeByAction_59 post x1 x2 x3 y0 S)))) ∧ (¬ x3 = (5 : Int32) → (J_G_takeByAction_59 post x1 x2 x3 y0 S)))
def wp_G_takeByAction (S : GS) (post : Int32 → GS → Prop) : Prop := (wp_Eq_keyAt S (0 : Int32) (fun r5 => (wp_Km_topLayer S r5 (fun r18 => (wp_Km_kind S r18 r5 (fun r28 => ((r28 = (5 : Int32) → (wp_G_tellTap S (fun r38 => (J_G_takeByAction_45 post r5 r18 r28 r38 S)))) ∧ (¬ r28 = (5 : Int32) → (J_G_takeByAction_45 post r5 r18 r28 (0 : Int32) S)))))))))
abbrev rm_G_takeByAction : Room := { frames := 3, cells := 0, slots := 0, locals := 74 }
set_option maxHeartbeats 4000000 in
set_option maxRecDepth 100000 in
theorem c_G_takeByAction (l : Launch) (D : va_G) (cI cZ cJ : ClassId) (a : Nat → Nat) (sz : Nat) (S : GS) (post : Int32 → GS → Prop) (hf : wp_G_takeByAction S post) : Met l y_G_takeByAction ws_G_takeByAction rm_G_takeByAction (va_Pc [.ref (a 0)] (gPre D (tys cI cZ cJ) (gkW cI cZ cJ a S) sz)) (va_Qi post (gB D (tys cI cZ cJ) (gkW cI cZ cJ a) (va_A (gkW cI cZ cJ a S) sz)) (va_A (gkW cI cZ cJ a S) sz)) 0 0 (va_A (gkW cI cZ cJ a S) sz) := by
  refine gm_w (QF := fun A => va_Qi post (gB D (tys cI cZ cJ) (gkW cI cZ cJ a) A) A) (cc := b_G_takeByAction) (maxL := 6) (by decide) rfl (Nat.le_of_ble_eq_true rfl) ?_
  intro p e s m args below meth c A ls hx hb hr hts hown hmn hlk hml hK hA hw hl
  have hl : lv_has ls 6 [(0, .ref (a 0))] := hl
  have hinG : ∀ w ∈ u_ws R_G T_G 9, w ∈ ws_G_takeByAction := fun w h => List.mem_cons_of_mem _ (tl_G w h)
  have hl26 := hts _ (List.mem_cons_of_mem _ tf_G_26)
  have hl33 := hts _ (List.mem_cons_of_mem _ tf_G_33)
  have hl47 := hts _ (List.mem_cons_of_mem _ tf_G_47)
  have hl54 := hts _ (List.mem_cons_of_mem _ tf_G_54)
  have hl61 := hts _ (List.mem_cons_of_mem _ tf_G_61)
  have jn197 : ∀ (x1 : Int32) (x2 : Int32) (x3 : Int32) (x4 : Int32) (x5 : Int32) (S : GS) (H : Heap) (locs : List Loc) (ls : Array Slot), lv_has ls 6 [(0, .ref (a 0)), (1, .int x1), (2, .int x2), (3, .int x3), (4, .int x4), (5, .int x5)] → wf D A s.heap (gkW cI cZ cJ a S) H locs → J_G_takeByAction_197 post x1 x2 x3 x4 x5 S → W p l e rm_G_takeByAction s m args below meth c H locs 0 0 (MQ below (va_Qi post (gB D (tys cI cZ cJ) (gkW cI cZ cJ a) A) A) args s 0 0 A) (F0 m 197 ls []) := by
    intro x1 x2 x3 x4 x5 S H locs ls hl hw hf
    unfold J_G_takeByAction_197 at hf
    refine lv_iload_n (pc := 197) hx hb d_G_takeByAction_197 rfl (lv_at hl 3 rfl) ?_
    refine lv_iconst (pc := 198) (v := 4) hx hb d_G_takeByAction_198 (by decide) ?_
    refine lv_icmp_eq (pc := 199) (tgt := 209) hx hb d_G_takeByAction_199 (by decide) (fun hc => ?_) (fun hc => ?_)
    · replace hf := hf.1 hc
      refine lv_iconst (pc := 209) (v := 1) hx hb d_G_takeByAction_209 (by decide) ?_
      exact gr_z (pc := 210) hx hb hr hlk hK S hw (by decide) hf d_G_takeByAction_210
    replace hf := hf.2 hc
    refine lv_aload_n (pc := 202) hx hb d_G_takeByAction_202 rfl (lv_at hl 0 rfl) ?_
    refine gk_gt_G_layers (pc := 203) hx hb hK hts hinG hown hw.1 hl47 d_G_takeByAction_203 ?_
    refine gc_v (pc := 206) (Wf := gkW cI cZ cJ a) hw hA (va_runV (As := []) (rest := []) ⟨hx, hb, hml, hown, hts⟩ (c_La_disarm l D cI cZ cJ a _ _ _ hf) (cwV 0 hts (tb_wsV tc_La_disarm tm_G_258 ti_La_disarm te_La_disarm tz_La) rfl rfl rfl (by decide +kernel) ⟨Nat.le_of_ble_eq_true rfl, Nat.le_of_ble_eq_true rfl⟩) (g_preV (q0 := 6) (ci := 6) hK hw rfl rfl) rfl rfl hl.1 rfl (lv_room (Nat.le_of_ble_eq_true rfl)) d_G_takeByAction_206 ⟨Nat.zero_le _, Nat.zero_le _⟩) (fun S206 H locs hw hf => ?_)
    refine lv_iconst (pc := 209) (v := 1) hx hb d_G_takeByAction_209 (by decide) ?_
    exact gr_z (pc := 210) hx hb hr hlk hK S206 hw (by decide) hf d_G_takeByAction_210
  have jn59 : ∀ (x1 : Int32) (x2 : Int32) (x3 : Int32) (x4 : Int32) (S : GS) (H : Heap) (locs : List Loc) (ls : Array Slot), lv_has ls 6 [(0, .ref (a 0)), (1, .int x1), (2, .int x2), (3, .int x3), (4, .int x4)] → wf D A s.heap (gkW cI cZ cJ a S) H locs → J_G_takeByAction_59 post x1 x2 x3 x4 S → W p l e rm_G_takeByAction s m args below meth c H locs 0 0 (MQ below (va_Qi post (gB D (tys cI cZ cJ) (gkW cI cZ cJ a) A) A) args s 0 0 A) (F0 m 59 ls []) := by
    intro x1 x2 x3 x4 S H locs ls hl hw hf
    unfold J_G_takeByAction_59 at hf
    refine lv_aload_n (pc := 59) hx hb d_G_takeByAction_59 rfl (lv_at hl 0 rfl) ?_
    refine gk_gt_G_queue (pc := 60) hx hb hK hts hinG hown hw.1 hl26 d_G_takeByAction_60 ?_
    refine lv_iconst (pc := 63) (v := 1) hx hb d_G_takeByAction_63 (by decide) ?_
    refine gc_v (pc := 64) (Wf := gkW cI cZ cJ a) hw hA (va_runV (As := [.int (1 : Int32)]) (rest := []) ⟨hx, hb, hml, hown, hts⟩ (c_Eq_removeFirst l D cI cZ cJ a _ _ _ _ hf) (cwV 1 hts (tb_wsV tc_Eq_removeFirst tm_G_227 ti_Eq_removeFirst te_Eq_removeFirst tz_Eq) rfl rfl rfl (by decide +kernel) ⟨Nat.le_of_ble_eq_true rfl, Nat.le_of_ble_eq_true rfl⟩) (g_preV (q0 := 3) (ci := 3) hK hw rfl rfl) rfl rfl hl.1 rfl (lv_room (Nat.le_of_ble_eq_true rfl)) d_G_takeByAction_64 ⟨Nat.zero_le _, Nat.zero_le _⟩) (fun S64 H locs hw hf => ?_)
    refine lv_aload_n (pc := 67) hx hb d_G_takeByAction_67 rfl (lv_at hl 0 rfl) ?_
    refine gk_gt_G_keymap (pc := 68) hx hb hK hts hinG hown hw.1 hl33 d_G_takeByAction_68 ?_
    refine lv_iload_n (pc := 71) hx hb d_G_takeByAction_71 rfl (lv_at hl 2 rfl) ?_
    refine lv_iload_n (pc := 72) hx hb d_G_takeByAction_72 rfl (lv_at hl 1 rfl) ?_
    refine vp_callSi (pc := 73) (W.runV (As := [.int x2, .int x1]) (rest := []) ⟨hx, hb, hml, hown, hts⟩ (c_Km_a l D cI cZ cJ a _ _ _ _ hf) (cwV 2 hts (tb_wsV tc_Km_a tm_G_268 ti_Km_a te_Km_a tz_Km) rfl rfl rfl (by decide +kernel) ⟨Nat.le_of_ble_eq_true rfl, Nat.le_of_ble_eq_true rfl⟩) (r_preV (q0 := 4) (ci := 4) hK hw.1 rfl rfl) rfl rfl hl.1 rfl (lv_room (Nat.le_of_ble_eq_true rfl)) d_G_takeByAction_73 ⟨Nat.zero_le _, Nat.zero_le _⟩) (fun r73 hf => ?_)
    refine lv_istore (pc := 76) (lv' := [(5, .int r73), (0, .ref (a 0)), (1, .int x1), (2, .int x2), (3, .int x3), (4, .int x4)]) hx hb d_G_takeByAction_76 hl (by decide) rfl (fun ls hl => ?_)
    refine lv_iload_n (pc := 78) hx hb d_G_takeByAction_78 rfl (lv_at hl 4 rfl) ?_
    by_cases hs0 : x3 = (1 : Int32)
    · replace hf := hf.1 hs0
      refine lv_tableIn (pc := 79) (off := 37) (tgt := 116) hx hb d_G_takeByAction_79 (by rw [hs0]; decide) (by rw [hs0]; decide) (by rw [hs0]; decide) (by decide) ?_
      refine lv_aload_n (pc := 116) hx hb d_G_takeByAction_116 rfl (lv_at hl 1 rfl) ?_
      refine gk_gt_G_holds (pc := 117) hx hb hK hts hinG hown hw.1 hl54 d_G_takeByAction_117 ?_
      refine lv_iconst (pc := 120) (v := 1) hx hb d_G_takeByAction_120 (by decide) ?_
      refine lv_iload_n (pc := 121) hx hb d_G_takeByAction_121 rfl (lv_at hl 2 rfl) ?_
      refine lv_ishl (pc := 122) hx hb d_G_takeByAction_122 ?_
      refine lv_iload (pc := 123) hx hb d_G_takeByAction_123 (lv_at hl 0 rfl) ?_
      refine gc_v (pc := 125) (Wf := gkW cI cZ cJ a) hw hA (va_runV (As := [.int ((1 : Int32) <<< (x1 &&& 31)), .int r73]) (rest := []) ⟨hx, hb, hml, hown, hts⟩ (c_Ho_begin l D cI cZ cJ a _ _ _ _ _ hf) (cwV 2 hts (tb_wsV tc_Ho_begin tm_G_252 ti_Ho_begin te_Ho_begin tz_Ho) rfl rfl rfl (by decide +kernel) ⟨Nat.le_of_ble_eq_true rfl, Nat.le_of_ble_eq_true rfl⟩) (g_preV (q0 := 7) (ci := 7) hK hw rfl rfl) rfl rfl hl.1 rfl (lv_room (Nat.le_of_ble_eq_true rfl)) d_G_takeByAction_125 ⟨Nat.zero_le _, Nat.zero_le _⟩) (fun S125 H locs hw hf => ?_)
      refine lv_aload_n (pc := 128) hx hb d_G_takeByAction_128 rfl (lv_at hl 1 rfl) ?_
      refine gk_gt_G_reports (pc := 129) hx hb hK hts hinG hown hw.1 hl61 d_G_takeByAction_129 ?_
      refine lv_iload (pc := 132) hx hb d_G_takeByAction_132 (lv_at hl 0 rfl) ?_
      refine gc_v (pc := 134) (Wf := gkW cI cZ cJ a) hw hA (va_runV (As := [.int r73]) (rest := []) ⟨hx, hb, hml, hown, hts⟩ (c_Re_goDown l D cI cZ cJ a _ _ _ _ hf) (cwV 1 hts (tb_wsV tc_Re_goDown tm_G_255 ti_Re_goDown te_Re_goDown tz_Re) rfl rfl rfl (by decide +kernel) ⟨Nat.le_of_ble_eq_true rfl, Nat.le_of_ble_eq_true rfl⟩) (g_preV (q0 := 8) (ci := 8) hK hw rfl rfl) rfl rfl hl.1 rfl (lv_room (Nat.le_of_ble_eq_true rfl)) d_G_takeByAction_134 ⟨Nat.zero_le _, Nat.zero_le _⟩) (fun S134 H locs hw hf => ?_)
      refine lv_goto (pc := 137) (tgt := 197) hx hb d_G_takeByAction_137 (by decide) ?_
      exact jn197 x1 x2 x3 x4 r73 S134 _ _ _ (lv_sub hl [1, 2, 3, 4, 5, 0] rfl) hw hf
    replace hf := hf.2 hs0
    by_cases hs1 : x3 = (2 : Int32)
    · replace hf := hf.1 hs1
      refine lv_tableIn (pc := 79) (off := 61) (tgt := 140) hx hb d_G_takeByAction_79 (by rw [hs1]; decide) (by rw [hs1]; decide) (by rw [hs1]; decide) (by decide) ?_
      refine lv_aload_n (pc := 140) hx hb d_G_takeByAction_140 rfl (lv_at hl 1 rfl) ?_
      refine gk_gt_G_layers (pc := 141) hx hb hK hts hinG hown hw.1 hl47 d_G_takeByAction_141 ?_
      refine lv_iload (pc := 144) hx hb d_G_takeByAction_144 (lv_at hl 0 rfl) ?_
      refine lv_iload_n (pc := 146) hx hb d_G_takeByAction_146 rfl (lv_at hl 2 rfl) ?_
      refine gc_v (pc := 147) (Wf := gkW cI cZ cJ a) hw hA (va_runV (As := [.int r73, .int x1]) (rest := []) ⟨hx, hb, hml, hown, hts⟩ (c_La_hold l D cI cZ cJ a _ _ _ _ _ hf) (cwV 2 hts (tb_wsV tc_La_hold tm_G_271 ti_La_hold te_La_hold tz_La) rfl rfl rfl (by decide +kernel) ⟨Nat.le_of_ble_eq_true rfl, Nat.le_of_ble_eq_true rfl⟩) (g_preV (q0 := 6) (ci := 6) hK hw rfl rfl) rfl rfl hl.1 rfl (lv_room (Nat.le_of_ble_eq_true rfl)) d_G_takeByAction_147 ⟨Nat.zero_le _, Nat.zero_le _⟩) (fun S147 H locs hw hf => ?_)
      refine lv_goto (pc := 150) (tgt := 197) hx hb d_G_takeByAction_150 (by decide) ?_
      exact jn197 x1 x2 x3 x4 r73 S147 _ _ _ (lv_sub hl [1, 2, 3, 4, 5, 0] rfl) hw hf
    replace hf := hf.2 hs1
    by_cases hs2 : x3 = (3 : Int32)
    · replace hf := hf.1 hs2
      refine lv_tableIn (pc := 79) (off := 74) (tgt := 153) hx hb d_G_takeByAction_79 (by rw [hs2]; decide) (by rw [hs2]; decide) (by rw [hs2]; decide) (by decide) ?_
      refine lv_aload_n (pc := 153) hx hb d_G_takeByAction_153 rfl (lv_at hl 1 rfl) ?_
      refine gk_gt_G_layers (pc := 154) hx hb hK hts hinG hown hw.1 hl47 d_G_takeByAction_154 ?_
      refine lv_iload (pc := 157) hx hb d_G_takeByAction_157 (lv_at hl 0 rfl) ?_
      refine gc_v (pc := 159) (Wf := gkW cI cZ cJ a) hw hA (va_runV (As := [.int r73]) (rest := []) ⟨hx, hb, hml, hown, hts⟩ (c_La_turnLock l D cI cZ cJ a _ _ _ _ hf) (cwV 1 hts (tb_wsV tc_La_turnLock tm_G_274 ti_La_turnLock te_La_turnLock tz_La) rfl rfl rfl (by decide +kernel) ⟨Nat.le_of_ble_eq_true rfl, Nat.le_of_ble_eq_true rfl⟩) (g_preV (q0 := 6) (ci := 6) hK hw rfl rfl) rfl rfl hl.1 rfl (lv_room (Nat.le_of_ble_eq_true rfl)) d_G_takeByAction_159 ⟨Nat.zero_le _, Nat.zero_le _⟩) (fun S159 H locs hw hf => ?_)
      refine lv_goto (pc := 162) (tgt := 197) hx hb d_G_takeByAction_162 (by decide) ?_
      exact jn197 x1 x2 x3 x4 r73 S159 _ _ _ (lv_sub hl [1, 2, 3, 4, 5, 0] rfl) hw hf
    replace hf := hf.2 hs2
    by_cases hs3 : x3 = (4 : Int32)
    · replace hf := hf.1 hs3
      refine lv_tableIn (pc := 79) (off := 86) (tgt := 165) hx hb d_G_takeByAction_79 (by rw [hs3]; decide) (by rw [hs3]; decide) (by rw [hs3]; decide) (by decide) ?_
      refine lv_aload_n (pc := 165) hx hb d_G_takeByAction_165 rfl (lv_at hl 1 rfl) ?_
      refine gk_gt_G_layers (pc := 166) hx hb hK hts hinG hown hw.1 hl47 d_G_takeByAction_166 ?_
      refine lv_iload (pc := 169) hx hb d_G_takeByAction_169 (lv_at hl 0 rfl) ?_
      refine gc_v (pc := 171) (Wf := gkW cI cZ cJ a) hw hA (va_runV (As := [.int r73]) (rest := []) ⟨hx, hb, hml, hown, hts⟩ (c_La_arm l D cI cZ cJ a _ _ _ _ hf) (cwV 1 hts (tb_wsV tc_La_arm tm_G_277 ti_La_arm te_La_arm tz_La) rfl rfl rfl (by decide +kernel) ⟨Nat.le_of_ble_eq_true rfl, Nat.le_of_ble_eq_true rfl⟩) (g_preV (q0 := 6) (ci := 6) hK hw rfl rfl) rfl rfl hl.1 rfl (lv_room (Nat.le_of_ble_eq_true rfl)) d_G_takeByAction_171 ⟨Nat.zero_le _, Nat.zero_le _⟩) (fun S171 H locs hw hf => ?_)
      refine lv_goto (pc := 174) (tgt := 197) hx hb d_G_takeByAction_174 (by decide) ?_
      exact jn197 x1 x2 x3 x4 r73 S171 _ _ _ (lv_sub hl [1, 2, 3, 4, 5, 0] rfl) hw hf
    replace hf := hf.2 hs3
    by_cases hs4 : x3 = (5 : Int32)
    · replace hf := hf.1 hs4
      refine lv_tableIn (pc := 79) (off := 98) (tgt := 177) hx hb d_G_takeByAction_79 (by rw [hs4]; decide) (by rw [hs4]; decide) (by rw [hs4]; decide) (by decide) ?_
      refine lv_aload_n (pc := 177) hx hb d_G_takeByAction_177 rfl (lv_at hl 1 rfl) ?_
      refine lv_iload_n (pc := 178) hx hb d_G_takeByAction_178 rfl (lv_at hl 2 rfl) ?_
      refine lv_iload_n (pc := 179) hx hb d_G_takeByAction_179 rfl (lv_at hl 3 rfl) ?_
      refine lv_iload (pc := 180) hx hb d_G_takeByAction_180 (lv_at hl 5 rfl) ?_
      refine gc_v (pc := 182) (Wf := gkW cI cZ cJ a) hw hA (va_runV (As := [.int x1, .int x2, .int x4]) (rest := []) ⟨hx, hb, hml, hown, hts⟩ (c_G_actTap l D cI cZ cJ a _ _ _ _ _ _ hf) (cwV 3 hts (tb_wsV tc_G_actTap tm_G_280 ti_G_actTap te_G_actTap tz_G) rfl rfl rfl (by decide +kernel) ⟨Nat.le_of_ble_eq_true rfl, Nat.le_of_ble_eq_true rfl⟩) (g_preV (q0 := 0) (ci := 0) hK hw rfl rfl) rfl rfl hl.1 rfl (lv_room (Nat.le_of_ble_eq_true rfl)) d_G_takeByAction_182 ⟨Nat.zero_le _, Nat.zero_le _⟩) (fun S182 H locs hw hf => ?_)
      refine lv_goto (pc := 185) (tgt := 197) hx hb d_G_takeByAction_185 (by decide) ?_
      exact jn197 x1 x2 x3 x4 r73 S182 _ _ _ (lv_sub hl [1, 2, 3, 4, 5, 0] rfl) hw hf
    replace hf := hf.2 hs4
    by_cases hs5 : x3 = (6 : Int32)
    · replace hf := hf.1 hs5
      refine lv_tableIn (pc := 79) (off := 109) (tgt := 188) hx hb d_G_takeByAction_79 (by rw [hs5]; decide) (by rw [hs5]; decide) (by rw [hs5]; decide) (by decide) ?_
      refine lv_aload_n (pc := 188) hx hb d_G_takeByAction_188 rfl (lv_at hl 1 rfl) ?_
      refine lv_iload (pc := 189) hx hb d_G_takeByAction_189 (lv_at hl 0 rfl) ?_
      refine gc_v (pc := 191) (Wf := gkW cI cZ cJ a) hw hA (va_runV (As := [.int r73]) (rest := []) ⟨hx, hb, hml, hown, hts⟩ (c_G_playMacro l D cI cZ cJ a _ _ _ _ hf) (cwV 1 hts (tb_wsV tc_G_playMacro tm_G_283 ti_G_playMacro te_G_playMacro tz_G) rfl rfl rfl (by decide +kernel) ⟨Nat.le_of_ble_eq_true rfl, Nat.le_of_ble_eq_true rfl⟩) (g_preV (q0 := 0) (ci := 0) hK hw rfl rfl) rfl rfl hl.1 rfl (lv_room (Nat.le_of_ble_eq_true rfl)) d_G_takeByAction_191 ⟨Nat.zero_le _, Nat.zero_le _⟩) (fun S191 H locs hw hf => ?_)
      refine lv_goto (pc := 194) (tgt := 197) hx hb d_G_takeByAction_194 (by decide) ?_
      exact jn197 x1 x2 x3 x4 r73 S191 _ _ _ (lv_sub hl [1, 2, 3, 4, 5, 0] rfl) hw hf
    replace hf := hf.2 hs5
    have ehs0 := lv_neT hs0 (a := 1) (by decide)
    have ehs1 := lv_neT hs1 (a := 2) (by decide)
    have ehs2 := lv_neT hs2 (a := 3) (by decide)
    have ehs3 := lv_neT hs3 (a := 4) (by decide)
    have ehs4 := lv_neT hs4 (a := 5) (by decide)
    have ehs5 := lv_neT hs5 (a := 6) (by decide)
    refine lv_tableOut (pc := 79) (tgt := 197) hx hb d_G_takeByAction_79 (by omega) (by decide) ?_
    exact jn197 x1 x2 x3 x4 r73 S64 _ _ _ (lv_sub hl [1, 2, 3, 4, 5, 0] rfl) hw hf
  have jn45 : ∀ (x1 : Int32) (x2 : Int32) (x3 : Int32) (y0 : Int32) (S : GS) (H : Heap) (locs : List Loc) (ls : Array Slot), lv_has ls 6 [(0, .ref (a 0)), (1, .int x1), (2, .int x2), (3, .int x3)] → wf D A s.heap (gkW cI cZ cJ a S) H locs → J_G_takeByAction_45 post x1 x2 x3 y0 S → W p l e rm_G_takeByAction s m args below meth c H locs 0 0 (MQ below (va_Qi post (gB D (tys cI cZ cJ) (gkW cI cZ cJ a) A) A) args s 0 0 A) (F0 m 45 ls [.int y0]) := by
    intro x1 x2 x3 y0 S H locs ls hl hw hf
    unfold J_G_takeByAction_45 at hf
    refine lv_istore (pc := 45) (lv' := [(4, .int y0), (0, .ref (a 0)), (1, .int x1), (2, .int x2), (3, .int x3)]) hx hb d_G_takeByAction_45 hl (by decide) rfl (fun ls hl => ?_)
    refine lv_iload_n (pc := 47) hx hb d_G_takeByAction_47 rfl (lv_at hl 4 rfl) ?_
    refine lv_iconst (pc := 48) (v := 5) hx hb d_G_takeByAction_48 (by decide) ?_
    refine lv_icmp_ne (pc := 49) (tgt := 59) hx hb d_G_takeByAction_49 (by decide) (fun hc => ?_) (fun hc => ?_)
    · replace hf := hf.2 hc
      exact jn59 x1 x2 x3 y0 S _ _ _ (lv_sub hl [1, 2, 3, 4, 0] rfl) hw hf
    replace hf := hf.1 hc
    refine lv_iload (pc := 52) hx hb d_G_takeByAction_52 (lv_at hl 0 rfl) ?_
    refine lv_if_ne (pc := 54) (tgt := 59) hx hb d_G_takeByAction_54 (by decide) (fun hc => ?_) (fun hc => ?_)
    · replace hf := hf.2 hc
      exact jn59 x1 x2 x3 y0 S _ _ _ (lv_sub hl [1, 2, 3, 4, 0] rfl) hw hf
    replace hf := hf.1 hc
    refine lv_iconst (pc := 57) (v := 0) hx hb d_G_takeByAction_57 (by decide) ?_
    exact gr_z (pc := 58) hx hb hr hlk hK S hw (by decide) hf d_G_takeByAction_58
  unfold wp_G_takeByAction at hf
  refine lv_aload_n (pc := 0) hx hb d_G_takeByAction_0 rfl (lv_at hl 0 rfl) ?_
  refine gk_gt_G_queue (pc := 1) hx hb hK hts hinG hown hw.1 hl26 d_G_takeByAction_1 ?_
  refine lv_iconst (pc := 4) (v := 0) hx hb d_G_takeByAction_4 (by decide) ?_
  refine vp_callSi (pc := 5) (W.runV (As := [.int (0 : Int32)]) (rest := []) ⟨hx, hb, hml, hown, hts⟩ (c_Eq_keyAt l D cI cZ cJ a _ _ _ hf) (cwV 1 hts (tb_wsV tc_Eq_keyAt tm_G_224 ti_Eq_keyAt te_Eq_keyAt tz_Eq) rfl rfl rfl (by decide +kernel) ⟨Nat.le_of_ble_eq_true rfl, Nat.le_of_ble_eq_true rfl⟩) (r_preV (q0 := 3) (ci := 3) hK hw.1 rfl rfl) rfl rfl hl.1 rfl (lv_room (Nat.le_of_ble_eq_true rfl)) d_G_takeByAction_5 ⟨Nat.zero_le _, Nat.zero_le _⟩) (fun r5 hf => ?_)
  refine lv_istore_n (pc := 8) (lv' := [(1, .int r5), (0, .ref (a 0))]) hx hb d_G_takeByAction_8 rfl hl (by decide) rfl (fun ls hl => ?_)
  refine lv_aload_n (pc := 9) hx hb d_G_takeByAction_9 rfl (lv_at hl 1 rfl) ?_
  refine gk_gt_G_keymap (pc := 10) hx hb hK hts hinG hown hw.1 hl33 d_G_takeByAction_10 ?_
  refine lv_iload_n (pc := 13) hx hb d_G_takeByAction_13 rfl (lv_at hl 0 rfl) ?_
  refine lv_aload_n (pc := 14) hx hb d_G_takeByAction_14 rfl (lv_at hl 1 rfl) ?_
  refine gk_gt_G_layers (pc := 15) hx hb hK hts hinG hown hw.1 hl47 d_G_takeByAction_15 ?_
  refine vp_callSi (pc := 18) (W.runV (As := [.int r5, .ref (a 6)]) (rest := []) ⟨hx, hb, hml, hown, hts⟩ (c_Km_topLayer l D cI cZ cJ a _ _ _ hf) (cwV 2 hts (tb_wsV tc_Km_topLayer tm_G_158 ti_Km_topLayer te_Km_topLayer tz_Km) rfl rfl rfl (by decide +kernel) ⟨Nat.le_of_ble_eq_true rfl, Nat.le_of_ble_eq_true rfl⟩) (r_preV (q0 := 4) (ci := 4) hK hw.1 rfl rfl) rfl rfl hl.1 rfl (lv_room (Nat.le_of_ble_eq_true rfl)) d_G_takeByAction_18 ⟨Nat.zero_le _, Nat.zero_le _⟩) (fun r18 hf => ?_)
  refine lv_istore_n (pc := 21) (lv' := [(2, .int r18), (1, .int r5), (0, .ref (a 0))]) hx hb d_G_takeByAction_21 rfl hl (by decide) rfl (fun ls hl => ?_)
  refine lv_aload_n (pc := 22) hx hb d_G_takeByAction_22 rfl (lv_at hl 2 rfl) ?_
  refine gk_gt_G_keymap (pc := 23) hx hb hK hts hinG hown hw.1 hl33 d_G_takeByAction_23 ?_
  refine lv_iload_n (pc := 26) hx hb d_G_takeByAction_26 rfl (lv_at hl 0 rfl) ?_
  refine lv_iload_n (pc := 27) hx hb d_G_takeByAction_27 rfl (lv_at hl 1 rfl) ?_
  refine vp_callSi (pc := 28) (W.runV (As := [.int r18, .int r5]) (rest := []) ⟨hx, hb, hml, hown, hts⟩ (c_Km_kind l D cI cZ cJ a _ _ _ _ hf) (cwV 2 hts (tb_wsV tc_Km_kind tm_G_261 ti_Km_kind te_Km_kind tz_Km) rfl rfl rfl (by decide +kernel) ⟨Nat.le_of_ble_eq_true rfl, Nat.le_of_ble_eq_true rfl⟩) (r_preV (q0 := 4) (ci := 4) hK hw.1 rfl rfl) rfl rfl hl.1 rfl (lv_room (Nat.le_of_ble_eq_true rfl)) d_G_takeByAction_28 ⟨Nat.zero_le _, Nat.zero_le _⟩) (fun r28 hf => ?_)
  refine lv_istore_n (pc := 31) (lv' := [(3, .int r28), (2, .int r18), (1, .int r5), (0, .ref (a 0))]) hx hb d_G_takeByAction_31 rfl hl (by decide) rfl (fun ls hl => ?_)
  refine lv_iload_n (pc := 32) hx hb d_G_takeByAction_32 rfl (lv_at hl 0 rfl) ?_
  refine lv_iconst (pc := 33) (v := 5) hx hb d_G_takeByAction_33 (by decide) ?_
  refine lv_icmp_ne (pc := 34) (tgt := 44) hx hb d_G_takeByAction_34 (by decide) (fun hc => ?_) (fun hc => ?_)
  · replace hf := hf.2 hc
    refine lv_iconst (pc := 44) (v := 0) hx hb d_G_takeByAction_44 (by decide) ?_
    exact jn45 r5 r18 r28 (0 : Int32) S _ _ _ (lv_sub hl [3, 2, 1, 0] rfl) hw hf
  replace hf := hf.1 hc
  refine lv_aload_n (pc := 37) hx hb d_G_takeByAction_37 rfl (lv_at hl 3 rfl) ?_
  refine vp_callSi (pc := 38) (W.runV (As := []) (rest := []) ⟨hx, hb, hml, hown, hts⟩ (c_G_tellTap l D cI cZ cJ a _ _ hf) (cwV 0 hts (tb_wsV tc_G_tellTap tm_G_265 ti_G_tellTap te_G_tellTap tz_G) rfl rfl rfl (by decide +kernel) ⟨Nat.le_of_ble_eq_true rfl, Nat.le_of_ble_eq_true rfl⟩) (r_preV (q0 := 0) (ci := 0) hK hw.1 rfl rfl) rfl rfl hl.1 rfl (lv_room (Nat.le_of_ble_eq_true rfl)) d_G_takeByAction_38 ⟨Nat.zero_le _, Nat.zero_le _⟩) (fun r38 hf => ?_)
  refine lv_goto (pc := 41) (tgt := 45) hx hb d_G_takeByAction_41 (by decide) ?_
  exact jn45 r5 r18 r28 r38 S _ _ _ (lv_sub hl [3, 2, 1, 0] rfl) hw hf
def wp_G_takeFirst (S : GS) (post : Int32 → GS → Prop) : Prop := (wp_Eq_length S (fun r4 => ((r4 = (0 : Int32) → (post (0 : Int32) S)) ∧ (¬ r4 = (0 : Int32) → (wp_Eq_isPress S (0 : Int32) (fun r17 => ((r17 = (0 : Int32) → (wp_G_takeRelease S (fun S24 => (post (1 : Int32) S24)))) ∧ (¬ r17 = (0 : Int32) → (wp_Eq_rowLength S (fun r33 => (wp_G_waitsForChord S r33 (fun r39 => ((r39 = (0 : Int32) → (wp_Ch_longestAtStart S r33 (fun r56 => ((r56 = (-1 : Int32) → (wp_G_takeByAction S (fun r73 S73 => (narrow .boolean (.int r73) = .int r73 ∧ (post r73 S73))))) ∧ (¬ r56 = (-1 : Int32) → (wp_G_takeChord S r56 (fun S67 => (post (1 : Int32) S67)))))))) ∧ (¬ r39 = (0 : Int32) → (post (0 : Int32) S)))))))))))))))
abbrev rm_G_takeFirst : Room := { frames := 4, cells := 0, slots := 0, locals := 99 }
set_option maxHeartbeats 4000000 in
set_option maxRecDepth 100000 in
theorem c_G_takeFirst (l : Launch) (D : va_G) (cI cZ cJ : ClassId) (a : Nat → Nat) (sz : Nat) (S : GS) (post : Int32 → GS → Prop) (hf : wp_G_takeFirst S post) : Met l y_G_takeFirst ws_G_takeFirst rm_G_takeFirst (va_Pc [.ref (a 0)] (gPre D (tys cI cZ cJ) (gkW cI cZ cJ a S) sz)) (va_Qi post (gB D (tys cI cZ cJ) (gkW cI cZ cJ a) (va_A (gkW cI cZ cJ a S) sz)) (va_A (gkW cI cZ cJ a S) sz)) 0 0 (va_A (gkW cI cZ cJ a S) sz) := by
  refine gm_w (QF := fun A => va_Qi post (gB D (tys cI cZ cJ) (gkW cI cZ cJ a) A) A) (cc := b_G_takeFirst) (maxL := 3) (by decide) rfl (Nat.le_of_ble_eq_true rfl) ?_
  intro p e s m args below meth c A ls hx hb hr hts hown hmn hlk hml hK hA hw hl
  have hl : lv_has ls 3 [(0, .ref (a 0))] := hl
  have hinG : ∀ w ∈ u_ws R_G T_G 9, w ∈ ws_G_takeFirst := fun w h => List.mem_cons_of_mem _ (tl_G w h)
  have hl26 := hts _ (List.mem_cons_of_mem _ tf_G_26)
  have hl40 := hts _ (List.mem_cons_of_mem _ tf_G_40)
  unfold wp_G_takeFirst at hf
  refine lv_aload_n (pc := 0) hx hb d_G_takeFirst_0 rfl (lv_at hl 0 rfl) ?_
  refine gk_gt_G_queue (pc := 1) hx hb hK hts hinG hown hw.1 hl26 d_G_takeFirst_1 ?_
  refine vp_callSi (pc := 4) (W.runV (As := []) (rest := []) ⟨hx, hb, hml, hown, hts⟩ (c_Eq_length l D cI cZ cJ a _ _ hf) (cwV 0 hts (tb_wsV tc_Eq_length tm_G_167 ti_Eq_length te_Eq_length tz_Eq) rfl rfl rfl (by decide +kernel) ⟨Nat.le_of_ble_eq_true rfl, Nat.le_of_ble_eq_true rfl⟩) (r_preV (q0 := 3) (ci := 3) hK hw.1 rfl rfl) rfl rfl hl.1 rfl (lv_room (Nat.le_of_ble_eq_true rfl)) d_G_takeFirst_4 ⟨Nat.zero_le _, Nat.zero_le _⟩) (fun r4 hf => ?_)
  refine lv_if_ne (pc := 7) (tgt := 12) hx hb d_G_takeFirst_7 (by decide) (fun hc => ?_) (fun hc => ?_)
  · replace hf := hf.2 hc
    refine lv_aload_n (pc := 12) hx hb d_G_takeFirst_12 rfl (lv_at hl 0 rfl) ?_
    refine gk_gt_G_queue (pc := 13) hx hb hK hts hinG hown hw.1 hl26 d_G_takeFirst_13 ?_
    refine lv_iconst (pc := 16) (v := 0) hx hb d_G_takeFirst_16 (by decide) ?_
    refine vp_callSi (pc := 17) (W.runV (As := [.int (0 : Int32)]) (rest := []) ⟨hx, hb, hml, hown, hts⟩ (c_Eq_isPress l D cI cZ cJ a _ _ _ hf) (cwV 1 hts (tb_wsV tc_Eq_isPress tm_G_202 ti_Eq_isPress te_Eq_isPress tz_Eq) rfl rfl rfl (by decide +kernel) ⟨Nat.le_of_ble_eq_true rfl, Nat.le_of_ble_eq_true rfl⟩) (r_preV (q0 := 3) (ci := 3) hK hw.1 rfl rfl) rfl rfl hl.1 rfl (lv_room (Nat.le_of_ble_eq_true rfl)) d_G_takeFirst_17 ⟨Nat.zero_le _, Nat.zero_le _⟩) (fun r17 hf => ?_)
    refine lv_if_ne (pc := 20) (tgt := 29) hx hb d_G_takeFirst_20 (by decide) (fun hc => ?_) (fun hc => ?_)
    · replace hf := hf.2 hc
      refine lv_aload_n (pc := 29) hx hb d_G_takeFirst_29 rfl (lv_at hl 0 rfl) ?_
      refine gk_gt_G_queue (pc := 30) hx hb hK hts hinG hown hw.1 hl26 d_G_takeFirst_30 ?_
      refine vp_callSi (pc := 33) (W.runV (As := []) (rest := []) ⟨hx, hb, hml, hown, hts⟩ (c_Eq_rowLength l D cI cZ cJ a _ _ hf) (cwV 0 hts (tb_wsV tc_Eq_rowLength tm_G_208 ti_Eq_rowLength te_Eq_rowLength tz_Eq) rfl rfl rfl (by decide +kernel) ⟨Nat.le_of_ble_eq_true rfl, Nat.le_of_ble_eq_true rfl⟩) (r_preV (q0 := 3) (ci := 3) hK hw.1 rfl rfl) rfl rfl hl.1 rfl (lv_room (Nat.le_of_ble_eq_true rfl)) d_G_takeFirst_33 ⟨Nat.zero_le _, Nat.zero_le _⟩) (fun r33 hf => ?_)
      refine lv_istore_n (pc := 36) (lv' := [(1, .int r33), (0, .ref (a 0))]) hx hb d_G_takeFirst_36 rfl hl (by decide) rfl (fun ls hl => ?_)
      refine lv_aload_n (pc := 37) hx hb d_G_takeFirst_37 rfl (lv_at hl 1 rfl) ?_
      refine lv_iload_n (pc := 38) hx hb d_G_takeFirst_38 rfl (lv_at hl 0 rfl) ?_
      refine vp_callSi (pc := 39) (W.runV (As := [.int r33]) (rest := []) ⟨hx, hb, hml, hown, hts⟩ (c_G_waitsForChord l D cI cZ cJ a _ _ _ hf) (cwV 1 hts (tb_wsV tc_G_waitsForChord tm_G_211 ti_G_waitsForChord te_G_waitsForChord tz_G) rfl rfl rfl (by decide +kernel) ⟨Nat.le_of_ble_eq_true rfl, Nat.le_of_ble_eq_true rfl⟩) (r_preV (q0 := 0) (ci := 0) hK hw.1 rfl rfl) rfl rfl hl.1 rfl (lv_room (Nat.le_of_ble_eq_true rfl)) d_G_takeFirst_39 ⟨Nat.zero_le _, Nat.zero_le _⟩) (fun r39 hf => ?_)
      refine lv_if_eq (pc := 42) (tgt := 47) hx hb d_G_takeFirst_42 (by decide) (fun hc => ?_) (fun hc => ?_)
      · replace hf := hf.1 hc
        refine lv_aload_n (pc := 47) hx hb d_G_takeFirst_47 rfl (lv_at hl 1 rfl) ?_
        refine gk_gt_G_chords (pc := 48) hx hb hK hts hinG hown hw.1 hl40 d_G_takeFirst_48 ?_
        refine lv_aload_n (pc := 51) hx hb d_G_takeFirst_51 rfl (lv_at hl 1 rfl) ?_
        refine gk_gt_G_queue (pc := 52) hx hb hK hts hinG hown hw.1 hl26 d_G_takeFirst_52 ?_
        refine lv_iload_n (pc := 55) hx hb d_G_takeFirst_55 rfl (lv_at hl 0 rfl) ?_
        refine vp_callSi (pc := 56) (W.runV (As := [.ref (a 3), .int r33]) (rest := []) ⟨hx, hb, hml, hown, hts⟩ (c_Ch_longestAtStart l D cI cZ cJ a _ _ _ hf) (cwV 2 hts (tb_wsV tc_Ch_longestAtStart tm_G_214 ti_Ch_longestAtStart te_Ch_longestAtStart tz_Ch) rfl rfl rfl (by decide +kernel) ⟨Nat.le_of_ble_eq_true rfl, Nat.le_of_ble_eq_true rfl⟩) (r_preV (q0 := 5) (ci := 5) hK hw.1 rfl rfl) rfl rfl hl.1 rfl (lv_room (Nat.le_of_ble_eq_true rfl)) d_G_takeFirst_56 ⟨Nat.zero_le _, Nat.zero_le _⟩) (fun r56 hf => ?_)
        refine lv_istore_n (pc := 59) (lv' := [(2, .int r56), (1, .int r33), (0, .ref (a 0))]) hx hb d_G_takeFirst_59 rfl hl (by decide) rfl (fun ls hl => ?_)
        refine lv_iload_n (pc := 60) hx hb d_G_takeFirst_60 rfl (lv_at hl 0 rfl) ?_
        refine lv_iconst (pc := 61) (v := -1) hx hb d_G_takeFirst_61 (by decide) ?_
        refine lv_icmp_eq (pc := 62) (tgt := 72) hx hb d_G_takeFirst_62 (by decide) (fun hc => ?_) (fun hc => ?_)
        · replace hf := hf.1 hc
          refine lv_aload_n (pc := 72) hx hb d_G_takeFirst_72 rfl (lv_at hl 2 rfl) ?_
          refine gc_i (pc := 73) (Wf := gkW cI cZ cJ a) hw hA (va_runV (As := []) (rest := []) ⟨hx, hb, hml, hown, hts⟩ (c_G_takeByAction l D cI cZ cJ a _ _ _ hf) (cwV 0 hts (tb_wsV tc_G_takeByAction tm_G_221 ti_G_takeByAction te_G_takeByAction tz_G) rfl rfl rfl (by decide +kernel) ⟨Nat.le_of_ble_eq_true rfl, Nat.le_of_ble_eq_true rfl⟩) (g_preV (q0 := 0) (ci := 0) hK hw rfl rfl) rfl rfl hl.1 rfl (lv_room (Nat.le_of_ble_eq_true rfl)) d_G_takeFirst_73 ⟨Nat.zero_le _, Nat.zero_le _⟩) (fun r73 S73 H locs hw hf => ?_)
          exact gr_z (pc := 76) hx hb hr hlk hK S73 hw hf.1 hf.2 d_G_takeFirst_76
        replace hf := hf.2 hc
        refine lv_aload_n (pc := 65) hx hb d_G_takeFirst_65 rfl (lv_at hl 2 rfl) ?_
        refine lv_iload_n (pc := 66) hx hb d_G_takeFirst_66 rfl (lv_at hl 0 rfl) ?_
        refine gc_v (pc := 67) (Wf := gkW cI cZ cJ a) hw hA (va_runV (As := [.int r56]) (rest := []) ⟨hx, hb, hml, hown, hts⟩ (c_G_takeChord l D cI cZ cJ a _ _ _ _ hf) (cwV 1 hts (tb_wsV tc_G_takeChord tm_G_218 ti_G_takeChord te_G_takeChord tz_G) rfl rfl rfl (by decide +kernel) ⟨Nat.le_of_ble_eq_true rfl, Nat.le_of_ble_eq_true rfl⟩) (g_preV (q0 := 0) (ci := 0) hK hw rfl rfl) rfl rfl hl.1 rfl (lv_room (Nat.le_of_ble_eq_true rfl)) d_G_takeFirst_67 ⟨Nat.zero_le _, Nat.zero_le _⟩) (fun S67 H locs hw hf => ?_)
        refine lv_iconst (pc := 70) (v := 1) hx hb d_G_takeFirst_70 (by decide) ?_
        exact gr_z (pc := 71) hx hb hr hlk hK S67 hw (by decide) hf d_G_takeFirst_71
      replace hf := hf.2 hc
      refine lv_iconst (pc := 45) (v := 0) hx hb d_G_takeFirst_45 (by decide) ?_
      exact gr_z (pc := 46) hx hb hr hlk hK S hw (by decide) hf d_G_takeFirst_46
    replace hf := hf.1 hc
    refine lv_aload_n (pc := 23) hx hb d_G_takeFirst_23 rfl (lv_at hl 0 rfl) ?_
    refine gc_v (pc := 24) (Wf := gkW cI cZ cJ a) hw hA (va_runV (As := []) (rest := []) ⟨hx, hb, hml, hown, hts⟩ (c_G_takeRelease l D cI cZ cJ a _ _ _ hf) (cwV 0 hts (tb_wsV tc_G_takeRelease tm_G_205 ti_G_takeRelease te_G_takeRelease tz_G) rfl rfl rfl (by decide +kernel) ⟨Nat.le_of_ble_eq_true rfl, Nat.le_of_ble_eq_true rfl⟩) (g_preV (q0 := 0) (ci := 0) hK hw rfl rfl) rfl rfl hl.1 rfl (lv_room (Nat.le_of_ble_eq_true rfl)) d_G_takeFirst_24 ⟨Nat.zero_le _, Nat.zero_le _⟩) (fun S24 H locs hw hf => ?_)
    refine lv_iconst (pc := 27) (v := 1) hx hb d_G_takeFirst_27 (by decide) ?_
    exact gr_z (pc := 28) hx hb hr hlk hK S24 hw (by decide) hf d_G_takeFirst_28
  replace hf := hf.1 hc
  refine lv_iconst (pc := 10) (v := 0) hx hb d_G_takeFirst_10 (by decide) ?_
  exact gr_z (pc := 11) hx hb hr hlk hK S hw (by decide) hf d_G_takeFirst_11
def J_G_runScan_37 (post : Int32 → GS → Prop) (x1 : Int32) (x2 : Int32) (x3 : Int32) (S : GS) : Prop := (post x1 (gI S 0 (fun _ => ((S.1 0 0) + (1 : Int32)))))
def L_G_runScan_16 (post : Int32 → GS → Prop) : Nat → Int32 → Int32 → Int32 → GS → Prop
  | 0, _, _, _, _ => False
  | n16 + 1, x1, x2, x3, S => ((x2 = (0 : Int32) → (J_G_runScan_37 post x1 x2 x3 S)) ∧ (¬ x2 = (0 : Int32) → (((32 : Int32) ≤ x3 → (J_G_runScan_37 post x1 x2 x3 S)) ∧ (¬ (32 : Int32) ≤ x3 → (wp_G_takeFirst S (fun r27 S27 => (L_G_runScan_16 post n16 x1 r27 (x3 + (1 : Int32)) S27)))))))
def wp_G_runScan (S : GS) (post : Int32 → GS → Prop) : Prop := (wp_Mx_look S (fun S4 => (wp_G_bringEvents S4 (fun r8 S8 => (∃ q16, L_G_runScan_16 post q16 r8 (1 : Int32) (0 : Int32) S8)))))
abbrev rm_G_runScan : Room := { frames := 5, cells := 0, slots := 0, locals := 121 }
set_option maxHeartbeats 4000000 in
set_option maxRecDepth 100000 in
theorem c_G_runScan (l : Launch) (D : va_G) (cI cZ cJ : ClassId) (a : Nat → Nat) (sz : Nat) (S : GS) (post : Int32 → GS → Prop) (hf : wp_G_runScan S post) : Met l y_G_runScan ws_G_runScan rm_G_runScan (va_Pc [.ref (a 0)] (gPre D (tys cI cZ cJ) (gkW cI cZ cJ a S) sz)) (va_Qi post (gB D (tys cI cZ cJ) (gkW cI cZ cJ a) (va_A (gkW cI cZ cJ a S) sz)) (va_A (gkW cI cZ cJ a S) sz)) 0 0 (va_A (gkW cI cZ cJ a S) sz) := by
  refine gm_w (QF := fun A => va_Qi post (gB D (tys cI cZ cJ) (gkW cI cZ cJ a) A) A) (cc := b_G_runScan) (maxL := 4) (by decide) rfl (Nat.le_of_ble_eq_true rfl) ?_
  intro p e s m args below meth c A ls hx hb hr hts hown hmn hlk hml hK hA hw hl
  have hl : lv_has ls 4 [(0, .ref (a 0))] := hl
  have hinG : ∀ w ∈ u_ws R_G T_G 9, w ∈ ws_G_runScan := fun w h => List.mem_cons_of_mem _ (tl_G w h)
  have hl12 := hts _ (List.mem_cons_of_mem _ tf_G_12)
  have hl65 := hts _ (List.mem_cons_of_mem _ tf_G_65)
  have jn37 : ∀ (x1 : Int32) (x2 : Int32) (x3 : Int32) (S : GS) (H : Heap) (locs : List Loc) (ls : Array Slot), lv_has ls 4 [(0, .ref (a 0)), (1, .int x1), (2, .int x2), (3, .int x3)] → wf D A s.heap (gkW cI cZ cJ a S) H locs → J_G_runScan_37 post x1 x2 x3 S → W p l e rm_G_runScan s m args below meth c H locs 0 0 (MQ below (va_Qi post (gB D (tys cI cZ cJ) (gkW cI cZ cJ a) A) A) args s 0 0 A) (F0 m 37 ls []) := by
    intro x1 x2 x3 S H locs ls hl hw hf
    unfold J_G_runScan_37 at hf
    refine lv_aload_n (pc := 37) hx hb d_G_runScan_37 rfl (lv_at hl 0 rfl) ?_
    refine lv_dup (pc := 38) hx hb d_G_runScan_38 rfl ?_
    refine gk_gt_G_now (pc := 39) (v := (S.1 0 0)) hx hb hK hts hinG hown hw.1 hl65 rfl d_G_runScan_39 ?_
    refine lv_iconst (pc := 42) (v := 1) hx hb d_G_runScan_42 (by decide) ?_
    refine lv_iadd (pc := 43) hx hb d_G_runScan_43 ?_
    refine gk_pt_G_now (pc := 44) hx hb hK hts hinG hown hw hl65 d_G_runScan_44 (fun H locs hw => ?_)
    refine lv_iload_n (pc := 47) hx hb d_G_runScan_47 rfl (lv_at hl 1 rfl) ?_
    exact gr_i (pc := 48) hx hb hr hlk hK (gI S 0 (fun _ => ((S.1 0 0) + (1 : Int32)))) hw hf d_G_runScan_48
  unfold wp_G_runScan at hf
  refine lv_aload_n (pc := 0) hx hb d_G_runScan_0 rfl (lv_at hl 0 rfl) ?_
  refine gk_gt_G_matrix (pc := 1) hx hb hK hts hinG hown hw.1 hl12 d_G_runScan_1 ?_
  refine gc_v (pc := 4) (Wf := gkW cI cZ cJ a) hw hA (va_runV (As := []) (rest := []) ⟨hx, hb, hml, hown, hts⟩ (c_Mx_look l D cI cZ cJ a _ _ _ hf) (cwV 0 hts (tb_wsV tc_Mx_look tm_G_185 ti_Mx_look te_Mx_look tz_Mx) rfl rfl rfl (by decide +kernel) ⟨Nat.le_of_ble_eq_true rfl, Nat.le_of_ble_eq_true rfl⟩) (g_preV (q0 := 1) (ci := 1) hK hw rfl rfl) rfl rfl hl.1 rfl (lv_room (Nat.le_of_ble_eq_true rfl)) d_G_runScan_4 ⟨Nat.zero_le _, Nat.zero_le _⟩) (fun S4 H locs hw hf => ?_)
  refine lv_aload_n (pc := 7) hx hb d_G_runScan_7 rfl (lv_at hl 0 rfl) ?_
  refine gc_i (pc := 8) (Wf := gkW cI cZ cJ a) hw hA (va_runV (As := []) (rest := []) ⟨hx, hb, hml, hown, hts⟩ (c_G_bringEvents l D cI cZ cJ a _ _ _ hf) (cwV 0 hts (tb_wsV tc_G_bringEvents tm_G_188 ti_G_bringEvents te_G_bringEvents tz_G) rfl rfl rfl (by decide +kernel) ⟨Nat.le_of_ble_eq_true rfl, Nat.le_of_ble_eq_true rfl⟩) (g_preV (q0 := 0) (ci := 0) hK hw rfl rfl) rfl rfl hl.1 rfl (lv_room (Nat.le_of_ble_eq_true rfl)) d_G_runScan_8 ⟨Nat.zero_le _, Nat.zero_le _⟩) (fun r8 S8 H locs hw hf => ?_)
  refine lv_istore_n (pc := 11) (lv' := [(1, .int r8), (0, .ref (a 0))]) hx hb d_G_runScan_11 rfl hl (by decide) rfl (fun ls hl => ?_)
  refine lv_iconst (pc := 12) (v := 1) hx hb d_G_runScan_12 (by decide) ?_
  refine lv_istore_n (pc := 13) (lv' := [(2, .int (1 : Int32)), (1, .int r8), (0, .ref (a 0))]) hx hb d_G_runScan_13 rfl hl (by decide) rfl (fun ls hl => ?_)
  refine lv_iconst (pc := 14) (v := 0) hx hb d_G_runScan_14 (by decide) ?_
  refine lv_istore_n (pc := 15) (lv' := [(3, .int (0 : Int32)), (2, .int (1 : Int32)), (1, .int r8), (0, .ref (a 0))]) hx hb d_G_runScan_15 rfl hl (by decide) rfl (fun ls hl => ?_)
  obtain ⟨q16, hf⟩ := hf
  have lp16 : ∀ (n16 : Nat) (x1 : Int32) (x2 : Int32) (x3 : Int32) (S : GS) (H : Heap) (locs : List Loc) (ls : Array Slot), lv_has ls 4 [(0, .ref (a 0)), (1, .int x1), (2, .int x2), (3, .int x3)] → wf D A s.heap (gkW cI cZ cJ a S) H locs → L_G_runScan_16 post n16 x1 x2 x3 S → W p l e rm_G_runScan s m args below meth c H locs 0 0 (MQ below (va_Qi post (gB D (tys cI cZ cJ) (gkW cI cZ cJ a) A) A) args s 0 0 A) (F0 m 16 ls []) := by
    intro n16
    induction n16 with
    | zero => intro x1 x2 x3 S H locs ls hl hw hf; exact False.elim hf
    | succ n16 ih16 =>
      intro x1 x2 x3 S H locs ls hl hw hf
      unfold L_G_runScan_16 at hf
      refine lv_iload_n (pc := 16) hx hb d_G_runScan_16 rfl (lv_at hl 2 rfl) ?_
      refine lv_if_eq (pc := 17) (tgt := 37) hx hb d_G_runScan_17 (by decide) (fun hc => ?_) (fun hc => ?_)
      · replace hf := hf.1 hc
        exact jn37 x1 x2 x3 S _ _ _ (lv_sub hl [0, 1, 2, 3] rfl) hw hf
      replace hf := hf.2 hc
      refine lv_iload_n (pc := 20) hx hb d_G_runScan_20 rfl (lv_at hl 3 rfl) ?_
      refine lv_bipush (pc := 21) (v := 32) hx hb d_G_runScan_21 (by decide) ?_
      refine lv_icmp_ge (pc := 23) (tgt := 37) hx hb d_G_runScan_23 (by decide) (fun hc => ?_) (fun hc => ?_)
      · replace hf := hf.1 hc
        exact jn37 x1 x2 x3 S _ _ _ (lv_sub hl [0, 1, 2, 3] rfl) hw hf
      replace hf := hf.2 hc
      refine lv_aload_n (pc := 26) hx hb d_G_runScan_26 rfl (lv_at hl 0 rfl) ?_
      refine gc_i (pc := 27) (Wf := gkW cI cZ cJ a) hw hA (va_runV (As := []) (rest := []) ⟨hx, hb, hml, hown, hts⟩ (c_G_takeFirst l D cI cZ cJ a _ _ _ hf) (cwV 0 hts (tb_wsV tc_G_takeFirst tm_G_191 ti_G_takeFirst te_G_takeFirst tz_G) rfl rfl rfl (by decide +kernel) ⟨Nat.le_of_ble_eq_true rfl, Nat.le_of_ble_eq_true rfl⟩) (g_preV (q0 := 0) (ci := 0) hK hw rfl rfl) rfl rfl hl.1 rfl (lv_room (Nat.le_of_ble_eq_true rfl)) d_G_runScan_27 ⟨Nat.zero_le _, Nat.zero_le _⟩) (fun r27 S27 H locs hw hf => ?_)
      refine lv_istore_n (pc := 30) (lv' := [(2, .int r27), (0, .ref (a 0)), (1, .int x1), (3, .int x3)]) hx hb d_G_runScan_30 rfl hl (by decide) rfl (fun ls hl => ?_)
      refine lv_iinc (pc := 31) (k := 3) (v := (x3 + (1 : Int32))) (lv' := [(3, .int (x3 + (1 : Int32))), (2, .int r27), (0, .ref (a 0)), (1, .int x1)]) hx hb d_G_runScan_31 hl rfl rfl (by decide) rfl (fun ls hl => ?_)
      refine lv_goto (pc := 34) (tgt := 16) hx hb d_G_runScan_34 (by decide) ?_
      exact ih16 x1 r27 (x3 + (1 : Int32)) S27 _ _ _ (lv_sub hl [2, 3, 1, 0] rfl) hw hf
  exact lp16 q16 r8 (1 : Int32) (0 : Int32) S8 _ _ _ (lv_sub hl [3, 2, 1, 0] rfl) hw hf
def wp_G_scan (S : GS) (post : Int32 → GS → Prop) : Prop := (wp_G_runScan S (fun r1 S1 => (post r1 S1)))
abbrev rm_G_scan : Room := { frames := 6, cells := 0, slots := 0, locals := 144 }
set_option maxHeartbeats 4000000 in
set_option maxRecDepth 100000 in
theorem c_G_scan (l : Launch) (D : va_G) (cI cZ cJ : ClassId) (a : Nat → Nat) (sz : Nat) (S : GS) (post : Int32 → GS → Prop) (hf : wp_G_scan S post) : Met l y_G_scan ws_G_scan rm_G_scan (va_Pc [.ref (a 0)] (gPre D (tys cI cZ cJ) (gkW cI cZ cJ a S) sz)) (va_Qi post (gB D (tys cI cZ cJ) (gkW cI cZ cJ a) (va_A (gkW cI cZ cJ a S) sz)) (va_A (gkW cI cZ cJ a S) sz)) 0 0 (va_A (gkW cI cZ cJ a S) sz) := by
  refine gm_w (QF := fun A => va_Qi post (gB D (tys cI cZ cJ) (gkW cI cZ cJ a) A) A) (cc := b_G_scan) (maxL := 1) (by decide) rfl (Nat.le_of_ble_eq_true rfl) ?_
  intro p e s m args below meth c A ls hx hb hr hts hown hmn hlk hml hK hA hw hl
  have hl : lv_has ls 1 [(0, .ref (a 0))] := hl
  unfold wp_G_scan at hf
  refine lv_aload_n (pc := 0) hx hb d_G_scan_0 rfl (lv_at hl 0 rfl) ?_
  refine gc_i (pc := 1) (Wf := gkW cI cZ cJ a) hw hA (va_runV (As := []) (rest := []) ⟨hx, hb, hml, hown, hts⟩ (c_G_runScan l D cI cZ cJ a _ _ _ hf) (cwV 0 hts (tb_wsV tc_G_runScan tm_G_88 ti_G_runScan te_G_runScan tz_G) rfl rfl rfl (by decide +kernel) ⟨Nat.le_of_ble_eq_true rfl, Nat.le_of_ble_eq_true rfl⟩) (g_preV (q0 := 0) (ci := 0) hK hw rfl rfl) rfl rfl hl.1 rfl (lv_room (Nat.le_of_ble_eq_true rfl)) d_G_scan_1 ⟨Nat.zero_le _, Nat.zero_le _⟩) (fun r1 S1 H locs hw hf => ?_)
  exact gr_i (pc := 4) hx hb hr hlk hK S1 hw hf d_G_scan_4
def L_G_scans_25 (post : Int32 → GS → Prop) : Nat → Int32 → Int32 → Int32 → GS → Prop
  | 0, _, _, _, _ => False
  | n25 + 1, x1, x2, x3, S => ((x1 ≤ x3 → (post x2 S)) ∧ (¬ x1 ≤ x3 → (wp_G_runScan S (fun r32 S32 => (L_G_scans_25 post n25 x1 (x2 + r32) (x3 + (1 : Int32)) S32)))))
def wp_G_scans (S : GS) (p0 : Int32) (post : Int32 → GS → Prop) : Prop := ((p0 < (1 : Int32) → False) ∧ (¬ p0 < (1 : Int32) → ((p0 ≤ (100 : Int32) → (∃ q25, L_G_scans_25 post q25 p0 (0 : Int32) (0 : Int32) S)) ∧ (¬ p0 ≤ (100 : Int32) → False))))
abbrev rm_G_scans : Room := { frames := 6, cells := 0, slots := 0, locals := 144 }
set_option maxHeartbeats 4000000 in
set_option maxRecDepth 100000 in
theorem c_G_scans (l : Launch) (D : va_G) (cI cZ cJ : ClassId) (a : Nat → Nat) (sz : Nat) (S : GS) (p0 : Int32) (post : Int32 → GS → Prop) (hf : wp_G_scans S p0 post) : Met l y_G_scans ws_G_scans rm_G_scans (va_Pc [.ref (a 0), .int p0] (gPre D (tys cI cZ cJ) (gkW cI cZ cJ a S) sz)) (va_Qi post (gB D (tys cI cZ cJ) (gkW cI cZ cJ a) (va_A (gkW cI cZ cJ a S) sz)) (va_A (gkW cI cZ cJ a S) sz)) 0 0 (va_A (gkW cI cZ cJ a S) sz) := by
  refine gm_w (QF := fun A => va_Qi post (gB D (tys cI cZ cJ) (gkW cI cZ cJ a) A) A) (cc := b_G_scans) (maxL := 4) (by decide) rfl (Nat.le_of_ble_eq_true rfl) ?_
  intro p e s m args below meth c A ls hx hb hr hts hown hmn hlk hml hK hA hw hl
  have hl : lv_has ls 4 [(0, .ref (a 0)), (1, .int p0)] := hl
  unfold wp_G_scans at hf
  refine lv_iload_n (pc := 0) hx hb d_G_scans_0 rfl (lv_at hl 1 rfl) ?_
  refine lv_iconst (pc := 1) (v := 1) hx hb d_G_scans_1 (by decide) ?_
  refine lv_icmp_lt (pc := 2) (tgt := 11) hx hb d_G_scans_2 (by decide) (fun hc => ?_) (fun hc => ?_)
  · replace hf := hf.1 hc
    exact False.elim hf
  replace hf := hf.2 hc
  refine lv_iload_n (pc := 5) hx hb d_G_scans_5 rfl (lv_at hl 1 rfl) ?_
  refine lv_bipush (pc := 6) (v := 100) hx hb d_G_scans_6 (by decide) ?_
  refine lv_icmp_le (pc := 8) (tgt := 21) hx hb d_G_scans_8 (by decide) (fun hc => ?_) (fun hc => ?_)
  · replace hf := hf.1 hc
    refine lv_iconst (pc := 21) (v := 0) hx hb d_G_scans_21 (by decide) ?_
    refine lv_istore_n (pc := 22) (lv' := [(2, .int (0 : Int32)), (0, .ref (a 0)), (1, .int p0)]) hx hb d_G_scans_22 rfl hl (by decide) rfl (fun ls hl => ?_)
    refine lv_iconst (pc := 23) (v := 0) hx hb d_G_scans_23 (by decide) ?_
    refine lv_istore_n (pc := 24) (lv' := [(3, .int (0 : Int32)), (2, .int (0 : Int32)), (0, .ref (a 0)), (1, .int p0)]) hx hb d_G_scans_24 rfl hl (by decide) rfl (fun ls hl => ?_)
    obtain ⟨q25, hf⟩ := hf
    have lp25 : ∀ (n25 : Nat) (x1 : Int32) (x2 : Int32) (x3 : Int32) (S : GS) (H : Heap) (locs : List Loc) (ls : Array Slot), lv_has ls 4 [(0, .ref (a 0)), (1, .int x1), (2, .int x2), (3, .int x3)] → wf D A s.heap (gkW cI cZ cJ a S) H locs → L_G_scans_25 post n25 x1 x2 x3 S → W p l e rm_G_scans s m args below meth c H locs 0 0 (MQ below (va_Qi post (gB D (tys cI cZ cJ) (gkW cI cZ cJ a) A) A) args s 0 0 A) (F0 m 25 ls []) := by
      intro n25
      induction n25 with
      | zero => intro x1 x2 x3 S H locs ls hl hw hf; exact False.elim hf
      | succ n25 ih25 =>
        intro x1 x2 x3 S H locs ls hl hw hf
        unfold L_G_scans_25 at hf
        refine lv_iload_n (pc := 25) hx hb d_G_scans_25 rfl (lv_at hl 3 rfl) ?_
        refine lv_iload_n (pc := 26) hx hb d_G_scans_26 rfl (lv_at hl 1 rfl) ?_
        refine lv_icmp_ge (pc := 27) (tgt := 43) hx hb d_G_scans_27 (by decide) (fun hc => ?_) (fun hc => ?_)
        · replace hf := hf.1 hc
          refine lv_iload_n (pc := 43) hx hb d_G_scans_43 rfl (lv_at hl 2 rfl) ?_
          exact gr_i (pc := 44) hx hb hr hlk hK S hw hf d_G_scans_44
        replace hf := hf.2 hc
        refine lv_iload_n (pc := 30) hx hb d_G_scans_30 rfl (lv_at hl 2 rfl) ?_
        refine lv_aload_n (pc := 31) hx hb d_G_scans_31 rfl (lv_at hl 0 rfl) ?_
        refine gc_i (pc := 32) (Wf := gkW cI cZ cJ a) hw hA (va_runV (As := []) (rest := [.int x2]) ⟨hx, hb, hml, hown, hts⟩ (c_G_runScan l D cI cZ cJ a _ _ _ hf) (cwV 0 hts (tb_wsV tc_G_runScan tm_G_88 ti_G_runScan te_G_runScan tz_G) rfl rfl rfl (by decide +kernel) ⟨Nat.le_of_ble_eq_true rfl, Nat.le_of_ble_eq_true rfl⟩) (g_preV (q0 := 0) (ci := 0) hK hw rfl rfl) rfl rfl hl.1 rfl (lv_room (Nat.le_of_ble_eq_true rfl)) d_G_scans_32 ⟨Nat.zero_le _, Nat.zero_le _⟩) (fun r32 S32 H locs hw hf => ?_)
        refine lv_iadd (pc := 35) hx hb d_G_scans_35 ?_
        refine lv_istore_n (pc := 36) (lv' := [(2, .int (x2 + r32)), (0, .ref (a 0)), (1, .int x1), (3, .int x3)]) hx hb d_G_scans_36 rfl hl (by decide) rfl (fun ls hl => ?_)
        refine lv_iinc (pc := 37) (k := 3) (v := (x3 + (1 : Int32))) (lv' := [(3, .int (x3 + (1 : Int32))), (2, .int (x2 + r32)), (0, .ref (a 0)), (1, .int x1)]) hx hb d_G_scans_37 hl rfl rfl (by decide) rfl (fun ls hl => ?_)
        refine lv_goto (pc := 40) (tgt := 25) hx hb d_G_scans_40 (by decide) ?_
        exact ih25 x1 (x2 + r32) (x3 + (1 : Int32)) S32 _ _ _ (lv_sub hl [2, 3, 1, 0] rfl) hw hf
    exact lp25 q25 p0 (0 : Int32) (0 : Int32) S _ _ _ (lv_sub hl [2, 3, 1, 0] rfl) hw hf
  replace hf := hf.2 hc
  exact False.elim hf
def wp_G_poll (S : GS) (post : Int32 → GS → Prop) : Prop := (wp_Re_takeOldest S (fun r4 S4 => (narrow .boolean (.int r4) = .int r4 ∧ (post r4 S4))))
abbrev rm_G_poll : Room := { frames := 2, cells := 0, slots := 0, locals := 49 }
set_option maxHeartbeats 4000000 in
set_option maxRecDepth 100000 in
theorem c_G_poll (l : Launch) (D : va_G) (cI cZ cJ : ClassId) (a : Nat → Nat) (sz : Nat) (S : GS) (post : Int32 → GS → Prop) (hf : wp_G_poll S post) : Met l y_G_poll ws_G_poll rm_G_poll (va_Pc [.ref (a 0)] (gPre D (tys cI cZ cJ) (gkW cI cZ cJ a S) sz)) (va_Qi post (gB D (tys cI cZ cJ) (gkW cI cZ cJ a) (va_A (gkW cI cZ cJ a S) sz)) (va_A (gkW cI cZ cJ a S) sz)) 0 0 (va_A (gkW cI cZ cJ a S) sz) := by
  refine gm_w (QF := fun A => va_Qi post (gB D (tys cI cZ cJ) (gkW cI cZ cJ a) A) A) (cc := b_G_poll) (maxL := 1) (by decide) rfl (Nat.le_of_ble_eq_true rfl) ?_
  intro p e s m args below meth c A ls hx hb hr hts hown hmn hlk hml hK hA hw hl
  have hl : lv_has ls 1 [(0, .ref (a 0))] := hl
  have hinG : ∀ w ∈ u_ws R_G T_G 9, w ∈ ws_G_poll := fun w h => List.mem_cons_of_mem _ (tl_G w h)
  have hl61 := hts _ (List.mem_cons_of_mem _ tf_G_61)
  unfold wp_G_poll at hf
  refine lv_aload_n (pc := 0) hx hb d_G_poll_0 rfl (lv_at hl 0 rfl) ?_
  refine gk_gt_G_reports (pc := 1) hx hb hK hts hinG hown hw.1 hl61 d_G_poll_1 ?_
  refine gc_i (pc := 4) (Wf := gkW cI cZ cJ a) hw hA (va_runV (As := []) (rest := []) ⟨hx, hb, hml, hown, hts⟩ (c_Re_takeOldest l D cI cZ cJ a _ _ _ hf) (cwV 0 hts (tb_wsV tc_Re_takeOldest tm_G_94 ti_Re_takeOldest te_Re_takeOldest tz_Re) rfl rfl rfl (by decide +kernel) ⟨Nat.le_of_ble_eq_true rfl, Nat.le_of_ble_eq_true rfl⟩) (g_preV (q0 := 8) (ci := 8) hK hw rfl rfl) rfl rfl hl.1 rfl (lv_room (Nat.le_of_ble_eq_true rfl)) d_G_poll_4 ⟨Nat.zero_le _, Nat.zero_le _⟩) (fun r4 S4 H locs hw hf => ?_)
  exact gr_z (pc := 7) hx hb hr hlk hK S4 hw hf.1 hf.2 d_G_poll_7
def wp_G_report (S : GS) (p0 : Int32) (post : Int32 → Prop) : Prop := (wp_Re_partOfTaken S p0 (fun r5 => (post r5)))
abbrev rm_G_report : Room := { frames := 1, cells := 0, slots := 0, locals := 22 }
set_option maxHeartbeats 4000000 in
set_option maxRecDepth 100000 in
theorem c_G_report (l : Launch) (D : va_G) (cI cZ cJ : ClassId) (a : Nat → Nat) (S : GS) (p0 : Int32) (post : Int32 → Prop) (hf : wp_G_report S p0 post) : Met l y_G_report ws_G_report rm_G_report (va_Pc [.ref (a 0), .int p0] (rPre D (tys cI cZ cJ) (gkW cI cZ cJ a S))) (vp_Si post) 0 0 (fun _ => False) := by
  refine gm_r (cc := b_G_report) (maxL := 2) (by decide) rfl (Nat.le_of_ble_eq_true rfl) ?_
  intro p e s m args below meth c ls hx hb hr hts hown hlk hml hK hP hl
  have hl : lv_has ls 2 [(0, .ref (a 0)), (1, .int p0)] := hl
  have hinG : ∀ w ∈ u_ws R_G T_G 9, w ∈ ws_G_report := fun w h => List.mem_cons_of_mem _ (tl_G w h)
  have hl61 := hts _ (List.mem_cons_of_mem _ tf_G_61)
  unfold wp_G_report at hf
  refine lv_aload_n (pc := 0) hx hb d_G_report_0 rfl (lv_at hl 0 rfl) ?_
  refine gk_gt_G_reports (pc := 1) hx hb hK hts hinG hown hP hl61 d_G_report_1 ?_
  refine lv_iload_n (pc := 4) hx hb d_G_report_4 rfl (lv_at hl 1 rfl) ?_
  refine vp_callSi (pc := 5) (W.runV (As := [.int p0]) (rest := []) ⟨hx, hb, hml, hown, hts⟩ (c_Re_partOfTaken l D cI cZ cJ a _ _ _ hf) (cwV 1 hts (tb_wsV tc_Re_partOfTaken tm_G_98 ti_Re_partOfTaken te_Re_partOfTaken tz_Re) rfl rfl rfl (by decide +kernel) ⟨Nat.le_of_ble_eq_true rfl, Nat.le_of_ble_eq_true rfl⟩) (r_preV (q0 := 8) (ci := 8) hK hP rfl rfl) rfl rfl hl.1 rfl (lv_room (Nat.le_of_ble_eq_true rfl)) d_G_report_5 ⟨Nat.zero_le _, Nat.zero_le _⟩) (fun r5 hf => ?_)
  exact rr_i (pc := 8) hx hb hr hlk hf d_G_report_8
def wp_G_waiting (S : GS) (post : Int32 → Prop) : Prop := (wp_Re_stored S (fun r4 => (post r4)))
abbrev rm_G_waiting : Room := { frames := 1, cells := 0, slots := 0, locals := 20 }
set_option maxHeartbeats 4000000 in
set_option maxRecDepth 100000 in
theorem c_G_waiting (l : Launch) (D : va_G) (cI cZ cJ : ClassId) (a : Nat → Nat) (S : GS) (post : Int32 → Prop) (hf : wp_G_waiting S post) : Met l y_G_waiting ws_G_waiting rm_G_waiting (va_Pc [.ref (a 0)] (rPre D (tys cI cZ cJ) (gkW cI cZ cJ a S))) (vp_Si post) 0 0 (fun _ => False) := by
  refine gm_r (cc := b_G_waiting) (maxL := 1) (by decide) rfl (Nat.le_of_ble_eq_true rfl) ?_
  intro p e s m args below meth c ls hx hb hr hts hown hlk hml hK hP hl
  have hl : lv_has ls 1 [(0, .ref (a 0))] := hl
  have hinG : ∀ w ∈ u_ws R_G T_G 9, w ∈ ws_G_waiting := fun w h => List.mem_cons_of_mem _ (tl_G w h)
  have hl61 := hts _ (List.mem_cons_of_mem _ tf_G_61)
  unfold wp_G_waiting at hf
  refine lv_aload_n (pc := 0) hx hb d_G_waiting_0 rfl (lv_at hl 0 rfl) ?_
  refine gk_gt_G_reports (pc := 1) hx hb hK hts hinG hown hP hl61 d_G_waiting_1 ?_
  refine vp_callSi (pc := 4) (W.runV (As := []) (rest := []) ⟨hx, hb, hml, hown, hts⟩ (c_Re_stored l D cI cZ cJ a _ _ hf) (cwV 0 hts (tb_wsV tc_Re_stored tm_G_102 ti_Re_stored te_Re_stored tz_Re) rfl rfl rfl (by decide +kernel) ⟨Nat.le_of_ble_eq_true rfl, Nat.le_of_ble_eq_true rfl⟩) (r_preV (q0 := 8) (ci := 8) hK hP rfl rfl) rfl rfl hl.1 rfl (lv_room (Nat.le_of_ble_eq_true rfl)) d_G_waiting_4 ⟨Nat.zero_le _, Nat.zero_le _⟩) (fun r4 hf => ?_)
  exact rr_i (pc := 7) hx hb hr hlk hf d_G_waiting_7
def wp_G_late (S : GS) (post : Int32 → Prop) : Prop := (wp_Re_isLate S (fun r4 => (narrow .boolean (.int r4) = .int r4 ∧ (post r4))))
abbrev rm_G_late : Room := { frames := 1, cells := 0, slots := 0, locals := 20 }
set_option maxHeartbeats 4000000 in
set_option maxRecDepth 100000 in
theorem c_G_late (l : Launch) (D : va_G) (cI cZ cJ : ClassId) (a : Nat → Nat) (S : GS) (post : Int32 → Prop) (hf : wp_G_late S post) : Met l y_G_late ws_G_late rm_G_late (va_Pc [.ref (a 0)] (rPre D (tys cI cZ cJ) (gkW cI cZ cJ a S))) (vp_Si post) 0 0 (fun _ => False) := by
  refine gm_r (cc := b_G_late) (maxL := 1) (by decide) rfl (Nat.le_of_ble_eq_true rfl) ?_
  intro p e s m args below meth c ls hx hb hr hts hown hlk hml hK hP hl
  have hl : lv_has ls 1 [(0, .ref (a 0))] := hl
  have hinG : ∀ w ∈ u_ws R_G T_G 9, w ∈ ws_G_late := fun w h => List.mem_cons_of_mem _ (tl_G w h)
  have hl61 := hts _ (List.mem_cons_of_mem _ tf_G_61)
  unfold wp_G_late at hf
  refine lv_aload_n (pc := 0) hx hb d_G_late_0 rfl (lv_at hl 0 rfl) ?_
  refine gk_gt_G_reports (pc := 1) hx hb hK hts hinG hown hP hl61 d_G_late_1 ?_
  refine vp_callSi (pc := 4) (W.runV (As := []) (rest := []) ⟨hx, hb, hml, hown, hts⟩ (c_Re_isLate l D cI cZ cJ a _ _ hf) (cwV 0 hts (tb_wsV tc_Re_isLate tm_G_105 ti_Re_isLate te_Re_isLate tz_Re) rfl rfl rfl (by decide +kernel) ⟨Nat.le_of_ble_eq_true rfl, Nat.le_of_ble_eq_true rfl⟩) (r_preV (q0 := 8) (ci := 8) hK hP rfl rfl) rfl rfl hl.1 rfl (lv_room (Nat.le_of_ble_eq_true rfl)) d_G_late_4 ⟨Nat.zero_le _, Nat.zero_le _⟩) (fun r4 hf => ?_)
  exact rr_z (pc := 7) hx hb hr hlk hf.1 hf.2 d_G_late_7
def wp_G_requireLayer (p0 : Int32) (post : Unit → Prop) : Prop := ((p0 < (0 : Int32) → False) ∧ (¬ p0 < (0 : Int32) → ((p0 < (4 : Int32) → (post ())) ∧ (¬ p0 < (4 : Int32) → False))))
abbrev rm_G_requireLayer : Room := { frames := 0, cells := 0, slots := 0, locals := 0 }
set_option maxHeartbeats 4000000 in
set_option maxRecDepth 100000 in
theorem c_G_requireLayer (l : Launch) (p0 : Int32) (post : Unit → Prop) (hf : wp_G_requireLayer p0 post) : Met l y_G_requireLayer ws_G_requireLayer rm_G_requireLayer (va_Pc [.int p0] (fun _ => True)) (va_Sv post) 0 0 (fun _ => False) := by
  refine gm_p (cc := b_G_requireLayer) (maxL := 1) (by decide) rfl (Nat.le_of_ble_eq_true rfl) ?_
  intro p e s m args below meth c ls hx hb hr hts hown hlk hml hl
  have hl : lv_has ls 1 [(0, .int p0)] := hl
  unfold wp_G_requireLayer at hf
  refine lv_iload_n (pc := 0) hx hb d_G_requireLayer_0 rfl (lv_at hl 0 rfl) ?_
  refine lv_if_lt (pc := 1) (tgt := 9) hx hb d_G_requireLayer_1 (by decide) (fun hc => ?_) (fun hc => ?_)
  · replace hf := hf.1 hc
    exact False.elim hf
  replace hf := hf.2 hc
  refine lv_iload_n (pc := 4) hx hb d_G_requireLayer_4 rfl (lv_at hl 0 rfl) ?_
  refine lv_iconst (pc := 5) (v := 4) hx hb d_G_requireLayer_5 (by decide) ?_
  refine lv_icmp_lt (pc := 6) (tgt := 19) hx hb d_G_requireLayer_6 (by decide) (fun hc => ?_) (fun hc => ?_)
  · replace hf := hf.1 hc
    exact rr_v (pc := 19) hx hb hr hlk hf d_G_requireLayer_19
  replace hf := hf.2 hc
  exact False.elim hf
def wp_G_isCode (p0 : Int32) (post : Int32 → Prop) : Prop := ((p0 < (4 : Int32) → (post (0 : Int32))) ∧ (¬ p0 < (4 : Int32) → (((107 : Int32) < p0 → (post (0 : Int32))) ∧ (¬ (107 : Int32) < p0 → (post (1 : Int32))))))
abbrev rm_G_isCode : Room := { frames := 0, cells := 0, slots := 0, locals := 0 }
set_option maxHeartbeats 4000000 in
set_option maxRecDepth 100000 in
theorem c_G_isCode (l : Launch) (p0 : Int32) (post : Int32 → Prop) (hf : wp_G_isCode p0 post) : Met l y_G_isCode ws_G_isCode rm_G_isCode (va_Pc [.int p0] (fun _ => True)) (vp_Si post) 0 0 (fun _ => False) := by
  refine gm_p (cc := b_G_isCode) (maxL := 1) (by decide) rfl (Nat.le_of_ble_eq_true rfl) ?_
  intro p e s m args below meth c ls hx hb hr hts hown hlk hml hl
  have hl : lv_has ls 1 [(0, .int p0)] := hl
  unfold wp_G_isCode at hf
  refine lv_iload_n (pc := 0) hx hb d_G_isCode_0 rfl (lv_at hl 0 rfl) ?_
  refine lv_iconst (pc := 1) (v := 4) hx hb d_G_isCode_1 (by decide) ?_
  refine lv_icmp_lt (pc := 2) (tgt := 15) hx hb d_G_isCode_2 (by decide) (fun hc => ?_) (fun hc => ?_)
  · replace hf := hf.1 hc
    refine lv_iconst (pc := 15) (v := 0) hx hb d_G_isCode_15 (by decide) ?_
    exact rr_z (pc := 16) hx hb hr hlk (by decide) hf d_G_isCode_16
  replace hf := hf.2 hc
  refine lv_iload_n (pc := 5) hx hb d_G_isCode_5 rfl (lv_at hl 0 rfl) ?_
  refine lv_bipush (pc := 6) (v := 107) hx hb d_G_isCode_6 (by decide) ?_
  refine lv_icmp_gt (pc := 8) (tgt := 15) hx hb d_G_isCode_8 (by decide) (fun hc => ?_) (fun hc => ?_)
  · replace hf := hf.1 hc
    refine lv_iconst (pc := 15) (v := 0) hx hb d_G_isCode_15 (by decide) ?_
    exact rr_z (pc := 16) hx hb hr hlk (by decide) hf d_G_isCode_16
  replace hf := hf.2 hc
  refine lv_iconst (pc := 11) (v := 1) hx hb d_G_isCode_11 (by decide) ?_
  refine lv_goto (pc := 12) (tgt := 16) hx hb d_G_isCode_12 (by decide) ?_
  exact rr_z (pc := 16) hx hb hr hlk (by decide) hf d_G_isCode_16
def wp_G_isUpperLayer (p0 : Int32) (post : Int32 → Prop) : Prop := ((p0 < (1 : Int32) → (post (0 : Int32))) ∧ (¬ p0 < (1 : Int32) → (((4 : Int32) ≤ p0 → (post (0 : Int32))) ∧ (¬ (4 : Int32) ≤ p0 → (post (1 : Int32))))))
abbrev rm_G_isUpperLayer : Room := { frames := 0, cells := 0, slots := 0, locals := 0 }
set_option maxHeartbeats 4000000 in
set_option maxRecDepth 100000 in
theorem c_G_isUpperLayer (l : Launch) (p0 : Int32) (post : Int32 → Prop) (hf : wp_G_isUpperLayer p0 post) : Met l y_G_isUpperLayer ws_G_isUpperLayer rm_G_isUpperLayer (va_Pc [.int p0] (fun _ => True)) (vp_Si post) 0 0 (fun _ => False) := by
  refine gm_p (cc := b_G_isUpperLayer) (maxL := 1) (by decide) rfl (Nat.le_of_ble_eq_true rfl) ?_
  intro p e s m args below meth c ls hx hb hr hts hown hlk hml hl
  have hl : lv_has ls 1 [(0, .int p0)] := hl
  unfold wp_G_isUpperLayer at hf
  refine lv_iload_n (pc := 0) hx hb d_G_isUpperLayer_0 rfl (lv_at hl 0 rfl) ?_
  refine lv_iconst (pc := 1) (v := 1) hx hb d_G_isUpperLayer_1 (by decide) ?_
  refine lv_icmp_lt (pc := 2) (tgt := 14) hx hb d_G_isUpperLayer_2 (by decide) (fun hc => ?_) (fun hc => ?_)
  · replace hf := hf.1 hc
    refine lv_iconst (pc := 14) (v := 0) hx hb d_G_isUpperLayer_14 (by decide) ?_
    exact rr_z (pc := 15) hx hb hr hlk (by decide) hf d_G_isUpperLayer_15
  replace hf := hf.2 hc
  refine lv_iload_n (pc := 5) hx hb d_G_isUpperLayer_5 rfl (lv_at hl 0 rfl) ?_
  refine lv_iconst (pc := 6) (v := 4) hx hb d_G_isUpperLayer_6 (by decide) ?_
  refine lv_icmp_ge (pc := 7) (tgt := 14) hx hb d_G_isUpperLayer_7 (by decide) (fun hc => ?_) (fun hc => ?_)
  · replace hf := hf.1 hc
    refine lv_iconst (pc := 14) (v := 0) hx hb d_G_isUpperLayer_14 (by decide) ?_
    exact rr_z (pc := 15) hx hb hr hlk (by decide) hf d_G_isUpperLayer_15
  replace hf := hf.2 hc
  refine lv_iconst (pc := 10) (v := 1) hx hb d_G_isUpperLayer_10 (by decide) ?_
  refine lv_goto (pc := 11) (tgt := 15) hx hb d_G_isUpperLayer_11 (by decide) ?_
  exact rr_z (pc := 15) hx hb hr hlk (by decide) hf d_G_isUpperLayer_15
def J_G_isAction_51 (post : Int32 → Prop) (x0 : Int32) (x1 : Int32) (x2 : Int32) : Prop := (wp_G_isUpperLayer x1 (fun r52 => (narrow .boolean (.int r52) = .int r52 ∧ (post r52))))
def wp_G_isAction (p0 : Int32) (p1 : Int32) (p2 : Int32) (post : Int32 → Prop) : Prop := ((p0 = (0 : Int32) → (post (1 : Int32))) ∧ (¬ p0 = (0 : Int32) → ((p0 = (1 : Int32) → (wp_G_isCode p1 (fun r47 => (narrow .boolean (.int r47) = .int r47 ∧ (post r47))))) ∧ (¬ p0 = (1 : Int32) → ((p0 = (2 : Int32) → (J_G_isAction_51 post p0 p1 p2)) ∧ (¬ p0 = (2 : Int32) → ((p0 = (3 : Int32) → (J_G_isAction_51 post p0 p1 p2)) ∧ (¬ p0 = (3 : Int32) → ((p0 = (4 : Int32) → (J_G_isAction_51 post p0 p1 p2)) ∧ (¬ p0 = (4 : Int32) → ((p0 = (5 : Int32) → (wp_G_isCode p1 (fun r57 => ((r57 = (0 : Int32) → (post (0 : Int32))) ∧ (¬ r57 = (0 : Int32) → (wp_G_isUpperLayer p2 (fun r64 => ((r64 = (0 : Int32) → (post (0 : Int32))) ∧ (¬ r64 = (0 : Int32) → (post (1 : Int32))))))))))) ∧ (¬ p0 = (5 : Int32) → ((p0 = (6 : Int32) → ((p1 < (0 : Int32) → (post (0 : Int32))) ∧ (¬ p1 < (0 : Int32) → (((4 : Int32) ≤ p1 → (post (0 : Int32))) ∧ (¬ (4 : Int32) ≤ p1 → (post (1 : Int32))))))) ∧ (¬ p0 = (6 : Int32) → (post (0 : Int32))))))))))))))))
abbrev rm_G_isAction : Room := { frames := 1, cells := 0, slots := 0, locals := 20 }
set_option maxHeartbeats 4000000 in
set_option maxRecDepth 100000 in
theorem c_G_isAction (l : Launch) (p0 : Int32) (p1 : Int32) (p2 : Int32) (post : Int32 → Prop) (hf : wp_G_isAction p0 p1 p2 post) : Met l y_G_isAction ws_G_isAction rm_G_isAction (va_Pc [.int p0, .int p1, .int p2] (fun _ => True)) (vp_Si post) 0 0 (fun _ => False) := by
  refine gm_p (cc := b_G_isAction) (maxL := 3) (by decide) rfl (Nat.le_of_ble_eq_true rfl) ?_
  intro p e s m args below meth c ls hx hb hr hts hown hlk hml hl
  have hl : lv_has ls 3 [(0, .int p0), (1, .int p1), (2, .int p2)] := hl
  have jn51 : ∀ (x0 : Int32) (x1 : Int32) (x2 : Int32) (ls : Array Slot), lv_has ls 3 [(0, .int x0), (1, .int x1), (2, .int x2)] → J_G_isAction_51 post x0 x1 x2 → W p l e rm_G_isAction s m args below meth c s.heap [] 0 0 (MQ below (vp_Si post) args s 0 0 (fun _ => False)) (F0 m 51 ls []) := by
    intro x0 x1 x2 ls hl hf
    unfold J_G_isAction_51 at hf
    refine lv_iload_n (pc := 51) hx hb d_G_isAction_51 rfl (lv_at hl 1 rfl) ?_
    refine vp_callSi (pc := 52) (W.runS (As := [.int x1]) (rest := []) ⟨hx, hb, hml, hown, hts⟩ (c_G_isUpperLayer l _ _ hf) (cwS 1 hts (tb_wsS tc_G_isUpperLayer tm_G_182 ts_G_isUpperLayer tz_G) rfl rfl rfl (by decide +kernel) ⟨Nat.le_of_ble_eq_true rfl, Nat.le_of_ble_eq_true rfl⟩) p_preS rfl rfl hl.1 rfl (lv_room (Nat.le_of_ble_eq_true rfl)) d_G_isAction_52 ⟨Nat.zero_le _, Nat.zero_le _⟩) (fun r52 hf => ?_)
    exact rr_z (pc := 55) hx hb hr hlk hf.1 hf.2 d_G_isAction_55
  unfold wp_G_isAction at hf
  refine lv_iload_n (pc := 0) hx hb d_G_isAction_0 rfl (lv_at hl 0 rfl) ?_
  by_cases hs0 : p0 = (0 : Int32)
  · replace hf := hf.1 hs0
    refine lv_tableIn (pc := 1) (off := 43) (tgt := 44) hx hb d_G_isAction_1 (by rw [hs0]; decide) (by rw [hs0]; decide) (by rw [hs0]; decide) (by decide) ?_
    refine lv_iconst (pc := 44) (v := 1) hx hb d_G_isAction_44 (by decide) ?_
    exact rr_z (pc := 45) hx hb hr hlk (by decide) hf d_G_isAction_45
  replace hf := hf.2 hs0
  by_cases hs1 : p0 = (1 : Int32)
  · replace hf := hf.1 hs1
    refine lv_tableIn (pc := 1) (off := 45) (tgt := 46) hx hb d_G_isAction_1 (by rw [hs1]; decide) (by rw [hs1]; decide) (by rw [hs1]; decide) (by decide) ?_
    refine lv_iload_n (pc := 46) hx hb d_G_isAction_46 rfl (lv_at hl 1 rfl) ?_
    refine vp_callSi (pc := 47) (W.runS (As := [.int p1]) (rest := []) ⟨hx, hb, hml, hown, hts⟩ (c_G_isCode l _ _ hf) (cwS 1 hts (tb_wsS tc_G_isCode tm_G_126 ts_G_isCode tz_G) rfl rfl rfl (by decide +kernel) ⟨Nat.le_of_ble_eq_true rfl, Nat.le_of_ble_eq_true rfl⟩) p_preS rfl rfl hl.1 rfl (lv_room (Nat.le_of_ble_eq_true rfl)) d_G_isAction_47 ⟨Nat.zero_le _, Nat.zero_le _⟩) (fun r47 hf => ?_)
    exact rr_z (pc := 50) hx hb hr hlk hf.1 hf.2 d_G_isAction_50
  replace hf := hf.2 hs1
  by_cases hs2 : p0 = (2 : Int32)
  · replace hf := hf.1 hs2
    refine lv_tableIn (pc := 1) (off := 50) (tgt := 51) hx hb d_G_isAction_1 (by rw [hs2]; decide) (by rw [hs2]; decide) (by rw [hs2]; decide) (by decide) ?_
    exact jn51 p0 p1 p2 _ (lv_sub hl [0, 1, 2] rfl) hf
  replace hf := hf.2 hs2
  by_cases hs3 : p0 = (3 : Int32)
  · replace hf := hf.1 hs3
    refine lv_tableIn (pc := 1) (off := 50) (tgt := 51) hx hb d_G_isAction_1 (by rw [hs3]; decide) (by rw [hs3]; decide) (by rw [hs3]; decide) (by decide) ?_
    exact jn51 p0 p1 p2 _ (lv_sub hl [0, 1, 2] rfl) hf
  replace hf := hf.2 hs3
  by_cases hs4 : p0 = (4 : Int32)
  · replace hf := hf.1 hs4
    refine lv_tableIn (pc := 1) (off := 50) (tgt := 51) hx hb d_G_isAction_1 (by rw [hs4]; decide) (by rw [hs4]; decide) (by rw [hs4]; decide) (by decide) ?_
    exact jn51 p0 p1 p2 _ (lv_sub hl [0, 1, 2] rfl) hf
  replace hf := hf.2 hs4
  by_cases hs5 : p0 = (5 : Int32)
  · replace hf := hf.1 hs5
    refine lv_tableIn (pc := 1) (off := 55) (tgt := 56) hx hb d_G_isAction_1 (by rw [hs5]; decide) (by rw [hs5]; decide) (by rw [hs5]; decide) (by decide) ?_
    refine lv_iload_n (pc := 56) hx hb d_G_isAction_56 rfl (lv_at hl 1 rfl) ?_
    refine vp_callSi (pc := 57) (W.runS (As := [.int p1]) (rest := []) ⟨hx, hb, hml, hown, hts⟩ (c_G_isCode l _ _ hf) (cwS 1 hts (tb_wsS tc_G_isCode tm_G_126 ts_G_isCode tz_G) rfl rfl rfl (by decide +kernel) ⟨Nat.le_of_ble_eq_true rfl, Nat.le_of_ble_eq_true rfl⟩) p_preS rfl rfl hl.1 rfl (lv_room (Nat.le_of_ble_eq_true rfl)) d_G_isAction_57 ⟨Nat.zero_le _, Nat.zero_le _⟩) (fun r57 hf => ?_)
    refine lv_if_eq (pc := 60) (tgt := 74) hx hb d_G_isAction_60 (by decide) (fun hc => ?_) (fun hc => ?_)
    · replace hf := hf.1 hc
      refine lv_iconst (pc := 74) (v := 0) hx hb d_G_isAction_74 (by decide) ?_
      exact rr_z (pc := 75) hx hb hr hlk (by decide) hf d_G_isAction_75
    replace hf := hf.2 hc
    refine lv_iload_n (pc := 63) hx hb d_G_isAction_63 rfl (lv_at hl 2 rfl) ?_
    refine vp_callSi (pc := 64) (W.runS (As := [.int p2]) (rest := []) ⟨hx, hb, hml, hown, hts⟩ (c_G_isUpperLayer l _ _ hf) (cwS 1 hts (tb_wsS tc_G_isUpperLayer tm_G_182 ts_G_isUpperLayer tz_G) rfl rfl rfl (by decide +kernel) ⟨Nat.le_of_ble_eq_true rfl, Nat.le_of_ble_eq_true rfl⟩) p_preS rfl rfl hl.1 rfl (lv_room (Nat.le_of_ble_eq_true rfl)) d_G_isAction_64 ⟨Nat.zero_le _, Nat.zero_le _⟩) (fun r64 hf => ?_)
    refine lv_if_eq (pc := 67) (tgt := 74) hx hb d_G_isAction_67 (by decide) (fun hc => ?_) (fun hc => ?_)
    · replace hf := hf.1 hc
      refine lv_iconst (pc := 74) (v := 0) hx hb d_G_isAction_74 (by decide) ?_
      exact rr_z (pc := 75) hx hb hr hlk (by decide) hf d_G_isAction_75
    replace hf := hf.2 hc
    refine lv_iconst (pc := 70) (v := 1) hx hb d_G_isAction_70 (by decide) ?_
    refine lv_goto (pc := 71) (tgt := 75) hx hb d_G_isAction_71 (by decide) ?_
    exact rr_z (pc := 75) hx hb hr hlk (by decide) hf d_G_isAction_75
  replace hf := hf.2 hs5
  by_cases hs6 : p0 = (6 : Int32)
  · replace hf := hf.1 hs6
    refine lv_tableIn (pc := 1) (off := 75) (tgt := 76) hx hb d_G_isAction_1 (by rw [hs6]; decide) (by rw [hs6]; decide) (by rw [hs6]; decide) (by decide) ?_
    refine lv_iload_n (pc := 76) hx hb d_G_isAction_76 rfl (lv_at hl 1 rfl) ?_
    refine lv_if_lt (pc := 77) (tgt := 89) hx hb d_G_isAction_77 (by decide) (fun hc => ?_) (fun hc => ?_)
    · replace hf := hf.1 hc
      refine lv_iconst (pc := 89) (v := 0) hx hb d_G_isAction_89 (by decide) ?_
      exact rr_z (pc := 90) hx hb hr hlk (by decide) hf d_G_isAction_90
    replace hf := hf.2 hc
    refine lv_iload_n (pc := 80) hx hb d_G_isAction_80 rfl (lv_at hl 1 rfl) ?_
    refine lv_iconst (pc := 81) (v := 4) hx hb d_G_isAction_81 (by decide) ?_
    refine lv_icmp_ge (pc := 82) (tgt := 89) hx hb d_G_isAction_82 (by decide) (fun hc => ?_) (fun hc => ?_)
    · replace hf := hf.1 hc
      refine lv_iconst (pc := 89) (v := 0) hx hb d_G_isAction_89 (by decide) ?_
      exact rr_z (pc := 90) hx hb hr hlk (by decide) hf d_G_isAction_90
    replace hf := hf.2 hc
    refine lv_iconst (pc := 85) (v := 1) hx hb d_G_isAction_85 (by decide) ?_
    refine lv_goto (pc := 86) (tgt := 90) hx hb d_G_isAction_86 (by decide) ?_
    exact rr_z (pc := 90) hx hb hr hlk (by decide) hf d_G_isAction_90
  replace hf := hf.2 hs6
  have ehs0 := lv_neT hs0 (a := 0) (by decide)
  have ehs1 := lv_neT hs1 (a := 1) (by decide)
  have ehs2 := lv_neT hs2 (a := 2) (by decide)
  have ehs3 := lv_neT hs3 (a := 3) (by decide)
  have ehs4 := lv_neT hs4 (a := 4) (by decide)
  have ehs5 := lv_neT hs5 (a := 5) (by decide)
  have ehs6 := lv_neT hs6 (a := 6) (by decide)
  refine lv_tableOut (pc := 1) (tgt := 91) hx hb d_G_isAction_1 (by omega) (by decide) ?_
  refine lv_iconst (pc := 91) (v := 0) hx hb d_G_isAction_91 (by decide) ?_
  exact rr_z (pc := 92) hx hb hr hlk (by decide) hf d_G_isAction_92
def wp_G_map (S : GS) (p0 : Int32) (p1 : Int32) (p2 : Int32) (p3 : Int32) (p4 : Int32) (post : GS → Prop) : Prop := (wp_G_requireLayer p0 (fun _ => (wp_G_requireKey p1 (fun _ => (wp_G_isAction p2 p3 p4 (fun r13 => ((r13 = (0 : Int32) → False) ∧ (¬ r13 = (0 : Int32) → (wp_Km_setAction S p0 p1 p2 p3 p4 (fun S40 => (post S40)))))))))))
abbrev rm_G_map : Room := { frames := 2, cells := 0, slots := 0, locals := 42 }
set_option maxHeartbeats 4000000 in
set_option maxRecDepth 100000 in
theorem c_G_map (l : Launch) (D : va_G) (cI cZ cJ : ClassId) (a : Nat → Nat) (sz : Nat) (S : GS) (p0 : Int32) (p1 : Int32) (p2 : Int32) (p3 : Int32) (p4 : Int32) (post : GS → Prop) (hf : wp_G_map S p0 p1 p2 p3 p4 post) : Met l y_G_map ws_G_map rm_G_map (va_Pc [.ref (a 0), .int p0, .int p1, .int p2, .int p3, .int p4] (gPre D (tys cI cZ cJ) (gkW cI cZ cJ a S) sz)) (va_Qv post (gB D (tys cI cZ cJ) (gkW cI cZ cJ a) (va_A (gkW cI cZ cJ a S) sz)) (va_A (gkW cI cZ cJ a S) sz)) 0 0 (va_A (gkW cI cZ cJ a S) sz) := by
  refine gm_w (QF := fun A => va_Qv post (gB D (tys cI cZ cJ) (gkW cI cZ cJ a) A) A) (cc := b_G_map) (maxL := 6) (by decide) rfl (Nat.le_of_ble_eq_true rfl) ?_
  intro p e s m args below meth c A ls hx hb hr hts hown hmn hlk hml hK hA hw hl
  have hl : lv_has ls 6 [(0, .ref (a 0)), (1, .int p0), (2, .int p1), (3, .int p2), (4, .int p3), (5, .int p4)] := hl
  have hinG : ∀ w ∈ u_ws R_G T_G 9, w ∈ ws_G_map := fun w h => List.mem_cons_of_mem _ (tl_G w h)
  have hl33 := hts _ (List.mem_cons_of_mem _ tf_G_33)
  unfold wp_G_map at hf
  refine lv_iload_n (pc := 0) hx hb d_G_map_0 rfl (lv_at hl 1 rfl) ?_
  refine va_csv (pc := 1) (W.runS (As := [.int p0]) (rest := []) ⟨hx, hb, hml, hown, hts⟩ (c_G_requireLayer l _ _ hf) (cwS 1 hts (tb_wsS tc_G_requireLayer tm_G_108 ts_G_requireLayer tz_G) rfl rfl rfl (by decide +kernel) ⟨Nat.le_of_ble_eq_true rfl, Nat.le_of_ble_eq_true rfl⟩) p_preS rfl rfl hl.1 rfl (lv_room (Nat.le_of_ble_eq_true rfl)) d_G_map_1 ⟨Nat.zero_le _, Nat.zero_le _⟩) (fun hf => ?_)
  refine lv_iload_n (pc := 4) hx hb d_G_map_4 rfl (lv_at hl 2 rfl) ?_
  refine va_csv (pc := 5) (W.runS (As := [.int p1]) (rest := []) ⟨hx, hb, hml, hown, hts⟩ (c_G_requireKey l _ _ hf) (cwS 1 hts (tb_wsS tc_G_requireKey tm_G_69 ts_G_requireKey tz_G) rfl rfl rfl (by decide +kernel) ⟨Nat.le_of_ble_eq_true rfl, Nat.le_of_ble_eq_true rfl⟩) p_preS rfl rfl hl.1 rfl (lv_room (Nat.le_of_ble_eq_true rfl)) d_G_map_5 ⟨Nat.zero_le _, Nat.zero_le _⟩) (fun hf => ?_)
  refine lv_iload_n (pc := 8) hx hb d_G_map_8 rfl (lv_at hl 3 rfl) ?_
  refine lv_iload (pc := 9) hx hb d_G_map_9 (lv_at hl 4 rfl) ?_
  refine lv_iload (pc := 11) hx hb d_G_map_11 (lv_at hl 5 rfl) ?_
  refine vp_callSi (pc := 13) (W.runS (As := [.int p2, .int p3, .int p4]) (rest := []) ⟨hx, hb, hml, hown, hts⟩ (c_G_isAction l _ _ _ _ hf) (cwS 3 hts (tb_wsS tc_G_isAction tm_G_111 ts_G_isAction tz_G) rfl rfl rfl (by decide +kernel) ⟨Nat.le_of_ble_eq_true rfl, Nat.le_of_ble_eq_true rfl⟩) p_preS rfl rfl hl.1 rfl (lv_room (Nat.le_of_ble_eq_true rfl)) d_G_map_13 ⟨Nat.zero_le _, Nat.zero_le _⟩) (fun r13 hf => ?_)
  refine lv_if_ne (pc := 16) (tgt := 29) hx hb d_G_map_16 (by decide) (fun hc => ?_) (fun hc => ?_)
  · replace hf := hf.2 hc
    refine lv_aload_n (pc := 29) hx hb d_G_map_29 rfl (lv_at hl 0 rfl) ?_
    refine gk_gt_G_keymap (pc := 30) hx hb hK hts hinG hown hw.1 hl33 d_G_map_30 ?_
    refine lv_iload_n (pc := 33) hx hb d_G_map_33 rfl (lv_at hl 1 rfl) ?_
    refine lv_iload_n (pc := 34) hx hb d_G_map_34 rfl (lv_at hl 2 rfl) ?_
    refine lv_iload_n (pc := 35) hx hb d_G_map_35 rfl (lv_at hl 3 rfl) ?_
    refine lv_iload (pc := 36) hx hb d_G_map_36 (lv_at hl 4 rfl) ?_
    refine lv_iload (pc := 38) hx hb d_G_map_38 (lv_at hl 5 rfl) ?_
    refine gc_v (pc := 40) (Wf := gkW cI cZ cJ a) hw hA (va_runV (As := [.int p0, .int p1, .int p2, .int p3, .int p4]) (rest := []) ⟨hx, hb, hml, hown, hts⟩ (c_Km_setAction l D cI cZ cJ a _ _ _ _ _ _ _ _ hf) (cwV 5 hts (tb_wsV tc_Km_setAction tm_G_117 ti_Km_setAction te_Km_setAction tz_Km) rfl rfl rfl (by decide +kernel) ⟨Nat.le_of_ble_eq_true rfl, Nat.le_of_ble_eq_true rfl⟩) (g_preV (q0 := 4) (ci := 4) hK hw rfl rfl) rfl rfl hl.1 rfl (lv_room (Nat.le_of_ble_eq_true rfl)) d_G_map_40 ⟨Nat.zero_le _, Nat.zero_le _⟩) (fun S40 H locs hw hf => ?_)
    exact gr_v (pc := 43) hx hb hr hlk hK S40 hw hf d_G_map_43
  replace hf := hf.1 hc
  exact False.elim hf
def J_G_macro_49 (post : GS → Prop) (x1 : Int32) (x2 : Int32) (x3 : Int32) (S : GS) : Prop := (wp_Km_setMacroCode S x1 x2 x3 (fun S56 => (post S56)))
def wp_G_macro (S : GS) (p0 : Int32) (p1 : Int32) (p2 : Int32) (post : GS → Prop) : Prop := ((p0 < (0 : Int32) → False) ∧ (¬ p0 < (0 : Int32) → (((4 : Int32) ≤ p0 → False) ∧ (¬ (4 : Int32) ≤ p0 → ((p1 < (0 : Int32) → False) ∧ (¬ p1 < (0 : Int32) → ((p1 < (4 : Int32) → ((p2 = (0 : Int32) → (J_G_macro_49 post p0 p1 p2 S)) ∧ (¬ p2 = (0 : Int32) → (wp_G_isCode p2 (fun r33 => ((r33 = (0 : Int32) → False) ∧ (¬ r33 = (0 : Int32) → (J_G_macro_49 post p0 p1 p2 S)))))))) ∧ (¬ p1 < (4 : Int32) → False))))))))
abbrev rm_G_macro : Room := { frames := 1, cells := 0, slots := 0, locals := 23 }
set_option maxHeartbeats 4000000 in
set_option maxRecDepth 100000 in
theorem c_G_macro (l : Launch) (D : va_G) (cI cZ cJ : ClassId) (a : Nat → Nat) (sz : Nat) (S : GS) (p0 : Int32) (p1 : Int32) (p2 : Int32) (post : GS → Prop) (hf : wp_G_macro S p0 p1 p2 post) : Met l y_G_macro ws_G_macro rm_G_macro (va_Pc [.ref (a 0), .int p0, .int p1, .int p2] (gPre D (tys cI cZ cJ) (gkW cI cZ cJ a S) sz)) (va_Qv post (gB D (tys cI cZ cJ) (gkW cI cZ cJ a) (va_A (gkW cI cZ cJ a S) sz)) (va_A (gkW cI cZ cJ a S) sz)) 0 0 (va_A (gkW cI cZ cJ a S) sz) := by
  refine gm_w (QF := fun A => va_Qv post (gB D (tys cI cZ cJ) (gkW cI cZ cJ a) A) A) (cc := b_G_macro) (maxL := 4) (by decide) rfl (Nat.le_of_ble_eq_true rfl) ?_
  intro p e s m args below meth c A ls hx hb hr hts hown hmn hlk hml hK hA hw hl
  have hl : lv_has ls 4 [(0, .ref (a 0)), (1, .int p0), (2, .int p1), (3, .int p2)] := hl
  have hinG : ∀ w ∈ u_ws R_G T_G 9, w ∈ ws_G_macro := fun w h => List.mem_cons_of_mem _ (tl_G w h)
  have hl33 := hts _ (List.mem_cons_of_mem _ tf_G_33)
  have jn49 : ∀ (x1 : Int32) (x2 : Int32) (x3 : Int32) (S : GS) (H : Heap) (locs : List Loc) (ls : Array Slot), lv_has ls 4 [(0, .ref (a 0)), (1, .int x1), (2, .int x2), (3, .int x3)] → wf D A s.heap (gkW cI cZ cJ a S) H locs → J_G_macro_49 post x1 x2 x3 S → W p l e rm_G_macro s m args below meth c H locs 0 0 (MQ below (va_Qv post (gB D (tys cI cZ cJ) (gkW cI cZ cJ a) A) A) args s 0 0 A) (F0 m 49 ls []) := by
    intro x1 x2 x3 S H locs ls hl hw hf
    unfold J_G_macro_49 at hf
    refine lv_aload_n (pc := 49) hx hb d_G_macro_49 rfl (lv_at hl 0 rfl) ?_
    refine gk_gt_G_keymap (pc := 50) hx hb hK hts hinG hown hw.1 hl33 d_G_macro_50 ?_
    refine lv_iload_n (pc := 53) hx hb d_G_macro_53 rfl (lv_at hl 1 rfl) ?_
    refine lv_iload_n (pc := 54) hx hb d_G_macro_54 rfl (lv_at hl 2 rfl) ?_
    refine lv_iload_n (pc := 55) hx hb d_G_macro_55 rfl (lv_at hl 3 rfl) ?_
    refine gc_v (pc := 56) (Wf := gkW cI cZ cJ a) hw hA (va_runV (As := [.int x1, .int x2, .int x3]) (rest := []) ⟨hx, hb, hml, hown, hts⟩ (c_Km_setMacroCode l D cI cZ cJ a _ _ _ _ _ _ hf) (cwV 3 hts (tb_wsV tc_Km_setMacroCode tm_G_132 ti_Km_setMacroCode te_Km_setMacroCode tz_Km) rfl rfl rfl (by decide +kernel) ⟨Nat.le_of_ble_eq_true rfl, Nat.le_of_ble_eq_true rfl⟩) (g_preV (q0 := 4) (ci := 4) hK hw rfl rfl) rfl rfl hl.1 rfl (lv_room (Nat.le_of_ble_eq_true rfl)) d_G_macro_56 ⟨Nat.zero_le _, Nat.zero_le _⟩) (fun S56 H locs hw hf => ?_)
    exact gr_v (pc := 59) hx hb hr hlk hK S56 hw hf d_G_macro_59
  unfold wp_G_macro at hf
  refine lv_iload_n (pc := 0) hx hb d_G_macro_0 rfl (lv_at hl 1 rfl) ?_
  refine lv_if_lt (pc := 1) (tgt := 18) hx hb d_G_macro_1 (by decide) (fun hc => ?_) (fun hc => ?_)
  · replace hf := hf.1 hc
    exact False.elim hf
  replace hf := hf.2 hc
  refine lv_iload_n (pc := 4) hx hb d_G_macro_4 rfl (lv_at hl 1 rfl) ?_
  refine lv_iconst (pc := 5) (v := 4) hx hb d_G_macro_5 (by decide) ?_
  refine lv_icmp_ge (pc := 6) (tgt := 18) hx hb d_G_macro_6 (by decide) (fun hc => ?_) (fun hc => ?_)
  · replace hf := hf.1 hc
    exact False.elim hf
  replace hf := hf.2 hc
  refine lv_iload_n (pc := 9) hx hb d_G_macro_9 rfl (lv_at hl 2 rfl) ?_
  refine lv_if_lt (pc := 10) (tgt := 18) hx hb d_G_macro_10 (by decide) (fun hc => ?_) (fun hc => ?_)
  · replace hf := hf.1 hc
    exact False.elim hf
  replace hf := hf.2 hc
  refine lv_iload_n (pc := 13) hx hb d_G_macro_13 rfl (lv_at hl 2 rfl) ?_
  refine lv_iconst (pc := 14) (v := 4) hx hb d_G_macro_14 (by decide) ?_
  refine lv_icmp_lt (pc := 15) (tgt := 28) hx hb d_G_macro_15 (by decide) (fun hc => ?_) (fun hc => ?_)
  · replace hf := hf.1 hc
    refine lv_iload_n (pc := 28) hx hb d_G_macro_28 rfl (lv_at hl 3 rfl) ?_
    refine lv_if_eq (pc := 29) (tgt := 49) hx hb d_G_macro_29 (by decide) (fun hc => ?_) (fun hc => ?_)
    · replace hf := hf.1 hc
      exact jn49 p0 p1 p2 S _ _ _ (lv_sub hl [0, 1, 2, 3] rfl) hw hf
    replace hf := hf.2 hc
    refine lv_iload_n (pc := 32) hx hb d_G_macro_32 rfl (lv_at hl 3 rfl) ?_
    refine vp_callSi (pc := 33) (W.runS (As := [.int p2]) (rest := []) ⟨hx, hb, hml, hown, hts⟩ (c_G_isCode l _ _ hf) (cwS 1 hts (tb_wsS tc_G_isCode tm_G_126 ts_G_isCode tz_G) rfl rfl rfl (by decide +kernel) ⟨Nat.le_of_ble_eq_true rfl, Nat.le_of_ble_eq_true rfl⟩) p_preS rfl rfl hl.1 rfl (lv_room (Nat.le_of_ble_eq_true rfl)) d_G_macro_33 ⟨Nat.zero_le _, Nat.zero_le _⟩) (fun r33 hf => ?_)
    refine lv_if_ne (pc := 36) (tgt := 49) hx hb d_G_macro_36 (by decide) (fun hc => ?_) (fun hc => ?_)
    · replace hf := hf.2 hc
      exact jn49 p0 p1 p2 S _ _ _ (lv_sub hl [0, 1, 2, 3] rfl) hw hf
    replace hf := hf.1 hc
    exact False.elim hf
  replace hf := hf.2 hc
  exact False.elim hf
def wp_G_isChord (p0 : Int32) (post : Int32 → Prop) : Prop := (wp_Ji_bitCount p0 (fun r1 => (((p0.toUInt32 >>> ((24 : Int32).toUInt32 &&& Int32.toUInt32 31)).toInt32 = (0 : Int32) → ((r1 < (2 : Int32) → (post (0 : Int32))) ∧ (¬ r1 < (2 : Int32) → (((4 : Int32) < r1 → (post (0 : Int32))) ∧ (¬ (4 : Int32) < r1 → (post (1 : Int32))))))) ∧ (¬ (p0.toUInt32 >>> ((24 : Int32).toUInt32 &&& Int32.toUInt32 31)).toInt32 = (0 : Int32) → (post (0 : Int32))))))
abbrev rm_G_isChord : Room := { frames := 1, cells := 0, slots := 0, locals := 20 }
set_option maxHeartbeats 4000000 in
set_option maxRecDepth 100000 in
theorem c_G_isChord (l : Launch) (p0 : Int32) (post : Int32 → Prop) (hf : wp_G_isChord p0 post) : Met l y_G_isChord ws_G_isChord rm_G_isChord (va_Pc [.int p0] (fun _ => True)) (vp_Si post) 0 0 (fun _ => False) := by
  refine gm_p (cc := b_G_isChord) (maxL := 2) (by decide) rfl (Nat.le_of_ble_eq_true rfl) ?_
  intro p e s m args below meth c ls hx hb hr hts hown hlk hml hl
  have hl : lv_has ls 2 [(0, .int p0)] := hl
  unfold wp_G_isChord at hf
  refine lv_iload_n (pc := 0) hx hb d_G_isChord_0 rfl (lv_at hl 0 rfl) ?_
  refine vp_callSi (pc := 1) (W.runS (As := [.int p0]) (rest := []) ⟨hx, hb, hml, hown, hts⟩ (c_Ji_bitCount l _ _ hf) (va_cwS 1 hts (tb_vaS tc_Ji_bitCount tm_G_177 ts_Ji_bitCount tz_Ji) rfl rfl rfl (by decide +kernel) ⟨Nat.le_of_ble_eq_true rfl, Nat.le_of_ble_eq_true rfl⟩) p_preS rfl rfl hl.1 rfl (lv_room (Nat.le_of_ble_eq_true rfl)) d_G_isChord_1 ⟨Nat.zero_le _, Nat.zero_le _⟩) (fun r1 hf => ?_)
  refine lv_istore_n (pc := 4) (lv' := [(1, .int r1), (0, .int p0)]) hx hb d_G_isChord_4 rfl hl (by decide) rfl (fun ls hl => ?_)
  refine lv_iload_n (pc := 5) hx hb d_G_isChord_5 rfl (lv_at hl 1 rfl) ?_
  refine lv_bipush (pc := 6) (v := 24) hx hb d_G_isChord_6 (by decide) ?_
  refine lv_iushr (pc := 8) hx hb d_G_isChord_8 rfl ?_
  refine lv_if_ne (pc := 9) (tgt := 26) hx hb d_G_isChord_9 (by decide) (fun hc => ?_) (fun hc => ?_)
  · replace hf := hf.2 hc
    refine lv_iconst (pc := 26) (v := 0) hx hb d_G_isChord_26 (by decide) ?_
    exact rr_z (pc := 27) hx hb hr hlk (by decide) hf d_G_isChord_27
  replace hf := hf.1 hc
  refine lv_iload_n (pc := 12) hx hb d_G_isChord_12 rfl (lv_at hl 0 rfl) ?_
  refine lv_iconst (pc := 13) (v := 2) hx hb d_G_isChord_13 (by decide) ?_
  refine lv_icmp_lt (pc := 14) (tgt := 26) hx hb d_G_isChord_14 (by decide) (fun hc => ?_) (fun hc => ?_)
  · replace hf := hf.1 hc
    refine lv_iconst (pc := 26) (v := 0) hx hb d_G_isChord_26 (by decide) ?_
    exact rr_z (pc := 27) hx hb hr hlk (by decide) hf d_G_isChord_27
  replace hf := hf.2 hc
  refine lv_iload_n (pc := 17) hx hb d_G_isChord_17 rfl (lv_at hl 0 rfl) ?_
  refine lv_iconst (pc := 18) (v := 4) hx hb d_G_isChord_18 (by decide) ?_
  refine lv_icmp_gt (pc := 19) (tgt := 26) hx hb d_G_isChord_19 (by decide) (fun hc => ?_) (fun hc => ?_)
  · replace hf := hf.1 hc
    refine lv_iconst (pc := 26) (v := 0) hx hb d_G_isChord_26 (by decide) ?_
    exact rr_z (pc := 27) hx hb hr hlk (by decide) hf d_G_isChord_27
  replace hf := hf.2 hc
  refine lv_iconst (pc := 22) (v := 1) hx hb d_G_isChord_22 (by decide) ?_
  refine lv_goto (pc := 23) (tgt := 27) hx hb d_G_isChord_23 (by decide) ?_
  exact rr_z (pc := 27) hx hb hr hlk (by decide) hf d_G_isChord_27
def J_G_chord_73 (post : GS → Prop) (x1 : Int32) (x2 : Int32) (x3 : Int32) (S : GS) : Prop := (wp_Ch_setChord S x1 x2 x3 (fun S80 => (post S80)))
def J_G_chord_47 (post : GS → Prop) (x1 : Int32) (x2 : Int32) (x3 : Int32) (S : GS) : Prop := ((x2 = (0 : Int32) → (J_G_chord_73 post x1 x2 x3 S)) ∧ (¬ x2 = (0 : Int32) → (wp_Ch_hasElsewhere S x1 x2 (fun r57 => ((r57 = (0 : Int32) → (J_G_chord_73 post x1 x2 x3 S)) ∧ (¬ r57 = (0 : Int32) → False))))))
def wp_G_chord (S : GS) (p0 : Int32) (p1 : Int32) (p2 : Int32) (post : GS → Prop) : Prop := ((p0 < (0 : Int32) → False) ∧ (¬ p0 < (0 : Int32) → ((p0 < (4 : Int32) → ((p1 = (0 : Int32) → (J_G_chord_47 post p0 p1 p2 S)) ∧ (¬ p1 = (0 : Int32) → (wp_G_isChord p1 (fun r24 => ((r24 = (0 : Int32) → False) ∧ (¬ r24 = (0 : Int32) → (wp_G_isCode p2 (fun r31 => ((r31 = (0 : Int32) → False) ∧ (¬ r31 = (0 : Int32) → (J_G_chord_47 post p0 p1 p2 S)))))))))))) ∧ (¬ p0 < (4 : Int32) → False))))
abbrev rm_G_chord : Room := { frames := 2, cells := 0, slots := 0, locals := 41 }
set_option maxHeartbeats 4000000 in
set_option maxRecDepth 100000 in
theorem c_G_chord (l : Launch) (D : va_G) (cI cZ cJ : ClassId) (a : Nat → Nat) (sz : Nat) (S : GS) (p0 : Int32) (p1 : Int32) (p2 : Int32) (post : GS → Prop) (hf : wp_G_chord S p0 p1 p2 post) : Met l y_G_chord ws_G_chord rm_G_chord (va_Pc [.ref (a 0), .int p0, .int p1, .int p2] (gPre D (tys cI cZ cJ) (gkW cI cZ cJ a S) sz)) (va_Qv post (gB D (tys cI cZ cJ) (gkW cI cZ cJ a) (va_A (gkW cI cZ cJ a S) sz)) (va_A (gkW cI cZ cJ a S) sz)) 0 0 (va_A (gkW cI cZ cJ a S) sz) := by
  refine gm_w (QF := fun A => va_Qv post (gB D (tys cI cZ cJ) (gkW cI cZ cJ a) A) A) (cc := b_G_chord) (maxL := 4) (by decide) rfl (Nat.le_of_ble_eq_true rfl) ?_
  intro p e s m args below meth c A ls hx hb hr hts hown hmn hlk hml hK hA hw hl
  have hl : lv_has ls 4 [(0, .ref (a 0)), (1, .int p0), (2, .int p1), (3, .int p2)] := hl
  have hinG : ∀ w ∈ u_ws R_G T_G 9, w ∈ ws_G_chord := fun w h => List.mem_cons_of_mem _ (tl_G w h)
  have hl40 := hts _ (List.mem_cons_of_mem _ tf_G_40)
  have jn73 : ∀ (x1 : Int32) (x2 : Int32) (x3 : Int32) (S : GS) (H : Heap) (locs : List Loc) (ls : Array Slot), lv_has ls 4 [(0, .ref (a 0)), (1, .int x1), (2, .int x2), (3, .int x3)] → wf D A s.heap (gkW cI cZ cJ a S) H locs → J_G_chord_73 post x1 x2 x3 S → W p l e rm_G_chord s m args below meth c H locs 0 0 (MQ below (va_Qv post (gB D (tys cI cZ cJ) (gkW cI cZ cJ a) A) A) args s 0 0 A) (F0 m 73 ls []) := by
    intro x1 x2 x3 S H locs ls hl hw hf
    unfold J_G_chord_73 at hf
    refine lv_aload_n (pc := 73) hx hb d_G_chord_73 rfl (lv_at hl 0 rfl) ?_
    refine gk_gt_G_chords (pc := 74) hx hb hK hts hinG hown hw.1 hl40 d_G_chord_74 ?_
    refine lv_iload_n (pc := 77) hx hb d_G_chord_77 rfl (lv_at hl 1 rfl) ?_
    refine lv_iload_n (pc := 78) hx hb d_G_chord_78 rfl (lv_at hl 2 rfl) ?_
    refine lv_iload_n (pc := 79) hx hb d_G_chord_79 rfl (lv_at hl 3 rfl) ?_
    refine gc_v (pc := 80) (Wf := gkW cI cZ cJ a) hw hA (va_runV (As := [.int x1, .int x2, .int x3]) (rest := []) ⟨hx, hb, hml, hown, hts⟩ (c_Ch_setChord l D cI cZ cJ a _ _ _ _ _ _ hf) (cwV 3 hts (tb_wsV tc_Ch_setChord tm_G_152 ti_Ch_setChord te_Ch_setChord tz_Ch) rfl rfl rfl (by decide +kernel) ⟨Nat.le_of_ble_eq_true rfl, Nat.le_of_ble_eq_true rfl⟩) (g_preV (q0 := 5) (ci := 5) hK hw rfl rfl) rfl rfl hl.1 rfl (lv_room (Nat.le_of_ble_eq_true rfl)) d_G_chord_80 ⟨Nat.zero_le _, Nat.zero_le _⟩) (fun S80 H locs hw hf => ?_)
    exact gr_v (pc := 83) hx hb hr hlk hK S80 hw hf d_G_chord_83
  have jn47 : ∀ (x1 : Int32) (x2 : Int32) (x3 : Int32) (S : GS) (H : Heap) (locs : List Loc) (ls : Array Slot), lv_has ls 4 [(0, .ref (a 0)), (1, .int x1), (2, .int x2), (3, .int x3)] → wf D A s.heap (gkW cI cZ cJ a S) H locs → J_G_chord_47 post x1 x2 x3 S → W p l e rm_G_chord s m args below meth c H locs 0 0 (MQ below (va_Qv post (gB D (tys cI cZ cJ) (gkW cI cZ cJ a) A) A) args s 0 0 A) (F0 m 47 ls []) := by
    intro x1 x2 x3 S H locs ls hl hw hf
    unfold J_G_chord_47 at hf
    refine lv_iload_n (pc := 47) hx hb d_G_chord_47 rfl (lv_at hl 2 rfl) ?_
    refine lv_if_eq (pc := 48) (tgt := 73) hx hb d_G_chord_48 (by decide) (fun hc => ?_) (fun hc => ?_)
    · replace hf := hf.1 hc
      exact jn73 x1 x2 x3 S _ _ _ (lv_sub hl [0, 1, 2, 3] rfl) hw hf
    replace hf := hf.2 hc
    refine lv_aload_n (pc := 51) hx hb d_G_chord_51 rfl (lv_at hl 0 rfl) ?_
    refine gk_gt_G_chords (pc := 52) hx hb hK hts hinG hown hw.1 hl40 d_G_chord_52 ?_
    refine lv_iload_n (pc := 55) hx hb d_G_chord_55 rfl (lv_at hl 1 rfl) ?_
    refine lv_iload_n (pc := 56) hx hb d_G_chord_56 rfl (lv_at hl 2 rfl) ?_
    refine vp_callSi (pc := 57) (W.runV (As := [.int x1, .int x2]) (rest := []) ⟨hx, hb, hml, hown, hts⟩ (c_Ch_hasElsewhere l D cI cZ cJ a _ _ _ _ hf) (cwV 2 hts (tb_wsV tc_Ch_hasElsewhere tm_G_143 ti_Ch_hasElsewhere te_Ch_hasElsewhere tz_Ch) rfl rfl rfl (by decide +kernel) ⟨Nat.le_of_ble_eq_true rfl, Nat.le_of_ble_eq_true rfl⟩) (r_preV (q0 := 5) (ci := 5) hK hw.1 rfl rfl) rfl rfl hl.1 rfl (lv_room (Nat.le_of_ble_eq_true rfl)) d_G_chord_57 ⟨Nat.zero_le _, Nat.zero_le _⟩) (fun r57 hf => ?_)
    refine lv_if_eq (pc := 60) (tgt := 73) hx hb d_G_chord_60 (by decide) (fun hc => ?_) (fun hc => ?_)
    · replace hf := hf.1 hc
      exact jn73 x1 x2 x3 S _ _ _ (lv_sub hl [0, 1, 2, 3] rfl) hw hf
    replace hf := hf.2 hc
    exact False.elim hf
  unfold wp_G_chord at hf
  refine lv_iload_n (pc := 0) hx hb d_G_chord_0 rfl (lv_at hl 1 rfl) ?_
  refine lv_if_lt (pc := 1) (tgt := 9) hx hb d_G_chord_1 (by decide) (fun hc => ?_) (fun hc => ?_)
  · replace hf := hf.1 hc
    exact False.elim hf
  replace hf := hf.2 hc
  refine lv_iload_n (pc := 4) hx hb d_G_chord_4 rfl (lv_at hl 1 rfl) ?_
  refine lv_iconst (pc := 5) (v := 4) hx hb d_G_chord_5 (by decide) ?_
  refine lv_icmp_lt (pc := 6) (tgt := 19) hx hb d_G_chord_6 (by decide) (fun hc => ?_) (fun hc => ?_)
  · replace hf := hf.1 hc
    refine lv_iload_n (pc := 19) hx hb d_G_chord_19 rfl (lv_at hl 2 rfl) ?_
    refine lv_if_eq (pc := 20) (tgt := 47) hx hb d_G_chord_20 (by decide) (fun hc => ?_) (fun hc => ?_)
    · replace hf := hf.1 hc
      exact jn47 p0 p1 p2 S _ _ _ (lv_sub hl [0, 1, 2, 3] rfl) hw hf
    replace hf := hf.2 hc
    refine lv_iload_n (pc := 23) hx hb d_G_chord_23 rfl (lv_at hl 2 rfl) ?_
    refine vp_callSi (pc := 24) (W.runS (As := [.int p1]) (rest := []) ⟨hx, hb, hml, hown, hts⟩ (c_G_isChord l _ _ hf) (cwS 1 hts (tb_wsS tc_G_isChord tm_G_138 ts_G_isChord tz_G) rfl rfl rfl (by decide +kernel) ⟨Nat.le_of_ble_eq_true rfl, Nat.le_of_ble_eq_true rfl⟩) p_preS rfl rfl hl.1 rfl (lv_room (Nat.le_of_ble_eq_true rfl)) d_G_chord_24 ⟨Nat.zero_le _, Nat.zero_le _⟩) (fun r24 hf => ?_)
    refine lv_if_eq (pc := 27) (tgt := 37) hx hb d_G_chord_27 (by decide) (fun hc => ?_) (fun hc => ?_)
    · replace hf := hf.1 hc
      exact False.elim hf
    replace hf := hf.2 hc
    refine lv_iload_n (pc := 30) hx hb d_G_chord_30 rfl (lv_at hl 3 rfl) ?_
    refine vp_callSi (pc := 31) (W.runS (As := [.int p2]) (rest := []) ⟨hx, hb, hml, hown, hts⟩ (c_G_isCode l _ _ hf) (cwS 1 hts (tb_wsS tc_G_isCode tm_G_126 ts_G_isCode tz_G) rfl rfl rfl (by decide +kernel) ⟨Nat.le_of_ble_eq_true rfl, Nat.le_of_ble_eq_true rfl⟩) p_preS rfl rfl hl.1 rfl (lv_room (Nat.le_of_ble_eq_true rfl)) d_G_chord_31 ⟨Nat.zero_le _, Nat.zero_le _⟩) (fun r31 hf => ?_)
    refine lv_if_ne (pc := 34) (tgt := 47) hx hb d_G_chord_34 (by decide) (fun hc => ?_) (fun hc => ?_)
    · replace hf := hf.2 hc
      exact jn47 p0 p1 p2 S _ _ _ (lv_sub hl [0, 1, 2, 3] rfl) hw hf
    replace hf := hf.1 hc
    exact False.elim hf
  replace hf := hf.2 hc
  exact False.elim hf
def wp_G_on (S : GS) (p0 : Int32) (post : Int32 → Prop) : Prop := (wp_G_requireLayer p0 (fun _ => (wp_La_isOn S p0 (fun r9 => (narrow .boolean (.int r9) = .int r9 ∧ (post r9))))))
abbrev rm_G_on : Room := { frames := 1, cells := 0, slots := 0, locals := 21 }
set_option maxHeartbeats 4000000 in
set_option maxRecDepth 100000 in
theorem c_G_on (l : Launch) (D : va_G) (cI cZ cJ : ClassId) (a : Nat → Nat) (S : GS) (p0 : Int32) (post : Int32 → Prop) (hf : wp_G_on S p0 post) : Met l y_G_on ws_G_on rm_G_on (va_Pc [.ref (a 0), .int p0] (rPre D (tys cI cZ cJ) (gkW cI cZ cJ a S))) (vp_Si post) 0 0 (fun _ => False) := by
  refine gm_r (cc := b_G_on) (maxL := 2) (by decide) rfl (Nat.le_of_ble_eq_true rfl) ?_
  intro p e s m args below meth c ls hx hb hr hts hown hlk hml hK hP hl
  have hl : lv_has ls 2 [(0, .ref (a 0)), (1, .int p0)] := hl
  have hinG : ∀ w ∈ u_ws R_G T_G 9, w ∈ ws_G_on := fun w h => List.mem_cons_of_mem _ (tl_G w h)
  have hl47 := hts _ (List.mem_cons_of_mem _ tf_G_47)
  unfold wp_G_on at hf
  refine lv_iload_n (pc := 0) hx hb d_G_on_0 rfl (lv_at hl 1 rfl) ?_
  refine va_csv (pc := 1) (W.runS (As := [.int p0]) (rest := []) ⟨hx, hb, hml, hown, hts⟩ (c_G_requireLayer l _ _ hf) (cwS 1 hts (tb_wsS tc_G_requireLayer tm_G_108 ts_G_requireLayer tz_G) rfl rfl rfl (by decide +kernel) ⟨Nat.le_of_ble_eq_true rfl, Nat.le_of_ble_eq_true rfl⟩) p_preS rfl rfl hl.1 rfl (lv_room (Nat.le_of_ble_eq_true rfl)) d_G_on_1 ⟨Nat.zero_le _, Nat.zero_le _⟩) (fun hf => ?_)
  refine lv_aload_n (pc := 4) hx hb d_G_on_4 rfl (lv_at hl 0 rfl) ?_
  refine gk_gt_G_layers (pc := 5) hx hb hK hts hinG hown hP hl47 d_G_on_5 ?_
  refine lv_iload_n (pc := 8) hx hb d_G_on_8 rfl (lv_at hl 1 rfl) ?_
  refine vp_callSi (pc := 9) (W.runV (As := [.int p0]) (rest := []) ⟨hx, hb, hml, hown, hts⟩ (c_La_isOn l D cI cZ cJ a _ _ _ hf) (cwV 1 hts (tb_wsV tc_La_isOn tm_G_155 ti_La_isOn te_La_isOn tz_La) rfl rfl rfl (by decide +kernel) ⟨Nat.le_of_ble_eq_true rfl, Nat.le_of_ble_eq_true rfl⟩) (r_preV (q0 := 6) (ci := 6) hK hP rfl rfl) rfl rfl hl.1 rfl (lv_room (Nat.le_of_ble_eq_true rfl)) d_G_on_9 ⟨Nat.zero_le _, Nat.zero_le _⟩) (fun r9 hf => ?_)
  exact rr_z (pc := 12) hx hb hr hlk hf.1 hf.2 d_G_on_12
def wp_G_top (S : GS) (p0 : Int32) (post : Int32 → Prop) : Prop := (wp_G_requireKey p0 (fun _ => (wp_Km_topLayer S p0 (fun r13 => (post r13)))))
abbrev rm_G_top : Room := { frames := 2, cells := 0, slots := 0, locals := 45 }
set_option maxHeartbeats 4000000 in
set_option maxRecDepth 100000 in
theorem c_G_top (l : Launch) (D : va_G) (cI cZ cJ : ClassId) (a : Nat → Nat) (S : GS) (p0 : Int32) (post : Int32 → Prop) (hf : wp_G_top S p0 post) : Met l y_G_top ws_G_top rm_G_top (va_Pc [.ref (a 0), .int p0] (rPre D (tys cI cZ cJ) (gkW cI cZ cJ a S))) (vp_Si post) 0 0 (fun _ => False) := by
  refine gm_r (cc := b_G_top) (maxL := 2) (by decide) rfl (Nat.le_of_ble_eq_true rfl) ?_
  intro p e s m args below meth c ls hx hb hr hts hown hlk hml hK hP hl
  have hl : lv_has ls 2 [(0, .ref (a 0)), (1, .int p0)] := hl
  have hinG : ∀ w ∈ u_ws R_G T_G 9, w ∈ ws_G_top := fun w h => List.mem_cons_of_mem _ (tl_G w h)
  have hl33 := hts _ (List.mem_cons_of_mem _ tf_G_33)
  have hl47 := hts _ (List.mem_cons_of_mem _ tf_G_47)
  unfold wp_G_top at hf
  refine lv_iload_n (pc := 0) hx hb d_G_top_0 rfl (lv_at hl 1 rfl) ?_
  refine va_csv (pc := 1) (W.runS (As := [.int p0]) (rest := []) ⟨hx, hb, hml, hown, hts⟩ (c_G_requireKey l _ _ hf) (cwS 1 hts (tb_wsS tc_G_requireKey tm_G_69 ts_G_requireKey tz_G) rfl rfl rfl (by decide +kernel) ⟨Nat.le_of_ble_eq_true rfl, Nat.le_of_ble_eq_true rfl⟩) p_preS rfl rfl hl.1 rfl (lv_room (Nat.le_of_ble_eq_true rfl)) d_G_top_1 ⟨Nat.zero_le _, Nat.zero_le _⟩) (fun hf => ?_)
  refine lv_aload_n (pc := 4) hx hb d_G_top_4 rfl (lv_at hl 0 rfl) ?_
  refine gk_gt_G_keymap (pc := 5) hx hb hK hts hinG hown hP hl33 d_G_top_5 ?_
  refine lv_iload_n (pc := 8) hx hb d_G_top_8 rfl (lv_at hl 1 rfl) ?_
  refine lv_aload_n (pc := 9) hx hb d_G_top_9 rfl (lv_at hl 0 rfl) ?_
  refine gk_gt_G_layers (pc := 10) hx hb hK hts hinG hown hP hl47 d_G_top_10 ?_
  refine vp_callSi (pc := 13) (W.runV (As := [.int p0, .ref (a 6)]) (rest := []) ⟨hx, hb, hml, hown, hts⟩ (c_Km_topLayer l D cI cZ cJ a _ _ _ hf) (cwV 2 hts (tb_wsV tc_Km_topLayer tm_G_158 ti_Km_topLayer te_Km_topLayer tz_Km) rfl rfl rfl (by decide +kernel) ⟨Nat.le_of_ble_eq_true rfl, Nat.le_of_ble_eq_true rfl⟩) (r_preV (q0 := 4) (ci := 4) hK hP rfl rfl) rfl rfl hl.1 rfl (lv_room (Nat.le_of_ble_eq_true rfl)) d_G_top_13 ⟨Nat.zero_le _, Nat.zero_le _⟩) (fun r13 hf => ?_)
  exact rr_i (pc := 16) hx hb hr hlk hf d_G_top_16
def wp_G_key (S : GS) (p0 : Int32) (p1 : Int32) (post : Int32 → Prop) : Prop := (wp_G_requireKey p0 (fun _ => ((p1 < (0 : Int32) → False) ∧ (¬ p1 < (0 : Int32) → ((p1 ≤ (3 : Int32) → (wp_Mx_keysThatAre S p1 (fun r28 => (post ((r28 >>> (p0 &&& 31)) &&& (1 : Int32)))))) ∧ (¬ p1 ≤ (3 : Int32) → False))))))
abbrev rm_G_key : Room := { frames := 1, cells := 0, slots := 0, locals := 21 }
set_option maxHeartbeats 4000000 in
set_option maxRecDepth 100000 in
theorem c_G_key (l : Launch) (D : va_G) (cI cZ cJ : ClassId) (a : Nat → Nat) (S : GS) (p0 : Int32) (p1 : Int32) (post : Int32 → Prop) (hf : wp_G_key S p0 p1 post) : Met l y_G_key ws_G_key rm_G_key (va_Pc [.ref (a 0), .int p0, .int p1] (rPre D (tys cI cZ cJ) (gkW cI cZ cJ a S))) (vp_Si post) 0 0 (fun _ => False) := by
  refine gm_r (cc := b_G_key) (maxL := 3) (by decide) rfl (Nat.le_of_ble_eq_true rfl) ?_
  intro p e s m args below meth c ls hx hb hr hts hown hlk hml hK hP hl
  have hl : lv_has ls 3 [(0, .ref (a 0)), (1, .int p0), (2, .int p1)] := hl
  have hinG : ∀ w ∈ u_ws R_G T_G 9, w ∈ ws_G_key := fun w h => List.mem_cons_of_mem _ (tl_G w h)
  have hl12 := hts _ (List.mem_cons_of_mem _ tf_G_12)
  unfold wp_G_key at hf
  refine lv_iload_n (pc := 0) hx hb d_G_key_0 rfl (lv_at hl 1 rfl) ?_
  refine va_csv (pc := 1) (W.runS (As := [.int p0]) (rest := []) ⟨hx, hb, hml, hown, hts⟩ (c_G_requireKey l _ _ hf) (cwS 1 hts (tb_wsS tc_G_requireKey tm_G_69 ts_G_requireKey tz_G) rfl rfl rfl (by decide +kernel) ⟨Nat.le_of_ble_eq_true rfl, Nat.le_of_ble_eq_true rfl⟩) p_preS rfl rfl hl.1 rfl (lv_room (Nat.le_of_ble_eq_true rfl)) d_G_key_1 ⟨Nat.zero_le _, Nat.zero_le _⟩) (fun hf => ?_)
  refine lv_iload_n (pc := 4) hx hb d_G_key_4 rfl (lv_at hl 2 rfl) ?_
  refine lv_if_lt (pc := 5) (tgt := 13) hx hb d_G_key_5 (by decide) (fun hc => ?_) (fun hc => ?_)
  · replace hf := hf.1 hc
    exact False.elim hf
  replace hf := hf.2 hc
  refine lv_iload_n (pc := 8) hx hb d_G_key_8 rfl (lv_at hl 2 rfl) ?_
  refine lv_iconst (pc := 9) (v := 3) hx hb d_G_key_9 (by decide) ?_
  refine lv_icmp_le (pc := 10) (tgt := 23) hx hb d_G_key_10 (by decide) (fun hc => ?_) (fun hc => ?_)
  · replace hf := hf.1 hc
    refine lv_aload_n (pc := 23) hx hb d_G_key_23 rfl (lv_at hl 0 rfl) ?_
    refine gk_gt_G_matrix (pc := 24) hx hb hK hts hinG hown hP hl12 d_G_key_24 ?_
    refine lv_iload_n (pc := 27) hx hb d_G_key_27 rfl (lv_at hl 2 rfl) ?_
    refine vp_callSi (pc := 28) (W.runV (As := [.int p1]) (rest := []) ⟨hx, hb, hml, hown, hts⟩ (c_Mx_keysThatAre l D cI cZ cJ a _ _ _ hf) (cwV 1 hts (tb_wsV tc_Mx_keysThatAre tm_G_164 ti_Mx_keysThatAre te_Mx_keysThatAre tz_Mx) rfl rfl rfl (by decide +kernel) ⟨Nat.le_of_ble_eq_true rfl, Nat.le_of_ble_eq_true rfl⟩) (r_preV (q0 := 1) (ci := 1) hK hP rfl rfl) rfl rfl hl.1 rfl (lv_room (Nat.le_of_ble_eq_true rfl)) d_G_key_28 ⟨Nat.zero_le _, Nat.zero_le _⟩) (fun r28 hf => ?_)
    refine lv_iload_n (pc := 31) hx hb d_G_key_31 rfl (lv_at hl 1 rfl) ?_
    refine lv_ishr (pc := 32) hx hb d_G_key_32 ?_
    refine lv_iconst (pc := 33) (v := 1) hx hb d_G_key_33 (by decide) ?_
    refine lv_iand (pc := 34) hx hb d_G_key_34 ?_
    exact rr_i (pc := 35) hx hb hr hlk hf d_G_key_35
  replace hf := hf.2 hc
  exact False.elim hf
def wp_G_queued (S : GS) (post : Int32 → Prop) : Prop := (wp_Eq_length S (fun r4 => (post r4)))
abbrev rm_G_queued : Room := { frames := 1, cells := 0, slots := 0, locals := 20 }
set_option maxHeartbeats 4000000 in
set_option maxRecDepth 100000 in
theorem c_G_queued (l : Launch) (D : va_G) (cI cZ cJ : ClassId) (a : Nat → Nat) (S : GS) (post : Int32 → Prop) (hf : wp_G_queued S post) : Met l y_G_queued ws_G_queued rm_G_queued (va_Pc [.ref (a 0)] (rPre D (tys cI cZ cJ) (gkW cI cZ cJ a S))) (vp_Si post) 0 0 (fun _ => False) := by
  refine gm_r (cc := b_G_queued) (maxL := 1) (by decide) rfl (Nat.le_of_ble_eq_true rfl) ?_
  intro p e s m args below meth c ls hx hb hr hts hown hlk hml hK hP hl
  have hl : lv_has ls 1 [(0, .ref (a 0))] := hl
  have hinG : ∀ w ∈ u_ws R_G T_G 9, w ∈ ws_G_queued := fun w h => List.mem_cons_of_mem _ (tl_G w h)
  have hl26 := hts _ (List.mem_cons_of_mem _ tf_G_26)
  unfold wp_G_queued at hf
  refine lv_aload_n (pc := 0) hx hb d_G_queued_0 rfl (lv_at hl 0 rfl) ?_
  refine gk_gt_G_queue (pc := 1) hx hb hK hts hinG hown hP hl26 d_G_queued_1 ?_
  refine vp_callSi (pc := 4) (W.runV (As := []) (rest := []) ⟨hx, hb, hml, hown, hts⟩ (c_Eq_length l D cI cZ cJ a _ _ hf) (cwV 0 hts (tb_wsV tc_Eq_length tm_G_167 ti_Eq_length te_Eq_length tz_Eq) rfl rfl rfl (by decide +kernel) ⟨Nat.le_of_ble_eq_true rfl, Nat.le_of_ble_eq_true rfl⟩) (r_preV (q0 := 3) (ci := 3) hK hP rfl rfl) rfl rfl hl.1 rfl (lv_room (Nat.le_of_ble_eq_true rfl)) d_G_queued_4 ⟨Nat.zero_le _, Nat.zero_le _⟩) (fun r4 hf => ?_)
  exact rr_i (pc := 7) hx hb hr hlk hf d_G_queued_7
def wp_G_history (S : GS) (p0 : Int32) (post : Int32 → Prop) : Prop := (wp_Hi_latest S p0 (fun r5 => (post r5)))
abbrev rm_G_history : Room := { frames := 1, cells := 0, slots := 0, locals := 21 }
set_option maxHeartbeats 4000000 in
set_option maxRecDepth 100000 in
theorem c_G_history (l : Launch) (D : va_G) (cI cZ cJ : ClassId) (a : Nat → Nat) (S : GS) (p0 : Int32) (post : Int32 → Prop) (hf : wp_G_history S p0 post) : Met l y_G_history ws_G_history rm_G_history (va_Pc [.ref (a 0), .int p0] (rPre D (tys cI cZ cJ) (gkW cI cZ cJ a S))) (vp_Si post) 0 0 (fun _ => False) := by
  refine gm_r (cc := b_G_history) (maxL := 2) (by decide) rfl (Nat.le_of_ble_eq_true rfl) ?_
  intro p e s m args below meth c ls hx hb hr hts hown hlk hml hK hP hl
  have hl : lv_has ls 2 [(0, .ref (a 0)), (1, .int p0)] := hl
  have hinG : ∀ w ∈ u_ws R_G T_G 9, w ∈ ws_G_history := fun w h => List.mem_cons_of_mem _ (tl_G w h)
  have hl19 := hts _ (List.mem_cons_of_mem _ tf_G_19)
  unfold wp_G_history at hf
  refine lv_aload_n (pc := 0) hx hb d_G_history_0 rfl (lv_at hl 0 rfl) ?_
  refine gk_gt_G_past (pc := 1) hx hb hK hts hinG hown hP hl19 d_G_history_1 ?_
  refine lv_iload_n (pc := 4) hx hb d_G_history_4 rfl (lv_at hl 1 rfl) ?_
  refine vp_callSi (pc := 5) (W.runV (As := [.int p0]) (rest := []) ⟨hx, hb, hml, hown, hts⟩ (c_Hi_latest l D cI cZ cJ a _ _ _ hf) (cwV 1 hts (tb_wsV tc_Hi_latest tm_G_170 ti_Hi_latest te_Hi_latest tz_Hi) rfl rfl rfl (by decide +kernel) ⟨Nat.le_of_ble_eq_true rfl, Nat.le_of_ble_eq_true rfl⟩) (r_preV (q0 := 2) (ci := 2) hK hP rfl rfl) rfl rfl hl.1 rfl (lv_room (Nat.le_of_ble_eq_true rfl)) d_G_history_5 ⟨Nat.zero_le _, Nat.zero_le _⟩) (fun r5 hf => ?_)
  exact rr_i (pc := 8) hx hb hr hlk hf d_G_history_8
