def wpT_G_requireKey (p0 : Int32) (E : String) : Prop := ((p0 < (0 : Int32) → (E = eI)) ∧ (¬ p0 < (0 : Int32) → ((p0 < (24 : Int32) → False) ∧ (¬ p0 < (24 : Int32) → (E = eI)))))
abbrev rmT_G_requireKey : Room := { frames := 6, cells := 1, slots := 6, locals := 82 }
set_option maxHeartbeats 4000000 in
set_option maxRecDepth 100000 in
theorem ct_G_requireKey (l : Launch) (hfl : l.flags = flags0) (p0 : Int32) (E : String) (hf : wpT_G_requireKey p0 E) : MetT l y_G_requireKey ws_G_requireKey rmT_G_requireKey (va_Pc [.int p0] TE) E := by
  refine gt_p (cc := b_G_requireKey) (maxL := 1) (by decide) rfl (Nat.le_of_ble_eq_true rfl) ?_
  intro p e s m args below meth c ls hx hb hts hown hlk hml hno hE hl
  have hl : lv_has ls 1 [(0, .int p0)] := hl
  unfold wpT_G_requireKey at hf
  refine lv_iload_n (pc := 0) hx hb d_G_requireKey_0 rfl (lv_at hl 0 rfl) ?_
  refine lv_if_lt (pc := 1) (tgt := 10) hx hb d_G_requireKey_1 (by decide) (fun hc => ?_) (fun hc => ?_)
  · replace hf := hf.1 hc
    subst hf
    obtain ⟨qa, hstr⟩ := hE.2.2.2.2.2 (173, "no such key") (by decide +kernel)
    exact w_thr (pc := 10) hfl hx hb hlk hml hl.1 hno hown (hts _ (List.mem_cons_of_mem _ tq_G_121)) (hts _ (List.mem_cons_of_mem _ tn_eI)) (hts _ (List.mem_cons_of_mem _ tz_eI)) (by decide +kernel) (te_atoms xa_I (fun w h => List.mem_cons_of_mem _ h) hts hE) hstr ⟨Nat.le_of_ble_eq_true rfl, Nat.le_of_ble_eq_true rfl, Nat.le_of_ble_eq_true rfl, Nat.le_of_ble_eq_true rfl⟩ d_G_requireKey_10 d_G_requireKey_13 d_G_requireKey_14 d_G_requireKey_16 d_G_requireKey_19
  replace hf := hf.2 hc
  refine lv_iload_n (pc := 4) hx hb d_G_requireKey_4 rfl (lv_at hl 0 rfl) ?_
  refine lv_bipush (pc := 5) (v := 24) hx hb d_G_requireKey_5 (by decide) ?_
  refine lv_icmp_lt (pc := 7) (tgt := 20) hx hb d_G_requireKey_7 (by decide) (fun hc => ?_) (fun hc => ?_)
  · replace hf := hf.1 hc
    exact False.elim hf
  replace hf := hf.2 hc
  subst hf
  obtain ⟨qa, hstr⟩ := hE.2.2.2.2.2 (173, "no such key") (by decide +kernel)
  exact w_thr (pc := 10) hfl hx hb hlk hml hl.1 hno hown (hts _ (List.mem_cons_of_mem _ tq_G_121)) (hts _ (List.mem_cons_of_mem _ tn_eI)) (hts _ (List.mem_cons_of_mem _ tz_eI)) (by decide +kernel) (te_atoms xa_I (fun w h => List.mem_cons_of_mem _ h) hts hE) hstr ⟨Nat.le_of_ble_eq_true rfl, Nat.le_of_ble_eq_true rfl, Nat.le_of_ble_eq_true rfl, Nat.le_of_ble_eq_true rfl⟩ d_G_requireKey_10 d_G_requireKey_13 d_G_requireKey_14 d_G_requireKey_16 d_G_requireKey_19
def wpT_G_requireLayer (p0 : Int32) (E : String) : Prop := ((p0 < (0 : Int32) → (E = eI)) ∧ (¬ p0 < (0 : Int32) → ((p0 < (4 : Int32) → False) ∧ (¬ p0 < (4 : Int32) → (E = eI)))))
abbrev rmT_G_requireLayer : Room := { frames := 6, cells := 1, slots := 6, locals := 82 }
set_option maxHeartbeats 4000000 in
set_option maxRecDepth 100000 in
theorem ct_G_requireLayer (l : Launch) (hfl : l.flags = flags0) (p0 : Int32) (E : String) (hf : wpT_G_requireLayer p0 E) : MetT l y_G_requireLayer ws_G_requireLayer rmT_G_requireLayer (va_Pc [.int p0] TE) E := by
  refine gt_p (cc := b_G_requireLayer) (maxL := 1) (by decide) rfl (Nat.le_of_ble_eq_true rfl) ?_
  intro p e s m args below meth c ls hx hb hts hown hlk hml hno hE hl
  have hl : lv_has ls 1 [(0, .int p0)] := hl
  unfold wpT_G_requireLayer at hf
  refine lv_iload_n (pc := 0) hx hb d_G_requireLayer_0 rfl (lv_at hl 0 rfl) ?_
  refine lv_if_lt (pc := 1) (tgt := 9) hx hb d_G_requireLayer_1 (by decide) (fun hc => ?_) (fun hc => ?_)
  · replace hf := hf.1 hc
    subst hf
    obtain ⟨qa, hstr⟩ := hE.2.2.2.2.2 (175, "no such layer") (by decide +kernel)
    exact w_thr (pc := 9) hfl hx hb hlk hml hl.1 hno hown (hts _ (List.mem_cons_of_mem _ tq_G_121)) (hts _ (List.mem_cons_of_mem _ tn_eI)) (hts _ (List.mem_cons_of_mem _ tz_eI)) (by decide +kernel) (te_atoms xa_I (fun w h => List.mem_cons_of_mem _ h) hts hE) hstr ⟨Nat.le_of_ble_eq_true rfl, Nat.le_of_ble_eq_true rfl, Nat.le_of_ble_eq_true rfl, Nat.le_of_ble_eq_true rfl⟩ d_G_requireLayer_9 d_G_requireLayer_12 d_G_requireLayer_13 d_G_requireLayer_15 d_G_requireLayer_18
  replace hf := hf.2 hc
  refine lv_iload_n (pc := 4) hx hb d_G_requireLayer_4 rfl (lv_at hl 0 rfl) ?_
  refine lv_iconst (pc := 5) (v := 4) hx hb d_G_requireLayer_5 (by decide) ?_
  refine lv_icmp_lt (pc := 6) (tgt := 19) hx hb d_G_requireLayer_6 (by decide) (fun hc => ?_) (fun hc => ?_)
  · replace hf := hf.1 hc
    exact False.elim hf
  replace hf := hf.2 hc
  subst hf
  obtain ⟨qa, hstr⟩ := hE.2.2.2.2.2 (175, "no such layer") (by decide +kernel)
  exact w_thr (pc := 9) hfl hx hb hlk hml hl.1 hno hown (hts _ (List.mem_cons_of_mem _ tq_G_121)) (hts _ (List.mem_cons_of_mem _ tn_eI)) (hts _ (List.mem_cons_of_mem _ tz_eI)) (by decide +kernel) (te_atoms xa_I (fun w h => List.mem_cons_of_mem _ h) hts hE) hstr ⟨Nat.le_of_ble_eq_true rfl, Nat.le_of_ble_eq_true rfl, Nat.le_of_ble_eq_true rfl, Nat.le_of_ble_eq_true rfl⟩ d_G_requireLayer_9 d_G_requireLayer_12 d_G_requireLayer_13 d_G_requireLayer_15 d_G_requireLayer_18
def wpT_G_wire (S : GS) (p0 : Int32) (p1 : Int32) (E : String) : Prop := (wpT_G_requireKey p0 E ∨ (wp_G_requireKey p0 (fun _ => False)))
abbrev rmT_G_wire : Room := { frames := 7, cells := 1, slots := 6, locals := 102 }
set_option maxHeartbeats 4000000 in
set_option maxRecDepth 100000 in
theorem ct_G_wire (l : Launch) (hfl : l.flags = flags0) (D : va_G) (cI cZ cJ : ClassId) (a : Nat → Nat) (S : GS) (p0 : Int32) (p1 : Int32) (E : String) (hf : wpT_G_wire S p0 p1 E) : MetT l y_G_wire ws_G_wire rmT_G_wire (va_Pc [.ref (a 0), .int p0, .int p1] (fun U => TE U ∧ rPre D (tys cI cZ cJ) (gkW cI cZ cJ a S) U)) E := by
  refine gt_r (cc := b_G_wire) (maxL := 3) (by decide) rfl (Nat.le_of_ble_eq_true rfl) ?_
  intro p e s m args below meth c ls hx hb hts hown hlk hml hno hE hK hP hl
  have hl : lv_has ls 3 [(0, .ref (a 0)), (1, .int p0), (2, .int p1)] := hl
  have hinG : ∀ w ∈ u_ws R_G T_G 9, w ∈ ws_G_wire := fun w h => List.mem_cons_of_mem _ (tl_G w h)
  have hl12 := hts _ (List.mem_cons_of_mem _ tf_G_12)
  unfold wpT_G_wire at hf
  refine lv_iload_n (pc := 0) hx hb d_G_wire_0 rfl (lv_at hl 1 rfl) ?_
  rcases hf with hf | hf
  · exact w_passS (pc := 1) (As := [.int p0]) (rest := []) ⟨hx, hb, hml, hown, hts⟩ (ct_G_requireKey l hfl _ _ hf) rfl (cwS 1 hts (tb_wsS tc_G_requireKey tm_G_69 ts_G_requireKey tz_G) rfl rfl rfl (by decide +kernel) ⟨Nat.le_of_ble_eq_true rfl, Nat.le_of_ble_eq_true rfl⟩) (te_preS hE) rfl hl.1 rfl (Nat.le_of_ble_eq_true rfl) d_G_wire_1 ⟨Nat.le_of_ble_eq_true rfl, Nat.le_of_ble_eq_true rfl⟩ hlk hno
  refine va_csv (pc := 1) (W.runS (As := [.int p0]) (rest := []) ⟨hx, hb, hml, hown, hts⟩ (c_G_requireKey l _ _ hf) (cwS 1 hts (tb_wsS tc_G_requireKey tm_G_69 ts_G_requireKey tz_G) rfl rfl rfl (by decide +kernel) ⟨Nat.le_of_ble_eq_true rfl, Nat.le_of_ble_eq_true rfl⟩) p_preS rfl rfl hl.1 rfl (lv_room (Nat.le_of_ble_eq_true rfl)) d_G_wire_1 ⟨Nat.zero_le _, Nat.zero_le _⟩) (fun hf => ?_)
  refine lv_aload_n (pc := 4) hx hb d_G_wire_4 rfl (lv_at hl 0 rfl) ?_
  refine gk_gt_G_matrix (pc := 5) hx hb hK hts hinG hown hP hl12 d_G_wire_5 ?_
  refine lv_iload_n (pc := 8) hx hb d_G_wire_8 rfl (lv_at hl 1 rfl) ?_
  refine lv_iload_n (pc := 9) hx hb d_G_wire_9 rfl (lv_at hl 2 rfl) ?_
  exact False.elim hf
def wpT_G_bounce (S : GS) (p0 : Int32) (p1 : Int32) (E : String) : Prop := (wpT_G_requireKey p0 E ∨ (wp_G_requireKey p0 (fun _ => ((p1 < (0 : Int32) → (E = eA)) ∧ (¬ p1 < (0 : Int32) → ((p1 ≤ (255 : Int32) → False) ∧ (¬ p1 ≤ (255 : Int32) → (E = eA))))))))
abbrev rmT_G_bounce : Room := { frames := 7, cells := 1, slots := 6, locals := 102 }
set_option maxHeartbeats 4000000 in
set_option maxRecDepth 100000 in
theorem ct_G_bounce (l : Launch) (hfl : l.flags = flags0) (D : va_G) (cI cZ cJ : ClassId) (a : Nat → Nat) (S : GS) (p0 : Int32) (p1 : Int32) (E : String) (hf : wpT_G_bounce S p0 p1 E) : MetT l y_G_bounce ws_G_bounce rmT_G_bounce (va_Pc [.ref (a 0), .int p0, .int p1] (fun U => TE U ∧ rPre D (tys cI cZ cJ) (gkW cI cZ cJ a S) U)) E := by
  refine gt_r (cc := b_G_bounce) (maxL := 3) (by decide) rfl (Nat.le_of_ble_eq_true rfl) ?_
  intro p e s m args below meth c ls hx hb hts hown hlk hml hno hE hK hP hl
  have hl : lv_has ls 3 [(0, .ref (a 0)), (1, .int p0), (2, .int p1)] := hl
  have hinG : ∀ w ∈ u_ws R_G T_G 9, w ∈ ws_G_bounce := fun w h => List.mem_cons_of_mem _ (tl_G w h)
  have hl12 := hts _ (List.mem_cons_of_mem _ tf_G_12)
  unfold wpT_G_bounce at hf
  refine lv_iload_n (pc := 0) hx hb d_G_bounce_0 rfl (lv_at hl 1 rfl) ?_
  rcases hf with hf | hf
  · exact w_passS (pc := 1) (As := [.int p0]) (rest := []) ⟨hx, hb, hml, hown, hts⟩ (ct_G_requireKey l hfl _ _ hf) rfl (cwS 1 hts (tb_wsS tc_G_requireKey tm_G_69 ts_G_requireKey tz_G) rfl rfl rfl (by decide +kernel) ⟨Nat.le_of_ble_eq_true rfl, Nat.le_of_ble_eq_true rfl⟩) (te_preS hE) rfl hl.1 rfl (Nat.le_of_ble_eq_true rfl) d_G_bounce_1 ⟨Nat.le_of_ble_eq_true rfl, Nat.le_of_ble_eq_true rfl⟩ hlk hno
  refine va_csv (pc := 1) (W.runS (As := [.int p0]) (rest := []) ⟨hx, hb, hml, hown, hts⟩ (c_G_requireKey l _ _ hf) (cwS 1 hts (tb_wsS tc_G_requireKey tm_G_69 ts_G_requireKey tz_G) rfl rfl rfl (by decide +kernel) ⟨Nat.le_of_ble_eq_true rfl, Nat.le_of_ble_eq_true rfl⟩) p_preS rfl rfl hl.1 rfl (lv_room (Nat.le_of_ble_eq_true rfl)) d_G_bounce_1 ⟨Nat.zero_le _, Nat.zero_le _⟩) (fun hf => ?_)
  refine lv_iload_n (pc := 4) hx hb d_G_bounce_4 rfl (lv_at hl 2 rfl) ?_
  refine lv_if_lt (pc := 5) (tgt := 15) hx hb d_G_bounce_5 (by decide) (fun hc => ?_) (fun hc => ?_)
  · replace hf := hf.1 hc
    subst hf
    obtain ⟨qa, hstr⟩ := hE.2.2.2.2.2 (79, "the pattern is not 0 .. 255") (by decide +kernel)
    exact w_thr (pc := 15) hfl hx hb hlk hml hl.1 hno hown (hts _ (List.mem_cons_of_mem _ tq_G_77)) (hts _ (List.mem_cons_of_mem _ tn_eA)) (hts _ (List.mem_cons_of_mem _ tz_eA)) (by decide +kernel) (te_atoms xa_A (fun w h => List.mem_cons_of_mem _ h) hts hE) hstr ⟨Nat.le_of_ble_eq_true rfl, Nat.le_of_ble_eq_true rfl, Nat.le_of_ble_eq_true rfl, Nat.le_of_ble_eq_true rfl⟩ d_G_bounce_15 d_G_bounce_18 d_G_bounce_19 d_G_bounce_21 d_G_bounce_24
  replace hf := hf.2 hc
  refine lv_iload_n (pc := 8) hx hb d_G_bounce_8 rfl (lv_at hl 2 rfl) ?_
  refine lv_sipush (pc := 9) (v := 255) hx hb d_G_bounce_9 (by decide) ?_
  refine lv_icmp_le (pc := 12) (tgt := 25) hx hb d_G_bounce_12 (by decide) (fun hc => ?_) (fun hc => ?_)
  · replace hf := hf.1 hc
    refine lv_aload_n (pc := 25) hx hb d_G_bounce_25 rfl (lv_at hl 0 rfl) ?_
    refine gk_gt_G_matrix (pc := 26) hx hb hK hts hinG hown hP hl12 d_G_bounce_26 ?_
    refine lv_iload_n (pc := 29) hx hb d_G_bounce_29 rfl (lv_at hl 1 rfl) ?_
    refine lv_iload_n (pc := 30) hx hb d_G_bounce_30 rfl (lv_at hl 2 rfl) ?_
    exact False.elim hf
  replace hf := hf.2 hc
  subst hf
  obtain ⟨qa, hstr⟩ := hE.2.2.2.2.2 (79, "the pattern is not 0 .. 255") (by decide +kernel)
  exact w_thr (pc := 15) hfl hx hb hlk hml hl.1 hno hown (hts _ (List.mem_cons_of_mem _ tq_G_77)) (hts _ (List.mem_cons_of_mem _ tn_eA)) (hts _ (List.mem_cons_of_mem _ tz_eA)) (by decide +kernel) (te_atoms xa_A (fun w h => List.mem_cons_of_mem _ h) hts hE) hstr ⟨Nat.le_of_ble_eq_true rfl, Nat.le_of_ble_eq_true rfl, Nat.le_of_ble_eq_true rfl, Nat.le_of_ble_eq_true rfl⟩ d_G_bounce_15 d_G_bounce_18 d_G_bounce_19 d_G_bounce_21 d_G_bounce_24
def wpT_G_scans (S : GS) (p0 : Int32) (E : String) : Prop := ((p0 < (1 : Int32) → (E = eA)) ∧ (¬ p0 < (1 : Int32) → ((p0 ≤ (100 : Int32) → False) ∧ (¬ p0 ≤ (100 : Int32) → (E = eA)))))
abbrev rmT_G_scans : Room := { frames := 6, cells := 1, slots := 6, locals := 82 }
set_option maxHeartbeats 4000000 in
set_option maxRecDepth 100000 in
theorem ct_G_scans (l : Launch) (hfl : l.flags = flags0) (D : va_G) (cI cZ cJ : ClassId) (a : Nat → Nat) (S : GS) (p0 : Int32) (E : String) (hf : wpT_G_scans S p0 E) : MetT l y_G_scans ws_G_scans rmT_G_scans (va_Pc [.ref (a 0), .int p0] (fun U => TE U ∧ rPre D (tys cI cZ cJ) (gkW cI cZ cJ a S) U)) E := by
  refine gt_r (cc := b_G_scans) (maxL := 4) (by decide) rfl (Nat.le_of_ble_eq_true rfl) ?_
  intro p e s m args below meth c ls hx hb hts hown hlk hml hno hE hK hP hl
  have hl : lv_has ls 4 [(0, .ref (a 0)), (1, .int p0)] := hl
  unfold wpT_G_scans at hf
  refine lv_iload_n (pc := 0) hx hb d_G_scans_0 rfl (lv_at hl 1 rfl) ?_
  refine lv_iconst (pc := 1) (v := 1) hx hb d_G_scans_1 (by decide) ?_
  refine lv_icmp_lt (pc := 2) (tgt := 11) hx hb d_G_scans_2 (by decide) (fun hc => ?_) (fun hc => ?_)
  · replace hf := hf.1 hc
    subst hf
    obtain ⟨qa, hstr⟩ := hE.2.2.2.2.2 (92, "many is not 1 .. 100") (by decide +kernel)
    exact w_thr (pc := 11) hfl hx hb hlk hml hl.1 hno hown (hts _ (List.mem_cons_of_mem _ tq_G_77)) (hts _ (List.mem_cons_of_mem _ tn_eA)) (hts _ (List.mem_cons_of_mem _ tz_eA)) (by decide +kernel) (te_atoms xa_A (fun w h => List.mem_cons_of_mem _ h) hts hE) hstr ⟨Nat.le_of_ble_eq_true rfl, Nat.le_of_ble_eq_true rfl, Nat.le_of_ble_eq_true rfl, Nat.le_of_ble_eq_true rfl⟩ d_G_scans_11 d_G_scans_14 d_G_scans_15 d_G_scans_17 d_G_scans_20
  replace hf := hf.2 hc
  refine lv_iload_n (pc := 5) hx hb d_G_scans_5 rfl (lv_at hl 1 rfl) ?_
  refine lv_bipush (pc := 6) (v := 100) hx hb d_G_scans_6 (by decide) ?_
  refine lv_icmp_le (pc := 8) (tgt := 21) hx hb d_G_scans_8 (by decide) (fun hc => ?_) (fun hc => ?_)
  · replace hf := hf.1 hc
    refine lv_iconst (pc := 21) (v := 0) hx hb d_G_scans_21 (by decide) ?_
    refine lv_istore_n (pc := 22) (lv' := [(2, .int (0 : Int32)), (0, .ref (a 0)), (1, .int p0)]) hx hb d_G_scans_22 rfl hl (by decide) rfl (fun ls hl => ?_)
    refine lv_iconst (pc := 23) (v := 0) hx hb d_G_scans_23 (by decide) ?_
    refine lv_istore_n (pc := 24) (lv' := [(3, .int (0 : Int32)), (2, .int (0 : Int32)), (0, .ref (a 0)), (1, .int p0)]) hx hb d_G_scans_24 rfl hl (by decide) rfl (fun ls hl => ?_)
    exact False.elim hf
  replace hf := hf.2 hc
  subst hf
  obtain ⟨qa, hstr⟩ := hE.2.2.2.2.2 (92, "many is not 1 .. 100") (by decide +kernel)
  exact w_thr (pc := 11) hfl hx hb hlk hml hl.1 hno hown (hts _ (List.mem_cons_of_mem _ tq_G_77)) (hts _ (List.mem_cons_of_mem _ tn_eA)) (hts _ (List.mem_cons_of_mem _ tz_eA)) (by decide +kernel) (te_atoms xa_A (fun w h => List.mem_cons_of_mem _ h) hts hE) hstr ⟨Nat.le_of_ble_eq_true rfl, Nat.le_of_ble_eq_true rfl, Nat.le_of_ble_eq_true rfl, Nat.le_of_ble_eq_true rfl⟩ d_G_scans_11 d_G_scans_14 d_G_scans_15 d_G_scans_17 d_G_scans_20
def wpT_G_map (S : GS) (p0 : Int32) (p1 : Int32) (p2 : Int32) (p3 : Int32) (p4 : Int32) (E : String) : Prop := (wpT_G_requireLayer p0 E ∨ (wp_G_requireLayer p0 (fun _ => (wpT_G_requireKey p1 E ∨ (wp_G_requireKey p1 (fun _ => (wp_G_isAction p2 p3 p4 (fun r13 => ((r13 = (0 : Int32) → (E = eA)) ∧ (¬ r13 = (0 : Int32) → False))))))))))
abbrev rmT_G_map : Room := { frames := 7, cells := 1, slots := 6, locals := 102 }
set_option maxHeartbeats 4000000 in
set_option maxRecDepth 100000 in
theorem ct_G_map (l : Launch) (hfl : l.flags = flags0) (D : va_G) (cI cZ cJ : ClassId) (a : Nat → Nat) (S : GS) (p0 : Int32) (p1 : Int32) (p2 : Int32) (p3 : Int32) (p4 : Int32) (E : String) (hf : wpT_G_map S p0 p1 p2 p3 p4 E) : MetT l y_G_map ws_G_map rmT_G_map (va_Pc [.ref (a 0), .int p0, .int p1, .int p2, .int p3, .int p4] (fun U => TE U ∧ rPre D (tys cI cZ cJ) (gkW cI cZ cJ a S) U)) E := by
  refine gt_r (cc := b_G_map) (maxL := 6) (by decide) rfl (Nat.le_of_ble_eq_true rfl) ?_
  intro p e s m args below meth c ls hx hb hts hown hlk hml hno hE hK hP hl
  have hl : lv_has ls 6 [(0, .ref (a 0)), (1, .int p0), (2, .int p1), (3, .int p2), (4, .int p3), (5, .int p4)] := hl
  have hinG : ∀ w ∈ u_ws R_G T_G 9, w ∈ ws_G_map := fun w h => List.mem_cons_of_mem _ (tl_G w h)
  have hl33 := hts _ (List.mem_cons_of_mem _ tf_G_33)
  unfold wpT_G_map at hf
  refine lv_iload_n (pc := 0) hx hb d_G_map_0 rfl (lv_at hl 1 rfl) ?_
  rcases hf with hf | hf
  · exact w_passS (pc := 1) (As := [.int p0]) (rest := []) ⟨hx, hb, hml, hown, hts⟩ (ct_G_requireLayer l hfl _ _ hf) rfl (cwS 1 hts (tb_wsS tc_G_requireLayer tm_G_108 ts_G_requireLayer tz_G) rfl rfl rfl (by decide +kernel) ⟨Nat.le_of_ble_eq_true rfl, Nat.le_of_ble_eq_true rfl⟩) (te_preS hE) rfl hl.1 rfl (Nat.le_of_ble_eq_true rfl) d_G_map_1 ⟨Nat.le_of_ble_eq_true rfl, Nat.le_of_ble_eq_true rfl⟩ hlk hno
  refine va_csv (pc := 1) (W.runS (As := [.int p0]) (rest := []) ⟨hx, hb, hml, hown, hts⟩ (c_G_requireLayer l _ _ hf) (cwS 1 hts (tb_wsS tc_G_requireLayer tm_G_108 ts_G_requireLayer tz_G) rfl rfl rfl (by decide +kernel) ⟨Nat.le_of_ble_eq_true rfl, Nat.le_of_ble_eq_true rfl⟩) p_preS rfl rfl hl.1 rfl (lv_room (Nat.le_of_ble_eq_true rfl)) d_G_map_1 ⟨Nat.zero_le _, Nat.zero_le _⟩) (fun hf => ?_)
  refine lv_iload_n (pc := 4) hx hb d_G_map_4 rfl (lv_at hl 2 rfl) ?_
  rcases hf with hf | hf
  · exact w_passS (pc := 5) (As := [.int p1]) (rest := []) ⟨hx, hb, hml, hown, hts⟩ (ct_G_requireKey l hfl _ _ hf) rfl (cwS 1 hts (tb_wsS tc_G_requireKey tm_G_69 ts_G_requireKey tz_G) rfl rfl rfl (by decide +kernel) ⟨Nat.le_of_ble_eq_true rfl, Nat.le_of_ble_eq_true rfl⟩) (te_preS hE) rfl hl.1 rfl (Nat.le_of_ble_eq_true rfl) d_G_map_5 ⟨Nat.le_of_ble_eq_true rfl, Nat.le_of_ble_eq_true rfl⟩ hlk hno
  refine va_csv (pc := 5) (W.runS (As := [.int p1]) (rest := []) ⟨hx, hb, hml, hown, hts⟩ (c_G_requireKey l _ _ hf) (cwS 1 hts (tb_wsS tc_G_requireKey tm_G_69 ts_G_requireKey tz_G) rfl rfl rfl (by decide +kernel) ⟨Nat.le_of_ble_eq_true rfl, Nat.le_of_ble_eq_true rfl⟩) p_preS rfl rfl hl.1 rfl (lv_room (Nat.le_of_ble_eq_true rfl)) d_G_map_5 ⟨Nat.zero_le _, Nat.zero_le _⟩) (fun hf => ?_)
  refine lv_iload_n (pc := 8) hx hb d_G_map_8 rfl (lv_at hl 3 rfl) ?_
  refine lv_iload (pc := 9) hx hb d_G_map_9 (lv_at hl 4 rfl) ?_
  refine lv_iload (pc := 11) hx hb d_G_map_11 (lv_at hl 5 rfl) ?_
  refine vp_callSi (pc := 13) (W.runS (As := [.int p2, .int p3, .int p4]) (rest := []) ⟨hx, hb, hml, hown, hts⟩ (c_G_isAction l _ _ _ _ hf) (cwS 3 hts (tb_wsS tc_G_isAction tm_G_111 ts_G_isAction tz_G) rfl rfl rfl (by decide +kernel) ⟨Nat.le_of_ble_eq_true rfl, Nat.le_of_ble_eq_true rfl⟩) p_preS rfl rfl hl.1 rfl (lv_room (Nat.le_of_ble_eq_true rfl)) d_G_map_13 ⟨Nat.zero_le _, Nat.zero_le _⟩) (fun r13 hf => ?_)
  refine lv_if_ne (pc := 16) (tgt := 29) hx hb d_G_map_16 (by decide) (fun hc => ?_) (fun hc => ?_)
  · replace hf := hf.2 hc
    refine lv_aload_n (pc := 29) hx hb d_G_map_29 rfl (lv_at hl 0 rfl) ?_
    refine gk_gt_G_keymap (pc := 30) hx hb hK hts hinG hown hP hl33 d_G_map_30 ?_
    refine lv_iload_n (pc := 33) hx hb d_G_map_33 rfl (lv_at hl 1 rfl) ?_
    refine lv_iload_n (pc := 34) hx hb d_G_map_34 rfl (lv_at hl 2 rfl) ?_
    refine lv_iload_n (pc := 35) hx hb d_G_map_35 rfl (lv_at hl 3 rfl) ?_
    refine lv_iload (pc := 36) hx hb d_G_map_36 (lv_at hl 4 rfl) ?_
    refine lv_iload (pc := 38) hx hb d_G_map_38 (lv_at hl 5 rfl) ?_
    exact False.elim hf
  replace hf := hf.1 hc
  subst hf
  obtain ⟨qa, hstr⟩ := hE.2.2.2.2.2 (115, "no such action") (by decide +kernel)
  exact w_thr (pc := 19) hfl hx hb hlk hml hl.1 hno hown (hts _ (List.mem_cons_of_mem _ tq_G_77)) (hts _ (List.mem_cons_of_mem _ tn_eA)) (hts _ (List.mem_cons_of_mem _ tz_eA)) (by decide +kernel) (te_atoms xa_A (fun w h => List.mem_cons_of_mem _ h) hts hE) hstr ⟨Nat.le_of_ble_eq_true rfl, Nat.le_of_ble_eq_true rfl, Nat.le_of_ble_eq_true rfl, Nat.le_of_ble_eq_true rfl⟩ d_G_map_19 d_G_map_22 d_G_map_23 d_G_map_25 d_G_map_28
def JT_G_macro_49 (S : GS) (E : String) (x1 : Int32) (x2 : Int32) (x3 : Int32) : Prop := False
def wpT_G_macro (S : GS) (p0 : Int32) (p1 : Int32) (p2 : Int32) (E : String) : Prop := ((p0 < (0 : Int32) → (E = eI)) ∧ (¬ p0 < (0 : Int32) → (((4 : Int32) ≤ p0 → (E = eI)) ∧ (¬ (4 : Int32) ≤ p0 → ((p1 < (0 : Int32) → (E = eI)) ∧ (¬ p1 < (0 : Int32) → ((p1 < (4 : Int32) → ((p2 = (0 : Int32) → (JT_G_macro_49 S E p0 p1 p2)) ∧ (¬ p2 = (0 : Int32) → (wp_G_isCode p2 (fun r33 => ((r33 = (0 : Int32) → (E = eA)) ∧ (¬ r33 = (0 : Int32) → (JT_G_macro_49 S E p0 p1 p2)))))))) ∧ (¬ p1 < (4 : Int32) → (E = eI)))))))))
abbrev rmT_G_macro : Room := { frames := 6, cells := 1, slots := 6, locals := 82 }
set_option maxHeartbeats 4000000 in
set_option maxRecDepth 100000 in
theorem ct_G_macro (l : Launch) (hfl : l.flags = flags0) (D : va_G) (cI cZ cJ : ClassId) (a : Nat → Nat) (S : GS) (p0 : Int32) (p1 : Int32) (p2 : Int32) (E : String) (hf : wpT_G_macro S p0 p1 p2 E) : MetT l y_G_macro ws_G_macro rmT_G_macro (va_Pc [.ref (a 0), .int p0, .int p1, .int p2] (fun U => TE U ∧ rPre D (tys cI cZ cJ) (gkW cI cZ cJ a S) U)) E := by
  refine gt_r (cc := b_G_macro) (maxL := 4) (by decide) rfl (Nat.le_of_ble_eq_true rfl) ?_
  intro p e s m args below meth c ls hx hb hts hown hlk hml hno hE hK hP hl
  have hl : lv_has ls 4 [(0, .ref (a 0)), (1, .int p0), (2, .int p1), (3, .int p2)] := hl
  have hinG : ∀ w ∈ u_ws R_G T_G 9, w ∈ ws_G_macro := fun w h => List.mem_cons_of_mem _ (tl_G w h)
  have hl33 := hts _ (List.mem_cons_of_mem _ tf_G_33)
  have jn49 : ∀ (x1 : Int32) (x2 : Int32) (x3 : Int32) (ls : Array Slot), lv_has ls 4 [(0, .ref (a 0)), (1, .int x1), (2, .int x2), (3, .int x3)] → JT_G_macro_49 S E x1 x2 x3 → W p l e rmT_G_macro s m args below meth c s.heap [] 0 0 (MT below E s) (F0 m 49 ls []) := by
    intro x1 x2 x3 ls hl hf
    unfold JT_G_macro_49 at hf
    refine lv_aload_n (pc := 49) hx hb d_G_macro_49 rfl (lv_at hl 0 rfl) ?_
    refine gk_gt_G_keymap (pc := 50) hx hb hK hts hinG hown hP hl33 d_G_macro_50 ?_
    refine lv_iload_n (pc := 53) hx hb d_G_macro_53 rfl (lv_at hl 1 rfl) ?_
    refine lv_iload_n (pc := 54) hx hb d_G_macro_54 rfl (lv_at hl 2 rfl) ?_
    refine lv_iload_n (pc := 55) hx hb d_G_macro_55 rfl (lv_at hl 3 rfl) ?_
    exact False.elim hf
  unfold wpT_G_macro at hf
  refine lv_iload_n (pc := 0) hx hb d_G_macro_0 rfl (lv_at hl 1 rfl) ?_
  refine lv_if_lt (pc := 1) (tgt := 18) hx hb d_G_macro_1 (by decide) (fun hc => ?_) (fun hc => ?_)
  · replace hf := hf.1 hc
    subst hf
    obtain ⟨qa, hstr⟩ := hE.2.2.2.2.2 (123, "no such place in a macro") (by decide +kernel)
    exact w_thr (pc := 18) hfl hx hb hlk hml hl.1 hno hown (hts _ (List.mem_cons_of_mem _ tq_G_121)) (hts _ (List.mem_cons_of_mem _ tn_eI)) (hts _ (List.mem_cons_of_mem _ tz_eI)) (by decide +kernel) (te_atoms xa_I (fun w h => List.mem_cons_of_mem _ h) hts hE) hstr ⟨Nat.le_of_ble_eq_true rfl, Nat.le_of_ble_eq_true rfl, Nat.le_of_ble_eq_true rfl, Nat.le_of_ble_eq_true rfl⟩ d_G_macro_18 d_G_macro_21 d_G_macro_22 d_G_macro_24 d_G_macro_27
  replace hf := hf.2 hc
  refine lv_iload_n (pc := 4) hx hb d_G_macro_4 rfl (lv_at hl 1 rfl) ?_
  refine lv_iconst (pc := 5) (v := 4) hx hb d_G_macro_5 (by decide) ?_
  refine lv_icmp_ge (pc := 6) (tgt := 18) hx hb d_G_macro_6 (by decide) (fun hc => ?_) (fun hc => ?_)
  · replace hf := hf.1 hc
    subst hf
    obtain ⟨qa, hstr⟩ := hE.2.2.2.2.2 (123, "no such place in a macro") (by decide +kernel)
    exact w_thr (pc := 18) hfl hx hb hlk hml hl.1 hno hown (hts _ (List.mem_cons_of_mem _ tq_G_121)) (hts _ (List.mem_cons_of_mem _ tn_eI)) (hts _ (List.mem_cons_of_mem _ tz_eI)) (by decide +kernel) (te_atoms xa_I (fun w h => List.mem_cons_of_mem _ h) hts hE) hstr ⟨Nat.le_of_ble_eq_true rfl, Nat.le_of_ble_eq_true rfl, Nat.le_of_ble_eq_true rfl, Nat.le_of_ble_eq_true rfl⟩ d_G_macro_18 d_G_macro_21 d_G_macro_22 d_G_macro_24 d_G_macro_27
  replace hf := hf.2 hc
  refine lv_iload_n (pc := 9) hx hb d_G_macro_9 rfl (lv_at hl 2 rfl) ?_
  refine lv_if_lt (pc := 10) (tgt := 18) hx hb d_G_macro_10 (by decide) (fun hc => ?_) (fun hc => ?_)
  · replace hf := hf.1 hc
    subst hf
    obtain ⟨qa, hstr⟩ := hE.2.2.2.2.2 (123, "no such place in a macro") (by decide +kernel)
    exact w_thr (pc := 18) hfl hx hb hlk hml hl.1 hno hown (hts _ (List.mem_cons_of_mem _ tq_G_121)) (hts _ (List.mem_cons_of_mem _ tn_eI)) (hts _ (List.mem_cons_of_mem _ tz_eI)) (by decide +kernel) (te_atoms xa_I (fun w h => List.mem_cons_of_mem _ h) hts hE) hstr ⟨Nat.le_of_ble_eq_true rfl, Nat.le_of_ble_eq_true rfl, Nat.le_of_ble_eq_true rfl, Nat.le_of_ble_eq_true rfl⟩ d_G_macro_18 d_G_macro_21 d_G_macro_22 d_G_macro_24 d_G_macro_27
  replace hf := hf.2 hc
  refine lv_iload_n (pc := 13) hx hb d_G_macro_13 rfl (lv_at hl 2 rfl) ?_
  refine lv_iconst (pc := 14) (v := 4) hx hb d_G_macro_14 (by decide) ?_
  refine lv_icmp_lt (pc := 15) (tgt := 28) hx hb d_G_macro_15 (by decide) (fun hc => ?_) (fun hc => ?_)
  · replace hf := hf.1 hc
    refine lv_iload_n (pc := 28) hx hb d_G_macro_28 rfl (lv_at hl 3 rfl) ?_
    refine lv_if_eq (pc := 29) (tgt := 49) hx hb d_G_macro_29 (by decide) (fun hc => ?_) (fun hc => ?_)
    · replace hf := hf.1 hc
      exact jn49 p0 p1 p2 _ (lv_sub hl [0, 1, 2, 3] rfl) hf
    replace hf := hf.2 hc
    refine lv_iload_n (pc := 32) hx hb d_G_macro_32 rfl (lv_at hl 3 rfl) ?_
    refine vp_callSi (pc := 33) (W.runS (As := [.int p2]) (rest := []) ⟨hx, hb, hml, hown, hts⟩ (c_G_isCode l _ _ hf) (cwS 1 hts (tb_wsS tc_G_isCode tm_G_126 ts_G_isCode tz_G) rfl rfl rfl (by decide +kernel) ⟨Nat.le_of_ble_eq_true rfl, Nat.le_of_ble_eq_true rfl⟩) p_preS rfl rfl hl.1 rfl (lv_room (Nat.le_of_ble_eq_true rfl)) d_G_macro_33 ⟨Nat.zero_le _, Nat.zero_le _⟩) (fun r33 hf => ?_)
    refine lv_if_ne (pc := 36) (tgt := 49) hx hb d_G_macro_36 (by decide) (fun hc => ?_) (fun hc => ?_)
    · replace hf := hf.2 hc
      exact jn49 p0 p1 p2 _ (lv_sub hl [0, 1, 2, 3] rfl) hf
    replace hf := hf.1 hc
    subst hf
    obtain ⟨qa, hstr⟩ := hE.2.2.2.2.2 (130, "neither 0 nor a code") (by decide +kernel)
    exact w_thr (pc := 39) hfl hx hb hlk hml hl.1 hno hown (hts _ (List.mem_cons_of_mem _ tq_G_77)) (hts _ (List.mem_cons_of_mem _ tn_eA)) (hts _ (List.mem_cons_of_mem _ tz_eA)) (by decide +kernel) (te_atoms xa_A (fun w h => List.mem_cons_of_mem _ h) hts hE) hstr ⟨Nat.le_of_ble_eq_true rfl, Nat.le_of_ble_eq_true rfl, Nat.le_of_ble_eq_true rfl, Nat.le_of_ble_eq_true rfl⟩ d_G_macro_39 d_G_macro_42 d_G_macro_43 d_G_macro_45 d_G_macro_48
  replace hf := hf.2 hc
  subst hf
  obtain ⟨qa, hstr⟩ := hE.2.2.2.2.2 (123, "no such place in a macro") (by decide +kernel)
  exact w_thr (pc := 18) hfl hx hb hlk hml hl.1 hno hown (hts _ (List.mem_cons_of_mem _ tq_G_121)) (hts _ (List.mem_cons_of_mem _ tn_eI)) (hts _ (List.mem_cons_of_mem _ tz_eI)) (by decide +kernel) (te_atoms xa_I (fun w h => List.mem_cons_of_mem _ h) hts hE) hstr ⟨Nat.le_of_ble_eq_true rfl, Nat.le_of_ble_eq_true rfl, Nat.le_of_ble_eq_true rfl, Nat.le_of_ble_eq_true rfl⟩ d_G_macro_18 d_G_macro_21 d_G_macro_22 d_G_macro_24 d_G_macro_27
def JT_G_chord_73 (S : GS) (E : String) (x1 : Int32) (x2 : Int32) (x3 : Int32) : Prop := False
def JT_G_chord_47 (S : GS) (E : String) (x1 : Int32) (x2 : Int32) (x3 : Int32) : Prop := ((x2 = (0 : Int32) → (JT_G_chord_73 S E x1 x2 x3)) ∧ (¬ x2 = (0 : Int32) → (wp_Ch_hasElsewhere S x1 x2 (fun r57 => ((r57 = (0 : Int32) → (JT_G_chord_73 S E x1 x2 x3)) ∧ (¬ r57 = (0 : Int32) → (E = eS)))))))
def wpT_G_chord (S : GS) (p0 : Int32) (p1 : Int32) (p2 : Int32) (E : String) : Prop := ((p0 < (0 : Int32) → (E = eI)) ∧ (¬ p0 < (0 : Int32) → ((p0 < (4 : Int32) → ((p1 = (0 : Int32) → (JT_G_chord_47 S E p0 p1 p2)) ∧ (¬ p1 = (0 : Int32) → (wp_G_isChord p1 (fun r24 => ((r24 = (0 : Int32) → (E = eA)) ∧ (¬ r24 = (0 : Int32) → (wp_G_isCode p2 (fun r31 => ((r31 = (0 : Int32) → (E = eA)) ∧ (¬ r31 = (0 : Int32) → (JT_G_chord_47 S E p0 p1 p2)))))))))))) ∧ (¬ p0 < (4 : Int32) → (E = eI)))))
abbrev rmT_G_chord : Room := { frames := 6, cells := 1, slots := 6, locals := 82 }
set_option maxHeartbeats 4000000 in
set_option maxRecDepth 100000 in
theorem ct_G_chord (l : Launch) (hfl : l.flags = flags0) (D : va_G) (cI cZ cJ : ClassId) (a : Nat → Nat) (S : GS) (p0 : Int32) (p1 : Int32) (p2 : Int32) (E : String) (hf : wpT_G_chord S p0 p1 p2 E) : MetT l y_G_chord ws_G_chord rmT_G_chord (va_Pc [.ref (a 0), .int p0, .int p1, .int p2] (fun U => TE U ∧ rPre D (tys cI cZ cJ) (gkW cI cZ cJ a S) U)) E := by
  refine gt_r (cc := b_G_chord) (maxL := 4) (by decide) rfl (Nat.le_of_ble_eq_true rfl) ?_
  intro p e s m args below meth c ls hx hb hts hown hlk hml hno hE hK hP hl
  have hl : lv_has ls 4 [(0, .ref (a 0)), (1, .int p0), (2, .int p1), (3, .int p2)] := hl
  have hinG : ∀ w ∈ u_ws R_G T_G 9, w ∈ ws_G_chord := fun w h => List.mem_cons_of_mem _ (tl_G w h)
  have hl40 := hts _ (List.mem_cons_of_mem _ tf_G_40)
  have jn73 : ∀ (x1 : Int32) (x2 : Int32) (x3 : Int32) (ls : Array Slot), lv_has ls 4 [(0, .ref (a 0)), (1, .int x1), (2, .int x2), (3, .int x3)] → JT_G_chord_73 S E x1 x2 x3 → W p l e rmT_G_chord s m args below meth c s.heap [] 0 0 (MT below E s) (F0 m 73 ls []) := by
    intro x1 x2 x3 ls hl hf
    unfold JT_G_chord_73 at hf
    refine lv_aload_n (pc := 73) hx hb d_G_chord_73 rfl (lv_at hl 0 rfl) ?_
    refine gk_gt_G_chords (pc := 74) hx hb hK hts hinG hown hP hl40 d_G_chord_74 ?_
    refine lv_iload_n (pc := 77) hx hb d_G_chord_77 rfl (lv_at hl 1 rfl) ?_
    refine lv_iload_n (pc := 78) hx hb d_G_chord_78 rfl (lv_at hl 2 rfl) ?_
    refine lv_iload_n (pc := 79) hx hb d_G_chord_79 rfl (lv_at hl 3 rfl) ?_
    exact False.elim hf
  have jn47 : ∀ (x1 : Int32) (x2 : Int32) (x3 : Int32) (ls : Array Slot), lv_has ls 4 [(0, .ref (a 0)), (1, .int x1), (2, .int x2), (3, .int x3)] → JT_G_chord_47 S E x1 x2 x3 → W p l e rmT_G_chord s m args below meth c s.heap [] 0 0 (MT below E s) (F0 m 47 ls []) := by
    intro x1 x2 x3 ls hl hf
    unfold JT_G_chord_47 at hf
    refine lv_iload_n (pc := 47) hx hb d_G_chord_47 rfl (lv_at hl 2 rfl) ?_
    refine lv_if_eq (pc := 48) (tgt := 73) hx hb d_G_chord_48 (by decide) (fun hc => ?_) (fun hc => ?_)
    · replace hf := hf.1 hc
      exact jn73 x1 x2 x3 _ (lv_sub hl [0, 1, 2, 3] rfl) hf
    replace hf := hf.2 hc
    refine lv_aload_n (pc := 51) hx hb d_G_chord_51 rfl (lv_at hl 0 rfl) ?_
    refine gk_gt_G_chords (pc := 52) hx hb hK hts hinG hown hP hl40 d_G_chord_52 ?_
    refine lv_iload_n (pc := 55) hx hb d_G_chord_55 rfl (lv_at hl 1 rfl) ?_
    refine lv_iload_n (pc := 56) hx hb d_G_chord_56 rfl (lv_at hl 2 rfl) ?_
    refine vp_callSi (pc := 57) (W.runV (As := [.int x1, .int x2]) (rest := []) ⟨hx, hb, hml, hown, hts⟩ (c_Ch_hasElsewhere l D cI cZ cJ a _ _ _ _ hf) (cwV 2 hts (tb_wsV tc_Ch_hasElsewhere tm_G_143 ti_Ch_hasElsewhere te_Ch_hasElsewhere tz_Ch) rfl rfl rfl (by decide +kernel) ⟨Nat.le_of_ble_eq_true rfl, Nat.le_of_ble_eq_true rfl⟩) (r_preV (q0 := 5) (ci := 5) hK hP rfl rfl) rfl rfl hl.1 rfl (lv_room (Nat.le_of_ble_eq_true rfl)) d_G_chord_57 ⟨Nat.zero_le _, Nat.zero_le _⟩) (fun r57 hf => ?_)
    refine lv_if_eq (pc := 60) (tgt := 73) hx hb d_G_chord_60 (by decide) (fun hc => ?_) (fun hc => ?_)
    · replace hf := hf.1 hc
      exact jn73 x1 x2 x3 _ (lv_sub hl [0, 1, 2, 3] rfl) hf
    replace hf := hf.2 hc
    subst hf
    obtain ⟨qa, hstr⟩ := hE.2.2.2.2.2 (149, "another chord has just these keys") (by decide +kernel)
    exact w_thr (pc := 63) hfl hx hb hlk hml hl.1 hno hown (hts _ (List.mem_cons_of_mem _ tq_G_147)) (hts _ (List.mem_cons_of_mem _ tn_eS)) (hts _ (List.mem_cons_of_mem _ tz_eS)) (by decide +kernel) (te_atoms xa_S (fun w h => List.mem_cons_of_mem _ h) hts hE) hstr ⟨Nat.le_of_ble_eq_true rfl, Nat.le_of_ble_eq_true rfl, Nat.le_of_ble_eq_true rfl, Nat.le_of_ble_eq_true rfl⟩ d_G_chord_63 d_G_chord_66 d_G_chord_67 d_G_chord_69 d_G_chord_72
  unfold wpT_G_chord at hf
  refine lv_iload_n (pc := 0) hx hb d_G_chord_0 rfl (lv_at hl 1 rfl) ?_
  refine lv_if_lt (pc := 1) (tgt := 9) hx hb d_G_chord_1 (by decide) (fun hc => ?_) (fun hc => ?_)
  · replace hf := hf.1 hc
    subst hf
    obtain ⟨qa, hstr⟩ := hE.2.2.2.2.2 (136, "no such chord") (by decide +kernel)
    exact w_thr (pc := 9) hfl hx hb hlk hml hl.1 hno hown (hts _ (List.mem_cons_of_mem _ tq_G_121)) (hts _ (List.mem_cons_of_mem _ tn_eI)) (hts _ (List.mem_cons_of_mem _ tz_eI)) (by decide +kernel) (te_atoms xa_I (fun w h => List.mem_cons_of_mem _ h) hts hE) hstr ⟨Nat.le_of_ble_eq_true rfl, Nat.le_of_ble_eq_true rfl, Nat.le_of_ble_eq_true rfl, Nat.le_of_ble_eq_true rfl⟩ d_G_chord_9 d_G_chord_12 d_G_chord_13 d_G_chord_15 d_G_chord_18
  replace hf := hf.2 hc
  refine lv_iload_n (pc := 4) hx hb d_G_chord_4 rfl (lv_at hl 1 rfl) ?_
  refine lv_iconst (pc := 5) (v := 4) hx hb d_G_chord_5 (by decide) ?_
  refine lv_icmp_lt (pc := 6) (tgt := 19) hx hb d_G_chord_6 (by decide) (fun hc => ?_) (fun hc => ?_)
  · replace hf := hf.1 hc
    refine lv_iload_n (pc := 19) hx hb d_G_chord_19 rfl (lv_at hl 2 rfl) ?_
    refine lv_if_eq (pc := 20) (tgt := 47) hx hb d_G_chord_20 (by decide) (fun hc => ?_) (fun hc => ?_)
    · replace hf := hf.1 hc
      exact jn47 p0 p1 p2 _ (lv_sub hl [0, 1, 2, 3] rfl) hf
    replace hf := hf.2 hc
    refine lv_iload_n (pc := 23) hx hb d_G_chord_23 rfl (lv_at hl 2 rfl) ?_
    refine vp_callSi (pc := 24) (W.runS (As := [.int p1]) (rest := []) ⟨hx, hb, hml, hown, hts⟩ (c_G_isChord l _ _ hf) (cwS 1 hts (tb_wsS tc_G_isChord tm_G_138 ts_G_isChord tz_G) rfl rfl rfl (by decide +kernel) ⟨Nat.le_of_ble_eq_true rfl, Nat.le_of_ble_eq_true rfl⟩) p_preS rfl rfl hl.1 rfl (lv_room (Nat.le_of_ble_eq_true rfl)) d_G_chord_24 ⟨Nat.zero_le _, Nat.zero_le _⟩) (fun r24 hf => ?_)
    refine lv_if_eq (pc := 27) (tgt := 37) hx hb d_G_chord_27 (by decide) (fun hc => ?_) (fun hc => ?_)
    · replace hf := hf.1 hc
      subst hf
      obtain ⟨qa, hstr⟩ := hE.2.2.2.2.2 (141, "not the keys or not the code of a chord") (by decide +kernel)
      exact w_thr (pc := 37) hfl hx hb hlk hml hl.1 hno hown (hts _ (List.mem_cons_of_mem _ tq_G_77)) (hts _ (List.mem_cons_of_mem _ tn_eA)) (hts _ (List.mem_cons_of_mem _ tz_eA)) (by decide +kernel) (te_atoms xa_A (fun w h => List.mem_cons_of_mem _ h) hts hE) hstr ⟨Nat.le_of_ble_eq_true rfl, Nat.le_of_ble_eq_true rfl, Nat.le_of_ble_eq_true rfl, Nat.le_of_ble_eq_true rfl⟩ d_G_chord_37 d_G_chord_40 d_G_chord_41 d_G_chord_43 d_G_chord_46
    replace hf := hf.2 hc
    refine lv_iload_n (pc := 30) hx hb d_G_chord_30 rfl (lv_at hl 3 rfl) ?_
    refine vp_callSi (pc := 31) (W.runS (As := [.int p2]) (rest := []) ⟨hx, hb, hml, hown, hts⟩ (c_G_isCode l _ _ hf) (cwS 1 hts (tb_wsS tc_G_isCode tm_G_126 ts_G_isCode tz_G) rfl rfl rfl (by decide +kernel) ⟨Nat.le_of_ble_eq_true rfl, Nat.le_of_ble_eq_true rfl⟩) p_preS rfl rfl hl.1 rfl (lv_room (Nat.le_of_ble_eq_true rfl)) d_G_chord_31 ⟨Nat.zero_le _, Nat.zero_le _⟩) (fun r31 hf => ?_)
    refine lv_if_ne (pc := 34) (tgt := 47) hx hb d_G_chord_34 (by decide) (fun hc => ?_) (fun hc => ?_)
    · replace hf := hf.2 hc
      exact jn47 p0 p1 p2 _ (lv_sub hl [0, 1, 2, 3] rfl) hf
    replace hf := hf.1 hc
    subst hf
    obtain ⟨qa, hstr⟩ := hE.2.2.2.2.2 (141, "not the keys or not the code of a chord") (by decide +kernel)
    exact w_thr (pc := 37) hfl hx hb hlk hml hl.1 hno hown (hts _ (List.mem_cons_of_mem _ tq_G_77)) (hts _ (List.mem_cons_of_mem _ tn_eA)) (hts _ (List.mem_cons_of_mem _ tz_eA)) (by decide +kernel) (te_atoms xa_A (fun w h => List.mem_cons_of_mem _ h) hts hE) hstr ⟨Nat.le_of_ble_eq_true rfl, Nat.le_of_ble_eq_true rfl, Nat.le_of_ble_eq_true rfl, Nat.le_of_ble_eq_true rfl⟩ d_G_chord_37 d_G_chord_40 d_G_chord_41 d_G_chord_43 d_G_chord_46
  replace hf := hf.2 hc
  subst hf
  obtain ⟨qa, hstr⟩ := hE.2.2.2.2.2 (136, "no such chord") (by decide +kernel)
  exact w_thr (pc := 9) hfl hx hb hlk hml hl.1 hno hown (hts _ (List.mem_cons_of_mem _ tq_G_121)) (hts _ (List.mem_cons_of_mem _ tn_eI)) (hts _ (List.mem_cons_of_mem _ tz_eI)) (by decide +kernel) (te_atoms xa_I (fun w h => List.mem_cons_of_mem _ h) hts hE) hstr ⟨Nat.le_of_ble_eq_true rfl, Nat.le_of_ble_eq_true rfl, Nat.le_of_ble_eq_true rfl, Nat.le_of_ble_eq_true rfl⟩ d_G_chord_9 d_G_chord_12 d_G_chord_13 d_G_chord_15 d_G_chord_18
def wpT_G_on (S : GS) (p0 : Int32) (E : String) : Prop := (wpT_G_requireLayer p0 E ∨ (wp_G_requireLayer p0 (fun _ => (wp_La_isOn S p0 (fun r9 => False)))))
abbrev rmT_G_on : Room := { frames := 7, cells := 1, slots := 6, locals := 102 }
set_option maxHeartbeats 4000000 in
set_option maxRecDepth 100000 in
theorem ct_G_on (l : Launch) (hfl : l.flags = flags0) (D : va_G) (cI cZ cJ : ClassId) (a : Nat → Nat) (S : GS) (p0 : Int32) (E : String) (hf : wpT_G_on S p0 E) : MetT l y_G_on ws_G_on rmT_G_on (va_Pc [.ref (a 0), .int p0] (fun U => TE U ∧ rPre D (tys cI cZ cJ) (gkW cI cZ cJ a S) U)) E := by
  refine gt_r (cc := b_G_on) (maxL := 2) (by decide) rfl (Nat.le_of_ble_eq_true rfl) ?_
  intro p e s m args below meth c ls hx hb hts hown hlk hml hno hE hK hP hl
  have hl : lv_has ls 2 [(0, .ref (a 0)), (1, .int p0)] := hl
  have hinG : ∀ w ∈ u_ws R_G T_G 9, w ∈ ws_G_on := fun w h => List.mem_cons_of_mem _ (tl_G w h)
  have hl47 := hts _ (List.mem_cons_of_mem _ tf_G_47)
  unfold wpT_G_on at hf
  refine lv_iload_n (pc := 0) hx hb d_G_on_0 rfl (lv_at hl 1 rfl) ?_
  rcases hf with hf | hf
  · exact w_passS (pc := 1) (As := [.int p0]) (rest := []) ⟨hx, hb, hml, hown, hts⟩ (ct_G_requireLayer l hfl _ _ hf) rfl (cwS 1 hts (tb_wsS tc_G_requireLayer tm_G_108 ts_G_requireLayer tz_G) rfl rfl rfl (by decide +kernel) ⟨Nat.le_of_ble_eq_true rfl, Nat.le_of_ble_eq_true rfl⟩) (te_preS hE) rfl hl.1 rfl (Nat.le_of_ble_eq_true rfl) d_G_on_1 ⟨Nat.le_of_ble_eq_true rfl, Nat.le_of_ble_eq_true rfl⟩ hlk hno
  refine va_csv (pc := 1) (W.runS (As := [.int p0]) (rest := []) ⟨hx, hb, hml, hown, hts⟩ (c_G_requireLayer l _ _ hf) (cwS 1 hts (tb_wsS tc_G_requireLayer tm_G_108 ts_G_requireLayer tz_G) rfl rfl rfl (by decide +kernel) ⟨Nat.le_of_ble_eq_true rfl, Nat.le_of_ble_eq_true rfl⟩) p_preS rfl rfl hl.1 rfl (lv_room (Nat.le_of_ble_eq_true rfl)) d_G_on_1 ⟨Nat.zero_le _, Nat.zero_le _⟩) (fun hf => ?_)
  refine lv_aload_n (pc := 4) hx hb d_G_on_4 rfl (lv_at hl 0 rfl) ?_
  refine gk_gt_G_layers (pc := 5) hx hb hK hts hinG hown hP hl47 d_G_on_5 ?_
  refine lv_iload_n (pc := 8) hx hb d_G_on_8 rfl (lv_at hl 1 rfl) ?_
  refine vp_callSi (pc := 9) (W.runV (As := [.int p0]) (rest := []) ⟨hx, hb, hml, hown, hts⟩ (c_La_isOn l D cI cZ cJ a _ _ _ hf) (cwV 1 hts (tb_wsV tc_La_isOn tm_G_155 ti_La_isOn te_La_isOn tz_La) rfl rfl rfl (by decide +kernel) ⟨Nat.le_of_ble_eq_true rfl, Nat.le_of_ble_eq_true rfl⟩) (r_preV (q0 := 6) (ci := 6) hK hP rfl rfl) rfl rfl hl.1 rfl (lv_room (Nat.le_of_ble_eq_true rfl)) d_G_on_9 ⟨Nat.zero_le _, Nat.zero_le _⟩) (fun r9 hf => ?_)
  exact False.elim hf
def wpT_G_top (S : GS) (p0 : Int32) (E : String) : Prop := (wpT_G_requireKey p0 E ∨ (wp_G_requireKey p0 (fun _ => (wp_Km_topLayer S p0 (fun r13 => False)))))
abbrev rmT_G_top : Room := { frames := 7, cells := 1, slots := 6, locals := 102 }
set_option maxHeartbeats 4000000 in
set_option maxRecDepth 100000 in
theorem ct_G_top (l : Launch) (hfl : l.flags = flags0) (D : va_G) (cI cZ cJ : ClassId) (a : Nat → Nat) (S : GS) (p0 : Int32) (E : String) (hf : wpT_G_top S p0 E) : MetT l y_G_top ws_G_top rmT_G_top (va_Pc [.ref (a 0), .int p0] (fun U => TE U ∧ rPre D (tys cI cZ cJ) (gkW cI cZ cJ a S) U)) E := by
  refine gt_r (cc := b_G_top) (maxL := 2) (by decide) rfl (Nat.le_of_ble_eq_true rfl) ?_
  intro p e s m args below meth c ls hx hb hts hown hlk hml hno hE hK hP hl
  have hl : lv_has ls 2 [(0, .ref (a 0)), (1, .int p0)] := hl
  have hinG : ∀ w ∈ u_ws R_G T_G 9, w ∈ ws_G_top := fun w h => List.mem_cons_of_mem _ (tl_G w h)
  have hl33 := hts _ (List.mem_cons_of_mem _ tf_G_33)
  have hl47 := hts _ (List.mem_cons_of_mem _ tf_G_47)
  unfold wpT_G_top at hf
  refine lv_iload_n (pc := 0) hx hb d_G_top_0 rfl (lv_at hl 1 rfl) ?_
  rcases hf with hf | hf
  · exact w_passS (pc := 1) (As := [.int p0]) (rest := []) ⟨hx, hb, hml, hown, hts⟩ (ct_G_requireKey l hfl _ _ hf) rfl (cwS 1 hts (tb_wsS tc_G_requireKey tm_G_69 ts_G_requireKey tz_G) rfl rfl rfl (by decide +kernel) ⟨Nat.le_of_ble_eq_true rfl, Nat.le_of_ble_eq_true rfl⟩) (te_preS hE) rfl hl.1 rfl (Nat.le_of_ble_eq_true rfl) d_G_top_1 ⟨Nat.le_of_ble_eq_true rfl, Nat.le_of_ble_eq_true rfl⟩ hlk hno
  refine va_csv (pc := 1) (W.runS (As := [.int p0]) (rest := []) ⟨hx, hb, hml, hown, hts⟩ (c_G_requireKey l _ _ hf) (cwS 1 hts (tb_wsS tc_G_requireKey tm_G_69 ts_G_requireKey tz_G) rfl rfl rfl (by decide +kernel) ⟨Nat.le_of_ble_eq_true rfl, Nat.le_of_ble_eq_true rfl⟩) p_preS rfl rfl hl.1 rfl (lv_room (Nat.le_of_ble_eq_true rfl)) d_G_top_1 ⟨Nat.zero_le _, Nat.zero_le _⟩) (fun hf => ?_)
  refine lv_aload_n (pc := 4) hx hb d_G_top_4 rfl (lv_at hl 0 rfl) ?_
  refine gk_gt_G_keymap (pc := 5) hx hb hK hts hinG hown hP hl33 d_G_top_5 ?_
  refine lv_iload_n (pc := 8) hx hb d_G_top_8 rfl (lv_at hl 1 rfl) ?_
  refine lv_aload_n (pc := 9) hx hb d_G_top_9 rfl (lv_at hl 0 rfl) ?_
  refine gk_gt_G_layers (pc := 10) hx hb hK hts hinG hown hP hl47 d_G_top_10 ?_
  refine vp_callSi (pc := 13) (W.runV (As := [.int p0, .ref (a 6)]) (rest := []) ⟨hx, hb, hml, hown, hts⟩ (c_Km_topLayer l D cI cZ cJ a _ _ _ hf) (cwV 2 hts (tb_wsV tc_Km_topLayer tm_G_158 ti_Km_topLayer te_Km_topLayer tz_Km) rfl rfl rfl (by decide +kernel) ⟨Nat.le_of_ble_eq_true rfl, Nat.le_of_ble_eq_true rfl⟩) (r_preV (q0 := 4) (ci := 4) hK hP rfl rfl) rfl rfl hl.1 rfl (lv_room (Nat.le_of_ble_eq_true rfl)) d_G_top_13 ⟨Nat.zero_le _, Nat.zero_le _⟩) (fun r13 hf => ?_)
  exact False.elim hf
def wpT_G_key (S : GS) (p0 : Int32) (p1 : Int32) (E : String) : Prop := (wpT_G_requireKey p0 E ∨ (wp_G_requireKey p0 (fun _ => ((p1 < (0 : Int32) → (E = eI)) ∧ (¬ p1 < (0 : Int32) → ((p1 ≤ (3 : Int32) → (wp_Mx_keysThatAre S p1 (fun r28 => False))) ∧ (¬ p1 ≤ (3 : Int32) → (E = eI))))))))
abbrev rmT_G_key : Room := { frames := 7, cells := 1, slots := 6, locals := 102 }
set_option maxHeartbeats 4000000 in
set_option maxRecDepth 100000 in
theorem ct_G_key (l : Launch) (hfl : l.flags = flags0) (D : va_G) (cI cZ cJ : ClassId) (a : Nat → Nat) (S : GS) (p0 : Int32) (p1 : Int32) (E : String) (hf : wpT_G_key S p0 p1 E) : MetT l y_G_key ws_G_key rmT_G_key (va_Pc [.ref (a 0), .int p0, .int p1] (fun U => TE U ∧ rPre D (tys cI cZ cJ) (gkW cI cZ cJ a S) U)) E := by
  refine gt_r (cc := b_G_key) (maxL := 3) (by decide) rfl (Nat.le_of_ble_eq_true rfl) ?_
  intro p e s m args below meth c ls hx hb hts hown hlk hml hno hE hK hP hl
  have hl : lv_has ls 3 [(0, .ref (a 0)), (1, .int p0), (2, .int p1)] := hl
  have hinG : ∀ w ∈ u_ws R_G T_G 9, w ∈ ws_G_key := fun w h => List.mem_cons_of_mem _ (tl_G w h)
  have hl12 := hts _ (List.mem_cons_of_mem _ tf_G_12)
  unfold wpT_G_key at hf
  refine lv_iload_n (pc := 0) hx hb d_G_key_0 rfl (lv_at hl 1 rfl) ?_
  rcases hf with hf | hf
  · exact w_passS (pc := 1) (As := [.int p0]) (rest := []) ⟨hx, hb, hml, hown, hts⟩ (ct_G_requireKey l hfl _ _ hf) rfl (cwS 1 hts (tb_wsS tc_G_requireKey tm_G_69 ts_G_requireKey tz_G) rfl rfl rfl (by decide +kernel) ⟨Nat.le_of_ble_eq_true rfl, Nat.le_of_ble_eq_true rfl⟩) (te_preS hE) rfl hl.1 rfl (Nat.le_of_ble_eq_true rfl) d_G_key_1 ⟨Nat.le_of_ble_eq_true rfl, Nat.le_of_ble_eq_true rfl⟩ hlk hno
  refine va_csv (pc := 1) (W.runS (As := [.int p0]) (rest := []) ⟨hx, hb, hml, hown, hts⟩ (c_G_requireKey l _ _ hf) (cwS 1 hts (tb_wsS tc_G_requireKey tm_G_69 ts_G_requireKey tz_G) rfl rfl rfl (by decide +kernel) ⟨Nat.le_of_ble_eq_true rfl, Nat.le_of_ble_eq_true rfl⟩) p_preS rfl rfl hl.1 rfl (lv_room (Nat.le_of_ble_eq_true rfl)) d_G_key_1 ⟨Nat.zero_le _, Nat.zero_le _⟩) (fun hf => ?_)
  refine lv_iload_n (pc := 4) hx hb d_G_key_4 rfl (lv_at hl 2 rfl) ?_
  refine lv_if_lt (pc := 5) (tgt := 13) hx hb d_G_key_5 (by decide) (fun hc => ?_) (fun hc => ?_)
  · replace hf := hf.1 hc
    subst hf
    obtain ⟨qa, hstr⟩ := hE.2.2.2.2.2 (162, "what is not 0 .. 3") (by decide +kernel)
    exact w_thr (pc := 13) hfl hx hb hlk hml hl.1 hno hown (hts _ (List.mem_cons_of_mem _ tq_G_121)) (hts _ (List.mem_cons_of_mem _ tn_eI)) (hts _ (List.mem_cons_of_mem _ tz_eI)) (by decide +kernel) (te_atoms xa_I (fun w h => List.mem_cons_of_mem _ h) hts hE) hstr ⟨Nat.le_of_ble_eq_true rfl, Nat.le_of_ble_eq_true rfl, Nat.le_of_ble_eq_true rfl, Nat.le_of_ble_eq_true rfl⟩ d_G_key_13 d_G_key_16 d_G_key_17 d_G_key_19 d_G_key_22
  replace hf := hf.2 hc
  refine lv_iload_n (pc := 8) hx hb d_G_key_8 rfl (lv_at hl 2 rfl) ?_
  refine lv_iconst (pc := 9) (v := 3) hx hb d_G_key_9 (by decide) ?_
  refine lv_icmp_le (pc := 10) (tgt := 23) hx hb d_G_key_10 (by decide) (fun hc => ?_) (fun hc => ?_)
  · replace hf := hf.1 hc
    refine lv_aload_n (pc := 23) hx hb d_G_key_23 rfl (lv_at hl 0 rfl) ?_
    refine gk_gt_G_matrix (pc := 24) hx hb hK hts hinG hown hP hl12 d_G_key_24 ?_
    refine lv_iload_n (pc := 27) hx hb d_G_key_27 rfl (lv_at hl 2 rfl) ?_
    refine vp_callSi (pc := 28) (W.runV (As := [.int p1]) (rest := []) ⟨hx, hb, hml, hown, hts⟩ (c_Mx_keysThatAre l D cI cZ cJ a _ _ _ hf) (cwV 1 hts (tb_wsV tc_Mx_keysThatAre tm_G_164 ti_Mx_keysThatAre te_Mx_keysThatAre tz_Mx) rfl rfl rfl (by decide +kernel) ⟨Nat.le_of_ble_eq_true rfl, Nat.le_of_ble_eq_true rfl⟩) (r_preV (q0 := 1) (ci := 1) hK hP rfl rfl) rfl rfl hl.1 rfl (lv_room (Nat.le_of_ble_eq_true rfl)) d_G_key_28 ⟨Nat.zero_le _, Nat.zero_le _⟩) (fun r28 hf => ?_)
    refine lv_iload_n (pc := 31) hx hb d_G_key_31 rfl (lv_at hl 1 rfl) ?_
    refine lv_ishr (pc := 32) hx hb d_G_key_32 ?_
    refine lv_iconst (pc := 33) (v := 1) hx hb d_G_key_33 (by decide) ?_
    refine lv_iand (pc := 34) hx hb d_G_key_34 ?_
    exact False.elim hf
  replace hf := hf.2 hc
  subst hf
  obtain ⟨qa, hstr⟩ := hE.2.2.2.2.2 (162, "what is not 0 .. 3") (by decide +kernel)
  exact w_thr (pc := 13) hfl hx hb hlk hml hl.1 hno hown (hts _ (List.mem_cons_of_mem _ tq_G_121)) (hts _ (List.mem_cons_of_mem _ tn_eI)) (hts _ (List.mem_cons_of_mem _ tz_eI)) (by decide +kernel) (te_atoms xa_I (fun w h => List.mem_cons_of_mem _ h) hts hE) hstr ⟨Nat.le_of_ble_eq_true rfl, Nat.le_of_ble_eq_true rfl, Nat.le_of_ble_eq_true rfl, Nat.le_of_ble_eq_true rfl⟩ d_G_key_13 d_G_key_16 d_G_key_17 d_G_key_19 d_G_key_22
