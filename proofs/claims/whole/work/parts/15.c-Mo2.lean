def J_Mo_chordOf_75 (S : GS) (post : Int32 → Prop) (k4 : Int32 → Int32 → Int32 → Prop) (x1 : Int32) (x2 : Int32) (x3 : Int32) (x4 : Int32) (x5 : Int32) : Prop := (k4 x1 x3 (x3 + (-1 : Int32)))
def J_Mo_chordOf_50 (S : GS) (post : Int32 → Prop) (k4 : Int32 → Int32 → Int32 → Prop) (x1 : Int32) (x2 : Int32) (x3 : Int32) (x4 : Int32) (y0 : Int32) : Prop := ((y0 = (0 : Int32) → (k4 x1 x2 (x3 + (-1 : Int32)))) ∧ (¬ y0 = (0 : Int32) → ((x2 < (0 : Int32) → (J_Mo_chordOf_75 S post k4 x1 x2 x3 x4 y0)) ∧ (¬ x2 < (0 : Int32) → (vp_in x2 4 ∧ (wp_Mo_bitsOf ((S.1 21) x2.toNatClampNeg) (fun r69 => ((x4 < r69 → (k4 x1 x2 (x3 + (-1 : Int32)))) ∧ (¬ x4 < r69 → (J_Mo_chordOf_75 S post k4 x1 x2 x3 x4 y0))))))))))
def J_Mo_chordOf_49 (S : GS) (post : Int32 → Prop) (k4 : Int32 → Int32 → Int32 → Prop) (x1 : Int32) (x2 : Int32) (x3 : Int32) (x4 : Int32) : Prop := (J_Mo_chordOf_50 S post k4 x1 x2 x3 x4 (0 : Int32))
def L_Mo_chordOf_4 (S : GS) (post : Int32 → Prop) : Nat → Int32 → Int32 → Int32 → Prop
  | 0, _, _, _ => False
  | n4 + 1, x1, x2, x3 => ((x3 < (0 : Int32) → (post x2)) ∧ (¬ x3 < (0 : Int32) → (vp_in x3 4 ∧ (wp_Mo_bitsOf ((S.1 21) x3.toNatClampNeg) (fun r14 => ((r14 ≤ (0 : Int32) → (J_Mo_chordOf_49 S post (fun z0 z1 z2 => L_Mo_chordOf_4 S post n4 z0 z1 z2) x1 x2 x3 r14)) ∧ (¬ r14 ≤ (0 : Int32) → ((x1 < r14 → (J_Mo_chordOf_49 S post (fun z0 z1 z2 => L_Mo_chordOf_4 S post n4 z0 z1 z2) x1 x2 x3 r14)) ∧ (¬ x1 < r14 → (wp_Mo_keysOf S r14 (fun r33 => (vp_in x3 4 ∧ ((r33 = ((S.1 21) x3.toNatClampNeg) → (J_Mo_chordOf_50 S post (fun z0 z1 z2 => L_Mo_chordOf_4 S post n4 z0 z1 z2) x1 x2 x3 r14 (1 : Int32))) ∧ (¬ r33 = ((S.1 21) x3.toNatClampNeg) → (J_Mo_chordOf_49 S post (fun z0 z1 z2 => L_Mo_chordOf_4 S post n4 z0 z1 z2) x1 x2 x3 r14)))))))))))))))
def wp_Mo_chordOf (S : GS) (p0 : Int32) (post : Int32 → Prop) : Prop := (∃ q4, L_Mo_chordOf_4 S post q4 p0 (-1 : Int32) (3 : Int32))
abbrev rm_Mo_chordOf : Room := { frames := 1, cells := 0, slots := 0, locals := 23 }
set_option maxHeartbeats 4000000 in
set_option maxRecDepth 100000 in
theorem c_Mo_chordOf (l : Launch) (D : va_G) (cI cZ cJ : ClassId) (a : Nat → Nat) (S : GS) (p0 : Int32) (post : Int32 → Prop) (hf : wp_Mo_chordOf S p0 post) : Met l y_Mo_chordOf ws_Mo_chordOf rm_Mo_chordOf (va_Pc [.ref (a 0), .int p0] (rPre D (tys cI cZ cJ) (mdW cI cZ cJ a S))) (vp_Si post) 0 0 (fun _ => False) := by
  refine gm_r (cc := b_Mo_chordOf) (maxL := 6) (by decide) rfl (Nat.le_of_ble_eq_true rfl) ?_
  intro p e s m args below meth c ls hx hb hr hts hown hlk hml hK hP hl
  have hl : lv_has ls 6 [(0, .ref (a 0)), (1, .int p0)] := hl
  have hinMo : ∀ w ∈ u_ws R_Mo T_Mo 30, w ∈ ws_Mo_chordOf := fun w h => List.mem_cons_of_mem _ (tl_Mo w h)
  have hl53 := hts _ (List.mem_cons_of_mem _ tf_Mo_53)
  unfold wp_Mo_chordOf at hf
  refine lv_iconst (pc := 0) (v := -1) hx hb d_Mo_chordOf_0 (by decide) ?_
  refine lv_istore_n (pc := 1) (lv' := [(2, .int (-1 : Int32)), (0, .ref (a 0)), (1, .int p0)]) hx hb d_Mo_chordOf_1 rfl hl (by decide) rfl (fun ls hl => ?_)
  refine lv_iconst (pc := 2) (v := 3) hx hb d_Mo_chordOf_2 (by decide) ?_
  refine lv_istore_n (pc := 3) (lv' := [(3, .int (3 : Int32)), (2, .int (-1 : Int32)), (0, .ref (a 0)), (1, .int p0)]) hx hb d_Mo_chordOf_3 rfl hl (by decide) rfl (fun ls hl => ?_)
  obtain ⟨q4, hf⟩ := hf
  have lp4 : ∀ (n4 : Nat) (x1 : Int32) (x2 : Int32) (x3 : Int32) (ls : Array Slot), lv_has ls 6 [(0, .ref (a 0)), (1, .int x1), (2, .int x2), (3, .int x3)] → L_Mo_chordOf_4 S post n4 x1 x2 x3 → W p l e rm_Mo_chordOf s m args below meth c s.heap [] 0 0 (MQ below (vp_Si post) args s 0 0 (fun _ => False)) (F0 m 4 ls []) := by
    intro n4
    induction n4 with
    | zero => intro x1 x2 x3 ls hl hf; exact False.elim hf
    | succ n4 ih4 =>
      have jn75 : ∀ (x1 : Int32) (x2 : Int32) (x3 : Int32) (x4 : Int32) (x5 : Int32) (ls : Array Slot), lv_has ls 6 [(0, .ref (a 0)), (1, .int x1), (2, .int x2), (3, .int x3), (4, .int x4), (5, .int x5)] → J_Mo_chordOf_75 S post (fun z0 z1 z2 => L_Mo_chordOf_4 S post n4 z0 z1 z2) x1 x2 x3 x4 x5 → W p l e rm_Mo_chordOf s m args below meth c s.heap [] 0 0 (MQ below (vp_Si post) args s 0 0 (fun _ => False)) (F0 m 75 ls []) := by
        intro x1 x2 x3 x4 x5 ls hl hf
        unfold J_Mo_chordOf_75 at hf
        refine lv_iload_n (pc := 75) hx hb d_Mo_chordOf_75 rfl (lv_at hl 3 rfl) ?_
        refine lv_goto (pc := 76) (tgt := 80) hx hb d_Mo_chordOf_76 (by decide) ?_
        refine lv_istore_n (pc := 80) (lv' := [(2, .int x3), (0, .ref (a 0)), (1, .int x1), (3, .int x3), (4, .int x4), (5, .int x5)]) hx hb d_Mo_chordOf_80 rfl hl (by decide) rfl (fun ls hl => ?_)
        refine lv_iinc (pc := 81) (k := 3) (v := (x3 + (-1 : Int32))) (lv' := [(3, .int (x3 + (-1 : Int32))), (2, .int x3), (0, .ref (a 0)), (1, .int x1), (4, .int x4), (5, .int x5)]) hx hb d_Mo_chordOf_81 hl rfl rfl (by decide) rfl (fun ls hl => ?_)
        refine lv_goto (pc := 84) (tgt := 4) hx hb d_Mo_chordOf_84 (by decide) ?_
        exact ih4 x1 x3 (x3 + (-1 : Int32)) _ (lv_sub hl [2, 3, 1, 0] rfl) hf
      have jn50 : ∀ (x1 : Int32) (x2 : Int32) (x3 : Int32) (x4 : Int32) (y0 : Int32) (ls : Array Slot), lv_has ls 6 [(0, .ref (a 0)), (1, .int x1), (2, .int x2), (3, .int x3), (4, .int x4)] → J_Mo_chordOf_50 S post (fun z0 z1 z2 => L_Mo_chordOf_4 S post n4 z0 z1 z2) x1 x2 x3 x4 y0 → W p l e rm_Mo_chordOf s m args below meth c s.heap [] 0 0 (MQ below (vp_Si post) args s 0 0 (fun _ => False)) (F0 m 50 ls [.int y0]) := by
        intro x1 x2 x3 x4 y0 ls hl hf
        unfold J_Mo_chordOf_50 at hf
        refine lv_istore (pc := 50) (lv' := [(5, .int y0), (0, .ref (a 0)), (1, .int x1), (2, .int x2), (3, .int x3), (4, .int x4)]) hx hb d_Mo_chordOf_50 hl (by decide) rfl (fun ls hl => ?_)
        refine lv_iload (pc := 52) hx hb d_Mo_chordOf_52 (lv_at hl 0 rfl) ?_
        refine lv_if_eq (pc := 54) (tgt := 79) hx hb d_Mo_chordOf_54 (by decide) (fun hc => ?_) (fun hc => ?_)
        · replace hf := hf.1 hc
          refine lv_iload_n (pc := 79) hx hb d_Mo_chordOf_79 rfl (lv_at hl 3 rfl) ?_
          refine lv_istore_n (pc := 80) (lv' := [(2, .int x2), (5, .int y0), (0, .ref (a 0)), (1, .int x1), (3, .int x3), (4, .int x4)]) hx hb d_Mo_chordOf_80 rfl hl (by decide) rfl (fun ls hl => ?_)
          refine lv_iinc (pc := 81) (k := 4) (v := (x3 + (-1 : Int32))) (lv' := [(3, .int (x3 + (-1 : Int32))), (2, .int x2), (5, .int y0), (0, .ref (a 0)), (1, .int x1), (4, .int x4)]) hx hb d_Mo_chordOf_81 hl rfl rfl (by decide) rfl (fun ls hl => ?_)
          refine lv_goto (pc := 84) (tgt := 4) hx hb d_Mo_chordOf_84 (by decide) ?_
          exact ih4 x1 x2 (x3 + (-1 : Int32)) _ (lv_sub hl [3, 4, 1, 0] rfl) hf
        replace hf := hf.2 hc
        refine lv_iload_n (pc := 57) hx hb d_Mo_chordOf_57 rfl (lv_at hl 3 rfl) ?_
        refine lv_if_lt (pc := 58) (tgt := 75) hx hb d_Mo_chordOf_58 (by decide) (fun hc => ?_) (fun hc => ?_)
        · replace hf := hf.1 hc
          exact jn75 x1 x2 x3 x4 y0 _ (lv_sub hl [1, 2, 3, 4, 5, 0] rfl) hf
        replace hf := hf.2 hc
        refine lv_iload (pc := 61) hx hb d_Mo_chordOf_61 (lv_at hl 5 rfl) ?_
        refine lv_aload_n (pc := 63) hx hb d_Mo_chordOf_63 rfl (lv_at hl 1 rfl) ?_
        refine md_gt_Mo_chordKeys (pc := 64) hx hb hK hts hinMo hown hP hl53 d_Mo_chordOf_64 ?_
        refine lv_iload_n (pc := 67) hx hb d_Mo_chordOf_67 rfl (lv_at hl 3 rfl) ?_
        refine md_ld15 (pc := 68) (v := ((S.1 21) x2.toNatClampNeg)) hx hb hK hP hf.1 rfl d_Mo_chordOf_68 ?_
        replace hf := hf.2
        refine vp_callSi (pc := 69) (W.runS (As := [.int ((S.1 21) x2.toNatClampNeg)]) (rest := [.int x4]) ⟨hx, hb, hml, hown, hts⟩ (c_Mo_bitsOf l _ _ hf) (cwS 1 hts (tb_wsS tc_Mo_bitsOf tm_Mo_134 ts_Mo_bitsOf tz_Mo) rfl rfl rfl (by decide +kernel) ⟨Nat.le_of_ble_eq_true rfl, Nat.le_of_ble_eq_true rfl⟩) p_preS rfl rfl hl.1 rfl (lv_room (Nat.le_of_ble_eq_true rfl)) d_Mo_chordOf_69 ⟨Nat.zero_le _, Nat.zero_le _⟩) (fun r69 hf => ?_)
        refine lv_icmp_lt (pc := 72) (tgt := 79) hx hb d_Mo_chordOf_72 (by decide) (fun hc => ?_) (fun hc => ?_)
        · replace hf := hf.1 hc
          refine lv_iload_n (pc := 79) hx hb d_Mo_chordOf_79 rfl (lv_at hl 3 rfl) ?_
          refine lv_istore_n (pc := 80) (lv' := [(2, .int x2), (5, .int y0), (0, .ref (a 0)), (1, .int x1), (3, .int x3), (4, .int x4)]) hx hb d_Mo_chordOf_80 rfl hl (by decide) rfl (fun ls hl => ?_)
          refine lv_iinc (pc := 81) (k := 4) (v := (x3 + (-1 : Int32))) (lv' := [(3, .int (x3 + (-1 : Int32))), (2, .int x2), (5, .int y0), (0, .ref (a 0)), (1, .int x1), (4, .int x4)]) hx hb d_Mo_chordOf_81 hl rfl rfl (by decide) rfl (fun ls hl => ?_)
          refine lv_goto (pc := 84) (tgt := 4) hx hb d_Mo_chordOf_84 (by decide) ?_
          exact ih4 x1 x2 (x3 + (-1 : Int32)) _ (lv_sub hl [3, 4, 1, 0] rfl) hf
        replace hf := hf.2 hc
        exact jn75 x1 x2 x3 x4 y0 _ (lv_sub hl [1, 2, 3, 4, 5, 0] rfl) hf
      have jn49 : ∀ (x1 : Int32) (x2 : Int32) (x3 : Int32) (x4 : Int32) (ls : Array Slot), lv_has ls 6 [(0, .ref (a 0)), (1, .int x1), (2, .int x2), (3, .int x3), (4, .int x4)] → J_Mo_chordOf_49 S post (fun z0 z1 z2 => L_Mo_chordOf_4 S post n4 z0 z1 z2) x1 x2 x3 x4 → W p l e rm_Mo_chordOf s m args below meth c s.heap [] 0 0 (MQ below (vp_Si post) args s 0 0 (fun _ => False)) (F0 m 49 ls []) := by
        intro x1 x2 x3 x4 ls hl hf
        unfold J_Mo_chordOf_49 at hf
        refine lv_iconst (pc := 49) (v := 0) hx hb d_Mo_chordOf_49 (by decide) ?_
        exact jn50 x1 x2 x3 x4 (0 : Int32) _ (lv_sub hl [0, 1, 2, 3, 4] rfl) hf
      intro x1 x2 x3 ls hl hf
      unfold L_Mo_chordOf_4 at hf
      refine lv_iload_n (pc := 4) hx hb d_Mo_chordOf_4 rfl (lv_at hl 3 rfl) ?_
      refine lv_if_lt (pc := 5) (tgt := 87) hx hb d_Mo_chordOf_5 (by decide) (fun hc => ?_) (fun hc => ?_)
      · replace hf := hf.1 hc
        refine lv_iload_n (pc := 87) hx hb d_Mo_chordOf_87 rfl (lv_at hl 2 rfl) ?_
        exact rr_i (pc := 88) hx hb hr hlk hf d_Mo_chordOf_88
      replace hf := hf.2 hc
      refine lv_aload_n (pc := 8) hx hb d_Mo_chordOf_8 rfl (lv_at hl 0 rfl) ?_
      refine md_gt_Mo_chordKeys (pc := 9) hx hb hK hts hinMo hown hP hl53 d_Mo_chordOf_9 ?_
      refine lv_iload_n (pc := 12) hx hb d_Mo_chordOf_12 rfl (lv_at hl 3 rfl) ?_
      refine md_ld15 (pc := 13) (v := ((S.1 21) x3.toNatClampNeg)) hx hb hK hP hf.1 rfl d_Mo_chordOf_13 ?_
      replace hf := hf.2
      refine vp_callSi (pc := 14) (W.runS (As := [.int ((S.1 21) x3.toNatClampNeg)]) (rest := []) ⟨hx, hb, hml, hown, hts⟩ (c_Mo_bitsOf l _ _ hf) (cwS 1 hts (tb_wsS tc_Mo_bitsOf tm_Mo_134 ts_Mo_bitsOf tz_Mo) rfl rfl rfl (by decide +kernel) ⟨Nat.le_of_ble_eq_true rfl, Nat.le_of_ble_eq_true rfl⟩) p_preS rfl rfl hl.1 rfl (lv_room (Nat.le_of_ble_eq_true rfl)) d_Mo_chordOf_14 ⟨Nat.zero_le _, Nat.zero_le _⟩) (fun r14 hf => ?_)
      refine lv_istore (pc := 17) (lv' := [(4, .int r14), (0, .ref (a 0)), (1, .int x1), (2, .int x2), (3, .int x3)]) hx hb d_Mo_chordOf_17 hl (by decide) rfl (fun ls hl => ?_)
      refine lv_iload (pc := 19) hx hb d_Mo_chordOf_19 (lv_at hl 0 rfl) ?_
      refine lv_if_le (pc := 21) (tgt := 49) hx hb d_Mo_chordOf_21 (by decide) (fun hc => ?_) (fun hc => ?_)
      · replace hf := hf.1 hc
        exact jn49 x1 x2 x3 r14 _ (lv_sub hl [1, 2, 3, 4, 0] rfl) hf
      replace hf := hf.2 hc
      refine lv_iload (pc := 24) hx hb d_Mo_chordOf_24 (lv_at hl 0 rfl) ?_
      refine lv_iload_n (pc := 26) hx hb d_Mo_chordOf_26 rfl (lv_at hl 2 rfl) ?_
      refine lv_icmp_gt (pc := 27) (tgt := 49) hx hb d_Mo_chordOf_27 (by decide) (fun hc => ?_) (fun hc => ?_)
      · replace hf := hf.1 hc
        exact jn49 x1 x2 x3 r14 _ (lv_sub hl [1, 2, 3, 4, 0] rfl) hf
      replace hf := hf.2 hc
      refine lv_aload_n (pc := 30) hx hb d_Mo_chordOf_30 rfl (lv_at hl 1 rfl) ?_
      refine lv_iload (pc := 31) hx hb d_Mo_chordOf_31 (lv_at hl 0 rfl) ?_
      refine vp_callSi (pc := 33) (W.runV (As := [.int r14]) (rest := []) ⟨hx, hb, hml, hown, hts⟩ (c_Mo_keysOf l D cI cZ cJ a _ _ _ hf) (cwV 1 hts (tb_wsV tc_Mo_keysOf tm_Mo_130 ti_Mo_keysOf te_Mo_keysOf tz_Mo) rfl rfl rfl (by decide +kernel) ⟨Nat.le_of_ble_eq_true rfl, Nat.le_of_ble_eq_true rfl⟩) (r_preV (q0 := 0) (ci := 9) hK hP rfl rfl) rfl rfl hl.1 rfl (lv_room (Nat.le_of_ble_eq_true rfl)) d_Mo_chordOf_33 ⟨Nat.zero_le _, Nat.zero_le _⟩) (fun r33 hf => ?_)
      refine lv_aload_n (pc := 36) hx hb d_Mo_chordOf_36 rfl (lv_at hl 1 rfl) ?_
      refine md_gt_Mo_chordKeys (pc := 37) hx hb hK hts hinMo hown hP hl53 d_Mo_chordOf_37 ?_
      refine lv_iload_n (pc := 40) hx hb d_Mo_chordOf_40 rfl (lv_at hl 4 rfl) ?_
      refine md_ld15 (pc := 41) (v := ((S.1 21) x3.toNatClampNeg)) hx hb hK hP hf.1 rfl d_Mo_chordOf_41 ?_
      replace hf := hf.2
      refine lv_icmp_ne (pc := 42) (tgt := 49) hx hb d_Mo_chordOf_42 (by decide) (fun hc => ?_) (fun hc => ?_)
      · replace hf := hf.2 hc
        exact jn49 x1 x2 x3 r14 _ (lv_sub hl [1, 2, 3, 4, 0] rfl) hf
      replace hf := hf.1 hc
      refine lv_iconst (pc := 45) (v := 1) hx hb d_Mo_chordOf_45 (by decide) ?_
      refine lv_goto (pc := 46) (tgt := 50) hx hb d_Mo_chordOf_46 (by decide) ?_
      exact jn50 x1 x2 x3 r14 (1 : Int32) _ (lv_sub hl [1, 2, 3, 4, 0] rfl) hf
  exact lp4 q4 p0 (-1 : Int32) (3 : Int32) _ (lv_sub hl [2, 3, 1, 0] rfl) hf
def L_Mo_disarm_2 (post : GS → Prop) : Nat → Int32 → GS → Prop
  | 0, _, _ => False
  | n2 + 1, x1, S => (((4 : Int32) ≤ x1 → (post S)) ∧ (¬ (4 : Int32) ≤ x1 → (vp_in x1 4 ∧ (L_Mo_disarm_2 post n2 (x1 + (1 : Int32)) (gI S 24 (upd (S.1 24) (x1).toNatClampNeg (vp_nar .boolean (0 : Int32))))))))
def wp_Mo_disarm (S : GS) (post : GS → Prop) : Prop := (∃ q2, L_Mo_disarm_2 post q2 (0 : Int32) S)
abbrev rm_Mo_disarm : Room := { frames := 0, cells := 0, slots := 0, locals := 0 }
set_option maxHeartbeats 4000000 in
set_option maxRecDepth 100000 in
theorem c_Mo_disarm (l : Launch) (D : va_G) (cI cZ cJ : ClassId) (a : Nat → Nat) (sz : Nat) (S : GS) (post : GS → Prop) (hf : wp_Mo_disarm S post) : Met l y_Mo_disarm ws_Mo_disarm rm_Mo_disarm (va_Pc [.ref (a 0)] (gPre D (tys cI cZ cJ) (mdW cI cZ cJ a S) sz)) (va_Qv post (gB D (tys cI cZ cJ) (mdW cI cZ cJ a) (va_A (mdW cI cZ cJ a S) sz)) (va_A (mdW cI cZ cJ a S) sz)) 0 0 (va_A (mdW cI cZ cJ a S) sz) := by
  refine gm_w (QF := fun A => va_Qv post (gB D (tys cI cZ cJ) (mdW cI cZ cJ a) A) A) (cc := b_Mo_disarm) (maxL := 2) (by decide) rfl (Nat.le_of_ble_eq_true rfl) ?_
  intro p e s m args below meth c A ls hx hb hr hts hown hmn hlk hml hK hA hw hl
  have hl : lv_has ls 2 [(0, .ref (a 0))] := hl
  have hinMo : ∀ w ∈ u_ws R_Mo T_Mo 30, w ∈ ws_Mo_disarm := fun w h => List.mem_cons_of_mem _ (tl_Mo w h)
  have hl62 := hts _ (List.mem_cons_of_mem _ tf_Mo_62)
  unfold wp_Mo_disarm at hf
  refine lv_iconst (pc := 0) (v := 0) hx hb d_Mo_disarm_0 (by decide) ?_
  refine lv_istore_n (pc := 1) (lv' := [(1, .int (0 : Int32)), (0, .ref (a 0))]) hx hb d_Mo_disarm_1 rfl hl (by decide) rfl (fun ls hl => ?_)
  obtain ⟨q2, hf⟩ := hf
  have lp2 : ∀ (n2 : Nat) (x1 : Int32) (S : GS) (H : Heap) (locs : List Loc) (ls : Array Slot), lv_has ls 2 [(0, .ref (a 0)), (1, .int x1)] → wf D A s.heap (mdW cI cZ cJ a S) H locs → L_Mo_disarm_2 post n2 x1 S → W p l e rm_Mo_disarm s m args below meth c H locs 0 0 (MQ below (va_Qv post (gB D (tys cI cZ cJ) (mdW cI cZ cJ a) A) A) args s 0 0 A) (F0 m 2 ls []) := by
    intro n2
    induction n2 with
    | zero => intro x1 S H locs ls hl hw hf; exact False.elim hf
    | succ n2 ih2 =>
      intro x1 S H locs ls hl hw hf
      unfold L_Mo_disarm_2 at hf
      refine lv_iload_n (pc := 2) hx hb d_Mo_disarm_2 rfl (lv_at hl 1 rfl) ?_
      refine lv_iconst (pc := 3) (v := 4) hx hb d_Mo_disarm_3 (by decide) ?_
      refine lv_icmp_ge (pc := 4) (tgt := 20) hx hb d_Mo_disarm_4 (by decide) (fun hc => ?_) (fun hc => ?_)
      · replace hf := hf.1 hc
        exact gr_v (pc := 20) hx hb hr hlk hK S hw hf d_Mo_disarm_20
      replace hf := hf.2 hc
      refine lv_aload_n (pc := 7) hx hb d_Mo_disarm_7 rfl (lv_at hl 0 rfl) ?_
      refine md_gt_Mo_armed (pc := 8) hx hb hK hts hinMo hown hw.1 hl62 d_Mo_disarm_8 ?_
      refine lv_iload_n (pc := 11) hx hb d_Mo_disarm_11 rfl (lv_at hl 1 rfl) ?_
      refine lv_iconst (pc := 12) (v := 0) hx hb d_Mo_disarm_12 (by decide) ?_
      refine md_st18 (pc := 13) hx hb hK hw hf.1 d_Mo_disarm_13 (fun H locs hw => ?_)
      replace hf := hf.2
      refine lv_iinc (pc := 14) (k := 1) (v := (x1 + (1 : Int32))) (lv' := [(1, .int (x1 + (1 : Int32))), (0, .ref (a 0))]) hx hb d_Mo_disarm_14 hl rfl rfl (by decide) rfl (fun ls hl => ?_)
      refine lv_goto (pc := 17) (tgt := 2) hx hb d_Mo_disarm_17 (by decide) ?_
      exact ih2 (x1 + (1 : Int32)) (gI S 24 (upd (S.1 24) (x1).toNatClampNeg (vp_nar .boolean (0 : Int32)))) _ _ _ (lv_sub hl [1, 0] rfl) hw hf
  exact lp2 q2 (0 : Int32) S _ _ _ (lv_sub hl [1, 0] rfl) hw hf
def L_Mo_takeChord_22 (post : GS → Prop) : Nat → Int32 → Int32 → Int32 → GS → Prop
  | 0, _, _, _, _ => False
  | n22 + 1, x1, x2, x3, S => ((x2 ≤ x3 → (vp_in x1 4 ∧ (wp_Mo_change S ((S.1 22) x1.toNatClampNeg) (1 : Int32) (fun S83 => (wp_Mo_drop S83 x2 (fun S88 => (wp_Mo_disarm S88 (fun S92 => (post S92))))))))) ∧ (¬ x2 ≤ x3 → (vp_in x3 80 ∧ (vp_in (((S.1 14) x3.toNatClampNeg) / (2 : Int32)) 24 ∧ (vp_in x1 4 ∧ (vp_in (((S.1 14) x3.toNatClampNeg) / (2 : Int32)) 24 ∧ (vp_in (((S.1 14) x3.toNatClampNeg) / (2 : Int32)) 24 ∧ (L_Mo_takeChord_22 post n22 x1 x2 (x3 + (1 : Int32)) (gI (gI (gI S 25 (upd (S.1 25) ((((S.1 14) x3.toNatClampNeg) / (2 : Int32))).toNatClampNeg (3 : Int32))) 26 (upd (S.1 26) ((((S.1 14) x3.toNatClampNeg) / (2 : Int32))).toNatClampNeg ((S.1 22) x1.toNatClampNeg))) 27 (upd (S.1 27) ((((S.1 14) x3.toNatClampNeg) / (2 : Int32))).toNatClampNeg (S.1 4 0)))))))))))
def wp_Mo_takeChord (S : GS) (p0 : Int32) (post : GS → Prop) : Prop := (vp_in p0 4 ∧ (wp_Mo_bitsOf ((S.1 21) p0.toNatClampNeg) (fun r6 => (∃ q22, L_Mo_takeChord_22 post q22 p0 r6 (0 : Int32) (gI S 4 (fun _ => ((S.1 4 0) + (1 : Int32))))))))
abbrev rm_Mo_takeChord : Room := { frames := 3, cells := 0, slots := 0, locals := 67 }
set_option maxHeartbeats 4000000 in
set_option maxRecDepth 100000 in
theorem c_Mo_takeChord (l : Launch) (D : va_G) (cI cZ cJ : ClassId) (a : Nat → Nat) (sz : Nat) (S : GS) (p0 : Int32) (post : GS → Prop) (hf : wp_Mo_takeChord S p0 post) : Met l y_Mo_takeChord ws_Mo_takeChord rm_Mo_takeChord (va_Pc [.ref (a 0), .int p0] (gPre D (tys cI cZ cJ) (mdW cI cZ cJ a S) sz)) (va_Qv post (gB D (tys cI cZ cJ) (mdW cI cZ cJ a) (va_A (mdW cI cZ cJ a S) sz)) (va_A (mdW cI cZ cJ a S) sz)) 0 0 (va_A (mdW cI cZ cJ a S) sz) := by
  refine gm_w (QF := fun A => va_Qv post (gB D (tys cI cZ cJ) (mdW cI cZ cJ a) A) A) (cc := b_Mo_takeChord) (maxL := 5) (by decide) rfl (Nat.le_of_ble_eq_true rfl) ?_
  intro p e s m args below meth c A ls hx hb hr hts hown hmn hlk hml hK hA hw hl
  have hl : lv_has ls 5 [(0, .ref (a 0)), (1, .int p0)] := hl
  have hinMo : ∀ w ∈ u_ws R_Mo T_Mo 30, w ∈ ws_Mo_takeChord := fun w h => List.mem_cons_of_mem _ (tl_Mo w h)
  have hl32 := hts _ (List.mem_cons_of_mem _ tf_Mo_32)
  have hl53 := hts _ (List.mem_cons_of_mem _ tf_Mo_53)
  have hl56 := hts _ (List.mem_cons_of_mem _ tf_Mo_56)
  have hl65 := hts _ (List.mem_cons_of_mem _ tf_Mo_65)
  have hl68 := hts _ (List.mem_cons_of_mem _ tf_Mo_68)
  have hl71 := hts _ (List.mem_cons_of_mem _ tf_Mo_71)
  have hl137 := hts _ (List.mem_cons_of_mem _ tf_Mo_137)
  unfold wp_Mo_takeChord at hf
  refine lv_aload_n (pc := 0) hx hb d_Mo_takeChord_0 rfl (lv_at hl 0 rfl) ?_
  refine md_gt_Mo_chordKeys (pc := 1) hx hb hK hts hinMo hown hw.1 hl53 d_Mo_takeChord_1 ?_
  refine lv_iload_n (pc := 4) hx hb d_Mo_takeChord_4 rfl (lv_at hl 1 rfl) ?_
  refine md_ld15 (pc := 5) (v := ((S.1 21) p0.toNatClampNeg)) hx hb hK hw.1 hf.1 rfl d_Mo_takeChord_5 ?_
  replace hf := hf.2
  refine vp_callSi (pc := 6) (W.runS (As := [.int ((S.1 21) p0.toNatClampNeg)]) (rest := []) ⟨hx, hb, hml, hown, hts⟩ (c_Mo_bitsOf l _ _ hf) (cwS 1 hts (tb_wsS tc_Mo_bitsOf tm_Mo_134 ts_Mo_bitsOf tz_Mo) rfl rfl rfl (by decide +kernel) ⟨Nat.le_of_ble_eq_true rfl, Nat.le_of_ble_eq_true rfl⟩) p_preS rfl rfl hl.1 rfl (lv_room (Nat.le_of_ble_eq_true rfl)) d_Mo_takeChord_6 ⟨Nat.zero_le _, Nat.zero_le _⟩) (fun r6 hf => ?_)
  refine lv_istore_n (pc := 9) (lv' := [(2, .int r6), (0, .ref (a 0)), (1, .int p0)]) hx hb d_Mo_takeChord_9 rfl hl (by decide) rfl (fun ls hl => ?_)
  refine lv_aload_n (pc := 10) hx hb d_Mo_takeChord_10 rfl (lv_at hl 1 rfl) ?_
  refine lv_dup (pc := 11) hx hb d_Mo_takeChord_11 rfl ?_
  refine md_gt_Mo_chords (pc := 12) (v := (S.1 4 0)) hx hb hK hts hinMo hown hw.1 hl137 rfl d_Mo_takeChord_12 ?_
  refine lv_iconst (pc := 15) (v := 1) hx hb d_Mo_takeChord_15 (by decide) ?_
  refine lv_iadd (pc := 16) hx hb d_Mo_takeChord_16 ?_
  refine md_pt_Mo_chords (pc := 17) hx hb hK hts hinMo hown hw hl137 d_Mo_takeChord_17 (fun H locs hw => ?_)
  refine lv_iconst (pc := 20) (v := 0) hx hb d_Mo_takeChord_20 (by decide) ?_
  refine lv_istore_n (pc := 21) (lv' := [(3, .int (0 : Int32)), (2, .int r6), (0, .ref (a 0)), (1, .int p0)]) hx hb d_Mo_takeChord_21 rfl hl (by decide) rfl (fun ls hl => ?_)
  obtain ⟨q22, hf⟩ := hf
  have lp22 : ∀ (n22 : Nat) (x1 : Int32) (x2 : Int32) (x3 : Int32) (S : GS) (H : Heap) (locs : List Loc) (ls : Array Slot), lv_has ls 5 [(0, .ref (a 0)), (1, .int x1), (2, .int x2), (3, .int x3)] → wf D A s.heap (mdW cI cZ cJ a S) H locs → L_Mo_takeChord_22 post n22 x1 x2 x3 S → W p l e rm_Mo_takeChord s m args below meth c H locs 0 0 (MQ below (va_Qv post (gB D (tys cI cZ cJ) (mdW cI cZ cJ a) A) A) args s 0 0 A) (F0 m 22 ls []) := by
    intro n22
    induction n22 with
    | zero => intro x1 x2 x3 S H locs ls hl hw hf; exact False.elim hf
    | succ n22 ih22 =>
      intro x1 x2 x3 S H locs ls hl hw hf
      unfold L_Mo_takeChord_22 at hf
      refine lv_iload_n (pc := 22) hx hb d_Mo_takeChord_22 rfl (lv_at hl 3 rfl) ?_
      refine lv_iload_n (pc := 23) hx hb d_Mo_takeChord_23 rfl (lv_at hl 2 rfl) ?_
      refine lv_icmp_ge (pc := 24) (tgt := 75) hx hb d_Mo_takeChord_24 (by decide) (fun hc => ?_) (fun hc => ?_)
      · replace hf := hf.1 hc
        refine lv_aload_n (pc := 75) hx hb d_Mo_takeChord_75 rfl (lv_at hl 0 rfl) ?_
        refine lv_aload_n (pc := 76) hx hb d_Mo_takeChord_76 rfl (lv_at hl 0 rfl) ?_
        refine md_gt_Mo_chordCodes (pc := 77) hx hb hK hts hinMo hown hw.1 hl56 d_Mo_takeChord_77 ?_
        refine lv_iload_n (pc := 80) hx hb d_Mo_takeChord_80 rfl (lv_at hl 1 rfl) ?_
        refine md_ld16 (pc := 81) (v := ((S.1 22) x1.toNatClampNeg)) hx hb hK hw.1 hf.1 rfl d_Mo_takeChord_81 ?_
        replace hf := hf.2
        refine lv_iconst (pc := 82) (v := 1) hx hb d_Mo_takeChord_82 (by decide) ?_
        refine gc_v (pc := 83) (Wf := mdW cI cZ cJ a) hw hA (va_runV (As := [.int ((S.1 22) x1.toNatClampNeg), .int (1 : Int32)]) (rest := []) ⟨hx, hb, hml, hown, hts⟩ (c_Mo_change l D cI cZ cJ a _ _ _ _ _ hf) (cwV 2 hts (tb_wsV tc_Mo_change tm_Mo_127 ti_Mo_change te_Mo_change tz_Mo) rfl rfl rfl (by decide +kernel) ⟨Nat.le_of_ble_eq_true rfl, Nat.le_of_ble_eq_true rfl⟩) (g_preV (q0 := 0) (ci := 9) hK hw rfl rfl) rfl rfl hl.1 rfl (lv_room (Nat.le_of_ble_eq_true rfl)) d_Mo_takeChord_83 ⟨Nat.zero_le _, Nat.zero_le _⟩) (fun S83 H locs hw hf => ?_)
        refine lv_aload_n (pc := 86) hx hb d_Mo_takeChord_86 rfl (lv_at hl 0 rfl) ?_
        refine lv_iload_n (pc := 87) hx hb d_Mo_takeChord_87 rfl (lv_at hl 2 rfl) ?_
        refine gc_v (pc := 88) (Wf := mdW cI cZ cJ a) hw hA (va_runV (As := [.int x2]) (rest := []) ⟨hx, hb, hml, hown, hts⟩ (c_Mo_drop l D cI cZ cJ a _ _ _ _ hf) (cwV 1 hts (tb_wsV tc_Mo_drop tm_Mo_140 ti_Mo_drop te_Mo_drop tz_Mo) rfl rfl rfl (by decide +kernel) ⟨Nat.le_of_ble_eq_true rfl, Nat.le_of_ble_eq_true rfl⟩) (g_preV (q0 := 0) (ci := 9) hK hw rfl rfl) rfl rfl hl.1 rfl (lv_room (Nat.le_of_ble_eq_true rfl)) d_Mo_takeChord_88 ⟨Nat.zero_le _, Nat.zero_le _⟩) (fun S88 H locs hw hf => ?_)
        refine lv_aload_n (pc := 91) hx hb d_Mo_takeChord_91 rfl (lv_at hl 0 rfl) ?_
        refine gc_v (pc := 92) (Wf := mdW cI cZ cJ a) hw hA (va_runV (As := []) (rest := []) ⟨hx, hb, hml, hown, hts⟩ (c_Mo_disarm l D cI cZ cJ a _ _ _ hf) (cwV 0 hts (tb_wsV tc_Mo_disarm tm_Mo_144 ti_Mo_disarm te_Mo_disarm tz_Mo) rfl rfl rfl (by decide +kernel) ⟨Nat.le_of_ble_eq_true rfl, Nat.le_of_ble_eq_true rfl⟩) (g_preV (q0 := 0) (ci := 9) hK hw rfl rfl) rfl rfl hl.1 rfl (lv_room (Nat.le_of_ble_eq_true rfl)) d_Mo_takeChord_92 ⟨Nat.zero_le _, Nat.zero_le _⟩) (fun S92 H locs hw hf => ?_)
        exact gr_v (pc := 95) hx hb hr hlk hK S92 hw hf d_Mo_takeChord_95
      replace hf := hf.2 hc
      refine lv_aload_n (pc := 27) hx hb d_Mo_takeChord_27 rfl (lv_at hl 0 rfl) ?_
      refine md_gt_Mo_events (pc := 28) hx hb hK hts hinMo hown hw.1 hl32 d_Mo_takeChord_28 ?_
      refine lv_iload_n (pc := 31) hx hb d_Mo_takeChord_31 rfl (lv_at hl 3 rfl) ?_
      refine md_ld8 (pc := 32) (v := ((S.1 14) x3.toNatClampNeg)) hx hb hK hw.1 hf.1 rfl d_Mo_takeChord_32 ?_
      replace hf := hf.2
      refine lv_iconst (pc := 33) (v := 2) hx hb d_Mo_takeChord_33 (by decide) ?_
      refine lv_idiv (pc := 34) hx hb d_Mo_takeChord_34 (by decide) ?_
      refine lv_istore (pc := 35) (lv' := [(4, .int (((S.1 14) x3.toNatClampNeg) / (2 : Int32))), (0, .ref (a 0)), (1, .int x1), (2, .int x2), (3, .int x3)]) hx hb d_Mo_takeChord_35 hl (by decide) rfl (fun ls hl => ?_)
      refine lv_aload_n (pc := 37) hx hb d_Mo_takeChord_37 rfl (lv_at hl 1 rfl) ?_
      refine md_gt_Mo_began (pc := 38) hx hb hK hts hinMo hown hw.1 hl65 d_Mo_takeChord_38 ?_
      refine lv_iload (pc := 41) hx hb d_Mo_takeChord_41 (lv_at hl 0 rfl) ?_
      refine lv_iconst (pc := 43) (v := 3) hx hb d_Mo_takeChord_43 (by decide) ?_
      refine md_st19 (pc := 44) hx hb hK hw hf.1 d_Mo_takeChord_44 (fun H locs hw => ?_)
      replace hf := hf.2
      refine lv_aload_n (pc := 45) hx hb d_Mo_takeChord_45 rfl (lv_at hl 1 rfl) ?_
      refine md_gt_Mo_beganWhat (pc := 46) hx hb hK hts hinMo hown hw.1 hl68 d_Mo_takeChord_46 ?_
      refine lv_iload (pc := 49) hx hb d_Mo_takeChord_49 (lv_at hl 0 rfl) ?_
      refine lv_aload_n (pc := 51) hx hb d_Mo_takeChord_51 rfl (lv_at hl 1 rfl) ?_
      refine md_gt_Mo_chordCodes (pc := 52) hx hb hK hts hinMo hown hw.1 hl56 d_Mo_takeChord_52 ?_
      refine lv_iload_n (pc := 55) hx hb d_Mo_takeChord_55 rfl (lv_at hl 2 rfl) ?_
      refine md_ld16 (pc := 56) (v := ((S.1 22) x1.toNatClampNeg)) hx hb hK hw.1 hf.1 rfl d_Mo_takeChord_56 ?_
      replace hf := hf.2
      refine md_st20 (pc := 57) hx hb hK hw hf.1 d_Mo_takeChord_57 (fun H locs hw => ?_)
      replace hf := hf.2
      have hw : wf D A s.heap (mdW cI cZ cJ a (gI (gI S 25 (upd (S.1 25) ((((S.1 14) x3.toNatClampNeg) / (2 : Int32))).toNatClampNeg (3 : Int32))) 26 (upd (S.1 26) ((((S.1 14) x3.toNatClampNeg) / (2 : Int32))).toNatClampNeg ((S.1 22) x1.toNatClampNeg)))) H locs := hw
      refine lv_aload_n (pc := 58) hx hb d_Mo_takeChord_58 rfl (lv_at hl 1 rfl) ?_
      refine md_gt_Mo_beganChord (pc := 59) hx hb hK hts hinMo hown hw.1 hl71 d_Mo_takeChord_59 ?_
      refine lv_iload (pc := 62) hx hb d_Mo_takeChord_62 (lv_at hl 0 rfl) ?_
      refine lv_aload_n (pc := 64) hx hb d_Mo_takeChord_64 rfl (lv_at hl 1 rfl) ?_
      refine md_gt_Mo_chords (pc := 65) (v := (S.1 4 0)) hx hb hK hts hinMo hown hw.1 hl137 rfl d_Mo_takeChord_65 ?_
      refine md_st21 (pc := 68) hx hb hK hw hf.1 d_Mo_takeChord_68 (fun H locs hw => ?_)
      replace hf := hf.2
      have hw : wf D A s.heap (mdW cI cZ cJ a (gI (gI (gI S 25 (upd (S.1 25) ((((S.1 14) x3.toNatClampNeg) / (2 : Int32))).toNatClampNeg (3 : Int32))) 26 (upd (S.1 26) ((((S.1 14) x3.toNatClampNeg) / (2 : Int32))).toNatClampNeg ((S.1 22) x1.toNatClampNeg))) 27 (upd (S.1 27) ((((S.1 14) x3.toNatClampNeg) / (2 : Int32))).toNatClampNeg (S.1 4 0)))) H locs := hw
      refine lv_iinc (pc := 69) (k := 4) (v := (x3 + (1 : Int32))) (lv' := [(3, .int (x3 + (1 : Int32))), (4, .int (((S.1 14) x3.toNatClampNeg) / (2 : Int32))), (0, .ref (a 0)), (1, .int x1), (2, .int x2)]) hx hb d_Mo_takeChord_69 hl rfl rfl (by decide) rfl (fun ls hl => ?_)
      refine lv_goto (pc := 72) (tgt := 22) hx hb d_Mo_takeChord_72 (by decide) ?_
      exact ih22 x1 x2 (x3 + (1 : Int32)) (gI (gI (gI S 25 (upd (S.1 25) ((((S.1 14) x3.toNatClampNeg) / (2 : Int32))).toNatClampNeg (3 : Int32))) 26 (upd (S.1 26) ((((S.1 14) x3.toNatClampNeg) / (2 : Int32))).toNatClampNeg ((S.1 22) x1.toNatClampNeg))) 27 (upd (S.1 27) ((((S.1 14) x3.toNatClampNeg) / (2 : Int32))).toNatClampNeg (S.1 4 0))) _ _ _ (lv_sub hl [2, 3, 4, 0] rfl) hw hf
  exact lp22 q22 p0 r6 (0 : Int32) (gI S 4 (fun _ => ((S.1 4 0) + (1 : Int32)))) _ _ _ (lv_sub hl [2, 3, 1, 0] rfl) hw hf
def L_Mo_tapOf_13 (S : GS) (post : Int32 → Prop) : Nat → Int32 → Int32 → Int32 → Prop
  | 0, _, _, _ => False
  | n13 + 1, x1, x2, x3 => (((S.1 2 0) ≤ x3 → (vp_in (0 : Int32) 80 ∧ (((((S.1 15) (0 : Int32).toNatClampNeg) + (20 : Int32)) ≤ (S.1 1 0) → (post (2 : Int32))) ∧ (¬ (((S.1 15) (0 : Int32).toNatClampNeg) + (20 : Int32)) ≤ (S.1 1 0) → (((S.1 2 0) ≤ (8 : Int32) → (post (0 : Int32))) ∧ (¬ (S.1 2 0) ≤ (8 : Int32) → (post (2 : Int32)))))))) ∧ (¬ (S.1 2 0) ≤ x3 → (vp_in x3 80 ∧ (vp_in x3 80 ∧ (((((S.1 14) x3.toNatClampNeg) - ((S.1 14) x3.toNatClampNeg) / (2 : Int32) * (2 : Int32)) = (1 : Int32) → (L_Mo_tapOf_13 S post n13 x1 (x2 ||| ((1 : Int32) <<< ((((S.1 14) x3.toNatClampNeg) / (2 : Int32)) &&& 31))) (x3 + (1 : Int32)))) ∧ (¬ (((S.1 14) x3.toNatClampNeg) - ((S.1 14) x3.toNatClampNeg) / (2 : Int32) * (2 : Int32)) = (1 : Int32) → (((((S.1 14) x3.toNatClampNeg) / (2 : Int32)) = x1 → (post (1 : Int32))) ∧ (¬ (((S.1 14) x3.toNatClampNeg) / (2 : Int32)) = x1 → ((((x2 >>> ((((S.1 14) x3.toNatClampNeg) / (2 : Int32)) &&& 31)) &&& (1 : Int32)) = (1 : Int32) → (post (2 : Int32))) ∧ (¬ ((x2 >>> ((((S.1 14) x3.toNatClampNeg) / (2 : Int32)) &&& 31)) &&& (1 : Int32)) = (1 : Int32) → (L_Mo_tapOf_13 S post n13 x1 x2 (x3 + (1 : Int32)))))))))))))
def wp_Mo_tapOf (S : GS) (post : Int32 → Prop) : Prop := (vp_in (0 : Int32) 80 ∧ (∃ q13, L_Mo_tapOf_13 S post q13 (((S.1 14) (0 : Int32).toNatClampNeg) / (2 : Int32)) (0 : Int32) (1 : Int32)))
abbrev rm_Mo_tapOf : Room := { frames := 0, cells := 0, slots := 0, locals := 0 }
set_option maxHeartbeats 4000000 in
set_option maxRecDepth 100000 in
theorem c_Mo_tapOf (l : Launch) (D : va_G) (cI cZ cJ : ClassId) (a : Nat → Nat) (S : GS) (post : Int32 → Prop) (hf : wp_Mo_tapOf S post) : Met l y_Mo_tapOf ws_Mo_tapOf rm_Mo_tapOf (va_Pc [.ref (a 0)] (rPre D (tys cI cZ cJ) (mdW cI cZ cJ a S))) (vp_Si post) 0 0 (fun _ => False) := by
  refine gm_r (cc := b_Mo_tapOf) (maxL := 5) (by decide) rfl (Nat.le_of_ble_eq_true rfl) ?_
  intro p e s m args below meth c ls hx hb hr hts hown hlk hml hK hP hl
  have hl : lv_has ls 5 [(0, .ref (a 0))] := hl
  have hinMo : ∀ w ∈ u_ws R_Mo T_Mo 30, w ∈ ws_Mo_tapOf := fun w h => List.mem_cons_of_mem _ (tl_Mo w h)
  have hl32 := hts _ (List.mem_cons_of_mem _ tf_Mo_32)
  have hl35 := hts _ (List.mem_cons_of_mem _ tf_Mo_35)
  have hl95 := hts _ (List.mem_cons_of_mem _ tf_Mo_95)
  have hl98 := hts _ (List.mem_cons_of_mem _ tf_Mo_98)
  unfold wp_Mo_tapOf at hf
  refine lv_aload_n (pc := 0) hx hb d_Mo_tapOf_0 rfl (lv_at hl 0 rfl) ?_
  refine md_gt_Mo_events (pc := 1) hx hb hK hts hinMo hown hP hl32 d_Mo_tapOf_1 ?_
  refine lv_iconst (pc := 4) (v := 0) hx hb d_Mo_tapOf_4 (by decide) ?_
  refine md_ld8 (pc := 5) (v := ((S.1 14) (0 : Int32).toNatClampNeg)) hx hb hK hP hf.1 rfl d_Mo_tapOf_5 ?_
  replace hf := hf.2
  refine lv_iconst (pc := 6) (v := 2) hx hb d_Mo_tapOf_6 (by decide) ?_
  refine lv_idiv (pc := 7) hx hb d_Mo_tapOf_7 (by decide) ?_
  refine lv_istore_n (pc := 8) (lv' := [(1, .int (((S.1 14) (0 : Int32).toNatClampNeg) / (2 : Int32))), (0, .ref (a 0))]) hx hb d_Mo_tapOf_8 rfl hl (by decide) rfl (fun ls hl => ?_)
  refine lv_iconst (pc := 9) (v := 0) hx hb d_Mo_tapOf_9 (by decide) ?_
  refine lv_istore_n (pc := 10) (lv' := [(2, .int (0 : Int32)), (1, .int (((S.1 14) (0 : Int32).toNatClampNeg) / (2 : Int32))), (0, .ref (a 0))]) hx hb d_Mo_tapOf_10 rfl hl (by decide) rfl (fun ls hl => ?_)
  refine lv_iconst (pc := 11) (v := 1) hx hb d_Mo_tapOf_11 (by decide) ?_
  refine lv_istore_n (pc := 12) (lv' := [(3, .int (1 : Int32)), (2, .int (0 : Int32)), (1, .int (((S.1 14) (0 : Int32).toNatClampNeg) / (2 : Int32))), (0, .ref (a 0))]) hx hb d_Mo_tapOf_12 rfl hl (by decide) rfl (fun ls hl => ?_)
  obtain ⟨q13, hf⟩ := hf
  have lp13 : ∀ (n13 : Nat) (x1 : Int32) (x2 : Int32) (x3 : Int32) (ls : Array Slot), lv_has ls 5 [(0, .ref (a 0)), (1, .int x1), (2, .int x2), (3, .int x3)] → L_Mo_tapOf_13 S post n13 x1 x2 x3 → W p l e rm_Mo_tapOf s m args below meth c s.heap [] 0 0 (MQ below (vp_Si post) args s 0 0 (fun _ => False)) (F0 m 13 ls []) := by
    intro n13
    induction n13 with
    | zero => intro x1 x2 x3 ls hl hf; exact False.elim hf
    | succ n13 ih13 =>
      intro x1 x2 x3 ls hl hf
      unfold L_Mo_tapOf_13 at hf
      refine lv_iload_n (pc := 13) hx hb d_Mo_tapOf_13 rfl (lv_at hl 3 rfl) ?_
      refine lv_aload_n (pc := 14) hx hb d_Mo_tapOf_14 rfl (lv_at hl 0 rfl) ?_
      refine md_gt_Mo_queued (pc := 15) (v := (S.1 2 0)) hx hb hK hts hinMo hown hP hl95 rfl d_Mo_tapOf_15 ?_
      refine lv_icmp_ge (pc := 18) (tgt := 79) hx hb d_Mo_tapOf_18 (by decide) (fun hc => ?_) (fun hc => ?_)
      · replace hf := hf.1 hc
        refine lv_aload_n (pc := 79) hx hb d_Mo_tapOf_79 rfl (lv_at hl 0 rfl) ?_
        refine md_gt_Mo_now (pc := 80) (v := (S.1 1 0)) hx hb hK hts hinMo hown hP hl98 rfl d_Mo_tapOf_80 ?_
        refine lv_aload_n (pc := 83) hx hb d_Mo_tapOf_83 rfl (lv_at hl 0 rfl) ?_
        refine md_gt_Mo_scans (pc := 84) hx hb hK hts hinMo hown hP hl35 d_Mo_tapOf_84 ?_
        refine lv_iconst (pc := 87) (v := 0) hx hb d_Mo_tapOf_87 (by decide) ?_
        refine md_ld9 (pc := 88) (v := ((S.1 15) (0 : Int32).toNatClampNeg)) hx hb hK hP hf.1 rfl d_Mo_tapOf_88 ?_
        replace hf := hf.2
        refine lv_bipush (pc := 89) (v := 20) hx hb d_Mo_tapOf_89 (by decide) ?_
        refine lv_iadd (pc := 91) hx hb d_Mo_tapOf_91 ?_
        refine lv_icmp_ge (pc := 92) (tgt := 104) hx hb d_Mo_tapOf_92 (by decide) (fun hc => ?_) (fun hc => ?_)
        · replace hf := hf.1 hc
          refine lv_iconst (pc := 104) (v := 2) hx hb d_Mo_tapOf_104 (by decide) ?_
          refine lv_goto (pc := 105) (tgt := 109) hx hb d_Mo_tapOf_105 (by decide) ?_
          exact rr_i (pc := 109) hx hb hr hlk hf d_Mo_tapOf_109
        replace hf := hf.2 hc
        refine lv_aload_n (pc := 95) hx hb d_Mo_tapOf_95 rfl (lv_at hl 0 rfl) ?_
        refine md_gt_Mo_queued (pc := 96) (v := (S.1 2 0)) hx hb hK hts hinMo hown hP hl95 rfl d_Mo_tapOf_96 ?_
        refine lv_bipush (pc := 99) (v := 8) hx hb d_Mo_tapOf_99 (by decide) ?_
        refine lv_icmp_le (pc := 101) (tgt := 108) hx hb d_Mo_tapOf_101 (by decide) (fun hc => ?_) (fun hc => ?_)
        · replace hf := hf.1 hc
          refine lv_iconst (pc := 108) (v := 0) hx hb d_Mo_tapOf_108 (by decide) ?_
          exact rr_i (pc := 109) hx hb hr hlk hf d_Mo_tapOf_109
        replace hf := hf.2 hc
        refine lv_iconst (pc := 104) (v := 2) hx hb d_Mo_tapOf_104 (by decide) ?_
        refine lv_goto (pc := 105) (tgt := 109) hx hb d_Mo_tapOf_105 (by decide) ?_
        exact rr_i (pc := 109) hx hb hr hlk hf d_Mo_tapOf_109
      replace hf := hf.2 hc
      refine lv_aload_n (pc := 21) hx hb d_Mo_tapOf_21 rfl (lv_at hl 0 rfl) ?_
      refine md_gt_Mo_events (pc := 22) hx hb hK hts hinMo hown hP hl32 d_Mo_tapOf_22 ?_
      refine lv_iload_n (pc := 25) hx hb d_Mo_tapOf_25 rfl (lv_at hl 3 rfl) ?_
      refine md_ld8 (pc := 26) (v := ((S.1 14) x3.toNatClampNeg)) hx hb hK hP hf.1 rfl d_Mo_tapOf_26 ?_
      replace hf := hf.2
      refine lv_iconst (pc := 27) (v := 2) hx hb d_Mo_tapOf_27 (by decide) ?_
      refine lv_idiv (pc := 28) hx hb d_Mo_tapOf_28 (by decide) ?_
      refine lv_istore (pc := 29) (lv' := [(4, .int (((S.1 14) x3.toNatClampNeg) / (2 : Int32))), (0, .ref (a 0)), (1, .int x1), (2, .int x2), (3, .int x3)]) hx hb d_Mo_tapOf_29 hl (by decide) rfl (fun ls hl => ?_)
      refine lv_aload_n (pc := 31) hx hb d_Mo_tapOf_31 rfl (lv_at hl 1 rfl) ?_
      refine md_gt_Mo_events (pc := 32) hx hb hK hts hinMo hown hP hl32 d_Mo_tapOf_32 ?_
      refine lv_iload_n (pc := 35) hx hb d_Mo_tapOf_35 rfl (lv_at hl 4 rfl) ?_
      refine md_ld8 (pc := 36) (v := ((S.1 14) x3.toNatClampNeg)) hx hb hK hP hf.1 rfl d_Mo_tapOf_36 ?_
      replace hf := hf.2
      refine lv_iconst (pc := 37) (v := 2) hx hb d_Mo_tapOf_37 (by decide) ?_
      refine lv_irem (pc := 38) hx hb d_Mo_tapOf_38 (by decide) ?_
      refine lv_iconst (pc := 39) (v := 1) hx hb d_Mo_tapOf_39 (by decide) ?_
      refine lv_icmp_ne (pc := 40) (tgt := 53) hx hb d_Mo_tapOf_40 (by decide) (fun hc => ?_) (fun hc => ?_)
      · replace hf := hf.2 hc
        refine lv_iload (pc := 53) hx hb d_Mo_tapOf_53 (lv_at hl 0 rfl) ?_
        refine lv_iload_n (pc := 55) hx hb d_Mo_tapOf_55 rfl (lv_at hl 2 rfl) ?_
        refine lv_icmp_ne (pc := 56) (tgt := 61) hx hb d_Mo_tapOf_56 (by decide) (fun hc => ?_) (fun hc => ?_)
        · replace hf := hf.2 hc
          refine lv_iload_n (pc := 61) hx hb d_Mo_tapOf_61 rfl (lv_at hl 3 rfl) ?_
          refine lv_iload (pc := 62) hx hb d_Mo_tapOf_62 (lv_at hl 0 rfl) ?_
          refine lv_ishr (pc := 64) hx hb d_Mo_tapOf_64 ?_
          refine lv_iconst (pc := 65) (v := 1) hx hb d_Mo_tapOf_65 (by decide) ?_
          refine lv_iand (pc := 66) hx hb d_Mo_tapOf_66 ?_
          refine lv_iconst (pc := 67) (v := 1) hx hb d_Mo_tapOf_67 (by decide) ?_
          refine lv_icmp_ne (pc := 68) (tgt := 73) hx hb d_Mo_tapOf_68 (by decide) (fun hc => ?_) (fun hc => ?_)
          · replace hf := hf.2 hc
            refine lv_iinc (pc := 73) (k := 4) (v := (x3 + (1 : Int32))) (lv' := [(3, .int (x3 + (1 : Int32))), (4, .int (((S.1 14) x3.toNatClampNeg) / (2 : Int32))), (0, .ref (a 0)), (1, .int x1), (2, .int x2)]) hx hb d_Mo_tapOf_73 hl rfl rfl (by decide) rfl (fun ls hl => ?_)
            refine lv_goto (pc := 76) (tgt := 13) hx hb d_Mo_tapOf_76 (by decide) ?_
            exact ih13 x1 x2 (x3 + (1 : Int32)) _ (lv_sub hl [2, 3, 4, 0] rfl) hf
          replace hf := hf.1 hc
          refine lv_iconst (pc := 71) (v := 2) hx hb d_Mo_tapOf_71 (by decide) ?_
          exact rr_i (pc := 72) hx hb hr hlk hf d_Mo_tapOf_72
        replace hf := hf.1 hc
        refine lv_iconst (pc := 59) (v := 1) hx hb d_Mo_tapOf_59 (by decide) ?_
        exact rr_i (pc := 60) hx hb hr hlk hf d_Mo_tapOf_60
      replace hf := hf.1 hc
      refine lv_iload_n (pc := 43) hx hb d_Mo_tapOf_43 rfl (lv_at hl 3 rfl) ?_
      refine lv_iconst (pc := 44) (v := 1) hx hb d_Mo_tapOf_44 (by decide) ?_
      refine lv_iload (pc := 45) hx hb d_Mo_tapOf_45 (lv_at hl 0 rfl) ?_
      refine lv_ishl (pc := 47) hx hb d_Mo_tapOf_47 ?_
      refine lv_ior (pc := 48) hx hb d_Mo_tapOf_48 ?_
      refine lv_istore_n (pc := 49) (lv' := [(2, .int (x2 ||| ((1 : Int32) <<< ((((S.1 14) x3.toNatClampNeg) / (2 : Int32)) &&& 31)))), (4, .int (((S.1 14) x3.toNatClampNeg) / (2 : Int32))), (0, .ref (a 0)), (1, .int x1), (3, .int x3)]) hx hb d_Mo_tapOf_49 rfl hl (by decide) rfl (fun ls hl => ?_)
      refine lv_goto (pc := 50) (tgt := 73) hx hb d_Mo_tapOf_50 (by decide) ?_
      refine lv_iinc (pc := 73) (k := 4) (v := (x3 + (1 : Int32))) (lv' := [(3, .int (x3 + (1 : Int32))), (2, .int (x2 ||| ((1 : Int32) <<< ((((S.1 14) x3.toNatClampNeg) / (2 : Int32)) &&& 31)))), (4, .int (((S.1 14) x3.toNatClampNeg) / (2 : Int32))), (0, .ref (a 0)), (1, .int x1)]) hx hb d_Mo_tapOf_73 hl rfl rfl (by decide) rfl (fun ls hl => ?_)
      refine lv_goto (pc := 76) (tgt := 13) hx hb d_Mo_tapOf_76 (by decide) ?_
      exact ih13 x1 (x2 ||| ((1 : Int32) <<< ((((S.1 14) x3.toNatClampNeg) / (2 : Int32)) &&& 31))) (x3 + (1 : Int32)) _ (lv_sub hl [3, 4, 1, 0] rfl) hf
  exact lp13 q13 (((S.1 14) (0 : Int32).toNatClampNeg) / (2 : Int32)) (0 : Int32) (1 : Int32) _ (lv_sub hl [3, 2, 1, 0] rfl) hf
def wp_Mo_begin (S : GS) (p0 : Int32) (p1 : Int32) (p2 : Int32) (post : GS → Prop) : Prop := (vp_in p0 24 ∧ (vp_in p0 24 ∧ (post (gI (gI S 25 (upd (S.1 25) (p0).toNatClampNeg p1)) 26 (upd (S.1 26) (p0).toNatClampNeg p2)))))
abbrev rm_Mo_begin : Room := { frames := 0, cells := 0, slots := 0, locals := 0 }
set_option maxHeartbeats 4000000 in
set_option maxRecDepth 100000 in
theorem c_Mo_begin (l : Launch) (D : va_G) (cI cZ cJ : ClassId) (a : Nat → Nat) (sz : Nat) (S : GS) (p0 : Int32) (p1 : Int32) (p2 : Int32) (post : GS → Prop) (hf : wp_Mo_begin S p0 p1 p2 post) : Met l y_Mo_begin ws_Mo_begin rm_Mo_begin (va_Pc [.ref (a 0), .int p0, .int p1, .int p2] (gPre D (tys cI cZ cJ) (mdW cI cZ cJ a S) sz)) (va_Qv post (gB D (tys cI cZ cJ) (mdW cI cZ cJ a) (va_A (mdW cI cZ cJ a S) sz)) (va_A (mdW cI cZ cJ a S) sz)) 0 0 (va_A (mdW cI cZ cJ a S) sz) := by
  refine gm_w (QF := fun A => va_Qv post (gB D (tys cI cZ cJ) (mdW cI cZ cJ a) A) A) (cc := b_Mo_begin) (maxL := 4) (by decide) rfl (Nat.le_of_ble_eq_true rfl) ?_
  intro p e s m args below meth c A ls hx hb hr hts hown hmn hlk hml hK hA hw hl
  have hl : lv_has ls 4 [(0, .ref (a 0)), (1, .int p0), (2, .int p1), (3, .int p2)] := hl
  have hinMo : ∀ w ∈ u_ws R_Mo T_Mo 30, w ∈ ws_Mo_begin := fun w h => List.mem_cons_of_mem _ (tl_Mo w h)
  have hl65 := hts _ (List.mem_cons_of_mem _ tf_Mo_65)
  have hl68 := hts _ (List.mem_cons_of_mem _ tf_Mo_68)
  unfold wp_Mo_begin at hf
  refine lv_aload_n (pc := 0) hx hb d_Mo_begin_0 rfl (lv_at hl 0 rfl) ?_
  refine md_gt_Mo_began (pc := 1) hx hb hK hts hinMo hown hw.1 hl65 d_Mo_begin_1 ?_
  refine lv_iload_n (pc := 4) hx hb d_Mo_begin_4 rfl (lv_at hl 1 rfl) ?_
  refine lv_iload_n (pc := 5) hx hb d_Mo_begin_5 rfl (lv_at hl 2 rfl) ?_
  refine md_st19 (pc := 6) hx hb hK hw hf.1 d_Mo_begin_6 (fun H locs hw => ?_)
  replace hf := hf.2
  refine lv_aload_n (pc := 7) hx hb d_Mo_begin_7 rfl (lv_at hl 0 rfl) ?_
  refine md_gt_Mo_beganWhat (pc := 8) hx hb hK hts hinMo hown hw.1 hl68 d_Mo_begin_8 ?_
  refine lv_iload_n (pc := 11) hx hb d_Mo_begin_11 rfl (lv_at hl 1 rfl) ?_
  refine lv_iload_n (pc := 12) hx hb d_Mo_begin_12 rfl (lv_at hl 3 rfl) ?_
  refine md_st20 (pc := 13) hx hb hK hw hf.1 d_Mo_begin_13 (fun H locs hw => ?_)
  replace hf := hf.2
  have hw : wf D A s.heap (mdW cI cZ cJ a (gI (gI S 25 (upd (S.1 25) (p0).toNatClampNeg p1)) 26 (upd (S.1 26) (p0).toNatClampNeg p2))) H locs := hw
  exact gr_v (pc := 14) hx hb hr hlk hK (gI (gI S 25 (upd (S.1 25) (p0).toNatClampNeg p1)) 26 (upd (S.1 26) (p0).toNatClampNeg p2)) hw hf d_Mo_begin_14
def L_Mo_play_2 (post : GS → Prop) : Nat → Int32 → Int32 → GS → Prop
  | 0, _, _, _ => False
  | n2 + 1, x1, x2, S => (((4 : Int32) ≤ x2 → (post S)) ∧ (¬ (4 : Int32) ≤ x2 → (vp_in (((4 : Int32) * x1) + x2) 16 ∧ ((((S.1 20) (((4 : Int32) * x1) + x2).toNatClampNeg) ≤ (0 : Int32) → (L_Mo_play_2 post n2 x1 (x2 + (1 : Int32)) S)) ∧ (¬ ((S.1 20) (((4 : Int32) * x1) + x2).toNatClampNeg) ≤ (0 : Int32) → (vp_in (((4 : Int32) * x1) + x2) 16 ∧ (wp_Mo_touch S ((S.1 20) (((4 : Int32) * x1) + x2).toNatClampNeg) (fun S31 => (L_Mo_play_2 post n2 x1 (x2 + (1 : Int32)) S31)))))))))
def wp_Mo_play (S : GS) (p0 : Int32) (post : GS → Prop) : Prop := (∃ q2, L_Mo_play_2 post q2 p0 (0 : Int32) S)
abbrev rm_Mo_play : Room := { frames := 4, cells := 0, slots := 0, locals := 88 }
set_option maxHeartbeats 4000000 in
set_option maxRecDepth 100000 in
theorem c_Mo_play (l : Launch) (D : va_G) (cI cZ cJ : ClassId) (a : Nat → Nat) (sz : Nat) (S : GS) (p0 : Int32) (post : GS → Prop) (hf : wp_Mo_play S p0 post) : Met l y_Mo_play ws_Mo_play rm_Mo_play (va_Pc [.ref (a 0), .int p0] (gPre D (tys cI cZ cJ) (mdW cI cZ cJ a S) sz)) (va_Qv post (gB D (tys cI cZ cJ) (mdW cI cZ cJ a) (va_A (mdW cI cZ cJ a S) sz)) (va_A (mdW cI cZ cJ a S) sz)) 0 0 (va_A (mdW cI cZ cJ a S) sz) := by
  refine gm_w (QF := fun A => va_Qv post (gB D (tys cI cZ cJ) (mdW cI cZ cJ a) A) A) (cc := b_Mo_play) (maxL := 3) (by decide) rfl (Nat.le_of_ble_eq_true rfl) ?_
  intro p e s m args below meth c A ls hx hb hr hts hown hmn hlk hml hK hA hw hl
  have hl : lv_has ls 3 [(0, .ref (a 0)), (1, .int p0)] := hl
  have hinMo : ∀ w ∈ u_ws R_Mo T_Mo 30, w ∈ ws_Mo_play := fun w h => List.mem_cons_of_mem _ (tl_Mo w h)
  have hl50 := hts _ (List.mem_cons_of_mem _ tf_Mo_50)
  unfold wp_Mo_play at hf
  refine lv_iconst (pc := 0) (v := 0) hx hb d_Mo_play_0 (by decide) ?_
  refine lv_istore_n (pc := 1) (lv' := [(2, .int (0 : Int32)), (0, .ref (a 0)), (1, .int p0)]) hx hb d_Mo_play_1 rfl hl (by decide) rfl (fun ls hl => ?_)
  obtain ⟨q2, hf⟩ := hf
  have lp2 : ∀ (n2 : Nat) (x1 : Int32) (x2 : Int32) (S : GS) (H : Heap) (locs : List Loc) (ls : Array Slot), lv_has ls 3 [(0, .ref (a 0)), (1, .int x1), (2, .int x2)] → wf D A s.heap (mdW cI cZ cJ a S) H locs → L_Mo_play_2 post n2 x1 x2 S → W p l e rm_Mo_play s m args below meth c H locs 0 0 (MQ below (va_Qv post (gB D (tys cI cZ cJ) (mdW cI cZ cJ a) A) A) args s 0 0 A) (F0 m 2 ls []) := by
    intro n2
    induction n2 with
    | zero => intro x1 x2 S H locs ls hl hw hf; exact False.elim hf
    | succ n2 ih2 =>
      intro x1 x2 S H locs ls hl hw hf
      unfold L_Mo_play_2 at hf
      refine lv_iload_n (pc := 2) hx hb d_Mo_play_2 rfl (lv_at hl 2 rfl) ?_
      refine lv_iconst (pc := 3) (v := 4) hx hb d_Mo_play_3 (by decide) ?_
      refine lv_icmp_ge (pc := 4) (tgt := 40) hx hb d_Mo_play_4 (by decide) (fun hc => ?_) (fun hc => ?_)
      · replace hf := hf.1 hc
        exact gr_v (pc := 40) hx hb hr hlk hK S hw hf d_Mo_play_40
      replace hf := hf.2 hc
      refine lv_aload_n (pc := 7) hx hb d_Mo_play_7 rfl (lv_at hl 0 rfl) ?_
      refine md_gt_Mo_macros (pc := 8) hx hb hK hts hinMo hown hw.1 hl50 d_Mo_play_8 ?_
      refine lv_iconst (pc := 11) (v := 4) hx hb d_Mo_play_11 (by decide) ?_
      refine lv_iload_n (pc := 12) hx hb d_Mo_play_12 rfl (lv_at hl 1 rfl) ?_
      refine lv_imul (pc := 13) hx hb d_Mo_play_13 ?_
      refine lv_iload_n (pc := 14) hx hb d_Mo_play_14 rfl (lv_at hl 2 rfl) ?_
      refine lv_iadd (pc := 15) hx hb d_Mo_play_15 ?_
      refine md_ld14 (pc := 16) (v := ((S.1 20) (((4 : Int32) * x1) + x2).toNatClampNeg)) hx hb hK hw.1 hf.1 rfl d_Mo_play_16 ?_
      replace hf := hf.2
      refine lv_if_le (pc := 17) (tgt := 34) hx hb d_Mo_play_17 (by decide) (fun hc => ?_) (fun hc => ?_)
      · replace hf := hf.1 hc
        refine lv_iinc (pc := 34) (k := 2) (v := (x2 + (1 : Int32))) (lv' := [(2, .int (x2 + (1 : Int32))), (0, .ref (a 0)), (1, .int x1)]) hx hb d_Mo_play_34 hl rfl rfl (by decide) rfl (fun ls hl => ?_)
        refine lv_goto (pc := 37) (tgt := 2) hx hb d_Mo_play_37 (by decide) ?_
        exact ih2 x1 (x2 + (1 : Int32)) S _ _ _ (lv_sub hl [1, 2, 0] rfl) hw hf
      replace hf := hf.2 hc
      refine lv_aload_n (pc := 20) hx hb d_Mo_play_20 rfl (lv_at hl 0 rfl) ?_
      refine lv_aload_n (pc := 21) hx hb d_Mo_play_21 rfl (lv_at hl 0 rfl) ?_
      refine md_gt_Mo_macros (pc := 22) hx hb hK hts hinMo hown hw.1 hl50 d_Mo_play_22 ?_
      refine lv_iconst (pc := 25) (v := 4) hx hb d_Mo_play_25 (by decide) ?_
      refine lv_iload_n (pc := 26) hx hb d_Mo_play_26 rfl (lv_at hl 1 rfl) ?_
      refine lv_imul (pc := 27) hx hb d_Mo_play_27 ?_
      refine lv_iload_n (pc := 28) hx hb d_Mo_play_28 rfl (lv_at hl 2 rfl) ?_
      refine lv_iadd (pc := 29) hx hb d_Mo_play_29 ?_
      refine md_ld14 (pc := 30) (v := ((S.1 20) (((4 : Int32) * x1) + x2).toNatClampNeg)) hx hb hK hw.1 hf.1 rfl d_Mo_play_30 ?_
      replace hf := hf.2
      refine gc_v (pc := 31) (Wf := mdW cI cZ cJ a) hw hA (va_runV (As := [.int ((S.1 20) (((4 : Int32) * x1) + x2).toNatClampNeg)]) (rest := []) ⟨hx, hb, hml, hown, hts⟩ (c_Mo_touch l D cI cZ cJ a _ _ _ _ hf) (cwV 1 hts (tb_wsV tc_Mo_touch tm_Mo_158 ti_Mo_touch te_Mo_touch tz_Mo) rfl rfl rfl (by decide +kernel) ⟨Nat.le_of_ble_eq_true rfl, Nat.le_of_ble_eq_true rfl⟩) (g_preV (q0 := 0) (ci := 9) hK hw rfl rfl) rfl rfl hl.1 rfl (lv_room (Nat.le_of_ble_eq_true rfl)) d_Mo_play_31 ⟨Nat.zero_le _, Nat.zero_le _⟩) (fun S31 H locs hw hf => ?_)
      refine lv_iinc (pc := 34) (k := 2) (v := (x2 + (1 : Int32))) (lv' := [(2, .int (x2 + (1 : Int32))), (0, .ref (a 0)), (1, .int x1)]) hx hb d_Mo_play_34 hl rfl rfl (by decide) rfl (fun ls hl => ?_)
      refine lv_goto (pc := 37) (tgt := 2) hx hb d_Mo_play_37 (by decide) ?_
      exact ih2 x1 (x2 + (1 : Int32)) S31 _ _ _ (lv_sub hl [1, 2, 0] rfl) hw hf
  exact lp2 q2 p0 (0 : Int32) S _ _ _ (lv_sub hl [1, 2, 0] rfl) hw hf
def J_Mo_act_196 (post : Int32 → GS → Prop) (x1 : Int32) (x2 : Int32) (x3 : Int32) (x4 : Int32) (x5 : Int32) (S : GS) : Prop := ((x3 = (4 : Int32) → (post (1 : Int32) S)) ∧ (¬ x3 = (4 : Int32) → (wp_Mo_disarm S (fun S202 => (post (1 : Int32) S202)))))
def J_Mo_act_142 (post : Int32 → GS → Prop) (x1 : Int32) (x2 : Int32) (x3 : Int32) (x4 : Int32) (x5 : Int32) (y1 : Int32) (y2 : Int32) (S : GS) : Prop := (vp_in y1 4 ∧ (J_Mo_act_196 post x1 x2 x3 x4 x5 (gI S 23 (upd (S.1 23) (y1).toNatClampNeg (vp_nar .boolean y2)))))
def J_Mo_act_44 (post : Int32 → GS → Prop) (x1 : Int32) (x2 : Int32) (x3 : Int32) (x4 : Int32) (y0 : Int32) (S : GS) : Prop := ((y0 = (0 : Int32) → (post (0 : Int32) S)) ∧ (¬ y0 = (0 : Int32) → ((x3 = (1 : Int32) → (wp_Mo_begin S x1 (1 : Int32) x4 (fun S97 => (wp_Mo_change S97 x4 (1 : Int32) (fun S104 => (J_Mo_act_196 post x1 x2 x3 x4 y0 S104)))))) ∧ (¬ x3 = (1 : Int32) → ((x3 = (2 : Int32) → (wp_Mo_begin S x1 (2 : Int32) x4 (fun S115 => (J_Mo_act_196 post x1 x2 x3 x4 y0 S115)))) ∧ (¬ x3 = (2 : Int32) → ((x3 = (3 : Int32) → (vp_in x4 4 ∧ ((((S.1 23) x4.toNatClampNeg) = (0 : Int32) → (J_Mo_act_142 post x1 x2 x3 x4 y0 x4 (1 : Int32) S)) ∧ (¬ ((S.1 23) x4.toNatClampNeg) = (0 : Int32) → (J_Mo_act_142 post x1 x2 x3 x4 y0 x4 (0 : Int32) S))))) ∧ (¬ x3 = (3 : Int32) → ((x3 = (4 : Int32) → (vp_in x4 4 ∧ (J_Mo_act_196 post x1 x2 x3 x4 y0 (gI S 24 (upd (S.1 24) (x4).toNatClampNeg (vp_nar .boolean (1 : Int32))))))) ∧ (¬ x3 = (4 : Int32) → ((x3 = (5 : Int32) → ((y0 = (1 : Int32) → (wp_Mo_touch S x4 (fun S175 => (J_Mo_act_196 post x1 x2 x3 x4 y0 S175)))) ∧ (¬ y0 = (1 : Int32) → (vp_in x2 96 ∧ (wp_Mo_begin S x1 (2 : Int32) ((S.1 19) x2.toNatClampNeg) (fun S190 => (J_Mo_act_196 post x1 x2 x3 x4 y0 S190))))))) ∧ (¬ x3 = (5 : Int32) → ((x3 = (6 : Int32) → (wp_Mo_play S x4 (fun S160 => (J_Mo_act_196 post x1 x2 x3 x4 y0 S160)))) ∧ (¬ x3 = (6 : Int32) → (J_Mo_act_196 post x1 x2 x3 x4 y0 S)))))))))))))))
def J_Mo_act_29 (post : Int32 → GS → Prop) (x1 : Int32) (x2 : Int32) (x3 : Int32) (y0 : Int32) (S : GS) : Prop := ((x3 = (5 : Int32) → (wp_Mo_tapOf S (fun r37 => (J_Mo_act_44 post x1 x2 x3 y0 r37 S)))) ∧ (¬ x3 = (5 : Int32) → (J_Mo_act_44 post x1 x2 x3 y0 (1 : Int32) S)))
def J_Mo_act_14 (post : Int32 → GS → Prop) (x1 : Int32) (x2 : Int32) (y0 : Int32) (S : GS) : Prop := (((0 : Int32) ≤ x2 → (vp_in x2 96 ∧ (J_Mo_act_29 post x1 x2 y0 ((S.1 18) x2.toNatClampNeg) S))) ∧ (¬ (0 : Int32) ≤ x2 → (J_Mo_act_29 post x1 x2 y0 (0 : Int32) S)))
def wp_Mo_act (S : GS) (p0 : Int32) (p1 : Int32) (post : Int32 → GS → Prop) : Prop := (((0 : Int32) ≤ p1 → (vp_in p1 96 ∧ (J_Mo_act_14 post p0 p1 ((S.1 17) p1.toNatClampNeg) S))) ∧ (¬ (0 : Int32) ≤ p1 → (J_Mo_act_14 post p0 p1 (0 : Int32) S)))
abbrev rm_Mo_act : Room := { frames := 5, cells := 0, slots := 0, locals := 110 }
set_option maxHeartbeats 4000000 in
set_option maxRecDepth 100000 in
theorem c_Mo_act (l : Launch) (D : va_G) (cI cZ cJ : ClassId) (a : Nat → Nat) (sz : Nat) (S : GS) (p0 : Int32) (p1 : Int32) (post : Int32 → GS → Prop) (hf : wp_Mo_act S p0 p1 post) : Met l y_Mo_act ws_Mo_act rm_Mo_act (va_Pc [.ref (a 0), .int p0, .int p1] (gPre D (tys cI cZ cJ) (mdW cI cZ cJ a S) sz)) (va_Qi post (gB D (tys cI cZ cJ) (mdW cI cZ cJ a) (va_A (mdW cI cZ cJ a S) sz)) (va_A (mdW cI cZ cJ a S) sz)) 0 0 (va_A (mdW cI cZ cJ a S) sz) := by
  refine gm_w (QF := fun A => va_Qi post (gB D (tys cI cZ cJ) (mdW cI cZ cJ a) A) A) (cc := b_Mo_act) (maxL := 6) (by decide) rfl (Nat.le_of_ble_eq_true rfl) ?_
  intro p e s m args below meth c A ls hx hb hr hts hown hmn hlk hml hK hA hw hl
  have hl : lv_has ls 6 [(0, .ref (a 0)), (1, .int p0), (2, .int p1)] := hl
  have hinMo : ∀ w ∈ u_ws R_Mo T_Mo 30, w ∈ ws_Mo_act := fun w h => List.mem_cons_of_mem _ (tl_Mo w h)
  have hl41 := hts _ (List.mem_cons_of_mem _ tf_Mo_41)
  have hl44 := hts _ (List.mem_cons_of_mem _ tf_Mo_44)
  have hl47 := hts _ (List.mem_cons_of_mem _ tf_Mo_47)
  have hl59 := hts _ (List.mem_cons_of_mem _ tf_Mo_59)
  have hl62 := hts _ (List.mem_cons_of_mem _ tf_Mo_62)
  have jn196 : ∀ (x1 : Int32) (x2 : Int32) (x3 : Int32) (x4 : Int32) (x5 : Int32) (S : GS) (H : Heap) (locs : List Loc) (ls : Array Slot), lv_has ls 6 [(0, .ref (a 0)), (1, .int x1), (2, .int x2), (3, .int x3), (4, .int x4), (5, .int x5)] → wf D A s.heap (mdW cI cZ cJ a S) H locs → J_Mo_act_196 post x1 x2 x3 x4 x5 S → W p l e rm_Mo_act s m args below meth c H locs 0 0 (MQ below (va_Qi post (gB D (tys cI cZ cJ) (mdW cI cZ cJ a) A) A) args s 0 0 A) (F0 m 196 ls []) := by
    intro x1 x2 x3 x4 x5 S H locs ls hl hw hf
    unfold J_Mo_act_196 at hf
    refine lv_iload_n (pc := 196) hx hb d_Mo_act_196 rfl (lv_at hl 3 rfl) ?_
    refine lv_iconst (pc := 197) (v := 4) hx hb d_Mo_act_197 (by decide) ?_
    refine lv_icmp_eq (pc := 198) (tgt := 205) hx hb d_Mo_act_198 (by decide) (fun hc => ?_) (fun hc => ?_)
    · replace hf := hf.1 hc
      refine lv_iconst (pc := 205) (v := 1) hx hb d_Mo_act_205 (by decide) ?_
      exact gr_z (pc := 206) hx hb hr hlk hK S hw (by decide) hf d_Mo_act_206
    replace hf := hf.2 hc
    refine lv_aload_n (pc := 201) hx hb d_Mo_act_201 rfl (lv_at hl 0 rfl) ?_
    refine gc_v (pc := 202) (Wf := mdW cI cZ cJ a) hw hA (va_runV (As := []) (rest := []) ⟨hx, hb, hml, hown, hts⟩ (c_Mo_disarm l D cI cZ cJ a _ _ _ hf) (cwV 0 hts (tb_wsV tc_Mo_disarm tm_Mo_144 ti_Mo_disarm te_Mo_disarm tz_Mo) rfl rfl rfl (by decide +kernel) ⟨Nat.le_of_ble_eq_true rfl, Nat.le_of_ble_eq_true rfl⟩) (g_preV (q0 := 0) (ci := 9) hK hw rfl rfl) rfl rfl hl.1 rfl (lv_room (Nat.le_of_ble_eq_true rfl)) d_Mo_act_202 ⟨Nat.zero_le _, Nat.zero_le _⟩) (fun S202 H locs hw hf => ?_)
    refine lv_iconst (pc := 205) (v := 1) hx hb d_Mo_act_205 (by decide) ?_
    exact gr_z (pc := 206) hx hb hr hlk hK S202 hw (by decide) hf d_Mo_act_206
  have jn142 : ∀ (x1 : Int32) (x2 : Int32) (x3 : Int32) (x4 : Int32) (x5 : Int32) (y1 : Int32) (y2 : Int32) (S : GS) (H : Heap) (locs : List Loc) (ls : Array Slot), lv_has ls 6 [(0, .ref (a 0)), (1, .int x1), (2, .int x2), (3, .int x3), (4, .int x4), (5, .int x5)] → wf D A s.heap (mdW cI cZ cJ a S) H locs → J_Mo_act_142 post x1 x2 x3 x4 x5 y1 y2 S → W p l e rm_Mo_act s m args below meth c H locs 0 0 (MQ below (va_Qi post (gB D (tys cI cZ cJ) (mdW cI cZ cJ a) A) A) args s 0 0 A) (F0 m 142 ls [.int y2, .int y1, .ref (a 17)]) := by
    intro x1 x2 x3 x4 x5 y1 y2 S H locs ls hl hw hf
    unfold J_Mo_act_142 at hf
    refine md_st17 (pc := 142) hx hb hK hw hf.1 d_Mo_act_142 (fun H locs hw => ?_)
    replace hf := hf.2
    refine lv_goto (pc := 143) (tgt := 196) hx hb d_Mo_act_143 (by decide) ?_
    exact jn196 x1 x2 x3 x4 x5 (gI S 23 (upd (S.1 23) (y1).toNatClampNeg (vp_nar .boolean y2))) _ _ _ (lv_sub hl [0, 1, 2, 3, 4, 5] rfl) hw hf
  have jn44 : ∀ (x1 : Int32) (x2 : Int32) (x3 : Int32) (x4 : Int32) (y0 : Int32) (S : GS) (H : Heap) (locs : List Loc) (ls : Array Slot), lv_has ls 6 [(0, .ref (a 0)), (1, .int x1), (2, .int x2), (3, .int x3), (4, .int x4)] → wf D A s.heap (mdW cI cZ cJ a S) H locs → J_Mo_act_44 post x1 x2 x3 x4 y0 S → W p l e rm_Mo_act s m args below meth c H locs 0 0 (MQ below (va_Qi post (gB D (tys cI cZ cJ) (mdW cI cZ cJ a) A) A) args s 0 0 A) (F0 m 44 ls [.int y0]) := by
    intro x1 x2 x3 x4 y0 S H locs ls hl hw hf
    unfold J_Mo_act_44 at hf
    refine lv_istore (pc := 44) (lv' := [(5, .int y0), (0, .ref (a 0)), (1, .int x1), (2, .int x2), (3, .int x3), (4, .int x4)]) hx hb d_Mo_act_44 hl (by decide) rfl (fun ls hl => ?_)
    refine lv_iload (pc := 46) hx hb d_Mo_act_46 (lv_at hl 0 rfl) ?_
    refine lv_if_ne (pc := 48) (tgt := 53) hx hb d_Mo_act_48 (by decide) (fun hc => ?_) (fun hc => ?_)
    · replace hf := hf.2 hc
      refine lv_iload_n (pc := 53) hx hb d_Mo_act_53 rfl (lv_at hl 4 rfl) ?_
      by_cases hs0 : x3 = (1 : Int32)
      · replace hf := hf.1 hs0
        refine lv_tableIn (pc := 54) (off := 38) (tgt := 92) hx hb d_Mo_act_54 (by rw [hs0]; decide) (by rw [hs0]; decide) (by rw [hs0]; decide) (by decide) ?_
        refine lv_aload_n (pc := 92) hx hb d_Mo_act_92 rfl (lv_at hl 1 rfl) ?_
        refine lv_iload_n (pc := 93) hx hb d_Mo_act_93 rfl (lv_at hl 2 rfl) ?_
        refine lv_iconst (pc := 94) (v := 1) hx hb d_Mo_act_94 (by decide) ?_
        refine lv_iload (pc := 95) hx hb d_Mo_act_95 (lv_at hl 5 rfl) ?_
        refine gc_v (pc := 97) (Wf := mdW cI cZ cJ a) hw hA (va_runV (As := [.int x1, .int (1 : Int32), .int x4]) (rest := []) ⟨hx, hb, hml, hown, hts⟩ (c_Mo_begin l D cI cZ cJ a _ _ _ _ _ _ hf) (cwV 3 hts (tb_wsV tc_Mo_begin tm_Mo_151 ti_Mo_begin te_Mo_begin tz_Mo) rfl rfl rfl (by decide +kernel) ⟨Nat.le_of_ble_eq_true rfl, Nat.le_of_ble_eq_true rfl⟩) (g_preV (q0 := 0) (ci := 9) hK hw rfl rfl) rfl rfl hl.1 rfl (lv_room (Nat.le_of_ble_eq_true rfl)) d_Mo_act_97 ⟨Nat.zero_le _, Nat.zero_le _⟩) (fun S97 H locs hw hf => ?_)
        refine lv_aload_n (pc := 100) hx hb d_Mo_act_100 rfl (lv_at hl 1 rfl) ?_
        refine lv_iload (pc := 101) hx hb d_Mo_act_101 (lv_at hl 5 rfl) ?_
        refine lv_iconst (pc := 103) (v := 1) hx hb d_Mo_act_103 (by decide) ?_
        refine gc_v (pc := 104) (Wf := mdW cI cZ cJ a) hw hA (va_runV (As := [.int x4, .int (1 : Int32)]) (rest := []) ⟨hx, hb, hml, hown, hts⟩ (c_Mo_change l D cI cZ cJ a _ _ _ _ _ hf) (cwV 2 hts (tb_wsV tc_Mo_change tm_Mo_127 ti_Mo_change te_Mo_change tz_Mo) rfl rfl rfl (by decide +kernel) ⟨Nat.le_of_ble_eq_true rfl, Nat.le_of_ble_eq_true rfl⟩) (g_preV (q0 := 0) (ci := 9) hK hw rfl rfl) rfl rfl hl.1 rfl (lv_room (Nat.le_of_ble_eq_true rfl)) d_Mo_act_104 ⟨Nat.zero_le _, Nat.zero_le _⟩) (fun S104 H locs hw hf => ?_)
        refine lv_goto (pc := 107) (tgt := 196) hx hb d_Mo_act_107 (by decide) ?_
        exact jn196 x1 x2 x3 x4 y0 S104 _ _ _ (lv_sub hl [1, 2, 3, 4, 5, 0] rfl) hw hf
      replace hf := hf.2 hs0
      by_cases hs1 : x3 = (2 : Int32)
      · replace hf := hf.1 hs1
        refine lv_tableIn (pc := 54) (off := 56) (tgt := 110) hx hb d_Mo_act_54 (by rw [hs1]; decide) (by rw [hs1]; decide) (by rw [hs1]; decide) (by decide) ?_
        refine lv_aload_n (pc := 110) hx hb d_Mo_act_110 rfl (lv_at hl 1 rfl) ?_
        refine lv_iload_n (pc := 111) hx hb d_Mo_act_111 rfl (lv_at hl 2 rfl) ?_
        refine lv_iconst (pc := 112) (v := 2) hx hb d_Mo_act_112 (by decide) ?_
        refine lv_iload (pc := 113) hx hb d_Mo_act_113 (lv_at hl 5 rfl) ?_
        refine gc_v (pc := 115) (Wf := mdW cI cZ cJ a) hw hA (va_runV (As := [.int x1, .int (2 : Int32), .int x4]) (rest := []) ⟨hx, hb, hml, hown, hts⟩ (c_Mo_begin l D cI cZ cJ a _ _ _ _ _ _ hf) (cwV 3 hts (tb_wsV tc_Mo_begin tm_Mo_151 ti_Mo_begin te_Mo_begin tz_Mo) rfl rfl rfl (by decide +kernel) ⟨Nat.le_of_ble_eq_true rfl, Nat.le_of_ble_eq_true rfl⟩) (g_preV (q0 := 0) (ci := 9) hK hw rfl rfl) rfl rfl hl.1 rfl (lv_room (Nat.le_of_ble_eq_true rfl)) d_Mo_act_115 ⟨Nat.zero_le _, Nat.zero_le _⟩) (fun S115 H locs hw hf => ?_)
        refine lv_goto (pc := 118) (tgt := 196) hx hb d_Mo_act_118 (by decide) ?_
        exact jn196 x1 x2 x3 x4 y0 S115 _ _ _ (lv_sub hl [1, 2, 3, 4, 5, 0] rfl) hw hf
      replace hf := hf.2 hs1
      by_cases hs2 : x3 = (3 : Int32)
      · replace hf := hf.1 hs2
        refine lv_tableIn (pc := 54) (off := 67) (tgt := 121) hx hb d_Mo_act_54 (by rw [hs2]; decide) (by rw [hs2]; decide) (by rw [hs2]; decide) (by decide) ?_
        refine lv_aload_n (pc := 121) hx hb d_Mo_act_121 rfl (lv_at hl 1 rfl) ?_
        refine md_gt_Mo_locked (pc := 122) hx hb hK hts hinMo hown hw.1 hl59 d_Mo_act_122 ?_
        refine lv_iload (pc := 125) hx hb d_Mo_act_125 (lv_at hl 5 rfl) ?_
        refine lv_aload_n (pc := 127) hx hb d_Mo_act_127 rfl (lv_at hl 1 rfl) ?_
        refine md_gt_Mo_locked (pc := 128) hx hb hK hts hinMo hown hw.1 hl59 d_Mo_act_128 ?_
        refine lv_iload (pc := 131) hx hb d_Mo_act_131 (lv_at hl 5 rfl) ?_
        refine md_ld17 (pc := 133) (v := ((S.1 23) x4.toNatClampNeg)) hx hb hK hw.1 hf.1 rfl d_Mo_act_133 ?_
        replace hf := hf.2
        refine lv_if_ne (pc := 134) (tgt := 141) hx hb d_Mo_act_134 (by decide) (fun hc => ?_) (fun hc => ?_)
        · replace hf := hf.2 hc
          refine lv_iconst (pc := 141) (v := 0) hx hb d_Mo_act_141 (by decide) ?_
          exact jn142 x1 x2 x3 x4 y0 x4 (0 : Int32) S _ _ _ (lv_sub hl [1, 2, 3, 4, 5, 0] rfl) hw hf
        replace hf := hf.1 hc
        refine lv_iconst (pc := 137) (v := 1) hx hb d_Mo_act_137 (by decide) ?_
        refine lv_goto (pc := 138) (tgt := 142) hx hb d_Mo_act_138 (by decide) ?_
        exact jn142 x1 x2 x3 x4 y0 x4 (1 : Int32) S _ _ _ (lv_sub hl [1, 2, 3, 4, 5, 0] rfl) hw hf
      replace hf := hf.2 hs2
      by_cases hs3 : x3 = (4 : Int32)
      · replace hf := hf.1 hs3
        refine lv_tableIn (pc := 54) (off := 92) (tgt := 146) hx hb d_Mo_act_54 (by rw [hs3]; decide) (by rw [hs3]; decide) (by rw [hs3]; decide) (by decide) ?_
        refine lv_aload_n (pc := 146) hx hb d_Mo_act_146 rfl (lv_at hl 1 rfl) ?_
        refine md_gt_Mo_armed (pc := 147) hx hb hK hts hinMo hown hw.1 hl62 d_Mo_act_147 ?_
        refine lv_iload (pc := 150) hx hb d_Mo_act_150 (lv_at hl 5 rfl) ?_
        refine lv_iconst (pc := 152) (v := 1) hx hb d_Mo_act_152 (by decide) ?_
        refine md_st18 (pc := 153) hx hb hK hw hf.1 d_Mo_act_153 (fun H locs hw => ?_)
        replace hf := hf.2
        refine lv_goto (pc := 154) (tgt := 196) hx hb d_Mo_act_154 (by decide) ?_
        exact jn196 x1 x2 x3 x4 y0 (gI S 24 (upd (S.1 24) (x4).toNatClampNeg (vp_nar .boolean (1 : Int32)))) _ _ _ (lv_sub hl [1, 2, 3, 4, 5, 0] rfl) hw hf
      replace hf := hf.2 hs3
      by_cases hs4 : x3 = (5 : Int32)
      · replace hf := hf.1 hs4
        refine lv_tableIn (pc := 54) (off := 112) (tgt := 166) hx hb d_Mo_act_54 (by rw [hs4]; decide) (by rw [hs4]; decide) (by rw [hs4]; decide) (by decide) ?_
        refine lv_iload (pc := 166) hx hb d_Mo_act_166 (lv_at hl 0 rfl) ?_
        refine lv_iconst (pc := 168) (v := 1) hx hb d_Mo_act_168 (by decide) ?_
        refine lv_icmp_ne (pc := 169) (tgt := 181) hx hb d_Mo_act_169 (by decide) (fun hc => ?_) (fun hc => ?_)
        · replace hf := hf.2 hc
          refine lv_aload_n (pc := 181) hx hb d_Mo_act_181 rfl (lv_at hl 1 rfl) ?_
          refine lv_iload_n (pc := 182) hx hb d_Mo_act_182 rfl (lv_at hl 2 rfl) ?_
          refine lv_iconst (pc := 183) (v := 2) hx hb d_Mo_act_183 (by decide) ?_
          refine lv_aload_n (pc := 184) hx hb d_Mo_act_184 rfl (lv_at hl 1 rfl) ?_
          refine md_gt_Mo_seconds (pc := 185) hx hb hK hts hinMo hown hw.1 hl47 d_Mo_act_185 ?_
          refine lv_iload_n (pc := 188) hx hb d_Mo_act_188 rfl (lv_at hl 3 rfl) ?_
          refine md_ld13 (pc := 189) (v := ((S.1 19) x2.toNatClampNeg)) hx hb hK hw.1 hf.1 rfl d_Mo_act_189 ?_
          replace hf := hf.2
          refine gc_v (pc := 190) (Wf := mdW cI cZ cJ a) hw hA (va_runV (As := [.int x1, .int (2 : Int32), .int ((S.1 19) x2.toNatClampNeg)]) (rest := []) ⟨hx, hb, hml, hown, hts⟩ (c_Mo_begin l D cI cZ cJ a _ _ _ _ _ _ hf) (cwV 3 hts (tb_wsV tc_Mo_begin tm_Mo_151 ti_Mo_begin te_Mo_begin tz_Mo) rfl rfl rfl (by decide +kernel) ⟨Nat.le_of_ble_eq_true rfl, Nat.le_of_ble_eq_true rfl⟩) (g_preV (q0 := 0) (ci := 9) hK hw rfl rfl) rfl rfl hl.1 rfl (lv_room (Nat.le_of_ble_eq_true rfl)) d_Mo_act_190 ⟨Nat.zero_le _, Nat.zero_le _⟩) (fun S190 H locs hw hf => ?_)
          refine lv_goto (pc := 193) (tgt := 196) hx hb d_Mo_act_193 (by decide) ?_
          exact jn196 x1 x2 x3 x4 y0 S190 _ _ _ (lv_sub hl [1, 2, 3, 4, 5, 0] rfl) hw hf
        replace hf := hf.1 hc
        refine lv_aload_n (pc := 172) hx hb d_Mo_act_172 rfl (lv_at hl 1 rfl) ?_
        refine lv_iload (pc := 173) hx hb d_Mo_act_173 (lv_at hl 5 rfl) ?_
        refine gc_v (pc := 175) (Wf := mdW cI cZ cJ a) hw hA (va_runV (As := [.int x4]) (rest := []) ⟨hx, hb, hml, hown, hts⟩ (c_Mo_touch l D cI cZ cJ a _ _ _ _ hf) (cwV 1 hts (tb_wsV tc_Mo_touch tm_Mo_158 ti_Mo_touch te_Mo_touch tz_Mo) rfl rfl rfl (by decide +kernel) ⟨Nat.le_of_ble_eq_true rfl, Nat.le_of_ble_eq_true rfl⟩) (g_preV (q0 := 0) (ci := 9) hK hw rfl rfl) rfl rfl hl.1 rfl (lv_room (Nat.le_of_ble_eq_true rfl)) d_Mo_act_175 ⟨Nat.zero_le _, Nat.zero_le _⟩) (fun S175 H locs hw hf => ?_)
        refine lv_goto (pc := 178) (tgt := 196) hx hb d_Mo_act_178 (by decide) ?_
        exact jn196 x1 x2 x3 x4 y0 S175 _ _ _ (lv_sub hl [1, 2, 3, 4, 5, 0] rfl) hw hf
      replace hf := hf.2 hs4
      by_cases hs5 : x3 = (6 : Int32)
      · replace hf := hf.1 hs5
        refine lv_tableIn (pc := 54) (off := 103) (tgt := 157) hx hb d_Mo_act_54 (by rw [hs5]; decide) (by rw [hs5]; decide) (by rw [hs5]; decide) (by decide) ?_
        refine lv_aload_n (pc := 157) hx hb d_Mo_act_157 rfl (lv_at hl 1 rfl) ?_
        refine lv_iload (pc := 158) hx hb d_Mo_act_158 (lv_at hl 5 rfl) ?_
        refine gc_v (pc := 160) (Wf := mdW cI cZ cJ a) hw hA (va_runV (As := [.int x4]) (rest := []) ⟨hx, hb, hml, hown, hts⟩ (c_Mo_play l D cI cZ cJ a _ _ _ _ hf) (cwV 1 hts (tb_wsV tc_Mo_play tm_Mo_155 ti_Mo_play te_Mo_play tz_Mo) rfl rfl rfl (by decide +kernel) ⟨Nat.le_of_ble_eq_true rfl, Nat.le_of_ble_eq_true rfl⟩) (g_preV (q0 := 0) (ci := 9) hK hw rfl rfl) rfl rfl hl.1 rfl (lv_room (Nat.le_of_ble_eq_true rfl)) d_Mo_act_160 ⟨Nat.zero_le _, Nat.zero_le _⟩) (fun S160 H locs hw hf => ?_)
        refine lv_goto (pc := 163) (tgt := 196) hx hb d_Mo_act_163 (by decide) ?_
        exact jn196 x1 x2 x3 x4 y0 S160 _ _ _ (lv_sub hl [1, 2, 3, 4, 5, 0] rfl) hw hf
      replace hf := hf.2 hs5
      have ehs0 := lv_neT hs0 (a := 1) (by decide)
      have ehs1 := lv_neT hs1 (a := 2) (by decide)
      have ehs2 := lv_neT hs2 (a := 3) (by decide)
      have ehs3 := lv_neT hs3 (a := 4) (by decide)
      have ehs4 := lv_neT hs4 (a := 5) (by decide)
      have ehs5 := lv_neT hs5 (a := 6) (by decide)
      refine lv_tableOut (pc := 54) (tgt := 196) hx hb d_Mo_act_54 (by omega) (by decide) ?_
      exact jn196 x1 x2 x3 x4 y0 S _ _ _ (lv_sub hl [1, 2, 3, 4, 5, 0] rfl) hw hf
    replace hf := hf.1 hc
    refine lv_iconst (pc := 51) (v := 0) hx hb d_Mo_act_51 (by decide) ?_
    exact gr_z (pc := 52) hx hb hr hlk hK S hw (by decide) hf d_Mo_act_52
  have jn29 : ∀ (x1 : Int32) (x2 : Int32) (x3 : Int32) (y0 : Int32) (S : GS) (H : Heap) (locs : List Loc) (ls : Array Slot), lv_has ls 6 [(0, .ref (a 0)), (1, .int x1), (2, .int x2), (3, .int x3)] → wf D A s.heap (mdW cI cZ cJ a S) H locs → J_Mo_act_29 post x1 x2 x3 y0 S → W p l e rm_Mo_act s m args below meth c H locs 0 0 (MQ below (va_Qi post (gB D (tys cI cZ cJ) (mdW cI cZ cJ a) A) A) args s 0 0 A) (F0 m 29 ls [.int y0]) := by
    intro x1 x2 x3 y0 S H locs ls hl hw hf
    unfold J_Mo_act_29 at hf
    refine lv_istore (pc := 29) (lv' := [(4, .int y0), (0, .ref (a 0)), (1, .int x1), (2, .int x2), (3, .int x3)]) hx hb d_Mo_act_29 hl (by decide) rfl (fun ls hl => ?_)
    refine lv_iload_n (pc := 31) hx hb d_Mo_act_31 rfl (lv_at hl 4 rfl) ?_
    refine lv_iconst (pc := 32) (v := 5) hx hb d_Mo_act_32 (by decide) ?_
    refine lv_icmp_ne (pc := 33) (tgt := 43) hx hb d_Mo_act_33 (by decide) (fun hc => ?_) (fun hc => ?_)
    · replace hf := hf.2 hc
      refine lv_iconst (pc := 43) (v := 1) hx hb d_Mo_act_43 (by decide) ?_
      exact jn44 x1 x2 x3 y0 (1 : Int32) S _ _ _ (lv_sub hl [1, 2, 3, 4, 0] rfl) hw hf
    replace hf := hf.1 hc
    refine lv_aload_n (pc := 36) hx hb d_Mo_act_36 rfl (lv_at hl 1 rfl) ?_
    refine vp_callSi (pc := 37) (W.runV (As := []) (rest := []) ⟨hx, hb, hml, hown, hts⟩ (c_Mo_tapOf l D cI cZ cJ a _ _ hf) (cwV 0 hts (tb_wsV tc_Mo_tapOf tm_Mo_147 ti_Mo_tapOf te_Mo_tapOf tz_Mo) rfl rfl rfl (by decide +kernel) ⟨Nat.le_of_ble_eq_true rfl, Nat.le_of_ble_eq_true rfl⟩) (r_preV (q0 := 0) (ci := 9) hK hw.1 rfl rfl) rfl rfl hl.1 rfl (lv_room (Nat.le_of_ble_eq_true rfl)) d_Mo_act_37 ⟨Nat.zero_le _, Nat.zero_le _⟩) (fun r37 hf => ?_)
    refine lv_goto (pc := 40) (tgt := 44) hx hb d_Mo_act_40 (by decide) ?_
    exact jn44 x1 x2 x3 y0 r37 S _ _ _ (lv_sub hl [1, 2, 3, 4, 0] rfl) hw hf
  have jn14 : ∀ (x1 : Int32) (x2 : Int32) (y0 : Int32) (S : GS) (H : Heap) (locs : List Loc) (ls : Array Slot), lv_has ls 6 [(0, .ref (a 0)), (1, .int x1), (2, .int x2)] → wf D A s.heap (mdW cI cZ cJ a S) H locs → J_Mo_act_14 post x1 x2 y0 S → W p l e rm_Mo_act s m args below meth c H locs 0 0 (MQ below (va_Qi post (gB D (tys cI cZ cJ) (mdW cI cZ cJ a) A) A) args s 0 0 A) (F0 m 14 ls [.int y0]) := by
    intro x1 x2 y0 S H locs ls hl hw hf
    unfold J_Mo_act_14 at hf
    refine lv_istore_n (pc := 14) (lv' := [(3, .int y0), (0, .ref (a 0)), (1, .int x1), (2, .int x2)]) hx hb d_Mo_act_14 rfl hl (by decide) rfl (fun ls hl => ?_)
    refine lv_iload_n (pc := 15) hx hb d_Mo_act_15 rfl (lv_at hl 3 rfl) ?_
    refine lv_if_ge (pc := 16) (tgt := 23) hx hb d_Mo_act_16 (by decide) (fun hc => ?_) (fun hc => ?_)
    · replace hf := hf.1 hc
      refine lv_aload_n (pc := 23) hx hb d_Mo_act_23 rfl (lv_at hl 1 rfl) ?_
      refine md_gt_Mo_firsts (pc := 24) hx hb hK hts hinMo hown hw.1 hl44 d_Mo_act_24 ?_
      refine lv_iload_n (pc := 27) hx hb d_Mo_act_27 rfl (lv_at hl 3 rfl) ?_
      refine md_ld12 (pc := 28) (v := ((S.1 18) x2.toNatClampNeg)) hx hb hK hw.1 hf.1 rfl d_Mo_act_28 ?_
      replace hf := hf.2
      exact jn29 x1 x2 y0 ((S.1 18) x2.toNatClampNeg) S _ _ _ (lv_sub hl [1, 2, 3, 0] rfl) hw hf
    replace hf := hf.2 hc
    refine lv_iconst (pc := 19) (v := 0) hx hb d_Mo_act_19 (by decide) ?_
    refine lv_goto (pc := 20) (tgt := 29) hx hb d_Mo_act_20 (by decide) ?_
    exact jn29 x1 x2 y0 (0 : Int32) S _ _ _ (lv_sub hl [1, 2, 3, 0] rfl) hw hf
  unfold wp_Mo_act at hf
  refine lv_iload_n (pc := 0) hx hb d_Mo_act_0 rfl (lv_at hl 2 rfl) ?_
  refine lv_if_ge (pc := 1) (tgt := 8) hx hb d_Mo_act_1 (by decide) (fun hc => ?_) (fun hc => ?_)
  · replace hf := hf.1 hc
    refine lv_aload_n (pc := 8) hx hb d_Mo_act_8 rfl (lv_at hl 0 rfl) ?_
    refine md_gt_Mo_kinds (pc := 9) hx hb hK hts hinMo hown hw.1 hl41 d_Mo_act_9 ?_
    refine lv_iload_n (pc := 12) hx hb d_Mo_act_12 rfl (lv_at hl 2 rfl) ?_
    refine md_ld11 (pc := 13) (v := ((S.1 17) p1.toNatClampNeg)) hx hb hK hw.1 hf.1 rfl d_Mo_act_13 ?_
    replace hf := hf.2
    exact jn14 p0 p1 ((S.1 17) p1.toNatClampNeg) S _ _ _ (lv_sub hl [0, 1, 2] rfl) hw hf
  replace hf := hf.2 hc
  refine lv_iconst (pc := 4) (v := 0) hx hb d_Mo_act_4 (by decide) ?_
  refine lv_goto (pc := 5) (tgt := 14) hx hb d_Mo_act_5 (by decide) ?_
  exact jn14 p0 p1 (0 : Int32) S _ _ _ (lv_sub hl [0, 1, 2] rfl) hw hf
def J_Mo_takeFirst_89 (post : Int32 → GS → Prop) (x1 : Int32) (x2 : Int32) (x3 : Int32) (x4 : Int32) (y1 : Int32) (y2 : Int32) (S : GS) : Prop := (wp_Mo_act S y1 y2 (fun r89 S89 => ((r89 = (0 : Int32) → (post (0 : Int32) S89)) ∧ (¬ r89 = (0 : Int32) → (wp_Mo_drop S89 (1 : Int32) (fun S99 => (post (1 : Int32) S99)))))))
def wp_Mo_takeFirst (S : GS) (post : Int32 → GS → Prop) : Prop := (vp_in (0 : Int32) 80 ∧ (vp_in (0 : Int32) 80 ∧ (((((S.1 14) (0 : Int32).toNatClampNeg) - ((S.1 14) (0 : Int32).toNatClampNeg) / (2 : Int32) * (2 : Int32)) = (0 : Int32) → (wp_Mo_takeRelease S (((S.1 14) (0 : Int32).toNatClampNeg) / (2 : Int32)) (fun S22 => (wp_Mo_drop S22 (1 : Int32) (fun S27 => (post (1 : Int32) S27)))))) ∧ (¬ (((S.1 14) (0 : Int32).toNatClampNeg) - ((S.1 14) (0 : Int32).toNatClampNeg) / (2 : Int32) * (2 : Int32)) = (0 : Int32) → (wp_Mo_rowLength S (fun r33 => (wp_Mo_waitsForChord S r33 (fun r39 => ((r39 = (0 : Int32) → (wp_Mo_chordOf S r33 (fun r49 => ((r49 < (0 : Int32) → (wp_Mo_topOf S (((S.1 14) (0 : Int32).toNatClampNeg) / (2 : Int32)) (fun r66 => (((0 : Int32) ≤ r66 → (J_Mo_takeFirst_89 post (((S.1 14) (0 : Int32).toNatClampNeg) / (2 : Int32)) r33 r49 r66 (((S.1 14) (0 : Int32).toNatClampNeg) / (2 : Int32)) (((24 : Int32) * r66) + (((S.1 14) (0 : Int32).toNatClampNeg) / (2 : Int32))) S)) ∧ (¬ (0 : Int32) ≤ r66 → (J_Mo_takeFirst_89 post (((S.1 14) (0 : Int32).toNatClampNeg) / (2 : Int32)) r33 r49 r66 (((S.1 14) (0 : Int32).toNatClampNeg) / (2 : Int32)) (-1 : Int32) S)))))) ∧ (¬ r49 < (0 : Int32) → (wp_Mo_takeChord S r49 (fun S59 => (post (1 : Int32) S59)))))))) ∧ (¬ r39 = (0 : Int32) → (post (0 : Int32) S)))))))))))
abbrev rm_Mo_takeFirst : Room := { frames := 6, cells := 0, slots := 0, locals := 135 }
set_option maxHeartbeats 4000000 in
set_option maxRecDepth 100000 in
theorem c_Mo_takeFirst (l : Launch) (D : va_G) (cI cZ cJ : ClassId) (a : Nat → Nat) (sz : Nat) (S : GS) (post : Int32 → GS → Prop) (hf : wp_Mo_takeFirst S post) : Met l y_Mo_takeFirst ws_Mo_takeFirst rm_Mo_takeFirst (va_Pc [.ref (a 0)] (gPre D (tys cI cZ cJ) (mdW cI cZ cJ a S) sz)) (va_Qi post (gB D (tys cI cZ cJ) (mdW cI cZ cJ a) (va_A (mdW cI cZ cJ a S) sz)) (va_A (mdW cI cZ cJ a S) sz)) 0 0 (va_A (mdW cI cZ cJ a S) sz) := by
  refine gm_w (QF := fun A => va_Qi post (gB D (tys cI cZ cJ) (mdW cI cZ cJ a) A) A) (cc := b_Mo_takeFirst) (maxL := 5) (by decide) rfl (Nat.le_of_ble_eq_true rfl) ?_
  intro p e s m args below meth c A ls hx hb hr hts hown hmn hlk hml hK hA hw hl
  have hl : lv_has ls 5 [(0, .ref (a 0))] := hl
  have hinMo : ∀ w ∈ u_ws R_Mo T_Mo 30, w ∈ ws_Mo_takeFirst := fun w h => List.mem_cons_of_mem _ (tl_Mo w h)
  have hl32 := hts _ (List.mem_cons_of_mem _ tf_Mo_32)
  have jn89 : ∀ (x1 : Int32) (x2 : Int32) (x3 : Int32) (x4 : Int32) (y1 : Int32) (y2 : Int32) (S : GS) (H : Heap) (locs : List Loc) (ls : Array Slot), lv_has ls 5 [(0, .ref (a 0)), (1, .int x1), (2, .int x2), (3, .int x3), (4, .int x4)] → wf D A s.heap (mdW cI cZ cJ a S) H locs → J_Mo_takeFirst_89 post x1 x2 x3 x4 y1 y2 S → W p l e rm_Mo_takeFirst s m args below meth c H locs 0 0 (MQ below (va_Qi post (gB D (tys cI cZ cJ) (mdW cI cZ cJ a) A) A) args s 0 0 A) (F0 m 89 ls [.int y2, .int y1, .ref (a 0)]) := by
    intro x1 x2 x3 x4 y1 y2 S H locs ls hl hw hf
    unfold J_Mo_takeFirst_89 at hf
    refine gc_i (pc := 89) (Wf := mdW cI cZ cJ a) hw hA (va_runV (As := [.int y1, .int y2]) (rest := []) ⟨hx, hb, hml, hown, hts⟩ (c_Mo_act l D cI cZ cJ a _ _ _ _ _ hf) (cwV 2 hts (tb_wsV tc_Mo_act tm_Mo_179 ti_Mo_act te_Mo_act tz_Mo) rfl rfl rfl (by decide +kernel) ⟨Nat.le_of_ble_eq_true rfl, Nat.le_of_ble_eq_true rfl⟩) (g_preV (q0 := 0) (ci := 9) hK hw rfl rfl) rfl rfl hl.1 rfl (lv_room (Nat.le_of_ble_eq_true rfl)) d_Mo_takeFirst_89 ⟨Nat.zero_le _, Nat.zero_le _⟩) (fun r89 S89 H locs hw hf => ?_)
    refine lv_if_ne (pc := 92) (tgt := 97) hx hb d_Mo_takeFirst_92 (by decide) (fun hc => ?_) (fun hc => ?_)
    · replace hf := hf.2 hc
      refine lv_aload_n (pc := 97) hx hb d_Mo_takeFirst_97 rfl (lv_at hl 0 rfl) ?_
      refine lv_iconst (pc := 98) (v := 1) hx hb d_Mo_takeFirst_98 (by decide) ?_
      refine gc_v (pc := 99) (Wf := mdW cI cZ cJ a) hw hA (va_runV (As := [.int (1 : Int32)]) (rest := []) ⟨hx, hb, hml, hown, hts⟩ (c_Mo_drop l D cI cZ cJ a _ _ _ _ hf) (cwV 1 hts (tb_wsV tc_Mo_drop tm_Mo_140 ti_Mo_drop te_Mo_drop tz_Mo) rfl rfl rfl (by decide +kernel) ⟨Nat.le_of_ble_eq_true rfl, Nat.le_of_ble_eq_true rfl⟩) (g_preV (q0 := 0) (ci := 9) hK hw rfl rfl) rfl rfl hl.1 rfl (lv_room (Nat.le_of_ble_eq_true rfl)) d_Mo_takeFirst_99 ⟨Nat.zero_le _, Nat.zero_le _⟩) (fun S99 H locs hw hf => ?_)
      refine lv_iconst (pc := 102) (v := 1) hx hb d_Mo_takeFirst_102 (by decide) ?_
      exact gr_z (pc := 103) hx hb hr hlk hK S99 hw (by decide) hf d_Mo_takeFirst_103
    replace hf := hf.1 hc
    refine lv_iconst (pc := 95) (v := 0) hx hb d_Mo_takeFirst_95 (by decide) ?_
    exact gr_z (pc := 96) hx hb hr hlk hK S89 hw (by decide) hf d_Mo_takeFirst_96
  unfold wp_Mo_takeFirst at hf
  refine lv_aload_n (pc := 0) hx hb d_Mo_takeFirst_0 rfl (lv_at hl 0 rfl) ?_
  refine md_gt_Mo_events (pc := 1) hx hb hK hts hinMo hown hw.1 hl32 d_Mo_takeFirst_1 ?_
  refine lv_iconst (pc := 4) (v := 0) hx hb d_Mo_takeFirst_4 (by decide) ?_
  refine md_ld8 (pc := 5) (v := ((S.1 14) (0 : Int32).toNatClampNeg)) hx hb hK hw.1 hf.1 rfl d_Mo_takeFirst_5 ?_
  replace hf := hf.2
  refine lv_iconst (pc := 6) (v := 2) hx hb d_Mo_takeFirst_6 (by decide) ?_
  refine lv_idiv (pc := 7) hx hb d_Mo_takeFirst_7 (by decide) ?_
  refine lv_istore_n (pc := 8) (lv' := [(1, .int (((S.1 14) (0 : Int32).toNatClampNeg) / (2 : Int32))), (0, .ref (a 0))]) hx hb d_Mo_takeFirst_8 rfl hl (by decide) rfl (fun ls hl => ?_)
  refine lv_aload_n (pc := 9) hx hb d_Mo_takeFirst_9 rfl (lv_at hl 1 rfl) ?_
  refine md_gt_Mo_events (pc := 10) hx hb hK hts hinMo hown hw.1 hl32 d_Mo_takeFirst_10 ?_
  refine lv_iconst (pc := 13) (v := 0) hx hb d_Mo_takeFirst_13 (by decide) ?_
  refine md_ld8 (pc := 14) (v := ((S.1 14) (0 : Int32).toNatClampNeg)) hx hb hK hw.1 hf.1 rfl d_Mo_takeFirst_14 ?_
  replace hf := hf.2
  refine lv_iconst (pc := 15) (v := 2) hx hb d_Mo_takeFirst_15 (by decide) ?_
  refine lv_irem (pc := 16) hx hb d_Mo_takeFirst_16 (by decide) ?_
  refine lv_if_ne (pc := 17) (tgt := 32) hx hb d_Mo_takeFirst_17 (by decide) (fun hc => ?_) (fun hc => ?_)
  · replace hf := hf.2 hc
    refine lv_aload_n (pc := 32) hx hb d_Mo_takeFirst_32 rfl (lv_at hl 1 rfl) ?_
    refine vp_callSi (pc := 33) (W.runV (As := []) (rest := []) ⟨hx, hb, hml, hown, hts⟩ (c_Mo_rowLength l D cI cZ cJ a _ _ hf) (cwV 0 hts (tb_wsV tc_Mo_rowLength tm_Mo_164 ti_Mo_rowLength te_Mo_rowLength tz_Mo) rfl rfl rfl (by decide +kernel) ⟨Nat.le_of_ble_eq_true rfl, Nat.le_of_ble_eq_true rfl⟩) (r_preV (q0 := 0) (ci := 9) hK hw.1 rfl rfl) rfl rfl hl.1 rfl (lv_room (Nat.le_of_ble_eq_true rfl)) d_Mo_takeFirst_33 ⟨Nat.zero_le _, Nat.zero_le _⟩) (fun r33 hf => ?_)
    refine lv_istore_n (pc := 36) (lv' := [(2, .int r33), (1, .int (((S.1 14) (0 : Int32).toNatClampNeg) / (2 : Int32))), (0, .ref (a 0))]) hx hb d_Mo_takeFirst_36 rfl hl (by decide) rfl (fun ls hl => ?_)
    refine lv_aload_n (pc := 37) hx hb d_Mo_takeFirst_37 rfl (lv_at hl 2 rfl) ?_
    refine lv_iload_n (pc := 38) hx hb d_Mo_takeFirst_38 rfl (lv_at hl 0 rfl) ?_
    refine vp_callSi (pc := 39) (W.runV (As := [.int r33]) (rest := []) ⟨hx, hb, hml, hown, hts⟩ (c_Mo_waitsForChord l D cI cZ cJ a _ _ _ hf) (cwV 1 hts (tb_wsV tc_Mo_waitsForChord tm_Mo_167 ti_Mo_waitsForChord te_Mo_waitsForChord tz_Mo) rfl rfl rfl (by decide +kernel) ⟨Nat.le_of_ble_eq_true rfl, Nat.le_of_ble_eq_true rfl⟩) (r_preV (q0 := 0) (ci := 9) hK hw.1 rfl rfl) rfl rfl hl.1 rfl (lv_room (Nat.le_of_ble_eq_true rfl)) d_Mo_takeFirst_39 ⟨Nat.zero_le _, Nat.zero_le _⟩) (fun r39 hf => ?_)
    refine lv_if_eq (pc := 42) (tgt := 47) hx hb d_Mo_takeFirst_42 (by decide) (fun hc => ?_) (fun hc => ?_)
    · replace hf := hf.1 hc
      refine lv_aload_n (pc := 47) hx hb d_Mo_takeFirst_47 rfl (lv_at hl 2 rfl) ?_
      refine lv_iload_n (pc := 48) hx hb d_Mo_takeFirst_48 rfl (lv_at hl 0 rfl) ?_
      refine vp_callSi (pc := 49) (W.runV (As := [.int r33]) (rest := []) ⟨hx, hb, hml, hown, hts⟩ (c_Mo_chordOf l D cI cZ cJ a _ _ _ hf) (cwV 1 hts (tb_wsV tc_Mo_chordOf tm_Mo_170 ti_Mo_chordOf te_Mo_chordOf tz_Mo) rfl rfl rfl (by decide +kernel) ⟨Nat.le_of_ble_eq_true rfl, Nat.le_of_ble_eq_true rfl⟩) (r_preV (q0 := 0) (ci := 9) hK hw.1 rfl rfl) rfl rfl hl.1 rfl (lv_room (Nat.le_of_ble_eq_true rfl)) d_Mo_takeFirst_49 ⟨Nat.zero_le _, Nat.zero_le _⟩) (fun r49 hf => ?_)
      refine lv_istore_n (pc := 52) (lv' := [(3, .int r49), (2, .int r33), (1, .int (((S.1 14) (0 : Int32).toNatClampNeg) / (2 : Int32))), (0, .ref (a 0))]) hx hb d_Mo_takeFirst_52 rfl hl (by decide) rfl (fun ls hl => ?_)
      refine lv_iload_n (pc := 53) hx hb d_Mo_takeFirst_53 rfl (lv_at hl 0 rfl) ?_
      refine lv_if_lt (pc := 54) (tgt := 64) hx hb d_Mo_takeFirst_54 (by decide) (fun hc => ?_) (fun hc => ?_)
      · replace hf := hf.1 hc
        refine lv_aload_n (pc := 64) hx hb d_Mo_takeFirst_64 rfl (lv_at hl 3 rfl) ?_
        refine lv_iload_n (pc := 65) hx hb d_Mo_takeFirst_65 rfl (lv_at hl 2 rfl) ?_
        refine vp_callSi (pc := 66) (W.runV (As := [.int (((S.1 14) (0 : Int32).toNatClampNeg) / (2 : Int32))]) (rest := []) ⟨hx, hb, hml, hown, hts⟩ (c_Mo_topOf l D cI cZ cJ a _ _ _ hf) (cwV 1 hts (tb_wsV tc_Mo_topOf tm_Mo_176 ti_Mo_topOf te_Mo_topOf tz_Mo) rfl rfl rfl (by decide +kernel) ⟨Nat.le_of_ble_eq_true rfl, Nat.le_of_ble_eq_true rfl⟩) (r_preV (q0 := 0) (ci := 9) hK hw.1 rfl rfl) rfl rfl hl.1 rfl (lv_room (Nat.le_of_ble_eq_true rfl)) d_Mo_takeFirst_66 ⟨Nat.zero_le _, Nat.zero_le _⟩) (fun r66 hf => ?_)
        refine lv_istore (pc := 69) (lv' := [(4, .int r66), (3, .int r49), (2, .int r33), (1, .int (((S.1 14) (0 : Int32).toNatClampNeg) / (2 : Int32))), (0, .ref (a 0))]) hx hb d_Mo_takeFirst_69 hl (by decide) rfl (fun ls hl => ?_)
        refine lv_aload_n (pc := 71) hx hb d_Mo_takeFirst_71 rfl (lv_at hl 4 rfl) ?_
        refine lv_iload_n (pc := 72) hx hb d_Mo_takeFirst_72 rfl (lv_at hl 3 rfl) ?_
        refine lv_iload (pc := 73) hx hb d_Mo_takeFirst_73 (lv_at hl 0 rfl) ?_
        refine lv_if_ge (pc := 75) (tgt := 82) hx hb d_Mo_takeFirst_75 (by decide) (fun hc => ?_) (fun hc => ?_)
        · replace hf := hf.1 hc
          refine lv_bipush (pc := 82) (v := 24) hx hb d_Mo_takeFirst_82 (by decide) ?_
          refine lv_iload (pc := 84) hx hb d_Mo_takeFirst_84 (lv_at hl 0 rfl) ?_
          refine lv_imul (pc := 86) hx hb d_Mo_takeFirst_86 ?_
          refine lv_iload_n (pc := 87) hx hb d_Mo_takeFirst_87 rfl (lv_at hl 3 rfl) ?_
          refine lv_iadd (pc := 88) hx hb d_Mo_takeFirst_88 ?_
          exact jn89 (((S.1 14) (0 : Int32).toNatClampNeg) / (2 : Int32)) r33 r49 r66 (((S.1 14) (0 : Int32).toNatClampNeg) / (2 : Int32)) (((24 : Int32) * r66) + (((S.1 14) (0 : Int32).toNatClampNeg) / (2 : Int32))) S _ _ _ (lv_sub hl [4, 3, 2, 1, 0] rfl) hw hf
        replace hf := hf.2 hc
        refine lv_iconst (pc := 78) (v := -1) hx hb d_Mo_takeFirst_78 (by decide) ?_
        refine lv_goto (pc := 79) (tgt := 89) hx hb d_Mo_takeFirst_79 (by decide) ?_
        exact jn89 (((S.1 14) (0 : Int32).toNatClampNeg) / (2 : Int32)) r33 r49 r66 (((S.1 14) (0 : Int32).toNatClampNeg) / (2 : Int32)) (-1 : Int32) S _ _ _ (lv_sub hl [4, 3, 2, 1, 0] rfl) hw hf
      replace hf := hf.2 hc
      refine lv_aload_n (pc := 57) hx hb d_Mo_takeFirst_57 rfl (lv_at hl 3 rfl) ?_
      refine lv_iload_n (pc := 58) hx hb d_Mo_takeFirst_58 rfl (lv_at hl 0 rfl) ?_
      refine gc_v (pc := 59) (Wf := mdW cI cZ cJ a) hw hA (va_runV (As := [.int r49]) (rest := []) ⟨hx, hb, hml, hown, hts⟩ (c_Mo_takeChord l D cI cZ cJ a _ _ _ _ hf) (cwV 1 hts (tb_wsV tc_Mo_takeChord tm_Mo_173 ti_Mo_takeChord te_Mo_takeChord tz_Mo) rfl rfl rfl (by decide +kernel) ⟨Nat.le_of_ble_eq_true rfl, Nat.le_of_ble_eq_true rfl⟩) (g_preV (q0 := 0) (ci := 9) hK hw rfl rfl) rfl rfl hl.1 rfl (lv_room (Nat.le_of_ble_eq_true rfl)) d_Mo_takeFirst_59 ⟨Nat.zero_le _, Nat.zero_le _⟩) (fun S59 H locs hw hf => ?_)
      refine lv_iconst (pc := 62) (v := 1) hx hb d_Mo_takeFirst_62 (by decide) ?_
      exact gr_z (pc := 63) hx hb hr hlk hK S59 hw (by decide) hf d_Mo_takeFirst_63
    replace hf := hf.2 hc
    refine lv_iconst (pc := 45) (v := 0) hx hb d_Mo_takeFirst_45 (by decide) ?_
    exact gr_z (pc := 46) hx hb hr hlk hK S hw (by decide) hf d_Mo_takeFirst_46
  replace hf := hf.1 hc
  refine lv_aload_n (pc := 20) hx hb d_Mo_takeFirst_20 rfl (lv_at hl 1 rfl) ?_
  refine lv_iload_n (pc := 21) hx hb d_Mo_takeFirst_21 rfl (lv_at hl 0 rfl) ?_
  refine gc_v (pc := 22) (Wf := mdW cI cZ cJ a) hw hA (va_runV (As := [.int (((S.1 14) (0 : Int32).toNatClampNeg) / (2 : Int32))]) (rest := []) ⟨hx, hb, hml, hown, hts⟩ (c_Mo_takeRelease l D cI cZ cJ a _ _ _ _ hf) (cwV 1 hts (tb_wsV tc_Mo_takeRelease tm_Mo_161 ti_Mo_takeRelease te_Mo_takeRelease tz_Mo) rfl rfl rfl (by decide +kernel) ⟨Nat.le_of_ble_eq_true rfl, Nat.le_of_ble_eq_true rfl⟩) (g_preV (q0 := 0) (ci := 9) hK hw rfl rfl) rfl rfl hl.1 rfl (lv_room (Nat.le_of_ble_eq_true rfl)) d_Mo_takeFirst_22 ⟨Nat.zero_le _, Nat.zero_le _⟩) (fun S22 H locs hw hf => ?_)
  refine lv_aload_n (pc := 25) hx hb d_Mo_takeFirst_25 rfl (lv_at hl 1 rfl) ?_
  refine lv_iconst (pc := 26) (v := 1) hx hb d_Mo_takeFirst_26 (by decide) ?_
  refine gc_v (pc := 27) (Wf := mdW cI cZ cJ a) hw hA (va_runV (As := [.int (1 : Int32)]) (rest := []) ⟨hx, hb, hml, hown, hts⟩ (c_Mo_drop l D cI cZ cJ a _ _ _ _ hf) (cwV 1 hts (tb_wsV tc_Mo_drop tm_Mo_140 ti_Mo_drop te_Mo_drop tz_Mo) rfl rfl rfl (by decide +kernel) ⟨Nat.le_of_ble_eq_true rfl, Nat.le_of_ble_eq_true rfl⟩) (g_preV (q0 := 0) (ci := 9) hK hw rfl rfl) rfl rfl hl.1 rfl (lv_room (Nat.le_of_ble_eq_true rfl)) d_Mo_takeFirst_27 ⟨Nat.zero_le _, Nat.zero_le _⟩) (fun S27 H locs hw hf => ?_)
  refine lv_iconst (pc := 30) (v := 1) hx hb d_Mo_takeFirst_30 (by decide) ?_
  exact gr_z (pc := 31) hx hb hr hlk hK S27 hw (by decide) hf d_Mo_takeFirst_31
def J_Mo_scanOnce_30 (post : Int32 → GS → Prop) (x1 : Int32) (x2 : Int32) (S : GS) : Prop := (post x1 (gI S 1 (fun _ => ((S.1 1 0) + (1 : Int32)))))
def L_Mo_scanOnce_11 (post : Int32 → GS → Prop) : Nat → Int32 → Int32 → GS → Prop
  | 0, _, _, _ => False
  | n11 + 1, x1, x2, S => ((x2 = (0 : Int32) → (J_Mo_scanOnce_30 post x1 x2 S)) ∧ (¬ x2 = (0 : Int32) → (((S.1 2 0) ≤ (0 : Int32) → (J_Mo_scanOnce_30 post x1 x2 S)) ∧ (¬ (S.1 2 0) ≤ (0 : Int32) → (wp_Mo_takeFirst S (fun r23 S23 => (L_Mo_scanOnce_11 post n11 x1 r23 S23)))))))
def wp_Mo_scanOnce (S : GS) (post : Int32 → GS → Prop) : Prop := (wp_Mo_look S (fun S1 => (wp_Mo_believe S1 (fun r5 S5 => (∃ q11, L_Mo_scanOnce_11 post q11 r5 (1 : Int32) S5)))))
abbrev rm_Mo_scanOnce : Room := { frames := 7, cells := 0, slots := 0, locals := 159 }
set_option maxHeartbeats 4000000 in
set_option maxRecDepth 100000 in
theorem c_Mo_scanOnce (l : Launch) (D : va_G) (cI cZ cJ : ClassId) (a : Nat → Nat) (sz : Nat) (S : GS) (post : Int32 → GS → Prop) (hf : wp_Mo_scanOnce S post) : Met l y_Mo_scanOnce ws_Mo_scanOnce rm_Mo_scanOnce (va_Pc [.ref (a 0)] (gPre D (tys cI cZ cJ) (mdW cI cZ cJ a S) sz)) (va_Qi post (gB D (tys cI cZ cJ) (mdW cI cZ cJ a) (va_A (mdW cI cZ cJ a S) sz)) (va_A (mdW cI cZ cJ a S) sz)) 0 0 (va_A (mdW cI cZ cJ a S) sz) := by
  refine gm_w (QF := fun A => va_Qi post (gB D (tys cI cZ cJ) (mdW cI cZ cJ a) A) A) (cc := b_Mo_scanOnce) (maxL := 3) (by decide) rfl (Nat.le_of_ble_eq_true rfl) ?_
  intro p e s m args below meth c A ls hx hb hr hts hown hmn hlk hml hK hA hw hl
  have hl : lv_has ls 3 [(0, .ref (a 0))] := hl
  have hinMo : ∀ w ∈ u_ws R_Mo T_Mo 30, w ∈ ws_Mo_scanOnce := fun w h => List.mem_cons_of_mem _ (tl_Mo w h)
  have hl95 := hts _ (List.mem_cons_of_mem _ tf_Mo_95)
  have hl98 := hts _ (List.mem_cons_of_mem _ tf_Mo_98)
  have jn30 : ∀ (x1 : Int32) (x2 : Int32) (S : GS) (H : Heap) (locs : List Loc) (ls : Array Slot), lv_has ls 3 [(0, .ref (a 0)), (1, .int x1), (2, .int x2)] → wf D A s.heap (mdW cI cZ cJ a S) H locs → J_Mo_scanOnce_30 post x1 x2 S → W p l e rm_Mo_scanOnce s m args below meth c H locs 0 0 (MQ below (va_Qi post (gB D (tys cI cZ cJ) (mdW cI cZ cJ a) A) A) args s 0 0 A) (F0 m 30 ls []) := by
    intro x1 x2 S H locs ls hl hw hf
    unfold J_Mo_scanOnce_30 at hf
    refine lv_aload_n (pc := 30) hx hb d_Mo_scanOnce_30 rfl (lv_at hl 0 rfl) ?_
    refine lv_dup (pc := 31) hx hb d_Mo_scanOnce_31 rfl ?_
    refine md_gt_Mo_now (pc := 32) (v := (S.1 1 0)) hx hb hK hts hinMo hown hw.1 hl98 rfl d_Mo_scanOnce_32 ?_
    refine lv_iconst (pc := 35) (v := 1) hx hb d_Mo_scanOnce_35 (by decide) ?_
    refine lv_iadd (pc := 36) hx hb d_Mo_scanOnce_36 ?_
    refine md_pt_Mo_now (pc := 37) hx hb hK hts hinMo hown hw hl98 d_Mo_scanOnce_37 (fun H locs hw => ?_)
    refine lv_iload_n (pc := 40) hx hb d_Mo_scanOnce_40 rfl (lv_at hl 1 rfl) ?_
    exact gr_i (pc := 41) hx hb hr hlk hK (gI S 1 (fun _ => ((S.1 1 0) + (1 : Int32)))) hw hf d_Mo_scanOnce_41
  unfold wp_Mo_scanOnce at hf
  refine lv_aload_n (pc := 0) hx hb d_Mo_scanOnce_0 rfl (lv_at hl 0 rfl) ?_
  refine gc_v (pc := 1) (Wf := mdW cI cZ cJ a) hw hA (va_runV (As := []) (rest := []) ⟨hx, hb, hml, hown, hts⟩ (c_Mo_look l D cI cZ cJ a _ _ _ hf) (cwV 0 hts (tb_wsV tc_Mo_look tm_Mo_183 ti_Mo_look te_Mo_look tz_Mo) rfl rfl rfl (by decide +kernel) ⟨Nat.le_of_ble_eq_true rfl, Nat.le_of_ble_eq_true rfl⟩) (g_preV (q0 := 0) (ci := 9) hK hw rfl rfl) rfl rfl hl.1 rfl (lv_room (Nat.le_of_ble_eq_true rfl)) d_Mo_scanOnce_1 ⟨Nat.zero_le _, Nat.zero_le _⟩) (fun S1 H locs hw hf => ?_)
  refine lv_aload_n (pc := 4) hx hb d_Mo_scanOnce_4 rfl (lv_at hl 0 rfl) ?_
  refine gc_i (pc := 5) (Wf := mdW cI cZ cJ a) hw hA (va_runV (As := []) (rest := []) ⟨hx, hb, hml, hown, hts⟩ (c_Mo_believe l D cI cZ cJ a _ _ _ hf) (cwV 0 hts (tb_wsV tc_Mo_believe tm_Mo_186 ti_Mo_believe te_Mo_believe tz_Mo) rfl rfl rfl (by decide +kernel) ⟨Nat.le_of_ble_eq_true rfl, Nat.le_of_ble_eq_true rfl⟩) (g_preV (q0 := 0) (ci := 9) hK hw rfl rfl) rfl rfl hl.1 rfl (lv_room (Nat.le_of_ble_eq_true rfl)) d_Mo_scanOnce_5 ⟨Nat.zero_le _, Nat.zero_le _⟩) (fun r5 S5 H locs hw hf => ?_)
  refine lv_istore_n (pc := 8) (lv' := [(1, .int r5), (0, .ref (a 0))]) hx hb d_Mo_scanOnce_8 rfl hl (by decide) rfl (fun ls hl => ?_)
  refine lv_iconst (pc := 9) (v := 1) hx hb d_Mo_scanOnce_9 (by decide) ?_
  refine lv_istore_n (pc := 10) (lv' := [(2, .int (1 : Int32)), (1, .int r5), (0, .ref (a 0))]) hx hb d_Mo_scanOnce_10 rfl hl (by decide) rfl (fun ls hl => ?_)
  obtain ⟨q11, hf⟩ := hf
  have lp11 : ∀ (n11 : Nat) (x1 : Int32) (x2 : Int32) (S : GS) (H : Heap) (locs : List Loc) (ls : Array Slot), lv_has ls 3 [(0, .ref (a 0)), (1, .int x1), (2, .int x2)] → wf D A s.heap (mdW cI cZ cJ a S) H locs → L_Mo_scanOnce_11 post n11 x1 x2 S → W p l e rm_Mo_scanOnce s m args below meth c H locs 0 0 (MQ below (va_Qi post (gB D (tys cI cZ cJ) (mdW cI cZ cJ a) A) A) args s 0 0 A) (F0 m 11 ls []) := by
    intro n11
    induction n11 with
    | zero => intro x1 x2 S H locs ls hl hw hf; exact False.elim hf
    | succ n11 ih11 =>
      intro x1 x2 S H locs ls hl hw hf
      unfold L_Mo_scanOnce_11 at hf
      refine lv_iload_n (pc := 11) hx hb d_Mo_scanOnce_11 rfl (lv_at hl 2 rfl) ?_
      refine lv_if_eq (pc := 12) (tgt := 30) hx hb d_Mo_scanOnce_12 (by decide) (fun hc => ?_) (fun hc => ?_)
      · replace hf := hf.1 hc
        exact jn30 x1 x2 S _ _ _ (lv_sub hl [0, 1, 2] rfl) hw hf
      replace hf := hf.2 hc
      refine lv_aload_n (pc := 15) hx hb d_Mo_scanOnce_15 rfl (lv_at hl 0 rfl) ?_
      refine md_gt_Mo_queued (pc := 16) (v := (S.1 2 0)) hx hb hK hts hinMo hown hw.1 hl95 rfl d_Mo_scanOnce_16 ?_
      refine lv_if_le (pc := 19) (tgt := 30) hx hb d_Mo_scanOnce_19 (by decide) (fun hc => ?_) (fun hc => ?_)
      · replace hf := hf.1 hc
        exact jn30 x1 x2 S _ _ _ (lv_sub hl [0, 1, 2] rfl) hw hf
      replace hf := hf.2 hc
      refine lv_aload_n (pc := 22) hx hb d_Mo_scanOnce_22 rfl (lv_at hl 0 rfl) ?_
      refine gc_i (pc := 23) (Wf := mdW cI cZ cJ a) hw hA (va_runV (As := []) (rest := []) ⟨hx, hb, hml, hown, hts⟩ (c_Mo_takeFirst l D cI cZ cJ a _ _ _ hf) (cwV 0 hts (tb_wsV tc_Mo_takeFirst tm_Mo_189 ti_Mo_takeFirst te_Mo_takeFirst tz_Mo) rfl rfl rfl (by decide +kernel) ⟨Nat.le_of_ble_eq_true rfl, Nat.le_of_ble_eq_true rfl⟩) (g_preV (q0 := 0) (ci := 9) hK hw rfl rfl) rfl rfl hl.1 rfl (lv_room (Nat.le_of_ble_eq_true rfl)) d_Mo_scanOnce_23 ⟨Nat.zero_le _, Nat.zero_le _⟩) (fun r23 S23 H locs hw hf => ?_)
      refine lv_istore_n (pc := 26) (lv' := [(2, .int r23), (0, .ref (a 0)), (1, .int x1)]) hx hb d_Mo_scanOnce_26 rfl hl (by decide) rfl (fun ls hl => ?_)
      refine lv_goto (pc := 27) (tgt := 11) hx hb d_Mo_scanOnce_27 (by decide) ?_
      exact ih11 x1 r23 S23 _ _ _ (lv_sub hl [1, 2, 0] rfl) hw hf
  exact lp11 q11 r5 (1 : Int32) S5 _ _ _ (lv_sub hl [2, 1, 0] rfl) hw hf
def wp_Mo_scan (S : GS) (post : Int32 → GS → Prop) : Prop := (wp_Mo_scanOnce (gI S 0 (fun _ => (0 : Int32))) (fun r6 S6 => (post r6 S6)))
abbrev rm_Mo_scan : Room := { frames := 8, cells := 0, slots := 0, locals := 181 }
set_option maxHeartbeats 4000000 in
set_option maxRecDepth 100000 in
theorem c_Mo_scan (l : Launch) (D : va_G) (cI cZ cJ : ClassId) (a : Nat → Nat) (sz : Nat) (S : GS) (post : Int32 → GS → Prop) (hf : wp_Mo_scan S post) : Met l y_Mo_scan ws_Mo_scan rm_Mo_scan (va_Pc [.ref (a 0)] (gPre D (tys cI cZ cJ) (mdW cI cZ cJ a S) sz)) (va_Qi post (gB D (tys cI cZ cJ) (mdW cI cZ cJ a) (va_A (mdW cI cZ cJ a S) sz)) (va_A (mdW cI cZ cJ a S) sz)) 0 0 (va_A (mdW cI cZ cJ a S) sz) := by
  refine gm_w (QF := fun A => va_Qi post (gB D (tys cI cZ cJ) (mdW cI cZ cJ a) A) A) (cc := b_Mo_scan) (maxL := 1) (by decide) rfl (Nat.le_of_ble_eq_true rfl) ?_
  intro p e s m args below meth c A ls hx hb hr hts hown hmn hlk hml hK hA hw hl
  have hl : lv_has ls 1 [(0, .ref (a 0))] := hl
  have hinMo : ∀ w ∈ u_ws R_Mo T_Mo 30, w ∈ ws_Mo_scan := fun w h => List.mem_cons_of_mem _ (tl_Mo w h)
  have hl80 := hts _ (List.mem_cons_of_mem _ tf_Mo_80)
  unfold wp_Mo_scan at hf
  refine lv_aload_n (pc := 0) hx hb d_Mo_scan_0 rfl (lv_at hl 0 rfl) ?_
  refine lv_iconst (pc := 1) (v := 0) hx hb d_Mo_scan_1 (by decide) ?_
  refine md_pt_Mo_fault (pc := 2) hx hb hK hts hinMo hown hw hl80 d_Mo_scan_2 (fun H locs hw => ?_)
  refine lv_aload_n (pc := 5) hx hb d_Mo_scan_5 rfl (lv_at hl 0 rfl) ?_
  refine gc_i (pc := 6) (Wf := mdW cI cZ cJ a) hw hA (va_runV (As := []) (rest := []) ⟨hx, hb, hml, hown, hts⟩ (c_Mo_scanOnce l D cI cZ cJ a _ _ _ hf) (cwV 0 hts (tb_wsV tc_Mo_scanOnce tm_Mo_193 ti_Mo_scanOnce te_Mo_scanOnce tz_Mo) rfl rfl rfl (by decide +kernel) ⟨Nat.le_of_ble_eq_true rfl, Nat.le_of_ble_eq_true rfl⟩) (g_preV (q0 := 0) (ci := 9) hK hw rfl rfl) rfl rfl hl.1 rfl (lv_room (Nat.le_of_ble_eq_true rfl)) d_Mo_scan_6 ⟨Nat.zero_le _, Nat.zero_le _⟩) (fun r6 S6 H locs hw hf => ?_)
  exact gr_i (pc := 9) hx hb hr hlk hK S6 hw hf d_Mo_scan_9
def L_Mo_scans_29 (post : Int32 → GS → Prop) : Nat → Int32 → Int32 → Int32 → GS → Prop
  | 0, _, _, _, _ => False
  | n29 + 1, x1, x2, x3, S => ((x1 ≤ x3 → (post x2 S)) ∧ (¬ x1 ≤ x3 → (wp_Mo_scanOnce S (fun r36 S36 => (L_Mo_scans_29 post n29 x1 (x2 + r36) (x3 + (1 : Int32)) S36)))))
def J_Mo_scans_17 (post : Int32 → GS → Prop) (x1 : Int32) (y1 : Int32) (S : GS) : Prop := (wp_Mo_refused S y1 (fun r17 S17 => ((r17 = (0 : Int32) → (∃ q29, L_Mo_scans_29 post q29 x1 (0 : Int32) (0 : Int32) S17)) ∧ (¬ r17 = (0 : Int32) → (post (0 : Int32) S17)))))
def J_Mo_scans_12 (post : Int32 → GS → Prop) (x1 : Int32) (S : GS) : Prop := (J_Mo_scans_17 post x1 (1 : Int32) S)
def wp_Mo_scans (S : GS) (p0 : Int32) (post : Int32 → GS → Prop) : Prop := ((p0 < (1 : Int32) → (J_Mo_scans_12 post p0 S)) ∧ (¬ p0 < (1 : Int32) → ((p0 ≤ (100 : Int32) → (J_Mo_scans_17 post p0 (0 : Int32) S)) ∧ (¬ p0 ≤ (100 : Int32) → (J_Mo_scans_12 post p0 S)))))
abbrev rm_Mo_scans : Room := { frames := 8, cells := 0, slots := 0, locals := 181 }
set_option maxHeartbeats 4000000 in
set_option maxRecDepth 100000 in
theorem c_Mo_scans (l : Launch) (D : va_G) (cI cZ cJ : ClassId) (a : Nat → Nat) (sz : Nat) (S : GS) (p0 : Int32) (post : Int32 → GS → Prop) (hf : wp_Mo_scans S p0 post) : Met l y_Mo_scans ws_Mo_scans rm_Mo_scans (va_Pc [.ref (a 0), .int p0] (gPre D (tys cI cZ cJ) (mdW cI cZ cJ a S) sz)) (va_Qi post (gB D (tys cI cZ cJ) (mdW cI cZ cJ a) (va_A (mdW cI cZ cJ a S) sz)) (va_A (mdW cI cZ cJ a S) sz)) 0 0 (va_A (mdW cI cZ cJ a S) sz) := by
  refine gm_w (QF := fun A => va_Qi post (gB D (tys cI cZ cJ) (mdW cI cZ cJ a) A) A) (cc := b_Mo_scans) (maxL := 4) (by decide) rfl (Nat.le_of_ble_eq_true rfl) ?_
  intro p e s m args below meth c A ls hx hb hr hts hown hmn hlk hml hK hA hw hl
  have hl : lv_has ls 4 [(0, .ref (a 0)), (1, .int p0)] := hl
  have jn17 : ∀ (x1 : Int32) (y1 : Int32) (S : GS) (H : Heap) (locs : List Loc) (ls : Array Slot), lv_has ls 4 [(0, .ref (a 0)), (1, .int x1)] → wf D A s.heap (mdW cI cZ cJ a S) H locs → J_Mo_scans_17 post x1 y1 S → W p l e rm_Mo_scans s m args below meth c H locs 0 0 (MQ below (va_Qi post (gB D (tys cI cZ cJ) (mdW cI cZ cJ a) A) A) args s 0 0 A) (F0 m 17 ls [.int y1, .ref (a 0)]) := by
    intro x1 y1 S H locs ls hl hw hf
    unfold J_Mo_scans_17 at hf
    refine gc_i (pc := 17) (Wf := mdW cI cZ cJ a) hw hA (va_runV (As := [.int y1]) (rest := []) ⟨hx, hb, hml, hown, hts⟩ (c_Mo_refused l D cI cZ cJ a _ _ _ _ hf) (cwV 1 hts (tb_wsV tc_Mo_refused tm_Mo_88 ti_Mo_refused te_Mo_refused tz_Mo) rfl rfl rfl (by decide +kernel) ⟨Nat.le_of_ble_eq_true rfl, Nat.le_of_ble_eq_true rfl⟩) (g_preV (q0 := 0) (ci := 9) hK hw rfl rfl) rfl rfl hl.1 rfl (lv_room (Nat.le_of_ble_eq_true rfl)) d_Mo_scans_17 ⟨Nat.zero_le _, Nat.zero_le _⟩) (fun r17 S17 H locs hw hf => ?_)
    refine lv_if_eq (pc := 20) (tgt := 25) hx hb d_Mo_scans_20 (by decide) (fun hc => ?_) (fun hc => ?_)
    · replace hf := hf.1 hc
      refine lv_iconst (pc := 25) (v := 0) hx hb d_Mo_scans_25 (by decide) ?_
      refine lv_istore_n (pc := 26) (lv' := [(2, .int (0 : Int32)), (0, .ref (a 0)), (1, .int x1)]) hx hb d_Mo_scans_26 rfl hl (by decide) rfl (fun ls hl => ?_)
      refine lv_iconst (pc := 27) (v := 0) hx hb d_Mo_scans_27 (by decide) ?_
      refine lv_istore_n (pc := 28) (lv' := [(3, .int (0 : Int32)), (2, .int (0 : Int32)), (0, .ref (a 0)), (1, .int x1)]) hx hb d_Mo_scans_28 rfl hl (by decide) rfl (fun ls hl => ?_)
      obtain ⟨q29, hf⟩ := hf
      have lp29 : ∀ (n29 : Nat) (x1 : Int32) (x2 : Int32) (x3 : Int32) (S : GS) (H : Heap) (locs : List Loc) (ls : Array Slot), lv_has ls 4 [(0, .ref (a 0)), (1, .int x1), (2, .int x2), (3, .int x3)] → wf D A s.heap (mdW cI cZ cJ a S) H locs → L_Mo_scans_29 post n29 x1 x2 x3 S → W p l e rm_Mo_scans s m args below meth c H locs 0 0 (MQ below (va_Qi post (gB D (tys cI cZ cJ) (mdW cI cZ cJ a) A) A) args s 0 0 A) (F0 m 29 ls []) := by
        intro n29
        induction n29 with
        | zero => intro x1 x2 x3 S H locs ls hl hw hf; exact False.elim hf
        | succ n29 ih29 =>
          intro x1 x2 x3 S H locs ls hl hw hf
          unfold L_Mo_scans_29 at hf
          refine lv_iload_n (pc := 29) hx hb d_Mo_scans_29 rfl (lv_at hl 3 rfl) ?_
          refine lv_iload_n (pc := 30) hx hb d_Mo_scans_30 rfl (lv_at hl 1 rfl) ?_
          refine lv_icmp_ge (pc := 31) (tgt := 47) hx hb d_Mo_scans_31 (by decide) (fun hc => ?_) (fun hc => ?_)
          · replace hf := hf.1 hc
            refine lv_iload_n (pc := 47) hx hb d_Mo_scans_47 rfl (lv_at hl 2 rfl) ?_
            exact gr_i (pc := 48) hx hb hr hlk hK S hw hf d_Mo_scans_48
          replace hf := hf.2 hc
          refine lv_iload_n (pc := 34) hx hb d_Mo_scans_34 rfl (lv_at hl 2 rfl) ?_
          refine lv_aload_n (pc := 35) hx hb d_Mo_scans_35 rfl (lv_at hl 0 rfl) ?_
          refine gc_i (pc := 36) (Wf := mdW cI cZ cJ a) hw hA (va_runV (As := []) (rest := [.int x2]) ⟨hx, hb, hml, hown, hts⟩ (c_Mo_scanOnce l D cI cZ cJ a _ _ _ hf) (cwV 0 hts (tb_wsV tc_Mo_scanOnce tm_Mo_193 ti_Mo_scanOnce te_Mo_scanOnce tz_Mo) rfl rfl rfl (by decide +kernel) ⟨Nat.le_of_ble_eq_true rfl, Nat.le_of_ble_eq_true rfl⟩) (g_preV (q0 := 0) (ci := 9) hK hw rfl rfl) rfl rfl hl.1 rfl (lv_room (Nat.le_of_ble_eq_true rfl)) d_Mo_scans_36 ⟨Nat.zero_le _, Nat.zero_le _⟩) (fun r36 S36 H locs hw hf => ?_)
          refine lv_iadd (pc := 39) hx hb d_Mo_scans_39 ?_
          refine lv_istore_n (pc := 40) (lv' := [(2, .int (x2 + r36)), (0, .ref (a 0)), (1, .int x1), (3, .int x3)]) hx hb d_Mo_scans_40 rfl hl (by decide) rfl (fun ls hl => ?_)
          refine lv_iinc (pc := 41) (k := 3) (v := (x3 + (1 : Int32))) (lv' := [(3, .int (x3 + (1 : Int32))), (2, .int (x2 + r36)), (0, .ref (a 0)), (1, .int x1)]) hx hb d_Mo_scans_41 hl rfl rfl (by decide) rfl (fun ls hl => ?_)
          refine lv_goto (pc := 44) (tgt := 29) hx hb d_Mo_scans_44 (by decide) ?_
          exact ih29 x1 (x2 + r36) (x3 + (1 : Int32)) S36 _ _ _ (lv_sub hl [2, 3, 1, 0] rfl) hw hf
      exact lp29 q29 x1 (0 : Int32) (0 : Int32) S17 _ _ _ (lv_sub hl [2, 3, 1, 0] rfl) hw hf
    replace hf := hf.2 hc
    refine lv_iconst (pc := 23) (v := 0) hx hb d_Mo_scans_23 (by decide) ?_
    exact gr_i (pc := 24) hx hb hr hlk hK S17 hw hf d_Mo_scans_24
  have jn12 : ∀ (x1 : Int32) (S : GS) (H : Heap) (locs : List Loc) (ls : Array Slot), lv_has ls 4 [(0, .ref (a 0)), (1, .int x1)] → wf D A s.heap (mdW cI cZ cJ a S) H locs → J_Mo_scans_12 post x1 S → W p l e rm_Mo_scans s m args below meth c H locs 0 0 (MQ below (va_Qi post (gB D (tys cI cZ cJ) (mdW cI cZ cJ a) A) A) args s 0 0 A) (F0 m 12 ls [.ref (a 0)]) := by
    intro x1 S H locs ls hl hw hf
    unfold J_Mo_scans_12 at hf
    refine lv_iconst (pc := 12) (v := 1) hx hb d_Mo_scans_12 (by decide) ?_
    refine lv_goto (pc := 13) (tgt := 17) hx hb d_Mo_scans_13 (by decide) ?_
    exact jn17 x1 (1 : Int32) S _ _ _ (lv_sub hl [0, 1] rfl) hw hf
  unfold wp_Mo_scans at hf
  refine lv_aload_n (pc := 0) hx hb d_Mo_scans_0 rfl (lv_at hl 0 rfl) ?_
  refine lv_iload_n (pc := 1) hx hb d_Mo_scans_1 rfl (lv_at hl 1 rfl) ?_
  refine lv_iconst (pc := 2) (v := 1) hx hb d_Mo_scans_2 (by decide) ?_
  refine lv_icmp_lt (pc := 3) (tgt := 12) hx hb d_Mo_scans_3 (by decide) (fun hc => ?_) (fun hc => ?_)
  · replace hf := hf.1 hc
    exact jn12 p0 S _ _ _ (lv_sub hl [0, 1] rfl) hw hf
  replace hf := hf.2 hc
  refine lv_iload_n (pc := 6) hx hb d_Mo_scans_6 rfl (lv_at hl 1 rfl) ?_
  refine lv_bipush (pc := 7) (v := 100) hx hb d_Mo_scans_7 (by decide) ?_
  refine lv_icmp_le (pc := 9) (tgt := 16) hx hb d_Mo_scans_9 (by decide) (fun hc => ?_) (fun hc => ?_)
  · replace hf := hf.1 hc
    refine lv_iconst (pc := 16) (v := 0) hx hb d_Mo_scans_16 (by decide) ?_
    exact jn17 p0 (0 : Int32) S _ _ _ (lv_sub hl [0, 1] rfl) hw hf
  replace hf := hf.2 hc
  exact jn12 p0 S _ _ _ (lv_sub hl [0, 1] rfl) hw hf
def L_Mo_poll_33 (post : Int32 → GS → Prop) : Nat → Int32 → GS → Prop
  | 0, _, _ => False
  | n33 + 1, x1, S => (((S.1 5 0) ≤ x1 → (((S.1 6 0) = (0 : Int32) → (post (1 : Int32) S)) ∧ (¬ (S.1 6 0) = (0 : Int32) → (wp_Mo_tell (gI S 6 (fun _ => (0 : Int32))) (fun S68 => (post (1 : Int32) S68)))))) ∧ (¬ (S.1 5 0) ≤ x1 → (wp_Mo_copyReport S (x1 + (1 : Int32)) x1 (fun S46 => (L_Mo_poll_33 post n33 (x1 + (1 : Int32)) S46)))))
def wp_Mo_poll (S : GS) (post : Int32 → GS → Prop) : Prop := (((S.1 5 0) = (0 : Int32) → (post (0 : Int32) (gI S 0 (fun _ => (0 : Int32))))) ∧ (¬ (S.1 5 0) = (0 : Int32) → (wp_Mo_copyReport (gI S 0 (fun _ => (0 : Int32))) (0 : Int32) (9 : Int32) (fun S18 => (∃ q33, L_Mo_poll_33 post q33 (0 : Int32) (gI S18 5 (fun _ => ((S18.1 5 0) - (1 : Int32)))))))))
abbrev rm_Mo_poll : Room := { frames := 2, cells := 0, slots := 0, locals := 45 }
set_option maxHeartbeats 4000000 in
set_option maxRecDepth 100000 in
theorem c_Mo_poll (l : Launch) (D : va_G) (cI cZ cJ : ClassId) (a : Nat → Nat) (sz : Nat) (S : GS) (post : Int32 → GS → Prop) (hf : wp_Mo_poll S post) : Met l y_Mo_poll ws_Mo_poll rm_Mo_poll (va_Pc [.ref (a 0)] (gPre D (tys cI cZ cJ) (mdW cI cZ cJ a S) sz)) (va_Qi post (gB D (tys cI cZ cJ) (mdW cI cZ cJ a) (va_A (mdW cI cZ cJ a S) sz)) (va_A (mdW cI cZ cJ a S) sz)) 0 0 (va_A (mdW cI cZ cJ a S) sz) := by
  refine gm_w (QF := fun A => va_Qi post (gB D (tys cI cZ cJ) (mdW cI cZ cJ a) A) A) (cc := b_Mo_poll) (maxL := 2) (by decide) rfl (Nat.le_of_ble_eq_true rfl) ?_
  intro p e s m args below meth c A ls hx hb hr hts hown hmn hlk hml hK hA hw hl
  have hl : lv_has ls 2 [(0, .ref (a 0))] := hl
  have hinMo : ∀ w ∈ u_ws R_Mo T_Mo 30, w ∈ ws_Mo_poll := fun w h => List.mem_cons_of_mem _ (tl_Mo w h)
  have hl80 := hts _ (List.mem_cons_of_mem _ tf_Mo_80)
  have hl114 := hts _ (List.mem_cons_of_mem _ tf_Mo_114)
  have hl117 := hts _ (List.mem_cons_of_mem _ tf_Mo_117)
  unfold wp_Mo_poll at hf
  refine lv_aload_n (pc := 0) hx hb d_Mo_poll_0 rfl (lv_at hl 0 rfl) ?_
  refine lv_iconst (pc := 1) (v := 0) hx hb d_Mo_poll_1 (by decide) ?_
  refine md_pt_Mo_fault (pc := 2) hx hb hK hts hinMo hown hw hl80 d_Mo_poll_2 (fun H locs hw => ?_)
  refine lv_aload_n (pc := 5) hx hb d_Mo_poll_5 rfl (lv_at hl 0 rfl) ?_
  refine md_gt_Mo_stored (pc := 6) (v := (S.1 5 0)) hx hb hK hts hinMo hown hw.1 hl114 rfl d_Mo_poll_6 ?_
  refine lv_if_ne (pc := 9) (tgt := 14) hx hb d_Mo_poll_9 (by decide) (fun hc => ?_) (fun hc => ?_)
  · replace hf := hf.2 hc
    refine lv_aload_n (pc := 14) hx hb d_Mo_poll_14 rfl (lv_at hl 0 rfl) ?_
    refine lv_iconst (pc := 15) (v := 0) hx hb d_Mo_poll_15 (by decide) ?_
    refine lv_bipush (pc := 16) (v := 9) hx hb d_Mo_poll_16 (by decide) ?_
    refine gc_v (pc := 18) (Wf := mdW cI cZ cJ a) hw hA (va_runV (As := [.int (0 : Int32), .int (9 : Int32)]) (rest := []) ⟨hx, hb, hml, hown, hts⟩ (c_Mo_copyReport l D cI cZ cJ a _ _ _ _ _ hf) (cwV 2 hts (tb_wsV tc_Mo_copyReport tm_Mo_121 ti_Mo_copyReport te_Mo_copyReport tz_Mo) rfl rfl rfl (by decide +kernel) ⟨Nat.le_of_ble_eq_true rfl, Nat.le_of_ble_eq_true rfl⟩) (g_preV (q0 := 0) (ci := 9) hK hw rfl rfl) rfl rfl hl.1 rfl (lv_room (Nat.le_of_ble_eq_true rfl)) d_Mo_poll_18 ⟨Nat.zero_le _, Nat.zero_le _⟩) (fun S18 H locs hw hf => ?_)
    refine lv_aload_n (pc := 21) hx hb d_Mo_poll_21 rfl (lv_at hl 0 rfl) ?_
    refine lv_dup (pc := 22) hx hb d_Mo_poll_22 rfl ?_
    refine md_gt_Mo_stored (pc := 23) (v := (S18.1 5 0)) hx hb hK hts hinMo hown hw.1 hl114 rfl d_Mo_poll_23 ?_
    refine lv_iconst (pc := 26) (v := 1) hx hb d_Mo_poll_26 (by decide) ?_
    refine lv_isub (pc := 27) hx hb d_Mo_poll_27 ?_
    refine md_pt_Mo_stored (pc := 28) hx hb hK hts hinMo hown hw hl114 d_Mo_poll_28 (fun H locs hw => ?_)
    refine lv_iconst (pc := 31) (v := 0) hx hb d_Mo_poll_31 (by decide) ?_
    refine lv_istore_n (pc := 32) (lv' := [(1, .int (0 : Int32)), (0, .ref (a 0))]) hx hb d_Mo_poll_32 rfl hl (by decide) rfl (fun ls hl => ?_)
    obtain ⟨q33, hf⟩ := hf
    have lp33 : ∀ (n33 : Nat) (x1 : Int32) (S : GS) (H : Heap) (locs : List Loc) (ls : Array Slot), lv_has ls 2 [(0, .ref (a 0)), (1, .int x1)] → wf D A s.heap (mdW cI cZ cJ a S) H locs → L_Mo_poll_33 post n33 x1 S → W p l e rm_Mo_poll s m args below meth c H locs 0 0 (MQ below (va_Qi post (gB D (tys cI cZ cJ) (mdW cI cZ cJ a) A) A) args s 0 0 A) (F0 m 33 ls []) := by
      intro n33
      induction n33 with
      | zero => intro x1 S H locs ls hl hw hf; exact False.elim hf
      | succ n33 ih33 =>
        intro x1 S H locs ls hl hw hf
        unfold L_Mo_poll_33 at hf
        refine lv_iload_n (pc := 33) hx hb d_Mo_poll_33 rfl (lv_at hl 1 rfl) ?_
        refine lv_aload_n (pc := 34) hx hb d_Mo_poll_34 rfl (lv_at hl 0 rfl) ?_
        refine md_gt_Mo_stored (pc := 35) (v := (S.1 5 0)) hx hb hK hts hinMo hown hw.1 hl114 rfl d_Mo_poll_35 ?_
        refine lv_icmp_ge (pc := 38) (tgt := 55) hx hb d_Mo_poll_38 (by decide) (fun hc => ?_) (fun hc => ?_)
        · replace hf := hf.1 hc
          refine lv_aload_n (pc := 55) hx hb d_Mo_poll_55 rfl (lv_at hl 0 rfl) ?_
          refine md_gt_Mo_late (pc := 56) (v := (S.1 6 0)) hx hb hK hts hinMo hown hw.1 hl117 rfl d_Mo_poll_56 ?_
          refine lv_if_eq (pc := 59) (tgt := 71) hx hb d_Mo_poll_59 (by decide) (fun hc => ?_) (fun hc => ?_)
          · replace hf := hf.1 hc
            refine lv_iconst (pc := 71) (v := 1) hx hb d_Mo_poll_71 (by decide) ?_
            exact gr_z (pc := 72) hx hb hr hlk hK S hw (by decide) hf d_Mo_poll_72
          replace hf := hf.2 hc
          refine lv_aload_n (pc := 62) hx hb d_Mo_poll_62 rfl (lv_at hl 0 rfl) ?_
          refine lv_iconst (pc := 63) (v := 0) hx hb d_Mo_poll_63 (by decide) ?_
          refine md_pt_Mo_late (pc := 64) hx hb hK hts hinMo hown hw hl117 (by decide) (by decide) d_Mo_poll_64 (fun H locs hw => ?_)
          refine lv_aload_n (pc := 67) hx hb d_Mo_poll_67 rfl (lv_at hl 0 rfl) ?_
          refine gc_v (pc := 68) (Wf := mdW cI cZ cJ a) hw hA (va_runV (As := []) (rest := []) ⟨hx, hb, hml, hown, hts⟩ (c_Mo_tell l D cI cZ cJ a _ _ _ hf) (cwV 0 hts (tb_wsV tc_Mo_tell tm_Mo_124 ti_Mo_tell te_Mo_tell tz_Mo) rfl rfl rfl (by decide +kernel) ⟨Nat.le_of_ble_eq_true rfl, Nat.le_of_ble_eq_true rfl⟩) (g_preV (q0 := 0) (ci := 9) hK hw rfl rfl) rfl rfl hl.1 rfl (lv_room (Nat.le_of_ble_eq_true rfl)) d_Mo_poll_68 ⟨Nat.zero_le _, Nat.zero_le _⟩) (fun S68 H locs hw hf => ?_)
          refine lv_iconst (pc := 71) (v := 1) hx hb d_Mo_poll_71 (by decide) ?_
          exact gr_z (pc := 72) hx hb hr hlk hK S68 hw (by decide) hf d_Mo_poll_72
        replace hf := hf.2 hc
        refine lv_aload_n (pc := 41) hx hb d_Mo_poll_41 rfl (lv_at hl 0 rfl) ?_
        refine lv_iload_n (pc := 42) hx hb d_Mo_poll_42 rfl (lv_at hl 1 rfl) ?_
        refine lv_iconst (pc := 43) (v := 1) hx hb d_Mo_poll_43 (by decide) ?_
        refine lv_iadd (pc := 44) hx hb d_Mo_poll_44 ?_
        refine lv_iload_n (pc := 45) hx hb d_Mo_poll_45 rfl (lv_at hl 1 rfl) ?_
        refine gc_v (pc := 46) (Wf := mdW cI cZ cJ a) hw hA (va_runV (As := [.int (x1 + (1 : Int32)), .int x1]) (rest := []) ⟨hx, hb, hml, hown, hts⟩ (c_Mo_copyReport l D cI cZ cJ a _ _ _ _ _ hf) (cwV 2 hts (tb_wsV tc_Mo_copyReport tm_Mo_121 ti_Mo_copyReport te_Mo_copyReport tz_Mo) rfl rfl rfl (by decide +kernel) ⟨Nat.le_of_ble_eq_true rfl, Nat.le_of_ble_eq_true rfl⟩) (g_preV (q0 := 0) (ci := 9) hK hw rfl rfl) rfl rfl hl.1 rfl (lv_room (Nat.le_of_ble_eq_true rfl)) d_Mo_poll_46 ⟨Nat.zero_le _, Nat.zero_le _⟩) (fun S46 H locs hw hf => ?_)
        refine lv_iinc (pc := 49) (k := 1) (v := (x1 + (1 : Int32))) (lv' := [(1, .int (x1 + (1 : Int32))), (0, .ref (a 0))]) hx hb d_Mo_poll_49 hl rfl rfl (by decide) rfl (fun ls hl => ?_)
        refine lv_goto (pc := 52) (tgt := 33) hx hb d_Mo_poll_52 (by decide) ?_
        exact ih33 (x1 + (1 : Int32)) S46 _ _ _ (lv_sub hl [1, 0] rfl) hw hf
    exact lp33 q33 (0 : Int32) (gI S18 5 (fun _ => ((S18.1 5 0) - (1 : Int32)))) _ _ _ (lv_sub hl [1, 0] rfl) hw hf
  replace hf := hf.1 hc
  refine lv_iconst (pc := 12) (v := 0) hx hb d_Mo_poll_12 (by decide) ?_
  exact gr_z (pc := 13) hx hb hr hlk hK (gI S 0 (fun _ => (0 : Int32))) hw (by decide) hf d_Mo_poll_13
def wp_Mo_report (S : GS) (p0 : Int32) (post : Int32 → GS → Prop) : Prop := ((p0 < (0 : Int32) → (post (-1 : Int32) (gI S 0 (fun _ => (0 : Int32))))) ∧ (¬ p0 < (0 : Int32) → ((p0 ≤ (6 : Int32) → (vp_in ((63 : Int32) + p0) 77 ∧ (post ((S.1 29) ((63 : Int32) + p0).toNatClampNeg) (gI S 0 (fun _ => (0 : Int32)))))) ∧ (¬ p0 ≤ (6 : Int32) → (post (-1 : Int32) (gI S 0 (fun _ => (0 : Int32))))))))
abbrev rm_Mo_report : Room := { frames := 0, cells := 0, slots := 0, locals := 0 }
set_option maxHeartbeats 4000000 in
set_option maxRecDepth 100000 in
theorem c_Mo_report (l : Launch) (D : va_G) (cI cZ cJ : ClassId) (a : Nat → Nat) (sz : Nat) (S : GS) (p0 : Int32) (post : Int32 → GS → Prop) (hf : wp_Mo_report S p0 post) : Met l y_Mo_report ws_Mo_report rm_Mo_report (va_Pc [.ref (a 0), .int p0] (gPre D (tys cI cZ cJ) (mdW cI cZ cJ a S) sz)) (va_Qi post (gB D (tys cI cZ cJ) (mdW cI cZ cJ a) (va_A (mdW cI cZ cJ a S) sz)) (va_A (mdW cI cZ cJ a S) sz)) 0 0 (va_A (mdW cI cZ cJ a S) sz) := by
  refine gm_w (QF := fun A => va_Qi post (gB D (tys cI cZ cJ) (mdW cI cZ cJ a) A) A) (cc := b_Mo_report) (maxL := 2) (by decide) rfl (Nat.le_of_ble_eq_true rfl) ?_
  intro p e s m args below meth c A ls hx hb hr hts hown hmn hlk hml hK hA hw hl
  have hl : lv_has ls 2 [(0, .ref (a 0)), (1, .int p0)] := hl
  have hinMo : ∀ w ∈ u_ws R_Mo T_Mo 30, w ∈ ws_Mo_report := fun w h => List.mem_cons_of_mem _ (tl_Mo w h)
  have hl77 := hts _ (List.mem_cons_of_mem _ tf_Mo_77)
  have hl80 := hts _ (List.mem_cons_of_mem _ tf_Mo_80)
  unfold wp_Mo_report at hf
  refine lv_aload_n (pc := 0) hx hb d_Mo_report_0 rfl (lv_at hl 0 rfl) ?_
  refine lv_iconst (pc := 1) (v := 0) hx hb d_Mo_report_1 (by decide) ?_
  refine md_pt_Mo_fault (pc := 2) hx hb hK hts hinMo hown hw hl80 d_Mo_report_2 (fun H locs hw => ?_)
  refine lv_iload_n (pc := 5) hx hb d_Mo_report_5 rfl (lv_at hl 1 rfl) ?_
  refine lv_if_lt (pc := 6) (tgt := 15) hx hb d_Mo_report_6 (by decide) (fun hc => ?_) (fun hc => ?_)
  · replace hf := hf.1 hc
    refine lv_iconst (pc := 15) (v := -1) hx hb d_Mo_report_15 (by decide) ?_
    refine lv_goto (pc := 16) (tgt := 28) hx hb d_Mo_report_16 (by decide) ?_
    exact gr_i (pc := 28) hx hb hr hlk hK (gI S 0 (fun _ => (0 : Int32))) hw hf d_Mo_report_28
  replace hf := hf.2 hc
  refine lv_iload_n (pc := 9) hx hb d_Mo_report_9 rfl (lv_at hl 1 rfl) ?_
  refine lv_bipush (pc := 10) (v := 6) hx hb d_Mo_report_10 (by decide) ?_
  refine lv_icmp_le (pc := 12) (tgt := 19) hx hb d_Mo_report_12 (by decide) (fun hc => ?_) (fun hc => ?_)
  · replace hf := hf.1 hc
    refine lv_aload_n (pc := 19) hx hb d_Mo_report_19 rfl (lv_at hl 0 rfl) ?_
    refine md_gt_Mo_reports (pc := 20) hx hb hK hts hinMo hown hw.1 hl77 d_Mo_report_20 ?_
    refine lv_bipush (pc := 23) (v := 63) hx hb d_Mo_report_23 (by decide) ?_
    refine lv_iload_n (pc := 25) hx hb d_Mo_report_25 rfl (lv_at hl 1 rfl) ?_
    refine lv_iadd (pc := 26) hx hb d_Mo_report_26 ?_
    refine md_ld23 (pc := 27) (v := ((S.1 29) ((63 : Int32) + p0).toNatClampNeg)) hx hb hK hw.1 hf.1 rfl d_Mo_report_27 ?_
    replace hf := hf.2
    exact gr_i (pc := 28) hx hb hr hlk hK (gI S 0 (fun _ => (0 : Int32))) hw hf d_Mo_report_28
  replace hf := hf.2 hc
  refine lv_iconst (pc := 15) (v := -1) hx hb d_Mo_report_15 (by decide) ?_
  refine lv_goto (pc := 16) (tgt := 28) hx hb d_Mo_report_16 (by decide) ?_
  exact gr_i (pc := 28) hx hb hr hlk hK (gI S 0 (fun _ => (0 : Int32))) hw hf d_Mo_report_28
def wp_Mo_waiting (S : GS) (post : Int32 → GS → Prop) : Prop := (post (S.1 5 0) (gI S 0 (fun _ => (0 : Int32))))
abbrev rm_Mo_waiting : Room := { frames := 0, cells := 0, slots := 0, locals := 0 }
set_option maxHeartbeats 4000000 in
set_option maxRecDepth 100000 in
theorem c_Mo_waiting (l : Launch) (D : va_G) (cI cZ cJ : ClassId) (a : Nat → Nat) (sz : Nat) (S : GS) (post : Int32 → GS → Prop) (hf : wp_Mo_waiting S post) : Met l y_Mo_waiting ws_Mo_waiting rm_Mo_waiting (va_Pc [.ref (a 0)] (gPre D (tys cI cZ cJ) (mdW cI cZ cJ a S) sz)) (va_Qi post (gB D (tys cI cZ cJ) (mdW cI cZ cJ a) (va_A (mdW cI cZ cJ a S) sz)) (va_A (mdW cI cZ cJ a S) sz)) 0 0 (va_A (mdW cI cZ cJ a S) sz) := by
  refine gm_w (QF := fun A => va_Qi post (gB D (tys cI cZ cJ) (mdW cI cZ cJ a) A) A) (cc := b_Mo_waiting) (maxL := 1) (by decide) rfl (Nat.le_of_ble_eq_true rfl) ?_
  intro p e s m args below meth c A ls hx hb hr hts hown hmn hlk hml hK hA hw hl
  have hl : lv_has ls 1 [(0, .ref (a 0))] := hl
  have hinMo : ∀ w ∈ u_ws R_Mo T_Mo 30, w ∈ ws_Mo_waiting := fun w h => List.mem_cons_of_mem _ (tl_Mo w h)
  have hl80 := hts _ (List.mem_cons_of_mem _ tf_Mo_80)
  have hl114 := hts _ (List.mem_cons_of_mem _ tf_Mo_114)
  unfold wp_Mo_waiting at hf
  refine lv_aload_n (pc := 0) hx hb d_Mo_waiting_0 rfl (lv_at hl 0 rfl) ?_
  refine lv_iconst (pc := 1) (v := 0) hx hb d_Mo_waiting_1 (by decide) ?_
  refine md_pt_Mo_fault (pc := 2) hx hb hK hts hinMo hown hw hl80 d_Mo_waiting_2 (fun H locs hw => ?_)
  refine lv_aload_n (pc := 5) hx hb d_Mo_waiting_5 rfl (lv_at hl 0 rfl) ?_
  refine md_gt_Mo_stored (pc := 6) (v := (S.1 5 0)) hx hb hK hts hinMo hown hw.1 hl114 rfl d_Mo_waiting_6 ?_
  exact gr_i (pc := 9) hx hb hr hlk hK (gI S 0 (fun _ => (0 : Int32))) hw hf d_Mo_waiting_9
def wp_Mo_late (S : GS) (post : Int32 → GS → Prop) : Prop := (narrow .boolean (.int (S.1 6 0)) = .int (S.1 6 0) ∧ (post (S.1 6 0) (gI S 0 (fun _ => (0 : Int32)))))
abbrev rm_Mo_late : Room := { frames := 0, cells := 0, slots := 0, locals := 0 }
set_option maxHeartbeats 4000000 in
set_option maxRecDepth 100000 in
theorem c_Mo_late (l : Launch) (D : va_G) (cI cZ cJ : ClassId) (a : Nat → Nat) (sz : Nat) (S : GS) (post : Int32 → GS → Prop) (hf : wp_Mo_late S post) : Met l y_Mo_late ws_Mo_late rm_Mo_late (va_Pc [.ref (a 0)] (gPre D (tys cI cZ cJ) (mdW cI cZ cJ a S) sz)) (va_Qi post (gB D (tys cI cZ cJ) (mdW cI cZ cJ a) (va_A (mdW cI cZ cJ a S) sz)) (va_A (mdW cI cZ cJ a S) sz)) 0 0 (va_A (mdW cI cZ cJ a S) sz) := by
  refine gm_w (QF := fun A => va_Qi post (gB D (tys cI cZ cJ) (mdW cI cZ cJ a) A) A) (cc := b_Mo_late) (maxL := 1) (by decide) rfl (Nat.le_of_ble_eq_true rfl) ?_
  intro p e s m args below meth c A ls hx hb hr hts hown hmn hlk hml hK hA hw hl
  have hl : lv_has ls 1 [(0, .ref (a 0))] := hl
  have hinMo : ∀ w ∈ u_ws R_Mo T_Mo 30, w ∈ ws_Mo_late := fun w h => List.mem_cons_of_mem _ (tl_Mo w h)
  have hl80 := hts _ (List.mem_cons_of_mem _ tf_Mo_80)
  have hl117 := hts _ (List.mem_cons_of_mem _ tf_Mo_117)
  unfold wp_Mo_late at hf
  refine lv_aload_n (pc := 0) hx hb d_Mo_late_0 rfl (lv_at hl 0 rfl) ?_
  refine lv_iconst (pc := 1) (v := 0) hx hb d_Mo_late_1 (by decide) ?_
  refine md_pt_Mo_fault (pc := 2) hx hb hK hts hinMo hown hw hl80 d_Mo_late_2 (fun H locs hw => ?_)
  refine lv_aload_n (pc := 5) hx hb d_Mo_late_5 rfl (lv_at hl 0 rfl) ?_
  refine md_gt_Mo_late (pc := 6) (v := (S.1 6 0)) hx hb hK hts hinMo hown hw.1 hl117 rfl d_Mo_late_6 ?_
  exact gr_z (pc := 9) hx hb hr hlk hK (gI S 0 (fun _ => (0 : Int32))) hw hf.1 hf.2 d_Mo_late_9
def J_Mo_isSound_15 (post : Int32 → Prop) (x0 : Int32) (x1 : Int32) (x2 : Int32) (y0 : Int32) : Prop := ((x0 = (0 : Int32) → (post (1 : Int32))) ∧ (¬ x0 = (0 : Int32) → ((x0 = (1 : Int32) → (wp_Mo_isCode x1 (fun r63 => (narrow .boolean (.int r63) = .int r63 ∧ (post r63))))) ∧ (¬ x0 = (1 : Int32) → ((x0 = (2 : Int32) → (narrow .boolean (.int y0) = .int y0 ∧ (post y0))) ∧ (¬ x0 = (2 : Int32) → ((x0 = (3 : Int32) → (narrow .boolean (.int y0) = .int y0 ∧ (post y0))) ∧ (¬ x0 = (3 : Int32) → ((x0 = (4 : Int32) → (narrow .boolean (.int y0) = .int y0 ∧ (post y0))) ∧ (¬ x0 = (4 : Int32) → ((x0 = (5 : Int32) → (wp_Mo_isCode x1 (fun r70 => ((r70 = (0 : Int32) → (post (0 : Int32))) ∧ (¬ r70 = (0 : Int32) → ((x2 < (1 : Int32) → (post (0 : Int32))) ∧ (¬ x2 < (1 : Int32) → (((3 : Int32) < x2 → (post (0 : Int32))) ∧ (¬ (3 : Int32) < x2 → (post (1 : Int32))))))))))) ∧ (¬ x0 = (5 : Int32) → ((x0 = (6 : Int32) → (wp_Mo_isFour x1 (fun r93 => (narrow .boolean (.int r93) = .int r93 ∧ (post r93))))) ∧ (¬ x0 = (6 : Int32) → (post (0 : Int32))))))))))))))))
def J_Mo_isSound_14 (post : Int32 → Prop) (x0 : Int32) (x1 : Int32) (x2 : Int32) : Prop := (J_Mo_isSound_15 post x0 x1 x2 (0 : Int32))
def wp_Mo_isSound (p0 : Int32) (p1 : Int32) (p2 : Int32) (post : Int32 → Prop) : Prop := ((p1 < (1 : Int32) → (J_Mo_isSound_14 post p0 p1 p2)) ∧ (¬ p1 < (1 : Int32) → (((3 : Int32) < p1 → (J_Mo_isSound_14 post p0 p1 p2)) ∧ (¬ (3 : Int32) < p1 → (J_Mo_isSound_15 post p0 p1 p2 (1 : Int32))))))
abbrev rm_Mo_isSound : Room := { frames := 1, cells := 0, slots := 0, locals := 20 }
set_option maxHeartbeats 4000000 in
set_option maxRecDepth 100000 in
theorem c_Mo_isSound (l : Launch) (p0 : Int32) (p1 : Int32) (p2 : Int32) (post : Int32 → Prop) (hf : wp_Mo_isSound p0 p1 p2 post) : Met l y_Mo_isSound ws_Mo_isSound rm_Mo_isSound (va_Pc [.int p0, .int p1, .int p2] (fun _ => True)) (vp_Si post) 0 0 (fun _ => False) := by
  refine gm_p (cc := b_Mo_isSound) (maxL := 4) (by decide) rfl (Nat.le_of_ble_eq_true rfl) ?_
  intro p e s m args below meth c ls hx hb hr hts hown hlk hml hl
  have hl : lv_has ls 4 [(0, .int p0), (1, .int p1), (2, .int p2)] := hl
  have jn15 : ∀ (x0 : Int32) (x1 : Int32) (x2 : Int32) (y0 : Int32) (ls : Array Slot), lv_has ls 4 [(0, .int x0), (1, .int x1), (2, .int x2)] → J_Mo_isSound_15 post x0 x1 x2 y0 → W p l e rm_Mo_isSound s m args below meth c s.heap [] 0 0 (MQ below (vp_Si post) args s 0 0 (fun _ => False)) (F0 m 15 ls [.int y0]) := by
    intro x0 x1 x2 y0 ls hl hf
    unfold J_Mo_isSound_15 at hf
    refine lv_istore_n (pc := 15) (lv' := [(3, .int y0), (0, .int x0), (1, .int x1), (2, .int x2)]) hx hb d_Mo_isSound_15 rfl hl (by decide) rfl (fun ls hl => ?_)
    refine lv_iload_n (pc := 16) hx hb d_Mo_isSound_16 rfl (lv_at hl 1 rfl) ?_
    by_cases hs0 : x0 = (0 : Int32)
    · replace hf := hf.1 hs0
      refine lv_tableIn (pc := 17) (off := 43) (tgt := 60) hx hb d_Mo_isSound_17 (by rw [hs0]; decide) (by rw [hs0]; decide) (by rw [hs0]; decide) (by decide) ?_
      refine lv_iconst (pc := 60) (v := 1) hx hb d_Mo_isSound_60 (by decide) ?_
      exact rr_z (pc := 61) hx hb hr hlk (by decide) hf d_Mo_isSound_61
    replace hf := hf.2 hs0
    by_cases hs1 : x0 = (1 : Int32)
    · replace hf := hf.1 hs1
      refine lv_tableIn (pc := 17) (off := 45) (tgt := 62) hx hb d_Mo_isSound_17 (by rw [hs1]; decide) (by rw [hs1]; decide) (by rw [hs1]; decide) (by decide) ?_
      refine lv_iload_n (pc := 62) hx hb d_Mo_isSound_62 rfl (lv_at hl 2 rfl) ?_
      refine vp_callSi (pc := 63) (W.runS (As := [.int x1]) (rest := []) ⟨hx, hb, hml, hown, hts⟩ (c_Mo_isCode l _ _ hf) (cwS 1 hts (tb_wsS tc_Mo_isCode tm_Mo_196 ts_Mo_isCode tz_Mo) rfl rfl rfl (by decide +kernel) ⟨Nat.le_of_ble_eq_true rfl, Nat.le_of_ble_eq_true rfl⟩) p_preS rfl rfl hl.1 rfl (lv_room (Nat.le_of_ble_eq_true rfl)) d_Mo_isSound_63 ⟨Nat.zero_le _, Nat.zero_le _⟩) (fun r63 hf => ?_)
      exact rr_z (pc := 66) hx hb hr hlk hf.1 hf.2 d_Mo_isSound_66
    replace hf := hf.2 hs1
    by_cases hs2 : x0 = (2 : Int32)
    · replace hf := hf.1 hs2
      refine lv_tableIn (pc := 17) (off := 50) (tgt := 67) hx hb d_Mo_isSound_17 (by rw [hs2]; decide) (by rw [hs2]; decide) (by rw [hs2]; decide) (by decide) ?_
      refine lv_iload_n (pc := 67) hx hb d_Mo_isSound_67 rfl (lv_at hl 0 rfl) ?_
      exact rr_z (pc := 68) hx hb hr hlk hf.1 hf.2 d_Mo_isSound_68
    replace hf := hf.2 hs2
    by_cases hs3 : x0 = (3 : Int32)
    · replace hf := hf.1 hs3
      refine lv_tableIn (pc := 17) (off := 50) (tgt := 67) hx hb d_Mo_isSound_17 (by rw [hs3]; decide) (by rw [hs3]; decide) (by rw [hs3]; decide) (by decide) ?_
      refine lv_iload_n (pc := 67) hx hb d_Mo_isSound_67 rfl (lv_at hl 0 rfl) ?_
      exact rr_z (pc := 68) hx hb hr hlk hf.1 hf.2 d_Mo_isSound_68
    replace hf := hf.2 hs3
    by_cases hs4 : x0 = (4 : Int32)
    · replace hf := hf.1 hs4
      refine lv_tableIn (pc := 17) (off := 50) (tgt := 67) hx hb d_Mo_isSound_17 (by rw [hs4]; decide) (by rw [hs4]; decide) (by rw [hs4]; decide) (by decide) ?_
      refine lv_iload_n (pc := 67) hx hb d_Mo_isSound_67 rfl (lv_at hl 0 rfl) ?_
      exact rr_z (pc := 68) hx hb hr hlk hf.1 hf.2 d_Mo_isSound_68
    replace hf := hf.2 hs4
    by_cases hs5 : x0 = (5 : Int32)
    · replace hf := hf.1 hs5
      refine lv_tableIn (pc := 17) (off := 52) (tgt := 69) hx hb d_Mo_isSound_17 (by rw [hs5]; decide) (by rw [hs5]; decide) (by rw [hs5]; decide) (by decide) ?_
      refine lv_iload_n (pc := 69) hx hb d_Mo_isSound_69 rfl (lv_at hl 2 rfl) ?_
      refine vp_callSi (pc := 70) (W.runS (As := [.int x1]) (rest := []) ⟨hx, hb, hml, hown, hts⟩ (c_Mo_isCode l _ _ hf) (cwS 1 hts (tb_wsS tc_Mo_isCode tm_Mo_196 ts_Mo_isCode tz_Mo) rfl rfl rfl (by decide +kernel) ⟨Nat.le_of_ble_eq_true rfl, Nat.le_of_ble_eq_true rfl⟩) p_preS rfl rfl hl.1 rfl (lv_room (Nat.le_of_ble_eq_true rfl)) d_Mo_isSound_70 ⟨Nat.zero_le _, Nat.zero_le _⟩) (fun r70 hf => ?_)
      refine lv_if_eq (pc := 73) (tgt := 90) hx hb d_Mo_isSound_73 (by decide) (fun hc => ?_) (fun hc => ?_)
      · replace hf := hf.1 hc
        refine lv_iconst (pc := 90) (v := 0) hx hb d_Mo_isSound_90 (by decide) ?_
        exact rr_z (pc := 91) hx hb hr hlk (by decide) hf d_Mo_isSound_91
      replace hf := hf.2 hc
      refine lv_iload_n (pc := 76) hx hb d_Mo_isSound_76 rfl (lv_at hl 3 rfl) ?_
      refine lv_iconst (pc := 77) (v := 1) hx hb d_Mo_isSound_77 (by decide) ?_
      refine lv_icmp_lt (pc := 78) (tgt := 90) hx hb d_Mo_isSound_78 (by decide) (fun hc => ?_) (fun hc => ?_)
      · replace hf := hf.1 hc
        refine lv_iconst (pc := 90) (v := 0) hx hb d_Mo_isSound_90 (by decide) ?_
        exact rr_z (pc := 91) hx hb hr hlk (by decide) hf d_Mo_isSound_91
      replace hf := hf.2 hc
      refine lv_iload_n (pc := 81) hx hb d_Mo_isSound_81 rfl (lv_at hl 3 rfl) ?_
      refine lv_iconst (pc := 82) (v := 3) hx hb d_Mo_isSound_82 (by decide) ?_
      refine lv_icmp_gt (pc := 83) (tgt := 90) hx hb d_Mo_isSound_83 (by decide) (fun hc => ?_) (fun hc => ?_)
      · replace hf := hf.1 hc
        refine lv_iconst (pc := 90) (v := 0) hx hb d_Mo_isSound_90 (by decide) ?_
        exact rr_z (pc := 91) hx hb hr hlk (by decide) hf d_Mo_isSound_91
      replace hf := hf.2 hc
      refine lv_iconst (pc := 86) (v := 1) hx hb d_Mo_isSound_86 (by decide) ?_
      refine lv_goto (pc := 87) (tgt := 91) hx hb d_Mo_isSound_87 (by decide) ?_
      exact rr_z (pc := 91) hx hb hr hlk (by decide) hf d_Mo_isSound_91
    replace hf := hf.2 hs5
    by_cases hs6 : x0 = (6 : Int32)
    · replace hf := hf.1 hs6
      refine lv_tableIn (pc := 17) (off := 75) (tgt := 92) hx hb d_Mo_isSound_17 (by rw [hs6]; decide) (by rw [hs6]; decide) (by rw [hs6]; decide) (by decide) ?_
      refine lv_iload_n (pc := 92) hx hb d_Mo_isSound_92 rfl (lv_at hl 2 rfl) ?_
      refine vp_callSi (pc := 93) (W.runS (As := [.int x1]) (rest := []) ⟨hx, hb, hml, hown, hts⟩ (c_Mo_isFour l _ _ hf) (cwS 1 hts (tb_wsS tc_Mo_isFour tm_Mo_199 ts_Mo_isFour tz_Mo) rfl rfl rfl (by decide +kernel) ⟨Nat.le_of_ble_eq_true rfl, Nat.le_of_ble_eq_true rfl⟩) p_preS rfl rfl hl.1 rfl (lv_room (Nat.le_of_ble_eq_true rfl)) d_Mo_isSound_93 ⟨Nat.zero_le _, Nat.zero_le _⟩) (fun r93 hf => ?_)
      exact rr_z (pc := 96) hx hb hr hlk hf.1 hf.2 d_Mo_isSound_96
    replace hf := hf.2 hs6
    have ehs0 := lv_neT hs0 (a := 0) (by decide)
    have ehs1 := lv_neT hs1 (a := 1) (by decide)
    have ehs2 := lv_neT hs2 (a := 2) (by decide)
    have ehs3 := lv_neT hs3 (a := 3) (by decide)
    have ehs4 := lv_neT hs4 (a := 4) (by decide)
    have ehs5 := lv_neT hs5 (a := 5) (by decide)
    have ehs6 := lv_neT hs6 (a := 6) (by decide)
    refine lv_tableOut (pc := 17) (tgt := 97) hx hb d_Mo_isSound_17 (by omega) (by decide) ?_
    refine lv_iconst (pc := 97) (v := 0) hx hb d_Mo_isSound_97 (by decide) ?_
    exact rr_z (pc := 98) hx hb hr hlk (by decide) hf d_Mo_isSound_98
  have jn14 : ∀ (x0 : Int32) (x1 : Int32) (x2 : Int32) (ls : Array Slot), lv_has ls 4 [(0, .int x0), (1, .int x1), (2, .int x2)] → J_Mo_isSound_14 post x0 x1 x2 → W p l e rm_Mo_isSound s m args below meth c s.heap [] 0 0 (MQ below (vp_Si post) args s 0 0 (fun _ => False)) (F0 m 14 ls []) := by
    intro x0 x1 x2 ls hl hf
    unfold J_Mo_isSound_14 at hf
    refine lv_iconst (pc := 14) (v := 0) hx hb d_Mo_isSound_14 (by decide) ?_
    exact jn15 x0 x1 x2 (0 : Int32) _ (lv_sub hl [0, 1, 2] rfl) hf
  unfold wp_Mo_isSound at hf
  refine lv_iload_n (pc := 0) hx hb d_Mo_isSound_0 rfl (lv_at hl 1 rfl) ?_
  refine lv_iconst (pc := 1) (v := 1) hx hb d_Mo_isSound_1 (by decide) ?_
  refine lv_icmp_lt (pc := 2) (tgt := 14) hx hb d_Mo_isSound_2 (by decide) (fun hc => ?_) (fun hc => ?_)
  · replace hf := hf.1 hc
    exact jn14 p0 p1 p2 _ (lv_sub hl [0, 1, 2] rfl) hf
  replace hf := hf.2 hc
  refine lv_iload_n (pc := 5) hx hb d_Mo_isSound_5 rfl (lv_at hl 1 rfl) ?_
  refine lv_iconst (pc := 6) (v := 3) hx hb d_Mo_isSound_6 (by decide) ?_
  refine lv_icmp_gt (pc := 7) (tgt := 14) hx hb d_Mo_isSound_7 (by decide) (fun hc => ?_) (fun hc => ?_)
  · replace hf := hf.1 hc
    exact jn14 p0 p1 p2 _ (lv_sub hl [0, 1, 2] rfl) hf
  replace hf := hf.2 hc
  refine lv_iconst (pc := 10) (v := 1) hx hb d_Mo_isSound_10 (by decide) ?_
  refine lv_goto (pc := 11) (tgt := 15) hx hb d_Mo_isSound_11 (by decide) ?_
  exact jn15 p0 p1 p2 (1 : Int32) _ (lv_sub hl [0, 1, 2] rfl) hf
def J_Mo_map_47 (post : GS → Prop) (x1 : Int32) (x2 : Int32) (x3 : Int32) (x4 : Int32) (x5 : Int32) (x6 : Int32) (y1 : Int32) (S : GS) : Prop := (wp_Mo_refused S y1 (fun r47 S47 => ((r47 = (0 : Int32) → (vp_in (((24 : Int32) * x1) + x2) 96 ∧ (vp_in (((24 : Int32) * x1) + x2) 96 ∧ (vp_in (((24 : Int32) * x1) + x2) 96 ∧ (post (gI (gI (gI S47 17 (upd (S47.1 17) ((((24 : Int32) * x1) + x2)).toNatClampNeg x3)) 18 (upd (S47.1 18) ((((24 : Int32) * x1) + x2)).toNatClampNeg x4)) 19 (upd (S47.1 19) ((((24 : Int32) * x1) + x2)).toNatClampNeg x5))))))) ∧ (¬ r47 = (0 : Int32) → (post S47)))))
def J_Mo_map_19 (post : GS → Prop) (x1 : Int32) (x2 : Int32) (x3 : Int32) (x4 : Int32) (x5 : Int32) (y0 : Int32) (S : GS) : Prop := ((y0 = (0 : Int32) → (J_Mo_map_47 post x1 x2 x3 x4 x5 y0 (1 : Int32) S)) ∧ (¬ y0 = (0 : Int32) → (wp_Mo_isSound x3 x4 x5 (fun r36 => ((r36 = (0 : Int32) → (J_Mo_map_47 post x1 x2 x3 x4 x5 y0 (2 : Int32) S)) ∧ (¬ r36 = (0 : Int32) → (J_Mo_map_47 post x1 x2 x3 x4 x5 y0 (0 : Int32) S)))))))
def J_Mo_map_18 (post : GS → Prop) (x1 : Int32) (x2 : Int32) (x3 : Int32) (x4 : Int32) (x5 : Int32) (S : GS) : Prop := (J_Mo_map_19 post x1 x2 x3 x4 x5 (0 : Int32) S)
def wp_Mo_map (S : GS) (p0 : Int32) (p1 : Int32) (p2 : Int32) (p3 : Int32) (p4 : Int32) (post : GS → Prop) : Prop := (wp_Mo_isFour p0 (fun r1 => ((r1 = (0 : Int32) → (J_Mo_map_18 post p0 p1 p2 p3 p4 S)) ∧ (¬ r1 = (0 : Int32) → (wp_Mo_isKey p1 (fun r8 => ((r8 = (0 : Int32) → (J_Mo_map_18 post p0 p1 p2 p3 p4 S)) ∧ (¬ r8 = (0 : Int32) → (J_Mo_map_19 post p0 p1 p2 p3 p4 (1 : Int32) S)))))))))
abbrev rm_Mo_map : Room := { frames := 2, cells := 0, slots := 0, locals := 43 }
set_option maxHeartbeats 4000000 in
set_option maxRecDepth 100000 in
theorem c_Mo_map (l : Launch) (D : va_G) (cI cZ cJ : ClassId) (a : Nat → Nat) (sz : Nat) (S : GS) (p0 : Int32) (p1 : Int32) (p2 : Int32) (p3 : Int32) (p4 : Int32) (post : GS → Prop) (hf : wp_Mo_map S p0 p1 p2 p3 p4 post) : Met l y_Mo_map ws_Mo_map rm_Mo_map (va_Pc [.ref (a 0), .int p0, .int p1, .int p2, .int p3, .int p4] (gPre D (tys cI cZ cJ) (mdW cI cZ cJ a S) sz)) (va_Qv post (gB D (tys cI cZ cJ) (mdW cI cZ cJ a) (va_A (mdW cI cZ cJ a S) sz)) (va_A (mdW cI cZ cJ a S) sz)) 0 0 (va_A (mdW cI cZ cJ a S) sz) := by
  refine gm_w (QF := fun A => va_Qv post (gB D (tys cI cZ cJ) (mdW cI cZ cJ a) A) A) (cc := b_Mo_map) (maxL := 7) (by decide) rfl (Nat.le_of_ble_eq_true rfl) ?_
  intro p e s m args below meth c A ls hx hb hr hts hown hmn hlk hml hK hA hw hl
  have hl : lv_has ls 7 [(0, .ref (a 0)), (1, .int p0), (2, .int p1), (3, .int p2), (4, .int p3), (5, .int p4)] := hl
  have hinMo : ∀ w ∈ u_ws R_Mo T_Mo 30, w ∈ ws_Mo_map := fun w h => List.mem_cons_of_mem _ (tl_Mo w h)
  have hl41 := hts _ (List.mem_cons_of_mem _ tf_Mo_41)
  have hl44 := hts _ (List.mem_cons_of_mem _ tf_Mo_44)
  have hl47 := hts _ (List.mem_cons_of_mem _ tf_Mo_47)
  have jn47 : ∀ (x1 : Int32) (x2 : Int32) (x3 : Int32) (x4 : Int32) (x5 : Int32) (x6 : Int32) (y1 : Int32) (S : GS) (H : Heap) (locs : List Loc) (ls : Array Slot), lv_has ls 7 [(0, .ref (a 0)), (1, .int x1), (2, .int x2), (3, .int x3), (4, .int x4), (5, .int x5), (6, .int x6)] → wf D A s.heap (mdW cI cZ cJ a S) H locs → J_Mo_map_47 post x1 x2 x3 x4 x5 x6 y1 S → W p l e rm_Mo_map s m args below meth c H locs 0 0 (MQ below (va_Qv post (gB D (tys cI cZ cJ) (mdW cI cZ cJ a) A) A) args s 0 0 A) (F0 m 47 ls [.int y1, .ref (a 0)]) := by
    intro x1 x2 x3 x4 x5 x6 y1 S H locs ls hl hw hf
    unfold J_Mo_map_47 at hf
    refine gc_i (pc := 47) (Wf := mdW cI cZ cJ a) hw hA (va_runV (As := [.int y1]) (rest := []) ⟨hx, hb, hml, hown, hts⟩ (c_Mo_refused l D cI cZ cJ a _ _ _ _ hf) (cwV 1 hts (tb_wsV tc_Mo_refused tm_Mo_88 ti_Mo_refused te_Mo_refused tz_Mo) rfl rfl rfl (by decide +kernel) ⟨Nat.le_of_ble_eq_true rfl, Nat.le_of_ble_eq_true rfl⟩) (g_preV (q0 := 0) (ci := 9) hK hw rfl rfl) rfl rfl hl.1 rfl (lv_room (Nat.le_of_ble_eq_true rfl)) d_Mo_map_47 ⟨Nat.zero_le _, Nat.zero_le _⟩) (fun r47 S47 H locs hw hf => ?_)
    refine lv_if_eq (pc := 50) (tgt := 54) hx hb d_Mo_map_50 (by decide) (fun hc => ?_) (fun hc => ?_)
    · replace hf := hf.1 hc
      refine lv_aload_n (pc := 54) hx hb d_Mo_map_54 rfl (lv_at hl 0 rfl) ?_
      refine md_gt_Mo_kinds (pc := 55) hx hb hK hts hinMo hown hw.1 hl41 d_Mo_map_55 ?_
      refine lv_bipush (pc := 58) (v := 24) hx hb d_Mo_map_58 (by decide) ?_
      refine lv_iload_n (pc := 60) hx hb d_Mo_map_60 rfl (lv_at hl 1 rfl) ?_
      refine lv_imul (pc := 61) hx hb d_Mo_map_61 ?_
      refine lv_iload_n (pc := 62) hx hb d_Mo_map_62 rfl (lv_at hl 2 rfl) ?_
      refine lv_iadd (pc := 63) hx hb d_Mo_map_63 ?_
      refine lv_iload_n (pc := 64) hx hb d_Mo_map_64 rfl (lv_at hl 3 rfl) ?_
      refine md_st11 (pc := 65) hx hb hK hw hf.1 d_Mo_map_65 (fun H locs hw => ?_)
      replace hf := hf.2
      refine lv_aload_n (pc := 66) hx hb d_Mo_map_66 rfl (lv_at hl 0 rfl) ?_
      refine md_gt_Mo_firsts (pc := 67) hx hb hK hts hinMo hown hw.1 hl44 d_Mo_map_67 ?_
      refine lv_bipush (pc := 70) (v := 24) hx hb d_Mo_map_70 (by decide) ?_
      refine lv_iload_n (pc := 72) hx hb d_Mo_map_72 rfl (lv_at hl 1 rfl) ?_
      refine lv_imul (pc := 73) hx hb d_Mo_map_73 ?_
      refine lv_iload_n (pc := 74) hx hb d_Mo_map_74 rfl (lv_at hl 2 rfl) ?_
      refine lv_iadd (pc := 75) hx hb d_Mo_map_75 ?_
      refine lv_iload (pc := 76) hx hb d_Mo_map_76 (lv_at hl 4 rfl) ?_
      refine md_st12 (pc := 78) hx hb hK hw hf.1 d_Mo_map_78 (fun H locs hw => ?_)
      replace hf := hf.2
      have hw : wf D A s.heap (mdW cI cZ cJ a (gI (gI S47 17 (upd (S47.1 17) ((((24 : Int32) * x1) + x2)).toNatClampNeg x3)) 18 (upd (S47.1 18) ((((24 : Int32) * x1) + x2)).toNatClampNeg x4))) H locs := hw
      refine lv_aload_n (pc := 79) hx hb d_Mo_map_79 rfl (lv_at hl 0 rfl) ?_
      refine md_gt_Mo_seconds (pc := 80) hx hb hK hts hinMo hown hw.1 hl47 d_Mo_map_80 ?_
      refine lv_bipush (pc := 83) (v := 24) hx hb d_Mo_map_83 (by decide) ?_
      refine lv_iload_n (pc := 85) hx hb d_Mo_map_85 rfl (lv_at hl 1 rfl) ?_
      refine lv_imul (pc := 86) hx hb d_Mo_map_86 ?_
      refine lv_iload_n (pc := 87) hx hb d_Mo_map_87 rfl (lv_at hl 2 rfl) ?_
      refine lv_iadd (pc := 88) hx hb d_Mo_map_88 ?_
      refine lv_iload (pc := 89) hx hb d_Mo_map_89 (lv_at hl 5 rfl) ?_
      refine md_st13 (pc := 91) hx hb hK hw hf.1 d_Mo_map_91 (fun H locs hw => ?_)
      replace hf := hf.2
      have hw : wf D A s.heap (mdW cI cZ cJ a (gI (gI (gI S47 17 (upd (S47.1 17) ((((24 : Int32) * x1) + x2)).toNatClampNeg x3)) 18 (upd (S47.1 18) ((((24 : Int32) * x1) + x2)).toNatClampNeg x4)) 19 (upd (S47.1 19) ((((24 : Int32) * x1) + x2)).toNatClampNeg x5))) H locs := hw
      exact gr_v (pc := 92) hx hb hr hlk hK (gI (gI (gI S47 17 (upd (S47.1 17) ((((24 : Int32) * x1) + x2)).toNatClampNeg x3)) 18 (upd (S47.1 18) ((((24 : Int32) * x1) + x2)).toNatClampNeg x4)) 19 (upd (S47.1 19) ((((24 : Int32) * x1) + x2)).toNatClampNeg x5)) hw hf d_Mo_map_92
    replace hf := hf.2 hc
    exact gr_v (pc := 53) hx hb hr hlk hK S47 hw hf d_Mo_map_53
  have jn19 : ∀ (x1 : Int32) (x2 : Int32) (x3 : Int32) (x4 : Int32) (x5 : Int32) (y0 : Int32) (S : GS) (H : Heap) (locs : List Loc) (ls : Array Slot), lv_has ls 7 [(0, .ref (a 0)), (1, .int x1), (2, .int x2), (3, .int x3), (4, .int x4), (5, .int x5)] → wf D A s.heap (mdW cI cZ cJ a S) H locs → J_Mo_map_19 post x1 x2 x3 x4 x5 y0 S → W p l e rm_Mo_map s m args below meth c H locs 0 0 (MQ below (va_Qv post (gB D (tys cI cZ cJ) (mdW cI cZ cJ a) A) A) args s 0 0 A) (F0 m 19 ls [.int y0]) := by
    intro x1 x2 x3 x4 x5 y0 S H locs ls hl hw hf
    unfold J_Mo_map_19 at hf
    refine lv_istore (pc := 19) (lv' := [(6, .int y0), (0, .ref (a 0)), (1, .int x1), (2, .int x2), (3, .int x3), (4, .int x4), (5, .int x5)]) hx hb d_Mo_map_19 hl (by decide) rfl (fun ls hl => ?_)
    refine lv_aload_n (pc := 21) hx hb d_Mo_map_21 rfl (lv_at hl 1 rfl) ?_
    refine lv_iload (pc := 22) hx hb d_Mo_map_22 (lv_at hl 0 rfl) ?_
    refine lv_if_ne (pc := 24) (tgt := 31) hx hb d_Mo_map_24 (by decide) (fun hc => ?_) (fun hc => ?_)
    · replace hf := hf.2 hc
      refine lv_iload_n (pc := 31) hx hb d_Mo_map_31 rfl (lv_at hl 4 rfl) ?_
      refine lv_iload (pc := 32) hx hb d_Mo_map_32 (lv_at hl 5 rfl) ?_
      refine lv_iload (pc := 34) hx hb d_Mo_map_34 (lv_at hl 6 rfl) ?_
      refine vp_callSi (pc := 36) (W.runS (As := [.int x3, .int x4, .int x5]) (rest := [.ref (a 0)]) ⟨hx, hb, hml, hown, hts⟩ (c_Mo_isSound l _ _ _ _ hf) (cwS 3 hts (tb_wsS tc_Mo_isSound tm_Mo_202 ts_Mo_isSound tz_Mo) rfl rfl rfl (by decide +kernel) ⟨Nat.le_of_ble_eq_true rfl, Nat.le_of_ble_eq_true rfl⟩) p_preS rfl rfl hl.1 rfl (lv_room (Nat.le_of_ble_eq_true rfl)) d_Mo_map_36 ⟨Nat.zero_le _, Nat.zero_le _⟩) (fun r36 hf => ?_)
      refine lv_if_ne (pc := 39) (tgt := 46) hx hb d_Mo_map_39 (by decide) (fun hc => ?_) (fun hc => ?_)
      · replace hf := hf.2 hc
        refine lv_iconst (pc := 46) (v := 0) hx hb d_Mo_map_46 (by decide) ?_
        exact jn47 x1 x2 x3 x4 x5 y0 (0 : Int32) S _ _ _ (lv_sub hl [1, 2, 3, 4, 5, 6, 0] rfl) hw hf
      replace hf := hf.1 hc
      refine lv_iconst (pc := 42) (v := 2) hx hb d_Mo_map_42 (by decide) ?_
      refine lv_goto (pc := 43) (tgt := 47) hx hb d_Mo_map_43 (by decide) ?_
      exact jn47 x1 x2 x3 x4 x5 y0 (2 : Int32) S _ _ _ (lv_sub hl [1, 2, 3, 4, 5, 6, 0] rfl) hw hf
    replace hf := hf.1 hc
    refine lv_iconst (pc := 27) (v := 1) hx hb d_Mo_map_27 (by decide) ?_
    refine lv_goto (pc := 28) (tgt := 47) hx hb d_Mo_map_28 (by decide) ?_
    exact jn47 x1 x2 x3 x4 x5 y0 (1 : Int32) S _ _ _ (lv_sub hl [1, 2, 3, 4, 5, 6, 0] rfl) hw hf
  have jn18 : ∀ (x1 : Int32) (x2 : Int32) (x3 : Int32) (x4 : Int32) (x5 : Int32) (S : GS) (H : Heap) (locs : List Loc) (ls : Array Slot), lv_has ls 7 [(0, .ref (a 0)), (1, .int x1), (2, .int x2), (3, .int x3), (4, .int x4), (5, .int x5)] → wf D A s.heap (mdW cI cZ cJ a S) H locs → J_Mo_map_18 post x1 x2 x3 x4 x5 S → W p l e rm_Mo_map s m args below meth c H locs 0 0 (MQ below (va_Qv post (gB D (tys cI cZ cJ) (mdW cI cZ cJ a) A) A) args s 0 0 A) (F0 m 18 ls []) := by
    intro x1 x2 x3 x4 x5 S H locs ls hl hw hf
    unfold J_Mo_map_18 at hf
    refine lv_iconst (pc := 18) (v := 0) hx hb d_Mo_map_18 (by decide) ?_
    exact jn19 x1 x2 x3 x4 x5 (0 : Int32) S _ _ _ (lv_sub hl [0, 1, 2, 3, 4, 5] rfl) hw hf
  unfold wp_Mo_map at hf
  refine lv_iload_n (pc := 0) hx hb d_Mo_map_0 rfl (lv_at hl 1 rfl) ?_
  refine vp_callSi (pc := 1) (W.runS (As := [.int p0]) (rest := []) ⟨hx, hb, hml, hown, hts⟩ (c_Mo_isFour l _ _ hf) (cwS 1 hts (tb_wsS tc_Mo_isFour tm_Mo_199 ts_Mo_isFour tz_Mo) rfl rfl rfl (by decide +kernel) ⟨Nat.le_of_ble_eq_true rfl, Nat.le_of_ble_eq_true rfl⟩) p_preS rfl rfl hl.1 rfl (lv_room (Nat.le_of_ble_eq_true rfl)) d_Mo_map_1 ⟨Nat.zero_le _, Nat.zero_le _⟩) (fun r1 hf => ?_)
  refine lv_if_eq (pc := 4) (tgt := 18) hx hb d_Mo_map_4 (by decide) (fun hc => ?_) (fun hc => ?_)
  · replace hf := hf.1 hc
    exact jn18 p0 p1 p2 p3 p4 S _ _ _ (lv_sub hl [0, 1, 2, 3, 4, 5] rfl) hw hf
  replace hf := hf.2 hc
  refine lv_iload_n (pc := 7) hx hb d_Mo_map_7 rfl (lv_at hl 2 rfl) ?_
  refine vp_callSi (pc := 8) (W.runS (As := [.int p1]) (rest := []) ⟨hx, hb, hml, hown, hts⟩ (c_Mo_isKey l _ _ hf) (cwS 1 hts (tb_wsS tc_Mo_isKey tm_Mo_84 ts_Mo_isKey tz_Mo) rfl rfl rfl (by decide +kernel) ⟨Nat.le_of_ble_eq_true rfl, Nat.le_of_ble_eq_true rfl⟩) p_preS rfl rfl hl.1 rfl (lv_room (Nat.le_of_ble_eq_true rfl)) d_Mo_map_8 ⟨Nat.zero_le _, Nat.zero_le _⟩) (fun r8 hf => ?_)
  refine lv_if_eq (pc := 11) (tgt := 18) hx hb d_Mo_map_11 (by decide) (fun hc => ?_) (fun hc => ?_)
  · replace hf := hf.1 hc
    exact jn18 p0 p1 p2 p3 p4 S _ _ _ (lv_sub hl [0, 1, 2, 3, 4, 5] rfl) hw hf
  replace hf := hf.2 hc
  refine lv_iconst (pc := 14) (v := 1) hx hb d_Mo_map_14 (by decide) ?_
  refine lv_goto (pc := 15) (tgt := 19) hx hb d_Mo_map_15 (by decide) ?_
  exact jn19 p0 p1 p2 p3 p4 (1 : Int32) S _ _ _ (lv_sub hl [0, 1, 2, 3, 4, 5] rfl) hw hf
def J_Mo_macro_35 (post : GS → Prop) (x1 : Int32) (x2 : Int32) (x3 : Int32) (y1 : Int32) (S : GS) : Prop := (wp_Mo_refused S y1 (fun r35 S35 => ((r35 = (0 : Int32) → (vp_in (((4 : Int32) * x1) + x2) 16 ∧ (post (gI S35 20 (upd (S35.1 20) ((((4 : Int32) * x1) + x2)).toNatClampNeg x3))))) ∧ (¬ r35 = (0 : Int32) → (post S35)))))
def J_Mo_macro_34 (post : GS → Prop) (x1 : Int32) (x2 : Int32) (x3 : Int32) (S : GS) : Prop := (J_Mo_macro_35 post x1 x2 x3 (0 : Int32) S)
def J_Mo_macro_15 (post : GS → Prop) (x1 : Int32) (x2 : Int32) (x3 : Int32) (S : GS) : Prop := (J_Mo_macro_35 post x1 x2 x3 (1 : Int32) S)
def wp_Mo_macro (S : GS) (p0 : Int32) (p1 : Int32) (p2 : Int32) (post : GS → Prop) : Prop := (wp_Mo_isFour p0 (fun r2 => ((r2 = (0 : Int32) → (J_Mo_macro_15 post p0 p1 p2 S)) ∧ (¬ r2 = (0 : Int32) → (wp_Mo_isFour p1 (fun r9 => ((r9 = (0 : Int32) → (J_Mo_macro_15 post p0 p1 p2 S)) ∧ (¬ r9 = (0 : Int32) → ((p2 = (0 : Int32) → (J_Mo_macro_34 post p0 p1 p2 S)) ∧ (¬ p2 = (0 : Int32) → (wp_Mo_isCode p2 (fun r24 => ((r24 = (0 : Int32) → (J_Mo_macro_35 post p0 p1 p2 (2 : Int32) S)) ∧ (¬ r24 = (0 : Int32) → (J_Mo_macro_34 post p0 p1 p2 S)))))))))))))))
abbrev rm_Mo_macro : Room := { frames := 1, cells := 0, slots := 0, locals := 21 }
set_option maxHeartbeats 4000000 in
set_option maxRecDepth 100000 in
theorem c_Mo_macro (l : Launch) (D : va_G) (cI cZ cJ : ClassId) (a : Nat → Nat) (sz : Nat) (S : GS) (p0 : Int32) (p1 : Int32) (p2 : Int32) (post : GS → Prop) (hf : wp_Mo_macro S p0 p1 p2 post) : Met l y_Mo_macro ws_Mo_macro rm_Mo_macro (va_Pc [.ref (a 0), .int p0, .int p1, .int p2] (gPre D (tys cI cZ cJ) (mdW cI cZ cJ a S) sz)) (va_Qv post (gB D (tys cI cZ cJ) (mdW cI cZ cJ a) (va_A (mdW cI cZ cJ a S) sz)) (va_A (mdW cI cZ cJ a S) sz)) 0 0 (va_A (mdW cI cZ cJ a S) sz) := by
  refine gm_w (QF := fun A => va_Qv post (gB D (tys cI cZ cJ) (mdW cI cZ cJ a) A) A) (cc := b_Mo_macro) (maxL := 4) (by decide) rfl (Nat.le_of_ble_eq_true rfl) ?_
  intro p e s m args below meth c A ls hx hb hr hts hown hmn hlk hml hK hA hw hl
  have hl : lv_has ls 4 [(0, .ref (a 0)), (1, .int p0), (2, .int p1), (3, .int p2)] := hl
  have hinMo : ∀ w ∈ u_ws R_Mo T_Mo 30, w ∈ ws_Mo_macro := fun w h => List.mem_cons_of_mem _ (tl_Mo w h)
  have hl50 := hts _ (List.mem_cons_of_mem _ tf_Mo_50)
  have jn35 : ∀ (x1 : Int32) (x2 : Int32) (x3 : Int32) (y1 : Int32) (S : GS) (H : Heap) (locs : List Loc) (ls : Array Slot), lv_has ls 4 [(0, .ref (a 0)), (1, .int x1), (2, .int x2), (3, .int x3)] → wf D A s.heap (mdW cI cZ cJ a S) H locs → J_Mo_macro_35 post x1 x2 x3 y1 S → W p l e rm_Mo_macro s m args below meth c H locs 0 0 (MQ below (va_Qv post (gB D (tys cI cZ cJ) (mdW cI cZ cJ a) A) A) args s 0 0 A) (F0 m 35 ls [.int y1, .ref (a 0)]) := by
    intro x1 x2 x3 y1 S H locs ls hl hw hf
    unfold J_Mo_macro_35 at hf
    refine gc_i (pc := 35) (Wf := mdW cI cZ cJ a) hw hA (va_runV (As := [.int y1]) (rest := []) ⟨hx, hb, hml, hown, hts⟩ (c_Mo_refused l D cI cZ cJ a _ _ _ _ hf) (cwV 1 hts (tb_wsV tc_Mo_refused tm_Mo_88 ti_Mo_refused te_Mo_refused tz_Mo) rfl rfl rfl (by decide +kernel) ⟨Nat.le_of_ble_eq_true rfl, Nat.le_of_ble_eq_true rfl⟩) (g_preV (q0 := 0) (ci := 9) hK hw rfl rfl) rfl rfl hl.1 rfl (lv_room (Nat.le_of_ble_eq_true rfl)) d_Mo_macro_35 ⟨Nat.zero_le _, Nat.zero_le _⟩) (fun r35 S35 H locs hw hf => ?_)
    refine lv_if_ne (pc := 38) (tgt := 52) hx hb d_Mo_macro_38 (by decide) (fun hc => ?_) (fun hc => ?_)
    · replace hf := hf.2 hc
      exact gr_v (pc := 52) hx hb hr hlk hK S35 hw hf d_Mo_macro_52
    replace hf := hf.1 hc
    refine lv_aload_n (pc := 41) hx hb d_Mo_macro_41 rfl (lv_at hl 0 rfl) ?_
    refine md_gt_Mo_macros (pc := 42) hx hb hK hts hinMo hown hw.1 hl50 d_Mo_macro_42 ?_
    refine lv_iconst (pc := 45) (v := 4) hx hb d_Mo_macro_45 (by decide) ?_
    refine lv_iload_n (pc := 46) hx hb d_Mo_macro_46 rfl (lv_at hl 1 rfl) ?_
    refine lv_imul (pc := 47) hx hb d_Mo_macro_47 ?_
    refine lv_iload_n (pc := 48) hx hb d_Mo_macro_48 rfl (lv_at hl 2 rfl) ?_
    refine lv_iadd (pc := 49) hx hb d_Mo_macro_49 ?_
    refine lv_iload_n (pc := 50) hx hb d_Mo_macro_50 rfl (lv_at hl 3 rfl) ?_
    refine md_st14 (pc := 51) hx hb hK hw hf.1 d_Mo_macro_51 (fun H locs hw => ?_)
    replace hf := hf.2
    exact gr_v (pc := 52) hx hb hr hlk hK (gI S35 20 (upd (S35.1 20) ((((4 : Int32) * x1) + x2)).toNatClampNeg x3)) hw hf d_Mo_macro_52
  have jn34 : ∀ (x1 : Int32) (x2 : Int32) (x3 : Int32) (S : GS) (H : Heap) (locs : List Loc) (ls : Array Slot), lv_has ls 4 [(0, .ref (a 0)), (1, .int x1), (2, .int x2), (3, .int x3)] → wf D A s.heap (mdW cI cZ cJ a S) H locs → J_Mo_macro_34 post x1 x2 x3 S → W p l e rm_Mo_macro s m args below meth c H locs 0 0 (MQ below (va_Qv post (gB D (tys cI cZ cJ) (mdW cI cZ cJ a) A) A) args s 0 0 A) (F0 m 34 ls [.ref (a 0)]) := by
    intro x1 x2 x3 S H locs ls hl hw hf
    unfold J_Mo_macro_34 at hf
    refine lv_iconst (pc := 34) (v := 0) hx hb d_Mo_macro_34 (by decide) ?_
    exact jn35 x1 x2 x3 (0 : Int32) S _ _ _ (lv_sub hl [0, 1, 2, 3] rfl) hw hf
  have jn15 : ∀ (x1 : Int32) (x2 : Int32) (x3 : Int32) (S : GS) (H : Heap) (locs : List Loc) (ls : Array Slot), lv_has ls 4 [(0, .ref (a 0)), (1, .int x1), (2, .int x2), (3, .int x3)] → wf D A s.heap (mdW cI cZ cJ a S) H locs → J_Mo_macro_15 post x1 x2 x3 S → W p l e rm_Mo_macro s m args below meth c H locs 0 0 (MQ below (va_Qv post (gB D (tys cI cZ cJ) (mdW cI cZ cJ a) A) A) args s 0 0 A) (F0 m 15 ls [.ref (a 0)]) := by
    intro x1 x2 x3 S H locs ls hl hw hf
    unfold J_Mo_macro_15 at hf
    refine lv_iconst (pc := 15) (v := 1) hx hb d_Mo_macro_15 (by decide) ?_
    refine lv_goto (pc := 16) (tgt := 35) hx hb d_Mo_macro_16 (by decide) ?_
    exact jn35 x1 x2 x3 (1 : Int32) S _ _ _ (lv_sub hl [0, 1, 2, 3] rfl) hw hf
  unfold wp_Mo_macro at hf
  refine lv_aload_n (pc := 0) hx hb d_Mo_macro_0 rfl (lv_at hl 0 rfl) ?_
  refine lv_iload_n (pc := 1) hx hb d_Mo_macro_1 rfl (lv_at hl 1 rfl) ?_
  refine vp_callSi (pc := 2) (W.runS (As := [.int p0]) (rest := [.ref (a 0)]) ⟨hx, hb, hml, hown, hts⟩ (c_Mo_isFour l _ _ hf) (cwS 1 hts (tb_wsS tc_Mo_isFour tm_Mo_199 ts_Mo_isFour tz_Mo) rfl rfl rfl (by decide +kernel) ⟨Nat.le_of_ble_eq_true rfl, Nat.le_of_ble_eq_true rfl⟩) p_preS rfl rfl hl.1 rfl (lv_room (Nat.le_of_ble_eq_true rfl)) d_Mo_macro_2 ⟨Nat.zero_le _, Nat.zero_le _⟩) (fun r2 hf => ?_)
  refine lv_if_eq (pc := 5) (tgt := 15) hx hb d_Mo_macro_5 (by decide) (fun hc => ?_) (fun hc => ?_)
  · replace hf := hf.1 hc
    exact jn15 p0 p1 p2 S _ _ _ (lv_sub hl [0, 1, 2, 3] rfl) hw hf
  replace hf := hf.2 hc
  refine lv_iload_n (pc := 8) hx hb d_Mo_macro_8 rfl (lv_at hl 2 rfl) ?_
  refine vp_callSi (pc := 9) (W.runS (As := [.int p1]) (rest := [.ref (a 0)]) ⟨hx, hb, hml, hown, hts⟩ (c_Mo_isFour l _ _ hf) (cwS 1 hts (tb_wsS tc_Mo_isFour tm_Mo_199 ts_Mo_isFour tz_Mo) rfl rfl rfl (by decide +kernel) ⟨Nat.le_of_ble_eq_true rfl, Nat.le_of_ble_eq_true rfl⟩) p_preS rfl rfl hl.1 rfl (lv_room (Nat.le_of_ble_eq_true rfl)) d_Mo_macro_9 ⟨Nat.zero_le _, Nat.zero_le _⟩) (fun r9 hf => ?_)
  refine lv_if_ne (pc := 12) (tgt := 19) hx hb d_Mo_macro_12 (by decide) (fun hc => ?_) (fun hc => ?_)
  · replace hf := hf.2 hc
    refine lv_iload_n (pc := 19) hx hb d_Mo_macro_19 rfl (lv_at hl 3 rfl) ?_
    refine lv_if_eq (pc := 20) (tgt := 34) hx hb d_Mo_macro_20 (by decide) (fun hc => ?_) (fun hc => ?_)
    · replace hf := hf.1 hc
      exact jn34 p0 p1 p2 S _ _ _ (lv_sub hl [0, 1, 2, 3] rfl) hw hf
    replace hf := hf.2 hc
    refine lv_iload_n (pc := 23) hx hb d_Mo_macro_23 rfl (lv_at hl 3 rfl) ?_
    refine vp_callSi (pc := 24) (W.runS (As := [.int p2]) (rest := [.ref (a 0)]) ⟨hx, hb, hml, hown, hts⟩ (c_Mo_isCode l _ _ hf) (cwS 1 hts (tb_wsS tc_Mo_isCode tm_Mo_196 ts_Mo_isCode tz_Mo) rfl rfl rfl (by decide +kernel) ⟨Nat.le_of_ble_eq_true rfl, Nat.le_of_ble_eq_true rfl⟩) p_preS rfl rfl hl.1 rfl (lv_room (Nat.le_of_ble_eq_true rfl)) d_Mo_macro_24 ⟨Nat.zero_le _, Nat.zero_le _⟩) (fun r24 hf => ?_)
    refine lv_if_ne (pc := 27) (tgt := 34) hx hb d_Mo_macro_27 (by decide) (fun hc => ?_) (fun hc => ?_)
    · replace hf := hf.2 hc
      exact jn34 p0 p1 p2 S _ _ _ (lv_sub hl [0, 1, 2, 3] rfl) hw hf
    replace hf := hf.1 hc
    refine lv_iconst (pc := 30) (v := 2) hx hb d_Mo_macro_30 (by decide) ?_
    refine lv_goto (pc := 31) (tgt := 35) hx hb d_Mo_macro_31 (by decide) ?_
    exact jn35 p0 p1 p2 (2 : Int32) S _ _ _ (lv_sub hl [0, 1, 2, 3] rfl) hw hf
  replace hf := hf.1 hc
  exact jn15 p0 p1 p2 S _ _ _ (lv_sub hl [0, 1, 2, 3] rfl) hw hf
def J_Mo_chord_128 (post : GS → Prop) (x1 : Int32) (x2 : Int32) (x3 : Int32) (x4 : Int32) (x5 : Int32) (x6 : Int32) (x7 : Int32) (y1 : Int32) (S : GS) : Prop := (wp_Mo_refused S y1 (fun r128 S128 => ((r128 = (0 : Int32) → (vp_in x1 4 ∧ (vp_in x1 4 ∧ (post (gI (gI S128 21 (upd (S128.1 21) (x1).toNatClampNeg x2)) 22 (upd (S128.1 22) (x1).toNatClampNeg x3)))))) ∧ (¬ r128 = (0 : Int32) → (post S128)))))
def J_Mo_chord_84 (post : GS → Prop) (k52 : Int32 → Int32 → Int32 → Int32 → Int32 → Int32 → Int32 → GS → Prop) (x1 : Int32) (x2 : Int32) (x3 : Int32) (x4 : Int32) (x5 : Int32) (x6 : Int32) (x7 : Int32) (S : GS) : Prop := (k52 x1 x2 x3 x4 x5 (1 : Int32) (x7 + (1 : Int32)) S)
def L_Mo_chord_52 (post : GS → Prop) : Nat → Int32 → Int32 → Int32 → Int32 → Int32 → Int32 → Int32 → GS → Prop
  | 0, _, _, _, _, _, _, _, _ => False
  | n52 + 1, x1, x2, x3, x4, x5, x6, x7, S => (((4 : Int32) ≤ x7 → (wp_Mo_isFour x1 (fun r99 => ((r99 = (0 : Int32) → (J_Mo_chord_128 post x1 x2 x3 x4 x5 x6 x7 (1 : Int32) S)) ∧ (¬ r99 = (0 : Int32) → ((x5 = (0 : Int32) → (J_Mo_chord_128 post x1 x2 x3 x4 x5 x6 x7 (2 : Int32) S)) ∧ (¬ x5 = (0 : Int32) → ((x6 = (0 : Int32) → (J_Mo_chord_128 post x1 x2 x3 x4 x5 x6 x7 (0 : Int32) S)) ∧ (¬ x6 = (0 : Int32) → (J_Mo_chord_128 post x1 x2 x3 x4 x5 x6 x7 (3 : Int32) S)))))))))) ∧ (¬ (4 : Int32) ≤ x7 → ((x6 = (0 : Int32) → ((x2 = (0 : Int32) → (L_Mo_chord_52 post n52 x1 x2 x3 x4 x5 (0 : Int32) (x7 + (1 : Int32)) S)) ∧ (¬ x2 = (0 : Int32) → ((x7 = x1 → (L_Mo_chord_52 post n52 x1 x2 x3 x4 x5 (0 : Int32) (x7 + (1 : Int32)) S)) ∧ (¬ x7 = x1 → (vp_in x7 4 ∧ ((((S.1 21) x7.toNatClampNeg) = x2 → (J_Mo_chord_84 post (fun z0 z1 z2 z3 z4 z5 z6 z7 => L_Mo_chord_52 post n52 z0 z1 z2 z3 z4 z5 z6 z7) x1 x2 x3 x4 x5 x6 x7 S)) ∧ (¬ ((S.1 21) x7.toNatClampNeg) = x2 → (L_Mo_chord_52 post n52 x1 x2 x3 x4 x5 (0 : Int32) (x7 + (1 : Int32)) S))))))))) ∧ (¬ x6 = (0 : Int32) → (J_Mo_chord_84 post (fun z0 z1 z2 z3 z4 z5 z6 z7 => L_Mo_chord_52 post n52 z0 z1 z2 z3 z4 z5 z6 z7) x1 x2 x3 x4 x5 x6 x7 S)))))
def J_Mo_chord_44 (post : GS → Prop) (x1 : Int32) (x2 : Int32) (x3 : Int32) (x4 : Int32) (y0 : Int32) (S : GS) : Prop := (∃ q52, L_Mo_chord_52 post q52 x1 x2 x3 x4 y0 (0 : Int32) (0 : Int32) S)
def J_Mo_chord_43 (post : GS → Prop) (x1 : Int32) (x2 : Int32) (x3 : Int32) (x4 : Int32) (S : GS) : Prop := (J_Mo_chord_44 post x1 x2 x3 x4 (0 : Int32) S)
def J_Mo_chord_39 (post : GS → Prop) (x1 : Int32) (x2 : Int32) (x3 : Int32) (x4 : Int32) (S : GS) : Prop := (J_Mo_chord_44 post x1 x2 x3 x4 (1 : Int32) S)
def wp_Mo_chord (S : GS) (p0 : Int32) (p1 : Int32) (p2 : Int32) (post : GS → Prop) : Prop := (wp_Mo_bitsOf p1 (fun r1 => ((p1 = (0 : Int32) → (J_Mo_chord_39 post p0 p1 p2 r1 S)) ∧ (¬ p1 = (0 : Int32) → ((p1 ≤ (0 : Int32) → (J_Mo_chord_43 post p0 p1 p2 r1 S)) ∧ (¬ p1 ≤ (0 : Int32) → (((16777216 : Int32) ≤ p1 → (J_Mo_chord_43 post p0 p1 p2 r1 S)) ∧ (¬ (16777216 : Int32) ≤ p1 → ((r1 ≤ (1 : Int32) → (J_Mo_chord_43 post p0 p1 p2 r1 S)) ∧ (¬ r1 ≤ (1 : Int32) → (((5 : Int32) ≤ r1 → (J_Mo_chord_43 post p0 p1 p2 r1 S)) ∧ (¬ (5 : Int32) ≤ r1 → (wp_Mo_isCode p2 (fun r33 => ((r33 = (0 : Int32) → (J_Mo_chord_43 post p0 p1 p2 r1 S)) ∧ (¬ r33 = (0 : Int32) → (J_Mo_chord_39 post p0 p1 p2 r1 S)))))))))))))))))
abbrev rm_Mo_chord : Room := { frames := 1, cells := 0, slots := 0, locals := 22 }
set_option maxHeartbeats 4000000 in
set_option maxRecDepth 100000 in
theorem c_Mo_chord (l : Launch) (D : va_G) (cI cZ cJ : ClassId) (a : Nat → Nat) (sz : Nat) (S : GS) (p0 : Int32) (p1 : Int32) (p2 : Int32) (post : GS → Prop) (hf : wp_Mo_chord S p0 p1 p2 post) : Met l y_Mo_chord ws_Mo_chord rm_Mo_chord (va_Pc [.ref (a 0), .int p0, .int p1, .int p2] (gPre D (tys cI cZ cJ) (mdW cI cZ cJ a S) sz)) (va_Qv post (gB D (tys cI cZ cJ) (mdW cI cZ cJ a) (va_A (mdW cI cZ cJ a S) sz)) (va_A (mdW cI cZ cJ a S) sz)) 0 0 (va_A (mdW cI cZ cJ a S) sz) := by
  refine gm_w (QF := fun A => va_Qv post (gB D (tys cI cZ cJ) (mdW cI cZ cJ a) A) A) (cc := b_Mo_chord) (maxL := 8) (by decide) rfl (Nat.le_of_ble_eq_true rfl) ?_
  intro p e s m args below meth c A ls hx hb hr hts hown hmn hlk hml hK hA hw hl
  have hl : lv_has ls 8 [(0, .ref (a 0)), (1, .int p0), (2, .int p1), (3, .int p2)] := hl
  have hinMo : ∀ w ∈ u_ws R_Mo T_Mo 30, w ∈ ws_Mo_chord := fun w h => List.mem_cons_of_mem _ (tl_Mo w h)
  have hl53 := hts _ (List.mem_cons_of_mem _ tf_Mo_53)
  have hl56 := hts _ (List.mem_cons_of_mem _ tf_Mo_56)
  have jn128 : ∀ (x1 : Int32) (x2 : Int32) (x3 : Int32) (x4 : Int32) (x5 : Int32) (x6 : Int32) (x7 : Int32) (y1 : Int32) (S : GS) (H : Heap) (locs : List Loc) (ls : Array Slot), lv_has ls 8 [(0, .ref (a 0)), (1, .int x1), (2, .int x2), (3, .int x3), (4, .int x4), (5, .int x5), (6, .int x6), (7, .int x7)] → wf D A s.heap (mdW cI cZ cJ a S) H locs → J_Mo_chord_128 post x1 x2 x3 x4 x5 x6 x7 y1 S → W p l e rm_Mo_chord s m args below meth c H locs 0 0 (MQ below (va_Qv post (gB D (tys cI cZ cJ) (mdW cI cZ cJ a) A) A) args s 0 0 A) (F0 m 128 ls [.int y1, .ref (a 0)]) := by
    intro x1 x2 x3 x4 x5 x6 x7 y1 S H locs ls hl hw hf
    unfold J_Mo_chord_128 at hf
    refine gc_i (pc := 128) (Wf := mdW cI cZ cJ a) hw hA (va_runV (As := [.int y1]) (rest := []) ⟨hx, hb, hml, hown, hts⟩ (c_Mo_refused l D cI cZ cJ a _ _ _ _ hf) (cwV 1 hts (tb_wsV tc_Mo_refused tm_Mo_88 ti_Mo_refused te_Mo_refused tz_Mo) rfl rfl rfl (by decide +kernel) ⟨Nat.le_of_ble_eq_true rfl, Nat.le_of_ble_eq_true rfl⟩) (g_preV (q0 := 0) (ci := 9) hK hw rfl rfl) rfl rfl hl.1 rfl (lv_room (Nat.le_of_ble_eq_true rfl)) d_Mo_chord_128 ⟨Nat.zero_le _, Nat.zero_le _⟩) (fun r128 S128 H locs hw hf => ?_)
    refine lv_if_ne (pc := 131) (tgt := 148) hx hb d_Mo_chord_131 (by decide) (fun hc => ?_) (fun hc => ?_)
    · replace hf := hf.2 hc
      exact gr_v (pc := 148) hx hb hr hlk hK S128 hw hf d_Mo_chord_148
    replace hf := hf.1 hc
    refine lv_aload_n (pc := 134) hx hb d_Mo_chord_134 rfl (lv_at hl 0 rfl) ?_
    refine md_gt_Mo_chordKeys (pc := 135) hx hb hK hts hinMo hown hw.1 hl53 d_Mo_chord_135 ?_
    refine lv_iload_n (pc := 138) hx hb d_Mo_chord_138 rfl (lv_at hl 1 rfl) ?_
    refine lv_iload_n (pc := 139) hx hb d_Mo_chord_139 rfl (lv_at hl 2 rfl) ?_
    refine md_st15 (pc := 140) hx hb hK hw hf.1 d_Mo_chord_140 (fun H locs hw => ?_)
    replace hf := hf.2
    refine lv_aload_n (pc := 141) hx hb d_Mo_chord_141 rfl (lv_at hl 0 rfl) ?_
    refine md_gt_Mo_chordCodes (pc := 142) hx hb hK hts hinMo hown hw.1 hl56 d_Mo_chord_142 ?_
    refine lv_iload_n (pc := 145) hx hb d_Mo_chord_145 rfl (lv_at hl 1 rfl) ?_
    refine lv_iload_n (pc := 146) hx hb d_Mo_chord_146 rfl (lv_at hl 3 rfl) ?_
    refine md_st16 (pc := 147) hx hb hK hw hf.1 d_Mo_chord_147 (fun H locs hw => ?_)
    replace hf := hf.2
    have hw : wf D A s.heap (mdW cI cZ cJ a (gI (gI S128 21 (upd (S128.1 21) (x1).toNatClampNeg x2)) 22 (upd (S128.1 22) (x1).toNatClampNeg x3))) H locs := hw
    exact gr_v (pc := 148) hx hb hr hlk hK (gI (gI S128 21 (upd (S128.1 21) (x1).toNatClampNeg x2)) 22 (upd (S128.1 22) (x1).toNatClampNeg x3)) hw hf d_Mo_chord_148
  have jn44 : ∀ (x1 : Int32) (x2 : Int32) (x3 : Int32) (x4 : Int32) (y0 : Int32) (S : GS) (H : Heap) (locs : List Loc) (ls : Array Slot), lv_has ls 8 [(0, .ref (a 0)), (1, .int x1), (2, .int x2), (3, .int x3), (4, .int x4)] → wf D A s.heap (mdW cI cZ cJ a S) H locs → J_Mo_chord_44 post x1 x2 x3 x4 y0 S → W p l e rm_Mo_chord s m args below meth c H locs 0 0 (MQ below (va_Qv post (gB D (tys cI cZ cJ) (mdW cI cZ cJ a) A) A) args s 0 0 A) (F0 m 44 ls [.int y0]) := by
    intro x1 x2 x3 x4 y0 S H locs ls hl hw hf
    unfold J_Mo_chord_44 at hf
    refine lv_istore (pc := 44) (lv' := [(5, .int y0), (0, .ref (a 0)), (1, .int x1), (2, .int x2), (3, .int x3), (4, .int x4)]) hx hb d_Mo_chord_44 hl (by decide) rfl (fun ls hl => ?_)
    refine lv_iconst (pc := 46) (v := 0) hx hb d_Mo_chord_46 (by decide) ?_
    refine lv_istore (pc := 47) (lv' := [(6, .int (0 : Int32)), (5, .int y0), (0, .ref (a 0)), (1, .int x1), (2, .int x2), (3, .int x3), (4, .int x4)]) hx hb d_Mo_chord_47 hl (by decide) rfl (fun ls hl => ?_)
    refine lv_iconst (pc := 49) (v := 0) hx hb d_Mo_chord_49 (by decide) ?_
    refine lv_istore (pc := 50) (lv' := [(7, .int (0 : Int32)), (6, .int (0 : Int32)), (5, .int y0), (0, .ref (a 0)), (1, .int x1), (2, .int x2), (3, .int x3), (4, .int x4)]) hx hb d_Mo_chord_50 hl (by decide) rfl (fun ls hl => ?_)
    obtain ⟨q52, hf⟩ := hf
    have lp52 : ∀ (n52 : Nat) (x1 : Int32) (x2 : Int32) (x3 : Int32) (x4 : Int32) (x5 : Int32) (x6 : Int32) (x7 : Int32) (S : GS) (H : Heap) (locs : List Loc) (ls : Array Slot), lv_has ls 8 [(0, .ref (a 0)), (1, .int x1), (2, .int x2), (3, .int x3), (4, .int x4), (5, .int x5), (6, .int x6), (7, .int x7)] → wf D A s.heap (mdW cI cZ cJ a S) H locs → L_Mo_chord_52 post n52 x1 x2 x3 x4 x5 x6 x7 S → W p l e rm_Mo_chord s m args below meth c H locs 0 0 (MQ below (va_Qv post (gB D (tys cI cZ cJ) (mdW cI cZ cJ a) A) A) args s 0 0 A) (F0 m 52 ls []) := by
      intro n52
      induction n52 with
      | zero => intro x1 x2 x3 x4 x5 x6 x7 S H locs ls hl hw hf; exact False.elim hf
      | succ n52 ih52 =>
        have jn84 : ∀ (x1 : Int32) (x2 : Int32) (x3 : Int32) (x4 : Int32) (x5 : Int32) (x6 : Int32) (x7 : Int32) (S : GS) (H : Heap) (locs : List Loc) (ls : Array Slot), lv_has ls 8 [(0, .ref (a 0)), (1, .int x1), (2, .int x2), (3, .int x3), (4, .int x4), (5, .int x5), (6, .int x6), (7, .int x7)] → wf D A s.heap (mdW cI cZ cJ a S) H locs → J_Mo_chord_84 post (fun z0 z1 z2 z3 z4 z5 z6 z7 => L_Mo_chord_52 post n52 z0 z1 z2 z3 z4 z5 z6 z7) x1 x2 x3 x4 x5 x6 x7 S → W p l e rm_Mo_chord s m args below meth c H locs 0 0 (MQ below (va_Qv post (gB D (tys cI cZ cJ) (mdW cI cZ cJ a) A) A) args s 0 0 A) (F0 m 84 ls []) := by
          intro x1 x2 x3 x4 x5 x6 x7 S H locs ls hl hw hf
          unfold J_Mo_chord_84 at hf
          refine lv_iconst (pc := 84) (v := 1) hx hb d_Mo_chord_84 (by decide) ?_
          refine lv_goto (pc := 85) (tgt := 89) hx hb d_Mo_chord_85 (by decide) ?_
          refine lv_istore (pc := 89) (lv' := [(6, .int (1 : Int32)), (0, .ref (a 0)), (1, .int x1), (2, .int x2), (3, .int x3), (4, .int x4), (5, .int x5), (7, .int x7)]) hx hb d_Mo_chord_89 hl (by decide) rfl (fun ls hl => ?_)
          refine lv_iinc (pc := 91) (k := 7) (v := (x7 + (1 : Int32))) (lv' := [(7, .int (x7 + (1 : Int32))), (6, .int (1 : Int32)), (0, .ref (a 0)), (1, .int x1), (2, .int x2), (3, .int x3), (4, .int x4), (5, .int x5)]) hx hb d_Mo_chord_91 hl rfl rfl (by decide) rfl (fun ls hl => ?_)
          refine lv_goto (pc := 94) (tgt := 52) hx hb d_Mo_chord_94 (by decide) ?_
          exact ih52 x1 x2 x3 x4 x5 (1 : Int32) (x7 + (1 : Int32)) S _ _ _ (lv_sub hl [2, 3, 4, 5, 6, 7, 1, 0] rfl) hw hf
        intro x1 x2 x3 x4 x5 x6 x7 S H locs ls hl hw hf
        unfold L_Mo_chord_52 at hf
        refine lv_iload (pc := 52) hx hb d_Mo_chord_52 (lv_at hl 7 rfl) ?_
        refine lv_iconst (pc := 54) (v := 4) hx hb d_Mo_chord_54 (by decide) ?_
        refine lv_icmp_ge (pc := 55) (tgt := 97) hx hb d_Mo_chord_55 (by decide) (fun hc => ?_) (fun hc => ?_)
        · replace hf := hf.1 hc
          refine lv_aload_n (pc := 97) hx hb d_Mo_chord_97 rfl (lv_at hl 0 rfl) ?_
          refine lv_iload_n (pc := 98) hx hb d_Mo_chord_98 rfl (lv_at hl 1 rfl) ?_
          refine vp_callSi (pc := 99) (W.runS (As := [.int x1]) (rest := [.ref (a 0)]) ⟨hx, hb, hml, hown, hts⟩ (c_Mo_isFour l _ _ hf) (cwS 1 hts (tb_wsS tc_Mo_isFour tm_Mo_199 ts_Mo_isFour tz_Mo) rfl rfl rfl (by decide +kernel) ⟨Nat.le_of_ble_eq_true rfl, Nat.le_of_ble_eq_true rfl⟩) p_preS rfl rfl hl.1 rfl (lv_room (Nat.le_of_ble_eq_true rfl)) d_Mo_chord_99 ⟨Nat.zero_le _, Nat.zero_le _⟩) (fun r99 hf => ?_)
          refine lv_if_ne (pc := 102) (tgt := 109) hx hb d_Mo_chord_102 (by decide) (fun hc => ?_) (fun hc => ?_)
          · replace hf := hf.2 hc
            refine lv_iload (pc := 109) hx hb d_Mo_chord_109 (lv_at hl 5 rfl) ?_
            refine lv_if_ne (pc := 111) (tgt := 118) hx hb d_Mo_chord_111 (by decide) (fun hc => ?_) (fun hc => ?_)
            · replace hf := hf.2 hc
              refine lv_iload (pc := 118) hx hb d_Mo_chord_118 (lv_at hl 6 rfl) ?_
              refine lv_if_eq (pc := 120) (tgt := 127) hx hb d_Mo_chord_120 (by decide) (fun hc => ?_) (fun hc => ?_)
              · replace hf := hf.1 hc
                refine lv_iconst (pc := 127) (v := 0) hx hb d_Mo_chord_127 (by decide) ?_
                exact jn128 x1 x2 x3 x4 x5 x6 x7 (0 : Int32) S _ _ _ (lv_sub hl [0, 1, 2, 3, 4, 5, 6, 7] rfl) hw hf
              replace hf := hf.2 hc
              refine lv_iconst (pc := 123) (v := 3) hx hb d_Mo_chord_123 (by decide) ?_
              refine lv_goto (pc := 124) (tgt := 128) hx hb d_Mo_chord_124 (by decide) ?_
              exact jn128 x1 x2 x3 x4 x5 x6 x7 (3 : Int32) S _ _ _ (lv_sub hl [0, 1, 2, 3, 4, 5, 6, 7] rfl) hw hf
            replace hf := hf.1 hc
            refine lv_iconst (pc := 114) (v := 2) hx hb d_Mo_chord_114 (by decide) ?_
            refine lv_goto (pc := 115) (tgt := 128) hx hb d_Mo_chord_115 (by decide) ?_
            exact jn128 x1 x2 x3 x4 x5 x6 x7 (2 : Int32) S _ _ _ (lv_sub hl [0, 1, 2, 3, 4, 5, 6, 7] rfl) hw hf
          replace hf := hf.1 hc
          refine lv_iconst (pc := 105) (v := 1) hx hb d_Mo_chord_105 (by decide) ?_
          refine lv_goto (pc := 106) (tgt := 128) hx hb d_Mo_chord_106 (by decide) ?_
          exact jn128 x1 x2 x3 x4 x5 x6 x7 (1 : Int32) S _ _ _ (lv_sub hl [0, 1, 2, 3, 4, 5, 6, 7] rfl) hw hf
        replace hf := hf.2 hc
        refine lv_iload (pc := 58) hx hb d_Mo_chord_58 (lv_at hl 6 rfl) ?_
        refine lv_if_ne (pc := 60) (tgt := 84) hx hb d_Mo_chord_60 (by decide) (fun hc => ?_) (fun hc => ?_)
        · replace hf := hf.2 hc
          exact jn84 x1 x2 x3 x4 x5 x6 x7 S _ _ _ (lv_sub hl [0, 1, 2, 3, 4, 5, 6, 7] rfl) hw hf
        replace hf := hf.1 hc
        refine lv_iload_n (pc := 63) hx hb d_Mo_chord_63 rfl (lv_at hl 2 rfl) ?_
        refine lv_if_eq (pc := 64) (tgt := 88) hx hb d_Mo_chord_64 (by decide) (fun hc => ?_) (fun hc => ?_)
        · replace hf := hf.1 hc
          refine lv_iconst (pc := 88) (v := 0) hx hb d_Mo_chord_88 (by decide) ?_
          refine lv_istore (pc := 89) (lv' := [(6, .int (0 : Int32)), (0, .ref (a 0)), (1, .int x1), (2, .int x2), (3, .int x3), (4, .int x4), (5, .int x5), (7, .int x7)]) hx hb d_Mo_chord_89 hl (by decide) rfl (fun ls hl => ?_)
          refine lv_iinc (pc := 91) (k := 7) (v := (x7 + (1 : Int32))) (lv' := [(7, .int (x7 + (1 : Int32))), (6, .int (0 : Int32)), (0, .ref (a 0)), (1, .int x1), (2, .int x2), (3, .int x3), (4, .int x4), (5, .int x5)]) hx hb d_Mo_chord_91 hl rfl rfl (by decide) rfl (fun ls hl => ?_)
          refine lv_goto (pc := 94) (tgt := 52) hx hb d_Mo_chord_94 (by decide) ?_
          exact ih52 x1 x2 x3 x4 x5 (0 : Int32) (x7 + (1 : Int32)) S _ _ _ (lv_sub hl [2, 3, 4, 5, 6, 7, 1, 0] rfl) hw hf
        replace hf := hf.2 hc
        refine lv_iload (pc := 67) hx hb d_Mo_chord_67 (lv_at hl 7 rfl) ?_
        refine lv_iload_n (pc := 69) hx hb d_Mo_chord_69 rfl (lv_at hl 1 rfl) ?_
        refine lv_icmp_eq (pc := 70) (tgt := 88) hx hb d_Mo_chord_70 (by decide) (fun hc => ?_) (fun hc => ?_)
        · replace hf := hf.1 hc
          refine lv_iconst (pc := 88) (v := 0) hx hb d_Mo_chord_88 (by decide) ?_
          refine lv_istore (pc := 89) (lv' := [(6, .int (0 : Int32)), (0, .ref (a 0)), (1, .int x1), (2, .int x2), (3, .int x3), (4, .int x4), (5, .int x5), (7, .int x7)]) hx hb d_Mo_chord_89 hl (by decide) rfl (fun ls hl => ?_)
          refine lv_iinc (pc := 91) (k := 7) (v := (x7 + (1 : Int32))) (lv' := [(7, .int (x7 + (1 : Int32))), (6, .int (0 : Int32)), (0, .ref (a 0)), (1, .int x1), (2, .int x2), (3, .int x3), (4, .int x4), (5, .int x5)]) hx hb d_Mo_chord_91 hl rfl rfl (by decide) rfl (fun ls hl => ?_)
          refine lv_goto (pc := 94) (tgt := 52) hx hb d_Mo_chord_94 (by decide) ?_
          exact ih52 x1 x2 x3 x4 x5 (0 : Int32) (x7 + (1 : Int32)) S _ _ _ (lv_sub hl [2, 3, 4, 5, 6, 7, 1, 0] rfl) hw hf
        replace hf := hf.2 hc
        refine lv_aload_n (pc := 73) hx hb d_Mo_chord_73 rfl (lv_at hl 0 rfl) ?_
        refine md_gt_Mo_chordKeys (pc := 74) hx hb hK hts hinMo hown hw.1 hl53 d_Mo_chord_74 ?_
        refine lv_iload (pc := 77) hx hb d_Mo_chord_77 (lv_at hl 7 rfl) ?_
        refine md_ld15 (pc := 79) (v := ((S.1 21) x7.toNatClampNeg)) hx hb hK hw.1 hf.1 rfl d_Mo_chord_79 ?_
        replace hf := hf.2
        refine lv_iload_n (pc := 80) hx hb d_Mo_chord_80 rfl (lv_at hl 2 rfl) ?_
        refine lv_icmp_ne (pc := 81) (tgt := 88) hx hb d_Mo_chord_81 (by decide) (fun hc => ?_) (fun hc => ?_)
        · replace hf := hf.2 hc
          refine lv_iconst (pc := 88) (v := 0) hx hb d_Mo_chord_88 (by decide) ?_
          refine lv_istore (pc := 89) (lv' := [(6, .int (0 : Int32)), (0, .ref (a 0)), (1, .int x1), (2, .int x2), (3, .int x3), (4, .int x4), (5, .int x5), (7, .int x7)]) hx hb d_Mo_chord_89 hl (by decide) rfl (fun ls hl => ?_)
          refine lv_iinc (pc := 91) (k := 7) (v := (x7 + (1 : Int32))) (lv' := [(7, .int (x7 + (1 : Int32))), (6, .int (0 : Int32)), (0, .ref (a 0)), (1, .int x1), (2, .int x2), (3, .int x3), (4, .int x4), (5, .int x5)]) hx hb d_Mo_chord_91 hl rfl rfl (by decide) rfl (fun ls hl => ?_)
          refine lv_goto (pc := 94) (tgt := 52) hx hb d_Mo_chord_94 (by decide) ?_
          exact ih52 x1 x2 x3 x4 x5 (0 : Int32) (x7 + (1 : Int32)) S _ _ _ (lv_sub hl [2, 3, 4, 5, 6, 7, 1, 0] rfl) hw hf
        replace hf := hf.1 hc
        exact jn84 x1 x2 x3 x4 x5 x6 x7 S _ _ _ (lv_sub hl [0, 1, 2, 3, 4, 5, 6, 7] rfl) hw hf
    exact lp52 q52 x1 x2 x3 x4 y0 (0 : Int32) (0 : Int32) S _ _ _ (lv_sub hl [3, 4, 5, 6, 7, 2, 1, 0] rfl) hw hf
  have jn43 : ∀ (x1 : Int32) (x2 : Int32) (x3 : Int32) (x4 : Int32) (S : GS) (H : Heap) (locs : List Loc) (ls : Array Slot), lv_has ls 8 [(0, .ref (a 0)), (1, .int x1), (2, .int x2), (3, .int x3), (4, .int x4)] → wf D A s.heap (mdW cI cZ cJ a S) H locs → J_Mo_chord_43 post x1 x2 x3 x4 S → W p l e rm_Mo_chord s m args below meth c H locs 0 0 (MQ below (va_Qv post (gB D (tys cI cZ cJ) (mdW cI cZ cJ a) A) A) args s 0 0 A) (F0 m 43 ls []) := by
    intro x1 x2 x3 x4 S H locs ls hl hw hf
    unfold J_Mo_chord_43 at hf
    refine lv_iconst (pc := 43) (v := 0) hx hb d_Mo_chord_43 (by decide) ?_
    exact jn44 x1 x2 x3 x4 (0 : Int32) S _ _ _ (lv_sub hl [0, 1, 2, 3, 4] rfl) hw hf
  have jn39 : ∀ (x1 : Int32) (x2 : Int32) (x3 : Int32) (x4 : Int32) (S : GS) (H : Heap) (locs : List Loc) (ls : Array Slot), lv_has ls 8 [(0, .ref (a 0)), (1, .int x1), (2, .int x2), (3, .int x3), (4, .int x4)] → wf D A s.heap (mdW cI cZ cJ a S) H locs → J_Mo_chord_39 post x1 x2 x3 x4 S → W p l e rm_Mo_chord s m args below meth c H locs 0 0 (MQ below (va_Qv post (gB D (tys cI cZ cJ) (mdW cI cZ cJ a) A) A) args s 0 0 A) (F0 m 39 ls []) := by
    intro x1 x2 x3 x4 S H locs ls hl hw hf
    unfold J_Mo_chord_39 at hf
    refine lv_iconst (pc := 39) (v := 1) hx hb d_Mo_chord_39 (by decide) ?_
    refine lv_goto (pc := 40) (tgt := 44) hx hb d_Mo_chord_40 (by decide) ?_
    exact jn44 x1 x2 x3 x4 (1 : Int32) S _ _ _ (lv_sub hl [0, 1, 2, 3, 4] rfl) hw hf
  unfold wp_Mo_chord at hf
  refine lv_iload_n (pc := 0) hx hb d_Mo_chord_0 rfl (lv_at hl 2 rfl) ?_
  refine vp_callSi (pc := 1) (W.runS (As := [.int p1]) (rest := []) ⟨hx, hb, hml, hown, hts⟩ (c_Mo_bitsOf l _ _ hf) (cwS 1 hts (tb_wsS tc_Mo_bitsOf tm_Mo_134 ts_Mo_bitsOf tz_Mo) rfl rfl rfl (by decide +kernel) ⟨Nat.le_of_ble_eq_true rfl, Nat.le_of_ble_eq_true rfl⟩) p_preS rfl rfl hl.1 rfl (lv_room (Nat.le_of_ble_eq_true rfl)) d_Mo_chord_1 ⟨Nat.zero_le _, Nat.zero_le _⟩) (fun r1 hf => ?_)
  refine lv_istore (pc := 4) (lv' := [(4, .int r1), (0, .ref (a 0)), (1, .int p0), (2, .int p1), (3, .int p2)]) hx hb d_Mo_chord_4 hl (by decide) rfl (fun ls hl => ?_)
  refine lv_iload_n (pc := 6) hx hb d_Mo_chord_6 rfl (lv_at hl 3 rfl) ?_
  refine lv_if_eq (pc := 7) (tgt := 39) hx hb d_Mo_chord_7 (by decide) (fun hc => ?_) (fun hc => ?_)
  · replace hf := hf.1 hc
    exact jn39 p0 p1 p2 r1 S _ _ _ (lv_sub hl [1, 2, 3, 4, 0] rfl) hw hf
  replace hf := hf.2 hc
  refine lv_iload_n (pc := 10) hx hb d_Mo_chord_10 rfl (lv_at hl 3 rfl) ?_
  refine lv_if_le (pc := 11) (tgt := 43) hx hb d_Mo_chord_11 (by decide) (fun hc => ?_) (fun hc => ?_)
  · replace hf := hf.1 hc
    exact jn43 p0 p1 p2 r1 S _ _ _ (lv_sub hl [1, 2, 3, 4, 0] rfl) hw hf
  replace hf := hf.2 hc
  refine lv_iload_n (pc := 14) hx hb d_Mo_chord_14 rfl (lv_at hl 3 rfl) ?_
  refine lv_ldc (pc := 15) hx hb hown (hts _ (List.mem_cons_of_mem _ tk_Mo_206)) d_Mo_chord_15 ?_
  refine lv_icmp_ge (pc := 17) (tgt := 43) hx hb d_Mo_chord_17 (by decide) (fun hc => ?_) (fun hc => ?_)
  · replace hf := hf.1 hc
    exact jn43 p0 p1 p2 r1 S _ _ _ (lv_sub hl [1, 2, 3, 4, 0] rfl) hw hf
  replace hf := hf.2 hc
  refine lv_iload (pc := 20) hx hb d_Mo_chord_20 (lv_at hl 0 rfl) ?_
  refine lv_iconst (pc := 22) (v := 1) hx hb d_Mo_chord_22 (by decide) ?_
  refine lv_icmp_le (pc := 23) (tgt := 43) hx hb d_Mo_chord_23 (by decide) (fun hc => ?_) (fun hc => ?_)
  · replace hf := hf.1 hc
    exact jn43 p0 p1 p2 r1 S _ _ _ (lv_sub hl [1, 2, 3, 4, 0] rfl) hw hf
  replace hf := hf.2 hc
  refine lv_iload (pc := 26) hx hb d_Mo_chord_26 (lv_at hl 0 rfl) ?_
  refine lv_iconst (pc := 28) (v := 5) hx hb d_Mo_chord_28 (by decide) ?_
  refine lv_icmp_ge (pc := 29) (tgt := 43) hx hb d_Mo_chord_29 (by decide) (fun hc => ?_) (fun hc => ?_)
  · replace hf := hf.1 hc
    exact jn43 p0 p1 p2 r1 S _ _ _ (lv_sub hl [1, 2, 3, 4, 0] rfl) hw hf
  replace hf := hf.2 hc
  refine lv_iload_n (pc := 32) hx hb d_Mo_chord_32 rfl (lv_at hl 4 rfl) ?_
  refine vp_callSi (pc := 33) (W.runS (As := [.int p2]) (rest := []) ⟨hx, hb, hml, hown, hts⟩ (c_Mo_isCode l _ _ hf) (cwS 1 hts (tb_wsS tc_Mo_isCode tm_Mo_196 ts_Mo_isCode tz_Mo) rfl rfl rfl (by decide +kernel) ⟨Nat.le_of_ble_eq_true rfl, Nat.le_of_ble_eq_true rfl⟩) p_preS rfl rfl hl.1 rfl (lv_room (Nat.le_of_ble_eq_true rfl)) d_Mo_chord_33 ⟨Nat.zero_le _, Nat.zero_le _⟩) (fun r33 hf => ?_)
  refine lv_if_eq (pc := 36) (tgt := 43) hx hb d_Mo_chord_36 (by decide) (fun hc => ?_) (fun hc => ?_)
  · replace hf := hf.1 hc
    exact jn43 p0 p1 p2 r1 S _ _ _ (lv_sub hl [1, 2, 3, 4, 0] rfl) hw hf
  replace hf := hf.2 hc
  exact jn39 p0 p1 p2 r1 S _ _ _ (lv_sub hl [1, 2, 3, 4, 0] rfl) hw hf
def J_Mo_on_13 (post : Int32 → GS → Prop) (x1 : Int32) (y1 : Int32) (S : GS) : Prop := (wp_Mo_refused S y1 (fun r13 S13 => ((r13 = (0 : Int32) → (wp_Mo_isOn S13 x1 (fun r21 => ((r21 = (0 : Int32) → (post (0 : Int32) S13)) ∧ (¬ r21 = (0 : Int32) → (post (1 : Int32) S13)))))) ∧ (¬ r13 = (0 : Int32) → (post (0 : Int32) S13)))))
def wp_Mo_on (S : GS) (p0 : Int32) (post : Int32 → GS → Prop) : Prop := (wp_Mo_isFour p0 (fun r2 => ((r2 = (0 : Int32) → (J_Mo_on_13 post p0 (1 : Int32) S)) ∧ (¬ r2 = (0 : Int32) → (J_Mo_on_13 post p0 (0 : Int32) S)))))
abbrev rm_Mo_on : Room := { frames := 1, cells := 0, slots := 0, locals := 23 }
set_option maxHeartbeats 4000000 in
set_option maxRecDepth 100000 in
theorem c_Mo_on (l : Launch) (D : va_G) (cI cZ cJ : ClassId) (a : Nat → Nat) (sz : Nat) (S : GS) (p0 : Int32) (post : Int32 → GS → Prop) (hf : wp_Mo_on S p0 post) : Met l y_Mo_on ws_Mo_on rm_Mo_on (va_Pc [.ref (a 0), .int p0] (gPre D (tys cI cZ cJ) (mdW cI cZ cJ a S) sz)) (va_Qi post (gB D (tys cI cZ cJ) (mdW cI cZ cJ a) (va_A (mdW cI cZ cJ a S) sz)) (va_A (mdW cI cZ cJ a S) sz)) 0 0 (va_A (mdW cI cZ cJ a S) sz) := by
  refine gm_w (QF := fun A => va_Qi post (gB D (tys cI cZ cJ) (mdW cI cZ cJ a) A) A) (cc := b_Mo_on) (maxL := 2) (by decide) rfl (Nat.le_of_ble_eq_true rfl) ?_
  intro p e s m args below meth c A ls hx hb hr hts hown hmn hlk hml hK hA hw hl
  have hl : lv_has ls 2 [(0, .ref (a 0)), (1, .int p0)] := hl
  have jn13 : ∀ (x1 : Int32) (y1 : Int32) (S : GS) (H : Heap) (locs : List Loc) (ls : Array Slot), lv_has ls 2 [(0, .ref (a 0)), (1, .int x1)] → wf D A s.heap (mdW cI cZ cJ a S) H locs → J_Mo_on_13 post x1 y1 S → W p l e rm_Mo_on s m args below meth c H locs 0 0 (MQ below (va_Qi post (gB D (tys cI cZ cJ) (mdW cI cZ cJ a) A) A) args s 0 0 A) (F0 m 13 ls [.int y1, .ref (a 0)]) := by
    intro x1 y1 S H locs ls hl hw hf
    unfold J_Mo_on_13 at hf
    refine gc_i (pc := 13) (Wf := mdW cI cZ cJ a) hw hA (va_runV (As := [.int y1]) (rest := []) ⟨hx, hb, hml, hown, hts⟩ (c_Mo_refused l D cI cZ cJ a _ _ _ _ hf) (cwV 1 hts (tb_wsV tc_Mo_refused tm_Mo_88 ti_Mo_refused te_Mo_refused tz_Mo) rfl rfl rfl (by decide +kernel) ⟨Nat.le_of_ble_eq_true rfl, Nat.le_of_ble_eq_true rfl⟩) (g_preV (q0 := 0) (ci := 9) hK hw rfl rfl) rfl rfl hl.1 rfl (lv_room (Nat.le_of_ble_eq_true rfl)) d_Mo_on_13 ⟨Nat.zero_le _, Nat.zero_le _⟩) (fun r13 S13 H locs hw hf => ?_)
    refine lv_if_ne (pc := 16) (tgt := 31) hx hb d_Mo_on_16 (by decide) (fun hc => ?_) (fun hc => ?_)
    · replace hf := hf.2 hc
      refine lv_iconst (pc := 31) (v := 0) hx hb d_Mo_on_31 (by decide) ?_
      exact gr_z (pc := 32) hx hb hr hlk hK S13 hw (by decide) hf d_Mo_on_32
    replace hf := hf.1 hc
    refine lv_aload_n (pc := 19) hx hb d_Mo_on_19 rfl (lv_at hl 0 rfl) ?_
    refine lv_iload_n (pc := 20) hx hb d_Mo_on_20 rfl (lv_at hl 1 rfl) ?_
    refine vp_callSi (pc := 21) (W.runV (As := [.int x1]) (rest := []) ⟨hx, hb, hml, hown, hts⟩ (c_Mo_isOn l D cI cZ cJ a _ _ _ hf) (cwV 1 hts (tb_wsV tc_Mo_isOn tm_Mo_108 ti_Mo_isOn te_Mo_isOn tz_Mo) rfl rfl rfl (by decide +kernel) ⟨Nat.le_of_ble_eq_true rfl, Nat.le_of_ble_eq_true rfl⟩) (r_preV (q0 := 0) (ci := 9) hK hw.1 rfl rfl) rfl rfl hl.1 rfl (lv_room (Nat.le_of_ble_eq_true rfl)) d_Mo_on_21 ⟨Nat.zero_le _, Nat.zero_le _⟩) (fun r21 hf => ?_)
    refine lv_if_eq (pc := 24) (tgt := 31) hx hb d_Mo_on_24 (by decide) (fun hc => ?_) (fun hc => ?_)
    · replace hf := hf.1 hc
      refine lv_iconst (pc := 31) (v := 0) hx hb d_Mo_on_31 (by decide) ?_
      exact gr_z (pc := 32) hx hb hr hlk hK S13 hw (by decide) hf d_Mo_on_32
    replace hf := hf.2 hc
    refine lv_iconst (pc := 27) (v := 1) hx hb d_Mo_on_27 (by decide) ?_
    refine lv_goto (pc := 28) (tgt := 32) hx hb d_Mo_on_28 (by decide) ?_
    exact gr_z (pc := 32) hx hb hr hlk hK S13 hw (by decide) hf d_Mo_on_32
  unfold wp_Mo_on at hf
  refine lv_aload_n (pc := 0) hx hb d_Mo_on_0 rfl (lv_at hl 0 rfl) ?_
  refine lv_iload_n (pc := 1) hx hb d_Mo_on_1 rfl (lv_at hl 1 rfl) ?_
  refine vp_callSi (pc := 2) (W.runS (As := [.int p0]) (rest := [.ref (a 0)]) ⟨hx, hb, hml, hown, hts⟩ (c_Mo_isFour l _ _ hf) (cwS 1 hts (tb_wsS tc_Mo_isFour tm_Mo_199 ts_Mo_isFour tz_Mo) rfl rfl rfl (by decide +kernel) ⟨Nat.le_of_ble_eq_true rfl, Nat.le_of_ble_eq_true rfl⟩) p_preS rfl rfl hl.1 rfl (lv_room (Nat.le_of_ble_eq_true rfl)) d_Mo_on_2 ⟨Nat.zero_le _, Nat.zero_le _⟩) (fun r2 hf => ?_)
  refine lv_if_eq (pc := 5) (tgt := 12) hx hb d_Mo_on_5 (by decide) (fun hc => ?_) (fun hc => ?_)
  · replace hf := hf.1 hc
    refine lv_iconst (pc := 12) (v := 1) hx hb d_Mo_on_12 (by decide) ?_
    exact jn13 p0 (1 : Int32) S _ _ _ (lv_sub hl [0, 1] rfl) hw hf
  replace hf := hf.2 hc
  refine lv_iconst (pc := 8) (v := 0) hx hb d_Mo_on_8 (by decide) ?_
  refine lv_goto (pc := 9) (tgt := 13) hx hb d_Mo_on_9 (by decide) ?_
  exact jn13 p0 (0 : Int32) S _ _ _ (lv_sub hl [0, 1] rfl) hw hf
def J_Mo_top_13 (post : Int32 → GS → Prop) (x1 : Int32) (y1 : Int32) (S : GS) : Prop := (wp_Mo_refused S y1 (fun r13 S13 => ((r13 = (0 : Int32) → (wp_Mo_topOf S13 x1 (fun r25 => (post r25 S13)))) ∧ (¬ r13 = (0 : Int32) → (post (0 : Int32) S13)))))
def wp_Mo_top (S : GS) (p0 : Int32) (post : Int32 → GS → Prop) : Prop := (wp_Mo_isKey p0 (fun r2 => ((r2 = (0 : Int32) → (J_Mo_top_13 post p0 (1 : Int32) S)) ∧ (¬ r2 = (0 : Int32) → (J_Mo_top_13 post p0 (0 : Int32) S)))))
abbrev rm_Mo_top : Room := { frames := 2, cells := 0, slots := 0, locals := 46 }
set_option maxHeartbeats 4000000 in
set_option maxRecDepth 100000 in
theorem c_Mo_top (l : Launch) (D : va_G) (cI cZ cJ : ClassId) (a : Nat → Nat) (sz : Nat) (S : GS) (p0 : Int32) (post : Int32 → GS → Prop) (hf : wp_Mo_top S p0 post) : Met l y_Mo_top ws_Mo_top rm_Mo_top (va_Pc [.ref (a 0), .int p0] (gPre D (tys cI cZ cJ) (mdW cI cZ cJ a S) sz)) (va_Qi post (gB D (tys cI cZ cJ) (mdW cI cZ cJ a) (va_A (mdW cI cZ cJ a S) sz)) (va_A (mdW cI cZ cJ a S) sz)) 0 0 (va_A (mdW cI cZ cJ a S) sz) := by
  refine gm_w (QF := fun A => va_Qi post (gB D (tys cI cZ cJ) (mdW cI cZ cJ a) A) A) (cc := b_Mo_top) (maxL := 2) (by decide) rfl (Nat.le_of_ble_eq_true rfl) ?_
  intro p e s m args below meth c A ls hx hb hr hts hown hmn hlk hml hK hA hw hl
  have hl : lv_has ls 2 [(0, .ref (a 0)), (1, .int p0)] := hl
  have jn13 : ∀ (x1 : Int32) (y1 : Int32) (S : GS) (H : Heap) (locs : List Loc) (ls : Array Slot), lv_has ls 2 [(0, .ref (a 0)), (1, .int x1)] → wf D A s.heap (mdW cI cZ cJ a S) H locs → J_Mo_top_13 post x1 y1 S → W p l e rm_Mo_top s m args below meth c H locs 0 0 (MQ below (va_Qi post (gB D (tys cI cZ cJ) (mdW cI cZ cJ a) A) A) args s 0 0 A) (F0 m 13 ls [.int y1, .ref (a 0)]) := by
    intro x1 y1 S H locs ls hl hw hf
    unfold J_Mo_top_13 at hf
    refine gc_i (pc := 13) (Wf := mdW cI cZ cJ a) hw hA (va_runV (As := [.int y1]) (rest := []) ⟨hx, hb, hml, hown, hts⟩ (c_Mo_refused l D cI cZ cJ a _ _ _ _ hf) (cwV 1 hts (tb_wsV tc_Mo_refused tm_Mo_88 ti_Mo_refused te_Mo_refused tz_Mo) rfl rfl rfl (by decide +kernel) ⟨Nat.le_of_ble_eq_true rfl, Nat.le_of_ble_eq_true rfl⟩) (g_preV (q0 := 0) (ci := 9) hK hw rfl rfl) rfl rfl hl.1 rfl (lv_room (Nat.le_of_ble_eq_true rfl)) d_Mo_top_13 ⟨Nat.zero_le _, Nat.zero_le _⟩) (fun r13 S13 H locs hw hf => ?_)
    refine lv_if_eq (pc := 16) (tgt := 23) hx hb d_Mo_top_16 (by decide) (fun hc => ?_) (fun hc => ?_)
    · replace hf := hf.1 hc
      refine lv_aload_n (pc := 23) hx hb d_Mo_top_23 rfl (lv_at hl 0 rfl) ?_
      refine lv_iload_n (pc := 24) hx hb d_Mo_top_24 rfl (lv_at hl 1 rfl) ?_
      refine vp_callSi (pc := 25) (W.runV (As := [.int x1]) (rest := []) ⟨hx, hb, hml, hown, hts⟩ (c_Mo_topOf l D cI cZ cJ a _ _ _ hf) (cwV 1 hts (tb_wsV tc_Mo_topOf tm_Mo_176 ti_Mo_topOf te_Mo_topOf tz_Mo) rfl rfl rfl (by decide +kernel) ⟨Nat.le_of_ble_eq_true rfl, Nat.le_of_ble_eq_true rfl⟩) (r_preV (q0 := 0) (ci := 9) hK hw.1 rfl rfl) rfl rfl hl.1 rfl (lv_room (Nat.le_of_ble_eq_true rfl)) d_Mo_top_25 ⟨Nat.zero_le _, Nat.zero_le _⟩) (fun r25 hf => ?_)
      exact gr_i (pc := 28) hx hb hr hlk hK S13 hw hf d_Mo_top_28
    replace hf := hf.2 hc
    refine lv_iconst (pc := 19) (v := 0) hx hb d_Mo_top_19 (by decide) ?_
    refine lv_goto (pc := 20) (tgt := 28) hx hb d_Mo_top_20 (by decide) ?_
    exact gr_i (pc := 28) hx hb hr hlk hK S13 hw hf d_Mo_top_28
  unfold wp_Mo_top at hf
  refine lv_aload_n (pc := 0) hx hb d_Mo_top_0 rfl (lv_at hl 0 rfl) ?_
  refine lv_iload_n (pc := 1) hx hb d_Mo_top_1 rfl (lv_at hl 1 rfl) ?_
  refine vp_callSi (pc := 2) (W.runS (As := [.int p0]) (rest := [.ref (a 0)]) ⟨hx, hb, hml, hown, hts⟩ (c_Mo_isKey l _ _ hf) (cwS 1 hts (tb_wsS tc_Mo_isKey tm_Mo_84 ts_Mo_isKey tz_Mo) rfl rfl rfl (by decide +kernel) ⟨Nat.le_of_ble_eq_true rfl, Nat.le_of_ble_eq_true rfl⟩) p_preS rfl rfl hl.1 rfl (lv_room (Nat.le_of_ble_eq_true rfl)) d_Mo_top_2 ⟨Nat.zero_le _, Nat.zero_le _⟩) (fun r2 hf => ?_)
  refine lv_if_eq (pc := 5) (tgt := 12) hx hb d_Mo_top_5 (by decide) (fun hc => ?_) (fun hc => ?_)
  · replace hf := hf.1 hc
    refine lv_iconst (pc := 12) (v := 1) hx hb d_Mo_top_12 (by decide) ?_
    exact jn13 p0 (1 : Int32) S _ _ _ (lv_sub hl [0, 1] rfl) hw hf
  replace hf := hf.2 hc
  refine lv_iconst (pc := 8) (v := 0) hx hb d_Mo_top_8 (by decide) ?_
  refine lv_goto (pc := 9) (tgt := 13) hx hb d_Mo_top_9 (by decide) ?_
  exact jn13 p0 (0 : Int32) S _ _ _ (lv_sub hl [0, 1] rfl) hw hf
def J_Mo_key_92 (post : Int32 → GS → Prop) (x1 : Int32) (x2 : Int32) (y0 : Int32) (S : GS) : Prop := ((y0 = (0 : Int32) → (post (0 : Int32) S)) ∧ (¬ y0 = (0 : Int32) → (post (1 : Int32) S)))
def J_Mo_key_91 (post : Int32 → GS → Prop) (x1 : Int32) (x2 : Int32) (S : GS) : Prop := (J_Mo_key_92 post x1 x2 (0 : Int32) S)
def J_Mo_key_20 (post : Int32 → GS → Prop) (x1 : Int32) (x2 : Int32) (y1 : Int32) (S : GS) : Prop := (wp_Mo_refused S y1 (fun r20 S20 => ((r20 = (0 : Int32) → ((x2 = (0 : Int32) → (vp_in x1 24 ∧ (J_Mo_key_92 post x1 x2 ((S20.1 10) x1.toNatClampNeg) S20))) ∧ (¬ x2 = (0 : Int32) → ((x2 = (1 : Int32) → (vp_in x1 24 ∧ (J_Mo_key_92 post x1 x2 ((S20.1 11) x1.toNatClampNeg) S20))) ∧ (¬ x2 = (1 : Int32) → ((x2 = (2 : Int32) → (vp_in x1 24 ∧ (J_Mo_key_92 post x1 x2 ((S20.1 13) x1.toNatClampNeg) S20))) ∧ (¬ x2 = (2 : Int32) → (vp_in x1 24 ∧ ((((S20.1 11) x1.toNatClampNeg) = (0 : Int32) → (J_Mo_key_91 post x1 x2 S20)) ∧ (¬ ((S20.1 11) x1.toNatClampNeg) = (0 : Int32) → (vp_in x1 24 ∧ ((((S20.1 13) x1.toNatClampNeg) = (0 : Int32) → (J_Mo_key_92 post x1 x2 (1 : Int32) S20)) ∧ (¬ ((S20.1 13) x1.toNatClampNeg) = (0 : Int32) → (J_Mo_key_91 post x1 x2 S20)))))))))))))) ∧ (¬ r20 = (0 : Int32) → (post (0 : Int32) S20)))))
def J_Mo_key_19 (post : Int32 → GS → Prop) (x1 : Int32) (x2 : Int32) (S : GS) : Prop := (J_Mo_key_20 post x1 x2 (1 : Int32) S)
def wp_Mo_key (S : GS) (p0 : Int32) (p1 : Int32) (post : Int32 → GS → Prop) : Prop := (wp_Mo_isKey p0 (fun r2 => ((r2 = (0 : Int32) → (J_Mo_key_19 post p0 p1 S)) ∧ (¬ r2 = (0 : Int32) → (wp_Mo_isFour p1 (fun r9 => ((r9 = (0 : Int32) → (J_Mo_key_19 post p0 p1 S)) ∧ (¬ r9 = (0 : Int32) → (J_Mo_key_20 post p0 p1 (0 : Int32) S)))))))))
abbrev rm_Mo_key : Room := { frames := 1, cells := 0, slots := 0, locals := 21 }
set_option maxHeartbeats 4000000 in
set_option maxRecDepth 100000 in
theorem c_Mo_key (l : Launch) (D : va_G) (cI cZ cJ : ClassId) (a : Nat → Nat) (sz : Nat) (S : GS) (p0 : Int32) (p1 : Int32) (post : Int32 → GS → Prop) (hf : wp_Mo_key S p0 p1 post) : Met l y_Mo_key ws_Mo_key rm_Mo_key (va_Pc [.ref (a 0), .int p0, .int p1] (gPre D (tys cI cZ cJ) (mdW cI cZ cJ a S) sz)) (va_Qi post (gB D (tys cI cZ cJ) (mdW cI cZ cJ a) (va_A (mdW cI cZ cJ a S) sz)) (va_A (mdW cI cZ cJ a S) sz)) 0 0 (va_A (mdW cI cZ cJ a S) sz) := by
  refine gm_w (QF := fun A => va_Qi post (gB D (tys cI cZ cJ) (mdW cI cZ cJ a) A) A) (cc := b_Mo_key) (maxL := 4) (by decide) rfl (Nat.le_of_ble_eq_true rfl) ?_
  intro p e s m args below meth c A ls hx hb hr hts hown hmn hlk hml hK hA hw hl
  have hl : lv_has ls 4 [(0, .ref (a 0)), (1, .int p0), (2, .int p1)] := hl
  have hinMo : ∀ w ∈ u_ws R_Mo T_Mo 30, w ∈ ws_Mo_key := fun w h => List.mem_cons_of_mem _ (tl_Mo w h)
  have hl20 := hts _ (List.mem_cons_of_mem _ tf_Mo_20)
  have hl23 := hts _ (List.mem_cons_of_mem _ tf_Mo_23)
  have hl29 := hts _ (List.mem_cons_of_mem _ tf_Mo_29)
  have jn92 : ∀ (x1 : Int32) (x2 : Int32) (y0 : Int32) (S : GS) (H : Heap) (locs : List Loc) (ls : Array Slot), lv_has ls 4 [(0, .ref (a 0)), (1, .int x1), (2, .int x2)] → wf D A s.heap (mdW cI cZ cJ a S) H locs → J_Mo_key_92 post x1 x2 y0 S → W p l e rm_Mo_key s m args below meth c H locs 0 0 (MQ below (va_Qi post (gB D (tys cI cZ cJ) (mdW cI cZ cJ a) A) A) args s 0 0 A) (F0 m 92 ls [.int y0]) := by
    intro x1 x2 y0 S H locs ls hl hw hf
    unfold J_Mo_key_92 at hf
    refine lv_istore_n (pc := 92) (lv' := [(3, .int y0), (0, .ref (a 0)), (1, .int x1), (2, .int x2)]) hx hb d_Mo_key_92 rfl hl (by decide) rfl (fun ls hl => ?_)
    refine lv_iload_n (pc := 93) hx hb d_Mo_key_93 rfl (lv_at hl 0 rfl) ?_
    refine lv_if_eq (pc := 94) (tgt := 101) hx hb d_Mo_key_94 (by decide) (fun hc => ?_) (fun hc => ?_)
    · replace hf := hf.1 hc
      refine lv_iconst (pc := 101) (v := 0) hx hb d_Mo_key_101 (by decide) ?_
      exact gr_i (pc := 102) hx hb hr hlk hK S hw hf d_Mo_key_102
    replace hf := hf.2 hc
    refine lv_iconst (pc := 97) (v := 1) hx hb d_Mo_key_97 (by decide) ?_
    refine lv_goto (pc := 98) (tgt := 102) hx hb d_Mo_key_98 (by decide) ?_
    exact gr_i (pc := 102) hx hb hr hlk hK S hw hf d_Mo_key_102
  have jn91 : ∀ (x1 : Int32) (x2 : Int32) (S : GS) (H : Heap) (locs : List Loc) (ls : Array Slot), lv_has ls 4 [(0, .ref (a 0)), (1, .int x1), (2, .int x2)] → wf D A s.heap (mdW cI cZ cJ a S) H locs → J_Mo_key_91 post x1 x2 S → W p l e rm_Mo_key s m args below meth c H locs 0 0 (MQ below (va_Qi post (gB D (tys cI cZ cJ) (mdW cI cZ cJ a) A) A) args s 0 0 A) (F0 m 91 ls []) := by
    intro x1 x2 S H locs ls hl hw hf
    unfold J_Mo_key_91 at hf
    refine lv_iconst (pc := 91) (v := 0) hx hb d_Mo_key_91 (by decide) ?_
    exact jn92 x1 x2 (0 : Int32) S _ _ _ (lv_sub hl [0, 1, 2] rfl) hw hf
  have jn20 : ∀ (x1 : Int32) (x2 : Int32) (y1 : Int32) (S : GS) (H : Heap) (locs : List Loc) (ls : Array Slot), lv_has ls 4 [(0, .ref (a 0)), (1, .int x1), (2, .int x2)] → wf D A s.heap (mdW cI cZ cJ a S) H locs → J_Mo_key_20 post x1 x2 y1 S → W p l e rm_Mo_key s m args below meth c H locs 0 0 (MQ below (va_Qi post (gB D (tys cI cZ cJ) (mdW cI cZ cJ a) A) A) args s 0 0 A) (F0 m 20 ls [.int y1, .ref (a 0)]) := by
    intro x1 x2 y1 S H locs ls hl hw hf
    unfold J_Mo_key_20 at hf
    refine gc_i (pc := 20) (Wf := mdW cI cZ cJ a) hw hA (va_runV (As := [.int y1]) (rest := []) ⟨hx, hb, hml, hown, hts⟩ (c_Mo_refused l D cI cZ cJ a _ _ _ _ hf) (cwV 1 hts (tb_wsV tc_Mo_refused tm_Mo_88 ti_Mo_refused te_Mo_refused tz_Mo) rfl rfl rfl (by decide +kernel) ⟨Nat.le_of_ble_eq_true rfl, Nat.le_of_ble_eq_true rfl⟩) (g_preV (q0 := 0) (ci := 9) hK hw rfl rfl) rfl rfl hl.1 rfl (lv_room (Nat.le_of_ble_eq_true rfl)) d_Mo_key_20 ⟨Nat.zero_le _, Nat.zero_le _⟩) (fun r20 S20 H locs hw hf => ?_)
    refine lv_if_eq (pc := 23) (tgt := 28) hx hb d_Mo_key_23 (by decide) (fun hc => ?_) (fun hc => ?_)
    · replace hf := hf.1 hc
      refine lv_iload_n (pc := 28) hx hb d_Mo_key_28 rfl (lv_at hl 2 rfl) ?_
      refine lv_if_ne (pc := 29) (tgt := 41) hx hb d_Mo_key_29 (by decide) (fun hc => ?_) (fun hc => ?_)
      · replace hf := hf.2 hc
        refine lv_iload_n (pc := 41) hx hb d_Mo_key_41 rfl (lv_at hl 2 rfl) ?_
        refine lv_iconst (pc := 42) (v := 1) hx hb d_Mo_key_42 (by decide) ?_
        refine lv_icmp_ne (pc := 43) (tgt := 55) hx hb d_Mo_key_43 (by decide) (fun hc => ?_) (fun hc => ?_)
        · replace hf := hf.2 hc
          refine lv_iload_n (pc := 55) hx hb d_Mo_key_55 rfl (lv_at hl 2 rfl) ?_
          refine lv_iconst (pc := 56) (v := 2) hx hb d_Mo_key_56 (by decide) ?_
          refine lv_icmp_ne (pc := 57) (tgt := 69) hx hb d_Mo_key_57 (by decide) (fun hc => ?_) (fun hc => ?_)
          · replace hf := hf.2 hc
            refine lv_aload_n (pc := 69) hx hb d_Mo_key_69 rfl (lv_at hl 0 rfl) ?_
            refine md_gt_Mo_seen (pc := 70) hx hb hK hts hinMo hown hw.1 hl23 d_Mo_key_70 ?_
            refine lv_iload_n (pc := 73) hx hb d_Mo_key_73 rfl (lv_at hl 1 rfl) ?_
            refine md_ld5 (pc := 74) (v := ((S20.1 11) x1.toNatClampNeg)) hx hb hK hw.1 hf.1 rfl d_Mo_key_74 ?_
            replace hf := hf.2
            refine lv_if_eq (pc := 75) (tgt := 91) hx hb d_Mo_key_75 (by decide) (fun hc => ?_) (fun hc => ?_)
            · replace hf := hf.1 hc
              exact jn91 x1 x2 S20 _ _ _ (lv_sub hl [0, 1, 2] rfl) hw hf
            replace hf := hf.2 hc
            refine lv_aload_n (pc := 78) hx hb d_Mo_key_78 rfl (lv_at hl 0 rfl) ?_
            refine md_gt_Mo_believed (pc := 79) hx hb hK hts hinMo hown hw.1 hl29 d_Mo_key_79 ?_
            refine lv_iload_n (pc := 82) hx hb d_Mo_key_82 rfl (lv_at hl 1 rfl) ?_
            refine md_ld7 (pc := 83) (v := ((S20.1 13) x1.toNatClampNeg)) hx hb hK hw.1 hf.1 rfl d_Mo_key_83 ?_
            replace hf := hf.2
            refine lv_if_ne (pc := 84) (tgt := 91) hx hb d_Mo_key_84 (by decide) (fun hc => ?_) (fun hc => ?_)
            · replace hf := hf.2 hc
              exact jn91 x1 x2 S20 _ _ _ (lv_sub hl [0, 1, 2] rfl) hw hf
            replace hf := hf.1 hc
            refine lv_iconst (pc := 87) (v := 1) hx hb d_Mo_key_87 (by decide) ?_
            refine lv_goto (pc := 88) (tgt := 92) hx hb d_Mo_key_88 (by decide) ?_
            exact jn92 x1 x2 (1 : Int32) S20 _ _ _ (lv_sub hl [0, 1, 2] rfl) hw hf
          replace hf := hf.1 hc
          refine lv_aload_n (pc := 60) hx hb d_Mo_key_60 rfl (lv_at hl 0 rfl) ?_
          refine md_gt_Mo_believed (pc := 61) hx hb hK hts hinMo hown hw.1 hl29 d_Mo_key_61 ?_
          refine lv_iload_n (pc := 64) hx hb d_Mo_key_64 rfl (lv_at hl 1 rfl) ?_
          refine md_ld7 (pc := 65) (v := ((S20.1 13) x1.toNatClampNeg)) hx hb hK hw.1 hf.1 rfl d_Mo_key_65 ?_
          replace hf := hf.2
          refine lv_goto (pc := 66) (tgt := 92) hx hb d_Mo_key_66 (by decide) ?_
          exact jn92 x1 x2 ((S20.1 13) x1.toNatClampNeg) S20 _ _ _ (lv_sub hl [0, 1, 2] rfl) hw hf
        replace hf := hf.1 hc
        refine lv_aload_n (pc := 46) hx hb d_Mo_key_46 rfl (lv_at hl 0 rfl) ?_
        refine md_gt_Mo_seen (pc := 47) hx hb hK hts hinMo hown hw.1 hl23 d_Mo_key_47 ?_
        refine lv_iload_n (pc := 50) hx hb d_Mo_key_50 rfl (lv_at hl 1 rfl) ?_
        refine md_ld5 (pc := 51) (v := ((S20.1 11) x1.toNatClampNeg)) hx hb hK hw.1 hf.1 rfl d_Mo_key_51 ?_
        replace hf := hf.2
        refine lv_goto (pc := 52) (tgt := 92) hx hb d_Mo_key_52 (by decide) ?_
        exact jn92 x1 x2 ((S20.1 11) x1.toNatClampNeg) S20 _ _ _ (lv_sub hl [0, 1, 2] rfl) hw hf
      replace hf := hf.1 hc
      refine lv_aload_n (pc := 32) hx hb d_Mo_key_32 rfl (lv_at hl 0 rfl) ?_
      refine md_gt_Mo_read (pc := 33) hx hb hK hts hinMo hown hw.1 hl20 d_Mo_key_33 ?_
      refine lv_iload_n (pc := 36) hx hb d_Mo_key_36 rfl (lv_at hl 1 rfl) ?_
      refine md_ld4 (pc := 37) (v := ((S20.1 10) x1.toNatClampNeg)) hx hb hK hw.1 hf.1 rfl d_Mo_key_37 ?_
      replace hf := hf.2
      refine lv_goto (pc := 38) (tgt := 92) hx hb d_Mo_key_38 (by decide) ?_
      exact jn92 x1 x2 ((S20.1 10) x1.toNatClampNeg) S20 _ _ _ (lv_sub hl [0, 1, 2] rfl) hw hf
    replace hf := hf.2 hc
    refine lv_iconst (pc := 26) (v := 0) hx hb d_Mo_key_26 (by decide) ?_
    exact gr_i (pc := 27) hx hb hr hlk hK S20 hw hf d_Mo_key_27
  have jn19 : ∀ (x1 : Int32) (x2 : Int32) (S : GS) (H : Heap) (locs : List Loc) (ls : Array Slot), lv_has ls 4 [(0, .ref (a 0)), (1, .int x1), (2, .int x2)] → wf D A s.heap (mdW cI cZ cJ a S) H locs → J_Mo_key_19 post x1 x2 S → W p l e rm_Mo_key s m args below meth c H locs 0 0 (MQ below (va_Qi post (gB D (tys cI cZ cJ) (mdW cI cZ cJ a) A) A) args s 0 0 A) (F0 m 19 ls [.ref (a 0)]) := by
    intro x1 x2 S H locs ls hl hw hf
    unfold J_Mo_key_19 at hf
    refine lv_iconst (pc := 19) (v := 1) hx hb d_Mo_key_19 (by decide) ?_
    exact jn20 x1 x2 (1 : Int32) S _ _ _ (lv_sub hl [0, 1, 2] rfl) hw hf
  unfold wp_Mo_key at hf
  refine lv_aload_n (pc := 0) hx hb d_Mo_key_0 rfl (lv_at hl 0 rfl) ?_
  refine lv_iload_n (pc := 1) hx hb d_Mo_key_1 rfl (lv_at hl 1 rfl) ?_
  refine vp_callSi (pc := 2) (W.runS (As := [.int p0]) (rest := [.ref (a 0)]) ⟨hx, hb, hml, hown, hts⟩ (c_Mo_isKey l _ _ hf) (cwS 1 hts (tb_wsS tc_Mo_isKey tm_Mo_84 ts_Mo_isKey tz_Mo) rfl rfl rfl (by decide +kernel) ⟨Nat.le_of_ble_eq_true rfl, Nat.le_of_ble_eq_true rfl⟩) p_preS rfl rfl hl.1 rfl (lv_room (Nat.le_of_ble_eq_true rfl)) d_Mo_key_2 ⟨Nat.zero_le _, Nat.zero_le _⟩) (fun r2 hf => ?_)
  refine lv_if_eq (pc := 5) (tgt := 19) hx hb d_Mo_key_5 (by decide) (fun hc => ?_) (fun hc => ?_)
  · replace hf := hf.1 hc
    exact jn19 p0 p1 S _ _ _ (lv_sub hl [0, 1, 2] rfl) hw hf
  replace hf := hf.2 hc
  refine lv_iload_n (pc := 8) hx hb d_Mo_key_8 rfl (lv_at hl 2 rfl) ?_
  refine vp_callSi (pc := 9) (W.runS (As := [.int p1]) (rest := [.ref (a 0)]) ⟨hx, hb, hml, hown, hts⟩ (c_Mo_isFour l _ _ hf) (cwS 1 hts (tb_wsS tc_Mo_isFour tm_Mo_199 ts_Mo_isFour tz_Mo) rfl rfl rfl (by decide +kernel) ⟨Nat.le_of_ble_eq_true rfl, Nat.le_of_ble_eq_true rfl⟩) p_preS rfl rfl hl.1 rfl (lv_room (Nat.le_of_ble_eq_true rfl)) d_Mo_key_9 ⟨Nat.zero_le _, Nat.zero_le _⟩) (fun r9 hf => ?_)
  refine lv_if_eq (pc := 12) (tgt := 19) hx hb d_Mo_key_12 (by decide) (fun hc => ?_) (fun hc => ?_)
  · replace hf := hf.1 hc
    exact jn19 p0 p1 S _ _ _ (lv_sub hl [0, 1, 2] rfl) hw hf
  replace hf := hf.2 hc
  refine lv_iconst (pc := 15) (v := 0) hx hb d_Mo_key_15 (by decide) ?_
  refine lv_goto (pc := 16) (tgt := 20) hx hb d_Mo_key_16 (by decide) ?_
  exact jn20 p0 p1 (0 : Int32) S _ _ _ (lv_sub hl [0, 1, 2] rfl) hw hf
def wp_Mo_queued (S : GS) (post : Int32 → GS → Prop) : Prop := (post (S.1 2 0) (gI S 0 (fun _ => (0 : Int32))))
abbrev rm_Mo_queued : Room := { frames := 0, cells := 0, slots := 0, locals := 0 }
set_option maxHeartbeats 4000000 in
set_option maxRecDepth 100000 in
theorem c_Mo_queued (l : Launch) (D : va_G) (cI cZ cJ : ClassId) (a : Nat → Nat) (sz : Nat) (S : GS) (post : Int32 → GS → Prop) (hf : wp_Mo_queued S post) : Met l y_Mo_queued ws_Mo_queued rm_Mo_queued (va_Pc [.ref (a 0)] (gPre D (tys cI cZ cJ) (mdW cI cZ cJ a S) sz)) (va_Qi post (gB D (tys cI cZ cJ) (mdW cI cZ cJ a) (va_A (mdW cI cZ cJ a S) sz)) (va_A (mdW cI cZ cJ a S) sz)) 0 0 (va_A (mdW cI cZ cJ a S) sz) := by
  refine gm_w (QF := fun A => va_Qi post (gB D (tys cI cZ cJ) (mdW cI cZ cJ a) A) A) (cc := b_Mo_queued) (maxL := 1) (by decide) rfl (Nat.le_of_ble_eq_true rfl) ?_
  intro p e s m args below meth c A ls hx hb hr hts hown hmn hlk hml hK hA hw hl
  have hl : lv_has ls 1 [(0, .ref (a 0))] := hl
  have hinMo : ∀ w ∈ u_ws R_Mo T_Mo 30, w ∈ ws_Mo_queued := fun w h => List.mem_cons_of_mem _ (tl_Mo w h)
  have hl80 := hts _ (List.mem_cons_of_mem _ tf_Mo_80)
  have hl95 := hts _ (List.mem_cons_of_mem _ tf_Mo_95)
  unfold wp_Mo_queued at hf
  refine lv_aload_n (pc := 0) hx hb d_Mo_queued_0 rfl (lv_at hl 0 rfl) ?_
  refine lv_iconst (pc := 1) (v := 0) hx hb d_Mo_queued_1 (by decide) ?_
  refine md_pt_Mo_fault (pc := 2) hx hb hK hts hinMo hown hw hl80 d_Mo_queued_2 (fun H locs hw => ?_)
  refine lv_aload_n (pc := 5) hx hb d_Mo_queued_5 rfl (lv_at hl 0 rfl) ?_
  refine md_gt_Mo_queued (pc := 6) (v := (S.1 2 0)) hx hb hK hts hinMo hown hw.1 hl95 rfl d_Mo_queued_6 ?_
  exact gr_i (pc := 9) hx hb hr hlk hK (gI S 0 (fun _ => (0 : Int32))) hw hf d_Mo_queued_9
def wp_Mo_history (S : GS) (p0 : Int32) (post : Int32 → GS → Prop) : Prop := ((p0 < (0 : Int32) → (post (-1 : Int32) (gI S 0 (fun _ => (0 : Int32))))) ∧ (¬ p0 < (0 : Int32) → (((31 : Int32) < p0 → (post (-1 : Int32) (gI S 0 (fun _ => (0 : Int32))))) ∧ (¬ (31 : Int32) < p0 → ((p0 < (S.1 3 0) → (vp_in p0 32 ∧ (post ((S.1 16) p0.toNatClampNeg) (gI S 0 (fun _ => (0 : Int32)))))) ∧ (¬ p0 < (S.1 3 0) → (post (-1 : Int32) (gI S 0 (fun _ => (0 : Int32))))))))))
abbrev rm_Mo_history : Room := { frames := 0, cells := 0, slots := 0, locals := 0 }
set_option maxHeartbeats 4000000 in
set_option maxRecDepth 100000 in
theorem c_Mo_history (l : Launch) (D : va_G) (cI cZ cJ : ClassId) (a : Nat → Nat) (sz : Nat) (S : GS) (p0 : Int32) (post : Int32 → GS → Prop) (hf : wp_Mo_history S p0 post) : Met l y_Mo_history ws_Mo_history rm_Mo_history (va_Pc [.ref (a 0), .int p0] (gPre D (tys cI cZ cJ) (mdW cI cZ cJ a S) sz)) (va_Qi post (gB D (tys cI cZ cJ) (mdW cI cZ cJ a) (va_A (mdW cI cZ cJ a S) sz)) (va_A (mdW cI cZ cJ a S) sz)) 0 0 (va_A (mdW cI cZ cJ a S) sz) := by
  refine gm_w (QF := fun A => va_Qi post (gB D (tys cI cZ cJ) (mdW cI cZ cJ a) A) A) (cc := b_Mo_history) (maxL := 2) (by decide) rfl (Nat.le_of_ble_eq_true rfl) ?_
  intro p e s m args below meth c A ls hx hb hr hts hown hmn hlk hml hK hA hw hl
  have hl : lv_has ls 2 [(0, .ref (a 0)), (1, .int p0)] := hl
  have hinMo : ∀ w ∈ u_ws R_Mo T_Mo 30, w ∈ ws_Mo_history := fun w h => List.mem_cons_of_mem _ (tl_Mo w h)
  have hl38 := hts _ (List.mem_cons_of_mem _ tf_Mo_38)
  have hl80 := hts _ (List.mem_cons_of_mem _ tf_Mo_80)
  have hl101 := hts _ (List.mem_cons_of_mem _ tf_Mo_101)
  unfold wp_Mo_history at hf
  refine lv_aload_n (pc := 0) hx hb d_Mo_history_0 rfl (lv_at hl 0 rfl) ?_
  refine lv_iconst (pc := 1) (v := 0) hx hb d_Mo_history_1 (by decide) ?_
  refine md_pt_Mo_fault (pc := 2) hx hb hK hts hinMo hown hw hl80 d_Mo_history_2 (fun H locs hw => ?_)
  refine lv_iload_n (pc := 5) hx hb d_Mo_history_5 rfl (lv_at hl 1 rfl) ?_
  refine lv_if_lt (pc := 6) (tgt := 23) hx hb d_Mo_history_6 (by decide) (fun hc => ?_) (fun hc => ?_)
  · replace hf := hf.1 hc
    refine lv_iconst (pc := 23) (v := -1) hx hb d_Mo_history_23 (by decide) ?_
    refine lv_goto (pc := 24) (tgt := 33) hx hb d_Mo_history_24 (by decide) ?_
    exact gr_i (pc := 33) hx hb hr hlk hK (gI S 0 (fun _ => (0 : Int32))) hw hf d_Mo_history_33
  replace hf := hf.2 hc
  refine lv_iload_n (pc := 9) hx hb d_Mo_history_9 rfl (lv_at hl 1 rfl) ?_
  refine lv_bipush (pc := 10) (v := 31) hx hb d_Mo_history_10 (by decide) ?_
  refine lv_icmp_gt (pc := 12) (tgt := 23) hx hb d_Mo_history_12 (by decide) (fun hc => ?_) (fun hc => ?_)
  · replace hf := hf.1 hc
    refine lv_iconst (pc := 23) (v := -1) hx hb d_Mo_history_23 (by decide) ?_
    refine lv_goto (pc := 24) (tgt := 33) hx hb d_Mo_history_24 (by decide) ?_
    exact gr_i (pc := 33) hx hb hr hlk hK (gI S 0 (fun _ => (0 : Int32))) hw hf d_Mo_history_33
  replace hf := hf.2 hc
  refine lv_iload_n (pc := 15) hx hb d_Mo_history_15 rfl (lv_at hl 1 rfl) ?_
  refine lv_aload_n (pc := 16) hx hb d_Mo_history_16 rfl (lv_at hl 0 rfl) ?_
  refine md_gt_Mo_told (pc := 17) (v := (S.1 3 0)) hx hb hK hts hinMo hown hw.1 hl101 rfl d_Mo_history_17 ?_
  refine lv_icmp_lt (pc := 20) (tgt := 27) hx hb d_Mo_history_20 (by decide) (fun hc => ?_) (fun hc => ?_)
  · replace hf := hf.1 hc
    refine lv_aload_n (pc := 27) hx hb d_Mo_history_27 rfl (lv_at hl 0 rfl) ?_
    refine md_gt_Mo_latest (pc := 28) hx hb hK hts hinMo hown hw.1 hl38 d_Mo_history_28 ?_
    refine lv_iload_n (pc := 31) hx hb d_Mo_history_31 rfl (lv_at hl 1 rfl) ?_
    refine md_ld10 (pc := 32) (v := ((S.1 16) p0.toNatClampNeg)) hx hb hK hw.1 hf.1 rfl d_Mo_history_32 ?_
    replace hf := hf.2
    exact gr_i (pc := 33) hx hb hr hlk hK (gI S 0 (fun _ => (0 : Int32))) hw hf d_Mo_history_33
  replace hf := hf.2 hc
  refine lv_iconst (pc := 23) (v := -1) hx hb d_Mo_history_23 (by decide) ?_
  refine lv_goto (pc := 24) (tgt := 33) hx hb d_Mo_history_24 (by decide) ?_
  exact gr_i (pc := 33) hx hb hr hlk hK (gI S 0 (fun _ => (0 : Int32))) hw hf d_Mo_history_33
