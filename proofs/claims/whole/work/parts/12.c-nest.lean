def wp_Mx_setWired (S : GS) (p0 : Int32) (p1 : Int32) (post : GS → Prop) : Prop := ((p1 = (0 : Int32) → (post (gI S 1 (fun _ => ((S.1 1 0) &&& (((1 : Int32) <<< (p0 &&& 31)) ^^^ (-1 : Int32))))))) ∧ (¬ p1 = (0 : Int32) → (post (gI S 1 (fun _ => ((S.1 1 0) ||| ((1 : Int32) <<< (p0 &&& 31))))))))
abbrev rm_Mx_setWired : Room := { frames := 0, cells := 0, slots := 0, locals := 0 }
set_option maxHeartbeats 4000000 in
set_option maxRecDepth 100000 in
theorem c_Mx_setWired (l : Launch) (D : va_G) (cI cZ cJ : ClassId) (a : Nat → Nat) (sz : Nat) (S : GS) (p0 : Int32) (p1 : Int32) (post : GS → Prop) (hf : wp_Mx_setWired S p0 p1 post) : Met l y_Mx_setWired ws_Mx_setWired rm_Mx_setWired (va_Pc [.ref (a 1), .int p0, .int p1] (gPre D (tys cI cZ cJ) (gkW cI cZ cJ a S) sz)) (va_Qv post (gB D (tys cI cZ cJ) (gkW cI cZ cJ a) (va_A (gkW cI cZ cJ a S) sz)) (va_A (gkW cI cZ cJ a S) sz)) 0 0 (va_A (gkW cI cZ cJ a S) sz) := by
  refine gm_w (QF := fun A => va_Qv post (gB D (tys cI cZ cJ) (gkW cI cZ cJ a) A) A) (cc := b_Mx_setWired) (maxL := 3) (by decide) rfl (Nat.le_of_ble_eq_true rfl) ?_
  intro p e s m args below meth c A ls hx hb hr hts hown hmn hlk hml hK hA hw hl
  have hl : lv_has ls 3 [(0, .ref (a 1)), (1, .int p0), (2, .int p1)] := hl
  have hinMx : ∀ w ∈ u_ws R_Mx T_Mx 6, w ∈ ws_Mx_setWired := fun w h => List.mem_cons_of_mem _ (tl_Mx w h)
  have hl18 := hts _ (List.mem_cons_of_mem _ tf_Mx_18)
  unfold wp_Mx_setWired at hf
  refine lv_aload_n (pc := 0) hx hb d_Mx_setWired_0 rfl (lv_at hl 0 rfl) ?_
  refine lv_iload_n (pc := 1) hx hb d_Mx_setWired_1 rfl (lv_at hl 2 rfl) ?_
  refine lv_if_eq (pc := 2) (tgt := 16) hx hb d_Mx_setWired_2 (by decide) (fun hc => ?_) (fun hc => ?_)
  · replace hf := hf.1 hc
    refine lv_aload_n (pc := 16) hx hb d_Mx_setWired_16 rfl (lv_at hl 0 rfl) ?_
    refine gk_gt_Mx_wired (pc := 17) (v := (S.1 1 0)) hx hb hK hts hinMx hown hw.1 hl18 rfl d_Mx_setWired_17 ?_
    refine lv_iconst (pc := 20) (v := 1) hx hb d_Mx_setWired_20 (by decide) ?_
    refine lv_iload_n (pc := 21) hx hb d_Mx_setWired_21 rfl (lv_at hl 1 rfl) ?_
    refine lv_ishl (pc := 22) hx hb d_Mx_setWired_22 ?_
    refine lv_iconst (pc := 23) (v := -1) hx hb d_Mx_setWired_23 (by decide) ?_
    refine lv_ixor (pc := 24) hx hb d_Mx_setWired_24 ?_
    refine lv_iand (pc := 25) hx hb d_Mx_setWired_25 ?_
    refine gk_pt_Mx_wired (pc := 26) hx hb hK hts hinMx hown hw hl18 d_Mx_setWired_26 (fun H locs hw => ?_)
    exact gr_v (pc := 29) hx hb hr hlk hK (gI S 1 (fun _ => ((S.1 1 0) &&& (((1 : Int32) <<< (p0 &&& 31)) ^^^ (-1 : Int32))))) hw hf d_Mx_setWired_29
  replace hf := hf.2 hc
  refine lv_aload_n (pc := 5) hx hb d_Mx_setWired_5 rfl (lv_at hl 0 rfl) ?_
  refine gk_gt_Mx_wired (pc := 6) (v := (S.1 1 0)) hx hb hK hts hinMx hown hw.1 hl18 rfl d_Mx_setWired_6 ?_
  refine lv_iconst (pc := 9) (v := 1) hx hb d_Mx_setWired_9 (by decide) ?_
  refine lv_iload_n (pc := 10) hx hb d_Mx_setWired_10 rfl (lv_at hl 1 rfl) ?_
  refine lv_ishl (pc := 11) hx hb d_Mx_setWired_11 ?_
  refine lv_ior (pc := 12) hx hb d_Mx_setWired_12 ?_
  refine lv_goto (pc := 13) (tgt := 26) hx hb d_Mx_setWired_13 (by decide) ?_
  refine gk_pt_Mx_wired (pc := 26) hx hb hK hts hinMx hown hw hl18 d_Mx_setWired_26 (fun H locs hw => ?_)
  exact gr_v (pc := 29) hx hb hr hlk hK (gI S 1 (fun _ => ((S.1 1 0) ||| ((1 : Int32) <<< (p0 &&& 31))))) hw hf d_Mx_setWired_29
def wp_Mx_setBounce (S : GS) (p0 : Int32) (p1 : Int32) (post : GS → Prop) : Prop := (vp_in p0 24 ∧ (post (gI S 13 (upd (S.1 13) (p0).toNatClampNeg p1))))
abbrev rm_Mx_setBounce : Room := { frames := 0, cells := 0, slots := 0, locals := 0 }
set_option maxHeartbeats 4000000 in
set_option maxRecDepth 100000 in
theorem c_Mx_setBounce (l : Launch) (D : va_G) (cI cZ cJ : ClassId) (a : Nat → Nat) (sz : Nat) (S : GS) (p0 : Int32) (p1 : Int32) (post : GS → Prop) (hf : wp_Mx_setBounce S p0 p1 post) : Met l y_Mx_setBounce ws_Mx_setBounce rm_Mx_setBounce (va_Pc [.ref (a 1), .int p0, .int p1] (gPre D (tys cI cZ cJ) (gkW cI cZ cJ a S) sz)) (va_Qv post (gB D (tys cI cZ cJ) (gkW cI cZ cJ a) (va_A (gkW cI cZ cJ a S) sz)) (va_A (gkW cI cZ cJ a S) sz)) 0 0 (va_A (gkW cI cZ cJ a S) sz) := by
  refine gm_w (QF := fun A => va_Qv post (gB D (tys cI cZ cJ) (gkW cI cZ cJ a) A) A) (cc := b_Mx_setBounce) (maxL := 3) (by decide) rfl (Nat.le_of_ble_eq_true rfl) ?_
  intro p e s m args below meth c A ls hx hb hr hts hown hmn hlk hml hK hA hw hl
  have hl : lv_has ls 3 [(0, .ref (a 1)), (1, .int p0), (2, .int p1)] := hl
  have hinMx : ∀ w ∈ u_ws R_Mx T_Mx 6, w ∈ ws_Mx_setBounce := fun w h => List.mem_cons_of_mem _ (tl_Mx w h)
  have hl9 := hts _ (List.mem_cons_of_mem _ tf_Mx_9)
  unfold wp_Mx_setBounce at hf
  refine lv_aload_n (pc := 0) hx hb d_Mx_setBounce_0 rfl (lv_at hl 0 rfl) ?_
  refine gk_gt_Mx_bounces (pc := 1) hx hb hK hts hinMx hown hw.1 hl9 d_Mx_setBounce_1 ?_
  refine lv_iload_n (pc := 4) hx hb d_Mx_setBounce_4 rfl (lv_at hl 1 rfl) ?_
  refine lv_iload_n (pc := 5) hx hb d_Mx_setBounce_5 rfl (lv_at hl 2 rfl) ?_
  refine gk_st9 (pc := 6) hx hb hK hw hf.1 d_Mx_setBounce_6 (fun H locs hw => ?_)
  replace hf := hf.2
  exact gr_v (pc := 7) hx hb hr hlk hK (gI S 13 (upd (S.1 13) (p0).toNatClampNeg p1)) hw hf d_Mx_setBounce_7
def L_Mx_closedContacts_7 (post : Int32 → GS → Prop) : Nat → Int32 → Int32 → GS → Prop
  | 0, _, _, _ => False
  | n7 + 1, x1, x2, S => (((24 : Int32) ≤ x2 → (post x1 S)) ∧ (¬ (24 : Int32) ≤ x2 → (vp_in x2 24 ∧ (vp_in x2 24 ∧ (vp_in x2 24 ∧ (L_Mx_closedContacts_7 post n7 (x1 ^^^ ((((S.1 13) x2.toNatClampNeg) &&& (1 : Int32)) <<< (x2 &&& 31))) (x2 + (1 : Int32)) (gI S 13 (upd (S.1 13) (x2).toNatClampNeg (((S.1 13) x2.toNatClampNeg) >>> ((1 : Int32) &&& 31))))))))))
def wp_Mx_closedContacts (S : GS) (post : Int32 → GS → Prop) : Prop := (∃ q7, L_Mx_closedContacts_7 post q7 (S.1 1 0) (0 : Int32) S)
abbrev rm_Mx_closedContacts : Room := { frames := 0, cells := 0, slots := 0, locals := 0 }
set_option maxHeartbeats 4000000 in
set_option maxRecDepth 100000 in
theorem c_Mx_closedContacts (l : Launch) (D : va_G) (cI cZ cJ : ClassId) (a : Nat → Nat) (sz : Nat) (S : GS) (post : Int32 → GS → Prop) (hf : wp_Mx_closedContacts S post) : Met l y_Mx_closedContacts ws_Mx_closedContacts rm_Mx_closedContacts (va_Pc [.ref (a 1)] (gPre D (tys cI cZ cJ) (gkW cI cZ cJ a S) sz)) (va_Qi post (gB D (tys cI cZ cJ) (gkW cI cZ cJ a) (va_A (gkW cI cZ cJ a S) sz)) (va_A (gkW cI cZ cJ a S) sz)) 0 0 (va_A (gkW cI cZ cJ a S) sz) := by
  refine gm_w (QF := fun A => va_Qi post (gB D (tys cI cZ cJ) (gkW cI cZ cJ a) A) A) (cc := b_Mx_closedContacts) (maxL := 3) (by decide) rfl (Nat.le_of_ble_eq_true rfl) ?_
  intro p e s m args below meth c A ls hx hb hr hts hown hmn hlk hml hK hA hw hl
  have hl : lv_has ls 3 [(0, .ref (a 1))] := hl
  have hinMx : ∀ w ∈ u_ws R_Mx T_Mx 6, w ∈ ws_Mx_closedContacts := fun w h => List.mem_cons_of_mem _ (tl_Mx w h)
  have hl9 := hts _ (List.mem_cons_of_mem _ tf_Mx_9)
  have hl18 := hts _ (List.mem_cons_of_mem _ tf_Mx_18)
  unfold wp_Mx_closedContacts at hf
  refine lv_aload_n (pc := 0) hx hb d_Mx_closedContacts_0 rfl (lv_at hl 0 rfl) ?_
  refine gk_gt_Mx_wired (pc := 1) (v := (S.1 1 0)) hx hb hK hts hinMx hown hw.1 hl18 rfl d_Mx_closedContacts_1 ?_
  refine lv_istore_n (pc := 4) (lv' := [(1, .int (S.1 1 0)), (0, .ref (a 1))]) hx hb d_Mx_closedContacts_4 rfl hl (by decide) rfl (fun ls hl => ?_)
  refine lv_iconst (pc := 5) (v := 0) hx hb d_Mx_closedContacts_5 (by decide) ?_
  refine lv_istore_n (pc := 6) (lv' := [(2, .int (0 : Int32)), (1, .int (S.1 1 0)), (0, .ref (a 1))]) hx hb d_Mx_closedContacts_6 rfl hl (by decide) rfl (fun ls hl => ?_)
  obtain ⟨q7, hf⟩ := hf
  have lp7 : ∀ (n7 : Nat) (x1 : Int32) (x2 : Int32) (S : GS) (H : Heap) (locs : List Loc) (ls : Array Slot), lv_has ls 3 [(0, .ref (a 1)), (1, .int x1), (2, .int x2)] → wf D A s.heap (gkW cI cZ cJ a S) H locs → L_Mx_closedContacts_7 post n7 x1 x2 S → W p l e rm_Mx_closedContacts s m args below meth c H locs 0 0 (MQ below (va_Qi post (gB D (tys cI cZ cJ) (gkW cI cZ cJ a) A) A) args s 0 0 A) (F0 m 7 ls []) := by
    intro n7
    induction n7 with
    | zero => intro x1 x2 S H locs ls hl hw hf; exact False.elim hf
    | succ n7 ih7 =>
      intro x1 x2 S H locs ls hl hw hf
      unfold L_Mx_closedContacts_7 at hf
      refine lv_iload_n (pc := 7) hx hb d_Mx_closedContacts_7 rfl (lv_at hl 2 rfl) ?_
      refine lv_bipush (pc := 8) (v := 24) hx hb d_Mx_closedContacts_8 (by decide) ?_
      refine lv_icmp_ge (pc := 10) (tgt := 42) hx hb d_Mx_closedContacts_10 (by decide) (fun hc => ?_) (fun hc => ?_)
      · replace hf := hf.1 hc
        refine lv_iload_n (pc := 42) hx hb d_Mx_closedContacts_42 rfl (lv_at hl 1 rfl) ?_
        exact gr_i (pc := 43) hx hb hr hlk hK S hw hf d_Mx_closedContacts_43
      replace hf := hf.2 hc
      refine lv_iload_n (pc := 13) hx hb d_Mx_closedContacts_13 rfl (lv_at hl 1 rfl) ?_
      refine lv_aload_n (pc := 14) hx hb d_Mx_closedContacts_14 rfl (lv_at hl 0 rfl) ?_
      refine gk_gt_Mx_bounces (pc := 15) hx hb hK hts hinMx hown hw.1 hl9 d_Mx_closedContacts_15 ?_
      refine lv_iload_n (pc := 18) hx hb d_Mx_closedContacts_18 rfl (lv_at hl 2 rfl) ?_
      refine gk_ld9 (pc := 19) (v := ((S.1 13) x2.toNatClampNeg)) hx hb hK hw.1 hf.1 rfl d_Mx_closedContacts_19 ?_
      replace hf := hf.2
      refine lv_iconst (pc := 20) (v := 1) hx hb d_Mx_closedContacts_20 (by decide) ?_
      refine lv_iand (pc := 21) hx hb d_Mx_closedContacts_21 ?_
      refine lv_iload_n (pc := 22) hx hb d_Mx_closedContacts_22 rfl (lv_at hl 2 rfl) ?_
      refine lv_ishl (pc := 23) hx hb d_Mx_closedContacts_23 ?_
      refine lv_ixor (pc := 24) hx hb d_Mx_closedContacts_24 ?_
      refine lv_istore_n (pc := 25) (lv' := [(1, .int (x1 ^^^ ((((S.1 13) x2.toNatClampNeg) &&& (1 : Int32)) <<< (x2 &&& 31)))), (0, .ref (a 1)), (2, .int x2)]) hx hb d_Mx_closedContacts_25 rfl hl (by decide) rfl (fun ls hl => ?_)
      refine lv_aload_n (pc := 26) hx hb d_Mx_closedContacts_26 rfl (lv_at hl 1 rfl) ?_
      refine gk_gt_Mx_bounces (pc := 27) hx hb hK hts hinMx hown hw.1 hl9 d_Mx_closedContacts_27 ?_
      refine lv_iload_n (pc := 30) hx hb d_Mx_closedContacts_30 rfl (lv_at hl 2 rfl) ?_
      refine lv_dup2_11 (pc := 31) hx hb d_Mx_closedContacts_31 rfl rfl ?_
      refine gk_ld9 (pc := 32) (v := ((S.1 13) x2.toNatClampNeg)) hx hb hK hw.1 hf.1 rfl d_Mx_closedContacts_32 ?_
      replace hf := hf.2
      refine lv_iconst (pc := 33) (v := 1) hx hb d_Mx_closedContacts_33 (by decide) ?_
      refine lv_ishr (pc := 34) hx hb d_Mx_closedContacts_34 ?_
      refine gk_st9 (pc := 35) hx hb hK hw hf.1 d_Mx_closedContacts_35 (fun H locs hw => ?_)
      replace hf := hf.2
      refine lv_iinc (pc := 36) (k := 2) (v := (x2 + (1 : Int32))) (lv' := [(2, .int (x2 + (1 : Int32))), (1, .int (x1 ^^^ ((((S.1 13) x2.toNatClampNeg) &&& (1 : Int32)) <<< (x2 &&& 31)))), (0, .ref (a 1))]) hx hb d_Mx_closedContacts_36 hl rfl rfl (by decide) rfl (fun ls hl => ?_)
      refine lv_goto (pc := 39) (tgt := 7) hx hb d_Mx_closedContacts_39 (by decide) ?_
      exact ih7 (x1 ^^^ ((((S.1 13) x2.toNatClampNeg) &&& (1 : Int32)) <<< (x2 &&& 31))) (x2 + (1 : Int32)) (gI S 13 (upd (S.1 13) (x2).toNatClampNeg (((S.1 13) x2.toNatClampNeg) >>> ((1 : Int32) &&& 31)))) _ _ _ (lv_sub hl [2, 1, 0] rfl) hw hf
  exact lp7 q7 (S.1 1 0) (0 : Int32) S _ _ _ (lv_sub hl [2, 1, 0] rfl) hw hf
def wp_Mx_rowOf (p0 : Int32) (p1 : Int32) (post : Int32 → Prop) : Prop := (post ((p0 >>> ((p1 * (6 : Int32)) &&& 31)) &&& (63 : Int32)))
abbrev rm_Mx_rowOf : Room := { frames := 0, cells := 0, slots := 0, locals := 0 }
set_option maxHeartbeats 4000000 in
set_option maxRecDepth 100000 in
theorem c_Mx_rowOf (l : Launch) (p0 : Int32) (p1 : Int32) (post : Int32 → Prop) (hf : wp_Mx_rowOf p0 p1 post) : Met l y_Mx_rowOf ws_Mx_rowOf rm_Mx_rowOf (va_Pc [.int p0, .int p1] (fun _ => True)) (vp_Si post) 0 0 (fun _ => False) := by
  refine gm_p (cc := b_Mx_rowOf) (maxL := 2) (by decide) rfl (Nat.le_of_ble_eq_true rfl) ?_
  intro p e s m args below meth c ls hx hb hr hts hown hlk hml hl
  have hl : lv_has ls 2 [(0, .int p0), (1, .int p1)] := hl
  unfold wp_Mx_rowOf at hf
  refine lv_iload_n (pc := 0) hx hb d_Mx_rowOf_0 rfl (lv_at hl 0 rfl) ?_
  refine lv_iload_n (pc := 1) hx hb d_Mx_rowOf_1 rfl (lv_at hl 1 rfl) ?_
  refine lv_bipush (pc := 2) (v := 6) hx hb d_Mx_rowOf_2 (by decide) ?_
  refine lv_imul (pc := 4) hx hb d_Mx_rowOf_4 ?_
  refine lv_ishr (pc := 5) hx hb d_Mx_rowOf_5 ?_
  refine lv_bipush (pc := 6) (v := 63) hx hb d_Mx_rowOf_6 (by decide) ?_
  refine lv_iand (pc := 8) hx hb d_Mx_rowOf_8 ?_
  exact rr_i (pc := 9) hx hb hr hlk hf d_Mx_rowOf_9
def L_Mx_isFourthCorner_26 (post : Int32 → Prop) : Nat → Int32 → Int32 → Int32 → Int32 → Int32 → Int32 → Prop
  | 0, _, _, _, _, _, _ => False
  | n26 + 1, x0, x1, x2, x3, x4, x5 => (((4 : Int32) ≤ x5 → (post (0 : Int32))) ∧ (¬ (4 : Int32) ≤ x5 → (wp_Mx_rowOf x1 x5 (fun r35 => ((x5 = x2 → (L_Mx_isFourthCorner_26 post n26 x0 x1 x2 x3 x4 (x5 + (1 : Int32)))) ∧ (¬ x5 = x2 → ((((r35 >>> (x3 &&& 31)) &&& (1 : Int32)) = (0 : Int32) → (L_Mx_isFourthCorner_26 post n26 x0 x1 x2 x3 x4 (x5 + (1 : Int32)))) ∧ (¬ ((r35 >>> (x3 &&& 31)) &&& (1 : Int32)) = (0 : Int32) → (((r35 &&& x4) = (0 : Int32) → (L_Mx_isFourthCorner_26 post n26 x0 x1 x2 x3 x4 (x5 + (1 : Int32)))) ∧ (¬ (r35 &&& x4) = (0 : Int32) → (post (1 : Int32))))))))))))
def wp_Mx_isFourthCorner (p0 : Int32) (p1 : Int32) (post : Int32 → Prop) : Prop := (wp_Mx_rowOf p1 (p0 / (6 : Int32)) (fun r12 => (∃ q26, L_Mx_isFourthCorner_26 post q26 p0 p1 (p0 / (6 : Int32)) (p0 - p0 / (6 : Int32) * (6 : Int32)) (r12 &&& (((1 : Int32) <<< ((p0 - p0 / (6 : Int32) * (6 : Int32)) &&& 31)) ^^^ (-1 : Int32))) (0 : Int32))))
abbrev rm_Mx_isFourthCorner : Room := { frames := 1, cells := 0, slots := 0, locals := 21 }
set_option maxHeartbeats 4000000 in
set_option maxRecDepth 100000 in
theorem c_Mx_isFourthCorner (l : Launch) (p0 : Int32) (p1 : Int32) (post : Int32 → Prop) (hf : wp_Mx_isFourthCorner p0 p1 post) : Met l y_Mx_isFourthCorner ws_Mx_isFourthCorner rm_Mx_isFourthCorner (va_Pc [.int p0, .int p1] (fun _ => True)) (vp_Si post) 0 0 (fun _ => False) := by
  refine gm_p (cc := b_Mx_isFourthCorner) (maxL := 7) (by decide) rfl (Nat.le_of_ble_eq_true rfl) ?_
  intro p e s m args below meth c ls hx hb hr hts hown hlk hml hl
  have hl : lv_has ls 7 [(0, .int p0), (1, .int p1)] := hl
  unfold wp_Mx_isFourthCorner at hf
  refine lv_iload_n (pc := 0) hx hb d_Mx_isFourthCorner_0 rfl (lv_at hl 0 rfl) ?_
  refine lv_bipush (pc := 1) (v := 6) hx hb d_Mx_isFourthCorner_1 (by decide) ?_
  refine lv_idiv (pc := 3) hx hb d_Mx_isFourthCorner_3 (by decide) ?_
  refine lv_istore_n (pc := 4) (lv' := [(2, .int (p0 / (6 : Int32))), (0, .int p0), (1, .int p1)]) hx hb d_Mx_isFourthCorner_4 rfl hl (by decide) rfl (fun ls hl => ?_)
  refine lv_iload_n (pc := 5) hx hb d_Mx_isFourthCorner_5 rfl (lv_at hl 1 rfl) ?_
  refine lv_bipush (pc := 6) (v := 6) hx hb d_Mx_isFourthCorner_6 (by decide) ?_
  refine lv_irem (pc := 8) hx hb d_Mx_isFourthCorner_8 (by decide) ?_
  refine lv_istore_n (pc := 9) (lv' := [(3, .int (p0 - p0 / (6 : Int32) * (6 : Int32))), (2, .int (p0 / (6 : Int32))), (0, .int p0), (1, .int p1)]) hx hb d_Mx_isFourthCorner_9 rfl hl (by decide) rfl (fun ls hl => ?_)
  refine lv_iload_n (pc := 10) hx hb d_Mx_isFourthCorner_10 rfl (lv_at hl 3 rfl) ?_
  refine lv_iload_n (pc := 11) hx hb d_Mx_isFourthCorner_11 rfl (lv_at hl 1 rfl) ?_
  refine vp_callSi (pc := 12) (W.runS (As := [.int p1, .int (p0 / (6 : Int32))]) (rest := []) ⟨hx, hb, hml, hown, hts⟩ (c_Mx_rowOf l _ _ _ hf) (cwS 2 hts (tb_wsS tc_Mx_rowOf tm_Mx_43 ts_Mx_rowOf tz_Mx) rfl rfl rfl (by decide +kernel) ⟨Nat.le_of_ble_eq_true rfl, Nat.le_of_ble_eq_true rfl⟩) p_preS rfl rfl hl.1 rfl (lv_room (Nat.le_of_ble_eq_true rfl)) d_Mx_isFourthCorner_12 ⟨Nat.zero_le _, Nat.zero_le _⟩) (fun r12 hf => ?_)
  refine lv_iconst (pc := 15) (v := 1) hx hb d_Mx_isFourthCorner_15 (by decide) ?_
  refine lv_iload_n (pc := 16) hx hb d_Mx_isFourthCorner_16 rfl (lv_at hl 0 rfl) ?_
  refine lv_ishl (pc := 17) hx hb d_Mx_isFourthCorner_17 ?_
  refine lv_iconst (pc := 18) (v := -1) hx hb d_Mx_isFourthCorner_18 (by decide) ?_
  refine lv_ixor (pc := 19) hx hb d_Mx_isFourthCorner_19 ?_
  refine lv_iand (pc := 20) hx hb d_Mx_isFourthCorner_20 ?_
  refine lv_istore (pc := 21) (lv' := [(4, .int (r12 &&& (((1 : Int32) <<< ((p0 - p0 / (6 : Int32) * (6 : Int32)) &&& 31)) ^^^ (-1 : Int32)))), (3, .int (p0 - p0 / (6 : Int32) * (6 : Int32))), (2, .int (p0 / (6 : Int32))), (0, .int p0), (1, .int p1)]) hx hb d_Mx_isFourthCorner_21 hl (by decide) rfl (fun ls hl => ?_)
  refine lv_iconst (pc := 23) (v := 0) hx hb d_Mx_isFourthCorner_23 (by decide) ?_
  refine lv_istore (pc := 24) (lv' := [(5, .int (0 : Int32)), (4, .int (r12 &&& (((1 : Int32) <<< ((p0 - p0 / (6 : Int32) * (6 : Int32)) &&& 31)) ^^^ (-1 : Int32)))), (3, .int (p0 - p0 / (6 : Int32) * (6 : Int32))), (2, .int (p0 / (6 : Int32))), (0, .int p0), (1, .int p1)]) hx hb d_Mx_isFourthCorner_24 hl (by decide) rfl (fun ls hl => ?_)
  obtain ⟨q26, hf⟩ := hf
  have lp26 : ∀ (n26 : Nat) (x0 : Int32) (x1 : Int32) (x2 : Int32) (x3 : Int32) (x4 : Int32) (x5 : Int32) (ls : Array Slot), lv_has ls 7 [(0, .int x0), (1, .int x1), (2, .int x2), (3, .int x3), (4, .int x4), (5, .int x5)] → L_Mx_isFourthCorner_26 post n26 x0 x1 x2 x3 x4 x5 → W p l e rm_Mx_isFourthCorner s m args below meth c s.heap [] 0 0 (MQ below (vp_Si post) args s 0 0 (fun _ => False)) (F0 m 26 ls []) := by
    intro n26
    induction n26 with
    | zero => intro x0 x1 x2 x3 x4 x5 ls hl hf; exact False.elim hf
    | succ n26 ih26 =>
      intro x0 x1 x2 x3 x4 x5 ls hl hf
      unfold L_Mx_isFourthCorner_26 at hf
      refine lv_iload (pc := 26) hx hb d_Mx_isFourthCorner_26 (lv_at hl 5 rfl) ?_
      refine lv_iconst (pc := 28) (v := 4) hx hb d_Mx_isFourthCorner_28 (by decide) ?_
      refine lv_icmp_ge (pc := 29) (tgt := 71) hx hb d_Mx_isFourthCorner_29 (by decide) (fun hc => ?_) (fun hc => ?_)
      · replace hf := hf.1 hc
        refine lv_iconst (pc := 71) (v := 0) hx hb d_Mx_isFourthCorner_71 (by decide) ?_
        exact rr_z (pc := 72) hx hb hr hlk (by decide) hf d_Mx_isFourthCorner_72
      replace hf := hf.2 hc
      refine lv_iload_n (pc := 32) hx hb d_Mx_isFourthCorner_32 rfl (lv_at hl 1 rfl) ?_
      refine lv_iload (pc := 33) hx hb d_Mx_isFourthCorner_33 (lv_at hl 5 rfl) ?_
      refine vp_callSi (pc := 35) (W.runS (As := [.int x1, .int x5]) (rest := []) ⟨hx, hb, hml, hown, hts⟩ (c_Mx_rowOf l _ _ _ hf) (cwS 2 hts (tb_wsS tc_Mx_rowOf tm_Mx_43 ts_Mx_rowOf tz_Mx) rfl rfl rfl (by decide +kernel) ⟨Nat.le_of_ble_eq_true rfl, Nat.le_of_ble_eq_true rfl⟩) p_preS rfl rfl hl.1 rfl (lv_room (Nat.le_of_ble_eq_true rfl)) d_Mx_isFourthCorner_35 ⟨Nat.zero_le _, Nat.zero_le _⟩) (fun r35 hf => ?_)
      refine lv_istore (pc := 38) (lv' := [(6, .int r35), (0, .int x0), (1, .int x1), (2, .int x2), (3, .int x3), (4, .int x4), (5, .int x5)]) hx hb d_Mx_isFourthCorner_38 hl (by decide) rfl (fun ls hl => ?_)
      refine lv_iload (pc := 40) hx hb d_Mx_isFourthCorner_40 (lv_at hl 6 rfl) ?_
      refine lv_iload_n (pc := 42) hx hb d_Mx_isFourthCorner_42 rfl (lv_at hl 3 rfl) ?_
      refine lv_icmp_eq (pc := 43) (tgt := 65) hx hb d_Mx_isFourthCorner_43 (by decide) (fun hc => ?_) (fun hc => ?_)
      · replace hf := hf.1 hc
        refine lv_iinc (pc := 65) (k := 6) (v := (x5 + (1 : Int32))) (lv' := [(5, .int (x5 + (1 : Int32))), (6, .int r35), (0, .int x0), (1, .int x1), (2, .int x2), (3, .int x3), (4, .int x4)]) hx hb d_Mx_isFourthCorner_65 hl rfl rfl (by decide) rfl (fun ls hl => ?_)
        refine lv_goto (pc := 68) (tgt := 26) hx hb d_Mx_isFourthCorner_68 (by decide) ?_
        exact ih26 x0 x1 x2 x3 x4 (x5 + (1 : Int32)) _ (lv_sub hl [2, 3, 4, 5, 6, 0] rfl) hf
      replace hf := hf.2 hc
      refine lv_iload (pc := 46) hx hb d_Mx_isFourthCorner_46 (lv_at hl 0 rfl) ?_
      refine lv_iload_n (pc := 48) hx hb d_Mx_isFourthCorner_48 rfl (lv_at hl 4 rfl) ?_
      refine lv_ishr (pc := 49) hx hb d_Mx_isFourthCorner_49 ?_
      refine lv_iconst (pc := 50) (v := 1) hx hb d_Mx_isFourthCorner_50 (by decide) ?_
      refine lv_iand (pc := 51) hx hb d_Mx_isFourthCorner_51 ?_
      refine lv_if_eq (pc := 52) (tgt := 65) hx hb d_Mx_isFourthCorner_52 (by decide) (fun hc => ?_) (fun hc => ?_)
      · replace hf := hf.1 hc
        refine lv_iinc (pc := 65) (k := 6) (v := (x5 + (1 : Int32))) (lv' := [(5, .int (x5 + (1 : Int32))), (6, .int r35), (0, .int x0), (1, .int x1), (2, .int x2), (3, .int x3), (4, .int x4)]) hx hb d_Mx_isFourthCorner_65 hl rfl rfl (by decide) rfl (fun ls hl => ?_)
        refine lv_goto (pc := 68) (tgt := 26) hx hb d_Mx_isFourthCorner_68 (by decide) ?_
        exact ih26 x0 x1 x2 x3 x4 (x5 + (1 : Int32)) _ (lv_sub hl [2, 3, 4, 5, 6, 0] rfl) hf
      replace hf := hf.2 hc
      refine lv_iload (pc := 55) hx hb d_Mx_isFourthCorner_55 (lv_at hl 0 rfl) ?_
      refine lv_iload (pc := 57) hx hb d_Mx_isFourthCorner_57 (lv_at hl 5 rfl) ?_
      refine lv_iand (pc := 59) hx hb d_Mx_isFourthCorner_59 ?_
      refine lv_if_eq (pc := 60) (tgt := 65) hx hb d_Mx_isFourthCorner_60 (by decide) (fun hc => ?_) (fun hc => ?_)
      · replace hf := hf.1 hc
        refine lv_iinc (pc := 65) (k := 6) (v := (x5 + (1 : Int32))) (lv' := [(5, .int (x5 + (1 : Int32))), (6, .int r35), (0, .int x0), (1, .int x1), (2, .int x2), (3, .int x3), (4, .int x4)]) hx hb d_Mx_isFourthCorner_65 hl rfl rfl (by decide) rfl (fun ls hl => ?_)
        refine lv_goto (pc := 68) (tgt := 26) hx hb d_Mx_isFourthCorner_68 (by decide) ?_
        exact ih26 x0 x1 x2 x3 x4 (x5 + (1 : Int32)) _ (lv_sub hl [2, 3, 4, 5, 6, 0] rfl) hf
      replace hf := hf.2 hc
      refine lv_iconst (pc := 63) (v := 1) hx hb d_Mx_isFourthCorner_63 (by decide) ?_
      exact rr_z (pc := 64) hx hb hr hlk (by decide) hf d_Mx_isFourthCorner_64
  exact lp26 q26 p0 p1 (p0 / (6 : Int32)) (p0 - p0 / (6 : Int32) * (6 : Int32)) (r12 &&& (((1 : Int32) <<< ((p0 - p0 / (6 : Int32) * (6 : Int32)) &&& 31)) ^^^ (-1 : Int32))) (0 : Int32) _ (lv_sub hl [4, 5, 3, 2, 1, 0] rfl) hf
def J_Mx_watch_35 (post : GS → Prop) (x1 : Int32) (x2 : Int32) (y1 : Int32) (y2 : Int32) (S : GS) : Prop := (vp_in y1 24 ∧ (vp_in x1 24 ∧ ((((upd (S.1 14) (y1).toNatClampNeg y2) x1.toNatClampNeg) = (5 : Int32) → (vp_in x1 24 ∧ (post (gI (gI (gI S 14 (upd (S.1 14) (y1).toNatClampNeg y2)) 3 (fun _ => ((S.1 3 0) ^^^ x2))) 14 (upd (upd (S.1 14) (y1).toNatClampNeg y2) (x1).toNatClampNeg (0 : Int32)))))) ∧ (¬ ((upd (S.1 14) (y1).toNatClampNeg y2) x1.toNatClampNeg) = (5 : Int32) → (post (gI S 14 (upd (S.1 14) (y1).toNatClampNeg y2)))))))
def wp_Mx_watch (S : GS) (p0 : Int32) (post : GS → Prop) : Prop := (((((S.1 2 0) ^^^ (S.1 3 0)) &&& ((1 : Int32) <<< (p0 &&& 31))) = (0 : Int32) → (J_Mx_watch_35 post p0 ((1 : Int32) <<< (p0 &&& 31)) p0 (0 : Int32) S)) ∧ (¬ (((S.1 2 0) ^^^ (S.1 3 0)) &&& ((1 : Int32) <<< (p0 &&& 31))) = (0 : Int32) → (vp_in p0 24 ∧ (J_Mx_watch_35 post p0 ((1 : Int32) <<< (p0 &&& 31)) p0 (((S.1 14) p0.toNatClampNeg) + (1 : Int32)) S))))
abbrev rm_Mx_watch : Room := { frames := 0, cells := 0, slots := 0, locals := 0 }
set_option maxHeartbeats 4000000 in
set_option maxRecDepth 100000 in
theorem c_Mx_watch (l : Launch) (D : va_G) (cI cZ cJ : ClassId) (a : Nat → Nat) (sz : Nat) (S : GS) (p0 : Int32) (post : GS → Prop) (hf : wp_Mx_watch S p0 post) : Met l y_Mx_watch ws_Mx_watch rm_Mx_watch (va_Pc [.ref (a 1), .int p0] (gPre D (tys cI cZ cJ) (gkW cI cZ cJ a S) sz)) (va_Qv post (gB D (tys cI cZ cJ) (gkW cI cZ cJ a) (va_A (gkW cI cZ cJ a S) sz)) (va_A (gkW cI cZ cJ a S) sz)) 0 0 (va_A (gkW cI cZ cJ a S) sz) := by
  refine gm_w (QF := fun A => va_Qv post (gB D (tys cI cZ cJ) (gkW cI cZ cJ a) A) A) (cc := b_Mx_watch) (maxL := 3) (by decide) rfl (Nat.le_of_ble_eq_true rfl) ?_
  intro p e s m args below meth c A ls hx hb hr hts hown hmn hlk hml hK hA hw hl
  have hl : lv_has ls 3 [(0, .ref (a 1)), (1, .int p0)] := hl
  have hinMx : ∀ w ∈ u_ws R_Mx T_Mx 6, w ∈ ws_Mx_watch := fun w h => List.mem_cons_of_mem _ (tl_Mx w h)
  have hl15 := hts _ (List.mem_cons_of_mem _ tf_Mx_15)
  have hl22 := hts _ (List.mem_cons_of_mem _ tf_Mx_22)
  have hl25 := hts _ (List.mem_cons_of_mem _ tf_Mx_25)
  have jn35 : ∀ (x1 : Int32) (x2 : Int32) (y1 : Int32) (y2 : Int32) (S : GS) (H : Heap) (locs : List Loc) (ls : Array Slot), lv_has ls 3 [(0, .ref (a 1)), (1, .int x1), (2, .int x2)] → wf D A s.heap (gkW cI cZ cJ a S) H locs → J_Mx_watch_35 post x1 x2 y1 y2 S → W p l e rm_Mx_watch s m args below meth c H locs 0 0 (MQ below (va_Qv post (gB D (tys cI cZ cJ) (gkW cI cZ cJ a) A) A) args s 0 0 A) (F0 m 35 ls [.int y2, .int y1, .ref (a 10)]) := by
    intro x1 x2 y1 y2 S H locs ls hl hw hf
    unfold J_Mx_watch_35 at hf
    refine gk_st10 (pc := 35) hx hb hK hw hf.1 d_Mx_watch_35 (fun H locs hw => ?_)
    replace hf := hf.2
    refine lv_aload_n (pc := 36) hx hb d_Mx_watch_36 rfl (lv_at hl 0 rfl) ?_
    refine gk_gt_Mx_otherwise (pc := 37) hx hb hK hts hinMx hown hw.1 hl15 d_Mx_watch_37 ?_
    refine lv_iload_n (pc := 40) hx hb d_Mx_watch_40 rfl (lv_at hl 1 rfl) ?_
    refine gk_ld10 (pc := 41) (v := ((upd (S.1 14) (y1).toNatClampNeg y2) x1.toNatClampNeg)) hx hb hK hw.1 hf.1 rfl d_Mx_watch_41 ?_
    replace hf := hf.2
    refine lv_iconst (pc := 42) (v := 5) hx hb d_Mx_watch_42 (by decide) ?_
    refine lv_icmp_ne (pc := 43) (tgt := 63) hx hb d_Mx_watch_43 (by decide) (fun hc => ?_) (fun hc => ?_)
    · replace hf := hf.2 hc
      exact gr_v (pc := 63) hx hb hr hlk hK (gI S 14 (upd (S.1 14) (y1).toNatClampNeg y2)) hw hf d_Mx_watch_63
    replace hf := hf.1 hc
    refine lv_aload_n (pc := 46) hx hb d_Mx_watch_46 rfl (lv_at hl 0 rfl) ?_
    refine lv_dup (pc := 47) hx hb d_Mx_watch_47 rfl ?_
    refine gk_gt_Mx_seen (pc := 48) (v := (S.1 3 0)) hx hb hK hts hinMx hown hw.1 hl25 rfl d_Mx_watch_48 ?_
    refine lv_iload_n (pc := 51) hx hb d_Mx_watch_51 rfl (lv_at hl 2 rfl) ?_
    refine lv_ixor (pc := 52) hx hb d_Mx_watch_52 ?_
    refine gk_pt_Mx_seen (pc := 53) hx hb hK hts hinMx hown hw hl25 d_Mx_watch_53 (fun H locs hw => ?_)
    refine lv_aload_n (pc := 56) hx hb d_Mx_watch_56 rfl (lv_at hl 0 rfl) ?_
    refine gk_gt_Mx_otherwise (pc := 57) hx hb hK hts hinMx hown hw.1 hl15 d_Mx_watch_57 ?_
    refine lv_iload_n (pc := 60) hx hb d_Mx_watch_60 rfl (lv_at hl 1 rfl) ?_
    refine lv_iconst (pc := 61) (v := 0) hx hb d_Mx_watch_61 (by decide) ?_
    refine gk_st10 (pc := 62) hx hb hK hw hf.1 d_Mx_watch_62 (fun H locs hw => ?_)
    replace hf := hf.2
    have hw : wf D A s.heap (gkW cI cZ cJ a (gI (gI (gI S 14 (upd (S.1 14) (y1).toNatClampNeg y2)) 3 (fun _ => ((S.1 3 0) ^^^ x2))) 14 (upd (upd (S.1 14) (y1).toNatClampNeg y2) (x1).toNatClampNeg (0 : Int32)))) H locs := hw
    exact gr_v (pc := 63) hx hb hr hlk hK (gI (gI (gI S 14 (upd (S.1 14) (y1).toNatClampNeg y2)) 3 (fun _ => ((S.1 3 0) ^^^ x2))) 14 (upd (upd (S.1 14) (y1).toNatClampNeg y2) (x1).toNatClampNeg (0 : Int32))) hw hf d_Mx_watch_63
  unfold wp_Mx_watch at hf
  refine lv_iconst (pc := 0) (v := 1) hx hb d_Mx_watch_0 (by decide) ?_
  refine lv_iload_n (pc := 1) hx hb d_Mx_watch_1 rfl (lv_at hl 1 rfl) ?_
  refine lv_ishl (pc := 2) hx hb d_Mx_watch_2 ?_
  refine lv_istore_n (pc := 3) (lv' := [(2, .int ((1 : Int32) <<< (p0 &&& 31))), (0, .ref (a 1)), (1, .int p0)]) hx hb d_Mx_watch_3 rfl hl (by decide) rfl (fun ls hl => ?_)
  refine lv_aload_n (pc := 4) hx hb d_Mx_watch_4 rfl (lv_at hl 1 rfl) ?_
  refine gk_gt_Mx_otherwise (pc := 5) hx hb hK hts hinMx hown hw.1 hl15 d_Mx_watch_5 ?_
  refine lv_iload_n (pc := 8) hx hb d_Mx_watch_8 rfl (lv_at hl 2 rfl) ?_
  refine lv_aload_n (pc := 9) hx hb d_Mx_watch_9 rfl (lv_at hl 1 rfl) ?_
  refine gk_gt_Mx_read (pc := 10) (v := (S.1 2 0)) hx hb hK hts hinMx hown hw.1 hl22 rfl d_Mx_watch_10 ?_
  refine lv_aload_n (pc := 13) hx hb d_Mx_watch_13 rfl (lv_at hl 1 rfl) ?_
  refine gk_gt_Mx_seen (pc := 14) (v := (S.1 3 0)) hx hb hK hts hinMx hown hw.1 hl25 rfl d_Mx_watch_14 ?_
  refine lv_ixor (pc := 17) hx hb d_Mx_watch_17 ?_
  refine lv_iload_n (pc := 18) hx hb d_Mx_watch_18 rfl (lv_at hl 0 rfl) ?_
  refine lv_iand (pc := 19) hx hb d_Mx_watch_19 ?_
  refine lv_if_eq (pc := 20) (tgt := 34) hx hb d_Mx_watch_20 (by decide) (fun hc => ?_) (fun hc => ?_)
  · replace hf := hf.1 hc
    refine lv_iconst (pc := 34) (v := 0) hx hb d_Mx_watch_34 (by decide) ?_
    exact jn35 p0 ((1 : Int32) <<< (p0 &&& 31)) p0 (0 : Int32) S _ _ _ (lv_sub hl [1, 2, 0] rfl) hw hf
  replace hf := hf.2 hc
  refine lv_aload_n (pc := 23) hx hb d_Mx_watch_23 rfl (lv_at hl 1 rfl) ?_
  refine gk_gt_Mx_otherwise (pc := 24) hx hb hK hts hinMx hown hw.1 hl15 d_Mx_watch_24 ?_
  refine lv_iload_n (pc := 27) hx hb d_Mx_watch_27 rfl (lv_at hl 2 rfl) ?_
  refine gk_ld10 (pc := 28) (v := ((S.1 14) p0.toNatClampNeg)) hx hb hK hw.1 hf.1 rfl d_Mx_watch_28 ?_
  replace hf := hf.2
  refine lv_iconst (pc := 29) (v := 1) hx hb d_Mx_watch_29 (by decide) ?_
  refine lv_iadd (pc := 30) hx hb d_Mx_watch_30 ?_
  refine lv_goto (pc := 31) (tgt := 35) hx hb d_Mx_watch_31 (by decide) ?_
  exact jn35 p0 ((1 : Int32) <<< (p0 &&& 31)) p0 (((S.1 14) p0.toNatClampNeg) + (1 : Int32)) S _ _ _ (lv_sub hl [1, 2, 0] rfl) hw hf
def L_Mx_look_54 (post : GS → Prop) : Nat → Int32 → Int32 → GS → Prop
  | 0, _, _, _ => False
  | n54 + 1, x1, x2, S => (((24 : Int32) ≤ x2 → (post S)) ∧ (¬ (24 : Int32) ≤ x2 → (wp_Mx_watch S x2 (fun S62 => (L_Mx_look_54 post n54 x1 (x2 + (1 : Int32)) S62)))))
def L_Mx_look_12 (post : GS → Prop) : Nat → Int32 → Int32 → GS → Prop
  | 0, _, _, _ => False
  | n12 + 1, x1, x2, S => (((24 : Int32) ≤ x2 → (∃ q54, L_Mx_look_54 post q54 x1 (0 : Int32) S)) ∧ (¬ (24 : Int32) ≤ x2 → ((((x1 >>> (x2 &&& 31)) &&& (1 : Int32)) = (0 : Int32) → (wp_Mx_isFourthCorner x2 x1 (fun r28 => ((r28 = (0 : Int32) → (L_Mx_look_12 post n12 x1 (x2 + (1 : Int32)) S)) ∧ (¬ r28 = (0 : Int32) → (L_Mx_look_12 post n12 x1 (x2 + (1 : Int32)) (gI S 2 (fun _ => ((S.1 2 0) ||| ((1 : Int32) <<< (x2 &&& 31))))))))))) ∧ (¬ ((x1 >>> (x2 &&& 31)) &&& (1 : Int32)) = (0 : Int32) → (L_Mx_look_12 post n12 x1 (x2 + (1 : Int32)) S)))))
def wp_Mx_look (S : GS) (post : GS → Prop) : Prop := (wp_Mx_closedContacts S (fun r1 S1 => (∃ q12, L_Mx_look_12 post q12 r1 (0 : Int32) (gI S1 2 (fun _ => r1)))))
abbrev rm_Mx_look : Room := { frames := 2, cells := 0, slots := 0, locals := 47 }
set_option maxHeartbeats 4000000 in
set_option maxRecDepth 100000 in
theorem c_Mx_look (l : Launch) (D : va_G) (cI cZ cJ : ClassId) (a : Nat → Nat) (sz : Nat) (S : GS) (post : GS → Prop) (hf : wp_Mx_look S post) : Met l y_Mx_look ws_Mx_look rm_Mx_look (va_Pc [.ref (a 1)] (gPre D (tys cI cZ cJ) (gkW cI cZ cJ a S) sz)) (va_Qv post (gB D (tys cI cZ cJ) (gkW cI cZ cJ a) (va_A (gkW cI cZ cJ a S) sz)) (va_A (gkW cI cZ cJ a S) sz)) 0 0 (va_A (gkW cI cZ cJ a S) sz) := by
  refine gm_w (QF := fun A => va_Qv post (gB D (tys cI cZ cJ) (gkW cI cZ cJ a) A) A) (cc := b_Mx_look) (maxL := 3) (by decide) rfl (Nat.le_of_ble_eq_true rfl) ?_
  intro p e s m args below meth c A ls hx hb hr hts hown hmn hlk hml hK hA hw hl
  have hl : lv_has ls 3 [(0, .ref (a 1))] := hl
  have hinMx : ∀ w ∈ u_ws R_Mx T_Mx 6, w ∈ ws_Mx_look := fun w h => List.mem_cons_of_mem _ (tl_Mx w h)
  have hl22 := hts _ (List.mem_cons_of_mem _ tf_Mx_22)
  unfold wp_Mx_look at hf
  refine lv_aload_n (pc := 0) hx hb d_Mx_look_0 rfl (lv_at hl 0 rfl) ?_
  refine gc_i (pc := 1) (Wf := gkW cI cZ cJ a) hw hA (va_runV (As := []) (rest := []) ⟨hx, hb, hml, hown, hts⟩ (c_Mx_closedContacts l D cI cZ cJ a _ _ _ hf) (cwV 0 hts (tb_wsV tc_Mx_closedContacts tm_Mx_31 ti_Mx_closedContacts te_Mx_closedContacts tz_Mx) rfl rfl rfl (by decide +kernel) ⟨Nat.le_of_ble_eq_true rfl, Nat.le_of_ble_eq_true rfl⟩) (g_preV (q0 := 1) (ci := 1) hK hw rfl rfl) rfl rfl hl.1 rfl (lv_room (Nat.le_of_ble_eq_true rfl)) d_Mx_look_1 ⟨Nat.zero_le _, Nat.zero_le _⟩) (fun r1 S1 H locs hw hf => ?_)
  refine lv_istore_n (pc := 4) (lv' := [(1, .int r1), (0, .ref (a 1))]) hx hb d_Mx_look_4 rfl hl (by decide) rfl (fun ls hl => ?_)
  refine lv_aload_n (pc := 5) hx hb d_Mx_look_5 rfl (lv_at hl 1 rfl) ?_
  refine lv_iload_n (pc := 6) hx hb d_Mx_look_6 rfl (lv_at hl 0 rfl) ?_
  refine gk_pt_Mx_read (pc := 7) hx hb hK hts hinMx hown hw hl22 d_Mx_look_7 (fun H locs hw => ?_)
  refine lv_iconst (pc := 10) (v := 0) hx hb d_Mx_look_10 (by decide) ?_
  refine lv_istore_n (pc := 11) (lv' := [(2, .int (0 : Int32)), (1, .int r1), (0, .ref (a 1))]) hx hb d_Mx_look_11 rfl hl (by decide) rfl (fun ls hl => ?_)
  obtain ⟨q12, hf⟩ := hf
  have lp12 : ∀ (n12 : Nat) (x1 : Int32) (x2 : Int32) (S : GS) (H : Heap) (locs : List Loc) (ls : Array Slot), lv_has ls 3 [(0, .ref (a 1)), (1, .int x1), (2, .int x2)] → wf D A s.heap (gkW cI cZ cJ a S) H locs → L_Mx_look_12 post n12 x1 x2 S → W p l e rm_Mx_look s m args below meth c H locs 0 0 (MQ below (va_Qv post (gB D (tys cI cZ cJ) (gkW cI cZ cJ a) A) A) args s 0 0 A) (F0 m 12 ls []) := by
    intro n12
    induction n12 with
    | zero => intro x1 x2 S H locs ls hl hw hf; exact False.elim hf
    | succ n12 ih12 =>
      intro x1 x2 S H locs ls hl hw hf
      unfold L_Mx_look_12 at hf
      refine lv_iload_n (pc := 12) hx hb d_Mx_look_12 rfl (lv_at hl 2 rfl) ?_
      refine lv_bipush (pc := 13) (v := 24) hx hb d_Mx_look_13 (by decide) ?_
      refine lv_icmp_ge (pc := 15) (tgt := 52) hx hb d_Mx_look_15 (by decide) (fun hc => ?_) (fun hc => ?_)
      · replace hf := hf.1 hc
        refine lv_iconst (pc := 52) (v := 0) hx hb d_Mx_look_52 (by decide) ?_
        refine lv_istore_n (pc := 53) (lv' := [(2, .int (0 : Int32)), (0, .ref (a 1)), (1, .int x1)]) hx hb d_Mx_look_53 rfl hl (by decide) rfl (fun ls hl => ?_)
        obtain ⟨q54, hf⟩ := hf
        have lp54 : ∀ (n54 : Nat) (x1 : Int32) (x2 : Int32) (S : GS) (H : Heap) (locs : List Loc) (ls : Array Slot), lv_has ls 3 [(0, .ref (a 1)), (1, .int x1), (2, .int x2)] → wf D A s.heap (gkW cI cZ cJ a S) H locs → L_Mx_look_54 post n54 x1 x2 S → W p l e rm_Mx_look s m args below meth c H locs 0 0 (MQ below (va_Qv post (gB D (tys cI cZ cJ) (gkW cI cZ cJ a) A) A) args s 0 0 A) (F0 m 54 ls []) := by
          intro n54
          induction n54 with
          | zero => intro x1 x2 S H locs ls hl hw hf; exact False.elim hf
          | succ n54 ih54 =>
            intro x1 x2 S H locs ls hl hw hf
            unfold L_Mx_look_54 at hf
            refine lv_iload_n (pc := 54) hx hb d_Mx_look_54 rfl (lv_at hl 2 rfl) ?_
            refine lv_bipush (pc := 55) (v := 24) hx hb d_Mx_look_55 (by decide) ?_
            refine lv_icmp_ge (pc := 57) (tgt := 71) hx hb d_Mx_look_57 (by decide) (fun hc => ?_) (fun hc => ?_)
            · replace hf := hf.1 hc
              exact gr_v (pc := 71) hx hb hr hlk hK S hw hf d_Mx_look_71
            replace hf := hf.2 hc
            refine lv_aload_n (pc := 60) hx hb d_Mx_look_60 rfl (lv_at hl 0 rfl) ?_
            refine lv_iload_n (pc := 61) hx hb d_Mx_look_61 rfl (lv_at hl 2 rfl) ?_
            refine gc_v (pc := 62) (Wf := gkW cI cZ cJ a) hw hA (va_runV (As := [.int x2]) (rest := []) ⟨hx, hb, hml, hown, hts⟩ (c_Mx_watch l D cI cZ cJ a _ _ _ _ hf) (cwV 1 hts (tb_wsV tc_Mx_watch tm_Mx_39 ti_Mx_watch te_Mx_watch tz_Mx) rfl rfl rfl (by decide +kernel) ⟨Nat.le_of_ble_eq_true rfl, Nat.le_of_ble_eq_true rfl⟩) (g_preV (q0 := 1) (ci := 1) hK hw rfl rfl) rfl rfl hl.1 rfl (lv_room (Nat.le_of_ble_eq_true rfl)) d_Mx_look_62 ⟨Nat.zero_le _, Nat.zero_le _⟩) (fun S62 H locs hw hf => ?_)
            refine lv_iinc (pc := 65) (k := 2) (v := (x2 + (1 : Int32))) (lv' := [(2, .int (x2 + (1 : Int32))), (0, .ref (a 1)), (1, .int x1)]) hx hb d_Mx_look_65 hl rfl rfl (by decide) rfl (fun ls hl => ?_)
            refine lv_goto (pc := 68) (tgt := 54) hx hb d_Mx_look_68 (by decide) ?_
            exact ih54 x1 (x2 + (1 : Int32)) S62 _ _ _ (lv_sub hl [1, 2, 0] rfl) hw hf
        exact lp54 q54 x1 (0 : Int32) S _ _ _ (lv_sub hl [1, 2, 0] rfl) hw hf
      replace hf := hf.2 hc
      refine lv_iload_n (pc := 18) hx hb d_Mx_look_18 rfl (lv_at hl 1 rfl) ?_
      refine lv_iload_n (pc := 19) hx hb d_Mx_look_19 rfl (lv_at hl 2 rfl) ?_
      refine lv_ishr (pc := 20) hx hb d_Mx_look_20 ?_
      refine lv_iconst (pc := 21) (v := 1) hx hb d_Mx_look_21 (by decide) ?_
      refine lv_iand (pc := 22) hx hb d_Mx_look_22 ?_
      refine lv_if_ne (pc := 23) (tgt := 46) hx hb d_Mx_look_23 (by decide) (fun hc => ?_) (fun hc => ?_)
      · replace hf := hf.2 hc
        refine lv_iinc (pc := 46) (k := 2) (v := (x2 + (1 : Int32))) (lv' := [(2, .int (x2 + (1 : Int32))), (0, .ref (a 1)), (1, .int x1)]) hx hb d_Mx_look_46 hl rfl rfl (by decide) rfl (fun ls hl => ?_)
        refine lv_goto (pc := 49) (tgt := 12) hx hb d_Mx_look_49 (by decide) ?_
        exact ih12 x1 (x2 + (1 : Int32)) S _ _ _ (lv_sub hl [1, 2, 0] rfl) hw hf
      replace hf := hf.1 hc
      refine lv_iload_n (pc := 26) hx hb d_Mx_look_26 rfl (lv_at hl 2 rfl) ?_
      refine lv_iload_n (pc := 27) hx hb d_Mx_look_27 rfl (lv_at hl 1 rfl) ?_
      refine vp_callSi (pc := 28) (W.runS (As := [.int x2, .int x1]) (rest := []) ⟨hx, hb, hml, hown, hts⟩ (c_Mx_isFourthCorner l _ _ _ hf) (cwS 2 hts (tb_wsS tc_Mx_isFourthCorner tm_Mx_35 ts_Mx_isFourthCorner tz_Mx) rfl rfl rfl (by decide +kernel) ⟨Nat.le_of_ble_eq_true rfl, Nat.le_of_ble_eq_true rfl⟩) p_preS rfl rfl hl.1 rfl (lv_room (Nat.le_of_ble_eq_true rfl)) d_Mx_look_28 ⟨Nat.zero_le _, Nat.zero_le _⟩) (fun r28 hf => ?_)
      refine lv_if_eq (pc := 31) (tgt := 46) hx hb d_Mx_look_31 (by decide) (fun hc => ?_) (fun hc => ?_)
      · replace hf := hf.1 hc
        refine lv_iinc (pc := 46) (k := 2) (v := (x2 + (1 : Int32))) (lv' := [(2, .int (x2 + (1 : Int32))), (0, .ref (a 1)), (1, .int x1)]) hx hb d_Mx_look_46 hl rfl rfl (by decide) rfl (fun ls hl => ?_)
        refine lv_goto (pc := 49) (tgt := 12) hx hb d_Mx_look_49 (by decide) ?_
        exact ih12 x1 (x2 + (1 : Int32)) S _ _ _ (lv_sub hl [1, 2, 0] rfl) hw hf
      replace hf := hf.2 hc
      refine lv_aload_n (pc := 34) hx hb d_Mx_look_34 rfl (lv_at hl 0 rfl) ?_
      refine lv_dup (pc := 35) hx hb d_Mx_look_35 rfl ?_
      refine gk_gt_Mx_read (pc := 36) (v := (S.1 2 0)) hx hb hK hts hinMx hown hw.1 hl22 rfl d_Mx_look_36 ?_
      refine lv_iconst (pc := 39) (v := 1) hx hb d_Mx_look_39 (by decide) ?_
      refine lv_iload_n (pc := 40) hx hb d_Mx_look_40 rfl (lv_at hl 2 rfl) ?_
      refine lv_ishl (pc := 41) hx hb d_Mx_look_41 ?_
      refine lv_ior (pc := 42) hx hb d_Mx_look_42 ?_
      refine gk_pt_Mx_read (pc := 43) hx hb hK hts hinMx hown hw hl22 d_Mx_look_43 (fun H locs hw => ?_)
      refine lv_iinc (pc := 46) (k := 2) (v := (x2 + (1 : Int32))) (lv' := [(2, .int (x2 + (1 : Int32))), (0, .ref (a 1)), (1, .int x1)]) hx hb d_Mx_look_46 hl rfl rfl (by decide) rfl (fun ls hl => ?_)
      refine lv_goto (pc := 49) (tgt := 12) hx hb d_Mx_look_49 (by decide) ?_
      exact ih12 x1 (x2 + (1 : Int32)) (gI S 2 (fun _ => ((S.1 2 0) ||| ((1 : Int32) <<< (x2 &&& 31))))) _ _ _ (lv_sub hl [1, 2, 0] rfl) hw hf
  exact lp12 q12 r1 (0 : Int32) (gI S1 2 (fun _ => r1)) _ _ _ (lv_sub hl [2, 1, 0] rfl) hw hf
def wp_Mx_believe (S : GS) (p0 : Int32) (post : Int32 → GS → Prop) : Prop := (((((S.1 4 0) &&& ((S.1 3 0) ^^^ (-1 : Int32))) &&& ((1 : Int32) <<< (p0 &&& 31))) = (0 : Int32) → (((((S.1 3 0) &&& ((S.1 4 0) ^^^ (-1 : Int32))) &&& ((1 : Int32) <<< (p0 &&& 31))) = (0 : Int32) → (post (-1 : Int32) S)) ∧ (¬ (((S.1 3 0) &&& ((S.1 4 0) ^^^ (-1 : Int32))) &&& ((1 : Int32) <<< (p0 &&& 31))) = (0 : Int32) → (wp_Mx_isFourthCorner p0 (S.1 3 0) (fun r57 => ((r57 = (0 : Int32) → (post (((2 : Int32) * p0) + (1 : Int32)) (gI S 4 (fun _ => ((S.1 4 0) ||| ((1 : Int32) <<< (p0 &&& 31))))))) ∧ (¬ r57 = (0 : Int32) → (post (-1 : Int32) S)))))))) ∧ (¬ (((S.1 4 0) &&& ((S.1 3 0) ^^^ (-1 : Int32))) &&& ((1 : Int32) <<< (p0 &&& 31))) = (0 : Int32) → (post ((2 : Int32) * p0) (gI S 4 (fun _ => ((S.1 4 0) &&& (((1 : Int32) <<< (p0 &&& 31)) ^^^ (-1 : Int32))))))))
abbrev rm_Mx_believe : Room := { frames := 2, cells := 0, slots := 0, locals := 47 }
set_option maxHeartbeats 4000000 in
set_option maxRecDepth 100000 in
theorem c_Mx_believe (l : Launch) (D : va_G) (cI cZ cJ : ClassId) (a : Nat → Nat) (sz : Nat) (S : GS) (p0 : Int32) (post : Int32 → GS → Prop) (hf : wp_Mx_believe S p0 post) : Met l y_Mx_believe ws_Mx_believe rm_Mx_believe (va_Pc [.ref (a 1), .int p0] (gPre D (tys cI cZ cJ) (gkW cI cZ cJ a S) sz)) (va_Qi post (gB D (tys cI cZ cJ) (gkW cI cZ cJ a) (va_A (gkW cI cZ cJ a S) sz)) (va_A (gkW cI cZ cJ a S) sz)) 0 0 (va_A (gkW cI cZ cJ a S) sz) := by
  refine gm_w (QF := fun A => va_Qi post (gB D (tys cI cZ cJ) (gkW cI cZ cJ a) A) A) (cc := b_Mx_believe) (maxL := 3) (by decide) rfl (Nat.le_of_ble_eq_true rfl) ?_
  intro p e s m args below meth c A ls hx hb hr hts hown hmn hlk hml hK hA hw hl
  have hl : lv_has ls 3 [(0, .ref (a 1)), (1, .int p0)] := hl
  have hinMx : ∀ w ∈ u_ws R_Mx T_Mx 6, w ∈ ws_Mx_believe := fun w h => List.mem_cons_of_mem _ (tl_Mx w h)
  have hl25 := hts _ (List.mem_cons_of_mem _ tf_Mx_25)
  have hl28 := hts _ (List.mem_cons_of_mem _ tf_Mx_28)
  unfold wp_Mx_believe at hf
  refine lv_iconst (pc := 0) (v := 1) hx hb d_Mx_believe_0 (by decide) ?_
  refine lv_iload_n (pc := 1) hx hb d_Mx_believe_1 rfl (lv_at hl 1 rfl) ?_
  refine lv_ishl (pc := 2) hx hb d_Mx_believe_2 ?_
  refine lv_istore_n (pc := 3) (lv' := [(2, .int ((1 : Int32) <<< (p0 &&& 31))), (0, .ref (a 1)), (1, .int p0)]) hx hb d_Mx_believe_3 rfl hl (by decide) rfl (fun ls hl => ?_)
  refine lv_aload_n (pc := 4) hx hb d_Mx_believe_4 rfl (lv_at hl 1 rfl) ?_
  refine gk_gt_Mx_believed (pc := 5) (v := (S.1 4 0)) hx hb hK hts hinMx hown hw.1 hl28 rfl d_Mx_believe_5 ?_
  refine lv_aload_n (pc := 8) hx hb d_Mx_believe_8 rfl (lv_at hl 1 rfl) ?_
  refine gk_gt_Mx_seen (pc := 9) (v := (S.1 3 0)) hx hb hK hts hinMx hown hw.1 hl25 rfl d_Mx_believe_9 ?_
  refine lv_iconst (pc := 12) (v := -1) hx hb d_Mx_believe_12 (by decide) ?_
  refine lv_ixor (pc := 13) hx hb d_Mx_believe_13 ?_
  refine lv_iand (pc := 14) hx hb d_Mx_believe_14 ?_
  refine lv_iload_n (pc := 15) hx hb d_Mx_believe_15 rfl (lv_at hl 0 rfl) ?_
  refine lv_iand (pc := 16) hx hb d_Mx_believe_16 ?_
  refine lv_if_eq (pc := 17) (tgt := 36) hx hb d_Mx_believe_17 (by decide) (fun hc => ?_) (fun hc => ?_)
  · replace hf := hf.1 hc
    refine lv_aload_n (pc := 36) hx hb d_Mx_believe_36 rfl (lv_at hl 1 rfl) ?_
    refine gk_gt_Mx_seen (pc := 37) (v := (S.1 3 0)) hx hb hK hts hinMx hown hw.1 hl25 rfl d_Mx_believe_37 ?_
    refine lv_aload_n (pc := 40) hx hb d_Mx_believe_40 rfl (lv_at hl 1 rfl) ?_
    refine gk_gt_Mx_believed (pc := 41) (v := (S.1 4 0)) hx hb hK hts hinMx hown hw.1 hl28 rfl d_Mx_believe_41 ?_
    refine lv_iconst (pc := 44) (v := -1) hx hb d_Mx_believe_44 (by decide) ?_
    refine lv_ixor (pc := 45) hx hb d_Mx_believe_45 ?_
    refine lv_iand (pc := 46) hx hb d_Mx_believe_46 ?_
    refine lv_iload_n (pc := 47) hx hb d_Mx_believe_47 rfl (lv_at hl 0 rfl) ?_
    refine lv_iand (pc := 48) hx hb d_Mx_believe_48 ?_
    refine lv_if_eq (pc := 49) (tgt := 79) hx hb d_Mx_believe_49 (by decide) (fun hc => ?_) (fun hc => ?_)
    · replace hf := hf.1 hc
      refine lv_iconst (pc := 79) (v := -1) hx hb d_Mx_believe_79 (by decide) ?_
      exact gr_i (pc := 80) hx hb hr hlk hK S hw hf d_Mx_believe_80
    replace hf := hf.2 hc
    refine lv_iload_n (pc := 52) hx hb d_Mx_believe_52 rfl (lv_at hl 2 rfl) ?_
    refine lv_aload_n (pc := 53) hx hb d_Mx_believe_53 rfl (lv_at hl 1 rfl) ?_
    refine gk_gt_Mx_seen (pc := 54) (v := (S.1 3 0)) hx hb hK hts hinMx hown hw.1 hl25 rfl d_Mx_believe_54 ?_
    refine vp_callSi (pc := 57) (W.runS (As := [.int p0, .int (S.1 3 0)]) (rest := []) ⟨hx, hb, hml, hown, hts⟩ (c_Mx_isFourthCorner l _ _ _ hf) (cwS 2 hts (tb_wsS tc_Mx_isFourthCorner tm_Mx_35 ts_Mx_isFourthCorner tz_Mx) rfl rfl rfl (by decide +kernel) ⟨Nat.le_of_ble_eq_true rfl, Nat.le_of_ble_eq_true rfl⟩) p_preS rfl rfl hl.1 rfl (lv_room (Nat.le_of_ble_eq_true rfl)) d_Mx_believe_57 ⟨Nat.zero_le _, Nat.zero_le _⟩) (fun r57 hf => ?_)
    refine lv_if_ne (pc := 60) (tgt := 79) hx hb d_Mx_believe_60 (by decide) (fun hc => ?_) (fun hc => ?_)
    · replace hf := hf.2 hc
      refine lv_iconst (pc := 79) (v := -1) hx hb d_Mx_believe_79 (by decide) ?_
      exact gr_i (pc := 80) hx hb hr hlk hK S hw hf d_Mx_believe_80
    replace hf := hf.1 hc
    refine lv_aload_n (pc := 63) hx hb d_Mx_believe_63 rfl (lv_at hl 1 rfl) ?_
    refine lv_dup (pc := 64) hx hb d_Mx_believe_64 rfl ?_
    refine gk_gt_Mx_believed (pc := 65) (v := (S.1 4 0)) hx hb hK hts hinMx hown hw.1 hl28 rfl d_Mx_believe_65 ?_
    refine lv_iload_n (pc := 68) hx hb d_Mx_believe_68 rfl (lv_at hl 0 rfl) ?_
    refine lv_ior (pc := 69) hx hb d_Mx_believe_69 ?_
    refine gk_pt_Mx_believed (pc := 70) hx hb hK hts hinMx hown hw hl28 d_Mx_believe_70 (fun H locs hw => ?_)
    refine lv_iconst (pc := 73) (v := 2) hx hb d_Mx_believe_73 (by decide) ?_
    refine lv_iload_n (pc := 74) hx hb d_Mx_believe_74 rfl (lv_at hl 2 rfl) ?_
    refine lv_imul (pc := 75) hx hb d_Mx_believe_75 ?_
    refine lv_iconst (pc := 76) (v := 1) hx hb d_Mx_believe_76 (by decide) ?_
    refine lv_iadd (pc := 77) hx hb d_Mx_believe_77 ?_
    exact gr_i (pc := 78) hx hb hr hlk hK (gI S 4 (fun _ => ((S.1 4 0) ||| ((1 : Int32) <<< (p0 &&& 31))))) hw hf d_Mx_believe_78
  replace hf := hf.2 hc
  refine lv_aload_n (pc := 20) hx hb d_Mx_believe_20 rfl (lv_at hl 1 rfl) ?_
  refine lv_dup (pc := 21) hx hb d_Mx_believe_21 rfl ?_
  refine gk_gt_Mx_believed (pc := 22) (v := (S.1 4 0)) hx hb hK hts hinMx hown hw.1 hl28 rfl d_Mx_believe_22 ?_
  refine lv_iload_n (pc := 25) hx hb d_Mx_believe_25 rfl (lv_at hl 0 rfl) ?_
  refine lv_iconst (pc := 26) (v := -1) hx hb d_Mx_believe_26 (by decide) ?_
  refine lv_ixor (pc := 27) hx hb d_Mx_believe_27 ?_
  refine lv_iand (pc := 28) hx hb d_Mx_believe_28 ?_
  refine gk_pt_Mx_believed (pc := 29) hx hb hK hts hinMx hown hw hl28 d_Mx_believe_29 (fun H locs hw => ?_)
  refine lv_iconst (pc := 32) (v := 2) hx hb d_Mx_believe_32 (by decide) ?_
  refine lv_iload_n (pc := 33) hx hb d_Mx_believe_33 rfl (lv_at hl 2 rfl) ?_
  refine lv_imul (pc := 34) hx hb d_Mx_believe_34 ?_
  exact gr_i (pc := 35) hx hb hr hlk hK (gI S 4 (fun _ => ((S.1 4 0) &&& (((1 : Int32) <<< (p0 &&& 31)) ^^^ (-1 : Int32))))) hw hf d_Mx_believe_35
def wp_Hi_add (S : GS) (p0 : Int32) (post : GS → Prop) : Prop := (vp_in (S.1 5 0) 32 ∧ (post (gI (gI (gI S 15 (upd (S.1 15) ((S.1 5 0)).toNatClampNeg p0)) 5 (fun _ => (((S.1 5 0) + (1 : Int32)) - ((S.1 5 0) + (1 : Int32)) / (32 : Int32) * (32 : Int32)))) 6 (fun _ => (if (32 : Int32) < ((S.1 6 0) + (1 : Int32)) then (32 : Int32) else ((S.1 6 0) + (1 : Int32)))))))
abbrev rm_Hi_add : Room := { frames := 1, cells := 0, slots := 0, locals := 21 }
set_option maxHeartbeats 4000000 in
set_option maxRecDepth 100000 in
theorem c_Hi_add (l : Launch) (D : va_G) (cI cZ cJ : ClassId) (a : Nat → Nat) (sz : Nat) (S : GS) (p0 : Int32) (post : GS → Prop) (hf : wp_Hi_add S p0 post) : Met l y_Hi_add ws_Hi_add rm_Hi_add (va_Pc [.ref (a 2), .int p0] (gPre D (tys cI cZ cJ) (gkW cI cZ cJ a S) sz)) (va_Qv post (gB D (tys cI cZ cJ) (gkW cI cZ cJ a) (va_A (gkW cI cZ cJ a S) sz)) (va_A (gkW cI cZ cJ a S) sz)) 0 0 (va_A (gkW cI cZ cJ a S) sz) := by
  refine gm_w (QF := fun A => va_Qv post (gB D (tys cI cZ cJ) (gkW cI cZ cJ a) A) A) (cc := b_Hi_add) (maxL := 2) (by decide) rfl (Nat.le_of_ble_eq_true rfl) ?_
  intro p e s m args below meth c A ls hx hb hr hts hown hmn hlk hml hK hA hw hl
  have hl : lv_has ls 2 [(0, .ref (a 2)), (1, .int p0)] := hl
  have hinHi : ∀ w ∈ u_ws R_Hi T_Hi 3, w ∈ ws_Hi_add := fun w h => List.mem_cons_of_mem _ (tl_Hi w h)
  have hl11 := hts _ (List.mem_cons_of_mem _ tf_Hi_11)
  have hl15 := hts _ (List.mem_cons_of_mem _ tf_Hi_15)
  have hl19 := hts _ (List.mem_cons_of_mem _ tf_Hi_19)
  unfold wp_Hi_add at hf
  refine lv_aload_n (pc := 0) hx hb d_Hi_add_0 rfl (lv_at hl 0 rfl) ?_
  refine gk_gt_Hi_events (pc := 1) hx hb hK hts hinHi hown hw.1 hl11 d_Hi_add_1 ?_
  refine lv_aload_n (pc := 4) hx hb d_Hi_add_4 rfl (lv_at hl 0 rfl) ?_
  refine gk_gt_Hi_next (pc := 5) (v := (S.1 5 0)) hx hb hK hts hinHi hown hw.1 hl15 rfl d_Hi_add_5 ?_
  refine lv_iload_n (pc := 8) hx hb d_Hi_add_8 rfl (lv_at hl 1 rfl) ?_
  refine gk_st11 (pc := 9) hx hb hK hw hf.1 d_Hi_add_9 (fun H locs hw => ?_)
  replace hf := hf.2
  refine lv_aload_n (pc := 10) hx hb d_Hi_add_10 rfl (lv_at hl 0 rfl) ?_
  refine lv_aload_n (pc := 11) hx hb d_Hi_add_11 rfl (lv_at hl 0 rfl) ?_
  refine gk_gt_Hi_next (pc := 12) (v := (S.1 5 0)) hx hb hK hts hinHi hown hw.1 hl15 rfl d_Hi_add_12 ?_
  refine lv_iconst (pc := 15) (v := 1) hx hb d_Hi_add_15 (by decide) ?_
  refine lv_iadd (pc := 16) hx hb d_Hi_add_16 ?_
  refine lv_bipush (pc := 17) (v := 32) hx hb d_Hi_add_17 (by decide) ?_
  refine lv_irem (pc := 19) hx hb d_Hi_add_19 (by decide) ?_
  refine gk_pt_Hi_next (pc := 20) hx hb hK hts hinHi hown hw hl15 d_Hi_add_20 (fun H locs hw => ?_)
  refine lv_aload_n (pc := 23) hx hb d_Hi_add_23 rfl (lv_at hl 0 rfl) ?_
  refine lv_aload_n (pc := 24) hx hb d_Hi_add_24 rfl (lv_at hl 0 rfl) ?_
  refine gk_gt_Hi_kept (pc := 25) (v := (S.1 6 0)) hx hb hK hts hinHi hown hw.1 hl19 rfl d_Hi_add_25 ?_
  refine lv_iconst (pc := 28) (v := 1) hx hb d_Hi_add_28 (by decide) ?_
  refine lv_iadd (pc := 29) hx hb d_Hi_add_29 ?_
  refine lv_bipush (pc := 30) (v := 32) hx hb d_Hi_add_30 (by decide) ?_
  refine va_mmin (pc := 32) hx hb (by rw [hml]; exact hl.1.symm) hown (hts _ (List.mem_cons_of_mem _ tm_Hi_22)) (hts _ (List.mem_cons_of_mem _ ts_mmin)) (hts _ (List.mem_cons_of_mem _ tz_math)) (hts _ (List.mem_cons_of_mem _ tc_mmin)) (Nat.le_of_ble_eq_true rfl) (Nat.le_of_ble_eq_true rfl) (Nat.le_of_ble_eq_true rfl) (Nat.le_of_ble_eq_true rfl) d_Hi_add_32 ?_
  refine gk_pt_Hi_kept (pc := 35) hx hb hK hts hinHi hown hw hl19 d_Hi_add_35 (fun H locs hw => ?_)
  exact gr_v (pc := 38) hx hb hr hlk hK (gI (gI (gI S 15 (upd (S.1 15) ((S.1 5 0)).toNatClampNeg p0)) 5 (fun _ => (((S.1 5 0) + (1 : Int32)) - ((S.1 5 0) + (1 : Int32)) / (32 : Int32) * (32 : Int32)))) 6 (fun _ => (if (32 : Int32) < ((S.1 6 0) + (1 : Int32)) then (32 : Int32) else ((S.1 6 0) + (1 : Int32))))) hw hf d_Hi_add_38
def wp_Eq_add (S : GS) (p0 : Int32) (p1 : Int32) (post : GS → Prop) : Prop := (((32 : Int32) ≤ (S.1 7 0) → (post S)) ∧ (¬ (32 : Int32) ≤ (S.1 7 0) → (vp_in (S.1 7 0) 32 ∧ (vp_in (S.1 7 0) 32 ∧ (post (gI (gI (gI S 16 (upd (S.1 16) ((S.1 7 0)).toNatClampNeg p0)) 17 (upd (S.1 17) ((S.1 7 0)).toNatClampNeg p1)) 7 (fun _ => ((S.1 7 0) + (1 : Int32)))))))))
abbrev rm_Eq_add : Room := { frames := 0, cells := 0, slots := 0, locals := 0 }
set_option maxHeartbeats 4000000 in
set_option maxRecDepth 100000 in
theorem c_Eq_add (l : Launch) (D : va_G) (cI cZ cJ : ClassId) (a : Nat → Nat) (sz : Nat) (S : GS) (p0 : Int32) (p1 : Int32) (post : GS → Prop) (hf : wp_Eq_add S p0 p1 post) : Met l y_Eq_add ws_Eq_add rm_Eq_add (va_Pc [.ref (a 3), .int p0, .int p1] (gPre D (tys cI cZ cJ) (gkW cI cZ cJ a S) sz)) (va_Qv post (gB D (tys cI cZ cJ) (gkW cI cZ cJ a) (va_A (gkW cI cZ cJ a S) sz)) (va_A (gkW cI cZ cJ a S) sz)) 0 0 (va_A (gkW cI cZ cJ a S) sz) := by
  refine gm_w (QF := fun A => va_Qv post (gB D (tys cI cZ cJ) (gkW cI cZ cJ a) A) A) (cc := b_Eq_add) (maxL := 3) (by decide) rfl (Nat.le_of_ble_eq_true rfl) ?_
  intro p e s m args below meth c A ls hx hb hr hts hown hmn hlk hml hK hA hw hl
  have hl : lv_has ls 3 [(0, .ref (a 3)), (1, .int p0), (2, .int p1)] := hl
  have hinEq : ∀ w ∈ u_ws R_Eq T_Eq 3, w ∈ ws_Eq_add := fun w h => List.mem_cons_of_mem _ (tl_Eq w h)
  have hl11 := hts _ (List.mem_cons_of_mem _ tf_Eq_11)
  have hl15 := hts _ (List.mem_cons_of_mem _ tf_Eq_15)
  have hl18 := hts _ (List.mem_cons_of_mem _ tf_Eq_18)
  unfold wp_Eq_add at hf
  refine lv_aload_n (pc := 0) hx hb d_Eq_add_0 rfl (lv_at hl 0 rfl) ?_
  refine gk_gt_Eq_length (pc := 1) (v := (S.1 7 0)) hx hb hK hts hinEq hown hw.1 hl18 rfl d_Eq_add_1 ?_
  refine lv_bipush (pc := 4) (v := 32) hx hb d_Eq_add_4 (by decide) ?_
  refine lv_icmp_ge (pc := 6) (tgt := 39) hx hb d_Eq_add_6 (by decide) (fun hc => ?_) (fun hc => ?_)
  · replace hf := hf.1 hc
    exact gr_v (pc := 39) hx hb hr hlk hK S hw hf d_Eq_add_39
  replace hf := hf.2 hc
  refine lv_aload_n (pc := 9) hx hb d_Eq_add_9 rfl (lv_at hl 0 rfl) ?_
  refine gk_gt_Eq_events (pc := 10) hx hb hK hts hinEq hown hw.1 hl11 d_Eq_add_10 ?_
  refine lv_aload_n (pc := 13) hx hb d_Eq_add_13 rfl (lv_at hl 0 rfl) ?_
  refine gk_gt_Eq_length (pc := 14) (v := (S.1 7 0)) hx hb hK hts hinEq hown hw.1 hl18 rfl d_Eq_add_14 ?_
  refine lv_iload_n (pc := 17) hx hb d_Eq_add_17 rfl (lv_at hl 1 rfl) ?_
  refine gk_st12 (pc := 18) hx hb hK hw hf.1 d_Eq_add_18 (fun H locs hw => ?_)
  replace hf := hf.2
  refine lv_aload_n (pc := 19) hx hb d_Eq_add_19 rfl (lv_at hl 0 rfl) ?_
  refine gk_gt_Eq_scanOf (pc := 20) hx hb hK hts hinEq hown hw.1 hl15 d_Eq_add_20 ?_
  refine lv_aload_n (pc := 23) hx hb d_Eq_add_23 rfl (lv_at hl 0 rfl) ?_
  refine gk_gt_Eq_length (pc := 24) (v := (S.1 7 0)) hx hb hK hts hinEq hown hw.1 hl18 rfl d_Eq_add_24 ?_
  refine lv_iload_n (pc := 27) hx hb d_Eq_add_27 rfl (lv_at hl 2 rfl) ?_
  refine gk_st13 (pc := 28) hx hb hK hw hf.1 d_Eq_add_28 (fun H locs hw => ?_)
  replace hf := hf.2
  have hw : wf D A s.heap (gkW cI cZ cJ a (gI (gI S 16 (upd (S.1 16) ((S.1 7 0)).toNatClampNeg p0)) 17 (upd (S.1 17) ((S.1 7 0)).toNatClampNeg p1))) H locs := hw
  refine lv_aload_n (pc := 29) hx hb d_Eq_add_29 rfl (lv_at hl 0 rfl) ?_
  refine lv_dup (pc := 30) hx hb d_Eq_add_30 rfl ?_
  refine gk_gt_Eq_length (pc := 31) (v := (S.1 7 0)) hx hb hK hts hinEq hown hw.1 hl18 rfl d_Eq_add_31 ?_
  refine lv_iconst (pc := 34) (v := 1) hx hb d_Eq_add_34 (by decide) ?_
  refine lv_iadd (pc := 35) hx hb d_Eq_add_35 ?_
  refine gk_pt_Eq_length (pc := 36) hx hb hK hts hinEq hown hw hl18 d_Eq_add_36 (fun H locs hw => ?_)
  exact gr_v (pc := 39) hx hb hr hlk hK (gI (gI (gI S 16 (upd (S.1 16) ((S.1 7 0)).toNatClampNeg p0)) 17 (upd (S.1 17) ((S.1 7 0)).toNatClampNeg p1)) 7 (fun _ => ((S.1 7 0) + (1 : Int32)))) hw hf d_Eq_add_39
def wp_Eq_length (S : GS) (post : Int32 → Prop) : Prop := (post (S.1 7 0))
abbrev rm_Eq_length : Room := { frames := 0, cells := 0, slots := 0, locals := 0 }
set_option maxHeartbeats 4000000 in
set_option maxRecDepth 100000 in
theorem c_Eq_length (l : Launch) (D : va_G) (cI cZ cJ : ClassId) (a : Nat → Nat) (S : GS) (post : Int32 → Prop) (hf : wp_Eq_length S post) : Met l y_Eq_length ws_Eq_length rm_Eq_length (va_Pc [.ref (a 3)] (rPre D (tys cI cZ cJ) (gkW cI cZ cJ a S))) (vp_Si post) 0 0 (fun _ => False) := by
  refine gm_r (cc := b_Eq_length) (maxL := 1) (by decide) rfl (Nat.le_of_ble_eq_true rfl) ?_
  intro p e s m args below meth c ls hx hb hr hts hown hlk hml hK hP hl
  have hl : lv_has ls 1 [(0, .ref (a 3))] := hl
  have hinEq : ∀ w ∈ u_ws R_Eq T_Eq 3, w ∈ ws_Eq_length := fun w h => List.mem_cons_of_mem _ (tl_Eq w h)
  have hl18 := hts _ (List.mem_cons_of_mem _ tf_Eq_18)
  unfold wp_Eq_length at hf
  refine lv_aload_n (pc := 0) hx hb d_Eq_length_0 rfl (lv_at hl 0 rfl) ?_
  refine gk_gt_Eq_length (pc := 1) (v := (S.1 7 0)) hx hb hK hts hinEq hown hP hl18 rfl d_Eq_length_1 ?_
  exact rr_i (pc := 4) hx hb hr hlk hf d_Eq_length_4
def wp_Eq_isPress (S : GS) (p0 : Int32) (post : Int32 → Prop) : Prop := (vp_in p0 32 ∧ (((((S.1 16) p0.toNatClampNeg) &&& (1 : Int32)) = (0 : Int32) → (post (0 : Int32))) ∧ (¬ (((S.1 16) p0.toNatClampNeg) &&& (1 : Int32)) = (0 : Int32) → (post (1 : Int32)))))
abbrev rm_Eq_isPress : Room := { frames := 0, cells := 0, slots := 0, locals := 0 }
set_option maxHeartbeats 4000000 in
set_option maxRecDepth 100000 in
theorem c_Eq_isPress (l : Launch) (D : va_G) (cI cZ cJ : ClassId) (a : Nat → Nat) (S : GS) (p0 : Int32) (post : Int32 → Prop) (hf : wp_Eq_isPress S p0 post) : Met l y_Eq_isPress ws_Eq_isPress rm_Eq_isPress (va_Pc [.ref (a 3), .int p0] (rPre D (tys cI cZ cJ) (gkW cI cZ cJ a S))) (vp_Si post) 0 0 (fun _ => False) := by
  refine gm_r (cc := b_Eq_isPress) (maxL := 2) (by decide) rfl (Nat.le_of_ble_eq_true rfl) ?_
  intro p e s m args below meth c ls hx hb hr hts hown hlk hml hK hP hl
  have hl : lv_has ls 2 [(0, .ref (a 3)), (1, .int p0)] := hl
  have hinEq : ∀ w ∈ u_ws R_Eq T_Eq 3, w ∈ ws_Eq_isPress := fun w h => List.mem_cons_of_mem _ (tl_Eq w h)
  have hl11 := hts _ (List.mem_cons_of_mem _ tf_Eq_11)
  unfold wp_Eq_isPress at hf
  refine lv_aload_n (pc := 0) hx hb d_Eq_isPress_0 rfl (lv_at hl 0 rfl) ?_
  refine gk_gt_Eq_events (pc := 1) hx hb hK hts hinEq hown hP hl11 d_Eq_isPress_1 ?_
  refine lv_iload_n (pc := 4) hx hb d_Eq_isPress_4 rfl (lv_at hl 1 rfl) ?_
  refine gk_ld12 (pc := 5) (v := ((S.1 16) p0.toNatClampNeg)) hx hb hK hP hf.1 rfl d_Eq_isPress_5 ?_
  replace hf := hf.2
  refine lv_iconst (pc := 6) (v := 1) hx hb d_Eq_isPress_6 (by decide) ?_
  refine lv_iand (pc := 7) hx hb d_Eq_isPress_7 ?_
  refine lv_if_eq (pc := 8) (tgt := 15) hx hb d_Eq_isPress_8 (by decide) (fun hc => ?_) (fun hc => ?_)
  · replace hf := hf.1 hc
    refine lv_iconst (pc := 15) (v := 0) hx hb d_Eq_isPress_15 (by decide) ?_
    exact rr_z (pc := 16) hx hb hr hlk (by decide) hf d_Eq_isPress_16
  replace hf := hf.2 hc
  refine lv_iconst (pc := 11) (v := 1) hx hb d_Eq_isPress_11 (by decide) ?_
  refine lv_goto (pc := 12) (tgt := 16) hx hb d_Eq_isPress_12 (by decide) ?_
  exact rr_z (pc := 16) hx hb hr hlk (by decide) hf d_Eq_isPress_16
def wp_Eq_keyAt (S : GS) (p0 : Int32) (post : Int32 → Prop) : Prop := (vp_in p0 32 ∧ (post (((S.1 16) p0.toNatClampNeg) >>> ((1 : Int32) &&& 31))))
abbrev rm_Eq_keyAt : Room := { frames := 0, cells := 0, slots := 0, locals := 0 }
set_option maxHeartbeats 4000000 in
set_option maxRecDepth 100000 in
theorem c_Eq_keyAt (l : Launch) (D : va_G) (cI cZ cJ : ClassId) (a : Nat → Nat) (S : GS) (p0 : Int32) (post : Int32 → Prop) (hf : wp_Eq_keyAt S p0 post) : Met l y_Eq_keyAt ws_Eq_keyAt rm_Eq_keyAt (va_Pc [.ref (a 3), .int p0] (rPre D (tys cI cZ cJ) (gkW cI cZ cJ a S))) (vp_Si post) 0 0 (fun _ => False) := by
  refine gm_r (cc := b_Eq_keyAt) (maxL := 2) (by decide) rfl (Nat.le_of_ble_eq_true rfl) ?_
  intro p e s m args below meth c ls hx hb hr hts hown hlk hml hK hP hl
  have hl : lv_has ls 2 [(0, .ref (a 3)), (1, .int p0)] := hl
  have hinEq : ∀ w ∈ u_ws R_Eq T_Eq 3, w ∈ ws_Eq_keyAt := fun w h => List.mem_cons_of_mem _ (tl_Eq w h)
  have hl11 := hts _ (List.mem_cons_of_mem _ tf_Eq_11)
  unfold wp_Eq_keyAt at hf
  refine lv_aload_n (pc := 0) hx hb d_Eq_keyAt_0 rfl (lv_at hl 0 rfl) ?_
  refine gk_gt_Eq_events (pc := 1) hx hb hK hts hinEq hown hP hl11 d_Eq_keyAt_1 ?_
  refine lv_iload_n (pc := 4) hx hb d_Eq_keyAt_4 rfl (lv_at hl 1 rfl) ?_
  refine gk_ld12 (pc := 5) (v := ((S.1 16) p0.toNatClampNeg)) hx hb hK hP hf.1 rfl d_Eq_keyAt_5 ?_
  replace hf := hf.2
  refine lv_iconst (pc := 6) (v := 1) hx hb d_Eq_keyAt_6 (by decide) ?_
  refine lv_ishr (pc := 7) hx hb d_Eq_keyAt_7 ?_
  exact rr_i (pc := 8) hx hb hr hlk hf d_Eq_keyAt_8
def L_Eq_removeFirst_2 (post : GS → Prop) : Nat → Int32 → Int32 → GS → Prop
  | 0, _, _, _ => False
  | n2 + 1, x1, x2, S => (((S.1 7 0) ≤ x2 → (post (gI S 7 (fun _ => (if ((S.1 7 0) - x1) < (0 : Int32) then (0 : Int32) else ((S.1 7 0) - x1)))))) ∧ (¬ (S.1 7 0) ≤ x2 → (vp_in x2 32 ∧ (vp_in (x2 - x1) 32 ∧ (vp_in x2 32 ∧ (vp_in (x2 - x1) 32 ∧ (L_Eq_removeFirst_2 post n2 x1 (x2 + (1 : Int32)) (gI (gI S 16 (upd (S.1 16) ((x2 - x1)).toNatClampNeg ((S.1 16) x2.toNatClampNeg))) 17 (upd (S.1 17) ((x2 - x1)).toNatClampNeg ((S.1 17) x2.toNatClampNeg))))))))))
def wp_Eq_removeFirst (S : GS) (p0 : Int32) (post : GS → Prop) : Prop := (∃ q2, L_Eq_removeFirst_2 post q2 p0 p0 S)
abbrev rm_Eq_removeFirst : Room := { frames := 1, cells := 0, slots := 0, locals := 21 }
set_option maxHeartbeats 4000000 in
set_option maxRecDepth 100000 in
theorem c_Eq_removeFirst (l : Launch) (D : va_G) (cI cZ cJ : ClassId) (a : Nat → Nat) (sz : Nat) (S : GS) (p0 : Int32) (post : GS → Prop) (hf : wp_Eq_removeFirst S p0 post) : Met l y_Eq_removeFirst ws_Eq_removeFirst rm_Eq_removeFirst (va_Pc [.ref (a 3), .int p0] (gPre D (tys cI cZ cJ) (gkW cI cZ cJ a S) sz)) (va_Qv post (gB D (tys cI cZ cJ) (gkW cI cZ cJ a) (va_A (gkW cI cZ cJ a S) sz)) (va_A (gkW cI cZ cJ a S) sz)) 0 0 (va_A (gkW cI cZ cJ a S) sz) := by
  refine gm_w (QF := fun A => va_Qv post (gB D (tys cI cZ cJ) (gkW cI cZ cJ a) A) A) (cc := b_Eq_removeFirst) (maxL := 3) (by decide) rfl (Nat.le_of_ble_eq_true rfl) ?_
  intro p e s m args below meth c A ls hx hb hr hts hown hmn hlk hml hK hA hw hl
  have hl : lv_has ls 3 [(0, .ref (a 3)), (1, .int p0)] := hl
  have hinEq : ∀ w ∈ u_ws R_Eq T_Eq 3, w ∈ ws_Eq_removeFirst := fun w h => List.mem_cons_of_mem _ (tl_Eq w h)
  have hl11 := hts _ (List.mem_cons_of_mem _ tf_Eq_11)
  have hl15 := hts _ (List.mem_cons_of_mem _ tf_Eq_15)
  have hl18 := hts _ (List.mem_cons_of_mem _ tf_Eq_18)
  unfold wp_Eq_removeFirst at hf
  refine lv_iload_n (pc := 0) hx hb d_Eq_removeFirst_0 rfl (lv_at hl 1 rfl) ?_
  refine lv_istore_n (pc := 1) (lv' := [(2, .int p0), (0, .ref (a 3)), (1, .int p0)]) hx hb d_Eq_removeFirst_1 rfl hl (by decide) rfl (fun ls hl => ?_)
  obtain ⟨q2, hf⟩ := hf
  have lp2 : ∀ (n2 : Nat) (x1 : Int32) (x2 : Int32) (S : GS) (H : Heap) (locs : List Loc) (ls : Array Slot), lv_has ls 3 [(0, .ref (a 3)), (1, .int x1), (2, .int x2)] → wf D A s.heap (gkW cI cZ cJ a S) H locs → L_Eq_removeFirst_2 post n2 x1 x2 S → W p l e rm_Eq_removeFirst s m args below meth c H locs 0 0 (MQ below (va_Qv post (gB D (tys cI cZ cJ) (gkW cI cZ cJ a) A) A) args s 0 0 A) (F0 m 2 ls []) := by
    intro n2
    induction n2 with
    | zero => intro x1 x2 S H locs ls hl hw hf; exact False.elim hf
    | succ n2 ih2 =>
      intro x1 x2 S H locs ls hl hw hf
      unfold L_Eq_removeFirst_2 at hf
      refine lv_iload_n (pc := 2) hx hb d_Eq_removeFirst_2 rfl (lv_at hl 2 rfl) ?_
      refine lv_aload_n (pc := 3) hx hb d_Eq_removeFirst_3 rfl (lv_at hl 0 rfl) ?_
      refine gk_gt_Eq_length (pc := 4) (v := (S.1 7 0)) hx hb hK hts hinEq hown hw.1 hl18 rfl d_Eq_removeFirst_4 ?_
      refine lv_icmp_ge (pc := 7) (tgt := 44) hx hb d_Eq_removeFirst_7 (by decide) (fun hc => ?_) (fun hc => ?_)
      · replace hf := hf.1 hc
        refine lv_aload_n (pc := 44) hx hb d_Eq_removeFirst_44 rfl (lv_at hl 0 rfl) ?_
        refine lv_aload_n (pc := 45) hx hb d_Eq_removeFirst_45 rfl (lv_at hl 0 rfl) ?_
        refine gk_gt_Eq_length (pc := 46) (v := (S.1 7 0)) hx hb hK hts hinEq hown hw.1 hl18 rfl d_Eq_removeFirst_46 ?_
        refine lv_iload_n (pc := 49) hx hb d_Eq_removeFirst_49 rfl (lv_at hl 1 rfl) ?_
        refine lv_isub (pc := 50) hx hb d_Eq_removeFirst_50 ?_
        refine lv_iconst (pc := 51) (v := 0) hx hb d_Eq_removeFirst_51 (by decide) ?_
        refine va_mmax (pc := 52) hx hb (by rw [hml]; exact hl.1.symm) hown (hts _ (List.mem_cons_of_mem _ tm_Eq_22)) (hts _ (List.mem_cons_of_mem _ ts_mmax)) (hts _ (List.mem_cons_of_mem _ tz_math)) (hts _ (List.mem_cons_of_mem _ tc_mmax)) (Nat.le_of_ble_eq_true rfl) (Nat.le_of_ble_eq_true rfl) (Nat.le_of_ble_eq_true rfl) (Nat.le_of_ble_eq_true rfl) d_Eq_removeFirst_52 ?_
        refine gk_pt_Eq_length (pc := 55) hx hb hK hts hinEq hown hw hl18 d_Eq_removeFirst_55 (fun H locs hw => ?_)
        exact gr_v (pc := 58) hx hb hr hlk hK (gI S 7 (fun _ => (if ((S.1 7 0) - x1) < (0 : Int32) then (0 : Int32) else ((S.1 7 0) - x1)))) hw hf d_Eq_removeFirst_58
      replace hf := hf.2 hc
      refine lv_aload_n (pc := 10) hx hb d_Eq_removeFirst_10 rfl (lv_at hl 0 rfl) ?_
      refine gk_gt_Eq_events (pc := 11) hx hb hK hts hinEq hown hw.1 hl11 d_Eq_removeFirst_11 ?_
      refine lv_iload_n (pc := 14) hx hb d_Eq_removeFirst_14 rfl (lv_at hl 2 rfl) ?_
      refine lv_iload_n (pc := 15) hx hb d_Eq_removeFirst_15 rfl (lv_at hl 1 rfl) ?_
      refine lv_isub (pc := 16) hx hb d_Eq_removeFirst_16 ?_
      refine lv_aload_n (pc := 17) hx hb d_Eq_removeFirst_17 rfl (lv_at hl 0 rfl) ?_
      refine gk_gt_Eq_events (pc := 18) hx hb hK hts hinEq hown hw.1 hl11 d_Eq_removeFirst_18 ?_
      refine lv_iload_n (pc := 21) hx hb d_Eq_removeFirst_21 rfl (lv_at hl 2 rfl) ?_
      refine gk_ld12 (pc := 22) (v := ((S.1 16) x2.toNatClampNeg)) hx hb hK hw.1 hf.1 rfl d_Eq_removeFirst_22 ?_
      replace hf := hf.2
      refine gk_st12 (pc := 23) hx hb hK hw hf.1 d_Eq_removeFirst_23 (fun H locs hw => ?_)
      replace hf := hf.2
      refine lv_aload_n (pc := 24) hx hb d_Eq_removeFirst_24 rfl (lv_at hl 0 rfl) ?_
      refine gk_gt_Eq_scanOf (pc := 25) hx hb hK hts hinEq hown hw.1 hl15 d_Eq_removeFirst_25 ?_
      refine lv_iload_n (pc := 28) hx hb d_Eq_removeFirst_28 rfl (lv_at hl 2 rfl) ?_
      refine lv_iload_n (pc := 29) hx hb d_Eq_removeFirst_29 rfl (lv_at hl 1 rfl) ?_
      refine lv_isub (pc := 30) hx hb d_Eq_removeFirst_30 ?_
      refine lv_aload_n (pc := 31) hx hb d_Eq_removeFirst_31 rfl (lv_at hl 0 rfl) ?_
      refine gk_gt_Eq_scanOf (pc := 32) hx hb hK hts hinEq hown hw.1 hl15 d_Eq_removeFirst_32 ?_
      refine lv_iload_n (pc := 35) hx hb d_Eq_removeFirst_35 rfl (lv_at hl 2 rfl) ?_
      refine gk_ld13 (pc := 36) (v := ((S.1 17) x2.toNatClampNeg)) hx hb hK hw.1 hf.1 rfl d_Eq_removeFirst_36 ?_
      replace hf := hf.2
      refine gk_st13 (pc := 37) hx hb hK hw hf.1 d_Eq_removeFirst_37 (fun H locs hw => ?_)
      replace hf := hf.2
      have hw : wf D A s.heap (gkW cI cZ cJ a (gI (gI S 16 (upd (S.1 16) ((x2 - x1)).toNatClampNeg ((S.1 16) x2.toNatClampNeg))) 17 (upd (S.1 17) ((x2 - x1)).toNatClampNeg ((S.1 17) x2.toNatClampNeg)))) H locs := hw
      refine lv_iinc (pc := 38) (k := 2) (v := (x2 + (1 : Int32))) (lv' := [(2, .int (x2 + (1 : Int32))), (0, .ref (a 3)), (1, .int x1)]) hx hb d_Eq_removeFirst_38 hl rfl rfl (by decide) rfl (fun ls hl => ?_)
      refine lv_goto (pc := 41) (tgt := 2) hx hb d_Eq_removeFirst_41 (by decide) ?_
      exact ih2 x1 (x2 + (1 : Int32)) (gI (gI S 16 (upd (S.1 16) ((x2 - x1)).toNatClampNeg ((S.1 16) x2.toNatClampNeg))) 17 (upd (S.1 17) ((x2 - x1)).toNatClampNeg ((S.1 17) x2.toNatClampNeg))) _ _ _ (lv_sub hl [1, 2, 0] rfl) hw hf
  exact lp2 q2 p0 p0 S _ _ _ (lv_sub hl [1, 2, 0] rfl) hw hf
def L_La_letGo_2 (post : GS → Prop) : Nat → Int32 → Int32 → GS → Prop
  | 0, _, _, _ => False
  | n2 + 1, x1, x2, S => (((4 : Int32) ≤ x2 → (post S)) ∧ (¬ (4 : Int32) ≤ x2 → (vp_in x2 4 ∧ (vp_in x2 4 ∧ (L_La_letGo_2 post n2 x1 (x2 + (1 : Int32)) (gI S 24 (upd (S.1 24) (x2).toNatClampNeg (((S.1 24) x2.toNatClampNeg) &&& (((1 : Int32) <<< (x1 &&& 31)) ^^^ (-1 : Int32))))))))))
def wp_La_letGo (S : GS) (p0 : Int32) (post : GS → Prop) : Prop := (∃ q2, L_La_letGo_2 post q2 p0 (0 : Int32) S)
abbrev rm_La_letGo : Room := { frames := 0, cells := 0, slots := 0, locals := 0 }
set_option maxHeartbeats 4000000 in
set_option maxRecDepth 100000 in
theorem c_La_letGo (l : Launch) (D : va_G) (cI cZ cJ : ClassId) (a : Nat → Nat) (sz : Nat) (S : GS) (p0 : Int32) (post : GS → Prop) (hf : wp_La_letGo S p0 post) : Met l y_La_letGo ws_La_letGo rm_La_letGo (va_Pc [.ref (a 6), .int p0] (gPre D (tys cI cZ cJ) (gkW cI cZ cJ a S) sz)) (va_Qv post (gB D (tys cI cZ cJ) (gkW cI cZ cJ a) (va_A (gkW cI cZ cJ a S) sz)) (va_A (gkW cI cZ cJ a S) sz)) 0 0 (va_A (gkW cI cZ cJ a S) sz) := by
  refine gm_w (QF := fun A => va_Qv post (gB D (tys cI cZ cJ) (gkW cI cZ cJ a) A) A) (cc := b_La_letGo) (maxL := 3) (by decide) rfl (Nat.le_of_ble_eq_true rfl) ?_
  intro p e s m args below meth c A ls hx hb hr hts hown hmn hlk hml hK hA hw hl
  have hl : lv_has ls 3 [(0, .ref (a 6)), (1, .int p0)] := hl
  have hinLa : ∀ w ∈ u_ws R_La T_La 3, w ∈ ws_La_letGo := fun w h => List.mem_cons_of_mem _ (tl_La w h)
  have hl9 := hts _ (List.mem_cons_of_mem _ tf_La_9)
  unfold wp_La_letGo at hf
  refine lv_iconst (pc := 0) (v := 0) hx hb d_La_letGo_0 (by decide) ?_
  refine lv_istore_n (pc := 1) (lv' := [(2, .int (0 : Int32)), (0, .ref (a 6)), (1, .int p0)]) hx hb d_La_letGo_1 rfl hl (by decide) rfl (fun ls hl => ?_)
  obtain ⟨q2, hf⟩ := hf
  have lp2 : ∀ (n2 : Nat) (x1 : Int32) (x2 : Int32) (S : GS) (H : Heap) (locs : List Loc) (ls : Array Slot), lv_has ls 3 [(0, .ref (a 6)), (1, .int x1), (2, .int x2)] → wf D A s.heap (gkW cI cZ cJ a S) H locs → L_La_letGo_2 post n2 x1 x2 S → W p l e rm_La_letGo s m args below meth c H locs 0 0 (MQ below (va_Qv post (gB D (tys cI cZ cJ) (gkW cI cZ cJ a) A) A) args s 0 0 A) (F0 m 2 ls []) := by
    intro n2
    induction n2 with
    | zero => intro x1 x2 S H locs ls hl hw hf; exact False.elim hf
    | succ n2 ih2 =>
      intro x1 x2 S H locs ls hl hw hf
      unfold L_La_letGo_2 at hf
      refine lv_iload_n (pc := 2) hx hb d_La_letGo_2 rfl (lv_at hl 2 rfl) ?_
      refine lv_iconst (pc := 3) (v := 4) hx hb d_La_letGo_3 (by decide) ?_
      refine lv_icmp_ge (pc := 4) (tgt := 27) hx hb d_La_letGo_4 (by decide) (fun hc => ?_) (fun hc => ?_)
      · replace hf := hf.1 hc
        exact gr_v (pc := 27) hx hb hr hlk hK S hw hf d_La_letGo_27
      replace hf := hf.2 hc
      refine lv_aload_n (pc := 7) hx hb d_La_letGo_7 rfl (lv_at hl 0 rfl) ?_
      refine gk_gt_La_holders (pc := 8) hx hb hK hts hinLa hown hw.1 hl9 d_La_letGo_8 ?_
      refine lv_iload_n (pc := 11) hx hb d_La_letGo_11 rfl (lv_at hl 2 rfl) ?_
      refine lv_dup2_11 (pc := 12) hx hb d_La_letGo_12 rfl rfl ?_
      refine gk_ld20 (pc := 13) (v := ((S.1 24) x2.toNatClampNeg)) hx hb hK hw.1 hf.1 rfl d_La_letGo_13 ?_
      replace hf := hf.2
      refine lv_iconst (pc := 14) (v := 1) hx hb d_La_letGo_14 (by decide) ?_
      refine lv_iload_n (pc := 15) hx hb d_La_letGo_15 rfl (lv_at hl 1 rfl) ?_
      refine lv_ishl (pc := 16) hx hb d_La_letGo_16 ?_
      refine lv_iconst (pc := 17) (v := -1) hx hb d_La_letGo_17 (by decide) ?_
      refine lv_ixor (pc := 18) hx hb d_La_letGo_18 ?_
      refine lv_iand (pc := 19) hx hb d_La_letGo_19 ?_
      refine gk_st20 (pc := 20) hx hb hK hw hf.1 d_La_letGo_20 (fun H locs hw => ?_)
      replace hf := hf.2
      refine lv_iinc (pc := 21) (k := 2) (v := (x2 + (1 : Int32))) (lv' := [(2, .int (x2 + (1 : Int32))), (0, .ref (a 6)), (1, .int x1)]) hx hb d_La_letGo_21 hl rfl rfl (by decide) rfl (fun ls hl => ?_)
      refine lv_goto (pc := 24) (tgt := 2) hx hb d_La_letGo_24 (by decide) ?_
      exact ih2 x1 (x2 + (1 : Int32)) (gI S 24 (upd (S.1 24) (x2).toNatClampNeg (((S.1 24) x2.toNatClampNeg) &&& (((1 : Int32) <<< (x1 &&& 31)) ^^^ (-1 : Int32))))) _ _ _ (lv_sub hl [1, 2, 0] rfl) hw hf
  exact lp2 q2 p0 (0 : Int32) S _ _ _ (lv_sub hl [1, 2, 0] rfl) hw hf
def L_Ho_begin_2 (post : GS → Prop) : Nat → Int32 → Int32 → Int32 → GS → Prop
  | 0, _, _, _, _ => False
  | n2 + 1, x1, x2, x3, S => (((24 : Int32) ≤ x3 → (post S)) ∧ (¬ (24 : Int32) ≤ x3 → ((((x1 >>> (x3 &&& 31)) &&& (1 : Int32)) = (0 : Int32) → (L_Ho_begin_2 post n2 x1 x2 (x3 + (1 : Int32)) S)) ∧ (¬ ((x1 >>> (x3 &&& 31)) &&& (1 : Int32)) = (0 : Int32) → (vp_in x3 24 ∧ (vp_in x3 24 ∧ (L_Ho_begin_2 post n2 x1 x2 (x3 + (1 : Int32)) (gI (gI S 25 (upd (S.1 25) (x3).toNatClampNeg x2)) 26 (upd (S.1 26) (x3).toNatClampNeg x1)))))))))
def wp_Ho_begin (S : GS) (p0 : Int32) (p1 : Int32) (post : GS → Prop) : Prop := (∃ q2, L_Ho_begin_2 post q2 p0 p1 (0 : Int32) S)
abbrev rm_Ho_begin : Room := { frames := 0, cells := 0, slots := 0, locals := 0 }
set_option maxHeartbeats 4000000 in
set_option maxRecDepth 100000 in
theorem c_Ho_begin (l : Launch) (D : va_G) (cI cZ cJ : ClassId) (a : Nat → Nat) (sz : Nat) (S : GS) (p0 : Int32) (p1 : Int32) (post : GS → Prop) (hf : wp_Ho_begin S p0 p1 post) : Met l y_Ho_begin ws_Ho_begin rm_Ho_begin (va_Pc [.ref (a 7), .int p0, .int p1] (gPre D (tys cI cZ cJ) (gkW cI cZ cJ a S) sz)) (va_Qv post (gB D (tys cI cZ cJ) (gkW cI cZ cJ a) (va_A (gkW cI cZ cJ a S) sz)) (va_A (gkW cI cZ cJ a S) sz)) 0 0 (va_A (gkW cI cZ cJ a S) sz) := by
  refine gm_w (QF := fun A => va_Qv post (gB D (tys cI cZ cJ) (gkW cI cZ cJ a) A) A) (cc := b_Ho_begin) (maxL := 4) (by decide) rfl (Nat.le_of_ble_eq_true rfl) ?_
  intro p e s m args below meth c A ls hx hb hr hts hown hmn hlk hml hK hA hw hl
  have hl : lv_has ls 4 [(0, .ref (a 7)), (1, .int p0), (2, .int p1)] := hl
  have hinHo : ∀ w ∈ u_ws R_Ho T_Ho 2, w ∈ ws_Ho_begin := fun w h => List.mem_cons_of_mem _ (tl_Ho w h)
  have hl9 := hts _ (List.mem_cons_of_mem _ tf_Ho_9)
  have hl15 := hts _ (List.mem_cons_of_mem _ tf_Ho_15)
  unfold wp_Ho_begin at hf
  refine lv_iconst (pc := 0) (v := 0) hx hb d_Ho_begin_0 (by decide) ?_
  refine lv_istore_n (pc := 1) (lv' := [(3, .int (0 : Int32)), (0, .ref (a 7)), (1, .int p0), (2, .int p1)]) hx hb d_Ho_begin_1 rfl hl (by decide) rfl (fun ls hl => ?_)
  obtain ⟨q2, hf⟩ := hf
  have lp2 : ∀ (n2 : Nat) (x1 : Int32) (x2 : Int32) (x3 : Int32) (S : GS) (H : Heap) (locs : List Loc) (ls : Array Slot), lv_has ls 4 [(0, .ref (a 7)), (1, .int x1), (2, .int x2), (3, .int x3)] → wf D A s.heap (gkW cI cZ cJ a S) H locs → L_Ho_begin_2 post n2 x1 x2 x3 S → W p l e rm_Ho_begin s m args below meth c H locs 0 0 (MQ below (va_Qv post (gB D (tys cI cZ cJ) (gkW cI cZ cJ a) A) A) args s 0 0 A) (F0 m 2 ls []) := by
    intro n2
    induction n2 with
    | zero => intro x1 x2 x3 S H locs ls hl hw hf; exact False.elim hf
    | succ n2 ih2 =>
      intro x1 x2 x3 S H locs ls hl hw hf
      unfold L_Ho_begin_2 at hf
      refine lv_iload_n (pc := 2) hx hb d_Ho_begin_2 rfl (lv_at hl 3 rfl) ?_
      refine lv_bipush (pc := 3) (v := 24) hx hb d_Ho_begin_3 (by decide) ?_
      refine lv_icmp_ge (pc := 5) (tgt := 36) hx hb d_Ho_begin_5 (by decide) (fun hc => ?_) (fun hc => ?_)
      · replace hf := hf.1 hc
        exact gr_v (pc := 36) hx hb hr hlk hK S hw hf d_Ho_begin_36
      replace hf := hf.2 hc
      refine lv_iload_n (pc := 8) hx hb d_Ho_begin_8 rfl (lv_at hl 1 rfl) ?_
      refine lv_iload_n (pc := 9) hx hb d_Ho_begin_9 rfl (lv_at hl 3 rfl) ?_
      refine lv_ishr (pc := 10) hx hb d_Ho_begin_10 ?_
      refine lv_iconst (pc := 11) (v := 1) hx hb d_Ho_begin_11 (by decide) ?_
      refine lv_iand (pc := 12) hx hb d_Ho_begin_12 ?_
      refine lv_if_eq (pc := 13) (tgt := 30) hx hb d_Ho_begin_13 (by decide) (fun hc => ?_) (fun hc => ?_)
      · replace hf := hf.1 hc
        refine lv_iinc (pc := 30) (k := 3) (v := (x3 + (1 : Int32))) (lv' := [(3, .int (x3 + (1 : Int32))), (0, .ref (a 7)), (1, .int x1), (2, .int x2)]) hx hb d_Ho_begin_30 hl rfl rfl (by decide) rfl (fun ls hl => ?_)
        refine lv_goto (pc := 33) (tgt := 2) hx hb d_Ho_begin_33 (by decide) ?_
        exact ih2 x1 x2 (x3 + (1 : Int32)) S _ _ _ (lv_sub hl [1, 2, 3, 0] rfl) hw hf
      replace hf := hf.2 hc
      refine lv_aload_n (pc := 16) hx hb d_Ho_begin_16 rfl (lv_at hl 0 rfl) ?_
      refine gk_gt_Ho_codes (pc := 17) hx hb hK hts hinHo hown hw.1 hl9 d_Ho_begin_17 ?_
      refine lv_iload_n (pc := 20) hx hb d_Ho_begin_20 rfl (lv_at hl 3 rfl) ?_
      refine lv_iload_n (pc := 21) hx hb d_Ho_begin_21 rfl (lv_at hl 2 rfl) ?_
      refine gk_st21 (pc := 22) hx hb hK hw hf.1 d_Ho_begin_22 (fun H locs hw => ?_)
      replace hf := hf.2
      refine lv_aload_n (pc := 23) hx hb d_Ho_begin_23 rfl (lv_at hl 0 rfl) ?_
      refine gk_gt_Ho_mates (pc := 24) hx hb hK hts hinHo hown hw.1 hl15 d_Ho_begin_24 ?_
      refine lv_iload_n (pc := 27) hx hb d_Ho_begin_27 rfl (lv_at hl 3 rfl) ?_
      refine lv_iload_n (pc := 28) hx hb d_Ho_begin_28 rfl (lv_at hl 1 rfl) ?_
      refine gk_st22 (pc := 29) hx hb hK hw hf.1 d_Ho_begin_29 (fun H locs hw => ?_)
      replace hf := hf.2
      have hw : wf D A s.heap (gkW cI cZ cJ a (gI (gI S 25 (upd (S.1 25) (x3).toNatClampNeg x2)) 26 (upd (S.1 26) (x3).toNatClampNeg x1))) H locs := hw
      refine lv_iinc (pc := 30) (k := 3) (v := (x3 + (1 : Int32))) (lv' := [(3, .int (x3 + (1 : Int32))), (0, .ref (a 7)), (1, .int x1), (2, .int x2)]) hx hb d_Ho_begin_30 hl rfl rfl (by decide) rfl (fun ls hl => ?_)
      refine lv_goto (pc := 33) (tgt := 2) hx hb d_Ho_begin_33 (by decide) ?_
      exact ih2 x1 x2 (x3 + (1 : Int32)) (gI (gI S 25 (upd (S.1 25) (x3).toNatClampNeg x2)) 26 (upd (S.1 26) (x3).toNatClampNeg x1)) _ _ _ (lv_sub hl [1, 2, 3, 0] rfl) hw hf
  exact lp2 q2 p0 p1 (0 : Int32) S _ _ _ (lv_sub hl [1, 2, 3, 0] rfl) hw hf
def wp_Ho_end (S : GS) (p0 : Int32) (post : Int32 → GS → Prop) : Prop := (vp_in p0 24 ∧ ((((S.1 25) p0.toNatClampNeg) = (0 : Int32) → (post ((S.1 25) p0.toNatClampNeg) S)) ∧ (¬ ((S.1 25) p0.toNatClampNeg) = (0 : Int32) → (vp_in p0 24 ∧ (wp_Ho_begin S ((S.1 26) p0.toNatClampNeg) (0 : Int32) (fun S19 => (post ((S.1 25) p0.toNatClampNeg) S19)))))))
abbrev rm_Ho_end : Room := { frames := 1, cells := 0, slots := 0, locals := 23 }
set_option maxHeartbeats 4000000 in
set_option maxRecDepth 100000 in
theorem c_Ho_end (l : Launch) (D : va_G) (cI cZ cJ : ClassId) (a : Nat → Nat) (sz : Nat) (S : GS) (p0 : Int32) (post : Int32 → GS → Prop) (hf : wp_Ho_end S p0 post) : Met l y_Ho_end ws_Ho_end rm_Ho_end (va_Pc [.ref (a 7), .int p0] (gPre D (tys cI cZ cJ) (gkW cI cZ cJ a S) sz)) (va_Qi post (gB D (tys cI cZ cJ) (gkW cI cZ cJ a) (va_A (gkW cI cZ cJ a S) sz)) (va_A (gkW cI cZ cJ a S) sz)) 0 0 (va_A (gkW cI cZ cJ a S) sz) := by
  refine gm_w (QF := fun A => va_Qi post (gB D (tys cI cZ cJ) (gkW cI cZ cJ a) A) A) (cc := b_Ho_end) (maxL := 3) (by decide) rfl (Nat.le_of_ble_eq_true rfl) ?_
  intro p e s m args below meth c A ls hx hb hr hts hown hmn hlk hml hK hA hw hl
  have hl : lv_has ls 3 [(0, .ref (a 7)), (1, .int p0)] := hl
  have hinHo : ∀ w ∈ u_ws R_Ho T_Ho 2, w ∈ ws_Ho_end := fun w h => List.mem_cons_of_mem _ (tl_Ho w h)
  have hl9 := hts _ (List.mem_cons_of_mem _ tf_Ho_9)
  have hl15 := hts _ (List.mem_cons_of_mem _ tf_Ho_15)
  unfold wp_Ho_end at hf
  refine lv_aload_n (pc := 0) hx hb d_Ho_end_0 rfl (lv_at hl 0 rfl) ?_
  refine gk_gt_Ho_codes (pc := 1) hx hb hK hts hinHo hown hw.1 hl9 d_Ho_end_1 ?_
  refine lv_iload_n (pc := 4) hx hb d_Ho_end_4 rfl (lv_at hl 1 rfl) ?_
  refine gk_ld21 (pc := 5) (v := ((S.1 25) p0.toNatClampNeg)) hx hb hK hw.1 hf.1 rfl d_Ho_end_5 ?_
  replace hf := hf.2
  refine lv_istore_n (pc := 6) (lv' := [(2, .int ((S.1 25) p0.toNatClampNeg)), (0, .ref (a 7)), (1, .int p0)]) hx hb d_Ho_end_6 rfl hl (by decide) rfl (fun ls hl => ?_)
  refine lv_iload_n (pc := 7) hx hb d_Ho_end_7 rfl (lv_at hl 0 rfl) ?_
  refine lv_if_eq (pc := 8) (tgt := 22) hx hb d_Ho_end_8 (by decide) (fun hc => ?_) (fun hc => ?_)
  · replace hf := hf.1 hc
    refine lv_iload_n (pc := 22) hx hb d_Ho_end_22 rfl (lv_at hl 0 rfl) ?_
    exact gr_i (pc := 23) hx hb hr hlk hK S hw hf d_Ho_end_23
  replace hf := hf.2 hc
  refine lv_aload_n (pc := 11) hx hb d_Ho_end_11 rfl (lv_at hl 1 rfl) ?_
  refine lv_aload_n (pc := 12) hx hb d_Ho_end_12 rfl (lv_at hl 1 rfl) ?_
  refine gk_gt_Ho_mates (pc := 13) hx hb hK hts hinHo hown hw.1 hl15 d_Ho_end_13 ?_
  refine lv_iload_n (pc := 16) hx hb d_Ho_end_16 rfl (lv_at hl 2 rfl) ?_
  refine gk_ld22 (pc := 17) (v := ((S.1 26) p0.toNatClampNeg)) hx hb hK hw.1 hf.1 rfl d_Ho_end_17 ?_
  replace hf := hf.2
  refine lv_iconst (pc := 18) (v := 0) hx hb d_Ho_end_18 (by decide) ?_
  refine gc_v (pc := 19) (Wf := gkW cI cZ cJ a) hw hA (va_runV (As := [.int ((S.1 26) p0.toNatClampNeg), .int (0 : Int32)]) (rest := []) ⟨hx, hb, hml, hown, hts⟩ (c_Ho_begin l D cI cZ cJ a _ _ _ _ _ hf) (cwV 2 hts (tb_wsV tc_Ho_begin tm_Ho_18 ti_Ho_begin te_Ho_begin tz_Ho) rfl rfl rfl (by decide +kernel) ⟨Nat.le_of_ble_eq_true rfl, Nat.le_of_ble_eq_true rfl⟩) (g_preV (q0 := 7) (ci := 7) hK hw rfl rfl) rfl rfl hl.1 rfl (lv_room (Nat.le_of_ble_eq_true rfl)) d_Ho_end_19 ⟨Nat.zero_le _, Nat.zero_le _⟩) (fun S19 H locs hw hf => ?_)
  refine lv_iload_n (pc := 22) hx hb d_Ho_end_22 rfl (lv_at hl 0 rfl) ?_
  exact gr_i (pc := 23) hx hb hr hlk hK S19 hw hf d_Ho_end_23
def J_Re_packed_117 (S : GS) (post : Int64 → Prop) (x1 : Int64) (x3 : Int64) (x5 : Int64) (x7 : Int32) (x8 : Int32) : Prop := ((x7 ≤ (6 : Int32) → (post (x1 ||| x3))) ∧ (¬ x7 ≤ (6 : Int32) → (post (x1 ||| x5))))
def J_Re_packed_105 (S : GS) (post : Int64 → Prop) (k45 : Int64 → Int64 → Int64 → Int32 → Int32 → Prop) (x1 : Int64) (x3 : Int64) (x5 : Int64) (x7 : Int32) (x8 : Int32) (x9 : Int32) (y0 : Int64) (y1 : Int64) : Prop := (k45 x1 x3 (y0 ||| y1) (x7 + (1 : Int32)) (x8 + (1 : Int32)))
def L_Re_packed_45 (S : GS) (post : Int64 → Prop) : Nat → Int64 → Int64 → Int64 → Int32 → Int32 → Prop
  | 0, _, _, _, _, _ => False
  | n45 + 1, x1, x3, x5, x7, x8 => (((100 : Int32) ≤ x8 → (J_Re_packed_117 S post x1 x3 x5 x7 x8)) ∧ (¬ (100 : Int32) ≤ x8 → (((6 : Int32) < x7 → (J_Re_packed_117 S post x1 x3 x5 x7 x8)) ∧ (¬ (6 : Int32) < x7 → (vp_in x8 108 ∧ ((((S.1 27) x8.toNatClampNeg) ≤ (0 : Int32) → (L_Re_packed_45 S post n45 x1 x3 x5 x7 (x8 + (1 : Int32)))) ∧ (¬ ((S.1 27) x8.toNatClampNeg) ≤ (0 : Int32) → (((6 : Int32) ≤ x7 → (J_Re_packed_105 S post (fun z0 z1 z2 z3 z4 => L_Re_packed_45 S post n45 z0 z1 z2 z3 z4) x1 (x3 ||| (x8.toInt64 <<< (((8 : Int32) + ((7 : Int32) * x7)).toInt64 &&& 63))) x5 x7 x8 ((8 : Int32) + ((7 : Int32) * x7)) x5 (0 : Int64))) ∧ (¬ (6 : Int32) ≤ x7 → (J_Re_packed_105 S post (fun z0 z1 z2 z3 z4 => L_Re_packed_45 S post n45 z0 z1 z2 z3 z4) x1 (x3 ||| (x8.toInt64 <<< (((8 : Int32) + ((7 : Int32) * x7)).toInt64 &&& 63))) x5 x7 x8 ((8 : Int32) + ((7 : Int32) * x7)) x5 ((1 : Int64) <<< (((8 : Int32) + ((7 : Int32) * x7)).toInt64 &&& 63))))))))))))
def L_Re_packed_4 (S : GS) (post : Int64 → Prop) : Nat → Int64 → Int32 → Prop
  | 0, _, _ => False
  | n4 + 1, x1, x3 => (((8 : Int32) ≤ x3 → (∃ q45, L_Re_packed_45 S post q45 x1 (0 : Int64) (0 : Int64) (0 : Int32) (4 : Int32))) ∧ (¬ (8 : Int32) ≤ x3 → (vp_in ((100 : Int32) + x3) 108 ∧ ((((S.1 27) ((100 : Int32) + x3).toNatClampNeg) ≤ (0 : Int32) → (L_Re_packed_4 S post n4 x1 (x3 + (1 : Int32)))) ∧ (¬ ((S.1 27) ((100 : Int32) + x3).toNatClampNeg) ≤ (0 : Int32) → (L_Re_packed_4 S post n4 (x1 ||| ((1 : Int64) <<< (x3.toInt64 &&& 63))) (x3 + (1 : Int32))))))))
def wp_Re_packed (S : GS) (post : Int64 → Prop) : Prop := (∃ q4, L_Re_packed_4 S post q4 (0 : Int64) (0 : Int32))
abbrev rm_Re_packed : Room := { frames := 0, cells := 0, slots := 0, locals := 0 }
set_option maxHeartbeats 4000000 in
set_option maxRecDepth 100000 in
theorem c_Re_packed (l : Launch) (D : va_G) (cI cZ cJ : ClassId) (a : Nat → Nat) (S : GS) (post : Int64 → Prop) (hf : wp_Re_packed S post) : Met l y_Re_packed ws_Re_packed rm_Re_packed (va_Pc [.ref (a 8)] (rPre D (tys cI cZ cJ) (gkW cI cZ cJ a S))) (vp_Sl post) 0 0 (fun _ => False) := by
  refine gm_r (cc := b_Re_packed) (maxL := 10) (by decide) rfl (Nat.le_of_ble_eq_true rfl) ?_
  intro p e s m args below meth c ls hx hb hr hts hown hlk hml hK hP hl
  have hl : lv_has ls 10 [(0, .ref (a 8))] := hl
  have hinRe : ∀ w ∈ u_ws R_Re T_Re 7, w ∈ ws_Re_packed := fun w h => List.mem_cons_of_mem _ (tl_Re w h)
  have hl9 := hts _ (List.mem_cons_of_mem _ tf_Re_9)
  have jn117 : ∀ (x1 : Int64) (x3 : Int64) (x5 : Int64) (x7 : Int32) (x8 : Int32) (ls : Array Slot), lv_has ls 10 [(0, .ref (a 8)), (1, .long x1), (3, .long x3), (5, .long x5), (7, .int x7), (8, .int x8)] → J_Re_packed_117 S post x1 x3 x5 x7 x8 → W p l e rm_Re_packed s m args below meth c s.heap [] 0 0 (MQ below (vp_Sl post) args s 0 0 (fun _ => False)) (F0 m 117 ls []) := by
    intro x1 x3 x5 x7 x8 ls hl hf
    unfold J_Re_packed_117 at hf
    refine lv_lload_n (pc := 117) hx hb d_Re_packed_117 rfl (lv_at hl 1 rfl) ?_
    refine lv_iload (pc := 118) hx hb d_Re_packed_118 (lv_at hl 4 rfl) ?_
    refine lv_bipush (pc := 120) (v := 6) hx hb d_Re_packed_120 (by decide) ?_
    refine lv_icmp_le (pc := 122) (tgt := 130) hx hb d_Re_packed_122 (by decide) (fun hc => ?_) (fun hc => ?_)
    · replace hf := hf.1 hc
      refine lv_lload_n (pc := 130) hx hb d_Re_packed_130 rfl (lv_at hl 2 rfl) ?_
      refine lv_lor (pc := 131) hx hb d_Re_packed_131 ?_
      exact rr_l (pc := 132) hx hb hr hlk hf d_Re_packed_132
    replace hf := hf.2 hc
    refine lv_lload (pc := 125) hx hb d_Re_packed_125 (lv_at hl 3 rfl) ?_
    refine lv_goto (pc := 127) (tgt := 131) hx hb d_Re_packed_127 (by decide) ?_
    refine lv_lor (pc := 131) hx hb d_Re_packed_131 ?_
    exact rr_l (pc := 132) hx hb hr hlk hf d_Re_packed_132
  unfold wp_Re_packed at hf
  refine lv_lconst (pc := 0) (v := 0) hx hb d_Re_packed_0 (by decide) ?_
  refine lv_lstore_n (pc := 1) (lv' := [(1, .long (0 : Int64)), (0, .ref (a 8))]) hx hb d_Re_packed_1 rfl hl (by decide) rfl (fun ls hl => ?_)
  refine lv_iconst (pc := 2) (v := 0) hx hb d_Re_packed_2 (by decide) ?_
  refine lv_istore_n (pc := 3) (lv' := [(3, .int (0 : Int32)), (1, .long (0 : Int64)), (0, .ref (a 8))]) hx hb d_Re_packed_3 rfl hl (by decide) rfl (fun ls hl => ?_)
  obtain ⟨q4, hf⟩ := hf
  have lp4 : ∀ (n4 : Nat) (x1 : Int64) (x3 : Int32) (ls : Array Slot), lv_has ls 10 [(0, .ref (a 8)), (1, .long x1), (3, .int x3)] → L_Re_packed_4 S post n4 x1 x3 → W p l e rm_Re_packed s m args below meth c s.heap [] 0 0 (MQ below (vp_Sl post) args s 0 0 (fun _ => False)) (F0 m 4 ls []) := by
    intro n4
    induction n4 with
    | zero => intro x1 x3 ls hl hf; exact False.elim hf
    | succ n4 ih4 =>
      intro x1 x3 ls hl hf
      unfold L_Re_packed_4 at hf
      refine lv_iload_n (pc := 4) hx hb d_Re_packed_4 rfl (lv_at hl 2 rfl) ?_
      refine lv_bipush (pc := 5) (v := 8) hx hb d_Re_packed_5 (by decide) ?_
      refine lv_icmp_ge (pc := 7) (tgt := 34) hx hb d_Re_packed_7 (by decide) (fun hc => ?_) (fun hc => ?_)
      · replace hf := hf.1 hc
        refine lv_lconst (pc := 34) (v := 0) hx hb d_Re_packed_34 (by decide) ?_
        refine lv_lstore_n (pc := 35) (lv' := [(3, .long (0 : Int64)), (0, .ref (a 8)), (1, .long x1)]) hx hb d_Re_packed_35 rfl hl (by decide) rfl (fun ls hl => ?_)
        refine lv_lconst (pc := 36) (v := 0) hx hb d_Re_packed_36 (by decide) ?_
        refine lv_lstore (pc := 37) (lv' := [(5, .long (0 : Int64)), (3, .long (0 : Int64)), (0, .ref (a 8)), (1, .long x1)]) hx hb d_Re_packed_37 hl (by decide) rfl (fun ls hl => ?_)
        refine lv_iconst (pc := 39) (v := 0) hx hb d_Re_packed_39 (by decide) ?_
        refine lv_istore (pc := 40) (lv' := [(7, .int (0 : Int32)), (5, .long (0 : Int64)), (3, .long (0 : Int64)), (0, .ref (a 8)), (1, .long x1)]) hx hb d_Re_packed_40 hl (by decide) rfl (fun ls hl => ?_)
        refine lv_iconst (pc := 42) (v := 4) hx hb d_Re_packed_42 (by decide) ?_
        refine lv_istore (pc := 43) (lv' := [(8, .int (4 : Int32)), (7, .int (0 : Int32)), (5, .long (0 : Int64)), (3, .long (0 : Int64)), (0, .ref (a 8)), (1, .long x1)]) hx hb d_Re_packed_43 hl (by decide) rfl (fun ls hl => ?_)
        obtain ⟨q45, hf⟩ := hf
        have lp45 : ∀ (n45 : Nat) (x1 : Int64) (x3 : Int64) (x5 : Int64) (x7 : Int32) (x8 : Int32) (ls : Array Slot), lv_has ls 10 [(0, .ref (a 8)), (1, .long x1), (3, .long x3), (5, .long x5), (7, .int x7), (8, .int x8)] → L_Re_packed_45 S post n45 x1 x3 x5 x7 x8 → W p l e rm_Re_packed s m args below meth c s.heap [] 0 0 (MQ below (vp_Sl post) args s 0 0 (fun _ => False)) (F0 m 45 ls []) := by
          intro n45
          induction n45 with
          | zero => intro x1 x3 x5 x7 x8 ls hl hf; exact False.elim hf
          | succ n45 ih45 =>
            have jn105 : ∀ (x1 : Int64) (x3 : Int64) (x5 : Int64) (x7 : Int32) (x8 : Int32) (x9 : Int32) (y0 : Int64) (y1 : Int64) (ls : Array Slot), lv_has ls 10 [(0, .ref (a 8)), (1, .long x1), (3, .long x3), (5, .long x5), (7, .int x7), (8, .int x8), (9, .int x9)] → J_Re_packed_105 S post (fun z0 z1 z2 z3 z4 => L_Re_packed_45 S post n45 z0 z1 z2 z3 z4) x1 x3 x5 x7 x8 x9 y0 y1 → W p l e rm_Re_packed s m args below meth c s.heap [] 0 0 (MQ below (vp_Sl post) args s 0 0 (fun _ => False)) (F0 m 105 ls [.long y1, .long y0]) := by
              intro x1 x3 x5 x7 x8 x9 y0 y1 ls hl hf
              unfold J_Re_packed_105 at hf
              refine lv_lor (pc := 105) hx hb d_Re_packed_105 ?_
              refine lv_lstore (pc := 106) (lv' := [(5, .long (y0 ||| y1)), (0, .ref (a 8)), (1, .long x1), (3, .long x3), (7, .int x7), (8, .int x8), (9, .int x9)]) hx hb d_Re_packed_106 hl (by decide) rfl (fun ls hl => ?_)
              refine lv_iinc (pc := 108) (k := 4) (v := (x7 + (1 : Int32))) (lv' := [(7, .int (x7 + (1 : Int32))), (5, .long (y0 ||| y1)), (0, .ref (a 8)), (1, .long x1), (3, .long x3), (8, .int x8), (9, .int x9)]) hx hb d_Re_packed_108 hl rfl rfl (by decide) rfl (fun ls hl => ?_)
              refine lv_iinc (pc := 111) (k := 5) (v := (x8 + (1 : Int32))) (lv' := [(8, .int (x8 + (1 : Int32))), (7, .int (x7 + (1 : Int32))), (5, .long (y0 ||| y1)), (0, .ref (a 8)), (1, .long x1), (3, .long x3), (9, .int x9)]) hx hb d_Re_packed_111 hl rfl rfl (by decide) rfl (fun ls hl => ?_)
              refine lv_goto (pc := 114) (tgt := 45) hx hb d_Re_packed_114 (by decide) ?_
              exact ih45 x1 x3 (y0 ||| y1) (x7 + (1 : Int32)) (x8 + (1 : Int32)) _ (lv_sub hl [3, 4, 5, 2, 1, 0] rfl) hf
            intro x1 x3 x5 x7 x8 ls hl hf
            unfold L_Re_packed_45 at hf
            refine lv_iload (pc := 45) hx hb d_Re_packed_45 (lv_at hl 5 rfl) ?_
            refine lv_bipush (pc := 47) (v := 100) hx hb d_Re_packed_47 (by decide) ?_
            refine lv_icmp_ge (pc := 49) (tgt := 117) hx hb d_Re_packed_49 (by decide) (fun hc => ?_) (fun hc => ?_)
            · replace hf := hf.1 hc
              exact jn117 x1 x3 x5 x7 x8 _ (lv_sub hl [0, 1, 2, 3, 4, 5] rfl) hf
            replace hf := hf.2 hc
            refine lv_iload (pc := 52) hx hb d_Re_packed_52 (lv_at hl 4 rfl) ?_
            refine lv_bipush (pc := 54) (v := 6) hx hb d_Re_packed_54 (by decide) ?_
            refine lv_icmp_gt (pc := 56) (tgt := 117) hx hb d_Re_packed_56 (by decide) (fun hc => ?_) (fun hc => ?_)
            · replace hf := hf.1 hc
              exact jn117 x1 x3 x5 x7 x8 _ (lv_sub hl [0, 1, 2, 3, 4, 5] rfl) hf
            replace hf := hf.2 hc
            refine lv_aload_n (pc := 59) hx hb d_Re_packed_59 rfl (lv_at hl 0 rfl) ?_
            refine gk_gt_Re_holders (pc := 60) hx hb hK hts hinRe hown hP hl9 d_Re_packed_60 ?_
            refine lv_iload (pc := 63) hx hb d_Re_packed_63 (lv_at hl 5 rfl) ?_
            refine gk_ld23 (pc := 65) (v := ((S.1 27) x8.toNatClampNeg)) hx hb hK hP hf.1 rfl d_Re_packed_65 ?_
            replace hf := hf.2
            refine lv_if_le (pc := 66) (tgt := 111) hx hb d_Re_packed_66 (by decide) (fun hc => ?_) (fun hc => ?_)
            · replace hf := hf.1 hc
              refine lv_iinc (pc := 111) (k := 5) (v := (x8 + (1 : Int32))) (lv' := [(8, .int (x8 + (1 : Int32))), (0, .ref (a 8)), (1, .long x1), (3, .long x3), (5, .long x5), (7, .int x7)]) hx hb d_Re_packed_111 hl rfl rfl (by decide) rfl (fun ls hl => ?_)
              refine lv_goto (pc := 114) (tgt := 45) hx hb d_Re_packed_114 (by decide) ?_
              exact ih45 x1 x3 x5 x7 (x8 + (1 : Int32)) _ (lv_sub hl [1, 2, 3, 4, 5, 0] rfl) hf
            replace hf := hf.2 hc
            refine lv_bipush (pc := 69) (v := 8) hx hb d_Re_packed_69 (by decide) ?_
            refine lv_bipush (pc := 71) (v := 7) hx hb d_Re_packed_71 (by decide) ?_
            refine lv_iload (pc := 73) hx hb d_Re_packed_73 (lv_at hl 4 rfl) ?_
            refine lv_imul (pc := 75) hx hb d_Re_packed_75 ?_
            refine lv_iadd (pc := 76) hx hb d_Re_packed_76 ?_
            refine lv_istore (pc := 77) (lv' := [(9, .int ((8 : Int32) + ((7 : Int32) * x7))), (0, .ref (a 8)), (1, .long x1), (3, .long x3), (5, .long x5), (7, .int x7), (8, .int x8)]) hx hb d_Re_packed_77 hl (by decide) rfl (fun ls hl => ?_)
            refine lv_lload_n (pc := 79) hx hb d_Re_packed_79 rfl (lv_at hl 3 rfl) ?_
            refine lv_iload (pc := 80) hx hb d_Re_packed_80 (lv_at hl 6 rfl) ?_
            refine lv_i2l (pc := 82) hx hb d_Re_packed_82 rfl ?_
            refine lv_iload (pc := 83) hx hb d_Re_packed_83 (lv_at hl 0 rfl) ?_
            refine lv_lshl (pc := 85) hx hb d_Re_packed_85 rfl ?_
            refine lv_lor (pc := 86) hx hb d_Re_packed_86 ?_
            refine lv_lstore_n (pc := 87) (lv' := [(3, .long (x3 ||| (x8.toInt64 <<< (((8 : Int32) + ((7 : Int32) * x7)).toInt64 &&& 63)))), (9, .int ((8 : Int32) + ((7 : Int32) * x7))), (0, .ref (a 8)), (1, .long x1), (5, .long x5), (7, .int x7), (8, .int x8)]) hx hb d_Re_packed_87 rfl hl (by decide) rfl (fun ls hl => ?_)
            refine lv_lload (pc := 88) hx hb d_Re_packed_88 (lv_at hl 4 rfl) ?_
            refine lv_iload (pc := 90) hx hb d_Re_packed_90 (lv_at hl 5 rfl) ?_
            refine lv_bipush (pc := 92) (v := 6) hx hb d_Re_packed_92 (by decide) ?_
            refine lv_icmp_ge (pc := 94) (tgt := 104) hx hb d_Re_packed_94 (by decide) (fun hc => ?_) (fun hc => ?_)
            · replace hf := hf.1 hc
              refine lv_lconst (pc := 104) (v := 0) hx hb d_Re_packed_104 (by decide) ?_
              exact jn105 x1 (x3 ||| (x8.toInt64 <<< (((8 : Int32) + ((7 : Int32) * x7)).toInt64 &&& 63))) x5 x7 x8 ((8 : Int32) + ((7 : Int32) * x7)) x5 (0 : Int64) _ (lv_sub hl [2, 3, 0, 4, 5, 6, 1] rfl) hf
            replace hf := hf.2 hc
            refine lv_lconst (pc := 97) (v := 1) hx hb d_Re_packed_97 (by decide) ?_
            refine lv_iload (pc := 98) hx hb d_Re_packed_98 (lv_at hl 1 rfl) ?_
            refine lv_lshl (pc := 100) hx hb d_Re_packed_100 rfl ?_
            refine lv_goto (pc := 101) (tgt := 105) hx hb d_Re_packed_101 (by decide) ?_
            exact jn105 x1 (x3 ||| (x8.toInt64 <<< (((8 : Int32) + ((7 : Int32) * x7)).toInt64 &&& 63))) x5 x7 x8 ((8 : Int32) + ((7 : Int32) * x7)) x5 ((1 : Int64) <<< (((8 : Int32) + ((7 : Int32) * x7)).toInt64 &&& 63)) _ (lv_sub hl [2, 3, 0, 4, 5, 6, 1] rfl) hf
        exact lp45 q45 x1 (0 : Int64) (0 : Int64) (0 : Int32) (4 : Int32) _ (lv_sub hl [4, 5, 3, 2, 1, 0] rfl) hf
      replace hf := hf.2 hc
      refine lv_aload_n (pc := 10) hx hb d_Re_packed_10 rfl (lv_at hl 0 rfl) ?_
      refine gk_gt_Re_holders (pc := 11) hx hb hK hts hinRe hown hP hl9 d_Re_packed_11 ?_
      refine lv_bipush (pc := 14) (v := 100) hx hb d_Re_packed_14 (by decide) ?_
      refine lv_iload_n (pc := 16) hx hb d_Re_packed_16 rfl (lv_at hl 2 rfl) ?_
      refine lv_iadd (pc := 17) hx hb d_Re_packed_17 ?_
      refine gk_ld23 (pc := 18) (v := ((S.1 27) ((100 : Int32) + x3).toNatClampNeg)) hx hb hK hP hf.1 rfl d_Re_packed_18 ?_
      replace hf := hf.2
      refine lv_if_le (pc := 19) (tgt := 28) hx hb d_Re_packed_19 (by decide) (fun hc => ?_) (fun hc => ?_)
      · replace hf := hf.1 hc
        refine lv_iinc (pc := 28) (k := 2) (v := (x3 + (1 : Int32))) (lv' := [(3, .int (x3 + (1 : Int32))), (0, .ref (a 8)), (1, .long x1)]) hx hb d_Re_packed_28 hl rfl rfl (by decide) rfl (fun ls hl => ?_)
        refine lv_goto (pc := 31) (tgt := 4) hx hb d_Re_packed_31 (by decide) ?_
        exact ih4 x1 (x3 + (1 : Int32)) _ (lv_sub hl [1, 2, 0] rfl) hf
      replace hf := hf.2 hc
      refine lv_lload_n (pc := 22) hx hb d_Re_packed_22 rfl (lv_at hl 1 rfl) ?_
      refine lv_lconst (pc := 23) (v := 1) hx hb d_Re_packed_23 (by decide) ?_
      refine lv_iload_n (pc := 24) hx hb d_Re_packed_24 rfl (lv_at hl 2 rfl) ?_
      refine lv_lshl (pc := 25) hx hb d_Re_packed_25 rfl ?_
      refine lv_lor (pc := 26) hx hb d_Re_packed_26 ?_
      refine lv_lstore_n (pc := 27) (lv' := [(1, .long (x1 ||| ((1 : Int64) <<< (x3.toInt64 &&& 63)))), (0, .ref (a 8)), (3, .int x3)]) hx hb d_Re_packed_27 rfl hl (by decide) rfl (fun ls hl => ?_)
      refine lv_iinc (pc := 28) (k := 2) (v := (x3 + (1 : Int32))) (lv' := [(3, .int (x3 + (1 : Int32))), (1, .long (x1 ||| ((1 : Int64) <<< (x3.toInt64 &&& 63)))), (0, .ref (a 8))]) hx hb d_Re_packed_28 hl rfl rfl (by decide) rfl (fun ls hl => ?_)
      refine lv_goto (pc := 31) (tgt := 4) hx hb d_Re_packed_31 (by decide) ?_
      exact ih4 (x1 ||| ((1 : Int64) <<< (x3.toInt64 &&& 63))) (x3 + (1 : Int32)) _ (lv_sub hl [2, 1, 0] rfl) hf
  exact lp4 q4 (0 : Int64) (0 : Int32) _ (lv_sub hl [2, 1, 0] rfl) hf
def wp_Re_putIfOther (S : GS) (p0 : Int64) (post : GS → Prop) : Prop := (((lg_cmp p0 (S.2 0 0)) = (0 : Int32) → (post S)) ∧ (¬ (lg_cmp p0 (S.2 0 0)) = (0 : Int32) → (((S.1 11 0) = (8 : Int32) → (post (gI S 12 (fun _ => (1 : Int32))))) ∧ (¬ (S.1 11 0) = (8 : Int32) → (vp_in (((S.1 10 0) + (S.1 11 0)) - ((S.1 10 0) + (S.1 11 0)) / (8 : Int32) * (8 : Int32)) 8 ∧ (post (gL (gI (gL S 2 (vp_updL (S.2 2) ((((S.1 10 0) + (S.1 11 0)) - ((S.1 10 0) + (S.1 11 0)) / (8 : Int32) * (8 : Int32))).toNatClampNeg p0)) 11 (fun _ => ((S.1 11 0) + (1 : Int32)))) 0 (fun _ => p0))))))))
abbrev rm_Re_putIfOther : Room := { frames := 0, cells := 0, slots := 0, locals := 0 }
set_option maxHeartbeats 4000000 in
set_option maxRecDepth 100000 in
theorem c_Re_putIfOther (l : Launch) (D : va_G) (cI cZ cJ : ClassId) (a : Nat → Nat) (sz : Nat) (S : GS) (p0 : Int64) (post : GS → Prop) (hf : wp_Re_putIfOther S p0 post) : Met l y_Re_putIfOther ws_Re_putIfOther rm_Re_putIfOther (va_Pc [.ref (a 8), .long p0] (gPre D (tys cI cZ cJ) (gkW cI cZ cJ a S) sz)) (va_Qv post (gB D (tys cI cZ cJ) (gkW cI cZ cJ a) (va_A (gkW cI cZ cJ a S) sz)) (va_A (gkW cI cZ cJ a S) sz)) 0 0 (va_A (gkW cI cZ cJ a S) sz) := by
  refine gm_w (QF := fun A => va_Qv post (gB D (tys cI cZ cJ) (gkW cI cZ cJ a) A) A) (cc := b_Re_putIfOther) (maxL := 3) (by decide) rfl (Nat.le_of_ble_eq_true rfl) ?_
  intro p e s m args below meth c A ls hx hb hr hts hown hmn hlk hml hK hA hw hl
  have hl : lv_has ls 3 [(0, .ref (a 8)), (1, .long p0)] := hl
  have hinRe : ∀ w ∈ u_ws R_Re T_Re 7, w ∈ ws_Re_putIfOther := fun w h => List.mem_cons_of_mem _ (tl_Re w h)
  have hl15 := hts _ (List.mem_cons_of_mem _ tf_Re_15)
  have hl19 := hts _ (List.mem_cons_of_mem _ tf_Re_19)
  have hl23 := hts _ (List.mem_cons_of_mem _ tf_Re_23)
  have hl35 := hts _ (List.mem_cons_of_mem _ tf_Re_35)
  have hl46 := hts _ (List.mem_cons_of_mem _ tf_Re_46)
  unfold wp_Re_putIfOther at hf
  refine lv_lload_n (pc := 0) hx hb d_Re_putIfOther_0 rfl (lv_at hl 1 rfl) ?_
  refine lv_aload_n (pc := 1) hx hb d_Re_putIfOther_1 rfl (lv_at hl 0 rfl) ?_
  refine gk_gt_Re_lastPut (pc := 2) (v := (S.2 0 0)) hx hb hK hts hinRe hown hw.1 hl46 rfl d_Re_putIfOther_2 ?_
  refine W.lcmp (pc := 5) hx hb d_Re_putIfOther_5 ?_
  refine lv_if_ne (pc := 6) (tgt := 10) hx hb d_Re_putIfOther_6 (by decide) (fun hc => ?_) (fun hc => ?_)
  · replace hf := hf.2 hc
    refine lv_aload_n (pc := 10) hx hb d_Re_putIfOther_10 rfl (lv_at hl 0 rfl) ?_
    refine gk_gt_Re_stored (pc := 11) (v := (S.1 11 0)) hx hb hK hts hinRe hown hw.1 hl19 rfl d_Re_putIfOther_11 ?_
    refine lv_bipush (pc := 14) (v := 8) hx hb d_Re_putIfOther_14 (by decide) ?_
    refine lv_icmp_ne (pc := 16) (tgt := 25) hx hb d_Re_putIfOther_16 (by decide) (fun hc => ?_) (fun hc => ?_)
    · replace hf := hf.2 hc
      refine lv_aload_n (pc := 25) hx hb d_Re_putIfOther_25 rfl (lv_at hl 0 rfl) ?_
      refine gk_gt_Re_store (pc := 26) hx hb hK hts hinRe hown hw.1 hl15 d_Re_putIfOther_26 ?_
      refine lv_aload_n (pc := 29) hx hb d_Re_putIfOther_29 rfl (lv_at hl 0 rfl) ?_
      refine gk_gt_Re_oldest (pc := 30) (v := (S.1 10 0)) hx hb hK hts hinRe hown hw.1 hl35 rfl d_Re_putIfOther_30 ?_
      refine lv_aload_n (pc := 33) hx hb d_Re_putIfOther_33 rfl (lv_at hl 0 rfl) ?_
      refine gk_gt_Re_stored (pc := 34) (v := (S.1 11 0)) hx hb hK hts hinRe hown hw.1 hl19 rfl d_Re_putIfOther_34 ?_
      refine lv_iadd (pc := 37) hx hb d_Re_putIfOther_37 ?_
      refine lv_bipush (pc := 38) (v := 8) hx hb d_Re_putIfOther_38 (by decide) ?_
      refine lv_irem (pc := 40) hx hb d_Re_putIfOther_40 (by decide) ?_
      refine lv_lload_n (pc := 41) hx hb d_Re_putIfOther_41 rfl (lv_at hl 1 rfl) ?_
      refine gk_st24 (pc := 42) hx hb hK hw hf.1 d_Re_putIfOther_42 (fun H locs hw => ?_)
      replace hf := hf.2
      refine lv_aload_n (pc := 43) hx hb d_Re_putIfOther_43 rfl (lv_at hl 0 rfl) ?_
      refine lv_dup (pc := 44) hx hb d_Re_putIfOther_44 rfl ?_
      refine gk_gt_Re_stored (pc := 45) (v := (S.1 11 0)) hx hb hK hts hinRe hown hw.1 hl19 rfl d_Re_putIfOther_45 ?_
      refine lv_iconst (pc := 48) (v := 1) hx hb d_Re_putIfOther_48 (by decide) ?_
      refine lv_iadd (pc := 49) hx hb d_Re_putIfOther_49 ?_
      refine gk_pt_Re_stored (pc := 50) hx hb hK hts hinRe hown hw hl19 d_Re_putIfOther_50 (fun H locs hw => ?_)
      refine lv_aload_n (pc := 53) hx hb d_Re_putIfOther_53 rfl (lv_at hl 0 rfl) ?_
      refine lv_lload_n (pc := 54) hx hb d_Re_putIfOther_54 rfl (lv_at hl 1 rfl) ?_
      refine gk_pt_Re_lastPut (pc := 55) hx hb hK hts hinRe hown hw hl46 d_Re_putIfOther_55 (fun H locs hw => ?_)
      exact gr_v (pc := 58) hx hb hr hlk hK (gL (gI (gL S 2 (vp_updL (S.2 2) ((((S.1 10 0) + (S.1 11 0)) - ((S.1 10 0) + (S.1 11 0)) / (8 : Int32) * (8 : Int32))).toNatClampNeg p0)) 11 (fun _ => ((S.1 11 0) + (1 : Int32)))) 0 (fun _ => p0)) hw hf d_Re_putIfOther_58
    replace hf := hf.1 hc
    refine lv_aload_n (pc := 19) hx hb d_Re_putIfOther_19 rfl (lv_at hl 0 rfl) ?_
    refine lv_iconst (pc := 20) (v := 1) hx hb d_Re_putIfOther_20 (by decide) ?_
    refine gk_pt_Re_late (pc := 21) hx hb hK hts hinRe hown hw hl23 (by decide) (by decide) d_Re_putIfOther_21 (fun H locs hw => ?_)
    exact gr_v (pc := 24) hx hb hr hlk hK (gI S 12 (fun _ => (1 : Int32))) hw hf d_Re_putIfOther_24
  replace hf := hf.1 hc
  exact gr_v (pc := 9) hx hb hr hlk hK S hw hf d_Re_putIfOther_9
def wp_Re_letGo (S : GS) (p0 : Int32) (post : GS → Prop) : Prop := (vp_in p0 108 ∧ (vp_in p0 108 ∧ (wp_Re_packed (gI S 27 (upd (S.1 27) (p0).toNatClampNeg (((S.1 27) p0.toNatClampNeg) - (1 : Int32)))) (fun r12 => (wp_Re_putIfOther (gI S 27 (upd (S.1 27) (p0).toNatClampNeg (((S.1 27) p0.toNatClampNeg) - (1 : Int32)))) r12 (fun S15 => (post S15)))))))
abbrev rm_Re_letGo : Room := { frames := 1, cells := 0, slots := 0, locals := 29 }
set_option maxHeartbeats 4000000 in
set_option maxRecDepth 100000 in
theorem c_Re_letGo (l : Launch) (D : va_G) (cI cZ cJ : ClassId) (a : Nat → Nat) (sz : Nat) (S : GS) (p0 : Int32) (post : GS → Prop) (hf : wp_Re_letGo S p0 post) : Met l y_Re_letGo ws_Re_letGo rm_Re_letGo (va_Pc [.ref (a 8), .int p0] (gPre D (tys cI cZ cJ) (gkW cI cZ cJ a S) sz)) (va_Qv post (gB D (tys cI cZ cJ) (gkW cI cZ cJ a) (va_A (gkW cI cZ cJ a S) sz)) (va_A (gkW cI cZ cJ a S) sz)) 0 0 (va_A (gkW cI cZ cJ a S) sz) := by
  refine gm_w (QF := fun A => va_Qv post (gB D (tys cI cZ cJ) (gkW cI cZ cJ a) A) A) (cc := b_Re_letGo) (maxL := 2) (by decide) rfl (Nat.le_of_ble_eq_true rfl) ?_
  intro p e s m args below meth c A ls hx hb hr hts hown hmn hlk hml hK hA hw hl
  have hl : lv_has ls 2 [(0, .ref (a 8)), (1, .int p0)] := hl
  have hinRe : ∀ w ∈ u_ws R_Re T_Re 7, w ∈ ws_Re_letGo := fun w h => List.mem_cons_of_mem _ (tl_Re w h)
  have hl9 := hts _ (List.mem_cons_of_mem _ tf_Re_9)
  unfold wp_Re_letGo at hf
  refine lv_aload_n (pc := 0) hx hb d_Re_letGo_0 rfl (lv_at hl 0 rfl) ?_
  refine gk_gt_Re_holders (pc := 1) hx hb hK hts hinRe hown hw.1 hl9 d_Re_letGo_1 ?_
  refine lv_iload_n (pc := 4) hx hb d_Re_letGo_4 rfl (lv_at hl 1 rfl) ?_
  refine lv_dup2_11 (pc := 5) hx hb d_Re_letGo_5 rfl rfl ?_
  refine gk_ld23 (pc := 6) (v := ((S.1 27) p0.toNatClampNeg)) hx hb hK hw.1 hf.1 rfl d_Re_letGo_6 ?_
  replace hf := hf.2
  refine lv_iconst (pc := 7) (v := 1) hx hb d_Re_letGo_7 (by decide) ?_
  refine lv_isub (pc := 8) hx hb d_Re_letGo_8 ?_
  refine gk_st23 (pc := 9) hx hb hK hw hf.1 d_Re_letGo_9 (fun H locs hw => ?_)
  replace hf := hf.2
  refine lv_aload_n (pc := 10) hx hb d_Re_letGo_10 rfl (lv_at hl 0 rfl) ?_
  refine lv_aload_n (pc := 11) hx hb d_Re_letGo_11 rfl (lv_at hl 0 rfl) ?_
  refine vp_callSl (pc := 12) (W.runV (As := []) (rest := [.ref (a 8)]) ⟨hx, hb, hml, hown, hts⟩ (c_Re_packed l D cI cZ cJ a _ _ hf) (cwV 0 hts (tb_wsV tc_Re_packed tm_Re_27 ti_Re_packed te_Re_packed tz_Re) rfl rfl rfl (by decide +kernel) ⟨Nat.le_of_ble_eq_true rfl, Nat.le_of_ble_eq_true rfl⟩) (r_preV (q0 := 8) (ci := 8) hK hw.1 rfl rfl) rfl rfl hl.1 rfl (lv_room (Nat.le_of_ble_eq_true rfl)) d_Re_letGo_12 ⟨Nat.zero_le _, Nat.zero_le _⟩) (fun r12 hf => ?_)
  refine gc_v (pc := 15) (Wf := gkW cI cZ cJ a) hw hA (va_runV (As := [.long r12]) (rest := []) ⟨hx, hb, hml, hown, hts⟩ (c_Re_putIfOther l D cI cZ cJ a _ _ _ _ hf) (cwV 1 hts (tb_wsV tc_Re_putIfOther tm_Re_31 ti_Re_putIfOther te_Re_putIfOther tz_Re) rfl rfl rfl (by decide +kernel) ⟨Nat.le_of_ble_eq_true rfl, Nat.le_of_ble_eq_true rfl⟩) (g_preV (q0 := 8) (ci := 8) hK hw rfl rfl) rfl rfl hl.1 rfl (lv_room (Nat.le_of_ble_eq_true rfl)) d_Re_letGo_15 ⟨Nat.zero_le _, Nat.zero_le _⟩) (fun S15 H locs hw hf => ?_)
  exact gr_v (pc := 18) hx hb hr hlk hK S15 hw hf d_Re_letGo_18
def L_Eq_rowLength_2 (S : GS) (post : Int32 → Prop) : Nat → Int32 → Prop
  | 0, _ => False
  | n2 + 1, x1 => (((S.1 7 0) ≤ x1 → (post x1)) ∧ (¬ (S.1 7 0) ≤ x1 → (wp_Eq_isPress S x1 (fun r12 => ((r12 = (0 : Int32) → (post x1)) ∧ (¬ r12 = (0 : Int32) → (vp_in x1 32 ∧ (vp_in (0 : Int32) 32 ∧ (((((S.1 17) (0 : Int32).toNatClampNeg) + (9 : Int32)) < ((S.1 17) x1.toNatClampNeg) → (post x1)) ∧ (¬ (((S.1 17) (0 : Int32).toNatClampNeg) + (9 : Int32)) < ((S.1 17) x1.toNatClampNeg) → (L_Eq_rowLength_2 S post n2 (x1 + (1 : Int32)))))))))))))
def wp_Eq_rowLength (S : GS) (post : Int32 → Prop) : Prop := (∃ q2, L_Eq_rowLength_2 S post q2 (0 : Int32))
abbrev rm_Eq_rowLength : Room := { frames := 1, cells := 0, slots := 0, locals := 21 }
set_option maxHeartbeats 4000000 in
set_option maxRecDepth 100000 in
theorem c_Eq_rowLength (l : Launch) (D : va_G) (cI cZ cJ : ClassId) (a : Nat → Nat) (S : GS) (post : Int32 → Prop) (hf : wp_Eq_rowLength S post) : Met l y_Eq_rowLength ws_Eq_rowLength rm_Eq_rowLength (va_Pc [.ref (a 3)] (rPre D (tys cI cZ cJ) (gkW cI cZ cJ a S))) (vp_Si post) 0 0 (fun _ => False) := by
  refine gm_r (cc := b_Eq_rowLength) (maxL := 2) (by decide) rfl (Nat.le_of_ble_eq_true rfl) ?_
  intro p e s m args below meth c ls hx hb hr hts hown hlk hml hK hP hl
  have hl : lv_has ls 2 [(0, .ref (a 3))] := hl
  have hinEq : ∀ w ∈ u_ws R_Eq T_Eq 3, w ∈ ws_Eq_rowLength := fun w h => List.mem_cons_of_mem _ (tl_Eq w h)
  have hl15 := hts _ (List.mem_cons_of_mem _ tf_Eq_15)
  have hl18 := hts _ (List.mem_cons_of_mem _ tf_Eq_18)
  unfold wp_Eq_rowLength at hf
  refine lv_iconst (pc := 0) (v := 0) hx hb d_Eq_rowLength_0 (by decide) ?_
  refine lv_istore_n (pc := 1) (lv' := [(1, .int (0 : Int32)), (0, .ref (a 3))]) hx hb d_Eq_rowLength_1 rfl hl (by decide) rfl (fun ls hl => ?_)
  obtain ⟨q2, hf⟩ := hf
  have lp2 : ∀ (n2 : Nat) (x1 : Int32) (ls : Array Slot), lv_has ls 2 [(0, .ref (a 3)), (1, .int x1)] → L_Eq_rowLength_2 S post n2 x1 → W p l e rm_Eq_rowLength s m args below meth c s.heap [] 0 0 (MQ below (vp_Si post) args s 0 0 (fun _ => False)) (F0 m 2 ls []) := by
    intro n2
    induction n2 with
    | zero => intro x1 ls hl hf; exact False.elim hf
    | succ n2 ih2 =>
      intro x1 ls hl hf
      unfold L_Eq_rowLength_2 at hf
      refine lv_iload_n (pc := 2) hx hb d_Eq_rowLength_2 rfl (lv_at hl 1 rfl) ?_
      refine lv_aload_n (pc := 3) hx hb d_Eq_rowLength_3 rfl (lv_at hl 0 rfl) ?_
      refine gk_gt_Eq_length (pc := 4) (v := (S.1 7 0)) hx hb hK hts hinEq hown hP hl18 rfl d_Eq_rowLength_4 ?_
      refine lv_icmp_ge (pc := 7) (tgt := 42) hx hb d_Eq_rowLength_7 (by decide) (fun hc => ?_) (fun hc => ?_)
      · replace hf := hf.1 hc
        refine lv_iload_n (pc := 42) hx hb d_Eq_rowLength_42 rfl (lv_at hl 1 rfl) ?_
        exact rr_i (pc := 43) hx hb hr hlk hf d_Eq_rowLength_43
      replace hf := hf.2 hc
      refine lv_aload_n (pc := 10) hx hb d_Eq_rowLength_10 rfl (lv_at hl 0 rfl) ?_
      refine lv_iload_n (pc := 11) hx hb d_Eq_rowLength_11 rfl (lv_at hl 1 rfl) ?_
      refine vp_callSi (pc := 12) (W.runV (As := [.int x1]) (rest := []) ⟨hx, hb, hml, hown, hts⟩ (c_Eq_isPress l D cI cZ cJ a _ _ _ hf) (cwV 1 hts (tb_wsV tc_Eq_isPress tm_Eq_28 ti_Eq_isPress te_Eq_isPress tz_Eq) rfl rfl rfl (by decide +kernel) ⟨Nat.le_of_ble_eq_true rfl, Nat.le_of_ble_eq_true rfl⟩) (r_preV (q0 := 3) (ci := 3) hK hP rfl rfl) rfl rfl hl.1 rfl (lv_room (Nat.le_of_ble_eq_true rfl)) d_Eq_rowLength_12 ⟨Nat.zero_le _, Nat.zero_le _⟩) (fun r12 hf => ?_)
      refine lv_if_eq (pc := 15) (tgt := 42) hx hb d_Eq_rowLength_15 (by decide) (fun hc => ?_) (fun hc => ?_)
      · replace hf := hf.1 hc
        refine lv_iload_n (pc := 42) hx hb d_Eq_rowLength_42 rfl (lv_at hl 1 rfl) ?_
        exact rr_i (pc := 43) hx hb hr hlk hf d_Eq_rowLength_43
      replace hf := hf.2 hc
      refine lv_aload_n (pc := 18) hx hb d_Eq_rowLength_18 rfl (lv_at hl 0 rfl) ?_
      refine gk_gt_Eq_scanOf (pc := 19) hx hb hK hts hinEq hown hP hl15 d_Eq_rowLength_19 ?_
      refine lv_iload_n (pc := 22) hx hb d_Eq_rowLength_22 rfl (lv_at hl 1 rfl) ?_
      refine gk_ld13 (pc := 23) (v := ((S.1 17) x1.toNatClampNeg)) hx hb hK hP hf.1 rfl d_Eq_rowLength_23 ?_
      replace hf := hf.2
      refine lv_aload_n (pc := 24) hx hb d_Eq_rowLength_24 rfl (lv_at hl 0 rfl) ?_
      refine gk_gt_Eq_scanOf (pc := 25) hx hb hK hts hinEq hown hP hl15 d_Eq_rowLength_25 ?_
      refine lv_iconst (pc := 28) (v := 0) hx hb d_Eq_rowLength_28 (by decide) ?_
      refine gk_ld13 (pc := 29) (v := ((S.1 17) (0 : Int32).toNatClampNeg)) hx hb hK hP hf.1 rfl d_Eq_rowLength_29 ?_
      replace hf := hf.2
      refine lv_bipush (pc := 30) (v := 9) hx hb d_Eq_rowLength_30 (by decide) ?_
      refine lv_iadd (pc := 32) hx hb d_Eq_rowLength_32 ?_
      refine lv_icmp_gt (pc := 33) (tgt := 42) hx hb d_Eq_rowLength_33 (by decide) (fun hc => ?_) (fun hc => ?_)
      · replace hf := hf.1 hc
        refine lv_iload_n (pc := 42) hx hb d_Eq_rowLength_42 rfl (lv_at hl 1 rfl) ?_
        exact rr_i (pc := 43) hx hb hr hlk hf d_Eq_rowLength_43
      replace hf := hf.2 hc
      refine lv_iinc (pc := 36) (k := 1) (v := (x1 + (1 : Int32))) (lv' := [(1, .int (x1 + (1 : Int32))), (0, .ref (a 3))]) hx hb d_Eq_rowLength_36 hl rfl rfl (by decide) rfl (fun ls hl => ?_)
      refine lv_goto (pc := 39) (tgt := 2) hx hb d_Eq_rowLength_39 (by decide) ?_
      exact ih2 (x1 + (1 : Int32)) _ (lv_sub hl [1, 0] rfl) hf
  exact lp2 q2 (0 : Int32) _ (lv_sub hl [1, 0] rfl) hf
def wp_Eq_scanAt (S : GS) (p0 : Int32) (post : Int32 → Prop) : Prop := (vp_in p0 32 ∧ (post ((S.1 17) p0.toNatClampNeg)))
abbrev rm_Eq_scanAt : Room := { frames := 0, cells := 0, slots := 0, locals := 0 }
set_option maxHeartbeats 4000000 in
set_option maxRecDepth 100000 in
theorem c_Eq_scanAt (l : Launch) (D : va_G) (cI cZ cJ : ClassId) (a : Nat → Nat) (S : GS) (p0 : Int32) (post : Int32 → Prop) (hf : wp_Eq_scanAt S p0 post) : Met l y_Eq_scanAt ws_Eq_scanAt rm_Eq_scanAt (va_Pc [.ref (a 3), .int p0] (rPre D (tys cI cZ cJ) (gkW cI cZ cJ a S))) (vp_Si post) 0 0 (fun _ => False) := by
  refine gm_r (cc := b_Eq_scanAt) (maxL := 2) (by decide) rfl (Nat.le_of_ble_eq_true rfl) ?_
  intro p e s m args below meth c ls hx hb hr hts hown hlk hml hK hP hl
  have hl : lv_has ls 2 [(0, .ref (a 3)), (1, .int p0)] := hl
  have hinEq : ∀ w ∈ u_ws R_Eq T_Eq 3, w ∈ ws_Eq_scanAt := fun w h => List.mem_cons_of_mem _ (tl_Eq w h)
  have hl15 := hts _ (List.mem_cons_of_mem _ tf_Eq_15)
  unfold wp_Eq_scanAt at hf
  refine lv_aload_n (pc := 0) hx hb d_Eq_scanAt_0 rfl (lv_at hl 0 rfl) ?_
  refine gk_gt_Eq_scanOf (pc := 1) hx hb hK hts hinEq hown hP hl15 d_Eq_scanAt_1 ?_
  refine lv_iload_n (pc := 4) hx hb d_Eq_scanAt_4 rfl (lv_at hl 1 rfl) ?_
  refine gk_ld13 (pc := 5) (v := ((S.1 17) p0.toNatClampNeg)) hx hb hK hP hf.1 rfl d_Eq_scanAt_5 ?_
  replace hf := hf.2
  exact rr_i (pc := 6) hx hb hr hlk hf d_Eq_scanAt_6
def L_Eq_firstKeys_4 (S : GS) (post : Int32 → Prop) : Nat → Int32 → Int32 → Int32 → Prop
  | 0, _, _, _ => False
  | n4 + 1, x1, x2, x3 => ((x1 ≤ x3 → (post x2)) ∧ (¬ x1 ≤ x3 → (((S.1 7 0) ≤ x3 → (post x2)) ∧ (¬ (S.1 7 0) ≤ x3 → (wp_Eq_keyAt S x3 (fun r21 => (L_Eq_firstKeys_4 S post n4 x1 (x2 ||| ((1 : Int32) <<< (r21 &&& 31))) (x3 + (1 : Int32)))))))))
def wp_Eq_firstKeys (S : GS) (p0 : Int32) (post : Int32 → Prop) : Prop := (∃ q4, L_Eq_firstKeys_4 S post q4 p0 (0 : Int32) (0 : Int32))
abbrev rm_Eq_firstKeys : Room := { frames := 1, cells := 0, slots := 0, locals := 21 }
set_option maxHeartbeats 4000000 in
set_option maxRecDepth 100000 in
theorem c_Eq_firstKeys (l : Launch) (D : va_G) (cI cZ cJ : ClassId) (a : Nat → Nat) (S : GS) (p0 : Int32) (post : Int32 → Prop) (hf : wp_Eq_firstKeys S p0 post) : Met l y_Eq_firstKeys ws_Eq_firstKeys rm_Eq_firstKeys (va_Pc [.ref (a 3), .int p0] (rPre D (tys cI cZ cJ) (gkW cI cZ cJ a S))) (vp_Si post) 0 0 (fun _ => False) := by
  refine gm_r (cc := b_Eq_firstKeys) (maxL := 4) (by decide) rfl (Nat.le_of_ble_eq_true rfl) ?_
  intro p e s m args below meth c ls hx hb hr hts hown hlk hml hK hP hl
  have hl : lv_has ls 4 [(0, .ref (a 3)), (1, .int p0)] := hl
  have hinEq : ∀ w ∈ u_ws R_Eq T_Eq 3, w ∈ ws_Eq_firstKeys := fun w h => List.mem_cons_of_mem _ (tl_Eq w h)
  have hl18 := hts _ (List.mem_cons_of_mem _ tf_Eq_18)
  unfold wp_Eq_firstKeys at hf
  refine lv_iconst (pc := 0) (v := 0) hx hb d_Eq_firstKeys_0 (by decide) ?_
  refine lv_istore_n (pc := 1) (lv' := [(2, .int (0 : Int32)), (0, .ref (a 3)), (1, .int p0)]) hx hb d_Eq_firstKeys_1 rfl hl (by decide) rfl (fun ls hl => ?_)
  refine lv_iconst (pc := 2) (v := 0) hx hb d_Eq_firstKeys_2 (by decide) ?_
  refine lv_istore_n (pc := 3) (lv' := [(3, .int (0 : Int32)), (2, .int (0 : Int32)), (0, .ref (a 3)), (1, .int p0)]) hx hb d_Eq_firstKeys_3 rfl hl (by decide) rfl (fun ls hl => ?_)
  obtain ⟨q4, hf⟩ := hf
  have lp4 : ∀ (n4 : Nat) (x1 : Int32) (x2 : Int32) (x3 : Int32) (ls : Array Slot), lv_has ls 4 [(0, .ref (a 3)), (1, .int x1), (2, .int x2), (3, .int x3)] → L_Eq_firstKeys_4 S post n4 x1 x2 x3 → W p l e rm_Eq_firstKeys s m args below meth c s.heap [] 0 0 (MQ below (vp_Si post) args s 0 0 (fun _ => False)) (F0 m 4 ls []) := by
    intro n4
    induction n4 with
    | zero => intro x1 x2 x3 ls hl hf; exact False.elim hf
    | succ n4 ih4 =>
      intro x1 x2 x3 ls hl hf
      unfold L_Eq_firstKeys_4 at hf
      refine lv_iload_n (pc := 4) hx hb d_Eq_firstKeys_4 rfl (lv_at hl 3 rfl) ?_
      refine lv_iload_n (pc := 5) hx hb d_Eq_firstKeys_5 rfl (lv_at hl 1 rfl) ?_
      refine lv_icmp_ge (pc := 6) (tgt := 33) hx hb d_Eq_firstKeys_6 (by decide) (fun hc => ?_) (fun hc => ?_)
      · replace hf := hf.1 hc
        refine lv_iload_n (pc := 33) hx hb d_Eq_firstKeys_33 rfl (lv_at hl 2 rfl) ?_
        exact rr_i (pc := 34) hx hb hr hlk hf d_Eq_firstKeys_34
      replace hf := hf.2 hc
      refine lv_iload_n (pc := 9) hx hb d_Eq_firstKeys_9 rfl (lv_at hl 3 rfl) ?_
      refine lv_aload_n (pc := 10) hx hb d_Eq_firstKeys_10 rfl (lv_at hl 0 rfl) ?_
      refine gk_gt_Eq_length (pc := 11) (v := (S.1 7 0)) hx hb hK hts hinEq hown hP hl18 rfl d_Eq_firstKeys_11 ?_
      refine lv_icmp_ge (pc := 14) (tgt := 33) hx hb d_Eq_firstKeys_14 (by decide) (fun hc => ?_) (fun hc => ?_)
      · replace hf := hf.1 hc
        refine lv_iload_n (pc := 33) hx hb d_Eq_firstKeys_33 rfl (lv_at hl 2 rfl) ?_
        exact rr_i (pc := 34) hx hb hr hlk hf d_Eq_firstKeys_34
      replace hf := hf.2 hc
      refine lv_iload_n (pc := 17) hx hb d_Eq_firstKeys_17 rfl (lv_at hl 2 rfl) ?_
      refine lv_iconst (pc := 18) (v := 1) hx hb d_Eq_firstKeys_18 (by decide) ?_
      refine lv_aload_n (pc := 19) hx hb d_Eq_firstKeys_19 rfl (lv_at hl 0 rfl) ?_
      refine lv_iload_n (pc := 20) hx hb d_Eq_firstKeys_20 rfl (lv_at hl 3 rfl) ?_
      refine vp_callSi (pc := 21) (W.runV (As := [.int x3]) (rest := [.int (1 : Int32), .int x2]) ⟨hx, hb, hml, hown, hts⟩ (c_Eq_keyAt l D cI cZ cJ a _ _ _ hf) (cwV 1 hts (tb_wsV tc_Eq_keyAt tm_Eq_32 ti_Eq_keyAt te_Eq_keyAt tz_Eq) rfl rfl rfl (by decide +kernel) ⟨Nat.le_of_ble_eq_true rfl, Nat.le_of_ble_eq_true rfl⟩) (r_preV (q0 := 3) (ci := 3) hK hP rfl rfl) rfl rfl hl.1 rfl (lv_room (Nat.le_of_ble_eq_true rfl)) d_Eq_firstKeys_21 ⟨Nat.zero_le _, Nat.zero_le _⟩) (fun r21 hf => ?_)
      refine lv_ishl (pc := 24) hx hb d_Eq_firstKeys_24 ?_
      refine lv_ior (pc := 25) hx hb d_Eq_firstKeys_25 ?_
      refine lv_istore_n (pc := 26) (lv' := [(2, .int (x2 ||| ((1 : Int32) <<< (r21 &&& 31)))), (0, .ref (a 3)), (1, .int x1), (3, .int x3)]) hx hb d_Eq_firstKeys_26 rfl hl (by decide) rfl (fun ls hl => ?_)
      refine lv_iinc (pc := 27) (k := 3) (v := (x3 + (1 : Int32))) (lv' := [(3, .int (x3 + (1 : Int32))), (2, .int (x2 ||| ((1 : Int32) <<< (r21 &&& 31)))), (0, .ref (a 3)), (1, .int x1)]) hx hb d_Eq_firstKeys_27 hl rfl rfl (by decide) rfl (fun ls hl => ?_)
      refine lv_goto (pc := 30) (tgt := 4) hx hb d_Eq_firstKeys_30 (by decide) ?_
      exact ih4 x1 (x2 ||| ((1 : Int32) <<< (r21 &&& 31))) (x3 + (1 : Int32)) _ (lv_sub hl [2, 3, 1, 0] rfl) hf
  exact lp4 q4 p0 (0 : Int32) (0 : Int32) _ (lv_sub hl [2, 3, 1, 0] rfl) hf
def L_Ch_canGrowFrom_2 (S : GS) (post : Int32 → Prop) : Nat → Int32 → Int32 → Prop
  | 0, _, _ => False
  | n2 + 1, x1, x2 => (((4 : Int32) ≤ x2 → (post (0 : Int32))) ∧ (¬ (4 : Int32) ≤ x2 → (vp_in x2 4 ∧ (((x1 &&& (((S.1 22) x2.toNatClampNeg) ^^^ (-1 : Int32))) = (0 : Int32) → (vp_in x2 4 ∧ ((((S.1 22) x2.toNatClampNeg) = x1 → (L_Ch_canGrowFrom_2 S post n2 x1 (x2 + (1 : Int32)))) ∧ (¬ ((S.1 22) x2.toNatClampNeg) = x1 → (post (1 : Int32)))))) ∧ (¬ (x1 &&& (((S.1 22) x2.toNatClampNeg) ^^^ (-1 : Int32))) = (0 : Int32) → (L_Ch_canGrowFrom_2 S post n2 x1 (x2 + (1 : Int32))))))))
def wp_Ch_canGrowFrom (S : GS) (p0 : Int32) (post : Int32 → Prop) : Prop := (∃ q2, L_Ch_canGrowFrom_2 S post q2 p0 (0 : Int32))
abbrev rm_Ch_canGrowFrom : Room := { frames := 0, cells := 0, slots := 0, locals := 0 }
set_option maxHeartbeats 4000000 in
set_option maxRecDepth 100000 in
theorem c_Ch_canGrowFrom (l : Launch) (D : va_G) (cI cZ cJ : ClassId) (a : Nat → Nat) (S : GS) (p0 : Int32) (post : Int32 → Prop) (hf : wp_Ch_canGrowFrom S p0 post) : Met l y_Ch_canGrowFrom ws_Ch_canGrowFrom rm_Ch_canGrowFrom (va_Pc [.ref (a 5), .int p0] (rPre D (tys cI cZ cJ) (gkW cI cZ cJ a S))) (vp_Si post) 0 0 (fun _ => False) := by
  refine gm_r (cc := b_Ch_canGrowFrom) (maxL := 3) (by decide) rfl (Nat.le_of_ble_eq_true rfl) ?_
  intro p e s m args below meth c ls hx hb hr hts hown hlk hml hK hP hl
  have hl : lv_has ls 3 [(0, .ref (a 5)), (1, .int p0)] := hl
  have hinCh : ∀ w ∈ u_ws R_Ch T_Ch 2, w ∈ ws_Ch_canGrowFrom := fun w h => List.mem_cons_of_mem _ (tl_Ch w h)
  have hl9 := hts _ (List.mem_cons_of_mem _ tf_Ch_9)
  unfold wp_Ch_canGrowFrom at hf
  refine lv_iconst (pc := 0) (v := 0) hx hb d_Ch_canGrowFrom_0 (by decide) ?_
  refine lv_istore_n (pc := 1) (lv' := [(2, .int (0 : Int32)), (0, .ref (a 5)), (1, .int p0)]) hx hb d_Ch_canGrowFrom_1 rfl hl (by decide) rfl (fun ls hl => ?_)
  obtain ⟨q2, hf⟩ := hf
  have lp2 : ∀ (n2 : Nat) (x1 : Int32) (x2 : Int32) (ls : Array Slot), lv_has ls 3 [(0, .ref (a 5)), (1, .int x1), (2, .int x2)] → L_Ch_canGrowFrom_2 S post n2 x1 x2 → W p l e rm_Ch_canGrowFrom s m args below meth c s.heap [] 0 0 (MQ below (vp_Si post) args s 0 0 (fun _ => False)) (F0 m 2 ls []) := by
    intro n2
    induction n2 with
    | zero => intro x1 x2 ls hl hf; exact False.elim hf
    | succ n2 ih2 =>
      intro x1 x2 ls hl hf
      unfold L_Ch_canGrowFrom_2 at hf
      refine lv_iload_n (pc := 2) hx hb d_Ch_canGrowFrom_2 rfl (lv_at hl 2 rfl) ?_
      refine lv_iconst (pc := 3) (v := 4) hx hb d_Ch_canGrowFrom_3 (by decide) ?_
      refine lv_icmp_ge (pc := 4) (tgt := 38) hx hb d_Ch_canGrowFrom_4 (by decide) (fun hc => ?_) (fun hc => ?_)
      · replace hf := hf.1 hc
        refine lv_iconst (pc := 38) (v := 0) hx hb d_Ch_canGrowFrom_38 (by decide) ?_
        exact rr_z (pc := 39) hx hb hr hlk (by decide) hf d_Ch_canGrowFrom_39
      replace hf := hf.2 hc
      refine lv_iload_n (pc := 7) hx hb d_Ch_canGrowFrom_7 rfl (lv_at hl 1 rfl) ?_
      refine lv_aload_n (pc := 8) hx hb d_Ch_canGrowFrom_8 rfl (lv_at hl 0 rfl) ?_
      refine gk_gt_Ch_keys (pc := 9) hx hb hK hts hinCh hown hP hl9 d_Ch_canGrowFrom_9 ?_
      refine lv_iload_n (pc := 12) hx hb d_Ch_canGrowFrom_12 rfl (lv_at hl 2 rfl) ?_
      refine gk_ld18 (pc := 13) (v := ((S.1 22) x2.toNatClampNeg)) hx hb hK hP hf.1 rfl d_Ch_canGrowFrom_13 ?_
      replace hf := hf.2
      refine lv_iconst (pc := 14) (v := -1) hx hb d_Ch_canGrowFrom_14 (by decide) ?_
      refine lv_ixor (pc := 15) hx hb d_Ch_canGrowFrom_15 ?_
      refine lv_iand (pc := 16) hx hb d_Ch_canGrowFrom_16 ?_
      refine lv_if_ne (pc := 17) (tgt := 32) hx hb d_Ch_canGrowFrom_17 (by decide) (fun hc => ?_) (fun hc => ?_)
      · replace hf := hf.2 hc
        refine lv_iinc (pc := 32) (k := 2) (v := (x2 + (1 : Int32))) (lv' := [(2, .int (x2 + (1 : Int32))), (0, .ref (a 5)), (1, .int x1)]) hx hb d_Ch_canGrowFrom_32 hl rfl rfl (by decide) rfl (fun ls hl => ?_)
        refine lv_goto (pc := 35) (tgt := 2) hx hb d_Ch_canGrowFrom_35 (by decide) ?_
        exact ih2 x1 (x2 + (1 : Int32)) _ (lv_sub hl [1, 2, 0] rfl) hf
      replace hf := hf.1 hc
      refine lv_aload_n (pc := 20) hx hb d_Ch_canGrowFrom_20 rfl (lv_at hl 0 rfl) ?_
      refine gk_gt_Ch_keys (pc := 21) hx hb hK hts hinCh hown hP hl9 d_Ch_canGrowFrom_21 ?_
      refine lv_iload_n (pc := 24) hx hb d_Ch_canGrowFrom_24 rfl (lv_at hl 2 rfl) ?_
      refine gk_ld18 (pc := 25) (v := ((S.1 22) x2.toNatClampNeg)) hx hb hK hP hf.1 rfl d_Ch_canGrowFrom_25 ?_
      replace hf := hf.2
      refine lv_iload_n (pc := 26) hx hb d_Ch_canGrowFrom_26 rfl (lv_at hl 1 rfl) ?_
      refine lv_icmp_eq (pc := 27) (tgt := 32) hx hb d_Ch_canGrowFrom_27 (by decide) (fun hc => ?_) (fun hc => ?_)
      · replace hf := hf.1 hc
        refine lv_iinc (pc := 32) (k := 2) (v := (x2 + (1 : Int32))) (lv' := [(2, .int (x2 + (1 : Int32))), (0, .ref (a 5)), (1, .int x1)]) hx hb d_Ch_canGrowFrom_32 hl rfl rfl (by decide) rfl (fun ls hl => ?_)
        refine lv_goto (pc := 35) (tgt := 2) hx hb d_Ch_canGrowFrom_35 (by decide) ?_
        exact ih2 x1 (x2 + (1 : Int32)) _ (lv_sub hl [1, 2, 0] rfl) hf
      replace hf := hf.2 hc
      refine lv_iconst (pc := 30) (v := 1) hx hb d_Ch_canGrowFrom_30 (by decide) ?_
      exact rr_z (pc := 31) hx hb hr hlk (by decide) hf d_Ch_canGrowFrom_31
  exact lp2 q2 p0 (0 : Int32) _ (lv_sub hl [1, 2, 0] rfl) hf
def wp_Ji_bitCount (p0 : Int32) (post : Int32 → Prop) : Prop := (post ((((((((p0 - ((p0.toUInt32 >>> ((1 : Int32).toUInt32 &&& Int32.toUInt32 31)).toInt32 &&& (1431655765 : Int32))) &&& (858993459 : Int32)) + (((p0 - ((p0.toUInt32 >>> ((1 : Int32).toUInt32 &&& Int32.toUInt32 31)).toInt32 &&& (1431655765 : Int32))).toUInt32 >>> ((2 : Int32).toUInt32 &&& Int32.toUInt32 31)).toInt32 &&& (858993459 : Int32))) + ((((p0 - ((p0.toUInt32 >>> ((1 : Int32).toUInt32 &&& Int32.toUInt32 31)).toInt32 &&& (1431655765 : Int32))) &&& (858993459 : Int32)) + (((p0 - ((p0.toUInt32 >>> ((1 : Int32).toUInt32 &&& Int32.toUInt32 31)).toInt32 &&& (1431655765 : Int32))).toUInt32 >>> ((2 : Int32).toUInt32 &&& Int32.toUInt32 31)).toInt32 &&& (858993459 : Int32))).toUInt32 >>> ((4 : Int32).toUInt32 &&& Int32.toUInt32 31)).toInt32) &&& (252645135 : Int32)) + ((((((p0 - ((p0.toUInt32 >>> ((1 : Int32).toUInt32 &&& Int32.toUInt32 31)).toInt32 &&& (1431655765 : Int32))) &&& (858993459 : Int32)) + (((p0 - ((p0.toUInt32 >>> ((1 : Int32).toUInt32 &&& Int32.toUInt32 31)).toInt32 &&& (1431655765 : Int32))).toUInt32 >>> ((2 : Int32).toUInt32 &&& Int32.toUInt32 31)).toInt32 &&& (858993459 : Int32))) + ((((p0 - ((p0.toUInt32 >>> ((1 : Int32).toUInt32 &&& Int32.toUInt32 31)).toInt32 &&& (1431655765 : Int32))) &&& (858993459 : Int32)) + (((p0 - ((p0.toUInt32 >>> ((1 : Int32).toUInt32 &&& Int32.toUInt32 31)).toInt32 &&& (1431655765 : Int32))).toUInt32 >>> ((2 : Int32).toUInt32 &&& Int32.toUInt32 31)).toInt32 &&& (858993459 : Int32))).toUInt32 >>> ((4 : Int32).toUInt32 &&& Int32.toUInt32 31)).toInt32) &&& (252645135 : Int32)).toUInt32 >>> ((8 : Int32).toUInt32 &&& Int32.toUInt32 31)).toInt32) + (((((((p0 - ((p0.toUInt32 >>> ((1 : Int32).toUInt32 &&& Int32.toUInt32 31)).toInt32 &&& (1431655765 : Int32))) &&& (858993459 : Int32)) + (((p0 - ((p0.toUInt32 >>> ((1 : Int32).toUInt32 &&& Int32.toUInt32 31)).toInt32 &&& (1431655765 : Int32))).toUInt32 >>> ((2 : Int32).toUInt32 &&& Int32.toUInt32 31)).toInt32 &&& (858993459 : Int32))) + ((((p0 - ((p0.toUInt32 >>> ((1 : Int32).toUInt32 &&& Int32.toUInt32 31)).toInt32 &&& (1431655765 : Int32))) &&& (858993459 : Int32)) + (((p0 - ((p0.toUInt32 >>> ((1 : Int32).toUInt32 &&& Int32.toUInt32 31)).toInt32 &&& (1431655765 : Int32))).toUInt32 >>> ((2 : Int32).toUInt32 &&& Int32.toUInt32 31)).toInt32 &&& (858993459 : Int32))).toUInt32 >>> ((4 : Int32).toUInt32 &&& Int32.toUInt32 31)).toInt32) &&& (252645135 : Int32)) + ((((((p0 - ((p0.toUInt32 >>> ((1 : Int32).toUInt32 &&& Int32.toUInt32 31)).toInt32 &&& (1431655765 : Int32))) &&& (858993459 : Int32)) + (((p0 - ((p0.toUInt32 >>> ((1 : Int32).toUInt32 &&& Int32.toUInt32 31)).toInt32 &&& (1431655765 : Int32))).toUInt32 >>> ((2 : Int32).toUInt32 &&& Int32.toUInt32 31)).toInt32 &&& (858993459 : Int32))) + ((((p0 - ((p0.toUInt32 >>> ((1 : Int32).toUInt32 &&& Int32.toUInt32 31)).toInt32 &&& (1431655765 : Int32))) &&& (858993459 : Int32)) + (((p0 - ((p0.toUInt32 >>> ((1 : Int32).toUInt32 &&& Int32.toUInt32 31)).toInt32 &&& (1431655765 : Int32))).toUInt32 >>> ((2 : Int32).toUInt32 &&& Int32.toUInt32 31)).toInt32 &&& (858993459 : Int32))).toUInt32 >>> ((4 : Int32).toUInt32 &&& Int32.toUInt32 31)).toInt32) &&& (252645135 : Int32)).toUInt32 >>> ((8 : Int32).toUInt32 &&& Int32.toUInt32 31)).toInt32).toUInt32 >>> ((16 : Int32).toUInt32 &&& Int32.toUInt32 31)).toInt32) &&& (63 : Int32)))
abbrev rm_Ji_bitCount : Room := { frames := 0, cells := 0, slots := 0, locals := 0 }
set_option maxHeartbeats 4000000 in
set_option maxRecDepth 100000 in
theorem c_Ji_bitCount (l : Launch) (p0 : Int32) (post : Int32 → Prop) (hf : wp_Ji_bitCount p0 post) : Met l y_Ji_bitCount ws_Ji_bitCount rm_Ji_bitCount (va_Pc [.int p0] (fun _ => True)) (vp_Si post) 0 0 (fun _ => False) := by
  refine gm_p (cc := b_Ji_bitCount) (maxL := 1) (by decide) rfl (Nat.le_of_ble_eq_true rfl) ?_
  intro p e s m args below meth c ls hx hb hr hts hown hlk hml hl
  have hl : lv_has ls 1 [(0, .int p0)] := hl
  unfold wp_Ji_bitCount at hf
  refine lv_iload_n (pc := 0) hx hb d_Ji_bitCount_0 rfl (lv_at hl 0 rfl) ?_
  refine lv_iload_n (pc := 1) hx hb d_Ji_bitCount_1 rfl (lv_at hl 0 rfl) ?_
  refine lv_iconst (pc := 2) (v := 1) hx hb d_Ji_bitCount_2 (by decide) ?_
  refine lv_iushr (pc := 3) hx hb d_Ji_bitCount_3 rfl ?_
  refine lv_ldcw (pc := 4) hx hb hown (hts _ (List.mem_cons_of_mem _ tk_Ji_265)) d_Ji_bitCount_4 ?_
  refine lv_iand (pc := 7) hx hb d_Ji_bitCount_7 ?_
  refine lv_isub (pc := 8) hx hb d_Ji_bitCount_8 ?_
  refine lv_istore_n (pc := 9) (lv' := [(0, .int (p0 - ((p0.toUInt32 >>> ((1 : Int32).toUInt32 &&& Int32.toUInt32 31)).toInt32 &&& (1431655765 : Int32))))]) hx hb d_Ji_bitCount_9 rfl hl (by decide) rfl (fun ls hl => ?_)
  refine lv_iload_n (pc := 10) hx hb d_Ji_bitCount_10 rfl (lv_at hl 0 rfl) ?_
  refine lv_ldcw (pc := 11) hx hb hown (hts _ (List.mem_cons_of_mem _ tk_Ji_266)) d_Ji_bitCount_11 ?_
  refine lv_iand (pc := 14) hx hb d_Ji_bitCount_14 ?_
  refine lv_iload_n (pc := 15) hx hb d_Ji_bitCount_15 rfl (lv_at hl 0 rfl) ?_
  refine lv_iconst (pc := 16) (v := 2) hx hb d_Ji_bitCount_16 (by decide) ?_
  refine lv_iushr (pc := 17) hx hb d_Ji_bitCount_17 rfl ?_
  refine lv_ldcw (pc := 18) hx hb hown (hts _ (List.mem_cons_of_mem _ tk_Ji_266)) d_Ji_bitCount_18 ?_
  refine lv_iand (pc := 21) hx hb d_Ji_bitCount_21 ?_
  refine lv_iadd (pc := 22) hx hb d_Ji_bitCount_22 ?_
  refine lv_istore_n (pc := 23) (lv' := [(0, .int (((p0 - ((p0.toUInt32 >>> ((1 : Int32).toUInt32 &&& Int32.toUInt32 31)).toInt32 &&& (1431655765 : Int32))) &&& (858993459 : Int32)) + (((p0 - ((p0.toUInt32 >>> ((1 : Int32).toUInt32 &&& Int32.toUInt32 31)).toInt32 &&& (1431655765 : Int32))).toUInt32 >>> ((2 : Int32).toUInt32 &&& Int32.toUInt32 31)).toInt32 &&& (858993459 : Int32))))]) hx hb d_Ji_bitCount_23 rfl hl (by decide) rfl (fun ls hl => ?_)
  refine lv_iload_n (pc := 24) hx hb d_Ji_bitCount_24 rfl (lv_at hl 0 rfl) ?_
  refine lv_iload_n (pc := 25) hx hb d_Ji_bitCount_25 rfl (lv_at hl 0 rfl) ?_
  refine lv_iconst (pc := 26) (v := 4) hx hb d_Ji_bitCount_26 (by decide) ?_
  refine lv_iushr (pc := 27) hx hb d_Ji_bitCount_27 rfl ?_
  refine lv_iadd (pc := 28) hx hb d_Ji_bitCount_28 ?_
  refine lv_ldcw (pc := 29) hx hb hown (hts _ (List.mem_cons_of_mem _ tk_Ji_267)) d_Ji_bitCount_29 ?_
  refine lv_iand (pc := 32) hx hb d_Ji_bitCount_32 ?_
  refine lv_istore_n (pc := 33) (lv' := [(0, .int (((((p0 - ((p0.toUInt32 >>> ((1 : Int32).toUInt32 &&& Int32.toUInt32 31)).toInt32 &&& (1431655765 : Int32))) &&& (858993459 : Int32)) + (((p0 - ((p0.toUInt32 >>> ((1 : Int32).toUInt32 &&& Int32.toUInt32 31)).toInt32 &&& (1431655765 : Int32))).toUInt32 >>> ((2 : Int32).toUInt32 &&& Int32.toUInt32 31)).toInt32 &&& (858993459 : Int32))) + ((((p0 - ((p0.toUInt32 >>> ((1 : Int32).toUInt32 &&& Int32.toUInt32 31)).toInt32 &&& (1431655765 : Int32))) &&& (858993459 : Int32)) + (((p0 - ((p0.toUInt32 >>> ((1 : Int32).toUInt32 &&& Int32.toUInt32 31)).toInt32 &&& (1431655765 : Int32))).toUInt32 >>> ((2 : Int32).toUInt32 &&& Int32.toUInt32 31)).toInt32 &&& (858993459 : Int32))).toUInt32 >>> ((4 : Int32).toUInt32 &&& Int32.toUInt32 31)).toInt32) &&& (252645135 : Int32)))]) hx hb d_Ji_bitCount_33 rfl hl (by decide) rfl (fun ls hl => ?_)
  refine lv_iload_n (pc := 34) hx hb d_Ji_bitCount_34 rfl (lv_at hl 0 rfl) ?_
  refine lv_iload_n (pc := 35) hx hb d_Ji_bitCount_35 rfl (lv_at hl 0 rfl) ?_
  refine lv_bipush (pc := 36) (v := 8) hx hb d_Ji_bitCount_36 (by decide) ?_
  refine lv_iushr (pc := 38) hx hb d_Ji_bitCount_38 rfl ?_
  refine lv_iadd (pc := 39) hx hb d_Ji_bitCount_39 ?_
  refine lv_istore_n (pc := 40) (lv' := [(0, .int ((((((p0 - ((p0.toUInt32 >>> ((1 : Int32).toUInt32 &&& Int32.toUInt32 31)).toInt32 &&& (1431655765 : Int32))) &&& (858993459 : Int32)) + (((p0 - ((p0.toUInt32 >>> ((1 : Int32).toUInt32 &&& Int32.toUInt32 31)).toInt32 &&& (1431655765 : Int32))).toUInt32 >>> ((2 : Int32).toUInt32 &&& Int32.toUInt32 31)).toInt32 &&& (858993459 : Int32))) + ((((p0 - ((p0.toUInt32 >>> ((1 : Int32).toUInt32 &&& Int32.toUInt32 31)).toInt32 &&& (1431655765 : Int32))) &&& (858993459 : Int32)) + (((p0 - ((p0.toUInt32 >>> ((1 : Int32).toUInt32 &&& Int32.toUInt32 31)).toInt32 &&& (1431655765 : Int32))).toUInt32 >>> ((2 : Int32).toUInt32 &&& Int32.toUInt32 31)).toInt32 &&& (858993459 : Int32))).toUInt32 >>> ((4 : Int32).toUInt32 &&& Int32.toUInt32 31)).toInt32) &&& (252645135 : Int32)) + ((((((p0 - ((p0.toUInt32 >>> ((1 : Int32).toUInt32 &&& Int32.toUInt32 31)).toInt32 &&& (1431655765 : Int32))) &&& (858993459 : Int32)) + (((p0 - ((p0.toUInt32 >>> ((1 : Int32).toUInt32 &&& Int32.toUInt32 31)).toInt32 &&& (1431655765 : Int32))).toUInt32 >>> ((2 : Int32).toUInt32 &&& Int32.toUInt32 31)).toInt32 &&& (858993459 : Int32))) + ((((p0 - ((p0.toUInt32 >>> ((1 : Int32).toUInt32 &&& Int32.toUInt32 31)).toInt32 &&& (1431655765 : Int32))) &&& (858993459 : Int32)) + (((p0 - ((p0.toUInt32 >>> ((1 : Int32).toUInt32 &&& Int32.toUInt32 31)).toInt32 &&& (1431655765 : Int32))).toUInt32 >>> ((2 : Int32).toUInt32 &&& Int32.toUInt32 31)).toInt32 &&& (858993459 : Int32))).toUInt32 >>> ((4 : Int32).toUInt32 &&& Int32.toUInt32 31)).toInt32) &&& (252645135 : Int32)).toUInt32 >>> ((8 : Int32).toUInt32 &&& Int32.toUInt32 31)).toInt32))]) hx hb d_Ji_bitCount_40 rfl hl (by decide) rfl (fun ls hl => ?_)
  refine lv_iload_n (pc := 41) hx hb d_Ji_bitCount_41 rfl (lv_at hl 0 rfl) ?_
  refine lv_iload_n (pc := 42) hx hb d_Ji_bitCount_42 rfl (lv_at hl 0 rfl) ?_
  refine lv_bipush (pc := 43) (v := 16) hx hb d_Ji_bitCount_43 (by decide) ?_
  refine lv_iushr (pc := 45) hx hb d_Ji_bitCount_45 rfl ?_
  refine lv_iadd (pc := 46) hx hb d_Ji_bitCount_46 ?_
  refine lv_istore_n (pc := 47) (lv' := [(0, .int (((((((p0 - ((p0.toUInt32 >>> ((1 : Int32).toUInt32 &&& Int32.toUInt32 31)).toInt32 &&& (1431655765 : Int32))) &&& (858993459 : Int32)) + (((p0 - ((p0.toUInt32 >>> ((1 : Int32).toUInt32 &&& Int32.toUInt32 31)).toInt32 &&& (1431655765 : Int32))).toUInt32 >>> ((2 : Int32).toUInt32 &&& Int32.toUInt32 31)).toInt32 &&& (858993459 : Int32))) + ((((p0 - ((p0.toUInt32 >>> ((1 : Int32).toUInt32 &&& Int32.toUInt32 31)).toInt32 &&& (1431655765 : Int32))) &&& (858993459 : Int32)) + (((p0 - ((p0.toUInt32 >>> ((1 : Int32).toUInt32 &&& Int32.toUInt32 31)).toInt32 &&& (1431655765 : Int32))).toUInt32 >>> ((2 : Int32).toUInt32 &&& Int32.toUInt32 31)).toInt32 &&& (858993459 : Int32))).toUInt32 >>> ((4 : Int32).toUInt32 &&& Int32.toUInt32 31)).toInt32) &&& (252645135 : Int32)) + ((((((p0 - ((p0.toUInt32 >>> ((1 : Int32).toUInt32 &&& Int32.toUInt32 31)).toInt32 &&& (1431655765 : Int32))) &&& (858993459 : Int32)) + (((p0 - ((p0.toUInt32 >>> ((1 : Int32).toUInt32 &&& Int32.toUInt32 31)).toInt32 &&& (1431655765 : Int32))).toUInt32 >>> ((2 : Int32).toUInt32 &&& Int32.toUInt32 31)).toInt32 &&& (858993459 : Int32))) + ((((p0 - ((p0.toUInt32 >>> ((1 : Int32).toUInt32 &&& Int32.toUInt32 31)).toInt32 &&& (1431655765 : Int32))) &&& (858993459 : Int32)) + (((p0 - ((p0.toUInt32 >>> ((1 : Int32).toUInt32 &&& Int32.toUInt32 31)).toInt32 &&& (1431655765 : Int32))).toUInt32 >>> ((2 : Int32).toUInt32 &&& Int32.toUInt32 31)).toInt32 &&& (858993459 : Int32))).toUInt32 >>> ((4 : Int32).toUInt32 &&& Int32.toUInt32 31)).toInt32) &&& (252645135 : Int32)).toUInt32 >>> ((8 : Int32).toUInt32 &&& Int32.toUInt32 31)).toInt32) + (((((((p0 - ((p0.toUInt32 >>> ((1 : Int32).toUInt32 &&& Int32.toUInt32 31)).toInt32 &&& (1431655765 : Int32))) &&& (858993459 : Int32)) + (((p0 - ((p0.toUInt32 >>> ((1 : Int32).toUInt32 &&& Int32.toUInt32 31)).toInt32 &&& (1431655765 : Int32))).toUInt32 >>> ((2 : Int32).toUInt32 &&& Int32.toUInt32 31)).toInt32 &&& (858993459 : Int32))) + ((((p0 - ((p0.toUInt32 >>> ((1 : Int32).toUInt32 &&& Int32.toUInt32 31)).toInt32 &&& (1431655765 : Int32))) &&& (858993459 : Int32)) + (((p0 - ((p0.toUInt32 >>> ((1 : Int32).toUInt32 &&& Int32.toUInt32 31)).toInt32 &&& (1431655765 : Int32))).toUInt32 >>> ((2 : Int32).toUInt32 &&& Int32.toUInt32 31)).toInt32 &&& (858993459 : Int32))).toUInt32 >>> ((4 : Int32).toUInt32 &&& Int32.toUInt32 31)).toInt32) &&& (252645135 : Int32)) + ((((((p0 - ((p0.toUInt32 >>> ((1 : Int32).toUInt32 &&& Int32.toUInt32 31)).toInt32 &&& (1431655765 : Int32))) &&& (858993459 : Int32)) + (((p0 - ((p0.toUInt32 >>> ((1 : Int32).toUInt32 &&& Int32.toUInt32 31)).toInt32 &&& (1431655765 : Int32))).toUInt32 >>> ((2 : Int32).toUInt32 &&& Int32.toUInt32 31)).toInt32 &&& (858993459 : Int32))) + ((((p0 - ((p0.toUInt32 >>> ((1 : Int32).toUInt32 &&& Int32.toUInt32 31)).toInt32 &&& (1431655765 : Int32))) &&& (858993459 : Int32)) + (((p0 - ((p0.toUInt32 >>> ((1 : Int32).toUInt32 &&& Int32.toUInt32 31)).toInt32 &&& (1431655765 : Int32))).toUInt32 >>> ((2 : Int32).toUInt32 &&& Int32.toUInt32 31)).toInt32 &&& (858993459 : Int32))).toUInt32 >>> ((4 : Int32).toUInt32 &&& Int32.toUInt32 31)).toInt32) &&& (252645135 : Int32)).toUInt32 >>> ((8 : Int32).toUInt32 &&& Int32.toUInt32 31)).toInt32).toUInt32 >>> ((16 : Int32).toUInt32 &&& Int32.toUInt32 31)).toInt32))]) hx hb d_Ji_bitCount_47 rfl hl (by decide) rfl (fun ls hl => ?_)
  refine lv_iload_n (pc := 48) hx hb d_Ji_bitCount_48 rfl (lv_at hl 0 rfl) ?_
  refine lv_bipush (pc := 49) (v := 63) hx hb d_Ji_bitCount_49 (by decide) ?_
  refine lv_iand (pc := 51) hx hb d_Ji_bitCount_51 ?_
  exact rr_i (pc := 52) hx hb hr hlk hf d_Ji_bitCount_52
def L_Ch_longestAtStart_8 (S : GS) (post : Int32 → Prop) : Nat → Int32 → Int32 → Int32 → Int32 → Prop
  | 0, _, _, _, _ => False
  | n8 + 1, x2, x3, x4, x5 => (((4 : Int32) ≤ x5 → (post x3)) ∧ (¬ (4 : Int32) ≤ x5 → (vp_in x5 4 ∧ (wp_Ji_bitCount ((S.1 22) x5.toNatClampNeg) (fun r21 => ((r21 ≤ x4 → (L_Ch_longestAtStart_8 S post n8 x2 x3 x4 (x5 + (1 : Int32)))) ∧ (¬ r21 ≤ x4 → ((x2 < r21 → (L_Ch_longestAtStart_8 S post n8 x2 x3 x4 (x5 + (1 : Int32)))) ∧ (¬ x2 < r21 → (wp_Eq_firstKeys S r21 (fun r42 => (vp_in x5 4 ∧ ((r42 = ((S.1 22) x5.toNatClampNeg) → (L_Ch_longestAtStart_8 S post n8 x2 x5 r21 (x5 + (1 : Int32)))) ∧ (¬ r42 = ((S.1 22) x5.toNatClampNeg) → (L_Ch_longestAtStart_8 S post n8 x2 x3 x4 (x5 + (1 : Int32)))))))))))))))))
def wp_Ch_longestAtStart (S : GS) (p1 : Int32) (post : Int32 → Prop) : Prop := (∃ q8, L_Ch_longestAtStart_8 S post q8 p1 (-1 : Int32) (0 : Int32) (0 : Int32))
abbrev rm_Ch_longestAtStart : Room := { frames := 2, cells := 0, slots := 0, locals := 44 }
set_option maxHeartbeats 4000000 in
set_option maxRecDepth 100000 in
theorem c_Ch_longestAtStart (l : Launch) (D : va_G) (cI cZ cJ : ClassId) (a : Nat → Nat) (S : GS) (p1 : Int32) (post : Int32 → Prop) (hf : wp_Ch_longestAtStart S p1 post) : Met l y_Ch_longestAtStart ws_Ch_longestAtStart rm_Ch_longestAtStart (va_Pc [.ref (a 5), .ref (a 3), .int p1] (rPre D (tys cI cZ cJ) (gkW cI cZ cJ a S))) (vp_Si post) 0 0 (fun _ => False) := by
  refine gm_r (cc := b_Ch_longestAtStart) (maxL := 7) (by decide) rfl (Nat.le_of_ble_eq_true rfl) ?_
  intro p e s m args below meth c ls hx hb hr hts hown hlk hml hK hP hl
  have hl : lv_has ls 7 [(0, .ref (a 5)), (1, .ref (a 3)), (2, .int p1)] := hl
  have hinCh : ∀ w ∈ u_ws R_Ch T_Ch 2, w ∈ ws_Ch_longestAtStart := fun w h => List.mem_cons_of_mem _ (tl_Ch w h)
  have hl9 := hts _ (List.mem_cons_of_mem _ tf_Ch_9)
  unfold wp_Ch_longestAtStart at hf
  refine lv_iconst (pc := 0) (v := -1) hx hb d_Ch_longestAtStart_0 (by decide) ?_
  refine lv_istore_n (pc := 1) (lv' := [(3, .int (-1 : Int32)), (0, .ref (a 5)), (1, .ref (a 3)), (2, .int p1)]) hx hb d_Ch_longestAtStart_1 rfl hl (by decide) rfl (fun ls hl => ?_)
  refine lv_iconst (pc := 2) (v := 0) hx hb d_Ch_longestAtStart_2 (by decide) ?_
  refine lv_istore (pc := 3) (lv' := [(4, .int (0 : Int32)), (3, .int (-1 : Int32)), (0, .ref (a 5)), (1, .ref (a 3)), (2, .int p1)]) hx hb d_Ch_longestAtStart_3 hl (by decide) rfl (fun ls hl => ?_)
  refine lv_iconst (pc := 5) (v := 0) hx hb d_Ch_longestAtStart_5 (by decide) ?_
  refine lv_istore (pc := 6) (lv' := [(5, .int (0 : Int32)), (4, .int (0 : Int32)), (3, .int (-1 : Int32)), (0, .ref (a 5)), (1, .ref (a 3)), (2, .int p1)]) hx hb d_Ch_longestAtStart_6 hl (by decide) rfl (fun ls hl => ?_)
  obtain ⟨q8, hf⟩ := hf
  have lp8 : ∀ (n8 : Nat) (x2 : Int32) (x3 : Int32) (x4 : Int32) (x5 : Int32) (ls : Array Slot), lv_has ls 7 [(0, .ref (a 5)), (1, .ref (a 3)), (2, .int x2), (3, .int x3), (4, .int x4), (5, .int x5)] → L_Ch_longestAtStart_8 S post n8 x2 x3 x4 x5 → W p l e rm_Ch_longestAtStart s m args below meth c s.heap [] 0 0 (MQ below (vp_Si post) args s 0 0 (fun _ => False)) (F0 m 8 ls []) := by
    intro n8
    induction n8 with
    | zero => intro x2 x3 x4 x5 ls hl hf; exact False.elim hf
    | succ n8 ih8 =>
      intro x2 x3 x4 x5 ls hl hf
      unfold L_Ch_longestAtStart_8 at hf
      refine lv_iload (pc := 8) hx hb d_Ch_longestAtStart_8 (lv_at hl 5 rfl) ?_
      refine lv_iconst (pc := 10) (v := 4) hx hb d_Ch_longestAtStart_10 (by decide) ?_
      refine lv_icmp_ge (pc := 11) (tgt := 68) hx hb d_Ch_longestAtStart_11 (by decide) (fun hc => ?_) (fun hc => ?_)
      · replace hf := hf.1 hc
        refine lv_iload_n (pc := 68) hx hb d_Ch_longestAtStart_68 rfl (lv_at hl 3 rfl) ?_
        exact rr_i (pc := 69) hx hb hr hlk hf d_Ch_longestAtStart_69
      replace hf := hf.2 hc
      refine lv_aload_n (pc := 14) hx hb d_Ch_longestAtStart_14 rfl (lv_at hl 0 rfl) ?_
      refine gk_gt_Ch_keys (pc := 15) hx hb hK hts hinCh hown hP hl9 d_Ch_longestAtStart_15 ?_
      refine lv_iload (pc := 18) hx hb d_Ch_longestAtStart_18 (lv_at hl 5 rfl) ?_
      refine gk_ld18 (pc := 20) (v := ((S.1 22) x5.toNatClampNeg)) hx hb hK hP hf.1 rfl d_Ch_longestAtStart_20 ?_
      replace hf := hf.2
      refine vp_callSi (pc := 21) (W.runS (As := [.int ((S.1 22) x5.toNatClampNeg)]) (rest := []) ⟨hx, hb, hml, hown, hts⟩ (c_Ji_bitCount l _ _ hf) (va_cwS 1 hts (tb_vaS tc_Ji_bitCount tm_Ch_18 ts_Ji_bitCount tz_Ji) rfl rfl rfl (by decide +kernel) ⟨Nat.le_of_ble_eq_true rfl, Nat.le_of_ble_eq_true rfl⟩) p_preS rfl rfl hl.1 rfl (lv_room (Nat.le_of_ble_eq_true rfl)) d_Ch_longestAtStart_21 ⟨Nat.zero_le _, Nat.zero_le _⟩) (fun r21 hf => ?_)
      refine lv_istore (pc := 24) (lv' := [(6, .int r21), (0, .ref (a 5)), (1, .ref (a 3)), (2, .int x2), (3, .int x3), (4, .int x4), (5, .int x5)]) hx hb d_Ch_longestAtStart_24 hl (by decide) rfl (fun ls hl => ?_)
      refine lv_iload (pc := 26) hx hb d_Ch_longestAtStart_26 (lv_at hl 0 rfl) ?_
      refine lv_iload (pc := 28) hx hb d_Ch_longestAtStart_28 (lv_at hl 5 rfl) ?_
      refine lv_icmp_le (pc := 30) (tgt := 62) hx hb d_Ch_longestAtStart_30 (by decide) (fun hc => ?_) (fun hc => ?_)
      · replace hf := hf.1 hc
        refine lv_iinc (pc := 62) (k := 6) (v := (x5 + (1 : Int32))) (lv' := [(5, .int (x5 + (1 : Int32))), (6, .int r21), (0, .ref (a 5)), (1, .ref (a 3)), (2, .int x2), (3, .int x3), (4, .int x4)]) hx hb d_Ch_longestAtStart_62 hl rfl rfl (by decide) rfl (fun ls hl => ?_)
        refine lv_goto (pc := 65) (tgt := 8) hx hb d_Ch_longestAtStart_65 (by decide) ?_
        exact ih8 x2 x3 x4 (x5 + (1 : Int32)) _ (lv_sub hl [2, 3, 4, 5, 6, 0] rfl) hf
      replace hf := hf.2 hc
      refine lv_iload (pc := 33) hx hb d_Ch_longestAtStart_33 (lv_at hl 0 rfl) ?_
      refine lv_iload_n (pc := 35) hx hb d_Ch_longestAtStart_35 rfl (lv_at hl 3 rfl) ?_
      refine lv_icmp_gt (pc := 36) (tgt := 62) hx hb d_Ch_longestAtStart_36 (by decide) (fun hc => ?_) (fun hc => ?_)
      · replace hf := hf.1 hc
        refine lv_iinc (pc := 62) (k := 6) (v := (x5 + (1 : Int32))) (lv' := [(5, .int (x5 + (1 : Int32))), (6, .int r21), (0, .ref (a 5)), (1, .ref (a 3)), (2, .int x2), (3, .int x3), (4, .int x4)]) hx hb d_Ch_longestAtStart_62 hl rfl rfl (by decide) rfl (fun ls hl => ?_)
        refine lv_goto (pc := 65) (tgt := 8) hx hb d_Ch_longestAtStart_65 (by decide) ?_
        exact ih8 x2 x3 x4 (x5 + (1 : Int32)) _ (lv_sub hl [2, 3, 4, 5, 6, 0] rfl) hf
      replace hf := hf.2 hc
      refine lv_aload_n (pc := 39) hx hb d_Ch_longestAtStart_39 rfl (lv_at hl 2 rfl) ?_
      refine lv_iload (pc := 40) hx hb d_Ch_longestAtStart_40 (lv_at hl 0 rfl) ?_
      refine vp_callSi (pc := 42) (W.runV (As := [.int r21]) (rest := []) ⟨hx, hb, hml, hown, hts⟩ (c_Eq_firstKeys l D cI cZ cJ a _ _ _ hf) (cwV 1 hts (tb_wsV tc_Eq_firstKeys tm_Ch_24 ti_Eq_firstKeys te_Eq_firstKeys tz_Eq) rfl rfl rfl (by decide +kernel) ⟨Nat.le_of_ble_eq_true rfl, Nat.le_of_ble_eq_true rfl⟩) (r_preV (q0 := 3) (ci := 3) hK hP rfl rfl) rfl rfl hl.1 rfl (lv_room (Nat.le_of_ble_eq_true rfl)) d_Ch_longestAtStart_42 ⟨Nat.zero_le _, Nat.zero_le _⟩) (fun r42 hf => ?_)
      refine lv_aload_n (pc := 45) hx hb d_Ch_longestAtStart_45 rfl (lv_at hl 1 rfl) ?_
      refine gk_gt_Ch_keys (pc := 46) hx hb hK hts hinCh hown hP hl9 d_Ch_longestAtStart_46 ?_
      refine lv_iload (pc := 49) hx hb d_Ch_longestAtStart_49 (lv_at hl 6 rfl) ?_
      refine gk_ld18 (pc := 51) (v := ((S.1 22) x5.toNatClampNeg)) hx hb hK hP hf.1 rfl d_Ch_longestAtStart_51 ?_
      replace hf := hf.2
      refine lv_icmp_ne (pc := 52) (tgt := 62) hx hb d_Ch_longestAtStart_52 (by decide) (fun hc => ?_) (fun hc => ?_)
      · replace hf := hf.2 hc
        refine lv_iinc (pc := 62) (k := 6) (v := (x5 + (1 : Int32))) (lv' := [(5, .int (x5 + (1 : Int32))), (6, .int r21), (0, .ref (a 5)), (1, .ref (a 3)), (2, .int x2), (3, .int x3), (4, .int x4)]) hx hb d_Ch_longestAtStart_62 hl rfl rfl (by decide) rfl (fun ls hl => ?_)
        refine lv_goto (pc := 65) (tgt := 8) hx hb d_Ch_longestAtStart_65 (by decide) ?_
        exact ih8 x2 x3 x4 (x5 + (1 : Int32)) _ (lv_sub hl [2, 3, 4, 5, 6, 0] rfl) hf
      replace hf := hf.1 hc
      refine lv_iload (pc := 55) hx hb d_Ch_longestAtStart_55 (lv_at hl 6 rfl) ?_
      refine lv_istore_n (pc := 57) (lv' := [(3, .int x5), (6, .int r21), (0, .ref (a 5)), (1, .ref (a 3)), (2, .int x2), (4, .int x4), (5, .int x5)]) hx hb d_Ch_longestAtStart_57 rfl hl (by decide) rfl (fun ls hl => ?_)
      refine lv_iload (pc := 58) hx hb d_Ch_longestAtStart_58 (lv_at hl 1 rfl) ?_
      refine lv_istore (pc := 60) (lv' := [(4, .int r21), (3, .int x5), (6, .int r21), (0, .ref (a 5)), (1, .ref (a 3)), (2, .int x2), (5, .int x5)]) hx hb d_Ch_longestAtStart_60 hl (by decide) rfl (fun ls hl => ?_)
      refine lv_iinc (pc := 62) (k := 6) (v := (x5 + (1 : Int32))) (lv' := [(5, .int (x5 + (1 : Int32))), (4, .int r21), (3, .int x5), (6, .int r21), (0, .ref (a 5)), (1, .ref (a 3)), (2, .int x2)]) hx hb d_Ch_longestAtStart_62 hl rfl rfl (by decide) rfl (fun ls hl => ?_)
      refine lv_goto (pc := 65) (tgt := 8) hx hb d_Ch_longestAtStart_65 (by decide) ?_
      exact ih8 x2 x5 r21 (x5 + (1 : Int32)) _ (lv_sub hl [4, 5, 6, 2, 1, 0] rfl) hf
  exact lp8 q8 p1 (-1 : Int32) (0 : Int32) (0 : Int32) _ (lv_sub hl [3, 4, 5, 2, 1, 0] rfl) hf
def wp_Ch_keysOf (S : GS) (p0 : Int32) (post : Int32 → Prop) : Prop := (vp_in p0 4 ∧ (post ((S.1 22) p0.toNatClampNeg)))
abbrev rm_Ch_keysOf : Room := { frames := 0, cells := 0, slots := 0, locals := 0 }
set_option maxHeartbeats 4000000 in
set_option maxRecDepth 100000 in
theorem c_Ch_keysOf (l : Launch) (D : va_G) (cI cZ cJ : ClassId) (a : Nat → Nat) (S : GS) (p0 : Int32) (post : Int32 → Prop) (hf : wp_Ch_keysOf S p0 post) : Met l y_Ch_keysOf ws_Ch_keysOf rm_Ch_keysOf (va_Pc [.ref (a 5), .int p0] (rPre D (tys cI cZ cJ) (gkW cI cZ cJ a S))) (vp_Si post) 0 0 (fun _ => False) := by
  refine gm_r (cc := b_Ch_keysOf) (maxL := 2) (by decide) rfl (Nat.le_of_ble_eq_true rfl) ?_
  intro p e s m args below meth c ls hx hb hr hts hown hlk hml hK hP hl
  have hl : lv_has ls 2 [(0, .ref (a 5)), (1, .int p0)] := hl
  have hinCh : ∀ w ∈ u_ws R_Ch T_Ch 2, w ∈ ws_Ch_keysOf := fun w h => List.mem_cons_of_mem _ (tl_Ch w h)
  have hl9 := hts _ (List.mem_cons_of_mem _ tf_Ch_9)
  unfold wp_Ch_keysOf at hf
  refine lv_aload_n (pc := 0) hx hb d_Ch_keysOf_0 rfl (lv_at hl 0 rfl) ?_
  refine gk_gt_Ch_keys (pc := 1) hx hb hK hts hinCh hown hP hl9 d_Ch_keysOf_1 ?_
  refine lv_iload_n (pc := 4) hx hb d_Ch_keysOf_4 rfl (lv_at hl 1 rfl) ?_
  refine gk_ld18 (pc := 5) (v := ((S.1 22) p0.toNatClampNeg)) hx hb hK hP hf.1 rfl d_Ch_keysOf_5 ?_
  replace hf := hf.2
  exact rr_i (pc := 6) hx hb hr hlk hf d_Ch_keysOf_6
def wp_Ch_codeOf (S : GS) (p0 : Int32) (post : Int32 → Prop) : Prop := (vp_in p0 4 ∧ (post ((S.1 23) p0.toNatClampNeg)))
abbrev rm_Ch_codeOf : Room := { frames := 0, cells := 0, slots := 0, locals := 0 }
set_option maxHeartbeats 4000000 in
set_option maxRecDepth 100000 in
theorem c_Ch_codeOf (l : Launch) (D : va_G) (cI cZ cJ : ClassId) (a : Nat → Nat) (S : GS) (p0 : Int32) (post : Int32 → Prop) (hf : wp_Ch_codeOf S p0 post) : Met l y_Ch_codeOf ws_Ch_codeOf rm_Ch_codeOf (va_Pc [.ref (a 5), .int p0] (rPre D (tys cI cZ cJ) (gkW cI cZ cJ a S))) (vp_Si post) 0 0 (fun _ => False) := by
  refine gm_r (cc := b_Ch_codeOf) (maxL := 2) (by decide) rfl (Nat.le_of_ble_eq_true rfl) ?_
  intro p e s m args below meth c ls hx hb hr hts hown hlk hml hK hP hl
  have hl : lv_has ls 2 [(0, .ref (a 5)), (1, .int p0)] := hl
  have hinCh : ∀ w ∈ u_ws R_Ch T_Ch 2, w ∈ ws_Ch_codeOf := fun w h => List.mem_cons_of_mem _ (tl_Ch w h)
  have hl15 := hts _ (List.mem_cons_of_mem _ tf_Ch_15)
  unfold wp_Ch_codeOf at hf
  refine lv_aload_n (pc := 0) hx hb d_Ch_codeOf_0 rfl (lv_at hl 0 rfl) ?_
  refine gk_gt_Ch_codes (pc := 1) hx hb hK hts hinCh hown hP hl15 d_Ch_codeOf_1 ?_
  refine lv_iload_n (pc := 4) hx hb d_Ch_codeOf_4 rfl (lv_at hl 1 rfl) ?_
  refine gk_ld19 (pc := 5) (v := ((S.1 23) p0.toNatClampNeg)) hx hb hK hP hf.1 rfl d_Ch_codeOf_5 ?_
  replace hf := hf.2
  exact rr_i (pc := 6) hx hb hr hlk hf d_Ch_codeOf_6
def wp_Re_goDown (S : GS) (p0 : Int32) (post : GS → Prop) : Prop := (vp_in p0 108 ∧ (vp_in p0 108 ∧ (wp_Re_packed (gI S 27 (upd (S.1 27) (p0).toNatClampNeg (((S.1 27) p0.toNatClampNeg) + (1 : Int32)))) (fun r12 => (wp_Re_putIfOther (gI S 27 (upd (S.1 27) (p0).toNatClampNeg (((S.1 27) p0.toNatClampNeg) + (1 : Int32)))) r12 (fun S15 => (post S15)))))))
abbrev rm_Re_goDown : Room := { frames := 1, cells := 0, slots := 0, locals := 29 }
set_option maxHeartbeats 4000000 in
set_option maxRecDepth 100000 in
theorem c_Re_goDown (l : Launch) (D : va_G) (cI cZ cJ : ClassId) (a : Nat → Nat) (sz : Nat) (S : GS) (p0 : Int32) (post : GS → Prop) (hf : wp_Re_goDown S p0 post) : Met l y_Re_goDown ws_Re_goDown rm_Re_goDown (va_Pc [.ref (a 8), .int p0] (gPre D (tys cI cZ cJ) (gkW cI cZ cJ a S) sz)) (va_Qv post (gB D (tys cI cZ cJ) (gkW cI cZ cJ a) (va_A (gkW cI cZ cJ a S) sz)) (va_A (gkW cI cZ cJ a S) sz)) 0 0 (va_A (gkW cI cZ cJ a S) sz) := by
  refine gm_w (QF := fun A => va_Qv post (gB D (tys cI cZ cJ) (gkW cI cZ cJ a) A) A) (cc := b_Re_goDown) (maxL := 2) (by decide) rfl (Nat.le_of_ble_eq_true rfl) ?_
  intro p e s m args below meth c A ls hx hb hr hts hown hmn hlk hml hK hA hw hl
  have hl : lv_has ls 2 [(0, .ref (a 8)), (1, .int p0)] := hl
  have hinRe : ∀ w ∈ u_ws R_Re T_Re 7, w ∈ ws_Re_goDown := fun w h => List.mem_cons_of_mem _ (tl_Re w h)
  have hl9 := hts _ (List.mem_cons_of_mem _ tf_Re_9)
  unfold wp_Re_goDown at hf
  refine lv_aload_n (pc := 0) hx hb d_Re_goDown_0 rfl (lv_at hl 0 rfl) ?_
  refine gk_gt_Re_holders (pc := 1) hx hb hK hts hinRe hown hw.1 hl9 d_Re_goDown_1 ?_
  refine lv_iload_n (pc := 4) hx hb d_Re_goDown_4 rfl (lv_at hl 1 rfl) ?_
  refine lv_dup2_11 (pc := 5) hx hb d_Re_goDown_5 rfl rfl ?_
  refine gk_ld23 (pc := 6) (v := ((S.1 27) p0.toNatClampNeg)) hx hb hK hw.1 hf.1 rfl d_Re_goDown_6 ?_
  replace hf := hf.2
  refine lv_iconst (pc := 7) (v := 1) hx hb d_Re_goDown_7 (by decide) ?_
  refine lv_iadd (pc := 8) hx hb d_Re_goDown_8 ?_
  refine gk_st23 (pc := 9) hx hb hK hw hf.1 d_Re_goDown_9 (fun H locs hw => ?_)
  replace hf := hf.2
  refine lv_aload_n (pc := 10) hx hb d_Re_goDown_10 rfl (lv_at hl 0 rfl) ?_
  refine lv_aload_n (pc := 11) hx hb d_Re_goDown_11 rfl (lv_at hl 0 rfl) ?_
  refine vp_callSl (pc := 12) (W.runV (As := []) (rest := [.ref (a 8)]) ⟨hx, hb, hml, hown, hts⟩ (c_Re_packed l D cI cZ cJ a _ _ hf) (cwV 0 hts (tb_wsV tc_Re_packed tm_Re_27 ti_Re_packed te_Re_packed tz_Re) rfl rfl rfl (by decide +kernel) ⟨Nat.le_of_ble_eq_true rfl, Nat.le_of_ble_eq_true rfl⟩) (r_preV (q0 := 8) (ci := 8) hK hw.1 rfl rfl) rfl rfl hl.1 rfl (lv_room (Nat.le_of_ble_eq_true rfl)) d_Re_goDown_12 ⟨Nat.zero_le _, Nat.zero_le _⟩) (fun r12 hf => ?_)
  refine gc_v (pc := 15) (Wf := gkW cI cZ cJ a) hw hA (va_runV (As := [.long r12]) (rest := []) ⟨hx, hb, hml, hown, hts⟩ (c_Re_putIfOther l D cI cZ cJ a _ _ _ _ hf) (cwV 1 hts (tb_wsV tc_Re_putIfOther tm_Re_31 ti_Re_putIfOther te_Re_putIfOther tz_Re) rfl rfl rfl (by decide +kernel) ⟨Nat.le_of_ble_eq_true rfl, Nat.le_of_ble_eq_true rfl⟩) (g_preV (q0 := 8) (ci := 8) hK hw rfl rfl) rfl rfl hl.1 rfl (lv_room (Nat.le_of_ble_eq_true rfl)) d_Re_goDown_15 ⟨Nat.zero_le _, Nat.zero_le _⟩) (fun S15 H locs hw hf => ?_)
  exact gr_v (pc := 18) hx hb hr hlk hK S15 hw hf d_Re_goDown_18
def wp_La_disarm (S : GS) (post : GS → Prop) : Prop := (post (gI S 9 (fun _ => (0 : Int32))))
abbrev rm_La_disarm : Room := { frames := 0, cells := 0, slots := 0, locals := 0 }
set_option maxHeartbeats 4000000 in
set_option maxRecDepth 100000 in
theorem c_La_disarm (l : Launch) (D : va_G) (cI cZ cJ : ClassId) (a : Nat → Nat) (sz : Nat) (S : GS) (post : GS → Prop) (hf : wp_La_disarm S post) : Met l y_La_disarm ws_La_disarm rm_La_disarm (va_Pc [.ref (a 6)] (gPre D (tys cI cZ cJ) (gkW cI cZ cJ a S) sz)) (va_Qv post (gB D (tys cI cZ cJ) (gkW cI cZ cJ a) (va_A (gkW cI cZ cJ a S) sz)) (va_A (gkW cI cZ cJ a S) sz)) 0 0 (va_A (gkW cI cZ cJ a S) sz) := by
  refine gm_w (QF := fun A => va_Qv post (gB D (tys cI cZ cJ) (gkW cI cZ cJ a) A) A) (cc := b_La_disarm) (maxL := 1) (by decide) rfl (Nat.le_of_ble_eq_true rfl) ?_
  intro p e s m args below meth c A ls hx hb hr hts hown hmn hlk hml hK hA hw hl
  have hl : lv_has ls 1 [(0, .ref (a 6))] := hl
  have hinLa : ∀ w ∈ u_ws R_La T_La 3, w ∈ ws_La_disarm := fun w h => List.mem_cons_of_mem _ (tl_La w h)
  have hl19 := hts _ (List.mem_cons_of_mem _ tf_La_19)
  unfold wp_La_disarm at hf
  refine lv_aload_n (pc := 0) hx hb d_La_disarm_0 rfl (lv_at hl 0 rfl) ?_
  refine lv_iconst (pc := 1) (v := 0) hx hb d_La_disarm_1 (by decide) ?_
  refine gk_pt_La_armed (pc := 2) hx hb hK hts hinLa hown hw hl19 d_La_disarm_2 (fun H locs hw => ?_)
  exact gr_v (pc := 5) hx hb hr hlk hK (gI S 9 (fun _ => (0 : Int32))) hw hf d_La_disarm_5
def wp_Km_kind (S : GS) (p0 : Int32) (p1 : Int32) (post : Int32 → Prop) : Prop := ((p0 = (-1 : Int32) → (post (0 : Int32))) ∧ (¬ p0 = (-1 : Int32) → (vp_in ((p0 * (24 : Int32)) + p1) 96 ∧ (post ((S.1 18) ((p0 * (24 : Int32)) + p1).toNatClampNeg)))))
abbrev rm_Km_kind : Room := { frames := 0, cells := 0, slots := 0, locals := 0 }
set_option maxHeartbeats 4000000 in
set_option maxRecDepth 100000 in
theorem c_Km_kind (l : Launch) (D : va_G) (cI cZ cJ : ClassId) (a : Nat → Nat) (S : GS) (p0 : Int32) (p1 : Int32) (post : Int32 → Prop) (hf : wp_Km_kind S p0 p1 post) : Met l y_Km_kind ws_Km_kind rm_Km_kind (va_Pc [.ref (a 4), .int p0, .int p1] (rPre D (tys cI cZ cJ) (gkW cI cZ cJ a S))) (vp_Si post) 0 0 (fun _ => False) := by
  refine gm_r (cc := b_Km_kind) (maxL := 3) (by decide) rfl (Nat.le_of_ble_eq_true rfl) ?_
  intro p e s m args below meth c ls hx hb hr hts hown hlk hml hK hP hl
  have hl : lv_has ls 3 [(0, .ref (a 4)), (1, .int p0), (2, .int p1)] := hl
  have hinKm : ∀ w ∈ u_ws R_Km T_Km 4, w ∈ ws_Km_kind := fun w h => List.mem_cons_of_mem _ (tl_Km w h)
  have hl9 := hts _ (List.mem_cons_of_mem _ tf_Km_9)
  unfold wp_Km_kind at hf
  refine lv_iload_n (pc := 0) hx hb d_Km_kind_0 rfl (lv_at hl 1 rfl) ?_
  refine lv_iconst (pc := 1) (v := -1) hx hb d_Km_kind_1 (by decide) ?_
  refine lv_icmp_ne (pc := 2) (tgt := 9) hx hb d_Km_kind_2 (by decide) (fun hc => ?_) (fun hc => ?_)
  · replace hf := hf.2 hc
    refine lv_aload_n (pc := 9) hx hb d_Km_kind_9 rfl (lv_at hl 0 rfl) ?_
    refine gk_gt_Km_kinds (pc := 10) hx hb hK hts hinKm hown hP hl9 d_Km_kind_10 ?_
    refine lv_iload_n (pc := 13) hx hb d_Km_kind_13 rfl (lv_at hl 1 rfl) ?_
    refine lv_bipush (pc := 14) (v := 24) hx hb d_Km_kind_14 (by decide) ?_
    refine lv_imul (pc := 16) hx hb d_Km_kind_16 ?_
    refine lv_iload_n (pc := 17) hx hb d_Km_kind_17 rfl (lv_at hl 2 rfl) ?_
    refine lv_iadd (pc := 18) hx hb d_Km_kind_18 ?_
    refine gk_ld14 (pc := 19) (v := ((S.1 18) ((p0 * (24 : Int32)) + p1).toNatClampNeg)) hx hb hK hP hf.1 rfl d_Km_kind_19 ?_
    replace hf := hf.2
    exact rr_i (pc := 20) hx hb hr hlk hf d_Km_kind_20
  replace hf := hf.1 hc
  refine lv_iconst (pc := 5) (v := 0) hx hb d_Km_kind_5 (by decide) ?_
  refine lv_goto (pc := 6) (tgt := 20) hx hb d_Km_kind_6 (by decide) ?_
  exact rr_i (pc := 20) hx hb hr hlk hf d_Km_kind_20
def wp_La_isOn (S : GS) (p0 : Int32) (post : Int32 → Prop) : Prop := ((p0 = (0 : Int32) → (post (1 : Int32))) ∧ (¬ p0 = (0 : Int32) → (vp_in p0 4 ∧ ((((S.1 24) p0.toNatClampNeg) = (0 : Int32) → ((((((S.1 8 0) ||| (S.1 9 0)) >>> (p0 &&& 31)) &&& (1 : Int32)) = (0 : Int32) → (post (0 : Int32))) ∧ (¬ ((((S.1 8 0) ||| (S.1 9 0)) >>> (p0 &&& 31)) &&& (1 : Int32)) = (0 : Int32) → (post (1 : Int32))))) ∧ (¬ ((S.1 24) p0.toNatClampNeg) = (0 : Int32) → (post (1 : Int32)))))))
abbrev rm_La_isOn : Room := { frames := 0, cells := 0, slots := 0, locals := 0 }
set_option maxHeartbeats 4000000 in
set_option maxRecDepth 100000 in
theorem c_La_isOn (l : Launch) (D : va_G) (cI cZ cJ : ClassId) (a : Nat → Nat) (S : GS) (p0 : Int32) (post : Int32 → Prop) (hf : wp_La_isOn S p0 post) : Met l y_La_isOn ws_La_isOn rm_La_isOn (va_Pc [.ref (a 6), .int p0] (rPre D (tys cI cZ cJ) (gkW cI cZ cJ a S))) (vp_Si post) 0 0 (fun _ => False) := by
  refine gm_r (cc := b_La_isOn) (maxL := 2) (by decide) rfl (Nat.le_of_ble_eq_true rfl) ?_
  intro p e s m args below meth c ls hx hb hr hts hown hlk hml hK hP hl
  have hl : lv_has ls 2 [(0, .ref (a 6)), (1, .int p0)] := hl
  have hinLa : ∀ w ∈ u_ws R_La T_La 3, w ∈ ws_La_isOn := fun w h => List.mem_cons_of_mem _ (tl_La w h)
  have hl9 := hts _ (List.mem_cons_of_mem _ tf_La_9)
  have hl15 := hts _ (List.mem_cons_of_mem _ tf_La_15)
  have hl19 := hts _ (List.mem_cons_of_mem _ tf_La_19)
  unfold wp_La_isOn at hf
  refine lv_iload_n (pc := 0) hx hb d_La_isOn_0 rfl (lv_at hl 1 rfl) ?_
  refine lv_if_eq (pc := 1) (tgt := 29) hx hb d_La_isOn_1 (by decide) (fun hc => ?_) (fun hc => ?_)
  · replace hf := hf.1 hc
    refine lv_iconst (pc := 29) (v := 1) hx hb d_La_isOn_29 (by decide) ?_
    refine lv_goto (pc := 30) (tgt := 34) hx hb d_La_isOn_30 (by decide) ?_
    exact rr_z (pc := 34) hx hb hr hlk (by decide) hf d_La_isOn_34
  replace hf := hf.2 hc
  refine lv_aload_n (pc := 4) hx hb d_La_isOn_4 rfl (lv_at hl 0 rfl) ?_
  refine gk_gt_La_holders (pc := 5) hx hb hK hts hinLa hown hP hl9 d_La_isOn_5 ?_
  refine lv_iload_n (pc := 8) hx hb d_La_isOn_8 rfl (lv_at hl 1 rfl) ?_
  refine gk_ld20 (pc := 9) (v := ((S.1 24) p0.toNatClampNeg)) hx hb hK hP hf.1 rfl d_La_isOn_9 ?_
  replace hf := hf.2
  refine lv_if_ne (pc := 10) (tgt := 29) hx hb d_La_isOn_10 (by decide) (fun hc => ?_) (fun hc => ?_)
  · replace hf := hf.2 hc
    refine lv_iconst (pc := 29) (v := 1) hx hb d_La_isOn_29 (by decide) ?_
    refine lv_goto (pc := 30) (tgt := 34) hx hb d_La_isOn_30 (by decide) ?_
    exact rr_z (pc := 34) hx hb hr hlk (by decide) hf d_La_isOn_34
  replace hf := hf.1 hc
  refine lv_aload_n (pc := 13) hx hb d_La_isOn_13 rfl (lv_at hl 0 rfl) ?_
  refine gk_gt_La_locked (pc := 14) (v := (S.1 8 0)) hx hb hK hts hinLa hown hP hl15 rfl d_La_isOn_14 ?_
  refine lv_aload_n (pc := 17) hx hb d_La_isOn_17 rfl (lv_at hl 0 rfl) ?_
  refine gk_gt_La_armed (pc := 18) (v := (S.1 9 0)) hx hb hK hts hinLa hown hP hl19 rfl d_La_isOn_18 ?_
  refine lv_ior (pc := 21) hx hb d_La_isOn_21 ?_
  refine lv_iload_n (pc := 22) hx hb d_La_isOn_22 rfl (lv_at hl 1 rfl) ?_
  refine lv_ishr (pc := 23) hx hb d_La_isOn_23 ?_
  refine lv_iconst (pc := 24) (v := 1) hx hb d_La_isOn_24 (by decide) ?_
  refine lv_iand (pc := 25) hx hb d_La_isOn_25 ?_
  refine lv_if_eq (pc := 26) (tgt := 33) hx hb d_La_isOn_26 (by decide) (fun hc => ?_) (fun hc => ?_)
  · replace hf := hf.1 hc
    refine lv_iconst (pc := 33) (v := 0) hx hb d_La_isOn_33 (by decide) ?_
    exact rr_z (pc := 34) hx hb hr hlk (by decide) hf d_La_isOn_34
  replace hf := hf.2 hc
  refine lv_iconst (pc := 29) (v := 1) hx hb d_La_isOn_29 (by decide) ?_
  refine lv_goto (pc := 30) (tgt := 34) hx hb d_La_isOn_30 (by decide) ?_
  exact rr_z (pc := 34) hx hb hr hlk (by decide) hf d_La_isOn_34
def L_Km_topLayer_2 (S : GS) (post : Int32 → Prop) : Nat → Int32 → Int32 → Prop
  | 0, _, _ => False
  | n2 + 1, x1, x3 => ((x3 < (0 : Int32) → (post (-1 : Int32))) ∧ (¬ x3 < (0 : Int32) → (wp_Km_kind S x3 x1 (fun r9 => ((r9 = (0 : Int32) → (L_Km_topLayer_2 S post n2 x1 (x3 + (-1 : Int32)))) ∧ (¬ r9 = (0 : Int32) → (wp_La_isOn S x3 (fun r17 => ((r17 = (0 : Int32) → (L_Km_topLayer_2 S post n2 x1 (x3 + (-1 : Int32)))) ∧ (¬ r17 = (0 : Int32) → (post x3)))))))))))
def wp_Km_topLayer (S : GS) (p0 : Int32) (post : Int32 → Prop) : Prop := (∃ q2, L_Km_topLayer_2 S post q2 p0 (3 : Int32))
abbrev rm_Km_topLayer : Room := { frames := 1, cells := 0, slots := 0, locals := 22 }
set_option maxHeartbeats 4000000 in
set_option maxRecDepth 100000 in
theorem c_Km_topLayer (l : Launch) (D : va_G) (cI cZ cJ : ClassId) (a : Nat → Nat) (S : GS) (p0 : Int32) (post : Int32 → Prop) (hf : wp_Km_topLayer S p0 post) : Met l y_Km_topLayer ws_Km_topLayer rm_Km_topLayer (va_Pc [.ref (a 4), .int p0, .ref (a 6)] (rPre D (tys cI cZ cJ) (gkW cI cZ cJ a S))) (vp_Si post) 0 0 (fun _ => False) := by
  refine gm_r (cc := b_Km_topLayer) (maxL := 4) (by decide) rfl (Nat.le_of_ble_eq_true rfl) ?_
  intro p e s m args below meth c ls hx hb hr hts hown hlk hml hK hP hl
  have hl : lv_has ls 4 [(0, .ref (a 4)), (1, .int p0), (2, .ref (a 6))] := hl
  unfold wp_Km_topLayer at hf
  refine lv_iconst (pc := 0) (v := 3) hx hb d_Km_topLayer_0 (by decide) ?_
  refine lv_istore_n (pc := 1) (lv' := [(3, .int (3 : Int32)), (0, .ref (a 4)), (1, .int p0), (2, .ref (a 6))]) hx hb d_Km_topLayer_1 rfl hl (by decide) rfl (fun ls hl => ?_)
  obtain ⟨q2, hf⟩ := hf
  have lp2 : ∀ (n2 : Nat) (x1 : Int32) (x3 : Int32) (ls : Array Slot), lv_has ls 4 [(0, .ref (a 4)), (1, .int x1), (2, .ref (a 6)), (3, .int x3)] → L_Km_topLayer_2 S post n2 x1 x3 → W p l e rm_Km_topLayer s m args below meth c s.heap [] 0 0 (MQ below (vp_Si post) args s 0 0 (fun _ => False)) (F0 m 2 ls []) := by
    intro n2
    induction n2 with
    | zero => intro x1 x3 ls hl hf; exact False.elim hf
    | succ n2 ih2 =>
      intro x1 x3 ls hl hf
      unfold L_Km_topLayer_2 at hf
      refine lv_iload_n (pc := 2) hx hb d_Km_topLayer_2 rfl (lv_at hl 3 rfl) ?_
      refine lv_if_lt (pc := 3) (tgt := 31) hx hb d_Km_topLayer_3 (by decide) (fun hc => ?_) (fun hc => ?_)
      · replace hf := hf.1 hc
        refine lv_iconst (pc := 31) (v := -1) hx hb d_Km_topLayer_31 (by decide) ?_
        exact rr_i (pc := 32) hx hb hr hlk hf d_Km_topLayer_32
      replace hf := hf.2 hc
      refine lv_aload_n (pc := 6) hx hb d_Km_topLayer_6 rfl (lv_at hl 0 rfl) ?_
      refine lv_iload_n (pc := 7) hx hb d_Km_topLayer_7 rfl (lv_at hl 3 rfl) ?_
      refine lv_iload_n (pc := 8) hx hb d_Km_topLayer_8 rfl (lv_at hl 1 rfl) ?_
      refine vp_callSi (pc := 9) (W.runV (As := [.int x3, .int x1]) (rest := []) ⟨hx, hb, hml, hown, hts⟩ (c_Km_kind l D cI cZ cJ a _ _ _ _ hf) (cwV 2 hts (tb_wsV tc_Km_kind tm_Km_24 ti_Km_kind te_Km_kind tz_Km) rfl rfl rfl (by decide +kernel) ⟨Nat.le_of_ble_eq_true rfl, Nat.le_of_ble_eq_true rfl⟩) (r_preV (q0 := 4) (ci := 4) hK hP rfl rfl) rfl rfl hl.1 rfl (lv_room (Nat.le_of_ble_eq_true rfl)) d_Km_topLayer_9 ⟨Nat.zero_le _, Nat.zero_le _⟩) (fun r9 hf => ?_)
      refine lv_if_eq (pc := 12) (tgt := 25) hx hb d_Km_topLayer_12 (by decide) (fun hc => ?_) (fun hc => ?_)
      · replace hf := hf.1 hc
        refine lv_iinc (pc := 25) (k := 3) (v := (x3 + (-1 : Int32))) (lv' := [(3, .int (x3 + (-1 : Int32))), (0, .ref (a 4)), (1, .int x1), (2, .ref (a 6))]) hx hb d_Km_topLayer_25 hl rfl rfl (by decide) rfl (fun ls hl => ?_)
        refine lv_goto (pc := 28) (tgt := 2) hx hb d_Km_topLayer_28 (by decide) ?_
        exact ih2 x1 (x3 + (-1 : Int32)) _ (lv_sub hl [1, 2, 3, 0] rfl) hf
      replace hf := hf.2 hc
      refine lv_aload_n (pc := 15) hx hb d_Km_topLayer_15 rfl (lv_at hl 2 rfl) ?_
      refine lv_iload_n (pc := 16) hx hb d_Km_topLayer_16 rfl (lv_at hl 3 rfl) ?_
      refine vp_callSi (pc := 17) (W.runV (As := [.int x3]) (rest := []) ⟨hx, hb, hml, hown, hts⟩ (c_La_isOn l D cI cZ cJ a _ _ _ hf) (cwV 1 hts (tb_wsV tc_La_isOn tm_Km_28 ti_La_isOn te_La_isOn tz_La) rfl rfl rfl (by decide +kernel) ⟨Nat.le_of_ble_eq_true rfl, Nat.le_of_ble_eq_true rfl⟩) (r_preV (q0 := 6) (ci := 6) hK hP rfl rfl) rfl rfl hl.1 rfl (lv_room (Nat.le_of_ble_eq_true rfl)) d_Km_topLayer_17 ⟨Nat.zero_le _, Nat.zero_le _⟩) (fun r17 hf => ?_)
      refine lv_if_eq (pc := 20) (tgt := 25) hx hb d_Km_topLayer_20 (by decide) (fun hc => ?_) (fun hc => ?_)
      · replace hf := hf.1 hc
        refine lv_iinc (pc := 25) (k := 3) (v := (x3 + (-1 : Int32))) (lv' := [(3, .int (x3 + (-1 : Int32))), (0, .ref (a 4)), (1, .int x1), (2, .ref (a 6))]) hx hb d_Km_topLayer_25 hl rfl rfl (by decide) rfl (fun ls hl => ?_)
        refine lv_goto (pc := 28) (tgt := 2) hx hb d_Km_topLayer_28 (by decide) ?_
        exact ih2 x1 (x3 + (-1 : Int32)) _ (lv_sub hl [1, 2, 3, 0] rfl) hf
      replace hf := hf.2 hc
      refine lv_iload_n (pc := 23) hx hb d_Km_topLayer_23 rfl (lv_at hl 3 rfl) ?_
      exact rr_i (pc := 24) hx hb hr hlk hf d_Km_topLayer_24
  exact lp2 q2 p0 (3 : Int32) _ (lv_sub hl [1, 2, 3, 0] rfl) hf
def L_Eq_tellTap_4 (S : GS) (post : Int32 → Prop) : Nat → Int32 → Int32 → Prop
  | 0, _, _ => False
  | n4 + 1, x1, x2 => (((S.1 7 0) ≤ x2 → (post (0 : Int32))) ∧ (¬ (S.1 7 0) ≤ x2 → (wp_Eq_keyAt S x2 (fun r15 => (wp_Eq_isPress S x2 (fun r22 => ((r22 = (0 : Int32) → (wp_Eq_keyAt S x2 (fun r37 => (wp_Eq_keyAt S (0 : Int32) (fun r42 => ((r37 = r42 → (post (1 : Int32))) ∧ (¬ r37 = r42 → (((x1 &&& ((1 : Int32) <<< (r15 &&& 31))) = (0 : Int32) → (L_Eq_tellTap_4 S post n4 x1 (x2 + (1 : Int32)))) ∧ (¬ (x1 &&& ((1 : Int32) <<< (r15 &&& 31))) = (0 : Int32) → (post (2 : Int32))))))))))) ∧ (¬ r22 = (0 : Int32) → (L_Eq_tellTap_4 S post n4 (x1 ||| ((1 : Int32) <<< (r15 &&& 31))) (x2 + (1 : Int32)))))))))))
def wp_Eq_tellTap (S : GS) (post : Int32 → Prop) : Prop := (∃ q4, L_Eq_tellTap_4 S post q4 (0 : Int32) (1 : Int32))
abbrev rm_Eq_tellTap : Room := { frames := 1, cells := 0, slots := 0, locals := 21 }
set_option maxHeartbeats 4000000 in
set_option maxRecDepth 100000 in
theorem c_Eq_tellTap (l : Launch) (D : va_G) (cI cZ cJ : ClassId) (a : Nat → Nat) (S : GS) (post : Int32 → Prop) (hf : wp_Eq_tellTap S post) : Met l y_Eq_tellTap ws_Eq_tellTap rm_Eq_tellTap (va_Pc [.ref (a 3)] (rPre D (tys cI cZ cJ) (gkW cI cZ cJ a S))) (vp_Si post) 0 0 (fun _ => False) := by
  refine gm_r (cc := b_Eq_tellTap) (maxL := 4) (by decide) rfl (Nat.le_of_ble_eq_true rfl) ?_
  intro p e s m args below meth c ls hx hb hr hts hown hlk hml hK hP hl
  have hl : lv_has ls 4 [(0, .ref (a 3))] := hl
  have hinEq : ∀ w ∈ u_ws R_Eq T_Eq 3, w ∈ ws_Eq_tellTap := fun w h => List.mem_cons_of_mem _ (tl_Eq w h)
  have hl18 := hts _ (List.mem_cons_of_mem _ tf_Eq_18)
  unfold wp_Eq_tellTap at hf
  refine lv_iconst (pc := 0) (v := 0) hx hb d_Eq_tellTap_0 (by decide) ?_
  refine lv_istore_n (pc := 1) (lv' := [(1, .int (0 : Int32)), (0, .ref (a 3))]) hx hb d_Eq_tellTap_1 rfl hl (by decide) rfl (fun ls hl => ?_)
  refine lv_iconst (pc := 2) (v := 1) hx hb d_Eq_tellTap_2 (by decide) ?_
  refine lv_istore_n (pc := 3) (lv' := [(2, .int (1 : Int32)), (1, .int (0 : Int32)), (0, .ref (a 3))]) hx hb d_Eq_tellTap_3 rfl hl (by decide) rfl (fun ls hl => ?_)
  obtain ⟨q4, hf⟩ := hf
  have lp4 : ∀ (n4 : Nat) (x1 : Int32) (x2 : Int32) (ls : Array Slot), lv_has ls 4 [(0, .ref (a 3)), (1, .int x1), (2, .int x2)] → L_Eq_tellTap_4 S post n4 x1 x2 → W p l e rm_Eq_tellTap s m args below meth c s.heap [] 0 0 (MQ below (vp_Si post) args s 0 0 (fun _ => False)) (F0 m 4 ls []) := by
    intro n4
    induction n4 with
    | zero => intro x1 x2 ls hl hf; exact False.elim hf
    | succ n4 ih4 =>
      intro x1 x2 ls hl hf
      unfold L_Eq_tellTap_4 at hf
      refine lv_iload_n (pc := 4) hx hb d_Eq_tellTap_4 rfl (lv_at hl 2 rfl) ?_
      refine lv_aload_n (pc := 5) hx hb d_Eq_tellTap_5 rfl (lv_at hl 0 rfl) ?_
      refine gk_gt_Eq_length (pc := 6) (v := (S.1 7 0)) hx hb hK hts hinEq hown hP hl18 rfl d_Eq_tellTap_6 ?_
      refine lv_icmp_ge (pc := 9) (tgt := 64) hx hb d_Eq_tellTap_9 (by decide) (fun hc => ?_) (fun hc => ?_)
      · replace hf := hf.1 hc
        refine lv_iconst (pc := 64) (v := 0) hx hb d_Eq_tellTap_64 (by decide) ?_
        exact rr_i (pc := 65) hx hb hr hlk hf d_Eq_tellTap_65
      replace hf := hf.2 hc
      refine lv_iconst (pc := 12) (v := 1) hx hb d_Eq_tellTap_12 (by decide) ?_
      refine lv_aload_n (pc := 13) hx hb d_Eq_tellTap_13 rfl (lv_at hl 0 rfl) ?_
      refine lv_iload_n (pc := 14) hx hb d_Eq_tellTap_14 rfl (lv_at hl 2 rfl) ?_
      refine vp_callSi (pc := 15) (W.runV (As := [.int x2]) (rest := [.int (1 : Int32)]) ⟨hx, hb, hml, hown, hts⟩ (c_Eq_keyAt l D cI cZ cJ a _ _ _ hf) (cwV 1 hts (tb_wsV tc_Eq_keyAt tm_Eq_32 ti_Eq_keyAt te_Eq_keyAt tz_Eq) rfl rfl rfl (by decide +kernel) ⟨Nat.le_of_ble_eq_true rfl, Nat.le_of_ble_eq_true rfl⟩) (r_preV (q0 := 3) (ci := 3) hK hP rfl rfl) rfl rfl hl.1 rfl (lv_room (Nat.le_of_ble_eq_true rfl)) d_Eq_tellTap_15 ⟨Nat.zero_le _, Nat.zero_le _⟩) (fun r15 hf => ?_)
      refine lv_ishl (pc := 18) hx hb d_Eq_tellTap_18 ?_
      refine lv_istore_n (pc := 19) (lv' := [(3, .int ((1 : Int32) <<< (r15 &&& 31))), (0, .ref (a 3)), (1, .int x1), (2, .int x2)]) hx hb d_Eq_tellTap_19 rfl hl (by decide) rfl (fun ls hl => ?_)
      refine lv_aload_n (pc := 20) hx hb d_Eq_tellTap_20 rfl (lv_at hl 1 rfl) ?_
      refine lv_iload_n (pc := 21) hx hb d_Eq_tellTap_21 rfl (lv_at hl 3 rfl) ?_
      refine vp_callSi (pc := 22) (W.runV (As := [.int x2]) (rest := []) ⟨hx, hb, hml, hown, hts⟩ (c_Eq_isPress l D cI cZ cJ a _ _ _ hf) (cwV 1 hts (tb_wsV tc_Eq_isPress tm_Eq_28 ti_Eq_isPress te_Eq_isPress tz_Eq) rfl rfl rfl (by decide +kernel) ⟨Nat.le_of_ble_eq_true rfl, Nat.le_of_ble_eq_true rfl⟩) (r_preV (q0 := 3) (ci := 3) hK hP rfl rfl) rfl rfl hl.1 rfl (lv_room (Nat.le_of_ble_eq_true rfl)) d_Eq_tellTap_22 ⟨Nat.zero_le _, Nat.zero_le _⟩) (fun r22 hf => ?_)
      refine lv_if_eq (pc := 25) (tgt := 35) hx hb d_Eq_tellTap_25 (by decide) (fun hc => ?_) (fun hc => ?_)
      · replace hf := hf.1 hc
        refine lv_aload_n (pc := 35) hx hb d_Eq_tellTap_35 rfl (lv_at hl 1 rfl) ?_
        refine lv_iload_n (pc := 36) hx hb d_Eq_tellTap_36 rfl (lv_at hl 3 rfl) ?_
        refine vp_callSi (pc := 37) (W.runV (As := [.int x2]) (rest := []) ⟨hx, hb, hml, hown, hts⟩ (c_Eq_keyAt l D cI cZ cJ a _ _ _ hf) (cwV 1 hts (tb_wsV tc_Eq_keyAt tm_Eq_32 ti_Eq_keyAt te_Eq_keyAt tz_Eq) rfl rfl rfl (by decide +kernel) ⟨Nat.le_of_ble_eq_true rfl, Nat.le_of_ble_eq_true rfl⟩) (r_preV (q0 := 3) (ci := 3) hK hP rfl rfl) rfl rfl hl.1 rfl (lv_room (Nat.le_of_ble_eq_true rfl)) d_Eq_tellTap_37 ⟨Nat.zero_le _, Nat.zero_le _⟩) (fun r37 hf => ?_)
        refine lv_aload_n (pc := 40) hx hb d_Eq_tellTap_40 rfl (lv_at hl 1 rfl) ?_
        refine lv_iconst (pc := 41) (v := 0) hx hb d_Eq_tellTap_41 (by decide) ?_
        refine vp_callSi (pc := 42) (W.runV (As := [.int (0 : Int32)]) (rest := [.int r37]) ⟨hx, hb, hml, hown, hts⟩ (c_Eq_keyAt l D cI cZ cJ a _ _ _ hf) (cwV 1 hts (tb_wsV tc_Eq_keyAt tm_Eq_32 ti_Eq_keyAt te_Eq_keyAt tz_Eq) rfl rfl rfl (by decide +kernel) ⟨Nat.le_of_ble_eq_true rfl, Nat.le_of_ble_eq_true rfl⟩) (r_preV (q0 := 3) (ci := 3) hK hP rfl rfl) rfl rfl hl.1 rfl (lv_room (Nat.le_of_ble_eq_true rfl)) d_Eq_tellTap_42 ⟨Nat.zero_le _, Nat.zero_le _⟩) (fun r42 hf => ?_)
        refine lv_icmp_ne (pc := 45) (tgt := 50) hx hb d_Eq_tellTap_45 (by decide) (fun hc => ?_) (fun hc => ?_)
        · replace hf := hf.2 hc
          refine lv_iload_n (pc := 50) hx hb d_Eq_tellTap_50 rfl (lv_at hl 2 rfl) ?_
          refine lv_iload_n (pc := 51) hx hb d_Eq_tellTap_51 rfl (lv_at hl 0 rfl) ?_
          refine lv_iand (pc := 52) hx hb d_Eq_tellTap_52 ?_
          refine lv_if_eq (pc := 53) (tgt := 58) hx hb d_Eq_tellTap_53 (by decide) (fun hc => ?_) (fun hc => ?_)
          · replace hf := hf.1 hc
            refine lv_iinc (pc := 58) (k := 3) (v := (x2 + (1 : Int32))) (lv' := [(2, .int (x2 + (1 : Int32))), (3, .int ((1 : Int32) <<< (r15 &&& 31))), (0, .ref (a 3)), (1, .int x1)]) hx hb d_Eq_tellTap_58 hl rfl rfl (by decide) rfl (fun ls hl => ?_)
            refine lv_goto (pc := 61) (tgt := 4) hx hb d_Eq_tellTap_61 (by decide) ?_
            exact ih4 x1 (x2 + (1 : Int32)) _ (lv_sub hl [2, 3, 0] rfl) hf
          replace hf := hf.2 hc
          refine lv_iconst (pc := 56) (v := 2) hx hb d_Eq_tellTap_56 (by decide) ?_
          exact rr_i (pc := 57) hx hb hr hlk hf d_Eq_tellTap_57
        replace hf := hf.1 hc
        refine lv_iconst (pc := 48) (v := 1) hx hb d_Eq_tellTap_48 (by decide) ?_
        exact rr_i (pc := 49) hx hb hr hlk hf d_Eq_tellTap_49
      replace hf := hf.2 hc
      refine lv_iload_n (pc := 28) hx hb d_Eq_tellTap_28 rfl (lv_at hl 2 rfl) ?_
      refine lv_iload_n (pc := 29) hx hb d_Eq_tellTap_29 rfl (lv_at hl 0 rfl) ?_
      refine lv_ior (pc := 30) hx hb d_Eq_tellTap_30 ?_
      refine lv_istore_n (pc := 31) (lv' := [(1, .int (x1 ||| ((1 : Int32) <<< (r15 &&& 31)))), (3, .int ((1 : Int32) <<< (r15 &&& 31))), (0, .ref (a 3)), (2, .int x2)]) hx hb d_Eq_tellTap_31 rfl hl (by decide) rfl (fun ls hl => ?_)
      refine lv_goto (pc := 32) (tgt := 58) hx hb d_Eq_tellTap_32 (by decide) ?_
      refine lv_iinc (pc := 58) (k := 3) (v := (x2 + (1 : Int32))) (lv' := [(2, .int (x2 + (1 : Int32))), (1, .int (x1 ||| ((1 : Int32) <<< (r15 &&& 31)))), (3, .int ((1 : Int32) <<< (r15 &&& 31))), (0, .ref (a 3))]) hx hb d_Eq_tellTap_58 hl rfl rfl (by decide) rfl (fun ls hl => ?_)
      refine lv_goto (pc := 61) (tgt := 4) hx hb d_Eq_tellTap_61 (by decide) ?_
      exact ih4 (x1 ||| ((1 : Int32) <<< (r15 &&& 31))) (x2 + (1 : Int32)) _ (lv_sub hl [3, 1, 0] rfl) hf
  exact lp4 q4 (0 : Int32) (1 : Int32) _ (lv_sub hl [2, 1, 0] rfl) hf
def wp_Km_a (S : GS) (p0 : Int32) (p1 : Int32) (post : Int32 → Prop) : Prop := ((p0 = (-1 : Int32) → (post (0 : Int32))) ∧ (¬ p0 = (-1 : Int32) → (vp_in ((p0 * (24 : Int32)) + p1) 96 ∧ (post ((S.1 19) ((p0 * (24 : Int32)) + p1).toNatClampNeg)))))
abbrev rm_Km_a : Room := { frames := 0, cells := 0, slots := 0, locals := 0 }
set_option maxHeartbeats 4000000 in
set_option maxRecDepth 100000 in
theorem c_Km_a (l : Launch) (D : va_G) (cI cZ cJ : ClassId) (a : Nat → Nat) (S : GS) (p0 : Int32) (p1 : Int32) (post : Int32 → Prop) (hf : wp_Km_a S p0 p1 post) : Met l y_Km_a ws_Km_a rm_Km_a (va_Pc [.ref (a 4), .int p0, .int p1] (rPre D (tys cI cZ cJ) (gkW cI cZ cJ a S))) (vp_Si post) 0 0 (fun _ => False) := by
  refine gm_r (cc := b_Km_a) (maxL := 3) (by decide) rfl (Nat.le_of_ble_eq_true rfl) ?_
  intro p e s m args below meth c ls hx hb hr hts hown hlk hml hK hP hl
  have hl : lv_has ls 3 [(0, .ref (a 4)), (1, .int p0), (2, .int p1)] := hl
  have hinKm : ∀ w ∈ u_ws R_Km T_Km 4, w ∈ ws_Km_a := fun w h => List.mem_cons_of_mem _ (tl_Km w h)
  have hl15 := hts _ (List.mem_cons_of_mem _ tf_Km_15)
  unfold wp_Km_a at hf
  refine lv_iload_n (pc := 0) hx hb d_Km_a_0 rfl (lv_at hl 1 rfl) ?_
  refine lv_iconst (pc := 1) (v := -1) hx hb d_Km_a_1 (by decide) ?_
  refine lv_icmp_ne (pc := 2) (tgt := 9) hx hb d_Km_a_2 (by decide) (fun hc => ?_) (fun hc => ?_)
  · replace hf := hf.2 hc
    refine lv_aload_n (pc := 9) hx hb d_Km_a_9 rfl (lv_at hl 0 rfl) ?_
    refine gk_gt_Km_firsts (pc := 10) hx hb hK hts hinKm hown hP hl15 d_Km_a_10 ?_
    refine lv_iload_n (pc := 13) hx hb d_Km_a_13 rfl (lv_at hl 1 rfl) ?_
    refine lv_bipush (pc := 14) (v := 24) hx hb d_Km_a_14 (by decide) ?_
    refine lv_imul (pc := 16) hx hb d_Km_a_16 ?_
    refine lv_iload_n (pc := 17) hx hb d_Km_a_17 rfl (lv_at hl 2 rfl) ?_
    refine lv_iadd (pc := 18) hx hb d_Km_a_18 ?_
    refine gk_ld15 (pc := 19) (v := ((S.1 19) ((p0 * (24 : Int32)) + p1).toNatClampNeg)) hx hb hK hP hf.1 rfl d_Km_a_19 ?_
    replace hf := hf.2
    exact rr_i (pc := 20) hx hb hr hlk hf d_Km_a_20
  replace hf := hf.1 hc
  refine lv_iconst (pc := 5) (v := 0) hx hb d_Km_a_5 (by decide) ?_
  refine lv_goto (pc := 6) (tgt := 20) hx hb d_Km_a_6 (by decide) ?_
  exact rr_i (pc := 20) hx hb hr hlk hf d_Km_a_20
def wp_La_hold (S : GS) (p0 : Int32) (p1 : Int32) (post : GS → Prop) : Prop := (vp_in p0 4 ∧ (vp_in p0 4 ∧ (post (gI S 24 (upd (S.1 24) (p0).toNatClampNeg (((S.1 24) p0.toNatClampNeg) ||| ((1 : Int32) <<< (p1 &&& 31))))))))
abbrev rm_La_hold : Room := { frames := 0, cells := 0, slots := 0, locals := 0 }
set_option maxHeartbeats 4000000 in
set_option maxRecDepth 100000 in
theorem c_La_hold (l : Launch) (D : va_G) (cI cZ cJ : ClassId) (a : Nat → Nat) (sz : Nat) (S : GS) (p0 : Int32) (p1 : Int32) (post : GS → Prop) (hf : wp_La_hold S p0 p1 post) : Met l y_La_hold ws_La_hold rm_La_hold (va_Pc [.ref (a 6), .int p0, .int p1] (gPre D (tys cI cZ cJ) (gkW cI cZ cJ a S) sz)) (va_Qv post (gB D (tys cI cZ cJ) (gkW cI cZ cJ a) (va_A (gkW cI cZ cJ a S) sz)) (va_A (gkW cI cZ cJ a S) sz)) 0 0 (va_A (gkW cI cZ cJ a S) sz) := by
  refine gm_w (QF := fun A => va_Qv post (gB D (tys cI cZ cJ) (gkW cI cZ cJ a) A) A) (cc := b_La_hold) (maxL := 3) (by decide) rfl (Nat.le_of_ble_eq_true rfl) ?_
  intro p e s m args below meth c A ls hx hb hr hts hown hmn hlk hml hK hA hw hl
  have hl : lv_has ls 3 [(0, .ref (a 6)), (1, .int p0), (2, .int p1)] := hl
  have hinLa : ∀ w ∈ u_ws R_La T_La 3, w ∈ ws_La_hold := fun w h => List.mem_cons_of_mem _ (tl_La w h)
  have hl9 := hts _ (List.mem_cons_of_mem _ tf_La_9)
  unfold wp_La_hold at hf
  refine lv_aload_n (pc := 0) hx hb d_La_hold_0 rfl (lv_at hl 0 rfl) ?_
  refine gk_gt_La_holders (pc := 1) hx hb hK hts hinLa hown hw.1 hl9 d_La_hold_1 ?_
  refine lv_iload_n (pc := 4) hx hb d_La_hold_4 rfl (lv_at hl 1 rfl) ?_
  refine lv_dup2_11 (pc := 5) hx hb d_La_hold_5 rfl rfl ?_
  refine gk_ld20 (pc := 6) (v := ((S.1 24) p0.toNatClampNeg)) hx hb hK hw.1 hf.1 rfl d_La_hold_6 ?_
  replace hf := hf.2
  refine lv_iconst (pc := 7) (v := 1) hx hb d_La_hold_7 (by decide) ?_
  refine lv_iload_n (pc := 8) hx hb d_La_hold_8 rfl (lv_at hl 2 rfl) ?_
  refine lv_ishl (pc := 9) hx hb d_La_hold_9 ?_
  refine lv_ior (pc := 10) hx hb d_La_hold_10 ?_
  refine gk_st20 (pc := 11) hx hb hK hw hf.1 d_La_hold_11 (fun H locs hw => ?_)
  replace hf := hf.2
  exact gr_v (pc := 12) hx hb hr hlk hK (gI S 24 (upd (S.1 24) (p0).toNatClampNeg (((S.1 24) p0.toNatClampNeg) ||| ((1 : Int32) <<< (p1 &&& 31))))) hw hf d_La_hold_12
def wp_La_turnLock (S : GS) (p0 : Int32) (post : GS → Prop) : Prop := (post (gI S 8 (fun _ => ((S.1 8 0) ^^^ ((1 : Int32) <<< (p0 &&& 31))))))
abbrev rm_La_turnLock : Room := { frames := 0, cells := 0, slots := 0, locals := 0 }
set_option maxHeartbeats 4000000 in
set_option maxRecDepth 100000 in
theorem c_La_turnLock (l : Launch) (D : va_G) (cI cZ cJ : ClassId) (a : Nat → Nat) (sz : Nat) (S : GS) (p0 : Int32) (post : GS → Prop) (hf : wp_La_turnLock S p0 post) : Met l y_La_turnLock ws_La_turnLock rm_La_turnLock (va_Pc [.ref (a 6), .int p0] (gPre D (tys cI cZ cJ) (gkW cI cZ cJ a S) sz)) (va_Qv post (gB D (tys cI cZ cJ) (gkW cI cZ cJ a) (va_A (gkW cI cZ cJ a S) sz)) (va_A (gkW cI cZ cJ a S) sz)) 0 0 (va_A (gkW cI cZ cJ a S) sz) := by
  refine gm_w (QF := fun A => va_Qv post (gB D (tys cI cZ cJ) (gkW cI cZ cJ a) A) A) (cc := b_La_turnLock) (maxL := 2) (by decide) rfl (Nat.le_of_ble_eq_true rfl) ?_
  intro p e s m args below meth c A ls hx hb hr hts hown hmn hlk hml hK hA hw hl
  have hl : lv_has ls 2 [(0, .ref (a 6)), (1, .int p0)] := hl
  have hinLa : ∀ w ∈ u_ws R_La T_La 3, w ∈ ws_La_turnLock := fun w h => List.mem_cons_of_mem _ (tl_La w h)
  have hl15 := hts _ (List.mem_cons_of_mem _ tf_La_15)
  unfold wp_La_turnLock at hf
  refine lv_aload_n (pc := 0) hx hb d_La_turnLock_0 rfl (lv_at hl 0 rfl) ?_
  refine lv_dup (pc := 1) hx hb d_La_turnLock_1 rfl ?_
  refine gk_gt_La_locked (pc := 2) (v := (S.1 8 0)) hx hb hK hts hinLa hown hw.1 hl15 rfl d_La_turnLock_2 ?_
  refine lv_iconst (pc := 5) (v := 1) hx hb d_La_turnLock_5 (by decide) ?_
  refine lv_iload_n (pc := 6) hx hb d_La_turnLock_6 rfl (lv_at hl 1 rfl) ?_
  refine lv_ishl (pc := 7) hx hb d_La_turnLock_7 ?_
  refine lv_ixor (pc := 8) hx hb d_La_turnLock_8 ?_
  refine gk_pt_La_locked (pc := 9) hx hb hK hts hinLa hown hw hl15 d_La_turnLock_9 (fun H locs hw => ?_)
  exact gr_v (pc := 12) hx hb hr hlk hK (gI S 8 (fun _ => ((S.1 8 0) ^^^ ((1 : Int32) <<< (p0 &&& 31))))) hw hf d_La_turnLock_12
def wp_La_arm (S : GS) (p0 : Int32) (post : GS → Prop) : Prop := (post (gI S 9 (fun _ => ((S.1 9 0) ||| ((1 : Int32) <<< (p0 &&& 31))))))
abbrev rm_La_arm : Room := { frames := 0, cells := 0, slots := 0, locals := 0 }
set_option maxHeartbeats 4000000 in
set_option maxRecDepth 100000 in
theorem c_La_arm (l : Launch) (D : va_G) (cI cZ cJ : ClassId) (a : Nat → Nat) (sz : Nat) (S : GS) (p0 : Int32) (post : GS → Prop) (hf : wp_La_arm S p0 post) : Met l y_La_arm ws_La_arm rm_La_arm (va_Pc [.ref (a 6), .int p0] (gPre D (tys cI cZ cJ) (gkW cI cZ cJ a S) sz)) (va_Qv post (gB D (tys cI cZ cJ) (gkW cI cZ cJ a) (va_A (gkW cI cZ cJ a S) sz)) (va_A (gkW cI cZ cJ a S) sz)) 0 0 (va_A (gkW cI cZ cJ a S) sz) := by
  refine gm_w (QF := fun A => va_Qv post (gB D (tys cI cZ cJ) (gkW cI cZ cJ a) A) A) (cc := b_La_arm) (maxL := 2) (by decide) rfl (Nat.le_of_ble_eq_true rfl) ?_
  intro p e s m args below meth c A ls hx hb hr hts hown hmn hlk hml hK hA hw hl
  have hl : lv_has ls 2 [(0, .ref (a 6)), (1, .int p0)] := hl
  have hinLa : ∀ w ∈ u_ws R_La T_La 3, w ∈ ws_La_arm := fun w h => List.mem_cons_of_mem _ (tl_La w h)
  have hl19 := hts _ (List.mem_cons_of_mem _ tf_La_19)
  unfold wp_La_arm at hf
  refine lv_aload_n (pc := 0) hx hb d_La_arm_0 rfl (lv_at hl 0 rfl) ?_
  refine lv_dup (pc := 1) hx hb d_La_arm_1 rfl ?_
  refine gk_gt_La_armed (pc := 2) (v := (S.1 9 0)) hx hb hK hts hinLa hown hw.1 hl19 rfl d_La_arm_2 ?_
  refine lv_iconst (pc := 5) (v := 1) hx hb d_La_arm_5 (by decide) ?_
  refine lv_iload_n (pc := 6) hx hb d_La_arm_6 rfl (lv_at hl 1 rfl) ?_
  refine lv_ishl (pc := 7) hx hb d_La_arm_7 ?_
  refine lv_ior (pc := 8) hx hb d_La_arm_8 ?_
  refine gk_pt_La_armed (pc := 9) hx hb hK hts hinLa hown hw hl19 d_La_arm_9 (fun H locs hw => ?_)
  exact gr_v (pc := 12) hx hb hr hlk hK (gI S 9 (fun _ => ((S.1 9 0) ||| ((1 : Int32) <<< (p0 &&& 31))))) hw hf d_La_arm_12
def wp_Km_b (S : GS) (p0 : Int32) (p1 : Int32) (post : Int32 → Prop) : Prop := ((p0 = (-1 : Int32) → (post (0 : Int32))) ∧ (¬ p0 = (-1 : Int32) → (vp_in ((p0 * (24 : Int32)) + p1) 96 ∧ (post ((S.1 20) ((p0 * (24 : Int32)) + p1).toNatClampNeg)))))
abbrev rm_Km_b : Room := { frames := 0, cells := 0, slots := 0, locals := 0 }
set_option maxHeartbeats 4000000 in
set_option maxRecDepth 100000 in
theorem c_Km_b (l : Launch) (D : va_G) (cI cZ cJ : ClassId) (a : Nat → Nat) (S : GS) (p0 : Int32) (p1 : Int32) (post : Int32 → Prop) (hf : wp_Km_b S p0 p1 post) : Met l y_Km_b ws_Km_b rm_Km_b (va_Pc [.ref (a 4), .int p0, .int p1] (rPre D (tys cI cZ cJ) (gkW cI cZ cJ a S))) (vp_Si post) 0 0 (fun _ => False) := by
  refine gm_r (cc := b_Km_b) (maxL := 3) (by decide) rfl (Nat.le_of_ble_eq_true rfl) ?_
  intro p e s m args below meth c ls hx hb hr hts hown hlk hml hK hP hl
  have hl : lv_has ls 3 [(0, .ref (a 4)), (1, .int p0), (2, .int p1)] := hl
  have hinKm : ∀ w ∈ u_ws R_Km T_Km 4, w ∈ ws_Km_b := fun w h => List.mem_cons_of_mem _ (tl_Km w h)
  have hl18 := hts _ (List.mem_cons_of_mem _ tf_Km_18)
  unfold wp_Km_b at hf
  refine lv_iload_n (pc := 0) hx hb d_Km_b_0 rfl (lv_at hl 1 rfl) ?_
  refine lv_iconst (pc := 1) (v := -1) hx hb d_Km_b_1 (by decide) ?_
  refine lv_icmp_ne (pc := 2) (tgt := 9) hx hb d_Km_b_2 (by decide) (fun hc => ?_) (fun hc => ?_)
  · replace hf := hf.2 hc
    refine lv_aload_n (pc := 9) hx hb d_Km_b_9 rfl (lv_at hl 0 rfl) ?_
    refine gk_gt_Km_seconds (pc := 10) hx hb hK hts hinKm hown hP hl18 d_Km_b_10 ?_
    refine lv_iload_n (pc := 13) hx hb d_Km_b_13 rfl (lv_at hl 1 rfl) ?_
    refine lv_bipush (pc := 14) (v := 24) hx hb d_Km_b_14 (by decide) ?_
    refine lv_imul (pc := 16) hx hb d_Km_b_16 ?_
    refine lv_iload_n (pc := 17) hx hb d_Km_b_17 rfl (lv_at hl 2 rfl) ?_
    refine lv_iadd (pc := 18) hx hb d_Km_b_18 ?_
    refine gk_ld16 (pc := 19) (v := ((S.1 20) ((p0 * (24 : Int32)) + p1).toNatClampNeg)) hx hb hK hP hf.1 rfl d_Km_b_19 ?_
    replace hf := hf.2
    exact rr_i (pc := 20) hx hb hr hlk hf d_Km_b_20
  replace hf := hf.1 hc
  refine lv_iconst (pc := 5) (v := 0) hx hb d_Km_b_5 (by decide) ?_
  refine lv_goto (pc := 6) (tgt := 20) hx hb d_Km_b_6 (by decide) ?_
  exact rr_i (pc := 20) hx hb hr hlk hf d_Km_b_20
def wp_Km_macroCode (S : GS) (p0 : Int32) (p1 : Int32) (post : Int32 → Prop) : Prop := (vp_in ((p0 * (4 : Int32)) + p1) 16 ∧ (post ((S.1 21) ((p0 * (4 : Int32)) + p1).toNatClampNeg)))
abbrev rm_Km_macroCode : Room := { frames := 0, cells := 0, slots := 0, locals := 0 }
set_option maxHeartbeats 4000000 in
set_option maxRecDepth 100000 in
theorem c_Km_macroCode (l : Launch) (D : va_G) (cI cZ cJ : ClassId) (a : Nat → Nat) (S : GS) (p0 : Int32) (p1 : Int32) (post : Int32 → Prop) (hf : wp_Km_macroCode S p0 p1 post) : Met l y_Km_macroCode ws_Km_macroCode rm_Km_macroCode (va_Pc [.ref (a 4), .int p0, .int p1] (rPre D (tys cI cZ cJ) (gkW cI cZ cJ a S))) (vp_Si post) 0 0 (fun _ => False) := by
  refine gm_r (cc := b_Km_macroCode) (maxL := 3) (by decide) rfl (Nat.le_of_ble_eq_true rfl) ?_
  intro p e s m args below meth c ls hx hb hr hts hown hlk hml hK hP hl
  have hl : lv_has ls 3 [(0, .ref (a 4)), (1, .int p0), (2, .int p1)] := hl
  have hinKm : ∀ w ∈ u_ws R_Km T_Km 4, w ∈ ws_Km_macroCode := fun w h => List.mem_cons_of_mem _ (tl_Km w h)
  have hl21 := hts _ (List.mem_cons_of_mem _ tf_Km_21)
  unfold wp_Km_macroCode at hf
  refine lv_aload_n (pc := 0) hx hb d_Km_macroCode_0 rfl (lv_at hl 0 rfl) ?_
  refine gk_gt_Km_macroCodes (pc := 1) hx hb hK hts hinKm hown hP hl21 d_Km_macroCode_1 ?_
  refine lv_iload_n (pc := 4) hx hb d_Km_macroCode_4 rfl (lv_at hl 1 rfl) ?_
  refine lv_iconst (pc := 5) (v := 4) hx hb d_Km_macroCode_5 (by decide) ?_
  refine lv_imul (pc := 6) hx hb d_Km_macroCode_6 ?_
  refine lv_iload_n (pc := 7) hx hb d_Km_macroCode_7 rfl (lv_at hl 2 rfl) ?_
  refine lv_iadd (pc := 8) hx hb d_Km_macroCode_8 ?_
  refine gk_ld17 (pc := 9) (v := ((S.1 21) ((p0 * (4 : Int32)) + p1).toNatClampNeg)) hx hb hK hP hf.1 rfl d_Km_macroCode_9 ?_
  replace hf := hf.2
  exact rr_i (pc := 10) hx hb hr hlk hf d_Km_macroCode_10
def wp_Re_takeOldest (S : GS) (post : Int32 → GS → Prop) : Prop := (((S.1 11 0) = (0 : Int32) → (post (0 : Int32) S)) ∧ (¬ (S.1 11 0) = (0 : Int32) → (vp_in (S.1 10 0) 8 ∧ (((S.1 12 0) = (0 : Int32) → (post (1 : Int32) (gI (gI (gL S 1 (fun _ => ((S.2 2) (S.1 10 0).toNatClampNeg))) 10 (fun _ => (((S.1 10 0) + (1 : Int32)) - ((S.1 10 0) + (1 : Int32)) / (8 : Int32) * (8 : Int32)))) 11 (fun _ => ((S.1 11 0) - (1 : Int32)))))) ∧ (¬ (S.1 12 0) = (0 : Int32) → (wp_Re_packed (gI (gI (gI (gL S 1 (fun _ => ((S.2 2) (S.1 10 0).toNatClampNeg))) 10 (fun _ => (((S.1 10 0) + (1 : Int32)) - ((S.1 10 0) + (1 : Int32)) / (8 : Int32) * (8 : Int32)))) 11 (fun _ => ((S.1 11 0) - (1 : Int32)))) 12 (fun _ => (0 : Int32))) (fun r59 => (wp_Re_putIfOther (gI (gI (gI (gL S 1 (fun _ => ((S.2 2) (S.1 10 0).toNatClampNeg))) 10 (fun _ => (((S.1 10 0) + (1 : Int32)) - ((S.1 10 0) + (1 : Int32)) / (8 : Int32) * (8 : Int32)))) 11 (fun _ => ((S.1 11 0) - (1 : Int32)))) 12 (fun _ => (0 : Int32))) r59 (fun S62 => (post (1 : Int32) S62))))))))))
abbrev rm_Re_takeOldest : Room := { frames := 1, cells := 0, slots := 0, locals := 29 }
set_option maxHeartbeats 4000000 in
set_option maxRecDepth 100000 in
theorem c_Re_takeOldest (l : Launch) (D : va_G) (cI cZ cJ : ClassId) (a : Nat → Nat) (sz : Nat) (S : GS) (post : Int32 → GS → Prop) (hf : wp_Re_takeOldest S post) : Met l y_Re_takeOldest ws_Re_takeOldest rm_Re_takeOldest (va_Pc [.ref (a 8)] (gPre D (tys cI cZ cJ) (gkW cI cZ cJ a S) sz)) (va_Qi post (gB D (tys cI cZ cJ) (gkW cI cZ cJ a) (va_A (gkW cI cZ cJ a S) sz)) (va_A (gkW cI cZ cJ a S) sz)) 0 0 (va_A (gkW cI cZ cJ a S) sz) := by
  refine gm_w (QF := fun A => va_Qi post (gB D (tys cI cZ cJ) (gkW cI cZ cJ a) A) A) (cc := b_Re_takeOldest) (maxL := 1) (by decide) rfl (Nat.le_of_ble_eq_true rfl) ?_
  intro p e s m args below meth c A ls hx hb hr hts hown hmn hlk hml hK hA hw hl
  have hl : lv_has ls 1 [(0, .ref (a 8))] := hl
  have hinRe : ∀ w ∈ u_ws R_Re T_Re 7, w ∈ ws_Re_takeOldest := fun w h => List.mem_cons_of_mem _ (tl_Re w h)
  have hl15 := hts _ (List.mem_cons_of_mem _ tf_Re_15)
  have hl19 := hts _ (List.mem_cons_of_mem _ tf_Re_19)
  have hl23 := hts _ (List.mem_cons_of_mem _ tf_Re_23)
  have hl35 := hts _ (List.mem_cons_of_mem _ tf_Re_35)
  have hl38 := hts _ (List.mem_cons_of_mem _ tf_Re_38)
  unfold wp_Re_takeOldest at hf
  refine lv_aload_n (pc := 0) hx hb d_Re_takeOldest_0 rfl (lv_at hl 0 rfl) ?_
  refine gk_gt_Re_stored (pc := 1) (v := (S.1 11 0)) hx hb hK hts hinRe hown hw.1 hl19 rfl d_Re_takeOldest_1 ?_
  refine lv_if_ne (pc := 4) (tgt := 9) hx hb d_Re_takeOldest_4 (by decide) (fun hc => ?_) (fun hc => ?_)
  · replace hf := hf.2 hc
    refine lv_aload_n (pc := 9) hx hb d_Re_takeOldest_9 rfl (lv_at hl 0 rfl) ?_
    refine lv_aload_n (pc := 10) hx hb d_Re_takeOldest_10 rfl (lv_at hl 0 rfl) ?_
    refine gk_gt_Re_store (pc := 11) hx hb hK hts hinRe hown hw.1 hl15 d_Re_takeOldest_11 ?_
    refine lv_aload_n (pc := 14) hx hb d_Re_takeOldest_14 rfl (lv_at hl 0 rfl) ?_
    refine gk_gt_Re_oldest (pc := 15) (v := (S.1 10 0)) hx hb hK hts hinRe hown hw.1 hl35 rfl d_Re_takeOldest_15 ?_
    refine gk_ld24 (pc := 18) (v := ((S.2 2) (S.1 10 0).toNatClampNeg)) hx hb hK hw.1 hf.1 rfl d_Re_takeOldest_18 ?_
    replace hf := hf.2
    refine gk_pt_Re_taken (pc := 19) hx hb hK hts hinRe hown hw hl38 d_Re_takeOldest_19 (fun H locs hw => ?_)
    refine lv_aload_n (pc := 22) hx hb d_Re_takeOldest_22 rfl (lv_at hl 0 rfl) ?_
    refine lv_aload_n (pc := 23) hx hb d_Re_takeOldest_23 rfl (lv_at hl 0 rfl) ?_
    refine gk_gt_Re_oldest (pc := 24) (v := (S.1 10 0)) hx hb hK hts hinRe hown hw.1 hl35 rfl d_Re_takeOldest_24 ?_
    refine lv_iconst (pc := 27) (v := 1) hx hb d_Re_takeOldest_27 (by decide) ?_
    refine lv_iadd (pc := 28) hx hb d_Re_takeOldest_28 ?_
    refine lv_bipush (pc := 29) (v := 8) hx hb d_Re_takeOldest_29 (by decide) ?_
    refine lv_irem (pc := 31) hx hb d_Re_takeOldest_31 (by decide) ?_
    refine gk_pt_Re_oldest (pc := 32) hx hb hK hts hinRe hown hw hl35 d_Re_takeOldest_32 (fun H locs hw => ?_)
    refine lv_aload_n (pc := 35) hx hb d_Re_takeOldest_35 rfl (lv_at hl 0 rfl) ?_
    refine lv_dup (pc := 36) hx hb d_Re_takeOldest_36 rfl ?_
    refine gk_gt_Re_stored (pc := 37) (v := (S.1 11 0)) hx hb hK hts hinRe hown hw.1 hl19 rfl d_Re_takeOldest_37 ?_
    refine lv_iconst (pc := 40) (v := 1) hx hb d_Re_takeOldest_40 (by decide) ?_
    refine lv_isub (pc := 41) hx hb d_Re_takeOldest_41 ?_
    refine gk_pt_Re_stored (pc := 42) hx hb hK hts hinRe hown hw hl19 d_Re_takeOldest_42 (fun H locs hw => ?_)
    refine lv_aload_n (pc := 45) hx hb d_Re_takeOldest_45 rfl (lv_at hl 0 rfl) ?_
    refine gk_gt_Re_late (pc := 46) (v := (S.1 12 0)) hx hb hK hts hinRe hown hw.1 hl23 rfl d_Re_takeOldest_46 ?_
    refine lv_if_eq (pc := 49) (tgt := 65) hx hb d_Re_takeOldest_49 (by decide) (fun hc => ?_) (fun hc => ?_)
    · replace hf := hf.1 hc
      refine lv_iconst (pc := 65) (v := 1) hx hb d_Re_takeOldest_65 (by decide) ?_
      exact gr_z (pc := 66) hx hb hr hlk hK (gI (gI (gL S 1 (fun _ => ((S.2 2) (S.1 10 0).toNatClampNeg))) 10 (fun _ => (((S.1 10 0) + (1 : Int32)) - ((S.1 10 0) + (1 : Int32)) / (8 : Int32) * (8 : Int32)))) 11 (fun _ => ((S.1 11 0) - (1 : Int32)))) hw (by decide) hf d_Re_takeOldest_66
    replace hf := hf.2 hc
    refine lv_aload_n (pc := 52) hx hb d_Re_takeOldest_52 rfl (lv_at hl 0 rfl) ?_
    refine lv_iconst (pc := 53) (v := 0) hx hb d_Re_takeOldest_53 (by decide) ?_
    refine gk_pt_Re_late (pc := 54) hx hb hK hts hinRe hown hw hl23 (by decide) (by decide) d_Re_takeOldest_54 (fun H locs hw => ?_)
    refine lv_aload_n (pc := 57) hx hb d_Re_takeOldest_57 rfl (lv_at hl 0 rfl) ?_
    refine lv_aload_n (pc := 58) hx hb d_Re_takeOldest_58 rfl (lv_at hl 0 rfl) ?_
    refine vp_callSl (pc := 59) (W.runV (As := []) (rest := [.ref (a 8)]) ⟨hx, hb, hml, hown, hts⟩ (c_Re_packed l D cI cZ cJ a _ _ hf) (cwV 0 hts (tb_wsV tc_Re_packed tm_Re_27 ti_Re_packed te_Re_packed tz_Re) rfl rfl rfl (by decide +kernel) ⟨Nat.le_of_ble_eq_true rfl, Nat.le_of_ble_eq_true rfl⟩) (r_preV (q0 := 8) (ci := 8) hK hw.1 rfl rfl) rfl rfl hl.1 rfl (lv_room (Nat.le_of_ble_eq_true rfl)) d_Re_takeOldest_59 ⟨Nat.zero_le _, Nat.zero_le _⟩) (fun r59 hf => ?_)
    refine gc_v (pc := 62) (Wf := gkW cI cZ cJ a) hw hA (va_runV (As := [.long r59]) (rest := []) ⟨hx, hb, hml, hown, hts⟩ (c_Re_putIfOther l D cI cZ cJ a _ _ _ _ hf) (cwV 1 hts (tb_wsV tc_Re_putIfOther tm_Re_31 ti_Re_putIfOther te_Re_putIfOther tz_Re) rfl rfl rfl (by decide +kernel) ⟨Nat.le_of_ble_eq_true rfl, Nat.le_of_ble_eq_true rfl⟩) (g_preV (q0 := 8) (ci := 8) hK hw rfl rfl) rfl rfl hl.1 rfl (lv_room (Nat.le_of_ble_eq_true rfl)) d_Re_takeOldest_62 ⟨Nat.zero_le _, Nat.zero_le _⟩) (fun S62 H locs hw hf => ?_)
    refine lv_iconst (pc := 65) (v := 1) hx hb d_Re_takeOldest_65 (by decide) ?_
    exact gr_z (pc := 66) hx hb hr hlk hK S62 hw (by decide) hf d_Re_takeOldest_66
  replace hf := hf.1 hc
  refine lv_iconst (pc := 7) (v := 0) hx hb d_Re_takeOldest_7 (by decide) ?_
  exact gr_z (pc := 8) hx hb hr hlk hK S hw (by decide) hf d_Re_takeOldest_8
def wp_Re_partOfTaken (S : GS) (p0 : Int32) (post : Int32 → Prop) : Prop := ((p0 < (0 : Int32) → (post (-1 : Int32))) ∧ (¬ p0 < (0 : Int32) → ((p0 ≤ (6 : Int32) → ((p0 = (0 : Int32) → (post ((S.2 1 0) &&& (255 : Int64)).toInt32)) ∧ (¬ p0 = (0 : Int32) → (post (((S.2 1 0) >>> (((8 : Int32) + ((7 : Int32) * (p0 - (1 : Int32)))).toInt64 &&& 63)) &&& (127 : Int64)).toInt32)))) ∧ (¬ p0 ≤ (6 : Int32) → (post (-1 : Int32))))))
abbrev rm_Re_partOfTaken : Room := { frames := 0, cells := 0, slots := 0, locals := 0 }
set_option maxHeartbeats 4000000 in
set_option maxRecDepth 100000 in
theorem c_Re_partOfTaken (l : Launch) (D : va_G) (cI cZ cJ : ClassId) (a : Nat → Nat) (S : GS) (p0 : Int32) (post : Int32 → Prop) (hf : wp_Re_partOfTaken S p0 post) : Met l y_Re_partOfTaken ws_Re_partOfTaken rm_Re_partOfTaken (va_Pc [.ref (a 8), .int p0] (rPre D (tys cI cZ cJ) (gkW cI cZ cJ a S))) (vp_Si post) 0 0 (fun _ => False) := by
  refine gm_r (cc := b_Re_partOfTaken) (maxL := 3) (by decide) rfl (Nat.le_of_ble_eq_true rfl) ?_
  intro p e s m args below meth c ls hx hb hr hts hown hlk hml hK hP hl
  have hl : lv_has ls 3 [(0, .ref (a 8)), (1, .int p0)] := hl
  have hinRe : ∀ w ∈ u_ws R_Re T_Re 7, w ∈ ws_Re_partOfTaken := fun w h => List.mem_cons_of_mem _ (tl_Re w h)
  have hl38 := hts _ (List.mem_cons_of_mem _ tf_Re_38)
  unfold wp_Re_partOfTaken at hf
  refine lv_iload_n (pc := 0) hx hb d_Re_partOfTaken_0 rfl (lv_at hl 1 rfl) ?_
  refine lv_if_lt (pc := 1) (tgt := 10) hx hb d_Re_partOfTaken_1 (by decide) (fun hc => ?_) (fun hc => ?_)
  · replace hf := hf.1 hc
    refine lv_iconst (pc := 10) (v := -1) hx hb d_Re_partOfTaken_10 (by decide) ?_
    exact rr_i (pc := 11) hx hb hr hlk hf d_Re_partOfTaken_11
  replace hf := hf.2 hc
  refine lv_iload_n (pc := 4) hx hb d_Re_partOfTaken_4 rfl (lv_at hl 1 rfl) ?_
  refine lv_bipush (pc := 5) (v := 6) hx hb d_Re_partOfTaken_5 (by decide) ?_
  refine lv_icmp_le (pc := 7) (tgt := 12) hx hb d_Re_partOfTaken_7 (by decide) (fun hc => ?_) (fun hc => ?_)
  · replace hf := hf.1 hc
    refine lv_iload_n (pc := 12) hx hb d_Re_partOfTaken_12 rfl (lv_at hl 1 rfl) ?_
    refine lv_if_ne (pc := 13) (tgt := 26) hx hb d_Re_partOfTaken_13 (by decide) (fun hc => ?_) (fun hc => ?_)
    · replace hf := hf.2 hc
      refine lv_bipush (pc := 26) (v := 8) hx hb d_Re_partOfTaken_26 (by decide) ?_
      refine lv_bipush (pc := 28) (v := 7) hx hb d_Re_partOfTaken_28 (by decide) ?_
      refine lv_iload_n (pc := 30) hx hb d_Re_partOfTaken_30 rfl (lv_at hl 1 rfl) ?_
      refine lv_iconst (pc := 31) (v := 1) hx hb d_Re_partOfTaken_31 (by decide) ?_
      refine lv_isub (pc := 32) hx hb d_Re_partOfTaken_32 ?_
      refine lv_imul (pc := 33) hx hb d_Re_partOfTaken_33 ?_
      refine lv_iadd (pc := 34) hx hb d_Re_partOfTaken_34 ?_
      refine lv_istore_n (pc := 35) (lv' := [(2, .int ((8 : Int32) + ((7 : Int32) * (p0 - (1 : Int32))))), (0, .ref (a 8)), (1, .int p0)]) hx hb d_Re_partOfTaken_35 rfl hl (by decide) rfl (fun ls hl => ?_)
      refine lv_aload_n (pc := 36) hx hb d_Re_partOfTaken_36 rfl (lv_at hl 1 rfl) ?_
      refine gk_gt_Re_taken (pc := 37) (v := (S.2 1 0)) hx hb hK hts hinRe hown hP hl38 rfl d_Re_partOfTaken_37 ?_
      refine lv_iload_n (pc := 40) hx hb d_Re_partOfTaken_40 rfl (lv_at hl 0 rfl) ?_
      refine lv_lshr (pc := 41) hx hb d_Re_partOfTaken_41 rfl ?_
      refine lv_ldc2 (pc := 42) hx hb hown (hts _ (List.mem_cons_of_mem _ tk_Re_44)) d_Re_partOfTaken_42 ?_
      refine lv_land (pc := 45) hx hb d_Re_partOfTaken_45 ?_
      refine lv_l2i (pc := 46) hx hb d_Re_partOfTaken_46 rfl ?_
      exact rr_i (pc := 47) hx hb hr hlk hf d_Re_partOfTaken_47
    replace hf := hf.1 hc
    refine lv_aload_n (pc := 16) hx hb d_Re_partOfTaken_16 rfl (lv_at hl 0 rfl) ?_
    refine gk_gt_Re_taken (pc := 17) (v := (S.2 1 0)) hx hb hK hts hinRe hown hP hl38 rfl d_Re_partOfTaken_17 ?_
    refine lv_ldc2 (pc := 20) hx hb hown (hts _ (List.mem_cons_of_mem _ tk_Re_42)) d_Re_partOfTaken_20 ?_
    refine lv_land (pc := 23) hx hb d_Re_partOfTaken_23 ?_
    refine lv_l2i (pc := 24) hx hb d_Re_partOfTaken_24 rfl ?_
    exact rr_i (pc := 25) hx hb hr hlk hf d_Re_partOfTaken_25
  replace hf := hf.2 hc
  refine lv_iconst (pc := 10) (v := -1) hx hb d_Re_partOfTaken_10 (by decide) ?_
  exact rr_i (pc := 11) hx hb hr hlk hf d_Re_partOfTaken_11
def wp_Re_stored (S : GS) (post : Int32 → Prop) : Prop := (post (S.1 11 0))
abbrev rm_Re_stored : Room := { frames := 0, cells := 0, slots := 0, locals := 0 }
set_option maxHeartbeats 4000000 in
set_option maxRecDepth 100000 in
theorem c_Re_stored (l : Launch) (D : va_G) (cI cZ cJ : ClassId) (a : Nat → Nat) (S : GS) (post : Int32 → Prop) (hf : wp_Re_stored S post) : Met l y_Re_stored ws_Re_stored rm_Re_stored (va_Pc [.ref (a 8)] (rPre D (tys cI cZ cJ) (gkW cI cZ cJ a S))) (vp_Si post) 0 0 (fun _ => False) := by
  refine gm_r (cc := b_Re_stored) (maxL := 1) (by decide) rfl (Nat.le_of_ble_eq_true rfl) ?_
  intro p e s m args below meth c ls hx hb hr hts hown hlk hml hK hP hl
  have hl : lv_has ls 1 [(0, .ref (a 8))] := hl
  have hinRe : ∀ w ∈ u_ws R_Re T_Re 7, w ∈ ws_Re_stored := fun w h => List.mem_cons_of_mem _ (tl_Re w h)
  have hl19 := hts _ (List.mem_cons_of_mem _ tf_Re_19)
  unfold wp_Re_stored at hf
  refine lv_aload_n (pc := 0) hx hb d_Re_stored_0 rfl (lv_at hl 0 rfl) ?_
  refine gk_gt_Re_stored (pc := 1) (v := (S.1 11 0)) hx hb hK hts hinRe hown hP hl19 rfl d_Re_stored_1 ?_
  exact rr_i (pc := 4) hx hb hr hlk hf d_Re_stored_4
def wp_Re_isLate (S : GS) (post : Int32 → Prop) : Prop := (narrow .boolean (.int (S.1 12 0)) = .int (S.1 12 0) ∧ (post (S.1 12 0)))
abbrev rm_Re_isLate : Room := { frames := 0, cells := 0, slots := 0, locals := 0 }
set_option maxHeartbeats 4000000 in
set_option maxRecDepth 100000 in
theorem c_Re_isLate (l : Launch) (D : va_G) (cI cZ cJ : ClassId) (a : Nat → Nat) (S : GS) (post : Int32 → Prop) (hf : wp_Re_isLate S post) : Met l y_Re_isLate ws_Re_isLate rm_Re_isLate (va_Pc [.ref (a 8)] (rPre D (tys cI cZ cJ) (gkW cI cZ cJ a S))) (vp_Si post) 0 0 (fun _ => False) := by
  refine gm_r (cc := b_Re_isLate) (maxL := 1) (by decide) rfl (Nat.le_of_ble_eq_true rfl) ?_
  intro p e s m args below meth c ls hx hb hr hts hown hlk hml hK hP hl
  have hl : lv_has ls 1 [(0, .ref (a 8))] := hl
  have hinRe : ∀ w ∈ u_ws R_Re T_Re 7, w ∈ ws_Re_isLate := fun w h => List.mem_cons_of_mem _ (tl_Re w h)
  have hl23 := hts _ (List.mem_cons_of_mem _ tf_Re_23)
  unfold wp_Re_isLate at hf
  refine lv_aload_n (pc := 0) hx hb d_Re_isLate_0 rfl (lv_at hl 0 rfl) ?_
  refine gk_gt_Re_late (pc := 1) (v := (S.1 12 0)) hx hb hK hts hinRe hown hP hl23 rfl d_Re_isLate_1 ?_
  exact rr_z (pc := 4) hx hb hr hlk hf.1 hf.2 d_Re_isLate_4
def wp_Km_setAction (S : GS) (p0 : Int32) (p1 : Int32) (p2 : Int32) (p3 : Int32) (p4 : Int32) (post : GS → Prop) : Prop := (vp_in ((p0 * (24 : Int32)) + p1) 96 ∧ (vp_in ((p0 * (24 : Int32)) + p1) 96 ∧ (vp_in ((p0 * (24 : Int32)) + p1) 96 ∧ (post (gI (gI (gI S 18 (upd (S.1 18) (((p0 * (24 : Int32)) + p1)).toNatClampNeg p2)) 19 (upd (S.1 19) (((p0 * (24 : Int32)) + p1)).toNatClampNeg p3)) 20 (upd (S.1 20) (((p0 * (24 : Int32)) + p1)).toNatClampNeg p4))))))
abbrev rm_Km_setAction : Room := { frames := 0, cells := 0, slots := 0, locals := 0 }
set_option maxHeartbeats 4000000 in
set_option maxRecDepth 100000 in
theorem c_Km_setAction (l : Launch) (D : va_G) (cI cZ cJ : ClassId) (a : Nat → Nat) (sz : Nat) (S : GS) (p0 : Int32) (p1 : Int32) (p2 : Int32) (p3 : Int32) (p4 : Int32) (post : GS → Prop) (hf : wp_Km_setAction S p0 p1 p2 p3 p4 post) : Met l y_Km_setAction ws_Km_setAction rm_Km_setAction (va_Pc [.ref (a 4), .int p0, .int p1, .int p2, .int p3, .int p4] (gPre D (tys cI cZ cJ) (gkW cI cZ cJ a S) sz)) (va_Qv post (gB D (tys cI cZ cJ) (gkW cI cZ cJ a) (va_A (gkW cI cZ cJ a S) sz)) (va_A (gkW cI cZ cJ a S) sz)) 0 0 (va_A (gkW cI cZ cJ a S) sz) := by
  refine gm_w (QF := fun A => va_Qv post (gB D (tys cI cZ cJ) (gkW cI cZ cJ a) A) A) (cc := b_Km_setAction) (maxL := 7) (by decide) rfl (Nat.le_of_ble_eq_true rfl) ?_
  intro p e s m args below meth c A ls hx hb hr hts hown hmn hlk hml hK hA hw hl
  have hl : lv_has ls 7 [(0, .ref (a 4)), (1, .int p0), (2, .int p1), (3, .int p2), (4, .int p3), (5, .int p4)] := hl
  have hinKm : ∀ w ∈ u_ws R_Km T_Km 4, w ∈ ws_Km_setAction := fun w h => List.mem_cons_of_mem _ (tl_Km w h)
  have hl9 := hts _ (List.mem_cons_of_mem _ tf_Km_9)
  have hl15 := hts _ (List.mem_cons_of_mem _ tf_Km_15)
  have hl18 := hts _ (List.mem_cons_of_mem _ tf_Km_18)
  unfold wp_Km_setAction at hf
  refine lv_iload_n (pc := 0) hx hb d_Km_setAction_0 rfl (lv_at hl 1 rfl) ?_
  refine lv_bipush (pc := 1) (v := 24) hx hb d_Km_setAction_1 (by decide) ?_
  refine lv_imul (pc := 3) hx hb d_Km_setAction_3 ?_
  refine lv_iload_n (pc := 4) hx hb d_Km_setAction_4 rfl (lv_at hl 2 rfl) ?_
  refine lv_iadd (pc := 5) hx hb d_Km_setAction_5 ?_
  refine lv_istore (pc := 6) (lv' := [(6, .int ((p0 * (24 : Int32)) + p1)), (0, .ref (a 4)), (1, .int p0), (2, .int p1), (3, .int p2), (4, .int p3), (5, .int p4)]) hx hb d_Km_setAction_6 hl (by decide) rfl (fun ls hl => ?_)
  refine lv_aload_n (pc := 8) hx hb d_Km_setAction_8 rfl (lv_at hl 1 rfl) ?_
  refine gk_gt_Km_kinds (pc := 9) hx hb hK hts hinKm hown hw.1 hl9 d_Km_setAction_9 ?_
  refine lv_iload (pc := 12) hx hb d_Km_setAction_12 (lv_at hl 0 rfl) ?_
  refine lv_iload_n (pc := 14) hx hb d_Km_setAction_14 rfl (lv_at hl 4 rfl) ?_
  refine gk_st14 (pc := 15) hx hb hK hw hf.1 d_Km_setAction_15 (fun H locs hw => ?_)
  replace hf := hf.2
  refine lv_aload_n (pc := 16) hx hb d_Km_setAction_16 rfl (lv_at hl 1 rfl) ?_
  refine gk_gt_Km_firsts (pc := 17) hx hb hK hts hinKm hown hw.1 hl15 d_Km_setAction_17 ?_
  refine lv_iload (pc := 20) hx hb d_Km_setAction_20 (lv_at hl 0 rfl) ?_
  refine lv_iload (pc := 22) hx hb d_Km_setAction_22 (lv_at hl 5 rfl) ?_
  refine gk_st15 (pc := 24) hx hb hK hw hf.1 d_Km_setAction_24 (fun H locs hw => ?_)
  replace hf := hf.2
  have hw : wf D A s.heap (gkW cI cZ cJ a (gI (gI S 18 (upd (S.1 18) (((p0 * (24 : Int32)) + p1)).toNatClampNeg p2)) 19 (upd (S.1 19) (((p0 * (24 : Int32)) + p1)).toNatClampNeg p3))) H locs := hw
  refine lv_aload_n (pc := 25) hx hb d_Km_setAction_25 rfl (lv_at hl 1 rfl) ?_
  refine gk_gt_Km_seconds (pc := 26) hx hb hK hts hinKm hown hw.1 hl18 d_Km_setAction_26 ?_
  refine lv_iload (pc := 29) hx hb d_Km_setAction_29 (lv_at hl 0 rfl) ?_
  refine lv_iload (pc := 31) hx hb d_Km_setAction_31 (lv_at hl 6 rfl) ?_
  refine gk_st16 (pc := 33) hx hb hK hw hf.1 d_Km_setAction_33 (fun H locs hw => ?_)
  replace hf := hf.2
  have hw : wf D A s.heap (gkW cI cZ cJ a (gI (gI (gI S 18 (upd (S.1 18) (((p0 * (24 : Int32)) + p1)).toNatClampNeg p2)) 19 (upd (S.1 19) (((p0 * (24 : Int32)) + p1)).toNatClampNeg p3)) 20 (upd (S.1 20) (((p0 * (24 : Int32)) + p1)).toNatClampNeg p4))) H locs := hw
  exact gr_v (pc := 34) hx hb hr hlk hK (gI (gI (gI S 18 (upd (S.1 18) (((p0 * (24 : Int32)) + p1)).toNatClampNeg p2)) 19 (upd (S.1 19) (((p0 * (24 : Int32)) + p1)).toNatClampNeg p3)) 20 (upd (S.1 20) (((p0 * (24 : Int32)) + p1)).toNatClampNeg p4)) hw hf d_Km_setAction_34
def wp_Km_setMacroCode (S : GS) (p0 : Int32) (p1 : Int32) (p2 : Int32) (post : GS → Prop) : Prop := (vp_in ((p0 * (4 : Int32)) + p1) 16 ∧ (post (gI S 21 (upd (S.1 21) (((p0 * (4 : Int32)) + p1)).toNatClampNeg p2))))
abbrev rm_Km_setMacroCode : Room := { frames := 0, cells := 0, slots := 0, locals := 0 }
set_option maxHeartbeats 4000000 in
set_option maxRecDepth 100000 in
theorem c_Km_setMacroCode (l : Launch) (D : va_G) (cI cZ cJ : ClassId) (a : Nat → Nat) (sz : Nat) (S : GS) (p0 : Int32) (p1 : Int32) (p2 : Int32) (post : GS → Prop) (hf : wp_Km_setMacroCode S p0 p1 p2 post) : Met l y_Km_setMacroCode ws_Km_setMacroCode rm_Km_setMacroCode (va_Pc [.ref (a 4), .int p0, .int p1, .int p2] (gPre D (tys cI cZ cJ) (gkW cI cZ cJ a S) sz)) (va_Qv post (gB D (tys cI cZ cJ) (gkW cI cZ cJ a) (va_A (gkW cI cZ cJ a S) sz)) (va_A (gkW cI cZ cJ a S) sz)) 0 0 (va_A (gkW cI cZ cJ a S) sz) := by
  refine gm_w (QF := fun A => va_Qv post (gB D (tys cI cZ cJ) (gkW cI cZ cJ a) A) A) (cc := b_Km_setMacroCode) (maxL := 4) (by decide) rfl (Nat.le_of_ble_eq_true rfl) ?_
  intro p e s m args below meth c A ls hx hb hr hts hown hmn hlk hml hK hA hw hl
  have hl : lv_has ls 4 [(0, .ref (a 4)), (1, .int p0), (2, .int p1), (3, .int p2)] := hl
  have hinKm : ∀ w ∈ u_ws R_Km T_Km 4, w ∈ ws_Km_setMacroCode := fun w h => List.mem_cons_of_mem _ (tl_Km w h)
  have hl21 := hts _ (List.mem_cons_of_mem _ tf_Km_21)
  unfold wp_Km_setMacroCode at hf
  refine lv_aload_n (pc := 0) hx hb d_Km_setMacroCode_0 rfl (lv_at hl 0 rfl) ?_
  refine gk_gt_Km_macroCodes (pc := 1) hx hb hK hts hinKm hown hw.1 hl21 d_Km_setMacroCode_1 ?_
  refine lv_iload_n (pc := 4) hx hb d_Km_setMacroCode_4 rfl (lv_at hl 1 rfl) ?_
  refine lv_iconst (pc := 5) (v := 4) hx hb d_Km_setMacroCode_5 (by decide) ?_
  refine lv_imul (pc := 6) hx hb d_Km_setMacroCode_6 ?_
  refine lv_iload_n (pc := 7) hx hb d_Km_setMacroCode_7 rfl (lv_at hl 2 rfl) ?_
  refine lv_iadd (pc := 8) hx hb d_Km_setMacroCode_8 ?_
  refine lv_iload_n (pc := 9) hx hb d_Km_setMacroCode_9 rfl (lv_at hl 3 rfl) ?_
  refine gk_st17 (pc := 10) hx hb hK hw hf.1 d_Km_setMacroCode_10 (fun H locs hw => ?_)
  replace hf := hf.2
  exact gr_v (pc := 11) hx hb hr hlk hK (gI S 21 (upd (S.1 21) (((p0 * (4 : Int32)) + p1)).toNatClampNeg p2)) hw hf d_Km_setMacroCode_11
def L_Ch_hasElsewhere_2 (S : GS) (post : Int32 → Prop) : Nat → Int32 → Int32 → Int32 → Prop
  | 0, _, _, _ => False
  | n2 + 1, x1, x2, x3 => (((4 : Int32) ≤ x3 → (post (0 : Int32))) ∧ (¬ (4 : Int32) ≤ x3 → ((x3 = x1 → (L_Ch_hasElsewhere_2 S post n2 x1 x2 (x3 + (1 : Int32)))) ∧ (¬ x3 = x1 → (vp_in x3 4 ∧ ((((S.1 22) x3.toNatClampNeg) = x2 → (post (1 : Int32))) ∧ (¬ ((S.1 22) x3.toNatClampNeg) = x2 → (L_Ch_hasElsewhere_2 S post n2 x1 x2 (x3 + (1 : Int32))))))))))
def wp_Ch_hasElsewhere (S : GS) (p0 : Int32) (p1 : Int32) (post : Int32 → Prop) : Prop := (∃ q2, L_Ch_hasElsewhere_2 S post q2 p0 p1 (0 : Int32))
abbrev rm_Ch_hasElsewhere : Room := { frames := 0, cells := 0, slots := 0, locals := 0 }
set_option maxHeartbeats 4000000 in
set_option maxRecDepth 100000 in
theorem c_Ch_hasElsewhere (l : Launch) (D : va_G) (cI cZ cJ : ClassId) (a : Nat → Nat) (S : GS) (p0 : Int32) (p1 : Int32) (post : Int32 → Prop) (hf : wp_Ch_hasElsewhere S p0 p1 post) : Met l y_Ch_hasElsewhere ws_Ch_hasElsewhere rm_Ch_hasElsewhere (va_Pc [.ref (a 5), .int p0, .int p1] (rPre D (tys cI cZ cJ) (gkW cI cZ cJ a S))) (vp_Si post) 0 0 (fun _ => False) := by
  refine gm_r (cc := b_Ch_hasElsewhere) (maxL := 4) (by decide) rfl (Nat.le_of_ble_eq_true rfl) ?_
  intro p e s m args below meth c ls hx hb hr hts hown hlk hml hK hP hl
  have hl : lv_has ls 4 [(0, .ref (a 5)), (1, .int p0), (2, .int p1)] := hl
  have hinCh : ∀ w ∈ u_ws R_Ch T_Ch 2, w ∈ ws_Ch_hasElsewhere := fun w h => List.mem_cons_of_mem _ (tl_Ch w h)
  have hl9 := hts _ (List.mem_cons_of_mem _ tf_Ch_9)
  unfold wp_Ch_hasElsewhere at hf
  refine lv_iconst (pc := 0) (v := 0) hx hb d_Ch_hasElsewhere_0 (by decide) ?_
  refine lv_istore_n (pc := 1) (lv' := [(3, .int (0 : Int32)), (0, .ref (a 5)), (1, .int p0), (2, .int p1)]) hx hb d_Ch_hasElsewhere_1 rfl hl (by decide) rfl (fun ls hl => ?_)
  obtain ⟨q2, hf⟩ := hf
  have lp2 : ∀ (n2 : Nat) (x1 : Int32) (x2 : Int32) (x3 : Int32) (ls : Array Slot), lv_has ls 4 [(0, .ref (a 5)), (1, .int x1), (2, .int x2), (3, .int x3)] → L_Ch_hasElsewhere_2 S post n2 x1 x2 x3 → W p l e rm_Ch_hasElsewhere s m args below meth c s.heap [] 0 0 (MQ below (vp_Si post) args s 0 0 (fun _ => False)) (F0 m 2 ls []) := by
    intro n2
    induction n2 with
    | zero => intro x1 x2 x3 ls hl hf; exact False.elim hf
    | succ n2 ih2 =>
      intro x1 x2 x3 ls hl hf
      unfold L_Ch_hasElsewhere_2 at hf
      refine lv_iload_n (pc := 2) hx hb d_Ch_hasElsewhere_2 rfl (lv_at hl 3 rfl) ?_
      refine lv_iconst (pc := 3) (v := 4) hx hb d_Ch_hasElsewhere_3 (by decide) ?_
      refine lv_icmp_ge (pc := 4) (tgt := 30) hx hb d_Ch_hasElsewhere_4 (by decide) (fun hc => ?_) (fun hc => ?_)
      · replace hf := hf.1 hc
        refine lv_iconst (pc := 30) (v := 0) hx hb d_Ch_hasElsewhere_30 (by decide) ?_
        exact rr_z (pc := 31) hx hb hr hlk (by decide) hf d_Ch_hasElsewhere_31
      replace hf := hf.2 hc
      refine lv_iload_n (pc := 7) hx hb d_Ch_hasElsewhere_7 rfl (lv_at hl 3 rfl) ?_
      refine lv_iload_n (pc := 8) hx hb d_Ch_hasElsewhere_8 rfl (lv_at hl 1 rfl) ?_
      refine lv_icmp_eq (pc := 9) (tgt := 24) hx hb d_Ch_hasElsewhere_9 (by decide) (fun hc => ?_) (fun hc => ?_)
      · replace hf := hf.1 hc
        refine lv_iinc (pc := 24) (k := 3) (v := (x3 + (1 : Int32))) (lv' := [(3, .int (x3 + (1 : Int32))), (0, .ref (a 5)), (1, .int x1), (2, .int x2)]) hx hb d_Ch_hasElsewhere_24 hl rfl rfl (by decide) rfl (fun ls hl => ?_)
        refine lv_goto (pc := 27) (tgt := 2) hx hb d_Ch_hasElsewhere_27 (by decide) ?_
        exact ih2 x1 x2 (x3 + (1 : Int32)) _ (lv_sub hl [1, 2, 3, 0] rfl) hf
      replace hf := hf.2 hc
      refine lv_aload_n (pc := 12) hx hb d_Ch_hasElsewhere_12 rfl (lv_at hl 0 rfl) ?_
      refine gk_gt_Ch_keys (pc := 13) hx hb hK hts hinCh hown hP hl9 d_Ch_hasElsewhere_13 ?_
      refine lv_iload_n (pc := 16) hx hb d_Ch_hasElsewhere_16 rfl (lv_at hl 3 rfl) ?_
      refine gk_ld18 (pc := 17) (v := ((S.1 22) x3.toNatClampNeg)) hx hb hK hP hf.1 rfl d_Ch_hasElsewhere_17 ?_
      replace hf := hf.2
      refine lv_iload_n (pc := 18) hx hb d_Ch_hasElsewhere_18 rfl (lv_at hl 2 rfl) ?_
      refine lv_icmp_ne (pc := 19) (tgt := 24) hx hb d_Ch_hasElsewhere_19 (by decide) (fun hc => ?_) (fun hc => ?_)
      · replace hf := hf.2 hc
        refine lv_iinc (pc := 24) (k := 3) (v := (x3 + (1 : Int32))) (lv' := [(3, .int (x3 + (1 : Int32))), (0, .ref (a 5)), (1, .int x1), (2, .int x2)]) hx hb d_Ch_hasElsewhere_24 hl rfl rfl (by decide) rfl (fun ls hl => ?_)
        refine lv_goto (pc := 27) (tgt := 2) hx hb d_Ch_hasElsewhere_27 (by decide) ?_
        exact ih2 x1 x2 (x3 + (1 : Int32)) _ (lv_sub hl [1, 2, 3, 0] rfl) hf
      replace hf := hf.1 hc
      refine lv_iconst (pc := 22) (v := 1) hx hb d_Ch_hasElsewhere_22 (by decide) ?_
      exact rr_z (pc := 23) hx hb hr hlk (by decide) hf d_Ch_hasElsewhere_23
  exact lp2 q2 p0 p1 (0 : Int32) _ (lv_sub hl [1, 2, 3, 0] rfl) hf
def wp_Ch_setChord (S : GS) (p0 : Int32) (p1 : Int32) (p2 : Int32) (post : GS → Prop) : Prop := (vp_in p0 4 ∧ (vp_in p0 4 ∧ (post (gI (gI S 22 (upd (S.1 22) (p0).toNatClampNeg p1)) 23 (upd (S.1 23) (p0).toNatClampNeg p2)))))
abbrev rm_Ch_setChord : Room := { frames := 0, cells := 0, slots := 0, locals := 0 }
set_option maxHeartbeats 4000000 in
set_option maxRecDepth 100000 in
theorem c_Ch_setChord (l : Launch) (D : va_G) (cI cZ cJ : ClassId) (a : Nat → Nat) (sz : Nat) (S : GS) (p0 : Int32) (p1 : Int32) (p2 : Int32) (post : GS → Prop) (hf : wp_Ch_setChord S p0 p1 p2 post) : Met l y_Ch_setChord ws_Ch_setChord rm_Ch_setChord (va_Pc [.ref (a 5), .int p0, .int p1, .int p2] (gPre D (tys cI cZ cJ) (gkW cI cZ cJ a S) sz)) (va_Qv post (gB D (tys cI cZ cJ) (gkW cI cZ cJ a) (va_A (gkW cI cZ cJ a S) sz)) (va_A (gkW cI cZ cJ a S) sz)) 0 0 (va_A (gkW cI cZ cJ a S) sz) := by
  refine gm_w (QF := fun A => va_Qv post (gB D (tys cI cZ cJ) (gkW cI cZ cJ a) A) A) (cc := b_Ch_setChord) (maxL := 4) (by decide) rfl (Nat.le_of_ble_eq_true rfl) ?_
  intro p e s m args below meth c A ls hx hb hr hts hown hmn hlk hml hK hA hw hl
  have hl : lv_has ls 4 [(0, .ref (a 5)), (1, .int p0), (2, .int p1), (3, .int p2)] := hl
  have hinCh : ∀ w ∈ u_ws R_Ch T_Ch 2, w ∈ ws_Ch_setChord := fun w h => List.mem_cons_of_mem _ (tl_Ch w h)
  have hl9 := hts _ (List.mem_cons_of_mem _ tf_Ch_9)
  have hl15 := hts _ (List.mem_cons_of_mem _ tf_Ch_15)
  unfold wp_Ch_setChord at hf
  refine lv_aload_n (pc := 0) hx hb d_Ch_setChord_0 rfl (lv_at hl 0 rfl) ?_
  refine gk_gt_Ch_keys (pc := 1) hx hb hK hts hinCh hown hw.1 hl9 d_Ch_setChord_1 ?_
  refine lv_iload_n (pc := 4) hx hb d_Ch_setChord_4 rfl (lv_at hl 1 rfl) ?_
  refine lv_iload_n (pc := 5) hx hb d_Ch_setChord_5 rfl (lv_at hl 2 rfl) ?_
  refine gk_st18 (pc := 6) hx hb hK hw hf.1 d_Ch_setChord_6 (fun H locs hw => ?_)
  replace hf := hf.2
  refine lv_aload_n (pc := 7) hx hb d_Ch_setChord_7 rfl (lv_at hl 0 rfl) ?_
  refine gk_gt_Ch_codes (pc := 8) hx hb hK hts hinCh hown hw.1 hl15 d_Ch_setChord_8 ?_
  refine lv_iload_n (pc := 11) hx hb d_Ch_setChord_11 rfl (lv_at hl 1 rfl) ?_
  refine lv_iload_n (pc := 12) hx hb d_Ch_setChord_12 rfl (lv_at hl 3 rfl) ?_
  refine gk_st19 (pc := 13) hx hb hK hw hf.1 d_Ch_setChord_13 (fun H locs hw => ?_)
  replace hf := hf.2
  have hw : wf D A s.heap (gkW cI cZ cJ a (gI (gI S 22 (upd (S.1 22) (p0).toNatClampNeg p1)) 23 (upd (S.1 23) (p0).toNatClampNeg p2))) H locs := hw
  exact gr_v (pc := 14) hx hb hr hlk hK (gI (gI S 22 (upd (S.1 22) (p0).toNatClampNeg p1)) 23 (upd (S.1 23) (p0).toNatClampNeg p2)) hw hf d_Ch_setChord_14
def wp_Mx_keysThatAre (S : GS) (p0 : Int32) (post : Int32 → Prop) : Prop := ((p0 = (0 : Int32) → (post (S.1 2 0))) ∧ (¬ p0 = (0 : Int32) → ((p0 = (1 : Int32) → (post (S.1 3 0))) ∧ (¬ p0 = (1 : Int32) → ((p0 = (2 : Int32) → (post (S.1 4 0))) ∧ (¬ p0 = (2 : Int32) → (post ((S.1 3 0) &&& ((S.1 4 0) ^^^ (-1 : Int32))))))))))
abbrev rm_Mx_keysThatAre : Room := { frames := 0, cells := 0, slots := 0, locals := 0 }
set_option maxHeartbeats 4000000 in
set_option maxRecDepth 100000 in
theorem c_Mx_keysThatAre (l : Launch) (D : va_G) (cI cZ cJ : ClassId) (a : Nat → Nat) (S : GS) (p0 : Int32) (post : Int32 → Prop) (hf : wp_Mx_keysThatAre S p0 post) : Met l y_Mx_keysThatAre ws_Mx_keysThatAre rm_Mx_keysThatAre (va_Pc [.ref (a 1), .int p0] (rPre D (tys cI cZ cJ) (gkW cI cZ cJ a S))) (vp_Si post) 0 0 (fun _ => False) := by
  refine gm_r (cc := b_Mx_keysThatAre) (maxL := 2) (by decide) rfl (Nat.le_of_ble_eq_true rfl) ?_
  intro p e s m args below meth c ls hx hb hr hts hown hlk hml hK hP hl
  have hl : lv_has ls 2 [(0, .ref (a 1)), (1, .int p0)] := hl
  have hinMx : ∀ w ∈ u_ws R_Mx T_Mx 6, w ∈ ws_Mx_keysThatAre := fun w h => List.mem_cons_of_mem _ (tl_Mx w h)
  have hl22 := hts _ (List.mem_cons_of_mem _ tf_Mx_22)
  have hl25 := hts _ (List.mem_cons_of_mem _ tf_Mx_25)
  have hl28 := hts _ (List.mem_cons_of_mem _ tf_Mx_28)
  unfold wp_Mx_keysThatAre at hf
  refine lv_iload_n (pc := 0) hx hb d_Mx_keysThatAre_0 rfl (lv_at hl 1 rfl) ?_
  by_cases hs0 : p0 = (0 : Int32)
  · replace hf := hf.1 hs0
    refine lv_tableIn (pc := 1) (off := 27) (tgt := 28) hx hb d_Mx_keysThatAre_1 (by rw [hs0]; decide) (by rw [hs0]; decide) (by rw [hs0]; decide) (by decide) ?_
    refine lv_aload_n (pc := 28) hx hb d_Mx_keysThatAre_28 rfl (lv_at hl 0 rfl) ?_
    refine gk_gt_Mx_read (pc := 29) (v := (S.1 2 0)) hx hb hK hts hinMx hown hP hl22 rfl d_Mx_keysThatAre_29 ?_
    exact rr_i (pc := 32) hx hb hr hlk hf d_Mx_keysThatAre_32
  replace hf := hf.2 hs0
  by_cases hs1 : p0 = (1 : Int32)
  · replace hf := hf.1 hs1
    refine lv_tableIn (pc := 1) (off := 32) (tgt := 33) hx hb d_Mx_keysThatAre_1 (by rw [hs1]; decide) (by rw [hs1]; decide) (by rw [hs1]; decide) (by decide) ?_
    refine lv_aload_n (pc := 33) hx hb d_Mx_keysThatAre_33 rfl (lv_at hl 0 rfl) ?_
    refine gk_gt_Mx_seen (pc := 34) (v := (S.1 3 0)) hx hb hK hts hinMx hown hP hl25 rfl d_Mx_keysThatAre_34 ?_
    exact rr_i (pc := 37) hx hb hr hlk hf d_Mx_keysThatAre_37
  replace hf := hf.2 hs1
  by_cases hs2 : p0 = (2 : Int32)
  · replace hf := hf.1 hs2
    refine lv_tableIn (pc := 1) (off := 37) (tgt := 38) hx hb d_Mx_keysThatAre_1 (by rw [hs2]; decide) (by rw [hs2]; decide) (by rw [hs2]; decide) (by decide) ?_
    refine lv_aload_n (pc := 38) hx hb d_Mx_keysThatAre_38 rfl (lv_at hl 0 rfl) ?_
    refine gk_gt_Mx_believed (pc := 39) (v := (S.1 4 0)) hx hb hK hts hinMx hown hP hl28 rfl d_Mx_keysThatAre_39 ?_
    exact rr_i (pc := 42) hx hb hr hlk hf d_Mx_keysThatAre_42
  replace hf := hf.2 hs2
  have ehs0 := lv_neT hs0 (a := 0) (by decide)
  have ehs1 := lv_neT hs1 (a := 1) (by decide)
  have ehs2 := lv_neT hs2 (a := 2) (by decide)
  refine lv_tableOut (pc := 1) (tgt := 43) hx hb d_Mx_keysThatAre_1 (by omega) (by decide) ?_
  refine lv_aload_n (pc := 43) hx hb d_Mx_keysThatAre_43 rfl (lv_at hl 0 rfl) ?_
  refine gk_gt_Mx_seen (pc := 44) (v := (S.1 3 0)) hx hb hK hts hinMx hown hP hl25 rfl d_Mx_keysThatAre_44 ?_
  refine lv_aload_n (pc := 47) hx hb d_Mx_keysThatAre_47 rfl (lv_at hl 0 rfl) ?_
  refine gk_gt_Mx_believed (pc := 48) (v := (S.1 4 0)) hx hb hK hts hinMx hown hP hl28 rfl d_Mx_keysThatAre_48 ?_
  refine lv_iconst (pc := 51) (v := -1) hx hb d_Mx_keysThatAre_51 (by decide) ?_
  refine lv_ixor (pc := 52) hx hb d_Mx_keysThatAre_52 ?_
  refine lv_iand (pc := 53) hx hb d_Mx_keysThatAre_53 ?_
  exact rr_i (pc := 54) hx hb hr hlk hf d_Mx_keysThatAre_54
def wp_Hi_latest (S : GS) (p0 : Int32) (post : Int32 → Prop) : Prop := ((p0 < (0 : Int32) → (post (-1 : Int32))) ∧ (¬ p0 < (0 : Int32) → ((p0 < (S.1 6 0) → (vp_in (((((S.1 5 0) + (32 : Int32)) - (1 : Int32)) - p0) - ((((S.1 5 0) + (32 : Int32)) - (1 : Int32)) - p0) / (32 : Int32) * (32 : Int32)) 32 ∧ (post ((S.1 15) (((((S.1 5 0) + (32 : Int32)) - (1 : Int32)) - p0) - ((((S.1 5 0) + (32 : Int32)) - (1 : Int32)) - p0) / (32 : Int32) * (32 : Int32)).toNatClampNeg)))) ∧ (¬ p0 < (S.1 6 0) → (post (-1 : Int32))))))
abbrev rm_Hi_latest : Room := { frames := 0, cells := 0, slots := 0, locals := 0 }
set_option maxHeartbeats 4000000 in
set_option maxRecDepth 100000 in
theorem c_Hi_latest (l : Launch) (D : va_G) (cI cZ cJ : ClassId) (a : Nat → Nat) (S : GS) (p0 : Int32) (post : Int32 → Prop) (hf : wp_Hi_latest S p0 post) : Met l y_Hi_latest ws_Hi_latest rm_Hi_latest (va_Pc [.ref (a 2), .int p0] (rPre D (tys cI cZ cJ) (gkW cI cZ cJ a S))) (vp_Si post) 0 0 (fun _ => False) := by
  refine gm_r (cc := b_Hi_latest) (maxL := 2) (by decide) rfl (Nat.le_of_ble_eq_true rfl) ?_
  intro p e s m args below meth c ls hx hb hr hts hown hlk hml hK hP hl
  have hl : lv_has ls 2 [(0, .ref (a 2)), (1, .int p0)] := hl
  have hinHi : ∀ w ∈ u_ws R_Hi T_Hi 3, w ∈ ws_Hi_latest := fun w h => List.mem_cons_of_mem _ (tl_Hi w h)
  have hl11 := hts _ (List.mem_cons_of_mem _ tf_Hi_11)
  have hl15 := hts _ (List.mem_cons_of_mem _ tf_Hi_15)
  have hl19 := hts _ (List.mem_cons_of_mem _ tf_Hi_19)
  unfold wp_Hi_latest at hf
  refine lv_iload_n (pc := 0) hx hb d_Hi_latest_0 rfl (lv_at hl 1 rfl) ?_
  refine lv_if_lt (pc := 1) (tgt := 12) hx hb d_Hi_latest_1 (by decide) (fun hc => ?_) (fun hc => ?_)
  · replace hf := hf.1 hc
    refine lv_iconst (pc := 12) (v := -1) hx hb d_Hi_latest_12 (by decide) ?_
    exact rr_i (pc := 13) hx hb hr hlk hf d_Hi_latest_13
  replace hf := hf.2 hc
  refine lv_iload_n (pc := 4) hx hb d_Hi_latest_4 rfl (lv_at hl 1 rfl) ?_
  refine lv_aload_n (pc := 5) hx hb d_Hi_latest_5 rfl (lv_at hl 0 rfl) ?_
  refine gk_gt_Hi_kept (pc := 6) (v := (S.1 6 0)) hx hb hK hts hinHi hown hP hl19 rfl d_Hi_latest_6 ?_
  refine lv_icmp_lt (pc := 9) (tgt := 14) hx hb d_Hi_latest_9 (by decide) (fun hc => ?_) (fun hc => ?_)
  · replace hf := hf.1 hc
    refine lv_aload_n (pc := 14) hx hb d_Hi_latest_14 rfl (lv_at hl 0 rfl) ?_
    refine gk_gt_Hi_events (pc := 15) hx hb hK hts hinHi hown hP hl11 d_Hi_latest_15 ?_
    refine lv_aload_n (pc := 18) hx hb d_Hi_latest_18 rfl (lv_at hl 0 rfl) ?_
    refine gk_gt_Hi_next (pc := 19) (v := (S.1 5 0)) hx hb hK hts hinHi hown hP hl15 rfl d_Hi_latest_19 ?_
    refine lv_bipush (pc := 22) (v := 32) hx hb d_Hi_latest_22 (by decide) ?_
    refine lv_iadd (pc := 24) hx hb d_Hi_latest_24 ?_
    refine lv_iconst (pc := 25) (v := 1) hx hb d_Hi_latest_25 (by decide) ?_
    refine lv_isub (pc := 26) hx hb d_Hi_latest_26 ?_
    refine lv_iload_n (pc := 27) hx hb d_Hi_latest_27 rfl (lv_at hl 1 rfl) ?_
    refine lv_isub (pc := 28) hx hb d_Hi_latest_28 ?_
    refine lv_bipush (pc := 29) (v := 32) hx hb d_Hi_latest_29 (by decide) ?_
    refine lv_irem (pc := 31) hx hb d_Hi_latest_31 (by decide) ?_
    refine gk_ld11 (pc := 32) (v := ((S.1 15) (((((S.1 5 0) + (32 : Int32)) - (1 : Int32)) - p0) - ((((S.1 5 0) + (32 : Int32)) - (1 : Int32)) - p0) / (32 : Int32) * (32 : Int32)).toNatClampNeg)) hx hb hK hP hf.1 rfl d_Hi_latest_32 ?_
    replace hf := hf.2
    exact rr_i (pc := 33) hx hb hr hlk hf d_Hi_latest_33
  replace hf := hf.2 hc
  refine lv_iconst (pc := 12) (v := -1) hx hb d_Hi_latest_12 (by decide) ?_
  exact rr_i (pc := 13) hx hb hr hlk hf d_Hi_latest_13
