theorem x_preS {X : State → Prop} {s : State} {H H0 : Heap} {D : va_G} {A : Nat → Prop} {ty : List (ClassId × FieldType)} {ws : va_W} {locs : List Loc} {As : List Value} (hXw : ∀ U : State, s.WarmedH U.vm → X U) (hXb : ∀ (U : State) (g : JFrame) (mk : MethodId) (a : Array Value), X U → X (U.calling g mk a)) (hK : va_K D vwCl ty s) (hw : wf D A H0 ws H locs) : PreS s H (va_Pc As (fun U => X U ∧ gPre D ty ws H.size U)) As :=
  ⟨fun a U g mk q => ⟨q.1, hXb U g mk a q.2.1, (g_blind a U g mk ⟨q.1, q.2.2⟩).2⟩, fun U hU hW => ⟨rfl, hXw U hW, by rw [hU], by rw [hU]; exact hw.1, va_K.moved hW.alike hK, hw.2.1.weaken (fun _ _ _ _ => trivial)⟩⟩
set_option maxHeartbeats 4000000 in
set_option maxRecDepth 100000 in
theorem whole_open {p : Program} {e : Env} {s : State} {m : MethodId} {below : List Frame} {meth : Method} {c : Code} (l : Launch) (hfl : l.flags = flags0) {b L : Nat} {xs : Nat → Int32} (hL : L ≤ 3072) (C0 : lw_At p s m meth c b L xs) (hlaw : ∃ n, LW xs L n 0 z0 z0 (fun _ => 0)) : W p l e room_1 s m #[Value.ref b] below meth c s.heap [] 0 0 (lw_Z below #[Value.ref b] s) (entryFrame m ([Value.ref b] : List Value).toArray 7) := by
  obtain ⟨hx, hb, hr, hml, hown, ht, hX, hbl, hlk, hgv⟩ := C0
  obtain ⟨n, hf⟩ := hlaw
  have htb := tb_of ht
  have hts : ∀ w ∈ lawTs, w.before #[Value.ref b] s = true := fun w hw => (List.mem_cons.mp hw).elim (fun h => by rw [h]; exact htb _ tc_G_init) (htb w)
  have ht1 : ∀ w ∈ tables_1, w.before #[Value.ref b] s = true := fun w hw => ht w (List.mem_append_right _ hw)
  have hE := law_TE ht1 hgv
  have hN : NW s := fun w hw => by
    have h := ht1 w (nw_tab w hw)
    simp only [nestw, List.mem_cons, List.not_mem_nil, or_false] at hw
    rcases hw with rfl | rfl | rfl | rfl | rfl | rfl | rfl | rfl <;> exact va_Nw.of rfl h
  obtain ⟨D, cI, cZ, cJ, hK⟩ := law_K htb
  have hown : s.vm.findClass R_Lw = some m.cls := hown
  generalize hAd : (fun q : Nat => s.heap.size ≤ q) = A
  have hA : ∀ q, s.heap.size ≤ q → A q := fun q h => by rw [← hAd]; exact h
  have hAA : ∀ q, A q ↔ s.heap.size ≤ q := fun q => by rw [← hAd]
  have hw0 : wf D A s.heap [] s.heap [] := ⟨fun k q h => by simp at h, ⟨fun i j x y h => by simp at h, fun k q h => by simp at h⟩, va_S.rf⟩
  have hl := lv_entry [Value.ref b] (n := 7) (Nat.le_of_ble_eq_true rfl)
  rw [lg_entry_eq]
  generalize (lg_sl [Value.ref b] ++ List.replicate (7 - (lg_sl [Value.ref b]).length) Slot.unset).toArray = ls at hl ⊢
  have hl : lv_has ls 7 [(0, .ref b)] := hl
  refine va_new (pc := 0) (D := D) (ci := 0) (fs := [.null, .null, .null, .null, .null, .null, .null, .null, .int 0]) (C := R_G) (T := T_G) (N := 9) hx hb hts (fun w h => List.mem_cons_of_mem _ (tl_G w h)) ty_G ty_G_ok hown (hts _ (List.mem_cons_of_mem _ tq_Lw_8)) (hts _ (List.mem_cons_of_mem _ tn_G)) (hts _ (List.mem_cons_of_mem _ tz_G)) hK hw0.1 hw0.2.1 hw0.2.2 hA rfl (fun j hj => by rcases (show j = 0 ∨ j = 1 ∨ j = 2 ∨ j = 3 ∨ j = 4 ∨ j = 5 ∨ j = 6 ∨ j = 7 ∨ j = 8 by omega) with rfl | rfl | rfl | rfl | rfl | rfl | rfl | rfl | rfl <;> rfl) (Nat.le_of_ble_eq_true rfl) (Nat.le_of_ble_eq_true rfl) d_law_0 (fun g H h1 h2 h3 => ?_)
  refine W.widen (k := 1) (n := 9) (Nat.le_of_ble_eq_true rfl) (Nat.le_of_ble_eq_true rfl) ?_
  have hw : wf D A s.heap ([] ++ w0_G g) H [] := ⟨h1, h2, h3⟩
  refine lv_dup (pc := 3) hx hb d_law_3 rfl ?_
  refine gR_v (pc := 4) (Wf := fun a => gkW cI cZ cJ a z0) hw hA (va_runI (As := []) (rest := [.ref g]) ⟨hx, hb, hml, hown, hts⟩ (c_G_init l D cI cZ cJ g _) (cwI 0 hts (tb_goodC tc_G_init) rfl rfl rfl (hts _ (List.mem_cons_of_mem _ tz_G)) (hts _ (List.mem_cons_of_mem _ tm_Lw_49)) (hts _ (List.mem_cons_of_mem _ ti_G_init)) rfl (by decide +kernel) ⟨Nat.le_of_ble_eq_true rfl, Nat.le_of_ble_eq_true rfl⟩) (x_preS (fun U hW => NW.warm hN hW) (fun U g mk a h => NW.warm h (State.WarmedH.refl U)) hK (wfr hw)) rfl rfl hl.1 rfl (lv_room (Nat.le_of_ble_eq_true rfl)) d_law_4 ⟨Nat.le_of_ble_eq_true rfl, Nat.le_of_ble_eq_true rfl⟩) (fun a H9 locs9 hw9 ha => ?_)
  obtain rfl : a 0 = g := ha
  refine W.widen (k := 25) (n := 663) (Nat.le_of_ble_eq_true rfl) (Nat.le_of_ble_eq_true rfl) ?_
  clear hw
  have hw : wf D A s.heap (gkW cI cZ cJ a z0) H9 locs9 := hw9
  generalize H9 = H at hw ⊢
  generalize locs9 = locs at hw ⊢
  refine lv_astore_n (pc := 7) (lv' := [(1, .ref (a 0)), (0, .ref b)]) hx hb d_law_7 rfl hl (by decide) rfl (fun ls hl => ?_)
  refine va_new (pc := 8) (D := D) (ci := 9) (fs := [.int 0, .int 0, .null, .null, .null, .null, .null, .null, .null, .int 0, .null, .null, .int 0, .null, .null, .null, .null, .null, .null, .null, .null, .null, .null, .null, .null, .int 0, .null, .null, .int 0, .int 0]) (C := R_Mo) (T := T_Mo) (N := 30) hx hb hts (fun w h => List.mem_cons_of_mem _ (tl_Mo w h)) ty_Mo ty_Mo_ok hown (hts _ (List.mem_cons_of_mem _ tq_Lw_50)) (hts _ (List.mem_cons_of_mem _ tn_Mo)) (hts _ (List.mem_cons_of_mem _ tz_Mo)) hK hw.1 hw.2.1 hw.2.2 hA rfl (fun j hj => by rcases (show j = 0 ∨ j = 1 ∨ j = 2 ∨ j = 3 ∨ j = 4 ∨ j = 5 ∨ j = 6 ∨ j = 7 ∨ j = 8 ∨ j = 9 ∨ j = 10 ∨ j = 11 ∨ j = 12 ∨ j = 13 ∨ j = 14 ∨ j = 15 ∨ j = 16 ∨ j = 17 ∨ j = 18 ∨ j = 19 ∨ j = 20 ∨ j = 21 ∨ j = 22 ∨ j = 23 ∨ j = 24 ∨ j = 25 ∨ j = 26 ∨ j = 27 ∨ j = 28 ∨ j = 29 by omega) with rfl | rfl | rfl | rfl | rfl | rfl | rfl | rfl | rfl | rfl | rfl | rfl | rfl | rfl | rfl | rfl | rfl | rfl | rfl | rfl | rfl | rfl | rfl | rfl | rfl | rfl | rfl | rfl | rfl | rfl <;> rfl) (Nat.le_of_ble_eq_true rfl) (Nat.le_of_ble_eq_true rfl) d_law_8 (fun q H h1 h2 h3 => ?_)
  refine W.widen (k := 26) (n := 693) (Nat.le_of_ble_eq_true rfl) (Nat.le_of_ble_eq_true rfl) ?_
  have hw : wf D A s.heap (gkW cI cZ cJ a z0 ++ w0_Mo q) H locs := ⟨h1, h2, h3⟩
  refine lv_dup (pc := 11) hx hb d_law_11 rfl ?_
  refine gR_v (pc := 12) (Wf := wi_Mo cI cZ cJ q) hw hA (va_runI (As := []) (rest := [.ref q]) ⟨hx, hb, hml, hown, hts⟩ (c_Mo_init l D cI cZ cJ q _) (cwI 0 hts (tb_goodC tc_Mo_init) rfl rfl rfl (hts _ (List.mem_cons_of_mem _ tz_Mo)) (hts _ (List.mem_cons_of_mem _ tm_Lw_52)) (hts _ (List.mem_cons_of_mem _ ti_Mo_init)) rfl (by decide +kernel) ⟨Nat.le_of_ble_eq_true rfl, Nat.le_of_ble_eq_true rfl⟩) (g_preS hK (wfr hw)) rfl rfl hl.1 rfl (lv_room (Nat.le_of_ble_eq_true rfl)) d_law_12 ⟨Nat.le_of_ble_eq_true rfl, Nat.le_of_ble_eq_true rfl⟩) (fun u H locs hw _ => ?_)
  refine W.widen (k := 49) (n := 1630) (Nat.le_of_ble_eq_true rfl) (Nat.le_of_ble_eq_true rfl) ?_
  obtain ⟨bm, hbm0, hw8⟩ : ∃ bm : Nat → Nat, bm 0 = q ∧ wf D A s.heap (gkW cI cZ cJ a z0 ++ mdW cI cZ cJ bm z0) H locs := ⟨fun k => if k = 0 then q else u k, rfl, hw⟩
  clear hw
  subst hbm0
  have hw := hw8
  refine lv_astore_n (pc := 15) (lv' := [(2, .ref (bm 0)), (1, .ref (a 0)), (0, .ref b)]) hx hb d_law_15 rfl hl (by decide) rfl (fun ls hl => ?_)
  refine lv_iconst (pc := 16) (v := 1) hx hb d_law_16 (by decide) ?_
  refine g_newa (pc := 17) (t := .long) (N := 1) (a0 := (1, .inr (.inl (fun _ => 0)))) 2 rfl (fun _ h => h) hx hb (hts _ (List.mem_cons_of_mem _ ta_long)) rfl hK hw hA (fun _ => rfl) (by decide) (by decide) (by decide) (Nat.le_of_ble_eq_true rfl) (Nat.le_of_ble_eq_true rfl) d_law_17 (fun ao H hw => ?_)
  rw [List.append_assoc] at hw
  refine lv_astore_n (pc := 19) (lv' := [(3, .ref ao), (2, .ref (bm 0)), (1, .ref (a 0)), (0, .ref b)]) hx hb d_law_19 rfl hl (by decide) rfl (fun ls hl => ?_)
  refine lv_iconst (pc := 20) (v := 0) hx hb d_law_20 (by decide) ?_
  refine lv_istore (pc := 21) (lv' := [(4, .int (nI (6 * 0))), (3, .ref ao), (2, .ref (bm 0)), (1, .ref (a 0)), (0, .ref b)]) hx hb d_law_21 hl (by decide) rfl (fun ls hl => ?_)
  refine W.widen (k := 50 + 0) (n := 1631 + 6 * 0) (Nat.le_of_ble_eq_true rfl) (Nat.le_of_ble_eq_true rfl) ?_
  exact law_loop ⟨hx, hb, hml, hown, hts, hfl, hE, hK, hAA, hX, hbl, hL⟩ hr hlk n 0 z0 z0 (fun _ => 0) H locs ls (by omega) (lv_sub hl [4, 3, 2, 1, 0] rfl) hw hf
