section
-- ===== PART A: goes FIRST, ahead of the names: the tables' words, and 'selects' of the private methods out of them =====
/-- a private method of a class that the tables say can be made, by its rows of tables_1 -/
def lw_okq (q : MethodName × Nat) : Prop := (q.1.cls ≠ "java/lang/invoke/MethodHandle" ∧ q.1.cls ≠ "java/lang/invoke/VarHandle") ∧ Cond.instantiable q.1.cls q.2 ∈ tables_1 ∧ Cond.privateMethod q.1 ∈ tables_1 ∧ Cond.instanceMethod q.1 ∈ tables_1
theorem lw_p0 : lw_okq (⟨"GhostKeys", "runScan", "()I"⟩, 9) := ⟨⟨by decide +kernel, by decide +kernel⟩, List.mem_of_getElem? (i := 20) (by decide +kernel), List.mem_of_getElem? (i := 208) (by decide +kernel), List.mem_of_getElem? (i := 209) (by decide +kernel)⟩
theorem lw_p1 : lw_okq (⟨"GhostKeys$Matrix", "closedContacts", "()I"⟩, 6) := ⟨⟨by decide +kernel, by decide +kernel⟩, List.mem_of_getElem? (i := 28) (by decide +kernel), List.mem_of_getElem? (i := 216) (by decide +kernel), List.mem_of_getElem? (i := 217) (by decide +kernel)⟩
theorem lw_p2 : lw_okq (⟨"GhostKeys$Matrix", "watch", "(I)V"⟩, 6) := ⟨⟨by decide +kernel, by decide +kernel⟩, List.mem_of_getElem? (i := 28) (by decide +kernel), List.mem_of_getElem? (i := 226) (by decide +kernel), List.mem_of_getElem? (i := 227) (by decide +kernel)⟩
theorem lw_p3 : lw_okq (⟨"GhostKeys", "bringEvents", "()I"⟩, 9) := ⟨⟨by decide +kernel, by decide +kernel⟩, List.mem_of_getElem? (i := 20) (by decide +kernel), List.mem_of_getElem? (i := 230) (by decide +kernel), List.mem_of_getElem? (i := 231) (by decide +kernel)⟩
theorem lw_p4 : lw_okq (⟨"GhostKeys", "takeFirst", "()Z"⟩, 9) := ⟨⟨by decide +kernel, by decide +kernel⟩, List.mem_of_getElem? (i := 20) (by decide +kernel), List.mem_of_getElem? (i := 249) (by decide +kernel), List.mem_of_getElem? (i := 250) (by decide +kernel)⟩
theorem lw_p5 : lw_okq (⟨"GhostKeys", "takeRelease", "()V"⟩, 9) := ⟨⟨by decide +kernel, by decide +kernel⟩, List.mem_of_getElem? (i := 20) (by decide +kernel), List.mem_of_getElem? (i := 261) (by decide +kernel), List.mem_of_getElem? (i := 262) (by decide +kernel)⟩
theorem lw_p6 : lw_okq (⟨"GhostKeys$Reports", "packed", "()J"⟩, 7) := ⟨⟨by decide +kernel, by decide +kernel⟩, List.mem_of_getElem? (i := 147) (by decide +kernel), List.mem_of_getElem? (i := 292) (by decide +kernel), List.mem_of_getElem? (i := 293) (by decide +kernel)⟩
theorem lw_p7 : lw_okq (⟨"GhostKeys$Reports", "putIfOther", "(J)V"⟩, 7) := ⟨⟨by decide +kernel, by decide +kernel⟩, List.mem_of_getElem? (i := 147) (by decide +kernel), List.mem_of_getElem? (i := 296) (by decide +kernel), List.mem_of_getElem? (i := 297) (by decide +kernel)⟩
theorem lw_p8 : lw_okq (⟨"GhostKeys", "waitsForChord", "(I)Z"⟩, 9) := ⟨⟨by decide +kernel, by decide +kernel⟩, List.mem_of_getElem? (i := 20) (by decide +kernel), List.mem_of_getElem? (i := 305) (by decide +kernel), List.mem_of_getElem? (i := 306) (by decide +kernel)⟩
theorem lw_p9 : lw_okq (⟨"GhostKeys", "takeChord", "(I)V"⟩, 9) := ⟨⟨by decide +kernel, by decide +kernel⟩, List.mem_of_getElem? (i := 20) (by decide +kernel), List.mem_of_getElem? (i := 333) (by decide +kernel), List.mem_of_getElem? (i := 334) (by decide +kernel)⟩
theorem lw_p10 : lw_okq (⟨"GhostKeys", "takeByAction", "()Z"⟩, 9) := ⟨⟨by decide +kernel, by decide +kernel⟩, List.mem_of_getElem? (i := 20) (by decide +kernel), List.mem_of_getElem? (i := 355) (by decide +kernel), List.mem_of_getElem? (i := 356) (by decide +kernel)⟩
theorem lw_p11 : lw_okq (⟨"GhostKeys", "tellTap", "()I"⟩, 9) := ⟨⟨by decide +kernel, by decide +kernel⟩, List.mem_of_getElem? (i := 20) (by decide +kernel), List.mem_of_getElem? (i := 372) (by decide +kernel), List.mem_of_getElem? (i := 373) (by decide +kernel)⟩
theorem lw_p12 : lw_okq (⟨"GhostKeys", "actTap", "(III)V"⟩, 9) := ⟨⟨by decide +kernel, by decide +kernel⟩, List.mem_of_getElem? (i := 20) (by decide +kernel), List.mem_of_getElem? (i := 396) (by decide +kernel), List.mem_of_getElem? (i := 397) (by decide +kernel)⟩
theorem lw_p13 : lw_okq (⟨"GhostKeys", "playMacro", "(I)V"⟩, 9) := ⟨⟨by decide +kernel, by decide +kernel⟩, List.mem_of_getElem? (i := 20) (by decide +kernel), List.mem_of_getElem? (i := 404) (by decide +kernel), List.mem_of_getElem? (i := 405) (by decide +kernel)⟩
theorem lw_p14 : lw_okq (⟨"java/lang/Throwable", "fillInStackTrace", "(I)Ljava/lang/Throwable;"⟩, 6) := ⟨⟨by decide +kernel, by decide +kernel⟩, List.mem_of_getElem? (i := 507) (by decide +kernel), List.mem_of_getElem? (i := 505) (by decide +kernel), List.mem_of_getElem? (i := 506) (by decide +kernel)⟩
theorem lw_p15 : lw_okq (⟨"GhostKeysModel", "refused", "(I)Z"⟩, 30) := ⟨⟨by decide +kernel, by decide +kernel⟩, List.mem_of_getElem? (i := 679) (by decide +kernel), List.mem_of_getElem? (i := 788) (by decide +kernel), List.mem_of_getElem? (i := 789) (by decide +kernel)⟩
def lw_privs_1 : List (MethodName × Nat) := [(⟨"GhostKeys", "runScan", "()I"⟩, 9), (⟨"GhostKeys$Matrix", "closedContacts", "()I"⟩, 6), (⟨"GhostKeys$Matrix", "watch", "(I)V"⟩, 6), (⟨"GhostKeys", "bringEvents", "()I"⟩, 9), (⟨"GhostKeys", "takeFirst", "()Z"⟩, 9), (⟨"GhostKeys", "takeRelease", "()V"⟩, 9), (⟨"GhostKeys$Reports", "packed", "()J"⟩, 7), (⟨"GhostKeys$Reports", "putIfOther", "(J)V"⟩, 7), (⟨"GhostKeys", "waitsForChord", "(I)Z"⟩, 9), (⟨"GhostKeys", "takeChord", "(I)V"⟩, 9), (⟨"GhostKeys", "takeByAction", "()Z"⟩, 9), (⟨"GhostKeys", "tellTap", "()I"⟩, 9), (⟨"GhostKeys", "actTap", "(III)V"⟩, 9), (⟨"GhostKeys", "playMacro", "(I)V"⟩, 9), (⟨"java/lang/Throwable", "fillInStackTrace", "(I)Ljava/lang/Throwable;"⟩, 6), (⟨"GhostKeysModel", "refused", "(I)Z"⟩, 30)]
theorem lw_r1 : ∀ q ∈ lw_privs_1, lw_okq q := List.forall_mem_cons.mpr ⟨lw_p0, List.forall_mem_cons.mpr ⟨lw_p1, List.forall_mem_cons.mpr ⟨lw_p2, List.forall_mem_cons.mpr ⟨lw_p3, List.forall_mem_cons.mpr ⟨lw_p4, List.forall_mem_cons.mpr ⟨lw_p5, List.forall_mem_cons.mpr ⟨lw_p6, List.forall_mem_cons.mpr ⟨lw_p7, List.forall_mem_cons.mpr ⟨lw_p8, List.forall_mem_cons.mpr ⟨lw_p9, List.forall_mem_cons.mpr ⟨lw_p10, List.forall_mem_cons.mpr ⟨lw_p11, List.forall_mem_cons.mpr ⟨lw_p12, List.forall_mem_cons.mpr ⟨lw_p13, List.forall_mem_cons.mpr ⟨lw_p14, List.forall_mem_cons.mpr ⟨lw_p15, fun _ h => absurd h List.not_mem_nil⟩⟩⟩⟩⟩⟩⟩⟩⟩⟩⟩⟩⟩⟩⟩⟩
theorem lw_p16 : lw_okq (⟨"GhostKeysModel", "scanOnce", "()I"⟩, 30) := ⟨⟨by decide +kernel, by decide +kernel⟩, List.mem_of_getElem? (i := 679) (by decide +kernel), List.mem_of_getElem? (i := 800) (by decide +kernel), List.mem_of_getElem? (i := 801) (by decide +kernel)⟩
theorem lw_p17 : lw_okq (⟨"GhostKeysModel", "look", "()V"⟩, 30) := ⟨⟨by decide +kernel, by decide +kernel⟩, List.mem_of_getElem? (i := 679) (by decide +kernel), List.mem_of_getElem? (i := 804) (by decide +kernel), List.mem_of_getElem? (i := 805) (by decide +kernel)⟩
theorem lw_p18 : lw_okq (⟨"GhostKeysModel", "hasCorners", "(IZ)Z"⟩, 30) := ⟨⟨by decide +kernel, by decide +kernel⟩, List.mem_of_getElem? (i := 679) (by decide +kernel), List.mem_of_getElem? (i := 808) (by decide +kernel), List.mem_of_getElem? (i := 809) (by decide +kernel)⟩
theorem lw_p19 : lw_okq (⟨"GhostKeysModel", "believe", "()I"⟩, 30) := ⟨⟨by decide +kernel, by decide +kernel⟩, List.mem_of_getElem? (i := 679) (by decide +kernel), List.mem_of_getElem? (i := 812) (by decide +kernel), List.mem_of_getElem? (i := 813) (by decide +kernel)⟩
theorem lw_p20 : lw_okq (⟨"GhostKeysModel", "bring", "(II)V"⟩, 30) := ⟨⟨by decide +kernel, by decide +kernel⟩, List.mem_of_getElem? (i := 679) (by decide +kernel), List.mem_of_getElem? (i := 816) (by decide +kernel), List.mem_of_getElem? (i := 817) (by decide +kernel)⟩
theorem lw_p21 : lw_okq (⟨"GhostKeysModel", "takeFirst", "()Z"⟩, 30) := ⟨⟨by decide +kernel, by decide +kernel⟩, List.mem_of_getElem? (i := 679) (by decide +kernel), List.mem_of_getElem? (i := 820) (by decide +kernel), List.mem_of_getElem? (i := 821) (by decide +kernel)⟩
theorem lw_p22 : lw_okq (⟨"GhostKeysModel", "takeRelease", "(I)V"⟩, 30) := ⟨⟨by decide +kernel, by decide +kernel⟩, List.mem_of_getElem? (i := 679) (by decide +kernel), List.mem_of_getElem? (i := 824) (by decide +kernel), List.mem_of_getElem? (i := 825) (by decide +kernel)⟩
theorem lw_p23 : lw_okq (⟨"GhostKeysModel", "change", "(II)V"⟩, 30) := ⟨⟨by decide +kernel, by decide +kernel⟩, List.mem_of_getElem? (i := 679) (by decide +kernel), List.mem_of_getElem? (i := 828) (by decide +kernel), List.mem_of_getElem? (i := 829) (by decide +kernel)⟩
theorem lw_p24 : lw_okq (⟨"GhostKeysModel", "tell", "()V"⟩, 30) := ⟨⟨by decide +kernel, by decide +kernel⟩, List.mem_of_getElem? (i := 679) (by decide +kernel), List.mem_of_getElem? (i := 832) (by decide +kernel), List.mem_of_getElem? (i := 833) (by decide +kernel)⟩
theorem lw_p25 : lw_okq (⟨"GhostKeysModel", "makeReport", "()V"⟩, 30) := ⟨⟨by decide +kernel, by decide +kernel⟩, List.mem_of_getElem? (i := 679) (by decide +kernel), List.mem_of_getElem? (i := 836) (by decide +kernel), List.mem_of_getElem? (i := 837) (by decide +kernel)⟩
theorem lw_p26 : lw_okq (⟨"GhostKeysModel", "copyReport", "(II)V"⟩, 30) := ⟨⟨by decide +kernel, by decide +kernel⟩, List.mem_of_getElem? (i := 679) (by decide +kernel), List.mem_of_getElem? (i := 840) (by decide +kernel), List.mem_of_getElem? (i := 841) (by decide +kernel)⟩
theorem lw_p27 : lw_okq (⟨"GhostKeysModel", "drop", "(I)V"⟩, 30) := ⟨⟨by decide +kernel, by decide +kernel⟩, List.mem_of_getElem? (i := 679) (by decide +kernel), List.mem_of_getElem? (i := 844) (by decide +kernel), List.mem_of_getElem? (i := 845) (by decide +kernel)⟩
theorem lw_p28 : lw_okq (⟨"GhostKeysModel", "rowLength", "()I"⟩, 30) := ⟨⟨by decide +kernel, by decide +kernel⟩, List.mem_of_getElem? (i := 679) (by decide +kernel), List.mem_of_getElem? (i := 848) (by decide +kernel), List.mem_of_getElem? (i := 849) (by decide +kernel)⟩
theorem lw_p29 : lw_okq (⟨"GhostKeysModel", "waitsForChord", "(I)Z"⟩, 30) := ⟨⟨by decide +kernel, by decide +kernel⟩, List.mem_of_getElem? (i := 679) (by decide +kernel), List.mem_of_getElem? (i := 852) (by decide +kernel), List.mem_of_getElem? (i := 853) (by decide +kernel)⟩
theorem lw_p30 : lw_okq (⟨"GhostKeysModel", "keysOf", "(I)I"⟩, 30) := ⟨⟨by decide +kernel, by decide +kernel⟩, List.mem_of_getElem? (i := 679) (by decide +kernel), List.mem_of_getElem? (i := 856) (by decide +kernel), List.mem_of_getElem? (i := 857) (by decide +kernel)⟩
theorem lw_p31 : lw_okq (⟨"GhostKeysModel", "chordOf", "(I)I"⟩, 30) := ⟨⟨by decide +kernel, by decide +kernel⟩, List.mem_of_getElem? (i := 679) (by decide +kernel), List.mem_of_getElem? (i := 860) (by decide +kernel), List.mem_of_getElem? (i := 861) (by decide +kernel)⟩
def lw_privs_2 : List (MethodName × Nat) := [(⟨"GhostKeysModel", "scanOnce", "()I"⟩, 30), (⟨"GhostKeysModel", "look", "()V"⟩, 30), (⟨"GhostKeysModel", "hasCorners", "(IZ)Z"⟩, 30), (⟨"GhostKeysModel", "believe", "()I"⟩, 30), (⟨"GhostKeysModel", "bring", "(II)V"⟩, 30), (⟨"GhostKeysModel", "takeFirst", "()Z"⟩, 30), (⟨"GhostKeysModel", "takeRelease", "(I)V"⟩, 30), (⟨"GhostKeysModel", "change", "(II)V"⟩, 30), (⟨"GhostKeysModel", "tell", "()V"⟩, 30), (⟨"GhostKeysModel", "makeReport", "()V"⟩, 30), (⟨"GhostKeysModel", "copyReport", "(II)V"⟩, 30), (⟨"GhostKeysModel", "drop", "(I)V"⟩, 30), (⟨"GhostKeysModel", "rowLength", "()I"⟩, 30), (⟨"GhostKeysModel", "waitsForChord", "(I)Z"⟩, 30), (⟨"GhostKeysModel", "keysOf", "(I)I"⟩, 30), (⟨"GhostKeysModel", "chordOf", "(I)I"⟩, 30)]
theorem lw_r2 : ∀ q ∈ lw_privs_2, lw_okq q := List.forall_mem_cons.mpr ⟨lw_p16, List.forall_mem_cons.mpr ⟨lw_p17, List.forall_mem_cons.mpr ⟨lw_p18, List.forall_mem_cons.mpr ⟨lw_p19, List.forall_mem_cons.mpr ⟨lw_p20, List.forall_mem_cons.mpr ⟨lw_p21, List.forall_mem_cons.mpr ⟨lw_p22, List.forall_mem_cons.mpr ⟨lw_p23, List.forall_mem_cons.mpr ⟨lw_p24, List.forall_mem_cons.mpr ⟨lw_p25, List.forall_mem_cons.mpr ⟨lw_p26, List.forall_mem_cons.mpr ⟨lw_p27, List.forall_mem_cons.mpr ⟨lw_p28, List.forall_mem_cons.mpr ⟨lw_p29, List.forall_mem_cons.mpr ⟨lw_p30, List.forall_mem_cons.mpr ⟨lw_p31, fun _ h => absurd h List.not_mem_nil⟩⟩⟩⟩⟩⟩⟩⟩⟩⟩⟩⟩⟩⟩⟩⟩
theorem lw_p32 : lw_okq (⟨"GhostKeysModel", "takeChord", "(I)V"⟩, 30) := ⟨⟨by decide +kernel, by decide +kernel⟩, List.mem_of_getElem? (i := 679) (by decide +kernel), List.mem_of_getElem? (i := 867) (by decide +kernel), List.mem_of_getElem? (i := 868) (by decide +kernel)⟩
theorem lw_p33 : lw_okq (⟨"GhostKeysModel", "disarm", "()V"⟩, 30) := ⟨⟨by decide +kernel, by decide +kernel⟩, List.mem_of_getElem? (i := 679) (by decide +kernel), List.mem_of_getElem? (i := 871) (by decide +kernel), List.mem_of_getElem? (i := 872) (by decide +kernel)⟩
theorem lw_p34 : lw_okq (⟨"GhostKeysModel", "topOf", "(I)I"⟩, 30) := ⟨⟨by decide +kernel, by decide +kernel⟩, List.mem_of_getElem? (i := 679) (by decide +kernel), List.mem_of_getElem? (i := 875) (by decide +kernel), List.mem_of_getElem? (i := 876) (by decide +kernel)⟩
theorem lw_p35 : lw_okq (⟨"GhostKeysModel", "isOn", "(I)Z"⟩, 30) := ⟨⟨by decide +kernel, by decide +kernel⟩, List.mem_of_getElem? (i := 679) (by decide +kernel), List.mem_of_getElem? (i := 879) (by decide +kernel), List.mem_of_getElem? (i := 880) (by decide +kernel)⟩
theorem lw_p36 : lw_okq (⟨"GhostKeysModel", "act", "(II)Z"⟩, 30) := ⟨⟨by decide +kernel, by decide +kernel⟩, List.mem_of_getElem? (i := 679) (by decide +kernel), List.mem_of_getElem? (i := 883) (by decide +kernel), List.mem_of_getElem? (i := 884) (by decide +kernel)⟩
theorem lw_p37 : lw_okq (⟨"GhostKeysModel", "tapOf", "()I"⟩, 30) := ⟨⟨by decide +kernel, by decide +kernel⟩, List.mem_of_getElem? (i := 679) (by decide +kernel), List.mem_of_getElem? (i := 887) (by decide +kernel), List.mem_of_getElem? (i := 888) (by decide +kernel)⟩
theorem lw_p38 : lw_okq (⟨"GhostKeysModel", "begin", "(III)V"⟩, 30) := ⟨⟨by decide +kernel, by decide +kernel⟩, List.mem_of_getElem? (i := 679) (by decide +kernel), List.mem_of_getElem? (i := 891) (by decide +kernel), List.mem_of_getElem? (i := 892) (by decide +kernel)⟩
theorem lw_p39 : lw_okq (⟨"GhostKeysModel", "play", "(I)V"⟩, 30) := ⟨⟨by decide +kernel, by decide +kernel⟩, List.mem_of_getElem? (i := 679) (by decide +kernel), List.mem_of_getElem? (i := 895) (by decide +kernel), List.mem_of_getElem? (i := 896) (by decide +kernel)⟩
theorem lw_p40 : lw_okq (⟨"GhostKeysModel", "touch", "(I)V"⟩, 30) := ⟨⟨by decide +kernel, by decide +kernel⟩, List.mem_of_getElem? (i := 679) (by decide +kernel), List.mem_of_getElem? (i := 899) (by decide +kernel), List.mem_of_getElem? (i := 900) (by decide +kernel)⟩
def lw_privs_3 : List (MethodName × Nat) := [(⟨"GhostKeysModel", "takeChord", "(I)V"⟩, 30), (⟨"GhostKeysModel", "disarm", "()V"⟩, 30), (⟨"GhostKeysModel", "topOf", "(I)I"⟩, 30), (⟨"GhostKeysModel", "isOn", "(I)Z"⟩, 30), (⟨"GhostKeysModel", "act", "(II)Z"⟩, 30), (⟨"GhostKeysModel", "tapOf", "()I"⟩, 30), (⟨"GhostKeysModel", "begin", "(III)V"⟩, 30), (⟨"GhostKeysModel", "play", "(I)V"⟩, 30), (⟨"GhostKeysModel", "touch", "(I)V"⟩, 30)]
theorem lw_r3 : ∀ q ∈ lw_privs_3, lw_okq q := List.forall_mem_cons.mpr ⟨lw_p32, List.forall_mem_cons.mpr ⟨lw_p33, List.forall_mem_cons.mpr ⟨lw_p34, List.forall_mem_cons.mpr ⟨lw_p35, List.forall_mem_cons.mpr ⟨lw_p36, List.forall_mem_cons.mpr ⟨lw_p37, List.forall_mem_cons.mpr ⟨lw_p38, List.forall_mem_cons.mpr ⟨lw_p39, List.forall_mem_cons.mpr ⟨lw_p40, fun _ h => absurd h List.not_mem_nil⟩⟩⟩⟩⟩⟩⟩⟩⟩
def lw_privs : List (MethodName × Nat) := lw_privs_1 ++ (lw_privs_2 ++ (lw_privs_3))
def lw_tbl : List Cond := k2_sels lw_privs ++ tables_1
theorem lw_privs_ok : ∀ q ∈ lw_privs, lw_okq q := by
  show ∀ q ∈ lw_privs_1 ++ (lw_privs_2 ++ (lw_privs_3)), lw_okq q
  exact List.forall_mem_append.mpr ⟨lw_r1, List.forall_mem_append.mpr ⟨lw_r2, lw_r3⟩⟩
/-! the words that every method takes: the tables' good ones -/
def tbG : List Cond := lw_tbl.filter goodWord
theorem tb_in {w : Cond} (h : w ∈ tables_1) (hg : goodWord w = true) : w ∈ tbG := List.mem_filter.mpr ⟨List.mem_append_right _ h, hg⟩
theorem tb_at {w : Cond} (i : Nat) (h : tables_1[i]? = some w) (hg : goodWord w = true) : w ∈ tbG := tb_in (List.mem_of_getElem? h) hg
theorem tb_sel {q : MethodName × Nat} (h : q ∈ lw_privs) (hg : goodWord (Cond.selects q.1.cls q.1 q.1) = true) : Cond.selects q.1.cls q.1 q.1 ∈ tbG := List.mem_filter.mpr ⟨List.mem_append_left _ (List.mem_map.mpr ⟨q, h, rfl⟩), hg⟩
theorem tb_good : GoodIn tbG tbG := fun w h => ⟨h, good_of_word (List.mem_filter.mp h).2⟩
theorem tb_goodC {c d : Cond} (h : d ∈ tbG) : GoodIn (c :: tbG) (d :: tbG) := fun w hw => (List.mem_cons.mp hw).elim (fun e => e ▸ ⟨List.mem_cons_of_mem _ h, (tb_good d h).2⟩) (fun h => ⟨List.mem_cons_of_mem _ h, (tb_good w h).2⟩)
theorem tb_of {s : State} {args : Array Value} (h : ∀ w ∈ lw_tbl, w.before args s = true) : ∀ w ∈ tbG, w.before args s = true := fun w hw => h w (List.mem_filter.mp hw).1
theorem tb_wsV {c d : Cond} {own C : String} {index : Nat} {y : MethodName} (h : d ∈ tbG) (h1 : Cond.methodLink own index y ∈ tbG) (h2 : Cond.instanceMethod y ∈ tbG) (h3 : Cond.selects C y y ∈ tbG) (h4 : Cond.initialized C ∈ tbG) : GoodIn (c :: tbG) (wsV own index C y (d :: tbG)) := fun w hw => by
  rcases List.mem_append.mp hw with hw | hw
  · have hm : w ∈ tbG := by
      rcases List.mem_cons.mp hw with rfl | hw
      · exact h1
      rcases List.mem_cons.mp hw with rfl | hw
      · exact h2
      rcases List.mem_cons.mp hw with rfl | hw
      · exact h3
      rcases List.mem_cons.mp hw with rfl | hw
      · exact h4
      cases hw
    exact ⟨List.mem_cons_of_mem _ hm, (tb_good w hm).2⟩
  · exact tb_goodC h w hw
theorem tb_vaS {c d : Cond} {own : String} {index : Nat} {y : MethodName} (h : d ∈ tbG) (h1 : Cond.methodLink own index y ∈ tbG) (h2 : Cond.static y ∈ tbG) (h4 : Cond.initialized y.cls ∈ tbG) : GoodIn (c :: tbG) (va_wsS own index y (d :: tbG)) := fun w hw => by
  rcases List.mem_append.mp hw with hw | hw
  · have hm : w ∈ tbG := by
      rcases List.mem_cons.mp hw with rfl | hw
      · exact h1
      rcases List.mem_cons.mp hw with rfl | hw
      · exact h2
      rcases List.mem_cons.mp hw with rfl | hw
      · exact h4
      cases hw
    exact ⟨List.mem_cons_of_mem _ hm, (tb_good w hm).2⟩
  · exact tb_goodC h w hw
theorem tb_wsS {c d : Cond} {own : String} {index : Nat} {y : MethodName} (h : d ∈ tbG) (h1 : Cond.methodLink own index y ∈ tbG) (h2 : Cond.static y ∈ tbG) (h4 : Cond.initialized own ∈ tbG) : GoodIn (c :: tbG) (wsS own index y (d :: tbG)) := fun w hw => by
  rcases List.mem_append.mp hw with hw | hw
  · have hm : w ∈ tbG := by
      rcases List.mem_cons.mp hw with rfl | hw
      · exact h1
      rcases List.mem_cons.mp hw with rfl | hw
      · exact h2
      rcases List.mem_cons.mp hw with rfl | hw
      · exact h4
      cases hw
    exact ⟨List.mem_cons_of_mem _ hm, (tb_good w hm).2⟩
  · exact tb_goodC h w hw
def R_G : String := "GhostKeys"
def R_Mx : String := "GhostKeys$Matrix"
def R_Hi : String := "GhostKeys$History"
def R_Eq : String := "GhostKeys$EventQueue"
def R_Km : String := "GhostKeys$Keymap"
def R_Ch : String := "GhostKeys$Chords"
def R_La : String := "GhostKeys$Layers"
def R_Ho : String := "GhostKeys$Holds"
def R_Re : String := "GhostKeys$Reports"
def R_Mo : String := "GhostKeysModel"
def R_Lw : String := "GhostKeysLaw"
def R_Ji : String := "java/lang/Integer"
def T_G : u_T := fun k => match k with
  | 0 => ("GhostKeys", "matrix", "LGhostKeys$Matrix;", true)
  | 1 => ("GhostKeys", "past", "LGhostKeys$History;", true)
  | 2 => ("GhostKeys", "queue", "LGhostKeys$EventQueue;", true)
  | 3 => ("GhostKeys", "keymap", "LGhostKeys$Keymap;", true)
  | 4 => ("GhostKeys", "chords", "LGhostKeys$Chords;", true)
  | 5 => ("GhostKeys", "layers", "LGhostKeys$Layers;", true)
  | 6 => ("GhostKeys", "holds", "LGhostKeys$Holds;", true)
  | 7 => ("GhostKeys", "reports", "LGhostKeys$Reports;", true)
  | _ => ("GhostKeys", "now", "I", false)
def ty_G : Nat → FieldType := fun k => match k with
  | 0 => .object "GhostKeys$Matrix"
  | 1 => .object "GhostKeys$History"
  | 2 => .object "GhostKeys$EventQueue"
  | 3 => .object "GhostKeys$Keymap"
  | 4 => .object "GhostKeys$Chords"
  | 5 => .object "GhostKeys$Layers"
  | 6 => .object "GhostKeys$Holds"
  | 7 => .object "GhostKeys$Reports"
  | _ => .int
theorem nm_G : ∀ a, a < 9 → ∀ b, b < 9 → a ≠ b → (T_G a).2.1 ≠ (T_G b).2.1 := by decide +kernel
theorem ty_G_ok : ∀ k, k < 9 → parseFieldDescriptor (T_G k).2.2.1 = some (ty_G k) := by decide +kernel
theorem tl_G_0 : u_lay R_G T_G 0 ∈ tbG := tb_at 184 (by decide +kernel) (by decide +kernel)
theorem tl_G_1 : u_lay R_G T_G 1 ∈ tbG := tb_at 186 (by decide +kernel) (by decide +kernel)
theorem tl_G_2 : u_lay R_G T_G 2 ∈ tbG := tb_at 188 (by decide +kernel) (by decide +kernel)
theorem tl_G_3 : u_lay R_G T_G 3 ∈ tbG := tb_at 190 (by decide +kernel) (by decide +kernel)
theorem tl_G_4 : u_lay R_G T_G 4 ∈ tbG := tb_at 192 (by decide +kernel) (by decide +kernel)
theorem tl_G_5 : u_lay R_G T_G 5 ∈ tbG := tb_at 194 (by decide +kernel) (by decide +kernel)
theorem tl_G_6 : u_lay R_G T_G 6 ∈ tbG := tb_at 196 (by decide +kernel) (by decide +kernel)
theorem tl_G_7 : u_lay R_G T_G 7 ∈ tbG := tb_at 198 (by decide +kernel) (by decide +kernel)
theorem tl_G_8 : u_lay R_G T_G 8 ∈ tbG := tb_at 200 (by decide +kernel) (by decide +kernel)
theorem tl_G : ∀ w ∈ u_ws R_G T_G 9, w ∈ tbG := by
  intro w hw
  obtain ⟨k, hk, rfl⟩ := List.mem_map.mp hw
  have hk := List.mem_range.mp hk
  rcases (show k = 0 ∨ k = 1 ∨ k = 2 ∨ k = 3 ∨ k = 4 ∨ k = 5 ∨ k = 6 ∨ k = 7 ∨ k = 8 by omega) with rfl | rfl | rfl | rfl | rfl | rfl | rfl | rfl | rfl
  · exact tl_G_0
  · exact tl_G_1
  · exact tl_G_2
  · exact tl_G_3
  · exact tl_G_4
  · exact tl_G_5
  · exact tl_G_6
  · exact tl_G_7
  · exact tl_G_8
def T_Mx : u_T := fun k => match k with
  | 0 => ("GhostKeys$Matrix", "bounces", "[I", true)
  | 1 => ("GhostKeys$Matrix", "otherwise", "[I", true)
  | 2 => ("GhostKeys$Matrix", "wired", "I", false)
  | 3 => ("GhostKeys$Matrix", "read", "I", false)
  | 4 => ("GhostKeys$Matrix", "seen", "I", false)
  | _ => ("GhostKeys$Matrix", "believed", "I", false)
def ty_Mx : Nat → FieldType := fun k => match k with
  | 0 => .array .int
  | 1 => .array .int
  | 2 => .int
  | 3 => .int
  | 4 => .int
  | _ => .int
theorem nm_Mx : ∀ a, a < 6 → ∀ b, b < 6 → a ≠ b → (T_Mx a).2.1 ≠ (T_Mx b).2.1 := by decide +kernel
theorem ty_Mx_ok : ∀ k, k < 6 → parseFieldDescriptor (T_Mx k).2.2.1 = some (ty_Mx k) := by decide +kernel
theorem tl_Mx_0 : u_lay R_Mx T_Mx 0 ∈ tbG := tb_at 39 (by decide +kernel) (by decide +kernel)
theorem tl_Mx_1 : u_lay R_Mx T_Mx 1 ∈ tbG := tb_at 41 (by decide +kernel) (by decide +kernel)
theorem tl_Mx_2 : u_lay R_Mx T_Mx 2 ∈ tbG := tb_at 43 (by decide +kernel) (by decide +kernel)
theorem tl_Mx_3 : u_lay R_Mx T_Mx 3 ∈ tbG := tb_at 45 (by decide +kernel) (by decide +kernel)
theorem tl_Mx_4 : u_lay R_Mx T_Mx 4 ∈ tbG := tb_at 47 (by decide +kernel) (by decide +kernel)
theorem tl_Mx_5 : u_lay R_Mx T_Mx 5 ∈ tbG := tb_at 49 (by decide +kernel) (by decide +kernel)
theorem tl_Mx : ∀ w ∈ u_ws R_Mx T_Mx 6, w ∈ tbG := by
  intro w hw
  obtain ⟨k, hk, rfl⟩ := List.mem_map.mp hw
  have hk := List.mem_range.mp hk
  rcases (show k = 0 ∨ k = 1 ∨ k = 2 ∨ k = 3 ∨ k = 4 ∨ k = 5 by omega) with rfl | rfl | rfl | rfl | rfl | rfl
  · exact tl_Mx_0
  · exact tl_Mx_1
  · exact tl_Mx_2
  · exact tl_Mx_3
  · exact tl_Mx_4
  · exact tl_Mx_5
def T_Hi : u_T := fun k => match k with
  | 0 => ("GhostKeys$History", "events", "[I", true)
  | 1 => ("GhostKeys$History", "next", "I", false)
  | _ => ("GhostKeys$History", "kept", "I", false)
def ty_Hi : Nat → FieldType := fun k => match k with
  | 0 => .array .int
  | 1 => .int
  | _ => .int
theorem nm_Hi : ∀ a, a < 3 → ∀ b, b < 3 → a ≠ b → (T_Hi a).2.1 ≠ (T_Hi b).2.1 := by decide +kernel
theorem ty_Hi_ok : ∀ k, k < 3 → parseFieldDescriptor (T_Hi k).2.2.1 = some (ty_Hi k) := by decide +kernel
theorem tl_Hi_0 : u_lay R_Hi T_Hi 0 ∈ tbG := tb_at 62 (by decide +kernel) (by decide +kernel)
theorem tl_Hi_1 : u_lay R_Hi T_Hi 1 ∈ tbG := tb_at 64 (by decide +kernel) (by decide +kernel)
theorem tl_Hi_2 : u_lay R_Hi T_Hi 2 ∈ tbG := tb_at 66 (by decide +kernel) (by decide +kernel)
theorem tl_Hi : ∀ w ∈ u_ws R_Hi T_Hi 3, w ∈ tbG := by
  intro w hw
  obtain ⟨k, hk, rfl⟩ := List.mem_map.mp hw
  have hk := List.mem_range.mp hk
  rcases (show k = 0 ∨ k = 1 ∨ k = 2 by omega) with rfl | rfl | rfl
  · exact tl_Hi_0
  · exact tl_Hi_1
  · exact tl_Hi_2
def T_Eq : u_T := fun k => match k with
  | 0 => ("GhostKeys$EventQueue", "events", "[I", true)
  | 1 => ("GhostKeys$EventQueue", "scanOf", "[I", true)
  | _ => ("GhostKeys$EventQueue", "length", "I", false)
def ty_Eq : Nat → FieldType := fun k => match k with
  | 0 => .array .int
  | 1 => .array .int
  | _ => .int
theorem nm_Eq : ∀ a, a < 3 → ∀ b, b < 3 → a ≠ b → (T_Eq a).2.1 ≠ (T_Eq b).2.1 := by decide +kernel
theorem ty_Eq_ok : ∀ k, k < 3 → parseFieldDescriptor (T_Eq k).2.2.1 = some (ty_Eq k) := by decide +kernel
theorem tl_Eq_0 : u_lay R_Eq T_Eq 0 ∈ tbG := tb_at 78 (by decide +kernel) (by decide +kernel)
theorem tl_Eq_1 : u_lay R_Eq T_Eq 1 ∈ tbG := tb_at 80 (by decide +kernel) (by decide +kernel)
theorem tl_Eq_2 : u_lay R_Eq T_Eq 2 ∈ tbG := tb_at 82 (by decide +kernel) (by decide +kernel)
theorem tl_Eq : ∀ w ∈ u_ws R_Eq T_Eq 3, w ∈ tbG := by
  intro w hw
  obtain ⟨k, hk, rfl⟩ := List.mem_map.mp hw
  have hk := List.mem_range.mp hk
  rcases (show k = 0 ∨ k = 1 ∨ k = 2 by omega) with rfl | rfl | rfl
  · exact tl_Eq_0
  · exact tl_Eq_1
  · exact tl_Eq_2
def T_Km : u_T := fun k => match k with
  | 0 => ("GhostKeys$Keymap", "kinds", "[I", true)
  | 1 => ("GhostKeys$Keymap", "firsts", "[I", true)
  | 2 => ("GhostKeys$Keymap", "seconds", "[I", true)
  | _ => ("GhostKeys$Keymap", "macroCodes", "[I", true)
def ty_Km : Nat → FieldType := fun k => match k with
  | 0 => .array .int
  | 1 => .array .int
  | 2 => .array .int
  | _ => .array .int
theorem nm_Km : ∀ a, a < 4 → ∀ b, b < 4 → a ≠ b → (T_Km a).2.1 ≠ (T_Km b).2.1 := by decide +kernel
theorem ty_Km_ok : ∀ k, k < 4 → parseFieldDescriptor (T_Km k).2.2.1 = some (ty_Km k) := by decide +kernel
theorem tl_Km_0 : u_lay R_Km T_Km 0 ∈ tbG := tb_at 95 (by decide +kernel) (by decide +kernel)
theorem tl_Km_1 : u_lay R_Km T_Km 1 ∈ tbG := tb_at 97 (by decide +kernel) (by decide +kernel)
theorem tl_Km_2 : u_lay R_Km T_Km 2 ∈ tbG := tb_at 99 (by decide +kernel) (by decide +kernel)
theorem tl_Km_3 : u_lay R_Km T_Km 3 ∈ tbG := tb_at 101 (by decide +kernel) (by decide +kernel)
theorem tl_Km : ∀ w ∈ u_ws R_Km T_Km 4, w ∈ tbG := by
  intro w hw
  obtain ⟨k, hk, rfl⟩ := List.mem_map.mp hw
  have hk := List.mem_range.mp hk
  rcases (show k = 0 ∨ k = 1 ∨ k = 2 ∨ k = 3 by omega) with rfl | rfl | rfl | rfl
  · exact tl_Km_0
  · exact tl_Km_1
  · exact tl_Km_2
  · exact tl_Km_3
def T_Ch : u_T := fun k => match k with
  | 0 => ("GhostKeys$Chords", "keys", "[I", true)
  | _ => ("GhostKeys$Chords", "codes", "[I", true)
def ty_Ch : Nat → FieldType := fun k => match k with
  | 0 => .array .int
  | _ => .array .int
theorem nm_Ch : ∀ a, a < 2 → ∀ b, b < 2 → a ≠ b → (T_Ch a).2.1 ≠ (T_Ch b).2.1 := by decide +kernel
theorem ty_Ch_ok : ∀ k, k < 2 → parseFieldDescriptor (T_Ch k).2.2.1 = some (ty_Ch k) := by decide +kernel
theorem tl_Ch_0 : u_lay R_Ch T_Ch 0 ∈ tbG := tb_at 112 (by decide +kernel) (by decide +kernel)
theorem tl_Ch_1 : u_lay R_Ch T_Ch 1 ∈ tbG := tb_at 114 (by decide +kernel) (by decide +kernel)
theorem tl_Ch : ∀ w ∈ u_ws R_Ch T_Ch 2, w ∈ tbG := by
  intro w hw
  obtain ⟨k, hk, rfl⟩ := List.mem_map.mp hw
  have hk := List.mem_range.mp hk
  rcases (show k = 0 ∨ k = 1 by omega) with rfl | rfl
  · exact tl_Ch_0
  · exact tl_Ch_1
def T_La : u_T := fun k => match k with
  | 0 => ("GhostKeys$Layers", "holders", "[I", true)
  | 1 => ("GhostKeys$Layers", "locked", "I", false)
  | _ => ("GhostKeys$Layers", "armed", "I", false)
def ty_La : Nat → FieldType := fun k => match k with
  | 0 => .array .int
  | 1 => .int
  | _ => .int
theorem nm_La : ∀ a, a < 3 → ∀ b, b < 3 → a ≠ b → (T_La a).2.1 ≠ (T_La b).2.1 := by decide +kernel
theorem ty_La_ok : ∀ k, k < 3 → parseFieldDescriptor (T_La k).2.2.1 = some (ty_La k) := by decide +kernel
theorem tl_La_0 : u_lay R_La T_La 0 ∈ tbG := tb_at 126 (by decide +kernel) (by decide +kernel)
theorem tl_La_1 : u_lay R_La T_La 1 ∈ tbG := tb_at 128 (by decide +kernel) (by decide +kernel)
theorem tl_La_2 : u_lay R_La T_La 2 ∈ tbG := tb_at 130 (by decide +kernel) (by decide +kernel)
theorem tl_La : ∀ w ∈ u_ws R_La T_La 3, w ∈ tbG := by
  intro w hw
  obtain ⟨k, hk, rfl⟩ := List.mem_map.mp hw
  have hk := List.mem_range.mp hk
  rcases (show k = 0 ∨ k = 1 ∨ k = 2 by omega) with rfl | rfl | rfl
  · exact tl_La_0
  · exact tl_La_1
  · exact tl_La_2
def T_Ho : u_T := fun k => match k with
  | 0 => ("GhostKeys$Holds", "codes", "[I", true)
  | _ => ("GhostKeys$Holds", "mates", "[I", true)
def ty_Ho : Nat → FieldType := fun k => match k with
  | 0 => .array .int
  | _ => .array .int
theorem nm_Ho : ∀ a, a < 2 → ∀ b, b < 2 → a ≠ b → (T_Ho a).2.1 ≠ (T_Ho b).2.1 := by decide +kernel
theorem ty_Ho_ok : ∀ k, k < 2 → parseFieldDescriptor (T_Ho k).2.2.1 = some (ty_Ho k) := by decide +kernel
theorem tl_Ho_0 : u_lay R_Ho T_Ho 0 ∈ tbG := tb_at 141 (by decide +kernel) (by decide +kernel)
theorem tl_Ho_1 : u_lay R_Ho T_Ho 1 ∈ tbG := tb_at 143 (by decide +kernel) (by decide +kernel)
theorem tl_Ho : ∀ w ∈ u_ws R_Ho T_Ho 2, w ∈ tbG := by
  intro w hw
  obtain ⟨k, hk, rfl⟩ := List.mem_map.mp hw
  have hk := List.mem_range.mp hk
  rcases (show k = 0 ∨ k = 1 by omega) with rfl | rfl
  · exact tl_Ho_0
  · exact tl_Ho_1
def T_Re : u_T := fun k => match k with
  | 0 => ("GhostKeys$Reports", "holders", "[I", true)
  | 1 => ("GhostKeys$Reports", "store", "[J", true)
  | 2 => ("GhostKeys$Reports", "oldest", "I", false)
  | 3 => ("GhostKeys$Reports", "stored", "I", false)
  | 4 => ("GhostKeys$Reports", "late", "Z", false)
  | 5 => ("GhostKeys$Reports", "lastPut", "J", false)
  | _ => ("GhostKeys$Reports", "taken", "J", false)
def ty_Re : Nat → FieldType := fun k => match k with
  | 0 => .array .int
  | 1 => .array .long
  | 2 => .int
  | 3 => .int
  | 4 => .boolean
  | 5 => .long
  | _ => .long
theorem nm_Re : ∀ a, a < 7 → ∀ b, b < 7 → a ≠ b → (T_Re a).2.1 ≠ (T_Re b).2.1 := by decide +kernel
theorem ty_Re_ok : ∀ k, k < 7 → parseFieldDescriptor (T_Re k).2.2.1 = some (ty_Re k) := by decide +kernel
theorem tl_Re_0 : u_lay R_Re T_Re 0 ∈ tbG := tb_at 159 (by decide +kernel) (by decide +kernel)
theorem tl_Re_1 : u_lay R_Re T_Re 1 ∈ tbG := tb_at 161 (by decide +kernel) (by decide +kernel)
theorem tl_Re_2 : u_lay R_Re T_Re 2 ∈ tbG := tb_at 163 (by decide +kernel) (by decide +kernel)
theorem tl_Re_3 : u_lay R_Re T_Re 3 ∈ tbG := tb_at 165 (by decide +kernel) (by decide +kernel)
theorem tl_Re_4 : u_lay R_Re T_Re 4 ∈ tbG := tb_at 167 (by decide +kernel) (by decide +kernel)
theorem tl_Re_5 : u_lay R_Re T_Re 5 ∈ tbG := tb_at 169 (by decide +kernel) (by decide +kernel)
theorem tl_Re_6 : u_lay R_Re T_Re 6 ∈ tbG := tb_at 171 (by decide +kernel) (by decide +kernel)
theorem tl_Re : ∀ w ∈ u_ws R_Re T_Re 7, w ∈ tbG := by
  intro w hw
  obtain ⟨k, hk, rfl⟩ := List.mem_map.mp hw
  have hk := List.mem_range.mp hk
  rcases (show k = 0 ∨ k = 1 ∨ k = 2 ∨ k = 3 ∨ k = 4 ∨ k = 5 ∨ k = 6 by omega) with rfl | rfl | rfl | rfl | rfl | rfl | rfl
  · exact tl_Re_0
  · exact tl_Re_1
  · exact tl_Re_2
  · exact tl_Re_3
  · exact tl_Re_4
  · exact tl_Re_5
  · exact tl_Re_6
def T_Mo : u_T := fun k => match k with
  | 0 => ("GhostKeysModel", "fault", "I", false)
  | 1 => ("GhostKeysModel", "now", "I", false)
  | 2 => ("GhostKeysModel", "wired", "[Z", true)
  | 3 => ("GhostKeysModel", "bounces", "[I", true)
  | 4 => ("GhostKeysModel", "closed", "[Z", true)
  | 5 => ("GhostKeysModel", "read", "[Z", true)
  | 6 => ("GhostKeysModel", "seen", "[Z", true)
  | 7 => ("GhostKeysModel", "others", "[I", true)
  | 8 => ("GhostKeysModel", "believed", "[Z", true)
  | 9 => ("GhostKeysModel", "queued", "I", false)
  | 10 => ("GhostKeysModel", "events", "[I", true)
  | 11 => ("GhostKeysModel", "scans", "[I", true)
  | 12 => ("GhostKeysModel", "told", "I", false)
  | 13 => ("GhostKeysModel", "latest", "[I", true)
  | 14 => ("GhostKeysModel", "kinds", "[I", true)
  | 15 => ("GhostKeysModel", "firsts", "[I", true)
  | 16 => ("GhostKeysModel", "seconds", "[I", true)
  | 17 => ("GhostKeysModel", "macros", "[I", true)
  | 18 => ("GhostKeysModel", "chordKeys", "[I", true)
  | 19 => ("GhostKeysModel", "chordCodes", "[I", true)
  | 20 => ("GhostKeysModel", "locked", "[Z", true)
  | 21 => ("GhostKeysModel", "armed", "[Z", true)
  | 22 => ("GhostKeysModel", "began", "[I", true)
  | 23 => ("GhostKeysModel", "beganWhat", "[I", true)
  | 24 => ("GhostKeysModel", "beganChord", "[I", true)
  | 25 => ("GhostKeysModel", "chords", "I", false)
  | 26 => ("GhostKeysModel", "down", "[I", true)
  | 27 => ("GhostKeysModel", "reports", "[I", true)
  | 28 => ("GhostKeysModel", "stored", "I", false)
  | _ => ("GhostKeysModel", "late", "Z", false)
def ty_Mo : Nat → FieldType := fun k => match k with
  | 0 => .int
  | 1 => .int
  | 2 => .array .boolean
  | 3 => .array .int
  | 4 => .array .boolean
  | 5 => .array .boolean
  | 6 => .array .boolean
  | 7 => .array .int
  | 8 => .array .boolean
  | 9 => .int
  | 10 => .array .int
  | 11 => .array .int
  | 12 => .int
  | 13 => .array .int
  | 14 => .array .int
  | 15 => .array .int
  | 16 => .array .int
  | 17 => .array .int
  | 18 => .array .int
  | 19 => .array .int
  | 20 => .array .boolean
  | 21 => .array .boolean
  | 22 => .array .int
  | 23 => .array .int
  | 24 => .array .int
  | 25 => .int
  | 26 => .array .int
  | 27 => .array .int
  | 28 => .int
  | _ => .boolean
theorem nm_Mo : ∀ a, a < 30 → ∀ b, b < 30 → a ≠ b → (T_Mo a).2.1 ≠ (T_Mo b).2.1 := by decide +kernel
theorem ty_Mo_ok : ∀ k, k < 30 → parseFieldDescriptor (T_Mo k).2.2.1 = some (ty_Mo k) := by decide +kernel
theorem tl_Mo_0 : u_lay R_Mo T_Mo 0 ∈ tbG := tb_at 714 (by decide +kernel) (by decide +kernel)
theorem tl_Mo_1 : u_lay R_Mo T_Mo 1 ∈ tbG := tb_at 716 (by decide +kernel) (by decide +kernel)
theorem tl_Mo_2 : u_lay R_Mo T_Mo 2 ∈ tbG := tb_at 718 (by decide +kernel) (by decide +kernel)
theorem tl_Mo_3 : u_lay R_Mo T_Mo 3 ∈ tbG := tb_at 720 (by decide +kernel) (by decide +kernel)
theorem tl_Mo_4 : u_lay R_Mo T_Mo 4 ∈ tbG := tb_at 722 (by decide +kernel) (by decide +kernel)
theorem tl_Mo_5 : u_lay R_Mo T_Mo 5 ∈ tbG := tb_at 724 (by decide +kernel) (by decide +kernel)
theorem tl_Mo_6 : u_lay R_Mo T_Mo 6 ∈ tbG := tb_at 726 (by decide +kernel) (by decide +kernel)
theorem tl_Mo_7 : u_lay R_Mo T_Mo 7 ∈ tbG := tb_at 728 (by decide +kernel) (by decide +kernel)
theorem tl_Mo_8 : u_lay R_Mo T_Mo 8 ∈ tbG := tb_at 730 (by decide +kernel) (by decide +kernel)
theorem tl_Mo_9 : u_lay R_Mo T_Mo 9 ∈ tbG := tb_at 732 (by decide +kernel) (by decide +kernel)
theorem tl_Mo_10 : u_lay R_Mo T_Mo 10 ∈ tbG := tb_at 734 (by decide +kernel) (by decide +kernel)
theorem tl_Mo_11 : u_lay R_Mo T_Mo 11 ∈ tbG := tb_at 736 (by decide +kernel) (by decide +kernel)
theorem tl_Mo_12 : u_lay R_Mo T_Mo 12 ∈ tbG := tb_at 738 (by decide +kernel) (by decide +kernel)
theorem tl_Mo_13 : u_lay R_Mo T_Mo 13 ∈ tbG := tb_at 740 (by decide +kernel) (by decide +kernel)
theorem tl_Mo_14 : u_lay R_Mo T_Mo 14 ∈ tbG := tb_at 742 (by decide +kernel) (by decide +kernel)
theorem tl_Mo_15 : u_lay R_Mo T_Mo 15 ∈ tbG := tb_at 744 (by decide +kernel) (by decide +kernel)
theorem tl_Mo_16 : u_lay R_Mo T_Mo 16 ∈ tbG := tb_at 746 (by decide +kernel) (by decide +kernel)
theorem tl_Mo_17 : u_lay R_Mo T_Mo 17 ∈ tbG := tb_at 748 (by decide +kernel) (by decide +kernel)
theorem tl_Mo_18 : u_lay R_Mo T_Mo 18 ∈ tbG := tb_at 750 (by decide +kernel) (by decide +kernel)
theorem tl_Mo_19 : u_lay R_Mo T_Mo 19 ∈ tbG := tb_at 752 (by decide +kernel) (by decide +kernel)
theorem tl_Mo_20 : u_lay R_Mo T_Mo 20 ∈ tbG := tb_at 754 (by decide +kernel) (by decide +kernel)
theorem tl_Mo_21 : u_lay R_Mo T_Mo 21 ∈ tbG := tb_at 756 (by decide +kernel) (by decide +kernel)
theorem tl_Mo_22 : u_lay R_Mo T_Mo 22 ∈ tbG := tb_at 758 (by decide +kernel) (by decide +kernel)
theorem tl_Mo_23 : u_lay R_Mo T_Mo 23 ∈ tbG := tb_at 760 (by decide +kernel) (by decide +kernel)
theorem tl_Mo_24 : u_lay R_Mo T_Mo 24 ∈ tbG := tb_at 762 (by decide +kernel) (by decide +kernel)
theorem tl_Mo_25 : u_lay R_Mo T_Mo 25 ∈ tbG := tb_at 764 (by decide +kernel) (by decide +kernel)
theorem tl_Mo_26 : u_lay R_Mo T_Mo 26 ∈ tbG := tb_at 766 (by decide +kernel) (by decide +kernel)
theorem tl_Mo_27 : u_lay R_Mo T_Mo 27 ∈ tbG := tb_at 768 (by decide +kernel) (by decide +kernel)
theorem tl_Mo_28 : u_lay R_Mo T_Mo 28 ∈ tbG := tb_at 770 (by decide +kernel) (by decide +kernel)
theorem tl_Mo_29 : u_lay R_Mo T_Mo 29 ∈ tbG := tb_at 772 (by decide +kernel) (by decide +kernel)
theorem tl_Mo : ∀ w ∈ u_ws R_Mo T_Mo 30, w ∈ tbG := by
  intro w hw
  obtain ⟨k, hk, rfl⟩ := List.mem_map.mp hw
  have hk := List.mem_range.mp hk
  rcases (show k = 0 ∨ k = 1 ∨ k = 2 ∨ k = 3 ∨ k = 4 ∨ k = 5 ∨ k = 6 ∨ k = 7 ∨ k = 8 ∨ k = 9 ∨ k = 10 ∨ k = 11 ∨ k = 12 ∨ k = 13 ∨ k = 14 ∨ k = 15 ∨ k = 16 ∨ k = 17 ∨ k = 18 ∨ k = 19 ∨ k = 20 ∨ k = 21 ∨ k = 22 ∨ k = 23 ∨ k = 24 ∨ k = 25 ∨ k = 26 ∨ k = 27 ∨ k = 28 ∨ k = 29 by omega) with rfl | rfl | rfl | rfl | rfl | rfl | rfl | rfl | rfl | rfl | rfl | rfl | rfl | rfl | rfl | rfl | rfl | rfl | rfl | rfl | rfl | rfl | rfl | rfl | rfl | rfl | rfl | rfl | rfl | rfl
  · exact tl_Mo_0
  · exact tl_Mo_1
  · exact tl_Mo_2
  · exact tl_Mo_3
  · exact tl_Mo_4
  · exact tl_Mo_5
  · exact tl_Mo_6
  · exact tl_Mo_7
  · exact tl_Mo_8
  · exact tl_Mo_9
  · exact tl_Mo_10
  · exact tl_Mo_11
  · exact tl_Mo_12
  · exact tl_Mo_13
  · exact tl_Mo_14
  · exact tl_Mo_15
  · exact tl_Mo_16
  · exact tl_Mo_17
  · exact tl_Mo_18
  · exact tl_Mo_19
  · exact tl_Mo_20
  · exact tl_Mo_21
  · exact tl_Mo_22
  · exact tl_Mo_23
  · exact tl_Mo_24
  · exact tl_Mo_25
  · exact tl_Mo_26
  · exact tl_Mo_27
  · exact tl_Mo_28
  · exact tl_Mo_29
abbrev vwCl : List vw_C := [(R_G, T_G, 9), (R_Mx, T_Mx, 6), (R_Hi, T_Hi, 3), (R_Eq, T_Eq, 3), (R_Km, T_Km, 4), (R_Ch, T_Ch, 2), (R_La, T_La, 3), (R_Ho, T_Ho, 2), (R_Re, T_Re, 7), (R_Mo, T_Mo, 30)]
abbrev b_G_init : ByteArray := prog_1_method_1_code
def y_G_init : MethodName := ⟨R_G, "<init>", "()V"⟩
abbrev cw_G_init : Cond := .code y_G_init b_G_init 1 none
def ws_G_init : List Cond := cw_G_init :: tbG
abbrev b_G_wire : ByteArray := prog_1_method_2_code
def y_G_wire : MethodName := ⟨R_G, "wire", "(IZ)V"⟩
abbrev cw_G_wire : Cond := .code y_G_wire b_G_wire 3 none
def ws_G_wire : List Cond := cw_G_wire :: tbG
abbrev b_G_bounce : ByteArray := prog_1_method_3_code
def y_G_bounce : MethodName := ⟨R_G, "bounce", "(II)V"⟩
abbrev cw_G_bounce : Cond := .code y_G_bounce b_G_bounce 3 none
def ws_G_bounce : List Cond := cw_G_bounce :: tbG
abbrev b_G_scan : ByteArray := prog_1_method_4_code
def y_G_scan : MethodName := ⟨R_G, "scan", "()I"⟩
abbrev cw_G_scan : Cond := .code y_G_scan b_G_scan 1 (some .int)
def ws_G_scan : List Cond := cw_G_scan :: tbG
abbrev b_G_scans : ByteArray := prog_1_method_5_code
def y_G_scans : MethodName := ⟨R_G, "scans", "(I)I"⟩
abbrev cw_G_scans : Cond := .code y_G_scans b_G_scans 4 (some .int)
def ws_G_scans : List Cond := cw_G_scans :: tbG
abbrev b_G_poll : ByteArray := prog_1_method_6_code
def y_G_poll : MethodName := ⟨R_G, "poll", "()Z"⟩
abbrev cw_G_poll : Cond := .code y_G_poll b_G_poll 1 (some .boolean)
def ws_G_poll : List Cond := cw_G_poll :: tbG
abbrev b_G_report : ByteArray := prog_1_method_7_code
def y_G_report : MethodName := ⟨R_G, "report", "(I)I"⟩
abbrev cw_G_report : Cond := .code y_G_report b_G_report 2 (some .int)
def ws_G_report : List Cond := cw_G_report :: tbG
abbrev b_G_waiting : ByteArray := prog_1_method_8_code
def y_G_waiting : MethodName := ⟨R_G, "waiting", "()I"⟩
abbrev cw_G_waiting : Cond := .code y_G_waiting b_G_waiting 1 (some .int)
def ws_G_waiting : List Cond := cw_G_waiting :: tbG
abbrev b_G_late : ByteArray := prog_1_method_9_code
def y_G_late : MethodName := ⟨R_G, "late", "()Z"⟩
abbrev cw_G_late : Cond := .code y_G_late b_G_late 1 (some .boolean)
def ws_G_late : List Cond := cw_G_late :: tbG
abbrev b_G_map : ByteArray := prog_1_method_10_code
def y_G_map : MethodName := ⟨R_G, "map", "(IIIII)V"⟩
abbrev cw_G_map : Cond := .code y_G_map b_G_map 6 none
def ws_G_map : List Cond := cw_G_map :: tbG
abbrev b_G_macro : ByteArray := prog_1_method_11_code
def y_G_macro : MethodName := ⟨R_G, "macro", "(III)V"⟩
abbrev cw_G_macro : Cond := .code y_G_macro b_G_macro 4 none
def ws_G_macro : List Cond := cw_G_macro :: tbG
abbrev b_G_chord : ByteArray := prog_1_method_12_code
def y_G_chord : MethodName := ⟨R_G, "chord", "(III)V"⟩
abbrev cw_G_chord : Cond := .code y_G_chord b_G_chord 4 none
def ws_G_chord : List Cond := cw_G_chord :: tbG
abbrev b_G_on : ByteArray := prog_1_method_13_code
def y_G_on : MethodName := ⟨R_G, "on", "(I)Z"⟩
abbrev cw_G_on : Cond := .code y_G_on b_G_on 2 (some .boolean)
def ws_G_on : List Cond := cw_G_on :: tbG
abbrev b_G_top : ByteArray := prog_1_method_14_code
def y_G_top : MethodName := ⟨R_G, "top", "(I)I"⟩
abbrev cw_G_top : Cond := .code y_G_top b_G_top 2 (some .int)
def ws_G_top : List Cond := cw_G_top :: tbG
abbrev b_G_key : ByteArray := prog_1_method_15_code
def y_G_key : MethodName := ⟨R_G, "key", "(II)I"⟩
abbrev cw_G_key : Cond := .code y_G_key b_G_key 3 (some .int)
def ws_G_key : List Cond := cw_G_key :: tbG
abbrev b_G_queued : ByteArray := prog_1_method_16_code
def y_G_queued : MethodName := ⟨R_G, "queued", "()I"⟩
abbrev cw_G_queued : Cond := .code y_G_queued b_G_queued 1 (some .int)
def ws_G_queued : List Cond := cw_G_queued :: tbG
abbrev b_G_history : ByteArray := prog_1_method_17_code
def y_G_history : MethodName := ⟨R_G, "history", "(I)I"⟩
abbrev cw_G_history : Cond := .code y_G_history b_G_history 2 (some .int)
def ws_G_history : List Cond := cw_G_history :: tbG
abbrev b_G_requireKey : ByteArray := prog_1_method_18_code
def y_G_requireKey : MethodName := ⟨R_G, "requireKey", "(I)V"⟩
abbrev cw_G_requireKey : Cond := .code y_G_requireKey b_G_requireKey 1 none
def ws_G_requireKey : List Cond := cw_G_requireKey :: tbG
abbrev b_G_requireLayer : ByteArray := prog_1_method_19_code
def y_G_requireLayer : MethodName := ⟨R_G, "requireLayer", "(I)V"⟩
abbrev cw_G_requireLayer : Cond := .code y_G_requireLayer b_G_requireLayer 1 none
def ws_G_requireLayer : List Cond := cw_G_requireLayer :: tbG
abbrev b_G_isCode : ByteArray := prog_1_method_20_code
def y_G_isCode : MethodName := ⟨R_G, "isCode", "(I)Z"⟩
abbrev cw_G_isCode : Cond := .code y_G_isCode b_G_isCode 1 (some .boolean)
def ws_G_isCode : List Cond := cw_G_isCode :: tbG
abbrev b_G_isUpperLayer : ByteArray := prog_1_method_21_code
def y_G_isUpperLayer : MethodName := ⟨R_G, "isUpperLayer", "(I)Z"⟩
abbrev cw_G_isUpperLayer : Cond := .code y_G_isUpperLayer b_G_isUpperLayer 1 (some .boolean)
def ws_G_isUpperLayer : List Cond := cw_G_isUpperLayer :: tbG
abbrev b_G_isChord : ByteArray := prog_1_method_22_code
def y_G_isChord : MethodName := ⟨R_G, "isChord", "(I)Z"⟩
abbrev cw_G_isChord : Cond := .code y_G_isChord b_G_isChord 2 (some .boolean)
def ws_G_isChord : List Cond := cw_G_isChord :: tbG
abbrev b_G_isAction : ByteArray := prog_1_method_23_code
def y_G_isAction : MethodName := ⟨R_G, "isAction", "(III)Z"⟩
abbrev cw_G_isAction : Cond := .code y_G_isAction b_G_isAction 3 (some .boolean)
def ws_G_isAction : List Cond := cw_G_isAction :: tbG
abbrev b_G_runScan : ByteArray := prog_1_method_24_code
def y_G_runScan : MethodName := ⟨R_G, "runScan", "()I"⟩
abbrev cw_G_runScan : Cond := .code y_G_runScan b_G_runScan 4 (some .int)
def ws_G_runScan : List Cond := cw_G_runScan :: tbG
abbrev b_G_bringEvents : ByteArray := prog_1_method_25_code
def y_G_bringEvents : MethodName := ⟨R_G, "bringEvents", "()I"⟩
abbrev cw_G_bringEvents : Cond := .code y_G_bringEvents b_G_bringEvents 4 (some .int)
def ws_G_bringEvents : List Cond := cw_G_bringEvents :: tbG
abbrev b_G_takeFirst : ByteArray := prog_1_method_26_code
def y_G_takeFirst : MethodName := ⟨R_G, "takeFirst", "()Z"⟩
abbrev cw_G_takeFirst : Cond := .code y_G_takeFirst b_G_takeFirst 3 (some .boolean)
def ws_G_takeFirst : List Cond := cw_G_takeFirst :: tbG
abbrev b_G_takeRelease : ByteArray := prog_1_method_27_code
def y_G_takeRelease : MethodName := ⟨R_G, "takeRelease", "()V"⟩
abbrev cw_G_takeRelease : Cond := .code y_G_takeRelease b_G_takeRelease 3 none
def ws_G_takeRelease : List Cond := cw_G_takeRelease :: tbG
abbrev b_G_waitsForChord : ByteArray := prog_1_method_28_code
def y_G_waitsForChord : MethodName := ⟨R_G, "waitsForChord", "(I)Z"⟩
abbrev cw_G_waitsForChord : Cond := .code y_G_waitsForChord b_G_waitsForChord 2 (some .boolean)
def ws_G_waitsForChord : List Cond := cw_G_waitsForChord :: tbG
abbrev b_G_takeChord : ByteArray := prog_1_method_29_code
def y_G_takeChord : MethodName := ⟨R_G, "takeChord", "(I)V"⟩
abbrev cw_G_takeChord : Cond := .code y_G_takeChord b_G_takeChord 4 none
def ws_G_takeChord : List Cond := cw_G_takeChord :: tbG
abbrev b_G_takeByAction : ByteArray := prog_1_method_30_code
def y_G_takeByAction : MethodName := ⟨R_G, "takeByAction", "()Z"⟩
abbrev cw_G_takeByAction : Cond := .code y_G_takeByAction b_G_takeByAction 6 (some .boolean)
def ws_G_takeByAction : List Cond := cw_G_takeByAction :: tbG
abbrev b_G_tellTap : ByteArray := prog_1_method_31_code
def y_G_tellTap : MethodName := ⟨R_G, "tellTap", "()I"⟩
abbrev cw_G_tellTap : Cond := .code y_G_tellTap b_G_tellTap 3 (some .int)
def ws_G_tellTap : List Cond := cw_G_tellTap :: tbG
abbrev b_G_actTap : ByteArray := prog_1_method_32_code
def y_G_actTap : MethodName := ⟨R_G, "actTap", "(III)V"⟩
abbrev cw_G_actTap : Cond := .code y_G_actTap b_G_actTap 5 none
def ws_G_actTap : List Cond := cw_G_actTap :: tbG
abbrev b_G_playMacro : ByteArray := prog_1_method_33_code
def y_G_playMacro : MethodName := ⟨R_G, "playMacro", "(I)V"⟩
abbrev cw_G_playMacro : Cond := .code y_G_playMacro b_G_playMacro 4 none
def ws_G_playMacro : List Cond := cw_G_playMacro :: tbG
abbrev b_Mo_init : ByteArray := prog_11_method_1_code
def y_Mo_init : MethodName := ⟨R_Mo, "<init>", "()V"⟩
abbrev cw_Mo_init : Cond := .code y_Mo_init b_Mo_init 1 none
def ws_Mo_init : List Cond := cw_Mo_init :: tbG
abbrev b_Mo_thrown : ByteArray := prog_11_method_2_code
def y_Mo_thrown : MethodName := ⟨R_Mo, "thrown", "()I"⟩
abbrev cw_Mo_thrown : Cond := .code y_Mo_thrown b_Mo_thrown 1 (some .int)
def ws_Mo_thrown : List Cond := cw_Mo_thrown :: tbG
abbrev b_Mo_refused : ByteArray := prog_11_method_3_code
def y_Mo_refused : MethodName := ⟨R_Mo, "refused", "(I)Z"⟩
abbrev cw_Mo_refused : Cond := .code y_Mo_refused b_Mo_refused 2 (some .boolean)
def ws_Mo_refused : List Cond := cw_Mo_refused :: tbG
abbrev b_Mo_isKey : ByteArray := prog_11_method_4_code
def y_Mo_isKey : MethodName := ⟨R_Mo, "isKey", "(I)Z"⟩
abbrev cw_Mo_isKey : Cond := .code y_Mo_isKey b_Mo_isKey 1 (some .boolean)
def ws_Mo_isKey : List Cond := cw_Mo_isKey :: tbG
abbrev b_Mo_isFour : ByteArray := prog_11_method_5_code
def y_Mo_isFour : MethodName := ⟨R_Mo, "isFour", "(I)Z"⟩
abbrev cw_Mo_isFour : Cond := .code y_Mo_isFour b_Mo_isFour 1 (some .boolean)
def ws_Mo_isFour : List Cond := cw_Mo_isFour :: tbG
abbrev b_Mo_isCode : ByteArray := prog_11_method_6_code
def y_Mo_isCode : MethodName := ⟨R_Mo, "isCode", "(I)Z"⟩
abbrev cw_Mo_isCode : Cond := .code y_Mo_isCode b_Mo_isCode 1 (some .boolean)
def ws_Mo_isCode : List Cond := cw_Mo_isCode :: tbG
abbrev b_Mo_wire : ByteArray := prog_11_method_7_code
def y_Mo_wire : MethodName := ⟨R_Mo, "wire", "(IZ)V"⟩
abbrev cw_Mo_wire : Cond := .code y_Mo_wire b_Mo_wire 3 none
def ws_Mo_wire : List Cond := cw_Mo_wire :: tbG
abbrev b_Mo_bounce : ByteArray := prog_11_method_8_code
def y_Mo_bounce : MethodName := ⟨R_Mo, "bounce", "(II)V"⟩
abbrev cw_Mo_bounce : Cond := .code y_Mo_bounce b_Mo_bounce 3 none
def ws_Mo_bounce : List Cond := cw_Mo_bounce :: tbG
abbrev b_Mo_hasCorners : ByteArray := prog_11_method_9_code
def y_Mo_hasCorners : MethodName := ⟨R_Mo, "hasCorners", "(IZ)Z"⟩
abbrev cw_Mo_hasCorners : Cond := .code y_Mo_hasCorners b_Mo_hasCorners 12 (some .boolean)
def ws_Mo_hasCorners : List Cond := cw_Mo_hasCorners :: tbG
abbrev b_Mo_look : ByteArray := prog_11_method_10_code
def y_Mo_look : MethodName := ⟨R_Mo, "look", "()V"⟩
abbrev cw_Mo_look : Cond := .code y_Mo_look b_Mo_look 2 none
def ws_Mo_look : List Cond := cw_Mo_look :: tbG
abbrev b_Mo_bring : ByteArray := prog_11_method_11_code
def y_Mo_bring : MethodName := ⟨R_Mo, "bring", "(II)V"⟩
abbrev cw_Mo_bring : Cond := .code y_Mo_bring b_Mo_bring 4 none
def ws_Mo_bring : List Cond := cw_Mo_bring :: tbG
abbrev b_Mo_believe : ByteArray := prog_11_method_12_code
def y_Mo_believe : MethodName := ⟨R_Mo, "believe", "()I"⟩
abbrev cw_Mo_believe : Cond := .code y_Mo_believe b_Mo_believe 5 (some .int)
def ws_Mo_believe : List Cond := cw_Mo_believe :: tbG
abbrev b_Mo_isOn : ByteArray := prog_11_method_13_code
def y_Mo_isOn : MethodName := ⟨R_Mo, "isOn", "(I)Z"⟩
abbrev cw_Mo_isOn : Cond := .code y_Mo_isOn b_Mo_isOn 4 (some .boolean)
def ws_Mo_isOn : List Cond := cw_Mo_isOn :: tbG
abbrev b_Mo_topOf : ByteArray := prog_11_method_14_code
def y_Mo_topOf : MethodName := ⟨R_Mo, "topOf", "(I)I"⟩
abbrev cw_Mo_topOf : Cond := .code y_Mo_topOf b_Mo_topOf 4 (some .int)
def ws_Mo_topOf : List Cond := cw_Mo_topOf :: tbG
abbrev b_Mo_makeReport : ByteArray := prog_11_method_15_code
def y_Mo_makeReport : MethodName := ⟨R_Mo, "makeReport", "()V"⟩
abbrev cw_Mo_makeReport : Cond := .code y_Mo_makeReport b_Mo_makeReport 4 none
def ws_Mo_makeReport : List Cond := cw_Mo_makeReport :: tbG
abbrev b_Mo_copyReport : ByteArray := prog_11_method_16_code
def y_Mo_copyReport : MethodName := ⟨R_Mo, "copyReport", "(II)V"⟩
abbrev cw_Mo_copyReport : Cond := .code y_Mo_copyReport b_Mo_copyReport 4 none
def ws_Mo_copyReport : List Cond := cw_Mo_copyReport :: tbG
abbrev b_Mo_tell : ByteArray := prog_11_method_17_code
def y_Mo_tell : MethodName := ⟨R_Mo, "tell", "()V"⟩
abbrev cw_Mo_tell : Cond := .code y_Mo_tell b_Mo_tell 3 none
def ws_Mo_tell : List Cond := cw_Mo_tell :: tbG
abbrev b_Mo_change : ByteArray := prog_11_method_18_code
def y_Mo_change : MethodName := ⟨R_Mo, "change", "(II)V"⟩
abbrev cw_Mo_change : Cond := .code y_Mo_change b_Mo_change 3 none
def ws_Mo_change : List Cond := cw_Mo_change :: tbG
abbrev b_Mo_touch : ByteArray := prog_11_method_19_code
def y_Mo_touch : MethodName := ⟨R_Mo, "touch", "(I)V"⟩
abbrev cw_Mo_touch : Cond := .code y_Mo_touch b_Mo_touch 2 none
def ws_Mo_touch : List Cond := cw_Mo_touch :: tbG
abbrev b_Mo_drop : ByteArray := prog_11_method_20_code
def y_Mo_drop : MethodName := ⟨R_Mo, "drop", "(I)V"⟩
abbrev cw_Mo_drop : Cond := .code y_Mo_drop b_Mo_drop 3 none
def ws_Mo_drop : List Cond := cw_Mo_drop :: tbG
abbrev b_Mo_takeRelease : ByteArray := prog_11_method_21_code
def y_Mo_takeRelease : MethodName := ⟨R_Mo, "takeRelease", "(I)V"⟩
abbrev cw_Mo_takeRelease : Cond := .code y_Mo_takeRelease b_Mo_takeRelease 6 none
def ws_Mo_takeRelease : List Cond := cw_Mo_takeRelease :: tbG
abbrev b_Mo_rowLength : ByteArray := prog_11_method_22_code
def y_Mo_rowLength : MethodName := ⟨R_Mo, "rowLength", "()I"⟩
abbrev cw_Mo_rowLength : Cond := .code y_Mo_rowLength b_Mo_rowLength 2 (some .int)
def ws_Mo_rowLength : List Cond := cw_Mo_rowLength :: tbG
abbrev b_Mo_keysOf : ByteArray := prog_11_method_23_code
def y_Mo_keysOf : MethodName := ⟨R_Mo, "keysOf", "(I)I"⟩
abbrev cw_Mo_keysOf : Cond := .code y_Mo_keysOf b_Mo_keysOf 4 (some .int)
def ws_Mo_keysOf : List Cond := cw_Mo_keysOf :: tbG
abbrev b_Mo_waitsForChord : ByteArray := prog_11_method_24_code
def y_Mo_waitsForChord : MethodName := ⟨R_Mo, "waitsForChord", "(I)Z"⟩
abbrev cw_Mo_waitsForChord : Cond := .code y_Mo_waitsForChord b_Mo_waitsForChord 5 (some .boolean)
def ws_Mo_waitsForChord : List Cond := cw_Mo_waitsForChord :: tbG
abbrev b_Mo_bitsOf : ByteArray := prog_11_method_25_code
def y_Mo_bitsOf : MethodName := ⟨R_Mo, "bitsOf", "(I)I"⟩
abbrev cw_Mo_bitsOf : Cond := .code y_Mo_bitsOf b_Mo_bitsOf 3 (some .int)
def ws_Mo_bitsOf : List Cond := cw_Mo_bitsOf :: tbG
abbrev b_Mo_chordOf : ByteArray := prog_11_method_26_code
def y_Mo_chordOf : MethodName := ⟨R_Mo, "chordOf", "(I)I"⟩
abbrev cw_Mo_chordOf : Cond := .code y_Mo_chordOf b_Mo_chordOf 6 (some .int)
def ws_Mo_chordOf : List Cond := cw_Mo_chordOf :: tbG
abbrev b_Mo_takeChord : ByteArray := prog_11_method_27_code
def y_Mo_takeChord : MethodName := ⟨R_Mo, "takeChord", "(I)V"⟩
abbrev cw_Mo_takeChord : Cond := .code y_Mo_takeChord b_Mo_takeChord 5 none
def ws_Mo_takeChord : List Cond := cw_Mo_takeChord :: tbG
abbrev b_Mo_disarm : ByteArray := prog_11_method_28_code
def y_Mo_disarm : MethodName := ⟨R_Mo, "disarm", "()V"⟩
abbrev cw_Mo_disarm : Cond := .code y_Mo_disarm b_Mo_disarm 2 none
def ws_Mo_disarm : List Cond := cw_Mo_disarm :: tbG
abbrev b_Mo_tapOf : ByteArray := prog_11_method_29_code
def y_Mo_tapOf : MethodName := ⟨R_Mo, "tapOf", "()I"⟩
abbrev cw_Mo_tapOf : Cond := .code y_Mo_tapOf b_Mo_tapOf 5 (some .int)
def ws_Mo_tapOf : List Cond := cw_Mo_tapOf :: tbG
abbrev b_Mo_begin : ByteArray := prog_11_method_30_code
def y_Mo_begin : MethodName := ⟨R_Mo, "begin", "(III)V"⟩
abbrev cw_Mo_begin : Cond := .code y_Mo_begin b_Mo_begin 4 none
def ws_Mo_begin : List Cond := cw_Mo_begin :: tbG
abbrev b_Mo_act : ByteArray := prog_11_method_31_code
def y_Mo_act : MethodName := ⟨R_Mo, "act", "(II)Z"⟩
abbrev cw_Mo_act : Cond := .code y_Mo_act b_Mo_act 6 (some .boolean)
def ws_Mo_act : List Cond := cw_Mo_act :: tbG
abbrev b_Mo_play : ByteArray := prog_11_method_32_code
def y_Mo_play : MethodName := ⟨R_Mo, "play", "(I)V"⟩
abbrev cw_Mo_play : Cond := .code y_Mo_play b_Mo_play 3 none
def ws_Mo_play : List Cond := cw_Mo_play :: tbG
abbrev b_Mo_takeFirst : ByteArray := prog_11_method_33_code
def y_Mo_takeFirst : MethodName := ⟨R_Mo, "takeFirst", "()Z"⟩
abbrev cw_Mo_takeFirst : Cond := .code y_Mo_takeFirst b_Mo_takeFirst 5 (some .boolean)
def ws_Mo_takeFirst : List Cond := cw_Mo_takeFirst :: tbG
abbrev b_Mo_scanOnce : ByteArray := prog_11_method_34_code
def y_Mo_scanOnce : MethodName := ⟨R_Mo, "scanOnce", "()I"⟩
abbrev cw_Mo_scanOnce : Cond := .code y_Mo_scanOnce b_Mo_scanOnce 3 (some .int)
def ws_Mo_scanOnce : List Cond := cw_Mo_scanOnce :: tbG
abbrev b_Mo_scan : ByteArray := prog_11_method_35_code
def y_Mo_scan : MethodName := ⟨R_Mo, "scan", "()I"⟩
abbrev cw_Mo_scan : Cond := .code y_Mo_scan b_Mo_scan 1 (some .int)
def ws_Mo_scan : List Cond := cw_Mo_scan :: tbG
abbrev b_Mo_scans : ByteArray := prog_11_method_36_code
def y_Mo_scans : MethodName := ⟨R_Mo, "scans", "(I)I"⟩
abbrev cw_Mo_scans : Cond := .code y_Mo_scans b_Mo_scans 4 (some .int)
def ws_Mo_scans : List Cond := cw_Mo_scans :: tbG
abbrev b_Mo_poll : ByteArray := prog_11_method_37_code
def y_Mo_poll : MethodName := ⟨R_Mo, "poll", "()Z"⟩
abbrev cw_Mo_poll : Cond := .code y_Mo_poll b_Mo_poll 2 (some .boolean)
def ws_Mo_poll : List Cond := cw_Mo_poll :: tbG
abbrev b_Mo_report : ByteArray := prog_11_method_38_code
def y_Mo_report : MethodName := ⟨R_Mo, "report", "(I)I"⟩
abbrev cw_Mo_report : Cond := .code y_Mo_report b_Mo_report 2 (some .int)
def ws_Mo_report : List Cond := cw_Mo_report :: tbG
abbrev b_Mo_waiting : ByteArray := prog_11_method_39_code
def y_Mo_waiting : MethodName := ⟨R_Mo, "waiting", "()I"⟩
abbrev cw_Mo_waiting : Cond := .code y_Mo_waiting b_Mo_waiting 1 (some .int)
def ws_Mo_waiting : List Cond := cw_Mo_waiting :: tbG
abbrev b_Mo_late : ByteArray := prog_11_method_40_code
def y_Mo_late : MethodName := ⟨R_Mo, "late", "()Z"⟩
abbrev cw_Mo_late : Cond := .code y_Mo_late b_Mo_late 1 (some .boolean)
def ws_Mo_late : List Cond := cw_Mo_late :: tbG
abbrev b_Mo_isSound : ByteArray := prog_11_method_41_code
def y_Mo_isSound : MethodName := ⟨R_Mo, "isSound", "(III)Z"⟩
abbrev cw_Mo_isSound : Cond := .code y_Mo_isSound b_Mo_isSound 4 (some .boolean)
def ws_Mo_isSound : List Cond := cw_Mo_isSound :: tbG
abbrev b_Mo_map : ByteArray := prog_11_method_42_code
def y_Mo_map : MethodName := ⟨R_Mo, "map", "(IIIII)V"⟩
abbrev cw_Mo_map : Cond := .code y_Mo_map b_Mo_map 7 none
def ws_Mo_map : List Cond := cw_Mo_map :: tbG
abbrev b_Mo_macro : ByteArray := prog_11_method_43_code
def y_Mo_macro : MethodName := ⟨R_Mo, "macro", "(III)V"⟩
abbrev cw_Mo_macro : Cond := .code y_Mo_macro b_Mo_macro 4 none
def ws_Mo_macro : List Cond := cw_Mo_macro :: tbG
abbrev b_Mo_chord : ByteArray := prog_11_method_44_code
def y_Mo_chord : MethodName := ⟨R_Mo, "chord", "(III)V"⟩
abbrev cw_Mo_chord : Cond := .code y_Mo_chord b_Mo_chord 8 none
def ws_Mo_chord : List Cond := cw_Mo_chord :: tbG
abbrev b_Mo_on : ByteArray := prog_11_method_45_code
def y_Mo_on : MethodName := ⟨R_Mo, "on", "(I)Z"⟩
abbrev cw_Mo_on : Cond := .code y_Mo_on b_Mo_on 2 (some .boolean)
def ws_Mo_on : List Cond := cw_Mo_on :: tbG
abbrev b_Mo_top : ByteArray := prog_11_method_46_code
def y_Mo_top : MethodName := ⟨R_Mo, "top", "(I)I"⟩
abbrev cw_Mo_top : Cond := .code y_Mo_top b_Mo_top 2 (some .int)
def ws_Mo_top : List Cond := cw_Mo_top :: tbG
abbrev b_Mo_key : ByteArray := prog_11_method_47_code
def y_Mo_key : MethodName := ⟨R_Mo, "key", "(II)I"⟩
abbrev cw_Mo_key : Cond := .code y_Mo_key b_Mo_key 4 (some .int)
def ws_Mo_key : List Cond := cw_Mo_key :: tbG
abbrev b_Mo_queued : ByteArray := prog_11_method_48_code
def y_Mo_queued : MethodName := ⟨R_Mo, "queued", "()I"⟩
abbrev cw_Mo_queued : Cond := .code y_Mo_queued b_Mo_queued 1 (some .int)
def ws_Mo_queued : List Cond := cw_Mo_queued :: tbG
abbrev b_Mo_history : ByteArray := prog_11_method_49_code
def y_Mo_history : MethodName := ⟨R_Mo, "history", "(I)I"⟩
abbrev cw_Mo_history : Cond := .code y_Mo_history b_Mo_history 2 (some .int)
def ws_Mo_history : List Cond := cw_Mo_history :: tbG
abbrev b_Ch_init : ByteArray := prog_2_method_1_code
def y_Ch_init : MethodName := ⟨R_Ch, "<init>", "()V"⟩
abbrev cw_Ch_init : Cond := .code y_Ch_init b_Ch_init 1 none
def ws_Ch_init : List Cond := cw_Ch_init :: tbG
abbrev b_Ch_setChord : ByteArray := prog_2_method_2_code
def y_Ch_setChord : MethodName := ⟨R_Ch, "setChord", "(III)V"⟩
abbrev cw_Ch_setChord : Cond := .code y_Ch_setChord b_Ch_setChord 4 none
def ws_Ch_setChord : List Cond := cw_Ch_setChord :: tbG
abbrev b_Ch_keysOf : ByteArray := prog_2_method_3_code
def y_Ch_keysOf : MethodName := ⟨R_Ch, "keysOf", "(I)I"⟩
abbrev cw_Ch_keysOf : Cond := .code y_Ch_keysOf b_Ch_keysOf 2 (some .int)
def ws_Ch_keysOf : List Cond := cw_Ch_keysOf :: tbG
abbrev b_Ch_codeOf : ByteArray := prog_2_method_4_code
def y_Ch_codeOf : MethodName := ⟨R_Ch, "codeOf", "(I)I"⟩
abbrev cw_Ch_codeOf : Cond := .code y_Ch_codeOf b_Ch_codeOf 2 (some .int)
def ws_Ch_codeOf : List Cond := cw_Ch_codeOf :: tbG
abbrev b_Ch_hasElsewhere : ByteArray := prog_2_method_5_code
def y_Ch_hasElsewhere : MethodName := ⟨R_Ch, "hasElsewhere", "(II)Z"⟩
abbrev cw_Ch_hasElsewhere : Cond := .code y_Ch_hasElsewhere b_Ch_hasElsewhere 4 (some .boolean)
def ws_Ch_hasElsewhere : List Cond := cw_Ch_hasElsewhere :: tbG
abbrev b_Ch_canGrowFrom : ByteArray := prog_2_method_6_code
def y_Ch_canGrowFrom : MethodName := ⟨R_Ch, "canGrowFrom", "(I)Z"⟩
abbrev cw_Ch_canGrowFrom : Cond := .code y_Ch_canGrowFrom b_Ch_canGrowFrom 3 (some .boolean)
def ws_Ch_canGrowFrom : List Cond := cw_Ch_canGrowFrom :: tbG
abbrev b_Ch_longestAtStart : ByteArray := prog_2_method_7_code
def y_Ch_longestAtStart : MethodName := ⟨R_Ch, "longestAtStart", "(LGhostKeys$EventQueue;I)I"⟩
abbrev cw_Ch_longestAtStart : Cond := .code y_Ch_longestAtStart b_Ch_longestAtStart 7 (some .int)
def ws_Ch_longestAtStart : List Cond := cw_Ch_longestAtStart :: tbG
abbrev b_Eq_init : ByteArray := prog_3_method_1_code
def y_Eq_init : MethodName := ⟨R_Eq, "<init>", "()V"⟩
abbrev cw_Eq_init : Cond := .code y_Eq_init b_Eq_init 1 none
def ws_Eq_init : List Cond := cw_Eq_init :: tbG
abbrev b_Eq_length : ByteArray := prog_3_method_2_code
def y_Eq_length : MethodName := ⟨R_Eq, "length", "()I"⟩
abbrev cw_Eq_length : Cond := .code y_Eq_length b_Eq_length 1 (some .int)
def ws_Eq_length : List Cond := cw_Eq_length :: tbG
abbrev b_Eq_add : ByteArray := prog_3_method_3_code
def y_Eq_add : MethodName := ⟨R_Eq, "add", "(II)V"⟩
abbrev cw_Eq_add : Cond := .code y_Eq_add b_Eq_add 3 none
def ws_Eq_add : List Cond := cw_Eq_add :: tbG
abbrev b_Eq_removeFirst : ByteArray := prog_3_method_4_code
def y_Eq_removeFirst : MethodName := ⟨R_Eq, "removeFirst", "(I)V"⟩
abbrev cw_Eq_removeFirst : Cond := .code y_Eq_removeFirst b_Eq_removeFirst 3 none
def ws_Eq_removeFirst : List Cond := cw_Eq_removeFirst :: tbG
abbrev b_Eq_isPress : ByteArray := prog_3_method_5_code
def y_Eq_isPress : MethodName := ⟨R_Eq, "isPress", "(I)Z"⟩
abbrev cw_Eq_isPress : Cond := .code y_Eq_isPress b_Eq_isPress 2 (some .boolean)
def ws_Eq_isPress : List Cond := cw_Eq_isPress :: tbG
abbrev b_Eq_keyAt : ByteArray := prog_3_method_6_code
def y_Eq_keyAt : MethodName := ⟨R_Eq, "keyAt", "(I)I"⟩
abbrev cw_Eq_keyAt : Cond := .code y_Eq_keyAt b_Eq_keyAt 2 (some .int)
def ws_Eq_keyAt : List Cond := cw_Eq_keyAt :: tbG
abbrev b_Eq_scanAt : ByteArray := prog_3_method_7_code
def y_Eq_scanAt : MethodName := ⟨R_Eq, "scanAt", "(I)I"⟩
abbrev cw_Eq_scanAt : Cond := .code y_Eq_scanAt b_Eq_scanAt 2 (some .int)
def ws_Eq_scanAt : List Cond := cw_Eq_scanAt :: tbG
abbrev b_Eq_rowLength : ByteArray := prog_3_method_8_code
def y_Eq_rowLength : MethodName := ⟨R_Eq, "rowLength", "()I"⟩
abbrev cw_Eq_rowLength : Cond := .code y_Eq_rowLength b_Eq_rowLength 2 (some .int)
def ws_Eq_rowLength : List Cond := cw_Eq_rowLength :: tbG
abbrev b_Eq_firstKeys : ByteArray := prog_3_method_9_code
def y_Eq_firstKeys : MethodName := ⟨R_Eq, "firstKeys", "(I)I"⟩
abbrev cw_Eq_firstKeys : Cond := .code y_Eq_firstKeys b_Eq_firstKeys 4 (some .int)
def ws_Eq_firstKeys : List Cond := cw_Eq_firstKeys :: tbG
abbrev b_Eq_tellTap : ByteArray := prog_3_method_10_code
def y_Eq_tellTap : MethodName := ⟨R_Eq, "tellTap", "()I"⟩
abbrev cw_Eq_tellTap : Cond := .code y_Eq_tellTap b_Eq_tellTap 4 (some .int)
def ws_Eq_tellTap : List Cond := cw_Eq_tellTap :: tbG
abbrev b_Hi_init : ByteArray := prog_4_method_1_code
def y_Hi_init : MethodName := ⟨R_Hi, "<init>", "()V"⟩
abbrev cw_Hi_init : Cond := .code y_Hi_init b_Hi_init 1 none
def ws_Hi_init : List Cond := cw_Hi_init :: tbG
abbrev b_Hi_add : ByteArray := prog_4_method_2_code
def y_Hi_add : MethodName := ⟨R_Hi, "add", "(I)V"⟩
abbrev cw_Hi_add : Cond := .code y_Hi_add b_Hi_add 2 none
def ws_Hi_add : List Cond := cw_Hi_add :: tbG
abbrev b_Hi_latest : ByteArray := prog_4_method_3_code
def y_Hi_latest : MethodName := ⟨R_Hi, "latest", "(I)I"⟩
abbrev cw_Hi_latest : Cond := .code y_Hi_latest b_Hi_latest 2 (some .int)
def ws_Hi_latest : List Cond := cw_Hi_latest :: tbG
abbrev b_Ho_init : ByteArray := prog_5_method_1_code
def y_Ho_init : MethodName := ⟨R_Ho, "<init>", "()V"⟩
abbrev cw_Ho_init : Cond := .code y_Ho_init b_Ho_init 1 none
def ws_Ho_init : List Cond := cw_Ho_init :: tbG
abbrev b_Ho_begin : ByteArray := prog_5_method_2_code
def y_Ho_begin : MethodName := ⟨R_Ho, "begin", "(II)V"⟩
abbrev cw_Ho_begin : Cond := .code y_Ho_begin b_Ho_begin 4 none
def ws_Ho_begin : List Cond := cw_Ho_begin :: tbG
abbrev b_Ho_end : ByteArray := prog_5_method_3_code
def y_Ho_end : MethodName := ⟨R_Ho, "end", "(I)I"⟩
abbrev cw_Ho_end : Cond := .code y_Ho_end b_Ho_end 3 (some .int)
def ws_Ho_end : List Cond := cw_Ho_end :: tbG
abbrev b_Km_init : ByteArray := prog_6_method_1_code
def y_Km_init : MethodName := ⟨R_Km, "<init>", "()V"⟩
abbrev cw_Km_init : Cond := .code y_Km_init b_Km_init 1 none
def ws_Km_init : List Cond := cw_Km_init :: tbG
abbrev b_Km_setAction : ByteArray := prog_6_method_2_code
def y_Km_setAction : MethodName := ⟨R_Km, "setAction", "(IIIII)V"⟩
abbrev cw_Km_setAction : Cond := .code y_Km_setAction b_Km_setAction 7 none
def ws_Km_setAction : List Cond := cw_Km_setAction :: tbG
abbrev b_Km_setMacroCode : ByteArray := prog_6_method_3_code
def y_Km_setMacroCode : MethodName := ⟨R_Km, "setMacroCode", "(III)V"⟩
abbrev cw_Km_setMacroCode : Cond := .code y_Km_setMacroCode b_Km_setMacroCode 4 none
def ws_Km_setMacroCode : List Cond := cw_Km_setMacroCode :: tbG
abbrev b_Km_macroCode : ByteArray := prog_6_method_4_code
def y_Km_macroCode : MethodName := ⟨R_Km, "macroCode", "(II)I"⟩
abbrev cw_Km_macroCode : Cond := .code y_Km_macroCode b_Km_macroCode 3 (some .int)
def ws_Km_macroCode : List Cond := cw_Km_macroCode :: tbG
abbrev b_Km_topLayer : ByteArray := prog_6_method_5_code
def y_Km_topLayer : MethodName := ⟨R_Km, "topLayer", "(ILGhostKeys$Layers;)I"⟩
abbrev cw_Km_topLayer : Cond := .code y_Km_topLayer b_Km_topLayer 4 (some .int)
def ws_Km_topLayer : List Cond := cw_Km_topLayer :: tbG
abbrev b_Km_kind : ByteArray := prog_6_method_6_code
def y_Km_kind : MethodName := ⟨R_Km, "kind", "(II)I"⟩
abbrev cw_Km_kind : Cond := .code y_Km_kind b_Km_kind 3 (some .int)
def ws_Km_kind : List Cond := cw_Km_kind :: tbG
abbrev b_Km_a : ByteArray := prog_6_method_7_code
def y_Km_a : MethodName := ⟨R_Km, "a", "(II)I"⟩
abbrev cw_Km_a : Cond := .code y_Km_a b_Km_a 3 (some .int)
def ws_Km_a : List Cond := cw_Km_a :: tbG
abbrev b_Km_b : ByteArray := prog_6_method_8_code
def y_Km_b : MethodName := ⟨R_Km, "b", "(II)I"⟩
abbrev cw_Km_b : Cond := .code y_Km_b b_Km_b 3 (some .int)
def ws_Km_b : List Cond := cw_Km_b :: tbG
abbrev b_La_init : ByteArray := prog_7_method_1_code
def y_La_init : MethodName := ⟨R_La, "<init>", "()V"⟩
abbrev cw_La_init : Cond := .code y_La_init b_La_init 1 none
def ws_La_init : List Cond := cw_La_init :: tbG
abbrev b_La_isOn : ByteArray := prog_7_method_2_code
def y_La_isOn : MethodName := ⟨R_La, "isOn", "(I)Z"⟩
abbrev cw_La_isOn : Cond := .code y_La_isOn b_La_isOn 2 (some .boolean)
def ws_La_isOn : List Cond := cw_La_isOn :: tbG
abbrev b_La_hold : ByteArray := prog_7_method_3_code
def y_La_hold : MethodName := ⟨R_La, "hold", "(II)V"⟩
abbrev cw_La_hold : Cond := .code y_La_hold b_La_hold 3 none
def ws_La_hold : List Cond := cw_La_hold :: tbG
abbrev b_La_letGo : ByteArray := prog_7_method_4_code
def y_La_letGo : MethodName := ⟨R_La, "letGo", "(I)V"⟩
abbrev cw_La_letGo : Cond := .code y_La_letGo b_La_letGo 3 none
def ws_La_letGo : List Cond := cw_La_letGo :: tbG
abbrev b_La_turnLock : ByteArray := prog_7_method_5_code
def y_La_turnLock : MethodName := ⟨R_La, "turnLock", "(I)V"⟩
abbrev cw_La_turnLock : Cond := .code y_La_turnLock b_La_turnLock 2 none
def ws_La_turnLock : List Cond := cw_La_turnLock :: tbG
abbrev b_La_arm : ByteArray := prog_7_method_6_code
def y_La_arm : MethodName := ⟨R_La, "arm", "(I)V"⟩
abbrev cw_La_arm : Cond := .code y_La_arm b_La_arm 2 none
def ws_La_arm : List Cond := cw_La_arm :: tbG
abbrev b_La_disarm : ByteArray := prog_7_method_7_code
def y_La_disarm : MethodName := ⟨R_La, "disarm", "()V"⟩
abbrev cw_La_disarm : Cond := .code y_La_disarm b_La_disarm 1 none
def ws_La_disarm : List Cond := cw_La_disarm :: tbG
abbrev b_Mx_init : ByteArray := prog_8_method_1_code
def y_Mx_init : MethodName := ⟨R_Mx, "<init>", "()V"⟩
abbrev cw_Mx_init : Cond := .code y_Mx_init b_Mx_init 1 none
def ws_Mx_init : List Cond := cw_Mx_init :: tbG
abbrev b_Mx_setWired : ByteArray := prog_8_method_2_code
def y_Mx_setWired : MethodName := ⟨R_Mx, "setWired", "(IZ)V"⟩
abbrev cw_Mx_setWired : Cond := .code y_Mx_setWired b_Mx_setWired 3 none
def ws_Mx_setWired : List Cond := cw_Mx_setWired :: tbG
abbrev b_Mx_setBounce : ByteArray := prog_8_method_3_code
def y_Mx_setBounce : MethodName := ⟨R_Mx, "setBounce", "(II)V"⟩
abbrev cw_Mx_setBounce : Cond := .code y_Mx_setBounce b_Mx_setBounce 3 none
def ws_Mx_setBounce : List Cond := cw_Mx_setBounce :: tbG
abbrev b_Mx_keysThatAre : ByteArray := prog_8_method_4_code
def y_Mx_keysThatAre : MethodName := ⟨R_Mx, "keysThatAre", "(I)I"⟩
abbrev cw_Mx_keysThatAre : Cond := .code y_Mx_keysThatAre b_Mx_keysThatAre 2 (some .int)
def ws_Mx_keysThatAre : List Cond := cw_Mx_keysThatAre :: tbG
abbrev b_Mx_look : ByteArray := prog_8_method_5_code
def y_Mx_look : MethodName := ⟨R_Mx, "look", "()V"⟩
abbrev cw_Mx_look : Cond := .code y_Mx_look b_Mx_look 3 none
def ws_Mx_look : List Cond := cw_Mx_look :: tbG
abbrev b_Mx_believe : ByteArray := prog_8_method_6_code
def y_Mx_believe : MethodName := ⟨R_Mx, "believe", "(I)I"⟩
abbrev cw_Mx_believe : Cond := .code y_Mx_believe b_Mx_believe 3 (some .int)
def ws_Mx_believe : List Cond := cw_Mx_believe :: tbG
abbrev b_Mx_closedContacts : ByteArray := prog_8_method_7_code
def y_Mx_closedContacts : MethodName := ⟨R_Mx, "closedContacts", "()I"⟩
abbrev cw_Mx_closedContacts : Cond := .code y_Mx_closedContacts b_Mx_closedContacts 3 (some .int)
def ws_Mx_closedContacts : List Cond := cw_Mx_closedContacts :: tbG
abbrev b_Mx_watch : ByteArray := prog_8_method_8_code
def y_Mx_watch : MethodName := ⟨R_Mx, "watch", "(I)V"⟩
abbrev cw_Mx_watch : Cond := .code y_Mx_watch b_Mx_watch 3 none
def ws_Mx_watch : List Cond := cw_Mx_watch :: tbG
abbrev b_Mx_isFourthCorner : ByteArray := prog_8_method_9_code
def y_Mx_isFourthCorner : MethodName := ⟨R_Mx, "isFourthCorner", "(II)Z"⟩
abbrev cw_Mx_isFourthCorner : Cond := .code y_Mx_isFourthCorner b_Mx_isFourthCorner 7 (some .boolean)
def ws_Mx_isFourthCorner : List Cond := cw_Mx_isFourthCorner :: tbG
abbrev b_Mx_rowOf : ByteArray := prog_8_method_10_code
def y_Mx_rowOf : MethodName := ⟨R_Mx, "rowOf", "(II)I"⟩
abbrev cw_Mx_rowOf : Cond := .code y_Mx_rowOf b_Mx_rowOf 2 (some .int)
def ws_Mx_rowOf : List Cond := cw_Mx_rowOf :: tbG
abbrev b_Re_init : ByteArray := prog_9_method_1_code
def y_Re_init : MethodName := ⟨R_Re, "<init>", "()V"⟩
abbrev cw_Re_init : Cond := .code y_Re_init b_Re_init 1 none
def ws_Re_init : List Cond := cw_Re_init :: tbG
abbrev b_Re_stored : ByteArray := prog_9_method_2_code
def y_Re_stored : MethodName := ⟨R_Re, "stored", "()I"⟩
abbrev cw_Re_stored : Cond := .code y_Re_stored b_Re_stored 1 (some .int)
def ws_Re_stored : List Cond := cw_Re_stored :: tbG
abbrev b_Re_isLate : ByteArray := prog_9_method_3_code
def y_Re_isLate : MethodName := ⟨R_Re, "isLate", "()Z"⟩
abbrev cw_Re_isLate : Cond := .code y_Re_isLate b_Re_isLate 1 (some .boolean)
def ws_Re_isLate : List Cond := cw_Re_isLate :: tbG
abbrev b_Re_goDown : ByteArray := prog_9_method_4_code
def y_Re_goDown : MethodName := ⟨R_Re, "goDown", "(I)V"⟩
abbrev cw_Re_goDown : Cond := .code y_Re_goDown b_Re_goDown 2 none
def ws_Re_goDown : List Cond := cw_Re_goDown :: tbG
abbrev b_Re_letGo : ByteArray := prog_9_method_5_code
def y_Re_letGo : MethodName := ⟨R_Re, "letGo", "(I)V"⟩
abbrev cw_Re_letGo : Cond := .code y_Re_letGo b_Re_letGo 2 none
def ws_Re_letGo : List Cond := cw_Re_letGo :: tbG
abbrev b_Re_takeOldest : ByteArray := prog_9_method_6_code
def y_Re_takeOldest : MethodName := ⟨R_Re, "takeOldest", "()Z"⟩
abbrev cw_Re_takeOldest : Cond := .code y_Re_takeOldest b_Re_takeOldest 1 (some .boolean)
def ws_Re_takeOldest : List Cond := cw_Re_takeOldest :: tbG
abbrev b_Re_partOfTaken : ByteArray := prog_9_method_7_code
def y_Re_partOfTaken : MethodName := ⟨R_Re, "partOfTaken", "(I)I"⟩
abbrev cw_Re_partOfTaken : Cond := .code y_Re_partOfTaken b_Re_partOfTaken 3 (some .int)
def ws_Re_partOfTaken : List Cond := cw_Re_partOfTaken :: tbG
abbrev b_Re_putIfOther : ByteArray := prog_9_method_8_code
def y_Re_putIfOther : MethodName := ⟨R_Re, "putIfOther", "(J)V"⟩
abbrev cw_Re_putIfOther : Cond := .code y_Re_putIfOther b_Re_putIfOther 3 none
def ws_Re_putIfOther : List Cond := cw_Re_putIfOther :: tbG
abbrev b_Re_packed : ByteArray := prog_9_method_9_code
def y_Re_packed : MethodName := ⟨R_Re, "packed", "()J"⟩
abbrev cw_Re_packed : Cond := .code y_Re_packed b_Re_packed 10 (some .long)
def ws_Re_packed : List Cond := cw_Re_packed :: tbG
abbrev b_Lw_wire : ByteArray := method_3_code
def y_Lw_wire : MethodName := ⟨R_Lw, "wire", "(LGhostKeys;IZ)I"⟩
abbrev cw_Lw_wire : Cond := .codeWith y_Lw_wire b_Lw_wire 4 (some .int) [((0 : Nat), (6 : Nat), (9 : Nat), (13 : Nat))]
def ws_Lw_wire : List Cond := cw_Lw_wire :: tbG
abbrev b_Lw_bounce : ByteArray := method_4_code
def y_Lw_bounce : MethodName := ⟨R_Lw, "bounce", "(LGhostKeys;II)I"⟩
abbrev cw_Lw_bounce : Cond := .codeWith y_Lw_bounce b_Lw_bounce 4 (some .int) [((0 : Nat), (6 : Nat), (9 : Nat), (13 : Nat)), ((0 : Nat), (6 : Nat), (12 : Nat), (19 : Nat))]
def ws_Lw_bounce : List Cond := cw_Lw_bounce :: tbG
abbrev b_Lw_scans : ByteArray := method_5_code
def y_Lw_scans : MethodName := ⟨R_Lw, "scans", "(LGhostKeys;I[J)I"⟩
abbrev cw_Lw_scans : Cond := .codeWith y_Lw_scans b_Lw_scans 4 (some .int) [((0 : Nat), (9 : Nat), (12 : Nat), (19 : Nat))]
def ws_Lw_scans : List Cond := cw_Lw_scans :: tbG
abbrev b_Lw_map : ByteArray := method_6_code
def y_Lw_map : MethodName := ⟨R_Lw, "map", "(LGhostKeys;IIIII)I"⟩
abbrev cw_Lw_map : Cond := .codeWith y_Lw_map b_Lw_map 7 (some .int) [((0 : Nat), (11 : Nat), (14 : Nat), (13 : Nat)), ((0 : Nat), (11 : Nat), (18 : Nat), (19 : Nat))]
def ws_Lw_map : List Cond := cw_Lw_map :: tbG
abbrev b_Lw_macro : ByteArray := method_7_code
def y_Lw_macro : MethodName := ⟨R_Lw, "macro", "(LGhostKeys;III)I"⟩
abbrev cw_Lw_macro : Cond := .codeWith y_Lw_macro b_Lw_macro 5 (some .int) [((0 : Nat), (7 : Nat), (10 : Nat), (13 : Nat)), ((0 : Nat), (7 : Nat), (14 : Nat), (19 : Nat))]
def ws_Lw_macro : List Cond := cw_Lw_macro :: tbG
abbrev b_Lw_chord : ByteArray := method_8_code
def y_Lw_chord : MethodName := ⟨R_Lw, "chord", "(LGhostKeys;III)I"⟩
abbrev cw_Lw_chord : Cond := .codeWith y_Lw_chord b_Lw_chord 5 (some .int) [((0 : Nat), (7 : Nat), (10 : Nat), (13 : Nat)), ((0 : Nat), (7 : Nat), (14 : Nat), (19 : Nat)), ((0 : Nat), (7 : Nat), (18 : Nat), (36 : Nat))]
def ws_Lw_chord : List Cond := cw_Lw_chord :: tbG
abbrev b_Lw_on : ByteArray := method_9_code
def y_Lw_on : MethodName := ⟨R_Lw, "on", "(LGhostKeys;I[J)I"⟩
abbrev cw_Lw_on : Cond := .codeWith y_Lw_on b_Lw_on 4 (some .int) [((0 : Nat), (16 : Nat), (19 : Nat), (13 : Nat))]
def ws_Lw_on : List Cond := cw_Lw_on :: tbG
abbrev b_Lw_top : ByteArray := method_10_code
def y_Lw_top : MethodName := ⟨R_Lw, "top", "(LGhostKeys;I[J)I"⟩
abbrev cw_Lw_top : Cond := .codeWith y_Lw_top b_Lw_top 4 (some .int) [((0 : Nat), (9 : Nat), (12 : Nat), (13 : Nat))]
def ws_Lw_top : List Cond := cw_Lw_top :: tbG
abbrev b_Lw_key : ByteArray := method_11_code
def y_Lw_key : MethodName := ⟨R_Lw, "key", "(LGhostKeys;II[J)I"⟩
abbrev cw_Lw_key : Cond := .codeWith y_Lw_key b_Lw_key 5 (some .int) [((0 : Nat), (10 : Nat), (13 : Nat), (13 : Nat))]
def ws_Lw_key : List Cond := cw_Lw_key :: tbG
abbrev b_Ji_bitCount : ByteArray := prog_16_method_49_code
def y_Ji_bitCount : MethodName := ⟨R_Ji, "bitCount", "(I)I"⟩
abbrev cw_Ji_bitCount : Cond := .code y_Ji_bitCount b_Ji_bitCount 1 (some .int)
def ws_Ji_bitCount : List Cond := cw_Ji_bitCount :: tbG
end
section
theorem tf_Mx_9 : Cond.fieldLink R_Mx 9 "GhostKeys$Matrix" "bounces" "[I" ∈ tbG := tb_at 33 (by decide +kernel) (by decide +kernel)
theorem tf_Mx_15 : Cond.fieldLink R_Mx 15 "GhostKeys$Matrix" "otherwise" "[I" ∈ tbG := tb_at 34 (by decide +kernel) (by decide +kernel)
theorem tf_Mx_18 : Cond.fieldLink R_Mx 18 "GhostKeys$Matrix" "wired" "I" ∈ tbG := tb_at 35 (by decide +kernel) (by decide +kernel)
theorem tf_Mx_22 : Cond.fieldLink R_Mx 22 "GhostKeys$Matrix" "read" "I" ∈ tbG := tb_at 36 (by decide +kernel) (by decide +kernel)
theorem tf_Mx_25 : Cond.fieldLink R_Mx 25 "GhostKeys$Matrix" "seen" "I" ∈ tbG := tb_at 37 (by decide +kernel) (by decide +kernel)
theorem tf_Mx_28 : Cond.fieldLink R_Mx 28 "GhostKeys$Matrix" "believed" "I" ∈ tbG := tb_at 38 (by decide +kernel) (by decide +kernel)
theorem tf_Hi_11 : Cond.fieldLink R_Hi 11 "GhostKeys$History" "events" "[I" ∈ tbG := tb_at 59 (by decide +kernel) (by decide +kernel)
theorem tf_Hi_15 : Cond.fieldLink R_Hi 15 "GhostKeys$History" "next" "I" ∈ tbG := tb_at 60 (by decide +kernel) (by decide +kernel)
theorem tf_Hi_19 : Cond.fieldLink R_Hi 19 "GhostKeys$History" "kept" "I" ∈ tbG := tb_at 61 (by decide +kernel) (by decide +kernel)
theorem tf_Eq_11 : Cond.fieldLink R_Eq 11 "GhostKeys$EventQueue" "events" "[I" ∈ tbG := tb_at 75 (by decide +kernel) (by decide +kernel)
theorem tf_Eq_15 : Cond.fieldLink R_Eq 15 "GhostKeys$EventQueue" "scanOf" "[I" ∈ tbG := tb_at 76 (by decide +kernel) (by decide +kernel)
theorem tf_Eq_18 : Cond.fieldLink R_Eq 18 "GhostKeys$EventQueue" "length" "I" ∈ tbG := tb_at 77 (by decide +kernel) (by decide +kernel)
theorem tf_Km_9 : Cond.fieldLink R_Km 9 "GhostKeys$Keymap" "kinds" "[I" ∈ tbG := tb_at 91 (by decide +kernel) (by decide +kernel)
theorem tf_Km_15 : Cond.fieldLink R_Km 15 "GhostKeys$Keymap" "firsts" "[I" ∈ tbG := tb_at 92 (by decide +kernel) (by decide +kernel)
theorem tf_Km_18 : Cond.fieldLink R_Km 18 "GhostKeys$Keymap" "seconds" "[I" ∈ tbG := tb_at 93 (by decide +kernel) (by decide +kernel)
theorem tf_Km_21 : Cond.fieldLink R_Km 21 "GhostKeys$Keymap" "macroCodes" "[I" ∈ tbG := tb_at 94 (by decide +kernel) (by decide +kernel)
theorem tf_Ch_9 : Cond.fieldLink R_Ch 9 "GhostKeys$Chords" "keys" "[I" ∈ tbG := tb_at 110 (by decide +kernel) (by decide +kernel)
theorem tf_Ch_15 : Cond.fieldLink R_Ch 15 "GhostKeys$Chords" "codes" "[I" ∈ tbG := tb_at 111 (by decide +kernel) (by decide +kernel)
theorem tf_La_9 : Cond.fieldLink R_La 9 "GhostKeys$Layers" "holders" "[I" ∈ tbG := tb_at 123 (by decide +kernel) (by decide +kernel)
theorem tf_La_15 : Cond.fieldLink R_La 15 "GhostKeys$Layers" "locked" "I" ∈ tbG := tb_at 124 (by decide +kernel) (by decide +kernel)
theorem tf_La_19 : Cond.fieldLink R_La 19 "GhostKeys$Layers" "armed" "I" ∈ tbG := tb_at 125 (by decide +kernel) (by decide +kernel)
theorem tf_Ho_9 : Cond.fieldLink R_Ho 9 "GhostKeys$Holds" "codes" "[I" ∈ tbG := tb_at 139 (by decide +kernel) (by decide +kernel)
theorem tf_Ho_15 : Cond.fieldLink R_Ho 15 "GhostKeys$Holds" "mates" "[I" ∈ tbG := tb_at 140 (by decide +kernel) (by decide +kernel)
theorem tf_Re_9 : Cond.fieldLink R_Re 9 "GhostKeys$Reports" "holders" "[I" ∈ tbG := tb_at 152 (by decide +kernel) (by decide +kernel)
theorem tf_Re_15 : Cond.fieldLink R_Re 15 "GhostKeys$Reports" "store" "[J" ∈ tbG := tb_at 153 (by decide +kernel) (by decide +kernel)
theorem tf_Re_35 : Cond.fieldLink R_Re 35 "GhostKeys$Reports" "oldest" "I" ∈ tbG := tb_at 154 (by decide +kernel) (by decide +kernel)
theorem tf_Re_19 : Cond.fieldLink R_Re 19 "GhostKeys$Reports" "stored" "I" ∈ tbG := tb_at 155 (by decide +kernel) (by decide +kernel)
theorem tf_Re_23 : Cond.fieldLink R_Re 23 "GhostKeys$Reports" "late" "Z" ∈ tbG := tb_at 156 (by decide +kernel) (by decide +kernel)
theorem tf_Re_46 : Cond.fieldLink R_Re 46 "GhostKeys$Reports" "lastPut" "J" ∈ tbG := tb_at 157 (by decide +kernel) (by decide +kernel)
theorem tf_Re_38 : Cond.fieldLink R_Re 38 "GhostKeys$Reports" "taken" "J" ∈ tbG := tb_at 158 (by decide +kernel) (by decide +kernel)
theorem tf_G_12 : Cond.fieldLink R_G 12 "GhostKeys" "matrix" "LGhostKeys$Matrix;" ∈ tbG := tb_at 175 (by decide +kernel) (by decide +kernel)
theorem tf_G_19 : Cond.fieldLink R_G 19 "GhostKeys" "past" "LGhostKeys$History;" ∈ tbG := tb_at 176 (by decide +kernel) (by decide +kernel)
theorem tf_G_26 : Cond.fieldLink R_G 26 "GhostKeys" "queue" "LGhostKeys$EventQueue;" ∈ tbG := tb_at 177 (by decide +kernel) (by decide +kernel)
theorem tf_G_33 : Cond.fieldLink R_G 33 "GhostKeys" "keymap" "LGhostKeys$Keymap;" ∈ tbG := tb_at 178 (by decide +kernel) (by decide +kernel)
theorem tf_G_40 : Cond.fieldLink R_G 40 "GhostKeys" "chords" "LGhostKeys$Chords;" ∈ tbG := tb_at 179 (by decide +kernel) (by decide +kernel)
theorem tf_G_47 : Cond.fieldLink R_G 47 "GhostKeys" "layers" "LGhostKeys$Layers;" ∈ tbG := tb_at 180 (by decide +kernel) (by decide +kernel)
theorem tf_G_54 : Cond.fieldLink R_G 54 "GhostKeys" "holds" "LGhostKeys$Holds;" ∈ tbG := tb_at 181 (by decide +kernel) (by decide +kernel)
theorem tf_G_61 : Cond.fieldLink R_G 61 "GhostKeys" "reports" "LGhostKeys$Reports;" ∈ tbG := tb_at 182 (by decide +kernel) (by decide +kernel)
theorem tf_G_65 : Cond.fieldLink R_G 65 "GhostKeys" "now" "I" ∈ tbG := tb_at 183 (by decide +kernel) (by decide +kernel)
theorem tf_Mo_80 : Cond.fieldLink R_Mo 80 "GhostKeysModel" "fault" "I" ∈ tbG := tb_at 684 (by decide +kernel) (by decide +kernel)
theorem tf_Mo_98 : Cond.fieldLink R_Mo 98 "GhostKeysModel" "now" "I" ∈ tbG := tb_at 685 (by decide +kernel) (by decide +kernel)
theorem tf_Mo_7 : Cond.fieldLink R_Mo 7 "GhostKeysModel" "wired" "[Z" ∈ tbG := tb_at 686 (by decide +kernel) (by decide +kernel)
theorem tf_Mo_13 : Cond.fieldLink R_Mo 13 "GhostKeysModel" "bounces" "[I" ∈ tbG := tb_at 687 (by decide +kernel) (by decide +kernel)
theorem tf_Mo_17 : Cond.fieldLink R_Mo 17 "GhostKeysModel" "closed" "[Z" ∈ tbG := tb_at 688 (by decide +kernel) (by decide +kernel)
theorem tf_Mo_20 : Cond.fieldLink R_Mo 20 "GhostKeysModel" "read" "[Z" ∈ tbG := tb_at 689 (by decide +kernel) (by decide +kernel)
theorem tf_Mo_23 : Cond.fieldLink R_Mo 23 "GhostKeysModel" "seen" "[Z" ∈ tbG := tb_at 690 (by decide +kernel) (by decide +kernel)
theorem tf_Mo_26 : Cond.fieldLink R_Mo 26 "GhostKeysModel" "others" "[I" ∈ tbG := tb_at 691 (by decide +kernel) (by decide +kernel)
theorem tf_Mo_29 : Cond.fieldLink R_Mo 29 "GhostKeysModel" "believed" "[Z" ∈ tbG := tb_at 692 (by decide +kernel) (by decide +kernel)
theorem tf_Mo_95 : Cond.fieldLink R_Mo 95 "GhostKeysModel" "queued" "I" ∈ tbG := tb_at 693 (by decide +kernel) (by decide +kernel)
theorem tf_Mo_32 : Cond.fieldLink R_Mo 32 "GhostKeysModel" "events" "[I" ∈ tbG := tb_at 694 (by decide +kernel) (by decide +kernel)
theorem tf_Mo_35 : Cond.fieldLink R_Mo 35 "GhostKeysModel" "scans" "[I" ∈ tbG := tb_at 695 (by decide +kernel) (by decide +kernel)
theorem tf_Mo_101 : Cond.fieldLink R_Mo 101 "GhostKeysModel" "told" "I" ∈ tbG := tb_at 696 (by decide +kernel) (by decide +kernel)
theorem tf_Mo_38 : Cond.fieldLink R_Mo 38 "GhostKeysModel" "latest" "[I" ∈ tbG := tb_at 697 (by decide +kernel) (by decide +kernel)
theorem tf_Mo_41 : Cond.fieldLink R_Mo 41 "GhostKeysModel" "kinds" "[I" ∈ tbG := tb_at 698 (by decide +kernel) (by decide +kernel)
theorem tf_Mo_44 : Cond.fieldLink R_Mo 44 "GhostKeysModel" "firsts" "[I" ∈ tbG := tb_at 699 (by decide +kernel) (by decide +kernel)
theorem tf_Mo_47 : Cond.fieldLink R_Mo 47 "GhostKeysModel" "seconds" "[I" ∈ tbG := tb_at 700 (by decide +kernel) (by decide +kernel)
theorem tf_Mo_50 : Cond.fieldLink R_Mo 50 "GhostKeysModel" "macros" "[I" ∈ tbG := tb_at 701 (by decide +kernel) (by decide +kernel)
theorem tf_Mo_53 : Cond.fieldLink R_Mo 53 "GhostKeysModel" "chordKeys" "[I" ∈ tbG := tb_at 702 (by decide +kernel) (by decide +kernel)
theorem tf_Mo_56 : Cond.fieldLink R_Mo 56 "GhostKeysModel" "chordCodes" "[I" ∈ tbG := tb_at 703 (by decide +kernel) (by decide +kernel)
theorem tf_Mo_59 : Cond.fieldLink R_Mo 59 "GhostKeysModel" "locked" "[Z" ∈ tbG := tb_at 704 (by decide +kernel) (by decide +kernel)
theorem tf_Mo_62 : Cond.fieldLink R_Mo 62 "GhostKeysModel" "armed" "[Z" ∈ tbG := tb_at 705 (by decide +kernel) (by decide +kernel)
theorem tf_Mo_65 : Cond.fieldLink R_Mo 65 "GhostKeysModel" "began" "[I" ∈ tbG := tb_at 706 (by decide +kernel) (by decide +kernel)
theorem tf_Mo_68 : Cond.fieldLink R_Mo 68 "GhostKeysModel" "beganWhat" "[I" ∈ tbG := tb_at 707 (by decide +kernel) (by decide +kernel)
theorem tf_Mo_71 : Cond.fieldLink R_Mo 71 "GhostKeysModel" "beganChord" "[I" ∈ tbG := tb_at 708 (by decide +kernel) (by decide +kernel)
theorem tf_Mo_137 : Cond.fieldLink R_Mo 137 "GhostKeysModel" "chords" "I" ∈ tbG := tb_at 709 (by decide +kernel) (by decide +kernel)
theorem tf_Mo_74 : Cond.fieldLink R_Mo 74 "GhostKeysModel" "down" "[I" ∈ tbG := tb_at 710 (by decide +kernel) (by decide +kernel)
theorem tf_Mo_77 : Cond.fieldLink R_Mo 77 "GhostKeysModel" "reports" "[I" ∈ tbG := tb_at 711 (by decide +kernel) (by decide +kernel)
theorem tf_Mo_114 : Cond.fieldLink R_Mo 114 "GhostKeysModel" "stored" "I" ∈ tbG := tb_at 712 (by decide +kernel) (by decide +kernel)
theorem tf_Mo_117 : Cond.fieldLink R_Mo 117 "GhostKeysModel" "late" "Z" ∈ tbG := tb_at 713 (by decide +kernel) (by decide +kernel)
theorem tm_Lw_49 : Cond.methodLink R_Lw 49 y_G_init ∈ tbG := tb_at 21 (by decide +kernel) (by decide +kernel)
theorem tm_G_3 : Cond.methodLink R_G 3 ⟨"java/lang/Object", "<init>", "()V"⟩ ∈ tbG := tb_at 24 (by decide +kernel) (by decide +kernel)
theorem tm_Mx_3 : Cond.methodLink R_Mx 3 ⟨"java/lang/Object", "<init>", "()V"⟩ ∈ tbG := tb_at 32 (by decide +kernel) (by decide +kernel)
theorem tm_Hi_3 : Cond.methodLink R_Hi 3 ⟨"java/lang/Object", "<init>", "()V"⟩ ∈ tbG := tb_at 58 (by decide +kernel) (by decide +kernel)
theorem tm_Eq_3 : Cond.methodLink R_Eq 3 ⟨"java/lang/Object", "<init>", "()V"⟩ ∈ tbG := tb_at 74 (by decide +kernel) (by decide +kernel)
theorem tm_Km_3 : Cond.methodLink R_Km 3 ⟨"java/lang/Object", "<init>", "()V"⟩ ∈ tbG := tb_at 90 (by decide +kernel) (by decide +kernel)
theorem tm_Ch_3 : Cond.methodLink R_Ch 3 ⟨"java/lang/Object", "<init>", "()V"⟩ ∈ tbG := tb_at 109 (by decide +kernel) (by decide +kernel)
theorem tm_La_3 : Cond.methodLink R_La 3 ⟨"java/lang/Object", "<init>", "()V"⟩ ∈ tbG := tb_at 122 (by decide +kernel) (by decide +kernel)
theorem tm_Ho_3 : Cond.methodLink R_Ho 3 ⟨"java/lang/Object", "<init>", "()V"⟩ ∈ tbG := tb_at 138 (by decide +kernel) (by decide +kernel)
theorem tm_Re_3 : Cond.methodLink R_Re 3 ⟨"java/lang/Object", "<init>", "()V"⟩ ∈ tbG := tb_at 151 (by decide +kernel) (by decide +kernel)
theorem tm_Lw_67 : Cond.methodLink R_Lw 67 y_G_scan ∈ tbG := tb_at 203 (by decide +kernel) (by decide +kernel)
theorem tm_G_88 : Cond.methodLink R_G 88 y_G_runScan ∈ tbG := tb_at 207 (by decide +kernel) (by decide +kernel)
theorem tm_G_185 : Cond.methodLink R_G 185 y_Mx_look ∈ tbG := tb_at 211 (by decide +kernel) (by decide +kernel)
theorem tm_Mx_31 : Cond.methodLink R_Mx 31 y_Mx_closedContacts ∈ tbG := tb_at 215 (by decide +kernel) (by decide +kernel)
theorem tm_Mx_35 : Cond.methodLink R_Mx 35 y_Mx_isFourthCorner ∈ tbG := tb_at 219 (by decide +kernel) (by decide +kernel)
theorem tm_Mx_43 : Cond.methodLink R_Mx 43 y_Mx_rowOf ∈ tbG := tb_at 222 (by decide +kernel) (by decide +kernel)
theorem tm_Mx_39 : Cond.methodLink R_Mx 39 y_Mx_watch ∈ tbG := tb_at 225 (by decide +kernel) (by decide +kernel)
theorem tm_G_188 : Cond.methodLink R_G 188 y_G_bringEvents ∈ tbG := tb_at 229 (by decide +kernel) (by decide +kernel)
theorem tm_G_194 : Cond.methodLink R_G 194 y_Mx_believe ∈ tbG := tb_at 233 (by decide +kernel) (by decide +kernel)
theorem tm_G_197 : Cond.methodLink R_G 197 y_Hi_add ∈ tbG := tb_at 237 (by decide +kernel) (by decide +kernel)
theorem tm_Hi_22 : Cond.methodLink R_Hi 22 Lib.Math.min.name ∈ tbG := tb_at 241 (by decide +kernel) (by decide +kernel)
theorem tm_G_200 : Cond.methodLink R_G 200 y_Eq_add ∈ tbG := tb_at 244 (by decide +kernel) (by decide +kernel)
theorem tm_G_191 : Cond.methodLink R_G 191 y_G_takeFirst ∈ tbG := tb_at 248 (by decide +kernel) (by decide +kernel)
theorem tm_G_167 : Cond.methodLink R_G 167 y_Eq_length ∈ tbG := tb_at 252 (by decide +kernel) (by decide +kernel)
theorem tm_G_202 : Cond.methodLink R_G 202 y_Eq_isPress ∈ tbG := tb_at 256 (by decide +kernel) (by decide +kernel)
theorem tm_G_205 : Cond.methodLink R_G 205 y_G_takeRelease ∈ tbG := tb_at 260 (by decide +kernel) (by decide +kernel)
theorem tm_G_224 : Cond.methodLink R_G 224 y_Eq_keyAt ∈ tbG := tb_at 264 (by decide +kernel) (by decide +kernel)
theorem tm_G_227 : Cond.methodLink R_G 227 y_Eq_removeFirst ∈ tbG := tb_at 268 (by decide +kernel) (by decide +kernel)
theorem tm_Eq_22 : Cond.methodLink R_Eq 22 Lib.Math.max.name ∈ tbG := tb_at 272 (by decide +kernel) (by decide +kernel)
theorem tm_G_230 : Cond.methodLink R_G 230 y_La_letGo ∈ tbG := tb_at 275 (by decide +kernel) (by decide +kernel)
theorem tm_G_233 : Cond.methodLink R_G 233 y_Ho_end ∈ tbG := tb_at 279 (by decide +kernel) (by decide +kernel)
theorem tm_Ho_18 : Cond.methodLink R_Ho 18 y_Ho_begin ∈ tbG := tb_at 283 (by decide +kernel) (by decide +kernel)
theorem tm_G_236 : Cond.methodLink R_G 236 y_Re_letGo ∈ tbG := tb_at 287 (by decide +kernel) (by decide +kernel)
theorem tm_Re_27 : Cond.methodLink R_Re 27 y_Re_packed ∈ tbG := tb_at 291 (by decide +kernel) (by decide +kernel)
theorem tm_Re_31 : Cond.methodLink R_Re 31 y_Re_putIfOther ∈ tbG := tb_at 295 (by decide +kernel) (by decide +kernel)
theorem tm_G_208 : Cond.methodLink R_G 208 y_Eq_rowLength ∈ tbG := tb_at 299 (by decide +kernel) (by decide +kernel)
theorem tm_Eq_28 : Cond.methodLink R_Eq 28 y_Eq_isPress ∈ tbG := tb_at 303 (by decide +kernel) (by decide +kernel)
theorem tm_G_211 : Cond.methodLink R_G 211 y_G_waitsForChord ∈ tbG := tb_at 304 (by decide +kernel) (by decide +kernel)
theorem tm_G_237 : Cond.methodLink R_G 237 y_Eq_scanAt ∈ tbG := tb_at 308 (by decide +kernel) (by decide +kernel)
theorem tm_G_240 : Cond.methodLink R_G 240 y_Eq_firstKeys ∈ tbG := tb_at 312 (by decide +kernel) (by decide +kernel)
theorem tm_Eq_32 : Cond.methodLink R_Eq 32 y_Eq_keyAt ∈ tbG := tb_at 316 (by decide +kernel) (by decide +kernel)
theorem tm_G_243 : Cond.methodLink R_G 243 y_Ch_canGrowFrom ∈ tbG := tb_at 317 (by decide +kernel) (by decide +kernel)
theorem tm_G_214 : Cond.methodLink R_G 214 y_Ch_longestAtStart ∈ tbG := tb_at 321 (by decide +kernel) (by decide +kernel)
theorem tm_Ch_18 : Cond.methodLink R_Ch 18 y_Ji_bitCount ∈ tbG := tb_at 325 (by decide +kernel) (by decide +kernel)
theorem tm_Ch_24 : Cond.methodLink R_Ch 24 y_Eq_firstKeys ∈ tbG := tb_at 331 (by decide +kernel) (by decide +kernel)
theorem tm_G_218 : Cond.methodLink R_G 218 y_G_takeChord ∈ tbG := tb_at 332 (by decide +kernel) (by decide +kernel)
theorem tm_G_246 : Cond.methodLink R_G 246 y_Ch_keysOf ∈ tbG := tb_at 336 (by decide +kernel) (by decide +kernel)
theorem tm_G_249 : Cond.methodLink R_G 249 y_Ch_codeOf ∈ tbG := tb_at 340 (by decide +kernel) (by decide +kernel)
theorem tm_G_177 : Cond.methodLink R_G 177 y_Ji_bitCount ∈ tbG := tb_at 344 (by decide +kernel) (by decide +kernel)
theorem tm_G_252 : Cond.methodLink R_G 252 y_Ho_begin ∈ tbG := tb_at 345 (by decide +kernel) (by decide +kernel)
theorem tm_G_255 : Cond.methodLink R_G 255 y_Re_goDown ∈ tbG := tb_at 346 (by decide +kernel) (by decide +kernel)
theorem tm_G_258 : Cond.methodLink R_G 258 y_La_disarm ∈ tbG := tb_at 350 (by decide +kernel) (by decide +kernel)
theorem tm_G_221 : Cond.methodLink R_G 221 y_G_takeByAction ∈ tbG := tb_at 354 (by decide +kernel) (by decide +kernel)
theorem tm_G_158 : Cond.methodLink R_G 158 y_Km_topLayer ∈ tbG := tb_at 358 (by decide +kernel) (by decide +kernel)
theorem tm_Km_24 : Cond.methodLink R_Km 24 y_Km_kind ∈ tbG := tb_at 362 (by decide +kernel) (by decide +kernel)
theorem tm_Km_28 : Cond.methodLink R_Km 28 y_La_isOn ∈ tbG := tb_at 366 (by decide +kernel) (by decide +kernel)
theorem tm_G_261 : Cond.methodLink R_G 261 y_Km_kind ∈ tbG := tb_at 370 (by decide +kernel) (by decide +kernel)
theorem tm_G_265 : Cond.methodLink R_G 265 y_G_tellTap ∈ tbG := tb_at 371 (by decide +kernel) (by decide +kernel)
theorem tm_G_286 : Cond.methodLink R_G 286 y_Eq_tellTap ∈ tbG := tb_at 375 (by decide +kernel) (by decide +kernel)
theorem tm_G_268 : Cond.methodLink R_G 268 y_Km_a ∈ tbG := tb_at 379 (by decide +kernel) (by decide +kernel)
theorem tm_G_271 : Cond.methodLink R_G 271 y_La_hold ∈ tbG := tb_at 383 (by decide +kernel) (by decide +kernel)
theorem tm_G_274 : Cond.methodLink R_G 274 y_La_turnLock ∈ tbG := tb_at 387 (by decide +kernel) (by decide +kernel)
theorem tm_G_277 : Cond.methodLink R_G 277 y_La_arm ∈ tbG := tb_at 391 (by decide +kernel) (by decide +kernel)
theorem tm_G_280 : Cond.methodLink R_G 280 y_G_actTap ∈ tbG := tb_at 395 (by decide +kernel) (by decide +kernel)
theorem tm_G_287 : Cond.methodLink R_G 287 y_Km_b ∈ tbG := tb_at 399 (by decide +kernel) (by decide +kernel)
theorem tm_G_283 : Cond.methodLink R_G 283 y_G_playMacro ∈ tbG := tb_at 403 (by decide +kernel) (by decide +kernel)
theorem tm_G_290 : Cond.methodLink R_G 290 y_Km_macroCode ∈ tbG := tb_at 407 (by decide +kernel) (by decide +kernel)
theorem tm_Lw_75 : Cond.methodLink R_Lw 75 y_G_poll ∈ tbG := tb_at 411 (by decide +kernel) (by decide +kernel)
theorem tm_G_94 : Cond.methodLink R_G 94 y_Re_takeOldest ∈ tbG := tb_at 415 (by decide +kernel) (by decide +kernel)
theorem tm_Lw_80 : Cond.methodLink R_Lw 80 y_G_report ∈ tbG := tb_at 419 (by decide +kernel) (by decide +kernel)
theorem tm_G_98 : Cond.methodLink R_G 98 y_Re_partOfTaken ∈ tbG := tb_at 423 (by decide +kernel) (by decide +kernel)
theorem tm_Lw_84 : Cond.methodLink R_Lw 84 y_G_waiting ∈ tbG := tb_at 429 (by decide +kernel) (by decide +kernel)
theorem tm_G_102 : Cond.methodLink R_G 102 y_Re_stored ∈ tbG := tb_at 433 (by decide +kernel) (by decide +kernel)
theorem tm_Lw_88 : Cond.methodLink R_Lw 88 y_G_late ∈ tbG := tb_at 437 (by decide +kernel) (by decide +kernel)
theorem tm_G_105 : Cond.methodLink R_G 105 y_Re_isLate ∈ tbG := tb_at 441 (by decide +kernel) (by decide +kernel)
theorem tm_Lw_113 : Cond.methodLink R_Lw 113 y_G_queued ∈ tbG := tb_at 445 (by decide +kernel) (by decide +kernel)
theorem tm_Lw_117 : Cond.methodLink R_Lw 117 y_G_history ∈ tbG := tb_at 449 (by decide +kernel) (by decide +kernel)
theorem tm_G_170 : Cond.methodLink R_G 170 y_Hi_latest ∈ tbG := tb_at 453 (by decide +kernel) (by decide +kernel)
theorem tm_Lw_53 : Cond.methodLink R_Lw 53 y_Lw_wire ∈ tbG := tb_at 457 (by decide +kernel) (by decide +kernel)
theorem tm_Lw_7 : Cond.methodLink R_Lw 7 y_G_wire ∈ tbG := tb_at 461 (by decide +kernel) (by decide +kernel)
theorem tm_G_69 : Cond.methodLink R_G 69 y_G_requireKey ∈ tbG := tb_at 465 (by decide +kernel) (by decide +kernel)
theorem tm_G_125 : Cond.methodLink R_G 125 ⟨"java/lang/IndexOutOfBoundsException", "<init>", "(Ljava/lang/String;)V"⟩ ∈ tbG := tb_at 510 (by decide +kernel) (by decide +kernel)
theorem tm_G_73 : Cond.methodLink R_G 73 y_Mx_setWired ∈ tbG := tb_at 536 (by decide +kernel) (by decide +kernel)
theorem tm_Lw_63 : Cond.methodLink R_Lw 63 y_Lw_bounce ∈ tbG := tb_at 540 (by decide +kernel) (by decide +kernel)
theorem tm_Lw_15 : Cond.methodLink R_Lw 15 y_G_bounce ∈ tbG := tb_at 544 (by decide +kernel) (by decide +kernel)
theorem tm_G_81 : Cond.methodLink R_G 81 ⟨"java/lang/IllegalArgumentException", "<init>", "(Ljava/lang/String;)V"⟩ ∈ tbG := tb_at 558 (by decide +kernel) (by decide +kernel)
theorem tm_G_84 : Cond.methodLink R_G 84 y_Mx_setBounce ∈ tbG := tb_at 564 (by decide +kernel) (by decide +kernel)
theorem tm_Lw_71 : Cond.methodLink R_Lw 71 y_Lw_scans ∈ tbG := tb_at 568 (by decide +kernel) (by decide +kernel)
theorem tm_Lw_21 : Cond.methodLink R_Lw 21 y_G_scans ∈ tbG := tb_at 571 (by decide +kernel) (by decide +kernel)
theorem tm_Lw_92 : Cond.methodLink R_Lw 92 y_Lw_map ∈ tbG := tb_at 576 (by decide +kernel) (by decide +kernel)
theorem tm_Lw_25 : Cond.methodLink R_Lw 25 y_G_map ∈ tbG := tb_at 579 (by decide +kernel) (by decide +kernel)
theorem tm_G_108 : Cond.methodLink R_G 108 y_G_requireLayer ∈ tbG := tb_at 583 (by decide +kernel) (by decide +kernel)
theorem tm_G_111 : Cond.methodLink R_G 111 y_G_isAction ∈ tbG := tb_at 587 (by decide +kernel) (by decide +kernel)
theorem tm_G_126 : Cond.methodLink R_G 126 y_G_isCode ∈ tbG := tb_at 590 (by decide +kernel) (by decide +kernel)
theorem tm_G_182 : Cond.methodLink R_G 182 y_G_isUpperLayer ∈ tbG := tb_at 593 (by decide +kernel) (by decide +kernel)
theorem tm_G_117 : Cond.methodLink R_G 117 y_Km_setAction ∈ tbG := tb_at 597 (by decide +kernel) (by decide +kernel)
theorem tm_Lw_96 : Cond.methodLink R_Lw 96 y_Lw_macro ∈ tbG := tb_at 601 (by decide +kernel) (by decide +kernel)
theorem tm_Lw_29 : Cond.methodLink R_Lw 29 y_G_macro ∈ tbG := tb_at 604 (by decide +kernel) (by decide +kernel)
theorem tm_G_132 : Cond.methodLink R_G 132 y_Km_setMacroCode ∈ tbG := tb_at 610 (by decide +kernel) (by decide +kernel)
theorem tm_Lw_100 : Cond.methodLink R_Lw 100 y_Lw_chord ∈ tbG := tb_at 614 (by decide +kernel) (by decide +kernel)
theorem tm_Lw_33 : Cond.methodLink R_Lw 33 y_G_chord ∈ tbG := tb_at 618 (by decide +kernel) (by decide +kernel)
theorem tm_G_138 : Cond.methodLink R_G 138 y_G_isChord ∈ tbG := tb_at 623 (by decide +kernel) (by decide +kernel)
theorem tm_G_143 : Cond.methodLink R_G 143 y_Ch_hasElsewhere ∈ tbG := tb_at 627 (by decide +kernel) (by decide +kernel)
theorem tm_G_151 : Cond.methodLink R_G 151 ⟨"java/lang/IllegalStateException", "<init>", "(Ljava/lang/String;)V"⟩ ∈ tbG := tb_at 641 (by decide +kernel) (by decide +kernel)
theorem tm_G_152 : Cond.methodLink R_G 152 y_Ch_setChord ∈ tbG := tb_at 647 (by decide +kernel) (by decide +kernel)
theorem tm_Lw_103 : Cond.methodLink R_Lw 103 y_Lw_on ∈ tbG := tb_at 651 (by decide +kernel) (by decide +kernel)
theorem tm_Lw_38 : Cond.methodLink R_Lw 38 y_G_on ∈ tbG := tb_at 654 (by decide +kernel) (by decide +kernel)
theorem tm_G_155 : Cond.methodLink R_G 155 y_La_isOn ∈ tbG := tb_at 658 (by decide +kernel) (by decide +kernel)
theorem tm_Lw_106 : Cond.methodLink R_Lw 106 y_Lw_top ∈ tbG := tb_at 659 (by decide +kernel) (by decide +kernel)
theorem tm_Lw_42 : Cond.methodLink R_Lw 42 y_G_top ∈ tbG := tb_at 662 (by decide +kernel) (by decide +kernel)
theorem tm_Lw_109 : Cond.methodLink R_Lw 109 y_Lw_key ∈ tbG := tb_at 666 (by decide +kernel) (by decide +kernel)
theorem tm_Lw_45 : Cond.methodLink R_Lw 45 y_G_key ∈ tbG := tb_at 669 (by decide +kernel) (by decide +kernel)
theorem tm_G_164 : Cond.methodLink R_G 164 y_Mx_keysThatAre ∈ tbG := tb_at 674 (by decide +kernel) (by decide +kernel)
theorem tm_Lw_52 : Cond.methodLink R_Lw 52 y_Mo_init ∈ tbG := tb_at 680 (by decide +kernel) (by decide +kernel)
theorem tm_Mo_1 : Cond.methodLink R_Mo 1 ⟨"java/lang/Object", "<init>", "()V"⟩ ∈ tbG := tb_at 683 (by decide +kernel) (by decide +kernel)
theorem tm_Lw_59 : Cond.methodLink R_Lw 59 y_Mo_thrown ∈ tbG := tb_at 776 (by decide +kernel) (by decide +kernel)
theorem tm_Lw_58 : Cond.methodLink R_Lw 58 y_Mo_wire ∈ tbG := tb_at 780 (by decide +kernel) (by decide +kernel)
theorem tm_Mo_84 : Cond.methodLink R_Mo 84 y_Mo_isKey ∈ tbG := tb_at 784 (by decide +kernel) (by decide +kernel)
theorem tm_Mo_88 : Cond.methodLink R_Mo 88 y_Mo_refused ∈ tbG := tb_at 787 (by decide +kernel) (by decide +kernel)
theorem tm_Lw_66 : Cond.methodLink R_Lw 66 y_Mo_bounce ∈ tbG := tb_at 791 (by decide +kernel) (by decide +kernel)
theorem tm_Lw_70 : Cond.methodLink R_Lw 70 y_Mo_scan ∈ tbG := tb_at 795 (by decide +kernel) (by decide +kernel)
theorem tm_Mo_193 : Cond.methodLink R_Mo 193 y_Mo_scanOnce ∈ tbG := tb_at 799 (by decide +kernel) (by decide +kernel)
theorem tm_Mo_183 : Cond.methodLink R_Mo 183 y_Mo_look ∈ tbG := tb_at 803 (by decide +kernel) (by decide +kernel)
theorem tm_Mo_91 : Cond.methodLink R_Mo 91 y_Mo_hasCorners ∈ tbG := tb_at 807 (by decide +kernel) (by decide +kernel)
theorem tm_Mo_186 : Cond.methodLink R_Mo 186 y_Mo_believe ∈ tbG := tb_at 811 (by decide +kernel) (by decide +kernel)
theorem tm_Mo_104 : Cond.methodLink R_Mo 104 y_Mo_bring ∈ tbG := tb_at 815 (by decide +kernel) (by decide +kernel)
theorem tm_Mo_189 : Cond.methodLink R_Mo 189 y_Mo_takeFirst ∈ tbG := tb_at 819 (by decide +kernel) (by decide +kernel)
theorem tm_Mo_161 : Cond.methodLink R_Mo 161 y_Mo_takeRelease ∈ tbG := tb_at 823 (by decide +kernel) (by decide +kernel)
theorem tm_Mo_127 : Cond.methodLink R_Mo 127 y_Mo_change ∈ tbG := tb_at 827 (by decide +kernel) (by decide +kernel)
theorem tm_Mo_124 : Cond.methodLink R_Mo 124 y_Mo_tell ∈ tbG := tb_at 831 (by decide +kernel) (by decide +kernel)
theorem tm_Mo_111 : Cond.methodLink R_Mo 111 y_Mo_makeReport ∈ tbG := tb_at 835 (by decide +kernel) (by decide +kernel)
theorem tm_Mo_121 : Cond.methodLink R_Mo 121 y_Mo_copyReport ∈ tbG := tb_at 839 (by decide +kernel) (by decide +kernel)
theorem tm_Mo_140 : Cond.methodLink R_Mo 140 y_Mo_drop ∈ tbG := tb_at 843 (by decide +kernel) (by decide +kernel)
theorem tm_Mo_164 : Cond.methodLink R_Mo 164 y_Mo_rowLength ∈ tbG := tb_at 847 (by decide +kernel) (by decide +kernel)
theorem tm_Mo_167 : Cond.methodLink R_Mo 167 y_Mo_waitsForChord ∈ tbG := tb_at 851 (by decide +kernel) (by decide +kernel)
theorem tm_Mo_130 : Cond.methodLink R_Mo 130 y_Mo_keysOf ∈ tbG := tb_at 855 (by decide +kernel) (by decide +kernel)
theorem tm_Mo_170 : Cond.methodLink R_Mo 170 y_Mo_chordOf ∈ tbG := tb_at 859 (by decide +kernel) (by decide +kernel)
theorem tm_Mo_134 : Cond.methodLink R_Mo 134 y_Mo_bitsOf ∈ tbG := tb_at 863 (by decide +kernel) (by decide +kernel)
theorem tm_Mo_173 : Cond.methodLink R_Mo 173 y_Mo_takeChord ∈ tbG := tb_at 866 (by decide +kernel) (by decide +kernel)
theorem tm_Mo_144 : Cond.methodLink R_Mo 144 y_Mo_disarm ∈ tbG := tb_at 870 (by decide +kernel) (by decide +kernel)
theorem tm_Mo_176 : Cond.methodLink R_Mo 176 y_Mo_topOf ∈ tbG := tb_at 874 (by decide +kernel) (by decide +kernel)
theorem tm_Mo_108 : Cond.methodLink R_Mo 108 y_Mo_isOn ∈ tbG := tb_at 878 (by decide +kernel) (by decide +kernel)
theorem tm_Mo_179 : Cond.methodLink R_Mo 179 y_Mo_act ∈ tbG := tb_at 882 (by decide +kernel) (by decide +kernel)
theorem tm_Mo_147 : Cond.methodLink R_Mo 147 y_Mo_tapOf ∈ tbG := tb_at 886 (by decide +kernel) (by decide +kernel)
theorem tm_Mo_151 : Cond.methodLink R_Mo 151 y_Mo_begin ∈ tbG := tb_at 890 (by decide +kernel) (by decide +kernel)
theorem tm_Mo_155 : Cond.methodLink R_Mo 155 y_Mo_play ∈ tbG := tb_at 894 (by decide +kernel) (by decide +kernel)
theorem tm_Mo_158 : Cond.methodLink R_Mo 158 y_Mo_touch ∈ tbG := tb_at 898 (by decide +kernel) (by decide +kernel)
theorem tm_Lw_74 : Cond.methodLink R_Lw 74 y_Mo_scans ∈ tbG := tb_at 902 (by decide +kernel) (by decide +kernel)
theorem tm_Lw_79 : Cond.methodLink R_Lw 79 y_Mo_poll ∈ tbG := tb_at 906 (by decide +kernel) (by decide +kernel)
theorem tm_Lw_83 : Cond.methodLink R_Lw 83 y_Mo_report ∈ tbG := tb_at 910 (by decide +kernel) (by decide +kernel)
theorem tm_Lw_87 : Cond.methodLink R_Lw 87 y_Mo_waiting ∈ tbG := tb_at 914 (by decide +kernel) (by decide +kernel)
theorem tm_Lw_91 : Cond.methodLink R_Lw 91 y_Mo_late ∈ tbG := tb_at 918 (by decide +kernel) (by decide +kernel)
theorem tm_Lw_95 : Cond.methodLink R_Lw 95 y_Mo_map ∈ tbG := tb_at 922 (by decide +kernel) (by decide +kernel)
theorem tm_Mo_199 : Cond.methodLink R_Mo 199 y_Mo_isFour ∈ tbG := tb_at 926 (by decide +kernel) (by decide +kernel)
theorem tm_Mo_202 : Cond.methodLink R_Mo 202 y_Mo_isSound ∈ tbG := tb_at 929 (by decide +kernel) (by decide +kernel)
theorem tm_Mo_196 : Cond.methodLink R_Mo 196 y_Mo_isCode ∈ tbG := tb_at 932 (by decide +kernel) (by decide +kernel)
theorem tm_Lw_99 : Cond.methodLink R_Lw 99 y_Mo_macro ∈ tbG := tb_at 935 (by decide +kernel) (by decide +kernel)
theorem tm_Lw_102 : Cond.methodLink R_Lw 102 y_Mo_chord ∈ tbG := tb_at 939 (by decide +kernel) (by decide +kernel)
theorem tm_Lw_105 : Cond.methodLink R_Lw 105 y_Mo_on ∈ tbG := tb_at 944 (by decide +kernel) (by decide +kernel)
theorem tm_Lw_108 : Cond.methodLink R_Lw 108 y_Mo_top ∈ tbG := tb_at 948 (by decide +kernel) (by decide +kernel)
theorem tm_Lw_112 : Cond.methodLink R_Lw 112 y_Mo_key ∈ tbG := tb_at 952 (by decide +kernel) (by decide +kernel)
theorem tm_Lw_116 : Cond.methodLink R_Lw 116 y_Mo_queued ∈ tbG := tb_at 956 (by decide +kernel) (by decide +kernel)
theorem tm_Lw_120 : Cond.methodLink R_Lw 120 y_Mo_history ∈ tbG := tb_at 960 (by decide +kernel) (by decide +kernel)
theorem ts_Mx_isFourthCorner : Cond.static y_Mx_isFourthCorner ∈ tbG := tb_at 220 (by decide +kernel) (by decide +kernel)
theorem ts_Mx_rowOf : Cond.static y_Mx_rowOf ∈ tbG := tb_at 223 (by decide +kernel) (by decide +kernel)
theorem ts_Ji_bitCount : Cond.static y_Ji_bitCount ∈ tbG := tb_at 326 (by decide +kernel) (by decide +kernel)
theorem ts_Lw_wire : Cond.static y_Lw_wire ∈ tbG := tb_at 458 (by decide +kernel) (by decide +kernel)
theorem ts_G_requireKey : Cond.static y_G_requireKey ∈ tbG := tb_at 466 (by decide +kernel) (by decide +kernel)
theorem ts_Lw_bounce : Cond.static y_Lw_bounce ∈ tbG := tb_at 541 (by decide +kernel) (by decide +kernel)
theorem ts_Lw_scans : Cond.static y_Lw_scans ∈ tbG := tb_at 569 (by decide +kernel) (by decide +kernel)
theorem ts_Lw_map : Cond.static y_Lw_map ∈ tbG := tb_at 577 (by decide +kernel) (by decide +kernel)
theorem ts_G_requireLayer : Cond.static y_G_requireLayer ∈ tbG := tb_at 584 (by decide +kernel) (by decide +kernel)
theorem ts_G_isAction : Cond.static y_G_isAction ∈ tbG := tb_at 588 (by decide +kernel) (by decide +kernel)
theorem ts_G_isCode : Cond.static y_G_isCode ∈ tbG := tb_at 591 (by decide +kernel) (by decide +kernel)
theorem ts_G_isUpperLayer : Cond.static y_G_isUpperLayer ∈ tbG := tb_at 594 (by decide +kernel) (by decide +kernel)
theorem ts_Lw_macro : Cond.static y_Lw_macro ∈ tbG := tb_at 602 (by decide +kernel) (by decide +kernel)
theorem ts_Lw_chord : Cond.static y_Lw_chord ∈ tbG := tb_at 615 (by decide +kernel) (by decide +kernel)
theorem ts_G_isChord : Cond.static y_G_isChord ∈ tbG := tb_at 624 (by decide +kernel) (by decide +kernel)
theorem ts_Lw_on : Cond.static y_Lw_on ∈ tbG := tb_at 652 (by decide +kernel) (by decide +kernel)
theorem ts_Lw_top : Cond.static y_Lw_top ∈ tbG := tb_at 660 (by decide +kernel) (by decide +kernel)
theorem ts_Lw_key : Cond.static y_Lw_key ∈ tbG := tb_at 667 (by decide +kernel) (by decide +kernel)
theorem ts_Mo_isKey : Cond.static y_Mo_isKey ∈ tbG := tb_at 785 (by decide +kernel) (by decide +kernel)
theorem ts_Mo_bitsOf : Cond.static y_Mo_bitsOf ∈ tbG := tb_at 864 (by decide +kernel) (by decide +kernel)
theorem ts_Mo_isFour : Cond.static y_Mo_isFour ∈ tbG := tb_at 927 (by decide +kernel) (by decide +kernel)
theorem ts_Mo_isSound : Cond.static y_Mo_isSound ∈ tbG := tb_at 930 (by decide +kernel) (by decide +kernel)
theorem ts_Mo_isCode : Cond.static y_Mo_isCode ∈ tbG := tb_at 933 (by decide +kernel) (by decide +kernel)
theorem ti_G_init : Cond.instanceMethod y_G_init ∈ tbG := tb_at 22 (by decide +kernel) (by decide +kernel)
theorem ti_Mx_init : Cond.instanceMethod y_Mx_init ∈ tbG := tb_at 30 (by decide +kernel) (by decide +kernel)
theorem ti_Hi_init : Cond.instanceMethod y_Hi_init ∈ tbG := tb_at 56 (by decide +kernel) (by decide +kernel)
theorem ti_Eq_init : Cond.instanceMethod y_Eq_init ∈ tbG := tb_at 72 (by decide +kernel) (by decide +kernel)
theorem ti_Km_init : Cond.instanceMethod y_Km_init ∈ tbG := tb_at 88 (by decide +kernel) (by decide +kernel)
theorem ti_Ch_init : Cond.instanceMethod y_Ch_init ∈ tbG := tb_at 107 (by decide +kernel) (by decide +kernel)
theorem ti_La_init : Cond.instanceMethod y_La_init ∈ tbG := tb_at 120 (by decide +kernel) (by decide +kernel)
theorem ti_Ho_init : Cond.instanceMethod y_Ho_init ∈ tbG := tb_at 136 (by decide +kernel) (by decide +kernel)
theorem ti_Re_init : Cond.instanceMethod y_Re_init ∈ tbG := tb_at 149 (by decide +kernel) (by decide +kernel)
theorem ti_G_scan : Cond.instanceMethod y_G_scan ∈ tbG := tb_at 204 (by decide +kernel) (by decide +kernel)
theorem ti_G_runScan : Cond.instanceMethod y_G_runScan ∈ tbG := tb_at 209 (by decide +kernel) (by decide +kernel)
theorem ti_Mx_look : Cond.instanceMethod y_Mx_look ∈ tbG := tb_at 212 (by decide +kernel) (by decide +kernel)
theorem ti_Mx_closedContacts : Cond.instanceMethod y_Mx_closedContacts ∈ tbG := tb_at 217 (by decide +kernel) (by decide +kernel)
theorem ti_Mx_watch : Cond.instanceMethod y_Mx_watch ∈ tbG := tb_at 227 (by decide +kernel) (by decide +kernel)
theorem ti_G_bringEvents : Cond.instanceMethod y_G_bringEvents ∈ tbG := tb_at 231 (by decide +kernel) (by decide +kernel)
theorem ti_Mx_believe : Cond.instanceMethod y_Mx_believe ∈ tbG := tb_at 234 (by decide +kernel) (by decide +kernel)
theorem ti_Hi_add : Cond.instanceMethod y_Hi_add ∈ tbG := tb_at 238 (by decide +kernel) (by decide +kernel)
theorem ti_Eq_add : Cond.instanceMethod y_Eq_add ∈ tbG := tb_at 245 (by decide +kernel) (by decide +kernel)
theorem ti_G_takeFirst : Cond.instanceMethod y_G_takeFirst ∈ tbG := tb_at 250 (by decide +kernel) (by decide +kernel)
theorem ti_Eq_length : Cond.instanceMethod y_Eq_length ∈ tbG := tb_at 253 (by decide +kernel) (by decide +kernel)
theorem ti_Eq_isPress : Cond.instanceMethod y_Eq_isPress ∈ tbG := tb_at 257 (by decide +kernel) (by decide +kernel)
theorem ti_G_takeRelease : Cond.instanceMethod y_G_takeRelease ∈ tbG := tb_at 262 (by decide +kernel) (by decide +kernel)
theorem ti_Eq_keyAt : Cond.instanceMethod y_Eq_keyAt ∈ tbG := tb_at 265 (by decide +kernel) (by decide +kernel)
theorem ti_Eq_removeFirst : Cond.instanceMethod y_Eq_removeFirst ∈ tbG := tb_at 269 (by decide +kernel) (by decide +kernel)
theorem ti_La_letGo : Cond.instanceMethod y_La_letGo ∈ tbG := tb_at 276 (by decide +kernel) (by decide +kernel)
theorem ti_Ho_end : Cond.instanceMethod y_Ho_end ∈ tbG := tb_at 280 (by decide +kernel) (by decide +kernel)
theorem ti_Ho_begin : Cond.instanceMethod y_Ho_begin ∈ tbG := tb_at 284 (by decide +kernel) (by decide +kernel)
theorem ti_Re_letGo : Cond.instanceMethod y_Re_letGo ∈ tbG := tb_at 288 (by decide +kernel) (by decide +kernel)
theorem ti_Re_packed : Cond.instanceMethod y_Re_packed ∈ tbG := tb_at 293 (by decide +kernel) (by decide +kernel)
theorem ti_Re_putIfOther : Cond.instanceMethod y_Re_putIfOther ∈ tbG := tb_at 297 (by decide +kernel) (by decide +kernel)
theorem ti_Eq_rowLength : Cond.instanceMethod y_Eq_rowLength ∈ tbG := tb_at 300 (by decide +kernel) (by decide +kernel)
theorem ti_G_waitsForChord : Cond.instanceMethod y_G_waitsForChord ∈ tbG := tb_at 306 (by decide +kernel) (by decide +kernel)
theorem ti_Eq_scanAt : Cond.instanceMethod y_Eq_scanAt ∈ tbG := tb_at 309 (by decide +kernel) (by decide +kernel)
theorem ti_Eq_firstKeys : Cond.instanceMethod y_Eq_firstKeys ∈ tbG := tb_at 313 (by decide +kernel) (by decide +kernel)
theorem ti_Ch_canGrowFrom : Cond.instanceMethod y_Ch_canGrowFrom ∈ tbG := tb_at 318 (by decide +kernel) (by decide +kernel)
theorem ti_Ch_longestAtStart : Cond.instanceMethod y_Ch_longestAtStart ∈ tbG := tb_at 322 (by decide +kernel) (by decide +kernel)
theorem ti_G_takeChord : Cond.instanceMethod y_G_takeChord ∈ tbG := tb_at 334 (by decide +kernel) (by decide +kernel)
theorem ti_Ch_keysOf : Cond.instanceMethod y_Ch_keysOf ∈ tbG := tb_at 337 (by decide +kernel) (by decide +kernel)
theorem ti_Ch_codeOf : Cond.instanceMethod y_Ch_codeOf ∈ tbG := tb_at 341 (by decide +kernel) (by decide +kernel)
theorem ti_Re_goDown : Cond.instanceMethod y_Re_goDown ∈ tbG := tb_at 347 (by decide +kernel) (by decide +kernel)
theorem ti_La_disarm : Cond.instanceMethod y_La_disarm ∈ tbG := tb_at 351 (by decide +kernel) (by decide +kernel)
theorem ti_G_takeByAction : Cond.instanceMethod y_G_takeByAction ∈ tbG := tb_at 356 (by decide +kernel) (by decide +kernel)
theorem ti_Km_topLayer : Cond.instanceMethod y_Km_topLayer ∈ tbG := tb_at 359 (by decide +kernel) (by decide +kernel)
theorem ti_Km_kind : Cond.instanceMethod y_Km_kind ∈ tbG := tb_at 363 (by decide +kernel) (by decide +kernel)
theorem ti_La_isOn : Cond.instanceMethod y_La_isOn ∈ tbG := tb_at 367 (by decide +kernel) (by decide +kernel)
theorem ti_G_tellTap : Cond.instanceMethod y_G_tellTap ∈ tbG := tb_at 373 (by decide +kernel) (by decide +kernel)
theorem ti_Eq_tellTap : Cond.instanceMethod y_Eq_tellTap ∈ tbG := tb_at 376 (by decide +kernel) (by decide +kernel)
theorem ti_Km_a : Cond.instanceMethod y_Km_a ∈ tbG := tb_at 380 (by decide +kernel) (by decide +kernel)
theorem ti_La_hold : Cond.instanceMethod y_La_hold ∈ tbG := tb_at 384 (by decide +kernel) (by decide +kernel)
theorem ti_La_turnLock : Cond.instanceMethod y_La_turnLock ∈ tbG := tb_at 388 (by decide +kernel) (by decide +kernel)
theorem ti_La_arm : Cond.instanceMethod y_La_arm ∈ tbG := tb_at 392 (by decide +kernel) (by decide +kernel)
theorem ti_G_actTap : Cond.instanceMethod y_G_actTap ∈ tbG := tb_at 397 (by decide +kernel) (by decide +kernel)
theorem ti_Km_b : Cond.instanceMethod y_Km_b ∈ tbG := tb_at 400 (by decide +kernel) (by decide +kernel)
theorem ti_G_playMacro : Cond.instanceMethod y_G_playMacro ∈ tbG := tb_at 405 (by decide +kernel) (by decide +kernel)
theorem ti_Km_macroCode : Cond.instanceMethod y_Km_macroCode ∈ tbG := tb_at 408 (by decide +kernel) (by decide +kernel)
theorem ti_G_poll : Cond.instanceMethod y_G_poll ∈ tbG := tb_at 412 (by decide +kernel) (by decide +kernel)
theorem ti_Re_takeOldest : Cond.instanceMethod y_Re_takeOldest ∈ tbG := tb_at 416 (by decide +kernel) (by decide +kernel)
theorem ti_G_report : Cond.instanceMethod y_G_report ∈ tbG := tb_at 420 (by decide +kernel) (by decide +kernel)
theorem ti_Re_partOfTaken : Cond.instanceMethod y_Re_partOfTaken ∈ tbG := tb_at 424 (by decide +kernel) (by decide +kernel)
theorem ti_G_waiting : Cond.instanceMethod y_G_waiting ∈ tbG := tb_at 430 (by decide +kernel) (by decide +kernel)
theorem ti_Re_stored : Cond.instanceMethod y_Re_stored ∈ tbG := tb_at 434 (by decide +kernel) (by decide +kernel)
theorem ti_G_late : Cond.instanceMethod y_G_late ∈ tbG := tb_at 438 (by decide +kernel) (by decide +kernel)
theorem ti_Re_isLate : Cond.instanceMethod y_Re_isLate ∈ tbG := tb_at 442 (by decide +kernel) (by decide +kernel)
theorem ti_G_queued : Cond.instanceMethod y_G_queued ∈ tbG := tb_at 446 (by decide +kernel) (by decide +kernel)
theorem ti_G_history : Cond.instanceMethod y_G_history ∈ tbG := tb_at 450 (by decide +kernel) (by decide +kernel)
theorem ti_Hi_latest : Cond.instanceMethod y_Hi_latest ∈ tbG := tb_at 454 (by decide +kernel) (by decide +kernel)
theorem ti_G_wire : Cond.instanceMethod y_G_wire ∈ tbG := tb_at 462 (by decide +kernel) (by decide +kernel)
theorem ti_Mx_setWired : Cond.instanceMethod y_Mx_setWired ∈ tbG := tb_at 537 (by decide +kernel) (by decide +kernel)
theorem ti_G_bounce : Cond.instanceMethod y_G_bounce ∈ tbG := tb_at 545 (by decide +kernel) (by decide +kernel)
theorem ti_Mx_setBounce : Cond.instanceMethod y_Mx_setBounce ∈ tbG := tb_at 565 (by decide +kernel) (by decide +kernel)
theorem ti_G_scans : Cond.instanceMethod y_G_scans ∈ tbG := tb_at 572 (by decide +kernel) (by decide +kernel)
theorem ti_G_map : Cond.instanceMethod y_G_map ∈ tbG := tb_at 580 (by decide +kernel) (by decide +kernel)
theorem ti_Km_setAction : Cond.instanceMethod y_Km_setAction ∈ tbG := tb_at 598 (by decide +kernel) (by decide +kernel)
theorem ti_G_macro : Cond.instanceMethod y_G_macro ∈ tbG := tb_at 605 (by decide +kernel) (by decide +kernel)
theorem ti_Km_setMacroCode : Cond.instanceMethod y_Km_setMacroCode ∈ tbG := tb_at 611 (by decide +kernel) (by decide +kernel)
theorem ti_G_chord : Cond.instanceMethod y_G_chord ∈ tbG := tb_at 619 (by decide +kernel) (by decide +kernel)
theorem ti_Ch_hasElsewhere : Cond.instanceMethod y_Ch_hasElsewhere ∈ tbG := tb_at 628 (by decide +kernel) (by decide +kernel)
theorem ti_Ch_setChord : Cond.instanceMethod y_Ch_setChord ∈ tbG := tb_at 648 (by decide +kernel) (by decide +kernel)
theorem ti_G_on : Cond.instanceMethod y_G_on ∈ tbG := tb_at 655 (by decide +kernel) (by decide +kernel)
theorem ti_G_top : Cond.instanceMethod y_G_top ∈ tbG := tb_at 663 (by decide +kernel) (by decide +kernel)
theorem ti_G_key : Cond.instanceMethod y_G_key ∈ tbG := tb_at 670 (by decide +kernel) (by decide +kernel)
theorem ti_Mx_keysThatAre : Cond.instanceMethod y_Mx_keysThatAre ∈ tbG := tb_at 675 (by decide +kernel) (by decide +kernel)
theorem ti_Mo_init : Cond.instanceMethod y_Mo_init ∈ tbG := tb_at 681 (by decide +kernel) (by decide +kernel)
theorem ti_Mo_thrown : Cond.instanceMethod y_Mo_thrown ∈ tbG := tb_at 777 (by decide +kernel) (by decide +kernel)
theorem ti_Mo_wire : Cond.instanceMethod y_Mo_wire ∈ tbG := tb_at 781 (by decide +kernel) (by decide +kernel)
theorem ti_Mo_refused : Cond.instanceMethod y_Mo_refused ∈ tbG := tb_at 789 (by decide +kernel) (by decide +kernel)
theorem ti_Mo_bounce : Cond.instanceMethod y_Mo_bounce ∈ tbG := tb_at 792 (by decide +kernel) (by decide +kernel)
theorem ti_Mo_scan : Cond.instanceMethod y_Mo_scan ∈ tbG := tb_at 796 (by decide +kernel) (by decide +kernel)
theorem ti_Mo_scanOnce : Cond.instanceMethod y_Mo_scanOnce ∈ tbG := tb_at 801 (by decide +kernel) (by decide +kernel)
theorem ti_Mo_look : Cond.instanceMethod y_Mo_look ∈ tbG := tb_at 805 (by decide +kernel) (by decide +kernel)
theorem ti_Mo_hasCorners : Cond.instanceMethod y_Mo_hasCorners ∈ tbG := tb_at 809 (by decide +kernel) (by decide +kernel)
theorem ti_Mo_believe : Cond.instanceMethod y_Mo_believe ∈ tbG := tb_at 813 (by decide +kernel) (by decide +kernel)
theorem ti_Mo_bring : Cond.instanceMethod y_Mo_bring ∈ tbG := tb_at 817 (by decide +kernel) (by decide +kernel)
theorem ti_Mo_takeFirst : Cond.instanceMethod y_Mo_takeFirst ∈ tbG := tb_at 821 (by decide +kernel) (by decide +kernel)
theorem ti_Mo_takeRelease : Cond.instanceMethod y_Mo_takeRelease ∈ tbG := tb_at 825 (by decide +kernel) (by decide +kernel)
theorem ti_Mo_change : Cond.instanceMethod y_Mo_change ∈ tbG := tb_at 829 (by decide +kernel) (by decide +kernel)
theorem ti_Mo_tell : Cond.instanceMethod y_Mo_tell ∈ tbG := tb_at 833 (by decide +kernel) (by decide +kernel)
theorem ti_Mo_makeReport : Cond.instanceMethod y_Mo_makeReport ∈ tbG := tb_at 837 (by decide +kernel) (by decide +kernel)
theorem ti_Mo_copyReport : Cond.instanceMethod y_Mo_copyReport ∈ tbG := tb_at 841 (by decide +kernel) (by decide +kernel)
theorem ti_Mo_drop : Cond.instanceMethod y_Mo_drop ∈ tbG := tb_at 845 (by decide +kernel) (by decide +kernel)
theorem ti_Mo_rowLength : Cond.instanceMethod y_Mo_rowLength ∈ tbG := tb_at 849 (by decide +kernel) (by decide +kernel)
theorem ti_Mo_waitsForChord : Cond.instanceMethod y_Mo_waitsForChord ∈ tbG := tb_at 853 (by decide +kernel) (by decide +kernel)
theorem ti_Mo_keysOf : Cond.instanceMethod y_Mo_keysOf ∈ tbG := tb_at 857 (by decide +kernel) (by decide +kernel)
theorem ti_Mo_chordOf : Cond.instanceMethod y_Mo_chordOf ∈ tbG := tb_at 861 (by decide +kernel) (by decide +kernel)
theorem ti_Mo_takeChord : Cond.instanceMethod y_Mo_takeChord ∈ tbG := tb_at 868 (by decide +kernel) (by decide +kernel)
theorem ti_Mo_disarm : Cond.instanceMethod y_Mo_disarm ∈ tbG := tb_at 872 (by decide +kernel) (by decide +kernel)
theorem ti_Mo_topOf : Cond.instanceMethod y_Mo_topOf ∈ tbG := tb_at 876 (by decide +kernel) (by decide +kernel)
theorem ti_Mo_isOn : Cond.instanceMethod y_Mo_isOn ∈ tbG := tb_at 880 (by decide +kernel) (by decide +kernel)
theorem ti_Mo_act : Cond.instanceMethod y_Mo_act ∈ tbG := tb_at 884 (by decide +kernel) (by decide +kernel)
theorem ti_Mo_tapOf : Cond.instanceMethod y_Mo_tapOf ∈ tbG := tb_at 888 (by decide +kernel) (by decide +kernel)
theorem ti_Mo_begin : Cond.instanceMethod y_Mo_begin ∈ tbG := tb_at 892 (by decide +kernel) (by decide +kernel)
theorem ti_Mo_play : Cond.instanceMethod y_Mo_play ∈ tbG := tb_at 896 (by decide +kernel) (by decide +kernel)
theorem ti_Mo_touch : Cond.instanceMethod y_Mo_touch ∈ tbG := tb_at 900 (by decide +kernel) (by decide +kernel)
theorem ti_Mo_scans : Cond.instanceMethod y_Mo_scans ∈ tbG := tb_at 903 (by decide +kernel) (by decide +kernel)
theorem ti_Mo_poll : Cond.instanceMethod y_Mo_poll ∈ tbG := tb_at 907 (by decide +kernel) (by decide +kernel)
theorem ti_Mo_report : Cond.instanceMethod y_Mo_report ∈ tbG := tb_at 911 (by decide +kernel) (by decide +kernel)
theorem ti_Mo_waiting : Cond.instanceMethod y_Mo_waiting ∈ tbG := tb_at 915 (by decide +kernel) (by decide +kernel)
theorem ti_Mo_late : Cond.instanceMethod y_Mo_late ∈ tbG := tb_at 919 (by decide +kernel) (by decide +kernel)
theorem ti_Mo_map : Cond.instanceMethod y_Mo_map ∈ tbG := tb_at 923 (by decide +kernel) (by decide +kernel)
theorem ti_Mo_macro : Cond.instanceMethod y_Mo_macro ∈ tbG := tb_at 936 (by decide +kernel) (by decide +kernel)
theorem ti_Mo_chord : Cond.instanceMethod y_Mo_chord ∈ tbG := tb_at 940 (by decide +kernel) (by decide +kernel)
theorem ti_Mo_on : Cond.instanceMethod y_Mo_on ∈ tbG := tb_at 945 (by decide +kernel) (by decide +kernel)
theorem ti_Mo_top : Cond.instanceMethod y_Mo_top ∈ tbG := tb_at 949 (by decide +kernel) (by decide +kernel)
theorem ti_Mo_key : Cond.instanceMethod y_Mo_key ∈ tbG := tb_at 953 (by decide +kernel) (by decide +kernel)
theorem ti_Mo_queued : Cond.instanceMethod y_Mo_queued ∈ tbG := tb_at 957 (by decide +kernel) (by decide +kernel)
theorem ti_Mo_history : Cond.instanceMethod y_Mo_history ∈ tbG := tb_at 961 (by decide +kernel) (by decide +kernel)
theorem te_G_scan : Cond.selects R_G y_G_scan y_G_scan ∈ tbG := tb_at 205 (by decide +kernel) (by decide +kernel)
theorem te_Mx_look : Cond.selects R_Mx y_Mx_look y_Mx_look ∈ tbG := tb_at 213 (by decide +kernel) (by decide +kernel)
theorem te_Mx_believe : Cond.selects R_Mx y_Mx_believe y_Mx_believe ∈ tbG := tb_at 235 (by decide +kernel) (by decide +kernel)
theorem te_Hi_add : Cond.selects R_Hi y_Hi_add y_Hi_add ∈ tbG := tb_at 239 (by decide +kernel) (by decide +kernel)
theorem te_Eq_add : Cond.selects R_Eq y_Eq_add y_Eq_add ∈ tbG := tb_at 246 (by decide +kernel) (by decide +kernel)
theorem te_Eq_length : Cond.selects R_Eq y_Eq_length y_Eq_length ∈ tbG := tb_at 254 (by decide +kernel) (by decide +kernel)
theorem te_Eq_isPress : Cond.selects R_Eq y_Eq_isPress y_Eq_isPress ∈ tbG := tb_at 258 (by decide +kernel) (by decide +kernel)
theorem te_Eq_keyAt : Cond.selects R_Eq y_Eq_keyAt y_Eq_keyAt ∈ tbG := tb_at 266 (by decide +kernel) (by decide +kernel)
theorem te_Eq_removeFirst : Cond.selects R_Eq y_Eq_removeFirst y_Eq_removeFirst ∈ tbG := tb_at 270 (by decide +kernel) (by decide +kernel)
theorem te_La_letGo : Cond.selects R_La y_La_letGo y_La_letGo ∈ tbG := tb_at 277 (by decide +kernel) (by decide +kernel)
theorem te_Ho_end : Cond.selects R_Ho y_Ho_end y_Ho_end ∈ tbG := tb_at 281 (by decide +kernel) (by decide +kernel)
theorem te_Ho_begin : Cond.selects R_Ho y_Ho_begin y_Ho_begin ∈ tbG := tb_at 285 (by decide +kernel) (by decide +kernel)
theorem te_Re_letGo : Cond.selects R_Re y_Re_letGo y_Re_letGo ∈ tbG := tb_at 289 (by decide +kernel) (by decide +kernel)
theorem te_Eq_rowLength : Cond.selects R_Eq y_Eq_rowLength y_Eq_rowLength ∈ tbG := tb_at 301 (by decide +kernel) (by decide +kernel)
theorem te_Eq_scanAt : Cond.selects R_Eq y_Eq_scanAt y_Eq_scanAt ∈ tbG := tb_at 310 (by decide +kernel) (by decide +kernel)
theorem te_Eq_firstKeys : Cond.selects R_Eq y_Eq_firstKeys y_Eq_firstKeys ∈ tbG := tb_at 314 (by decide +kernel) (by decide +kernel)
theorem te_Ch_canGrowFrom : Cond.selects R_Ch y_Ch_canGrowFrom y_Ch_canGrowFrom ∈ tbG := tb_at 319 (by decide +kernel) (by decide +kernel)
theorem te_Ch_longestAtStart : Cond.selects R_Ch y_Ch_longestAtStart y_Ch_longestAtStart ∈ tbG := tb_at 323 (by decide +kernel) (by decide +kernel)
theorem te_Ch_keysOf : Cond.selects R_Ch y_Ch_keysOf y_Ch_keysOf ∈ tbG := tb_at 338 (by decide +kernel) (by decide +kernel)
theorem te_Ch_codeOf : Cond.selects R_Ch y_Ch_codeOf y_Ch_codeOf ∈ tbG := tb_at 342 (by decide +kernel) (by decide +kernel)
theorem te_Re_goDown : Cond.selects R_Re y_Re_goDown y_Re_goDown ∈ tbG := tb_at 348 (by decide +kernel) (by decide +kernel)
theorem te_La_disarm : Cond.selects R_La y_La_disarm y_La_disarm ∈ tbG := tb_at 352 (by decide +kernel) (by decide +kernel)
theorem te_Km_topLayer : Cond.selects R_Km y_Km_topLayer y_Km_topLayer ∈ tbG := tb_at 360 (by decide +kernel) (by decide +kernel)
theorem te_Km_kind : Cond.selects R_Km y_Km_kind y_Km_kind ∈ tbG := tb_at 364 (by decide +kernel) (by decide +kernel)
theorem te_La_isOn : Cond.selects R_La y_La_isOn y_La_isOn ∈ tbG := tb_at 368 (by decide +kernel) (by decide +kernel)
theorem te_Eq_tellTap : Cond.selects R_Eq y_Eq_tellTap y_Eq_tellTap ∈ tbG := tb_at 377 (by decide +kernel) (by decide +kernel)
theorem te_Km_a : Cond.selects R_Km y_Km_a y_Km_a ∈ tbG := tb_at 381 (by decide +kernel) (by decide +kernel)
theorem te_La_hold : Cond.selects R_La y_La_hold y_La_hold ∈ tbG := tb_at 385 (by decide +kernel) (by decide +kernel)
theorem te_La_turnLock : Cond.selects R_La y_La_turnLock y_La_turnLock ∈ tbG := tb_at 389 (by decide +kernel) (by decide +kernel)
theorem te_La_arm : Cond.selects R_La y_La_arm y_La_arm ∈ tbG := tb_at 393 (by decide +kernel) (by decide +kernel)
theorem te_Km_b : Cond.selects R_Km y_Km_b y_Km_b ∈ tbG := tb_at 401 (by decide +kernel) (by decide +kernel)
theorem te_Km_macroCode : Cond.selects R_Km y_Km_macroCode y_Km_macroCode ∈ tbG := tb_at 409 (by decide +kernel) (by decide +kernel)
theorem te_G_poll : Cond.selects R_G y_G_poll y_G_poll ∈ tbG := tb_at 413 (by decide +kernel) (by decide +kernel)
theorem te_Re_takeOldest : Cond.selects R_Re y_Re_takeOldest y_Re_takeOldest ∈ tbG := tb_at 417 (by decide +kernel) (by decide +kernel)
theorem te_G_report : Cond.selects R_G y_G_report y_G_report ∈ tbG := tb_at 421 (by decide +kernel) (by decide +kernel)
theorem te_Re_partOfTaken : Cond.selects R_Re y_Re_partOfTaken y_Re_partOfTaken ∈ tbG := tb_at 425 (by decide +kernel) (by decide +kernel)
theorem te_G_waiting : Cond.selects R_G y_G_waiting y_G_waiting ∈ tbG := tb_at 431 (by decide +kernel) (by decide +kernel)
theorem te_Re_stored : Cond.selects R_Re y_Re_stored y_Re_stored ∈ tbG := tb_at 435 (by decide +kernel) (by decide +kernel)
theorem te_G_late : Cond.selects R_G y_G_late y_G_late ∈ tbG := tb_at 439 (by decide +kernel) (by decide +kernel)
theorem te_Re_isLate : Cond.selects R_Re y_Re_isLate y_Re_isLate ∈ tbG := tb_at 443 (by decide +kernel) (by decide +kernel)
theorem te_G_queued : Cond.selects R_G y_G_queued y_G_queued ∈ tbG := tb_at 447 (by decide +kernel) (by decide +kernel)
theorem te_G_history : Cond.selects R_G y_G_history y_G_history ∈ tbG := tb_at 451 (by decide +kernel) (by decide +kernel)
theorem te_Hi_latest : Cond.selects R_Hi y_Hi_latest y_Hi_latest ∈ tbG := tb_at 455 (by decide +kernel) (by decide +kernel)
theorem te_G_wire : Cond.selects R_G y_G_wire y_G_wire ∈ tbG := tb_at 463 (by decide +kernel) (by decide +kernel)
theorem te_Mx_setWired : Cond.selects R_Mx y_Mx_setWired y_Mx_setWired ∈ tbG := tb_at 538 (by decide +kernel) (by decide +kernel)
theorem te_G_bounce : Cond.selects R_G y_G_bounce y_G_bounce ∈ tbG := tb_at 546 (by decide +kernel) (by decide +kernel)
theorem te_Mx_setBounce : Cond.selects R_Mx y_Mx_setBounce y_Mx_setBounce ∈ tbG := tb_at 566 (by decide +kernel) (by decide +kernel)
theorem te_G_scans : Cond.selects R_G y_G_scans y_G_scans ∈ tbG := tb_at 573 (by decide +kernel) (by decide +kernel)
theorem te_G_map : Cond.selects R_G y_G_map y_G_map ∈ tbG := tb_at 581 (by decide +kernel) (by decide +kernel)
theorem te_Km_setAction : Cond.selects R_Km y_Km_setAction y_Km_setAction ∈ tbG := tb_at 599 (by decide +kernel) (by decide +kernel)
theorem te_G_macro : Cond.selects R_G y_G_macro y_G_macro ∈ tbG := tb_at 606 (by decide +kernel) (by decide +kernel)
theorem te_Km_setMacroCode : Cond.selects R_Km y_Km_setMacroCode y_Km_setMacroCode ∈ tbG := tb_at 612 (by decide +kernel) (by decide +kernel)
theorem te_G_chord : Cond.selects R_G y_G_chord y_G_chord ∈ tbG := tb_at 620 (by decide +kernel) (by decide +kernel)
theorem te_Ch_hasElsewhere : Cond.selects R_Ch y_Ch_hasElsewhere y_Ch_hasElsewhere ∈ tbG := tb_at 629 (by decide +kernel) (by decide +kernel)
theorem te_Ch_setChord : Cond.selects R_Ch y_Ch_setChord y_Ch_setChord ∈ tbG := tb_at 649 (by decide +kernel) (by decide +kernel)
theorem te_G_on : Cond.selects R_G y_G_on y_G_on ∈ tbG := tb_at 656 (by decide +kernel) (by decide +kernel)
theorem te_G_top : Cond.selects R_G y_G_top y_G_top ∈ tbG := tb_at 664 (by decide +kernel) (by decide +kernel)
theorem te_G_key : Cond.selects R_G y_G_key y_G_key ∈ tbG := tb_at 671 (by decide +kernel) (by decide +kernel)
theorem te_Mx_keysThatAre : Cond.selects R_Mx y_Mx_keysThatAre y_Mx_keysThatAre ∈ tbG := tb_at 676 (by decide +kernel) (by decide +kernel)
theorem te_Mo_thrown : Cond.selects R_Mo y_Mo_thrown y_Mo_thrown ∈ tbG := tb_at 778 (by decide +kernel) (by decide +kernel)
theorem te_Mo_wire : Cond.selects R_Mo y_Mo_wire y_Mo_wire ∈ tbG := tb_at 782 (by decide +kernel) (by decide +kernel)
theorem te_Mo_bounce : Cond.selects R_Mo y_Mo_bounce y_Mo_bounce ∈ tbG := tb_at 793 (by decide +kernel) (by decide +kernel)
theorem te_Mo_scan : Cond.selects R_Mo y_Mo_scan y_Mo_scan ∈ tbG := tb_at 797 (by decide +kernel) (by decide +kernel)
theorem te_Mo_scans : Cond.selects R_Mo y_Mo_scans y_Mo_scans ∈ tbG := tb_at 904 (by decide +kernel) (by decide +kernel)
theorem te_Mo_poll : Cond.selects R_Mo y_Mo_poll y_Mo_poll ∈ tbG := tb_at 908 (by decide +kernel) (by decide +kernel)
theorem te_Mo_report : Cond.selects R_Mo y_Mo_report y_Mo_report ∈ tbG := tb_at 912 (by decide +kernel) (by decide +kernel)
theorem te_Mo_waiting : Cond.selects R_Mo y_Mo_waiting y_Mo_waiting ∈ tbG := tb_at 916 (by decide +kernel) (by decide +kernel)
theorem te_Mo_late : Cond.selects R_Mo y_Mo_late y_Mo_late ∈ tbG := tb_at 920 (by decide +kernel) (by decide +kernel)
theorem te_Mo_map : Cond.selects R_Mo y_Mo_map y_Mo_map ∈ tbG := tb_at 924 (by decide +kernel) (by decide +kernel)
theorem te_Mo_macro : Cond.selects R_Mo y_Mo_macro y_Mo_macro ∈ tbG := tb_at 937 (by decide +kernel) (by decide +kernel)
theorem te_Mo_chord : Cond.selects R_Mo y_Mo_chord y_Mo_chord ∈ tbG := tb_at 941 (by decide +kernel) (by decide +kernel)
theorem te_Mo_on : Cond.selects R_Mo y_Mo_on y_Mo_on ∈ tbG := tb_at 946 (by decide +kernel) (by decide +kernel)
theorem te_Mo_top : Cond.selects R_Mo y_Mo_top y_Mo_top ∈ tbG := tb_at 950 (by decide +kernel) (by decide +kernel)
theorem te_Mo_key : Cond.selects R_Mo y_Mo_key y_Mo_key ∈ tbG := tb_at 954 (by decide +kernel) (by decide +kernel)
theorem te_Mo_queued : Cond.selects R_Mo y_Mo_queued y_Mo_queued ∈ tbG := tb_at 958 (by decide +kernel) (by decide +kernel)
theorem te_Mo_history : Cond.selects R_Mo y_Mo_history y_Mo_history ∈ tbG := tb_at 962 (by decide +kernel) (by decide +kernel)
theorem te_G_runScan : Cond.selects R_G y_G_runScan y_G_runScan ∈ tbG := tb_sel (q := (y_G_runScan, 9)) (by decide +kernel) (by decide +kernel)
theorem te_Mx_closedContacts : Cond.selects R_Mx y_Mx_closedContacts y_Mx_closedContacts ∈ tbG := tb_sel (q := (y_Mx_closedContacts, 6)) (by decide +kernel) (by decide +kernel)
theorem te_Mx_watch : Cond.selects R_Mx y_Mx_watch y_Mx_watch ∈ tbG := tb_sel (q := (y_Mx_watch, 6)) (by decide +kernel) (by decide +kernel)
theorem te_G_bringEvents : Cond.selects R_G y_G_bringEvents y_G_bringEvents ∈ tbG := tb_sel (q := (y_G_bringEvents, 9)) (by decide +kernel) (by decide +kernel)
theorem te_G_takeFirst : Cond.selects R_G y_G_takeFirst y_G_takeFirst ∈ tbG := tb_sel (q := (y_G_takeFirst, 9)) (by decide +kernel) (by decide +kernel)
theorem te_G_takeRelease : Cond.selects R_G y_G_takeRelease y_G_takeRelease ∈ tbG := tb_sel (q := (y_G_takeRelease, 9)) (by decide +kernel) (by decide +kernel)
theorem te_Re_packed : Cond.selects R_Re y_Re_packed y_Re_packed ∈ tbG := tb_sel (q := (y_Re_packed, 7)) (by decide +kernel) (by decide +kernel)
theorem te_Re_putIfOther : Cond.selects R_Re y_Re_putIfOther y_Re_putIfOther ∈ tbG := tb_sel (q := (y_Re_putIfOther, 7)) (by decide +kernel) (by decide +kernel)
theorem te_G_waitsForChord : Cond.selects R_G y_G_waitsForChord y_G_waitsForChord ∈ tbG := tb_sel (q := (y_G_waitsForChord, 9)) (by decide +kernel) (by decide +kernel)
theorem te_G_takeChord : Cond.selects R_G y_G_takeChord y_G_takeChord ∈ tbG := tb_sel (q := (y_G_takeChord, 9)) (by decide +kernel) (by decide +kernel)
theorem te_G_takeByAction : Cond.selects R_G y_G_takeByAction y_G_takeByAction ∈ tbG := tb_sel (q := (y_G_takeByAction, 9)) (by decide +kernel) (by decide +kernel)
theorem te_G_tellTap : Cond.selects R_G y_G_tellTap y_G_tellTap ∈ tbG := tb_sel (q := (y_G_tellTap, 9)) (by decide +kernel) (by decide +kernel)
theorem te_G_actTap : Cond.selects R_G y_G_actTap y_G_actTap ∈ tbG := tb_sel (q := (y_G_actTap, 9)) (by decide +kernel) (by decide +kernel)
theorem te_G_playMacro : Cond.selects R_G y_G_playMacro y_G_playMacro ∈ tbG := tb_sel (q := (y_G_playMacro, 9)) (by decide +kernel) (by decide +kernel)
theorem te_Mo_refused : Cond.selects R_Mo y_Mo_refused y_Mo_refused ∈ tbG := tb_sel (q := (y_Mo_refused, 30)) (by decide +kernel) (by decide +kernel)
theorem te_Mo_scanOnce : Cond.selects R_Mo y_Mo_scanOnce y_Mo_scanOnce ∈ tbG := tb_sel (q := (y_Mo_scanOnce, 30)) (by decide +kernel) (by decide +kernel)
theorem te_Mo_look : Cond.selects R_Mo y_Mo_look y_Mo_look ∈ tbG := tb_sel (q := (y_Mo_look, 30)) (by decide +kernel) (by decide +kernel)
theorem te_Mo_hasCorners : Cond.selects R_Mo y_Mo_hasCorners y_Mo_hasCorners ∈ tbG := tb_sel (q := (y_Mo_hasCorners, 30)) (by decide +kernel) (by decide +kernel)
theorem te_Mo_believe : Cond.selects R_Mo y_Mo_believe y_Mo_believe ∈ tbG := tb_sel (q := (y_Mo_believe, 30)) (by decide +kernel) (by decide +kernel)
theorem te_Mo_bring : Cond.selects R_Mo y_Mo_bring y_Mo_bring ∈ tbG := tb_sel (q := (y_Mo_bring, 30)) (by decide +kernel) (by decide +kernel)
theorem te_Mo_takeFirst : Cond.selects R_Mo y_Mo_takeFirst y_Mo_takeFirst ∈ tbG := tb_sel (q := (y_Mo_takeFirst, 30)) (by decide +kernel) (by decide +kernel)
theorem te_Mo_takeRelease : Cond.selects R_Mo y_Mo_takeRelease y_Mo_takeRelease ∈ tbG := tb_sel (q := (y_Mo_takeRelease, 30)) (by decide +kernel) (by decide +kernel)
theorem te_Mo_change : Cond.selects R_Mo y_Mo_change y_Mo_change ∈ tbG := tb_sel (q := (y_Mo_change, 30)) (by decide +kernel) (by decide +kernel)
theorem te_Mo_tell : Cond.selects R_Mo y_Mo_tell y_Mo_tell ∈ tbG := tb_sel (q := (y_Mo_tell, 30)) (by decide +kernel) (by decide +kernel)
theorem te_Mo_makeReport : Cond.selects R_Mo y_Mo_makeReport y_Mo_makeReport ∈ tbG := tb_sel (q := (y_Mo_makeReport, 30)) (by decide +kernel) (by decide +kernel)
theorem te_Mo_copyReport : Cond.selects R_Mo y_Mo_copyReport y_Mo_copyReport ∈ tbG := tb_sel (q := (y_Mo_copyReport, 30)) (by decide +kernel) (by decide +kernel)
theorem te_Mo_drop : Cond.selects R_Mo y_Mo_drop y_Mo_drop ∈ tbG := tb_sel (q := (y_Mo_drop, 30)) (by decide +kernel) (by decide +kernel)
theorem te_Mo_rowLength : Cond.selects R_Mo y_Mo_rowLength y_Mo_rowLength ∈ tbG := tb_sel (q := (y_Mo_rowLength, 30)) (by decide +kernel) (by decide +kernel)
theorem te_Mo_waitsForChord : Cond.selects R_Mo y_Mo_waitsForChord y_Mo_waitsForChord ∈ tbG := tb_sel (q := (y_Mo_waitsForChord, 30)) (by decide +kernel) (by decide +kernel)
theorem te_Mo_keysOf : Cond.selects R_Mo y_Mo_keysOf y_Mo_keysOf ∈ tbG := tb_sel (q := (y_Mo_keysOf, 30)) (by decide +kernel) (by decide +kernel)
theorem te_Mo_chordOf : Cond.selects R_Mo y_Mo_chordOf y_Mo_chordOf ∈ tbG := tb_sel (q := (y_Mo_chordOf, 30)) (by decide +kernel) (by decide +kernel)
theorem te_Mo_takeChord : Cond.selects R_Mo y_Mo_takeChord y_Mo_takeChord ∈ tbG := tb_sel (q := (y_Mo_takeChord, 30)) (by decide +kernel) (by decide +kernel)
theorem te_Mo_disarm : Cond.selects R_Mo y_Mo_disarm y_Mo_disarm ∈ tbG := tb_sel (q := (y_Mo_disarm, 30)) (by decide +kernel) (by decide +kernel)
theorem te_Mo_topOf : Cond.selects R_Mo y_Mo_topOf y_Mo_topOf ∈ tbG := tb_sel (q := (y_Mo_topOf, 30)) (by decide +kernel) (by decide +kernel)
theorem te_Mo_isOn : Cond.selects R_Mo y_Mo_isOn y_Mo_isOn ∈ tbG := tb_sel (q := (y_Mo_isOn, 30)) (by decide +kernel) (by decide +kernel)
theorem te_Mo_act : Cond.selects R_Mo y_Mo_act y_Mo_act ∈ tbG := tb_sel (q := (y_Mo_act, 30)) (by decide +kernel) (by decide +kernel)
theorem te_Mo_tapOf : Cond.selects R_Mo y_Mo_tapOf y_Mo_tapOf ∈ tbG := tb_sel (q := (y_Mo_tapOf, 30)) (by decide +kernel) (by decide +kernel)
theorem te_Mo_begin : Cond.selects R_Mo y_Mo_begin y_Mo_begin ∈ tbG := tb_sel (q := (y_Mo_begin, 30)) (by decide +kernel) (by decide +kernel)
theorem te_Mo_play : Cond.selects R_Mo y_Mo_play y_Mo_play ∈ tbG := tb_sel (q := (y_Mo_play, 30)) (by decide +kernel) (by decide +kernel)
theorem te_Mo_touch : Cond.selects R_Mo y_Mo_touch y_Mo_touch ∈ tbG := tb_sel (q := (y_Mo_touch, 30)) (by decide +kernel) (by decide +kernel)
theorem tz_Lw : Cond.initialized R_Lw ∈ tbG := tb_at 0 (by decide +kernel) (by decide +kernel)
theorem tz_G : Cond.initialized R_G ∈ tbG := tb_at 1 (by decide +kernel) (by decide +kernel)
theorem tz_Mx : Cond.initialized R_Mx ∈ tbG := tb_at 2 (by decide +kernel) (by decide +kernel)
theorem tz_Hi : Cond.initialized R_Hi ∈ tbG := tb_at 3 (by decide +kernel) (by decide +kernel)
theorem tz_Eq : Cond.initialized R_Eq ∈ tbG := tb_at 4 (by decide +kernel) (by decide +kernel)
theorem tz_Km : Cond.initialized R_Km ∈ tbG := tb_at 5 (by decide +kernel) (by decide +kernel)
theorem tz_Ch : Cond.initialized R_Ch ∈ tbG := tb_at 6 (by decide +kernel) (by decide +kernel)
theorem tz_La : Cond.initialized R_La ∈ tbG := tb_at 7 (by decide +kernel) (by decide +kernel)
theorem tz_Ho : Cond.initialized R_Ho ∈ tbG := tb_at 8 (by decide +kernel) (by decide +kernel)
theorem tz_Re : Cond.initialized R_Re ∈ tbG := tb_at 9 (by decide +kernel) (by decide +kernel)
theorem tz_Mo : Cond.initialized R_Mo ∈ tbG := tb_at 10 (by decide +kernel) (by decide +kernel)
theorem tz_Ji : Cond.initialized R_Ji ∈ tbG := tb_at 17 (by decide +kernel) (by decide +kernel)
theorem tk_Ji_265 : Cond.constant R_Ji 265 (1431655765) ∈ tbG := tb_at 328 (by decide +kernel) (by decide +kernel)
theorem tk_Ji_266 : Cond.constant R_Ji 266 (858993459) ∈ tbG := tb_at 329 (by decide +kernel) (by decide +kernel)
theorem tk_Ji_267 : Cond.constant R_Ji 267 (252645135) ∈ tbG := tb_at 330 (by decide +kernel) (by decide +kernel)
theorem tk_Re_42 : Cond.constantLong R_Re 42 (255) ∈ tbG := tb_at 427 (by decide +kernel) (by decide +kernel)
theorem tk_Re_44 : Cond.constantLong R_Re 44 (127) ∈ tbG := tb_at 428 (by decide +kernel) (by decide +kernel)
theorem tk_Mo_206 : Cond.constant R_Mo 206 (16777216) ∈ tbG := tb_at 943 (by decide +kernel) (by decide +kernel)
theorem ts_mmin : Cond.static Lib.Math.min.name ∈ tbG := tb_at 242 (by decide +kernel) (by decide +kernel)
set_option maxRecDepth 100000 in
theorem tc_mmin : Cond.code Lib.Math.min.name Lib.Math.min.code 2 (some .int) ∈ tbG := tb_at 243 rfl rfl
theorem ts_mmax : Cond.static Lib.Math.max.name ∈ tbG := tb_at 273 (by decide +kernel) (by decide +kernel)
set_option maxRecDepth 100000 in
theorem tc_mmax : Cond.code Lib.Math.max.name Lib.Math.max.code 2 (some .int) ∈ tbG := tb_at 274 rfl rfl
theorem tz_math : Cond.initialized "java/lang/Math" ∈ tbG := tb_at 16 (by decide +kernel) (by decide +kernel)
set_option maxRecDepth 100000 in
theorem tc_G_init : cw_G_init ∈ tbG := tb_at 23 rfl rfl
set_option maxRecDepth 100000 in
theorem tc_G_wire : cw_G_wire ∈ tbG := tb_at 464 rfl rfl
set_option maxRecDepth 100000 in
theorem tc_G_bounce : cw_G_bounce ∈ tbG := tb_at 547 rfl rfl
set_option maxRecDepth 100000 in
theorem tc_G_scan : cw_G_scan ∈ tbG := tb_at 206 rfl rfl
set_option maxRecDepth 100000 in
theorem tc_G_scans : cw_G_scans ∈ tbG := tb_at 574 rfl rfl
set_option maxRecDepth 100000 in
theorem tc_G_poll : cw_G_poll ∈ tbG := tb_at 414 rfl rfl
set_option maxRecDepth 100000 in
theorem tc_G_report : cw_G_report ∈ tbG := tb_at 422 rfl rfl
set_option maxRecDepth 100000 in
theorem tc_G_waiting : cw_G_waiting ∈ tbG := tb_at 432 rfl rfl
set_option maxRecDepth 100000 in
theorem tc_G_late : cw_G_late ∈ tbG := tb_at 440 rfl rfl
set_option maxRecDepth 100000 in
theorem tc_G_map : cw_G_map ∈ tbG := tb_at 582 rfl rfl
set_option maxRecDepth 100000 in
theorem tc_G_macro : cw_G_macro ∈ tbG := tb_at 607 rfl rfl
set_option maxRecDepth 100000 in
theorem tc_G_chord : cw_G_chord ∈ tbG := tb_at 621 rfl rfl
set_option maxRecDepth 100000 in
theorem tc_G_on : cw_G_on ∈ tbG := tb_at 657 rfl rfl
set_option maxRecDepth 100000 in
theorem tc_G_top : cw_G_top ∈ tbG := tb_at 665 rfl rfl
set_option maxRecDepth 100000 in
theorem tc_G_key : cw_G_key ∈ tbG := tb_at 672 rfl rfl
set_option maxRecDepth 100000 in
theorem tc_G_queued : cw_G_queued ∈ tbG := tb_at 448 rfl rfl
set_option maxRecDepth 100000 in
theorem tc_G_history : cw_G_history ∈ tbG := tb_at 452 rfl rfl
set_option maxRecDepth 100000 in
theorem tc_G_requireKey : cw_G_requireKey ∈ tbG := tb_at 467 rfl rfl
set_option maxRecDepth 100000 in
theorem tc_G_requireLayer : cw_G_requireLayer ∈ tbG := tb_at 585 rfl rfl
set_option maxRecDepth 100000 in
theorem tc_G_isCode : cw_G_isCode ∈ tbG := tb_at 592 rfl rfl
set_option maxRecDepth 100000 in
theorem tc_G_isUpperLayer : cw_G_isUpperLayer ∈ tbG := tb_at 595 rfl rfl
set_option maxRecDepth 100000 in
theorem tc_G_isChord : cw_G_isChord ∈ tbG := tb_at 625 rfl rfl
set_option maxRecDepth 100000 in
theorem tc_G_isAction : cw_G_isAction ∈ tbG := tb_at 589 rfl rfl
set_option maxRecDepth 100000 in
theorem tc_G_runScan : cw_G_runScan ∈ tbG := tb_at 210 rfl rfl
set_option maxRecDepth 100000 in
theorem tc_G_bringEvents : cw_G_bringEvents ∈ tbG := tb_at 232 rfl rfl
set_option maxRecDepth 100000 in
theorem tc_G_takeFirst : cw_G_takeFirst ∈ tbG := tb_at 251 rfl rfl
set_option maxRecDepth 100000 in
theorem tc_G_takeRelease : cw_G_takeRelease ∈ tbG := tb_at 263 rfl rfl
set_option maxRecDepth 100000 in
theorem tc_G_waitsForChord : cw_G_waitsForChord ∈ tbG := tb_at 307 rfl rfl
set_option maxRecDepth 100000 in
theorem tc_G_takeChord : cw_G_takeChord ∈ tbG := tb_at 335 rfl rfl
set_option maxRecDepth 100000 in
theorem tc_G_takeByAction : cw_G_takeByAction ∈ tbG := tb_at 357 rfl rfl
set_option maxRecDepth 100000 in
theorem tc_G_tellTap : cw_G_tellTap ∈ tbG := tb_at 374 rfl rfl
set_option maxRecDepth 100000 in
theorem tc_G_actTap : cw_G_actTap ∈ tbG := tb_at 398 rfl rfl
set_option maxRecDepth 100000 in
theorem tc_G_playMacro : cw_G_playMacro ∈ tbG := tb_at 406 rfl rfl
set_option maxRecDepth 100000 in
theorem tc_Mo_init : cw_Mo_init ∈ tbG := tb_at 682 rfl rfl
set_option maxRecDepth 100000 in
theorem tc_Mo_thrown : cw_Mo_thrown ∈ tbG := tb_at 779 rfl rfl
set_option maxRecDepth 100000 in
theorem tc_Mo_refused : cw_Mo_refused ∈ tbG := tb_at 790 rfl rfl
set_option maxRecDepth 100000 in
theorem tc_Mo_isKey : cw_Mo_isKey ∈ tbG := tb_at 786 rfl rfl
set_option maxRecDepth 100000 in
theorem tc_Mo_isFour : cw_Mo_isFour ∈ tbG := tb_at 928 rfl rfl
set_option maxRecDepth 100000 in
theorem tc_Mo_isCode : cw_Mo_isCode ∈ tbG := tb_at 934 rfl rfl
set_option maxRecDepth 100000 in
theorem tc_Mo_wire : cw_Mo_wire ∈ tbG := tb_at 783 rfl rfl
set_option maxRecDepth 100000 in
theorem tc_Mo_bounce : cw_Mo_bounce ∈ tbG := tb_at 794 rfl rfl
set_option maxRecDepth 100000 in
theorem tc_Mo_hasCorners : cw_Mo_hasCorners ∈ tbG := tb_at 810 rfl rfl
set_option maxRecDepth 100000 in
theorem tc_Mo_look : cw_Mo_look ∈ tbG := tb_at 806 rfl rfl
set_option maxRecDepth 100000 in
theorem tc_Mo_bring : cw_Mo_bring ∈ tbG := tb_at 818 rfl rfl
set_option maxRecDepth 100000 in
theorem tc_Mo_believe : cw_Mo_believe ∈ tbG := tb_at 814 rfl rfl
set_option maxRecDepth 100000 in
theorem tc_Mo_isOn : cw_Mo_isOn ∈ tbG := tb_at 881 rfl rfl
set_option maxRecDepth 100000 in
theorem tc_Mo_topOf : cw_Mo_topOf ∈ tbG := tb_at 877 rfl rfl
set_option maxRecDepth 100000 in
theorem tc_Mo_makeReport : cw_Mo_makeReport ∈ tbG := tb_at 838 rfl rfl
set_option maxRecDepth 100000 in
theorem tc_Mo_copyReport : cw_Mo_copyReport ∈ tbG := tb_at 842 rfl rfl
set_option maxRecDepth 100000 in
theorem tc_Mo_tell : cw_Mo_tell ∈ tbG := tb_at 834 rfl rfl
set_option maxRecDepth 100000 in
theorem tc_Mo_change : cw_Mo_change ∈ tbG := tb_at 830 rfl rfl
set_option maxRecDepth 100000 in
theorem tc_Mo_touch : cw_Mo_touch ∈ tbG := tb_at 901 rfl rfl
set_option maxRecDepth 100000 in
theorem tc_Mo_drop : cw_Mo_drop ∈ tbG := tb_at 846 rfl rfl
set_option maxRecDepth 100000 in
theorem tc_Mo_takeRelease : cw_Mo_takeRelease ∈ tbG := tb_at 826 rfl rfl
set_option maxRecDepth 100000 in
theorem tc_Mo_rowLength : cw_Mo_rowLength ∈ tbG := tb_at 850 rfl rfl
set_option maxRecDepth 100000 in
theorem tc_Mo_keysOf : cw_Mo_keysOf ∈ tbG := tb_at 858 rfl rfl
set_option maxRecDepth 100000 in
theorem tc_Mo_waitsForChord : cw_Mo_waitsForChord ∈ tbG := tb_at 854 rfl rfl
set_option maxRecDepth 100000 in
theorem tc_Mo_bitsOf : cw_Mo_bitsOf ∈ tbG := tb_at 865 rfl rfl
set_option maxRecDepth 100000 in
theorem tc_Mo_chordOf : cw_Mo_chordOf ∈ tbG := tb_at 862 rfl rfl
set_option maxRecDepth 100000 in
theorem tc_Mo_takeChord : cw_Mo_takeChord ∈ tbG := tb_at 869 rfl rfl
set_option maxRecDepth 100000 in
theorem tc_Mo_disarm : cw_Mo_disarm ∈ tbG := tb_at 873 rfl rfl
set_option maxRecDepth 100000 in
theorem tc_Mo_tapOf : cw_Mo_tapOf ∈ tbG := tb_at 889 rfl rfl
set_option maxRecDepth 100000 in
theorem tc_Mo_begin : cw_Mo_begin ∈ tbG := tb_at 893 rfl rfl
set_option maxRecDepth 100000 in
theorem tc_Mo_act : cw_Mo_act ∈ tbG := tb_at 885 rfl rfl
set_option maxRecDepth 100000 in
theorem tc_Mo_play : cw_Mo_play ∈ tbG := tb_at 897 rfl rfl
set_option maxRecDepth 100000 in
theorem tc_Mo_takeFirst : cw_Mo_takeFirst ∈ tbG := tb_at 822 rfl rfl
set_option maxRecDepth 100000 in
theorem tc_Mo_scanOnce : cw_Mo_scanOnce ∈ tbG := tb_at 802 rfl rfl
set_option maxRecDepth 100000 in
theorem tc_Mo_scan : cw_Mo_scan ∈ tbG := tb_at 798 rfl rfl
set_option maxRecDepth 100000 in
theorem tc_Mo_scans : cw_Mo_scans ∈ tbG := tb_at 905 rfl rfl
set_option maxRecDepth 100000 in
theorem tc_Mo_poll : cw_Mo_poll ∈ tbG := tb_at 909 rfl rfl
set_option maxRecDepth 100000 in
theorem tc_Mo_report : cw_Mo_report ∈ tbG := tb_at 913 rfl rfl
set_option maxRecDepth 100000 in
theorem tc_Mo_waiting : cw_Mo_waiting ∈ tbG := tb_at 917 rfl rfl
set_option maxRecDepth 100000 in
theorem tc_Mo_late : cw_Mo_late ∈ tbG := tb_at 921 rfl rfl
set_option maxRecDepth 100000 in
theorem tc_Mo_isSound : cw_Mo_isSound ∈ tbG := tb_at 931 rfl rfl
set_option maxRecDepth 100000 in
theorem tc_Mo_map : cw_Mo_map ∈ tbG := tb_at 925 rfl rfl
set_option maxRecDepth 100000 in
theorem tc_Mo_macro : cw_Mo_macro ∈ tbG := tb_at 938 rfl rfl
set_option maxRecDepth 100000 in
theorem tc_Mo_chord : cw_Mo_chord ∈ tbG := tb_at 942 rfl rfl
set_option maxRecDepth 100000 in
theorem tc_Mo_on : cw_Mo_on ∈ tbG := tb_at 947 rfl rfl
set_option maxRecDepth 100000 in
theorem tc_Mo_top : cw_Mo_top ∈ tbG := tb_at 951 rfl rfl
set_option maxRecDepth 100000 in
theorem tc_Mo_key : cw_Mo_key ∈ tbG := tb_at 955 rfl rfl
set_option maxRecDepth 100000 in
theorem tc_Mo_queued : cw_Mo_queued ∈ tbG := tb_at 959 rfl rfl
set_option maxRecDepth 100000 in
theorem tc_Mo_history : cw_Mo_history ∈ tbG := tb_at 963 rfl rfl
set_option maxRecDepth 100000 in
theorem tc_Ch_init : cw_Ch_init ∈ tbG := tb_at 108 rfl rfl
set_option maxRecDepth 100000 in
theorem tc_Ch_setChord : cw_Ch_setChord ∈ tbG := tb_at 650 rfl rfl
set_option maxRecDepth 100000 in
theorem tc_Ch_keysOf : cw_Ch_keysOf ∈ tbG := tb_at 339 rfl rfl
set_option maxRecDepth 100000 in
theorem tc_Ch_codeOf : cw_Ch_codeOf ∈ tbG := tb_at 343 rfl rfl
set_option maxRecDepth 100000 in
theorem tc_Ch_hasElsewhere : cw_Ch_hasElsewhere ∈ tbG := tb_at 630 rfl rfl
set_option maxRecDepth 100000 in
theorem tc_Ch_canGrowFrom : cw_Ch_canGrowFrom ∈ tbG := tb_at 320 rfl rfl
set_option maxRecDepth 100000 in
theorem tc_Ch_longestAtStart : cw_Ch_longestAtStart ∈ tbG := tb_at 324 rfl rfl
set_option maxRecDepth 100000 in
theorem tc_Eq_init : cw_Eq_init ∈ tbG := tb_at 73 rfl rfl
set_option maxRecDepth 100000 in
theorem tc_Eq_length : cw_Eq_length ∈ tbG := tb_at 255 rfl rfl
set_option maxRecDepth 100000 in
theorem tc_Eq_add : cw_Eq_add ∈ tbG := tb_at 247 rfl rfl
set_option maxRecDepth 100000 in
theorem tc_Eq_removeFirst : cw_Eq_removeFirst ∈ tbG := tb_at 271 rfl rfl
set_option maxRecDepth 100000 in
theorem tc_Eq_isPress : cw_Eq_isPress ∈ tbG := tb_at 259 rfl rfl
set_option maxRecDepth 100000 in
theorem tc_Eq_keyAt : cw_Eq_keyAt ∈ tbG := tb_at 267 rfl rfl
set_option maxRecDepth 100000 in
theorem tc_Eq_scanAt : cw_Eq_scanAt ∈ tbG := tb_at 311 rfl rfl
set_option maxRecDepth 100000 in
theorem tc_Eq_rowLength : cw_Eq_rowLength ∈ tbG := tb_at 302 rfl rfl
set_option maxRecDepth 100000 in
theorem tc_Eq_firstKeys : cw_Eq_firstKeys ∈ tbG := tb_at 315 rfl rfl
set_option maxRecDepth 100000 in
theorem tc_Eq_tellTap : cw_Eq_tellTap ∈ tbG := tb_at 378 rfl rfl
set_option maxRecDepth 100000 in
theorem tc_Hi_init : cw_Hi_init ∈ tbG := tb_at 57 rfl rfl
set_option maxRecDepth 100000 in
theorem tc_Hi_add : cw_Hi_add ∈ tbG := tb_at 240 rfl rfl
set_option maxRecDepth 100000 in
theorem tc_Hi_latest : cw_Hi_latest ∈ tbG := tb_at 456 rfl rfl
set_option maxRecDepth 100000 in
theorem tc_Ho_init : cw_Ho_init ∈ tbG := tb_at 137 rfl rfl
set_option maxRecDepth 100000 in
theorem tc_Ho_begin : cw_Ho_begin ∈ tbG := tb_at 286 rfl rfl
set_option maxRecDepth 100000 in
theorem tc_Ho_end : cw_Ho_end ∈ tbG := tb_at 282 rfl rfl
set_option maxRecDepth 100000 in
theorem tc_Km_init : cw_Km_init ∈ tbG := tb_at 89 rfl rfl
set_option maxRecDepth 100000 in
theorem tc_Km_setAction : cw_Km_setAction ∈ tbG := tb_at 600 rfl rfl
set_option maxRecDepth 100000 in
theorem tc_Km_setMacroCode : cw_Km_setMacroCode ∈ tbG := tb_at 613 rfl rfl
set_option maxRecDepth 100000 in
theorem tc_Km_macroCode : cw_Km_macroCode ∈ tbG := tb_at 410 rfl rfl
set_option maxRecDepth 100000 in
theorem tc_Km_topLayer : cw_Km_topLayer ∈ tbG := tb_at 361 rfl rfl
set_option maxRecDepth 100000 in
theorem tc_Km_kind : cw_Km_kind ∈ tbG := tb_at 365 rfl rfl
set_option maxRecDepth 100000 in
theorem tc_Km_a : cw_Km_a ∈ tbG := tb_at 382 rfl rfl
set_option maxRecDepth 100000 in
theorem tc_Km_b : cw_Km_b ∈ tbG := tb_at 402 rfl rfl
set_option maxRecDepth 100000 in
theorem tc_La_init : cw_La_init ∈ tbG := tb_at 121 rfl rfl
set_option maxRecDepth 100000 in
theorem tc_La_isOn : cw_La_isOn ∈ tbG := tb_at 369 rfl rfl
set_option maxRecDepth 100000 in
theorem tc_La_hold : cw_La_hold ∈ tbG := tb_at 386 rfl rfl
set_option maxRecDepth 100000 in
theorem tc_La_letGo : cw_La_letGo ∈ tbG := tb_at 278 rfl rfl
set_option maxRecDepth 100000 in
theorem tc_La_turnLock : cw_La_turnLock ∈ tbG := tb_at 390 rfl rfl
set_option maxRecDepth 100000 in
theorem tc_La_arm : cw_La_arm ∈ tbG := tb_at 394 rfl rfl
set_option maxRecDepth 100000 in
theorem tc_La_disarm : cw_La_disarm ∈ tbG := tb_at 353 rfl rfl
set_option maxRecDepth 100000 in
theorem tc_Mx_init : cw_Mx_init ∈ tbG := tb_at 31 rfl rfl
set_option maxRecDepth 100000 in
theorem tc_Mx_setWired : cw_Mx_setWired ∈ tbG := tb_at 539 rfl rfl
set_option maxRecDepth 100000 in
theorem tc_Mx_setBounce : cw_Mx_setBounce ∈ tbG := tb_at 567 rfl rfl
set_option maxRecDepth 100000 in
theorem tc_Mx_keysThatAre : cw_Mx_keysThatAre ∈ tbG := tb_at 677 rfl rfl
set_option maxRecDepth 100000 in
theorem tc_Mx_look : cw_Mx_look ∈ tbG := tb_at 214 rfl rfl
set_option maxRecDepth 100000 in
theorem tc_Mx_believe : cw_Mx_believe ∈ tbG := tb_at 236 rfl rfl
set_option maxRecDepth 100000 in
theorem tc_Mx_closedContacts : cw_Mx_closedContacts ∈ tbG := tb_at 218 rfl rfl
set_option maxRecDepth 100000 in
theorem tc_Mx_watch : cw_Mx_watch ∈ tbG := tb_at 228 rfl rfl
set_option maxRecDepth 100000 in
theorem tc_Mx_isFourthCorner : cw_Mx_isFourthCorner ∈ tbG := tb_at 221 rfl rfl
set_option maxRecDepth 100000 in
theorem tc_Mx_rowOf : cw_Mx_rowOf ∈ tbG := tb_at 224 rfl rfl
set_option maxRecDepth 100000 in
theorem tc_Re_init : cw_Re_init ∈ tbG := tb_at 150 rfl rfl
set_option maxRecDepth 100000 in
theorem tc_Re_stored : cw_Re_stored ∈ tbG := tb_at 436 rfl rfl
set_option maxRecDepth 100000 in
theorem tc_Re_isLate : cw_Re_isLate ∈ tbG := tb_at 444 rfl rfl
set_option maxRecDepth 100000 in
theorem tc_Re_goDown : cw_Re_goDown ∈ tbG := tb_at 349 rfl rfl
set_option maxRecDepth 100000 in
theorem tc_Re_letGo : cw_Re_letGo ∈ tbG := tb_at 290 rfl rfl
set_option maxRecDepth 100000 in
theorem tc_Re_takeOldest : cw_Re_takeOldest ∈ tbG := tb_at 418 rfl rfl
set_option maxRecDepth 100000 in
theorem tc_Re_partOfTaken : cw_Re_partOfTaken ∈ tbG := tb_at 426 rfl rfl
set_option maxRecDepth 100000 in
theorem tc_Re_putIfOther : cw_Re_putIfOther ∈ tbG := tb_at 298 rfl rfl
set_option maxRecDepth 100000 in
theorem tc_Re_packed : cw_Re_packed ∈ tbG := tb_at 294 rfl rfl
set_option maxRecDepth 100000 in
theorem tc_Lw_wire : cw_Lw_wire ∈ tbG := tb_at 459 rfl rfl
set_option maxRecDepth 100000 in
theorem tc_Lw_bounce : cw_Lw_bounce ∈ tbG := tb_at 542 rfl rfl
set_option maxRecDepth 100000 in
theorem tc_Lw_scans : cw_Lw_scans ∈ tbG := tb_at 570 rfl rfl
set_option maxRecDepth 100000 in
theorem tc_Lw_map : cw_Lw_map ∈ tbG := tb_at 578 rfl rfl
set_option maxRecDepth 100000 in
theorem tc_Lw_macro : cw_Lw_macro ∈ tbG := tb_at 603 rfl rfl
set_option maxRecDepth 100000 in
theorem tc_Lw_chord : cw_Lw_chord ∈ tbG := tb_at 616 rfl rfl
set_option maxRecDepth 100000 in
theorem tc_Lw_on : cw_Lw_on ∈ tbG := tb_at 653 rfl rfl
set_option maxRecDepth 100000 in
theorem tc_Lw_top : cw_Lw_top ∈ tbG := tb_at 661 rfl rfl
set_option maxRecDepth 100000 in
theorem tc_Lw_key : cw_Lw_key ∈ tbG := tb_at 668 rfl rfl
set_option maxRecDepth 100000 in
theorem tc_Ji_bitCount : cw_Ji_bitCount ∈ tbG := tb_at 327 rfl rfl
end
section
theorem d_Mx_init_0 : decode b_Mx_init 0 = .ok (.aload_n 0, 1) := by decide +kernel
theorem d_Mx_init_1 : decode b_Mx_init 1 = .ok (.invokespecial 3, 3) := by decide +kernel
theorem d_Mx_init_4 : decode b_Mx_init 4 = .ok (.aload_n 0, 1) := by decide +kernel
theorem d_Mx_init_5 : decode b_Mx_init 5 = .ok (.bipush 24, 2) := by decide +kernel
theorem d_Mx_init_7 : decode b_Mx_init 7 = .ok (.newarray .int, 2) := by decide +kernel
theorem d_Mx_init_9 : decode b_Mx_init 9 = .ok (.putfield 9, 3) := by decide +kernel
theorem d_Mx_init_12 : decode b_Mx_init 12 = .ok (.aload_n 0, 1) := by decide +kernel
theorem d_Mx_init_13 : decode b_Mx_init 13 = .ok (.bipush 24, 2) := by decide +kernel
theorem d_Mx_init_15 : decode b_Mx_init 15 = .ok (.newarray .int, 2) := by decide +kernel
theorem d_Mx_init_17 : decode b_Mx_init 17 = .ok (.putfield 15, 3) := by decide +kernel
theorem d_Mx_init_20 : decode b_Mx_init 20 = .ok (.return_, 1) := by decide +kernel
theorem d_Mx_setWired_0 : decode b_Mx_setWired 0 = .ok (.aload_n 0, 1) := by decide +kernel
theorem d_Mx_setWired_1 : decode b_Mx_setWired 1 = .ok (.iload_n 2, 1) := by decide +kernel
theorem d_Mx_setWired_2 : decode b_Mx_setWired 2 = .ok (.ifCond .eq 14, 3) := by decide +kernel
theorem d_Mx_setWired_5 : decode b_Mx_setWired 5 = .ok (.aload_n 0, 1) := by decide +kernel
theorem d_Mx_setWired_6 : decode b_Mx_setWired 6 = .ok (.getfield 18, 3) := by decide +kernel
theorem d_Mx_setWired_9 : decode b_Mx_setWired 9 = .ok (.iconst 1, 1) := by decide +kernel
theorem d_Mx_setWired_10 : decode b_Mx_setWired 10 = .ok (.iload_n 1, 1) := by decide +kernel
theorem d_Mx_setWired_11 : decode b_Mx_setWired 11 = .ok (.ishl, 1) := by decide +kernel
theorem d_Mx_setWired_12 : decode b_Mx_setWired 12 = .ok (.ior, 1) := by decide +kernel
theorem d_Mx_setWired_13 : decode b_Mx_setWired 13 = .ok (.goto 13, 3) := by decide +kernel
theorem d_Mx_setWired_16 : decode b_Mx_setWired 16 = .ok (.aload_n 0, 1) := by decide +kernel
theorem d_Mx_setWired_17 : decode b_Mx_setWired 17 = .ok (.getfield 18, 3) := by decide +kernel
theorem d_Mx_setWired_20 : decode b_Mx_setWired 20 = .ok (.iconst 1, 1) := by decide +kernel
theorem d_Mx_setWired_21 : decode b_Mx_setWired 21 = .ok (.iload_n 1, 1) := by decide +kernel
theorem d_Mx_setWired_22 : decode b_Mx_setWired 22 = .ok (.ishl, 1) := by decide +kernel
theorem d_Mx_setWired_23 : decode b_Mx_setWired 23 = .ok (.iconst (-1), 1) := by decide +kernel
theorem d_Mx_setWired_24 : decode b_Mx_setWired 24 = .ok (.ixor, 1) := by decide +kernel
theorem d_Mx_setWired_25 : decode b_Mx_setWired 25 = .ok (.iand, 1) := by decide +kernel
theorem d_Mx_setWired_26 : decode b_Mx_setWired 26 = .ok (.putfield 18, 3) := by decide +kernel
theorem d_Mx_setWired_29 : decode b_Mx_setWired 29 = .ok (.return_, 1) := by decide +kernel
theorem d_Mx_setBounce_0 : decode b_Mx_setBounce 0 = .ok (.aload_n 0, 1) := by decide +kernel
theorem d_Mx_setBounce_1 : decode b_Mx_setBounce 1 = .ok (.getfield 9, 3) := by decide +kernel
theorem d_Mx_setBounce_4 : decode b_Mx_setBounce 4 = .ok (.iload_n 1, 1) := by decide +kernel
theorem d_Mx_setBounce_5 : decode b_Mx_setBounce 5 = .ok (.iload_n 2, 1) := by decide +kernel
theorem d_Mx_setBounce_6 : decode b_Mx_setBounce 6 = .ok (.iastore, 1) := by decide +kernel
theorem d_Mx_setBounce_7 : decode b_Mx_setBounce 7 = .ok (.return_, 1) := by decide +kernel
theorem d_Mx_keysThatAre_0 : decode b_Mx_keysThatAre 0 = .ok (.iload_n 1, 1) := by decide +kernel
theorem d_Mx_keysThatAre_1 : decode b_Mx_keysThatAre 1 = .ok (.tableswitch 42 0 2 #[27, 32, 37], 27) := by decide +kernel
theorem d_Mx_keysThatAre_28 : decode b_Mx_keysThatAre 28 = .ok (.aload_n 0, 1) := by decide +kernel
theorem d_Mx_keysThatAre_29 : decode b_Mx_keysThatAre 29 = .ok (.getfield 22, 3) := by decide +kernel
theorem d_Mx_keysThatAre_32 : decode b_Mx_keysThatAre 32 = .ok (.ireturn, 1) := by decide +kernel
theorem d_Mx_keysThatAre_33 : decode b_Mx_keysThatAre 33 = .ok (.aload_n 0, 1) := by decide +kernel
theorem d_Mx_keysThatAre_34 : decode b_Mx_keysThatAre 34 = .ok (.getfield 25, 3) := by decide +kernel
theorem d_Mx_keysThatAre_37 : decode b_Mx_keysThatAre 37 = .ok (.ireturn, 1) := by decide +kernel
theorem d_Mx_keysThatAre_38 : decode b_Mx_keysThatAre 38 = .ok (.aload_n 0, 1) := by decide +kernel
theorem d_Mx_keysThatAre_39 : decode b_Mx_keysThatAre 39 = .ok (.getfield 28, 3) := by decide +kernel
theorem d_Mx_keysThatAre_42 : decode b_Mx_keysThatAre 42 = .ok (.ireturn, 1) := by decide +kernel
theorem d_Mx_keysThatAre_43 : decode b_Mx_keysThatAre 43 = .ok (.aload_n 0, 1) := by decide +kernel
theorem d_Mx_keysThatAre_44 : decode b_Mx_keysThatAre 44 = .ok (.getfield 25, 3) := by decide +kernel
theorem d_Mx_keysThatAre_47 : decode b_Mx_keysThatAre 47 = .ok (.aload_n 0, 1) := by decide +kernel
theorem d_Mx_keysThatAre_48 : decode b_Mx_keysThatAre 48 = .ok (.getfield 28, 3) := by decide +kernel
theorem d_Mx_keysThatAre_51 : decode b_Mx_keysThatAre 51 = .ok (.iconst (-1), 1) := by decide +kernel
theorem d_Mx_keysThatAre_52 : decode b_Mx_keysThatAre 52 = .ok (.ixor, 1) := by decide +kernel
theorem d_Mx_keysThatAre_53 : decode b_Mx_keysThatAre 53 = .ok (.iand, 1) := by decide +kernel
theorem d_Mx_keysThatAre_54 : decode b_Mx_keysThatAre 54 = .ok (.ireturn, 1) := by decide +kernel
theorem d_Mx_look_0 : decode b_Mx_look 0 = .ok (.aload_n 0, 1) := by decide +kernel
theorem d_Mx_look_1 : decode b_Mx_look 1 = .ok (.invokevirtual 31, 3) := by decide +kernel
theorem d_Mx_look_4 : decode b_Mx_look 4 = .ok (.istore_n 1, 1) := by decide +kernel
theorem d_Mx_look_5 : decode b_Mx_look 5 = .ok (.aload_n 0, 1) := by decide +kernel
theorem d_Mx_look_6 : decode b_Mx_look 6 = .ok (.iload_n 1, 1) := by decide +kernel
theorem d_Mx_look_7 : decode b_Mx_look 7 = .ok (.putfield 22, 3) := by decide +kernel
theorem d_Mx_look_10 : decode b_Mx_look 10 = .ok (.iconst 0, 1) := by decide +kernel
theorem d_Mx_look_11 : decode b_Mx_look 11 = .ok (.istore_n 2, 1) := by decide +kernel
theorem d_Mx_look_12 : decode b_Mx_look 12 = .ok (.iload_n 2, 1) := by decide +kernel
theorem d_Mx_look_13 : decode b_Mx_look 13 = .ok (.bipush 24, 2) := by decide +kernel
theorem d_Mx_look_15 : decode b_Mx_look 15 = .ok (.if_icmp .ge 37, 3) := by decide +kernel
theorem d_Mx_look_18 : decode b_Mx_look 18 = .ok (.iload_n 1, 1) := by decide +kernel
theorem d_Mx_look_19 : decode b_Mx_look 19 = .ok (.iload_n 2, 1) := by decide +kernel
theorem d_Mx_look_20 : decode b_Mx_look 20 = .ok (.ishr, 1) := by decide +kernel
theorem d_Mx_look_21 : decode b_Mx_look 21 = .ok (.iconst 1, 1) := by decide +kernel
theorem d_Mx_look_22 : decode b_Mx_look 22 = .ok (.iand, 1) := by decide +kernel
theorem d_Mx_look_23 : decode b_Mx_look 23 = .ok (.ifCond .ne 23, 3) := by decide +kernel
theorem d_Mx_look_26 : decode b_Mx_look 26 = .ok (.iload_n 2, 1) := by decide +kernel
theorem d_Mx_look_27 : decode b_Mx_look 27 = .ok (.iload_n 1, 1) := by decide +kernel
theorem d_Mx_look_28 : decode b_Mx_look 28 = .ok (.invokestatic 35, 3) := by decide +kernel
theorem d_Mx_look_31 : decode b_Mx_look 31 = .ok (.ifCond .eq 15, 3) := by decide +kernel
theorem d_Mx_look_34 : decode b_Mx_look 34 = .ok (.aload_n 0, 1) := by decide +kernel
theorem d_Mx_look_35 : decode b_Mx_look 35 = .ok (.dup, 1) := by decide +kernel
theorem d_Mx_look_36 : decode b_Mx_look 36 = .ok (.getfield 22, 3) := by decide +kernel
theorem d_Mx_look_39 : decode b_Mx_look 39 = .ok (.iconst 1, 1) := by decide +kernel
theorem d_Mx_look_40 : decode b_Mx_look 40 = .ok (.iload_n 2, 1) := by decide +kernel
theorem d_Mx_look_41 : decode b_Mx_look 41 = .ok (.ishl, 1) := by decide +kernel
theorem d_Mx_look_42 : decode b_Mx_look 42 = .ok (.ior, 1) := by decide +kernel
theorem d_Mx_look_43 : decode b_Mx_look 43 = .ok (.putfield 22, 3) := by decide +kernel
theorem d_Mx_look_46 : decode b_Mx_look 46 = .ok (.iinc 2 1, 3) := by decide +kernel
theorem d_Mx_look_49 : decode b_Mx_look 49 = .ok (.goto (-37), 3) := by decide +kernel
theorem d_Mx_look_52 : decode b_Mx_look 52 = .ok (.iconst 0, 1) := by decide +kernel
theorem d_Mx_look_53 : decode b_Mx_look 53 = .ok (.istore_n 2, 1) := by decide +kernel
theorem d_Mx_look_54 : decode b_Mx_look 54 = .ok (.iload_n 2, 1) := by decide +kernel
theorem d_Mx_look_55 : decode b_Mx_look 55 = .ok (.bipush 24, 2) := by decide +kernel
theorem d_Mx_look_57 : decode b_Mx_look 57 = .ok (.if_icmp .ge 14, 3) := by decide +kernel
theorem d_Mx_look_60 : decode b_Mx_look 60 = .ok (.aload_n 0, 1) := by decide +kernel
theorem d_Mx_look_61 : decode b_Mx_look 61 = .ok (.iload_n 2, 1) := by decide +kernel
theorem d_Mx_look_62 : decode b_Mx_look 62 = .ok (.invokevirtual 39, 3) := by decide +kernel
theorem d_Mx_look_65 : decode b_Mx_look 65 = .ok (.iinc 2 1, 3) := by decide +kernel
theorem d_Mx_look_68 : decode b_Mx_look 68 = .ok (.goto (-14), 3) := by decide +kernel
theorem d_Mx_look_71 : decode b_Mx_look 71 = .ok (.return_, 1) := by decide +kernel
theorem d_Mx_believe_0 : decode b_Mx_believe 0 = .ok (.iconst 1, 1) := by decide +kernel
theorem d_Mx_believe_1 : decode b_Mx_believe 1 = .ok (.iload_n 1, 1) := by decide +kernel
theorem d_Mx_believe_2 : decode b_Mx_believe 2 = .ok (.ishl, 1) := by decide +kernel
theorem d_Mx_believe_3 : decode b_Mx_believe 3 = .ok (.istore_n 2, 1) := by decide +kernel
theorem d_Mx_believe_4 : decode b_Mx_believe 4 = .ok (.aload_n 0, 1) := by decide +kernel
theorem d_Mx_believe_5 : decode b_Mx_believe 5 = .ok (.getfield 28, 3) := by decide +kernel
theorem d_Mx_believe_8 : decode b_Mx_believe 8 = .ok (.aload_n 0, 1) := by decide +kernel
theorem d_Mx_believe_9 : decode b_Mx_believe 9 = .ok (.getfield 25, 3) := by decide +kernel
theorem d_Mx_believe_12 : decode b_Mx_believe 12 = .ok (.iconst (-1), 1) := by decide +kernel
theorem d_Mx_believe_13 : decode b_Mx_believe 13 = .ok (.ixor, 1) := by decide +kernel
theorem d_Mx_believe_14 : decode b_Mx_believe 14 = .ok (.iand, 1) := by decide +kernel
theorem d_Mx_believe_15 : decode b_Mx_believe 15 = .ok (.iload_n 2, 1) := by decide +kernel
theorem d_Mx_believe_16 : decode b_Mx_believe 16 = .ok (.iand, 1) := by decide +kernel
theorem d_Mx_believe_17 : decode b_Mx_believe 17 = .ok (.ifCond .eq 19, 3) := by decide +kernel
theorem d_Mx_believe_20 : decode b_Mx_believe 20 = .ok (.aload_n 0, 1) := by decide +kernel
theorem d_Mx_believe_21 : decode b_Mx_believe 21 = .ok (.dup, 1) := by decide +kernel
theorem d_Mx_believe_22 : decode b_Mx_believe 22 = .ok (.getfield 28, 3) := by decide +kernel
theorem d_Mx_believe_25 : decode b_Mx_believe 25 = .ok (.iload_n 2, 1) := by decide +kernel
theorem d_Mx_believe_26 : decode b_Mx_believe 26 = .ok (.iconst (-1), 1) := by decide +kernel
theorem d_Mx_believe_27 : decode b_Mx_believe 27 = .ok (.ixor, 1) := by decide +kernel
theorem d_Mx_believe_28 : decode b_Mx_believe 28 = .ok (.iand, 1) := by decide +kernel
theorem d_Mx_believe_29 : decode b_Mx_believe 29 = .ok (.putfield 28, 3) := by decide +kernel
theorem d_Mx_believe_32 : decode b_Mx_believe 32 = .ok (.iconst 2, 1) := by decide +kernel
theorem d_Mx_believe_33 : decode b_Mx_believe 33 = .ok (.iload_n 1, 1) := by decide +kernel
theorem d_Mx_believe_34 : decode b_Mx_believe 34 = .ok (.imul, 1) := by decide +kernel
theorem d_Mx_believe_35 : decode b_Mx_believe 35 = .ok (.ireturn, 1) := by decide +kernel
theorem d_Mx_believe_36 : decode b_Mx_believe 36 = .ok (.aload_n 0, 1) := by decide +kernel
theorem d_Mx_believe_37 : decode b_Mx_believe 37 = .ok (.getfield 25, 3) := by decide +kernel
theorem d_Mx_believe_40 : decode b_Mx_believe 40 = .ok (.aload_n 0, 1) := by decide +kernel
theorem d_Mx_believe_41 : decode b_Mx_believe 41 = .ok (.getfield 28, 3) := by decide +kernel
theorem d_Mx_believe_44 : decode b_Mx_believe 44 = .ok (.iconst (-1), 1) := by decide +kernel
theorem d_Mx_believe_45 : decode b_Mx_believe 45 = .ok (.ixor, 1) := by decide +kernel
theorem d_Mx_believe_46 : decode b_Mx_believe 46 = .ok (.iand, 1) := by decide +kernel
theorem d_Mx_believe_47 : decode b_Mx_believe 47 = .ok (.iload_n 2, 1) := by decide +kernel
theorem d_Mx_believe_48 : decode b_Mx_believe 48 = .ok (.iand, 1) := by decide +kernel
theorem d_Mx_believe_49 : decode b_Mx_believe 49 = .ok (.ifCond .eq 30, 3) := by decide +kernel
theorem d_Mx_believe_52 : decode b_Mx_believe 52 = .ok (.iload_n 1, 1) := by decide +kernel
theorem d_Mx_believe_53 : decode b_Mx_believe 53 = .ok (.aload_n 0, 1) := by decide +kernel
theorem d_Mx_believe_54 : decode b_Mx_believe 54 = .ok (.getfield 25, 3) := by decide +kernel
theorem d_Mx_believe_57 : decode b_Mx_believe 57 = .ok (.invokestatic 35, 3) := by decide +kernel
theorem d_Mx_believe_60 : decode b_Mx_believe 60 = .ok (.ifCond .ne 19, 3) := by decide +kernel
theorem d_Mx_believe_63 : decode b_Mx_believe 63 = .ok (.aload_n 0, 1) := by decide +kernel
theorem d_Mx_believe_64 : decode b_Mx_believe 64 = .ok (.dup, 1) := by decide +kernel
theorem d_Mx_believe_65 : decode b_Mx_believe 65 = .ok (.getfield 28, 3) := by decide +kernel
theorem d_Mx_believe_68 : decode b_Mx_believe 68 = .ok (.iload_n 2, 1) := by decide +kernel
theorem d_Mx_believe_69 : decode b_Mx_believe 69 = .ok (.ior, 1) := by decide +kernel
theorem d_Mx_believe_70 : decode b_Mx_believe 70 = .ok (.putfield 28, 3) := by decide +kernel
theorem d_Mx_believe_73 : decode b_Mx_believe 73 = .ok (.iconst 2, 1) := by decide +kernel
theorem d_Mx_believe_74 : decode b_Mx_believe 74 = .ok (.iload_n 1, 1) := by decide +kernel
theorem d_Mx_believe_75 : decode b_Mx_believe 75 = .ok (.imul, 1) := by decide +kernel
theorem d_Mx_believe_76 : decode b_Mx_believe 76 = .ok (.iconst 1, 1) := by decide +kernel
theorem d_Mx_believe_77 : decode b_Mx_believe 77 = .ok (.iadd, 1) := by decide +kernel
theorem d_Mx_believe_78 : decode b_Mx_believe 78 = .ok (.ireturn, 1) := by decide +kernel
theorem d_Mx_believe_79 : decode b_Mx_believe 79 = .ok (.iconst (-1), 1) := by decide +kernel
theorem d_Mx_believe_80 : decode b_Mx_believe 80 = .ok (.ireturn, 1) := by decide +kernel
theorem d_Mx_closedContacts_0 : decode b_Mx_closedContacts 0 = .ok (.aload_n 0, 1) := by decide +kernel
theorem d_Mx_closedContacts_1 : decode b_Mx_closedContacts 1 = .ok (.getfield 18, 3) := by decide +kernel
theorem d_Mx_closedContacts_4 : decode b_Mx_closedContacts 4 = .ok (.istore_n 1, 1) := by decide +kernel
theorem d_Mx_closedContacts_5 : decode b_Mx_closedContacts 5 = .ok (.iconst 0, 1) := by decide +kernel
theorem d_Mx_closedContacts_6 : decode b_Mx_closedContacts 6 = .ok (.istore_n 2, 1) := by decide +kernel
theorem d_Mx_closedContacts_7 : decode b_Mx_closedContacts 7 = .ok (.iload_n 2, 1) := by decide +kernel
theorem d_Mx_closedContacts_8 : decode b_Mx_closedContacts 8 = .ok (.bipush 24, 2) := by decide +kernel
theorem d_Mx_closedContacts_10 : decode b_Mx_closedContacts 10 = .ok (.if_icmp .ge 32, 3) := by decide +kernel
theorem d_Mx_closedContacts_13 : decode b_Mx_closedContacts 13 = .ok (.iload_n 1, 1) := by decide +kernel
theorem d_Mx_closedContacts_14 : decode b_Mx_closedContacts 14 = .ok (.aload_n 0, 1) := by decide +kernel
theorem d_Mx_closedContacts_15 : decode b_Mx_closedContacts 15 = .ok (.getfield 9, 3) := by decide +kernel
theorem d_Mx_closedContacts_18 : decode b_Mx_closedContacts 18 = .ok (.iload_n 2, 1) := by decide +kernel
theorem d_Mx_closedContacts_19 : decode b_Mx_closedContacts 19 = .ok (.iaload, 1) := by decide +kernel
theorem d_Mx_closedContacts_20 : decode b_Mx_closedContacts 20 = .ok (.iconst 1, 1) := by decide +kernel
theorem d_Mx_closedContacts_21 : decode b_Mx_closedContacts 21 = .ok (.iand, 1) := by decide +kernel
theorem d_Mx_closedContacts_22 : decode b_Mx_closedContacts 22 = .ok (.iload_n 2, 1) := by decide +kernel
theorem d_Mx_closedContacts_23 : decode b_Mx_closedContacts 23 = .ok (.ishl, 1) := by decide +kernel
theorem d_Mx_closedContacts_24 : decode b_Mx_closedContacts 24 = .ok (.ixor, 1) := by decide +kernel
theorem d_Mx_closedContacts_25 : decode b_Mx_closedContacts 25 = .ok (.istore_n 1, 1) := by decide +kernel
theorem d_Mx_closedContacts_26 : decode b_Mx_closedContacts 26 = .ok (.aload_n 0, 1) := by decide +kernel
theorem d_Mx_closedContacts_27 : decode b_Mx_closedContacts 27 = .ok (.getfield 9, 3) := by decide +kernel
theorem d_Mx_closedContacts_30 : decode b_Mx_closedContacts 30 = .ok (.iload_n 2, 1) := by decide +kernel
theorem d_Mx_closedContacts_31 : decode b_Mx_closedContacts 31 = .ok (.dup2, 1) := by decide +kernel
theorem d_Mx_closedContacts_32 : decode b_Mx_closedContacts 32 = .ok (.iaload, 1) := by decide +kernel
theorem d_Mx_closedContacts_33 : decode b_Mx_closedContacts 33 = .ok (.iconst 1, 1) := by decide +kernel
theorem d_Mx_closedContacts_34 : decode b_Mx_closedContacts 34 = .ok (.ishr, 1) := by decide +kernel
theorem d_Mx_closedContacts_35 : decode b_Mx_closedContacts 35 = .ok (.iastore, 1) := by decide +kernel
theorem d_Mx_closedContacts_36 : decode b_Mx_closedContacts 36 = .ok (.iinc 2 1, 3) := by decide +kernel
theorem d_Mx_closedContacts_39 : decode b_Mx_closedContacts 39 = .ok (.goto (-32), 3) := by decide +kernel
theorem d_Mx_closedContacts_42 : decode b_Mx_closedContacts 42 = .ok (.iload_n 1, 1) := by decide +kernel
theorem d_Mx_closedContacts_43 : decode b_Mx_closedContacts 43 = .ok (.ireturn, 1) := by decide +kernel
theorem d_Mx_watch_0 : decode b_Mx_watch 0 = .ok (.iconst 1, 1) := by decide +kernel
theorem d_Mx_watch_1 : decode b_Mx_watch 1 = .ok (.iload_n 1, 1) := by decide +kernel
theorem d_Mx_watch_2 : decode b_Mx_watch 2 = .ok (.ishl, 1) := by decide +kernel
theorem d_Mx_watch_3 : decode b_Mx_watch 3 = .ok (.istore_n 2, 1) := by decide +kernel
theorem d_Mx_watch_4 : decode b_Mx_watch 4 = .ok (.aload_n 0, 1) := by decide +kernel
theorem d_Mx_watch_5 : decode b_Mx_watch 5 = .ok (.getfield 15, 3) := by decide +kernel
theorem d_Mx_watch_8 : decode b_Mx_watch 8 = .ok (.iload_n 1, 1) := by decide +kernel
theorem d_Mx_watch_9 : decode b_Mx_watch 9 = .ok (.aload_n 0, 1) := by decide +kernel
theorem d_Mx_watch_10 : decode b_Mx_watch 10 = .ok (.getfield 22, 3) := by decide +kernel
theorem d_Mx_watch_13 : decode b_Mx_watch 13 = .ok (.aload_n 0, 1) := by decide +kernel
theorem d_Mx_watch_14 : decode b_Mx_watch 14 = .ok (.getfield 25, 3) := by decide +kernel
theorem d_Mx_watch_17 : decode b_Mx_watch 17 = .ok (.ixor, 1) := by decide +kernel
theorem d_Mx_watch_18 : decode b_Mx_watch 18 = .ok (.iload_n 2, 1) := by decide +kernel
theorem d_Mx_watch_19 : decode b_Mx_watch 19 = .ok (.iand, 1) := by decide +kernel
theorem d_Mx_watch_20 : decode b_Mx_watch 20 = .ok (.ifCond .eq 14, 3) := by decide +kernel
theorem d_Mx_watch_23 : decode b_Mx_watch 23 = .ok (.aload_n 0, 1) := by decide +kernel
theorem d_Mx_watch_24 : decode b_Mx_watch 24 = .ok (.getfield 15, 3) := by decide +kernel
theorem d_Mx_watch_27 : decode b_Mx_watch 27 = .ok (.iload_n 1, 1) := by decide +kernel
theorem d_Mx_watch_28 : decode b_Mx_watch 28 = .ok (.iaload, 1) := by decide +kernel
theorem d_Mx_watch_29 : decode b_Mx_watch 29 = .ok (.iconst 1, 1) := by decide +kernel
theorem d_Mx_watch_30 : decode b_Mx_watch 30 = .ok (.iadd, 1) := by decide +kernel
theorem d_Mx_watch_31 : decode b_Mx_watch 31 = .ok (.goto 4, 3) := by decide +kernel
theorem d_Mx_watch_34 : decode b_Mx_watch 34 = .ok (.iconst 0, 1) := by decide +kernel
theorem d_Mx_watch_35 : decode b_Mx_watch 35 = .ok (.iastore, 1) := by decide +kernel
theorem d_Mx_watch_36 : decode b_Mx_watch 36 = .ok (.aload_n 0, 1) := by decide +kernel
theorem d_Mx_watch_37 : decode b_Mx_watch 37 = .ok (.getfield 15, 3) := by decide +kernel
theorem d_Mx_watch_40 : decode b_Mx_watch 40 = .ok (.iload_n 1, 1) := by decide +kernel
theorem d_Mx_watch_41 : decode b_Mx_watch 41 = .ok (.iaload, 1) := by decide +kernel
theorem d_Mx_watch_42 : decode b_Mx_watch 42 = .ok (.iconst 5, 1) := by decide +kernel
theorem d_Mx_watch_43 : decode b_Mx_watch 43 = .ok (.if_icmp .ne 20, 3) := by decide +kernel
theorem d_Mx_watch_46 : decode b_Mx_watch 46 = .ok (.aload_n 0, 1) := by decide +kernel
theorem d_Mx_watch_47 : decode b_Mx_watch 47 = .ok (.dup, 1) := by decide +kernel
theorem d_Mx_watch_48 : decode b_Mx_watch 48 = .ok (.getfield 25, 3) := by decide +kernel
theorem d_Mx_watch_51 : decode b_Mx_watch 51 = .ok (.iload_n 2, 1) := by decide +kernel
theorem d_Mx_watch_52 : decode b_Mx_watch 52 = .ok (.ixor, 1) := by decide +kernel
theorem d_Mx_watch_53 : decode b_Mx_watch 53 = .ok (.putfield 25, 3) := by decide +kernel
theorem d_Mx_watch_56 : decode b_Mx_watch 56 = .ok (.aload_n 0, 1) := by decide +kernel
theorem d_Mx_watch_57 : decode b_Mx_watch 57 = .ok (.getfield 15, 3) := by decide +kernel
theorem d_Mx_watch_60 : decode b_Mx_watch 60 = .ok (.iload_n 1, 1) := by decide +kernel
theorem d_Mx_watch_61 : decode b_Mx_watch 61 = .ok (.iconst 0, 1) := by decide +kernel
theorem d_Mx_watch_62 : decode b_Mx_watch 62 = .ok (.iastore, 1) := by decide +kernel
theorem d_Mx_watch_63 : decode b_Mx_watch 63 = .ok (.return_, 1) := by decide +kernel
theorem d_Mx_isFourthCorner_0 : decode b_Mx_isFourthCorner 0 = .ok (.iload_n 0, 1) := by decide +kernel
theorem d_Mx_isFourthCorner_1 : decode b_Mx_isFourthCorner 1 = .ok (.bipush 6, 2) := by decide +kernel
theorem d_Mx_isFourthCorner_3 : decode b_Mx_isFourthCorner 3 = .ok (.idiv, 1) := by decide +kernel
theorem d_Mx_isFourthCorner_4 : decode b_Mx_isFourthCorner 4 = .ok (.istore_n 2, 1) := by decide +kernel
theorem d_Mx_isFourthCorner_5 : decode b_Mx_isFourthCorner 5 = .ok (.iload_n 0, 1) := by decide +kernel
theorem d_Mx_isFourthCorner_6 : decode b_Mx_isFourthCorner 6 = .ok (.bipush 6, 2) := by decide +kernel
theorem d_Mx_isFourthCorner_8 : decode b_Mx_isFourthCorner 8 = .ok (.irem, 1) := by decide +kernel
theorem d_Mx_isFourthCorner_9 : decode b_Mx_isFourthCorner 9 = .ok (.istore_n 3, 1) := by decide +kernel
theorem d_Mx_isFourthCorner_10 : decode b_Mx_isFourthCorner 10 = .ok (.iload_n 1, 1) := by decide +kernel
theorem d_Mx_isFourthCorner_11 : decode b_Mx_isFourthCorner 11 = .ok (.iload_n 2, 1) := by decide +kernel
theorem d_Mx_isFourthCorner_12 : decode b_Mx_isFourthCorner 12 = .ok (.invokestatic 43, 3) := by decide +kernel
theorem d_Mx_isFourthCorner_15 : decode b_Mx_isFourthCorner 15 = .ok (.iconst 1, 1) := by decide +kernel
theorem d_Mx_isFourthCorner_16 : decode b_Mx_isFourthCorner 16 = .ok (.iload_n 3, 1) := by decide +kernel
theorem d_Mx_isFourthCorner_17 : decode b_Mx_isFourthCorner 17 = .ok (.ishl, 1) := by decide +kernel
theorem d_Mx_isFourthCorner_18 : decode b_Mx_isFourthCorner 18 = .ok (.iconst (-1), 1) := by decide +kernel
theorem d_Mx_isFourthCorner_19 : decode b_Mx_isFourthCorner 19 = .ok (.ixor, 1) := by decide +kernel
theorem d_Mx_isFourthCorner_20 : decode b_Mx_isFourthCorner 20 = .ok (.iand, 1) := by decide +kernel
theorem d_Mx_isFourthCorner_21 : decode b_Mx_isFourthCorner 21 = .ok (.istore 4, 2) := by decide +kernel
theorem d_Mx_isFourthCorner_23 : decode b_Mx_isFourthCorner 23 = .ok (.iconst 0, 1) := by decide +kernel
theorem d_Mx_isFourthCorner_24 : decode b_Mx_isFourthCorner 24 = .ok (.istore 5, 2) := by decide +kernel
theorem d_Mx_isFourthCorner_26 : decode b_Mx_isFourthCorner 26 = .ok (.iload 5, 2) := by decide +kernel
theorem d_Mx_isFourthCorner_28 : decode b_Mx_isFourthCorner 28 = .ok (.iconst 4, 1) := by decide +kernel
theorem d_Mx_isFourthCorner_29 : decode b_Mx_isFourthCorner 29 = .ok (.if_icmp .ge 42, 3) := by decide +kernel
theorem d_Mx_isFourthCorner_32 : decode b_Mx_isFourthCorner 32 = .ok (.iload_n 1, 1) := by decide +kernel
theorem d_Mx_isFourthCorner_33 : decode b_Mx_isFourthCorner 33 = .ok (.iload 5, 2) := by decide +kernel
theorem d_Mx_isFourthCorner_35 : decode b_Mx_isFourthCorner 35 = .ok (.invokestatic 43, 3) := by decide +kernel
theorem d_Mx_isFourthCorner_38 : decode b_Mx_isFourthCorner 38 = .ok (.istore 6, 2) := by decide +kernel
theorem d_Mx_isFourthCorner_40 : decode b_Mx_isFourthCorner 40 = .ok (.iload 5, 2) := by decide +kernel
theorem d_Mx_isFourthCorner_42 : decode b_Mx_isFourthCorner 42 = .ok (.iload_n 2, 1) := by decide +kernel
theorem d_Mx_isFourthCorner_43 : decode b_Mx_isFourthCorner 43 = .ok (.if_icmp .eq 22, 3) := by decide +kernel
theorem d_Mx_isFourthCorner_46 : decode b_Mx_isFourthCorner 46 = .ok (.iload 6, 2) := by decide +kernel
theorem d_Mx_isFourthCorner_48 : decode b_Mx_isFourthCorner 48 = .ok (.iload_n 3, 1) := by decide +kernel
theorem d_Mx_isFourthCorner_49 : decode b_Mx_isFourthCorner 49 = .ok (.ishr, 1) := by decide +kernel
theorem d_Mx_isFourthCorner_50 : decode b_Mx_isFourthCorner 50 = .ok (.iconst 1, 1) := by decide +kernel
theorem d_Mx_isFourthCorner_51 : decode b_Mx_isFourthCorner 51 = .ok (.iand, 1) := by decide +kernel
theorem d_Mx_isFourthCorner_52 : decode b_Mx_isFourthCorner 52 = .ok (.ifCond .eq 13, 3) := by decide +kernel
theorem d_Mx_isFourthCorner_55 : decode b_Mx_isFourthCorner 55 = .ok (.iload 6, 2) := by decide +kernel
theorem d_Mx_isFourthCorner_57 : decode b_Mx_isFourthCorner 57 = .ok (.iload 4, 2) := by decide +kernel
theorem d_Mx_isFourthCorner_59 : decode b_Mx_isFourthCorner 59 = .ok (.iand, 1) := by decide +kernel
theorem d_Mx_isFourthCorner_60 : decode b_Mx_isFourthCorner 60 = .ok (.ifCond .eq 5, 3) := by decide +kernel
theorem d_Mx_isFourthCorner_63 : decode b_Mx_isFourthCorner 63 = .ok (.iconst 1, 1) := by decide +kernel
theorem d_Mx_isFourthCorner_64 : decode b_Mx_isFourthCorner 64 = .ok (.ireturn, 1) := by decide +kernel
theorem d_Mx_isFourthCorner_65 : decode b_Mx_isFourthCorner 65 = .ok (.iinc 5 1, 3) := by decide +kernel
theorem d_Mx_isFourthCorner_68 : decode b_Mx_isFourthCorner 68 = .ok (.goto (-42), 3) := by decide +kernel
theorem d_Mx_isFourthCorner_71 : decode b_Mx_isFourthCorner 71 = .ok (.iconst 0, 1) := by decide +kernel
theorem d_Mx_isFourthCorner_72 : decode b_Mx_isFourthCorner 72 = .ok (.ireturn, 1) := by decide +kernel
theorem d_Mx_rowOf_0 : decode b_Mx_rowOf 0 = .ok (.iload_n 0, 1) := by decide +kernel
theorem d_Mx_rowOf_1 : decode b_Mx_rowOf 1 = .ok (.iload_n 1, 1) := by decide +kernel
theorem d_Mx_rowOf_2 : decode b_Mx_rowOf 2 = .ok (.bipush 6, 2) := by decide +kernel
theorem d_Mx_rowOf_4 : decode b_Mx_rowOf 4 = .ok (.imul, 1) := by decide +kernel
theorem d_Mx_rowOf_5 : decode b_Mx_rowOf 5 = .ok (.ishr, 1) := by decide +kernel
theorem d_Mx_rowOf_6 : decode b_Mx_rowOf 6 = .ok (.bipush 63, 2) := by decide +kernel
theorem d_Mx_rowOf_8 : decode b_Mx_rowOf 8 = .ok (.iand, 1) := by decide +kernel
theorem d_Mx_rowOf_9 : decode b_Mx_rowOf 9 = .ok (.ireturn, 1) := by decide +kernel
theorem d_Hi_init_0 : decode b_Hi_init 0 = .ok (.aload_n 0, 1) := by decide +kernel
theorem d_Hi_init_1 : decode b_Hi_init 1 = .ok (.invokespecial 3, 3) := by decide +kernel
theorem d_Hi_init_4 : decode b_Hi_init 4 = .ok (.aload_n 0, 1) := by decide +kernel
theorem d_Hi_init_5 : decode b_Hi_init 5 = .ok (.bipush 32, 2) := by decide +kernel
theorem d_Hi_init_7 : decode b_Hi_init 7 = .ok (.newarray .int, 2) := by decide +kernel
theorem d_Hi_init_9 : decode b_Hi_init 9 = .ok (.putfield 11, 3) := by decide +kernel
theorem d_Hi_init_12 : decode b_Hi_init 12 = .ok (.return_, 1) := by decide +kernel
theorem d_Hi_add_0 : decode b_Hi_add 0 = .ok (.aload_n 0, 1) := by decide +kernel
theorem d_Hi_add_1 : decode b_Hi_add 1 = .ok (.getfield 11, 3) := by decide +kernel
theorem d_Hi_add_4 : decode b_Hi_add 4 = .ok (.aload_n 0, 1) := by decide +kernel
theorem d_Hi_add_5 : decode b_Hi_add 5 = .ok (.getfield 15, 3) := by decide +kernel
theorem d_Hi_add_8 : decode b_Hi_add 8 = .ok (.iload_n 1, 1) := by decide +kernel
theorem d_Hi_add_9 : decode b_Hi_add 9 = .ok (.iastore, 1) := by decide +kernel
theorem d_Hi_add_10 : decode b_Hi_add 10 = .ok (.aload_n 0, 1) := by decide +kernel
theorem d_Hi_add_11 : decode b_Hi_add 11 = .ok (.aload_n 0, 1) := by decide +kernel
theorem d_Hi_add_12 : decode b_Hi_add 12 = .ok (.getfield 15, 3) := by decide +kernel
theorem d_Hi_add_15 : decode b_Hi_add 15 = .ok (.iconst 1, 1) := by decide +kernel
theorem d_Hi_add_16 : decode b_Hi_add 16 = .ok (.iadd, 1) := by decide +kernel
theorem d_Hi_add_17 : decode b_Hi_add 17 = .ok (.bipush 32, 2) := by decide +kernel
theorem d_Hi_add_19 : decode b_Hi_add 19 = .ok (.irem, 1) := by decide +kernel
theorem d_Hi_add_20 : decode b_Hi_add 20 = .ok (.putfield 15, 3) := by decide +kernel
theorem d_Hi_add_23 : decode b_Hi_add 23 = .ok (.aload_n 0, 1) := by decide +kernel
theorem d_Hi_add_24 : decode b_Hi_add 24 = .ok (.aload_n 0, 1) := by decide +kernel
theorem d_Hi_add_25 : decode b_Hi_add 25 = .ok (.getfield 19, 3) := by decide +kernel
theorem d_Hi_add_28 : decode b_Hi_add 28 = .ok (.iconst 1, 1) := by decide +kernel
theorem d_Hi_add_29 : decode b_Hi_add 29 = .ok (.iadd, 1) := by decide +kernel
theorem d_Hi_add_30 : decode b_Hi_add 30 = .ok (.bipush 32, 2) := by decide +kernel
theorem d_Hi_add_32 : decode b_Hi_add 32 = .ok (.invokestatic 22, 3) := by decide +kernel
theorem d_Hi_add_35 : decode b_Hi_add 35 = .ok (.putfield 19, 3) := by decide +kernel
theorem d_Hi_add_38 : decode b_Hi_add 38 = .ok (.return_, 1) := by decide +kernel
theorem d_Hi_latest_0 : decode b_Hi_latest 0 = .ok (.iload_n 1, 1) := by decide +kernel
theorem d_Hi_latest_1 : decode b_Hi_latest 1 = .ok (.ifCond .lt 11, 3) := by decide +kernel
theorem d_Hi_latest_4 : decode b_Hi_latest 4 = .ok (.iload_n 1, 1) := by decide +kernel
theorem d_Hi_latest_5 : decode b_Hi_latest 5 = .ok (.aload_n 0, 1) := by decide +kernel
theorem d_Hi_latest_6 : decode b_Hi_latest 6 = .ok (.getfield 19, 3) := by decide +kernel
theorem d_Hi_latest_9 : decode b_Hi_latest 9 = .ok (.if_icmp .lt 5, 3) := by decide +kernel
theorem d_Hi_latest_12 : decode b_Hi_latest 12 = .ok (.iconst (-1), 1) := by decide +kernel
theorem d_Hi_latest_13 : decode b_Hi_latest 13 = .ok (.ireturn, 1) := by decide +kernel
theorem d_Hi_latest_14 : decode b_Hi_latest 14 = .ok (.aload_n 0, 1) := by decide +kernel
theorem d_Hi_latest_15 : decode b_Hi_latest 15 = .ok (.getfield 11, 3) := by decide +kernel
theorem d_Hi_latest_18 : decode b_Hi_latest 18 = .ok (.aload_n 0, 1) := by decide +kernel
theorem d_Hi_latest_19 : decode b_Hi_latest 19 = .ok (.getfield 15, 3) := by decide +kernel
theorem d_Hi_latest_22 : decode b_Hi_latest 22 = .ok (.bipush 32, 2) := by decide +kernel
theorem d_Hi_latest_24 : decode b_Hi_latest 24 = .ok (.iadd, 1) := by decide +kernel
theorem d_Hi_latest_25 : decode b_Hi_latest 25 = .ok (.iconst 1, 1) := by decide +kernel
theorem d_Hi_latest_26 : decode b_Hi_latest 26 = .ok (.isub, 1) := by decide +kernel
theorem d_Hi_latest_27 : decode b_Hi_latest 27 = .ok (.iload_n 1, 1) := by decide +kernel
theorem d_Hi_latest_28 : decode b_Hi_latest 28 = .ok (.isub, 1) := by decide +kernel
theorem d_Hi_latest_29 : decode b_Hi_latest 29 = .ok (.bipush 32, 2) := by decide +kernel
theorem d_Hi_latest_31 : decode b_Hi_latest 31 = .ok (.irem, 1) := by decide +kernel
theorem d_Hi_latest_32 : decode b_Hi_latest 32 = .ok (.iaload, 1) := by decide +kernel
theorem d_Hi_latest_33 : decode b_Hi_latest 33 = .ok (.ireturn, 1) := by decide +kernel
theorem d_Eq_init_0 : decode b_Eq_init 0 = .ok (.aload_n 0, 1) := by decide +kernel
theorem d_Eq_init_1 : decode b_Eq_init 1 = .ok (.invokespecial 3, 3) := by decide +kernel
theorem d_Eq_init_4 : decode b_Eq_init 4 = .ok (.aload_n 0, 1) := by decide +kernel
theorem d_Eq_init_5 : decode b_Eq_init 5 = .ok (.bipush 32, 2) := by decide +kernel
theorem d_Eq_init_7 : decode b_Eq_init 7 = .ok (.newarray .int, 2) := by decide +kernel
theorem d_Eq_init_9 : decode b_Eq_init 9 = .ok (.putfield 11, 3) := by decide +kernel
theorem d_Eq_init_12 : decode b_Eq_init 12 = .ok (.aload_n 0, 1) := by decide +kernel
theorem d_Eq_init_13 : decode b_Eq_init 13 = .ok (.bipush 32, 2) := by decide +kernel
theorem d_Eq_init_15 : decode b_Eq_init 15 = .ok (.newarray .int, 2) := by decide +kernel
theorem d_Eq_init_17 : decode b_Eq_init 17 = .ok (.putfield 15, 3) := by decide +kernel
theorem d_Eq_init_20 : decode b_Eq_init 20 = .ok (.return_, 1) := by decide +kernel
theorem d_Eq_length_0 : decode b_Eq_length 0 = .ok (.aload_n 0, 1) := by decide +kernel
theorem d_Eq_length_1 : decode b_Eq_length 1 = .ok (.getfield 18, 3) := by decide +kernel
theorem d_Eq_length_4 : decode b_Eq_length 4 = .ok (.ireturn, 1) := by decide +kernel
theorem d_Eq_add_0 : decode b_Eq_add 0 = .ok (.aload_n 0, 1) := by decide +kernel
theorem d_Eq_add_1 : decode b_Eq_add 1 = .ok (.getfield 18, 3) := by decide +kernel
theorem d_Eq_add_4 : decode b_Eq_add 4 = .ok (.bipush 32, 2) := by decide +kernel
theorem d_Eq_add_6 : decode b_Eq_add 6 = .ok (.if_icmp .ge 33, 3) := by decide +kernel
theorem d_Eq_add_9 : decode b_Eq_add 9 = .ok (.aload_n 0, 1) := by decide +kernel
theorem d_Eq_add_10 : decode b_Eq_add 10 = .ok (.getfield 11, 3) := by decide +kernel
theorem d_Eq_add_13 : decode b_Eq_add 13 = .ok (.aload_n 0, 1) := by decide +kernel
theorem d_Eq_add_14 : decode b_Eq_add 14 = .ok (.getfield 18, 3) := by decide +kernel
theorem d_Eq_add_17 : decode b_Eq_add 17 = .ok (.iload_n 1, 1) := by decide +kernel
theorem d_Eq_add_18 : decode b_Eq_add 18 = .ok (.iastore, 1) := by decide +kernel
theorem d_Eq_add_19 : decode b_Eq_add 19 = .ok (.aload_n 0, 1) := by decide +kernel
theorem d_Eq_add_20 : decode b_Eq_add 20 = .ok (.getfield 15, 3) := by decide +kernel
theorem d_Eq_add_23 : decode b_Eq_add 23 = .ok (.aload_n 0, 1) := by decide +kernel
theorem d_Eq_add_24 : decode b_Eq_add 24 = .ok (.getfield 18, 3) := by decide +kernel
theorem d_Eq_add_27 : decode b_Eq_add 27 = .ok (.iload_n 2, 1) := by decide +kernel
theorem d_Eq_add_28 : decode b_Eq_add 28 = .ok (.iastore, 1) := by decide +kernel
theorem d_Eq_add_29 : decode b_Eq_add 29 = .ok (.aload_n 0, 1) := by decide +kernel
theorem d_Eq_add_30 : decode b_Eq_add 30 = .ok (.dup, 1) := by decide +kernel
theorem d_Eq_add_31 : decode b_Eq_add 31 = .ok (.getfield 18, 3) := by decide +kernel
theorem d_Eq_add_34 : decode b_Eq_add 34 = .ok (.iconst 1, 1) := by decide +kernel
theorem d_Eq_add_35 : decode b_Eq_add 35 = .ok (.iadd, 1) := by decide +kernel
theorem d_Eq_add_36 : decode b_Eq_add 36 = .ok (.putfield 18, 3) := by decide +kernel
theorem d_Eq_add_39 : decode b_Eq_add 39 = .ok (.return_, 1) := by decide +kernel
theorem d_Eq_removeFirst_0 : decode b_Eq_removeFirst 0 = .ok (.iload_n 1, 1) := by decide +kernel
theorem d_Eq_removeFirst_1 : decode b_Eq_removeFirst 1 = .ok (.istore_n 2, 1) := by decide +kernel
theorem d_Eq_removeFirst_2 : decode b_Eq_removeFirst 2 = .ok (.iload_n 2, 1) := by decide +kernel
theorem d_Eq_removeFirst_3 : decode b_Eq_removeFirst 3 = .ok (.aload_n 0, 1) := by decide +kernel
theorem d_Eq_removeFirst_4 : decode b_Eq_removeFirst 4 = .ok (.getfield 18, 3) := by decide +kernel
theorem d_Eq_removeFirst_7 : decode b_Eq_removeFirst 7 = .ok (.if_icmp .ge 37, 3) := by decide +kernel
theorem d_Eq_removeFirst_10 : decode b_Eq_removeFirst 10 = .ok (.aload_n 0, 1) := by decide +kernel
theorem d_Eq_removeFirst_11 : decode b_Eq_removeFirst 11 = .ok (.getfield 11, 3) := by decide +kernel
theorem d_Eq_removeFirst_14 : decode b_Eq_removeFirst 14 = .ok (.iload_n 2, 1) := by decide +kernel
theorem d_Eq_removeFirst_15 : decode b_Eq_removeFirst 15 = .ok (.iload_n 1, 1) := by decide +kernel
theorem d_Eq_removeFirst_16 : decode b_Eq_removeFirst 16 = .ok (.isub, 1) := by decide +kernel
theorem d_Eq_removeFirst_17 : decode b_Eq_removeFirst 17 = .ok (.aload_n 0, 1) := by decide +kernel
theorem d_Eq_removeFirst_18 : decode b_Eq_removeFirst 18 = .ok (.getfield 11, 3) := by decide +kernel
theorem d_Eq_removeFirst_21 : decode b_Eq_removeFirst 21 = .ok (.iload_n 2, 1) := by decide +kernel
theorem d_Eq_removeFirst_22 : decode b_Eq_removeFirst 22 = .ok (.iaload, 1) := by decide +kernel
theorem d_Eq_removeFirst_23 : decode b_Eq_removeFirst 23 = .ok (.iastore, 1) := by decide +kernel
theorem d_Eq_removeFirst_24 : decode b_Eq_removeFirst 24 = .ok (.aload_n 0, 1) := by decide +kernel
theorem d_Eq_removeFirst_25 : decode b_Eq_removeFirst 25 = .ok (.getfield 15, 3) := by decide +kernel
theorem d_Eq_removeFirst_28 : decode b_Eq_removeFirst 28 = .ok (.iload_n 2, 1) := by decide +kernel
theorem d_Eq_removeFirst_29 : decode b_Eq_removeFirst 29 = .ok (.iload_n 1, 1) := by decide +kernel
theorem d_Eq_removeFirst_30 : decode b_Eq_removeFirst 30 = .ok (.isub, 1) := by decide +kernel
theorem d_Eq_removeFirst_31 : decode b_Eq_removeFirst 31 = .ok (.aload_n 0, 1) := by decide +kernel
theorem d_Eq_removeFirst_32 : decode b_Eq_removeFirst 32 = .ok (.getfield 15, 3) := by decide +kernel
theorem d_Eq_removeFirst_35 : decode b_Eq_removeFirst 35 = .ok (.iload_n 2, 1) := by decide +kernel
theorem d_Eq_removeFirst_36 : decode b_Eq_removeFirst 36 = .ok (.iaload, 1) := by decide +kernel
theorem d_Eq_removeFirst_37 : decode b_Eq_removeFirst 37 = .ok (.iastore, 1) := by decide +kernel
theorem d_Eq_removeFirst_38 : decode b_Eq_removeFirst 38 = .ok (.iinc 2 1, 3) := by decide +kernel
theorem d_Eq_removeFirst_41 : decode b_Eq_removeFirst 41 = .ok (.goto (-39), 3) := by decide +kernel
theorem d_Eq_removeFirst_44 : decode b_Eq_removeFirst 44 = .ok (.aload_n 0, 1) := by decide +kernel
theorem d_Eq_removeFirst_45 : decode b_Eq_removeFirst 45 = .ok (.aload_n 0, 1) := by decide +kernel
theorem d_Eq_removeFirst_46 : decode b_Eq_removeFirst 46 = .ok (.getfield 18, 3) := by decide +kernel
theorem d_Eq_removeFirst_49 : decode b_Eq_removeFirst 49 = .ok (.iload_n 1, 1) := by decide +kernel
theorem d_Eq_removeFirst_50 : decode b_Eq_removeFirst 50 = .ok (.isub, 1) := by decide +kernel
theorem d_Eq_removeFirst_51 : decode b_Eq_removeFirst 51 = .ok (.iconst 0, 1) := by decide +kernel
theorem d_Eq_removeFirst_52 : decode b_Eq_removeFirst 52 = .ok (.invokestatic 22, 3) := by decide +kernel
theorem d_Eq_removeFirst_55 : decode b_Eq_removeFirst 55 = .ok (.putfield 18, 3) := by decide +kernel
theorem d_Eq_removeFirst_58 : decode b_Eq_removeFirst 58 = .ok (.return_, 1) := by decide +kernel
theorem d_Eq_isPress_0 : decode b_Eq_isPress 0 = .ok (.aload_n 0, 1) := by decide +kernel
theorem d_Eq_isPress_1 : decode b_Eq_isPress 1 = .ok (.getfield 11, 3) := by decide +kernel
theorem d_Eq_isPress_4 : decode b_Eq_isPress 4 = .ok (.iload_n 1, 1) := by decide +kernel
theorem d_Eq_isPress_5 : decode b_Eq_isPress 5 = .ok (.iaload, 1) := by decide +kernel
theorem d_Eq_isPress_6 : decode b_Eq_isPress 6 = .ok (.iconst 1, 1) := by decide +kernel
theorem d_Eq_isPress_7 : decode b_Eq_isPress 7 = .ok (.iand, 1) := by decide +kernel
theorem d_Eq_isPress_8 : decode b_Eq_isPress 8 = .ok (.ifCond .eq 7, 3) := by decide +kernel
theorem d_Eq_isPress_11 : decode b_Eq_isPress 11 = .ok (.iconst 1, 1) := by decide +kernel
theorem d_Eq_isPress_12 : decode b_Eq_isPress 12 = .ok (.goto 4, 3) := by decide +kernel
theorem d_Eq_isPress_15 : decode b_Eq_isPress 15 = .ok (.iconst 0, 1) := by decide +kernel
theorem d_Eq_isPress_16 : decode b_Eq_isPress 16 = .ok (.ireturn, 1) := by decide +kernel
theorem d_Eq_keyAt_0 : decode b_Eq_keyAt 0 = .ok (.aload_n 0, 1) := by decide +kernel
theorem d_Eq_keyAt_1 : decode b_Eq_keyAt 1 = .ok (.getfield 11, 3) := by decide +kernel
theorem d_Eq_keyAt_4 : decode b_Eq_keyAt 4 = .ok (.iload_n 1, 1) := by decide +kernel
theorem d_Eq_keyAt_5 : decode b_Eq_keyAt 5 = .ok (.iaload, 1) := by decide +kernel
theorem d_Eq_keyAt_6 : decode b_Eq_keyAt 6 = .ok (.iconst 1, 1) := by decide +kernel
theorem d_Eq_keyAt_7 : decode b_Eq_keyAt 7 = .ok (.ishr, 1) := by decide +kernel
theorem d_Eq_keyAt_8 : decode b_Eq_keyAt 8 = .ok (.ireturn, 1) := by decide +kernel
theorem d_Eq_scanAt_0 : decode b_Eq_scanAt 0 = .ok (.aload_n 0, 1) := by decide +kernel
theorem d_Eq_scanAt_1 : decode b_Eq_scanAt 1 = .ok (.getfield 15, 3) := by decide +kernel
theorem d_Eq_scanAt_4 : decode b_Eq_scanAt 4 = .ok (.iload_n 1, 1) := by decide +kernel
theorem d_Eq_scanAt_5 : decode b_Eq_scanAt 5 = .ok (.iaload, 1) := by decide +kernel
theorem d_Eq_scanAt_6 : decode b_Eq_scanAt 6 = .ok (.ireturn, 1) := by decide +kernel
theorem d_Eq_rowLength_0 : decode b_Eq_rowLength 0 = .ok (.iconst 0, 1) := by decide +kernel
theorem d_Eq_rowLength_1 : decode b_Eq_rowLength 1 = .ok (.istore_n 1, 1) := by decide +kernel
theorem d_Eq_rowLength_2 : decode b_Eq_rowLength 2 = .ok (.iload_n 1, 1) := by decide +kernel
theorem d_Eq_rowLength_3 : decode b_Eq_rowLength 3 = .ok (.aload_n 0, 1) := by decide +kernel
theorem d_Eq_rowLength_4 : decode b_Eq_rowLength 4 = .ok (.getfield 18, 3) := by decide +kernel
theorem d_Eq_rowLength_7 : decode b_Eq_rowLength 7 = .ok (.if_icmp .ge 35, 3) := by decide +kernel
theorem d_Eq_rowLength_10 : decode b_Eq_rowLength 10 = .ok (.aload_n 0, 1) := by decide +kernel
theorem d_Eq_rowLength_11 : decode b_Eq_rowLength 11 = .ok (.iload_n 1, 1) := by decide +kernel
theorem d_Eq_rowLength_12 : decode b_Eq_rowLength 12 = .ok (.invokevirtual 28, 3) := by decide +kernel
theorem d_Eq_rowLength_15 : decode b_Eq_rowLength 15 = .ok (.ifCond .eq 27, 3) := by decide +kernel
theorem d_Eq_rowLength_18 : decode b_Eq_rowLength 18 = .ok (.aload_n 0, 1) := by decide +kernel
theorem d_Eq_rowLength_19 : decode b_Eq_rowLength 19 = .ok (.getfield 15, 3) := by decide +kernel
theorem d_Eq_rowLength_22 : decode b_Eq_rowLength 22 = .ok (.iload_n 1, 1) := by decide +kernel
theorem d_Eq_rowLength_23 : decode b_Eq_rowLength 23 = .ok (.iaload, 1) := by decide +kernel
theorem d_Eq_rowLength_24 : decode b_Eq_rowLength 24 = .ok (.aload_n 0, 1) := by decide +kernel
theorem d_Eq_rowLength_25 : decode b_Eq_rowLength 25 = .ok (.getfield 15, 3) := by decide +kernel
theorem d_Eq_rowLength_28 : decode b_Eq_rowLength 28 = .ok (.iconst 0, 1) := by decide +kernel
theorem d_Eq_rowLength_29 : decode b_Eq_rowLength 29 = .ok (.iaload, 1) := by decide +kernel
theorem d_Eq_rowLength_30 : decode b_Eq_rowLength 30 = .ok (.bipush 9, 2) := by decide +kernel
theorem d_Eq_rowLength_32 : decode b_Eq_rowLength 32 = .ok (.iadd, 1) := by decide +kernel
theorem d_Eq_rowLength_33 : decode b_Eq_rowLength 33 = .ok (.if_icmp .gt 9, 3) := by decide +kernel
theorem d_Eq_rowLength_36 : decode b_Eq_rowLength 36 = .ok (.iinc 1 1, 3) := by decide +kernel
theorem d_Eq_rowLength_39 : decode b_Eq_rowLength 39 = .ok (.goto (-37), 3) := by decide +kernel
theorem d_Eq_rowLength_42 : decode b_Eq_rowLength 42 = .ok (.iload_n 1, 1) := by decide +kernel
theorem d_Eq_rowLength_43 : decode b_Eq_rowLength 43 = .ok (.ireturn, 1) := by decide +kernel
theorem d_Eq_firstKeys_0 : decode b_Eq_firstKeys 0 = .ok (.iconst 0, 1) := by decide +kernel
theorem d_Eq_firstKeys_1 : decode b_Eq_firstKeys 1 = .ok (.istore_n 2, 1) := by decide +kernel
theorem d_Eq_firstKeys_2 : decode b_Eq_firstKeys 2 = .ok (.iconst 0, 1) := by decide +kernel
theorem d_Eq_firstKeys_3 : decode b_Eq_firstKeys 3 = .ok (.istore_n 3, 1) := by decide +kernel
theorem d_Eq_firstKeys_4 : decode b_Eq_firstKeys 4 = .ok (.iload_n 3, 1) := by decide +kernel
theorem d_Eq_firstKeys_5 : decode b_Eq_firstKeys 5 = .ok (.iload_n 1, 1) := by decide +kernel
theorem d_Eq_firstKeys_6 : decode b_Eq_firstKeys 6 = .ok (.if_icmp .ge 27, 3) := by decide +kernel
theorem d_Eq_firstKeys_9 : decode b_Eq_firstKeys 9 = .ok (.iload_n 3, 1) := by decide +kernel
theorem d_Eq_firstKeys_10 : decode b_Eq_firstKeys 10 = .ok (.aload_n 0, 1) := by decide +kernel
theorem d_Eq_firstKeys_11 : decode b_Eq_firstKeys 11 = .ok (.getfield 18, 3) := by decide +kernel
theorem d_Eq_firstKeys_14 : decode b_Eq_firstKeys 14 = .ok (.if_icmp .ge 19, 3) := by decide +kernel
theorem d_Eq_firstKeys_17 : decode b_Eq_firstKeys 17 = .ok (.iload_n 2, 1) := by decide +kernel
theorem d_Eq_firstKeys_18 : decode b_Eq_firstKeys 18 = .ok (.iconst 1, 1) := by decide +kernel
theorem d_Eq_firstKeys_19 : decode b_Eq_firstKeys 19 = .ok (.aload_n 0, 1) := by decide +kernel
theorem d_Eq_firstKeys_20 : decode b_Eq_firstKeys 20 = .ok (.iload_n 3, 1) := by decide +kernel
theorem d_Eq_firstKeys_21 : decode b_Eq_firstKeys 21 = .ok (.invokevirtual 32, 3) := by decide +kernel
theorem d_Eq_firstKeys_24 : decode b_Eq_firstKeys 24 = .ok (.ishl, 1) := by decide +kernel
theorem d_Eq_firstKeys_25 : decode b_Eq_firstKeys 25 = .ok (.ior, 1) := by decide +kernel
theorem d_Eq_firstKeys_26 : decode b_Eq_firstKeys 26 = .ok (.istore_n 2, 1) := by decide +kernel
theorem d_Eq_firstKeys_27 : decode b_Eq_firstKeys 27 = .ok (.iinc 3 1, 3) := by decide +kernel
theorem d_Eq_firstKeys_30 : decode b_Eq_firstKeys 30 = .ok (.goto (-26), 3) := by decide +kernel
theorem d_Eq_firstKeys_33 : decode b_Eq_firstKeys 33 = .ok (.iload_n 2, 1) := by decide +kernel
theorem d_Eq_firstKeys_34 : decode b_Eq_firstKeys 34 = .ok (.ireturn, 1) := by decide +kernel
theorem d_Eq_tellTap_0 : decode b_Eq_tellTap 0 = .ok (.iconst 0, 1) := by decide +kernel
theorem d_Eq_tellTap_1 : decode b_Eq_tellTap 1 = .ok (.istore_n 1, 1) := by decide +kernel
theorem d_Eq_tellTap_2 : decode b_Eq_tellTap 2 = .ok (.iconst 1, 1) := by decide +kernel
theorem d_Eq_tellTap_3 : decode b_Eq_tellTap 3 = .ok (.istore_n 2, 1) := by decide +kernel
theorem d_Eq_tellTap_4 : decode b_Eq_tellTap 4 = .ok (.iload_n 2, 1) := by decide +kernel
theorem d_Eq_tellTap_5 : decode b_Eq_tellTap 5 = .ok (.aload_n 0, 1) := by decide +kernel
theorem d_Eq_tellTap_6 : decode b_Eq_tellTap 6 = .ok (.getfield 18, 3) := by decide +kernel
theorem d_Eq_tellTap_9 : decode b_Eq_tellTap 9 = .ok (.if_icmp .ge 55, 3) := by decide +kernel
theorem d_Eq_tellTap_12 : decode b_Eq_tellTap 12 = .ok (.iconst 1, 1) := by decide +kernel
theorem d_Eq_tellTap_13 : decode b_Eq_tellTap 13 = .ok (.aload_n 0, 1) := by decide +kernel
theorem d_Eq_tellTap_14 : decode b_Eq_tellTap 14 = .ok (.iload_n 2, 1) := by decide +kernel
theorem d_Eq_tellTap_15 : decode b_Eq_tellTap 15 = .ok (.invokevirtual 32, 3) := by decide +kernel
theorem d_Eq_tellTap_18 : decode b_Eq_tellTap 18 = .ok (.ishl, 1) := by decide +kernel
theorem d_Eq_tellTap_19 : decode b_Eq_tellTap 19 = .ok (.istore_n 3, 1) := by decide +kernel
theorem d_Eq_tellTap_20 : decode b_Eq_tellTap 20 = .ok (.aload_n 0, 1) := by decide +kernel
theorem d_Eq_tellTap_21 : decode b_Eq_tellTap 21 = .ok (.iload_n 2, 1) := by decide +kernel
theorem d_Eq_tellTap_22 : decode b_Eq_tellTap 22 = .ok (.invokevirtual 28, 3) := by decide +kernel
theorem d_Eq_tellTap_25 : decode b_Eq_tellTap 25 = .ok (.ifCond .eq 10, 3) := by decide +kernel
theorem d_Eq_tellTap_28 : decode b_Eq_tellTap 28 = .ok (.iload_n 1, 1) := by decide +kernel
theorem d_Eq_tellTap_29 : decode b_Eq_tellTap 29 = .ok (.iload_n 3, 1) := by decide +kernel
theorem d_Eq_tellTap_30 : decode b_Eq_tellTap 30 = .ok (.ior, 1) := by decide +kernel
theorem d_Eq_tellTap_31 : decode b_Eq_tellTap 31 = .ok (.istore_n 1, 1) := by decide +kernel
theorem d_Eq_tellTap_32 : decode b_Eq_tellTap 32 = .ok (.goto 26, 3) := by decide +kernel
theorem d_Eq_tellTap_35 : decode b_Eq_tellTap 35 = .ok (.aload_n 0, 1) := by decide +kernel
theorem d_Eq_tellTap_36 : decode b_Eq_tellTap 36 = .ok (.iload_n 2, 1) := by decide +kernel
theorem d_Eq_tellTap_37 : decode b_Eq_tellTap 37 = .ok (.invokevirtual 32, 3) := by decide +kernel
theorem d_Eq_tellTap_40 : decode b_Eq_tellTap 40 = .ok (.aload_n 0, 1) := by decide +kernel
theorem d_Eq_tellTap_41 : decode b_Eq_tellTap 41 = .ok (.iconst 0, 1) := by decide +kernel
theorem d_Eq_tellTap_42 : decode b_Eq_tellTap 42 = .ok (.invokevirtual 32, 3) := by decide +kernel
theorem d_Eq_tellTap_45 : decode b_Eq_tellTap 45 = .ok (.if_icmp .ne 5, 3) := by decide +kernel
theorem d_Eq_tellTap_48 : decode b_Eq_tellTap 48 = .ok (.iconst 1, 1) := by decide +kernel
theorem d_Eq_tellTap_49 : decode b_Eq_tellTap 49 = .ok (.ireturn, 1) := by decide +kernel
theorem d_Eq_tellTap_50 : decode b_Eq_tellTap 50 = .ok (.iload_n 1, 1) := by decide +kernel
theorem d_Eq_tellTap_51 : decode b_Eq_tellTap 51 = .ok (.iload_n 3, 1) := by decide +kernel
theorem d_Eq_tellTap_52 : decode b_Eq_tellTap 52 = .ok (.iand, 1) := by decide +kernel
theorem d_Eq_tellTap_53 : decode b_Eq_tellTap 53 = .ok (.ifCond .eq 5, 3) := by decide +kernel
theorem d_Eq_tellTap_56 : decode b_Eq_tellTap 56 = .ok (.iconst 2, 1) := by decide +kernel
theorem d_Eq_tellTap_57 : decode b_Eq_tellTap 57 = .ok (.ireturn, 1) := by decide +kernel
theorem d_Eq_tellTap_58 : decode b_Eq_tellTap 58 = .ok (.iinc 2 1, 3) := by decide +kernel
theorem d_Eq_tellTap_61 : decode b_Eq_tellTap 61 = .ok (.goto (-57), 3) := by decide +kernel
theorem d_Eq_tellTap_64 : decode b_Eq_tellTap 64 = .ok (.iconst 0, 1) := by decide +kernel
theorem d_Eq_tellTap_65 : decode b_Eq_tellTap 65 = .ok (.ireturn, 1) := by decide +kernel
theorem d_Km_init_0 : decode b_Km_init 0 = .ok (.aload_n 0, 1) := by decide +kernel
theorem d_Km_init_1 : decode b_Km_init 1 = .ok (.invokespecial 3, 3) := by decide +kernel
theorem d_Km_init_4 : decode b_Km_init 4 = .ok (.aload_n 0, 1) := by decide +kernel
theorem d_Km_init_5 : decode b_Km_init 5 = .ok (.bipush 96, 2) := by decide +kernel
theorem d_Km_init_7 : decode b_Km_init 7 = .ok (.newarray .int, 2) := by decide +kernel
theorem d_Km_init_9 : decode b_Km_init 9 = .ok (.putfield 9, 3) := by decide +kernel
theorem d_Km_init_12 : decode b_Km_init 12 = .ok (.aload_n 0, 1) := by decide +kernel
theorem d_Km_init_13 : decode b_Km_init 13 = .ok (.bipush 96, 2) := by decide +kernel
theorem d_Km_init_15 : decode b_Km_init 15 = .ok (.newarray .int, 2) := by decide +kernel
theorem d_Km_init_17 : decode b_Km_init 17 = .ok (.putfield 15, 3) := by decide +kernel
theorem d_Km_init_20 : decode b_Km_init 20 = .ok (.aload_n 0, 1) := by decide +kernel
theorem d_Km_init_21 : decode b_Km_init 21 = .ok (.bipush 96, 2) := by decide +kernel
theorem d_Km_init_23 : decode b_Km_init 23 = .ok (.newarray .int, 2) := by decide +kernel
theorem d_Km_init_25 : decode b_Km_init 25 = .ok (.putfield 18, 3) := by decide +kernel
theorem d_Km_init_28 : decode b_Km_init 28 = .ok (.aload_n 0, 1) := by decide +kernel
theorem d_Km_init_29 : decode b_Km_init 29 = .ok (.bipush 16, 2) := by decide +kernel
theorem d_Km_init_31 : decode b_Km_init 31 = .ok (.newarray .int, 2) := by decide +kernel
theorem d_Km_init_33 : decode b_Km_init 33 = .ok (.putfield 21, 3) := by decide +kernel
theorem d_Km_init_36 : decode b_Km_init 36 = .ok (.return_, 1) := by decide +kernel
theorem d_Km_setAction_0 : decode b_Km_setAction 0 = .ok (.iload_n 1, 1) := by decide +kernel
theorem d_Km_setAction_1 : decode b_Km_setAction 1 = .ok (.bipush 24, 2) := by decide +kernel
theorem d_Km_setAction_3 : decode b_Km_setAction 3 = .ok (.imul, 1) := by decide +kernel
theorem d_Km_setAction_4 : decode b_Km_setAction 4 = .ok (.iload_n 2, 1) := by decide +kernel
theorem d_Km_setAction_5 : decode b_Km_setAction 5 = .ok (.iadd, 1) := by decide +kernel
theorem d_Km_setAction_6 : decode b_Km_setAction 6 = .ok (.istore 6, 2) := by decide +kernel
theorem d_Km_setAction_8 : decode b_Km_setAction 8 = .ok (.aload_n 0, 1) := by decide +kernel
theorem d_Km_setAction_9 : decode b_Km_setAction 9 = .ok (.getfield 9, 3) := by decide +kernel
theorem d_Km_setAction_12 : decode b_Km_setAction 12 = .ok (.iload 6, 2) := by decide +kernel
theorem d_Km_setAction_14 : decode b_Km_setAction 14 = .ok (.iload_n 3, 1) := by decide +kernel
theorem d_Km_setAction_15 : decode b_Km_setAction 15 = .ok (.iastore, 1) := by decide +kernel
theorem d_Km_setAction_16 : decode b_Km_setAction 16 = .ok (.aload_n 0, 1) := by decide +kernel
theorem d_Km_setAction_17 : decode b_Km_setAction 17 = .ok (.getfield 15, 3) := by decide +kernel
theorem d_Km_setAction_20 : decode b_Km_setAction 20 = .ok (.iload 6, 2) := by decide +kernel
theorem d_Km_setAction_22 : decode b_Km_setAction 22 = .ok (.iload 4, 2) := by decide +kernel
theorem d_Km_setAction_24 : decode b_Km_setAction 24 = .ok (.iastore, 1) := by decide +kernel
theorem d_Km_setAction_25 : decode b_Km_setAction 25 = .ok (.aload_n 0, 1) := by decide +kernel
theorem d_Km_setAction_26 : decode b_Km_setAction 26 = .ok (.getfield 18, 3) := by decide +kernel
theorem d_Km_setAction_29 : decode b_Km_setAction 29 = .ok (.iload 6, 2) := by decide +kernel
theorem d_Km_setAction_31 : decode b_Km_setAction 31 = .ok (.iload 5, 2) := by decide +kernel
theorem d_Km_setAction_33 : decode b_Km_setAction 33 = .ok (.iastore, 1) := by decide +kernel
theorem d_Km_setAction_34 : decode b_Km_setAction 34 = .ok (.return_, 1) := by decide +kernel
theorem d_Km_setMacroCode_0 : decode b_Km_setMacroCode 0 = .ok (.aload_n 0, 1) := by decide +kernel
theorem d_Km_setMacroCode_1 : decode b_Km_setMacroCode 1 = .ok (.getfield 21, 3) := by decide +kernel
theorem d_Km_setMacroCode_4 : decode b_Km_setMacroCode 4 = .ok (.iload_n 1, 1) := by decide +kernel
theorem d_Km_setMacroCode_5 : decode b_Km_setMacroCode 5 = .ok (.iconst 4, 1) := by decide +kernel
theorem d_Km_setMacroCode_6 : decode b_Km_setMacroCode 6 = .ok (.imul, 1) := by decide +kernel
theorem d_Km_setMacroCode_7 : decode b_Km_setMacroCode 7 = .ok (.iload_n 2, 1) := by decide +kernel
theorem d_Km_setMacroCode_8 : decode b_Km_setMacroCode 8 = .ok (.iadd, 1) := by decide +kernel
theorem d_Km_setMacroCode_9 : decode b_Km_setMacroCode 9 = .ok (.iload_n 3, 1) := by decide +kernel
theorem d_Km_setMacroCode_10 : decode b_Km_setMacroCode 10 = .ok (.iastore, 1) := by decide +kernel
theorem d_Km_setMacroCode_11 : decode b_Km_setMacroCode 11 = .ok (.return_, 1) := by decide +kernel
theorem d_Km_macroCode_0 : decode b_Km_macroCode 0 = .ok (.aload_n 0, 1) := by decide +kernel
theorem d_Km_macroCode_1 : decode b_Km_macroCode 1 = .ok (.getfield 21, 3) := by decide +kernel
theorem d_Km_macroCode_4 : decode b_Km_macroCode 4 = .ok (.iload_n 1, 1) := by decide +kernel
theorem d_Km_macroCode_5 : decode b_Km_macroCode 5 = .ok (.iconst 4, 1) := by decide +kernel
theorem d_Km_macroCode_6 : decode b_Km_macroCode 6 = .ok (.imul, 1) := by decide +kernel
theorem d_Km_macroCode_7 : decode b_Km_macroCode 7 = .ok (.iload_n 2, 1) := by decide +kernel
theorem d_Km_macroCode_8 : decode b_Km_macroCode 8 = .ok (.iadd, 1) := by decide +kernel
theorem d_Km_macroCode_9 : decode b_Km_macroCode 9 = .ok (.iaload, 1) := by decide +kernel
theorem d_Km_macroCode_10 : decode b_Km_macroCode 10 = .ok (.ireturn, 1) := by decide +kernel
theorem d_Km_topLayer_0 : decode b_Km_topLayer 0 = .ok (.iconst 3, 1) := by decide +kernel
theorem d_Km_topLayer_1 : decode b_Km_topLayer 1 = .ok (.istore_n 3, 1) := by decide +kernel
theorem d_Km_topLayer_2 : decode b_Km_topLayer 2 = .ok (.iload_n 3, 1) := by decide +kernel
theorem d_Km_topLayer_3 : decode b_Km_topLayer 3 = .ok (.ifCond .lt 28, 3) := by decide +kernel
theorem d_Km_topLayer_6 : decode b_Km_topLayer 6 = .ok (.aload_n 0, 1) := by decide +kernel
theorem d_Km_topLayer_7 : decode b_Km_topLayer 7 = .ok (.iload_n 3, 1) := by decide +kernel
theorem d_Km_topLayer_8 : decode b_Km_topLayer 8 = .ok (.iload_n 1, 1) := by decide +kernel
theorem d_Km_topLayer_9 : decode b_Km_topLayer 9 = .ok (.invokevirtual 24, 3) := by decide +kernel
theorem d_Km_topLayer_12 : decode b_Km_topLayer 12 = .ok (.ifCond .eq 13, 3) := by decide +kernel
theorem d_Km_topLayer_15 : decode b_Km_topLayer 15 = .ok (.aload_n 2, 1) := by decide +kernel
theorem d_Km_topLayer_16 : decode b_Km_topLayer 16 = .ok (.iload_n 3, 1) := by decide +kernel
theorem d_Km_topLayer_17 : decode b_Km_topLayer 17 = .ok (.invokevirtual 28, 3) := by decide +kernel
theorem d_Km_topLayer_20 : decode b_Km_topLayer 20 = .ok (.ifCond .eq 5, 3) := by decide +kernel
theorem d_Km_topLayer_23 : decode b_Km_topLayer 23 = .ok (.iload_n 3, 1) := by decide +kernel
theorem d_Km_topLayer_24 : decode b_Km_topLayer 24 = .ok (.ireturn, 1) := by decide +kernel
theorem d_Km_topLayer_25 : decode b_Km_topLayer 25 = .ok (.iinc 3 (-1), 3) := by decide +kernel
theorem d_Km_topLayer_28 : decode b_Km_topLayer 28 = .ok (.goto (-26), 3) := by decide +kernel
theorem d_Km_topLayer_31 : decode b_Km_topLayer 31 = .ok (.iconst (-1), 1) := by decide +kernel
theorem d_Km_topLayer_32 : decode b_Km_topLayer 32 = .ok (.ireturn, 1) := by decide +kernel
theorem d_Km_kind_0 : decode b_Km_kind 0 = .ok (.iload_n 1, 1) := by decide +kernel
theorem d_Km_kind_1 : decode b_Km_kind 1 = .ok (.iconst (-1), 1) := by decide +kernel
theorem d_Km_kind_2 : decode b_Km_kind 2 = .ok (.if_icmp .ne 7, 3) := by decide +kernel
theorem d_Km_kind_5 : decode b_Km_kind 5 = .ok (.iconst 0, 1) := by decide +kernel
theorem d_Km_kind_6 : decode b_Km_kind 6 = .ok (.goto 14, 3) := by decide +kernel
theorem d_Km_kind_9 : decode b_Km_kind 9 = .ok (.aload_n 0, 1) := by decide +kernel
theorem d_Km_kind_10 : decode b_Km_kind 10 = .ok (.getfield 9, 3) := by decide +kernel
theorem d_Km_kind_13 : decode b_Km_kind 13 = .ok (.iload_n 1, 1) := by decide +kernel
theorem d_Km_kind_14 : decode b_Km_kind 14 = .ok (.bipush 24, 2) := by decide +kernel
theorem d_Km_kind_16 : decode b_Km_kind 16 = .ok (.imul, 1) := by decide +kernel
theorem d_Km_kind_17 : decode b_Km_kind 17 = .ok (.iload_n 2, 1) := by decide +kernel
theorem d_Km_kind_18 : decode b_Km_kind 18 = .ok (.iadd, 1) := by decide +kernel
theorem d_Km_kind_19 : decode b_Km_kind 19 = .ok (.iaload, 1) := by decide +kernel
theorem d_Km_kind_20 : decode b_Km_kind 20 = .ok (.ireturn, 1) := by decide +kernel
theorem d_Km_a_0 : decode b_Km_a 0 = .ok (.iload_n 1, 1) := by decide +kernel
theorem d_Km_a_1 : decode b_Km_a 1 = .ok (.iconst (-1), 1) := by decide +kernel
theorem d_Km_a_2 : decode b_Km_a 2 = .ok (.if_icmp .ne 7, 3) := by decide +kernel
theorem d_Km_a_5 : decode b_Km_a 5 = .ok (.iconst 0, 1) := by decide +kernel
theorem d_Km_a_6 : decode b_Km_a 6 = .ok (.goto 14, 3) := by decide +kernel
theorem d_Km_a_9 : decode b_Km_a 9 = .ok (.aload_n 0, 1) := by decide +kernel
theorem d_Km_a_10 : decode b_Km_a 10 = .ok (.getfield 15, 3) := by decide +kernel
theorem d_Km_a_13 : decode b_Km_a 13 = .ok (.iload_n 1, 1) := by decide +kernel
theorem d_Km_a_14 : decode b_Km_a 14 = .ok (.bipush 24, 2) := by decide +kernel
theorem d_Km_a_16 : decode b_Km_a 16 = .ok (.imul, 1) := by decide +kernel
theorem d_Km_a_17 : decode b_Km_a 17 = .ok (.iload_n 2, 1) := by decide +kernel
theorem d_Km_a_18 : decode b_Km_a 18 = .ok (.iadd, 1) := by decide +kernel
theorem d_Km_a_19 : decode b_Km_a 19 = .ok (.iaload, 1) := by decide +kernel
theorem d_Km_a_20 : decode b_Km_a 20 = .ok (.ireturn, 1) := by decide +kernel
theorem d_Km_b_0 : decode b_Km_b 0 = .ok (.iload_n 1, 1) := by decide +kernel
theorem d_Km_b_1 : decode b_Km_b 1 = .ok (.iconst (-1), 1) := by decide +kernel
theorem d_Km_b_2 : decode b_Km_b 2 = .ok (.if_icmp .ne 7, 3) := by decide +kernel
theorem d_Km_b_5 : decode b_Km_b 5 = .ok (.iconst 0, 1) := by decide +kernel
theorem d_Km_b_6 : decode b_Km_b 6 = .ok (.goto 14, 3) := by decide +kernel
theorem d_Km_b_9 : decode b_Km_b 9 = .ok (.aload_n 0, 1) := by decide +kernel
theorem d_Km_b_10 : decode b_Km_b 10 = .ok (.getfield 18, 3) := by decide +kernel
theorem d_Km_b_13 : decode b_Km_b 13 = .ok (.iload_n 1, 1) := by decide +kernel
theorem d_Km_b_14 : decode b_Km_b 14 = .ok (.bipush 24, 2) := by decide +kernel
theorem d_Km_b_16 : decode b_Km_b 16 = .ok (.imul, 1) := by decide +kernel
theorem d_Km_b_17 : decode b_Km_b 17 = .ok (.iload_n 2, 1) := by decide +kernel
theorem d_Km_b_18 : decode b_Km_b 18 = .ok (.iadd, 1) := by decide +kernel
theorem d_Km_b_19 : decode b_Km_b 19 = .ok (.iaload, 1) := by decide +kernel
theorem d_Km_b_20 : decode b_Km_b 20 = .ok (.ireturn, 1) := by decide +kernel
theorem d_Ch_init_0 : decode b_Ch_init 0 = .ok (.aload_n 0, 1) := by decide +kernel
theorem d_Ch_init_1 : decode b_Ch_init 1 = .ok (.invokespecial 3, 3) := by decide +kernel
theorem d_Ch_init_4 : decode b_Ch_init 4 = .ok (.aload_n 0, 1) := by decide +kernel
theorem d_Ch_init_5 : decode b_Ch_init 5 = .ok (.iconst 4, 1) := by decide +kernel
theorem d_Ch_init_6 : decode b_Ch_init 6 = .ok (.newarray .int, 2) := by decide +kernel
theorem d_Ch_init_8 : decode b_Ch_init 8 = .ok (.putfield 9, 3) := by decide +kernel
theorem d_Ch_init_11 : decode b_Ch_init 11 = .ok (.aload_n 0, 1) := by decide +kernel
theorem d_Ch_init_12 : decode b_Ch_init 12 = .ok (.iconst 4, 1) := by decide +kernel
theorem d_Ch_init_13 : decode b_Ch_init 13 = .ok (.newarray .int, 2) := by decide +kernel
theorem d_Ch_init_15 : decode b_Ch_init 15 = .ok (.putfield 15, 3) := by decide +kernel
theorem d_Ch_init_18 : decode b_Ch_init 18 = .ok (.return_, 1) := by decide +kernel
theorem d_Ch_setChord_0 : decode b_Ch_setChord 0 = .ok (.aload_n 0, 1) := by decide +kernel
theorem d_Ch_setChord_1 : decode b_Ch_setChord 1 = .ok (.getfield 9, 3) := by decide +kernel
theorem d_Ch_setChord_4 : decode b_Ch_setChord 4 = .ok (.iload_n 1, 1) := by decide +kernel
theorem d_Ch_setChord_5 : decode b_Ch_setChord 5 = .ok (.iload_n 2, 1) := by decide +kernel
theorem d_Ch_setChord_6 : decode b_Ch_setChord 6 = .ok (.iastore, 1) := by decide +kernel
theorem d_Ch_setChord_7 : decode b_Ch_setChord 7 = .ok (.aload_n 0, 1) := by decide +kernel
theorem d_Ch_setChord_8 : decode b_Ch_setChord 8 = .ok (.getfield 15, 3) := by decide +kernel
theorem d_Ch_setChord_11 : decode b_Ch_setChord 11 = .ok (.iload_n 1, 1) := by decide +kernel
theorem d_Ch_setChord_12 : decode b_Ch_setChord 12 = .ok (.iload_n 3, 1) := by decide +kernel
theorem d_Ch_setChord_13 : decode b_Ch_setChord 13 = .ok (.iastore, 1) := by decide +kernel
theorem d_Ch_setChord_14 : decode b_Ch_setChord 14 = .ok (.return_, 1) := by decide +kernel
theorem d_Ch_keysOf_0 : decode b_Ch_keysOf 0 = .ok (.aload_n 0, 1) := by decide +kernel
theorem d_Ch_keysOf_1 : decode b_Ch_keysOf 1 = .ok (.getfield 9, 3) := by decide +kernel
theorem d_Ch_keysOf_4 : decode b_Ch_keysOf 4 = .ok (.iload_n 1, 1) := by decide +kernel
theorem d_Ch_keysOf_5 : decode b_Ch_keysOf 5 = .ok (.iaload, 1) := by decide +kernel
theorem d_Ch_keysOf_6 : decode b_Ch_keysOf 6 = .ok (.ireturn, 1) := by decide +kernel
theorem d_Ch_codeOf_0 : decode b_Ch_codeOf 0 = .ok (.aload_n 0, 1) := by decide +kernel
theorem d_Ch_codeOf_1 : decode b_Ch_codeOf 1 = .ok (.getfield 15, 3) := by decide +kernel
theorem d_Ch_codeOf_4 : decode b_Ch_codeOf 4 = .ok (.iload_n 1, 1) := by decide +kernel
theorem d_Ch_codeOf_5 : decode b_Ch_codeOf 5 = .ok (.iaload, 1) := by decide +kernel
theorem d_Ch_codeOf_6 : decode b_Ch_codeOf 6 = .ok (.ireturn, 1) := by decide +kernel
theorem d_Ch_hasElsewhere_0 : decode b_Ch_hasElsewhere 0 = .ok (.iconst 0, 1) := by decide +kernel
theorem d_Ch_hasElsewhere_1 : decode b_Ch_hasElsewhere 1 = .ok (.istore_n 3, 1) := by decide +kernel
theorem d_Ch_hasElsewhere_2 : decode b_Ch_hasElsewhere 2 = .ok (.iload_n 3, 1) := by decide +kernel
theorem d_Ch_hasElsewhere_3 : decode b_Ch_hasElsewhere 3 = .ok (.iconst 4, 1) := by decide +kernel
theorem d_Ch_hasElsewhere_4 : decode b_Ch_hasElsewhere 4 = .ok (.if_icmp .ge 26, 3) := by decide +kernel
theorem d_Ch_hasElsewhere_7 : decode b_Ch_hasElsewhere 7 = .ok (.iload_n 3, 1) := by decide +kernel
theorem d_Ch_hasElsewhere_8 : decode b_Ch_hasElsewhere 8 = .ok (.iload_n 1, 1) := by decide +kernel
theorem d_Ch_hasElsewhere_9 : decode b_Ch_hasElsewhere 9 = .ok (.if_icmp .eq 15, 3) := by decide +kernel
theorem d_Ch_hasElsewhere_12 : decode b_Ch_hasElsewhere 12 = .ok (.aload_n 0, 1) := by decide +kernel
theorem d_Ch_hasElsewhere_13 : decode b_Ch_hasElsewhere 13 = .ok (.getfield 9, 3) := by decide +kernel
theorem d_Ch_hasElsewhere_16 : decode b_Ch_hasElsewhere 16 = .ok (.iload_n 3, 1) := by decide +kernel
theorem d_Ch_hasElsewhere_17 : decode b_Ch_hasElsewhere 17 = .ok (.iaload, 1) := by decide +kernel
theorem d_Ch_hasElsewhere_18 : decode b_Ch_hasElsewhere 18 = .ok (.iload_n 2, 1) := by decide +kernel
theorem d_Ch_hasElsewhere_19 : decode b_Ch_hasElsewhere 19 = .ok (.if_icmp .ne 5, 3) := by decide +kernel
theorem d_Ch_hasElsewhere_22 : decode b_Ch_hasElsewhere 22 = .ok (.iconst 1, 1) := by decide +kernel
theorem d_Ch_hasElsewhere_23 : decode b_Ch_hasElsewhere 23 = .ok (.ireturn, 1) := by decide +kernel
theorem d_Ch_hasElsewhere_24 : decode b_Ch_hasElsewhere 24 = .ok (.iinc 3 1, 3) := by decide +kernel
theorem d_Ch_hasElsewhere_27 : decode b_Ch_hasElsewhere 27 = .ok (.goto (-25), 3) := by decide +kernel
theorem d_Ch_hasElsewhere_30 : decode b_Ch_hasElsewhere 30 = .ok (.iconst 0, 1) := by decide +kernel
theorem d_Ch_hasElsewhere_31 : decode b_Ch_hasElsewhere 31 = .ok (.ireturn, 1) := by decide +kernel
theorem d_Ch_canGrowFrom_0 : decode b_Ch_canGrowFrom 0 = .ok (.iconst 0, 1) := by decide +kernel
theorem d_Ch_canGrowFrom_1 : decode b_Ch_canGrowFrom 1 = .ok (.istore_n 2, 1) := by decide +kernel
theorem d_Ch_canGrowFrom_2 : decode b_Ch_canGrowFrom 2 = .ok (.iload_n 2, 1) := by decide +kernel
theorem d_Ch_canGrowFrom_3 : decode b_Ch_canGrowFrom 3 = .ok (.iconst 4, 1) := by decide +kernel
theorem d_Ch_canGrowFrom_4 : decode b_Ch_canGrowFrom 4 = .ok (.if_icmp .ge 34, 3) := by decide +kernel
theorem d_Ch_canGrowFrom_7 : decode b_Ch_canGrowFrom 7 = .ok (.iload_n 1, 1) := by decide +kernel
theorem d_Ch_canGrowFrom_8 : decode b_Ch_canGrowFrom 8 = .ok (.aload_n 0, 1) := by decide +kernel
theorem d_Ch_canGrowFrom_9 : decode b_Ch_canGrowFrom 9 = .ok (.getfield 9, 3) := by decide +kernel
theorem d_Ch_canGrowFrom_12 : decode b_Ch_canGrowFrom 12 = .ok (.iload_n 2, 1) := by decide +kernel
theorem d_Ch_canGrowFrom_13 : decode b_Ch_canGrowFrom 13 = .ok (.iaload, 1) := by decide +kernel
theorem d_Ch_canGrowFrom_14 : decode b_Ch_canGrowFrom 14 = .ok (.iconst (-1), 1) := by decide +kernel
theorem d_Ch_canGrowFrom_15 : decode b_Ch_canGrowFrom 15 = .ok (.ixor, 1) := by decide +kernel
theorem d_Ch_canGrowFrom_16 : decode b_Ch_canGrowFrom 16 = .ok (.iand, 1) := by decide +kernel
theorem d_Ch_canGrowFrom_17 : decode b_Ch_canGrowFrom 17 = .ok (.ifCond .ne 15, 3) := by decide +kernel
theorem d_Ch_canGrowFrom_20 : decode b_Ch_canGrowFrom 20 = .ok (.aload_n 0, 1) := by decide +kernel
theorem d_Ch_canGrowFrom_21 : decode b_Ch_canGrowFrom 21 = .ok (.getfield 9, 3) := by decide +kernel
theorem d_Ch_canGrowFrom_24 : decode b_Ch_canGrowFrom 24 = .ok (.iload_n 2, 1) := by decide +kernel
theorem d_Ch_canGrowFrom_25 : decode b_Ch_canGrowFrom 25 = .ok (.iaload, 1) := by decide +kernel
theorem d_Ch_canGrowFrom_26 : decode b_Ch_canGrowFrom 26 = .ok (.iload_n 1, 1) := by decide +kernel
theorem d_Ch_canGrowFrom_27 : decode b_Ch_canGrowFrom 27 = .ok (.if_icmp .eq 5, 3) := by decide +kernel
theorem d_Ch_canGrowFrom_30 : decode b_Ch_canGrowFrom 30 = .ok (.iconst 1, 1) := by decide +kernel
theorem d_Ch_canGrowFrom_31 : decode b_Ch_canGrowFrom 31 = .ok (.ireturn, 1) := by decide +kernel
theorem d_Ch_canGrowFrom_32 : decode b_Ch_canGrowFrom 32 = .ok (.iinc 2 1, 3) := by decide +kernel
theorem d_Ch_canGrowFrom_35 : decode b_Ch_canGrowFrom 35 = .ok (.goto (-33), 3) := by decide +kernel
theorem d_Ch_canGrowFrom_38 : decode b_Ch_canGrowFrom 38 = .ok (.iconst 0, 1) := by decide +kernel
theorem d_Ch_canGrowFrom_39 : decode b_Ch_canGrowFrom 39 = .ok (.ireturn, 1) := by decide +kernel
theorem d_Ch_longestAtStart_0 : decode b_Ch_longestAtStart 0 = .ok (.iconst (-1), 1) := by decide +kernel
theorem d_Ch_longestAtStart_1 : decode b_Ch_longestAtStart 1 = .ok (.istore_n 3, 1) := by decide +kernel
theorem d_Ch_longestAtStart_2 : decode b_Ch_longestAtStart 2 = .ok (.iconst 0, 1) := by decide +kernel
theorem d_Ch_longestAtStart_3 : decode b_Ch_longestAtStart 3 = .ok (.istore 4, 2) := by decide +kernel
theorem d_Ch_longestAtStart_5 : decode b_Ch_longestAtStart 5 = .ok (.iconst 0, 1) := by decide +kernel
theorem d_Ch_longestAtStart_6 : decode b_Ch_longestAtStart 6 = .ok (.istore 5, 2) := by decide +kernel
theorem d_Ch_longestAtStart_8 : decode b_Ch_longestAtStart 8 = .ok (.iload 5, 2) := by decide +kernel
theorem d_Ch_longestAtStart_10 : decode b_Ch_longestAtStart 10 = .ok (.iconst 4, 1) := by decide +kernel
theorem d_Ch_longestAtStart_11 : decode b_Ch_longestAtStart 11 = .ok (.if_icmp .ge 57, 3) := by decide +kernel
theorem d_Ch_longestAtStart_14 : decode b_Ch_longestAtStart 14 = .ok (.aload_n 0, 1) := by decide +kernel
theorem d_Ch_longestAtStart_15 : decode b_Ch_longestAtStart 15 = .ok (.getfield 9, 3) := by decide +kernel
theorem d_Ch_longestAtStart_18 : decode b_Ch_longestAtStart 18 = .ok (.iload 5, 2) := by decide +kernel
theorem d_Ch_longestAtStart_20 : decode b_Ch_longestAtStart 20 = .ok (.iaload, 1) := by decide +kernel
theorem d_Ch_longestAtStart_21 : decode b_Ch_longestAtStart 21 = .ok (.invokestatic 18, 3) := by decide +kernel
theorem d_Ch_longestAtStart_24 : decode b_Ch_longestAtStart 24 = .ok (.istore 6, 2) := by decide +kernel
theorem d_Ch_longestAtStart_26 : decode b_Ch_longestAtStart 26 = .ok (.iload 6, 2) := by decide +kernel
theorem d_Ch_longestAtStart_28 : decode b_Ch_longestAtStart 28 = .ok (.iload 4, 2) := by decide +kernel
theorem d_Ch_longestAtStart_30 : decode b_Ch_longestAtStart 30 = .ok (.if_icmp .le 32, 3) := by decide +kernel
theorem d_Ch_longestAtStart_33 : decode b_Ch_longestAtStart 33 = .ok (.iload 6, 2) := by decide +kernel
theorem d_Ch_longestAtStart_35 : decode b_Ch_longestAtStart 35 = .ok (.iload_n 2, 1) := by decide +kernel
theorem d_Ch_longestAtStart_36 : decode b_Ch_longestAtStart 36 = .ok (.if_icmp .gt 26, 3) := by decide +kernel
theorem d_Ch_longestAtStart_39 : decode b_Ch_longestAtStart 39 = .ok (.aload_n 1, 1) := by decide +kernel
theorem d_Ch_longestAtStart_40 : decode b_Ch_longestAtStart 40 = .ok (.iload 6, 2) := by decide +kernel
theorem d_Ch_longestAtStart_42 : decode b_Ch_longestAtStart 42 = .ok (.invokevirtual 24, 3) := by decide +kernel
theorem d_Ch_longestAtStart_45 : decode b_Ch_longestAtStart 45 = .ok (.aload_n 0, 1) := by decide +kernel
theorem d_Ch_longestAtStart_46 : decode b_Ch_longestAtStart 46 = .ok (.getfield 9, 3) := by decide +kernel
theorem d_Ch_longestAtStart_49 : decode b_Ch_longestAtStart 49 = .ok (.iload 5, 2) := by decide +kernel
theorem d_Ch_longestAtStart_51 : decode b_Ch_longestAtStart 51 = .ok (.iaload, 1) := by decide +kernel
theorem d_Ch_longestAtStart_52 : decode b_Ch_longestAtStart 52 = .ok (.if_icmp .ne 10, 3) := by decide +kernel
theorem d_Ch_longestAtStart_55 : decode b_Ch_longestAtStart 55 = .ok (.iload 5, 2) := by decide +kernel
theorem d_Ch_longestAtStart_57 : decode b_Ch_longestAtStart 57 = .ok (.istore_n 3, 1) := by decide +kernel
theorem d_Ch_longestAtStart_58 : decode b_Ch_longestAtStart 58 = .ok (.iload 6, 2) := by decide +kernel
theorem d_Ch_longestAtStart_60 : decode b_Ch_longestAtStart 60 = .ok (.istore 4, 2) := by decide +kernel
theorem d_Ch_longestAtStart_62 : decode b_Ch_longestAtStart 62 = .ok (.iinc 5 1, 3) := by decide +kernel
theorem d_Ch_longestAtStart_65 : decode b_Ch_longestAtStart 65 = .ok (.goto (-57), 3) := by decide +kernel
theorem d_Ch_longestAtStart_68 : decode b_Ch_longestAtStart 68 = .ok (.iload_n 3, 1) := by decide +kernel
theorem d_Ch_longestAtStart_69 : decode b_Ch_longestAtStart 69 = .ok (.ireturn, 1) := by decide +kernel
theorem d_La_init_0 : decode b_La_init 0 = .ok (.aload_n 0, 1) := by decide +kernel
theorem d_La_init_1 : decode b_La_init 1 = .ok (.invokespecial 3, 3) := by decide +kernel
theorem d_La_init_4 : decode b_La_init 4 = .ok (.aload_n 0, 1) := by decide +kernel
theorem d_La_init_5 : decode b_La_init 5 = .ok (.iconst 4, 1) := by decide +kernel
theorem d_La_init_6 : decode b_La_init 6 = .ok (.newarray .int, 2) := by decide +kernel
theorem d_La_init_8 : decode b_La_init 8 = .ok (.putfield 9, 3) := by decide +kernel
theorem d_La_init_11 : decode b_La_init 11 = .ok (.return_, 1) := by decide +kernel
theorem d_La_isOn_0 : decode b_La_isOn 0 = .ok (.iload_n 1, 1) := by decide +kernel
theorem d_La_isOn_1 : decode b_La_isOn 1 = .ok (.ifCond .eq 28, 3) := by decide +kernel
theorem d_La_isOn_4 : decode b_La_isOn 4 = .ok (.aload_n 0, 1) := by decide +kernel
theorem d_La_isOn_5 : decode b_La_isOn 5 = .ok (.getfield 9, 3) := by decide +kernel
theorem d_La_isOn_8 : decode b_La_isOn 8 = .ok (.iload_n 1, 1) := by decide +kernel
theorem d_La_isOn_9 : decode b_La_isOn 9 = .ok (.iaload, 1) := by decide +kernel
theorem d_La_isOn_10 : decode b_La_isOn 10 = .ok (.ifCond .ne 19, 3) := by decide +kernel
theorem d_La_isOn_13 : decode b_La_isOn 13 = .ok (.aload_n 0, 1) := by decide +kernel
theorem d_La_isOn_14 : decode b_La_isOn 14 = .ok (.getfield 15, 3) := by decide +kernel
theorem d_La_isOn_17 : decode b_La_isOn 17 = .ok (.aload_n 0, 1) := by decide +kernel
theorem d_La_isOn_18 : decode b_La_isOn 18 = .ok (.getfield 19, 3) := by decide +kernel
theorem d_La_isOn_21 : decode b_La_isOn 21 = .ok (.ior, 1) := by decide +kernel
theorem d_La_isOn_22 : decode b_La_isOn 22 = .ok (.iload_n 1, 1) := by decide +kernel
theorem d_La_isOn_23 : decode b_La_isOn 23 = .ok (.ishr, 1) := by decide +kernel
theorem d_La_isOn_24 : decode b_La_isOn 24 = .ok (.iconst 1, 1) := by decide +kernel
theorem d_La_isOn_25 : decode b_La_isOn 25 = .ok (.iand, 1) := by decide +kernel
theorem d_La_isOn_26 : decode b_La_isOn 26 = .ok (.ifCond .eq 7, 3) := by decide +kernel
theorem d_La_isOn_29 : decode b_La_isOn 29 = .ok (.iconst 1, 1) := by decide +kernel
theorem d_La_isOn_30 : decode b_La_isOn 30 = .ok (.goto 4, 3) := by decide +kernel
theorem d_La_isOn_33 : decode b_La_isOn 33 = .ok (.iconst 0, 1) := by decide +kernel
theorem d_La_isOn_34 : decode b_La_isOn 34 = .ok (.ireturn, 1) := by decide +kernel
theorem d_La_hold_0 : decode b_La_hold 0 = .ok (.aload_n 0, 1) := by decide +kernel
theorem d_La_hold_1 : decode b_La_hold 1 = .ok (.getfield 9, 3) := by decide +kernel
theorem d_La_hold_4 : decode b_La_hold 4 = .ok (.iload_n 1, 1) := by decide +kernel
theorem d_La_hold_5 : decode b_La_hold 5 = .ok (.dup2, 1) := by decide +kernel
theorem d_La_hold_6 : decode b_La_hold 6 = .ok (.iaload, 1) := by decide +kernel
theorem d_La_hold_7 : decode b_La_hold 7 = .ok (.iconst 1, 1) := by decide +kernel
theorem d_La_hold_8 : decode b_La_hold 8 = .ok (.iload_n 2, 1) := by decide +kernel
theorem d_La_hold_9 : decode b_La_hold 9 = .ok (.ishl, 1) := by decide +kernel
theorem d_La_hold_10 : decode b_La_hold 10 = .ok (.ior, 1) := by decide +kernel
theorem d_La_hold_11 : decode b_La_hold 11 = .ok (.iastore, 1) := by decide +kernel
theorem d_La_hold_12 : decode b_La_hold 12 = .ok (.return_, 1) := by decide +kernel
theorem d_La_letGo_0 : decode b_La_letGo 0 = .ok (.iconst 0, 1) := by decide +kernel
theorem d_La_letGo_1 : decode b_La_letGo 1 = .ok (.istore_n 2, 1) := by decide +kernel
theorem d_La_letGo_2 : decode b_La_letGo 2 = .ok (.iload_n 2, 1) := by decide +kernel
theorem d_La_letGo_3 : decode b_La_letGo 3 = .ok (.iconst 4, 1) := by decide +kernel
theorem d_La_letGo_4 : decode b_La_letGo 4 = .ok (.if_icmp .ge 23, 3) := by decide +kernel
theorem d_La_letGo_7 : decode b_La_letGo 7 = .ok (.aload_n 0, 1) := by decide +kernel
theorem d_La_letGo_8 : decode b_La_letGo 8 = .ok (.getfield 9, 3) := by decide +kernel
theorem d_La_letGo_11 : decode b_La_letGo 11 = .ok (.iload_n 2, 1) := by decide +kernel
theorem d_La_letGo_12 : decode b_La_letGo 12 = .ok (.dup2, 1) := by decide +kernel
theorem d_La_letGo_13 : decode b_La_letGo 13 = .ok (.iaload, 1) := by decide +kernel
theorem d_La_letGo_14 : decode b_La_letGo 14 = .ok (.iconst 1, 1) := by decide +kernel
theorem d_La_letGo_15 : decode b_La_letGo 15 = .ok (.iload_n 1, 1) := by decide +kernel
theorem d_La_letGo_16 : decode b_La_letGo 16 = .ok (.ishl, 1) := by decide +kernel
theorem d_La_letGo_17 : decode b_La_letGo 17 = .ok (.iconst (-1), 1) := by decide +kernel
theorem d_La_letGo_18 : decode b_La_letGo 18 = .ok (.ixor, 1) := by decide +kernel
theorem d_La_letGo_19 : decode b_La_letGo 19 = .ok (.iand, 1) := by decide +kernel
theorem d_La_letGo_20 : decode b_La_letGo 20 = .ok (.iastore, 1) := by decide +kernel
theorem d_La_letGo_21 : decode b_La_letGo 21 = .ok (.iinc 2 1, 3) := by decide +kernel
theorem d_La_letGo_24 : decode b_La_letGo 24 = .ok (.goto (-22), 3) := by decide +kernel
theorem d_La_letGo_27 : decode b_La_letGo 27 = .ok (.return_, 1) := by decide +kernel
theorem d_La_turnLock_0 : decode b_La_turnLock 0 = .ok (.aload_n 0, 1) := by decide +kernel
theorem d_La_turnLock_1 : decode b_La_turnLock 1 = .ok (.dup, 1) := by decide +kernel
theorem d_La_turnLock_2 : decode b_La_turnLock 2 = .ok (.getfield 15, 3) := by decide +kernel
theorem d_La_turnLock_5 : decode b_La_turnLock 5 = .ok (.iconst 1, 1) := by decide +kernel
theorem d_La_turnLock_6 : decode b_La_turnLock 6 = .ok (.iload_n 1, 1) := by decide +kernel
theorem d_La_turnLock_7 : decode b_La_turnLock 7 = .ok (.ishl, 1) := by decide +kernel
theorem d_La_turnLock_8 : decode b_La_turnLock 8 = .ok (.ixor, 1) := by decide +kernel
theorem d_La_turnLock_9 : decode b_La_turnLock 9 = .ok (.putfield 15, 3) := by decide +kernel
theorem d_La_turnLock_12 : decode b_La_turnLock 12 = .ok (.return_, 1) := by decide +kernel
theorem d_La_arm_0 : decode b_La_arm 0 = .ok (.aload_n 0, 1) := by decide +kernel
theorem d_La_arm_1 : decode b_La_arm 1 = .ok (.dup, 1) := by decide +kernel
theorem d_La_arm_2 : decode b_La_arm 2 = .ok (.getfield 19, 3) := by decide +kernel
theorem d_La_arm_5 : decode b_La_arm 5 = .ok (.iconst 1, 1) := by decide +kernel
theorem d_La_arm_6 : decode b_La_arm 6 = .ok (.iload_n 1, 1) := by decide +kernel
theorem d_La_arm_7 : decode b_La_arm 7 = .ok (.ishl, 1) := by decide +kernel
theorem d_La_arm_8 : decode b_La_arm 8 = .ok (.ior, 1) := by decide +kernel
theorem d_La_arm_9 : decode b_La_arm 9 = .ok (.putfield 19, 3) := by decide +kernel
theorem d_La_arm_12 : decode b_La_arm 12 = .ok (.return_, 1) := by decide +kernel
theorem d_La_disarm_0 : decode b_La_disarm 0 = .ok (.aload_n 0, 1) := by decide +kernel
theorem d_La_disarm_1 : decode b_La_disarm 1 = .ok (.iconst 0, 1) := by decide +kernel
theorem d_La_disarm_2 : decode b_La_disarm 2 = .ok (.putfield 19, 3) := by decide +kernel
theorem d_La_disarm_5 : decode b_La_disarm 5 = .ok (.return_, 1) := by decide +kernel
theorem d_Ho_init_0 : decode b_Ho_init 0 = .ok (.aload_n 0, 1) := by decide +kernel
theorem d_Ho_init_1 : decode b_Ho_init 1 = .ok (.invokespecial 3, 3) := by decide +kernel
theorem d_Ho_init_4 : decode b_Ho_init 4 = .ok (.aload_n 0, 1) := by decide +kernel
theorem d_Ho_init_5 : decode b_Ho_init 5 = .ok (.bipush 24, 2) := by decide +kernel
theorem d_Ho_init_7 : decode b_Ho_init 7 = .ok (.newarray .int, 2) := by decide +kernel
theorem d_Ho_init_9 : decode b_Ho_init 9 = .ok (.putfield 9, 3) := by decide +kernel
theorem d_Ho_init_12 : decode b_Ho_init 12 = .ok (.aload_n 0, 1) := by decide +kernel
theorem d_Ho_init_13 : decode b_Ho_init 13 = .ok (.bipush 24, 2) := by decide +kernel
theorem d_Ho_init_15 : decode b_Ho_init 15 = .ok (.newarray .int, 2) := by decide +kernel
theorem d_Ho_init_17 : decode b_Ho_init 17 = .ok (.putfield 15, 3) := by decide +kernel
theorem d_Ho_init_20 : decode b_Ho_init 20 = .ok (.return_, 1) := by decide +kernel
theorem d_Ho_begin_0 : decode b_Ho_begin 0 = .ok (.iconst 0, 1) := by decide +kernel
theorem d_Ho_begin_1 : decode b_Ho_begin 1 = .ok (.istore_n 3, 1) := by decide +kernel
theorem d_Ho_begin_2 : decode b_Ho_begin 2 = .ok (.iload_n 3, 1) := by decide +kernel
theorem d_Ho_begin_3 : decode b_Ho_begin 3 = .ok (.bipush 24, 2) := by decide +kernel
theorem d_Ho_begin_5 : decode b_Ho_begin 5 = .ok (.if_icmp .ge 31, 3) := by decide +kernel
theorem d_Ho_begin_8 : decode b_Ho_begin 8 = .ok (.iload_n 1, 1) := by decide +kernel
theorem d_Ho_begin_9 : decode b_Ho_begin 9 = .ok (.iload_n 3, 1) := by decide +kernel
theorem d_Ho_begin_10 : decode b_Ho_begin 10 = .ok (.ishr, 1) := by decide +kernel
theorem d_Ho_begin_11 : decode b_Ho_begin 11 = .ok (.iconst 1, 1) := by decide +kernel
theorem d_Ho_begin_12 : decode b_Ho_begin 12 = .ok (.iand, 1) := by decide +kernel
theorem d_Ho_begin_13 : decode b_Ho_begin 13 = .ok (.ifCond .eq 17, 3) := by decide +kernel
theorem d_Ho_begin_16 : decode b_Ho_begin 16 = .ok (.aload_n 0, 1) := by decide +kernel
theorem d_Ho_begin_17 : decode b_Ho_begin 17 = .ok (.getfield 9, 3) := by decide +kernel
theorem d_Ho_begin_20 : decode b_Ho_begin 20 = .ok (.iload_n 3, 1) := by decide +kernel
theorem d_Ho_begin_21 : decode b_Ho_begin 21 = .ok (.iload_n 2, 1) := by decide +kernel
theorem d_Ho_begin_22 : decode b_Ho_begin 22 = .ok (.iastore, 1) := by decide +kernel
theorem d_Ho_begin_23 : decode b_Ho_begin 23 = .ok (.aload_n 0, 1) := by decide +kernel
theorem d_Ho_begin_24 : decode b_Ho_begin 24 = .ok (.getfield 15, 3) := by decide +kernel
theorem d_Ho_begin_27 : decode b_Ho_begin 27 = .ok (.iload_n 3, 1) := by decide +kernel
theorem d_Ho_begin_28 : decode b_Ho_begin 28 = .ok (.iload_n 1, 1) := by decide +kernel
theorem d_Ho_begin_29 : decode b_Ho_begin 29 = .ok (.iastore, 1) := by decide +kernel
theorem d_Ho_begin_30 : decode b_Ho_begin 30 = .ok (.iinc 3 1, 3) := by decide +kernel
theorem d_Ho_begin_33 : decode b_Ho_begin 33 = .ok (.goto (-31), 3) := by decide +kernel
theorem d_Ho_begin_36 : decode b_Ho_begin 36 = .ok (.return_, 1) := by decide +kernel
theorem d_Ho_end_0 : decode b_Ho_end 0 = .ok (.aload_n 0, 1) := by decide +kernel
theorem d_Ho_end_1 : decode b_Ho_end 1 = .ok (.getfield 9, 3) := by decide +kernel
theorem d_Ho_end_4 : decode b_Ho_end 4 = .ok (.iload_n 1, 1) := by decide +kernel
theorem d_Ho_end_5 : decode b_Ho_end 5 = .ok (.iaload, 1) := by decide +kernel
theorem d_Ho_end_6 : decode b_Ho_end 6 = .ok (.istore_n 2, 1) := by decide +kernel
theorem d_Ho_end_7 : decode b_Ho_end 7 = .ok (.iload_n 2, 1) := by decide +kernel
theorem d_Ho_end_8 : decode b_Ho_end 8 = .ok (.ifCond .eq 14, 3) := by decide +kernel
theorem d_Ho_end_11 : decode b_Ho_end 11 = .ok (.aload_n 0, 1) := by decide +kernel
theorem d_Ho_end_12 : decode b_Ho_end 12 = .ok (.aload_n 0, 1) := by decide +kernel
theorem d_Ho_end_13 : decode b_Ho_end 13 = .ok (.getfield 15, 3) := by decide +kernel
theorem d_Ho_end_16 : decode b_Ho_end 16 = .ok (.iload_n 1, 1) := by decide +kernel
theorem d_Ho_end_17 : decode b_Ho_end 17 = .ok (.iaload, 1) := by decide +kernel
theorem d_Ho_end_18 : decode b_Ho_end 18 = .ok (.iconst 0, 1) := by decide +kernel
theorem d_Ho_end_19 : decode b_Ho_end 19 = .ok (.invokevirtual 18, 3) := by decide +kernel
theorem d_Ho_end_22 : decode b_Ho_end 22 = .ok (.iload_n 2, 1) := by decide +kernel
theorem d_Ho_end_23 : decode b_Ho_end 23 = .ok (.ireturn, 1) := by decide +kernel
theorem d_Re_init_0 : decode b_Re_init 0 = .ok (.aload_n 0, 1) := by decide +kernel
theorem d_Re_init_1 : decode b_Re_init 1 = .ok (.invokespecial 3, 3) := by decide +kernel
theorem d_Re_init_4 : decode b_Re_init 4 = .ok (.aload_n 0, 1) := by decide +kernel
theorem d_Re_init_5 : decode b_Re_init 5 = .ok (.bipush 108, 2) := by decide +kernel
theorem d_Re_init_7 : decode b_Re_init 7 = .ok (.newarray .int, 2) := by decide +kernel
theorem d_Re_init_9 : decode b_Re_init 9 = .ok (.putfield 9, 3) := by decide +kernel
theorem d_Re_init_12 : decode b_Re_init 12 = .ok (.aload_n 0, 1) := by decide +kernel
theorem d_Re_init_13 : decode b_Re_init 13 = .ok (.bipush 8, 2) := by decide +kernel
theorem d_Re_init_15 : decode b_Re_init 15 = .ok (.newarray .long, 2) := by decide +kernel
theorem d_Re_init_17 : decode b_Re_init 17 = .ok (.putfield 15, 3) := by decide +kernel
theorem d_Re_init_20 : decode b_Re_init 20 = .ok (.return_, 1) := by decide +kernel
theorem d_Re_stored_0 : decode b_Re_stored 0 = .ok (.aload_n 0, 1) := by decide +kernel
theorem d_Re_stored_1 : decode b_Re_stored 1 = .ok (.getfield 19, 3) := by decide +kernel
theorem d_Re_stored_4 : decode b_Re_stored 4 = .ok (.ireturn, 1) := by decide +kernel
theorem d_Re_isLate_0 : decode b_Re_isLate 0 = .ok (.aload_n 0, 1) := by decide +kernel
theorem d_Re_isLate_1 : decode b_Re_isLate 1 = .ok (.getfield 23, 3) := by decide +kernel
theorem d_Re_isLate_4 : decode b_Re_isLate 4 = .ok (.ireturn, 1) := by decide +kernel
theorem d_Re_goDown_0 : decode b_Re_goDown 0 = .ok (.aload_n 0, 1) := by decide +kernel
theorem d_Re_goDown_1 : decode b_Re_goDown 1 = .ok (.getfield 9, 3) := by decide +kernel
theorem d_Re_goDown_4 : decode b_Re_goDown 4 = .ok (.iload_n 1, 1) := by decide +kernel
theorem d_Re_goDown_5 : decode b_Re_goDown 5 = .ok (.dup2, 1) := by decide +kernel
theorem d_Re_goDown_6 : decode b_Re_goDown 6 = .ok (.iaload, 1) := by decide +kernel
theorem d_Re_goDown_7 : decode b_Re_goDown 7 = .ok (.iconst 1, 1) := by decide +kernel
theorem d_Re_goDown_8 : decode b_Re_goDown 8 = .ok (.iadd, 1) := by decide +kernel
theorem d_Re_goDown_9 : decode b_Re_goDown 9 = .ok (.iastore, 1) := by decide +kernel
theorem d_Re_goDown_10 : decode b_Re_goDown 10 = .ok (.aload_n 0, 1) := by decide +kernel
theorem d_Re_goDown_11 : decode b_Re_goDown 11 = .ok (.aload_n 0, 1) := by decide +kernel
theorem d_Re_goDown_12 : decode b_Re_goDown 12 = .ok (.invokevirtual 27, 3) := by decide +kernel
theorem d_Re_goDown_15 : decode b_Re_goDown 15 = .ok (.invokevirtual 31, 3) := by decide +kernel
theorem d_Re_goDown_18 : decode b_Re_goDown 18 = .ok (.return_, 1) := by decide +kernel
theorem d_Re_letGo_0 : decode b_Re_letGo 0 = .ok (.aload_n 0, 1) := by decide +kernel
theorem d_Re_letGo_1 : decode b_Re_letGo 1 = .ok (.getfield 9, 3) := by decide +kernel
theorem d_Re_letGo_4 : decode b_Re_letGo 4 = .ok (.iload_n 1, 1) := by decide +kernel
theorem d_Re_letGo_5 : decode b_Re_letGo 5 = .ok (.dup2, 1) := by decide +kernel
theorem d_Re_letGo_6 : decode b_Re_letGo 6 = .ok (.iaload, 1) := by decide +kernel
theorem d_Re_letGo_7 : decode b_Re_letGo 7 = .ok (.iconst 1, 1) := by decide +kernel
theorem d_Re_letGo_8 : decode b_Re_letGo 8 = .ok (.isub, 1) := by decide +kernel
theorem d_Re_letGo_9 : decode b_Re_letGo 9 = .ok (.iastore, 1) := by decide +kernel
theorem d_Re_letGo_10 : decode b_Re_letGo 10 = .ok (.aload_n 0, 1) := by decide +kernel
theorem d_Re_letGo_11 : decode b_Re_letGo 11 = .ok (.aload_n 0, 1) := by decide +kernel
theorem d_Re_letGo_12 : decode b_Re_letGo 12 = .ok (.invokevirtual 27, 3) := by decide +kernel
theorem d_Re_letGo_15 : decode b_Re_letGo 15 = .ok (.invokevirtual 31, 3) := by decide +kernel
theorem d_Re_letGo_18 : decode b_Re_letGo 18 = .ok (.return_, 1) := by decide +kernel
theorem d_Re_takeOldest_0 : decode b_Re_takeOldest 0 = .ok (.aload_n 0, 1) := by decide +kernel
theorem d_Re_takeOldest_1 : decode b_Re_takeOldest 1 = .ok (.getfield 19, 3) := by decide +kernel
theorem d_Re_takeOldest_4 : decode b_Re_takeOldest 4 = .ok (.ifCond .ne 5, 3) := by decide +kernel
theorem d_Re_takeOldest_7 : decode b_Re_takeOldest 7 = .ok (.iconst 0, 1) := by decide +kernel
theorem d_Re_takeOldest_8 : decode b_Re_takeOldest 8 = .ok (.ireturn, 1) := by decide +kernel
theorem d_Re_takeOldest_9 : decode b_Re_takeOldest 9 = .ok (.aload_n 0, 1) := by decide +kernel
theorem d_Re_takeOldest_10 : decode b_Re_takeOldest 10 = .ok (.aload_n 0, 1) := by decide +kernel
theorem d_Re_takeOldest_11 : decode b_Re_takeOldest 11 = .ok (.getfield 15, 3) := by decide +kernel
theorem d_Re_takeOldest_14 : decode b_Re_takeOldest 14 = .ok (.aload_n 0, 1) := by decide +kernel
theorem d_Re_takeOldest_15 : decode b_Re_takeOldest 15 = .ok (.getfield 35, 3) := by decide +kernel
theorem d_Re_takeOldest_18 : decode b_Re_takeOldest 18 = .ok (.laload, 1) := by decide +kernel
theorem d_Re_takeOldest_19 : decode b_Re_takeOldest 19 = .ok (.putfield 38, 3) := by decide +kernel
theorem d_Re_takeOldest_22 : decode b_Re_takeOldest 22 = .ok (.aload_n 0, 1) := by decide +kernel
theorem d_Re_takeOldest_23 : decode b_Re_takeOldest 23 = .ok (.aload_n 0, 1) := by decide +kernel
theorem d_Re_takeOldest_24 : decode b_Re_takeOldest 24 = .ok (.getfield 35, 3) := by decide +kernel
theorem d_Re_takeOldest_27 : decode b_Re_takeOldest 27 = .ok (.iconst 1, 1) := by decide +kernel
theorem d_Re_takeOldest_28 : decode b_Re_takeOldest 28 = .ok (.iadd, 1) := by decide +kernel
theorem d_Re_takeOldest_29 : decode b_Re_takeOldest 29 = .ok (.bipush 8, 2) := by decide +kernel
theorem d_Re_takeOldest_31 : decode b_Re_takeOldest 31 = .ok (.irem, 1) := by decide +kernel
theorem d_Re_takeOldest_32 : decode b_Re_takeOldest 32 = .ok (.putfield 35, 3) := by decide +kernel
theorem d_Re_takeOldest_35 : decode b_Re_takeOldest 35 = .ok (.aload_n 0, 1) := by decide +kernel
theorem d_Re_takeOldest_36 : decode b_Re_takeOldest 36 = .ok (.dup, 1) := by decide +kernel
theorem d_Re_takeOldest_37 : decode b_Re_takeOldest 37 = .ok (.getfield 19, 3) := by decide +kernel
theorem d_Re_takeOldest_40 : decode b_Re_takeOldest 40 = .ok (.iconst 1, 1) := by decide +kernel
theorem d_Re_takeOldest_41 : decode b_Re_takeOldest 41 = .ok (.isub, 1) := by decide +kernel
theorem d_Re_takeOldest_42 : decode b_Re_takeOldest 42 = .ok (.putfield 19, 3) := by decide +kernel
theorem d_Re_takeOldest_45 : decode b_Re_takeOldest 45 = .ok (.aload_n 0, 1) := by decide +kernel
theorem d_Re_takeOldest_46 : decode b_Re_takeOldest 46 = .ok (.getfield 23, 3) := by decide +kernel
theorem d_Re_takeOldest_49 : decode b_Re_takeOldest 49 = .ok (.ifCond .eq 16, 3) := by decide +kernel
theorem d_Re_takeOldest_52 : decode b_Re_takeOldest 52 = .ok (.aload_n 0, 1) := by decide +kernel
theorem d_Re_takeOldest_53 : decode b_Re_takeOldest 53 = .ok (.iconst 0, 1) := by decide +kernel
theorem d_Re_takeOldest_54 : decode b_Re_takeOldest 54 = .ok (.putfield 23, 3) := by decide +kernel
theorem d_Re_takeOldest_57 : decode b_Re_takeOldest 57 = .ok (.aload_n 0, 1) := by decide +kernel
theorem d_Re_takeOldest_58 : decode b_Re_takeOldest 58 = .ok (.aload_n 0, 1) := by decide +kernel
theorem d_Re_takeOldest_59 : decode b_Re_takeOldest 59 = .ok (.invokevirtual 27, 3) := by decide +kernel
theorem d_Re_takeOldest_62 : decode b_Re_takeOldest 62 = .ok (.invokevirtual 31, 3) := by decide +kernel
theorem d_Re_takeOldest_65 : decode b_Re_takeOldest 65 = .ok (.iconst 1, 1) := by decide +kernel
theorem d_Re_takeOldest_66 : decode b_Re_takeOldest 66 = .ok (.ireturn, 1) := by decide +kernel
theorem d_Re_partOfTaken_0 : decode b_Re_partOfTaken 0 = .ok (.iload_n 1, 1) := by decide +kernel
theorem d_Re_partOfTaken_1 : decode b_Re_partOfTaken 1 = .ok (.ifCond .lt 9, 3) := by decide +kernel
theorem d_Re_partOfTaken_4 : decode b_Re_partOfTaken 4 = .ok (.iload_n 1, 1) := by decide +kernel
theorem d_Re_partOfTaken_5 : decode b_Re_partOfTaken 5 = .ok (.bipush 6, 2) := by decide +kernel
theorem d_Re_partOfTaken_7 : decode b_Re_partOfTaken 7 = .ok (.if_icmp .le 5, 3) := by decide +kernel
theorem d_Re_partOfTaken_10 : decode b_Re_partOfTaken 10 = .ok (.iconst (-1), 1) := by decide +kernel
theorem d_Re_partOfTaken_11 : decode b_Re_partOfTaken 11 = .ok (.ireturn, 1) := by decide +kernel
theorem d_Re_partOfTaken_12 : decode b_Re_partOfTaken 12 = .ok (.iload_n 1, 1) := by decide +kernel
theorem d_Re_partOfTaken_13 : decode b_Re_partOfTaken 13 = .ok (.ifCond .ne 13, 3) := by decide +kernel
theorem d_Re_partOfTaken_16 : decode b_Re_partOfTaken 16 = .ok (.aload_n 0, 1) := by decide +kernel
theorem d_Re_partOfTaken_17 : decode b_Re_partOfTaken 17 = .ok (.getfield 38, 3) := by decide +kernel
theorem d_Re_partOfTaken_20 : decode b_Re_partOfTaken 20 = .ok (.ldc2_w 42, 3) := by decide +kernel
theorem d_Re_partOfTaken_23 : decode b_Re_partOfTaken 23 = .ok (.land, 1) := by decide +kernel
theorem d_Re_partOfTaken_24 : decode b_Re_partOfTaken 24 = .ok (.l2i, 1) := by decide +kernel
theorem d_Re_partOfTaken_25 : decode b_Re_partOfTaken 25 = .ok (.ireturn, 1) := by decide +kernel
theorem d_Re_partOfTaken_26 : decode b_Re_partOfTaken 26 = .ok (.bipush 8, 2) := by decide +kernel
theorem d_Re_partOfTaken_28 : decode b_Re_partOfTaken 28 = .ok (.bipush 7, 2) := by decide +kernel
theorem d_Re_partOfTaken_30 : decode b_Re_partOfTaken 30 = .ok (.iload_n 1, 1) := by decide +kernel
theorem d_Re_partOfTaken_31 : decode b_Re_partOfTaken 31 = .ok (.iconst 1, 1) := by decide +kernel
theorem d_Re_partOfTaken_32 : decode b_Re_partOfTaken 32 = .ok (.isub, 1) := by decide +kernel
theorem d_Re_partOfTaken_33 : decode b_Re_partOfTaken 33 = .ok (.imul, 1) := by decide +kernel
theorem d_Re_partOfTaken_34 : decode b_Re_partOfTaken 34 = .ok (.iadd, 1) := by decide +kernel
theorem d_Re_partOfTaken_35 : decode b_Re_partOfTaken 35 = .ok (.istore_n 2, 1) := by decide +kernel
theorem d_Re_partOfTaken_36 : decode b_Re_partOfTaken 36 = .ok (.aload_n 0, 1) := by decide +kernel
theorem d_Re_partOfTaken_37 : decode b_Re_partOfTaken 37 = .ok (.getfield 38, 3) := by decide +kernel
theorem d_Re_partOfTaken_40 : decode b_Re_partOfTaken 40 = .ok (.iload_n 2, 1) := by decide +kernel
theorem d_Re_partOfTaken_41 : decode b_Re_partOfTaken 41 = .ok (.lshr, 1) := by decide +kernel
theorem d_Re_partOfTaken_42 : decode b_Re_partOfTaken 42 = .ok (.ldc2_w 44, 3) := by decide +kernel
theorem d_Re_partOfTaken_45 : decode b_Re_partOfTaken 45 = .ok (.land, 1) := by decide +kernel
theorem d_Re_partOfTaken_46 : decode b_Re_partOfTaken 46 = .ok (.l2i, 1) := by decide +kernel
theorem d_Re_partOfTaken_47 : decode b_Re_partOfTaken 47 = .ok (.ireturn, 1) := by decide +kernel
theorem d_Re_putIfOther_0 : decode b_Re_putIfOther 0 = .ok (.lload_n 1, 1) := by decide +kernel
theorem d_Re_putIfOther_1 : decode b_Re_putIfOther 1 = .ok (.aload_n 0, 1) := by decide +kernel
theorem d_Re_putIfOther_2 : decode b_Re_putIfOther 2 = .ok (.getfield 46, 3) := by decide +kernel
theorem d_Re_putIfOther_5 : decode b_Re_putIfOther 5 = .ok (.lcmp, 1) := by decide +kernel
theorem d_Re_putIfOther_6 : decode b_Re_putIfOther 6 = .ok (.ifCond .ne 4, 3) := by decide +kernel
theorem d_Re_putIfOther_9 : decode b_Re_putIfOther 9 = .ok (.return_, 1) := by decide +kernel
theorem d_Re_putIfOther_10 : decode b_Re_putIfOther 10 = .ok (.aload_n 0, 1) := by decide +kernel
theorem d_Re_putIfOther_11 : decode b_Re_putIfOther 11 = .ok (.getfield 19, 3) := by decide +kernel
theorem d_Re_putIfOther_14 : decode b_Re_putIfOther 14 = .ok (.bipush 8, 2) := by decide +kernel
theorem d_Re_putIfOther_16 : decode b_Re_putIfOther 16 = .ok (.if_icmp .ne 9, 3) := by decide +kernel
theorem d_Re_putIfOther_19 : decode b_Re_putIfOther 19 = .ok (.aload_n 0, 1) := by decide +kernel
theorem d_Re_putIfOther_20 : decode b_Re_putIfOther 20 = .ok (.iconst 1, 1) := by decide +kernel
theorem d_Re_putIfOther_21 : decode b_Re_putIfOther 21 = .ok (.putfield 23, 3) := by decide +kernel
theorem d_Re_putIfOther_24 : decode b_Re_putIfOther 24 = .ok (.return_, 1) := by decide +kernel
theorem d_Re_putIfOther_25 : decode b_Re_putIfOther 25 = .ok (.aload_n 0, 1) := by decide +kernel
theorem d_Re_putIfOther_26 : decode b_Re_putIfOther 26 = .ok (.getfield 15, 3) := by decide +kernel
theorem d_Re_putIfOther_29 : decode b_Re_putIfOther 29 = .ok (.aload_n 0, 1) := by decide +kernel
theorem d_Re_putIfOther_30 : decode b_Re_putIfOther 30 = .ok (.getfield 35, 3) := by decide +kernel
theorem d_Re_putIfOther_33 : decode b_Re_putIfOther 33 = .ok (.aload_n 0, 1) := by decide +kernel
theorem d_Re_putIfOther_34 : decode b_Re_putIfOther 34 = .ok (.getfield 19, 3) := by decide +kernel
theorem d_Re_putIfOther_37 : decode b_Re_putIfOther 37 = .ok (.iadd, 1) := by decide +kernel
theorem d_Re_putIfOther_38 : decode b_Re_putIfOther 38 = .ok (.bipush 8, 2) := by decide +kernel
theorem d_Re_putIfOther_40 : decode b_Re_putIfOther 40 = .ok (.irem, 1) := by decide +kernel
theorem d_Re_putIfOther_41 : decode b_Re_putIfOther 41 = .ok (.lload_n 1, 1) := by decide +kernel
theorem d_Re_putIfOther_42 : decode b_Re_putIfOther 42 = .ok (.lastore, 1) := by decide +kernel
theorem d_Re_putIfOther_43 : decode b_Re_putIfOther 43 = .ok (.aload_n 0, 1) := by decide +kernel
theorem d_Re_putIfOther_44 : decode b_Re_putIfOther 44 = .ok (.dup, 1) := by decide +kernel
theorem d_Re_putIfOther_45 : decode b_Re_putIfOther 45 = .ok (.getfield 19, 3) := by decide +kernel
theorem d_Re_putIfOther_48 : decode b_Re_putIfOther 48 = .ok (.iconst 1, 1) := by decide +kernel
theorem d_Re_putIfOther_49 : decode b_Re_putIfOther 49 = .ok (.iadd, 1) := by decide +kernel
theorem d_Re_putIfOther_50 : decode b_Re_putIfOther 50 = .ok (.putfield 19, 3) := by decide +kernel
theorem d_Re_putIfOther_53 : decode b_Re_putIfOther 53 = .ok (.aload_n 0, 1) := by decide +kernel
theorem d_Re_putIfOther_54 : decode b_Re_putIfOther 54 = .ok (.lload_n 1, 1) := by decide +kernel
theorem d_Re_putIfOther_55 : decode b_Re_putIfOther 55 = .ok (.putfield 46, 3) := by decide +kernel
theorem d_Re_putIfOther_58 : decode b_Re_putIfOther 58 = .ok (.return_, 1) := by decide +kernel
theorem d_Re_packed_0 : decode b_Re_packed 0 = .ok (.lconst 0, 1) := by decide +kernel
theorem d_Re_packed_1 : decode b_Re_packed 1 = .ok (.lstore_n 1, 1) := by decide +kernel
theorem d_Re_packed_2 : decode b_Re_packed 2 = .ok (.iconst 0, 1) := by decide +kernel
theorem d_Re_packed_3 : decode b_Re_packed 3 = .ok (.istore_n 3, 1) := by decide +kernel
theorem d_Re_packed_4 : decode b_Re_packed 4 = .ok (.iload_n 3, 1) := by decide +kernel
theorem d_Re_packed_5 : decode b_Re_packed 5 = .ok (.bipush 8, 2) := by decide +kernel
theorem d_Re_packed_7 : decode b_Re_packed 7 = .ok (.if_icmp .ge 27, 3) := by decide +kernel
theorem d_Re_packed_10 : decode b_Re_packed 10 = .ok (.aload_n 0, 1) := by decide +kernel
theorem d_Re_packed_11 : decode b_Re_packed 11 = .ok (.getfield 9, 3) := by decide +kernel
theorem d_Re_packed_14 : decode b_Re_packed 14 = .ok (.bipush 100, 2) := by decide +kernel
theorem d_Re_packed_16 : decode b_Re_packed 16 = .ok (.iload_n 3, 1) := by decide +kernel
theorem d_Re_packed_17 : decode b_Re_packed 17 = .ok (.iadd, 1) := by decide +kernel
theorem d_Re_packed_18 : decode b_Re_packed 18 = .ok (.iaload, 1) := by decide +kernel
theorem d_Re_packed_19 : decode b_Re_packed 19 = .ok (.ifCond .le 9, 3) := by decide +kernel
theorem d_Re_packed_22 : decode b_Re_packed 22 = .ok (.lload_n 1, 1) := by decide +kernel
theorem d_Re_packed_23 : decode b_Re_packed 23 = .ok (.lconst 1, 1) := by decide +kernel
theorem d_Re_packed_24 : decode b_Re_packed 24 = .ok (.iload_n 3, 1) := by decide +kernel
theorem d_Re_packed_25 : decode b_Re_packed 25 = .ok (.lshl, 1) := by decide +kernel
theorem d_Re_packed_26 : decode b_Re_packed 26 = .ok (.lor, 1) := by decide +kernel
theorem d_Re_packed_27 : decode b_Re_packed 27 = .ok (.lstore_n 1, 1) := by decide +kernel
theorem d_Re_packed_28 : decode b_Re_packed 28 = .ok (.iinc 3 1, 3) := by decide +kernel
theorem d_Re_packed_31 : decode b_Re_packed 31 = .ok (.goto (-27), 3) := by decide +kernel
theorem d_Re_packed_34 : decode b_Re_packed 34 = .ok (.lconst 0, 1) := by decide +kernel
theorem d_Re_packed_35 : decode b_Re_packed 35 = .ok (.lstore_n 3, 1) := by decide +kernel
theorem d_Re_packed_36 : decode b_Re_packed 36 = .ok (.lconst 0, 1) := by decide +kernel
theorem d_Re_packed_37 : decode b_Re_packed 37 = .ok (.lstore 5, 2) := by decide +kernel
theorem d_Re_packed_39 : decode b_Re_packed 39 = .ok (.iconst 0, 1) := by decide +kernel
theorem d_Re_packed_40 : decode b_Re_packed 40 = .ok (.istore 7, 2) := by decide +kernel
theorem d_Re_packed_42 : decode b_Re_packed 42 = .ok (.iconst 4, 1) := by decide +kernel
theorem d_Re_packed_43 : decode b_Re_packed 43 = .ok (.istore 8, 2) := by decide +kernel
theorem d_Re_packed_45 : decode b_Re_packed 45 = .ok (.iload 8, 2) := by decide +kernel
theorem d_Re_packed_47 : decode b_Re_packed 47 = .ok (.bipush 100, 2) := by decide +kernel
theorem d_Re_packed_49 : decode b_Re_packed 49 = .ok (.if_icmp .ge 68, 3) := by decide +kernel
theorem d_Re_packed_52 : decode b_Re_packed 52 = .ok (.iload 7, 2) := by decide +kernel
theorem d_Re_packed_54 : decode b_Re_packed 54 = .ok (.bipush 6, 2) := by decide +kernel
theorem d_Re_packed_56 : decode b_Re_packed 56 = .ok (.if_icmp .gt 61, 3) := by decide +kernel
theorem d_Re_packed_59 : decode b_Re_packed 59 = .ok (.aload_n 0, 1) := by decide +kernel
theorem d_Re_packed_60 : decode b_Re_packed 60 = .ok (.getfield 9, 3) := by decide +kernel
theorem d_Re_packed_63 : decode b_Re_packed 63 = .ok (.iload 8, 2) := by decide +kernel
theorem d_Re_packed_65 : decode b_Re_packed 65 = .ok (.iaload, 1) := by decide +kernel
theorem d_Re_packed_66 : decode b_Re_packed 66 = .ok (.ifCond .le 45, 3) := by decide +kernel
theorem d_Re_packed_69 : decode b_Re_packed 69 = .ok (.bipush 8, 2) := by decide +kernel
theorem d_Re_packed_71 : decode b_Re_packed 71 = .ok (.bipush 7, 2) := by decide +kernel
theorem d_Re_packed_73 : decode b_Re_packed 73 = .ok (.iload 7, 2) := by decide +kernel
theorem d_Re_packed_75 : decode b_Re_packed 75 = .ok (.imul, 1) := by decide +kernel
theorem d_Re_packed_76 : decode b_Re_packed 76 = .ok (.iadd, 1) := by decide +kernel
theorem d_Re_packed_77 : decode b_Re_packed 77 = .ok (.istore 9, 2) := by decide +kernel
theorem d_Re_packed_79 : decode b_Re_packed 79 = .ok (.lload_n 3, 1) := by decide +kernel
theorem d_Re_packed_80 : decode b_Re_packed 80 = .ok (.iload 8, 2) := by decide +kernel
theorem d_Re_packed_82 : decode b_Re_packed 82 = .ok (.i2l, 1) := by decide +kernel
theorem d_Re_packed_83 : decode b_Re_packed 83 = .ok (.iload 9, 2) := by decide +kernel
theorem d_Re_packed_85 : decode b_Re_packed 85 = .ok (.lshl, 1) := by decide +kernel
theorem d_Re_packed_86 : decode b_Re_packed 86 = .ok (.lor, 1) := by decide +kernel
theorem d_Re_packed_87 : decode b_Re_packed 87 = .ok (.lstore_n 3, 1) := by decide +kernel
theorem d_Re_packed_88 : decode b_Re_packed 88 = .ok (.lload 5, 2) := by decide +kernel
theorem d_Re_packed_90 : decode b_Re_packed 90 = .ok (.iload 7, 2) := by decide +kernel
theorem d_Re_packed_92 : decode b_Re_packed 92 = .ok (.bipush 6, 2) := by decide +kernel
theorem d_Re_packed_94 : decode b_Re_packed 94 = .ok (.if_icmp .ge 10, 3) := by decide +kernel
theorem d_Re_packed_97 : decode b_Re_packed 97 = .ok (.lconst 1, 1) := by decide +kernel
theorem d_Re_packed_98 : decode b_Re_packed 98 = .ok (.iload 9, 2) := by decide +kernel
theorem d_Re_packed_100 : decode b_Re_packed 100 = .ok (.lshl, 1) := by decide +kernel
theorem d_Re_packed_101 : decode b_Re_packed 101 = .ok (.goto 4, 3) := by decide +kernel
theorem d_Re_packed_104 : decode b_Re_packed 104 = .ok (.lconst 0, 1) := by decide +kernel
theorem d_Re_packed_105 : decode b_Re_packed 105 = .ok (.lor, 1) := by decide +kernel
theorem d_Re_packed_106 : decode b_Re_packed 106 = .ok (.lstore 5, 2) := by decide +kernel
theorem d_Re_packed_108 : decode b_Re_packed 108 = .ok (.iinc 7 1, 3) := by decide +kernel
theorem d_Re_packed_111 : decode b_Re_packed 111 = .ok (.iinc 8 1, 3) := by decide +kernel
theorem d_Re_packed_114 : decode b_Re_packed 114 = .ok (.goto (-69), 3) := by decide +kernel
theorem d_Re_packed_117 : decode b_Re_packed 117 = .ok (.lload_n 1, 1) := by decide +kernel
theorem d_Re_packed_118 : decode b_Re_packed 118 = .ok (.iload 7, 2) := by decide +kernel
theorem d_Re_packed_120 : decode b_Re_packed 120 = .ok (.bipush 6, 2) := by decide +kernel
theorem d_Re_packed_122 : decode b_Re_packed 122 = .ok (.if_icmp .le 8, 3) := by decide +kernel
theorem d_Re_packed_125 : decode b_Re_packed 125 = .ok (.lload 5, 2) := by decide +kernel
theorem d_Re_packed_127 : decode b_Re_packed 127 = .ok (.goto 4, 3) := by decide +kernel
theorem d_Re_packed_130 : decode b_Re_packed 130 = .ok (.lload_n 3, 1) := by decide +kernel
theorem d_Re_packed_131 : decode b_Re_packed 131 = .ok (.lor, 1) := by decide +kernel
theorem d_Re_packed_132 : decode b_Re_packed 132 = .ok (.lreturn, 1) := by decide +kernel
theorem d_Ji_bitCount_0 : decode b_Ji_bitCount 0 = .ok (.iload_n 0, 1) := by decide +kernel
theorem d_Ji_bitCount_1 : decode b_Ji_bitCount 1 = .ok (.iload_n 0, 1) := by decide +kernel
theorem d_Ji_bitCount_2 : decode b_Ji_bitCount 2 = .ok (.iconst 1, 1) := by decide +kernel
theorem d_Ji_bitCount_3 : decode b_Ji_bitCount 3 = .ok (.iushr, 1) := by decide +kernel
theorem d_Ji_bitCount_4 : decode b_Ji_bitCount 4 = .ok (.ldc_w 265, 3) := by decide +kernel
theorem d_Ji_bitCount_7 : decode b_Ji_bitCount 7 = .ok (.iand, 1) := by decide +kernel
theorem d_Ji_bitCount_8 : decode b_Ji_bitCount 8 = .ok (.isub, 1) := by decide +kernel
theorem d_Ji_bitCount_9 : decode b_Ji_bitCount 9 = .ok (.istore_n 0, 1) := by decide +kernel
theorem d_Ji_bitCount_10 : decode b_Ji_bitCount 10 = .ok (.iload_n 0, 1) := by decide +kernel
theorem d_Ji_bitCount_11 : decode b_Ji_bitCount 11 = .ok (.ldc_w 266, 3) := by decide +kernel
theorem d_Ji_bitCount_14 : decode b_Ji_bitCount 14 = .ok (.iand, 1) := by decide +kernel
theorem d_Ji_bitCount_15 : decode b_Ji_bitCount 15 = .ok (.iload_n 0, 1) := by decide +kernel
theorem d_Ji_bitCount_16 : decode b_Ji_bitCount 16 = .ok (.iconst 2, 1) := by decide +kernel
theorem d_Ji_bitCount_17 : decode b_Ji_bitCount 17 = .ok (.iushr, 1) := by decide +kernel
theorem d_Ji_bitCount_18 : decode b_Ji_bitCount 18 = .ok (.ldc_w 266, 3) := by decide +kernel
theorem d_Ji_bitCount_21 : decode b_Ji_bitCount 21 = .ok (.iand, 1) := by decide +kernel
theorem d_Ji_bitCount_22 : decode b_Ji_bitCount 22 = .ok (.iadd, 1) := by decide +kernel
theorem d_Ji_bitCount_23 : decode b_Ji_bitCount 23 = .ok (.istore_n 0, 1) := by decide +kernel
theorem d_Ji_bitCount_24 : decode b_Ji_bitCount 24 = .ok (.iload_n 0, 1) := by decide +kernel
theorem d_Ji_bitCount_25 : decode b_Ji_bitCount 25 = .ok (.iload_n 0, 1) := by decide +kernel
theorem d_Ji_bitCount_26 : decode b_Ji_bitCount 26 = .ok (.iconst 4, 1) := by decide +kernel
theorem d_Ji_bitCount_27 : decode b_Ji_bitCount 27 = .ok (.iushr, 1) := by decide +kernel
theorem d_Ji_bitCount_28 : decode b_Ji_bitCount 28 = .ok (.iadd, 1) := by decide +kernel
theorem d_Ji_bitCount_29 : decode b_Ji_bitCount 29 = .ok (.ldc_w 267, 3) := by decide +kernel
theorem d_Ji_bitCount_32 : decode b_Ji_bitCount 32 = .ok (.iand, 1) := by decide +kernel
theorem d_Ji_bitCount_33 : decode b_Ji_bitCount 33 = .ok (.istore_n 0, 1) := by decide +kernel
theorem d_Ji_bitCount_34 : decode b_Ji_bitCount 34 = .ok (.iload_n 0, 1) := by decide +kernel
theorem d_Ji_bitCount_35 : decode b_Ji_bitCount 35 = .ok (.iload_n 0, 1) := by decide +kernel
theorem d_Ji_bitCount_36 : decode b_Ji_bitCount 36 = .ok (.bipush 8, 2) := by decide +kernel
theorem d_Ji_bitCount_38 : decode b_Ji_bitCount 38 = .ok (.iushr, 1) := by decide +kernel
theorem d_Ji_bitCount_39 : decode b_Ji_bitCount 39 = .ok (.iadd, 1) := by decide +kernel
theorem d_Ji_bitCount_40 : decode b_Ji_bitCount 40 = .ok (.istore_n 0, 1) := by decide +kernel
theorem d_Ji_bitCount_41 : decode b_Ji_bitCount 41 = .ok (.iload_n 0, 1) := by decide +kernel
theorem d_Ji_bitCount_42 : decode b_Ji_bitCount 42 = .ok (.iload_n 0, 1) := by decide +kernel
theorem d_Ji_bitCount_43 : decode b_Ji_bitCount 43 = .ok (.bipush 16, 2) := by decide +kernel
theorem d_Ji_bitCount_45 : decode b_Ji_bitCount 45 = .ok (.iushr, 1) := by decide +kernel
theorem d_Ji_bitCount_46 : decode b_Ji_bitCount 46 = .ok (.iadd, 1) := by decide +kernel
theorem d_Ji_bitCount_47 : decode b_Ji_bitCount 47 = .ok (.istore_n 0, 1) := by decide +kernel
theorem d_Ji_bitCount_48 : decode b_Ji_bitCount 48 = .ok (.iload_n 0, 1) := by decide +kernel
theorem d_Ji_bitCount_49 : decode b_Ji_bitCount 49 = .ok (.bipush 63, 2) := by decide +kernel
theorem d_Ji_bitCount_51 : decode b_Ji_bitCount 51 = .ok (.iand, 1) := by decide +kernel
theorem d_Ji_bitCount_52 : decode b_Ji_bitCount 52 = .ok (.ireturn, 1) := by decide +kernel
end
section
/-! Part 02: the words of the walk: states as tables of contents, worlds, entry and end of a method, calls -/
abbrev GS : Type := (Nat → Nat → Int32) × (Nat → Nat → Int64)
def gI (S : GS) (k : Nat) (f : Nat → Int32) : GS := (fun j => if j = k then f else S.1 j, S.2)
def gL (S : GS) (k : Nat) (f : Nat → Int64) : GS := (S.1, fun j => if j = k then f else S.2 j)
abbrev tys (cI cZ cJ : ClassId) : List (ClassId × FieldType) := [(cI, .int), (cZ, .boolean), (cJ, .long)]
def wf (D : va_G) (A : Nat → Prop) (H0 : Heap) (ws : va_W) (H : Heap) (locs : List Loc) : Prop := va_P D vwCl ws H ∧ va_D A ws ∧ va_S A H0 H locs
/-- a start: the world is there -/
def gPre (D : va_G) (ty : List (ClassId × FieldType)) (ws : va_W) (sz : Nat) (U : State) : Prop := U.heap.size = sz ∧ va_P D vwCl ws U.heap ∧ va_K D vwCl ty U ∧ va_D (fun _ => True) ws
def rPre (D : va_G) (ty : List (ClassId × FieldType)) (ws : va_W) (U : State) : Prop := va_P D vwCl ws U.heap ∧ va_K D vwCl ty U
def gB {σ : Type} (D : va_G) (ty : List (ClassId × FieldType)) (Wf : σ → va_W) (A : Nat → Prop) (u : σ) (t : State) : Prop := va_P D vwCl (Wf u) t.heap ∧ va_K D vwCl ty t ∧ va_D A (Wf u)
theorem g_blind {D : va_G} {ty : List (ClassId × FieldType)} {ws : va_W} {sz : Nat} {av : List Value} : FrameBlind (va_Pc av (gPre D ty ws sz)) := fun a U g mk q => by
  obtain ⟨q0, q1, qP, qK, qD⟩ := q
  exact ⟨q0, q1, qP, va_K.moved (u := U) (U := U.calling g mk a) (Vm.Alike.refl U.vm) qK, qD⟩
theorem r_blind {D : va_G} {ty : List (ClassId × FieldType)} {ws : va_W} {av : List Value} : FrameBlind (va_Pc av (rPre D ty ws)) := fun a U g mk q => by
  obtain ⟨q0, qP, qK⟩ := q
  exact ⟨q0, qP, va_K.moved (u := U) (U := U.calling g mk a) (Vm.Alike.refl U.vm) qK⟩
theorem p_blind {av : List Value} : FrameBlind (va_Pc av (fun _ => True)) := fun _ _ _ _ q => q
section G1
variable {D : va_G} {ty : List (ClassId × FieldType)} {ws : va_W} {s : State} {H : Heap} {A : Nat → Prop} {locs : List Loc} {H0 : Heap}
theorem g_preV {b : Nat} {As : List Value} {q0 ci : Nat} {q : vw_C} {fs : List Value} (hK : va_K D vwCl ty s) (hw : wf D A H0 ws H locs) (hc : vwCl[ci]? = some q) (he : ws[q0]? = some (b, .inr (ci, fs))) : PreV s H q.1 b (va_Pc (.ref b :: As) (gPre D ty ws H.size)) As :=
  ⟨g_blind, va_recv hK hw.1 hc he, fun U hU hW => ⟨rfl, by rw [hU], by rw [hU]; exact hw.1, va_K.moved hW.alike hK, hw.2.1.weaken (fun _ _ _ _ => trivial)⟩⟩
theorem r_preV {b : Nat} {As : List Value} {q0 ci : Nat} {q : vw_C} {fs : List Value} (hK : va_K D vwCl ty s) (hP : va_P D vwCl ws H) (hc : vwCl[ci]? = some q) (he : ws[q0]? = some (b, .inr (ci, fs))) : PreV s H q.1 b (va_Pc (.ref b :: As) (rPre D ty ws)) As :=
  ⟨r_blind, va_recv hK hP hc he, fun U hU hW => ⟨rfl, by rw [hU]; exact hP, va_K.moved hW.alike hK⟩⟩
theorem g_preS {As : List Value} (hK : va_K D vwCl ty s) (hw : wf D A H0 ws H locs) : PreS s H (va_Pc As (gPre D ty ws H.size)) As :=
  ⟨g_blind, fun U hU hW => ⟨rfl, by rw [hU], by rw [hU]; exact hw.1, va_K.moved hW.alike hK, hw.2.1.weaken (fun _ _ _ _ => trivial)⟩⟩
theorem r_preS {As : List Value} (hK : va_K D vwCl ty s) (hP : va_P D vwCl ws H) : PreS s H (va_Pc As (rPre D ty ws)) As :=
  ⟨r_blind, fun U hU hW => ⟨rfl, by rw [hU]; exact hP, va_K.moved hW.alike hK⟩⟩
theorem p_preS {As : List Value} : PreS s H (va_Pc As (fun _ => True)) As := ⟨p_blind, fun _ _ _ => ⟨rfl, trivial⟩⟩
theorem p_preV {b : Nat} {As : List Value} {q0 ci : Nat} {q : vw_C} {fs : List Value} (hK : va_K D vwCl ty s) (hP : va_P D vwCl ws H) (hc : vwCl[ci]? = some q) (he : ws[q0]? = some (b, .inr (ci, fs))) : PreV s H q.1 b (va_Pc (.ref b :: As) (fun _ => True)) As :=
  ⟨p_blind, va_recv hK hP hc he, fun _ _ _ => ⟨rfl, trivial⟩⟩
end G1
section G2
variable {l : Launch} {y : MethodName} {w w' : List Cond} {rm : Room} {cc : ByteArray} {maxL : Nat} {ret : Option FieldType} {D : va_G} {ty : List (ClassId × FieldType)} {ws : va_W} {av : List Value}
/-- a method's entry, a writer: the world, the locals, and any end -/
theorem gm_w {QF : (Nat → Prop) → Array Value → State → Outcome → State → Prop} {mc ms sz : Nat} (hy : plainName y.cls = true) (hw : w = Cond.code y cc maxL ret :: w') (hav : (lg_sl av).length ≤ maxL)
    (body : ∀ (p : Program) (e : Env) (s : State) (m : MethodId) (args : Array Value) (below : List Frame) (meth : Method) (c : Code) (A : Nat → Prop) (ls : Array Slot), p.tables.exec = Jvm.exec → c.code = cc → meth.sig.returnType = ret → (∀ x ∈ w, x.before args s = true) → s.vm.findClass y.cls = some m.cls → meth.name = y.name → meth.locks = false → c.maxLocals = maxL → va_K D vwCl ty s → (∀ q, s.heap.size ≤ q → A q) → wf D A s.heap ws s.heap [] → lv_has ls maxL (lv_args 0 av) →
      W p l e rm s m args below meth c s.heap [] 0 0 (MQ below (QF A) args s mc ms A) (F0 m 0 ls [])) :
    Met l y w rm (va_Pc av (gPre D ty ws sz)) (QF (va_A ws sz)) mc ms (va_A ws sz) := by
  refine Met.ofW (cc := cc) (maxL := maxL) (ret := ret) hy hw ?_
  intro p e s m args below meth c s₁ B hml hv
  obtain ⟨rfl, hsz, hP, hK, hD0⟩ := hv
  subst hsz
  have hl := lv_entry av (n := maxL) hav
  rw [lg_entry_eq]
  exact body p e s m _ below meth c (va_A ws s.heap.size) _ B.exec B.bytes B.returns (atoms_spec (ws := w) B.pre) (findClass_of_methodNamed B.named) (name_of_methodNamed B.named B.method).1 B.notSynchronized hml hK (fun q h => Or.inr h) ⟨hP, hD0.self, va_S.rf⟩ hl
theorem gm_r {Qc : Array Value → State → Outcome → State → Prop} (hy : plainName y.cls = true) (hw : w = Cond.code y cc maxL ret :: w') (hav : (lg_sl av).length ≤ maxL)
    (body : ∀ (p : Program) (e : Env) (s : State) (m : MethodId) (args : Array Value) (below : List Frame) (meth : Method) (c : Code) (ls : Array Slot), p.tables.exec = Jvm.exec → c.code = cc → meth.sig.returnType = ret → (∀ x ∈ w, x.before args s = true) → s.vm.findClass y.cls = some m.cls → meth.locks = false → c.maxLocals = maxL → va_K D vwCl ty s → va_P D vwCl ws s.heap → lv_has ls maxL (lv_args 0 av) →
      W p l e rm s m args below meth c s.heap [] 0 0 (MQ below Qc args s 0 0 (fun _ => False)) (F0 m 0 ls [])) :
    Met l y w rm (va_Pc av (rPre D ty ws)) Qc 0 0 (fun _ => False) := by
  refine Met.ofW (cc := cc) (maxL := maxL) (ret := ret) hy hw ?_
  intro p e s m args below meth c s₁ B hml hv
  obtain ⟨rfl, hP, hK⟩ := hv
  have hl := lv_entry av (n := maxL) hav
  rw [lg_entry_eq]
  exact body p e s m _ below meth c _ B.exec B.bytes B.returns (atoms_spec (ws := w) B.pre) (findClass_of_methodNamed B.named) B.notSynchronized hml hK hP hl
theorem gm_p {Qc : Array Value → State → Outcome → State → Prop} (hy : plainFor y = true) (hw : w = Cond.code y cc maxL ret :: w') (hav : (lg_sl av).length ≤ maxL)
    (body : ∀ (p : Program) (e : Env) (s : State) (m : MethodId) (args : Array Value) (below : List Frame) (meth : Method) (c : Code) (ls : Array Slot), p.tables.exec = Jvm.exec → c.code = cc → meth.sig.returnType = ret → (∀ x ∈ w, x.before args s = true) → s.vm.findClass y.cls = some m.cls → meth.locks = false → c.maxLocals = maxL → lv_has ls maxL (lv_args 0 av) →
      W p l e rm s m args below meth c s.heap [] 0 0 (MQ below Qc args s 0 0 (fun _ => False)) (F0 m 0 ls [])) :
    Met l y w rm (va_Pc av (fun _ => True)) Qc 0 0 (fun _ => False) := by
  refine va_MetF (cc := cc) (maxL := maxL) (ret := ret) hy hw ?_
  intro p e s m args below meth c s₁ B hml hv
  obtain ⟨rfl, -⟩ := hv
  have hl := lv_entry av (n := maxL) hav
  rw [lg_entry_eq]
  exact body p e s m _ below meth c _ B.exec B.bytes B.returns (atoms_spec (ws := w) B.pre) (findClass_of_methodNamed B.named) B.notSynchronized hml hl
end G2
section G3
variable {p : Program} {l : Launch} {e : Env} {R : Room} {s : State} {m : MethodId} {args : Array Value} {below : List Frame} {meth : Method} {c : Code} {H : Heap} {locs : List Loc} {cells slots : Nat} {Q : State → Prop}
variable {cc : ByteArray} {pc : Nat} {ls : Array Slot} {rest st0 : List Value} {D : va_G} {A : Nat → Prop} {ty : List (ClassId × FieldType)} {ws : va_W} {av : Array Value}
-- ends
theorem gr_v {σ : Type} {Wf : σ → va_W} {post : σ → Prop} (hx : p.tables.exec = Jvm.exec) (hb : c.code = cc) (hr : meth.sig.returnType = none) (hlk : meth.locks = false) (hK : va_K D vwCl ty s) (u : σ) (hw : wf D A s.heap (Wf u) H locs) (hp : post u) (hd : decode cc pc = .ok (.return_, 1)) :
    W p l e R s m args below meth c H locs cells slots (MQ below (va_Qv post (gB D ty Wf A) A) args s cells slots A) (F0 m pc ls []) :=
  W.vret hx hb hr (fun t ht hW => ⟨⟨u, rfl, hp, by rw [ht]; exact hw.1, va_K.moved hW.alike hK, hw.2.1⟩, hw.2.2.F ht⟩) hw.2.2.2.2 hd hlk
theorem gr_i {σ : Type} {Wf : σ → va_W} {post : Int32 → σ → Prop} {v : Int32} (hx : p.tables.exec = Jvm.exec) (hb : c.code = cc) (hr : meth.sig.returnType = some .int) (hlk : meth.locks = false) (hK : va_K D vwCl ty s) (u : σ) (hw : wf D A s.heap (Wf u) H locs) (hp : post v u) (hd : decode cc pc = .ok (.ireturn, 1)) :
    W p l e R s m args below meth c H locs cells slots (MQ below (va_Qi post (gB D ty Wf A) A) args s cells slots A) (F0 m pc ls [.int v]) :=
  W.iret hx hb hr (fun t ht hW => ⟨⟨v, u, rfl, hp, by rw [ht]; exact hw.1, va_K.moved hW.alike hK, hw.2.1⟩, hw.2.2.F ht⟩) hw.2.2.2.2 hd hlk
theorem gr_z {σ : Type} {Wf : σ → va_W} {post : Int32 → σ → Prop} {v : Int32} (hx : p.tables.exec = Jvm.exec) (hb : c.code = cc) (hr : meth.sig.returnType = some .boolean) (hlk : meth.locks = false) (hK : va_K D vwCl ty s) (u : σ) (hw : wf D A s.heap (Wf u) H locs) (hn : narrow .boolean (.int v) = .int v) (hp : post v u) (hd : decode cc pc = .ok (.ireturn, 1)) :
    W p l e R s m args below meth c H locs cells slots (MQ below (va_Qi post (gB D ty Wf A) A) args s cells slots A) (F0 m pc ls [.int v]) :=
  W.zret hx hb hr hn (fun t ht hW => ⟨⟨v, u, rfl, hp, by rw [ht]; exact hw.1, va_K.moved hW.alike hK, hw.2.1⟩, hw.2.2.F ht⟩) hw.2.2.2.2 hd hlk
theorem rr_i {post : Int32 → Prop} {v : Int32} (hx : p.tables.exec = Jvm.exec) (hb : c.code = cc) (hr : meth.sig.returnType = some .int) (hlk : meth.locks = false) (hp : post v) (hd : decode cc pc = .ok (.ireturn, 1)) :
    W p l e R s m args below meth c s.heap [] cells slots (MQ below (vp_Si post) args s cells slots (fun _ => False)) (F0 m pc ls [.int v]) :=
  W.iret hx hb hr (fun t ht hW => ⟨v, rfl, hp, ht⟩) (fun q h => by cases h) hd hlk
theorem rr_z {post : Int32 → Prop} {v : Int32} (hx : p.tables.exec = Jvm.exec) (hb : c.code = cc) (hr : meth.sig.returnType = some .boolean) (hlk : meth.locks = false) (hn : narrow .boolean (.int v) = .int v) (hp : post v) (hd : decode cc pc = .ok (.ireturn, 1)) :
    W p l e R s m args below meth c s.heap [] cells slots (MQ below (vp_Si post) args s cells slots (fun _ => False)) (F0 m pc ls [.int v]) :=
  W.zret hx hb hr hn (fun t ht hW => ⟨v, rfl, hp, ht⟩) (fun q h => by cases h) hd hlk
theorem rr_l {post : Int64 → Prop} {v : Int64} (hx : p.tables.exec = Jvm.exec) (hb : c.code = cc) (hr : meth.sig.returnType = some .long) (hlk : meth.locks = false) (hp : post v) (hd : decode cc pc = .ok (.lreturn, 1)) :
    W p l e R s m args below meth c s.heap [] cells slots (MQ below (vp_Sl post) args s cells slots (fun _ => False)) (F0 m pc ls [.long v]) :=
  W.lret hx hb hr (fun t ht hW => ⟨v, rfl, hp, ht⟩) (fun q h => by cases h) hd hlk
theorem rr_v {post : Unit → Prop} (hx : p.tables.exec = Jvm.exec) (hb : c.code = cc) (hr : meth.sig.returnType = none) (hlk : meth.locks = false) (hp : post ()) (hd : decode cc pc = .ok (.return_, 1)) :
    W p l e R s m args below meth c s.heap [] cells slots (MQ below (va_Sv post) args s cells slots (fun _ => False)) (F0 m pc ls []) :=
  W.vret hx hb hr (fun t ht hW => ⟨rfl, hp, ht⟩) (fun q h => by cases h) hd hlk
-- behind a call that writes: the callee's world is the whole world
theorem g_after {σ : Type} {Wf : σ → va_W} {u : σ} {t : State} {H1 : Heap} {locs1 : List Loc} (hw : wf D A s.heap ws H locs) (hA : ∀ q, s.heap.size ≤ q → A q) (ht : t.heap = H1) (hB : gB D ty Wf (va_A ws H.size) u t) (hS : va_S A s.heap H1 locs1) : wf D A s.heap (Wf u) H1 locs1 := by
  refine ⟨by rw [← ht]; exact hB.1, hB.2.2.weaken (fun k q _ h => ?_), hS⟩
  rcases h with ⟨j, x, h⟩ | h
  · exact hw.2.1.2 j (q.1, x) h
  · exact hA _ (Nat.le_trans hw.2.2.1 h)
theorem g_inA (hw : wf D A s.heap ws H locs) (hA : ∀ q, s.heap.size ≤ q → A q) : ∀ q, va_A ws H.size q → A q := by
  intro q h
  rcases h with ⟨j, x, h⟩ | h
  · exact hw.2.1.2 j _ h
  · exact hA _ (Nat.le_trans hw.2.2.1 h)
theorem gc_v {σ : Type} {Wf : σ → va_W} {post : σ → Prop} (hw : wf D A s.heap ws H locs) (hA : ∀ q, s.heap.size ≤ q → A q) (hr : va_Run p l e R s m args below meth c H locs cells slots 0 0 (F0 m pc ls st0) rest (va_Qv post (gB D ty Wf (va_A ws H.size)) (va_A ws H.size) av) (va_A ws H.size))
    (kk : ∀ (u : σ) (H1 : Heap) (locs1 : List Loc), wf D A s.heap (Wf u) H1 locs1 → post u → W p l e R s m args below meth c H1 locs1 cells slots Q (F0 m (pc + 3) ls rest)) : W p l e R s m args below meth c H locs cells slots Q (F0 m pc ls st0) :=
  va_callv hr hw.2.2 (fun q _ h => g_inA hw hA q h) (g_inA hw hA) (fun u t H1 locs1 ht _ hp hB _ _ hS => kk u H1 locs1 (g_after hw hA ht hB hS) hp)
theorem gc_i {σ : Type} {Wf : σ → va_W} {post : Int32 → σ → Prop} (hw : wf D A s.heap ws H locs) (hA : ∀ q, s.heap.size ≤ q → A q) (hr : va_Run p l e R s m args below meth c H locs cells slots 0 0 (F0 m pc ls st0) rest (va_Qi post (gB D ty Wf (va_A ws H.size)) (va_A ws H.size) av) (va_A ws H.size))
    (kk : ∀ (r : Int32) (u : σ) (H1 : Heap) (locs1 : List Loc), wf D A s.heap (Wf u) H1 locs1 → post r u → W p l e R s m args below meth c H1 locs1 cells slots Q (F0 m (pc + 3) ls (.int r :: rest))) : W p l e R s m args below meth c H locs cells slots Q (F0 m pc ls st0) :=
  va_calli hr hw.2.2 (fun q _ h => g_inA hw hA q h) (g_inA hw hA) (fun r u t H1 locs1 ht _ hp hB _ _ hS => kk r u H1 locs1 (g_after hw hA ht hB hS) hp)
end G3
end
section
def gkW (cI cZ cJ : ClassId) (a : Nat → Nat) (S : GS) : va_W := [(a 0, .inr (0, [.ref (a 1), .ref (a 2), .ref (a 3), .ref (a 4), .ref (a 5), .ref (a 6), .ref (a 7), .ref (a 8), .int (S.1 0 0)])), (a 1, .inr (1, [.ref (a 9), .ref (a 10), .int (S.1 1 0), .int (S.1 2 0), .int (S.1 3 0), .int (S.1 4 0)])), (a 2, .inr (2, [.ref (a 11), .int (S.1 5 0), .int (S.1 6 0)])), (a 3, .inr (3, [.ref (a 12), .ref (a 13), .int (S.1 7 0)])), (a 4, .inr (4, [.ref (a 14), .ref (a 15), .ref (a 16), .ref (a 17)])), (a 5, .inr (5, [.ref (a 18), .ref (a 19)])), (a 6, .inr (6, [.ref (a 20), .int (S.1 8 0), .int (S.1 9 0)])), (a 7, .inr (7, [.ref (a 21), .ref (a 22)])), (a 8, .inr (8, [.ref (a 23), .ref (a 24), .int (S.1 10 0), .int (S.1 11 0), .int (S.1 12 0), .long (S.2 0 0), .long (S.2 1 0)])), (a 9, .inl (cI, 24, .inl (S.1 13))), (a 10, .inl (cI, 24, .inl (S.1 14))), (a 11, .inl (cI, 32, .inl (S.1 15))), (a 12, .inl (cI, 32, .inl (S.1 16))), (a 13, .inl (cI, 32, .inl (S.1 17))), (a 14, .inl (cI, 96, .inl (S.1 18))), (a 15, .inl (cI, 96, .inl (S.1 19))), (a 16, .inl (cI, 96, .inl (S.1 20))), (a 17, .inl (cI, 16, .inl (S.1 21))), (a 18, .inl (cI, 4, .inl (S.1 22))), (a 19, .inl (cI, 4, .inl (S.1 23))), (a 20, .inl (cI, 4, .inl (S.1 24))), (a 21, .inl (cI, 24, .inl (S.1 25))), (a 22, .inl (cI, 24, .inl (S.1 26))), (a 23, .inl (cI, 108, .inl (S.1 27))), (a 24, .inl (cJ, 8, .inr (.inl (S.2 2))))]
section
variable {p : Program} {l : Launch} {e : Env} {R : Room} {s : State} {m : MethodId} {args : Array Value} {below : List Frame} {meth : Method} {c : Code} {H : Heap} {locs : List Loc} {cells slots : Nat} {Q : State → Prop}
variable {cc : ByteArray} {pc : Nat} {ls : Array Slot} {rest : List Value} {D : va_G} {A : Nat → Prop} {H0 : Heap} {cI cZ cJ : ClassId} {a : Nat → Nat} {S : GS}
/-- GhostKeys$Matrix.bounces, read -/
theorem gk_ld9 (hx : p.tables.exec = Jvm.exec) (hb : c.code = cc) (hK : va_K D vwCl (tys cI cZ cJ) s) (hP : va_P D vwCl (gkW cI cZ cJ a S) H) {i : Int32} {v : Int32} (hin : vp_in i 24) (hv : S.1 13 i.toNatClampNeg = v) (hdg : decode cc pc = .ok (.iaload, 1))
    (kk : W p l e R s m args below meth c H locs cells slots Q (F0 m (pc + 1) ls (.int v :: rest))) : W p l e R s m args below meth c H locs cells slots Q (F0 m pc ls (.int i :: .ref (a 9) :: rest)) := by
  subst hv
  exact va_iald hx hb hK hP 9 0 rfl rfl hin hdg kk
/-- GhostKeys$Matrix.bounces, written -/
theorem gk_st9 (hx : p.tables.exec = Jvm.exec) (hb : c.code = cc) (hK : va_K D vwCl (tys cI cZ cJ) s) (hw : wf D A H0 (gkW cI cZ cJ a S) H locs) {i : Int32} {x : Int32} (hin : vp_in i 24) (hdg : decode cc pc = .ok (.iastore, 1))
    (kk : ∀ (H1 : Heap) (locs1 : List Loc), wf D A H0 (gkW cI cZ cJ a (gI S 13 (upd (S.1 13) (i).toNatClampNeg (x)))) H1 locs1 → W p l e R s m args below meth c H1 locs1 cells slots Q (F0 m (pc + 1) ls rest)) : W p l e R s m args below meth c H locs cells slots Q (F0 m pc ls (.int x :: .int i :: .ref (a 9) :: rest)) :=
  va_iast hx hb hK hw.1 hw.2.1 hw.2.2 9 0 rfl rfl hin hdg (fun H1 locs1 h1 h2 h3 => kk H1 locs1 ⟨h1, h2, h3⟩)
/-- GhostKeys$Matrix.otherwise, read -/
theorem gk_ld10 (hx : p.tables.exec = Jvm.exec) (hb : c.code = cc) (hK : va_K D vwCl (tys cI cZ cJ) s) (hP : va_P D vwCl (gkW cI cZ cJ a S) H) {i : Int32} {v : Int32} (hin : vp_in i 24) (hv : S.1 14 i.toNatClampNeg = v) (hdg : decode cc pc = .ok (.iaload, 1))
    (kk : W p l e R s m args below meth c H locs cells slots Q (F0 m (pc + 1) ls (.int v :: rest))) : W p l e R s m args below meth c H locs cells slots Q (F0 m pc ls (.int i :: .ref (a 10) :: rest)) := by
  subst hv
  exact va_iald hx hb hK hP 10 0 rfl rfl hin hdg kk
/-- GhostKeys$Matrix.otherwise, written -/
theorem gk_st10 (hx : p.tables.exec = Jvm.exec) (hb : c.code = cc) (hK : va_K D vwCl (tys cI cZ cJ) s) (hw : wf D A H0 (gkW cI cZ cJ a S) H locs) {i : Int32} {x : Int32} (hin : vp_in i 24) (hdg : decode cc pc = .ok (.iastore, 1))
    (kk : ∀ (H1 : Heap) (locs1 : List Loc), wf D A H0 (gkW cI cZ cJ a (gI S 14 (upd (S.1 14) (i).toNatClampNeg (x)))) H1 locs1 → W p l e R s m args below meth c H1 locs1 cells slots Q (F0 m (pc + 1) ls rest)) : W p l e R s m args below meth c H locs cells slots Q (F0 m pc ls (.int x :: .int i :: .ref (a 10) :: rest)) :=
  va_iast hx hb hK hw.1 hw.2.1 hw.2.2 10 0 rfl rfl hin hdg (fun H1 locs1 h1 h2 h3 => kk H1 locs1 ⟨h1, h2, h3⟩)
/-- GhostKeys$History.events, read -/
theorem gk_ld11 (hx : p.tables.exec = Jvm.exec) (hb : c.code = cc) (hK : va_K D vwCl (tys cI cZ cJ) s) (hP : va_P D vwCl (gkW cI cZ cJ a S) H) {i : Int32} {v : Int32} (hin : vp_in i 32) (hv : S.1 15 i.toNatClampNeg = v) (hdg : decode cc pc = .ok (.iaload, 1))
    (kk : W p l e R s m args below meth c H locs cells slots Q (F0 m (pc + 1) ls (.int v :: rest))) : W p l e R s m args below meth c H locs cells slots Q (F0 m pc ls (.int i :: .ref (a 11) :: rest)) := by
  subst hv
  exact va_iald hx hb hK hP 11 0 rfl rfl hin hdg kk
/-- GhostKeys$History.events, written -/
theorem gk_st11 (hx : p.tables.exec = Jvm.exec) (hb : c.code = cc) (hK : va_K D vwCl (tys cI cZ cJ) s) (hw : wf D A H0 (gkW cI cZ cJ a S) H locs) {i : Int32} {x : Int32} (hin : vp_in i 32) (hdg : decode cc pc = .ok (.iastore, 1))
    (kk : ∀ (H1 : Heap) (locs1 : List Loc), wf D A H0 (gkW cI cZ cJ a (gI S 15 (upd (S.1 15) (i).toNatClampNeg (x)))) H1 locs1 → W p l e R s m args below meth c H1 locs1 cells slots Q (F0 m (pc + 1) ls rest)) : W p l e R s m args below meth c H locs cells slots Q (F0 m pc ls (.int x :: .int i :: .ref (a 11) :: rest)) :=
  va_iast hx hb hK hw.1 hw.2.1 hw.2.2 11 0 rfl rfl hin hdg (fun H1 locs1 h1 h2 h3 => kk H1 locs1 ⟨h1, h2, h3⟩)
/-- GhostKeys$EventQueue.events, read -/
theorem gk_ld12 (hx : p.tables.exec = Jvm.exec) (hb : c.code = cc) (hK : va_K D vwCl (tys cI cZ cJ) s) (hP : va_P D vwCl (gkW cI cZ cJ a S) H) {i : Int32} {v : Int32} (hin : vp_in i 32) (hv : S.1 16 i.toNatClampNeg = v) (hdg : decode cc pc = .ok (.iaload, 1))
    (kk : W p l e R s m args below meth c H locs cells slots Q (F0 m (pc + 1) ls (.int v :: rest))) : W p l e R s m args below meth c H locs cells slots Q (F0 m pc ls (.int i :: .ref (a 12) :: rest)) := by
  subst hv
  exact va_iald hx hb hK hP 12 0 rfl rfl hin hdg kk
/-- GhostKeys$EventQueue.events, written -/
theorem gk_st12 (hx : p.tables.exec = Jvm.exec) (hb : c.code = cc) (hK : va_K D vwCl (tys cI cZ cJ) s) (hw : wf D A H0 (gkW cI cZ cJ a S) H locs) {i : Int32} {x : Int32} (hin : vp_in i 32) (hdg : decode cc pc = .ok (.iastore, 1))
    (kk : ∀ (H1 : Heap) (locs1 : List Loc), wf D A H0 (gkW cI cZ cJ a (gI S 16 (upd (S.1 16) (i).toNatClampNeg (x)))) H1 locs1 → W p l e R s m args below meth c H1 locs1 cells slots Q (F0 m (pc + 1) ls rest)) : W p l e R s m args below meth c H locs cells slots Q (F0 m pc ls (.int x :: .int i :: .ref (a 12) :: rest)) :=
  va_iast hx hb hK hw.1 hw.2.1 hw.2.2 12 0 rfl rfl hin hdg (fun H1 locs1 h1 h2 h3 => kk H1 locs1 ⟨h1, h2, h3⟩)
/-- GhostKeys$EventQueue.scanOf, read -/
theorem gk_ld13 (hx : p.tables.exec = Jvm.exec) (hb : c.code = cc) (hK : va_K D vwCl (tys cI cZ cJ) s) (hP : va_P D vwCl (gkW cI cZ cJ a S) H) {i : Int32} {v : Int32} (hin : vp_in i 32) (hv : S.1 17 i.toNatClampNeg = v) (hdg : decode cc pc = .ok (.iaload, 1))
    (kk : W p l e R s m args below meth c H locs cells slots Q (F0 m (pc + 1) ls (.int v :: rest))) : W p l e R s m args below meth c H locs cells slots Q (F0 m pc ls (.int i :: .ref (a 13) :: rest)) := by
  subst hv
  exact va_iald hx hb hK hP 13 0 rfl rfl hin hdg kk
/-- GhostKeys$EventQueue.scanOf, written -/
theorem gk_st13 (hx : p.tables.exec = Jvm.exec) (hb : c.code = cc) (hK : va_K D vwCl (tys cI cZ cJ) s) (hw : wf D A H0 (gkW cI cZ cJ a S) H locs) {i : Int32} {x : Int32} (hin : vp_in i 32) (hdg : decode cc pc = .ok (.iastore, 1))
    (kk : ∀ (H1 : Heap) (locs1 : List Loc), wf D A H0 (gkW cI cZ cJ a (gI S 17 (upd (S.1 17) (i).toNatClampNeg (x)))) H1 locs1 → W p l e R s m args below meth c H1 locs1 cells slots Q (F0 m (pc + 1) ls rest)) : W p l e R s m args below meth c H locs cells slots Q (F0 m pc ls (.int x :: .int i :: .ref (a 13) :: rest)) :=
  va_iast hx hb hK hw.1 hw.2.1 hw.2.2 13 0 rfl rfl hin hdg (fun H1 locs1 h1 h2 h3 => kk H1 locs1 ⟨h1, h2, h3⟩)
/-- GhostKeys$Keymap.kinds, read -/
theorem gk_ld14 (hx : p.tables.exec = Jvm.exec) (hb : c.code = cc) (hK : va_K D vwCl (tys cI cZ cJ) s) (hP : va_P D vwCl (gkW cI cZ cJ a S) H) {i : Int32} {v : Int32} (hin : vp_in i 96) (hv : S.1 18 i.toNatClampNeg = v) (hdg : decode cc pc = .ok (.iaload, 1))
    (kk : W p l e R s m args below meth c H locs cells slots Q (F0 m (pc + 1) ls (.int v :: rest))) : W p l e R s m args below meth c H locs cells slots Q (F0 m pc ls (.int i :: .ref (a 14) :: rest)) := by
  subst hv
  exact va_iald hx hb hK hP 14 0 rfl rfl hin hdg kk
/-- GhostKeys$Keymap.kinds, written -/
theorem gk_st14 (hx : p.tables.exec = Jvm.exec) (hb : c.code = cc) (hK : va_K D vwCl (tys cI cZ cJ) s) (hw : wf D A H0 (gkW cI cZ cJ a S) H locs) {i : Int32} {x : Int32} (hin : vp_in i 96) (hdg : decode cc pc = .ok (.iastore, 1))
    (kk : ∀ (H1 : Heap) (locs1 : List Loc), wf D A H0 (gkW cI cZ cJ a (gI S 18 (upd (S.1 18) (i).toNatClampNeg (x)))) H1 locs1 → W p l e R s m args below meth c H1 locs1 cells slots Q (F0 m (pc + 1) ls rest)) : W p l e R s m args below meth c H locs cells slots Q (F0 m pc ls (.int x :: .int i :: .ref (a 14) :: rest)) :=
  va_iast hx hb hK hw.1 hw.2.1 hw.2.2 14 0 rfl rfl hin hdg (fun H1 locs1 h1 h2 h3 => kk H1 locs1 ⟨h1, h2, h3⟩)
/-- GhostKeys$Keymap.firsts, read -/
theorem gk_ld15 (hx : p.tables.exec = Jvm.exec) (hb : c.code = cc) (hK : va_K D vwCl (tys cI cZ cJ) s) (hP : va_P D vwCl (gkW cI cZ cJ a S) H) {i : Int32} {v : Int32} (hin : vp_in i 96) (hv : S.1 19 i.toNatClampNeg = v) (hdg : decode cc pc = .ok (.iaload, 1))
    (kk : W p l e R s m args below meth c H locs cells slots Q (F0 m (pc + 1) ls (.int v :: rest))) : W p l e R s m args below meth c H locs cells slots Q (F0 m pc ls (.int i :: .ref (a 15) :: rest)) := by
  subst hv
  exact va_iald hx hb hK hP 15 0 rfl rfl hin hdg kk
/-- GhostKeys$Keymap.firsts, written -/
theorem gk_st15 (hx : p.tables.exec = Jvm.exec) (hb : c.code = cc) (hK : va_K D vwCl (tys cI cZ cJ) s) (hw : wf D A H0 (gkW cI cZ cJ a S) H locs) {i : Int32} {x : Int32} (hin : vp_in i 96) (hdg : decode cc pc = .ok (.iastore, 1))
    (kk : ∀ (H1 : Heap) (locs1 : List Loc), wf D A H0 (gkW cI cZ cJ a (gI S 19 (upd (S.1 19) (i).toNatClampNeg (x)))) H1 locs1 → W p l e R s m args below meth c H1 locs1 cells slots Q (F0 m (pc + 1) ls rest)) : W p l e R s m args below meth c H locs cells slots Q (F0 m pc ls (.int x :: .int i :: .ref (a 15) :: rest)) :=
  va_iast hx hb hK hw.1 hw.2.1 hw.2.2 15 0 rfl rfl hin hdg (fun H1 locs1 h1 h2 h3 => kk H1 locs1 ⟨h1, h2, h3⟩)
/-- GhostKeys$Keymap.seconds, read -/
theorem gk_ld16 (hx : p.tables.exec = Jvm.exec) (hb : c.code = cc) (hK : va_K D vwCl (tys cI cZ cJ) s) (hP : va_P D vwCl (gkW cI cZ cJ a S) H) {i : Int32} {v : Int32} (hin : vp_in i 96) (hv : S.1 20 i.toNatClampNeg = v) (hdg : decode cc pc = .ok (.iaload, 1))
    (kk : W p l e R s m args below meth c H locs cells slots Q (F0 m (pc + 1) ls (.int v :: rest))) : W p l e R s m args below meth c H locs cells slots Q (F0 m pc ls (.int i :: .ref (a 16) :: rest)) := by
  subst hv
  exact va_iald hx hb hK hP 16 0 rfl rfl hin hdg kk
/-- GhostKeys$Keymap.seconds, written -/
theorem gk_st16 (hx : p.tables.exec = Jvm.exec) (hb : c.code = cc) (hK : va_K D vwCl (tys cI cZ cJ) s) (hw : wf D A H0 (gkW cI cZ cJ a S) H locs) {i : Int32} {x : Int32} (hin : vp_in i 96) (hdg : decode cc pc = .ok (.iastore, 1))
    (kk : ∀ (H1 : Heap) (locs1 : List Loc), wf D A H0 (gkW cI cZ cJ a (gI S 20 (upd (S.1 20) (i).toNatClampNeg (x)))) H1 locs1 → W p l e R s m args below meth c H1 locs1 cells slots Q (F0 m (pc + 1) ls rest)) : W p l e R s m args below meth c H locs cells slots Q (F0 m pc ls (.int x :: .int i :: .ref (a 16) :: rest)) :=
  va_iast hx hb hK hw.1 hw.2.1 hw.2.2 16 0 rfl rfl hin hdg (fun H1 locs1 h1 h2 h3 => kk H1 locs1 ⟨h1, h2, h3⟩)
/-- GhostKeys$Keymap.macroCodes, read -/
theorem gk_ld17 (hx : p.tables.exec = Jvm.exec) (hb : c.code = cc) (hK : va_K D vwCl (tys cI cZ cJ) s) (hP : va_P D vwCl (gkW cI cZ cJ a S) H) {i : Int32} {v : Int32} (hin : vp_in i 16) (hv : S.1 21 i.toNatClampNeg = v) (hdg : decode cc pc = .ok (.iaload, 1))
    (kk : W p l e R s m args below meth c H locs cells slots Q (F0 m (pc + 1) ls (.int v :: rest))) : W p l e R s m args below meth c H locs cells slots Q (F0 m pc ls (.int i :: .ref (a 17) :: rest)) := by
  subst hv
  exact va_iald hx hb hK hP 17 0 rfl rfl hin hdg kk
/-- GhostKeys$Keymap.macroCodes, written -/
theorem gk_st17 (hx : p.tables.exec = Jvm.exec) (hb : c.code = cc) (hK : va_K D vwCl (tys cI cZ cJ) s) (hw : wf D A H0 (gkW cI cZ cJ a S) H locs) {i : Int32} {x : Int32} (hin : vp_in i 16) (hdg : decode cc pc = .ok (.iastore, 1))
    (kk : ∀ (H1 : Heap) (locs1 : List Loc), wf D A H0 (gkW cI cZ cJ a (gI S 21 (upd (S.1 21) (i).toNatClampNeg (x)))) H1 locs1 → W p l e R s m args below meth c H1 locs1 cells slots Q (F0 m (pc + 1) ls rest)) : W p l e R s m args below meth c H locs cells slots Q (F0 m pc ls (.int x :: .int i :: .ref (a 17) :: rest)) :=
  va_iast hx hb hK hw.1 hw.2.1 hw.2.2 17 0 rfl rfl hin hdg (fun H1 locs1 h1 h2 h3 => kk H1 locs1 ⟨h1, h2, h3⟩)
/-- GhostKeys$Chords.keys, read -/
theorem gk_ld18 (hx : p.tables.exec = Jvm.exec) (hb : c.code = cc) (hK : va_K D vwCl (tys cI cZ cJ) s) (hP : va_P D vwCl (gkW cI cZ cJ a S) H) {i : Int32} {v : Int32} (hin : vp_in i 4) (hv : S.1 22 i.toNatClampNeg = v) (hdg : decode cc pc = .ok (.iaload, 1))
    (kk : W p l e R s m args below meth c H locs cells slots Q (F0 m (pc + 1) ls (.int v :: rest))) : W p l e R s m args below meth c H locs cells slots Q (F0 m pc ls (.int i :: .ref (a 18) :: rest)) := by
  subst hv
  exact va_iald hx hb hK hP 18 0 rfl rfl hin hdg kk
/-- GhostKeys$Chords.keys, written -/
theorem gk_st18 (hx : p.tables.exec = Jvm.exec) (hb : c.code = cc) (hK : va_K D vwCl (tys cI cZ cJ) s) (hw : wf D A H0 (gkW cI cZ cJ a S) H locs) {i : Int32} {x : Int32} (hin : vp_in i 4) (hdg : decode cc pc = .ok (.iastore, 1))
    (kk : ∀ (H1 : Heap) (locs1 : List Loc), wf D A H0 (gkW cI cZ cJ a (gI S 22 (upd (S.1 22) (i).toNatClampNeg (x)))) H1 locs1 → W p l e R s m args below meth c H1 locs1 cells slots Q (F0 m (pc + 1) ls rest)) : W p l e R s m args below meth c H locs cells slots Q (F0 m pc ls (.int x :: .int i :: .ref (a 18) :: rest)) :=
  va_iast hx hb hK hw.1 hw.2.1 hw.2.2 18 0 rfl rfl hin hdg (fun H1 locs1 h1 h2 h3 => kk H1 locs1 ⟨h1, h2, h3⟩)
/-- GhostKeys$Chords.codes, read -/
theorem gk_ld19 (hx : p.tables.exec = Jvm.exec) (hb : c.code = cc) (hK : va_K D vwCl (tys cI cZ cJ) s) (hP : va_P D vwCl (gkW cI cZ cJ a S) H) {i : Int32} {v : Int32} (hin : vp_in i 4) (hv : S.1 23 i.toNatClampNeg = v) (hdg : decode cc pc = .ok (.iaload, 1))
    (kk : W p l e R s m args below meth c H locs cells slots Q (F0 m (pc + 1) ls (.int v :: rest))) : W p l e R s m args below meth c H locs cells slots Q (F0 m pc ls (.int i :: .ref (a 19) :: rest)) := by
  subst hv
  exact va_iald hx hb hK hP 19 0 rfl rfl hin hdg kk
/-- GhostKeys$Chords.codes, written -/
theorem gk_st19 (hx : p.tables.exec = Jvm.exec) (hb : c.code = cc) (hK : va_K D vwCl (tys cI cZ cJ) s) (hw : wf D A H0 (gkW cI cZ cJ a S) H locs) {i : Int32} {x : Int32} (hin : vp_in i 4) (hdg : decode cc pc = .ok (.iastore, 1))
    (kk : ∀ (H1 : Heap) (locs1 : List Loc), wf D A H0 (gkW cI cZ cJ a (gI S 23 (upd (S.1 23) (i).toNatClampNeg (x)))) H1 locs1 → W p l e R s m args below meth c H1 locs1 cells slots Q (F0 m (pc + 1) ls rest)) : W p l e R s m args below meth c H locs cells slots Q (F0 m pc ls (.int x :: .int i :: .ref (a 19) :: rest)) :=
  va_iast hx hb hK hw.1 hw.2.1 hw.2.2 19 0 rfl rfl hin hdg (fun H1 locs1 h1 h2 h3 => kk H1 locs1 ⟨h1, h2, h3⟩)
/-- GhostKeys$Layers.holders, read -/
theorem gk_ld20 (hx : p.tables.exec = Jvm.exec) (hb : c.code = cc) (hK : va_K D vwCl (tys cI cZ cJ) s) (hP : va_P D vwCl (gkW cI cZ cJ a S) H) {i : Int32} {v : Int32} (hin : vp_in i 4) (hv : S.1 24 i.toNatClampNeg = v) (hdg : decode cc pc = .ok (.iaload, 1))
    (kk : W p l e R s m args below meth c H locs cells slots Q (F0 m (pc + 1) ls (.int v :: rest))) : W p l e R s m args below meth c H locs cells slots Q (F0 m pc ls (.int i :: .ref (a 20) :: rest)) := by
  subst hv
  exact va_iald hx hb hK hP 20 0 rfl rfl hin hdg kk
/-- GhostKeys$Layers.holders, written -/
theorem gk_st20 (hx : p.tables.exec = Jvm.exec) (hb : c.code = cc) (hK : va_K D vwCl (tys cI cZ cJ) s) (hw : wf D A H0 (gkW cI cZ cJ a S) H locs) {i : Int32} {x : Int32} (hin : vp_in i 4) (hdg : decode cc pc = .ok (.iastore, 1))
    (kk : ∀ (H1 : Heap) (locs1 : List Loc), wf D A H0 (gkW cI cZ cJ a (gI S 24 (upd (S.1 24) (i).toNatClampNeg (x)))) H1 locs1 → W p l e R s m args below meth c H1 locs1 cells slots Q (F0 m (pc + 1) ls rest)) : W p l e R s m args below meth c H locs cells slots Q (F0 m pc ls (.int x :: .int i :: .ref (a 20) :: rest)) :=
  va_iast hx hb hK hw.1 hw.2.1 hw.2.2 20 0 rfl rfl hin hdg (fun H1 locs1 h1 h2 h3 => kk H1 locs1 ⟨h1, h2, h3⟩)
/-- GhostKeys$Holds.codes, read -/
theorem gk_ld21 (hx : p.tables.exec = Jvm.exec) (hb : c.code = cc) (hK : va_K D vwCl (tys cI cZ cJ) s) (hP : va_P D vwCl (gkW cI cZ cJ a S) H) {i : Int32} {v : Int32} (hin : vp_in i 24) (hv : S.1 25 i.toNatClampNeg = v) (hdg : decode cc pc = .ok (.iaload, 1))
    (kk : W p l e R s m args below meth c H locs cells slots Q (F0 m (pc + 1) ls (.int v :: rest))) : W p l e R s m args below meth c H locs cells slots Q (F0 m pc ls (.int i :: .ref (a 21) :: rest)) := by
  subst hv
  exact va_iald hx hb hK hP 21 0 rfl rfl hin hdg kk
/-- GhostKeys$Holds.codes, written -/
theorem gk_st21 (hx : p.tables.exec = Jvm.exec) (hb : c.code = cc) (hK : va_K D vwCl (tys cI cZ cJ) s) (hw : wf D A H0 (gkW cI cZ cJ a S) H locs) {i : Int32} {x : Int32} (hin : vp_in i 24) (hdg : decode cc pc = .ok (.iastore, 1))
    (kk : ∀ (H1 : Heap) (locs1 : List Loc), wf D A H0 (gkW cI cZ cJ a (gI S 25 (upd (S.1 25) (i).toNatClampNeg (x)))) H1 locs1 → W p l e R s m args below meth c H1 locs1 cells slots Q (F0 m (pc + 1) ls rest)) : W p l e R s m args below meth c H locs cells slots Q (F0 m pc ls (.int x :: .int i :: .ref (a 21) :: rest)) :=
  va_iast hx hb hK hw.1 hw.2.1 hw.2.2 21 0 rfl rfl hin hdg (fun H1 locs1 h1 h2 h3 => kk H1 locs1 ⟨h1, h2, h3⟩)
/-- GhostKeys$Holds.mates, read -/
theorem gk_ld22 (hx : p.tables.exec = Jvm.exec) (hb : c.code = cc) (hK : va_K D vwCl (tys cI cZ cJ) s) (hP : va_P D vwCl (gkW cI cZ cJ a S) H) {i : Int32} {v : Int32} (hin : vp_in i 24) (hv : S.1 26 i.toNatClampNeg = v) (hdg : decode cc pc = .ok (.iaload, 1))
    (kk : W p l e R s m args below meth c H locs cells slots Q (F0 m (pc + 1) ls (.int v :: rest))) : W p l e R s m args below meth c H locs cells slots Q (F0 m pc ls (.int i :: .ref (a 22) :: rest)) := by
  subst hv
  exact va_iald hx hb hK hP 22 0 rfl rfl hin hdg kk
/-- GhostKeys$Holds.mates, written -/
theorem gk_st22 (hx : p.tables.exec = Jvm.exec) (hb : c.code = cc) (hK : va_K D vwCl (tys cI cZ cJ) s) (hw : wf D A H0 (gkW cI cZ cJ a S) H locs) {i : Int32} {x : Int32} (hin : vp_in i 24) (hdg : decode cc pc = .ok (.iastore, 1))
    (kk : ∀ (H1 : Heap) (locs1 : List Loc), wf D A H0 (gkW cI cZ cJ a (gI S 26 (upd (S.1 26) (i).toNatClampNeg (x)))) H1 locs1 → W p l e R s m args below meth c H1 locs1 cells slots Q (F0 m (pc + 1) ls rest)) : W p l e R s m args below meth c H locs cells slots Q (F0 m pc ls (.int x :: .int i :: .ref (a 22) :: rest)) :=
  va_iast hx hb hK hw.1 hw.2.1 hw.2.2 22 0 rfl rfl hin hdg (fun H1 locs1 h1 h2 h3 => kk H1 locs1 ⟨h1, h2, h3⟩)
/-- GhostKeys$Reports.holders, read -/
theorem gk_ld23 (hx : p.tables.exec = Jvm.exec) (hb : c.code = cc) (hK : va_K D vwCl (tys cI cZ cJ) s) (hP : va_P D vwCl (gkW cI cZ cJ a S) H) {i : Int32} {v : Int32} (hin : vp_in i 108) (hv : S.1 27 i.toNatClampNeg = v) (hdg : decode cc pc = .ok (.iaload, 1))
    (kk : W p l e R s m args below meth c H locs cells slots Q (F0 m (pc + 1) ls (.int v :: rest))) : W p l e R s m args below meth c H locs cells slots Q (F0 m pc ls (.int i :: .ref (a 23) :: rest)) := by
  subst hv
  exact va_iald hx hb hK hP 23 0 rfl rfl hin hdg kk
/-- GhostKeys$Reports.holders, written -/
theorem gk_st23 (hx : p.tables.exec = Jvm.exec) (hb : c.code = cc) (hK : va_K D vwCl (tys cI cZ cJ) s) (hw : wf D A H0 (gkW cI cZ cJ a S) H locs) {i : Int32} {x : Int32} (hin : vp_in i 108) (hdg : decode cc pc = .ok (.iastore, 1))
    (kk : ∀ (H1 : Heap) (locs1 : List Loc), wf D A H0 (gkW cI cZ cJ a (gI S 27 (upd (S.1 27) (i).toNatClampNeg (x)))) H1 locs1 → W p l e R s m args below meth c H1 locs1 cells slots Q (F0 m (pc + 1) ls rest)) : W p l e R s m args below meth c H locs cells slots Q (F0 m pc ls (.int x :: .int i :: .ref (a 23) :: rest)) :=
  va_iast hx hb hK hw.1 hw.2.1 hw.2.2 23 0 rfl rfl hin hdg (fun H1 locs1 h1 h2 h3 => kk H1 locs1 ⟨h1, h2, h3⟩)
/-- GhostKeys$Reports.store, read -/
theorem gk_ld24 (hx : p.tables.exec = Jvm.exec) (hb : c.code = cc) (hK : va_K D vwCl (tys cI cZ cJ) s) (hP : va_P D vwCl (gkW cI cZ cJ a S) H) {i : Int32} {v : Int64} (hin : vp_in i 8) (hv : S.2 2 i.toNatClampNeg = v) (hdg : decode cc pc = .ok (.laload, 1))
    (kk : W p l e R s m args below meth c H locs cells slots Q (F0 m (pc + 1) ls (.long v :: rest))) : W p l e R s m args below meth c H locs cells slots Q (F0 m pc ls (.int i :: .ref (a 24) :: rest)) := by
  subst hv
  exact va_lald hx hb hK hP 24 2 rfl rfl hin hdg kk
/-- GhostKeys$Reports.store, written -/
theorem gk_st24 (hx : p.tables.exec = Jvm.exec) (hb : c.code = cc) (hK : va_K D vwCl (tys cI cZ cJ) s) (hw : wf D A H0 (gkW cI cZ cJ a S) H locs) {i : Int32} {x : Int64} (hin : vp_in i 8) (hdg : decode cc pc = .ok (.lastore, 1))
    (kk : ∀ (H1 : Heap) (locs1 : List Loc), wf D A H0 (gkW cI cZ cJ a (gL S 2 (vp_updL (S.2 2) (i).toNatClampNeg (x)))) H1 locs1 → W p l e R s m args below meth c H1 locs1 cells slots Q (F0 m (pc + 1) ls rest)) : W p l e R s m args below meth c H locs cells slots Q (F0 m pc ls (.long x :: .int i :: .ref (a 24) :: rest)) :=
  va_last hx hb hK hw.1 hw.2.1 hw.2.2 24 2 rfl rfl hin hdg (fun H1 locs1 h1 h2 h3 => kk H1 locs1 ⟨h1, h2, h3⟩)
theorem gk_gt_G_matrix (hx : p.tables.exec = Jvm.exec) (hb : c.code = cc) (hK : va_K D vwCl (tys cI cZ cJ) s) {Ts : List Cond} (hts : ∀ w ∈ Ts, w.before args s = true) (hin : ∀ w ∈ u_ws R_G T_G 9, w ∈ Ts) (hown : s.vm.findClass R_G = some m.cls) (hP : va_P D vwCl (gkW cI cZ cJ a S) H) {index : Nat} (hlink : (Cond.fieldLink R_G index "GhostKeys" "matrix" "LGhostKeys$Matrix;").before args s = true) (hdg : decode cc pc = .ok (.getfield index, 3))
    (kk : W p l e R s m args below meth c H locs cells slots Q (F0 m (pc + 3) ls (.ref (a 1) :: rest))) : W p l e R s m args below meth c H locs cells slots Q (F0 m pc ls (.ref (a 0) :: rest)) :=
  va_get (D := D) (ci := 0) (C := R_G) (T := T_G) (N := 9) hx hb hts hin hown hK hP 0 rfl rfl 0 (by decide) hlink (fun _ h => h) rfl hdg kk
theorem gk_gt_G_past (hx : p.tables.exec = Jvm.exec) (hb : c.code = cc) (hK : va_K D vwCl (tys cI cZ cJ) s) {Ts : List Cond} (hts : ∀ w ∈ Ts, w.before args s = true) (hin : ∀ w ∈ u_ws R_G T_G 9, w ∈ Ts) (hown : s.vm.findClass R_G = some m.cls) (hP : va_P D vwCl (gkW cI cZ cJ a S) H) {index : Nat} (hlink : (Cond.fieldLink R_G index "GhostKeys" "past" "LGhostKeys$History;").before args s = true) (hdg : decode cc pc = .ok (.getfield index, 3))
    (kk : W p l e R s m args below meth c H locs cells slots Q (F0 m (pc + 3) ls (.ref (a 2) :: rest))) : W p l e R s m args below meth c H locs cells slots Q (F0 m pc ls (.ref (a 0) :: rest)) :=
  va_get (D := D) (ci := 0) (C := R_G) (T := T_G) (N := 9) hx hb hts hin hown hK hP 0 rfl rfl 1 (by decide) hlink (fun _ h => h) rfl hdg kk
theorem gk_gt_G_queue (hx : p.tables.exec = Jvm.exec) (hb : c.code = cc) (hK : va_K D vwCl (tys cI cZ cJ) s) {Ts : List Cond} (hts : ∀ w ∈ Ts, w.before args s = true) (hin : ∀ w ∈ u_ws R_G T_G 9, w ∈ Ts) (hown : s.vm.findClass R_G = some m.cls) (hP : va_P D vwCl (gkW cI cZ cJ a S) H) {index : Nat} (hlink : (Cond.fieldLink R_G index "GhostKeys" "queue" "LGhostKeys$EventQueue;").before args s = true) (hdg : decode cc pc = .ok (.getfield index, 3))
    (kk : W p l e R s m args below meth c H locs cells slots Q (F0 m (pc + 3) ls (.ref (a 3) :: rest))) : W p l e R s m args below meth c H locs cells slots Q (F0 m pc ls (.ref (a 0) :: rest)) :=
  va_get (D := D) (ci := 0) (C := R_G) (T := T_G) (N := 9) hx hb hts hin hown hK hP 0 rfl rfl 2 (by decide) hlink (fun _ h => h) rfl hdg kk
theorem gk_gt_G_keymap (hx : p.tables.exec = Jvm.exec) (hb : c.code = cc) (hK : va_K D vwCl (tys cI cZ cJ) s) {Ts : List Cond} (hts : ∀ w ∈ Ts, w.before args s = true) (hin : ∀ w ∈ u_ws R_G T_G 9, w ∈ Ts) (hown : s.vm.findClass R_G = some m.cls) (hP : va_P D vwCl (gkW cI cZ cJ a S) H) {index : Nat} (hlink : (Cond.fieldLink R_G index "GhostKeys" "keymap" "LGhostKeys$Keymap;").before args s = true) (hdg : decode cc pc = .ok (.getfield index, 3))
    (kk : W p l e R s m args below meth c H locs cells slots Q (F0 m (pc + 3) ls (.ref (a 4) :: rest))) : W p l e R s m args below meth c H locs cells slots Q (F0 m pc ls (.ref (a 0) :: rest)) :=
  va_get (D := D) (ci := 0) (C := R_G) (T := T_G) (N := 9) hx hb hts hin hown hK hP 0 rfl rfl 3 (by decide) hlink (fun _ h => h) rfl hdg kk
theorem gk_gt_G_chords (hx : p.tables.exec = Jvm.exec) (hb : c.code = cc) (hK : va_K D vwCl (tys cI cZ cJ) s) {Ts : List Cond} (hts : ∀ w ∈ Ts, w.before args s = true) (hin : ∀ w ∈ u_ws R_G T_G 9, w ∈ Ts) (hown : s.vm.findClass R_G = some m.cls) (hP : va_P D vwCl (gkW cI cZ cJ a S) H) {index : Nat} (hlink : (Cond.fieldLink R_G index "GhostKeys" "chords" "LGhostKeys$Chords;").before args s = true) (hdg : decode cc pc = .ok (.getfield index, 3))
    (kk : W p l e R s m args below meth c H locs cells slots Q (F0 m (pc + 3) ls (.ref (a 5) :: rest))) : W p l e R s m args below meth c H locs cells slots Q (F0 m pc ls (.ref (a 0) :: rest)) :=
  va_get (D := D) (ci := 0) (C := R_G) (T := T_G) (N := 9) hx hb hts hin hown hK hP 0 rfl rfl 4 (by decide) hlink (fun _ h => h) rfl hdg kk
theorem gk_gt_G_layers (hx : p.tables.exec = Jvm.exec) (hb : c.code = cc) (hK : va_K D vwCl (tys cI cZ cJ) s) {Ts : List Cond} (hts : ∀ w ∈ Ts, w.before args s = true) (hin : ∀ w ∈ u_ws R_G T_G 9, w ∈ Ts) (hown : s.vm.findClass R_G = some m.cls) (hP : va_P D vwCl (gkW cI cZ cJ a S) H) {index : Nat} (hlink : (Cond.fieldLink R_G index "GhostKeys" "layers" "LGhostKeys$Layers;").before args s = true) (hdg : decode cc pc = .ok (.getfield index, 3))
    (kk : W p l e R s m args below meth c H locs cells slots Q (F0 m (pc + 3) ls (.ref (a 6) :: rest))) : W p l e R s m args below meth c H locs cells slots Q (F0 m pc ls (.ref (a 0) :: rest)) :=
  va_get (D := D) (ci := 0) (C := R_G) (T := T_G) (N := 9) hx hb hts hin hown hK hP 0 rfl rfl 5 (by decide) hlink (fun _ h => h) rfl hdg kk
theorem gk_gt_G_holds (hx : p.tables.exec = Jvm.exec) (hb : c.code = cc) (hK : va_K D vwCl (tys cI cZ cJ) s) {Ts : List Cond} (hts : ∀ w ∈ Ts, w.before args s = true) (hin : ∀ w ∈ u_ws R_G T_G 9, w ∈ Ts) (hown : s.vm.findClass R_G = some m.cls) (hP : va_P D vwCl (gkW cI cZ cJ a S) H) {index : Nat} (hlink : (Cond.fieldLink R_G index "GhostKeys" "holds" "LGhostKeys$Holds;").before args s = true) (hdg : decode cc pc = .ok (.getfield index, 3))
    (kk : W p l e R s m args below meth c H locs cells slots Q (F0 m (pc + 3) ls (.ref (a 7) :: rest))) : W p l e R s m args below meth c H locs cells slots Q (F0 m pc ls (.ref (a 0) :: rest)) :=
  va_get (D := D) (ci := 0) (C := R_G) (T := T_G) (N := 9) hx hb hts hin hown hK hP 0 rfl rfl 6 (by decide) hlink (fun _ h => h) rfl hdg kk
theorem gk_gt_G_reports (hx : p.tables.exec = Jvm.exec) (hb : c.code = cc) (hK : va_K D vwCl (tys cI cZ cJ) s) {Ts : List Cond} (hts : ∀ w ∈ Ts, w.before args s = true) (hin : ∀ w ∈ u_ws R_G T_G 9, w ∈ Ts) (hown : s.vm.findClass R_G = some m.cls) (hP : va_P D vwCl (gkW cI cZ cJ a S) H) {index : Nat} (hlink : (Cond.fieldLink R_G index "GhostKeys" "reports" "LGhostKeys$Reports;").before args s = true) (hdg : decode cc pc = .ok (.getfield index, 3))
    (kk : W p l e R s m args below meth c H locs cells slots Q (F0 m (pc + 3) ls (.ref (a 8) :: rest))) : W p l e R s m args below meth c H locs cells slots Q (F0 m pc ls (.ref (a 0) :: rest)) :=
  va_get (D := D) (ci := 0) (C := R_G) (T := T_G) (N := 9) hx hb hts hin hown hK hP 0 rfl rfl 7 (by decide) hlink (fun _ h => h) rfl hdg kk
theorem gk_gt_G_now (hx : p.tables.exec = Jvm.exec) (hb : c.code = cc) (hK : va_K D vwCl (tys cI cZ cJ) s) {Ts : List Cond} (hts : ∀ w ∈ Ts, w.before args s = true) (hin : ∀ w ∈ u_ws R_G T_G 9, w ∈ Ts) (hown : s.vm.findClass R_G = some m.cls) (hP : va_P D vwCl (gkW cI cZ cJ a S) H) {index : Nat} (hlink : (Cond.fieldLink R_G index "GhostKeys" "now" "I").before args s = true) {v : Int32} (hv : S.1 0 0 = v) (hdg : decode cc pc = .ok (.getfield index, 3))
    (kk : W p l e R s m args below meth c H locs cells slots Q (F0 m (pc + 3) ls (.int v :: rest))) : W p l e R s m args below meth c H locs cells slots Q (F0 m pc ls (.ref (a 0) :: rest)) := by
  subst hv
  exact va_get (D := D) (ci := 0) (C := R_G) (T := T_G) (N := 9) hx hb hts hin hown hK hP 0 rfl rfl 8 (by decide) hlink (fun _ h => h) rfl hdg kk
theorem gk_pt_G_now (hx : p.tables.exec = Jvm.exec) (hb : c.code = cc) (hK : va_K D vwCl (tys cI cZ cJ) s) {Ts : List Cond} (hts : ∀ w ∈ Ts, w.before args s = true) (hin : ∀ w ∈ u_ws R_G T_G 9, w ∈ Ts) (hown : s.vm.findClass R_G = some m.cls) (hw : wf D A H0 (gkW cI cZ cJ a S) H locs) {index : Nat} (hlink : (Cond.fieldLink R_G index "GhostKeys" "now" "I").before args s = true) {v : Int32} (hdg : decode cc pc = .ok (.putfield index, 3))
    (kk : ∀ (H1 : Heap) (locs1 : List Loc), wf D A H0 (gkW cI cZ cJ a (gI S 0 (fun _ => v))) H1 locs1 → W p l e R s m args below meth c H1 locs1 cells slots Q (F0 m (pc + 3) ls rest)) : W p l e R s m args below meth c H locs cells slots Q (F0 m pc ls (.int v :: .ref (a 0) :: rest)) :=
  va_put (D := D) (ci := 0) (v := .int v) (ty := .int) (C := R_G) (T := T_G) (N := 9) hx hb hts hin ty_G ty_G_ok nm_G hown hK hw.1 hw.2.1 hw.2.2 0 rfl rfl 8 (by decide) hlink (fun _ h => h) rfl (by decide +kernel) rfl rfl (Nat.le_of_ble_eq_true rfl) hdg (fun H1 locs1 h1 h2 h3 => kk H1 locs1 ⟨h1, h2, h3⟩)
theorem gk_gt_Mx_bounces (hx : p.tables.exec = Jvm.exec) (hb : c.code = cc) (hK : va_K D vwCl (tys cI cZ cJ) s) {Ts : List Cond} (hts : ∀ w ∈ Ts, w.before args s = true) (hin : ∀ w ∈ u_ws R_Mx T_Mx 6, w ∈ Ts) (hown : s.vm.findClass R_Mx = some m.cls) (hP : va_P D vwCl (gkW cI cZ cJ a S) H) {index : Nat} (hlink : (Cond.fieldLink R_Mx index "GhostKeys$Matrix" "bounces" "[I").before args s = true) (hdg : decode cc pc = .ok (.getfield index, 3))
    (kk : W p l e R s m args below meth c H locs cells slots Q (F0 m (pc + 3) ls (.ref (a 9) :: rest))) : W p l e R s m args below meth c H locs cells slots Q (F0 m pc ls (.ref (a 1) :: rest)) :=
  va_get (D := D) (ci := 1) (C := R_Mx) (T := T_Mx) (N := 6) hx hb hts hin hown hK hP 1 rfl rfl 0 (by decide) hlink (fun _ h => h) rfl hdg kk
theorem gk_gt_Mx_otherwise (hx : p.tables.exec = Jvm.exec) (hb : c.code = cc) (hK : va_K D vwCl (tys cI cZ cJ) s) {Ts : List Cond} (hts : ∀ w ∈ Ts, w.before args s = true) (hin : ∀ w ∈ u_ws R_Mx T_Mx 6, w ∈ Ts) (hown : s.vm.findClass R_Mx = some m.cls) (hP : va_P D vwCl (gkW cI cZ cJ a S) H) {index : Nat} (hlink : (Cond.fieldLink R_Mx index "GhostKeys$Matrix" "otherwise" "[I").before args s = true) (hdg : decode cc pc = .ok (.getfield index, 3))
    (kk : W p l e R s m args below meth c H locs cells slots Q (F0 m (pc + 3) ls (.ref (a 10) :: rest))) : W p l e R s m args below meth c H locs cells slots Q (F0 m pc ls (.ref (a 1) :: rest)) :=
  va_get (D := D) (ci := 1) (C := R_Mx) (T := T_Mx) (N := 6) hx hb hts hin hown hK hP 1 rfl rfl 1 (by decide) hlink (fun _ h => h) rfl hdg kk
theorem gk_gt_Mx_wired (hx : p.tables.exec = Jvm.exec) (hb : c.code = cc) (hK : va_K D vwCl (tys cI cZ cJ) s) {Ts : List Cond} (hts : ∀ w ∈ Ts, w.before args s = true) (hin : ∀ w ∈ u_ws R_Mx T_Mx 6, w ∈ Ts) (hown : s.vm.findClass R_Mx = some m.cls) (hP : va_P D vwCl (gkW cI cZ cJ a S) H) {index : Nat} (hlink : (Cond.fieldLink R_Mx index "GhostKeys$Matrix" "wired" "I").before args s = true) {v : Int32} (hv : S.1 1 0 = v) (hdg : decode cc pc = .ok (.getfield index, 3))
    (kk : W p l e R s m args below meth c H locs cells slots Q (F0 m (pc + 3) ls (.int v :: rest))) : W p l e R s m args below meth c H locs cells slots Q (F0 m pc ls (.ref (a 1) :: rest)) := by
  subst hv
  exact va_get (D := D) (ci := 1) (C := R_Mx) (T := T_Mx) (N := 6) hx hb hts hin hown hK hP 1 rfl rfl 2 (by decide) hlink (fun _ h => h) rfl hdg kk
theorem gk_pt_Mx_wired (hx : p.tables.exec = Jvm.exec) (hb : c.code = cc) (hK : va_K D vwCl (tys cI cZ cJ) s) {Ts : List Cond} (hts : ∀ w ∈ Ts, w.before args s = true) (hin : ∀ w ∈ u_ws R_Mx T_Mx 6, w ∈ Ts) (hown : s.vm.findClass R_Mx = some m.cls) (hw : wf D A H0 (gkW cI cZ cJ a S) H locs) {index : Nat} (hlink : (Cond.fieldLink R_Mx index "GhostKeys$Matrix" "wired" "I").before args s = true) {v : Int32} (hdg : decode cc pc = .ok (.putfield index, 3))
    (kk : ∀ (H1 : Heap) (locs1 : List Loc), wf D A H0 (gkW cI cZ cJ a (gI S 1 (fun _ => v))) H1 locs1 → W p l e R s m args below meth c H1 locs1 cells slots Q (F0 m (pc + 3) ls rest)) : W p l e R s m args below meth c H locs cells slots Q (F0 m pc ls (.int v :: .ref (a 1) :: rest)) :=
  va_put (D := D) (ci := 1) (v := .int v) (ty := .int) (C := R_Mx) (T := T_Mx) (N := 6) hx hb hts hin ty_Mx ty_Mx_ok nm_Mx hown hK hw.1 hw.2.1 hw.2.2 1 rfl rfl 2 (by decide) hlink (fun _ h => h) rfl (by decide +kernel) rfl rfl (Nat.le_of_ble_eq_true rfl) hdg (fun H1 locs1 h1 h2 h3 => kk H1 locs1 ⟨h1, h2, h3⟩)
theorem gk_gt_Mx_read (hx : p.tables.exec = Jvm.exec) (hb : c.code = cc) (hK : va_K D vwCl (tys cI cZ cJ) s) {Ts : List Cond} (hts : ∀ w ∈ Ts, w.before args s = true) (hin : ∀ w ∈ u_ws R_Mx T_Mx 6, w ∈ Ts) (hown : s.vm.findClass R_Mx = some m.cls) (hP : va_P D vwCl (gkW cI cZ cJ a S) H) {index : Nat} (hlink : (Cond.fieldLink R_Mx index "GhostKeys$Matrix" "read" "I").before args s = true) {v : Int32} (hv : S.1 2 0 = v) (hdg : decode cc pc = .ok (.getfield index, 3))
    (kk : W p l e R s m args below meth c H locs cells slots Q (F0 m (pc + 3) ls (.int v :: rest))) : W p l e R s m args below meth c H locs cells slots Q (F0 m pc ls (.ref (a 1) :: rest)) := by
  subst hv
  exact va_get (D := D) (ci := 1) (C := R_Mx) (T := T_Mx) (N := 6) hx hb hts hin hown hK hP 1 rfl rfl 3 (by decide) hlink (fun _ h => h) rfl hdg kk
theorem gk_pt_Mx_read (hx : p.tables.exec = Jvm.exec) (hb : c.code = cc) (hK : va_K D vwCl (tys cI cZ cJ) s) {Ts : List Cond} (hts : ∀ w ∈ Ts, w.before args s = true) (hin : ∀ w ∈ u_ws R_Mx T_Mx 6, w ∈ Ts) (hown : s.vm.findClass R_Mx = some m.cls) (hw : wf D A H0 (gkW cI cZ cJ a S) H locs) {index : Nat} (hlink : (Cond.fieldLink R_Mx index "GhostKeys$Matrix" "read" "I").before args s = true) {v : Int32} (hdg : decode cc pc = .ok (.putfield index, 3))
    (kk : ∀ (H1 : Heap) (locs1 : List Loc), wf D A H0 (gkW cI cZ cJ a (gI S 2 (fun _ => v))) H1 locs1 → W p l e R s m args below meth c H1 locs1 cells slots Q (F0 m (pc + 3) ls rest)) : W p l e R s m args below meth c H locs cells slots Q (F0 m pc ls (.int v :: .ref (a 1) :: rest)) :=
  va_put (D := D) (ci := 1) (v := .int v) (ty := .int) (C := R_Mx) (T := T_Mx) (N := 6) hx hb hts hin ty_Mx ty_Mx_ok nm_Mx hown hK hw.1 hw.2.1 hw.2.2 1 rfl rfl 3 (by decide) hlink (fun _ h => h) rfl (by decide +kernel) rfl rfl (Nat.le_of_ble_eq_true rfl) hdg (fun H1 locs1 h1 h2 h3 => kk H1 locs1 ⟨h1, h2, h3⟩)
theorem gk_gt_Mx_seen (hx : p.tables.exec = Jvm.exec) (hb : c.code = cc) (hK : va_K D vwCl (tys cI cZ cJ) s) {Ts : List Cond} (hts : ∀ w ∈ Ts, w.before args s = true) (hin : ∀ w ∈ u_ws R_Mx T_Mx 6, w ∈ Ts) (hown : s.vm.findClass R_Mx = some m.cls) (hP : va_P D vwCl (gkW cI cZ cJ a S) H) {index : Nat} (hlink : (Cond.fieldLink R_Mx index "GhostKeys$Matrix" "seen" "I").before args s = true) {v : Int32} (hv : S.1 3 0 = v) (hdg : decode cc pc = .ok (.getfield index, 3))
    (kk : W p l e R s m args below meth c H locs cells slots Q (F0 m (pc + 3) ls (.int v :: rest))) : W p l e R s m args below meth c H locs cells slots Q (F0 m pc ls (.ref (a 1) :: rest)) := by
  subst hv
  exact va_get (D := D) (ci := 1) (C := R_Mx) (T := T_Mx) (N := 6) hx hb hts hin hown hK hP 1 rfl rfl 4 (by decide) hlink (fun _ h => h) rfl hdg kk
theorem gk_pt_Mx_seen (hx : p.tables.exec = Jvm.exec) (hb : c.code = cc) (hK : va_K D vwCl (tys cI cZ cJ) s) {Ts : List Cond} (hts : ∀ w ∈ Ts, w.before args s = true) (hin : ∀ w ∈ u_ws R_Mx T_Mx 6, w ∈ Ts) (hown : s.vm.findClass R_Mx = some m.cls) (hw : wf D A H0 (gkW cI cZ cJ a S) H locs) {index : Nat} (hlink : (Cond.fieldLink R_Mx index "GhostKeys$Matrix" "seen" "I").before args s = true) {v : Int32} (hdg : decode cc pc = .ok (.putfield index, 3))
    (kk : ∀ (H1 : Heap) (locs1 : List Loc), wf D A H0 (gkW cI cZ cJ a (gI S 3 (fun _ => v))) H1 locs1 → W p l e R s m args below meth c H1 locs1 cells slots Q (F0 m (pc + 3) ls rest)) : W p l e R s m args below meth c H locs cells slots Q (F0 m pc ls (.int v :: .ref (a 1) :: rest)) :=
  va_put (D := D) (ci := 1) (v := .int v) (ty := .int) (C := R_Mx) (T := T_Mx) (N := 6) hx hb hts hin ty_Mx ty_Mx_ok nm_Mx hown hK hw.1 hw.2.1 hw.2.2 1 rfl rfl 4 (by decide) hlink (fun _ h => h) rfl (by decide +kernel) rfl rfl (Nat.le_of_ble_eq_true rfl) hdg (fun H1 locs1 h1 h2 h3 => kk H1 locs1 ⟨h1, h2, h3⟩)
theorem gk_gt_Mx_believed (hx : p.tables.exec = Jvm.exec) (hb : c.code = cc) (hK : va_K D vwCl (tys cI cZ cJ) s) {Ts : List Cond} (hts : ∀ w ∈ Ts, w.before args s = true) (hin : ∀ w ∈ u_ws R_Mx T_Mx 6, w ∈ Ts) (hown : s.vm.findClass R_Mx = some m.cls) (hP : va_P D vwCl (gkW cI cZ cJ a S) H) {index : Nat} (hlink : (Cond.fieldLink R_Mx index "GhostKeys$Matrix" "believed" "I").before args s = true) {v : Int32} (hv : S.1 4 0 = v) (hdg : decode cc pc = .ok (.getfield index, 3))
    (kk : W p l e R s m args below meth c H locs cells slots Q (F0 m (pc + 3) ls (.int v :: rest))) : W p l e R s m args below meth c H locs cells slots Q (F0 m pc ls (.ref (a 1) :: rest)) := by
  subst hv
  exact va_get (D := D) (ci := 1) (C := R_Mx) (T := T_Mx) (N := 6) hx hb hts hin hown hK hP 1 rfl rfl 5 (by decide) hlink (fun _ h => h) rfl hdg kk
theorem gk_pt_Mx_believed (hx : p.tables.exec = Jvm.exec) (hb : c.code = cc) (hK : va_K D vwCl (tys cI cZ cJ) s) {Ts : List Cond} (hts : ∀ w ∈ Ts, w.before args s = true) (hin : ∀ w ∈ u_ws R_Mx T_Mx 6, w ∈ Ts) (hown : s.vm.findClass R_Mx = some m.cls) (hw : wf D A H0 (gkW cI cZ cJ a S) H locs) {index : Nat} (hlink : (Cond.fieldLink R_Mx index "GhostKeys$Matrix" "believed" "I").before args s = true) {v : Int32} (hdg : decode cc pc = .ok (.putfield index, 3))
    (kk : ∀ (H1 : Heap) (locs1 : List Loc), wf D A H0 (gkW cI cZ cJ a (gI S 4 (fun _ => v))) H1 locs1 → W p l e R s m args below meth c H1 locs1 cells slots Q (F0 m (pc + 3) ls rest)) : W p l e R s m args below meth c H locs cells slots Q (F0 m pc ls (.int v :: .ref (a 1) :: rest)) :=
  va_put (D := D) (ci := 1) (v := .int v) (ty := .int) (C := R_Mx) (T := T_Mx) (N := 6) hx hb hts hin ty_Mx ty_Mx_ok nm_Mx hown hK hw.1 hw.2.1 hw.2.2 1 rfl rfl 5 (by decide) hlink (fun _ h => h) rfl (by decide +kernel) rfl rfl (Nat.le_of_ble_eq_true rfl) hdg (fun H1 locs1 h1 h2 h3 => kk H1 locs1 ⟨h1, h2, h3⟩)
theorem gk_gt_Hi_events (hx : p.tables.exec = Jvm.exec) (hb : c.code = cc) (hK : va_K D vwCl (tys cI cZ cJ) s) {Ts : List Cond} (hts : ∀ w ∈ Ts, w.before args s = true) (hin : ∀ w ∈ u_ws R_Hi T_Hi 3, w ∈ Ts) (hown : s.vm.findClass R_Hi = some m.cls) (hP : va_P D vwCl (gkW cI cZ cJ a S) H) {index : Nat} (hlink : (Cond.fieldLink R_Hi index "GhostKeys$History" "events" "[I").before args s = true) (hdg : decode cc pc = .ok (.getfield index, 3))
    (kk : W p l e R s m args below meth c H locs cells slots Q (F0 m (pc + 3) ls (.ref (a 11) :: rest))) : W p l e R s m args below meth c H locs cells slots Q (F0 m pc ls (.ref (a 2) :: rest)) :=
  va_get (D := D) (ci := 2) (C := R_Hi) (T := T_Hi) (N := 3) hx hb hts hin hown hK hP 2 rfl rfl 0 (by decide) hlink (fun _ h => h) rfl hdg kk
theorem gk_gt_Hi_next (hx : p.tables.exec = Jvm.exec) (hb : c.code = cc) (hK : va_K D vwCl (tys cI cZ cJ) s) {Ts : List Cond} (hts : ∀ w ∈ Ts, w.before args s = true) (hin : ∀ w ∈ u_ws R_Hi T_Hi 3, w ∈ Ts) (hown : s.vm.findClass R_Hi = some m.cls) (hP : va_P D vwCl (gkW cI cZ cJ a S) H) {index : Nat} (hlink : (Cond.fieldLink R_Hi index "GhostKeys$History" "next" "I").before args s = true) {v : Int32} (hv : S.1 5 0 = v) (hdg : decode cc pc = .ok (.getfield index, 3))
    (kk : W p l e R s m args below meth c H locs cells slots Q (F0 m (pc + 3) ls (.int v :: rest))) : W p l e R s m args below meth c H locs cells slots Q (F0 m pc ls (.ref (a 2) :: rest)) := by
  subst hv
  exact va_get (D := D) (ci := 2) (C := R_Hi) (T := T_Hi) (N := 3) hx hb hts hin hown hK hP 2 rfl rfl 1 (by decide) hlink (fun _ h => h) rfl hdg kk
theorem gk_pt_Hi_next (hx : p.tables.exec = Jvm.exec) (hb : c.code = cc) (hK : va_K D vwCl (tys cI cZ cJ) s) {Ts : List Cond} (hts : ∀ w ∈ Ts, w.before args s = true) (hin : ∀ w ∈ u_ws R_Hi T_Hi 3, w ∈ Ts) (hown : s.vm.findClass R_Hi = some m.cls) (hw : wf D A H0 (gkW cI cZ cJ a S) H locs) {index : Nat} (hlink : (Cond.fieldLink R_Hi index "GhostKeys$History" "next" "I").before args s = true) {v : Int32} (hdg : decode cc pc = .ok (.putfield index, 3))
    (kk : ∀ (H1 : Heap) (locs1 : List Loc), wf D A H0 (gkW cI cZ cJ a (gI S 5 (fun _ => v))) H1 locs1 → W p l e R s m args below meth c H1 locs1 cells slots Q (F0 m (pc + 3) ls rest)) : W p l e R s m args below meth c H locs cells slots Q (F0 m pc ls (.int v :: .ref (a 2) :: rest)) :=
  va_put (D := D) (ci := 2) (v := .int v) (ty := .int) (C := R_Hi) (T := T_Hi) (N := 3) hx hb hts hin ty_Hi ty_Hi_ok nm_Hi hown hK hw.1 hw.2.1 hw.2.2 2 rfl rfl 1 (by decide) hlink (fun _ h => h) rfl (by decide +kernel) rfl rfl (Nat.le_of_ble_eq_true rfl) hdg (fun H1 locs1 h1 h2 h3 => kk H1 locs1 ⟨h1, h2, h3⟩)
theorem gk_gt_Hi_kept (hx : p.tables.exec = Jvm.exec) (hb : c.code = cc) (hK : va_K D vwCl (tys cI cZ cJ) s) {Ts : List Cond} (hts : ∀ w ∈ Ts, w.before args s = true) (hin : ∀ w ∈ u_ws R_Hi T_Hi 3, w ∈ Ts) (hown : s.vm.findClass R_Hi = some m.cls) (hP : va_P D vwCl (gkW cI cZ cJ a S) H) {index : Nat} (hlink : (Cond.fieldLink R_Hi index "GhostKeys$History" "kept" "I").before args s = true) {v : Int32} (hv : S.1 6 0 = v) (hdg : decode cc pc = .ok (.getfield index, 3))
    (kk : W p l e R s m args below meth c H locs cells slots Q (F0 m (pc + 3) ls (.int v :: rest))) : W p l e R s m args below meth c H locs cells slots Q (F0 m pc ls (.ref (a 2) :: rest)) := by
  subst hv
  exact va_get (D := D) (ci := 2) (C := R_Hi) (T := T_Hi) (N := 3) hx hb hts hin hown hK hP 2 rfl rfl 2 (by decide) hlink (fun _ h => h) rfl hdg kk
theorem gk_pt_Hi_kept (hx : p.tables.exec = Jvm.exec) (hb : c.code = cc) (hK : va_K D vwCl (tys cI cZ cJ) s) {Ts : List Cond} (hts : ∀ w ∈ Ts, w.before args s = true) (hin : ∀ w ∈ u_ws R_Hi T_Hi 3, w ∈ Ts) (hown : s.vm.findClass R_Hi = some m.cls) (hw : wf D A H0 (gkW cI cZ cJ a S) H locs) {index : Nat} (hlink : (Cond.fieldLink R_Hi index "GhostKeys$History" "kept" "I").before args s = true) {v : Int32} (hdg : decode cc pc = .ok (.putfield index, 3))
    (kk : ∀ (H1 : Heap) (locs1 : List Loc), wf D A H0 (gkW cI cZ cJ a (gI S 6 (fun _ => v))) H1 locs1 → W p l e R s m args below meth c H1 locs1 cells slots Q (F0 m (pc + 3) ls rest)) : W p l e R s m args below meth c H locs cells slots Q (F0 m pc ls (.int v :: .ref (a 2) :: rest)) :=
  va_put (D := D) (ci := 2) (v := .int v) (ty := .int) (C := R_Hi) (T := T_Hi) (N := 3) hx hb hts hin ty_Hi ty_Hi_ok nm_Hi hown hK hw.1 hw.2.1 hw.2.2 2 rfl rfl 2 (by decide) hlink (fun _ h => h) rfl (by decide +kernel) rfl rfl (Nat.le_of_ble_eq_true rfl) hdg (fun H1 locs1 h1 h2 h3 => kk H1 locs1 ⟨h1, h2, h3⟩)
theorem gk_gt_Eq_events (hx : p.tables.exec = Jvm.exec) (hb : c.code = cc) (hK : va_K D vwCl (tys cI cZ cJ) s) {Ts : List Cond} (hts : ∀ w ∈ Ts, w.before args s = true) (hin : ∀ w ∈ u_ws R_Eq T_Eq 3, w ∈ Ts) (hown : s.vm.findClass R_Eq = some m.cls) (hP : va_P D vwCl (gkW cI cZ cJ a S) H) {index : Nat} (hlink : (Cond.fieldLink R_Eq index "GhostKeys$EventQueue" "events" "[I").before args s = true) (hdg : decode cc pc = .ok (.getfield index, 3))
    (kk : W p l e R s m args below meth c H locs cells slots Q (F0 m (pc + 3) ls (.ref (a 12) :: rest))) : W p l e R s m args below meth c H locs cells slots Q (F0 m pc ls (.ref (a 3) :: rest)) :=
  va_get (D := D) (ci := 3) (C := R_Eq) (T := T_Eq) (N := 3) hx hb hts hin hown hK hP 3 rfl rfl 0 (by decide) hlink (fun _ h => h) rfl hdg kk
theorem gk_gt_Eq_scanOf (hx : p.tables.exec = Jvm.exec) (hb : c.code = cc) (hK : va_K D vwCl (tys cI cZ cJ) s) {Ts : List Cond} (hts : ∀ w ∈ Ts, w.before args s = true) (hin : ∀ w ∈ u_ws R_Eq T_Eq 3, w ∈ Ts) (hown : s.vm.findClass R_Eq = some m.cls) (hP : va_P D vwCl (gkW cI cZ cJ a S) H) {index : Nat} (hlink : (Cond.fieldLink R_Eq index "GhostKeys$EventQueue" "scanOf" "[I").before args s = true) (hdg : decode cc pc = .ok (.getfield index, 3))
    (kk : W p l e R s m args below meth c H locs cells slots Q (F0 m (pc + 3) ls (.ref (a 13) :: rest))) : W p l e R s m args below meth c H locs cells slots Q (F0 m pc ls (.ref (a 3) :: rest)) :=
  va_get (D := D) (ci := 3) (C := R_Eq) (T := T_Eq) (N := 3) hx hb hts hin hown hK hP 3 rfl rfl 1 (by decide) hlink (fun _ h => h) rfl hdg kk
theorem gk_gt_Eq_length (hx : p.tables.exec = Jvm.exec) (hb : c.code = cc) (hK : va_K D vwCl (tys cI cZ cJ) s) {Ts : List Cond} (hts : ∀ w ∈ Ts, w.before args s = true) (hin : ∀ w ∈ u_ws R_Eq T_Eq 3, w ∈ Ts) (hown : s.vm.findClass R_Eq = some m.cls) (hP : va_P D vwCl (gkW cI cZ cJ a S) H) {index : Nat} (hlink : (Cond.fieldLink R_Eq index "GhostKeys$EventQueue" "length" "I").before args s = true) {v : Int32} (hv : S.1 7 0 = v) (hdg : decode cc pc = .ok (.getfield index, 3))
    (kk : W p l e R s m args below meth c H locs cells slots Q (F0 m (pc + 3) ls (.int v :: rest))) : W p l e R s m args below meth c H locs cells slots Q (F0 m pc ls (.ref (a 3) :: rest)) := by
  subst hv
  exact va_get (D := D) (ci := 3) (C := R_Eq) (T := T_Eq) (N := 3) hx hb hts hin hown hK hP 3 rfl rfl 2 (by decide) hlink (fun _ h => h) rfl hdg kk
theorem gk_pt_Eq_length (hx : p.tables.exec = Jvm.exec) (hb : c.code = cc) (hK : va_K D vwCl (tys cI cZ cJ) s) {Ts : List Cond} (hts : ∀ w ∈ Ts, w.before args s = true) (hin : ∀ w ∈ u_ws R_Eq T_Eq 3, w ∈ Ts) (hown : s.vm.findClass R_Eq = some m.cls) (hw : wf D A H0 (gkW cI cZ cJ a S) H locs) {index : Nat} (hlink : (Cond.fieldLink R_Eq index "GhostKeys$EventQueue" "length" "I").before args s = true) {v : Int32} (hdg : decode cc pc = .ok (.putfield index, 3))
    (kk : ∀ (H1 : Heap) (locs1 : List Loc), wf D A H0 (gkW cI cZ cJ a (gI S 7 (fun _ => v))) H1 locs1 → W p l e R s m args below meth c H1 locs1 cells slots Q (F0 m (pc + 3) ls rest)) : W p l e R s m args below meth c H locs cells slots Q (F0 m pc ls (.int v :: .ref (a 3) :: rest)) :=
  va_put (D := D) (ci := 3) (v := .int v) (ty := .int) (C := R_Eq) (T := T_Eq) (N := 3) hx hb hts hin ty_Eq ty_Eq_ok nm_Eq hown hK hw.1 hw.2.1 hw.2.2 3 rfl rfl 2 (by decide) hlink (fun _ h => h) rfl (by decide +kernel) rfl rfl (Nat.le_of_ble_eq_true rfl) hdg (fun H1 locs1 h1 h2 h3 => kk H1 locs1 ⟨h1, h2, h3⟩)
theorem gk_gt_Km_kinds (hx : p.tables.exec = Jvm.exec) (hb : c.code = cc) (hK : va_K D vwCl (tys cI cZ cJ) s) {Ts : List Cond} (hts : ∀ w ∈ Ts, w.before args s = true) (hin : ∀ w ∈ u_ws R_Km T_Km 4, w ∈ Ts) (hown : s.vm.findClass R_Km = some m.cls) (hP : va_P D vwCl (gkW cI cZ cJ a S) H) {index : Nat} (hlink : (Cond.fieldLink R_Km index "GhostKeys$Keymap" "kinds" "[I").before args s = true) (hdg : decode cc pc = .ok (.getfield index, 3))
    (kk : W p l e R s m args below meth c H locs cells slots Q (F0 m (pc + 3) ls (.ref (a 14) :: rest))) : W p l e R s m args below meth c H locs cells slots Q (F0 m pc ls (.ref (a 4) :: rest)) :=
  va_get (D := D) (ci := 4) (C := R_Km) (T := T_Km) (N := 4) hx hb hts hin hown hK hP 4 rfl rfl 0 (by decide) hlink (fun _ h => h) rfl hdg kk
theorem gk_gt_Km_firsts (hx : p.tables.exec = Jvm.exec) (hb : c.code = cc) (hK : va_K D vwCl (tys cI cZ cJ) s) {Ts : List Cond} (hts : ∀ w ∈ Ts, w.before args s = true) (hin : ∀ w ∈ u_ws R_Km T_Km 4, w ∈ Ts) (hown : s.vm.findClass R_Km = some m.cls) (hP : va_P D vwCl (gkW cI cZ cJ a S) H) {index : Nat} (hlink : (Cond.fieldLink R_Km index "GhostKeys$Keymap" "firsts" "[I").before args s = true) (hdg : decode cc pc = .ok (.getfield index, 3))
    (kk : W p l e R s m args below meth c H locs cells slots Q (F0 m (pc + 3) ls (.ref (a 15) :: rest))) : W p l e R s m args below meth c H locs cells slots Q (F0 m pc ls (.ref (a 4) :: rest)) :=
  va_get (D := D) (ci := 4) (C := R_Km) (T := T_Km) (N := 4) hx hb hts hin hown hK hP 4 rfl rfl 1 (by decide) hlink (fun _ h => h) rfl hdg kk
theorem gk_gt_Km_seconds (hx : p.tables.exec = Jvm.exec) (hb : c.code = cc) (hK : va_K D vwCl (tys cI cZ cJ) s) {Ts : List Cond} (hts : ∀ w ∈ Ts, w.before args s = true) (hin : ∀ w ∈ u_ws R_Km T_Km 4, w ∈ Ts) (hown : s.vm.findClass R_Km = some m.cls) (hP : va_P D vwCl (gkW cI cZ cJ a S) H) {index : Nat} (hlink : (Cond.fieldLink R_Km index "GhostKeys$Keymap" "seconds" "[I").before args s = true) (hdg : decode cc pc = .ok (.getfield index, 3))
    (kk : W p l e R s m args below meth c H locs cells slots Q (F0 m (pc + 3) ls (.ref (a 16) :: rest))) : W p l e R s m args below meth c H locs cells slots Q (F0 m pc ls (.ref (a 4) :: rest)) :=
  va_get (D := D) (ci := 4) (C := R_Km) (T := T_Km) (N := 4) hx hb hts hin hown hK hP 4 rfl rfl 2 (by decide) hlink (fun _ h => h) rfl hdg kk
theorem gk_gt_Km_macroCodes (hx : p.tables.exec = Jvm.exec) (hb : c.code = cc) (hK : va_K D vwCl (tys cI cZ cJ) s) {Ts : List Cond} (hts : ∀ w ∈ Ts, w.before args s = true) (hin : ∀ w ∈ u_ws R_Km T_Km 4, w ∈ Ts) (hown : s.vm.findClass R_Km = some m.cls) (hP : va_P D vwCl (gkW cI cZ cJ a S) H) {index : Nat} (hlink : (Cond.fieldLink R_Km index "GhostKeys$Keymap" "macroCodes" "[I").before args s = true) (hdg : decode cc pc = .ok (.getfield index, 3))
    (kk : W p l e R s m args below meth c H locs cells slots Q (F0 m (pc + 3) ls (.ref (a 17) :: rest))) : W p l e R s m args below meth c H locs cells slots Q (F0 m pc ls (.ref (a 4) :: rest)) :=
  va_get (D := D) (ci := 4) (C := R_Km) (T := T_Km) (N := 4) hx hb hts hin hown hK hP 4 rfl rfl 3 (by decide) hlink (fun _ h => h) rfl hdg kk
theorem gk_gt_Ch_keys (hx : p.tables.exec = Jvm.exec) (hb : c.code = cc) (hK : va_K D vwCl (tys cI cZ cJ) s) {Ts : List Cond} (hts : ∀ w ∈ Ts, w.before args s = true) (hin : ∀ w ∈ u_ws R_Ch T_Ch 2, w ∈ Ts) (hown : s.vm.findClass R_Ch = some m.cls) (hP : va_P D vwCl (gkW cI cZ cJ a S) H) {index : Nat} (hlink : (Cond.fieldLink R_Ch index "GhostKeys$Chords" "keys" "[I").before args s = true) (hdg : decode cc pc = .ok (.getfield index, 3))
    (kk : W p l e R s m args below meth c H locs cells slots Q (F0 m (pc + 3) ls (.ref (a 18) :: rest))) : W p l e R s m args below meth c H locs cells slots Q (F0 m pc ls (.ref (a 5) :: rest)) :=
  va_get (D := D) (ci := 5) (C := R_Ch) (T := T_Ch) (N := 2) hx hb hts hin hown hK hP 5 rfl rfl 0 (by decide) hlink (fun _ h => h) rfl hdg kk
theorem gk_gt_Ch_codes (hx : p.tables.exec = Jvm.exec) (hb : c.code = cc) (hK : va_K D vwCl (tys cI cZ cJ) s) {Ts : List Cond} (hts : ∀ w ∈ Ts, w.before args s = true) (hin : ∀ w ∈ u_ws R_Ch T_Ch 2, w ∈ Ts) (hown : s.vm.findClass R_Ch = some m.cls) (hP : va_P D vwCl (gkW cI cZ cJ a S) H) {index : Nat} (hlink : (Cond.fieldLink R_Ch index "GhostKeys$Chords" "codes" "[I").before args s = true) (hdg : decode cc pc = .ok (.getfield index, 3))
    (kk : W p l e R s m args below meth c H locs cells slots Q (F0 m (pc + 3) ls (.ref (a 19) :: rest))) : W p l e R s m args below meth c H locs cells slots Q (F0 m pc ls (.ref (a 5) :: rest)) :=
  va_get (D := D) (ci := 5) (C := R_Ch) (T := T_Ch) (N := 2) hx hb hts hin hown hK hP 5 rfl rfl 1 (by decide) hlink (fun _ h => h) rfl hdg kk
theorem gk_gt_La_holders (hx : p.tables.exec = Jvm.exec) (hb : c.code = cc) (hK : va_K D vwCl (tys cI cZ cJ) s) {Ts : List Cond} (hts : ∀ w ∈ Ts, w.before args s = true) (hin : ∀ w ∈ u_ws R_La T_La 3, w ∈ Ts) (hown : s.vm.findClass R_La = some m.cls) (hP : va_P D vwCl (gkW cI cZ cJ a S) H) {index : Nat} (hlink : (Cond.fieldLink R_La index "GhostKeys$Layers" "holders" "[I").before args s = true) (hdg : decode cc pc = .ok (.getfield index, 3))
    (kk : W p l e R s m args below meth c H locs cells slots Q (F0 m (pc + 3) ls (.ref (a 20) :: rest))) : W p l e R s m args below meth c H locs cells slots Q (F0 m pc ls (.ref (a 6) :: rest)) :=
  va_get (D := D) (ci := 6) (C := R_La) (T := T_La) (N := 3) hx hb hts hin hown hK hP 6 rfl rfl 0 (by decide) hlink (fun _ h => h) rfl hdg kk
theorem gk_gt_La_locked (hx : p.tables.exec = Jvm.exec) (hb : c.code = cc) (hK : va_K D vwCl (tys cI cZ cJ) s) {Ts : List Cond} (hts : ∀ w ∈ Ts, w.before args s = true) (hin : ∀ w ∈ u_ws R_La T_La 3, w ∈ Ts) (hown : s.vm.findClass R_La = some m.cls) (hP : va_P D vwCl (gkW cI cZ cJ a S) H) {index : Nat} (hlink : (Cond.fieldLink R_La index "GhostKeys$Layers" "locked" "I").before args s = true) {v : Int32} (hv : S.1 8 0 = v) (hdg : decode cc pc = .ok (.getfield index, 3))
    (kk : W p l e R s m args below meth c H locs cells slots Q (F0 m (pc + 3) ls (.int v :: rest))) : W p l e R s m args below meth c H locs cells slots Q (F0 m pc ls (.ref (a 6) :: rest)) := by
  subst hv
  exact va_get (D := D) (ci := 6) (C := R_La) (T := T_La) (N := 3) hx hb hts hin hown hK hP 6 rfl rfl 1 (by decide) hlink (fun _ h => h) rfl hdg kk
theorem gk_pt_La_locked (hx : p.tables.exec = Jvm.exec) (hb : c.code = cc) (hK : va_K D vwCl (tys cI cZ cJ) s) {Ts : List Cond} (hts : ∀ w ∈ Ts, w.before args s = true) (hin : ∀ w ∈ u_ws R_La T_La 3, w ∈ Ts) (hown : s.vm.findClass R_La = some m.cls) (hw : wf D A H0 (gkW cI cZ cJ a S) H locs) {index : Nat} (hlink : (Cond.fieldLink R_La index "GhostKeys$Layers" "locked" "I").before args s = true) {v : Int32} (hdg : decode cc pc = .ok (.putfield index, 3))
    (kk : ∀ (H1 : Heap) (locs1 : List Loc), wf D A H0 (gkW cI cZ cJ a (gI S 8 (fun _ => v))) H1 locs1 → W p l e R s m args below meth c H1 locs1 cells slots Q (F0 m (pc + 3) ls rest)) : W p l e R s m args below meth c H locs cells slots Q (F0 m pc ls (.int v :: .ref (a 6) :: rest)) :=
  va_put (D := D) (ci := 6) (v := .int v) (ty := .int) (C := R_La) (T := T_La) (N := 3) hx hb hts hin ty_La ty_La_ok nm_La hown hK hw.1 hw.2.1 hw.2.2 6 rfl rfl 1 (by decide) hlink (fun _ h => h) rfl (by decide +kernel) rfl rfl (Nat.le_of_ble_eq_true rfl) hdg (fun H1 locs1 h1 h2 h3 => kk H1 locs1 ⟨h1, h2, h3⟩)
theorem gk_gt_La_armed (hx : p.tables.exec = Jvm.exec) (hb : c.code = cc) (hK : va_K D vwCl (tys cI cZ cJ) s) {Ts : List Cond} (hts : ∀ w ∈ Ts, w.before args s = true) (hin : ∀ w ∈ u_ws R_La T_La 3, w ∈ Ts) (hown : s.vm.findClass R_La = some m.cls) (hP : va_P D vwCl (gkW cI cZ cJ a S) H) {index : Nat} (hlink : (Cond.fieldLink R_La index "GhostKeys$Layers" "armed" "I").before args s = true) {v : Int32} (hv : S.1 9 0 = v) (hdg : decode cc pc = .ok (.getfield index, 3))
    (kk : W p l e R s m args below meth c H locs cells slots Q (F0 m (pc + 3) ls (.int v :: rest))) : W p l e R s m args below meth c H locs cells slots Q (F0 m pc ls (.ref (a 6) :: rest)) := by
  subst hv
  exact va_get (D := D) (ci := 6) (C := R_La) (T := T_La) (N := 3) hx hb hts hin hown hK hP 6 rfl rfl 2 (by decide) hlink (fun _ h => h) rfl hdg kk
theorem gk_pt_La_armed (hx : p.tables.exec = Jvm.exec) (hb : c.code = cc) (hK : va_K D vwCl (tys cI cZ cJ) s) {Ts : List Cond} (hts : ∀ w ∈ Ts, w.before args s = true) (hin : ∀ w ∈ u_ws R_La T_La 3, w ∈ Ts) (hown : s.vm.findClass R_La = some m.cls) (hw : wf D A H0 (gkW cI cZ cJ a S) H locs) {index : Nat} (hlink : (Cond.fieldLink R_La index "GhostKeys$Layers" "armed" "I").before args s = true) {v : Int32} (hdg : decode cc pc = .ok (.putfield index, 3))
    (kk : ∀ (H1 : Heap) (locs1 : List Loc), wf D A H0 (gkW cI cZ cJ a (gI S 9 (fun _ => v))) H1 locs1 → W p l e R s m args below meth c H1 locs1 cells slots Q (F0 m (pc + 3) ls rest)) : W p l e R s m args below meth c H locs cells slots Q (F0 m pc ls (.int v :: .ref (a 6) :: rest)) :=
  va_put (D := D) (ci := 6) (v := .int v) (ty := .int) (C := R_La) (T := T_La) (N := 3) hx hb hts hin ty_La ty_La_ok nm_La hown hK hw.1 hw.2.1 hw.2.2 6 rfl rfl 2 (by decide) hlink (fun _ h => h) rfl (by decide +kernel) rfl rfl (Nat.le_of_ble_eq_true rfl) hdg (fun H1 locs1 h1 h2 h3 => kk H1 locs1 ⟨h1, h2, h3⟩)
theorem gk_gt_Ho_codes (hx : p.tables.exec = Jvm.exec) (hb : c.code = cc) (hK : va_K D vwCl (tys cI cZ cJ) s) {Ts : List Cond} (hts : ∀ w ∈ Ts, w.before args s = true) (hin : ∀ w ∈ u_ws R_Ho T_Ho 2, w ∈ Ts) (hown : s.vm.findClass R_Ho = some m.cls) (hP : va_P D vwCl (gkW cI cZ cJ a S) H) {index : Nat} (hlink : (Cond.fieldLink R_Ho index "GhostKeys$Holds" "codes" "[I").before args s = true) (hdg : decode cc pc = .ok (.getfield index, 3))
    (kk : W p l e R s m args below meth c H locs cells slots Q (F0 m (pc + 3) ls (.ref (a 21) :: rest))) : W p l e R s m args below meth c H locs cells slots Q (F0 m pc ls (.ref (a 7) :: rest)) :=
  va_get (D := D) (ci := 7) (C := R_Ho) (T := T_Ho) (N := 2) hx hb hts hin hown hK hP 7 rfl rfl 0 (by decide) hlink (fun _ h => h) rfl hdg kk
theorem gk_gt_Ho_mates (hx : p.tables.exec = Jvm.exec) (hb : c.code = cc) (hK : va_K D vwCl (tys cI cZ cJ) s) {Ts : List Cond} (hts : ∀ w ∈ Ts, w.before args s = true) (hin : ∀ w ∈ u_ws R_Ho T_Ho 2, w ∈ Ts) (hown : s.vm.findClass R_Ho = some m.cls) (hP : va_P D vwCl (gkW cI cZ cJ a S) H) {index : Nat} (hlink : (Cond.fieldLink R_Ho index "GhostKeys$Holds" "mates" "[I").before args s = true) (hdg : decode cc pc = .ok (.getfield index, 3))
    (kk : W p l e R s m args below meth c H locs cells slots Q (F0 m (pc + 3) ls (.ref (a 22) :: rest))) : W p l e R s m args below meth c H locs cells slots Q (F0 m pc ls (.ref (a 7) :: rest)) :=
  va_get (D := D) (ci := 7) (C := R_Ho) (T := T_Ho) (N := 2) hx hb hts hin hown hK hP 7 rfl rfl 1 (by decide) hlink (fun _ h => h) rfl hdg kk
theorem gk_gt_Re_holders (hx : p.tables.exec = Jvm.exec) (hb : c.code = cc) (hK : va_K D vwCl (tys cI cZ cJ) s) {Ts : List Cond} (hts : ∀ w ∈ Ts, w.before args s = true) (hin : ∀ w ∈ u_ws R_Re T_Re 7, w ∈ Ts) (hown : s.vm.findClass R_Re = some m.cls) (hP : va_P D vwCl (gkW cI cZ cJ a S) H) {index : Nat} (hlink : (Cond.fieldLink R_Re index "GhostKeys$Reports" "holders" "[I").before args s = true) (hdg : decode cc pc = .ok (.getfield index, 3))
    (kk : W p l e R s m args below meth c H locs cells slots Q (F0 m (pc + 3) ls (.ref (a 23) :: rest))) : W p l e R s m args below meth c H locs cells slots Q (F0 m pc ls (.ref (a 8) :: rest)) :=
  va_get (D := D) (ci := 8) (C := R_Re) (T := T_Re) (N := 7) hx hb hts hin hown hK hP 8 rfl rfl 0 (by decide) hlink (fun _ h => h) rfl hdg kk
theorem gk_gt_Re_store (hx : p.tables.exec = Jvm.exec) (hb : c.code = cc) (hK : va_K D vwCl (tys cI cZ cJ) s) {Ts : List Cond} (hts : ∀ w ∈ Ts, w.before args s = true) (hin : ∀ w ∈ u_ws R_Re T_Re 7, w ∈ Ts) (hown : s.vm.findClass R_Re = some m.cls) (hP : va_P D vwCl (gkW cI cZ cJ a S) H) {index : Nat} (hlink : (Cond.fieldLink R_Re index "GhostKeys$Reports" "store" "[J").before args s = true) (hdg : decode cc pc = .ok (.getfield index, 3))
    (kk : W p l e R s m args below meth c H locs cells slots Q (F0 m (pc + 3) ls (.ref (a 24) :: rest))) : W p l e R s m args below meth c H locs cells slots Q (F0 m pc ls (.ref (a 8) :: rest)) :=
  va_get (D := D) (ci := 8) (C := R_Re) (T := T_Re) (N := 7) hx hb hts hin hown hK hP 8 rfl rfl 1 (by decide) hlink (fun _ h => h) rfl hdg kk
theorem gk_gt_Re_oldest (hx : p.tables.exec = Jvm.exec) (hb : c.code = cc) (hK : va_K D vwCl (tys cI cZ cJ) s) {Ts : List Cond} (hts : ∀ w ∈ Ts, w.before args s = true) (hin : ∀ w ∈ u_ws R_Re T_Re 7, w ∈ Ts) (hown : s.vm.findClass R_Re = some m.cls) (hP : va_P D vwCl (gkW cI cZ cJ a S) H) {index : Nat} (hlink : (Cond.fieldLink R_Re index "GhostKeys$Reports" "oldest" "I").before args s = true) {v : Int32} (hv : S.1 10 0 = v) (hdg : decode cc pc = .ok (.getfield index, 3))
    (kk : W p l e R s m args below meth c H locs cells slots Q (F0 m (pc + 3) ls (.int v :: rest))) : W p l e R s m args below meth c H locs cells slots Q (F0 m pc ls (.ref (a 8) :: rest)) := by
  subst hv
  exact va_get (D := D) (ci := 8) (C := R_Re) (T := T_Re) (N := 7) hx hb hts hin hown hK hP 8 rfl rfl 2 (by decide) hlink (fun _ h => h) rfl hdg kk
theorem gk_pt_Re_oldest (hx : p.tables.exec = Jvm.exec) (hb : c.code = cc) (hK : va_K D vwCl (tys cI cZ cJ) s) {Ts : List Cond} (hts : ∀ w ∈ Ts, w.before args s = true) (hin : ∀ w ∈ u_ws R_Re T_Re 7, w ∈ Ts) (hown : s.vm.findClass R_Re = some m.cls) (hw : wf D A H0 (gkW cI cZ cJ a S) H locs) {index : Nat} (hlink : (Cond.fieldLink R_Re index "GhostKeys$Reports" "oldest" "I").before args s = true) {v : Int32} (hdg : decode cc pc = .ok (.putfield index, 3))
    (kk : ∀ (H1 : Heap) (locs1 : List Loc), wf D A H0 (gkW cI cZ cJ a (gI S 10 (fun _ => v))) H1 locs1 → W p l e R s m args below meth c H1 locs1 cells slots Q (F0 m (pc + 3) ls rest)) : W p l e R s m args below meth c H locs cells slots Q (F0 m pc ls (.int v :: .ref (a 8) :: rest)) :=
  va_put (D := D) (ci := 8) (v := .int v) (ty := .int) (C := R_Re) (T := T_Re) (N := 7) hx hb hts hin ty_Re ty_Re_ok nm_Re hown hK hw.1 hw.2.1 hw.2.2 8 rfl rfl 2 (by decide) hlink (fun _ h => h) rfl (by decide +kernel) rfl rfl (Nat.le_of_ble_eq_true rfl) hdg (fun H1 locs1 h1 h2 h3 => kk H1 locs1 ⟨h1, h2, h3⟩)
theorem gk_gt_Re_stored (hx : p.tables.exec = Jvm.exec) (hb : c.code = cc) (hK : va_K D vwCl (tys cI cZ cJ) s) {Ts : List Cond} (hts : ∀ w ∈ Ts, w.before args s = true) (hin : ∀ w ∈ u_ws R_Re T_Re 7, w ∈ Ts) (hown : s.vm.findClass R_Re = some m.cls) (hP : va_P D vwCl (gkW cI cZ cJ a S) H) {index : Nat} (hlink : (Cond.fieldLink R_Re index "GhostKeys$Reports" "stored" "I").before args s = true) {v : Int32} (hv : S.1 11 0 = v) (hdg : decode cc pc = .ok (.getfield index, 3))
    (kk : W p l e R s m args below meth c H locs cells slots Q (F0 m (pc + 3) ls (.int v :: rest))) : W p l e R s m args below meth c H locs cells slots Q (F0 m pc ls (.ref (a 8) :: rest)) := by
  subst hv
  exact va_get (D := D) (ci := 8) (C := R_Re) (T := T_Re) (N := 7) hx hb hts hin hown hK hP 8 rfl rfl 3 (by decide) hlink (fun _ h => h) rfl hdg kk
theorem gk_pt_Re_stored (hx : p.tables.exec = Jvm.exec) (hb : c.code = cc) (hK : va_K D vwCl (tys cI cZ cJ) s) {Ts : List Cond} (hts : ∀ w ∈ Ts, w.before args s = true) (hin : ∀ w ∈ u_ws R_Re T_Re 7, w ∈ Ts) (hown : s.vm.findClass R_Re = some m.cls) (hw : wf D A H0 (gkW cI cZ cJ a S) H locs) {index : Nat} (hlink : (Cond.fieldLink R_Re index "GhostKeys$Reports" "stored" "I").before args s = true) {v : Int32} (hdg : decode cc pc = .ok (.putfield index, 3))
    (kk : ∀ (H1 : Heap) (locs1 : List Loc), wf D A H0 (gkW cI cZ cJ a (gI S 11 (fun _ => v))) H1 locs1 → W p l e R s m args below meth c H1 locs1 cells slots Q (F0 m (pc + 3) ls rest)) : W p l e R s m args below meth c H locs cells slots Q (F0 m pc ls (.int v :: .ref (a 8) :: rest)) :=
  va_put (D := D) (ci := 8) (v := .int v) (ty := .int) (C := R_Re) (T := T_Re) (N := 7) hx hb hts hin ty_Re ty_Re_ok nm_Re hown hK hw.1 hw.2.1 hw.2.2 8 rfl rfl 3 (by decide) hlink (fun _ h => h) rfl (by decide +kernel) rfl rfl (Nat.le_of_ble_eq_true rfl) hdg (fun H1 locs1 h1 h2 h3 => kk H1 locs1 ⟨h1, h2, h3⟩)
theorem gk_gt_Re_late (hx : p.tables.exec = Jvm.exec) (hb : c.code = cc) (hK : va_K D vwCl (tys cI cZ cJ) s) {Ts : List Cond} (hts : ∀ w ∈ Ts, w.before args s = true) (hin : ∀ w ∈ u_ws R_Re T_Re 7, w ∈ Ts) (hown : s.vm.findClass R_Re = some m.cls) (hP : va_P D vwCl (gkW cI cZ cJ a S) H) {index : Nat} (hlink : (Cond.fieldLink R_Re index "GhostKeys$Reports" "late" "Z").before args s = true) {v : Int32} (hv : S.1 12 0 = v) (hdg : decode cc pc = .ok (.getfield index, 3))
    (kk : W p l e R s m args below meth c H locs cells slots Q (F0 m (pc + 3) ls (.int v :: rest))) : W p l e R s m args below meth c H locs cells slots Q (F0 m pc ls (.ref (a 8) :: rest)) := by
  subst hv
  exact va_get (D := D) (ci := 8) (C := R_Re) (T := T_Re) (N := 7) hx hb hts hin hown hK hP 8 rfl rfl 4 (by decide) hlink (fun _ h => h) rfl hdg kk
theorem gk_pt_Re_late (hx : p.tables.exec = Jvm.exec) (hb : c.code = cc) (hK : va_K D vwCl (tys cI cZ cJ) s) {Ts : List Cond} (hts : ∀ w ∈ Ts, w.before args s = true) (hin : ∀ w ∈ u_ws R_Re T_Re 7, w ∈ Ts) (hown : s.vm.findClass R_Re = some m.cls) (hw : wf D A H0 (gkW cI cZ cJ a S) H locs) {index : Nat} (hlink : (Cond.fieldLink R_Re index "GhostKeys$Reports" "late" "Z").before args s = true) {v : Int32} (hn : narrow .boolean (.int v) = .int v) (hn2 : fits .boolean (.int v) = true) (hdg : decode cc pc = .ok (.putfield index, 3))
    (kk : ∀ (H1 : Heap) (locs1 : List Loc), wf D A H0 (gkW cI cZ cJ a (gI S 12 (fun _ => v))) H1 locs1 → W p l e R s m args below meth c H1 locs1 cells slots Q (F0 m (pc + 3) ls rest)) : W p l e R s m args below meth c H locs cells slots Q (F0 m pc ls (.int v :: .ref (a 8) :: rest)) :=
  va_put (D := D) (ci := 8) (v := .int v) (ty := .boolean) (C := R_Re) (T := T_Re) (N := 7) hx hb hts hin ty_Re ty_Re_ok nm_Re hown hK hw.1 hw.2.1 hw.2.2 8 rfl rfl 4 (by decide) hlink (fun _ h => h) rfl (by decide +kernel) hn hn2 (Nat.le_of_ble_eq_true rfl) hdg (fun H1 locs1 h1 h2 h3 => kk H1 locs1 ⟨h1, h2, h3⟩)
theorem gk_gt_Re_lastPut (hx : p.tables.exec = Jvm.exec) (hb : c.code = cc) (hK : va_K D vwCl (tys cI cZ cJ) s) {Ts : List Cond} (hts : ∀ w ∈ Ts, w.before args s = true) (hin : ∀ w ∈ u_ws R_Re T_Re 7, w ∈ Ts) (hown : s.vm.findClass R_Re = some m.cls) (hP : va_P D vwCl (gkW cI cZ cJ a S) H) {index : Nat} (hlink : (Cond.fieldLink R_Re index "GhostKeys$Reports" "lastPut" "J").before args s = true) {v : Int64} (hv : S.2 0 0 = v) (hdg : decode cc pc = .ok (.getfield index, 3))
    (kk : W p l e R s m args below meth c H locs cells slots Q (F0 m (pc + 3) ls (.long v :: rest))) : W p l e R s m args below meth c H locs cells slots Q (F0 m pc ls (.ref (a 8) :: rest)) := by
  subst hv
  exact va_get (D := D) (ci := 8) (C := R_Re) (T := T_Re) (N := 7) hx hb hts hin hown hK hP 8 rfl rfl 5 (by decide) hlink (fun _ h => h) rfl hdg kk
theorem gk_pt_Re_lastPut (hx : p.tables.exec = Jvm.exec) (hb : c.code = cc) (hK : va_K D vwCl (tys cI cZ cJ) s) {Ts : List Cond} (hts : ∀ w ∈ Ts, w.before args s = true) (hin : ∀ w ∈ u_ws R_Re T_Re 7, w ∈ Ts) (hown : s.vm.findClass R_Re = some m.cls) (hw : wf D A H0 (gkW cI cZ cJ a S) H locs) {index : Nat} (hlink : (Cond.fieldLink R_Re index "GhostKeys$Reports" "lastPut" "J").before args s = true) {v : Int64} (hdg : decode cc pc = .ok (.putfield index, 3))
    (kk : ∀ (H1 : Heap) (locs1 : List Loc), wf D A H0 (gkW cI cZ cJ a (gL S 0 (fun _ => v))) H1 locs1 → W p l e R s m args below meth c H1 locs1 cells slots Q (F0 m (pc + 3) ls rest)) : W p l e R s m args below meth c H locs cells slots Q (F0 m pc ls (.long v :: .ref (a 8) :: rest)) :=
  va_put (D := D) (ci := 8) (v := .long v) (ty := .long) (C := R_Re) (T := T_Re) (N := 7) hx hb hts hin ty_Re ty_Re_ok nm_Re hown hK hw.1 hw.2.1 hw.2.2 8 rfl rfl 5 (by decide) hlink (fun _ h => h) rfl (by decide +kernel) rfl rfl (Nat.le_of_ble_eq_true rfl) hdg (fun H1 locs1 h1 h2 h3 => kk H1 locs1 ⟨h1, h2, h3⟩)
theorem gk_gt_Re_taken (hx : p.tables.exec = Jvm.exec) (hb : c.code = cc) (hK : va_K D vwCl (tys cI cZ cJ) s) {Ts : List Cond} (hts : ∀ w ∈ Ts, w.before args s = true) (hin : ∀ w ∈ u_ws R_Re T_Re 7, w ∈ Ts) (hown : s.vm.findClass R_Re = some m.cls) (hP : va_P D vwCl (gkW cI cZ cJ a S) H) {index : Nat} (hlink : (Cond.fieldLink R_Re index "GhostKeys$Reports" "taken" "J").before args s = true) {v : Int64} (hv : S.2 1 0 = v) (hdg : decode cc pc = .ok (.getfield index, 3))
    (kk : W p l e R s m args below meth c H locs cells slots Q (F0 m (pc + 3) ls (.long v :: rest))) : W p l e R s m args below meth c H locs cells slots Q (F0 m pc ls (.ref (a 8) :: rest)) := by
  subst hv
  exact va_get (D := D) (ci := 8) (C := R_Re) (T := T_Re) (N := 7) hx hb hts hin hown hK hP 8 rfl rfl 6 (by decide) hlink (fun _ h => h) rfl hdg kk
theorem gk_pt_Re_taken (hx : p.tables.exec = Jvm.exec) (hb : c.code = cc) (hK : va_K D vwCl (tys cI cZ cJ) s) {Ts : List Cond} (hts : ∀ w ∈ Ts, w.before args s = true) (hin : ∀ w ∈ u_ws R_Re T_Re 7, w ∈ Ts) (hown : s.vm.findClass R_Re = some m.cls) (hw : wf D A H0 (gkW cI cZ cJ a S) H locs) {index : Nat} (hlink : (Cond.fieldLink R_Re index "GhostKeys$Reports" "taken" "J").before args s = true) {v : Int64} (hdg : decode cc pc = .ok (.putfield index, 3))
    (kk : ∀ (H1 : Heap) (locs1 : List Loc), wf D A H0 (gkW cI cZ cJ a (gL S 1 (fun _ => v))) H1 locs1 → W p l e R s m args below meth c H1 locs1 cells slots Q (F0 m (pc + 3) ls rest)) : W p l e R s m args below meth c H locs cells slots Q (F0 m pc ls (.long v :: .ref (a 8) :: rest)) :=
  va_put (D := D) (ci := 8) (v := .long v) (ty := .long) (C := R_Re) (T := T_Re) (N := 7) hx hb hts hin ty_Re ty_Re_ok nm_Re hown hK hw.1 hw.2.1 hw.2.2 8 rfl rfl 6 (by decide) hlink (fun _ h => h) rfl (by decide +kernel) rfl rfl (Nat.le_of_ble_eq_true rfl) hdg (fun H1 locs1 h1 h2 h3 => kk H1 locs1 ⟨h1, h2, h3⟩)
end
def mdW (cI cZ cJ : ClassId) (a : Nat → Nat) (S : GS) : va_W := [(a 0, .inr (9, [.int (S.1 0 0), .int (S.1 1 0), .ref (a 1), .ref (a 2), .ref (a 3), .ref (a 4), .ref (a 5), .ref (a 6), .ref (a 7), .int (S.1 2 0), .ref (a 8), .ref (a 9), .int (S.1 3 0), .ref (a 10), .ref (a 11), .ref (a 12), .ref (a 13), .ref (a 14), .ref (a 15), .ref (a 16), .ref (a 17), .ref (a 18), .ref (a 19), .ref (a 20), .ref (a 21), .int (S.1 4 0), .ref (a 22), .ref (a 23), .int (S.1 5 0), .int (S.1 6 0)])), (a 1, .inl (cZ, 24, .inl (S.1 7))), (a 2, .inl (cI, 24, .inl (S.1 8))), (a 3, .inl (cZ, 24, .inl (S.1 9))), (a 4, .inl (cZ, 24, .inl (S.1 10))), (a 5, .inl (cZ, 24, .inl (S.1 11))), (a 6, .inl (cI, 24, .inl (S.1 12))), (a 7, .inl (cZ, 24, .inl (S.1 13))), (a 8, .inl (cI, 80, .inl (S.1 14))), (a 9, .inl (cI, 80, .inl (S.1 15))), (a 10, .inl (cI, 32, .inl (S.1 16))), (a 11, .inl (cI, 96, .inl (S.1 17))), (a 12, .inl (cI, 96, .inl (S.1 18))), (a 13, .inl (cI, 96, .inl (S.1 19))), (a 14, .inl (cI, 16, .inl (S.1 20))), (a 15, .inl (cI, 4, .inl (S.1 21))), (a 16, .inl (cI, 4, .inl (S.1 22))), (a 17, .inl (cZ, 4, .inl (S.1 23))), (a 18, .inl (cZ, 4, .inl (S.1 24))), (a 19, .inl (cI, 24, .inl (S.1 25))), (a 20, .inl (cI, 24, .inl (S.1 26))), (a 21, .inl (cI, 24, .inl (S.1 27))), (a 22, .inl (cI, 108, .inl (S.1 28))), (a 23, .inl (cI, 77, .inl (S.1 29)))]
section
variable {p : Program} {l : Launch} {e : Env} {R : Room} {s : State} {m : MethodId} {args : Array Value} {below : List Frame} {meth : Method} {c : Code} {H : Heap} {locs : List Loc} {cells slots : Nat} {Q : State → Prop}
variable {cc : ByteArray} {pc : Nat} {ls : Array Slot} {rest : List Value} {D : va_G} {A : Nat → Prop} {H0 : Heap} {cI cZ cJ : ClassId} {a : Nat → Nat} {S : GS}
/-- GhostKeysModel.wired, read -/
theorem md_ld1 (hx : p.tables.exec = Jvm.exec) (hb : c.code = cc) (hK : va_K D vwCl (tys cI cZ cJ) s) (hP : va_P D vwCl (mdW cI cZ cJ a S) H) {i : Int32} {v : Int32} (hin : vp_in i 24) (hv : S.1 7 i.toNatClampNeg = v) (hdg : decode cc pc = .ok (.baload, 1))
    (kk : W p l e R s m args below meth c H locs cells slots Q (F0 m (pc + 1) ls (.int v :: rest))) : W p l e R s m args below meth c H locs cells slots Q (F0 m pc ls (.int i :: .ref (a 1) :: rest)) := by
  subst hv
  exact va_zald hx hb hK hP 1 1 rfl rfl hin hdg kk
/-- GhostKeysModel.wired, written -/
theorem md_st1 (hx : p.tables.exec = Jvm.exec) (hb : c.code = cc) (hK : va_K D vwCl (tys cI cZ cJ) s) (hw : wf D A H0 (mdW cI cZ cJ a S) H locs) {i : Int32} {x : Int32} (hin : vp_in i 24) (hdg : decode cc pc = .ok (.bastore, 1))
    (kk : ∀ (H1 : Heap) (locs1 : List Loc), wf D A H0 (mdW cI cZ cJ a (gI S 7 (upd (S.1 7) (i).toNatClampNeg (vp_nar .boolean (x))))) H1 locs1 → W p l e R s m args below meth c H1 locs1 cells slots Q (F0 m (pc + 1) ls rest)) : W p l e R s m args below meth c H locs cells slots Q (F0 m pc ls (.int x :: .int i :: .ref (a 1) :: rest)) :=
  va_zast hx hb hK hw.1 hw.2.1 hw.2.2 1 1 rfl rfl hin hdg (fun H1 locs1 h1 h2 h3 => kk H1 locs1 ⟨h1, h2, h3⟩)
/-- GhostKeysModel.bounces, read -/
theorem md_ld2 (hx : p.tables.exec = Jvm.exec) (hb : c.code = cc) (hK : va_K D vwCl (tys cI cZ cJ) s) (hP : va_P D vwCl (mdW cI cZ cJ a S) H) {i : Int32} {v : Int32} (hin : vp_in i 24) (hv : S.1 8 i.toNatClampNeg = v) (hdg : decode cc pc = .ok (.iaload, 1))
    (kk : W p l e R s m args below meth c H locs cells slots Q (F0 m (pc + 1) ls (.int v :: rest))) : W p l e R s m args below meth c H locs cells slots Q (F0 m pc ls (.int i :: .ref (a 2) :: rest)) := by
  subst hv
  exact va_iald hx hb hK hP 2 0 rfl rfl hin hdg kk
/-- GhostKeysModel.bounces, written -/
theorem md_st2 (hx : p.tables.exec = Jvm.exec) (hb : c.code = cc) (hK : va_K D vwCl (tys cI cZ cJ) s) (hw : wf D A H0 (mdW cI cZ cJ a S) H locs) {i : Int32} {x : Int32} (hin : vp_in i 24) (hdg : decode cc pc = .ok (.iastore, 1))
    (kk : ∀ (H1 : Heap) (locs1 : List Loc), wf D A H0 (mdW cI cZ cJ a (gI S 8 (upd (S.1 8) (i).toNatClampNeg (x)))) H1 locs1 → W p l e R s m args below meth c H1 locs1 cells slots Q (F0 m (pc + 1) ls rest)) : W p l e R s m args below meth c H locs cells slots Q (F0 m pc ls (.int x :: .int i :: .ref (a 2) :: rest)) :=
  va_iast hx hb hK hw.1 hw.2.1 hw.2.2 2 0 rfl rfl hin hdg (fun H1 locs1 h1 h2 h3 => kk H1 locs1 ⟨h1, h2, h3⟩)
/-- GhostKeysModel.closed, read -/
theorem md_ld3 (hx : p.tables.exec = Jvm.exec) (hb : c.code = cc) (hK : va_K D vwCl (tys cI cZ cJ) s) (hP : va_P D vwCl (mdW cI cZ cJ a S) H) {i : Int32} {v : Int32} (hin : vp_in i 24) (hv : S.1 9 i.toNatClampNeg = v) (hdg : decode cc pc = .ok (.baload, 1))
    (kk : W p l e R s m args below meth c H locs cells slots Q (F0 m (pc + 1) ls (.int v :: rest))) : W p l e R s m args below meth c H locs cells slots Q (F0 m pc ls (.int i :: .ref (a 3) :: rest)) := by
  subst hv
  exact va_zald hx hb hK hP 3 1 rfl rfl hin hdg kk
/-- GhostKeysModel.closed, written -/
theorem md_st3 (hx : p.tables.exec = Jvm.exec) (hb : c.code = cc) (hK : va_K D vwCl (tys cI cZ cJ) s) (hw : wf D A H0 (mdW cI cZ cJ a S) H locs) {i : Int32} {x : Int32} (hin : vp_in i 24) (hdg : decode cc pc = .ok (.bastore, 1))
    (kk : ∀ (H1 : Heap) (locs1 : List Loc), wf D A H0 (mdW cI cZ cJ a (gI S 9 (upd (S.1 9) (i).toNatClampNeg (vp_nar .boolean (x))))) H1 locs1 → W p l e R s m args below meth c H1 locs1 cells slots Q (F0 m (pc + 1) ls rest)) : W p l e R s m args below meth c H locs cells slots Q (F0 m pc ls (.int x :: .int i :: .ref (a 3) :: rest)) :=
  va_zast hx hb hK hw.1 hw.2.1 hw.2.2 3 1 rfl rfl hin hdg (fun H1 locs1 h1 h2 h3 => kk H1 locs1 ⟨h1, h2, h3⟩)
/-- GhostKeysModel.read, read -/
theorem md_ld4 (hx : p.tables.exec = Jvm.exec) (hb : c.code = cc) (hK : va_K D vwCl (tys cI cZ cJ) s) (hP : va_P D vwCl (mdW cI cZ cJ a S) H) {i : Int32} {v : Int32} (hin : vp_in i 24) (hv : S.1 10 i.toNatClampNeg = v) (hdg : decode cc pc = .ok (.baload, 1))
    (kk : W p l e R s m args below meth c H locs cells slots Q (F0 m (pc + 1) ls (.int v :: rest))) : W p l e R s m args below meth c H locs cells slots Q (F0 m pc ls (.int i :: .ref (a 4) :: rest)) := by
  subst hv
  exact va_zald hx hb hK hP 4 1 rfl rfl hin hdg kk
/-- GhostKeysModel.read, written -/
theorem md_st4 (hx : p.tables.exec = Jvm.exec) (hb : c.code = cc) (hK : va_K D vwCl (tys cI cZ cJ) s) (hw : wf D A H0 (mdW cI cZ cJ a S) H locs) {i : Int32} {x : Int32} (hin : vp_in i 24) (hdg : decode cc pc = .ok (.bastore, 1))
    (kk : ∀ (H1 : Heap) (locs1 : List Loc), wf D A H0 (mdW cI cZ cJ a (gI S 10 (upd (S.1 10) (i).toNatClampNeg (vp_nar .boolean (x))))) H1 locs1 → W p l e R s m args below meth c H1 locs1 cells slots Q (F0 m (pc + 1) ls rest)) : W p l e R s m args below meth c H locs cells slots Q (F0 m pc ls (.int x :: .int i :: .ref (a 4) :: rest)) :=
  va_zast hx hb hK hw.1 hw.2.1 hw.2.2 4 1 rfl rfl hin hdg (fun H1 locs1 h1 h2 h3 => kk H1 locs1 ⟨h1, h2, h3⟩)
/-- GhostKeysModel.seen, read -/
theorem md_ld5 (hx : p.tables.exec = Jvm.exec) (hb : c.code = cc) (hK : va_K D vwCl (tys cI cZ cJ) s) (hP : va_P D vwCl (mdW cI cZ cJ a S) H) {i : Int32} {v : Int32} (hin : vp_in i 24) (hv : S.1 11 i.toNatClampNeg = v) (hdg : decode cc pc = .ok (.baload, 1))
    (kk : W p l e R s m args below meth c H locs cells slots Q (F0 m (pc + 1) ls (.int v :: rest))) : W p l e R s m args below meth c H locs cells slots Q (F0 m pc ls (.int i :: .ref (a 5) :: rest)) := by
  subst hv
  exact va_zald hx hb hK hP 5 1 rfl rfl hin hdg kk
/-- GhostKeysModel.seen, written -/
theorem md_st5 (hx : p.tables.exec = Jvm.exec) (hb : c.code = cc) (hK : va_K D vwCl (tys cI cZ cJ) s) (hw : wf D A H0 (mdW cI cZ cJ a S) H locs) {i : Int32} {x : Int32} (hin : vp_in i 24) (hdg : decode cc pc = .ok (.bastore, 1))
    (kk : ∀ (H1 : Heap) (locs1 : List Loc), wf D A H0 (mdW cI cZ cJ a (gI S 11 (upd (S.1 11) (i).toNatClampNeg (vp_nar .boolean (x))))) H1 locs1 → W p l e R s m args below meth c H1 locs1 cells slots Q (F0 m (pc + 1) ls rest)) : W p l e R s m args below meth c H locs cells slots Q (F0 m pc ls (.int x :: .int i :: .ref (a 5) :: rest)) :=
  va_zast hx hb hK hw.1 hw.2.1 hw.2.2 5 1 rfl rfl hin hdg (fun H1 locs1 h1 h2 h3 => kk H1 locs1 ⟨h1, h2, h3⟩)
/-- GhostKeysModel.others, read -/
theorem md_ld6 (hx : p.tables.exec = Jvm.exec) (hb : c.code = cc) (hK : va_K D vwCl (tys cI cZ cJ) s) (hP : va_P D vwCl (mdW cI cZ cJ a S) H) {i : Int32} {v : Int32} (hin : vp_in i 24) (hv : S.1 12 i.toNatClampNeg = v) (hdg : decode cc pc = .ok (.iaload, 1))
    (kk : W p l e R s m args below meth c H locs cells slots Q (F0 m (pc + 1) ls (.int v :: rest))) : W p l e R s m args below meth c H locs cells slots Q (F0 m pc ls (.int i :: .ref (a 6) :: rest)) := by
  subst hv
  exact va_iald hx hb hK hP 6 0 rfl rfl hin hdg kk
/-- GhostKeysModel.others, written -/
theorem md_st6 (hx : p.tables.exec = Jvm.exec) (hb : c.code = cc) (hK : va_K D vwCl (tys cI cZ cJ) s) (hw : wf D A H0 (mdW cI cZ cJ a S) H locs) {i : Int32} {x : Int32} (hin : vp_in i 24) (hdg : decode cc pc = .ok (.iastore, 1))
    (kk : ∀ (H1 : Heap) (locs1 : List Loc), wf D A H0 (mdW cI cZ cJ a (gI S 12 (upd (S.1 12) (i).toNatClampNeg (x)))) H1 locs1 → W p l e R s m args below meth c H1 locs1 cells slots Q (F0 m (pc + 1) ls rest)) : W p l e R s m args below meth c H locs cells slots Q (F0 m pc ls (.int x :: .int i :: .ref (a 6) :: rest)) :=
  va_iast hx hb hK hw.1 hw.2.1 hw.2.2 6 0 rfl rfl hin hdg (fun H1 locs1 h1 h2 h3 => kk H1 locs1 ⟨h1, h2, h3⟩)
/-- GhostKeysModel.believed, read -/
theorem md_ld7 (hx : p.tables.exec = Jvm.exec) (hb : c.code = cc) (hK : va_K D vwCl (tys cI cZ cJ) s) (hP : va_P D vwCl (mdW cI cZ cJ a S) H) {i : Int32} {v : Int32} (hin : vp_in i 24) (hv : S.1 13 i.toNatClampNeg = v) (hdg : decode cc pc = .ok (.baload, 1))
    (kk : W p l e R s m args below meth c H locs cells slots Q (F0 m (pc + 1) ls (.int v :: rest))) : W p l e R s m args below meth c H locs cells slots Q (F0 m pc ls (.int i :: .ref (a 7) :: rest)) := by
  subst hv
  exact va_zald hx hb hK hP 7 1 rfl rfl hin hdg kk
/-- GhostKeysModel.believed, written -/
theorem md_st7 (hx : p.tables.exec = Jvm.exec) (hb : c.code = cc) (hK : va_K D vwCl (tys cI cZ cJ) s) (hw : wf D A H0 (mdW cI cZ cJ a S) H locs) {i : Int32} {x : Int32} (hin : vp_in i 24) (hdg : decode cc pc = .ok (.bastore, 1))
    (kk : ∀ (H1 : Heap) (locs1 : List Loc), wf D A H0 (mdW cI cZ cJ a (gI S 13 (upd (S.1 13) (i).toNatClampNeg (vp_nar .boolean (x))))) H1 locs1 → W p l e R s m args below meth c H1 locs1 cells slots Q (F0 m (pc + 1) ls rest)) : W p l e R s m args below meth c H locs cells slots Q (F0 m pc ls (.int x :: .int i :: .ref (a 7) :: rest)) :=
  va_zast hx hb hK hw.1 hw.2.1 hw.2.2 7 1 rfl rfl hin hdg (fun H1 locs1 h1 h2 h3 => kk H1 locs1 ⟨h1, h2, h3⟩)
/-- GhostKeysModel.events, read -/
theorem md_ld8 (hx : p.tables.exec = Jvm.exec) (hb : c.code = cc) (hK : va_K D vwCl (tys cI cZ cJ) s) (hP : va_P D vwCl (mdW cI cZ cJ a S) H) {i : Int32} {v : Int32} (hin : vp_in i 80) (hv : S.1 14 i.toNatClampNeg = v) (hdg : decode cc pc = .ok (.iaload, 1))
    (kk : W p l e R s m args below meth c H locs cells slots Q (F0 m (pc + 1) ls (.int v :: rest))) : W p l e R s m args below meth c H locs cells slots Q (F0 m pc ls (.int i :: .ref (a 8) :: rest)) := by
  subst hv
  exact va_iald hx hb hK hP 8 0 rfl rfl hin hdg kk
/-- GhostKeysModel.events, written -/
theorem md_st8 (hx : p.tables.exec = Jvm.exec) (hb : c.code = cc) (hK : va_K D vwCl (tys cI cZ cJ) s) (hw : wf D A H0 (mdW cI cZ cJ a S) H locs) {i : Int32} {x : Int32} (hin : vp_in i 80) (hdg : decode cc pc = .ok (.iastore, 1))
    (kk : ∀ (H1 : Heap) (locs1 : List Loc), wf D A H0 (mdW cI cZ cJ a (gI S 14 (upd (S.1 14) (i).toNatClampNeg (x)))) H1 locs1 → W p l e R s m args below meth c H1 locs1 cells slots Q (F0 m (pc + 1) ls rest)) : W p l e R s m args below meth c H locs cells slots Q (F0 m pc ls (.int x :: .int i :: .ref (a 8) :: rest)) :=
  va_iast hx hb hK hw.1 hw.2.1 hw.2.2 8 0 rfl rfl hin hdg (fun H1 locs1 h1 h2 h3 => kk H1 locs1 ⟨h1, h2, h3⟩)
/-- GhostKeysModel.scans, read -/
theorem md_ld9 (hx : p.tables.exec = Jvm.exec) (hb : c.code = cc) (hK : va_K D vwCl (tys cI cZ cJ) s) (hP : va_P D vwCl (mdW cI cZ cJ a S) H) {i : Int32} {v : Int32} (hin : vp_in i 80) (hv : S.1 15 i.toNatClampNeg = v) (hdg : decode cc pc = .ok (.iaload, 1))
    (kk : W p l e R s m args below meth c H locs cells slots Q (F0 m (pc + 1) ls (.int v :: rest))) : W p l e R s m args below meth c H locs cells slots Q (F0 m pc ls (.int i :: .ref (a 9) :: rest)) := by
  subst hv
  exact va_iald hx hb hK hP 9 0 rfl rfl hin hdg kk
/-- GhostKeysModel.scans, written -/
theorem md_st9 (hx : p.tables.exec = Jvm.exec) (hb : c.code = cc) (hK : va_K D vwCl (tys cI cZ cJ) s) (hw : wf D A H0 (mdW cI cZ cJ a S) H locs) {i : Int32} {x : Int32} (hin : vp_in i 80) (hdg : decode cc pc = .ok (.iastore, 1))
    (kk : ∀ (H1 : Heap) (locs1 : List Loc), wf D A H0 (mdW cI cZ cJ a (gI S 15 (upd (S.1 15) (i).toNatClampNeg (x)))) H1 locs1 → W p l e R s m args below meth c H1 locs1 cells slots Q (F0 m (pc + 1) ls rest)) : W p l e R s m args below meth c H locs cells slots Q (F0 m pc ls (.int x :: .int i :: .ref (a 9) :: rest)) :=
  va_iast hx hb hK hw.1 hw.2.1 hw.2.2 9 0 rfl rfl hin hdg (fun H1 locs1 h1 h2 h3 => kk H1 locs1 ⟨h1, h2, h3⟩)
/-- GhostKeysModel.latest, read -/
theorem md_ld10 (hx : p.tables.exec = Jvm.exec) (hb : c.code = cc) (hK : va_K D vwCl (tys cI cZ cJ) s) (hP : va_P D vwCl (mdW cI cZ cJ a S) H) {i : Int32} {v : Int32} (hin : vp_in i 32) (hv : S.1 16 i.toNatClampNeg = v) (hdg : decode cc pc = .ok (.iaload, 1))
    (kk : W p l e R s m args below meth c H locs cells slots Q (F0 m (pc + 1) ls (.int v :: rest))) : W p l e R s m args below meth c H locs cells slots Q (F0 m pc ls (.int i :: .ref (a 10) :: rest)) := by
  subst hv
  exact va_iald hx hb hK hP 10 0 rfl rfl hin hdg kk
/-- GhostKeysModel.latest, written -/
theorem md_st10 (hx : p.tables.exec = Jvm.exec) (hb : c.code = cc) (hK : va_K D vwCl (tys cI cZ cJ) s) (hw : wf D A H0 (mdW cI cZ cJ a S) H locs) {i : Int32} {x : Int32} (hin : vp_in i 32) (hdg : decode cc pc = .ok (.iastore, 1))
    (kk : ∀ (H1 : Heap) (locs1 : List Loc), wf D A H0 (mdW cI cZ cJ a (gI S 16 (upd (S.1 16) (i).toNatClampNeg (x)))) H1 locs1 → W p l e R s m args below meth c H1 locs1 cells slots Q (F0 m (pc + 1) ls rest)) : W p l e R s m args below meth c H locs cells slots Q (F0 m pc ls (.int x :: .int i :: .ref (a 10) :: rest)) :=
  va_iast hx hb hK hw.1 hw.2.1 hw.2.2 10 0 rfl rfl hin hdg (fun H1 locs1 h1 h2 h3 => kk H1 locs1 ⟨h1, h2, h3⟩)
/-- GhostKeysModel.kinds, read -/
theorem md_ld11 (hx : p.tables.exec = Jvm.exec) (hb : c.code = cc) (hK : va_K D vwCl (tys cI cZ cJ) s) (hP : va_P D vwCl (mdW cI cZ cJ a S) H) {i : Int32} {v : Int32} (hin : vp_in i 96) (hv : S.1 17 i.toNatClampNeg = v) (hdg : decode cc pc = .ok (.iaload, 1))
    (kk : W p l e R s m args below meth c H locs cells slots Q (F0 m (pc + 1) ls (.int v :: rest))) : W p l e R s m args below meth c H locs cells slots Q (F0 m pc ls (.int i :: .ref (a 11) :: rest)) := by
  subst hv
  exact va_iald hx hb hK hP 11 0 rfl rfl hin hdg kk
/-- GhostKeysModel.kinds, written -/
theorem md_st11 (hx : p.tables.exec = Jvm.exec) (hb : c.code = cc) (hK : va_K D vwCl (tys cI cZ cJ) s) (hw : wf D A H0 (mdW cI cZ cJ a S) H locs) {i : Int32} {x : Int32} (hin : vp_in i 96) (hdg : decode cc pc = .ok (.iastore, 1))
    (kk : ∀ (H1 : Heap) (locs1 : List Loc), wf D A H0 (mdW cI cZ cJ a (gI S 17 (upd (S.1 17) (i).toNatClampNeg (x)))) H1 locs1 → W p l e R s m args below meth c H1 locs1 cells slots Q (F0 m (pc + 1) ls rest)) : W p l e R s m args below meth c H locs cells slots Q (F0 m pc ls (.int x :: .int i :: .ref (a 11) :: rest)) :=
  va_iast hx hb hK hw.1 hw.2.1 hw.2.2 11 0 rfl rfl hin hdg (fun H1 locs1 h1 h2 h3 => kk H1 locs1 ⟨h1, h2, h3⟩)
/-- GhostKeysModel.firsts, read -/
theorem md_ld12 (hx : p.tables.exec = Jvm.exec) (hb : c.code = cc) (hK : va_K D vwCl (tys cI cZ cJ) s) (hP : va_P D vwCl (mdW cI cZ cJ a S) H) {i : Int32} {v : Int32} (hin : vp_in i 96) (hv : S.1 18 i.toNatClampNeg = v) (hdg : decode cc pc = .ok (.iaload, 1))
    (kk : W p l e R s m args below meth c H locs cells slots Q (F0 m (pc + 1) ls (.int v :: rest))) : W p l e R s m args below meth c H locs cells slots Q (F0 m pc ls (.int i :: .ref (a 12) :: rest)) := by
  subst hv
  exact va_iald hx hb hK hP 12 0 rfl rfl hin hdg kk
/-- GhostKeysModel.firsts, written -/
theorem md_st12 (hx : p.tables.exec = Jvm.exec) (hb : c.code = cc) (hK : va_K D vwCl (tys cI cZ cJ) s) (hw : wf D A H0 (mdW cI cZ cJ a S) H locs) {i : Int32} {x : Int32} (hin : vp_in i 96) (hdg : decode cc pc = .ok (.iastore, 1))
    (kk : ∀ (H1 : Heap) (locs1 : List Loc), wf D A H0 (mdW cI cZ cJ a (gI S 18 (upd (S.1 18) (i).toNatClampNeg (x)))) H1 locs1 → W p l e R s m args below meth c H1 locs1 cells slots Q (F0 m (pc + 1) ls rest)) : W p l e R s m args below meth c H locs cells slots Q (F0 m pc ls (.int x :: .int i :: .ref (a 12) :: rest)) :=
  va_iast hx hb hK hw.1 hw.2.1 hw.2.2 12 0 rfl rfl hin hdg (fun H1 locs1 h1 h2 h3 => kk H1 locs1 ⟨h1, h2, h3⟩)
/-- GhostKeysModel.seconds, read -/
theorem md_ld13 (hx : p.tables.exec = Jvm.exec) (hb : c.code = cc) (hK : va_K D vwCl (tys cI cZ cJ) s) (hP : va_P D vwCl (mdW cI cZ cJ a S) H) {i : Int32} {v : Int32} (hin : vp_in i 96) (hv : S.1 19 i.toNatClampNeg = v) (hdg : decode cc pc = .ok (.iaload, 1))
    (kk : W p l e R s m args below meth c H locs cells slots Q (F0 m (pc + 1) ls (.int v :: rest))) : W p l e R s m args below meth c H locs cells slots Q (F0 m pc ls (.int i :: .ref (a 13) :: rest)) := by
  subst hv
  exact va_iald hx hb hK hP 13 0 rfl rfl hin hdg kk
/-- GhostKeysModel.seconds, written -/
theorem md_st13 (hx : p.tables.exec = Jvm.exec) (hb : c.code = cc) (hK : va_K D vwCl (tys cI cZ cJ) s) (hw : wf D A H0 (mdW cI cZ cJ a S) H locs) {i : Int32} {x : Int32} (hin : vp_in i 96) (hdg : decode cc pc = .ok (.iastore, 1))
    (kk : ∀ (H1 : Heap) (locs1 : List Loc), wf D A H0 (mdW cI cZ cJ a (gI S 19 (upd (S.1 19) (i).toNatClampNeg (x)))) H1 locs1 → W p l e R s m args below meth c H1 locs1 cells slots Q (F0 m (pc + 1) ls rest)) : W p l e R s m args below meth c H locs cells slots Q (F0 m pc ls (.int x :: .int i :: .ref (a 13) :: rest)) :=
  va_iast hx hb hK hw.1 hw.2.1 hw.2.2 13 0 rfl rfl hin hdg (fun H1 locs1 h1 h2 h3 => kk H1 locs1 ⟨h1, h2, h3⟩)
/-- GhostKeysModel.macros, read -/
theorem md_ld14 (hx : p.tables.exec = Jvm.exec) (hb : c.code = cc) (hK : va_K D vwCl (tys cI cZ cJ) s) (hP : va_P D vwCl (mdW cI cZ cJ a S) H) {i : Int32} {v : Int32} (hin : vp_in i 16) (hv : S.1 20 i.toNatClampNeg = v) (hdg : decode cc pc = .ok (.iaload, 1))
    (kk : W p l e R s m args below meth c H locs cells slots Q (F0 m (pc + 1) ls (.int v :: rest))) : W p l e R s m args below meth c H locs cells slots Q (F0 m pc ls (.int i :: .ref (a 14) :: rest)) := by
  subst hv
  exact va_iald hx hb hK hP 14 0 rfl rfl hin hdg kk
/-- GhostKeysModel.macros, written -/
theorem md_st14 (hx : p.tables.exec = Jvm.exec) (hb : c.code = cc) (hK : va_K D vwCl (tys cI cZ cJ) s) (hw : wf D A H0 (mdW cI cZ cJ a S) H locs) {i : Int32} {x : Int32} (hin : vp_in i 16) (hdg : decode cc pc = .ok (.iastore, 1))
    (kk : ∀ (H1 : Heap) (locs1 : List Loc), wf D A H0 (mdW cI cZ cJ a (gI S 20 (upd (S.1 20) (i).toNatClampNeg (x)))) H1 locs1 → W p l e R s m args below meth c H1 locs1 cells slots Q (F0 m (pc + 1) ls rest)) : W p l e R s m args below meth c H locs cells slots Q (F0 m pc ls (.int x :: .int i :: .ref (a 14) :: rest)) :=
  va_iast hx hb hK hw.1 hw.2.1 hw.2.2 14 0 rfl rfl hin hdg (fun H1 locs1 h1 h2 h3 => kk H1 locs1 ⟨h1, h2, h3⟩)
/-- GhostKeysModel.chordKeys, read -/
theorem md_ld15 (hx : p.tables.exec = Jvm.exec) (hb : c.code = cc) (hK : va_K D vwCl (tys cI cZ cJ) s) (hP : va_P D vwCl (mdW cI cZ cJ a S) H) {i : Int32} {v : Int32} (hin : vp_in i 4) (hv : S.1 21 i.toNatClampNeg = v) (hdg : decode cc pc = .ok (.iaload, 1))
    (kk : W p l e R s m args below meth c H locs cells slots Q (F0 m (pc + 1) ls (.int v :: rest))) : W p l e R s m args below meth c H locs cells slots Q (F0 m pc ls (.int i :: .ref (a 15) :: rest)) := by
  subst hv
  exact va_iald hx hb hK hP 15 0 rfl rfl hin hdg kk
/-- GhostKeysModel.chordKeys, written -/
theorem md_st15 (hx : p.tables.exec = Jvm.exec) (hb : c.code = cc) (hK : va_K D vwCl (tys cI cZ cJ) s) (hw : wf D A H0 (mdW cI cZ cJ a S) H locs) {i : Int32} {x : Int32} (hin : vp_in i 4) (hdg : decode cc pc = .ok (.iastore, 1))
    (kk : ∀ (H1 : Heap) (locs1 : List Loc), wf D A H0 (mdW cI cZ cJ a (gI S 21 (upd (S.1 21) (i).toNatClampNeg (x)))) H1 locs1 → W p l e R s m args below meth c H1 locs1 cells slots Q (F0 m (pc + 1) ls rest)) : W p l e R s m args below meth c H locs cells slots Q (F0 m pc ls (.int x :: .int i :: .ref (a 15) :: rest)) :=
  va_iast hx hb hK hw.1 hw.2.1 hw.2.2 15 0 rfl rfl hin hdg (fun H1 locs1 h1 h2 h3 => kk H1 locs1 ⟨h1, h2, h3⟩)
/-- GhostKeysModel.chordCodes, read -/
theorem md_ld16 (hx : p.tables.exec = Jvm.exec) (hb : c.code = cc) (hK : va_K D vwCl (tys cI cZ cJ) s) (hP : va_P D vwCl (mdW cI cZ cJ a S) H) {i : Int32} {v : Int32} (hin : vp_in i 4) (hv : S.1 22 i.toNatClampNeg = v) (hdg : decode cc pc = .ok (.iaload, 1))
    (kk : W p l e R s m args below meth c H locs cells slots Q (F0 m (pc + 1) ls (.int v :: rest))) : W p l e R s m args below meth c H locs cells slots Q (F0 m pc ls (.int i :: .ref (a 16) :: rest)) := by
  subst hv
  exact va_iald hx hb hK hP 16 0 rfl rfl hin hdg kk
/-- GhostKeysModel.chordCodes, written -/
theorem md_st16 (hx : p.tables.exec = Jvm.exec) (hb : c.code = cc) (hK : va_K D vwCl (tys cI cZ cJ) s) (hw : wf D A H0 (mdW cI cZ cJ a S) H locs) {i : Int32} {x : Int32} (hin : vp_in i 4) (hdg : decode cc pc = .ok (.iastore, 1))
    (kk : ∀ (H1 : Heap) (locs1 : List Loc), wf D A H0 (mdW cI cZ cJ a (gI S 22 (upd (S.1 22) (i).toNatClampNeg (x)))) H1 locs1 → W p l e R s m args below meth c H1 locs1 cells slots Q (F0 m (pc + 1) ls rest)) : W p l e R s m args below meth c H locs cells slots Q (F0 m pc ls (.int x :: .int i :: .ref (a 16) :: rest)) :=
  va_iast hx hb hK hw.1 hw.2.1 hw.2.2 16 0 rfl rfl hin hdg (fun H1 locs1 h1 h2 h3 => kk H1 locs1 ⟨h1, h2, h3⟩)
/-- GhostKeysModel.locked, read -/
theorem md_ld17 (hx : p.tables.exec = Jvm.exec) (hb : c.code = cc) (hK : va_K D vwCl (tys cI cZ cJ) s) (hP : va_P D vwCl (mdW cI cZ cJ a S) H) {i : Int32} {v : Int32} (hin : vp_in i 4) (hv : S.1 23 i.toNatClampNeg = v) (hdg : decode cc pc = .ok (.baload, 1))
    (kk : W p l e R s m args below meth c H locs cells slots Q (F0 m (pc + 1) ls (.int v :: rest))) : W p l e R s m args below meth c H locs cells slots Q (F0 m pc ls (.int i :: .ref (a 17) :: rest)) := by
  subst hv
  exact va_zald hx hb hK hP 17 1 rfl rfl hin hdg kk
/-- GhostKeysModel.locked, written -/
theorem md_st17 (hx : p.tables.exec = Jvm.exec) (hb : c.code = cc) (hK : va_K D vwCl (tys cI cZ cJ) s) (hw : wf D A H0 (mdW cI cZ cJ a S) H locs) {i : Int32} {x : Int32} (hin : vp_in i 4) (hdg : decode cc pc = .ok (.bastore, 1))
    (kk : ∀ (H1 : Heap) (locs1 : List Loc), wf D A H0 (mdW cI cZ cJ a (gI S 23 (upd (S.1 23) (i).toNatClampNeg (vp_nar .boolean (x))))) H1 locs1 → W p l e R s m args below meth c H1 locs1 cells slots Q (F0 m (pc + 1) ls rest)) : W p l e R s m args below meth c H locs cells slots Q (F0 m pc ls (.int x :: .int i :: .ref (a 17) :: rest)) :=
  va_zast hx hb hK hw.1 hw.2.1 hw.2.2 17 1 rfl rfl hin hdg (fun H1 locs1 h1 h2 h3 => kk H1 locs1 ⟨h1, h2, h3⟩)
/-- GhostKeysModel.armed, read -/
theorem md_ld18 (hx : p.tables.exec = Jvm.exec) (hb : c.code = cc) (hK : va_K D vwCl (tys cI cZ cJ) s) (hP : va_P D vwCl (mdW cI cZ cJ a S) H) {i : Int32} {v : Int32} (hin : vp_in i 4) (hv : S.1 24 i.toNatClampNeg = v) (hdg : decode cc pc = .ok (.baload, 1))
    (kk : W p l e R s m args below meth c H locs cells slots Q (F0 m (pc + 1) ls (.int v :: rest))) : W p l e R s m args below meth c H locs cells slots Q (F0 m pc ls (.int i :: .ref (a 18) :: rest)) := by
  subst hv
  exact va_zald hx hb hK hP 18 1 rfl rfl hin hdg kk
/-- GhostKeysModel.armed, written -/
theorem md_st18 (hx : p.tables.exec = Jvm.exec) (hb : c.code = cc) (hK : va_K D vwCl (tys cI cZ cJ) s) (hw : wf D A H0 (mdW cI cZ cJ a S) H locs) {i : Int32} {x : Int32} (hin : vp_in i 4) (hdg : decode cc pc = .ok (.bastore, 1))
    (kk : ∀ (H1 : Heap) (locs1 : List Loc), wf D A H0 (mdW cI cZ cJ a (gI S 24 (upd (S.1 24) (i).toNatClampNeg (vp_nar .boolean (x))))) H1 locs1 → W p l e R s m args below meth c H1 locs1 cells slots Q (F0 m (pc + 1) ls rest)) : W p l e R s m args below meth c H locs cells slots Q (F0 m pc ls (.int x :: .int i :: .ref (a 18) :: rest)) :=
  va_zast hx hb hK hw.1 hw.2.1 hw.2.2 18 1 rfl rfl hin hdg (fun H1 locs1 h1 h2 h3 => kk H1 locs1 ⟨h1, h2, h3⟩)
/-- GhostKeysModel.began, read -/
theorem md_ld19 (hx : p.tables.exec = Jvm.exec) (hb : c.code = cc) (hK : va_K D vwCl (tys cI cZ cJ) s) (hP : va_P D vwCl (mdW cI cZ cJ a S) H) {i : Int32} {v : Int32} (hin : vp_in i 24) (hv : S.1 25 i.toNatClampNeg = v) (hdg : decode cc pc = .ok (.iaload, 1))
    (kk : W p l e R s m args below meth c H locs cells slots Q (F0 m (pc + 1) ls (.int v :: rest))) : W p l e R s m args below meth c H locs cells slots Q (F0 m pc ls (.int i :: .ref (a 19) :: rest)) := by
  subst hv
  exact va_iald hx hb hK hP 19 0 rfl rfl hin hdg kk
/-- GhostKeysModel.began, written -/
theorem md_st19 (hx : p.tables.exec = Jvm.exec) (hb : c.code = cc) (hK : va_K D vwCl (tys cI cZ cJ) s) (hw : wf D A H0 (mdW cI cZ cJ a S) H locs) {i : Int32} {x : Int32} (hin : vp_in i 24) (hdg : decode cc pc = .ok (.iastore, 1))
    (kk : ∀ (H1 : Heap) (locs1 : List Loc), wf D A H0 (mdW cI cZ cJ a (gI S 25 (upd (S.1 25) (i).toNatClampNeg (x)))) H1 locs1 → W p l e R s m args below meth c H1 locs1 cells slots Q (F0 m (pc + 1) ls rest)) : W p l e R s m args below meth c H locs cells slots Q (F0 m pc ls (.int x :: .int i :: .ref (a 19) :: rest)) :=
  va_iast hx hb hK hw.1 hw.2.1 hw.2.2 19 0 rfl rfl hin hdg (fun H1 locs1 h1 h2 h3 => kk H1 locs1 ⟨h1, h2, h3⟩)
/-- GhostKeysModel.beganWhat, read -/
theorem md_ld20 (hx : p.tables.exec = Jvm.exec) (hb : c.code = cc) (hK : va_K D vwCl (tys cI cZ cJ) s) (hP : va_P D vwCl (mdW cI cZ cJ a S) H) {i : Int32} {v : Int32} (hin : vp_in i 24) (hv : S.1 26 i.toNatClampNeg = v) (hdg : decode cc pc = .ok (.iaload, 1))
    (kk : W p l e R s m args below meth c H locs cells slots Q (F0 m (pc + 1) ls (.int v :: rest))) : W p l e R s m args below meth c H locs cells slots Q (F0 m pc ls (.int i :: .ref (a 20) :: rest)) := by
  subst hv
  exact va_iald hx hb hK hP 20 0 rfl rfl hin hdg kk
/-- GhostKeysModel.beganWhat, written -/
theorem md_st20 (hx : p.tables.exec = Jvm.exec) (hb : c.code = cc) (hK : va_K D vwCl (tys cI cZ cJ) s) (hw : wf D A H0 (mdW cI cZ cJ a S) H locs) {i : Int32} {x : Int32} (hin : vp_in i 24) (hdg : decode cc pc = .ok (.iastore, 1))
    (kk : ∀ (H1 : Heap) (locs1 : List Loc), wf D A H0 (mdW cI cZ cJ a (gI S 26 (upd (S.1 26) (i).toNatClampNeg (x)))) H1 locs1 → W p l e R s m args below meth c H1 locs1 cells slots Q (F0 m (pc + 1) ls rest)) : W p l e R s m args below meth c H locs cells slots Q (F0 m pc ls (.int x :: .int i :: .ref (a 20) :: rest)) :=
  va_iast hx hb hK hw.1 hw.2.1 hw.2.2 20 0 rfl rfl hin hdg (fun H1 locs1 h1 h2 h3 => kk H1 locs1 ⟨h1, h2, h3⟩)
/-- GhostKeysModel.beganChord, read -/
theorem md_ld21 (hx : p.tables.exec = Jvm.exec) (hb : c.code = cc) (hK : va_K D vwCl (tys cI cZ cJ) s) (hP : va_P D vwCl (mdW cI cZ cJ a S) H) {i : Int32} {v : Int32} (hin : vp_in i 24) (hv : S.1 27 i.toNatClampNeg = v) (hdg : decode cc pc = .ok (.iaload, 1))
    (kk : W p l e R s m args below meth c H locs cells slots Q (F0 m (pc + 1) ls (.int v :: rest))) : W p l e R s m args below meth c H locs cells slots Q (F0 m pc ls (.int i :: .ref (a 21) :: rest)) := by
  subst hv
  exact va_iald hx hb hK hP 21 0 rfl rfl hin hdg kk
/-- GhostKeysModel.beganChord, written -/
theorem md_st21 (hx : p.tables.exec = Jvm.exec) (hb : c.code = cc) (hK : va_K D vwCl (tys cI cZ cJ) s) (hw : wf D A H0 (mdW cI cZ cJ a S) H locs) {i : Int32} {x : Int32} (hin : vp_in i 24) (hdg : decode cc pc = .ok (.iastore, 1))
    (kk : ∀ (H1 : Heap) (locs1 : List Loc), wf D A H0 (mdW cI cZ cJ a (gI S 27 (upd (S.1 27) (i).toNatClampNeg (x)))) H1 locs1 → W p l e R s m args below meth c H1 locs1 cells slots Q (F0 m (pc + 1) ls rest)) : W p l e R s m args below meth c H locs cells slots Q (F0 m pc ls (.int x :: .int i :: .ref (a 21) :: rest)) :=
  va_iast hx hb hK hw.1 hw.2.1 hw.2.2 21 0 rfl rfl hin hdg (fun H1 locs1 h1 h2 h3 => kk H1 locs1 ⟨h1, h2, h3⟩)
/-- GhostKeysModel.down, read -/
theorem md_ld22 (hx : p.tables.exec = Jvm.exec) (hb : c.code = cc) (hK : va_K D vwCl (tys cI cZ cJ) s) (hP : va_P D vwCl (mdW cI cZ cJ a S) H) {i : Int32} {v : Int32} (hin : vp_in i 108) (hv : S.1 28 i.toNatClampNeg = v) (hdg : decode cc pc = .ok (.iaload, 1))
    (kk : W p l e R s m args below meth c H locs cells slots Q (F0 m (pc + 1) ls (.int v :: rest))) : W p l e R s m args below meth c H locs cells slots Q (F0 m pc ls (.int i :: .ref (a 22) :: rest)) := by
  subst hv
  exact va_iald hx hb hK hP 22 0 rfl rfl hin hdg kk
/-- GhostKeysModel.down, written -/
theorem md_st22 (hx : p.tables.exec = Jvm.exec) (hb : c.code = cc) (hK : va_K D vwCl (tys cI cZ cJ) s) (hw : wf D A H0 (mdW cI cZ cJ a S) H locs) {i : Int32} {x : Int32} (hin : vp_in i 108) (hdg : decode cc pc = .ok (.iastore, 1))
    (kk : ∀ (H1 : Heap) (locs1 : List Loc), wf D A H0 (mdW cI cZ cJ a (gI S 28 (upd (S.1 28) (i).toNatClampNeg (x)))) H1 locs1 → W p l e R s m args below meth c H1 locs1 cells slots Q (F0 m (pc + 1) ls rest)) : W p l e R s m args below meth c H locs cells slots Q (F0 m pc ls (.int x :: .int i :: .ref (a 22) :: rest)) :=
  va_iast hx hb hK hw.1 hw.2.1 hw.2.2 22 0 rfl rfl hin hdg (fun H1 locs1 h1 h2 h3 => kk H1 locs1 ⟨h1, h2, h3⟩)
/-- GhostKeysModel.reports, read -/
theorem md_ld23 (hx : p.tables.exec = Jvm.exec) (hb : c.code = cc) (hK : va_K D vwCl (tys cI cZ cJ) s) (hP : va_P D vwCl (mdW cI cZ cJ a S) H) {i : Int32} {v : Int32} (hin : vp_in i 77) (hv : S.1 29 i.toNatClampNeg = v) (hdg : decode cc pc = .ok (.iaload, 1))
    (kk : W p l e R s m args below meth c H locs cells slots Q (F0 m (pc + 1) ls (.int v :: rest))) : W p l e R s m args below meth c H locs cells slots Q (F0 m pc ls (.int i :: .ref (a 23) :: rest)) := by
  subst hv
  exact va_iald hx hb hK hP 23 0 rfl rfl hin hdg kk
/-- GhostKeysModel.reports, written -/
theorem md_st23 (hx : p.tables.exec = Jvm.exec) (hb : c.code = cc) (hK : va_K D vwCl (tys cI cZ cJ) s) (hw : wf D A H0 (mdW cI cZ cJ a S) H locs) {i : Int32} {x : Int32} (hin : vp_in i 77) (hdg : decode cc pc = .ok (.iastore, 1))
    (kk : ∀ (H1 : Heap) (locs1 : List Loc), wf D A H0 (mdW cI cZ cJ a (gI S 29 (upd (S.1 29) (i).toNatClampNeg (x)))) H1 locs1 → W p l e R s m args below meth c H1 locs1 cells slots Q (F0 m (pc + 1) ls rest)) : W p l e R s m args below meth c H locs cells slots Q (F0 m pc ls (.int x :: .int i :: .ref (a 23) :: rest)) :=
  va_iast hx hb hK hw.1 hw.2.1 hw.2.2 23 0 rfl rfl hin hdg (fun H1 locs1 h1 h2 h3 => kk H1 locs1 ⟨h1, h2, h3⟩)
theorem md_gt_Mo_fault (hx : p.tables.exec = Jvm.exec) (hb : c.code = cc) (hK : va_K D vwCl (tys cI cZ cJ) s) {Ts : List Cond} (hts : ∀ w ∈ Ts, w.before args s = true) (hin : ∀ w ∈ u_ws R_Mo T_Mo 30, w ∈ Ts) (hown : s.vm.findClass R_Mo = some m.cls) (hP : va_P D vwCl (mdW cI cZ cJ a S) H) {index : Nat} (hlink : (Cond.fieldLink R_Mo index "GhostKeysModel" "fault" "I").before args s = true) {v : Int32} (hv : S.1 0 0 = v) (hdg : decode cc pc = .ok (.getfield index, 3))
    (kk : W p l e R s m args below meth c H locs cells slots Q (F0 m (pc + 3) ls (.int v :: rest))) : W p l e R s m args below meth c H locs cells slots Q (F0 m pc ls (.ref (a 0) :: rest)) := by
  subst hv
  exact va_get (D := D) (ci := 9) (C := R_Mo) (T := T_Mo) (N := 30) hx hb hts hin hown hK hP 0 rfl rfl 0 (by decide) hlink (fun _ h => h) rfl hdg kk
theorem md_pt_Mo_fault (hx : p.tables.exec = Jvm.exec) (hb : c.code = cc) (hK : va_K D vwCl (tys cI cZ cJ) s) {Ts : List Cond} (hts : ∀ w ∈ Ts, w.before args s = true) (hin : ∀ w ∈ u_ws R_Mo T_Mo 30, w ∈ Ts) (hown : s.vm.findClass R_Mo = some m.cls) (hw : wf D A H0 (mdW cI cZ cJ a S) H locs) {index : Nat} (hlink : (Cond.fieldLink R_Mo index "GhostKeysModel" "fault" "I").before args s = true) {v : Int32} (hdg : decode cc pc = .ok (.putfield index, 3))
    (kk : ∀ (H1 : Heap) (locs1 : List Loc), wf D A H0 (mdW cI cZ cJ a (gI S 0 (fun _ => v))) H1 locs1 → W p l e R s m args below meth c H1 locs1 cells slots Q (F0 m (pc + 3) ls rest)) : W p l e R s m args below meth c H locs cells slots Q (F0 m pc ls (.int v :: .ref (a 0) :: rest)) :=
  va_put (D := D) (ci := 9) (v := .int v) (ty := .int) (C := R_Mo) (T := T_Mo) (N := 30) hx hb hts hin ty_Mo ty_Mo_ok nm_Mo hown hK hw.1 hw.2.1 hw.2.2 0 rfl rfl 0 (by decide) hlink (fun _ h => h) rfl (by decide +kernel) rfl rfl (Nat.le_of_ble_eq_true rfl) hdg (fun H1 locs1 h1 h2 h3 => kk H1 locs1 ⟨h1, h2, h3⟩)
theorem md_gt_Mo_now (hx : p.tables.exec = Jvm.exec) (hb : c.code = cc) (hK : va_K D vwCl (tys cI cZ cJ) s) {Ts : List Cond} (hts : ∀ w ∈ Ts, w.before args s = true) (hin : ∀ w ∈ u_ws R_Mo T_Mo 30, w ∈ Ts) (hown : s.vm.findClass R_Mo = some m.cls) (hP : va_P D vwCl (mdW cI cZ cJ a S) H) {index : Nat} (hlink : (Cond.fieldLink R_Mo index "GhostKeysModel" "now" "I").before args s = true) {v : Int32} (hv : S.1 1 0 = v) (hdg : decode cc pc = .ok (.getfield index, 3))
    (kk : W p l e R s m args below meth c H locs cells slots Q (F0 m (pc + 3) ls (.int v :: rest))) : W p l e R s m args below meth c H locs cells slots Q (F0 m pc ls (.ref (a 0) :: rest)) := by
  subst hv
  exact va_get (D := D) (ci := 9) (C := R_Mo) (T := T_Mo) (N := 30) hx hb hts hin hown hK hP 0 rfl rfl 1 (by decide) hlink (fun _ h => h) rfl hdg kk
theorem md_pt_Mo_now (hx : p.tables.exec = Jvm.exec) (hb : c.code = cc) (hK : va_K D vwCl (tys cI cZ cJ) s) {Ts : List Cond} (hts : ∀ w ∈ Ts, w.before args s = true) (hin : ∀ w ∈ u_ws R_Mo T_Mo 30, w ∈ Ts) (hown : s.vm.findClass R_Mo = some m.cls) (hw : wf D A H0 (mdW cI cZ cJ a S) H locs) {index : Nat} (hlink : (Cond.fieldLink R_Mo index "GhostKeysModel" "now" "I").before args s = true) {v : Int32} (hdg : decode cc pc = .ok (.putfield index, 3))
    (kk : ∀ (H1 : Heap) (locs1 : List Loc), wf D A H0 (mdW cI cZ cJ a (gI S 1 (fun _ => v))) H1 locs1 → W p l e R s m args below meth c H1 locs1 cells slots Q (F0 m (pc + 3) ls rest)) : W p l e R s m args below meth c H locs cells slots Q (F0 m pc ls (.int v :: .ref (a 0) :: rest)) :=
  va_put (D := D) (ci := 9) (v := .int v) (ty := .int) (C := R_Mo) (T := T_Mo) (N := 30) hx hb hts hin ty_Mo ty_Mo_ok nm_Mo hown hK hw.1 hw.2.1 hw.2.2 0 rfl rfl 1 (by decide) hlink (fun _ h => h) rfl (by decide +kernel) rfl rfl (Nat.le_of_ble_eq_true rfl) hdg (fun H1 locs1 h1 h2 h3 => kk H1 locs1 ⟨h1, h2, h3⟩)
theorem md_gt_Mo_wired (hx : p.tables.exec = Jvm.exec) (hb : c.code = cc) (hK : va_K D vwCl (tys cI cZ cJ) s) {Ts : List Cond} (hts : ∀ w ∈ Ts, w.before args s = true) (hin : ∀ w ∈ u_ws R_Mo T_Mo 30, w ∈ Ts) (hown : s.vm.findClass R_Mo = some m.cls) (hP : va_P D vwCl (mdW cI cZ cJ a S) H) {index : Nat} (hlink : (Cond.fieldLink R_Mo index "GhostKeysModel" "wired" "[Z").before args s = true) (hdg : decode cc pc = .ok (.getfield index, 3))
    (kk : W p l e R s m args below meth c H locs cells slots Q (F0 m (pc + 3) ls (.ref (a 1) :: rest))) : W p l e R s m args below meth c H locs cells slots Q (F0 m pc ls (.ref (a 0) :: rest)) :=
  va_get (D := D) (ci := 9) (C := R_Mo) (T := T_Mo) (N := 30) hx hb hts hin hown hK hP 0 rfl rfl 2 (by decide) hlink (fun _ h => h) rfl hdg kk
theorem md_gt_Mo_bounces (hx : p.tables.exec = Jvm.exec) (hb : c.code = cc) (hK : va_K D vwCl (tys cI cZ cJ) s) {Ts : List Cond} (hts : ∀ w ∈ Ts, w.before args s = true) (hin : ∀ w ∈ u_ws R_Mo T_Mo 30, w ∈ Ts) (hown : s.vm.findClass R_Mo = some m.cls) (hP : va_P D vwCl (mdW cI cZ cJ a S) H) {index : Nat} (hlink : (Cond.fieldLink R_Mo index "GhostKeysModel" "bounces" "[I").before args s = true) (hdg : decode cc pc = .ok (.getfield index, 3))
    (kk : W p l e R s m args below meth c H locs cells slots Q (F0 m (pc + 3) ls (.ref (a 2) :: rest))) : W p l e R s m args below meth c H locs cells slots Q (F0 m pc ls (.ref (a 0) :: rest)) :=
  va_get (D := D) (ci := 9) (C := R_Mo) (T := T_Mo) (N := 30) hx hb hts hin hown hK hP 0 rfl rfl 3 (by decide) hlink (fun _ h => h) rfl hdg kk
theorem md_gt_Mo_closed (hx : p.tables.exec = Jvm.exec) (hb : c.code = cc) (hK : va_K D vwCl (tys cI cZ cJ) s) {Ts : List Cond} (hts : ∀ w ∈ Ts, w.before args s = true) (hin : ∀ w ∈ u_ws R_Mo T_Mo 30, w ∈ Ts) (hown : s.vm.findClass R_Mo = some m.cls) (hP : va_P D vwCl (mdW cI cZ cJ a S) H) {index : Nat} (hlink : (Cond.fieldLink R_Mo index "GhostKeysModel" "closed" "[Z").before args s = true) (hdg : decode cc pc = .ok (.getfield index, 3))
    (kk : W p l e R s m args below meth c H locs cells slots Q (F0 m (pc + 3) ls (.ref (a 3) :: rest))) : W p l e R s m args below meth c H locs cells slots Q (F0 m pc ls (.ref (a 0) :: rest)) :=
  va_get (D := D) (ci := 9) (C := R_Mo) (T := T_Mo) (N := 30) hx hb hts hin hown hK hP 0 rfl rfl 4 (by decide) hlink (fun _ h => h) rfl hdg kk
theorem md_gt_Mo_read (hx : p.tables.exec = Jvm.exec) (hb : c.code = cc) (hK : va_K D vwCl (tys cI cZ cJ) s) {Ts : List Cond} (hts : ∀ w ∈ Ts, w.before args s = true) (hin : ∀ w ∈ u_ws R_Mo T_Mo 30, w ∈ Ts) (hown : s.vm.findClass R_Mo = some m.cls) (hP : va_P D vwCl (mdW cI cZ cJ a S) H) {index : Nat} (hlink : (Cond.fieldLink R_Mo index "GhostKeysModel" "read" "[Z").before args s = true) (hdg : decode cc pc = .ok (.getfield index, 3))
    (kk : W p l e R s m args below meth c H locs cells slots Q (F0 m (pc + 3) ls (.ref (a 4) :: rest))) : W p l e R s m args below meth c H locs cells slots Q (F0 m pc ls (.ref (a 0) :: rest)) :=
  va_get (D := D) (ci := 9) (C := R_Mo) (T := T_Mo) (N := 30) hx hb hts hin hown hK hP 0 rfl rfl 5 (by decide) hlink (fun _ h => h) rfl hdg kk
theorem md_gt_Mo_seen (hx : p.tables.exec = Jvm.exec) (hb : c.code = cc) (hK : va_K D vwCl (tys cI cZ cJ) s) {Ts : List Cond} (hts : ∀ w ∈ Ts, w.before args s = true) (hin : ∀ w ∈ u_ws R_Mo T_Mo 30, w ∈ Ts) (hown : s.vm.findClass R_Mo = some m.cls) (hP : va_P D vwCl (mdW cI cZ cJ a S) H) {index : Nat} (hlink : (Cond.fieldLink R_Mo index "GhostKeysModel" "seen" "[Z").before args s = true) (hdg : decode cc pc = .ok (.getfield index, 3))
    (kk : W p l e R s m args below meth c H locs cells slots Q (F0 m (pc + 3) ls (.ref (a 5) :: rest))) : W p l e R s m args below meth c H locs cells slots Q (F0 m pc ls (.ref (a 0) :: rest)) :=
  va_get (D := D) (ci := 9) (C := R_Mo) (T := T_Mo) (N := 30) hx hb hts hin hown hK hP 0 rfl rfl 6 (by decide) hlink (fun _ h => h) rfl hdg kk
theorem md_gt_Mo_others (hx : p.tables.exec = Jvm.exec) (hb : c.code = cc) (hK : va_K D vwCl (tys cI cZ cJ) s) {Ts : List Cond} (hts : ∀ w ∈ Ts, w.before args s = true) (hin : ∀ w ∈ u_ws R_Mo T_Mo 30, w ∈ Ts) (hown : s.vm.findClass R_Mo = some m.cls) (hP : va_P D vwCl (mdW cI cZ cJ a S) H) {index : Nat} (hlink : (Cond.fieldLink R_Mo index "GhostKeysModel" "others" "[I").before args s = true) (hdg : decode cc pc = .ok (.getfield index, 3))
    (kk : W p l e R s m args below meth c H locs cells slots Q (F0 m (pc + 3) ls (.ref (a 6) :: rest))) : W p l e R s m args below meth c H locs cells slots Q (F0 m pc ls (.ref (a 0) :: rest)) :=
  va_get (D := D) (ci := 9) (C := R_Mo) (T := T_Mo) (N := 30) hx hb hts hin hown hK hP 0 rfl rfl 7 (by decide) hlink (fun _ h => h) rfl hdg kk
theorem md_gt_Mo_believed (hx : p.tables.exec = Jvm.exec) (hb : c.code = cc) (hK : va_K D vwCl (tys cI cZ cJ) s) {Ts : List Cond} (hts : ∀ w ∈ Ts, w.before args s = true) (hin : ∀ w ∈ u_ws R_Mo T_Mo 30, w ∈ Ts) (hown : s.vm.findClass R_Mo = some m.cls) (hP : va_P D vwCl (mdW cI cZ cJ a S) H) {index : Nat} (hlink : (Cond.fieldLink R_Mo index "GhostKeysModel" "believed" "[Z").before args s = true) (hdg : decode cc pc = .ok (.getfield index, 3))
    (kk : W p l e R s m args below meth c H locs cells slots Q (F0 m (pc + 3) ls (.ref (a 7) :: rest))) : W p l e R s m args below meth c H locs cells slots Q (F0 m pc ls (.ref (a 0) :: rest)) :=
  va_get (D := D) (ci := 9) (C := R_Mo) (T := T_Mo) (N := 30) hx hb hts hin hown hK hP 0 rfl rfl 8 (by decide) hlink (fun _ h => h) rfl hdg kk
theorem md_gt_Mo_queued (hx : p.tables.exec = Jvm.exec) (hb : c.code = cc) (hK : va_K D vwCl (tys cI cZ cJ) s) {Ts : List Cond} (hts : ∀ w ∈ Ts, w.before args s = true) (hin : ∀ w ∈ u_ws R_Mo T_Mo 30, w ∈ Ts) (hown : s.vm.findClass R_Mo = some m.cls) (hP : va_P D vwCl (mdW cI cZ cJ a S) H) {index : Nat} (hlink : (Cond.fieldLink R_Mo index "GhostKeysModel" "queued" "I").before args s = true) {v : Int32} (hv : S.1 2 0 = v) (hdg : decode cc pc = .ok (.getfield index, 3))
    (kk : W p l e R s m args below meth c H locs cells slots Q (F0 m (pc + 3) ls (.int v :: rest))) : W p l e R s m args below meth c H locs cells slots Q (F0 m pc ls (.ref (a 0) :: rest)) := by
  subst hv
  exact va_get (D := D) (ci := 9) (C := R_Mo) (T := T_Mo) (N := 30) hx hb hts hin hown hK hP 0 rfl rfl 9 (by decide) hlink (fun _ h => h) rfl hdg kk
theorem md_pt_Mo_queued (hx : p.tables.exec = Jvm.exec) (hb : c.code = cc) (hK : va_K D vwCl (tys cI cZ cJ) s) {Ts : List Cond} (hts : ∀ w ∈ Ts, w.before args s = true) (hin : ∀ w ∈ u_ws R_Mo T_Mo 30, w ∈ Ts) (hown : s.vm.findClass R_Mo = some m.cls) (hw : wf D A H0 (mdW cI cZ cJ a S) H locs) {index : Nat} (hlink : (Cond.fieldLink R_Mo index "GhostKeysModel" "queued" "I").before args s = true) {v : Int32} (hdg : decode cc pc = .ok (.putfield index, 3))
    (kk : ∀ (H1 : Heap) (locs1 : List Loc), wf D A H0 (mdW cI cZ cJ a (gI S 2 (fun _ => v))) H1 locs1 → W p l e R s m args below meth c H1 locs1 cells slots Q (F0 m (pc + 3) ls rest)) : W p l e R s m args below meth c H locs cells slots Q (F0 m pc ls (.int v :: .ref (a 0) :: rest)) :=
  va_put (D := D) (ci := 9) (v := .int v) (ty := .int) (C := R_Mo) (T := T_Mo) (N := 30) hx hb hts hin ty_Mo ty_Mo_ok nm_Mo hown hK hw.1 hw.2.1 hw.2.2 0 rfl rfl 9 (by decide) hlink (fun _ h => h) rfl (by decide +kernel) rfl rfl (Nat.le_of_ble_eq_true rfl) hdg (fun H1 locs1 h1 h2 h3 => kk H1 locs1 ⟨h1, h2, h3⟩)
theorem md_gt_Mo_events (hx : p.tables.exec = Jvm.exec) (hb : c.code = cc) (hK : va_K D vwCl (tys cI cZ cJ) s) {Ts : List Cond} (hts : ∀ w ∈ Ts, w.before args s = true) (hin : ∀ w ∈ u_ws R_Mo T_Mo 30, w ∈ Ts) (hown : s.vm.findClass R_Mo = some m.cls) (hP : va_P D vwCl (mdW cI cZ cJ a S) H) {index : Nat} (hlink : (Cond.fieldLink R_Mo index "GhostKeysModel" "events" "[I").before args s = true) (hdg : decode cc pc = .ok (.getfield index, 3))
    (kk : W p l e R s m args below meth c H locs cells slots Q (F0 m (pc + 3) ls (.ref (a 8) :: rest))) : W p l e R s m args below meth c H locs cells slots Q (F0 m pc ls (.ref (a 0) :: rest)) :=
  va_get (D := D) (ci := 9) (C := R_Mo) (T := T_Mo) (N := 30) hx hb hts hin hown hK hP 0 rfl rfl 10 (by decide) hlink (fun _ h => h) rfl hdg kk
theorem md_gt_Mo_scans (hx : p.tables.exec = Jvm.exec) (hb : c.code = cc) (hK : va_K D vwCl (tys cI cZ cJ) s) {Ts : List Cond} (hts : ∀ w ∈ Ts, w.before args s = true) (hin : ∀ w ∈ u_ws R_Mo T_Mo 30, w ∈ Ts) (hown : s.vm.findClass R_Mo = some m.cls) (hP : va_P D vwCl (mdW cI cZ cJ a S) H) {index : Nat} (hlink : (Cond.fieldLink R_Mo index "GhostKeysModel" "scans" "[I").before args s = true) (hdg : decode cc pc = .ok (.getfield index, 3))
    (kk : W p l e R s m args below meth c H locs cells slots Q (F0 m (pc + 3) ls (.ref (a 9) :: rest))) : W p l e R s m args below meth c H locs cells slots Q (F0 m pc ls (.ref (a 0) :: rest)) :=
  va_get (D := D) (ci := 9) (C := R_Mo) (T := T_Mo) (N := 30) hx hb hts hin hown hK hP 0 rfl rfl 11 (by decide) hlink (fun _ h => h) rfl hdg kk
theorem md_gt_Mo_told (hx : p.tables.exec = Jvm.exec) (hb : c.code = cc) (hK : va_K D vwCl (tys cI cZ cJ) s) {Ts : List Cond} (hts : ∀ w ∈ Ts, w.before args s = true) (hin : ∀ w ∈ u_ws R_Mo T_Mo 30, w ∈ Ts) (hown : s.vm.findClass R_Mo = some m.cls) (hP : va_P D vwCl (mdW cI cZ cJ a S) H) {index : Nat} (hlink : (Cond.fieldLink R_Mo index "GhostKeysModel" "told" "I").before args s = true) {v : Int32} (hv : S.1 3 0 = v) (hdg : decode cc pc = .ok (.getfield index, 3))
    (kk : W p l e R s m args below meth c H locs cells slots Q (F0 m (pc + 3) ls (.int v :: rest))) : W p l e R s m args below meth c H locs cells slots Q (F0 m pc ls (.ref (a 0) :: rest)) := by
  subst hv
  exact va_get (D := D) (ci := 9) (C := R_Mo) (T := T_Mo) (N := 30) hx hb hts hin hown hK hP 0 rfl rfl 12 (by decide) hlink (fun _ h => h) rfl hdg kk
theorem md_pt_Mo_told (hx : p.tables.exec = Jvm.exec) (hb : c.code = cc) (hK : va_K D vwCl (tys cI cZ cJ) s) {Ts : List Cond} (hts : ∀ w ∈ Ts, w.before args s = true) (hin : ∀ w ∈ u_ws R_Mo T_Mo 30, w ∈ Ts) (hown : s.vm.findClass R_Mo = some m.cls) (hw : wf D A H0 (mdW cI cZ cJ a S) H locs) {index : Nat} (hlink : (Cond.fieldLink R_Mo index "GhostKeysModel" "told" "I").before args s = true) {v : Int32} (hdg : decode cc pc = .ok (.putfield index, 3))
    (kk : ∀ (H1 : Heap) (locs1 : List Loc), wf D A H0 (mdW cI cZ cJ a (gI S 3 (fun _ => v))) H1 locs1 → W p l e R s m args below meth c H1 locs1 cells slots Q (F0 m (pc + 3) ls rest)) : W p l e R s m args below meth c H locs cells slots Q (F0 m pc ls (.int v :: .ref (a 0) :: rest)) :=
  va_put (D := D) (ci := 9) (v := .int v) (ty := .int) (C := R_Mo) (T := T_Mo) (N := 30) hx hb hts hin ty_Mo ty_Mo_ok nm_Mo hown hK hw.1 hw.2.1 hw.2.2 0 rfl rfl 12 (by decide) hlink (fun _ h => h) rfl (by decide +kernel) rfl rfl (Nat.le_of_ble_eq_true rfl) hdg (fun H1 locs1 h1 h2 h3 => kk H1 locs1 ⟨h1, h2, h3⟩)
theorem md_gt_Mo_latest (hx : p.tables.exec = Jvm.exec) (hb : c.code = cc) (hK : va_K D vwCl (tys cI cZ cJ) s) {Ts : List Cond} (hts : ∀ w ∈ Ts, w.before args s = true) (hin : ∀ w ∈ u_ws R_Mo T_Mo 30, w ∈ Ts) (hown : s.vm.findClass R_Mo = some m.cls) (hP : va_P D vwCl (mdW cI cZ cJ a S) H) {index : Nat} (hlink : (Cond.fieldLink R_Mo index "GhostKeysModel" "latest" "[I").before args s = true) (hdg : decode cc pc = .ok (.getfield index, 3))
    (kk : W p l e R s m args below meth c H locs cells slots Q (F0 m (pc + 3) ls (.ref (a 10) :: rest))) : W p l e R s m args below meth c H locs cells slots Q (F0 m pc ls (.ref (a 0) :: rest)) :=
  va_get (D := D) (ci := 9) (C := R_Mo) (T := T_Mo) (N := 30) hx hb hts hin hown hK hP 0 rfl rfl 13 (by decide) hlink (fun _ h => h) rfl hdg kk
theorem md_gt_Mo_kinds (hx : p.tables.exec = Jvm.exec) (hb : c.code = cc) (hK : va_K D vwCl (tys cI cZ cJ) s) {Ts : List Cond} (hts : ∀ w ∈ Ts, w.before args s = true) (hin : ∀ w ∈ u_ws R_Mo T_Mo 30, w ∈ Ts) (hown : s.vm.findClass R_Mo = some m.cls) (hP : va_P D vwCl (mdW cI cZ cJ a S) H) {index : Nat} (hlink : (Cond.fieldLink R_Mo index "GhostKeysModel" "kinds" "[I").before args s = true) (hdg : decode cc pc = .ok (.getfield index, 3))
    (kk : W p l e R s m args below meth c H locs cells slots Q (F0 m (pc + 3) ls (.ref (a 11) :: rest))) : W p l e R s m args below meth c H locs cells slots Q (F0 m pc ls (.ref (a 0) :: rest)) :=
  va_get (D := D) (ci := 9) (C := R_Mo) (T := T_Mo) (N := 30) hx hb hts hin hown hK hP 0 rfl rfl 14 (by decide) hlink (fun _ h => h) rfl hdg kk
theorem md_gt_Mo_firsts (hx : p.tables.exec = Jvm.exec) (hb : c.code = cc) (hK : va_K D vwCl (tys cI cZ cJ) s) {Ts : List Cond} (hts : ∀ w ∈ Ts, w.before args s = true) (hin : ∀ w ∈ u_ws R_Mo T_Mo 30, w ∈ Ts) (hown : s.vm.findClass R_Mo = some m.cls) (hP : va_P D vwCl (mdW cI cZ cJ a S) H) {index : Nat} (hlink : (Cond.fieldLink R_Mo index "GhostKeysModel" "firsts" "[I").before args s = true) (hdg : decode cc pc = .ok (.getfield index, 3))
    (kk : W p l e R s m args below meth c H locs cells slots Q (F0 m (pc + 3) ls (.ref (a 12) :: rest))) : W p l e R s m args below meth c H locs cells slots Q (F0 m pc ls (.ref (a 0) :: rest)) :=
  va_get (D := D) (ci := 9) (C := R_Mo) (T := T_Mo) (N := 30) hx hb hts hin hown hK hP 0 rfl rfl 15 (by decide) hlink (fun _ h => h) rfl hdg kk
theorem md_gt_Mo_seconds (hx : p.tables.exec = Jvm.exec) (hb : c.code = cc) (hK : va_K D vwCl (tys cI cZ cJ) s) {Ts : List Cond} (hts : ∀ w ∈ Ts, w.before args s = true) (hin : ∀ w ∈ u_ws R_Mo T_Mo 30, w ∈ Ts) (hown : s.vm.findClass R_Mo = some m.cls) (hP : va_P D vwCl (mdW cI cZ cJ a S) H) {index : Nat} (hlink : (Cond.fieldLink R_Mo index "GhostKeysModel" "seconds" "[I").before args s = true) (hdg : decode cc pc = .ok (.getfield index, 3))
    (kk : W p l e R s m args below meth c H locs cells slots Q (F0 m (pc + 3) ls (.ref (a 13) :: rest))) : W p l e R s m args below meth c H locs cells slots Q (F0 m pc ls (.ref (a 0) :: rest)) :=
  va_get (D := D) (ci := 9) (C := R_Mo) (T := T_Mo) (N := 30) hx hb hts hin hown hK hP 0 rfl rfl 16 (by decide) hlink (fun _ h => h) rfl hdg kk
theorem md_gt_Mo_macros (hx : p.tables.exec = Jvm.exec) (hb : c.code = cc) (hK : va_K D vwCl (tys cI cZ cJ) s) {Ts : List Cond} (hts : ∀ w ∈ Ts, w.before args s = true) (hin : ∀ w ∈ u_ws R_Mo T_Mo 30, w ∈ Ts) (hown : s.vm.findClass R_Mo = some m.cls) (hP : va_P D vwCl (mdW cI cZ cJ a S) H) {index : Nat} (hlink : (Cond.fieldLink R_Mo index "GhostKeysModel" "macros" "[I").before args s = true) (hdg : decode cc pc = .ok (.getfield index, 3))
    (kk : W p l e R s m args below meth c H locs cells slots Q (F0 m (pc + 3) ls (.ref (a 14) :: rest))) : W p l e R s m args below meth c H locs cells slots Q (F0 m pc ls (.ref (a 0) :: rest)) :=
  va_get (D := D) (ci := 9) (C := R_Mo) (T := T_Mo) (N := 30) hx hb hts hin hown hK hP 0 rfl rfl 17 (by decide) hlink (fun _ h => h) rfl hdg kk
theorem md_gt_Mo_chordKeys (hx : p.tables.exec = Jvm.exec) (hb : c.code = cc) (hK : va_K D vwCl (tys cI cZ cJ) s) {Ts : List Cond} (hts : ∀ w ∈ Ts, w.before args s = true) (hin : ∀ w ∈ u_ws R_Mo T_Mo 30, w ∈ Ts) (hown : s.vm.findClass R_Mo = some m.cls) (hP : va_P D vwCl (mdW cI cZ cJ a S) H) {index : Nat} (hlink : (Cond.fieldLink R_Mo index "GhostKeysModel" "chordKeys" "[I").before args s = true) (hdg : decode cc pc = .ok (.getfield index, 3))
    (kk : W p l e R s m args below meth c H locs cells slots Q (F0 m (pc + 3) ls (.ref (a 15) :: rest))) : W p l e R s m args below meth c H locs cells slots Q (F0 m pc ls (.ref (a 0) :: rest)) :=
  va_get (D := D) (ci := 9) (C := R_Mo) (T := T_Mo) (N := 30) hx hb hts hin hown hK hP 0 rfl rfl 18 (by decide) hlink (fun _ h => h) rfl hdg kk
theorem md_gt_Mo_chordCodes (hx : p.tables.exec = Jvm.exec) (hb : c.code = cc) (hK : va_K D vwCl (tys cI cZ cJ) s) {Ts : List Cond} (hts : ∀ w ∈ Ts, w.before args s = true) (hin : ∀ w ∈ u_ws R_Mo T_Mo 30, w ∈ Ts) (hown : s.vm.findClass R_Mo = some m.cls) (hP : va_P D vwCl (mdW cI cZ cJ a S) H) {index : Nat} (hlink : (Cond.fieldLink R_Mo index "GhostKeysModel" "chordCodes" "[I").before args s = true) (hdg : decode cc pc = .ok (.getfield index, 3))
    (kk : W p l e R s m args below meth c H locs cells slots Q (F0 m (pc + 3) ls (.ref (a 16) :: rest))) : W p l e R s m args below meth c H locs cells slots Q (F0 m pc ls (.ref (a 0) :: rest)) :=
  va_get (D := D) (ci := 9) (C := R_Mo) (T := T_Mo) (N := 30) hx hb hts hin hown hK hP 0 rfl rfl 19 (by decide) hlink (fun _ h => h) rfl hdg kk
theorem md_gt_Mo_locked (hx : p.tables.exec = Jvm.exec) (hb : c.code = cc) (hK : va_K D vwCl (tys cI cZ cJ) s) {Ts : List Cond} (hts : ∀ w ∈ Ts, w.before args s = true) (hin : ∀ w ∈ u_ws R_Mo T_Mo 30, w ∈ Ts) (hown : s.vm.findClass R_Mo = some m.cls) (hP : va_P D vwCl (mdW cI cZ cJ a S) H) {index : Nat} (hlink : (Cond.fieldLink R_Mo index "GhostKeysModel" "locked" "[Z").before args s = true) (hdg : decode cc pc = .ok (.getfield index, 3))
    (kk : W p l e R s m args below meth c H locs cells slots Q (F0 m (pc + 3) ls (.ref (a 17) :: rest))) : W p l e R s m args below meth c H locs cells slots Q (F0 m pc ls (.ref (a 0) :: rest)) :=
  va_get (D := D) (ci := 9) (C := R_Mo) (T := T_Mo) (N := 30) hx hb hts hin hown hK hP 0 rfl rfl 20 (by decide) hlink (fun _ h => h) rfl hdg kk
theorem md_gt_Mo_armed (hx : p.tables.exec = Jvm.exec) (hb : c.code = cc) (hK : va_K D vwCl (tys cI cZ cJ) s) {Ts : List Cond} (hts : ∀ w ∈ Ts, w.before args s = true) (hin : ∀ w ∈ u_ws R_Mo T_Mo 30, w ∈ Ts) (hown : s.vm.findClass R_Mo = some m.cls) (hP : va_P D vwCl (mdW cI cZ cJ a S) H) {index : Nat} (hlink : (Cond.fieldLink R_Mo index "GhostKeysModel" "armed" "[Z").before args s = true) (hdg : decode cc pc = .ok (.getfield index, 3))
    (kk : W p l e R s m args below meth c H locs cells slots Q (F0 m (pc + 3) ls (.ref (a 18) :: rest))) : W p l e R s m args below meth c H locs cells slots Q (F0 m pc ls (.ref (a 0) :: rest)) :=
  va_get (D := D) (ci := 9) (C := R_Mo) (T := T_Mo) (N := 30) hx hb hts hin hown hK hP 0 rfl rfl 21 (by decide) hlink (fun _ h => h) rfl hdg kk
theorem md_gt_Mo_began (hx : p.tables.exec = Jvm.exec) (hb : c.code = cc) (hK : va_K D vwCl (tys cI cZ cJ) s) {Ts : List Cond} (hts : ∀ w ∈ Ts, w.before args s = true) (hin : ∀ w ∈ u_ws R_Mo T_Mo 30, w ∈ Ts) (hown : s.vm.findClass R_Mo = some m.cls) (hP : va_P D vwCl (mdW cI cZ cJ a S) H) {index : Nat} (hlink : (Cond.fieldLink R_Mo index "GhostKeysModel" "began" "[I").before args s = true) (hdg : decode cc pc = .ok (.getfield index, 3))
    (kk : W p l e R s m args below meth c H locs cells slots Q (F0 m (pc + 3) ls (.ref (a 19) :: rest))) : W p l e R s m args below meth c H locs cells slots Q (F0 m pc ls (.ref (a 0) :: rest)) :=
  va_get (D := D) (ci := 9) (C := R_Mo) (T := T_Mo) (N := 30) hx hb hts hin hown hK hP 0 rfl rfl 22 (by decide) hlink (fun _ h => h) rfl hdg kk
theorem md_gt_Mo_beganWhat (hx : p.tables.exec = Jvm.exec) (hb : c.code = cc) (hK : va_K D vwCl (tys cI cZ cJ) s) {Ts : List Cond} (hts : ∀ w ∈ Ts, w.before args s = true) (hin : ∀ w ∈ u_ws R_Mo T_Mo 30, w ∈ Ts) (hown : s.vm.findClass R_Mo = some m.cls) (hP : va_P D vwCl (mdW cI cZ cJ a S) H) {index : Nat} (hlink : (Cond.fieldLink R_Mo index "GhostKeysModel" "beganWhat" "[I").before args s = true) (hdg : decode cc pc = .ok (.getfield index, 3))
    (kk : W p l e R s m args below meth c H locs cells slots Q (F0 m (pc + 3) ls (.ref (a 20) :: rest))) : W p l e R s m args below meth c H locs cells slots Q (F0 m pc ls (.ref (a 0) :: rest)) :=
  va_get (D := D) (ci := 9) (C := R_Mo) (T := T_Mo) (N := 30) hx hb hts hin hown hK hP 0 rfl rfl 23 (by decide) hlink (fun _ h => h) rfl hdg kk
theorem md_gt_Mo_beganChord (hx : p.tables.exec = Jvm.exec) (hb : c.code = cc) (hK : va_K D vwCl (tys cI cZ cJ) s) {Ts : List Cond} (hts : ∀ w ∈ Ts, w.before args s = true) (hin : ∀ w ∈ u_ws R_Mo T_Mo 30, w ∈ Ts) (hown : s.vm.findClass R_Mo = some m.cls) (hP : va_P D vwCl (mdW cI cZ cJ a S) H) {index : Nat} (hlink : (Cond.fieldLink R_Mo index "GhostKeysModel" "beganChord" "[I").before args s = true) (hdg : decode cc pc = .ok (.getfield index, 3))
    (kk : W p l e R s m args below meth c H locs cells slots Q (F0 m (pc + 3) ls (.ref (a 21) :: rest))) : W p l e R s m args below meth c H locs cells slots Q (F0 m pc ls (.ref (a 0) :: rest)) :=
  va_get (D := D) (ci := 9) (C := R_Mo) (T := T_Mo) (N := 30) hx hb hts hin hown hK hP 0 rfl rfl 24 (by decide) hlink (fun _ h => h) rfl hdg kk
theorem md_gt_Mo_chords (hx : p.tables.exec = Jvm.exec) (hb : c.code = cc) (hK : va_K D vwCl (tys cI cZ cJ) s) {Ts : List Cond} (hts : ∀ w ∈ Ts, w.before args s = true) (hin : ∀ w ∈ u_ws R_Mo T_Mo 30, w ∈ Ts) (hown : s.vm.findClass R_Mo = some m.cls) (hP : va_P D vwCl (mdW cI cZ cJ a S) H) {index : Nat} (hlink : (Cond.fieldLink R_Mo index "GhostKeysModel" "chords" "I").before args s = true) {v : Int32} (hv : S.1 4 0 = v) (hdg : decode cc pc = .ok (.getfield index, 3))
    (kk : W p l e R s m args below meth c H locs cells slots Q (F0 m (pc + 3) ls (.int v :: rest))) : W p l e R s m args below meth c H locs cells slots Q (F0 m pc ls (.ref (a 0) :: rest)) := by
  subst hv
  exact va_get (D := D) (ci := 9) (C := R_Mo) (T := T_Mo) (N := 30) hx hb hts hin hown hK hP 0 rfl rfl 25 (by decide) hlink (fun _ h => h) rfl hdg kk
theorem md_pt_Mo_chords (hx : p.tables.exec = Jvm.exec) (hb : c.code = cc) (hK : va_K D vwCl (tys cI cZ cJ) s) {Ts : List Cond} (hts : ∀ w ∈ Ts, w.before args s = true) (hin : ∀ w ∈ u_ws R_Mo T_Mo 30, w ∈ Ts) (hown : s.vm.findClass R_Mo = some m.cls) (hw : wf D A H0 (mdW cI cZ cJ a S) H locs) {index : Nat} (hlink : (Cond.fieldLink R_Mo index "GhostKeysModel" "chords" "I").before args s = true) {v : Int32} (hdg : decode cc pc = .ok (.putfield index, 3))
    (kk : ∀ (H1 : Heap) (locs1 : List Loc), wf D A H0 (mdW cI cZ cJ a (gI S 4 (fun _ => v))) H1 locs1 → W p l e R s m args below meth c H1 locs1 cells slots Q (F0 m (pc + 3) ls rest)) : W p l e R s m args below meth c H locs cells slots Q (F0 m pc ls (.int v :: .ref (a 0) :: rest)) :=
  va_put (D := D) (ci := 9) (v := .int v) (ty := .int) (C := R_Mo) (T := T_Mo) (N := 30) hx hb hts hin ty_Mo ty_Mo_ok nm_Mo hown hK hw.1 hw.2.1 hw.2.2 0 rfl rfl 25 (by decide) hlink (fun _ h => h) rfl (by decide +kernel) rfl rfl (Nat.le_of_ble_eq_true rfl) hdg (fun H1 locs1 h1 h2 h3 => kk H1 locs1 ⟨h1, h2, h3⟩)
theorem md_gt_Mo_down (hx : p.tables.exec = Jvm.exec) (hb : c.code = cc) (hK : va_K D vwCl (tys cI cZ cJ) s) {Ts : List Cond} (hts : ∀ w ∈ Ts, w.before args s = true) (hin : ∀ w ∈ u_ws R_Mo T_Mo 30, w ∈ Ts) (hown : s.vm.findClass R_Mo = some m.cls) (hP : va_P D vwCl (mdW cI cZ cJ a S) H) {index : Nat} (hlink : (Cond.fieldLink R_Mo index "GhostKeysModel" "down" "[I").before args s = true) (hdg : decode cc pc = .ok (.getfield index, 3))
    (kk : W p l e R s m args below meth c H locs cells slots Q (F0 m (pc + 3) ls (.ref (a 22) :: rest))) : W p l e R s m args below meth c H locs cells slots Q (F0 m pc ls (.ref (a 0) :: rest)) :=
  va_get (D := D) (ci := 9) (C := R_Mo) (T := T_Mo) (N := 30) hx hb hts hin hown hK hP 0 rfl rfl 26 (by decide) hlink (fun _ h => h) rfl hdg kk
theorem md_gt_Mo_reports (hx : p.tables.exec = Jvm.exec) (hb : c.code = cc) (hK : va_K D vwCl (tys cI cZ cJ) s) {Ts : List Cond} (hts : ∀ w ∈ Ts, w.before args s = true) (hin : ∀ w ∈ u_ws R_Mo T_Mo 30, w ∈ Ts) (hown : s.vm.findClass R_Mo = some m.cls) (hP : va_P D vwCl (mdW cI cZ cJ a S) H) {index : Nat} (hlink : (Cond.fieldLink R_Mo index "GhostKeysModel" "reports" "[I").before args s = true) (hdg : decode cc pc = .ok (.getfield index, 3))
    (kk : W p l e R s m args below meth c H locs cells slots Q (F0 m (pc + 3) ls (.ref (a 23) :: rest))) : W p l e R s m args below meth c H locs cells slots Q (F0 m pc ls (.ref (a 0) :: rest)) :=
  va_get (D := D) (ci := 9) (C := R_Mo) (T := T_Mo) (N := 30) hx hb hts hin hown hK hP 0 rfl rfl 27 (by decide) hlink (fun _ h => h) rfl hdg kk
theorem md_gt_Mo_stored (hx : p.tables.exec = Jvm.exec) (hb : c.code = cc) (hK : va_K D vwCl (tys cI cZ cJ) s) {Ts : List Cond} (hts : ∀ w ∈ Ts, w.before args s = true) (hin : ∀ w ∈ u_ws R_Mo T_Mo 30, w ∈ Ts) (hown : s.vm.findClass R_Mo = some m.cls) (hP : va_P D vwCl (mdW cI cZ cJ a S) H) {index : Nat} (hlink : (Cond.fieldLink R_Mo index "GhostKeysModel" "stored" "I").before args s = true) {v : Int32} (hv : S.1 5 0 = v) (hdg : decode cc pc = .ok (.getfield index, 3))
    (kk : W p l e R s m args below meth c H locs cells slots Q (F0 m (pc + 3) ls (.int v :: rest))) : W p l e R s m args below meth c H locs cells slots Q (F0 m pc ls (.ref (a 0) :: rest)) := by
  subst hv
  exact va_get (D := D) (ci := 9) (C := R_Mo) (T := T_Mo) (N := 30) hx hb hts hin hown hK hP 0 rfl rfl 28 (by decide) hlink (fun _ h => h) rfl hdg kk
theorem md_pt_Mo_stored (hx : p.tables.exec = Jvm.exec) (hb : c.code = cc) (hK : va_K D vwCl (tys cI cZ cJ) s) {Ts : List Cond} (hts : ∀ w ∈ Ts, w.before args s = true) (hin : ∀ w ∈ u_ws R_Mo T_Mo 30, w ∈ Ts) (hown : s.vm.findClass R_Mo = some m.cls) (hw : wf D A H0 (mdW cI cZ cJ a S) H locs) {index : Nat} (hlink : (Cond.fieldLink R_Mo index "GhostKeysModel" "stored" "I").before args s = true) {v : Int32} (hdg : decode cc pc = .ok (.putfield index, 3))
    (kk : ∀ (H1 : Heap) (locs1 : List Loc), wf D A H0 (mdW cI cZ cJ a (gI S 5 (fun _ => v))) H1 locs1 → W p l e R s m args below meth c H1 locs1 cells slots Q (F0 m (pc + 3) ls rest)) : W p l e R s m args below meth c H locs cells slots Q (F0 m pc ls (.int v :: .ref (a 0) :: rest)) :=
  va_put (D := D) (ci := 9) (v := .int v) (ty := .int) (C := R_Mo) (T := T_Mo) (N := 30) hx hb hts hin ty_Mo ty_Mo_ok nm_Mo hown hK hw.1 hw.2.1 hw.2.2 0 rfl rfl 28 (by decide) hlink (fun _ h => h) rfl (by decide +kernel) rfl rfl (Nat.le_of_ble_eq_true rfl) hdg (fun H1 locs1 h1 h2 h3 => kk H1 locs1 ⟨h1, h2, h3⟩)
theorem md_gt_Mo_late (hx : p.tables.exec = Jvm.exec) (hb : c.code = cc) (hK : va_K D vwCl (tys cI cZ cJ) s) {Ts : List Cond} (hts : ∀ w ∈ Ts, w.before args s = true) (hin : ∀ w ∈ u_ws R_Mo T_Mo 30, w ∈ Ts) (hown : s.vm.findClass R_Mo = some m.cls) (hP : va_P D vwCl (mdW cI cZ cJ a S) H) {index : Nat} (hlink : (Cond.fieldLink R_Mo index "GhostKeysModel" "late" "Z").before args s = true) {v : Int32} (hv : S.1 6 0 = v) (hdg : decode cc pc = .ok (.getfield index, 3))
    (kk : W p l e R s m args below meth c H locs cells slots Q (F0 m (pc + 3) ls (.int v :: rest))) : W p l e R s m args below meth c H locs cells slots Q (F0 m pc ls (.ref (a 0) :: rest)) := by
  subst hv
  exact va_get (D := D) (ci := 9) (C := R_Mo) (T := T_Mo) (N := 30) hx hb hts hin hown hK hP 0 rfl rfl 29 (by decide) hlink (fun _ h => h) rfl hdg kk
theorem md_pt_Mo_late (hx : p.tables.exec = Jvm.exec) (hb : c.code = cc) (hK : va_K D vwCl (tys cI cZ cJ) s) {Ts : List Cond} (hts : ∀ w ∈ Ts, w.before args s = true) (hin : ∀ w ∈ u_ws R_Mo T_Mo 30, w ∈ Ts) (hown : s.vm.findClass R_Mo = some m.cls) (hw : wf D A H0 (mdW cI cZ cJ a S) H locs) {index : Nat} (hlink : (Cond.fieldLink R_Mo index "GhostKeysModel" "late" "Z").before args s = true) {v : Int32} (hn : narrow .boolean (.int v) = .int v) (hn2 : fits .boolean (.int v) = true) (hdg : decode cc pc = .ok (.putfield index, 3))
    (kk : ∀ (H1 : Heap) (locs1 : List Loc), wf D A H0 (mdW cI cZ cJ a (gI S 6 (fun _ => v))) H1 locs1 → W p l e R s m args below meth c H1 locs1 cells slots Q (F0 m (pc + 3) ls rest)) : W p l e R s m args below meth c H locs cells slots Q (F0 m pc ls (.int v :: .ref (a 0) :: rest)) :=
  va_put (D := D) (ci := 9) (v := .int v) (ty := .boolean) (C := R_Mo) (T := T_Mo) (N := 30) hx hb hts hin ty_Mo ty_Mo_ok nm_Mo hown hK hw.1 hw.2.1 hw.2.2 0 rfl rfl 29 (by decide) hlink (fun _ h => h) rfl (by decide +kernel) hn hn2 (Nat.le_of_ble_eq_true rfl) hdg (fun H1 locs1 h1 h2 h3 => kk H1 locs1 ⟨h1, h2, h3⟩)
end
end
section
def wp_Mx_setWired (S : GS) (p0 : Int32) (p1 : Int32) (post : GS → Prop) : Prop := ((p1 = (0 : Int32) → (post (gI S 1 (fun _ => ((S.1 1 0) &&& (((1 : Int32) <<< (p0 &&& 31)) ^^^ (-1 : Int32))))))) ∧ (¬ p1 = (0 : Int32) → (post (gI S 1 (fun _ => ((S.1 1 0) ||| ((1 : Int32) <<< (p0 &&& 31))))))))
abbrev rm_Mx_setWired : Room := { frames := 0, cells := 0, slots := 0, locals := 0 }
set_option maxHeartbeats 4000000 in
set_option maxRecDepth 100000 in
theorem c_Mx_setWired (l : Launch) (D : va_G) (cI cZ cJ : ClassId) (a : Nat → Nat) (sz : Nat) (S : GS) (p0 : Int32) (p1 : Int32) (post : GS → Prop) (hf : wp_Mx_setWired S p0 p1 post) : Met l y_Mx_setWired ws_Mx_setWired rm_Mx_setWired (va_Pc [.ref (a 1), .int p0, .int p1] (gPre D (tys cI cZ cJ) (gkW cI cZ cJ a S) sz)) (va_Qv post (gB D (tys cI cZ cJ) (gkW cI cZ cJ a) (va_A (gkW cI cZ cJ a S) sz)) (va_A (gkW cI cZ cJ a S) sz)) 0 0 (va_A (gkW cI cZ cJ a S) sz) := by
  refine gm_w (QF := fun A => va_Qv post (gB D (tys cI cZ cJ) (gkW cI cZ cJ a) A) A) (cc := b_Mx_setWired) (maxL := 3) (by decide) rfl (Nat.le_of_ble_eq_true rfl) ?_
  intro p e s m args below meth c A ls hx hb hr hts hown hmn hlk hml hK hA hw hl
  have hl : lv_has ls 3 [(0, .ref (a 1)), (1, .int p0), (2, .int p1)] := hl
  have hinMx : ∀ w ∈ u_ws R_Mx T_Mx 6, w ∈ ws_Mx_setWired := fun w h => List.mem_cons_of_mem _ (tl_Mx w h)
  have hl18 := hts _ (List.mem_cons_of_mem _ tf_Mx_18)
  unfold wp_Mx_setWired at hf
  refine lv_aload_n (pc := 0) hx hb d_Mx_setWired_0 rfl (lv_at hl 0 rfl) ?_
  refine lv_iload_n (pc := 1) hx hb d_Mx_setWired_1 rfl (lv_at hl 2 rfl) ?_
  refine lv_if_eq (pc := 2) (tgt := 16) hx hb d_Mx_setWired_2 (by decide) (fun hc => ?_) (fun hc => ?_)
  · replace hf := hf.1 hc
    refine lv_aload_n (pc := 16) hx hb d_Mx_setWired_16 rfl (lv_at hl 0 rfl) ?_
    refine gk_gt_Mx_wired (pc := 17) (v := (S.1 1 0)) hx hb hK hts hinMx hown hw.1 hl18 rfl d_Mx_setWired_17 ?_
    refine lv_iconst (pc := 20) (v := 1) hx hb d_Mx_setWired_20 (by decide) ?_
    refine lv_iload_n (pc := 21) hx hb d_Mx_setWired_21 rfl (lv_at hl 1 rfl) ?_
    refine lv_ishl (pc := 22) hx hb d_Mx_setWired_22 ?_
    refine lv_iconst (pc := 23) (v := -1) hx hb d_Mx_setWired_23 (by decide) ?_
    refine lv_ixor (pc := 24) hx hb d_Mx_setWired_24 ?_
    refine lv_iand (pc := 25) hx hb d_Mx_setWired_25 ?_
    refine gk_pt_Mx_wired (pc := 26) hx hb hK hts hinMx hown hw hl18 d_Mx_setWired_26 (fun H locs hw => ?_)
    exact gr_v (pc := 29) hx hb hr hlk hK (gI S 1 (fun _ => ((S.1 1 0) &&& (((1 : Int32) <<< (p0 &&& 31)) ^^^ (-1 : Int32))))) hw hf d_Mx_setWired_29
  replace hf := hf.2 hc
  refine lv_aload_n (pc := 5) hx hb d_Mx_setWired_5 rfl (lv_at hl 0 rfl) ?_
  refine gk_gt_Mx_wired (pc := 6) (v := (S.1 1 0)) hx hb hK hts hinMx hown hw.1 hl18 rfl d_Mx_setWired_6 ?_
  refine lv_iconst (pc := 9) (v := 1) hx hb d_Mx_setWired_9 (by decide) ?_
  refine lv_iload_n (pc := 10) hx hb d_Mx_setWired_10 rfl (lv_at hl 1 rfl) ?_
  refine lv_ishl (pc := 11) hx hb d_Mx_setWired_11 ?_
  refine lv_ior (pc := 12) hx hb d_Mx_setWired_12 ?_
  refine lv_goto (pc := 13) (tgt := 26) hx hb d_Mx_setWired_13 (by decide) ?_
  refine gk_pt_Mx_wired (pc := 26) hx hb hK hts hinMx hown hw hl18 d_Mx_setWired_26 (fun H locs hw => ?_)
  exact gr_v (pc := 29) hx hb hr hlk hK (gI S 1 (fun _ => ((S.1 1 0) ||| ((1 : Int32) <<< (p0 &&& 31))))) hw hf d_Mx_setWired_29
def wp_Mx_setBounce (S : GS) (p0 : Int32) (p1 : Int32) (post : GS → Prop) : Prop := (vp_in p0 24 ∧ (post (gI S 13 (upd (S.1 13) (p0).toNatClampNeg p1))))
abbrev rm_Mx_setBounce : Room := { frames := 0, cells := 0, slots := 0, locals := 0 }
set_option maxHeartbeats 4000000 in
set_option maxRecDepth 100000 in
theorem c_Mx_setBounce (l : Launch) (D : va_G) (cI cZ cJ : ClassId) (a : Nat → Nat) (sz : Nat) (S : GS) (p0 : Int32) (p1 : Int32) (post : GS → Prop) (hf : wp_Mx_setBounce S p0 p1 post) : Met l y_Mx_setBounce ws_Mx_setBounce rm_Mx_setBounce (va_Pc [.ref (a 1), .int p0, .int p1] (gPre D (tys cI cZ cJ) (gkW cI cZ cJ a S) sz)) (va_Qv post (gB D (tys cI cZ cJ) (gkW cI cZ cJ a) (va_A (gkW cI cZ cJ a S) sz)) (va_A (gkW cI cZ cJ a S) sz)) 0 0 (va_A (gkW cI cZ cJ a S) sz) := by
  refine gm_w (QF := fun A => va_Qv post (gB D (tys cI cZ cJ) (gkW cI cZ cJ a) A) A) (cc := b_Mx_setBounce) (maxL := 3) (by decide) rfl (Nat.le_of_ble_eq_true rfl) ?_
  intro p e s m args below meth c A ls hx hb hr hts hown hmn hlk hml hK hA hw hl
  have hl : lv_has ls 3 [(0, .ref (a 1)), (1, .int p0), (2, .int p1)] := hl
  have hinMx : ∀ w ∈ u_ws R_Mx T_Mx 6, w ∈ ws_Mx_setBounce := fun w h => List.mem_cons_of_mem _ (tl_Mx w h)
  have hl9 := hts _ (List.mem_cons_of_mem _ tf_Mx_9)
  unfold wp_Mx_setBounce at hf
  refine lv_aload_n (pc := 0) hx hb d_Mx_setBounce_0 rfl (lv_at hl 0 rfl) ?_
  refine gk_gt_Mx_bounces (pc := 1) hx hb hK hts hinMx hown hw.1 hl9 d_Mx_setBounce_1 ?_
  refine lv_iload_n (pc := 4) hx hb d_Mx_setBounce_4 rfl (lv_at hl 1 rfl) ?_
  refine lv_iload_n (pc := 5) hx hb d_Mx_setBounce_5 rfl (lv_at hl 2 rfl) ?_
  refine gk_st9 (pc := 6) hx hb hK hw hf.1 d_Mx_setBounce_6 (fun H locs hw => ?_)
  replace hf := hf.2
  exact gr_v (pc := 7) hx hb hr hlk hK (gI S 13 (upd (S.1 13) (p0).toNatClampNeg p1)) hw hf d_Mx_setBounce_7
def L_Mx_closedContacts_7 (post : Int32 → GS → Prop) : Nat → Int32 → Int32 → GS → Prop
  | 0, _, _, _ => False
  | n + 1, x1, x2, S => (((24 : Int32) ≤ x2 → (post x1 S)) ∧ (¬ (24 : Int32) ≤ x2 → (vp_in x2 24 ∧ (vp_in x2 24 ∧ (vp_in x2 24 ∧ (L_Mx_closedContacts_7 post n (x1 ^^^ ((((S.1 13) x2.toNatClampNeg) &&& (1 : Int32)) <<< (x2 &&& 31))) (x2 + (1 : Int32)) (gI S 13 (upd (S.1 13) (x2).toNatClampNeg (((S.1 13) x2.toNatClampNeg) >>> ((1 : Int32) &&& 31))))))))))
def wp_Mx_closedContacts (S : GS) (post : Int32 → GS → Prop) : Prop := (∃ n, L_Mx_closedContacts_7 post n (S.1 1 0) (0 : Int32) S)
abbrev rm_Mx_closedContacts : Room := { frames := 0, cells := 0, slots := 0, locals := 0 }
set_option maxHeartbeats 4000000 in
set_option maxRecDepth 100000 in
theorem c_Mx_closedContacts (l : Launch) (D : va_G) (cI cZ cJ : ClassId) (a : Nat → Nat) (sz : Nat) (S : GS) (post : Int32 → GS → Prop) (hf : wp_Mx_closedContacts S post) : Met l y_Mx_closedContacts ws_Mx_closedContacts rm_Mx_closedContacts (va_Pc [.ref (a 1)] (gPre D (tys cI cZ cJ) (gkW cI cZ cJ a S) sz)) (va_Qi post (gB D (tys cI cZ cJ) (gkW cI cZ cJ a) (va_A (gkW cI cZ cJ a S) sz)) (va_A (gkW cI cZ cJ a S) sz)) 0 0 (va_A (gkW cI cZ cJ a S) sz) := by
  refine gm_w (QF := fun A => va_Qi post (gB D (tys cI cZ cJ) (gkW cI cZ cJ a) A) A) (cc := b_Mx_closedContacts) (maxL := 3) (by decide) rfl (Nat.le_of_ble_eq_true rfl) ?_
  intro p e s m args below meth c A ls hx hb hr hts hown hmn hlk hml hK hA hw hl
  have hl : lv_has ls 3 [(0, .ref (a 1))] := hl
  have hinMx : ∀ w ∈ u_ws R_Mx T_Mx 6, w ∈ ws_Mx_closedContacts := fun w h => List.mem_cons_of_mem _ (tl_Mx w h)
  have hl9 := hts _ (List.mem_cons_of_mem _ tf_Mx_9)
  have hl18 := hts _ (List.mem_cons_of_mem _ tf_Mx_18)
  unfold wp_Mx_closedContacts at hf
  refine lv_aload_n (pc := 0) hx hb d_Mx_closedContacts_0 rfl (lv_at hl 0 rfl) ?_
  refine gk_gt_Mx_wired (pc := 1) (v := (S.1 1 0)) hx hb hK hts hinMx hown hw.1 hl18 rfl d_Mx_closedContacts_1 ?_
  refine lv_istore_n (pc := 4) (lv' := [(1, .int (S.1 1 0)), (0, .ref (a 1))]) hx hb d_Mx_closedContacts_4 rfl hl (by decide) rfl (fun ls hl => ?_)
  refine lv_iconst (pc := 5) (v := 0) hx hb d_Mx_closedContacts_5 (by decide) ?_
  refine lv_istore_n (pc := 6) (lv' := [(2, .int (0 : Int32)), (1, .int (S.1 1 0)), (0, .ref (a 1))]) hx hb d_Mx_closedContacts_6 rfl hl (by decide) rfl (fun ls hl => ?_)
  obtain ⟨n, hf⟩ := hf
  have lp7 : ∀ (n : Nat) (x1 : Int32) (x2 : Int32) (S : GS) (H : Heap) (locs : List Loc) (ls : Array Slot), lv_has ls 3 [(0, .ref (a 1)), (1, .int x1), (2, .int x2)] → wf D A s.heap (gkW cI cZ cJ a S) H locs → L_Mx_closedContacts_7 post n x1 x2 S → W p l e rm_Mx_closedContacts s m args below meth c H locs 0 0 (MQ below (va_Qi post (gB D (tys cI cZ cJ) (gkW cI cZ cJ a) A) A) args s 0 0 A) (F0 m 7 ls []) := by
    intro n
    induction n with
    | zero => intro x1 x2 S H locs ls hl hw hf; exact False.elim hf
    | succ n ih7 =>
      intro x1 x2 S H locs ls hl hw hf
      unfold L_Mx_closedContacts_7 at hf
      refine lv_iload_n (pc := 7) hx hb d_Mx_closedContacts_7 rfl (lv_at hl 2 rfl) ?_
      refine lv_bipush (pc := 8) (v := 24) hx hb d_Mx_closedContacts_8 (by decide) ?_
      refine lv_icmp_ge (pc := 10) (tgt := 42) hx hb d_Mx_closedContacts_10 (by decide) (fun hc => ?_) (fun hc => ?_)
      · replace hf := hf.1 hc
        refine lv_iload_n (pc := 42) hx hb d_Mx_closedContacts_42 rfl (lv_at hl 1 rfl) ?_
        exact gr_i (pc := 43) hx hb hr hlk hK S hw hf d_Mx_closedContacts_43
      replace hf := hf.2 hc
      refine lv_iload_n (pc := 13) hx hb d_Mx_closedContacts_13 rfl (lv_at hl 1 rfl) ?_
      refine lv_aload_n (pc := 14) hx hb d_Mx_closedContacts_14 rfl (lv_at hl 0 rfl) ?_
      refine gk_gt_Mx_bounces (pc := 15) hx hb hK hts hinMx hown hw.1 hl9 d_Mx_closedContacts_15 ?_
      refine lv_iload_n (pc := 18) hx hb d_Mx_closedContacts_18 rfl (lv_at hl 2 rfl) ?_
      refine gk_ld9 (pc := 19) (v := ((S.1 13) x2.toNatClampNeg)) hx hb hK hw.1 hf.1 rfl d_Mx_closedContacts_19 ?_
      replace hf := hf.2
      refine lv_iconst (pc := 20) (v := 1) hx hb d_Mx_closedContacts_20 (by decide) ?_
      refine lv_iand (pc := 21) hx hb d_Mx_closedContacts_21 ?_
      refine lv_iload_n (pc := 22) hx hb d_Mx_closedContacts_22 rfl (lv_at hl 2 rfl) ?_
      refine lv_ishl (pc := 23) hx hb d_Mx_closedContacts_23 ?_
      refine lv_ixor (pc := 24) hx hb d_Mx_closedContacts_24 ?_
      refine lv_istore_n (pc := 25) (lv' := [(1, .int (x1 ^^^ ((((S.1 13) x2.toNatClampNeg) &&& (1 : Int32)) <<< (x2 &&& 31)))), (0, .ref (a 1)), (2, .int x2)]) hx hb d_Mx_closedContacts_25 rfl hl (by decide) rfl (fun ls hl => ?_)
      refine lv_aload_n (pc := 26) hx hb d_Mx_closedContacts_26 rfl (lv_at hl 1 rfl) ?_
      refine gk_gt_Mx_bounces (pc := 27) hx hb hK hts hinMx hown hw.1 hl9 d_Mx_closedContacts_27 ?_
      refine lv_iload_n (pc := 30) hx hb d_Mx_closedContacts_30 rfl (lv_at hl 2 rfl) ?_
      refine lv_dup2_11 (pc := 31) hx hb d_Mx_closedContacts_31 rfl rfl ?_
      refine gk_ld9 (pc := 32) (v := ((S.1 13) x2.toNatClampNeg)) hx hb hK hw.1 hf.1 rfl d_Mx_closedContacts_32 ?_
      replace hf := hf.2
      refine lv_iconst (pc := 33) (v := 1) hx hb d_Mx_closedContacts_33 (by decide) ?_
      refine lv_ishr (pc := 34) hx hb d_Mx_closedContacts_34 ?_
      refine gk_st9 (pc := 35) hx hb hK hw hf.1 d_Mx_closedContacts_35 (fun H locs hw => ?_)
      replace hf := hf.2
      refine lv_iinc (pc := 36) (k := 2) (v := (x2 + (1 : Int32))) (lv' := [(2, .int (x2 + (1 : Int32))), (1, .int (x1 ^^^ ((((S.1 13) x2.toNatClampNeg) &&& (1 : Int32)) <<< (x2 &&& 31)))), (0, .ref (a 1))]) hx hb d_Mx_closedContacts_36 hl rfl rfl (by decide) rfl (fun ls hl => ?_)
      refine lv_goto (pc := 39) (tgt := 7) hx hb d_Mx_closedContacts_39 (by decide) ?_
      exact ih7 (x1 ^^^ ((((S.1 13) x2.toNatClampNeg) &&& (1 : Int32)) <<< (x2 &&& 31))) (x2 + (1 : Int32)) (gI S 13 (upd (S.1 13) (x2).toNatClampNeg (((S.1 13) x2.toNatClampNeg) >>> ((1 : Int32) &&& 31)))) _ _ _ (lv_sub hl [2, 1, 0] rfl) hw hf
  exact lp7 n (S.1 1 0) (0 : Int32) S _ _ _ (lv_sub hl [2, 1, 0] rfl) hw hf
def wp_Mx_rowOf (p0 : Int32) (p1 : Int32) (post : Int32 → Prop) : Prop := (post ((p0 >>> ((p1 * (6 : Int32)) &&& 31)) &&& (63 : Int32)))
abbrev rm_Mx_rowOf : Room := { frames := 0, cells := 0, slots := 0, locals := 0 }
set_option maxHeartbeats 4000000 in
set_option maxRecDepth 100000 in
theorem c_Mx_rowOf (l : Launch) (p0 : Int32) (p1 : Int32) (post : Int32 → Prop) (hf : wp_Mx_rowOf p0 p1 post) : Met l y_Mx_rowOf ws_Mx_rowOf rm_Mx_rowOf (va_Pc [.int p0, .int p1] (fun _ => True)) (vp_Si post) 0 0 (fun _ => False) := by
  refine gm_p (cc := b_Mx_rowOf) (maxL := 2) (by decide) rfl (Nat.le_of_ble_eq_true rfl) ?_
  intro p e s m args below meth c ls hx hb hr hts hown hlk hml hl
  have hl : lv_has ls 2 [(0, .int p0), (1, .int p1)] := hl
  unfold wp_Mx_rowOf at hf
  refine lv_iload_n (pc := 0) hx hb d_Mx_rowOf_0 rfl (lv_at hl 0 rfl) ?_
  refine lv_iload_n (pc := 1) hx hb d_Mx_rowOf_1 rfl (lv_at hl 1 rfl) ?_
  refine lv_bipush (pc := 2) (v := 6) hx hb d_Mx_rowOf_2 (by decide) ?_
  refine lv_imul (pc := 4) hx hb d_Mx_rowOf_4 ?_
  refine lv_ishr (pc := 5) hx hb d_Mx_rowOf_5 ?_
  refine lv_bipush (pc := 6) (v := 63) hx hb d_Mx_rowOf_6 (by decide) ?_
  refine lv_iand (pc := 8) hx hb d_Mx_rowOf_8 ?_
  exact rr_i (pc := 9) hx hb hr hlk hf d_Mx_rowOf_9
def L_Mx_isFourthCorner_26 (post : Int32 → Prop) : Nat → Int32 → Int32 → Int32 → Int32 → Int32 → Int32 → Prop
  | 0, _, _, _, _, _, _ => False
  | n + 1, x0, x1, x2, x3, x4, x5 => (((4 : Int32) ≤ x5 → (post (0 : Int32))) ∧ (¬ (4 : Int32) ≤ x5 → (wp_Mx_rowOf x1 x5 (fun r35 => ((x5 = x2 → (L_Mx_isFourthCorner_26 post n x0 x1 x2 x3 x4 (x5 + (1 : Int32)))) ∧ (¬ x5 = x2 → ((((r35 >>> (x3 &&& 31)) &&& (1 : Int32)) = (0 : Int32) → (L_Mx_isFourthCorner_26 post n x0 x1 x2 x3 x4 (x5 + (1 : Int32)))) ∧ (¬ ((r35 >>> (x3 &&& 31)) &&& (1 : Int32)) = (0 : Int32) → (((r35 &&& x4) = (0 : Int32) → (L_Mx_isFourthCorner_26 post n x0 x1 x2 x3 x4 (x5 + (1 : Int32)))) ∧ (¬ (r35 &&& x4) = (0 : Int32) → (post (1 : Int32))))))))))))
def wp_Mx_isFourthCorner (p0 : Int32) (p1 : Int32) (post : Int32 → Prop) : Prop := (wp_Mx_rowOf p1 (p0 / (6 : Int32)) (fun r12 => (∃ n, L_Mx_isFourthCorner_26 post n p0 p1 (p0 / (6 : Int32)) (p0 - p0 / (6 : Int32) * (6 : Int32)) (r12 &&& (((1 : Int32) <<< ((p0 - p0 / (6 : Int32) * (6 : Int32)) &&& 31)) ^^^ (-1 : Int32))) (0 : Int32))))
abbrev rm_Mx_isFourthCorner : Room := { frames := 1, cells := 0, slots := 0, locals := 21 }
set_option maxHeartbeats 4000000 in
set_option maxRecDepth 100000 in
theorem c_Mx_isFourthCorner (l : Launch) (p0 : Int32) (p1 : Int32) (post : Int32 → Prop) (hf : wp_Mx_isFourthCorner p0 p1 post) : Met l y_Mx_isFourthCorner ws_Mx_isFourthCorner rm_Mx_isFourthCorner (va_Pc [.int p0, .int p1] (fun _ => True)) (vp_Si post) 0 0 (fun _ => False) := by
  refine gm_p (cc := b_Mx_isFourthCorner) (maxL := 7) (by decide) rfl (Nat.le_of_ble_eq_true rfl) ?_
  intro p e s m args below meth c ls hx hb hr hts hown hlk hml hl
  have hl : lv_has ls 7 [(0, .int p0), (1, .int p1)] := hl
  unfold wp_Mx_isFourthCorner at hf
  refine lv_iload_n (pc := 0) hx hb d_Mx_isFourthCorner_0 rfl (lv_at hl 0 rfl) ?_
  refine lv_bipush (pc := 1) (v := 6) hx hb d_Mx_isFourthCorner_1 (by decide) ?_
  refine lv_idiv (pc := 3) hx hb d_Mx_isFourthCorner_3 (by decide) ?_
  refine lv_istore_n (pc := 4) (lv' := [(2, .int (p0 / (6 : Int32))), (0, .int p0), (1, .int p1)]) hx hb d_Mx_isFourthCorner_4 rfl hl (by decide) rfl (fun ls hl => ?_)
  refine lv_iload_n (pc := 5) hx hb d_Mx_isFourthCorner_5 rfl (lv_at hl 1 rfl) ?_
  refine lv_bipush (pc := 6) (v := 6) hx hb d_Mx_isFourthCorner_6 (by decide) ?_
  refine lv_irem (pc := 8) hx hb d_Mx_isFourthCorner_8 (by decide) ?_
  refine lv_istore_n (pc := 9) (lv' := [(3, .int (p0 - p0 / (6 : Int32) * (6 : Int32))), (2, .int (p0 / (6 : Int32))), (0, .int p0), (1, .int p1)]) hx hb d_Mx_isFourthCorner_9 rfl hl (by decide) rfl (fun ls hl => ?_)
  refine lv_iload_n (pc := 10) hx hb d_Mx_isFourthCorner_10 rfl (lv_at hl 3 rfl) ?_
  refine lv_iload_n (pc := 11) hx hb d_Mx_isFourthCorner_11 rfl (lv_at hl 1 rfl) ?_
  refine vp_callSi (pc := 12) (W.runS (As := [.int p1, .int (p0 / (6 : Int32))]) (rest := []) ⟨hx, hb, hml, hown, hts⟩ (c_Mx_rowOf l _ _ _ hf) (cwS 2 hts (tb_wsS tc_Mx_rowOf tm_Mx_43 ts_Mx_rowOf tz_Mx) rfl rfl rfl (by decide +kernel) ⟨Nat.le_of_ble_eq_true rfl, Nat.le_of_ble_eq_true rfl⟩) p_preS rfl rfl hl.1 rfl (lv_room (Nat.le_of_ble_eq_true rfl)) d_Mx_isFourthCorner_12 ⟨Nat.zero_le _, Nat.zero_le _⟩) (fun r12 hf => ?_)
  refine lv_iconst (pc := 15) (v := 1) hx hb d_Mx_isFourthCorner_15 (by decide) ?_
  refine lv_iload_n (pc := 16) hx hb d_Mx_isFourthCorner_16 rfl (lv_at hl 0 rfl) ?_
  refine lv_ishl (pc := 17) hx hb d_Mx_isFourthCorner_17 ?_
  refine lv_iconst (pc := 18) (v := -1) hx hb d_Mx_isFourthCorner_18 (by decide) ?_
  refine lv_ixor (pc := 19) hx hb d_Mx_isFourthCorner_19 ?_
  refine lv_iand (pc := 20) hx hb d_Mx_isFourthCorner_20 ?_
  refine lv_istore (pc := 21) (lv' := [(4, .int (r12 &&& (((1 : Int32) <<< ((p0 - p0 / (6 : Int32) * (6 : Int32)) &&& 31)) ^^^ (-1 : Int32)))), (3, .int (p0 - p0 / (6 : Int32) * (6 : Int32))), (2, .int (p0 / (6 : Int32))), (0, .int p0), (1, .int p1)]) hx hb d_Mx_isFourthCorner_21 hl (by decide) rfl (fun ls hl => ?_)
  refine lv_iconst (pc := 23) (v := 0) hx hb d_Mx_isFourthCorner_23 (by decide) ?_
  refine lv_istore (pc := 24) (lv' := [(5, .int (0 : Int32)), (4, .int (r12 &&& (((1 : Int32) <<< ((p0 - p0 / (6 : Int32) * (6 : Int32)) &&& 31)) ^^^ (-1 : Int32)))), (3, .int (p0 - p0 / (6 : Int32) * (6 : Int32))), (2, .int (p0 / (6 : Int32))), (0, .int p0), (1, .int p1)]) hx hb d_Mx_isFourthCorner_24 hl (by decide) rfl (fun ls hl => ?_)
  obtain ⟨n, hf⟩ := hf
  have lp26 : ∀ (n : Nat) (x0 : Int32) (x1 : Int32) (x2 : Int32) (x3 : Int32) (x4 : Int32) (x5 : Int32) (ls : Array Slot), lv_has ls 7 [(0, .int x0), (1, .int x1), (2, .int x2), (3, .int x3), (4, .int x4), (5, .int x5)] → L_Mx_isFourthCorner_26 post n x0 x1 x2 x3 x4 x5 → W p l e rm_Mx_isFourthCorner s m args below meth c s.heap [] 0 0 (MQ below (vp_Si post) args s 0 0 (fun _ => False)) (F0 m 26 ls []) := by
    intro n
    induction n with
    | zero => intro x0 x1 x2 x3 x4 x5 ls hl hf; exact False.elim hf
    | succ n ih26 =>
      intro x0 x1 x2 x3 x4 x5 ls hl hf
      unfold L_Mx_isFourthCorner_26 at hf
      refine lv_iload (pc := 26) hx hb d_Mx_isFourthCorner_26 (lv_at hl 5 rfl) ?_
      refine lv_iconst (pc := 28) (v := 4) hx hb d_Mx_isFourthCorner_28 (by decide) ?_
      refine lv_icmp_ge (pc := 29) (tgt := 71) hx hb d_Mx_isFourthCorner_29 (by decide) (fun hc => ?_) (fun hc => ?_)
      · replace hf := hf.1 hc
        refine lv_iconst (pc := 71) (v := 0) hx hb d_Mx_isFourthCorner_71 (by decide) ?_
        exact rr_z (pc := 72) hx hb hr hlk (by decide) hf d_Mx_isFourthCorner_72
      replace hf := hf.2 hc
      refine lv_iload_n (pc := 32) hx hb d_Mx_isFourthCorner_32 rfl (lv_at hl 1 rfl) ?_
      refine lv_iload (pc := 33) hx hb d_Mx_isFourthCorner_33 (lv_at hl 5 rfl) ?_
      refine vp_callSi (pc := 35) (W.runS (As := [.int x1, .int x5]) (rest := []) ⟨hx, hb, hml, hown, hts⟩ (c_Mx_rowOf l _ _ _ hf) (cwS 2 hts (tb_wsS tc_Mx_rowOf tm_Mx_43 ts_Mx_rowOf tz_Mx) rfl rfl rfl (by decide +kernel) ⟨Nat.le_of_ble_eq_true rfl, Nat.le_of_ble_eq_true rfl⟩) p_preS rfl rfl hl.1 rfl (lv_room (Nat.le_of_ble_eq_true rfl)) d_Mx_isFourthCorner_35 ⟨Nat.zero_le _, Nat.zero_le _⟩) (fun r35 hf => ?_)
      refine lv_istore (pc := 38) (lv' := [(6, .int r35), (0, .int x0), (1, .int x1), (2, .int x2), (3, .int x3), (4, .int x4), (5, .int x5)]) hx hb d_Mx_isFourthCorner_38 hl (by decide) rfl (fun ls hl => ?_)
      refine lv_iload (pc := 40) hx hb d_Mx_isFourthCorner_40 (lv_at hl 6 rfl) ?_
      refine lv_iload_n (pc := 42) hx hb d_Mx_isFourthCorner_42 rfl (lv_at hl 3 rfl) ?_
      refine lv_icmp_eq (pc := 43) (tgt := 65) hx hb d_Mx_isFourthCorner_43 (by decide) (fun hc => ?_) (fun hc => ?_)
      · replace hf := hf.1 hc
        refine lv_iinc (pc := 65) (k := 6) (v := (x5 + (1 : Int32))) (lv' := [(5, .int (x5 + (1 : Int32))), (6, .int r35), (0, .int x0), (1, .int x1), (2, .int x2), (3, .int x3), (4, .int x4)]) hx hb d_Mx_isFourthCorner_65 hl rfl rfl (by decide) rfl (fun ls hl => ?_)
        refine lv_goto (pc := 68) (tgt := 26) hx hb d_Mx_isFourthCorner_68 (by decide) ?_
        exact ih26 x0 x1 x2 x3 x4 (x5 + (1 : Int32)) _ (lv_sub hl [2, 3, 4, 5, 6, 0] rfl) hf
      replace hf := hf.2 hc
      refine lv_iload (pc := 46) hx hb d_Mx_isFourthCorner_46 (lv_at hl 0 rfl) ?_
      refine lv_iload_n (pc := 48) hx hb d_Mx_isFourthCorner_48 rfl (lv_at hl 4 rfl) ?_
      refine lv_ishr (pc := 49) hx hb d_Mx_isFourthCorner_49 ?_
      refine lv_iconst (pc := 50) (v := 1) hx hb d_Mx_isFourthCorner_50 (by decide) ?_
      refine lv_iand (pc := 51) hx hb d_Mx_isFourthCorner_51 ?_
      refine lv_if_eq (pc := 52) (tgt := 65) hx hb d_Mx_isFourthCorner_52 (by decide) (fun hc => ?_) (fun hc => ?_)
      · replace hf := hf.1 hc
        refine lv_iinc (pc := 65) (k := 6) (v := (x5 + (1 : Int32))) (lv' := [(5, .int (x5 + (1 : Int32))), (6, .int r35), (0, .int x0), (1, .int x1), (2, .int x2), (3, .int x3), (4, .int x4)]) hx hb d_Mx_isFourthCorner_65 hl rfl rfl (by decide) rfl (fun ls hl => ?_)
        refine lv_goto (pc := 68) (tgt := 26) hx hb d_Mx_isFourthCorner_68 (by decide) ?_
        exact ih26 x0 x1 x2 x3 x4 (x5 + (1 : Int32)) _ (lv_sub hl [2, 3, 4, 5, 6, 0] rfl) hf
      replace hf := hf.2 hc
      refine lv_iload (pc := 55) hx hb d_Mx_isFourthCorner_55 (lv_at hl 0 rfl) ?_
      refine lv_iload (pc := 57) hx hb d_Mx_isFourthCorner_57 (lv_at hl 5 rfl) ?_
      refine lv_iand (pc := 59) hx hb d_Mx_isFourthCorner_59 ?_
      refine lv_if_eq (pc := 60) (tgt := 65) hx hb d_Mx_isFourthCorner_60 (by decide) (fun hc => ?_) (fun hc => ?_)
      · replace hf := hf.1 hc
        refine lv_iinc (pc := 65) (k := 6) (v := (x5 + (1 : Int32))) (lv' := [(5, .int (x5 + (1 : Int32))), (6, .int r35), (0, .int x0), (1, .int x1), (2, .int x2), (3, .int x3), (4, .int x4)]) hx hb d_Mx_isFourthCorner_65 hl rfl rfl (by decide) rfl (fun ls hl => ?_)
        refine lv_goto (pc := 68) (tgt := 26) hx hb d_Mx_isFourthCorner_68 (by decide) ?_
        exact ih26 x0 x1 x2 x3 x4 (x5 + (1 : Int32)) _ (lv_sub hl [2, 3, 4, 5, 6, 0] rfl) hf
      replace hf := hf.2 hc
      refine lv_iconst (pc := 63) (v := 1) hx hb d_Mx_isFourthCorner_63 (by decide) ?_
      exact rr_z (pc := 64) hx hb hr hlk (by decide) hf d_Mx_isFourthCorner_64
  exact lp26 n p0 p1 (p0 / (6 : Int32)) (p0 - p0 / (6 : Int32) * (6 : Int32)) (r12 &&& (((1 : Int32) <<< ((p0 - p0 / (6 : Int32) * (6 : Int32)) &&& 31)) ^^^ (-1 : Int32))) (0 : Int32) _ (lv_sub hl [4, 5, 3, 2, 1, 0] rfl) hf
def J_Mx_watch_35 (post : GS → Prop) (x1 : Int32) (x2 : Int32) (y1 : Int32) (y2 : Int32) (S : GS) : Prop := (vp_in y1 24 ∧ (vp_in x1 24 ∧ ((((upd (S.1 14) (y1).toNatClampNeg y2) x1.toNatClampNeg) = (5 : Int32) → (vp_in x1 24 ∧ (post (gI (gI (gI S 14 (upd (S.1 14) (y1).toNatClampNeg y2)) 3 (fun _ => ((S.1 3 0) ^^^ x2))) 14 (upd (upd (S.1 14) (y1).toNatClampNeg y2) (x1).toNatClampNeg (0 : Int32)))))) ∧ (¬ ((upd (S.1 14) (y1).toNatClampNeg y2) x1.toNatClampNeg) = (5 : Int32) → (post (gI S 14 (upd (S.1 14) (y1).toNatClampNeg y2)))))))
def wp_Mx_watch (S : GS) (p0 : Int32) (post : GS → Prop) : Prop := (((((S.1 2 0) ^^^ (S.1 3 0)) &&& ((1 : Int32) <<< (p0 &&& 31))) = (0 : Int32) → (J_Mx_watch_35 post p0 ((1 : Int32) <<< (p0 &&& 31)) p0 (0 : Int32) S)) ∧ (¬ (((S.1 2 0) ^^^ (S.1 3 0)) &&& ((1 : Int32) <<< (p0 &&& 31))) = (0 : Int32) → (vp_in p0 24 ∧ (J_Mx_watch_35 post p0 ((1 : Int32) <<< (p0 &&& 31)) p0 (((S.1 14) p0.toNatClampNeg) + (1 : Int32)) S))))
abbrev rm_Mx_watch : Room := { frames := 0, cells := 0, slots := 0, locals := 0 }
set_option maxHeartbeats 4000000 in
set_option maxRecDepth 100000 in
theorem c_Mx_watch (l : Launch) (D : va_G) (cI cZ cJ : ClassId) (a : Nat → Nat) (sz : Nat) (S : GS) (p0 : Int32) (post : GS → Prop) (hf : wp_Mx_watch S p0 post) : Met l y_Mx_watch ws_Mx_watch rm_Mx_watch (va_Pc [.ref (a 1), .int p0] (gPre D (tys cI cZ cJ) (gkW cI cZ cJ a S) sz)) (va_Qv post (gB D (tys cI cZ cJ) (gkW cI cZ cJ a) (va_A (gkW cI cZ cJ a S) sz)) (va_A (gkW cI cZ cJ a S) sz)) 0 0 (va_A (gkW cI cZ cJ a S) sz) := by
  refine gm_w (QF := fun A => va_Qv post (gB D (tys cI cZ cJ) (gkW cI cZ cJ a) A) A) (cc := b_Mx_watch) (maxL := 3) (by decide) rfl (Nat.le_of_ble_eq_true rfl) ?_
  intro p e s m args below meth c A ls hx hb hr hts hown hmn hlk hml hK hA hw hl
  have hl : lv_has ls 3 [(0, .ref (a 1)), (1, .int p0)] := hl
  have hinMx : ∀ w ∈ u_ws R_Mx T_Mx 6, w ∈ ws_Mx_watch := fun w h => List.mem_cons_of_mem _ (tl_Mx w h)
  have hl15 := hts _ (List.mem_cons_of_mem _ tf_Mx_15)
  have hl22 := hts _ (List.mem_cons_of_mem _ tf_Mx_22)
  have hl25 := hts _ (List.mem_cons_of_mem _ tf_Mx_25)
  have jn35 : ∀ (x1 : Int32) (x2 : Int32) (y1 : Int32) (y2 : Int32) (S : GS) (H : Heap) (locs : List Loc) (ls : Array Slot), lv_has ls 3 [(0, .ref (a 1)), (1, .int x1), (2, .int x2)] → wf D A s.heap (gkW cI cZ cJ a S) H locs → J_Mx_watch_35 post x1 x2 y1 y2 S → W p l e rm_Mx_watch s m args below meth c H locs 0 0 (MQ below (va_Qv post (gB D (tys cI cZ cJ) (gkW cI cZ cJ a) A) A) args s 0 0 A) (F0 m 35 ls [.int y2, .int y1, .ref (a 10)]) := by
    intro x1 x2 y1 y2 S H locs ls hl hw hf
    unfold J_Mx_watch_35 at hf
    refine gk_st10 (pc := 35) hx hb hK hw hf.1 d_Mx_watch_35 (fun H locs hw => ?_)
    replace hf := hf.2
    refine lv_aload_n (pc := 36) hx hb d_Mx_watch_36 rfl (lv_at hl 0 rfl) ?_
    refine gk_gt_Mx_otherwise (pc := 37) hx hb hK hts hinMx hown hw.1 hl15 d_Mx_watch_37 ?_
    refine lv_iload_n (pc := 40) hx hb d_Mx_watch_40 rfl (lv_at hl 1 rfl) ?_
    refine gk_ld10 (pc := 41) (v := ((upd (S.1 14) (y1).toNatClampNeg y2) x1.toNatClampNeg)) hx hb hK hw.1 hf.1 rfl d_Mx_watch_41 ?_
    replace hf := hf.2
    refine lv_iconst (pc := 42) (v := 5) hx hb d_Mx_watch_42 (by decide) ?_
    refine lv_icmp_ne (pc := 43) (tgt := 63) hx hb d_Mx_watch_43 (by decide) (fun hc => ?_) (fun hc => ?_)
    · replace hf := hf.2 hc
      exact gr_v (pc := 63) hx hb hr hlk hK (gI S 14 (upd (S.1 14) (y1).toNatClampNeg y2)) hw hf d_Mx_watch_63
    replace hf := hf.1 hc
    refine lv_aload_n (pc := 46) hx hb d_Mx_watch_46 rfl (lv_at hl 0 rfl) ?_
    refine lv_dup (pc := 47) hx hb d_Mx_watch_47 rfl ?_
    refine gk_gt_Mx_seen (pc := 48) (v := (S.1 3 0)) hx hb hK hts hinMx hown hw.1 hl25 rfl d_Mx_watch_48 ?_
    refine lv_iload_n (pc := 51) hx hb d_Mx_watch_51 rfl (lv_at hl 2 rfl) ?_
    refine lv_ixor (pc := 52) hx hb d_Mx_watch_52 ?_
    refine gk_pt_Mx_seen (pc := 53) hx hb hK hts hinMx hown hw hl25 d_Mx_watch_53 (fun H locs hw => ?_)
    refine lv_aload_n (pc := 56) hx hb d_Mx_watch_56 rfl (lv_at hl 0 rfl) ?_
    refine gk_gt_Mx_otherwise (pc := 57) hx hb hK hts hinMx hown hw.1 hl15 d_Mx_watch_57 ?_
    refine lv_iload_n (pc := 60) hx hb d_Mx_watch_60 rfl (lv_at hl 1 rfl) ?_
    refine lv_iconst (pc := 61) (v := 0) hx hb d_Mx_watch_61 (by decide) ?_
    refine gk_st10 (pc := 62) hx hb hK hw hf.1 d_Mx_watch_62 (fun H locs hw => ?_)
    replace hf := hf.2
    have hw : wf D A s.heap (gkW cI cZ cJ a (gI (gI (gI S 14 (upd (S.1 14) (y1).toNatClampNeg y2)) 3 (fun _ => ((S.1 3 0) ^^^ x2))) 14 (upd (upd (S.1 14) (y1).toNatClampNeg y2) (x1).toNatClampNeg (0 : Int32)))) H locs := hw
    exact gr_v (pc := 63) hx hb hr hlk hK (gI (gI (gI S 14 (upd (S.1 14) (y1).toNatClampNeg y2)) 3 (fun _ => ((S.1 3 0) ^^^ x2))) 14 (upd (upd (S.1 14) (y1).toNatClampNeg y2) (x1).toNatClampNeg (0 : Int32))) hw hf d_Mx_watch_63
  unfold wp_Mx_watch at hf
  refine lv_iconst (pc := 0) (v := 1) hx hb d_Mx_watch_0 (by decide) ?_
  refine lv_iload_n (pc := 1) hx hb d_Mx_watch_1 rfl (lv_at hl 1 rfl) ?_
  refine lv_ishl (pc := 2) hx hb d_Mx_watch_2 ?_
  refine lv_istore_n (pc := 3) (lv' := [(2, .int ((1 : Int32) <<< (p0 &&& 31))), (0, .ref (a 1)), (1, .int p0)]) hx hb d_Mx_watch_3 rfl hl (by decide) rfl (fun ls hl => ?_)
  refine lv_aload_n (pc := 4) hx hb d_Mx_watch_4 rfl (lv_at hl 1 rfl) ?_
  refine gk_gt_Mx_otherwise (pc := 5) hx hb hK hts hinMx hown hw.1 hl15 d_Mx_watch_5 ?_
  refine lv_iload_n (pc := 8) hx hb d_Mx_watch_8 rfl (lv_at hl 2 rfl) ?_
  refine lv_aload_n (pc := 9) hx hb d_Mx_watch_9 rfl (lv_at hl 1 rfl) ?_
  refine gk_gt_Mx_read (pc := 10) (v := (S.1 2 0)) hx hb hK hts hinMx hown hw.1 hl22 rfl d_Mx_watch_10 ?_
  refine lv_aload_n (pc := 13) hx hb d_Mx_watch_13 rfl (lv_at hl 1 rfl) ?_
  refine gk_gt_Mx_seen (pc := 14) (v := (S.1 3 0)) hx hb hK hts hinMx hown hw.1 hl25 rfl d_Mx_watch_14 ?_
  refine lv_ixor (pc := 17) hx hb d_Mx_watch_17 ?_
  refine lv_iload_n (pc := 18) hx hb d_Mx_watch_18 rfl (lv_at hl 0 rfl) ?_
  refine lv_iand (pc := 19) hx hb d_Mx_watch_19 ?_
  refine lv_if_eq (pc := 20) (tgt := 34) hx hb d_Mx_watch_20 (by decide) (fun hc => ?_) (fun hc => ?_)
  · replace hf := hf.1 hc
    refine lv_iconst (pc := 34) (v := 0) hx hb d_Mx_watch_34 (by decide) ?_
    exact jn35 p0 ((1 : Int32) <<< (p0 &&& 31)) p0 (0 : Int32) S _ _ _ (lv_sub hl [1, 2, 0] rfl) hw hf
  replace hf := hf.2 hc
  refine lv_aload_n (pc := 23) hx hb d_Mx_watch_23 rfl (lv_at hl 1 rfl) ?_
  refine gk_gt_Mx_otherwise (pc := 24) hx hb hK hts hinMx hown hw.1 hl15 d_Mx_watch_24 ?_
  refine lv_iload_n (pc := 27) hx hb d_Mx_watch_27 rfl (lv_at hl 2 rfl) ?_
  refine gk_ld10 (pc := 28) (v := ((S.1 14) p0.toNatClampNeg)) hx hb hK hw.1 hf.1 rfl d_Mx_watch_28 ?_
  replace hf := hf.2
  refine lv_iconst (pc := 29) (v := 1) hx hb d_Mx_watch_29 (by decide) ?_
  refine lv_iadd (pc := 30) hx hb d_Mx_watch_30 ?_
  refine lv_goto (pc := 31) (tgt := 35) hx hb d_Mx_watch_31 (by decide) ?_
  exact jn35 p0 ((1 : Int32) <<< (p0 &&& 31)) p0 (((S.1 14) p0.toNatClampNeg) + (1 : Int32)) S _ _ _ (lv_sub hl [1, 2, 0] rfl) hw hf
def L_Mx_look_54 (post : GS → Prop) : Nat → Int32 → Int32 → GS → Prop
  | 0, _, _, _ => False
  | n + 1, x1, x2, S => (((24 : Int32) ≤ x2 → (post S)) ∧ (¬ (24 : Int32) ≤ x2 → (wp_Mx_watch S x2 (fun S62 => (L_Mx_look_54 post n x1 (x2 + (1 : Int32)) S62)))))
def L_Mx_look_12 (post : GS → Prop) : Nat → Int32 → Int32 → GS → Prop
  | 0, _, _, _ => False
  | n + 1, x1, x2, S => (((24 : Int32) ≤ x2 → (∃ n, L_Mx_look_54 post n x1 (0 : Int32) S)) ∧ (¬ (24 : Int32) ≤ x2 → ((((x1 >>> (x2 &&& 31)) &&& (1 : Int32)) = (0 : Int32) → (wp_Mx_isFourthCorner x2 x1 (fun r28 => ((r28 = (0 : Int32) → (L_Mx_look_12 post n x1 (x2 + (1 : Int32)) S)) ∧ (¬ r28 = (0 : Int32) → (L_Mx_look_12 post n x1 (x2 + (1 : Int32)) (gI S 2 (fun _ => ((S.1 2 0) ||| ((1 : Int32) <<< (x2 &&& 31))))))))))) ∧ (¬ ((x1 >>> (x2 &&& 31)) &&& (1 : Int32)) = (0 : Int32) → (L_Mx_look_12 post n x1 (x2 + (1 : Int32)) S)))))
def wp_Mx_look (S : GS) (post : GS → Prop) : Prop := (wp_Mx_closedContacts S (fun r1 S1 => (∃ n, L_Mx_look_12 post n r1 (0 : Int32) (gI S1 2 (fun _ => r1)))))
abbrev rm_Mx_look : Room := { frames := 2, cells := 0, slots := 0, locals := 47 }
set_option maxHeartbeats 4000000 in
set_option maxRecDepth 100000 in
theorem c_Mx_look (l : Launch) (D : va_G) (cI cZ cJ : ClassId) (a : Nat → Nat) (sz : Nat) (S : GS) (post : GS → Prop) (hf : wp_Mx_look S post) : Met l y_Mx_look ws_Mx_look rm_Mx_look (va_Pc [.ref (a 1)] (gPre D (tys cI cZ cJ) (gkW cI cZ cJ a S) sz)) (va_Qv post (gB D (tys cI cZ cJ) (gkW cI cZ cJ a) (va_A (gkW cI cZ cJ a S) sz)) (va_A (gkW cI cZ cJ a S) sz)) 0 0 (va_A (gkW cI cZ cJ a S) sz) := by
  refine gm_w (QF := fun A => va_Qv post (gB D (tys cI cZ cJ) (gkW cI cZ cJ a) A) A) (cc := b_Mx_look) (maxL := 3) (by decide) rfl (Nat.le_of_ble_eq_true rfl) ?_
  intro p e s m args below meth c A ls hx hb hr hts hown hmn hlk hml hK hA hw hl
  have hl : lv_has ls 3 [(0, .ref (a 1))] := hl
  have hinMx : ∀ w ∈ u_ws R_Mx T_Mx 6, w ∈ ws_Mx_look := fun w h => List.mem_cons_of_mem _ (tl_Mx w h)
  have hl22 := hts _ (List.mem_cons_of_mem _ tf_Mx_22)
  unfold wp_Mx_look at hf
  refine lv_aload_n (pc := 0) hx hb d_Mx_look_0 rfl (lv_at hl 0 rfl) ?_
  refine gc_i (pc := 1) (Wf := gkW cI cZ cJ a) hw hA (va_runV (As := []) (rest := []) ⟨hx, hb, hml, hown, hts⟩ (c_Mx_closedContacts l D cI cZ cJ a _ _ _ hf) (cwV 0 hts (tb_wsV tc_Mx_closedContacts tm_Mx_31 ti_Mx_closedContacts te_Mx_closedContacts tz_Mx) rfl rfl rfl (by decide +kernel) ⟨Nat.le_of_ble_eq_true rfl, Nat.le_of_ble_eq_true rfl⟩) (g_preV (q0 := 1) (ci := 1) hK hw rfl rfl) rfl rfl hl.1 rfl (lv_room (Nat.le_of_ble_eq_true rfl)) d_Mx_look_1 ⟨Nat.zero_le _, Nat.zero_le _⟩) (fun r1 S1 H locs hw hf => ?_)
  refine lv_istore_n (pc := 4) (lv' := [(1, .int r1), (0, .ref (a 1))]) hx hb d_Mx_look_4 rfl hl (by decide) rfl (fun ls hl => ?_)
  refine lv_aload_n (pc := 5) hx hb d_Mx_look_5 rfl (lv_at hl 1 rfl) ?_
  refine lv_iload_n (pc := 6) hx hb d_Mx_look_6 rfl (lv_at hl 0 rfl) ?_
  refine gk_pt_Mx_read (pc := 7) hx hb hK hts hinMx hown hw hl22 d_Mx_look_7 (fun H locs hw => ?_)
  refine lv_iconst (pc := 10) (v := 0) hx hb d_Mx_look_10 (by decide) ?_
  refine lv_istore_n (pc := 11) (lv' := [(2, .int (0 : Int32)), (1, .int r1), (0, .ref (a 1))]) hx hb d_Mx_look_11 rfl hl (by decide) rfl (fun ls hl => ?_)
  obtain ⟨n, hf⟩ := hf
  have lp12 : ∀ (n : Nat) (x1 : Int32) (x2 : Int32) (S : GS) (H : Heap) (locs : List Loc) (ls : Array Slot), lv_has ls 3 [(0, .ref (a 1)), (1, .int x1), (2, .int x2)] → wf D A s.heap (gkW cI cZ cJ a S) H locs → L_Mx_look_12 post n x1 x2 S → W p l e rm_Mx_look s m args below meth c H locs 0 0 (MQ below (va_Qv post (gB D (tys cI cZ cJ) (gkW cI cZ cJ a) A) A) args s 0 0 A) (F0 m 12 ls []) := by
    intro n
    induction n with
    | zero => intro x1 x2 S H locs ls hl hw hf; exact False.elim hf
    | succ n ih12 =>
      intro x1 x2 S H locs ls hl hw hf
      unfold L_Mx_look_12 at hf
      refine lv_iload_n (pc := 12) hx hb d_Mx_look_12 rfl (lv_at hl 2 rfl) ?_
      refine lv_bipush (pc := 13) (v := 24) hx hb d_Mx_look_13 (by decide) ?_
      refine lv_icmp_ge (pc := 15) (tgt := 52) hx hb d_Mx_look_15 (by decide) (fun hc => ?_) (fun hc => ?_)
      · replace hf := hf.1 hc
        refine lv_iconst (pc := 52) (v := 0) hx hb d_Mx_look_52 (by decide) ?_
        refine lv_istore_n (pc := 53) (lv' := [(2, .int (0 : Int32)), (0, .ref (a 1)), (1, .int x1)]) hx hb d_Mx_look_53 rfl hl (by decide) rfl (fun ls hl => ?_)
        obtain ⟨n, hf⟩ := hf
        have lp54 : ∀ (n : Nat) (x1 : Int32) (x2 : Int32) (S : GS) (H : Heap) (locs : List Loc) (ls : Array Slot), lv_has ls 3 [(0, .ref (a 1)), (1, .int x1), (2, .int x2)] → wf D A s.heap (gkW cI cZ cJ a S) H locs → L_Mx_look_54 post n x1 x2 S → W p l e rm_Mx_look s m args below meth c H locs 0 0 (MQ below (va_Qv post (gB D (tys cI cZ cJ) (gkW cI cZ cJ a) A) A) args s 0 0 A) (F0 m 54 ls []) := by
          intro n
          induction n with
          | zero => intro x1 x2 S H locs ls hl hw hf; exact False.elim hf
          | succ n ih54 =>
            intro x1 x2 S H locs ls hl hw hf
            unfold L_Mx_look_54 at hf
            refine lv_iload_n (pc := 54) hx hb d_Mx_look_54 rfl (lv_at hl 2 rfl) ?_
            refine lv_bipush (pc := 55) (v := 24) hx hb d_Mx_look_55 (by decide) ?_
            refine lv_icmp_ge (pc := 57) (tgt := 71) hx hb d_Mx_look_57 (by decide) (fun hc => ?_) (fun hc => ?_)
            · replace hf := hf.1 hc
              exact gr_v (pc := 71) hx hb hr hlk hK S hw hf d_Mx_look_71
            replace hf := hf.2 hc
            refine lv_aload_n (pc := 60) hx hb d_Mx_look_60 rfl (lv_at hl 0 rfl) ?_
            refine lv_iload_n (pc := 61) hx hb d_Mx_look_61 rfl (lv_at hl 2 rfl) ?_
            refine gc_v (pc := 62) (Wf := gkW cI cZ cJ a) hw hA (va_runV (As := [.int x2]) (rest := []) ⟨hx, hb, hml, hown, hts⟩ (c_Mx_watch l D cI cZ cJ a _ _ _ _ hf) (cwV 1 hts (tb_wsV tc_Mx_watch tm_Mx_39 ti_Mx_watch te_Mx_watch tz_Mx) rfl rfl rfl (by decide +kernel) ⟨Nat.le_of_ble_eq_true rfl, Nat.le_of_ble_eq_true rfl⟩) (g_preV (q0 := 1) (ci := 1) hK hw rfl rfl) rfl rfl hl.1 rfl (lv_room (Nat.le_of_ble_eq_true rfl)) d_Mx_look_62 ⟨Nat.zero_le _, Nat.zero_le _⟩) (fun S62 H locs hw hf => ?_)
            refine lv_iinc (pc := 65) (k := 2) (v := (x2 + (1 : Int32))) (lv' := [(2, .int (x2 + (1 : Int32))), (0, .ref (a 1)), (1, .int x1)]) hx hb d_Mx_look_65 hl rfl rfl (by decide) rfl (fun ls hl => ?_)
            refine lv_goto (pc := 68) (tgt := 54) hx hb d_Mx_look_68 (by decide) ?_
            exact ih54 x1 (x2 + (1 : Int32)) S62 _ _ _ (lv_sub hl [1, 2, 0] rfl) hw hf
        exact lp54 n x1 (0 : Int32) S _ _ _ (lv_sub hl [1, 2, 0] rfl) hw hf
      replace hf := hf.2 hc
      refine lv_iload_n (pc := 18) hx hb d_Mx_look_18 rfl (lv_at hl 1 rfl) ?_
      refine lv_iload_n (pc := 19) hx hb d_Mx_look_19 rfl (lv_at hl 2 rfl) ?_
      refine lv_ishr (pc := 20) hx hb d_Mx_look_20 ?_
      refine lv_iconst (pc := 21) (v := 1) hx hb d_Mx_look_21 (by decide) ?_
      refine lv_iand (pc := 22) hx hb d_Mx_look_22 ?_
      refine lv_if_ne (pc := 23) (tgt := 46) hx hb d_Mx_look_23 (by decide) (fun hc => ?_) (fun hc => ?_)
      · replace hf := hf.2 hc
        refine lv_iinc (pc := 46) (k := 2) (v := (x2 + (1 : Int32))) (lv' := [(2, .int (x2 + (1 : Int32))), (0, .ref (a 1)), (1, .int x1)]) hx hb d_Mx_look_46 hl rfl rfl (by decide) rfl (fun ls hl => ?_)
        refine lv_goto (pc := 49) (tgt := 12) hx hb d_Mx_look_49 (by decide) ?_
        exact ih12 x1 (x2 + (1 : Int32)) S _ _ _ (lv_sub hl [1, 2, 0] rfl) hw hf
      replace hf := hf.1 hc
      refine lv_iload_n (pc := 26) hx hb d_Mx_look_26 rfl (lv_at hl 2 rfl) ?_
      refine lv_iload_n (pc := 27) hx hb d_Mx_look_27 rfl (lv_at hl 1 rfl) ?_
      refine vp_callSi (pc := 28) (W.runS (As := [.int x2, .int x1]) (rest := []) ⟨hx, hb, hml, hown, hts⟩ (c_Mx_isFourthCorner l _ _ _ hf) (cwS 2 hts (tb_wsS tc_Mx_isFourthCorner tm_Mx_35 ts_Mx_isFourthCorner tz_Mx) rfl rfl rfl (by decide +kernel) ⟨Nat.le_of_ble_eq_true rfl, Nat.le_of_ble_eq_true rfl⟩) p_preS rfl rfl hl.1 rfl (lv_room (Nat.le_of_ble_eq_true rfl)) d_Mx_look_28 ⟨Nat.zero_le _, Nat.zero_le _⟩) (fun r28 hf => ?_)
      refine lv_if_eq (pc := 31) (tgt := 46) hx hb d_Mx_look_31 (by decide) (fun hc => ?_) (fun hc => ?_)
      · replace hf := hf.1 hc
        refine lv_iinc (pc := 46) (k := 2) (v := (x2 + (1 : Int32))) (lv' := [(2, .int (x2 + (1 : Int32))), (0, .ref (a 1)), (1, .int x1)]) hx hb d_Mx_look_46 hl rfl rfl (by decide) rfl (fun ls hl => ?_)
        refine lv_goto (pc := 49) (tgt := 12) hx hb d_Mx_look_49 (by decide) ?_
        exact ih12 x1 (x2 + (1 : Int32)) S _ _ _ (lv_sub hl [1, 2, 0] rfl) hw hf
      replace hf := hf.2 hc
      refine lv_aload_n (pc := 34) hx hb d_Mx_look_34 rfl (lv_at hl 0 rfl) ?_
      refine lv_dup (pc := 35) hx hb d_Mx_look_35 rfl ?_
      refine gk_gt_Mx_read (pc := 36) (v := (S.1 2 0)) hx hb hK hts hinMx hown hw.1 hl22 rfl d_Mx_look_36 ?_
      refine lv_iconst (pc := 39) (v := 1) hx hb d_Mx_look_39 (by decide) ?_
      refine lv_iload_n (pc := 40) hx hb d_Mx_look_40 rfl (lv_at hl 2 rfl) ?_
      refine lv_ishl (pc := 41) hx hb d_Mx_look_41 ?_
      refine lv_ior (pc := 42) hx hb d_Mx_look_42 ?_
      refine gk_pt_Mx_read (pc := 43) hx hb hK hts hinMx hown hw hl22 d_Mx_look_43 (fun H locs hw => ?_)
      refine lv_iinc (pc := 46) (k := 2) (v := (x2 + (1 : Int32))) (lv' := [(2, .int (x2 + (1 : Int32))), (0, .ref (a 1)), (1, .int x1)]) hx hb d_Mx_look_46 hl rfl rfl (by decide) rfl (fun ls hl => ?_)
      refine lv_goto (pc := 49) (tgt := 12) hx hb d_Mx_look_49 (by decide) ?_
      exact ih12 x1 (x2 + (1 : Int32)) (gI S 2 (fun _ => ((S.1 2 0) ||| ((1 : Int32) <<< (x2 &&& 31))))) _ _ _ (lv_sub hl [1, 2, 0] rfl) hw hf
  exact lp12 n r1 (0 : Int32) (gI S1 2 (fun _ => r1)) _ _ _ (lv_sub hl [2, 1, 0] rfl) hw hf
def wp_Mx_believe (S : GS) (p0 : Int32) (post : Int32 → GS → Prop) : Prop := (((((S.1 4 0) &&& ((S.1 3 0) ^^^ (-1 : Int32))) &&& ((1 : Int32) <<< (p0 &&& 31))) = (0 : Int32) → (((((S.1 3 0) &&& ((S.1 4 0) ^^^ (-1 : Int32))) &&& ((1 : Int32) <<< (p0 &&& 31))) = (0 : Int32) → (post (-1 : Int32) S)) ∧ (¬ (((S.1 3 0) &&& ((S.1 4 0) ^^^ (-1 : Int32))) &&& ((1 : Int32) <<< (p0 &&& 31))) = (0 : Int32) → (wp_Mx_isFourthCorner p0 (S.1 3 0) (fun r57 => ((r57 = (0 : Int32) → (post (((2 : Int32) * p0) + (1 : Int32)) (gI S 4 (fun _ => ((S.1 4 0) ||| ((1 : Int32) <<< (p0 &&& 31))))))) ∧ (¬ r57 = (0 : Int32) → (post (-1 : Int32) S)))))))) ∧ (¬ (((S.1 4 0) &&& ((S.1 3 0) ^^^ (-1 : Int32))) &&& ((1 : Int32) <<< (p0 &&& 31))) = (0 : Int32) → (post ((2 : Int32) * p0) (gI S 4 (fun _ => ((S.1 4 0) &&& (((1 : Int32) <<< (p0 &&& 31)) ^^^ (-1 : Int32))))))))
abbrev rm_Mx_believe : Room := { frames := 2, cells := 0, slots := 0, locals := 47 }
set_option maxHeartbeats 4000000 in
set_option maxRecDepth 100000 in
theorem c_Mx_believe (l : Launch) (D : va_G) (cI cZ cJ : ClassId) (a : Nat → Nat) (sz : Nat) (S : GS) (p0 : Int32) (post : Int32 → GS → Prop) (hf : wp_Mx_believe S p0 post) : Met l y_Mx_believe ws_Mx_believe rm_Mx_believe (va_Pc [.ref (a 1), .int p0] (gPre D (tys cI cZ cJ) (gkW cI cZ cJ a S) sz)) (va_Qi post (gB D (tys cI cZ cJ) (gkW cI cZ cJ a) (va_A (gkW cI cZ cJ a S) sz)) (va_A (gkW cI cZ cJ a S) sz)) 0 0 (va_A (gkW cI cZ cJ a S) sz) := by
  refine gm_w (QF := fun A => va_Qi post (gB D (tys cI cZ cJ) (gkW cI cZ cJ a) A) A) (cc := b_Mx_believe) (maxL := 3) (by decide) rfl (Nat.le_of_ble_eq_true rfl) ?_
  intro p e s m args below meth c A ls hx hb hr hts hown hmn hlk hml hK hA hw hl
  have hl : lv_has ls 3 [(0, .ref (a 1)), (1, .int p0)] := hl
  have hinMx : ∀ w ∈ u_ws R_Mx T_Mx 6, w ∈ ws_Mx_believe := fun w h => List.mem_cons_of_mem _ (tl_Mx w h)
  have hl25 := hts _ (List.mem_cons_of_mem _ tf_Mx_25)
  have hl28 := hts _ (List.mem_cons_of_mem _ tf_Mx_28)
  unfold wp_Mx_believe at hf
  refine lv_iconst (pc := 0) (v := 1) hx hb d_Mx_believe_0 (by decide) ?_
  refine lv_iload_n (pc := 1) hx hb d_Mx_believe_1 rfl (lv_at hl 1 rfl) ?_
  refine lv_ishl (pc := 2) hx hb d_Mx_believe_2 ?_
  refine lv_istore_n (pc := 3) (lv' := [(2, .int ((1 : Int32) <<< (p0 &&& 31))), (0, .ref (a 1)), (1, .int p0)]) hx hb d_Mx_believe_3 rfl hl (by decide) rfl (fun ls hl => ?_)
  refine lv_aload_n (pc := 4) hx hb d_Mx_believe_4 rfl (lv_at hl 1 rfl) ?_
  refine gk_gt_Mx_believed (pc := 5) (v := (S.1 4 0)) hx hb hK hts hinMx hown hw.1 hl28 rfl d_Mx_believe_5 ?_
  refine lv_aload_n (pc := 8) hx hb d_Mx_believe_8 rfl (lv_at hl 1 rfl) ?_
  refine gk_gt_Mx_seen (pc := 9) (v := (S.1 3 0)) hx hb hK hts hinMx hown hw.1 hl25 rfl d_Mx_believe_9 ?_
  refine lv_iconst (pc := 12) (v := -1) hx hb d_Mx_believe_12 (by decide) ?_
  refine lv_ixor (pc := 13) hx hb d_Mx_believe_13 ?_
  refine lv_iand (pc := 14) hx hb d_Mx_believe_14 ?_
  refine lv_iload_n (pc := 15) hx hb d_Mx_believe_15 rfl (lv_at hl 0 rfl) ?_
  refine lv_iand (pc := 16) hx hb d_Mx_believe_16 ?_
  refine lv_if_eq (pc := 17) (tgt := 36) hx hb d_Mx_believe_17 (by decide) (fun hc => ?_) (fun hc => ?_)
  · replace hf := hf.1 hc
    refine lv_aload_n (pc := 36) hx hb d_Mx_believe_36 rfl (lv_at hl 1 rfl) ?_
    refine gk_gt_Mx_seen (pc := 37) (v := (S.1 3 0)) hx hb hK hts hinMx hown hw.1 hl25 rfl d_Mx_believe_37 ?_
    refine lv_aload_n (pc := 40) hx hb d_Mx_believe_40 rfl (lv_at hl 1 rfl) ?_
    refine gk_gt_Mx_believed (pc := 41) (v := (S.1 4 0)) hx hb hK hts hinMx hown hw.1 hl28 rfl d_Mx_believe_41 ?_
    refine lv_iconst (pc := 44) (v := -1) hx hb d_Mx_believe_44 (by decide) ?_
    refine lv_ixor (pc := 45) hx hb d_Mx_believe_45 ?_
    refine lv_iand (pc := 46) hx hb d_Mx_believe_46 ?_
    refine lv_iload_n (pc := 47) hx hb d_Mx_believe_47 rfl (lv_at hl 0 rfl) ?_
    refine lv_iand (pc := 48) hx hb d_Mx_believe_48 ?_
    refine lv_if_eq (pc := 49) (tgt := 79) hx hb d_Mx_believe_49 (by decide) (fun hc => ?_) (fun hc => ?_)
    · replace hf := hf.1 hc
      refine lv_iconst (pc := 79) (v := -1) hx hb d_Mx_believe_79 (by decide) ?_
      exact gr_i (pc := 80) hx hb hr hlk hK S hw hf d_Mx_believe_80
    replace hf := hf.2 hc
    refine lv_iload_n (pc := 52) hx hb d_Mx_believe_52 rfl (lv_at hl 2 rfl) ?_
    refine lv_aload_n (pc := 53) hx hb d_Mx_believe_53 rfl (lv_at hl 1 rfl) ?_
    refine gk_gt_Mx_seen (pc := 54) (v := (S.1 3 0)) hx hb hK hts hinMx hown hw.1 hl25 rfl d_Mx_believe_54 ?_
    refine vp_callSi (pc := 57) (W.runS (As := [.int p0, .int (S.1 3 0)]) (rest := []) ⟨hx, hb, hml, hown, hts⟩ (c_Mx_isFourthCorner l _ _ _ hf) (cwS 2 hts (tb_wsS tc_Mx_isFourthCorner tm_Mx_35 ts_Mx_isFourthCorner tz_Mx) rfl rfl rfl (by decide +kernel) ⟨Nat.le_of_ble_eq_true rfl, Nat.le_of_ble_eq_true rfl⟩) p_preS rfl rfl hl.1 rfl (lv_room (Nat.le_of_ble_eq_true rfl)) d_Mx_believe_57 ⟨Nat.zero_le _, Nat.zero_le _⟩) (fun r57 hf => ?_)
    refine lv_if_ne (pc := 60) (tgt := 79) hx hb d_Mx_believe_60 (by decide) (fun hc => ?_) (fun hc => ?_)
    · replace hf := hf.2 hc
      refine lv_iconst (pc := 79) (v := -1) hx hb d_Mx_believe_79 (by decide) ?_
      exact gr_i (pc := 80) hx hb hr hlk hK S hw hf d_Mx_believe_80
    replace hf := hf.1 hc
    refine lv_aload_n (pc := 63) hx hb d_Mx_believe_63 rfl (lv_at hl 1 rfl) ?_
    refine lv_dup (pc := 64) hx hb d_Mx_believe_64 rfl ?_
    refine gk_gt_Mx_believed (pc := 65) (v := (S.1 4 0)) hx hb hK hts hinMx hown hw.1 hl28 rfl d_Mx_believe_65 ?_
    refine lv_iload_n (pc := 68) hx hb d_Mx_believe_68 rfl (lv_at hl 0 rfl) ?_
    refine lv_ior (pc := 69) hx hb d_Mx_believe_69 ?_
    refine gk_pt_Mx_believed (pc := 70) hx hb hK hts hinMx hown hw hl28 d_Mx_believe_70 (fun H locs hw => ?_)
    refine lv_iconst (pc := 73) (v := 2) hx hb d_Mx_believe_73 (by decide) ?_
    refine lv_iload_n (pc := 74) hx hb d_Mx_believe_74 rfl (lv_at hl 2 rfl) ?_
    refine lv_imul (pc := 75) hx hb d_Mx_believe_75 ?_
    refine lv_iconst (pc := 76) (v := 1) hx hb d_Mx_believe_76 (by decide) ?_
    refine lv_iadd (pc := 77) hx hb d_Mx_believe_77 ?_
    exact gr_i (pc := 78) hx hb hr hlk hK (gI S 4 (fun _ => ((S.1 4 0) ||| ((1 : Int32) <<< (p0 &&& 31))))) hw hf d_Mx_believe_78
  replace hf := hf.2 hc
  refine lv_aload_n (pc := 20) hx hb d_Mx_believe_20 rfl (lv_at hl 1 rfl) ?_
  refine lv_dup (pc := 21) hx hb d_Mx_believe_21 rfl ?_
  refine gk_gt_Mx_believed (pc := 22) (v := (S.1 4 0)) hx hb hK hts hinMx hown hw.1 hl28 rfl d_Mx_believe_22 ?_
  refine lv_iload_n (pc := 25) hx hb d_Mx_believe_25 rfl (lv_at hl 0 rfl) ?_
  refine lv_iconst (pc := 26) (v := -1) hx hb d_Mx_believe_26 (by decide) ?_
  refine lv_ixor (pc := 27) hx hb d_Mx_believe_27 ?_
  refine lv_iand (pc := 28) hx hb d_Mx_believe_28 ?_
  refine gk_pt_Mx_believed (pc := 29) hx hb hK hts hinMx hown hw hl28 d_Mx_believe_29 (fun H locs hw => ?_)
  refine lv_iconst (pc := 32) (v := 2) hx hb d_Mx_believe_32 (by decide) ?_
  refine lv_iload_n (pc := 33) hx hb d_Mx_believe_33 rfl (lv_at hl 2 rfl) ?_
  refine lv_imul (pc := 34) hx hb d_Mx_believe_34 ?_
  exact gr_i (pc := 35) hx hb hr hlk hK (gI S 4 (fun _ => ((S.1 4 0) &&& (((1 : Int32) <<< (p0 &&& 31)) ^^^ (-1 : Int32))))) hw hf d_Mx_believe_35
def wp_Hi_add (S : GS) (p0 : Int32) (post : GS → Prop) : Prop := (vp_in (S.1 5 0) 32 ∧ (post (gI (gI (gI S 15 (upd (S.1 15) ((S.1 5 0)).toNatClampNeg p0)) 5 (fun _ => (((S.1 5 0) + (1 : Int32)) - ((S.1 5 0) + (1 : Int32)) / (32 : Int32) * (32 : Int32)))) 6 (fun _ => (if (32 : Int32) < ((S.1 6 0) + (1 : Int32)) then (32 : Int32) else ((S.1 6 0) + (1 : Int32)))))))
abbrev rm_Hi_add : Room := { frames := 1, cells := 0, slots := 0, locals := 21 }
set_option maxHeartbeats 4000000 in
set_option maxRecDepth 100000 in
theorem c_Hi_add (l : Launch) (D : va_G) (cI cZ cJ : ClassId) (a : Nat → Nat) (sz : Nat) (S : GS) (p0 : Int32) (post : GS → Prop) (hf : wp_Hi_add S p0 post) : Met l y_Hi_add ws_Hi_add rm_Hi_add (va_Pc [.ref (a 2), .int p0] (gPre D (tys cI cZ cJ) (gkW cI cZ cJ a S) sz)) (va_Qv post (gB D (tys cI cZ cJ) (gkW cI cZ cJ a) (va_A (gkW cI cZ cJ a S) sz)) (va_A (gkW cI cZ cJ a S) sz)) 0 0 (va_A (gkW cI cZ cJ a S) sz) := by
  refine gm_w (QF := fun A => va_Qv post (gB D (tys cI cZ cJ) (gkW cI cZ cJ a) A) A) (cc := b_Hi_add) (maxL := 2) (by decide) rfl (Nat.le_of_ble_eq_true rfl) ?_
  intro p e s m args below meth c A ls hx hb hr hts hown hmn hlk hml hK hA hw hl
  have hl : lv_has ls 2 [(0, .ref (a 2)), (1, .int p0)] := hl
  have hinHi : ∀ w ∈ u_ws R_Hi T_Hi 3, w ∈ ws_Hi_add := fun w h => List.mem_cons_of_mem _ (tl_Hi w h)
  have hl11 := hts _ (List.mem_cons_of_mem _ tf_Hi_11)
  have hl15 := hts _ (List.mem_cons_of_mem _ tf_Hi_15)
  have hl19 := hts _ (List.mem_cons_of_mem _ tf_Hi_19)
  unfold wp_Hi_add at hf
  refine lv_aload_n (pc := 0) hx hb d_Hi_add_0 rfl (lv_at hl 0 rfl) ?_
  refine gk_gt_Hi_events (pc := 1) hx hb hK hts hinHi hown hw.1 hl11 d_Hi_add_1 ?_
  refine lv_aload_n (pc := 4) hx hb d_Hi_add_4 rfl (lv_at hl 0 rfl) ?_
  refine gk_gt_Hi_next (pc := 5) (v := (S.1 5 0)) hx hb hK hts hinHi hown hw.1 hl15 rfl d_Hi_add_5 ?_
  refine lv_iload_n (pc := 8) hx hb d_Hi_add_8 rfl (lv_at hl 1 rfl) ?_
  refine gk_st11 (pc := 9) hx hb hK hw hf.1 d_Hi_add_9 (fun H locs hw => ?_)
  replace hf := hf.2
  refine lv_aload_n (pc := 10) hx hb d_Hi_add_10 rfl (lv_at hl 0 rfl) ?_
  refine lv_aload_n (pc := 11) hx hb d_Hi_add_11 rfl (lv_at hl 0 rfl) ?_
  refine gk_gt_Hi_next (pc := 12) (v := (S.1 5 0)) hx hb hK hts hinHi hown hw.1 hl15 rfl d_Hi_add_12 ?_
  refine lv_iconst (pc := 15) (v := 1) hx hb d_Hi_add_15 (by decide) ?_
  refine lv_iadd (pc := 16) hx hb d_Hi_add_16 ?_
  refine lv_bipush (pc := 17) (v := 32) hx hb d_Hi_add_17 (by decide) ?_
  refine lv_irem (pc := 19) hx hb d_Hi_add_19 (by decide) ?_
  refine gk_pt_Hi_next (pc := 20) hx hb hK hts hinHi hown hw hl15 d_Hi_add_20 (fun H locs hw => ?_)
  refine lv_aload_n (pc := 23) hx hb d_Hi_add_23 rfl (lv_at hl 0 rfl) ?_
  refine lv_aload_n (pc := 24) hx hb d_Hi_add_24 rfl (lv_at hl 0 rfl) ?_
  refine gk_gt_Hi_kept (pc := 25) (v := (S.1 6 0)) hx hb hK hts hinHi hown hw.1 hl19 rfl d_Hi_add_25 ?_
  refine lv_iconst (pc := 28) (v := 1) hx hb d_Hi_add_28 (by decide) ?_
  refine lv_iadd (pc := 29) hx hb d_Hi_add_29 ?_
  refine lv_bipush (pc := 30) (v := 32) hx hb d_Hi_add_30 (by decide) ?_
  refine va_mmin (pc := 32) hx hb (by rw [hml]; exact hl.1.symm) hown (hts _ (List.mem_cons_of_mem _ tm_Hi_22)) (hts _ (List.mem_cons_of_mem _ ts_mmin)) (hts _ (List.mem_cons_of_mem _ tz_math)) (hts _ (List.mem_cons_of_mem _ tc_mmin)) (Nat.le_of_ble_eq_true rfl) (Nat.le_of_ble_eq_true rfl) (Nat.le_of_ble_eq_true rfl) (Nat.le_of_ble_eq_true rfl) d_Hi_add_32 ?_
  refine gk_pt_Hi_kept (pc := 35) hx hb hK hts hinHi hown hw hl19 d_Hi_add_35 (fun H locs hw => ?_)
  exact gr_v (pc := 38) hx hb hr hlk hK (gI (gI (gI S 15 (upd (S.1 15) ((S.1 5 0)).toNatClampNeg p0)) 5 (fun _ => (((S.1 5 0) + (1 : Int32)) - ((S.1 5 0) + (1 : Int32)) / (32 : Int32) * (32 : Int32)))) 6 (fun _ => (if (32 : Int32) < ((S.1 6 0) + (1 : Int32)) then (32 : Int32) else ((S.1 6 0) + (1 : Int32))))) hw hf d_Hi_add_38
def wp_Eq_add (S : GS) (p0 : Int32) (p1 : Int32) (post : GS → Prop) : Prop := (((32 : Int32) ≤ (S.1 7 0) → (post S)) ∧ (¬ (32 : Int32) ≤ (S.1 7 0) → (vp_in (S.1 7 0) 32 ∧ (vp_in (S.1 7 0) 32 ∧ (post (gI (gI (gI S 16 (upd (S.1 16) ((S.1 7 0)).toNatClampNeg p0)) 17 (upd (S.1 17) ((S.1 7 0)).toNatClampNeg p1)) 7 (fun _ => ((S.1 7 0) + (1 : Int32)))))))))
abbrev rm_Eq_add : Room := { frames := 0, cells := 0, slots := 0, locals := 0 }
set_option maxHeartbeats 4000000 in
set_option maxRecDepth 100000 in
theorem c_Eq_add (l : Launch) (D : va_G) (cI cZ cJ : ClassId) (a : Nat → Nat) (sz : Nat) (S : GS) (p0 : Int32) (p1 : Int32) (post : GS → Prop) (hf : wp_Eq_add S p0 p1 post) : Met l y_Eq_add ws_Eq_add rm_Eq_add (va_Pc [.ref (a 3), .int p0, .int p1] (gPre D (tys cI cZ cJ) (gkW cI cZ cJ a S) sz)) (va_Qv post (gB D (tys cI cZ cJ) (gkW cI cZ cJ a) (va_A (gkW cI cZ cJ a S) sz)) (va_A (gkW cI cZ cJ a S) sz)) 0 0 (va_A (gkW cI cZ cJ a S) sz) := by
  refine gm_w (QF := fun A => va_Qv post (gB D (tys cI cZ cJ) (gkW cI cZ cJ a) A) A) (cc := b_Eq_add) (maxL := 3) (by decide) rfl (Nat.le_of_ble_eq_true rfl) ?_
  intro p e s m args below meth c A ls hx hb hr hts hown hmn hlk hml hK hA hw hl
  have hl : lv_has ls 3 [(0, .ref (a 3)), (1, .int p0), (2, .int p1)] := hl
  have hinEq : ∀ w ∈ u_ws R_Eq T_Eq 3, w ∈ ws_Eq_add := fun w h => List.mem_cons_of_mem _ (tl_Eq w h)
  have hl11 := hts _ (List.mem_cons_of_mem _ tf_Eq_11)
  have hl15 := hts _ (List.mem_cons_of_mem _ tf_Eq_15)
  have hl18 := hts _ (List.mem_cons_of_mem _ tf_Eq_18)
  unfold wp_Eq_add at hf
  refine lv_aload_n (pc := 0) hx hb d_Eq_add_0 rfl (lv_at hl 0 rfl) ?_
  refine gk_gt_Eq_length (pc := 1) (v := (S.1 7 0)) hx hb hK hts hinEq hown hw.1 hl18 rfl d_Eq_add_1 ?_
  refine lv_bipush (pc := 4) (v := 32) hx hb d_Eq_add_4 (by decide) ?_
  refine lv_icmp_ge (pc := 6) (tgt := 39) hx hb d_Eq_add_6 (by decide) (fun hc => ?_) (fun hc => ?_)
  · replace hf := hf.1 hc
    exact gr_v (pc := 39) hx hb hr hlk hK S hw hf d_Eq_add_39
  replace hf := hf.2 hc
  refine lv_aload_n (pc := 9) hx hb d_Eq_add_9 rfl (lv_at hl 0 rfl) ?_
  refine gk_gt_Eq_events (pc := 10) hx hb hK hts hinEq hown hw.1 hl11 d_Eq_add_10 ?_
  refine lv_aload_n (pc := 13) hx hb d_Eq_add_13 rfl (lv_at hl 0 rfl) ?_
  refine gk_gt_Eq_length (pc := 14) (v := (S.1 7 0)) hx hb hK hts hinEq hown hw.1 hl18 rfl d_Eq_add_14 ?_
  refine lv_iload_n (pc := 17) hx hb d_Eq_add_17 rfl (lv_at hl 1 rfl) ?_
  refine gk_st12 (pc := 18) hx hb hK hw hf.1 d_Eq_add_18 (fun H locs hw => ?_)
  replace hf := hf.2
  refine lv_aload_n (pc := 19) hx hb d_Eq_add_19 rfl (lv_at hl 0 rfl) ?_
  refine gk_gt_Eq_scanOf (pc := 20) hx hb hK hts hinEq hown hw.1 hl15 d_Eq_add_20 ?_
  refine lv_aload_n (pc := 23) hx hb d_Eq_add_23 rfl (lv_at hl 0 rfl) ?_
  refine gk_gt_Eq_length (pc := 24) (v := (S.1 7 0)) hx hb hK hts hinEq hown hw.1 hl18 rfl d_Eq_add_24 ?_
  refine lv_iload_n (pc := 27) hx hb d_Eq_add_27 rfl (lv_at hl 2 rfl) ?_
  refine gk_st13 (pc := 28) hx hb hK hw hf.1 d_Eq_add_28 (fun H locs hw => ?_)
  replace hf := hf.2
  have hw : wf D A s.heap (gkW cI cZ cJ a (gI (gI S 16 (upd (S.1 16) ((S.1 7 0)).toNatClampNeg p0)) 17 (upd (S.1 17) ((S.1 7 0)).toNatClampNeg p1))) H locs := hw
  refine lv_aload_n (pc := 29) hx hb d_Eq_add_29 rfl (lv_at hl 0 rfl) ?_
  refine lv_dup (pc := 30) hx hb d_Eq_add_30 rfl ?_
  refine gk_gt_Eq_length (pc := 31) (v := (S.1 7 0)) hx hb hK hts hinEq hown hw.1 hl18 rfl d_Eq_add_31 ?_
  refine lv_iconst (pc := 34) (v := 1) hx hb d_Eq_add_34 (by decide) ?_
  refine lv_iadd (pc := 35) hx hb d_Eq_add_35 ?_
  refine gk_pt_Eq_length (pc := 36) hx hb hK hts hinEq hown hw hl18 d_Eq_add_36 (fun H locs hw => ?_)
  exact gr_v (pc := 39) hx hb hr hlk hK (gI (gI (gI S 16 (upd (S.1 16) ((S.1 7 0)).toNatClampNeg p0)) 17 (upd (S.1 17) ((S.1 7 0)).toNatClampNeg p1)) 7 (fun _ => ((S.1 7 0) + (1 : Int32)))) hw hf d_Eq_add_39
def wp_Eq_length (S : GS) (post : Int32 → Prop) : Prop := (post (S.1 7 0))
abbrev rm_Eq_length : Room := { frames := 0, cells := 0, slots := 0, locals := 0 }
set_option maxHeartbeats 4000000 in
set_option maxRecDepth 100000 in
theorem c_Eq_length (l : Launch) (D : va_G) (cI cZ cJ : ClassId) (a : Nat → Nat) (S : GS) (post : Int32 → Prop) (hf : wp_Eq_length S post) : Met l y_Eq_length ws_Eq_length rm_Eq_length (va_Pc [.ref (a 3)] (rPre D (tys cI cZ cJ) (gkW cI cZ cJ a S))) (vp_Si post) 0 0 (fun _ => False) := by
  refine gm_r (cc := b_Eq_length) (maxL := 1) (by decide) rfl (Nat.le_of_ble_eq_true rfl) ?_
  intro p e s m args below meth c ls hx hb hr hts hown hlk hml hK hP hl
  have hl : lv_has ls 1 [(0, .ref (a 3))] := hl
  have hinEq : ∀ w ∈ u_ws R_Eq T_Eq 3, w ∈ ws_Eq_length := fun w h => List.mem_cons_of_mem _ (tl_Eq w h)
  have hl18 := hts _ (List.mem_cons_of_mem _ tf_Eq_18)
  unfold wp_Eq_length at hf
  refine lv_aload_n (pc := 0) hx hb d_Eq_length_0 rfl (lv_at hl 0 rfl) ?_
  refine gk_gt_Eq_length (pc := 1) (v := (S.1 7 0)) hx hb hK hts hinEq hown hP hl18 rfl d_Eq_length_1 ?_
  exact rr_i (pc := 4) hx hb hr hlk hf d_Eq_length_4
def wp_Eq_isPress (S : GS) (p0 : Int32) (post : Int32 → Prop) : Prop := (vp_in p0 32 ∧ (((((S.1 16) p0.toNatClampNeg) &&& (1 : Int32)) = (0 : Int32) → (post (0 : Int32))) ∧ (¬ (((S.1 16) p0.toNatClampNeg) &&& (1 : Int32)) = (0 : Int32) → (post (1 : Int32)))))
abbrev rm_Eq_isPress : Room := { frames := 0, cells := 0, slots := 0, locals := 0 }
set_option maxHeartbeats 4000000 in
set_option maxRecDepth 100000 in
theorem c_Eq_isPress (l : Launch) (D : va_G) (cI cZ cJ : ClassId) (a : Nat → Nat) (S : GS) (p0 : Int32) (post : Int32 → Prop) (hf : wp_Eq_isPress S p0 post) : Met l y_Eq_isPress ws_Eq_isPress rm_Eq_isPress (va_Pc [.ref (a 3), .int p0] (rPre D (tys cI cZ cJ) (gkW cI cZ cJ a S))) (vp_Si post) 0 0 (fun _ => False) := by
  refine gm_r (cc := b_Eq_isPress) (maxL := 2) (by decide) rfl (Nat.le_of_ble_eq_true rfl) ?_
  intro p e s m args below meth c ls hx hb hr hts hown hlk hml hK hP hl
  have hl : lv_has ls 2 [(0, .ref (a 3)), (1, .int p0)] := hl
  have hinEq : ∀ w ∈ u_ws R_Eq T_Eq 3, w ∈ ws_Eq_isPress := fun w h => List.mem_cons_of_mem _ (tl_Eq w h)
  have hl11 := hts _ (List.mem_cons_of_mem _ tf_Eq_11)
  unfold wp_Eq_isPress at hf
  refine lv_aload_n (pc := 0) hx hb d_Eq_isPress_0 rfl (lv_at hl 0 rfl) ?_
  refine gk_gt_Eq_events (pc := 1) hx hb hK hts hinEq hown hP hl11 d_Eq_isPress_1 ?_
  refine lv_iload_n (pc := 4) hx hb d_Eq_isPress_4 rfl (lv_at hl 1 rfl) ?_
  refine gk_ld12 (pc := 5) (v := ((S.1 16) p0.toNatClampNeg)) hx hb hK hP hf.1 rfl d_Eq_isPress_5 ?_
  replace hf := hf.2
  refine lv_iconst (pc := 6) (v := 1) hx hb d_Eq_isPress_6 (by decide) ?_
  refine lv_iand (pc := 7) hx hb d_Eq_isPress_7 ?_
  refine lv_if_eq (pc := 8) (tgt := 15) hx hb d_Eq_isPress_8 (by decide) (fun hc => ?_) (fun hc => ?_)
  · replace hf := hf.1 hc
    refine lv_iconst (pc := 15) (v := 0) hx hb d_Eq_isPress_15 (by decide) ?_
    exact rr_z (pc := 16) hx hb hr hlk (by decide) hf d_Eq_isPress_16
  replace hf := hf.2 hc
  refine lv_iconst (pc := 11) (v := 1) hx hb d_Eq_isPress_11 (by decide) ?_
  refine lv_goto (pc := 12) (tgt := 16) hx hb d_Eq_isPress_12 (by decide) ?_
  exact rr_z (pc := 16) hx hb hr hlk (by decide) hf d_Eq_isPress_16
def wp_Eq_keyAt (S : GS) (p0 : Int32) (post : Int32 → Prop) : Prop := (vp_in p0 32 ∧ (post (((S.1 16) p0.toNatClampNeg) >>> ((1 : Int32) &&& 31))))
abbrev rm_Eq_keyAt : Room := { frames := 0, cells := 0, slots := 0, locals := 0 }
set_option maxHeartbeats 4000000 in
set_option maxRecDepth 100000 in
theorem c_Eq_keyAt (l : Launch) (D : va_G) (cI cZ cJ : ClassId) (a : Nat → Nat) (S : GS) (p0 : Int32) (post : Int32 → Prop) (hf : wp_Eq_keyAt S p0 post) : Met l y_Eq_keyAt ws_Eq_keyAt rm_Eq_keyAt (va_Pc [.ref (a 3), .int p0] (rPre D (tys cI cZ cJ) (gkW cI cZ cJ a S))) (vp_Si post) 0 0 (fun _ => False) := by
  refine gm_r (cc := b_Eq_keyAt) (maxL := 2) (by decide) rfl (Nat.le_of_ble_eq_true rfl) ?_
  intro p e s m args below meth c ls hx hb hr hts hown hlk hml hK hP hl
  have hl : lv_has ls 2 [(0, .ref (a 3)), (1, .int p0)] := hl
  have hinEq : ∀ w ∈ u_ws R_Eq T_Eq 3, w ∈ ws_Eq_keyAt := fun w h => List.mem_cons_of_mem _ (tl_Eq w h)
  have hl11 := hts _ (List.mem_cons_of_mem _ tf_Eq_11)
  unfold wp_Eq_keyAt at hf
  refine lv_aload_n (pc := 0) hx hb d_Eq_keyAt_0 rfl (lv_at hl 0 rfl) ?_
  refine gk_gt_Eq_events (pc := 1) hx hb hK hts hinEq hown hP hl11 d_Eq_keyAt_1 ?_
  refine lv_iload_n (pc := 4) hx hb d_Eq_keyAt_4 rfl (lv_at hl 1 rfl) ?_
  refine gk_ld12 (pc := 5) (v := ((S.1 16) p0.toNatClampNeg)) hx hb hK hP hf.1 rfl d_Eq_keyAt_5 ?_
  replace hf := hf.2
  refine lv_iconst (pc := 6) (v := 1) hx hb d_Eq_keyAt_6 (by decide) ?_
  refine lv_ishr (pc := 7) hx hb d_Eq_keyAt_7 ?_
  exact rr_i (pc := 8) hx hb hr hlk hf d_Eq_keyAt_8
def L_Eq_removeFirst_2 (post : GS → Prop) : Nat → Int32 → Int32 → GS → Prop
  | 0, _, _, _ => False
  | n + 1, x1, x2, S => (((S.1 7 0) ≤ x2 → (post (gI S 7 (fun _ => (if ((S.1 7 0) - x1) < (0 : Int32) then (0 : Int32) else ((S.1 7 0) - x1)))))) ∧ (¬ (S.1 7 0) ≤ x2 → (vp_in x2 32 ∧ (vp_in (x2 - x1) 32 ∧ (vp_in x2 32 ∧ (vp_in (x2 - x1) 32 ∧ (L_Eq_removeFirst_2 post n x1 (x2 + (1 : Int32)) (gI (gI S 16 (upd (S.1 16) ((x2 - x1)).toNatClampNeg ((S.1 16) x2.toNatClampNeg))) 17 (upd (S.1 17) ((x2 - x1)).toNatClampNeg ((S.1 17) x2.toNatClampNeg))))))))))
def wp_Eq_removeFirst (S : GS) (p0 : Int32) (post : GS → Prop) : Prop := (∃ n, L_Eq_removeFirst_2 post n p0 p0 S)
abbrev rm_Eq_removeFirst : Room := { frames := 1, cells := 0, slots := 0, locals := 21 }
set_option maxHeartbeats 4000000 in
set_option maxRecDepth 100000 in
theorem c_Eq_removeFirst (l : Launch) (D : va_G) (cI cZ cJ : ClassId) (a : Nat → Nat) (sz : Nat) (S : GS) (p0 : Int32) (post : GS → Prop) (hf : wp_Eq_removeFirst S p0 post) : Met l y_Eq_removeFirst ws_Eq_removeFirst rm_Eq_removeFirst (va_Pc [.ref (a 3), .int p0] (gPre D (tys cI cZ cJ) (gkW cI cZ cJ a S) sz)) (va_Qv post (gB D (tys cI cZ cJ) (gkW cI cZ cJ a) (va_A (gkW cI cZ cJ a S) sz)) (va_A (gkW cI cZ cJ a S) sz)) 0 0 (va_A (gkW cI cZ cJ a S) sz) := by
  refine gm_w (QF := fun A => va_Qv post (gB D (tys cI cZ cJ) (gkW cI cZ cJ a) A) A) (cc := b_Eq_removeFirst) (maxL := 3) (by decide) rfl (Nat.le_of_ble_eq_true rfl) ?_
  intro p e s m args below meth c A ls hx hb hr hts hown hmn hlk hml hK hA hw hl
  have hl : lv_has ls 3 [(0, .ref (a 3)), (1, .int p0)] := hl
  have hinEq : ∀ w ∈ u_ws R_Eq T_Eq 3, w ∈ ws_Eq_removeFirst := fun w h => List.mem_cons_of_mem _ (tl_Eq w h)
  have hl11 := hts _ (List.mem_cons_of_mem _ tf_Eq_11)
  have hl15 := hts _ (List.mem_cons_of_mem _ tf_Eq_15)
  have hl18 := hts _ (List.mem_cons_of_mem _ tf_Eq_18)
  unfold wp_Eq_removeFirst at hf
  refine lv_iload_n (pc := 0) hx hb d_Eq_removeFirst_0 rfl (lv_at hl 1 rfl) ?_
  refine lv_istore_n (pc := 1) (lv' := [(2, .int p0), (0, .ref (a 3)), (1, .int p0)]) hx hb d_Eq_removeFirst_1 rfl hl (by decide) rfl (fun ls hl => ?_)
  obtain ⟨n, hf⟩ := hf
  have lp2 : ∀ (n : Nat) (x1 : Int32) (x2 : Int32) (S : GS) (H : Heap) (locs : List Loc) (ls : Array Slot), lv_has ls 3 [(0, .ref (a 3)), (1, .int x1), (2, .int x2)] → wf D A s.heap (gkW cI cZ cJ a S) H locs → L_Eq_removeFirst_2 post n x1 x2 S → W p l e rm_Eq_removeFirst s m args below meth c H locs 0 0 (MQ below (va_Qv post (gB D (tys cI cZ cJ) (gkW cI cZ cJ a) A) A) args s 0 0 A) (F0 m 2 ls []) := by
    intro n
    induction n with
    | zero => intro x1 x2 S H locs ls hl hw hf; exact False.elim hf
    | succ n ih2 =>
      intro x1 x2 S H locs ls hl hw hf
      unfold L_Eq_removeFirst_2 at hf
      refine lv_iload_n (pc := 2) hx hb d_Eq_removeFirst_2 rfl (lv_at hl 2 rfl) ?_
      refine lv_aload_n (pc := 3) hx hb d_Eq_removeFirst_3 rfl (lv_at hl 0 rfl) ?_
      refine gk_gt_Eq_length (pc := 4) (v := (S.1 7 0)) hx hb hK hts hinEq hown hw.1 hl18 rfl d_Eq_removeFirst_4 ?_
      refine lv_icmp_ge (pc := 7) (tgt := 44) hx hb d_Eq_removeFirst_7 (by decide) (fun hc => ?_) (fun hc => ?_)
      · replace hf := hf.1 hc
        refine lv_aload_n (pc := 44) hx hb d_Eq_removeFirst_44 rfl (lv_at hl 0 rfl) ?_
        refine lv_aload_n (pc := 45) hx hb d_Eq_removeFirst_45 rfl (lv_at hl 0 rfl) ?_
        refine gk_gt_Eq_length (pc := 46) (v := (S.1 7 0)) hx hb hK hts hinEq hown hw.1 hl18 rfl d_Eq_removeFirst_46 ?_
        refine lv_iload_n (pc := 49) hx hb d_Eq_removeFirst_49 rfl (lv_at hl 1 rfl) ?_
        refine lv_isub (pc := 50) hx hb d_Eq_removeFirst_50 ?_
        refine lv_iconst (pc := 51) (v := 0) hx hb d_Eq_removeFirst_51 (by decide) ?_
        refine va_mmax (pc := 52) hx hb (by rw [hml]; exact hl.1.symm) hown (hts _ (List.mem_cons_of_mem _ tm_Eq_22)) (hts _ (List.mem_cons_of_mem _ ts_mmax)) (hts _ (List.mem_cons_of_mem _ tz_math)) (hts _ (List.mem_cons_of_mem _ tc_mmax)) (Nat.le_of_ble_eq_true rfl) (Nat.le_of_ble_eq_true rfl) (Nat.le_of_ble_eq_true rfl) (Nat.le_of_ble_eq_true rfl) d_Eq_removeFirst_52 ?_
        refine gk_pt_Eq_length (pc := 55) hx hb hK hts hinEq hown hw hl18 d_Eq_removeFirst_55 (fun H locs hw => ?_)
        exact gr_v (pc := 58) hx hb hr hlk hK (gI S 7 (fun _ => (if ((S.1 7 0) - x1) < (0 : Int32) then (0 : Int32) else ((S.1 7 0) - x1)))) hw hf d_Eq_removeFirst_58
      replace hf := hf.2 hc
      refine lv_aload_n (pc := 10) hx hb d_Eq_removeFirst_10 rfl (lv_at hl 0 rfl) ?_
      refine gk_gt_Eq_events (pc := 11) hx hb hK hts hinEq hown hw.1 hl11 d_Eq_removeFirst_11 ?_
      refine lv_iload_n (pc := 14) hx hb d_Eq_removeFirst_14 rfl (lv_at hl 2 rfl) ?_
      refine lv_iload_n (pc := 15) hx hb d_Eq_removeFirst_15 rfl (lv_at hl 1 rfl) ?_
      refine lv_isub (pc := 16) hx hb d_Eq_removeFirst_16 ?_
      refine lv_aload_n (pc := 17) hx hb d_Eq_removeFirst_17 rfl (lv_at hl 0 rfl) ?_
      refine gk_gt_Eq_events (pc := 18) hx hb hK hts hinEq hown hw.1 hl11 d_Eq_removeFirst_18 ?_
      refine lv_iload_n (pc := 21) hx hb d_Eq_removeFirst_21 rfl (lv_at hl 2 rfl) ?_
      refine gk_ld12 (pc := 22) (v := ((S.1 16) x2.toNatClampNeg)) hx hb hK hw.1 hf.1 rfl d_Eq_removeFirst_22 ?_
      replace hf := hf.2
      refine gk_st12 (pc := 23) hx hb hK hw hf.1 d_Eq_removeFirst_23 (fun H locs hw => ?_)
      replace hf := hf.2
      refine lv_aload_n (pc := 24) hx hb d_Eq_removeFirst_24 rfl (lv_at hl 0 rfl) ?_
      refine gk_gt_Eq_scanOf (pc := 25) hx hb hK hts hinEq hown hw.1 hl15 d_Eq_removeFirst_25 ?_
      refine lv_iload_n (pc := 28) hx hb d_Eq_removeFirst_28 rfl (lv_at hl 2 rfl) ?_
      refine lv_iload_n (pc := 29) hx hb d_Eq_removeFirst_29 rfl (lv_at hl 1 rfl) ?_
      refine lv_isub (pc := 30) hx hb d_Eq_removeFirst_30 ?_
      refine lv_aload_n (pc := 31) hx hb d_Eq_removeFirst_31 rfl (lv_at hl 0 rfl) ?_
      refine gk_gt_Eq_scanOf (pc := 32) hx hb hK hts hinEq hown hw.1 hl15 d_Eq_removeFirst_32 ?_
      refine lv_iload_n (pc := 35) hx hb d_Eq_removeFirst_35 rfl (lv_at hl 2 rfl) ?_
      refine gk_ld13 (pc := 36) (v := ((S.1 17) x2.toNatClampNeg)) hx hb hK hw.1 hf.1 rfl d_Eq_removeFirst_36 ?_
      replace hf := hf.2
      refine gk_st13 (pc := 37) hx hb hK hw hf.1 d_Eq_removeFirst_37 (fun H locs hw => ?_)
      replace hf := hf.2
      have hw : wf D A s.heap (gkW cI cZ cJ a (gI (gI S 16 (upd (S.1 16) ((x2 - x1)).toNatClampNeg ((S.1 16) x2.toNatClampNeg))) 17 (upd (S.1 17) ((x2 - x1)).toNatClampNeg ((S.1 17) x2.toNatClampNeg)))) H locs := hw
      refine lv_iinc (pc := 38) (k := 2) (v := (x2 + (1 : Int32))) (lv' := [(2, .int (x2 + (1 : Int32))), (0, .ref (a 3)), (1, .int x1)]) hx hb d_Eq_removeFirst_38 hl rfl rfl (by decide) rfl (fun ls hl => ?_)
      refine lv_goto (pc := 41) (tgt := 2) hx hb d_Eq_removeFirst_41 (by decide) ?_
      exact ih2 x1 (x2 + (1 : Int32)) (gI (gI S 16 (upd (S.1 16) ((x2 - x1)).toNatClampNeg ((S.1 16) x2.toNatClampNeg))) 17 (upd (S.1 17) ((x2 - x1)).toNatClampNeg ((S.1 17) x2.toNatClampNeg))) _ _ _ (lv_sub hl [1, 2, 0] rfl) hw hf
  exact lp2 n p0 p0 S _ _ _ (lv_sub hl [1, 2, 0] rfl) hw hf
def L_La_letGo_2 (post : GS → Prop) : Nat → Int32 → Int32 → GS → Prop
  | 0, _, _, _ => False
  | n + 1, x1, x2, S => (((4 : Int32) ≤ x2 → (post S)) ∧ (¬ (4 : Int32) ≤ x2 → (vp_in x2 4 ∧ (vp_in x2 4 ∧ (L_La_letGo_2 post n x1 (x2 + (1 : Int32)) (gI S 24 (upd (S.1 24) (x2).toNatClampNeg (((S.1 24) x2.toNatClampNeg) &&& (((1 : Int32) <<< (x1 &&& 31)) ^^^ (-1 : Int32))))))))))
def wp_La_letGo (S : GS) (p0 : Int32) (post : GS → Prop) : Prop := (∃ n, L_La_letGo_2 post n p0 (0 : Int32) S)
abbrev rm_La_letGo : Room := { frames := 0, cells := 0, slots := 0, locals := 0 }
set_option maxHeartbeats 4000000 in
set_option maxRecDepth 100000 in
theorem c_La_letGo (l : Launch) (D : va_G) (cI cZ cJ : ClassId) (a : Nat → Nat) (sz : Nat) (S : GS) (p0 : Int32) (post : GS → Prop) (hf : wp_La_letGo S p0 post) : Met l y_La_letGo ws_La_letGo rm_La_letGo (va_Pc [.ref (a 6), .int p0] (gPre D (tys cI cZ cJ) (gkW cI cZ cJ a S) sz)) (va_Qv post (gB D (tys cI cZ cJ) (gkW cI cZ cJ a) (va_A (gkW cI cZ cJ a S) sz)) (va_A (gkW cI cZ cJ a S) sz)) 0 0 (va_A (gkW cI cZ cJ a S) sz) := by
  refine gm_w (QF := fun A => va_Qv post (gB D (tys cI cZ cJ) (gkW cI cZ cJ a) A) A) (cc := b_La_letGo) (maxL := 3) (by decide) rfl (Nat.le_of_ble_eq_true rfl) ?_
  intro p e s m args below meth c A ls hx hb hr hts hown hmn hlk hml hK hA hw hl
  have hl : lv_has ls 3 [(0, .ref (a 6)), (1, .int p0)] := hl
  have hinLa : ∀ w ∈ u_ws R_La T_La 3, w ∈ ws_La_letGo := fun w h => List.mem_cons_of_mem _ (tl_La w h)
  have hl9 := hts _ (List.mem_cons_of_mem _ tf_La_9)
  unfold wp_La_letGo at hf
  refine lv_iconst (pc := 0) (v := 0) hx hb d_La_letGo_0 (by decide) ?_
  refine lv_istore_n (pc := 1) (lv' := [(2, .int (0 : Int32)), (0, .ref (a 6)), (1, .int p0)]) hx hb d_La_letGo_1 rfl hl (by decide) rfl (fun ls hl => ?_)
  obtain ⟨n, hf⟩ := hf
  have lp2 : ∀ (n : Nat) (x1 : Int32) (x2 : Int32) (S : GS) (H : Heap) (locs : List Loc) (ls : Array Slot), lv_has ls 3 [(0, .ref (a 6)), (1, .int x1), (2, .int x2)] → wf D A s.heap (gkW cI cZ cJ a S) H locs → L_La_letGo_2 post n x1 x2 S → W p l e rm_La_letGo s m args below meth c H locs 0 0 (MQ below (va_Qv post (gB D (tys cI cZ cJ) (gkW cI cZ cJ a) A) A) args s 0 0 A) (F0 m 2 ls []) := by
    intro n
    induction n with
    | zero => intro x1 x2 S H locs ls hl hw hf; exact False.elim hf
    | succ n ih2 =>
      intro x1 x2 S H locs ls hl hw hf
      unfold L_La_letGo_2 at hf
      refine lv_iload_n (pc := 2) hx hb d_La_letGo_2 rfl (lv_at hl 2 rfl) ?_
      refine lv_iconst (pc := 3) (v := 4) hx hb d_La_letGo_3 (by decide) ?_
      refine lv_icmp_ge (pc := 4) (tgt := 27) hx hb d_La_letGo_4 (by decide) (fun hc => ?_) (fun hc => ?_)
      · replace hf := hf.1 hc
        exact gr_v (pc := 27) hx hb hr hlk hK S hw hf d_La_letGo_27
      replace hf := hf.2 hc
      refine lv_aload_n (pc := 7) hx hb d_La_letGo_7 rfl (lv_at hl 0 rfl) ?_
      refine gk_gt_La_holders (pc := 8) hx hb hK hts hinLa hown hw.1 hl9 d_La_letGo_8 ?_
      refine lv_iload_n (pc := 11) hx hb d_La_letGo_11 rfl (lv_at hl 2 rfl) ?_
      refine lv_dup2_11 (pc := 12) hx hb d_La_letGo_12 rfl rfl ?_
      refine gk_ld20 (pc := 13) (v := ((S.1 24) x2.toNatClampNeg)) hx hb hK hw.1 hf.1 rfl d_La_letGo_13 ?_
      replace hf := hf.2
      refine lv_iconst (pc := 14) (v := 1) hx hb d_La_letGo_14 (by decide) ?_
      refine lv_iload_n (pc := 15) hx hb d_La_letGo_15 rfl (lv_at hl 1 rfl) ?_
      refine lv_ishl (pc := 16) hx hb d_La_letGo_16 ?_
      refine lv_iconst (pc := 17) (v := -1) hx hb d_La_letGo_17 (by decide) ?_
      refine lv_ixor (pc := 18) hx hb d_La_letGo_18 ?_
      refine lv_iand (pc := 19) hx hb d_La_letGo_19 ?_
      refine gk_st20 (pc := 20) hx hb hK hw hf.1 d_La_letGo_20 (fun H locs hw => ?_)
      replace hf := hf.2
      refine lv_iinc (pc := 21) (k := 2) (v := (x2 + (1 : Int32))) (lv' := [(2, .int (x2 + (1 : Int32))), (0, .ref (a 6)), (1, .int x1)]) hx hb d_La_letGo_21 hl rfl rfl (by decide) rfl (fun ls hl => ?_)
      refine lv_goto (pc := 24) (tgt := 2) hx hb d_La_letGo_24 (by decide) ?_
      exact ih2 x1 (x2 + (1 : Int32)) (gI S 24 (upd (S.1 24) (x2).toNatClampNeg (((S.1 24) x2.toNatClampNeg) &&& (((1 : Int32) <<< (x1 &&& 31)) ^^^ (-1 : Int32))))) _ _ _ (lv_sub hl [1, 2, 0] rfl) hw hf
  exact lp2 n p0 (0 : Int32) S _ _ _ (lv_sub hl [1, 2, 0] rfl) hw hf
def L_Ho_begin_2 (post : GS → Prop) : Nat → Int32 → Int32 → Int32 → GS → Prop
  | 0, _, _, _, _ => False
  | n + 1, x1, x2, x3, S => (((24 : Int32) ≤ x3 → (post S)) ∧ (¬ (24 : Int32) ≤ x3 → ((((x1 >>> (x3 &&& 31)) &&& (1 : Int32)) = (0 : Int32) → (L_Ho_begin_2 post n x1 x2 (x3 + (1 : Int32)) S)) ∧ (¬ ((x1 >>> (x3 &&& 31)) &&& (1 : Int32)) = (0 : Int32) → (vp_in x3 24 ∧ (vp_in x3 24 ∧ (L_Ho_begin_2 post n x1 x2 (x3 + (1 : Int32)) (gI (gI S 25 (upd (S.1 25) (x3).toNatClampNeg x2)) 26 (upd (S.1 26) (x3).toNatClampNeg x1)))))))))
def wp_Ho_begin (S : GS) (p0 : Int32) (p1 : Int32) (post : GS → Prop) : Prop := (∃ n, L_Ho_begin_2 post n p0 p1 (0 : Int32) S)
abbrev rm_Ho_begin : Room := { frames := 0, cells := 0, slots := 0, locals := 0 }
set_option maxHeartbeats 4000000 in
set_option maxRecDepth 100000 in
theorem c_Ho_begin (l : Launch) (D : va_G) (cI cZ cJ : ClassId) (a : Nat → Nat) (sz : Nat) (S : GS) (p0 : Int32) (p1 : Int32) (post : GS → Prop) (hf : wp_Ho_begin S p0 p1 post) : Met l y_Ho_begin ws_Ho_begin rm_Ho_begin (va_Pc [.ref (a 7), .int p0, .int p1] (gPre D (tys cI cZ cJ) (gkW cI cZ cJ a S) sz)) (va_Qv post (gB D (tys cI cZ cJ) (gkW cI cZ cJ a) (va_A (gkW cI cZ cJ a S) sz)) (va_A (gkW cI cZ cJ a S) sz)) 0 0 (va_A (gkW cI cZ cJ a S) sz) := by
  refine gm_w (QF := fun A => va_Qv post (gB D (tys cI cZ cJ) (gkW cI cZ cJ a) A) A) (cc := b_Ho_begin) (maxL := 4) (by decide) rfl (Nat.le_of_ble_eq_true rfl) ?_
  intro p e s m args below meth c A ls hx hb hr hts hown hmn hlk hml hK hA hw hl
  have hl : lv_has ls 4 [(0, .ref (a 7)), (1, .int p0), (2, .int p1)] := hl
  have hinHo : ∀ w ∈ u_ws R_Ho T_Ho 2, w ∈ ws_Ho_begin := fun w h => List.mem_cons_of_mem _ (tl_Ho w h)
  have hl9 := hts _ (List.mem_cons_of_mem _ tf_Ho_9)
  have hl15 := hts _ (List.mem_cons_of_mem _ tf_Ho_15)
  unfold wp_Ho_begin at hf
  refine lv_iconst (pc := 0) (v := 0) hx hb d_Ho_begin_0 (by decide) ?_
  refine lv_istore_n (pc := 1) (lv' := [(3, .int (0 : Int32)), (0, .ref (a 7)), (1, .int p0), (2, .int p1)]) hx hb d_Ho_begin_1 rfl hl (by decide) rfl (fun ls hl => ?_)
  obtain ⟨n, hf⟩ := hf
  have lp2 : ∀ (n : Nat) (x1 : Int32) (x2 : Int32) (x3 : Int32) (S : GS) (H : Heap) (locs : List Loc) (ls : Array Slot), lv_has ls 4 [(0, .ref (a 7)), (1, .int x1), (2, .int x2), (3, .int x3)] → wf D A s.heap (gkW cI cZ cJ a S) H locs → L_Ho_begin_2 post n x1 x2 x3 S → W p l e rm_Ho_begin s m args below meth c H locs 0 0 (MQ below (va_Qv post (gB D (tys cI cZ cJ) (gkW cI cZ cJ a) A) A) args s 0 0 A) (F0 m 2 ls []) := by
    intro n
    induction n with
    | zero => intro x1 x2 x3 S H locs ls hl hw hf; exact False.elim hf
    | succ n ih2 =>
      intro x1 x2 x3 S H locs ls hl hw hf
      unfold L_Ho_begin_2 at hf
      refine lv_iload_n (pc := 2) hx hb d_Ho_begin_2 rfl (lv_at hl 3 rfl) ?_
      refine lv_bipush (pc := 3) (v := 24) hx hb d_Ho_begin_3 (by decide) ?_
      refine lv_icmp_ge (pc := 5) (tgt := 36) hx hb d_Ho_begin_5 (by decide) (fun hc => ?_) (fun hc => ?_)
      · replace hf := hf.1 hc
        exact gr_v (pc := 36) hx hb hr hlk hK S hw hf d_Ho_begin_36
      replace hf := hf.2 hc
      refine lv_iload_n (pc := 8) hx hb d_Ho_begin_8 rfl (lv_at hl 1 rfl) ?_
      refine lv_iload_n (pc := 9) hx hb d_Ho_begin_9 rfl (lv_at hl 3 rfl) ?_
      refine lv_ishr (pc := 10) hx hb d_Ho_begin_10 ?_
      refine lv_iconst (pc := 11) (v := 1) hx hb d_Ho_begin_11 (by decide) ?_
      refine lv_iand (pc := 12) hx hb d_Ho_begin_12 ?_
      refine lv_if_eq (pc := 13) (tgt := 30) hx hb d_Ho_begin_13 (by decide) (fun hc => ?_) (fun hc => ?_)
      · replace hf := hf.1 hc
        refine lv_iinc (pc := 30) (k := 3) (v := (x3 + (1 : Int32))) (lv' := [(3, .int (x3 + (1 : Int32))), (0, .ref (a 7)), (1, .int x1), (2, .int x2)]) hx hb d_Ho_begin_30 hl rfl rfl (by decide) rfl (fun ls hl => ?_)
        refine lv_goto (pc := 33) (tgt := 2) hx hb d_Ho_begin_33 (by decide) ?_
        exact ih2 x1 x2 (x3 + (1 : Int32)) S _ _ _ (lv_sub hl [1, 2, 3, 0] rfl) hw hf
      replace hf := hf.2 hc
      refine lv_aload_n (pc := 16) hx hb d_Ho_begin_16 rfl (lv_at hl 0 rfl) ?_
      refine gk_gt_Ho_codes (pc := 17) hx hb hK hts hinHo hown hw.1 hl9 d_Ho_begin_17 ?_
      refine lv_iload_n (pc := 20) hx hb d_Ho_begin_20 rfl (lv_at hl 3 rfl) ?_
      refine lv_iload_n (pc := 21) hx hb d_Ho_begin_21 rfl (lv_at hl 2 rfl) ?_
      refine gk_st21 (pc := 22) hx hb hK hw hf.1 d_Ho_begin_22 (fun H locs hw => ?_)
      replace hf := hf.2
      refine lv_aload_n (pc := 23) hx hb d_Ho_begin_23 rfl (lv_at hl 0 rfl) ?_
      refine gk_gt_Ho_mates (pc := 24) hx hb hK hts hinHo hown hw.1 hl15 d_Ho_begin_24 ?_
      refine lv_iload_n (pc := 27) hx hb d_Ho_begin_27 rfl (lv_at hl 3 rfl) ?_
      refine lv_iload_n (pc := 28) hx hb d_Ho_begin_28 rfl (lv_at hl 1 rfl) ?_
      refine gk_st22 (pc := 29) hx hb hK hw hf.1 d_Ho_begin_29 (fun H locs hw => ?_)
      replace hf := hf.2
      have hw : wf D A s.heap (gkW cI cZ cJ a (gI (gI S 25 (upd (S.1 25) (x3).toNatClampNeg x2)) 26 (upd (S.1 26) (x3).toNatClampNeg x1))) H locs := hw
      refine lv_iinc (pc := 30) (k := 3) (v := (x3 + (1 : Int32))) (lv' := [(3, .int (x3 + (1 : Int32))), (0, .ref (a 7)), (1, .int x1), (2, .int x2)]) hx hb d_Ho_begin_30 hl rfl rfl (by decide) rfl (fun ls hl => ?_)
      refine lv_goto (pc := 33) (tgt := 2) hx hb d_Ho_begin_33 (by decide) ?_
      exact ih2 x1 x2 (x3 + (1 : Int32)) (gI (gI S 25 (upd (S.1 25) (x3).toNatClampNeg x2)) 26 (upd (S.1 26) (x3).toNatClampNeg x1)) _ _ _ (lv_sub hl [1, 2, 3, 0] rfl) hw hf
  exact lp2 n p0 p1 (0 : Int32) S _ _ _ (lv_sub hl [1, 2, 3, 0] rfl) hw hf
def wp_Ho_end (S : GS) (p0 : Int32) (post : Int32 → GS → Prop) : Prop := (vp_in p0 24 ∧ ((((S.1 25) p0.toNatClampNeg) = (0 : Int32) → (post ((S.1 25) p0.toNatClampNeg) S)) ∧ (¬ ((S.1 25) p0.toNatClampNeg) = (0 : Int32) → (vp_in p0 24 ∧ (wp_Ho_begin S ((S.1 26) p0.toNatClampNeg) (0 : Int32) (fun S19 => (post ((S.1 25) p0.toNatClampNeg) S19)))))))
abbrev rm_Ho_end : Room := { frames := 1, cells := 0, slots := 0, locals := 23 }
set_option maxHeartbeats 4000000 in
set_option maxRecDepth 100000 in
theorem c_Ho_end (l : Launch) (D : va_G) (cI cZ cJ : ClassId) (a : Nat → Nat) (sz : Nat) (S : GS) (p0 : Int32) (post : Int32 → GS → Prop) (hf : wp_Ho_end S p0 post) : Met l y_Ho_end ws_Ho_end rm_Ho_end (va_Pc [.ref (a 7), .int p0] (gPre D (tys cI cZ cJ) (gkW cI cZ cJ a S) sz)) (va_Qi post (gB D (tys cI cZ cJ) (gkW cI cZ cJ a) (va_A (gkW cI cZ cJ a S) sz)) (va_A (gkW cI cZ cJ a S) sz)) 0 0 (va_A (gkW cI cZ cJ a S) sz) := by
  refine gm_w (QF := fun A => va_Qi post (gB D (tys cI cZ cJ) (gkW cI cZ cJ a) A) A) (cc := b_Ho_end) (maxL := 3) (by decide) rfl (Nat.le_of_ble_eq_true rfl) ?_
  intro p e s m args below meth c A ls hx hb hr hts hown hmn hlk hml hK hA hw hl
  have hl : lv_has ls 3 [(0, .ref (a 7)), (1, .int p0)] := hl
  have hinHo : ∀ w ∈ u_ws R_Ho T_Ho 2, w ∈ ws_Ho_end := fun w h => List.mem_cons_of_mem _ (tl_Ho w h)
  have hl9 := hts _ (List.mem_cons_of_mem _ tf_Ho_9)
  have hl15 := hts _ (List.mem_cons_of_mem _ tf_Ho_15)
  unfold wp_Ho_end at hf
  refine lv_aload_n (pc := 0) hx hb d_Ho_end_0 rfl (lv_at hl 0 rfl) ?_
  refine gk_gt_Ho_codes (pc := 1) hx hb hK hts hinHo hown hw.1 hl9 d_Ho_end_1 ?_
  refine lv_iload_n (pc := 4) hx hb d_Ho_end_4 rfl (lv_at hl 1 rfl) ?_
  refine gk_ld21 (pc := 5) (v := ((S.1 25) p0.toNatClampNeg)) hx hb hK hw.1 hf.1 rfl d_Ho_end_5 ?_
  replace hf := hf.2
  refine lv_istore_n (pc := 6) (lv' := [(2, .int ((S.1 25) p0.toNatClampNeg)), (0, .ref (a 7)), (1, .int p0)]) hx hb d_Ho_end_6 rfl hl (by decide) rfl (fun ls hl => ?_)
  refine lv_iload_n (pc := 7) hx hb d_Ho_end_7 rfl (lv_at hl 0 rfl) ?_
  refine lv_if_eq (pc := 8) (tgt := 22) hx hb d_Ho_end_8 (by decide) (fun hc => ?_) (fun hc => ?_)
  · replace hf := hf.1 hc
    refine lv_iload_n (pc := 22) hx hb d_Ho_end_22 rfl (lv_at hl 0 rfl) ?_
    exact gr_i (pc := 23) hx hb hr hlk hK S hw hf d_Ho_end_23
  replace hf := hf.2 hc
  refine lv_aload_n (pc := 11) hx hb d_Ho_end_11 rfl (lv_at hl 1 rfl) ?_
  refine lv_aload_n (pc := 12) hx hb d_Ho_end_12 rfl (lv_at hl 1 rfl) ?_
  refine gk_gt_Ho_mates (pc := 13) hx hb hK hts hinHo hown hw.1 hl15 d_Ho_end_13 ?_
  refine lv_iload_n (pc := 16) hx hb d_Ho_end_16 rfl (lv_at hl 2 rfl) ?_
  refine gk_ld22 (pc := 17) (v := ((S.1 26) p0.toNatClampNeg)) hx hb hK hw.1 hf.1 rfl d_Ho_end_17 ?_
  replace hf := hf.2
  refine lv_iconst (pc := 18) (v := 0) hx hb d_Ho_end_18 (by decide) ?_
  refine gc_v (pc := 19) (Wf := gkW cI cZ cJ a) hw hA (va_runV (As := [.int ((S.1 26) p0.toNatClampNeg), .int (0 : Int32)]) (rest := []) ⟨hx, hb, hml, hown, hts⟩ (c_Ho_begin l D cI cZ cJ a _ _ _ _ _ hf) (cwV 2 hts (tb_wsV tc_Ho_begin tm_Ho_18 ti_Ho_begin te_Ho_begin tz_Ho) rfl rfl rfl (by decide +kernel) ⟨Nat.le_of_ble_eq_true rfl, Nat.le_of_ble_eq_true rfl⟩) (g_preV (q0 := 7) (ci := 7) hK hw rfl rfl) rfl rfl hl.1 rfl (lv_room (Nat.le_of_ble_eq_true rfl)) d_Ho_end_19 ⟨Nat.zero_le _, Nat.zero_le _⟩) (fun S19 H locs hw hf => ?_)
  refine lv_iload_n (pc := 22) hx hb d_Ho_end_22 rfl (lv_at hl 0 rfl) ?_
  exact gr_i (pc := 23) hx hb hr hlk hK S19 hw hf d_Ho_end_23
def J_Re_packed_117 (S : GS) (post : Int64 → Prop) (x1 : Int64) (x3 : Int64) (x5 : Int64) (x7 : Int32) (x8 : Int32) : Prop := ((x7 ≤ (6 : Int32) → (post (x1 ||| x3))) ∧ (¬ x7 ≤ (6 : Int32) → (post (x1 ||| x5))))
def J_Re_packed_105 (S : GS) (post : Int64 → Prop) (k45 : Int64 → Int64 → Int64 → Int32 → Int32 → Prop) (x1 : Int64) (x3 : Int64) (x5 : Int64) (x7 : Int32) (x8 : Int32) (x9 : Int32) (y0 : Int64) (y1 : Int64) : Prop := (k45 x1 x3 (y0 ||| y1) (x7 + (1 : Int32)) (x8 + (1 : Int32)))
def L_Re_packed_45 (S : GS) (post : Int64 → Prop) : Nat → Int64 → Int64 → Int64 → Int32 → Int32 → Prop
  | 0, _, _, _, _, _ => False
  | n + 1, x1, x3, x5, x7, x8 => (((100 : Int32) ≤ x8 → (J_Re_packed_117 S post x1 x3 x5 x7 x8)) ∧ (¬ (100 : Int32) ≤ x8 → (((6 : Int32) < x7 → (J_Re_packed_117 S post x1 x3 x5 x7 x8)) ∧ (¬ (6 : Int32) < x7 → (vp_in x8 108 ∧ ((((S.1 27) x8.toNatClampNeg) ≤ (0 : Int32) → (L_Re_packed_45 S post n x1 x3 x5 x7 (x8 + (1 : Int32)))) ∧ (¬ ((S.1 27) x8.toNatClampNeg) ≤ (0 : Int32) → (((6 : Int32) ≤ x7 → (J_Re_packed_105 S post (L_Re_packed_45 S post n) x1 (x3 ||| (x8.toInt64 <<< (((8 : Int32) + ((7 : Int32) * x7)).toInt64 &&& 63))) x5 x7 x8 ((8 : Int32) + ((7 : Int32) * x7)) x5 (0 : Int64))) ∧ (¬ (6 : Int32) ≤ x7 → (J_Re_packed_105 S post (L_Re_packed_45 S post n) x1 (x3 ||| (x8.toInt64 <<< (((8 : Int32) + ((7 : Int32) * x7)).toInt64 &&& 63))) x5 x7 x8 ((8 : Int32) + ((7 : Int32) * x7)) x5 ((1 : Int64) <<< (((8 : Int32) + ((7 : Int32) * x7)).toInt64 &&& 63))))))))))))
def L_Re_packed_4 (S : GS) (post : Int64 → Prop) : Nat → Int64 → Int32 → Prop
  | 0, _, _ => False
  | n + 1, x1, x3 => (((8 : Int32) ≤ x3 → (∃ n, L_Re_packed_45 S post n x1 (0 : Int64) (0 : Int64) (0 : Int32) (4 : Int32))) ∧ (¬ (8 : Int32) ≤ x3 → (vp_in ((100 : Int32) + x3) 108 ∧ ((((S.1 27) ((100 : Int32) + x3).toNatClampNeg) ≤ (0 : Int32) → (L_Re_packed_4 S post n x1 (x3 + (1 : Int32)))) ∧ (¬ ((S.1 27) ((100 : Int32) + x3).toNatClampNeg) ≤ (0 : Int32) → (L_Re_packed_4 S post n (x1 ||| ((1 : Int64) <<< (x3.toInt64 &&& 63))) (x3 + (1 : Int32))))))))
def wp_Re_packed (S : GS) (post : Int64 → Prop) : Prop := (∃ n, L_Re_packed_4 S post n (0 : Int64) (0 : Int32))
abbrev rm_Re_packed : Room := { frames := 0, cells := 0, slots := 0, locals := 0 }
set_option maxHeartbeats 4000000 in
set_option maxRecDepth 100000 in
theorem c_Re_packed (l : Launch) (D : va_G) (cI cZ cJ : ClassId) (a : Nat → Nat) (S : GS) (post : Int64 → Prop) (hf : wp_Re_packed S post) : Met l y_Re_packed ws_Re_packed rm_Re_packed (va_Pc [.ref (a 8)] (rPre D (tys cI cZ cJ) (gkW cI cZ cJ a S))) (vp_Sl post) 0 0 (fun _ => False) := by
  refine gm_r (cc := b_Re_packed) (maxL := 10) (by decide) rfl (Nat.le_of_ble_eq_true rfl) ?_
  intro p e s m args below meth c ls hx hb hr hts hown hlk hml hK hP hl
  have hl : lv_has ls 10 [(0, .ref (a 8))] := hl
  have hinRe : ∀ w ∈ u_ws R_Re T_Re 7, w ∈ ws_Re_packed := fun w h => List.mem_cons_of_mem _ (tl_Re w h)
  have hl9 := hts _ (List.mem_cons_of_mem _ tf_Re_9)
  have jn117 : ∀ (x1 : Int64) (x3 : Int64) (x5 : Int64) (x7 : Int32) (x8 : Int32) (ls : Array Slot), lv_has ls 10 [(0, .ref (a 8)), (1, .long x1), (3, .long x3), (5, .long x5), (7, .int x7), (8, .int x8)] → J_Re_packed_117 S post x1 x3 x5 x7 x8 → W p l e rm_Re_packed s m args below meth c s.heap [] 0 0 (MQ below (vp_Sl post) args s 0 0 (fun _ => False)) (F0 m 117 ls []) := by
    intro x1 x3 x5 x7 x8 ls hl hf
    unfold J_Re_packed_117 at hf
    refine lv_lload_n (pc := 117) hx hb d_Re_packed_117 rfl (lv_at hl 1 rfl) ?_
    refine lv_iload (pc := 118) hx hb d_Re_packed_118 (lv_at hl 4 rfl) ?_
    refine lv_bipush (pc := 120) (v := 6) hx hb d_Re_packed_120 (by decide) ?_
    refine lv_icmp_le (pc := 122) (tgt := 130) hx hb d_Re_packed_122 (by decide) (fun hc => ?_) (fun hc => ?_)
    · replace hf := hf.1 hc
      refine lv_lload_n (pc := 130) hx hb d_Re_packed_130 rfl (lv_at hl 2 rfl) ?_
      refine lv_lor (pc := 131) hx hb d_Re_packed_131 ?_
      exact rr_l (pc := 132) hx hb hr hlk hf d_Re_packed_132
    replace hf := hf.2 hc
    refine lv_lload (pc := 125) hx hb d_Re_packed_125 (lv_at hl 3 rfl) ?_
    refine lv_goto (pc := 127) (tgt := 131) hx hb d_Re_packed_127 (by decide) ?_
    refine lv_lor (pc := 131) hx hb d_Re_packed_131 ?_
    exact rr_l (pc := 132) hx hb hr hlk hf d_Re_packed_132
  unfold wp_Re_packed at hf
  refine lv_lconst (pc := 0) (v := 0) hx hb d_Re_packed_0 (by decide) ?_
  refine lv_lstore_n (pc := 1) (lv' := [(1, .long (0 : Int64)), (0, .ref (a 8))]) hx hb d_Re_packed_1 rfl hl (by decide) rfl (fun ls hl => ?_)
  refine lv_iconst (pc := 2) (v := 0) hx hb d_Re_packed_2 (by decide) ?_
  refine lv_istore_n (pc := 3) (lv' := [(3, .int (0 : Int32)), (1, .long (0 : Int64)), (0, .ref (a 8))]) hx hb d_Re_packed_3 rfl hl (by decide) rfl (fun ls hl => ?_)
  obtain ⟨n, hf⟩ := hf
  have lp4 : ∀ (n : Nat) (x1 : Int64) (x3 : Int32) (ls : Array Slot), lv_has ls 10 [(0, .ref (a 8)), (1, .long x1), (3, .int x3)] → L_Re_packed_4 S post n x1 x3 → W p l e rm_Re_packed s m args below meth c s.heap [] 0 0 (MQ below (vp_Sl post) args s 0 0 (fun _ => False)) (F0 m 4 ls []) := by
    intro n
    induction n with
    | zero => intro x1 x3 ls hl hf; exact False.elim hf
    | succ n ih4 =>
      intro x1 x3 ls hl hf
      unfold L_Re_packed_4 at hf
      refine lv_iload_n (pc := 4) hx hb d_Re_packed_4 rfl (lv_at hl 2 rfl) ?_
      refine lv_bipush (pc := 5) (v := 8) hx hb d_Re_packed_5 (by decide) ?_
      refine lv_icmp_ge (pc := 7) (tgt := 34) hx hb d_Re_packed_7 (by decide) (fun hc => ?_) (fun hc => ?_)
      · replace hf := hf.1 hc
        refine lv_lconst (pc := 34) (v := 0) hx hb d_Re_packed_34 (by decide) ?_
        refine lv_lstore_n (pc := 35) (lv' := [(3, .long (0 : Int64)), (0, .ref (a 8)), (1, .long x1)]) hx hb d_Re_packed_35 rfl hl (by decide) rfl (fun ls hl => ?_)
        refine lv_lconst (pc := 36) (v := 0) hx hb d_Re_packed_36 (by decide) ?_
        refine lv_lstore (pc := 37) (lv' := [(5, .long (0 : Int64)), (3, .long (0 : Int64)), (0, .ref (a 8)), (1, .long x1)]) hx hb d_Re_packed_37 hl (by decide) rfl (fun ls hl => ?_)
        refine lv_iconst (pc := 39) (v := 0) hx hb d_Re_packed_39 (by decide) ?_
        refine lv_istore (pc := 40) (lv' := [(7, .int (0 : Int32)), (5, .long (0 : Int64)), (3, .long (0 : Int64)), (0, .ref (a 8)), (1, .long x1)]) hx hb d_Re_packed_40 hl (by decide) rfl (fun ls hl => ?_)
        refine lv_iconst (pc := 42) (v := 4) hx hb d_Re_packed_42 (by decide) ?_
        refine lv_istore (pc := 43) (lv' := [(8, .int (4 : Int32)), (7, .int (0 : Int32)), (5, .long (0 : Int64)), (3, .long (0 : Int64)), (0, .ref (a 8)), (1, .long x1)]) hx hb d_Re_packed_43 hl (by decide) rfl (fun ls hl => ?_)
        obtain ⟨n, hf⟩ := hf
        have lp45 : ∀ (n : Nat) (x1 : Int64) (x3 : Int64) (x5 : Int64) (x7 : Int32) (x8 : Int32) (ls : Array Slot), lv_has ls 10 [(0, .ref (a 8)), (1, .long x1), (3, .long x3), (5, .long x5), (7, .int x7), (8, .int x8)] → L_Re_packed_45 S post n x1 x3 x5 x7 x8 → W p l e rm_Re_packed s m args below meth c s.heap [] 0 0 (MQ below (vp_Sl post) args s 0 0 (fun _ => False)) (F0 m 45 ls []) := by
          intro n
          induction n with
          | zero => intro x1 x3 x5 x7 x8 ls hl hf; exact False.elim hf
          | succ n ih45 =>
            have jn105 : ∀ (x1 : Int64) (x3 : Int64) (x5 : Int64) (x7 : Int32) (x8 : Int32) (x9 : Int32) (y0 : Int64) (y1 : Int64) (ls : Array Slot), lv_has ls 10 [(0, .ref (a 8)), (1, .long x1), (3, .long x3), (5, .long x5), (7, .int x7), (8, .int x8), (9, .int x9)] → J_Re_packed_105 S post (L_Re_packed_45 S post n) x1 x3 x5 x7 x8 x9 y0 y1 → W p l e rm_Re_packed s m args below meth c s.heap [] 0 0 (MQ below (vp_Sl post) args s 0 0 (fun _ => False)) (F0 m 105 ls [.long y1, .long y0]) := by
              intro x1 x3 x5 x7 x8 x9 y0 y1 ls hl hf
              unfold J_Re_packed_105 at hf
              refine lv_lor (pc := 105) hx hb d_Re_packed_105 ?_
              refine lv_lstore (pc := 106) (lv' := [(5, .long (y0 ||| y1)), (0, .ref (a 8)), (1, .long x1), (3, .long x3), (7, .int x7), (8, .int x8), (9, .int x9)]) hx hb d_Re_packed_106 hl (by decide) rfl (fun ls hl => ?_)
              refine lv_iinc (pc := 108) (k := 4) (v := (x7 + (1 : Int32))) (lv' := [(7, .int (x7 + (1 : Int32))), (5, .long (y0 ||| y1)), (0, .ref (a 8)), (1, .long x1), (3, .long x3), (8, .int x8), (9, .int x9)]) hx hb d_Re_packed_108 hl rfl rfl (by decide) rfl (fun ls hl => ?_)
              refine lv_iinc (pc := 111) (k := 5) (v := (x8 + (1 : Int32))) (lv' := [(8, .int (x8 + (1 : Int32))), (7, .int (x7 + (1 : Int32))), (5, .long (y0 ||| y1)), (0, .ref (a 8)), (1, .long x1), (3, .long x3), (9, .int x9)]) hx hb d_Re_packed_111 hl rfl rfl (by decide) rfl (fun ls hl => ?_)
              refine lv_goto (pc := 114) (tgt := 45) hx hb d_Re_packed_114 (by decide) ?_
              exact ih45 x1 x3 (y0 ||| y1) (x7 + (1 : Int32)) (x8 + (1 : Int32)) _ (lv_sub hl [3, 4, 5, 2, 1, 0] rfl) hf
            intro x1 x3 x5 x7 x8 ls hl hf
            unfold L_Re_packed_45 at hf
            refine lv_iload (pc := 45) hx hb d_Re_packed_45 (lv_at hl 5 rfl) ?_
            refine lv_bipush (pc := 47) (v := 100) hx hb d_Re_packed_47 (by decide) ?_
            refine lv_icmp_ge (pc := 49) (tgt := 117) hx hb d_Re_packed_49 (by decide) (fun hc => ?_) (fun hc => ?_)
            · replace hf := hf.1 hc
              exact jn117 x1 x3 x5 x7 x8 _ (lv_sub hl [0, 1, 2, 3, 4, 5] rfl) hf
            replace hf := hf.2 hc
            refine lv_iload (pc := 52) hx hb d_Re_packed_52 (lv_at hl 4 rfl) ?_
            refine lv_bipush (pc := 54) (v := 6) hx hb d_Re_packed_54 (by decide) ?_
            refine lv_icmp_gt (pc := 56) (tgt := 117) hx hb d_Re_packed_56 (by decide) (fun hc => ?_) (fun hc => ?_)
            · replace hf := hf.1 hc
              exact jn117 x1 x3 x5 x7 x8 _ (lv_sub hl [0, 1, 2, 3, 4, 5] rfl) hf
            replace hf := hf.2 hc
            refine lv_aload_n (pc := 59) hx hb d_Re_packed_59 rfl (lv_at hl 0 rfl) ?_
            refine gk_gt_Re_holders (pc := 60) hx hb hK hts hinRe hown hP hl9 d_Re_packed_60 ?_
            refine lv_iload (pc := 63) hx hb d_Re_packed_63 (lv_at hl 5 rfl) ?_
            refine gk_ld23 (pc := 65) (v := ((S.1 27) x8.toNatClampNeg)) hx hb hK hP hf.1 rfl d_Re_packed_65 ?_
            replace hf := hf.2
            refine lv_if_le (pc := 66) (tgt := 111) hx hb d_Re_packed_66 (by decide) (fun hc => ?_) (fun hc => ?_)
            · replace hf := hf.1 hc
              refine lv_iinc (pc := 111) (k := 5) (v := (x8 + (1 : Int32))) (lv' := [(8, .int (x8 + (1 : Int32))), (0, .ref (a 8)), (1, .long x1), (3, .long x3), (5, .long x5), (7, .int x7)]) hx hb d_Re_packed_111 hl rfl rfl (by decide) rfl (fun ls hl => ?_)
              refine lv_goto (pc := 114) (tgt := 45) hx hb d_Re_packed_114 (by decide) ?_
              exact ih45 x1 x3 x5 x7 (x8 + (1 : Int32)) _ (lv_sub hl [1, 2, 3, 4, 5, 0] rfl) hf
            replace hf := hf.2 hc
            refine lv_bipush (pc := 69) (v := 8) hx hb d_Re_packed_69 (by decide) ?_
            refine lv_bipush (pc := 71) (v := 7) hx hb d_Re_packed_71 (by decide) ?_
            refine lv_iload (pc := 73) hx hb d_Re_packed_73 (lv_at hl 4 rfl) ?_
            refine lv_imul (pc := 75) hx hb d_Re_packed_75 ?_
            refine lv_iadd (pc := 76) hx hb d_Re_packed_76 ?_
            refine lv_istore (pc := 77) (lv' := [(9, .int ((8 : Int32) + ((7 : Int32) * x7))), (0, .ref (a 8)), (1, .long x1), (3, .long x3), (5, .long x5), (7, .int x7), (8, .int x8)]) hx hb d_Re_packed_77 hl (by decide) rfl (fun ls hl => ?_)
            refine lv_lload_n (pc := 79) hx hb d_Re_packed_79 rfl (lv_at hl 3 rfl) ?_
            refine lv_iload (pc := 80) hx hb d_Re_packed_80 (lv_at hl 6 rfl) ?_
            refine lv_i2l (pc := 82) hx hb d_Re_packed_82 rfl ?_
            refine lv_iload (pc := 83) hx hb d_Re_packed_83 (lv_at hl 0 rfl) ?_
            refine lv_lshl (pc := 85) hx hb d_Re_packed_85 rfl ?_
            refine lv_lor (pc := 86) hx hb d_Re_packed_86 ?_
            refine lv_lstore_n (pc := 87) (lv' := [(3, .long (x3 ||| (x8.toInt64 <<< (((8 : Int32) + ((7 : Int32) * x7)).toInt64 &&& 63)))), (9, .int ((8 : Int32) + ((7 : Int32) * x7))), (0, .ref (a 8)), (1, .long x1), (5, .long x5), (7, .int x7), (8, .int x8)]) hx hb d_Re_packed_87 rfl hl (by decide) rfl (fun ls hl => ?_)
            refine lv_lload (pc := 88) hx hb d_Re_packed_88 (lv_at hl 4 rfl) ?_
            refine lv_iload (pc := 90) hx hb d_Re_packed_90 (lv_at hl 5 rfl) ?_
            refine lv_bipush (pc := 92) (v := 6) hx hb d_Re_packed_92 (by decide) ?_
            refine lv_icmp_ge (pc := 94) (tgt := 104) hx hb d_Re_packed_94 (by decide) (fun hc => ?_) (fun hc => ?_)
            · replace hf := hf.1 hc
              refine lv_lconst (pc := 104) (v := 0) hx hb d_Re_packed_104 (by decide) ?_
              exact jn105 x1 (x3 ||| (x8.toInt64 <<< (((8 : Int32) + ((7 : Int32) * x7)).toInt64 &&& 63))) x5 x7 x8 ((8 : Int32) + ((7 : Int32) * x7)) x5 (0 : Int64) _ (lv_sub hl [2, 3, 0, 4, 5, 6, 1] rfl) hf
            replace hf := hf.2 hc
            refine lv_lconst (pc := 97) (v := 1) hx hb d_Re_packed_97 (by decide) ?_
            refine lv_iload (pc := 98) hx hb d_Re_packed_98 (lv_at hl 1 rfl) ?_
            refine lv_lshl (pc := 100) hx hb d_Re_packed_100 rfl ?_
            refine lv_goto (pc := 101) (tgt := 105) hx hb d_Re_packed_101 (by decide) ?_
            exact jn105 x1 (x3 ||| (x8.toInt64 <<< (((8 : Int32) + ((7 : Int32) * x7)).toInt64 &&& 63))) x5 x7 x8 ((8 : Int32) + ((7 : Int32) * x7)) x5 ((1 : Int64) <<< (((8 : Int32) + ((7 : Int32) * x7)).toInt64 &&& 63)) _ (lv_sub hl [2, 3, 0, 4, 5, 6, 1] rfl) hf
        exact lp45 n x1 (0 : Int64) (0 : Int64) (0 : Int32) (4 : Int32) _ (lv_sub hl [4, 5, 3, 2, 1, 0] rfl) hf
      replace hf := hf.2 hc
      refine lv_aload_n (pc := 10) hx hb d_Re_packed_10 rfl (lv_at hl 0 rfl) ?_
      refine gk_gt_Re_holders (pc := 11) hx hb hK hts hinRe hown hP hl9 d_Re_packed_11 ?_
      refine lv_bipush (pc := 14) (v := 100) hx hb d_Re_packed_14 (by decide) ?_
      refine lv_iload_n (pc := 16) hx hb d_Re_packed_16 rfl (lv_at hl 2 rfl) ?_
      refine lv_iadd (pc := 17) hx hb d_Re_packed_17 ?_
      refine gk_ld23 (pc := 18) (v := ((S.1 27) ((100 : Int32) + x3).toNatClampNeg)) hx hb hK hP hf.1 rfl d_Re_packed_18 ?_
      replace hf := hf.2
      refine lv_if_le (pc := 19) (tgt := 28) hx hb d_Re_packed_19 (by decide) (fun hc => ?_) (fun hc => ?_)
      · replace hf := hf.1 hc
        refine lv_iinc (pc := 28) (k := 2) (v := (x3 + (1 : Int32))) (lv' := [(3, .int (x3 + (1 : Int32))), (0, .ref (a 8)), (1, .long x1)]) hx hb d_Re_packed_28 hl rfl rfl (by decide) rfl (fun ls hl => ?_)
        refine lv_goto (pc := 31) (tgt := 4) hx hb d_Re_packed_31 (by decide) ?_
        exact ih4 x1 (x3 + (1 : Int32)) _ (lv_sub hl [1, 2, 0] rfl) hf
      replace hf := hf.2 hc
      refine lv_lload_n (pc := 22) hx hb d_Re_packed_22 rfl (lv_at hl 1 rfl) ?_
      refine lv_lconst (pc := 23) (v := 1) hx hb d_Re_packed_23 (by decide) ?_
      refine lv_iload_n (pc := 24) hx hb d_Re_packed_24 rfl (lv_at hl 2 rfl) ?_
      refine lv_lshl (pc := 25) hx hb d_Re_packed_25 rfl ?_
      refine lv_lor (pc := 26) hx hb d_Re_packed_26 ?_
      refine lv_lstore_n (pc := 27) (lv' := [(1, .long (x1 ||| ((1 : Int64) <<< (x3.toInt64 &&& 63)))), (0, .ref (a 8)), (3, .int x3)]) hx hb d_Re_packed_27 rfl hl (by decide) rfl (fun ls hl => ?_)
      refine lv_iinc (pc := 28) (k := 2) (v := (x3 + (1 : Int32))) (lv' := [(3, .int (x3 + (1 : Int32))), (1, .long (x1 ||| ((1 : Int64) <<< (x3.toInt64 &&& 63)))), (0, .ref (a 8))]) hx hb d_Re_packed_28 hl rfl rfl (by decide) rfl (fun ls hl => ?_)
      refine lv_goto (pc := 31) (tgt := 4) hx hb d_Re_packed_31 (by decide) ?_
      exact ih4 (x1 ||| ((1 : Int64) <<< (x3.toInt64 &&& 63))) (x3 + (1 : Int32)) _ (lv_sub hl [2, 1, 0] rfl) hf
  exact lp4 n (0 : Int64) (0 : Int32) _ (lv_sub hl [2, 1, 0] rfl) hf
def wp_Re_putIfOther (S : GS) (p0 : Int64) (post : GS → Prop) : Prop := (((lg_cmp p0 (S.2 0 0)) = (0 : Int32) → (post S)) ∧ (¬ (lg_cmp p0 (S.2 0 0)) = (0 : Int32) → (((S.1 11 0) = (8 : Int32) → (post (gI S 12 (fun _ => (1 : Int32))))) ∧ (¬ (S.1 11 0) = (8 : Int32) → (vp_in (((S.1 10 0) + (S.1 11 0)) - ((S.1 10 0) + (S.1 11 0)) / (8 : Int32) * (8 : Int32)) 8 ∧ (post (gL (gI (gL S 2 (vp_updL (S.2 2) ((((S.1 10 0) + (S.1 11 0)) - ((S.1 10 0) + (S.1 11 0)) / (8 : Int32) * (8 : Int32))).toNatClampNeg p0)) 11 (fun _ => ((S.1 11 0) + (1 : Int32)))) 0 (fun _ => p0))))))))
abbrev rm_Re_putIfOther : Room := { frames := 0, cells := 0, slots := 0, locals := 0 }
set_option maxHeartbeats 4000000 in
set_option maxRecDepth 100000 in
theorem c_Re_putIfOther (l : Launch) (D : va_G) (cI cZ cJ : ClassId) (a : Nat → Nat) (sz : Nat) (S : GS) (p0 : Int64) (post : GS → Prop) (hf : wp_Re_putIfOther S p0 post) : Met l y_Re_putIfOther ws_Re_putIfOther rm_Re_putIfOther (va_Pc [.ref (a 8), .long p0] (gPre D (tys cI cZ cJ) (gkW cI cZ cJ a S) sz)) (va_Qv post (gB D (tys cI cZ cJ) (gkW cI cZ cJ a) (va_A (gkW cI cZ cJ a S) sz)) (va_A (gkW cI cZ cJ a S) sz)) 0 0 (va_A (gkW cI cZ cJ a S) sz) := by
  refine gm_w (QF := fun A => va_Qv post (gB D (tys cI cZ cJ) (gkW cI cZ cJ a) A) A) (cc := b_Re_putIfOther) (maxL := 3) (by decide) rfl (Nat.le_of_ble_eq_true rfl) ?_
  intro p e s m args below meth c A ls hx hb hr hts hown hmn hlk hml hK hA hw hl
  have hl : lv_has ls 3 [(0, .ref (a 8)), (1, .long p0)] := hl
  have hinRe : ∀ w ∈ u_ws R_Re T_Re 7, w ∈ ws_Re_putIfOther := fun w h => List.mem_cons_of_mem _ (tl_Re w h)
  have hl15 := hts _ (List.mem_cons_of_mem _ tf_Re_15)
  have hl19 := hts _ (List.mem_cons_of_mem _ tf_Re_19)
  have hl23 := hts _ (List.mem_cons_of_mem _ tf_Re_23)
  have hl35 := hts _ (List.mem_cons_of_mem _ tf_Re_35)
  have hl46 := hts _ (List.mem_cons_of_mem _ tf_Re_46)
  unfold wp_Re_putIfOther at hf
  refine lv_lload_n (pc := 0) hx hb d_Re_putIfOther_0 rfl (lv_at hl 1 rfl) ?_
  refine lv_aload_n (pc := 1) hx hb d_Re_putIfOther_1 rfl (lv_at hl 0 rfl) ?_
  refine gk_gt_Re_lastPut (pc := 2) (v := (S.2 0 0)) hx hb hK hts hinRe hown hw.1 hl46 rfl d_Re_putIfOther_2 ?_
  refine W.lcmp (pc := 5) hx hb d_Re_putIfOther_5 ?_
  refine lv_if_ne (pc := 6) (tgt := 10) hx hb d_Re_putIfOther_6 (by decide) (fun hc => ?_) (fun hc => ?_)
  · replace hf := hf.2 hc
    refine lv_aload_n (pc := 10) hx hb d_Re_putIfOther_10 rfl (lv_at hl 0 rfl) ?_
    refine gk_gt_Re_stored (pc := 11) (v := (S.1 11 0)) hx hb hK hts hinRe hown hw.1 hl19 rfl d_Re_putIfOther_11 ?_
    refine lv_bipush (pc := 14) (v := 8) hx hb d_Re_putIfOther_14 (by decide) ?_
    refine lv_icmp_ne (pc := 16) (tgt := 25) hx hb d_Re_putIfOther_16 (by decide) (fun hc => ?_) (fun hc => ?_)
    · replace hf := hf.2 hc
      refine lv_aload_n (pc := 25) hx hb d_Re_putIfOther_25 rfl (lv_at hl 0 rfl) ?_
      refine gk_gt_Re_store (pc := 26) hx hb hK hts hinRe hown hw.1 hl15 d_Re_putIfOther_26 ?_
      refine lv_aload_n (pc := 29) hx hb d_Re_putIfOther_29 rfl (lv_at hl 0 rfl) ?_
      refine gk_gt_Re_oldest (pc := 30) (v := (S.1 10 0)) hx hb hK hts hinRe hown hw.1 hl35 rfl d_Re_putIfOther_30 ?_
      refine lv_aload_n (pc := 33) hx hb d_Re_putIfOther_33 rfl (lv_at hl 0 rfl) ?_
      refine gk_gt_Re_stored (pc := 34) (v := (S.1 11 0)) hx hb hK hts hinRe hown hw.1 hl19 rfl d_Re_putIfOther_34 ?_
      refine lv_iadd (pc := 37) hx hb d_Re_putIfOther_37 ?_
      refine lv_bipush (pc := 38) (v := 8) hx hb d_Re_putIfOther_38 (by decide) ?_
      refine lv_irem (pc := 40) hx hb d_Re_putIfOther_40 (by decide) ?_
      refine lv_lload_n (pc := 41) hx hb d_Re_putIfOther_41 rfl (lv_at hl 1 rfl) ?_
      refine gk_st24 (pc := 42) hx hb hK hw hf.1 d_Re_putIfOther_42 (fun H locs hw => ?_)
      replace hf := hf.2
      refine lv_aload_n (pc := 43) hx hb d_Re_putIfOther_43 rfl (lv_at hl 0 rfl) ?_
      refine lv_dup (pc := 44) hx hb d_Re_putIfOther_44 rfl ?_
      refine gk_gt_Re_stored (pc := 45) (v := (S.1 11 0)) hx hb hK hts hinRe hown hw.1 hl19 rfl d_Re_putIfOther_45 ?_
      refine lv_iconst (pc := 48) (v := 1) hx hb d_Re_putIfOther_48 (by decide) ?_
      refine lv_iadd (pc := 49) hx hb d_Re_putIfOther_49 ?_
      refine gk_pt_Re_stored (pc := 50) hx hb hK hts hinRe hown hw hl19 d_Re_putIfOther_50 (fun H locs hw => ?_)
      refine lv_aload_n (pc := 53) hx hb d_Re_putIfOther_53 rfl (lv_at hl 0 rfl) ?_
      refine lv_lload_n (pc := 54) hx hb d_Re_putIfOther_54 rfl (lv_at hl 1 rfl) ?_
      refine gk_pt_Re_lastPut (pc := 55) hx hb hK hts hinRe hown hw hl46 d_Re_putIfOther_55 (fun H locs hw => ?_)
      exact gr_v (pc := 58) hx hb hr hlk hK (gL (gI (gL S 2 (vp_updL (S.2 2) ((((S.1 10 0) + (S.1 11 0)) - ((S.1 10 0) + (S.1 11 0)) / (8 : Int32) * (8 : Int32))).toNatClampNeg p0)) 11 (fun _ => ((S.1 11 0) + (1 : Int32)))) 0 (fun _ => p0)) hw hf d_Re_putIfOther_58
    replace hf := hf.1 hc
    refine lv_aload_n (pc := 19) hx hb d_Re_putIfOther_19 rfl (lv_at hl 0 rfl) ?_
    refine lv_iconst (pc := 20) (v := 1) hx hb d_Re_putIfOther_20 (by decide) ?_
    refine gk_pt_Re_late (pc := 21) hx hb hK hts hinRe hown hw hl23 (by decide) (by decide) d_Re_putIfOther_21 (fun H locs hw => ?_)
    exact gr_v (pc := 24) hx hb hr hlk hK (gI S 12 (fun _ => (1 : Int32))) hw hf d_Re_putIfOther_24
  replace hf := hf.1 hc
  exact gr_v (pc := 9) hx hb hr hlk hK S hw hf d_Re_putIfOther_9
def wp_Re_letGo (S : GS) (p0 : Int32) (post : GS → Prop) : Prop := (vp_in p0 108 ∧ (vp_in p0 108 ∧ (wp_Re_packed (gI S 27 (upd (S.1 27) (p0).toNatClampNeg (((S.1 27) p0.toNatClampNeg) - (1 : Int32)))) (fun r12 => (wp_Re_putIfOther (gI S 27 (upd (S.1 27) (p0).toNatClampNeg (((S.1 27) p0.toNatClampNeg) - (1 : Int32)))) r12 (fun S15 => (post S15)))))))
abbrev rm_Re_letGo : Room := { frames := 1, cells := 0, slots := 0, locals := 29 }
set_option maxHeartbeats 4000000 in
set_option maxRecDepth 100000 in
theorem c_Re_letGo (l : Launch) (D : va_G) (cI cZ cJ : ClassId) (a : Nat → Nat) (sz : Nat) (S : GS) (p0 : Int32) (post : GS → Prop) (hf : wp_Re_letGo S p0 post) : Met l y_Re_letGo ws_Re_letGo rm_Re_letGo (va_Pc [.ref (a 8), .int p0] (gPre D (tys cI cZ cJ) (gkW cI cZ cJ a S) sz)) (va_Qv post (gB D (tys cI cZ cJ) (gkW cI cZ cJ a) (va_A (gkW cI cZ cJ a S) sz)) (va_A (gkW cI cZ cJ a S) sz)) 0 0 (va_A (gkW cI cZ cJ a S) sz) := by
  refine gm_w (QF := fun A => va_Qv post (gB D (tys cI cZ cJ) (gkW cI cZ cJ a) A) A) (cc := b_Re_letGo) (maxL := 2) (by decide) rfl (Nat.le_of_ble_eq_true rfl) ?_
  intro p e s m args below meth c A ls hx hb hr hts hown hmn hlk hml hK hA hw hl
  have hl : lv_has ls 2 [(0, .ref (a 8)), (1, .int p0)] := hl
  have hinRe : ∀ w ∈ u_ws R_Re T_Re 7, w ∈ ws_Re_letGo := fun w h => List.mem_cons_of_mem _ (tl_Re w h)
  have hl9 := hts _ (List.mem_cons_of_mem _ tf_Re_9)
  unfold wp_Re_letGo at hf
  refine lv_aload_n (pc := 0) hx hb d_Re_letGo_0 rfl (lv_at hl 0 rfl) ?_
  refine gk_gt_Re_holders (pc := 1) hx hb hK hts hinRe hown hw.1 hl9 d_Re_letGo_1 ?_
  refine lv_iload_n (pc := 4) hx hb d_Re_letGo_4 rfl (lv_at hl 1 rfl) ?_
  refine lv_dup2_11 (pc := 5) hx hb d_Re_letGo_5 rfl rfl ?_
  refine gk_ld23 (pc := 6) (v := ((S.1 27) p0.toNatClampNeg)) hx hb hK hw.1 hf.1 rfl d_Re_letGo_6 ?_
  replace hf := hf.2
  refine lv_iconst (pc := 7) (v := 1) hx hb d_Re_letGo_7 (by decide) ?_
  refine lv_isub (pc := 8) hx hb d_Re_letGo_8 ?_
  refine gk_st23 (pc := 9) hx hb hK hw hf.1 d_Re_letGo_9 (fun H locs hw => ?_)
  replace hf := hf.2
  refine lv_aload_n (pc := 10) hx hb d_Re_letGo_10 rfl (lv_at hl 0 rfl) ?_
  refine lv_aload_n (pc := 11) hx hb d_Re_letGo_11 rfl (lv_at hl 0 rfl) ?_
  refine vp_callSl (pc := 12) (W.runV (As := []) (rest := [.ref (a 8)]) ⟨hx, hb, hml, hown, hts⟩ (c_Re_packed l D cI cZ cJ a _ _ hf) (cwV 0 hts (tb_wsV tc_Re_packed tm_Re_27 ti_Re_packed te_Re_packed tz_Re) rfl rfl rfl (by decide +kernel) ⟨Nat.le_of_ble_eq_true rfl, Nat.le_of_ble_eq_true rfl⟩) (r_preV (q0 := 8) (ci := 8) hK hw.1 rfl rfl) rfl rfl hl.1 rfl (lv_room (Nat.le_of_ble_eq_true rfl)) d_Re_letGo_12 ⟨Nat.zero_le _, Nat.zero_le _⟩) (fun r12 hf => ?_)
  refine gc_v (pc := 15) (Wf := gkW cI cZ cJ a) hw hA (va_runV (As := [.long r12]) (rest := []) ⟨hx, hb, hml, hown, hts⟩ (c_Re_putIfOther l D cI cZ cJ a _ _ _ _ hf) (cwV 1 hts (tb_wsV tc_Re_putIfOther tm_Re_31 ti_Re_putIfOther te_Re_putIfOther tz_Re) rfl rfl rfl (by decide +kernel) ⟨Nat.le_of_ble_eq_true rfl, Nat.le_of_ble_eq_true rfl⟩) (g_preV (q0 := 8) (ci := 8) hK hw rfl rfl) rfl rfl hl.1 rfl (lv_room (Nat.le_of_ble_eq_true rfl)) d_Re_letGo_15 ⟨Nat.zero_le _, Nat.zero_le _⟩) (fun S15 H locs hw hf => ?_)
  exact gr_v (pc := 18) hx hb hr hlk hK S15 hw hf d_Re_letGo_18
def L_Eq_rowLength_2 (S : GS) (post : Int32 → Prop) : Nat → Int32 → Prop
  | 0, _ => False
  | n + 1, x1 => (((S.1 7 0) ≤ x1 → (post x1)) ∧ (¬ (S.1 7 0) ≤ x1 → (wp_Eq_isPress S x1 (fun r12 => ((r12 = (0 : Int32) → (post x1)) ∧ (¬ r12 = (0 : Int32) → (vp_in x1 32 ∧ (vp_in (0 : Int32) 32 ∧ (((((S.1 17) (0 : Int32).toNatClampNeg) + (9 : Int32)) < ((S.1 17) x1.toNatClampNeg) → (post x1)) ∧ (¬ (((S.1 17) (0 : Int32).toNatClampNeg) + (9 : Int32)) < ((S.1 17) x1.toNatClampNeg) → (L_Eq_rowLength_2 S post n (x1 + (1 : Int32)))))))))))))
def wp_Eq_rowLength (S : GS) (post : Int32 → Prop) : Prop := (∃ n, L_Eq_rowLength_2 S post n (0 : Int32))
abbrev rm_Eq_rowLength : Room := { frames := 1, cells := 0, slots := 0, locals := 21 }
set_option maxHeartbeats 4000000 in
set_option maxRecDepth 100000 in
theorem c_Eq_rowLength (l : Launch) (D : va_G) (cI cZ cJ : ClassId) (a : Nat → Nat) (S : GS) (post : Int32 → Prop) (hf : wp_Eq_rowLength S post) : Met l y_Eq_rowLength ws_Eq_rowLength rm_Eq_rowLength (va_Pc [.ref (a 3)] (rPre D (tys cI cZ cJ) (gkW cI cZ cJ a S))) (vp_Si post) 0 0 (fun _ => False) := by
  refine gm_r (cc := b_Eq_rowLength) (maxL := 2) (by decide) rfl (Nat.le_of_ble_eq_true rfl) ?_
  intro p e s m args below meth c ls hx hb hr hts hown hlk hml hK hP hl
  have hl : lv_has ls 2 [(0, .ref (a 3))] := hl
  have hinEq : ∀ w ∈ u_ws R_Eq T_Eq 3, w ∈ ws_Eq_rowLength := fun w h => List.mem_cons_of_mem _ (tl_Eq w h)
  have hl15 := hts _ (List.mem_cons_of_mem _ tf_Eq_15)
  have hl18 := hts _ (List.mem_cons_of_mem _ tf_Eq_18)
  unfold wp_Eq_rowLength at hf
  refine lv_iconst (pc := 0) (v := 0) hx hb d_Eq_rowLength_0 (by decide) ?_
  refine lv_istore_n (pc := 1) (lv' := [(1, .int (0 : Int32)), (0, .ref (a 3))]) hx hb d_Eq_rowLength_1 rfl hl (by decide) rfl (fun ls hl => ?_)
  obtain ⟨n, hf⟩ := hf
  have lp2 : ∀ (n : Nat) (x1 : Int32) (ls : Array Slot), lv_has ls 2 [(0, .ref (a 3)), (1, .int x1)] → L_Eq_rowLength_2 S post n x1 → W p l e rm_Eq_rowLength s m args below meth c s.heap [] 0 0 (MQ below (vp_Si post) args s 0 0 (fun _ => False)) (F0 m 2 ls []) := by
    intro n
    induction n with
    | zero => intro x1 ls hl hf; exact False.elim hf
    | succ n ih2 =>
      intro x1 ls hl hf
      unfold L_Eq_rowLength_2 at hf
      refine lv_iload_n (pc := 2) hx hb d_Eq_rowLength_2 rfl (lv_at hl 1 rfl) ?_
      refine lv_aload_n (pc := 3) hx hb d_Eq_rowLength_3 rfl (lv_at hl 0 rfl) ?_
      refine gk_gt_Eq_length (pc := 4) (v := (S.1 7 0)) hx hb hK hts hinEq hown hP hl18 rfl d_Eq_rowLength_4 ?_
      refine lv_icmp_ge (pc := 7) (tgt := 42) hx hb d_Eq_rowLength_7 (by decide) (fun hc => ?_) (fun hc => ?_)
      · replace hf := hf.1 hc
        refine lv_iload_n (pc := 42) hx hb d_Eq_rowLength_42 rfl (lv_at hl 1 rfl) ?_
        exact rr_i (pc := 43) hx hb hr hlk hf d_Eq_rowLength_43
      replace hf := hf.2 hc
      refine lv_aload_n (pc := 10) hx hb d_Eq_rowLength_10 rfl (lv_at hl 0 rfl) ?_
      refine lv_iload_n (pc := 11) hx hb d_Eq_rowLength_11 rfl (lv_at hl 1 rfl) ?_
      refine vp_callSi (pc := 12) (W.runV (As := [.int x1]) (rest := []) ⟨hx, hb, hml, hown, hts⟩ (c_Eq_isPress l D cI cZ cJ a _ _ _ hf) (cwV 1 hts (tb_wsV tc_Eq_isPress tm_Eq_28 ti_Eq_isPress te_Eq_isPress tz_Eq) rfl rfl rfl (by decide +kernel) ⟨Nat.le_of_ble_eq_true rfl, Nat.le_of_ble_eq_true rfl⟩) (r_preV (q0 := 3) (ci := 3) hK hP rfl rfl) rfl rfl hl.1 rfl (lv_room (Nat.le_of_ble_eq_true rfl)) d_Eq_rowLength_12 ⟨Nat.zero_le _, Nat.zero_le _⟩) (fun r12 hf => ?_)
      refine lv_if_eq (pc := 15) (tgt := 42) hx hb d_Eq_rowLength_15 (by decide) (fun hc => ?_) (fun hc => ?_)
      · replace hf := hf.1 hc
        refine lv_iload_n (pc := 42) hx hb d_Eq_rowLength_42 rfl (lv_at hl 1 rfl) ?_
        exact rr_i (pc := 43) hx hb hr hlk hf d_Eq_rowLength_43
      replace hf := hf.2 hc
      refine lv_aload_n (pc := 18) hx hb d_Eq_rowLength_18 rfl (lv_at hl 0 rfl) ?_
      refine gk_gt_Eq_scanOf (pc := 19) hx hb hK hts hinEq hown hP hl15 d_Eq_rowLength_19 ?_
      refine lv_iload_n (pc := 22) hx hb d_Eq_rowLength_22 rfl (lv_at hl 1 rfl) ?_
      refine gk_ld13 (pc := 23) (v := ((S.1 17) x1.toNatClampNeg)) hx hb hK hP hf.1 rfl d_Eq_rowLength_23 ?_
      replace hf := hf.2
      refine lv_aload_n (pc := 24) hx hb d_Eq_rowLength_24 rfl (lv_at hl 0 rfl) ?_
      refine gk_gt_Eq_scanOf (pc := 25) hx hb hK hts hinEq hown hP hl15 d_Eq_rowLength_25 ?_
      refine lv_iconst (pc := 28) (v := 0) hx hb d_Eq_rowLength_28 (by decide) ?_
      refine gk_ld13 (pc := 29) (v := ((S.1 17) (0 : Int32).toNatClampNeg)) hx hb hK hP hf.1 rfl d_Eq_rowLength_29 ?_
      replace hf := hf.2
      refine lv_bipush (pc := 30) (v := 9) hx hb d_Eq_rowLength_30 (by decide) ?_
      refine lv_iadd (pc := 32) hx hb d_Eq_rowLength_32 ?_
      refine lv_icmp_gt (pc := 33) (tgt := 42) hx hb d_Eq_rowLength_33 (by decide) (fun hc => ?_) (fun hc => ?_)
      · replace hf := hf.1 hc
        refine lv_iload_n (pc := 42) hx hb d_Eq_rowLength_42 rfl (lv_at hl 1 rfl) ?_
        exact rr_i (pc := 43) hx hb hr hlk hf d_Eq_rowLength_43
      replace hf := hf.2 hc
      refine lv_iinc (pc := 36) (k := 1) (v := (x1 + (1 : Int32))) (lv' := [(1, .int (x1 + (1 : Int32))), (0, .ref (a 3))]) hx hb d_Eq_rowLength_36 hl rfl rfl (by decide) rfl (fun ls hl => ?_)
      refine lv_goto (pc := 39) (tgt := 2) hx hb d_Eq_rowLength_39 (by decide) ?_
      exact ih2 (x1 + (1 : Int32)) _ (lv_sub hl [1, 0] rfl) hf
  exact lp2 n (0 : Int32) _ (lv_sub hl [1, 0] rfl) hf
def wp_Eq_scanAt (S : GS) (p0 : Int32) (post : Int32 → Prop) : Prop := (vp_in p0 32 ∧ (post ((S.1 17) p0.toNatClampNeg)))
abbrev rm_Eq_scanAt : Room := { frames := 0, cells := 0, slots := 0, locals := 0 }
set_option maxHeartbeats 4000000 in
set_option maxRecDepth 100000 in
theorem c_Eq_scanAt (l : Launch) (D : va_G) (cI cZ cJ : ClassId) (a : Nat → Nat) (S : GS) (p0 : Int32) (post : Int32 → Prop) (hf : wp_Eq_scanAt S p0 post) : Met l y_Eq_scanAt ws_Eq_scanAt rm_Eq_scanAt (va_Pc [.ref (a 3), .int p0] (rPre D (tys cI cZ cJ) (gkW cI cZ cJ a S))) (vp_Si post) 0 0 (fun _ => False) := by
  refine gm_r (cc := b_Eq_scanAt) (maxL := 2) (by decide) rfl (Nat.le_of_ble_eq_true rfl) ?_
  intro p e s m args below meth c ls hx hb hr hts hown hlk hml hK hP hl
  have hl : lv_has ls 2 [(0, .ref (a 3)), (1, .int p0)] := hl
  have hinEq : ∀ w ∈ u_ws R_Eq T_Eq 3, w ∈ ws_Eq_scanAt := fun w h => List.mem_cons_of_mem _ (tl_Eq w h)
  have hl15 := hts _ (List.mem_cons_of_mem _ tf_Eq_15)
  unfold wp_Eq_scanAt at hf
  refine lv_aload_n (pc := 0) hx hb d_Eq_scanAt_0 rfl (lv_at hl 0 rfl) ?_
  refine gk_gt_Eq_scanOf (pc := 1) hx hb hK hts hinEq hown hP hl15 d_Eq_scanAt_1 ?_
  refine lv_iload_n (pc := 4) hx hb d_Eq_scanAt_4 rfl (lv_at hl 1 rfl) ?_
  refine gk_ld13 (pc := 5) (v := ((S.1 17) p0.toNatClampNeg)) hx hb hK hP hf.1 rfl d_Eq_scanAt_5 ?_
  replace hf := hf.2
  exact rr_i (pc := 6) hx hb hr hlk hf d_Eq_scanAt_6
def L_Eq_firstKeys_4 (S : GS) (post : Int32 → Prop) : Nat → Int32 → Int32 → Int32 → Prop
  | 0, _, _, _ => False
  | n + 1, x1, x2, x3 => ((x1 ≤ x3 → (post x2)) ∧ (¬ x1 ≤ x3 → (((S.1 7 0) ≤ x3 → (post x2)) ∧ (¬ (S.1 7 0) ≤ x3 → (wp_Eq_keyAt S x3 (fun r21 => (L_Eq_firstKeys_4 S post n x1 (x2 ||| ((1 : Int32) <<< (r21 &&& 31))) (x3 + (1 : Int32)))))))))
def wp_Eq_firstKeys (S : GS) (p0 : Int32) (post : Int32 → Prop) : Prop := (∃ n, L_Eq_firstKeys_4 S post n p0 (0 : Int32) (0 : Int32))
abbrev rm_Eq_firstKeys : Room := { frames := 1, cells := 0, slots := 0, locals := 21 }
set_option maxHeartbeats 4000000 in
set_option maxRecDepth 100000 in
theorem c_Eq_firstKeys (l : Launch) (D : va_G) (cI cZ cJ : ClassId) (a : Nat → Nat) (S : GS) (p0 : Int32) (post : Int32 → Prop) (hf : wp_Eq_firstKeys S p0 post) : Met l y_Eq_firstKeys ws_Eq_firstKeys rm_Eq_firstKeys (va_Pc [.ref (a 3), .int p0] (rPre D (tys cI cZ cJ) (gkW cI cZ cJ a S))) (vp_Si post) 0 0 (fun _ => False) := by
  refine gm_r (cc := b_Eq_firstKeys) (maxL := 4) (by decide) rfl (Nat.le_of_ble_eq_true rfl) ?_
  intro p e s m args below meth c ls hx hb hr hts hown hlk hml hK hP hl
  have hl : lv_has ls 4 [(0, .ref (a 3)), (1, .int p0)] := hl
  have hinEq : ∀ w ∈ u_ws R_Eq T_Eq 3, w ∈ ws_Eq_firstKeys := fun w h => List.mem_cons_of_mem _ (tl_Eq w h)
  have hl18 := hts _ (List.mem_cons_of_mem _ tf_Eq_18)
  unfold wp_Eq_firstKeys at hf
  refine lv_iconst (pc := 0) (v := 0) hx hb d_Eq_firstKeys_0 (by decide) ?_
  refine lv_istore_n (pc := 1) (lv' := [(2, .int (0 : Int32)), (0, .ref (a 3)), (1, .int p0)]) hx hb d_Eq_firstKeys_1 rfl hl (by decide) rfl (fun ls hl => ?_)
  refine lv_iconst (pc := 2) (v := 0) hx hb d_Eq_firstKeys_2 (by decide) ?_
  refine lv_istore_n (pc := 3) (lv' := [(3, .int (0 : Int32)), (2, .int (0 : Int32)), (0, .ref (a 3)), (1, .int p0)]) hx hb d_Eq_firstKeys_3 rfl hl (by decide) rfl (fun ls hl => ?_)
  obtain ⟨n, hf⟩ := hf
  have lp4 : ∀ (n : Nat) (x1 : Int32) (x2 : Int32) (x3 : Int32) (ls : Array Slot), lv_has ls 4 [(0, .ref (a 3)), (1, .int x1), (2, .int x2), (3, .int x3)] → L_Eq_firstKeys_4 S post n x1 x2 x3 → W p l e rm_Eq_firstKeys s m args below meth c s.heap [] 0 0 (MQ below (vp_Si post) args s 0 0 (fun _ => False)) (F0 m 4 ls []) := by
    intro n
    induction n with
    | zero => intro x1 x2 x3 ls hl hf; exact False.elim hf
    | succ n ih4 =>
      intro x1 x2 x3 ls hl hf
      unfold L_Eq_firstKeys_4 at hf
      refine lv_iload_n (pc := 4) hx hb d_Eq_firstKeys_4 rfl (lv_at hl 3 rfl) ?_
      refine lv_iload_n (pc := 5) hx hb d_Eq_firstKeys_5 rfl (lv_at hl 1 rfl) ?_
      refine lv_icmp_ge (pc := 6) (tgt := 33) hx hb d_Eq_firstKeys_6 (by decide) (fun hc => ?_) (fun hc => ?_)
      · replace hf := hf.1 hc
        refine lv_iload_n (pc := 33) hx hb d_Eq_firstKeys_33 rfl (lv_at hl 2 rfl) ?_
        exact rr_i (pc := 34) hx hb hr hlk hf d_Eq_firstKeys_34
      replace hf := hf.2 hc
      refine lv_iload_n (pc := 9) hx hb d_Eq_firstKeys_9 rfl (lv_at hl 3 rfl) ?_
      refine lv_aload_n (pc := 10) hx hb d_Eq_firstKeys_10 rfl (lv_at hl 0 rfl) ?_
      refine gk_gt_Eq_length (pc := 11) (v := (S.1 7 0)) hx hb hK hts hinEq hown hP hl18 rfl d_Eq_firstKeys_11 ?_
      refine lv_icmp_ge (pc := 14) (tgt := 33) hx hb d_Eq_firstKeys_14 (by decide) (fun hc => ?_) (fun hc => ?_)
      · replace hf := hf.1 hc
        refine lv_iload_n (pc := 33) hx hb d_Eq_firstKeys_33 rfl (lv_at hl 2 rfl) ?_
        exact rr_i (pc := 34) hx hb hr hlk hf d_Eq_firstKeys_34
      replace hf := hf.2 hc
      refine lv_iload_n (pc := 17) hx hb d_Eq_firstKeys_17 rfl (lv_at hl 2 rfl) ?_
      refine lv_iconst (pc := 18) (v := 1) hx hb d_Eq_firstKeys_18 (by decide) ?_
      refine lv_aload_n (pc := 19) hx hb d_Eq_firstKeys_19 rfl (lv_at hl 0 rfl) ?_
      refine lv_iload_n (pc := 20) hx hb d_Eq_firstKeys_20 rfl (lv_at hl 3 rfl) ?_
      refine vp_callSi (pc := 21) (W.runV (As := [.int x3]) (rest := [.int (1 : Int32), .int x2]) ⟨hx, hb, hml, hown, hts⟩ (c_Eq_keyAt l D cI cZ cJ a _ _ _ hf) (cwV 1 hts (tb_wsV tc_Eq_keyAt tm_Eq_32 ti_Eq_keyAt te_Eq_keyAt tz_Eq) rfl rfl rfl (by decide +kernel) ⟨Nat.le_of_ble_eq_true rfl, Nat.le_of_ble_eq_true rfl⟩) (r_preV (q0 := 3) (ci := 3) hK hP rfl rfl) rfl rfl hl.1 rfl (lv_room (Nat.le_of_ble_eq_true rfl)) d_Eq_firstKeys_21 ⟨Nat.zero_le _, Nat.zero_le _⟩) (fun r21 hf => ?_)
      refine lv_ishl (pc := 24) hx hb d_Eq_firstKeys_24 ?_
      refine lv_ior (pc := 25) hx hb d_Eq_firstKeys_25 ?_
      refine lv_istore_n (pc := 26) (lv' := [(2, .int (x2 ||| ((1 : Int32) <<< (r21 &&& 31)))), (0, .ref (a 3)), (1, .int x1), (3, .int x3)]) hx hb d_Eq_firstKeys_26 rfl hl (by decide) rfl (fun ls hl => ?_)
      refine lv_iinc (pc := 27) (k := 3) (v := (x3 + (1 : Int32))) (lv' := [(3, .int (x3 + (1 : Int32))), (2, .int (x2 ||| ((1 : Int32) <<< (r21 &&& 31)))), (0, .ref (a 3)), (1, .int x1)]) hx hb d_Eq_firstKeys_27 hl rfl rfl (by decide) rfl (fun ls hl => ?_)
      refine lv_goto (pc := 30) (tgt := 4) hx hb d_Eq_firstKeys_30 (by decide) ?_
      exact ih4 x1 (x2 ||| ((1 : Int32) <<< (r21 &&& 31))) (x3 + (1 : Int32)) _ (lv_sub hl [2, 3, 1, 0] rfl) hf
  exact lp4 n p0 (0 : Int32) (0 : Int32) _ (lv_sub hl [2, 3, 1, 0] rfl) hf
def L_Ch_canGrowFrom_2 (S : GS) (post : Int32 → Prop) : Nat → Int32 → Int32 → Prop
  | 0, _, _ => False
  | n + 1, x1, x2 => (((4 : Int32) ≤ x2 → (post (0 : Int32))) ∧ (¬ (4 : Int32) ≤ x2 → (vp_in x2 4 ∧ (((x1 &&& (((S.1 22) x2.toNatClampNeg) ^^^ (-1 : Int32))) = (0 : Int32) → (vp_in x2 4 ∧ ((((S.1 22) x2.toNatClampNeg) = x1 → (L_Ch_canGrowFrom_2 S post n x1 (x2 + (1 : Int32)))) ∧ (¬ ((S.1 22) x2.toNatClampNeg) = x1 → (post (1 : Int32)))))) ∧ (¬ (x1 &&& (((S.1 22) x2.toNatClampNeg) ^^^ (-1 : Int32))) = (0 : Int32) → (L_Ch_canGrowFrom_2 S post n x1 (x2 + (1 : Int32))))))))
def wp_Ch_canGrowFrom (S : GS) (p0 : Int32) (post : Int32 → Prop) : Prop := (∃ n, L_Ch_canGrowFrom_2 S post n p0 (0 : Int32))
abbrev rm_Ch_canGrowFrom : Room := { frames := 0, cells := 0, slots := 0, locals := 0 }
set_option maxHeartbeats 4000000 in
set_option maxRecDepth 100000 in
theorem c_Ch_canGrowFrom (l : Launch) (D : va_G) (cI cZ cJ : ClassId) (a : Nat → Nat) (S : GS) (p0 : Int32) (post : Int32 → Prop) (hf : wp_Ch_canGrowFrom S p0 post) : Met l y_Ch_canGrowFrom ws_Ch_canGrowFrom rm_Ch_canGrowFrom (va_Pc [.ref (a 5), .int p0] (rPre D (tys cI cZ cJ) (gkW cI cZ cJ a S))) (vp_Si post) 0 0 (fun _ => False) := by
  refine gm_r (cc := b_Ch_canGrowFrom) (maxL := 3) (by decide) rfl (Nat.le_of_ble_eq_true rfl) ?_
  intro p e s m args below meth c ls hx hb hr hts hown hlk hml hK hP hl
  have hl : lv_has ls 3 [(0, .ref (a 5)), (1, .int p0)] := hl
  have hinCh : ∀ w ∈ u_ws R_Ch T_Ch 2, w ∈ ws_Ch_canGrowFrom := fun w h => List.mem_cons_of_mem _ (tl_Ch w h)
  have hl9 := hts _ (List.mem_cons_of_mem _ tf_Ch_9)
  unfold wp_Ch_canGrowFrom at hf
  refine lv_iconst (pc := 0) (v := 0) hx hb d_Ch_canGrowFrom_0 (by decide) ?_
  refine lv_istore_n (pc := 1) (lv' := [(2, .int (0 : Int32)), (0, .ref (a 5)), (1, .int p0)]) hx hb d_Ch_canGrowFrom_1 rfl hl (by decide) rfl (fun ls hl => ?_)
  obtain ⟨n, hf⟩ := hf
  have lp2 : ∀ (n : Nat) (x1 : Int32) (x2 : Int32) (ls : Array Slot), lv_has ls 3 [(0, .ref (a 5)), (1, .int x1), (2, .int x2)] → L_Ch_canGrowFrom_2 S post n x1 x2 → W p l e rm_Ch_canGrowFrom s m args below meth c s.heap [] 0 0 (MQ below (vp_Si post) args s 0 0 (fun _ => False)) (F0 m 2 ls []) := by
    intro n
    induction n with
    | zero => intro x1 x2 ls hl hf; exact False.elim hf
    | succ n ih2 =>
      intro x1 x2 ls hl hf
      unfold L_Ch_canGrowFrom_2 at hf
      refine lv_iload_n (pc := 2) hx hb d_Ch_canGrowFrom_2 rfl (lv_at hl 2 rfl) ?_
      refine lv_iconst (pc := 3) (v := 4) hx hb d_Ch_canGrowFrom_3 (by decide) ?_
      refine lv_icmp_ge (pc := 4) (tgt := 38) hx hb d_Ch_canGrowFrom_4 (by decide) (fun hc => ?_) (fun hc => ?_)
      · replace hf := hf.1 hc
        refine lv_iconst (pc := 38) (v := 0) hx hb d_Ch_canGrowFrom_38 (by decide) ?_
        exact rr_z (pc := 39) hx hb hr hlk (by decide) hf d_Ch_canGrowFrom_39
      replace hf := hf.2 hc
      refine lv_iload_n (pc := 7) hx hb d_Ch_canGrowFrom_7 rfl (lv_at hl 1 rfl) ?_
      refine lv_aload_n (pc := 8) hx hb d_Ch_canGrowFrom_8 rfl (lv_at hl 0 rfl) ?_
      refine gk_gt_Ch_keys (pc := 9) hx hb hK hts hinCh hown hP hl9 d_Ch_canGrowFrom_9 ?_
      refine lv_iload_n (pc := 12) hx hb d_Ch_canGrowFrom_12 rfl (lv_at hl 2 rfl) ?_
      refine gk_ld18 (pc := 13) (v := ((S.1 22) x2.toNatClampNeg)) hx hb hK hP hf.1 rfl d_Ch_canGrowFrom_13 ?_
      replace hf := hf.2
      refine lv_iconst (pc := 14) (v := -1) hx hb d_Ch_canGrowFrom_14 (by decide) ?_
      refine lv_ixor (pc := 15) hx hb d_Ch_canGrowFrom_15 ?_
      refine lv_iand (pc := 16) hx hb d_Ch_canGrowFrom_16 ?_
      refine lv_if_ne (pc := 17) (tgt := 32) hx hb d_Ch_canGrowFrom_17 (by decide) (fun hc => ?_) (fun hc => ?_)
      · replace hf := hf.2 hc
        refine lv_iinc (pc := 32) (k := 2) (v := (x2 + (1 : Int32))) (lv' := [(2, .int (x2 + (1 : Int32))), (0, .ref (a 5)), (1, .int x1)]) hx hb d_Ch_canGrowFrom_32 hl rfl rfl (by decide) rfl (fun ls hl => ?_)
        refine lv_goto (pc := 35) (tgt := 2) hx hb d_Ch_canGrowFrom_35 (by decide) ?_
        exact ih2 x1 (x2 + (1 : Int32)) _ (lv_sub hl [1, 2, 0] rfl) hf
      replace hf := hf.1 hc
      refine lv_aload_n (pc := 20) hx hb d_Ch_canGrowFrom_20 rfl (lv_at hl 0 rfl) ?_
      refine gk_gt_Ch_keys (pc := 21) hx hb hK hts hinCh hown hP hl9 d_Ch_canGrowFrom_21 ?_
      refine lv_iload_n (pc := 24) hx hb d_Ch_canGrowFrom_24 rfl (lv_at hl 2 rfl) ?_
      refine gk_ld18 (pc := 25) (v := ((S.1 22) x2.toNatClampNeg)) hx hb hK hP hf.1 rfl d_Ch_canGrowFrom_25 ?_
      replace hf := hf.2
      refine lv_iload_n (pc := 26) hx hb d_Ch_canGrowFrom_26 rfl (lv_at hl 1 rfl) ?_
      refine lv_icmp_eq (pc := 27) (tgt := 32) hx hb d_Ch_canGrowFrom_27 (by decide) (fun hc => ?_) (fun hc => ?_)
      · replace hf := hf.1 hc
        refine lv_iinc (pc := 32) (k := 2) (v := (x2 + (1 : Int32))) (lv' := [(2, .int (x2 + (1 : Int32))), (0, .ref (a 5)), (1, .int x1)]) hx hb d_Ch_canGrowFrom_32 hl rfl rfl (by decide) rfl (fun ls hl => ?_)
        refine lv_goto (pc := 35) (tgt := 2) hx hb d_Ch_canGrowFrom_35 (by decide) ?_
        exact ih2 x1 (x2 + (1 : Int32)) _ (lv_sub hl [1, 2, 0] rfl) hf
      replace hf := hf.2 hc
      refine lv_iconst (pc := 30) (v := 1) hx hb d_Ch_canGrowFrom_30 (by decide) ?_
      exact rr_z (pc := 31) hx hb hr hlk (by decide) hf d_Ch_canGrowFrom_31
  exact lp2 n p0 (0 : Int32) _ (lv_sub hl [1, 2, 0] rfl) hf
def wp_Ji_bitCount (p0 : Int32) (post : Int32 → Prop) : Prop := (post ((((((((p0 - ((p0.toUInt32 >>> ((1 : Int32).toUInt32 &&& Int32.toUInt32 31)).toInt32 &&& (1431655765 : Int32))) &&& (858993459 : Int32)) + (((p0 - ((p0.toUInt32 >>> ((1 : Int32).toUInt32 &&& Int32.toUInt32 31)).toInt32 &&& (1431655765 : Int32))).toUInt32 >>> ((2 : Int32).toUInt32 &&& Int32.toUInt32 31)).toInt32 &&& (858993459 : Int32))) + ((((p0 - ((p0.toUInt32 >>> ((1 : Int32).toUInt32 &&& Int32.toUInt32 31)).toInt32 &&& (1431655765 : Int32))) &&& (858993459 : Int32)) + (((p0 - ((p0.toUInt32 >>> ((1 : Int32).toUInt32 &&& Int32.toUInt32 31)).toInt32 &&& (1431655765 : Int32))).toUInt32 >>> ((2 : Int32).toUInt32 &&& Int32.toUInt32 31)).toInt32 &&& (858993459 : Int32))).toUInt32 >>> ((4 : Int32).toUInt32 &&& Int32.toUInt32 31)).toInt32) &&& (252645135 : Int32)) + ((((((p0 - ((p0.toUInt32 >>> ((1 : Int32).toUInt32 &&& Int32.toUInt32 31)).toInt32 &&& (1431655765 : Int32))) &&& (858993459 : Int32)) + (((p0 - ((p0.toUInt32 >>> ((1 : Int32).toUInt32 &&& Int32.toUInt32 31)).toInt32 &&& (1431655765 : Int32))).toUInt32 >>> ((2 : Int32).toUInt32 &&& Int32.toUInt32 31)).toInt32 &&& (858993459 : Int32))) + ((((p0 - ((p0.toUInt32 >>> ((1 : Int32).toUInt32 &&& Int32.toUInt32 31)).toInt32 &&& (1431655765 : Int32))) &&& (858993459 : Int32)) + (((p0 - ((p0.toUInt32 >>> ((1 : Int32).toUInt32 &&& Int32.toUInt32 31)).toInt32 &&& (1431655765 : Int32))).toUInt32 >>> ((2 : Int32).toUInt32 &&& Int32.toUInt32 31)).toInt32 &&& (858993459 : Int32))).toUInt32 >>> ((4 : Int32).toUInt32 &&& Int32.toUInt32 31)).toInt32) &&& (252645135 : Int32)).toUInt32 >>> ((8 : Int32).toUInt32 &&& Int32.toUInt32 31)).toInt32) + (((((((p0 - ((p0.toUInt32 >>> ((1 : Int32).toUInt32 &&& Int32.toUInt32 31)).toInt32 &&& (1431655765 : Int32))) &&& (858993459 : Int32)) + (((p0 - ((p0.toUInt32 >>> ((1 : Int32).toUInt32 &&& Int32.toUInt32 31)).toInt32 &&& (1431655765 : Int32))).toUInt32 >>> ((2 : Int32).toUInt32 &&& Int32.toUInt32 31)).toInt32 &&& (858993459 : Int32))) + ((((p0 - ((p0.toUInt32 >>> ((1 : Int32).toUInt32 &&& Int32.toUInt32 31)).toInt32 &&& (1431655765 : Int32))) &&& (858993459 : Int32)) + (((p0 - ((p0.toUInt32 >>> ((1 : Int32).toUInt32 &&& Int32.toUInt32 31)).toInt32 &&& (1431655765 : Int32))).toUInt32 >>> ((2 : Int32).toUInt32 &&& Int32.toUInt32 31)).toInt32 &&& (858993459 : Int32))).toUInt32 >>> ((4 : Int32).toUInt32 &&& Int32.toUInt32 31)).toInt32) &&& (252645135 : Int32)) + ((((((p0 - ((p0.toUInt32 >>> ((1 : Int32).toUInt32 &&& Int32.toUInt32 31)).toInt32 &&& (1431655765 : Int32))) &&& (858993459 : Int32)) + (((p0 - ((p0.toUInt32 >>> ((1 : Int32).toUInt32 &&& Int32.toUInt32 31)).toInt32 &&& (1431655765 : Int32))).toUInt32 >>> ((2 : Int32).toUInt32 &&& Int32.toUInt32 31)).toInt32 &&& (858993459 : Int32))) + ((((p0 - ((p0.toUInt32 >>> ((1 : Int32).toUInt32 &&& Int32.toUInt32 31)).toInt32 &&& (1431655765 : Int32))) &&& (858993459 : Int32)) + (((p0 - ((p0.toUInt32 >>> ((1 : Int32).toUInt32 &&& Int32.toUInt32 31)).toInt32 &&& (1431655765 : Int32))).toUInt32 >>> ((2 : Int32).toUInt32 &&& Int32.toUInt32 31)).toInt32 &&& (858993459 : Int32))).toUInt32 >>> ((4 : Int32).toUInt32 &&& Int32.toUInt32 31)).toInt32) &&& (252645135 : Int32)).toUInt32 >>> ((8 : Int32).toUInt32 &&& Int32.toUInt32 31)).toInt32).toUInt32 >>> ((16 : Int32).toUInt32 &&& Int32.toUInt32 31)).toInt32) &&& (63 : Int32)))
abbrev rm_Ji_bitCount : Room := { frames := 0, cells := 0, slots := 0, locals := 0 }
set_option maxHeartbeats 4000000 in
set_option maxRecDepth 100000 in
theorem c_Ji_bitCount (l : Launch) (p0 : Int32) (post : Int32 → Prop) (hf : wp_Ji_bitCount p0 post) : Met l y_Ji_bitCount ws_Ji_bitCount rm_Ji_bitCount (va_Pc [.int p0] (fun _ => True)) (vp_Si post) 0 0 (fun _ => False) := by
  refine gm_p (cc := b_Ji_bitCount) (maxL := 1) (by decide) rfl (Nat.le_of_ble_eq_true rfl) ?_
  intro p e s m args below meth c ls hx hb hr hts hown hlk hml hl
  have hl : lv_has ls 1 [(0, .int p0)] := hl
  unfold wp_Ji_bitCount at hf
  refine lv_iload_n (pc := 0) hx hb d_Ji_bitCount_0 rfl (lv_at hl 0 rfl) ?_
  refine lv_iload_n (pc := 1) hx hb d_Ji_bitCount_1 rfl (lv_at hl 0 rfl) ?_
  refine lv_iconst (pc := 2) (v := 1) hx hb d_Ji_bitCount_2 (by decide) ?_
  refine lv_iushr (pc := 3) hx hb d_Ji_bitCount_3 rfl ?_
  refine lv_ldcw (pc := 4) hx hb hown (hts _ (List.mem_cons_of_mem _ tk_Ji_265)) d_Ji_bitCount_4 ?_
  refine lv_iand (pc := 7) hx hb d_Ji_bitCount_7 ?_
  refine lv_isub (pc := 8) hx hb d_Ji_bitCount_8 ?_
  refine lv_istore_n (pc := 9) (lv' := [(0, .int (p0 - ((p0.toUInt32 >>> ((1 : Int32).toUInt32 &&& Int32.toUInt32 31)).toInt32 &&& (1431655765 : Int32))))]) hx hb d_Ji_bitCount_9 rfl hl (by decide) rfl (fun ls hl => ?_)
  refine lv_iload_n (pc := 10) hx hb d_Ji_bitCount_10 rfl (lv_at hl 0 rfl) ?_
  refine lv_ldcw (pc := 11) hx hb hown (hts _ (List.mem_cons_of_mem _ tk_Ji_266)) d_Ji_bitCount_11 ?_
  refine lv_iand (pc := 14) hx hb d_Ji_bitCount_14 ?_
  refine lv_iload_n (pc := 15) hx hb d_Ji_bitCount_15 rfl (lv_at hl 0 rfl) ?_
  refine lv_iconst (pc := 16) (v := 2) hx hb d_Ji_bitCount_16 (by decide) ?_
  refine lv_iushr (pc := 17) hx hb d_Ji_bitCount_17 rfl ?_
  refine lv_ldcw (pc := 18) hx hb hown (hts _ (List.mem_cons_of_mem _ tk_Ji_266)) d_Ji_bitCount_18 ?_
  refine lv_iand (pc := 21) hx hb d_Ji_bitCount_21 ?_
  refine lv_iadd (pc := 22) hx hb d_Ji_bitCount_22 ?_
  refine lv_istore_n (pc := 23) (lv' := [(0, .int (((p0 - ((p0.toUInt32 >>> ((1 : Int32).toUInt32 &&& Int32.toUInt32 31)).toInt32 &&& (1431655765 : Int32))) &&& (858993459 : Int32)) + (((p0 - ((p0.toUInt32 >>> ((1 : Int32).toUInt32 &&& Int32.toUInt32 31)).toInt32 &&& (1431655765 : Int32))).toUInt32 >>> ((2 : Int32).toUInt32 &&& Int32.toUInt32 31)).toInt32 &&& (858993459 : Int32))))]) hx hb d_Ji_bitCount_23 rfl hl (by decide) rfl (fun ls hl => ?_)
  refine lv_iload_n (pc := 24) hx hb d_Ji_bitCount_24 rfl (lv_at hl 0 rfl) ?_
  refine lv_iload_n (pc := 25) hx hb d_Ji_bitCount_25 rfl (lv_at hl 0 rfl) ?_
  refine lv_iconst (pc := 26) (v := 4) hx hb d_Ji_bitCount_26 (by decide) ?_
  refine lv_iushr (pc := 27) hx hb d_Ji_bitCount_27 rfl ?_
  refine lv_iadd (pc := 28) hx hb d_Ji_bitCount_28 ?_
  refine lv_ldcw (pc := 29) hx hb hown (hts _ (List.mem_cons_of_mem _ tk_Ji_267)) d_Ji_bitCount_29 ?_
  refine lv_iand (pc := 32) hx hb d_Ji_bitCount_32 ?_
  refine lv_istore_n (pc := 33) (lv' := [(0, .int (((((p0 - ((p0.toUInt32 >>> ((1 : Int32).toUInt32 &&& Int32.toUInt32 31)).toInt32 &&& (1431655765 : Int32))) &&& (858993459 : Int32)) + (((p0 - ((p0.toUInt32 >>> ((1 : Int32).toUInt32 &&& Int32.toUInt32 31)).toInt32 &&& (1431655765 : Int32))).toUInt32 >>> ((2 : Int32).toUInt32 &&& Int32.toUInt32 31)).toInt32 &&& (858993459 : Int32))) + ((((p0 - ((p0.toUInt32 >>> ((1 : Int32).toUInt32 &&& Int32.toUInt32 31)).toInt32 &&& (1431655765 : Int32))) &&& (858993459 : Int32)) + (((p0 - ((p0.toUInt32 >>> ((1 : Int32).toUInt32 &&& Int32.toUInt32 31)).toInt32 &&& (1431655765 : Int32))).toUInt32 >>> ((2 : Int32).toUInt32 &&& Int32.toUInt32 31)).toInt32 &&& (858993459 : Int32))).toUInt32 >>> ((4 : Int32).toUInt32 &&& Int32.toUInt32 31)).toInt32) &&& (252645135 : Int32)))]) hx hb d_Ji_bitCount_33 rfl hl (by decide) rfl (fun ls hl => ?_)
  refine lv_iload_n (pc := 34) hx hb d_Ji_bitCount_34 rfl (lv_at hl 0 rfl) ?_
  refine lv_iload_n (pc := 35) hx hb d_Ji_bitCount_35 rfl (lv_at hl 0 rfl) ?_
  refine lv_bipush (pc := 36) (v := 8) hx hb d_Ji_bitCount_36 (by decide) ?_
  refine lv_iushr (pc := 38) hx hb d_Ji_bitCount_38 rfl ?_
  refine lv_iadd (pc := 39) hx hb d_Ji_bitCount_39 ?_
  refine lv_istore_n (pc := 40) (lv' := [(0, .int ((((((p0 - ((p0.toUInt32 >>> ((1 : Int32).toUInt32 &&& Int32.toUInt32 31)).toInt32 &&& (1431655765 : Int32))) &&& (858993459 : Int32)) + (((p0 - ((p0.toUInt32 >>> ((1 : Int32).toUInt32 &&& Int32.toUInt32 31)).toInt32 &&& (1431655765 : Int32))).toUInt32 >>> ((2 : Int32).toUInt32 &&& Int32.toUInt32 31)).toInt32 &&& (858993459 : Int32))) + ((((p0 - ((p0.toUInt32 >>> ((1 : Int32).toUInt32 &&& Int32.toUInt32 31)).toInt32 &&& (1431655765 : Int32))) &&& (858993459 : Int32)) + (((p0 - ((p0.toUInt32 >>> ((1 : Int32).toUInt32 &&& Int32.toUInt32 31)).toInt32 &&& (1431655765 : Int32))).toUInt32 >>> ((2 : Int32).toUInt32 &&& Int32.toUInt32 31)).toInt32 &&& (858993459 : Int32))).toUInt32 >>> ((4 : Int32).toUInt32 &&& Int32.toUInt32 31)).toInt32) &&& (252645135 : Int32)) + ((((((p0 - ((p0.toUInt32 >>> ((1 : Int32).toUInt32 &&& Int32.toUInt32 31)).toInt32 &&& (1431655765 : Int32))) &&& (858993459 : Int32)) + (((p0 - ((p0.toUInt32 >>> ((1 : Int32).toUInt32 &&& Int32.toUInt32 31)).toInt32 &&& (1431655765 : Int32))).toUInt32 >>> ((2 : Int32).toUInt32 &&& Int32.toUInt32 31)).toInt32 &&& (858993459 : Int32))) + ((((p0 - ((p0.toUInt32 >>> ((1 : Int32).toUInt32 &&& Int32.toUInt32 31)).toInt32 &&& (1431655765 : Int32))) &&& (858993459 : Int32)) + (((p0 - ((p0.toUInt32 >>> ((1 : Int32).toUInt32 &&& Int32.toUInt32 31)).toInt32 &&& (1431655765 : Int32))).toUInt32 >>> ((2 : Int32).toUInt32 &&& Int32.toUInt32 31)).toInt32 &&& (858993459 : Int32))).toUInt32 >>> ((4 : Int32).toUInt32 &&& Int32.toUInt32 31)).toInt32) &&& (252645135 : Int32)).toUInt32 >>> ((8 : Int32).toUInt32 &&& Int32.toUInt32 31)).toInt32))]) hx hb d_Ji_bitCount_40 rfl hl (by decide) rfl (fun ls hl => ?_)
  refine lv_iload_n (pc := 41) hx hb d_Ji_bitCount_41 rfl (lv_at hl 0 rfl) ?_
  refine lv_iload_n (pc := 42) hx hb d_Ji_bitCount_42 rfl (lv_at hl 0 rfl) ?_
  refine lv_bipush (pc := 43) (v := 16) hx hb d_Ji_bitCount_43 (by decide) ?_
  refine lv_iushr (pc := 45) hx hb d_Ji_bitCount_45 rfl ?_
  refine lv_iadd (pc := 46) hx hb d_Ji_bitCount_46 ?_
  refine lv_istore_n (pc := 47) (lv' := [(0, .int (((((((p0 - ((p0.toUInt32 >>> ((1 : Int32).toUInt32 &&& Int32.toUInt32 31)).toInt32 &&& (1431655765 : Int32))) &&& (858993459 : Int32)) + (((p0 - ((p0.toUInt32 >>> ((1 : Int32).toUInt32 &&& Int32.toUInt32 31)).toInt32 &&& (1431655765 : Int32))).toUInt32 >>> ((2 : Int32).toUInt32 &&& Int32.toUInt32 31)).toInt32 &&& (858993459 : Int32))) + ((((p0 - ((p0.toUInt32 >>> ((1 : Int32).toUInt32 &&& Int32.toUInt32 31)).toInt32 &&& (1431655765 : Int32))) &&& (858993459 : Int32)) + (((p0 - ((p0.toUInt32 >>> ((1 : Int32).toUInt32 &&& Int32.toUInt32 31)).toInt32 &&& (1431655765 : Int32))).toUInt32 >>> ((2 : Int32).toUInt32 &&& Int32.toUInt32 31)).toInt32 &&& (858993459 : Int32))).toUInt32 >>> ((4 : Int32).toUInt32 &&& Int32.toUInt32 31)).toInt32) &&& (252645135 : Int32)) + ((((((p0 - ((p0.toUInt32 >>> ((1 : Int32).toUInt32 &&& Int32.toUInt32 31)).toInt32 &&& (1431655765 : Int32))) &&& (858993459 : Int32)) + (((p0 - ((p0.toUInt32 >>> ((1 : Int32).toUInt32 &&& Int32.toUInt32 31)).toInt32 &&& (1431655765 : Int32))).toUInt32 >>> ((2 : Int32).toUInt32 &&& Int32.toUInt32 31)).toInt32 &&& (858993459 : Int32))) + ((((p0 - ((p0.toUInt32 >>> ((1 : Int32).toUInt32 &&& Int32.toUInt32 31)).toInt32 &&& (1431655765 : Int32))) &&& (858993459 : Int32)) + (((p0 - ((p0.toUInt32 >>> ((1 : Int32).toUInt32 &&& Int32.toUInt32 31)).toInt32 &&& (1431655765 : Int32))).toUInt32 >>> ((2 : Int32).toUInt32 &&& Int32.toUInt32 31)).toInt32 &&& (858993459 : Int32))).toUInt32 >>> ((4 : Int32).toUInt32 &&& Int32.toUInt32 31)).toInt32) &&& (252645135 : Int32)).toUInt32 >>> ((8 : Int32).toUInt32 &&& Int32.toUInt32 31)).toInt32) + (((((((p0 - ((p0.toUInt32 >>> ((1 : Int32).toUInt32 &&& Int32.toUInt32 31)).toInt32 &&& (1431655765 : Int32))) &&& (858993459 : Int32)) + (((p0 - ((p0.toUInt32 >>> ((1 : Int32).toUInt32 &&& Int32.toUInt32 31)).toInt32 &&& (1431655765 : Int32))).toUInt32 >>> ((2 : Int32).toUInt32 &&& Int32.toUInt32 31)).toInt32 &&& (858993459 : Int32))) + ((((p0 - ((p0.toUInt32 >>> ((1 : Int32).toUInt32 &&& Int32.toUInt32 31)).toInt32 &&& (1431655765 : Int32))) &&& (858993459 : Int32)) + (((p0 - ((p0.toUInt32 >>> ((1 : Int32).toUInt32 &&& Int32.toUInt32 31)).toInt32 &&& (1431655765 : Int32))).toUInt32 >>> ((2 : Int32).toUInt32 &&& Int32.toUInt32 31)).toInt32 &&& (858993459 : Int32))).toUInt32 >>> ((4 : Int32).toUInt32 &&& Int32.toUInt32 31)).toInt32) &&& (252645135 : Int32)) + ((((((p0 - ((p0.toUInt32 >>> ((1 : Int32).toUInt32 &&& Int32.toUInt32 31)).toInt32 &&& (1431655765 : Int32))) &&& (858993459 : Int32)) + (((p0 - ((p0.toUInt32 >>> ((1 : Int32).toUInt32 &&& Int32.toUInt32 31)).toInt32 &&& (1431655765 : Int32))).toUInt32 >>> ((2 : Int32).toUInt32 &&& Int32.toUInt32 31)).toInt32 &&& (858993459 : Int32))) + ((((p0 - ((p0.toUInt32 >>> ((1 : Int32).toUInt32 &&& Int32.toUInt32 31)).toInt32 &&& (1431655765 : Int32))) &&& (858993459 : Int32)) + (((p0 - ((p0.toUInt32 >>> ((1 : Int32).toUInt32 &&& Int32.toUInt32 31)).toInt32 &&& (1431655765 : Int32))).toUInt32 >>> ((2 : Int32).toUInt32 &&& Int32.toUInt32 31)).toInt32 &&& (858993459 : Int32))).toUInt32 >>> ((4 : Int32).toUInt32 &&& Int32.toUInt32 31)).toInt32) &&& (252645135 : Int32)).toUInt32 >>> ((8 : Int32).toUInt32 &&& Int32.toUInt32 31)).toInt32).toUInt32 >>> ((16 : Int32).toUInt32 &&& Int32.toUInt32 31)).toInt32))]) hx hb d_Ji_bitCount_47 rfl hl (by decide) rfl (fun ls hl => ?_)
  refine lv_iload_n (pc := 48) hx hb d_Ji_bitCount_48 rfl (lv_at hl 0 rfl) ?_
  refine lv_bipush (pc := 49) (v := 63) hx hb d_Ji_bitCount_49 (by decide) ?_
  refine lv_iand (pc := 51) hx hb d_Ji_bitCount_51 ?_
  exact rr_i (pc := 52) hx hb hr hlk hf d_Ji_bitCount_52
def L_Ch_longestAtStart_8 (S : GS) (post : Int32 → Prop) : Nat → Int32 → Int32 → Int32 → Int32 → Prop
  | 0, _, _, _, _ => False
  | n + 1, x2, x3, x4, x5 => (((4 : Int32) ≤ x5 → (post x3)) ∧ (¬ (4 : Int32) ≤ x5 → (vp_in x5 4 ∧ (wp_Ji_bitCount ((S.1 22) x5.toNatClampNeg) (fun r21 => ((r21 ≤ x4 → (L_Ch_longestAtStart_8 S post n x2 x3 x4 (x5 + (1 : Int32)))) ∧ (¬ r21 ≤ x4 → ((x2 < r21 → (L_Ch_longestAtStart_8 S post n x2 x3 x4 (x5 + (1 : Int32)))) ∧ (¬ x2 < r21 → (wp_Eq_firstKeys S r21 (fun r42 => (vp_in x5 4 ∧ ((r42 = ((S.1 22) x5.toNatClampNeg) → (L_Ch_longestAtStart_8 S post n x2 x5 r21 (x5 + (1 : Int32)))) ∧ (¬ r42 = ((S.1 22) x5.toNatClampNeg) → (L_Ch_longestAtStart_8 S post n x2 x3 x4 (x5 + (1 : Int32)))))))))))))))))
def wp_Ch_longestAtStart (S : GS) (p1 : Int32) (post : Int32 → Prop) : Prop := (∃ n, L_Ch_longestAtStart_8 S post n p1 (-1 : Int32) (0 : Int32) (0 : Int32))
abbrev rm_Ch_longestAtStart : Room := { frames := 2, cells := 0, slots := 0, locals := 44 }
set_option maxHeartbeats 4000000 in
set_option maxRecDepth 100000 in
theorem c_Ch_longestAtStart (l : Launch) (D : va_G) (cI cZ cJ : ClassId) (a : Nat → Nat) (S : GS) (p1 : Int32) (post : Int32 → Prop) (hf : wp_Ch_longestAtStart S p1 post) : Met l y_Ch_longestAtStart ws_Ch_longestAtStart rm_Ch_longestAtStart (va_Pc [.ref (a 5), .ref (a 3), .int p1] (rPre D (tys cI cZ cJ) (gkW cI cZ cJ a S))) (vp_Si post) 0 0 (fun _ => False) := by
  refine gm_r (cc := b_Ch_longestAtStart) (maxL := 7) (by decide) rfl (Nat.le_of_ble_eq_true rfl) ?_
  intro p e s m args below meth c ls hx hb hr hts hown hlk hml hK hP hl
  have hl : lv_has ls 7 [(0, .ref (a 5)), (1, .ref (a 3)), (2, .int p1)] := hl
  have hinCh : ∀ w ∈ u_ws R_Ch T_Ch 2, w ∈ ws_Ch_longestAtStart := fun w h => List.mem_cons_of_mem _ (tl_Ch w h)
  have hl9 := hts _ (List.mem_cons_of_mem _ tf_Ch_9)
  unfold wp_Ch_longestAtStart at hf
  refine lv_iconst (pc := 0) (v := -1) hx hb d_Ch_longestAtStart_0 (by decide) ?_
  refine lv_istore_n (pc := 1) (lv' := [(3, .int (-1 : Int32)), (0, .ref (a 5)), (1, .ref (a 3)), (2, .int p1)]) hx hb d_Ch_longestAtStart_1 rfl hl (by decide) rfl (fun ls hl => ?_)
  refine lv_iconst (pc := 2) (v := 0) hx hb d_Ch_longestAtStart_2 (by decide) ?_
  refine lv_istore (pc := 3) (lv' := [(4, .int (0 : Int32)), (3, .int (-1 : Int32)), (0, .ref (a 5)), (1, .ref (a 3)), (2, .int p1)]) hx hb d_Ch_longestAtStart_3 hl (by decide) rfl (fun ls hl => ?_)
  refine lv_iconst (pc := 5) (v := 0) hx hb d_Ch_longestAtStart_5 (by decide) ?_
  refine lv_istore (pc := 6) (lv' := [(5, .int (0 : Int32)), (4, .int (0 : Int32)), (3, .int (-1 : Int32)), (0, .ref (a 5)), (1, .ref (a 3)), (2, .int p1)]) hx hb d_Ch_longestAtStart_6 hl (by decide) rfl (fun ls hl => ?_)
  obtain ⟨n, hf⟩ := hf
  have lp8 : ∀ (n : Nat) (x2 : Int32) (x3 : Int32) (x4 : Int32) (x5 : Int32) (ls : Array Slot), lv_has ls 7 [(0, .ref (a 5)), (1, .ref (a 3)), (2, .int x2), (3, .int x3), (4, .int x4), (5, .int x5)] → L_Ch_longestAtStart_8 S post n x2 x3 x4 x5 → W p l e rm_Ch_longestAtStart s m args below meth c s.heap [] 0 0 (MQ below (vp_Si post) args s 0 0 (fun _ => False)) (F0 m 8 ls []) := by
    intro n
    induction n with
    | zero => intro x2 x3 x4 x5 ls hl hf; exact False.elim hf
    | succ n ih8 =>
      intro x2 x3 x4 x5 ls hl hf
      unfold L_Ch_longestAtStart_8 at hf
      refine lv_iload (pc := 8) hx hb d_Ch_longestAtStart_8 (lv_at hl 5 rfl) ?_
      refine lv_iconst (pc := 10) (v := 4) hx hb d_Ch_longestAtStart_10 (by decide) ?_
      refine lv_icmp_ge (pc := 11) (tgt := 68) hx hb d_Ch_longestAtStart_11 (by decide) (fun hc => ?_) (fun hc => ?_)
      · replace hf := hf.1 hc
        refine lv_iload_n (pc := 68) hx hb d_Ch_longestAtStart_68 rfl (lv_at hl 3 rfl) ?_
        exact rr_i (pc := 69) hx hb hr hlk hf d_Ch_longestAtStart_69
      replace hf := hf.2 hc
      refine lv_aload_n (pc := 14) hx hb d_Ch_longestAtStart_14 rfl (lv_at hl 0 rfl) ?_
      refine gk_gt_Ch_keys (pc := 15) hx hb hK hts hinCh hown hP hl9 d_Ch_longestAtStart_15 ?_
      refine lv_iload (pc := 18) hx hb d_Ch_longestAtStart_18 (lv_at hl 5 rfl) ?_
      refine gk_ld18 (pc := 20) (v := ((S.1 22) x5.toNatClampNeg)) hx hb hK hP hf.1 rfl d_Ch_longestAtStart_20 ?_
      replace hf := hf.2
      refine vp_callSi (pc := 21) (W.runS (As := [.int ((S.1 22) x5.toNatClampNeg)]) (rest := []) ⟨hx, hb, hml, hown, hts⟩ (c_Ji_bitCount l _ _ hf) (va_cwS 1 hts (tb_vaS tc_Ji_bitCount tm_Ch_18 ts_Ji_bitCount tz_Ji) rfl rfl rfl (by decide +kernel) ⟨Nat.le_of_ble_eq_true rfl, Nat.le_of_ble_eq_true rfl⟩) p_preS rfl rfl hl.1 rfl (lv_room (Nat.le_of_ble_eq_true rfl)) d_Ch_longestAtStart_21 ⟨Nat.zero_le _, Nat.zero_le _⟩) (fun r21 hf => ?_)
      refine lv_istore (pc := 24) (lv' := [(6, .int r21), (0, .ref (a 5)), (1, .ref (a 3)), (2, .int x2), (3, .int x3), (4, .int x4), (5, .int x5)]) hx hb d_Ch_longestAtStart_24 hl (by decide) rfl (fun ls hl => ?_)
      refine lv_iload (pc := 26) hx hb d_Ch_longestAtStart_26 (lv_at hl 0 rfl) ?_
      refine lv_iload (pc := 28) hx hb d_Ch_longestAtStart_28 (lv_at hl 5 rfl) ?_
      refine lv_icmp_le (pc := 30) (tgt := 62) hx hb d_Ch_longestAtStart_30 (by decide) (fun hc => ?_) (fun hc => ?_)
      · replace hf := hf.1 hc
        refine lv_iinc (pc := 62) (k := 6) (v := (x5 + (1 : Int32))) (lv' := [(5, .int (x5 + (1 : Int32))), (6, .int r21), (0, .ref (a 5)), (1, .ref (a 3)), (2, .int x2), (3, .int x3), (4, .int x4)]) hx hb d_Ch_longestAtStart_62 hl rfl rfl (by decide) rfl (fun ls hl => ?_)
        refine lv_goto (pc := 65) (tgt := 8) hx hb d_Ch_longestAtStart_65 (by decide) ?_
        exact ih8 x2 x3 x4 (x5 + (1 : Int32)) _ (lv_sub hl [2, 3, 4, 5, 6, 0] rfl) hf
      replace hf := hf.2 hc
      refine lv_iload (pc := 33) hx hb d_Ch_longestAtStart_33 (lv_at hl 0 rfl) ?_
      refine lv_iload_n (pc := 35) hx hb d_Ch_longestAtStart_35 rfl (lv_at hl 3 rfl) ?_
      refine lv_icmp_gt (pc := 36) (tgt := 62) hx hb d_Ch_longestAtStart_36 (by decide) (fun hc => ?_) (fun hc => ?_)
      · replace hf := hf.1 hc
        refine lv_iinc (pc := 62) (k := 6) (v := (x5 + (1 : Int32))) (lv' := [(5, .int (x5 + (1 : Int32))), (6, .int r21), (0, .ref (a 5)), (1, .ref (a 3)), (2, .int x2), (3, .int x3), (4, .int x4)]) hx hb d_Ch_longestAtStart_62 hl rfl rfl (by decide) rfl (fun ls hl => ?_)
        refine lv_goto (pc := 65) (tgt := 8) hx hb d_Ch_longestAtStart_65 (by decide) ?_
        exact ih8 x2 x3 x4 (x5 + (1 : Int32)) _ (lv_sub hl [2, 3, 4, 5, 6, 0] rfl) hf
      replace hf := hf.2 hc
      refine lv_aload_n (pc := 39) hx hb d_Ch_longestAtStart_39 rfl (lv_at hl 2 rfl) ?_
      refine lv_iload (pc := 40) hx hb d_Ch_longestAtStart_40 (lv_at hl 0 rfl) ?_
      refine vp_callSi (pc := 42) (W.runV (As := [.int r21]) (rest := []) ⟨hx, hb, hml, hown, hts⟩ (c_Eq_firstKeys l D cI cZ cJ a _ _ _ hf) (cwV 1 hts (tb_wsV tc_Eq_firstKeys tm_Ch_24 ti_Eq_firstKeys te_Eq_firstKeys tz_Eq) rfl rfl rfl (by decide +kernel) ⟨Nat.le_of_ble_eq_true rfl, Nat.le_of_ble_eq_true rfl⟩) (r_preV (q0 := 3) (ci := 3) hK hP rfl rfl) rfl rfl hl.1 rfl (lv_room (Nat.le_of_ble_eq_true rfl)) d_Ch_longestAtStart_42 ⟨Nat.zero_le _, Nat.zero_le _⟩) (fun r42 hf => ?_)
      refine lv_aload_n (pc := 45) hx hb d_Ch_longestAtStart_45 rfl (lv_at hl 1 rfl) ?_
      refine gk_gt_Ch_keys (pc := 46) hx hb hK hts hinCh hown hP hl9 d_Ch_longestAtStart_46 ?_
      refine lv_iload (pc := 49) hx hb d_Ch_longestAtStart_49 (lv_at hl 6 rfl) ?_
      refine gk_ld18 (pc := 51) (v := ((S.1 22) x5.toNatClampNeg)) hx hb hK hP hf.1 rfl d_Ch_longestAtStart_51 ?_
      replace hf := hf.2
      refine lv_icmp_ne (pc := 52) (tgt := 62) hx hb d_Ch_longestAtStart_52 (by decide) (fun hc => ?_) (fun hc => ?_)
      · replace hf := hf.2 hc
        refine lv_iinc (pc := 62) (k := 6) (v := (x5 + (1 : Int32))) (lv' := [(5, .int (x5 + (1 : Int32))), (6, .int r21), (0, .ref (a 5)), (1, .ref (a 3)), (2, .int x2), (3, .int x3), (4, .int x4)]) hx hb d_Ch_longestAtStart_62 hl rfl rfl (by decide) rfl (fun ls hl => ?_)
        refine lv_goto (pc := 65) (tgt := 8) hx hb d_Ch_longestAtStart_65 (by decide) ?_
        exact ih8 x2 x3 x4 (x5 + (1 : Int32)) _ (lv_sub hl [2, 3, 4, 5, 6, 0] rfl) hf
      replace hf := hf.1 hc
      refine lv_iload (pc := 55) hx hb d_Ch_longestAtStart_55 (lv_at hl 6 rfl) ?_
      refine lv_istore_n (pc := 57) (lv' := [(3, .int x5), (6, .int r21), (0, .ref (a 5)), (1, .ref (a 3)), (2, .int x2), (4, .int x4), (5, .int x5)]) hx hb d_Ch_longestAtStart_57 rfl hl (by decide) rfl (fun ls hl => ?_)
      refine lv_iload (pc := 58) hx hb d_Ch_longestAtStart_58 (lv_at hl 1 rfl) ?_
      refine lv_istore (pc := 60) (lv' := [(4, .int r21), (3, .int x5), (6, .int r21), (0, .ref (a 5)), (1, .ref (a 3)), (2, .int x2), (5, .int x5)]) hx hb d_Ch_longestAtStart_60 hl (by decide) rfl (fun ls hl => ?_)
      refine lv_iinc (pc := 62) (k := 6) (v := (x5 + (1 : Int32))) (lv' := [(5, .int (x5 + (1 : Int32))), (4, .int r21), (3, .int x5), (6, .int r21), (0, .ref (a 5)), (1, .ref (a 3)), (2, .int x2)]) hx hb d_Ch_longestAtStart_62 hl rfl rfl (by decide) rfl (fun ls hl => ?_)
      refine lv_goto (pc := 65) (tgt := 8) hx hb d_Ch_longestAtStart_65 (by decide) ?_
      exact ih8 x2 x5 r21 (x5 + (1 : Int32)) _ (lv_sub hl [4, 5, 6, 2, 1, 0] rfl) hf
  exact lp8 n p1 (-1 : Int32) (0 : Int32) (0 : Int32) _ (lv_sub hl [3, 4, 5, 2, 1, 0] rfl) hf
def wp_Ch_keysOf (S : GS) (p0 : Int32) (post : Int32 → Prop) : Prop := (vp_in p0 4 ∧ (post ((S.1 22) p0.toNatClampNeg)))
abbrev rm_Ch_keysOf : Room := { frames := 0, cells := 0, slots := 0, locals := 0 }
set_option maxHeartbeats 4000000 in
set_option maxRecDepth 100000 in
theorem c_Ch_keysOf (l : Launch) (D : va_G) (cI cZ cJ : ClassId) (a : Nat → Nat) (S : GS) (p0 : Int32) (post : Int32 → Prop) (hf : wp_Ch_keysOf S p0 post) : Met l y_Ch_keysOf ws_Ch_keysOf rm_Ch_keysOf (va_Pc [.ref (a 5), .int p0] (rPre D (tys cI cZ cJ) (gkW cI cZ cJ a S))) (vp_Si post) 0 0 (fun _ => False) := by
  refine gm_r (cc := b_Ch_keysOf) (maxL := 2) (by decide) rfl (Nat.le_of_ble_eq_true rfl) ?_
  intro p e s m args below meth c ls hx hb hr hts hown hlk hml hK hP hl
  have hl : lv_has ls 2 [(0, .ref (a 5)), (1, .int p0)] := hl
  have hinCh : ∀ w ∈ u_ws R_Ch T_Ch 2, w ∈ ws_Ch_keysOf := fun w h => List.mem_cons_of_mem _ (tl_Ch w h)
  have hl9 := hts _ (List.mem_cons_of_mem _ tf_Ch_9)
  unfold wp_Ch_keysOf at hf
  refine lv_aload_n (pc := 0) hx hb d_Ch_keysOf_0 rfl (lv_at hl 0 rfl) ?_
  refine gk_gt_Ch_keys (pc := 1) hx hb hK hts hinCh hown hP hl9 d_Ch_keysOf_1 ?_
  refine lv_iload_n (pc := 4) hx hb d_Ch_keysOf_4 rfl (lv_at hl 1 rfl) ?_
  refine gk_ld18 (pc := 5) (v := ((S.1 22) p0.toNatClampNeg)) hx hb hK hP hf.1 rfl d_Ch_keysOf_5 ?_
  replace hf := hf.2
  exact rr_i (pc := 6) hx hb hr hlk hf d_Ch_keysOf_6
def wp_Ch_codeOf (S : GS) (p0 : Int32) (post : Int32 → Prop) : Prop := (vp_in p0 4 ∧ (post ((S.1 23) p0.toNatClampNeg)))
abbrev rm_Ch_codeOf : Room := { frames := 0, cells := 0, slots := 0, locals := 0 }
set_option maxHeartbeats 4000000 in
set_option maxRecDepth 100000 in
theorem c_Ch_codeOf (l : Launch) (D : va_G) (cI cZ cJ : ClassId) (a : Nat → Nat) (S : GS) (p0 : Int32) (post : Int32 → Prop) (hf : wp_Ch_codeOf S p0 post) : Met l y_Ch_codeOf ws_Ch_codeOf rm_Ch_codeOf (va_Pc [.ref (a 5), .int p0] (rPre D (tys cI cZ cJ) (gkW cI cZ cJ a S))) (vp_Si post) 0 0 (fun _ => False) := by
  refine gm_r (cc := b_Ch_codeOf) (maxL := 2) (by decide) rfl (Nat.le_of_ble_eq_true rfl) ?_
  intro p e s m args below meth c ls hx hb hr hts hown hlk hml hK hP hl
  have hl : lv_has ls 2 [(0, .ref (a 5)), (1, .int p0)] := hl
  have hinCh : ∀ w ∈ u_ws R_Ch T_Ch 2, w ∈ ws_Ch_codeOf := fun w h => List.mem_cons_of_mem _ (tl_Ch w h)
  have hl15 := hts _ (List.mem_cons_of_mem _ tf_Ch_15)
  unfold wp_Ch_codeOf at hf
  refine lv_aload_n (pc := 0) hx hb d_Ch_codeOf_0 rfl (lv_at hl 0 rfl) ?_
  refine gk_gt_Ch_codes (pc := 1) hx hb hK hts hinCh hown hP hl15 d_Ch_codeOf_1 ?_
  refine lv_iload_n (pc := 4) hx hb d_Ch_codeOf_4 rfl (lv_at hl 1 rfl) ?_
  refine gk_ld19 (pc := 5) (v := ((S.1 23) p0.toNatClampNeg)) hx hb hK hP hf.1 rfl d_Ch_codeOf_5 ?_
  replace hf := hf.2
  exact rr_i (pc := 6) hx hb hr hlk hf d_Ch_codeOf_6
def wp_Re_goDown (S : GS) (p0 : Int32) (post : GS → Prop) : Prop := (vp_in p0 108 ∧ (vp_in p0 108 ∧ (wp_Re_packed (gI S 27 (upd (S.1 27) (p0).toNatClampNeg (((S.1 27) p0.toNatClampNeg) + (1 : Int32)))) (fun r12 => (wp_Re_putIfOther (gI S 27 (upd (S.1 27) (p0).toNatClampNeg (((S.1 27) p0.toNatClampNeg) + (1 : Int32)))) r12 (fun S15 => (post S15)))))))
abbrev rm_Re_goDown : Room := { frames := 1, cells := 0, slots := 0, locals := 29 }
set_option maxHeartbeats 4000000 in
set_option maxRecDepth 100000 in
theorem c_Re_goDown (l : Launch) (D : va_G) (cI cZ cJ : ClassId) (a : Nat → Nat) (sz : Nat) (S : GS) (p0 : Int32) (post : GS → Prop) (hf : wp_Re_goDown S p0 post) : Met l y_Re_goDown ws_Re_goDown rm_Re_goDown (va_Pc [.ref (a 8), .int p0] (gPre D (tys cI cZ cJ) (gkW cI cZ cJ a S) sz)) (va_Qv post (gB D (tys cI cZ cJ) (gkW cI cZ cJ a) (va_A (gkW cI cZ cJ a S) sz)) (va_A (gkW cI cZ cJ a S) sz)) 0 0 (va_A (gkW cI cZ cJ a S) sz) := by
  refine gm_w (QF := fun A => va_Qv post (gB D (tys cI cZ cJ) (gkW cI cZ cJ a) A) A) (cc := b_Re_goDown) (maxL := 2) (by decide) rfl (Nat.le_of_ble_eq_true rfl) ?_
  intro p e s m args below meth c A ls hx hb hr hts hown hmn hlk hml hK hA hw hl
  have hl : lv_has ls 2 [(0, .ref (a 8)), (1, .int p0)] := hl
  have hinRe : ∀ w ∈ u_ws R_Re T_Re 7, w ∈ ws_Re_goDown := fun w h => List.mem_cons_of_mem _ (tl_Re w h)
  have hl9 := hts _ (List.mem_cons_of_mem _ tf_Re_9)
  unfold wp_Re_goDown at hf
  refine lv_aload_n (pc := 0) hx hb d_Re_goDown_0 rfl (lv_at hl 0 rfl) ?_
  refine gk_gt_Re_holders (pc := 1) hx hb hK hts hinRe hown hw.1 hl9 d_Re_goDown_1 ?_
  refine lv_iload_n (pc := 4) hx hb d_Re_goDown_4 rfl (lv_at hl 1 rfl) ?_
  refine lv_dup2_11 (pc := 5) hx hb d_Re_goDown_5 rfl rfl ?_
  refine gk_ld23 (pc := 6) (v := ((S.1 27) p0.toNatClampNeg)) hx hb hK hw.1 hf.1 rfl d_Re_goDown_6 ?_
  replace hf := hf.2
  refine lv_iconst (pc := 7) (v := 1) hx hb d_Re_goDown_7 (by decide) ?_
  refine lv_iadd (pc := 8) hx hb d_Re_goDown_8 ?_
  refine gk_st23 (pc := 9) hx hb hK hw hf.1 d_Re_goDown_9 (fun H locs hw => ?_)
  replace hf := hf.2
  refine lv_aload_n (pc := 10) hx hb d_Re_goDown_10 rfl (lv_at hl 0 rfl) ?_
  refine lv_aload_n (pc := 11) hx hb d_Re_goDown_11 rfl (lv_at hl 0 rfl) ?_
  refine vp_callSl (pc := 12) (W.runV (As := []) (rest := [.ref (a 8)]) ⟨hx, hb, hml, hown, hts⟩ (c_Re_packed l D cI cZ cJ a _ _ hf) (cwV 0 hts (tb_wsV tc_Re_packed tm_Re_27 ti_Re_packed te_Re_packed tz_Re) rfl rfl rfl (by decide +kernel) ⟨Nat.le_of_ble_eq_true rfl, Nat.le_of_ble_eq_true rfl⟩) (r_preV (q0 := 8) (ci := 8) hK hw.1 rfl rfl) rfl rfl hl.1 rfl (lv_room (Nat.le_of_ble_eq_true rfl)) d_Re_goDown_12 ⟨Nat.zero_le _, Nat.zero_le _⟩) (fun r12 hf => ?_)
  refine gc_v (pc := 15) (Wf := gkW cI cZ cJ a) hw hA (va_runV (As := [.long r12]) (rest := []) ⟨hx, hb, hml, hown, hts⟩ (c_Re_putIfOther l D cI cZ cJ a _ _ _ _ hf) (cwV 1 hts (tb_wsV tc_Re_putIfOther tm_Re_31 ti_Re_putIfOther te_Re_putIfOther tz_Re) rfl rfl rfl (by decide +kernel) ⟨Nat.le_of_ble_eq_true rfl, Nat.le_of_ble_eq_true rfl⟩) (g_preV (q0 := 8) (ci := 8) hK hw rfl rfl) rfl rfl hl.1 rfl (lv_room (Nat.le_of_ble_eq_true rfl)) d_Re_goDown_15 ⟨Nat.zero_le _, Nat.zero_le _⟩) (fun S15 H locs hw hf => ?_)
  exact gr_v (pc := 18) hx hb hr hlk hK S15 hw hf d_Re_goDown_18
def wp_La_disarm (S : GS) (post : GS → Prop) : Prop := (post (gI S 9 (fun _ => (0 : Int32))))
abbrev rm_La_disarm : Room := { frames := 0, cells := 0, slots := 0, locals := 0 }
set_option maxHeartbeats 4000000 in
set_option maxRecDepth 100000 in
theorem c_La_disarm (l : Launch) (D : va_G) (cI cZ cJ : ClassId) (a : Nat → Nat) (sz : Nat) (S : GS) (post : GS → Prop) (hf : wp_La_disarm S post) : Met l y_La_disarm ws_La_disarm rm_La_disarm (va_Pc [.ref (a 6)] (gPre D (tys cI cZ cJ) (gkW cI cZ cJ a S) sz)) (va_Qv post (gB D (tys cI cZ cJ) (gkW cI cZ cJ a) (va_A (gkW cI cZ cJ a S) sz)) (va_A (gkW cI cZ cJ a S) sz)) 0 0 (va_A (gkW cI cZ cJ a S) sz) := by
  refine gm_w (QF := fun A => va_Qv post (gB D (tys cI cZ cJ) (gkW cI cZ cJ a) A) A) (cc := b_La_disarm) (maxL := 1) (by decide) rfl (Nat.le_of_ble_eq_true rfl) ?_
  intro p e s m args below meth c A ls hx hb hr hts hown hmn hlk hml hK hA hw hl
  have hl : lv_has ls 1 [(0, .ref (a 6))] := hl
  have hinLa : ∀ w ∈ u_ws R_La T_La 3, w ∈ ws_La_disarm := fun w h => List.mem_cons_of_mem _ (tl_La w h)
  have hl19 := hts _ (List.mem_cons_of_mem _ tf_La_19)
  unfold wp_La_disarm at hf
  refine lv_aload_n (pc := 0) hx hb d_La_disarm_0 rfl (lv_at hl 0 rfl) ?_
  refine lv_iconst (pc := 1) (v := 0) hx hb d_La_disarm_1 (by decide) ?_
  refine gk_pt_La_armed (pc := 2) hx hb hK hts hinLa hown hw hl19 d_La_disarm_2 (fun H locs hw => ?_)
  exact gr_v (pc := 5) hx hb hr hlk hK (gI S 9 (fun _ => (0 : Int32))) hw hf d_La_disarm_5
def wp_Km_kind (S : GS) (p0 : Int32) (p1 : Int32) (post : Int32 → Prop) : Prop := ((p0 = (-1 : Int32) → (post (0 : Int32))) ∧ (¬ p0 = (-1 : Int32) → (vp_in ((p0 * (24 : Int32)) + p1) 96 ∧ (post ((S.1 18) ((p0 * (24 : Int32)) + p1).toNatClampNeg)))))
abbrev rm_Km_kind : Room := { frames := 0, cells := 0, slots := 0, locals := 0 }
set_option maxHeartbeats 4000000 in
set_option maxRecDepth 100000 in
theorem c_Km_kind (l : Launch) (D : va_G) (cI cZ cJ : ClassId) (a : Nat → Nat) (S : GS) (p0 : Int32) (p1 : Int32) (post : Int32 → Prop) (hf : wp_Km_kind S p0 p1 post) : Met l y_Km_kind ws_Km_kind rm_Km_kind (va_Pc [.ref (a 4), .int p0, .int p1] (rPre D (tys cI cZ cJ) (gkW cI cZ cJ a S))) (vp_Si post) 0 0 (fun _ => False) := by
  refine gm_r (cc := b_Km_kind) (maxL := 3) (by decide) rfl (Nat.le_of_ble_eq_true rfl) ?_
  intro p e s m args below meth c ls hx hb hr hts hown hlk hml hK hP hl
  have hl : lv_has ls 3 [(0, .ref (a 4)), (1, .int p0), (2, .int p1)] := hl
  have hinKm : ∀ w ∈ u_ws R_Km T_Km 4, w ∈ ws_Km_kind := fun w h => List.mem_cons_of_mem _ (tl_Km w h)
  have hl9 := hts _ (List.mem_cons_of_mem _ tf_Km_9)
  unfold wp_Km_kind at hf
  refine lv_iload_n (pc := 0) hx hb d_Km_kind_0 rfl (lv_at hl 1 rfl) ?_
  refine lv_iconst (pc := 1) (v := -1) hx hb d_Km_kind_1 (by decide) ?_
  refine lv_icmp_ne (pc := 2) (tgt := 9) hx hb d_Km_kind_2 (by decide) (fun hc => ?_) (fun hc => ?_)
  · replace hf := hf.2 hc
    refine lv_aload_n (pc := 9) hx hb d_Km_kind_9 rfl (lv_at hl 0 rfl) ?_
    refine gk_gt_Km_kinds (pc := 10) hx hb hK hts hinKm hown hP hl9 d_Km_kind_10 ?_
    refine lv_iload_n (pc := 13) hx hb d_Km_kind_13 rfl (lv_at hl 1 rfl) ?_
    refine lv_bipush (pc := 14) (v := 24) hx hb d_Km_kind_14 (by decide) ?_
    refine lv_imul (pc := 16) hx hb d_Km_kind_16 ?_
    refine lv_iload_n (pc := 17) hx hb d_Km_kind_17 rfl (lv_at hl 2 rfl) ?_
    refine lv_iadd (pc := 18) hx hb d_Km_kind_18 ?_
    refine gk_ld14 (pc := 19) (v := ((S.1 18) ((p0 * (24 : Int32)) + p1).toNatClampNeg)) hx hb hK hP hf.1 rfl d_Km_kind_19 ?_
    replace hf := hf.2
    exact rr_i (pc := 20) hx hb hr hlk hf d_Km_kind_20
  replace hf := hf.1 hc
  refine lv_iconst (pc := 5) (v := 0) hx hb d_Km_kind_5 (by decide) ?_
  refine lv_goto (pc := 6) (tgt := 20) hx hb d_Km_kind_6 (by decide) ?_
  exact rr_i (pc := 20) hx hb hr hlk hf d_Km_kind_20
def wp_La_isOn (S : GS) (p0 : Int32) (post : Int32 → Prop) : Prop := ((p0 = (0 : Int32) → (post (1 : Int32))) ∧ (¬ p0 = (0 : Int32) → (vp_in p0 4 ∧ ((((S.1 24) p0.toNatClampNeg) = (0 : Int32) → ((((((S.1 8 0) ||| (S.1 9 0)) >>> (p0 &&& 31)) &&& (1 : Int32)) = (0 : Int32) → (post (0 : Int32))) ∧ (¬ ((((S.1 8 0) ||| (S.1 9 0)) >>> (p0 &&& 31)) &&& (1 : Int32)) = (0 : Int32) → (post (1 : Int32))))) ∧ (¬ ((S.1 24) p0.toNatClampNeg) = (0 : Int32) → (post (1 : Int32)))))))
abbrev rm_La_isOn : Room := { frames := 0, cells := 0, slots := 0, locals := 0 }
set_option maxHeartbeats 4000000 in
set_option maxRecDepth 100000 in
theorem c_La_isOn (l : Launch) (D : va_G) (cI cZ cJ : ClassId) (a : Nat → Nat) (S : GS) (p0 : Int32) (post : Int32 → Prop) (hf : wp_La_isOn S p0 post) : Met l y_La_isOn ws_La_isOn rm_La_isOn (va_Pc [.ref (a 6), .int p0] (rPre D (tys cI cZ cJ) (gkW cI cZ cJ a S))) (vp_Si post) 0 0 (fun _ => False) := by
  refine gm_r (cc := b_La_isOn) (maxL := 2) (by decide) rfl (Nat.le_of_ble_eq_true rfl) ?_
  intro p e s m args below meth c ls hx hb hr hts hown hlk hml hK hP hl
  have hl : lv_has ls 2 [(0, .ref (a 6)), (1, .int p0)] := hl
  have hinLa : ∀ w ∈ u_ws R_La T_La 3, w ∈ ws_La_isOn := fun w h => List.mem_cons_of_mem _ (tl_La w h)
  have hl9 := hts _ (List.mem_cons_of_mem _ tf_La_9)
  have hl15 := hts _ (List.mem_cons_of_mem _ tf_La_15)
  have hl19 := hts _ (List.mem_cons_of_mem _ tf_La_19)
  unfold wp_La_isOn at hf
  refine lv_iload_n (pc := 0) hx hb d_La_isOn_0 rfl (lv_at hl 1 rfl) ?_
  refine lv_if_eq (pc := 1) (tgt := 29) hx hb d_La_isOn_1 (by decide) (fun hc => ?_) (fun hc => ?_)
  · replace hf := hf.1 hc
    refine lv_iconst (pc := 29) (v := 1) hx hb d_La_isOn_29 (by decide) ?_
    refine lv_goto (pc := 30) (tgt := 34) hx hb d_La_isOn_30 (by decide) ?_
    exact rr_z (pc := 34) hx hb hr hlk (by decide) hf d_La_isOn_34
  replace hf := hf.2 hc
  refine lv_aload_n (pc := 4) hx hb d_La_isOn_4 rfl (lv_at hl 0 rfl) ?_
  refine gk_gt_La_holders (pc := 5) hx hb hK hts hinLa hown hP hl9 d_La_isOn_5 ?_
  refine lv_iload_n (pc := 8) hx hb d_La_isOn_8 rfl (lv_at hl 1 rfl) ?_
  refine gk_ld20 (pc := 9) (v := ((S.1 24) p0.toNatClampNeg)) hx hb hK hP hf.1 rfl d_La_isOn_9 ?_
  replace hf := hf.2
  refine lv_if_ne (pc := 10) (tgt := 29) hx hb d_La_isOn_10 (by decide) (fun hc => ?_) (fun hc => ?_)
  · replace hf := hf.2 hc
    refine lv_iconst (pc := 29) (v := 1) hx hb d_La_isOn_29 (by decide) ?_
    refine lv_goto (pc := 30) (tgt := 34) hx hb d_La_isOn_30 (by decide) ?_
    exact rr_z (pc := 34) hx hb hr hlk (by decide) hf d_La_isOn_34
  replace hf := hf.1 hc
  refine lv_aload_n (pc := 13) hx hb d_La_isOn_13 rfl (lv_at hl 0 rfl) ?_
  refine gk_gt_La_locked (pc := 14) (v := (S.1 8 0)) hx hb hK hts hinLa hown hP hl15 rfl d_La_isOn_14 ?_
  refine lv_aload_n (pc := 17) hx hb d_La_isOn_17 rfl (lv_at hl 0 rfl) ?_
  refine gk_gt_La_armed (pc := 18) (v := (S.1 9 0)) hx hb hK hts hinLa hown hP hl19 rfl d_La_isOn_18 ?_
  refine lv_ior (pc := 21) hx hb d_La_isOn_21 ?_
  refine lv_iload_n (pc := 22) hx hb d_La_isOn_22 rfl (lv_at hl 1 rfl) ?_
  refine lv_ishr (pc := 23) hx hb d_La_isOn_23 ?_
  refine lv_iconst (pc := 24) (v := 1) hx hb d_La_isOn_24 (by decide) ?_
  refine lv_iand (pc := 25) hx hb d_La_isOn_25 ?_
  refine lv_if_eq (pc := 26) (tgt := 33) hx hb d_La_isOn_26 (by decide) (fun hc => ?_) (fun hc => ?_)
  · replace hf := hf.1 hc
    refine lv_iconst (pc := 33) (v := 0) hx hb d_La_isOn_33 (by decide) ?_
    exact rr_z (pc := 34) hx hb hr hlk (by decide) hf d_La_isOn_34
  replace hf := hf.2 hc
  refine lv_iconst (pc := 29) (v := 1) hx hb d_La_isOn_29 (by decide) ?_
  refine lv_goto (pc := 30) (tgt := 34) hx hb d_La_isOn_30 (by decide) ?_
  exact rr_z (pc := 34) hx hb hr hlk (by decide) hf d_La_isOn_34
def L_Km_topLayer_2 (S : GS) (post : Int32 → Prop) : Nat → Int32 → Int32 → Prop
  | 0, _, _ => False
  | n + 1, x1, x3 => ((x3 < (0 : Int32) → (post (-1 : Int32))) ∧ (¬ x3 < (0 : Int32) → (wp_Km_kind S x3 x1 (fun r9 => ((r9 = (0 : Int32) → (L_Km_topLayer_2 S post n x1 (x3 + (-1 : Int32)))) ∧ (¬ r9 = (0 : Int32) → (wp_La_isOn S x3 (fun r17 => ((r17 = (0 : Int32) → (L_Km_topLayer_2 S post n x1 (x3 + (-1 : Int32)))) ∧ (¬ r17 = (0 : Int32) → (post x3)))))))))))
def wp_Km_topLayer (S : GS) (p0 : Int32) (post : Int32 → Prop) : Prop := (∃ n, L_Km_topLayer_2 S post n p0 (3 : Int32))
abbrev rm_Km_topLayer : Room := { frames := 1, cells := 0, slots := 0, locals := 22 }
set_option maxHeartbeats 4000000 in
set_option maxRecDepth 100000 in
theorem c_Km_topLayer (l : Launch) (D : va_G) (cI cZ cJ : ClassId) (a : Nat → Nat) (S : GS) (p0 : Int32) (post : Int32 → Prop) (hf : wp_Km_topLayer S p0 post) : Met l y_Km_topLayer ws_Km_topLayer rm_Km_topLayer (va_Pc [.ref (a 4), .int p0, .ref (a 6)] (rPre D (tys cI cZ cJ) (gkW cI cZ cJ a S))) (vp_Si post) 0 0 (fun _ => False) := by
  refine gm_r (cc := b_Km_topLayer) (maxL := 4) (by decide) rfl (Nat.le_of_ble_eq_true rfl) ?_
  intro p e s m args below meth c ls hx hb hr hts hown hlk hml hK hP hl
  have hl : lv_has ls 4 [(0, .ref (a 4)), (1, .int p0), (2, .ref (a 6))] := hl
  unfold wp_Km_topLayer at hf
  refine lv_iconst (pc := 0) (v := 3) hx hb d_Km_topLayer_0 (by decide) ?_
  refine lv_istore_n (pc := 1) (lv' := [(3, .int (3 : Int32)), (0, .ref (a 4)), (1, .int p0), (2, .ref (a 6))]) hx hb d_Km_topLayer_1 rfl hl (by decide) rfl (fun ls hl => ?_)
  obtain ⟨n, hf⟩ := hf
  have lp2 : ∀ (n : Nat) (x1 : Int32) (x3 : Int32) (ls : Array Slot), lv_has ls 4 [(0, .ref (a 4)), (1, .int x1), (2, .ref (a 6)), (3, .int x3)] → L_Km_topLayer_2 S post n x1 x3 → W p l e rm_Km_topLayer s m args below meth c s.heap [] 0 0 (MQ below (vp_Si post) args s 0 0 (fun _ => False)) (F0 m 2 ls []) := by
    intro n
    induction n with
    | zero => intro x1 x3 ls hl hf; exact False.elim hf
    | succ n ih2 =>
      intro x1 x3 ls hl hf
      unfold L_Km_topLayer_2 at hf
      refine lv_iload_n (pc := 2) hx hb d_Km_topLayer_2 rfl (lv_at hl 3 rfl) ?_
      refine lv_if_lt (pc := 3) (tgt := 31) hx hb d_Km_topLayer_3 (by decide) (fun hc => ?_) (fun hc => ?_)
      · replace hf := hf.1 hc
        refine lv_iconst (pc := 31) (v := -1) hx hb d_Km_topLayer_31 (by decide) ?_
        exact rr_i (pc := 32) hx hb hr hlk hf d_Km_topLayer_32
      replace hf := hf.2 hc
      refine lv_aload_n (pc := 6) hx hb d_Km_topLayer_6 rfl (lv_at hl 0 rfl) ?_
      refine lv_iload_n (pc := 7) hx hb d_Km_topLayer_7 rfl (lv_at hl 3 rfl) ?_
      refine lv_iload_n (pc := 8) hx hb d_Km_topLayer_8 rfl (lv_at hl 1 rfl) ?_
      refine vp_callSi (pc := 9) (W.runV (As := [.int x3, .int x1]) (rest := []) ⟨hx, hb, hml, hown, hts⟩ (c_Km_kind l D cI cZ cJ a _ _ _ _ hf) (cwV 2 hts (tb_wsV tc_Km_kind tm_Km_24 ti_Km_kind te_Km_kind tz_Km) rfl rfl rfl (by decide +kernel) ⟨Nat.le_of_ble_eq_true rfl, Nat.le_of_ble_eq_true rfl⟩) (r_preV (q0 := 4) (ci := 4) hK hP rfl rfl) rfl rfl hl.1 rfl (lv_room (Nat.le_of_ble_eq_true rfl)) d_Km_topLayer_9 ⟨Nat.zero_le _, Nat.zero_le _⟩) (fun r9 hf => ?_)
      refine lv_if_eq (pc := 12) (tgt := 25) hx hb d_Km_topLayer_12 (by decide) (fun hc => ?_) (fun hc => ?_)
      · replace hf := hf.1 hc
        refine lv_iinc (pc := 25) (k := 3) (v := (x3 + (-1 : Int32))) (lv' := [(3, .int (x3 + (-1 : Int32))), (0, .ref (a 4)), (1, .int x1), (2, .ref (a 6))]) hx hb d_Km_topLayer_25 hl rfl rfl (by decide) rfl (fun ls hl => ?_)
        refine lv_goto (pc := 28) (tgt := 2) hx hb d_Km_topLayer_28 (by decide) ?_
        exact ih2 x1 (x3 + (-1 : Int32)) _ (lv_sub hl [1, 2, 3, 0] rfl) hf
      replace hf := hf.2 hc
      refine lv_aload_n (pc := 15) hx hb d_Km_topLayer_15 rfl (lv_at hl 2 rfl) ?_
      refine lv_iload_n (pc := 16) hx hb d_Km_topLayer_16 rfl (lv_at hl 3 rfl) ?_
      refine vp_callSi (pc := 17) (W.runV (As := [.int x3]) (rest := []) ⟨hx, hb, hml, hown, hts⟩ (c_La_isOn l D cI cZ cJ a _ _ _ hf) (cwV 1 hts (tb_wsV tc_La_isOn tm_Km_28 ti_La_isOn te_La_isOn tz_La) rfl rfl rfl (by decide +kernel) ⟨Nat.le_of_ble_eq_true rfl, Nat.le_of_ble_eq_true rfl⟩) (r_preV (q0 := 6) (ci := 6) hK hP rfl rfl) rfl rfl hl.1 rfl (lv_room (Nat.le_of_ble_eq_true rfl)) d_Km_topLayer_17 ⟨Nat.zero_le _, Nat.zero_le _⟩) (fun r17 hf => ?_)
      refine lv_if_eq (pc := 20) (tgt := 25) hx hb d_Km_topLayer_20 (by decide) (fun hc => ?_) (fun hc => ?_)
      · replace hf := hf.1 hc
        refine lv_iinc (pc := 25) (k := 3) (v := (x3 + (-1 : Int32))) (lv' := [(3, .int (x3 + (-1 : Int32))), (0, .ref (a 4)), (1, .int x1), (2, .ref (a 6))]) hx hb d_Km_topLayer_25 hl rfl rfl (by decide) rfl (fun ls hl => ?_)
        refine lv_goto (pc := 28) (tgt := 2) hx hb d_Km_topLayer_28 (by decide) ?_
        exact ih2 x1 (x3 + (-1 : Int32)) _ (lv_sub hl [1, 2, 3, 0] rfl) hf
      replace hf := hf.2 hc
      refine lv_iload_n (pc := 23) hx hb d_Km_topLayer_23 rfl (lv_at hl 3 rfl) ?_
      exact rr_i (pc := 24) hx hb hr hlk hf d_Km_topLayer_24
  exact lp2 n p0 (3 : Int32) _ (lv_sub hl [1, 2, 3, 0] rfl) hf
def L_Eq_tellTap_4 (S : GS) (post : Int32 → Prop) : Nat → Int32 → Int32 → Prop
  | 0, _, _ => False
  | n + 1, x1, x2 => (((S.1 7 0) ≤ x2 → (post (0 : Int32))) ∧ (¬ (S.1 7 0) ≤ x2 → (wp_Eq_keyAt S x2 (fun r15 => (wp_Eq_isPress S x2 (fun r22 => ((r22 = (0 : Int32) → (wp_Eq_keyAt S x2 (fun r37 => (wp_Eq_keyAt S (0 : Int32) (fun r42 => ((r37 = r42 → (post (1 : Int32))) ∧ (¬ r37 = r42 → (((x1 &&& ((1 : Int32) <<< (r15 &&& 31))) = (0 : Int32) → (L_Eq_tellTap_4 S post n x1 (x2 + (1 : Int32)))) ∧ (¬ (x1 &&& ((1 : Int32) <<< (r15 &&& 31))) = (0 : Int32) → (post (2 : Int32))))))))))) ∧ (¬ r22 = (0 : Int32) → (L_Eq_tellTap_4 S post n (x1 ||| ((1 : Int32) <<< (r15 &&& 31))) (x2 + (1 : Int32)))))))))))
def wp_Eq_tellTap (S : GS) (post : Int32 → Prop) : Prop := (∃ n, L_Eq_tellTap_4 S post n (0 : Int32) (1 : Int32))
abbrev rm_Eq_tellTap : Room := { frames := 1, cells := 0, slots := 0, locals := 21 }
set_option maxHeartbeats 4000000 in
set_option maxRecDepth 100000 in
theorem c_Eq_tellTap (l : Launch) (D : va_G) (cI cZ cJ : ClassId) (a : Nat → Nat) (S : GS) (post : Int32 → Prop) (hf : wp_Eq_tellTap S post) : Met l y_Eq_tellTap ws_Eq_tellTap rm_Eq_tellTap (va_Pc [.ref (a 3)] (rPre D (tys cI cZ cJ) (gkW cI cZ cJ a S))) (vp_Si post) 0 0 (fun _ => False) := by
  refine gm_r (cc := b_Eq_tellTap) (maxL := 4) (by decide) rfl (Nat.le_of_ble_eq_true rfl) ?_
  intro p e s m args below meth c ls hx hb hr hts hown hlk hml hK hP hl
  have hl : lv_has ls 4 [(0, .ref (a 3))] := hl
  have hinEq : ∀ w ∈ u_ws R_Eq T_Eq 3, w ∈ ws_Eq_tellTap := fun w h => List.mem_cons_of_mem _ (tl_Eq w h)
  have hl18 := hts _ (List.mem_cons_of_mem _ tf_Eq_18)
  unfold wp_Eq_tellTap at hf
  refine lv_iconst (pc := 0) (v := 0) hx hb d_Eq_tellTap_0 (by decide) ?_
  refine lv_istore_n (pc := 1) (lv' := [(1, .int (0 : Int32)), (0, .ref (a 3))]) hx hb d_Eq_tellTap_1 rfl hl (by decide) rfl (fun ls hl => ?_)
  refine lv_iconst (pc := 2) (v := 1) hx hb d_Eq_tellTap_2 (by decide) ?_
  refine lv_istore_n (pc := 3) (lv' := [(2, .int (1 : Int32)), (1, .int (0 : Int32)), (0, .ref (a 3))]) hx hb d_Eq_tellTap_3 rfl hl (by decide) rfl (fun ls hl => ?_)
  obtain ⟨n, hf⟩ := hf
  have lp4 : ∀ (n : Nat) (x1 : Int32) (x2 : Int32) (ls : Array Slot), lv_has ls 4 [(0, .ref (a 3)), (1, .int x1), (2, .int x2)] → L_Eq_tellTap_4 S post n x1 x2 → W p l e rm_Eq_tellTap s m args below meth c s.heap [] 0 0 (MQ below (vp_Si post) args s 0 0 (fun _ => False)) (F0 m 4 ls []) := by
    intro n
    induction n with
    | zero => intro x1 x2 ls hl hf; exact False.elim hf
    | succ n ih4 =>
      intro x1 x2 ls hl hf
      unfold L_Eq_tellTap_4 at hf
      refine lv_iload_n (pc := 4) hx hb d_Eq_tellTap_4 rfl (lv_at hl 2 rfl) ?_
      refine lv_aload_n (pc := 5) hx hb d_Eq_tellTap_5 rfl (lv_at hl 0 rfl) ?_
      refine gk_gt_Eq_length (pc := 6) (v := (S.1 7 0)) hx hb hK hts hinEq hown hP hl18 rfl d_Eq_tellTap_6 ?_
      refine lv_icmp_ge (pc := 9) (tgt := 64) hx hb d_Eq_tellTap_9 (by decide) (fun hc => ?_) (fun hc => ?_)
      · replace hf := hf.1 hc
        refine lv_iconst (pc := 64) (v := 0) hx hb d_Eq_tellTap_64 (by decide) ?_
        exact rr_i (pc := 65) hx hb hr hlk hf d_Eq_tellTap_65
      replace hf := hf.2 hc
      refine lv_iconst (pc := 12) (v := 1) hx hb d_Eq_tellTap_12 (by decide) ?_
      refine lv_aload_n (pc := 13) hx hb d_Eq_tellTap_13 rfl (lv_at hl 0 rfl) ?_
      refine lv_iload_n (pc := 14) hx hb d_Eq_tellTap_14 rfl (lv_at hl 2 rfl) ?_
      refine vp_callSi (pc := 15) (W.runV (As := [.int x2]) (rest := [.int (1 : Int32)]) ⟨hx, hb, hml, hown, hts⟩ (c_Eq_keyAt l D cI cZ cJ a _ _ _ hf) (cwV 1 hts (tb_wsV tc_Eq_keyAt tm_Eq_32 ti_Eq_keyAt te_Eq_keyAt tz_Eq) rfl rfl rfl (by decide +kernel) ⟨Nat.le_of_ble_eq_true rfl, Nat.le_of_ble_eq_true rfl⟩) (r_preV (q0 := 3) (ci := 3) hK hP rfl rfl) rfl rfl hl.1 rfl (lv_room (Nat.le_of_ble_eq_true rfl)) d_Eq_tellTap_15 ⟨Nat.zero_le _, Nat.zero_le _⟩) (fun r15 hf => ?_)
      refine lv_ishl (pc := 18) hx hb d_Eq_tellTap_18 ?_
      refine lv_istore_n (pc := 19) (lv' := [(3, .int ((1 : Int32) <<< (r15 &&& 31))), (0, .ref (a 3)), (1, .int x1), (2, .int x2)]) hx hb d_Eq_tellTap_19 rfl hl (by decide) rfl (fun ls hl => ?_)
      refine lv_aload_n (pc := 20) hx hb d_Eq_tellTap_20 rfl (lv_at hl 1 rfl) ?_
      refine lv_iload_n (pc := 21) hx hb d_Eq_tellTap_21 rfl (lv_at hl 3 rfl) ?_
      refine vp_callSi (pc := 22) (W.runV (As := [.int x2]) (rest := []) ⟨hx, hb, hml, hown, hts⟩ (c_Eq_isPress l D cI cZ cJ a _ _ _ hf) (cwV 1 hts (tb_wsV tc_Eq_isPress tm_Eq_28 ti_Eq_isPress te_Eq_isPress tz_Eq) rfl rfl rfl (by decide +kernel) ⟨Nat.le_of_ble_eq_true rfl, Nat.le_of_ble_eq_true rfl⟩) (r_preV (q0 := 3) (ci := 3) hK hP rfl rfl) rfl rfl hl.1 rfl (lv_room (Nat.le_of_ble_eq_true rfl)) d_Eq_tellTap_22 ⟨Nat.zero_le _, Nat.zero_le _⟩) (fun r22 hf => ?_)
      refine lv_if_eq (pc := 25) (tgt := 35) hx hb d_Eq_tellTap_25 (by decide) (fun hc => ?_) (fun hc => ?_)
      · replace hf := hf.1 hc
        refine lv_aload_n (pc := 35) hx hb d_Eq_tellTap_35 rfl (lv_at hl 1 rfl) ?_
        refine lv_iload_n (pc := 36) hx hb d_Eq_tellTap_36 rfl (lv_at hl 3 rfl) ?_
        refine vp_callSi (pc := 37) (W.runV (As := [.int x2]) (rest := []) ⟨hx, hb, hml, hown, hts⟩ (c_Eq_keyAt l D cI cZ cJ a _ _ _ hf) (cwV 1 hts (tb_wsV tc_Eq_keyAt tm_Eq_32 ti_Eq_keyAt te_Eq_keyAt tz_Eq) rfl rfl rfl (by decide +kernel) ⟨Nat.le_of_ble_eq_true rfl, Nat.le_of_ble_eq_true rfl⟩) (r_preV (q0 := 3) (ci := 3) hK hP rfl rfl) rfl rfl hl.1 rfl (lv_room (Nat.le_of_ble_eq_true rfl)) d_Eq_tellTap_37 ⟨Nat.zero_le _, Nat.zero_le _⟩) (fun r37 hf => ?_)
        refine lv_aload_n (pc := 40) hx hb d_Eq_tellTap_40 rfl (lv_at hl 1 rfl) ?_
        refine lv_iconst (pc := 41) (v := 0) hx hb d_Eq_tellTap_41 (by decide) ?_
        refine vp_callSi (pc := 42) (W.runV (As := [.int (0 : Int32)]) (rest := [.int r37]) ⟨hx, hb, hml, hown, hts⟩ (c_Eq_keyAt l D cI cZ cJ a _ _ _ hf) (cwV 1 hts (tb_wsV tc_Eq_keyAt tm_Eq_32 ti_Eq_keyAt te_Eq_keyAt tz_Eq) rfl rfl rfl (by decide +kernel) ⟨Nat.le_of_ble_eq_true rfl, Nat.le_of_ble_eq_true rfl⟩) (r_preV (q0 := 3) (ci := 3) hK hP rfl rfl) rfl rfl hl.1 rfl (lv_room (Nat.le_of_ble_eq_true rfl)) d_Eq_tellTap_42 ⟨Nat.zero_le _, Nat.zero_le _⟩) (fun r42 hf => ?_)
        refine lv_icmp_ne (pc := 45) (tgt := 50) hx hb d_Eq_tellTap_45 (by decide) (fun hc => ?_) (fun hc => ?_)
        · replace hf := hf.2 hc
          refine lv_iload_n (pc := 50) hx hb d_Eq_tellTap_50 rfl (lv_at hl 2 rfl) ?_
          refine lv_iload_n (pc := 51) hx hb d_Eq_tellTap_51 rfl (lv_at hl 0 rfl) ?_
          refine lv_iand (pc := 52) hx hb d_Eq_tellTap_52 ?_
          refine lv_if_eq (pc := 53) (tgt := 58) hx hb d_Eq_tellTap_53 (by decide) (fun hc => ?_) (fun hc => ?_)
          · replace hf := hf.1 hc
            refine lv_iinc (pc := 58) (k := 3) (v := (x2 + (1 : Int32))) (lv' := [(2, .int (x2 + (1 : Int32))), (3, .int ((1 : Int32) <<< (r15 &&& 31))), (0, .ref (a 3)), (1, .int x1)]) hx hb d_Eq_tellTap_58 hl rfl rfl (by decide) rfl (fun ls hl => ?_)
            refine lv_goto (pc := 61) (tgt := 4) hx hb d_Eq_tellTap_61 (by decide) ?_
            exact ih4 x1 (x2 + (1 : Int32)) _ (lv_sub hl [2, 3, 0] rfl) hf
          replace hf := hf.2 hc
          refine lv_iconst (pc := 56) (v := 2) hx hb d_Eq_tellTap_56 (by decide) ?_
          exact rr_i (pc := 57) hx hb hr hlk hf d_Eq_tellTap_57
        replace hf := hf.1 hc
        refine lv_iconst (pc := 48) (v := 1) hx hb d_Eq_tellTap_48 (by decide) ?_
        exact rr_i (pc := 49) hx hb hr hlk hf d_Eq_tellTap_49
      replace hf := hf.2 hc
      refine lv_iload_n (pc := 28) hx hb d_Eq_tellTap_28 rfl (lv_at hl 2 rfl) ?_
      refine lv_iload_n (pc := 29) hx hb d_Eq_tellTap_29 rfl (lv_at hl 0 rfl) ?_
      refine lv_ior (pc := 30) hx hb d_Eq_tellTap_30 ?_
      refine lv_istore_n (pc := 31) (lv' := [(1, .int (x1 ||| ((1 : Int32) <<< (r15 &&& 31)))), (3, .int ((1 : Int32) <<< (r15 &&& 31))), (0, .ref (a 3)), (2, .int x2)]) hx hb d_Eq_tellTap_31 rfl hl (by decide) rfl (fun ls hl => ?_)
      refine lv_goto (pc := 32) (tgt := 58) hx hb d_Eq_tellTap_32 (by decide) ?_
      refine lv_iinc (pc := 58) (k := 3) (v := (x2 + (1 : Int32))) (lv' := [(2, .int (x2 + (1 : Int32))), (1, .int (x1 ||| ((1 : Int32) <<< (r15 &&& 31)))), (3, .int ((1 : Int32) <<< (r15 &&& 31))), (0, .ref (a 3))]) hx hb d_Eq_tellTap_58 hl rfl rfl (by decide) rfl (fun ls hl => ?_)
      refine lv_goto (pc := 61) (tgt := 4) hx hb d_Eq_tellTap_61 (by decide) ?_
      exact ih4 (x1 ||| ((1 : Int32) <<< (r15 &&& 31))) (x2 + (1 : Int32)) _ (lv_sub hl [3, 1, 0] rfl) hf
  exact lp4 n (0 : Int32) (1 : Int32) _ (lv_sub hl [2, 1, 0] rfl) hf
def wp_Km_a (S : GS) (p0 : Int32) (p1 : Int32) (post : Int32 → Prop) : Prop := ((p0 = (-1 : Int32) → (post (0 : Int32))) ∧ (¬ p0 = (-1 : Int32) → (vp_in ((p0 * (24 : Int32)) + p1) 96 ∧ (post ((S.1 19) ((p0 * (24 : Int32)) + p1).toNatClampNeg)))))
abbrev rm_Km_a : Room := { frames := 0, cells := 0, slots := 0, locals := 0 }
set_option maxHeartbeats 4000000 in
set_option maxRecDepth 100000 in
theorem c_Km_a (l : Launch) (D : va_G) (cI cZ cJ : ClassId) (a : Nat → Nat) (S : GS) (p0 : Int32) (p1 : Int32) (post : Int32 → Prop) (hf : wp_Km_a S p0 p1 post) : Met l y_Km_a ws_Km_a rm_Km_a (va_Pc [.ref (a 4), .int p0, .int p1] (rPre D (tys cI cZ cJ) (gkW cI cZ cJ a S))) (vp_Si post) 0 0 (fun _ => False) := by
  refine gm_r (cc := b_Km_a) (maxL := 3) (by decide) rfl (Nat.le_of_ble_eq_true rfl) ?_
  intro p e s m args below meth c ls hx hb hr hts hown hlk hml hK hP hl
  have hl : lv_has ls 3 [(0, .ref (a 4)), (1, .int p0), (2, .int p1)] := hl
  have hinKm : ∀ w ∈ u_ws R_Km T_Km 4, w ∈ ws_Km_a := fun w h => List.mem_cons_of_mem _ (tl_Km w h)
  have hl15 := hts _ (List.mem_cons_of_mem _ tf_Km_15)
  unfold wp_Km_a at hf
  refine lv_iload_n (pc := 0) hx hb d_Km_a_0 rfl (lv_at hl 1 rfl) ?_
  refine lv_iconst (pc := 1) (v := -1) hx hb d_Km_a_1 (by decide) ?_
  refine lv_icmp_ne (pc := 2) (tgt := 9) hx hb d_Km_a_2 (by decide) (fun hc => ?_) (fun hc => ?_)
  · replace hf := hf.2 hc
    refine lv_aload_n (pc := 9) hx hb d_Km_a_9 rfl (lv_at hl 0 rfl) ?_
    refine gk_gt_Km_firsts (pc := 10) hx hb hK hts hinKm hown hP hl15 d_Km_a_10 ?_
    refine lv_iload_n (pc := 13) hx hb d_Km_a_13 rfl (lv_at hl 1 rfl) ?_
    refine lv_bipush (pc := 14) (v := 24) hx hb d_Km_a_14 (by decide) ?_
    refine lv_imul (pc := 16) hx hb d_Km_a_16 ?_
    refine lv_iload_n (pc := 17) hx hb d_Km_a_17 rfl (lv_at hl 2 rfl) ?_
    refine lv_iadd (pc := 18) hx hb d_Km_a_18 ?_
    refine gk_ld15 (pc := 19) (v := ((S.1 19) ((p0 * (24 : Int32)) + p1).toNatClampNeg)) hx hb hK hP hf.1 rfl d_Km_a_19 ?_
    replace hf := hf.2
    exact rr_i (pc := 20) hx hb hr hlk hf d_Km_a_20
  replace hf := hf.1 hc
  refine lv_iconst (pc := 5) (v := 0) hx hb d_Km_a_5 (by decide) ?_
  refine lv_goto (pc := 6) (tgt := 20) hx hb d_Km_a_6 (by decide) ?_
  exact rr_i (pc := 20) hx hb hr hlk hf d_Km_a_20
def wp_La_hold (S : GS) (p0 : Int32) (p1 : Int32) (post : GS → Prop) : Prop := (vp_in p0 4 ∧ (vp_in p0 4 ∧ (post (gI S 24 (upd (S.1 24) (p0).toNatClampNeg (((S.1 24) p0.toNatClampNeg) ||| ((1 : Int32) <<< (p1 &&& 31))))))))
abbrev rm_La_hold : Room := { frames := 0, cells := 0, slots := 0, locals := 0 }
set_option maxHeartbeats 4000000 in
set_option maxRecDepth 100000 in
theorem c_La_hold (l : Launch) (D : va_G) (cI cZ cJ : ClassId) (a : Nat → Nat) (sz : Nat) (S : GS) (p0 : Int32) (p1 : Int32) (post : GS → Prop) (hf : wp_La_hold S p0 p1 post) : Met l y_La_hold ws_La_hold rm_La_hold (va_Pc [.ref (a 6), .int p0, .int p1] (gPre D (tys cI cZ cJ) (gkW cI cZ cJ a S) sz)) (va_Qv post (gB D (tys cI cZ cJ) (gkW cI cZ cJ a) (va_A (gkW cI cZ cJ a S) sz)) (va_A (gkW cI cZ cJ a S) sz)) 0 0 (va_A (gkW cI cZ cJ a S) sz) := by
  refine gm_w (QF := fun A => va_Qv post (gB D (tys cI cZ cJ) (gkW cI cZ cJ a) A) A) (cc := b_La_hold) (maxL := 3) (by decide) rfl (Nat.le_of_ble_eq_true rfl) ?_
  intro p e s m args below meth c A ls hx hb hr hts hown hmn hlk hml hK hA hw hl
  have hl : lv_has ls 3 [(0, .ref (a 6)), (1, .int p0), (2, .int p1)] := hl
  have hinLa : ∀ w ∈ u_ws R_La T_La 3, w ∈ ws_La_hold := fun w h => List.mem_cons_of_mem _ (tl_La w h)
  have hl9 := hts _ (List.mem_cons_of_mem _ tf_La_9)
  unfold wp_La_hold at hf
  refine lv_aload_n (pc := 0) hx hb d_La_hold_0 rfl (lv_at hl 0 rfl) ?_
  refine gk_gt_La_holders (pc := 1) hx hb hK hts hinLa hown hw.1 hl9 d_La_hold_1 ?_
  refine lv_iload_n (pc := 4) hx hb d_La_hold_4 rfl (lv_at hl 1 rfl) ?_
  refine lv_dup2_11 (pc := 5) hx hb d_La_hold_5 rfl rfl ?_
  refine gk_ld20 (pc := 6) (v := ((S.1 24) p0.toNatClampNeg)) hx hb hK hw.1 hf.1 rfl d_La_hold_6 ?_
  replace hf := hf.2
  refine lv_iconst (pc := 7) (v := 1) hx hb d_La_hold_7 (by decide) ?_
  refine lv_iload_n (pc := 8) hx hb d_La_hold_8 rfl (lv_at hl 2 rfl) ?_
  refine lv_ishl (pc := 9) hx hb d_La_hold_9 ?_
  refine lv_ior (pc := 10) hx hb d_La_hold_10 ?_
  refine gk_st20 (pc := 11) hx hb hK hw hf.1 d_La_hold_11 (fun H locs hw => ?_)
  replace hf := hf.2
  exact gr_v (pc := 12) hx hb hr hlk hK (gI S 24 (upd (S.1 24) (p0).toNatClampNeg (((S.1 24) p0.toNatClampNeg) ||| ((1 : Int32) <<< (p1 &&& 31))))) hw hf d_La_hold_12
def wp_La_turnLock (S : GS) (p0 : Int32) (post : GS → Prop) : Prop := (post (gI S 8 (fun _ => ((S.1 8 0) ^^^ ((1 : Int32) <<< (p0 &&& 31))))))
abbrev rm_La_turnLock : Room := { frames := 0, cells := 0, slots := 0, locals := 0 }
set_option maxHeartbeats 4000000 in
set_option maxRecDepth 100000 in
theorem c_La_turnLock (l : Launch) (D : va_G) (cI cZ cJ : ClassId) (a : Nat → Nat) (sz : Nat) (S : GS) (p0 : Int32) (post : GS → Prop) (hf : wp_La_turnLock S p0 post) : Met l y_La_turnLock ws_La_turnLock rm_La_turnLock (va_Pc [.ref (a 6), .int p0] (gPre D (tys cI cZ cJ) (gkW cI cZ cJ a S) sz)) (va_Qv post (gB D (tys cI cZ cJ) (gkW cI cZ cJ a) (va_A (gkW cI cZ cJ a S) sz)) (va_A (gkW cI cZ cJ a S) sz)) 0 0 (va_A (gkW cI cZ cJ a S) sz) := by
  refine gm_w (QF := fun A => va_Qv post (gB D (tys cI cZ cJ) (gkW cI cZ cJ a) A) A) (cc := b_La_turnLock) (maxL := 2) (by decide) rfl (Nat.le_of_ble_eq_true rfl) ?_
  intro p e s m args below meth c A ls hx hb hr hts hown hmn hlk hml hK hA hw hl
  have hl : lv_has ls 2 [(0, .ref (a 6)), (1, .int p0)] := hl
  have hinLa : ∀ w ∈ u_ws R_La T_La 3, w ∈ ws_La_turnLock := fun w h => List.mem_cons_of_mem _ (tl_La w h)
  have hl15 := hts _ (List.mem_cons_of_mem _ tf_La_15)
  unfold wp_La_turnLock at hf
  refine lv_aload_n (pc := 0) hx hb d_La_turnLock_0 rfl (lv_at hl 0 rfl) ?_
  refine lv_dup (pc := 1) hx hb d_La_turnLock_1 rfl ?_
  refine gk_gt_La_locked (pc := 2) (v := (S.1 8 0)) hx hb hK hts hinLa hown hw.1 hl15 rfl d_La_turnLock_2 ?_
  refine lv_iconst (pc := 5) (v := 1) hx hb d_La_turnLock_5 (by decide) ?_
  refine lv_iload_n (pc := 6) hx hb d_La_turnLock_6 rfl (lv_at hl 1 rfl) ?_
  refine lv_ishl (pc := 7) hx hb d_La_turnLock_7 ?_
  refine lv_ixor (pc := 8) hx hb d_La_turnLock_8 ?_
  refine gk_pt_La_locked (pc := 9) hx hb hK hts hinLa hown hw hl15 d_La_turnLock_9 (fun H locs hw => ?_)
  exact gr_v (pc := 12) hx hb hr hlk hK (gI S 8 (fun _ => ((S.1 8 0) ^^^ ((1 : Int32) <<< (p0 &&& 31))))) hw hf d_La_turnLock_12
def wp_La_arm (S : GS) (p0 : Int32) (post : GS → Prop) : Prop := (post (gI S 9 (fun _ => ((S.1 9 0) ||| ((1 : Int32) <<< (p0 &&& 31))))))
abbrev rm_La_arm : Room := { frames := 0, cells := 0, slots := 0, locals := 0 }
set_option maxHeartbeats 4000000 in
set_option maxRecDepth 100000 in
theorem c_La_arm (l : Launch) (D : va_G) (cI cZ cJ : ClassId) (a : Nat → Nat) (sz : Nat) (S : GS) (p0 : Int32) (post : GS → Prop) (hf : wp_La_arm S p0 post) : Met l y_La_arm ws_La_arm rm_La_arm (va_Pc [.ref (a 6), .int p0] (gPre D (tys cI cZ cJ) (gkW cI cZ cJ a S) sz)) (va_Qv post (gB D (tys cI cZ cJ) (gkW cI cZ cJ a) (va_A (gkW cI cZ cJ a S) sz)) (va_A (gkW cI cZ cJ a S) sz)) 0 0 (va_A (gkW cI cZ cJ a S) sz) := by
  refine gm_w (QF := fun A => va_Qv post (gB D (tys cI cZ cJ) (gkW cI cZ cJ a) A) A) (cc := b_La_arm) (maxL := 2) (by decide) rfl (Nat.le_of_ble_eq_true rfl) ?_
  intro p e s m args below meth c A ls hx hb hr hts hown hmn hlk hml hK hA hw hl
  have hl : lv_has ls 2 [(0, .ref (a 6)), (1, .int p0)] := hl
  have hinLa : ∀ w ∈ u_ws R_La T_La 3, w ∈ ws_La_arm := fun w h => List.mem_cons_of_mem _ (tl_La w h)
  have hl19 := hts _ (List.mem_cons_of_mem _ tf_La_19)
  unfold wp_La_arm at hf
  refine lv_aload_n (pc := 0) hx hb d_La_arm_0 rfl (lv_at hl 0 rfl) ?_
  refine lv_dup (pc := 1) hx hb d_La_arm_1 rfl ?_
  refine gk_gt_La_armed (pc := 2) (v := (S.1 9 0)) hx hb hK hts hinLa hown hw.1 hl19 rfl d_La_arm_2 ?_
  refine lv_iconst (pc := 5) (v := 1) hx hb d_La_arm_5 (by decide) ?_
  refine lv_iload_n (pc := 6) hx hb d_La_arm_6 rfl (lv_at hl 1 rfl) ?_
  refine lv_ishl (pc := 7) hx hb d_La_arm_7 ?_
  refine lv_ior (pc := 8) hx hb d_La_arm_8 ?_
  refine gk_pt_La_armed (pc := 9) hx hb hK hts hinLa hown hw hl19 d_La_arm_9 (fun H locs hw => ?_)
  exact gr_v (pc := 12) hx hb hr hlk hK (gI S 9 (fun _ => ((S.1 9 0) ||| ((1 : Int32) <<< (p0 &&& 31))))) hw hf d_La_arm_12
def wp_Km_b (S : GS) (p0 : Int32) (p1 : Int32) (post : Int32 → Prop) : Prop := ((p0 = (-1 : Int32) → (post (0 : Int32))) ∧ (¬ p0 = (-1 : Int32) → (vp_in ((p0 * (24 : Int32)) + p1) 96 ∧ (post ((S.1 20) ((p0 * (24 : Int32)) + p1).toNatClampNeg)))))
abbrev rm_Km_b : Room := { frames := 0, cells := 0, slots := 0, locals := 0 }
set_option maxHeartbeats 4000000 in
set_option maxRecDepth 100000 in
theorem c_Km_b (l : Launch) (D : va_G) (cI cZ cJ : ClassId) (a : Nat → Nat) (S : GS) (p0 : Int32) (p1 : Int32) (post : Int32 → Prop) (hf : wp_Km_b S p0 p1 post) : Met l y_Km_b ws_Km_b rm_Km_b (va_Pc [.ref (a 4), .int p0, .int p1] (rPre D (tys cI cZ cJ) (gkW cI cZ cJ a S))) (vp_Si post) 0 0 (fun _ => False) := by
  refine gm_r (cc := b_Km_b) (maxL := 3) (by decide) rfl (Nat.le_of_ble_eq_true rfl) ?_
  intro p e s m args below meth c ls hx hb hr hts hown hlk hml hK hP hl
  have hl : lv_has ls 3 [(0, .ref (a 4)), (1, .int p0), (2, .int p1)] := hl
  have hinKm : ∀ w ∈ u_ws R_Km T_Km 4, w ∈ ws_Km_b := fun w h => List.mem_cons_of_mem _ (tl_Km w h)
  have hl18 := hts _ (List.mem_cons_of_mem _ tf_Km_18)
  unfold wp_Km_b at hf
  refine lv_iload_n (pc := 0) hx hb d_Km_b_0 rfl (lv_at hl 1 rfl) ?_
  refine lv_iconst (pc := 1) (v := -1) hx hb d_Km_b_1 (by decide) ?_
  refine lv_icmp_ne (pc := 2) (tgt := 9) hx hb d_Km_b_2 (by decide) (fun hc => ?_) (fun hc => ?_)
  · replace hf := hf.2 hc
    refine lv_aload_n (pc := 9) hx hb d_Km_b_9 rfl (lv_at hl 0 rfl) ?_
    refine gk_gt_Km_seconds (pc := 10) hx hb hK hts hinKm hown hP hl18 d_Km_b_10 ?_
    refine lv_iload_n (pc := 13) hx hb d_Km_b_13 rfl (lv_at hl 1 rfl) ?_
    refine lv_bipush (pc := 14) (v := 24) hx hb d_Km_b_14 (by decide) ?_
    refine lv_imul (pc := 16) hx hb d_Km_b_16 ?_
    refine lv_iload_n (pc := 17) hx hb d_Km_b_17 rfl (lv_at hl 2 rfl) ?_
    refine lv_iadd (pc := 18) hx hb d_Km_b_18 ?_
    refine gk_ld16 (pc := 19) (v := ((S.1 20) ((p0 * (24 : Int32)) + p1).toNatClampNeg)) hx hb hK hP hf.1 rfl d_Km_b_19 ?_
    replace hf := hf.2
    exact rr_i (pc := 20) hx hb hr hlk hf d_Km_b_20
  replace hf := hf.1 hc
  refine lv_iconst (pc := 5) (v := 0) hx hb d_Km_b_5 (by decide) ?_
  refine lv_goto (pc := 6) (tgt := 20) hx hb d_Km_b_6 (by decide) ?_
  exact rr_i (pc := 20) hx hb hr hlk hf d_Km_b_20
def wp_Km_macroCode (S : GS) (p0 : Int32) (p1 : Int32) (post : Int32 → Prop) : Prop := (vp_in ((p0 * (4 : Int32)) + p1) 16 ∧ (post ((S.1 21) ((p0 * (4 : Int32)) + p1).toNatClampNeg)))
abbrev rm_Km_macroCode : Room := { frames := 0, cells := 0, slots := 0, locals := 0 }
set_option maxHeartbeats 4000000 in
set_option maxRecDepth 100000 in
theorem c_Km_macroCode (l : Launch) (D : va_G) (cI cZ cJ : ClassId) (a : Nat → Nat) (S : GS) (p0 : Int32) (p1 : Int32) (post : Int32 → Prop) (hf : wp_Km_macroCode S p0 p1 post) : Met l y_Km_macroCode ws_Km_macroCode rm_Km_macroCode (va_Pc [.ref (a 4), .int p0, .int p1] (rPre D (tys cI cZ cJ) (gkW cI cZ cJ a S))) (vp_Si post) 0 0 (fun _ => False) := by
  refine gm_r (cc := b_Km_macroCode) (maxL := 3) (by decide) rfl (Nat.le_of_ble_eq_true rfl) ?_
  intro p e s m args below meth c ls hx hb hr hts hown hlk hml hK hP hl
  have hl : lv_has ls 3 [(0, .ref (a 4)), (1, .int p0), (2, .int p1)] := hl
  have hinKm : ∀ w ∈ u_ws R_Km T_Km 4, w ∈ ws_Km_macroCode := fun w h => List.mem_cons_of_mem _ (tl_Km w h)
  have hl21 := hts _ (List.mem_cons_of_mem _ tf_Km_21)
  unfold wp_Km_macroCode at hf
  refine lv_aload_n (pc := 0) hx hb d_Km_macroCode_0 rfl (lv_at hl 0 rfl) ?_
  refine gk_gt_Km_macroCodes (pc := 1) hx hb hK hts hinKm hown hP hl21 d_Km_macroCode_1 ?_
  refine lv_iload_n (pc := 4) hx hb d_Km_macroCode_4 rfl (lv_at hl 1 rfl) ?_
  refine lv_iconst (pc := 5) (v := 4) hx hb d_Km_macroCode_5 (by decide) ?_
  refine lv_imul (pc := 6) hx hb d_Km_macroCode_6 ?_
  refine lv_iload_n (pc := 7) hx hb d_Km_macroCode_7 rfl (lv_at hl 2 rfl) ?_
  refine lv_iadd (pc := 8) hx hb d_Km_macroCode_8 ?_
  refine gk_ld17 (pc := 9) (v := ((S.1 21) ((p0 * (4 : Int32)) + p1).toNatClampNeg)) hx hb hK hP hf.1 rfl d_Km_macroCode_9 ?_
  replace hf := hf.2
  exact rr_i (pc := 10) hx hb hr hlk hf d_Km_macroCode_10
def wp_Re_takeOldest (S : GS) (post : Int32 → GS → Prop) : Prop := (((S.1 11 0) = (0 : Int32) → (post (0 : Int32) S)) ∧ (¬ (S.1 11 0) = (0 : Int32) → (vp_in (S.1 10 0) 8 ∧ (((S.1 12 0) = (0 : Int32) → (post (1 : Int32) (gI (gI (gL S 1 (fun _ => ((S.2 2) (S.1 10 0).toNatClampNeg))) 10 (fun _ => (((S.1 10 0) + (1 : Int32)) - ((S.1 10 0) + (1 : Int32)) / (8 : Int32) * (8 : Int32)))) 11 (fun _ => ((S.1 11 0) - (1 : Int32)))))) ∧ (¬ (S.1 12 0) = (0 : Int32) → (wp_Re_packed (gI (gI (gI (gL S 1 (fun _ => ((S.2 2) (S.1 10 0).toNatClampNeg))) 10 (fun _ => (((S.1 10 0) + (1 : Int32)) - ((S.1 10 0) + (1 : Int32)) / (8 : Int32) * (8 : Int32)))) 11 (fun _ => ((S.1 11 0) - (1 : Int32)))) 12 (fun _ => (0 : Int32))) (fun r59 => (wp_Re_putIfOther (gI (gI (gI (gL S 1 (fun _ => ((S.2 2) (S.1 10 0).toNatClampNeg))) 10 (fun _ => (((S.1 10 0) + (1 : Int32)) - ((S.1 10 0) + (1 : Int32)) / (8 : Int32) * (8 : Int32)))) 11 (fun _ => ((S.1 11 0) - (1 : Int32)))) 12 (fun _ => (0 : Int32))) r59 (fun S62 => (post (1 : Int32) S62))))))))))
abbrev rm_Re_takeOldest : Room := { frames := 1, cells := 0, slots := 0, locals := 29 }
set_option maxHeartbeats 4000000 in
set_option maxRecDepth 100000 in
theorem c_Re_takeOldest (l : Launch) (D : va_G) (cI cZ cJ : ClassId) (a : Nat → Nat) (sz : Nat) (S : GS) (post : Int32 → GS → Prop) (hf : wp_Re_takeOldest S post) : Met l y_Re_takeOldest ws_Re_takeOldest rm_Re_takeOldest (va_Pc [.ref (a 8)] (gPre D (tys cI cZ cJ) (gkW cI cZ cJ a S) sz)) (va_Qi post (gB D (tys cI cZ cJ) (gkW cI cZ cJ a) (va_A (gkW cI cZ cJ a S) sz)) (va_A (gkW cI cZ cJ a S) sz)) 0 0 (va_A (gkW cI cZ cJ a S) sz) := by
  refine gm_w (QF := fun A => va_Qi post (gB D (tys cI cZ cJ) (gkW cI cZ cJ a) A) A) (cc := b_Re_takeOldest) (maxL := 1) (by decide) rfl (Nat.le_of_ble_eq_true rfl) ?_
  intro p e s m args below meth c A ls hx hb hr hts hown hmn hlk hml hK hA hw hl
  have hl : lv_has ls 1 [(0, .ref (a 8))] := hl
  have hinRe : ∀ w ∈ u_ws R_Re T_Re 7, w ∈ ws_Re_takeOldest := fun w h => List.mem_cons_of_mem _ (tl_Re w h)
  have hl15 := hts _ (List.mem_cons_of_mem _ tf_Re_15)
  have hl19 := hts _ (List.mem_cons_of_mem _ tf_Re_19)
  have hl23 := hts _ (List.mem_cons_of_mem _ tf_Re_23)
  have hl35 := hts _ (List.mem_cons_of_mem _ tf_Re_35)
  have hl38 := hts _ (List.mem_cons_of_mem _ tf_Re_38)
  unfold wp_Re_takeOldest at hf
  refine lv_aload_n (pc := 0) hx hb d_Re_takeOldest_0 rfl (lv_at hl 0 rfl) ?_
  refine gk_gt_Re_stored (pc := 1) (v := (S.1 11 0)) hx hb hK hts hinRe hown hw.1 hl19 rfl d_Re_takeOldest_1 ?_
  refine lv_if_ne (pc := 4) (tgt := 9) hx hb d_Re_takeOldest_4 (by decide) (fun hc => ?_) (fun hc => ?_)
  · replace hf := hf.2 hc
    refine lv_aload_n (pc := 9) hx hb d_Re_takeOldest_9 rfl (lv_at hl 0 rfl) ?_
    refine lv_aload_n (pc := 10) hx hb d_Re_takeOldest_10 rfl (lv_at hl 0 rfl) ?_
    refine gk_gt_Re_store (pc := 11) hx hb hK hts hinRe hown hw.1 hl15 d_Re_takeOldest_11 ?_
    refine lv_aload_n (pc := 14) hx hb d_Re_takeOldest_14 rfl (lv_at hl 0 rfl) ?_
    refine gk_gt_Re_oldest (pc := 15) (v := (S.1 10 0)) hx hb hK hts hinRe hown hw.1 hl35 rfl d_Re_takeOldest_15 ?_
    refine gk_ld24 (pc := 18) (v := ((S.2 2) (S.1 10 0).toNatClampNeg)) hx hb hK hw.1 hf.1 rfl d_Re_takeOldest_18 ?_
    replace hf := hf.2
    refine gk_pt_Re_taken (pc := 19) hx hb hK hts hinRe hown hw hl38 d_Re_takeOldest_19 (fun H locs hw => ?_)
    refine lv_aload_n (pc := 22) hx hb d_Re_takeOldest_22 rfl (lv_at hl 0 rfl) ?_
    refine lv_aload_n (pc := 23) hx hb d_Re_takeOldest_23 rfl (lv_at hl 0 rfl) ?_
    refine gk_gt_Re_oldest (pc := 24) (v := (S.1 10 0)) hx hb hK hts hinRe hown hw.1 hl35 rfl d_Re_takeOldest_24 ?_
    refine lv_iconst (pc := 27) (v := 1) hx hb d_Re_takeOldest_27 (by decide) ?_
    refine lv_iadd (pc := 28) hx hb d_Re_takeOldest_28 ?_
    refine lv_bipush (pc := 29) (v := 8) hx hb d_Re_takeOldest_29 (by decide) ?_
    refine lv_irem (pc := 31) hx hb d_Re_takeOldest_31 (by decide) ?_
    refine gk_pt_Re_oldest (pc := 32) hx hb hK hts hinRe hown hw hl35 d_Re_takeOldest_32 (fun H locs hw => ?_)
    refine lv_aload_n (pc := 35) hx hb d_Re_takeOldest_35 rfl (lv_at hl 0 rfl) ?_
    refine lv_dup (pc := 36) hx hb d_Re_takeOldest_36 rfl ?_
    refine gk_gt_Re_stored (pc := 37) (v := (S.1 11 0)) hx hb hK hts hinRe hown hw.1 hl19 rfl d_Re_takeOldest_37 ?_
    refine lv_iconst (pc := 40) (v := 1) hx hb d_Re_takeOldest_40 (by decide) ?_
    refine lv_isub (pc := 41) hx hb d_Re_takeOldest_41 ?_
    refine gk_pt_Re_stored (pc := 42) hx hb hK hts hinRe hown hw hl19 d_Re_takeOldest_42 (fun H locs hw => ?_)
    refine lv_aload_n (pc := 45) hx hb d_Re_takeOldest_45 rfl (lv_at hl 0 rfl) ?_
    refine gk_gt_Re_late (pc := 46) (v := (S.1 12 0)) hx hb hK hts hinRe hown hw.1 hl23 rfl d_Re_takeOldest_46 ?_
    refine lv_if_eq (pc := 49) (tgt := 65) hx hb d_Re_takeOldest_49 (by decide) (fun hc => ?_) (fun hc => ?_)
    · replace hf := hf.1 hc
      refine lv_iconst (pc := 65) (v := 1) hx hb d_Re_takeOldest_65 (by decide) ?_
      exact gr_z (pc := 66) hx hb hr hlk hK (gI (gI (gL S 1 (fun _ => ((S.2 2) (S.1 10 0).toNatClampNeg))) 10 (fun _ => (((S.1 10 0) + (1 : Int32)) - ((S.1 10 0) + (1 : Int32)) / (8 : Int32) * (8 : Int32)))) 11 (fun _ => ((S.1 11 0) - (1 : Int32)))) hw (by decide) hf d_Re_takeOldest_66
    replace hf := hf.2 hc
    refine lv_aload_n (pc := 52) hx hb d_Re_takeOldest_52 rfl (lv_at hl 0 rfl) ?_
    refine lv_iconst (pc := 53) (v := 0) hx hb d_Re_takeOldest_53 (by decide) ?_
    refine gk_pt_Re_late (pc := 54) hx hb hK hts hinRe hown hw hl23 (by decide) (by decide) d_Re_takeOldest_54 (fun H locs hw => ?_)
    refine lv_aload_n (pc := 57) hx hb d_Re_takeOldest_57 rfl (lv_at hl 0 rfl) ?_
    refine lv_aload_n (pc := 58) hx hb d_Re_takeOldest_58 rfl (lv_at hl 0 rfl) ?_
    refine vp_callSl (pc := 59) (W.runV (As := []) (rest := [.ref (a 8)]) ⟨hx, hb, hml, hown, hts⟩ (c_Re_packed l D cI cZ cJ a _ _ hf) (cwV 0 hts (tb_wsV tc_Re_packed tm_Re_27 ti_Re_packed te_Re_packed tz_Re) rfl rfl rfl (by decide +kernel) ⟨Nat.le_of_ble_eq_true rfl, Nat.le_of_ble_eq_true rfl⟩) (r_preV (q0 := 8) (ci := 8) hK hw.1 rfl rfl) rfl rfl hl.1 rfl (lv_room (Nat.le_of_ble_eq_true rfl)) d_Re_takeOldest_59 ⟨Nat.zero_le _, Nat.zero_le _⟩) (fun r59 hf => ?_)
    refine gc_v (pc := 62) (Wf := gkW cI cZ cJ a) hw hA (va_runV (As := [.long r59]) (rest := []) ⟨hx, hb, hml, hown, hts⟩ (c_Re_putIfOther l D cI cZ cJ a _ _ _ _ hf) (cwV 1 hts (tb_wsV tc_Re_putIfOther tm_Re_31 ti_Re_putIfOther te_Re_putIfOther tz_Re) rfl rfl rfl (by decide +kernel) ⟨Nat.le_of_ble_eq_true rfl, Nat.le_of_ble_eq_true rfl⟩) (g_preV (q0 := 8) (ci := 8) hK hw rfl rfl) rfl rfl hl.1 rfl (lv_room (Nat.le_of_ble_eq_true rfl)) d_Re_takeOldest_62 ⟨Nat.zero_le _, Nat.zero_le _⟩) (fun S62 H locs hw hf => ?_)
    refine lv_iconst (pc := 65) (v := 1) hx hb d_Re_takeOldest_65 (by decide) ?_
    exact gr_z (pc := 66) hx hb hr hlk hK S62 hw (by decide) hf d_Re_takeOldest_66
  replace hf := hf.1 hc
  refine lv_iconst (pc := 7) (v := 0) hx hb d_Re_takeOldest_7 (by decide) ?_
  exact gr_z (pc := 8) hx hb hr hlk hK S hw (by decide) hf d_Re_takeOldest_8
def wp_Re_partOfTaken (S : GS) (p0 : Int32) (post : Int32 → Prop) : Prop := ((p0 < (0 : Int32) → (post (-1 : Int32))) ∧ (¬ p0 < (0 : Int32) → ((p0 ≤ (6 : Int32) → ((p0 = (0 : Int32) → (post ((S.2 1 0) &&& (255 : Int64)).toInt32)) ∧ (¬ p0 = (0 : Int32) → (post (((S.2 1 0) >>> (((8 : Int32) + ((7 : Int32) * (p0 - (1 : Int32)))).toInt64 &&& 63)) &&& (127 : Int64)).toInt32)))) ∧ (¬ p0 ≤ (6 : Int32) → (post (-1 : Int32))))))
abbrev rm_Re_partOfTaken : Room := { frames := 0, cells := 0, slots := 0, locals := 0 }
set_option maxHeartbeats 4000000 in
set_option maxRecDepth 100000 in
theorem c_Re_partOfTaken (l : Launch) (D : va_G) (cI cZ cJ : ClassId) (a : Nat → Nat) (S : GS) (p0 : Int32) (post : Int32 → Prop) (hf : wp_Re_partOfTaken S p0 post) : Met l y_Re_partOfTaken ws_Re_partOfTaken rm_Re_partOfTaken (va_Pc [.ref (a 8), .int p0] (rPre D (tys cI cZ cJ) (gkW cI cZ cJ a S))) (vp_Si post) 0 0 (fun _ => False) := by
  refine gm_r (cc := b_Re_partOfTaken) (maxL := 3) (by decide) rfl (Nat.le_of_ble_eq_true rfl) ?_
  intro p e s m args below meth c ls hx hb hr hts hown hlk hml hK hP hl
  have hl : lv_has ls 3 [(0, .ref (a 8)), (1, .int p0)] := hl
  have hinRe : ∀ w ∈ u_ws R_Re T_Re 7, w ∈ ws_Re_partOfTaken := fun w h => List.mem_cons_of_mem _ (tl_Re w h)
  have hl38 := hts _ (List.mem_cons_of_mem _ tf_Re_38)
  unfold wp_Re_partOfTaken at hf
  refine lv_iload_n (pc := 0) hx hb d_Re_partOfTaken_0 rfl (lv_at hl 1 rfl) ?_
  refine lv_if_lt (pc := 1) (tgt := 10) hx hb d_Re_partOfTaken_1 (by decide) (fun hc => ?_) (fun hc => ?_)
  · replace hf := hf.1 hc
    refine lv_iconst (pc := 10) (v := -1) hx hb d_Re_partOfTaken_10 (by decide) ?_
    exact rr_i (pc := 11) hx hb hr hlk hf d_Re_partOfTaken_11
  replace hf := hf.2 hc
  refine lv_iload_n (pc := 4) hx hb d_Re_partOfTaken_4 rfl (lv_at hl 1 rfl) ?_
  refine lv_bipush (pc := 5) (v := 6) hx hb d_Re_partOfTaken_5 (by decide) ?_
  refine lv_icmp_le (pc := 7) (tgt := 12) hx hb d_Re_partOfTaken_7 (by decide) (fun hc => ?_) (fun hc => ?_)
  · replace hf := hf.1 hc
    refine lv_iload_n (pc := 12) hx hb d_Re_partOfTaken_12 rfl (lv_at hl 1 rfl) ?_
    refine lv_if_ne (pc := 13) (tgt := 26) hx hb d_Re_partOfTaken_13 (by decide) (fun hc => ?_) (fun hc => ?_)
    · replace hf := hf.2 hc
      refine lv_bipush (pc := 26) (v := 8) hx hb d_Re_partOfTaken_26 (by decide) ?_
      refine lv_bipush (pc := 28) (v := 7) hx hb d_Re_partOfTaken_28 (by decide) ?_
      refine lv_iload_n (pc := 30) hx hb d_Re_partOfTaken_30 rfl (lv_at hl 1 rfl) ?_
      refine lv_iconst (pc := 31) (v := 1) hx hb d_Re_partOfTaken_31 (by decide) ?_
      refine lv_isub (pc := 32) hx hb d_Re_partOfTaken_32 ?_
      refine lv_imul (pc := 33) hx hb d_Re_partOfTaken_33 ?_
      refine lv_iadd (pc := 34) hx hb d_Re_partOfTaken_34 ?_
      refine lv_istore_n (pc := 35) (lv' := [(2, .int ((8 : Int32) + ((7 : Int32) * (p0 - (1 : Int32))))), (0, .ref (a 8)), (1, .int p0)]) hx hb d_Re_partOfTaken_35 rfl hl (by decide) rfl (fun ls hl => ?_)
      refine lv_aload_n (pc := 36) hx hb d_Re_partOfTaken_36 rfl (lv_at hl 1 rfl) ?_
      refine gk_gt_Re_taken (pc := 37) (v := (S.2 1 0)) hx hb hK hts hinRe hown hP hl38 rfl d_Re_partOfTaken_37 ?_
      refine lv_iload_n (pc := 40) hx hb d_Re_partOfTaken_40 rfl (lv_at hl 0 rfl) ?_
      refine lv_lshr (pc := 41) hx hb d_Re_partOfTaken_41 rfl ?_
      refine lv_ldc2 (pc := 42) hx hb hown (hts _ (List.mem_cons_of_mem _ tk_Re_44)) d_Re_partOfTaken_42 ?_
      refine lv_land (pc := 45) hx hb d_Re_partOfTaken_45 ?_
      refine lv_l2i (pc := 46) hx hb d_Re_partOfTaken_46 rfl ?_
      exact rr_i (pc := 47) hx hb hr hlk hf d_Re_partOfTaken_47
    replace hf := hf.1 hc
    refine lv_aload_n (pc := 16) hx hb d_Re_partOfTaken_16 rfl (lv_at hl 0 rfl) ?_
    refine gk_gt_Re_taken (pc := 17) (v := (S.2 1 0)) hx hb hK hts hinRe hown hP hl38 rfl d_Re_partOfTaken_17 ?_
    refine lv_ldc2 (pc := 20) hx hb hown (hts _ (List.mem_cons_of_mem _ tk_Re_42)) d_Re_partOfTaken_20 ?_
    refine lv_land (pc := 23) hx hb d_Re_partOfTaken_23 ?_
    refine lv_l2i (pc := 24) hx hb d_Re_partOfTaken_24 rfl ?_
    exact rr_i (pc := 25) hx hb hr hlk hf d_Re_partOfTaken_25
  replace hf := hf.2 hc
  refine lv_iconst (pc := 10) (v := -1) hx hb d_Re_partOfTaken_10 (by decide) ?_
  exact rr_i (pc := 11) hx hb hr hlk hf d_Re_partOfTaken_11
def wp_Re_stored (S : GS) (post : Int32 → Prop) : Prop := (post (S.1 11 0))
abbrev rm_Re_stored : Room := { frames := 0, cells := 0, slots := 0, locals := 0 }
set_option maxHeartbeats 4000000 in
set_option maxRecDepth 100000 in
theorem c_Re_stored (l : Launch) (D : va_G) (cI cZ cJ : ClassId) (a : Nat → Nat) (S : GS) (post : Int32 → Prop) (hf : wp_Re_stored S post) : Met l y_Re_stored ws_Re_stored rm_Re_stored (va_Pc [.ref (a 8)] (rPre D (tys cI cZ cJ) (gkW cI cZ cJ a S))) (vp_Si post) 0 0 (fun _ => False) := by
  refine gm_r (cc := b_Re_stored) (maxL := 1) (by decide) rfl (Nat.le_of_ble_eq_true rfl) ?_
  intro p e s m args below meth c ls hx hb hr hts hown hlk hml hK hP hl
  have hl : lv_has ls 1 [(0, .ref (a 8))] := hl
  have hinRe : ∀ w ∈ u_ws R_Re T_Re 7, w ∈ ws_Re_stored := fun w h => List.mem_cons_of_mem _ (tl_Re w h)
  have hl19 := hts _ (List.mem_cons_of_mem _ tf_Re_19)
  unfold wp_Re_stored at hf
  refine lv_aload_n (pc := 0) hx hb d_Re_stored_0 rfl (lv_at hl 0 rfl) ?_
  refine gk_gt_Re_stored (pc := 1) (v := (S.1 11 0)) hx hb hK hts hinRe hown hP hl19 rfl d_Re_stored_1 ?_
  exact rr_i (pc := 4) hx hb hr hlk hf d_Re_stored_4
def wp_Re_isLate (S : GS) (post : Int32 → Prop) : Prop := (narrow .boolean (.int (S.1 12 0)) = .int (S.1 12 0) ∧ (post (S.1 12 0)))
abbrev rm_Re_isLate : Room := { frames := 0, cells := 0, slots := 0, locals := 0 }
set_option maxHeartbeats 4000000 in
set_option maxRecDepth 100000 in
theorem c_Re_isLate (l : Launch) (D : va_G) (cI cZ cJ : ClassId) (a : Nat → Nat) (S : GS) (post : Int32 → Prop) (hf : wp_Re_isLate S post) : Met l y_Re_isLate ws_Re_isLate rm_Re_isLate (va_Pc [.ref (a 8)] (rPre D (tys cI cZ cJ) (gkW cI cZ cJ a S))) (vp_Si post) 0 0 (fun _ => False) := by
  refine gm_r (cc := b_Re_isLate) (maxL := 1) (by decide) rfl (Nat.le_of_ble_eq_true rfl) ?_
  intro p e s m args below meth c ls hx hb hr hts hown hlk hml hK hP hl
  have hl : lv_has ls 1 [(0, .ref (a 8))] := hl
  have hinRe : ∀ w ∈ u_ws R_Re T_Re 7, w ∈ ws_Re_isLate := fun w h => List.mem_cons_of_mem _ (tl_Re w h)
  have hl23 := hts _ (List.mem_cons_of_mem _ tf_Re_23)
  unfold wp_Re_isLate at hf
  refine lv_aload_n (pc := 0) hx hb d_Re_isLate_0 rfl (lv_at hl 0 rfl) ?_
  refine gk_gt_Re_late (pc := 1) (v := (S.1 12 0)) hx hb hK hts hinRe hown hP hl23 rfl d_Re_isLate_1 ?_
  exact rr_z (pc := 4) hx hb hr hlk hf.1 hf.2 d_Re_isLate_4
def wp_Km_setAction (S : GS) (p0 : Int32) (p1 : Int32) (p2 : Int32) (p3 : Int32) (p4 : Int32) (post : GS → Prop) : Prop := (vp_in ((p0 * (24 : Int32)) + p1) 96 ∧ (vp_in ((p0 * (24 : Int32)) + p1) 96 ∧ (vp_in ((p0 * (24 : Int32)) + p1) 96 ∧ (post (gI (gI (gI S 18 (upd (S.1 18) (((p0 * (24 : Int32)) + p1)).toNatClampNeg p2)) 19 (upd (S.1 19) (((p0 * (24 : Int32)) + p1)).toNatClampNeg p3)) 20 (upd (S.1 20) (((p0 * (24 : Int32)) + p1)).toNatClampNeg p4))))))
abbrev rm_Km_setAction : Room := { frames := 0, cells := 0, slots := 0, locals := 0 }
set_option maxHeartbeats 4000000 in
set_option maxRecDepth 100000 in
theorem c_Km_setAction (l : Launch) (D : va_G) (cI cZ cJ : ClassId) (a : Nat → Nat) (sz : Nat) (S : GS) (p0 : Int32) (p1 : Int32) (p2 : Int32) (p3 : Int32) (p4 : Int32) (post : GS → Prop) (hf : wp_Km_setAction S p0 p1 p2 p3 p4 post) : Met l y_Km_setAction ws_Km_setAction rm_Km_setAction (va_Pc [.ref (a 4), .int p0, .int p1, .int p2, .int p3, .int p4] (gPre D (tys cI cZ cJ) (gkW cI cZ cJ a S) sz)) (va_Qv post (gB D (tys cI cZ cJ) (gkW cI cZ cJ a) (va_A (gkW cI cZ cJ a S) sz)) (va_A (gkW cI cZ cJ a S) sz)) 0 0 (va_A (gkW cI cZ cJ a S) sz) := by
  refine gm_w (QF := fun A => va_Qv post (gB D (tys cI cZ cJ) (gkW cI cZ cJ a) A) A) (cc := b_Km_setAction) (maxL := 7) (by decide) rfl (Nat.le_of_ble_eq_true rfl) ?_
  intro p e s m args below meth c A ls hx hb hr hts hown hmn hlk hml hK hA hw hl
  have hl : lv_has ls 7 [(0, .ref (a 4)), (1, .int p0), (2, .int p1), (3, .int p2), (4, .int p3), (5, .int p4)] := hl
  have hinKm : ∀ w ∈ u_ws R_Km T_Km 4, w ∈ ws_Km_setAction := fun w h => List.mem_cons_of_mem _ (tl_Km w h)
  have hl9 := hts _ (List.mem_cons_of_mem _ tf_Km_9)
  have hl15 := hts _ (List.mem_cons_of_mem _ tf_Km_15)
  have hl18 := hts _ (List.mem_cons_of_mem _ tf_Km_18)
  unfold wp_Km_setAction at hf
  refine lv_iload_n (pc := 0) hx hb d_Km_setAction_0 rfl (lv_at hl 1 rfl) ?_
  refine lv_bipush (pc := 1) (v := 24) hx hb d_Km_setAction_1 (by decide) ?_
  refine lv_imul (pc := 3) hx hb d_Km_setAction_3 ?_
  refine lv_iload_n (pc := 4) hx hb d_Km_setAction_4 rfl (lv_at hl 2 rfl) ?_
  refine lv_iadd (pc := 5) hx hb d_Km_setAction_5 ?_
  refine lv_istore (pc := 6) (lv' := [(6, .int ((p0 * (24 : Int32)) + p1)), (0, .ref (a 4)), (1, .int p0), (2, .int p1), (3, .int p2), (4, .int p3), (5, .int p4)]) hx hb d_Km_setAction_6 hl (by decide) rfl (fun ls hl => ?_)
  refine lv_aload_n (pc := 8) hx hb d_Km_setAction_8 rfl (lv_at hl 1 rfl) ?_
  refine gk_gt_Km_kinds (pc := 9) hx hb hK hts hinKm hown hw.1 hl9 d_Km_setAction_9 ?_
  refine lv_iload (pc := 12) hx hb d_Km_setAction_12 (lv_at hl 0 rfl) ?_
  refine lv_iload_n (pc := 14) hx hb d_Km_setAction_14 rfl (lv_at hl 4 rfl) ?_
  refine gk_st14 (pc := 15) hx hb hK hw hf.1 d_Km_setAction_15 (fun H locs hw => ?_)
  replace hf := hf.2
  refine lv_aload_n (pc := 16) hx hb d_Km_setAction_16 rfl (lv_at hl 1 rfl) ?_
  refine gk_gt_Km_firsts (pc := 17) hx hb hK hts hinKm hown hw.1 hl15 d_Km_setAction_17 ?_
  refine lv_iload (pc := 20) hx hb d_Km_setAction_20 (lv_at hl 0 rfl) ?_
  refine lv_iload (pc := 22) hx hb d_Km_setAction_22 (lv_at hl 5 rfl) ?_
  refine gk_st15 (pc := 24) hx hb hK hw hf.1 d_Km_setAction_24 (fun H locs hw => ?_)
  replace hf := hf.2
  have hw : wf D A s.heap (gkW cI cZ cJ a (gI (gI S 18 (upd (S.1 18) (((p0 * (24 : Int32)) + p1)).toNatClampNeg p2)) 19 (upd (S.1 19) (((p0 * (24 : Int32)) + p1)).toNatClampNeg p3))) H locs := hw
  refine lv_aload_n (pc := 25) hx hb d_Km_setAction_25 rfl (lv_at hl 1 rfl) ?_
  refine gk_gt_Km_seconds (pc := 26) hx hb hK hts hinKm hown hw.1 hl18 d_Km_setAction_26 ?_
  refine lv_iload (pc := 29) hx hb d_Km_setAction_29 (lv_at hl 0 rfl) ?_
  refine lv_iload (pc := 31) hx hb d_Km_setAction_31 (lv_at hl 6 rfl) ?_
  refine gk_st16 (pc := 33) hx hb hK hw hf.1 d_Km_setAction_33 (fun H locs hw => ?_)
  replace hf := hf.2
  have hw : wf D A s.heap (gkW cI cZ cJ a (gI (gI (gI S 18 (upd (S.1 18) (((p0 * (24 : Int32)) + p1)).toNatClampNeg p2)) 19 (upd (S.1 19) (((p0 * (24 : Int32)) + p1)).toNatClampNeg p3)) 20 (upd (S.1 20) (((p0 * (24 : Int32)) + p1)).toNatClampNeg p4))) H locs := hw
  exact gr_v (pc := 34) hx hb hr hlk hK (gI (gI (gI S 18 (upd (S.1 18) (((p0 * (24 : Int32)) + p1)).toNatClampNeg p2)) 19 (upd (S.1 19) (((p0 * (24 : Int32)) + p1)).toNatClampNeg p3)) 20 (upd (S.1 20) (((p0 * (24 : Int32)) + p1)).toNatClampNeg p4)) hw hf d_Km_setAction_34
def wp_Km_setMacroCode (S : GS) (p0 : Int32) (p1 : Int32) (p2 : Int32) (post : GS → Prop) : Prop := (vp_in ((p0 * (4 : Int32)) + p1) 16 ∧ (post (gI S 21 (upd (S.1 21) (((p0 * (4 : Int32)) + p1)).toNatClampNeg p2))))
abbrev rm_Km_setMacroCode : Room := { frames := 0, cells := 0, slots := 0, locals := 0 }
set_option maxHeartbeats 4000000 in
set_option maxRecDepth 100000 in
theorem c_Km_setMacroCode (l : Launch) (D : va_G) (cI cZ cJ : ClassId) (a : Nat → Nat) (sz : Nat) (S : GS) (p0 : Int32) (p1 : Int32) (p2 : Int32) (post : GS → Prop) (hf : wp_Km_setMacroCode S p0 p1 p2 post) : Met l y_Km_setMacroCode ws_Km_setMacroCode rm_Km_setMacroCode (va_Pc [.ref (a 4), .int p0, .int p1, .int p2] (gPre D (tys cI cZ cJ) (gkW cI cZ cJ a S) sz)) (va_Qv post (gB D (tys cI cZ cJ) (gkW cI cZ cJ a) (va_A (gkW cI cZ cJ a S) sz)) (va_A (gkW cI cZ cJ a S) sz)) 0 0 (va_A (gkW cI cZ cJ a S) sz) := by
  refine gm_w (QF := fun A => va_Qv post (gB D (tys cI cZ cJ) (gkW cI cZ cJ a) A) A) (cc := b_Km_setMacroCode) (maxL := 4) (by decide) rfl (Nat.le_of_ble_eq_true rfl) ?_
  intro p e s m args below meth c A ls hx hb hr hts hown hmn hlk hml hK hA hw hl
  have hl : lv_has ls 4 [(0, .ref (a 4)), (1, .int p0), (2, .int p1), (3, .int p2)] := hl
  have hinKm : ∀ w ∈ u_ws R_Km T_Km 4, w ∈ ws_Km_setMacroCode := fun w h => List.mem_cons_of_mem _ (tl_Km w h)
  have hl21 := hts _ (List.mem_cons_of_mem _ tf_Km_21)
  unfold wp_Km_setMacroCode at hf
  refine lv_aload_n (pc := 0) hx hb d_Km_setMacroCode_0 rfl (lv_at hl 0 rfl) ?_
  refine gk_gt_Km_macroCodes (pc := 1) hx hb hK hts hinKm hown hw.1 hl21 d_Km_setMacroCode_1 ?_
  refine lv_iload_n (pc := 4) hx hb d_Km_setMacroCode_4 rfl (lv_at hl 1 rfl) ?_
  refine lv_iconst (pc := 5) (v := 4) hx hb d_Km_setMacroCode_5 (by decide) ?_
  refine lv_imul (pc := 6) hx hb d_Km_setMacroCode_6 ?_
  refine lv_iload_n (pc := 7) hx hb d_Km_setMacroCode_7 rfl (lv_at hl 2 rfl) ?_
  refine lv_iadd (pc := 8) hx hb d_Km_setMacroCode_8 ?_
  refine lv_iload_n (pc := 9) hx hb d_Km_setMacroCode_9 rfl (lv_at hl 3 rfl) ?_
  refine gk_st17 (pc := 10) hx hb hK hw hf.1 d_Km_setMacroCode_10 (fun H locs hw => ?_)
  replace hf := hf.2
  exact gr_v (pc := 11) hx hb hr hlk hK (gI S 21 (upd (S.1 21) (((p0 * (4 : Int32)) + p1)).toNatClampNeg p2)) hw hf d_Km_setMacroCode_11
def L_Ch_hasElsewhere_2 (S : GS) (post : Int32 → Prop) : Nat → Int32 → Int32 → Int32 → Prop
  | 0, _, _, _ => False
  | n + 1, x1, x2, x3 => (((4 : Int32) ≤ x3 → (post (0 : Int32))) ∧ (¬ (4 : Int32) ≤ x3 → ((x3 = x1 → (L_Ch_hasElsewhere_2 S post n x1 x2 (x3 + (1 : Int32)))) ∧ (¬ x3 = x1 → (vp_in x3 4 ∧ ((((S.1 22) x3.toNatClampNeg) = x2 → (post (1 : Int32))) ∧ (¬ ((S.1 22) x3.toNatClampNeg) = x2 → (L_Ch_hasElsewhere_2 S post n x1 x2 (x3 + (1 : Int32))))))))))
def wp_Ch_hasElsewhere (S : GS) (p0 : Int32) (p1 : Int32) (post : Int32 → Prop) : Prop := (∃ n, L_Ch_hasElsewhere_2 S post n p0 p1 (0 : Int32))
abbrev rm_Ch_hasElsewhere : Room := { frames := 0, cells := 0, slots := 0, locals := 0 }
set_option maxHeartbeats 4000000 in
set_option maxRecDepth 100000 in
theorem c_Ch_hasElsewhere (l : Launch) (D : va_G) (cI cZ cJ : ClassId) (a : Nat → Nat) (S : GS) (p0 : Int32) (p1 : Int32) (post : Int32 → Prop) (hf : wp_Ch_hasElsewhere S p0 p1 post) : Met l y_Ch_hasElsewhere ws_Ch_hasElsewhere rm_Ch_hasElsewhere (va_Pc [.ref (a 5), .int p0, .int p1] (rPre D (tys cI cZ cJ) (gkW cI cZ cJ a S))) (vp_Si post) 0 0 (fun _ => False) := by
  refine gm_r (cc := b_Ch_hasElsewhere) (maxL := 4) (by decide) rfl (Nat.le_of_ble_eq_true rfl) ?_
  intro p e s m args below meth c ls hx hb hr hts hown hlk hml hK hP hl
  have hl : lv_has ls 4 [(0, .ref (a 5)), (1, .int p0), (2, .int p1)] := hl
  have hinCh : ∀ w ∈ u_ws R_Ch T_Ch 2, w ∈ ws_Ch_hasElsewhere := fun w h => List.mem_cons_of_mem _ (tl_Ch w h)
  have hl9 := hts _ (List.mem_cons_of_mem _ tf_Ch_9)
  unfold wp_Ch_hasElsewhere at hf
  refine lv_iconst (pc := 0) (v := 0) hx hb d_Ch_hasElsewhere_0 (by decide) ?_
  refine lv_istore_n (pc := 1) (lv' := [(3, .int (0 : Int32)), (0, .ref (a 5)), (1, .int p0), (2, .int p1)]) hx hb d_Ch_hasElsewhere_1 rfl hl (by decide) rfl (fun ls hl => ?_)
  obtain ⟨n, hf⟩ := hf
  have lp2 : ∀ (n : Nat) (x1 : Int32) (x2 : Int32) (x3 : Int32) (ls : Array Slot), lv_has ls 4 [(0, .ref (a 5)), (1, .int x1), (2, .int x2), (3, .int x3)] → L_Ch_hasElsewhere_2 S post n x1 x2 x3 → W p l e rm_Ch_hasElsewhere s m args below meth c s.heap [] 0 0 (MQ below (vp_Si post) args s 0 0 (fun _ => False)) (F0 m 2 ls []) := by
    intro n
    induction n with
    | zero => intro x1 x2 x3 ls hl hf; exact False.elim hf
    | succ n ih2 =>
      intro x1 x2 x3 ls hl hf
      unfold L_Ch_hasElsewhere_2 at hf
      refine lv_iload_n (pc := 2) hx hb d_Ch_hasElsewhere_2 rfl (lv_at hl 3 rfl) ?_
      refine lv_iconst (pc := 3) (v := 4) hx hb d_Ch_hasElsewhere_3 (by decide) ?_
      refine lv_icmp_ge (pc := 4) (tgt := 30) hx hb d_Ch_hasElsewhere_4 (by decide) (fun hc => ?_) (fun hc => ?_)
      · replace hf := hf.1 hc
        refine lv_iconst (pc := 30) (v := 0) hx hb d_Ch_hasElsewhere_30 (by decide) ?_
        exact rr_z (pc := 31) hx hb hr hlk (by decide) hf d_Ch_hasElsewhere_31
      replace hf := hf.2 hc
      refine lv_iload_n (pc := 7) hx hb d_Ch_hasElsewhere_7 rfl (lv_at hl 3 rfl) ?_
      refine lv_iload_n (pc := 8) hx hb d_Ch_hasElsewhere_8 rfl (lv_at hl 1 rfl) ?_
      refine lv_icmp_eq (pc := 9) (tgt := 24) hx hb d_Ch_hasElsewhere_9 (by decide) (fun hc => ?_) (fun hc => ?_)
      · replace hf := hf.1 hc
        refine lv_iinc (pc := 24) (k := 3) (v := (x3 + (1 : Int32))) (lv' := [(3, .int (x3 + (1 : Int32))), (0, .ref (a 5)), (1, .int x1), (2, .int x2)]) hx hb d_Ch_hasElsewhere_24 hl rfl rfl (by decide) rfl (fun ls hl => ?_)
        refine lv_goto (pc := 27) (tgt := 2) hx hb d_Ch_hasElsewhere_27 (by decide) ?_
        exact ih2 x1 x2 (x3 + (1 : Int32)) _ (lv_sub hl [1, 2, 3, 0] rfl) hf
      replace hf := hf.2 hc
      refine lv_aload_n (pc := 12) hx hb d_Ch_hasElsewhere_12 rfl (lv_at hl 0 rfl) ?_
      refine gk_gt_Ch_keys (pc := 13) hx hb hK hts hinCh hown hP hl9 d_Ch_hasElsewhere_13 ?_
      refine lv_iload_n (pc := 16) hx hb d_Ch_hasElsewhere_16 rfl (lv_at hl 3 rfl) ?_
      refine gk_ld18 (pc := 17) (v := ((S.1 22) x3.toNatClampNeg)) hx hb hK hP hf.1 rfl d_Ch_hasElsewhere_17 ?_
      replace hf := hf.2
      refine lv_iload_n (pc := 18) hx hb d_Ch_hasElsewhere_18 rfl (lv_at hl 2 rfl) ?_
      refine lv_icmp_ne (pc := 19) (tgt := 24) hx hb d_Ch_hasElsewhere_19 (by decide) (fun hc => ?_) (fun hc => ?_)
      · replace hf := hf.2 hc
        refine lv_iinc (pc := 24) (k := 3) (v := (x3 + (1 : Int32))) (lv' := [(3, .int (x3 + (1 : Int32))), (0, .ref (a 5)), (1, .int x1), (2, .int x2)]) hx hb d_Ch_hasElsewhere_24 hl rfl rfl (by decide) rfl (fun ls hl => ?_)
        refine lv_goto (pc := 27) (tgt := 2) hx hb d_Ch_hasElsewhere_27 (by decide) ?_
        exact ih2 x1 x2 (x3 + (1 : Int32)) _ (lv_sub hl [1, 2, 3, 0] rfl) hf
      replace hf := hf.1 hc
      refine lv_iconst (pc := 22) (v := 1) hx hb d_Ch_hasElsewhere_22 (by decide) ?_
      exact rr_z (pc := 23) hx hb hr hlk (by decide) hf d_Ch_hasElsewhere_23
  exact lp2 n p0 p1 (0 : Int32) _ (lv_sub hl [1, 2, 3, 0] rfl) hf
def wp_Ch_setChord (S : GS) (p0 : Int32) (p1 : Int32) (p2 : Int32) (post : GS → Prop) : Prop := (vp_in p0 4 ∧ (vp_in p0 4 ∧ (post (gI (gI S 22 (upd (S.1 22) (p0).toNatClampNeg p1)) 23 (upd (S.1 23) (p0).toNatClampNeg p2)))))
abbrev rm_Ch_setChord : Room := { frames := 0, cells := 0, slots := 0, locals := 0 }
set_option maxHeartbeats 4000000 in
set_option maxRecDepth 100000 in
theorem c_Ch_setChord (l : Launch) (D : va_G) (cI cZ cJ : ClassId) (a : Nat → Nat) (sz : Nat) (S : GS) (p0 : Int32) (p1 : Int32) (p2 : Int32) (post : GS → Prop) (hf : wp_Ch_setChord S p0 p1 p2 post) : Met l y_Ch_setChord ws_Ch_setChord rm_Ch_setChord (va_Pc [.ref (a 5), .int p0, .int p1, .int p2] (gPre D (tys cI cZ cJ) (gkW cI cZ cJ a S) sz)) (va_Qv post (gB D (tys cI cZ cJ) (gkW cI cZ cJ a) (va_A (gkW cI cZ cJ a S) sz)) (va_A (gkW cI cZ cJ a S) sz)) 0 0 (va_A (gkW cI cZ cJ a S) sz) := by
  refine gm_w (QF := fun A => va_Qv post (gB D (tys cI cZ cJ) (gkW cI cZ cJ a) A) A) (cc := b_Ch_setChord) (maxL := 4) (by decide) rfl (Nat.le_of_ble_eq_true rfl) ?_
  intro p e s m args below meth c A ls hx hb hr hts hown hmn hlk hml hK hA hw hl
  have hl : lv_has ls 4 [(0, .ref (a 5)), (1, .int p0), (2, .int p1), (3, .int p2)] := hl
  have hinCh : ∀ w ∈ u_ws R_Ch T_Ch 2, w ∈ ws_Ch_setChord := fun w h => List.mem_cons_of_mem _ (tl_Ch w h)
  have hl9 := hts _ (List.mem_cons_of_mem _ tf_Ch_9)
  have hl15 := hts _ (List.mem_cons_of_mem _ tf_Ch_15)
  unfold wp_Ch_setChord at hf
  refine lv_aload_n (pc := 0) hx hb d_Ch_setChord_0 rfl (lv_at hl 0 rfl) ?_
  refine gk_gt_Ch_keys (pc := 1) hx hb hK hts hinCh hown hw.1 hl9 d_Ch_setChord_1 ?_
  refine lv_iload_n (pc := 4) hx hb d_Ch_setChord_4 rfl (lv_at hl 1 rfl) ?_
  refine lv_iload_n (pc := 5) hx hb d_Ch_setChord_5 rfl (lv_at hl 2 rfl) ?_
  refine gk_st18 (pc := 6) hx hb hK hw hf.1 d_Ch_setChord_6 (fun H locs hw => ?_)
  replace hf := hf.2
  refine lv_aload_n (pc := 7) hx hb d_Ch_setChord_7 rfl (lv_at hl 0 rfl) ?_
  refine gk_gt_Ch_codes (pc := 8) hx hb hK hts hinCh hown hw.1 hl15 d_Ch_setChord_8 ?_
  refine lv_iload_n (pc := 11) hx hb d_Ch_setChord_11 rfl (lv_at hl 1 rfl) ?_
  refine lv_iload_n (pc := 12) hx hb d_Ch_setChord_12 rfl (lv_at hl 3 rfl) ?_
  refine gk_st19 (pc := 13) hx hb hK hw hf.1 d_Ch_setChord_13 (fun H locs hw => ?_)
  replace hf := hf.2
  have hw : wf D A s.heap (gkW cI cZ cJ a (gI (gI S 22 (upd (S.1 22) (p0).toNatClampNeg p1)) 23 (upd (S.1 23) (p0).toNatClampNeg p2))) H locs := hw
  exact gr_v (pc := 14) hx hb hr hlk hK (gI (gI S 22 (upd (S.1 22) (p0).toNatClampNeg p1)) 23 (upd (S.1 23) (p0).toNatClampNeg p2)) hw hf d_Ch_setChord_14
def wp_Mx_keysThatAre (S : GS) (p0 : Int32) (post : Int32 → Prop) : Prop := ((p0 = (0 : Int32) → (post (S.1 2 0))) ∧ (¬ p0 = (0 : Int32) → ((p0 = (1 : Int32) → (post (S.1 3 0))) ∧ (¬ p0 = (1 : Int32) → ((p0 = (2 : Int32) → (post (S.1 4 0))) ∧ (¬ p0 = (2 : Int32) → (post ((S.1 3 0) &&& ((S.1 4 0) ^^^ (-1 : Int32))))))))))
abbrev rm_Mx_keysThatAre : Room := { frames := 0, cells := 0, slots := 0, locals := 0 }
set_option maxHeartbeats 4000000 in
set_option maxRecDepth 100000 in
theorem c_Mx_keysThatAre (l : Launch) (D : va_G) (cI cZ cJ : ClassId) (a : Nat → Nat) (S : GS) (p0 : Int32) (post : Int32 → Prop) (hf : wp_Mx_keysThatAre S p0 post) : Met l y_Mx_keysThatAre ws_Mx_keysThatAre rm_Mx_keysThatAre (va_Pc [.ref (a 1), .int p0] (rPre D (tys cI cZ cJ) (gkW cI cZ cJ a S))) (vp_Si post) 0 0 (fun _ => False) := by
  refine gm_r (cc := b_Mx_keysThatAre) (maxL := 2) (by decide) rfl (Nat.le_of_ble_eq_true rfl) ?_
  intro p e s m args below meth c ls hx hb hr hts hown hlk hml hK hP hl
  have hl : lv_has ls 2 [(0, .ref (a 1)), (1, .int p0)] := hl
  have hinMx : ∀ w ∈ u_ws R_Mx T_Mx 6, w ∈ ws_Mx_keysThatAre := fun w h => List.mem_cons_of_mem _ (tl_Mx w h)
  have hl22 := hts _ (List.mem_cons_of_mem _ tf_Mx_22)
  have hl25 := hts _ (List.mem_cons_of_mem _ tf_Mx_25)
  have hl28 := hts _ (List.mem_cons_of_mem _ tf_Mx_28)
  unfold wp_Mx_keysThatAre at hf
  refine lv_iload_n (pc := 0) hx hb d_Mx_keysThatAre_0 rfl (lv_at hl 1 rfl) ?_
  by_cases hs0 : p0 = (0 : Int32)
  · replace hf := hf.1 hs0
    refine lv_tableIn (pc := 1) (off := 27) (tgt := 28) hx hb d_Mx_keysThatAre_1 (by rw [hs0]; decide) (by rw [hs0]; decide) (by rw [hs0]; decide) (by decide) ?_
    refine lv_aload_n (pc := 28) hx hb d_Mx_keysThatAre_28 rfl (lv_at hl 0 rfl) ?_
    refine gk_gt_Mx_read (pc := 29) (v := (S.1 2 0)) hx hb hK hts hinMx hown hP hl22 rfl d_Mx_keysThatAre_29 ?_
    exact rr_i (pc := 32) hx hb hr hlk hf d_Mx_keysThatAre_32
  replace hf := hf.2 hs0
  by_cases hs1 : p0 = (1 : Int32)
  · replace hf := hf.1 hs1
    refine lv_tableIn (pc := 1) (off := 32) (tgt := 33) hx hb d_Mx_keysThatAre_1 (by rw [hs1]; decide) (by rw [hs1]; decide) (by rw [hs1]; decide) (by decide) ?_
    refine lv_aload_n (pc := 33) hx hb d_Mx_keysThatAre_33 rfl (lv_at hl 0 rfl) ?_
    refine gk_gt_Mx_seen (pc := 34) (v := (S.1 3 0)) hx hb hK hts hinMx hown hP hl25 rfl d_Mx_keysThatAre_34 ?_
    exact rr_i (pc := 37) hx hb hr hlk hf d_Mx_keysThatAre_37
  replace hf := hf.2 hs1
  by_cases hs2 : p0 = (2 : Int32)
  · replace hf := hf.1 hs2
    refine lv_tableIn (pc := 1) (off := 37) (tgt := 38) hx hb d_Mx_keysThatAre_1 (by rw [hs2]; decide) (by rw [hs2]; decide) (by rw [hs2]; decide) (by decide) ?_
    refine lv_aload_n (pc := 38) hx hb d_Mx_keysThatAre_38 rfl (lv_at hl 0 rfl) ?_
    refine gk_gt_Mx_believed (pc := 39) (v := (S.1 4 0)) hx hb hK hts hinMx hown hP hl28 rfl d_Mx_keysThatAre_39 ?_
    exact rr_i (pc := 42) hx hb hr hlk hf d_Mx_keysThatAre_42
  replace hf := hf.2 hs2
  have ehs0 := lv_neT hs0 (a := 0) (by decide)
  have ehs1 := lv_neT hs1 (a := 1) (by decide)
  have ehs2 := lv_neT hs2 (a := 2) (by decide)
  refine lv_tableOut (pc := 1) (tgt := 43) hx hb d_Mx_keysThatAre_1 (by omega) (by decide) ?_
  refine lv_aload_n (pc := 43) hx hb d_Mx_keysThatAre_43 rfl (lv_at hl 0 rfl) ?_
  refine gk_gt_Mx_seen (pc := 44) (v := (S.1 3 0)) hx hb hK hts hinMx hown hP hl25 rfl d_Mx_keysThatAre_44 ?_
  refine lv_aload_n (pc := 47) hx hb d_Mx_keysThatAre_47 rfl (lv_at hl 0 rfl) ?_
  refine gk_gt_Mx_believed (pc := 48) (v := (S.1 4 0)) hx hb hK hts hinMx hown hP hl28 rfl d_Mx_keysThatAre_48 ?_
  refine lv_iconst (pc := 51) (v := -1) hx hb d_Mx_keysThatAre_51 (by decide) ?_
  refine lv_ixor (pc := 52) hx hb d_Mx_keysThatAre_52 ?_
  refine lv_iand (pc := 53) hx hb d_Mx_keysThatAre_53 ?_
  exact rr_i (pc := 54) hx hb hr hlk hf d_Mx_keysThatAre_54
def wp_Hi_latest (S : GS) (p0 : Int32) (post : Int32 → Prop) : Prop := ((p0 < (0 : Int32) → (post (-1 : Int32))) ∧ (¬ p0 < (0 : Int32) → ((p0 < (S.1 6 0) → (vp_in (((((S.1 5 0) + (32 : Int32)) - (1 : Int32)) - p0) - ((((S.1 5 0) + (32 : Int32)) - (1 : Int32)) - p0) / (32 : Int32) * (32 : Int32)) 32 ∧ (post ((S.1 15) (((((S.1 5 0) + (32 : Int32)) - (1 : Int32)) - p0) - ((((S.1 5 0) + (32 : Int32)) - (1 : Int32)) - p0) / (32 : Int32) * (32 : Int32)).toNatClampNeg)))) ∧ (¬ p0 < (S.1 6 0) → (post (-1 : Int32))))))
abbrev rm_Hi_latest : Room := { frames := 0, cells := 0, slots := 0, locals := 0 }
set_option maxHeartbeats 4000000 in
set_option maxRecDepth 100000 in
theorem c_Hi_latest (l : Launch) (D : va_G) (cI cZ cJ : ClassId) (a : Nat → Nat) (S : GS) (p0 : Int32) (post : Int32 → Prop) (hf : wp_Hi_latest S p0 post) : Met l y_Hi_latest ws_Hi_latest rm_Hi_latest (va_Pc [.ref (a 2), .int p0] (rPre D (tys cI cZ cJ) (gkW cI cZ cJ a S))) (vp_Si post) 0 0 (fun _ => False) := by
  refine gm_r (cc := b_Hi_latest) (maxL := 2) (by decide) rfl (Nat.le_of_ble_eq_true rfl) ?_
  intro p e s m args below meth c ls hx hb hr hts hown hlk hml hK hP hl
  have hl : lv_has ls 2 [(0, .ref (a 2)), (1, .int p0)] := hl
  have hinHi : ∀ w ∈ u_ws R_Hi T_Hi 3, w ∈ ws_Hi_latest := fun w h => List.mem_cons_of_mem _ (tl_Hi w h)
  have hl11 := hts _ (List.mem_cons_of_mem _ tf_Hi_11)
  have hl15 := hts _ (List.mem_cons_of_mem _ tf_Hi_15)
  have hl19 := hts _ (List.mem_cons_of_mem _ tf_Hi_19)
  unfold wp_Hi_latest at hf
  refine lv_iload_n (pc := 0) hx hb d_Hi_latest_0 rfl (lv_at hl 1 rfl) ?_
  refine lv_if_lt (pc := 1) (tgt := 12) hx hb d_Hi_latest_1 (by decide) (fun hc => ?_) (fun hc => ?_)
  · replace hf := hf.1 hc
    refine lv_iconst (pc := 12) (v := -1) hx hb d_Hi_latest_12 (by decide) ?_
    exact rr_i (pc := 13) hx hb hr hlk hf d_Hi_latest_13
  replace hf := hf.2 hc
  refine lv_iload_n (pc := 4) hx hb d_Hi_latest_4 rfl (lv_at hl 1 rfl) ?_
  refine lv_aload_n (pc := 5) hx hb d_Hi_latest_5 rfl (lv_at hl 0 rfl) ?_
  refine gk_gt_Hi_kept (pc := 6) (v := (S.1 6 0)) hx hb hK hts hinHi hown hP hl19 rfl d_Hi_latest_6 ?_
  refine lv_icmp_lt (pc := 9) (tgt := 14) hx hb d_Hi_latest_9 (by decide) (fun hc => ?_) (fun hc => ?_)
  · replace hf := hf.1 hc
    refine lv_aload_n (pc := 14) hx hb d_Hi_latest_14 rfl (lv_at hl 0 rfl) ?_
    refine gk_gt_Hi_events (pc := 15) hx hb hK hts hinHi hown hP hl11 d_Hi_latest_15 ?_
    refine lv_aload_n (pc := 18) hx hb d_Hi_latest_18 rfl (lv_at hl 0 rfl) ?_
    refine gk_gt_Hi_next (pc := 19) (v := (S.1 5 0)) hx hb hK hts hinHi hown hP hl15 rfl d_Hi_latest_19 ?_
    refine lv_bipush (pc := 22) (v := 32) hx hb d_Hi_latest_22 (by decide) ?_
    refine lv_iadd (pc := 24) hx hb d_Hi_latest_24 ?_
    refine lv_iconst (pc := 25) (v := 1) hx hb d_Hi_latest_25 (by decide) ?_
    refine lv_isub (pc := 26) hx hb d_Hi_latest_26 ?_
    refine lv_iload_n (pc := 27) hx hb d_Hi_latest_27 rfl (lv_at hl 1 rfl) ?_
    refine lv_isub (pc := 28) hx hb d_Hi_latest_28 ?_
    refine lv_bipush (pc := 29) (v := 32) hx hb d_Hi_latest_29 (by decide) ?_
    refine lv_irem (pc := 31) hx hb d_Hi_latest_31 (by decide) ?_
    refine gk_ld11 (pc := 32) (v := ((S.1 15) (((((S.1 5 0) + (32 : Int32)) - (1 : Int32)) - p0) - ((((S.1 5 0) + (32 : Int32)) - (1 : Int32)) - p0) / (32 : Int32) * (32 : Int32)).toNatClampNeg)) hx hb hK hP hf.1 rfl d_Hi_latest_32 ?_
    replace hf := hf.2
    exact rr_i (pc := 33) hx hb hr hlk hf d_Hi_latest_33
  replace hf := hf.2 hc
  refine lv_iconst (pc := 12) (v := -1) hx hb d_Hi_latest_12 (by decide) ?_
  exact rr_i (pc := 13) hx hb hr hlk hf d_Hi_latest_13
end
