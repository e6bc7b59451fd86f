-- ===== PART A: goes FIRST, ahead of the names: the tables' words, and 'selects' of the private methods out of them =====
/-- a private method of a class that the tables say can be made, by its rows of tables_1 -/
def lw_okq (q : MethodName × Nat) : Prop := (q.1.cls ≠ "java/lang/invoke/MethodHandle" ∧ q.1.cls ≠ "java/lang/invoke/VarHandle") ∧ Cond.instantiable q.1.cls q.2 ∈ tables_1 ∧ Cond.privateMethod q.1 ∈ tables_1 ∧ Cond.instanceMethod q.1 ∈ tables_1
theorem lw_p0 : lw_okq (⟨"GhostKeys", "runScan", "()I"⟩, 9) := ⟨⟨by decide +kernel, by decide +kernel⟩, List.mem_of_getElem? (i := 20) (by decide +kernel), List.mem_of_getElem? (i := 208) (by decide +kernel), List.mem_of_getElem? (i := 209) (by decide +kernel)⟩
theorem lw_p1 : lw_okq (⟨"GhostKeys$Matrix", "closedContacts", "()I"⟩, 6) := ⟨⟨by decide +kernel, by decide +kernel⟩, List.mem_of_getElem? (i := 28) (by decide +kernel), List.mem_of_getElem? (i := 216) (by decide +kernel), List.mem_of_getElem? (i := 217) (by decide +kernel)⟩
theorem lw_p2 : lw_okq (⟨"GhostKeys$Matrix", "watch", "(I)V"⟩, 6) := ⟨⟨by decide +kernel, by decide +kernel⟩, List.mem_of_getElem? (i := 28) (by decide +kernel), List.mem_of_getElem? (i := 226) (by decide +kernel), List.mem_of_getElem? (i := 227) (by decide +kernel)⟩
theorem lw_p3 : lw_okq (⟨"GhostKeys", "bringEvents", "()I"⟩, 9) := ⟨⟨by decide +kernel, by decide +kernel⟩, List.mem_of_getElem? (i := 20) (by decide +kernel), List.mem_of_getElem? (i := 230) (by decide +kernel), List.mem_of_getElem? (i := 231) (by decide +kernel)⟩
theorem lw_p4 : lw_okq (⟨"GhostKeys", "takeFirst", "()Z"⟩, 9) := ⟨⟨by decide +kernel, by decide +kernel⟩, List.mem_of_getElem? (i := 20) (by decide +kernel), List.mem_of_getElem? (i := 249) (by decide +kernel), List.mem_of_getElem? (i := 250) (by decide +kernel)⟩
theorem lw_p5 : lw_okq (⟨"GhostKeys", "takeRelease", "()V"⟩, 9) := ⟨⟨by decide +kernel, by decide +kernel⟩, List.mem_of_getElem? (i := 20) (by decide +kernel), List.mem_of_getElem? (i := 261) (by decide +kernel), List.mem_of_getElem? (i := 262) (by decide +kernel)⟩
theorem lw_p6 : lw_okq (⟨"GhostKeys$Reports", "packed", "()J"⟩, 7) := ⟨⟨by decide +kernel, by decide +kernel⟩, List.mem_of_getElem? (i := 147) (by decide +kernel), List.mem_of_getElem? (i := 292) (by decide +kernel), List.mem_of_getElem? (i := 293) (by decide +kernel)⟩
theorem lw_p7 : lw_okq (⟨"GhostKeys$Reports", "putIfOther", "(J)V"⟩, 7) := ⟨⟨by decide +kernel, by decide +kernel⟩, List.mem_of_getElem? (i := 147) (by decide +kernel), List.mem_of_getElem? (i := 296) (by decide +kernel), List.mem_of_getElem? (i := 297) (by decide +kernel)⟩
theorem lw_p8 : lw_okq (⟨"GhostKeys", "waitsForChord", "(I)Z"⟩, 9) := ⟨⟨by decide +kernel, by decide +kernel⟩, List.mem_of_getElem? (i := 20) (by decide +kernel), List.mem_of_getElem? (i := 305) (by decide +kernel), List.mem_of_getElem? (i := 306) (by decide +kernel)⟩
theorem lw_p9 : lw_okq (⟨"GhostKeys", "takeChord", "(I)V"⟩, 9) := ⟨⟨by decide +kernel, by decide +kernel⟩, List.mem_of_getElem? (i := 20) (by decide +kernel), List.mem_of_getElem? (i := 333) (by decide +kernel), List.mem_of_getElem? (i := 334) (by decide +kernel)⟩
theorem lw_p10 : lw_okq (⟨"GhostKeys", "takeByAction", "()Z"⟩, 9) := ⟨⟨by decide +kernel, by decide +kernel⟩, List.mem_of_getElem? (i := 20) (by decide +kernel), List.mem_of_getElem? (i := 355) (by decide +kernel), List.mem_of_getElem? (i := 356) (by decide +kernel)⟩
theorem lw_p11 : lw_okq (⟨"GhostKeys", "tellTap", "()I"⟩, 9) := ⟨⟨by decide +kernel, by decide +kernel⟩, List.mem_of_getElem? (i := 20) (by decide +kernel), List.mem_of_getElem? (i := 372) (by decide +kernel), List.mem_of_getElem? (i := 373) (by decide +kernel)⟩
theorem lw_p12 : lw_okq (⟨"GhostKeys", "actTap", "(III)V"⟩, 9) := ⟨⟨by decide +kernel, by decide +kernel⟩, List.mem_of_getElem? (i := 20) (by decide +kernel), List.mem_of_getElem? (i := 396) (by decide +kernel), List.mem_of_getElem? (i := 397) (by decide +kernel)⟩
theorem lw_p13 : lw_okq (⟨"GhostKeys", "playMacro", "(I)V"⟩, 9) := ⟨⟨by decide +kernel, by decide +kernel⟩, List.mem_of_getElem? (i := 20) (by decide +kernel), List.mem_of_getElem? (i := 404) (by decide +kernel), List.mem_of_getElem? (i := 405) (by decide +kernel)⟩
theorem lw_p14 : lw_okq (⟨"java/lang/Throwable", "fillInStackTrace", "(I)Ljava/lang/Throwable;"⟩, 6) := ⟨⟨by decide +kernel, by decide +kernel⟩, List.mem_of_getElem? (i := 507) (by decide +kernel), List.mem_of_getElem? (i := 505) (by decide +kernel), List.mem_of_getElem? (i := 506) (by decide +kernel)⟩
theorem lw_p15 : lw_okq (⟨"GhostKeysModel", "refused", "(I)Z"⟩, 30) := ⟨⟨by decide +kernel, by decide +kernel⟩, List.mem_of_getElem? (i := 679) (by decide +kernel), List.mem_of_getElem? (i := 788) (by decide +kernel), List.mem_of_getElem? (i := 789) (by decide +kernel)⟩
def lw_privs_1 : List (MethodName × Nat) := [(⟨"GhostKeys", "runScan", "()I"⟩, 9), (⟨"GhostKeys$Matrix", "closedContacts", "()I"⟩, 6), (⟨"GhostKeys$Matrix", "watch", "(I)V"⟩, 6), (⟨"GhostKeys", "bringEvents", "()I"⟩, 9), (⟨"GhostKeys", "takeFirst", "()Z"⟩, 9), (⟨"GhostKeys", "takeRelease", "()V"⟩, 9), (⟨"GhostKeys$Reports", "packed", "()J"⟩, 7), (⟨"GhostKeys$Reports", "putIfOther", "(J)V"⟩, 7), (⟨"GhostKeys", "waitsForChord", "(I)Z"⟩, 9), (⟨"GhostKeys", "takeChord", "(I)V"⟩, 9), (⟨"GhostKeys", "takeByAction", "()Z"⟩, 9), (⟨"GhostKeys", "tellTap", "()I"⟩, 9), (⟨"GhostKeys", "actTap", "(III)V"⟩, 9), (⟨"GhostKeys", "playMacro", "(I)V"⟩, 9), (⟨"java/lang/Throwable", "fillInStackTrace", "(I)Ljava/lang/Throwable;"⟩, 6), (⟨"GhostKeysModel", "refused", "(I)Z"⟩, 30)]
theorem lw_r1 : ∀ q ∈ lw_privs_1, lw_okq q := List.forall_mem_cons.mpr ⟨lw_p0, List.forall_mem_cons.mpr ⟨lw_p1, List.forall_mem_cons.mpr ⟨lw_p2, List.forall_mem_cons.mpr ⟨lw_p3, List.forall_mem_cons.mpr ⟨lw_p4, List.forall_mem_cons.mpr ⟨lw_p5, List.forall_mem_cons.mpr ⟨lw_p6, List.forall_mem_cons.mpr ⟨lw_p7, List.forall_mem_cons.mpr ⟨lw_p8, List.forall_mem_cons.mpr ⟨lw_p9, List.forall_mem_cons.mpr ⟨lw_p10, List.forall_mem_cons.mpr ⟨lw_p11, List.forall_mem_cons.mpr ⟨lw_p12, List.forall_mem_cons.mpr ⟨lw_p13, List.forall_mem_cons.mpr ⟨lw_p14, List.forall_mem_cons.mpr ⟨lw_p15, fun _ h => absurd h List.not_mem_nil⟩⟩⟩⟩⟩⟩⟩⟩⟩⟩⟩⟩⟩⟩⟩⟩
theorem lw_p16 : lw_okq (⟨"GhostKeysModel", "scanOnce", "()I"⟩, 30) := ⟨⟨by decide +kernel, by decide +kernel⟩, List.mem_of_getElem? (i := 679) (by decide +kernel), List.mem_of_getElem? (i := 800) (by decide +kernel), List.mem_of_getElem? (i := 801) (by decide +kernel)⟩
theorem lw_p17 : lw_okq (⟨"GhostKeysModel", "look", "()V"⟩, 30) := ⟨⟨by decide +kernel, by decide +kernel⟩, List.mem_of_getElem? (i := 679) (by decide +kernel), List.mem_of_getElem? (i := 804) (by decide +kernel), List.mem_of_getElem? (i := 805) (by decide +kernel)⟩
theorem lw_p18 : lw_okq (⟨"GhostKeysModel", "hasCorners", "(IZ)Z"⟩, 30) := ⟨⟨by decide +kernel, by decide +kernel⟩, List.mem_of_getElem? (i := 679) (by decide +kernel), List.mem_of_getElem? (i := 808) (by decide +kernel), List.mem_of_getElem? (i := 809) (by decide +kernel)⟩
theorem lw_p19 : lw_okq (⟨"GhostKeysModel", "believe", "()I"⟩, 30) := ⟨⟨by decide +kernel, by decide +kernel⟩, List.mem_of_getElem? (i := 679) (by decide +kernel), List.mem_of_getElem? (i := 812) (by decide +kernel), List.mem_of_getElem? (i := 813) (by decide +kernel)⟩
theorem lw_p20 : lw_okq (⟨"GhostKeysModel", "bring", "(II)V"⟩, 30) := ⟨⟨by decide +kernel, by decide +kernel⟩, List.mem_of_getElem? (i := 679) (by decide +kernel), List.mem_of_getElem? (i := 816) (by decide +kernel), List.mem_of_getElem? (i := 817) (by decide +kernel)⟩
theorem lw_p21 : lw_okq (⟨"GhostKeysModel", "takeFirst", "()Z"⟩, 30) := ⟨⟨by decide +kernel, by decide +kernel⟩, List.mem_of_getElem? (i := 679) (by decide +kernel), List.mem_of_getElem? (i := 820) (by decide +kernel), List.mem_of_getElem? (i := 821) (by decide +kernel)⟩
theorem lw_p22 : lw_okq (⟨"GhostKeysModel", "takeRelease", "(I)V"⟩, 30) := ⟨⟨by decide +kernel, by decide +kernel⟩, List.mem_of_getElem? (i := 679) (by decide +kernel), List.mem_of_getElem? (i := 824) (by decide +kernel), List.mem_of_getElem? (i := 825) (by decide +kernel)⟩
theorem lw_p23 : lw_okq (⟨"GhostKeysModel", "change", "(II)V"⟩, 30) := ⟨⟨by decide +kernel, by decide +kernel⟩, List.mem_of_getElem? (i := 679) (by decide +kernel), List.mem_of_getElem? (i := 828) (by decide +kernel), List.mem_of_getElem? (i := 829) (by decide +kernel)⟩
theorem lw_p24 : lw_okq (⟨"GhostKeysModel", "tell", "()V"⟩, 30) := ⟨⟨by decide +kernel, by decide +kernel⟩, List.mem_of_getElem? (i := 679) (by decide +kernel), List.mem_of_getElem? (i := 832) (by decide +kernel), List.mem_of_getElem? (i := 833) (by decide +kernel)⟩
theorem lw_p25 : lw_okq (⟨"GhostKeysModel", "makeReport", "()V"⟩, 30) := ⟨⟨by decide +kernel, by decide +kernel⟩, List.mem_of_getElem? (i := 679) (by decide +kernel), List.mem_of_getElem? (i := 836) (by decide +kernel), List.mem_of_getElem? (i := 837) (by decide +kernel)⟩
theorem lw_p26 : lw_okq (⟨"GhostKeysModel", "copyReport", "(II)V"⟩, 30) := ⟨⟨by decide +kernel, by decide +kernel⟩, List.mem_of_getElem? (i := 679) (by decide +kernel), List.mem_of_getElem? (i := 840) (by decide +kernel), List.mem_of_getElem? (i := 841) (by decide +kernel)⟩
theorem lw_p27 : lw_okq (⟨"GhostKeysModel", "drop", "(I)V"⟩, 30) := ⟨⟨by decide +kernel, by decide +kernel⟩, List.mem_of_getElem? (i := 679) (by decide +kernel), List.mem_of_getElem? (i := 844) (by decide +kernel), List.mem_of_getElem? (i := 845) (by decide +kernel)⟩
theorem lw_p28 : lw_okq (⟨"GhostKeysModel", "rowLength", "()I"⟩, 30) := ⟨⟨by decide +kernel, by decide +kernel⟩, List.mem_of_getElem? (i := 679) (by decide +kernel), List.mem_of_getElem? (i := 848) (by decide +kernel), List.mem_of_getElem? (i := 849) (by decide +kernel)⟩
theorem lw_p29 : lw_okq (⟨"GhostKeysModel", "waitsForChord", "(I)Z"⟩, 30) := ⟨⟨by decide +kernel, by decide +kernel⟩, List.mem_of_getElem? (i := 679) (by decide +kernel), List.mem_of_getElem? (i := 852) (by decide +kernel), List.mem_of_getElem? (i := 853) (by decide +kernel)⟩
theorem lw_p30 : lw_okq (⟨"GhostKeysModel", "keysOf", "(I)I"⟩, 30) := ⟨⟨by decide +kernel, by decide +kernel⟩, List.mem_of_getElem? (i := 679) (by decide +kernel), List.mem_of_getElem? (i := 856) (by decide +kernel), List.mem_of_getElem? (i := 857) (by decide +kernel)⟩
theorem lw_p31 : lw_okq (⟨"GhostKeysModel", "chordOf", "(I)I"⟩, 30) := ⟨⟨by decide +kernel, by decide +kernel⟩, List.mem_of_getElem? (i := 679) (by decide +kernel), List.mem_of_getElem? (i := 860) (by decide +kernel), List.mem_of_getElem? (i := 861) (by decide +kernel)⟩
def lw_privs_2 : List (MethodName × Nat) := [(⟨"GhostKeysModel", "scanOnce", "()I"⟩, 30), (⟨"GhostKeysModel", "look", "()V"⟩, 30), (⟨"GhostKeysModel", "hasCorners", "(IZ)Z"⟩, 30), (⟨"GhostKeysModel", "believe", "()I"⟩, 30), (⟨"GhostKeysModel", "bring", "(II)V"⟩, 30), (⟨"GhostKeysModel", "takeFirst", "()Z"⟩, 30), (⟨"GhostKeysModel", "takeRelease", "(I)V"⟩, 30), (⟨"GhostKeysModel", "change", "(II)V"⟩, 30), (⟨"GhostKeysModel", "tell", "()V"⟩, 30), (⟨"GhostKeysModel", "makeReport", "()V"⟩, 30), (⟨"GhostKeysModel", "copyReport", "(II)V"⟩, 30), (⟨"GhostKeysModel", "drop", "(I)V"⟩, 30), (⟨"GhostKeysModel", "rowLength", "()I"⟩, 30), (⟨"GhostKeysModel", "waitsForChord", "(I)Z"⟩, 30), (⟨"GhostKeysModel", "keysOf", "(I)I"⟩, 30), (⟨"GhostKeysModel", "chordOf", "(I)I"⟩, 30)]
theorem lw_r2 : ∀ q ∈ lw_privs_2, lw_okq q := List.forall_mem_cons.mpr ⟨lw_p16, List.forall_mem_cons.mpr ⟨lw_p17, List.forall_mem_cons.mpr ⟨lw_p18, List.forall_mem_cons.mpr ⟨lw_p19, List.forall_mem_cons.mpr ⟨lw_p20, List.forall_mem_cons.mpr ⟨lw_p21, List.forall_mem_cons.mpr ⟨lw_p22, List.forall_mem_cons.mpr ⟨lw_p23, List.forall_mem_cons.mpr ⟨lw_p24, List.forall_mem_cons.mpr ⟨lw_p25, List.forall_mem_cons.mpr ⟨lw_p26, List.forall_mem_cons.mpr ⟨lw_p27, List.forall_mem_cons.mpr ⟨lw_p28, List.forall_mem_cons.mpr ⟨lw_p29, List.forall_mem_cons.mpr ⟨lw_p30, List.forall_mem_cons.mpr ⟨lw_p31, fun _ h => absurd h List.not_mem_nil⟩⟩⟩⟩⟩⟩⟩⟩⟩⟩⟩⟩⟩⟩⟩⟩
theorem lw_p32 : lw_okq (⟨"GhostKeysModel", "takeChord", "(I)V"⟩, 30) := ⟨⟨by decide +kernel, by decide +kernel⟩, List.mem_of_getElem? (i := 679) (by decide +kernel), List.mem_of_getElem? (i := 867) (by decide +kernel), List.mem_of_getElem? (i := 868) (by decide +kernel)⟩
theorem lw_p33 : lw_okq (⟨"GhostKeysModel", "disarm", "()V"⟩, 30) := ⟨⟨by decide +kernel, by decide +kernel⟩, List.mem_of_getElem? (i := 679) (by decide +kernel), List.mem_of_getElem? (i := 871) (by decide +kernel), List.mem_of_getElem? (i := 872) (by decide +kernel)⟩
theorem lw_p34 : lw_okq (⟨"GhostKeysModel", "topOf", "(I)I"⟩, 30) := ⟨⟨by decide +kernel, by decide +kernel⟩, List.mem_of_getElem? (i := 679) (by decide +kernel), List.mem_of_getElem? (i := 875) (by decide +kernel), List.mem_of_getElem? (i := 876) (by decide +kernel)⟩
theorem lw_p35 : lw_okq (⟨"GhostKeysModel", "isOn", "(I)Z"⟩, 30) := ⟨⟨by decide +kernel, by decide +kernel⟩, List.mem_of_getElem? (i := 679) (by decide +kernel), List.mem_of_getElem? (i := 879) (by decide +kernel), List.mem_of_getElem? (i := 880) (by decide +kernel)⟩
theorem lw_p36 : lw_okq (⟨"GhostKeysModel", "act", "(II)Z"⟩, 30) := ⟨⟨by decide +kernel, by decide +kernel⟩, List.mem_of_getElem? (i := 679) (by decide +kernel), List.mem_of_getElem? (i := 883) (by decide +kernel), List.mem_of_getElem? (i := 884) (by decide +kernel)⟩
theorem lw_p37 : lw_okq (⟨"GhostKeysModel", "tapOf", "()I"⟩, 30) := ⟨⟨by decide +kernel, by decide +kernel⟩, List.mem_of_getElem? (i := 679) (by decide +kernel), List.mem_of_getElem? (i := 887) (by decide +kernel), List.mem_of_getElem? (i := 888) (by decide +kernel)⟩
theorem lw_p38 : lw_okq (⟨"GhostKeysModel", "begin", "(III)V"⟩, 30) := ⟨⟨by decide +kernel, by decide +kernel⟩, List.mem_of_getElem? (i := 679) (by decide +kernel), List.mem_of_getElem? (i := 891) (by decide +kernel), List.mem_of_getElem? (i := 892) (by decide +kernel)⟩
theorem lw_p39 : lw_okq (⟨"GhostKeysModel", "play", "(I)V"⟩, 30) := ⟨⟨by decide +kernel, by decide +kernel⟩, List.mem_of_getElem? (i := 679) (by decide +kernel), List.mem_of_getElem? (i := 895) (by decide +kernel), List.mem_of_getElem? (i := 896) (by decide +kernel)⟩
theorem lw_p40 : lw_okq (⟨"GhostKeysModel", "touch", "(I)V"⟩, 30) := ⟨⟨by decide +kernel, by decide +kernel⟩, List.mem_of_getElem? (i := 679) (by decide +kernel), List.mem_of_getElem? (i := 899) (by decide +kernel), List.mem_of_getElem? (i := 900) (by decide +kernel)⟩
def lw_privs_3 : List (MethodName × Nat) := [(⟨"GhostKeysModel", "takeChord", "(I)V"⟩, 30), (⟨"GhostKeysModel", "disarm", "()V"⟩, 30), (⟨"GhostKeysModel", "topOf", "(I)I"⟩, 30), (⟨"GhostKeysModel", "isOn", "(I)Z"⟩, 30), (⟨"GhostKeysModel", "act", "(II)Z"⟩, 30), (⟨"GhostKeysModel", "tapOf", "()I"⟩, 30), (⟨"GhostKeysModel", "begin", "(III)V"⟩, 30), (⟨"GhostKeysModel", "play", "(I)V"⟩, 30), (⟨"GhostKeysModel", "touch", "(I)V"⟩, 30)]
theorem lw_r3 : ∀ q ∈ lw_privs_3, lw_okq q := List.forall_mem_cons.mpr ⟨lw_p32, List.forall_mem_cons.mpr ⟨lw_p33, List.forall_mem_cons.mpr ⟨lw_p34, List.forall_mem_cons.mpr ⟨lw_p35, List.forall_mem_cons.mpr ⟨lw_p36, List.forall_mem_cons.mpr ⟨lw_p37, List.forall_mem_cons.mpr ⟨lw_p38, List.forall_mem_cons.mpr ⟨lw_p39, List.forall_mem_cons.mpr ⟨lw_p40, fun _ h => absurd h List.not_mem_nil⟩⟩⟩⟩⟩⟩⟩⟩⟩
def lw_privs : List (MethodName × Nat) := lw_privs_1 ++ (lw_privs_2 ++ (lw_privs_3))
def lw_tbl : List Cond := k2_sels lw_privs ++ tables_1
theorem lw_privs_ok : ∀ q ∈ lw_privs, lw_okq q := by
  show ∀ q ∈ lw_privs_1 ++ (lw_privs_2 ++ (lw_privs_3)), lw_okq q
  exact List.forall_mem_append.mpr ⟨lw_r1, List.forall_mem_append.mpr ⟨lw_r2, lw_r3⟩⟩
/-! the words that every method takes: the tables' good ones -/
def tbG : List Cond := lw_tbl.filter goodWord
theorem tb_in {w : Cond} (h : w ∈ tables_1) (hg : goodWord w = true) : w ∈ tbG := List.mem_filter.mpr ⟨List.mem_append_right _ h, hg⟩
theorem tb_at {w : Cond} (i : Nat) (h : tables_1[i]? = some w) (hg : goodWord w = true) : w ∈ tbG := tb_in (List.mem_of_getElem? h) hg
theorem tb_sel {q : MethodName × Nat} (h : q ∈ lw_privs) (hg : goodWord (Cond.selects q.1.cls q.1 q.1) = true) : Cond.selects q.1.cls q.1 q.1 ∈ tbG := List.mem_filter.mpr ⟨List.mem_append_left _ (List.mem_map.mpr ⟨q, h, rfl⟩), hg⟩
theorem tb_good : GoodIn tbG tbG := fun w h => ⟨h, good_of_word (List.mem_filter.mp h).2⟩
theorem tb_goodC {c d : Cond} (h : d ∈ tbG) : GoodIn (c :: tbG) (d :: tbG) := fun w hw => (List.mem_cons.mp hw).elim (fun e => e ▸ ⟨List.mem_cons_of_mem _ h, (tb_good d h).2⟩) (fun h => ⟨List.mem_cons_of_mem _ h, (tb_good w h).2⟩)
theorem tb_of {s : State} {args : Array Value} (h : ∀ w ∈ lw_tbl, w.before args s = true) : ∀ w ∈ tbG, w.before args s = true := fun w hw => h w (List.mem_filter.mp hw).1
theorem tb_wsV {c d : Cond} {own C : String} {index : Nat} {y : MethodName} (h : d ∈ tbG) (h1 : Cond.methodLink own index y ∈ tbG) (h2 : Cond.instanceMethod y ∈ tbG) (h3 : Cond.selects C y y ∈ tbG) (h4 : Cond.initialized C ∈ tbG) : GoodIn (c :: tbG) (wsV own index C y (d :: tbG)) := fun w hw => by
  rcases List.mem_append.mp hw with hw | hw
  · have hm : w ∈ tbG := by
      rcases List.mem_cons.mp hw with rfl | hw
      · exact h1
      rcases List.mem_cons.mp hw with rfl | hw
      · exact h2
      rcases List.mem_cons.mp hw with rfl | hw
      · exact h3
      rcases List.mem_cons.mp hw with rfl | hw
      · exact h4
      cases hw
    exact ⟨List.mem_cons_of_mem _ hm, (tb_good w hm).2⟩
  · exact tb_goodC h w hw
theorem tb_vaS {c d : Cond} {own : String} {index : Nat} {y : MethodName} (h : d ∈ tbG) (h1 : Cond.methodLink own index y ∈ tbG) (h2 : Cond.static y ∈ tbG) (h4 : Cond.initialized y.cls ∈ tbG) : GoodIn (c :: tbG) (va_wsS own index y (d :: tbG)) := fun w hw => by
  rcases List.mem_append.mp hw with hw | hw
  · have hm : w ∈ tbG := by
      rcases List.mem_cons.mp hw with rfl | hw
      · exact h1
      rcases List.mem_cons.mp hw with rfl | hw
      · exact h2
      rcases List.mem_cons.mp hw with rfl | hw
      · exact h4
      cases hw
    exact ⟨List.mem_cons_of_mem _ hm, (tb_good w hm).2⟩
  · exact tb_goodC h w hw
theorem tb_wsS {c d : Cond} {own : String} {index : Nat} {y : MethodName} (h : d ∈ tbG) (h1 : Cond.methodLink own index y ∈ tbG) (h2 : Cond.static y ∈ tbG) (h4 : Cond.initialized own ∈ tbG) : GoodIn (c :: tbG) (wsS own index y (d :: tbG)) := fun w hw => by
  rcases List.mem_append.mp hw with hw | hw
  · have hm : w ∈ tbG := by
      rcases List.mem_cons.mp hw with rfl | hw
      · exact h1
      rcases List.mem_cons.mp hw with rfl | hw
      · exact h2
      rcases List.mem_cons.mp hw with rfl | hw
      · exact h4
      cases hw
    exact ⟨List.mem_cons_of_mem _ hm, (tb_good w hm).2⟩
  · exact tb_goodC h w hw
def R_G : String := "GhostKeys"
def R_Mx : String := "GhostKeys$Matrix"
def R_Hi : String := "GhostKeys$History"
def R_Eq : String := "GhostKeys$EventQueue"
def R_Km : String := "GhostKeys$Keymap"
def R_Ch : String := "GhostKeys$Chords"
def R_La : String := "GhostKeys$Layers"
def R_Ho : String := "GhostKeys$Holds"
def R_Re : String := "GhostKeys$Reports"
def R_Mo : String := "GhostKeysModel"
def R_Lw : String := "GhostKeysLaw"
def R_Ji : String := "java/lang/Integer"
def T_G : u_T := fun k => match k with
  | 0 => ("GhostKeys", "matrix", "LGhostKeys$Matrix;", true)
  | 1 => ("GhostKeys", "past", "LGhostKeys$History;", true)
  | 2 => ("GhostKeys", "queue", "LGhostKeys$EventQueue;", true)
  | 3 => ("GhostKeys", "keymap", "LGhostKeys$Keymap;", true)
  | 4 => ("GhostKeys", "chords", "LGhostKeys$Chords;", true)
  | 5 => ("GhostKeys", "layers", "LGhostKeys$Layers;", true)
  | 6 => ("GhostKeys", "holds", "LGhostKeys$Holds;", true)
  | 7 => ("GhostKeys", "reports", "LGhostKeys$Reports;", true)
  | _ => ("GhostKeys", "now", "I", false)
def ty_G : Nat → FieldType := fun k => match k with
  | 0 => .object "GhostKeys$Matrix"
  | 1 => .object "GhostKeys$History"
  | 2 => .object "GhostKeys$EventQueue"
  | 3 => .object "GhostKeys$Keymap"
  | 4 => .object "GhostKeys$Chords"
  | 5 => .object "GhostKeys$Layers"
  | 6 => .object "GhostKeys$Holds"
  | 7 => .object "GhostKeys$Reports"
  | _ => .int
theorem nm_G : ∀ a, a < 9 → ∀ b, b < 9 → a ≠ b → (T_G a).2.1 ≠ (T_G b).2.1 := by decide +kernel
theorem ty_G_ok : ∀ k, k < 9 → parseFieldDescriptor (T_G k).2.2.1 = some (ty_G k) := by decide +kernel
theorem tl_G_0 : u_lay R_G T_G 0 ∈ tbG := tb_at 184 (by decide +kernel) (by decide +kernel)
theorem tl_G_1 : u_lay R_G T_G 1 ∈ tbG := tb_at 186 (by decide +kernel) (by decide +kernel)
theorem tl_G_2 : u_lay R_G T_G 2 ∈ tbG := tb_at 188 (by decide +kernel) (by decide +kernel)
theorem tl_G_3 : u_lay R_G T_G 3 ∈ tbG := tb_at 190 (by decide +kernel) (by decide +kernel)
theorem tl_G_4 : u_lay R_G T_G 4 ∈ tbG := tb_at 192 (by decide +kernel) (by decide +kernel)
theorem tl_G_5 : u_lay R_G T_G 5 ∈ tbG := tb_at 194 (by decide +kernel) (by decide +kernel)
theorem tl_G_6 : u_lay R_G T_G 6 ∈ tbG := tb_at 196 (by decide +kernel) (by decide +kernel)
theorem tl_G_7 : u_lay R_G T_G 7 ∈ tbG := tb_at 198 (by decide +kernel) (by decide +kernel)
theorem tl_G_8 : u_lay R_G T_G 8 ∈ tbG := tb_at 200 (by decide +kernel) (by decide +kernel)
theorem tl_G : ∀ w ∈ u_ws R_G T_G 9, w ∈ tbG := by
  intro w hw
  obtain ⟨k, hk, rfl⟩ := List.mem_map.mp hw
  have hk := List.mem_range.mp hk
  rcases (show k = 0 ∨ k = 1 ∨ k = 2 ∨ k = 3 ∨ k = 4 ∨ k = 5 ∨ k = 6 ∨ k = 7 ∨ k = 8 by omega) with rfl | rfl | rfl | rfl | rfl | rfl | rfl | rfl | rfl
  · exact tl_G_0
  · exact tl_G_1
  · exact tl_G_2
  · exact tl_G_3
  · exact tl_G_4
  · exact tl_G_5
  · exact tl_G_6
  · exact tl_G_7
  · exact tl_G_8
def T_Mx : u_T := fun k => match k with
  | 0 => ("GhostKeys$Matrix", "bounces", "[I", true)
  | 1 => ("GhostKeys$Matrix", "otherwise", "[I", true)
  | 2 => ("GhostKeys$Matrix", "wired", "I", false)
  | 3 => ("GhostKeys$Matrix", "read", "I", false)
  | 4 => ("GhostKeys$Matrix", "seen", "I", false)
  | _ => ("GhostKeys$Matrix", "believed", "I", false)
def ty_Mx : Nat → FieldType := fun k => match k with
  | 0 => .array .int
  | 1 => .array .int
  | 2 => .int
  | 3 => .int
  | 4 => .int
  | _ => .int
theorem nm_Mx : ∀ a, a < 6 → ∀ b, b < 6 → a ≠ b → (T_Mx a).2.1 ≠ (T_Mx b).2.1 := by decide +kernel
theorem ty_Mx_ok : ∀ k, k < 6 → parseFieldDescriptor (T_Mx k).2.2.1 = some (ty_Mx k) := by decide +kernel
theorem tl_Mx_0 : u_lay R_Mx T_Mx 0 ∈ tbG := tb_at 39 (by decide +kernel) (by decide +kernel)
theorem tl_Mx_1 : u_lay R_Mx T_Mx 1 ∈ tbG := tb_at 41 (by decide +kernel) (by decide +kernel)
theorem tl_Mx_2 : u_lay R_Mx T_Mx 2 ∈ tbG := tb_at 43 (by decide +kernel) (by decide +kernel)
theorem tl_Mx_3 : u_lay R_Mx T_Mx 3 ∈ tbG := tb_at 45 (by decide +kernel) (by decide +kernel)
theorem tl_Mx_4 : u_lay R_Mx T_Mx 4 ∈ tbG := tb_at 47 (by decide +kernel) (by decide +kernel)
theorem tl_Mx_5 : u_lay R_Mx T_Mx 5 ∈ tbG := tb_at 49 (by decide +kernel) (by decide +kernel)
theorem tl_Mx : ∀ w ∈ u_ws R_Mx T_Mx 6, w ∈ tbG := by
  intro w hw
  obtain ⟨k, hk, rfl⟩ := List.mem_map.mp hw
  have hk := List.mem_range.mp hk
  rcases (show k = 0 ∨ k = 1 ∨ k = 2 ∨ k = 3 ∨ k = 4 ∨ k = 5 by omega) with rfl | rfl | rfl | rfl | rfl | rfl
  · exact tl_Mx_0
  · exact tl_Mx_1
  · exact tl_Mx_2
  · exact tl_Mx_3
  · exact tl_Mx_4
  · exact tl_Mx_5
def T_Hi : u_T := fun k => match k with
  | 0 => ("GhostKeys$History", "events", "[I", true)
  | 1 => ("GhostKeys$History", "next", "I", false)
  | _ => ("GhostKeys$History", "kept", "I", false)
def ty_Hi : Nat → FieldType := fun k => match k with
  | 0 => .array .int
  | 1 => .int
  | _ => .int
theorem nm_Hi : ∀ a, a < 3 → ∀ b, b < 3 → a ≠ b → (T_Hi a).2.1 ≠ (T_Hi b).2.1 := by decide +kernel
theorem ty_Hi_ok : ∀ k, k < 3 → parseFieldDescriptor (T_Hi k).2.2.1 = some (ty_Hi k) := by decide +kernel
theorem tl_Hi_0 : u_lay R_Hi T_Hi 0 ∈ tbG := tb_at 62 (by decide +kernel) (by decide +kernel)
theorem tl_Hi_1 : u_lay R_Hi T_Hi 1 ∈ tbG := tb_at 64 (by decide +kernel) (by decide +kernel)
theorem tl_Hi_2 : u_lay R_Hi T_Hi 2 ∈ tbG := tb_at 66 (by decide +kernel) (by decide +kernel)
theorem tl_Hi : ∀ w ∈ u_ws R_Hi T_Hi 3, w ∈ tbG := by
  intro w hw
  obtain ⟨k, hk, rfl⟩ := List.mem_map.mp hw
  have hk := List.mem_range.mp hk
  rcases (show k = 0 ∨ k = 1 ∨ k = 2 by omega) with rfl | rfl | rfl
  · exact tl_Hi_0
  · exact tl_Hi_1
  · exact tl_Hi_2
def T_Eq : u_T := fun k => match k with
  | 0 => ("GhostKeys$EventQueue", "events", "[I", true)
  | 1 => ("GhostKeys$EventQueue", "scanOf", "[I", true)
  | _ => ("GhostKeys$EventQueue", "length", "I", false)
def ty_Eq : Nat → FieldType := fun k => match k with
  | 0 => .array .int
  | 1 => .array .int
  | _ => .int
theorem nm_Eq : ∀ a, a < 3 → ∀ b, b < 3 → a ≠ b → (T_Eq a).2.1 ≠ (T_Eq b).2.1 := by decide +kernel
theorem ty_Eq_ok : ∀ k, k < 3 → parseFieldDescriptor (T_Eq k).2.2.1 = some (ty_Eq k) := by decide +kernel
theorem tl_Eq_0 : u_lay R_Eq T_Eq 0 ∈ tbG := tb_at 78 (by decide +kernel) (by decide +kernel)
theorem tl_Eq_1 : u_lay R_Eq T_Eq 1 ∈ tbG := tb_at 80 (by decide +kernel) (by decide +kernel)
theorem tl_Eq_2 : u_lay R_Eq T_Eq 2 ∈ tbG := tb_at 82 (by decide +kernel) (by decide +kernel)
theorem tl_Eq : ∀ w ∈ u_ws R_Eq T_Eq 3, w ∈ tbG := by
  intro w hw
  obtain ⟨k, hk, rfl⟩ := List.mem_map.mp hw
  have hk := List.mem_range.mp hk
  rcases (show k = 0 ∨ k = 1 ∨ k = 2 by omega) with rfl | rfl | rfl
  · exact tl_Eq_0
  · exact tl_Eq_1
  · exact tl_Eq_2
def T_Km : u_T := fun k => match k with
  | 0 => ("GhostKeys$Keymap", "kinds", "[I", true)
  | 1 => ("GhostKeys$Keymap", "firsts", "[I", true)
  | 2 => ("GhostKeys$Keymap", "seconds", "[I", true)
  | _ => ("GhostKeys$Keymap", "macroCodes", "[I", true)
def ty_Km : Nat → FieldType := fun k => match k with
  | 0 => .array .int
  | 1 => .array .int
  | 2 => .array .int
  | _ => .array .int
theorem nm_Km : ∀ a, a < 4 → ∀ b, b < 4 → a ≠ b → (T_Km a).2.1 ≠ (T_Km b).2.1 := by decide +kernel
theorem ty_Km_ok : ∀ k, k < 4 → parseFieldDescriptor (T_Km k).2.2.1 = some (ty_Km k) := by decide +kernel
theorem tl_Km_0 : u_lay R_Km T_Km 0 ∈ tbG := tb_at 95 (by decide +kernel) (by decide +kernel)
theorem tl_Km_1 : u_lay R_Km T_Km 1 ∈ tbG := tb_at 97 (by decide +kernel) (by decide +kernel)
theorem tl_Km_2 : u_lay R_Km T_Km 2 ∈ tbG := tb_at 99 (by decide +kernel) (by decide +kernel)
theorem tl_Km_3 : u_lay R_Km T_Km 3 ∈ tbG := tb_at 101 (by decide +kernel) (by decide +kernel)
theorem tl_Km : ∀ w ∈ u_ws R_Km T_Km 4, w ∈ tbG := by
  intro w hw
  obtain ⟨k, hk, rfl⟩ := List.mem_map.mp hw
  have hk := List.mem_range.mp hk
  rcases (show k = 0 ∨ k = 1 ∨ k = 2 ∨ k = 3 by omega) with rfl | rfl | rfl | rfl
  · exact tl_Km_0
  · exact tl_Km_1
  · exact tl_Km_2
  · exact tl_Km_3
def T_Ch : u_T := fun k => match k with
  | 0 => ("GhostKeys$Chords", "keys", "[I", true)
  | _ => ("GhostKeys$Chords", "codes", "[I", true)
def ty_Ch : Nat → FieldType := fun k => match k with
  | 0 => .array .int
  | _ => .array .int
theorem nm_Ch : ∀ a, a < 2 → ∀ b, b < 2 → a ≠ b → (T_Ch a).2.1 ≠ (T_Ch b).2.1 := by decide +kernel
theorem ty_Ch_ok : ∀ k, k < 2 → parseFieldDescriptor (T_Ch k).2.2.1 = some (ty_Ch k) := by decide +kernel
theorem tl_Ch_0 : u_lay R_Ch T_Ch 0 ∈ tbG := tb_at 112 (by decide +kernel) (by decide +kernel)
theorem tl_Ch_1 : u_lay R_Ch T_Ch 1 ∈ tbG := tb_at 114 (by decide +kernel) (by decide +kernel)
theorem tl_Ch : ∀ w ∈ u_ws R_Ch T_Ch 2, w ∈ tbG := by
  intro w hw
  obtain ⟨k, hk, rfl⟩ := List.mem_map.mp hw
  have hk := List.mem_range.mp hk
  rcases (show k = 0 ∨ k = 1 by omega) with rfl | rfl
  · exact tl_Ch_0
  · exact tl_Ch_1
def T_La : u_T := fun k => match k with
  | 0 => ("GhostKeys$Layers", "holders", "[I", true)
  | 1 => ("GhostKeys$Layers", "locked", "I", false)
  | _ => ("GhostKeys$Layers", "armed", "I", false)
def ty_La : Nat → FieldType := fun k => match k with
  | 0 => .array .int
  | 1 => .int
  | _ => .int
theorem nm_La : ∀ a, a < 3 → ∀ b, b < 3 → a ≠ b → (T_La a).2.1 ≠ (T_La b).2.1 := by decide +kernel
theorem ty_La_ok : ∀ k, k < 3 → parseFieldDescriptor (T_La k).2.2.1 = some (ty_La k) := by decide +kernel
theorem tl_La_0 : u_lay R_La T_La 0 ∈ tbG := tb_at 126 (by decide +kernel) (by decide +kernel)
theorem tl_La_1 : u_lay R_La T_La 1 ∈ tbG := tb_at 128 (by decide +kernel) (by decide +kernel)
theorem tl_La_2 : u_lay R_La T_La 2 ∈ tbG := tb_at 130 (by decide +kernel) (by decide +kernel)
theorem tl_La : ∀ w ∈ u_ws R_La T_La 3, w ∈ tbG := by
  intro w hw
  obtain ⟨k, hk, rfl⟩ := List.mem_map.mp hw
  have hk := List.mem_range.mp hk
  rcases (show k = 0 ∨ k = 1 ∨ k = 2 by omega) with rfl | rfl | rfl
  · exact tl_La_0
  · exact tl_La_1
  · exact tl_La_2
def T_Ho : u_T := fun k => match k with
  | 0 => ("GhostKeys$Holds", "codes", "[I", true)
  | _ => ("GhostKeys$Holds", "mates", "[I", true)
def ty_Ho : Nat → FieldType := fun k => match k with
  | 0 => .array .int
  | _ => .array .int
theorem nm_Ho : ∀ a, a < 2 → ∀ b, b < 2 → a ≠ b → (T_Ho a).2.1 ≠ (T_Ho b).2.1 := by decide +kernel
theorem ty_Ho_ok : ∀ k, k < 2 → parseFieldDescriptor (T_Ho k).2.2.1 = some (ty_Ho k) := by decide +kernel
theorem tl_Ho_0 : u_lay R_Ho T_Ho 0 ∈ tbG := tb_at 141 (by decide +kernel) (by decide +kernel)
theorem tl_Ho_1 : u_lay R_Ho T_Ho 1 ∈ tbG := tb_at 143 (by decide +kernel) (by decide +kernel)
theorem tl_Ho : ∀ w ∈ u_ws R_Ho T_Ho 2, w ∈ tbG := by
  intro w hw
  obtain ⟨k, hk, rfl⟩ := List.mem_map.mp hw
  have hk := List.mem_range.mp hk
  rcases (show k = 0 ∨ k = 1 by omega) with rfl | rfl
  · exact tl_Ho_0
  · exact tl_Ho_1
def T_Re : u_T := fun k => match k with
  | 0 => ("GhostKeys$Reports", "holders", "[I", true)
  | 1 => ("GhostKeys$Reports", "store", "[J", true)
  | 2 => ("GhostKeys$Reports", "oldest", "I", false)
  | 3 => ("GhostKeys$Reports", "stored", "I", false)
  | 4 => ("GhostKeys$Reports", "late", "Z", false)
  | 5 => ("GhostKeys$Reports", "lastPut", "J", false)
  | _ => ("GhostKeys$Reports", "taken", "J", false)
def ty_Re : Nat → FieldType := fun k => match k with
  | 0 => .array .int
  | 1 => .array .long
  | 2 => .int
  | 3 => .int
  | 4 => .boolean
  | 5 => .long
  | _ => .long
theorem nm_Re : ∀ a, a < 7 → ∀ b, b < 7 → a ≠ b → (T_Re a).2.1 ≠ (T_Re b).2.1 := by decide +kernel
theorem ty_Re_ok : ∀ k, k < 7 → parseFieldDescriptor (T_Re k).2.2.1 = some (ty_Re k) := by decide +kernel
theorem tl_Re_0 : u_lay R_Re T_Re 0 ∈ tbG := tb_at 159 (by decide +kernel) (by decide +kernel)
theorem tl_Re_1 : u_lay R_Re T_Re 1 ∈ tbG := tb_at 161 (by decide +kernel) (by decide +kernel)
theorem tl_Re_2 : u_lay R_Re T_Re 2 ∈ tbG := tb_at 163 (by decide +kernel) (by decide +kernel)
theorem tl_Re_3 : u_lay R_Re T_Re 3 ∈ tbG := tb_at 165 (by decide +kernel) (by decide +kernel)
theorem tl_Re_4 : u_lay R_Re T_Re 4 ∈ tbG := tb_at 167 (by decide +kernel) (by decide +kernel)
theorem tl_Re_5 : u_lay R_Re T_Re 5 ∈ tbG := tb_at 169 (by decide +kernel) (by decide +kernel)
theorem tl_Re_6 : u_lay R_Re T_Re 6 ∈ tbG := tb_at 171 (by decide +kernel) (by decide +kernel)
theorem tl_Re : ∀ w ∈ u_ws R_Re T_Re 7, w ∈ tbG := by
  intro w hw
  obtain ⟨k, hk, rfl⟩ := List.mem_map.mp hw
  have hk := List.mem_range.mp hk
  rcases (show k = 0 ∨ k = 1 ∨ k = 2 ∨ k = 3 ∨ k = 4 ∨ k = 5 ∨ k = 6 by omega) with rfl | rfl | rfl | rfl | rfl | rfl | rfl
  · exact tl_Re_0
  · exact tl_Re_1
  · exact tl_Re_2
  · exact tl_Re_3
  · exact tl_Re_4
  · exact tl_Re_5
  · exact tl_Re_6
def T_Mo : u_T := fun k => match k with
  | 0 => ("GhostKeysModel", "fault", "I", false)
  | 1 => ("GhostKeysModel", "now", "I", false)
  | 2 => ("GhostKeysModel", "wired", "[Z", true)
  | 3 => ("GhostKeysModel", "bounces", "[I", true)
  | 4 => ("GhostKeysModel", "closed", "[Z", true)
  | 5 => ("GhostKeysModel", "read", "[Z", true)
  | 6 => ("GhostKeysModel", "seen", "[Z", true)
  | 7 => ("GhostKeysModel", "others", "[I", true)
  | 8 => ("GhostKeysModel", "believed", "[Z", true)
  | 9 => ("GhostKeysModel", "queued", "I", false)
  | 10 => ("GhostKeysModel", "events", "[I", true)
  | 11 => ("GhostKeysModel", "scans", "[I", true)
  | 12 => ("GhostKeysModel", "told", "I", false)
  | 13 => ("GhostKeysModel", "latest", "[I", true)
  | 14 => ("GhostKeysModel", "kinds", "[I", true)
  | 15 => ("GhostKeysModel", "firsts", "[I", true)
  | 16 => ("GhostKeysModel", "seconds", "[I", true)
  | 17 => ("GhostKeysModel", "macros", "[I", true)
  | 18 => ("GhostKeysModel", "chordKeys", "[I", true)
  | 19 => ("GhostKeysModel", "chordCodes", "[I", true)
  | 20 => ("GhostKeysModel", "locked", "[Z", true)
  | 21 => ("GhostKeysModel", "armed", "[Z", true)
  | 22 => ("GhostKeysModel", "began", "[I", true)
  | 23 => ("GhostKeysModel", "beganWhat", "[I", true)
  | 24 => ("GhostKeysModel", "beganChord", "[I", true)
  | 25 => ("GhostKeysModel", "chords", "I", false)
  | 26 => ("GhostKeysModel", "down", "[I", true)
  | 27 => ("GhostKeysModel", "reports", "[I", true)
  | 28 => ("GhostKeysModel", "stored", "I", false)
  | _ => ("GhostKeysModel", "late", "Z", false)
def ty_Mo : Nat → FieldType := fun k => match k with
  | 0 => .int
  | 1 => .int
  | 2 => .array .boolean
  | 3 => .array .int
  | 4 => .array .boolean
  | 5 => .array .boolean
  | 6 => .array .boolean
  | 7 => .array .int
  | 8 => .array .boolean
  | 9 => .int
  | 10 => .array .int
  | 11 => .array .int
  | 12 => .int
  | 13 => .array .int
  | 14 => .array .int
  | 15 => .array .int
  | 16 => .array .int
  | 17 => .array .int
  | 18 => .array .int
  | 19 => .array .int
  | 20 => .array .boolean
  | 21 => .array .boolean
  | 22 => .array .int
  | 23 => .array .int
  | 24 => .array .int
  | 25 => .int
  | 26 => .array .int
  | 27 => .array .int
  | 28 => .int
  | _ => .boolean
theorem nm_Mo : ∀ a, a < 30 → ∀ b, b < 30 → a ≠ b → (T_Mo a).2.1 ≠ (T_Mo b).2.1 := by decide +kernel
theorem ty_Mo_ok : ∀ k, k < 30 → parseFieldDescriptor (T_Mo k).2.2.1 = some (ty_Mo k) := by decide +kernel
theorem tl_Mo_0 : u_lay R_Mo T_Mo 0 ∈ tbG := tb_at 714 (by decide +kernel) (by decide +kernel)
theorem tl_Mo_1 : u_lay R_Mo T_Mo 1 ∈ tbG := tb_at 716 (by decide +kernel) (by decide +kernel)
theorem tl_Mo_2 : u_lay R_Mo T_Mo 2 ∈ tbG := tb_at 718 (by decide +kernel) (by decide +kernel)
theorem tl_Mo_3 : u_lay R_Mo T_Mo 3 ∈ tbG := tb_at 720 (by decide +kernel) (by decide +kernel)
theorem tl_Mo_4 : u_lay R_Mo T_Mo 4 ∈ tbG := tb_at 722 (by decide +kernel) (by decide +kernel)
theorem tl_Mo_5 : u_lay R_Mo T_Mo 5 ∈ tbG := tb_at 724 (by decide +kernel) (by decide +kernel)
theorem tl_Mo_6 : u_lay R_Mo T_Mo 6 ∈ tbG := tb_at 726 (by decide +kernel) (by decide +kernel)
theorem tl_Mo_7 : u_lay R_Mo T_Mo 7 ∈ tbG := tb_at 728 (by decide +kernel) (by decide +kernel)
theorem tl_Mo_8 : u_lay R_Mo T_Mo 8 ∈ tbG := tb_at 730 (by decide +kernel) (by decide +kernel)
theorem tl_Mo_9 : u_lay R_Mo T_Mo 9 ∈ tbG := tb_at 732 (by decide +kernel) (by decide +kernel)
theorem tl_Mo_10 : u_lay R_Mo T_Mo 10 ∈ tbG := tb_at 734 (by decide +kernel) (by decide +kernel)
theorem tl_Mo_11 : u_lay R_Mo T_Mo 11 ∈ tbG := tb_at 736 (by decide +kernel) (by decide +kernel)
theorem tl_Mo_12 : u_lay R_Mo T_Mo 12 ∈ tbG := tb_at 738 (by decide +kernel) (by decide +kernel)
theorem tl_Mo_13 : u_lay R_Mo T_Mo 13 ∈ tbG := tb_at 740 (by decide +kernel) (by decide +kernel)
theorem tl_Mo_14 : u_lay R_Mo T_Mo 14 ∈ tbG := tb_at 742 (by decide +kernel) (by decide +kernel)
theorem tl_Mo_15 : u_lay R_Mo T_Mo 15 ∈ tbG := tb_at 744 (by decide +kernel) (by decide +kernel)
theorem tl_Mo_16 : u_lay R_Mo T_Mo 16 ∈ tbG := tb_at 746 (by decide +kernel) (by decide +kernel)
theorem tl_Mo_17 : u_lay R_Mo T_Mo 17 ∈ tbG := tb_at 748 (by decide +kernel) (by decide +kernel)
theorem tl_Mo_18 : u_lay R_Mo T_Mo 18 ∈ tbG := tb_at 750 (by decide +kernel) (by decide +kernel)
theorem tl_Mo_19 : u_lay R_Mo T_Mo 19 ∈ tbG := tb_at 752 (by decide +kernel) (by decide +kernel)
theorem tl_Mo_20 : u_lay R_Mo T_Mo 20 ∈ tbG := tb_at 754 (by decide +kernel) (by decide +kernel)
theorem tl_Mo_21 : u_lay R_Mo T_Mo 21 ∈ tbG := tb_at 756 (by decide +kernel) (by decide +kernel)
theorem tl_Mo_22 : u_lay R_Mo T_Mo 22 ∈ tbG := tb_at 758 (by decide +kernel) (by decide +kernel)
theorem tl_Mo_23 : u_lay R_Mo T_Mo 23 ∈ tbG := tb_at 760 (by decide +kernel) (by decide +kernel)
theorem tl_Mo_24 : u_lay R_Mo T_Mo 24 ∈ tbG := tb_at 762 (by decide +kernel) (by decide +kernel)
theorem tl_Mo_25 : u_lay R_Mo T_Mo 25 ∈ tbG := tb_at 764 (by decide +kernel) (by decide +kernel)
theorem tl_Mo_26 : u_lay R_Mo T_Mo 26 ∈ tbG := tb_at 766 (by decide +kernel) (by decide +kernel)
theorem tl_Mo_27 : u_lay R_Mo T_Mo 27 ∈ tbG := tb_at 768 (by decide +kernel) (by decide +kernel)
theorem tl_Mo_28 : u_lay R_Mo T_Mo 28 ∈ tbG := tb_at 770 (by decide +kernel) (by decide +kernel)
theorem tl_Mo_29 : u_lay R_Mo T_Mo 29 ∈ tbG := tb_at 772 (by decide +kernel) (by decide +kernel)
theorem tl_Mo : ∀ w ∈ u_ws R_Mo T_Mo 30, w ∈ tbG := by
  intro w hw
  obtain ⟨k, hk, rfl⟩ := List.mem_map.mp hw
  have hk := List.mem_range.mp hk
  rcases (show k = 0 ∨ k = 1 ∨ k = 2 ∨ k = 3 ∨ k = 4 ∨ k = 5 ∨ k = 6 ∨ k = 7 ∨ k = 8 ∨ k = 9 ∨ k = 10 ∨ k = 11 ∨ k = 12 ∨ k = 13 ∨ k = 14 ∨ k = 15 ∨ k = 16 ∨ k = 17 ∨ k = 18 ∨ k = 19 ∨ k = 20 ∨ k = 21 ∨ k = 22 ∨ k = 23 ∨ k = 24 ∨ k = 25 ∨ k = 26 ∨ k = 27 ∨ k = 28 ∨ k = 29 by omega) with rfl | rfl | rfl | rfl | rfl | rfl | rfl | rfl | rfl | rfl | rfl | rfl | rfl | rfl | rfl | rfl | rfl | rfl | rfl | rfl | rfl | rfl | rfl | rfl | rfl | rfl | rfl | rfl | rfl | rfl
  · exact tl_Mo_0
  · exact tl_Mo_1
  · exact tl_Mo_2
  · exact tl_Mo_3
  · exact tl_Mo_4
  · exact tl_Mo_5
  · exact tl_Mo_6
  · exact tl_Mo_7
  · exact tl_Mo_8
  · exact tl_Mo_9
  · exact tl_Mo_10
  · exact tl_Mo_11
  · exact tl_Mo_12
  · exact tl_Mo_13
  · exact tl_Mo_14
  · exact tl_Mo_15
  · exact tl_Mo_16
  · exact tl_Mo_17
  · exact tl_Mo_18
  · exact tl_Mo_19
  · exact tl_Mo_20
  · exact tl_Mo_21
  · exact tl_Mo_22
  · exact tl_Mo_23
  · exact tl_Mo_24
  · exact tl_Mo_25
  · exact tl_Mo_26
  · exact tl_Mo_27
  · exact tl_Mo_28
  · exact tl_Mo_29
abbrev vwCl : List vw_C := [(R_G, T_G, 9), (R_Mx, T_Mx, 6), (R_Hi, T_Hi, 3), (R_Eq, T_Eq, 3), (R_Km, T_Km, 4), (R_Ch, T_Ch, 2), (R_La, T_La, 3), (R_Ho, T_Ho, 2), (R_Re, T_Re, 7), (R_Mo, T_Mo, 30)]
abbrev b_G_init : ByteArray := prog_1_method_1_code
def y_G_init : MethodName := ⟨R_G, "<init>", "()V"⟩
abbrev cw_G_init : Cond := .code y_G_init b_G_init 1 none
def ws_G_init : List Cond := cw_G_init :: tbG
abbrev b_G_wire : ByteArray := prog_1_method_2_code
def y_G_wire : MethodName := ⟨R_G, "wire", "(IZ)V"⟩
abbrev cw_G_wire : Cond := .code y_G_wire b_G_wire 3 none
def ws_G_wire : List Cond := cw_G_wire :: tbG
abbrev b_G_bounce : ByteArray := prog_1_method_3_code
def y_G_bounce : MethodName := ⟨R_G, "bounce", "(II)V"⟩
abbrev cw_G_bounce : Cond := .code y_G_bounce b_G_bounce 3 none
def ws_G_bounce : List Cond := cw_G_bounce :: tbG
abbrev b_G_scan : ByteArray := prog_1_method_4_code
def y_G_scan : MethodName := ⟨R_G, "scan", "()I"⟩
abbrev cw_G_scan : Cond := .code y_G_scan b_G_scan 1 (some .int)
def ws_G_scan : List Cond := cw_G_scan :: tbG
abbrev b_G_scans : ByteArray := prog_1_method_5_code
def y_G_scans : MethodName := ⟨R_G, "scans", "(I)I"⟩
abbrev cw_G_scans : Cond := .code y_G_scans b_G_scans 4 (some .int)
def ws_G_scans : List Cond := cw_G_scans :: tbG
abbrev b_G_poll : ByteArray := prog_1_method_6_code
def y_G_poll : MethodName := ⟨R_G, "poll", "()Z"⟩
abbrev cw_G_poll : Cond := .code y_G_poll b_G_poll 1 (some .boolean)
def ws_G_poll : List Cond := cw_G_poll :: tbG
abbrev b_G_report : ByteArray := prog_1_method_7_code
def y_G_report : MethodName := ⟨R_G, "report", "(I)I"⟩
abbrev cw_G_report : Cond := .code y_G_report b_G_report 2 (some .int)
def ws_G_report : List Cond := cw_G_report :: tbG
abbrev b_G_waiting : ByteArray := prog_1_method_8_code
def y_G_waiting : MethodName := ⟨R_G, "waiting", "()I"⟩
abbrev cw_G_waiting : Cond := .code y_G_waiting b_G_waiting 1 (some .int)
def ws_G_waiting : List Cond := cw_G_waiting :: tbG
abbrev b_G_late : ByteArray := prog_1_method_9_code
def y_G_late : MethodName := ⟨R_G, "late", "()Z"⟩
abbrev cw_G_late : Cond := .code y_G_late b_G_late 1 (some .boolean)
def ws_G_late : List Cond := cw_G_late :: tbG
abbrev b_G_map : ByteArray := prog_1_method_10_code
def y_G_map : MethodName := ⟨R_G, "map", "(IIIII)V"⟩
abbrev cw_G_map : Cond := .code y_G_map b_G_map 6 none
def ws_G_map : List Cond := cw_G_map :: tbG
abbrev b_G_macro : ByteArray := prog_1_method_11_code
def y_G_macro : MethodName := ⟨R_G, "macro", "(III)V"⟩
abbrev cw_G_macro : Cond := .code y_G_macro b_G_macro 4 none
def ws_G_macro : List Cond := cw_G_macro :: tbG
abbrev b_G_chord : ByteArray := prog_1_method_12_code
def y_G_chord : MethodName := ⟨R_G, "chord", "(III)V"⟩
abbrev cw_G_chord : Cond := .code y_G_chord b_G_chord 4 none
def ws_G_chord : List Cond := cw_G_chord :: tbG
abbrev b_G_on : ByteArray := prog_1_method_13_code
def y_G_on : MethodName := ⟨R_G, "on", "(I)Z"⟩
abbrev cw_G_on : Cond := .code y_G_on b_G_on 2 (some .boolean)
def ws_G_on : List Cond := cw_G_on :: tbG
abbrev b_G_top : ByteArray := prog_1_method_14_code
def y_G_top : MethodName := ⟨R_G, "top", "(I)I"⟩
abbrev cw_G_top : Cond := .code y_G_top b_G_top 2 (some .int)
def ws_G_top : List Cond := cw_G_top :: tbG
abbrev b_G_key : ByteArray := prog_1_method_15_code
def y_G_key : MethodName := ⟨R_G, "key", "(II)I"⟩
abbrev cw_G_key : Cond := .code y_G_key b_G_key 3 (some .int)
def ws_G_key : List Cond := cw_G_key :: tbG
abbrev b_G_queued : ByteArray := prog_1_method_16_code
def y_G_queued : MethodName := ⟨R_G, "queued", "()I"⟩
abbrev cw_G_queued : Cond := .code y_G_queued b_G_queued 1 (some .int)
def ws_G_queued : List Cond := cw_G_queued :: tbG
abbrev b_G_history : ByteArray := prog_1_method_17_code
def y_G_history : MethodName := ⟨R_G, "history", "(I)I"⟩
abbrev cw_G_history : Cond := .code y_G_history b_G_history 2 (some .int)
def ws_G_history : List Cond := cw_G_history :: tbG
abbrev b_G_requireKey : ByteArray := prog_1_method_18_code
def y_G_requireKey : MethodName := ⟨R_G, "requireKey", "(I)V"⟩
abbrev cw_G_requireKey : Cond := .code y_G_requireKey b_G_requireKey 1 none
def ws_G_requireKey : List Cond := cw_G_requireKey :: tbG
abbrev b_G_requireLayer : ByteArray := prog_1_method_19_code
def y_G_requireLayer : MethodName := ⟨R_G, "requireLayer", "(I)V"⟩
abbrev cw_G_requireLayer : Cond := .code y_G_requireLayer b_G_requireLayer 1 none
def ws_G_requireLayer : List Cond := cw_G_requireLayer :: tbG
abbrev b_G_isCode : ByteArray := prog_1_method_20_code
def y_G_isCode : MethodName := ⟨R_G, "isCode", "(I)Z"⟩
abbrev cw_G_isCode : Cond := .code y_G_isCode b_G_isCode 1 (some .boolean)
def ws_G_isCode : List Cond := cw_G_isCode :: tbG
abbrev b_G_isUpperLayer : ByteArray := prog_1_method_21_code
def y_G_isUpperLayer : MethodName := ⟨R_G, "isUpperLayer", "(I)Z"⟩
abbrev cw_G_isUpperLayer : Cond := .code y_G_isUpperLayer b_G_isUpperLayer 1 (some .boolean)
def ws_G_isUpperLayer : List Cond := cw_G_isUpperLayer :: tbG
abbrev b_G_isChord : ByteArray := prog_1_method_22_code
def y_G_isChord : MethodName := ⟨R_G, "isChord", "(I)Z"⟩
abbrev cw_G_isChord : Cond := .code y_G_isChord b_G_isChord 2 (some .boolean)
def ws_G_isChord : List Cond := cw_G_isChord :: tbG
abbrev b_G_isAction : ByteArray := prog_1_method_23_code
def y_G_isAction : MethodName := ⟨R_G, "isAction", "(III)Z"⟩
abbrev cw_G_isAction : Cond := .code y_G_isAction b_G_isAction 3 (some .boolean)
def ws_G_isAction : List Cond := cw_G_isAction :: tbG
abbrev b_G_runScan : ByteArray := prog_1_method_24_code
def y_G_runScan : MethodName := ⟨R_G, "runScan", "()I"⟩
abbrev cw_G_runScan : Cond := .code y_G_runScan b_G_runScan 4 (some .int)
def ws_G_runScan : List Cond := cw_G_runScan :: tbG
abbrev b_G_bringEvents : ByteArray := prog_1_method_25_code
def y_G_bringEvents : MethodName := ⟨R_G, "bringEvents", "()I"⟩
abbrev cw_G_bringEvents : Cond := .code y_G_bringEvents b_G_bringEvents 4 (some .int)
def ws_G_bringEvents : List Cond := cw_G_bringEvents :: tbG
abbrev b_G_takeFirst : ByteArray := prog_1_method_26_code
def y_G_takeFirst : MethodName := ⟨R_G, "takeFirst", "()Z"⟩
abbrev cw_G_takeFirst : Cond := .code y_G_takeFirst b_G_takeFirst 3 (some .boolean)
def ws_G_takeFirst : List Cond := cw_G_takeFirst :: tbG
abbrev b_G_takeRelease : ByteArray := prog_1_method_27_code
def y_G_takeRelease : MethodName := ⟨R_G, "takeRelease", "()V"⟩
abbrev cw_G_takeRelease : Cond := .code y_G_takeRelease b_G_takeRelease 3 none
def ws_G_takeRelease : List Cond := cw_G_takeRelease :: tbG
abbrev b_G_waitsForChord : ByteArray := prog_1_method_28_code
def y_G_waitsForChord : MethodName := ⟨R_G, "waitsForChord", "(I)Z"⟩
abbrev cw_G_waitsForChord : Cond := .code y_G_waitsForChord b_G_waitsForChord 2 (some .boolean)
def ws_G_waitsForChord : List Cond := cw_G_waitsForChord :: tbG
abbrev b_G_takeChord : ByteArray := prog_1_method_29_code
def y_G_takeChord : MethodName := ⟨R_G, "takeChord", "(I)V"⟩
abbrev cw_G_takeChord : Cond := .code y_G_takeChord b_G_takeChord 4 none
def ws_G_takeChord : List Cond := cw_G_takeChord :: tbG
abbrev b_G_takeByAction : ByteArray := prog_1_method_30_code
def y_G_takeByAction : MethodName := ⟨R_G, "takeByAction", "()Z"⟩
abbrev cw_G_takeByAction : Cond := .code y_G_takeByAction b_G_takeByAction 6 (some .boolean)
def ws_G_takeByAction : List Cond := cw_G_takeByAction :: tbG
abbrev b_G_tellTap : ByteArray := prog_1_method_31_code
def y_G_tellTap : MethodName := ⟨R_G, "tellTap", "()I"⟩
abbrev cw_G_tellTap : Cond := .code y_G_tellTap b_G_tellTap 3 (some .int)
def ws_G_tellTap : List Cond := cw_G_tellTap :: tbG
abbrev b_G_actTap : ByteArray := prog_1_method_32_code
def y_G_actTap : MethodName := ⟨R_G, "actTap", "(III)V"⟩
abbrev cw_G_actTap : Cond := .code y_G_actTap b_G_actTap 5 none
def ws_G_actTap : List Cond := cw_G_actTap :: tbG
abbrev b_G_playMacro : ByteArray := prog_1_method_33_code
def y_G_playMacro : MethodName := ⟨R_G, "playMacro", "(I)V"⟩
abbrev cw_G_playMacro : Cond := .code y_G_playMacro b_G_playMacro 4 none
def ws_G_playMacro : List Cond := cw_G_playMacro :: tbG
abbrev b_Mo_init : ByteArray := prog_11_method_1_code
def y_Mo_init : MethodName := ⟨R_Mo, "<init>", "()V"⟩
abbrev cw_Mo_init : Cond := .code y_Mo_init b_Mo_init 1 none
def ws_Mo_init : List Cond := cw_Mo_init :: tbG
abbrev b_Mo_thrown : ByteArray := prog_11_method_2_code
def y_Mo_thrown : MethodName := ⟨R_Mo, "thrown", "()I"⟩
abbrev cw_Mo_thrown : Cond := .code y_Mo_thrown b_Mo_thrown 1 (some .int)
def ws_Mo_thrown : List Cond := cw_Mo_thrown :: tbG
abbrev b_Mo_refused : ByteArray := prog_11_method_3_code
def y_Mo_refused : MethodName := ⟨R_Mo, "refused", "(I)Z"⟩
abbrev cw_Mo_refused : Cond := .code y_Mo_refused b_Mo_refused 2 (some .boolean)
def ws_Mo_refused : List Cond := cw_Mo_refused :: tbG
abbrev b_Mo_isKey : ByteArray := prog_11_method_4_code
def y_Mo_isKey : MethodName := ⟨R_Mo, "isKey", "(I)Z"⟩
abbrev cw_Mo_isKey : Cond := .code y_Mo_isKey b_Mo_isKey 1 (some .boolean)
def ws_Mo_isKey : List Cond := cw_Mo_isKey :: tbG
abbrev b_Mo_isFour : ByteArray := prog_11_method_5_code
def y_Mo_isFour : MethodName := ⟨R_Mo, "isFour", "(I)Z"⟩
abbrev cw_Mo_isFour : Cond := .code y_Mo_isFour b_Mo_isFour 1 (some .boolean)
def ws_Mo_isFour : List Cond := cw_Mo_isFour :: tbG
abbrev b_Mo_isCode : ByteArray := prog_11_method_6_code
def y_Mo_isCode : MethodName := ⟨R_Mo, "isCode", "(I)Z"⟩
abbrev cw_Mo_isCode : Cond := .code y_Mo_isCode b_Mo_isCode 1 (some .boolean)
def ws_Mo_isCode : List Cond := cw_Mo_isCode :: tbG
abbrev b_Mo_wire : ByteArray := prog_11_method_7_code
def y_Mo_wire : MethodName := ⟨R_Mo, "wire", "(IZ)V"⟩
abbrev cw_Mo_wire : Cond := .code y_Mo_wire b_Mo_wire 3 none
def ws_Mo_wire : List Cond := cw_Mo_wire :: tbG
abbrev b_Mo_bounce : ByteArray := prog_11_method_8_code
def y_Mo_bounce : MethodName := ⟨R_Mo, "bounce", "(II)V"⟩
abbrev cw_Mo_bounce : Cond := .code y_Mo_bounce b_Mo_bounce 3 none
def ws_Mo_bounce : List Cond := cw_Mo_bounce :: tbG
abbrev b_Mo_hasCorners : ByteArray := prog_11_method_9_code
def y_Mo_hasCorners : MethodName := ⟨R_Mo, "hasCorners", "(IZ)Z"⟩
abbrev cw_Mo_hasCorners : Cond := .code y_Mo_hasCorners b_Mo_hasCorners 12 (some .boolean)
def ws_Mo_hasCorners : List Cond := cw_Mo_hasCorners :: tbG
abbrev b_Mo_look : ByteArray := prog_11_method_10_code
def y_Mo_look : MethodName := ⟨R_Mo, "look", "()V"⟩
abbrev cw_Mo_look : Cond := .code y_Mo_look b_Mo_look 2 none
def ws_Mo_look : List Cond := cw_Mo_look :: tbG
abbrev b_Mo_bring : ByteArray := prog_11_method_11_code
def y_Mo_bring : MethodName := ⟨R_Mo, "bring", "(II)V"⟩
abbrev cw_Mo_bring : Cond := .code y_Mo_bring b_Mo_bring 4 none
def ws_Mo_bring : List Cond := cw_Mo_bring :: tbG
abbrev b_Mo_believe : ByteArray := prog_11_method_12_code
def y_Mo_believe : MethodName := ⟨R_Mo, "believe", "()I"⟩
abbrev cw_Mo_believe : Cond := .code y_Mo_believe b_Mo_believe 5 (some .int)
def ws_Mo_believe : List Cond := cw_Mo_believe :: tbG
abbrev b_Mo_isOn : ByteArray := prog_11_method_13_code
def y_Mo_isOn : MethodName := ⟨R_Mo, "isOn", "(I)Z"⟩
abbrev cw_Mo_isOn : Cond := .code y_Mo_isOn b_Mo_isOn 4 (some .boolean)
def ws_Mo_isOn : List Cond := cw_Mo_isOn :: tbG
abbrev b_Mo_topOf : ByteArray := prog_11_method_14_code
def y_Mo_topOf : MethodName := ⟨R_Mo, "topOf", "(I)I"⟩
abbrev cw_Mo_topOf : Cond := .code y_Mo_topOf b_Mo_topOf 4 (some .int)
def ws_Mo_topOf : List Cond := cw_Mo_topOf :: tbG
abbrev b_Mo_makeReport : ByteArray := prog_11_method_15_code
def y_Mo_makeReport : MethodName := ⟨R_Mo, "makeReport", "()V"⟩
abbrev cw_Mo_makeReport : Cond := .code y_Mo_makeReport b_Mo_makeReport 4 none
def ws_Mo_makeReport : List Cond := cw_Mo_makeReport :: tbG
abbrev b_Mo_copyReport : ByteArray := prog_11_method_16_code
def y_Mo_copyReport : MethodName := ⟨R_Mo, "copyReport", "(II)V"⟩
abbrev cw_Mo_copyReport : Cond := .code y_Mo_copyReport b_Mo_copyReport 4 none
def ws_Mo_copyReport : List Cond := cw_Mo_copyReport :: tbG
abbrev b_Mo_tell : ByteArray := prog_11_method_17_code
def y_Mo_tell : MethodName := ⟨R_Mo, "tell", "()V"⟩
abbrev cw_Mo_tell : Cond := .code y_Mo_tell b_Mo_tell 3 none
def ws_Mo_tell : List Cond := cw_Mo_tell :: tbG
abbrev b_Mo_change : ByteArray := prog_11_method_18_code
def y_Mo_change : MethodName := ⟨R_Mo, "change", "(II)V"⟩
abbrev cw_Mo_change : Cond := .code y_Mo_change b_Mo_change 3 none
def ws_Mo_change : List Cond := cw_Mo_change :: tbG
abbrev b_Mo_touch : ByteArray := prog_11_method_19_code
def y_Mo_touch : MethodName := ⟨R_Mo, "touch", "(I)V"⟩
abbrev cw_Mo_touch : Cond := .code y_Mo_touch b_Mo_touch 2 none
def ws_Mo_touch : List Cond := cw_Mo_touch :: tbG
abbrev b_Mo_drop : ByteArray := prog_11_method_20_code
def y_Mo_drop : MethodName := ⟨R_Mo, "drop", "(I)V"⟩
abbrev cw_Mo_drop : Cond := .code y_Mo_drop b_Mo_drop 3 none
def ws_Mo_drop : List Cond := cw_Mo_drop :: tbG
abbrev b_Mo_takeRelease : ByteArray := prog_11_method_21_code
def y_Mo_takeRelease : MethodName := ⟨R_Mo, "takeRelease", "(I)V"⟩
abbrev cw_Mo_takeRelease : Cond := .code y_Mo_takeRelease b_Mo_takeRelease 6 none
def ws_Mo_takeRelease : List Cond := cw_Mo_takeRelease :: tbG
abbrev b_Mo_rowLength : ByteArray := prog_11_method_22_code
def y_Mo_rowLength : MethodName := ⟨R_Mo, "rowLength", "()I"⟩
abbrev cw_Mo_rowLength : Cond := .code y_Mo_rowLength b_Mo_rowLength 2 (some .int)
def ws_Mo_rowLength : List Cond := cw_Mo_rowLength :: tbG
abbrev b_Mo_keysOf : ByteArray := prog_11_method_23_code
def y_Mo_keysOf : MethodName := ⟨R_Mo, "keysOf", "(I)I"⟩
abbrev cw_Mo_keysOf : Cond := .code y_Mo_keysOf b_Mo_keysOf 4 (some .int)
def ws_Mo_keysOf : List Cond := cw_Mo_keysOf :: tbG
abbrev b_Mo_waitsForChord : ByteArray := prog_11_method_24_code
def y_Mo_waitsForChord : MethodName := ⟨R_Mo, "waitsForChord", "(I)Z"⟩
abbrev cw_Mo_waitsForChord : Cond := .code y_Mo_waitsForChord b_Mo_waitsForChord 5 (some .boolean)
def ws_Mo_waitsForChord : List Cond := cw_Mo_waitsForChord :: tbG
abbrev b_Mo_bitsOf : ByteArray := prog_11_method_25_code
def y_Mo_bitsOf : MethodName := ⟨R_Mo, "bitsOf", "(I)I"⟩
abbrev cw_Mo_bitsOf : Cond := .code y_Mo_bitsOf b_Mo_bitsOf 3 (some .int)
def ws_Mo_bitsOf : List Cond := cw_Mo_bitsOf :: tbG
abbrev b_Mo_chordOf : ByteArray := prog_11_method_26_code
def y_Mo_chordOf : MethodName := ⟨R_Mo, "chordOf", "(I)I"⟩
abbrev cw_Mo_chordOf : Cond := .code y_Mo_chordOf b_Mo_chordOf 6 (some .int)
def ws_Mo_chordOf : List Cond := cw_Mo_chordOf :: tbG
abbrev b_Mo_takeChord : ByteArray := prog_11_method_27_code
def y_Mo_takeChord : MethodName := ⟨R_Mo, "takeChord", "(I)V"⟩
abbrev cw_Mo_takeChord : Cond := .code y_Mo_takeChord b_Mo_takeChord 5 none
def ws_Mo_takeChord : List Cond := cw_Mo_takeChord :: tbG
abbrev b_Mo_disarm : ByteArray := prog_11_method_28_code
def y_Mo_disarm : MethodName := ⟨R_Mo, "disarm", "()V"⟩
abbrev cw_Mo_disarm : Cond := .code y_Mo_disarm b_Mo_disarm 2 none
def ws_Mo_disarm : List Cond := cw_Mo_disarm :: tbG
abbrev b_Mo_tapOf : ByteArray := prog_11_method_29_code
def y_Mo_tapOf : MethodName := ⟨R_Mo, "tapOf", "()I"⟩
abbrev cw_Mo_tapOf : Cond := .code y_Mo_tapOf b_Mo_tapOf 5 (some .int)
def ws_Mo_tapOf : List Cond := cw_Mo_tapOf :: tbG
abbrev b_Mo_begin : ByteArray := prog_11_method_30_code
def y_Mo_begin : MethodName := ⟨R_Mo, "begin", "(III)V"⟩
abbrev cw_Mo_begin : Cond := .code y_Mo_begin b_Mo_begin 4 none
def ws_Mo_begin : List Cond := cw_Mo_begin :: tbG
abbrev b_Mo_act : ByteArray := prog_11_method_31_code
def y_Mo_act : MethodName := ⟨R_Mo, "act", "(II)Z"⟩
abbrev cw_Mo_act : Cond := .code y_Mo_act b_Mo_act 6 (some .boolean)
def ws_Mo_act : List Cond := cw_Mo_act :: tbG
abbrev b_Mo_play : ByteArray := prog_11_method_32_code
def y_Mo_play : MethodName := ⟨R_Mo, "play", "(I)V"⟩
abbrev cw_Mo_play : Cond := .code y_Mo_play b_Mo_play 3 none
def ws_Mo_play : List Cond := cw_Mo_play :: tbG
abbrev b_Mo_takeFirst : ByteArray := prog_11_method_33_code
def y_Mo_takeFirst : MethodName := ⟨R_Mo, "takeFirst", "()Z"⟩
abbrev cw_Mo_takeFirst : Cond := .code y_Mo_takeFirst b_Mo_takeFirst 5 (some .boolean)
def ws_Mo_takeFirst : List Cond := cw_Mo_takeFirst :: tbG
abbrev b_Mo_scanOnce : ByteArray := prog_11_method_34_code
def y_Mo_scanOnce : MethodName := ⟨R_Mo, "scanOnce", "()I"⟩
abbrev cw_Mo_scanOnce : Cond := .code y_Mo_scanOnce b_Mo_scanOnce 3 (some .int)
def ws_Mo_scanOnce : List Cond := cw_Mo_scanOnce :: tbG
abbrev b_Mo_scan : ByteArray := prog_11_method_35_code
def y_Mo_scan : MethodName := ⟨R_Mo, "scan", "()I"⟩
abbrev cw_Mo_scan : Cond := .code y_Mo_scan b_Mo_scan 1 (some .int)
def ws_Mo_scan : List Cond := cw_Mo_scan :: tbG
abbrev b_Mo_scans : ByteArray := prog_11_method_36_code
def y_Mo_scans : MethodName := ⟨R_Mo, "scans", "(I)I"⟩
abbrev cw_Mo_scans : Cond := .code y_Mo_scans b_Mo_scans 4 (some .int)
def ws_Mo_scans : List Cond := cw_Mo_scans :: tbG
abbrev b_Mo_poll : ByteArray := prog_11_method_37_code
def y_Mo_poll : MethodName := ⟨R_Mo, "poll", "()Z"⟩
abbrev cw_Mo_poll : Cond := .code y_Mo_poll b_Mo_poll 2 (some .boolean)
def ws_Mo_poll : List Cond := cw_Mo_poll :: tbG
abbrev b_Mo_report : ByteArray := prog_11_method_38_code
def y_Mo_report : MethodName := ⟨R_Mo, "report", "(I)I"⟩
abbrev cw_Mo_report : Cond := .code y_Mo_report b_Mo_report 2 (some .int)
def ws_Mo_report : List Cond := cw_Mo_report :: tbG
abbrev b_Mo_waiting : ByteArray := prog_11_method_39_code
def y_Mo_waiting : MethodName := ⟨R_Mo, "waiting", "()I"⟩
abbrev cw_Mo_waiting : Cond := .code y_Mo_waiting b_Mo_waiting 1 (some .int)
def ws_Mo_waiting : List Cond := cw_Mo_waiting :: tbG
abbrev b_Mo_late : ByteArray := prog_11_method_40_code
def y_Mo_late : MethodName := ⟨R_Mo, "late", "()Z"⟩
abbrev cw_Mo_late : Cond := .code y_Mo_late b_Mo_late 1 (some .boolean)
def ws_Mo_late : List Cond := cw_Mo_late :: tbG
abbrev b_Mo_isSound : ByteArray := prog_11_method_41_code
def y_Mo_isSound : MethodName := ⟨R_Mo, "isSound", "(III)Z"⟩
abbrev cw_Mo_isSound : Cond := .code y_Mo_isSound b_Mo_isSound 4 (some .boolean)
def ws_Mo_isSound : List Cond := cw_Mo_isSound :: tbG
abbrev b_Mo_map : ByteArray := prog_11_method_42_code
def y_Mo_map : MethodName := ⟨R_Mo, "map", "(IIIII)V"⟩
abbrev cw_Mo_map : Cond := .code y_Mo_map b_Mo_map 7 none
def ws_Mo_map : List Cond := cw_Mo_map :: tbG
abbrev b_Mo_macro : ByteArray := prog_11_method_43_code
def y_Mo_macro : MethodName := ⟨R_Mo, "macro", "(III)V"⟩
abbrev cw_Mo_macro : Cond := .code y_Mo_macro b_Mo_macro 4 none
def ws_Mo_macro : List Cond := cw_Mo_macro :: tbG
abbrev b_Mo_chord : ByteArray := prog_11_method_44_code
def y_Mo_chord : MethodName := ⟨R_Mo, "chord", "(III)V"⟩
abbrev cw_Mo_chord : Cond := .code y_Mo_chord b_Mo_chord 8 none
def ws_Mo_chord : List Cond := cw_Mo_chord :: tbG
abbrev b_Mo_on : ByteArray := prog_11_method_45_code
def y_Mo_on : MethodName := ⟨R_Mo, "on", "(I)Z"⟩
abbrev cw_Mo_on : Cond := .code y_Mo_on b_Mo_on 2 (some .boolean)
def ws_Mo_on : List Cond := cw_Mo_on :: tbG
abbrev b_Mo_top : ByteArray := prog_11_method_46_code
def y_Mo_top : MethodName := ⟨R_Mo, "top", "(I)I"⟩
abbrev cw_Mo_top : Cond := .code y_Mo_top b_Mo_top 2 (some .int)
def ws_Mo_top : List Cond := cw_Mo_top :: tbG
abbrev b_Mo_key : ByteArray := prog_11_method_47_code
def y_Mo_key : MethodName := ⟨R_Mo, "key", "(II)I"⟩
abbrev cw_Mo_key : Cond := .code y_Mo_key b_Mo_key 4 (some .int)
def ws_Mo_key : List Cond := cw_Mo_key :: tbG
abbrev b_Mo_queued : ByteArray := prog_11_method_48_code
def y_Mo_queued : MethodName := ⟨R_Mo, "queued", "()I"⟩
abbrev cw_Mo_queued : Cond := .code y_Mo_queued b_Mo_queued 1 (some .int)
def ws_Mo_queued : List Cond := cw_Mo_queued :: tbG
abbrev b_Mo_history : ByteArray := prog_11_method_49_code
def y_Mo_history : MethodName := ⟨R_Mo, "history", "(I)I"⟩
abbrev cw_Mo_history : Cond := .code y_Mo_history b_Mo_history 2 (some .int)
def ws_Mo_history : List Cond := cw_Mo_history :: tbG
abbrev b_Ch_init : ByteArray := prog_2_method_1_code
def y_Ch_init : MethodName := ⟨R_Ch, "<init>", "()V"⟩
abbrev cw_Ch_init : Cond := .code y_Ch_init b_Ch_init 1 none
def ws_Ch_init : List Cond := cw_Ch_init :: tbG
abbrev b_Ch_setChord : ByteArray := prog_2_method_2_code
def y_Ch_setChord : MethodName := ⟨R_Ch, "setChord", "(III)V"⟩
abbrev cw_Ch_setChord : Cond := .code y_Ch_setChord b_Ch_setChord 4 none
def ws_Ch_setChord : List Cond := cw_Ch_setChord :: tbG
abbrev b_Ch_keysOf : ByteArray := prog_2_method_3_code
def y_Ch_keysOf : MethodName := ⟨R_Ch, "keysOf", "(I)I"⟩
abbrev cw_Ch_keysOf : Cond := .code y_Ch_keysOf b_Ch_keysOf 2 (some .int)
def ws_Ch_keysOf : List Cond := cw_Ch_keysOf :: tbG
abbrev b_Ch_codeOf : ByteArray := prog_2_method_4_code
def y_Ch_codeOf : MethodName := ⟨R_Ch, "codeOf", "(I)I"⟩
abbrev cw_Ch_codeOf : Cond := .code y_Ch_codeOf b_Ch_codeOf 2 (some .int)
def ws_Ch_codeOf : List Cond := cw_Ch_codeOf :: tbG
abbrev b_Ch_hasElsewhere : ByteArray := prog_2_method_5_code
def y_Ch_hasElsewhere : MethodName := ⟨R_Ch, "hasElsewhere", "(II)Z"⟩
abbrev cw_Ch_hasElsewhere : Cond := .code y_Ch_hasElsewhere b_Ch_hasElsewhere 4 (some .boolean)
def ws_Ch_hasElsewhere : List Cond := cw_Ch_hasElsewhere :: tbG
abbrev b_Ch_canGrowFrom : ByteArray := prog_2_method_6_code
def y_Ch_canGrowFrom : MethodName := ⟨R_Ch, "canGrowFrom", "(I)Z"⟩
abbrev cw_Ch_canGrowFrom : Cond := .code y_Ch_canGrowFrom b_Ch_canGrowFrom 3 (some .boolean)
def ws_Ch_canGrowFrom : List Cond := cw_Ch_canGrowFrom :: tbG
abbrev b_Ch_longestAtStart : ByteArray := prog_2_method_7_code
def y_Ch_longestAtStart : MethodName := ⟨R_Ch, "longestAtStart", "(LGhostKeys$EventQueue;I)I"⟩
abbrev cw_Ch_longestAtStart : Cond := .code y_Ch_longestAtStart b_Ch_longestAtStart 7 (some .int)
def ws_Ch_longestAtStart : List Cond := cw_Ch_longestAtStart :: tbG
abbrev b_Eq_init : ByteArray := prog_3_method_1_code
def y_Eq_init : MethodName := ⟨R_Eq, "<init>", "()V"⟩
abbrev cw_Eq_init : Cond := .code y_Eq_init b_Eq_init 1 none
def ws_Eq_init : List Cond := cw_Eq_init :: tbG
abbrev b_Eq_length : ByteArray := prog_3_method_2_code
def y_Eq_length : MethodName := ⟨R_Eq, "length", "()I"⟩
abbrev cw_Eq_length : Cond := .code y_Eq_length b_Eq_length 1 (some .int)
def ws_Eq_length : List Cond := cw_Eq_length :: tbG
abbrev b_Eq_add : ByteArray := prog_3_method_3_code
def y_Eq_add : MethodName := ⟨R_Eq, "add", "(II)V"⟩
abbrev cw_Eq_add : Cond := .code y_Eq_add b_Eq_add 3 none
def ws_Eq_add : List Cond := cw_Eq_add :: tbG
abbrev b_Eq_removeFirst : ByteArray := prog_3_method_4_code
def y_Eq_removeFirst : MethodName := ⟨R_Eq, "removeFirst", "(I)V"⟩
abbrev cw_Eq_removeFirst : Cond := .code y_Eq_removeFirst b_Eq_removeFirst 3 none
def ws_Eq_removeFirst : List Cond := cw_Eq_removeFirst :: tbG
abbrev b_Eq_isPress : ByteArray := prog_3_method_5_code
def y_Eq_isPress : MethodName := ⟨R_Eq, "isPress", "(I)Z"⟩
abbrev cw_Eq_isPress : Cond := .code y_Eq_isPress b_Eq_isPress 2 (some .boolean)
def ws_Eq_isPress : List Cond := cw_Eq_isPress :: tbG
abbrev b_Eq_keyAt : ByteArray := prog_3_method_6_code
def y_Eq_keyAt : MethodName := ⟨R_Eq, "keyAt", "(I)I"⟩
abbrev cw_Eq_keyAt : Cond := .code y_Eq_keyAt b_Eq_keyAt 2 (some .int)
def ws_Eq_keyAt : List Cond := cw_Eq_keyAt :: tbG
abbrev b_Eq_scanAt : ByteArray := prog_3_method_7_code
def y_Eq_scanAt : MethodName := ⟨R_Eq, "scanAt", "(I)I"⟩
abbrev cw_Eq_scanAt : Cond := .code y_Eq_scanAt b_Eq_scanAt 2 (some .int)
def ws_Eq_scanAt : List Cond := cw_Eq_scanAt :: tbG
abbrev b_Eq_rowLength : ByteArray := prog_3_method_8_code
def y_Eq_rowLength : MethodName := ⟨R_Eq, "rowLength", "()I"⟩
abbrev cw_Eq_rowLength : Cond := .code y_Eq_rowLength b_Eq_rowLength 2 (some .int)
def ws_Eq_rowLength : List Cond := cw_Eq_rowLength :: tbG
abbrev b_Eq_firstKeys : ByteArray := prog_3_method_9_code
def y_Eq_firstKeys : MethodName := ⟨R_Eq, "firstKeys", "(I)I"⟩
abbrev cw_Eq_firstKeys : Cond := .code y_Eq_firstKeys b_Eq_firstKeys 4 (some .int)
def ws_Eq_firstKeys : List Cond := cw_Eq_firstKeys :: tbG
abbrev b_Eq_tellTap : ByteArray := prog_3_method_10_code
def y_Eq_tellTap : MethodName := ⟨R_Eq, "tellTap", "()I"⟩
abbrev cw_Eq_tellTap : Cond := .code y_Eq_tellTap b_Eq_tellTap 4 (some .int)
def ws_Eq_tellTap : List Cond := cw_Eq_tellTap :: tbG
abbrev b_Hi_init : ByteArray := prog_4_method_1_code
def y_Hi_init : MethodName := ⟨R_Hi, "<init>", "()V"⟩
abbrev cw_Hi_init : Cond := .code y_Hi_init b_Hi_init 1 none
def ws_Hi_init : List Cond := cw_Hi_init :: tbG
abbrev b_Hi_add : ByteArray := prog_4_method_2_code
def y_Hi_add : MethodName := ⟨R_Hi, "add", "(I)V"⟩
abbrev cw_Hi_add : Cond := .code y_Hi_add b_Hi_add 2 none
def ws_Hi_add : List Cond := cw_Hi_add :: tbG
abbrev b_Hi_latest : ByteArray := prog_4_method_3_code
def y_Hi_latest : MethodName := ⟨R_Hi, "latest", "(I)I"⟩
abbrev cw_Hi_latest : Cond := .code y_Hi_latest b_Hi_latest 2 (some .int)
def ws_Hi_latest : List Cond := cw_Hi_latest :: tbG
abbrev b_Ho_init : ByteArray := prog_5_method_1_code
def y_Ho_init : MethodName := ⟨R_Ho, "<init>", "()V"⟩
abbrev cw_Ho_init : Cond := .code y_Ho_init b_Ho_init 1 none
def ws_Ho_init : List Cond := cw_Ho_init :: tbG
abbrev b_Ho_begin : ByteArray := prog_5_method_2_code
def y_Ho_begin : MethodName := ⟨R_Ho, "begin", "(II)V"⟩
abbrev cw_Ho_begin : Cond := .code y_Ho_begin b_Ho_begin 4 none
def ws_Ho_begin : List Cond := cw_Ho_begin :: tbG
abbrev b_Ho_end : ByteArray := prog_5_method_3_code
def y_Ho_end : MethodName := ⟨R_Ho, "end", "(I)I"⟩
abbrev cw_Ho_end : Cond := .code y_Ho_end b_Ho_end 3 (some .int)
def ws_Ho_end : List Cond := cw_Ho_end :: tbG
abbrev b_Km_init : ByteArray := prog_6_method_1_code
def y_Km_init : MethodName := ⟨R_Km, "<init>", "()V"⟩
abbrev cw_Km_init : Cond := .code y_Km_init b_Km_init 1 none
def ws_Km_init : List Cond := cw_Km_init :: tbG
abbrev b_Km_setAction : ByteArray := prog_6_method_2_code
def y_Km_setAction : MethodName := ⟨R_Km, "setAction", "(IIIII)V"⟩
abbrev cw_Km_setAction : Cond := .code y_Km_setAction b_Km_setAction 7 none
def ws_Km_setAction : List Cond := cw_Km_setAction :: tbG
abbrev b_Km_setMacroCode : ByteArray := prog_6_method_3_code
def y_Km_setMacroCode : MethodName := ⟨R_Km, "setMacroCode", "(III)V"⟩
abbrev cw_Km_setMacroCode : Cond := .code y_Km_setMacroCode b_Km_setMacroCode 4 none
def ws_Km_setMacroCode : List Cond := cw_Km_setMacroCode :: tbG
abbrev b_Km_macroCode : ByteArray := prog_6_method_4_code
def y_Km_macroCode : MethodName := ⟨R_Km, "macroCode", "(II)I"⟩
abbrev cw_Km_macroCode : Cond := .code y_Km_macroCode b_Km_macroCode 3 (some .int)
def ws_Km_macroCode : List Cond := cw_Km_macroCode :: tbG
abbrev b_Km_topLayer : ByteArray := prog_6_method_5_code
def y_Km_topLayer : MethodName := ⟨R_Km, "topLayer", "(ILGhostKeys$Layers;)I"⟩
abbrev cw_Km_topLayer : Cond := .code y_Km_topLayer b_Km_topLayer 4 (some .int)
def ws_Km_topLayer : List Cond := cw_Km_topLayer :: tbG
abbrev b_Km_kind : ByteArray := prog_6_method_6_code
def y_Km_kind : MethodName := ⟨R_Km, "kind", "(II)I"⟩
abbrev cw_Km_kind : Cond := .code y_Km_kind b_Km_kind 3 (some .int)
def ws_Km_kind : List Cond := cw_Km_kind :: tbG
abbrev b_Km_a : ByteArray := prog_6_method_7_code
def y_Km_a : MethodName := ⟨R_Km, "a", "(II)I"⟩
abbrev cw_Km_a : Cond := .code y_Km_a b_Km_a 3 (some .int)
def ws_Km_a : List Cond := cw_Km_a :: tbG
abbrev b_Km_b : ByteArray := prog_6_method_8_code
def y_Km_b : MethodName := ⟨R_Km, "b", "(II)I"⟩
abbrev cw_Km_b : Cond := .code y_Km_b b_Km_b 3 (some .int)
def ws_Km_b : List Cond := cw_Km_b :: tbG
abbrev b_La_init : ByteArray := prog_7_method_1_code
def y_La_init : MethodName := ⟨R_La, "<init>", "()V"⟩
abbrev cw_La_init : Cond := .code y_La_init b_La_init 1 none
def ws_La_init : List Cond := cw_La_init :: tbG
abbrev b_La_isOn : ByteArray := prog_7_method_2_code
def y_La_isOn : MethodName := ⟨R_La, "isOn", "(I)Z"⟩
abbrev cw_La_isOn : Cond := .code y_La_isOn b_La_isOn 2 (some .boolean)
def ws_La_isOn : List Cond := cw_La_isOn :: tbG
abbrev b_La_hold : ByteArray := prog_7_method_3_code
def y_La_hold : MethodName := ⟨R_La, "hold", "(II)V"⟩
abbrev cw_La_hold : Cond := .code y_La_hold b_La_hold 3 none
def ws_La_hold : List Cond := cw_La_hold :: tbG
abbrev b_La_letGo : ByteArray := prog_7_method_4_code
def y_La_letGo : MethodName := ⟨R_La, "letGo", "(I)V"⟩
abbrev cw_La_letGo : Cond := .code y_La_letGo b_La_letGo 3 none
def ws_La_letGo : List Cond := cw_La_letGo :: tbG
abbrev b_La_turnLock : ByteArray := prog_7_method_5_code
def y_La_turnLock : MethodName := ⟨R_La, "turnLock", "(I)V"⟩
abbrev cw_La_turnLock : Cond := .code y_La_turnLock b_La_turnLock 2 none
def ws_La_turnLock : List Cond := cw_La_turnLock :: tbG
abbrev b_La_arm : ByteArray := prog_7_method_6_code
def y_La_arm : MethodName := ⟨R_La, "arm", "(I)V"⟩
abbrev cw_La_arm : Cond := .code y_La_arm b_La_arm 2 none
def ws_La_arm : List Cond := cw_La_arm :: tbG
abbrev b_La_disarm : ByteArray := prog_7_method_7_code
def y_La_disarm : MethodName := ⟨R_La, "disarm", "()V"⟩
abbrev cw_La_disarm : Cond := .code y_La_disarm b_La_disarm 1 none
def ws_La_disarm : List Cond := cw_La_disarm :: tbG
abbrev b_Mx_init : ByteArray := prog_8_method_1_code
def y_Mx_init : MethodName := ⟨R_Mx, "<init>", "()V"⟩
abbrev cw_Mx_init : Cond := .code y_Mx_init b_Mx_init 1 none
def ws_Mx_init : List Cond := cw_Mx_init :: tbG
abbrev b_Mx_setWired : ByteArray := prog_8_method_2_code
def y_Mx_setWired : MethodName := ⟨R_Mx, "setWired", "(IZ)V"⟩
abbrev cw_Mx_setWired : Cond := .code y_Mx_setWired b_Mx_setWired 3 none
def ws_Mx_setWired : List Cond := cw_Mx_setWired :: tbG
abbrev b_Mx_setBounce : ByteArray := prog_8_method_3_code
def y_Mx_setBounce : MethodName := ⟨R_Mx, "setBounce", "(II)V"⟩
abbrev cw_Mx_setBounce : Cond := .code y_Mx_setBounce b_Mx_setBounce 3 none
def ws_Mx_setBounce : List Cond := cw_Mx_setBounce :: tbG
abbrev b_Mx_keysThatAre : ByteArray := prog_8_method_4_code
def y_Mx_keysThatAre : MethodName := ⟨R_Mx, "keysThatAre", "(I)I"⟩
abbrev cw_Mx_keysThatAre : Cond := .code y_Mx_keysThatAre b_Mx_keysThatAre 2 (some .int)
def ws_Mx_keysThatAre : List Cond := cw_Mx_keysThatAre :: tbG
abbrev b_Mx_look : ByteArray := prog_8_method_5_code
def y_Mx_look : MethodName := ⟨R_Mx, "look", "()V"⟩
abbrev cw_Mx_look : Cond := .code y_Mx_look b_Mx_look 3 none
def ws_Mx_look : List Cond := cw_Mx_look :: tbG
abbrev b_Mx_believe : ByteArray := prog_8_method_6_code
def y_Mx_believe : MethodName := ⟨R_Mx, "believe", "(I)I"⟩
abbrev cw_Mx_believe : Cond := .code y_Mx_believe b_Mx_believe 3 (some .int)
def ws_Mx_believe : List Cond := cw_Mx_believe :: tbG
abbrev b_Mx_closedContacts : ByteArray := prog_8_method_7_code
def y_Mx_closedContacts : MethodName := ⟨R_Mx, "closedContacts", "()I"⟩
abbrev cw_Mx_closedContacts : Cond := .code y_Mx_closedContacts b_Mx_closedContacts 3 (some .int)
def ws_Mx_closedContacts : List Cond := cw_Mx_closedContacts :: tbG
abbrev b_Mx_watch : ByteArray := prog_8_method_8_code
def y_Mx_watch : MethodName := ⟨R_Mx, "watch", "(I)V"⟩
abbrev cw_Mx_watch : Cond := .code y_Mx_watch b_Mx_watch 3 none
def ws_Mx_watch : List Cond := cw_Mx_watch :: tbG
abbrev b_Mx_isFourthCorner : ByteArray := prog_8_method_9_code
def y_Mx_isFourthCorner : MethodName := ⟨R_Mx, "isFourthCorner", "(II)Z"⟩
abbrev cw_Mx_isFourthCorner : Cond := .code y_Mx_isFourthCorner b_Mx_isFourthCorner 7 (some .boolean)
def ws_Mx_isFourthCorner : List Cond := cw_Mx_isFourthCorner :: tbG
abbrev b_Mx_rowOf : ByteArray := prog_8_method_10_code
def y_Mx_rowOf : MethodName := ⟨R_Mx, "rowOf", "(II)I"⟩
abbrev cw_Mx_rowOf : Cond := .code y_Mx_rowOf b_Mx_rowOf 2 (some .int)
def ws_Mx_rowOf : List Cond := cw_Mx_rowOf :: tbG
abbrev b_Re_init : ByteArray := prog_9_method_1_code
def y_Re_init : MethodName := ⟨R_Re, "<init>", "()V"⟩
abbrev cw_Re_init : Cond := .code y_Re_init b_Re_init 1 none
def ws_Re_init : List Cond := cw_Re_init :: tbG
abbrev b_Re_stored : ByteArray := prog_9_method_2_code
def y_Re_stored : MethodName := ⟨R_Re, "stored", "()I"⟩
abbrev cw_Re_stored : Cond := .code y_Re_stored b_Re_stored 1 (some .int)
def ws_Re_stored : List Cond := cw_Re_stored :: tbG
abbrev b_Re_isLate : ByteArray := prog_9_method_3_code
def y_Re_isLate : MethodName := ⟨R_Re, "isLate", "()Z"⟩
abbrev cw_Re_isLate : Cond := .code y_Re_isLate b_Re_isLate 1 (some .boolean)
def ws_Re_isLate : List Cond := cw_Re_isLate :: tbG
abbrev b_Re_goDown : ByteArray := prog_9_method_4_code
def y_Re_goDown : MethodName := ⟨R_Re, "goDown", "(I)V"⟩
abbrev cw_Re_goDown : Cond := .code y_Re_goDown b_Re_goDown 2 none
def ws_Re_goDown : List Cond := cw_Re_goDown :: tbG
abbrev b_Re_letGo : ByteArray := prog_9_method_5_code
def y_Re_letGo : MethodName := ⟨R_Re, "letGo", "(I)V"⟩
abbrev cw_Re_letGo : Cond := .code y_Re_letGo b_Re_letGo 2 none
def ws_Re_letGo : List Cond := cw_Re_letGo :: tbG
abbrev b_Re_takeOldest : ByteArray := prog_9_method_6_code
def y_Re_takeOldest : MethodName := ⟨R_Re, "takeOldest", "()Z"⟩
abbrev cw_Re_takeOldest : Cond := .code y_Re_takeOldest b_Re_takeOldest 1 (some .boolean)
def ws_Re_takeOldest : List Cond := cw_Re_takeOldest :: tbG
abbrev b_Re_partOfTaken : ByteArray := prog_9_method_7_code
def y_Re_partOfTaken : MethodName := ⟨R_Re, "partOfTaken", "(I)I"⟩
abbrev cw_Re_partOfTaken : Cond := .code y_Re_partOfTaken b_Re_partOfTaken 3 (some .int)
def ws_Re_partOfTaken : List Cond := cw_Re_partOfTaken :: tbG
abbrev b_Re_putIfOther : ByteArray := prog_9_method_8_code
def y_Re_putIfOther : MethodName := ⟨R_Re, "putIfOther", "(J)V"⟩
abbrev cw_Re_putIfOther : Cond := .code y_Re_putIfOther b_Re_putIfOther 3 none
def ws_Re_putIfOther : List Cond := cw_Re_putIfOther :: tbG
abbrev b_Re_packed : ByteArray := prog_9_method_9_code
def y_Re_packed : MethodName := ⟨R_Re, "packed", "()J"⟩
abbrev cw_Re_packed : Cond := .code y_Re_packed b_Re_packed 10 (some .long)
def ws_Re_packed : List Cond := cw_Re_packed :: tbG
abbrev b_Lw_wire : ByteArray := method_3_code
def y_Lw_wire : MethodName := ⟨R_Lw, "wire", "(LGhostKeys;IZ)I"⟩
abbrev cw_Lw_wire : Cond := .codeWith y_Lw_wire b_Lw_wire 4 (some .int) [((0 : Nat), (6 : Nat), (9 : Nat), (13 : Nat))]
def ws_Lw_wire : List Cond := cw_Lw_wire :: tbG
abbrev b_Lw_bounce : ByteArray := method_4_code
def y_Lw_bounce : MethodName := ⟨R_Lw, "bounce", "(LGhostKeys;II)I"⟩
abbrev cw_Lw_bounce : Cond := .codeWith y_Lw_bounce b_Lw_bounce 4 (some .int) [((0 : Nat), (6 : Nat), (9 : Nat), (13 : Nat)), ((0 : Nat), (6 : Nat), (12 : Nat), (19 : Nat))]
def ws_Lw_bounce : List Cond := cw_Lw_bounce :: tbG
abbrev b_Lw_scans : ByteArray := method_5_code
def y_Lw_scans : MethodName := ⟨R_Lw, "scans", "(LGhostKeys;I[J)I"⟩
abbrev cw_Lw_scans : Cond := .codeWith y_Lw_scans b_Lw_scans 4 (some .int) [((0 : Nat), (9 : Nat), (12 : Nat), (19 : Nat))]
def ws_Lw_scans : List Cond := cw_Lw_scans :: tbG
abbrev b_Lw_map : ByteArray := method_6_code
def y_Lw_map : MethodName := ⟨R_Lw, "map", "(LGhostKeys;IIIII)I"⟩
abbrev cw_Lw_map : Cond := .codeWith y_Lw_map b_Lw_map 7 (some .int) [((0 : Nat), (11 : Nat), (14 : Nat), (13 : Nat)), ((0 : Nat), (11 : Nat), (18 : Nat), (19 : Nat))]
def ws_Lw_map : List Cond := cw_Lw_map :: tbG
abbrev b_Lw_macro : ByteArray := method_7_code
def y_Lw_macro : MethodName := ⟨R_Lw, "macro", "(LGhostKeys;III)I"⟩
abbrev cw_Lw_macro : Cond := .codeWith y_Lw_macro b_Lw_macro 5 (some .int) [((0 : Nat), (7 : Nat), (10 : Nat), (13 : Nat)), ((0 : Nat), (7 : Nat), (14 : Nat), (19 : Nat))]
def ws_Lw_macro : List Cond := cw_Lw_macro :: tbG
abbrev b_Lw_chord : ByteArray := method_8_code
def y_Lw_chord : MethodName := ⟨R_Lw, "chord", "(LGhostKeys;III)I"⟩
abbrev cw_Lw_chord : Cond := .codeWith y_Lw_chord b_Lw_chord 5 (some .int) [((0 : Nat), (7 : Nat), (10 : Nat), (13 : Nat)), ((0 : Nat), (7 : Nat), (14 : Nat), (19 : Nat)), ((0 : Nat), (7 : Nat), (18 : Nat), (36 : Nat))]
def ws_Lw_chord : List Cond := cw_Lw_chord :: tbG
abbrev b_Lw_on : ByteArray := method_9_code
def y_Lw_on : MethodName := ⟨R_Lw, "on", "(LGhostKeys;I[J)I"⟩
abbrev cw_Lw_on : Cond := .codeWith y_Lw_on b_Lw_on 4 (some .int) [((0 : Nat), (16 : Nat), (19 : Nat), (13 : Nat))]
def ws_Lw_on : List Cond := cw_Lw_on :: tbG
abbrev b_Lw_top : ByteArray := method_10_code
def y_Lw_top : MethodName := ⟨R_Lw, "top", "(LGhostKeys;I[J)I"⟩
abbrev cw_Lw_top : Cond := .codeWith y_Lw_top b_Lw_top 4 (some .int) [((0 : Nat), (9 : Nat), (12 : Nat), (13 : Nat))]
def ws_Lw_top : List Cond := cw_Lw_top :: tbG
abbrev b_Lw_key : ByteArray := method_11_code
def y_Lw_key : MethodName := ⟨R_Lw, "key", "(LGhostKeys;II[J)I"⟩
abbrev cw_Lw_key : Cond := .codeWith y_Lw_key b_Lw_key 5 (some .int) [((0 : Nat), (10 : Nat), (13 : Nat), (13 : Nat))]
def ws_Lw_key : List Cond := cw_Lw_key :: tbG
abbrev b_Ji_bitCount : ByteArray := prog_16_method_49_code
def y_Ji_bitCount : MethodName := ⟨R_Ji, "bitCount", "(I)I"⟩
abbrev cw_Ji_bitCount : Cond := .code y_Ji_bitCount b_Ji_bitCount 1 (some .int)
def ws_Ji_bitCount : List Cond := cw_Ji_bitCount :: tbG
