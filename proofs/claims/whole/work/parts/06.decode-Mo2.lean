theorem d_Mo_chordOf_0 : decode b_Mo_chordOf 0 = .ok (.iconst (-1), 1) := by decide +kernel
theorem d_Mo_chordOf_1 : decode b_Mo_chordOf 1 = .ok (.istore_n 2, 1) := by decide +kernel
theorem d_Mo_chordOf_2 : decode b_Mo_chordOf 2 = .ok (.iconst 3, 1) := by decide +kernel
theorem d_Mo_chordOf_3 : decode b_Mo_chordOf 3 = .ok (.istore_n 3, 1) := by decide +kernel
theorem d_Mo_chordOf_4 : decode b_Mo_chordOf 4 = .ok (.iload_n 3, 1) := by decide +kernel
theorem d_Mo_chordOf_5 : decode b_Mo_chordOf 5 = .ok (.ifCond .lt 82, 3) := by decide +kernel
theorem d_Mo_chordOf_8 : decode b_Mo_chordOf 8 = .ok (.aload_n 0, 1) := by decide +kernel
theorem d_Mo_chordOf_9 : decode b_Mo_chordOf 9 = .ok (.getfield 53, 3) := by decide +kernel
theorem d_Mo_chordOf_12 : decode b_Mo_chordOf 12 = .ok (.iload_n 3, 1) := by decide +kernel
theorem d_Mo_chordOf_13 : decode b_Mo_chordOf 13 = .ok (.iaload, 1) := by decide +kernel
theorem d_Mo_chordOf_14 : decode b_Mo_chordOf 14 = .ok (.invokestatic 134, 3) := by decide +kernel
theorem d_Mo_chordOf_17 : decode b_Mo_chordOf 17 = .ok (.istore 4, 2) := by decide +kernel
theorem d_Mo_chordOf_19 : decode b_Mo_chordOf 19 = .ok (.iload 4, 2) := by decide +kernel
theorem d_Mo_chordOf_21 : decode b_Mo_chordOf 21 = .ok (.ifCond .le 28, 3) := by decide +kernel
theorem d_Mo_chordOf_24 : decode b_Mo_chordOf 24 = .ok (.iload 4, 2) := by decide +kernel
theorem d_Mo_chordOf_26 : decode b_Mo_chordOf 26 = .ok (.iload_n 1, 1) := by decide +kernel
theorem d_Mo_chordOf_27 : decode b_Mo_chordOf 27 = .ok (.if_icmp .gt 22, 3) := by decide +kernel
theorem d_Mo_chordOf_30 : decode b_Mo_chordOf 30 = .ok (.aload_n 0, 1) := by decide +kernel
theorem d_Mo_chordOf_31 : decode b_Mo_chordOf 31 = .ok (.iload 4, 2) := by decide +kernel
theorem d_Mo_chordOf_33 : decode b_Mo_chordOf 33 = .ok (.invokevirtual 130, 3) := by decide +kernel
theorem d_Mo_chordOf_36 : decode b_Mo_chordOf 36 = .ok (.aload_n 0, 1) := by decide +kernel
theorem d_Mo_chordOf_37 : decode b_Mo_chordOf 37 = .ok (.getfield 53, 3) := by decide +kernel
theorem d_Mo_chordOf_40 : decode b_Mo_chordOf 40 = .ok (.iload_n 3, 1) := by decide +kernel
theorem d_Mo_chordOf_41 : decode b_Mo_chordOf 41 = .ok (.iaload, 1) := by decide +kernel
theorem d_Mo_chordOf_42 : decode b_Mo_chordOf 42 = .ok (.if_icmp .ne 7, 3) := by decide +kernel
theorem d_Mo_chordOf_45 : decode b_Mo_chordOf 45 = .ok (.iconst 1, 1) := by decide +kernel
theorem d_Mo_chordOf_46 : decode b_Mo_chordOf 46 = .ok (.goto 4, 3) := by decide +kernel
theorem d_Mo_chordOf_49 : decode b_Mo_chordOf 49 = .ok (.iconst 0, 1) := by decide +kernel
theorem d_Mo_chordOf_50 : decode b_Mo_chordOf 50 = .ok (.istore 5, 2) := by decide +kernel
theorem d_Mo_chordOf_52 : decode b_Mo_chordOf 52 = .ok (.iload 5, 2) := by decide +kernel
theorem d_Mo_chordOf_54 : decode b_Mo_chordOf 54 = .ok (.ifCond .eq 25, 3) := by decide +kernel
theorem d_Mo_chordOf_57 : decode b_Mo_chordOf 57 = .ok (.iload_n 2, 1) := by decide +kernel
theorem d_Mo_chordOf_58 : decode b_Mo_chordOf 58 = .ok (.ifCond .lt 17, 3) := by decide +kernel
theorem d_Mo_chordOf_61 : decode b_Mo_chordOf 61 = .ok (.iload 4, 2) := by decide +kernel
theorem d_Mo_chordOf_63 : decode b_Mo_chordOf 63 = .ok (.aload_n 0, 1) := by decide +kernel
theorem d_Mo_chordOf_64 : decode b_Mo_chordOf 64 = .ok (.getfield 53, 3) := by decide +kernel
theorem d_Mo_chordOf_67 : decode b_Mo_chordOf 67 = .ok (.iload_n 2, 1) := by decide +kernel
theorem d_Mo_chordOf_68 : decode b_Mo_chordOf 68 = .ok (.iaload, 1) := by decide +kernel
theorem d_Mo_chordOf_69 : decode b_Mo_chordOf 69 = .ok (.invokestatic 134, 3) := by decide +kernel
theorem d_Mo_chordOf_72 : decode b_Mo_chordOf 72 = .ok (.if_icmp .lt 7, 3) := by decide +kernel
theorem d_Mo_chordOf_75 : decode b_Mo_chordOf 75 = .ok (.iload_n 3, 1) := by decide +kernel
theorem d_Mo_chordOf_76 : decode b_Mo_chordOf 76 = .ok (.goto 4, 3) := by decide +kernel
theorem d_Mo_chordOf_79 : decode b_Mo_chordOf 79 = .ok (.iload_n 2, 1) := by decide +kernel
theorem d_Mo_chordOf_80 : decode b_Mo_chordOf 80 = .ok (.istore_n 2, 1) := by decide +kernel
theorem d_Mo_chordOf_81 : decode b_Mo_chordOf 81 = .ok (.iinc 3 (-1), 3) := by decide +kernel
theorem d_Mo_chordOf_84 : decode b_Mo_chordOf 84 = .ok (.goto (-80), 3) := by decide +kernel
theorem d_Mo_chordOf_87 : decode b_Mo_chordOf 87 = .ok (.iload_n 2, 1) := by decide +kernel
theorem d_Mo_chordOf_88 : decode b_Mo_chordOf 88 = .ok (.ireturn, 1) := by decide +kernel
theorem d_Mo_takeChord_0 : decode b_Mo_takeChord 0 = .ok (.aload_n 0, 1) := by decide +kernel
theorem d_Mo_takeChord_1 : decode b_Mo_takeChord 1 = .ok (.getfield 53, 3) := by decide +kernel
theorem d_Mo_takeChord_4 : decode b_Mo_takeChord 4 = .ok (.iload_n 1, 1) := by decide +kernel
theorem d_Mo_takeChord_5 : decode b_Mo_takeChord 5 = .ok (.iaload, 1) := by decide +kernel
theorem d_Mo_takeChord_6 : decode b_Mo_takeChord 6 = .ok (.invokestatic 134, 3) := by decide +kernel
theorem d_Mo_takeChord_9 : decode b_Mo_takeChord 9 = .ok (.istore_n 2, 1) := by decide +kernel
theorem d_Mo_takeChord_10 : decode b_Mo_takeChord 10 = .ok (.aload_n 0, 1) := by decide +kernel
theorem d_Mo_takeChord_11 : decode b_Mo_takeChord 11 = .ok (.dup, 1) := by decide +kernel
theorem d_Mo_takeChord_12 : decode b_Mo_takeChord 12 = .ok (.getfield 137, 3) := by decide +kernel
theorem d_Mo_takeChord_15 : decode b_Mo_takeChord 15 = .ok (.iconst 1, 1) := by decide +kernel
theorem d_Mo_takeChord_16 : decode b_Mo_takeChord 16 = .ok (.iadd, 1) := by decide +kernel
theorem d_Mo_takeChord_17 : decode b_Mo_takeChord 17 = .ok (.putfield 137, 3) := by decide +kernel
theorem d_Mo_takeChord_20 : decode b_Mo_takeChord 20 = .ok (.iconst 0, 1) := by decide +kernel
theorem d_Mo_takeChord_21 : decode b_Mo_takeChord 21 = .ok (.istore_n 3, 1) := by decide +kernel
theorem d_Mo_takeChord_22 : decode b_Mo_takeChord 22 = .ok (.iload_n 3, 1) := by decide +kernel
theorem d_Mo_takeChord_23 : decode b_Mo_takeChord 23 = .ok (.iload_n 2, 1) := by decide +kernel
theorem d_Mo_takeChord_24 : decode b_Mo_takeChord 24 = .ok (.if_icmp .ge 51, 3) := by decide +kernel
theorem d_Mo_takeChord_27 : decode b_Mo_takeChord 27 = .ok (.aload_n 0, 1) := by decide +kernel
theorem d_Mo_takeChord_28 : decode b_Mo_takeChord 28 = .ok (.getfield 32, 3) := by decide +kernel
theorem d_Mo_takeChord_31 : decode b_Mo_takeChord 31 = .ok (.iload_n 3, 1) := by decide +kernel
theorem d_Mo_takeChord_32 : decode b_Mo_takeChord 32 = .ok (.iaload, 1) := by decide +kernel
theorem d_Mo_takeChord_33 : decode b_Mo_takeChord 33 = .ok (.iconst 2, 1) := by decide +kernel
theorem d_Mo_takeChord_34 : decode b_Mo_takeChord 34 = .ok (.idiv, 1) := by decide +kernel
theorem d_Mo_takeChord_35 : decode b_Mo_takeChord 35 = .ok (.istore 4, 2) := by decide +kernel
theorem d_Mo_takeChord_37 : decode b_Mo_takeChord 37 = .ok (.aload_n 0, 1) := by decide +kernel
theorem d_Mo_takeChord_38 : decode b_Mo_takeChord 38 = .ok (.getfield 65, 3) := by decide +kernel
theorem d_Mo_takeChord_41 : decode b_Mo_takeChord 41 = .ok (.iload 4, 2) := by decide +kernel
theorem d_Mo_takeChord_43 : decode b_Mo_takeChord 43 = .ok (.iconst 3, 1) := by decide +kernel
theorem d_Mo_takeChord_44 : decode b_Mo_takeChord 44 = .ok (.iastore, 1) := by decide +kernel
theorem d_Mo_takeChord_45 : decode b_Mo_takeChord 45 = .ok (.aload_n 0, 1) := by decide +kernel
theorem d_Mo_takeChord_46 : decode b_Mo_takeChord 46 = .ok (.getfield 68, 3) := by decide +kernel
theorem d_Mo_takeChord_49 : decode b_Mo_takeChord 49 = .ok (.iload 4, 2) := by decide +kernel
theorem d_Mo_takeChord_51 : decode b_Mo_takeChord 51 = .ok (.aload_n 0, 1) := by decide +kernel
theorem d_Mo_takeChord_52 : decode b_Mo_takeChord 52 = .ok (.getfield 56, 3) := by decide +kernel
theorem d_Mo_takeChord_55 : decode b_Mo_takeChord 55 = .ok (.iload_n 1, 1) := by decide +kernel
theorem d_Mo_takeChord_56 : decode b_Mo_takeChord 56 = .ok (.iaload, 1) := by decide +kernel
theorem d_Mo_takeChord_57 : decode b_Mo_takeChord 57 = .ok (.iastore, 1) := by decide +kernel
theorem d_Mo_takeChord_58 : decode b_Mo_takeChord 58 = .ok (.aload_n 0, 1) := by decide +kernel
theorem d_Mo_takeChord_59 : decode b_Mo_takeChord 59 = .ok (.getfield 71, 3) := by decide +kernel
theorem d_Mo_takeChord_62 : decode b_Mo_takeChord 62 = .ok (.iload 4, 2) := by decide +kernel
theorem d_Mo_takeChord_64 : decode b_Mo_takeChord 64 = .ok (.aload_n 0, 1) := by decide +kernel
theorem d_Mo_takeChord_65 : decode b_Mo_takeChord 65 = .ok (.getfield 137, 3) := by decide +kernel
theorem d_Mo_takeChord_68 : decode b_Mo_takeChord 68 = .ok (.iastore, 1) := by decide +kernel
theorem d_Mo_takeChord_69 : decode b_Mo_takeChord 69 = .ok (.iinc 3 1, 3) := by decide +kernel
theorem d_Mo_takeChord_72 : decode b_Mo_takeChord 72 = .ok (.goto (-50), 3) := by decide +kernel
theorem d_Mo_takeChord_75 : decode b_Mo_takeChord 75 = .ok (.aload_n 0, 1) := by decide +kernel
theorem d_Mo_takeChord_76 : decode b_Mo_takeChord 76 = .ok (.aload_n 0, 1) := by decide +kernel
theorem d_Mo_takeChord_77 : decode b_Mo_takeChord 77 = .ok (.getfield 56, 3) := by decide +kernel
theorem d_Mo_takeChord_80 : decode b_Mo_takeChord 80 = .ok (.iload_n 1, 1) := by decide +kernel
theorem d_Mo_takeChord_81 : decode b_Mo_takeChord 81 = .ok (.iaload, 1) := by decide +kernel
theorem d_Mo_takeChord_82 : decode b_Mo_takeChord 82 = .ok (.iconst 1, 1) := by decide +kernel
theorem d_Mo_takeChord_83 : decode b_Mo_takeChord 83 = .ok (.invokevirtual 127, 3) := by decide +kernel
theorem d_Mo_takeChord_86 : decode b_Mo_takeChord 86 = .ok (.aload_n 0, 1) := by decide +kernel
theorem d_Mo_takeChord_87 : decode b_Mo_takeChord 87 = .ok (.iload_n 2, 1) := by decide +kernel
theorem d_Mo_takeChord_88 : decode b_Mo_takeChord 88 = .ok (.invokevirtual 140, 3) := by decide +kernel
theorem d_Mo_takeChord_91 : decode b_Mo_takeChord 91 = .ok (.aload_n 0, 1) := by decide +kernel
theorem d_Mo_takeChord_92 : decode b_Mo_takeChord 92 = .ok (.invokevirtual 144, 3) := by decide +kernel
theorem d_Mo_takeChord_95 : decode b_Mo_takeChord 95 = .ok (.return_, 1) := by decide +kernel
theorem d_Mo_disarm_0 : decode b_Mo_disarm 0 = .ok (.iconst 0, 1) := by decide +kernel
theorem d_Mo_disarm_1 : decode b_Mo_disarm 1 = .ok (.istore_n 1, 1) := by decide +kernel
theorem d_Mo_disarm_2 : decode b_Mo_disarm 2 = .ok (.iload_n 1, 1) := by decide +kernel
theorem d_Mo_disarm_3 : decode b_Mo_disarm 3 = .ok (.iconst 4, 1) := by decide +kernel
theorem d_Mo_disarm_4 : decode b_Mo_disarm 4 = .ok (.if_icmp .ge 16, 3) := by decide +kernel
theorem d_Mo_disarm_7 : decode b_Mo_disarm 7 = .ok (.aload_n 0, 1) := by decide +kernel
theorem d_Mo_disarm_8 : decode b_Mo_disarm 8 = .ok (.getfield 62, 3) := by decide +kernel
theorem d_Mo_disarm_11 : decode b_Mo_disarm 11 = .ok (.iload_n 1, 1) := by decide +kernel
theorem d_Mo_disarm_12 : decode b_Mo_disarm 12 = .ok (.iconst 0, 1) := by decide +kernel
theorem d_Mo_disarm_13 : decode b_Mo_disarm 13 = .ok (.bastore, 1) := by decide +kernel
theorem d_Mo_disarm_14 : decode b_Mo_disarm 14 = .ok (.iinc 1 1, 3) := by decide +kernel
theorem d_Mo_disarm_17 : decode b_Mo_disarm 17 = .ok (.goto (-15), 3) := by decide +kernel
theorem d_Mo_disarm_20 : decode b_Mo_disarm 20 = .ok (.return_, 1) := by decide +kernel
theorem d_Mo_tapOf_0 : decode b_Mo_tapOf 0 = .ok (.aload_n 0, 1) := by decide +kernel
theorem d_Mo_tapOf_1 : decode b_Mo_tapOf 1 = .ok (.getfield 32, 3) := by decide +kernel
theorem d_Mo_tapOf_4 : decode b_Mo_tapOf 4 = .ok (.iconst 0, 1) := by decide +kernel
theorem d_Mo_tapOf_5 : decode b_Mo_tapOf 5 = .ok (.iaload, 1) := by decide +kernel
theorem d_Mo_tapOf_6 : decode b_Mo_tapOf 6 = .ok (.iconst 2, 1) := by decide +kernel
theorem d_Mo_tapOf_7 : decode b_Mo_tapOf 7 = .ok (.idiv, 1) := by decide +kernel
theorem d_Mo_tapOf_8 : decode b_Mo_tapOf 8 = .ok (.istore_n 1, 1) := by decide +kernel
theorem d_Mo_tapOf_9 : decode b_Mo_tapOf 9 = .ok (.iconst 0, 1) := by decide +kernel
theorem d_Mo_tapOf_10 : decode b_Mo_tapOf 10 = .ok (.istore_n 2, 1) := by decide +kernel
theorem d_Mo_tapOf_11 : decode b_Mo_tapOf 11 = .ok (.iconst 1, 1) := by decide +kernel
theorem d_Mo_tapOf_12 : decode b_Mo_tapOf 12 = .ok (.istore_n 3, 1) := by decide +kernel
theorem d_Mo_tapOf_13 : decode b_Mo_tapOf 13 = .ok (.iload_n 3, 1) := by decide +kernel
theorem d_Mo_tapOf_14 : decode b_Mo_tapOf 14 = .ok (.aload_n 0, 1) := by decide +kernel
theorem d_Mo_tapOf_15 : decode b_Mo_tapOf 15 = .ok (.getfield 95, 3) := by decide +kernel
theorem d_Mo_tapOf_18 : decode b_Mo_tapOf 18 = .ok (.if_icmp .ge 61, 3) := by decide +kernel
theorem d_Mo_tapOf_21 : decode b_Mo_tapOf 21 = .ok (.aload_n 0, 1) := by decide +kernel
theorem d_Mo_tapOf_22 : decode b_Mo_tapOf 22 = .ok (.getfield 32, 3) := by decide +kernel
theorem d_Mo_tapOf_25 : decode b_Mo_tapOf 25 = .ok (.iload_n 3, 1) := by decide +kernel
theorem d_Mo_tapOf_26 : decode b_Mo_tapOf 26 = .ok (.iaload, 1) := by decide +kernel
theorem d_Mo_tapOf_27 : decode b_Mo_tapOf 27 = .ok (.iconst 2, 1) := by decide +kernel
theorem d_Mo_tapOf_28 : decode b_Mo_tapOf 28 = .ok (.idiv, 1) := by decide +kernel
theorem d_Mo_tapOf_29 : decode b_Mo_tapOf 29 = .ok (.istore 4, 2) := by decide +kernel
theorem d_Mo_tapOf_31 : decode b_Mo_tapOf 31 = .ok (.aload_n 0, 1) := by decide +kernel
theorem d_Mo_tapOf_32 : decode b_Mo_tapOf 32 = .ok (.getfield 32, 3) := by decide +kernel
theorem d_Mo_tapOf_35 : decode b_Mo_tapOf 35 = .ok (.iload_n 3, 1) := by decide +kernel
theorem d_Mo_tapOf_36 : decode b_Mo_tapOf 36 = .ok (.iaload, 1) := by decide +kernel
theorem d_Mo_tapOf_37 : decode b_Mo_tapOf 37 = .ok (.iconst 2, 1) := by decide +kernel
theorem d_Mo_tapOf_38 : decode b_Mo_tapOf 38 = .ok (.irem, 1) := by decide +kernel
theorem d_Mo_tapOf_39 : decode b_Mo_tapOf 39 = .ok (.iconst 1, 1) := by decide +kernel
theorem d_Mo_tapOf_40 : decode b_Mo_tapOf 40 = .ok (.if_icmp .ne 13, 3) := by decide +kernel
theorem d_Mo_tapOf_43 : decode b_Mo_tapOf 43 = .ok (.iload_n 2, 1) := by decide +kernel
theorem d_Mo_tapOf_44 : decode b_Mo_tapOf 44 = .ok (.iconst 1, 1) := by decide +kernel
theorem d_Mo_tapOf_45 : decode b_Mo_tapOf 45 = .ok (.iload 4, 2) := by decide +kernel
theorem d_Mo_tapOf_47 : decode b_Mo_tapOf 47 = .ok (.ishl, 1) := by decide +kernel
theorem d_Mo_tapOf_48 : decode b_Mo_tapOf 48 = .ok (.ior, 1) := by decide +kernel
theorem d_Mo_tapOf_49 : decode b_Mo_tapOf 49 = .ok (.istore_n 2, 1) := by decide +kernel
theorem d_Mo_tapOf_50 : decode b_Mo_tapOf 50 = .ok (.goto 23, 3) := by decide +kernel
theorem d_Mo_tapOf_53 : decode b_Mo_tapOf 53 = .ok (.iload 4, 2) := by decide +kernel
theorem d_Mo_tapOf_55 : decode b_Mo_tapOf 55 = .ok (.iload_n 1, 1) := by decide +kernel
theorem d_Mo_tapOf_56 : decode b_Mo_tapOf 56 = .ok (.if_icmp .ne 5, 3) := by decide +kernel
theorem d_Mo_tapOf_59 : decode b_Mo_tapOf 59 = .ok (.iconst 1, 1) := by decide +kernel
theorem d_Mo_tapOf_60 : decode b_Mo_tapOf 60 = .ok (.ireturn, 1) := by decide +kernel
theorem d_Mo_tapOf_61 : decode b_Mo_tapOf 61 = .ok (.iload_n 2, 1) := by decide +kernel
theorem d_Mo_tapOf_62 : decode b_Mo_tapOf 62 = .ok (.iload 4, 2) := by decide +kernel
theorem d_Mo_tapOf_64 : decode b_Mo_tapOf 64 = .ok (.ishr, 1) := by decide +kernel
theorem d_Mo_tapOf_65 : decode b_Mo_tapOf 65 = .ok (.iconst 1, 1) := by decide +kernel
theorem d_Mo_tapOf_66 : decode b_Mo_tapOf 66 = .ok (.iand, 1) := by decide +kernel
theorem d_Mo_tapOf_67 : decode b_Mo_tapOf 67 = .ok (.iconst 1, 1) := by decide +kernel
theorem d_Mo_tapOf_68 : decode b_Mo_tapOf 68 = .ok (.if_icmp .ne 5, 3) := by decide +kernel
theorem d_Mo_tapOf_71 : decode b_Mo_tapOf 71 = .ok (.iconst 2, 1) := by decide +kernel
theorem d_Mo_tapOf_72 : decode b_Mo_tapOf 72 = .ok (.ireturn, 1) := by decide +kernel
theorem d_Mo_tapOf_73 : decode b_Mo_tapOf 73 = .ok (.iinc 3 1, 3) := by decide +kernel
theorem d_Mo_tapOf_76 : decode b_Mo_tapOf 76 = .ok (.goto (-63), 3) := by decide +kernel
theorem d_Mo_tapOf_79 : decode b_Mo_tapOf 79 = .ok (.aload_n 0, 1) := by decide +kernel
theorem d_Mo_tapOf_80 : decode b_Mo_tapOf 80 = .ok (.getfield 98, 3) := by decide +kernel
theorem d_Mo_tapOf_83 : decode b_Mo_tapOf 83 = .ok (.aload_n 0, 1) := by decide +kernel
theorem d_Mo_tapOf_84 : decode b_Mo_tapOf 84 = .ok (.getfield 35, 3) := by decide +kernel
theorem d_Mo_tapOf_87 : decode b_Mo_tapOf 87 = .ok (.iconst 0, 1) := by decide +kernel
theorem d_Mo_tapOf_88 : decode b_Mo_tapOf 88 = .ok (.iaload, 1) := by decide +kernel
theorem d_Mo_tapOf_89 : decode b_Mo_tapOf 89 = .ok (.bipush 20, 2) := by decide +kernel
theorem d_Mo_tapOf_91 : decode b_Mo_tapOf 91 = .ok (.iadd, 1) := by decide +kernel
theorem d_Mo_tapOf_92 : decode b_Mo_tapOf 92 = .ok (.if_icmp .ge 12, 3) := by decide +kernel
theorem d_Mo_tapOf_95 : decode b_Mo_tapOf 95 = .ok (.aload_n 0, 1) := by decide +kernel
theorem d_Mo_tapOf_96 : decode b_Mo_tapOf 96 = .ok (.getfield 95, 3) := by decide +kernel
theorem d_Mo_tapOf_99 : decode b_Mo_tapOf 99 = .ok (.bipush 8, 2) := by decide +kernel
theorem d_Mo_tapOf_101 : decode b_Mo_tapOf 101 = .ok (.if_icmp .le 7, 3) := by decide +kernel
theorem d_Mo_tapOf_104 : decode b_Mo_tapOf 104 = .ok (.iconst 2, 1) := by decide +kernel
theorem d_Mo_tapOf_105 : decode b_Mo_tapOf 105 = .ok (.goto 4, 3) := by decide +kernel
theorem d_Mo_tapOf_108 : decode b_Mo_tapOf 108 = .ok (.iconst 0, 1) := by decide +kernel
theorem d_Mo_tapOf_109 : decode b_Mo_tapOf 109 = .ok (.ireturn, 1) := by decide +kernel
theorem d_Mo_begin_0 : decode b_Mo_begin 0 = .ok (.aload_n 0, 1) := by decide +kernel
theorem d_Mo_begin_1 : decode b_Mo_begin 1 = .ok (.getfield 65, 3) := by decide +kernel
theorem d_Mo_begin_4 : decode b_Mo_begin 4 = .ok (.iload_n 1, 1) := by decide +kernel
theorem d_Mo_begin_5 : decode b_Mo_begin 5 = .ok (.iload_n 2, 1) := by decide +kernel
theorem d_Mo_begin_6 : decode b_Mo_begin 6 = .ok (.iastore, 1) := by decide +kernel
theorem d_Mo_begin_7 : decode b_Mo_begin 7 = .ok (.aload_n 0, 1) := by decide +kernel
theorem d_Mo_begin_8 : decode b_Mo_begin 8 = .ok (.getfield 68, 3) := by decide +kernel
theorem d_Mo_begin_11 : decode b_Mo_begin 11 = .ok (.iload_n 1, 1) := by decide +kernel
theorem d_Mo_begin_12 : decode b_Mo_begin 12 = .ok (.iload_n 3, 1) := by decide +kernel
theorem d_Mo_begin_13 : decode b_Mo_begin 13 = .ok (.iastore, 1) := by decide +kernel
theorem d_Mo_begin_14 : decode b_Mo_begin 14 = .ok (.return_, 1) := by decide +kernel
theorem d_Mo_act_0 : decode b_Mo_act 0 = .ok (.iload_n 2, 1) := by decide +kernel
theorem d_Mo_act_1 : decode b_Mo_act 1 = .ok (.ifCond .ge 7, 3) := by decide +kernel
theorem d_Mo_act_4 : decode b_Mo_act 4 = .ok (.iconst 0, 1) := by decide +kernel
theorem d_Mo_act_5 : decode b_Mo_act 5 = .ok (.goto 9, 3) := by decide +kernel
theorem d_Mo_act_8 : decode b_Mo_act 8 = .ok (.aload_n 0, 1) := by decide +kernel
theorem d_Mo_act_9 : decode b_Mo_act 9 = .ok (.getfield 41, 3) := by decide +kernel
theorem d_Mo_act_12 : decode b_Mo_act 12 = .ok (.iload_n 2, 1) := by decide +kernel
theorem d_Mo_act_13 : decode b_Mo_act 13 = .ok (.iaload, 1) := by decide +kernel
theorem d_Mo_act_14 : decode b_Mo_act 14 = .ok (.istore_n 3, 1) := by decide +kernel
theorem d_Mo_act_15 : decode b_Mo_act 15 = .ok (.iload_n 2, 1) := by decide +kernel
theorem d_Mo_act_16 : decode b_Mo_act 16 = .ok (.ifCond .ge 7, 3) := by decide +kernel
theorem d_Mo_act_19 : decode b_Mo_act 19 = .ok (.iconst 0, 1) := by decide +kernel
theorem d_Mo_act_20 : decode b_Mo_act 20 = .ok (.goto 9, 3) := by decide +kernel
theorem d_Mo_act_23 : decode b_Mo_act 23 = .ok (.aload_n 0, 1) := by decide +kernel
theorem d_Mo_act_24 : decode b_Mo_act 24 = .ok (.getfield 44, 3) := by decide +kernel
theorem d_Mo_act_27 : decode b_Mo_act 27 = .ok (.iload_n 2, 1) := by decide +kernel
theorem d_Mo_act_28 : decode b_Mo_act 28 = .ok (.iaload, 1) := by decide +kernel
theorem d_Mo_act_29 : decode b_Mo_act 29 = .ok (.istore 4, 2) := by decide +kernel
theorem d_Mo_act_31 : decode b_Mo_act 31 = .ok (.iload_n 3, 1) := by decide +kernel
theorem d_Mo_act_32 : decode b_Mo_act 32 = .ok (.iconst 5, 1) := by decide +kernel
theorem d_Mo_act_33 : decode b_Mo_act 33 = .ok (.if_icmp .ne 10, 3) := by decide +kernel
theorem d_Mo_act_36 : decode b_Mo_act 36 = .ok (.aload_n 0, 1) := by decide +kernel
theorem d_Mo_act_37 : decode b_Mo_act 37 = .ok (.invokevirtual 147, 3) := by decide +kernel
theorem d_Mo_act_40 : decode b_Mo_act 40 = .ok (.goto 4, 3) := by decide +kernel
theorem d_Mo_act_43 : decode b_Mo_act 43 = .ok (.iconst 1, 1) := by decide +kernel
theorem d_Mo_act_44 : decode b_Mo_act 44 = .ok (.istore 5, 2) := by decide +kernel
theorem d_Mo_act_46 : decode b_Mo_act 46 = .ok (.iload 5, 2) := by decide +kernel
theorem d_Mo_act_48 : decode b_Mo_act 48 = .ok (.ifCond .ne 5, 3) := by decide +kernel
theorem d_Mo_act_51 : decode b_Mo_act 51 = .ok (.iconst 0, 1) := by decide +kernel
theorem d_Mo_act_52 : decode b_Mo_act 52 = .ok (.ireturn, 1) := by decide +kernel
theorem d_Mo_act_53 : decode b_Mo_act 53 = .ok (.iload_n 3, 1) := by decide +kernel
theorem d_Mo_act_54 : decode b_Mo_act 54 = .ok (.tableswitch 142 1 6 #[38, 56, 67, 92, 112, 103], 38) := by decide +kernel
theorem d_Mo_act_92 : decode b_Mo_act 92 = .ok (.aload_n 0, 1) := by decide +kernel
theorem d_Mo_act_93 : decode b_Mo_act 93 = .ok (.iload_n 1, 1) := by decide +kernel
theorem d_Mo_act_94 : decode b_Mo_act 94 = .ok (.iconst 1, 1) := by decide +kernel
theorem d_Mo_act_95 : decode b_Mo_act 95 = .ok (.iload 4, 2) := by decide +kernel
theorem d_Mo_act_97 : decode b_Mo_act 97 = .ok (.invokevirtual 151, 3) := by decide +kernel
theorem d_Mo_act_100 : decode b_Mo_act 100 = .ok (.aload_n 0, 1) := by decide +kernel
theorem d_Mo_act_101 : decode b_Mo_act 101 = .ok (.iload 4, 2) := by decide +kernel
theorem d_Mo_act_103 : decode b_Mo_act 103 = .ok (.iconst 1, 1) := by decide +kernel
theorem d_Mo_act_104 : decode b_Mo_act 104 = .ok (.invokevirtual 127, 3) := by decide +kernel
theorem d_Mo_act_107 : decode b_Mo_act 107 = .ok (.goto 89, 3) := by decide +kernel
theorem d_Mo_act_110 : decode b_Mo_act 110 = .ok (.aload_n 0, 1) := by decide +kernel
theorem d_Mo_act_111 : decode b_Mo_act 111 = .ok (.iload_n 1, 1) := by decide +kernel
theorem d_Mo_act_112 : decode b_Mo_act 112 = .ok (.iconst 2, 1) := by decide +kernel
theorem d_Mo_act_113 : decode b_Mo_act 113 = .ok (.iload 4, 2) := by decide +kernel
theorem d_Mo_act_115 : decode b_Mo_act 115 = .ok (.invokevirtual 151, 3) := by decide +kernel
theorem d_Mo_act_118 : decode b_Mo_act 118 = .ok (.goto 78, 3) := by decide +kernel
theorem d_Mo_act_121 : decode b_Mo_act 121 = .ok (.aload_n 0, 1) := by decide +kernel
theorem d_Mo_act_122 : decode b_Mo_act 122 = .ok (.getfield 59, 3) := by decide +kernel
theorem d_Mo_act_125 : decode b_Mo_act 125 = .ok (.iload 4, 2) := by decide +kernel
theorem d_Mo_act_127 : decode b_Mo_act 127 = .ok (.aload_n 0, 1) := by decide +kernel
theorem d_Mo_act_128 : decode b_Mo_act 128 = .ok (.getfield 59, 3) := by decide +kernel
theorem d_Mo_act_131 : decode b_Mo_act 131 = .ok (.iload 4, 2) := by decide +kernel
theorem d_Mo_act_133 : decode b_Mo_act 133 = .ok (.baload, 1) := by decide +kernel
theorem d_Mo_act_134 : decode b_Mo_act 134 = .ok (.ifCond .ne 7, 3) := by decide +kernel
theorem d_Mo_act_137 : decode b_Mo_act 137 = .ok (.iconst 1, 1) := by decide +kernel
theorem d_Mo_act_138 : decode b_Mo_act 138 = .ok (.goto 4, 3) := by decide +kernel
theorem d_Mo_act_141 : decode b_Mo_act 141 = .ok (.iconst 0, 1) := by decide +kernel
theorem d_Mo_act_142 : decode b_Mo_act 142 = .ok (.bastore, 1) := by decide +kernel
theorem d_Mo_act_143 : decode b_Mo_act 143 = .ok (.goto 53, 3) := by decide +kernel
theorem d_Mo_act_146 : decode b_Mo_act 146 = .ok (.aload_n 0, 1) := by decide +kernel
theorem d_Mo_act_147 : decode b_Mo_act 147 = .ok (.getfield 62, 3) := by decide +kernel
theorem d_Mo_act_150 : decode b_Mo_act 150 = .ok (.iload 4, 2) := by decide +kernel
theorem d_Mo_act_152 : decode b_Mo_act 152 = .ok (.iconst 1, 1) := by decide +kernel
theorem d_Mo_act_153 : decode b_Mo_act 153 = .ok (.bastore, 1) := by decide +kernel
theorem d_Mo_act_154 : decode b_Mo_act 154 = .ok (.goto 42, 3) := by decide +kernel
theorem d_Mo_act_157 : decode b_Mo_act 157 = .ok (.aload_n 0, 1) := by decide +kernel
theorem d_Mo_act_158 : decode b_Mo_act 158 = .ok (.iload 4, 2) := by decide +kernel
theorem d_Mo_act_160 : decode b_Mo_act 160 = .ok (.invokevirtual 155, 3) := by decide +kernel
theorem d_Mo_act_163 : decode b_Mo_act 163 = .ok (.goto 33, 3) := by decide +kernel
theorem d_Mo_act_166 : decode b_Mo_act 166 = .ok (.iload 5, 2) := by decide +kernel
theorem d_Mo_act_168 : decode b_Mo_act 168 = .ok (.iconst 1, 1) := by decide +kernel
theorem d_Mo_act_169 : decode b_Mo_act 169 = .ok (.if_icmp .ne 12, 3) := by decide +kernel
theorem d_Mo_act_172 : decode b_Mo_act 172 = .ok (.aload_n 0, 1) := by decide +kernel
theorem d_Mo_act_173 : decode b_Mo_act 173 = .ok (.iload 4, 2) := by decide +kernel
theorem d_Mo_act_175 : decode b_Mo_act 175 = .ok (.invokevirtual 158, 3) := by decide +kernel
theorem d_Mo_act_178 : decode b_Mo_act 178 = .ok (.goto 18, 3) := by decide +kernel
theorem d_Mo_act_181 : decode b_Mo_act 181 = .ok (.aload_n 0, 1) := by decide +kernel
theorem d_Mo_act_182 : decode b_Mo_act 182 = .ok (.iload_n 1, 1) := by decide +kernel
theorem d_Mo_act_183 : decode b_Mo_act 183 = .ok (.iconst 2, 1) := by decide +kernel
theorem d_Mo_act_184 : decode b_Mo_act 184 = .ok (.aload_n 0, 1) := by decide +kernel
theorem d_Mo_act_185 : decode b_Mo_act 185 = .ok (.getfield 47, 3) := by decide +kernel
theorem d_Mo_act_188 : decode b_Mo_act 188 = .ok (.iload_n 2, 1) := by decide +kernel
theorem d_Mo_act_189 : decode b_Mo_act 189 = .ok (.iaload, 1) := by decide +kernel
theorem d_Mo_act_190 : decode b_Mo_act 190 = .ok (.invokevirtual 151, 3) := by decide +kernel
theorem d_Mo_act_193 : decode b_Mo_act 193 = .ok (.goto 3, 3) := by decide +kernel
theorem d_Mo_act_196 : decode b_Mo_act 196 = .ok (.iload_n 3, 1) := by decide +kernel
theorem d_Mo_act_197 : decode b_Mo_act 197 = .ok (.iconst 4, 1) := by decide +kernel
theorem d_Mo_act_198 : decode b_Mo_act 198 = .ok (.if_icmp .eq 7, 3) := by decide +kernel
theorem d_Mo_act_201 : decode b_Mo_act 201 = .ok (.aload_n 0, 1) := by decide +kernel
theorem d_Mo_act_202 : decode b_Mo_act 202 = .ok (.invokevirtual 144, 3) := by decide +kernel
theorem d_Mo_act_205 : decode b_Mo_act 205 = .ok (.iconst 1, 1) := by decide +kernel
theorem d_Mo_act_206 : decode b_Mo_act 206 = .ok (.ireturn, 1) := by decide +kernel
theorem d_Mo_play_0 : decode b_Mo_play 0 = .ok (.iconst 0, 1) := by decide +kernel
theorem d_Mo_play_1 : decode b_Mo_play 1 = .ok (.istore_n 2, 1) := by decide +kernel
theorem d_Mo_play_2 : decode b_Mo_play 2 = .ok (.iload_n 2, 1) := by decide +kernel
theorem d_Mo_play_3 : decode b_Mo_play 3 = .ok (.iconst 4, 1) := by decide +kernel
theorem d_Mo_play_4 : decode b_Mo_play 4 = .ok (.if_icmp .ge 36, 3) := by decide +kernel
theorem d_Mo_play_7 : decode b_Mo_play 7 = .ok (.aload_n 0, 1) := by decide +kernel
theorem d_Mo_play_8 : decode b_Mo_play 8 = .ok (.getfield 50, 3) := by decide +kernel
theorem d_Mo_play_11 : decode b_Mo_play 11 = .ok (.iconst 4, 1) := by decide +kernel
theorem d_Mo_play_12 : decode b_Mo_play 12 = .ok (.iload_n 1, 1) := by decide +kernel
theorem d_Mo_play_13 : decode b_Mo_play 13 = .ok (.imul, 1) := by decide +kernel
theorem d_Mo_play_14 : decode b_Mo_play 14 = .ok (.iload_n 2, 1) := by decide +kernel
theorem d_Mo_play_15 : decode b_Mo_play 15 = .ok (.iadd, 1) := by decide +kernel
theorem d_Mo_play_16 : decode b_Mo_play 16 = .ok (.iaload, 1) := by decide +kernel
theorem d_Mo_play_17 : decode b_Mo_play 17 = .ok (.ifCond .le 17, 3) := by decide +kernel
theorem d_Mo_play_20 : decode b_Mo_play 20 = .ok (.aload_n 0, 1) := by decide +kernel
theorem d_Mo_play_21 : decode b_Mo_play 21 = .ok (.aload_n 0, 1) := by decide +kernel
theorem d_Mo_play_22 : decode b_Mo_play 22 = .ok (.getfield 50, 3) := by decide +kernel
theorem d_Mo_play_25 : decode b_Mo_play 25 = .ok (.iconst 4, 1) := by decide +kernel
theorem d_Mo_play_26 : decode b_Mo_play 26 = .ok (.iload_n 1, 1) := by decide +kernel
theorem d_Mo_play_27 : decode b_Mo_play 27 = .ok (.imul, 1) := by decide +kernel
theorem d_Mo_play_28 : decode b_Mo_play 28 = .ok (.iload_n 2, 1) := by decide +kernel
theorem d_Mo_play_29 : decode b_Mo_play 29 = .ok (.iadd, 1) := by decide +kernel
theorem d_Mo_play_30 : decode b_Mo_play 30 = .ok (.iaload, 1) := by decide +kernel
theorem d_Mo_play_31 : decode b_Mo_play 31 = .ok (.invokevirtual 158, 3) := by decide +kernel
theorem d_Mo_play_34 : decode b_Mo_play 34 = .ok (.iinc 2 1, 3) := by decide +kernel
theorem d_Mo_play_37 : decode b_Mo_play 37 = .ok (.goto (-35), 3) := by decide +kernel
theorem d_Mo_play_40 : decode b_Mo_play 40 = .ok (.return_, 1) := by decide +kernel
theorem d_Mo_takeFirst_0 : decode b_Mo_takeFirst 0 = .ok (.aload_n 0, 1) := by decide +kernel
theorem d_Mo_takeFirst_1 : decode b_Mo_takeFirst 1 = .ok (.getfield 32, 3) := by decide +kernel
theorem d_Mo_takeFirst_4 : decode b_Mo_takeFirst 4 = .ok (.iconst 0, 1) := by decide +kernel
theorem d_Mo_takeFirst_5 : decode b_Mo_takeFirst 5 = .ok (.iaload, 1) := by decide +kernel
theorem d_Mo_takeFirst_6 : decode b_Mo_takeFirst 6 = .ok (.iconst 2, 1) := by decide +kernel
theorem d_Mo_takeFirst_7 : decode b_Mo_takeFirst 7 = .ok (.idiv, 1) := by decide +kernel
theorem d_Mo_takeFirst_8 : decode b_Mo_takeFirst 8 = .ok (.istore_n 1, 1) := by decide +kernel
theorem d_Mo_takeFirst_9 : decode b_Mo_takeFirst 9 = .ok (.aload_n 0, 1) := by decide +kernel
theorem d_Mo_takeFirst_10 : decode b_Mo_takeFirst 10 = .ok (.getfield 32, 3) := by decide +kernel
theorem d_Mo_takeFirst_13 : decode b_Mo_takeFirst 13 = .ok (.iconst 0, 1) := by decide +kernel
theorem d_Mo_takeFirst_14 : decode b_Mo_takeFirst 14 = .ok (.iaload, 1) := by decide +kernel
theorem d_Mo_takeFirst_15 : decode b_Mo_takeFirst 15 = .ok (.iconst 2, 1) := by decide +kernel
theorem d_Mo_takeFirst_16 : decode b_Mo_takeFirst 16 = .ok (.irem, 1) := by decide +kernel
theorem d_Mo_takeFirst_17 : decode b_Mo_takeFirst 17 = .ok (.ifCond .ne 15, 3) := by decide +kernel
theorem d_Mo_takeFirst_20 : decode b_Mo_takeFirst 20 = .ok (.aload_n 0, 1) := by decide +kernel
theorem d_Mo_takeFirst_21 : decode b_Mo_takeFirst 21 = .ok (.iload_n 1, 1) := by decide +kernel
theorem d_Mo_takeFirst_22 : decode b_Mo_takeFirst 22 = .ok (.invokevirtual 161, 3) := by decide +kernel
theorem d_Mo_takeFirst_25 : decode b_Mo_takeFirst 25 = .ok (.aload_n 0, 1) := by decide +kernel
theorem d_Mo_takeFirst_26 : decode b_Mo_takeFirst 26 = .ok (.iconst 1, 1) := by decide +kernel
theorem d_Mo_takeFirst_27 : decode b_Mo_takeFirst 27 = .ok (.invokevirtual 140, 3) := by decide +kernel
theorem d_Mo_takeFirst_30 : decode b_Mo_takeFirst 30 = .ok (.iconst 1, 1) := by decide +kernel
theorem d_Mo_takeFirst_31 : decode b_Mo_takeFirst 31 = .ok (.ireturn, 1) := by decide +kernel
theorem d_Mo_takeFirst_32 : decode b_Mo_takeFirst 32 = .ok (.aload_n 0, 1) := by decide +kernel
theorem d_Mo_takeFirst_33 : decode b_Mo_takeFirst 33 = .ok (.invokevirtual 164, 3) := by decide +kernel
theorem d_Mo_takeFirst_36 : decode b_Mo_takeFirst 36 = .ok (.istore_n 2, 1) := by decide +kernel
theorem d_Mo_takeFirst_37 : decode b_Mo_takeFirst 37 = .ok (.aload_n 0, 1) := by decide +kernel
theorem d_Mo_takeFirst_38 : decode b_Mo_takeFirst 38 = .ok (.iload_n 2, 1) := by decide +kernel
theorem d_Mo_takeFirst_39 : decode b_Mo_takeFirst 39 = .ok (.invokevirtual 167, 3) := by decide +kernel
theorem d_Mo_takeFirst_42 : decode b_Mo_takeFirst 42 = .ok (.ifCond .eq 5, 3) := by decide +kernel
theorem d_Mo_takeFirst_45 : decode b_Mo_takeFirst 45 = .ok (.iconst 0, 1) := by decide +kernel
theorem d_Mo_takeFirst_46 : decode b_Mo_takeFirst 46 = .ok (.ireturn, 1) := by decide +kernel
theorem d_Mo_takeFirst_47 : decode b_Mo_takeFirst 47 = .ok (.aload_n 0, 1) := by decide +kernel
theorem d_Mo_takeFirst_48 : decode b_Mo_takeFirst 48 = .ok (.iload_n 2, 1) := by decide +kernel
theorem d_Mo_takeFirst_49 : decode b_Mo_takeFirst 49 = .ok (.invokevirtual 170, 3) := by decide +kernel
theorem d_Mo_takeFirst_52 : decode b_Mo_takeFirst 52 = .ok (.istore_n 3, 1) := by decide +kernel
theorem d_Mo_takeFirst_53 : decode b_Mo_takeFirst 53 = .ok (.iload_n 3, 1) := by decide +kernel
theorem d_Mo_takeFirst_54 : decode b_Mo_takeFirst 54 = .ok (.ifCond .lt 10, 3) := by decide +kernel
theorem d_Mo_takeFirst_57 : decode b_Mo_takeFirst 57 = .ok (.aload_n 0, 1) := by decide +kernel
theorem d_Mo_takeFirst_58 : decode b_Mo_takeFirst 58 = .ok (.iload_n 3, 1) := by decide +kernel
theorem d_Mo_takeFirst_59 : decode b_Mo_takeFirst 59 = .ok (.invokevirtual 173, 3) := by decide +kernel
theorem d_Mo_takeFirst_62 : decode b_Mo_takeFirst 62 = .ok (.iconst 1, 1) := by decide +kernel
theorem d_Mo_takeFirst_63 : decode b_Mo_takeFirst 63 = .ok (.ireturn, 1) := by decide +kernel
theorem d_Mo_takeFirst_64 : decode b_Mo_takeFirst 64 = .ok (.aload_n 0, 1) := by decide +kernel
theorem d_Mo_takeFirst_65 : decode b_Mo_takeFirst 65 = .ok (.iload_n 1, 1) := by decide +kernel
theorem d_Mo_takeFirst_66 : decode b_Mo_takeFirst 66 = .ok (.invokevirtual 176, 3) := by decide +kernel
theorem d_Mo_takeFirst_69 : decode b_Mo_takeFirst 69 = .ok (.istore 4, 2) := by decide +kernel
theorem d_Mo_takeFirst_71 : decode b_Mo_takeFirst 71 = .ok (.aload_n 0, 1) := by decide +kernel
theorem d_Mo_takeFirst_72 : decode b_Mo_takeFirst 72 = .ok (.iload_n 1, 1) := by decide +kernel
theorem d_Mo_takeFirst_73 : decode b_Mo_takeFirst 73 = .ok (.iload 4, 2) := by decide +kernel
theorem d_Mo_takeFirst_75 : decode b_Mo_takeFirst 75 = .ok (.ifCond .ge 7, 3) := by decide +kernel
theorem d_Mo_takeFirst_78 : decode b_Mo_takeFirst 78 = .ok (.iconst (-1), 1) := by decide +kernel
theorem d_Mo_takeFirst_79 : decode b_Mo_takeFirst 79 = .ok (.goto 10, 3) := by decide +kernel
theorem d_Mo_takeFirst_82 : decode b_Mo_takeFirst 82 = .ok (.bipush 24, 2) := by decide +kernel
theorem d_Mo_takeFirst_84 : decode b_Mo_takeFirst 84 = .ok (.iload 4, 2) := by decide +kernel
theorem d_Mo_takeFirst_86 : decode b_Mo_takeFirst 86 = .ok (.imul, 1) := by decide +kernel
theorem d_Mo_takeFirst_87 : decode b_Mo_takeFirst 87 = .ok (.iload_n 1, 1) := by decide +kernel
theorem d_Mo_takeFirst_88 : decode b_Mo_takeFirst 88 = .ok (.iadd, 1) := by decide +kernel
theorem d_Mo_takeFirst_89 : decode b_Mo_takeFirst 89 = .ok (.invokevirtual 179, 3) := by decide +kernel
theorem d_Mo_takeFirst_92 : decode b_Mo_takeFirst 92 = .ok (.ifCond .ne 5, 3) := by decide +kernel
theorem d_Mo_takeFirst_95 : decode b_Mo_takeFirst 95 = .ok (.iconst 0, 1) := by decide +kernel
theorem d_Mo_takeFirst_96 : decode b_Mo_takeFirst 96 = .ok (.ireturn, 1) := by decide +kernel
theorem d_Mo_takeFirst_97 : decode b_Mo_takeFirst 97 = .ok (.aload_n 0, 1) := by decide +kernel
theorem d_Mo_takeFirst_98 : decode b_Mo_takeFirst 98 = .ok (.iconst 1, 1) := by decide +kernel
theorem d_Mo_takeFirst_99 : decode b_Mo_takeFirst 99 = .ok (.invokevirtual 140, 3) := by decide +kernel
theorem d_Mo_takeFirst_102 : decode b_Mo_takeFirst 102 = .ok (.iconst 1, 1) := by decide +kernel
theorem d_Mo_takeFirst_103 : decode b_Mo_takeFirst 103 = .ok (.ireturn, 1) := by decide +kernel
theorem d_Mo_scanOnce_0 : decode b_Mo_scanOnce 0 = .ok (.aload_n 0, 1) := by decide +kernel
theorem d_Mo_scanOnce_1 : decode b_Mo_scanOnce 1 = .ok (.invokevirtual 183, 3) := by decide +kernel
theorem d_Mo_scanOnce_4 : decode b_Mo_scanOnce 4 = .ok (.aload_n 0, 1) := by decide +kernel
theorem d_Mo_scanOnce_5 : decode b_Mo_scanOnce 5 = .ok (.invokevirtual 186, 3) := by decide +kernel
theorem d_Mo_scanOnce_8 : decode b_Mo_scanOnce 8 = .ok (.istore_n 1, 1) := by decide +kernel
theorem d_Mo_scanOnce_9 : decode b_Mo_scanOnce 9 = .ok (.iconst 1, 1) := by decide +kernel
theorem d_Mo_scanOnce_10 : decode b_Mo_scanOnce 10 = .ok (.istore_n 2, 1) := by decide +kernel
theorem d_Mo_scanOnce_11 : decode b_Mo_scanOnce 11 = .ok (.iload_n 2, 1) := by decide +kernel
theorem d_Mo_scanOnce_12 : decode b_Mo_scanOnce 12 = .ok (.ifCond .eq 18, 3) := by decide +kernel
theorem d_Mo_scanOnce_15 : decode b_Mo_scanOnce 15 = .ok (.aload_n 0, 1) := by decide +kernel
theorem d_Mo_scanOnce_16 : decode b_Mo_scanOnce 16 = .ok (.getfield 95, 3) := by decide +kernel
theorem d_Mo_scanOnce_19 : decode b_Mo_scanOnce 19 = .ok (.ifCond .le 11, 3) := by decide +kernel
theorem d_Mo_scanOnce_22 : decode b_Mo_scanOnce 22 = .ok (.aload_n 0, 1) := by decide +kernel
theorem d_Mo_scanOnce_23 : decode b_Mo_scanOnce 23 = .ok (.invokevirtual 189, 3) := by decide +kernel
theorem d_Mo_scanOnce_26 : decode b_Mo_scanOnce 26 = .ok (.istore_n 2, 1) := by decide +kernel
theorem d_Mo_scanOnce_27 : decode b_Mo_scanOnce 27 = .ok (.goto (-16), 3) := by decide +kernel
theorem d_Mo_scanOnce_30 : decode b_Mo_scanOnce 30 = .ok (.aload_n 0, 1) := by decide +kernel
theorem d_Mo_scanOnce_31 : decode b_Mo_scanOnce 31 = .ok (.dup, 1) := by decide +kernel
theorem d_Mo_scanOnce_32 : decode b_Mo_scanOnce 32 = .ok (.getfield 98, 3) := by decide +kernel
theorem d_Mo_scanOnce_35 : decode b_Mo_scanOnce 35 = .ok (.iconst 1, 1) := by decide +kernel
theorem d_Mo_scanOnce_36 : decode b_Mo_scanOnce 36 = .ok (.iadd, 1) := by decide +kernel
theorem d_Mo_scanOnce_37 : decode b_Mo_scanOnce 37 = .ok (.putfield 98, 3) := by decide +kernel
theorem d_Mo_scanOnce_40 : decode b_Mo_scanOnce 40 = .ok (.iload_n 1, 1) := by decide +kernel
theorem d_Mo_scanOnce_41 : decode b_Mo_scanOnce 41 = .ok (.ireturn, 1) := by decide +kernel
theorem d_Mo_scan_0 : decode b_Mo_scan 0 = .ok (.aload_n 0, 1) := by decide +kernel
theorem d_Mo_scan_1 : decode b_Mo_scan 1 = .ok (.iconst 0, 1) := by decide +kernel
theorem d_Mo_scan_2 : decode b_Mo_scan 2 = .ok (.putfield 80, 3) := by decide +kernel
theorem d_Mo_scan_5 : decode b_Mo_scan 5 = .ok (.aload_n 0, 1) := by decide +kernel
theorem d_Mo_scan_6 : decode b_Mo_scan 6 = .ok (.invokevirtual 193, 3) := by decide +kernel
theorem d_Mo_scan_9 : decode b_Mo_scan 9 = .ok (.ireturn, 1) := by decide +kernel
theorem d_Mo_scans_0 : decode b_Mo_scans 0 = .ok (.aload_n 0, 1) := by decide +kernel
theorem d_Mo_scans_1 : decode b_Mo_scans 1 = .ok (.iload_n 1, 1) := by decide +kernel
theorem d_Mo_scans_2 : decode b_Mo_scans 2 = .ok (.iconst 1, 1) := by decide +kernel
theorem d_Mo_scans_3 : decode b_Mo_scans 3 = .ok (.if_icmp .lt 9, 3) := by decide +kernel
theorem d_Mo_scans_6 : decode b_Mo_scans 6 = .ok (.iload_n 1, 1) := by decide +kernel
theorem d_Mo_scans_7 : decode b_Mo_scans 7 = .ok (.bipush 100, 2) := by decide +kernel
theorem d_Mo_scans_9 : decode b_Mo_scans 9 = .ok (.if_icmp .le 7, 3) := by decide +kernel
theorem d_Mo_scans_12 : decode b_Mo_scans 12 = .ok (.iconst 1, 1) := by decide +kernel
theorem d_Mo_scans_13 : decode b_Mo_scans 13 = .ok (.goto 4, 3) := by decide +kernel
theorem d_Mo_scans_16 : decode b_Mo_scans 16 = .ok (.iconst 0, 1) := by decide +kernel
theorem d_Mo_scans_17 : decode b_Mo_scans 17 = .ok (.invokevirtual 88, 3) := by decide +kernel
theorem d_Mo_scans_20 : decode b_Mo_scans 20 = .ok (.ifCond .eq 5, 3) := by decide +kernel
theorem d_Mo_scans_23 : decode b_Mo_scans 23 = .ok (.iconst 0, 1) := by decide +kernel
theorem d_Mo_scans_24 : decode b_Mo_scans 24 = .ok (.ireturn, 1) := by decide +kernel
theorem d_Mo_scans_25 : decode b_Mo_scans 25 = .ok (.iconst 0, 1) := by decide +kernel
theorem d_Mo_scans_26 : decode b_Mo_scans 26 = .ok (.istore_n 2, 1) := by decide +kernel
theorem d_Mo_scans_27 : decode b_Mo_scans 27 = .ok (.iconst 0, 1) := by decide +kernel
theorem d_Mo_scans_28 : decode b_Mo_scans 28 = .ok (.istore_n 3, 1) := by decide +kernel
theorem d_Mo_scans_29 : decode b_Mo_scans 29 = .ok (.iload_n 3, 1) := by decide +kernel
theorem d_Mo_scans_30 : decode b_Mo_scans 30 = .ok (.iload_n 1, 1) := by decide +kernel
theorem d_Mo_scans_31 : decode b_Mo_scans 31 = .ok (.if_icmp .ge 16, 3) := by decide +kernel
theorem d_Mo_scans_34 : decode b_Mo_scans 34 = .ok (.iload_n 2, 1) := by decide +kernel
theorem d_Mo_scans_35 : decode b_Mo_scans 35 = .ok (.aload_n 0, 1) := by decide +kernel
theorem d_Mo_scans_36 : decode b_Mo_scans 36 = .ok (.invokevirtual 193, 3) := by decide +kernel
theorem d_Mo_scans_39 : decode b_Mo_scans 39 = .ok (.iadd, 1) := by decide +kernel
theorem d_Mo_scans_40 : decode b_Mo_scans 40 = .ok (.istore_n 2, 1) := by decide +kernel
theorem d_Mo_scans_41 : decode b_Mo_scans 41 = .ok (.iinc 3 1, 3) := by decide +kernel
theorem d_Mo_scans_44 : decode b_Mo_scans 44 = .ok (.goto (-15), 3) := by decide +kernel
theorem d_Mo_scans_47 : decode b_Mo_scans 47 = .ok (.iload_n 2, 1) := by decide +kernel
theorem d_Mo_scans_48 : decode b_Mo_scans 48 = .ok (.ireturn, 1) := by decide +kernel
theorem d_Mo_poll_0 : decode b_Mo_poll 0 = .ok (.aload_n 0, 1) := by decide +kernel
theorem d_Mo_poll_1 : decode b_Mo_poll 1 = .ok (.iconst 0, 1) := by decide +kernel
theorem d_Mo_poll_2 : decode b_Mo_poll 2 = .ok (.putfield 80, 3) := by decide +kernel
theorem d_Mo_poll_5 : decode b_Mo_poll 5 = .ok (.aload_n 0, 1) := by decide +kernel
theorem d_Mo_poll_6 : decode b_Mo_poll 6 = .ok (.getfield 114, 3) := by decide +kernel
theorem d_Mo_poll_9 : decode b_Mo_poll 9 = .ok (.ifCond .ne 5, 3) := by decide +kernel
theorem d_Mo_poll_12 : decode b_Mo_poll 12 = .ok (.iconst 0, 1) := by decide +kernel
theorem d_Mo_poll_13 : decode b_Mo_poll 13 = .ok (.ireturn, 1) := by decide +kernel
theorem d_Mo_poll_14 : decode b_Mo_poll 14 = .ok (.aload_n 0, 1) := by decide +kernel
theorem d_Mo_poll_15 : decode b_Mo_poll 15 = .ok (.iconst 0, 1) := by decide +kernel
theorem d_Mo_poll_16 : decode b_Mo_poll 16 = .ok (.bipush 9, 2) := by decide +kernel
theorem d_Mo_poll_18 : decode b_Mo_poll 18 = .ok (.invokevirtual 121, 3) := by decide +kernel
theorem d_Mo_poll_21 : decode b_Mo_poll 21 = .ok (.aload_n 0, 1) := by decide +kernel
theorem d_Mo_poll_22 : decode b_Mo_poll 22 = .ok (.dup, 1) := by decide +kernel
theorem d_Mo_poll_23 : decode b_Mo_poll 23 = .ok (.getfield 114, 3) := by decide +kernel
theorem d_Mo_poll_26 : decode b_Mo_poll 26 = .ok (.iconst 1, 1) := by decide +kernel
theorem d_Mo_poll_27 : decode b_Mo_poll 27 = .ok (.isub, 1) := by decide +kernel
theorem d_Mo_poll_28 : decode b_Mo_poll 28 = .ok (.putfield 114, 3) := by decide +kernel
theorem d_Mo_poll_31 : decode b_Mo_poll 31 = .ok (.iconst 0, 1) := by decide +kernel
theorem d_Mo_poll_32 : decode b_Mo_poll 32 = .ok (.istore_n 1, 1) := by decide +kernel
theorem d_Mo_poll_33 : decode b_Mo_poll 33 = .ok (.iload_n 1, 1) := by decide +kernel
theorem d_Mo_poll_34 : decode b_Mo_poll 34 = .ok (.aload_n 0, 1) := by decide +kernel
theorem d_Mo_poll_35 : decode b_Mo_poll 35 = .ok (.getfield 114, 3) := by decide +kernel
theorem d_Mo_poll_38 : decode b_Mo_poll 38 = .ok (.if_icmp .ge 17, 3) := by decide +kernel
theorem d_Mo_poll_41 : decode b_Mo_poll 41 = .ok (.aload_n 0, 1) := by decide +kernel
theorem d_Mo_poll_42 : decode b_Mo_poll 42 = .ok (.iload_n 1, 1) := by decide +kernel
theorem d_Mo_poll_43 : decode b_Mo_poll 43 = .ok (.iconst 1, 1) := by decide +kernel
theorem d_Mo_poll_44 : decode b_Mo_poll 44 = .ok (.iadd, 1) := by decide +kernel
theorem d_Mo_poll_45 : decode b_Mo_poll 45 = .ok (.iload_n 1, 1) := by decide +kernel
theorem d_Mo_poll_46 : decode b_Mo_poll 46 = .ok (.invokevirtual 121, 3) := by decide +kernel
theorem d_Mo_poll_49 : decode b_Mo_poll 49 = .ok (.iinc 1 1, 3) := by decide +kernel
theorem d_Mo_poll_52 : decode b_Mo_poll 52 = .ok (.goto (-19), 3) := by decide +kernel
theorem d_Mo_poll_55 : decode b_Mo_poll 55 = .ok (.aload_n 0, 1) := by decide +kernel
theorem d_Mo_poll_56 : decode b_Mo_poll 56 = .ok (.getfield 117, 3) := by decide +kernel
theorem d_Mo_poll_59 : decode b_Mo_poll 59 = .ok (.ifCond .eq 12, 3) := by decide +kernel
theorem d_Mo_poll_62 : decode b_Mo_poll 62 = .ok (.aload_n 0, 1) := by decide +kernel
theorem d_Mo_poll_63 : decode b_Mo_poll 63 = .ok (.iconst 0, 1) := by decide +kernel
theorem d_Mo_poll_64 : decode b_Mo_poll 64 = .ok (.putfield 117, 3) := by decide +kernel
theorem d_Mo_poll_67 : decode b_Mo_poll 67 = .ok (.aload_n 0, 1) := by decide +kernel
theorem d_Mo_poll_68 : decode b_Mo_poll 68 = .ok (.invokevirtual 124, 3) := by decide +kernel
theorem d_Mo_poll_71 : decode b_Mo_poll 71 = .ok (.iconst 1, 1) := by decide +kernel
theorem d_Mo_poll_72 : decode b_Mo_poll 72 = .ok (.ireturn, 1) := by decide +kernel
theorem d_Mo_report_0 : decode b_Mo_report 0 = .ok (.aload_n 0, 1) := by decide +kernel
theorem d_Mo_report_1 : decode b_Mo_report 1 = .ok (.iconst 0, 1) := by decide +kernel
theorem d_Mo_report_2 : decode b_Mo_report 2 = .ok (.putfield 80, 3) := by decide +kernel
theorem d_Mo_report_5 : decode b_Mo_report 5 = .ok (.iload_n 1, 1) := by decide +kernel
theorem d_Mo_report_6 : decode b_Mo_report 6 = .ok (.ifCond .lt 9, 3) := by decide +kernel
theorem d_Mo_report_9 : decode b_Mo_report 9 = .ok (.iload_n 1, 1) := by decide +kernel
theorem d_Mo_report_10 : decode b_Mo_report 10 = .ok (.bipush 6, 2) := by decide +kernel
theorem d_Mo_report_12 : decode b_Mo_report 12 = .ok (.if_icmp .le 7, 3) := by decide +kernel
theorem d_Mo_report_15 : decode b_Mo_report 15 = .ok (.iconst (-1), 1) := by decide +kernel
theorem d_Mo_report_16 : decode b_Mo_report 16 = .ok (.goto 12, 3) := by decide +kernel
theorem d_Mo_report_19 : decode b_Mo_report 19 = .ok (.aload_n 0, 1) := by decide +kernel
theorem d_Mo_report_20 : decode b_Mo_report 20 = .ok (.getfield 77, 3) := by decide +kernel
theorem d_Mo_report_23 : decode b_Mo_report 23 = .ok (.bipush 63, 2) := by decide +kernel
theorem d_Mo_report_25 : decode b_Mo_report 25 = .ok (.iload_n 1, 1) := by decide +kernel
theorem d_Mo_report_26 : decode b_Mo_report 26 = .ok (.iadd, 1) := by decide +kernel
theorem d_Mo_report_27 : decode b_Mo_report 27 = .ok (.iaload, 1) := by decide +kernel
theorem d_Mo_report_28 : decode b_Mo_report 28 = .ok (.ireturn, 1) := by decide +kernel
theorem d_Mo_waiting_0 : decode b_Mo_waiting 0 = .ok (.aload_n 0, 1) := by decide +kernel
theorem d_Mo_waiting_1 : decode b_Mo_waiting 1 = .ok (.iconst 0, 1) := by decide +kernel
theorem d_Mo_waiting_2 : decode b_Mo_waiting 2 = .ok (.putfield 80, 3) := by decide +kernel
theorem d_Mo_waiting_5 : decode b_Mo_waiting 5 = .ok (.aload_n 0, 1) := by decide +kernel
theorem d_Mo_waiting_6 : decode b_Mo_waiting 6 = .ok (.getfield 114, 3) := by decide +kernel
theorem d_Mo_waiting_9 : decode b_Mo_waiting 9 = .ok (.ireturn, 1) := by decide +kernel
theorem d_Mo_late_0 : decode b_Mo_late 0 = .ok (.aload_n 0, 1) := by decide +kernel
theorem d_Mo_late_1 : decode b_Mo_late 1 = .ok (.iconst 0, 1) := by decide +kernel
theorem d_Mo_late_2 : decode b_Mo_late 2 = .ok (.putfield 80, 3) := by decide +kernel
theorem d_Mo_late_5 : decode b_Mo_late 5 = .ok (.aload_n 0, 1) := by decide +kernel
theorem d_Mo_late_6 : decode b_Mo_late 6 = .ok (.getfield 117, 3) := by decide +kernel
theorem d_Mo_late_9 : decode b_Mo_late 9 = .ok (.ireturn, 1) := by decide +kernel
theorem d_Mo_isSound_0 : decode b_Mo_isSound 0 = .ok (.iload_n 1, 1) := by decide +kernel
theorem d_Mo_isSound_1 : decode b_Mo_isSound 1 = .ok (.iconst 1, 1) := by decide +kernel
theorem d_Mo_isSound_2 : decode b_Mo_isSound 2 = .ok (.if_icmp .lt 12, 3) := by decide +kernel
theorem d_Mo_isSound_5 : decode b_Mo_isSound 5 = .ok (.iload_n 1, 1) := by decide +kernel
theorem d_Mo_isSound_6 : decode b_Mo_isSound 6 = .ok (.iconst 3, 1) := by decide +kernel
theorem d_Mo_isSound_7 : decode b_Mo_isSound 7 = .ok (.if_icmp .gt 7, 3) := by decide +kernel
theorem d_Mo_isSound_10 : decode b_Mo_isSound 10 = .ok (.iconst 1, 1) := by decide +kernel
theorem d_Mo_isSound_11 : decode b_Mo_isSound 11 = .ok (.goto 4, 3) := by decide +kernel
theorem d_Mo_isSound_14 : decode b_Mo_isSound 14 = .ok (.iconst 0, 1) := by decide +kernel
theorem d_Mo_isSound_15 : decode b_Mo_isSound 15 = .ok (.istore_n 3, 1) := by decide +kernel
theorem d_Mo_isSound_16 : decode b_Mo_isSound 16 = .ok (.iload_n 0, 1) := by decide +kernel
theorem d_Mo_isSound_17 : decode b_Mo_isSound 17 = .ok (.tableswitch 80 0 6 #[43, 45, 50, 50, 50, 52, 75], 43) := by decide +kernel
theorem d_Mo_isSound_60 : decode b_Mo_isSound 60 = .ok (.iconst 1, 1) := by decide +kernel
theorem d_Mo_isSound_61 : decode b_Mo_isSound 61 = .ok (.ireturn, 1) := by decide +kernel
theorem d_Mo_isSound_62 : decode b_Mo_isSound 62 = .ok (.iload_n 1, 1) := by decide +kernel
theorem d_Mo_isSound_63 : decode b_Mo_isSound 63 = .ok (.invokestatic 196, 3) := by decide +kernel
theorem d_Mo_isSound_66 : decode b_Mo_isSound 66 = .ok (.ireturn, 1) := by decide +kernel
theorem d_Mo_isSound_67 : decode b_Mo_isSound 67 = .ok (.iload_n 3, 1) := by decide +kernel
theorem d_Mo_isSound_68 : decode b_Mo_isSound 68 = .ok (.ireturn, 1) := by decide +kernel
theorem d_Mo_isSound_69 : decode b_Mo_isSound 69 = .ok (.iload_n 1, 1) := by decide +kernel
theorem d_Mo_isSound_70 : decode b_Mo_isSound 70 = .ok (.invokestatic 196, 3) := by decide +kernel
theorem d_Mo_isSound_73 : decode b_Mo_isSound 73 = .ok (.ifCond .eq 17, 3) := by decide +kernel
theorem d_Mo_isSound_76 : decode b_Mo_isSound 76 = .ok (.iload_n 2, 1) := by decide +kernel
theorem d_Mo_isSound_77 : decode b_Mo_isSound 77 = .ok (.iconst 1, 1) := by decide +kernel
theorem d_Mo_isSound_78 : decode b_Mo_isSound 78 = .ok (.if_icmp .lt 12, 3) := by decide +kernel
theorem d_Mo_isSound_81 : decode b_Mo_isSound 81 = .ok (.iload_n 2, 1) := by decide +kernel
theorem d_Mo_isSound_82 : decode b_Mo_isSound 82 = .ok (.iconst 3, 1) := by decide +kernel
theorem d_Mo_isSound_83 : decode b_Mo_isSound 83 = .ok (.if_icmp .gt 7, 3) := by decide +kernel
theorem d_Mo_isSound_86 : decode b_Mo_isSound 86 = .ok (.iconst 1, 1) := by decide +kernel
theorem d_Mo_isSound_87 : decode b_Mo_isSound 87 = .ok (.goto 4, 3) := by decide +kernel
theorem d_Mo_isSound_90 : decode b_Mo_isSound 90 = .ok (.iconst 0, 1) := by decide +kernel
theorem d_Mo_isSound_91 : decode b_Mo_isSound 91 = .ok (.ireturn, 1) := by decide +kernel
theorem d_Mo_isSound_92 : decode b_Mo_isSound 92 = .ok (.iload_n 1, 1) := by decide +kernel
theorem d_Mo_isSound_93 : decode b_Mo_isSound 93 = .ok (.invokestatic 199, 3) := by decide +kernel
theorem d_Mo_isSound_96 : decode b_Mo_isSound 96 = .ok (.ireturn, 1) := by decide +kernel
theorem d_Mo_isSound_97 : decode b_Mo_isSound 97 = .ok (.iconst 0, 1) := by decide +kernel
theorem d_Mo_isSound_98 : decode b_Mo_isSound 98 = .ok (.ireturn, 1) := by decide +kernel
theorem d_Mo_map_0 : decode b_Mo_map 0 = .ok (.iload_n 1, 1) := by decide +kernel
theorem d_Mo_map_1 : decode b_Mo_map 1 = .ok (.invokestatic 199, 3) := by decide +kernel
theorem d_Mo_map_4 : decode b_Mo_map 4 = .ok (.ifCond .eq 14, 3) := by decide +kernel
theorem d_Mo_map_7 : decode b_Mo_map 7 = .ok (.iload_n 2, 1) := by decide +kernel
theorem d_Mo_map_8 : decode b_Mo_map 8 = .ok (.invokestatic 84, 3) := by decide +kernel
theorem d_Mo_map_11 : decode b_Mo_map 11 = .ok (.ifCond .eq 7, 3) := by decide +kernel
theorem d_Mo_map_14 : decode b_Mo_map 14 = .ok (.iconst 1, 1) := by decide +kernel
theorem d_Mo_map_15 : decode b_Mo_map 15 = .ok (.goto 4, 3) := by decide +kernel
theorem d_Mo_map_18 : decode b_Mo_map 18 = .ok (.iconst 0, 1) := by decide +kernel
theorem d_Mo_map_19 : decode b_Mo_map 19 = .ok (.istore 6, 2) := by decide +kernel
theorem d_Mo_map_21 : decode b_Mo_map 21 = .ok (.aload_n 0, 1) := by decide +kernel
theorem d_Mo_map_22 : decode b_Mo_map 22 = .ok (.iload 6, 2) := by decide +kernel
theorem d_Mo_map_24 : decode b_Mo_map 24 = .ok (.ifCond .ne 7, 3) := by decide +kernel
theorem d_Mo_map_27 : decode b_Mo_map 27 = .ok (.iconst 1, 1) := by decide +kernel
theorem d_Mo_map_28 : decode b_Mo_map 28 = .ok (.goto 19, 3) := by decide +kernel
theorem d_Mo_map_31 : decode b_Mo_map 31 = .ok (.iload_n 3, 1) := by decide +kernel
theorem d_Mo_map_32 : decode b_Mo_map 32 = .ok (.iload 4, 2) := by decide +kernel
theorem d_Mo_map_34 : decode b_Mo_map 34 = .ok (.iload 5, 2) := by decide +kernel
theorem d_Mo_map_36 : decode b_Mo_map 36 = .ok (.invokestatic 202, 3) := by decide +kernel
theorem d_Mo_map_39 : decode b_Mo_map 39 = .ok (.ifCond .ne 7, 3) := by decide +kernel
theorem d_Mo_map_42 : decode b_Mo_map 42 = .ok (.iconst 2, 1) := by decide +kernel
theorem d_Mo_map_43 : decode b_Mo_map 43 = .ok (.goto 4, 3) := by decide +kernel
theorem d_Mo_map_46 : decode b_Mo_map 46 = .ok (.iconst 0, 1) := by decide +kernel
theorem d_Mo_map_47 : decode b_Mo_map 47 = .ok (.invokevirtual 88, 3) := by decide +kernel
theorem d_Mo_map_50 : decode b_Mo_map 50 = .ok (.ifCond .eq 4, 3) := by decide +kernel
theorem d_Mo_map_53 : decode b_Mo_map 53 = .ok (.return_, 1) := by decide +kernel
theorem d_Mo_map_54 : decode b_Mo_map 54 = .ok (.aload_n 0, 1) := by decide +kernel
theorem d_Mo_map_55 : decode b_Mo_map 55 = .ok (.getfield 41, 3) := by decide +kernel
theorem d_Mo_map_58 : decode b_Mo_map 58 = .ok (.bipush 24, 2) := by decide +kernel
theorem d_Mo_map_60 : decode b_Mo_map 60 = .ok (.iload_n 1, 1) := by decide +kernel
theorem d_Mo_map_61 : decode b_Mo_map 61 = .ok (.imul, 1) := by decide +kernel
theorem d_Mo_map_62 : decode b_Mo_map 62 = .ok (.iload_n 2, 1) := by decide +kernel
theorem d_Mo_map_63 : decode b_Mo_map 63 = .ok (.iadd, 1) := by decide +kernel
theorem d_Mo_map_64 : decode b_Mo_map 64 = .ok (.iload_n 3, 1) := by decide +kernel
theorem d_Mo_map_65 : decode b_Mo_map 65 = .ok (.iastore, 1) := by decide +kernel
theorem d_Mo_map_66 : decode b_Mo_map 66 = .ok (.aload_n 0, 1) := by decide +kernel
theorem d_Mo_map_67 : decode b_Mo_map 67 = .ok (.getfield 44, 3) := by decide +kernel
theorem d_Mo_map_70 : decode b_Mo_map 70 = .ok (.bipush 24, 2) := by decide +kernel
theorem d_Mo_map_72 : decode b_Mo_map 72 = .ok (.iload_n 1, 1) := by decide +kernel
theorem d_Mo_map_73 : decode b_Mo_map 73 = .ok (.imul, 1) := by decide +kernel
theorem d_Mo_map_74 : decode b_Mo_map 74 = .ok (.iload_n 2, 1) := by decide +kernel
theorem d_Mo_map_75 : decode b_Mo_map 75 = .ok (.iadd, 1) := by decide +kernel
theorem d_Mo_map_76 : decode b_Mo_map 76 = .ok (.iload 4, 2) := by decide +kernel
theorem d_Mo_map_78 : decode b_Mo_map 78 = .ok (.iastore, 1) := by decide +kernel
theorem d_Mo_map_79 : decode b_Mo_map 79 = .ok (.aload_n 0, 1) := by decide +kernel
theorem d_Mo_map_80 : decode b_Mo_map 80 = .ok (.getfield 47, 3) := by decide +kernel
theorem d_Mo_map_83 : decode b_Mo_map 83 = .ok (.bipush 24, 2) := by decide +kernel
theorem d_Mo_map_85 : decode b_Mo_map 85 = .ok (.iload_n 1, 1) := by decide +kernel
theorem d_Mo_map_86 : decode b_Mo_map 86 = .ok (.imul, 1) := by decide +kernel
theorem d_Mo_map_87 : decode b_Mo_map 87 = .ok (.iload_n 2, 1) := by decide +kernel
theorem d_Mo_map_88 : decode b_Mo_map 88 = .ok (.iadd, 1) := by decide +kernel
theorem d_Mo_map_89 : decode b_Mo_map 89 = .ok (.iload 5, 2) := by decide +kernel
theorem d_Mo_map_91 : decode b_Mo_map 91 = .ok (.iastore, 1) := by decide +kernel
theorem d_Mo_map_92 : decode b_Mo_map 92 = .ok (.return_, 1) := by decide +kernel
theorem d_Mo_macro_0 : decode b_Mo_macro 0 = .ok (.aload_n 0, 1) := by decide +kernel
theorem d_Mo_macro_1 : decode b_Mo_macro 1 = .ok (.iload_n 1, 1) := by decide +kernel
theorem d_Mo_macro_2 : decode b_Mo_macro 2 = .ok (.invokestatic 199, 3) := by decide +kernel
theorem d_Mo_macro_5 : decode b_Mo_macro 5 = .ok (.ifCond .eq 10, 3) := by decide +kernel
theorem d_Mo_macro_8 : decode b_Mo_macro 8 = .ok (.iload_n 2, 1) := by decide +kernel
theorem d_Mo_macro_9 : decode b_Mo_macro 9 = .ok (.invokestatic 199, 3) := by decide +kernel
theorem d_Mo_macro_12 : decode b_Mo_macro 12 = .ok (.ifCond .ne 7, 3) := by decide +kernel
theorem d_Mo_macro_15 : decode b_Mo_macro 15 = .ok (.iconst 1, 1) := by decide +kernel
theorem d_Mo_macro_16 : decode b_Mo_macro 16 = .ok (.goto 19, 3) := by decide +kernel
theorem d_Mo_macro_19 : decode b_Mo_macro 19 = .ok (.iload_n 3, 1) := by decide +kernel
theorem d_Mo_macro_20 : decode b_Mo_macro 20 = .ok (.ifCond .eq 14, 3) := by decide +kernel
theorem d_Mo_macro_23 : decode b_Mo_macro 23 = .ok (.iload_n 3, 1) := by decide +kernel
theorem d_Mo_macro_24 : decode b_Mo_macro 24 = .ok (.invokestatic 196, 3) := by decide +kernel
theorem d_Mo_macro_27 : decode b_Mo_macro 27 = .ok (.ifCond .ne 7, 3) := by decide +kernel
theorem d_Mo_macro_30 : decode b_Mo_macro 30 = .ok (.iconst 2, 1) := by decide +kernel
theorem d_Mo_macro_31 : decode b_Mo_macro 31 = .ok (.goto 4, 3) := by decide +kernel
theorem d_Mo_macro_34 : decode b_Mo_macro 34 = .ok (.iconst 0, 1) := by decide +kernel
theorem d_Mo_macro_35 : decode b_Mo_macro 35 = .ok (.invokevirtual 88, 3) := by decide +kernel
theorem d_Mo_macro_38 : decode b_Mo_macro 38 = .ok (.ifCond .ne 14, 3) := by decide +kernel
theorem d_Mo_macro_41 : decode b_Mo_macro 41 = .ok (.aload_n 0, 1) := by decide +kernel
theorem d_Mo_macro_42 : decode b_Mo_macro 42 = .ok (.getfield 50, 3) := by decide +kernel
theorem d_Mo_macro_45 : decode b_Mo_macro 45 = .ok (.iconst 4, 1) := by decide +kernel
theorem d_Mo_macro_46 : decode b_Mo_macro 46 = .ok (.iload_n 1, 1) := by decide +kernel
theorem d_Mo_macro_47 : decode b_Mo_macro 47 = .ok (.imul, 1) := by decide +kernel
theorem d_Mo_macro_48 : decode b_Mo_macro 48 = .ok (.iload_n 2, 1) := by decide +kernel
theorem d_Mo_macro_49 : decode b_Mo_macro 49 = .ok (.iadd, 1) := by decide +kernel
theorem d_Mo_macro_50 : decode b_Mo_macro 50 = .ok (.iload_n 3, 1) := by decide +kernel
theorem d_Mo_macro_51 : decode b_Mo_macro 51 = .ok (.iastore, 1) := by decide +kernel
theorem d_Mo_macro_52 : decode b_Mo_macro 52 = .ok (.return_, 1) := by decide +kernel
theorem d_Mo_chord_0 : decode b_Mo_chord 0 = .ok (.iload_n 2, 1) := by decide +kernel
theorem d_Mo_chord_1 : decode b_Mo_chord 1 = .ok (.invokestatic 134, 3) := by decide +kernel
theorem d_Mo_chord_4 : decode b_Mo_chord 4 = .ok (.istore 4, 2) := by decide +kernel
theorem d_Mo_chord_6 : decode b_Mo_chord 6 = .ok (.iload_n 2, 1) := by decide +kernel
theorem d_Mo_chord_7 : decode b_Mo_chord 7 = .ok (.ifCond .eq 32, 3) := by decide +kernel
theorem d_Mo_chord_10 : decode b_Mo_chord 10 = .ok (.iload_n 2, 1) := by decide +kernel
theorem d_Mo_chord_11 : decode b_Mo_chord 11 = .ok (.ifCond .le 32, 3) := by decide +kernel
theorem d_Mo_chord_14 : decode b_Mo_chord 14 = .ok (.iload_n 2, 1) := by decide +kernel
theorem d_Mo_chord_15 : decode b_Mo_chord 15 = .ok (.ldc 206, 2) := by decide +kernel
theorem d_Mo_chord_17 : decode b_Mo_chord 17 = .ok (.if_icmp .ge 26, 3) := by decide +kernel
theorem d_Mo_chord_20 : decode b_Mo_chord 20 = .ok (.iload 4, 2) := by decide +kernel
theorem d_Mo_chord_22 : decode b_Mo_chord 22 = .ok (.iconst 1, 1) := by decide +kernel
theorem d_Mo_chord_23 : decode b_Mo_chord 23 = .ok (.if_icmp .le 20, 3) := by decide +kernel
theorem d_Mo_chord_26 : decode b_Mo_chord 26 = .ok (.iload 4, 2) := by decide +kernel
theorem d_Mo_chord_28 : decode b_Mo_chord 28 = .ok (.iconst 5, 1) := by decide +kernel
theorem d_Mo_chord_29 : decode b_Mo_chord 29 = .ok (.if_icmp .ge 14, 3) := by decide +kernel
theorem d_Mo_chord_32 : decode b_Mo_chord 32 = .ok (.iload_n 3, 1) := by decide +kernel
theorem d_Mo_chord_33 : decode b_Mo_chord 33 = .ok (.invokestatic 196, 3) := by decide +kernel
theorem d_Mo_chord_36 : decode b_Mo_chord 36 = .ok (.ifCond .eq 7, 3) := by decide +kernel
theorem d_Mo_chord_39 : decode b_Mo_chord 39 = .ok (.iconst 1, 1) := by decide +kernel
theorem d_Mo_chord_40 : decode b_Mo_chord 40 = .ok (.goto 4, 3) := by decide +kernel
theorem d_Mo_chord_43 : decode b_Mo_chord 43 = .ok (.iconst 0, 1) := by decide +kernel
theorem d_Mo_chord_44 : decode b_Mo_chord 44 = .ok (.istore 5, 2) := by decide +kernel
theorem d_Mo_chord_46 : decode b_Mo_chord 46 = .ok (.iconst 0, 1) := by decide +kernel
theorem d_Mo_chord_47 : decode b_Mo_chord 47 = .ok (.istore 6, 2) := by decide +kernel
theorem d_Mo_chord_49 : decode b_Mo_chord 49 = .ok (.iconst 0, 1) := by decide +kernel
theorem d_Mo_chord_50 : decode b_Mo_chord 50 = .ok (.istore 7, 2) := by decide +kernel
theorem d_Mo_chord_52 : decode b_Mo_chord 52 = .ok (.iload 7, 2) := by decide +kernel
theorem d_Mo_chord_54 : decode b_Mo_chord 54 = .ok (.iconst 4, 1) := by decide +kernel
theorem d_Mo_chord_55 : decode b_Mo_chord 55 = .ok (.if_icmp .ge 42, 3) := by decide +kernel
theorem d_Mo_chord_58 : decode b_Mo_chord 58 = .ok (.iload 6, 2) := by decide +kernel
theorem d_Mo_chord_60 : decode b_Mo_chord 60 = .ok (.ifCond .ne 24, 3) := by decide +kernel
theorem d_Mo_chord_63 : decode b_Mo_chord 63 = .ok (.iload_n 2, 1) := by decide +kernel
theorem d_Mo_chord_64 : decode b_Mo_chord 64 = .ok (.ifCond .eq 24, 3) := by decide +kernel
theorem d_Mo_chord_67 : decode b_Mo_chord 67 = .ok (.iload 7, 2) := by decide +kernel
theorem d_Mo_chord_69 : decode b_Mo_chord 69 = .ok (.iload_n 1, 1) := by decide +kernel
theorem d_Mo_chord_70 : decode b_Mo_chord 70 = .ok (.if_icmp .eq 18, 3) := by decide +kernel
theorem d_Mo_chord_73 : decode b_Mo_chord 73 = .ok (.aload_n 0, 1) := by decide +kernel
theorem d_Mo_chord_74 : decode b_Mo_chord 74 = .ok (.getfield 53, 3) := by decide +kernel
theorem d_Mo_chord_77 : decode b_Mo_chord 77 = .ok (.iload 7, 2) := by decide +kernel
theorem d_Mo_chord_79 : decode b_Mo_chord 79 = .ok (.iaload, 1) := by decide +kernel
theorem d_Mo_chord_80 : decode b_Mo_chord 80 = .ok (.iload_n 2, 1) := by decide +kernel
theorem d_Mo_chord_81 : decode b_Mo_chord 81 = .ok (.if_icmp .ne 7, 3) := by decide +kernel
theorem d_Mo_chord_84 : decode b_Mo_chord 84 = .ok (.iconst 1, 1) := by decide +kernel
theorem d_Mo_chord_85 : decode b_Mo_chord 85 = .ok (.goto 4, 3) := by decide +kernel
theorem d_Mo_chord_88 : decode b_Mo_chord 88 = .ok (.iconst 0, 1) := by decide +kernel
theorem d_Mo_chord_89 : decode b_Mo_chord 89 = .ok (.istore 6, 2) := by decide +kernel
theorem d_Mo_chord_91 : decode b_Mo_chord 91 = .ok (.iinc 7 1, 3) := by decide +kernel
theorem d_Mo_chord_94 : decode b_Mo_chord 94 = .ok (.goto (-42), 3) := by decide +kernel
theorem d_Mo_chord_97 : decode b_Mo_chord 97 = .ok (.aload_n 0, 1) := by decide +kernel
theorem d_Mo_chord_98 : decode b_Mo_chord 98 = .ok (.iload_n 1, 1) := by decide +kernel
theorem d_Mo_chord_99 : decode b_Mo_chord 99 = .ok (.invokestatic 199, 3) := by decide +kernel
theorem d_Mo_chord_102 : decode b_Mo_chord 102 = .ok (.ifCond .ne 7, 3) := by decide +kernel
theorem d_Mo_chord_105 : decode b_Mo_chord 105 = .ok (.iconst 1, 1) := by decide +kernel
theorem d_Mo_chord_106 : decode b_Mo_chord 106 = .ok (.goto 22, 3) := by decide +kernel
theorem d_Mo_chord_109 : decode b_Mo_chord 109 = .ok (.iload 5, 2) := by decide +kernel
theorem d_Mo_chord_111 : decode b_Mo_chord 111 = .ok (.ifCond .ne 7, 3) := by decide +kernel
theorem d_Mo_chord_114 : decode b_Mo_chord 114 = .ok (.iconst 2, 1) := by decide +kernel
theorem d_Mo_chord_115 : decode b_Mo_chord 115 = .ok (.goto 13, 3) := by decide +kernel
theorem d_Mo_chord_118 : decode b_Mo_chord 118 = .ok (.iload 6, 2) := by decide +kernel
theorem d_Mo_chord_120 : decode b_Mo_chord 120 = .ok (.ifCond .eq 7, 3) := by decide +kernel
theorem d_Mo_chord_123 : decode b_Mo_chord 123 = .ok (.iconst 3, 1) := by decide +kernel
theorem d_Mo_chord_124 : decode b_Mo_chord 124 = .ok (.goto 4, 3) := by decide +kernel
theorem d_Mo_chord_127 : decode b_Mo_chord 127 = .ok (.iconst 0, 1) := by decide +kernel
theorem d_Mo_chord_128 : decode b_Mo_chord 128 = .ok (.invokevirtual 88, 3) := by decide +kernel
theorem d_Mo_chord_131 : decode b_Mo_chord 131 = .ok (.ifCond .ne 17, 3) := by decide +kernel
theorem d_Mo_chord_134 : decode b_Mo_chord 134 = .ok (.aload_n 0, 1) := by decide +kernel
theorem d_Mo_chord_135 : decode b_Mo_chord 135 = .ok (.getfield 53, 3) := by decide +kernel
theorem d_Mo_chord_138 : decode b_Mo_chord 138 = .ok (.iload_n 1, 1) := by decide +kernel
theorem d_Mo_chord_139 : decode b_Mo_chord 139 = .ok (.iload_n 2, 1) := by decide +kernel
theorem d_Mo_chord_140 : decode b_Mo_chord 140 = .ok (.iastore, 1) := by decide +kernel
theorem d_Mo_chord_141 : decode b_Mo_chord 141 = .ok (.aload_n 0, 1) := by decide +kernel
theorem d_Mo_chord_142 : decode b_Mo_chord 142 = .ok (.getfield 56, 3) := by decide +kernel
theorem d_Mo_chord_145 : decode b_Mo_chord 145 = .ok (.iload_n 1, 1) := by decide +kernel
theorem d_Mo_chord_146 : decode b_Mo_chord 146 = .ok (.iload_n 3, 1) := by decide +kernel
theorem d_Mo_chord_147 : decode b_Mo_chord 147 = .ok (.iastore, 1) := by decide +kernel
theorem d_Mo_chord_148 : decode b_Mo_chord 148 = .ok (.return_, 1) := by decide +kernel
theorem d_Mo_on_0 : decode b_Mo_on 0 = .ok (.aload_n 0, 1) := by decide +kernel
theorem d_Mo_on_1 : decode b_Mo_on 1 = .ok (.iload_n 1, 1) := by decide +kernel
theorem d_Mo_on_2 : decode b_Mo_on 2 = .ok (.invokestatic 199, 3) := by decide +kernel
theorem d_Mo_on_5 : decode b_Mo_on 5 = .ok (.ifCond .eq 7, 3) := by decide +kernel
theorem d_Mo_on_8 : decode b_Mo_on 8 = .ok (.iconst 0, 1) := by decide +kernel
theorem d_Mo_on_9 : decode b_Mo_on 9 = .ok (.goto 4, 3) := by decide +kernel
theorem d_Mo_on_12 : decode b_Mo_on 12 = .ok (.iconst 1, 1) := by decide +kernel
theorem d_Mo_on_13 : decode b_Mo_on 13 = .ok (.invokevirtual 88, 3) := by decide +kernel
theorem d_Mo_on_16 : decode b_Mo_on 16 = .ok (.ifCond .ne 15, 3) := by decide +kernel
theorem d_Mo_on_19 : decode b_Mo_on 19 = .ok (.aload_n 0, 1) := by decide +kernel
theorem d_Mo_on_20 : decode b_Mo_on 20 = .ok (.iload_n 1, 1) := by decide +kernel
theorem d_Mo_on_21 : decode b_Mo_on 21 = .ok (.invokevirtual 108, 3) := by decide +kernel
theorem d_Mo_on_24 : decode b_Mo_on 24 = .ok (.ifCond .eq 7, 3) := by decide +kernel
theorem d_Mo_on_27 : decode b_Mo_on 27 = .ok (.iconst 1, 1) := by decide +kernel
theorem d_Mo_on_28 : decode b_Mo_on 28 = .ok (.goto 4, 3) := by decide +kernel
theorem d_Mo_on_31 : decode b_Mo_on 31 = .ok (.iconst 0, 1) := by decide +kernel
theorem d_Mo_on_32 : decode b_Mo_on 32 = .ok (.ireturn, 1) := by decide +kernel
theorem d_Mo_top_0 : decode b_Mo_top 0 = .ok (.aload_n 0, 1) := by decide +kernel
theorem d_Mo_top_1 : decode b_Mo_top 1 = .ok (.iload_n 1, 1) := by decide +kernel
theorem d_Mo_top_2 : decode b_Mo_top 2 = .ok (.invokestatic 84, 3) := by decide +kernel
theorem d_Mo_top_5 : decode b_Mo_top 5 = .ok (.ifCond .eq 7, 3) := by decide +kernel
theorem d_Mo_top_8 : decode b_Mo_top 8 = .ok (.iconst 0, 1) := by decide +kernel
theorem d_Mo_top_9 : decode b_Mo_top 9 = .ok (.goto 4, 3) := by decide +kernel
theorem d_Mo_top_12 : decode b_Mo_top 12 = .ok (.iconst 1, 1) := by decide +kernel
theorem d_Mo_top_13 : decode b_Mo_top 13 = .ok (.invokevirtual 88, 3) := by decide +kernel
theorem d_Mo_top_16 : decode b_Mo_top 16 = .ok (.ifCond .eq 7, 3) := by decide +kernel
theorem d_Mo_top_19 : decode b_Mo_top 19 = .ok (.iconst 0, 1) := by decide +kernel
theorem d_Mo_top_20 : decode b_Mo_top 20 = .ok (.goto 8, 3) := by decide +kernel
theorem d_Mo_top_23 : decode b_Mo_top 23 = .ok (.aload_n 0, 1) := by decide +kernel
theorem d_Mo_top_24 : decode b_Mo_top 24 = .ok (.iload_n 1, 1) := by decide +kernel
theorem d_Mo_top_25 : decode b_Mo_top 25 = .ok (.invokevirtual 176, 3) := by decide +kernel
theorem d_Mo_top_28 : decode b_Mo_top 28 = .ok (.ireturn, 1) := by decide +kernel
theorem d_Mo_key_0 : decode b_Mo_key 0 = .ok (.aload_n 0, 1) := by decide +kernel
theorem d_Mo_key_1 : decode b_Mo_key 1 = .ok (.iload_n 1, 1) := by decide +kernel
theorem d_Mo_key_2 : decode b_Mo_key 2 = .ok (.invokestatic 84, 3) := by decide +kernel
theorem d_Mo_key_5 : decode b_Mo_key 5 = .ok (.ifCond .eq 14, 3) := by decide +kernel
theorem d_Mo_key_8 : decode b_Mo_key 8 = .ok (.iload_n 2, 1) := by decide +kernel
theorem d_Mo_key_9 : decode b_Mo_key 9 = .ok (.invokestatic 199, 3) := by decide +kernel
theorem d_Mo_key_12 : decode b_Mo_key 12 = .ok (.ifCond .eq 7, 3) := by decide +kernel
theorem d_Mo_key_15 : decode b_Mo_key 15 = .ok (.iconst 0, 1) := by decide +kernel
theorem d_Mo_key_16 : decode b_Mo_key 16 = .ok (.goto 4, 3) := by decide +kernel
theorem d_Mo_key_19 : decode b_Mo_key 19 = .ok (.iconst 1, 1) := by decide +kernel
theorem d_Mo_key_20 : decode b_Mo_key 20 = .ok (.invokevirtual 88, 3) := by decide +kernel
theorem d_Mo_key_23 : decode b_Mo_key 23 = .ok (.ifCond .eq 5, 3) := by decide +kernel
theorem d_Mo_key_26 : decode b_Mo_key 26 = .ok (.iconst 0, 1) := by decide +kernel
theorem d_Mo_key_27 : decode b_Mo_key 27 = .ok (.ireturn, 1) := by decide +kernel
theorem d_Mo_key_28 : decode b_Mo_key 28 = .ok (.iload_n 2, 1) := by decide +kernel
theorem d_Mo_key_29 : decode b_Mo_key 29 = .ok (.ifCond .ne 12, 3) := by decide +kernel
theorem d_Mo_key_32 : decode b_Mo_key 32 = .ok (.aload_n 0, 1) := by decide +kernel
theorem d_Mo_key_33 : decode b_Mo_key 33 = .ok (.getfield 20, 3) := by decide +kernel
theorem d_Mo_key_36 : decode b_Mo_key 36 = .ok (.iload_n 1, 1) := by decide +kernel
theorem d_Mo_key_37 : decode b_Mo_key 37 = .ok (.baload, 1) := by decide +kernel
theorem d_Mo_key_38 : decode b_Mo_key 38 = .ok (.goto 54, 3) := by decide +kernel
theorem d_Mo_key_41 : decode b_Mo_key 41 = .ok (.iload_n 2, 1) := by decide +kernel
theorem d_Mo_key_42 : decode b_Mo_key 42 = .ok (.iconst 1, 1) := by decide +kernel
theorem d_Mo_key_43 : decode b_Mo_key 43 = .ok (.if_icmp .ne 12, 3) := by decide +kernel
theorem d_Mo_key_46 : decode b_Mo_key 46 = .ok (.aload_n 0, 1) := by decide +kernel
theorem d_Mo_key_47 : decode b_Mo_key 47 = .ok (.getfield 23, 3) := by decide +kernel
theorem d_Mo_key_50 : decode b_Mo_key 50 = .ok (.iload_n 1, 1) := by decide +kernel
theorem d_Mo_key_51 : decode b_Mo_key 51 = .ok (.baload, 1) := by decide +kernel
theorem d_Mo_key_52 : decode b_Mo_key 52 = .ok (.goto 40, 3) := by decide +kernel
theorem d_Mo_key_55 : decode b_Mo_key 55 = .ok (.iload_n 2, 1) := by decide +kernel
theorem d_Mo_key_56 : decode b_Mo_key 56 = .ok (.iconst 2, 1) := by decide +kernel
theorem d_Mo_key_57 : decode b_Mo_key 57 = .ok (.if_icmp .ne 12, 3) := by decide +kernel
theorem d_Mo_key_60 : decode b_Mo_key 60 = .ok (.aload_n 0, 1) := by decide +kernel
theorem d_Mo_key_61 : decode b_Mo_key 61 = .ok (.getfield 29, 3) := by decide +kernel
theorem d_Mo_key_64 : decode b_Mo_key 64 = .ok (.iload_n 1, 1) := by decide +kernel
theorem d_Mo_key_65 : decode b_Mo_key 65 = .ok (.baload, 1) := by decide +kernel
theorem d_Mo_key_66 : decode b_Mo_key 66 = .ok (.goto 26, 3) := by decide +kernel
theorem d_Mo_key_69 : decode b_Mo_key 69 = .ok (.aload_n 0, 1) := by decide +kernel
theorem d_Mo_key_70 : decode b_Mo_key 70 = .ok (.getfield 23, 3) := by decide +kernel
theorem d_Mo_key_73 : decode b_Mo_key 73 = .ok (.iload_n 1, 1) := by decide +kernel
theorem d_Mo_key_74 : decode b_Mo_key 74 = .ok (.baload, 1) := by decide +kernel
theorem d_Mo_key_75 : decode b_Mo_key 75 = .ok (.ifCond .eq 16, 3) := by decide +kernel
theorem d_Mo_key_78 : decode b_Mo_key 78 = .ok (.aload_n 0, 1) := by decide +kernel
theorem d_Mo_key_79 : decode b_Mo_key 79 = .ok (.getfield 29, 3) := by decide +kernel
theorem d_Mo_key_82 : decode b_Mo_key 82 = .ok (.iload_n 1, 1) := by decide +kernel
theorem d_Mo_key_83 : decode b_Mo_key 83 = .ok (.baload, 1) := by decide +kernel
theorem d_Mo_key_84 : decode b_Mo_key 84 = .ok (.ifCond .ne 7, 3) := by decide +kernel
theorem d_Mo_key_87 : decode b_Mo_key 87 = .ok (.iconst 1, 1) := by decide +kernel
theorem d_Mo_key_88 : decode b_Mo_key 88 = .ok (.goto 4, 3) := by decide +kernel
theorem d_Mo_key_91 : decode b_Mo_key 91 = .ok (.iconst 0, 1) := by decide +kernel
theorem d_Mo_key_92 : decode b_Mo_key 92 = .ok (.istore_n 3, 1) := by decide +kernel
theorem d_Mo_key_93 : decode b_Mo_key 93 = .ok (.iload_n 3, 1) := by decide +kernel
theorem d_Mo_key_94 : decode b_Mo_key 94 = .ok (.ifCond .eq 7, 3) := by decide +kernel
theorem d_Mo_key_97 : decode b_Mo_key 97 = .ok (.iconst 1, 1) := by decide +kernel
theorem d_Mo_key_98 : decode b_Mo_key 98 = .ok (.goto 4, 3) := by decide +kernel
theorem d_Mo_key_101 : decode b_Mo_key 101 = .ok (.iconst 0, 1) := by decide +kernel
theorem d_Mo_key_102 : decode b_Mo_key 102 = .ok (.ireturn, 1) := by decide +kernel
theorem d_Mo_queued_0 : decode b_Mo_queued 0 = .ok (.aload_n 0, 1) := by decide +kernel
theorem d_Mo_queued_1 : decode b_Mo_queued 1 = .ok (.iconst 0, 1) := by decide +kernel
theorem d_Mo_queued_2 : decode b_Mo_queued 2 = .ok (.putfield 80, 3) := by decide +kernel
theorem d_Mo_queued_5 : decode b_Mo_queued 5 = .ok (.aload_n 0, 1) := by decide +kernel
theorem d_Mo_queued_6 : decode b_Mo_queued 6 = .ok (.getfield 95, 3) := by decide +kernel
theorem d_Mo_queued_9 : decode b_Mo_queued 9 = .ok (.ireturn, 1) := by decide +kernel
theorem d_Mo_history_0 : decode b_Mo_history 0 = .ok (.aload_n 0, 1) := by decide +kernel
theorem d_Mo_history_1 : decode b_Mo_history 1 = .ok (.iconst 0, 1) := by decide +kernel
theorem d_Mo_history_2 : decode b_Mo_history 2 = .ok (.putfield 80, 3) := by decide +kernel
theorem d_Mo_history_5 : decode b_Mo_history 5 = .ok (.iload_n 1, 1) := by decide +kernel
theorem d_Mo_history_6 : decode b_Mo_history 6 = .ok (.ifCond .lt 17, 3) := by decide +kernel
theorem d_Mo_history_9 : decode b_Mo_history 9 = .ok (.iload_n 1, 1) := by decide +kernel
theorem d_Mo_history_10 : decode b_Mo_history 10 = .ok (.bipush 31, 2) := by decide +kernel
theorem d_Mo_history_12 : decode b_Mo_history 12 = .ok (.if_icmp .gt 11, 3) := by decide +kernel
theorem d_Mo_history_15 : decode b_Mo_history 15 = .ok (.iload_n 1, 1) := by decide +kernel
theorem d_Mo_history_16 : decode b_Mo_history 16 = .ok (.aload_n 0, 1) := by decide +kernel
theorem d_Mo_history_17 : decode b_Mo_history 17 = .ok (.getfield 101, 3) := by decide +kernel
theorem d_Mo_history_20 : decode b_Mo_history 20 = .ok (.if_icmp .lt 7, 3) := by decide +kernel
theorem d_Mo_history_23 : decode b_Mo_history 23 = .ok (.iconst (-1), 1) := by decide +kernel
theorem d_Mo_history_24 : decode b_Mo_history 24 = .ok (.goto 9, 3) := by decide +kernel
theorem d_Mo_history_27 : decode b_Mo_history 27 = .ok (.aload_n 0, 1) := by decide +kernel
theorem d_Mo_history_28 : decode b_Mo_history 28 = .ok (.getfield 38, 3) := by decide +kernel
theorem d_Mo_history_31 : decode b_Mo_history 31 = .ok (.iload_n 1, 1) := by decide +kernel
theorem d_Mo_history_32 : decode b_Mo_history 32 = .ok (.iaload, 1) := by decide +kernel
theorem d_Mo_history_33 : decode b_Mo_history 33 = .ok (.ireturn, 1) := by decide +kernel
