theorem d_Mo_init_0 : decode b_Mo_init 0 = .ok (.aload_n 0, 1) := by decide +kernel
theorem d_Mo_init_1 : decode b_Mo_init 1 = .ok (.invokespecial 1, 3) := by decide +kernel
theorem d_Mo_init_4 : decode b_Mo_init 4 = .ok (.aload_n 0, 1) := by decide +kernel
theorem d_Mo_init_5 : decode b_Mo_init 5 = .ok (.bipush 24, 2) := by decide +kernel
theorem d_Mo_init_7 : decode b_Mo_init 7 = .ok (.newarray .boolean, 2) := by decide +kernel
theorem d_Mo_init_9 : decode b_Mo_init 9 = .ok (.putfield 7, 3) := by decide +kernel
theorem d_Mo_init_12 : decode b_Mo_init 12 = .ok (.aload_n 0, 1) := by decide +kernel
theorem d_Mo_init_13 : decode b_Mo_init 13 = .ok (.bipush 24, 2) := by decide +kernel
theorem d_Mo_init_15 : decode b_Mo_init 15 = .ok (.newarray .int, 2) := by decide +kernel
theorem d_Mo_init_17 : decode b_Mo_init 17 = .ok (.putfield 13, 3) := by decide +kernel
theorem d_Mo_init_20 : decode b_Mo_init 20 = .ok (.aload_n 0, 1) := by decide +kernel
theorem d_Mo_init_21 : decode b_Mo_init 21 = .ok (.bipush 24, 2) := by decide +kernel
theorem d_Mo_init_23 : decode b_Mo_init 23 = .ok (.newarray .boolean, 2) := by decide +kernel
theorem d_Mo_init_25 : decode b_Mo_init 25 = .ok (.putfield 17, 3) := by decide +kernel
theorem d_Mo_init_28 : decode b_Mo_init 28 = .ok (.aload_n 0, 1) := by decide +kernel
theorem d_Mo_init_29 : decode b_Mo_init 29 = .ok (.bipush 24, 2) := by decide +kernel
theorem d_Mo_init_31 : decode b_Mo_init 31 = .ok (.newarray .boolean, 2) := by decide +kernel
theorem d_Mo_init_33 : decode b_Mo_init 33 = .ok (.putfield 20, 3) := by decide +kernel
theorem d_Mo_init_36 : decode b_Mo_init 36 = .ok (.aload_n 0, 1) := by decide +kernel
theorem d_Mo_init_37 : decode b_Mo_init 37 = .ok (.bipush 24, 2) := by decide +kernel
theorem d_Mo_init_39 : decode b_Mo_init 39 = .ok (.newarray .boolean, 2) := by decide +kernel
theorem d_Mo_init_41 : decode b_Mo_init 41 = .ok (.putfield 23, 3) := by decide +kernel
theorem d_Mo_init_44 : decode b_Mo_init 44 = .ok (.aload_n 0, 1) := by decide +kernel
theorem d_Mo_init_45 : decode b_Mo_init 45 = .ok (.bipush 24, 2) := by decide +kernel
theorem d_Mo_init_47 : decode b_Mo_init 47 = .ok (.newarray .int, 2) := by decide +kernel
theorem d_Mo_init_49 : decode b_Mo_init 49 = .ok (.putfield 26, 3) := by decide +kernel
theorem d_Mo_init_52 : decode b_Mo_init 52 = .ok (.aload_n 0, 1) := by decide +kernel
theorem d_Mo_init_53 : decode b_Mo_init 53 = .ok (.bipush 24, 2) := by decide +kernel
theorem d_Mo_init_55 : decode b_Mo_init 55 = .ok (.newarray .boolean, 2) := by decide +kernel
theorem d_Mo_init_57 : decode b_Mo_init 57 = .ok (.putfield 29, 3) := by decide +kernel
theorem d_Mo_init_60 : decode b_Mo_init 60 = .ok (.aload_n 0, 1) := by decide +kernel
theorem d_Mo_init_61 : decode b_Mo_init 61 = .ok (.bipush 80, 2) := by decide +kernel
theorem d_Mo_init_63 : decode b_Mo_init 63 = .ok (.newarray .int, 2) := by decide +kernel
theorem d_Mo_init_65 : decode b_Mo_init 65 = .ok (.putfield 32, 3) := by decide +kernel
theorem d_Mo_init_68 : decode b_Mo_init 68 = .ok (.aload_n 0, 1) := by decide +kernel
theorem d_Mo_init_69 : decode b_Mo_init 69 = .ok (.bipush 80, 2) := by decide +kernel
theorem d_Mo_init_71 : decode b_Mo_init 71 = .ok (.newarray .int, 2) := by decide +kernel
theorem d_Mo_init_73 : decode b_Mo_init 73 = .ok (.putfield 35, 3) := by decide +kernel
theorem d_Mo_init_76 : decode b_Mo_init 76 = .ok (.aload_n 0, 1) := by decide +kernel
theorem d_Mo_init_77 : decode b_Mo_init 77 = .ok (.bipush 32, 2) := by decide +kernel
theorem d_Mo_init_79 : decode b_Mo_init 79 = .ok (.newarray .int, 2) := by decide +kernel
theorem d_Mo_init_81 : decode b_Mo_init 81 = .ok (.putfield 38, 3) := by decide +kernel
theorem d_Mo_init_84 : decode b_Mo_init 84 = .ok (.aload_n 0, 1) := by decide +kernel
theorem d_Mo_init_85 : decode b_Mo_init 85 = .ok (.bipush 96, 2) := by decide +kernel
theorem d_Mo_init_87 : decode b_Mo_init 87 = .ok (.newarray .int, 2) := by decide +kernel
theorem d_Mo_init_89 : decode b_Mo_init 89 = .ok (.putfield 41, 3) := by decide +kernel
theorem d_Mo_init_92 : decode b_Mo_init 92 = .ok (.aload_n 0, 1) := by decide +kernel
theorem d_Mo_init_93 : decode b_Mo_init 93 = .ok (.bipush 96, 2) := by decide +kernel
theorem d_Mo_init_95 : decode b_Mo_init 95 = .ok (.newarray .int, 2) := by decide +kernel
theorem d_Mo_init_97 : decode b_Mo_init 97 = .ok (.putfield 44, 3) := by decide +kernel
theorem d_Mo_init_100 : decode b_Mo_init 100 = .ok (.aload_n 0, 1) := by decide +kernel
theorem d_Mo_init_101 : decode b_Mo_init 101 = .ok (.bipush 96, 2) := by decide +kernel
theorem d_Mo_init_103 : decode b_Mo_init 103 = .ok (.newarray .int, 2) := by decide +kernel
theorem d_Mo_init_105 : decode b_Mo_init 105 = .ok (.putfield 47, 3) := by decide +kernel
theorem d_Mo_init_108 : decode b_Mo_init 108 = .ok (.aload_n 0, 1) := by decide +kernel
theorem d_Mo_init_109 : decode b_Mo_init 109 = .ok (.bipush 16, 2) := by decide +kernel
theorem d_Mo_init_111 : decode b_Mo_init 111 = .ok (.newarray .int, 2) := by decide +kernel
theorem d_Mo_init_113 : decode b_Mo_init 113 = .ok (.putfield 50, 3) := by decide +kernel
theorem d_Mo_init_116 : decode b_Mo_init 116 = .ok (.aload_n 0, 1) := by decide +kernel
theorem d_Mo_init_117 : decode b_Mo_init 117 = .ok (.iconst 4, 1) := by decide +kernel
theorem d_Mo_init_118 : decode b_Mo_init 118 = .ok (.newarray .int, 2) := by decide +kernel
theorem d_Mo_init_120 : decode b_Mo_init 120 = .ok (.putfield 53, 3) := by decide +kernel
theorem d_Mo_init_123 : decode b_Mo_init 123 = .ok (.aload_n 0, 1) := by decide +kernel
theorem d_Mo_init_124 : decode b_Mo_init 124 = .ok (.iconst 4, 1) := by decide +kernel
theorem d_Mo_init_125 : decode b_Mo_init 125 = .ok (.newarray .int, 2) := by decide +kernel
theorem d_Mo_init_127 : decode b_Mo_init 127 = .ok (.putfield 56, 3) := by decide +kernel
theorem d_Mo_init_130 : decode b_Mo_init 130 = .ok (.aload_n 0, 1) := by decide +kernel
theorem d_Mo_init_131 : decode b_Mo_init 131 = .ok (.iconst 4, 1) := by decide +kernel
theorem d_Mo_init_132 : decode b_Mo_init 132 = .ok (.newarray .boolean, 2) := by decide +kernel
theorem d_Mo_init_134 : decode b_Mo_init 134 = .ok (.putfield 59, 3) := by decide +kernel
theorem d_Mo_init_137 : decode b_Mo_init 137 = .ok (.aload_n 0, 1) := by decide +kernel
theorem d_Mo_init_138 : decode b_Mo_init 138 = .ok (.iconst 4, 1) := by decide +kernel
theorem d_Mo_init_139 : decode b_Mo_init 139 = .ok (.newarray .boolean, 2) := by decide +kernel
theorem d_Mo_init_141 : decode b_Mo_init 141 = .ok (.putfield 62, 3) := by decide +kernel
theorem d_Mo_init_144 : decode b_Mo_init 144 = .ok (.aload_n 0, 1) := by decide +kernel
theorem d_Mo_init_145 : decode b_Mo_init 145 = .ok (.bipush 24, 2) := by decide +kernel
theorem d_Mo_init_147 : decode b_Mo_init 147 = .ok (.newarray .int, 2) := by decide +kernel
theorem d_Mo_init_149 : decode b_Mo_init 149 = .ok (.putfield 65, 3) := by decide +kernel
theorem d_Mo_init_152 : decode b_Mo_init 152 = .ok (.aload_n 0, 1) := by decide +kernel
theorem d_Mo_init_153 : decode b_Mo_init 153 = .ok (.bipush 24, 2) := by decide +kernel
theorem d_Mo_init_155 : decode b_Mo_init 155 = .ok (.newarray .int, 2) := by decide +kernel
theorem d_Mo_init_157 : decode b_Mo_init 157 = .ok (.putfield 68, 3) := by decide +kernel
theorem d_Mo_init_160 : decode b_Mo_init 160 = .ok (.aload_n 0, 1) := by decide +kernel
theorem d_Mo_init_161 : decode b_Mo_init 161 = .ok (.bipush 24, 2) := by decide +kernel
theorem d_Mo_init_163 : decode b_Mo_init 163 = .ok (.newarray .int, 2) := by decide +kernel
theorem d_Mo_init_165 : decode b_Mo_init 165 = .ok (.putfield 71, 3) := by decide +kernel
theorem d_Mo_init_168 : decode b_Mo_init 168 = .ok (.aload_n 0, 1) := by decide +kernel
theorem d_Mo_init_169 : decode b_Mo_init 169 = .ok (.bipush 108, 2) := by decide +kernel
theorem d_Mo_init_171 : decode b_Mo_init 171 = .ok (.newarray .int, 2) := by decide +kernel
theorem d_Mo_init_173 : decode b_Mo_init 173 = .ok (.putfield 74, 3) := by decide +kernel
theorem d_Mo_init_176 : decode b_Mo_init 176 = .ok (.aload_n 0, 1) := by decide +kernel
theorem d_Mo_init_177 : decode b_Mo_init 177 = .ok (.bipush 77, 2) := by decide +kernel
theorem d_Mo_init_179 : decode b_Mo_init 179 = .ok (.newarray .int, 2) := by decide +kernel
theorem d_Mo_init_181 : decode b_Mo_init 181 = .ok (.putfield 77, 3) := by decide +kernel
theorem d_Mo_init_184 : decode b_Mo_init 184 = .ok (.return_, 1) := by decide +kernel
theorem d_Mo_thrown_0 : decode b_Mo_thrown 0 = .ok (.aload_n 0, 1) := by decide +kernel
theorem d_Mo_thrown_1 : decode b_Mo_thrown 1 = .ok (.getfield 80, 3) := by decide +kernel
theorem d_Mo_thrown_4 : decode b_Mo_thrown 4 = .ok (.ireturn, 1) := by decide +kernel
theorem d_Mo_refused_0 : decode b_Mo_refused 0 = .ok (.aload_n 0, 1) := by decide +kernel
theorem d_Mo_refused_1 : decode b_Mo_refused 1 = .ok (.iload_n 1, 1) := by decide +kernel
theorem d_Mo_refused_2 : decode b_Mo_refused 2 = .ok (.putfield 80, 3) := by decide +kernel
theorem d_Mo_refused_5 : decode b_Mo_refused 5 = .ok (.iload_n 1, 1) := by decide +kernel
theorem d_Mo_refused_6 : decode b_Mo_refused 6 = .ok (.ifCond .le 7, 3) := by decide +kernel
theorem d_Mo_refused_9 : decode b_Mo_refused 9 = .ok (.iconst 1, 1) := by decide +kernel
theorem d_Mo_refused_10 : decode b_Mo_refused 10 = .ok (.goto 4, 3) := by decide +kernel
theorem d_Mo_refused_13 : decode b_Mo_refused 13 = .ok (.iconst 0, 1) := by decide +kernel
theorem d_Mo_refused_14 : decode b_Mo_refused 14 = .ok (.ireturn, 1) := by decide +kernel
theorem d_Mo_isKey_0 : decode b_Mo_isKey 0 = .ok (.iload_n 0, 1) := by decide +kernel
theorem d_Mo_isKey_1 : decode b_Mo_isKey 1 = .ok (.ifCond .lt 13, 3) := by decide +kernel
theorem d_Mo_isKey_4 : decode b_Mo_isKey 4 = .ok (.iload_n 0, 1) := by decide +kernel
theorem d_Mo_isKey_5 : decode b_Mo_isKey 5 = .ok (.bipush 24, 2) := by decide +kernel
theorem d_Mo_isKey_7 : decode b_Mo_isKey 7 = .ok (.if_icmp .ge 7, 3) := by decide +kernel
theorem d_Mo_isKey_10 : decode b_Mo_isKey 10 = .ok (.iconst 1, 1) := by decide +kernel
theorem d_Mo_isKey_11 : decode b_Mo_isKey 11 = .ok (.goto 4, 3) := by decide +kernel
theorem d_Mo_isKey_14 : decode b_Mo_isKey 14 = .ok (.iconst 0, 1) := by decide +kernel
theorem d_Mo_isKey_15 : decode b_Mo_isKey 15 = .ok (.ireturn, 1) := by decide +kernel
theorem d_Mo_isFour_0 : decode b_Mo_isFour 0 = .ok (.iload_n 0, 1) := by decide +kernel
theorem d_Mo_isFour_1 : decode b_Mo_isFour 1 = .ok (.ifCond .lt 12, 3) := by decide +kernel
theorem d_Mo_isFour_4 : decode b_Mo_isFour 4 = .ok (.iload_n 0, 1) := by decide +kernel
theorem d_Mo_isFour_5 : decode b_Mo_isFour 5 = .ok (.iconst 4, 1) := by decide +kernel
theorem d_Mo_isFour_6 : decode b_Mo_isFour 6 = .ok (.if_icmp .ge 7, 3) := by decide +kernel
theorem d_Mo_isFour_9 : decode b_Mo_isFour 9 = .ok (.iconst 1, 1) := by decide +kernel
theorem d_Mo_isFour_10 : decode b_Mo_isFour 10 = .ok (.goto 4, 3) := by decide +kernel
theorem d_Mo_isFour_13 : decode b_Mo_isFour 13 = .ok (.iconst 0, 1) := by decide +kernel
theorem d_Mo_isFour_14 : decode b_Mo_isFour 14 = .ok (.ireturn, 1) := by decide +kernel
theorem d_Mo_isCode_0 : decode b_Mo_isCode 0 = .ok (.iload_n 0, 1) := by decide +kernel
theorem d_Mo_isCode_1 : decode b_Mo_isCode 1 = .ok (.iconst 4, 1) := by decide +kernel
theorem d_Mo_isCode_2 : decode b_Mo_isCode 2 = .ok (.if_icmp .lt 13, 3) := by decide +kernel
theorem d_Mo_isCode_5 : decode b_Mo_isCode 5 = .ok (.iload_n 0, 1) := by decide +kernel
theorem d_Mo_isCode_6 : decode b_Mo_isCode 6 = .ok (.bipush 107, 2) := by decide +kernel
theorem d_Mo_isCode_8 : decode b_Mo_isCode 8 = .ok (.if_icmp .gt 7, 3) := by decide +kernel
theorem d_Mo_isCode_11 : decode b_Mo_isCode 11 = .ok (.iconst 1, 1) := by decide +kernel
theorem d_Mo_isCode_12 : decode b_Mo_isCode 12 = .ok (.goto 4, 3) := by decide +kernel
theorem d_Mo_isCode_15 : decode b_Mo_isCode 15 = .ok (.iconst 0, 1) := by decide +kernel
theorem d_Mo_isCode_16 : decode b_Mo_isCode 16 = .ok (.ireturn, 1) := by decide +kernel
theorem d_Mo_wire_0 : decode b_Mo_wire 0 = .ok (.aload_n 0, 1) := by decide +kernel
theorem d_Mo_wire_1 : decode b_Mo_wire 1 = .ok (.iload_n 1, 1) := by decide +kernel
theorem d_Mo_wire_2 : decode b_Mo_wire 2 = .ok (.invokestatic 84, 3) := by decide +kernel
theorem d_Mo_wire_5 : decode b_Mo_wire 5 = .ok (.ifCond .eq 7, 3) := by decide +kernel
theorem d_Mo_wire_8 : decode b_Mo_wire 8 = .ok (.iconst 0, 1) := by decide +kernel
theorem d_Mo_wire_9 : decode b_Mo_wire 9 = .ok (.goto 4, 3) := by decide +kernel
theorem d_Mo_wire_12 : decode b_Mo_wire 12 = .ok (.iconst 1, 1) := by decide +kernel
theorem d_Mo_wire_13 : decode b_Mo_wire 13 = .ok (.invokevirtual 88, 3) := by decide +kernel
theorem d_Mo_wire_16 : decode b_Mo_wire 16 = .ok (.ifCond .ne 10, 3) := by decide +kernel
theorem d_Mo_wire_19 : decode b_Mo_wire 19 = .ok (.aload_n 0, 1) := by decide +kernel
theorem d_Mo_wire_20 : decode b_Mo_wire 20 = .ok (.getfield 7, 3) := by decide +kernel
theorem d_Mo_wire_23 : decode b_Mo_wire 23 = .ok (.iload_n 1, 1) := by decide +kernel
theorem d_Mo_wire_24 : decode b_Mo_wire 24 = .ok (.iload_n 2, 1) := by decide +kernel
theorem d_Mo_wire_25 : decode b_Mo_wire 25 = .ok (.bastore, 1) := by decide +kernel
theorem d_Mo_wire_26 : decode b_Mo_wire 26 = .ok (.return_, 1) := by decide +kernel
theorem d_Mo_bounce_0 : decode b_Mo_bounce 0 = .ok (.aload_n 0, 1) := by decide +kernel
theorem d_Mo_bounce_1 : decode b_Mo_bounce 1 = .ok (.iload_n 1, 1) := by decide +kernel
theorem d_Mo_bounce_2 : decode b_Mo_bounce 2 = .ok (.invokestatic 84, 3) := by decide +kernel
theorem d_Mo_bounce_5 : decode b_Mo_bounce 5 = .ok (.ifCond .ne 7, 3) := by decide +kernel
theorem d_Mo_bounce_8 : decode b_Mo_bounce 8 = .ok (.iconst 1, 1) := by decide +kernel
theorem d_Mo_bounce_9 : decode b_Mo_bounce 9 = .ok (.goto 19, 3) := by decide +kernel
theorem d_Mo_bounce_12 : decode b_Mo_bounce 12 = .ok (.iload_n 2, 1) := by decide +kernel
theorem d_Mo_bounce_13 : decode b_Mo_bounce 13 = .ok (.ifCond .lt 10, 3) := by decide +kernel
theorem d_Mo_bounce_16 : decode b_Mo_bounce 16 = .ok (.iload_n 2, 1) := by decide +kernel
theorem d_Mo_bounce_17 : decode b_Mo_bounce 17 = .ok (.sipush 255, 3) := by decide +kernel
theorem d_Mo_bounce_20 : decode b_Mo_bounce 20 = .ok (.if_icmp .le 7, 3) := by decide +kernel
theorem d_Mo_bounce_23 : decode b_Mo_bounce 23 = .ok (.iconst 2, 1) := by decide +kernel
theorem d_Mo_bounce_24 : decode b_Mo_bounce 24 = .ok (.goto 4, 3) := by decide +kernel
theorem d_Mo_bounce_27 : decode b_Mo_bounce 27 = .ok (.iconst 0, 1) := by decide +kernel
theorem d_Mo_bounce_28 : decode b_Mo_bounce 28 = .ok (.invokevirtual 88, 3) := by decide +kernel
theorem d_Mo_bounce_31 : decode b_Mo_bounce 31 = .ok (.ifCond .ne 10, 3) := by decide +kernel
theorem d_Mo_bounce_34 : decode b_Mo_bounce 34 = .ok (.aload_n 0, 1) := by decide +kernel
theorem d_Mo_bounce_35 : decode b_Mo_bounce 35 = .ok (.getfield 13, 3) := by decide +kernel
theorem d_Mo_bounce_38 : decode b_Mo_bounce 38 = .ok (.iload_n 1, 1) := by decide +kernel
theorem d_Mo_bounce_39 : decode b_Mo_bounce 39 = .ok (.iload_n 2, 1) := by decide +kernel
theorem d_Mo_bounce_40 : decode b_Mo_bounce 40 = .ok (.iastore, 1) := by decide +kernel
theorem d_Mo_bounce_41 : decode b_Mo_bounce 41 = .ok (.return_, 1) := by decide +kernel
theorem d_Mo_hasCorners_0 : decode b_Mo_hasCorners 0 = .ok (.iload_n 1, 1) := by decide +kernel
theorem d_Mo_hasCorners_1 : decode b_Mo_hasCorners 1 = .ok (.bipush 6, 2) := by decide +kernel
theorem d_Mo_hasCorners_3 : decode b_Mo_hasCorners 3 = .ok (.idiv, 1) := by decide +kernel
theorem d_Mo_hasCorners_4 : decode b_Mo_hasCorners 4 = .ok (.istore_n 3, 1) := by decide +kernel
theorem d_Mo_hasCorners_5 : decode b_Mo_hasCorners 5 = .ok (.iload_n 1, 1) := by decide +kernel
theorem d_Mo_hasCorners_6 : decode b_Mo_hasCorners 6 = .ok (.bipush 6, 2) := by decide +kernel
theorem d_Mo_hasCorners_8 : decode b_Mo_hasCorners 8 = .ok (.irem, 1) := by decide +kernel
theorem d_Mo_hasCorners_9 : decode b_Mo_hasCorners 9 = .ok (.istore 4, 2) := by decide +kernel
theorem d_Mo_hasCorners_11 : decode b_Mo_hasCorners 11 = .ok (.iconst 0, 1) := by decide +kernel
theorem d_Mo_hasCorners_12 : decode b_Mo_hasCorners 12 = .ok (.istore 5, 2) := by decide +kernel
theorem d_Mo_hasCorners_14 : decode b_Mo_hasCorners 14 = .ok (.iconst 0, 1) := by decide +kernel
theorem d_Mo_hasCorners_15 : decode b_Mo_hasCorners 15 = .ok (.istore 6, 2) := by decide +kernel
theorem d_Mo_hasCorners_17 : decode b_Mo_hasCorners 17 = .ok (.iload 6, 2) := by decide +kernel
theorem d_Mo_hasCorners_19 : decode b_Mo_hasCorners 19 = .ok (.iconst 4, 1) := by decide +kernel
theorem d_Mo_hasCorners_20 : decode b_Mo_hasCorners 20 = .ok (.if_icmp .ge 163, 3) := by decide +kernel
theorem d_Mo_hasCorners_23 : decode b_Mo_hasCorners 23 = .ok (.iconst 0, 1) := by decide +kernel
theorem d_Mo_hasCorners_24 : decode b_Mo_hasCorners 24 = .ok (.istore 7, 2) := by decide +kernel
theorem d_Mo_hasCorners_26 : decode b_Mo_hasCorners 26 = .ok (.iload 7, 2) := by decide +kernel
theorem d_Mo_hasCorners_28 : decode b_Mo_hasCorners 28 = .ok (.bipush 6, 2) := by decide +kernel
theorem d_Mo_hasCorners_30 : decode b_Mo_hasCorners 30 = .ok (.if_icmp .ge 147, 3) := by decide +kernel
theorem d_Mo_hasCorners_33 : decode b_Mo_hasCorners 33 = .ok (.bipush 6, 2) := by decide +kernel
theorem d_Mo_hasCorners_35 : decode b_Mo_hasCorners 35 = .ok (.iload_n 3, 1) := by decide +kernel
theorem d_Mo_hasCorners_36 : decode b_Mo_hasCorners 36 = .ok (.imul, 1) := by decide +kernel
theorem d_Mo_hasCorners_37 : decode b_Mo_hasCorners 37 = .ok (.iload 7, 2) := by decide +kernel
theorem d_Mo_hasCorners_39 : decode b_Mo_hasCorners 39 = .ok (.iadd, 1) := by decide +kernel
theorem d_Mo_hasCorners_40 : decode b_Mo_hasCorners 40 = .ok (.istore 8, 2) := by decide +kernel
theorem d_Mo_hasCorners_42 : decode b_Mo_hasCorners 42 = .ok (.bipush 6, 2) := by decide +kernel
theorem d_Mo_hasCorners_44 : decode b_Mo_hasCorners 44 = .ok (.iload 6, 2) := by decide +kernel
theorem d_Mo_hasCorners_46 : decode b_Mo_hasCorners 46 = .ok (.imul, 1) := by decide +kernel
theorem d_Mo_hasCorners_47 : decode b_Mo_hasCorners 47 = .ok (.iload 4, 2) := by decide +kernel
theorem d_Mo_hasCorners_49 : decode b_Mo_hasCorners 49 = .ok (.iadd, 1) := by decide +kernel
theorem d_Mo_hasCorners_50 : decode b_Mo_hasCorners 50 = .ok (.istore 9, 2) := by decide +kernel
theorem d_Mo_hasCorners_52 : decode b_Mo_hasCorners 52 = .ok (.bipush 6, 2) := by decide +kernel
theorem d_Mo_hasCorners_54 : decode b_Mo_hasCorners 54 = .ok (.iload 6, 2) := by decide +kernel
theorem d_Mo_hasCorners_56 : decode b_Mo_hasCorners 56 = .ok (.imul, 1) := by decide +kernel
theorem d_Mo_hasCorners_57 : decode b_Mo_hasCorners 57 = .ok (.iload 7, 2) := by decide +kernel
theorem d_Mo_hasCorners_59 : decode b_Mo_hasCorners 59 = .ok (.iadd, 1) := by decide +kernel
theorem d_Mo_hasCorners_60 : decode b_Mo_hasCorners 60 = .ok (.istore 10, 2) := by decide +kernel
theorem d_Mo_hasCorners_62 : decode b_Mo_hasCorners 62 = .ok (.iload_n 2, 1) := by decide +kernel
theorem d_Mo_hasCorners_63 : decode b_Mo_hasCorners 63 = .ok (.ifCond .eq 41, 3) := by decide +kernel
theorem d_Mo_hasCorners_66 : decode b_Mo_hasCorners 66 = .ok (.aload_n 0, 1) := by decide +kernel
theorem d_Mo_hasCorners_67 : decode b_Mo_hasCorners 67 = .ok (.getfield 23, 3) := by decide +kernel
theorem d_Mo_hasCorners_70 : decode b_Mo_hasCorners 70 = .ok (.iload 8, 2) := by decide +kernel
theorem d_Mo_hasCorners_72 : decode b_Mo_hasCorners 72 = .ok (.baload, 1) := by decide +kernel
theorem d_Mo_hasCorners_73 : decode b_Mo_hasCorners 73 = .ok (.ifCond .eq 27, 3) := by decide +kernel
theorem d_Mo_hasCorners_76 : decode b_Mo_hasCorners 76 = .ok (.aload_n 0, 1) := by decide +kernel
theorem d_Mo_hasCorners_77 : decode b_Mo_hasCorners 77 = .ok (.getfield 23, 3) := by decide +kernel
theorem d_Mo_hasCorners_80 : decode b_Mo_hasCorners 80 = .ok (.iload 9, 2) := by decide +kernel
theorem d_Mo_hasCorners_82 : decode b_Mo_hasCorners 82 = .ok (.baload, 1) := by decide +kernel
theorem d_Mo_hasCorners_83 : decode b_Mo_hasCorners 83 = .ok (.ifCond .eq 17, 3) := by decide +kernel
theorem d_Mo_hasCorners_86 : decode b_Mo_hasCorners 86 = .ok (.aload_n 0, 1) := by decide +kernel
theorem d_Mo_hasCorners_87 : decode b_Mo_hasCorners 87 = .ok (.getfield 23, 3) := by decide +kernel
theorem d_Mo_hasCorners_90 : decode b_Mo_hasCorners 90 = .ok (.iload 10, 2) := by decide +kernel
theorem d_Mo_hasCorners_92 : decode b_Mo_hasCorners 92 = .ok (.baload, 1) := by decide +kernel
theorem d_Mo_hasCorners_93 : decode b_Mo_hasCorners 93 = .ok (.ifCond .eq 7, 3) := by decide +kernel
theorem d_Mo_hasCorners_96 : decode b_Mo_hasCorners 96 = .ok (.iconst 1, 1) := by decide +kernel
theorem d_Mo_hasCorners_97 : decode b_Mo_hasCorners 97 = .ok (.goto 42, 3) := by decide +kernel
theorem d_Mo_hasCorners_100 : decode b_Mo_hasCorners 100 = .ok (.iconst 0, 1) := by decide +kernel
theorem d_Mo_hasCorners_101 : decode b_Mo_hasCorners 101 = .ok (.goto 38, 3) := by decide +kernel
theorem d_Mo_hasCorners_104 : decode b_Mo_hasCorners 104 = .ok (.aload_n 0, 1) := by decide +kernel
theorem d_Mo_hasCorners_105 : decode b_Mo_hasCorners 105 = .ok (.getfield 17, 3) := by decide +kernel
theorem d_Mo_hasCorners_108 : decode b_Mo_hasCorners 108 = .ok (.iload 8, 2) := by decide +kernel
theorem d_Mo_hasCorners_110 : decode b_Mo_hasCorners 110 = .ok (.baload, 1) := by decide +kernel
theorem d_Mo_hasCorners_111 : decode b_Mo_hasCorners 111 = .ok (.ifCond .eq 27, 3) := by decide +kernel
theorem d_Mo_hasCorners_114 : decode b_Mo_hasCorners 114 = .ok (.aload_n 0, 1) := by decide +kernel
theorem d_Mo_hasCorners_115 : decode b_Mo_hasCorners 115 = .ok (.getfield 17, 3) := by decide +kernel
theorem d_Mo_hasCorners_118 : decode b_Mo_hasCorners 118 = .ok (.iload 9, 2) := by decide +kernel
theorem d_Mo_hasCorners_120 : decode b_Mo_hasCorners 120 = .ok (.baload, 1) := by decide +kernel
theorem d_Mo_hasCorners_121 : decode b_Mo_hasCorners 121 = .ok (.ifCond .eq 17, 3) := by decide +kernel
theorem d_Mo_hasCorners_124 : decode b_Mo_hasCorners 124 = .ok (.aload_n 0, 1) := by decide +kernel
theorem d_Mo_hasCorners_125 : decode b_Mo_hasCorners 125 = .ok (.getfield 17, 3) := by decide +kernel
theorem d_Mo_hasCorners_128 : decode b_Mo_hasCorners 128 = .ok (.iload 10, 2) := by decide +kernel
theorem d_Mo_hasCorners_130 : decode b_Mo_hasCorners 130 = .ok (.baload, 1) := by decide +kernel
theorem d_Mo_hasCorners_131 : decode b_Mo_hasCorners 131 = .ok (.ifCond .eq 7, 3) := by decide +kernel
theorem d_Mo_hasCorners_134 : decode b_Mo_hasCorners 134 = .ok (.iconst 1, 1) := by decide +kernel
theorem d_Mo_hasCorners_135 : decode b_Mo_hasCorners 135 = .ok (.goto 4, 3) := by decide +kernel
theorem d_Mo_hasCorners_138 : decode b_Mo_hasCorners 138 = .ok (.iconst 0, 1) := by decide +kernel
theorem d_Mo_hasCorners_139 : decode b_Mo_hasCorners 139 = .ok (.istore 11, 2) := by decide +kernel
theorem d_Mo_hasCorners_141 : decode b_Mo_hasCorners 141 = .ok (.iload 5, 2) := by decide +kernel
theorem d_Mo_hasCorners_143 : decode b_Mo_hasCorners 143 = .ok (.ifCond .ne 21, 3) := by decide +kernel
theorem d_Mo_hasCorners_146 : decode b_Mo_hasCorners 146 = .ok (.iload 6, 2) := by decide +kernel
theorem d_Mo_hasCorners_148 : decode b_Mo_hasCorners 148 = .ok (.iload_n 3, 1) := by decide +kernel
theorem d_Mo_hasCorners_149 : decode b_Mo_hasCorners 149 = .ok (.if_icmp .eq 19, 3) := by decide +kernel
theorem d_Mo_hasCorners_152 : decode b_Mo_hasCorners 152 = .ok (.iload 7, 2) := by decide +kernel
theorem d_Mo_hasCorners_154 : decode b_Mo_hasCorners 154 = .ok (.iload 4, 2) := by decide +kernel
theorem d_Mo_hasCorners_156 : decode b_Mo_hasCorners 156 = .ok (.if_icmp .eq 12, 3) := by decide +kernel
theorem d_Mo_hasCorners_159 : decode b_Mo_hasCorners 159 = .ok (.iload 11, 2) := by decide +kernel
theorem d_Mo_hasCorners_161 : decode b_Mo_hasCorners 161 = .ok (.ifCond .eq 7, 3) := by decide +kernel
theorem d_Mo_hasCorners_164 : decode b_Mo_hasCorners 164 = .ok (.iconst 1, 1) := by decide +kernel
theorem d_Mo_hasCorners_165 : decode b_Mo_hasCorners 165 = .ok (.goto 4, 3) := by decide +kernel
theorem d_Mo_hasCorners_168 : decode b_Mo_hasCorners 168 = .ok (.iconst 0, 1) := by decide +kernel
theorem d_Mo_hasCorners_169 : decode b_Mo_hasCorners 169 = .ok (.istore 5, 2) := by decide +kernel
theorem d_Mo_hasCorners_171 : decode b_Mo_hasCorners 171 = .ok (.iinc 7 1, 3) := by decide +kernel
theorem d_Mo_hasCorners_174 : decode b_Mo_hasCorners 174 = .ok (.goto (-148), 3) := by decide +kernel
theorem d_Mo_hasCorners_177 : decode b_Mo_hasCorners 177 = .ok (.iinc 6 1, 3) := by decide +kernel
theorem d_Mo_hasCorners_180 : decode b_Mo_hasCorners 180 = .ok (.goto (-163), 3) := by decide +kernel
theorem d_Mo_hasCorners_183 : decode b_Mo_hasCorners 183 = .ok (.iload 5, 2) := by decide +kernel
theorem d_Mo_hasCorners_185 : decode b_Mo_hasCorners 185 = .ok (.ireturn, 1) := by decide +kernel
theorem d_Mo_look_0 : decode b_Mo_look 0 = .ok (.iconst 0, 1) := by decide +kernel
theorem d_Mo_look_1 : decode b_Mo_look 1 = .ok (.istore_n 1, 1) := by decide +kernel
theorem d_Mo_look_2 : decode b_Mo_look 2 = .ok (.iload_n 1, 1) := by decide +kernel
theorem d_Mo_look_3 : decode b_Mo_look 3 = .ok (.bipush 24, 2) := by decide +kernel
theorem d_Mo_look_5 : decode b_Mo_look 5 = .ok (.if_icmp .ge 60, 3) := by decide +kernel
theorem d_Mo_look_8 : decode b_Mo_look 8 = .ok (.aload_n 0, 1) := by decide +kernel
theorem d_Mo_look_9 : decode b_Mo_look 9 = .ok (.getfield 17, 3) := by decide +kernel
theorem d_Mo_look_12 : decode b_Mo_look 12 = .ok (.iload_n 1, 1) := by decide +kernel
theorem d_Mo_look_13 : decode b_Mo_look 13 = .ok (.aload_n 0, 1) := by decide +kernel
theorem d_Mo_look_14 : decode b_Mo_look 14 = .ok (.getfield 7, 3) := by decide +kernel
theorem d_Mo_look_17 : decode b_Mo_look 17 = .ok (.iload_n 1, 1) := by decide +kernel
theorem d_Mo_look_18 : decode b_Mo_look 18 = .ok (.baload, 1) := by decide +kernel
theorem d_Mo_look_19 : decode b_Mo_look 19 = .ok (.aload_n 0, 1) := by decide +kernel
theorem d_Mo_look_20 : decode b_Mo_look 20 = .ok (.getfield 13, 3) := by decide +kernel
theorem d_Mo_look_23 : decode b_Mo_look 23 = .ok (.iload_n 1, 1) := by decide +kernel
theorem d_Mo_look_24 : decode b_Mo_look 24 = .ok (.iaload, 1) := by decide +kernel
theorem d_Mo_look_25 : decode b_Mo_look 25 = .ok (.iconst 1, 1) := by decide +kernel
theorem d_Mo_look_26 : decode b_Mo_look 26 = .ok (.iand, 1) := by decide +kernel
theorem d_Mo_look_27 : decode b_Mo_look 27 = .ok (.iconst 1, 1) := by decide +kernel
theorem d_Mo_look_28 : decode b_Mo_look 28 = .ok (.if_icmp .ne 7, 3) := by decide +kernel
theorem d_Mo_look_31 : decode b_Mo_look 31 = .ok (.iconst 1, 1) := by decide +kernel
theorem d_Mo_look_32 : decode b_Mo_look 32 = .ok (.goto 4, 3) := by decide +kernel
theorem d_Mo_look_35 : decode b_Mo_look 35 = .ok (.iconst 0, 1) := by decide +kernel
theorem d_Mo_look_36 : decode b_Mo_look 36 = .ok (.if_icmp .eq 7, 3) := by decide +kernel
theorem d_Mo_look_39 : decode b_Mo_look 39 = .ok (.iconst 1, 1) := by decide +kernel
theorem d_Mo_look_40 : decode b_Mo_look 40 = .ok (.goto 4, 3) := by decide +kernel
theorem d_Mo_look_43 : decode b_Mo_look 43 = .ok (.iconst 0, 1) := by decide +kernel
theorem d_Mo_look_44 : decode b_Mo_look 44 = .ok (.bastore, 1) := by decide +kernel
theorem d_Mo_look_45 : decode b_Mo_look 45 = .ok (.aload_n 0, 1) := by decide +kernel
theorem d_Mo_look_46 : decode b_Mo_look 46 = .ok (.getfield 13, 3) := by decide +kernel
theorem d_Mo_look_49 : decode b_Mo_look 49 = .ok (.iload_n 1, 1) := by decide +kernel
theorem d_Mo_look_50 : decode b_Mo_look 50 = .ok (.aload_n 0, 1) := by decide +kernel
theorem d_Mo_look_51 : decode b_Mo_look 51 = .ok (.getfield 13, 3) := by decide +kernel
theorem d_Mo_look_54 : decode b_Mo_look 54 = .ok (.iload_n 1, 1) := by decide +kernel
theorem d_Mo_look_55 : decode b_Mo_look 55 = .ok (.iaload, 1) := by decide +kernel
theorem d_Mo_look_56 : decode b_Mo_look 56 = .ok (.iconst 1, 1) := by decide +kernel
theorem d_Mo_look_57 : decode b_Mo_look 57 = .ok (.ishr, 1) := by decide +kernel
theorem d_Mo_look_58 : decode b_Mo_look 58 = .ok (.iastore, 1) := by decide +kernel
theorem d_Mo_look_59 : decode b_Mo_look 59 = .ok (.iinc 1 1, 3) := by decide +kernel
theorem d_Mo_look_62 : decode b_Mo_look 62 = .ok (.goto (-60), 3) := by decide +kernel
theorem d_Mo_look_65 : decode b_Mo_look 65 = .ok (.iconst 0, 1) := by decide +kernel
theorem d_Mo_look_66 : decode b_Mo_look 66 = .ok (.istore_n 1, 1) := by decide +kernel
theorem d_Mo_look_67 : decode b_Mo_look 67 = .ok (.iload_n 1, 1) := by decide +kernel
theorem d_Mo_look_68 : decode b_Mo_look 68 = .ok (.bipush 24, 2) := by decide +kernel
theorem d_Mo_look_70 : decode b_Mo_look 70 = .ok (.if_icmp .ge 71, 3) := by decide +kernel
theorem d_Mo_look_73 : decode b_Mo_look 73 = .ok (.aload_n 0, 1) := by decide +kernel
theorem d_Mo_look_74 : decode b_Mo_look 74 = .ok (.getfield 20, 3) := by decide +kernel
theorem d_Mo_look_77 : decode b_Mo_look 77 = .ok (.iload_n 1, 1) := by decide +kernel
theorem d_Mo_look_78 : decode b_Mo_look 78 = .ok (.aload_n 0, 1) := by decide +kernel
theorem d_Mo_look_79 : decode b_Mo_look 79 = .ok (.getfield 17, 3) := by decide +kernel
theorem d_Mo_look_82 : decode b_Mo_look 82 = .ok (.iload_n 1, 1) := by decide +kernel
theorem d_Mo_look_83 : decode b_Mo_look 83 = .ok (.baload, 1) := by decide +kernel
theorem d_Mo_look_84 : decode b_Mo_look 84 = .ok (.ifCond .ne 12, 3) := by decide +kernel
theorem d_Mo_look_87 : decode b_Mo_look 87 = .ok (.aload_n 0, 1) := by decide +kernel
theorem d_Mo_look_88 : decode b_Mo_look 88 = .ok (.iload_n 1, 1) := by decide +kernel
theorem d_Mo_look_89 : decode b_Mo_look 89 = .ok (.iconst 0, 1) := by decide +kernel
theorem d_Mo_look_90 : decode b_Mo_look 90 = .ok (.invokevirtual 91, 3) := by decide +kernel
theorem d_Mo_look_93 : decode b_Mo_look 93 = .ok (.ifCond .eq 7, 3) := by decide +kernel
theorem d_Mo_look_96 : decode b_Mo_look 96 = .ok (.iconst 1, 1) := by decide +kernel
theorem d_Mo_look_97 : decode b_Mo_look 97 = .ok (.goto 4, 3) := by decide +kernel
theorem d_Mo_look_100 : decode b_Mo_look 100 = .ok (.iconst 0, 1) := by decide +kernel
theorem d_Mo_look_101 : decode b_Mo_look 101 = .ok (.bastore, 1) := by decide +kernel
theorem d_Mo_look_102 : decode b_Mo_look 102 = .ok (.aload_n 0, 1) := by decide +kernel
theorem d_Mo_look_103 : decode b_Mo_look 103 = .ok (.getfield 26, 3) := by decide +kernel
theorem d_Mo_look_106 : decode b_Mo_look 106 = .ok (.iload_n 1, 1) := by decide +kernel
theorem d_Mo_look_107 : decode b_Mo_look 107 = .ok (.aload_n 0, 1) := by decide +kernel
theorem d_Mo_look_108 : decode b_Mo_look 108 = .ok (.getfield 20, 3) := by decide +kernel
theorem d_Mo_look_111 : decode b_Mo_look 111 = .ok (.iload_n 1, 1) := by decide +kernel
theorem d_Mo_look_112 : decode b_Mo_look 112 = .ok (.baload, 1) := by decide +kernel
theorem d_Mo_look_113 : decode b_Mo_look 113 = .ok (.aload_n 0, 1) := by decide +kernel
theorem d_Mo_look_114 : decode b_Mo_look 114 = .ok (.getfield 23, 3) := by decide +kernel
theorem d_Mo_look_117 : decode b_Mo_look 117 = .ok (.iload_n 1, 1) := by decide +kernel
theorem d_Mo_look_118 : decode b_Mo_look 118 = .ok (.baload, 1) := by decide +kernel
theorem d_Mo_look_119 : decode b_Mo_look 119 = .ok (.if_icmp .eq 14, 3) := by decide +kernel
theorem d_Mo_look_122 : decode b_Mo_look 122 = .ok (.aload_n 0, 1) := by decide +kernel
theorem d_Mo_look_123 : decode b_Mo_look 123 = .ok (.getfield 26, 3) := by decide +kernel
theorem d_Mo_look_126 : decode b_Mo_look 126 = .ok (.iload_n 1, 1) := by decide +kernel
theorem d_Mo_look_127 : decode b_Mo_look 127 = .ok (.iaload, 1) := by decide +kernel
theorem d_Mo_look_128 : decode b_Mo_look 128 = .ok (.iconst 1, 1) := by decide +kernel
theorem d_Mo_look_129 : decode b_Mo_look 129 = .ok (.iadd, 1) := by decide +kernel
theorem d_Mo_look_130 : decode b_Mo_look 130 = .ok (.goto 4, 3) := by decide +kernel
theorem d_Mo_look_133 : decode b_Mo_look 133 = .ok (.iconst 0, 1) := by decide +kernel
theorem d_Mo_look_134 : decode b_Mo_look 134 = .ok (.iastore, 1) := by decide +kernel
theorem d_Mo_look_135 : decode b_Mo_look 135 = .ok (.iinc 1 1, 3) := by decide +kernel
theorem d_Mo_look_138 : decode b_Mo_look 138 = .ok (.goto (-71), 3) := by decide +kernel
theorem d_Mo_look_141 : decode b_Mo_look 141 = .ok (.iconst 0, 1) := by decide +kernel
theorem d_Mo_look_142 : decode b_Mo_look 142 = .ok (.istore_n 1, 1) := by decide +kernel
theorem d_Mo_look_143 : decode b_Mo_look 143 = .ok (.iload_n 1, 1) := by decide +kernel
theorem d_Mo_look_144 : decode b_Mo_look 144 = .ok (.bipush 24, 2) := by decide +kernel
theorem d_Mo_look_146 : decode b_Mo_look 146 = .ok (.if_icmp .ge 38, 3) := by decide +kernel
theorem d_Mo_look_149 : decode b_Mo_look 149 = .ok (.aload_n 0, 1) := by decide +kernel
theorem d_Mo_look_150 : decode b_Mo_look 150 = .ok (.getfield 26, 3) := by decide +kernel
theorem d_Mo_look_153 : decode b_Mo_look 153 = .ok (.iload_n 1, 1) := by decide +kernel
theorem d_Mo_look_154 : decode b_Mo_look 154 = .ok (.iaload, 1) := by decide +kernel
theorem d_Mo_look_155 : decode b_Mo_look 155 = .ok (.iconst 5, 1) := by decide +kernel
theorem d_Mo_look_156 : decode b_Mo_look 156 = .ok (.if_icmp .ne 22, 3) := by decide +kernel
theorem d_Mo_look_159 : decode b_Mo_look 159 = .ok (.aload_n 0, 1) := by decide +kernel
theorem d_Mo_look_160 : decode b_Mo_look 160 = .ok (.getfield 23, 3) := by decide +kernel
theorem d_Mo_look_163 : decode b_Mo_look 163 = .ok (.iload_n 1, 1) := by decide +kernel
theorem d_Mo_look_164 : decode b_Mo_look 164 = .ok (.aload_n 0, 1) := by decide +kernel
theorem d_Mo_look_165 : decode b_Mo_look 165 = .ok (.getfield 20, 3) := by decide +kernel
theorem d_Mo_look_168 : decode b_Mo_look 168 = .ok (.iload_n 1, 1) := by decide +kernel
theorem d_Mo_look_169 : decode b_Mo_look 169 = .ok (.baload, 1) := by decide +kernel
theorem d_Mo_look_170 : decode b_Mo_look 170 = .ok (.bastore, 1) := by decide +kernel
theorem d_Mo_look_171 : decode b_Mo_look 171 = .ok (.aload_n 0, 1) := by decide +kernel
theorem d_Mo_look_172 : decode b_Mo_look 172 = .ok (.getfield 26, 3) := by decide +kernel
theorem d_Mo_look_175 : decode b_Mo_look 175 = .ok (.iload_n 1, 1) := by decide +kernel
theorem d_Mo_look_176 : decode b_Mo_look 176 = .ok (.iconst 0, 1) := by decide +kernel
theorem d_Mo_look_177 : decode b_Mo_look 177 = .ok (.iastore, 1) := by decide +kernel
theorem d_Mo_look_178 : decode b_Mo_look 178 = .ok (.iinc 1 1, 3) := by decide +kernel
theorem d_Mo_look_181 : decode b_Mo_look 181 = .ok (.goto (-38), 3) := by decide +kernel
theorem d_Mo_look_184 : decode b_Mo_look 184 = .ok (.return_, 1) := by decide +kernel
theorem d_Mo_bring_0 : decode b_Mo_bring 0 = .ok (.aload_n 0, 1) := by decide +kernel
theorem d_Mo_bring_1 : decode b_Mo_bring 1 = .ok (.getfield 32, 3) := by decide +kernel
theorem d_Mo_bring_4 : decode b_Mo_bring 4 = .ok (.aload_n 0, 1) := by decide +kernel
theorem d_Mo_bring_5 : decode b_Mo_bring 5 = .ok (.getfield 95, 3) := by decide +kernel
theorem d_Mo_bring_8 : decode b_Mo_bring 8 = .ok (.iconst 2, 1) := by decide +kernel
theorem d_Mo_bring_9 : decode b_Mo_bring 9 = .ok (.iload_n 1, 1) := by decide +kernel
theorem d_Mo_bring_10 : decode b_Mo_bring 10 = .ok (.imul, 1) := by decide +kernel
theorem d_Mo_bring_11 : decode b_Mo_bring 11 = .ok (.iload_n 2, 1) := by decide +kernel
theorem d_Mo_bring_12 : decode b_Mo_bring 12 = .ok (.iadd, 1) := by decide +kernel
theorem d_Mo_bring_13 : decode b_Mo_bring 13 = .ok (.iastore, 1) := by decide +kernel
theorem d_Mo_bring_14 : decode b_Mo_bring 14 = .ok (.aload_n 0, 1) := by decide +kernel
theorem d_Mo_bring_15 : decode b_Mo_bring 15 = .ok (.getfield 35, 3) := by decide +kernel
theorem d_Mo_bring_18 : decode b_Mo_bring 18 = .ok (.aload_n 0, 1) := by decide +kernel
theorem d_Mo_bring_19 : decode b_Mo_bring 19 = .ok (.getfield 95, 3) := by decide +kernel
theorem d_Mo_bring_22 : decode b_Mo_bring 22 = .ok (.aload_n 0, 1) := by decide +kernel
theorem d_Mo_bring_23 : decode b_Mo_bring 23 = .ok (.getfield 98, 3) := by decide +kernel
theorem d_Mo_bring_26 : decode b_Mo_bring 26 = .ok (.iastore, 1) := by decide +kernel
theorem d_Mo_bring_27 : decode b_Mo_bring 27 = .ok (.aload_n 0, 1) := by decide +kernel
theorem d_Mo_bring_28 : decode b_Mo_bring 28 = .ok (.dup, 1) := by decide +kernel
theorem d_Mo_bring_29 : decode b_Mo_bring 29 = .ok (.getfield 95, 3) := by decide +kernel
theorem d_Mo_bring_32 : decode b_Mo_bring 32 = .ok (.iconst 1, 1) := by decide +kernel
theorem d_Mo_bring_33 : decode b_Mo_bring 33 = .ok (.iadd, 1) := by decide +kernel
theorem d_Mo_bring_34 : decode b_Mo_bring 34 = .ok (.putfield 95, 3) := by decide +kernel
theorem d_Mo_bring_37 : decode b_Mo_bring 37 = .ok (.bipush 31, 2) := by decide +kernel
theorem d_Mo_bring_39 : decode b_Mo_bring 39 = .ok (.istore_n 3, 1) := by decide +kernel
theorem d_Mo_bring_40 : decode b_Mo_bring 40 = .ok (.iload_n 3, 1) := by decide +kernel
theorem d_Mo_bring_41 : decode b_Mo_bring 41 = .ok (.ifCond .le 23, 3) := by decide +kernel
theorem d_Mo_bring_44 : decode b_Mo_bring 44 = .ok (.aload_n 0, 1) := by decide +kernel
theorem d_Mo_bring_45 : decode b_Mo_bring 45 = .ok (.getfield 38, 3) := by decide +kernel
theorem d_Mo_bring_48 : decode b_Mo_bring 48 = .ok (.iload_n 3, 1) := by decide +kernel
theorem d_Mo_bring_49 : decode b_Mo_bring 49 = .ok (.aload_n 0, 1) := by decide +kernel
theorem d_Mo_bring_50 : decode b_Mo_bring 50 = .ok (.getfield 38, 3) := by decide +kernel
theorem d_Mo_bring_53 : decode b_Mo_bring 53 = .ok (.iload_n 3, 1) := by decide +kernel
theorem d_Mo_bring_54 : decode b_Mo_bring 54 = .ok (.iconst 1, 1) := by decide +kernel
theorem d_Mo_bring_55 : decode b_Mo_bring 55 = .ok (.isub, 1) := by decide +kernel
theorem d_Mo_bring_56 : decode b_Mo_bring 56 = .ok (.iaload, 1) := by decide +kernel
theorem d_Mo_bring_57 : decode b_Mo_bring 57 = .ok (.iastore, 1) := by decide +kernel
theorem d_Mo_bring_58 : decode b_Mo_bring 58 = .ok (.iinc 3 (-1), 3) := by decide +kernel
theorem d_Mo_bring_61 : decode b_Mo_bring 61 = .ok (.goto (-21), 3) := by decide +kernel
theorem d_Mo_bring_64 : decode b_Mo_bring 64 = .ok (.aload_n 0, 1) := by decide +kernel
theorem d_Mo_bring_65 : decode b_Mo_bring 65 = .ok (.getfield 38, 3) := by decide +kernel
theorem d_Mo_bring_68 : decode b_Mo_bring 68 = .ok (.iconst 0, 1) := by decide +kernel
theorem d_Mo_bring_69 : decode b_Mo_bring 69 = .ok (.iconst 2, 1) := by decide +kernel
theorem d_Mo_bring_70 : decode b_Mo_bring 70 = .ok (.iload_n 1, 1) := by decide +kernel
theorem d_Mo_bring_71 : decode b_Mo_bring 71 = .ok (.imul, 1) := by decide +kernel
theorem d_Mo_bring_72 : decode b_Mo_bring 72 = .ok (.iload_n 2, 1) := by decide +kernel
theorem d_Mo_bring_73 : decode b_Mo_bring 73 = .ok (.iadd, 1) := by decide +kernel
theorem d_Mo_bring_74 : decode b_Mo_bring 74 = .ok (.iastore, 1) := by decide +kernel
theorem d_Mo_bring_75 : decode b_Mo_bring 75 = .ok (.aload_n 0, 1) := by decide +kernel
theorem d_Mo_bring_76 : decode b_Mo_bring 76 = .ok (.dup, 1) := by decide +kernel
theorem d_Mo_bring_77 : decode b_Mo_bring 77 = .ok (.getfield 101, 3) := by decide +kernel
theorem d_Mo_bring_80 : decode b_Mo_bring 80 = .ok (.iconst 1, 1) := by decide +kernel
theorem d_Mo_bring_81 : decode b_Mo_bring 81 = .ok (.iadd, 1) := by decide +kernel
theorem d_Mo_bring_82 : decode b_Mo_bring 82 = .ok (.putfield 101, 3) := by decide +kernel
theorem d_Mo_bring_85 : decode b_Mo_bring 85 = .ok (.return_, 1) := by decide +kernel
theorem d_Mo_believe_0 : decode b_Mo_believe 0 = .ok (.iconst 0, 1) := by decide +kernel
theorem d_Mo_believe_1 : decode b_Mo_believe 1 = .ok (.istore_n 1, 1) := by decide +kernel
theorem d_Mo_believe_2 : decode b_Mo_believe 2 = .ok (.iconst 0, 1) := by decide +kernel
theorem d_Mo_believe_3 : decode b_Mo_believe 3 = .ok (.istore_n 2, 1) := by decide +kernel
theorem d_Mo_believe_4 : decode b_Mo_believe 4 = .ok (.iload_n 2, 1) := by decide +kernel
theorem d_Mo_believe_5 : decode b_Mo_believe 5 = .ok (.bipush 24, 2) := by decide +kernel
theorem d_Mo_believe_7 : decode b_Mo_believe 7 = .ok (.if_icmp .ge 100, 3) := by decide +kernel
theorem d_Mo_believe_10 : decode b_Mo_believe 10 = .ok (.aload_n 0, 1) := by decide +kernel
theorem d_Mo_believe_11 : decode b_Mo_believe 11 = .ok (.getfield 23, 3) := by decide +kernel
theorem d_Mo_believe_14 : decode b_Mo_believe 14 = .ok (.iload_n 2, 1) := by decide +kernel
theorem d_Mo_believe_15 : decode b_Mo_believe 15 = .ok (.baload, 1) := by decide +kernel
theorem d_Mo_believe_16 : decode b_Mo_believe 16 = .ok (.ifCond .eq 25, 3) := by decide +kernel
theorem d_Mo_believe_19 : decode b_Mo_believe 19 = .ok (.aload_n 0, 1) := by decide +kernel
theorem d_Mo_believe_20 : decode b_Mo_believe 20 = .ok (.getfield 29, 3) := by decide +kernel
theorem d_Mo_believe_23 : decode b_Mo_believe 23 = .ok (.iload_n 2, 1) := by decide +kernel
theorem d_Mo_believe_24 : decode b_Mo_believe 24 = .ok (.baload, 1) := by decide +kernel
theorem d_Mo_believe_25 : decode b_Mo_believe 25 = .ok (.ifCond .ne 16, 3) := by decide +kernel
theorem d_Mo_believe_28 : decode b_Mo_believe 28 = .ok (.aload_n 0, 1) := by decide +kernel
theorem d_Mo_believe_29 : decode b_Mo_believe 29 = .ok (.iload_n 2, 1) := by decide +kernel
theorem d_Mo_believe_30 : decode b_Mo_believe 30 = .ok (.iconst 1, 1) := by decide +kernel
theorem d_Mo_believe_31 : decode b_Mo_believe 31 = .ok (.invokevirtual 91, 3) := by decide +kernel
theorem d_Mo_believe_34 : decode b_Mo_believe 34 = .ok (.ifCond .ne 7, 3) := by decide +kernel
theorem d_Mo_believe_37 : decode b_Mo_believe 37 = .ok (.iconst 1, 1) := by decide +kernel
theorem d_Mo_believe_38 : decode b_Mo_believe 38 = .ok (.goto 4, 3) := by decide +kernel
theorem d_Mo_believe_41 : decode b_Mo_believe 41 = .ok (.iconst 0, 1) := by decide +kernel
theorem d_Mo_believe_42 : decode b_Mo_believe 42 = .ok (.istore_n 3, 1) := by decide +kernel
theorem d_Mo_believe_43 : decode b_Mo_believe 43 = .ok (.aload_n 0, 1) := by decide +kernel
theorem d_Mo_believe_44 : decode b_Mo_believe 44 = .ok (.getfield 29, 3) := by decide +kernel
theorem d_Mo_believe_47 : decode b_Mo_believe 47 = .ok (.iload_n 2, 1) := by decide +kernel
theorem d_Mo_believe_48 : decode b_Mo_believe 48 = .ok (.baload, 1) := by decide +kernel
theorem d_Mo_believe_49 : decode b_Mo_believe 49 = .ok (.ifCond .eq 16, 3) := by decide +kernel
theorem d_Mo_believe_52 : decode b_Mo_believe 52 = .ok (.aload_n 0, 1) := by decide +kernel
theorem d_Mo_believe_53 : decode b_Mo_believe 53 = .ok (.getfield 23, 3) := by decide +kernel
theorem d_Mo_believe_56 : decode b_Mo_believe 56 = .ok (.iload_n 2, 1) := by decide +kernel
theorem d_Mo_believe_57 : decode b_Mo_believe 57 = .ok (.baload, 1) := by decide +kernel
theorem d_Mo_believe_58 : decode b_Mo_believe 58 = .ok (.ifCond .ne 7, 3) := by decide +kernel
theorem d_Mo_believe_61 : decode b_Mo_believe 61 = .ok (.iconst 1, 1) := by decide +kernel
theorem d_Mo_believe_62 : decode b_Mo_believe 62 = .ok (.goto 4, 3) := by decide +kernel
theorem d_Mo_believe_65 : decode b_Mo_believe 65 = .ok (.iconst 0, 1) := by decide +kernel
theorem d_Mo_believe_66 : decode b_Mo_believe 66 = .ok (.istore 4, 2) := by decide +kernel
theorem d_Mo_believe_68 : decode b_Mo_believe 68 = .ok (.iload_n 3, 1) := by decide +kernel
theorem d_Mo_believe_69 : decode b_Mo_believe 69 = .ok (.ifCond .ne 8, 3) := by decide +kernel
theorem d_Mo_believe_72 : decode b_Mo_believe 72 = .ok (.iload 4, 2) := by decide +kernel
theorem d_Mo_believe_74 : decode b_Mo_believe 74 = .ok (.ifCond .eq 27, 3) := by decide +kernel
theorem d_Mo_believe_77 : decode b_Mo_believe 77 = .ok (.aload_n 0, 1) := by decide +kernel
theorem d_Mo_believe_78 : decode b_Mo_believe 78 = .ok (.getfield 29, 3) := by decide +kernel
theorem d_Mo_believe_81 : decode b_Mo_believe 81 = .ok (.iload_n 2, 1) := by decide +kernel
theorem d_Mo_believe_82 : decode b_Mo_believe 82 = .ok (.iload_n 3, 1) := by decide +kernel
theorem d_Mo_believe_83 : decode b_Mo_believe 83 = .ok (.bastore, 1) := by decide +kernel
theorem d_Mo_believe_84 : decode b_Mo_believe 84 = .ok (.aload_n 0, 1) := by decide +kernel
theorem d_Mo_believe_85 : decode b_Mo_believe 85 = .ok (.iload_n 2, 1) := by decide +kernel
theorem d_Mo_believe_86 : decode b_Mo_believe 86 = .ok (.iload_n 3, 1) := by decide +kernel
theorem d_Mo_believe_87 : decode b_Mo_believe 87 = .ok (.ifCond .eq 7, 3) := by decide +kernel
theorem d_Mo_believe_90 : decode b_Mo_believe 90 = .ok (.iconst 1, 1) := by decide +kernel
theorem d_Mo_believe_91 : decode b_Mo_believe 91 = .ok (.goto 4, 3) := by decide +kernel
theorem d_Mo_believe_94 : decode b_Mo_believe 94 = .ok (.iconst 0, 1) := by decide +kernel
theorem d_Mo_believe_95 : decode b_Mo_believe 95 = .ok (.invokevirtual 104, 3) := by decide +kernel
theorem d_Mo_believe_98 : decode b_Mo_believe 98 = .ok (.iinc 1 1, 3) := by decide +kernel
theorem d_Mo_believe_101 : decode b_Mo_believe 101 = .ok (.iinc 2 1, 3) := by decide +kernel
theorem d_Mo_believe_104 : decode b_Mo_believe 104 = .ok (.goto (-100), 3) := by decide +kernel
theorem d_Mo_believe_107 : decode b_Mo_believe 107 = .ok (.iload_n 1, 1) := by decide +kernel
theorem d_Mo_believe_108 : decode b_Mo_believe 108 = .ok (.ireturn, 1) := by decide +kernel
theorem d_Mo_isOn_0 : decode b_Mo_isOn 0 = .ok (.iload_n 1, 1) := by decide +kernel
theorem d_Mo_isOn_1 : decode b_Mo_isOn 1 = .ok (.ifCond .eq 21, 3) := by decide +kernel
theorem d_Mo_isOn_4 : decode b_Mo_isOn 4 = .ok (.aload_n 0, 1) := by decide +kernel
theorem d_Mo_isOn_5 : decode b_Mo_isOn 5 = .ok (.getfield 59, 3) := by decide +kernel
theorem d_Mo_isOn_8 : decode b_Mo_isOn 8 = .ok (.iload_n 1, 1) := by decide +kernel
theorem d_Mo_isOn_9 : decode b_Mo_isOn 9 = .ok (.baload, 1) := by decide +kernel
theorem d_Mo_isOn_10 : decode b_Mo_isOn 10 = .ok (.ifCond .ne 12, 3) := by decide +kernel
theorem d_Mo_isOn_13 : decode b_Mo_isOn 13 = .ok (.aload_n 0, 1) := by decide +kernel
theorem d_Mo_isOn_14 : decode b_Mo_isOn 14 = .ok (.getfield 62, 3) := by decide +kernel
theorem d_Mo_isOn_17 : decode b_Mo_isOn 17 = .ok (.iload_n 1, 1) := by decide +kernel
theorem d_Mo_isOn_18 : decode b_Mo_isOn 18 = .ok (.baload, 1) := by decide +kernel
theorem d_Mo_isOn_19 : decode b_Mo_isOn 19 = .ok (.ifCond .eq 7, 3) := by decide +kernel
theorem d_Mo_isOn_22 : decode b_Mo_isOn 22 = .ok (.iconst 1, 1) := by decide +kernel
theorem d_Mo_isOn_23 : decode b_Mo_isOn 23 = .ok (.goto 4, 3) := by decide +kernel
theorem d_Mo_isOn_26 : decode b_Mo_isOn 26 = .ok (.iconst 0, 1) := by decide +kernel
theorem d_Mo_isOn_27 : decode b_Mo_isOn 27 = .ok (.istore_n 2, 1) := by decide +kernel
theorem d_Mo_isOn_28 : decode b_Mo_isOn 28 = .ok (.iconst 0, 1) := by decide +kernel
theorem d_Mo_isOn_29 : decode b_Mo_isOn 29 = .ok (.istore_n 3, 1) := by decide +kernel
theorem d_Mo_isOn_30 : decode b_Mo_isOn 30 = .ok (.iload_n 3, 1) := by decide +kernel
theorem d_Mo_isOn_31 : decode b_Mo_isOn 31 = .ok (.bipush 24, 2) := by decide +kernel
theorem d_Mo_isOn_33 : decode b_Mo_isOn 33 = .ok (.if_icmp .ge 39, 3) := by decide +kernel
theorem d_Mo_isOn_36 : decode b_Mo_isOn 36 = .ok (.iload_n 2, 1) := by decide +kernel
theorem d_Mo_isOn_37 : decode b_Mo_isOn 37 = .ok (.ifCond .ne 23, 3) := by decide +kernel
theorem d_Mo_isOn_40 : decode b_Mo_isOn 40 = .ok (.aload_n 0, 1) := by decide +kernel
theorem d_Mo_isOn_41 : decode b_Mo_isOn 41 = .ok (.getfield 65, 3) := by decide +kernel
theorem d_Mo_isOn_44 : decode b_Mo_isOn 44 = .ok (.iload_n 3, 1) := by decide +kernel
theorem d_Mo_isOn_45 : decode b_Mo_isOn 45 = .ok (.iaload, 1) := by decide +kernel
theorem d_Mo_isOn_46 : decode b_Mo_isOn 46 = .ok (.iconst 2, 1) := by decide +kernel
theorem d_Mo_isOn_47 : decode b_Mo_isOn 47 = .ok (.if_icmp .ne 17, 3) := by decide +kernel
theorem d_Mo_isOn_50 : decode b_Mo_isOn 50 = .ok (.aload_n 0, 1) := by decide +kernel
theorem d_Mo_isOn_51 : decode b_Mo_isOn 51 = .ok (.getfield 68, 3) := by decide +kernel
theorem d_Mo_isOn_54 : decode b_Mo_isOn 54 = .ok (.iload_n 3, 1) := by decide +kernel
theorem d_Mo_isOn_55 : decode b_Mo_isOn 55 = .ok (.iaload, 1) := by decide +kernel
theorem d_Mo_isOn_56 : decode b_Mo_isOn 56 = .ok (.iload_n 1, 1) := by decide +kernel
theorem d_Mo_isOn_57 : decode b_Mo_isOn 57 = .ok (.if_icmp .ne 7, 3) := by decide +kernel
theorem d_Mo_isOn_60 : decode b_Mo_isOn 60 = .ok (.iconst 1, 1) := by decide +kernel
theorem d_Mo_isOn_61 : decode b_Mo_isOn 61 = .ok (.goto 4, 3) := by decide +kernel
theorem d_Mo_isOn_64 : decode b_Mo_isOn 64 = .ok (.iconst 0, 1) := by decide +kernel
theorem d_Mo_isOn_65 : decode b_Mo_isOn 65 = .ok (.istore_n 2, 1) := by decide +kernel
theorem d_Mo_isOn_66 : decode b_Mo_isOn 66 = .ok (.iinc 3 1, 3) := by decide +kernel
theorem d_Mo_isOn_69 : decode b_Mo_isOn 69 = .ok (.goto (-39), 3) := by decide +kernel
theorem d_Mo_isOn_72 : decode b_Mo_isOn 72 = .ok (.iload_n 2, 1) := by decide +kernel
theorem d_Mo_isOn_73 : decode b_Mo_isOn 73 = .ok (.ireturn, 1) := by decide +kernel
theorem d_Mo_topOf_0 : decode b_Mo_topOf 0 = .ok (.iconst (-1), 1) := by decide +kernel
theorem d_Mo_topOf_1 : decode b_Mo_topOf 1 = .ok (.istore_n 2, 1) := by decide +kernel
theorem d_Mo_topOf_2 : decode b_Mo_topOf 2 = .ok (.iconst 0, 1) := by decide +kernel
theorem d_Mo_topOf_3 : decode b_Mo_topOf 3 = .ok (.istore_n 3, 1) := by decide +kernel
theorem d_Mo_topOf_4 : decode b_Mo_topOf 4 = .ok (.iload_n 3, 1) := by decide +kernel
theorem d_Mo_topOf_5 : decode b_Mo_topOf 5 = .ok (.iconst 4, 1) := by decide +kernel
theorem d_Mo_topOf_6 : decode b_Mo_topOf 6 = .ok (.if_icmp .ge 37, 3) := by decide +kernel
theorem d_Mo_topOf_9 : decode b_Mo_topOf 9 = .ok (.aload_n 0, 1) := by decide +kernel
theorem d_Mo_topOf_10 : decode b_Mo_topOf 10 = .ok (.iload_n 3, 1) := by decide +kernel
theorem d_Mo_topOf_11 : decode b_Mo_topOf 11 = .ok (.invokevirtual 108, 3) := by decide +kernel
theorem d_Mo_topOf_14 : decode b_Mo_topOf 14 = .ok (.ifCond .eq 21, 3) := by decide +kernel
theorem d_Mo_topOf_17 : decode b_Mo_topOf 17 = .ok (.aload_n 0, 1) := by decide +kernel
theorem d_Mo_topOf_18 : decode b_Mo_topOf 18 = .ok (.getfield 41, 3) := by decide +kernel
theorem d_Mo_topOf_21 : decode b_Mo_topOf 21 = .ok (.bipush 24, 2) := by decide +kernel
theorem d_Mo_topOf_23 : decode b_Mo_topOf 23 = .ok (.iload_n 3, 1) := by decide +kernel
theorem d_Mo_topOf_24 : decode b_Mo_topOf 24 = .ok (.imul, 1) := by decide +kernel
theorem d_Mo_topOf_25 : decode b_Mo_topOf 25 = .ok (.iload_n 1, 1) := by decide +kernel
theorem d_Mo_topOf_26 : decode b_Mo_topOf 26 = .ok (.iadd, 1) := by decide +kernel
theorem d_Mo_topOf_27 : decode b_Mo_topOf 27 = .ok (.iaload, 1) := by decide +kernel
theorem d_Mo_topOf_28 : decode b_Mo_topOf 28 = .ok (.ifCond .eq 7, 3) := by decide +kernel
theorem d_Mo_topOf_31 : decode b_Mo_topOf 31 = .ok (.iload_n 3, 1) := by decide +kernel
theorem d_Mo_topOf_32 : decode b_Mo_topOf 32 = .ok (.goto 4, 3) := by decide +kernel
theorem d_Mo_topOf_35 : decode b_Mo_topOf 35 = .ok (.iload_n 2, 1) := by decide +kernel
theorem d_Mo_topOf_36 : decode b_Mo_topOf 36 = .ok (.istore_n 2, 1) := by decide +kernel
theorem d_Mo_topOf_37 : decode b_Mo_topOf 37 = .ok (.iinc 3 1, 3) := by decide +kernel
theorem d_Mo_topOf_40 : decode b_Mo_topOf 40 = .ok (.goto (-36), 3) := by decide +kernel
theorem d_Mo_topOf_43 : decode b_Mo_topOf 43 = .ok (.iload_n 2, 1) := by decide +kernel
theorem d_Mo_topOf_44 : decode b_Mo_topOf 44 = .ok (.ireturn, 1) := by decide +kernel
theorem d_Mo_makeReport_0 : decode b_Mo_makeReport 0 = .ok (.iconst 0, 1) := by decide +kernel
theorem d_Mo_makeReport_1 : decode b_Mo_makeReport 1 = .ok (.istore_n 1, 1) := by decide +kernel
theorem d_Mo_makeReport_2 : decode b_Mo_makeReport 2 = .ok (.iconst 0, 1) := by decide +kernel
theorem d_Mo_makeReport_3 : decode b_Mo_makeReport 3 = .ok (.istore_n 2, 1) := by decide +kernel
theorem d_Mo_makeReport_4 : decode b_Mo_makeReport 4 = .ok (.iconst 1, 1) := by decide +kernel
theorem d_Mo_makeReport_5 : decode b_Mo_makeReport 5 = .ok (.istore_n 3, 1) := by decide +kernel
theorem d_Mo_makeReport_6 : decode b_Mo_makeReport 6 = .ok (.iload_n 3, 1) := by decide +kernel
theorem d_Mo_makeReport_7 : decode b_Mo_makeReport 7 = .ok (.bipush 7, 2) := by decide +kernel
theorem d_Mo_makeReport_9 : decode b_Mo_makeReport 9 = .ok (.if_icmp .ge 19, 3) := by decide +kernel
theorem d_Mo_makeReport_12 : decode b_Mo_makeReport 12 = .ok (.aload_n 0, 1) := by decide +kernel
theorem d_Mo_makeReport_13 : decode b_Mo_makeReport 13 = .ok (.getfield 77, 3) := by decide +kernel
theorem d_Mo_makeReport_16 : decode b_Mo_makeReport 16 = .ok (.bipush 70, 2) := by decide +kernel
theorem d_Mo_makeReport_18 : decode b_Mo_makeReport 18 = .ok (.iload_n 3, 1) := by decide +kernel
theorem d_Mo_makeReport_19 : decode b_Mo_makeReport 19 = .ok (.iadd, 1) := by decide +kernel
theorem d_Mo_makeReport_20 : decode b_Mo_makeReport 20 = .ok (.iconst 0, 1) := by decide +kernel
theorem d_Mo_makeReport_21 : decode b_Mo_makeReport 21 = .ok (.iastore, 1) := by decide +kernel
theorem d_Mo_makeReport_22 : decode b_Mo_makeReport 22 = .ok (.iinc 3 1, 3) := by decide +kernel
theorem d_Mo_makeReport_25 : decode b_Mo_makeReport 25 = .ok (.goto (-19), 3) := by decide +kernel
theorem d_Mo_makeReport_28 : decode b_Mo_makeReport 28 = .ok (.iconst 4, 1) := by decide +kernel
theorem d_Mo_makeReport_29 : decode b_Mo_makeReport 29 = .ok (.istore_n 3, 1) := by decide +kernel
theorem d_Mo_makeReport_30 : decode b_Mo_makeReport 30 = .ok (.iload_n 3, 1) := by decide +kernel
theorem d_Mo_makeReport_31 : decode b_Mo_makeReport 31 = .ok (.bipush 108, 2) := by decide +kernel
theorem d_Mo_makeReport_33 : decode b_Mo_makeReport 33 = .ok (.if_icmp .ge 73, 3) := by decide +kernel
theorem d_Mo_makeReport_36 : decode b_Mo_makeReport 36 = .ok (.aload_n 0, 1) := by decide +kernel
theorem d_Mo_makeReport_37 : decode b_Mo_makeReport 37 = .ok (.getfield 74, 3) := by decide +kernel
theorem d_Mo_makeReport_40 : decode b_Mo_makeReport 40 = .ok (.iload_n 3, 1) := by decide +kernel
theorem d_Mo_makeReport_41 : decode b_Mo_makeReport 41 = .ok (.iaload, 1) := by decide +kernel
theorem d_Mo_makeReport_42 : decode b_Mo_makeReport 42 = .ok (.ifCond .le 58, 3) := by decide +kernel
theorem d_Mo_makeReport_45 : decode b_Mo_makeReport 45 = .ok (.iload_n 3, 1) := by decide +kernel
theorem d_Mo_makeReport_46 : decode b_Mo_makeReport 46 = .ok (.bipush 100, 2) := by decide +kernel
theorem d_Mo_makeReport_48 : decode b_Mo_makeReport 48 = .ok (.if_icmp .lt 14, 3) := by decide +kernel
theorem d_Mo_makeReport_51 : decode b_Mo_makeReport 51 = .ok (.iload_n 1, 1) := by decide +kernel
theorem d_Mo_makeReport_52 : decode b_Mo_makeReport 52 = .ok (.iconst 1, 1) := by decide +kernel
theorem d_Mo_makeReport_53 : decode b_Mo_makeReport 53 = .ok (.iload_n 3, 1) := by decide +kernel
theorem d_Mo_makeReport_54 : decode b_Mo_makeReport 54 = .ok (.bipush 100, 2) := by decide +kernel
theorem d_Mo_makeReport_56 : decode b_Mo_makeReport 56 = .ok (.isub, 1) := by decide +kernel
theorem d_Mo_makeReport_57 : decode b_Mo_makeReport 57 = .ok (.ishl, 1) := by decide +kernel
theorem d_Mo_makeReport_58 : decode b_Mo_makeReport 58 = .ok (.ior, 1) := by decide +kernel
theorem d_Mo_makeReport_59 : decode b_Mo_makeReport 59 = .ok (.goto 4, 3) := by decide +kernel
theorem d_Mo_makeReport_62 : decode b_Mo_makeReport 62 = .ok (.iload_n 1, 1) := by decide +kernel
theorem d_Mo_makeReport_63 : decode b_Mo_makeReport 63 = .ok (.istore_n 1, 1) := by decide +kernel
theorem d_Mo_makeReport_64 : decode b_Mo_makeReport 64 = .ok (.iload_n 3, 1) := by decide +kernel
theorem d_Mo_makeReport_65 : decode b_Mo_makeReport 65 = .ok (.bipush 100, 2) := by decide +kernel
theorem d_Mo_makeReport_67 : decode b_Mo_makeReport 67 = .ok (.if_icmp .ge 9, 3) := by decide +kernel
theorem d_Mo_makeReport_70 : decode b_Mo_makeReport 70 = .ok (.iload_n 2, 1) := by decide +kernel
theorem d_Mo_makeReport_71 : decode b_Mo_makeReport 71 = .ok (.iconst 1, 1) := by decide +kernel
theorem d_Mo_makeReport_72 : decode b_Mo_makeReport 72 = .ok (.iadd, 1) := by decide +kernel
theorem d_Mo_makeReport_73 : decode b_Mo_makeReport 73 = .ok (.goto 4, 3) := by decide +kernel
theorem d_Mo_makeReport_76 : decode b_Mo_makeReport 76 = .ok (.iload_n 2, 1) := by decide +kernel
theorem d_Mo_makeReport_77 : decode b_Mo_makeReport 77 = .ok (.istore_n 2, 1) := by decide +kernel
theorem d_Mo_makeReport_78 : decode b_Mo_makeReport 78 = .ok (.iload_n 3, 1) := by decide +kernel
theorem d_Mo_makeReport_79 : decode b_Mo_makeReport 79 = .ok (.bipush 100, 2) := by decide +kernel
theorem d_Mo_makeReport_81 : decode b_Mo_makeReport 81 = .ok (.if_icmp .ge 19, 3) := by decide +kernel
theorem d_Mo_makeReport_84 : decode b_Mo_makeReport 84 = .ok (.iload_n 2, 1) := by decide +kernel
theorem d_Mo_makeReport_85 : decode b_Mo_makeReport 85 = .ok (.bipush 7, 2) := by decide +kernel
theorem d_Mo_makeReport_87 : decode b_Mo_makeReport 87 = .ok (.if_icmp .ge 13, 3) := by decide +kernel
theorem d_Mo_makeReport_90 : decode b_Mo_makeReport 90 = .ok (.aload_n 0, 1) := by decide +kernel
theorem d_Mo_makeReport_91 : decode b_Mo_makeReport 91 = .ok (.getfield 77, 3) := by decide +kernel
theorem d_Mo_makeReport_94 : decode b_Mo_makeReport 94 = .ok (.bipush 70, 2) := by decide +kernel
theorem d_Mo_makeReport_96 : decode b_Mo_makeReport 96 = .ok (.iload_n 2, 1) := by decide +kernel
theorem d_Mo_makeReport_97 : decode b_Mo_makeReport 97 = .ok (.iadd, 1) := by decide +kernel
theorem d_Mo_makeReport_98 : decode b_Mo_makeReport 98 = .ok (.iload_n 3, 1) := by decide +kernel
theorem d_Mo_makeReport_99 : decode b_Mo_makeReport 99 = .ok (.iastore, 1) := by decide +kernel
theorem d_Mo_makeReport_100 : decode b_Mo_makeReport 100 = .ok (.iinc 3 1, 3) := by decide +kernel
theorem d_Mo_makeReport_103 : decode b_Mo_makeReport 103 = .ok (.goto (-73), 3) := by decide +kernel
theorem d_Mo_makeReport_106 : decode b_Mo_makeReport 106 = .ok (.iconst 1, 1) := by decide +kernel
theorem d_Mo_makeReport_107 : decode b_Mo_makeReport 107 = .ok (.istore_n 3, 1) := by decide +kernel
theorem d_Mo_makeReport_108 : decode b_Mo_makeReport 108 = .ok (.iload_n 3, 1) := by decide +kernel
theorem d_Mo_makeReport_109 : decode b_Mo_makeReport 109 = .ok (.bipush 7, 2) := by decide +kernel
theorem d_Mo_makeReport_111 : decode b_Mo_makeReport 111 = .ok (.if_icmp .ge 25, 3) := by decide +kernel
theorem d_Mo_makeReport_114 : decode b_Mo_makeReport 114 = .ok (.iload_n 2, 1) := by decide +kernel
theorem d_Mo_makeReport_115 : decode b_Mo_makeReport 115 = .ok (.bipush 6, 2) := by decide +kernel
theorem d_Mo_makeReport_117 : decode b_Mo_makeReport 117 = .ok (.if_icmp .le 19, 3) := by decide +kernel
theorem d_Mo_makeReport_120 : decode b_Mo_makeReport 120 = .ok (.aload_n 0, 1) := by decide +kernel
theorem d_Mo_makeReport_121 : decode b_Mo_makeReport 121 = .ok (.getfield 77, 3) := by decide +kernel
theorem d_Mo_makeReport_124 : decode b_Mo_makeReport 124 = .ok (.bipush 70, 2) := by decide +kernel
theorem d_Mo_makeReport_126 : decode b_Mo_makeReport 126 = .ok (.iload_n 3, 1) := by decide +kernel
theorem d_Mo_makeReport_127 : decode b_Mo_makeReport 127 = .ok (.iadd, 1) := by decide +kernel
theorem d_Mo_makeReport_128 : decode b_Mo_makeReport 128 = .ok (.iconst 1, 1) := by decide +kernel
theorem d_Mo_makeReport_129 : decode b_Mo_makeReport 129 = .ok (.iastore, 1) := by decide +kernel
theorem d_Mo_makeReport_130 : decode b_Mo_makeReport 130 = .ok (.iinc 3 1, 3) := by decide +kernel
theorem d_Mo_makeReport_133 : decode b_Mo_makeReport 133 = .ok (.goto (-25), 3) := by decide +kernel
theorem d_Mo_makeReport_136 : decode b_Mo_makeReport 136 = .ok (.aload_n 0, 1) := by decide +kernel
theorem d_Mo_makeReport_137 : decode b_Mo_makeReport 137 = .ok (.getfield 77, 3) := by decide +kernel
theorem d_Mo_makeReport_140 : decode b_Mo_makeReport 140 = .ok (.bipush 70, 2) := by decide +kernel
theorem d_Mo_makeReport_142 : decode b_Mo_makeReport 142 = .ok (.iload_n 1, 1) := by decide +kernel
theorem d_Mo_makeReport_143 : decode b_Mo_makeReport 143 = .ok (.iastore, 1) := by decide +kernel
theorem d_Mo_makeReport_144 : decode b_Mo_makeReport 144 = .ok (.return_, 1) := by decide +kernel
theorem d_Mo_copyReport_0 : decode b_Mo_copyReport 0 = .ok (.iconst 0, 1) := by decide +kernel
theorem d_Mo_copyReport_1 : decode b_Mo_copyReport 1 = .ok (.istore_n 3, 1) := by decide +kernel
theorem d_Mo_copyReport_2 : decode b_Mo_copyReport 2 = .ok (.iload_n 3, 1) := by decide +kernel
theorem d_Mo_copyReport_3 : decode b_Mo_copyReport 3 = .ok (.bipush 7, 2) := by decide +kernel
theorem d_Mo_copyReport_5 : decode b_Mo_copyReport 5 = .ok (.if_icmp .ge 31, 3) := by decide +kernel
theorem d_Mo_copyReport_8 : decode b_Mo_copyReport 8 = .ok (.aload_n 0, 1) := by decide +kernel
theorem d_Mo_copyReport_9 : decode b_Mo_copyReport 9 = .ok (.getfield 77, 3) := by decide +kernel
theorem d_Mo_copyReport_12 : decode b_Mo_copyReport 12 = .ok (.bipush 7, 2) := by decide +kernel
theorem d_Mo_copyReport_14 : decode b_Mo_copyReport 14 = .ok (.iload_n 2, 1) := by decide +kernel
theorem d_Mo_copyReport_15 : decode b_Mo_copyReport 15 = .ok (.imul, 1) := by decide +kernel
theorem d_Mo_copyReport_16 : decode b_Mo_copyReport 16 = .ok (.iload_n 3, 1) := by decide +kernel
theorem d_Mo_copyReport_17 : decode b_Mo_copyReport 17 = .ok (.iadd, 1) := by decide +kernel
theorem d_Mo_copyReport_18 : decode b_Mo_copyReport 18 = .ok (.aload_n 0, 1) := by decide +kernel
theorem d_Mo_copyReport_19 : decode b_Mo_copyReport 19 = .ok (.getfield 77, 3) := by decide +kernel
theorem d_Mo_copyReport_22 : decode b_Mo_copyReport 22 = .ok (.bipush 7, 2) := by decide +kernel
theorem d_Mo_copyReport_24 : decode b_Mo_copyReport 24 = .ok (.iload_n 1, 1) := by decide +kernel
theorem d_Mo_copyReport_25 : decode b_Mo_copyReport 25 = .ok (.imul, 1) := by decide +kernel
theorem d_Mo_copyReport_26 : decode b_Mo_copyReport 26 = .ok (.iload_n 3, 1) := by decide +kernel
theorem d_Mo_copyReport_27 : decode b_Mo_copyReport 27 = .ok (.iadd, 1) := by decide +kernel
theorem d_Mo_copyReport_28 : decode b_Mo_copyReport 28 = .ok (.iaload, 1) := by decide +kernel
theorem d_Mo_copyReport_29 : decode b_Mo_copyReport 29 = .ok (.iastore, 1) := by decide +kernel
theorem d_Mo_copyReport_30 : decode b_Mo_copyReport 30 = .ok (.iinc 3 1, 3) := by decide +kernel
theorem d_Mo_copyReport_33 : decode b_Mo_copyReport 33 = .ok (.goto (-31), 3) := by decide +kernel
theorem d_Mo_copyReport_36 : decode b_Mo_copyReport 36 = .ok (.return_, 1) := by decide +kernel
theorem d_Mo_tell_0 : decode b_Mo_tell 0 = .ok (.aload_n 0, 1) := by decide +kernel
theorem d_Mo_tell_1 : decode b_Mo_tell 1 = .ok (.invokevirtual 111, 3) := by decide +kernel
theorem d_Mo_tell_4 : decode b_Mo_tell 4 = .ok (.iconst 0, 1) := by decide +kernel
theorem d_Mo_tell_5 : decode b_Mo_tell 5 = .ok (.istore_n 1, 1) := by decide +kernel
theorem d_Mo_tell_6 : decode b_Mo_tell 6 = .ok (.iconst 0, 1) := by decide +kernel
theorem d_Mo_tell_7 : decode b_Mo_tell 7 = .ok (.istore_n 2, 1) := by decide +kernel
theorem d_Mo_tell_8 : decode b_Mo_tell 8 = .ok (.iload_n 2, 1) := by decide +kernel
theorem d_Mo_tell_9 : decode b_Mo_tell 9 = .ok (.bipush 7, 2) := by decide +kernel
theorem d_Mo_tell_11 : decode b_Mo_tell 11 = .ok (.if_icmp .ge 40, 3) := by decide +kernel
theorem d_Mo_tell_14 : decode b_Mo_tell 14 = .ok (.iload_n 1, 1) := by decide +kernel
theorem d_Mo_tell_15 : decode b_Mo_tell 15 = .ok (.ifCond .ne 24, 3) := by decide +kernel
theorem d_Mo_tell_18 : decode b_Mo_tell 18 = .ok (.aload_n 0, 1) := by decide +kernel
theorem d_Mo_tell_19 : decode b_Mo_tell 19 = .ok (.getfield 77, 3) := by decide +kernel
theorem d_Mo_tell_22 : decode b_Mo_tell 22 = .ok (.bipush 70, 2) := by decide +kernel
theorem d_Mo_tell_24 : decode b_Mo_tell 24 = .ok (.iload_n 2, 1) := by decide +kernel
theorem d_Mo_tell_25 : decode b_Mo_tell 25 = .ok (.iadd, 1) := by decide +kernel
theorem d_Mo_tell_26 : decode b_Mo_tell 26 = .ok (.iaload, 1) := by decide +kernel
theorem d_Mo_tell_27 : decode b_Mo_tell 27 = .ok (.aload_n 0, 1) := by decide +kernel
theorem d_Mo_tell_28 : decode b_Mo_tell 28 = .ok (.getfield 77, 3) := by decide +kernel
theorem d_Mo_tell_31 : decode b_Mo_tell 31 = .ok (.bipush 56, 2) := by decide +kernel
theorem d_Mo_tell_33 : decode b_Mo_tell 33 = .ok (.iload_n 2, 1) := by decide +kernel
theorem d_Mo_tell_34 : decode b_Mo_tell 34 = .ok (.iadd, 1) := by decide +kernel
theorem d_Mo_tell_35 : decode b_Mo_tell 35 = .ok (.iaload, 1) := by decide +kernel
theorem d_Mo_tell_36 : decode b_Mo_tell 36 = .ok (.if_icmp .eq 7, 3) := by decide +kernel
theorem d_Mo_tell_39 : decode b_Mo_tell 39 = .ok (.iconst 1, 1) := by decide +kernel
theorem d_Mo_tell_40 : decode b_Mo_tell 40 = .ok (.goto 4, 3) := by decide +kernel
theorem d_Mo_tell_43 : decode b_Mo_tell 43 = .ok (.iconst 0, 1) := by decide +kernel
theorem d_Mo_tell_44 : decode b_Mo_tell 44 = .ok (.istore_n 1, 1) := by decide +kernel
theorem d_Mo_tell_45 : decode b_Mo_tell 45 = .ok (.iinc 2 1, 3) := by decide +kernel
theorem d_Mo_tell_48 : decode b_Mo_tell 48 = .ok (.goto (-40), 3) := by decide +kernel
theorem d_Mo_tell_51 : decode b_Mo_tell 51 = .ok (.iload_n 1, 1) := by decide +kernel
theorem d_Mo_tell_52 : decode b_Mo_tell 52 = .ok (.ifCond .eq 20, 3) := by decide +kernel
theorem d_Mo_tell_55 : decode b_Mo_tell 55 = .ok (.aload_n 0, 1) := by decide +kernel
theorem d_Mo_tell_56 : decode b_Mo_tell 56 = .ok (.getfield 114, 3) := by decide +kernel
theorem d_Mo_tell_59 : decode b_Mo_tell 59 = .ok (.bipush 8, 2) := by decide +kernel
theorem d_Mo_tell_61 : decode b_Mo_tell 61 = .ok (.if_icmp .ne 11, 3) := by decide +kernel
theorem d_Mo_tell_64 : decode b_Mo_tell 64 = .ok (.aload_n 0, 1) := by decide +kernel
theorem d_Mo_tell_65 : decode b_Mo_tell 65 = .ok (.iconst 1, 1) := by decide +kernel
theorem d_Mo_tell_66 : decode b_Mo_tell 66 = .ok (.putfield 117, 3) := by decide +kernel
theorem d_Mo_tell_69 : decode b_Mo_tell 69 = .ok (.goto 35, 3) := by decide +kernel
theorem d_Mo_tell_72 : decode b_Mo_tell 72 = .ok (.iload_n 1, 1) := by decide +kernel
theorem d_Mo_tell_73 : decode b_Mo_tell 73 = .ok (.ifCond .eq 31, 3) := by decide +kernel
theorem d_Mo_tell_76 : decode b_Mo_tell 76 = .ok (.aload_n 0, 1) := by decide +kernel
theorem d_Mo_tell_77 : decode b_Mo_tell 77 = .ok (.bipush 10, 2) := by decide +kernel
theorem d_Mo_tell_79 : decode b_Mo_tell 79 = .ok (.aload_n 0, 1) := by decide +kernel
theorem d_Mo_tell_80 : decode b_Mo_tell 80 = .ok (.getfield 114, 3) := by decide +kernel
theorem d_Mo_tell_83 : decode b_Mo_tell 83 = .ok (.invokevirtual 121, 3) := by decide +kernel
theorem d_Mo_tell_86 : decode b_Mo_tell 86 = .ok (.aload_n 0, 1) := by decide +kernel
theorem d_Mo_tell_87 : decode b_Mo_tell 87 = .ok (.bipush 10, 2) := by decide +kernel
theorem d_Mo_tell_89 : decode b_Mo_tell 89 = .ok (.bipush 8, 2) := by decide +kernel
theorem d_Mo_tell_91 : decode b_Mo_tell 91 = .ok (.invokevirtual 121, 3) := by decide +kernel
theorem d_Mo_tell_94 : decode b_Mo_tell 94 = .ok (.aload_n 0, 1) := by decide +kernel
theorem d_Mo_tell_95 : decode b_Mo_tell 95 = .ok (.dup, 1) := by decide +kernel
theorem d_Mo_tell_96 : decode b_Mo_tell 96 = .ok (.getfield 114, 3) := by decide +kernel
theorem d_Mo_tell_99 : decode b_Mo_tell 99 = .ok (.iconst 1, 1) := by decide +kernel
theorem d_Mo_tell_100 : decode b_Mo_tell 100 = .ok (.iadd, 1) := by decide +kernel
theorem d_Mo_tell_101 : decode b_Mo_tell 101 = .ok (.putfield 114, 3) := by decide +kernel
theorem d_Mo_tell_104 : decode b_Mo_tell 104 = .ok (.return_, 1) := by decide +kernel
theorem d_Mo_change_0 : decode b_Mo_change 0 = .ok (.aload_n 0, 1) := by decide +kernel
theorem d_Mo_change_1 : decode b_Mo_change 1 = .ok (.getfield 74, 3) := by decide +kernel
theorem d_Mo_change_4 : decode b_Mo_change 4 = .ok (.iload_n 1, 1) := by decide +kernel
theorem d_Mo_change_5 : decode b_Mo_change 5 = .ok (.aload_n 0, 1) := by decide +kernel
theorem d_Mo_change_6 : decode b_Mo_change 6 = .ok (.getfield 74, 3) := by decide +kernel
theorem d_Mo_change_9 : decode b_Mo_change 9 = .ok (.iload_n 1, 1) := by decide +kernel
theorem d_Mo_change_10 : decode b_Mo_change 10 = .ok (.iaload, 1) := by decide +kernel
theorem d_Mo_change_11 : decode b_Mo_change 11 = .ok (.iload_n 2, 1) := by decide +kernel
theorem d_Mo_change_12 : decode b_Mo_change 12 = .ok (.iadd, 1) := by decide +kernel
theorem d_Mo_change_13 : decode b_Mo_change 13 = .ok (.iastore, 1) := by decide +kernel
theorem d_Mo_change_14 : decode b_Mo_change 14 = .ok (.aload_n 0, 1) := by decide +kernel
theorem d_Mo_change_15 : decode b_Mo_change 15 = .ok (.invokevirtual 124, 3) := by decide +kernel
theorem d_Mo_change_18 : decode b_Mo_change 18 = .ok (.return_, 1) := by decide +kernel
theorem d_Mo_touch_0 : decode b_Mo_touch 0 = .ok (.aload_n 0, 1) := by decide +kernel
theorem d_Mo_touch_1 : decode b_Mo_touch 1 = .ok (.iload_n 1, 1) := by decide +kernel
theorem d_Mo_touch_2 : decode b_Mo_touch 2 = .ok (.iconst 1, 1) := by decide +kernel
theorem d_Mo_touch_3 : decode b_Mo_touch 3 = .ok (.invokevirtual 127, 3) := by decide +kernel
theorem d_Mo_touch_6 : decode b_Mo_touch 6 = .ok (.aload_n 0, 1) := by decide +kernel
theorem d_Mo_touch_7 : decode b_Mo_touch 7 = .ok (.iload_n 1, 1) := by decide +kernel
theorem d_Mo_touch_8 : decode b_Mo_touch 8 = .ok (.iconst (-1), 1) := by decide +kernel
theorem d_Mo_touch_9 : decode b_Mo_touch 9 = .ok (.invokevirtual 127, 3) := by decide +kernel
theorem d_Mo_touch_12 : decode b_Mo_touch 12 = .ok (.return_, 1) := by decide +kernel
theorem d_Mo_drop_0 : decode b_Mo_drop 0 = .ok (.aload_n 0, 1) := by decide +kernel
theorem d_Mo_drop_1 : decode b_Mo_drop 1 = .ok (.aload_n 0, 1) := by decide +kernel
theorem d_Mo_drop_2 : decode b_Mo_drop 2 = .ok (.getfield 95, 3) := by decide +kernel
theorem d_Mo_drop_5 : decode b_Mo_drop 5 = .ok (.iload_n 1, 1) := by decide +kernel
theorem d_Mo_drop_6 : decode b_Mo_drop 6 = .ok (.isub, 1) := by decide +kernel
theorem d_Mo_drop_7 : decode b_Mo_drop 7 = .ok (.putfield 95, 3) := by decide +kernel
theorem d_Mo_drop_10 : decode b_Mo_drop 10 = .ok (.iconst 0, 1) := by decide +kernel
theorem d_Mo_drop_11 : decode b_Mo_drop 11 = .ok (.istore_n 2, 1) := by decide +kernel
theorem d_Mo_drop_12 : decode b_Mo_drop 12 = .ok (.iload_n 2, 1) := by decide +kernel
theorem d_Mo_drop_13 : decode b_Mo_drop 13 = .ok (.aload_n 0, 1) := by decide +kernel
theorem d_Mo_drop_14 : decode b_Mo_drop 14 = .ok (.getfield 95, 3) := by decide +kernel
theorem d_Mo_drop_17 : decode b_Mo_drop 17 = .ok (.if_icmp .ge 37, 3) := by decide +kernel
theorem d_Mo_drop_20 : decode b_Mo_drop 20 = .ok (.aload_n 0, 1) := by decide +kernel
theorem d_Mo_drop_21 : decode b_Mo_drop 21 = .ok (.getfield 32, 3) := by decide +kernel
theorem d_Mo_drop_24 : decode b_Mo_drop 24 = .ok (.iload_n 2, 1) := by decide +kernel
theorem d_Mo_drop_25 : decode b_Mo_drop 25 = .ok (.aload_n 0, 1) := by decide +kernel
theorem d_Mo_drop_26 : decode b_Mo_drop 26 = .ok (.getfield 32, 3) := by decide +kernel
theorem d_Mo_drop_29 : decode b_Mo_drop 29 = .ok (.iload_n 2, 1) := by decide +kernel
theorem d_Mo_drop_30 : decode b_Mo_drop 30 = .ok (.iload_n 1, 1) := by decide +kernel
theorem d_Mo_drop_31 : decode b_Mo_drop 31 = .ok (.iadd, 1) := by decide +kernel
theorem d_Mo_drop_32 : decode b_Mo_drop 32 = .ok (.iaload, 1) := by decide +kernel
theorem d_Mo_drop_33 : decode b_Mo_drop 33 = .ok (.iastore, 1) := by decide +kernel
theorem d_Mo_drop_34 : decode b_Mo_drop 34 = .ok (.aload_n 0, 1) := by decide +kernel
theorem d_Mo_drop_35 : decode b_Mo_drop 35 = .ok (.getfield 35, 3) := by decide +kernel
theorem d_Mo_drop_38 : decode b_Mo_drop 38 = .ok (.iload_n 2, 1) := by decide +kernel
theorem d_Mo_drop_39 : decode b_Mo_drop 39 = .ok (.aload_n 0, 1) := by decide +kernel
theorem d_Mo_drop_40 : decode b_Mo_drop 40 = .ok (.getfield 35, 3) := by decide +kernel
theorem d_Mo_drop_43 : decode b_Mo_drop 43 = .ok (.iload_n 2, 1) := by decide +kernel
theorem d_Mo_drop_44 : decode b_Mo_drop 44 = .ok (.iload_n 1, 1) := by decide +kernel
theorem d_Mo_drop_45 : decode b_Mo_drop 45 = .ok (.iadd, 1) := by decide +kernel
theorem d_Mo_drop_46 : decode b_Mo_drop 46 = .ok (.iaload, 1) := by decide +kernel
theorem d_Mo_drop_47 : decode b_Mo_drop 47 = .ok (.iastore, 1) := by decide +kernel
theorem d_Mo_drop_48 : decode b_Mo_drop 48 = .ok (.iinc 2 1, 3) := by decide +kernel
theorem d_Mo_drop_51 : decode b_Mo_drop 51 = .ok (.goto (-39), 3) := by decide +kernel
theorem d_Mo_drop_54 : decode b_Mo_drop 54 = .ok (.return_, 1) := by decide +kernel
theorem d_Mo_takeRelease_0 : decode b_Mo_takeRelease 0 = .ok (.aload_n 0, 1) := by decide +kernel
theorem d_Mo_takeRelease_1 : decode b_Mo_takeRelease 1 = .ok (.getfield 65, 3) := by decide +kernel
theorem d_Mo_takeRelease_4 : decode b_Mo_takeRelease 4 = .ok (.iload_n 1, 1) := by decide +kernel
theorem d_Mo_takeRelease_5 : decode b_Mo_takeRelease 5 = .ok (.iaload, 1) := by decide +kernel
theorem d_Mo_takeRelease_6 : decode b_Mo_takeRelease 6 = .ok (.istore_n 2, 1) := by decide +kernel
theorem d_Mo_takeRelease_7 : decode b_Mo_takeRelease 7 = .ok (.aload_n 0, 1) := by decide +kernel
theorem d_Mo_takeRelease_8 : decode b_Mo_takeRelease 8 = .ok (.getfield 68, 3) := by decide +kernel
theorem d_Mo_takeRelease_11 : decode b_Mo_takeRelease 11 = .ok (.iload_n 1, 1) := by decide +kernel
theorem d_Mo_takeRelease_12 : decode b_Mo_takeRelease 12 = .ok (.iaload, 1) := by decide +kernel
theorem d_Mo_takeRelease_13 : decode b_Mo_takeRelease 13 = .ok (.istore_n 3, 1) := by decide +kernel
theorem d_Mo_takeRelease_14 : decode b_Mo_takeRelease 14 = .ok (.aload_n 0, 1) := by decide +kernel
theorem d_Mo_takeRelease_15 : decode b_Mo_takeRelease 15 = .ok (.getfield 71, 3) := by decide +kernel
theorem d_Mo_takeRelease_18 : decode b_Mo_takeRelease 18 = .ok (.iload_n 1, 1) := by decide +kernel
theorem d_Mo_takeRelease_19 : decode b_Mo_takeRelease 19 = .ok (.iaload, 1) := by decide +kernel
theorem d_Mo_takeRelease_20 : decode b_Mo_takeRelease 20 = .ok (.istore 4, 2) := by decide +kernel
theorem d_Mo_takeRelease_22 : decode b_Mo_takeRelease 22 = .ok (.aload_n 0, 1) := by decide +kernel
theorem d_Mo_takeRelease_23 : decode b_Mo_takeRelease 23 = .ok (.getfield 65, 3) := by decide +kernel
theorem d_Mo_takeRelease_26 : decode b_Mo_takeRelease 26 = .ok (.iload_n 1, 1) := by decide +kernel
theorem d_Mo_takeRelease_27 : decode b_Mo_takeRelease 27 = .ok (.iconst 0, 1) := by decide +kernel
theorem d_Mo_takeRelease_28 : decode b_Mo_takeRelease 28 = .ok (.iastore, 1) := by decide +kernel
theorem d_Mo_takeRelease_29 : decode b_Mo_takeRelease 29 = .ok (.iload_n 2, 1) := by decide +kernel
theorem d_Mo_takeRelease_30 : decode b_Mo_takeRelease 30 = .ok (.iconst 3, 1) := by decide +kernel
theorem d_Mo_takeRelease_31 : decode b_Mo_takeRelease 31 = .ok (.if_icmp .ne 60, 3) := by decide +kernel
theorem d_Mo_takeRelease_34 : decode b_Mo_takeRelease 34 = .ok (.iconst 0, 1) := by decide +kernel
theorem d_Mo_takeRelease_35 : decode b_Mo_takeRelease 35 = .ok (.istore 5, 2) := by decide +kernel
theorem d_Mo_takeRelease_37 : decode b_Mo_takeRelease 37 = .ok (.iload 5, 2) := by decide +kernel
theorem d_Mo_takeRelease_39 : decode b_Mo_takeRelease 39 = .ok (.bipush 24, 2) := by decide +kernel
theorem d_Mo_takeRelease_41 : decode b_Mo_takeRelease 41 = .ok (.if_icmp .ge 50, 3) := by decide +kernel
theorem d_Mo_takeRelease_44 : decode b_Mo_takeRelease 44 = .ok (.aload_n 0, 1) := by decide +kernel
theorem d_Mo_takeRelease_45 : decode b_Mo_takeRelease 45 = .ok (.getfield 65, 3) := by decide +kernel
theorem d_Mo_takeRelease_48 : decode b_Mo_takeRelease 48 = .ok (.iload 5, 2) := by decide +kernel
theorem d_Mo_takeRelease_50 : decode b_Mo_takeRelease 50 = .ok (.aload_n 0, 1) := by decide +kernel
theorem d_Mo_takeRelease_51 : decode b_Mo_takeRelease 51 = .ok (.getfield 65, 3) := by decide +kernel
theorem d_Mo_takeRelease_54 : decode b_Mo_takeRelease 54 = .ok (.iload 5, 2) := by decide +kernel
theorem d_Mo_takeRelease_56 : decode b_Mo_takeRelease 56 = .ok (.iaload, 1) := by decide +kernel
theorem d_Mo_takeRelease_57 : decode b_Mo_takeRelease 57 = .ok (.iconst 3, 1) := by decide +kernel
theorem d_Mo_takeRelease_58 : decode b_Mo_takeRelease 58 = .ok (.if_icmp .ne 19, 3) := by decide +kernel
theorem d_Mo_takeRelease_61 : decode b_Mo_takeRelease 61 = .ok (.aload_n 0, 1) := by decide +kernel
theorem d_Mo_takeRelease_62 : decode b_Mo_takeRelease 62 = .ok (.getfield 71, 3) := by decide +kernel
theorem d_Mo_takeRelease_65 : decode b_Mo_takeRelease 65 = .ok (.iload 5, 2) := by decide +kernel
theorem d_Mo_takeRelease_67 : decode b_Mo_takeRelease 67 = .ok (.iaload, 1) := by decide +kernel
theorem d_Mo_takeRelease_68 : decode b_Mo_takeRelease 68 = .ok (.iload 4, 2) := by decide +kernel
theorem d_Mo_takeRelease_70 : decode b_Mo_takeRelease 70 = .ok (.if_icmp .ne 7, 3) := by decide +kernel
theorem d_Mo_takeRelease_73 : decode b_Mo_takeRelease 73 = .ok (.iconst 0, 1) := by decide +kernel
theorem d_Mo_takeRelease_74 : decode b_Mo_takeRelease 74 = .ok (.goto 10, 3) := by decide +kernel
theorem d_Mo_takeRelease_77 : decode b_Mo_takeRelease 77 = .ok (.aload_n 0, 1) := by decide +kernel
theorem d_Mo_takeRelease_78 : decode b_Mo_takeRelease 78 = .ok (.getfield 65, 3) := by decide +kernel
theorem d_Mo_takeRelease_81 : decode b_Mo_takeRelease 81 = .ok (.iload 5, 2) := by decide +kernel
theorem d_Mo_takeRelease_83 : decode b_Mo_takeRelease 83 = .ok (.iaload, 1) := by decide +kernel
theorem d_Mo_takeRelease_84 : decode b_Mo_takeRelease 84 = .ok (.iastore, 1) := by decide +kernel
theorem d_Mo_takeRelease_85 : decode b_Mo_takeRelease 85 = .ok (.iinc 5 1, 3) := by decide +kernel
theorem d_Mo_takeRelease_88 : decode b_Mo_takeRelease 88 = .ok (.goto (-51), 3) := by decide +kernel
theorem d_Mo_takeRelease_91 : decode b_Mo_takeRelease 91 = .ok (.iload_n 2, 1) := by decide +kernel
theorem d_Mo_takeRelease_92 : decode b_Mo_takeRelease 92 = .ok (.iconst 1, 1) := by decide +kernel
theorem d_Mo_takeRelease_93 : decode b_Mo_takeRelease 93 = .ok (.if_icmp .eq 8, 3) := by decide +kernel
theorem d_Mo_takeRelease_96 : decode b_Mo_takeRelease 96 = .ok (.iload_n 2, 1) := by decide +kernel
theorem d_Mo_takeRelease_97 : decode b_Mo_takeRelease 97 = .ok (.iconst 3, 1) := by decide +kernel
theorem d_Mo_takeRelease_98 : decode b_Mo_takeRelease 98 = .ok (.if_icmp .ne 9, 3) := by decide +kernel
theorem d_Mo_takeRelease_101 : decode b_Mo_takeRelease 101 = .ok (.aload_n 0, 1) := by decide +kernel
theorem d_Mo_takeRelease_102 : decode b_Mo_takeRelease 102 = .ok (.iload_n 3, 1) := by decide +kernel
theorem d_Mo_takeRelease_103 : decode b_Mo_takeRelease 103 = .ok (.iconst (-1), 1) := by decide +kernel
theorem d_Mo_takeRelease_104 : decode b_Mo_takeRelease 104 = .ok (.invokevirtual 127, 3) := by decide +kernel
theorem d_Mo_takeRelease_107 : decode b_Mo_takeRelease 107 = .ok (.return_, 1) := by decide +kernel
theorem d_Mo_rowLength_0 : decode b_Mo_rowLength 0 = .ok (.iconst 0, 1) := by decide +kernel
theorem d_Mo_rowLength_1 : decode b_Mo_rowLength 1 = .ok (.istore_n 1, 1) := by decide +kernel
theorem d_Mo_rowLength_2 : decode b_Mo_rowLength 2 = .ok (.iload_n 1, 1) := by decide +kernel
theorem d_Mo_rowLength_3 : decode b_Mo_rowLength 3 = .ok (.aload_n 0, 1) := by decide +kernel
theorem d_Mo_rowLength_4 : decode b_Mo_rowLength 4 = .ok (.getfield 95, 3) := by decide +kernel
theorem d_Mo_rowLength_7 : decode b_Mo_rowLength 7 = .ok (.if_icmp .ge 39, 3) := by decide +kernel
theorem d_Mo_rowLength_10 : decode b_Mo_rowLength 10 = .ok (.aload_n 0, 1) := by decide +kernel
theorem d_Mo_rowLength_11 : decode b_Mo_rowLength 11 = .ok (.getfield 32, 3) := by decide +kernel
theorem d_Mo_rowLength_14 : decode b_Mo_rowLength 14 = .ok (.iload_n 1, 1) := by decide +kernel
theorem d_Mo_rowLength_15 : decode b_Mo_rowLength 15 = .ok (.iaload, 1) := by decide +kernel
theorem d_Mo_rowLength_16 : decode b_Mo_rowLength 16 = .ok (.iconst 2, 1) := by decide +kernel
theorem d_Mo_rowLength_17 : decode b_Mo_rowLength 17 = .ok (.irem, 1) := by decide +kernel
theorem d_Mo_rowLength_18 : decode b_Mo_rowLength 18 = .ok (.iconst 1, 1) := by decide +kernel
theorem d_Mo_rowLength_19 : decode b_Mo_rowLength 19 = .ok (.if_icmp .ne 27, 3) := by decide +kernel
theorem d_Mo_rowLength_22 : decode b_Mo_rowLength 22 = .ok (.aload_n 0, 1) := by decide +kernel
theorem d_Mo_rowLength_23 : decode b_Mo_rowLength 23 = .ok (.getfield 35, 3) := by decide +kernel
theorem d_Mo_rowLength_26 : decode b_Mo_rowLength 26 = .ok (.iload_n 1, 1) := by decide +kernel
theorem d_Mo_rowLength_27 : decode b_Mo_rowLength 27 = .ok (.iaload, 1) := by decide +kernel
theorem d_Mo_rowLength_28 : decode b_Mo_rowLength 28 = .ok (.aload_n 0, 1) := by decide +kernel
theorem d_Mo_rowLength_29 : decode b_Mo_rowLength 29 = .ok (.getfield 35, 3) := by decide +kernel
theorem d_Mo_rowLength_32 : decode b_Mo_rowLength 32 = .ok (.iconst 0, 1) := by decide +kernel
theorem d_Mo_rowLength_33 : decode b_Mo_rowLength 33 = .ok (.iaload, 1) := by decide +kernel
theorem d_Mo_rowLength_34 : decode b_Mo_rowLength 34 = .ok (.bipush 9, 2) := by decide +kernel
theorem d_Mo_rowLength_36 : decode b_Mo_rowLength 36 = .ok (.iadd, 1) := by decide +kernel
theorem d_Mo_rowLength_37 : decode b_Mo_rowLength 37 = .ok (.if_icmp .gt 9, 3) := by decide +kernel
theorem d_Mo_rowLength_40 : decode b_Mo_rowLength 40 = .ok (.iinc 1 1, 3) := by decide +kernel
theorem d_Mo_rowLength_43 : decode b_Mo_rowLength 43 = .ok (.goto (-41), 3) := by decide +kernel
theorem d_Mo_rowLength_46 : decode b_Mo_rowLength 46 = .ok (.iload_n 1, 1) := by decide +kernel
theorem d_Mo_rowLength_47 : decode b_Mo_rowLength 47 = .ok (.ireturn, 1) := by decide +kernel
theorem d_Mo_keysOf_0 : decode b_Mo_keysOf 0 = .ok (.iconst 0, 1) := by decide +kernel
theorem d_Mo_keysOf_1 : decode b_Mo_keysOf 1 = .ok (.istore_n 2, 1) := by decide +kernel
theorem d_Mo_keysOf_2 : decode b_Mo_keysOf 2 = .ok (.iconst 0, 1) := by decide +kernel
theorem d_Mo_keysOf_3 : decode b_Mo_keysOf 3 = .ok (.istore_n 3, 1) := by decide +kernel
theorem d_Mo_keysOf_4 : decode b_Mo_keysOf 4 = .ok (.iload_n 3, 1) := by decide +kernel
theorem d_Mo_keysOf_5 : decode b_Mo_keysOf 5 = .ok (.iload_n 1, 1) := by decide +kernel
theorem d_Mo_keysOf_6 : decode b_Mo_keysOf 6 = .ok (.if_icmp .ge 22, 3) := by decide +kernel
theorem d_Mo_keysOf_9 : decode b_Mo_keysOf 9 = .ok (.iload_n 2, 1) := by decide +kernel
theorem d_Mo_keysOf_10 : decode b_Mo_keysOf 10 = .ok (.iconst 1, 1) := by decide +kernel
theorem d_Mo_keysOf_11 : decode b_Mo_keysOf 11 = .ok (.aload_n 0, 1) := by decide +kernel
theorem d_Mo_keysOf_12 : decode b_Mo_keysOf 12 = .ok (.getfield 32, 3) := by decide +kernel
theorem d_Mo_keysOf_15 : decode b_Mo_keysOf 15 = .ok (.iload_n 3, 1) := by decide +kernel
theorem d_Mo_keysOf_16 : decode b_Mo_keysOf 16 = .ok (.iaload, 1) := by decide +kernel
theorem d_Mo_keysOf_17 : decode b_Mo_keysOf 17 = .ok (.iconst 2, 1) := by decide +kernel
theorem d_Mo_keysOf_18 : decode b_Mo_keysOf 18 = .ok (.idiv, 1) := by decide +kernel
theorem d_Mo_keysOf_19 : decode b_Mo_keysOf 19 = .ok (.ishl, 1) := by decide +kernel
theorem d_Mo_keysOf_20 : decode b_Mo_keysOf 20 = .ok (.ior, 1) := by decide +kernel
theorem d_Mo_keysOf_21 : decode b_Mo_keysOf 21 = .ok (.istore_n 2, 1) := by decide +kernel
theorem d_Mo_keysOf_22 : decode b_Mo_keysOf 22 = .ok (.iinc 3 1, 3) := by decide +kernel
theorem d_Mo_keysOf_25 : decode b_Mo_keysOf 25 = .ok (.goto (-21), 3) := by decide +kernel
theorem d_Mo_keysOf_28 : decode b_Mo_keysOf 28 = .ok (.iload_n 2, 1) := by decide +kernel
theorem d_Mo_keysOf_29 : decode b_Mo_keysOf 29 = .ok (.ireturn, 1) := by decide +kernel
theorem d_Mo_waitsForChord_0 : decode b_Mo_waitsForChord 0 = .ok (.aload_n 0, 1) := by decide +kernel
theorem d_Mo_waitsForChord_1 : decode b_Mo_waitsForChord 1 = .ok (.iload_n 1, 1) := by decide +kernel
theorem d_Mo_waitsForChord_2 : decode b_Mo_waitsForChord 2 = .ok (.invokevirtual 130, 3) := by decide +kernel
theorem d_Mo_waitsForChord_5 : decode b_Mo_waitsForChord 5 = .ok (.istore_n 2, 1) := by decide +kernel
theorem d_Mo_waitsForChord_6 : decode b_Mo_waitsForChord 6 = .ok (.iconst 0, 1) := by decide +kernel
theorem d_Mo_waitsForChord_7 : decode b_Mo_waitsForChord 7 = .ok (.istore_n 3, 1) := by decide +kernel
theorem d_Mo_waitsForChord_8 : decode b_Mo_waitsForChord 8 = .ok (.iconst 0, 1) := by decide +kernel
theorem d_Mo_waitsForChord_9 : decode b_Mo_waitsForChord 9 = .ok (.istore 4, 2) := by decide +kernel
theorem d_Mo_waitsForChord_11 : decode b_Mo_waitsForChord 11 = .ok (.iload 4, 2) := by decide +kernel
theorem d_Mo_waitsForChord_13 : decode b_Mo_waitsForChord 13 = .ok (.iconst 4, 1) := by decide +kernel
theorem d_Mo_waitsForChord_14 : decode b_Mo_waitsForChord 14 = .ok (.if_icmp .ge 43, 3) := by decide +kernel
theorem d_Mo_waitsForChord_17 : decode b_Mo_waitsForChord 17 = .ok (.iload_n 3, 1) := by decide +kernel
theorem d_Mo_waitsForChord_18 : decode b_Mo_waitsForChord 18 = .ok (.ifCond .ne 27, 3) := by decide +kernel
theorem d_Mo_waitsForChord_21 : decode b_Mo_waitsForChord 21 = .ok (.aload_n 0, 1) := by decide +kernel
theorem d_Mo_waitsForChord_22 : decode b_Mo_waitsForChord 22 = .ok (.getfield 53, 3) := by decide +kernel
theorem d_Mo_waitsForChord_25 : decode b_Mo_waitsForChord 25 = .ok (.iload 4, 2) := by decide +kernel
theorem d_Mo_waitsForChord_27 : decode b_Mo_waitsForChord 27 = .ok (.iaload, 1) := by decide +kernel
theorem d_Mo_waitsForChord_28 : decode b_Mo_waitsForChord 28 = .ok (.iload_n 2, 1) := by decide +kernel
theorem d_Mo_waitsForChord_29 : decode b_Mo_waitsForChord 29 = .ok (.iand, 1) := by decide +kernel
theorem d_Mo_waitsForChord_30 : decode b_Mo_waitsForChord 30 = .ok (.iload_n 2, 1) := by decide +kernel
theorem d_Mo_waitsForChord_31 : decode b_Mo_waitsForChord 31 = .ok (.if_icmp .ne 18, 3) := by decide +kernel
theorem d_Mo_waitsForChord_34 : decode b_Mo_waitsForChord 34 = .ok (.aload_n 0, 1) := by decide +kernel
theorem d_Mo_waitsForChord_35 : decode b_Mo_waitsForChord 35 = .ok (.getfield 53, 3) := by decide +kernel
theorem d_Mo_waitsForChord_38 : decode b_Mo_waitsForChord 38 = .ok (.iload 4, 2) := by decide +kernel
theorem d_Mo_waitsForChord_40 : decode b_Mo_waitsForChord 40 = .ok (.iaload, 1) := by decide +kernel
theorem d_Mo_waitsForChord_41 : decode b_Mo_waitsForChord 41 = .ok (.iload_n 2, 1) := by decide +kernel
theorem d_Mo_waitsForChord_42 : decode b_Mo_waitsForChord 42 = .ok (.if_icmp .eq 7, 3) := by decide +kernel
theorem d_Mo_waitsForChord_45 : decode b_Mo_waitsForChord 45 = .ok (.iconst 1, 1) := by decide +kernel
theorem d_Mo_waitsForChord_46 : decode b_Mo_waitsForChord 46 = .ok (.goto 4, 3) := by decide +kernel
theorem d_Mo_waitsForChord_49 : decode b_Mo_waitsForChord 49 = .ok (.iconst 0, 1) := by decide +kernel
theorem d_Mo_waitsForChord_50 : decode b_Mo_waitsForChord 50 = .ok (.istore_n 3, 1) := by decide +kernel
theorem d_Mo_waitsForChord_51 : decode b_Mo_waitsForChord 51 = .ok (.iinc 4 1, 3) := by decide +kernel
theorem d_Mo_waitsForChord_54 : decode b_Mo_waitsForChord 54 = .ok (.goto (-43), 3) := by decide +kernel
theorem d_Mo_waitsForChord_57 : decode b_Mo_waitsForChord 57 = .ok (.iload_n 3, 1) := by decide +kernel
theorem d_Mo_waitsForChord_58 : decode b_Mo_waitsForChord 58 = .ok (.ifCond .eq 40, 3) := by decide +kernel
theorem d_Mo_waitsForChord_61 : decode b_Mo_waitsForChord 61 = .ok (.iload_n 1, 1) := by decide +kernel
theorem d_Mo_waitsForChord_62 : decode b_Mo_waitsForChord 62 = .ok (.aload_n 0, 1) := by decide +kernel
theorem d_Mo_waitsForChord_63 : decode b_Mo_waitsForChord 63 = .ok (.getfield 95, 3) := by decide +kernel
theorem d_Mo_waitsForChord_66 : decode b_Mo_waitsForChord 66 = .ok (.if_icmp .ne 32, 3) := by decide +kernel
theorem d_Mo_waitsForChord_69 : decode b_Mo_waitsForChord 69 = .ok (.aload_n 0, 1) := by decide +kernel
theorem d_Mo_waitsForChord_70 : decode b_Mo_waitsForChord 70 = .ok (.getfield 95, 3) := by decide +kernel
theorem d_Mo_waitsForChord_73 : decode b_Mo_waitsForChord 73 = .ok (.bipush 8, 2) := by decide +kernel
theorem d_Mo_waitsForChord_75 : decode b_Mo_waitsForChord 75 = .ok (.if_icmp .gt 23, 3) := by decide +kernel
theorem d_Mo_waitsForChord_78 : decode b_Mo_waitsForChord 78 = .ok (.aload_n 0, 1) := by decide +kernel
theorem d_Mo_waitsForChord_79 : decode b_Mo_waitsForChord 79 = .ok (.getfield 98, 3) := by decide +kernel
theorem d_Mo_waitsForChord_82 : decode b_Mo_waitsForChord 82 = .ok (.aload_n 0, 1) := by decide +kernel
theorem d_Mo_waitsForChord_83 : decode b_Mo_waitsForChord 83 = .ok (.getfield 35, 3) := by decide +kernel
theorem d_Mo_waitsForChord_86 : decode b_Mo_waitsForChord 86 = .ok (.iconst 0, 1) := by decide +kernel
theorem d_Mo_waitsForChord_87 : decode b_Mo_waitsForChord 87 = .ok (.iaload, 1) := by decide +kernel
theorem d_Mo_waitsForChord_88 : decode b_Mo_waitsForChord 88 = .ok (.bipush 9, 2) := by decide +kernel
theorem d_Mo_waitsForChord_90 : decode b_Mo_waitsForChord 90 = .ok (.iadd, 1) := by decide +kernel
theorem d_Mo_waitsForChord_91 : decode b_Mo_waitsForChord 91 = .ok (.if_icmp .ge 7, 3) := by decide +kernel
theorem d_Mo_waitsForChord_94 : decode b_Mo_waitsForChord 94 = .ok (.iconst 1, 1) := by decide +kernel
theorem d_Mo_waitsForChord_95 : decode b_Mo_waitsForChord 95 = .ok (.goto 4, 3) := by decide +kernel
theorem d_Mo_waitsForChord_98 : decode b_Mo_waitsForChord 98 = .ok (.iconst 0, 1) := by decide +kernel
theorem d_Mo_waitsForChord_99 : decode b_Mo_waitsForChord 99 = .ok (.ireturn, 1) := by decide +kernel
theorem d_Mo_bitsOf_0 : decode b_Mo_bitsOf 0 = .ok (.iconst 0, 1) := by decide +kernel
theorem d_Mo_bitsOf_1 : decode b_Mo_bitsOf 1 = .ok (.istore_n 1, 1) := by decide +kernel
theorem d_Mo_bitsOf_2 : decode b_Mo_bitsOf 2 = .ok (.iconst 0, 1) := by decide +kernel
theorem d_Mo_bitsOf_3 : decode b_Mo_bitsOf 3 = .ok (.istore_n 2, 1) := by decide +kernel
theorem d_Mo_bitsOf_4 : decode b_Mo_bitsOf 4 = .ok (.iload_n 2, 1) := by decide +kernel
theorem d_Mo_bitsOf_5 : decode b_Mo_bitsOf 5 = .ok (.bipush 24, 2) := by decide +kernel
theorem d_Mo_bitsOf_7 : decode b_Mo_bitsOf 7 = .ok (.if_icmp .ge 17, 3) := by decide +kernel
theorem d_Mo_bitsOf_10 : decode b_Mo_bitsOf 10 = .ok (.iload_n 1, 1) := by decide +kernel
theorem d_Mo_bitsOf_11 : decode b_Mo_bitsOf 11 = .ok (.iload_n 0, 1) := by decide +kernel
theorem d_Mo_bitsOf_12 : decode b_Mo_bitsOf 12 = .ok (.iload_n 2, 1) := by decide +kernel
theorem d_Mo_bitsOf_13 : decode b_Mo_bitsOf 13 = .ok (.ishr, 1) := by decide +kernel
theorem d_Mo_bitsOf_14 : decode b_Mo_bitsOf 14 = .ok (.iconst 1, 1) := by decide +kernel
theorem d_Mo_bitsOf_15 : decode b_Mo_bitsOf 15 = .ok (.iand, 1) := by decide +kernel
theorem d_Mo_bitsOf_16 : decode b_Mo_bitsOf 16 = .ok (.iadd, 1) := by decide +kernel
theorem d_Mo_bitsOf_17 : decode b_Mo_bitsOf 17 = .ok (.istore_n 1, 1) := by decide +kernel
theorem d_Mo_bitsOf_18 : decode b_Mo_bitsOf 18 = .ok (.iinc 2 1, 3) := by decide +kernel
theorem d_Mo_bitsOf_21 : decode b_Mo_bitsOf 21 = .ok (.goto (-17), 3) := by decide +kernel
theorem d_Mo_bitsOf_24 : decode b_Mo_bitsOf 24 = .ok (.iload_n 1, 1) := by decide +kernel
theorem d_Mo_bitsOf_25 : decode b_Mo_bitsOf 25 = .ok (.ireturn, 1) := by decide +kernel
