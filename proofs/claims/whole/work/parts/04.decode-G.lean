theorem d_G_init_0 : decode b_G_init 0 = .ok (.aload_n 0, 1) := by decide +kernel
theorem d_G_init_1 : decode b_G_init 1 = .ok (.invokespecial 3, 3) := by decide +kernel
theorem d_G_init_4 : decode b_G_init 4 = .ok (.aload_n 0, 1) := by decide +kernel
theorem d_G_init_5 : decode b_G_init 5 = .ok (.new 9, 3) := by decide +kernel
theorem d_G_init_8 : decode b_G_init 8 = .ok (.dup, 1) := by decide +kernel
theorem d_G_init_9 : decode b_G_init 9 = .ok (.invokespecial 11, 3) := by decide +kernel
theorem d_G_init_12 : decode b_G_init 12 = .ok (.putfield 12, 3) := by decide +kernel
theorem d_G_init_15 : decode b_G_init 15 = .ok (.aload_n 0, 1) := by decide +kernel
theorem d_G_init_16 : decode b_G_init 16 = .ok (.new 16, 3) := by decide +kernel
theorem d_G_init_19 : decode b_G_init 19 = .ok (.dup, 1) := by decide +kernel
theorem d_G_init_20 : decode b_G_init 20 = .ok (.invokespecial 18, 3) := by decide +kernel
theorem d_G_init_23 : decode b_G_init 23 = .ok (.putfield 19, 3) := by decide +kernel
theorem d_G_init_26 : decode b_G_init 26 = .ok (.aload_n 0, 1) := by decide +kernel
theorem d_G_init_27 : decode b_G_init 27 = .ok (.new 23, 3) := by decide +kernel
theorem d_G_init_30 : decode b_G_init 30 = .ok (.dup, 1) := by decide +kernel
theorem d_G_init_31 : decode b_G_init 31 = .ok (.invokespecial 25, 3) := by decide +kernel
theorem d_G_init_34 : decode b_G_init 34 = .ok (.putfield 26, 3) := by decide +kernel
theorem d_G_init_37 : decode b_G_init 37 = .ok (.aload_n 0, 1) := by decide +kernel
theorem d_G_init_38 : decode b_G_init 38 = .ok (.new 30, 3) := by decide +kernel
theorem d_G_init_41 : decode b_G_init 41 = .ok (.dup, 1) := by decide +kernel
theorem d_G_init_42 : decode b_G_init 42 = .ok (.invokespecial 32, 3) := by decide +kernel
theorem d_G_init_45 : decode b_G_init 45 = .ok (.putfield 33, 3) := by decide +kernel
theorem d_G_init_48 : decode b_G_init 48 = .ok (.aload_n 0, 1) := by decide +kernel
theorem d_G_init_49 : decode b_G_init 49 = .ok (.new 37, 3) := by decide +kernel
theorem d_G_init_52 : decode b_G_init 52 = .ok (.dup, 1) := by decide +kernel
theorem d_G_init_53 : decode b_G_init 53 = .ok (.invokespecial 39, 3) := by decide +kernel
theorem d_G_init_56 : decode b_G_init 56 = .ok (.putfield 40, 3) := by decide +kernel
theorem d_G_init_59 : decode b_G_init 59 = .ok (.aload_n 0, 1) := by decide +kernel
theorem d_G_init_60 : decode b_G_init 60 = .ok (.new 44, 3) := by decide +kernel
theorem d_G_init_63 : decode b_G_init 63 = .ok (.dup, 1) := by decide +kernel
theorem d_G_init_64 : decode b_G_init 64 = .ok (.invokespecial 46, 3) := by decide +kernel
theorem d_G_init_67 : decode b_G_init 67 = .ok (.putfield 47, 3) := by decide +kernel
theorem d_G_init_70 : decode b_G_init 70 = .ok (.aload_n 0, 1) := by decide +kernel
theorem d_G_init_71 : decode b_G_init 71 = .ok (.new 51, 3) := by decide +kernel
theorem d_G_init_74 : decode b_G_init 74 = .ok (.dup, 1) := by decide +kernel
theorem d_G_init_75 : decode b_G_init 75 = .ok (.invokespecial 53, 3) := by decide +kernel
theorem d_G_init_78 : decode b_G_init 78 = .ok (.putfield 54, 3) := by decide +kernel
theorem d_G_init_81 : decode b_G_init 81 = .ok (.aload_n 0, 1) := by decide +kernel
theorem d_G_init_82 : decode b_G_init 82 = .ok (.new 58, 3) := by decide +kernel
theorem d_G_init_85 : decode b_G_init 85 = .ok (.dup, 1) := by decide +kernel
theorem d_G_init_86 : decode b_G_init 86 = .ok (.invokespecial 60, 3) := by decide +kernel
theorem d_G_init_89 : decode b_G_init 89 = .ok (.putfield 61, 3) := by decide +kernel
theorem d_G_init_92 : decode b_G_init 92 = .ok (.aload_n 0, 1) := by decide +kernel
theorem d_G_init_93 : decode b_G_init 93 = .ok (.iconst 0, 1) := by decide +kernel
theorem d_G_init_94 : decode b_G_init 94 = .ok (.putfield 65, 3) := by decide +kernel
theorem d_G_init_97 : decode b_G_init 97 = .ok (.return_, 1) := by decide +kernel
theorem d_G_wire_0 : decode b_G_wire 0 = .ok (.iload_n 1, 1) := by decide +kernel
theorem d_G_wire_1 : decode b_G_wire 1 = .ok (.invokestatic 69, 3) := by decide +kernel
theorem d_G_wire_4 : decode b_G_wire 4 = .ok (.aload_n 0, 1) := by decide +kernel
theorem d_G_wire_5 : decode b_G_wire 5 = .ok (.getfield 12, 3) := by decide +kernel
theorem d_G_wire_8 : decode b_G_wire 8 = .ok (.iload_n 1, 1) := by decide +kernel
theorem d_G_wire_9 : decode b_G_wire 9 = .ok (.iload_n 2, 1) := by decide +kernel
theorem d_G_wire_10 : decode b_G_wire 10 = .ok (.invokevirtual 73, 3) := by decide +kernel
theorem d_G_wire_13 : decode b_G_wire 13 = .ok (.return_, 1) := by decide +kernel
theorem d_G_bounce_0 : decode b_G_bounce 0 = .ok (.iload_n 1, 1) := by decide +kernel
theorem d_G_bounce_1 : decode b_G_bounce 1 = .ok (.invokestatic 69, 3) := by decide +kernel
theorem d_G_bounce_4 : decode b_G_bounce 4 = .ok (.iload_n 2, 1) := by decide +kernel
theorem d_G_bounce_5 : decode b_G_bounce 5 = .ok (.ifCond .lt 10, 3) := by decide +kernel
theorem d_G_bounce_8 : decode b_G_bounce 8 = .ok (.iload_n 2, 1) := by decide +kernel
theorem d_G_bounce_9 : decode b_G_bounce 9 = .ok (.sipush 255, 3) := by decide +kernel
theorem d_G_bounce_12 : decode b_G_bounce 12 = .ok (.if_icmp .le 13, 3) := by decide +kernel
theorem d_G_bounce_15 : decode b_G_bounce 15 = .ok (.new 77, 3) := by decide +kernel
theorem d_G_bounce_18 : decode b_G_bounce 18 = .ok (.dup, 1) := by decide +kernel
theorem d_G_bounce_19 : decode b_G_bounce 19 = .ok (.ldc 79, 2) := by decide +kernel
theorem d_G_bounce_21 : decode b_G_bounce 21 = .ok (.invokespecial 81, 3) := by decide +kernel
theorem d_G_bounce_24 : decode b_G_bounce 24 = .ok (.athrow, 1) := by decide +kernel
theorem d_G_bounce_25 : decode b_G_bounce 25 = .ok (.aload_n 0, 1) := by decide +kernel
theorem d_G_bounce_26 : decode b_G_bounce 26 = .ok (.getfield 12, 3) := by decide +kernel
theorem d_G_bounce_29 : decode b_G_bounce 29 = .ok (.iload_n 1, 1) := by decide +kernel
theorem d_G_bounce_30 : decode b_G_bounce 30 = .ok (.iload_n 2, 1) := by decide +kernel
theorem d_G_bounce_31 : decode b_G_bounce 31 = .ok (.invokevirtual 84, 3) := by decide +kernel
theorem d_G_bounce_34 : decode b_G_bounce 34 = .ok (.return_, 1) := by decide +kernel
theorem d_G_scan_0 : decode b_G_scan 0 = .ok (.aload_n 0, 1) := by decide +kernel
theorem d_G_scan_1 : decode b_G_scan 1 = .ok (.invokevirtual 88, 3) := by decide +kernel
theorem d_G_scan_4 : decode b_G_scan 4 = .ok (.ireturn, 1) := by decide +kernel
theorem d_G_scans_0 : decode b_G_scans 0 = .ok (.iload_n 1, 1) := by decide +kernel
theorem d_G_scans_1 : decode b_G_scans 1 = .ok (.iconst 1, 1) := by decide +kernel
theorem d_G_scans_2 : decode b_G_scans 2 = .ok (.if_icmp .lt 9, 3) := by decide +kernel
theorem d_G_scans_5 : decode b_G_scans 5 = .ok (.iload_n 1, 1) := by decide +kernel
theorem d_G_scans_6 : decode b_G_scans 6 = .ok (.bipush 100, 2) := by decide +kernel
theorem d_G_scans_8 : decode b_G_scans 8 = .ok (.if_icmp .le 13, 3) := by decide +kernel
theorem d_G_scans_11 : decode b_G_scans 11 = .ok (.new 77, 3) := by decide +kernel
theorem d_G_scans_14 : decode b_G_scans 14 = .ok (.dup, 1) := by decide +kernel
theorem d_G_scans_15 : decode b_G_scans 15 = .ok (.ldc 92, 2) := by decide +kernel
theorem d_G_scans_17 : decode b_G_scans 17 = .ok (.invokespecial 81, 3) := by decide +kernel
theorem d_G_scans_20 : decode b_G_scans 20 = .ok (.athrow, 1) := by decide +kernel
theorem d_G_scans_21 : decode b_G_scans 21 = .ok (.iconst 0, 1) := by decide +kernel
theorem d_G_scans_22 : decode b_G_scans 22 = .ok (.istore_n 2, 1) := by decide +kernel
theorem d_G_scans_23 : decode b_G_scans 23 = .ok (.iconst 0, 1) := by decide +kernel
theorem d_G_scans_24 : decode b_G_scans 24 = .ok (.istore_n 3, 1) := by decide +kernel
theorem d_G_scans_25 : decode b_G_scans 25 = .ok (.iload_n 3, 1) := by decide +kernel
theorem d_G_scans_26 : decode b_G_scans 26 = .ok (.iload_n 1, 1) := by decide +kernel
theorem d_G_scans_27 : decode b_G_scans 27 = .ok (.if_icmp .ge 16, 3) := by decide +kernel
theorem d_G_scans_30 : decode b_G_scans 30 = .ok (.iload_n 2, 1) := by decide +kernel
theorem d_G_scans_31 : decode b_G_scans 31 = .ok (.aload_n 0, 1) := by decide +kernel
theorem d_G_scans_32 : decode b_G_scans 32 = .ok (.invokevirtual 88, 3) := by decide +kernel
theorem d_G_scans_35 : decode b_G_scans 35 = .ok (.iadd, 1) := by decide +kernel
theorem d_G_scans_36 : decode b_G_scans 36 = .ok (.istore_n 2, 1) := by decide +kernel
theorem d_G_scans_37 : decode b_G_scans 37 = .ok (.iinc 3 1, 3) := by decide +kernel
theorem d_G_scans_40 : decode b_G_scans 40 = .ok (.goto (-15), 3) := by decide +kernel
theorem d_G_scans_43 : decode b_G_scans 43 = .ok (.iload_n 2, 1) := by decide +kernel
theorem d_G_scans_44 : decode b_G_scans 44 = .ok (.ireturn, 1) := by decide +kernel
theorem d_G_poll_0 : decode b_G_poll 0 = .ok (.aload_n 0, 1) := by decide +kernel
theorem d_G_poll_1 : decode b_G_poll 1 = .ok (.getfield 61, 3) := by decide +kernel
theorem d_G_poll_4 : decode b_G_poll 4 = .ok (.invokevirtual 94, 3) := by decide +kernel
theorem d_G_poll_7 : decode b_G_poll 7 = .ok (.ireturn, 1) := by decide +kernel
theorem d_G_report_0 : decode b_G_report 0 = .ok (.aload_n 0, 1) := by decide +kernel
theorem d_G_report_1 : decode b_G_report 1 = .ok (.getfield 61, 3) := by decide +kernel
theorem d_G_report_4 : decode b_G_report 4 = .ok (.iload_n 1, 1) := by decide +kernel
theorem d_G_report_5 : decode b_G_report 5 = .ok (.invokevirtual 98, 3) := by decide +kernel
theorem d_G_report_8 : decode b_G_report 8 = .ok (.ireturn, 1) := by decide +kernel
theorem d_G_waiting_0 : decode b_G_waiting 0 = .ok (.aload_n 0, 1) := by decide +kernel
theorem d_G_waiting_1 : decode b_G_waiting 1 = .ok (.getfield 61, 3) := by decide +kernel
theorem d_G_waiting_4 : decode b_G_waiting 4 = .ok (.invokevirtual 102, 3) := by decide +kernel
theorem d_G_waiting_7 : decode b_G_waiting 7 = .ok (.ireturn, 1) := by decide +kernel
theorem d_G_late_0 : decode b_G_late 0 = .ok (.aload_n 0, 1) := by decide +kernel
theorem d_G_late_1 : decode b_G_late 1 = .ok (.getfield 61, 3) := by decide +kernel
theorem d_G_late_4 : decode b_G_late 4 = .ok (.invokevirtual 105, 3) := by decide +kernel
theorem d_G_late_7 : decode b_G_late 7 = .ok (.ireturn, 1) := by decide +kernel
theorem d_G_map_0 : decode b_G_map 0 = .ok (.iload_n 1, 1) := by decide +kernel
theorem d_G_map_1 : decode b_G_map 1 = .ok (.invokestatic 108, 3) := by decide +kernel
theorem d_G_map_4 : decode b_G_map 4 = .ok (.iload_n 2, 1) := by decide +kernel
theorem d_G_map_5 : decode b_G_map 5 = .ok (.invokestatic 69, 3) := by decide +kernel
theorem d_G_map_8 : decode b_G_map 8 = .ok (.iload_n 3, 1) := by decide +kernel
theorem d_G_map_9 : decode b_G_map 9 = .ok (.iload 4, 2) := by decide +kernel
theorem d_G_map_11 : decode b_G_map 11 = .ok (.iload 5, 2) := by decide +kernel
theorem d_G_map_13 : decode b_G_map 13 = .ok (.invokestatic 111, 3) := by decide +kernel
theorem d_G_map_16 : decode b_G_map 16 = .ok (.ifCond .ne 13, 3) := by decide +kernel
theorem d_G_map_19 : decode b_G_map 19 = .ok (.new 77, 3) := by decide +kernel
theorem d_G_map_22 : decode b_G_map 22 = .ok (.dup, 1) := by decide +kernel
theorem d_G_map_23 : decode b_G_map 23 = .ok (.ldc 115, 2) := by decide +kernel
theorem d_G_map_25 : decode b_G_map 25 = .ok (.invokespecial 81, 3) := by decide +kernel
theorem d_G_map_28 : decode b_G_map 28 = .ok (.athrow, 1) := by decide +kernel
theorem d_G_map_29 : decode b_G_map 29 = .ok (.aload_n 0, 1) := by decide +kernel
theorem d_G_map_30 : decode b_G_map 30 = .ok (.getfield 33, 3) := by decide +kernel
theorem d_G_map_33 : decode b_G_map 33 = .ok (.iload_n 1, 1) := by decide +kernel
theorem d_G_map_34 : decode b_G_map 34 = .ok (.iload_n 2, 1) := by decide +kernel
theorem d_G_map_35 : decode b_G_map 35 = .ok (.iload_n 3, 1) := by decide +kernel
theorem d_G_map_36 : decode b_G_map 36 = .ok (.iload 4, 2) := by decide +kernel
theorem d_G_map_38 : decode b_G_map 38 = .ok (.iload 5, 2) := by decide +kernel
theorem d_G_map_40 : decode b_G_map 40 = .ok (.invokevirtual 117, 3) := by decide +kernel
theorem d_G_map_43 : decode b_G_map 43 = .ok (.return_, 1) := by decide +kernel
theorem d_G_macro_0 : decode b_G_macro 0 = .ok (.iload_n 1, 1) := by decide +kernel
theorem d_G_macro_1 : decode b_G_macro 1 = .ok (.ifCond .lt 17, 3) := by decide +kernel
theorem d_G_macro_4 : decode b_G_macro 4 = .ok (.iload_n 1, 1) := by decide +kernel
theorem d_G_macro_5 : decode b_G_macro 5 = .ok (.iconst 4, 1) := by decide +kernel
theorem d_G_macro_6 : decode b_G_macro 6 = .ok (.if_icmp .ge 12, 3) := by decide +kernel
theorem d_G_macro_9 : decode b_G_macro 9 = .ok (.iload_n 2, 1) := by decide +kernel
theorem d_G_macro_10 : decode b_G_macro 10 = .ok (.ifCond .lt 8, 3) := by decide +kernel
theorem d_G_macro_13 : decode b_G_macro 13 = .ok (.iload_n 2, 1) := by decide +kernel
theorem d_G_macro_14 : decode b_G_macro 14 = .ok (.iconst 4, 1) := by decide +kernel
theorem d_G_macro_15 : decode b_G_macro 15 = .ok (.if_icmp .lt 13, 3) := by decide +kernel
theorem d_G_macro_18 : decode b_G_macro 18 = .ok (.new 121, 3) := by decide +kernel
theorem d_G_macro_21 : decode b_G_macro 21 = .ok (.dup, 1) := by decide +kernel
theorem d_G_macro_22 : decode b_G_macro 22 = .ok (.ldc 123, 2) := by decide +kernel
theorem d_G_macro_24 : decode b_G_macro 24 = .ok (.invokespecial 125, 3) := by decide +kernel
theorem d_G_macro_27 : decode b_G_macro 27 = .ok (.athrow, 1) := by decide +kernel
theorem d_G_macro_28 : decode b_G_macro 28 = .ok (.iload_n 3, 1) := by decide +kernel
theorem d_G_macro_29 : decode b_G_macro 29 = .ok (.ifCond .eq 20, 3) := by decide +kernel
theorem d_G_macro_32 : decode b_G_macro 32 = .ok (.iload_n 3, 1) := by decide +kernel
theorem d_G_macro_33 : decode b_G_macro 33 = .ok (.invokestatic 126, 3) := by decide +kernel
theorem d_G_macro_36 : decode b_G_macro 36 = .ok (.ifCond .ne 13, 3) := by decide +kernel
theorem d_G_macro_39 : decode b_G_macro 39 = .ok (.new 77, 3) := by decide +kernel
theorem d_G_macro_42 : decode b_G_macro 42 = .ok (.dup, 1) := by decide +kernel
theorem d_G_macro_43 : decode b_G_macro 43 = .ok (.ldc 130, 2) := by decide +kernel
theorem d_G_macro_45 : decode b_G_macro 45 = .ok (.invokespecial 81, 3) := by decide +kernel
theorem d_G_macro_48 : decode b_G_macro 48 = .ok (.athrow, 1) := by decide +kernel
theorem d_G_macro_49 : decode b_G_macro 49 = .ok (.aload_n 0, 1) := by decide +kernel
theorem d_G_macro_50 : decode b_G_macro 50 = .ok (.getfield 33, 3) := by decide +kernel
theorem d_G_macro_53 : decode b_G_macro 53 = .ok (.iload_n 1, 1) := by decide +kernel
theorem d_G_macro_54 : decode b_G_macro 54 = .ok (.iload_n 2, 1) := by decide +kernel
theorem d_G_macro_55 : decode b_G_macro 55 = .ok (.iload_n 3, 1) := by decide +kernel
theorem d_G_macro_56 : decode b_G_macro 56 = .ok (.invokevirtual 132, 3) := by decide +kernel
theorem d_G_macro_59 : decode b_G_macro 59 = .ok (.return_, 1) := by decide +kernel
theorem d_G_chord_0 : decode b_G_chord 0 = .ok (.iload_n 1, 1) := by decide +kernel
theorem d_G_chord_1 : decode b_G_chord 1 = .ok (.ifCond .lt 8, 3) := by decide +kernel
theorem d_G_chord_4 : decode b_G_chord 4 = .ok (.iload_n 1, 1) := by decide +kernel
theorem d_G_chord_5 : decode b_G_chord 5 = .ok (.iconst 4, 1) := by decide +kernel
theorem d_G_chord_6 : decode b_G_chord 6 = .ok (.if_icmp .lt 13, 3) := by decide +kernel
theorem d_G_chord_9 : decode b_G_chord 9 = .ok (.new 121, 3) := by decide +kernel
theorem d_G_chord_12 : decode b_G_chord 12 = .ok (.dup, 1) := by decide +kernel
theorem d_G_chord_13 : decode b_G_chord 13 = .ok (.ldc 136, 2) := by decide +kernel
theorem d_G_chord_15 : decode b_G_chord 15 = .ok (.invokespecial 125, 3) := by decide +kernel
theorem d_G_chord_18 : decode b_G_chord 18 = .ok (.athrow, 1) := by decide +kernel
theorem d_G_chord_19 : decode b_G_chord 19 = .ok (.iload_n 2, 1) := by decide +kernel
theorem d_G_chord_20 : decode b_G_chord 20 = .ok (.ifCond .eq 27, 3) := by decide +kernel
theorem d_G_chord_23 : decode b_G_chord 23 = .ok (.iload_n 2, 1) := by decide +kernel
theorem d_G_chord_24 : decode b_G_chord 24 = .ok (.invokestatic 138, 3) := by decide +kernel
theorem d_G_chord_27 : decode b_G_chord 27 = .ok (.ifCond .eq 10, 3) := by decide +kernel
theorem d_G_chord_30 : decode b_G_chord 30 = .ok (.iload_n 3, 1) := by decide +kernel
theorem d_G_chord_31 : decode b_G_chord 31 = .ok (.invokestatic 126, 3) := by decide +kernel
theorem d_G_chord_34 : decode b_G_chord 34 = .ok (.ifCond .ne 13, 3) := by decide +kernel
theorem d_G_chord_37 : decode b_G_chord 37 = .ok (.new 77, 3) := by decide +kernel
theorem d_G_chord_40 : decode b_G_chord 40 = .ok (.dup, 1) := by decide +kernel
theorem d_G_chord_41 : decode b_G_chord 41 = .ok (.ldc 141, 2) := by decide +kernel
theorem d_G_chord_43 : decode b_G_chord 43 = .ok (.invokespecial 81, 3) := by decide +kernel
theorem d_G_chord_46 : decode b_G_chord 46 = .ok (.athrow, 1) := by decide +kernel
theorem d_G_chord_47 : decode b_G_chord 47 = .ok (.iload_n 2, 1) := by decide +kernel
theorem d_G_chord_48 : decode b_G_chord 48 = .ok (.ifCond .eq 25, 3) := by decide +kernel
theorem d_G_chord_51 : decode b_G_chord 51 = .ok (.aload_n 0, 1) := by decide +kernel
theorem d_G_chord_52 : decode b_G_chord 52 = .ok (.getfield 40, 3) := by decide +kernel
theorem d_G_chord_55 : decode b_G_chord 55 = .ok (.iload_n 1, 1) := by decide +kernel
theorem d_G_chord_56 : decode b_G_chord 56 = .ok (.iload_n 2, 1) := by decide +kernel
theorem d_G_chord_57 : decode b_G_chord 57 = .ok (.invokevirtual 143, 3) := by decide +kernel
theorem d_G_chord_60 : decode b_G_chord 60 = .ok (.ifCond .eq 13, 3) := by decide +kernel
theorem d_G_chord_63 : decode b_G_chord 63 = .ok (.new 147, 3) := by decide +kernel
theorem d_G_chord_66 : decode b_G_chord 66 = .ok (.dup, 1) := by decide +kernel
theorem d_G_chord_67 : decode b_G_chord 67 = .ok (.ldc 149, 2) := by decide +kernel
theorem d_G_chord_69 : decode b_G_chord 69 = .ok (.invokespecial 151, 3) := by decide +kernel
theorem d_G_chord_72 : decode b_G_chord 72 = .ok (.athrow, 1) := by decide +kernel
theorem d_G_chord_73 : decode b_G_chord 73 = .ok (.aload_n 0, 1) := by decide +kernel
theorem d_G_chord_74 : decode b_G_chord 74 = .ok (.getfield 40, 3) := by decide +kernel
theorem d_G_chord_77 : decode b_G_chord 77 = .ok (.iload_n 1, 1) := by decide +kernel
theorem d_G_chord_78 : decode b_G_chord 78 = .ok (.iload_n 2, 1) := by decide +kernel
theorem d_G_chord_79 : decode b_G_chord 79 = .ok (.iload_n 3, 1) := by decide +kernel
theorem d_G_chord_80 : decode b_G_chord 80 = .ok (.invokevirtual 152, 3) := by decide +kernel
theorem d_G_chord_83 : decode b_G_chord 83 = .ok (.return_, 1) := by decide +kernel
theorem d_G_on_0 : decode b_G_on 0 = .ok (.iload_n 1, 1) := by decide +kernel
theorem d_G_on_1 : decode b_G_on 1 = .ok (.invokestatic 108, 3) := by decide +kernel
theorem d_G_on_4 : decode b_G_on 4 = .ok (.aload_n 0, 1) := by decide +kernel
theorem d_G_on_5 : decode b_G_on 5 = .ok (.getfield 47, 3) := by decide +kernel
theorem d_G_on_8 : decode b_G_on 8 = .ok (.iload_n 1, 1) := by decide +kernel
theorem d_G_on_9 : decode b_G_on 9 = .ok (.invokevirtual 155, 3) := by decide +kernel
theorem d_G_on_12 : decode b_G_on 12 = .ok (.ireturn, 1) := by decide +kernel
theorem d_G_top_0 : decode b_G_top 0 = .ok (.iload_n 1, 1) := by decide +kernel
theorem d_G_top_1 : decode b_G_top 1 = .ok (.invokestatic 69, 3) := by decide +kernel
theorem d_G_top_4 : decode b_G_top 4 = .ok (.aload_n 0, 1) := by decide +kernel
theorem d_G_top_5 : decode b_G_top 5 = .ok (.getfield 33, 3) := by decide +kernel
theorem d_G_top_8 : decode b_G_top 8 = .ok (.iload_n 1, 1) := by decide +kernel
theorem d_G_top_9 : decode b_G_top 9 = .ok (.aload_n 0, 1) := by decide +kernel
theorem d_G_top_10 : decode b_G_top 10 = .ok (.getfield 47, 3) := by decide +kernel
theorem d_G_top_13 : decode b_G_top 13 = .ok (.invokevirtual 158, 3) := by decide +kernel
theorem d_G_top_16 : decode b_G_top 16 = .ok (.ireturn, 1) := by decide +kernel
theorem d_G_key_0 : decode b_G_key 0 = .ok (.iload_n 1, 1) := by decide +kernel
theorem d_G_key_1 : decode b_G_key 1 = .ok (.invokestatic 69, 3) := by decide +kernel
theorem d_G_key_4 : decode b_G_key 4 = .ok (.iload_n 2, 1) := by decide +kernel
theorem d_G_key_5 : decode b_G_key 5 = .ok (.ifCond .lt 8, 3) := by decide +kernel
theorem d_G_key_8 : decode b_G_key 8 = .ok (.iload_n 2, 1) := by decide +kernel
theorem d_G_key_9 : decode b_G_key 9 = .ok (.iconst 3, 1) := by decide +kernel
theorem d_G_key_10 : decode b_G_key 10 = .ok (.if_icmp .le 13, 3) := by decide +kernel
theorem d_G_key_13 : decode b_G_key 13 = .ok (.new 121, 3) := by decide +kernel
theorem d_G_key_16 : decode b_G_key 16 = .ok (.dup, 1) := by decide +kernel
theorem d_G_key_17 : decode b_G_key 17 = .ok (.ldc 162, 2) := by decide +kernel
theorem d_G_key_19 : decode b_G_key 19 = .ok (.invokespecial 125, 3) := by decide +kernel
theorem d_G_key_22 : decode b_G_key 22 = .ok (.athrow, 1) := by decide +kernel
theorem d_G_key_23 : decode b_G_key 23 = .ok (.aload_n 0, 1) := by decide +kernel
theorem d_G_key_24 : decode b_G_key 24 = .ok (.getfield 12, 3) := by decide +kernel
theorem d_G_key_27 : decode b_G_key 27 = .ok (.iload_n 2, 1) := by decide +kernel
theorem d_G_key_28 : decode b_G_key 28 = .ok (.invokevirtual 164, 3) := by decide +kernel
theorem d_G_key_31 : decode b_G_key 31 = .ok (.iload_n 1, 1) := by decide +kernel
theorem d_G_key_32 : decode b_G_key 32 = .ok (.ishr, 1) := by decide +kernel
theorem d_G_key_33 : decode b_G_key 33 = .ok (.iconst 1, 1) := by decide +kernel
theorem d_G_key_34 : decode b_G_key 34 = .ok (.iand, 1) := by decide +kernel
theorem d_G_key_35 : decode b_G_key 35 = .ok (.ireturn, 1) := by decide +kernel
theorem d_G_queued_0 : decode b_G_queued 0 = .ok (.aload_n 0, 1) := by decide +kernel
theorem d_G_queued_1 : decode b_G_queued 1 = .ok (.getfield 26, 3) := by decide +kernel
theorem d_G_queued_4 : decode b_G_queued 4 = .ok (.invokevirtual 167, 3) := by decide +kernel
theorem d_G_queued_7 : decode b_G_queued 7 = .ok (.ireturn, 1) := by decide +kernel
theorem d_G_history_0 : decode b_G_history 0 = .ok (.aload_n 0, 1) := by decide +kernel
theorem d_G_history_1 : decode b_G_history 1 = .ok (.getfield 19, 3) := by decide +kernel
theorem d_G_history_4 : decode b_G_history 4 = .ok (.iload_n 1, 1) := by decide +kernel
theorem d_G_history_5 : decode b_G_history 5 = .ok (.invokevirtual 170, 3) := by decide +kernel
theorem d_G_history_8 : decode b_G_history 8 = .ok (.ireturn, 1) := by decide +kernel
theorem d_G_requireKey_0 : decode b_G_requireKey 0 = .ok (.iload_n 0, 1) := by decide +kernel
theorem d_G_requireKey_1 : decode b_G_requireKey 1 = .ok (.ifCond .lt 9, 3) := by decide +kernel
theorem d_G_requireKey_4 : decode b_G_requireKey 4 = .ok (.iload_n 0, 1) := by decide +kernel
theorem d_G_requireKey_5 : decode b_G_requireKey 5 = .ok (.bipush 24, 2) := by decide +kernel
theorem d_G_requireKey_7 : decode b_G_requireKey 7 = .ok (.if_icmp .lt 13, 3) := by decide +kernel
theorem d_G_requireKey_10 : decode b_G_requireKey 10 = .ok (.new 121, 3) := by decide +kernel
theorem d_G_requireKey_13 : decode b_G_requireKey 13 = .ok (.dup, 1) := by decide +kernel
theorem d_G_requireKey_14 : decode b_G_requireKey 14 = .ok (.ldc 173, 2) := by decide +kernel
theorem d_G_requireKey_16 : decode b_G_requireKey 16 = .ok (.invokespecial 125, 3) := by decide +kernel
theorem d_G_requireKey_19 : decode b_G_requireKey 19 = .ok (.athrow, 1) := by decide +kernel
theorem d_G_requireKey_20 : decode b_G_requireKey 20 = .ok (.return_, 1) := by decide +kernel
theorem d_G_requireLayer_0 : decode b_G_requireLayer 0 = .ok (.iload_n 0, 1) := by decide +kernel
theorem d_G_requireLayer_1 : decode b_G_requireLayer 1 = .ok (.ifCond .lt 8, 3) := by decide +kernel
theorem d_G_requireLayer_4 : decode b_G_requireLayer 4 = .ok (.iload_n 0, 1) := by decide +kernel
theorem d_G_requireLayer_5 : decode b_G_requireLayer 5 = .ok (.iconst 4, 1) := by decide +kernel
theorem d_G_requireLayer_6 : decode b_G_requireLayer 6 = .ok (.if_icmp .lt 13, 3) := by decide +kernel
theorem d_G_requireLayer_9 : decode b_G_requireLayer 9 = .ok (.new 121, 3) := by decide +kernel
theorem d_G_requireLayer_12 : decode b_G_requireLayer 12 = .ok (.dup, 1) := by decide +kernel
theorem d_G_requireLayer_13 : decode b_G_requireLayer 13 = .ok (.ldc 175, 2) := by decide +kernel
theorem d_G_requireLayer_15 : decode b_G_requireLayer 15 = .ok (.invokespecial 125, 3) := by decide +kernel
theorem d_G_requireLayer_18 : decode b_G_requireLayer 18 = .ok (.athrow, 1) := by decide +kernel
theorem d_G_requireLayer_19 : decode b_G_requireLayer 19 = .ok (.return_, 1) := by decide +kernel
theorem d_G_isCode_0 : decode b_G_isCode 0 = .ok (.iload_n 0, 1) := by decide +kernel
theorem d_G_isCode_1 : decode b_G_isCode 1 = .ok (.iconst 4, 1) := by decide +kernel
theorem d_G_isCode_2 : decode b_G_isCode 2 = .ok (.if_icmp .lt 13, 3) := by decide +kernel
theorem d_G_isCode_5 : decode b_G_isCode 5 = .ok (.iload_n 0, 1) := by decide +kernel
theorem d_G_isCode_6 : decode b_G_isCode 6 = .ok (.bipush 107, 2) := by decide +kernel
theorem d_G_isCode_8 : decode b_G_isCode 8 = .ok (.if_icmp .gt 7, 3) := by decide +kernel
theorem d_G_isCode_11 : decode b_G_isCode 11 = .ok (.iconst 1, 1) := by decide +kernel
theorem d_G_isCode_12 : decode b_G_isCode 12 = .ok (.goto 4, 3) := by decide +kernel
theorem d_G_isCode_15 : decode b_G_isCode 15 = .ok (.iconst 0, 1) := by decide +kernel
theorem d_G_isCode_16 : decode b_G_isCode 16 = .ok (.ireturn, 1) := by decide +kernel
theorem d_G_isUpperLayer_0 : decode b_G_isUpperLayer 0 = .ok (.iload_n 0, 1) := by decide +kernel
theorem d_G_isUpperLayer_1 : decode b_G_isUpperLayer 1 = .ok (.iconst 1, 1) := by decide +kernel
theorem d_G_isUpperLayer_2 : decode b_G_isUpperLayer 2 = .ok (.if_icmp .lt 12, 3) := by decide +kernel
theorem d_G_isUpperLayer_5 : decode b_G_isUpperLayer 5 = .ok (.iload_n 0, 1) := by decide +kernel
theorem d_G_isUpperLayer_6 : decode b_G_isUpperLayer 6 = .ok (.iconst 4, 1) := by decide +kernel
theorem d_G_isUpperLayer_7 : decode b_G_isUpperLayer 7 = .ok (.if_icmp .ge 7, 3) := by decide +kernel
theorem d_G_isUpperLayer_10 : decode b_G_isUpperLayer 10 = .ok (.iconst 1, 1) := by decide +kernel
theorem d_G_isUpperLayer_11 : decode b_G_isUpperLayer 11 = .ok (.goto 4, 3) := by decide +kernel
theorem d_G_isUpperLayer_14 : decode b_G_isUpperLayer 14 = .ok (.iconst 0, 1) := by decide +kernel
theorem d_G_isUpperLayer_15 : decode b_G_isUpperLayer 15 = .ok (.ireturn, 1) := by decide +kernel
theorem d_G_isChord_0 : decode b_G_isChord 0 = .ok (.iload_n 0, 1) := by decide +kernel
theorem d_G_isChord_1 : decode b_G_isChord 1 = .ok (.invokestatic 177, 3) := by decide +kernel
theorem d_G_isChord_4 : decode b_G_isChord 4 = .ok (.istore_n 1, 1) := by decide +kernel
theorem d_G_isChord_5 : decode b_G_isChord 5 = .ok (.iload_n 0, 1) := by decide +kernel
theorem d_G_isChord_6 : decode b_G_isChord 6 = .ok (.bipush 24, 2) := by decide +kernel
theorem d_G_isChord_8 : decode b_G_isChord 8 = .ok (.iushr, 1) := by decide +kernel
theorem d_G_isChord_9 : decode b_G_isChord 9 = .ok (.ifCond .ne 17, 3) := by decide +kernel
theorem d_G_isChord_12 : decode b_G_isChord 12 = .ok (.iload_n 1, 1) := by decide +kernel
theorem d_G_isChord_13 : decode b_G_isChord 13 = .ok (.iconst 2, 1) := by decide +kernel
theorem d_G_isChord_14 : decode b_G_isChord 14 = .ok (.if_icmp .lt 12, 3) := by decide +kernel
theorem d_G_isChord_17 : decode b_G_isChord 17 = .ok (.iload_n 1, 1) := by decide +kernel
theorem d_G_isChord_18 : decode b_G_isChord 18 = .ok (.iconst 4, 1) := by decide +kernel
theorem d_G_isChord_19 : decode b_G_isChord 19 = .ok (.if_icmp .gt 7, 3) := by decide +kernel
theorem d_G_isChord_22 : decode b_G_isChord 22 = .ok (.iconst 1, 1) := by decide +kernel
theorem d_G_isChord_23 : decode b_G_isChord 23 = .ok (.goto 4, 3) := by decide +kernel
theorem d_G_isChord_26 : decode b_G_isChord 26 = .ok (.iconst 0, 1) := by decide +kernel
theorem d_G_isChord_27 : decode b_G_isChord 27 = .ok (.ireturn, 1) := by decide +kernel
theorem d_G_isAction_0 : decode b_G_isAction 0 = .ok (.iload_n 0, 1) := by decide +kernel
theorem d_G_isAction_1 : decode b_G_isAction 1 = .ok (.tableswitch 90 0 6 #[43, 45, 50, 50, 50, 55, 75], 43) := by decide +kernel
theorem d_G_isAction_44 : decode b_G_isAction 44 = .ok (.iconst 1, 1) := by decide +kernel
theorem d_G_isAction_45 : decode b_G_isAction 45 = .ok (.ireturn, 1) := by decide +kernel
theorem d_G_isAction_46 : decode b_G_isAction 46 = .ok (.iload_n 1, 1) := by decide +kernel
theorem d_G_isAction_47 : decode b_G_isAction 47 = .ok (.invokestatic 126, 3) := by decide +kernel
theorem d_G_isAction_50 : decode b_G_isAction 50 = .ok (.ireturn, 1) := by decide +kernel
theorem d_G_isAction_51 : decode b_G_isAction 51 = .ok (.iload_n 1, 1) := by decide +kernel
theorem d_G_isAction_52 : decode b_G_isAction 52 = .ok (.invokestatic 182, 3) := by decide +kernel
theorem d_G_isAction_55 : decode b_G_isAction 55 = .ok (.ireturn, 1) := by decide +kernel
theorem d_G_isAction_56 : decode b_G_isAction 56 = .ok (.iload_n 1, 1) := by decide +kernel
theorem d_G_isAction_57 : decode b_G_isAction 57 = .ok (.invokestatic 126, 3) := by decide +kernel
theorem d_G_isAction_60 : decode b_G_isAction 60 = .ok (.ifCond .eq 14, 3) := by decide +kernel
theorem d_G_isAction_63 : decode b_G_isAction 63 = .ok (.iload_n 2, 1) := by decide +kernel
theorem d_G_isAction_64 : decode b_G_isAction 64 = .ok (.invokestatic 182, 3) := by decide +kernel
theorem d_G_isAction_67 : decode b_G_isAction 67 = .ok (.ifCond .eq 7, 3) := by decide +kernel
theorem d_G_isAction_70 : decode b_G_isAction 70 = .ok (.iconst 1, 1) := by decide +kernel
theorem d_G_isAction_71 : decode b_G_isAction 71 = .ok (.goto 4, 3) := by decide +kernel
theorem d_G_isAction_74 : decode b_G_isAction 74 = .ok (.iconst 0, 1) := by decide +kernel
theorem d_G_isAction_75 : decode b_G_isAction 75 = .ok (.ireturn, 1) := by decide +kernel
theorem d_G_isAction_76 : decode b_G_isAction 76 = .ok (.iload_n 1, 1) := by decide +kernel
theorem d_G_isAction_77 : decode b_G_isAction 77 = .ok (.ifCond .lt 12, 3) := by decide +kernel
theorem d_G_isAction_80 : decode b_G_isAction 80 = .ok (.iload_n 1, 1) := by decide +kernel
theorem d_G_isAction_81 : decode b_G_isAction 81 = .ok (.iconst 4, 1) := by decide +kernel
theorem d_G_isAction_82 : decode b_G_isAction 82 = .ok (.if_icmp .ge 7, 3) := by decide +kernel
theorem d_G_isAction_85 : decode b_G_isAction 85 = .ok (.iconst 1, 1) := by decide +kernel
theorem d_G_isAction_86 : decode b_G_isAction 86 = .ok (.goto 4, 3) := by decide +kernel
theorem d_G_isAction_89 : decode b_G_isAction 89 = .ok (.iconst 0, 1) := by decide +kernel
theorem d_G_isAction_90 : decode b_G_isAction 90 = .ok (.ireturn, 1) := by decide +kernel
theorem d_G_isAction_91 : decode b_G_isAction 91 = .ok (.iconst 0, 1) := by decide +kernel
theorem d_G_isAction_92 : decode b_G_isAction 92 = .ok (.ireturn, 1) := by decide +kernel
theorem d_G_runScan_0 : decode b_G_runScan 0 = .ok (.aload_n 0, 1) := by decide +kernel
theorem d_G_runScan_1 : decode b_G_runScan 1 = .ok (.getfield 12, 3) := by decide +kernel
theorem d_G_runScan_4 : decode b_G_runScan 4 = .ok (.invokevirtual 185, 3) := by decide +kernel
theorem d_G_runScan_7 : decode b_G_runScan 7 = .ok (.aload_n 0, 1) := by decide +kernel
theorem d_G_runScan_8 : decode b_G_runScan 8 = .ok (.invokevirtual 188, 3) := by decide +kernel
theorem d_G_runScan_11 : decode b_G_runScan 11 = .ok (.istore_n 1, 1) := by decide +kernel
theorem d_G_runScan_12 : decode b_G_runScan 12 = .ok (.iconst 1, 1) := by decide +kernel
theorem d_G_runScan_13 : decode b_G_runScan 13 = .ok (.istore_n 2, 1) := by decide +kernel
theorem d_G_runScan_14 : decode b_G_runScan 14 = .ok (.iconst 0, 1) := by decide +kernel
theorem d_G_runScan_15 : decode b_G_runScan 15 = .ok (.istore_n 3, 1) := by decide +kernel
theorem d_G_runScan_16 : decode b_G_runScan 16 = .ok (.iload_n 2, 1) := by decide +kernel
theorem d_G_runScan_17 : decode b_G_runScan 17 = .ok (.ifCond .eq 20, 3) := by decide +kernel
theorem d_G_runScan_20 : decode b_G_runScan 20 = .ok (.iload_n 3, 1) := by decide +kernel
theorem d_G_runScan_21 : decode b_G_runScan 21 = .ok (.bipush 32, 2) := by decide +kernel
theorem d_G_runScan_23 : decode b_G_runScan 23 = .ok (.if_icmp .ge 14, 3) := by decide +kernel
theorem d_G_runScan_26 : decode b_G_runScan 26 = .ok (.aload_n 0, 1) := by decide +kernel
theorem d_G_runScan_27 : decode b_G_runScan 27 = .ok (.invokevirtual 191, 3) := by decide +kernel
theorem d_G_runScan_30 : decode b_G_runScan 30 = .ok (.istore_n 2, 1) := by decide +kernel
theorem d_G_runScan_31 : decode b_G_runScan 31 = .ok (.iinc 3 1, 3) := by decide +kernel
theorem d_G_runScan_34 : decode b_G_runScan 34 = .ok (.goto (-18), 3) := by decide +kernel
theorem d_G_runScan_37 : decode b_G_runScan 37 = .ok (.aload_n 0, 1) := by decide +kernel
theorem d_G_runScan_38 : decode b_G_runScan 38 = .ok (.dup, 1) := by decide +kernel
theorem d_G_runScan_39 : decode b_G_runScan 39 = .ok (.getfield 65, 3) := by decide +kernel
theorem d_G_runScan_42 : decode b_G_runScan 42 = .ok (.iconst 1, 1) := by decide +kernel
theorem d_G_runScan_43 : decode b_G_runScan 43 = .ok (.iadd, 1) := by decide +kernel
theorem d_G_runScan_44 : decode b_G_runScan 44 = .ok (.putfield 65, 3) := by decide +kernel
theorem d_G_runScan_47 : decode b_G_runScan 47 = .ok (.iload_n 1, 1) := by decide +kernel
theorem d_G_runScan_48 : decode b_G_runScan 48 = .ok (.ireturn, 1) := by decide +kernel
theorem d_G_bringEvents_0 : decode b_G_bringEvents 0 = .ok (.iconst 0, 1) := by decide +kernel
theorem d_G_bringEvents_1 : decode b_G_bringEvents 1 = .ok (.istore_n 1, 1) := by decide +kernel
theorem d_G_bringEvents_2 : decode b_G_bringEvents 2 = .ok (.iconst 0, 1) := by decide +kernel
theorem d_G_bringEvents_3 : decode b_G_bringEvents 3 = .ok (.istore_n 2, 1) := by decide +kernel
theorem d_G_bringEvents_4 : decode b_G_bringEvents 4 = .ok (.iload_n 2, 1) := by decide +kernel
theorem d_G_bringEvents_5 : decode b_G_bringEvents 5 = .ok (.bipush 24, 2) := by decide +kernel
theorem d_G_bringEvents_7 : decode b_G_bringEvents 7 = .ok (.if_icmp .ge 46, 3) := by decide +kernel
theorem d_G_bringEvents_10 : decode b_G_bringEvents 10 = .ok (.aload_n 0, 1) := by decide +kernel
theorem d_G_bringEvents_11 : decode b_G_bringEvents 11 = .ok (.getfield 12, 3) := by decide +kernel
theorem d_G_bringEvents_14 : decode b_G_bringEvents 14 = .ok (.iload_n 2, 1) := by decide +kernel
theorem d_G_bringEvents_15 : decode b_G_bringEvents 15 = .ok (.invokevirtual 194, 3) := by decide +kernel
theorem d_G_bringEvents_18 : decode b_G_bringEvents 18 = .ok (.istore_n 3, 1) := by decide +kernel
theorem d_G_bringEvents_19 : decode b_G_bringEvents 19 = .ok (.iload_n 3, 1) := by decide +kernel
theorem d_G_bringEvents_20 : decode b_G_bringEvents 20 = .ok (.iconst (-1), 1) := by decide +kernel
theorem d_G_bringEvents_21 : decode b_G_bringEvents 21 = .ok (.if_icmp .eq 26, 3) := by decide +kernel
theorem d_G_bringEvents_24 : decode b_G_bringEvents 24 = .ok (.aload_n 0, 1) := by decide +kernel
theorem d_G_bringEvents_25 : decode b_G_bringEvents 25 = .ok (.getfield 19, 3) := by decide +kernel
theorem d_G_bringEvents_28 : decode b_G_bringEvents 28 = .ok (.iload_n 3, 1) := by decide +kernel
theorem d_G_bringEvents_29 : decode b_G_bringEvents 29 = .ok (.invokevirtual 197, 3) := by decide +kernel
theorem d_G_bringEvents_32 : decode b_G_bringEvents 32 = .ok (.aload_n 0, 1) := by decide +kernel
theorem d_G_bringEvents_33 : decode b_G_bringEvents 33 = .ok (.getfield 26, 3) := by decide +kernel
theorem d_G_bringEvents_36 : decode b_G_bringEvents 36 = .ok (.iload_n 3, 1) := by decide +kernel
theorem d_G_bringEvents_37 : decode b_G_bringEvents 37 = .ok (.aload_n 0, 1) := by decide +kernel
theorem d_G_bringEvents_38 : decode b_G_bringEvents 38 = .ok (.getfield 65, 3) := by decide +kernel
theorem d_G_bringEvents_41 : decode b_G_bringEvents 41 = .ok (.invokevirtual 200, 3) := by decide +kernel
theorem d_G_bringEvents_44 : decode b_G_bringEvents 44 = .ok (.iinc 1 1, 3) := by decide +kernel
theorem d_G_bringEvents_47 : decode b_G_bringEvents 47 = .ok (.iinc 2 1, 3) := by decide +kernel
theorem d_G_bringEvents_50 : decode b_G_bringEvents 50 = .ok (.goto (-46), 3) := by decide +kernel
theorem d_G_bringEvents_53 : decode b_G_bringEvents 53 = .ok (.iload_n 1, 1) := by decide +kernel
theorem d_G_bringEvents_54 : decode b_G_bringEvents 54 = .ok (.ireturn, 1) := by decide +kernel
theorem d_G_takeFirst_0 : decode b_G_takeFirst 0 = .ok (.aload_n 0, 1) := by decide +kernel
theorem d_G_takeFirst_1 : decode b_G_takeFirst 1 = .ok (.getfield 26, 3) := by decide +kernel
theorem d_G_takeFirst_4 : decode b_G_takeFirst 4 = .ok (.invokevirtual 167, 3) := by decide +kernel
theorem d_G_takeFirst_7 : decode b_G_takeFirst 7 = .ok (.ifCond .ne 5, 3) := by decide +kernel
theorem d_G_takeFirst_10 : decode b_G_takeFirst 10 = .ok (.iconst 0, 1) := by decide +kernel
theorem d_G_takeFirst_11 : decode b_G_takeFirst 11 = .ok (.ireturn, 1) := by decide +kernel
theorem d_G_takeFirst_12 : decode b_G_takeFirst 12 = .ok (.aload_n 0, 1) := by decide +kernel
theorem d_G_takeFirst_13 : decode b_G_takeFirst 13 = .ok (.getfield 26, 3) := by decide +kernel
theorem d_G_takeFirst_16 : decode b_G_takeFirst 16 = .ok (.iconst 0, 1) := by decide +kernel
theorem d_G_takeFirst_17 : decode b_G_takeFirst 17 = .ok (.invokevirtual 202, 3) := by decide +kernel
theorem d_G_takeFirst_20 : decode b_G_takeFirst 20 = .ok (.ifCond .ne 9, 3) := by decide +kernel
theorem d_G_takeFirst_23 : decode b_G_takeFirst 23 = .ok (.aload_n 0, 1) := by decide +kernel
theorem d_G_takeFirst_24 : decode b_G_takeFirst 24 = .ok (.invokevirtual 205, 3) := by decide +kernel
theorem d_G_takeFirst_27 : decode b_G_takeFirst 27 = .ok (.iconst 1, 1) := by decide +kernel
theorem d_G_takeFirst_28 : decode b_G_takeFirst 28 = .ok (.ireturn, 1) := by decide +kernel
theorem d_G_takeFirst_29 : decode b_G_takeFirst 29 = .ok (.aload_n 0, 1) := by decide +kernel
theorem d_G_takeFirst_30 : decode b_G_takeFirst 30 = .ok (.getfield 26, 3) := by decide +kernel
theorem d_G_takeFirst_33 : decode b_G_takeFirst 33 = .ok (.invokevirtual 208, 3) := by decide +kernel
theorem d_G_takeFirst_36 : decode b_G_takeFirst 36 = .ok (.istore_n 1, 1) := by decide +kernel
theorem d_G_takeFirst_37 : decode b_G_takeFirst 37 = .ok (.aload_n 0, 1) := by decide +kernel
theorem d_G_takeFirst_38 : decode b_G_takeFirst 38 = .ok (.iload_n 1, 1) := by decide +kernel
theorem d_G_takeFirst_39 : decode b_G_takeFirst 39 = .ok (.invokevirtual 211, 3) := by decide +kernel
theorem d_G_takeFirst_42 : decode b_G_takeFirst 42 = .ok (.ifCond .eq 5, 3) := by decide +kernel
theorem d_G_takeFirst_45 : decode b_G_takeFirst 45 = .ok (.iconst 0, 1) := by decide +kernel
theorem d_G_takeFirst_46 : decode b_G_takeFirst 46 = .ok (.ireturn, 1) := by decide +kernel
theorem d_G_takeFirst_47 : decode b_G_takeFirst 47 = .ok (.aload_n 0, 1) := by decide +kernel
theorem d_G_takeFirst_48 : decode b_G_takeFirst 48 = .ok (.getfield 40, 3) := by decide +kernel
theorem d_G_takeFirst_51 : decode b_G_takeFirst 51 = .ok (.aload_n 0, 1) := by decide +kernel
theorem d_G_takeFirst_52 : decode b_G_takeFirst 52 = .ok (.getfield 26, 3) := by decide +kernel
theorem d_G_takeFirst_55 : decode b_G_takeFirst 55 = .ok (.iload_n 1, 1) := by decide +kernel
theorem d_G_takeFirst_56 : decode b_G_takeFirst 56 = .ok (.invokevirtual 214, 3) := by decide +kernel
theorem d_G_takeFirst_59 : decode b_G_takeFirst 59 = .ok (.istore_n 2, 1) := by decide +kernel
theorem d_G_takeFirst_60 : decode b_G_takeFirst 60 = .ok (.iload_n 2, 1) := by decide +kernel
theorem d_G_takeFirst_61 : decode b_G_takeFirst 61 = .ok (.iconst (-1), 1) := by decide +kernel
theorem d_G_takeFirst_62 : decode b_G_takeFirst 62 = .ok (.if_icmp .eq 10, 3) := by decide +kernel
theorem d_G_takeFirst_65 : decode b_G_takeFirst 65 = .ok (.aload_n 0, 1) := by decide +kernel
theorem d_G_takeFirst_66 : decode b_G_takeFirst 66 = .ok (.iload_n 2, 1) := by decide +kernel
theorem d_G_takeFirst_67 : decode b_G_takeFirst 67 = .ok (.invokevirtual 218, 3) := by decide +kernel
theorem d_G_takeFirst_70 : decode b_G_takeFirst 70 = .ok (.iconst 1, 1) := by decide +kernel
theorem d_G_takeFirst_71 : decode b_G_takeFirst 71 = .ok (.ireturn, 1) := by decide +kernel
theorem d_G_takeFirst_72 : decode b_G_takeFirst 72 = .ok (.aload_n 0, 1) := by decide +kernel
theorem d_G_takeFirst_73 : decode b_G_takeFirst 73 = .ok (.invokevirtual 221, 3) := by decide +kernel
theorem d_G_takeFirst_76 : decode b_G_takeFirst 76 = .ok (.ireturn, 1) := by decide +kernel
theorem d_G_takeRelease_0 : decode b_G_takeRelease 0 = .ok (.aload_n 0, 1) := by decide +kernel
theorem d_G_takeRelease_1 : decode b_G_takeRelease 1 = .ok (.getfield 26, 3) := by decide +kernel
theorem d_G_takeRelease_4 : decode b_G_takeRelease 4 = .ok (.iconst 0, 1) := by decide +kernel
theorem d_G_takeRelease_5 : decode b_G_takeRelease 5 = .ok (.invokevirtual 224, 3) := by decide +kernel
theorem d_G_takeRelease_8 : decode b_G_takeRelease 8 = .ok (.istore_n 1, 1) := by decide +kernel
theorem d_G_takeRelease_9 : decode b_G_takeRelease 9 = .ok (.aload_n 0, 1) := by decide +kernel
theorem d_G_takeRelease_10 : decode b_G_takeRelease 10 = .ok (.getfield 26, 3) := by decide +kernel
theorem d_G_takeRelease_13 : decode b_G_takeRelease 13 = .ok (.iconst 1, 1) := by decide +kernel
theorem d_G_takeRelease_14 : decode b_G_takeRelease 14 = .ok (.invokevirtual 227, 3) := by decide +kernel
theorem d_G_takeRelease_17 : decode b_G_takeRelease 17 = .ok (.aload_n 0, 1) := by decide +kernel
theorem d_G_takeRelease_18 : decode b_G_takeRelease 18 = .ok (.getfield 47, 3) := by decide +kernel
theorem d_G_takeRelease_21 : decode b_G_takeRelease 21 = .ok (.iload_n 1, 1) := by decide +kernel
theorem d_G_takeRelease_22 : decode b_G_takeRelease 22 = .ok (.invokevirtual 230, 3) := by decide +kernel
theorem d_G_takeRelease_25 : decode b_G_takeRelease 25 = .ok (.aload_n 0, 1) := by decide +kernel
theorem d_G_takeRelease_26 : decode b_G_takeRelease 26 = .ok (.getfield 54, 3) := by decide +kernel
theorem d_G_takeRelease_29 : decode b_G_takeRelease 29 = .ok (.iload_n 1, 1) := by decide +kernel
theorem d_G_takeRelease_30 : decode b_G_takeRelease 30 = .ok (.invokevirtual 233, 3) := by decide +kernel
theorem d_G_takeRelease_33 : decode b_G_takeRelease 33 = .ok (.istore_n 2, 1) := by decide +kernel
theorem d_G_takeRelease_34 : decode b_G_takeRelease 34 = .ok (.iload_n 2, 1) := by decide +kernel
theorem d_G_takeRelease_35 : decode b_G_takeRelease 35 = .ok (.ifCond .eq 11, 3) := by decide +kernel
theorem d_G_takeRelease_38 : decode b_G_takeRelease 38 = .ok (.aload_n 0, 1) := by decide +kernel
theorem d_G_takeRelease_39 : decode b_G_takeRelease 39 = .ok (.getfield 61, 3) := by decide +kernel
theorem d_G_takeRelease_42 : decode b_G_takeRelease 42 = .ok (.iload_n 2, 1) := by decide +kernel
theorem d_G_takeRelease_43 : decode b_G_takeRelease 43 = .ok (.invokevirtual 236, 3) := by decide +kernel
theorem d_G_takeRelease_46 : decode b_G_takeRelease 46 = .ok (.return_, 1) := by decide +kernel
theorem d_G_waitsForChord_0 : decode b_G_waitsForChord 0 = .ok (.iload_n 1, 1) := by decide +kernel
theorem d_G_waitsForChord_1 : decode b_G_waitsForChord 1 = .ok (.aload_n 0, 1) := by decide +kernel
theorem d_G_waitsForChord_2 : decode b_G_waitsForChord 2 = .ok (.getfield 26, 3) := by decide +kernel
theorem d_G_waitsForChord_5 : decode b_G_waitsForChord 5 = .ok (.invokevirtual 167, 3) := by decide +kernel
theorem d_G_waitsForChord_8 : decode b_G_waitsForChord 8 = .ok (.if_icmp .ne 49, 3) := by decide +kernel
theorem d_G_waitsForChord_11 : decode b_G_waitsForChord 11 = .ok (.iload_n 1, 1) := by decide +kernel
theorem d_G_waitsForChord_12 : decode b_G_waitsForChord 12 = .ok (.bipush 8, 2) := by decide +kernel
theorem d_G_waitsForChord_14 : decode b_G_waitsForChord 14 = .ok (.if_icmp .gt 43, 3) := by decide +kernel
theorem d_G_waitsForChord_17 : decode b_G_waitsForChord 17 = .ok (.aload_n 0, 1) := by decide +kernel
theorem d_G_waitsForChord_18 : decode b_G_waitsForChord 18 = .ok (.getfield 65, 3) := by decide +kernel
theorem d_G_waitsForChord_21 : decode b_G_waitsForChord 21 = .ok (.aload_n 0, 1) := by decide +kernel
theorem d_G_waitsForChord_22 : decode b_G_waitsForChord 22 = .ok (.getfield 26, 3) := by decide +kernel
theorem d_G_waitsForChord_25 : decode b_G_waitsForChord 25 = .ok (.iconst 0, 1) := by decide +kernel
theorem d_G_waitsForChord_26 : decode b_G_waitsForChord 26 = .ok (.invokevirtual 237, 3) := by decide +kernel
theorem d_G_waitsForChord_29 : decode b_G_waitsForChord 29 = .ok (.bipush 9, 2) := by decide +kernel
theorem d_G_waitsForChord_31 : decode b_G_waitsForChord 31 = .ok (.iadd, 1) := by decide +kernel
theorem d_G_waitsForChord_32 : decode b_G_waitsForChord 32 = .ok (.if_icmp .ge 25, 3) := by decide +kernel
theorem d_G_waitsForChord_35 : decode b_G_waitsForChord 35 = .ok (.aload_n 0, 1) := by decide +kernel
theorem d_G_waitsForChord_36 : decode b_G_waitsForChord 36 = .ok (.getfield 40, 3) := by decide +kernel
theorem d_G_waitsForChord_39 : decode b_G_waitsForChord 39 = .ok (.aload_n 0, 1) := by decide +kernel
theorem d_G_waitsForChord_40 : decode b_G_waitsForChord 40 = .ok (.getfield 26, 3) := by decide +kernel
theorem d_G_waitsForChord_43 : decode b_G_waitsForChord 43 = .ok (.iload_n 1, 1) := by decide +kernel
theorem d_G_waitsForChord_44 : decode b_G_waitsForChord 44 = .ok (.invokevirtual 240, 3) := by decide +kernel
theorem d_G_waitsForChord_47 : decode b_G_waitsForChord 47 = .ok (.invokevirtual 243, 3) := by decide +kernel
theorem d_G_waitsForChord_50 : decode b_G_waitsForChord 50 = .ok (.ifCond .eq 7, 3) := by decide +kernel
theorem d_G_waitsForChord_53 : decode b_G_waitsForChord 53 = .ok (.iconst 1, 1) := by decide +kernel
theorem d_G_waitsForChord_54 : decode b_G_waitsForChord 54 = .ok (.goto 4, 3) := by decide +kernel
theorem d_G_waitsForChord_57 : decode b_G_waitsForChord 57 = .ok (.iconst 0, 1) := by decide +kernel
theorem d_G_waitsForChord_58 : decode b_G_waitsForChord 58 = .ok (.ireturn, 1) := by decide +kernel
theorem d_G_takeChord_0 : decode b_G_takeChord 0 = .ok (.aload_n 0, 1) := by decide +kernel
theorem d_G_takeChord_1 : decode b_G_takeChord 1 = .ok (.getfield 40, 3) := by decide +kernel
theorem d_G_takeChord_4 : decode b_G_takeChord 4 = .ok (.iload_n 1, 1) := by decide +kernel
theorem d_G_takeChord_5 : decode b_G_takeChord 5 = .ok (.invokevirtual 246, 3) := by decide +kernel
theorem d_G_takeChord_8 : decode b_G_takeChord 8 = .ok (.istore_n 2, 1) := by decide +kernel
theorem d_G_takeChord_9 : decode b_G_takeChord 9 = .ok (.aload_n 0, 1) := by decide +kernel
theorem d_G_takeChord_10 : decode b_G_takeChord 10 = .ok (.getfield 40, 3) := by decide +kernel
theorem d_G_takeChord_13 : decode b_G_takeChord 13 = .ok (.iload_n 1, 1) := by decide +kernel
theorem d_G_takeChord_14 : decode b_G_takeChord 14 = .ok (.invokevirtual 249, 3) := by decide +kernel
theorem d_G_takeChord_17 : decode b_G_takeChord 17 = .ok (.istore_n 3, 1) := by decide +kernel
theorem d_G_takeChord_18 : decode b_G_takeChord 18 = .ok (.aload_n 0, 1) := by decide +kernel
theorem d_G_takeChord_19 : decode b_G_takeChord 19 = .ok (.getfield 26, 3) := by decide +kernel
theorem d_G_takeChord_22 : decode b_G_takeChord 22 = .ok (.iload_n 2, 1) := by decide +kernel
theorem d_G_takeChord_23 : decode b_G_takeChord 23 = .ok (.invokestatic 177, 3) := by decide +kernel
theorem d_G_takeChord_26 : decode b_G_takeChord 26 = .ok (.invokevirtual 227, 3) := by decide +kernel
theorem d_G_takeChord_29 : decode b_G_takeChord 29 = .ok (.aload_n 0, 1) := by decide +kernel
theorem d_G_takeChord_30 : decode b_G_takeChord 30 = .ok (.getfield 54, 3) := by decide +kernel
theorem d_G_takeChord_33 : decode b_G_takeChord 33 = .ok (.iload_n 2, 1) := by decide +kernel
theorem d_G_takeChord_34 : decode b_G_takeChord 34 = .ok (.iload_n 3, 1) := by decide +kernel
theorem d_G_takeChord_35 : decode b_G_takeChord 35 = .ok (.invokevirtual 252, 3) := by decide +kernel
theorem d_G_takeChord_38 : decode b_G_takeChord 38 = .ok (.aload_n 0, 1) := by decide +kernel
theorem d_G_takeChord_39 : decode b_G_takeChord 39 = .ok (.getfield 61, 3) := by decide +kernel
theorem d_G_takeChord_42 : decode b_G_takeChord 42 = .ok (.iload_n 3, 1) := by decide +kernel
theorem d_G_takeChord_43 : decode b_G_takeChord 43 = .ok (.invokevirtual 255, 3) := by decide +kernel
theorem d_G_takeChord_46 : decode b_G_takeChord 46 = .ok (.aload_n 0, 1) := by decide +kernel
theorem d_G_takeChord_47 : decode b_G_takeChord 47 = .ok (.getfield 47, 3) := by decide +kernel
theorem d_G_takeChord_50 : decode b_G_takeChord 50 = .ok (.invokevirtual 258, 3) := by decide +kernel
theorem d_G_takeChord_53 : decode b_G_takeChord 53 = .ok (.return_, 1) := by decide +kernel
theorem d_G_takeByAction_0 : decode b_G_takeByAction 0 = .ok (.aload_n 0, 1) := by decide +kernel
theorem d_G_takeByAction_1 : decode b_G_takeByAction 1 = .ok (.getfield 26, 3) := by decide +kernel
theorem d_G_takeByAction_4 : decode b_G_takeByAction 4 = .ok (.iconst 0, 1) := by decide +kernel
theorem d_G_takeByAction_5 : decode b_G_takeByAction 5 = .ok (.invokevirtual 224, 3) := by decide +kernel
theorem d_G_takeByAction_8 : decode b_G_takeByAction 8 = .ok (.istore_n 1, 1) := by decide +kernel
theorem d_G_takeByAction_9 : decode b_G_takeByAction 9 = .ok (.aload_n 0, 1) := by decide +kernel
theorem d_G_takeByAction_10 : decode b_G_takeByAction 10 = .ok (.getfield 33, 3) := by decide +kernel
theorem d_G_takeByAction_13 : decode b_G_takeByAction 13 = .ok (.iload_n 1, 1) := by decide +kernel
theorem d_G_takeByAction_14 : decode b_G_takeByAction 14 = .ok (.aload_n 0, 1) := by decide +kernel
theorem d_G_takeByAction_15 : decode b_G_takeByAction 15 = .ok (.getfield 47, 3) := by decide +kernel
theorem d_G_takeByAction_18 : decode b_G_takeByAction 18 = .ok (.invokevirtual 158, 3) := by decide +kernel
theorem d_G_takeByAction_21 : decode b_G_takeByAction 21 = .ok (.istore_n 2, 1) := by decide +kernel
theorem d_G_takeByAction_22 : decode b_G_takeByAction 22 = .ok (.aload_n 0, 1) := by decide +kernel
theorem d_G_takeByAction_23 : decode b_G_takeByAction 23 = .ok (.getfield 33, 3) := by decide +kernel
theorem d_G_takeByAction_26 : decode b_G_takeByAction 26 = .ok (.iload_n 2, 1) := by decide +kernel
theorem d_G_takeByAction_27 : decode b_G_takeByAction 27 = .ok (.iload_n 1, 1) := by decide +kernel
theorem d_G_takeByAction_28 : decode b_G_takeByAction 28 = .ok (.invokevirtual 261, 3) := by decide +kernel
theorem d_G_takeByAction_31 : decode b_G_takeByAction 31 = .ok (.istore_n 3, 1) := by decide +kernel
theorem d_G_takeByAction_32 : decode b_G_takeByAction 32 = .ok (.iload_n 3, 1) := by decide +kernel
theorem d_G_takeByAction_33 : decode b_G_takeByAction 33 = .ok (.iconst 5, 1) := by decide +kernel
theorem d_G_takeByAction_34 : decode b_G_takeByAction 34 = .ok (.if_icmp .ne 10, 3) := by decide +kernel
theorem d_G_takeByAction_37 : decode b_G_takeByAction 37 = .ok (.aload_n 0, 1) := by decide +kernel
theorem d_G_takeByAction_38 : decode b_G_takeByAction 38 = .ok (.invokevirtual 265, 3) := by decide +kernel
theorem d_G_takeByAction_41 : decode b_G_takeByAction 41 = .ok (.goto 4, 3) := by decide +kernel
theorem d_G_takeByAction_44 : decode b_G_takeByAction 44 = .ok (.iconst 0, 1) := by decide +kernel
theorem d_G_takeByAction_45 : decode b_G_takeByAction 45 = .ok (.istore 4, 2) := by decide +kernel
theorem d_G_takeByAction_47 : decode b_G_takeByAction 47 = .ok (.iload_n 3, 1) := by decide +kernel
theorem d_G_takeByAction_48 : decode b_G_takeByAction 48 = .ok (.iconst 5, 1) := by decide +kernel
theorem d_G_takeByAction_49 : decode b_G_takeByAction 49 = .ok (.if_icmp .ne 10, 3) := by decide +kernel
theorem d_G_takeByAction_52 : decode b_G_takeByAction 52 = .ok (.iload 4, 2) := by decide +kernel
theorem d_G_takeByAction_54 : decode b_G_takeByAction 54 = .ok (.ifCond .ne 5, 3) := by decide +kernel
theorem d_G_takeByAction_57 : decode b_G_takeByAction 57 = .ok (.iconst 0, 1) := by decide +kernel
theorem d_G_takeByAction_58 : decode b_G_takeByAction 58 = .ok (.ireturn, 1) := by decide +kernel
theorem d_G_takeByAction_59 : decode b_G_takeByAction 59 = .ok (.aload_n 0, 1) := by decide +kernel
theorem d_G_takeByAction_60 : decode b_G_takeByAction 60 = .ok (.getfield 26, 3) := by decide +kernel
theorem d_G_takeByAction_63 : decode b_G_takeByAction 63 = .ok (.iconst 1, 1) := by decide +kernel
theorem d_G_takeByAction_64 : decode b_G_takeByAction 64 = .ok (.invokevirtual 227, 3) := by decide +kernel
theorem d_G_takeByAction_67 : decode b_G_takeByAction 67 = .ok (.aload_n 0, 1) := by decide +kernel
theorem d_G_takeByAction_68 : decode b_G_takeByAction 68 = .ok (.getfield 33, 3) := by decide +kernel
theorem d_G_takeByAction_71 : decode b_G_takeByAction 71 = .ok (.iload_n 2, 1) := by decide +kernel
theorem d_G_takeByAction_72 : decode b_G_takeByAction 72 = .ok (.iload_n 1, 1) := by decide +kernel
theorem d_G_takeByAction_73 : decode b_G_takeByAction 73 = .ok (.invokevirtual 268, 3) := by decide +kernel
theorem d_G_takeByAction_76 : decode b_G_takeByAction 76 = .ok (.istore 5, 2) := by decide +kernel
theorem d_G_takeByAction_78 : decode b_G_takeByAction 78 = .ok (.iload_n 3, 1) := by decide +kernel
theorem d_G_takeByAction_79 : decode b_G_takeByAction 79 = .ok (.tableswitch 118 1 6 #[37, 61, 74, 86, 98, 109], 37) := by decide +kernel
theorem d_G_takeByAction_116 : decode b_G_takeByAction 116 = .ok (.aload_n 0, 1) := by decide +kernel
theorem d_G_takeByAction_117 : decode b_G_takeByAction 117 = .ok (.getfield 54, 3) := by decide +kernel
theorem d_G_takeByAction_120 : decode b_G_takeByAction 120 = .ok (.iconst 1, 1) := by decide +kernel
theorem d_G_takeByAction_121 : decode b_G_takeByAction 121 = .ok (.iload_n 1, 1) := by decide +kernel
theorem d_G_takeByAction_122 : decode b_G_takeByAction 122 = .ok (.ishl, 1) := by decide +kernel
theorem d_G_takeByAction_123 : decode b_G_takeByAction 123 = .ok (.iload 5, 2) := by decide +kernel
theorem d_G_takeByAction_125 : decode b_G_takeByAction 125 = .ok (.invokevirtual 252, 3) := by decide +kernel
theorem d_G_takeByAction_128 : decode b_G_takeByAction 128 = .ok (.aload_n 0, 1) := by decide +kernel
theorem d_G_takeByAction_129 : decode b_G_takeByAction 129 = .ok (.getfield 61, 3) := by decide +kernel
theorem d_G_takeByAction_132 : decode b_G_takeByAction 132 = .ok (.iload 5, 2) := by decide +kernel
theorem d_G_takeByAction_134 : decode b_G_takeByAction 134 = .ok (.invokevirtual 255, 3) := by decide +kernel
theorem d_G_takeByAction_137 : decode b_G_takeByAction 137 = .ok (.goto 60, 3) := by decide +kernel
theorem d_G_takeByAction_140 : decode b_G_takeByAction 140 = .ok (.aload_n 0, 1) := by decide +kernel
theorem d_G_takeByAction_141 : decode b_G_takeByAction 141 = .ok (.getfield 47, 3) := by decide +kernel
theorem d_G_takeByAction_144 : decode b_G_takeByAction 144 = .ok (.iload 5, 2) := by decide +kernel
theorem d_G_takeByAction_146 : decode b_G_takeByAction 146 = .ok (.iload_n 1, 1) := by decide +kernel
theorem d_G_takeByAction_147 : decode b_G_takeByAction 147 = .ok (.invokevirtual 271, 3) := by decide +kernel
theorem d_G_takeByAction_150 : decode b_G_takeByAction 150 = .ok (.goto 47, 3) := by decide +kernel
theorem d_G_takeByAction_153 : decode b_G_takeByAction 153 = .ok (.aload_n 0, 1) := by decide +kernel
theorem d_G_takeByAction_154 : decode b_G_takeByAction 154 = .ok (.getfield 47, 3) := by decide +kernel
theorem d_G_takeByAction_157 : decode b_G_takeByAction 157 = .ok (.iload 5, 2) := by decide +kernel
theorem d_G_takeByAction_159 : decode b_G_takeByAction 159 = .ok (.invokevirtual 274, 3) := by decide +kernel
theorem d_G_takeByAction_162 : decode b_G_takeByAction 162 = .ok (.goto 35, 3) := by decide +kernel
theorem d_G_takeByAction_165 : decode b_G_takeByAction 165 = .ok (.aload_n 0, 1) := by decide +kernel
theorem d_G_takeByAction_166 : decode b_G_takeByAction 166 = .ok (.getfield 47, 3) := by decide +kernel
theorem d_G_takeByAction_169 : decode b_G_takeByAction 169 = .ok (.iload 5, 2) := by decide +kernel
theorem d_G_takeByAction_171 : decode b_G_takeByAction 171 = .ok (.invokevirtual 277, 3) := by decide +kernel
theorem d_G_takeByAction_174 : decode b_G_takeByAction 174 = .ok (.goto 23, 3) := by decide +kernel
theorem d_G_takeByAction_177 : decode b_G_takeByAction 177 = .ok (.aload_n 0, 1) := by decide +kernel
theorem d_G_takeByAction_178 : decode b_G_takeByAction 178 = .ok (.iload_n 1, 1) := by decide +kernel
theorem d_G_takeByAction_179 : decode b_G_takeByAction 179 = .ok (.iload_n 2, 1) := by decide +kernel
theorem d_G_takeByAction_180 : decode b_G_takeByAction 180 = .ok (.iload 4, 2) := by decide +kernel
theorem d_G_takeByAction_182 : decode b_G_takeByAction 182 = .ok (.invokevirtual 280, 3) := by decide +kernel
theorem d_G_takeByAction_185 : decode b_G_takeByAction 185 = .ok (.goto 12, 3) := by decide +kernel
theorem d_G_takeByAction_188 : decode b_G_takeByAction 188 = .ok (.aload_n 0, 1) := by decide +kernel
theorem d_G_takeByAction_189 : decode b_G_takeByAction 189 = .ok (.iload 5, 2) := by decide +kernel
theorem d_G_takeByAction_191 : decode b_G_takeByAction 191 = .ok (.invokevirtual 283, 3) := by decide +kernel
theorem d_G_takeByAction_194 : decode b_G_takeByAction 194 = .ok (.goto 3, 3) := by decide +kernel
theorem d_G_takeByAction_197 : decode b_G_takeByAction 197 = .ok (.iload_n 3, 1) := by decide +kernel
theorem d_G_takeByAction_198 : decode b_G_takeByAction 198 = .ok (.iconst 4, 1) := by decide +kernel
theorem d_G_takeByAction_199 : decode b_G_takeByAction 199 = .ok (.if_icmp .eq 10, 3) := by decide +kernel
theorem d_G_takeByAction_202 : decode b_G_takeByAction 202 = .ok (.aload_n 0, 1) := by decide +kernel
theorem d_G_takeByAction_203 : decode b_G_takeByAction 203 = .ok (.getfield 47, 3) := by decide +kernel
theorem d_G_takeByAction_206 : decode b_G_takeByAction 206 = .ok (.invokevirtual 258, 3) := by decide +kernel
theorem d_G_takeByAction_209 : decode b_G_takeByAction 209 = .ok (.iconst 1, 1) := by decide +kernel
theorem d_G_takeByAction_210 : decode b_G_takeByAction 210 = .ok (.ireturn, 1) := by decide +kernel
theorem d_G_tellTap_0 : decode b_G_tellTap 0 = .ok (.aload_n 0, 1) := by decide +kernel
theorem d_G_tellTap_1 : decode b_G_tellTap 1 = .ok (.getfield 26, 3) := by decide +kernel
theorem d_G_tellTap_4 : decode b_G_tellTap 4 = .ok (.invokevirtual 286, 3) := by decide +kernel
theorem d_G_tellTap_7 : decode b_G_tellTap 7 = .ok (.istore_n 1, 1) := by decide +kernel
theorem d_G_tellTap_8 : decode b_G_tellTap 8 = .ok (.aload_n 0, 1) := by decide +kernel
theorem d_G_tellTap_9 : decode b_G_tellTap 9 = .ok (.getfield 65, 3) := by decide +kernel
theorem d_G_tellTap_12 : decode b_G_tellTap 12 = .ok (.aload_n 0, 1) := by decide +kernel
theorem d_G_tellTap_13 : decode b_G_tellTap 13 = .ok (.getfield 26, 3) := by decide +kernel
theorem d_G_tellTap_16 : decode b_G_tellTap 16 = .ok (.iconst 0, 1) := by decide +kernel
theorem d_G_tellTap_17 : decode b_G_tellTap 17 = .ok (.invokevirtual 237, 3) := by decide +kernel
theorem d_G_tellTap_20 : decode b_G_tellTap 20 = .ok (.bipush 20, 2) := by decide +kernel
theorem d_G_tellTap_22 : decode b_G_tellTap 22 = .ok (.iadd, 1) := by decide +kernel
theorem d_G_tellTap_23 : decode b_G_tellTap 23 = .ok (.if_icmp .ge 15, 3) := by decide +kernel
theorem d_G_tellTap_26 : decode b_G_tellTap 26 = .ok (.aload_n 0, 1) := by decide +kernel
theorem d_G_tellTap_27 : decode b_G_tellTap 27 = .ok (.getfield 26, 3) := by decide +kernel
theorem d_G_tellTap_30 : decode b_G_tellTap 30 = .ok (.invokevirtual 167, 3) := by decide +kernel
theorem d_G_tellTap_33 : decode b_G_tellTap 33 = .ok (.bipush 8, 2) := by decide +kernel
theorem d_G_tellTap_35 : decode b_G_tellTap 35 = .ok (.if_icmp .le 7, 3) := by decide +kernel
theorem d_G_tellTap_38 : decode b_G_tellTap 38 = .ok (.iconst 1, 1) := by decide +kernel
theorem d_G_tellTap_39 : decode b_G_tellTap 39 = .ok (.goto 4, 3) := by decide +kernel
theorem d_G_tellTap_42 : decode b_G_tellTap 42 = .ok (.iconst 0, 1) := by decide +kernel
theorem d_G_tellTap_43 : decode b_G_tellTap 43 = .ok (.istore_n 2, 1) := by decide +kernel
theorem d_G_tellTap_44 : decode b_G_tellTap 44 = .ok (.iload_n 1, 1) := by decide +kernel
theorem d_G_tellTap_45 : decode b_G_tellTap 45 = .ok (.ifCond .ne 11, 3) := by decide +kernel
theorem d_G_tellTap_48 : decode b_G_tellTap 48 = .ok (.iload_n 2, 1) := by decide +kernel
theorem d_G_tellTap_49 : decode b_G_tellTap 49 = .ok (.ifCond .eq 7, 3) := by decide +kernel
theorem d_G_tellTap_52 : decode b_G_tellTap 52 = .ok (.iconst 2, 1) := by decide +kernel
theorem d_G_tellTap_53 : decode b_G_tellTap 53 = .ok (.goto 4, 3) := by decide +kernel
theorem d_G_tellTap_56 : decode b_G_tellTap 56 = .ok (.iload_n 1, 1) := by decide +kernel
theorem d_G_tellTap_57 : decode b_G_tellTap 57 = .ok (.ireturn, 1) := by decide +kernel
theorem d_G_actTap_0 : decode b_G_actTap 0 = .ok (.iload_n 3, 1) := by decide +kernel
theorem d_G_actTap_1 : decode b_G_actTap 1 = .ok (.iconst 2, 1) := by decide +kernel
theorem d_G_actTap_2 : decode b_G_actTap 2 = .ok (.if_icmp .ne 23, 3) := by decide +kernel
theorem d_G_actTap_5 : decode b_G_actTap 5 = .ok (.aload_n 0, 1) := by decide +kernel
theorem d_G_actTap_6 : decode b_G_actTap 6 = .ok (.getfield 47, 3) := by decide +kernel
theorem d_G_actTap_9 : decode b_G_actTap 9 = .ok (.aload_n 0, 1) := by decide +kernel
theorem d_G_actTap_10 : decode b_G_actTap 10 = .ok (.getfield 33, 3) := by decide +kernel
theorem d_G_actTap_13 : decode b_G_actTap 13 = .ok (.iload_n 2, 1) := by decide +kernel
theorem d_G_actTap_14 : decode b_G_actTap 14 = .ok (.iload_n 1, 1) := by decide +kernel
theorem d_G_actTap_15 : decode b_G_actTap 15 = .ok (.invokevirtual 287, 3) := by decide +kernel
theorem d_G_actTap_18 : decode b_G_actTap 18 = .ok (.iload_n 1, 1) := by decide +kernel
theorem d_G_actTap_19 : decode b_G_actTap 19 = .ok (.invokevirtual 271, 3) := by decide +kernel
theorem d_G_actTap_22 : decode b_G_actTap 22 = .ok (.goto 32, 3) := by decide +kernel
theorem d_G_actTap_25 : decode b_G_actTap 25 = .ok (.aload_n 0, 1) := by decide +kernel
theorem d_G_actTap_26 : decode b_G_actTap 26 = .ok (.getfield 33, 3) := by decide +kernel
theorem d_G_actTap_29 : decode b_G_actTap 29 = .ok (.iload_n 2, 1) := by decide +kernel
theorem d_G_actTap_30 : decode b_G_actTap 30 = .ok (.iload_n 1, 1) := by decide +kernel
theorem d_G_actTap_31 : decode b_G_actTap 31 = .ok (.invokevirtual 268, 3) := by decide +kernel
theorem d_G_actTap_34 : decode b_G_actTap 34 = .ok (.istore 4, 2) := by decide +kernel
theorem d_G_actTap_36 : decode b_G_actTap 36 = .ok (.aload_n 0, 1) := by decide +kernel
theorem d_G_actTap_37 : decode b_G_actTap 37 = .ok (.getfield 61, 3) := by decide +kernel
theorem d_G_actTap_40 : decode b_G_actTap 40 = .ok (.iload 4, 2) := by decide +kernel
theorem d_G_actTap_42 : decode b_G_actTap 42 = .ok (.invokevirtual 255, 3) := by decide +kernel
theorem d_G_actTap_45 : decode b_G_actTap 45 = .ok (.aload_n 0, 1) := by decide +kernel
theorem d_G_actTap_46 : decode b_G_actTap 46 = .ok (.getfield 61, 3) := by decide +kernel
theorem d_G_actTap_49 : decode b_G_actTap 49 = .ok (.iload 4, 2) := by decide +kernel
theorem d_G_actTap_51 : decode b_G_actTap 51 = .ok (.invokevirtual 236, 3) := by decide +kernel
theorem d_G_actTap_54 : decode b_G_actTap 54 = .ok (.return_, 1) := by decide +kernel
theorem d_G_playMacro_0 : decode b_G_playMacro 0 = .ok (.iconst 0, 1) := by decide +kernel
theorem d_G_playMacro_1 : decode b_G_playMacro 1 = .ok (.istore_n 2, 1) := by decide +kernel
theorem d_G_playMacro_2 : decode b_G_playMacro 2 = .ok (.iload_n 2, 1) := by decide +kernel
theorem d_G_playMacro_3 : decode b_G_playMacro 3 = .ok (.iconst 4, 1) := by decide +kernel
theorem d_G_playMacro_4 : decode b_G_playMacro 4 = .ok (.if_icmp .ge 39, 3) := by decide +kernel
theorem d_G_playMacro_7 : decode b_G_playMacro 7 = .ok (.aload_n 0, 1) := by decide +kernel
theorem d_G_playMacro_8 : decode b_G_playMacro 8 = .ok (.getfield 33, 3) := by decide +kernel
theorem d_G_playMacro_11 : decode b_G_playMacro 11 = .ok (.iload_n 1, 1) := by decide +kernel
theorem d_G_playMacro_12 : decode b_G_playMacro 12 = .ok (.iload_n 2, 1) := by decide +kernel
theorem d_G_playMacro_13 : decode b_G_playMacro 13 = .ok (.invokevirtual 290, 3) := by decide +kernel
theorem d_G_playMacro_16 : decode b_G_playMacro 16 = .ok (.istore_n 3, 1) := by decide +kernel
theorem d_G_playMacro_17 : decode b_G_playMacro 17 = .ok (.iload_n 3, 1) := by decide +kernel
theorem d_G_playMacro_18 : decode b_G_playMacro 18 = .ok (.ifCond .eq 19, 3) := by decide +kernel
theorem d_G_playMacro_21 : decode b_G_playMacro 21 = .ok (.aload_n 0, 1) := by decide +kernel
theorem d_G_playMacro_22 : decode b_G_playMacro 22 = .ok (.getfield 61, 3) := by decide +kernel
theorem d_G_playMacro_25 : decode b_G_playMacro 25 = .ok (.iload_n 3, 1) := by decide +kernel
theorem d_G_playMacro_26 : decode b_G_playMacro 26 = .ok (.invokevirtual 255, 3) := by decide +kernel
theorem d_G_playMacro_29 : decode b_G_playMacro 29 = .ok (.aload_n 0, 1) := by decide +kernel
theorem d_G_playMacro_30 : decode b_G_playMacro 30 = .ok (.getfield 61, 3) := by decide +kernel
theorem d_G_playMacro_33 : decode b_G_playMacro 33 = .ok (.iload_n 3, 1) := by decide +kernel
theorem d_G_playMacro_34 : decode b_G_playMacro 34 = .ok (.invokevirtual 236, 3) := by decide +kernel
theorem d_G_playMacro_37 : decode b_G_playMacro 37 = .ok (.iinc 2 1, 3) := by decide +kernel
theorem d_G_playMacro_40 : decode b_G_playMacro 40 = .ok (.goto (-38), 3) := by decide +kernel
theorem d_G_playMacro_43 : decode b_G_playMacro 43 = .ok (.return_, 1) := by decide +kernel
