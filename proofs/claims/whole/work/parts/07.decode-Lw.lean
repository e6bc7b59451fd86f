theorem d_Lw_wire_0 : decode b_Lw_wire 0 = .ok (.aload_n 0, 1) := by decide +kernel
theorem d_Lw_wire_1 : decode b_Lw_wire 1 = .ok (.iload_n 1, 1) := by decide +kernel
theorem d_Lw_wire_2 : decode b_Lw_wire 2 = .ok (.iload_n 2, 1) := by decide +kernel
theorem d_Lw_wire_3 : decode b_Lw_wire 3 = .ok (.invokevirtual 7, 3) := by decide +kernel
theorem d_Lw_wire_6 : decode b_Lw_wire 6 = .ok (.goto 6, 3) := by decide +kernel
theorem d_Lw_wire_9 : decode b_Lw_wire 9 = .ok (.astore_n 3, 1) := by decide +kernel
theorem d_Lw_wire_10 : decode b_Lw_wire 10 = .ok (.iconst 1, 1) := by decide +kernel
theorem d_Lw_wire_11 : decode b_Lw_wire 11 = .ok (.ireturn, 1) := by decide +kernel
theorem d_Lw_wire_12 : decode b_Lw_wire 12 = .ok (.iconst 0, 1) := by decide +kernel
theorem d_Lw_wire_13 : decode b_Lw_wire 13 = .ok (.ireturn, 1) := by decide +kernel
theorem d_Lw_bounce_0 : decode b_Lw_bounce 0 = .ok (.aload_n 0, 1) := by decide +kernel
theorem d_Lw_bounce_1 : decode b_Lw_bounce 1 = .ok (.iload_n 1, 1) := by decide +kernel
theorem d_Lw_bounce_2 : decode b_Lw_bounce 2 = .ok (.iload_n 2, 1) := by decide +kernel
theorem d_Lw_bounce_3 : decode b_Lw_bounce 3 = .ok (.invokevirtual 15, 3) := by decide +kernel
theorem d_Lw_bounce_6 : decode b_Lw_bounce 6 = .ok (.goto 9, 3) := by decide +kernel
theorem d_Lw_bounce_9 : decode b_Lw_bounce 9 = .ok (.astore_n 3, 1) := by decide +kernel
theorem d_Lw_bounce_10 : decode b_Lw_bounce 10 = .ok (.iconst 1, 1) := by decide +kernel
theorem d_Lw_bounce_11 : decode b_Lw_bounce 11 = .ok (.ireturn, 1) := by decide +kernel
theorem d_Lw_bounce_12 : decode b_Lw_bounce 12 = .ok (.astore_n 3, 1) := by decide +kernel
theorem d_Lw_bounce_13 : decode b_Lw_bounce 13 = .ok (.iconst 2, 1) := by decide +kernel
theorem d_Lw_bounce_14 : decode b_Lw_bounce 14 = .ok (.ireturn, 1) := by decide +kernel
theorem d_Lw_bounce_15 : decode b_Lw_bounce 15 = .ok (.iconst 0, 1) := by decide +kernel
theorem d_Lw_bounce_16 : decode b_Lw_bounce 16 = .ok (.ireturn, 1) := by decide +kernel
theorem d_Lw_scans_0 : decode b_Lw_scans 0 = .ok (.aload_n 2, 1) := by decide +kernel
theorem d_Lw_scans_1 : decode b_Lw_scans 1 = .ok (.iconst 0, 1) := by decide +kernel
theorem d_Lw_scans_2 : decode b_Lw_scans 2 = .ok (.aload_n 0, 1) := by decide +kernel
theorem d_Lw_scans_3 : decode b_Lw_scans 3 = .ok (.iload_n 1, 1) := by decide +kernel
theorem d_Lw_scans_4 : decode b_Lw_scans 4 = .ok (.invokevirtual 21, 3) := by decide +kernel
theorem d_Lw_scans_7 : decode b_Lw_scans 7 = .ok (.i2l, 1) := by decide +kernel
theorem d_Lw_scans_8 : decode b_Lw_scans 8 = .ok (.lastore, 1) := by decide +kernel
theorem d_Lw_scans_9 : decode b_Lw_scans 9 = .ok (.goto 6, 3) := by decide +kernel
theorem d_Lw_scans_12 : decode b_Lw_scans 12 = .ok (.astore_n 3, 1) := by decide +kernel
theorem d_Lw_scans_13 : decode b_Lw_scans 13 = .ok (.iconst 1, 1) := by decide +kernel
theorem d_Lw_scans_14 : decode b_Lw_scans 14 = .ok (.ireturn, 1) := by decide +kernel
theorem d_Lw_scans_15 : decode b_Lw_scans 15 = .ok (.iconst 0, 1) := by decide +kernel
theorem d_Lw_scans_16 : decode b_Lw_scans 16 = .ok (.ireturn, 1) := by decide +kernel
theorem d_Lw_map_0 : decode b_Lw_map 0 = .ok (.aload_n 0, 1) := by decide +kernel
theorem d_Lw_map_1 : decode b_Lw_map 1 = .ok (.iload_n 1, 1) := by decide +kernel
theorem d_Lw_map_2 : decode b_Lw_map 2 = .ok (.iload_n 2, 1) := by decide +kernel
theorem d_Lw_map_3 : decode b_Lw_map 3 = .ok (.iload_n 3, 1) := by decide +kernel
theorem d_Lw_map_4 : decode b_Lw_map 4 = .ok (.iload 4, 2) := by decide +kernel
theorem d_Lw_map_6 : decode b_Lw_map 6 = .ok (.iload 5, 2) := by decide +kernel
theorem d_Lw_map_8 : decode b_Lw_map 8 = .ok (.invokevirtual 25, 3) := by decide +kernel
theorem d_Lw_map_11 : decode b_Lw_map 11 = .ok (.goto 11, 3) := by decide +kernel
theorem d_Lw_map_14 : decode b_Lw_map 14 = .ok (.astore 6, 2) := by decide +kernel
theorem d_Lw_map_16 : decode b_Lw_map 16 = .ok (.iconst 1, 1) := by decide +kernel
theorem d_Lw_map_17 : decode b_Lw_map 17 = .ok (.ireturn, 1) := by decide +kernel
theorem d_Lw_map_18 : decode b_Lw_map 18 = .ok (.astore 6, 2) := by decide +kernel
theorem d_Lw_map_20 : decode b_Lw_map 20 = .ok (.iconst 2, 1) := by decide +kernel
theorem d_Lw_map_21 : decode b_Lw_map 21 = .ok (.ireturn, 1) := by decide +kernel
theorem d_Lw_map_22 : decode b_Lw_map 22 = .ok (.iconst 0, 1) := by decide +kernel
theorem d_Lw_map_23 : decode b_Lw_map 23 = .ok (.ireturn, 1) := by decide +kernel
theorem d_Lw_macro_0 : decode b_Lw_macro 0 = .ok (.aload_n 0, 1) := by decide +kernel
theorem d_Lw_macro_1 : decode b_Lw_macro 1 = .ok (.iload_n 1, 1) := by decide +kernel
theorem d_Lw_macro_2 : decode b_Lw_macro 2 = .ok (.iload_n 2, 1) := by decide +kernel
theorem d_Lw_macro_3 : decode b_Lw_macro 3 = .ok (.iload_n 3, 1) := by decide +kernel
theorem d_Lw_macro_4 : decode b_Lw_macro 4 = .ok (.invokevirtual 29, 3) := by decide +kernel
theorem d_Lw_macro_7 : decode b_Lw_macro 7 = .ok (.goto 11, 3) := by decide +kernel
theorem d_Lw_macro_10 : decode b_Lw_macro 10 = .ok (.astore 4, 2) := by decide +kernel
theorem d_Lw_macro_12 : decode b_Lw_macro 12 = .ok (.iconst 1, 1) := by decide +kernel
theorem d_Lw_macro_13 : decode b_Lw_macro 13 = .ok (.ireturn, 1) := by decide +kernel
theorem d_Lw_macro_14 : decode b_Lw_macro 14 = .ok (.astore 4, 2) := by decide +kernel
theorem d_Lw_macro_16 : decode b_Lw_macro 16 = .ok (.iconst 2, 1) := by decide +kernel
theorem d_Lw_macro_17 : decode b_Lw_macro 17 = .ok (.ireturn, 1) := by decide +kernel
theorem d_Lw_macro_18 : decode b_Lw_macro 18 = .ok (.iconst 0, 1) := by decide +kernel
theorem d_Lw_macro_19 : decode b_Lw_macro 19 = .ok (.ireturn, 1) := by decide +kernel
theorem d_Lw_chord_0 : decode b_Lw_chord 0 = .ok (.aload_n 0, 1) := by decide +kernel
theorem d_Lw_chord_1 : decode b_Lw_chord 1 = .ok (.iload_n 1, 1) := by decide +kernel
theorem d_Lw_chord_2 : decode b_Lw_chord 2 = .ok (.iload_n 2, 1) := by decide +kernel
theorem d_Lw_chord_3 : decode b_Lw_chord 3 = .ok (.iload_n 3, 1) := by decide +kernel
theorem d_Lw_chord_4 : decode b_Lw_chord 4 = .ok (.invokevirtual 33, 3) := by decide +kernel
theorem d_Lw_chord_7 : decode b_Lw_chord 7 = .ok (.goto 15, 3) := by decide +kernel
theorem d_Lw_chord_10 : decode b_Lw_chord 10 = .ok (.astore 4, 2) := by decide +kernel
theorem d_Lw_chord_12 : decode b_Lw_chord 12 = .ok (.iconst 1, 1) := by decide +kernel
theorem d_Lw_chord_13 : decode b_Lw_chord 13 = .ok (.ireturn, 1) := by decide +kernel
theorem d_Lw_chord_14 : decode b_Lw_chord 14 = .ok (.astore 4, 2) := by decide +kernel
theorem d_Lw_chord_16 : decode b_Lw_chord 16 = .ok (.iconst 2, 1) := by decide +kernel
theorem d_Lw_chord_17 : decode b_Lw_chord 17 = .ok (.ireturn, 1) := by decide +kernel
theorem d_Lw_chord_18 : decode b_Lw_chord 18 = .ok (.astore 4, 2) := by decide +kernel
theorem d_Lw_chord_20 : decode b_Lw_chord 20 = .ok (.iconst 3, 1) := by decide +kernel
theorem d_Lw_chord_21 : decode b_Lw_chord 21 = .ok (.ireturn, 1) := by decide +kernel
theorem d_Lw_chord_22 : decode b_Lw_chord 22 = .ok (.iconst 0, 1) := by decide +kernel
theorem d_Lw_chord_23 : decode b_Lw_chord 23 = .ok (.ireturn, 1) := by decide +kernel
theorem d_Lw_on_0 : decode b_Lw_on 0 = .ok (.aload_n 2, 1) := by decide +kernel
theorem d_Lw_on_1 : decode b_Lw_on 1 = .ok (.iconst 0, 1) := by decide +kernel
theorem d_Lw_on_2 : decode b_Lw_on 2 = .ok (.aload_n 0, 1) := by decide +kernel
theorem d_Lw_on_3 : decode b_Lw_on 3 = .ok (.iload_n 1, 1) := by decide +kernel
theorem d_Lw_on_4 : decode b_Lw_on 4 = .ok (.invokevirtual 38, 3) := by decide +kernel
theorem d_Lw_on_7 : decode b_Lw_on 7 = .ok (.ifCond .eq 7, 3) := by decide +kernel
theorem d_Lw_on_10 : decode b_Lw_on 10 = .ok (.lconst 1, 1) := by decide +kernel
theorem d_Lw_on_11 : decode b_Lw_on 11 = .ok (.goto 4, 3) := by decide +kernel
theorem d_Lw_on_14 : decode b_Lw_on 14 = .ok (.lconst 0, 1) := by decide +kernel
theorem d_Lw_on_15 : decode b_Lw_on 15 = .ok (.lastore, 1) := by decide +kernel
theorem d_Lw_on_16 : decode b_Lw_on 16 = .ok (.goto 6, 3) := by decide +kernel
theorem d_Lw_on_19 : decode b_Lw_on 19 = .ok (.astore_n 3, 1) := by decide +kernel
theorem d_Lw_on_20 : decode b_Lw_on 20 = .ok (.iconst 1, 1) := by decide +kernel
theorem d_Lw_on_21 : decode b_Lw_on 21 = .ok (.ireturn, 1) := by decide +kernel
theorem d_Lw_on_22 : decode b_Lw_on 22 = .ok (.iconst 0, 1) := by decide +kernel
theorem d_Lw_on_23 : decode b_Lw_on 23 = .ok (.ireturn, 1) := by decide +kernel
theorem d_Lw_top_0 : decode b_Lw_top 0 = .ok (.aload_n 2, 1) := by decide +kernel
theorem d_Lw_top_1 : decode b_Lw_top 1 = .ok (.iconst 0, 1) := by decide +kernel
theorem d_Lw_top_2 : decode b_Lw_top 2 = .ok (.aload_n 0, 1) := by decide +kernel
theorem d_Lw_top_3 : decode b_Lw_top 3 = .ok (.iload_n 1, 1) := by decide +kernel
theorem d_Lw_top_4 : decode b_Lw_top 4 = .ok (.invokevirtual 42, 3) := by decide +kernel
theorem d_Lw_top_7 : decode b_Lw_top 7 = .ok (.i2l, 1) := by decide +kernel
theorem d_Lw_top_8 : decode b_Lw_top 8 = .ok (.lastore, 1) := by decide +kernel
theorem d_Lw_top_9 : decode b_Lw_top 9 = .ok (.goto 6, 3) := by decide +kernel
theorem d_Lw_top_12 : decode b_Lw_top 12 = .ok (.astore_n 3, 1) := by decide +kernel
theorem d_Lw_top_13 : decode b_Lw_top 13 = .ok (.iconst 1, 1) := by decide +kernel
theorem d_Lw_top_14 : decode b_Lw_top 14 = .ok (.ireturn, 1) := by decide +kernel
theorem d_Lw_top_15 : decode b_Lw_top 15 = .ok (.iconst 0, 1) := by decide +kernel
theorem d_Lw_top_16 : decode b_Lw_top 16 = .ok (.ireturn, 1) := by decide +kernel
theorem d_Lw_key_0 : decode b_Lw_key 0 = .ok (.aload_n 3, 1) := by decide +kernel
theorem d_Lw_key_1 : decode b_Lw_key 1 = .ok (.iconst 0, 1) := by decide +kernel
theorem d_Lw_key_2 : decode b_Lw_key 2 = .ok (.aload_n 0, 1) := by decide +kernel
theorem d_Lw_key_3 : decode b_Lw_key 3 = .ok (.iload_n 1, 1) := by decide +kernel
theorem d_Lw_key_4 : decode b_Lw_key 4 = .ok (.iload_n 2, 1) := by decide +kernel
theorem d_Lw_key_5 : decode b_Lw_key 5 = .ok (.invokevirtual 45, 3) := by decide +kernel
theorem d_Lw_key_8 : decode b_Lw_key 8 = .ok (.i2l, 1) := by decide +kernel
theorem d_Lw_key_9 : decode b_Lw_key 9 = .ok (.lastore, 1) := by decide +kernel
theorem d_Lw_key_10 : decode b_Lw_key 10 = .ok (.goto 7, 3) := by decide +kernel
theorem d_Lw_key_13 : decode b_Lw_key 13 = .ok (.astore 4, 2) := by decide +kernel
theorem d_Lw_key_15 : decode b_Lw_key 15 = .ok (.iconst 1, 1) := by decide +kernel
theorem d_Lw_key_16 : decode b_Lw_key 16 = .ok (.ireturn, 1) := by decide +kernel
theorem d_Lw_key_17 : decode b_Lw_key 17 = .ok (.iconst 0, 1) := by decide +kernel
theorem d_Lw_key_18 : decode b_Lw_key 18 = .ok (.ireturn, 1) := by decide +kernel
