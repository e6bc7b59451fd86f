theorem d_Mx_init_0 : decode b_Mx_init 0 = .ok (.aload_n 0, 1) := by decide +kernel
theorem d_Mx_init_1 : decode b_Mx_init 1 = .ok (.invokespecial 3, 3) := by decide +kernel
theorem d_Mx_init_4 : decode b_Mx_init 4 = .ok (.aload_n 0, 1) := by decide +kernel
theorem d_Mx_init_5 : decode b_Mx_init 5 = .ok (.bipush 24, 2) := by decide +kernel
theorem d_Mx_init_7 : decode b_Mx_init 7 = .ok (.newarray .int, 2) := by decide +kernel
theorem d_Mx_init_9 : decode b_Mx_init 9 = .ok (.putfield 9, 3) := by decide +kernel
theorem d_Mx_init_12 : decode b_Mx_init 12 = .ok (.aload_n 0, 1) := by decide +kernel
theorem d_Mx_init_13 : decode b_Mx_init 13 = .ok (.bipush 24, 2) := by decide +kernel
theorem d_Mx_init_15 : decode b_Mx_init 15 = .ok (.newarray .int, 2) := by decide +kernel
theorem d_Mx_init_17 : decode b_Mx_init 17 = .ok (.putfield 15, 3) := by decide +kernel
theorem d_Mx_init_20 : decode b_Mx_init 20 = .ok (.return_, 1) := by decide +kernel
theorem d_Mx_setWired_0 : decode b_Mx_setWired 0 = .ok (.aload_n 0, 1) := by decide +kernel
theorem d_Mx_setWired_1 : decode b_Mx_setWired 1 = .ok (.iload_n 2, 1) := by decide +kernel
theorem d_Mx_setWired_2 : decode b_Mx_setWired 2 = .ok (.ifCond .eq 14, 3) := by decide +kernel
theorem d_Mx_setWired_5 : decode b_Mx_setWired 5 = .ok (.aload_n 0, 1) := by decide +kernel
theorem d_Mx_setWired_6 : decode b_Mx_setWired 6 = .ok (.getfield 18, 3) := by decide +kernel
theorem d_Mx_setWired_9 : decode b_Mx_setWired 9 = .ok (.iconst 1, 1) := by decide +kernel
theorem d_Mx_setWired_10 : decode b_Mx_setWired 10 = .ok (.iload_n 1, 1) := by decide +kernel
theorem d_Mx_setWired_11 : decode b_Mx_setWired 11 = .ok (.ishl, 1) := by decide +kernel
theorem d_Mx_setWired_12 : decode b_Mx_setWired 12 = .ok (.ior, 1) := by decide +kernel
theorem d_Mx_setWired_13 : decode b_Mx_setWired 13 = .ok (.goto 13, 3) := by decide +kernel
theorem d_Mx_setWired_16 : decode b_Mx_setWired 16 = .ok (.aload_n 0, 1) := by decide +kernel
theorem d_Mx_setWired_17 : decode b_Mx_setWired 17 = .ok (.getfield 18, 3) := by decide +kernel
theorem d_Mx_setWired_20 : decode b_Mx_setWired 20 = .ok (.iconst 1, 1) := by decide +kernel
theorem d_Mx_setWired_21 : decode b_Mx_setWired 21 = .ok (.iload_n 1, 1) := by decide +kernel
theorem d_Mx_setWired_22 : decode b_Mx_setWired 22 = .ok (.ishl, 1) := by decide +kernel
theorem d_Mx_setWired_23 : decode b_Mx_setWired 23 = .ok (.iconst (-1), 1) := by decide +kernel
theorem d_Mx_setWired_24 : decode b_Mx_setWired 24 = .ok (.ixor, 1) := by decide +kernel
theorem d_Mx_setWired_25 : decode b_Mx_setWired 25 = .ok (.iand, 1) := by decide +kernel
theorem d_Mx_setWired_26 : decode b_Mx_setWired 26 = .ok (.putfield 18, 3) := by decide +kernel
theorem d_Mx_setWired_29 : decode b_Mx_setWired 29 = .ok (.return_, 1) := by decide +kernel
theorem d_Mx_setBounce_0 : decode b_Mx_setBounce 0 = .ok (.aload_n 0, 1) := by decide +kernel
theorem d_Mx_setBounce_1 : decode b_Mx_setBounce 1 = .ok (.getfield 9, 3) := by decide +kernel
theorem d_Mx_setBounce_4 : decode b_Mx_setBounce 4 = .ok (.iload_n 1, 1) := by decide +kernel
theorem d_Mx_setBounce_5 : decode b_Mx_setBounce 5 = .ok (.iload_n 2, 1) := by decide +kernel
theorem d_Mx_setBounce_6 : decode b_Mx_setBounce 6 = .ok (.iastore, 1) := by decide +kernel
theorem d_Mx_setBounce_7 : decode b_Mx_setBounce 7 = .ok (.return_, 1) := by decide +kernel
theorem d_Mx_keysThatAre_0 : decode b_Mx_keysThatAre 0 = .ok (.iload_n 1, 1) := by decide +kernel
theorem d_Mx_keysThatAre_1 : decode b_Mx_keysThatAre 1 = .ok (.tableswitch 42 0 2 #[27, 32, 37], 27) := by decide +kernel
theorem d_Mx_keysThatAre_28 : decode b_Mx_keysThatAre 28 = .ok (.aload_n 0, 1) := by decide +kernel
theorem d_Mx_keysThatAre_29 : decode b_Mx_keysThatAre 29 = .ok (.getfield 22, 3) := by decide +kernel
theorem d_Mx_keysThatAre_32 : decode b_Mx_keysThatAre 32 = .ok (.ireturn, 1) := by decide +kernel
theorem d_Mx_keysThatAre_33 : decode b_Mx_keysThatAre 33 = .ok (.aload_n 0, 1) := by decide +kernel
theorem d_Mx_keysThatAre_34 : decode b_Mx_keysThatAre 34 = .ok (.getfield 25, 3) := by decide +kernel
theorem d_Mx_keysThatAre_37 : decode b_Mx_keysThatAre 37 = .ok (.ireturn, 1) := by decide +kernel
theorem d_Mx_keysThatAre_38 : decode b_Mx_keysThatAre 38 = .ok (.aload_n 0, 1) := by decide +kernel
theorem d_Mx_keysThatAre_39 : decode b_Mx_keysThatAre 39 = .ok (.getfield 28, 3) := by decide +kernel
theorem d_Mx_keysThatAre_42 : decode b_Mx_keysThatAre 42 = .ok (.ireturn, 1) := by decide +kernel
theorem d_Mx_keysThatAre_43 : decode b_Mx_keysThatAre 43 = .ok (.aload_n 0, 1) := by decide +kernel
theorem d_Mx_keysThatAre_44 : decode b_Mx_keysThatAre 44 = .ok (.getfield 25, 3) := by decide +kernel
theorem d_Mx_keysThatAre_47 : decode b_Mx_keysThatAre 47 = .ok (.aload_n 0, 1) := by decide +kernel
theorem d_Mx_keysThatAre_48 : decode b_Mx_keysThatAre 48 = .ok (.getfield 28, 3) := by decide +kernel
theorem d_Mx_keysThatAre_51 : decode b_Mx_keysThatAre 51 = .ok (.iconst (-1), 1) := by decide +kernel
theorem d_Mx_keysThatAre_52 : decode b_Mx_keysThatAre 52 = .ok (.ixor, 1) := by decide +kernel
theorem d_Mx_keysThatAre_53 : decode b_Mx_keysThatAre 53 = .ok (.iand, 1) := by decide +kernel
theorem d_Mx_keysThatAre_54 : decode b_Mx_keysThatAre 54 = .ok (.ireturn, 1) := by decide +kernel
theorem d_Mx_look_0 : decode b_Mx_look 0 = .ok (.aload_n 0, 1) := by decide +kernel
theorem d_Mx_look_1 : decode b_Mx_look 1 = .ok (.invokevirtual 31, 3) := by decide +kernel
theorem d_Mx_look_4 : decode b_Mx_look 4 = .ok (.istore_n 1, 1) := by decide +kernel
theorem d_Mx_look_5 : decode b_Mx_look 5 = .ok (.aload_n 0, 1) := by decide +kernel
theorem d_Mx_look_6 : decode b_Mx_look 6 = .ok (.iload_n 1, 1) := by decide +kernel
theorem d_Mx_look_7 : decode b_Mx_look 7 = .ok (.putfield 22, 3) := by decide +kernel
theorem d_Mx_look_10 : decode b_Mx_look 10 = .ok (.iconst 0, 1) := by decide +kernel
theorem d_Mx_look_11 : decode b_Mx_look 11 = .ok (.istore_n 2, 1) := by decide +kernel
theorem d_Mx_look_12 : decode b_Mx_look 12 = .ok (.iload_n 2, 1) := by decide +kernel
theorem d_Mx_look_13 : decode b_Mx_look 13 = .ok (.bipush 24, 2) := by decide +kernel
theorem d_Mx_look_15 : decode b_Mx_look 15 = .ok (.if_icmp .ge 37, 3) := by decide +kernel
theorem d_Mx_look_18 : decode b_Mx_look 18 = .ok (.iload_n 1, 1) := by decide +kernel
theorem d_Mx_look_19 : decode b_Mx_look 19 = .ok (.iload_n 2, 1) := by decide +kernel
theorem d_Mx_look_20 : decode b_Mx_look 20 = .ok (.ishr, 1) := by decide +kernel
theorem d_Mx_look_21 : decode b_Mx_look 21 = .ok (.iconst 1, 1) := by decide +kernel
theorem d_Mx_look_22 : decode b_Mx_look 22 = .ok (.iand, 1) := by decide +kernel
theorem d_Mx_look_23 : decode b_Mx_look 23 = .ok (.ifCond .ne 23, 3) := by decide +kernel
theorem d_Mx_look_26 : decode b_Mx_look 26 = .ok (.iload_n 2, 1) := by decide +kernel
theorem d_Mx_look_27 : decode b_Mx_look 27 = .ok (.iload_n 1, 1) := by decide +kernel
theorem d_Mx_look_28 : decode b_Mx_look 28 = .ok (.invokestatic 35, 3) := by decide +kernel
theorem d_Mx_look_31 : decode b_Mx_look 31 = .ok (.ifCond .eq 15, 3) := by decide +kernel
theorem d_Mx_look_34 : decode b_Mx_look 34 = .ok (.aload_n 0, 1) := by decide +kernel
theorem d_Mx_look_35 : decode b_Mx_look 35 = .ok (.dup, 1) := by decide +kernel
theorem d_Mx_look_36 : decode b_Mx_look 36 = .ok (.getfield 22, 3) := by decide +kernel
theorem d_Mx_look_39 : decode b_Mx_look 39 = .ok (.iconst 1, 1) := by decide +kernel
theorem d_Mx_look_40 : decode b_Mx_look 40 = .ok (.iload_n 2, 1) := by decide +kernel
theorem d_Mx_look_41 : decode b_Mx_look 41 = .ok (.ishl, 1) := by decide +kernel
theorem d_Mx_look_42 : decode b_Mx_look 42 = .ok (.ior, 1) := by decide +kernel
theorem d_Mx_look_43 : decode b_Mx_look 43 = .ok (.putfield 22, 3) := by decide +kernel
theorem d_Mx_look_46 : decode b_Mx_look 46 = .ok (.iinc 2 1, 3) := by decide +kernel
theorem d_Mx_look_49 : decode b_Mx_look 49 = .ok (.goto (-37), 3) := by decide +kernel
theorem d_Mx_look_52 : decode b_Mx_look 52 = .ok (.iconst 0, 1) := by decide +kernel
theorem d_Mx_look_53 : decode b_Mx_look 53 = .ok (.istore_n 2, 1) := by decide +kernel
theorem d_Mx_look_54 : decode b_Mx_look 54 = .ok (.iload_n 2, 1) := by decide +kernel
theorem d_Mx_look_55 : decode b_Mx_look 55 = .ok (.bipush 24, 2) := by decide +kernel
theorem d_Mx_look_57 : decode b_Mx_look 57 = .ok (.if_icmp .ge 14, 3) := by decide +kernel
theorem d_Mx_look_60 : decode b_Mx_look 60 = .ok (.aload_n 0, 1) := by decide +kernel
theorem d_Mx_look_61 : decode b_Mx_look 61 = .ok (.iload_n 2, 1) := by decide +kernel
theorem d_Mx_look_62 : decode b_Mx_look 62 = .ok (.invokevirtual 39, 3) := by decide +kernel
theorem d_Mx_look_65 : decode b_Mx_look 65 = .ok (.iinc 2 1, 3) := by decide +kernel
theorem d_Mx_look_68 : decode b_Mx_look 68 = .ok (.goto (-14), 3) := by decide +kernel
theorem d_Mx_look_71 : decode b_Mx_look 71 = .ok (.return_, 1) := by decide +kernel
theorem d_Mx_believe_0 : decode b_Mx_believe 0 = .ok (.iconst 1, 1) := by decide +kernel
theorem d_Mx_believe_1 : decode b_Mx_believe 1 = .ok (.iload_n 1, 1) := by decide +kernel
theorem d_Mx_believe_2 : decode b_Mx_believe 2 = .ok (.ishl, 1) := by decide +kernel
theorem d_Mx_believe_3 : decode b_Mx_believe 3 = .ok (.istore_n 2, 1) := by decide +kernel
theorem d_Mx_believe_4 : decode b_Mx_believe 4 = .ok (.aload_n 0, 1) := by decide +kernel
theorem d_Mx_believe_5 : decode b_Mx_believe 5 = .ok (.getfield 28, 3) := by decide +kernel
theorem d_Mx_believe_8 : decode b_Mx_believe 8 = .ok (.aload_n 0, 1) := by decide +kernel
theorem d_Mx_believe_9 : decode b_Mx_believe 9 = .ok (.getfield 25, 3) := by decide +kernel
theorem d_Mx_believe_12 : decode b_Mx_believe 12 = .ok (.iconst (-1), 1) := by decide +kernel
theorem d_Mx_believe_13 : decode b_Mx_believe 13 = .ok (.ixor, 1) := by decide +kernel
theorem d_Mx_believe_14 : decode b_Mx_believe 14 = .ok (.iand, 1) := by decide +kernel
theorem d_Mx_believe_15 : decode b_Mx_believe 15 = .ok (.iload_n 2, 1) := by decide +kernel
theorem d_Mx_believe_16 : decode b_Mx_believe 16 = .ok (.iand, 1) := by decide +kernel
theorem d_Mx_believe_17 : decode b_Mx_believe 17 = .ok (.ifCond .eq 19, 3) := by decide +kernel
theorem d_Mx_believe_20 : decode b_Mx_believe 20 = .ok (.aload_n 0, 1) := by decide +kernel
theorem d_Mx_believe_21 : decode b_Mx_believe 21 = .ok (.dup, 1) := by decide +kernel
theorem d_Mx_believe_22 : decode b_Mx_believe 22 = .ok (.getfield 28, 3) := by decide +kernel
theorem d_Mx_believe_25 : decode b_Mx_believe 25 = .ok (.iload_n 2, 1) := by decide +kernel
theorem d_Mx_believe_26 : decode b_Mx_believe 26 = .ok (.iconst (-1), 1) := by decide +kernel
theorem d_Mx_believe_27 : decode b_Mx_believe 27 = .ok (.ixor, 1) := by decide +kernel
theorem d_Mx_believe_28 : decode b_Mx_believe 28 = .ok (.iand, 1) := by decide +kernel
theorem d_Mx_believe_29 : decode b_Mx_believe 29 = .ok (.putfield 28, 3) := by decide +kernel
theorem d_Mx_believe_32 : decode b_Mx_believe 32 = .ok (.iconst 2, 1) := by decide +kernel
theorem d_Mx_believe_33 : decode b_Mx_believe 33 = .ok (.iload_n 1, 1) := by decide +kernel
theorem d_Mx_believe_34 : decode b_Mx_believe 34 = .ok (.imul, 1) := by decide +kernel
theorem d_Mx_believe_35 : decode b_Mx_believe 35 = .ok (.ireturn, 1) := by decide +kernel
theorem d_Mx_believe_36 : decode b_Mx_believe 36 = .ok (.aload_n 0, 1) := by decide +kernel
theorem d_Mx_believe_37 : decode b_Mx_believe 37 = .ok (.getfield 25, 3) := by decide +kernel
theorem d_Mx_believe_40 : decode b_Mx_believe 40 = .ok (.aload_n 0, 1) := by decide +kernel
theorem d_Mx_believe_41 : decode b_Mx_believe 41 = .ok (.getfield 28, 3) := by decide +kernel
theorem d_Mx_believe_44 : decode b_Mx_believe 44 = .ok (.iconst (-1), 1) := by decide +kernel
theorem d_Mx_believe_45 : decode b_Mx_believe 45 = .ok (.ixor, 1) := by decide +kernel
theorem d_Mx_believe_46 : decode b_Mx_believe 46 = .ok (.iand, 1) := by decide +kernel
theorem d_Mx_believe_47 : decode b_Mx_believe 47 = .ok (.iload_n 2, 1) := by decide +kernel
theorem d_Mx_believe_48 : decode b_Mx_believe 48 = .ok (.iand, 1) := by decide +kernel
theorem d_Mx_believe_49 : decode b_Mx_believe 49 = .ok (.ifCond .eq 30, 3) := by decide +kernel
theorem d_Mx_believe_52 : decode b_Mx_believe 52 = .ok (.iload_n 1, 1) := by decide +kernel
theorem d_Mx_believe_53 : decode b_Mx_believe 53 = .ok (.aload_n 0, 1) := by decide +kernel
theorem d_Mx_believe_54 : decode b_Mx_believe 54 = .ok (.getfield 25, 3) := by decide +kernel
theorem d_Mx_believe_57 : decode b_Mx_believe 57 = .ok (.invokestatic 35, 3) := by decide +kernel
theorem d_Mx_believe_60 : decode b_Mx_believe 60 = .ok (.ifCond .ne 19, 3) := by decide +kernel
theorem d_Mx_believe_63 : decode b_Mx_believe 63 = .ok (.aload_n 0, 1) := by decide +kernel
theorem d_Mx_believe_64 : decode b_Mx_believe 64 = .ok (.dup, 1) := by decide +kernel
theorem d_Mx_believe_65 : decode b_Mx_believe 65 = .ok (.getfield 28, 3) := by decide +kernel
theorem d_Mx_believe_68 : decode b_Mx_believe 68 = .ok (.iload_n 2, 1) := by decide +kernel
theorem d_Mx_believe_69 : decode b_Mx_believe 69 = .ok (.ior, 1) := by decide +kernel
theorem d_Mx_believe_70 : decode b_Mx_believe 70 = .ok (.putfield 28, 3) := by decide +kernel
theorem d_Mx_believe_73 : decode b_Mx_believe 73 = .ok (.iconst 2, 1) := by decide +kernel
theorem d_Mx_believe_74 : decode b_Mx_believe 74 = .ok (.iload_n 1, 1) := by decide +kernel
theorem d_Mx_believe_75 : decode b_Mx_believe 75 = .ok (.imul, 1) := by decide +kernel
theorem d_Mx_believe_76 : decode b_Mx_believe 76 = .ok (.iconst 1, 1) := by decide +kernel
theorem d_Mx_believe_77 : decode b_Mx_believe 77 = .ok (.iadd, 1) := by decide +kernel
theorem d_Mx_believe_78 : decode b_Mx_believe 78 = .ok (.ireturn, 1) := by decide +kernel
theorem d_Mx_believe_79 : decode b_Mx_believe 79 = .ok (.iconst (-1), 1) := by decide +kernel
theorem d_Mx_believe_80 : decode b_Mx_believe 80 = .ok (.ireturn, 1) := by decide +kernel
theorem d_Mx_closedContacts_0 : decode b_Mx_closedContacts 0 = .ok (.aload_n 0, 1) := by decide +kernel
theorem d_Mx_closedContacts_1 : decode b_Mx_closedContacts 1 = .ok (.getfield 18, 3) := by decide +kernel
theorem d_Mx_closedContacts_4 : decode b_Mx_closedContacts 4 = .ok (.istore_n 1, 1) := by decide +kernel
theorem d_Mx_closedContacts_5 : decode b_Mx_closedContacts 5 = .ok (.iconst 0, 1) := by decide +kernel
theorem d_Mx_closedContacts_6 : decode b_Mx_closedContacts 6 = .ok (.istore_n 2, 1) := by decide +kernel
theorem d_Mx_closedContacts_7 : decode b_Mx_closedContacts 7 = .ok (.iload_n 2, 1) := by decide +kernel
theorem d_Mx_closedContacts_8 : decode b_Mx_closedContacts 8 = .ok (.bipush 24, 2) := by decide +kernel
theorem d_Mx_closedContacts_10 : decode b_Mx_closedContacts 10 = .ok (.if_icmp .ge 32, 3) := by decide +kernel
theorem d_Mx_closedContacts_13 : decode b_Mx_closedContacts 13 = .ok (.iload_n 1, 1) := by decide +kernel
theorem d_Mx_closedContacts_14 : decode b_Mx_closedContacts 14 = .ok (.aload_n 0, 1) := by decide +kernel
theorem d_Mx_closedContacts_15 : decode b_Mx_closedContacts 15 = .ok (.getfield 9, 3) := by decide +kernel
theorem d_Mx_closedContacts_18 : decode b_Mx_closedContacts 18 = .ok (.iload_n 2, 1) := by decide +kernel
theorem d_Mx_closedContacts_19 : decode b_Mx_closedContacts 19 = .ok (.iaload, 1) := by decide +kernel
theorem d_Mx_closedContacts_20 : decode b_Mx_closedContacts 20 = .ok (.iconst 1, 1) := by decide +kernel
theorem d_Mx_closedContacts_21 : decode b_Mx_closedContacts 21 = .ok (.iand, 1) := by decide +kernel
theorem d_Mx_closedContacts_22 : decode b_Mx_closedContacts 22 = .ok (.iload_n 2, 1) := by decide +kernel
theorem d_Mx_closedContacts_23 : decode b_Mx_closedContacts 23 = .ok (.ishl, 1) := by decide +kernel
theorem d_Mx_closedContacts_24 : decode b_Mx_closedContacts 24 = .ok (.ixor, 1) := by decide +kernel
theorem d_Mx_closedContacts_25 : decode b_Mx_closedContacts 25 = .ok (.istore_n 1, 1) := by decide +kernel
theorem d_Mx_closedContacts_26 : decode b_Mx_closedContacts 26 = .ok (.aload_n 0, 1) := by decide +kernel
theorem d_Mx_closedContacts_27 : decode b_Mx_closedContacts 27 = .ok (.getfield 9, 3) := by decide +kernel
theorem d_Mx_closedContacts_30 : decode b_Mx_closedContacts 30 = .ok (.iload_n 2, 1) := by decide +kernel
theorem d_Mx_closedContacts_31 : decode b_Mx_closedContacts 31 = .ok (.dup2, 1) := by decide +kernel
theorem d_Mx_closedContacts_32 : decode b_Mx_closedContacts 32 = .ok (.iaload, 1) := by decide +kernel
theorem d_Mx_closedContacts_33 : decode b_Mx_closedContacts 33 = .ok (.iconst 1, 1) := by decide +kernel
theorem d_Mx_closedContacts_34 : decode b_Mx_closedContacts 34 = .ok (.ishr, 1) := by decide +kernel
theorem d_Mx_closedContacts_35 : decode b_Mx_closedContacts 35 = .ok (.iastore, 1) := by decide +kernel
theorem d_Mx_closedContacts_36 : decode b_Mx_closedContacts 36 = .ok (.iinc 2 1, 3) := by decide +kernel
theorem d_Mx_closedContacts_39 : decode b_Mx_closedContacts 39 = .ok (.goto (-32), 3) := by decide +kernel
theorem d_Mx_closedContacts_42 : decode b_Mx_closedContacts 42 = .ok (.iload_n 1, 1) := by decide +kernel
theorem d_Mx_closedContacts_43 : decode b_Mx_closedContacts 43 = .ok (.ireturn, 1) := by decide +kernel
theorem d_Mx_watch_0 : decode b_Mx_watch 0 = .ok (.iconst 1, 1) := by decide +kernel
theorem d_Mx_watch_1 : decode b_Mx_watch 1 = .ok (.iload_n 1, 1) := by decide +kernel
theorem d_Mx_watch_2 : decode b_Mx_watch 2 = .ok (.ishl, 1) := by decide +kernel
theorem d_Mx_watch_3 : decode b_Mx_watch 3 = .ok (.istore_n 2, 1) := by decide +kernel
theorem d_Mx_watch_4 : decode b_Mx_watch 4 = .ok (.aload_n 0, 1) := by decide +kernel
theorem d_Mx_watch_5 : decode b_Mx_watch 5 = .ok (.getfield 15, 3) := by decide +kernel
theorem d_Mx_watch_8 : decode b_Mx_watch 8 = .ok (.iload_n 1, 1) := by decide +kernel
theorem d_Mx_watch_9 : decode b_Mx_watch 9 = .ok (.aload_n 0, 1) := by decide +kernel
theorem d_Mx_watch_10 : decode b_Mx_watch 10 = .ok (.getfield 22, 3) := by decide +kernel
theorem d_Mx_watch_13 : decode b_Mx_watch 13 = .ok (.aload_n 0, 1) := by decide +kernel
theorem d_Mx_watch_14 : decode b_Mx_watch 14 = .ok (.getfield 25, 3) := by decide +kernel
theorem d_Mx_watch_17 : decode b_Mx_watch 17 = .ok (.ixor, 1) := by decide +kernel
theorem d_Mx_watch_18 : decode b_Mx_watch 18 = .ok (.iload_n 2, 1) := by decide +kernel
theorem d_Mx_watch_19 : decode b_Mx_watch 19 = .ok (.iand, 1) := by decide +kernel
theorem d_Mx_watch_20 : decode b_Mx_watch 20 = .ok (.ifCond .eq 14, 3) := by decide +kernel
theorem d_Mx_watch_23 : decode b_Mx_watch 23 = .ok (.aload_n 0, 1) := by decide +kernel
theorem d_Mx_watch_24 : decode b_Mx_watch 24 = .ok (.getfield 15, 3) := by decide +kernel
theorem d_Mx_watch_27 : decode b_Mx_watch 27 = .ok (.iload_n 1, 1) := by decide +kernel
theorem d_Mx_watch_28 : decode b_Mx_watch 28 = .ok (.iaload, 1) := by decide +kernel
theorem d_Mx_watch_29 : decode b_Mx_watch 29 = .ok (.iconst 1, 1) := by decide +kernel
theorem d_Mx_watch_30 : decode b_Mx_watch 30 = .ok (.iadd, 1) := by decide +kernel
theorem d_Mx_watch_31 : decode b_Mx_watch 31 = .ok (.goto 4, 3) := by decide +kernel
theorem d_Mx_watch_34 : decode b_Mx_watch 34 = .ok (.iconst 0, 1) := by decide +kernel
theorem d_Mx_watch_35 : decode b_Mx_watch 35 = .ok (.iastore, 1) := by decide +kernel
theorem d_Mx_watch_36 : decode b_Mx_watch 36 = .ok (.aload_n 0, 1) := by decide +kernel
theorem d_Mx_watch_37 : decode b_Mx_watch 37 = .ok (.getfield 15, 3) := by decide +kernel
theorem d_Mx_watch_40 : decode b_Mx_watch 40 = .ok (.iload_n 1, 1) := by decide +kernel
theorem d_Mx_watch_41 : decode b_Mx_watch 41 = .ok (.iaload, 1) := by decide +kernel
theorem d_Mx_watch_42 : decode b_Mx_watch 42 = .ok (.iconst 5, 1) := by decide +kernel
theorem d_Mx_watch_43 : decode b_Mx_watch 43 = .ok (.if_icmp .ne 20, 3) := by decide +kernel
theorem d_Mx_watch_46 : decode b_Mx_watch 46 = .ok (.aload_n 0, 1) := by decide +kernel
theorem d_Mx_watch_47 : decode b_Mx_watch 47 = .ok (.dup, 1) := by decide +kernel
theorem d_Mx_watch_48 : decode b_Mx_watch 48 = .ok (.getfield 25, 3) := by decide +kernel
theorem d_Mx_watch_51 : decode b_Mx_watch 51 = .ok (.iload_n 2, 1) := by decide +kernel
theorem d_Mx_watch_52 : decode b_Mx_watch 52 = .ok (.ixor, 1) := by decide +kernel
theorem d_Mx_watch_53 : decode b_Mx_watch 53 = .ok (.putfield 25, 3) := by decide +kernel
theorem d_Mx_watch_56 : decode b_Mx_watch 56 = .ok (.aload_n 0, 1) := by decide +kernel
theorem d_Mx_watch_57 : decode b_Mx_watch 57 = .ok (.getfield 15, 3) := by decide +kernel
theorem d_Mx_watch_60 : decode b_Mx_watch 60 = .ok (.iload_n 1, 1) := by decide +kernel
theorem d_Mx_watch_61 : decode b_Mx_watch 61 = .ok (.iconst 0, 1) := by decide +kernel
theorem d_Mx_watch_62 : decode b_Mx_watch 62 = .ok (.iastore, 1) := by decide +kernel
theorem d_Mx_watch_63 : decode b_Mx_watch 63 = .ok (.return_, 1) := by decide +kernel
theorem d_Mx_isFourthCorner_0 : decode b_Mx_isFourthCorner 0 = .ok (.iload_n 0, 1) := by decide +kernel
theorem d_Mx_isFourthCorner_1 : decode b_Mx_isFourthCorner 1 = .ok (.bipush 6, 2) := by decide +kernel
theorem d_Mx_isFourthCorner_3 : decode b_Mx_isFourthCorner 3 = .ok (.idiv, 1) := by decide +kernel
theorem d_Mx_isFourthCorner_4 : decode b_Mx_isFourthCorner 4 = .ok (.istore_n 2, 1) := by decide +kernel
theorem d_Mx_isFourthCorner_5 : decode b_Mx_isFourthCorner 5 = .ok (.iload_n 0, 1) := by decide +kernel
theorem d_Mx_isFourthCorner_6 : decode b_Mx_isFourthCorner 6 = .ok (.bipush 6, 2) := by decide +kernel
theorem d_Mx_isFourthCorner_8 : decode b_Mx_isFourthCorner 8 = .ok (.irem, 1) := by decide +kernel
theorem d_Mx_isFourthCorner_9 : decode b_Mx_isFourthCorner 9 = .ok (.istore_n 3, 1) := by decide +kernel
theorem d_Mx_isFourthCorner_10 : decode b_Mx_isFourthCorner 10 = .ok (.iload_n 1, 1) := by decide +kernel
theorem d_Mx_isFourthCorner_11 : decode b_Mx_isFourthCorner 11 = .ok (.iload_n 2, 1) := by decide +kernel
theorem d_Mx_isFourthCorner_12 : decode b_Mx_isFourthCorner 12 = .ok (.invokestatic 43, 3) := by decide +kernel
theorem d_Mx_isFourthCorner_15 : decode b_Mx_isFourthCorner 15 = .ok (.iconst 1, 1) := by decide +kernel
theorem d_Mx_isFourthCorner_16 : decode b_Mx_isFourthCorner 16 = .ok (.iload_n 3, 1) := by decide +kernel
theorem d_Mx_isFourthCorner_17 : decode b_Mx_isFourthCorner 17 = .ok (.ishl, 1) := by decide +kernel
theorem d_Mx_isFourthCorner_18 : decode b_Mx_isFourthCorner 18 = .ok (.iconst (-1), 1) := by decide +kernel
theorem d_Mx_isFourthCorner_19 : decode b_Mx_isFourthCorner 19 = .ok (.ixor, 1) := by decide +kernel
theorem d_Mx_isFourthCorner_20 : decode b_Mx_isFourthCorner 20 = .ok (.iand, 1) := by decide +kernel
theorem d_Mx_isFourthCorner_21 : decode b_Mx_isFourthCorner 21 = .ok (.istore 4, 2) := by decide +kernel
theorem d_Mx_isFourthCorner_23 : decode b_Mx_isFourthCorner 23 = .ok (.iconst 0, 1) := by decide +kernel
theorem d_Mx_isFourthCorner_24 : decode b_Mx_isFourthCorner 24 = .ok (.istore 5, 2) := by decide +kernel
theorem d_Mx_isFourthCorner_26 : decode b_Mx_isFourthCorner 26 = .ok (.iload 5, 2) := by decide +kernel
theorem d_Mx_isFourthCorner_28 : decode b_Mx_isFourthCorner 28 = .ok (.iconst 4, 1) := by decide +kernel
theorem d_Mx_isFourthCorner_29 : decode b_Mx_isFourthCorner 29 = .ok (.if_icmp .ge 42, 3) := by decide +kernel
theorem d_Mx_isFourthCorner_32 : decode b_Mx_isFourthCorner 32 = .ok (.iload_n 1, 1) := by decide +kernel
theorem d_Mx_isFourthCorner_33 : decode b_Mx_isFourthCorner 33 = .ok (.iload 5, 2) := by decide +kernel
theorem d_Mx_isFourthCorner_35 : decode b_Mx_isFourthCorner 35 = .ok (.invokestatic 43, 3) := by decide +kernel
theorem d_Mx_isFourthCorner_38 : decode b_Mx_isFourthCorner 38 = .ok (.istore 6, 2) := by decide +kernel
theorem d_Mx_isFourthCorner_40 : decode b_Mx_isFourthCorner 40 = .ok (.iload 5, 2) := by decide +kernel
theorem d_Mx_isFourthCorner_42 : decode b_Mx_isFourthCorner 42 = .ok (.iload_n 2, 1) := by decide +kernel
theorem d_Mx_isFourthCorner_43 : decode b_Mx_isFourthCorner 43 = .ok (.if_icmp .eq 22, 3) := by decide +kernel
theorem d_Mx_isFourthCorner_46 : decode b_Mx_isFourthCorner 46 = .ok (.iload 6, 2) := by decide +kernel
theorem d_Mx_isFourthCorner_48 : decode b_Mx_isFourthCorner 48 = .ok (.iload_n 3, 1) := by decide +kernel
theorem d_Mx_isFourthCorner_49 : decode b_Mx_isFourthCorner 49 = .ok (.ishr, 1) := by decide +kernel
theorem d_Mx_isFourthCorner_50 : decode b_Mx_isFourthCorner 50 = .ok (.iconst 1, 1) := by decide +kernel
theorem d_Mx_isFourthCorner_51 : decode b_Mx_isFourthCorner 51 = .ok (.iand, 1) := by decide +kernel
theorem d_Mx_isFourthCorner_52 : decode b_Mx_isFourthCorner 52 = .ok (.ifCond .eq 13, 3) := by decide +kernel
theorem d_Mx_isFourthCorner_55 : decode b_Mx_isFourthCorner 55 = .ok (.iload 6, 2) := by decide +kernel
theorem d_Mx_isFourthCorner_57 : decode b_Mx_isFourthCorner 57 = .ok (.iload 4, 2) := by decide +kernel
theorem d_Mx_isFourthCorner_59 : decode b_Mx_isFourthCorner 59 = .ok (.iand, 1) := by decide +kernel
theorem d_Mx_isFourthCorner_60 : decode b_Mx_isFourthCorner 60 = .ok (.ifCond .eq 5, 3) := by decide +kernel
theorem d_Mx_isFourthCorner_63 : decode b_Mx_isFourthCorner 63 = .ok (.iconst 1, 1) := by decide +kernel
theorem d_Mx_isFourthCorner_64 : decode b_Mx_isFourthCorner 64 = .ok (.ireturn, 1) := by decide +kernel
theorem d_Mx_isFourthCorner_65 : decode b_Mx_isFourthCorner 65 = .ok (.iinc 5 1, 3) := by decide +kernel
theorem d_Mx_isFourthCorner_68 : decode b_Mx_isFourthCorner 68 = .ok (.goto (-42), 3) := by decide +kernel
theorem d_Mx_isFourthCorner_71 : decode b_Mx_isFourthCorner 71 = .ok (.iconst 0, 1) := by decide +kernel
theorem d_Mx_isFourthCorner_72 : decode b_Mx_isFourthCorner 72 = .ok (.ireturn, 1) := by decide +kernel
theorem d_Mx_rowOf_0 : decode b_Mx_rowOf 0 = .ok (.iload_n 0, 1) := by decide +kernel
theorem d_Mx_rowOf_1 : decode b_Mx_rowOf 1 = .ok (.iload_n 1, 1) := by decide +kernel
theorem d_Mx_rowOf_2 : decode b_Mx_rowOf 2 = .ok (.bipush 6, 2) := by decide +kernel
theorem d_Mx_rowOf_4 : decode b_Mx_rowOf 4 = .ok (.imul, 1) := by decide +kernel
theorem d_Mx_rowOf_5 : decode b_Mx_rowOf 5 = .ok (.ishr, 1) := by decide +kernel
theorem d_Mx_rowOf_6 : decode b_Mx_rowOf 6 = .ok (.bipush 63, 2) := by decide +kernel
theorem d_Mx_rowOf_8 : decode b_Mx_rowOf 8 = .ok (.iand, 1) := by decide +kernel
theorem d_Mx_rowOf_9 : decode b_Mx_rowOf 9 = .ok (.ireturn, 1) := by decide +kernel
theorem d_Hi_init_0 : decode b_Hi_init 0 = .ok (.aload_n 0, 1) := by decide +kernel
theorem d_Hi_init_1 : decode b_Hi_init 1 = .ok (.invokespecial 3, 3) := by decide +kernel
theorem d_Hi_init_4 : decode b_Hi_init 4 = .ok (.aload_n 0, 1) := by decide +kernel
theorem d_Hi_init_5 : decode b_Hi_init 5 = .ok (.bipush 32, 2) := by decide +kernel
theorem d_Hi_init_7 : decode b_Hi_init 7 = .ok (.newarray .int, 2) := by decide +kernel
theorem d_Hi_init_9 : decode b_Hi_init 9 = .ok (.putfield 11, 3) := by decide +kernel
theorem d_Hi_init_12 : decode b_Hi_init 12 = .ok (.return_, 1) := by decide +kernel
theorem d_Hi_add_0 : decode b_Hi_add 0 = .ok (.aload_n 0, 1) := by decide +kernel
theorem d_Hi_add_1 : decode b_Hi_add 1 = .ok (.getfield 11, 3) := by decide +kernel
theorem d_Hi_add_4 : decode b_Hi_add 4 = .ok (.aload_n 0, 1) := by decide +kernel
theorem d_Hi_add_5 : decode b_Hi_add 5 = .ok (.getfield 15, 3) := by decide +kernel
theorem d_Hi_add_8 : decode b_Hi_add 8 = .ok (.iload_n 1, 1) := by decide +kernel
theorem d_Hi_add_9 : decode b_Hi_add 9 = .ok (.iastore, 1) := by decide +kernel
theorem d_Hi_add_10 : decode b_Hi_add 10 = .ok (.aload_n 0, 1) := by decide +kernel
theorem d_Hi_add_11 : decode b_Hi_add 11 = .ok (.aload_n 0, 1) := by decide +kernel
theorem d_Hi_add_12 : decode b_Hi_add 12 = .ok (.getfield 15, 3) := by decide +kernel
theorem d_Hi_add_15 : decode b_Hi_add 15 = .ok (.iconst 1, 1) := by decide +kernel
theorem d_Hi_add_16 : decode b_Hi_add 16 = .ok (.iadd, 1) := by decide +kernel
theorem d_Hi_add_17 : decode b_Hi_add 17 = .ok (.bipush 32, 2) := by decide +kernel
theorem d_Hi_add_19 : decode b_Hi_add 19 = .ok (.irem, 1) := by decide +kernel
theorem d_Hi_add_20 : decode b_Hi_add 20 = .ok (.putfield 15, 3) := by decide +kernel
theorem d_Hi_add_23 : decode b_Hi_add 23 = .ok (.aload_n 0, 1) := by decide +kernel
theorem d_Hi_add_24 : decode b_Hi_add 24 = .ok (.aload_n 0, 1) := by decide +kernel
theorem d_Hi_add_25 : decode b_Hi_add 25 = .ok (.getfield 19, 3) := by decide +kernel
theorem d_Hi_add_28 : decode b_Hi_add 28 = .ok (.iconst 1, 1) := by decide +kernel
theorem d_Hi_add_29 : decode b_Hi_add 29 = .ok (.iadd, 1) := by decide +kernel
theorem d_Hi_add_30 : decode b_Hi_add 30 = .ok (.bipush 32, 2) := by decide +kernel
theorem d_Hi_add_32 : decode b_Hi_add 32 = .ok (.invokestatic 22, 3) := by decide +kernel
theorem d_Hi_add_35 : decode b_Hi_add 35 = .ok (.putfield 19, 3) := by decide +kernel
theorem d_Hi_add_38 : decode b_Hi_add 38 = .ok (.return_, 1) := by decide +kernel
theorem d_Hi_latest_0 : decode b_Hi_latest 0 = .ok (.iload_n 1, 1) := by decide +kernel
theorem d_Hi_latest_1 : decode b_Hi_latest 1 = .ok (.ifCond .lt 11, 3) := by decide +kernel
theorem d_Hi_latest_4 : decode b_Hi_latest 4 = .ok (.iload_n 1, 1) := by decide +kernel
theorem d_Hi_latest_5 : decode b_Hi_latest 5 = .ok (.aload_n 0, 1) := by decide +kernel
theorem d_Hi_latest_6 : decode b_Hi_latest 6 = .ok (.getfield 19, 3) := by decide +kernel
theorem d_Hi_latest_9 : decode b_Hi_latest 9 = .ok (.if_icmp .lt 5, 3) := by decide +kernel
theorem d_Hi_latest_12 : decode b_Hi_latest 12 = .ok (.iconst (-1), 1) := by decide +kernel
theorem d_Hi_latest_13 : decode b_Hi_latest 13 = .ok (.ireturn, 1) := by decide +kernel
theorem d_Hi_latest_14 : decode b_Hi_latest 14 = .ok (.aload_n 0, 1) := by decide +kernel
theorem d_Hi_latest_15 : decode b_Hi_latest 15 = .ok (.getfield 11, 3) := by decide +kernel
theorem d_Hi_latest_18 : decode b_Hi_latest 18 = .ok (.aload_n 0, 1) := by decide +kernel
theorem d_Hi_latest_19 : decode b_Hi_latest 19 = .ok (.getfield 15, 3) := by decide +kernel
theorem d_Hi_latest_22 : decode b_Hi_latest 22 = .ok (.bipush 32, 2) := by decide +kernel
theorem d_Hi_latest_24 : decode b_Hi_latest 24 = .ok (.iadd, 1) := by decide +kernel
theorem d_Hi_latest_25 : decode b_Hi_latest 25 = .ok (.iconst 1, 1) := by decide +kernel
theorem d_Hi_latest_26 : decode b_Hi_latest 26 = .ok (.isub, 1) := by decide +kernel
theorem d_Hi_latest_27 : decode b_Hi_latest 27 = .ok (.iload_n 1, 1) := by decide +kernel
theorem d_Hi_latest_28 : decode b_Hi_latest 28 = .ok (.isub, 1) := by decide +kernel
theorem d_Hi_latest_29 : decode b_Hi_latest 29 = .ok (.bipush 32, 2) := by decide +kernel
theorem d_Hi_latest_31 : decode b_Hi_latest 31 = .ok (.irem, 1) := by decide +kernel
theorem d_Hi_latest_32 : decode b_Hi_latest 32 = .ok (.iaload, 1) := by decide +kernel
theorem d_Hi_latest_33 : decode b_Hi_latest 33 = .ok (.ireturn, 1) := by decide +kernel
theorem d_Eq_init_0 : decode b_Eq_init 0 = .ok (.aload_n 0, 1) := by decide +kernel
theorem d_Eq_init_1 : decode b_Eq_init 1 = .ok (.invokespecial 3, 3) := by decide +kernel
theorem d_Eq_init_4 : decode b_Eq_init 4 = .ok (.aload_n 0, 1) := by decide +kernel
theorem d_Eq_init_5 : decode b_Eq_init 5 = .ok (.bipush 32, 2) := by decide +kernel
theorem d_Eq_init_7 : decode b_Eq_init 7 = .ok (.newarray .int, 2) := by decide +kernel
theorem d_Eq_init_9 : decode b_Eq_init 9 = .ok (.putfield 11, 3) := by decide +kernel
theorem d_Eq_init_12 : decode b_Eq_init 12 = .ok (.aload_n 0, 1) := by decide +kernel
theorem d_Eq_init_13 : decode b_Eq_init 13 = .ok (.bipush 32, 2) := by decide +kernel
theorem d_Eq_init_15 : decode b_Eq_init 15 = .ok (.newarray .int, 2) := by decide +kernel
theorem d_Eq_init_17 : decode b_Eq_init 17 = .ok (.putfield 15, 3) := by decide +kernel
theorem d_Eq_init_20 : decode b_Eq_init 20 = .ok (.return_, 1) := by decide +kernel
theorem d_Eq_length_0 : decode b_Eq_length 0 = .ok (.aload_n 0, 1) := by decide +kernel
theorem d_Eq_length_1 : decode b_Eq_length 1 = .ok (.getfield 18, 3) := by decide +kernel
theorem d_Eq_length_4 : decode b_Eq_length 4 = .ok (.ireturn, 1) := by decide +kernel
theorem d_Eq_add_0 : decode b_Eq_add 0 = .ok (.aload_n 0, 1) := by decide +kernel
theorem d_Eq_add_1 : decode b_Eq_add 1 = .ok (.getfield 18, 3) := by decide +kernel
theorem d_Eq_add_4 : decode b_Eq_add 4 = .ok (.bipush 32, 2) := by decide +kernel
theorem d_Eq_add_6 : decode b_Eq_add 6 = .ok (.if_icmp .ge 33, 3) := by decide +kernel
theorem d_Eq_add_9 : decode b_Eq_add 9 = .ok (.aload_n 0, 1) := by decide +kernel
theorem d_Eq_add_10 : decode b_Eq_add 10 = .ok (.getfield 11, 3) := by decide +kernel
theorem d_Eq_add_13 : decode b_Eq_add 13 = .ok (.aload_n 0, 1) := by decide +kernel
theorem d_Eq_add_14 : decode b_Eq_add 14 = .ok (.getfield 18, 3) := by decide +kernel
theorem d_Eq_add_17 : decode b_Eq_add 17 = .ok (.iload_n 1, 1) := by decide +kernel
theorem d_Eq_add_18 : decode b_Eq_add 18 = .ok (.iastore, 1) := by decide +kernel
theorem d_Eq_add_19 : decode b_Eq_add 19 = .ok (.aload_n 0, 1) := by decide +kernel
theorem d_Eq_add_20 : decode b_Eq_add 20 = .ok (.getfield 15, 3) := by decide +kernel
theorem d_Eq_add_23 : decode b_Eq_add 23 = .ok (.aload_n 0, 1) := by decide +kernel
theorem d_Eq_add_24 : decode b_Eq_add 24 = .ok (.getfield 18, 3) := by decide +kernel
theorem d_Eq_add_27 : decode b_Eq_add 27 = .ok (.iload_n 2, 1) := by decide +kernel
theorem d_Eq_add_28 : decode b_Eq_add 28 = .ok (.iastore, 1) := by decide +kernel
theorem d_Eq_add_29 : decode b_Eq_add 29 = .ok (.aload_n 0, 1) := by decide +kernel
theorem d_Eq_add_30 : decode b_Eq_add 30 = .ok (.dup, 1) := by decide +kernel
theorem d_Eq_add_31 : decode b_Eq_add 31 = .ok (.getfield 18, 3) := by decide +kernel
theorem d_Eq_add_34 : decode b_Eq_add 34 = .ok (.iconst 1, 1) := by decide +kernel
theorem d_Eq_add_35 : decode b_Eq_add 35 = .ok (.iadd, 1) := by decide +kernel
theorem d_Eq_add_36 : decode b_Eq_add 36 = .ok (.putfield 18, 3) := by decide +kernel
theorem d_Eq_add_39 : decode b_Eq_add 39 = .ok (.return_, 1) := by decide +kernel
theorem d_Eq_removeFirst_0 : decode b_Eq_removeFirst 0 = .ok (.iload_n 1, 1) := by decide +kernel
theorem d_Eq_removeFirst_1 : decode b_Eq_removeFirst 1 = .ok (.istore_n 2, 1) := by decide +kernel
theorem d_Eq_removeFirst_2 : decode b_Eq_removeFirst 2 = .ok (.iload_n 2, 1) := by decide +kernel
theorem d_Eq_removeFirst_3 : decode b_Eq_removeFirst 3 = .ok (.aload_n 0, 1) := by decide +kernel
theorem d_Eq_removeFirst_4 : decode b_Eq_removeFirst 4 = .ok (.getfield 18, 3) := by decide +kernel
theorem d_Eq_removeFirst_7 : decode b_Eq_removeFirst 7 = .ok (.if_icmp .ge 37, 3) := by decide +kernel
theorem d_Eq_removeFirst_10 : decode b_Eq_removeFirst 10 = .ok (.aload_n 0, 1) := by decide +kernel
theorem d_Eq_removeFirst_11 : decode b_Eq_removeFirst 11 = .ok (.getfield 11, 3) := by decide +kernel
theorem d_Eq_removeFirst_14 : decode b_Eq_removeFirst 14 = .ok (.iload_n 2, 1) := by decide +kernel
theorem d_Eq_removeFirst_15 : decode b_Eq_removeFirst 15 = .ok (.iload_n 1, 1) := by decide +kernel
theorem d_Eq_removeFirst_16 : decode b_Eq_removeFirst 16 = .ok (.isub, 1) := by decide +kernel
theorem d_Eq_removeFirst_17 : decode b_Eq_removeFirst 17 = .ok (.aload_n 0, 1) := by decide +kernel
theorem d_Eq_removeFirst_18 : decode b_Eq_removeFirst 18 = .ok (.getfield 11, 3) := by decide +kernel
theorem d_Eq_removeFirst_21 : decode b_Eq_removeFirst 21 = .ok (.iload_n 2, 1) := by decide +kernel
theorem d_Eq_removeFirst_22 : decode b_Eq_removeFirst 22 = .ok (.iaload, 1) := by decide +kernel
theorem d_Eq_removeFirst_23 : decode b_Eq_removeFirst 23 = .ok (.iastore, 1) := by decide +kernel
theorem d_Eq_removeFirst_24 : decode b_Eq_removeFirst 24 = .ok (.aload_n 0, 1) := by decide +kernel
theorem d_Eq_removeFirst_25 : decode b_Eq_removeFirst 25 = .ok (.getfield 15, 3) := by decide +kernel
theorem d_Eq_removeFirst_28 : decode b_Eq_removeFirst 28 = .ok (.iload_n 2, 1) := by decide +kernel
theorem d_Eq_removeFirst_29 : decode b_Eq_removeFirst 29 = .ok (.iload_n 1, 1) := by decide +kernel
theorem d_Eq_removeFirst_30 : decode b_Eq_removeFirst 30 = .ok (.isub, 1) := by decide +kernel
theorem d_Eq_removeFirst_31 : decode b_Eq_removeFirst 31 = .ok (.aload_n 0, 1) := by decide +kernel
theorem d_Eq_removeFirst_32 : decode b_Eq_removeFirst 32 = .ok (.getfield 15, 3) := by decide +kernel
theorem d_Eq_removeFirst_35 : decode b_Eq_removeFirst 35 = .ok (.iload_n 2, 1) := by decide +kernel
theorem d_Eq_removeFirst_36 : decode b_Eq_removeFirst 36 = .ok (.iaload, 1) := by decide +kernel
theorem d_Eq_removeFirst_37 : decode b_Eq_removeFirst 37 = .ok (.iastore, 1) := by decide +kernel
theorem d_Eq_removeFirst_38 : decode b_Eq_removeFirst 38 = .ok (.iinc 2 1, 3) := by decide +kernel
theorem d_Eq_removeFirst_41 : decode b_Eq_removeFirst 41 = .ok (.goto (-39), 3) := by decide +kernel
theorem d_Eq_removeFirst_44 : decode b_Eq_removeFirst 44 = .ok (.aload_n 0, 1) := by decide +kernel
theorem d_Eq_removeFirst_45 : decode b_Eq_removeFirst 45 = .ok (.aload_n 0, 1) := by decide +kernel
theorem d_Eq_removeFirst_46 : decode b_Eq_removeFirst 46 = .ok (.getfield 18, 3) := by decide +kernel
theorem d_Eq_removeFirst_49 : decode b_Eq_removeFirst 49 = .ok (.iload_n 1, 1) := by decide +kernel
theorem d_Eq_removeFirst_50 : decode b_Eq_removeFirst 50 = .ok (.isub, 1) := by decide +kernel
theorem d_Eq_removeFirst_51 : decode b_Eq_removeFirst 51 = .ok (.iconst 0, 1) := by decide +kernel
theorem d_Eq_removeFirst_52 : decode b_Eq_removeFirst 52 = .ok (.invokestatic 22, 3) := by decide +kernel
theorem d_Eq_removeFirst_55 : decode b_Eq_removeFirst 55 = .ok (.putfield 18, 3) := by decide +kernel
theorem d_Eq_removeFirst_58 : decode b_Eq_removeFirst 58 = .ok (.return_, 1) := by decide +kernel
theorem d_Eq_isPress_0 : decode b_Eq_isPress 0 = .ok (.aload_n 0, 1) := by decide +kernel
theorem d_Eq_isPress_1 : decode b_Eq_isPress 1 = .ok (.getfield 11, 3) := by decide +kernel
theorem d_Eq_isPress_4 : decode b_Eq_isPress 4 = .ok (.iload_n 1, 1) := by decide +kernel
theorem d_Eq_isPress_5 : decode b_Eq_isPress 5 = .ok (.iaload, 1) := by decide +kernel
theorem d_Eq_isPress_6 : decode b_Eq_isPress 6 = .ok (.iconst 1, 1) := by decide +kernel
theorem d_Eq_isPress_7 : decode b_Eq_isPress 7 = .ok (.iand, 1) := by decide +kernel
theorem d_Eq_isPress_8 : decode b_Eq_isPress 8 = .ok (.ifCond .eq 7, 3) := by decide +kernel
theorem d_Eq_isPress_11 : decode b_Eq_isPress 11 = .ok (.iconst 1, 1) := by decide +kernel
theorem d_Eq_isPress_12 : decode b_Eq_isPress 12 = .ok (.goto 4, 3) := by decide +kernel
theorem d_Eq_isPress_15 : decode b_Eq_isPress 15 = .ok (.iconst 0, 1) := by decide +kernel
theorem d_Eq_isPress_16 : decode b_Eq_isPress 16 = .ok (.ireturn, 1) := by decide +kernel
theorem d_Eq_keyAt_0 : decode b_Eq_keyAt 0 = .ok (.aload_n 0, 1) := by decide +kernel
theorem d_Eq_keyAt_1 : decode b_Eq_keyAt 1 = .ok (.getfield 11, 3) := by decide +kernel
theorem d_Eq_keyAt_4 : decode b_Eq_keyAt 4 = .ok (.iload_n 1, 1) := by decide +kernel
theorem d_Eq_keyAt_5 : decode b_Eq_keyAt 5 = .ok (.iaload, 1) := by decide +kernel
theorem d_Eq_keyAt_6 : decode b_Eq_keyAt 6 = .ok (.iconst 1, 1) := by decide +kernel
theorem d_Eq_keyAt_7 : decode b_Eq_keyAt 7 = .ok (.ishr, 1) := by decide +kernel
theorem d_Eq_keyAt_8 : decode b_Eq_keyAt 8 = .ok (.ireturn, 1) := by decide +kernel
theorem d_Eq_scanAt_0 : decode b_Eq_scanAt 0 = .ok (.aload_n 0, 1) := by decide +kernel
theorem d_Eq_scanAt_1 : decode b_Eq_scanAt 1 = .ok (.getfield 15, 3) := by decide +kernel
theorem d_Eq_scanAt_4 : decode b_Eq_scanAt 4 = .ok (.iload_n 1, 1) := by decide +kernel
theorem d_Eq_scanAt_5 : decode b_Eq_scanAt 5 = .ok (.iaload, 1) := by decide +kernel
theorem d_Eq_scanAt_6 : decode b_Eq_scanAt 6 = .ok (.ireturn, 1) := by decide +kernel
theorem d_Eq_rowLength_0 : decode b_Eq_rowLength 0 = .ok (.iconst 0, 1) := by decide +kernel
theorem d_Eq_rowLength_1 : decode b_Eq_rowLength 1 = .ok (.istore_n 1, 1) := by decide +kernel
theorem d_Eq_rowLength_2 : decode b_Eq_rowLength 2 = .ok (.iload_n 1, 1) := by decide +kernel
theorem d_Eq_rowLength_3 : decode b_Eq_rowLength 3 = .ok (.aload_n 0, 1) := by decide +kernel
theorem d_Eq_rowLength_4 : decode b_Eq_rowLength 4 = .ok (.getfield 18, 3) := by decide +kernel
theorem d_Eq_rowLength_7 : decode b_Eq_rowLength 7 = .ok (.if_icmp .ge 35, 3) := by decide +kernel
theorem d_Eq_rowLength_10 : decode b_Eq_rowLength 10 = .ok (.aload_n 0, 1) := by decide +kernel
theorem d_Eq_rowLength_11 : decode b_Eq_rowLength 11 = .ok (.iload_n 1, 1) := by decide +kernel
theorem d_Eq_rowLength_12 : decode b_Eq_rowLength 12 = .ok (.invokevirtual 28, 3) := by decide +kernel
theorem d_Eq_rowLength_15 : decode b_Eq_rowLength 15 = .ok (.ifCond .eq 27, 3) := by decide +kernel
theorem d_Eq_rowLength_18 : decode b_Eq_rowLength 18 = .ok (.aload_n 0, 1) := by decide +kernel
theorem d_Eq_rowLength_19 : decode b_Eq_rowLength 19 = .ok (.getfield 15, 3) := by decide +kernel
theorem d_Eq_rowLength_22 : decode b_Eq_rowLength 22 = .ok (.iload_n 1, 1) := by decide +kernel
theorem d_Eq_rowLength_23 : decode b_Eq_rowLength 23 = .ok (.iaload, 1) := by decide +kernel
theorem d_Eq_rowLength_24 : decode b_Eq_rowLength 24 = .ok (.aload_n 0, 1) := by decide +kernel
theorem d_Eq_rowLength_25 : decode b_Eq_rowLength 25 = .ok (.getfield 15, 3) := by decide +kernel
theorem d_Eq_rowLength_28 : decode b_Eq_rowLength 28 = .ok (.iconst 0, 1) := by decide +kernel
theorem d_Eq_rowLength_29 : decode b_Eq_rowLength 29 = .ok (.iaload, 1) := by decide +kernel
theorem d_Eq_rowLength_30 : decode b_Eq_rowLength 30 = .ok (.bipush 9, 2) := by decide +kernel
theorem d_Eq_rowLength_32 : decode b_Eq_rowLength 32 = .ok (.iadd, 1) := by decide +kernel
theorem d_Eq_rowLength_33 : decode b_Eq_rowLength 33 = .ok (.if_icmp .gt 9, 3) := by decide +kernel
theorem d_Eq_rowLength_36 : decode b_Eq_rowLength 36 = .ok (.iinc 1 1, 3) := by decide +kernel
theorem d_Eq_rowLength_39 : decode b_Eq_rowLength 39 = .ok (.goto (-37), 3) := by decide +kernel
theorem d_Eq_rowLength_42 : decode b_Eq_rowLength 42 = .ok (.iload_n 1, 1) := by decide +kernel
theorem d_Eq_rowLength_43 : decode b_Eq_rowLength 43 = .ok (.ireturn, 1) := by decide +kernel
theorem d_Eq_firstKeys_0 : decode b_Eq_firstKeys 0 = .ok (.iconst 0, 1) := by decide +kernel
theorem d_Eq_firstKeys_1 : decode b_Eq_firstKeys 1 = .ok (.istore_n 2, 1) := by decide +kernel
theorem d_Eq_firstKeys_2 : decode b_Eq_firstKeys 2 = .ok (.iconst 0, 1) := by decide +kernel
theorem d_Eq_firstKeys_3 : decode b_Eq_firstKeys 3 = .ok (.istore_n 3, 1) := by decide +kernel
theorem d_Eq_firstKeys_4 : decode b_Eq_firstKeys 4 = .ok (.iload_n 3, 1) := by decide +kernel
theorem d_Eq_firstKeys_5 : decode b_Eq_firstKeys 5 = .ok (.iload_n 1, 1) := by decide +kernel
theorem d_Eq_firstKeys_6 : decode b_Eq_firstKeys 6 = .ok (.if_icmp .ge 27, 3) := by decide +kernel
theorem d_Eq_firstKeys_9 : decode b_Eq_firstKeys 9 = .ok (.iload_n 3, 1) := by decide +kernel
theorem d_Eq_firstKeys_10 : decode b_Eq_firstKeys 10 = .ok (.aload_n 0, 1) := by decide +kernel
theorem d_Eq_firstKeys_11 : decode b_Eq_firstKeys 11 = .ok (.getfield 18, 3) := by decide +kernel
theorem d_Eq_firstKeys_14 : decode b_Eq_firstKeys 14 = .ok (.if_icmp .ge 19, 3) := by decide +kernel
theorem d_Eq_firstKeys_17 : decode b_Eq_firstKeys 17 = .ok (.iload_n 2, 1) := by decide +kernel
theorem d_Eq_firstKeys_18 : decode b_Eq_firstKeys 18 = .ok (.iconst 1, 1) := by decide +kernel
theorem d_Eq_firstKeys_19 : decode b_Eq_firstKeys 19 = .ok (.aload_n 0, 1) := by decide +kernel
theorem d_Eq_firstKeys_20 : decode b_Eq_firstKeys 20 = .ok (.iload_n 3, 1) := by decide +kernel
theorem d_Eq_firstKeys_21 : decode b_Eq_firstKeys 21 = .ok (.invokevirtual 32, 3) := by decide +kernel
theorem d_Eq_firstKeys_24 : decode b_Eq_firstKeys 24 = .ok (.ishl, 1) := by decide +kernel
theorem d_Eq_firstKeys_25 : decode b_Eq_firstKeys 25 = .ok (.ior, 1) := by decide +kernel
theorem d_Eq_firstKeys_26 : decode b_Eq_firstKeys 26 = .ok (.istore_n 2, 1) := by decide +kernel
theorem d_Eq_firstKeys_27 : decode b_Eq_firstKeys 27 = .ok (.iinc 3 1, 3) := by decide +kernel
theorem d_Eq_firstKeys_30 : decode b_Eq_firstKeys 30 = .ok (.goto (-26), 3) := by decide +kernel
theorem d_Eq_firstKeys_33 : decode b_Eq_firstKeys 33 = .ok (.iload_n 2, 1) := by decide +kernel
theorem d_Eq_firstKeys_34 : decode b_Eq_firstKeys 34 = .ok (.ireturn, 1) := by decide +kernel
theorem d_Eq_tellTap_0 : decode b_Eq_tellTap 0 = .ok (.iconst 0, 1) := by decide +kernel
theorem d_Eq_tellTap_1 : decode b_Eq_tellTap 1 = .ok (.istore_n 1, 1) := by decide +kernel
theorem d_Eq_tellTap_2 : decode b_Eq_tellTap 2 = .ok (.iconst 1, 1) := by decide +kernel
theorem d_Eq_tellTap_3 : decode b_Eq_tellTap 3 = .ok (.istore_n 2, 1) := by decide +kernel
theorem d_Eq_tellTap_4 : decode b_Eq_tellTap 4 = .ok (.iload_n 2, 1) := by decide +kernel
theorem d_Eq_tellTap_5 : decode b_Eq_tellTap 5 = .ok (.aload_n 0, 1) := by decide +kernel
theorem d_Eq_tellTap_6 : decode b_Eq_tellTap 6 = .ok (.getfield 18, 3) := by decide +kernel
theorem d_Eq_tellTap_9 : decode b_Eq_tellTap 9 = .ok (.if_icmp .ge 55, 3) := by decide +kernel
theorem d_Eq_tellTap_12 : decode b_Eq_tellTap 12 = .ok (.iconst 1, 1) := by decide +kernel
theorem d_Eq_tellTap_13 : decode b_Eq_tellTap 13 = .ok (.aload_n 0, 1) := by decide +kernel
theorem d_Eq_tellTap_14 : decode b_Eq_tellTap 14 = .ok (.iload_n 2, 1) := by decide +kernel
theorem d_Eq_tellTap_15 : decode b_Eq_tellTap 15 = .ok (.invokevirtual 32, 3) := by decide +kernel
theorem d_Eq_tellTap_18 : decode b_Eq_tellTap 18 = .ok (.ishl, 1) := by decide +kernel
theorem d_Eq_tellTap_19 : decode b_Eq_tellTap 19 = .ok (.istore_n 3, 1) := by decide +kernel
theorem d_Eq_tellTap_20 : decode b_Eq_tellTap 20 = .ok (.aload_n 0, 1) := by decide +kernel
theorem d_Eq_tellTap_21 : decode b_Eq_tellTap 21 = .ok (.iload_n 2, 1) := by decide +kernel
theorem d_Eq_tellTap_22 : decode b_Eq_tellTap 22 = .ok (.invokevirtual 28, 3) := by decide +kernel
theorem d_Eq_tellTap_25 : decode b_Eq_tellTap 25 = .ok (.ifCond .eq 10, 3) := by decide +kernel
theorem d_Eq_tellTap_28 : decode b_Eq_tellTap 28 = .ok (.iload_n 1, 1) := by decide +kernel
theorem d_Eq_tellTap_29 : decode b_Eq_tellTap 29 = .ok (.iload_n 3, 1) := by decide +kernel
theorem d_Eq_tellTap_30 : decode b_Eq_tellTap 30 = .ok (.ior, 1) := by decide +kernel
theorem d_Eq_tellTap_31 : decode b_Eq_tellTap 31 = .ok (.istore_n 1, 1) := by decide +kernel
theorem d_Eq_tellTap_32 : decode b_Eq_tellTap 32 = .ok (.goto 26, 3) := by decide +kernel
theorem d_Eq_tellTap_35 : decode b_Eq_tellTap 35 = .ok (.aload_n 0, 1) := by decide +kernel
theorem d_Eq_tellTap_36 : decode b_Eq_tellTap 36 = .ok (.iload_n 2, 1) := by decide +kernel
theorem d_Eq_tellTap_37 : decode b_Eq_tellTap 37 = .ok (.invokevirtual 32, 3) := by decide +kernel
theorem d_Eq_tellTap_40 : decode b_Eq_tellTap 40 = .ok (.aload_n 0, 1) := by decide +kernel
theorem d_Eq_tellTap_41 : decode b_Eq_tellTap 41 = .ok (.iconst 0, 1) := by decide +kernel
theorem d_Eq_tellTap_42 : decode b_Eq_tellTap 42 = .ok (.invokevirtual 32, 3) := by decide +kernel
theorem d_Eq_tellTap_45 : decode b_Eq_tellTap 45 = .ok (.if_icmp .ne 5, 3) := by decide +kernel
theorem d_Eq_tellTap_48 : decode b_Eq_tellTap 48 = .ok (.iconst 1, 1) := by decide +kernel
theorem d_Eq_tellTap_49 : decode b_Eq_tellTap 49 = .ok (.ireturn, 1) := by decide +kernel
theorem d_Eq_tellTap_50 : decode b_Eq_tellTap 50 = .ok (.iload_n 1, 1) := by decide +kernel
theorem d_Eq_tellTap_51 : decode b_Eq_tellTap 51 = .ok (.iload_n 3, 1) := by decide +kernel
theorem d_Eq_tellTap_52 : decode b_Eq_tellTap 52 = .ok (.iand, 1) := by decide +kernel
theorem d_Eq_tellTap_53 : decode b_Eq_tellTap 53 = .ok (.ifCond .eq 5, 3) := by decide +kernel
theorem d_Eq_tellTap_56 : decode b_Eq_tellTap 56 = .ok (.iconst 2, 1) := by decide +kernel
theorem d_Eq_tellTap_57 : decode b_Eq_tellTap 57 = .ok (.ireturn, 1) := by decide +kernel
theorem d_Eq_tellTap_58 : decode b_Eq_tellTap 58 = .ok (.iinc 2 1, 3) := by decide +kernel
theorem d_Eq_tellTap_61 : decode b_Eq_tellTap 61 = .ok (.goto (-57), 3) := by decide +kernel
theorem d_Eq_tellTap_64 : decode b_Eq_tellTap 64 = .ok (.iconst 0, 1) := by decide +kernel
theorem d_Eq_tellTap_65 : decode b_Eq_tellTap 65 = .ok (.ireturn, 1) := by decide +kernel
theorem d_Km_init_0 : decode b_Km_init 0 = .ok (.aload_n 0, 1) := by decide +kernel
theorem d_Km_init_1 : decode b_Km_init 1 = .ok (.invokespecial 3, 3) := by decide +kernel
theorem d_Km_init_4 : decode b_Km_init 4 = .ok (.aload_n 0, 1) := by decide +kernel
theorem d_Km_init_5 : decode b_Km_init 5 = .ok (.bipush 96, 2) := by decide +kernel
theorem d_Km_init_7 : decode b_Km_init 7 = .ok (.newarray .int, 2) := by decide +kernel
theorem d_Km_init_9 : decode b_Km_init 9 = .ok (.putfield 9, 3) := by decide +kernel
theorem d_Km_init_12 : decode b_Km_init 12 = .ok (.aload_n 0, 1) := by decide +kernel
theorem d_Km_init_13 : decode b_Km_init 13 = .ok (.bipush 96, 2) := by decide +kernel
theorem d_Km_init_15 : decode b_Km_init 15 = .ok (.newarray .int, 2) := by decide +kernel
theorem d_Km_init_17 : decode b_Km_init 17 = .ok (.putfield 15, 3) := by decide +kernel
theorem d_Km_init_20 : decode b_Km_init 20 = .ok (.aload_n 0, 1) := by decide +kernel
theorem d_Km_init_21 : decode b_Km_init 21 = .ok (.bipush 96, 2) := by decide +kernel
theorem d_Km_init_23 : decode b_Km_init 23 = .ok (.newarray .int, 2) := by decide +kernel
theorem d_Km_init_25 : decode b_Km_init 25 = .ok (.putfield 18, 3) := by decide +kernel
theorem d_Km_init_28 : decode b_Km_init 28 = .ok (.aload_n 0, 1) := by decide +kernel
theorem d_Km_init_29 : decode b_Km_init 29 = .ok (.bipush 16, 2) := by decide +kernel
theorem d_Km_init_31 : decode b_Km_init 31 = .ok (.newarray .int, 2) := by decide +kernel
theorem d_Km_init_33 : decode b_Km_init 33 = .ok (.putfield 21, 3) := by decide +kernel
theorem d_Km_init_36 : decode b_Km_init 36 = .ok (.return_, 1) := by decide +kernel
theorem d_Km_setAction_0 : decode b_Km_setAction 0 = .ok (.iload_n 1, 1) := by decide +kernel
theorem d_Km_setAction_1 : decode b_Km_setAction 1 = .ok (.bipush 24, 2) := by decide +kernel
theorem d_Km_setAction_3 : decode b_Km_setAction 3 = .ok (.imul, 1) := by decide +kernel
theorem d_Km_setAction_4 : decode b_Km_setAction 4 = .ok (.iload_n 2, 1) := by decide +kernel
theorem d_Km_setAction_5 : decode b_Km_setAction 5 = .ok (.iadd, 1) := by decide +kernel
theorem d_Km_setAction_6 : decode b_Km_setAction 6 = .ok (.istore 6, 2) := by decide +kernel
theorem d_Km_setAction_8 : decode b_Km_setAction 8 = .ok (.aload_n 0, 1) := by decide +kernel
theorem d_Km_setAction_9 : decode b_Km_setAction 9 = .ok (.getfield 9, 3) := by decide +kernel
theorem d_Km_setAction_12 : decode b_Km_setAction 12 = .ok (.iload 6, 2) := by decide +kernel
theorem d_Km_setAction_14 : decode b_Km_setAction 14 = .ok (.iload_n 3, 1) := by decide +kernel
theorem d_Km_setAction_15 : decode b_Km_setAction 15 = .ok (.iastore, 1) := by decide +kernel
theorem d_Km_setAction_16 : decode b_Km_setAction 16 = .ok (.aload_n 0, 1) := by decide +kernel
theorem d_Km_setAction_17 : decode b_Km_setAction 17 = .ok (.getfield 15, 3) := by decide +kernel
theorem d_Km_setAction_20 : decode b_Km_setAction 20 = .ok (.iload 6, 2) := by decide +kernel
theorem d_Km_setAction_22 : decode b_Km_setAction 22 = .ok (.iload 4, 2) := by decide +kernel
theorem d_Km_setAction_24 : decode b_Km_setAction 24 = .ok (.iastore, 1) := by decide +kernel
theorem d_Km_setAction_25 : decode b_Km_setAction 25 = .ok (.aload_n 0, 1) := by decide +kernel
theorem d_Km_setAction_26 : decode b_Km_setAction 26 = .ok (.getfield 18, 3) := by decide +kernel
theorem d_Km_setAction_29 : decode b_Km_setAction 29 = .ok (.iload 6, 2) := by decide +kernel
theorem d_Km_setAction_31 : decode b_Km_setAction 31 = .ok (.iload 5, 2) := by decide +kernel
theorem d_Km_setAction_33 : decode b_Km_setAction 33 = .ok (.iastore, 1) := by decide +kernel
theorem d_Km_setAction_34 : decode b_Km_setAction 34 = .ok (.return_, 1) := by decide +kernel
theorem d_Km_setMacroCode_0 : decode b_Km_setMacroCode 0 = .ok (.aload_n 0, 1) := by decide +kernel
theorem d_Km_setMacroCode_1 : decode b_Km_setMacroCode 1 = .ok (.getfield 21, 3) := by decide +kernel
theorem d_Km_setMacroCode_4 : decode b_Km_setMacroCode 4 = .ok (.iload_n 1, 1) := by decide +kernel
theorem d_Km_setMacroCode_5 : decode b_Km_setMacroCode 5 = .ok (.iconst 4, 1) := by decide +kernel
theorem d_Km_setMacroCode_6 : decode b_Km_setMacroCode 6 = .ok (.imul, 1) := by decide +kernel
theorem d_Km_setMacroCode_7 : decode b_Km_setMacroCode 7 = .ok (.iload_n 2, 1) := by decide +kernel
theorem d_Km_setMacroCode_8 : decode b_Km_setMacroCode 8 = .ok (.iadd, 1) := by decide +kernel
theorem d_Km_setMacroCode_9 : decode b_Km_setMacroCode 9 = .ok (.iload_n 3, 1) := by decide +kernel
theorem d_Km_setMacroCode_10 : decode b_Km_setMacroCode 10 = .ok (.iastore, 1) := by decide +kernel
theorem d_Km_setMacroCode_11 : decode b_Km_setMacroCode 11 = .ok (.return_, 1) := by decide +kernel
theorem d_Km_macroCode_0 : decode b_Km_macroCode 0 = .ok (.aload_n 0, 1) := by decide +kernel
theorem d_Km_macroCode_1 : decode b_Km_macroCode 1 = .ok (.getfield 21, 3) := by decide +kernel
theorem d_Km_macroCode_4 : decode b_Km_macroCode 4 = .ok (.iload_n 1, 1) := by decide +kernel
theorem d_Km_macroCode_5 : decode b_Km_macroCode 5 = .ok (.iconst 4, 1) := by decide +kernel
theorem d_Km_macroCode_6 : decode b_Km_macroCode 6 = .ok (.imul, 1) := by decide +kernel
theorem d_Km_macroCode_7 : decode b_Km_macroCode 7 = .ok (.iload_n 2, 1) := by decide +kernel
theorem d_Km_macroCode_8 : decode b_Km_macroCode 8 = .ok (.iadd, 1) := by decide +kernel
theorem d_Km_macroCode_9 : decode b_Km_macroCode 9 = .ok (.iaload, 1) := by decide +kernel
theorem d_Km_macroCode_10 : decode b_Km_macroCode 10 = .ok (.ireturn, 1) := by decide +kernel
theorem d_Km_topLayer_0 : decode b_Km_topLayer 0 = .ok (.iconst 3, 1) := by decide +kernel
theorem d_Km_topLayer_1 : decode b_Km_topLayer 1 = .ok (.istore_n 3, 1) := by decide +kernel
theorem d_Km_topLayer_2 : decode b_Km_topLayer 2 = .ok (.iload_n 3, 1) := by decide +kernel
theorem d_Km_topLayer_3 : decode b_Km_topLayer 3 = .ok (.ifCond .lt 28, 3) := by decide +kernel
theorem d_Km_topLayer_6 : decode b_Km_topLayer 6 = .ok (.aload_n 0, 1) := by decide +kernel
theorem d_Km_topLayer_7 : decode b_Km_topLayer 7 = .ok (.iload_n 3, 1) := by decide +kernel
theorem d_Km_topLayer_8 : decode b_Km_topLayer 8 = .ok (.iload_n 1, 1) := by decide +kernel
theorem d_Km_topLayer_9 : decode b_Km_topLayer 9 = .ok (.invokevirtual 24, 3) := by decide +kernel
theorem d_Km_topLayer_12 : decode b_Km_topLayer 12 = .ok (.ifCond .eq 13, 3) := by decide +kernel
theorem d_Km_topLayer_15 : decode b_Km_topLayer 15 = .ok (.aload_n 2, 1) := by decide +kernel
theorem d_Km_topLayer_16 : decode b_Km_topLayer 16 = .ok (.iload_n 3, 1) := by decide +kernel
theorem d_Km_topLayer_17 : decode b_Km_topLayer 17 = .ok (.invokevirtual 28, 3) := by decide +kernel
theorem d_Km_topLayer_20 : decode b_Km_topLayer 20 = .ok (.ifCond .eq 5, 3) := by decide +kernel
theorem d_Km_topLayer_23 : decode b_Km_topLayer 23 = .ok (.iload_n 3, 1) := by decide +kernel
theorem d_Km_topLayer_24 : decode b_Km_topLayer 24 = .ok (.ireturn, 1) := by decide +kernel
theorem d_Km_topLayer_25 : decode b_Km_topLayer 25 = .ok (.iinc 3 (-1), 3) := by decide +kernel
theorem d_Km_topLayer_28 : decode b_Km_topLayer 28 = .ok (.goto (-26), 3) := by decide +kernel
theorem d_Km_topLayer_31 : decode b_Km_topLayer 31 = .ok (.iconst (-1), 1) := by decide +kernel
theorem d_Km_topLayer_32 : decode b_Km_topLayer 32 = .ok (.ireturn, 1) := by decide +kernel
theorem d_Km_kind_0 : decode b_Km_kind 0 = .ok (.iload_n 1, 1) := by decide +kernel
theorem d_Km_kind_1 : decode b_Km_kind 1 = .ok (.iconst (-1), 1) := by decide +kernel
theorem d_Km_kind_2 : decode b_Km_kind 2 = .ok (.if_icmp .ne 7, 3) := by decide +kernel
theorem d_Km_kind_5 : decode b_Km_kind 5 = .ok (.iconst 0, 1) := by decide +kernel
theorem d_Km_kind_6 : decode b_Km_kind 6 = .ok (.goto 14, 3) := by decide +kernel
theorem d_Km_kind_9 : decode b_Km_kind 9 = .ok (.aload_n 0, 1) := by decide +kernel
theorem d_Km_kind_10 : decode b_Km_kind 10 = .ok (.getfield 9, 3) := by decide +kernel
theorem d_Km_kind_13 : decode b_Km_kind 13 = .ok (.iload_n 1, 1) := by decide +kernel
theorem d_Km_kind_14 : decode b_Km_kind 14 = .ok (.bipush 24, 2) := by decide +kernel
theorem d_Km_kind_16 : decode b_Km_kind 16 = .ok (.imul, 1) := by decide +kernel
theorem d_Km_kind_17 : decode b_Km_kind 17 = .ok (.iload_n 2, 1) := by decide +kernel
theorem d_Km_kind_18 : decode b_Km_kind 18 = .ok (.iadd, 1) := by decide +kernel
theorem d_Km_kind_19 : decode b_Km_kind 19 = .ok (.iaload, 1) := by decide +kernel
theorem d_Km_kind_20 : decode b_Km_kind 20 = .ok (.ireturn, 1) := by decide +kernel
theorem d_Km_a_0 : decode b_Km_a 0 = .ok (.iload_n 1, 1) := by decide +kernel
theorem d_Km_a_1 : decode b_Km_a 1 = .ok (.iconst (-1), 1) := by decide +kernel
theorem d_Km_a_2 : decode b_Km_a 2 = .ok (.if_icmp .ne 7, 3) := by decide +kernel
theorem d_Km_a_5 : decode b_Km_a 5 = .ok (.iconst 0, 1) := by decide +kernel
theorem d_Km_a_6 : decode b_Km_a 6 = .ok (.goto 14, 3) := by decide +kernel
theorem d_Km_a_9 : decode b_Km_a 9 = .ok (.aload_n 0, 1) := by decide +kernel
theorem d_Km_a_10 : decode b_Km_a 10 = .ok (.getfield 15, 3) := by decide +kernel
theorem d_Km_a_13 : decode b_Km_a 13 = .ok (.iload_n 1, 1) := by decide +kernel
theorem d_Km_a_14 : decode b_Km_a 14 = .ok (.bipush 24, 2) := by decide +kernel
theorem d_Km_a_16 : decode b_Km_a 16 = .ok (.imul, 1) := by decide +kernel
theorem d_Km_a_17 : decode b_Km_a 17 = .ok (.iload_n 2, 1) := by decide +kernel
theorem d_Km_a_18 : decode b_Km_a 18 = .ok (.iadd, 1) := by decide +kernel
theorem d_Km_a_19 : decode b_Km_a 19 = .ok (.iaload, 1) := by decide +kernel
theorem d_Km_a_20 : decode b_Km_a 20 = .ok (.ireturn, 1) := by decide +kernel
theorem d_Km_b_0 : decode b_Km_b 0 = .ok (.iload_n 1, 1) := by decide +kernel
theorem d_Km_b_1 : decode b_Km_b 1 = .ok (.iconst (-1), 1) := by decide +kernel
theorem d_Km_b_2 : decode b_Km_b 2 = .ok (.if_icmp .ne 7, 3) := by decide +kernel
theorem d_Km_b_5 : decode b_Km_b 5 = .ok (.iconst 0, 1) := by decide +kernel
theorem d_Km_b_6 : decode b_Km_b 6 = .ok (.goto 14, 3) := by decide +kernel
theorem d_Km_b_9 : decode b_Km_b 9 = .ok (.aload_n 0, 1) := by decide +kernel
theorem d_Km_b_10 : decode b_Km_b 10 = .ok (.getfield 18, 3) := by decide +kernel
theorem d_Km_b_13 : decode b_Km_b 13 = .ok (.iload_n 1, 1) := by decide +kernel
theorem d_Km_b_14 : decode b_Km_b 14 = .ok (.bipush 24, 2) := by decide +kernel
theorem d_Km_b_16 : decode b_Km_b 16 = .ok (.imul, 1) := by decide +kernel
theorem d_Km_b_17 : decode b_Km_b 17 = .ok (.iload_n 2, 1) := by decide +kernel
theorem d_Km_b_18 : decode b_Km_b 18 = .ok (.iadd, 1) := by decide +kernel
theorem d_Km_b_19 : decode b_Km_b 19 = .ok (.iaload, 1) := by decide +kernel
theorem d_Km_b_20 : decode b_Km_b 20 = .ok (.ireturn, 1) := by decide +kernel
theorem d_Ch_init_0 : decode b_Ch_init 0 = .ok (.aload_n 0, 1) := by decide +kernel
theorem d_Ch_init_1 : decode b_Ch_init 1 = .ok (.invokespecial 3, 3) := by decide +kernel
theorem d_Ch_init_4 : decode b_Ch_init 4 = .ok (.aload_n 0, 1) := by decide +kernel
theorem d_Ch_init_5 : decode b_Ch_init 5 = .ok (.iconst 4, 1) := by decide +kernel
theorem d_Ch_init_6 : decode b_Ch_init 6 = .ok (.newarray .int, 2) := by decide +kernel
theorem d_Ch_init_8 : decode b_Ch_init 8 = .ok (.putfield 9, 3) := by decide +kernel
theorem d_Ch_init_11 : decode b_Ch_init 11 = .ok (.aload_n 0, 1) := by decide +kernel
theorem d_Ch_init_12 : decode b_Ch_init 12 = .ok (.iconst 4, 1) := by decide +kernel
theorem d_Ch_init_13 : decode b_Ch_init 13 = .ok (.newarray .int, 2) := by decide +kernel
theorem d_Ch_init_15 : decode b_Ch_init 15 = .ok (.putfield 15, 3) := by decide +kernel
theorem d_Ch_init_18 : decode b_Ch_init 18 = .ok (.return_, 1) := by decide +kernel
theorem d_Ch_setChord_0 : decode b_Ch_setChord 0 = .ok (.aload_n 0, 1) := by decide +kernel
theorem d_Ch_setChord_1 : decode b_Ch_setChord 1 = .ok (.getfield 9, 3) := by decide +kernel
theorem d_Ch_setChord_4 : decode b_Ch_setChord 4 = .ok (.iload_n 1, 1) := by decide +kernel
theorem d_Ch_setChord_5 : decode b_Ch_setChord 5 = .ok (.iload_n 2, 1) := by decide +kernel
theorem d_Ch_setChord_6 : decode b_Ch_setChord 6 = .ok (.iastore, 1) := by decide +kernel
theorem d_Ch_setChord_7 : decode b_Ch_setChord 7 = .ok (.aload_n 0, 1) := by decide +kernel
theorem d_Ch_setChord_8 : decode b_Ch_setChord 8 = .ok (.getfield 15, 3) := by decide +kernel
theorem d_Ch_setChord_11 : decode b_Ch_setChord 11 = .ok (.iload_n 1, 1) := by decide +kernel
theorem d_Ch_setChord_12 : decode b_Ch_setChord 12 = .ok (.iload_n 3, 1) := by decide +kernel
theorem d_Ch_setChord_13 : decode b_Ch_setChord 13 = .ok (.iastore, 1) := by decide +kernel
theorem d_Ch_setChord_14 : decode b_Ch_setChord 14 = .ok (.return_, 1) := by decide +kernel
theorem d_Ch_keysOf_0 : decode b_Ch_keysOf 0 = .ok (.aload_n 0, 1) := by decide +kernel
theorem d_Ch_keysOf_1 : decode b_Ch_keysOf 1 = .ok (.getfield 9, 3) := by decide +kernel
theorem d_Ch_keysOf_4 : decode b_Ch_keysOf 4 = .ok (.iload_n 1, 1) := by decide +kernel
theorem d_Ch_keysOf_5 : decode b_Ch_keysOf 5 = .ok (.iaload, 1) := by decide +kernel
theorem d_Ch_keysOf_6 : decode b_Ch_keysOf 6 = .ok (.ireturn, 1) := by decide +kernel
theorem d_Ch_codeOf_0 : decode b_Ch_codeOf 0 = .ok (.aload_n 0, 1) := by decide +kernel
theorem d_Ch_codeOf_1 : decode b_Ch_codeOf 1 = .ok (.getfield 15, 3) := by decide +kernel
theorem d_Ch_codeOf_4 : decode b_Ch_codeOf 4 = .ok (.iload_n 1, 1) := by decide +kernel
theorem d_Ch_codeOf_5 : decode b_Ch_codeOf 5 = .ok (.iaload, 1) := by decide +kernel
theorem d_Ch_codeOf_6 : decode b_Ch_codeOf 6 = .ok (.ireturn, 1) := by decide +kernel
theorem d_Ch_hasElsewhere_0 : decode b_Ch_hasElsewhere 0 = .ok (.iconst 0, 1) := by decide +kernel
theorem d_Ch_hasElsewhere_1 : decode b_Ch_hasElsewhere 1 = .ok (.istore_n 3, 1) := by decide +kernel
theorem d_Ch_hasElsewhere_2 : decode b_Ch_hasElsewhere 2 = .ok (.iload_n 3, 1) := by decide +kernel
theorem d_Ch_hasElsewhere_3 : decode b_Ch_hasElsewhere 3 = .ok (.iconst 4, 1) := by decide +kernel
theorem d_Ch_hasElsewhere_4 : decode b_Ch_hasElsewhere 4 = .ok (.if_icmp .ge 26, 3) := by decide +kernel
theorem d_Ch_hasElsewhere_7 : decode b_Ch_hasElsewhere 7 = .ok (.iload_n 3, 1) := by decide +kernel
theorem d_Ch_hasElsewhere_8 : decode b_Ch_hasElsewhere 8 = .ok (.iload_n 1, 1) := by decide +kernel
theorem d_Ch_hasElsewhere_9 : decode b_Ch_hasElsewhere 9 = .ok (.if_icmp .eq 15, 3) := by decide +kernel
theorem d_Ch_hasElsewhere_12 : decode b_Ch_hasElsewhere 12 = .ok (.aload_n 0, 1) := by decide +kernel
theorem d_Ch_hasElsewhere_13 : decode b_Ch_hasElsewhere 13 = .ok (.getfield 9, 3) := by decide +kernel
theorem d_Ch_hasElsewhere_16 : decode b_Ch_hasElsewhere 16 = .ok (.iload_n 3, 1) := by decide +kernel
theorem d_Ch_hasElsewhere_17 : decode b_Ch_hasElsewhere 17 = .ok (.iaload, 1) := by decide +kernel
theorem d_Ch_hasElsewhere_18 : decode b_Ch_hasElsewhere 18 = .ok (.iload_n 2, 1) := by decide +kernel
theorem d_Ch_hasElsewhere_19 : decode b_Ch_hasElsewhere 19 = .ok (.if_icmp .ne 5, 3) := by decide +kernel
theorem d_Ch_hasElsewhere_22 : decode b_Ch_hasElsewhere 22 = .ok (.iconst 1, 1) := by decide +kernel
theorem d_Ch_hasElsewhere_23 : decode b_Ch_hasElsewhere 23 = .ok (.ireturn, 1) := by decide +kernel
theorem d_Ch_hasElsewhere_24 : decode b_Ch_hasElsewhere 24 = .ok (.iinc 3 1, 3) := by decide +kernel
theorem d_Ch_hasElsewhere_27 : decode b_Ch_hasElsewhere 27 = .ok (.goto (-25), 3) := by decide +kernel
theorem d_Ch_hasElsewhere_30 : decode b_Ch_hasElsewhere 30 = .ok (.iconst 0, 1) := by decide +kernel
theorem d_Ch_hasElsewhere_31 : decode b_Ch_hasElsewhere 31 = .ok (.ireturn, 1) := by decide +kernel
theorem d_Ch_canGrowFrom_0 : decode b_Ch_canGrowFrom 0 = .ok (.iconst 0, 1) := by decide +kernel
theorem d_Ch_canGrowFrom_1 : decode b_Ch_canGrowFrom 1 = .ok (.istore_n 2, 1) := by decide +kernel
theorem d_Ch_canGrowFrom_2 : decode b_Ch_canGrowFrom 2 = .ok (.iload_n 2, 1) := by decide +kernel
theorem d_Ch_canGrowFrom_3 : decode b_Ch_canGrowFrom 3 = .ok (.iconst 4, 1) := by decide +kernel
theorem d_Ch_canGrowFrom_4 : decode b_Ch_canGrowFrom 4 = .ok (.if_icmp .ge 34, 3) := by decide +kernel
theorem d_Ch_canGrowFrom_7 : decode b_Ch_canGrowFrom 7 = .ok (.iload_n 1, 1) := by decide +kernel
theorem d_Ch_canGrowFrom_8 : decode b_Ch_canGrowFrom 8 = .ok (.aload_n 0, 1) := by decide +kernel
theorem d_Ch_canGrowFrom_9 : decode b_Ch_canGrowFrom 9 = .ok (.getfield 9, 3) := by decide +kernel
theorem d_Ch_canGrowFrom_12 : decode b_Ch_canGrowFrom 12 = .ok (.iload_n 2, 1) := by decide +kernel
theorem d_Ch_canGrowFrom_13 : decode b_Ch_canGrowFrom 13 = .ok (.iaload, 1) := by decide +kernel
theorem d_Ch_canGrowFrom_14 : decode b_Ch_canGrowFrom 14 = .ok (.iconst (-1), 1) := by decide +kernel
theorem d_Ch_canGrowFrom_15 : decode b_Ch_canGrowFrom 15 = .ok (.ixor, 1) := by decide +kernel
theorem d_Ch_canGrowFrom_16 : decode b_Ch_canGrowFrom 16 = .ok (.iand, 1) := by decide +kernel
theorem d_Ch_canGrowFrom_17 : decode b_Ch_canGrowFrom 17 = .ok (.ifCond .ne 15, 3) := by decide +kernel
theorem d_Ch_canGrowFrom_20 : decode b_Ch_canGrowFrom 20 = .ok (.aload_n 0, 1) := by decide +kernel
theorem d_Ch_canGrowFrom_21 : decode b_Ch_canGrowFrom 21 = .ok (.getfield 9, 3) := by decide +kernel
theorem d_Ch_canGrowFrom_24 : decode b_Ch_canGrowFrom 24 = .ok (.iload_n 2, 1) := by decide +kernel
theorem d_Ch_canGrowFrom_25 : decode b_Ch_canGrowFrom 25 = .ok (.iaload, 1) := by decide +kernel
theorem d_Ch_canGrowFrom_26 : decode b_Ch_canGrowFrom 26 = .ok (.iload_n 1, 1) := by decide +kernel
theorem d_Ch_canGrowFrom_27 : decode b_Ch_canGrowFrom 27 = .ok (.if_icmp .eq 5, 3) := by decide +kernel
theorem d_Ch_canGrowFrom_30 : decode b_Ch_canGrowFrom 30 = .ok (.iconst 1, 1) := by decide +kernel
theorem d_Ch_canGrowFrom_31 : decode b_Ch_canGrowFrom 31 = .ok (.ireturn, 1) := by decide +kernel
theorem d_Ch_canGrowFrom_32 : decode b_Ch_canGrowFrom 32 = .ok (.iinc 2 1, 3) := by decide +kernel
theorem d_Ch_canGrowFrom_35 : decode b_Ch_canGrowFrom 35 = .ok (.goto (-33), 3) := by decide +kernel
theorem d_Ch_canGrowFrom_38 : decode b_Ch_canGrowFrom 38 = .ok (.iconst 0, 1) := by decide +kernel
theorem d_Ch_canGrowFrom_39 : decode b_Ch_canGrowFrom 39 = .ok (.ireturn, 1) := by decide +kernel
theorem d_Ch_longestAtStart_0 : decode b_Ch_longestAtStart 0 = .ok (.iconst (-1), 1) := by decide +kernel
theorem d_Ch_longestAtStart_1 : decode b_Ch_longestAtStart 1 = .ok (.istore_n 3, 1) := by decide +kernel
theorem d_Ch_longestAtStart_2 : decode b_Ch_longestAtStart 2 = .ok (.iconst 0, 1) := by decide +kernel
theorem d_Ch_longestAtStart_3 : decode b_Ch_longestAtStart 3 = .ok (.istore 4, 2) := by decide +kernel
theorem d_Ch_longestAtStart_5 : decode b_Ch_longestAtStart 5 = .ok (.iconst 0, 1) := by decide +kernel
theorem d_Ch_longestAtStart_6 : decode b_Ch_longestAtStart 6 = .ok (.istore 5, 2) := by decide +kernel
theorem d_Ch_longestAtStart_8 : decode b_Ch_longestAtStart 8 = .ok (.iload 5, 2) := by decide +kernel
theorem d_Ch_longestAtStart_10 : decode b_Ch_longestAtStart 10 = .ok (.iconst 4, 1) := by decide +kernel
theorem d_Ch_longestAtStart_11 : decode b_Ch_longestAtStart 11 = .ok (.if_icmp .ge 57, 3) := by decide +kernel
theorem d_Ch_longestAtStart_14 : decode b_Ch_longestAtStart 14 = .ok (.aload_n 0, 1) := by decide +kernel
theorem d_Ch_longestAtStart_15 : decode b_Ch_longestAtStart 15 = .ok (.getfield 9, 3) := by decide +kernel
theorem d_Ch_longestAtStart_18 : decode b_Ch_longestAtStart 18 = .ok (.iload 5, 2) := by decide +kernel
theorem d_Ch_longestAtStart_20 : decode b_Ch_longestAtStart 20 = .ok (.iaload, 1) := by decide +kernel
theorem d_Ch_longestAtStart_21 : decode b_Ch_longestAtStart 21 = .ok (.invokestatic 18, 3) := by decide +kernel
theorem d_Ch_longestAtStart_24 : decode b_Ch_longestAtStart 24 = .ok (.istore 6, 2) := by decide +kernel
theorem d_Ch_longestAtStart_26 : decode b_Ch_longestAtStart 26 = .ok (.iload 6, 2) := by decide +kernel
theorem d_Ch_longestAtStart_28 : decode b_Ch_longestAtStart 28 = .ok (.iload 4, 2) := by decide +kernel
theorem d_Ch_longestAtStart_30 : decode b_Ch_longestAtStart 30 = .ok (.if_icmp .le 32, 3) := by decide +kernel
theorem d_Ch_longestAtStart_33 : decode b_Ch_longestAtStart 33 = .ok (.iload 6, 2) := by decide +kernel
theorem d_Ch_longestAtStart_35 : decode b_Ch_longestAtStart 35 = .ok (.iload_n 2, 1) := by decide +kernel
theorem d_Ch_longestAtStart_36 : decode b_Ch_longestAtStart 36 = .ok (.if_icmp .gt 26, 3) := by decide +kernel
theorem d_Ch_longestAtStart_39 : decode b_Ch_longestAtStart 39 = .ok (.aload_n 1, 1) := by decide +kernel
theorem d_Ch_longestAtStart_40 : decode b_Ch_longestAtStart 40 = .ok (.iload 6, 2) := by decide +kernel
theorem d_Ch_longestAtStart_42 : decode b_Ch_longestAtStart 42 = .ok (.invokevirtual 24, 3) := by decide +kernel
theorem d_Ch_longestAtStart_45 : decode b_Ch_longestAtStart 45 = .ok (.aload_n 0, 1) := by decide +kernel
theorem d_Ch_longestAtStart_46 : decode b_Ch_longestAtStart 46 = .ok (.getfield 9, 3) := by decide +kernel
theorem d_Ch_longestAtStart_49 : decode b_Ch_longestAtStart 49 = .ok (.iload 5, 2) := by decide +kernel
theorem d_Ch_longestAtStart_51 : decode b_Ch_longestAtStart 51 = .ok (.iaload, 1) := by decide +kernel
theorem d_Ch_longestAtStart_52 : decode b_Ch_longestAtStart 52 = .ok (.if_icmp .ne 10, 3) := by decide +kernel
theorem d_Ch_longestAtStart_55 : decode b_Ch_longestAtStart 55 = .ok (.iload 5, 2) := by decide +kernel
theorem d_Ch_longestAtStart_57 : decode b_Ch_longestAtStart 57 = .ok (.istore_n 3, 1) := by decide +kernel
theorem d_Ch_longestAtStart_58 : decode b_Ch_longestAtStart 58 = .ok (.iload 6, 2) := by decide +kernel
theorem d_Ch_longestAtStart_60 : decode b_Ch_longestAtStart 60 = .ok (.istore 4, 2) := by decide +kernel
theorem d_Ch_longestAtStart_62 : decode b_Ch_longestAtStart 62 = .ok (.iinc 5 1, 3) := by decide +kernel
theorem d_Ch_longestAtStart_65 : decode b_Ch_longestAtStart 65 = .ok (.goto (-57), 3) := by decide +kernel
theorem d_Ch_longestAtStart_68 : decode b_Ch_longestAtStart 68 = .ok (.iload_n 3, 1) := by decide +kernel
theorem d_Ch_longestAtStart_69 : decode b_Ch_longestAtStart 69 = .ok (.ireturn, 1) := by decide +kernel
theorem d_La_init_0 : decode b_La_init 0 = .ok (.aload_n 0, 1) := by decide +kernel
theorem d_La_init_1 : decode b_La_init 1 = .ok (.invokespecial 3, 3) := by decide +kernel
theorem d_La_init_4 : decode b_La_init 4 = .ok (.aload_n 0, 1) := by decide +kernel
theorem d_La_init_5 : decode b_La_init 5 = .ok (.iconst 4, 1) := by decide +kernel
theorem d_La_init_6 : decode b_La_init 6 = .ok (.newarray .int, 2) := by decide +kernel
theorem d_La_init_8 : decode b_La_init 8 = .ok (.putfield 9, 3) := by decide +kernel
theorem d_La_init_11 : decode b_La_init 11 = .ok (.return_, 1) := by decide +kernel
theorem d_La_isOn_0 : decode b_La_isOn 0 = .ok (.iload_n 1, 1) := by decide +kernel
theorem d_La_isOn_1 : decode b_La_isOn 1 = .ok (.ifCond .eq 28, 3) := by decide +kernel
theorem d_La_isOn_4 : decode b_La_isOn 4 = .ok (.aload_n 0, 1) := by decide +kernel
theorem d_La_isOn_5 : decode b_La_isOn 5 = .ok (.getfield 9, 3) := by decide +kernel
theorem d_La_isOn_8 : decode b_La_isOn 8 = .ok (.iload_n 1, 1) := by decide +kernel
theorem d_La_isOn_9 : decode b_La_isOn 9 = .ok (.iaload, 1) := by decide +kernel
theorem d_La_isOn_10 : decode b_La_isOn 10 = .ok (.ifCond .ne 19, 3) := by decide +kernel
theorem d_La_isOn_13 : decode b_La_isOn 13 = .ok (.aload_n 0, 1) := by decide +kernel
theorem d_La_isOn_14 : decode b_La_isOn 14 = .ok (.getfield 15, 3) := by decide +kernel
theorem d_La_isOn_17 : decode b_La_isOn 17 = .ok (.aload_n 0, 1) := by decide +kernel
theorem d_La_isOn_18 : decode b_La_isOn 18 = .ok (.getfield 19, 3) := by decide +kernel
theorem d_La_isOn_21 : decode b_La_isOn 21 = .ok (.ior, 1) := by decide +kernel
theorem d_La_isOn_22 : decode b_La_isOn 22 = .ok (.iload_n 1, 1) := by decide +kernel
theorem d_La_isOn_23 : decode b_La_isOn 23 = .ok (.ishr, 1) := by decide +kernel
theorem d_La_isOn_24 : decode b_La_isOn 24 = .ok (.iconst 1, 1) := by decide +kernel
theorem d_La_isOn_25 : decode b_La_isOn 25 = .ok (.iand, 1) := by decide +kernel
theorem d_La_isOn_26 : decode b_La_isOn 26 = .ok (.ifCond .eq 7, 3) := by decide +kernel
theorem d_La_isOn_29 : decode b_La_isOn 29 = .ok (.iconst 1, 1) := by decide +kernel
theorem d_La_isOn_30 : decode b_La_isOn 30 = .ok (.goto 4, 3) := by decide +kernel
theorem d_La_isOn_33 : decode b_La_isOn 33 = .ok (.iconst 0, 1) := by decide +kernel
theorem d_La_isOn_34 : decode b_La_isOn 34 = .ok (.ireturn, 1) := by decide +kernel
theorem d_La_hold_0 : decode b_La_hold 0 = .ok (.aload_n 0, 1) := by decide +kernel
theorem d_La_hold_1 : decode b_La_hold 1 = .ok (.getfield 9, 3) := by decide +kernel
theorem d_La_hold_4 : decode b_La_hold 4 = .ok (.iload_n 1, 1) := by decide +kernel
theorem d_La_hold_5 : decode b_La_hold 5 = .ok (.dup2, 1) := by decide +kernel
theorem d_La_hold_6 : decode b_La_hold 6 = .ok (.iaload, 1) := by decide +kernel
theorem d_La_hold_7 : decode b_La_hold 7 = .ok (.iconst 1, 1) := by decide +kernel
theorem d_La_hold_8 : decode b_La_hold 8 = .ok (.iload_n 2, 1) := by decide +kernel
theorem d_La_hold_9 : decode b_La_hold 9 = .ok (.ishl, 1) := by decide +kernel
theorem d_La_hold_10 : decode b_La_hold 10 = .ok (.ior, 1) := by decide +kernel
theorem d_La_hold_11 : decode b_La_hold 11 = .ok (.iastore, 1) := by decide +kernel
theorem d_La_hold_12 : decode b_La_hold 12 = .ok (.return_, 1) := by decide +kernel
theorem d_La_letGo_0 : decode b_La_letGo 0 = .ok (.iconst 0, 1) := by decide +kernel
theorem d_La_letGo_1 : decode b_La_letGo 1 = .ok (.istore_n 2, 1) := by decide +kernel
theorem d_La_letGo_2 : decode b_La_letGo 2 = .ok (.iload_n 2, 1) := by decide +kernel
theorem d_La_letGo_3 : decode b_La_letGo 3 = .ok (.iconst 4, 1) := by decide +kernel
theorem d_La_letGo_4 : decode b_La_letGo 4 = .ok (.if_icmp .ge 23, 3) := by decide +kernel
theorem d_La_letGo_7 : decode b_La_letGo 7 = .ok (.aload_n 0, 1) := by decide +kernel
theorem d_La_letGo_8 : decode b_La_letGo 8 = .ok (.getfield 9, 3) := by decide +kernel
theorem d_La_letGo_11 : decode b_La_letGo 11 = .ok (.iload_n 2, 1) := by decide +kernel
theorem d_La_letGo_12 : decode b_La_letGo 12 = .ok (.dup2, 1) := by decide +kernel
theorem d_La_letGo_13 : decode b_La_letGo 13 = .ok (.iaload, 1) := by decide +kernel
theorem d_La_letGo_14 : decode b_La_letGo 14 = .ok (.iconst 1, 1) := by decide +kernel
theorem d_La_letGo_15 : decode b_La_letGo 15 = .ok (.iload_n 1, 1) := by decide +kernel
theorem d_La_letGo_16 : decode b_La_letGo 16 = .ok (.ishl, 1) := by decide +kernel
theorem d_La_letGo_17 : decode b_La_letGo 17 = .ok (.iconst (-1), 1) := by decide +kernel
theorem d_La_letGo_18 : decode b_La_letGo 18 = .ok (.ixor, 1) := by decide +kernel
theorem d_La_letGo_19 : decode b_La_letGo 19 = .ok (.iand, 1) := by decide +kernel
theorem d_La_letGo_20 : decode b_La_letGo 20 = .ok (.iastore, 1) := by decide +kernel
theorem d_La_letGo_21 : decode b_La_letGo 21 = .ok (.iinc 2 1, 3) := by decide +kernel
theorem d_La_letGo_24 : decode b_La_letGo 24 = .ok (.goto (-22), 3) := by decide +kernel
theorem d_La_letGo_27 : decode b_La_letGo 27 = .ok (.return_, 1) := by decide +kernel
theorem d_La_turnLock_0 : decode b_La_turnLock 0 = .ok (.aload_n 0, 1) := by decide +kernel
theorem d_La_turnLock_1 : decode b_La_turnLock 1 = .ok (.dup, 1) := by decide +kernel
theorem d_La_turnLock_2 : decode b_La_turnLock 2 = .ok (.getfield 15, 3) := by decide +kernel
theorem d_La_turnLock_5 : decode b_La_turnLock 5 = .ok (.iconst 1, 1) := by decide +kernel
theorem d_La_turnLock_6 : decode b_La_turnLock 6 = .ok (.iload_n 1, 1) := by decide +kernel
theorem d_La_turnLock_7 : decode b_La_turnLock 7 = .ok (.ishl, 1) := by decide +kernel
theorem d_La_turnLock_8 : decode b_La_turnLock 8 = .ok (.ixor, 1) := by decide +kernel
theorem d_La_turnLock_9 : decode b_La_turnLock 9 = .ok (.putfield 15, 3) := by decide +kernel
theorem d_La_turnLock_12 : decode b_La_turnLock 12 = .ok (.return_, 1) := by decide +kernel
theorem d_La_arm_0 : decode b_La_arm 0 = .ok (.aload_n 0, 1) := by decide +kernel
theorem d_La_arm_1 : decode b_La_arm 1 = .ok (.dup, 1) := by decide +kernel
theorem d_La_arm_2 : decode b_La_arm 2 = .ok (.getfield 19, 3) := by decide +kernel
theorem d_La_arm_5 : decode b_La_arm 5 = .ok (.iconst 1, 1) := by decide +kernel
theorem d_La_arm_6 : decode b_La_arm 6 = .ok (.iload_n 1, 1) := by decide +kernel
theorem d_La_arm_7 : decode b_La_arm 7 = .ok (.ishl, 1) := by decide +kernel
theorem d_La_arm_8 : decode b_La_arm 8 = .ok (.ior, 1) := by decide +kernel
theorem d_La_arm_9 : decode b_La_arm 9 = .ok (.putfield 19, 3) := by decide +kernel
theorem d_La_arm_12 : decode b_La_arm 12 = .ok (.return_, 1) := by decide +kernel
theorem d_La_disarm_0 : decode b_La_disarm 0 = .ok (.aload_n 0, 1) := by decide +kernel
theorem d_La_disarm_1 : decode b_La_disarm 1 = .ok (.iconst 0, 1) := by decide +kernel
theorem d_La_disarm_2 : decode b_La_disarm 2 = .ok (.putfield 19, 3) := by decide +kernel
theorem d_La_disarm_5 : decode b_La_disarm 5 = .ok (.return_, 1) := by decide +kernel
theorem d_Ho_init_0 : decode b_Ho_init 0 = .ok (.aload_n 0, 1) := by decide +kernel
theorem d_Ho_init_1 : decode b_Ho_init 1 = .ok (.invokespecial 3, 3) := by decide +kernel
theorem d_Ho_init_4 : decode b_Ho_init 4 = .ok (.aload_n 0, 1) := by decide +kernel
theorem d_Ho_init_5 : decode b_Ho_init 5 = .ok (.bipush 24, 2) := by decide +kernel
theorem d_Ho_init_7 : decode b_Ho_init 7 = .ok (.newarray .int, 2) := by decide +kernel
theorem d_Ho_init_9 : decode b_Ho_init 9 = .ok (.putfield 9, 3) := by decide +kernel
theorem d_Ho_init_12 : decode b_Ho_init 12 = .ok (.aload_n 0, 1) := by decide +kernel
theorem d_Ho_init_13 : decode b_Ho_init 13 = .ok (.bipush 24, 2) := by decide +kernel
theorem d_Ho_init_15 : decode b_Ho_init 15 = .ok (.newarray .int, 2) := by decide +kernel
theorem d_Ho_init_17 : decode b_Ho_init 17 = .ok (.putfield 15, 3) := by decide +kernel
theorem d_Ho_init_20 : decode b_Ho_init 20 = .ok (.return_, 1) := by decide +kernel
theorem d_Ho_begin_0 : decode b_Ho_begin 0 = .ok (.iconst 0, 1) := by decide +kernel
theorem d_Ho_begin_1 : decode b_Ho_begin 1 = .ok (.istore_n 3, 1) := by decide +kernel
theorem d_Ho_begin_2 : decode b_Ho_begin 2 = .ok (.iload_n 3, 1) := by decide +kernel
theorem d_Ho_begin_3 : decode b_Ho_begin 3 = .ok (.bipush 24, 2) := by decide +kernel
theorem d_Ho_begin_5 : decode b_Ho_begin 5 = .ok (.if_icmp .ge 31, 3) := by decide +kernel
theorem d_Ho_begin_8 : decode b_Ho_begin 8 = .ok (.iload_n 1, 1) := by decide +kernel
theorem d_Ho_begin_9 : decode b_Ho_begin 9 = .ok (.iload_n 3, 1) := by decide +kernel
theorem d_Ho_begin_10 : decode b_Ho_begin 10 = .ok (.ishr, 1) := by decide +kernel
theorem d_Ho_begin_11 : decode b_Ho_begin 11 = .ok (.iconst 1, 1) := by decide +kernel
theorem d_Ho_begin_12 : decode b_Ho_begin 12 = .ok (.iand, 1) := by decide +kernel
theorem d_Ho_begin_13 : decode b_Ho_begin 13 = .ok (.ifCond .eq 17, 3) := by decide +kernel
theorem d_Ho_begin_16 : decode b_Ho_begin 16 = .ok (.aload_n 0, 1) := by decide +kernel
theorem d_Ho_begin_17 : decode b_Ho_begin 17 = .ok (.getfield 9, 3) := by decide +kernel
theorem d_Ho_begin_20 : decode b_Ho_begin 20 = .ok (.iload_n 3, 1) := by decide +kernel
theorem d_Ho_begin_21 : decode b_Ho_begin 21 = .ok (.iload_n 2, 1) := by decide +kernel
theorem d_Ho_begin_22 : decode b_Ho_begin 22 = .ok (.iastore, 1) := by decide +kernel
theorem d_Ho_begin_23 : decode b_Ho_begin 23 = .ok (.aload_n 0, 1) := by decide +kernel
theorem d_Ho_begin_24 : decode b_Ho_begin 24 = .ok (.getfield 15, 3) := by decide +kernel
theorem d_Ho_begin_27 : decode b_Ho_begin 27 = .ok (.iload_n 3, 1) := by decide +kernel
theorem d_Ho_begin_28 : decode b_Ho_begin 28 = .ok (.iload_n 1, 1) := by decide +kernel
theorem d_Ho_begin_29 : decode b_Ho_begin 29 = .ok (.iastore, 1) := by decide +kernel
theorem d_Ho_begin_30 : decode b_Ho_begin 30 = .ok (.iinc 3 1, 3) := by decide +kernel
theorem d_Ho_begin_33 : decode b_Ho_begin 33 = .ok (.goto (-31), 3) := by decide +kernel
theorem d_Ho_begin_36 : decode b_Ho_begin 36 = .ok (.return_, 1) := by decide +kernel
theorem d_Ho_end_0 : decode b_Ho_end 0 = .ok (.aload_n 0, 1) := by decide +kernel
theorem d_Ho_end_1 : decode b_Ho_end 1 = .ok (.getfield 9, 3) := by decide +kernel
theorem d_Ho_end_4 : decode b_Ho_end 4 = .ok (.iload_n 1, 1) := by decide +kernel
theorem d_Ho_end_5 : decode b_Ho_end 5 = .ok (.iaload, 1) := by decide +kernel
theorem d_Ho_end_6 : decode b_Ho_end 6 = .ok (.istore_n 2, 1) := by decide +kernel
theorem d_Ho_end_7 : decode b_Ho_end 7 = .ok (.iload_n 2, 1) := by decide +kernel
theorem d_Ho_end_8 : decode b_Ho_end 8 = .ok (.ifCond .eq 14, 3) := by decide +kernel
theorem d_Ho_end_11 : decode b_Ho_end 11 = .ok (.aload_n 0, 1) := by decide +kernel
theorem d_Ho_end_12 : decode b_Ho_end 12 = .ok (.aload_n 0, 1) := by decide +kernel
theorem d_Ho_end_13 : decode b_Ho_end 13 = .ok (.getfield 15, 3) := by decide +kernel
theorem d_Ho_end_16 : decode b_Ho_end 16 = .ok (.iload_n 1, 1) := by decide +kernel
theorem d_Ho_end_17 : decode b_Ho_end 17 = .ok (.iaload, 1) := by decide +kernel
theorem d_Ho_end_18 : decode b_Ho_end 18 = .ok (.iconst 0, 1) := by decide +kernel
theorem d_Ho_end_19 : decode b_Ho_end 19 = .ok (.invokevirtual 18, 3) := by decide +kernel
theorem d_Ho_end_22 : decode b_Ho_end 22 = .ok (.iload_n 2, 1) := by decide +kernel
theorem d_Ho_end_23 : decode b_Ho_end 23 = .ok (.ireturn, 1) := by decide +kernel
theorem d_Re_init_0 : decode b_Re_init 0 = .ok (.aload_n 0, 1) := by decide +kernel
theorem d_Re_init_1 : decode b_Re_init 1 = .ok (.invokespecial 3, 3) := by decide +kernel
theorem d_Re_init_4 : decode b_Re_init 4 = .ok (.aload_n 0, 1) := by decide +kernel
theorem d_Re_init_5 : decode b_Re_init 5 = .ok (.bipush 108, 2) := by decide +kernel
theorem d_Re_init_7 : decode b_Re_init 7 = .ok (.newarray .int, 2) := by decide +kernel
theorem d_Re_init_9 : decode b_Re_init 9 = .ok (.putfield 9, 3) := by decide +kernel
theorem d_Re_init_12 : decode b_Re_init 12 = .ok (.aload_n 0, 1) := by decide +kernel
theorem d_Re_init_13 : decode b_Re_init 13 = .ok (.bipush 8, 2) := by decide +kernel
theorem d_Re_init_15 : decode b_Re_init 15 = .ok (.newarray .long, 2) := by decide +kernel
theorem d_Re_init_17 : decode b_Re_init 17 = .ok (.putfield 15, 3) := by decide +kernel
theorem d_Re_init_20 : decode b_Re_init 20 = .ok (.return_, 1) := by decide +kernel
theorem d_Re_stored_0 : decode b_Re_stored 0 = .ok (.aload_n 0, 1) := by decide +kernel
theorem d_Re_stored_1 : decode b_Re_stored 1 = .ok (.getfield 19, 3) := by decide +kernel
theorem d_Re_stored_4 : decode b_Re_stored 4 = .ok (.ireturn, 1) := by decide +kernel
theorem d_Re_isLate_0 : decode b_Re_isLate 0 = .ok (.aload_n 0, 1) := by decide +kernel
theorem d_Re_isLate_1 : decode b_Re_isLate 1 = .ok (.getfield 23, 3) := by decide +kernel
theorem d_Re_isLate_4 : decode b_Re_isLate 4 = .ok (.ireturn, 1) := by decide +kernel
theorem d_Re_goDown_0 : decode b_Re_goDown 0 = .ok (.aload_n 0, 1) := by decide +kernel
theorem d_Re_goDown_1 : decode b_Re_goDown 1 = .ok (.getfield 9, 3) := by decide +kernel
theorem d_Re_goDown_4 : decode b_Re_goDown 4 = .ok (.iload_n 1, 1) := by decide +kernel
theorem d_Re_goDown_5 : decode b_Re_goDown 5 = .ok (.dup2, 1) := by decide +kernel
theorem d_Re_goDown_6 : decode b_Re_goDown 6 = .ok (.iaload, 1) := by decide +kernel
theorem d_Re_goDown_7 : decode b_Re_goDown 7 = .ok (.iconst 1, 1) := by decide +kernel
theorem d_Re_goDown_8 : decode b_Re_goDown 8 = .ok (.iadd, 1) := by decide +kernel
theorem d_Re_goDown_9 : decode b_Re_goDown 9 = .ok (.iastore, 1) := by decide +kernel
theorem d_Re_goDown_10 : decode b_Re_goDown 10 = .ok (.aload_n 0, 1) := by decide +kernel
theorem d_Re_goDown_11 : decode b_Re_goDown 11 = .ok (.aload_n 0, 1) := by decide +kernel
theorem d_Re_goDown_12 : decode b_Re_goDown 12 = .ok (.invokevirtual 27, 3) := by decide +kernel
theorem d_Re_goDown_15 : decode b_Re_goDown 15 = .ok (.invokevirtual 31, 3) := by decide +kernel
theorem d_Re_goDown_18 : decode b_Re_goDown 18 = .ok (.return_, 1) := by decide +kernel
theorem d_Re_letGo_0 : decode b_Re_letGo 0 = .ok (.aload_n 0, 1) := by decide +kernel
theorem d_Re_letGo_1 : decode b_Re_letGo 1 = .ok (.getfield 9, 3) := by decide +kernel
theorem d_Re_letGo_4 : decode b_Re_letGo 4 = .ok (.iload_n 1, 1) := by decide +kernel
theorem d_Re_letGo_5 : decode b_Re_letGo 5 = .ok (.dup2, 1) := by decide +kernel
theorem d_Re_letGo_6 : decode b_Re_letGo 6 = .ok (.iaload, 1) := by decide +kernel
theorem d_Re_letGo_7 : decode b_Re_letGo 7 = .ok (.iconst 1, 1) := by decide +kernel
theorem d_Re_letGo_8 : decode b_Re_letGo 8 = .ok (.isub, 1) := by decide +kernel
theorem d_Re_letGo_9 : decode b_Re_letGo 9 = .ok (.iastore, 1) := by decide +kernel
theorem d_Re_letGo_10 : decode b_Re_letGo 10 = .ok (.aload_n 0, 1) := by decide +kernel
theorem d_Re_letGo_11 : decode b_Re_letGo 11 = .ok (.aload_n 0, 1) := by decide +kernel
theorem d_Re_letGo_12 : decode b_Re_letGo 12 = .ok (.invokevirtual 27, 3) := by decide +kernel
theorem d_Re_letGo_15 : decode b_Re_letGo 15 = .ok (.invokevirtual 31, 3) := by decide +kernel
theorem d_Re_letGo_18 : decode b_Re_letGo 18 = .ok (.return_, 1) := by decide +kernel
theorem d_Re_takeOldest_0 : decode b_Re_takeOldest 0 = .ok (.aload_n 0, 1) := by decide +kernel
theorem d_Re_takeOldest_1 : decode b_Re_takeOldest 1 = .ok (.getfield 19, 3) := by decide +kernel
theorem d_Re_takeOldest_4 : decode b_Re_takeOldest 4 = .ok (.ifCond .ne 5, 3) := by decide +kernel
theorem d_Re_takeOldest_7 : decode b_Re_takeOldest 7 = .ok (.iconst 0, 1) := by decide +kernel
theorem d_Re_takeOldest_8 : decode b_Re_takeOldest 8 = .ok (.ireturn, 1) := by decide +kernel
theorem d_Re_takeOldest_9 : decode b_Re_takeOldest 9 = .ok (.aload_n 0, 1) := by decide +kernel
theorem d_Re_takeOldest_10 : decode b_Re_takeOldest 10 = .ok (.aload_n 0, 1) := by decide +kernel
theorem d_Re_takeOldest_11 : decode b_Re_takeOldest 11 = .ok (.getfield 15, 3) := by decide +kernel
theorem d_Re_takeOldest_14 : decode b_Re_takeOldest 14 = .ok (.aload_n 0, 1) := by decide +kernel
theorem d_Re_takeOldest_15 : decode b_Re_takeOldest 15 = .ok (.getfield 35, 3) := by decide +kernel
theorem d_Re_takeOldest_18 : decode b_Re_takeOldest 18 = .ok (.laload, 1) := by decide +kernel
theorem d_Re_takeOldest_19 : decode b_Re_takeOldest 19 = .ok (.putfield 38, 3) := by decide +kernel
theorem d_Re_takeOldest_22 : decode b_Re_takeOldest 22 = .ok (.aload_n 0, 1) := by decide +kernel
theorem d_Re_takeOldest_23 : decode b_Re_takeOldest 23 = .ok (.aload_n 0, 1) := by decide +kernel
theorem d_Re_takeOldest_24 : decode b_Re_takeOldest 24 = .ok (.getfield 35, 3) := by decide +kernel
theorem d_Re_takeOldest_27 : decode b_Re_takeOldest 27 = .ok (.iconst 1, 1) := by decide +kernel
theorem d_Re_takeOldest_28 : decode b_Re_takeOldest 28 = .ok (.iadd, 1) := by decide +kernel
theorem d_Re_takeOldest_29 : decode b_Re_takeOldest 29 = .ok (.bipush 8, 2) := by decide +kernel
theorem d_Re_takeOldest_31 : decode b_Re_takeOldest 31 = .ok (.irem, 1) := by decide +kernel
theorem d_Re_takeOldest_32 : decode b_Re_takeOldest 32 = .ok (.putfield 35, 3) := by decide +kernel
theorem d_Re_takeOldest_35 : decode b_Re_takeOldest 35 = .ok (.aload_n 0, 1) := by decide +kernel
theorem d_Re_takeOldest_36 : decode b_Re_takeOldest 36 = .ok (.dup, 1) := by decide +kernel
theorem d_Re_takeOldest_37 : decode b_Re_takeOldest 37 = .ok (.getfield 19, 3) := by decide +kernel
theorem d_Re_takeOldest_40 : decode b_Re_takeOldest 40 = .ok (.iconst 1, 1) := by decide +kernel
theorem d_Re_takeOldest_41 : decode b_Re_takeOldest 41 = .ok (.isub, 1) := by decide +kernel
theorem d_Re_takeOldest_42 : decode b_Re_takeOldest 42 = .ok (.putfield 19, 3) := by decide +kernel
theorem d_Re_takeOldest_45 : decode b_Re_takeOldest 45 = .ok (.aload_n 0, 1) := by decide +kernel
theorem d_Re_takeOldest_46 : decode b_Re_takeOldest 46 = .ok (.getfield 23, 3) := by decide +kernel
theorem d_Re_takeOldest_49 : decode b_Re_takeOldest 49 = .ok (.ifCond .eq 16, 3) := by decide +kernel
theorem d_Re_takeOldest_52 : decode b_Re_takeOldest 52 = .ok (.aload_n 0, 1) := by decide +kernel
theorem d_Re_takeOldest_53 : decode b_Re_takeOldest 53 = .ok (.iconst 0, 1) := by decide +kernel
theorem d_Re_takeOldest_54 : decode b_Re_takeOldest 54 = .ok (.putfield 23, 3) := by decide +kernel
theorem d_Re_takeOldest_57 : decode b_Re_takeOldest 57 = .ok (.aload_n 0, 1) := by decide +kernel
theorem d_Re_takeOldest_58 : decode b_Re_takeOldest 58 = .ok (.aload_n 0, 1) := by decide +kernel
theorem d_Re_takeOldest_59 : decode b_Re_takeOldest 59 = .ok (.invokevirtual 27, 3) := by decide +kernel
theorem d_Re_takeOldest_62 : decode b_Re_takeOldest 62 = .ok (.invokevirtual 31, 3) := by decide +kernel
theorem d_Re_takeOldest_65 : decode b_Re_takeOldest 65 = .ok (.iconst 1, 1) := by decide +kernel
theorem d_Re_takeOldest_66 : decode b_Re_takeOldest 66 = .ok (.ireturn, 1) := by decide +kernel
theorem d_Re_partOfTaken_0 : decode b_Re_partOfTaken 0 = .ok (.iload_n 1, 1) := by decide +kernel
theorem d_Re_partOfTaken_1 : decode b_Re_partOfTaken 1 = .ok (.ifCond .lt 9, 3) := by decide +kernel
theorem d_Re_partOfTaken_4 : decode b_Re_partOfTaken 4 = .ok (.iload_n 1, 1) := by decide +kernel
theorem d_Re_partOfTaken_5 : decode b_Re_partOfTaken 5 = .ok (.bipush 6, 2) := by decide +kernel
theorem d_Re_partOfTaken_7 : decode b_Re_partOfTaken 7 = .ok (.if_icmp .le 5, 3) := by decide +kernel
theorem d_Re_partOfTaken_10 : decode b_Re_partOfTaken 10 = .ok (.iconst (-1), 1) := by decide +kernel
theorem d_Re_partOfTaken_11 : decode b_Re_partOfTaken 11 = .ok (.ireturn, 1) := by decide +kernel
theorem d_Re_partOfTaken_12 : decode b_Re_partOfTaken 12 = .ok (.iload_n 1, 1) := by decide +kernel
theorem d_Re_partOfTaken_13 : decode b_Re_partOfTaken 13 = .ok (.ifCond .ne 13, 3) := by decide +kernel
theorem d_Re_partOfTaken_16 : decode b_Re_partOfTaken 16 = .ok (.aload_n 0, 1) := by decide +kernel
theorem d_Re_partOfTaken_17 : decode b_Re_partOfTaken 17 = .ok (.getfield 38, 3) := by decide +kernel
theorem d_Re_partOfTaken_20 : decode b_Re_partOfTaken 20 = .ok (.ldc2_w 42, 3) := by decide +kernel
theorem d_Re_partOfTaken_23 : decode b_Re_partOfTaken 23 = .ok (.land, 1) := by decide +kernel
theorem d_Re_partOfTaken_24 : decode b_Re_partOfTaken 24 = .ok (.l2i, 1) := by decide +kernel
theorem d_Re_partOfTaken_25 : decode b_Re_partOfTaken 25 = .ok (.ireturn, 1) := by decide +kernel
theorem d_Re_partOfTaken_26 : decode b_Re_partOfTaken 26 = .ok (.bipush 8, 2) := by decide +kernel
theorem d_Re_partOfTaken_28 : decode b_Re_partOfTaken 28 = .ok (.bipush 7, 2) := by decide +kernel
theorem d_Re_partOfTaken_30 : decode b_Re_partOfTaken 30 = .ok (.iload_n 1, 1) := by decide +kernel
theorem d_Re_partOfTaken_31 : decode b_Re_partOfTaken 31 = .ok (.iconst 1, 1) := by decide +kernel
theorem d_Re_partOfTaken_32 : decode b_Re_partOfTaken 32 = .ok (.isub, 1) := by decide +kernel
theorem d_Re_partOfTaken_33 : decode b_Re_partOfTaken 33 = .ok (.imul, 1) := by decide +kernel
theorem d_Re_partOfTaken_34 : decode b_Re_partOfTaken 34 = .ok (.iadd, 1) := by decide +kernel
theorem d_Re_partOfTaken_35 : decode b_Re_partOfTaken 35 = .ok (.istore_n 2, 1) := by decide +kernel
theorem d_Re_partOfTaken_36 : decode b_Re_partOfTaken 36 = .ok (.aload_n 0, 1) := by decide +kernel
theorem d_Re_partOfTaken_37 : decode b_Re_partOfTaken 37 = .ok (.getfield 38, 3) := by decide +kernel
theorem d_Re_partOfTaken_40 : decode b_Re_partOfTaken 40 = .ok (.iload_n 2, 1) := by decide +kernel
theorem d_Re_partOfTaken_41 : decode b_Re_partOfTaken 41 = .ok (.lshr, 1) := by decide +kernel
theorem d_Re_partOfTaken_42 : decode b_Re_partOfTaken 42 = .ok (.ldc2_w 44, 3) := by decide +kernel
theorem d_Re_partOfTaken_45 : decode b_Re_partOfTaken 45 = .ok (.land, 1) := by decide +kernel
theorem d_Re_partOfTaken_46 : decode b_Re_partOfTaken 46 = .ok (.l2i, 1) := by decide +kernel
theorem d_Re_partOfTaken_47 : decode b_Re_partOfTaken 47 = .ok (.ireturn, 1) := by decide +kernel
theorem d_Re_putIfOther_0 : decode b_Re_putIfOther 0 = .ok (.lload_n 1, 1) := by decide +kernel
theorem d_Re_putIfOther_1 : decode b_Re_putIfOther 1 = .ok (.aload_n 0, 1) := by decide +kernel
theorem d_Re_putIfOther_2 : decode b_Re_putIfOther 2 = .ok (.getfield 46, 3) := by decide +kernel
theorem d_Re_putIfOther_5 : decode b_Re_putIfOther 5 = .ok (.lcmp, 1) := by decide +kernel
theorem d_Re_putIfOther_6 : decode b_Re_putIfOther 6 = .ok (.ifCond .ne 4, 3) := by decide +kernel
theorem d_Re_putIfOther_9 : decode b_Re_putIfOther 9 = .ok (.return_, 1) := by decide +kernel
theorem d_Re_putIfOther_10 : decode b_Re_putIfOther 10 = .ok (.aload_n 0, 1) := by decide +kernel
theorem d_Re_putIfOther_11 : decode b_Re_putIfOther 11 = .ok (.getfield 19, 3) := by decide +kernel
theorem d_Re_putIfOther_14 : decode b_Re_putIfOther 14 = .ok (.bipush 8, 2) := by decide +kernel
theorem d_Re_putIfOther_16 : decode b_Re_putIfOther 16 = .ok (.if_icmp .ne 9, 3) := by decide +kernel
theorem d_Re_putIfOther_19 : decode b_Re_putIfOther 19 = .ok (.aload_n 0, 1) := by decide +kernel
theorem d_Re_putIfOther_20 : decode b_Re_putIfOther 20 = .ok (.iconst 1, 1) := by decide +kernel
theorem d_Re_putIfOther_21 : decode b_Re_putIfOther 21 = .ok (.putfield 23, 3) := by decide +kernel
theorem d_Re_putIfOther_24 : decode b_Re_putIfOther 24 = .ok (.return_, 1) := by decide +kernel
theorem d_Re_putIfOther_25 : decode b_Re_putIfOther 25 = .ok (.aload_n 0, 1) := by decide +kernel
theorem d_Re_putIfOther_26 : decode b_Re_putIfOther 26 = .ok (.getfield 15, 3) := by decide +kernel
theorem d_Re_putIfOther_29 : decode b_Re_putIfOther 29 = .ok (.aload_n 0, 1) := by decide +kernel
theorem d_Re_putIfOther_30 : decode b_Re_putIfOther 30 = .ok (.getfield 35, 3) := by decide +kernel
theorem d_Re_putIfOther_33 : decode b_Re_putIfOther 33 = .ok (.aload_n 0, 1) := by decide +kernel
theorem d_Re_putIfOther_34 : decode b_Re_putIfOther 34 = .ok (.getfield 19, 3) := by decide +kernel
theorem d_Re_putIfOther_37 : decode b_Re_putIfOther 37 = .ok (.iadd, 1) := by decide +kernel
theorem d_Re_putIfOther_38 : decode b_Re_putIfOther 38 = .ok (.bipush 8, 2) := by decide +kernel
theorem d_Re_putIfOther_40 : decode b_Re_putIfOther 40 = .ok (.irem, 1) := by decide +kernel
theorem d_Re_putIfOther_41 : decode b_Re_putIfOther 41 = .ok (.lload_n 1, 1) := by decide +kernel
theorem d_Re_putIfOther_42 : decode b_Re_putIfOther 42 = .ok (.lastore, 1) := by decide +kernel
theorem d_Re_putIfOther_43 : decode b_Re_putIfOther 43 = .ok (.aload_n 0, 1) := by decide +kernel
theorem d_Re_putIfOther_44 : decode b_Re_putIfOther 44 = .ok (.dup, 1) := by decide +kernel
theorem d_Re_putIfOther_45 : decode b_Re_putIfOther 45 = .ok (.getfield 19, 3) := by decide +kernel
theorem d_Re_putIfOther_48 : decode b_Re_putIfOther 48 = .ok (.iconst 1, 1) := by decide +kernel
theorem d_Re_putIfOther_49 : decode b_Re_putIfOther 49 = .ok (.iadd, 1) := by decide +kernel
theorem d_Re_putIfOther_50 : decode b_Re_putIfOther 50 = .ok (.putfield 19, 3) := by decide +kernel
theorem d_Re_putIfOther_53 : decode b_Re_putIfOther 53 = .ok (.aload_n 0, 1) := by decide +kernel
theorem d_Re_putIfOther_54 : decode b_Re_putIfOther 54 = .ok (.lload_n 1, 1) := by decide +kernel
theorem d_Re_putIfOther_55 : decode b_Re_putIfOther 55 = .ok (.putfield 46, 3) := by decide +kernel
theorem d_Re_putIfOther_58 : decode b_Re_putIfOther 58 = .ok (.return_, 1) := by decide +kernel
theorem d_Re_packed_0 : decode b_Re_packed 0 = .ok (.lconst 0, 1) := by decide +kernel
theorem d_Re_packed_1 : decode b_Re_packed 1 = .ok (.lstore_n 1, 1) := by decide +kernel
theorem d_Re_packed_2 : decode b_Re_packed 2 = .ok (.iconst 0, 1) := by decide +kernel
theorem d_Re_packed_3 : decode b_Re_packed 3 = .ok (.istore_n 3, 1) := by decide +kernel
theorem d_Re_packed_4 : decode b_Re_packed 4 = .ok (.iload_n 3, 1) := by decide +kernel
theorem d_Re_packed_5 : decode b_Re_packed 5 = .ok (.bipush 8, 2) := by decide +kernel
theorem d_Re_packed_7 : decode b_Re_packed 7 = .ok (.if_icmp .ge 27, 3) := by decide +kernel
theorem d_Re_packed_10 : decode b_Re_packed 10 = .ok (.aload_n 0, 1) := by decide +kernel
theorem d_Re_packed_11 : decode b_Re_packed 11 = .ok (.getfield 9, 3) := by decide +kernel
theorem d_Re_packed_14 : decode b_Re_packed 14 = .ok (.bipush 100, 2) := by decide +kernel
theorem d_Re_packed_16 : decode b_Re_packed 16 = .ok (.iload_n 3, 1) := by decide +kernel
theorem d_Re_packed_17 : decode b_Re_packed 17 = .ok (.iadd, 1) := by decide +kernel
theorem d_Re_packed_18 : decode b_Re_packed 18 = .ok (.iaload, 1) := by decide +kernel
theorem d_Re_packed_19 : decode b_Re_packed 19 = .ok (.ifCond .le 9, 3) := by decide +kernel
theorem d_Re_packed_22 : decode b_Re_packed 22 = .ok (.lload_n 1, 1) := by decide +kernel
theorem d_Re_packed_23 : decode b_Re_packed 23 = .ok (.lconst 1, 1) := by decide +kernel
theorem d_Re_packed_24 : decode b_Re_packed 24 = .ok (.iload_n 3, 1) := by decide +kernel
theorem d_Re_packed_25 : decode b_Re_packed 25 = .ok (.lshl, 1) := by decide +kernel
theorem d_Re_packed_26 : decode b_Re_packed 26 = .ok (.lor, 1) := by decide +kernel
theorem d_Re_packed_27 : decode b_Re_packed 27 = .ok (.lstore_n 1, 1) := by decide +kernel
theorem d_Re_packed_28 : decode b_Re_packed 28 = .ok (.iinc 3 1, 3) := by decide +kernel
theorem d_Re_packed_31 : decode b_Re_packed 31 = .ok (.goto (-27), 3) := by decide +kernel
theorem d_Re_packed_34 : decode b_Re_packed 34 = .ok (.lconst 0, 1) := by decide +kernel
theorem d_Re_packed_35 : decode b_Re_packed 35 = .ok (.lstore_n 3, 1) := by decide +kernel
theorem d_Re_packed_36 : decode b_Re_packed 36 = .ok (.lconst 0, 1) := by decide +kernel
theorem d_Re_packed_37 : decode b_Re_packed 37 = .ok (.lstore 5, 2) := by decide +kernel
theorem d_Re_packed_39 : decode b_Re_packed 39 = .ok (.iconst 0, 1) := by decide +kernel
theorem d_Re_packed_40 : decode b_Re_packed 40 = .ok (.istore 7, 2) := by decide +kernel
theorem d_Re_packed_42 : decode b_Re_packed 42 = .ok (.iconst 4, 1) := by decide +kernel
theorem d_Re_packed_43 : decode b_Re_packed 43 = .ok (.istore 8, 2) := by decide +kernel
theorem d_Re_packed_45 : decode b_Re_packed 45 = .ok (.iload 8, 2) := by decide +kernel
theorem d_Re_packed_47 : decode b_Re_packed 47 = .ok (.bipush 100, 2) := by decide +kernel
theorem d_Re_packed_49 : decode b_Re_packed 49 = .ok (.if_icmp .ge 68, 3) := by decide +kernel
theorem d_Re_packed_52 : decode b_Re_packed 52 = .ok (.iload 7, 2) := by decide +kernel
theorem d_Re_packed_54 : decode b_Re_packed 54 = .ok (.bipush 6, 2) := by decide +kernel
theorem d_Re_packed_56 : decode b_Re_packed 56 = .ok (.if_icmp .gt 61, 3) := by decide +kernel
theorem d_Re_packed_59 : decode b_Re_packed 59 = .ok (.aload_n 0, 1) := by decide +kernel
theorem d_Re_packed_60 : decode b_Re_packed 60 = .ok (.getfield 9, 3) := by decide +kernel
theorem d_Re_packed_63 : decode b_Re_packed 63 = .ok (.iload 8, 2) := by decide +kernel
theorem d_Re_packed_65 : decode b_Re_packed 65 = .ok (.iaload, 1) := by decide +kernel
theorem d_Re_packed_66 : decode b_Re_packed 66 = .ok (.ifCond .le 45, 3) := by decide +kernel
theorem d_Re_packed_69 : decode b_Re_packed 69 = .ok (.bipush 8, 2) := by decide +kernel
theorem d_Re_packed_71 : decode b_Re_packed 71 = .ok (.bipush 7, 2) := by decide +kernel
theorem d_Re_packed_73 : decode b_Re_packed 73 = .ok (.iload 7, 2) := by decide +kernel
theorem d_Re_packed_75 : decode b_Re_packed 75 = .ok (.imul, 1) := by decide +kernel
theorem d_Re_packed_76 : decode b_Re_packed 76 = .ok (.iadd, 1) := by decide +kernel
theorem d_Re_packed_77 : decode b_Re_packed 77 = .ok (.istore 9, 2) := by decide +kernel
theorem d_Re_packed_79 : decode b_Re_packed 79 = .ok (.lload_n 3, 1) := by decide +kernel
theorem d_Re_packed_80 : decode b_Re_packed 80 = .ok (.iload 8, 2) := by decide +kernel
theorem d_Re_packed_82 : decode b_Re_packed 82 = .ok (.i2l, 1) := by decide +kernel
theorem d_Re_packed_83 : decode b_Re_packed 83 = .ok (.iload 9, 2) := by decide +kernel
theorem d_Re_packed_85 : decode b_Re_packed 85 = .ok (.lshl, 1) := by decide +kernel
theorem d_Re_packed_86 : decode b_Re_packed 86 = .ok (.lor, 1) := by decide +kernel
theorem d_Re_packed_87 : decode b_Re_packed 87 = .ok (.lstore_n 3, 1) := by decide +kernel
theorem d_Re_packed_88 : decode b_Re_packed 88 = .ok (.lload 5, 2) := by decide +kernel
theorem d_Re_packed_90 : decode b_Re_packed 90 = .ok (.iload 7, 2) := by decide +kernel
theorem d_Re_packed_92 : decode b_Re_packed 92 = .ok (.bipush 6, 2) := by decide +kernel
theorem d_Re_packed_94 : decode b_Re_packed 94 = .ok (.if_icmp .ge 10, 3) := by decide +kernel
theorem d_Re_packed_97 : decode b_Re_packed 97 = .ok (.lconst 1, 1) := by decide +kernel
theorem d_Re_packed_98 : decode b_Re_packed 98 = .ok (.iload 9, 2) := by decide +kernel
theorem d_Re_packed_100 : decode b_Re_packed 100 = .ok (.lshl, 1) := by decide +kernel
theorem d_Re_packed_101 : decode b_Re_packed 101 = .ok (.goto 4, 3) := by decide +kernel
theorem d_Re_packed_104 : decode b_Re_packed 104 = .ok (.lconst 0, 1) := by decide +kernel
theorem d_Re_packed_105 : decode b_Re_packed 105 = .ok (.lor, 1) := by decide +kernel
theorem d_Re_packed_106 : decode b_Re_packed 106 = .ok (.lstore 5, 2) := by decide +kernel
theorem d_Re_packed_108 : decode b_Re_packed 108 = .ok (.iinc 7 1, 3) := by decide +kernel
theorem d_Re_packed_111 : decode b_Re_packed 111 = .ok (.iinc 8 1, 3) := by decide +kernel
theorem d_Re_packed_114 : decode b_Re_packed 114 = .ok (.goto (-69), 3) := by decide +kernel
theorem d_Re_packed_117 : decode b_Re_packed 117 = .ok (.lload_n 1, 1) := by decide +kernel
theorem d_Re_packed_118 : decode b_Re_packed 118 = .ok (.iload 7, 2) := by decide +kernel
theorem d_Re_packed_120 : decode b_Re_packed 120 = .ok (.bipush 6, 2) := by decide +kernel
theorem d_Re_packed_122 : decode b_Re_packed 122 = .ok (.if_icmp .le 8, 3) := by decide +kernel
theorem d_Re_packed_125 : decode b_Re_packed 125 = .ok (.lload 5, 2) := by decide +kernel
theorem d_Re_packed_127 : decode b_Re_packed 127 = .ok (.goto 4, 3) := by decide +kernel
theorem d_Re_packed_130 : decode b_Re_packed 130 = .ok (.lload_n 3, 1) := by decide +kernel
theorem d_Re_packed_131 : decode b_Re_packed 131 = .ok (.lor, 1) := by decide +kernel
theorem d_Re_packed_132 : decode b_Re_packed 132 = .ok (.lreturn, 1) := by decide +kernel
theorem d_Ji_bitCount_0 : decode b_Ji_bitCount 0 = .ok (.iload_n 0, 1) := by decide +kernel
theorem d_Ji_bitCount_1 : decode b_Ji_bitCount 1 = .ok (.iload_n 0, 1) := by decide +kernel
theorem d_Ji_bitCount_2 : decode b_Ji_bitCount 2 = .ok (.iconst 1, 1) := by decide +kernel
theorem d_Ji_bitCount_3 : decode b_Ji_bitCount 3 = .ok (.iushr, 1) := by decide +kernel
theorem d_Ji_bitCount_4 : decode b_Ji_bitCount 4 = .ok (.ldc_w 265, 3) := by decide +kernel
theorem d_Ji_bitCount_7 : decode b_Ji_bitCount 7 = .ok (.iand, 1) := by decide +kernel
theorem d_Ji_bitCount_8 : decode b_Ji_bitCount 8 = .ok (.isub, 1) := by decide +kernel
theorem d_Ji_bitCount_9 : decode b_Ji_bitCount 9 = .ok (.istore_n 0, 1) := by decide +kernel
theorem d_Ji_bitCount_10 : decode b_Ji_bitCount 10 = .ok (.iload_n 0, 1) := by decide +kernel
theorem d_Ji_bitCount_11 : decode b_Ji_bitCount 11 = .ok (.ldc_w 266, 3) := by decide +kernel
theorem d_Ji_bitCount_14 : decode b_Ji_bitCount 14 = .ok (.iand, 1) := by decide +kernel
theorem d_Ji_bitCount_15 : decode b_Ji_bitCount 15 = .ok (.iload_n 0, 1) := by decide +kernel
theorem d_Ji_bitCount_16 : decode b_Ji_bitCount 16 = .ok (.iconst 2, 1) := by decide +kernel
theorem d_Ji_bitCount_17 : decode b_Ji_bitCount 17 = .ok (.iushr, 1) := by decide +kernel
theorem d_Ji_bitCount_18 : decode b_Ji_bitCount 18 = .ok (.ldc_w 266, 3) := by decide +kernel
theorem d_Ji_bitCount_21 : decode b_Ji_bitCount 21 = .ok (.iand, 1) := by decide +kernel
theorem d_Ji_bitCount_22 : decode b_Ji_bitCount 22 = .ok (.iadd, 1) := by decide +kernel
theorem d_Ji_bitCount_23 : decode b_Ji_bitCount 23 = .ok (.istore_n 0, 1) := by decide +kernel
theorem d_Ji_bitCount_24 : decode b_Ji_bitCount 24 = .ok (.iload_n 0, 1) := by decide +kernel
theorem d_Ji_bitCount_25 : decode b_Ji_bitCount 25 = .ok (.iload_n 0, 1) := by decide +kernel
theorem d_Ji_bitCount_26 : decode b_Ji_bitCount 26 = .ok (.iconst 4, 1) := by decide +kernel
theorem d_Ji_bitCount_27 : decode b_Ji_bitCount 27 = .ok (.iushr, 1) := by decide +kernel
theorem d_Ji_bitCount_28 : decode b_Ji_bitCount 28 = .ok (.iadd, 1) := by decide +kernel
theorem d_Ji_bitCount_29 : decode b_Ji_bitCount 29 = .ok (.ldc_w 267, 3) := by decide +kernel
theorem d_Ji_bitCount_32 : decode b_Ji_bitCount 32 = .ok (.iand, 1) := by decide +kernel
theorem d_Ji_bitCount_33 : decode b_Ji_bitCount 33 = .ok (.istore_n 0, 1) := by decide +kernel
theorem d_Ji_bitCount_34 : decode b_Ji_bitCount 34 = .ok (.iload_n 0, 1) := by decide +kernel
theorem d_Ji_bitCount_35 : decode b_Ji_bitCount 35 = .ok (.iload_n 0, 1) := by decide +kernel
theorem d_Ji_bitCount_36 : decode b_Ji_bitCount 36 = .ok (.bipush 8, 2) := by decide +kernel
theorem d_Ji_bitCount_38 : decode b_Ji_bitCount 38 = .ok (.iushr, 1) := by decide +kernel
theorem d_Ji_bitCount_39 : decode b_Ji_bitCount 39 = .ok (.iadd, 1) := by decide +kernel
theorem d_Ji_bitCount_40 : decode b_Ji_bitCount 40 = .ok (.istore_n 0, 1) := by decide +kernel
theorem d_Ji_bitCount_41 : decode b_Ji_bitCount 41 = .ok (.iload_n 0, 1) := by decide +kernel
theorem d_Ji_bitCount_42 : decode b_Ji_bitCount 42 = .ok (.iload_n 0, 1) := by decide +kernel
theorem d_Ji_bitCount_43 : decode b_Ji_bitCount 43 = .ok (.bipush 16, 2) := by decide +kernel
theorem d_Ji_bitCount_45 : decode b_Ji_bitCount 45 = .ok (.iushr, 1) := by decide +kernel
theorem d_Ji_bitCount_46 : decode b_Ji_bitCount 46 = .ok (.iadd, 1) := by decide +kernel
theorem d_Ji_bitCount_47 : decode b_Ji_bitCount 47 = .ok (.istore_n 0, 1) := by decide +kernel
theorem d_Ji_bitCount_48 : decode b_Ji_bitCount 48 = .ok (.iload_n 0, 1) := by decide +kernel
theorem d_Ji_bitCount_49 : decode b_Ji_bitCount 49 = .ok (.bipush 63, 2) := by decide +kernel
theorem d_Ji_bitCount_51 : decode b_Ji_bitCount 51 = .ok (.iand, 1) := by decide +kernel
theorem d_Ji_bitCount_52 : decode b_Ji_bitCount 52 = .ok (.ireturn, 1) := by decide +kernel
