theorem dX3_turn_0 : decode cX3_turn 0 = .ok (.aload_n 0, 1) := by decide +kernel
theorem dX3_turn_1 : decode cX3_turn 1 = .ok (.invokevirtual 120, 3) := by decide +kernel
theorem dX3_turn_4 : decode cX3_turn 4 = .ok (.ireturn, 1) := by decide +kernel
theorem dX3_turns_0 : decode cX3_turns 0 = .ok (.iload_n 1, 1) := by decide +kernel
theorem dX3_turns_1 : decode cX3_turns 1 = .ok (.invokestatic 123, 3) := by decide +kernel
theorem dX3_turns_4 : decode cX3_turns 4 = .ok (.ifCond .ne 11, 3) := by decide +kernel
theorem dX3_turns_7 : decode cX3_turns 7 = .ok (.new 40, 3) := by decide +kernel
theorem dX3_turns_10 : decode cX3_turns 10 = .ok (.dup, 1) := by decide +kernel
theorem dX3_turns_11 : decode cX3_turns 11 = .ok (.invokespecial 42, 3) := by decide +kernel
theorem dX3_turns_14 : decode cX3_turns 14 = .ok (.athrow, 1) := by decide +kernel
theorem dX3_turns_15 : decode cX3_turns 15 = .ok (.iconst 0, 1) := by decide +kernel
theorem dX3_turns_16 : decode cX3_turns 16 = .ok (.istore_n 2, 1) := by decide +kernel
theorem dX3_turns_17 : decode cX3_turns 17 = .ok (.iload_n 2, 1) := by decide +kernel
theorem dX3_turns_18 : decode cX3_turns 18 = .ok (.iload_n 1, 1) := by decide +kernel
theorem dX3_turns_19 : decode cX3_turns 19 = .ok (.if_icmp .ge 16, 3) := by decide +kernel
theorem dX3_turns_22 : decode cX3_turns 22 = .ok (.aload_n 0, 1) := by decide +kernel
theorem dX3_turns_23 : decode cX3_turns 23 = .ok (.invokevirtual 120, 3) := by decide +kernel
theorem dX3_turns_26 : decode cX3_turns 26 = .ok (.ifCond .eq 9, 3) := by decide +kernel
theorem dX3_turns_29 : decode cX3_turns 29 = .ok (.iinc 2 1, 3) := by decide +kernel
theorem dX3_turns_32 : decode cX3_turns 32 = .ok (.goto (-15), 3) := by decide +kernel
theorem dX3_turns_35 : decode cX3_turns 35 = .ok (.iload_n 2, 1) := by decide +kernel
theorem dX3_turns_36 : decode cX3_turns 36 = .ok (.ireturn, 1) := by decide +kernel
theorem dX3_latest_0 : decode cX3_latest 0 = .ok (.iload_n 1, 1) := by decide +kernel
theorem dX3_latest_1 : decode cX3_latest 1 = .ok (.tableswitch 42 0 2 #[27, 32, 37], 27) := by decide +kernel
theorem dX3_latest_28 : decode cX3_latest 28 = .ok (.aload_n 0, 1) := by decide +kernel
theorem dX3_latest_29 : decode cX3_latest 29 = .ok (.getfield 26, 3) := by decide +kernel
theorem dX3_latest_32 : decode cX3_latest 32 = .ok (.ireturn, 1) := by decide +kernel
theorem dX3_latest_33 : decode cX3_latest 33 = .ok (.aload_n 0, 1) := by decide +kernel
theorem dX3_latest_34 : decode cX3_latest 34 = .ok (.getfield 126, 3) := by decide +kernel
theorem dX3_latest_37 : decode cX3_latest 37 = .ok (.ireturn, 1) := by decide +kernel
theorem dX3_latest_38 : decode cX3_latest 38 = .ok (.aload_n 0, 1) := by decide +kernel
theorem dX3_latest_39 : decode cX3_latest 39 = .ok (.getfield 29, 3) := by decide +kernel
theorem dX3_latest_42 : decode cX3_latest 42 = .ok (.ireturn, 1) := by decide +kernel
theorem dX3_latest_43 : decode cX3_latest 43 = .ok (.new 40, 3) := by decide +kernel
theorem dX3_latest_46 : decode cX3_latest 46 = .ok (.dup, 1) := by decide +kernel
theorem dX3_latest_47 : decode cX3_latest 47 = .ok (.invokespecial 42, 3) := by decide +kernel
theorem dX3_latest_50 : decode cX3_latest 50 = .ok (.athrow, 1) := by decide +kernel
theorem dX3_clear_0 : decode cX3_clear 0 = .ok (.aload_n 0, 1) := by decide +kernel
theorem dX3_clear_1 : decode cX3_clear 1 = .ok (.iload_n 1, 1) := by decide +kernel
theorem dX3_clear_2 : decode cX3_clear 2 = .ok (.invokevirtual 32, 3) := by decide +kernel
theorem dX3_clear_5 : decode cX3_clear 5 = .ok (.astore_n 2, 1) := by decide +kernel
theorem dX3_clear_6 : decode cX3_clear 6 = .ok (.iconst 0, 1) := by decide +kernel
theorem dX3_clear_7 : decode cX3_clear 7 = .ok (.istore_n 3, 1) := by decide +kernel
theorem dX3_clear_8 : decode cX3_clear 8 = .ok (.iconst 0, 1) := by decide +kernel
theorem dX3_clear_9 : decode cX3_clear 9 = .ok (.istore 4, 2) := by decide +kernel
theorem dX3_clear_11 : decode cX3_clear 11 = .ok (.iload 4, 2) := by decide +kernel
theorem dX3_clear_13 : decode cX3_clear 13 = .ok (.bipush 64, 2) := by decide +kernel
theorem dX3_clear_15 : decode cX3_clear 15 = .ok (.if_icmp .ge 67, 3) := by decide +kernel
theorem dX3_clear_18 : decode cX3_clear 18 = .ok (.aload_n 0, 1) := by decide +kernel
theorem dX3_clear_19 : decode cX3_clear 19 = .ok (.iload 4, 2) := by decide +kernel
theorem dX3_clear_21 : decode cX3_clear 21 = .ok (.aload_n 2, 1) := by decide +kernel
theorem dX3_clear_22 : decode cX3_clear 22 = .ok (.invokevirtual 129, 3) := by decide +kernel
theorem dX3_clear_25 : decode cX3_clear 25 = .ok (.astore 5, 2) := by decide +kernel
theorem dX3_clear_27 : decode cX3_clear 27 = .ok (.aload 5, 2) := by decide +kernel
theorem dX3_clear_29 : decode cX3_clear 29 = .ok (.ifnull 47, 3) := by decide +kernel
theorem dX3_clear_32 : decode cX3_clear 32 = .ok (.aload 5, 2) := by decide +kernel
theorem dX3_clear_34 : decode cX3_clear 34 = .ok (.getfield 43, 3) := by decide +kernel
theorem dX3_clear_37 : decode cX3_clear 37 = .ok (.getfield 47, 3) := by decide +kernel
theorem dX3_clear_40 : decode cX3_clear 40 = .ok (.ifCond .le 36, 3) := by decide +kernel
theorem dX3_clear_43 : decode cX3_clear 43 = .ok (.iload_n 3, 1) := by decide +kernel
theorem dX3_clear_44 : decode cX3_clear 44 = .ok (.aload 5, 2) := by decide +kernel
theorem dX3_clear_46 : decode cX3_clear 46 = .ok (.getfield 43, 3) := by decide +kernel
theorem dX3_clear_49 : decode cX3_clear 49 = .ok (.getfield 47, 3) := by decide +kernel
theorem dX3_clear_52 : decode cX3_clear 52 = .ok (.iadd, 1) := by decide +kernel
theorem dX3_clear_53 : decode cX3_clear 53 = .ok (.istore_n 3, 1) := by decide +kernel
theorem dX3_clear_54 : decode cX3_clear 54 = .ok (.aload_n 0, 1) := by decide +kernel
theorem dX3_clear_55 : decode cX3_clear 55 = .ok (.aload 5, 2) := by decide +kernel
theorem dX3_clear_57 : decode cX3_clear 57 = .ok (.getfield 43, 3) := by decide +kernel
theorem dX3_clear_60 : decode cX3_clear 60 = .ok (.aload_n 0, 1) := by decide +kernel
theorem dX3_clear_61 : decode cX3_clear 61 = .ok (.getfield 133, 3) := by decide +kernel
theorem dX3_clear_64 : decode cX3_clear 64 = .ok (.invokevirtual 137, 3) := by decide +kernel
theorem dX3_clear_67 : decode cX3_clear 67 = .ok (.putfield 133, 3) := by decide +kernel
theorem dX3_clear_70 : decode cX3_clear 70 = .ok (.aload_n 0, 1) := by decide +kernel
theorem dX3_clear_71 : decode cX3_clear 71 = .ok (.aload 5, 2) := by decide +kernel
theorem dX3_clear_73 : decode cX3_clear 73 = .ok (.invokevirtual 141, 3) := by decide +kernel
theorem dX3_clear_76 : decode cX3_clear 76 = .ok (.iinc 4 1, 3) := by decide +kernel
theorem dX3_clear_79 : decode cX3_clear 79 = .ok (.goto (-68), 3) := by decide +kernel
theorem dX3_clear_82 : decode cX3_clear 82 = .ok (.aload_n 0, 1) := by decide +kernel
theorem dX3_clear_83 : decode cX3_clear 83 = .ok (.dup, 1) := by decide +kernel
theorem dX3_clear_84 : decode cX3_clear 84 = .ok (.getfield 113, 3) := by decide +kernel
theorem dX3_clear_87 : decode cX3_clear 87 = .ok (.iload_n 3, 1) := by decide +kernel
theorem dX3_clear_88 : decode cX3_clear 88 = .ok (.isub, 1) := by decide +kernel
theorem dX3_clear_89 : decode cX3_clear 89 = .ok (.putfield 113, 3) := by decide +kernel
theorem dX3_clear_92 : decode cX3_clear 92 = .ok (.aload_n 0, 1) := by decide +kernel
theorem dX3_clear_93 : decode cX3_clear 93 = .ok (.dup, 1) := by decide +kernel
theorem dX3_clear_94 : decode cX3_clear 94 = .ok (.getfield 144, 3) := by decide +kernel
theorem dX3_clear_97 : decode cX3_clear 97 = .ok (.iload_n 3, 1) := by decide +kernel
theorem dX3_clear_98 : decode cX3_clear 98 = .ok (.iadd, 1) := by decide +kernel
theorem dX3_clear_99 : decode cX3_clear 99 = .ok (.putfield 144, 3) := by decide +kernel
theorem dX3_clear_102 : decode cX3_clear 102 = .ok (.iload_n 3, 1) := by decide +kernel
theorem dX3_clear_103 : decode cX3_clear 103 = .ok (.ireturn, 1) := by decide +kernel
theorem dX3_hold_0 : decode cX3_hold 0 = .ok (.aload_n 0, 1) := by decide +kernel
theorem dX3_hold_1 : decode cX3_hold 1 = .ok (.iload_n 1, 1) := by decide +kernel
theorem dX3_hold_2 : decode cX3_hold 2 = .ok (.invokevirtual 79, 3) := by decide +kernel
theorem dX3_hold_5 : decode cX3_hold 5 = .ok (.astore_n 3, 1) := by decide +kernel
theorem dX3_hold_6 : decode cX3_hold 6 = .ok (.iload_n 2, 1) := by decide +kernel
theorem dX3_hold_7 : decode cX3_hold 7 = .ok (.invokestatic 123, 3) := by decide +kernel
theorem dX3_hold_10 : decode cX3_hold 10 = .ok (.ifCond .ne 11, 3) := by decide +kernel
theorem dX3_hold_13 : decode cX3_hold 13 = .ok (.new 40, 3) := by decide +kernel
theorem dX3_hold_16 : decode cX3_hold 16 = .ok (.dup, 1) := by decide +kernel
theorem dX3_hold_17 : decode cX3_hold 17 = .ok (.invokespecial 42, 3) := by decide +kernel
theorem dX3_hold_20 : decode cX3_hold 20 = .ok (.athrow, 1) := by decide +kernel
theorem dX3_hold_21 : decode cX3_hold 21 = .ok (.aload_n 3, 1) := by decide +kernel
theorem dX3_hold_22 : decode cX3_hold 22 = .ok (.aload_n 0, 1) := by decide +kernel
theorem dX3_hold_23 : decode cX3_hold 23 = .ok (.getfield 147, 3) := by decide +kernel
theorem dX3_hold_26 : decode cX3_hold 26 = .ok (.iload_n 2, 1) := by decide +kernel
theorem dX3_hold_27 : decode cX3_hold 27 = .ok (.iadd, 1) := by decide +kernel
theorem dX3_hold_28 : decode cX3_hold 28 = .ok (.putfield 150, 3) := by decide +kernel
theorem dX3_hold_31 : decode cX3_hold 31 = .ok (.aload_n 0, 1) := by decide +kernel
theorem dX3_hold_32 : decode cX3_hold 32 = .ok (.aload_n 0, 1) := by decide +kernel
theorem dX3_hold_33 : decode cX3_hold 33 = .ok (.getfield 153, 3) := by decide +kernel
theorem dX3_hold_36 : decode cX3_hold 36 = .ok (.aload_n 3, 1) := by decide +kernel
theorem dX3_hold_37 : decode cX3_hold 37 = .ok (.getfield 150, 3) := by decide +kernel
theorem dX3_hold_40 : decode cX3_hold 40 = .ok (.invokestatic 156, 3) := by decide +kernel
theorem dX3_hold_43 : decode cX3_hold 43 = .ok (.putfield 153, 3) := by decide +kernel
theorem dX3_hold_46 : decode cX3_hold 46 = .ok (.aload_n 0, 1) := by decide +kernel
theorem dX3_hold_47 : decode cX3_hold 47 = .ok (.aload_n 3, 1) := by decide +kernel
theorem dX3_hold_48 : decode cX3_hold 48 = .ok (.invokevirtual 141, 3) := by decide +kernel
theorem dX3_hold_51 : decode cX3_hold 51 = .ok (.return_, 1) := by decide +kernel
theorem dX3_child_0 : decode cX3_child 0 = .ok (.aload_n 0, 1) := by decide +kernel
theorem dX3_child_1 : decode cX3_child 1 = .ok (.iload_n 1, 1) := by decide +kernel
theorem dX3_child_2 : decode cX3_child 2 = .ok (.invokevirtual 32, 3) := by decide +kernel
theorem dX3_child_5 : decode cX3_child 5 = .ok (.iload_n 2, 1) := by decide +kernel
theorem dX3_child_6 : decode cX3_child 6 = .ok (.invokevirtual 162, 3) := by decide +kernel
theorem dX3_child_9 : decode cX3_child 9 = .ok (.astore_n 3, 1) := by decide +kernel
theorem dX3_child_10 : decode cX3_child 10 = .ok (.aload_n 3, 1) := by decide +kernel
theorem dX3_child_11 : decode cX3_child 11 = .ok (.ifnonnull 11, 3) := by decide +kernel
theorem dX3_child_14 : decode cX3_child 14 = .ok (.new 165, 3) := by decide +kernel
theorem dX3_child_17 : decode cX3_child 17 = .ok (.dup, 1) := by decide +kernel
theorem dX3_child_18 : decode cX3_child 18 = .ok (.invokespecial 167, 3) := by decide +kernel
theorem dX3_child_21 : decode cX3_child 21 = .ok (.athrow, 1) := by decide +kernel
theorem dX3_child_22 : decode cX3_child 22 = .ok (.aload_n 3, 1) := by decide +kernel
theorem dX3_child_23 : decode cX3_child 23 = .ok (.getfield 76, 3) := by decide +kernel
theorem dX3_child_26 : decode cX3_child 26 = .ok (.ireturn, 1) := by decide +kernel
theorem dX3_packet_0 : decode cX3_packet 0 = .ok (.aload_n 0, 1) := by decide +kernel
theorem dX3_packet_1 : decode cX3_packet 1 = .ok (.iload_n 1, 1) := by decide +kernel
theorem dX3_packet_2 : decode cX3_packet 2 = .ok (.invokevirtual 32, 3) := by decide +kernel
theorem dX3_packet_5 : decode cX3_packet 5 = .ok (.getfield 43, 3) := by decide +kernel
theorem dX3_packet_8 : decode cX3_packet 8 = .ok (.iload_n 2, 1) := by decide +kernel
theorem dX3_packet_9 : decode cX3_packet 9 = .ok (.invokevirtual 168, 3) := by decide +kernel
theorem dX3_packet_12 : decode cX3_packet 12 = .ok (.astore_n 3, 1) := by decide +kernel
theorem dX3_packet_13 : decode cX3_packet 13 = .ok (.aload_n 3, 1) := by decide +kernel
theorem dX3_packet_14 : decode cX3_packet 14 = .ok (.ifnonnull 11, 3) := by decide +kernel
theorem dX3_packet_17 : decode cX3_packet 17 = .ok (.new 165, 3) := by decide +kernel
theorem dX3_packet_20 : decode cX3_packet 20 = .ok (.dup, 1) := by decide +kernel
theorem dX3_packet_21 : decode cX3_packet 21 = .ok (.invokespecial 167, 3) := by decide +kernel
theorem dX3_packet_24 : decode cX3_packet 24 = .ok (.athrow, 1) := by decide +kernel
theorem dX3_packet_25 : decode cX3_packet 25 = .ok (.aload_n 3, 1) := by decide +kernel
theorem dX3_packet_26 : decode cX3_packet 26 = .ok (.getfield 172, 3) := by decide +kernel
theorem dX3_packet_29 : decode cX3_packet 29 = .ok (.ireturn, 1) := by decide +kernel
theorem dX3_sum_0 : decode cX3_sum 0 = .ok (.aload_n 0, 1) := by decide +kernel
theorem dX3_sum_1 : decode cX3_sum 1 = .ok (.iload_n 1, 1) := by decide +kernel
theorem dX3_sum_2 : decode cX3_sum 2 = .ok (.invokevirtual 32, 3) := by decide +kernel
theorem dX3_sum_5 : decode cX3_sum 5 = .ok (.astore_n 3, 1) := by decide +kernel
theorem dX3_sum_6 : decode cX3_sum 6 = .ok (.iload_n 2, 1) := by decide +kernel
theorem dX3_sum_7 : decode cX3_sum 7 = .ok (.tableswitch 50 0 3 #[29, 34, 39, 44], 29) := by decide +kernel
theorem dX3_sum_36 : decode cX3_sum 36 = .ok (.aload_n 3, 1) := by decide +kernel
theorem dX3_sum_37 : decode cX3_sum 37 = .ok (.getfield 96, 3) := by decide +kernel
theorem dX3_sum_40 : decode cX3_sum 40 = .ok (.lreturn, 1) := by decide +kernel
theorem dX3_sum_41 : decode cX3_sum 41 = .ok (.aload_n 3, 1) := by decide +kernel
theorem dX3_sum_42 : decode cX3_sum 42 = .ok (.getfield 92, 3) := by decide +kernel
theorem dX3_sum_45 : decode cX3_sum 45 = .ok (.lreturn, 1) := by decide +kernel
theorem dX3_sum_46 : decode cX3_sum 46 = .ok (.aload_n 3, 1) := by decide +kernel
theorem dX3_sum_47 : decode cX3_sum 47 = .ok (.getfield 177, 3) := by decide +kernel
theorem dX3_sum_50 : decode cX3_sum 50 = .ok (.lreturn, 1) := by decide +kernel
theorem dX3_sum_51 : decode cX3_sum 51 = .ok (.aload_n 0, 1) := by decide +kernel
theorem dX3_sum_52 : decode cX3_sum 52 = .ok (.aload_n 3, 1) := by decide +kernel
theorem dX3_sum_53 : decode cX3_sum 53 = .ok (.invokevirtual 180, 3) := by decide +kernel
theorem dX3_sum_56 : decode cX3_sum 56 = .ok (.lreturn, 1) := by decide +kernel
theorem dX3_sum_57 : decode cX3_sum 57 = .ok (.new 40, 3) := by decide +kernel
theorem dX3_sum_60 : decode cX3_sum 60 = .ok (.dup, 1) := by decide +kernel
theorem dX3_sum_61 : decode cX3_sum 61 = .ok (.invokespecial 42, 3) := by decide +kernel
theorem dX3_sum_64 : decode cX3_sum 64 = .ok (.athrow, 1) := by decide +kernel
theorem dX3_about_0 : decode cX3_about 0 = .ok (.aload_n 0, 1) := by decide +kernel
theorem dX3_about_1 : decode cX3_about 1 = .ok (.iload_n 1, 1) := by decide +kernel
theorem dX3_about_2 : decode cX3_about 2 = .ok (.invokevirtual 32, 3) := by decide +kernel
theorem dX3_about_5 : decode cX3_about 5 = .ok (.astore_n 3, 1) := by decide +kernel
theorem dX3_about_6 : decode cX3_about 6 = .ok (.iload_n 2, 1) := by decide +kernel
theorem dX3_about_7 : decode cX3_about 7 = .ok (.tableswitch 117 0 7 #[45, 64, 69, 74, 79, 85, 98, 112], 45) := by decide +kernel
theorem dX3_about_52 : decode cX3_about 52 = .ok (.aload_n 3, 1) := by decide +kernel
theorem dX3_about_53 : decode cX3_about 53 = .ok (.getfield 66, 3) := by decide +kernel
theorem dX3_about_56 : decode cX3_about 56 = .ok (.ifnonnull 7, 3) := by decide +kernel
theorem dX3_about_59 : decode cX3_about 59 = .ok (.iconst (-1), 1) := by decide +kernel
theorem dX3_about_60 : decode cX3_about 60 = .ok (.goto 10, 3) := by decide +kernel
theorem dX3_about_63 : decode cX3_about 63 = .ok (.aload_n 3, 1) := by decide +kernel
theorem dX3_about_64 : decode cX3_about 64 = .ok (.getfield 66, 3) := by decide +kernel
theorem dX3_about_67 : decode cX3_about 67 = .ok (.getfield 76, 3) := by decide +kernel
theorem dX3_about_70 : decode cX3_about 70 = .ok (.ireturn, 1) := by decide +kernel
theorem dX3_about_71 : decode cX3_about 71 = .ok (.aload_n 3, 1) := by decide +kernel
theorem dX3_about_72 : decode cX3_about 72 = .ok (.getfield 82, 3) := by decide +kernel
theorem dX3_about_75 : decode cX3_about 75 = .ok (.ireturn, 1) := by decide +kernel
theorem dX3_about_76 : decode cX3_about 76 = .ok (.aload_n 3, 1) := by decide +kernel
theorem dX3_about_77 : decode cX3_about 77 = .ok (.getfield 85, 3) := by decide +kernel
theorem dX3_about_80 : decode cX3_about 80 = .ok (.ireturn, 1) := by decide +kernel
theorem dX3_about_81 : decode cX3_about 81 = .ok (.aload_n 3, 1) := by decide +kernel
theorem dX3_about_82 : decode cX3_about 82 = .ok (.invokevirtual 184, 3) := by decide +kernel
theorem dX3_about_85 : decode cX3_about 85 = .ok (.ireturn, 1) := by decide +kernel
theorem dX3_about_86 : decode cX3_about 86 = .ok (.aload_n 0, 1) := by decide +kernel
theorem dX3_about_87 : decode cX3_about 87 = .ok (.aload_n 3, 1) := by decide +kernel
theorem dX3_about_88 : decode cX3_about 88 = .ok (.invokevirtual 187, 3) := by decide +kernel
theorem dX3_about_91 : decode cX3_about 91 = .ok (.ireturn, 1) := by decide +kernel
theorem dX3_about_92 : decode cX3_about 92 = .ok (.aload_n 3, 1) := by decide +kernel
theorem dX3_about_93 : decode cX3_about 93 = .ok (.getfield 99, 3) := by decide +kernel
theorem dX3_about_96 : decode cX3_about 96 = .ok (.ifCond .eq 7, 3) := by decide +kernel
theorem dX3_about_99 : decode cX3_about 99 = .ok (.iconst 1, 1) := by decide +kernel
theorem dX3_about_100 : decode cX3_about 100 = .ok (.goto 4, 3) := by decide +kernel
theorem dX3_about_103 : decode cX3_about 103 = .ok (.iconst 0, 1) := by decide +kernel
theorem dX3_about_104 : decode cX3_about 104 = .ok (.ireturn, 1) := by decide +kernel
theorem dX3_about_105 : decode cX3_about 105 = .ok (.iconst 0, 1) := by decide +kernel
theorem dX3_about_106 : decode cX3_about 106 = .ok (.aload_n 3, 1) := by decide +kernel
theorem dX3_about_107 : decode cX3_about 107 = .ok (.getfield 150, 3) := by decide +kernel
theorem dX3_about_110 : decode cX3_about 110 = .ok (.aload_n 0, 1) := by decide +kernel
theorem dX3_about_111 : decode cX3_about 111 = .ok (.getfield 147, 3) := by decide +kernel
theorem dX3_about_114 : decode cX3_about 114 = .ok (.isub, 1) := by decide +kernel
theorem dX3_about_115 : decode cX3_about 115 = .ok (.invokestatic 156, 3) := by decide +kernel
theorem dX3_about_118 : decode cX3_about 118 = .ok (.ireturn, 1) := by decide +kernel
theorem dX3_about_119 : decode cX3_about 119 = .ok (.aload_n 3, 1) := by decide +kernel
theorem dX3_about_120 : decode cX3_about 120 = .ok (.getfield 191, 3) := by decide +kernel
theorem dX3_about_123 : decode cX3_about 123 = .ok (.ireturn, 1) := by decide +kernel
theorem dX3_about_124 : decode cX3_about 124 = .ok (.new 40, 3) := by decide +kernel
theorem dX3_about_127 : decode cX3_about 127 = .ok (.dup, 1) := by decide +kernel
theorem dX3_about_128 : decode cX3_about 128 = .ok (.invokespecial 42, 3) := by decide +kernel
theorem dX3_about_131 : decode cX3_about 131 = .ok (.athrow, 1) := by decide +kernel
theorem dX3_count_0 : decode cX3_count 0 = .ok (.iload_n 1, 1) := by decide +kernel
theorem dX3_count_1 : decode cX3_count 1 = .ok (.tableswitch 60 0 4 #[35, 40, 45, 50, 55], 35) := by decide +kernel
theorem dX3_count_36 : decode cX3_count 36 = .ok (.aload_n 0, 1) := by decide +kernel
theorem dX3_count_37 : decode cX3_count 37 = .ok (.getfield 22, 3) := by decide +kernel
theorem dX3_count_40 : decode cX3_count 40 = .ok (.ireturn, 1) := by decide +kernel
theorem dX3_count_41 : decode cX3_count 41 = .ok (.aload_n 0, 1) := by decide +kernel
theorem dX3_count_42 : decode cX3_count 42 = .ok (.getfield 113, 3) := by decide +kernel
theorem dX3_count_45 : decode cX3_count 45 = .ok (.ireturn, 1) := by decide +kernel
theorem dX3_count_46 : decode cX3_count 46 = .ok (.aload_n 0, 1) := by decide +kernel
theorem dX3_count_47 : decode cX3_count 47 = .ok (.invokevirtual 194, 3) := by decide +kernel
theorem dX3_count_50 : decode cX3_count 50 = .ok (.ireturn, 1) := by decide +kernel
theorem dX3_count_51 : decode cX3_count 51 = .ok (.aload_n 0, 1) := by decide +kernel
theorem dX3_count_52 : decode cX3_count 52 = .ok (.getfield 147, 3) := by decide +kernel
theorem dX3_count_55 : decode cX3_count 55 = .ok (.ireturn, 1) := by decide +kernel
theorem dX3_count_56 : decode cX3_count 56 = .ok (.aload_n 0, 1) := by decide +kernel
theorem dX3_count_57 : decode cX3_count 57 = .ok (.getfield 144, 3) := by decide +kernel
theorem dX3_count_60 : decode cX3_count 60 = .ok (.ireturn, 1) := by decide +kernel
theorem dX3_count_61 : decode cX3_count 61 = .ok (.new 40, 3) := by decide +kernel
theorem dX3_count_64 : decode cX3_count 64 = .ok (.dup, 1) := by decide +kernel
theorem dX3_count_65 : decode cX3_count 65 = .ok (.invokespecial 42, 3) := by decide +kernel
theorem dX3_count_68 : decode cX3_count 68 = .ok (.athrow, 1) := by decide +kernel
theorem dX3_existing_0 : decode cX3_existing 0 = .ok (.iload_n 1, 1) := by decide +kernel
theorem dX3_existing_1 : decode cX3_existing 1 = .ok (.ifCond .lt 18, 3) := by decide +kernel
theorem dX3_existing_4 : decode cX3_existing 4 = .ok (.iload_n 1, 1) := by decide +kernel
theorem dX3_existing_5 : decode cX3_existing 5 = .ok (.bipush 64, 2) := by decide +kernel
theorem dX3_existing_7 : decode cX3_existing 7 = .ok (.if_icmp .ge 12, 3) := by decide +kernel
theorem dX3_existing_10 : decode cX3_existing 10 = .ok (.aload_n 0, 1) := by decide +kernel
theorem dX3_existing_11 : decode cX3_existing 11 = .ok (.getfield 18, 3) := by decide +kernel
theorem dX3_existing_14 : decode cX3_existing 14 = .ok (.iload_n 1, 1) := by decide +kernel
theorem dX3_existing_15 : decode cX3_existing 15 = .ok (.aaload, 1) := by decide +kernel
theorem dX3_existing_16 : decode cX3_existing 16 = .ok (.ifnonnull 11, 3) := by decide +kernel
theorem dX3_existing_19 : decode cX3_existing 19 = .ok (.new 165, 3) := by decide +kernel
theorem dX3_existing_22 : decode cX3_existing 22 = .ok (.dup, 1) := by decide +kernel
theorem dX3_existing_23 : decode cX3_existing 23 = .ok (.invokespecial 167, 3) := by decide +kernel
theorem dX3_existing_26 : decode cX3_existing 26 = .ok (.athrow, 1) := by decide +kernel
theorem dX3_existing_27 : decode cX3_existing 27 = .ok (.aload_n 0, 1) := by decide +kernel
theorem dX3_existing_28 : decode cX3_existing 28 = .ok (.getfield 18, 3) := by decide +kernel
theorem dX3_existing_31 : decode cX3_existing 31 = .ok (.iload_n 1, 1) := by decide +kernel
theorem dX3_existing_32 : decode cX3_existing 32 = .ok (.aaload, 1) := by decide +kernel
theorem dX3_existing_33 : decode cX3_existing 33 = .ok (.areturn, 1) := by decide +kernel
theorem dX3_existingBelowRoot_0 : decode cX3_existingBelowRoot 0 = .ok (.iload_n 1, 1) := by decide +kernel
theorem dX3_existingBelowRoot_1 : decode cX3_existingBelowRoot 1 = .ok (.ifCond .ne 11, 3) := by decide +kernel
theorem dX3_existingBelowRoot_4 : decode cX3_existingBelowRoot 4 = .ok (.new 165, 3) := by decide +kernel
theorem dX3_existingBelowRoot_7 : decode cX3_existingBelowRoot 7 = .ok (.dup, 1) := by decide +kernel
theorem dX3_existingBelowRoot_8 : decode cX3_existingBelowRoot 8 = .ok (.invokespecial 167, 3) := by decide +kernel
theorem dX3_existingBelowRoot_11 : decode cX3_existingBelowRoot 11 = .ok (.athrow, 1) := by decide +kernel
theorem dX3_existingBelowRoot_12 : decode cX3_existingBelowRoot 12 = .ok (.aload_n 0, 1) := by decide +kernel
theorem dX3_existingBelowRoot_13 : decode cX3_existingBelowRoot 13 = .ok (.iload_n 1, 1) := by decide +kernel
theorem dX3_existingBelowRoot_14 : decode cX3_existingBelowRoot 14 = .ok (.invokevirtual 32, 3) := by decide +kernel
theorem dX3_existingBelowRoot_17 : decode cX3_existingBelowRoot 17 = .ok (.areturn, 1) := by decide +kernel
theorem dX3_existingLeaf_0 : decode cX3_existingLeaf 0 = .ok (.aload_n 0, 1) := by decide +kernel
theorem dX3_existingLeaf_1 : decode cX3_existingLeaf 1 = .ok (.iload_n 1, 1) := by decide +kernel
theorem dX3_existingLeaf_2 : decode cX3_existingLeaf 2 = .ok (.invokevirtual 32, 3) := by decide +kernel
theorem dX3_existingLeaf_5 : decode cX3_existingLeaf 5 = .ok (.astore_n 2, 1) := by decide +kernel
theorem dX3_existingLeaf_6 : decode cX3_existingLeaf 6 = .ok (.aload_n 2, 1) := by decide +kernel
theorem dX3_existingLeaf_7 : decode cX3_existingLeaf 7 = .ok (.invokevirtual 69, 3) := by decide +kernel
theorem dX3_existingLeaf_10 : decode cX3_existingLeaf 10 = .ok (.ifCond .ne 11, 3) := by decide +kernel
theorem dX3_existingLeaf_13 : decode cX3_existingLeaf 13 = .ok (.new 52, 3) := by decide +kernel
theorem dX3_existingLeaf_16 : decode cX3_existingLeaf 16 = .ok (.dup, 1) := by decide +kernel
theorem dX3_existingLeaf_17 : decode cX3_existingLeaf 17 = .ok (.invokespecial 54, 3) := by decide +kernel
theorem dX3_existingLeaf_20 : decode cX3_existingLeaf 20 = .ok (.athrow, 1) := by decide +kernel
theorem dX3_existingLeaf_21 : decode cX3_existingLeaf 21 = .ok (.aload_n 2, 1) := by decide +kernel
theorem dX3_existingLeaf_22 : decode cX3_existingLeaf 22 = .ok (.areturn, 1) := by decide +kernel
theorem dX3_classInside_0 : decode cX3_classInside 0 = .ok (.iload_n 1, 1) := by decide +kernel
theorem dX3_classInside_1 : decode cX3_classInside 1 = .ok (.ifCond .lt 9, 3) := by decide +kernel
theorem dX3_classInside_4 : decode cX3_classInside 4 = .ok (.iload_n 1, 1) := by decide +kernel
theorem dX3_classInside_5 : decode cX3_classInside 5 = .ok (.bipush 64, 2) := by decide +kernel
theorem dX3_classInside_7 : decode cX3_classInside 7 = .ok (.if_icmp .lt 5, 3) := by decide +kernel
theorem dX3_classInside_10 : decode cX3_classInside 10 = .ok (.aconst_null, 1) := by decide +kernel
theorem dX3_classInside_11 : decode cX3_classInside 11 = .ok (.areturn, 1) := by decide +kernel
theorem dX3_classInside_12 : decode cX3_classInside 12 = .ok (.aload_n 0, 1) := by decide +kernel
theorem dX3_classInside_13 : decode cX3_classInside 13 = .ok (.getfield 18, 3) := by decide +kernel
theorem dX3_classInside_16 : decode cX3_classInside 16 = .ok (.iload_n 1, 1) := by decide +kernel
theorem dX3_classInside_17 : decode cX3_classInside 17 = .ok (.aaload, 1) := by decide +kernel
theorem dX3_classInside_18 : decode cX3_classInside 18 = .ok (.astore_n 3, 1) := by decide +kernel
theorem dX3_classInside_19 : decode cX3_classInside 19 = .ok (.aload_n 3, 1) := by decide +kernel
theorem dX3_classInside_20 : decode cX3_classInside 20 = .ok (.ifnull 15, 3) := by decide +kernel
theorem dX3_classInside_23 : decode cX3_classInside 23 = .ok (.aload_n 3, 1) := by decide +kernel
theorem dX3_classInside_24 : decode cX3_classInside 24 = .ok (.aload_n 2, 1) := by decide +kernel
theorem dX3_classInside_25 : decode cX3_classInside 25 = .ok (.invokevirtual 88, 3) := by decide +kernel
theorem dX3_classInside_28 : decode cX3_classInside 28 = .ok (.ifCond .eq 7, 3) := by decide +kernel
theorem dX3_classInside_31 : decode cX3_classInside 31 = .ok (.aload_n 3, 1) := by decide +kernel
theorem dX3_classInside_32 : decode cX3_classInside 32 = .ok (.goto 4, 3) := by decide +kernel
theorem dX3_classInside_35 : decode cX3_classInside 35 = .ok (.aconst_null, 1) := by decide +kernel
theorem dX3_classInside_36 : decode cX3_classInside 36 = .ok (.areturn, 1) := by decide +kernel
theorem dX3_isWeight_0 : decode cX3_isWeight 0 = .ok (.iload_n 0, 1) := by decide +kernel
theorem dX3_isWeight_1 : decode cX3_isWeight 1 = .ok (.iconst 1, 1) := by decide +kernel
theorem dX3_isWeight_2 : decode cX3_isWeight 2 = .ok (.if_icmp .lt 14, 3) := by decide +kernel
theorem dX3_isWeight_5 : decode cX3_isWeight 5 = .ok (.iload_n 0, 1) := by decide +kernel
theorem dX3_isWeight_6 : decode cX3_isWeight 6 = .ok (.sipush 1000, 3) := by decide +kernel
theorem dX3_isWeight_9 : decode cX3_isWeight 9 = .ok (.if_icmp .gt 7, 3) := by decide +kernel
theorem dX3_isWeight_12 : decode cX3_isWeight 12 = .ok (.iconst 1, 1) := by decide +kernel
theorem dX3_isWeight_13 : decode cX3_isWeight 13 = .ok (.goto 4, 3) := by decide +kernel
theorem dX3_isWeight_16 : decode cX3_isWeight 16 = .ok (.iconst 0, 1) := by decide +kernel
theorem dX3_isWeight_17 : decode cX3_isWeight 17 = .ok (.ireturn, 1) := by decide +kernel
theorem dX3_isLength_0 : decode cX3_isLength 0 = .ok (.iload_n 0, 1) := by decide +kernel
theorem dX3_isLength_1 : decode cX3_isLength 1 = .ok (.iconst 1, 1) := by decide +kernel
theorem dX3_isLength_2 : decode cX3_isLength 2 = .ok (.if_icmp .lt 14, 3) := by decide +kernel
theorem dX3_isLength_5 : decode cX3_isLength 5 = .ok (.iload_n 0, 1) := by decide +kernel
theorem dX3_isLength_6 : decode cX3_isLength 6 = .ok (.sipush 2000, 3) := by decide +kernel
theorem dX3_isLength_9 : decode cX3_isLength 9 = .ok (.if_icmp .gt 7, 3) := by decide +kernel
theorem dX3_isLength_12 : decode cX3_isLength 12 = .ok (.iconst 1, 1) := by decide +kernel
theorem dX3_isLength_13 : decode cX3_isLength 13 = .ok (.goto 4, 3) := by decide +kernel
theorem dX3_isLength_16 : decode cX3_isLength 16 = .ok (.iconst 0, 1) := by decide +kernel
theorem dX3_isLength_17 : decode cX3_isLength 17 = .ok (.ireturn, 1) := by decide +kernel
theorem dX3_isNumberOfTurns_0 : decode cX3_isNumberOfTurns 0 = .ok (.iload_n 0, 1) := by decide +kernel
theorem dX3_isNumberOfTurns_1 : decode cX3_isNumberOfTurns 1 = .ok (.ifCond .lt 14, 3) := by decide +kernel
theorem dX3_isNumberOfTurns_4 : decode cX3_isNumberOfTurns 4 = .ok (.iload_n 0, 1) := by decide +kernel
theorem dX3_isNumberOfTurns_5 : decode cX3_isNumberOfTurns 5 = .ok (.sipush 1000, 3) := by decide +kernel
theorem dX3_isNumberOfTurns_8 : decode cX3_isNumberOfTurns 8 = .ok (.if_icmp .gt 7, 3) := by decide +kernel
theorem dX3_isNumberOfTurns_11 : decode cX3_isNumberOfTurns 11 = .ok (.iconst 1, 1) := by decide +kernel
theorem dX3_isNumberOfTurns_12 : decode cX3_isNumberOfTurns 12 = .ok (.goto 4, 3) := by decide +kernel
theorem dX3_isNumberOfTurns_15 : decode cX3_isNumberOfTurns 15 = .ok (.iconst 0, 1) := by decide +kernel
theorem dX3_isNumberOfTurns_16 : decode cX3_isNumberOfTurns 16 = .ok (.ireturn, 1) := by decide +kernel
theorem dX3_leastFreeNumber_0 : decode cX3_leastFreeNumber 0 = .ok (.iconst 0, 1) := by decide +kernel
theorem dX3_leastFreeNumber_1 : decode cX3_leastFreeNumber 1 = .ok (.istore_n 1, 1) := by decide +kernel
theorem dX3_leastFreeNumber_2 : decode cX3_leastFreeNumber 2 = .ok (.iload_n 1, 1) := by decide +kernel
theorem dX3_leastFreeNumber_3 : decode cX3_leastFreeNumber 3 = .ok (.bipush 64, 2) := by decide +kernel
theorem dX3_leastFreeNumber_5 : decode cX3_leastFreeNumber 5 = .ok (.if_icmp .ge 20, 3) := by decide +kernel
theorem dX3_leastFreeNumber_8 : decode cX3_leastFreeNumber 8 = .ok (.aload_n 0, 1) := by decide +kernel
theorem dX3_leastFreeNumber_9 : decode cX3_leastFreeNumber 9 = .ok (.getfield 18, 3) := by decide +kernel
theorem dX3_leastFreeNumber_12 : decode cX3_leastFreeNumber 12 = .ok (.iload_n 1, 1) := by decide +kernel
theorem dX3_leastFreeNumber_13 : decode cX3_leastFreeNumber 13 = .ok (.aaload, 1) := by decide +kernel
theorem dX3_leastFreeNumber_14 : decode cX3_leastFreeNumber 14 = .ok (.ifnonnull 5, 3) := by decide +kernel
theorem dX3_leastFreeNumber_17 : decode cX3_leastFreeNumber 17 = .ok (.iload_n 1, 1) := by decide +kernel
theorem dX3_leastFreeNumber_18 : decode cX3_leastFreeNumber 18 = .ok (.ireturn, 1) := by decide +kernel
theorem dX3_leastFreeNumber_19 : decode cX3_leastFreeNumber 19 = .ok (.iinc 1 1, 3) := by decide +kernel
theorem dX3_leastFreeNumber_22 : decode cX3_leastFreeNumber 22 = .ok (.goto (-20), 3) := by decide +kernel
theorem dX3_leastFreeNumber_25 : decode cX3_leastFreeNumber 25 = .ok (.iconst (-1), 1) := by decide +kernel
theorem dX3_leastFreeNumber_26 : decode cX3_leastFreeNumber 26 = .ok (.ireturn, 1) := by decide +kernel
theorem dX3_takeOrDrop_0 : decode cX3_takeOrDrop 0 = .ok (.aload_n 1, 1) := by decide +kernel
theorem dX3_takeOrDrop_1 : decode cX3_takeOrDrop 1 = .ok (.getfield 43, 3) := by decide +kernel
theorem dX3_takeOrDrop_4 : decode cX3_takeOrDrop 4 = .ok (.getfield 47, 3) := by decide +kernel
theorem dX3_takeOrDrop_7 : decode cX3_takeOrDrop 7 = .ok (.aload_n 1, 1) := by decide +kernel
theorem dX3_takeOrDrop_8 : decode cX3_takeOrDrop 8 = .ok (.getfield 191, 3) := by decide +kernel
theorem dX3_takeOrDrop_11 : decode cX3_takeOrDrop 11 = .ok (.if_icmp .lt 15, 3) := by decide +kernel
theorem dX3_takeOrDrop_14 : decode cX3_takeOrDrop 14 = .ok (.aload_n 0, 1) := by decide +kernel
theorem dX3_takeOrDrop_15 : decode cX3_takeOrDrop 15 = .ok (.dup, 1) := by decide +kernel
theorem dX3_takeOrDrop_16 : decode cX3_takeOrDrop 16 = .ok (.getfield 144, 3) := by decide +kernel
theorem dX3_takeOrDrop_19 : decode cX3_takeOrDrop 19 = .ok (.iconst 1, 1) := by decide +kernel
theorem dX3_takeOrDrop_20 : decode cX3_takeOrDrop 20 = .ok (.iadd, 1) := by decide +kernel
theorem dX3_takeOrDrop_21 : decode cX3_takeOrDrop 21 = .ok (.putfield 144, 3) := by decide +kernel
theorem dX3_takeOrDrop_24 : decode cX3_takeOrDrop 24 = .ok (.iconst 0, 1) := by decide +kernel
theorem dX3_takeOrDrop_25 : decode cX3_takeOrDrop 25 = .ok (.ireturn, 1) := by decide +kernel
theorem dX3_takeOrDrop_26 : decode cX3_takeOrDrop 26 = .ok (.aload_n 0, 1) := by decide +kernel
theorem dX3_takeOrDrop_27 : decode cX3_takeOrDrop 27 = .ok (.invokevirtual 197, 3) := by decide +kernel
theorem dX3_takeOrDrop_30 : decode cX3_takeOrDrop 30 = .ok (.astore 4, 2) := by decide +kernel
theorem dX3_takeOrDrop_32 : decode cX3_takeOrDrop 32 = .ok (.aload 4, 2) := by decide +kernel
theorem dX3_takeOrDrop_34 : decode cX3_takeOrDrop 34 = .ok (.iload_n 2, 1) := by decide +kernel
theorem dX3_takeOrDrop_35 : decode cX3_takeOrDrop 35 = .ok (.putfield 172, 3) := by decide +kernel
theorem dX3_takeOrDrop_38 : decode cX3_takeOrDrop 38 = .ok (.aload 4, 2) := by decide +kernel
theorem dX3_takeOrDrop_40 : decode cX3_takeOrDrop 40 = .ok (.iload_n 3, 1) := by decide +kernel
theorem dX3_takeOrDrop_41 : decode cX3_takeOrDrop 41 = .ok (.putfield 201, 3) := by decide +kernel
theorem dX3_takeOrDrop_44 : decode cX3_takeOrDrop 44 = .ok (.aload_n 1, 1) := by decide +kernel
theorem dX3_takeOrDrop_45 : decode cX3_takeOrDrop 45 = .ok (.getfield 43, 3) := by decide +kernel
theorem dX3_takeOrDrop_48 : decode cX3_takeOrDrop 48 = .ok (.aload 4, 2) := by decide +kernel
theorem dX3_takeOrDrop_50 : decode cX3_takeOrDrop 50 = .ok (.invokevirtual 204, 3) := by decide +kernel
theorem dX3_takeOrDrop_53 : decode cX3_takeOrDrop 53 = .ok (.aload_n 0, 1) := by decide +kernel
theorem dX3_takeOrDrop_54 : decode cX3_takeOrDrop 54 = .ok (.dup, 1) := by decide +kernel
theorem dX3_takeOrDrop_55 : decode cX3_takeOrDrop 55 = .ok (.getfield 113, 3) := by decide +kernel
theorem dX3_takeOrDrop_58 : decode cX3_takeOrDrop 58 = .ok (.iconst 1, 1) := by decide +kernel
theorem dX3_takeOrDrop_59 : decode cX3_takeOrDrop 59 = .ok (.iadd, 1) := by decide +kernel
theorem dX3_takeOrDrop_60 : decode cX3_takeOrDrop 60 = .ok (.putfield 113, 3) := by decide +kernel
theorem dX3_takeOrDrop_63 : decode cX3_takeOrDrop 63 = .ok (.aload_n 0, 1) := by decide +kernel
theorem dX3_takeOrDrop_64 : decode cX3_takeOrDrop 64 = .ok (.aload_n 1, 1) := by decide +kernel
theorem dX3_takeOrDrop_65 : decode cX3_takeOrDrop 65 = .ok (.invokevirtual 141, 3) := by decide +kernel
theorem dX3_takeOrDrop_68 : decode cX3_takeOrDrop 68 = .ok (.iconst 1, 1) := by decide +kernel
theorem dX3_takeOrDrop_69 : decode cX3_takeOrDrop 69 = .ok (.ireturn, 1) := by decide +kernel
theorem dX3_unusedPacket_0 : decode cX3_unusedPacket 0 = .ok (.aload_n 0, 1) := by decide +kernel
theorem dX3_unusedPacket_1 : decode cX3_unusedPacket 1 = .ok (.getfield 133, 3) := by decide +kernel
theorem dX3_unusedPacket_4 : decode cX3_unusedPacket 4 = .ok (.ifnonnull 11, 3) := by decide +kernel
theorem dX3_unusedPacket_7 : decode cX3_unusedPacket 7 = .ok (.new 173, 3) := by decide +kernel
theorem dX3_unusedPacket_10 : decode cX3_unusedPacket 10 = .ok (.dup, 1) := by decide +kernel
theorem dX3_unusedPacket_11 : decode cX3_unusedPacket 11 = .ok (.invokespecial 208, 3) := by decide +kernel
theorem dX3_unusedPacket_14 : decode cX3_unusedPacket 14 = .ok (.areturn, 1) := by decide +kernel
theorem dX3_unusedPacket_15 : decode cX3_unusedPacket 15 = .ok (.aload_n 0, 1) := by decide +kernel
theorem dX3_unusedPacket_16 : decode cX3_unusedPacket 16 = .ok (.getfield 133, 3) := by decide +kernel
theorem dX3_unusedPacket_19 : decode cX3_unusedPacket 19 = .ok (.astore_n 1, 1) := by decide +kernel
theorem dX3_unusedPacket_20 : decode cX3_unusedPacket 20 = .ok (.aload_n 0, 1) := by decide +kernel
theorem dX3_unusedPacket_21 : decode cX3_unusedPacket 21 = .ok (.aload_n 1, 1) := by decide +kernel
theorem dX3_unusedPacket_22 : decode cX3_unusedPacket 22 = .ok (.getfield 209, 3) := by decide +kernel
theorem dX3_unusedPacket_25 : decode cX3_unusedPacket 25 = .ok (.putfield 133, 3) := by decide +kernel
theorem dX3_unusedPacket_28 : decode cX3_unusedPacket 28 = .ok (.aload_n 1, 1) := by decide +kernel
theorem dX3_unusedPacket_29 : decode cX3_unusedPacket 29 = .ok (.areturn, 1) := by decide +kernel
theorem dX3_takeTurn_0 : decode cX3_takeTurn 0 = .ok (.aload_n 0, 1) := by decide +kernel
theorem dX3_takeTurn_1 : decode cX3_takeTurn 1 = .ok (.invokevirtual 212, 3) := by decide +kernel
theorem dX3_takeTurn_4 : decode cX3_takeTurn 4 = .ok (.astore_n 1, 1) := by decide +kernel
theorem dX3_takeTurn_5 : decode cX3_takeTurn 5 = .ok (.aload_n 1, 1) := by decide +kernel
theorem dX3_takeTurn_6 : decode cX3_takeTurn 6 = .ok (.getfield 43, 3) := by decide +kernel
theorem dX3_takeTurn_9 : decode cX3_takeTurn 9 = .ok (.invokevirtual 216, 3) := by decide +kernel
theorem dX3_takeTurn_12 : decode cX3_takeTurn 12 = .ok (.astore_n 2, 1) := by decide +kernel
theorem dX3_takeTurn_13 : decode cX3_takeTurn 13 = .ok (.aload_n 2, 1) := by decide +kernel
theorem dX3_takeTurn_14 : decode cX3_takeTurn 14 = .ok (.ifnonnull 5, 3) := by decide +kernel
theorem dX3_takeTurn_17 : decode cX3_takeTurn 17 = .ok (.iconst 0, 1) := by decide +kernel
theorem dX3_takeTurn_18 : decode cX3_takeTurn 18 = .ok (.ireturn, 1) := by decide +kernel
theorem dX3_takeTurn_19 : decode cX3_takeTurn 19 = .ok (.aload_n 0, 1) := by decide +kernel
theorem dX3_takeTurn_20 : decode cX3_takeTurn 20 = .ok (.dup, 1) := by decide +kernel
theorem dX3_takeTurn_21 : decode cX3_takeTurn 21 = .ok (.getfield 113, 3) := by decide +kernel
theorem dX3_takeTurn_24 : decode cX3_takeTurn 24 = .ok (.iconst 1, 1) := by decide +kernel
theorem dX3_takeTurn_25 : decode cX3_takeTurn 25 = .ok (.isub, 1) := by decide +kernel
theorem dX3_takeTurn_26 : decode cX3_takeTurn 26 = .ok (.putfield 113, 3) := by decide +kernel
theorem dX3_takeTurn_29 : decode cX3_takeTurn 29 = .ok (.aload_n 0, 1) := by decide +kernel
theorem dX3_takeTurn_30 : decode cX3_takeTurn 30 = .ok (.dup, 1) := by decide +kernel
theorem dX3_takeTurn_31 : decode cX3_takeTurn 31 = .ok (.getfield 147, 3) := by decide +kernel
theorem dX3_takeTurn_34 : decode cX3_takeTurn 34 = .ok (.iconst 1, 1) := by decide +kernel
theorem dX3_takeTurn_35 : decode cX3_takeTurn 35 = .ok (.iadd, 1) := by decide +kernel
theorem dX3_takeTurn_36 : decode cX3_takeTurn 36 = .ok (.putfield 147, 3) := by decide +kernel
theorem dX3_takeTurn_39 : decode cX3_takeTurn 39 = .ok (.aload_n 0, 1) := by decide +kernel
theorem dX3_takeTurn_40 : decode cX3_takeTurn 40 = .ok (.aload_n 1, 1) := by decide +kernel
theorem dX3_takeTurn_41 : decode cX3_takeTurn 41 = .ok (.getfield 76, 3) := by decide +kernel
theorem dX3_takeTurn_44 : decode cX3_takeTurn 44 = .ok (.putfield 26, 3) := by decide +kernel
theorem dX3_takeTurn_47 : decode cX3_takeTurn 47 = .ok (.aload_n 0, 1) := by decide +kernel
theorem dX3_takeTurn_48 : decode cX3_takeTurn 48 = .ok (.aload_n 2, 1) := by decide +kernel
theorem dX3_takeTurn_49 : decode cX3_takeTurn 49 = .ok (.getfield 172, 3) := by decide +kernel
theorem dX3_takeTurn_52 : decode cX3_takeTurn 52 = .ok (.putfield 126, 3) := by decide +kernel
theorem dX3_takeTurn_55 : decode cX3_takeTurn 55 = .ok (.aload_n 0, 1) := by decide +kernel
theorem dX3_takeTurn_56 : decode cX3_takeTurn 56 = .ok (.aload_n 2, 1) := by decide +kernel
theorem dX3_takeTurn_57 : decode cX3_takeTurn 57 = .ok (.getfield 201, 3) := by decide +kernel
theorem dX3_takeTurn_60 : decode cX3_takeTurn 60 = .ok (.putfield 29, 3) := by decide +kernel
theorem dX3_takeTurn_63 : decode cX3_takeTurn 63 = .ok (.aload_n 1, 1) := by decide +kernel
theorem dX3_takeTurn_64 : decode cX3_takeTurn 64 = .ok (.astore_n 3, 1) := by decide +kernel
theorem dX3_takeTurn_65 : decode cX3_takeTurn 65 = .ok (.aload_n 3, 1) := by decide +kernel
theorem dX3_takeTurn_66 : decode cX3_takeTurn 66 = .ok (.ifnull 19, 3) := by decide +kernel
theorem dX3_takeTurn_69 : decode cX3_takeTurn 69 = .ok (.aload_n 3, 1) := by decide +kernel
theorem dX3_takeTurn_70 : decode cX3_takeTurn 70 = .ok (.aload_n 2, 1) := by decide +kernel
theorem dX3_takeTurn_71 : decode cX3_takeTurn 71 = .ok (.getfield 201, 3) := by decide +kernel
theorem dX3_takeTurn_74 : decode cX3_takeTurn 74 = .ok (.invokevirtual 219, 3) := by decide +kernel
theorem dX3_takeTurn_77 : decode cX3_takeTurn 77 = .ok (.aload_n 3, 1) := by decide +kernel
theorem dX3_takeTurn_78 : decode cX3_takeTurn 78 = .ok (.getfield 66, 3) := by decide +kernel
theorem dX3_takeTurn_81 : decode cX3_takeTurn 81 = .ok (.astore_n 3, 1) := by decide +kernel
theorem dX3_takeTurn_82 : decode cX3_takeTurn 82 = .ok (.goto (-17), 3) := by decide +kernel
theorem dX3_takeTurn_85 : decode cX3_takeTurn 85 = .ok (.aload_n 2, 1) := by decide +kernel
theorem dX3_takeTurn_86 : decode cX3_takeTurn 86 = .ok (.aload_n 0, 1) := by decide +kernel
theorem dX3_takeTurn_87 : decode cX3_takeTurn 87 = .ok (.getfield 133, 3) := by decide +kernel
theorem dX3_takeTurn_90 : decode cX3_takeTurn 90 = .ok (.putfield 209, 3) := by decide +kernel
theorem dX3_takeTurn_93 : decode cX3_takeTurn 93 = .ok (.aload_n 0, 1) := by decide +kernel
theorem dX3_takeTurn_94 : decode cX3_takeTurn 94 = .ok (.aload_n 2, 1) := by decide +kernel
theorem dX3_takeTurn_95 : decode cX3_takeTurn 95 = .ok (.putfield 133, 3) := by decide +kernel
theorem dX3_takeTurn_98 : decode cX3_takeTurn 98 = .ok (.aload_n 0, 1) := by decide +kernel
theorem dX3_takeTurn_99 : decode cX3_takeTurn 99 = .ok (.invokevirtual 223, 3) := by decide +kernel
theorem dX3_takeTurn_102 : decode cX3_takeTurn 102 = .ok (.aload_n 0, 1) := by decide +kernel
theorem dX3_takeTurn_103 : decode cX3_takeTurn 103 = .ok (.aload_n 1, 1) := by decide +kernel
theorem dX3_takeTurn_104 : decode cX3_takeTurn 104 = .ok (.invokevirtual 141, 3) := by decide +kernel
theorem dX3_takeTurn_107 : decode cX3_takeTurn 107 = .ok (.iconst 1, 1) := by decide +kernel
theorem dX3_takeTurn_108 : decode cX3_takeTurn 108 = .ok (.ireturn, 1) := by decide +kernel
theorem dX3_goDown_0 : decode cX3_goDown 0 = .ok (.aload_n 0, 1) := by decide +kernel
theorem dX3_goDown_1 : decode cX3_goDown 1 = .ok (.getfield 14, 3) := by decide +kernel
theorem dX3_goDown_4 : decode cX3_goDown 4 = .ok (.astore_n 1, 1) := by decide +kernel
theorem dX3_goDown_5 : decode cX3_goDown 5 = .ok (.aload_n 0, 1) := by decide +kernel
theorem dX3_goDown_6 : decode cX3_goDown 6 = .ok (.getfield 14, 3) := by decide +kernel
theorem dX3_goDown_9 : decode cX3_goDown 9 = .ok (.invokevirtual 226, 3) := by decide +kernel
theorem dX3_goDown_12 : decode cX3_goDown 12 = .ok (.astore_n 2, 1) := by decide +kernel
theorem dX3_goDown_13 : decode cX3_goDown 13 = .ok (.aload_n 2, 1) := by decide +kernel
theorem dX3_goDown_14 : decode cX3_goDown 14 = .ok (.ifnull 21, 3) := by decide +kernel
theorem dX3_goDown_17 : decode cX3_goDown 17 = .ok (.aload_n 1, 1) := by decide +kernel
theorem dX3_goDown_18 : decode cX3_goDown 18 = .ok (.aload_n 2, 1) := by decide +kernel
theorem dX3_goDown_19 : decode cX3_goDown 19 = .ok (.getfield 96, 3) := by decide +kernel
theorem dX3_goDown_22 : decode cX3_goDown 22 = .ok (.putfield 92, 3) := by decide +kernel
theorem dX3_goDown_25 : decode cX3_goDown 25 = .ok (.aload_n 2, 1) := by decide +kernel
theorem dX3_goDown_26 : decode cX3_goDown 26 = .ok (.astore_n 1, 1) := by decide +kernel
theorem dX3_goDown_27 : decode cX3_goDown 27 = .ok (.aload_n 2, 1) := by decide +kernel
theorem dX3_goDown_28 : decode cX3_goDown 28 = .ok (.invokevirtual 226, 3) := by decide +kernel
theorem dX3_goDown_31 : decode cX3_goDown 31 = .ok (.astore_n 2, 1) := by decide +kernel
theorem dX3_goDown_32 : decode cX3_goDown 32 = .ok (.goto (-19), 3) := by decide +kernel
theorem dX3_goDown_35 : decode cX3_goDown 35 = .ok (.aload_n 1, 1) := by decide +kernel
theorem dX3_goDown_36 : decode cX3_goDown 36 = .ok (.areturn, 1) := by decide +kernel
theorem dX3_endHolds_0 : decode cX3_endHolds 0 = .ok (.aload_n 0, 1) := by decide +kernel
theorem dX3_endHolds_1 : decode cX3_endHolds 1 = .ok (.getfield 147, 3) := by decide +kernel
theorem dX3_endHolds_4 : decode cX3_endHolds 4 = .ok (.aload_n 0, 1) := by decide +kernel
theorem dX3_endHolds_5 : decode cX3_endHolds 5 = .ok (.getfield 153, 3) := by decide +kernel
theorem dX3_endHolds_8 : decode cX3_endHolds 8 = .ok (.if_icmp .le 4, 3) := by decide +kernel
theorem dX3_endHolds_11 : decode cX3_endHolds 11 = .ok (.return_, 1) := by decide +kernel
theorem dX3_endHolds_12 : decode cX3_endHolds 12 = .ok (.iconst 0, 1) := by decide +kernel
theorem dX3_endHolds_13 : decode cX3_endHolds 13 = .ok (.istore_n 1, 1) := by decide +kernel
theorem dX3_endHolds_14 : decode cX3_endHolds 14 = .ok (.iload_n 1, 1) := by decide +kernel
theorem dX3_endHolds_15 : decode cX3_endHolds 15 = .ok (.bipush 64, 2) := by decide +kernel
theorem dX3_endHolds_17 : decode cX3_endHolds 17 = .ok (.if_icmp .ge 36, 3) := by decide +kernel
theorem dX3_endHolds_20 : decode cX3_endHolds 20 = .ok (.aload_n 0, 1) := by decide +kernel
theorem dX3_endHolds_21 : decode cX3_endHolds 21 = .ok (.getfield 18, 3) := by decide +kernel
theorem dX3_endHolds_24 : decode cX3_endHolds 24 = .ok (.iload_n 1, 1) := by decide +kernel
theorem dX3_endHolds_25 : decode cX3_endHolds 25 = .ok (.aaload, 1) := by decide +kernel
theorem dX3_endHolds_26 : decode cX3_endHolds 26 = .ok (.astore_n 2, 1) := by decide +kernel
theorem dX3_endHolds_27 : decode cX3_endHolds 27 = .ok (.aload_n 2, 1) := by decide +kernel
theorem dX3_endHolds_28 : decode cX3_endHolds 28 = .ok (.ifnull 19, 3) := by decide +kernel
theorem dX3_endHolds_31 : decode cX3_endHolds 31 = .ok (.aload_n 2, 1) := by decide +kernel
theorem dX3_endHolds_32 : decode cX3_endHolds 32 = .ok (.getfield 150, 3) := by decide +kernel
theorem dX3_endHolds_35 : decode cX3_endHolds 35 = .ok (.aload_n 0, 1) := by decide +kernel
theorem dX3_endHolds_36 : decode cX3_endHolds 36 = .ok (.getfield 147, 3) := by decide +kernel
theorem dX3_endHolds_39 : decode cX3_endHolds 39 = .ok (.if_icmp .ne 8, 3) := by decide +kernel
theorem dX3_endHolds_42 : decode cX3_endHolds 42 = .ok (.aload_n 0, 1) := by decide +kernel
theorem dX3_endHolds_43 : decode cX3_endHolds 43 = .ok (.aload_n 2, 1) := by decide +kernel
theorem dX3_endHolds_44 : decode cX3_endHolds 44 = .ok (.invokevirtual 141, 3) := by decide +kernel
theorem dX3_endHolds_47 : decode cX3_endHolds 47 = .ok (.iinc 1 1, 3) := by decide +kernel
theorem dX3_endHolds_50 : decode cX3_endHolds 50 = .ok (.goto (-36), 3) := by decide +kernel
theorem dX3_endHolds_53 : decode cX3_endHolds 53 = .ok (.return_, 1) := by decide +kernel
theorem dX3_carryOpenness_0 : decode cX3_carryOpenness 0 = .ok (.aload_n 2, 1) := by decide +kernel
theorem dX3_carryOpenness_1 : decode cX3_carryOpenness 1 = .ok (.dup, 1) := by decide +kernel
theorem dX3_carryOpenness_2 : decode cX3_carryOpenness 2 = .ok (.getfield 229, 3) := by decide +kernel
theorem dX3_carryOpenness_5 : decode cX3_carryOpenness 5 = .ok (.iconst 1, 1) := by decide +kernel
theorem dX3_carryOpenness_6 : decode cX3_carryOpenness 6 = .ok (.iadd, 1) := by decide +kernel
theorem dX3_carryOpenness_7 : decode cX3_carryOpenness 7 = .ok (.putfield 229, 3) := by decide +kernel
theorem dX3_carryOpenness_10 : decode cX3_carryOpenness 10 = .ok (.aload_n 0, 1) := by decide +kernel
theorem dX3_carryOpenness_11 : decode cX3_carryOpenness 11 = .ok (.aload_n 2, 1) := by decide +kernel
theorem dX3_carryOpenness_12 : decode cX3_carryOpenness 12 = .ok (.invokevirtual 141, 3) := by decide +kernel
theorem dX3_carryOpenness_15 : decode cX3_carryOpenness 15 = .ok (.aload_n 1, 1) := by decide +kernel
theorem dX3_carryOpenness_16 : decode cX3_carryOpenness 16 = .ok (.dup, 1) := by decide +kernel
theorem dX3_carryOpenness_17 : decode cX3_carryOpenness 17 = .ok (.getfield 229, 3) := by decide +kernel
theorem dX3_carryOpenness_20 : decode cX3_carryOpenness 20 = .ok (.iconst 1, 1) := by decide +kernel
theorem dX3_carryOpenness_21 : decode cX3_carryOpenness 21 = .ok (.isub, 1) := by decide +kernel
theorem dX3_carryOpenness_22 : decode cX3_carryOpenness 22 = .ok (.putfield 229, 3) := by decide +kernel
theorem dX3_carryOpenness_25 : decode cX3_carryOpenness 25 = .ok (.aload_n 0, 1) := by decide +kernel
theorem dX3_carryOpenness_26 : decode cX3_carryOpenness 26 = .ok (.aload_n 1, 1) := by decide +kernel
theorem dX3_carryOpenness_27 : decode cX3_carryOpenness 27 = .ok (.invokevirtual 141, 3) := by decide +kernel
theorem dX3_carryOpenness_30 : decode cX3_carryOpenness 30 = .ok (.return_, 1) := by decide +kernel
theorem dX3_settle_0 : decode cX3_settle 0 = .ok (.aload_n 1, 1) := by decide +kernel
theorem dX3_settle_1 : decode cX3_settle 1 = .ok (.astore_n 2, 1) := by decide +kernel
theorem dX3_settle_2 : decode cX3_settle 2 = .ok (.aload_n 2, 1) := by decide +kernel
theorem dX3_settle_3 : decode cX3_settle 3 = .ok (.ifnull 85, 3) := by decide +kernel
theorem dX3_settle_6 : decode cX3_settle 6 = .ok (.aload_n 2, 1) := by decide +kernel
theorem dX3_settle_7 : decode cX3_settle 7 = .ok (.getfield 150, 3) := by decide +kernel
theorem dX3_settle_10 : decode cX3_settle 10 = .ok (.aload_n 0, 1) := by decide +kernel
theorem dX3_settle_11 : decode cX3_settle 11 = .ok (.getfield 147, 3) := by decide +kernel
theorem dX3_settle_14 : decode cX3_settle 14 = .ok (.if_icmp .gt 14, 3) := by decide +kernel
theorem dX3_settle_17 : decode cX3_settle 17 = .ok (.aload_n 2, 1) := by decide +kernel
theorem dX3_settle_18 : decode cX3_settle 18 = .ok (.invokevirtual 232, 3) := by decide +kernel
theorem dX3_settle_21 : decode cX3_settle 21 = .ok (.ifCond .eq 7, 3) := by decide +kernel
theorem dX3_settle_24 : decode cX3_settle 24 = .ok (.iconst 1, 1) := by decide +kernel
theorem dX3_settle_25 : decode cX3_settle 25 = .ok (.goto 4, 3) := by decide +kernel
theorem dX3_settle_28 : decode cX3_settle 28 = .ok (.iconst 0, 1) := by decide +kernel
theorem dX3_settle_29 : decode cX3_settle 29 = .ok (.istore_n 3, 1) := by decide +kernel
theorem dX3_settle_30 : decode cX3_settle 30 = .ok (.iload_n 3, 1) := by decide +kernel
theorem dX3_settle_31 : decode cX3_settle 31 = .ok (.aload_n 2, 1) := by decide +kernel
theorem dX3_settle_32 : decode cX3_settle 32 = .ok (.getfield 99, 3) := by decide +kernel
theorem dX3_settle_35 : decode cX3_settle 35 = .ok (.if_icmp .ne 4, 3) := by decide +kernel
theorem dX3_settle_38 : decode cX3_settle 38 = .ok (.return_, 1) := by decide +kernel
theorem dX3_settle_39 : decode cX3_settle 39 = .ok (.aload_n 2, 1) := by decide +kernel
theorem dX3_settle_40 : decode cX3_settle 40 = .ok (.iload_n 3, 1) := by decide +kernel
theorem dX3_settle_41 : decode cX3_settle 41 = .ok (.putfield 99, 3) := by decide +kernel
theorem dX3_settle_44 : decode cX3_settle 44 = .ok (.aload_n 2, 1) := by decide +kernel
theorem dX3_settle_45 : decode cX3_settle 45 = .ok (.getfield 66, 3) := by decide +kernel
theorem dX3_settle_48 : decode cX3_settle 48 = .ok (.ifnull 24, 3) := by decide +kernel
theorem dX3_settle_51 : decode cX3_settle 51 = .ok (.aload_n 2, 1) := by decide +kernel
theorem dX3_settle_52 : decode cX3_settle 52 = .ok (.getfield 66, 3) := by decide +kernel
theorem dX3_settle_55 : decode cX3_settle 55 = .ok (.dup, 1) := by decide +kernel
theorem dX3_settle_56 : decode cX3_settle 56 = .ok (.getfield 229, 3) := by decide +kernel
theorem dX3_settle_59 : decode cX3_settle 59 = .ok (.iload_n 3, 1) := by decide +kernel
theorem dX3_settle_60 : decode cX3_settle 60 = .ok (.ifCond .eq 7, 3) := by decide +kernel
theorem dX3_settle_63 : decode cX3_settle 63 = .ok (.iconst 1, 1) := by decide +kernel
theorem dX3_settle_64 : decode cX3_settle 64 = .ok (.goto 4, 3) := by decide +kernel
theorem dX3_settle_67 : decode cX3_settle 67 = .ok (.iconst (-1), 1) := by decide +kernel
theorem dX3_settle_68 : decode cX3_settle 68 = .ok (.iadd, 1) := by decide +kernel
theorem dX3_settle_69 : decode cX3_settle 69 = .ok (.putfield 229, 3) := by decide +kernel
theorem dX3_settle_72 : decode cX3_settle 72 = .ok (.iload_n 3, 1) := by decide +kernel
theorem dX3_settle_73 : decode cX3_settle 73 = .ok (.ifCond .eq 7, 3) := by decide +kernel
theorem dX3_settle_76 : decode cX3_settle 76 = .ok (.aload_n 2, 1) := by decide +kernel
theorem dX3_settle_77 : decode cX3_settle 77 = .ok (.invokevirtual 235, 3) := by decide +kernel
theorem dX3_settle_80 : decode cX3_settle 80 = .ok (.aload_n 2, 1) := by decide +kernel
theorem dX3_settle_81 : decode cX3_settle 81 = .ok (.getfield 66, 3) := by decide +kernel
theorem dX3_settle_84 : decode cX3_settle 84 = .ok (.astore_n 2, 1) := by decide +kernel
theorem dX3_settle_85 : decode cX3_settle 85 = .ok (.goto (-83), 3) := by decide +kernel
theorem dX3_settle_88 : decode cX3_settle 88 = .ok (.return_, 1) := by decide +kernel
theorem dX3_bytesInside_0 : decode cX3_bytesInside 0 = .ok (.lconst 0, 1) := by decide +kernel
theorem dX3_bytesInside_1 : decode cX3_bytesInside 1 = .ok (.lstore_n 2, 1) := by decide +kernel
theorem dX3_bytesInside_2 : decode cX3_bytesInside 2 = .ok (.iconst 0, 1) := by decide +kernel
theorem dX3_bytesInside_3 : decode cX3_bytesInside 3 = .ok (.istore 4, 2) := by decide +kernel
theorem dX3_bytesInside_5 : decode cX3_bytesInside 5 = .ok (.iload 4, 2) := by decide +kernel
theorem dX3_bytesInside_7 : decode cX3_bytesInside 7 = .ok (.bipush 64, 2) := by decide +kernel
theorem dX3_bytesInside_9 : decode cX3_bytesInside 9 = .ok (.if_icmp .ge 39, 3) := by decide +kernel
theorem dX3_bytesInside_12 : decode cX3_bytesInside 12 = .ok (.aload_n 0, 1) := by decide +kernel
theorem dX3_bytesInside_13 : decode cX3_bytesInside 13 = .ok (.iload 4, 2) := by decide +kernel
theorem dX3_bytesInside_15 : decode cX3_bytesInside 15 = .ok (.aload_n 1, 1) := by decide +kernel
theorem dX3_bytesInside_16 : decode cX3_bytesInside 16 = .ok (.invokevirtual 129, 3) := by decide +kernel
theorem dX3_bytesInside_19 : decode cX3_bytesInside 19 = .ok (.astore 5, 2) := by decide +kernel
theorem dX3_bytesInside_21 : decode cX3_bytesInside 21 = .ok (.lload_n 2, 1) := by decide +kernel
theorem dX3_bytesInside_22 : decode cX3_bytesInside 22 = .ok (.aload 5, 2) := by decide +kernel
theorem dX3_bytesInside_24 : decode cX3_bytesInside 24 = .ok (.ifnonnull 7, 3) := by decide +kernel
theorem dX3_bytesInside_27 : decode cX3_bytesInside 27 = .ok (.lconst 0, 1) := by decide +kernel
theorem dX3_bytesInside_28 : decode cX3_bytesInside 28 = .ok (.goto 12, 3) := by decide +kernel
theorem dX3_bytesInside_31 : decode cX3_bytesInside 31 = .ok (.aload 5, 2) := by decide +kernel
theorem dX3_bytesInside_33 : decode cX3_bytesInside 33 = .ok (.getfield 43, 3) := by decide +kernel
theorem dX3_bytesInside_36 : decode cX3_bytesInside 36 = .ok (.getfield 238, 3) := by decide +kernel
theorem dX3_bytesInside_39 : decode cX3_bytesInside 39 = .ok (.i2l, 1) := by decide +kernel
theorem dX3_bytesInside_40 : decode cX3_bytesInside 40 = .ok (.ladd, 1) := by decide +kernel
theorem dX3_bytesInside_41 : decode cX3_bytesInside 41 = .ok (.lstore_n 2, 1) := by decide +kernel
theorem dX3_bytesInside_42 : decode cX3_bytesInside 42 = .ok (.iinc 4 1, 3) := by decide +kernel
theorem dX3_bytesInside_45 : decode cX3_bytesInside 45 = .ok (.goto (-40), 3) := by decide +kernel
theorem dX3_bytesInside_48 : decode cX3_bytesInside 48 = .ok (.lload_n 2, 1) := by decide +kernel
theorem dX3_bytesInside_49 : decode cX3_bytesInside 49 = .ok (.lreturn, 1) := by decide +kernel
