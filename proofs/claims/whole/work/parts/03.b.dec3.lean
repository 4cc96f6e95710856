theorem dX4_put_0 : decode cX4_put 0 = .ok (.aload_n 0, 1) := by decide +kernel
theorem dX4_put_1 : decode cX4_put 1 = .ok (.aload_n 0, 1) := by decide +kernel
theorem dX4_put_2 : decode cX4_put 2 = .ok (.iload_n 1, 1) := by decide +kernel
theorem dX4_put_3 : decode cX4_put 3 = .ok (.invokevirtual 71, 3) := by decide +kernel
theorem dX4_put_6 : decode cX4_put 6 = .ok (.ifCond .ne 7, 3) := by decide +kernel
theorem dX4_put_9 : decode cX4_put 9 = .ok (.iconst 1, 1) := by decide +kernel
theorem dX4_put_10 : decode cX4_put 10 = .ok (.goto 46, 3) := by decide +kernel
theorem dX4_put_13 : decode cX4_put 13 = .ok (.aload_n 0, 1) := by decide +kernel
theorem dX4_put_14 : decode cX4_put 14 = .ok (.iload_n 1, 1) := by decide +kernel
theorem dX4_put_15 : decode cX4_put 15 = .ok (.invokevirtual 81, 3) := by decide +kernel
theorem dX4_put_18 : decode cX4_put 18 = .ok (.ifCond .ne 7, 3) := by decide +kernel
theorem dX4_put_21 : decode cX4_put 21 = .ok (.iconst 2, 1) := by decide +kernel
theorem dX4_put_22 : decode cX4_put 22 = .ok (.goto 34, 3) := by decide +kernel
theorem dX4_put_25 : decode cX4_put 25 = .ok (.iload_n 3, 1) := by decide +kernel
theorem dX4_put_26 : decode cX4_put 26 = .ok (.iconst 1, 1) := by decide +kernel
theorem dX4_put_27 : decode cX4_put 27 = .ok (.if_icmp .lt 10, 3) := by decide +kernel
theorem dX4_put_30 : decode cX4_put 30 = .ok (.iload_n 3, 1) := by decide +kernel
theorem dX4_put_31 : decode cX4_put 31 = .ok (.sipush 2000, 3) := by decide +kernel
theorem dX4_put_34 : decode cX4_put 34 = .ok (.if_icmp .le 7, 3) := by decide +kernel
theorem dX4_put_37 : decode cX4_put 37 = .ok (.iconst 3, 1) := by decide +kernel
theorem dX4_put_38 : decode cX4_put 38 = .ok (.goto 18, 3) := by decide +kernel
theorem dX4_put_41 : decode cX4_put 41 = .ok (.aload_n 0, 1) := by decide +kernel
theorem dX4_put_42 : decode cX4_put 42 = .ok (.getfield 65, 3) := by decide +kernel
theorem dX4_put_45 : decode cX4_put 45 = .ok (.sipush 2000, 3) := by decide +kernel
theorem dX4_put_48 : decode cX4_put 48 = .ok (.if_icmp .ne 7, 3) := by decide +kernel
theorem dX4_put_51 : decode cX4_put 51 = .ok (.iconst 4, 1) := by decide +kernel
theorem dX4_put_52 : decode cX4_put 52 = .ok (.goto 4, 3) := by decide +kernel
theorem dX4_put_55 : decode cX4_put 55 = .ok (.iconst 0, 1) := by decide +kernel
theorem dX4_put_56 : decode cX4_put 56 = .ok (.putfield 58, 3) := by decide +kernel
theorem dX4_put_59 : decode cX4_put 59 = .ok (.aload_n 0, 1) := by decide +kernel
theorem dX4_put_60 : decode cX4_put 60 = .ok (.getfield 58, 3) := by decide +kernel
theorem dX4_put_63 : decode cX4_put 63 = .ok (.ifCond .le 5, 3) := by decide +kernel
theorem dX4_put_66 : decode cX4_put 66 = .ok (.iconst 0, 1) := by decide +kernel
theorem dX4_put_67 : decode cX4_put 67 = .ok (.ireturn, 1) := by decide +kernel
theorem dX4_put_68 : decode cX4_put 68 = .ok (.aload_n 0, 1) := by decide +kernel
theorem dX4_put_69 : decode cX4_put 69 = .ok (.iload_n 1, 1) := by decide +kernel
theorem dX4_put_70 : decode cX4_put 70 = .ok (.iload_n 2, 1) := by decide +kernel
theorem dX4_put_71 : decode cX4_put 71 = .ok (.iload_n 3, 1) := by decide +kernel
theorem dX4_put_72 : decode cX4_put 72 = .ok (.invokevirtual 91, 3) := by decide +kernel
theorem dX4_put_75 : decode cX4_put 75 = .ok (.istore 4, 2) := by decide +kernel
theorem dX4_put_77 : decode cX4_put 77 = .ok (.aload_n 0, 1) := by decide +kernel
theorem dX4_put_78 : decode cX4_put 78 = .ok (.invokevirtual 78, 3) := by decide +kernel
theorem dX4_put_81 : decode cX4_put 81 = .ok (.iload 4, 2) := by decide +kernel
theorem dX4_put_83 : decode cX4_put 83 = .ok (.ireturn, 1) := by decide +kernel
theorem dX4_putAll_0 : decode cX4_putAll 0 = .ok (.aload_n 0, 1) := by decide +kernel
theorem dX4_putAll_1 : decode cX4_putAll 1 = .ok (.aload_n 0, 1) := by decide +kernel
theorem dX4_putAll_2 : decode cX4_putAll 2 = .ok (.iload_n 1, 1) := by decide +kernel
theorem dX4_putAll_3 : decode cX4_putAll 3 = .ok (.invokevirtual 71, 3) := by decide +kernel
theorem dX4_putAll_6 : decode cX4_putAll 6 = .ok (.ifCond .ne 7, 3) := by decide +kernel
theorem dX4_putAll_9 : decode cX4_putAll 9 = .ok (.iconst 1, 1) := by decide +kernel
theorem dX4_putAll_10 : decode cX4_putAll 10 = .ok (.goto 45, 3) := by decide +kernel
theorem dX4_putAll_13 : decode cX4_putAll 13 = .ok (.aload_n 0, 1) := by decide +kernel
theorem dX4_putAll_14 : decode cX4_putAll 14 = .ok (.iload_n 1, 1) := by decide +kernel
theorem dX4_putAll_15 : decode cX4_putAll 15 = .ok (.invokevirtual 81, 3) := by decide +kernel
theorem dX4_putAll_18 : decode cX4_putAll 18 = .ok (.ifCond .ne 7, 3) := by decide +kernel
theorem dX4_putAll_21 : decode cX4_putAll 21 = .ok (.iconst 2, 1) := by decide +kernel
theorem dX4_putAll_22 : decode cX4_putAll 22 = .ok (.goto 33, 3) := by decide +kernel
theorem dX4_putAll_25 : decode cX4_putAll 25 = .ok (.iload_n 3, 1) := by decide +kernel
theorem dX4_putAll_26 : decode cX4_putAll 26 = .ok (.iconst 1, 1) := by decide +kernel
theorem dX4_putAll_27 : decode cX4_putAll 27 = .ok (.if_icmp .lt 23, 3) := by decide +kernel
theorem dX4_putAll_30 : decode cX4_putAll 30 = .ok (.iload_n 3, 1) := by decide +kernel
theorem dX4_putAll_31 : decode cX4_putAll 31 = .ok (.sipush 2000, 3) := by decide +kernel
theorem dX4_putAll_34 : decode cX4_putAll 34 = .ok (.if_icmp .gt 16, 3) := by decide +kernel
theorem dX4_putAll_37 : decode cX4_putAll 37 = .ok (.iload 4, 2) := by decide +kernel
theorem dX4_putAll_39 : decode cX4_putAll 39 = .ok (.ifCond .lt 11, 3) := by decide +kernel
theorem dX4_putAll_42 : decode cX4_putAll 42 = .ok (.iload 4, 2) := by decide +kernel
theorem dX4_putAll_44 : decode cX4_putAll 44 = .ok (.sipush 500, 3) := by decide +kernel
theorem dX4_putAll_47 : decode cX4_putAll 47 = .ok (.if_icmp .le 7, 3) := by decide +kernel
theorem dX4_putAll_50 : decode cX4_putAll 50 = .ok (.iconst 3, 1) := by decide +kernel
theorem dX4_putAll_51 : decode cX4_putAll 51 = .ok (.goto 4, 3) := by decide +kernel
theorem dX4_putAll_54 : decode cX4_putAll 54 = .ok (.iconst 0, 1) := by decide +kernel
theorem dX4_putAll_55 : decode cX4_putAll 55 = .ok (.putfield 58, 3) := by decide +kernel
theorem dX4_putAll_58 : decode cX4_putAll 58 = .ok (.aload_n 0, 1) := by decide +kernel
theorem dX4_putAll_59 : decode cX4_putAll 59 = .ok (.getfield 58, 3) := by decide +kernel
theorem dX4_putAll_62 : decode cX4_putAll 62 = .ok (.ifCond .le 5, 3) := by decide +kernel
theorem dX4_putAll_65 : decode cX4_putAll 65 = .ok (.iconst 0, 1) := by decide +kernel
theorem dX4_putAll_66 : decode cX4_putAll 66 = .ok (.ireturn, 1) := by decide +kernel
theorem dX4_putAll_67 : decode cX4_putAll 67 = .ok (.iconst 0, 1) := by decide +kernel
theorem dX4_putAll_68 : decode cX4_putAll 68 = .ok (.istore 5, 2) := by decide +kernel
theorem dX4_putAll_70 : decode cX4_putAll 70 = .ok (.iconst 1, 1) := by decide +kernel
theorem dX4_putAll_71 : decode cX4_putAll 71 = .ok (.istore 6, 2) := by decide +kernel
theorem dX4_putAll_73 : decode cX4_putAll 73 = .ok (.iload 5, 2) := by decide +kernel
theorem dX4_putAll_75 : decode cX4_putAll 75 = .ok (.iload 4, 2) := by decide +kernel
theorem dX4_putAll_77 : decode cX4_putAll 77 = .ok (.if_icmp .ge 48, 3) := by decide +kernel
theorem dX4_putAll_80 : decode cX4_putAll 80 = .ok (.iload 6, 2) := by decide +kernel
theorem dX4_putAll_82 : decode cX4_putAll 82 = .ok (.ifCond .eq 43, 3) := by decide +kernel
theorem dX4_putAll_85 : decode cX4_putAll 85 = .ok (.aload_n 0, 1) := by decide +kernel
theorem dX4_putAll_86 : decode cX4_putAll 86 = .ok (.getfield 65, 3) := by decide +kernel
theorem dX4_putAll_89 : decode cX4_putAll 89 = .ok (.sipush 2000, 3) := by decide +kernel
theorem dX4_putAll_92 : decode cX4_putAll 92 = .ok (.if_icmp .ge 33, 3) := by decide +kernel
theorem dX4_putAll_95 : decode cX4_putAll 95 = .ok (.aload_n 0, 1) := by decide +kernel
theorem dX4_putAll_96 : decode cX4_putAll 96 = .ok (.iload_n 1, 1) := by decide +kernel
theorem dX4_putAll_97 : decode cX4_putAll 97 = .ok (.iload_n 2, 1) := by decide +kernel
theorem dX4_putAll_98 : decode cX4_putAll 98 = .ok (.iload 5, 2) := by decide +kernel
theorem dX4_putAll_100 : decode cX4_putAll 100 = .ok (.iadd, 1) := by decide +kernel
theorem dX4_putAll_101 : decode cX4_putAll 101 = .ok (.iload_n 3, 1) := by decide +kernel
theorem dX4_putAll_102 : decode cX4_putAll 102 = .ok (.invokevirtual 91, 3) := by decide +kernel
theorem dX4_putAll_105 : decode cX4_putAll 105 = .ok (.istore 6, 2) := by decide +kernel
theorem dX4_putAll_107 : decode cX4_putAll 107 = .ok (.iload 5, 2) := by decide +kernel
theorem dX4_putAll_109 : decode cX4_putAll 109 = .ok (.iload 6, 2) := by decide +kernel
theorem dX4_putAll_111 : decode cX4_putAll 111 = .ok (.ifCond .eq 7, 3) := by decide +kernel
theorem dX4_putAll_114 : decode cX4_putAll 114 = .ok (.iconst 1, 1) := by decide +kernel
theorem dX4_putAll_115 : decode cX4_putAll 115 = .ok (.goto 4, 3) := by decide +kernel
theorem dX4_putAll_118 : decode cX4_putAll 118 = .ok (.iconst 0, 1) := by decide +kernel
theorem dX4_putAll_119 : decode cX4_putAll 119 = .ok (.iadd, 1) := by decide +kernel
theorem dX4_putAll_120 : decode cX4_putAll 120 = .ok (.istore 5, 2) := by decide +kernel
theorem dX4_putAll_122 : decode cX4_putAll 122 = .ok (.goto (-49), 3) := by decide +kernel
theorem dX4_putAll_125 : decode cX4_putAll 125 = .ok (.aload_n 0, 1) := by decide +kernel
theorem dX4_putAll_126 : decode cX4_putAll 126 = .ok (.invokevirtual 78, 3) := by decide +kernel
theorem dX4_putAll_129 : decode cX4_putAll 129 = .ok (.iload 5, 2) := by decide +kernel
theorem dX4_putAll_131 : decode cX4_putAll 131 = .ok (.ireturn, 1) := by decide +kernel
theorem dX4_next_0 : decode cX4_next 0 = .ok (.iconst (-1), 1) := by decide +kernel
theorem dX4_next_1 : decode cX4_next 1 = .ok (.istore_n 2, 1) := by decide +kernel
theorem dX4_next_2 : decode cX4_next 2 = .ok (.iconst 1, 1) := by decide +kernel
theorem dX4_next_3 : decode cX4_next 3 = .ok (.istore_n 3, 1) := by decide +kernel
theorem dX4_next_4 : decode cX4_next 4 = .ok (.iload_n 3, 1) := by decide +kernel
theorem dX4_next_5 : decode cX4_next 5 = .ok (.bipush 64, 2) := by decide +kernel
theorem dX4_next_7 : decode cX4_next 7 = .ok (.if_icmp .ge 51, 3) := by decide +kernel
theorem dX4_next_10 : decode cX4_next 10 = .ok (.aload_n 0, 1) := by decide +kernel
theorem dX4_next_11 : decode cX4_next 11 = .ok (.getfield 7, 3) := by decide +kernel
theorem dX4_next_14 : decode cX4_next 14 = .ok (.iload_n 3, 1) := by decide +kernel
theorem dX4_next_15 : decode cX4_next 15 = .ok (.iaload, 1) := by decide +kernel
theorem dX4_next_16 : decode cX4_next 16 = .ok (.iload_n 1, 1) := by decide +kernel
theorem dX4_next_17 : decode cX4_next 17 = .ok (.if_icmp .ne 35, 3) := by decide +kernel
theorem dX4_next_20 : decode cX4_next 20 = .ok (.aload_n 0, 1) := by decide +kernel
theorem dX4_next_21 : decode cX4_next 21 = .ok (.getfield 35, 3) := by decide +kernel
theorem dX4_next_24 : decode cX4_next 24 = .ok (.iload_n 3, 1) := by decide +kernel
theorem dX4_next_25 : decode cX4_next 25 = .ok (.baload, 1) := by decide +kernel
theorem dX4_next_26 : decode cX4_next 26 = .ok (.ifCond .eq 26, 3) := by decide +kernel
theorem dX4_next_29 : decode cX4_next 29 = .ok (.iload_n 2, 1) := by decide +kernel
theorem dX4_next_30 : decode cX4_next 30 = .ok (.iconst (-1), 1) := by decide +kernel
theorem dX4_next_31 : decode cX4_next 31 = .ok (.if_icmp .eq 19, 3) := by decide +kernel
theorem dX4_next_34 : decode cX4_next 34 = .ok (.aload_n 0, 1) := by decide +kernel
theorem dX4_next_35 : decode cX4_next 35 = .ok (.getfield 19, 3) := by decide +kernel
theorem dX4_next_38 : decode cX4_next 38 = .ok (.iload_n 3, 1) := by decide +kernel
theorem dX4_next_39 : decode cX4_next 39 = .ok (.laload, 1) := by decide +kernel
theorem dX4_next_40 : decode cX4_next 40 = .ok (.aload_n 0, 1) := by decide +kernel
theorem dX4_next_41 : decode cX4_next 41 = .ok (.getfield 19, 3) := by decide +kernel
theorem dX4_next_44 : decode cX4_next 44 = .ok (.iload_n 2, 1) := by decide +kernel
theorem dX4_next_45 : decode cX4_next 45 = .ok (.laload, 1) := by decide +kernel
theorem dX4_next_46 : decode cX4_next 46 = .ok (.lcmp, 1) := by decide +kernel
theorem dX4_next_47 : decode cX4_next 47 = .ok (.ifCond .ge 5, 3) := by decide +kernel
theorem dX4_next_50 : decode cX4_next 50 = .ok (.iload_n 3, 1) := by decide +kernel
theorem dX4_next_51 : decode cX4_next 51 = .ok (.istore_n 2, 1) := by decide +kernel
theorem dX4_next_52 : decode cX4_next 52 = .ok (.iinc 3 1, 3) := by decide +kernel
theorem dX4_next_55 : decode cX4_next 55 = .ok (.goto (-51), 3) := by decide +kernel
theorem dX4_next_58 : decode cX4_next 58 = .ok (.iload_n 2, 1) := by decide +kernel
theorem dX4_next_59 : decode cX4_next 59 = .ok (.ireturn, 1) := by decide +kernel
theorem dX4_removePacket_0 : decode cX4_removePacket 0 = .ok (.aload_n 0, 1) := by decide +kernel
theorem dX4_removePacket_1 : decode cX4_removePacket 1 = .ok (.dup, 1) := by decide +kernel
theorem dX4_removePacket_2 : decode cX4_removePacket 2 = .ok (.getfield 65, 3) := by decide +kernel
theorem dX4_removePacket_5 : decode cX4_removePacket 5 = .ok (.iconst 1, 1) := by decide +kernel
theorem dX4_removePacket_6 : decode cX4_removePacket 6 = .ok (.isub, 1) := by decide +kernel
theorem dX4_removePacket_7 : decode cX4_removePacket 7 = .ok (.putfield 65, 3) := by decide +kernel
theorem dX4_removePacket_10 : decode cX4_removePacket 10 = .ok (.iload_n 1, 1) := by decide +kernel
theorem dX4_removePacket_11 : decode cX4_removePacket 11 = .ok (.istore_n 2, 1) := by decide +kernel
theorem dX4_removePacket_12 : decode cX4_removePacket 12 = .ok (.iload_n 2, 1) := by decide +kernel
theorem dX4_removePacket_13 : decode cX4_removePacket 13 = .ok (.aload_n 0, 1) := by decide +kernel
theorem dX4_removePacket_14 : decode cX4_removePacket 14 = .ok (.getfield 65, 3) := by decide +kernel
theorem dX4_removePacket_17 : decode cX4_removePacket 17 = .ok (.if_icmp .ge 51, 3) := by decide +kernel
theorem dX4_removePacket_20 : decode cX4_removePacket 20 = .ok (.aload_n 0, 1) := by decide +kernel
theorem dX4_removePacket_21 : decode cX4_removePacket 21 = .ok (.getfield 42, 3) := by decide +kernel
theorem dX4_removePacket_24 : decode cX4_removePacket 24 = .ok (.iload_n 2, 1) := by decide +kernel
theorem dX4_removePacket_25 : decode cX4_removePacket 25 = .ok (.aload_n 0, 1) := by decide +kernel
theorem dX4_removePacket_26 : decode cX4_removePacket 26 = .ok (.getfield 42, 3) := by decide +kernel
theorem dX4_removePacket_29 : decode cX4_removePacket 29 = .ok (.iload_n 2, 1) := by decide +kernel
theorem dX4_removePacket_30 : decode cX4_removePacket 30 = .ok (.iconst 1, 1) := by decide +kernel
theorem dX4_removePacket_31 : decode cX4_removePacket 31 = .ok (.iadd, 1) := by decide +kernel
theorem dX4_removePacket_32 : decode cX4_removePacket 32 = .ok (.iaload, 1) := by decide +kernel
theorem dX4_removePacket_33 : decode cX4_removePacket 33 = .ok (.iastore, 1) := by decide +kernel
theorem dX4_removePacket_34 : decode cX4_removePacket 34 = .ok (.aload_n 0, 1) := by decide +kernel
theorem dX4_removePacket_35 : decode cX4_removePacket 35 = .ok (.getfield 45, 3) := by decide +kernel
theorem dX4_removePacket_38 : decode cX4_removePacket 38 = .ok (.iload_n 2, 1) := by decide +kernel
theorem dX4_removePacket_39 : decode cX4_removePacket 39 = .ok (.aload_n 0, 1) := by decide +kernel
theorem dX4_removePacket_40 : decode cX4_removePacket 40 = .ok (.getfield 45, 3) := by decide +kernel
theorem dX4_removePacket_43 : decode cX4_removePacket 43 = .ok (.iload_n 2, 1) := by decide +kernel
theorem dX4_removePacket_44 : decode cX4_removePacket 44 = .ok (.iconst 1, 1) := by decide +kernel
theorem dX4_removePacket_45 : decode cX4_removePacket 45 = .ok (.iadd, 1) := by decide +kernel
theorem dX4_removePacket_46 : decode cX4_removePacket 46 = .ok (.iaload, 1) := by decide +kernel
theorem dX4_removePacket_47 : decode cX4_removePacket 47 = .ok (.iastore, 1) := by decide +kernel
theorem dX4_removePacket_48 : decode cX4_removePacket 48 = .ok (.aload_n 0, 1) := by decide +kernel
theorem dX4_removePacket_49 : decode cX4_removePacket 49 = .ok (.getfield 48, 3) := by decide +kernel
theorem dX4_removePacket_52 : decode cX4_removePacket 52 = .ok (.iload_n 2, 1) := by decide +kernel
theorem dX4_removePacket_53 : decode cX4_removePacket 53 = .ok (.aload_n 0, 1) := by decide +kernel
theorem dX4_removePacket_54 : decode cX4_removePacket 54 = .ok (.getfield 48, 3) := by decide +kernel
theorem dX4_removePacket_57 : decode cX4_removePacket 57 = .ok (.iload_n 2, 1) := by decide +kernel
theorem dX4_removePacket_58 : decode cX4_removePacket 58 = .ok (.iconst 1, 1) := by decide +kernel
theorem dX4_removePacket_59 : decode cX4_removePacket 59 = .ok (.iadd, 1) := by decide +kernel
theorem dX4_removePacket_60 : decode cX4_removePacket 60 = .ok (.iaload, 1) := by decide +kernel
theorem dX4_removePacket_61 : decode cX4_removePacket 61 = .ok (.iastore, 1) := by decide +kernel
theorem dX4_removePacket_62 : decode cX4_removePacket 62 = .ok (.iinc 2 1, 3) := by decide +kernel
theorem dX4_removePacket_65 : decode cX4_removePacket 65 = .ok (.goto (-53), 3) := by decide +kernel
theorem dX4_removePacket_68 : decode cX4_removePacket 68 = .ok (.return_, 1) := by decide +kernel
theorem dX4_isTurned_0 : decode cX4_isTurned 0 = .ok (.aload_n 0, 1) := by decide +kernel
theorem dX4_isTurned_1 : decode cX4_isTurned 1 = .ok (.iconst 0, 1) := by decide +kernel
theorem dX4_isTurned_2 : decode cX4_isTurned 2 = .ok (.invokevirtual 95, 3) := by decide +kernel
theorem dX4_isTurned_5 : decode cX4_isTurned 5 = .ok (.iconst (-1), 1) := by decide +kernel
theorem dX4_isTurned_6 : decode cX4_isTurned 6 = .ok (.if_icmp .ne 5, 3) := by decide +kernel
theorem dX4_isTurned_9 : decode cX4_isTurned 9 = .ok (.iconst 0, 1) := by decide +kernel
theorem dX4_isTurned_10 : decode cX4_isTurned 10 = .ok (.ireturn, 1) := by decide +kernel
theorem dX4_isTurned_11 : decode cX4_isTurned 11 = .ok (.iconst 0, 1) := by decide +kernel
theorem dX4_isTurned_12 : decode cX4_isTurned 12 = .ok (.istore_n 1, 1) := by decide +kernel
theorem dX4_isTurned_13 : decode cX4_isTurned 13 = .ok (.iload_n 1, 1) := by decide +kernel
theorem dX4_isTurned_14 : decode cX4_isTurned 14 = .ok (.ifCond .eq 11, 3) := by decide +kernel
theorem dX4_isTurned_17 : decode cX4_isTurned 17 = .ok (.aload_n 0, 1) := by decide +kernel
theorem dX4_isTurned_18 : decode cX4_isTurned 18 = .ok (.iload_n 1, 1) := by decide +kernel
theorem dX4_isTurned_19 : decode cX4_isTurned 19 = .ok (.invokevirtual 81, 3) := by decide +kernel
theorem dX4_isTurned_22 : decode cX4_isTurned 22 = .ok (.ifCond .ne 26, 3) := by decide +kernel
theorem dX4_isTurned_25 : decode cX4_isTurned 25 = .ok (.aload_n 0, 1) := by decide +kernel
theorem dX4_isTurned_26 : decode cX4_isTurned 26 = .ok (.iload_n 1, 1) := by decide +kernel
theorem dX4_isTurned_27 : decode cX4_isTurned 27 = .ok (.invokevirtual 95, 3) := by decide +kernel
theorem dX4_isTurned_30 : decode cX4_isTurned 30 = .ok (.istore_n 2, 1) := by decide +kernel
theorem dX4_isTurned_31 : decode cX4_isTurned 31 = .ok (.aload_n 0, 1) := by decide +kernel
theorem dX4_isTurned_32 : decode cX4_isTurned 32 = .ok (.getfield 26, 3) := by decide +kernel
theorem dX4_isTurned_35 : decode cX4_isTurned 35 = .ok (.iload_n 1, 1) := by decide +kernel
theorem dX4_isTurned_36 : decode cX4_isTurned 36 = .ok (.aload_n 0, 1) := by decide +kernel
theorem dX4_isTurned_37 : decode cX4_isTurned 37 = .ok (.getfield 19, 3) := by decide +kernel
theorem dX4_isTurned_40 : decode cX4_isTurned 40 = .ok (.iload_n 2, 1) := by decide +kernel
theorem dX4_isTurned_41 : decode cX4_isTurned 41 = .ok (.laload, 1) := by decide +kernel
theorem dX4_isTurned_42 : decode cX4_isTurned 42 = .ok (.lastore, 1) := by decide +kernel
theorem dX4_isTurned_43 : decode cX4_isTurned 43 = .ok (.iload_n 2, 1) := by decide +kernel
theorem dX4_isTurned_44 : decode cX4_isTurned 44 = .ok (.istore_n 1, 1) := by decide +kernel
theorem dX4_isTurned_45 : decode cX4_isTurned 45 = .ok (.goto (-32), 3) := by decide +kernel
theorem dX4_isTurned_48 : decode cX4_isTurned 48 = .ok (.iconst 0, 1) := by decide +kernel
theorem dX4_isTurned_49 : decode cX4_isTurned 49 = .ok (.istore_n 2, 1) := by decide +kernel
theorem dX4_isTurned_50 : decode cX4_isTurned 50 = .ok (.aload_n 0, 1) := by decide +kernel
theorem dX4_isTurned_51 : decode cX4_isTurned 51 = .ok (.getfield 42, 3) := by decide +kernel
theorem dX4_isTurned_54 : decode cX4_isTurned 54 = .ok (.iload_n 2, 1) := by decide +kernel
theorem dX4_isTurned_55 : decode cX4_isTurned 55 = .ok (.iaload, 1) := by decide +kernel
theorem dX4_isTurned_56 : decode cX4_isTurned 56 = .ok (.iload_n 1, 1) := by decide +kernel
theorem dX4_isTurned_57 : decode cX4_isTurned 57 = .ok (.if_icmp .eq 9, 3) := by decide +kernel
theorem dX4_isTurned_60 : decode cX4_isTurned 60 = .ok (.iinc 2 1, 3) := by decide +kernel
theorem dX4_isTurned_63 : decode cX4_isTurned 63 = .ok (.goto (-13), 3) := by decide +kernel
theorem dX4_isTurned_66 : decode cX4_isTurned 66 = .ok (.aload_n 0, 1) := by decide +kernel
theorem dX4_isTurned_67 : decode cX4_isTurned 67 = .ok (.iload_n 1, 1) := by decide +kernel
theorem dX4_isTurned_68 : decode cX4_isTurned 68 = .ok (.putfield 51, 3) := by decide +kernel
theorem dX4_isTurned_71 : decode cX4_isTurned 71 = .ok (.aload_n 0, 1) := by decide +kernel
theorem dX4_isTurned_72 : decode cX4_isTurned 72 = .ok (.aload_n 0, 1) := by decide +kernel
theorem dX4_isTurned_73 : decode cX4_isTurned 73 = .ok (.getfield 45, 3) := by decide +kernel
theorem dX4_isTurned_76 : decode cX4_isTurned 76 = .ok (.iload_n 2, 1) := by decide +kernel
theorem dX4_isTurned_77 : decode cX4_isTurned 77 = .ok (.iaload, 1) := by decide +kernel
theorem dX4_isTurned_78 : decode cX4_isTurned 78 = .ok (.putfield 98, 3) := by decide +kernel
theorem dX4_isTurned_81 : decode cX4_isTurned 81 = .ok (.aload_n 0, 1) := by decide +kernel
theorem dX4_isTurned_82 : decode cX4_isTurned 82 = .ok (.aload_n 0, 1) := by decide +kernel
theorem dX4_isTurned_83 : decode cX4_isTurned 83 = .ok (.getfield 48, 3) := by decide +kernel
theorem dX4_isTurned_86 : decode cX4_isTurned 86 = .ok (.iload_n 2, 1) := by decide +kernel
theorem dX4_isTurned_87 : decode cX4_isTurned 87 = .ok (.iaload, 1) := by decide +kernel
theorem dX4_isTurned_88 : decode cX4_isTurned 88 = .ok (.putfield 55, 3) := by decide +kernel
theorem dX4_isTurned_91 : decode cX4_isTurned 91 = .ok (.aload_n 0, 1) := by decide +kernel
theorem dX4_isTurned_92 : decode cX4_isTurned 92 = .ok (.iload_n 2, 1) := by decide +kernel
theorem dX4_isTurned_93 : decode cX4_isTurned 93 = .ok (.invokevirtual 101, 3) := by decide +kernel
theorem dX4_isTurned_96 : decode cX4_isTurned 96 = .ok (.iload_n 1, 1) := by decide +kernel
theorem dX4_isTurned_97 : decode cX4_isTurned 97 = .ok (.istore_n 3, 1) := by decide +kernel
theorem dX4_isTurned_98 : decode cX4_isTurned 98 = .ok (.iload_n 3, 1) := by decide +kernel
theorem dX4_isTurned_99 : decode cX4_isTurned 99 = .ok (.iconst (-1), 1) := by decide +kernel
theorem dX4_isTurned_100 : decode cX4_isTurned 100 = .ok (.if_icmp .eq 86, 3) := by decide +kernel
theorem dX4_isTurned_103 : decode cX4_isTurned 103 = .ok (.aload_n 0, 1) := by decide +kernel
theorem dX4_isTurned_104 : decode cX4_isTurned 104 = .ok (.getfield 29, 3) := by decide +kernel
theorem dX4_isTurned_107 : decode cX4_isTurned 107 = .ok (.iload_n 3, 1) := by decide +kernel
theorem dX4_isTurned_108 : decode cX4_isTurned 108 = .ok (.dup2, 1) := by decide +kernel
theorem dX4_isTurned_109 : decode cX4_isTurned 109 = .ok (.laload, 1) := by decide +kernel
theorem dX4_isTurned_110 : decode cX4_isTurned 110 = .ok (.aload_n 0, 1) := by decide +kernel
theorem dX4_isTurned_111 : decode cX4_isTurned 111 = .ok (.getfield 55, 3) := by decide +kernel
theorem dX4_isTurned_114 : decode cX4_isTurned 114 = .ok (.i2l, 1) := by decide +kernel
theorem dX4_isTurned_115 : decode cX4_isTurned 115 = .ok (.ladd, 1) := by decide +kernel
theorem dX4_isTurned_116 : decode cX4_isTurned 116 = .ok (.lastore, 1) := by decide +kernel
theorem dX4_isTurned_117 : decode cX4_isTurned 117 = .ok (.iload_n 3, 1) := by decide +kernel
theorem dX4_isTurned_118 : decode cX4_isTurned 118 = .ok (.ifCond .le 58, 3) := by decide +kernel
theorem dX4_isTurned_121 : decode cX4_isTurned 121 = .ok (.ldc2_w 105, 3) := by decide +kernel
theorem dX4_isTurned_124 : decode cX4_isTurned 124 = .ok (.aload_n 0, 1) := by decide +kernel
theorem dX4_isTurned_125 : decode cX4_isTurned 125 = .ok (.getfield 55, 3) := by decide +kernel
theorem dX4_isTurned_128 : decode cX4_isTurned 128 = .ok (.i2l, 1) := by decide +kernel
theorem dX4_isTurned_129 : decode cX4_isTurned 129 = .ok (.lmul, 1) := by decide +kernel
theorem dX4_isTurned_130 : decode cX4_isTurned 130 = .ok (.aload_n 0, 1) := by decide +kernel
theorem dX4_isTurned_131 : decode cX4_isTurned 131 = .ok (.getfield 23, 3) := by decide +kernel
theorem dX4_isTurned_134 : decode cX4_isTurned 134 = .ok (.iload_n 3, 1) := by decide +kernel
theorem dX4_isTurned_135 : decode cX4_isTurned 135 = .ok (.iaload, 1) := by decide +kernel
theorem dX4_isTurned_136 : decode cX4_isTurned 136 = .ok (.i2l, 1) := by decide +kernel
theorem dX4_isTurned_137 : decode cX4_isTurned 137 = .ok (.ladd, 1) := by decide +kernel
theorem dX4_isTurned_138 : decode cX4_isTurned 138 = .ok (.lstore 4, 2) := by decide +kernel
theorem dX4_isTurned_140 : decode cX4_isTurned 140 = .ok (.aload_n 0, 1) := by decide +kernel
theorem dX4_isTurned_141 : decode cX4_isTurned 141 = .ok (.getfield 19, 3) := by decide +kernel
theorem dX4_isTurned_144 : decode cX4_isTurned 144 = .ok (.iload_n 3, 1) := by decide +kernel
theorem dX4_isTurned_145 : decode cX4_isTurned 145 = .ok (.dup2, 1) := by decide +kernel
theorem dX4_isTurned_146 : decode cX4_isTurned 146 = .ok (.laload, 1) := by decide +kernel
theorem dX4_isTurned_147 : decode cX4_isTurned 147 = .ok (.lload 4, 2) := by decide +kernel
theorem dX4_isTurned_149 : decode cX4_isTurned 149 = .ok (.aload_n 0, 1) := by decide +kernel
theorem dX4_isTurned_150 : decode cX4_isTurned 150 = .ok (.getfield 13, 3) := by decide +kernel
theorem dX4_isTurned_153 : decode cX4_isTurned 153 = .ok (.iload_n 3, 1) := by decide +kernel
theorem dX4_isTurned_154 : decode cX4_isTurned 154 = .ok (.iaload, 1) := by decide +kernel
theorem dX4_isTurned_155 : decode cX4_isTurned 155 = .ok (.i2l, 1) := by decide +kernel
theorem dX4_isTurned_156 : decode cX4_isTurned 156 = .ok (.ldiv, 1) := by decide +kernel
theorem dX4_isTurned_157 : decode cX4_isTurned 157 = .ok (.ladd, 1) := by decide +kernel
theorem dX4_isTurned_158 : decode cX4_isTurned 158 = .ok (.lastore, 1) := by decide +kernel
theorem dX4_isTurned_159 : decode cX4_isTurned 159 = .ok (.aload_n 0, 1) := by decide +kernel
theorem dX4_isTurned_160 : decode cX4_isTurned 160 = .ok (.getfield 23, 3) := by decide +kernel
theorem dX4_isTurned_163 : decode cX4_isTurned 163 = .ok (.iload_n 3, 1) := by decide +kernel
theorem dX4_isTurned_164 : decode cX4_isTurned 164 = .ok (.lload 4, 2) := by decide +kernel
theorem dX4_isTurned_166 : decode cX4_isTurned 166 = .ok (.aload_n 0, 1) := by decide +kernel
theorem dX4_isTurned_167 : decode cX4_isTurned 167 = .ok (.getfield 13, 3) := by decide +kernel
theorem dX4_isTurned_170 : decode cX4_isTurned 170 = .ok (.iload_n 3, 1) := by decide +kernel
theorem dX4_isTurned_171 : decode cX4_isTurned 171 = .ok (.iaload, 1) := by decide +kernel
theorem dX4_isTurned_172 : decode cX4_isTurned 172 = .ok (.i2l, 1) := by decide +kernel
theorem dX4_isTurned_173 : decode cX4_isTurned 173 = .ok (.lrem, 1) := by decide +kernel
theorem dX4_isTurned_174 : decode cX4_isTurned 174 = .ok (.l2i, 1) := by decide +kernel
theorem dX4_isTurned_175 : decode cX4_isTurned 175 = .ok (.iastore, 1) := by decide +kernel
theorem dX4_isTurned_176 : decode cX4_isTurned 176 = .ok (.aload_n 0, 1) := by decide +kernel
theorem dX4_isTurned_177 : decode cX4_isTurned 177 = .ok (.getfield 7, 3) := by decide +kernel
theorem dX4_isTurned_180 : decode cX4_isTurned 180 = .ok (.iload_n 3, 1) := by decide +kernel
theorem dX4_isTurned_181 : decode cX4_isTurned 181 = .ok (.iaload, 1) := by decide +kernel
theorem dX4_isTurned_182 : decode cX4_isTurned 182 = .ok (.istore_n 3, 1) := by decide +kernel
theorem dX4_isTurned_183 : decode cX4_isTurned 183 = .ok (.goto (-85), 3) := by decide +kernel
theorem dX4_isTurned_186 : decode cX4_isTurned 186 = .ok (.aload_n 0, 1) := by decide +kernel
theorem dX4_isTurned_187 : decode cX4_isTurned 187 = .ok (.dup, 1) := by decide +kernel
theorem dX4_isTurned_188 : decode cX4_isTurned 188 = .ok (.getfield 107, 3) := by decide +kernel
theorem dX4_isTurned_191 : decode cX4_isTurned 191 = .ok (.iconst 1, 1) := by decide +kernel
theorem dX4_isTurned_192 : decode cX4_isTurned 192 = .ok (.iadd, 1) := by decide +kernel
theorem dX4_isTurned_193 : decode cX4_isTurned 193 = .ok (.putfield 107, 3) := by decide +kernel
theorem dX4_isTurned_196 : decode cX4_isTurned 196 = .ok (.iconst 0, 1) := by decide +kernel
theorem dX4_isTurned_197 : decode cX4_isTurned 197 = .ok (.istore_n 3, 1) := by decide +kernel
theorem dX4_isTurned_198 : decode cX4_isTurned 198 = .ok (.iload_n 3, 1) := by decide +kernel
theorem dX4_isTurned_199 : decode cX4_isTurned 199 = .ok (.bipush 64, 2) := by decide +kernel
theorem dX4_isTurned_201 : decode cX4_isTurned 201 = .ok (.if_icmp .ge 36, 3) := by decide +kernel
theorem dX4_isTurned_204 : decode cX4_isTurned 204 = .ok (.aload_n 0, 1) := by decide +kernel
theorem dX4_isTurned_205 : decode cX4_isTurned 205 = .ok (.getfield 32, 3) := by decide +kernel
theorem dX4_isTurned_208 : decode cX4_isTurned 208 = .ok (.iload_n 3, 1) := by decide +kernel
theorem dX4_isTurned_209 : decode cX4_isTurned 209 = .ok (.aload_n 0, 1) := by decide +kernel
theorem dX4_isTurned_210 : decode cX4_isTurned 210 = .ok (.getfield 32, 3) := by decide +kernel
theorem dX4_isTurned_213 : decode cX4_isTurned 213 = .ok (.iload_n 3, 1) := by decide +kernel
theorem dX4_isTurned_214 : decode cX4_isTurned 214 = .ok (.iaload, 1) := by decide +kernel
theorem dX4_isTurned_215 : decode cX4_isTurned 215 = .ok (.ifCond .le 14, 3) := by decide +kernel
theorem dX4_isTurned_218 : decode cX4_isTurned 218 = .ok (.aload_n 0, 1) := by decide +kernel
theorem dX4_isTurned_219 : decode cX4_isTurned 219 = .ok (.getfield 32, 3) := by decide +kernel
theorem dX4_isTurned_222 : decode cX4_isTurned 222 = .ok (.iload_n 3, 1) := by decide +kernel
theorem dX4_isTurned_223 : decode cX4_isTurned 223 = .ok (.iaload, 1) := by decide +kernel
theorem dX4_isTurned_224 : decode cX4_isTurned 224 = .ok (.iconst 1, 1) := by decide +kernel
theorem dX4_isTurned_225 : decode cX4_isTurned 225 = .ok (.isub, 1) := by decide +kernel
theorem dX4_isTurned_226 : decode cX4_isTurned 226 = .ok (.goto 4, 3) := by decide +kernel
theorem dX4_isTurned_229 : decode cX4_isTurned 229 = .ok (.iconst 0, 1) := by decide +kernel
theorem dX4_isTurned_230 : decode cX4_isTurned 230 = .ok (.iastore, 1) := by decide +kernel
theorem dX4_isTurned_231 : decode cX4_isTurned 231 = .ok (.iinc 3 1, 3) := by decide +kernel
theorem dX4_isTurned_234 : decode cX4_isTurned 234 = .ok (.goto (-36), 3) := by decide +kernel
theorem dX4_isTurned_237 : decode cX4_isTurned 237 = .ok (.aload_n 0, 1) := by decide +kernel
theorem dX4_isTurned_238 : decode cX4_isTurned 238 = .ok (.invokevirtual 78, 3) := by decide +kernel
theorem dX4_isTurned_241 : decode cX4_isTurned 241 = .ok (.iconst 1, 1) := by decide +kernel
theorem dX4_isTurned_242 : decode cX4_isTurned 242 = .ok (.ireturn, 1) := by decide +kernel
theorem dX4_turn_0 : decode cX4_turn 0 = .ok (.aload_n 0, 1) := by decide +kernel
theorem dX4_turn_1 : decode cX4_turn 1 = .ok (.iconst 0, 1) := by decide +kernel
theorem dX4_turn_2 : decode cX4_turn 2 = .ok (.putfield 58, 3) := by decide +kernel
theorem dX4_turn_5 : decode cX4_turn 5 = .ok (.aload_n 0, 1) := by decide +kernel
theorem dX4_turn_6 : decode cX4_turn 6 = .ok (.invokevirtual 110, 3) := by decide +kernel
theorem dX4_turn_9 : decode cX4_turn 9 = .ok (.ireturn, 1) := by decide +kernel
theorem dX4_turns_0 : decode cX4_turns 0 = .ok (.aload_n 0, 1) := by decide +kernel
theorem dX4_turns_1 : decode cX4_turns 1 = .ok (.iload_n 1, 1) := by decide +kernel
theorem dX4_turns_2 : decode cX4_turns 2 = .ok (.ifCond .lt 10, 3) := by decide +kernel
theorem dX4_turns_5 : decode cX4_turns 5 = .ok (.iload_n 1, 1) := by decide +kernel
theorem dX4_turns_6 : decode cX4_turns 6 = .ok (.sipush 1000, 3) := by decide +kernel
theorem dX4_turns_9 : decode cX4_turns 9 = .ok (.if_icmp .le 7, 3) := by decide +kernel
theorem dX4_turns_12 : decode cX4_turns 12 = .ok (.iconst 1, 1) := by decide +kernel
theorem dX4_turns_13 : decode cX4_turns 13 = .ok (.goto 4, 3) := by decide +kernel
theorem dX4_turns_16 : decode cX4_turns 16 = .ok (.iconst 0, 1) := by decide +kernel
theorem dX4_turns_17 : decode cX4_turns 17 = .ok (.putfield 58, 3) := by decide +kernel
theorem dX4_turns_20 : decode cX4_turns 20 = .ok (.iconst 0, 1) := by decide +kernel
theorem dX4_turns_21 : decode cX4_turns 21 = .ok (.istore_n 2, 1) := by decide +kernel
theorem dX4_turns_22 : decode cX4_turns 22 = .ok (.aload_n 0, 1) := by decide +kernel
theorem dX4_turns_23 : decode cX4_turns 23 = .ok (.getfield 58, 3) := by decide +kernel
theorem dX4_turns_26 : decode cX4_turns 26 = .ok (.ifCond .ne 21, 3) := by decide +kernel
theorem dX4_turns_29 : decode cX4_turns 29 = .ok (.iload_n 2, 1) := by decide +kernel
theorem dX4_turns_30 : decode cX4_turns 30 = .ok (.iload_n 1, 1) := by decide +kernel
theorem dX4_turns_31 : decode cX4_turns 31 = .ok (.if_icmp .ge 16, 3) := by decide +kernel
theorem dX4_turns_34 : decode cX4_turns 34 = .ok (.aload_n 0, 1) := by decide +kernel
theorem dX4_turns_35 : decode cX4_turns 35 = .ok (.invokevirtual 110, 3) := by decide +kernel
theorem dX4_turns_38 : decode cX4_turns 38 = .ok (.ifCond .eq 9, 3) := by decide +kernel
theorem dX4_turns_41 : decode cX4_turns 41 = .ok (.iinc 2 1, 3) := by decide +kernel
theorem dX4_turns_44 : decode cX4_turns 44 = .ok (.goto (-22), 3) := by decide +kernel
theorem dX4_turns_47 : decode cX4_turns 47 = .ok (.iload_n 2, 1) := by decide +kernel
theorem dX4_turns_48 : decode cX4_turns 48 = .ok (.ireturn, 1) := by decide +kernel
theorem dX4_latest_0 : decode cX4_latest 0 = .ok (.aload_n 0, 1) := by decide +kernel
theorem dX4_latest_1 : decode cX4_latest 1 = .ok (.iload_n 1, 1) := by decide +kernel
theorem dX4_latest_2 : decode cX4_latest 2 = .ok (.ifCond .lt 8, 3) := by decide +kernel
theorem dX4_latest_5 : decode cX4_latest 5 = .ok (.iload_n 1, 1) := by decide +kernel
theorem dX4_latest_6 : decode cX4_latest 6 = .ok (.iconst 2, 1) := by decide +kernel
theorem dX4_latest_7 : decode cX4_latest 7 = .ok (.if_icmp .le 7, 3) := by decide +kernel
theorem dX4_latest_10 : decode cX4_latest 10 = .ok (.iconst 1, 1) := by decide +kernel
theorem dX4_latest_11 : decode cX4_latest 11 = .ok (.goto 4, 3) := by decide +kernel
theorem dX4_latest_14 : decode cX4_latest 14 = .ok (.iconst 0, 1) := by decide +kernel
theorem dX4_latest_15 : decode cX4_latest 15 = .ok (.putfield 58, 3) := by decide +kernel
theorem dX4_latest_18 : decode cX4_latest 18 = .ok (.aload_n 0, 1) := by decide +kernel
theorem dX4_latest_19 : decode cX4_latest 19 = .ok (.getfield 58, 3) := by decide +kernel
theorem dX4_latest_22 : decode cX4_latest 22 = .ok (.ifCond .le 7, 3) := by decide +kernel
theorem dX4_latest_25 : decode cX4_latest 25 = .ok (.iconst 0, 1) := by decide +kernel
theorem dX4_latest_26 : decode cX4_latest 26 = .ok (.goto 30, 3) := by decide +kernel
theorem dX4_latest_29 : decode cX4_latest 29 = .ok (.iload_n 1, 1) := by decide +kernel
theorem dX4_latest_30 : decode cX4_latest 30 = .ok (.ifCond .ne 10, 3) := by decide +kernel
theorem dX4_latest_33 : decode cX4_latest 33 = .ok (.aload_n 0, 1) := by decide +kernel
theorem dX4_latest_34 : decode cX4_latest 34 = .ok (.getfield 51, 3) := by decide +kernel
theorem dX4_latest_37 : decode cX4_latest 37 = .ok (.goto 19, 3) := by decide +kernel
theorem dX4_latest_40 : decode cX4_latest 40 = .ok (.iload_n 1, 1) := by decide +kernel
theorem dX4_latest_41 : decode cX4_latest 41 = .ok (.iconst 1, 1) := by decide +kernel
theorem dX4_latest_42 : decode cX4_latest 42 = .ok (.if_icmp .ne 10, 3) := by decide +kernel
theorem dX4_latest_45 : decode cX4_latest 45 = .ok (.aload_n 0, 1) := by decide +kernel
theorem dX4_latest_46 : decode cX4_latest 46 = .ok (.getfield 98, 3) := by decide +kernel
theorem dX4_latest_49 : decode cX4_latest 49 = .ok (.goto 7, 3) := by decide +kernel
theorem dX4_latest_52 : decode cX4_latest 52 = .ok (.aload_n 0, 1) := by decide +kernel
theorem dX4_latest_53 : decode cX4_latest 53 = .ok (.getfield 55, 3) := by decide +kernel
theorem dX4_latest_56 : decode cX4_latest 56 = .ok (.ireturn, 1) := by decide +kernel
theorem dX4_clear_0 : decode cX4_clear 0 = .ok (.aload_n 0, 1) := by decide +kernel
theorem dX4_clear_1 : decode cX4_clear 1 = .ok (.aload_n 0, 1) := by decide +kernel
theorem dX4_clear_2 : decode cX4_clear 2 = .ok (.iload_n 1, 1) := by decide +kernel
theorem dX4_clear_3 : decode cX4_clear 3 = .ok (.invokevirtual 71, 3) := by decide +kernel
theorem dX4_clear_6 : decode cX4_clear 6 = .ok (.ifCond .eq 7, 3) := by decide +kernel
theorem dX4_clear_9 : decode cX4_clear 9 = .ok (.iconst 0, 1) := by decide +kernel
theorem dX4_clear_10 : decode cX4_clear 10 = .ok (.goto 4, 3) := by decide +kernel
theorem dX4_clear_13 : decode cX4_clear 13 = .ok (.iconst 1, 1) := by decide +kernel
theorem dX4_clear_14 : decode cX4_clear 14 = .ok (.putfield 58, 3) := by decide +kernel
theorem dX4_clear_17 : decode cX4_clear 17 = .ok (.aload_n 0, 1) := by decide +kernel
theorem dX4_clear_18 : decode cX4_clear 18 = .ok (.getfield 58, 3) := by decide +kernel
theorem dX4_clear_21 : decode cX4_clear 21 = .ok (.ifCond .le 5, 3) := by decide +kernel
theorem dX4_clear_24 : decode cX4_clear 24 = .ok (.iconst 0, 1) := by decide +kernel
theorem dX4_clear_25 : decode cX4_clear 25 = .ok (.ireturn, 1) := by decide +kernel
theorem dX4_clear_26 : decode cX4_clear 26 = .ok (.iconst 0, 1) := by decide +kernel
theorem dX4_clear_27 : decode cX4_clear 27 = .ok (.istore_n 2, 1) := by decide +kernel
theorem dX4_clear_28 : decode cX4_clear 28 = .ok (.aload_n 0, 1) := by decide +kernel
theorem dX4_clear_29 : decode cX4_clear 29 = .ok (.getfield 65, 3) := by decide +kernel
theorem dX4_clear_32 : decode cX4_clear 32 = .ok (.iconst 1, 1) := by decide +kernel
theorem dX4_clear_33 : decode cX4_clear 33 = .ok (.isub, 1) := by decide +kernel
theorem dX4_clear_34 : decode cX4_clear 34 = .ok (.istore_n 3, 1) := by decide +kernel
theorem dX4_clear_35 : decode cX4_clear 35 = .ok (.iload_n 3, 1) := by decide +kernel
theorem dX4_clear_36 : decode cX4_clear 36 = .ok (.ifCond .lt 31, 3) := by decide +kernel
theorem dX4_clear_39 : decode cX4_clear 39 = .ok (.aload_n 0, 1) := by decide +kernel
theorem dX4_clear_40 : decode cX4_clear 40 = .ok (.aload_n 0, 1) := by decide +kernel
theorem dX4_clear_41 : decode cX4_clear 41 = .ok (.getfield 42, 3) := by decide +kernel
theorem dX4_clear_44 : decode cX4_clear 44 = .ok (.iload_n 3, 1) := by decide +kernel
theorem dX4_clear_45 : decode cX4_clear 45 = .ok (.iaload, 1) := by decide +kernel
theorem dX4_clear_46 : decode cX4_clear 46 = .ok (.iload_n 1, 1) := by decide +kernel
theorem dX4_clear_47 : decode cX4_clear 47 = .ok (.invokevirtual 84, 3) := by decide +kernel
theorem dX4_clear_50 : decode cX4_clear 50 = .ok (.ifCond .eq 11, 3) := by decide +kernel
theorem dX4_clear_53 : decode cX4_clear 53 = .ok (.aload_n 0, 1) := by decide +kernel
theorem dX4_clear_54 : decode cX4_clear 54 = .ok (.iload_n 3, 1) := by decide +kernel
theorem dX4_clear_55 : decode cX4_clear 55 = .ok (.invokevirtual 101, 3) := by decide +kernel
theorem dX4_clear_58 : decode cX4_clear 58 = .ok (.iinc 2 1, 3) := by decide +kernel
theorem dX4_clear_61 : decode cX4_clear 61 = .ok (.iinc 3 (-1), 3) := by decide +kernel
theorem dX4_clear_64 : decode cX4_clear 64 = .ok (.goto (-29), 3) := by decide +kernel
theorem dX4_clear_67 : decode cX4_clear 67 = .ok (.aload_n 0, 1) := by decide +kernel
theorem dX4_clear_68 : decode cX4_clear 68 = .ok (.dup, 1) := by decide +kernel
theorem dX4_clear_69 : decode cX4_clear 69 = .ok (.getfield 88, 3) := by decide +kernel
theorem dX4_clear_72 : decode cX4_clear 72 = .ok (.iload_n 2, 1) := by decide +kernel
theorem dX4_clear_73 : decode cX4_clear 73 = .ok (.iadd, 1) := by decide +kernel
theorem dX4_clear_74 : decode cX4_clear 74 = .ok (.putfield 88, 3) := by decide +kernel
theorem dX4_clear_77 : decode cX4_clear 77 = .ok (.aload_n 0, 1) := by decide +kernel
theorem dX4_clear_78 : decode cX4_clear 78 = .ok (.invokevirtual 78, 3) := by decide +kernel
theorem dX4_clear_81 : decode cX4_clear 81 = .ok (.iload_n 2, 1) := by decide +kernel
theorem dX4_clear_82 : decode cX4_clear 82 = .ok (.ireturn, 1) := by decide +kernel
theorem dX4_hold_0 : decode cX4_hold 0 = .ok (.aload_n 0, 1) := by decide +kernel
theorem dX4_hold_1 : decode cX4_hold 1 = .ok (.aload_n 0, 1) := by decide +kernel
theorem dX4_hold_2 : decode cX4_hold 2 = .ok (.iload_n 1, 1) := by decide +kernel
theorem dX4_hold_3 : decode cX4_hold 3 = .ok (.invokevirtual 71, 3) := by decide +kernel
theorem dX4_hold_6 : decode cX4_hold 6 = .ok (.ifCond .eq 7, 3) := by decide +kernel
theorem dX4_hold_9 : decode cX4_hold 9 = .ok (.iload_n 1, 1) := by decide +kernel
theorem dX4_hold_10 : decode cX4_hold 10 = .ok (.ifCond .ne 7, 3) := by decide +kernel
theorem dX4_hold_13 : decode cX4_hold 13 = .ok (.iconst 1, 1) := by decide +kernel
theorem dX4_hold_14 : decode cX4_hold 14 = .ok (.goto 19, 3) := by decide +kernel
theorem dX4_hold_17 : decode cX4_hold 17 = .ok (.iload_n 2, 1) := by decide +kernel
theorem dX4_hold_18 : decode cX4_hold 18 = .ok (.ifCond .lt 10, 3) := by decide +kernel
theorem dX4_hold_21 : decode cX4_hold 21 = .ok (.iload_n 2, 1) := by decide +kernel
theorem dX4_hold_22 : decode cX4_hold 22 = .ok (.sipush 1000, 3) := by decide +kernel
theorem dX4_hold_25 : decode cX4_hold 25 = .ok (.if_icmp .le 7, 3) := by decide +kernel
theorem dX4_hold_28 : decode cX4_hold 28 = .ok (.iconst 2, 1) := by decide +kernel
theorem dX4_hold_29 : decode cX4_hold 29 = .ok (.goto 4, 3) := by decide +kernel
theorem dX4_hold_32 : decode cX4_hold 32 = .ok (.iconst 0, 1) := by decide +kernel
theorem dX4_hold_33 : decode cX4_hold 33 = .ok (.putfield 58, 3) := by decide +kernel
theorem dX4_hold_36 : decode cX4_hold 36 = .ok (.aload_n 0, 1) := by decide +kernel
theorem dX4_hold_37 : decode cX4_hold 37 = .ok (.getfield 58, 3) := by decide +kernel
theorem dX4_hold_40 : decode cX4_hold 40 = .ok (.ifCond .ne 14, 3) := by decide +kernel
theorem dX4_hold_43 : decode cX4_hold 43 = .ok (.aload_n 0, 1) := by decide +kernel
theorem dX4_hold_44 : decode cX4_hold 44 = .ok (.getfield 32, 3) := by decide +kernel
theorem dX4_hold_47 : decode cX4_hold 47 = .ok (.iload_n 1, 1) := by decide +kernel
theorem dX4_hold_48 : decode cX4_hold 48 = .ok (.iload_n 2, 1) := by decide +kernel
theorem dX4_hold_49 : decode cX4_hold 49 = .ok (.iastore, 1) := by decide +kernel
theorem dX4_hold_50 : decode cX4_hold 50 = .ok (.aload_n 0, 1) := by decide +kernel
theorem dX4_hold_51 : decode cX4_hold 51 = .ok (.invokevirtual 78, 3) := by decide +kernel
theorem dX4_hold_54 : decode cX4_hold 54 = .ok (.return_, 1) := by decide +kernel
theorem dX4_child_0 : decode cX4_child 0 = .ok (.aload_n 0, 1) := by decide +kernel
theorem dX4_child_1 : decode cX4_child 1 = .ok (.aload_n 0, 1) := by decide +kernel
theorem dX4_child_2 : decode cX4_child 2 = .ok (.iload_n 1, 1) := by decide +kernel
theorem dX4_child_3 : decode cX4_child 3 = .ok (.invokevirtual 71, 3) := by decide +kernel
theorem dX4_child_6 : decode cX4_child 6 = .ok (.ifCond .eq 20, 3) := by decide +kernel
theorem dX4_child_9 : decode cX4_child 9 = .ok (.iload_n 2, 1) := by decide +kernel
theorem dX4_child_10 : decode cX4_child 10 = .ok (.ifCond .lt 16, 3) := by decide +kernel
theorem dX4_child_13 : decode cX4_child 13 = .ok (.iload_n 2, 1) := by decide +kernel
theorem dX4_child_14 : decode cX4_child 14 = .ok (.aload_n 0, 1) := by decide +kernel
theorem dX4_child_15 : decode cX4_child 15 = .ok (.iload_n 1, 1) := by decide +kernel
theorem dX4_child_16 : decode cX4_child 16 = .ok (.invokevirtual 61, 3) := by decide +kernel
theorem dX4_child_19 : decode cX4_child 19 = .ok (.if_icmp .ge 7, 3) := by decide +kernel
theorem dX4_child_22 : decode cX4_child 22 = .ok (.iconst 0, 1) := by decide +kernel
theorem dX4_child_23 : decode cX4_child 23 = .ok (.goto 4, 3) := by decide +kernel
theorem dX4_child_26 : decode cX4_child 26 = .ok (.iconst 1, 1) := by decide +kernel
theorem dX4_child_27 : decode cX4_child 27 = .ok (.putfield 58, 3) := by decide +kernel
theorem dX4_child_30 : decode cX4_child 30 = .ok (.aload_n 0, 1) := by decide +kernel
theorem dX4_child_31 : decode cX4_child 31 = .ok (.getfield 58, 3) := by decide +kernel
theorem dX4_child_34 : decode cX4_child 34 = .ok (.ifCond .le 5, 3) := by decide +kernel
theorem dX4_child_37 : decode cX4_child 37 = .ok (.iconst 0, 1) := by decide +kernel
theorem dX4_child_38 : decode cX4_child 38 = .ok (.ireturn, 1) := by decide +kernel
theorem dX4_child_39 : decode cX4_child 39 = .ok (.iconst 1, 1) := by decide +kernel
theorem dX4_child_40 : decode cX4_child 40 = .ok (.istore_n 3, 1) := by decide +kernel
theorem dX4_child_41 : decode cX4_child 41 = .ok (.iload_n 3, 1) := by decide +kernel
theorem dX4_child_42 : decode cX4_child 42 = .ok (.bipush 64, 2) := by decide +kernel
theorem dX4_child_44 : decode cX4_child 44 = .ok (.if_icmp .ge 117, 3) := by decide +kernel
theorem dX4_child_47 : decode cX4_child 47 = .ok (.iconst 0, 1) := by decide +kernel
theorem dX4_child_48 : decode cX4_child 48 = .ok (.istore 4, 2) := by decide +kernel
theorem dX4_child_50 : decode cX4_child 50 = .ok (.iconst 1, 1) := by decide +kernel
theorem dX4_child_51 : decode cX4_child 51 = .ok (.istore 5, 2) := by decide +kernel
theorem dX4_child_53 : decode cX4_child 53 = .ok (.iload 5, 2) := by decide +kernel
theorem dX4_child_55 : decode cX4_child 55 = .ok (.bipush 64, 2) := by decide +kernel
theorem dX4_child_57 : decode cX4_child 57 = .ok (.if_icmp .ge 80, 3) := by decide +kernel
theorem dX4_child_60 : decode cX4_child 60 = .ok (.aload_n 0, 1) := by decide +kernel
theorem dX4_child_61 : decode cX4_child 61 = .ok (.getfield 7, 3) := by decide +kernel
theorem dX4_child_64 : decode cX4_child 64 = .ok (.iload_n 3, 1) := by decide +kernel
theorem dX4_child_65 : decode cX4_child 65 = .ok (.iaload, 1) := by decide +kernel
theorem dX4_child_66 : decode cX4_child 66 = .ok (.iload_n 1, 1) := by decide +kernel
theorem dX4_child_67 : decode cX4_child 67 = .ok (.if_icmp .ne 70, 3) := by decide +kernel
theorem dX4_child_70 : decode cX4_child 70 = .ok (.iload 4, 2) := by decide +kernel
theorem dX4_child_72 : decode cX4_child 72 = .ok (.aload_n 0, 1) := by decide +kernel
theorem dX4_child_73 : decode cX4_child 73 = .ok (.getfield 7, 3) := by decide +kernel
theorem dX4_child_76 : decode cX4_child 76 = .ok (.iload 5, 2) := by decide +kernel
theorem dX4_child_78 : decode cX4_child 78 = .ok (.iaload, 1) := by decide +kernel
theorem dX4_child_79 : decode cX4_child 79 = .ok (.iload_n 1, 1) := by decide +kernel
theorem dX4_child_80 : decode cX4_child 80 = .ok (.if_icmp .ne 47, 3) := by decide +kernel
theorem dX4_child_83 : decode cX4_child 83 = .ok (.aload_n 0, 1) := by decide +kernel
theorem dX4_child_84 : decode cX4_child 84 = .ok (.getfield 19, 3) := by decide +kernel
theorem dX4_child_87 : decode cX4_child 87 = .ok (.iload 5, 2) := by decide +kernel
theorem dX4_child_89 : decode cX4_child 89 = .ok (.laload, 1) := by decide +kernel
theorem dX4_child_90 : decode cX4_child 90 = .ok (.aload_n 0, 1) := by decide +kernel
theorem dX4_child_91 : decode cX4_child 91 = .ok (.getfield 19, 3) := by decide +kernel
theorem dX4_child_94 : decode cX4_child 94 = .ok (.iload_n 3, 1) := by decide +kernel
theorem dX4_child_95 : decode cX4_child 95 = .ok (.laload, 1) := by decide +kernel
theorem dX4_child_96 : decode cX4_child 96 = .ok (.lcmp, 1) := by decide +kernel
theorem dX4_child_97 : decode cX4_child 97 = .ok (.ifCond .lt 26, 3) := by decide +kernel
theorem dX4_child_100 : decode cX4_child 100 = .ok (.aload_n 0, 1) := by decide +kernel
theorem dX4_child_101 : decode cX4_child 101 = .ok (.getfield 19, 3) := by decide +kernel
theorem dX4_child_104 : decode cX4_child 104 = .ok (.iload 5, 2) := by decide +kernel
theorem dX4_child_106 : decode cX4_child 106 = .ok (.laload, 1) := by decide +kernel
theorem dX4_child_107 : decode cX4_child 107 = .ok (.aload_n 0, 1) := by decide +kernel
theorem dX4_child_108 : decode cX4_child 108 = .ok (.getfield 19, 3) := by decide +kernel
theorem dX4_child_111 : decode cX4_child 111 = .ok (.iload_n 3, 1) := by decide +kernel
theorem dX4_child_112 : decode cX4_child 112 = .ok (.laload, 1) := by decide +kernel
theorem dX4_child_113 : decode cX4_child 113 = .ok (.lcmp, 1) := by decide +kernel
theorem dX4_child_114 : decode cX4_child 114 = .ok (.ifCond .ne 13, 3) := by decide +kernel
theorem dX4_child_117 : decode cX4_child 117 = .ok (.iload 5, 2) := by decide +kernel
theorem dX4_child_119 : decode cX4_child 119 = .ok (.iload_n 3, 1) := by decide +kernel
theorem dX4_child_120 : decode cX4_child 120 = .ok (.if_icmp .ge 7, 3) := by decide +kernel
theorem dX4_child_123 : decode cX4_child 123 = .ok (.iconst 1, 1) := by decide +kernel
theorem dX4_child_124 : decode cX4_child 124 = .ok (.goto 4, 3) := by decide +kernel
theorem dX4_child_127 : decode cX4_child 127 = .ok (.iconst 0, 1) := by decide +kernel
theorem dX4_child_128 : decode cX4_child 128 = .ok (.iadd, 1) := by decide +kernel
theorem dX4_child_129 : decode cX4_child 129 = .ok (.istore 4, 2) := by decide +kernel
theorem dX4_child_131 : decode cX4_child 131 = .ok (.iinc 5 1, 3) := by decide +kernel
theorem dX4_child_134 : decode cX4_child 134 = .ok (.goto (-81), 3) := by decide +kernel
theorem dX4_child_137 : decode cX4_child 137 = .ok (.aload_n 0, 1) := by decide +kernel
theorem dX4_child_138 : decode cX4_child 138 = .ok (.getfield 7, 3) := by decide +kernel
theorem dX4_child_141 : decode cX4_child 141 = .ok (.iload_n 3, 1) := by decide +kernel
theorem dX4_child_142 : decode cX4_child 142 = .ok (.iaload, 1) := by decide +kernel
theorem dX4_child_143 : decode cX4_child 143 = .ok (.iload_n 1, 1) := by decide +kernel
theorem dX4_child_144 : decode cX4_child 144 = .ok (.if_icmp .ne 11, 3) := by decide +kernel
theorem dX4_child_147 : decode cX4_child 147 = .ok (.iload 4, 2) := by decide +kernel
theorem dX4_child_149 : decode cX4_child 149 = .ok (.iload_n 2, 1) := by decide +kernel
theorem dX4_child_150 : decode cX4_child 150 = .ok (.if_icmp .ne 5, 3) := by decide +kernel
theorem dX4_child_153 : decode cX4_child 153 = .ok (.iload_n 3, 1) := by decide +kernel
theorem dX4_child_154 : decode cX4_child 154 = .ok (.ireturn, 1) := by decide +kernel
theorem dX4_child_155 : decode cX4_child 155 = .ok (.iinc 3 1, 3) := by decide +kernel
theorem dX4_child_158 : decode cX4_child 158 = .ok (.goto (-117), 3) := by decide +kernel
theorem dX4_child_161 : decode cX4_child 161 = .ok (.iconst 0, 1) := by decide +kernel
theorem dX4_child_162 : decode cX4_child 162 = .ok (.ireturn, 1) := by decide +kernel
theorem dX4_packet_0 : decode cX4_packet 0 = .ok (.aload_n 0, 1) := by decide +kernel
theorem dX4_packet_1 : decode cX4_packet 1 = .ok (.aload_n 0, 1) := by decide +kernel
theorem dX4_packet_2 : decode cX4_packet 2 = .ok (.iload_n 1, 1) := by decide +kernel
theorem dX4_packet_3 : decode cX4_packet 3 = .ok (.invokevirtual 71, 3) := by decide +kernel
theorem dX4_packet_6 : decode cX4_packet 6 = .ok (.ifCond .eq 28, 3) := by decide +kernel
theorem dX4_packet_9 : decode cX4_packet 9 = .ok (.aload_n 0, 1) := by decide +kernel
theorem dX4_packet_10 : decode cX4_packet 10 = .ok (.iload_n 1, 1) := by decide +kernel
theorem dX4_packet_11 : decode cX4_packet 11 = .ok (.invokevirtual 81, 3) := by decide +kernel
theorem dX4_packet_14 : decode cX4_packet 14 = .ok (.ifCond .eq 20, 3) := by decide +kernel
theorem dX4_packet_17 : decode cX4_packet 17 = .ok (.iload_n 2, 1) := by decide +kernel
theorem dX4_packet_18 : decode cX4_packet 18 = .ok (.ifCond .lt 16, 3) := by decide +kernel
theorem dX4_packet_21 : decode cX4_packet 21 = .ok (.iload_n 2, 1) := by decide +kernel
theorem dX4_packet_22 : decode cX4_packet 22 = .ok (.aload_n 0, 1) := by decide +kernel
theorem dX4_packet_23 : decode cX4_packet 23 = .ok (.iload_n 1, 1) := by decide +kernel
theorem dX4_packet_24 : decode cX4_packet 24 = .ok (.invokevirtual 75, 3) := by decide +kernel
theorem dX4_packet_27 : decode cX4_packet 27 = .ok (.if_icmp .ge 7, 3) := by decide +kernel
theorem dX4_packet_30 : decode cX4_packet 30 = .ok (.iconst 0, 1) := by decide +kernel
theorem dX4_packet_31 : decode cX4_packet 31 = .ok (.goto 4, 3) := by decide +kernel
theorem dX4_packet_34 : decode cX4_packet 34 = .ok (.iconst 1, 1) := by decide +kernel
theorem dX4_packet_35 : decode cX4_packet 35 = .ok (.putfield 58, 3) := by decide +kernel
theorem dX4_packet_38 : decode cX4_packet 38 = .ok (.iload_n 2, 1) := by decide +kernel
theorem dX4_packet_39 : decode cX4_packet 39 = .ok (.istore_n 3, 1) := by decide +kernel
theorem dX4_packet_40 : decode cX4_packet 40 = .ok (.iconst 0, 1) := by decide +kernel
theorem dX4_packet_41 : decode cX4_packet 41 = .ok (.istore 4, 2) := by decide +kernel
theorem dX4_packet_43 : decode cX4_packet 43 = .ok (.iload 4, 2) := by decide +kernel
theorem dX4_packet_45 : decode cX4_packet 45 = .ok (.aload_n 0, 1) := by decide +kernel
theorem dX4_packet_46 : decode cX4_packet 46 = .ok (.getfield 65, 3) := by decide +kernel
theorem dX4_packet_49 : decode cX4_packet 49 = .ok (.if_icmp .ge 42, 3) := by decide +kernel
theorem dX4_packet_52 : decode cX4_packet 52 = .ok (.aload_n 0, 1) := by decide +kernel
theorem dX4_packet_53 : decode cX4_packet 53 = .ok (.getfield 58, 3) := by decide +kernel
theorem dX4_packet_56 : decode cX4_packet 56 = .ok (.ifCond .ne 35, 3) := by decide +kernel
theorem dX4_packet_59 : decode cX4_packet 59 = .ok (.aload_n 0, 1) := by decide +kernel
theorem dX4_packet_60 : decode cX4_packet 60 = .ok (.getfield 42, 3) := by decide +kernel
theorem dX4_packet_63 : decode cX4_packet 63 = .ok (.iload 4, 2) := by decide +kernel
theorem dX4_packet_65 : decode cX4_packet 65 = .ok (.iaload, 1) := by decide +kernel
theorem dX4_packet_66 : decode cX4_packet 66 = .ok (.iload_n 1, 1) := by decide +kernel
theorem dX4_packet_67 : decode cX4_packet 67 = .ok (.if_icmp .ne 18, 3) := by decide +kernel
theorem dX4_packet_70 : decode cX4_packet 70 = .ok (.iload_n 3, 1) := by decide +kernel
theorem dX4_packet_71 : decode cX4_packet 71 = .ok (.ifCond .ne 11, 3) := by decide +kernel
theorem dX4_packet_74 : decode cX4_packet 74 = .ok (.aload_n 0, 1) := by decide +kernel
theorem dX4_packet_75 : decode cX4_packet 75 = .ok (.getfield 45, 3) := by decide +kernel
theorem dX4_packet_78 : decode cX4_packet 78 = .ok (.iload 4, 2) := by decide +kernel
theorem dX4_packet_80 : decode cX4_packet 80 = .ok (.iaload, 1) := by decide +kernel
theorem dX4_packet_81 : decode cX4_packet 81 = .ok (.ireturn, 1) := by decide +kernel
theorem dX4_packet_82 : decode cX4_packet 82 = .ok (.iinc 3 (-1), 3) := by decide +kernel
theorem dX4_packet_85 : decode cX4_packet 85 = .ok (.iinc 4 1, 3) := by decide +kernel
theorem dX4_packet_88 : decode cX4_packet 88 = .ok (.goto (-45), 3) := by decide +kernel
theorem dX4_packet_91 : decode cX4_packet 91 = .ok (.iconst 0, 1) := by decide +kernel
theorem dX4_packet_92 : decode cX4_packet 92 = .ok (.ireturn, 1) := by decide +kernel
