theorem dX3_packetsInside_0 : decode cX3_packetsInside 0 = .ok (.iconst 0, 1) := by decide +kernel
theorem dX3_packetsInside_1 : decode cX3_packetsInside 1 = .ok (.istore_n 2, 1) := by decide +kernel
theorem dX3_packetsInside_2 : decode cX3_packetsInside 2 = .ok (.iconst 0, 1) := by decide +kernel
theorem dX3_packetsInside_3 : decode cX3_packetsInside 3 = .ok (.istore_n 3, 1) := by decide +kernel
theorem dX3_packetsInside_4 : decode cX3_packetsInside 4 = .ok (.iload_n 3, 1) := by decide +kernel
theorem dX3_packetsInside_5 : decode cX3_packetsInside 5 = .ok (.bipush 64, 2) := by decide +kernel
theorem dX3_packetsInside_7 : decode cX3_packetsInside 7 = .ok (.if_icmp .ge 37, 3) := by decide +kernel
theorem dX3_packetsInside_10 : decode cX3_packetsInside 10 = .ok (.aload_n 0, 1) := by decide +kernel
theorem dX3_packetsInside_11 : decode cX3_packetsInside 11 = .ok (.iload_n 3, 1) := by decide +kernel
theorem dX3_packetsInside_12 : decode cX3_packetsInside 12 = .ok (.aload_n 1, 1) := by decide +kernel
theorem dX3_packetsInside_13 : decode cX3_packetsInside 13 = .ok (.invokevirtual 129, 3) := by decide +kernel
theorem dX3_packetsInside_16 : decode cX3_packetsInside 16 = .ok (.astore 4, 2) := by decide +kernel
theorem dX3_packetsInside_18 : decode cX3_packetsInside 18 = .ok (.iload_n 2, 1) := by decide +kernel
theorem dX3_packetsInside_19 : decode cX3_packetsInside 19 = .ok (.aload 4, 2) := by decide +kernel
theorem dX3_packetsInside_21 : decode cX3_packetsInside 21 = .ok (.ifnonnull 7, 3) := by decide +kernel
theorem dX3_packetsInside_24 : decode cX3_packetsInside 24 = .ok (.iconst 0, 1) := by decide +kernel
theorem dX3_packetsInside_25 : decode cX3_packetsInside 25 = .ok (.goto 11, 3) := by decide +kernel
theorem dX3_packetsInside_28 : decode cX3_packetsInside 28 = .ok (.aload 4, 2) := by decide +kernel
theorem dX3_packetsInside_30 : decode cX3_packetsInside 30 = .ok (.getfield 43, 3) := by decide +kernel
theorem dX3_packetsInside_33 : decode cX3_packetsInside 33 = .ok (.getfield 47, 3) := by decide +kernel
theorem dX3_packetsInside_36 : decode cX3_packetsInside 36 = .ok (.iadd, 1) := by decide +kernel
theorem dX3_packetsInside_37 : decode cX3_packetsInside 37 = .ok (.istore_n 2, 1) := by decide +kernel
theorem dX3_packetsInside_38 : decode cX3_packetsInside 38 = .ok (.iinc 3 1, 3) := by decide +kernel
theorem dX3_packetsInside_41 : decode cX3_packetsInside 41 = .ok (.goto (-37), 3) := by decide +kernel
theorem dX3_packetsInside_44 : decode cX3_packetsInside 44 = .ok (.iload_n 2, 1) := by decide +kernel
theorem dX3_packetsInside_45 : decode cX3_packetsInside 45 = .ok (.ireturn, 1) := by decide +kernel
theorem dX3_openLeaves_0 : decode cX3_openLeaves 0 = .ok (.iconst 0, 1) := by decide +kernel
theorem dX3_openLeaves_1 : decode cX3_openLeaves 1 = .ok (.istore_n 1, 1) := by decide +kernel
theorem dX3_openLeaves_2 : decode cX3_openLeaves 2 = .ok (.iconst 0, 1) := by decide +kernel
theorem dX3_openLeaves_3 : decode cX3_openLeaves 3 = .ok (.istore_n 2, 1) := by decide +kernel
theorem dX3_openLeaves_4 : decode cX3_openLeaves 4 = .ok (.iload_n 2, 1) := by decide +kernel
theorem dX3_openLeaves_5 : decode cX3_openLeaves 5 = .ok (.bipush 64, 2) := by decide +kernel
theorem dX3_openLeaves_7 : decode cX3_openLeaves 7 = .ok (.if_icmp .ge 37, 3) := by decide +kernel
theorem dX3_openLeaves_10 : decode cX3_openLeaves 10 = .ok (.aload_n 0, 1) := by decide +kernel
theorem dX3_openLeaves_11 : decode cX3_openLeaves 11 = .ok (.getfield 18, 3) := by decide +kernel
theorem dX3_openLeaves_14 : decode cX3_openLeaves 14 = .ok (.iload_n 2, 1) := by decide +kernel
theorem dX3_openLeaves_15 : decode cX3_openLeaves 15 = .ok (.aaload, 1) := by decide +kernel
theorem dX3_openLeaves_16 : decode cX3_openLeaves 16 = .ok (.astore_n 3, 1) := by decide +kernel
theorem dX3_openLeaves_17 : decode cX3_openLeaves 17 = .ok (.aload_n 3, 1) := by decide +kernel
theorem dX3_openLeaves_18 : decode cX3_openLeaves 18 = .ok (.ifnull 20, 3) := by decide +kernel
theorem dX3_openLeaves_21 : decode cX3_openLeaves 21 = .ok (.aload_n 3, 1) := by decide +kernel
theorem dX3_openLeaves_22 : decode cX3_openLeaves 22 = .ok (.getfield 99, 3) := by decide +kernel
theorem dX3_openLeaves_25 : decode cX3_openLeaves 25 = .ok (.ifCond .eq 13, 3) := by decide +kernel
theorem dX3_openLeaves_28 : decode cX3_openLeaves 28 = .ok (.aload_n 3, 1) := by decide +kernel
theorem dX3_openLeaves_29 : decode cX3_openLeaves 29 = .ok (.invokevirtual 69, 3) := by decide +kernel
theorem dX3_openLeaves_32 : decode cX3_openLeaves 32 = .ok (.ifCond .eq 6, 3) := by decide +kernel
theorem dX3_openLeaves_35 : decode cX3_openLeaves 35 = .ok (.iinc 1 1, 3) := by decide +kernel
theorem dX3_openLeaves_38 : decode cX3_openLeaves 38 = .ok (.iinc 2 1, 3) := by decide +kernel
theorem dX3_openLeaves_41 : decode cX3_openLeaves 41 = .ok (.goto (-37), 3) := by decide +kernel
theorem dX3_openLeaves_44 : decode cX3_openLeaves 44 = .ok (.iload_n 1, 1) := by decide +kernel
theorem dX3_openLeaves_45 : decode cX3_openLeaves 45 = .ok (.ireturn, 1) := by decide +kernel
theorem dX4_init_0 : decode cX4_init 0 = .ok (.aload_n 0, 1) := by decide +kernel
theorem dX4_init_1 : decode cX4_init 1 = .ok (.invokespecial 1, 3) := by decide +kernel
theorem dX4_init_4 : decode cX4_init 4 = .ok (.aload_n 0, 1) := by decide +kernel
theorem dX4_init_5 : decode cX4_init 5 = .ok (.bipush 64, 2) := by decide +kernel
theorem dX4_init_7 : decode cX4_init 7 = .ok (.newarray .int, 2) := by decide +kernel
theorem dX4_init_9 : decode cX4_init 9 = .ok (.putfield 7, 3) := by decide +kernel
theorem dX4_init_12 : decode cX4_init 12 = .ok (.aload_n 0, 1) := by decide +kernel
theorem dX4_init_13 : decode cX4_init 13 = .ok (.bipush 64, 2) := by decide +kernel
theorem dX4_init_15 : decode cX4_init 15 = .ok (.newarray .int, 2) := by decide +kernel
theorem dX4_init_17 : decode cX4_init 17 = .ok (.putfield 13, 3) := by decide +kernel
theorem dX4_init_20 : decode cX4_init 20 = .ok (.aload_n 0, 1) := by decide +kernel
theorem dX4_init_21 : decode cX4_init 21 = .ok (.bipush 64, 2) := by decide +kernel
theorem dX4_init_23 : decode cX4_init 23 = .ok (.newarray .int, 2) := by decide +kernel
theorem dX4_init_25 : decode cX4_init 25 = .ok (.putfield 16, 3) := by decide +kernel
theorem dX4_init_28 : decode cX4_init 28 = .ok (.aload_n 0, 1) := by decide +kernel
theorem dX4_init_29 : decode cX4_init 29 = .ok (.bipush 64, 2) := by decide +kernel
theorem dX4_init_31 : decode cX4_init 31 = .ok (.newarray .long, 2) := by decide +kernel
theorem dX4_init_33 : decode cX4_init 33 = .ok (.putfield 19, 3) := by decide +kernel
theorem dX4_init_36 : decode cX4_init 36 = .ok (.aload_n 0, 1) := by decide +kernel
theorem dX4_init_37 : decode cX4_init 37 = .ok (.bipush 64, 2) := by decide +kernel
theorem dX4_init_39 : decode cX4_init 39 = .ok (.newarray .int, 2) := by decide +kernel
theorem dX4_init_41 : decode cX4_init 41 = .ok (.putfield 23, 3) := by decide +kernel
theorem dX4_init_44 : decode cX4_init 44 = .ok (.aload_n 0, 1) := by decide +kernel
theorem dX4_init_45 : decode cX4_init 45 = .ok (.bipush 64, 2) := by decide +kernel
theorem dX4_init_47 : decode cX4_init 47 = .ok (.newarray .long, 2) := by decide +kernel
theorem dX4_init_49 : decode cX4_init 49 = .ok (.putfield 26, 3) := by decide +kernel
theorem dX4_init_52 : decode cX4_init 52 = .ok (.aload_n 0, 1) := by decide +kernel
theorem dX4_init_53 : decode cX4_init 53 = .ok (.bipush 64, 2) := by decide +kernel
theorem dX4_init_55 : decode cX4_init 55 = .ok (.newarray .long, 2) := by decide +kernel
theorem dX4_init_57 : decode cX4_init 57 = .ok (.putfield 29, 3) := by decide +kernel
theorem dX4_init_60 : decode cX4_init 60 = .ok (.aload_n 0, 1) := by decide +kernel
theorem dX4_init_61 : decode cX4_init 61 = .ok (.bipush 64, 2) := by decide +kernel
theorem dX4_init_63 : decode cX4_init 63 = .ok (.newarray .int, 2) := by decide +kernel
theorem dX4_init_65 : decode cX4_init 65 = .ok (.putfield 32, 3) := by decide +kernel
theorem dX4_init_68 : decode cX4_init 68 = .ok (.aload_n 0, 1) := by decide +kernel
theorem dX4_init_69 : decode cX4_init 69 = .ok (.bipush 64, 2) := by decide +kernel
theorem dX4_init_71 : decode cX4_init 71 = .ok (.newarray .boolean, 2) := by decide +kernel
theorem dX4_init_73 : decode cX4_init 73 = .ok (.putfield 35, 3) := by decide +kernel
theorem dX4_init_76 : decode cX4_init 76 = .ok (.aload_n 0, 1) := by decide +kernel
theorem dX4_init_77 : decode cX4_init 77 = .ok (.bipush 64, 2) := by decide +kernel
theorem dX4_init_79 : decode cX4_init 79 = .ok (.newarray .boolean, 2) := by decide +kernel
theorem dX4_init_81 : decode cX4_init 81 = .ok (.putfield 39, 3) := by decide +kernel
theorem dX4_init_84 : decode cX4_init 84 = .ok (.aload_n 0, 1) := by decide +kernel
theorem dX4_init_85 : decode cX4_init 85 = .ok (.sipush 2000, 3) := by decide +kernel
theorem dX4_init_88 : decode cX4_init 88 = .ok (.newarray .int, 2) := by decide +kernel
theorem dX4_init_90 : decode cX4_init 90 = .ok (.putfield 42, 3) := by decide +kernel
theorem dX4_init_93 : decode cX4_init 93 = .ok (.aload_n 0, 1) := by decide +kernel
theorem dX4_init_94 : decode cX4_init 94 = .ok (.sipush 2000, 3) := by decide +kernel
theorem dX4_init_97 : decode cX4_init 97 = .ok (.newarray .int, 2) := by decide +kernel
theorem dX4_init_99 : decode cX4_init 99 = .ok (.putfield 45, 3) := by decide +kernel
theorem dX4_init_102 : decode cX4_init 102 = .ok (.aload_n 0, 1) := by decide +kernel
theorem dX4_init_103 : decode cX4_init 103 = .ok (.sipush 2000, 3) := by decide +kernel
theorem dX4_init_106 : decode cX4_init 106 = .ok (.newarray .int, 2) := by decide +kernel
theorem dX4_init_108 : decode cX4_init 108 = .ok (.putfield 48, 3) := by decide +kernel
theorem dX4_init_111 : decode cX4_init 111 = .ok (.aload_n 0, 1) := by decide +kernel
theorem dX4_init_112 : decode cX4_init 112 = .ok (.iconst (-1), 1) := by decide +kernel
theorem dX4_init_113 : decode cX4_init 113 = .ok (.putfield 51, 3) := by decide +kernel
theorem dX4_init_116 : decode cX4_init 116 = .ok (.aload_n 0, 1) := by decide +kernel
theorem dX4_init_117 : decode cX4_init 117 = .ok (.iconst (-1), 1) := by decide +kernel
theorem dX4_init_118 : decode cX4_init 118 = .ok (.putfield 55, 3) := by decide +kernel
theorem dX4_init_121 : decode cX4_init 121 = .ok (.iconst 0, 1) := by decide +kernel
theorem dX4_init_122 : decode cX4_init 122 = .ok (.istore_n 1, 1) := by decide +kernel
theorem dX4_init_123 : decode cX4_init 123 = .ok (.iload_n 1, 1) := by decide +kernel
theorem dX4_init_124 : decode cX4_init 124 = .ok (.bipush 64, 2) := by decide +kernel
theorem dX4_init_126 : decode cX4_init 126 = .ok (.if_icmp .ge 25, 3) := by decide +kernel
theorem dX4_init_129 : decode cX4_init 129 = .ok (.aload_n 0, 1) := by decide +kernel
theorem dX4_init_130 : decode cX4_init 130 = .ok (.getfield 7, 3) := by decide +kernel
theorem dX4_init_133 : decode cX4_init 133 = .ok (.iload_n 1, 1) := by decide +kernel
theorem dX4_init_134 : decode cX4_init 134 = .ok (.iload_n 1, 1) := by decide +kernel
theorem dX4_init_135 : decode cX4_init 135 = .ok (.ifCond .ne 7, 3) := by decide +kernel
theorem dX4_init_138 : decode cX4_init 138 = .ok (.iconst (-1), 1) := by decide +kernel
theorem dX4_init_139 : decode cX4_init 139 = .ok (.goto 5, 3) := by decide +kernel
theorem dX4_init_142 : decode cX4_init 142 = .ok (.bipush (-2), 2) := by decide +kernel
theorem dX4_init_144 : decode cX4_init 144 = .ok (.iastore, 1) := by decide +kernel
theorem dX4_init_145 : decode cX4_init 145 = .ok (.iinc 1 1, 3) := by decide +kernel
theorem dX4_init_148 : decode cX4_init 148 = .ok (.goto (-25), 3) := by decide +kernel
theorem dX4_init_151 : decode cX4_init 151 = .ok (.return_, 1) := by decide +kernel
theorem dX4_thrown_0 : decode cX4_thrown 0 = .ok (.aload_n 0, 1) := by decide +kernel
theorem dX4_thrown_1 : decode cX4_thrown 1 = .ok (.getfield 58, 3) := by decide +kernel
theorem dX4_thrown_4 : decode cX4_thrown 4 = .ok (.ireturn, 1) := by decide +kernel
theorem dX4_isThere_0 : decode cX4_isThere 0 = .ok (.iload_n 1, 1) := by decide +kernel
theorem dX4_isThere_1 : decode cX4_isThere 1 = .ok (.ifCond .lt 24, 3) := by decide +kernel
theorem dX4_isThere_4 : decode cX4_isThere 4 = .ok (.iload_n 1, 1) := by decide +kernel
theorem dX4_isThere_5 : decode cX4_isThere 5 = .ok (.bipush 64, 2) := by decide +kernel
theorem dX4_isThere_7 : decode cX4_isThere 7 = .ok (.if_icmp .ge 18, 3) := by decide +kernel
theorem dX4_isThere_10 : decode cX4_isThere 10 = .ok (.aload_n 0, 1) := by decide +kernel
theorem dX4_isThere_11 : decode cX4_isThere 11 = .ok (.getfield 7, 3) := by decide +kernel
theorem dX4_isThere_14 : decode cX4_isThere 14 = .ok (.iload_n 1, 1) := by decide +kernel
theorem dX4_isThere_15 : decode cX4_isThere 15 = .ok (.iaload, 1) := by decide +kernel
theorem dX4_isThere_16 : decode cX4_isThere 16 = .ok (.bipush (-2), 2) := by decide +kernel
theorem dX4_isThere_18 : decode cX4_isThere 18 = .ok (.if_icmp .eq 7, 3) := by decide +kernel
theorem dX4_isThere_21 : decode cX4_isThere 21 = .ok (.iconst 1, 1) := by decide +kernel
theorem dX4_isThere_22 : decode cX4_isThere 22 = .ok (.goto 4, 3) := by decide +kernel
theorem dX4_isThere_25 : decode cX4_isThere 25 = .ok (.iconst 0, 1) := by decide +kernel
theorem dX4_isThere_26 : decode cX4_isThere 26 = .ok (.ireturn, 1) := by decide +kernel
theorem dX4_children_0 : decode cX4_children 0 = .ok (.iconst 0, 1) := by decide +kernel
theorem dX4_children_1 : decode cX4_children 1 = .ok (.istore_n 2, 1) := by decide +kernel
theorem dX4_children_2 : decode cX4_children 2 = .ok (.iconst 1, 1) := by decide +kernel
theorem dX4_children_3 : decode cX4_children 3 = .ok (.istore_n 3, 1) := by decide +kernel
theorem dX4_children_4 : decode cX4_children 4 = .ok (.iload_n 3, 1) := by decide +kernel
theorem dX4_children_5 : decode cX4_children 5 = .ok (.bipush 64, 2) := by decide +kernel
theorem dX4_children_7 : decode cX4_children 7 = .ok (.if_icmp .ge 27, 3) := by decide +kernel
theorem dX4_children_10 : decode cX4_children 10 = .ok (.iload_n 2, 1) := by decide +kernel
theorem dX4_children_11 : decode cX4_children 11 = .ok (.aload_n 0, 1) := by decide +kernel
theorem dX4_children_12 : decode cX4_children 12 = .ok (.getfield 7, 3) := by decide +kernel
theorem dX4_children_15 : decode cX4_children 15 = .ok (.iload_n 3, 1) := by decide +kernel
theorem dX4_children_16 : decode cX4_children 16 = .ok (.iaload, 1) := by decide +kernel
theorem dX4_children_17 : decode cX4_children 17 = .ok (.iload_n 1, 1) := by decide +kernel
theorem dX4_children_18 : decode cX4_children 18 = .ok (.if_icmp .ne 7, 3) := by decide +kernel
theorem dX4_children_21 : decode cX4_children 21 = .ok (.iconst 1, 1) := by decide +kernel
theorem dX4_children_22 : decode cX4_children 22 = .ok (.goto 4, 3) := by decide +kernel
theorem dX4_children_25 : decode cX4_children 25 = .ok (.iconst 0, 1) := by decide +kernel
theorem dX4_children_26 : decode cX4_children 26 = .ok (.iadd, 1) := by decide +kernel
theorem dX4_children_27 : decode cX4_children 27 = .ok (.istore_n 2, 1) := by decide +kernel
theorem dX4_children_28 : decode cX4_children 28 = .ok (.iinc 3 1, 3) := by decide +kernel
theorem dX4_children_31 : decode cX4_children 31 = .ok (.goto (-27), 3) := by decide +kernel
theorem dX4_children_34 : decode cX4_children 34 = .ok (.iload_n 2, 1) := by decide +kernel
theorem dX4_children_35 : decode cX4_children 35 = .ok (.ireturn, 1) := by decide +kernel
theorem dX4_isLeaf_0 : decode cX4_isLeaf 0 = .ok (.iload_n 1, 1) := by decide +kernel
theorem dX4_isLeaf_1 : decode cX4_isLeaf 1 = .ok (.ifCond .eq 15, 3) := by decide +kernel
theorem dX4_isLeaf_4 : decode cX4_isLeaf 4 = .ok (.aload_n 0, 1) := by decide +kernel
theorem dX4_isLeaf_5 : decode cX4_isLeaf 5 = .ok (.iload_n 1, 1) := by decide +kernel
theorem dX4_isLeaf_6 : decode cX4_isLeaf 6 = .ok (.invokevirtual 61, 3) := by decide +kernel
theorem dX4_isLeaf_9 : decode cX4_isLeaf 9 = .ok (.ifCond .ne 7, 3) := by decide +kernel
theorem dX4_isLeaf_12 : decode cX4_isLeaf 12 = .ok (.iconst 1, 1) := by decide +kernel
theorem dX4_isLeaf_13 : decode cX4_isLeaf 13 = .ok (.goto 4, 3) := by decide +kernel
theorem dX4_isLeaf_16 : decode cX4_isLeaf 16 = .ok (.iconst 0, 1) := by decide +kernel
theorem dX4_isLeaf_17 : decode cX4_isLeaf 17 = .ok (.ireturn, 1) := by decide +kernel
theorem dX4_own_0 : decode cX4_own 0 = .ok (.iconst 0, 1) := by decide +kernel
theorem dX4_own_1 : decode cX4_own 1 = .ok (.istore_n 2, 1) := by decide +kernel
theorem dX4_own_2 : decode cX4_own 2 = .ok (.iconst 0, 1) := by decide +kernel
theorem dX4_own_3 : decode cX4_own 3 = .ok (.istore_n 3, 1) := by decide +kernel
theorem dX4_own_4 : decode cX4_own 4 = .ok (.iload_n 3, 1) := by decide +kernel
theorem dX4_own_5 : decode cX4_own 5 = .ok (.aload_n 0, 1) := by decide +kernel
theorem dX4_own_6 : decode cX4_own 6 = .ok (.getfield 65, 3) := by decide +kernel
theorem dX4_own_9 : decode cX4_own 9 = .ok (.if_icmp .ge 27, 3) := by decide +kernel
theorem dX4_own_12 : decode cX4_own 12 = .ok (.iload_n 2, 1) := by decide +kernel
theorem dX4_own_13 : decode cX4_own 13 = .ok (.aload_n 0, 1) := by decide +kernel
theorem dX4_own_14 : decode cX4_own 14 = .ok (.getfield 42, 3) := by decide +kernel
theorem dX4_own_17 : decode cX4_own 17 = .ok (.iload_n 3, 1) := by decide +kernel
theorem dX4_own_18 : decode cX4_own 18 = .ok (.iaload, 1) := by decide +kernel
theorem dX4_own_19 : decode cX4_own 19 = .ok (.iload_n 1, 1) := by decide +kernel
theorem dX4_own_20 : decode cX4_own 20 = .ok (.if_icmp .ne 7, 3) := by decide +kernel
theorem dX4_own_23 : decode cX4_own 23 = .ok (.iconst 1, 1) := by decide +kernel
theorem dX4_own_24 : decode cX4_own 24 = .ok (.goto 4, 3) := by decide +kernel
theorem dX4_own_27 : decode cX4_own 27 = .ok (.iconst 0, 1) := by decide +kernel
theorem dX4_own_28 : decode cX4_own 28 = .ok (.iadd, 1) := by decide +kernel
theorem dX4_own_29 : decode cX4_own 29 = .ok (.istore_n 2, 1) := by decide +kernel
theorem dX4_own_30 : decode cX4_own 30 = .ok (.iinc 3 1, 3) := by decide +kernel
theorem dX4_own_33 : decode cX4_own 33 = .ok (.goto (-29), 3) := by decide +kernel
theorem dX4_own_36 : decode cX4_own 36 = .ok (.iload_n 2, 1) := by decide +kernel
theorem dX4_own_37 : decode cX4_own 37 = .ok (.ireturn, 1) := by decide +kernel
theorem dX4_isUnder_0 : decode cX4_isUnder 0 = .ok (.iload_n 1, 1) := by decide +kernel
theorem dX4_isUnder_1 : decode cX4_isUnder 1 = .ok (.istore_n 3, 1) := by decide +kernel
theorem dX4_isUnder_2 : decode cX4_isUnder 2 = .ok (.iload_n 3, 1) := by decide +kernel
theorem dX4_isUnder_3 : decode cX4_isUnder 3 = .ok (.iconst (-1), 1) := by decide +kernel
theorem dX4_isUnder_4 : decode cX4_isUnder 4 = .ok (.if_icmp .eq 18, 3) := by decide +kernel
theorem dX4_isUnder_7 : decode cX4_isUnder 7 = .ok (.iload_n 3, 1) := by decide +kernel
theorem dX4_isUnder_8 : decode cX4_isUnder 8 = .ok (.iload_n 2, 1) := by decide +kernel
theorem dX4_isUnder_9 : decode cX4_isUnder 9 = .ok (.if_icmp .eq 13, 3) := by decide +kernel
theorem dX4_isUnder_12 : decode cX4_isUnder 12 = .ok (.aload_n 0, 1) := by decide +kernel
theorem dX4_isUnder_13 : decode cX4_isUnder 13 = .ok (.getfield 7, 3) := by decide +kernel
theorem dX4_isUnder_16 : decode cX4_isUnder 16 = .ok (.iload_n 3, 1) := by decide +kernel
theorem dX4_isUnder_17 : decode cX4_isUnder 17 = .ok (.iaload, 1) := by decide +kernel
theorem dX4_isUnder_18 : decode cX4_isUnder 18 = .ok (.istore_n 3, 1) := by decide +kernel
theorem dX4_isUnder_19 : decode cX4_isUnder 19 = .ok (.goto (-17), 3) := by decide +kernel
theorem dX4_isUnder_22 : decode cX4_isUnder 22 = .ok (.iload_n 3, 1) := by decide +kernel
theorem dX4_isUnder_23 : decode cX4_isUnder 23 = .ok (.iload_n 2, 1) := by decide +kernel
theorem dX4_isUnder_24 : decode cX4_isUnder 24 = .ok (.if_icmp .ne 7, 3) := by decide +kernel
theorem dX4_isUnder_27 : decode cX4_isUnder 27 = .ok (.iconst 1, 1) := by decide +kernel
theorem dX4_isUnder_28 : decode cX4_isUnder 28 = .ok (.goto 4, 3) := by decide +kernel
theorem dX4_isUnder_31 : decode cX4_isUnder 31 = .ok (.iconst 0, 1) := by decide +kernel
theorem dX4_isUnder_32 : decode cX4_isUnder 32 = .ok (.ireturn, 1) := by decide +kernel
theorem dX4_look_0 : decode cX4_look 0 = .ok (.iconst 0, 1) := by decide +kernel
theorem dX4_look_1 : decode cX4_look 1 = .ok (.istore_n 1, 1) := by decide +kernel
theorem dX4_look_2 : decode cX4_look 2 = .ok (.iload_n 1, 1) := by decide +kernel
theorem dX4_look_3 : decode cX4_look 3 = .ok (.bipush 64, 2) := by decide +kernel
theorem dX4_look_5 : decode cX4_look 5 = .ok (.if_icmp .ge 16, 3) := by decide +kernel
theorem dX4_look_8 : decode cX4_look 8 = .ok (.aload_n 0, 1) := by decide +kernel
theorem dX4_look_9 : decode cX4_look 9 = .ok (.getfield 39, 3) := by decide +kernel
theorem dX4_look_12 : decode cX4_look 12 = .ok (.iload_n 1, 1) := by decide +kernel
theorem dX4_look_13 : decode cX4_look 13 = .ok (.iconst 0, 1) := by decide +kernel
theorem dX4_look_14 : decode cX4_look 14 = .ok (.bastore, 1) := by decide +kernel
theorem dX4_look_15 : decode cX4_look 15 = .ok (.iinc 1 1, 3) := by decide +kernel
theorem dX4_look_18 : decode cX4_look 18 = .ok (.goto (-16), 3) := by decide +kernel
theorem dX4_look_21 : decode cX4_look 21 = .ok (.iconst 0, 1) := by decide +kernel
theorem dX4_look_22 : decode cX4_look 22 = .ok (.istore_n 1, 1) := by decide +kernel
theorem dX4_look_23 : decode cX4_look 23 = .ok (.iload_n 1, 1) := by decide +kernel
theorem dX4_look_24 : decode cX4_look 24 = .ok (.aload_n 0, 1) := by decide +kernel
theorem dX4_look_25 : decode cX4_look 25 = .ok (.getfield 65, 3) := by decide +kernel
theorem dX4_look_28 : decode cX4_look 28 = .ok (.if_icmp .ge 39, 3) := by decide +kernel
theorem dX4_look_31 : decode cX4_look 31 = .ok (.aload_n 0, 1) := by decide +kernel
theorem dX4_look_32 : decode cX4_look 32 = .ok (.getfield 39, 3) := by decide +kernel
theorem dX4_look_35 : decode cX4_look 35 = .ok (.aload_n 0, 1) := by decide +kernel
theorem dX4_look_36 : decode cX4_look 36 = .ok (.getfield 42, 3) := by decide +kernel
theorem dX4_look_39 : decode cX4_look 39 = .ok (.iload_n 1, 1) := by decide +kernel
theorem dX4_look_40 : decode cX4_look 40 = .ok (.iaload, 1) := by decide +kernel
theorem dX4_look_41 : decode cX4_look 41 = .ok (.aload_n 0, 1) := by decide +kernel
theorem dX4_look_42 : decode cX4_look 42 = .ok (.getfield 32, 3) := by decide +kernel
theorem dX4_look_45 : decode cX4_look 45 = .ok (.aload_n 0, 1) := by decide +kernel
theorem dX4_look_46 : decode cX4_look 46 = .ok (.getfield 42, 3) := by decide +kernel
theorem dX4_look_49 : decode cX4_look 49 = .ok (.iload_n 1, 1) := by decide +kernel
theorem dX4_look_50 : decode cX4_look 50 = .ok (.iaload, 1) := by decide +kernel
theorem dX4_look_51 : decode cX4_look 51 = .ok (.iaload, 1) := by decide +kernel
theorem dX4_look_52 : decode cX4_look 52 = .ok (.ifCond .ne 7, 3) := by decide +kernel
theorem dX4_look_55 : decode cX4_look 55 = .ok (.iconst 1, 1) := by decide +kernel
theorem dX4_look_56 : decode cX4_look 56 = .ok (.goto 4, 3) := by decide +kernel
theorem dX4_look_59 : decode cX4_look 59 = .ok (.iconst 0, 1) := by decide +kernel
theorem dX4_look_60 : decode cX4_look 60 = .ok (.bastore, 1) := by decide +kernel
theorem dX4_look_61 : decode cX4_look 61 = .ok (.iinc 1 1, 3) := by decide +kernel
theorem dX4_look_64 : decode cX4_look 64 = .ok (.goto (-41), 3) := by decide +kernel
theorem dX4_look_67 : decode cX4_look 67 = .ok (.iconst 1, 1) := by decide +kernel
theorem dX4_look_68 : decode cX4_look 68 = .ok (.istore_n 1, 1) := by decide +kernel
theorem dX4_look_69 : decode cX4_look 69 = .ok (.iload_n 1, 1) := by decide +kernel
theorem dX4_look_70 : decode cX4_look 70 = .ok (.ifCond .eq 69, 3) := by decide +kernel
theorem dX4_look_73 : decode cX4_look 73 = .ok (.iconst 0, 1) := by decide +kernel
theorem dX4_look_74 : decode cX4_look 74 = .ok (.istore_n 1, 1) := by decide +kernel
theorem dX4_look_75 : decode cX4_look 75 = .ok (.iconst 1, 1) := by decide +kernel
theorem dX4_look_76 : decode cX4_look 76 = .ok (.istore_n 2, 1) := by decide +kernel
theorem dX4_look_77 : decode cX4_look 77 = .ok (.iload_n 2, 1) := by decide +kernel
theorem dX4_look_78 : decode cX4_look 78 = .ok (.bipush 64, 2) := by decide +kernel
theorem dX4_look_80 : decode cX4_look 80 = .ok (.if_icmp .ge 56, 3) := by decide +kernel
theorem dX4_look_83 : decode cX4_look 83 = .ok (.aload_n 0, 1) := by decide +kernel
theorem dX4_look_84 : decode cX4_look 84 = .ok (.getfield 7, 3) := by decide +kernel
theorem dX4_look_87 : decode cX4_look 87 = .ok (.iload_n 2, 1) := by decide +kernel
theorem dX4_look_88 : decode cX4_look 88 = .ok (.iaload, 1) := by decide +kernel
theorem dX4_look_89 : decode cX4_look 89 = .ok (.istore_n 3, 1) := by decide +kernel
theorem dX4_look_90 : decode cX4_look 90 = .ok (.iload_n 3, 1) := by decide +kernel
theorem dX4_look_91 : decode cX4_look 91 = .ok (.ifCond .lt 39, 3) := by decide +kernel
theorem dX4_look_94 : decode cX4_look 94 = .ok (.aload_n 0, 1) := by decide +kernel
theorem dX4_look_95 : decode cX4_look 95 = .ok (.getfield 39, 3) := by decide +kernel
theorem dX4_look_98 : decode cX4_look 98 = .ok (.iload_n 2, 1) := by decide +kernel
theorem dX4_look_99 : decode cX4_look 99 = .ok (.baload, 1) := by decide +kernel
theorem dX4_look_100 : decode cX4_look 100 = .ok (.ifCond .eq 30, 3) := by decide +kernel
theorem dX4_look_103 : decode cX4_look 103 = .ok (.aload_n 0, 1) := by decide +kernel
theorem dX4_look_104 : decode cX4_look 104 = .ok (.getfield 39, 3) := by decide +kernel
theorem dX4_look_107 : decode cX4_look 107 = .ok (.iload_n 3, 1) := by decide +kernel
theorem dX4_look_108 : decode cX4_look 108 = .ok (.baload, 1) := by decide +kernel
theorem dX4_look_109 : decode cX4_look 109 = .ok (.ifCond .ne 21, 3) := by decide +kernel
theorem dX4_look_112 : decode cX4_look 112 = .ok (.aload_n 0, 1) := by decide +kernel
theorem dX4_look_113 : decode cX4_look 113 = .ok (.getfield 32, 3) := by decide +kernel
theorem dX4_look_116 : decode cX4_look 116 = .ok (.iload_n 3, 1) := by decide +kernel
theorem dX4_look_117 : decode cX4_look 117 = .ok (.iaload, 1) := by decide +kernel
theorem dX4_look_118 : decode cX4_look 118 = .ok (.ifCond .ne 12, 3) := by decide +kernel
theorem dX4_look_121 : decode cX4_look 121 = .ok (.aload_n 0, 1) := by decide +kernel
theorem dX4_look_122 : decode cX4_look 122 = .ok (.getfield 39, 3) := by decide +kernel
theorem dX4_look_125 : decode cX4_look 125 = .ok (.iload_n 3, 1) := by decide +kernel
theorem dX4_look_126 : decode cX4_look 126 = .ok (.iconst 1, 1) := by decide +kernel
theorem dX4_look_127 : decode cX4_look 127 = .ok (.bastore, 1) := by decide +kernel
theorem dX4_look_128 : decode cX4_look 128 = .ok (.iconst 1, 1) := by decide +kernel
theorem dX4_look_129 : decode cX4_look 129 = .ok (.istore_n 1, 1) := by decide +kernel
theorem dX4_look_130 : decode cX4_look 130 = .ok (.iinc 2 1, 3) := by decide +kernel
theorem dX4_look_133 : decode cX4_look 133 = .ok (.goto (-56), 3) := by decide +kernel
theorem dX4_look_136 : decode cX4_look 136 = .ok (.goto (-67), 3) := by decide +kernel
theorem dX4_look_139 : decode cX4_look 139 = .ok (.return_, 1) := by decide +kernel
theorem dX4_settle_0 : decode cX4_settle 0 = .ok (.aload_n 0, 1) := by decide +kernel
theorem dX4_settle_1 : decode cX4_settle 1 = .ok (.invokevirtual 68, 3) := by decide +kernel
theorem dX4_settle_4 : decode cX4_settle 4 = .ok (.iconst 0, 1) := by decide +kernel
theorem dX4_settle_5 : decode cX4_settle 5 = .ok (.istore_n 1, 1) := by decide +kernel
theorem dX4_settle_6 : decode cX4_settle 6 = .ok (.iload_n 1, 1) := by decide +kernel
theorem dX4_settle_7 : decode cX4_settle 7 = .ok (.bipush 64, 2) := by decide +kernel
theorem dX4_settle_9 : decode cX4_settle 9 = .ok (.if_icmp .ge 88, 3) := by decide +kernel
theorem dX4_settle_12 : decode cX4_settle 12 = .ok (.aload_n 0, 1) := by decide +kernel
theorem dX4_settle_13 : decode cX4_settle 13 = .ok (.getfield 39, 3) := by decide +kernel
theorem dX4_settle_16 : decode cX4_settle 16 = .ok (.iload_n 1, 1) := by decide +kernel
theorem dX4_settle_17 : decode cX4_settle 17 = .ok (.baload, 1) := by decide +kernel
theorem dX4_settle_18 : decode cX4_settle 18 = .ok (.ifCond .eq 61, 3) := by decide +kernel
theorem dX4_settle_21 : decode cX4_settle 21 = .ok (.aload_n 0, 1) := by decide +kernel
theorem dX4_settle_22 : decode cX4_settle 22 = .ok (.getfield 35, 3) := by decide +kernel
theorem dX4_settle_25 : decode cX4_settle 25 = .ok (.iload_n 1, 1) := by decide +kernel
theorem dX4_settle_26 : decode cX4_settle 26 = .ok (.baload, 1) := by decide +kernel
theorem dX4_settle_27 : decode cX4_settle 27 = .ok (.ifCond .ne 52, 3) := by decide +kernel
theorem dX4_settle_30 : decode cX4_settle 30 = .ok (.iload_n 1, 1) := by decide +kernel
theorem dX4_settle_31 : decode cX4_settle 31 = .ok (.ifCond .le 48, 3) := by decide +kernel
theorem dX4_settle_34 : decode cX4_settle 34 = .ok (.aload_n 0, 1) := by decide +kernel
theorem dX4_settle_35 : decode cX4_settle 35 = .ok (.getfield 26, 3) := by decide +kernel
theorem dX4_settle_38 : decode cX4_settle 38 = .ok (.aload_n 0, 1) := by decide +kernel
theorem dX4_settle_39 : decode cX4_settle 39 = .ok (.getfield 7, 3) := by decide +kernel
theorem dX4_settle_42 : decode cX4_settle 42 = .ok (.iload_n 1, 1) := by decide +kernel
theorem dX4_settle_43 : decode cX4_settle 43 = .ok (.iaload, 1) := by decide +kernel
theorem dX4_settle_44 : decode cX4_settle 44 = .ok (.laload, 1) := by decide +kernel
theorem dX4_settle_45 : decode cX4_settle 45 = .ok (.aload_n 0, 1) := by decide +kernel
theorem dX4_settle_46 : decode cX4_settle 46 = .ok (.getfield 19, 3) := by decide +kernel
theorem dX4_settle_49 : decode cX4_settle 49 = .ok (.iload_n 1, 1) := by decide +kernel
theorem dX4_settle_50 : decode cX4_settle 50 = .ok (.laload, 1) := by decide +kernel
theorem dX4_settle_51 : decode cX4_settle 51 = .ok (.lcmp, 1) := by decide +kernel
theorem dX4_settle_52 : decode cX4_settle 52 = .ok (.ifCond .le 27, 3) := by decide +kernel
theorem dX4_settle_55 : decode cX4_settle 55 = .ok (.aload_n 0, 1) := by decide +kernel
theorem dX4_settle_56 : decode cX4_settle 56 = .ok (.getfield 19, 3) := by decide +kernel
theorem dX4_settle_59 : decode cX4_settle 59 = .ok (.iload_n 1, 1) := by decide +kernel
theorem dX4_settle_60 : decode cX4_settle 60 = .ok (.aload_n 0, 1) := by decide +kernel
theorem dX4_settle_61 : decode cX4_settle 61 = .ok (.getfield 26, 3) := by decide +kernel
theorem dX4_settle_64 : decode cX4_settle 64 = .ok (.aload_n 0, 1) := by decide +kernel
theorem dX4_settle_65 : decode cX4_settle 65 = .ok (.getfield 7, 3) := by decide +kernel
theorem dX4_settle_68 : decode cX4_settle 68 = .ok (.iload_n 1, 1) := by decide +kernel
theorem dX4_settle_69 : decode cX4_settle 69 = .ok (.iaload, 1) := by decide +kernel
theorem dX4_settle_70 : decode cX4_settle 70 = .ok (.laload, 1) := by decide +kernel
theorem dX4_settle_71 : decode cX4_settle 71 = .ok (.lastore, 1) := by decide +kernel
theorem dX4_settle_72 : decode cX4_settle 72 = .ok (.aload_n 0, 1) := by decide +kernel
theorem dX4_settle_73 : decode cX4_settle 73 = .ok (.getfield 23, 3) := by decide +kernel
theorem dX4_settle_76 : decode cX4_settle 76 = .ok (.iload_n 1, 1) := by decide +kernel
theorem dX4_settle_77 : decode cX4_settle 77 = .ok (.iconst 0, 1) := by decide +kernel
theorem dX4_settle_78 : decode cX4_settle 78 = .ok (.iastore, 1) := by decide +kernel
theorem dX4_settle_79 : decode cX4_settle 79 = .ok (.aload_n 0, 1) := by decide +kernel
theorem dX4_settle_80 : decode cX4_settle 80 = .ok (.getfield 35, 3) := by decide +kernel
theorem dX4_settle_83 : decode cX4_settle 83 = .ok (.iload_n 1, 1) := by decide +kernel
theorem dX4_settle_84 : decode cX4_settle 84 = .ok (.aload_n 0, 1) := by decide +kernel
theorem dX4_settle_85 : decode cX4_settle 85 = .ok (.getfield 39, 3) := by decide +kernel
theorem dX4_settle_88 : decode cX4_settle 88 = .ok (.iload_n 1, 1) := by decide +kernel
theorem dX4_settle_89 : decode cX4_settle 89 = .ok (.baload, 1) := by decide +kernel
theorem dX4_settle_90 : decode cX4_settle 90 = .ok (.bastore, 1) := by decide +kernel
theorem dX4_settle_91 : decode cX4_settle 91 = .ok (.iinc 1 1, 3) := by decide +kernel
theorem dX4_settle_94 : decode cX4_settle 94 = .ok (.goto (-88), 3) := by decide +kernel
theorem dX4_settle_97 : decode cX4_settle 97 = .ok (.return_, 1) := by decide +kernel
theorem dX4_add_0 : decode cX4_add 0 = .ok (.iconst 1, 1) := by decide +kernel
theorem dX4_add_1 : decode cX4_add 1 = .ok (.istore 4, 2) := by decide +kernel
theorem dX4_add_3 : decode cX4_add 3 = .ok (.iload 4, 2) := by decide +kernel
theorem dX4_add_5 : decode cX4_add 5 = .ok (.bipush 64, 2) := by decide +kernel
theorem dX4_add_7 : decode cX4_add 7 = .ok (.if_icmp .ge 21, 3) := by decide +kernel
theorem dX4_add_10 : decode cX4_add 10 = .ok (.aload_n 0, 1) := by decide +kernel
theorem dX4_add_11 : decode cX4_add 11 = .ok (.getfield 7, 3) := by decide +kernel
theorem dX4_add_14 : decode cX4_add 14 = .ok (.iload 4, 2) := by decide +kernel
theorem dX4_add_16 : decode cX4_add 16 = .ok (.iaload, 1) := by decide +kernel
theorem dX4_add_17 : decode cX4_add 17 = .ok (.bipush (-2), 2) := by decide +kernel
theorem dX4_add_19 : decode cX4_add 19 = .ok (.if_icmp .eq 9, 3) := by decide +kernel
theorem dX4_add_22 : decode cX4_add 22 = .ok (.iinc 4 1, 3) := by decide +kernel
theorem dX4_add_25 : decode cX4_add 25 = .ok (.goto (-22), 3) := by decide +kernel
theorem dX4_add_28 : decode cX4_add 28 = .ok (.aload_n 0, 1) := by decide +kernel
theorem dX4_add_29 : decode cX4_add 29 = .ok (.aload_n 0, 1) := by decide +kernel
theorem dX4_add_30 : decode cX4_add 30 = .ok (.iload_n 1, 1) := by decide +kernel
theorem dX4_add_31 : decode cX4_add 31 = .ok (.invokevirtual 71, 3) := by decide +kernel
theorem dX4_add_34 : decode cX4_add 34 = .ok (.ifCond .ne 7, 3) := by decide +kernel
theorem dX4_add_37 : decode cX4_add 37 = .ok (.iconst 1, 1) := by decide +kernel
theorem dX4_add_38 : decode cX4_add 38 = .ok (.goto 55, 3) := by decide +kernel
theorem dX4_add_41 : decode cX4_add 41 = .ok (.iload_n 2, 1) := by decide +kernel
theorem dX4_add_42 : decode cX4_add 42 = .ok (.iconst 1, 1) := by decide +kernel
theorem dX4_add_43 : decode cX4_add 43 = .ok (.if_icmp .lt 22, 3) := by decide +kernel
theorem dX4_add_46 : decode cX4_add 46 = .ok (.iload_n 2, 1) := by decide +kernel
theorem dX4_add_47 : decode cX4_add 47 = .ok (.sipush 1000, 3) := by decide +kernel
theorem dX4_add_50 : decode cX4_add 50 = .ok (.if_icmp .gt 15, 3) := by decide +kernel
theorem dX4_add_53 : decode cX4_add 53 = .ok (.iload_n 3, 1) := by decide +kernel
theorem dX4_add_54 : decode cX4_add 54 = .ok (.iconst 1, 1) := by decide +kernel
theorem dX4_add_55 : decode cX4_add 55 = .ok (.if_icmp .lt 10, 3) := by decide +kernel
theorem dX4_add_58 : decode cX4_add 58 = .ok (.iload_n 3, 1) := by decide +kernel
theorem dX4_add_59 : decode cX4_add 59 = .ok (.sipush 2000, 3) := by decide +kernel
theorem dX4_add_62 : decode cX4_add 62 = .ok (.if_icmp .le 7, 3) := by decide +kernel
theorem dX4_add_65 : decode cX4_add 65 = .ok (.iconst 2, 1) := by decide +kernel
theorem dX4_add_66 : decode cX4_add 66 = .ok (.goto 27, 3) := by decide +kernel
theorem dX4_add_69 : decode cX4_add 69 = .ok (.aload_n 0, 1) := by decide +kernel
theorem dX4_add_70 : decode cX4_add 70 = .ok (.iload_n 1, 1) := by decide +kernel
theorem dX4_add_71 : decode cX4_add 71 = .ok (.invokevirtual 75, 3) := by decide +kernel
theorem dX4_add_74 : decode cX4_add 74 = .ok (.ifCond .le 7, 3) := by decide +kernel
theorem dX4_add_77 : decode cX4_add 77 = .ok (.iconst 3, 1) := by decide +kernel
theorem dX4_add_78 : decode cX4_add 78 = .ok (.goto 15, 3) := by decide +kernel
theorem dX4_add_81 : decode cX4_add 81 = .ok (.iload 4, 2) := by decide +kernel
theorem dX4_add_83 : decode cX4_add 83 = .ok (.bipush 64, 2) := by decide +kernel
theorem dX4_add_85 : decode cX4_add 85 = .ok (.if_icmp .ne 7, 3) := by decide +kernel
theorem dX4_add_88 : decode cX4_add 88 = .ok (.iconst 4, 1) := by decide +kernel
theorem dX4_add_89 : decode cX4_add 89 = .ok (.goto 4, 3) := by decide +kernel
theorem dX4_add_92 : decode cX4_add 92 = .ok (.iconst 0, 1) := by decide +kernel
theorem dX4_add_93 : decode cX4_add 93 = .ok (.putfield 58, 3) := by decide +kernel
theorem dX4_add_96 : decode cX4_add 96 = .ok (.aload_n 0, 1) := by decide +kernel
theorem dX4_add_97 : decode cX4_add 97 = .ok (.getfield 58, 3) := by decide +kernel
theorem dX4_add_100 : decode cX4_add 100 = .ok (.ifCond .le 5, 3) := by decide +kernel
theorem dX4_add_103 : decode cX4_add 103 = .ok (.iconst 0, 1) := by decide +kernel
theorem dX4_add_104 : decode cX4_add 104 = .ok (.ireturn, 1) := by decide +kernel
theorem dX4_add_105 : decode cX4_add 105 = .ok (.aload_n 0, 1) := by decide +kernel
theorem dX4_add_106 : decode cX4_add 106 = .ok (.getfield 7, 3) := by decide +kernel
theorem dX4_add_109 : decode cX4_add 109 = .ok (.iload 4, 2) := by decide +kernel
theorem dX4_add_111 : decode cX4_add 111 = .ok (.iload_n 1, 1) := by decide +kernel
theorem dX4_add_112 : decode cX4_add 112 = .ok (.iastore, 1) := by decide +kernel
theorem dX4_add_113 : decode cX4_add 113 = .ok (.aload_n 0, 1) := by decide +kernel
theorem dX4_add_114 : decode cX4_add 114 = .ok (.getfield 13, 3) := by decide +kernel
theorem dX4_add_117 : decode cX4_add 117 = .ok (.iload 4, 2) := by decide +kernel
theorem dX4_add_119 : decode cX4_add 119 = .ok (.iload_n 2, 1) := by decide +kernel
theorem dX4_add_120 : decode cX4_add 120 = .ok (.iastore, 1) := by decide +kernel
theorem dX4_add_121 : decode cX4_add 121 = .ok (.aload_n 0, 1) := by decide +kernel
theorem dX4_add_122 : decode cX4_add 122 = .ok (.getfield 16, 3) := by decide +kernel
theorem dX4_add_125 : decode cX4_add 125 = .ok (.iload 4, 2) := by decide +kernel
theorem dX4_add_127 : decode cX4_add 127 = .ok (.iload_n 3, 1) := by decide +kernel
theorem dX4_add_128 : decode cX4_add 128 = .ok (.iastore, 1) := by decide +kernel
theorem dX4_add_129 : decode cX4_add 129 = .ok (.aload_n 0, 1) := by decide +kernel
theorem dX4_add_130 : decode cX4_add 130 = .ok (.getfield 19, 3) := by decide +kernel
theorem dX4_add_133 : decode cX4_add 133 = .ok (.iload 4, 2) := by decide +kernel
theorem dX4_add_135 : decode cX4_add 135 = .ok (.lconst 0, 1) := by decide +kernel
theorem dX4_add_136 : decode cX4_add 136 = .ok (.lastore, 1) := by decide +kernel
theorem dX4_add_137 : decode cX4_add 137 = .ok (.aload_n 0, 1) := by decide +kernel
theorem dX4_add_138 : decode cX4_add 138 = .ok (.getfield 23, 3) := by decide +kernel
theorem dX4_add_141 : decode cX4_add 141 = .ok (.iload 4, 2) := by decide +kernel
theorem dX4_add_143 : decode cX4_add 143 = .ok (.iconst 0, 1) := by decide +kernel
theorem dX4_add_144 : decode cX4_add 144 = .ok (.iastore, 1) := by decide +kernel
theorem dX4_add_145 : decode cX4_add 145 = .ok (.aload_n 0, 1) := by decide +kernel
theorem dX4_add_146 : decode cX4_add 146 = .ok (.getfield 26, 3) := by decide +kernel
theorem dX4_add_149 : decode cX4_add 149 = .ok (.iload 4, 2) := by decide +kernel
theorem dX4_add_151 : decode cX4_add 151 = .ok (.lconst 0, 1) := by decide +kernel
theorem dX4_add_152 : decode cX4_add 152 = .ok (.lastore, 1) := by decide +kernel
theorem dX4_add_153 : decode cX4_add 153 = .ok (.aload_n 0, 1) := by decide +kernel
theorem dX4_add_154 : decode cX4_add 154 = .ok (.getfield 29, 3) := by decide +kernel
theorem dX4_add_157 : decode cX4_add 157 = .ok (.iload 4, 2) := by decide +kernel
theorem dX4_add_159 : decode cX4_add 159 = .ok (.lconst 0, 1) := by decide +kernel
theorem dX4_add_160 : decode cX4_add 160 = .ok (.lastore, 1) := by decide +kernel
theorem dX4_add_161 : decode cX4_add 161 = .ok (.aload_n 0, 1) := by decide +kernel
theorem dX4_add_162 : decode cX4_add 162 = .ok (.getfield 32, 3) := by decide +kernel
theorem dX4_add_165 : decode cX4_add 165 = .ok (.iload 4, 2) := by decide +kernel
theorem dX4_add_167 : decode cX4_add 167 = .ok (.iconst 0, 1) := by decide +kernel
theorem dX4_add_168 : decode cX4_add 168 = .ok (.iastore, 1) := by decide +kernel
theorem dX4_add_169 : decode cX4_add 169 = .ok (.aload_n 0, 1) := by decide +kernel
theorem dX4_add_170 : decode cX4_add 170 = .ok (.invokevirtual 78, 3) := by decide +kernel
theorem dX4_add_173 : decode cX4_add 173 = .ok (.iload 4, 2) := by decide +kernel
theorem dX4_add_175 : decode cX4_add 175 = .ok (.ireturn, 1) := by decide +kernel
theorem dX4_remove_0 : decode cX4_remove 0 = .ok (.aload_n 0, 1) := by decide +kernel
theorem dX4_remove_1 : decode cX4_remove 1 = .ok (.aload_n 0, 1) := by decide +kernel
theorem dX4_remove_2 : decode cX4_remove 2 = .ok (.iload_n 1, 1) := by decide +kernel
theorem dX4_remove_3 : decode cX4_remove 3 = .ok (.invokevirtual 71, 3) := by decide +kernel
theorem dX4_remove_6 : decode cX4_remove 6 = .ok (.ifCond .ne 7, 3) := by decide +kernel
theorem dX4_remove_9 : decode cX4_remove 9 = .ok (.iconst 1, 1) := by decide +kernel
theorem dX4_remove_10 : decode cX4_remove 10 = .ok (.goto 24, 3) := by decide +kernel
theorem dX4_remove_13 : decode cX4_remove 13 = .ok (.aload_n 0, 1) := by decide +kernel
theorem dX4_remove_14 : decode cX4_remove 14 = .ok (.iload_n 1, 1) := by decide +kernel
theorem dX4_remove_15 : decode cX4_remove 15 = .ok (.invokevirtual 81, 3) := by decide +kernel
theorem dX4_remove_18 : decode cX4_remove 18 = .ok (.ifCond .eq 11, 3) := by decide +kernel
theorem dX4_remove_21 : decode cX4_remove 21 = .ok (.aload_n 0, 1) := by decide +kernel
theorem dX4_remove_22 : decode cX4_remove 22 = .ok (.iload_n 1, 1) := by decide +kernel
theorem dX4_remove_23 : decode cX4_remove 23 = .ok (.invokevirtual 75, 3) := by decide +kernel
theorem dX4_remove_26 : decode cX4_remove 26 = .ok (.ifCond .le 7, 3) := by decide +kernel
theorem dX4_remove_29 : decode cX4_remove 29 = .ok (.iconst 2, 1) := by decide +kernel
theorem dX4_remove_30 : decode cX4_remove 30 = .ok (.goto 4, 3) := by decide +kernel
theorem dX4_remove_33 : decode cX4_remove 33 = .ok (.iconst 0, 1) := by decide +kernel
theorem dX4_remove_34 : decode cX4_remove 34 = .ok (.putfield 58, 3) := by decide +kernel
theorem dX4_remove_37 : decode cX4_remove 37 = .ok (.aload_n 0, 1) := by decide +kernel
theorem dX4_remove_38 : decode cX4_remove 38 = .ok (.getfield 58, 3) := by decide +kernel
theorem dX4_remove_41 : decode cX4_remove 41 = .ok (.ifCond .ne 15, 3) := by decide +kernel
theorem dX4_remove_44 : decode cX4_remove 44 = .ok (.aload_n 0, 1) := by decide +kernel
theorem dX4_remove_45 : decode cX4_remove 45 = .ok (.getfield 7, 3) := by decide +kernel
theorem dX4_remove_48 : decode cX4_remove 48 = .ok (.iload_n 1, 1) := by decide +kernel
theorem dX4_remove_49 : decode cX4_remove 49 = .ok (.bipush (-2), 2) := by decide +kernel
theorem dX4_remove_51 : decode cX4_remove 51 = .ok (.iastore, 1) := by decide +kernel
theorem dX4_remove_52 : decode cX4_remove 52 = .ok (.aload_n 0, 1) := by decide +kernel
theorem dX4_remove_53 : decode cX4_remove 53 = .ok (.invokevirtual 78, 3) := by decide +kernel
theorem dX4_remove_56 : decode cX4_remove 56 = .ok (.return_, 1) := by decide +kernel
theorem dX4_weight_0 : decode cX4_weight 0 = .ok (.aload_n 0, 1) := by decide +kernel
theorem dX4_weight_1 : decode cX4_weight 1 = .ok (.aload_n 0, 1) := by decide +kernel
theorem dX4_weight_2 : decode cX4_weight 2 = .ok (.iload_n 1, 1) := by decide +kernel
theorem dX4_weight_3 : decode cX4_weight 3 = .ok (.invokevirtual 71, 3) := by decide +kernel
theorem dX4_weight_6 : decode cX4_weight 6 = .ok (.ifCond .eq 7, 3) := by decide +kernel
theorem dX4_weight_9 : decode cX4_weight 9 = .ok (.iload_n 1, 1) := by decide +kernel
theorem dX4_weight_10 : decode cX4_weight 10 = .ok (.ifCond .ne 7, 3) := by decide +kernel
theorem dX4_weight_13 : decode cX4_weight 13 = .ok (.iconst 1, 1) := by decide +kernel
theorem dX4_weight_14 : decode cX4_weight 14 = .ok (.goto 20, 3) := by decide +kernel
theorem dX4_weight_17 : decode cX4_weight 17 = .ok (.iload_n 2, 1) := by decide +kernel
theorem dX4_weight_18 : decode cX4_weight 18 = .ok (.iconst 1, 1) := by decide +kernel
theorem dX4_weight_19 : decode cX4_weight 19 = .ok (.if_icmp .lt 10, 3) := by decide +kernel
theorem dX4_weight_22 : decode cX4_weight 22 = .ok (.iload_n 2, 1) := by decide +kernel
theorem dX4_weight_23 : decode cX4_weight 23 = .ok (.sipush 1000, 3) := by decide +kernel
theorem dX4_weight_26 : decode cX4_weight 26 = .ok (.if_icmp .le 7, 3) := by decide +kernel
theorem dX4_weight_29 : decode cX4_weight 29 = .ok (.iconst 2, 1) := by decide +kernel
theorem dX4_weight_30 : decode cX4_weight 30 = .ok (.goto 4, 3) := by decide +kernel
theorem dX4_weight_33 : decode cX4_weight 33 = .ok (.iconst 0, 1) := by decide +kernel
theorem dX4_weight_34 : decode cX4_weight 34 = .ok (.putfield 58, 3) := by decide +kernel
theorem dX4_weight_37 : decode cX4_weight 37 = .ok (.aload_n 0, 1) := by decide +kernel
theorem dX4_weight_38 : decode cX4_weight 38 = .ok (.getfield 58, 3) := by decide +kernel
theorem dX4_weight_41 : decode cX4_weight 41 = .ok (.ifCond .ne 17, 3) := by decide +kernel
theorem dX4_weight_44 : decode cX4_weight 44 = .ok (.aload_n 0, 1) := by decide +kernel
theorem dX4_weight_45 : decode cX4_weight 45 = .ok (.getfield 13, 3) := by decide +kernel
theorem dX4_weight_48 : decode cX4_weight 48 = .ok (.iload_n 1, 1) := by decide +kernel
theorem dX4_weight_49 : decode cX4_weight 49 = .ok (.iload_n 2, 1) := by decide +kernel
theorem dX4_weight_50 : decode cX4_weight 50 = .ok (.iastore, 1) := by decide +kernel
theorem dX4_weight_51 : decode cX4_weight 51 = .ok (.aload_n 0, 1) := by decide +kernel
theorem dX4_weight_52 : decode cX4_weight 52 = .ok (.getfield 23, 3) := by decide +kernel
theorem dX4_weight_55 : decode cX4_weight 55 = .ok (.iload_n 1, 1) := by decide +kernel
theorem dX4_weight_56 : decode cX4_weight 56 = .ok (.iconst 0, 1) := by decide +kernel
theorem dX4_weight_57 : decode cX4_weight 57 = .ok (.iastore, 1) := by decide +kernel
theorem dX4_weight_58 : decode cX4_weight 58 = .ok (.return_, 1) := by decide +kernel
theorem dX4_move_0 : decode cX4_move 0 = .ok (.aload_n 0, 1) := by decide +kernel
theorem dX4_move_1 : decode cX4_move 1 = .ok (.aload_n 0, 1) := by decide +kernel
theorem dX4_move_2 : decode cX4_move 2 = .ok (.iload_n 1, 1) := by decide +kernel
theorem dX4_move_3 : decode cX4_move 3 = .ok (.invokevirtual 71, 3) := by decide +kernel
theorem dX4_move_6 : decode cX4_move 6 = .ok (.ifCond .eq 15, 3) := by decide +kernel
theorem dX4_move_9 : decode cX4_move 9 = .ok (.iload_n 1, 1) := by decide +kernel
theorem dX4_move_10 : decode cX4_move 10 = .ok (.ifCond .eq 11, 3) := by decide +kernel
theorem dX4_move_13 : decode cX4_move 13 = .ok (.aload_n 0, 1) := by decide +kernel
theorem dX4_move_14 : decode cX4_move 14 = .ok (.iload_n 2, 1) := by decide +kernel
theorem dX4_move_15 : decode cX4_move 15 = .ok (.invokevirtual 71, 3) := by decide +kernel
theorem dX4_move_18 : decode cX4_move 18 = .ok (.ifCond .ne 7, 3) := by decide +kernel
theorem dX4_move_21 : decode cX4_move 21 = .ok (.iconst 1, 1) := by decide +kernel
theorem dX4_move_22 : decode cX4_move 22 = .ok (.goto 29, 3) := by decide +kernel
theorem dX4_move_25 : decode cX4_move 25 = .ok (.aload_n 0, 1) := by decide +kernel
theorem dX4_move_26 : decode cX4_move 26 = .ok (.iload_n 2, 1) := by decide +kernel
theorem dX4_move_27 : decode cX4_move 27 = .ok (.iload_n 1, 1) := by decide +kernel
theorem dX4_move_28 : decode cX4_move 28 = .ok (.invokevirtual 84, 3) := by decide +kernel
theorem dX4_move_31 : decode cX4_move 31 = .ok (.ifCond .eq 7, 3) := by decide +kernel
theorem dX4_move_34 : decode cX4_move 34 = .ok (.iconst 2, 1) := by decide +kernel
theorem dX4_move_35 : decode cX4_move 35 = .ok (.goto 16, 3) := by decide +kernel
theorem dX4_move_38 : decode cX4_move 38 = .ok (.aload_n 0, 1) := by decide +kernel
theorem dX4_move_39 : decode cX4_move 39 = .ok (.iload_n 2, 1) := by decide +kernel
theorem dX4_move_40 : decode cX4_move 40 = .ok (.invokevirtual 75, 3) := by decide +kernel
theorem dX4_move_43 : decode cX4_move 43 = .ok (.ifCond .le 7, 3) := by decide +kernel
theorem dX4_move_46 : decode cX4_move 46 = .ok (.iconst 3, 1) := by decide +kernel
theorem dX4_move_47 : decode cX4_move 47 = .ok (.goto 4, 3) := by decide +kernel
theorem dX4_move_50 : decode cX4_move 50 = .ok (.iconst 0, 1) := by decide +kernel
theorem dX4_move_51 : decode cX4_move 51 = .ok (.putfield 58, 3) := by decide +kernel
theorem dX4_move_54 : decode cX4_move 54 = .ok (.aload_n 0, 1) := by decide +kernel
theorem dX4_move_55 : decode cX4_move 55 = .ok (.getfield 58, 3) := by decide +kernel
theorem dX4_move_58 : decode cX4_move 58 = .ok (.ifCond .ne 33, 3) := by decide +kernel
theorem dX4_move_61 : decode cX4_move 61 = .ok (.aload_n 0, 1) := by decide +kernel
theorem dX4_move_62 : decode cX4_move 62 = .ok (.getfield 7, 3) := by decide +kernel
theorem dX4_move_65 : decode cX4_move 65 = .ok (.iload_n 1, 1) := by decide +kernel
theorem dX4_move_66 : decode cX4_move 66 = .ok (.iload_n 2, 1) := by decide +kernel
theorem dX4_move_67 : decode cX4_move 67 = .ok (.iastore, 1) := by decide +kernel
theorem dX4_move_68 : decode cX4_move 68 = .ok (.aload_n 0, 1) := by decide +kernel
theorem dX4_move_69 : decode cX4_move 69 = .ok (.getfield 19, 3) := by decide +kernel
theorem dX4_move_72 : decode cX4_move 72 = .ok (.iload_n 1, 1) := by decide +kernel
theorem dX4_move_73 : decode cX4_move 73 = .ok (.aload_n 0, 1) := by decide +kernel
theorem dX4_move_74 : decode cX4_move 74 = .ok (.getfield 26, 3) := by decide +kernel
theorem dX4_move_77 : decode cX4_move 77 = .ok (.iload_n 2, 1) := by decide +kernel
theorem dX4_move_78 : decode cX4_move 78 = .ok (.laload, 1) := by decide +kernel
theorem dX4_move_79 : decode cX4_move 79 = .ok (.lastore, 1) := by decide +kernel
theorem dX4_move_80 : decode cX4_move 80 = .ok (.aload_n 0, 1) := by decide +kernel
theorem dX4_move_81 : decode cX4_move 81 = .ok (.getfield 23, 3) := by decide +kernel
theorem dX4_move_84 : decode cX4_move 84 = .ok (.iload_n 1, 1) := by decide +kernel
theorem dX4_move_85 : decode cX4_move 85 = .ok (.iconst 0, 1) := by decide +kernel
theorem dX4_move_86 : decode cX4_move 86 = .ok (.iastore, 1) := by decide +kernel
theorem dX4_move_87 : decode cX4_move 87 = .ok (.aload_n 0, 1) := by decide +kernel
theorem dX4_move_88 : decode cX4_move 88 = .ok (.invokevirtual 78, 3) := by decide +kernel
theorem dX4_move_91 : decode cX4_move 91 = .ok (.return_, 1) := by decide +kernel
theorem dX4_come_0 : decode cX4_come 0 = .ok (.aload_n 0, 1) := by decide +kernel
theorem dX4_come_1 : decode cX4_come 1 = .ok (.iload_n 1, 1) := by decide +kernel
theorem dX4_come_2 : decode cX4_come 2 = .ok (.invokevirtual 75, 3) := by decide +kernel
theorem dX4_come_5 : decode cX4_come 5 = .ok (.aload_n 0, 1) := by decide +kernel
theorem dX4_come_6 : decode cX4_come 6 = .ok (.getfield 16, 3) := by decide +kernel
theorem dX4_come_9 : decode cX4_come 9 = .ok (.iload_n 1, 1) := by decide +kernel
theorem dX4_come_10 : decode cX4_come 10 = .ok (.iaload, 1) := by decide +kernel
theorem dX4_come_11 : decode cX4_come 11 = .ok (.if_icmp .ne 15, 3) := by decide +kernel
theorem dX4_come_14 : decode cX4_come 14 = .ok (.aload_n 0, 1) := by decide +kernel
theorem dX4_come_15 : decode cX4_come 15 = .ok (.dup, 1) := by decide +kernel
theorem dX4_come_16 : decode cX4_come 16 = .ok (.getfield 88, 3) := by decide +kernel
theorem dX4_come_19 : decode cX4_come 19 = .ok (.iconst 1, 1) := by decide +kernel
theorem dX4_come_20 : decode cX4_come 20 = .ok (.iadd, 1) := by decide +kernel
theorem dX4_come_21 : decode cX4_come 21 = .ok (.putfield 88, 3) := by decide +kernel
theorem dX4_come_24 : decode cX4_come 24 = .ok (.iconst 0, 1) := by decide +kernel
theorem dX4_come_25 : decode cX4_come 25 = .ok (.ireturn, 1) := by decide +kernel
theorem dX4_come_26 : decode cX4_come 26 = .ok (.aload_n 0, 1) := by decide +kernel
theorem dX4_come_27 : decode cX4_come 27 = .ok (.getfield 42, 3) := by decide +kernel
theorem dX4_come_30 : decode cX4_come 30 = .ok (.aload_n 0, 1) := by decide +kernel
theorem dX4_come_31 : decode cX4_come 31 = .ok (.getfield 65, 3) := by decide +kernel
theorem dX4_come_34 : decode cX4_come 34 = .ok (.iload_n 1, 1) := by decide +kernel
theorem dX4_come_35 : decode cX4_come 35 = .ok (.iastore, 1) := by decide +kernel
theorem dX4_come_36 : decode cX4_come 36 = .ok (.aload_n 0, 1) := by decide +kernel
theorem dX4_come_37 : decode cX4_come 37 = .ok (.getfield 45, 3) := by decide +kernel
theorem dX4_come_40 : decode cX4_come 40 = .ok (.aload_n 0, 1) := by decide +kernel
theorem dX4_come_41 : decode cX4_come 41 = .ok (.getfield 65, 3) := by decide +kernel
theorem dX4_come_44 : decode cX4_come 44 = .ok (.iload_n 2, 1) := by decide +kernel
theorem dX4_come_45 : decode cX4_come 45 = .ok (.iastore, 1) := by decide +kernel
theorem dX4_come_46 : decode cX4_come 46 = .ok (.aload_n 0, 1) := by decide +kernel
theorem dX4_come_47 : decode cX4_come 47 = .ok (.getfield 48, 3) := by decide +kernel
theorem dX4_come_50 : decode cX4_come 50 = .ok (.aload_n 0, 1) := by decide +kernel
theorem dX4_come_51 : decode cX4_come 51 = .ok (.getfield 65, 3) := by decide +kernel
theorem dX4_come_54 : decode cX4_come 54 = .ok (.iload_n 3, 1) := by decide +kernel
theorem dX4_come_55 : decode cX4_come 55 = .ok (.iastore, 1) := by decide +kernel
theorem dX4_come_56 : decode cX4_come 56 = .ok (.aload_n 0, 1) := by decide +kernel
theorem dX4_come_57 : decode cX4_come 57 = .ok (.dup, 1) := by decide +kernel
theorem dX4_come_58 : decode cX4_come 58 = .ok (.getfield 65, 3) := by decide +kernel
theorem dX4_come_61 : decode cX4_come 61 = .ok (.iconst 1, 1) := by decide +kernel
theorem dX4_come_62 : decode cX4_come 62 = .ok (.iadd, 1) := by decide +kernel
theorem dX4_come_63 : decode cX4_come 63 = .ok (.putfield 65, 3) := by decide +kernel
theorem dX4_come_66 : decode cX4_come 66 = .ok (.iconst 1, 1) := by decide +kernel
theorem dX4_come_67 : decode cX4_come 67 = .ok (.ireturn, 1) := by decide +kernel
