theorem dX0_init_0 : decode cX0_init 0 = .ok (.aload_n 0, 1) := by decide +kernel
theorem dX0_init_1 : decode cX0_init 1 = .ok (.invokespecial 1, 3) := by decide +kernel
theorem dX0_init_4 : decode cX0_init 4 = .ok (.return_, 1) := by decide +kernel
theorem dX0_join_0 : decode cX0_join 0 = .ok (.aload_n 1, 1) := by decide +kernel
theorem dX0_join_1 : decode cX0_join 1 = .ok (.aconst_null, 1) := by decide +kernel
theorem dX0_join_2 : decode cX0_join 2 = .ok (.putfield 7, 3) := by decide +kernel
theorem dX0_join_5 : decode cX0_join 5 = .ok (.aload_n 0, 1) := by decide +kernel
theorem dX0_join_6 : decode cX0_join 6 = .ok (.getfield 13, 3) := by decide +kernel
theorem dX0_join_9 : decode cX0_join 9 = .ok (.ifnonnull 11, 3) := by decide +kernel
theorem dX0_join_12 : decode cX0_join 12 = .ok (.aload_n 0, 1) := by decide +kernel
theorem dX0_join_13 : decode cX0_join 13 = .ok (.aload_n 1, 1) := by decide +kernel
theorem dX0_join_14 : decode cX0_join 14 = .ok (.putfield 18, 3) := by decide +kernel
theorem dX0_join_17 : decode cX0_join 17 = .ok (.goto 11, 3) := by decide +kernel
theorem dX0_join_20 : decode cX0_join 20 = .ok (.aload_n 0, 1) := by decide +kernel
theorem dX0_join_21 : decode cX0_join 21 = .ok (.getfield 13, 3) := by decide +kernel
theorem dX0_join_24 : decode cX0_join 24 = .ok (.aload_n 1, 1) := by decide +kernel
theorem dX0_join_25 : decode cX0_join 25 = .ok (.putfield 7, 3) := by decide +kernel
theorem dX0_join_28 : decode cX0_join 28 = .ok (.aload_n 0, 1) := by decide +kernel
theorem dX0_join_29 : decode cX0_join 29 = .ok (.aload_n 1, 1) := by decide +kernel
theorem dX0_join_30 : decode cX0_join 30 = .ok (.putfield 13, 3) := by decide +kernel
theorem dX0_join_33 : decode cX0_join 33 = .ok (.aload_n 0, 1) := by decide +kernel
theorem dX0_join_34 : decode cX0_join 34 = .ok (.dup, 1) := by decide +kernel
theorem dX0_join_35 : decode cX0_join 35 = .ok (.getfield 21, 3) := by decide +kernel
theorem dX0_join_38 : decode cX0_join 38 = .ok (.iconst 1, 1) := by decide +kernel
theorem dX0_join_39 : decode cX0_join 39 = .ok (.iadd, 1) := by decide +kernel
theorem dX0_join_40 : decode cX0_join 40 = .ok (.putfield 21, 3) := by decide +kernel
theorem dX0_join_43 : decode cX0_join 43 = .ok (.aload_n 0, 1) := by decide +kernel
theorem dX0_join_44 : decode cX0_join 44 = .ok (.dup, 1) := by decide +kernel
theorem dX0_join_45 : decode cX0_join 45 = .ok (.getfield 25, 3) := by decide +kernel
theorem dX0_join_48 : decode cX0_join 48 = .ok (.aload_n 1, 1) := by decide +kernel
theorem dX0_join_49 : decode cX0_join 49 = .ok (.getfield 28, 3) := by decide +kernel
theorem dX0_join_52 : decode cX0_join 52 = .ok (.iadd, 1) := by decide +kernel
theorem dX0_join_53 : decode cX0_join 53 = .ok (.putfield 25, 3) := by decide +kernel
theorem dX0_join_56 : decode cX0_join 56 = .ok (.return_, 1) := by decide +kernel
theorem dX0_leave_0 : decode cX0_leave 0 = .ok (.aload_n 0, 1) := by decide +kernel
theorem dX0_leave_1 : decode cX0_leave 1 = .ok (.getfield 18, 3) := by decide +kernel
theorem dX0_leave_4 : decode cX0_leave 4 = .ok (.astore_n 1, 1) := by decide +kernel
theorem dX0_leave_5 : decode cX0_leave 5 = .ok (.aload_n 1, 1) := by decide +kernel
theorem dX0_leave_6 : decode cX0_leave 6 = .ok (.ifnonnull 5, 3) := by decide +kernel
theorem dX0_leave_9 : decode cX0_leave 9 = .ok (.aconst_null, 1) := by decide +kernel
theorem dX0_leave_10 : decode cX0_leave 10 = .ok (.areturn, 1) := by decide +kernel
theorem dX0_leave_11 : decode cX0_leave 11 = .ok (.aload_n 0, 1) := by decide +kernel
theorem dX0_leave_12 : decode cX0_leave 12 = .ok (.aload_n 1, 1) := by decide +kernel
theorem dX0_leave_13 : decode cX0_leave 13 = .ok (.getfield 7, 3) := by decide +kernel
theorem dX0_leave_16 : decode cX0_leave 16 = .ok (.putfield 18, 3) := by decide +kernel
theorem dX0_leave_19 : decode cX0_leave 19 = .ok (.aload_n 0, 1) := by decide +kernel
theorem dX0_leave_20 : decode cX0_leave 20 = .ok (.getfield 18, 3) := by decide +kernel
theorem dX0_leave_23 : decode cX0_leave 23 = .ok (.ifnonnull 8, 3) := by decide +kernel
theorem dX0_leave_26 : decode cX0_leave 26 = .ok (.aload_n 0, 1) := by decide +kernel
theorem dX0_leave_27 : decode cX0_leave 27 = .ok (.aconst_null, 1) := by decide +kernel
theorem dX0_leave_28 : decode cX0_leave 28 = .ok (.putfield 13, 3) := by decide +kernel
theorem dX0_leave_31 : decode cX0_leave 31 = .ok (.aload_n 0, 1) := by decide +kernel
theorem dX0_leave_32 : decode cX0_leave 32 = .ok (.dup, 1) := by decide +kernel
theorem dX0_leave_33 : decode cX0_leave 33 = .ok (.getfield 21, 3) := by decide +kernel
theorem dX0_leave_36 : decode cX0_leave 36 = .ok (.iconst 1, 1) := by decide +kernel
theorem dX0_leave_37 : decode cX0_leave 37 = .ok (.isub, 1) := by decide +kernel
theorem dX0_leave_38 : decode cX0_leave 38 = .ok (.putfield 21, 3) := by decide +kernel
theorem dX0_leave_41 : decode cX0_leave 41 = .ok (.aload_n 0, 1) := by decide +kernel
theorem dX0_leave_42 : decode cX0_leave 42 = .ok (.dup, 1) := by decide +kernel
theorem dX0_leave_43 : decode cX0_leave 43 = .ok (.getfield 25, 3) := by decide +kernel
theorem dX0_leave_46 : decode cX0_leave 46 = .ok (.aload_n 1, 1) := by decide +kernel
theorem dX0_leave_47 : decode cX0_leave 47 = .ok (.getfield 28, 3) := by decide +kernel
theorem dX0_leave_50 : decode cX0_leave 50 = .ok (.isub, 1) := by decide +kernel
theorem dX0_leave_51 : decode cX0_leave 51 = .ok (.putfield 25, 3) := by decide +kernel
theorem dX0_leave_54 : decode cX0_leave 54 = .ok (.aload_n 1, 1) := by decide +kernel
theorem dX0_leave_55 : decode cX0_leave 55 = .ok (.areturn, 1) := by decide +kernel
theorem dX0_emptyOnto_0 : decode cX0_emptyOnto 0 = .ok (.aload_n 0, 1) := by decide +kernel
theorem dX0_emptyOnto_1 : decode cX0_emptyOnto 1 = .ok (.getfield 13, 3) := by decide +kernel
theorem dX0_emptyOnto_4 : decode cX0_emptyOnto 4 = .ok (.ifnonnull 5, 3) := by decide +kernel
theorem dX0_emptyOnto_7 : decode cX0_emptyOnto 7 = .ok (.aload_n 1, 1) := by decide +kernel
theorem dX0_emptyOnto_8 : decode cX0_emptyOnto 8 = .ok (.areturn, 1) := by decide +kernel
theorem dX0_emptyOnto_9 : decode cX0_emptyOnto 9 = .ok (.aload_n 0, 1) := by decide +kernel
theorem dX0_emptyOnto_10 : decode cX0_emptyOnto 10 = .ok (.getfield 18, 3) := by decide +kernel
theorem dX0_emptyOnto_13 : decode cX0_emptyOnto 13 = .ok (.astore_n 2, 1) := by decide +kernel
theorem dX0_emptyOnto_14 : decode cX0_emptyOnto 14 = .ok (.aload_n 0, 1) := by decide +kernel
theorem dX0_emptyOnto_15 : decode cX0_emptyOnto 15 = .ok (.getfield 13, 3) := by decide +kernel
theorem dX0_emptyOnto_18 : decode cX0_emptyOnto 18 = .ok (.aload_n 1, 1) := by decide +kernel
theorem dX0_emptyOnto_19 : decode cX0_emptyOnto 19 = .ok (.putfield 7, 3) := by decide +kernel
theorem dX0_emptyOnto_22 : decode cX0_emptyOnto 22 = .ok (.aload_n 0, 1) := by decide +kernel
theorem dX0_emptyOnto_23 : decode cX0_emptyOnto 23 = .ok (.aconst_null, 1) := by decide +kernel
theorem dX0_emptyOnto_24 : decode cX0_emptyOnto 24 = .ok (.putfield 18, 3) := by decide +kernel
theorem dX0_emptyOnto_27 : decode cX0_emptyOnto 27 = .ok (.aload_n 0, 1) := by decide +kernel
theorem dX0_emptyOnto_28 : decode cX0_emptyOnto 28 = .ok (.aconst_null, 1) := by decide +kernel
theorem dX0_emptyOnto_29 : decode cX0_emptyOnto 29 = .ok (.putfield 13, 3) := by decide +kernel
theorem dX0_emptyOnto_32 : decode cX0_emptyOnto 32 = .ok (.aload_n 0, 1) := by decide +kernel
theorem dX0_emptyOnto_33 : decode cX0_emptyOnto 33 = .ok (.iconst 0, 1) := by decide +kernel
theorem dX0_emptyOnto_34 : decode cX0_emptyOnto 34 = .ok (.putfield 21, 3) := by decide +kernel
theorem dX0_emptyOnto_37 : decode cX0_emptyOnto 37 = .ok (.aload_n 0, 1) := by decide +kernel
theorem dX0_emptyOnto_38 : decode cX0_emptyOnto 38 = .ok (.iconst 0, 1) := by decide +kernel
theorem dX0_emptyOnto_39 : decode cX0_emptyOnto 39 = .ok (.putfield 25, 3) := by decide +kernel
theorem dX0_emptyOnto_42 : decode cX0_emptyOnto 42 = .ok (.aload_n 2, 1) := by decide +kernel
theorem dX0_emptyOnto_43 : decode cX0_emptyOnto 43 = .ok (.areturn, 1) := by decide +kernel
theorem dX0_packetAt_0 : decode cX0_packetAt 0 = .ok (.iload_n 1, 1) := by decide +kernel
theorem dX0_packetAt_1 : decode cX0_packetAt 1 = .ok (.ifCond .lt 11, 3) := by decide +kernel
theorem dX0_packetAt_4 : decode cX0_packetAt 4 = .ok (.iload_n 1, 1) := by decide +kernel
theorem dX0_packetAt_5 : decode cX0_packetAt 5 = .ok (.aload_n 0, 1) := by decide +kernel
theorem dX0_packetAt_6 : decode cX0_packetAt 6 = .ok (.getfield 21, 3) := by decide +kernel
theorem dX0_packetAt_9 : decode cX0_packetAt 9 = .ok (.if_icmp .lt 5, 3) := by decide +kernel
theorem dX0_packetAt_12 : decode cX0_packetAt 12 = .ok (.aconst_null, 1) := by decide +kernel
theorem dX0_packetAt_13 : decode cX0_packetAt 13 = .ok (.areturn, 1) := by decide +kernel
theorem dX0_packetAt_14 : decode cX0_packetAt 14 = .ok (.aload_n 0, 1) := by decide +kernel
theorem dX0_packetAt_15 : decode cX0_packetAt 15 = .ok (.getfield 18, 3) := by decide +kernel
theorem dX0_packetAt_18 : decode cX0_packetAt 18 = .ok (.astore_n 2, 1) := by decide +kernel
theorem dX0_packetAt_19 : decode cX0_packetAt 19 = .ok (.iconst 0, 1) := by decide +kernel
theorem dX0_packetAt_20 : decode cX0_packetAt 20 = .ok (.istore_n 3, 1) := by decide +kernel
theorem dX0_packetAt_21 : decode cX0_packetAt 21 = .ok (.iload_n 3, 1) := by decide +kernel
theorem dX0_packetAt_22 : decode cX0_packetAt 22 = .ok (.iload_n 1, 1) := by decide +kernel
theorem dX0_packetAt_23 : decode cX0_packetAt 23 = .ok (.if_icmp .ge 18, 3) := by decide +kernel
theorem dX0_packetAt_26 : decode cX0_packetAt 26 = .ok (.aload_n 2, 1) := by decide +kernel
theorem dX0_packetAt_27 : decode cX0_packetAt 27 = .ok (.ifnull 14, 3) := by decide +kernel
theorem dX0_packetAt_30 : decode cX0_packetAt 30 = .ok (.aload_n 2, 1) := by decide +kernel
theorem dX0_packetAt_31 : decode cX0_packetAt 31 = .ok (.getfield 7, 3) := by decide +kernel
theorem dX0_packetAt_34 : decode cX0_packetAt 34 = .ok (.astore_n 2, 1) := by decide +kernel
theorem dX0_packetAt_35 : decode cX0_packetAt 35 = .ok (.iinc 3 1, 3) := by decide +kernel
theorem dX0_packetAt_38 : decode cX0_packetAt 38 = .ok (.goto (-17), 3) := by decide +kernel
theorem dX0_packetAt_41 : decode cX0_packetAt 41 = .ok (.aload_n 2, 1) := by decide +kernel
theorem dX0_packetAt_42 : decode cX0_packetAt 42 = .ok (.areturn, 1) := by decide +kernel
theorem dX1_init_0 : decode cX1_init 0 = .ok (.aload_n 0, 1) := by decide +kernel
theorem dX1_init_1 : decode cX1_init 1 = .ok (.invokespecial 3, 3) := by decide +kernel
theorem dX1_init_4 : decode cX1_init 4 = .ok (.aload_n 0, 1) := by decide +kernel
theorem dX1_init_5 : decode cX1_init 5 = .ok (.iload_n 1, 1) := by decide +kernel
theorem dX1_init_6 : decode cX1_init 6 = .ok (.putfield 9, 3) := by decide +kernel
theorem dX1_init_9 : decode cX1_init 9 = .ok (.aload_n 0, 1) := by decide +kernel
theorem dX1_init_10 : decode cX1_init 10 = .ok (.iload_n 2, 1) := by decide +kernel
theorem dX1_init_11 : decode cX1_init 11 = .ok (.putfield 15, 3) := by decide +kernel
theorem dX1_init_14 : decode cX1_init 14 = .ok (.aload_n 0, 1) := by decide +kernel
theorem dX1_init_15 : decode cX1_init 15 = .ok (.iload_n 3, 1) := by decide +kernel
theorem dX1_init_16 : decode cX1_init 16 = .ok (.putfield 18, 3) := by decide +kernel
theorem dX1_init_19 : decode cX1_init 19 = .ok (.aload_n 0, 1) := by decide +kernel
theorem dX1_init_20 : decode cX1_init 20 = .ok (.new 21, 3) := by decide +kernel
theorem dX1_init_23 : decode cX1_init 23 = .ok (.dup, 1) := by decide +kernel
theorem dX1_init_24 : decode cX1_init 24 = .ok (.invokespecial 23, 3) := by decide +kernel
theorem dX1_init_27 : decode cX1_init 27 = .ok (.putfield 24, 3) := by decide +kernel
theorem dX1_init_30 : decode cX1_init 30 = .ok (.return_, 1) := by decide +kernel
theorem dX1_isLeaf_0 : decode cX1_isLeaf 0 = .ok (.aload_n 0, 1) := by decide +kernel
theorem dX1_isLeaf_1 : decode cX1_isLeaf 1 = .ok (.getfield 28, 3) := by decide +kernel
theorem dX1_isLeaf_4 : decode cX1_isLeaf 4 = .ok (.ifnonnull 14, 3) := by decide +kernel
theorem dX1_isLeaf_7 : decode cX1_isLeaf 7 = .ok (.aload_n 0, 1) := by decide +kernel
theorem dX1_isLeaf_8 : decode cX1_isLeaf 8 = .ok (.getfield 32, 3) := by decide +kernel
theorem dX1_isLeaf_11 : decode cX1_isLeaf 11 = .ok (.ifnull 7, 3) := by decide +kernel
theorem dX1_isLeaf_14 : decode cX1_isLeaf 14 = .ok (.iconst 1, 1) := by decide +kernel
theorem dX1_isLeaf_15 : decode cX1_isLeaf 15 = .ok (.goto 4, 3) := by decide +kernel
theorem dX1_isLeaf_18 : decode cX1_isLeaf 18 = .ok (.iconst 0, 1) := by decide +kernel
theorem dX1_isLeaf_19 : decode cX1_isLeaf 19 = .ok (.ireturn, 1) := by decide +kernel
theorem dX1_isInside_0 : decode cX1_isInside 0 = .ok (.aload_n 0, 1) := by decide +kernel
theorem dX1_isInside_1 : decode cX1_isInside 1 = .ok (.astore_n 2, 1) := by decide +kernel
theorem dX1_isInside_2 : decode cX1_isInside 2 = .ok (.aload_n 2, 1) := by decide +kernel
theorem dX1_isInside_3 : decode cX1_isInside 3 = .ok (.ifnull 18, 3) := by decide +kernel
theorem dX1_isInside_6 : decode cX1_isInside 6 = .ok (.aload_n 2, 1) := by decide +kernel
theorem dX1_isInside_7 : decode cX1_isInside 7 = .ok (.aload_n 1, 1) := by decide +kernel
theorem dX1_isInside_8 : decode cX1_isInside 8 = .ok (.if_acmp .ne 5, 3) := by decide +kernel
theorem dX1_isInside_11 : decode cX1_isInside 11 = .ok (.iconst 1, 1) := by decide +kernel
theorem dX1_isInside_12 : decode cX1_isInside 12 = .ok (.ireturn, 1) := by decide +kernel
theorem dX1_isInside_13 : decode cX1_isInside 13 = .ok (.aload_n 2, 1) := by decide +kernel
theorem dX1_isInside_14 : decode cX1_isInside 14 = .ok (.getfield 32, 3) := by decide +kernel
theorem dX1_isInside_17 : decode cX1_isInside 17 = .ok (.astore_n 2, 1) := by decide +kernel
theorem dX1_isInside_18 : decode cX1_isInside 18 = .ok (.goto (-16), 3) := by decide +kernel
theorem dX1_isInside_21 : decode cX1_isInside 21 = .ok (.iconst 0, 1) := by decide +kernel
theorem dX1_isInside_22 : decode cX1_isInside 22 = .ok (.ireturn, 1) := by decide +kernel
theorem dX1_adopt_0 : decode cX1_adopt 0 = .ok (.aload_n 1, 1) := by decide +kernel
theorem dX1_adopt_1 : decode cX1_adopt 1 = .ok (.aload_n 0, 1) := by decide +kernel
theorem dX1_adopt_2 : decode cX1_adopt 2 = .ok (.putfield 32, 3) := by decide +kernel
theorem dX1_adopt_5 : decode cX1_adopt 5 = .ok (.aload_n 1, 1) := by decide +kernel
theorem dX1_adopt_6 : decode cX1_adopt 6 = .ok (.aload_n 0, 1) := by decide +kernel
theorem dX1_adopt_7 : decode cX1_adopt 7 = .ok (.getfield 28, 3) := by decide +kernel
theorem dX1_adopt_10 : decode cX1_adopt 10 = .ok (.putfield 35, 3) := by decide +kernel
theorem dX1_adopt_13 : decode cX1_adopt 13 = .ok (.aload_n 0, 1) := by decide +kernel
theorem dX1_adopt_14 : decode cX1_adopt 14 = .ok (.aload_n 1, 1) := by decide +kernel
theorem dX1_adopt_15 : decode cX1_adopt 15 = .ok (.putfield 28, 3) := by decide +kernel
theorem dX1_adopt_18 : decode cX1_adopt 18 = .ok (.return_, 1) := by decide +kernel
theorem dX1_letGo_0 : decode cX1_letGo 0 = .ok (.aload_n 0, 1) := by decide +kernel
theorem dX1_letGo_1 : decode cX1_letGo 1 = .ok (.getfield 28, 3) := by decide +kernel
theorem dX1_letGo_4 : decode cX1_letGo 4 = .ok (.aload_n 1, 1) := by decide +kernel
theorem dX1_letGo_5 : decode cX1_letGo 5 = .ok (.if_acmp .ne 14, 3) := by decide +kernel
theorem dX1_letGo_8 : decode cX1_letGo 8 = .ok (.aload_n 0, 1) := by decide +kernel
theorem dX1_letGo_9 : decode cX1_letGo 9 = .ok (.aload_n 1, 1) := by decide +kernel
theorem dX1_letGo_10 : decode cX1_letGo 10 = .ok (.getfield 35, 3) := by decide +kernel
theorem dX1_letGo_13 : decode cX1_letGo 13 = .ok (.putfield 28, 3) := by decide +kernel
theorem dX1_letGo_16 : decode cX1_letGo 16 = .ok (.goto 40, 3) := by decide +kernel
theorem dX1_letGo_19 : decode cX1_letGo 19 = .ok (.aload_n 0, 1) := by decide +kernel
theorem dX1_letGo_20 : decode cX1_letGo 20 = .ok (.getfield 28, 3) := by decide +kernel
theorem dX1_letGo_23 : decode cX1_letGo 23 = .ok (.astore_n 2, 1) := by decide +kernel
theorem dX1_letGo_24 : decode cX1_letGo 24 = .ok (.aload_n 2, 1) := by decide +kernel
theorem dX1_letGo_25 : decode cX1_letGo 25 = .ok (.ifnull 19, 3) := by decide +kernel
theorem dX1_letGo_28 : decode cX1_letGo 28 = .ok (.aload_n 2, 1) := by decide +kernel
theorem dX1_letGo_29 : decode cX1_letGo 29 = .ok (.getfield 35, 3) := by decide +kernel
theorem dX1_letGo_32 : decode cX1_letGo 32 = .ok (.aload_n 1, 1) := by decide +kernel
theorem dX1_letGo_33 : decode cX1_letGo 33 = .ok (.if_acmp .eq 11, 3) := by decide +kernel
theorem dX1_letGo_36 : decode cX1_letGo 36 = .ok (.aload_n 2, 1) := by decide +kernel
theorem dX1_letGo_37 : decode cX1_letGo 37 = .ok (.getfield 35, 3) := by decide +kernel
theorem dX1_letGo_40 : decode cX1_letGo 40 = .ok (.astore_n 2, 1) := by decide +kernel
theorem dX1_letGo_41 : decode cX1_letGo 41 = .ok (.goto (-17), 3) := by decide +kernel
theorem dX1_letGo_44 : decode cX1_letGo 44 = .ok (.aload_n 2, 1) := by decide +kernel
theorem dX1_letGo_45 : decode cX1_letGo 45 = .ok (.ifnull 11, 3) := by decide +kernel
theorem dX1_letGo_48 : decode cX1_letGo 48 = .ok (.aload_n 2, 1) := by decide +kernel
theorem dX1_letGo_49 : decode cX1_letGo 49 = .ok (.aload_n 1, 1) := by decide +kernel
theorem dX1_letGo_50 : decode cX1_letGo 50 = .ok (.getfield 35, 3) := by decide +kernel
theorem dX1_letGo_53 : decode cX1_letGo 53 = .ok (.putfield 35, 3) := by decide +kernel
theorem dX1_letGo_56 : decode cX1_letGo 56 = .ok (.aload_n 1, 1) := by decide +kernel
theorem dX1_letGo_57 : decode cX1_letGo 57 = .ok (.aconst_null, 1) := by decide +kernel
theorem dX1_letGo_58 : decode cX1_letGo 58 = .ok (.putfield 32, 3) := by decide +kernel
theorem dX1_letGo_61 : decode cX1_letGo 61 = .ok (.aload_n 1, 1) := by decide +kernel
theorem dX1_letGo_62 : decode cX1_letGo 62 = .ok (.aconst_null, 1) := by decide +kernel
theorem dX1_letGo_63 : decode cX1_letGo 63 = .ok (.putfield 35, 3) := by decide +kernel
theorem dX1_letGo_66 : decode cX1_letGo 66 = .ok (.return_, 1) := by decide +kernel
theorem dX1_countChildren_0 : decode cX1_countChildren 0 = .ok (.iconst 0, 1) := by decide +kernel
theorem dX1_countChildren_1 : decode cX1_countChildren 1 = .ok (.istore_n 1, 1) := by decide +kernel
theorem dX1_countChildren_2 : decode cX1_countChildren 2 = .ok (.aload_n 0, 1) := by decide +kernel
theorem dX1_countChildren_3 : decode cX1_countChildren 3 = .ok (.getfield 28, 3) := by decide +kernel
theorem dX1_countChildren_6 : decode cX1_countChildren 6 = .ok (.astore_n 2, 1) := by decide +kernel
theorem dX1_countChildren_7 : decode cX1_countChildren 7 = .ok (.aload_n 2, 1) := by decide +kernel
theorem dX1_countChildren_8 : decode cX1_countChildren 8 = .ok (.ifnull 14, 3) := by decide +kernel
theorem dX1_countChildren_11 : decode cX1_countChildren 11 = .ok (.iinc 1 1, 3) := by decide +kernel
theorem dX1_countChildren_14 : decode cX1_countChildren 14 = .ok (.aload_n 2, 1) := by decide +kernel
theorem dX1_countChildren_15 : decode cX1_countChildren 15 = .ok (.getfield 35, 3) := by decide +kernel
theorem dX1_countChildren_18 : decode cX1_countChildren 18 = .ok (.astore_n 2, 1) := by decide +kernel
theorem dX1_countChildren_19 : decode cX1_countChildren 19 = .ok (.goto (-12), 3) := by decide +kernel
theorem dX1_countChildren_22 : decode cX1_countChildren 22 = .ok (.iload_n 1, 1) := by decide +kernel
theorem dX1_countChildren_23 : decode cX1_countChildren 23 = .ok (.ireturn, 1) := by decide +kernel
theorem dX1_comesBefore_0 : decode cX1_comesBefore 0 = .ok (.aload_n 0, 1) := by decide +kernel
theorem dX1_comesBefore_1 : decode cX1_comesBefore 1 = .ok (.getfield 38, 3) := by decide +kernel
theorem dX1_comesBefore_4 : decode cX1_comesBefore 4 = .ok (.aload_n 1, 1) := by decide +kernel
theorem dX1_comesBefore_5 : decode cX1_comesBefore 5 = .ok (.getfield 38, 3) := by decide +kernel
theorem dX1_comesBefore_8 : decode cX1_comesBefore 8 = .ok (.lcmp, 1) := by decide +kernel
theorem dX1_comesBefore_9 : decode cX1_comesBefore 9 = .ok (.ifCond .lt 26, 3) := by decide +kernel
theorem dX1_comesBefore_12 : decode cX1_comesBefore 12 = .ok (.aload_n 0, 1) := by decide +kernel
theorem dX1_comesBefore_13 : decode cX1_comesBefore 13 = .ok (.getfield 38, 3) := by decide +kernel
theorem dX1_comesBefore_16 : decode cX1_comesBefore 16 = .ok (.aload_n 1, 1) := by decide +kernel
theorem dX1_comesBefore_17 : decode cX1_comesBefore 17 = .ok (.getfield 38, 3) := by decide +kernel
theorem dX1_comesBefore_20 : decode cX1_comesBefore 20 = .ok (.lcmp, 1) := by decide +kernel
theorem dX1_comesBefore_21 : decode cX1_comesBefore 21 = .ok (.ifCond .ne 18, 3) := by decide +kernel
theorem dX1_comesBefore_24 : decode cX1_comesBefore 24 = .ok (.aload_n 0, 1) := by decide +kernel
theorem dX1_comesBefore_25 : decode cX1_comesBefore 25 = .ok (.getfield 9, 3) := by decide +kernel
theorem dX1_comesBefore_28 : decode cX1_comesBefore 28 = .ok (.aload_n 1, 1) := by decide +kernel
theorem dX1_comesBefore_29 : decode cX1_comesBefore 29 = .ok (.getfield 9, 3) := by decide +kernel
theorem dX1_comesBefore_32 : decode cX1_comesBefore 32 = .ok (.if_icmp .ge 7, 3) := by decide +kernel
theorem dX1_comesBefore_35 : decode cX1_comesBefore 35 = .ok (.iconst 1, 1) := by decide +kernel
theorem dX1_comesBefore_36 : decode cX1_comesBefore 36 = .ok (.goto 4, 3) := by decide +kernel
theorem dX1_comesBefore_39 : decode cX1_comesBefore 39 = .ok (.iconst 0, 1) := by decide +kernel
theorem dX1_comesBefore_40 : decode cX1_comesBefore 40 = .ok (.ireturn, 1) := by decide +kernel
theorem dX1_leastOpenChild_0 : decode cX1_leastOpenChild 0 = .ok (.aconst_null, 1) := by decide +kernel
theorem dX1_leastOpenChild_1 : decode cX1_leastOpenChild 1 = .ok (.astore_n 1, 1) := by decide +kernel
theorem dX1_leastOpenChild_2 : decode cX1_leastOpenChild 2 = .ok (.aload_n 0, 1) := by decide +kernel
theorem dX1_leastOpenChild_3 : decode cX1_leastOpenChild 3 = .ok (.getfield 28, 3) := by decide +kernel
theorem dX1_leastOpenChild_6 : decode cX1_leastOpenChild 6 = .ok (.astore_n 2, 1) := by decide +kernel
theorem dX1_leastOpenChild_7 : decode cX1_leastOpenChild 7 = .ok (.aload_n 2, 1) := by decide +kernel
theorem dX1_leastOpenChild_8 : decode cX1_leastOpenChild 8 = .ok (.ifnull 32, 3) := by decide +kernel
theorem dX1_leastOpenChild_11 : decode cX1_leastOpenChild 11 = .ok (.aload_n 2, 1) := by decide +kernel
theorem dX1_leastOpenChild_12 : decode cX1_leastOpenChild 12 = .ok (.getfield 42, 3) := by decide +kernel
theorem dX1_leastOpenChild_15 : decode cX1_leastOpenChild 15 = .ok (.ifCond .eq 17, 3) := by decide +kernel
theorem dX1_leastOpenChild_18 : decode cX1_leastOpenChild 18 = .ok (.aload_n 1, 1) := by decide +kernel
theorem dX1_leastOpenChild_19 : decode cX1_leastOpenChild 19 = .ok (.ifnull 11, 3) := by decide +kernel
theorem dX1_leastOpenChild_22 : decode cX1_leastOpenChild 22 = .ok (.aload_n 2, 1) := by decide +kernel
theorem dX1_leastOpenChild_23 : decode cX1_leastOpenChild 23 = .ok (.aload_n 1, 1) := by decide +kernel
theorem dX1_leastOpenChild_24 : decode cX1_leastOpenChild 24 = .ok (.invokevirtual 46, 3) := by decide +kernel
theorem dX1_leastOpenChild_27 : decode cX1_leastOpenChild 27 = .ok (.ifCond .eq 5, 3) := by decide +kernel
theorem dX1_leastOpenChild_30 : decode cX1_leastOpenChild 30 = .ok (.aload_n 2, 1) := by decide +kernel
theorem dX1_leastOpenChild_31 : decode cX1_leastOpenChild 31 = .ok (.astore_n 1, 1) := by decide +kernel
theorem dX1_leastOpenChild_32 : decode cX1_leastOpenChild 32 = .ok (.aload_n 2, 1) := by decide +kernel
theorem dX1_leastOpenChild_33 : decode cX1_leastOpenChild 33 = .ok (.getfield 35, 3) := by decide +kernel
theorem dX1_leastOpenChild_36 : decode cX1_leastOpenChild 36 = .ok (.astore_n 2, 1) := by decide +kernel
theorem dX1_leastOpenChild_37 : decode cX1_leastOpenChild 37 = .ok (.goto (-30), 3) := by decide +kernel
theorem dX1_leastOpenChild_40 : decode cX1_leastOpenChild 40 = .ok (.aload_n 1, 1) := by decide +kernel
theorem dX1_leastOpenChild_41 : decode cX1_leastOpenChild 41 = .ok (.areturn, 1) := by decide +kernel
theorem dX1_childOfRank_0 : decode cX1_childOfRank 0 = .ok (.aload_n 0, 1) := by decide +kernel
theorem dX1_childOfRank_1 : decode cX1_childOfRank 1 = .ok (.getfield 28, 3) := by decide +kernel
theorem dX1_childOfRank_4 : decode cX1_childOfRank 4 = .ok (.astore_n 2, 1) := by decide +kernel
theorem dX1_childOfRank_5 : decode cX1_childOfRank 5 = .ok (.aload_n 2, 1) := by decide +kernel
theorem dX1_childOfRank_6 : decode cX1_childOfRank 6 = .ok (.ifnull 22, 3) := by decide +kernel
theorem dX1_childOfRank_9 : decode cX1_childOfRank 9 = .ok (.aload_n 0, 1) := by decide +kernel
theorem dX1_childOfRank_10 : decode cX1_childOfRank 10 = .ok (.aload_n 2, 1) := by decide +kernel
theorem dX1_childOfRank_11 : decode cX1_childOfRank 11 = .ok (.invokevirtual 50, 3) := by decide +kernel
theorem dX1_childOfRank_14 : decode cX1_childOfRank 14 = .ok (.iload_n 1, 1) := by decide +kernel
theorem dX1_childOfRank_15 : decode cX1_childOfRank 15 = .ok (.if_icmp .ne 5, 3) := by decide +kernel
theorem dX1_childOfRank_18 : decode cX1_childOfRank 18 = .ok (.aload_n 2, 1) := by decide +kernel
theorem dX1_childOfRank_19 : decode cX1_childOfRank 19 = .ok (.areturn, 1) := by decide +kernel
theorem dX1_childOfRank_20 : decode cX1_childOfRank 20 = .ok (.aload_n 2, 1) := by decide +kernel
theorem dX1_childOfRank_21 : decode cX1_childOfRank 21 = .ok (.getfield 35, 3) := by decide +kernel
theorem dX1_childOfRank_24 : decode cX1_childOfRank 24 = .ok (.astore_n 2, 1) := by decide +kernel
theorem dX1_childOfRank_25 : decode cX1_childOfRank 25 = .ok (.goto (-20), 3) := by decide +kernel
theorem dX1_childOfRank_28 : decode cX1_childOfRank 28 = .ok (.aconst_null, 1) := by decide +kernel
theorem dX1_childOfRank_29 : decode cX1_childOfRank 29 = .ok (.areturn, 1) := by decide +kernel
theorem dX1_countChildrenBefore_0 : decode cX1_countChildrenBefore 0 = .ok (.iconst 0, 1) := by decide +kernel
theorem dX1_countChildrenBefore_1 : decode cX1_countChildrenBefore 1 = .ok (.istore_n 2, 1) := by decide +kernel
theorem dX1_countChildrenBefore_2 : decode cX1_countChildrenBefore 2 = .ok (.aload_n 0, 1) := by decide +kernel
theorem dX1_countChildrenBefore_3 : decode cX1_countChildrenBefore 3 = .ok (.getfield 28, 3) := by decide +kernel
theorem dX1_countChildrenBefore_6 : decode cX1_countChildrenBefore 6 = .ok (.astore_n 3, 1) := by decide +kernel
theorem dX1_countChildrenBefore_7 : decode cX1_countChildrenBefore 7 = .ok (.aload_n 3, 1) := by decide +kernel
theorem dX1_countChildrenBefore_8 : decode cX1_countChildrenBefore 8 = .ok (.ifnull 22, 3) := by decide +kernel
theorem dX1_countChildrenBefore_11 : decode cX1_countChildrenBefore 11 = .ok (.aload_n 3, 1) := by decide +kernel
theorem dX1_countChildrenBefore_12 : decode cX1_countChildrenBefore 12 = .ok (.aload_n 1, 1) := by decide +kernel
theorem dX1_countChildrenBefore_13 : decode cX1_countChildrenBefore 13 = .ok (.invokevirtual 46, 3) := by decide +kernel
theorem dX1_countChildrenBefore_16 : decode cX1_countChildrenBefore 16 = .ok (.ifCond .eq 6, 3) := by decide +kernel
theorem dX1_countChildrenBefore_19 : decode cX1_countChildrenBefore 19 = .ok (.iinc 2 1, 3) := by decide +kernel
theorem dX1_countChildrenBefore_22 : decode cX1_countChildrenBefore 22 = .ok (.aload_n 3, 1) := by decide +kernel
theorem dX1_countChildrenBefore_23 : decode cX1_countChildrenBefore 23 = .ok (.getfield 35, 3) := by decide +kernel
theorem dX1_countChildrenBefore_26 : decode cX1_countChildrenBefore 26 = .ok (.astore_n 3, 1) := by decide +kernel
theorem dX1_countChildrenBefore_27 : decode cX1_countChildrenBefore 27 = .ok (.goto (-20), 3) := by decide +kernel
theorem dX1_countChildrenBefore_30 : decode cX1_countChildrenBefore 30 = .ok (.iload_n 2, 1) := by decide +kernel
theorem dX1_countChildrenBefore_31 : decode cX1_countChildrenBefore 31 = .ok (.ireturn, 1) := by decide +kernel
theorem dX1_hasOpenContent_0 : decode cX1_hasOpenContent 0 = .ok (.aload_n 0, 1) := by decide +kernel
theorem dX1_hasOpenContent_1 : decode cX1_hasOpenContent 1 = .ok (.getfield 28, 3) := by decide +kernel
theorem dX1_hasOpenContent_4 : decode cX1_hasOpenContent 4 = .ok (.ifnonnull 21, 3) := by decide +kernel
theorem dX1_hasOpenContent_7 : decode cX1_hasOpenContent 7 = .ok (.aload_n 0, 1) := by decide +kernel
theorem dX1_hasOpenContent_8 : decode cX1_hasOpenContent 8 = .ok (.getfield 24, 3) := by decide +kernel
theorem dX1_hasOpenContent_11 : decode cX1_hasOpenContent 11 = .ok (.getfield 54, 3) := by decide +kernel
theorem dX1_hasOpenContent_14 : decode cX1_hasOpenContent 14 = .ok (.ifCond .le 7, 3) := by decide +kernel
theorem dX1_hasOpenContent_17 : decode cX1_hasOpenContent 17 = .ok (.iconst 1, 1) := by decide +kernel
theorem dX1_hasOpenContent_18 : decode cX1_hasOpenContent 18 = .ok (.goto 19, 3) := by decide +kernel
theorem dX1_hasOpenContent_21 : decode cX1_hasOpenContent 21 = .ok (.iconst 0, 1) := by decide +kernel
theorem dX1_hasOpenContent_22 : decode cX1_hasOpenContent 22 = .ok (.goto 15, 3) := by decide +kernel
theorem dX1_hasOpenContent_25 : decode cX1_hasOpenContent 25 = .ok (.aload_n 0, 1) := by decide +kernel
theorem dX1_hasOpenContent_26 : decode cX1_hasOpenContent 26 = .ok (.getfield 57, 3) := by decide +kernel
theorem dX1_hasOpenContent_29 : decode cX1_hasOpenContent 29 = .ok (.ifCond .le 7, 3) := by decide +kernel
theorem dX1_hasOpenContent_32 : decode cX1_hasOpenContent 32 = .ok (.iconst 1, 1) := by decide +kernel
theorem dX1_hasOpenContent_33 : decode cX1_hasOpenContent 33 = .ok (.goto 4, 3) := by decide +kernel
theorem dX1_hasOpenContent_36 : decode cX1_hasOpenContent 36 = .ok (.iconst 0, 1) := by decide +kernel
theorem dX1_hasOpenContent_37 : decode cX1_hasOpenContent 37 = .ok (.ireturn, 1) := by decide +kernel
theorem dX1_catchUp_0 : decode cX1_catchUp 0 = .ok (.aload_n 0, 1) := by decide +kernel
theorem dX1_catchUp_1 : decode cX1_catchUp 1 = .ok (.getfield 32, 3) := by decide +kernel
theorem dX1_catchUp_4 : decode cX1_catchUp 4 = .ok (.ifnull 34, 3) := by decide +kernel
theorem dX1_catchUp_7 : decode cX1_catchUp 7 = .ok (.aload_n 0, 1) := by decide +kernel
theorem dX1_catchUp_8 : decode cX1_catchUp 8 = .ok (.getfield 32, 3) := by decide +kernel
theorem dX1_catchUp_11 : decode cX1_catchUp 11 = .ok (.getfield 60, 3) := by decide +kernel
theorem dX1_catchUp_14 : decode cX1_catchUp 14 = .ok (.aload_n 0, 1) := by decide +kernel
theorem dX1_catchUp_15 : decode cX1_catchUp 15 = .ok (.getfield 38, 3) := by decide +kernel
theorem dX1_catchUp_18 : decode cX1_catchUp 18 = .ok (.lcmp, 1) := by decide +kernel
theorem dX1_catchUp_19 : decode cX1_catchUp 19 = .ok (.ifCond .le 19, 3) := by decide +kernel
theorem dX1_catchUp_22 : decode cX1_catchUp 22 = .ok (.aload_n 0, 1) := by decide +kernel
theorem dX1_catchUp_23 : decode cX1_catchUp 23 = .ok (.aload_n 0, 1) := by decide +kernel
theorem dX1_catchUp_24 : decode cX1_catchUp 24 = .ok (.getfield 32, 3) := by decide +kernel
theorem dX1_catchUp_27 : decode cX1_catchUp 27 = .ok (.getfield 60, 3) := by decide +kernel
theorem dX1_catchUp_30 : decode cX1_catchUp 30 = .ok (.putfield 38, 3) := by decide +kernel
theorem dX1_catchUp_33 : decode cX1_catchUp 33 = .ok (.aload_n 0, 1) := by decide +kernel
theorem dX1_catchUp_34 : decode cX1_catchUp 34 = .ok (.iconst 0, 1) := by decide +kernel
theorem dX1_catchUp_35 : decode cX1_catchUp 35 = .ok (.putfield 63, 3) := by decide +kernel
theorem dX1_catchUp_38 : decode cX1_catchUp 38 = .ok (.return_, 1) := by decide +kernel
theorem dX1_charge_0 : decode cX1_charge 0 = .ok (.aload_n 0, 1) := by decide +kernel
theorem dX1_charge_1 : decode cX1_charge 1 = .ok (.dup, 1) := by decide +kernel
theorem dX1_charge_2 : decode cX1_charge 2 = .ok (.getfield 66, 3) := by decide +kernel
theorem dX1_charge_5 : decode cX1_charge 5 = .ok (.iload_n 1, 1) := by decide +kernel
theorem dX1_charge_6 : decode cX1_charge 6 = .ok (.i2l, 1) := by decide +kernel
theorem dX1_charge_7 : decode cX1_charge 7 = .ok (.ladd, 1) := by decide +kernel
theorem dX1_charge_8 : decode cX1_charge 8 = .ok (.putfield 66, 3) := by decide +kernel
theorem dX1_charge_11 : decode cX1_charge 11 = .ok (.aload_n 0, 1) := by decide +kernel
theorem dX1_charge_12 : decode cX1_charge 12 = .ok (.getfield 15, 3) := by decide +kernel
theorem dX1_charge_15 : decode cX1_charge 15 = .ok (.ifCond .le 39, 3) := by decide +kernel
theorem dX1_charge_18 : decode cX1_charge 18 = .ok (.ldc 69, 2) := by decide +kernel
theorem dX1_charge_20 : decode cX1_charge 20 = .ok (.iload_n 1, 1) := by decide +kernel
theorem dX1_charge_21 : decode cX1_charge 21 = .ok (.imul, 1) := by decide +kernel
theorem dX1_charge_22 : decode cX1_charge 22 = .ok (.aload_n 0, 1) := by decide +kernel
theorem dX1_charge_23 : decode cX1_charge 23 = .ok (.getfield 63, 3) := by decide +kernel
theorem dX1_charge_26 : decode cX1_charge 26 = .ok (.iadd, 1) := by decide +kernel
theorem dX1_charge_27 : decode cX1_charge 27 = .ok (.istore_n 2, 1) := by decide +kernel
theorem dX1_charge_28 : decode cX1_charge 28 = .ok (.aload_n 0, 1) := by decide +kernel
theorem dX1_charge_29 : decode cX1_charge 29 = .ok (.dup, 1) := by decide +kernel
theorem dX1_charge_30 : decode cX1_charge 30 = .ok (.getfield 38, 3) := by decide +kernel
theorem dX1_charge_33 : decode cX1_charge 33 = .ok (.iload_n 2, 1) := by decide +kernel
theorem dX1_charge_34 : decode cX1_charge 34 = .ok (.aload_n 0, 1) := by decide +kernel
theorem dX1_charge_35 : decode cX1_charge 35 = .ok (.getfield 15, 3) := by decide +kernel
theorem dX1_charge_38 : decode cX1_charge 38 = .ok (.idiv, 1) := by decide +kernel
theorem dX1_charge_39 : decode cX1_charge 39 = .ok (.i2l, 1) := by decide +kernel
theorem dX1_charge_40 : decode cX1_charge 40 = .ok (.ladd, 1) := by decide +kernel
theorem dX1_charge_41 : decode cX1_charge 41 = .ok (.putfield 38, 3) := by decide +kernel
theorem dX1_charge_44 : decode cX1_charge 44 = .ok (.aload_n 0, 1) := by decide +kernel
theorem dX1_charge_45 : decode cX1_charge 45 = .ok (.iload_n 2, 1) := by decide +kernel
theorem dX1_charge_46 : decode cX1_charge 46 = .ok (.aload_n 0, 1) := by decide +kernel
theorem dX1_charge_47 : decode cX1_charge 47 = .ok (.getfield 15, 3) := by decide +kernel
theorem dX1_charge_50 : decode cX1_charge 50 = .ok (.irem, 1) := by decide +kernel
theorem dX1_charge_51 : decode cX1_charge 51 = .ok (.putfield 63, 3) := by decide +kernel
theorem dX1_charge_54 : decode cX1_charge 54 = .ok (.return_, 1) := by decide +kernel
theorem dX2_init_0 : decode cX2_init 0 = .ok (.aload_n 0, 1) := by decide +kernel
theorem dX2_init_1 : decode cX2_init 1 = .ok (.invokespecial 1, 3) := by decide +kernel
theorem dX2_init_4 : decode cX2_init 4 = .ok (.return_, 1) := by decide +kernel
theorem dX3_init_0 : decode cX3_init 0 = .ok (.aload_n 0, 1) := by decide +kernel
theorem dX3_init_1 : decode cX3_init 1 = .ok (.invokespecial 1, 3) := by decide +kernel
theorem dX3_init_4 : decode cX3_init 4 = .ok (.aload_n 0, 1) := by decide +kernel
theorem dX3_init_5 : decode cX3_init 5 = .ok (.new 7, 3) := by decide +kernel
theorem dX3_init_8 : decode cX3_init 8 = .ok (.dup, 1) := by decide +kernel
theorem dX3_init_9 : decode cX3_init 9 = .ok (.iconst 0, 1) := by decide +kernel
theorem dX3_init_10 : decode cX3_init 10 = .ok (.iconst 0, 1) := by decide +kernel
theorem dX3_init_11 : decode cX3_init 11 = .ok (.iconst 0, 1) := by decide +kernel
theorem dX3_init_12 : decode cX3_init 12 = .ok (.invokespecial 11, 3) := by decide +kernel
theorem dX3_init_15 : decode cX3_init 15 = .ok (.putfield 14, 3) := by decide +kernel
theorem dX3_init_18 : decode cX3_init 18 = .ok (.aload_n 0, 1) := by decide +kernel
theorem dX3_init_19 : decode cX3_init 19 = .ok (.bipush 64, 2) := by decide +kernel
theorem dX3_init_21 : decode cX3_init 21 = .ok (.anewarray 7, 3) := by decide +kernel
theorem dX3_init_24 : decode cX3_init 24 = .ok (.putfield 18, 3) := by decide +kernel
theorem dX3_init_27 : decode cX3_init 27 = .ok (.aload_n 0, 1) := by decide +kernel
theorem dX3_init_28 : decode cX3_init 28 = .ok (.getfield 18, 3) := by decide +kernel
theorem dX3_init_31 : decode cX3_init 31 = .ok (.iconst 0, 1) := by decide +kernel
theorem dX3_init_32 : decode cX3_init 32 = .ok (.aload_n 0, 1) := by decide +kernel
theorem dX3_init_33 : decode cX3_init 33 = .ok (.getfield 14, 3) := by decide +kernel
theorem dX3_init_36 : decode cX3_init 36 = .ok (.aastore, 1) := by decide +kernel
theorem dX3_init_37 : decode cX3_init 37 = .ok (.aload_n 0, 1) := by decide +kernel
theorem dX3_init_38 : decode cX3_init 38 = .ok (.iconst 1, 1) := by decide +kernel
theorem dX3_init_39 : decode cX3_init 39 = .ok (.putfield 22, 3) := by decide +kernel
theorem dX3_init_42 : decode cX3_init 42 = .ok (.aload_n 0, 1) := by decide +kernel
theorem dX3_init_43 : decode cX3_init 43 = .ok (.iconst (-1), 1) := by decide +kernel
theorem dX3_init_44 : decode cX3_init 44 = .ok (.putfield 26, 3) := by decide +kernel
theorem dX3_init_47 : decode cX3_init 47 = .ok (.aload_n 0, 1) := by decide +kernel
theorem dX3_init_48 : decode cX3_init 48 = .ok (.iconst (-1), 1) := by decide +kernel
theorem dX3_init_49 : decode cX3_init 49 = .ok (.putfield 29, 3) := by decide +kernel
theorem dX3_init_52 : decode cX3_init 52 = .ok (.return_, 1) := by decide +kernel
theorem dX3_add_0 : decode cX3_add 0 = .ok (.aload_n 0, 1) := by decide +kernel
theorem dX3_add_1 : decode cX3_add 1 = .ok (.iload_n 1, 1) := by decide +kernel
theorem dX3_add_2 : decode cX3_add 2 = .ok (.invokevirtual 32, 3) := by decide +kernel
theorem dX3_add_5 : decode cX3_add 5 = .ok (.astore 4, 2) := by decide +kernel
theorem dX3_add_7 : decode cX3_add 7 = .ok (.iload_n 2, 1) := by decide +kernel
theorem dX3_add_8 : decode cX3_add 8 = .ok (.invokestatic 36, 3) := by decide +kernel
theorem dX3_add_11 : decode cX3_add 11 = .ok (.ifCond .eq 15, 3) := by decide +kernel
theorem dX3_add_14 : decode cX3_add 14 = .ok (.iload_n 3, 1) := by decide +kernel
theorem dX3_add_15 : decode cX3_add 15 = .ok (.iconst 1, 1) := by decide +kernel
theorem dX3_add_16 : decode cX3_add 16 = .ok (.if_icmp .lt 10, 3) := by decide +kernel
theorem dX3_add_19 : decode cX3_add 19 = .ok (.iload_n 3, 1) := by decide +kernel
theorem dX3_add_20 : decode cX3_add 20 = .ok (.sipush 2000, 3) := by decide +kernel
theorem dX3_add_23 : decode cX3_add 23 = .ok (.if_icmp .le 11, 3) := by decide +kernel
theorem dX3_add_26 : decode cX3_add 26 = .ok (.new 40, 3) := by decide +kernel
theorem dX3_add_29 : decode cX3_add 29 = .ok (.dup, 1) := by decide +kernel
theorem dX3_add_30 : decode cX3_add 30 = .ok (.invokespecial 42, 3) := by decide +kernel
theorem dX3_add_33 : decode cX3_add 33 = .ok (.athrow, 1) := by decide +kernel
theorem dX3_add_34 : decode cX3_add 34 = .ok (.aload 4, 2) := by decide +kernel
theorem dX3_add_36 : decode cX3_add 36 = .ok (.getfield 43, 3) := by decide +kernel
theorem dX3_add_39 : decode cX3_add 39 = .ok (.getfield 47, 3) := by decide +kernel
theorem dX3_add_42 : decode cX3_add 42 = .ok (.ifCond .le 11, 3) := by decide +kernel
theorem dX3_add_45 : decode cX3_add 45 = .ok (.new 52, 3) := by decide +kernel
theorem dX3_add_48 : decode cX3_add 48 = .ok (.dup, 1) := by decide +kernel
theorem dX3_add_49 : decode cX3_add 49 = .ok (.invokespecial 54, 3) := by decide +kernel
theorem dX3_add_52 : decode cX3_add 52 = .ok (.athrow, 1) := by decide +kernel
theorem dX3_add_53 : decode cX3_add 53 = .ok (.aload_n 0, 1) := by decide +kernel
theorem dX3_add_54 : decode cX3_add 54 = .ok (.invokevirtual 55, 3) := by decide +kernel
theorem dX3_add_57 : decode cX3_add 57 = .ok (.istore 5, 2) := by decide +kernel
theorem dX3_add_59 : decode cX3_add 59 = .ok (.iload 5, 2) := by decide +kernel
theorem dX3_add_61 : decode cX3_add 61 = .ok (.iconst (-1), 1) := by decide +kernel
theorem dX3_add_62 : decode cX3_add 62 = .ok (.if_icmp .ne 11, 3) := by decide +kernel
theorem dX3_add_65 : decode cX3_add 65 = .ok (.new 59, 3) := by decide +kernel
theorem dX3_add_68 : decode cX3_add 68 = .ok (.dup, 1) := by decide +kernel
theorem dX3_add_69 : decode cX3_add 69 = .ok (.invokespecial 61, 3) := by decide +kernel
theorem dX3_add_72 : decode cX3_add 72 = .ok (.athrow, 1) := by decide +kernel
theorem dX3_add_73 : decode cX3_add 73 = .ok (.new 7, 3) := by decide +kernel
theorem dX3_add_76 : decode cX3_add 76 = .ok (.dup, 1) := by decide +kernel
theorem dX3_add_77 : decode cX3_add 77 = .ok (.iload 5, 2) := by decide +kernel
theorem dX3_add_79 : decode cX3_add 79 = .ok (.iload_n 2, 1) := by decide +kernel
theorem dX3_add_80 : decode cX3_add 80 = .ok (.iload_n 3, 1) := by decide +kernel
theorem dX3_add_81 : decode cX3_add 81 = .ok (.invokespecial 11, 3) := by decide +kernel
theorem dX3_add_84 : decode cX3_add 84 = .ok (.astore 6, 2) := by decide +kernel
theorem dX3_add_86 : decode cX3_add 86 = .ok (.aload 4, 2) := by decide +kernel
theorem dX3_add_88 : decode cX3_add 88 = .ok (.aload 6, 2) := by decide +kernel
theorem dX3_add_90 : decode cX3_add 90 = .ok (.invokevirtual 62, 3) := by decide +kernel
theorem dX3_add_93 : decode cX3_add 93 = .ok (.aload_n 0, 1) := by decide +kernel
theorem dX3_add_94 : decode cX3_add 94 = .ok (.getfield 18, 3) := by decide +kernel
theorem dX3_add_97 : decode cX3_add 97 = .ok (.iload 5, 2) := by decide +kernel
theorem dX3_add_99 : decode cX3_add 99 = .ok (.aload 6, 2) := by decide +kernel
theorem dX3_add_101 : decode cX3_add 101 = .ok (.aastore, 1) := by decide +kernel
theorem dX3_add_102 : decode cX3_add 102 = .ok (.aload_n 0, 1) := by decide +kernel
theorem dX3_add_103 : decode cX3_add 103 = .ok (.dup, 1) := by decide +kernel
theorem dX3_add_104 : decode cX3_add 104 = .ok (.getfield 22, 3) := by decide +kernel
theorem dX3_add_107 : decode cX3_add 107 = .ok (.iconst 1, 1) := by decide +kernel
theorem dX3_add_108 : decode cX3_add 108 = .ok (.iadd, 1) := by decide +kernel
theorem dX3_add_109 : decode cX3_add 109 = .ok (.putfield 22, 3) := by decide +kernel
theorem dX3_add_112 : decode cX3_add 112 = .ok (.iload 5, 2) := by decide +kernel
theorem dX3_add_114 : decode cX3_add 114 = .ok (.ireturn, 1) := by decide +kernel
theorem dX3_remove_0 : decode cX3_remove 0 = .ok (.aload_n 0, 1) := by decide +kernel
theorem dX3_remove_1 : decode cX3_remove 1 = .ok (.iload_n 1, 1) := by decide +kernel
theorem dX3_remove_2 : decode cX3_remove 2 = .ok (.invokevirtual 32, 3) := by decide +kernel
theorem dX3_remove_5 : decode cX3_remove 5 = .ok (.astore_n 2, 1) := by decide +kernel
theorem dX3_remove_6 : decode cX3_remove 6 = .ok (.aload_n 2, 1) := by decide +kernel
theorem dX3_remove_7 : decode cX3_remove 7 = .ok (.getfield 66, 3) := by decide +kernel
theorem dX3_remove_10 : decode cX3_remove 10 = .ok (.astore_n 3, 1) := by decide +kernel
theorem dX3_remove_11 : decode cX3_remove 11 = .ok (.aload_n 3, 1) := by decide +kernel
theorem dX3_remove_12 : decode cX3_remove 12 = .ok (.ifnull 20, 3) := by decide +kernel
theorem dX3_remove_15 : decode cX3_remove 15 = .ok (.aload_n 2, 1) := by decide +kernel
theorem dX3_remove_16 : decode cX3_remove 16 = .ok (.invokevirtual 69, 3) := by decide +kernel
theorem dX3_remove_19 : decode cX3_remove 19 = .ok (.ifCond .eq 13, 3) := by decide +kernel
theorem dX3_remove_22 : decode cX3_remove 22 = .ok (.aload_n 2, 1) := by decide +kernel
theorem dX3_remove_23 : decode cX3_remove 23 = .ok (.getfield 43, 3) := by decide +kernel
theorem dX3_remove_26 : decode cX3_remove 26 = .ok (.getfield 47, 3) := by decide +kernel
theorem dX3_remove_29 : decode cX3_remove 29 = .ok (.ifCond .le 11, 3) := by decide +kernel
theorem dX3_remove_32 : decode cX3_remove 32 = .ok (.new 52, 3) := by decide +kernel
theorem dX3_remove_35 : decode cX3_remove 35 = .ok (.dup, 1) := by decide +kernel
theorem dX3_remove_36 : decode cX3_remove 36 = .ok (.invokespecial 54, 3) := by decide +kernel
theorem dX3_remove_39 : decode cX3_remove 39 = .ok (.athrow, 1) := by decide +kernel
theorem dX3_remove_40 : decode cX3_remove 40 = .ok (.aload_n 3, 1) := by decide +kernel
theorem dX3_remove_41 : decode cX3_remove 41 = .ok (.aload_n 2, 1) := by decide +kernel
theorem dX3_remove_42 : decode cX3_remove 42 = .ok (.invokevirtual 73, 3) := by decide +kernel
theorem dX3_remove_45 : decode cX3_remove 45 = .ok (.aload_n 0, 1) := by decide +kernel
theorem dX3_remove_46 : decode cX3_remove 46 = .ok (.getfield 18, 3) := by decide +kernel
theorem dX3_remove_49 : decode cX3_remove 49 = .ok (.aload_n 2, 1) := by decide +kernel
theorem dX3_remove_50 : decode cX3_remove 50 = .ok (.getfield 76, 3) := by decide +kernel
theorem dX3_remove_53 : decode cX3_remove 53 = .ok (.aconst_null, 1) := by decide +kernel
theorem dX3_remove_54 : decode cX3_remove 54 = .ok (.aastore, 1) := by decide +kernel
theorem dX3_remove_55 : decode cX3_remove 55 = .ok (.aload_n 0, 1) := by decide +kernel
theorem dX3_remove_56 : decode cX3_remove 56 = .ok (.dup, 1) := by decide +kernel
theorem dX3_remove_57 : decode cX3_remove 57 = .ok (.getfield 22, 3) := by decide +kernel
theorem dX3_remove_60 : decode cX3_remove 60 = .ok (.iconst 1, 1) := by decide +kernel
theorem dX3_remove_61 : decode cX3_remove 61 = .ok (.isub, 1) := by decide +kernel
theorem dX3_remove_62 : decode cX3_remove 62 = .ok (.putfield 22, 3) := by decide +kernel
theorem dX3_remove_65 : decode cX3_remove 65 = .ok (.return_, 1) := by decide +kernel
theorem dX3_weight_0 : decode cX3_weight 0 = .ok (.aload_n 0, 1) := by decide +kernel
theorem dX3_weight_1 : decode cX3_weight 1 = .ok (.iload_n 1, 1) := by decide +kernel
theorem dX3_weight_2 : decode cX3_weight 2 = .ok (.invokevirtual 79, 3) := by decide +kernel
theorem dX3_weight_5 : decode cX3_weight 5 = .ok (.astore_n 3, 1) := by decide +kernel
theorem dX3_weight_6 : decode cX3_weight 6 = .ok (.iload_n 2, 1) := by decide +kernel
theorem dX3_weight_7 : decode cX3_weight 7 = .ok (.invokestatic 36, 3) := by decide +kernel
theorem dX3_weight_10 : decode cX3_weight 10 = .ok (.ifCond .ne 11, 3) := by decide +kernel
theorem dX3_weight_13 : decode cX3_weight 13 = .ok (.new 40, 3) := by decide +kernel
theorem dX3_weight_16 : decode cX3_weight 16 = .ok (.dup, 1) := by decide +kernel
theorem dX3_weight_17 : decode cX3_weight 17 = .ok (.invokespecial 42, 3) := by decide +kernel
theorem dX3_weight_20 : decode cX3_weight 20 = .ok (.athrow, 1) := by decide +kernel
theorem dX3_weight_21 : decode cX3_weight 21 = .ok (.aload_n 3, 1) := by decide +kernel
theorem dX3_weight_22 : decode cX3_weight 22 = .ok (.iload_n 2, 1) := by decide +kernel
theorem dX3_weight_23 : decode cX3_weight 23 = .ok (.putfield 82, 3) := by decide +kernel
theorem dX3_weight_26 : decode cX3_weight 26 = .ok (.aload_n 3, 1) := by decide +kernel
theorem dX3_weight_27 : decode cX3_weight 27 = .ok (.iconst 0, 1) := by decide +kernel
theorem dX3_weight_28 : decode cX3_weight 28 = .ok (.putfield 85, 3) := by decide +kernel
theorem dX3_weight_31 : decode cX3_weight 31 = .ok (.return_, 1) := by decide +kernel
theorem dX3_move_0 : decode cX3_move 0 = .ok (.aload_n 0, 1) := by decide +kernel
theorem dX3_move_1 : decode cX3_move 1 = .ok (.iload_n 1, 1) := by decide +kernel
theorem dX3_move_2 : decode cX3_move 2 = .ok (.invokevirtual 79, 3) := by decide +kernel
theorem dX3_move_5 : decode cX3_move 5 = .ok (.astore_n 3, 1) := by decide +kernel
theorem dX3_move_6 : decode cX3_move 6 = .ok (.aload_n 0, 1) := by decide +kernel
theorem dX3_move_7 : decode cX3_move 7 = .ok (.iload_n 2, 1) := by decide +kernel
theorem dX3_move_8 : decode cX3_move 8 = .ok (.invokevirtual 32, 3) := by decide +kernel
theorem dX3_move_11 : decode cX3_move 11 = .ok (.astore 4, 2) := by decide +kernel
theorem dX3_move_13 : decode cX3_move 13 = .ok (.aload 4, 2) := by decide +kernel
theorem dX3_move_15 : decode cX3_move 15 = .ok (.aload_n 3, 1) := by decide +kernel
theorem dX3_move_16 : decode cX3_move 16 = .ok (.invokevirtual 88, 3) := by decide +kernel
theorem dX3_move_19 : decode cX3_move 19 = .ok (.ifCond .eq 11, 3) := by decide +kernel
theorem dX3_move_22 : decode cX3_move 22 = .ok (.new 40, 3) := by decide +kernel
theorem dX3_move_25 : decode cX3_move 25 = .ok (.dup, 1) := by decide +kernel
theorem dX3_move_26 : decode cX3_move 26 = .ok (.invokespecial 42, 3) := by decide +kernel
theorem dX3_move_29 : decode cX3_move 29 = .ok (.athrow, 1) := by decide +kernel
theorem dX3_move_30 : decode cX3_move 30 = .ok (.aload 4, 2) := by decide +kernel
theorem dX3_move_32 : decode cX3_move 32 = .ok (.getfield 43, 3) := by decide +kernel
theorem dX3_move_35 : decode cX3_move 35 = .ok (.getfield 47, 3) := by decide +kernel
theorem dX3_move_38 : decode cX3_move 38 = .ok (.ifCond .le 11, 3) := by decide +kernel
theorem dX3_move_41 : decode cX3_move 41 = .ok (.new 52, 3) := by decide +kernel
theorem dX3_move_44 : decode cX3_move 44 = .ok (.dup, 1) := by decide +kernel
theorem dX3_move_45 : decode cX3_move 45 = .ok (.invokespecial 54, 3) := by decide +kernel
theorem dX3_move_48 : decode cX3_move 48 = .ok (.athrow, 1) := by decide +kernel
theorem dX3_move_49 : decode cX3_move 49 = .ok (.aload_n 3, 1) := by decide +kernel
theorem dX3_move_50 : decode cX3_move 50 = .ok (.getfield 66, 3) := by decide +kernel
theorem dX3_move_53 : decode cX3_move 53 = .ok (.astore 5, 2) := by decide +kernel
theorem dX3_move_55 : decode cX3_move 55 = .ok (.aload 5, 2) := by decide +kernel
theorem dX3_move_57 : decode cX3_move 57 = .ok (.ifnull 9, 3) := by decide +kernel
theorem dX3_move_60 : decode cX3_move 60 = .ok (.aload 5, 2) := by decide +kernel
theorem dX3_move_62 : decode cX3_move 62 = .ok (.aload_n 3, 1) := by decide +kernel
theorem dX3_move_63 : decode cX3_move 63 = .ok (.invokevirtual 73, 3) := by decide +kernel
theorem dX3_move_66 : decode cX3_move 66 = .ok (.aload 4, 2) := by decide +kernel
theorem dX3_move_68 : decode cX3_move 68 = .ok (.aload_n 3, 1) := by decide +kernel
theorem dX3_move_69 : decode cX3_move 69 = .ok (.invokevirtual 62, 3) := by decide +kernel
theorem dX3_move_72 : decode cX3_move 72 = .ok (.aload_n 3, 1) := by decide +kernel
theorem dX3_move_73 : decode cX3_move 73 = .ok (.aload 4, 2) := by decide +kernel
theorem dX3_move_75 : decode cX3_move 75 = .ok (.getfield 92, 3) := by decide +kernel
theorem dX3_move_78 : decode cX3_move 78 = .ok (.putfield 96, 3) := by decide +kernel
theorem dX3_move_81 : decode cX3_move 81 = .ok (.aload_n 3, 1) := by decide +kernel
theorem dX3_move_82 : decode cX3_move 82 = .ok (.iconst 0, 1) := by decide +kernel
theorem dX3_move_83 : decode cX3_move 83 = .ok (.putfield 85, 3) := by decide +kernel
theorem dX3_move_86 : decode cX3_move 86 = .ok (.aload_n 3, 1) := by decide +kernel
theorem dX3_move_87 : decode cX3_move 87 = .ok (.getfield 99, 3) := by decide +kernel
theorem dX3_move_90 : decode cX3_move 90 = .ok (.ifCond .eq 16, 3) := by decide +kernel
theorem dX3_move_93 : decode cX3_move 93 = .ok (.aload 5, 2) := by decide +kernel
theorem dX3_move_95 : decode cX3_move 95 = .ok (.ifnull 11, 3) := by decide +kernel
theorem dX3_move_98 : decode cX3_move 98 = .ok (.aload_n 0, 1) := by decide +kernel
theorem dX3_move_99 : decode cX3_move 99 = .ok (.aload 5, 2) := by decide +kernel
theorem dX3_move_101 : decode cX3_move 101 = .ok (.aload 4, 2) := by decide +kernel
theorem dX3_move_103 : decode cX3_move 103 = .ok (.invokevirtual 103, 3) := by decide +kernel
theorem dX3_move_106 : decode cX3_move 106 = .ok (.return_, 1) := by decide +kernel
theorem dX3_put_0 : decode cX3_put 0 = .ok (.aload_n 0, 1) := by decide +kernel
theorem dX3_put_1 : decode cX3_put 1 = .ok (.iload_n 1, 1) := by decide +kernel
theorem dX3_put_2 : decode cX3_put 2 = .ok (.invokevirtual 107, 3) := by decide +kernel
theorem dX3_put_5 : decode cX3_put 5 = .ok (.astore 4, 2) := by decide +kernel
theorem dX3_put_7 : decode cX3_put 7 = .ok (.iload_n 3, 1) := by decide +kernel
theorem dX3_put_8 : decode cX3_put 8 = .ok (.invokestatic 110, 3) := by decide +kernel
theorem dX3_put_11 : decode cX3_put 11 = .ok (.ifCond .ne 11, 3) := by decide +kernel
theorem dX3_put_14 : decode cX3_put 14 = .ok (.new 40, 3) := by decide +kernel
theorem dX3_put_17 : decode cX3_put 17 = .ok (.dup, 1) := by decide +kernel
theorem dX3_put_18 : decode cX3_put 18 = .ok (.invokespecial 42, 3) := by decide +kernel
theorem dX3_put_21 : decode cX3_put 21 = .ok (.athrow, 1) := by decide +kernel
theorem dX3_put_22 : decode cX3_put 22 = .ok (.aload_n 0, 1) := by decide +kernel
theorem dX3_put_23 : decode cX3_put 23 = .ok (.getfield 113, 3) := by decide +kernel
theorem dX3_put_26 : decode cX3_put 26 = .ok (.sipush 2000, 3) := by decide +kernel
theorem dX3_put_29 : decode cX3_put 29 = .ok (.if_icmp .lt 11, 3) := by decide +kernel
theorem dX3_put_32 : decode cX3_put 32 = .ok (.new 59, 3) := by decide +kernel
theorem dX3_put_35 : decode cX3_put 35 = .ok (.dup, 1) := by decide +kernel
theorem dX3_put_36 : decode cX3_put 36 = .ok (.invokespecial 61, 3) := by decide +kernel
theorem dX3_put_39 : decode cX3_put 39 = .ok (.athrow, 1) := by decide +kernel
theorem dX3_put_40 : decode cX3_put 40 = .ok (.aload_n 0, 1) := by decide +kernel
theorem dX3_put_41 : decode cX3_put 41 = .ok (.aload 4, 2) := by decide +kernel
theorem dX3_put_43 : decode cX3_put 43 = .ok (.iload_n 2, 1) := by decide +kernel
theorem dX3_put_44 : decode cX3_put 44 = .ok (.iload_n 3, 1) := by decide +kernel
theorem dX3_put_45 : decode cX3_put 45 = .ok (.invokevirtual 116, 3) := by decide +kernel
theorem dX3_put_48 : decode cX3_put 48 = .ok (.ireturn, 1) := by decide +kernel
theorem dX3_putAll_0 : decode cX3_putAll 0 = .ok (.aload_n 0, 1) := by decide +kernel
theorem dX3_putAll_1 : decode cX3_putAll 1 = .ok (.iload_n 1, 1) := by decide +kernel
theorem dX3_putAll_2 : decode cX3_putAll 2 = .ok (.invokevirtual 107, 3) := by decide +kernel
theorem dX3_putAll_5 : decode cX3_putAll 5 = .ok (.astore 5, 2) := by decide +kernel
theorem dX3_putAll_7 : decode cX3_putAll 7 = .ok (.iload_n 3, 1) := by decide +kernel
theorem dX3_putAll_8 : decode cX3_putAll 8 = .ok (.invokestatic 110, 3) := by decide +kernel
theorem dX3_putAll_11 : decode cX3_putAll 11 = .ok (.ifCond .eq 16, 3) := by decide +kernel
theorem dX3_putAll_14 : decode cX3_putAll 14 = .ok (.iload 4, 2) := by decide +kernel
theorem dX3_putAll_16 : decode cX3_putAll 16 = .ok (.ifCond .lt 11, 3) := by decide +kernel
theorem dX3_putAll_19 : decode cX3_putAll 19 = .ok (.iload 4, 2) := by decide +kernel
theorem dX3_putAll_21 : decode cX3_putAll 21 = .ok (.sipush 500, 3) := by decide +kernel
theorem dX3_putAll_24 : decode cX3_putAll 24 = .ok (.if_icmp .le 11, 3) := by decide +kernel
theorem dX3_putAll_27 : decode cX3_putAll 27 = .ok (.new 40, 3) := by decide +kernel
theorem dX3_putAll_30 : decode cX3_putAll 30 = .ok (.dup, 1) := by decide +kernel
theorem dX3_putAll_31 : decode cX3_putAll 31 = .ok (.invokespecial 42, 3) := by decide +kernel
theorem dX3_putAll_34 : decode cX3_putAll 34 = .ok (.athrow, 1) := by decide +kernel
theorem dX3_putAll_35 : decode cX3_putAll 35 = .ok (.iconst 0, 1) := by decide +kernel
theorem dX3_putAll_36 : decode cX3_putAll 36 = .ok (.istore 6, 2) := by decide +kernel
theorem dX3_putAll_38 : decode cX3_putAll 38 = .ok (.iload 6, 2) := by decide +kernel
theorem dX3_putAll_40 : decode cX3_putAll 40 = .ok (.iload 4, 2) := by decide +kernel
theorem dX3_putAll_42 : decode cX3_putAll 42 = .ok (.if_icmp .ge 33, 3) := by decide +kernel
theorem dX3_putAll_45 : decode cX3_putAll 45 = .ok (.aload_n 0, 1) := by decide +kernel
theorem dX3_putAll_46 : decode cX3_putAll 46 = .ok (.getfield 113, 3) := by decide +kernel
theorem dX3_putAll_49 : decode cX3_putAll 49 = .ok (.sipush 2000, 3) := by decide +kernel
theorem dX3_putAll_52 : decode cX3_putAll 52 = .ok (.if_icmp .ge 23, 3) := by decide +kernel
theorem dX3_putAll_55 : decode cX3_putAll 55 = .ok (.aload_n 0, 1) := by decide +kernel
theorem dX3_putAll_56 : decode cX3_putAll 56 = .ok (.aload 5, 2) := by decide +kernel
theorem dX3_putAll_58 : decode cX3_putAll 58 = .ok (.iload_n 2, 1) := by decide +kernel
theorem dX3_putAll_59 : decode cX3_putAll 59 = .ok (.iload 6, 2) := by decide +kernel
theorem dX3_putAll_61 : decode cX3_putAll 61 = .ok (.iadd, 1) := by decide +kernel
theorem dX3_putAll_62 : decode cX3_putAll 62 = .ok (.iload_n 3, 1) := by decide +kernel
theorem dX3_putAll_63 : decode cX3_putAll 63 = .ok (.invokevirtual 116, 3) := by decide +kernel
theorem dX3_putAll_66 : decode cX3_putAll 66 = .ok (.ifCond .eq 9, 3) := by decide +kernel
theorem dX3_putAll_69 : decode cX3_putAll 69 = .ok (.iinc 6 1, 3) := by decide +kernel
theorem dX3_putAll_72 : decode cX3_putAll 72 = .ok (.goto (-34), 3) := by decide +kernel
theorem dX3_putAll_75 : decode cX3_putAll 75 = .ok (.iload 6, 2) := by decide +kernel
theorem dX3_putAll_77 : decode cX3_putAll 77 = .ok (.ireturn, 1) := by decide +kernel
