theorem dX7_init_0 : decode cX7_init 0 = .ok (.aload_n 0, 1) := by decide +kernel
theorem dX7_init_1 : decode cX7_init 1 = .ok (.invokespecial 1, 3) := by decide +kernel
theorem dX7_init_4 : decode cX7_init 4 = .ok (.aload_n 0, 1) := by decide +kernel
theorem dX7_init_5 : decode cX7_init 5 = .ok (.bipush 8, 2) := by decide +kernel
theorem dX7_init_7 : decode cX7_init 7 = .ok (.newarray .int, 2) := by decide +kernel
theorem dX7_init_9 : decode cX7_init 9 = .ok (.putfield 7, 3) := by decide +kernel
theorem dX7_init_12 : decode cX7_init 12 = .ok (.aload_n 0, 1) := by decide +kernel
theorem dX7_init_13 : decode cX7_init 13 = .ok (.bipush 8, 2) := by decide +kernel
theorem dX7_init_15 : decode cX7_init 15 = .ok (.newarray .int, 2) := by decide +kernel
theorem dX7_init_17 : decode cX7_init 17 = .ok (.putfield 13, 3) := by decide +kernel
theorem dX7_init_20 : decode cX7_init 20 = .ok (.aload_n 0, 1) := by decide +kernel
theorem dX7_init_21 : decode cX7_init 21 = .ok (.sipush 320, 3) := by decide +kernel
theorem dX7_init_24 : decode cX7_init 24 = .ok (.newarray .int, 2) := by decide +kernel
theorem dX7_init_26 : decode cX7_init 26 = .ok (.putfield 16, 3) := by decide +kernel
theorem dX7_init_29 : decode cX7_init 29 = .ok (.aload_n 0, 1) := by decide +kernel
theorem dX7_init_30 : decode cX7_init 30 = .ok (.bipush 36, 2) := by decide +kernel
theorem dX7_init_32 : decode cX7_init 32 = .ok (.newarray .int, 2) := by decide +kernel
theorem dX7_init_34 : decode cX7_init 34 = .ok (.putfield 19, 3) := by decide +kernel
theorem dX7_init_37 : decode cX7_init 37 = .ok (.aload_n 0, 1) := by decide +kernel
theorem dX7_init_38 : decode cX7_init 38 = .ok (.bipush 40, 2) := by decide +kernel
theorem dX7_init_40 : decode cX7_init 40 = .ok (.newarray .int, 2) := by decide +kernel
theorem dX7_init_42 : decode cX7_init 42 = .ok (.putfield 22, 3) := by decide +kernel
theorem dX7_init_45 : decode cX7_init 45 = .ok (.aload_n 0, 1) := by decide +kernel
theorem dX7_init_46 : decode cX7_init 46 = .ok (.bipush 100, 2) := by decide +kernel
theorem dX7_init_48 : decode cX7_init 48 = .ok (.newarray .int, 2) := by decide +kernel
theorem dX7_init_50 : decode cX7_init 50 = .ok (.putfield 25, 3) := by decide +kernel
theorem dX7_init_53 : decode cX7_init 53 = .ok (.aload_n 0, 1) := by decide +kernel
theorem dX7_init_54 : decode cX7_init 54 = .ok (.bipush 36, 2) := by decide +kernel
theorem dX7_init_56 : decode cX7_init 56 = .ok (.newarray .int, 2) := by decide +kernel
theorem dX7_init_58 : decode cX7_init 58 = .ok (.putfield 28, 3) := by decide +kernel
theorem dX7_init_61 : decode cX7_init 61 = .ok (.aload_n 0, 1) := by decide +kernel
theorem dX7_init_62 : decode cX7_init 62 = .ok (.sipush 864, 3) := by decide +kernel
theorem dX7_init_65 : decode cX7_init 65 = .ok (.newarray .int, 2) := by decide +kernel
theorem dX7_init_67 : decode cX7_init 67 = .ok (.putfield 31, 3) := by decide +kernel
theorem dX7_init_70 : decode cX7_init 70 = .ok (.aload_n 0, 1) := by decide +kernel
theorem dX7_init_71 : decode cX7_init 71 = .ok (.bipush 36, 2) := by decide +kernel
theorem dX7_init_73 : decode cX7_init 73 = .ok (.newarray .int, 2) := by decide +kernel
theorem dX7_init_75 : decode cX7_init 75 = .ok (.putfield 34, 3) := by decide +kernel
theorem dX7_init_78 : decode cX7_init 78 = .ok (.aload_n 0, 1) := by decide +kernel
theorem dX7_init_79 : decode cX7_init 79 = .ok (.iconst 2, 1) := by decide +kernel
theorem dX7_init_80 : decode cX7_init 80 = .ok (.newarray .boolean, 2) := by decide +kernel
theorem dX7_init_82 : decode cX7_init 82 = .ok (.putfield 37, 3) := by decide +kernel
theorem dX7_init_85 : decode cX7_init 85 = .ok (.aload_n 0, 1) := by decide +kernel
theorem dX7_init_86 : decode cX7_init 86 = .ok (.bipush 72, 2) := by decide +kernel
theorem dX7_init_88 : decode cX7_init 88 = .ok (.newarray .int, 2) := by decide +kernel
theorem dX7_init_90 : decode cX7_init 90 = .ok (.putfield 41, 3) := by decide +kernel
theorem dX7_init_93 : decode cX7_init 93 = .ok (.aload_n 0, 1) := by decide +kernel
theorem dX7_init_94 : decode cX7_init 94 = .ok (.bipush 16, 2) := by decide +kernel
theorem dX7_init_96 : decode cX7_init 96 = .ok (.newarray .int, 2) := by decide +kernel
theorem dX7_init_98 : decode cX7_init 98 = .ok (.putfield 44, 3) := by decide +kernel
theorem dX7_init_101 : decode cX7_init 101 = .ok (.iconst 0, 1) := by decide +kernel
theorem dX7_init_102 : decode cX7_init 102 = .ok (.istore_n 1, 1) := by decide +kernel
theorem dX7_init_103 : decode cX7_init 103 = .ok (.iload_n 1, 1) := by decide +kernel
theorem dX7_init_104 : decode cX7_init 104 = .ok (.bipush 8, 2) := by decide +kernel
theorem dX7_init_106 : decode cX7_init 106 = .ok (.if_icmp .ge 16, 3) := by decide +kernel
theorem dX7_init_109 : decode cX7_init 109 = .ok (.aload_n 0, 1) := by decide +kernel
theorem dX7_init_110 : decode cX7_init 110 = .ok (.getfield 13, 3) := by decide +kernel
theorem dX7_init_113 : decode cX7_init 113 = .ok (.iload_n 1, 1) := by decide +kernel
theorem dX7_init_114 : decode cX7_init 114 = .ok (.iconst (-1), 1) := by decide +kernel
theorem dX7_init_115 : decode cX7_init 115 = .ok (.iastore, 1) := by decide +kernel
theorem dX7_init_116 : decode cX7_init 116 = .ok (.iinc 1 1, 3) := by decide +kernel
theorem dX7_init_119 : decode cX7_init 119 = .ok (.goto (-16), 3) := by decide +kernel
theorem dX7_init_122 : decode cX7_init 122 = .ok (.return_, 1) := by decide +kernel
theorem dX7_in_0 : decode cX7_in 0 = .ok (.lload_n 0, 1) := by decide +kernel
theorem dX7_in_1 : decode cX7_in 1 = .ok (.lload_n 2, 1) := by decide +kernel
theorem dX7_in_2 : decode cX7_in 2 = .ok (.lcmp, 1) := by decide +kernel
theorem dX7_in_3 : decode cX7_in 3 = .ok (.ifCond .lt 14, 3) := by decide +kernel
theorem dX7_in_6 : decode cX7_in 6 = .ok (.lload_n 0, 1) := by decide +kernel
theorem dX7_in_7 : decode cX7_in 7 = .ok (.lload 4, 2) := by decide +kernel
theorem dX7_in_9 : decode cX7_in 9 = .ok (.lcmp, 1) := by decide +kernel
theorem dX7_in_10 : decode cX7_in 10 = .ok (.ifCond .gt 7, 3) := by decide +kernel
theorem dX7_in_13 : decode cX7_in 13 = .ok (.iconst 1, 1) := by decide +kernel
theorem dX7_in_14 : decode cX7_in 14 = .ok (.goto 4, 3) := by decide +kernel
theorem dX7_in_17 : decode cX7_in 17 = .ok (.iconst 0, 1) := by decide +kernel
theorem dX7_in_18 : decode cX7_in 18 = .ok (.ireturn, 1) := by decide +kernel
theorem dX7_has_0 : decode cX7_has 0 = .ok (.iload_n 0, 1) := by decide +kernel
theorem dX7_has_1 : decode cX7_has 1 = .ok (.iload_n 1, 1) := by decide +kernel
theorem dX7_has_2 : decode cX7_has 2 = .ok (.ishr, 1) := by decide +kernel
theorem dX7_has_3 : decode cX7_has 3 = .ok (.iconst 1, 1) := by decide +kernel
theorem dX7_has_4 : decode cX7_has 4 = .ok (.iand, 1) := by decide +kernel
theorem dX7_has_5 : decode cX7_has 5 = .ok (.iconst 1, 1) := by decide +kernel
theorem dX7_has_6 : decode cX7_has 6 = .ok (.if_icmp .ne 7, 3) := by decide +kernel
theorem dX7_has_9 : decode cX7_has 9 = .ok (.iconst 1, 1) := by decide +kernel
theorem dX7_has_10 : decode cX7_has 10 = .ok (.goto 4, 3) := by decide +kernel
theorem dX7_has_13 : decode cX7_has 13 = .ok (.iconst 0, 1) := by decide +kernel
theorem dX7_has_14 : decode cX7_has 14 = .ok (.ireturn, 1) := by decide +kernel
theorem dX7_ones_0 : decode cX7_ones 0 = .ok (.iconst 0, 1) := by decide +kernel
theorem dX7_ones_1 : decode cX7_ones 1 = .ok (.istore_n 1, 1) := by decide +kernel
theorem dX7_ones_2 : decode cX7_ones 2 = .ok (.iload_n 0, 1) := by decide +kernel
theorem dX7_ones_3 : decode cX7_ones 3 = .ok (.istore_n 2, 1) := by decide +kernel
theorem dX7_ones_4 : decode cX7_ones 4 = .ok (.iload_n 2, 1) := by decide +kernel
theorem dX7_ones_5 : decode cX7_ones 5 = .ok (.ifCond .eq 15, 3) := by decide +kernel
theorem dX7_ones_8 : decode cX7_ones 8 = .ok (.iinc 1 1, 3) := by decide +kernel
theorem dX7_ones_11 : decode cX7_ones 11 = .ok (.iload_n 2, 1) := by decide +kernel
theorem dX7_ones_12 : decode cX7_ones 12 = .ok (.iload_n 2, 1) := by decide +kernel
theorem dX7_ones_13 : decode cX7_ones 13 = .ok (.iconst 1, 1) := by decide +kernel
theorem dX7_ones_14 : decode cX7_ones 14 = .ok (.isub, 1) := by decide +kernel
theorem dX7_ones_15 : decode cX7_ones 15 = .ok (.iand, 1) := by decide +kernel
theorem dX7_ones_16 : decode cX7_ones 16 = .ok (.istore_n 2, 1) := by decide +kernel
theorem dX7_ones_17 : decode cX7_ones 17 = .ok (.goto (-13), 3) := by decide +kernel
theorem dX7_ones_20 : decode cX7_ones 20 = .ok (.iload_n 1, 1) := by decide +kernel
theorem dX7_ones_21 : decode cX7_ones 21 = .ok (.ireturn, 1) := by decide +kernel
theorem dX7_find_0 : decode cX7_find 0 = .ok (.aload_n 0, 1) := by decide +kernel
theorem dX7_find_1 : decode cX7_find 1 = .ok (.iload_n 1, 1) := by decide +kernel
theorem dX7_find_2 : decode cX7_find 2 = .ok (.putfield 47, 3) := by decide +kernel
theorem dX7_find_5 : decode cX7_find 5 = .ok (.ldc 51, 2) := by decide +kernel
theorem dX7_find_7 : decode cX7_find 7 = .ok (.iload_n 1, 1) := by decide +kernel
theorem dX7_find_8 : decode cX7_find 8 = .ok (.isub, 1) := by decide +kernel
theorem dX7_find_9 : decode cX7_find 9 = .ok (.ireturn, 1) := by decide +kernel
theorem dX7_well_0 : decode cX7_well 0 = .ok (.aload_n 0, 1) := by decide +kernel
theorem dX7_well_1 : decode cX7_well 1 = .ok (.iconst 0, 1) := by decide +kernel
theorem dX7_well_2 : decode cX7_well 2 = .ok (.putfield 47, 3) := by decide +kernel
theorem dX7_well_5 : decode cX7_well 5 = .ok (.iload_n 1, 1) := by decide +kernel
theorem dX7_well_6 : decode cX7_well 6 = .ok (.ireturn, 1) := by decide +kernel
theorem dX7_isRow_0 : decode cX7_isRow 0 = .ok (.iload_n 0, 1) := by decide +kernel
theorem dX7_isRow_1 : decode cX7_isRow 1 = .ok (.i2l, 1) := by decide +kernel
theorem dX7_isRow_2 : decode cX7_isRow 2 = .ok (.lconst 0, 1) := by decide +kernel
theorem dX7_isRow_3 : decode cX7_isRow 3 = .ok (.ldc2_w 52, 3) := by decide +kernel
theorem dX7_isRow_6 : decode cX7_isRow 6 = .ok (.invokestatic 54, 3) := by decide +kernel
theorem dX7_isRow_9 : decode cX7_isRow 9 = .ok (.ireturn, 1) := by decide +kernel
theorem dX7_row_0 : decode cX7_row 0 = .ok (.iload_n 1, 1) := by decide +kernel
theorem dX7_row_1 : decode cX7_row 1 = .ok (.invokestatic 58, 3) := by decide +kernel
theorem dX7_row_4 : decode cX7_row 4 = .ok (.ifCond .eq 21, 3) := by decide +kernel
theorem dX7_row_7 : decode cX7_row 7 = .ok (.iload_n 2, 1) := by decide +kernel
theorem dX7_row_8 : decode cX7_row 8 = .ok (.i2l, 1) := by decide +kernel
theorem dX7_row_9 : decode cX7_row 9 = .ok (.lconst 0, 1) := by decide +kernel
theorem dX7_row_10 : decode cX7_row 10 = .ok (.ldc2_w 62, 3) := by decide +kernel
theorem dX7_row_13 : decode cX7_row 13 = .ok (.invokestatic 54, 3) := by decide +kernel
theorem dX7_row_16 : decode cX7_row 16 = .ok (.ifCond .eq 9, 3) := by decide +kernel
theorem dX7_row_19 : decode cX7_row 19 = .ok (.iload_n 3, 1) := by decide +kernel
theorem dX7_row_20 : decode cX7_row 20 = .ok (.bipush 40, 2) := by decide +kernel
theorem dX7_row_22 : decode cX7_row 22 = .ok (.if_icmp .le 6, 3) := by decide +kernel
theorem dX7_row_25 : decode cX7_row 25 = .ok (.ldc 64, 2) := by decide +kernel
theorem dX7_row_27 : decode cX7_row 27 = .ok (.ireturn, 1) := by decide +kernel
theorem dX7_row_28 : decode cX7_row 28 = .ok (.iload_n 3, 1) := by decide +kernel
theorem dX7_row_29 : decode cX7_row 29 = .ok (.ifCond .ge 9, 3) := by decide +kernel
theorem dX7_row_32 : decode cX7_row 32 = .ok (.aload_n 0, 1) := by decide +kernel
theorem dX7_row_33 : decode cX7_row 33 = .ok (.iconst 4, 1) := by decide +kernel
theorem dX7_row_34 : decode cX7_row 34 = .ok (.invokevirtual 65, 3) := by decide +kernel
theorem dX7_row_37 : decode cX7_row 37 = .ok (.ireturn, 1) := by decide +kernel
theorem dX7_row_38 : decode cX7_row 38 = .ok (.aload_n 0, 1) := by decide +kernel
theorem dX7_row_39 : decode cX7_row 39 = .ok (.getfield 7, 3) := by decide +kernel
theorem dX7_row_42 : decode cX7_row 42 = .ok (.iload_n 1, 1) := by decide +kernel
theorem dX7_row_43 : decode cX7_row 43 = .ok (.iload_n 2, 1) := by decide +kernel
theorem dX7_row_44 : decode cX7_row 44 = .ok (.iastore, 1) := by decide +kernel
theorem dX7_row_45 : decode cX7_row 45 = .ok (.aload_n 0, 1) := by decide +kernel
theorem dX7_row_46 : decode cX7_row 46 = .ok (.getfield 13, 3) := by decide +kernel
theorem dX7_row_49 : decode cX7_row 49 = .ok (.iload_n 1, 1) := by decide +kernel
theorem dX7_row_50 : decode cX7_row 50 = .ok (.iload_n 3, 1) := by decide +kernel
theorem dX7_row_51 : decode cX7_row 51 = .ok (.iastore, 1) := by decide +kernel
theorem dX7_row_52 : decode cX7_row 52 = .ok (.iconst 0, 1) := by decide +kernel
theorem dX7_row_53 : decode cX7_row 53 = .ok (.istore 4, 2) := by decide +kernel
theorem dX7_row_55 : decode cX7_row 55 = .ok (.iload 4, 2) := by decide +kernel
theorem dX7_row_57 : decode cX7_row 57 = .ok (.bipush 40, 2) := by decide +kernel
theorem dX7_row_59 : decode cX7_row 59 = .ok (.if_icmp .ge 22, 3) := by decide +kernel
theorem dX7_row_62 : decode cX7_row 62 = .ok (.aload_n 0, 1) := by decide +kernel
theorem dX7_row_63 : decode cX7_row 63 = .ok (.getfield 16, 3) := by decide +kernel
theorem dX7_row_66 : decode cX7_row 66 = .ok (.bipush 40, 2) := by decide +kernel
theorem dX7_row_68 : decode cX7_row 68 = .ok (.iload_n 1, 1) := by decide +kernel
theorem dX7_row_69 : decode cX7_row 69 = .ok (.imul, 1) := by decide +kernel
theorem dX7_row_70 : decode cX7_row 70 = .ok (.iload 4, 2) := by decide +kernel
theorem dX7_row_72 : decode cX7_row 72 = .ok (.iadd, 1) := by decide +kernel
theorem dX7_row_73 : decode cX7_row 73 = .ok (.iconst 0, 1) := by decide +kernel
theorem dX7_row_74 : decode cX7_row 74 = .ok (.iastore, 1) := by decide +kernel
theorem dX7_row_75 : decode cX7_row 75 = .ok (.iinc 4 1, 3) := by decide +kernel
theorem dX7_row_78 : decode cX7_row 78 = .ok (.goto (-23), 3) := by decide +kernel
theorem dX7_row_81 : decode cX7_row 81 = .ok (.aload_n 0, 1) := by decide +kernel
theorem dX7_row_82 : decode cX7_row 82 = .ok (.iload_n 3, 1) := by decide +kernel
theorem dX7_row_83 : decode cX7_row 83 = .ok (.invokevirtual 69, 3) := by decide +kernel
theorem dX7_row_86 : decode cX7_row 86 = .ok (.ireturn, 1) := by decide +kernel
theorem dX7_asLane_0 : decode cX7_asLane 0 = .ok (.iload_n 0, 1) := by decide +kernel
theorem dX7_asLane_1 : decode cX7_asLane 1 = .ok (.ifCond .ne 13, 3) := by decide +kernel
theorem dX7_asLane_4 : decode cX7_asLane 4 = .ok (.iload_n 1, 1) := by decide +kernel
theorem dX7_asLane_5 : decode cX7_asLane 5 = .ok (.bipush 24, 2) := by decide +kernel
theorem dX7_asLane_7 : decode cX7_asLane 7 = .ok (.ishl, 1) := by decide +kernel
theorem dX7_asLane_8 : decode cX7_asLane 8 = .ok (.bipush 24, 2) := by decide +kernel
theorem dX7_asLane_10 : decode cX7_asLane 10 = .ok (.ishr, 1) := by decide +kernel
theorem dX7_asLane_11 : decode cX7_asLane 11 = .ok (.goto 19, 3) := by decide +kernel
theorem dX7_asLane_14 : decode cX7_asLane 14 = .ok (.iload_n 0, 1) := by decide +kernel
theorem dX7_asLane_15 : decode cX7_asLane 15 = .ok (.iconst 1, 1) := by decide +kernel
theorem dX7_asLane_16 : decode cX7_asLane 16 = .ok (.if_icmp .ne 13, 3) := by decide +kernel
theorem dX7_asLane_19 : decode cX7_asLane 19 = .ok (.iload_n 1, 1) := by decide +kernel
theorem dX7_asLane_20 : decode cX7_asLane 20 = .ok (.bipush 16, 2) := by decide +kernel
theorem dX7_asLane_22 : decode cX7_asLane 22 = .ok (.ishl, 1) := by decide +kernel
theorem dX7_asLane_23 : decode cX7_asLane 23 = .ok (.bipush 16, 2) := by decide +kernel
theorem dX7_asLane_25 : decode cX7_asLane 25 = .ok (.ishr, 1) := by decide +kernel
theorem dX7_asLane_26 : decode cX7_asLane 26 = .ok (.goto 4, 3) := by decide +kernel
theorem dX7_asLane_29 : decode cX7_asLane 29 = .ok (.iload_n 1, 1) := by decide +kernel
theorem dX7_asLane_30 : decode cX7_asLane 30 = .ok (.ireturn, 1) := by decide +kernel
theorem dX7_set_0 : decode cX7_set 0 = .ok (.iload_n 1, 1) := by decide +kernel
theorem dX7_set_1 : decode cX7_set 1 = .ok (.invokestatic 58, 3) := by decide +kernel
theorem dX7_set_4 : decode cX7_set 4 = .ok (.ifCond .ne 6, 3) := by decide +kernel
theorem dX7_set_7 : decode cX7_set 7 = .ok (.ldc 64, 2) := by decide +kernel
theorem dX7_set_9 : decode cX7_set 9 = .ok (.ireturn, 1) := by decide +kernel
theorem dX7_set_10 : decode cX7_set 10 = .ok (.aload_n 0, 1) := by decide +kernel
theorem dX7_set_11 : decode cX7_set 11 = .ok (.getfield 13, 3) := by decide +kernel
theorem dX7_set_14 : decode cX7_set 14 = .ok (.iload_n 1, 1) := by decide +kernel
theorem dX7_set_15 : decode cX7_set 15 = .ok (.iaload, 1) := by decide +kernel
theorem dX7_set_16 : decode cX7_set 16 = .ok (.ifCond .ge 9, 3) := by decide +kernel
theorem dX7_set_19 : decode cX7_set 19 = .ok (.aload_n 0, 1) := by decide +kernel
theorem dX7_set_20 : decode cX7_set 20 = .ok (.iconst 1, 1) := by decide +kernel
theorem dX7_set_21 : decode cX7_set 21 = .ok (.invokevirtual 65, 3) := by decide +kernel
theorem dX7_set_24 : decode cX7_set 24 = .ok (.ireturn, 1) := by decide +kernel
theorem dX7_set_25 : decode cX7_set 25 = .ok (.iload_n 2, 1) := by decide +kernel
theorem dX7_set_26 : decode cX7_set 26 = .ok (.i2l, 1) := by decide +kernel
theorem dX7_set_27 : decode cX7_set 27 = .ok (.lconst 0, 1) := by decide +kernel
theorem dX7_set_28 : decode cX7_set 28 = .ok (.aload_n 0, 1) := by decide +kernel
theorem dX7_set_29 : decode cX7_set 29 = .ok (.getfield 13, 3) := by decide +kernel
theorem dX7_set_32 : decode cX7_set 32 = .ok (.iload_n 1, 1) := by decide +kernel
theorem dX7_set_33 : decode cX7_set 33 = .ok (.iaload, 1) := by decide +kernel
theorem dX7_set_34 : decode cX7_set 34 = .ok (.iconst 1, 1) := by decide +kernel
theorem dX7_set_35 : decode cX7_set 35 = .ok (.isub, 1) := by decide +kernel
theorem dX7_set_36 : decode cX7_set 36 = .ok (.i2l, 1) := by decide +kernel
theorem dX7_set_37 : decode cX7_set 37 = .ok (.invokestatic 54, 3) := by decide +kernel
theorem dX7_set_40 : decode cX7_set 40 = .ok (.ifCond .ne 9, 3) := by decide +kernel
theorem dX7_set_43 : decode cX7_set 43 = .ok (.aload_n 0, 1) := by decide +kernel
theorem dX7_set_44 : decode cX7_set 44 = .ok (.iconst 2, 1) := by decide +kernel
theorem dX7_set_45 : decode cX7_set 45 = .ok (.invokevirtual 65, 3) := by decide +kernel
theorem dX7_set_48 : decode cX7_set 48 = .ok (.ireturn, 1) := by decide +kernel
theorem dX7_set_49 : decode cX7_set 49 = .ok (.aload_n 0, 1) := by decide +kernel
theorem dX7_set_50 : decode cX7_set 50 = .ok (.getfield 16, 3) := by decide +kernel
theorem dX7_set_53 : decode cX7_set 53 = .ok (.bipush 40, 2) := by decide +kernel
theorem dX7_set_55 : decode cX7_set 55 = .ok (.iload_n 1, 1) := by decide +kernel
theorem dX7_set_56 : decode cX7_set 56 = .ok (.imul, 1) := by decide +kernel
theorem dX7_set_57 : decode cX7_set 57 = .ok (.iload_n 2, 1) := by decide +kernel
theorem dX7_set_58 : decode cX7_set 58 = .ok (.iadd, 1) := by decide +kernel
theorem dX7_set_59 : decode cX7_set 59 = .ok (.aload_n 0, 1) := by decide +kernel
theorem dX7_set_60 : decode cX7_set 60 = .ok (.getfield 7, 3) := by decide +kernel
theorem dX7_set_63 : decode cX7_set 63 = .ok (.iload_n 1, 1) := by decide +kernel
theorem dX7_set_64 : decode cX7_set 64 = .ok (.iaload, 1) := by decide +kernel
theorem dX7_set_65 : decode cX7_set 65 = .ok (.iload_n 3, 1) := by decide +kernel
theorem dX7_set_66 : decode cX7_set 66 = .ok (.invokestatic 72, 3) := by decide +kernel
theorem dX7_set_69 : decode cX7_set 69 = .ok (.iastore, 1) := by decide +kernel
theorem dX7_set_70 : decode cX7_set 70 = .ok (.aload_n 0, 1) := by decide +kernel
theorem dX7_set_71 : decode cX7_set 71 = .ok (.aload_n 0, 1) := by decide +kernel
theorem dX7_set_72 : decode cX7_set 72 = .ok (.getfield 16, 3) := by decide +kernel
theorem dX7_set_75 : decode cX7_set 75 = .ok (.bipush 40, 2) := by decide +kernel
theorem dX7_set_77 : decode cX7_set 77 = .ok (.iload_n 1, 1) := by decide +kernel
theorem dX7_set_78 : decode cX7_set 78 = .ok (.imul, 1) := by decide +kernel
theorem dX7_set_79 : decode cX7_set 79 = .ok (.iload_n 2, 1) := by decide +kernel
theorem dX7_set_80 : decode cX7_set 80 = .ok (.iadd, 1) := by decide +kernel
theorem dX7_set_81 : decode cX7_set 81 = .ok (.iaload, 1) := by decide +kernel
theorem dX7_set_82 : decode cX7_set 82 = .ok (.invokevirtual 69, 3) := by decide +kernel
theorem dX7_set_85 : decode cX7_set 85 = .ok (.ireturn, 1) := by decide +kernel
theorem dX7_copy_0 : decode cX7_copy 0 = .ok (.iload_n 1, 1) := by decide +kernel
theorem dX7_copy_1 : decode cX7_copy 1 = .ok (.invokestatic 58, 3) := by decide +kernel
theorem dX7_copy_4 : decode cX7_copy 4 = .ok (.ifCond .eq 10, 3) := by decide +kernel
theorem dX7_copy_7 : decode cX7_copy 7 = .ok (.iload_n 3, 1) := by decide +kernel
theorem dX7_copy_8 : decode cX7_copy 8 = .ok (.invokestatic 58, 3) := by decide +kernel
theorem dX7_copy_11 : decode cX7_copy 11 = .ok (.ifCond .ne 6, 3) := by decide +kernel
theorem dX7_copy_14 : decode cX7_copy 14 = .ok (.ldc 64, 2) := by decide +kernel
theorem dX7_copy_16 : decode cX7_copy 16 = .ok (.ireturn, 1) := by decide +kernel
theorem dX7_copy_17 : decode cX7_copy 17 = .ok (.aload_n 0, 1) := by decide +kernel
theorem dX7_copy_18 : decode cX7_copy 18 = .ok (.getfield 13, 3) := by decide +kernel
theorem dX7_copy_21 : decode cX7_copy 21 = .ok (.iload_n 1, 1) := by decide +kernel
theorem dX7_copy_22 : decode cX7_copy 22 = .ok (.iaload, 1) := by decide +kernel
theorem dX7_copy_23 : decode cX7_copy 23 = .ok (.ifCond .lt 12, 3) := by decide +kernel
theorem dX7_copy_26 : decode cX7_copy 26 = .ok (.aload_n 0, 1) := by decide +kernel
theorem dX7_copy_27 : decode cX7_copy 27 = .ok (.getfield 13, 3) := by decide +kernel
theorem dX7_copy_30 : decode cX7_copy 30 = .ok (.iload_n 3, 1) := by decide +kernel
theorem dX7_copy_31 : decode cX7_copy 31 = .ok (.iaload, 1) := by decide +kernel
theorem dX7_copy_32 : decode cX7_copy 32 = .ok (.ifCond .ge 9, 3) := by decide +kernel
theorem dX7_copy_35 : decode cX7_copy 35 = .ok (.aload_n 0, 1) := by decide +kernel
theorem dX7_copy_36 : decode cX7_copy 36 = .ok (.iconst 1, 1) := by decide +kernel
theorem dX7_copy_37 : decode cX7_copy 37 = .ok (.invokevirtual 65, 3) := by decide +kernel
theorem dX7_copy_40 : decode cX7_copy 40 = .ok (.ireturn, 1) := by decide +kernel
theorem dX7_copy_41 : decode cX7_copy 41 = .ok (.aload_n 0, 1) := by decide +kernel
theorem dX7_copy_42 : decode cX7_copy 42 = .ok (.getfield 7, 3) := by decide +kernel
theorem dX7_copy_45 : decode cX7_copy 45 = .ok (.iload_n 1, 1) := by decide +kernel
theorem dX7_copy_46 : decode cX7_copy 46 = .ok (.iaload, 1) := by decide +kernel
theorem dX7_copy_47 : decode cX7_copy 47 = .ok (.aload_n 0, 1) := by decide +kernel
theorem dX7_copy_48 : decode cX7_copy 48 = .ok (.getfield 7, 3) := by decide +kernel
theorem dX7_copy_51 : decode cX7_copy 51 = .ok (.iload_n 3, 1) := by decide +kernel
theorem dX7_copy_52 : decode cX7_copy 52 = .ok (.iaload, 1) := by decide +kernel
theorem dX7_copy_53 : decode cX7_copy 53 = .ok (.if_icmp .eq 9, 3) := by decide +kernel
theorem dX7_copy_56 : decode cX7_copy 56 = .ok (.aload_n 0, 1) := by decide +kernel
theorem dX7_copy_57 : decode cX7_copy 57 = .ok (.iconst 5, 1) := by decide +kernel
theorem dX7_copy_58 : decode cX7_copy 58 = .ok (.invokevirtual 65, 3) := by decide +kernel
theorem dX7_copy_61 : decode cX7_copy 61 = .ok (.ireturn, 1) := by decide +kernel
theorem dX7_copy_62 : decode cX7_copy 62 = .ok (.iload 5, 2) := by decide +kernel
theorem dX7_copy_64 : decode cX7_copy 64 = .ok (.ifCond .lt 44, 3) := by decide +kernel
theorem dX7_copy_67 : decode cX7_copy 67 = .ok (.iload_n 2, 1) := by decide +kernel
theorem dX7_copy_68 : decode cX7_copy 68 = .ok (.i2l, 1) := by decide +kernel
theorem dX7_copy_69 : decode cX7_copy 69 = .ok (.lconst 0, 1) := by decide +kernel
theorem dX7_copy_70 : decode cX7_copy 70 = .ok (.aload_n 0, 1) := by decide +kernel
theorem dX7_copy_71 : decode cX7_copy 71 = .ok (.getfield 13, 3) := by decide +kernel
theorem dX7_copy_74 : decode cX7_copy 74 = .ok (.iload_n 1, 1) := by decide +kernel
theorem dX7_copy_75 : decode cX7_copy 75 = .ok (.iaload, 1) := by decide +kernel
theorem dX7_copy_76 : decode cX7_copy 76 = .ok (.i2l, 1) := by decide +kernel
theorem dX7_copy_77 : decode cX7_copy 77 = .ok (.iload 5, 2) := by decide +kernel
theorem dX7_copy_79 : decode cX7_copy 79 = .ok (.i2l, 1) := by decide +kernel
theorem dX7_copy_80 : decode cX7_copy 80 = .ok (.lsub, 1) := by decide +kernel
theorem dX7_copy_81 : decode cX7_copy 81 = .ok (.invokestatic 54, 3) := by decide +kernel
theorem dX7_copy_84 : decode cX7_copy 84 = .ok (.ifCond .eq 24, 3) := by decide +kernel
theorem dX7_copy_87 : decode cX7_copy 87 = .ok (.iload 4, 2) := by decide +kernel
theorem dX7_copy_89 : decode cX7_copy 89 = .ok (.i2l, 1) := by decide +kernel
theorem dX7_copy_90 : decode cX7_copy 90 = .ok (.lconst 0, 1) := by decide +kernel
theorem dX7_copy_91 : decode cX7_copy 91 = .ok (.aload_n 0, 1) := by decide +kernel
theorem dX7_copy_92 : decode cX7_copy 92 = .ok (.getfield 13, 3) := by decide +kernel
theorem dX7_copy_95 : decode cX7_copy 95 = .ok (.iload_n 3, 1) := by decide +kernel
theorem dX7_copy_96 : decode cX7_copy 96 = .ok (.iaload, 1) := by decide +kernel
theorem dX7_copy_97 : decode cX7_copy 97 = .ok (.i2l, 1) := by decide +kernel
theorem dX7_copy_98 : decode cX7_copy 98 = .ok (.iload 5, 2) := by decide +kernel
theorem dX7_copy_100 : decode cX7_copy 100 = .ok (.i2l, 1) := by decide +kernel
theorem dX7_copy_101 : decode cX7_copy 101 = .ok (.lsub, 1) := by decide +kernel
theorem dX7_copy_102 : decode cX7_copy 102 = .ok (.invokestatic 54, 3) := by decide +kernel
theorem dX7_copy_105 : decode cX7_copy 105 = .ok (.ifCond .ne 9, 3) := by decide +kernel
theorem dX7_copy_108 : decode cX7_copy 108 = .ok (.aload_n 0, 1) := by decide +kernel
theorem dX7_copy_109 : decode cX7_copy 109 = .ok (.iconst 2, 1) := by decide +kernel
theorem dX7_copy_110 : decode cX7_copy 110 = .ok (.invokevirtual 65, 3) := by decide +kernel
theorem dX7_copy_113 : decode cX7_copy 113 = .ok (.ireturn, 1) := by decide +kernel
theorem dX7_copy_114 : decode cX7_copy 114 = .ok (.iconst 0, 1) := by decide +kernel
theorem dX7_copy_115 : decode cX7_copy 115 = .ok (.istore 6, 2) := by decide +kernel
theorem dX7_copy_117 : decode cX7_copy 117 = .ok (.iload 6, 2) := by decide +kernel
theorem dX7_copy_119 : decode cX7_copy 119 = .ok (.iload 5, 2) := by decide +kernel
theorem dX7_copy_121 : decode cX7_copy 121 = .ok (.if_icmp .ge 30, 3) := by decide +kernel
theorem dX7_copy_124 : decode cX7_copy 124 = .ok (.aload_n 0, 1) := by decide +kernel
theorem dX7_copy_125 : decode cX7_copy 125 = .ok (.getfield 22, 3) := by decide +kernel
theorem dX7_copy_128 : decode cX7_copy 128 = .ok (.iload 6, 2) := by decide +kernel
theorem dX7_copy_130 : decode cX7_copy 130 = .ok (.aload_n 0, 1) := by decide +kernel
theorem dX7_copy_131 : decode cX7_copy 131 = .ok (.getfield 16, 3) := by decide +kernel
theorem dX7_copy_134 : decode cX7_copy 134 = .ok (.bipush 40, 2) := by decide +kernel
theorem dX7_copy_136 : decode cX7_copy 136 = .ok (.iload_n 1, 1) := by decide +kernel
theorem dX7_copy_137 : decode cX7_copy 137 = .ok (.imul, 1) := by decide +kernel
theorem dX7_copy_138 : decode cX7_copy 138 = .ok (.iload_n 2, 1) := by decide +kernel
theorem dX7_copy_139 : decode cX7_copy 139 = .ok (.iadd, 1) := by decide +kernel
theorem dX7_copy_140 : decode cX7_copy 140 = .ok (.iload 6, 2) := by decide +kernel
theorem dX7_copy_142 : decode cX7_copy 142 = .ok (.iadd, 1) := by decide +kernel
theorem dX7_copy_143 : decode cX7_copy 143 = .ok (.iaload, 1) := by decide +kernel
theorem dX7_copy_144 : decode cX7_copy 144 = .ok (.iastore, 1) := by decide +kernel
theorem dX7_copy_145 : decode cX7_copy 145 = .ok (.iinc 6 1, 3) := by decide +kernel
theorem dX7_copy_148 : decode cX7_copy 148 = .ok (.goto (-31), 3) := by decide +kernel
theorem dX7_copy_151 : decode cX7_copy 151 = .ok (.iconst 0, 1) := by decide +kernel
theorem dX7_copy_152 : decode cX7_copy 152 = .ok (.istore 6, 2) := by decide +kernel
theorem dX7_copy_154 : decode cX7_copy 154 = .ok (.iload 6, 2) := by decide +kernel
theorem dX7_copy_156 : decode cX7_copy 156 = .ok (.iload 5, 2) := by decide +kernel
theorem dX7_copy_158 : decode cX7_copy 158 = .ok (.if_icmp .ge 31, 3) := by decide +kernel
theorem dX7_copy_161 : decode cX7_copy 161 = .ok (.aload_n 0, 1) := by decide +kernel
theorem dX7_copy_162 : decode cX7_copy 162 = .ok (.getfield 16, 3) := by decide +kernel
theorem dX7_copy_165 : decode cX7_copy 165 = .ok (.bipush 40, 2) := by decide +kernel
theorem dX7_copy_167 : decode cX7_copy 167 = .ok (.iload_n 3, 1) := by decide +kernel
theorem dX7_copy_168 : decode cX7_copy 168 = .ok (.imul, 1) := by decide +kernel
theorem dX7_copy_169 : decode cX7_copy 169 = .ok (.iload 4, 2) := by decide +kernel
theorem dX7_copy_171 : decode cX7_copy 171 = .ok (.iadd, 1) := by decide +kernel
theorem dX7_copy_172 : decode cX7_copy 172 = .ok (.iload 6, 2) := by decide +kernel
theorem dX7_copy_174 : decode cX7_copy 174 = .ok (.iadd, 1) := by decide +kernel
theorem dX7_copy_175 : decode cX7_copy 175 = .ok (.aload_n 0, 1) := by decide +kernel
theorem dX7_copy_176 : decode cX7_copy 176 = .ok (.getfield 22, 3) := by decide +kernel
theorem dX7_copy_179 : decode cX7_copy 179 = .ok (.iload 6, 2) := by decide +kernel
theorem dX7_copy_181 : decode cX7_copy 181 = .ok (.iaload, 1) := by decide +kernel
theorem dX7_copy_182 : decode cX7_copy 182 = .ok (.iastore, 1) := by decide +kernel
theorem dX7_copy_183 : decode cX7_copy 183 = .ok (.iinc 6 1, 3) := by decide +kernel
theorem dX7_copy_186 : decode cX7_copy 186 = .ok (.goto (-32), 3) := by decide +kernel
theorem dX7_copy_189 : decode cX7_copy 189 = .ok (.aload_n 0, 1) := by decide +kernel
theorem dX7_copy_190 : decode cX7_copy 190 = .ok (.iload 5, 2) := by decide +kernel
theorem dX7_copy_192 : decode cX7_copy 192 = .ok (.invokevirtual 69, 3) := by decide +kernel
theorem dX7_copy_195 : decode cX7_copy 195 = .ok (.ireturn, 1) := by decide +kernel
theorem dX7_drop_0 : decode cX7_drop 0 = .ok (.iload_n 1, 1) := by decide +kernel
theorem dX7_drop_1 : decode cX7_drop 1 = .ok (.invokestatic 58, 3) := by decide +kernel
theorem dX7_drop_4 : decode cX7_drop 4 = .ok (.ifCond .ne 6, 3) := by decide +kernel
theorem dX7_drop_7 : decode cX7_drop 7 = .ok (.ldc 64, 2) := by decide +kernel
theorem dX7_drop_9 : decode cX7_drop 9 = .ok (.ireturn, 1) := by decide +kernel
theorem dX7_drop_10 : decode cX7_drop 10 = .ok (.aload_n 0, 1) := by decide +kernel
theorem dX7_drop_11 : decode cX7_drop 11 = .ok (.getfield 13, 3) := by decide +kernel
theorem dX7_drop_14 : decode cX7_drop 14 = .ok (.iload_n 1, 1) := by decide +kernel
theorem dX7_drop_15 : decode cX7_drop 15 = .ok (.iaload, 1) := by decide +kernel
theorem dX7_drop_16 : decode cX7_drop 16 = .ok (.ifCond .ge 9, 3) := by decide +kernel
theorem dX7_drop_19 : decode cX7_drop 19 = .ok (.aload_n 0, 1) := by decide +kernel
theorem dX7_drop_20 : decode cX7_drop 20 = .ok (.iconst 1, 1) := by decide +kernel
theorem dX7_drop_21 : decode cX7_drop 21 = .ok (.invokevirtual 65, 3) := by decide +kernel
theorem dX7_drop_24 : decode cX7_drop 24 = .ok (.ireturn, 1) := by decide +kernel
theorem dX7_drop_25 : decode cX7_drop 25 = .ok (.aload_n 0, 1) := by decide +kernel
theorem dX7_drop_26 : decode cX7_drop 26 = .ok (.getfield 13, 3) := by decide +kernel
theorem dX7_drop_29 : decode cX7_drop 29 = .ok (.iload_n 1, 1) := by decide +kernel
theorem dX7_drop_30 : decode cX7_drop 30 = .ok (.iaload, 1) := by decide +kernel
theorem dX7_drop_31 : decode cX7_drop 31 = .ok (.istore_n 2, 1) := by decide +kernel
theorem dX7_drop_32 : decode cX7_drop 32 = .ok (.aload_n 0, 1) := by decide +kernel
theorem dX7_drop_33 : decode cX7_drop 33 = .ok (.getfield 13, 3) := by decide +kernel
theorem dX7_drop_36 : decode cX7_drop 36 = .ok (.iload_n 1, 1) := by decide +kernel
theorem dX7_drop_37 : decode cX7_drop 37 = .ok (.iconst (-1), 1) := by decide +kernel
theorem dX7_drop_38 : decode cX7_drop 38 = .ok (.iastore, 1) := by decide +kernel
theorem dX7_drop_39 : decode cX7_drop 39 = .ok (.aload_n 0, 1) := by decide +kernel
theorem dX7_drop_40 : decode cX7_drop 40 = .ok (.iload_n 2, 1) := by decide +kernel
theorem dX7_drop_41 : decode cX7_drop 41 = .ok (.invokevirtual 69, 3) := by decide +kernel
theorem dX7_drop_44 : decode cX7_drop 44 = .ok (.ireturn, 1) := by decide +kernel
theorem dX7_feed_0 : decode cX7_feed 0 = .ok (.iload_n 1, 1) := by decide +kernel
theorem dX7_feed_1 : decode cX7_feed 1 = .ok (.i2l, 1) := by decide +kernel
theorem dX7_feed_2 : decode cX7_feed 2 = .ok (.lconst 0, 1) := by decide +kernel
theorem dX7_feed_3 : decode cX7_feed 3 = .ok (.ldc2_w 76, 3) := by decide +kernel
theorem dX7_feed_6 : decode cX7_feed 6 = .ok (.invokestatic 54, 3) := by decide +kernel
theorem dX7_feed_9 : decode cX7_feed 9 = .ok (.ifCond .ne 6, 3) := by decide +kernel
theorem dX7_feed_12 : decode cX7_feed 12 = .ok (.ldc 64, 2) := by decide +kernel
theorem dX7_feed_14 : decode cX7_feed 14 = .ok (.ireturn, 1) := by decide +kernel
theorem dX7_feed_15 : decode cX7_feed 15 = .ok (.aload_n 0, 1) := by decide +kernel
theorem dX7_feed_16 : decode cX7_feed 16 = .ok (.getfield 78, 3) := by decide +kernel
theorem dX7_feed_19 : decode cX7_feed 19 = .ok (.bipush 100, 2) := by decide +kernel
theorem dX7_feed_21 : decode cX7_feed 21 = .ok (.if_icmp .ne 6, 3) := by decide +kernel
theorem dX7_feed_24 : decode cX7_feed 24 = .ok (.ldc 81, 2) := by decide +kernel
theorem dX7_feed_26 : decode cX7_feed 26 = .ok (.ireturn, 1) := by decide +kernel
theorem dX7_feed_27 : decode cX7_feed 27 = .ok (.aload_n 0, 1) := by decide +kernel
theorem dX7_feed_28 : decode cX7_feed 28 = .ok (.getfield 25, 3) := by decide +kernel
theorem dX7_feed_31 : decode cX7_feed 31 = .ok (.aload_n 0, 1) := by decide +kernel
theorem dX7_feed_32 : decode cX7_feed 32 = .ok (.getfield 78, 3) := by decide +kernel
theorem dX7_feed_35 : decode cX7_feed 35 = .ok (.iload_n 1, 1) := by decide +kernel
theorem dX7_feed_36 : decode cX7_feed 36 = .ok (.iastore, 1) := by decide +kernel
theorem dX7_feed_37 : decode cX7_feed 37 = .ok (.aload_n 0, 1) := by decide +kernel
theorem dX7_feed_38 : decode cX7_feed 38 = .ok (.dup, 1) := by decide +kernel
theorem dX7_feed_39 : decode cX7_feed 39 = .ok (.getfield 78, 3) := by decide +kernel
theorem dX7_feed_42 : decode cX7_feed 42 = .ok (.iconst 1, 1) := by decide +kernel
theorem dX7_feed_43 : decode cX7_feed 43 = .ok (.iadd, 1) := by decide +kernel
theorem dX7_feed_44 : decode cX7_feed 44 = .ok (.putfield 78, 3) := by decide +kernel
theorem dX7_feed_47 : decode cX7_feed 47 = .ok (.aload_n 0, 1) := by decide +kernel
theorem dX7_feed_48 : decode cX7_feed 48 = .ok (.getfield 78, 3) := by decide +kernel
theorem dX7_feed_51 : decode cX7_feed 51 = .ok (.ireturn, 1) := by decide +kernel
theorem dX7_nextToken_0 : decode cX7_nextToken 0 = .ok (.aload_n 0, 1) := by decide +kernel
theorem dX7_nextToken_1 : decode cX7_nextToken 1 = .ok (.aload_n 0, 1) := by decide +kernel
theorem dX7_nextToken_2 : decode cX7_nextToken 2 = .ok (.getfield 82, 3) := by decide +kernel
theorem dX7_nextToken_5 : decode cX7_nextToken 5 = .ok (.putfield 85, 3) := by decide +kernel
theorem dX7_nextToken_8 : decode cX7_nextToken 8 = .ok (.aload_n 0, 1) := by decide +kernel
theorem dX7_nextToken_9 : decode cX7_nextToken 9 = .ok (.aload_n 0, 1) := by decide +kernel
theorem dX7_nextToken_10 : decode cX7_nextToken 10 = .ok (.getfield 82, 3) := by decide +kernel
theorem dX7_nextToken_13 : decode cX7_nextToken 13 = .ok (.aload_n 0, 1) := by decide +kernel
theorem dX7_nextToken_14 : decode cX7_nextToken 14 = .ok (.getfield 78, 3) := by decide +kernel
theorem dX7_nextToken_17 : decode cX7_nextToken 17 = .ok (.if_icmp .ne 7, 3) := by decide +kernel
theorem dX7_nextToken_20 : decode cX7_nextToken 20 = .ok (.iconst 3, 1) := by decide +kernel
theorem dX7_nextToken_21 : decode cX7_nextToken 21 = .ok (.goto 4, 3) := by decide +kernel
theorem dX7_nextToken_24 : decode cX7_nextToken 24 = .ok (.iconst 0, 1) := by decide +kernel
theorem dX7_nextToken_25 : decode cX7_nextToken 25 = .ok (.putfield 88, 3) := by decide +kernel
theorem dX7_nextToken_28 : decode cX7_nextToken 28 = .ok (.aload_n 0, 1) := by decide +kernel
theorem dX7_nextToken_29 : decode cX7_nextToken 29 = .ok (.iconst 0, 1) := by decide +kernel
theorem dX7_nextToken_30 : decode cX7_nextToken 30 = .ok (.putfield 91, 3) := by decide +kernel
theorem dX7_nextToken_33 : decode cX7_nextToken 33 = .ok (.aload_n 0, 1) := by decide +kernel
theorem dX7_nextToken_34 : decode cX7_nextToken 34 = .ok (.getfield 82, 3) := by decide +kernel
theorem dX7_nextToken_37 : decode cX7_nextToken 37 = .ok (.aload_n 0, 1) := by decide +kernel
theorem dX7_nextToken_38 : decode cX7_nextToken 38 = .ok (.getfield 78, 3) := by decide +kernel
theorem dX7_nextToken_41 : decode cX7_nextToken 41 = .ok (.if_icmp .ge 78, 3) := by decide +kernel
theorem dX7_nextToken_44 : decode cX7_nextToken 44 = .ok (.aload_n 0, 1) := by decide +kernel
theorem dX7_nextToken_45 : decode cX7_nextToken 45 = .ok (.getfield 25, 3) := by decide +kernel
theorem dX7_nextToken_48 : decode cX7_nextToken 48 = .ok (.aload_n 0, 1) := by decide +kernel
theorem dX7_nextToken_49 : decode cX7_nextToken 49 = .ok (.getfield 82, 3) := by decide +kernel
theorem dX7_nextToken_52 : decode cX7_nextToken 52 = .ok (.iaload, 1) := by decide +kernel
theorem dX7_nextToken_53 : decode cX7_nextToken 53 = .ok (.i2l, 1) := by decide +kernel
theorem dX7_nextToken_54 : decode cX7_nextToken 54 = .ok (.ldc2_w 94, 3) := by decide +kernel
theorem dX7_nextToken_57 : decode cX7_nextToken 57 = .ok (.ldc2_w 96, 3) := by decide +kernel
theorem dX7_nextToken_60 : decode cX7_nextToken 60 = .ok (.invokestatic 54, 3) := by decide +kernel
theorem dX7_nextToken_63 : decode cX7_nextToken 63 = .ok (.ifCond .eq 56, 3) := by decide +kernel
theorem dX7_nextToken_66 : decode cX7_nextToken 66 = .ok (.aload_n 0, 1) := by decide +kernel
theorem dX7_nextToken_67 : decode cX7_nextToken 67 = .ok (.aload_n 0, 1) := by decide +kernel
theorem dX7_nextToken_68 : decode cX7_nextToken 68 = .ok (.getfield 91, 3) := by decide +kernel
theorem dX7_nextToken_71 : decode cX7_nextToken 71 = .ok (.bipush 99, 2) := by decide +kernel
theorem dX7_nextToken_73 : decode cX7_nextToken 73 = .ok (.if_icmp .le 10, 3) := by decide +kernel
theorem dX7_nextToken_76 : decode cX7_nextToken 76 = .ok (.aload_n 0, 1) := by decide +kernel
theorem dX7_nextToken_77 : decode cX7_nextToken 77 = .ok (.getfield 91, 3) := by decide +kernel
theorem dX7_nextToken_80 : decode cX7_nextToken 80 = .ok (.goto 23, 3) := by decide +kernel
theorem dX7_nextToken_83 : decode cX7_nextToken 83 = .ok (.bipush 10, 2) := by decide +kernel
theorem dX7_nextToken_85 : decode cX7_nextToken 85 = .ok (.aload_n 0, 1) := by decide +kernel
theorem dX7_nextToken_86 : decode cX7_nextToken 86 = .ok (.getfield 91, 3) := by decide +kernel
theorem dX7_nextToken_89 : decode cX7_nextToken 89 = .ok (.imul, 1) := by decide +kernel
theorem dX7_nextToken_90 : decode cX7_nextToken 90 = .ok (.aload_n 0, 1) := by decide +kernel
theorem dX7_nextToken_91 : decode cX7_nextToken 91 = .ok (.getfield 25, 3) := by decide +kernel
theorem dX7_nextToken_94 : decode cX7_nextToken 94 = .ok (.aload_n 0, 1) := by decide +kernel
theorem dX7_nextToken_95 : decode cX7_nextToken 95 = .ok (.getfield 82, 3) := by decide +kernel
theorem dX7_nextToken_98 : decode cX7_nextToken 98 = .ok (.iaload, 1) := by decide +kernel
theorem dX7_nextToken_99 : decode cX7_nextToken 99 = .ok (.iadd, 1) := by decide +kernel
theorem dX7_nextToken_100 : decode cX7_nextToken 100 = .ok (.bipush 48, 2) := by decide +kernel
theorem dX7_nextToken_102 : decode cX7_nextToken 102 = .ok (.isub, 1) := by decide +kernel
theorem dX7_nextToken_103 : decode cX7_nextToken 103 = .ok (.putfield 91, 3) := by decide +kernel
theorem dX7_nextToken_106 : decode cX7_nextToken 106 = .ok (.aload_n 0, 1) := by decide +kernel
theorem dX7_nextToken_107 : decode cX7_nextToken 107 = .ok (.dup, 1) := by decide +kernel
theorem dX7_nextToken_108 : decode cX7_nextToken 108 = .ok (.getfield 82, 3) := by decide +kernel
theorem dX7_nextToken_111 : decode cX7_nextToken 111 = .ok (.iconst 1, 1) := by decide +kernel
theorem dX7_nextToken_112 : decode cX7_nextToken 112 = .ok (.iadd, 1) := by decide +kernel
theorem dX7_nextToken_113 : decode cX7_nextToken 113 = .ok (.putfield 82, 3) := by decide +kernel
theorem dX7_nextToken_116 : decode cX7_nextToken 116 = .ok (.goto (-83), 3) := by decide +kernel
theorem dX7_nextToken_119 : decode cX7_nextToken 119 = .ok (.aload_n 0, 1) := by decide +kernel
theorem dX7_nextToken_120 : decode cX7_nextToken 120 = .ok (.getfield 82, 3) := by decide +kernel
theorem dX7_nextToken_123 : decode cX7_nextToken 123 = .ok (.aload_n 0, 1) := by decide +kernel
theorem dX7_nextToken_124 : decode cX7_nextToken 124 = .ok (.getfield 85, 3) := by decide +kernel
theorem dX7_nextToken_127 : decode cX7_nextToken 127 = .ok (.if_icmp .le 28, 3) := by decide +kernel
theorem dX7_nextToken_130 : decode cX7_nextToken 130 = .ok (.aload_n 0, 1) := by decide +kernel
theorem dX7_nextToken_131 : decode cX7_nextToken 131 = .ok (.aload_n 0, 1) := by decide +kernel
theorem dX7_nextToken_132 : decode cX7_nextToken 132 = .ok (.getfield 82, 3) := by decide +kernel
theorem dX7_nextToken_135 : decode cX7_nextToken 135 = .ok (.aload_n 0, 1) := by decide +kernel
theorem dX7_nextToken_136 : decode cX7_nextToken 136 = .ok (.getfield 85, 3) := by decide +kernel
theorem dX7_nextToken_139 : decode cX7_nextToken 139 = .ok (.isub, 1) := by decide +kernel
theorem dX7_nextToken_140 : decode cX7_nextToken 140 = .ok (.iconst 2, 1) := by decide +kernel
theorem dX7_nextToken_141 : decode cX7_nextToken 141 = .ok (.if_icmp .le 7, 3) := by decide +kernel
theorem dX7_nextToken_144 : decode cX7_nextToken 144 = .ok (.iconst 0, 1) := by decide +kernel
theorem dX7_nextToken_145 : decode cX7_nextToken 145 = .ok (.goto 4, 3) := by decide +kernel
theorem dX7_nextToken_148 : decode cX7_nextToken 148 = .ok (.iconst 2, 1) := by decide +kernel
theorem dX7_nextToken_149 : decode cX7_nextToken 149 = .ok (.putfield 88, 3) := by decide +kernel
theorem dX7_nextToken_152 : decode cX7_nextToken 152 = .ok (.goto 77, 3) := by decide +kernel
theorem dX7_nextToken_155 : decode cX7_nextToken 155 = .ok (.aload_n 0, 1) := by decide +kernel
theorem dX7_nextToken_156 : decode cX7_nextToken 156 = .ok (.getfield 88, 3) := by decide +kernel
theorem dX7_nextToken_159 : decode cX7_nextToken 159 = .ok (.ifCond .ne 70, 3) := by decide +kernel
theorem dX7_nextToken_162 : decode cX7_nextToken 162 = .ok (.aload_n 0, 1) := by decide +kernel
theorem dX7_nextToken_163 : decode cX7_nextToken 163 = .ok (.aload_n 0, 1) := by decide +kernel
theorem dX7_nextToken_164 : decode cX7_nextToken 164 = .ok (.getfield 25, 3) := by decide +kernel
theorem dX7_nextToken_167 : decode cX7_nextToken 167 = .ok (.aload_n 0, 1) := by decide +kernel
theorem dX7_nextToken_168 : decode cX7_nextToken 168 = .ok (.getfield 82, 3) := by decide +kernel
theorem dX7_nextToken_171 : decode cX7_nextToken 171 = .ok (.iaload, 1) := by decide +kernel
theorem dX7_nextToken_172 : decode cX7_nextToken 172 = .ok (.putfield 91, 3) := by decide +kernel
theorem dX7_nextToken_175 : decode cX7_nextToken 175 = .ok (.aload_n 0, 1) := by decide +kernel
theorem dX7_nextToken_176 : decode cX7_nextToken 176 = .ok (.aload_n 0, 1) := by decide +kernel
theorem dX7_nextToken_177 : decode cX7_nextToken 177 = .ok (.getfield 91, 3) := by decide +kernel
theorem dX7_nextToken_180 : decode cX7_nextToken 180 = .ok (.i2l, 1) := by decide +kernel
theorem dX7_nextToken_181 : decode cX7_nextToken 181 = .ok (.ldc2_w 98, 3) := by decide +kernel
theorem dX7_nextToken_184 : decode cX7_nextToken 184 = .ok (.ldc2_w 100, 3) := by decide +kernel
theorem dX7_nextToken_187 : decode cX7_nextToken 187 = .ok (.invokestatic 54, 3) := by decide +kernel
theorem dX7_nextToken_190 : decode cX7_nextToken 190 = .ok (.ifCond .ne 21, 3) := by decide +kernel
theorem dX7_nextToken_193 : decode cX7_nextToken 193 = .ok (.aload_n 0, 1) := by decide +kernel
theorem dX7_nextToken_194 : decode cX7_nextToken 194 = .ok (.getfield 91, 3) := by decide +kernel
theorem dX7_nextToken_197 : decode cX7_nextToken 197 = .ok (.bipush 44, 2) := by decide +kernel
theorem dX7_nextToken_199 : decode cX7_nextToken 199 = .ok (.if_icmp .eq 12, 3) := by decide +kernel
theorem dX7_nextToken_202 : decode cX7_nextToken 202 = .ok (.aload_n 0, 1) := by decide +kernel
theorem dX7_nextToken_203 : decode cX7_nextToken 203 = .ok (.getfield 91, 3) := by decide +kernel
theorem dX7_nextToken_206 : decode cX7_nextToken 206 = .ok (.bipush 59, 2) := by decide +kernel
theorem dX7_nextToken_208 : decode cX7_nextToken 208 = .ok (.if_icmp .ne 7, 3) := by decide +kernel
theorem dX7_nextToken_211 : decode cX7_nextToken 211 = .ok (.iconst 1, 1) := by decide +kernel
theorem dX7_nextToken_212 : decode cX7_nextToken 212 = .ok (.goto 4, 3) := by decide +kernel
theorem dX7_nextToken_215 : decode cX7_nextToken 215 = .ok (.iconst 0, 1) := by decide +kernel
theorem dX7_nextToken_216 : decode cX7_nextToken 216 = .ok (.putfield 88, 3) := by decide +kernel
theorem dX7_nextToken_219 : decode cX7_nextToken 219 = .ok (.aload_n 0, 1) := by decide +kernel
theorem dX7_nextToken_220 : decode cX7_nextToken 220 = .ok (.dup, 1) := by decide +kernel
theorem dX7_nextToken_221 : decode cX7_nextToken 221 = .ok (.getfield 82, 3) := by decide +kernel
theorem dX7_nextToken_224 : decode cX7_nextToken 224 = .ok (.iconst 1, 1) := by decide +kernel
theorem dX7_nextToken_225 : decode cX7_nextToken 225 = .ok (.iadd, 1) := by decide +kernel
theorem dX7_nextToken_226 : decode cX7_nextToken 226 = .ok (.putfield 82, 3) := by decide +kernel
theorem dX7_nextToken_229 : decode cX7_nextToken 229 = .ok (.return_, 1) := by decide +kernel
theorem dX7_faults_0 : decode cX7_faults 0 = .ok (.aload_n 0, 1) := by decide +kernel
theorem dX7_faults_1 : decode cX7_faults 1 = .ok (.iload_n 1, 1) := by decide +kernel
theorem dX7_faults_2 : decode cX7_faults 2 = .ok (.putfield 102, 3) := by decide +kernel
theorem dX7_faults_5 : decode cX7_faults 5 = .ok (.iconst 0, 1) := by decide +kernel
theorem dX7_faults_6 : decode cX7_faults 6 = .ok (.ireturn, 1) := by decide +kernel
theorem dX7_takes_0 : decode cX7_takes 0 = .ok (.aload_n 0, 1) := by decide +kernel
theorem dX7_takes_1 : decode cX7_takes 1 = .ok (.getfield 88, 3) := by decide +kernel
theorem dX7_takes_4 : decode cX7_takes 4 = .ok (.iconst 1, 1) := by decide +kernel
theorem dX7_takes_5 : decode cX7_takes 5 = .ok (.if_icmp .ne 11, 3) := by decide +kernel
theorem dX7_takes_8 : decode cX7_takes 8 = .ok (.aload_n 0, 1) := by decide +kernel
theorem dX7_takes_9 : decode cX7_takes 9 = .ok (.getfield 91, 3) := by decide +kernel
theorem dX7_takes_12 : decode cX7_takes 12 = .ok (.iload_n 1, 1) := by decide +kernel
theorem dX7_takes_13 : decode cX7_takes 13 = .ok (.if_icmp .eq 9, 3) := by decide +kernel
theorem dX7_takes_16 : decode cX7_takes 16 = .ok (.aload_n 0, 1) := by decide +kernel
theorem dX7_takes_17 : decode cX7_takes 17 = .ok (.iconst 1, 1) := by decide +kernel
theorem dX7_takes_18 : decode cX7_takes 18 = .ok (.invokevirtual 105, 3) := by decide +kernel
theorem dX7_takes_21 : decode cX7_takes 21 = .ok (.ireturn, 1) := by decide +kernel
theorem dX7_takes_22 : decode cX7_takes 22 = .ok (.aload_n 0, 1) := by decide +kernel
theorem dX7_takes_23 : decode cX7_takes 23 = .ok (.invokevirtual 108, 3) := by decide +kernel
theorem dX7_takes_26 : decode cX7_takes 26 = .ok (.iconst 1, 1) := by decide +kernel
theorem dX7_takes_27 : decode cX7_takes 27 = .ok (.ireturn, 1) := by decide +kernel
theorem dX7_takesNumber_0 : decode cX7_takesNumber 0 = .ok (.aload_n 0, 1) := by decide +kernel
theorem dX7_takesNumber_1 : decode cX7_takesNumber 1 = .ok (.getfield 88, 3) := by decide +kernel
theorem dX7_takesNumber_4 : decode cX7_takesNumber 4 = .ok (.iconst 2, 1) := by decide +kernel
theorem dX7_takesNumber_5 : decode cX7_takesNumber 5 = .ok (.if_icmp .ne 18, 3) := by decide +kernel
theorem dX7_takesNumber_8 : decode cX7_takesNumber 8 = .ok (.aload_n 0, 1) := by decide +kernel
theorem dX7_takesNumber_9 : decode cX7_takesNumber 9 = .ok (.getfield 91, 3) := by decide +kernel
theorem dX7_takesNumber_12 : decode cX7_takesNumber 12 = .ok (.i2l, 1) := by decide +kernel
theorem dX7_takesNumber_13 : decode cX7_takesNumber 13 = .ok (.iload_n 1, 1) := by decide +kernel
theorem dX7_takesNumber_14 : decode cX7_takesNumber 14 = .ok (.i2l, 1) := by decide +kernel
theorem dX7_takesNumber_15 : decode cX7_takesNumber 15 = .ok (.iload_n 2, 1) := by decide +kernel
theorem dX7_takesNumber_16 : decode cX7_takesNumber 16 = .ok (.i2l, 1) := by decide +kernel
theorem dX7_takesNumber_17 : decode cX7_takesNumber 17 = .ok (.invokestatic 54, 3) := by decide +kernel
theorem dX7_takesNumber_20 : decode cX7_takesNumber 20 = .ok (.ifCond .ne 21, 3) := by decide +kernel
theorem dX7_takesNumber_23 : decode cX7_takesNumber 23 = .ok (.aload_n 0, 1) := by decide +kernel
theorem dX7_takesNumber_24 : decode cX7_takesNumber 24 = .ok (.aload_n 0, 1) := by decide +kernel
theorem dX7_takesNumber_25 : decode cX7_takesNumber 25 = .ok (.getfield 88, 3) := by decide +kernel
theorem dX7_takesNumber_28 : decode cX7_takesNumber 28 = .ok (.iconst 2, 1) := by decide +kernel
theorem dX7_takesNumber_29 : decode cX7_takesNumber 29 = .ok (.if_icmp .ne 7, 3) := by decide +kernel
theorem dX7_takesNumber_32 : decode cX7_takesNumber 32 = .ok (.iconst 2, 1) := by decide +kernel
theorem dX7_takesNumber_33 : decode cX7_takesNumber 33 = .ok (.goto 4, 3) := by decide +kernel
theorem dX7_takesNumber_36 : decode cX7_takesNumber 36 = .ok (.iconst 1, 1) := by decide +kernel
theorem dX7_takesNumber_37 : decode cX7_takesNumber 37 = .ok (.invokevirtual 105, 3) := by decide +kernel
theorem dX7_takesNumber_40 : decode cX7_takesNumber 40 = .ok (.ireturn, 1) := by decide +kernel
theorem dX7_takesNumber_41 : decode cX7_takesNumber 41 = .ok (.aload_n 0, 1) := by decide +kernel
theorem dX7_takesNumber_42 : decode cX7_takesNumber 42 = .ok (.getfield 28, 3) := by decide +kernel
theorem dX7_takesNumber_45 : decode cX7_takesNumber 45 = .ok (.iload_n 3, 1) := by decide +kernel
theorem dX7_takesNumber_46 : decode cX7_takesNumber 46 = .ok (.aload_n 0, 1) := by decide +kernel
theorem dX7_takesNumber_47 : decode cX7_takesNumber 47 = .ok (.getfield 91, 3) := by decide +kernel
theorem dX7_takesNumber_50 : decode cX7_takesNumber 50 = .ok (.iastore, 1) := by decide +kernel
theorem dX7_takesNumber_51 : decode cX7_takesNumber 51 = .ok (.aload_n 0, 1) := by decide +kernel
theorem dX7_takesNumber_52 : decode cX7_takesNumber 52 = .ok (.invokevirtual 108, 3) := by decide +kernel
theorem dX7_takesNumber_55 : decode cX7_takesNumber 55 = .ok (.aload_n 0, 1) := by decide +kernel
theorem dX7_takesNumber_56 : decode cX7_takesNumber 56 = .ok (.iload 4, 2) := by decide +kernel
theorem dX7_takesNumber_58 : decode cX7_takesNumber 58 = .ok (.invokevirtual 111, 3) := by decide +kernel
theorem dX7_takesNumber_61 : decode cX7_takesNumber 61 = .ok (.ireturn, 1) := by decide +kernel
theorem dX7_kindBy_0 : decode cX7_kindBy 0 = .ok (.iload_n 0, 1) := by decide +kernel
theorem dX7_kindBy_1 : decode cX7_kindBy 1 = .ok (.bipush 99, 2) := by decide +kernel
theorem dX7_kindBy_3 : decode cX7_kindBy 3 = .ok (.if_icmp .ne 7, 3) := by decide +kernel
theorem dX7_kindBy_6 : decode cX7_kindBy 6 = .ok (.iconst 1, 1) := by decide +kernel
theorem dX7_kindBy_7 : decode cX7_kindBy 7 = .ok (.goto 44, 3) := by decide +kernel
theorem dX7_kindBy_10 : decode cX7_kindBy 10 = .ok (.iload_n 0, 1) := by decide +kernel
theorem dX7_kindBy_11 : decode cX7_kindBy 11 = .ok (.bipush 115, 2) := by decide +kernel
theorem dX7_kindBy_13 : decode cX7_kindBy 13 = .ok (.if_icmp .ne 7, 3) := by decide +kernel
theorem dX7_kindBy_16 : decode cX7_kindBy 16 = .ok (.iconst 2, 1) := by decide +kernel
theorem dX7_kindBy_17 : decode cX7_kindBy 17 = .ok (.goto 34, 3) := by decide +kernel
theorem dX7_kindBy_20 : decode cX7_kindBy 20 = .ok (.iload_n 0, 1) := by decide +kernel
theorem dX7_kindBy_21 : decode cX7_kindBy 21 = .ok (.bipush 107, 2) := by decide +kernel
theorem dX7_kindBy_23 : decode cX7_kindBy 23 = .ok (.if_icmp .ne 7, 3) := by decide +kernel
theorem dX7_kindBy_26 : decode cX7_kindBy 26 = .ok (.iconst 3, 1) := by decide +kernel
theorem dX7_kindBy_27 : decode cX7_kindBy 27 = .ok (.goto 24, 3) := by decide +kernel
theorem dX7_kindBy_30 : decode cX7_kindBy 30 = .ok (.iload_n 0, 1) := by decide +kernel
theorem dX7_kindBy_31 : decode cX7_kindBy 31 = .ok (.bipush 119, 2) := by decide +kernel
theorem dX7_kindBy_33 : decode cX7_kindBy 33 = .ok (.if_icmp .ne 7, 3) := by decide +kernel
theorem dX7_kindBy_36 : decode cX7_kindBy 36 = .ok (.iconst 4, 1) := by decide +kernel
theorem dX7_kindBy_37 : decode cX7_kindBy 37 = .ok (.goto 14, 3) := by decide +kernel
theorem dX7_kindBy_40 : decode cX7_kindBy 40 = .ok (.iload_n 0, 1) := by decide +kernel
theorem dX7_kindBy_41 : decode cX7_kindBy 41 = .ok (.bipush 113, 2) := by decide +kernel
theorem dX7_kindBy_43 : decode cX7_kindBy 43 = .ok (.if_icmp .ne 7, 3) := by decide +kernel
theorem dX7_kindBy_46 : decode cX7_kindBy 46 = .ok (.iconst 5, 1) := by decide +kernel
theorem dX7_kindBy_47 : decode cX7_kindBy 47 = .ok (.goto 4, 3) := by decide +kernel
theorem dX7_kindBy_50 : decode cX7_kindBy 50 = .ok (.iconst 0, 1) := by decide +kernel
theorem dX7_kindBy_51 : decode cX7_kindBy 51 = .ok (.ireturn, 1) := by decide +kernel
theorem dX7_readBed_0 : decode cX7_readBed 0 = .ok (.aload_n 0, 1) := by decide +kernel
theorem dX7_readBed_1 : decode cX7_readBed 1 = .ok (.getfield 28, 3) := by decide +kernel
theorem dX7_readBed_4 : decode cX7_readBed 4 = .ok (.iconst 0, 1) := by decide +kernel
theorem dX7_readBed_5 : decode cX7_readBed 5 = .ok (.iaload, 1) := by decide +kernel
theorem dX7_readBed_6 : decode cX7_readBed 6 = .ok (.istore_n 1, 1) := by decide +kernel
theorem dX7_readBed_7 : decode cX7_readBed 7 = .ok (.aload_n 0, 1) := by decide +kernel
theorem dX7_readBed_8 : decode cX7_readBed 8 = .ok (.getfield 88, 3) := by decide +kernel
theorem dX7_readBed_11 : decode cX7_readBed 11 = .ok (.iconst 1, 1) := by decide +kernel
theorem dX7_readBed_12 : decode cX7_readBed 12 = .ok (.if_icmp .ne 13, 3) := by decide +kernel
theorem dX7_readBed_15 : decode cX7_readBed 15 = .ok (.aload_n 0, 1) := by decide +kernel
theorem dX7_readBed_16 : decode cX7_readBed 16 = .ok (.getfield 91, 3) := by decide +kernel
theorem dX7_readBed_19 : decode cX7_readBed 19 = .ok (.invokestatic 114, 3) := by decide +kernel
theorem dX7_readBed_22 : decode cX7_readBed 22 = .ok (.goto 4, 3) := by decide +kernel
theorem dX7_readBed_25 : decode cX7_readBed 25 = .ok (.iconst 0, 1) := by decide +kernel
theorem dX7_readBed_26 : decode cX7_readBed 26 = .ok (.istore_n 2, 1) := by decide +kernel
theorem dX7_readBed_27 : decode cX7_readBed 27 = .ok (.iload_n 2, 1) := by decide +kernel
theorem dX7_readBed_28 : decode cX7_readBed 28 = .ok (.ifCond .eq 9, 3) := by decide +kernel
theorem dX7_readBed_31 : decode cX7_readBed 31 = .ok (.iload_n 1, 1) := by decide +kernel
theorem dX7_readBed_32 : decode cX7_readBed 32 = .ok (.bipush 9, 2) := by decide +kernel
theorem dX7_readBed_34 : decode cX7_readBed 34 = .ok (.if_icmp .ne 17, 3) := by decide +kernel
theorem dX7_readBed_37 : decode cX7_readBed 37 = .ok (.aload_n 0, 1) := by decide +kernel
theorem dX7_readBed_38 : decode cX7_readBed 38 = .ok (.iload_n 2, 1) := by decide +kernel
theorem dX7_readBed_39 : decode cX7_readBed 39 = .ok (.ifCond .ne 7, 3) := by decide +kernel
theorem dX7_readBed_42 : decode cX7_readBed 42 = .ok (.iconst 1, 1) := by decide +kernel
theorem dX7_readBed_43 : decode cX7_readBed 43 = .ok (.goto 4, 3) := by decide +kernel
theorem dX7_readBed_46 : decode cX7_readBed 46 = .ok (.iconst 3, 1) := by decide +kernel
theorem dX7_readBed_47 : decode cX7_readBed 47 = .ok (.invokevirtual 105, 3) := by decide +kernel
theorem dX7_readBed_50 : decode cX7_readBed 50 = .ok (.ireturn, 1) := by decide +kernel
theorem dX7_readBed_51 : decode cX7_readBed 51 = .ok (.aload_n 0, 1) := by decide +kernel
theorem dX7_readBed_52 : decode cX7_readBed 52 = .ok (.invokevirtual 108, 3) := by decide +kernel
theorem dX7_readBed_55 : decode cX7_readBed 55 = .ok (.aload_n 0, 1) := by decide +kernel
theorem dX7_readBed_56 : decode cX7_readBed 56 = .ok (.getfield 28, 3) := by decide +kernel
theorem dX7_readBed_59 : decode cX7_readBed 59 = .ok (.bipush 9, 2) := by decide +kernel
theorem dX7_readBed_61 : decode cX7_readBed 61 = .ok (.iload_n 1, 1) := by decide +kernel
theorem dX7_readBed_62 : decode cX7_readBed 62 = .ok (.iadd, 1) := by decide +kernel
theorem dX7_readBed_63 : decode cX7_readBed 63 = .ok (.iload_n 2, 1) := by decide +kernel
theorem dX7_readBed_64 : decode cX7_readBed 64 = .ok (.iastore, 1) := by decide +kernel
theorem dX7_readBed_65 : decode cX7_readBed 65 = .ok (.aload_n 0, 1) := by decide +kernel
theorem dX7_readBed_66 : decode cX7_readBed 66 = .ok (.getfield 28, 3) := by decide +kernel
theorem dX7_readBed_69 : decode cX7_readBed 69 = .ok (.iconst 0, 1) := by decide +kernel
theorem dX7_readBed_70 : decode cX7_readBed 70 = .ok (.dup2, 1) := by decide +kernel
theorem dX7_readBed_71 : decode cX7_readBed 71 = .ok (.iaload, 1) := by decide +kernel
theorem dX7_readBed_72 : decode cX7_readBed 72 = .ok (.iconst 1, 1) := by decide +kernel
theorem dX7_readBed_73 : decode cX7_readBed 73 = .ok (.iadd, 1) := by decide +kernel
theorem dX7_readBed_74 : decode cX7_readBed 74 = .ok (.iastore, 1) := by decide +kernel
theorem dX7_readBed_75 : decode cX7_readBed 75 = .ok (.aload_n 0, 1) := by decide +kernel
theorem dX7_readBed_76 : decode cX7_readBed 76 = .ok (.iconst 0, 1) := by decide +kernel
theorem dX7_readBed_77 : decode cX7_readBed 77 = .ok (.bipush 99, 2) := by decide +kernel
theorem dX7_readBed_79 : decode cX7_readBed 79 = .ok (.bipush 18, 2) := by decide +kernel
theorem dX7_readBed_81 : decode cX7_readBed 81 = .ok (.iload_n 1, 1) := by decide +kernel
theorem dX7_readBed_82 : decode cX7_readBed 82 = .ok (.iadd, 1) := by decide +kernel
theorem dX7_readBed_83 : decode cX7_readBed 83 = .ok (.bipush 44, 2) := by decide +kernel
theorem dX7_readBed_85 : decode cX7_readBed 85 = .ok (.invokevirtual 117, 3) := by decide +kernel
theorem dX7_readBed_88 : decode cX7_readBed 88 = .ok (.ifCond .eq 23, 3) := by decide +kernel
theorem dX7_readBed_91 : decode cX7_readBed 91 = .ok (.aload_n 0, 1) := by decide +kernel
theorem dX7_readBed_92 : decode cX7_readBed 92 = .ok (.iconst 0, 1) := by decide +kernel
theorem dX7_readBed_93 : decode cX7_readBed 93 = .ok (.bipush 9, 2) := by decide +kernel
theorem dX7_readBed_95 : decode cX7_readBed 95 = .ok (.bipush 27, 2) := by decide +kernel
theorem dX7_readBed_97 : decode cX7_readBed 97 = .ok (.iload_n 1, 1) := by decide +kernel
theorem dX7_readBed_98 : decode cX7_readBed 98 = .ok (.iadd, 1) := by decide +kernel
theorem dX7_readBed_99 : decode cX7_readBed 99 = .ok (.bipush 59, 2) := by decide +kernel
theorem dX7_readBed_101 : decode cX7_readBed 101 = .ok (.invokevirtual 117, 3) := by decide +kernel
theorem dX7_readBed_104 : decode cX7_readBed 104 = .ok (.ifCond .eq 7, 3) := by decide +kernel
theorem dX7_readBed_107 : decode cX7_readBed 107 = .ok (.iconst 1, 1) := by decide +kernel
theorem dX7_readBed_108 : decode cX7_readBed 108 = .ok (.goto 4, 3) := by decide +kernel
theorem dX7_readBed_111 : decode cX7_readBed 111 = .ok (.iconst 0, 1) := by decide +kernel
theorem dX7_readBed_112 : decode cX7_readBed 112 = .ok (.ireturn, 1) := by decide +kernel
theorem dX7_readFlat_0 : decode cX7_readFlat 0 = .ok (.aload_n 0, 1) := by decide +kernel
theorem dX7_readFlat_1 : decode cX7_readFlat 1 = .ok (.iconst 0, 1) := by decide +kernel
theorem dX7_readFlat_2 : decode cX7_readFlat 2 = .ok (.putfield 82, 3) := by decide +kernel
theorem dX7_readFlat_5 : decode cX7_readFlat 5 = .ok (.iconst 0, 1) := by decide +kernel
theorem dX7_readFlat_6 : decode cX7_readFlat 6 = .ok (.istore_n 1, 1) := by decide +kernel
theorem dX7_readFlat_7 : decode cX7_readFlat 7 = .ok (.iload_n 1, 1) := by decide +kernel
theorem dX7_readFlat_8 : decode cX7_readFlat 8 = .ok (.bipush 36, 2) := by decide +kernel
theorem dX7_readFlat_10 : decode cX7_readFlat 10 = .ok (.if_icmp .ge 16, 3) := by decide +kernel
theorem dX7_readFlat_13 : decode cX7_readFlat 13 = .ok (.aload_n 0, 1) := by decide +kernel
theorem dX7_readFlat_14 : decode cX7_readFlat 14 = .ok (.getfield 28, 3) := by decide +kernel
theorem dX7_readFlat_17 : decode cX7_readFlat 17 = .ok (.iload_n 1, 1) := by decide +kernel
theorem dX7_readFlat_18 : decode cX7_readFlat 18 = .ok (.iconst 0, 1) := by decide +kernel
theorem dX7_readFlat_19 : decode cX7_readFlat 19 = .ok (.iastore, 1) := by decide +kernel
theorem dX7_readFlat_20 : decode cX7_readFlat 20 = .ok (.iinc 1 1, 3) := by decide +kernel
theorem dX7_readFlat_23 : decode cX7_readFlat 23 = .ok (.goto (-16), 3) := by decide +kernel
theorem dX7_readFlat_26 : decode cX7_readFlat 26 = .ok (.aload_n 0, 1) := by decide +kernel
theorem dX7_readFlat_27 : decode cX7_readFlat 27 = .ok (.invokevirtual 108, 3) := by decide +kernel
theorem dX7_readFlat_30 : decode cX7_readFlat 30 = .ok (.aload_n 0, 1) := by decide +kernel
theorem dX7_readFlat_31 : decode cX7_readFlat 31 = .ok (.bipush 108, 2) := by decide +kernel
theorem dX7_readFlat_33 : decode cX7_readFlat 33 = .ok (.invokevirtual 111, 3) := by decide +kernel
theorem dX7_readFlat_36 : decode cX7_readFlat 36 = .ok (.ifCond .eq 42, 3) := by decide +kernel
theorem dX7_readFlat_39 : decode cX7_readFlat 39 = .ok (.aload_n 0, 1) := by decide +kernel
theorem dX7_readFlat_40 : decode cX7_readFlat 40 = .ok (.iconst 0, 1) := by decide +kernel
theorem dX7_readFlat_41 : decode cX7_readFlat 41 = .ok (.bipush 8, 2) := by decide +kernel
theorem dX7_readFlat_43 : decode cX7_readFlat 43 = .ok (.iconst 1, 1) := by decide +kernel
theorem dX7_readFlat_44 : decode cX7_readFlat 44 = .ok (.bipush 44, 2) := by decide +kernel
theorem dX7_readFlat_46 : decode cX7_readFlat 46 = .ok (.invokevirtual 117, 3) := by decide +kernel
theorem dX7_readFlat_49 : decode cX7_readFlat 49 = .ok (.ifCond .eq 29, 3) := by decide +kernel
theorem dX7_readFlat_52 : decode cX7_readFlat 52 = .ok (.aload_n 0, 1) := by decide +kernel
theorem dX7_readFlat_53 : decode cX7_readFlat 53 = .ok (.iconst 0, 1) := by decide +kernel
theorem dX7_readFlat_54 : decode cX7_readFlat 54 = .ok (.bipush 8, 2) := by decide +kernel
theorem dX7_readFlat_56 : decode cX7_readFlat 56 = .ok (.iconst 2, 1) := by decide +kernel
theorem dX7_readFlat_57 : decode cX7_readFlat 57 = .ok (.bipush 44, 2) := by decide +kernel
theorem dX7_readFlat_59 : decode cX7_readFlat 59 = .ok (.invokevirtual 117, 3) := by decide +kernel
theorem dX7_readFlat_62 : decode cX7_readFlat 62 = .ok (.ifCond .eq 16, 3) := by decide +kernel
theorem dX7_readFlat_65 : decode cX7_readFlat 65 = .ok (.aload_n 0, 1) := by decide +kernel
theorem dX7_readFlat_66 : decode cX7_readFlat 66 = .ok (.iconst 1, 1) := by decide +kernel
theorem dX7_readFlat_67 : decode cX7_readFlat 67 = .ok (.bipush 9, 2) := by decide +kernel
theorem dX7_readFlat_69 : decode cX7_readFlat 69 = .ok (.iconst 3, 1) := by decide +kernel
theorem dX7_readFlat_70 : decode cX7_readFlat 70 = .ok (.bipush 59, 2) := by decide +kernel
theorem dX7_readFlat_72 : decode cX7_readFlat 72 = .ok (.invokevirtual 117, 3) := by decide +kernel
theorem dX7_readFlat_75 : decode cX7_readFlat 75 = .ok (.ifCond .ne 5, 3) := by decide +kernel
theorem dX7_readFlat_78 : decode cX7_readFlat 78 = .ok (.iconst 0, 1) := by decide +kernel
theorem dX7_readFlat_79 : decode cX7_readFlat 79 = .ok (.ireturn, 1) := by decide +kernel
theorem dX7_readFlat_80 : decode cX7_readFlat 80 = .ok (.iconst 1, 1) := by decide +kernel
theorem dX7_readFlat_81 : decode cX7_readFlat 81 = .ok (.istore_n 1, 1) := by decide +kernel
theorem dX7_readFlat_82 : decode cX7_readFlat 82 = .ok (.iload_n 1, 1) := by decide +kernel
theorem dX7_readFlat_83 : decode cX7_readFlat 83 = .ok (.ifCond .eq 28, 3) := by decide +kernel
theorem dX7_readFlat_86 : decode cX7_readFlat 86 = .ok (.aload_n 0, 1) := by decide +kernel
theorem dX7_readFlat_87 : decode cX7_readFlat 87 = .ok (.getfield 88, 3) := by decide +kernel
theorem dX7_readFlat_90 : decode cX7_readFlat 90 = .ok (.iconst 3, 1) := by decide +kernel
theorem dX7_readFlat_91 : decode cX7_readFlat 91 = .ok (.if_icmp .ne 12, 3) := by decide +kernel
theorem dX7_readFlat_94 : decode cX7_readFlat 94 = .ok (.aload_n 0, 1) := by decide +kernel
theorem dX7_readFlat_95 : decode cX7_readFlat 95 = .ok (.getfield 28, 3) := by decide +kernel
theorem dX7_readFlat_98 : decode cX7_readFlat 98 = .ok (.iconst 0, 1) := by decide +kernel
theorem dX7_readFlat_99 : decode cX7_readFlat 99 = .ok (.iaload, 1) := by decide +kernel
theorem dX7_readFlat_100 : decode cX7_readFlat 100 = .ok (.ifCond .ne 11, 3) := by decide +kernel
theorem dX7_readFlat_103 : decode cX7_readFlat 103 = .ok (.aload_n 0, 1) := by decide +kernel
theorem dX7_readFlat_104 : decode cX7_readFlat 104 = .ok (.invokevirtual 121, 3) := by decide +kernel
theorem dX7_readFlat_107 : decode cX7_readFlat 107 = .ok (.istore_n 1, 1) := by decide +kernel
theorem dX7_readFlat_108 : decode cX7_readFlat 108 = .ok (.goto (-26), 3) := by decide +kernel
theorem dX7_readFlat_111 : decode cX7_readFlat 111 = .ok (.iload_n 1, 1) := by decide +kernel
theorem dX7_readFlat_112 : decode cX7_readFlat 112 = .ok (.ireturn, 1) := by decide +kernel
theorem dX7_flat_0 : decode cX7_flat 0 = .ok (.aload_n 0, 1) := by decide +kernel
theorem dX7_flat_1 : decode cX7_flat 1 = .ok (.invokevirtual 125, 3) := by decide +kernel
theorem dX7_flat_4 : decode cX7_flat 4 = .ok (.istore_n 1, 1) := by decide +kernel
theorem dX7_flat_5 : decode cX7_flat 5 = .ok (.aload_n 0, 1) := by decide +kernel
theorem dX7_flat_6 : decode cX7_flat 6 = .ok (.iconst 0, 1) := by decide +kernel
theorem dX7_flat_7 : decode cX7_flat 7 = .ok (.putfield 78, 3) := by decide +kernel
theorem dX7_flat_10 : decode cX7_flat 10 = .ok (.iload_n 1, 1) := by decide +kernel
theorem dX7_flat_11 : decode cX7_flat 11 = .ok (.ifCond .ne 19, 3) := by decide +kernel
theorem dX7_flat_14 : decode cX7_flat 14 = .ok (.aload_n 0, 1) := by decide +kernel
theorem dX7_flat_15 : decode cX7_flat 15 = .ok (.aload_n 0, 1) := by decide +kernel
theorem dX7_flat_16 : decode cX7_flat 16 = .ok (.getfield 102, 3) := by decide +kernel
theorem dX7_flat_19 : decode cX7_flat 19 = .ok (.putfield 128, 3) := by decide +kernel
theorem dX7_flat_22 : decode cX7_flat 22 = .ok (.ldc 131, 2) := by decide +kernel
theorem dX7_flat_24 : decode cX7_flat 24 = .ok (.aload_n 0, 1) := by decide +kernel
theorem dX7_flat_25 : decode cX7_flat 25 = .ok (.getfield 85, 3) := by decide +kernel
theorem dX7_flat_28 : decode cX7_flat 28 = .ok (.isub, 1) := by decide +kernel
theorem dX7_flat_29 : decode cX7_flat 29 = .ok (.ireturn, 1) := by decide +kernel
theorem dX7_flat_30 : decode cX7_flat 30 = .ok (.iconst 0, 1) := by decide +kernel
theorem dX7_flat_31 : decode cX7_flat 31 = .ok (.istore_n 2, 1) := by decide +kernel
theorem dX7_flat_32 : decode cX7_flat 32 = .ok (.iload_n 2, 1) := by decide +kernel
theorem dX7_flat_33 : decode cX7_flat 33 = .ok (.bipush 36, 2) := by decide +kernel
theorem dX7_flat_35 : decode cX7_flat 35 = .ok (.if_icmp .ge 21, 3) := by decide +kernel
theorem dX7_flat_38 : decode cX7_flat 38 = .ok (.aload_n 0, 1) := by decide +kernel
theorem dX7_flat_39 : decode cX7_flat 39 = .ok (.getfield 19, 3) := by decide +kernel
theorem dX7_flat_42 : decode cX7_flat 42 = .ok (.iload_n 2, 1) := by decide +kernel
theorem dX7_flat_43 : decode cX7_flat 43 = .ok (.aload_n 0, 1) := by decide +kernel
theorem dX7_flat_44 : decode cX7_flat 44 = .ok (.getfield 28, 3) := by decide +kernel
theorem dX7_flat_47 : decode cX7_flat 47 = .ok (.iload_n 2, 1) := by decide +kernel
theorem dX7_flat_48 : decode cX7_flat 48 = .ok (.iaload, 1) := by decide +kernel
theorem dX7_flat_49 : decode cX7_flat 49 = .ok (.iastore, 1) := by decide +kernel
theorem dX7_flat_50 : decode cX7_flat 50 = .ok (.iinc 2 1, 3) := by decide +kernel
theorem dX7_flat_53 : decode cX7_flat 53 = .ok (.goto (-21), 3) := by decide +kernel
theorem dX7_flat_56 : decode cX7_flat 56 = .ok (.aload_n 0, 1) := by decide +kernel
theorem dX7_flat_57 : decode cX7_flat 57 = .ok (.iconst 1, 1) := by decide +kernel
theorem dX7_flat_58 : decode cX7_flat 58 = .ok (.putfield 132, 3) := by decide +kernel
theorem dX7_flat_61 : decode cX7_flat 61 = .ok (.aload_n 0, 1) := by decide +kernel
theorem dX7_flat_62 : decode cX7_flat 62 = .ok (.iconst 0, 1) := by decide +kernel
theorem dX7_flat_63 : decode cX7_flat 63 = .ok (.putfield 136, 3) := by decide +kernel
theorem dX7_flat_66 : decode cX7_flat 66 = .ok (.aload_n 0, 1) := by decide +kernel
theorem dX7_flat_67 : decode cX7_flat 67 = .ok (.getfield 19, 3) := by decide +kernel
theorem dX7_flat_70 : decode cX7_flat 70 = .ok (.iconst 0, 1) := by decide +kernel
theorem dX7_flat_71 : decode cX7_flat 71 = .ok (.iaload, 1) := by decide +kernel
theorem dX7_flat_72 : decode cX7_flat 72 = .ok (.ireturn, 1) := by decide +kernel
theorem dX7_fault_0 : decode cX7_fault 0 = .ok (.aload_n 0, 1) := by decide +kernel
theorem dX7_fault_1 : decode cX7_fault 1 = .ok (.getfield 128, 3) := by decide +kernel
theorem dX7_fault_4 : decode cX7_fault 4 = .ok (.ireturn, 1) := by decide +kernel
theorem dX7_isBed_0 : decode cX7_isBed 0 = .ok (.iload_n 1, 1) := by decide +kernel
theorem dX7_isBed_1 : decode cX7_isBed 1 = .ok (.i2l, 1) := by decide +kernel
theorem dX7_isBed_2 : decode cX7_isBed 2 = .ok (.lconst 0, 1) := by decide +kernel
theorem dX7_isBed_3 : decode cX7_isBed 3 = .ok (.aload_n 0, 1) := by decide +kernel
theorem dX7_isBed_4 : decode cX7_isBed 4 = .ok (.getfield 19, 3) := by decide +kernel
theorem dX7_isBed_7 : decode cX7_isBed 7 = .ok (.iconst 0, 1) := by decide +kernel
theorem dX7_isBed_8 : decode cX7_isBed 8 = .ok (.iaload, 1) := by decide +kernel
theorem dX7_isBed_9 : decode cX7_isBed 9 = .ok (.iconst 1, 1) := by decide +kernel
theorem dX7_isBed_10 : decode cX7_isBed 10 = .ok (.isub, 1) := by decide +kernel
theorem dX7_isBed_11 : decode cX7_isBed 11 = .ok (.i2l, 1) := by decide +kernel
theorem dX7_isBed_12 : decode cX7_isBed 12 = .ok (.invokestatic 54, 3) := by decide +kernel
theorem dX7_isBed_15 : decode cX7_isBed 15 = .ok (.ireturn, 1) := by decide +kernel
theorem dX7_isWho_0 : decode cX7_isWho 0 = .ok (.iload_n 0, 1) := by decide +kernel
theorem dX7_isWho_1 : decode cX7_isWho 1 = .ok (.i2l, 1) := by decide +kernel
theorem dX7_isWho_2 : decode cX7_isWho 2 = .ok (.lconst 0, 1) := by decide +kernel
theorem dX7_isWho_3 : decode cX7_isWho 3 = .ok (.lconst 1, 1) := by decide +kernel
theorem dX7_isWho_4 : decode cX7_isWho 4 = .ok (.invokestatic 54, 3) := by decide +kernel
theorem dX7_isWho_7 : decode cX7_isWho 7 = .ok (.ireturn, 1) := by decide +kernel
theorem dX7_off_0 : decode cX7_off 0 = .ok (.aload_n 0, 1) := by decide +kernel
theorem dX7_off_1 : decode cX7_off 1 = .ok (.getfield 19, 3) := by decide +kernel
theorem dX7_off_4 : decode cX7_off 4 = .ok (.iconst 1, 1) := by decide +kernel
theorem dX7_off_5 : decode cX7_off 5 = .ok (.iload_n 1, 1) := by decide +kernel
theorem dX7_off_6 : decode cX7_off 6 = .ok (.iadd, 1) := by decide +kernel
theorem dX7_off_7 : decode cX7_off 7 = .ok (.iaload, 1) := by decide +kernel
theorem dX7_off_8 : decode cX7_off 8 = .ok (.iload_n 2, 1) := by decide +kernel
theorem dX7_off_9 : decode cX7_off 9 = .ok (.isub, 1) := by decide +kernel
theorem dX7_off_10 : decode cX7_off 10 = .ok (.istore_n 3, 1) := by decide +kernel
theorem dX7_off_11 : decode cX7_off 11 = .ok (.iload_n 3, 1) := by decide +kernel
theorem dX7_off_12 : decode cX7_off 12 = .ok (.ifCond .ge 8, 3) := by decide +kernel
theorem dX7_off_15 : decode cX7_off 15 = .ok (.iload_n 3, 1) := by decide +kernel
theorem dX7_off_16 : decode cX7_off 16 = .ok (.ineg, 1) := by decide +kernel
theorem dX7_off_17 : decode cX7_off 17 = .ok (.goto 4, 3) := by decide +kernel
theorem dX7_off_20 : decode cX7_off 20 = .ok (.iload_n 3, 1) := by decide +kernel
theorem dX7_off_21 : decode cX7_off 21 = .ok (.ireturn, 1) := by decide +kernel
theorem dX7_nearer_0 : decode cX7_nearer 0 = .ok (.aload_n 0, 1) := by decide +kernel
theorem dX7_nearer_1 : decode cX7_nearer 1 = .ok (.iconst 1, 1) := by decide +kernel
theorem dX7_nearer_2 : decode cX7_nearer 2 = .ok (.iload_n 1, 1) := by decide +kernel
theorem dX7_nearer_3 : decode cX7_nearer 3 = .ok (.invokevirtual 139, 3) := by decide +kernel
theorem dX7_nearer_6 : decode cX7_nearer 6 = .ok (.aload_n 0, 1) := by decide +kernel
theorem dX7_nearer_7 : decode cX7_nearer 7 = .ok (.iconst 0, 1) := by decide +kernel
theorem dX7_nearer_8 : decode cX7_nearer 8 = .ok (.iload_n 1, 1) := by decide +kernel
theorem dX7_nearer_9 : decode cX7_nearer 9 = .ok (.invokevirtual 139, 3) := by decide +kernel
theorem dX7_nearer_12 : decode cX7_nearer 12 = .ok (.isub, 1) := by decide +kernel
theorem dX7_nearer_13 : decode cX7_nearer 13 = .ok (.istore_n 3, 1) := by decide +kernel
theorem dX7_nearer_14 : decode cX7_nearer 14 = .ok (.iload_n 3, 1) := by decide +kernel
theorem dX7_nearer_15 : decode cX7_nearer 15 = .ok (.iload_n 2, 1) := by decide +kernel
theorem dX7_nearer_16 : decode cX7_nearer 16 = .ok (.if_icmp .lt 7, 3) := by decide +kernel
theorem dX7_nearer_19 : decode cX7_nearer 19 = .ok (.iconst 0, 1) := by decide +kernel
theorem dX7_nearer_20 : decode cX7_nearer 20 = .ok (.goto 14, 3) := by decide +kernel
theorem dX7_nearer_23 : decode cX7_nearer 23 = .ok (.iload_n 3, 1) := by decide +kernel
theorem dX7_nearer_24 : decode cX7_nearer 24 = .ok (.iload_n 2, 1) := by decide +kernel
theorem dX7_nearer_25 : decode cX7_nearer 25 = .ok (.ineg, 1) := by decide +kernel
theorem dX7_nearer_26 : decode cX7_nearer 26 = .ok (.if_icmp .gt 7, 3) := by decide +kernel
theorem dX7_nearer_29 : decode cX7_nearer 29 = .ok (.iconst 1, 1) := by decide +kernel
theorem dX7_nearer_30 : decode cX7_nearer 30 = .ok (.goto 4, 3) := by decide +kernel
theorem dX7_nearer_33 : decode cX7_nearer 33 = .ok (.iconst 2, 1) := by decide +kernel
theorem dX7_nearer_34 : decode cX7_nearer 34 = .ok (.ireturn, 1) := by decide +kernel
theorem dX7_lies_0 : decode cX7_lies 0 = .ok (.aload_n 0, 1) := by decide +kernel
theorem dX7_lies_1 : decode cX7_lies 1 = .ok (.iload_n 1, 1) := by decide +kernel
theorem dX7_lies_2 : decode cX7_lies 2 = .ok (.iconst 1, 1) := by decide +kernel
theorem dX7_lies_3 : decode cX7_lies 3 = .ok (.invokevirtual 142, 3) := by decide +kernel
theorem dX7_lies_6 : decode cX7_lies 6 = .ok (.istore_n 2, 1) := by decide +kernel
theorem dX7_lies_7 : decode cX7_lies 7 = .ok (.aload_n 0, 1) := by decide +kernel
theorem dX7_lies_8 : decode cX7_lies 8 = .ok (.getfield 19, 3) := by decide +kernel
theorem dX7_lies_11 : decode cX7_lies 11 = .ok (.bipush 27, 2) := by decide +kernel
theorem dX7_lies_13 : decode cX7_lies 13 = .ok (.iload_n 1, 1) := by decide +kernel
theorem dX7_lies_14 : decode cX7_lies 14 = .ok (.iadd, 1) := by decide +kernel
theorem dX7_lies_15 : decode cX7_lies 15 = .ok (.iaload, 1) := by decide +kernel
theorem dX7_lies_16 : decode cX7_lies 16 = .ok (.iconst 5, 1) := by decide +kernel
theorem dX7_lies_17 : decode cX7_lies 17 = .ok (.if_icmp .lt 7, 3) := by decide +kernel
theorem dX7_lies_20 : decode cX7_lies 20 = .ok (.iconst 0, 1) := by decide +kernel
theorem dX7_lies_21 : decode cX7_lies 21 = .ok (.goto 4, 3) := by decide +kernel
theorem dX7_lies_24 : decode cX7_lies 24 = .ok (.iconst 1, 1) := by decide +kernel
theorem dX7_lies_25 : decode cX7_lies 25 = .ok (.istore_n 3, 1) := by decide +kernel
theorem dX7_lies_26 : decode cX7_lies 26 = .ok (.aload_n 0, 1) := by decide +kernel
theorem dX7_lies_27 : decode cX7_lies 27 = .ok (.getfield 19, 3) := by decide +kernel
theorem dX7_lies_30 : decode cX7_lies 30 = .ok (.bipush 9, 2) := by decide +kernel
theorem dX7_lies_32 : decode cX7_lies 32 = .ok (.iload_n 1, 1) := by decide +kernel
theorem dX7_lies_33 : decode cX7_lies 33 = .ok (.iadd, 1) := by decide +kernel
theorem dX7_lies_34 : decode cX7_lies 34 = .ok (.iaload, 1) := by decide +kernel
theorem dX7_lies_35 : decode cX7_lies 35 = .ok (.tableswitch 53 1 4 #[29, 31, 38, 51], 29) := by decide +kernel
theorem dX7_lies_64 : decode cX7_lies 64 = .ok (.iload_n 2, 1) := by decide +kernel
theorem dX7_lies_65 : decode cX7_lies 65 = .ok (.ireturn, 1) := by decide +kernel
theorem dX7_lies_66 : decode cX7_lies 66 = .ok (.aload_n 0, 1) := by decide +kernel
theorem dX7_lies_67 : decode cX7_lies 67 = .ok (.iload_n 1, 1) := by decide +kernel
theorem dX7_lies_68 : decode cX7_lies 68 = .ok (.iconst 2, 1) := by decide +kernel
theorem dX7_lies_69 : decode cX7_lies 69 = .ok (.invokevirtual 142, 3) := by decide +kernel
theorem dX7_lies_72 : decode cX7_lies 72 = .ok (.ireturn, 1) := by decide +kernel
theorem dX7_lies_73 : decode cX7_lies 73 = .ok (.iload_n 2, 1) := by decide +kernel
theorem dX7_lies_74 : decode cX7_lies 74 = .ok (.iconst 2, 1) := by decide +kernel
theorem dX7_lies_75 : decode cX7_lies 75 = .ok (.if_icmp .ne 7, 3) := by decide +kernel
theorem dX7_lies_78 : decode cX7_lies 78 = .ok (.iconst 2, 1) := by decide +kernel
theorem dX7_lies_79 : decode cX7_lies 79 = .ok (.goto 6, 3) := by decide +kernel
theorem dX7_lies_82 : decode cX7_lies 82 = .ok (.iconst 1, 1) := by decide +kernel
theorem dX7_lies_83 : decode cX7_lies 83 = .ok (.iload_n 2, 1) := by decide +kernel
theorem dX7_lies_84 : decode cX7_lies 84 = .ok (.isub, 1) := by decide +kernel
theorem dX7_lies_85 : decode cX7_lies 85 = .ok (.ireturn, 1) := by decide +kernel
theorem dX7_lies_86 : decode cX7_lies 86 = .ok (.iload_n 3, 1) := by decide +kernel
theorem dX7_lies_87 : decode cX7_lies 87 = .ok (.ireturn, 1) := by decide +kernel
theorem dX7_lies_88 : decode cX7_lies 88 = .ok (.aload_n 0, 1) := by decide +kernel
theorem dX7_lies_89 : decode cX7_lies 89 = .ok (.getfield 19, 3) := by decide +kernel
theorem dX7_lies_92 : decode cX7_lies 92 = .ok (.bipush 18, 2) := by decide +kernel
theorem dX7_lies_94 : decode cX7_lies 94 = .ok (.iload_n 1, 1) := by decide +kernel
theorem dX7_lies_95 : decode cX7_lies 95 = .ok (.iadd, 1) := by decide +kernel
theorem dX7_lies_96 : decode cX7_lies 96 = .ok (.iaload, 1) := by decide +kernel
theorem dX7_lies_97 : decode cX7_lies 97 = .ok (.bipush 10, 2) := by decide +kernel
theorem dX7_lies_99 : decode cX7_lies 99 = .ok (.if_icmp .ge 7, 3) := by decide +kernel
theorem dX7_lies_102 : decode cX7_lies 102 = .ok (.iconst 2, 1) := by decide +kernel
theorem dX7_lies_103 : decode cX7_lies 103 = .ok (.goto 4, 3) := by decide +kernel
theorem dX7_lies_106 : decode cX7_lies 106 = .ok (.iload_n 3, 1) := by decide +kernel
theorem dX7_lies_107 : decode cX7_lies 107 = .ok (.ireturn, 1) := by decide +kernel
theorem dX7_hasVeto_0 : decode cX7_hasVeto 0 = .ok (.aload_n 0, 1) := by decide +kernel
theorem dX7_hasVeto_1 : decode cX7_hasVeto 1 = .ok (.getfield 19, 3) := by decide +kernel
theorem dX7_hasVeto_4 : decode cX7_hasVeto 4 = .ok (.iconst 5, 1) := by decide +kernel
theorem dX7_hasVeto_5 : decode cX7_hasVeto 5 = .ok (.iaload, 1) := by decide +kernel
theorem dX7_hasVeto_6 : decode cX7_hasVeto 6 = .ok (.iload_n 1, 1) := by decide +kernel
theorem dX7_hasVeto_7 : decode cX7_hasVeto 7 = .ok (.invokestatic 145, 3) := by decide +kernel
theorem dX7_hasVeto_10 : decode cX7_hasVeto 10 = .ok (.ireturn, 1) := by decide +kernel
theorem dX7_rakeBy_0 : decode cX7_rakeBy 0 = .ok (.iconst 3, 1) := by decide +kernel
theorem dX7_rakeBy_1 : decode cX7_rakeBy 1 = .ok (.iload_n 2, 1) := by decide +kernel
theorem dX7_rakeBy_2 : decode cX7_rakeBy 2 = .ok (.imul, 1) := by decide +kernel
theorem dX7_rakeBy_3 : decode cX7_rakeBy 3 = .ok (.iconst 4, 1) := by decide +kernel
theorem dX7_rakeBy_4 : decode cX7_rakeBy 4 = .ok (.idiv, 1) := by decide +kernel
theorem dX7_rakeBy_5 : decode cX7_rakeBy 5 = .ok (.istore_n 3, 1) := by decide +kernel
theorem dX7_rakeBy_6 : decode cX7_rakeBy 6 = .ok (.aload_n 0, 1) := by decide +kernel
theorem dX7_rakeBy_7 : decode cX7_rakeBy 7 = .ok (.getfield 19, 3) := by decide +kernel
theorem dX7_rakeBy_10 : decode cX7_rakeBy 10 = .ok (.bipush 6, 2) := by decide +kernel
theorem dX7_rakeBy_12 : decode cX7_rakeBy 12 = .ok (.aload_n 0, 1) := by decide +kernel
theorem dX7_rakeBy_13 : decode cX7_rakeBy 13 = .ok (.iload_n 1, 1) := by decide +kernel
theorem dX7_rakeBy_14 : decode cX7_rakeBy 14 = .ok (.invokevirtual 149, 3) := by decide +kernel
theorem dX7_rakeBy_17 : decode cX7_rakeBy 17 = .ok (.iadd, 1) := by decide +kernel
theorem dX7_rakeBy_18 : decode cX7_rakeBy 18 = .ok (.dup2, 1) := by decide +kernel
theorem dX7_rakeBy_19 : decode cX7_rakeBy 19 = .ok (.iaload, 1) := by decide +kernel
theorem dX7_rakeBy_20 : decode cX7_rakeBy 20 = .ok (.iload_n 3, 1) := by decide +kernel
theorem dX7_rakeBy_21 : decode cX7_rakeBy 21 = .ok (.iadd, 1) := by decide +kernel
theorem dX7_rakeBy_22 : decode cX7_rakeBy 22 = .ok (.iastore, 1) := by decide +kernel
theorem dX7_rakeBy_23 : decode cX7_rakeBy 23 = .ok (.aload_n 0, 1) := by decide +kernel
theorem dX7_rakeBy_24 : decode cX7_rakeBy 24 = .ok (.getfield 19, 3) := by decide +kernel
theorem dX7_rakeBy_27 : decode cX7_rakeBy 27 = .ok (.bipush 18, 2) := by decide +kernel
theorem dX7_rakeBy_29 : decode cX7_rakeBy 29 = .ok (.iload_n 1, 1) := by decide +kernel
theorem dX7_rakeBy_30 : decode cX7_rakeBy 30 = .ok (.iadd, 1) := by decide +kernel
theorem dX7_rakeBy_31 : decode cX7_rakeBy 31 = .ok (.dup2, 1) := by decide +kernel
theorem dX7_rakeBy_32 : decode cX7_rakeBy 32 = .ok (.iaload, 1) := by decide +kernel
theorem dX7_rakeBy_33 : decode cX7_rakeBy 33 = .ok (.iload_n 3, 1) := by decide +kernel
theorem dX7_rakeBy_34 : decode cX7_rakeBy 34 = .ok (.isub, 1) := by decide +kernel
theorem dX7_rakeBy_35 : decode cX7_rakeBy 35 = .ok (.iastore, 1) := by decide +kernel
theorem dX7_rakeBy_36 : decode cX7_rakeBy 36 = .ok (.return_, 1) := by decide +kernel
theorem dX7_oneTide_0 : decode cX7_oneTide 0 = .ok (.iconst 0, 1) := by decide +kernel
theorem dX7_oneTide_1 : decode cX7_oneTide 1 = .ok (.istore_n 1, 1) := by decide +kernel
theorem dX7_oneTide_2 : decode cX7_oneTide 2 = .ok (.iload_n 1, 1) := by decide +kernel
theorem dX7_oneTide_3 : decode cX7_oneTide 3 = .ok (.aload_n 0, 1) := by decide +kernel
theorem dX7_oneTide_4 : decode cX7_oneTide 4 = .ok (.getfield 19, 3) := by decide +kernel
theorem dX7_oneTide_7 : decode cX7_oneTide 7 = .ok (.iconst 0, 1) := by decide +kernel
theorem dX7_oneTide_8 : decode cX7_oneTide 8 = .ok (.iaload, 1) := by decide +kernel
theorem dX7_oneTide_9 : decode cX7_oneTide 9 = .ok (.if_icmp .ge 113, 3) := by decide +kernel
theorem dX7_oneTide_12 : decode cX7_oneTide 12 = .ok (.aload_n 0, 1) := by decide +kernel
theorem dX7_oneTide_13 : decode cX7_oneTide 13 = .ok (.getfield 19, 3) := by decide +kernel
theorem dX7_oneTide_16 : decode cX7_oneTide 16 = .ok (.bipush 27, 2) := by decide +kernel
theorem dX7_oneTide_18 : decode cX7_oneTide 18 = .ok (.iload_n 1, 1) := by decide +kernel
theorem dX7_oneTide_19 : decode cX7_oneTide 19 = .ok (.iadd, 1) := by decide +kernel
theorem dX7_oneTide_20 : decode cX7_oneTide 20 = .ok (.iaload, 1) := by decide +kernel
theorem dX7_oneTide_21 : decode cX7_oneTide 21 = .ok (.iconst 1, 1) := by decide +kernel
theorem dX7_oneTide_22 : decode cX7_oneTide 22 = .ok (.iadd, 1) := by decide +kernel
theorem dX7_oneTide_23 : decode cX7_oneTide 23 = .ok (.iconst 2, 1) := by decide +kernel
theorem dX7_oneTide_24 : decode cX7_oneTide 24 = .ok (.idiv, 1) := by decide +kernel
theorem dX7_oneTide_25 : decode cX7_oneTide 25 = .ok (.aload_n 0, 1) := by decide +kernel
theorem dX7_oneTide_26 : decode cX7_oneTide 26 = .ok (.iload_n 1, 1) := by decide +kernel
theorem dX7_oneTide_27 : decode cX7_oneTide 27 = .ok (.invokevirtual 149, 3) := by decide +kernel
theorem dX7_oneTide_30 : decode cX7_oneTide 30 = .ok (.iconst 2, 1) := by decide +kernel
theorem dX7_oneTide_31 : decode cX7_oneTide 31 = .ok (.if_icmp .ne 12, 3) := by decide +kernel
theorem dX7_oneTide_34 : decode cX7_oneTide 34 = .ok (.aload_n 0, 1) := by decide +kernel
theorem dX7_oneTide_35 : decode cX7_oneTide 35 = .ok (.getfield 19, 3) := by decide +kernel
theorem dX7_oneTide_38 : decode cX7_oneTide 38 = .ok (.iconst 3, 1) := by decide +kernel
theorem dX7_oneTide_39 : decode cX7_oneTide 39 = .ok (.iaload, 1) := by decide +kernel
theorem dX7_oneTide_40 : decode cX7_oneTide 40 = .ok (.goto 4, 3) := by decide +kernel
theorem dX7_oneTide_43 : decode cX7_oneTide 43 = .ok (.iconst 0, 1) := by decide +kernel
theorem dX7_oneTide_44 : decode cX7_oneTide 44 = .ok (.iadd, 1) := by decide +kernel
theorem dX7_oneTide_45 : decode cX7_oneTide 45 = .ok (.istore_n 2, 1) := by decide +kernel
theorem dX7_oneTide_46 : decode cX7_oneTide 46 = .ok (.aload_n 0, 1) := by decide +kernel
theorem dX7_oneTide_47 : decode cX7_oneTide 47 = .ok (.getfield 19, 3) := by decide +kernel
theorem dX7_oneTide_50 : decode cX7_oneTide 50 = .ok (.bipush 18, 2) := by decide +kernel
theorem dX7_oneTide_52 : decode cX7_oneTide 52 = .ok (.iload_n 1, 1) := by decide +kernel
theorem dX7_oneTide_53 : decode cX7_oneTide 53 = .ok (.iadd, 1) := by decide +kernel
theorem dX7_oneTide_54 : decode cX7_oneTide 54 = .ok (.iaload, 1) := by decide +kernel
theorem dX7_oneTide_55 : decode cX7_oneTide 55 = .ok (.iload_n 2, 1) := by decide +kernel
theorem dX7_oneTide_56 : decode cX7_oneTide 56 = .ok (.iadd, 1) := by decide +kernel
theorem dX7_oneTide_57 : decode cX7_oneTide 57 = .ok (.istore_n 3, 1) := by decide +kernel
theorem dX7_oneTide_58 : decode cX7_oneTide 58 = .ok (.aload_n 0, 1) := by decide +kernel
theorem dX7_oneTide_59 : decode cX7_oneTide 59 = .ok (.getfield 19, 3) := by decide +kernel
theorem dX7_oneTide_62 : decode cX7_oneTide 62 = .ok (.bipush 18, 2) := by decide +kernel
theorem dX7_oneTide_64 : decode cX7_oneTide 64 = .ok (.iload_n 1, 1) := by decide +kernel
theorem dX7_oneTide_65 : decode cX7_oneTide 65 = .ok (.iadd, 1) := by decide +kernel
theorem dX7_oneTide_66 : decode cX7_oneTide 66 = .ok (.iload_n 3, 1) := by decide +kernel
theorem dX7_oneTide_67 : decode cX7_oneTide 67 = .ok (.bipush 99, 2) := by decide +kernel
theorem dX7_oneTide_69 : decode cX7_oneTide 69 = .ok (.if_icmp .le 8, 3) := by decide +kernel
theorem dX7_oneTide_72 : decode cX7_oneTide 72 = .ok (.bipush 99, 2) := by decide +kernel
theorem dX7_oneTide_74 : decode cX7_oneTide 74 = .ok (.goto 4, 3) := by decide +kernel
theorem dX7_oneTide_77 : decode cX7_oneTide 77 = .ok (.iload_n 3, 1) := by decide +kernel
theorem dX7_oneTide_78 : decode cX7_oneTide 78 = .ok (.iastore, 1) := by decide +kernel
theorem dX7_oneTide_79 : decode cX7_oneTide 79 = .ok (.aload_n 0, 1) := by decide +kernel
theorem dX7_oneTide_80 : decode cX7_oneTide 80 = .ok (.getfield 19, 3) := by decide +kernel
theorem dX7_oneTide_83 : decode cX7_oneTide 83 = .ok (.iconst 4, 1) := by decide +kernel
theorem dX7_oneTide_84 : decode cX7_oneTide 84 = .ok (.iaload, 1) := by decide +kernel
theorem dX7_oneTide_85 : decode cX7_oneTide 85 = .ok (.iconst 2, 1) := by decide +kernel
theorem dX7_oneTide_86 : decode cX7_oneTide 86 = .ok (.irem, 1) := by decide +kernel
theorem dX7_oneTide_87 : decode cX7_oneTide 87 = .ok (.iconst 1, 1) := by decide +kernel
theorem dX7_oneTide_88 : decode cX7_oneTide 88 = .ok (.if_icmp .ne 28, 3) := by decide +kernel
theorem dX7_oneTide_91 : decode cX7_oneTide 91 = .ok (.aload_n 0, 1) := by decide +kernel
theorem dX7_oneTide_92 : decode cX7_oneTide 92 = .ok (.getfield 19, 3) := by decide +kernel
theorem dX7_oneTide_95 : decode cX7_oneTide 95 = .ok (.bipush 27, 2) := by decide +kernel
theorem dX7_oneTide_97 : decode cX7_oneTide 97 = .ok (.iload_n 1, 1) := by decide +kernel
theorem dX7_oneTide_98 : decode cX7_oneTide 98 = .ok (.iadd, 1) := by decide +kernel
theorem dX7_oneTide_99 : decode cX7_oneTide 99 = .ok (.iaload, 1) := by decide +kernel
theorem dX7_oneTide_100 : decode cX7_oneTide 100 = .ok (.ifCond .le 16, 3) := by decide +kernel
theorem dX7_oneTide_103 : decode cX7_oneTide 103 = .ok (.aload_n 0, 1) := by decide +kernel
theorem dX7_oneTide_104 : decode cX7_oneTide 104 = .ok (.getfield 19, 3) := by decide +kernel
theorem dX7_oneTide_107 : decode cX7_oneTide 107 = .ok (.bipush 27, 2) := by decide +kernel
theorem dX7_oneTide_109 : decode cX7_oneTide 109 = .ok (.iload_n 1, 1) := by decide +kernel
theorem dX7_oneTide_110 : decode cX7_oneTide 110 = .ok (.iadd, 1) := by decide +kernel
theorem dX7_oneTide_111 : decode cX7_oneTide 111 = .ok (.dup2, 1) := by decide +kernel
theorem dX7_oneTide_112 : decode cX7_oneTide 112 = .ok (.iaload, 1) := by decide +kernel
theorem dX7_oneTide_113 : decode cX7_oneTide 113 = .ok (.iconst 1, 1) := by decide +kernel
theorem dX7_oneTide_114 : decode cX7_oneTide 114 = .ok (.isub, 1) := by decide +kernel
theorem dX7_oneTide_115 : decode cX7_oneTide 115 = .ok (.iastore, 1) := by decide +kernel
theorem dX7_oneTide_116 : decode cX7_oneTide 116 = .ok (.iinc 1 1, 3) := by decide +kernel
theorem dX7_oneTide_119 : decode cX7_oneTide 119 = .ok (.goto (-117), 3) := by decide +kernel
theorem dX7_oneTide_122 : decode cX7_oneTide 122 = .ok (.aload_n 0, 1) := by decide +kernel
theorem dX7_oneTide_123 : decode cX7_oneTide 123 = .ok (.getfield 19, 3) := by decide +kernel
theorem dX7_oneTide_126 : decode cX7_oneTide 126 = .ok (.iconst 4, 1) := by decide +kernel
theorem dX7_oneTide_127 : decode cX7_oneTide 127 = .ok (.dup2, 1) := by decide +kernel
theorem dX7_oneTide_128 : decode cX7_oneTide 128 = .ok (.iaload, 1) := by decide +kernel
theorem dX7_oneTide_129 : decode cX7_oneTide 129 = .ok (.iconst 1, 1) := by decide +kernel
theorem dX7_oneTide_130 : decode cX7_oneTide 130 = .ok (.iadd, 1) := by decide +kernel
theorem dX7_oneTide_131 : decode cX7_oneTide 131 = .ok (.iastore, 1) := by decide +kernel
theorem dX7_oneTide_132 : decode cX7_oneTide 132 = .ok (.return_, 1) := by decide +kernel
theorem dX7_allSizes_0 : decode cX7_allSizes 0 = .ok (.iconst 0, 1) := by decide +kernel
theorem dX7_allSizes_1 : decode cX7_allSizes 1 = .ok (.istore_n 1, 1) := by decide +kernel
theorem dX7_allSizes_2 : decode cX7_allSizes 2 = .ok (.iconst 0, 1) := by decide +kernel
theorem dX7_allSizes_3 : decode cX7_allSizes 3 = .ok (.istore_n 2, 1) := by decide +kernel
theorem dX7_allSizes_4 : decode cX7_allSizes 4 = .ok (.iload_n 2, 1) := by decide +kernel
theorem dX7_allSizes_5 : decode cX7_allSizes 5 = .ok (.aload_n 0, 1) := by decide +kernel
theorem dX7_allSizes_6 : decode cX7_allSizes 6 = .ok (.getfield 19, 3) := by decide +kernel
theorem dX7_allSizes_9 : decode cX7_allSizes 9 = .ok (.iconst 0, 1) := by decide +kernel
theorem dX7_allSizes_10 : decode cX7_allSizes 10 = .ok (.iaload, 1) := by decide +kernel
theorem dX7_allSizes_11 : decode cX7_allSizes 11 = .ok (.if_icmp .ge 21, 3) := by decide +kernel
theorem dX7_allSizes_14 : decode cX7_allSizes 14 = .ok (.iload_n 1, 1) := by decide +kernel
theorem dX7_allSizes_15 : decode cX7_allSizes 15 = .ok (.aload_n 0, 1) := by decide +kernel
theorem dX7_allSizes_16 : decode cX7_allSizes 16 = .ok (.getfield 19, 3) := by decide +kernel
theorem dX7_allSizes_19 : decode cX7_allSizes 19 = .ok (.bipush 18, 2) := by decide +kernel
theorem dX7_allSizes_21 : decode cX7_allSizes 21 = .ok (.iload_n 2, 1) := by decide +kernel
theorem dX7_allSizes_22 : decode cX7_allSizes 22 = .ok (.iadd, 1) := by decide +kernel
theorem dX7_allSizes_23 : decode cX7_allSizes 23 = .ok (.iaload, 1) := by decide +kernel
theorem dX7_allSizes_24 : decode cX7_allSizes 24 = .ok (.iadd, 1) := by decide +kernel
theorem dX7_allSizes_25 : decode cX7_allSizes 25 = .ok (.istore_n 1, 1) := by decide +kernel
theorem dX7_allSizes_26 : decode cX7_allSizes 26 = .ok (.iinc 2 1, 3) := by decide +kernel
theorem dX7_allSizes_29 : decode cX7_allSizes 29 = .ok (.goto (-25), 3) := by decide +kernel
theorem dX7_allSizes_32 : decode cX7_allSizes 32 = .ok (.iload_n 1, 1) := by decide +kernel
theorem dX7_allSizes_33 : decode cX7_allSizes 33 = .ok (.ireturn, 1) := by decide +kernel
theorem dX7_note_0 : decode cX7_note 0 = .ok (.aload_n 0, 1) := by decide +kernel
theorem dX7_note_1 : decode cX7_note 1 = .ok (.getfield 136, 3) := by decide +kernel
theorem dX7_note_4 : decode cX7_note 4 = .ok (.bipush 24, 2) := by decide +kernel
theorem dX7_note_6 : decode cX7_note 6 = .ok (.if_icmp .ne 43, 3) := by decide +kernel
theorem dX7_note_9 : decode cX7_note 9 = .ok (.iconst 0, 1) := by decide +kernel
theorem dX7_note_10 : decode cX7_note 10 = .ok (.istore_n 1, 1) := by decide +kernel
theorem dX7_note_11 : decode cX7_note 11 = .ok (.iload_n 1, 1) := by decide +kernel
theorem dX7_note_12 : decode cX7_note 12 = .ok (.sipush 828, 3) := by decide +kernel
theorem dX7_note_15 : decode cX7_note 15 = .ok (.if_icmp .ge 24, 3) := by decide +kernel
theorem dX7_note_18 : decode cX7_note 18 = .ok (.aload_n 0, 1) := by decide +kernel
theorem dX7_note_19 : decode cX7_note 19 = .ok (.getfield 31, 3) := by decide +kernel
theorem dX7_note_22 : decode cX7_note 22 = .ok (.iload_n 1, 1) := by decide +kernel
theorem dX7_note_23 : decode cX7_note 23 = .ok (.aload_n 0, 1) := by decide +kernel
theorem dX7_note_24 : decode cX7_note 24 = .ok (.getfield 31, 3) := by decide +kernel
theorem dX7_note_27 : decode cX7_note 27 = .ok (.iload_n 1, 1) := by decide +kernel
theorem dX7_note_28 : decode cX7_note 28 = .ok (.bipush 36, 2) := by decide +kernel
theorem dX7_note_30 : decode cX7_note 30 = .ok (.iadd, 1) := by decide +kernel
theorem dX7_note_31 : decode cX7_note 31 = .ok (.iaload, 1) := by decide +kernel
theorem dX7_note_32 : decode cX7_note 32 = .ok (.iastore, 1) := by decide +kernel
theorem dX7_note_33 : decode cX7_note 33 = .ok (.iinc 1 1, 3) := by decide +kernel
theorem dX7_note_36 : decode cX7_note 36 = .ok (.goto (-25), 3) := by decide +kernel
theorem dX7_note_39 : decode cX7_note 39 = .ok (.aload_n 0, 1) := by decide +kernel
theorem dX7_note_40 : decode cX7_note 40 = .ok (.dup, 1) := by decide +kernel
theorem dX7_note_41 : decode cX7_note 41 = .ok (.getfield 136, 3) := by decide +kernel
theorem dX7_note_44 : decode cX7_note 44 = .ok (.iconst 1, 1) := by decide +kernel
theorem dX7_note_45 : decode cX7_note 45 = .ok (.isub, 1) := by decide +kernel
theorem dX7_note_46 : decode cX7_note 46 = .ok (.putfield 136, 3) := by decide +kernel
theorem dX7_note_49 : decode cX7_note 49 = .ok (.iconst 0, 1) := by decide +kernel
theorem dX7_note_50 : decode cX7_note 50 = .ok (.istore_n 1, 1) := by decide +kernel
theorem dX7_note_51 : decode cX7_note 51 = .ok (.iload_n 1, 1) := by decide +kernel
theorem dX7_note_52 : decode cX7_note 52 = .ok (.bipush 36, 2) := by decide +kernel
theorem dX7_note_54 : decode cX7_note 54 = .ok (.if_icmp .ge 29, 3) := by decide +kernel
theorem dX7_note_57 : decode cX7_note 57 = .ok (.aload_n 0, 1) := by decide +kernel
theorem dX7_note_58 : decode cX7_note 58 = .ok (.getfield 31, 3) := by decide +kernel
theorem dX7_note_61 : decode cX7_note 61 = .ok (.bipush 36, 2) := by decide +kernel
theorem dX7_note_63 : decode cX7_note 63 = .ok (.aload_n 0, 1) := by decide +kernel
theorem dX7_note_64 : decode cX7_note 64 = .ok (.getfield 136, 3) := by decide +kernel
theorem dX7_note_67 : decode cX7_note 67 = .ok (.imul, 1) := by decide +kernel
theorem dX7_note_68 : decode cX7_note 68 = .ok (.iload_n 1, 1) := by decide +kernel
theorem dX7_note_69 : decode cX7_note 69 = .ok (.iadd, 1) := by decide +kernel
theorem dX7_note_70 : decode cX7_note 70 = .ok (.aload_n 0, 1) := by decide +kernel
theorem dX7_note_71 : decode cX7_note 71 = .ok (.getfield 19, 3) := by decide +kernel
theorem dX7_note_74 : decode cX7_note 74 = .ok (.iload_n 1, 1) := by decide +kernel
theorem dX7_note_75 : decode cX7_note 75 = .ok (.iaload, 1) := by decide +kernel
theorem dX7_note_76 : decode cX7_note 76 = .ok (.iastore, 1) := by decide +kernel
theorem dX7_note_77 : decode cX7_note 77 = .ok (.iinc 1 1, 3) := by decide +kernel
theorem dX7_note_80 : decode cX7_note 80 = .ok (.goto (-29), 3) := by decide +kernel
theorem dX7_note_83 : decode cX7_note 83 = .ok (.aload_n 0, 1) := by decide +kernel
theorem dX7_note_84 : decode cX7_note 84 = .ok (.dup, 1) := by decide +kernel
theorem dX7_note_85 : decode cX7_note 85 = .ok (.getfield 136, 3) := by decide +kernel
theorem dX7_note_88 : decode cX7_note 88 = .ok (.iconst 1, 1) := by decide +kernel
theorem dX7_note_89 : decode cX7_note 89 = .ok (.iadd, 1) := by decide +kernel
theorem dX7_note_90 : decode cX7_note 90 = .ok (.putfield 136, 3) := by decide +kernel
theorem dX7_note_93 : decode cX7_note 93 = .ok (.return_, 1) := by decide +kernel
theorem dX7_undo_0 : decode cX7_undo 0 = .ok (.aload_n 0, 1) := by decide +kernel
theorem dX7_undo_1 : decode cX7_undo 1 = .ok (.getfield 136, 3) := by decide +kernel
theorem dX7_undo_4 : decode cX7_undo 4 = .ok (.ifCond .ne 6, 3) := by decide +kernel
theorem dX7_undo_7 : decode cX7_undo 7 = .ok (.ldc 152, 2) := by decide +kernel
theorem dX7_undo_9 : decode cX7_undo 9 = .ok (.ireturn, 1) := by decide +kernel
theorem dX7_undo_10 : decode cX7_undo 10 = .ok (.aload_n 0, 1) := by decide +kernel
theorem dX7_undo_11 : decode cX7_undo 11 = .ok (.dup, 1) := by decide +kernel
theorem dX7_undo_12 : decode cX7_undo 12 = .ok (.getfield 136, 3) := by decide +kernel
theorem dX7_undo_15 : decode cX7_undo 15 = .ok (.iconst 1, 1) := by decide +kernel
theorem dX7_undo_16 : decode cX7_undo 16 = .ok (.isub, 1) := by decide +kernel
theorem dX7_undo_17 : decode cX7_undo 17 = .ok (.putfield 136, 3) := by decide +kernel
theorem dX7_undo_20 : decode cX7_undo 20 = .ok (.iconst 0, 1) := by decide +kernel
theorem dX7_undo_21 : decode cX7_undo 21 = .ok (.istore_n 1, 1) := by decide +kernel
theorem dX7_undo_22 : decode cX7_undo 22 = .ok (.iload_n 1, 1) := by decide +kernel
theorem dX7_undo_23 : decode cX7_undo 23 = .ok (.bipush 36, 2) := by decide +kernel
theorem dX7_undo_25 : decode cX7_undo 25 = .ok (.if_icmp .ge 29, 3) := by decide +kernel
theorem dX7_undo_28 : decode cX7_undo 28 = .ok (.aload_n 0, 1) := by decide +kernel
theorem dX7_undo_29 : decode cX7_undo 29 = .ok (.getfield 19, 3) := by decide +kernel
theorem dX7_undo_32 : decode cX7_undo 32 = .ok (.iload_n 1, 1) := by decide +kernel
theorem dX7_undo_33 : decode cX7_undo 33 = .ok (.aload_n 0, 1) := by decide +kernel
theorem dX7_undo_34 : decode cX7_undo 34 = .ok (.getfield 31, 3) := by decide +kernel
theorem dX7_undo_37 : decode cX7_undo 37 = .ok (.bipush 36, 2) := by decide +kernel
theorem dX7_undo_39 : decode cX7_undo 39 = .ok (.aload_n 0, 1) := by decide +kernel
theorem dX7_undo_40 : decode cX7_undo 40 = .ok (.getfield 136, 3) := by decide +kernel
theorem dX7_undo_43 : decode cX7_undo 43 = .ok (.imul, 1) := by decide +kernel
theorem dX7_undo_44 : decode cX7_undo 44 = .ok (.iload_n 1, 1) := by decide +kernel
theorem dX7_undo_45 : decode cX7_undo 45 = .ok (.iadd, 1) := by decide +kernel
theorem dX7_undo_46 : decode cX7_undo 46 = .ok (.iaload, 1) := by decide +kernel
theorem dX7_undo_47 : decode cX7_undo 47 = .ok (.iastore, 1) := by decide +kernel
theorem dX7_undo_48 : decode cX7_undo 48 = .ok (.iinc 1 1, 3) := by decide +kernel
theorem dX7_undo_51 : decode cX7_undo 51 = .ok (.goto (-29), 3) := by decide +kernel
theorem dX7_undo_54 : decode cX7_undo 54 = .ok (.aload_n 0, 1) := by decide +kernel
theorem dX7_undo_55 : decode cX7_undo 55 = .ok (.getfield 136, 3) := by decide +kernel
theorem dX7_undo_58 : decode cX7_undo 58 = .ok (.ireturn, 1) := by decide +kernel
theorem dX7_tides_0 : decode cX7_tides 0 = .ok (.aload_n 0, 1) := by decide +kernel
theorem dX7_tides_1 : decode cX7_tides 1 = .ok (.getfield 132, 3) := by decide +kernel
theorem dX7_tides_4 : decode cX7_tides 4 = .ok (.ifCond .ne 6, 3) := by decide +kernel
theorem dX7_tides_7 : decode cX7_tides 7 = .ok (.ldc 152, 2) := by decide +kernel
theorem dX7_tides_9 : decode cX7_tides 9 = .ok (.ireturn, 1) := by decide +kernel
theorem dX7_tides_10 : decode cX7_tides 10 = .ok (.iload_n 1, 1) := by decide +kernel
theorem dX7_tides_11 : decode cX7_tides 11 = .ok (.i2l, 1) := by decide +kernel
theorem dX7_tides_12 : decode cX7_tides 12 = .ok (.lconst 1, 1) := by decide +kernel
theorem dX7_tides_13 : decode cX7_tides 13 = .ok (.ldc2_w 153, 3) := by decide +kernel
theorem dX7_tides_16 : decode cX7_tides 16 = .ok (.invokestatic 54, 3) := by decide +kernel
theorem dX7_tides_19 : decode cX7_tides 19 = .ok (.ifCond .ne 6, 3) := by decide +kernel
theorem dX7_tides_22 : decode cX7_tides 22 = .ok (.ldc 64, 2) := by decide +kernel
theorem dX7_tides_24 : decode cX7_tides 24 = .ok (.ireturn, 1) := by decide +kernel
theorem dX7_tides_25 : decode cX7_tides 25 = .ok (.aload_n 0, 1) := by decide +kernel
theorem dX7_tides_26 : decode cX7_tides 26 = .ok (.getfield 19, 3) := by decide +kernel
theorem dX7_tides_29 : decode cX7_tides 29 = .ok (.iconst 4, 1) := by decide +kernel
theorem dX7_tides_30 : decode cX7_tides 30 = .ok (.iaload, 1) := by decide +kernel
theorem dX7_tides_31 : decode cX7_tides 31 = .ok (.iload_n 1, 1) := by decide +kernel
theorem dX7_tides_32 : decode cX7_tides 32 = .ok (.iadd, 1) := by decide +kernel
theorem dX7_tides_33 : decode cX7_tides 33 = .ok (.sipush 999, 3) := by decide +kernel
theorem dX7_tides_36 : decode cX7_tides 36 = .ok (.if_icmp .le 6, 3) := by decide +kernel
theorem dX7_tides_39 : decode cX7_tides 39 = .ok (.ldc 81, 2) := by decide +kernel
theorem dX7_tides_41 : decode cX7_tides 41 = .ok (.ireturn, 1) := by decide +kernel
theorem dX7_tides_42 : decode cX7_tides 42 = .ok (.iconst 0, 1) := by decide +kernel
theorem dX7_tides_43 : decode cX7_tides 43 = .ok (.istore_n 2, 1) := by decide +kernel
theorem dX7_tides_44 : decode cX7_tides 44 = .ok (.iload_n 2, 1) := by decide +kernel
theorem dX7_tides_45 : decode cX7_tides 45 = .ok (.iload_n 1, 1) := by decide +kernel
theorem dX7_tides_46 : decode cX7_tides 46 = .ok (.if_icmp .ge 17, 3) := by decide +kernel
theorem dX7_tides_49 : decode cX7_tides 49 = .ok (.aload_n 0, 1) := by decide +kernel
theorem dX7_tides_50 : decode cX7_tides 50 = .ok (.invokevirtual 155, 3) := by decide +kernel
theorem dX7_tides_53 : decode cX7_tides 53 = .ok (.aload_n 0, 1) := by decide +kernel
theorem dX7_tides_54 : decode cX7_tides 54 = .ok (.invokevirtual 158, 3) := by decide +kernel
theorem dX7_tides_57 : decode cX7_tides 57 = .ok (.iinc 2 1, 3) := by decide +kernel
theorem dX7_tides_60 : decode cX7_tides 60 = .ok (.goto (-16), 3) := by decide +kernel
theorem dX7_tides_63 : decode cX7_tides 63 = .ok (.aload_n 0, 1) := by decide +kernel
theorem dX7_tides_64 : decode cX7_tides 64 = .ok (.invokevirtual 161, 3) := by decide +kernel
theorem dX7_tides_67 : decode cX7_tides 67 = .ok (.ireturn, 1) := by decide +kernel
theorem dX7_rake_0 : decode cX7_rake 0 = .ok (.aload_n 0, 1) := by decide +kernel
theorem dX7_rake_1 : decode cX7_rake 1 = .ok (.iload_n 1, 1) := by decide +kernel
theorem dX7_rake_2 : decode cX7_rake 2 = .ok (.invokevirtual 165, 3) := by decide +kernel
theorem dX7_rake_5 : decode cX7_rake 5 = .ok (.ifCond .eq 15, 3) := by decide +kernel
theorem dX7_rake_8 : decode cX7_rake 8 = .ok (.iload_n 2, 1) := by decide +kernel
theorem dX7_rake_9 : decode cX7_rake 9 = .ok (.i2l, 1) := by decide +kernel
theorem dX7_rake_10 : decode cX7_rake 10 = .ok (.lconst 1, 1) := by decide +kernel
theorem dX7_rake_11 : decode cX7_rake 11 = .ok (.ldc2_w 168, 3) := by decide +kernel
theorem dX7_rake_14 : decode cX7_rake 14 = .ok (.invokestatic 54, 3) := by decide +kernel
theorem dX7_rake_17 : decode cX7_rake 17 = .ok (.ifCond .ne 6, 3) := by decide +kernel
theorem dX7_rake_20 : decode cX7_rake 20 = .ok (.ldc 64, 2) := by decide +kernel
theorem dX7_rake_22 : decode cX7_rake 22 = .ok (.ireturn, 1) := by decide +kernel
theorem dX7_rake_23 : decode cX7_rake 23 = .ok (.aload_n 0, 1) := by decide +kernel
theorem dX7_rake_24 : decode cX7_rake 24 = .ok (.iload_n 1, 1) := by decide +kernel
theorem dX7_rake_25 : decode cX7_rake 25 = .ok (.invokevirtual 170, 3) := by decide +kernel
theorem dX7_rake_28 : decode cX7_rake 28 = .ok (.ifCond .ne 16, 3) := by decide +kernel
theorem dX7_rake_31 : decode cX7_rake 31 = .ok (.iload_n 2, 1) := by decide +kernel
theorem dX7_rake_32 : decode cX7_rake 32 = .ok (.aload_n 0, 1) := by decide +kernel
theorem dX7_rake_33 : decode cX7_rake 33 = .ok (.getfield 19, 3) := by decide +kernel
theorem dX7_rake_36 : decode cX7_rake 36 = .ok (.bipush 18, 2) := by decide +kernel
theorem dX7_rake_38 : decode cX7_rake 38 = .ok (.iload_n 1, 1) := by decide +kernel
theorem dX7_rake_39 : decode cX7_rake 39 = .ok (.iadd, 1) := by decide +kernel
theorem dX7_rake_40 : decode cX7_rake 40 = .ok (.iaload, 1) := by decide +kernel
theorem dX7_rake_41 : decode cX7_rake 41 = .ok (.if_icmp .le 6, 3) := by decide +kernel
theorem dX7_rake_44 : decode cX7_rake 44 = .ok (.ldc 152, 2) := by decide +kernel
theorem dX7_rake_46 : decode cX7_rake 46 = .ok (.ireturn, 1) := by decide +kernel
theorem dX7_rake_47 : decode cX7_rake 47 = .ok (.aload_n 0, 1) := by decide +kernel
theorem dX7_rake_48 : decode cX7_rake 48 = .ok (.invokevirtual 155, 3) := by decide +kernel
theorem dX7_rake_51 : decode cX7_rake 51 = .ok (.aload_n 0, 1) := by decide +kernel
theorem dX7_rake_52 : decode cX7_rake 52 = .ok (.iload_n 1, 1) := by decide +kernel
theorem dX7_rake_53 : decode cX7_rake 53 = .ok (.iload_n 2, 1) := by decide +kernel
theorem dX7_rake_54 : decode cX7_rake 54 = .ok (.invokevirtual 173, 3) := by decide +kernel
theorem dX7_rake_57 : decode cX7_rake 57 = .ok (.iconst 3, 1) := by decide +kernel
theorem dX7_rake_58 : decode cX7_rake 58 = .ok (.iload_n 2, 1) := by decide +kernel
theorem dX7_rake_59 : decode cX7_rake 59 = .ok (.imul, 1) := by decide +kernel
theorem dX7_rake_60 : decode cX7_rake 60 = .ok (.iconst 4, 1) := by decide +kernel
theorem dX7_rake_61 : decode cX7_rake 61 = .ok (.idiv, 1) := by decide +kernel
theorem dX7_rake_62 : decode cX7_rake 62 = .ok (.ireturn, 1) := by decide +kernel
theorem dX7_rain_0 : decode cX7_rain 0 = .ok (.aload_n 0, 1) := by decide +kernel
theorem dX7_rain_1 : decode cX7_rain 1 = .ok (.iload_n 1, 1) := by decide +kernel
theorem dX7_rain_2 : decode cX7_rain 2 = .ok (.invokevirtual 165, 3) := by decide +kernel
theorem dX7_rain_5 : decode cX7_rain 5 = .ok (.ifCond .eq 15, 3) := by decide +kernel
theorem dX7_rain_8 : decode cX7_rain 8 = .ok (.iload_n 2, 1) := by decide +kernel
theorem dX7_rain_9 : decode cX7_rain 9 = .ok (.i2l, 1) := by decide +kernel
theorem dX7_rain_10 : decode cX7_rain 10 = .ok (.lconst 0, 1) := by decide +kernel
theorem dX7_rain_11 : decode cX7_rain 11 = .ok (.ldc2_w 177, 3) := by decide +kernel
theorem dX7_rain_14 : decode cX7_rain 14 = .ok (.invokestatic 54, 3) := by decide +kernel
theorem dX7_rain_17 : decode cX7_rain 17 = .ok (.ifCond .ne 6, 3) := by decide +kernel
theorem dX7_rain_20 : decode cX7_rain 20 = .ok (.ldc 64, 2) := by decide +kernel
theorem dX7_rain_22 : decode cX7_rain 22 = .ok (.ireturn, 1) := by decide +kernel
theorem dX7_rain_23 : decode cX7_rain 23 = .ok (.aload_n 0, 1) := by decide +kernel
theorem dX7_rain_24 : decode cX7_rain 24 = .ok (.invokevirtual 155, 3) := by decide +kernel
theorem dX7_rain_27 : decode cX7_rain 27 = .ok (.aload_n 0, 1) := by decide +kernel
theorem dX7_rain_28 : decode cX7_rain 28 = .ok (.getfield 19, 3) := by decide +kernel
theorem dX7_rain_31 : decode cX7_rain 31 = .ok (.bipush 27, 2) := by decide +kernel
theorem dX7_rain_33 : decode cX7_rain 33 = .ok (.iload_n 1, 1) := by decide +kernel
theorem dX7_rain_34 : decode cX7_rain 34 = .ok (.iadd, 1) := by decide +kernel
theorem dX7_rain_35 : decode cX7_rain 35 = .ok (.iaload, 1) := by decide +kernel
theorem dX7_rain_36 : decode cX7_rain 36 = .ok (.istore_n 3, 1) := by decide +kernel
theorem dX7_rain_37 : decode cX7_rain 37 = .ok (.aload_n 0, 1) := by decide +kernel
theorem dX7_rain_38 : decode cX7_rain 38 = .ok (.getfield 19, 3) := by decide +kernel
theorem dX7_rain_41 : decode cX7_rain 41 = .ok (.bipush 27, 2) := by decide +kernel
theorem dX7_rain_43 : decode cX7_rain 43 = .ok (.iload_n 1, 1) := by decide +kernel
theorem dX7_rain_44 : decode cX7_rain 44 = .ok (.iadd, 1) := by decide +kernel
theorem dX7_rain_45 : decode cX7_rain 45 = .ok (.iload_n 2, 1) := by decide +kernel
theorem dX7_rain_46 : decode cX7_rain 46 = .ok (.iastore, 1) := by decide +kernel
theorem dX7_rain_47 : decode cX7_rain 47 = .ok (.iload_n 3, 1) := by decide +kernel
theorem dX7_rain_48 : decode cX7_rain 48 = .ok (.ireturn, 1) := by decide +kernel
theorem dX7_veto_0 : decode cX7_veto 0 = .ok (.aload_n 0, 1) := by decide +kernel
theorem dX7_veto_1 : decode cX7_veto 1 = .ok (.iload_n 1, 1) := by decide +kernel
theorem dX7_veto_2 : decode cX7_veto 2 = .ok (.invokevirtual 165, 3) := by decide +kernel
theorem dX7_veto_5 : decode cX7_veto 5 = .ok (.ifCond .eq 13, 3) := by decide +kernel
theorem dX7_veto_8 : decode cX7_veto 8 = .ok (.iload_n 2, 1) := by decide +kernel
theorem dX7_veto_9 : decode cX7_veto 9 = .ok (.i2l, 1) := by decide +kernel
theorem dX7_veto_10 : decode cX7_veto 10 = .ok (.lconst 0, 1) := by decide +kernel
theorem dX7_veto_11 : decode cX7_veto 11 = .ok (.lconst 1, 1) := by decide +kernel
theorem dX7_veto_12 : decode cX7_veto 12 = .ok (.invokestatic 54, 3) := by decide +kernel
theorem dX7_veto_15 : decode cX7_veto 15 = .ok (.ifCond .ne 6, 3) := by decide +kernel
theorem dX7_veto_18 : decode cX7_veto 18 = .ok (.ldc 64, 2) := by decide +kernel
theorem dX7_veto_20 : decode cX7_veto 20 = .ok (.ireturn, 1) := by decide +kernel
theorem dX7_veto_21 : decode cX7_veto 21 = .ok (.aload_n 0, 1) := by decide +kernel
theorem dX7_veto_22 : decode cX7_veto 22 = .ok (.iload_n 1, 1) := by decide +kernel
theorem dX7_veto_23 : decode cX7_veto 23 = .ok (.invokevirtual 170, 3) := by decide +kernel
theorem dX7_veto_26 : decode cX7_veto 26 = .ok (.iload_n 2, 1) := by decide +kernel
theorem dX7_veto_27 : decode cX7_veto 27 = .ok (.iconst 1, 1) := by decide +kernel
theorem dX7_veto_28 : decode cX7_veto 28 = .ok (.if_icmp .ne 7, 3) := by decide +kernel
theorem dX7_veto_31 : decode cX7_veto 31 = .ok (.iconst 1, 1) := by decide +kernel
theorem dX7_veto_32 : decode cX7_veto 32 = .ok (.goto 4, 3) := by decide +kernel
theorem dX7_veto_35 : decode cX7_veto 35 = .ok (.iconst 0, 1) := by decide +kernel
theorem dX7_veto_36 : decode cX7_veto 36 = .ok (.if_icmp .ne 6, 3) := by decide +kernel
theorem dX7_veto_39 : decode cX7_veto 39 = .ok (.ldc 152, 2) := by decide +kernel
theorem dX7_veto_41 : decode cX7_veto 41 = .ok (.ireturn, 1) := by decide +kernel
theorem dX7_veto_42 : decode cX7_veto 42 = .ok (.aload_n 0, 1) := by decide +kernel
theorem dX7_veto_43 : decode cX7_veto 43 = .ok (.invokevirtual 155, 3) := by decide +kernel
theorem dX7_veto_46 : decode cX7_veto 46 = .ok (.aload_n 0, 1) := by decide +kernel
theorem dX7_veto_47 : decode cX7_veto 47 = .ok (.getfield 19, 3) := by decide +kernel
theorem dX7_veto_50 : decode cX7_veto 50 = .ok (.iconst 5, 1) := by decide +kernel
theorem dX7_veto_51 : decode cX7_veto 51 = .ok (.dup2, 1) := by decide +kernel
theorem dX7_veto_52 : decode cX7_veto 52 = .ok (.iaload, 1) := by decide +kernel
theorem dX7_veto_53 : decode cX7_veto 53 = .ok (.iconst 1, 1) := by decide +kernel
theorem dX7_veto_54 : decode cX7_veto 54 = .ok (.iload_n 1, 1) := by decide +kernel
theorem dX7_veto_55 : decode cX7_veto 55 = .ok (.ishl, 1) := by decide +kernel
theorem dX7_veto_56 : decode cX7_veto 56 = .ok (.ixor, 1) := by decide +kernel
theorem dX7_veto_57 : decode cX7_veto 57 = .ok (.iastore, 1) := by decide +kernel
theorem dX7_veto_58 : decode cX7_veto 58 = .ok (.aload_n 0, 1) := by decide +kernel
theorem dX7_veto_59 : decode cX7_veto 59 = .ok (.getfield 19, 3) := by decide +kernel
theorem dX7_veto_62 : decode cX7_veto 62 = .ok (.iconst 5, 1) := by decide +kernel
theorem dX7_veto_63 : decode cX7_veto 63 = .ok (.iaload, 1) := by decide +kernel
theorem dX7_veto_64 : decode cX7_veto 64 = .ok (.ireturn, 1) := by decide +kernel
theorem dX7_stand_0 : decode cX7_stand 0 = .ok (.aload_n 0, 1) := by decide +kernel
theorem dX7_stand_1 : decode cX7_stand 1 = .ok (.getfield 132, 3) := by decide +kernel
theorem dX7_stand_4 : decode cX7_stand 4 = .ok (.ifCond .ne 6, 3) := by decide +kernel
theorem dX7_stand_7 : decode cX7_stand 7 = .ok (.ldc 152, 2) := by decide +kernel
theorem dX7_stand_9 : decode cX7_stand 9 = .ok (.ireturn, 1) := by decide +kernel
theorem dX7_stand_10 : decode cX7_stand 10 = .ok (.iload_n 1, 1) := by decide +kernel
theorem dX7_stand_11 : decode cX7_stand 11 = .ok (.invokestatic 179, 3) := by decide +kernel
theorem dX7_stand_14 : decode cX7_stand 14 = .ok (.ifCond .eq 15, 3) := by decide +kernel
theorem dX7_stand_17 : decode cX7_stand 17 = .ok (.iload_n 2, 1) := by decide +kernel
theorem dX7_stand_18 : decode cX7_stand 18 = .ok (.i2l, 1) := by decide +kernel
theorem dX7_stand_19 : decode cX7_stand 19 = .ok (.lconst 0, 1) := by decide +kernel
theorem dX7_stand_20 : decode cX7_stand 20 = .ok (.ldc2_w 182, 3) := by decide +kernel
theorem dX7_stand_23 : decode cX7_stand 23 = .ok (.invokestatic 54, 3) := by decide +kernel
theorem dX7_stand_26 : decode cX7_stand 26 = .ok (.ifCond .ne 6, 3) := by decide +kernel
theorem dX7_stand_29 : decode cX7_stand 29 = .ok (.ldc 64, 2) := by decide +kernel
theorem dX7_stand_31 : decode cX7_stand 31 = .ok (.ireturn, 1) := by decide +kernel
theorem dX7_stand_32 : decode cX7_stand 32 = .ok (.aload_n 0, 1) := by decide +kernel
theorem dX7_stand_33 : decode cX7_stand 33 = .ok (.invokevirtual 155, 3) := by decide +kernel
theorem dX7_stand_36 : decode cX7_stand 36 = .ok (.aload_n 0, 1) := by decide +kernel
theorem dX7_stand_37 : decode cX7_stand 37 = .ok (.getfield 19, 3) := by decide +kernel
theorem dX7_stand_40 : decode cX7_stand 40 = .ok (.iconst 1, 1) := by decide +kernel
theorem dX7_stand_41 : decode cX7_stand 41 = .ok (.iload_n 1, 1) := by decide +kernel
theorem dX7_stand_42 : decode cX7_stand 42 = .ok (.iadd, 1) := by decide +kernel
theorem dX7_stand_43 : decode cX7_stand 43 = .ok (.iaload, 1) := by decide +kernel
theorem dX7_stand_44 : decode cX7_stand 44 = .ok (.istore_n 3, 1) := by decide +kernel
theorem dX7_stand_45 : decode cX7_stand 45 = .ok (.aload_n 0, 1) := by decide +kernel
theorem dX7_stand_46 : decode cX7_stand 46 = .ok (.getfield 19, 3) := by decide +kernel
theorem dX7_stand_49 : decode cX7_stand 49 = .ok (.iconst 1, 1) := by decide +kernel
theorem dX7_stand_50 : decode cX7_stand 50 = .ok (.iload_n 1, 1) := by decide +kernel
theorem dX7_stand_51 : decode cX7_stand 51 = .ok (.iadd, 1) := by decide +kernel
theorem dX7_stand_52 : decode cX7_stand 52 = .ok (.iload_n 2, 1) := by decide +kernel
theorem dX7_stand_53 : decode cX7_stand 53 = .ok (.iastore, 1) := by decide +kernel
theorem dX7_stand_54 : decode cX7_stand 54 = .ok (.iload_n 3, 1) := by decide +kernel
theorem dX7_stand_55 : decode cX7_stand 55 = .ok (.ireturn, 1) := by decide +kernel
theorem dX7_toldOf_0 : decode cX7_toldOf 0 = .ok (.iload_n 2, 1) := by decide +kernel
theorem dX7_toldOf_1 : decode cX7_toldOf 1 = .ok (.ifCond .ne 15, 3) := by decide +kernel
theorem dX7_toldOf_4 : decode cX7_toldOf 4 = .ok (.aload_n 0, 1) := by decide +kernel
theorem dX7_toldOf_5 : decode cX7_toldOf 5 = .ok (.getfield 19, 3) := by decide +kernel
theorem dX7_toldOf_8 : decode cX7_toldOf 8 = .ok (.bipush 18, 2) := by decide +kernel
theorem dX7_toldOf_10 : decode cX7_toldOf 10 = .ok (.iload_n 1, 1) := by decide +kernel
theorem dX7_toldOf_11 : decode cX7_toldOf 11 = .ok (.iadd, 1) := by decide +kernel
theorem dX7_toldOf_12 : decode cX7_toldOf 12 = .ok (.iaload, 1) := by decide +kernel
theorem dX7_toldOf_13 : decode cX7_toldOf 13 = .ok (.goto 25, 3) := by decide +kernel
theorem dX7_toldOf_16 : decode cX7_toldOf 16 = .ok (.iload_n 2, 1) := by decide +kernel
theorem dX7_toldOf_17 : decode cX7_toldOf 17 = .ok (.iconst 1, 1) := by decide +kernel
theorem dX7_toldOf_18 : decode cX7_toldOf 18 = .ok (.if_icmp .ne 15, 3) := by decide +kernel
theorem dX7_toldOf_21 : decode cX7_toldOf 21 = .ok (.aload_n 0, 1) := by decide +kernel
theorem dX7_toldOf_22 : decode cX7_toldOf 22 = .ok (.getfield 19, 3) := by decide +kernel
theorem dX7_toldOf_25 : decode cX7_toldOf 25 = .ok (.bipush 27, 2) := by decide +kernel
theorem dX7_toldOf_27 : decode cX7_toldOf 27 = .ok (.iload_n 1, 1) := by decide +kernel
theorem dX7_toldOf_28 : decode cX7_toldOf 28 = .ok (.iadd, 1) := by decide +kernel
theorem dX7_toldOf_29 : decode cX7_toldOf 29 = .ok (.iaload, 1) := by decide +kernel
theorem dX7_toldOf_30 : decode cX7_toldOf 30 = .ok (.goto 8, 3) := by decide +kernel
theorem dX7_toldOf_33 : decode cX7_toldOf 33 = .ok (.aload_n 0, 1) := by decide +kernel
theorem dX7_toldOf_34 : decode cX7_toldOf 34 = .ok (.iload_n 1, 1) := by decide +kernel
theorem dX7_toldOf_35 : decode cX7_toldOf 35 = .ok (.invokevirtual 149, 3) := by decide +kernel
theorem dX7_toldOf_38 : decode cX7_toldOf 38 = .ok (.ireturn, 1) := by decide +kernel
theorem dX7_bed_0 : decode cX7_bed 0 = .ok (.aload_n 0, 1) := by decide +kernel
theorem dX7_bed_1 : decode cX7_bed 1 = .ok (.iload_n 1, 1) := by decide +kernel
theorem dX7_bed_2 : decode cX7_bed 2 = .ok (.invokevirtual 165, 3) := by decide +kernel
theorem dX7_bed_5 : decode cX7_bed 5 = .ok (.ifCond .eq 15, 3) := by decide +kernel
theorem dX7_bed_8 : decode cX7_bed 8 = .ok (.iload_n 2, 1) := by decide +kernel
theorem dX7_bed_9 : decode cX7_bed 9 = .ok (.i2l, 1) := by decide +kernel
theorem dX7_bed_10 : decode cX7_bed 10 = .ok (.lconst 0, 1) := by decide +kernel
theorem dX7_bed_11 : decode cX7_bed 11 = .ok (.ldc2_w 184, 3) := by decide +kernel
theorem dX7_bed_14 : decode cX7_bed 14 = .ok (.invokestatic 54, 3) := by decide +kernel
theorem dX7_bed_17 : decode cX7_bed 17 = .ok (.ifCond .ne 8, 3) := by decide +kernel
theorem dX7_bed_20 : decode cX7_bed 20 = .ok (.ldc 64, 2) := by decide +kernel
theorem dX7_bed_22 : decode cX7_bed 22 = .ok (.goto 30, 3) := by decide +kernel
theorem dX7_bed_25 : decode cX7_bed 25 = .ok (.iload_n 2, 1) := by decide +kernel
theorem dX7_bed_26 : decode cX7_bed 26 = .ok (.iconst 3, 1) := by decide +kernel
theorem dX7_bed_27 : decode cX7_bed 27 = .ok (.if_icmp .ge 12, 3) := by decide +kernel
theorem dX7_bed_30 : decode cX7_bed 30 = .ok (.aload_n 0, 1) := by decide +kernel
theorem dX7_bed_31 : decode cX7_bed 31 = .ok (.iload_n 1, 1) := by decide +kernel
theorem dX7_bed_32 : decode cX7_bed 32 = .ok (.iload_n 2, 1) := by decide +kernel
theorem dX7_bed_33 : decode cX7_bed 33 = .ok (.invokevirtual 186, 3) := by decide +kernel
theorem dX7_bed_36 : decode cX7_bed 36 = .ok (.goto 16, 3) := by decide +kernel
theorem dX7_bed_39 : decode cX7_bed 39 = .ok (.aload_n 0, 1) := by decide +kernel
theorem dX7_bed_40 : decode cX7_bed 40 = .ok (.iload_n 1, 1) := by decide +kernel
theorem dX7_bed_41 : decode cX7_bed 41 = .ok (.invokevirtual 170, 3) := by decide +kernel
theorem dX7_bed_44 : decode cX7_bed 44 = .ok (.ifCond .eq 7, 3) := by decide +kernel
theorem dX7_bed_47 : decode cX7_bed 47 = .ok (.iconst 1, 1) := by decide +kernel
theorem dX7_bed_48 : decode cX7_bed 48 = .ok (.goto 4, 3) := by decide +kernel
theorem dX7_bed_51 : decode cX7_bed 51 = .ok (.iconst 0, 1) := by decide +kernel
theorem dX7_bed_52 : decode cX7_bed 52 = .ok (.ireturn, 1) := by decide +kernel
theorem dX7_board_0 : decode cX7_board 0 = .ok (.aload_n 0, 1) := by decide +kernel
theorem dX7_board_1 : decode cX7_board 1 = .ok (.getfield 132, 3) := by decide +kernel
theorem dX7_board_4 : decode cX7_board 4 = .ok (.ifCond .ne 6, 3) := by decide +kernel
theorem dX7_board_7 : decode cX7_board 7 = .ok (.ldc 152, 2) := by decide +kernel
theorem dX7_board_9 : decode cX7_board 9 = .ok (.ireturn, 1) := by decide +kernel
theorem dX7_board_10 : decode cX7_board 10 = .ok (.iload_n 1, 1) := by decide +kernel
theorem dX7_board_11 : decode cX7_board 11 = .ok (.i2l, 1) := by decide +kernel
theorem dX7_board_12 : decode cX7_board 12 = .ok (.lconst 0, 1) := by decide +kernel
theorem dX7_board_13 : decode cX7_board 13 = .ok (.ldc2_w 189, 3) := by decide +kernel
theorem dX7_board_16 : decode cX7_board 16 = .ok (.invokestatic 54, 3) := by decide +kernel
theorem dX7_board_19 : decode cX7_board 19 = .ok (.ifCond .ne 8, 3) := by decide +kernel
theorem dX7_board_22 : decode cX7_board 22 = .ok (.ldc 64, 2) := by decide +kernel
theorem dX7_board_24 : decode cX7_board 24 = .ok (.goto 44, 3) := by decide +kernel
theorem dX7_board_27 : decode cX7_board 27 = .ok (.iload_n 1, 1) := by decide +kernel
theorem dX7_board_28 : decode cX7_board 28 = .ok (.iconst 3, 1) := by decide +kernel
theorem dX7_board_29 : decode cX7_board 29 = .ok (.if_icmp .ge 15, 3) := by decide +kernel
theorem dX7_board_32 : decode cX7_board 32 = .ok (.aload_n 0, 1) := by decide +kernel
theorem dX7_board_33 : decode cX7_board 33 = .ok (.getfield 19, 3) := by decide +kernel
theorem dX7_board_36 : decode cX7_board 36 = .ok (.bipush 6, 2) := by decide +kernel
theorem dX7_board_38 : decode cX7_board 38 = .ok (.iload_n 1, 1) := by decide +kernel
theorem dX7_board_39 : decode cX7_board 39 = .ok (.iadd, 1) := by decide +kernel
theorem dX7_board_40 : decode cX7_board 40 = .ok (.iaload, 1) := by decide +kernel
theorem dX7_board_41 : decode cX7_board 41 = .ok (.goto 27, 3) := by decide +kernel
theorem dX7_board_44 : decode cX7_board 44 = .ok (.iload_n 1, 1) := by decide +kernel
theorem dX7_board_45 : decode cX7_board 45 = .ok (.iconst 5, 1) := by decide +kernel
theorem dX7_board_46 : decode cX7_board 46 = .ok (.if_icmp .ge 16, 3) := by decide +kernel
theorem dX7_board_49 : decode cX7_board 49 = .ok (.aload_n 0, 1) := by decide +kernel
theorem dX7_board_50 : decode cX7_board 50 = .ok (.getfield 19, 3) := by decide +kernel
theorem dX7_board_53 : decode cX7_board 53 = .ok (.iconst 1, 1) := by decide +kernel
theorem dX7_board_54 : decode cX7_board 54 = .ok (.iload_n 1, 1) := by decide +kernel
theorem dX7_board_55 : decode cX7_board 55 = .ok (.iadd, 1) := by decide +kernel
theorem dX7_board_56 : decode cX7_board 56 = .ok (.iconst 3, 1) := by decide +kernel
theorem dX7_board_57 : decode cX7_board 57 = .ok (.isub, 1) := by decide +kernel
theorem dX7_board_58 : decode cX7_board 58 = .ok (.iaload, 1) := by decide +kernel
theorem dX7_board_59 : decode cX7_board 59 = .ok (.goto 9, 3) := by decide +kernel
theorem dX7_board_62 : decode cX7_board 62 = .ok (.aload_n 0, 1) := by decide +kernel
theorem dX7_board_63 : decode cX7_board 63 = .ok (.getfield 19, 3) := by decide +kernel
theorem dX7_board_66 : decode cX7_board 66 = .ok (.iconst 3, 1) := by decide +kernel
theorem dX7_board_67 : decode cX7_board 67 = .ok (.iaload, 1) := by decide +kernel
theorem dX7_board_68 : decode cX7_board 68 = .ok (.ireturn, 1) := by decide +kernel
theorem dX7_putAside_0 : decode cX7_putAside 0 = .ok (.iconst 0, 1) := by decide +kernel
theorem dX7_putAside_1 : decode cX7_putAside 1 = .ok (.istore_n 1, 1) := by decide +kernel
theorem dX7_putAside_2 : decode cX7_putAside 2 = .ok (.iload_n 1, 1) := by decide +kernel
theorem dX7_putAside_3 : decode cX7_putAside 3 = .ok (.bipush 36, 2) := by decide +kernel
theorem dX7_putAside_5 : decode cX7_putAside 5 = .ok (.if_icmp .ge 21, 3) := by decide +kernel
theorem dX7_putAside_8 : decode cX7_putAside 8 = .ok (.aload_n 0, 1) := by decide +kernel
theorem dX7_putAside_9 : decode cX7_putAside 9 = .ok (.getfield 34, 3) := by decide +kernel
theorem dX7_putAside_12 : decode cX7_putAside 12 = .ok (.iload_n 1, 1) := by decide +kernel
theorem dX7_putAside_13 : decode cX7_putAside 13 = .ok (.aload_n 0, 1) := by decide +kernel
theorem dX7_putAside_14 : decode cX7_putAside 14 = .ok (.getfield 19, 3) := by decide +kernel
theorem dX7_putAside_17 : decode cX7_putAside 17 = .ok (.iload_n 1, 1) := by decide +kernel
theorem dX7_putAside_18 : decode cX7_putAside 18 = .ok (.iaload, 1) := by decide +kernel
theorem dX7_putAside_19 : decode cX7_putAside 19 = .ok (.iastore, 1) := by decide +kernel
theorem dX7_putAside_20 : decode cX7_putAside 20 = .ok (.iinc 1 1, 3) := by decide +kernel
theorem dX7_putAside_23 : decode cX7_putAside 23 = .ok (.goto (-21), 3) := by decide +kernel
theorem dX7_putAside_26 : decode cX7_putAside 26 = .ok (.return_, 1) := by decide +kernel
theorem dX7_takeBack_0 : decode cX7_takeBack 0 = .ok (.iconst 0, 1) := by decide +kernel
theorem dX7_takeBack_1 : decode cX7_takeBack 1 = .ok (.istore_n 1, 1) := by decide +kernel
theorem dX7_takeBack_2 : decode cX7_takeBack 2 = .ok (.iload_n 1, 1) := by decide +kernel
theorem dX7_takeBack_3 : decode cX7_takeBack 3 = .ok (.bipush 36, 2) := by decide +kernel
theorem dX7_takeBack_5 : decode cX7_takeBack 5 = .ok (.if_icmp .ge 21, 3) := by decide +kernel
theorem dX7_takeBack_8 : decode cX7_takeBack 8 = .ok (.aload_n 0, 1) := by decide +kernel
theorem dX7_takeBack_9 : decode cX7_takeBack 9 = .ok (.getfield 19, 3) := by decide +kernel
theorem dX7_takeBack_12 : decode cX7_takeBack 12 = .ok (.iload_n 1, 1) := by decide +kernel
theorem dX7_takeBack_13 : decode cX7_takeBack 13 = .ok (.aload_n 0, 1) := by decide +kernel
theorem dX7_takeBack_14 : decode cX7_takeBack 14 = .ok (.getfield 34, 3) := by decide +kernel
theorem dX7_takeBack_17 : decode cX7_takeBack 17 = .ok (.iload_n 1, 1) := by decide +kernel
theorem dX7_takeBack_18 : decode cX7_takeBack 18 = .ok (.iaload, 1) := by decide +kernel
theorem dX7_takeBack_19 : decode cX7_takeBack 19 = .ok (.iastore, 1) := by decide +kernel
theorem dX7_takeBack_20 : decode cX7_takeBack 20 = .ok (.iinc 1 1, 3) := by decide +kernel
theorem dX7_takeBack_23 : decode cX7_takeBack 23 = .ok (.goto (-21), 3) := by decide +kernel
theorem dX7_takeBack_26 : decode cX7_takeBack 26 = .ok (.return_, 1) := by decide +kernel
theorem dX7_isWhat_0 : decode cX7_isWhat 0 = .ok (.iload_n 0, 1) := by decide +kernel
theorem dX7_isWhat_1 : decode cX7_isWhat 1 = .ok (.i2l, 1) := by decide +kernel
theorem dX7_isWhat_2 : decode cX7_isWhat 2 = .ok (.lconst 0, 1) := by decide +kernel
theorem dX7_isWhat_3 : decode cX7_isWhat 3 = .ok (.lconst 1, 1) := by decide +kernel
theorem dX7_isWhat_4 : decode cX7_isWhat 4 = .ok (.invokestatic 54, 3) := by decide +kernel
theorem dX7_isWhat_7 : decode cX7_isWhat 7 = .ok (.ireturn, 1) := by decide +kernel
theorem dX7_goOn_0 : decode cX7_goOn 0 = .ok (.iconst 0, 1) := by decide +kernel
theorem dX7_goOn_1 : decode cX7_goOn 1 = .ok (.istore_n 2, 1) := by decide +kernel
theorem dX7_goOn_2 : decode cX7_goOn 2 = .ok (.iload_n 2, 1) := by decide +kernel
theorem dX7_goOn_3 : decode cX7_goOn 3 = .ok (.iload_n 1, 1) := by decide +kernel
theorem dX7_goOn_4 : decode cX7_goOn 4 = .ok (.if_icmp .ge 13, 3) := by decide +kernel
theorem dX7_goOn_7 : decode cX7_goOn 7 = .ok (.aload_n 0, 1) := by decide +kernel
theorem dX7_goOn_8 : decode cX7_goOn 8 = .ok (.invokevirtual 158, 3) := by decide +kernel
theorem dX7_goOn_11 : decode cX7_goOn 11 = .ok (.iinc 2 1, 3) := by decide +kernel
theorem dX7_goOn_14 : decode cX7_goOn 14 = .ok (.goto (-12), 3) := by decide +kernel
theorem dX7_goOn_17 : decode cX7_goOn 17 = .ok (.return_, 1) := by decide +kernel
theorem dX7_ahead_0 : decode cX7_ahead 0 = .ok (.aload_n 0, 1) := by decide +kernel
theorem dX7_ahead_1 : decode cX7_ahead 1 = .ok (.iload_n 1, 1) := by decide +kernel
theorem dX7_ahead_2 : decode cX7_ahead 2 = .ok (.invokevirtual 165, 3) := by decide +kernel
theorem dX7_ahead_5 : decode cX7_ahead 5 = .ok (.ifCond .eq 27, 3) := by decide +kernel
theorem dX7_ahead_8 : decode cX7_ahead 8 = .ok (.iload_n 2, 1) := by decide +kernel
theorem dX7_ahead_9 : decode cX7_ahead 9 = .ok (.i2l, 1) := by decide +kernel
theorem dX7_ahead_10 : decode cX7_ahead 10 = .ok (.lconst 0, 1) := by decide +kernel
theorem dX7_ahead_11 : decode cX7_ahead 11 = .ok (.ldc2_w 191, 3) := by decide +kernel
theorem dX7_ahead_14 : decode cX7_ahead 14 = .ok (.invokestatic 54, 3) := by decide +kernel
theorem dX7_ahead_17 : decode cX7_ahead 17 = .ok (.ifCond .eq 15, 3) := by decide +kernel
theorem dX7_ahead_20 : decode cX7_ahead 20 = .ok (.iload_n 3, 1) := by decide +kernel
theorem dX7_ahead_21 : decode cX7_ahead 21 = .ok (.i2l, 1) := by decide +kernel
theorem dX7_ahead_22 : decode cX7_ahead 22 = .ok (.lconst 0, 1) := by decide +kernel
theorem dX7_ahead_23 : decode cX7_ahead 23 = .ok (.ldc2_w 62, 3) := by decide +kernel
theorem dX7_ahead_26 : decode cX7_ahead 26 = .ok (.invokestatic 54, 3) := by decide +kernel
theorem dX7_ahead_29 : decode cX7_ahead 29 = .ok (.ifCond .ne 6, 3) := by decide +kernel
theorem dX7_ahead_32 : decode cX7_ahead 32 = .ok (.ldc 64, 2) := by decide +kernel
theorem dX7_ahead_34 : decode cX7_ahead 34 = .ok (.ireturn, 1) := by decide +kernel
theorem dX7_ahead_35 : decode cX7_ahead 35 = .ok (.aload_n 0, 1) := by decide +kernel
theorem dX7_ahead_36 : decode cX7_ahead 36 = .ok (.invokevirtual 193, 3) := by decide +kernel
theorem dX7_ahead_39 : decode cX7_ahead 39 = .ok (.aload_n 0, 1) := by decide +kernel
theorem dX7_ahead_40 : decode cX7_ahead 40 = .ok (.iload_n 2, 1) := by decide +kernel
theorem dX7_ahead_41 : decode cX7_ahead 41 = .ok (.invokevirtual 196, 3) := by decide +kernel
theorem dX7_ahead_44 : decode cX7_ahead 44 = .ok (.aload_n 0, 1) := by decide +kernel
theorem dX7_ahead_45 : decode cX7_ahead 45 = .ok (.iload_n 1, 1) := by decide +kernel
theorem dX7_ahead_46 : decode cX7_ahead 46 = .ok (.iload_n 3, 1) := by decide +kernel
theorem dX7_ahead_47 : decode cX7_ahead 47 = .ok (.invokevirtual 186, 3) := by decide +kernel
theorem dX7_ahead_50 : decode cX7_ahead 50 = .ok (.istore 4, 2) := by decide +kernel
theorem dX7_ahead_52 : decode cX7_ahead 52 = .ok (.aload_n 0, 1) := by decide +kernel
theorem dX7_ahead_53 : decode cX7_ahead 53 = .ok (.invokevirtual 200, 3) := by decide +kernel
theorem dX7_ahead_56 : decode cX7_ahead 56 = .ok (.iload 4, 2) := by decide +kernel
theorem dX7_ahead_58 : decode cX7_ahead 58 = .ok (.ireturn, 1) := by decide +kernel
theorem dX7_bringFor_0 : decode cX7_bringFor 0 = .ok (.iconst 0, 1) := by decide +kernel
theorem dX7_bringFor_1 : decode cX7_bringFor 1 = .ok (.istore_n 3, 1) := by decide +kernel
theorem dX7_bringFor_2 : decode cX7_bringFor 2 = .ok (.iconst 0, 1) := by decide +kernel
theorem dX7_bringFor_3 : decode cX7_bringFor 3 = .ok (.istore 4, 2) := by decide +kernel
theorem dX7_bringFor_5 : decode cX7_bringFor 5 = .ok (.iload 4, 2) := by decide +kernel
theorem dX7_bringFor_7 : decode cX7_bringFor 7 = .ok (.aload_n 0, 1) := by decide +kernel
theorem dX7_bringFor_8 : decode cX7_bringFor 8 = .ok (.getfield 19, 3) := by decide +kernel
theorem dX7_bringFor_11 : decode cX7_bringFor 11 = .ok (.iconst 0, 1) := by decide +kernel
theorem dX7_bringFor_12 : decode cX7_bringFor 12 = .ok (.iaload, 1) := by decide +kernel
theorem dX7_bringFor_13 : decode cX7_bringFor 13 = .ok (.if_icmp .ge 58, 3) := by decide +kernel
theorem dX7_bringFor_16 : decode cX7_bringFor 16 = .ok (.iload_n 3, 1) := by decide +kernel
theorem dX7_bringFor_17 : decode cX7_bringFor 17 = .ok (.iload_n 2, 1) := by decide +kernel
theorem dX7_bringFor_18 : decode cX7_bringFor 18 = .ok (.iload 4, 2) := by decide +kernel
theorem dX7_bringFor_20 : decode cX7_bringFor 20 = .ok (.invokestatic 145, 3) := by decide +kernel
theorem dX7_bringFor_23 : decode cX7_bringFor 23 = .ok (.ifCond .eq 39, 3) := by decide +kernel
theorem dX7_bringFor_26 : decode cX7_bringFor 26 = .ok (.aload_n 0, 1) := by decide +kernel
theorem dX7_bringFor_27 : decode cX7_bringFor 27 = .ok (.iload 4, 2) := by decide +kernel
theorem dX7_bringFor_29 : decode cX7_bringFor 29 = .ok (.invokevirtual 170, 3) := by decide +kernel
theorem dX7_bringFor_32 : decode cX7_bringFor 32 = .ok (.ifCond .ne 30, 3) := by decide +kernel
theorem dX7_bringFor_35 : decode cX7_bringFor 35 = .ok (.aload_n 0, 1) := by decide +kernel
theorem dX7_bringFor_36 : decode cX7_bringFor 36 = .ok (.iload 4, 2) := by decide +kernel
theorem dX7_bringFor_38 : decode cX7_bringFor 38 = .ok (.invokevirtual 149, 3) := by decide +kernel
theorem dX7_bringFor_41 : decode cX7_bringFor 41 = .ok (.iload_n 1, 1) := by decide +kernel
theorem dX7_bringFor_42 : decode cX7_bringFor 42 = .ok (.if_icmp .ne 20, 3) := by decide +kernel
theorem dX7_bringFor_45 : decode cX7_bringFor 45 = .ok (.iconst 3, 1) := by decide +kernel
theorem dX7_bringFor_46 : decode cX7_bringFor 46 = .ok (.aload_n 0, 1) := by decide +kernel
theorem dX7_bringFor_47 : decode cX7_bringFor 47 = .ok (.getfield 19, 3) := by decide +kernel
theorem dX7_bringFor_50 : decode cX7_bringFor 50 = .ok (.bipush 18, 2) := by decide +kernel
theorem dX7_bringFor_52 : decode cX7_bringFor 52 = .ok (.iload 4, 2) := by decide +kernel
theorem dX7_bringFor_54 : decode cX7_bringFor 54 = .ok (.iadd, 1) := by decide +kernel
theorem dX7_bringFor_55 : decode cX7_bringFor 55 = .ok (.iaload, 1) := by decide +kernel
theorem dX7_bringFor_56 : decode cX7_bringFor 56 = .ok (.imul, 1) := by decide +kernel
theorem dX7_bringFor_57 : decode cX7_bringFor 57 = .ok (.iconst 4, 1) := by decide +kernel
theorem dX7_bringFor_58 : decode cX7_bringFor 58 = .ok (.idiv, 1) := by decide +kernel
theorem dX7_bringFor_59 : decode cX7_bringFor 59 = .ok (.goto 4, 3) := by decide +kernel
theorem dX7_bringFor_62 : decode cX7_bringFor 62 = .ok (.iconst 0, 1) := by decide +kernel
theorem dX7_bringFor_63 : decode cX7_bringFor 63 = .ok (.iadd, 1) := by decide +kernel
theorem dX7_bringFor_64 : decode cX7_bringFor 64 = .ok (.istore_n 3, 1) := by decide +kernel
theorem dX7_bringFor_65 : decode cX7_bringFor 65 = .ok (.iinc 4 1, 3) := by decide +kernel
theorem dX7_bringFor_68 : decode cX7_bringFor 68 = .ok (.goto (-63), 3) := by decide +kernel
theorem dX7_bringFor_71 : decode cX7_bringFor 71 = .ok (.iload_n 3, 1) := by decide +kernel
theorem dX7_bringFor_72 : decode cX7_bringFor 72 = .ok (.ireturn, 1) := by decide +kernel
theorem dX7_tallyOf_0 : decode cX7_tallyOf 0 = .ok (.aload_n 0, 1) := by decide +kernel
theorem dX7_tallyOf_1 : decode cX7_tallyOf 1 = .ok (.getfield 19, 3) := by decide +kernel
theorem dX7_tallyOf_4 : decode cX7_tallyOf 4 = .ok (.bipush 6, 2) := by decide +kernel
theorem dX7_tallyOf_6 : decode cX7_tallyOf 6 = .ok (.iload_n 1, 1) := by decide +kernel
theorem dX7_tallyOf_7 : decode cX7_tallyOf 7 = .ok (.iadd, 1) := by decide +kernel
theorem dX7_tallyOf_8 : decode cX7_tallyOf 8 = .ok (.iaload, 1) := by decide +kernel
theorem dX7_tallyOf_9 : decode cX7_tallyOf 9 = .ok (.aload_n 0, 1) := by decide +kernel
theorem dX7_tallyOf_10 : decode cX7_tallyOf 10 = .ok (.iload_n 1, 1) := by decide +kernel
theorem dX7_tallyOf_11 : decode cX7_tallyOf 11 = .ok (.sipush 511, 3) := by decide +kernel
theorem dX7_tallyOf_14 : decode cX7_tallyOf 14 = .ok (.invokevirtual 203, 3) := by decide +kernel
theorem dX7_tallyOf_17 : decode cX7_tallyOf 17 = .ok (.iadd, 1) := by decide +kernel
theorem dX7_tallyOf_18 : decode cX7_tallyOf 18 = .ok (.ireturn, 1) := by decide +kernel
theorem dX7_leadOf_0 : decode cX7_leadOf 0 = .ok (.aload_n 0, 1) := by decide +kernel
theorem dX7_leadOf_1 : decode cX7_leadOf 1 = .ok (.iload_n 1, 1) := by decide +kernel
theorem dX7_leadOf_2 : decode cX7_leadOf 2 = .ok (.invokevirtual 206, 3) := by decide +kernel
theorem dX7_leadOf_5 : decode cX7_leadOf 5 = .ok (.aload_n 0, 1) := by decide +kernel
theorem dX7_leadOf_6 : decode cX7_leadOf 6 = .ok (.iconst 1, 1) := by decide +kernel
theorem dX7_leadOf_7 : decode cX7_leadOf 7 = .ok (.iload_n 1, 1) := by decide +kernel
theorem dX7_leadOf_8 : decode cX7_leadOf 8 = .ok (.isub, 1) := by decide +kernel
theorem dX7_leadOf_9 : decode cX7_leadOf 9 = .ok (.invokevirtual 206, 3) := by decide +kernel
theorem dX7_leadOf_12 : decode cX7_leadOf 12 = .ok (.isub, 1) := by decide +kernel
theorem dX7_leadOf_13 : decode cX7_leadOf 13 = .ok (.ireturn, 1) := by decide +kernel
theorem dX7_tally_0 : decode cX7_tally 0 = .ok (.aload_n 0, 1) := by decide +kernel
theorem dX7_tally_1 : decode cX7_tally 1 = .ok (.getfield 132, 3) := by decide +kernel
theorem dX7_tally_4 : decode cX7_tally 4 = .ok (.ifCond .ne 6, 3) := by decide +kernel
theorem dX7_tally_7 : decode cX7_tally 7 = .ok (.ldc 152, 2) := by decide +kernel
theorem dX7_tally_9 : decode cX7_tally 9 = .ok (.ireturn, 1) := by decide +kernel
theorem dX7_tally_10 : decode cX7_tally 10 = .ok (.iload_n 1, 1) := by decide +kernel
theorem dX7_tally_11 : decode cX7_tally 11 = .ok (.i2l, 1) := by decide +kernel
theorem dX7_tally_12 : decode cX7_tally 12 = .ok (.lconst 0, 1) := by decide +kernel
theorem dX7_tally_13 : decode cX7_tally 13 = .ok (.ldc2_w 191, 3) := by decide +kernel
theorem dX7_tally_16 : decode cX7_tally 16 = .ok (.invokestatic 54, 3) := by decide +kernel
theorem dX7_tally_19 : decode cX7_tally 19 = .ok (.ifCond .eq 15, 3) := by decide +kernel
theorem dX7_tally_22 : decode cX7_tally 22 = .ok (.iload_n 2, 1) := by decide +kernel
theorem dX7_tally_23 : decode cX7_tally 23 = .ok (.i2l, 1) := by decide +kernel
theorem dX7_tally_24 : decode cX7_tally 24 = .ok (.lconst 0, 1) := by decide +kernel
theorem dX7_tally_25 : decode cX7_tally 25 = .ok (.ldc2_w 62, 3) := by decide +kernel
theorem dX7_tally_28 : decode cX7_tally 28 = .ok (.invokestatic 54, 3) := by decide +kernel
theorem dX7_tally_31 : decode cX7_tally 31 = .ok (.ifCond .ne 6, 3) := by decide +kernel
theorem dX7_tally_34 : decode cX7_tally 34 = .ok (.ldc 64, 2) := by decide +kernel
theorem dX7_tally_36 : decode cX7_tally 36 = .ok (.ireturn, 1) := by decide +kernel
theorem dX7_tally_37 : decode cX7_tally 37 = .ok (.aload_n 0, 1) := by decide +kernel
theorem dX7_tally_38 : decode cX7_tally 38 = .ok (.invokevirtual 193, 3) := by decide +kernel
theorem dX7_tally_41 : decode cX7_tally 41 = .ok (.aload_n 0, 1) := by decide +kernel
theorem dX7_tally_42 : decode cX7_tally 42 = .ok (.iload_n 1, 1) := by decide +kernel
theorem dX7_tally_43 : decode cX7_tally 43 = .ok (.invokevirtual 196, 3) := by decide +kernel
theorem dX7_tally_46 : decode cX7_tally 46 = .ok (.aload_n 0, 1) := by decide +kernel
theorem dX7_tally_47 : decode cX7_tally 47 = .ok (.iload_n 2, 1) := by decide +kernel
theorem dX7_tally_48 : decode cX7_tally 48 = .ok (.invokevirtual 206, 3) := by decide +kernel
theorem dX7_tally_51 : decode cX7_tally 51 = .ok (.istore_n 3, 1) := by decide +kernel
theorem dX7_tally_52 : decode cX7_tally 52 = .ok (.aload_n 0, 1) := by decide +kernel
theorem dX7_tally_53 : decode cX7_tally 53 = .ok (.invokevirtual 200, 3) := by decide +kernel
theorem dX7_tally_56 : decode cX7_tally 56 = .ok (.iload_n 3, 1) := by decide +kernel
theorem dX7_tally_57 : decode cX7_tally 57 = .ok (.ireturn, 1) := by decide +kernel
theorem dX7_when_0 : decode cX7_when 0 = .ok (.aload_n 0, 1) := by decide +kernel
theorem dX7_when_1 : decode cX7_when 1 = .ok (.iload_n 1, 1) := by decide +kernel
theorem dX7_when_2 : decode cX7_when 2 = .ok (.invokevirtual 165, 3) := by decide +kernel
theorem dX7_when_5 : decode cX7_when 5 = .ok (.ifCond .eq 15, 3) := by decide +kernel
theorem dX7_when_8 : decode cX7_when 8 = .ok (.iload_n 2, 1) := by decide +kernel
theorem dX7_when_9 : decode cX7_when 9 = .ok (.i2l, 1) := by decide +kernel
theorem dX7_when_10 : decode cX7_when 10 = .ok (.lconst 0, 1) := by decide +kernel
theorem dX7_when_11 : decode cX7_when 11 = .ok (.ldc2_w 62, 3) := by decide +kernel
theorem dX7_when_14 : decode cX7_when 14 = .ok (.invokestatic 54, 3) := by decide +kernel
theorem dX7_when_17 : decode cX7_when 17 = .ok (.ifCond .ne 6, 3) := by decide +kernel
theorem dX7_when_20 : decode cX7_when 20 = .ok (.ldc 64, 2) := by decide +kernel
theorem dX7_when_22 : decode cX7_when 22 = .ok (.ireturn, 1) := by decide +kernel
theorem dX7_when_23 : decode cX7_when 23 = .ok (.aload_n 0, 1) := by decide +kernel
theorem dX7_when_24 : decode cX7_when 24 = .ok (.invokevirtual 193, 3) := by decide +kernel
theorem dX7_when_27 : decode cX7_when 27 = .ok (.iconst 0, 1) := by decide +kernel
theorem dX7_when_28 : decode cX7_when 28 = .ok (.istore_n 3, 1) := by decide +kernel
theorem dX7_when_29 : decode cX7_when 29 = .ok (.aload_n 0, 1) := by decide +kernel
theorem dX7_when_30 : decode cX7_when 30 = .ok (.iload_n 1, 1) := by decide +kernel
theorem dX7_when_31 : decode cX7_when 31 = .ok (.invokevirtual 149, 3) := by decide +kernel
theorem dX7_when_34 : decode cX7_when 34 = .ok (.iload_n 2, 1) := by decide +kernel
theorem dX7_when_35 : decode cX7_when 35 = .ok (.if_icmp .eq 19, 3) := by decide +kernel
theorem dX7_when_38 : decode cX7_when 38 = .ok (.iload_n 3, 1) := by decide +kernel
theorem dX7_when_39 : decode cX7_when 39 = .ok (.bipush 60, 2) := by decide +kernel
theorem dX7_when_41 : decode cX7_when 41 = .ok (.if_icmp .ge 13, 3) := by decide +kernel
theorem dX7_when_44 : decode cX7_when 44 = .ok (.aload_n 0, 1) := by decide +kernel
theorem dX7_when_45 : decode cX7_when 45 = .ok (.invokevirtual 158, 3) := by decide +kernel
theorem dX7_when_48 : decode cX7_when 48 = .ok (.iinc 3 1, 3) := by decide +kernel
theorem dX7_when_51 : decode cX7_when 51 = .ok (.goto (-22), 3) := by decide +kernel
theorem dX7_when_54 : decode cX7_when 54 = .ok (.aload_n 0, 1) := by decide +kernel
theorem dX7_when_55 : decode cX7_when 55 = .ok (.iload_n 1, 1) := by decide +kernel
theorem dX7_when_56 : decode cX7_when 56 = .ok (.invokevirtual 149, 3) := by decide +kernel
theorem dX7_when_59 : decode cX7_when 59 = .ok (.iload_n 2, 1) := by decide +kernel
theorem dX7_when_60 : decode cX7_when 60 = .ok (.if_icmp .ne 7, 3) := by decide +kernel
theorem dX7_when_63 : decode cX7_when 63 = .ok (.iconst 1, 1) := by decide +kernel
theorem dX7_when_64 : decode cX7_when 64 = .ok (.goto 4, 3) := by decide +kernel
theorem dX7_when_67 : decode cX7_when 67 = .ok (.iconst 0, 1) := by decide +kernel
theorem dX7_when_68 : decode cX7_when 68 = .ok (.istore 4, 2) := by decide +kernel
theorem dX7_when_70 : decode cX7_when 70 = .ok (.aload_n 0, 1) := by decide +kernel
theorem dX7_when_71 : decode cX7_when 71 = .ok (.invokevirtual 200, 3) := by decide +kernel
theorem dX7_when_74 : decode cX7_when 74 = .ok (.iload 4, 2) := by decide +kernel
theorem dX7_when_76 : decode cX7_when 76 = .ok (.ifCond .eq 7, 3) := by decide +kernel
theorem dX7_when_79 : decode cX7_when 79 = .ok (.iload_n 3, 1) := by decide +kernel
theorem dX7_when_80 : decode cX7_when 80 = .ok (.goto 5, 3) := by decide +kernel
theorem dX7_when_83 : decode cX7_when 83 = .ok (.ldc 209, 2) := by decide +kernel
theorem dX7_when_85 : decode cX7_when 85 = .ok (.ireturn, 1) := by decide +kernel
theorem dX7_bestCell_0 : decode cX7_bestCell 0 = .ok (.aload_n 0, 1) := by decide +kernel
theorem dX7_bestCell_1 : decode cX7_bestCell 1 = .ok (.getfield 19, 3) := by decide +kernel
theorem dX7_bestCell_4 : decode cX7_bestCell 4 = .ok (.iconst 1, 1) := by decide +kernel
theorem dX7_bestCell_5 : decode cX7_bestCell 5 = .ok (.iload_n 1, 1) := by decide +kernel
theorem dX7_bestCell_6 : decode cX7_bestCell 6 = .ok (.iadd, 1) := by decide +kernel
theorem dX7_bestCell_7 : decode cX7_bestCell 7 = .ok (.iaload, 1) := by decide +kernel
theorem dX7_bestCell_8 : decode cX7_bestCell 8 = .ok (.istore_n 2, 1) := by decide +kernel
theorem dX7_bestCell_9 : decode cX7_bestCell 9 = .ok (.iconst 0, 1) := by decide +kernel
theorem dX7_bestCell_10 : decode cX7_bestCell 10 = .ok (.istore_n 3, 1) := by decide +kernel
theorem dX7_bestCell_11 : decode cX7_bestCell 11 = .ok (.iconst 0, 1) := by decide +kernel
theorem dX7_bestCell_12 : decode cX7_bestCell 12 = .ok (.istore 4, 2) := by decide +kernel
theorem dX7_bestCell_14 : decode cX7_bestCell 14 = .ok (.iconst 0, 1) := by decide +kernel
theorem dX7_bestCell_15 : decode cX7_bestCell 15 = .ok (.istore 5, 2) := by decide +kernel
theorem dX7_bestCell_17 : decode cX7_bestCell 17 = .ok (.iload 5, 2) := by decide +kernel
theorem dX7_bestCell_19 : decode cX7_bestCell 19 = .ok (.bipush 9, 2) := by decide +kernel
theorem dX7_bestCell_21 : decode cX7_bestCell 21 = .ok (.if_icmp .ge 45, 3) := by decide +kernel
theorem dX7_bestCell_24 : decode cX7_bestCell 24 = .ok (.aload_n 0, 1) := by decide +kernel
theorem dX7_bestCell_25 : decode cX7_bestCell 25 = .ok (.getfield 19, 3) := by decide +kernel
theorem dX7_bestCell_28 : decode cX7_bestCell 28 = .ok (.iconst 1, 1) := by decide +kernel
theorem dX7_bestCell_29 : decode cX7_bestCell 29 = .ok (.iload_n 1, 1) := by decide +kernel
theorem dX7_bestCell_30 : decode cX7_bestCell 30 = .ok (.iadd, 1) := by decide +kernel
theorem dX7_bestCell_31 : decode cX7_bestCell 31 = .ok (.iload 5, 2) := by decide +kernel
theorem dX7_bestCell_33 : decode cX7_bestCell 33 = .ok (.iastore, 1) := by decide +kernel
theorem dX7_bestCell_34 : decode cX7_bestCell 34 = .ok (.aload_n 0, 1) := by decide +kernel
theorem dX7_bestCell_35 : decode cX7_bestCell 35 = .ok (.iload_n 1, 1) := by decide +kernel
theorem dX7_bestCell_36 : decode cX7_bestCell 36 = .ok (.invokevirtual 210, 3) := by decide +kernel
theorem dX7_bestCell_39 : decode cX7_bestCell 39 = .ok (.istore 6, 2) := by decide +kernel
theorem dX7_bestCell_41 : decode cX7_bestCell 41 = .ok (.iload 5, 2) := by decide +kernel
theorem dX7_bestCell_43 : decode cX7_bestCell 43 = .ok (.ifCond .eq 10, 3) := by decide +kernel
theorem dX7_bestCell_46 : decode cX7_bestCell 46 = .ok (.iload 6, 2) := by decide +kernel
theorem dX7_bestCell_48 : decode cX7_bestCell 48 = .ok (.iload 4, 2) := by decide +kernel
theorem dX7_bestCell_50 : decode cX7_bestCell 50 = .ok (.if_icmp .le 10, 3) := by decide +kernel
theorem dX7_bestCell_53 : decode cX7_bestCell 53 = .ok (.iload 5, 2) := by decide +kernel
theorem dX7_bestCell_55 : decode cX7_bestCell 55 = .ok (.istore_n 3, 1) := by decide +kernel
theorem dX7_bestCell_56 : decode cX7_bestCell 56 = .ok (.iload 6, 2) := by decide +kernel
theorem dX7_bestCell_58 : decode cX7_bestCell 58 = .ok (.istore 4, 2) := by decide +kernel
theorem dX7_bestCell_60 : decode cX7_bestCell 60 = .ok (.iinc 5 1, 3) := by decide +kernel
theorem dX7_bestCell_63 : decode cX7_bestCell 63 = .ok (.goto (-46), 3) := by decide +kernel
theorem dX7_bestCell_66 : decode cX7_bestCell 66 = .ok (.aload_n 0, 1) := by decide +kernel
theorem dX7_bestCell_67 : decode cX7_bestCell 67 = .ok (.getfield 19, 3) := by decide +kernel
theorem dX7_bestCell_70 : decode cX7_bestCell 70 = .ok (.iconst 1, 1) := by decide +kernel
theorem dX7_bestCell_71 : decode cX7_bestCell 71 = .ok (.iload_n 1, 1) := by decide +kernel
theorem dX7_bestCell_72 : decode cX7_bestCell 72 = .ok (.iadd, 1) := by decide +kernel
theorem dX7_bestCell_73 : decode cX7_bestCell 73 = .ok (.iload_n 2, 1) := by decide +kernel
theorem dX7_bestCell_74 : decode cX7_bestCell 74 = .ok (.iastore, 1) := by decide +kernel
theorem dX7_bestCell_75 : decode cX7_bestCell 75 = .ok (.iload_n 3, 1) := by decide +kernel
theorem dX7_bestCell_76 : decode cX7_bestCell 76 = .ok (.ireturn, 1) := by decide +kernel
theorem dX7_leadFrom_0 : decode cX7_leadFrom 0 = .ok (.aload_n 0, 1) := by decide +kernel
theorem dX7_leadFrom_1 : decode cX7_leadFrom 1 = .ok (.getfield 19, 3) := by decide +kernel
theorem dX7_leadFrom_4 : decode cX7_leadFrom 4 = .ok (.iconst 1, 1) := by decide +kernel
theorem dX7_leadFrom_5 : decode cX7_leadFrom 5 = .ok (.iload_n 1, 1) := by decide +kernel
theorem dX7_leadFrom_6 : decode cX7_leadFrom 6 = .ok (.iadd, 1) := by decide +kernel
theorem dX7_leadFrom_7 : decode cX7_leadFrom 7 = .ok (.iaload, 1) := by decide +kernel
theorem dX7_leadFrom_8 : decode cX7_leadFrom 8 = .ok (.istore_n 3, 1) := by decide +kernel
theorem dX7_leadFrom_9 : decode cX7_leadFrom 9 = .ok (.aload_n 0, 1) := by decide +kernel
theorem dX7_leadFrom_10 : decode cX7_leadFrom 10 = .ok (.getfield 19, 3) := by decide +kernel
theorem dX7_leadFrom_13 : decode cX7_leadFrom 13 = .ok (.iconst 1, 1) := by decide +kernel
theorem dX7_leadFrom_14 : decode cX7_leadFrom 14 = .ok (.iload_n 1, 1) := by decide +kernel
theorem dX7_leadFrom_15 : decode cX7_leadFrom 15 = .ok (.iadd, 1) := by decide +kernel
theorem dX7_leadFrom_16 : decode cX7_leadFrom 16 = .ok (.iload_n 2, 1) := by decide +kernel
theorem dX7_leadFrom_17 : decode cX7_leadFrom 17 = .ok (.iastore, 1) := by decide +kernel
theorem dX7_leadFrom_18 : decode cX7_leadFrom 18 = .ok (.aload_n 0, 1) := by decide +kernel
theorem dX7_leadFrom_19 : decode cX7_leadFrom 19 = .ok (.iload_n 1, 1) := by decide +kernel
theorem dX7_leadFrom_20 : decode cX7_leadFrom 20 = .ok (.invokevirtual 210, 3) := by decide +kernel
theorem dX7_leadFrom_23 : decode cX7_leadFrom 23 = .ok (.istore 4, 2) := by decide +kernel
theorem dX7_leadFrom_25 : decode cX7_leadFrom 25 = .ok (.aload_n 0, 1) := by decide +kernel
theorem dX7_leadFrom_26 : decode cX7_leadFrom 26 = .ok (.getfield 19, 3) := by decide +kernel
theorem dX7_leadFrom_29 : decode cX7_leadFrom 29 = .ok (.iconst 1, 1) := by decide +kernel
theorem dX7_leadFrom_30 : decode cX7_leadFrom 30 = .ok (.iload_n 1, 1) := by decide +kernel
theorem dX7_leadFrom_31 : decode cX7_leadFrom 31 = .ok (.iadd, 1) := by decide +kernel
theorem dX7_leadFrom_32 : decode cX7_leadFrom 32 = .ok (.iload_n 3, 1) := by decide +kernel
theorem dX7_leadFrom_33 : decode cX7_leadFrom 33 = .ok (.iastore, 1) := by decide +kernel
theorem dX7_leadFrom_34 : decode cX7_leadFrom 34 = .ok (.iload 4, 2) := by decide +kernel
theorem dX7_leadFrom_36 : decode cX7_leadFrom 36 = .ok (.ireturn, 1) := by decide +kernel
theorem dX7_place_0 : decode cX7_place 0 = .ok (.aload_n 0, 1) := by decide +kernel
theorem dX7_place_1 : decode cX7_place 1 = .ok (.getfield 132, 3) := by decide +kernel
theorem dX7_place_4 : decode cX7_place 4 = .ok (.ifCond .ne 6, 3) := by decide +kernel
theorem dX7_place_7 : decode cX7_place 7 = .ok (.ldc 152, 2) := by decide +kernel
theorem dX7_place_9 : decode cX7_place 9 = .ok (.ireturn, 1) := by decide +kernel
theorem dX7_place_10 : decode cX7_place 10 = .ok (.iload_n 1, 1) := by decide +kernel
theorem dX7_place_11 : decode cX7_place 11 = .ok (.invokestatic 179, 3) := by decide +kernel
theorem dX7_place_14 : decode cX7_place 14 = .ok (.ifCond .eq 10, 3) := by decide +kernel
theorem dX7_place_17 : decode cX7_place 17 = .ok (.iload_n 2, 1) := by decide +kernel
theorem dX7_place_18 : decode cX7_place 18 = .ok (.invokestatic 213, 3) := by decide +kernel
theorem dX7_place_21 : decode cX7_place 21 = .ok (.ifCond .ne 6, 3) := by decide +kernel
theorem dX7_place_24 : decode cX7_place 24 = .ok (.ldc 64, 2) := by decide +kernel
theorem dX7_place_26 : decode cX7_place 26 = .ok (.ireturn, 1) := by decide +kernel
theorem dX7_place_27 : decode cX7_place 27 = .ok (.aload_n 0, 1) := by decide +kernel
theorem dX7_place_28 : decode cX7_place 28 = .ok (.iload_n 1, 1) := by decide +kernel
theorem dX7_place_29 : decode cX7_place 29 = .ok (.invokevirtual 216, 3) := by decide +kernel
theorem dX7_place_32 : decode cX7_place 32 = .ok (.istore_n 3, 1) := by decide +kernel
theorem dX7_place_33 : decode cX7_place 33 = .ok (.iload_n 2, 1) := by decide +kernel
theorem dX7_place_34 : decode cX7_place 34 = .ok (.ifCond .ne 7, 3) := by decide +kernel
theorem dX7_place_37 : decode cX7_place 37 = .ok (.iload_n 3, 1) := by decide +kernel
theorem dX7_place_38 : decode cX7_place 38 = .ok (.goto 9, 3) := by decide +kernel
theorem dX7_place_41 : decode cX7_place 41 = .ok (.aload_n 0, 1) := by decide +kernel
theorem dX7_place_42 : decode cX7_place 42 = .ok (.iload_n 1, 1) := by decide +kernel
theorem dX7_place_43 : decode cX7_place 43 = .ok (.iload_n 3, 1) := by decide +kernel
theorem dX7_place_44 : decode cX7_place 44 = .ok (.invokevirtual 219, 3) := by decide +kernel
theorem dX7_place_47 : decode cX7_place 47 = .ok (.ireturn, 1) := by decide +kernel
theorem dX7_rests_0 : decode cX7_rests 0 = .ok (.aload_n 0, 1) := by decide +kernel
theorem dX7_rests_1 : decode cX7_rests 1 = .ok (.getfield 132, 3) := by decide +kernel
theorem dX7_rests_4 : decode cX7_rests 4 = .ok (.ifCond .ne 6, 3) := by decide +kernel
theorem dX7_rests_7 : decode cX7_rests 7 = .ok (.ldc 152, 2) := by decide +kernel
theorem dX7_rests_9 : decode cX7_rests 9 = .ok (.ireturn, 1) := by decide +kernel
theorem dX7_rests_10 : decode cX7_rests 10 = .ok (.iload_n 1, 1) := by decide +kernel
theorem dX7_rests_11 : decode cX7_rests 11 = .ok (.invokestatic 213, 3) := by decide +kernel
theorem dX7_rests_14 : decode cX7_rests 14 = .ok (.ifCond .ne 6, 3) := by decide +kernel
theorem dX7_rests_17 : decode cX7_rests 17 = .ok (.ldc 64, 2) := by decide +kernel
theorem dX7_rests_19 : decode cX7_rests 19 = .ok (.ireturn, 1) := by decide +kernel
theorem dX7_rests_20 : decode cX7_rests 20 = .ok (.aload_n 0, 1) := by decide +kernel
theorem dX7_rests_21 : decode cX7_rests 21 = .ok (.invokevirtual 193, 3) := by decide +kernel
theorem dX7_rests_24 : decode cX7_rests 24 = .ok (.iconst 0, 1) := by decide +kernel
theorem dX7_rests_25 : decode cX7_rests 25 = .ok (.istore_n 2, 1) := by decide +kernel
theorem dX7_rests_26 : decode cX7_rests 26 = .ok (.ldc 209, 2) := by decide +kernel
theorem dX7_rests_28 : decode cX7_rests 28 = .ok (.istore_n 3, 1) := by decide +kernel
theorem dX7_rests_29 : decode cX7_rests 29 = .ok (.iconst 0, 1) := by decide +kernel
theorem dX7_rests_30 : decode cX7_rests 30 = .ok (.istore 4, 2) := by decide +kernel
theorem dX7_rests_32 : decode cX7_rests 32 = .ok (.iload 4, 2) := by decide +kernel
theorem dX7_rests_34 : decode cX7_rests 34 = .ok (.bipush 81, 2) := by decide +kernel
theorem dX7_rests_36 : decode cX7_rests 36 = .ok (.if_icmp .ge 115, 3) := by decide +kernel
theorem dX7_rests_39 : decode cX7_rests 39 = .ok (.aload_n 0, 1) := by decide +kernel
theorem dX7_rests_40 : decode cX7_rests 40 = .ok (.getfield 19, 3) := by decide +kernel
theorem dX7_rests_43 : decode cX7_rests 43 = .ok (.iconst 1, 1) := by decide +kernel
theorem dX7_rests_44 : decode cX7_rests 44 = .ok (.iload 4, 2) := by decide +kernel
theorem dX7_rests_46 : decode cX7_rests 46 = .ok (.bipush 9, 2) := by decide +kernel
theorem dX7_rests_48 : decode cX7_rests 48 = .ok (.idiv, 1) := by decide +kernel
theorem dX7_rests_49 : decode cX7_rests 49 = .ok (.iastore, 1) := by decide +kernel
theorem dX7_rests_50 : decode cX7_rests 50 = .ok (.aload_n 0, 1) := by decide +kernel
theorem dX7_rests_51 : decode cX7_rests 51 = .ok (.getfield 19, 3) := by decide +kernel
theorem dX7_rests_54 : decode cX7_rests 54 = .ok (.iconst 2, 1) := by decide +kernel
theorem dX7_rests_55 : decode cX7_rests 55 = .ok (.iload 4, 2) := by decide +kernel
theorem dX7_rests_57 : decode cX7_rests 57 = .ok (.bipush 9, 2) := by decide +kernel
theorem dX7_rests_59 : decode cX7_rests 59 = .ok (.irem, 1) := by decide +kernel
theorem dX7_rests_60 : decode cX7_rests 60 = .ok (.iastore, 1) := by decide +kernel
theorem dX7_rests_61 : decode cX7_rests 61 = .ok (.aload_n 0, 1) := by decide +kernel
theorem dX7_rests_62 : decode cX7_rests 62 = .ok (.iconst 0, 1) := by decide +kernel
theorem dX7_rests_63 : decode cX7_rests 63 = .ok (.aload_n 0, 1) := by decide +kernel
theorem dX7_rests_64 : decode cX7_rests 64 = .ok (.iconst 0, 1) := by decide +kernel
theorem dX7_rests_65 : decode cX7_rests 65 = .ok (.invokevirtual 216, 3) := by decide +kernel
theorem dX7_rests_68 : decode cX7_rests 68 = .ok (.invokevirtual 219, 3) := by decide +kernel
theorem dX7_rests_71 : decode cX7_rests 71 = .ok (.aload_n 0, 1) := by decide +kernel
theorem dX7_rests_72 : decode cX7_rests 72 = .ok (.iconst 0, 1) := by decide +kernel
theorem dX7_rests_73 : decode cX7_rests 73 = .ok (.invokevirtual 210, 3) := by decide +kernel
theorem dX7_rests_76 : decode cX7_rests 76 = .ok (.if_icmp .ne 25, 3) := by decide +kernel
theorem dX7_rests_79 : decode cX7_rests 79 = .ok (.aload_n 0, 1) := by decide +kernel
theorem dX7_rests_80 : decode cX7_rests 80 = .ok (.iconst 1, 1) := by decide +kernel
theorem dX7_rests_81 : decode cX7_rests 81 = .ok (.aload_n 0, 1) := by decide +kernel
theorem dX7_rests_82 : decode cX7_rests 82 = .ok (.iconst 1, 1) := by decide +kernel
theorem dX7_rests_83 : decode cX7_rests 83 = .ok (.invokevirtual 216, 3) := by decide +kernel
theorem dX7_rests_86 : decode cX7_rests 86 = .ok (.invokevirtual 219, 3) := by decide +kernel
theorem dX7_rests_89 : decode cX7_rests 89 = .ok (.aload_n 0, 1) := by decide +kernel
theorem dX7_rests_90 : decode cX7_rests 90 = .ok (.iconst 1, 1) := by decide +kernel
theorem dX7_rests_91 : decode cX7_rests 91 = .ok (.invokevirtual 210, 3) := by decide +kernel
theorem dX7_rests_94 : decode cX7_rests 94 = .ok (.if_icmp .ne 7, 3) := by decide +kernel
theorem dX7_rests_97 : decode cX7_rests 97 = .ok (.iconst 1, 1) := by decide +kernel
theorem dX7_rests_98 : decode cX7_rests 98 = .ok (.goto 4, 3) := by decide +kernel
theorem dX7_rests_101 : decode cX7_rests 101 = .ok (.iconst 0, 1) := by decide +kernel
theorem dX7_rests_102 : decode cX7_rests 102 = .ok (.istore 5, 2) := by decide +kernel
theorem dX7_rests_104 : decode cX7_rests 104 = .ok (.iload_n 2, 1) := by decide +kernel
theorem dX7_rests_105 : decode cX7_rests 105 = .ok (.iload 5, 2) := by decide +kernel
theorem dX7_rests_107 : decode cX7_rests 107 = .ok (.ifCond .eq 7, 3) := by decide +kernel
theorem dX7_rests_110 : decode cX7_rests 110 = .ok (.iconst 1, 1) := by decide +kernel
theorem dX7_rests_111 : decode cX7_rests 111 = .ok (.goto 4, 3) := by decide +kernel
theorem dX7_rests_114 : decode cX7_rests 114 = .ok (.iconst 0, 1) := by decide +kernel
theorem dX7_rests_115 : decode cX7_rests 115 = .ok (.iadd, 1) := by decide +kernel
theorem dX7_rests_116 : decode cX7_rests 116 = .ok (.istore_n 2, 1) := by decide +kernel
theorem dX7_rests_117 : decode cX7_rests 117 = .ok (.iload 5, 2) := by decide +kernel
theorem dX7_rests_119 : decode cX7_rests 119 = .ok (.ifCond .eq 24, 3) := by decide +kernel
theorem dX7_rests_122 : decode cX7_rests 122 = .ok (.iload_n 3, 1) := by decide +kernel
theorem dX7_rests_123 : decode cX7_rests 123 = .ok (.ifCond .ge 20, 3) := by decide +kernel
theorem dX7_rests_126 : decode cX7_rests 126 = .ok (.bipush 10, 2) := by decide +kernel
theorem dX7_rests_128 : decode cX7_rests 128 = .ok (.iload 4, 2) := by decide +kernel
theorem dX7_rests_130 : decode cX7_rests 130 = .ok (.bipush 9, 2) := by decide +kernel
theorem dX7_rests_132 : decode cX7_rests 132 = .ok (.idiv, 1) := by decide +kernel
theorem dX7_rests_133 : decode cX7_rests 133 = .ok (.imul, 1) := by decide +kernel
theorem dX7_rests_134 : decode cX7_rests 134 = .ok (.iload 4, 2) := by decide +kernel
theorem dX7_rests_136 : decode cX7_rests 136 = .ok (.bipush 9, 2) := by decide +kernel
theorem dX7_rests_138 : decode cX7_rests 138 = .ok (.irem, 1) := by decide +kernel
theorem dX7_rests_139 : decode cX7_rests 139 = .ok (.iadd, 1) := by decide +kernel
theorem dX7_rests_140 : decode cX7_rests 140 = .ok (.goto 4, 3) := by decide +kernel
theorem dX7_rests_143 : decode cX7_rests 143 = .ok (.iload_n 3, 1) := by decide +kernel
theorem dX7_rests_144 : decode cX7_rests 144 = .ok (.istore_n 3, 1) := by decide +kernel
theorem dX7_rests_145 : decode cX7_rests 145 = .ok (.iinc 4 1, 3) := by decide +kernel
theorem dX7_rests_148 : decode cX7_rests 148 = .ok (.goto (-116), 3) := by decide +kernel
theorem dX7_rests_151 : decode cX7_rests 151 = .ok (.aload_n 0, 1) := by decide +kernel
theorem dX7_rests_152 : decode cX7_rests 152 = .ok (.invokevirtual 200, 3) := by decide +kernel
theorem dX7_rests_155 : decode cX7_rests 155 = .ok (.iload_n 1, 1) := by decide +kernel
theorem dX7_rests_156 : decode cX7_rests 156 = .ok (.ifCond .ne 7, 3) := by decide +kernel
theorem dX7_rests_159 : decode cX7_rests 159 = .ok (.iload_n 2, 1) := by decide +kernel
theorem dX7_rests_160 : decode cX7_rests 160 = .ok (.goto 4, 3) := by decide +kernel
theorem dX7_rests_163 : decode cX7_rests 163 = .ok (.iload_n 3, 1) := by decide +kernel
theorem dX7_rests_164 : decode cX7_rests 164 = .ok (.ireturn, 1) := by decide +kernel
theorem dX7_rakes_0 : decode cX7_rakes 0 = .ok (.aload_n 0, 1) := by decide +kernel
theorem dX7_rakes_1 : decode cX7_rakes 1 = .ok (.getfield 132, 3) := by decide +kernel
theorem dX7_rakes_4 : decode cX7_rakes 4 = .ok (.ifCond .ne 6, 3) := by decide +kernel
theorem dX7_rakes_7 : decode cX7_rakes 7 = .ok (.ldc 152, 2) := by decide +kernel
theorem dX7_rakes_9 : decode cX7_rakes 9 = .ok (.ireturn, 1) := by decide +kernel
theorem dX7_rakes_10 : decode cX7_rakes 10 = .ok (.iload_n 1, 1) := by decide +kernel
theorem dX7_rakes_11 : decode cX7_rakes 11 = .ok (.invokestatic 179, 3) := by decide +kernel
theorem dX7_rakes_14 : decode cX7_rakes 14 = .ok (.ifCond .eq 10, 3) := by decide +kernel
theorem dX7_rakes_17 : decode cX7_rakes 17 = .ok (.iload_n 2, 1) := by decide +kernel
theorem dX7_rakes_18 : decode cX7_rakes 18 = .ok (.invokestatic 213, 3) := by decide +kernel
theorem dX7_rakes_21 : decode cX7_rakes 21 = .ok (.ifCond .ne 6, 3) := by decide +kernel
theorem dX7_rakes_24 : decode cX7_rakes 24 = .ok (.ldc 64, 2) := by decide +kernel
theorem dX7_rakes_26 : decode cX7_rakes 26 = .ok (.ireturn, 1) := by decide +kernel
theorem dX7_rakes_27 : decode cX7_rakes 27 = .ok (.ldc 209, 2) := by decide +kernel
theorem dX7_rakes_29 : decode cX7_rakes 29 = .ok (.istore_n 3, 1) := by decide +kernel
theorem dX7_rakes_30 : decode cX7_rakes 30 = .ok (.iconst 0, 1) := by decide +kernel
theorem dX7_rakes_31 : decode cX7_rakes 31 = .ok (.istore 4, 2) := by decide +kernel
theorem dX7_rakes_33 : decode cX7_rakes 33 = .ok (.iload 4, 2) := by decide +kernel
theorem dX7_rakes_35 : decode cX7_rakes 35 = .ok (.iconst 1, 1) := by decide +kernel
theorem dX7_rakes_36 : decode cX7_rakes 36 = .ok (.aload_n 0, 1) := by decide +kernel
theorem dX7_rakes_37 : decode cX7_rakes 37 = .ok (.getfield 19, 3) := by decide +kernel
theorem dX7_rakes_40 : decode cX7_rakes 40 = .ok (.iconst 0, 1) := by decide +kernel
theorem dX7_rakes_41 : decode cX7_rakes 41 = .ok (.iaload, 1) := by decide +kernel
theorem dX7_rakes_42 : decode cX7_rakes 42 = .ok (.ishl, 1) := by decide +kernel
theorem dX7_rakes_43 : decode cX7_rakes 43 = .ok (.if_icmp .ge 100, 3) := by decide +kernel
theorem dX7_rakes_46 : decode cX7_rakes 46 = .ok (.iload_n 3, 1) := by decide +kernel
theorem dX7_rakes_47 : decode cX7_rakes 47 = .ok (.ifCond .lt 15, 3) := by decide +kernel
theorem dX7_rakes_50 : decode cX7_rakes 50 = .ok (.iload 4, 2) := by decide +kernel
theorem dX7_rakes_52 : decode cX7_rakes 52 = .ok (.invokestatic 222, 3) := by decide +kernel
theorem dX7_rakes_55 : decode cX7_rakes 55 = .ok (.iload_n 3, 1) := by decide +kernel
theorem dX7_rakes_56 : decode cX7_rakes 56 = .ok (.invokestatic 222, 3) := by decide +kernel
theorem dX7_rakes_59 : decode cX7_rakes 59 = .ok (.if_icmp .ge 7, 3) := by decide +kernel
theorem dX7_rakes_62 : decode cX7_rakes 62 = .ok (.iconst 1, 1) := by decide +kernel
theorem dX7_rakes_63 : decode cX7_rakes 63 = .ok (.goto 4, 3) := by decide +kernel
theorem dX7_rakes_66 : decode cX7_rakes 66 = .ok (.iconst 0, 1) := by decide +kernel
theorem dX7_rakes_67 : decode cX7_rakes 67 = .ok (.istore 5, 2) := by decide +kernel
theorem dX7_rakes_69 : decode cX7_rakes 69 = .ok (.iload 4, 2) := by decide +kernel
theorem dX7_rakes_71 : decode cX7_rakes 71 = .ok (.aload_n 0, 1) := by decide +kernel
theorem dX7_rakes_72 : decode cX7_rakes 72 = .ok (.getfield 19, 3) := by decide +kernel
theorem dX7_rakes_75 : decode cX7_rakes 75 = .ok (.iconst 5, 1) := by decide +kernel
theorem dX7_rakes_76 : decode cX7_rakes 76 = .ok (.iaload, 1) := by decide +kernel
theorem dX7_rakes_77 : decode cX7_rakes 77 = .ok (.iand, 1) := by decide +kernel
theorem dX7_rakes_78 : decode cX7_rakes 78 = .ok (.ifCond .ne 59, 3) := by decide +kernel
theorem dX7_rakes_81 : decode cX7_rakes 81 = .ok (.iload 5, 2) := by decide +kernel
theorem dX7_rakes_83 : decode cX7_rakes 83 = .ok (.ifCond .eq 54, 3) := by decide +kernel
theorem dX7_rakes_86 : decode cX7_rakes 86 = .ok (.aload_n 0, 1) := by decide +kernel
theorem dX7_rakes_87 : decode cX7_rakes 87 = .ok (.getfield 19, 3) := by decide +kernel
theorem dX7_rakes_90 : decode cX7_rakes 90 = .ok (.bipush 6, 2) := by decide +kernel
theorem dX7_rakes_92 : decode cX7_rakes 92 = .ok (.iload_n 1, 1) := by decide +kernel
theorem dX7_rakes_93 : decode cX7_rakes 93 = .ok (.iadd, 1) := by decide +kernel
theorem dX7_rakes_94 : decode cX7_rakes 94 = .ok (.iaload, 1) := by decide +kernel
theorem dX7_rakes_95 : decode cX7_rakes 95 = .ok (.aload_n 0, 1) := by decide +kernel
theorem dX7_rakes_96 : decode cX7_rakes 96 = .ok (.iload_n 1, 1) := by decide +kernel
theorem dX7_rakes_97 : decode cX7_rakes 97 = .ok (.iload 4, 2) := by decide +kernel
theorem dX7_rakes_99 : decode cX7_rakes 99 = .ok (.invokevirtual 203, 3) := by decide +kernel
theorem dX7_rakes_102 : decode cX7_rakes 102 = .ok (.iadd, 1) := by decide +kernel
theorem dX7_rakes_103 : decode cX7_rakes 103 = .ok (.aload_n 0, 1) := by decide +kernel
theorem dX7_rakes_104 : decode cX7_rakes 104 = .ok (.getfield 19, 3) := by decide +kernel
theorem dX7_rakes_107 : decode cX7_rakes 107 = .ok (.bipush 7, 2) := by decide +kernel
theorem dX7_rakes_109 : decode cX7_rakes 109 = .ok (.iload_n 1, 1) := by decide +kernel
theorem dX7_rakes_110 : decode cX7_rakes 110 = .ok (.isub, 1) := by decide +kernel
theorem dX7_rakes_111 : decode cX7_rakes 111 = .ok (.iaload, 1) := by decide +kernel
theorem dX7_rakes_112 : decode cX7_rakes 112 = .ok (.isub, 1) := by decide +kernel
theorem dX7_rakes_113 : decode cX7_rakes 113 = .ok (.aload_n 0, 1) := by decide +kernel
theorem dX7_rakes_114 : decode cX7_rakes 114 = .ok (.iconst 1, 1) := by decide +kernel
theorem dX7_rakes_115 : decode cX7_rakes 115 = .ok (.iload_n 1, 1) := by decide +kernel
theorem dX7_rakes_116 : decode cX7_rakes 116 = .ok (.isub, 1) := by decide +kernel
theorem dX7_rakes_117 : decode cX7_rakes 117 = .ok (.iload 4, 2) := by decide +kernel
theorem dX7_rakes_119 : decode cX7_rakes 119 = .ok (.invokevirtual 203, 3) := by decide +kernel
theorem dX7_rakes_122 : decode cX7_rakes 122 = .ok (.isub, 1) := by decide +kernel
theorem dX7_rakes_123 : decode cX7_rakes 123 = .ok (.istore 6, 2) := by decide +kernel
theorem dX7_rakes_125 : decode cX7_rakes 125 = .ok (.iload 6, 2) := by decide +kernel
theorem dX7_rakes_127 : decode cX7_rakes 127 = .ok (.ifCond .le 8, 3) := by decide +kernel
theorem dX7_rakes_130 : decode cX7_rakes 130 = .ok (.iload 4, 2) := by decide +kernel
theorem dX7_rakes_132 : decode cX7_rakes 132 = .ok (.goto 4, 3) := by decide +kernel
theorem dX7_rakes_135 : decode cX7_rakes 135 = .ok (.iload_n 3, 1) := by decide +kernel
theorem dX7_rakes_136 : decode cX7_rakes 136 = .ok (.istore_n 3, 1) := by decide +kernel
theorem dX7_rakes_137 : decode cX7_rakes 137 = .ok (.iinc 4 1, 3) := by decide +kernel
theorem dX7_rakes_140 : decode cX7_rakes 140 = .ok (.goto (-107), 3) := by decide +kernel
theorem dX7_rakes_143 : decode cX7_rakes 143 = .ok (.iload_n 3, 1) := by decide +kernel
theorem dX7_rakes_144 : decode cX7_rakes 144 = .ok (.ifCond .lt 8, 3) := by decide +kernel
theorem dX7_rakes_147 : decode cX7_rakes 147 = .ok (.iload_n 2, 1) := by decide +kernel
theorem dX7_rakes_148 : decode cX7_rakes 148 = .ok (.iconst 1, 1) := by decide +kernel
theorem dX7_rakes_149 : decode cX7_rakes 149 = .ok (.if_icmp .ne 7, 3) := by decide +kernel
theorem dX7_rakes_152 : decode cX7_rakes 152 = .ok (.iload_n 3, 1) := by decide +kernel
theorem dX7_rakes_153 : decode cX7_rakes 153 = .ok (.goto 7, 3) := by decide +kernel
theorem dX7_rakes_156 : decode cX7_rakes 156 = .ok (.iload_n 3, 1) := by decide +kernel
theorem dX7_rakes_157 : decode cX7_rakes 157 = .ok (.invokestatic 222, 3) := by decide +kernel
theorem dX7_rakes_160 : decode cX7_rakes 160 = .ok (.ireturn, 1) := by decide +kernel
theorem dX7_ledBy_0 : decode cX7_ledBy 0 = .ok (.iconst 1, 1) := by decide +kernel
theorem dX7_ledBy_1 : decode cX7_ledBy 1 = .ok (.iload_n 3, 1) := by decide +kernel
theorem dX7_ledBy_2 : decode cX7_ledBy 2 = .ok (.ishl, 1) := by decide +kernel
theorem dX7_ledBy_3 : decode cX7_ledBy 3 = .ok (.iconst 1, 1) := by decide +kernel
theorem dX7_ledBy_4 : decode cX7_ledBy 4 = .ok (.iload_n 2, 1) := by decide +kernel
theorem dX7_ledBy_5 : decode cX7_ledBy 5 = .ok (.ishl, 1) := by decide +kernel
theorem dX7_ledBy_6 : decode cX7_ledBy 6 = .ok (.isub, 1) := by decide +kernel
theorem dX7_ledBy_7 : decode cX7_ledBy 7 = .ok (.istore 4, 2) := by decide +kernel
theorem dX7_ledBy_9 : decode cX7_ledBy 9 = .ok (.aload_n 0, 1) := by decide +kernel
theorem dX7_ledBy_10 : decode cX7_ledBy 10 = .ok (.iload_n 1, 1) := by decide +kernel
theorem dX7_ledBy_11 : decode cX7_ledBy 11 = .ok (.iload 4, 2) := by decide +kernel
theorem dX7_ledBy_13 : decode cX7_ledBy 13 = .ok (.invokevirtual 203, 3) := by decide +kernel
theorem dX7_ledBy_16 : decode cX7_ledBy 16 = .ok (.aload_n 0, 1) := by decide +kernel
theorem dX7_ledBy_17 : decode cX7_ledBy 17 = .ok (.iconst 1, 1) := by decide +kernel
theorem dX7_ledBy_18 : decode cX7_ledBy 18 = .ok (.iload_n 1, 1) := by decide +kernel
theorem dX7_ledBy_19 : decode cX7_ledBy 19 = .ok (.isub, 1) := by decide +kernel
theorem dX7_ledBy_20 : decode cX7_ledBy 20 = .ok (.iload 4, 2) := by decide +kernel
theorem dX7_ledBy_22 : decode cX7_ledBy 22 = .ok (.invokevirtual 203, 3) := by decide +kernel
theorem dX7_ledBy_25 : decode cX7_ledBy 25 = .ok (.if_icmp .le 7, 3) := by decide +kernel
theorem dX7_ledBy_28 : decode cX7_ledBy 28 = .ok (.iconst 1, 1) := by decide +kernel
theorem dX7_ledBy_29 : decode cX7_ledBy 29 = .ok (.goto 4, 3) := by decide +kernel
theorem dX7_ledBy_32 : decode cX7_ledBy 32 = .ok (.iconst 0, 1) := by decide +kernel
theorem dX7_ledBy_33 : decode cX7_ledBy 33 = .ok (.ireturn, 1) := by decide +kernel
theorem dX7_wards_0 : decode cX7_wards 0 = .ok (.aload_n 0, 1) := by decide +kernel
theorem dX7_wards_1 : decode cX7_wards 1 = .ok (.getfield 132, 3) := by decide +kernel
theorem dX7_wards_4 : decode cX7_wards 4 = .ok (.ifCond .ne 6, 3) := by decide +kernel
theorem dX7_wards_7 : decode cX7_wards 7 = .ok (.ldc 152, 2) := by decide +kernel
theorem dX7_wards_9 : decode cX7_wards 9 = .ok (.ireturn, 1) := by decide +kernel
theorem dX7_wards_10 : decode cX7_wards 10 = .ok (.iload_n 1, 1) := by decide +kernel
theorem dX7_wards_11 : decode cX7_wards 11 = .ok (.invokestatic 179, 3) := by decide +kernel
theorem dX7_wards_14 : decode cX7_wards 14 = .ok (.ifCond .eq 22, 3) := by decide +kernel
theorem dX7_wards_17 : decode cX7_wards 17 = .ok (.iload_n 2, 1) := by decide +kernel
theorem dX7_wards_18 : decode cX7_wards 18 = .ok (.i2l, 1) := by decide +kernel
theorem dX7_wards_19 : decode cX7_wards 19 = .ok (.lconst 1, 1) := by decide +kernel
theorem dX7_wards_20 : decode cX7_wards 20 = .ok (.ldc2_w 184, 3) := by decide +kernel
theorem dX7_wards_23 : decode cX7_wards 23 = .ok (.invokestatic 54, 3) := by decide +kernel
theorem dX7_wards_26 : decode cX7_wards 26 = .ok (.ifCond .eq 10, 3) := by decide +kernel
theorem dX7_wards_29 : decode cX7_wards 29 = .ok (.iload_n 3, 1) := by decide +kernel
theorem dX7_wards_30 : decode cX7_wards 30 = .ok (.invokestatic 213, 3) := by decide +kernel
theorem dX7_wards_33 : decode cX7_wards 33 = .ok (.ifCond .ne 6, 3) := by decide +kernel
theorem dX7_wards_36 : decode cX7_wards 36 = .ok (.ldc 64, 2) := by decide +kernel
theorem dX7_wards_38 : decode cX7_wards 38 = .ok (.ireturn, 1) := by decide +kernel
theorem dX7_wards_39 : decode cX7_wards 39 = .ok (.aload_n 0, 1) := by decide +kernel
theorem dX7_wards_40 : decode cX7_wards 40 = .ok (.getfield 19, 3) := by decide +kernel
theorem dX7_wards_43 : decode cX7_wards 43 = .ok (.iconst 0, 1) := by decide +kernel
theorem dX7_wards_44 : decode cX7_wards 44 = .ok (.iaload, 1) := by decide +kernel
theorem dX7_wards_45 : decode cX7_wards 45 = .ok (.istore 4, 2) := by decide +kernel
theorem dX7_wards_47 : decode cX7_wards 47 = .ok (.ldc 209, 2) := by decide +kernel
theorem dX7_wards_49 : decode cX7_wards 49 = .ok (.istore 5, 2) := by decide +kernel
theorem dX7_wards_51 : decode cX7_wards 51 = .ok (.ldc 209, 2) := by decide +kernel
theorem dX7_wards_53 : decode cX7_wards 53 = .ok (.istore 6, 2) := by decide +kernel
theorem dX7_wards_55 : decode cX7_wards 55 = .ok (.iload_n 2, 1) := by decide +kernel
theorem dX7_wards_56 : decode cX7_wards 56 = .ok (.iconst 1, 1) := by decide +kernel
theorem dX7_wards_57 : decode cX7_wards 57 = .ok (.if_icmp .ne 16, 3) := by decide +kernel
theorem dX7_wards_60 : decode cX7_wards 60 = .ok (.iconst 0, 1) := by decide +kernel
theorem dX7_wards_61 : decode cX7_wards 61 = .ok (.istore 5, 2) := by decide +kernel
theorem dX7_wards_63 : decode cX7_wards 63 = .ok (.aload_n 0, 1) := by decide +kernel
theorem dX7_wards_64 : decode cX7_wards 64 = .ok (.iload_n 1, 1) := by decide +kernel
theorem dX7_wards_65 : decode cX7_wards 65 = .ok (.iconst 0, 1) := by decide +kernel
theorem dX7_wards_66 : decode cX7_wards 66 = .ok (.iload 4, 2) := by decide +kernel
theorem dX7_wards_68 : decode cX7_wards 68 = .ok (.invokevirtual 225, 3) := by decide +kernel
theorem dX7_wards_71 : decode cX7_wards 71 = .ok (.istore 6, 2) := by decide +kernel
theorem dX7_wards_73 : decode cX7_wards 73 = .ok (.iconst 1, 1) := by decide +kernel
theorem dX7_wards_74 : decode cX7_wards 74 = .ok (.istore 7, 2) := by decide +kernel
theorem dX7_wards_76 : decode cX7_wards 76 = .ok (.iload 7, 2) := by decide +kernel
theorem dX7_wards_78 : decode cX7_wards 78 = .ok (.iload 4, 2) := by decide +kernel
theorem dX7_wards_80 : decode cX7_wards 80 = .ok (.if_icmp .ge 124, 3) := by decide +kernel
theorem dX7_wards_83 : decode cX7_wards 83 = .ok (.iload_n 2, 1) := by decide +kernel
theorem dX7_wards_84 : decode cX7_wards 84 = .ok (.iconst 1, 1) := by decide +kernel
theorem dX7_wards_85 : decode cX7_wards 85 = .ok (.if_icmp .le 119, 3) := by decide +kernel
theorem dX7_wards_88 : decode cX7_wards 88 = .ok (.iload_n 2, 1) := by decide +kernel
theorem dX7_wards_89 : decode cX7_wards 89 = .ok (.iconst 3, 1) := by decide +kernel
theorem dX7_wards_90 : decode cX7_wards 90 = .ok (.if_icmp .ne 10, 3) := by decide +kernel
theorem dX7_wards_93 : decode cX7_wards 93 = .ok (.iload 7, 2) := by decide +kernel
theorem dX7_wards_95 : decode cX7_wards 95 = .ok (.iconst 1, 1) := by decide +kernel
theorem dX7_wards_96 : decode cX7_wards 96 = .ok (.iadd, 1) := by decide +kernel
theorem dX7_wards_97 : decode cX7_wards 97 = .ok (.goto 5, 3) := by decide +kernel
theorem dX7_wards_100 : decode cX7_wards 100 = .ok (.iload 4, 2) := by decide +kernel
theorem dX7_wards_102 : decode cX7_wards 102 = .ok (.istore 8, 2) := by decide +kernel
theorem dX7_wards_104 : decode cX7_wards 104 = .ok (.iload 8, 2) := by decide +kernel
theorem dX7_wards_106 : decode cX7_wards 106 = .ok (.iload_n 2, 1) := by decide +kernel
theorem dX7_wards_107 : decode cX7_wards 107 = .ok (.iconst 3, 1) := by decide +kernel
theorem dX7_wards_108 : decode cX7_wards 108 = .ok (.if_icmp .ne 8, 3) := by decide +kernel
theorem dX7_wards_111 : decode cX7_wards 111 = .ok (.iload 4, 2) := by decide +kernel
theorem dX7_wards_113 : decode cX7_wards 113 = .ok (.goto 7, 3) := by decide +kernel
theorem dX7_wards_116 : decode cX7_wards 116 = .ok (.iload 4, 2) := by decide +kernel
theorem dX7_wards_118 : decode cX7_wards 118 = .ok (.iconst 1, 1) := by decide +kernel
theorem dX7_wards_119 : decode cX7_wards 119 = .ok (.iadd, 1) := by decide +kernel
theorem dX7_wards_120 : decode cX7_wards 120 = .ok (.if_icmp .ge 78, 3) := by decide +kernel
theorem dX7_wards_123 : decode cX7_wards 123 = .ok (.aload_n 0, 1) := by decide +kernel
theorem dX7_wards_124 : decode cX7_wards 124 = .ok (.iload_n 1, 1) := by decide +kernel
theorem dX7_wards_125 : decode cX7_wards 125 = .ok (.iconst 0, 1) := by decide +kernel
theorem dX7_wards_126 : decode cX7_wards 126 = .ok (.iload 7, 2) := by decide +kernel
theorem dX7_wards_128 : decode cX7_wards 128 = .ok (.invokevirtual 225, 3) := by decide +kernel
theorem dX7_wards_131 : decode cX7_wards 131 = .ok (.aload_n 0, 1) := by decide +kernel
theorem dX7_wards_132 : decode cX7_wards 132 = .ok (.iload_n 1, 1) := by decide +kernel
theorem dX7_wards_133 : decode cX7_wards 133 = .ok (.iload 7, 2) := by decide +kernel
theorem dX7_wards_135 : decode cX7_wards 135 = .ok (.iload 8, 2) := by decide +kernel
theorem dX7_wards_137 : decode cX7_wards 137 = .ok (.invokevirtual 225, 3) := by decide +kernel
theorem dX7_wards_140 : decode cX7_wards 140 = .ok (.iadd, 1) := by decide +kernel
theorem dX7_wards_141 : decode cX7_wards 141 = .ok (.iload_n 2, 1) := by decide +kernel
theorem dX7_wards_142 : decode cX7_wards 142 = .ok (.iconst 3, 1) := by decide +kernel
theorem dX7_wards_143 : decode cX7_wards 143 = .ok (.if_icmp .ne 15, 3) := by decide +kernel
theorem dX7_wards_146 : decode cX7_wards 146 = .ok (.aload_n 0, 1) := by decide +kernel
theorem dX7_wards_147 : decode cX7_wards 147 = .ok (.iload_n 1, 1) := by decide +kernel
theorem dX7_wards_148 : decode cX7_wards 148 = .ok (.iload 8, 2) := by decide +kernel
theorem dX7_wards_150 : decode cX7_wards 150 = .ok (.iload 4, 2) := by decide +kernel
theorem dX7_wards_152 : decode cX7_wards 152 = .ok (.invokevirtual 225, 3) := by decide +kernel
theorem dX7_wards_155 : decode cX7_wards 155 = .ok (.goto 4, 3) := by decide +kernel
theorem dX7_wards_158 : decode cX7_wards 158 = .ok (.iconst 0, 1) := by decide +kernel
theorem dX7_wards_159 : decode cX7_wards 159 = .ok (.iadd, 1) := by decide +kernel
theorem dX7_wards_160 : decode cX7_wards 160 = .ok (.istore 9, 2) := by decide +kernel
theorem dX7_wards_162 : decode cX7_wards 162 = .ok (.iload 9, 2) := by decide +kernel
theorem dX7_wards_164 : decode cX7_wards 164 = .ok (.iload 6, 2) := by decide +kernel
theorem dX7_wards_166 : decode cX7_wards 166 = .ok (.if_icmp .le 26, 3) := by decide +kernel
theorem dX7_wards_169 : decode cX7_wards 169 = .ok (.iload 9, 2) := by decide +kernel
theorem dX7_wards_171 : decode cX7_wards 171 = .ok (.istore 6, 2) := by decide +kernel
theorem dX7_wards_173 : decode cX7_wards 173 = .ok (.bipush 10, 2) := by decide +kernel
theorem dX7_wards_175 : decode cX7_wards 175 = .ok (.iload 7, 2) := by decide +kernel
theorem dX7_wards_177 : decode cX7_wards 177 = .ok (.imul, 1) := by decide +kernel
theorem dX7_wards_178 : decode cX7_wards 178 = .ok (.iload_n 2, 1) := by decide +kernel
theorem dX7_wards_179 : decode cX7_wards 179 = .ok (.iconst 3, 1) := by decide +kernel
theorem dX7_wards_180 : decode cX7_wards 180 = .ok (.if_icmp .ne 8, 3) := by decide +kernel
theorem dX7_wards_183 : decode cX7_wards 183 = .ok (.iload 8, 2) := by decide +kernel
theorem dX7_wards_185 : decode cX7_wards 185 = .ok (.goto 4, 3) := by decide +kernel
theorem dX7_wards_188 : decode cX7_wards 188 = .ok (.iconst 0, 1) := by decide +kernel
theorem dX7_wards_189 : decode cX7_wards 189 = .ok (.iadd, 1) := by decide +kernel
theorem dX7_wards_190 : decode cX7_wards 190 = .ok (.istore 5, 2) := by decide +kernel
theorem dX7_wards_192 : decode cX7_wards 192 = .ok (.iinc 8 1, 3) := by decide +kernel
theorem dX7_wards_195 : decode cX7_wards 195 = .ok (.goto (-91), 3) := by decide +kernel
theorem dX7_wards_198 : decode cX7_wards 198 = .ok (.iinc 7 1, 3) := by decide +kernel
theorem dX7_wards_201 : decode cX7_wards 201 = .ok (.goto (-125), 3) := by decide +kernel
theorem dX7_wards_204 : decode cX7_wards 204 = .ok (.iload_n 3, 1) := by decide +kernel
theorem dX7_wards_205 : decode cX7_wards 205 = .ok (.ifCond .ne 8, 3) := by decide +kernel
theorem dX7_wards_208 : decode cX7_wards 208 = .ok (.iload 6, 2) := by decide +kernel
theorem dX7_wards_210 : decode cX7_wards 210 = .ok (.goto 5, 3) := by decide +kernel
theorem dX7_wards_213 : decode cX7_wards 213 = .ok (.iload 5, 2) := by decide +kernel
theorem dX7_wards_215 : decode cX7_wards 215 = .ok (.ireturn, 1) := by decide +kernel
theorem dX7_sign_0 : decode cX7_sign 0 = .ok (.iload_n 0, 1) := by decide +kernel
theorem dX7_sign_1 : decode cX7_sign 1 = .ok (.ifCond .le 7, 3) := by decide +kernel
theorem dX7_sign_4 : decode cX7_sign 4 = .ok (.iconst 1, 1) := by decide +kernel
theorem dX7_sign_5 : decode cX7_sign 5 = .ok (.goto 12, 3) := by decide +kernel
theorem dX7_sign_8 : decode cX7_sign 8 = .ok (.iload_n 0, 1) := by decide +kernel
theorem dX7_sign_9 : decode cX7_sign 9 = .ok (.ifCond .ge 7, 3) := by decide +kernel
theorem dX7_sign_12 : decode cX7_sign 12 = .ok (.iconst (-1), 1) := by decide +kernel
theorem dX7_sign_13 : decode cX7_sign 13 = .ok (.goto 4, 3) := by decide +kernel
theorem dX7_sign_16 : decode cX7_sign 16 = .ok (.iconst 0, 1) := by decide +kernel
theorem dX7_sign_17 : decode cX7_sign 17 = .ok (.ireturn, 1) := by decide +kernel
theorem dX7_decide_0 : decode cX7_decide 0 = .ok (.aload_n 0, 1) := by decide +kernel
theorem dX7_decide_1 : decode cX7_decide 1 = .ok (.getfield 132, 3) := by decide +kernel
theorem dX7_decide_4 : decode cX7_decide 4 = .ok (.ifCond .ne 6, 3) := by decide +kernel
theorem dX7_decide_7 : decode cX7_decide 7 = .ok (.ldc 152, 2) := by decide +kernel
theorem dX7_decide_9 : decode cX7_decide 9 = .ok (.ireturn, 1) := by decide +kernel
theorem dX7_decide_10 : decode cX7_decide 10 = .ok (.aload_n 0, 1) := by decide +kernel
theorem dX7_decide_11 : decode cX7_decide 11 = .ok (.iconst 0, 1) := by decide +kernel
theorem dX7_decide_12 : decode cX7_decide 12 = .ok (.invokevirtual 210, 3) := by decide +kernel
theorem dX7_decide_15 : decode cX7_decide 15 = .ok (.invokestatic 229, 3) := by decide +kernel
theorem dX7_decide_18 : decode cX7_decide 18 = .ok (.istore_n 1, 1) := by decide +kernel
theorem dX7_decide_19 : decode cX7_decide 19 = .ok (.iconst 0, 1) := by decide +kernel
theorem dX7_decide_20 : decode cX7_decide 20 = .ok (.istore_n 2, 1) := by decide +kernel
theorem dX7_decide_21 : decode cX7_decide 21 = .ok (.iconst 0, 1) := by decide +kernel
theorem dX7_decide_22 : decode cX7_decide 22 = .ok (.istore_n 3, 1) := by decide +kernel
theorem dX7_decide_23 : decode cX7_decide 23 = .ok (.iload_n 3, 1) := by decide +kernel
theorem dX7_decide_24 : decode cX7_decide 24 = .ok (.aload_n 0, 1) := by decide +kernel
theorem dX7_decide_25 : decode cX7_decide 25 = .ok (.getfield 19, 3) := by decide +kernel
theorem dX7_decide_28 : decode cX7_decide 28 = .ok (.iconst 0, 1) := by decide +kernel
theorem dX7_decide_29 : decode cX7_decide 29 = .ok (.iaload, 1) := by decide +kernel
theorem dX7_decide_30 : decode cX7_decide 30 = .ok (.if_icmp .ge 55, 3) := by decide +kernel
theorem dX7_decide_33 : decode cX7_decide 33 = .ok (.aload_n 0, 1) := by decide +kernel
theorem dX7_decide_34 : decode cX7_decide 34 = .ok (.getfield 19, 3) := by decide +kernel
theorem dX7_decide_37 : decode cX7_decide 37 = .ok (.iconst 5, 1) := by decide +kernel
theorem dX7_decide_38 : decode cX7_decide 38 = .ok (.dup2, 1) := by decide +kernel
theorem dX7_decide_39 : decode cX7_decide 39 = .ok (.iaload, 1) := by decide +kernel
theorem dX7_decide_40 : decode cX7_decide 40 = .ok (.iconst 1, 1) := by decide +kernel
theorem dX7_decide_41 : decode cX7_decide 41 = .ok (.iload_n 3, 1) := by decide +kernel
theorem dX7_decide_42 : decode cX7_decide 42 = .ok (.ishl, 1) := by decide +kernel
theorem dX7_decide_43 : decode cX7_decide 43 = .ok (.ixor, 1) := by decide +kernel
theorem dX7_decide_44 : decode cX7_decide 44 = .ok (.iastore, 1) := by decide +kernel
theorem dX7_decide_45 : decode cX7_decide 45 = .ok (.iload_n 2, 1) := by decide +kernel
theorem dX7_decide_46 : decode cX7_decide 46 = .ok (.aload_n 0, 1) := by decide +kernel
theorem dX7_decide_47 : decode cX7_decide 47 = .ok (.iconst 0, 1) := by decide +kernel
theorem dX7_decide_48 : decode cX7_decide 48 = .ok (.invokevirtual 210, 3) := by decide +kernel
theorem dX7_decide_51 : decode cX7_decide 51 = .ok (.invokestatic 229, 3) := by decide +kernel
theorem dX7_decide_54 : decode cX7_decide 54 = .ok (.iload_n 1, 1) := by decide +kernel
theorem dX7_decide_55 : decode cX7_decide 55 = .ok (.if_icmp .eq 9, 3) := by decide +kernel
theorem dX7_decide_58 : decode cX7_decide 58 = .ok (.iconst 1, 1) := by decide +kernel
theorem dX7_decide_59 : decode cX7_decide 59 = .ok (.iload_n 3, 1) := by decide +kernel
theorem dX7_decide_60 : decode cX7_decide 60 = .ok (.ishl, 1) := by decide +kernel
theorem dX7_decide_61 : decode cX7_decide 61 = .ok (.goto 4, 3) := by decide +kernel
theorem dX7_decide_64 : decode cX7_decide 64 = .ok (.iconst 0, 1) := by decide +kernel
theorem dX7_decide_65 : decode cX7_decide 65 = .ok (.ior, 1) := by decide +kernel
theorem dX7_decide_66 : decode cX7_decide 66 = .ok (.istore_n 2, 1) := by decide +kernel
theorem dX7_decide_67 : decode cX7_decide 67 = .ok (.aload_n 0, 1) := by decide +kernel
theorem dX7_decide_68 : decode cX7_decide 68 = .ok (.getfield 19, 3) := by decide +kernel
theorem dX7_decide_71 : decode cX7_decide 71 = .ok (.iconst 5, 1) := by decide +kernel
theorem dX7_decide_72 : decode cX7_decide 72 = .ok (.dup2, 1) := by decide +kernel
theorem dX7_decide_73 : decode cX7_decide 73 = .ok (.iaload, 1) := by decide +kernel
theorem dX7_decide_74 : decode cX7_decide 74 = .ok (.iconst 1, 1) := by decide +kernel
theorem dX7_decide_75 : decode cX7_decide 75 = .ok (.iload_n 3, 1) := by decide +kernel
theorem dX7_decide_76 : decode cX7_decide 76 = .ok (.ishl, 1) := by decide +kernel
theorem dX7_decide_77 : decode cX7_decide 77 = .ok (.ixor, 1) := by decide +kernel
theorem dX7_decide_78 : decode cX7_decide 78 = .ok (.iastore, 1) := by decide +kernel
theorem dX7_decide_79 : decode cX7_decide 79 = .ok (.iinc 3 1, 3) := by decide +kernel
theorem dX7_decide_82 : decode cX7_decide 82 = .ok (.goto (-59), 3) := by decide +kernel
theorem dX7_decide_85 : decode cX7_decide 85 = .ok (.iload_n 2, 1) := by decide +kernel
theorem dX7_decide_86 : decode cX7_decide 86 = .ok (.ireturn, 1) := by decide +kernel
theorem dX7_lacks_0 : decode cX7_lacks 0 = .ok (.aload_n 0, 1) := by decide +kernel
theorem dX7_lacks_1 : decode cX7_lacks 1 = .ok (.getfield 13, 3) := by decide +kernel
theorem dX7_lacks_4 : decode cX7_lacks 4 = .ok (.iload_n 1, 1) := by decide +kernel
theorem dX7_lacks_5 : decode cX7_lacks 5 = .ok (.iaload, 1) := by decide +kernel
theorem dX7_lacks_6 : decode cX7_lacks 6 = .ok (.ifCond .ge 9, 3) := by decide +kernel
theorem dX7_lacks_9 : decode cX7_lacks 9 = .ok (.aload_n 0, 1) := by decide +kernel
theorem dX7_lacks_10 : decode cX7_lacks 10 = .ok (.iconst 1, 1) := by decide +kernel
theorem dX7_lacks_11 : decode cX7_lacks 11 = .ok (.invokevirtual 65, 3) := by decide +kernel
theorem dX7_lacks_14 : decode cX7_lacks 14 = .ok (.ireturn, 1) := by decide +kernel
theorem dX7_lacks_15 : decode cX7_lacks 15 = .ok (.iload_n 2, 1) := by decide +kernel
theorem dX7_lacks_16 : decode cX7_lacks 16 = .ok (.i2l, 1) := by decide +kernel
theorem dX7_lacks_17 : decode cX7_lacks 17 = .ok (.lconst 0, 1) := by decide +kernel
theorem dX7_lacks_18 : decode cX7_lacks 18 = .ok (.aload_n 0, 1) := by decide +kernel
theorem dX7_lacks_19 : decode cX7_lacks 19 = .ok (.getfield 13, 3) := by decide +kernel
theorem dX7_lacks_22 : decode cX7_lacks 22 = .ok (.iload_n 1, 1) := by decide +kernel
theorem dX7_lacks_23 : decode cX7_lacks 23 = .ok (.iaload, 1) := by decide +kernel
theorem dX7_lacks_24 : decode cX7_lacks 24 = .ok (.iload_n 3, 1) := by decide +kernel
theorem dX7_lacks_25 : decode cX7_lacks 25 = .ok (.isub, 1) := by decide +kernel
theorem dX7_lacks_26 : decode cX7_lacks 26 = .ok (.i2l, 1) := by decide +kernel
theorem dX7_lacks_27 : decode cX7_lacks 27 = .ok (.invokestatic 54, 3) := by decide +kernel
theorem dX7_lacks_30 : decode cX7_lacks 30 = .ok (.ifCond .eq 7, 3) := by decide +kernel
theorem dX7_lacks_33 : decode cX7_lacks 33 = .ok (.iconst 0, 1) := by decide +kernel
theorem dX7_lacks_34 : decode cX7_lacks 34 = .ok (.goto 8, 3) := by decide +kernel
theorem dX7_lacks_37 : decode cX7_lacks 37 = .ok (.aload_n 0, 1) := by decide +kernel
theorem dX7_lacks_38 : decode cX7_lacks 38 = .ok (.iconst 2, 1) := by decide +kernel
theorem dX7_lacks_39 : decode cX7_lacks 39 = .ok (.invokevirtual 65, 3) := by decide +kernel
theorem dX7_lacks_42 : decode cX7_lacks 42 = .ok (.ireturn, 1) := by decide +kernel
theorem dX7_isSo_0 : decode cX7_isSo 0 = .ok (.iconst 1, 1) := by decide +kernel
theorem dX7_isSo_1 : decode cX7_isSo 1 = .ok (.istore 4, 2) := by decide +kernel
theorem dX7_isSo_3 : decode cX7_isSo 3 = .ok (.iconst 0, 1) := by decide +kernel
theorem dX7_isSo_4 : decode cX7_isSo 4 = .ok (.istore 5, 2) := by decide +kernel
theorem dX7_isSo_6 : decode cX7_isSo 6 = .ok (.iload 5, 2) := by decide +kernel
theorem dX7_isSo_8 : decode cX7_isSo 8 = .ok (.iload_n 3, 1) := by decide +kernel
theorem dX7_isSo_9 : decode cX7_isSo 9 = .ok (.if_icmp .ge 46, 3) := by decide +kernel
theorem dX7_isSo_12 : decode cX7_isSo 12 = .ok (.aload_n 0, 1) := by decide +kernel
theorem dX7_isSo_13 : decode cX7_isSo 13 = .ok (.invokevirtual 158, 3) := by decide +kernel
theorem dX7_isSo_16 : decode cX7_isSo 16 = .ok (.iload 4, 2) := by decide +kernel
theorem dX7_isSo_18 : decode cX7_isSo 18 = .ok (.ifCond .eq 28, 3) := by decide +kernel
theorem dX7_isSo_21 : decode cX7_isSo 21 = .ok (.aload_n 0, 1) := by decide +kernel
theorem dX7_isSo_22 : decode cX7_isSo 22 = .ok (.getfield 16, 3) := by decide +kernel
theorem dX7_isSo_25 : decode cX7_isSo 25 = .ok (.iload_n 2, 1) := by decide +kernel
theorem dX7_isSo_26 : decode cX7_isSo 26 = .ok (.iload 5, 2) := by decide +kernel
theorem dX7_isSo_28 : decode cX7_isSo 28 = .ok (.iadd, 1) := by decide +kernel
theorem dX7_isSo_29 : decode cX7_isSo 29 = .ok (.iaload, 1) := by decide +kernel
theorem dX7_isSo_30 : decode cX7_isSo 30 = .ok (.aload_n 0, 1) := by decide +kernel
theorem dX7_isSo_31 : decode cX7_isSo 31 = .ok (.getfield 19, 3) := by decide +kernel
theorem dX7_isSo_34 : decode cX7_isSo 34 = .ok (.bipush 18, 2) := by decide +kernel
theorem dX7_isSo_36 : decode cX7_isSo 36 = .ok (.iload_n 1, 1) := by decide +kernel
theorem dX7_isSo_37 : decode cX7_isSo 37 = .ok (.iadd, 1) := by decide +kernel
theorem dX7_isSo_38 : decode cX7_isSo 38 = .ok (.iaload, 1) := by decide +kernel
theorem dX7_isSo_39 : decode cX7_isSo 39 = .ok (.if_icmp .ne 7, 3) := by decide +kernel
theorem dX7_isSo_42 : decode cX7_isSo 42 = .ok (.iconst 1, 1) := by decide +kernel
theorem dX7_isSo_43 : decode cX7_isSo 43 = .ok (.goto 4, 3) := by decide +kernel
theorem dX7_isSo_46 : decode cX7_isSo 46 = .ok (.iconst 0, 1) := by decide +kernel
theorem dX7_isSo_47 : decode cX7_isSo 47 = .ok (.istore 4, 2) := by decide +kernel
theorem dX7_isSo_49 : decode cX7_isSo 49 = .ok (.iinc 5 1, 3) := by decide +kernel
theorem dX7_isSo_52 : decode cX7_isSo 52 = .ok (.goto (-46), 3) := by decide +kernel
theorem dX7_isSo_55 : decode cX7_isSo 55 = .ok (.aload_n 0, 1) := by decide +kernel
theorem dX7_isSo_56 : decode cX7_isSo 56 = .ok (.invokevirtual 200, 3) := by decide +kernel
theorem dX7_isSo_59 : decode cX7_isSo 59 = .ok (.iload 4, 2) := by decide +kernel
theorem dX7_isSo_61 : decode cX7_isSo 61 = .ok (.ireturn, 1) := by decide +kernel
theorem dX7_grown_0 : decode cX7_grown 0 = .ok (.aload_n 0, 1) := by decide +kernel
theorem dX7_grown_1 : decode cX7_grown 1 = .ok (.iload_n 1, 1) := by decide +kernel
theorem dX7_grown_2 : decode cX7_grown 2 = .ok (.invokevirtual 165, 3) := by decide +kernel
theorem dX7_grown_5 : decode cX7_grown 5 = .ok (.ifCond .eq 35, 3) := by decide +kernel
theorem dX7_grown_8 : decode cX7_grown 8 = .ok (.iload_n 2, 1) := by decide +kernel
theorem dX7_grown_9 : decode cX7_grown 9 = .ok (.i2l, 1) := by decide +kernel
theorem dX7_grown_10 : decode cX7_grown 10 = .ok (.lconst 0, 1) := by decide +kernel
theorem dX7_grown_11 : decode cX7_grown 11 = .ok (.ldc2_w 62, 3) := by decide +kernel
theorem dX7_grown_14 : decode cX7_grown 14 = .ok (.invokestatic 54, 3) := by decide +kernel
theorem dX7_grown_17 : decode cX7_grown 17 = .ok (.ifCond .eq 23, 3) := by decide +kernel
theorem dX7_grown_20 : decode cX7_grown 20 = .ok (.iload_n 3, 1) := by decide +kernel
theorem dX7_grown_21 : decode cX7_grown 21 = .ok (.invokestatic 58, 3) := by decide +kernel
theorem dX7_grown_24 : decode cX7_grown 24 = .ok (.ifCond .eq 16, 3) := by decide +kernel
theorem dX7_grown_27 : decode cX7_grown 27 = .ok (.iload 5, 2) := by decide +kernel
theorem dX7_grown_29 : decode cX7_grown 29 = .ok (.i2l, 1) := by decide +kernel
theorem dX7_grown_30 : decode cX7_grown 30 = .ok (.lconst 1, 1) := by decide +kernel
theorem dX7_grown_31 : decode cX7_grown 31 = .ok (.ldc2_w 232, 3) := by decide +kernel
theorem dX7_grown_34 : decode cX7_grown 34 = .ok (.invokestatic 54, 3) := by decide +kernel
theorem dX7_grown_37 : decode cX7_grown 37 = .ok (.ifCond .ne 8, 3) := by decide +kernel
theorem dX7_grown_40 : decode cX7_grown 40 = .ok (.ldc 64, 2) := by decide +kernel
theorem dX7_grown_42 : decode cX7_grown 42 = .ok (.goto 12, 3) := by decide +kernel
theorem dX7_grown_45 : decode cX7_grown 45 = .ok (.aload_n 0, 1) := by decide +kernel
theorem dX7_grown_46 : decode cX7_grown 46 = .ok (.iload_n 3, 1) := by decide +kernel
theorem dX7_grown_47 : decode cX7_grown 47 = .ok (.iload 4, 2) := by decide +kernel
theorem dX7_grown_49 : decode cX7_grown 49 = .ok (.iload 5, 2) := by decide +kernel
theorem dX7_grown_51 : decode cX7_grown 51 = .ok (.invokevirtual 234, 3) := by decide +kernel
theorem dX7_grown_54 : decode cX7_grown 54 = .ok (.istore 6, 2) := by decide +kernel
theorem dX7_grown_56 : decode cX7_grown 56 = .ok (.iload 6, 2) := by decide +kernel
theorem dX7_grown_58 : decode cX7_grown 58 = .ok (.ifCond .ge 6, 3) := by decide +kernel
theorem dX7_grown_61 : decode cX7_grown 61 = .ok (.iload 6, 2) := by decide +kernel
theorem dX7_grown_63 : decode cX7_grown 63 = .ok (.ireturn, 1) := by decide +kernel
theorem dX7_grown_64 : decode cX7_grown 64 = .ok (.aload_n 0, 1) := by decide +kernel
theorem dX7_grown_65 : decode cX7_grown 65 = .ok (.invokevirtual 193, 3) := by decide +kernel
theorem dX7_grown_68 : decode cX7_grown 68 = .ok (.iload_n 2, 1) := by decide +kernel
theorem dX7_grown_69 : decode cX7_grown 69 = .ok (.ifCond .ne 10, 3) := by decide +kernel
theorem dX7_grown_72 : decode cX7_grown 72 = .ok (.bipush 9, 2) := by decide +kernel
theorem dX7_grown_74 : decode cX7_grown 74 = .ok (.iload_n 1, 1) := by decide +kernel
theorem dX7_grown_75 : decode cX7_grown 75 = .ok (.iadd, 1) := by decide +kernel
theorem dX7_grown_76 : decode cX7_grown 76 = .ok (.goto 16, 3) := by decide +kernel
theorem dX7_grown_79 : decode cX7_grown 79 = .ok (.iload_n 2, 1) := by decide +kernel
theorem dX7_grown_80 : decode cX7_grown 80 = .ok (.iconst 1, 1) := by decide +kernel
theorem dX7_grown_81 : decode cX7_grown 81 = .ok (.if_icmp .ne 10, 3) := by decide +kernel
theorem dX7_grown_84 : decode cX7_grown 84 = .ok (.bipush 27, 2) := by decide +kernel
theorem dX7_grown_86 : decode cX7_grown 86 = .ok (.iload_n 1, 1) := by decide +kernel
theorem dX7_grown_87 : decode cX7_grown 87 = .ok (.iadd, 1) := by decide +kernel
theorem dX7_grown_88 : decode cX7_grown 88 = .ok (.goto 4, 3) := by decide +kernel
theorem dX7_grown_91 : decode cX7_grown 91 = .ok (.iconst 3, 1) := by decide +kernel
theorem dX7_grown_92 : decode cX7_grown 92 = .ok (.istore 7, 2) := by decide +kernel
theorem dX7_grown_94 : decode cX7_grown 94 = .ok (.iconst 0, 1) := by decide +kernel
theorem dX7_grown_95 : decode cX7_grown 95 = .ok (.istore 8, 2) := by decide +kernel
theorem dX7_grown_97 : decode cX7_grown 97 = .ok (.iload_n 2, 1) := by decide +kernel
theorem dX7_grown_98 : decode cX7_grown 98 = .ok (.iconst 1, 1) := by decide +kernel
theorem dX7_grown_99 : decode cX7_grown 99 = .ok (.if_icmp .ne 7, 3) := by decide +kernel
theorem dX7_grown_102 : decode cX7_grown 102 = .ok (.iconst 0, 1) := by decide +kernel
theorem dX7_grown_103 : decode cX7_grown 103 = .ok (.goto 4, 3) := by decide +kernel
theorem dX7_grown_106 : decode cX7_grown 106 = .ok (.iconst 1, 1) := by decide +kernel
theorem dX7_grown_107 : decode cX7_grown 107 = .ok (.istore 9, 2) := by decide +kernel
theorem dX7_grown_109 : decode cX7_grown 109 = .ok (.iload 9, 2) := by decide +kernel
theorem dX7_grown_111 : decode cX7_grown 111 = .ok (.iload_n 2, 1) := by decide +kernel
theorem dX7_grown_112 : decode cX7_grown 112 = .ok (.ifCond .ne 7, 3) := by decide +kernel
theorem dX7_grown_115 : decode cX7_grown 115 = .ok (.iconst 5, 1) := by decide +kernel
theorem dX7_grown_116 : decode cX7_grown 116 = .ok (.goto 5, 3) := by decide +kernel
theorem dX7_grown_119 : decode cX7_grown 119 = .ok (.bipush 9, 2) := by decide +kernel
theorem dX7_grown_121 : decode cX7_grown 121 = .ok (.if_icmp .gt 48, 3) := by decide +kernel
theorem dX7_grown_124 : decode cX7_grown 124 = .ok (.aload_n 0, 1) := by decide +kernel
theorem dX7_grown_125 : decode cX7_grown 125 = .ok (.getfield 19, 3) := by decide +kernel
theorem dX7_grown_128 : decode cX7_grown 128 = .ok (.iload 7, 2) := by decide +kernel
theorem dX7_grown_130 : decode cX7_grown 130 = .ok (.iload 9, 2) := by decide +kernel
theorem dX7_grown_132 : decode cX7_grown 132 = .ok (.iastore, 1) := by decide +kernel
theorem dX7_grown_133 : decode cX7_grown 133 = .ok (.iload 8, 2) := by decide +kernel
theorem dX7_grown_135 : decode cX7_grown 135 = .ok (.aload_n 0, 1) := by decide +kernel
theorem dX7_grown_136 : decode cX7_grown 136 = .ok (.iload_n 1, 1) := by decide +kernel
theorem dX7_grown_137 : decode cX7_grown 137 = .ok (.bipush 40, 2) := by decide +kernel
theorem dX7_grown_139 : decode cX7_grown 139 = .ok (.iload_n 3, 1) := by decide +kernel
theorem dX7_grown_140 : decode cX7_grown 140 = .ok (.imul, 1) := by decide +kernel
theorem dX7_grown_141 : decode cX7_grown 141 = .ok (.iload 4, 2) := by decide +kernel
theorem dX7_grown_143 : decode cX7_grown 143 = .ok (.iadd, 1) := by decide +kernel
theorem dX7_grown_144 : decode cX7_grown 144 = .ok (.iload 5, 2) := by decide +kernel
theorem dX7_grown_146 : decode cX7_grown 146 = .ok (.invokevirtual 237, 3) := by decide +kernel
theorem dX7_grown_149 : decode cX7_grown 149 = .ok (.ifCond .eq 10, 3) := by decide +kernel
theorem dX7_grown_152 : decode cX7_grown 152 = .ok (.iconst 1, 1) := by decide +kernel
theorem dX7_grown_153 : decode cX7_grown 153 = .ok (.iload 9, 2) := by decide +kernel
theorem dX7_grown_155 : decode cX7_grown 155 = .ok (.ishl, 1) := by decide +kernel
theorem dX7_grown_156 : decode cX7_grown 156 = .ok (.goto 4, 3) := by decide +kernel
theorem dX7_grown_159 : decode cX7_grown 159 = .ok (.iconst 0, 1) := by decide +kernel
theorem dX7_grown_160 : decode cX7_grown 160 = .ok (.ior, 1) := by decide +kernel
theorem dX7_grown_161 : decode cX7_grown 161 = .ok (.istore 8, 2) := by decide +kernel
theorem dX7_grown_163 : decode cX7_grown 163 = .ok (.iinc 9 1, 3) := by decide +kernel
theorem dX7_grown_166 : decode cX7_grown 166 = .ok (.goto (-57), 3) := by decide +kernel
theorem dX7_grown_169 : decode cX7_grown 169 = .ok (.aload_n 0, 1) := by decide +kernel
theorem dX7_grown_170 : decode cX7_grown 170 = .ok (.iload 8, 2) := by decide +kernel
theorem dX7_grown_172 : decode cX7_grown 172 = .ok (.invokevirtual 69, 3) := by decide +kernel
theorem dX7_grown_175 : decode cX7_grown 175 = .ok (.ireturn, 1) := by decide +kernel
theorem dX7_lain_0 : decode cX7_lain 0 = .ok (.aload_n 0, 1) := by decide +kernel
theorem dX7_lain_1 : decode cX7_lain 1 = .ok (.getfield 132, 3) := by decide +kernel
theorem dX7_lain_4 : decode cX7_lain 4 = .ok (.ifCond .ne 6, 3) := by decide +kernel
theorem dX7_lain_7 : decode cX7_lain 7 = .ok (.ldc 152, 2) := by decide +kernel
theorem dX7_lain_9 : decode cX7_lain 9 = .ok (.ireturn, 1) := by decide +kernel
theorem dX7_lain_10 : decode cX7_lain 10 = .ok (.iload_n 1, 1) := by decide +kernel
theorem dX7_lain_11 : decode cX7_lain 11 = .ok (.invokestatic 179, 3) := by decide +kernel
theorem dX7_lain_14 : decode cX7_lain 14 = .ok (.ifCond .eq 10, 3) := by decide +kernel
theorem dX7_lain_17 : decode cX7_lain 17 = .ok (.iload_n 2, 1) := by decide +kernel
theorem dX7_lain_18 : decode cX7_lain 18 = .ok (.invokestatic 58, 3) := by decide +kernel
theorem dX7_lain_21 : decode cX7_lain 21 = .ok (.ifCond .ne 8, 3) := by decide +kernel
theorem dX7_lain_24 : decode cX7_lain 24 = .ok (.ldc 64, 2) := by decide +kernel
theorem dX7_lain_26 : decode cX7_lain 26 = .ok (.goto 15, 3) := by decide +kernel
theorem dX7_lain_29 : decode cX7_lain 29 = .ok (.aload_n 0, 1) := by decide +kernel
theorem dX7_lain_30 : decode cX7_lain 30 = .ok (.iload_n 2, 1) := by decide +kernel
theorem dX7_lain_31 : decode cX7_lain 31 = .ok (.iload_n 3, 1) := by decide +kernel
theorem dX7_lain_32 : decode cX7_lain 32 = .ok (.aload_n 0, 1) := by decide +kernel
theorem dX7_lain_33 : decode cX7_lain 33 = .ok (.getfield 19, 3) := by decide +kernel
theorem dX7_lain_36 : decode cX7_lain 36 = .ok (.iconst 0, 1) := by decide +kernel
theorem dX7_lain_37 : decode cX7_lain 37 = .ok (.iaload, 1) := by decide +kernel
theorem dX7_lain_38 : decode cX7_lain 38 = .ok (.invokevirtual 234, 3) := by decide +kernel
theorem dX7_lain_41 : decode cX7_lain 41 = .ok (.istore 4, 2) := by decide +kernel
theorem dX7_lain_43 : decode cX7_lain 43 = .ok (.iload 4, 2) := by decide +kernel
theorem dX7_lain_45 : decode cX7_lain 45 = .ok (.ifCond .ge 6, 3) := by decide +kernel
theorem dX7_lain_48 : decode cX7_lain 48 = .ok (.iload 4, 2) := by decide +kernel
theorem dX7_lain_50 : decode cX7_lain 50 = .ok (.ireturn, 1) := by decide +kernel
theorem dX7_lain_51 : decode cX7_lain 51 = .ok (.aload_n 0, 1) := by decide +kernel
theorem dX7_lain_52 : decode cX7_lain 52 = .ok (.getfield 19, 3) := by decide +kernel
theorem dX7_lain_55 : decode cX7_lain 55 = .ok (.iconst 1, 1) := by decide +kernel
theorem dX7_lain_56 : decode cX7_lain 56 = .ok (.iload_n 1, 1) := by decide +kernel
theorem dX7_lain_57 : decode cX7_lain 57 = .ok (.iadd, 1) := by decide +kernel
theorem dX7_lain_58 : decode cX7_lain 58 = .ok (.iaload, 1) := by decide +kernel
theorem dX7_lain_59 : decode cX7_lain 59 = .ok (.istore 5, 2) := by decide +kernel
theorem dX7_lain_61 : decode cX7_lain 61 = .ok (.iconst 0, 1) := by decide +kernel
theorem dX7_lain_62 : decode cX7_lain 62 = .ok (.istore 6, 2) := by decide +kernel
theorem dX7_lain_64 : decode cX7_lain 64 = .ok (.iconst 0, 1) := by decide +kernel
theorem dX7_lain_65 : decode cX7_lain 65 = .ok (.istore 7, 2) := by decide +kernel
theorem dX7_lain_67 : decode cX7_lain 67 = .ok (.iload 7, 2) := by decide +kernel
theorem dX7_lain_69 : decode cX7_lain 69 = .ok (.bipush 9, 2) := by decide +kernel
theorem dX7_lain_71 : decode cX7_lain 71 = .ok (.if_icmp .ge 95, 3) := by decide +kernel
theorem dX7_lain_74 : decode cX7_lain 74 = .ok (.aload_n 0, 1) := by decide +kernel
theorem dX7_lain_75 : decode cX7_lain 75 = .ok (.getfield 19, 3) := by decide +kernel
theorem dX7_lain_78 : decode cX7_lain 78 = .ok (.iconst 1, 1) := by decide +kernel
theorem dX7_lain_79 : decode cX7_lain 79 = .ok (.iload_n 1, 1) := by decide +kernel
theorem dX7_lain_80 : decode cX7_lain 80 = .ok (.iadd, 1) := by decide +kernel
theorem dX7_lain_81 : decode cX7_lain 81 = .ok (.iload 7, 2) := by decide +kernel
theorem dX7_lain_83 : decode cX7_lain 83 = .ok (.iastore, 1) := by decide +kernel
theorem dX7_lain_84 : decode cX7_lain 84 = .ok (.iconst 1, 1) := by decide +kernel
theorem dX7_lain_85 : decode cX7_lain 85 = .ok (.istore 8, 2) := by decide +kernel
theorem dX7_lain_87 : decode cX7_lain 87 = .ok (.iconst 0, 1) := by decide +kernel
theorem dX7_lain_88 : decode cX7_lain 88 = .ok (.istore 9, 2) := by decide +kernel
theorem dX7_lain_90 : decode cX7_lain 90 = .ok (.iload 9, 2) := by decide +kernel
theorem dX7_lain_92 : decode cX7_lain 92 = .ok (.aload_n 0, 1) := by decide +kernel
theorem dX7_lain_93 : decode cX7_lain 93 = .ok (.getfield 19, 3) := by decide +kernel
theorem dX7_lain_96 : decode cX7_lain 96 = .ok (.iconst 0, 1) := by decide +kernel
theorem dX7_lain_97 : decode cX7_lain 97 = .ok (.iaload, 1) := by decide +kernel
theorem dX7_lain_98 : decode cX7_lain 98 = .ok (.if_icmp .ge 44, 3) := by decide +kernel
theorem dX7_lain_101 : decode cX7_lain 101 = .ok (.iload 8, 2) := by decide +kernel
theorem dX7_lain_103 : decode cX7_lain 103 = .ok (.ifCond .eq 30, 3) := by decide +kernel
theorem dX7_lain_106 : decode cX7_lain 106 = .ok (.aload_n 0, 1) := by decide +kernel
theorem dX7_lain_107 : decode cX7_lain 107 = .ok (.getfield 16, 3) := by decide +kernel
theorem dX7_lain_110 : decode cX7_lain 110 = .ok (.bipush 40, 2) := by decide +kernel
theorem dX7_lain_112 : decode cX7_lain 112 = .ok (.iload_n 2, 1) := by decide +kernel
theorem dX7_lain_113 : decode cX7_lain 113 = .ok (.imul, 1) := by decide +kernel
theorem dX7_lain_114 : decode cX7_lain 114 = .ok (.iload_n 3, 1) := by decide +kernel
theorem dX7_lain_115 : decode cX7_lain 115 = .ok (.iadd, 1) := by decide +kernel
theorem dX7_lain_116 : decode cX7_lain 116 = .ok (.iload 9, 2) := by decide +kernel
theorem dX7_lain_118 : decode cX7_lain 118 = .ok (.iadd, 1) := by decide +kernel
theorem dX7_lain_119 : decode cX7_lain 119 = .ok (.iaload, 1) := by decide +kernel
theorem dX7_lain_120 : decode cX7_lain 120 = .ok (.aload_n 0, 1) := by decide +kernel
theorem dX7_lain_121 : decode cX7_lain 121 = .ok (.iload 9, 2) := by decide +kernel
theorem dX7_lain_123 : decode cX7_lain 123 = .ok (.invokevirtual 149, 3) := by decide +kernel
theorem dX7_lain_126 : decode cX7_lain 126 = .ok (.if_icmp .ne 7, 3) := by decide +kernel
theorem dX7_lain_129 : decode cX7_lain 129 = .ok (.iconst 1, 1) := by decide +kernel
theorem dX7_lain_130 : decode cX7_lain 130 = .ok (.goto 4, 3) := by decide +kernel
theorem dX7_lain_133 : decode cX7_lain 133 = .ok (.iconst 0, 1) := by decide +kernel
theorem dX7_lain_134 : decode cX7_lain 134 = .ok (.istore 8, 2) := by decide +kernel
theorem dX7_lain_136 : decode cX7_lain 136 = .ok (.iinc 9 1, 3) := by decide +kernel
theorem dX7_lain_139 : decode cX7_lain 139 = .ok (.goto (-49), 3) := by decide +kernel
theorem dX7_lain_142 : decode cX7_lain 142 = .ok (.iload 6, 2) := by decide +kernel
theorem dX7_lain_144 : decode cX7_lain 144 = .ok (.iload 8, 2) := by decide +kernel
theorem dX7_lain_146 : decode cX7_lain 146 = .ok (.ifCond .eq 10, 3) := by decide +kernel
theorem dX7_lain_149 : decode cX7_lain 149 = .ok (.iconst 1, 1) := by decide +kernel
theorem dX7_lain_150 : decode cX7_lain 150 = .ok (.iload 7, 2) := by decide +kernel
theorem dX7_lain_152 : decode cX7_lain 152 = .ok (.ishl, 1) := by decide +kernel
theorem dX7_lain_153 : decode cX7_lain 153 = .ok (.goto 4, 3) := by decide +kernel
theorem dX7_lain_156 : decode cX7_lain 156 = .ok (.iconst 0, 1) := by decide +kernel
theorem dX7_lain_157 : decode cX7_lain 157 = .ok (.ior, 1) := by decide +kernel
theorem dX7_lain_158 : decode cX7_lain 158 = .ok (.istore 6, 2) := by decide +kernel
theorem dX7_lain_160 : decode cX7_lain 160 = .ok (.iinc 7 1, 3) := by decide +kernel
theorem dX7_lain_163 : decode cX7_lain 163 = .ok (.goto (-96), 3) := by decide +kernel
theorem dX7_lain_166 : decode cX7_lain 166 = .ok (.aload_n 0, 1) := by decide +kernel
theorem dX7_lain_167 : decode cX7_lain 167 = .ok (.getfield 19, 3) := by decide +kernel
theorem dX7_lain_170 : decode cX7_lain 170 = .ok (.iconst 1, 1) := by decide +kernel
theorem dX7_lain_171 : decode cX7_lain 171 = .ok (.iload_n 1, 1) := by decide +kernel
theorem dX7_lain_172 : decode cX7_lain 172 = .ok (.iadd, 1) := by decide +kernel
theorem dX7_lain_173 : decode cX7_lain 173 = .ok (.iload 5, 2) := by decide +kernel
theorem dX7_lain_175 : decode cX7_lain 175 = .ok (.iastore, 1) := by decide +kernel
theorem dX7_lain_176 : decode cX7_lain 176 = .ok (.aload_n 0, 1) := by decide +kernel
theorem dX7_lain_177 : decode cX7_lain 177 = .ok (.iload 6, 2) := by decide +kernel
theorem dX7_lain_179 : decode cX7_lain 179 = .ok (.invokevirtual 69, 3) := by decide +kernel
theorem dX7_lain_182 : decode cX7_lain 182 = .ok (.ireturn, 1) := by decide +kernel
theorem dX7_flood_0 : decode cX7_flood 0 = .ok (.aload_n 0, 1) := by decide +kernel
theorem dX7_flood_1 : decode cX7_flood 1 = .ok (.getfield 132, 3) := by decide +kernel
theorem dX7_flood_4 : decode cX7_flood 4 = .ok (.ifCond .ne 7, 3) := by decide +kernel
theorem dX7_flood_7 : decode cX7_flood 7 = .ok (.ldc2_w 241, 3) := by decide +kernel
theorem dX7_flood_10 : decode cX7_flood 10 = .ok (.lreturn, 1) := by decide +kernel
theorem dX7_flood_11 : decode cX7_flood 11 = .ok (.iload_n 1, 1) := by decide +kernel
theorem dX7_flood_12 : decode cX7_flood 12 = .ok (.invokestatic 179, 3) := by decide +kernel
theorem dX7_flood_15 : decode cX7_flood 15 = .ok (.ifCond .eq 22, 3) := by decide +kernel
theorem dX7_flood_18 : decode cX7_flood 18 = .ok (.iload_n 2, 1) := by decide +kernel
theorem dX7_flood_19 : decode cX7_flood 19 = .ok (.i2l, 1) := by decide +kernel
theorem dX7_flood_20 : decode cX7_flood 20 = .ok (.lconst 0, 1) := by decide +kernel
theorem dX7_flood_21 : decode cX7_flood 21 = .ok (.ldc2_w 243, 3) := by decide +kernel
theorem dX7_flood_24 : decode cX7_flood 24 = .ok (.invokestatic 54, 3) := by decide +kernel
theorem dX7_flood_27 : decode cX7_flood 27 = .ok (.ifCond .eq 10, 3) := by decide +kernel
theorem dX7_flood_30 : decode cX7_flood 30 = .ok (.iload_n 3, 1) := by decide +kernel
theorem dX7_flood_31 : decode cX7_flood 31 = .ok (.invokestatic 213, 3) := by decide +kernel
theorem dX7_flood_34 : decode cX7_flood 34 = .ok (.ifCond .ne 7, 3) := by decide +kernel
theorem dX7_flood_37 : decode cX7_flood 37 = .ok (.ldc2_w 245, 3) := by decide +kernel
theorem dX7_flood_40 : decode cX7_flood 40 = .ok (.lreturn, 1) := by decide +kernel
theorem dX7_flood_41 : decode cX7_flood 41 = .ok (.iconst 1, 1) := by decide +kernel
theorem dX7_flood_42 : decode cX7_flood 42 = .ok (.aload_n 0, 1) := by decide +kernel
theorem dX7_flood_43 : decode cX7_flood 43 = .ok (.getfield 19, 3) := by decide +kernel
theorem dX7_flood_46 : decode cX7_flood 46 = .ok (.iconst 0, 1) := by decide +kernel
theorem dX7_flood_47 : decode cX7_flood 47 = .ok (.iaload, 1) := by decide +kernel
theorem dX7_flood_48 : decode cX7_flood 48 = .ok (.ishl, 1) := by decide +kernel
theorem dX7_flood_49 : decode cX7_flood 49 = .ok (.iconst 1, 1) := by decide +kernel
theorem dX7_flood_50 : decode cX7_flood 50 = .ok (.isub, 1) := by decide +kernel
theorem dX7_flood_51 : decode cX7_flood 51 = .ok (.aload_n 0, 1) := by decide +kernel
theorem dX7_flood_52 : decode cX7_flood 52 = .ok (.getfield 19, 3) := by decide +kernel
theorem dX7_flood_55 : decode cX7_flood 55 = .ok (.iconst 5, 1) := by decide +kernel
theorem dX7_flood_56 : decode cX7_flood 56 = .ok (.iaload, 1) := by decide +kernel
theorem dX7_flood_57 : decode cX7_flood 57 = .ok (.iconst (-1), 1) := by decide +kernel
theorem dX7_flood_58 : decode cX7_flood 58 = .ok (.ixor, 1) := by decide +kernel
theorem dX7_flood_59 : decode cX7_flood 59 = .ok (.iand, 1) := by decide +kernel
theorem dX7_flood_60 : decode cX7_flood 60 = .ok (.istore 4, 2) := by decide +kernel
theorem dX7_flood_62 : decode cX7_flood 62 = .ok (.lconst 0, 1) := by decide +kernel
theorem dX7_flood_63 : decode cX7_flood 63 = .ok (.lstore 5, 2) := by decide +kernel
theorem dX7_flood_65 : decode cX7_flood 65 = .ok (.lconst 1, 1) := by decide +kernel
theorem dX7_flood_66 : decode cX7_flood 66 = .ok (.lstore 7, 2) := by decide +kernel
theorem dX7_flood_68 : decode cX7_flood 68 = .ok (.iload 4, 2) := by decide +kernel
theorem dX7_flood_70 : decode cX7_flood 70 = .ok (.invokestatic 222, 3) := by decide +kernel
theorem dX7_flood_73 : decode cX7_flood 73 = .ok (.istore 9, 2) := by decide +kernel
theorem dX7_flood_75 : decode cX7_flood 75 = .ok (.iload 9, 2) := by decide +kernel
theorem dX7_flood_77 : decode cX7_flood 77 = .ok (.ifCond .le 17, 3) := by decide +kernel
theorem dX7_flood_80 : decode cX7_flood 80 = .ok (.lload 7, 2) := by decide +kernel
theorem dX7_flood_82 : decode cX7_flood 82 = .ok (.ldc2_w 243, 3) := by decide +kernel
theorem dX7_flood_85 : decode cX7_flood 85 = .ok (.lmul, 1) := by decide +kernel
theorem dX7_flood_86 : decode cX7_flood 86 = .ok (.lstore 7, 2) := by decide +kernel
theorem dX7_flood_88 : decode cX7_flood 88 = .ok (.iinc 9 (-1), 3) := by decide +kernel
theorem dX7_flood_91 : decode cX7_flood 91 = .ok (.goto (-16), 3) := by decide +kernel
theorem dX7_flood_94 : decode cX7_flood 94 = .ok (.iconst 0, 1) := by decide +kernel
theorem dX7_flood_95 : decode cX7_flood 95 = .ok (.istore 9, 2) := by decide +kernel
theorem dX7_flood_97 : decode cX7_flood 97 = .ok (.iload 9, 2) := by decide +kernel
theorem dX7_flood_99 : decode cX7_flood 99 = .ok (.iload 4, 2) := by decide +kernel
theorem dX7_flood_101 : decode cX7_flood 101 = .ok (.if_icmp .gt 148, 3) := by decide +kernel
theorem dX7_flood_104 : decode cX7_flood 104 = .ok (.iload 9, 2) := by decide +kernel
theorem dX7_flood_106 : decode cX7_flood 106 = .ok (.iload 4, 2) := by decide +kernel
theorem dX7_flood_108 : decode cX7_flood 108 = .ok (.iconst (-1), 1) := by decide +kernel
theorem dX7_flood_109 : decode cX7_flood 109 = .ok (.ixor, 1) := by decide +kernel
theorem dX7_flood_110 : decode cX7_flood 110 = .ok (.iand, 1) := by decide +kernel
theorem dX7_flood_111 : decode cX7_flood 111 = .ok (.ifCond .ne 132, 3) := by decide +kernel
theorem dX7_flood_114 : decode cX7_flood 114 = .ok (.lconst 1, 1) := by decide +kernel
theorem dX7_flood_115 : decode cX7_flood 115 = .ok (.lstore 10, 2) := by decide +kernel
theorem dX7_flood_117 : decode cX7_flood 117 = .ok (.iconst 0, 1) := by decide +kernel
theorem dX7_flood_118 : decode cX7_flood 118 = .ok (.istore 12, 2) := by decide +kernel
theorem dX7_flood_120 : decode cX7_flood 120 = .ok (.iload 12, 2) := by decide +kernel
theorem dX7_flood_122 : decode cX7_flood 122 = .ok (.aload_n 0, 1) := by decide +kernel
theorem dX7_flood_123 : decode cX7_flood 123 = .ok (.getfield 19, 3) := by decide +kernel
theorem dX7_flood_126 : decode cX7_flood 126 = .ok (.iconst 0, 1) := by decide +kernel
theorem dX7_flood_127 : decode cX7_flood 127 = .ok (.iaload, 1) := by decide +kernel
theorem dX7_flood_128 : decode cX7_flood 128 = .ok (.if_icmp .ge 48, 3) := by decide +kernel
theorem dX7_flood_131 : decode cX7_flood 131 = .ok (.lload 10, 2) := by decide +kernel
theorem dX7_flood_133 : decode cX7_flood 133 = .ok (.iload 4, 2) := by decide +kernel
theorem dX7_flood_135 : decode cX7_flood 135 = .ok (.iload 12, 2) := by decide +kernel
theorem dX7_flood_137 : decode cX7_flood 137 = .ok (.invokestatic 145, 3) := by decide +kernel
theorem dX7_flood_140 : decode cX7_flood 140 = .ok (.ifCond .ne 7, 3) := by decide +kernel
theorem dX7_flood_143 : decode cX7_flood 143 = .ok (.lconst 1, 1) := by decide +kernel
theorem dX7_flood_144 : decode cX7_flood 144 = .ok (.goto 23, 3) := by decide +kernel
theorem dX7_flood_147 : decode cX7_flood 147 = .ok (.iload 9, 2) := by decide +kernel
theorem dX7_flood_149 : decode cX7_flood 149 = .ok (.iload 12, 2) := by decide +kernel
theorem dX7_flood_151 : decode cX7_flood 151 = .ok (.invokestatic 145, 3) := by decide +kernel
theorem dX7_flood_154 : decode cX7_flood 154 = .ok (.ifCond .eq 8, 3) := by decide +kernel
theorem dX7_flood_157 : decode cX7_flood 157 = .ok (.iload_n 2, 1) := by decide +kernel
theorem dX7_flood_158 : decode cX7_flood 158 = .ok (.i2l, 1) := by decide +kernel
theorem dX7_flood_159 : decode cX7_flood 159 = .ok (.goto 8, 3) := by decide +kernel
theorem dX7_flood_162 : decode cX7_flood 162 = .ok (.bipush 10, 2) := by decide +kernel
theorem dX7_flood_164 : decode cX7_flood 164 = .ok (.iload_n 2, 1) := by decide +kernel
theorem dX7_flood_165 : decode cX7_flood 165 = .ok (.isub, 1) := by decide +kernel
theorem dX7_flood_166 : decode cX7_flood 166 = .ok (.i2l, 1) := by decide +kernel
theorem dX7_flood_167 : decode cX7_flood 167 = .ok (.lmul, 1) := by decide +kernel
theorem dX7_flood_168 : decode cX7_flood 168 = .ok (.lstore 10, 2) := by decide +kernel
theorem dX7_flood_170 : decode cX7_flood 170 = .ok (.iinc 12 1, 3) := by decide +kernel
theorem dX7_flood_173 : decode cX7_flood 173 = .ok (.goto (-53), 3) := by decide +kernel
theorem dX7_flood_176 : decode cX7_flood 176 = .ok (.aload_n 0, 1) := by decide +kernel
theorem dX7_flood_177 : decode cX7_flood 177 = .ok (.getfield 19, 3) := by decide +kernel
theorem dX7_flood_180 : decode cX7_flood 180 = .ok (.bipush 6, 2) := by decide +kernel
theorem dX7_flood_182 : decode cX7_flood 182 = .ok (.iload_n 1, 1) := by decide +kernel
theorem dX7_flood_183 : decode cX7_flood 183 = .ok (.iadd, 1) := by decide +kernel
theorem dX7_flood_184 : decode cX7_flood 184 = .ok (.iaload, 1) := by decide +kernel
theorem dX7_flood_185 : decode cX7_flood 185 = .ok (.aload_n 0, 1) := by decide +kernel
theorem dX7_flood_186 : decode cX7_flood 186 = .ok (.iload_n 1, 1) := by decide +kernel
theorem dX7_flood_187 : decode cX7_flood 187 = .ok (.sipush 511, 3) := by decide +kernel
theorem dX7_flood_190 : decode cX7_flood 190 = .ok (.iload 9, 2) := by decide +kernel
theorem dX7_flood_192 : decode cX7_flood 192 = .ok (.iconst (-1), 1) := by decide +kernel
theorem dX7_flood_193 : decode cX7_flood 193 = .ok (.ixor, 1) := by decide +kernel
theorem dX7_flood_194 : decode cX7_flood 194 = .ok (.iand, 1) := by decide +kernel
theorem dX7_flood_195 : decode cX7_flood 195 = .ok (.invokevirtual 203, 3) := by decide +kernel
theorem dX7_flood_198 : decode cX7_flood 198 = .ok (.iadd, 1) := by decide +kernel
theorem dX7_flood_199 : decode cX7_flood 199 = .ok (.aload_n 0, 1) := by decide +kernel
theorem dX7_flood_200 : decode cX7_flood 200 = .ok (.getfield 19, 3) := by decide +kernel
theorem dX7_flood_203 : decode cX7_flood 203 = .ok (.bipush 7, 2) := by decide +kernel
theorem dX7_flood_205 : decode cX7_flood 205 = .ok (.iload_n 1, 1) := by decide +kernel
theorem dX7_flood_206 : decode cX7_flood 206 = .ok (.isub, 1) := by decide +kernel
theorem dX7_flood_207 : decode cX7_flood 207 = .ok (.iaload, 1) := by decide +kernel
theorem dX7_flood_208 : decode cX7_flood 208 = .ok (.isub, 1) := by decide +kernel
theorem dX7_flood_209 : decode cX7_flood 209 = .ok (.aload_n 0, 1) := by decide +kernel
theorem dX7_flood_210 : decode cX7_flood 210 = .ok (.iconst 1, 1) := by decide +kernel
theorem dX7_flood_211 : decode cX7_flood 211 = .ok (.iload_n 1, 1) := by decide +kernel
theorem dX7_flood_212 : decode cX7_flood 212 = .ok (.isub, 1) := by decide +kernel
theorem dX7_flood_213 : decode cX7_flood 213 = .ok (.sipush 511, 3) := by decide +kernel
theorem dX7_flood_216 : decode cX7_flood 216 = .ok (.iload 9, 2) := by decide +kernel
theorem dX7_flood_218 : decode cX7_flood 218 = .ok (.iconst (-1), 1) := by decide +kernel
theorem dX7_flood_219 : decode cX7_flood 219 = .ok (.ixor, 1) := by decide +kernel
theorem dX7_flood_220 : decode cX7_flood 220 = .ok (.iand, 1) := by decide +kernel
theorem dX7_flood_221 : decode cX7_flood 221 = .ok (.invokevirtual 203, 3) := by decide +kernel
theorem dX7_flood_224 : decode cX7_flood 224 = .ok (.isub, 1) := by decide +kernel
theorem dX7_flood_225 : decode cX7_flood 225 = .ok (.istore 12, 2) := by decide +kernel
theorem dX7_flood_227 : decode cX7_flood 227 = .ok (.lload 5, 2) := by decide +kernel
theorem dX7_flood_229 : decode cX7_flood 229 = .ok (.iload 12, 2) := by decide +kernel
theorem dX7_flood_231 : decode cX7_flood 231 = .ok (.ifCond .le 8, 3) := by decide +kernel
theorem dX7_flood_234 : decode cX7_flood 234 = .ok (.lload 10, 2) := by decide +kernel
theorem dX7_flood_236 : decode cX7_flood 236 = .ok (.goto 4, 3) := by decide +kernel
theorem dX7_flood_239 : decode cX7_flood 239 = .ok (.lconst 0, 1) := by decide +kernel
theorem dX7_flood_240 : decode cX7_flood 240 = .ok (.ladd, 1) := by decide +kernel
theorem dX7_flood_241 : decode cX7_flood 241 = .ok (.lstore 5, 2) := by decide +kernel
theorem dX7_flood_243 : decode cX7_flood 243 = .ok (.iinc 9 1, 3) := by decide +kernel
theorem dX7_flood_246 : decode cX7_flood 246 = .ok (.goto (-149), 3) := by decide +kernel
theorem dX7_flood_249 : decode cX7_flood 249 = .ok (.lload 5, 2) := by decide +kernel
theorem dX7_flood_251 : decode cX7_flood 251 = .ok (.lstore 9, 2) := by decide +kernel
theorem dX7_flood_253 : decode cX7_flood 253 = .ok (.lload 7, 2) := by decide +kernel
theorem dX7_flood_255 : decode cX7_flood 255 = .ok (.lstore 11, 2) := by decide +kernel
theorem dX7_flood_257 : decode cX7_flood 257 = .ok (.lload 11, 2) := by decide +kernel
theorem dX7_flood_259 : decode cX7_flood 259 = .ok (.lconst 0, 1) := by decide +kernel
theorem dX7_flood_260 : decode cX7_flood 260 = .ok (.lcmp, 1) := by decide +kernel
theorem dX7_flood_261 : decode cX7_flood 261 = .ok (.ifCond .eq 21, 3) := by decide +kernel
theorem dX7_flood_264 : decode cX7_flood 264 = .ok (.lload 9, 2) := by decide +kernel
theorem dX7_flood_266 : decode cX7_flood 266 = .ok (.lload 11, 2) := by decide +kernel
theorem dX7_flood_268 : decode cX7_flood 268 = .ok (.lrem, 1) := by decide +kernel
theorem dX7_flood_269 : decode cX7_flood 269 = .ok (.lstore 13, 2) := by decide +kernel
theorem dX7_flood_271 : decode cX7_flood 271 = .ok (.lload 11, 2) := by decide +kernel
theorem dX7_flood_273 : decode cX7_flood 273 = .ok (.lstore 9, 2) := by decide +kernel
theorem dX7_flood_275 : decode cX7_flood 275 = .ok (.lload 13, 2) := by decide +kernel
theorem dX7_flood_277 : decode cX7_flood 277 = .ok (.lstore 11, 2) := by decide +kernel
theorem dX7_flood_279 : decode cX7_flood 279 = .ok (.goto (-22), 3) := by decide +kernel
theorem dX7_flood_282 : decode cX7_flood 282 = .ok (.iload_n 3, 1) := by decide +kernel
theorem dX7_flood_283 : decode cX7_flood 283 = .ok (.ifCond .ne 11, 3) := by decide +kernel
theorem dX7_flood_286 : decode cX7_flood 286 = .ok (.lload 5, 2) := by decide +kernel
theorem dX7_flood_288 : decode cX7_flood 288 = .ok (.lload 9, 2) := by decide +kernel
theorem dX7_flood_290 : decode cX7_flood 290 = .ok (.ldiv, 1) := by decide +kernel
theorem dX7_flood_291 : decode cX7_flood 291 = .ok (.goto 8, 3) := by decide +kernel
theorem dX7_flood_294 : decode cX7_flood 294 = .ok (.lload 7, 2) := by decide +kernel
theorem dX7_flood_296 : decode cX7_flood 296 = .ok (.lload 9, 2) := by decide +kernel
theorem dX7_flood_298 : decode cX7_flood 298 = .ok (.ldiv, 1) := by decide +kernel
theorem dX7_flood_299 : decode cX7_flood 299 = .ok (.lreturn, 1) := by decide +kernel
theorem dX7_drawn_0 : decode cX7_drawn 0 = .ok (.aload_n 0, 1) := by decide +kernel
theorem dX7_drawn_1 : decode cX7_drawn 1 = .ok (.getfield 132, 3) := by decide +kernel
theorem dX7_drawn_4 : decode cX7_drawn 4 = .ok (.ifCond .ne 6, 3) := by decide +kernel
theorem dX7_drawn_7 : decode cX7_drawn 7 = .ok (.ldc 152, 2) := by decide +kernel
theorem dX7_drawn_9 : decode cX7_drawn 9 = .ok (.ireturn, 1) := by decide +kernel
theorem dX7_drawn_10 : decode cX7_drawn 10 = .ok (.iload_n 1, 1) := by decide +kernel
theorem dX7_drawn_11 : decode cX7_drawn 11 = .ok (.i2l, 1) := by decide +kernel
theorem dX7_drawn_12 : decode cX7_drawn 12 = .ok (.lconst 0, 1) := by decide +kernel
theorem dX7_drawn_13 : decode cX7_drawn 13 = .ok (.ldc2_w 191, 3) := by decide +kernel
theorem dX7_drawn_16 : decode cX7_drawn 16 = .ok (.invokestatic 54, 3) := by decide +kernel
theorem dX7_drawn_19 : decode cX7_drawn 19 = .ok (.ifCond .eq 27, 3) := by decide +kernel
theorem dX7_drawn_22 : decode cX7_drawn 22 = .ok (.iload_n 2, 1) := by decide +kernel
theorem dX7_drawn_23 : decode cX7_drawn 23 = .ok (.i2l, 1) := by decide +kernel
theorem dX7_drawn_24 : decode cX7_drawn 24 = .ok (.lconst 1, 1) := by decide +kernel
theorem dX7_drawn_25 : decode cX7_drawn 25 = .ok (.ldc2_w 247, 3) := by decide +kernel
theorem dX7_drawn_28 : decode cX7_drawn 28 = .ok (.invokestatic 54, 3) := by decide +kernel
theorem dX7_drawn_31 : decode cX7_drawn 31 = .ok (.ifCond .eq 15, 3) := by decide +kernel
theorem dX7_drawn_34 : decode cX7_drawn 34 = .ok (.iload_n 3, 1) := by decide +kernel
theorem dX7_drawn_35 : decode cX7_drawn 35 = .ok (.i2l, 1) := by decide +kernel
theorem dX7_drawn_36 : decode cX7_drawn 36 = .ok (.lconst 0, 1) := by decide +kernel
theorem dX7_drawn_37 : decode cX7_drawn 37 = .ok (.ldc2_w 62, 3) := by decide +kernel
theorem dX7_drawn_40 : decode cX7_drawn 40 = .ok (.invokestatic 54, 3) := by decide +kernel
theorem dX7_drawn_43 : decode cX7_drawn 43 = .ok (.ifCond .ne 6, 3) := by decide +kernel
theorem dX7_drawn_46 : decode cX7_drawn 46 = .ok (.ldc 64, 2) := by decide +kernel
theorem dX7_drawn_48 : decode cX7_drawn 48 = .ok (.ireturn, 1) := by decide +kernel
theorem dX7_drawn_49 : decode cX7_drawn 49 = .ok (.aload_n 0, 1) := by decide +kernel
theorem dX7_drawn_50 : decode cX7_drawn 50 = .ok (.invokevirtual 193, 3) := by decide +kernel
theorem dX7_drawn_53 : decode cX7_drawn 53 = .ok (.iload_n 2, 1) := by decide +kernel
theorem dX7_drawn_54 : decode cX7_drawn 54 = .ok (.i2l, 1) := by decide +kernel
theorem dX7_drawn_55 : decode cX7_drawn 55 = .ok (.lstore 4, 2) := by decide +kernel
theorem dX7_drawn_57 : decode cX7_drawn 57 = .ok (.iconst 0, 1) := by decide +kernel
theorem dX7_drawn_58 : decode cX7_drawn 58 = .ok (.istore 6, 2) := by decide +kernel
theorem dX7_drawn_60 : decode cX7_drawn 60 = .ok (.iload 6, 2) := by decide +kernel
theorem dX7_drawn_62 : decode cX7_drawn 62 = .ok (.iload_n 1, 1) := by decide +kernel
theorem dX7_drawn_63 : decode cX7_drawn 63 = .ok (.if_icmp .ge 121, 3) := by decide +kernel
theorem dX7_drawn_66 : decode cX7_drawn 66 = .ok (.lload 4, 2) := by decide +kernel
theorem dX7_drawn_68 : decode cX7_drawn 68 = .ok (.ldc2_w 249, 3) := by decide +kernel
theorem dX7_drawn_71 : decode cX7_drawn 71 = .ok (.lmul, 1) := by decide +kernel
theorem dX7_drawn_72 : decode cX7_drawn 72 = .ok (.ldc2_w 251, 3) := by decide +kernel
theorem dX7_drawn_75 : decode cX7_drawn 75 = .ok (.lrem, 1) := by decide +kernel
theorem dX7_drawn_76 : decode cX7_drawn 76 = .ok (.lstore 4, 2) := by decide +kernel
theorem dX7_drawn_78 : decode cX7_drawn 78 = .ok (.lload 4, 2) := by decide +kernel
theorem dX7_drawn_80 : decode cX7_drawn 80 = .ok (.aload_n 0, 1) := by decide +kernel
theorem dX7_drawn_81 : decode cX7_drawn 81 = .ok (.getfield 19, 3) := by decide +kernel
theorem dX7_drawn_84 : decode cX7_drawn 84 = .ok (.iconst 0, 1) := by decide +kernel
theorem dX7_drawn_85 : decode cX7_drawn 85 = .ok (.iaload, 1) := by decide +kernel
theorem dX7_drawn_86 : decode cX7_drawn 86 = .ok (.i2l, 1) := by decide +kernel
theorem dX7_drawn_87 : decode cX7_drawn 87 = .ok (.lrem, 1) := by decide +kernel
theorem dX7_drawn_88 : decode cX7_drawn 88 = .ok (.l2i, 1) := by decide +kernel
theorem dX7_drawn_89 : decode cX7_drawn 89 = .ok (.istore 7, 2) := by decide +kernel
theorem dX7_drawn_91 : decode cX7_drawn 91 = .ok (.aload_n 0, 1) := by decide +kernel
theorem dX7_drawn_92 : decode cX7_drawn 92 = .ok (.getfield 19, 3) := by decide +kernel
theorem dX7_drawn_95 : decode cX7_drawn 95 = .ok (.iconst 1, 1) := by decide +kernel
theorem dX7_drawn_96 : decode cX7_drawn 96 = .ok (.lload 4, 2) := by decide +kernel
theorem dX7_drawn_98 : decode cX7_drawn 98 = .ok (.ldc2_w 62, 3) := by decide +kernel
theorem dX7_drawn_101 : decode cX7_drawn 101 = .ok (.lrem, 1) := by decide +kernel
theorem dX7_drawn_102 : decode cX7_drawn 102 = .ok (.lconst 0, 1) := by decide +kernel
theorem dX7_drawn_103 : decode cX7_drawn 103 = .ok (.lcmp, 1) := by decide +kernel
theorem dX7_drawn_104 : decode cX7_drawn 104 = .ok (.ifCond .ne 7, 3) := by decide +kernel
theorem dX7_drawn_107 : decode cX7_drawn 107 = .ok (.iconst 0, 1) := by decide +kernel
theorem dX7_drawn_108 : decode cX7_drawn 108 = .ok (.goto 4, 3) := by decide +kernel
theorem dX7_drawn_111 : decode cX7_drawn 111 = .ok (.iconst 1, 1) := by decide +kernel
theorem dX7_drawn_112 : decode cX7_drawn 112 = .ok (.iadd, 1) := by decide +kernel
theorem dX7_drawn_113 : decode cX7_drawn 113 = .ok (.lload 4, 2) := by decide +kernel
theorem dX7_drawn_115 : decode cX7_drawn 115 = .ok (.ldc2_w 177, 3) := by decide +kernel
theorem dX7_drawn_118 : decode cX7_drawn 118 = .ok (.lrem, 1) := by decide +kernel
theorem dX7_drawn_119 : decode cX7_drawn 119 = .ok (.l2i, 1) := by decide +kernel
theorem dX7_drawn_120 : decode cX7_drawn 120 = .ok (.iastore, 1) := by decide +kernel
theorem dX7_drawn_121 : decode cX7_drawn 121 = .ok (.lload 4, 2) := by decide +kernel
theorem dX7_drawn_123 : decode cX7_drawn 123 = .ok (.ldc2_w 184, 3) := by decide +kernel
theorem dX7_drawn_126 : decode cX7_drawn 126 = .ok (.lrem, 1) := by decide +kernel
theorem dX7_drawn_127 : decode cX7_drawn 127 = .ok (.lconst 0, 1) := by decide +kernel
theorem dX7_drawn_128 : decode cX7_drawn 128 = .ok (.lcmp, 1) := by decide +kernel
theorem dX7_drawn_129 : decode cX7_drawn 129 = .ok (.ifCond .ne 20, 3) := by decide +kernel
theorem dX7_drawn_132 : decode cX7_drawn 132 = .ok (.aload_n 0, 1) := by decide +kernel
theorem dX7_drawn_133 : decode cX7_drawn 133 = .ok (.getfield 19, 3) := by decide +kernel
theorem dX7_drawn_136 : decode cX7_drawn 136 = .ok (.bipush 27, 2) := by decide +kernel
theorem dX7_drawn_138 : decode cX7_drawn 138 = .ok (.iload 7, 2) := by decide +kernel
theorem dX7_drawn_140 : decode cX7_drawn 140 = .ok (.iadd, 1) := by decide +kernel
theorem dX7_drawn_141 : decode cX7_drawn 141 = .ok (.lload 4, 2) := by decide +kernel
theorem dX7_drawn_143 : decode cX7_drawn 143 = .ok (.ldc2_w 243, 3) := by decide +kernel
theorem dX7_drawn_146 : decode cX7_drawn 146 = .ok (.lrem, 1) := by decide +kernel
theorem dX7_drawn_147 : decode cX7_drawn 147 = .ok (.l2i, 1) := by decide +kernel
theorem dX7_drawn_148 : decode cX7_drawn 148 = .ok (.iastore, 1) := by decide +kernel
theorem dX7_drawn_149 : decode cX7_drawn 149 = .ok (.aload_n 0, 1) := by decide +kernel
theorem dX7_drawn_150 : decode cX7_drawn 150 = .ok (.invokevirtual 158, 3) := by decide +kernel
theorem dX7_drawn_153 : decode cX7_drawn 153 = .ok (.aload_n 0, 1) := by decide +kernel
theorem dX7_drawn_154 : decode cX7_drawn 154 = .ok (.iload 7, 2) := by decide +kernel
theorem dX7_drawn_156 : decode cX7_drawn 156 = .ok (.invokevirtual 170, 3) := by decide +kernel
theorem dX7_drawn_159 : decode cX7_drawn 159 = .ok (.ifCond .ne 19, 3) := by decide +kernel
theorem dX7_drawn_162 : decode cX7_drawn 162 = .ok (.aload_n 0, 1) := by decide +kernel
theorem dX7_drawn_163 : decode cX7_drawn 163 = .ok (.iload 7, 2) := by decide +kernel
theorem dX7_drawn_165 : decode cX7_drawn 165 = .ok (.aload_n 0, 1) := by decide +kernel
theorem dX7_drawn_166 : decode cX7_drawn 166 = .ok (.getfield 19, 3) := by decide +kernel
theorem dX7_drawn_169 : decode cX7_drawn 169 = .ok (.bipush 18, 2) := by decide +kernel
theorem dX7_drawn_171 : decode cX7_drawn 171 = .ok (.iload 7, 2) := by decide +kernel
theorem dX7_drawn_173 : decode cX7_drawn 173 = .ok (.iadd, 1) := by decide +kernel
theorem dX7_drawn_174 : decode cX7_drawn 174 = .ok (.iaload, 1) := by decide +kernel
theorem dX7_drawn_175 : decode cX7_drawn 175 = .ok (.invokevirtual 173, 3) := by decide +kernel
theorem dX7_drawn_178 : decode cX7_drawn 178 = .ok (.iinc 6 1, 3) := by decide +kernel
theorem dX7_drawn_181 : decode cX7_drawn 181 = .ok (.goto (-121), 3) := by decide +kernel
theorem dX7_drawn_184 : decode cX7_drawn 184 = .ok (.aload_n 0, 1) := by decide +kernel
theorem dX7_drawn_185 : decode cX7_drawn 185 = .ok (.getfield 19, 3) := by decide +kernel
theorem dX7_drawn_188 : decode cX7_drawn 188 = .ok (.bipush 6, 2) := by decide +kernel
theorem dX7_drawn_190 : decode cX7_drawn 190 = .ok (.iload_n 3, 1) := by decide +kernel
theorem dX7_drawn_191 : decode cX7_drawn 191 = .ok (.iadd, 1) := by decide +kernel
theorem dX7_drawn_192 : decode cX7_drawn 192 = .ok (.iaload, 1) := by decide +kernel
theorem dX7_drawn_193 : decode cX7_drawn 193 = .ok (.istore 6, 2) := by decide +kernel
theorem dX7_drawn_195 : decode cX7_drawn 195 = .ok (.aload_n 0, 1) := by decide +kernel
theorem dX7_drawn_196 : decode cX7_drawn 196 = .ok (.invokevirtual 200, 3) := by decide +kernel
theorem dX7_drawn_199 : decode cX7_drawn 199 = .ok (.iload 6, 2) := by decide +kernel
theorem dX7_drawn_201 : decode cX7_drawn 201 = .ok (.ireturn, 1) := by decide +kernel
theorem dX7_image_0 : decode cX7_image 0 = .ok (.iload_n 1, 1) := by decide +kernel
theorem dX7_image_1 : decode cX7_image 1 = .ok (.i2l, 1) := by decide +kernel
theorem dX7_image_2 : decode cX7_image 2 = .ok (.lconst 0, 1) := by decide +kernel
theorem dX7_image_3 : decode cX7_image 3 = .ok (.lconst 1, 1) := by decide +kernel
theorem dX7_image_4 : decode cX7_image 4 = .ok (.invokestatic 54, 3) := by decide +kernel
theorem dX7_image_7 : decode cX7_image 7 = .ok (.ifCond .ne 6, 3) := by decide +kernel
theorem dX7_image_10 : decode cX7_image 10 = .ok (.ldc 64, 2) := by decide +kernel
theorem dX7_image_12 : decode cX7_image 12 = .ok (.ireturn, 1) := by decide +kernel
theorem dX7_image_13 : decode cX7_image 13 = .ok (.aload_n 0, 1) := by decide +kernel
theorem dX7_image_14 : decode cX7_image 14 = .ok (.getfield 132, 3) := by decide +kernel
theorem dX7_image_17 : decode cX7_image 17 = .ok (.ifCond .ne 6, 3) := by decide +kernel
theorem dX7_image_20 : decode cX7_image 20 = .ok (.ldc 152, 2) := by decide +kernel
theorem dX7_image_22 : decode cX7_image 22 = .ok (.ireturn, 1) := by decide +kernel
theorem dX7_image_23 : decode cX7_image 23 = .ok (.iconst 0, 1) := by decide +kernel
theorem dX7_image_24 : decode cX7_image 24 = .ok (.istore_n 2, 1) := by decide +kernel
theorem dX7_image_25 : decode cX7_image 25 = .ok (.iload_n 2, 1) := by decide +kernel
theorem dX7_image_26 : decode cX7_image 26 = .ok (.bipush 36, 2) := by decide +kernel
theorem dX7_image_28 : decode cX7_image 28 = .ok (.if_icmp .ge 26, 3) := by decide +kernel
theorem dX7_image_31 : decode cX7_image 31 = .ok (.aload_n 0, 1) := by decide +kernel
theorem dX7_image_32 : decode cX7_image 32 = .ok (.getfield 41, 3) := by decide +kernel
theorem dX7_image_35 : decode cX7_image 35 = .ok (.bipush 36, 2) := by decide +kernel
theorem dX7_image_37 : decode cX7_image 37 = .ok (.iload_n 1, 1) := by decide +kernel
theorem dX7_image_38 : decode cX7_image 38 = .ok (.imul, 1) := by decide +kernel
theorem dX7_image_39 : decode cX7_image 39 = .ok (.iload_n 2, 1) := by decide +kernel
theorem dX7_image_40 : decode cX7_image 40 = .ok (.iadd, 1) := by decide +kernel
theorem dX7_image_41 : decode cX7_image 41 = .ok (.aload_n 0, 1) := by decide +kernel
theorem dX7_image_42 : decode cX7_image 42 = .ok (.getfield 19, 3) := by decide +kernel
theorem dX7_image_45 : decode cX7_image 45 = .ok (.iload_n 2, 1) := by decide +kernel
theorem dX7_image_46 : decode cX7_image 46 = .ok (.iaload, 1) := by decide +kernel
theorem dX7_image_47 : decode cX7_image 47 = .ok (.iastore, 1) := by decide +kernel
theorem dX7_image_48 : decode cX7_image 48 = .ok (.iinc 2 1, 3) := by decide +kernel
theorem dX7_image_51 : decode cX7_image 51 = .ok (.goto (-26), 3) := by decide +kernel
theorem dX7_image_54 : decode cX7_image 54 = .ok (.aload_n 0, 1) := by decide +kernel
theorem dX7_image_55 : decode cX7_image 55 = .ok (.getfield 37, 3) := by decide +kernel
theorem dX7_image_58 : decode cX7_image 58 = .ok (.iload_n 1, 1) := by decide +kernel
theorem dX7_image_59 : decode cX7_image 59 = .ok (.iconst 1, 1) := by decide +kernel
theorem dX7_image_60 : decode cX7_image 60 = .ok (.bastore, 1) := by decide +kernel
theorem dX7_image_61 : decode cX7_image 61 = .ok (.iconst 1, 1) := by decide +kernel
theorem dX7_image_62 : decode cX7_image 62 = .ok (.ireturn, 1) := by decide +kernel
theorem dX7_restore_0 : decode cX7_restore 0 = .ok (.iload_n 1, 1) := by decide +kernel
theorem dX7_restore_1 : decode cX7_restore 1 = .ok (.i2l, 1) := by decide +kernel
theorem dX7_restore_2 : decode cX7_restore 2 = .ok (.lconst 0, 1) := by decide +kernel
theorem dX7_restore_3 : decode cX7_restore 3 = .ok (.lconst 1, 1) := by decide +kernel
theorem dX7_restore_4 : decode cX7_restore 4 = .ok (.invokestatic 54, 3) := by decide +kernel
theorem dX7_restore_7 : decode cX7_restore 7 = .ok (.ifCond .ne 6, 3) := by decide +kernel
theorem dX7_restore_10 : decode cX7_restore 10 = .ok (.ldc 64, 2) := by decide +kernel
theorem dX7_restore_12 : decode cX7_restore 12 = .ok (.ireturn, 1) := by decide +kernel
theorem dX7_restore_13 : decode cX7_restore 13 = .ok (.aload_n 0, 1) := by decide +kernel
theorem dX7_restore_14 : decode cX7_restore 14 = .ok (.getfield 37, 3) := by decide +kernel
theorem dX7_restore_17 : decode cX7_restore 17 = .ok (.iload_n 1, 1) := by decide +kernel
theorem dX7_restore_18 : decode cX7_restore 18 = .ok (.baload, 1) := by decide +kernel
theorem dX7_restore_19 : decode cX7_restore 19 = .ok (.ifCond .ne 6, 3) := by decide +kernel
theorem dX7_restore_22 : decode cX7_restore 22 = .ok (.ldc 152, 2) := by decide +kernel
theorem dX7_restore_24 : decode cX7_restore 24 = .ok (.ireturn, 1) := by decide +kernel
theorem dX7_restore_25 : decode cX7_restore 25 = .ok (.iconst 0, 1) := by decide +kernel
theorem dX7_restore_26 : decode cX7_restore 26 = .ok (.istore_n 2, 1) := by decide +kernel
theorem dX7_restore_27 : decode cX7_restore 27 = .ok (.iload_n 2, 1) := by decide +kernel
theorem dX7_restore_28 : decode cX7_restore 28 = .ok (.bipush 36, 2) := by decide +kernel
theorem dX7_restore_30 : decode cX7_restore 30 = .ok (.if_icmp .ge 26, 3) := by decide +kernel
theorem dX7_restore_33 : decode cX7_restore 33 = .ok (.aload_n 0, 1) := by decide +kernel
theorem dX7_restore_34 : decode cX7_restore 34 = .ok (.getfield 19, 3) := by decide +kernel
theorem dX7_restore_37 : decode cX7_restore 37 = .ok (.iload_n 2, 1) := by decide +kernel
theorem dX7_restore_38 : decode cX7_restore 38 = .ok (.aload_n 0, 1) := by decide +kernel
theorem dX7_restore_39 : decode cX7_restore 39 = .ok (.getfield 41, 3) := by decide +kernel
theorem dX7_restore_42 : decode cX7_restore 42 = .ok (.bipush 36, 2) := by decide +kernel
theorem dX7_restore_44 : decode cX7_restore 44 = .ok (.iload_n 1, 1) := by decide +kernel
theorem dX7_restore_45 : decode cX7_restore 45 = .ok (.imul, 1) := by decide +kernel
theorem dX7_restore_46 : decode cX7_restore 46 = .ok (.iload_n 2, 1) := by decide +kernel
theorem dX7_restore_47 : decode cX7_restore 47 = .ok (.iadd, 1) := by decide +kernel
theorem dX7_restore_48 : decode cX7_restore 48 = .ok (.iaload, 1) := by decide +kernel
theorem dX7_restore_49 : decode cX7_restore 49 = .ok (.iastore, 1) := by decide +kernel
theorem dX7_restore_50 : decode cX7_restore 50 = .ok (.iinc 2 1, 3) := by decide +kernel
theorem dX7_restore_53 : decode cX7_restore 53 = .ok (.goto (-26), 3) := by decide +kernel
theorem dX7_restore_56 : decode cX7_restore 56 = .ok (.aload_n 0, 1) := by decide +kernel
theorem dX7_restore_57 : decode cX7_restore 57 = .ok (.iconst 0, 1) := by decide +kernel
theorem dX7_restore_58 : decode cX7_restore 58 = .ok (.putfield 136, 3) := by decide +kernel
theorem dX7_restore_61 : decode cX7_restore 61 = .ok (.iconst 1, 1) := by decide +kernel
theorem dX7_restore_62 : decode cX7_restore 62 = .ok (.ireturn, 1) := by decide +kernel
theorem dX7_kind_0 : decode cX7_kind 0 = .ok (.aload_n 0, 1) := by decide +kernel
theorem dX7_kind_1 : decode cX7_kind 1 = .ok (.iload_n 1, 1) := by decide +kernel
theorem dX7_kind_2 : decode cX7_kind 2 = .ok (.invokevirtual 165, 3) := by decide +kernel
theorem dX7_kind_5 : decode cX7_kind 5 = .ok (.ifCond .eq 15, 3) := by decide +kernel
theorem dX7_kind_8 : decode cX7_kind 8 = .ok (.aload_n 0, 1) := by decide +kernel
theorem dX7_kind_9 : decode cX7_kind 9 = .ok (.getfield 19, 3) := by decide +kernel
theorem dX7_kind_12 : decode cX7_kind 12 = .ok (.bipush 9, 2) := by decide +kernel
theorem dX7_kind_14 : decode cX7_kind 14 = .ok (.iload_n 1, 1) := by decide +kernel
theorem dX7_kind_15 : decode cX7_kind 15 = .ok (.iadd, 1) := by decide +kernel
theorem dX7_kind_16 : decode cX7_kind 16 = .ok (.iaload, 1) := by decide +kernel
theorem dX7_kind_17 : decode cX7_kind 17 = .ok (.goto 5, 3) := by decide +kernel
theorem dX7_kind_20 : decode cX7_kind 20 = .ok (.ldc 64, 2) := by decide +kernel
theorem dX7_kind_22 : decode cX7_kind 22 = .ok (.ireturn, 1) := by decide +kernel
theorem dX7_isKind_0 : decode cX7_isKind 0 = .ok (.iload_n 1, 1) := by decide +kernel
theorem dX7_isKind_1 : decode cX7_isKind 1 = .ok (.ifCond .eq 28, 3) := by decide +kernel
theorem dX7_isKind_4 : decode cX7_isKind 4 = .ok (.iload_n 0, 1) := by decide +kernel
theorem dX7_isKind_5 : decode cX7_isKind 5 = .ok (.iload_n 1, 1) := by decide +kernel
theorem dX7_isKind_6 : decode cX7_isKind 6 = .ok (.if_icmp .eq 23, 3) := by decide +kernel
theorem dX7_isKind_9 : decode cX7_isKind 9 = .ok (.iload_n 1, 1) := by decide +kernel
theorem dX7_isKind_10 : decode cX7_isKind 10 = .ok (.iconst 1, 1) := by decide +kernel
theorem dX7_isKind_11 : decode cX7_isKind 11 = .ok (.if_icmp .ne 8, 3) := by decide +kernel
theorem dX7_isKind_14 : decode cX7_isKind 14 = .ok (.iload_n 0, 1) := by decide +kernel
theorem dX7_isKind_15 : decode cX7_isKind 15 = .ok (.iconst 4, 1) := by decide +kernel
theorem dX7_isKind_16 : decode cX7_isKind 16 = .ok (.if_icmp .lt 13, 3) := by decide +kernel
theorem dX7_isKind_19 : decode cX7_isKind 19 = .ok (.iload_n 1, 1) := by decide +kernel
theorem dX7_isKind_20 : decode cX7_isKind 20 = .ok (.iconst 4, 1) := by decide +kernel
theorem dX7_isKind_21 : decode cX7_isKind 21 = .ok (.if_icmp .ne 12, 3) := by decide +kernel
theorem dX7_isKind_24 : decode cX7_isKind 24 = .ok (.iload_n 0, 1) := by decide +kernel
theorem dX7_isKind_25 : decode cX7_isKind 25 = .ok (.iconst 5, 1) := by decide +kernel
theorem dX7_isKind_26 : decode cX7_isKind 26 = .ok (.if_icmp .ne 7, 3) := by decide +kernel
theorem dX7_isKind_29 : decode cX7_isKind 29 = .ok (.iconst 1, 1) := by decide +kernel
theorem dX7_isKind_30 : decode cX7_isKind 30 = .ok (.goto 4, 3) := by decide +kernel
theorem dX7_isKind_33 : decode cX7_isKind 33 = .ok (.iconst 0, 1) := by decide +kernel
theorem dX7_isKind_34 : decode cX7_isKind 34 = .ok (.ireturn, 1) := by decide +kernel
theorem dX7_as_0 : decode cX7_as 0 = .ok (.aload_n 0, 1) := by decide +kernel
theorem dX7_as_1 : decode cX7_as 1 = .ok (.iload_n 1, 1) := by decide +kernel
theorem dX7_as_2 : decode cX7_as 2 = .ok (.invokevirtual 165, 3) := by decide +kernel
theorem dX7_as_5 : decode cX7_as 5 = .ok (.ifCond .eq 15, 3) := by decide +kernel
theorem dX7_as_8 : decode cX7_as 8 = .ok (.iload_n 2, 1) := by decide +kernel
theorem dX7_as_9 : decode cX7_as 9 = .ok (.i2l, 1) := by decide +kernel
theorem dX7_as_10 : decode cX7_as 10 = .ok (.lconst 0, 1) := by decide +kernel
theorem dX7_as_11 : decode cX7_as 11 = .ok (.ldc2_w 189, 3) := by decide +kernel
theorem dX7_as_14 : decode cX7_as 14 = .ok (.invokestatic 54, 3) := by decide +kernel
theorem dX7_as_17 : decode cX7_as 17 = .ok (.ifCond .ne 6, 3) := by decide +kernel
theorem dX7_as_20 : decode cX7_as 20 = .ok (.ldc 64, 2) := by decide +kernel
theorem dX7_as_22 : decode cX7_as 22 = .ok (.ireturn, 1) := by decide +kernel
theorem dX7_as_23 : decode cX7_as 23 = .ok (.aload_n 0, 1) := by decide +kernel
theorem dX7_as_24 : decode cX7_as 24 = .ok (.getfield 19, 3) := by decide +kernel
theorem dX7_as_27 : decode cX7_as 27 = .ok (.bipush 9, 2) := by decide +kernel
theorem dX7_as_29 : decode cX7_as 29 = .ok (.iload_n 1, 1) := by decide +kernel
theorem dX7_as_30 : decode cX7_as 30 = .ok (.iadd, 1) := by decide +kernel
theorem dX7_as_31 : decode cX7_as 31 = .ok (.iaload, 1) := by decide +kernel
theorem dX7_as_32 : decode cX7_as 32 = .ok (.iload_n 2, 1) := by decide +kernel
theorem dX7_as_33 : decode cX7_as 33 = .ok (.invokestatic 253, 3) := by decide +kernel
theorem dX7_as_36 : decode cX7_as 36 = .ok (.ifCond .eq 11, 3) := by decide +kernel
theorem dX7_as_39 : decode cX7_as 39 = .ok (.aload_n 0, 1) := by decide +kernel
theorem dX7_as_40 : decode cX7_as 40 = .ok (.iload_n 1, 1) := by decide +kernel
theorem dX7_as_41 : decode cX7_as 41 = .ok (.invokevirtual 69, 3) := by decide +kernel
theorem dX7_as_44 : decode cX7_as 44 = .ok (.goto 8, 3) := by decide +kernel
theorem dX7_as_47 : decode cX7_as 47 = .ok (.aload_n 0, 1) := by decide +kernel
theorem dX7_as_48 : decode cX7_as 48 = .ok (.iconst 3, 1) := by decide +kernel
theorem dX7_as_49 : decode cX7_as 49 = .ok (.invokevirtual 65, 3) := by decide +kernel
theorem dX7_as_52 : decode cX7_as 52 = .ok (.ireturn, 1) := by decide +kernel
theorem dX7_begin_0 : decode cX7_begin 0 = .ok (.aload_n 0, 1) := by decide +kernel
theorem dX7_begin_1 : decode cX7_begin 1 = .ok (.getfield 256, 3) := by decide +kernel
theorem dX7_begin_4 : decode cX7_begin 4 = .ok (.bipush 16, 2) := by decide +kernel
theorem dX7_begin_6 : decode cX7_begin 6 = .ok (.if_icmp .ge 23, 3) := by decide +kernel
theorem dX7_begin_9 : decode cX7_begin 9 = .ok (.aload_n 0, 1) := by decide +kernel
theorem dX7_begin_10 : decode cX7_begin 10 = .ok (.getfield 44, 3) := by decide +kernel
theorem dX7_begin_13 : decode cX7_begin 13 = .ok (.aload_n 0, 1) := by decide +kernel
theorem dX7_begin_14 : decode cX7_begin 14 = .ok (.getfield 256, 3) := by decide +kernel
theorem dX7_begin_17 : decode cX7_begin 17 = .ok (.iload_n 1, 1) := by decide +kernel
theorem dX7_begin_18 : decode cX7_begin 18 = .ok (.iastore, 1) := by decide +kernel
theorem dX7_begin_19 : decode cX7_begin 19 = .ok (.aload_n 0, 1) := by decide +kernel
theorem dX7_begin_20 : decode cX7_begin 20 = .ok (.dup, 1) := by decide +kernel
theorem dX7_begin_21 : decode cX7_begin 21 = .ok (.getfield 256, 3) := by decide +kernel
theorem dX7_begin_24 : decode cX7_begin 24 = .ok (.iconst 1, 1) := by decide +kernel
theorem dX7_begin_25 : decode cX7_begin 25 = .ok (.iadd, 1) := by decide +kernel
theorem dX7_begin_26 : decode cX7_begin 26 = .ok (.putfield 256, 3) := by decide +kernel
theorem dX7_begin_29 : decode cX7_begin 29 = .ok (.return_, 1) := by decide +kernel
theorem dX7_lent_0 : decode cX7_lent 0 = .ok (.aload_n 0, 1) := by decide +kernel
theorem dX7_lent_1 : decode cX7_lent 1 = .ok (.iload_n 2, 1) := by decide +kernel
theorem dX7_lent_2 : decode cX7_lent 2 = .ok (.invokevirtual 259, 3) := by decide +kernel
theorem dX7_lent_5 : decode cX7_lent 5 = .ok (.iload_n 2, 1) := by decide +kernel
theorem dX7_lent_6 : decode cX7_lent 6 = .ok (.bipush 10, 2) := by decide +kernel
theorem dX7_lent_8 : decode cX7_lent 8 = .ok (.if_icmp .ne 15, 3) := by decide +kernel
theorem dX7_lent_11 : decode cX7_lent 11 = .ok (.aload_n 0, 1) := by decide +kernel
theorem dX7_lent_12 : decode cX7_lent 12 = .ok (.getfield 19, 3) := by decide +kernel
theorem dX7_lent_15 : decode cX7_lent 15 = .ok (.bipush 18, 2) := by decide +kernel
theorem dX7_lent_17 : decode cX7_lent 17 = .ok (.iload_n 1, 1) := by decide +kernel
theorem dX7_lent_18 : decode cX7_lent 18 = .ok (.iadd, 1) := by decide +kernel
theorem dX7_lent_19 : decode cX7_lent 19 = .ok (.iaload, 1) := by decide +kernel
theorem dX7_lent_20 : decode cX7_lent 20 = .ok (.goto 4, 3) := by decide +kernel
theorem dX7_lent_23 : decode cX7_lent 23 = .ok (.iload_n 1, 1) := by decide +kernel
theorem dX7_lent_24 : decode cX7_lent 24 = .ok (.ireturn, 1) := by decide +kernel
theorem dX7_commonMark_0 : decode cX7_commonMark 0 = .ok (.aload_n 0, 1) := by decide +kernel
theorem dX7_commonMark_1 : decode cX7_commonMark 1 = .ok (.bipush 21, 2) := by decide +kernel
theorem dX7_commonMark_3 : decode cX7_commonMark 3 = .ok (.invokevirtual 259, 3) := by decide +kernel
theorem dX7_commonMark_6 : decode cX7_commonMark 6 = .ok (.aload_n 0, 1) := by decide +kernel
theorem dX7_commonMark_7 : decode cX7_commonMark 7 = .ok (.iload_n 1, 1) := by decide +kernel
theorem dX7_commonMark_8 : decode cX7_commonMark 8 = .ok (.bipush 20, 2) := by decide +kernel
theorem dX7_commonMark_10 : decode cX7_commonMark 10 = .ok (.invokevirtual 262, 3) := by decide +kernel
theorem dX7_commonMark_13 : decode cX7_commonMark 13 = .ok (.aload_n 0, 1) := by decide +kernel
theorem dX7_commonMark_14 : decode cX7_commonMark 14 = .ok (.getfield 19, 3) := by decide +kernel
theorem dX7_commonMark_17 : decode cX7_commonMark 17 = .ok (.bipush 27, 2) := by decide +kernel
theorem dX7_commonMark_19 : decode cX7_commonMark 19 = .ok (.iload_n 1, 1) := by decide +kernel
theorem dX7_commonMark_20 : decode cX7_commonMark 20 = .ok (.iadd, 1) := by decide +kernel
theorem dX7_commonMark_21 : decode cX7_commonMark 21 = .ok (.iaload, 1) := by decide +kernel
theorem dX7_commonMark_22 : decode cX7_commonMark 22 = .ok (.iadd, 1) := by decide +kernel
theorem dX7_commonMark_23 : decode cX7_commonMark 23 = .ok (.ireturn, 1) := by decide +kernel
theorem dX7_warmSize_0 : decode cX7_warmSize 0 = .ok (.aload_n 0, 1) := by decide +kernel
theorem dX7_warmSize_1 : decode cX7_warmSize 1 = .ok (.bipush 13, 2) := by decide +kernel
theorem dX7_warmSize_3 : decode cX7_warmSize 3 = .ok (.invokevirtual 259, 3) := by decide +kernel
theorem dX7_warmSize_6 : decode cX7_warmSize 6 = .ok (.aload_n 0, 1) := by decide +kernel
theorem dX7_warmSize_7 : decode cX7_warmSize 7 = .ok (.iload_n 1, 1) := by decide +kernel
theorem dX7_warmSize_8 : decode cX7_warmSize 8 = .ok (.bipush 10, 2) := by decide +kernel
theorem dX7_warmSize_10 : decode cX7_warmSize 10 = .ok (.invokevirtual 262, 3) := by decide +kernel
theorem dX7_warmSize_13 : decode cX7_warmSize 13 = .ok (.bipush 100, 2) := by decide +kernel
theorem dX7_warmSize_15 : decode cX7_warmSize 15 = .ok (.isub, 1) := by decide +kernel
theorem dX7_warmSize_16 : decode cX7_warmSize 16 = .ok (.ireturn, 1) := by decide +kernel
theorem dX7_sizeOfWarm_0 : decode cX7_sizeOfWarm 0 = .ok (.aload_n 0, 1) := by decide +kernel
theorem dX7_sizeOfWarm_1 : decode cX7_sizeOfWarm 1 = .ok (.getfield 19, 3) := by decide +kernel
theorem dX7_sizeOfWarm_4 : decode cX7_sizeOfWarm 4 = .ok (.bipush 9, 2) := by decide +kernel
theorem dX7_sizeOfWarm_6 : decode cX7_sizeOfWarm 6 = .ok (.iload_n 1, 1) := by decide +kernel
theorem dX7_sizeOfWarm_7 : decode cX7_sizeOfWarm 7 = .ok (.iadd, 1) := by decide +kernel
theorem dX7_sizeOfWarm_8 : decode cX7_sizeOfWarm 8 = .ok (.iaload, 1) := by decide +kernel
theorem dX7_sizeOfWarm_9 : decode cX7_sizeOfWarm 9 = .ok (.iconst 5, 1) := by decide +kernel
theorem dX7_sizeOfWarm_10 : decode cX7_sizeOfWarm 10 = .ok (.if_icmp .ne 17, 3) := by decide +kernel
theorem dX7_sizeOfWarm_13 : decode cX7_sizeOfWarm 13 = .ok (.aload_n 0, 1) := by decide +kernel
theorem dX7_sizeOfWarm_14 : decode cX7_sizeOfWarm 14 = .ok (.bipush 14, 2) := by decide +kernel
theorem dX7_sizeOfWarm_16 : decode cX7_sizeOfWarm 16 = .ok (.invokevirtual 259, 3) := by decide +kernel
theorem dX7_sizeOfWarm_19 : decode cX7_sizeOfWarm 19 = .ok (.iconst 2, 1) := by decide +kernel
theorem dX7_sizeOfWarm_20 : decode cX7_sizeOfWarm 20 = .ok (.aload_n 0, 1) := by decide +kernel
theorem dX7_sizeOfWarm_21 : decode cX7_sizeOfWarm 21 = .ok (.iload_n 1, 1) := by decide +kernel
theorem dX7_sizeOfWarm_22 : decode cX7_sizeOfWarm 22 = .ok (.invokevirtual 265, 3) := by decide +kernel
theorem dX7_sizeOfWarm_25 : decode cX7_sizeOfWarm 25 = .ok (.imul, 1) := by decide +kernel
theorem dX7_sizeOfWarm_26 : decode cX7_sizeOfWarm 26 = .ok (.ireturn, 1) := by decide +kernel
theorem dX7_sizeOfWarm_27 : decode cX7_sizeOfWarm 27 = .ok (.aload_n 0, 1) := by decide +kernel
theorem dX7_sizeOfWarm_28 : decode cX7_sizeOfWarm 28 = .ok (.iload_n 1, 1) := by decide +kernel
theorem dX7_sizeOfWarm_29 : decode cX7_sizeOfWarm 29 = .ok (.invokevirtual 265, 3) := by decide +kernel
theorem dX7_sizeOfWarm_32 : decode cX7_sizeOfWarm 32 = .ok (.ireturn, 1) := by decide +kernel
theorem dX7_markOf_0 : decode cX7_markOf 0 = .ok (.aload_n 0, 1) := by decide +kernel
theorem dX7_markOf_1 : decode cX7_markOf 1 = .ok (.getfield 19, 3) := by decide +kernel
theorem dX7_markOf_4 : decode cX7_markOf 4 = .ok (.bipush 9, 2) := by decide +kernel
theorem dX7_markOf_6 : decode cX7_markOf 6 = .ok (.iload_n 1, 1) := by decide +kernel
theorem dX7_markOf_7 : decode cX7_markOf 7 = .ok (.iadd, 1) := by decide +kernel
theorem dX7_markOf_8 : decode cX7_markOf 8 = .ok (.iaload, 1) := by decide +kernel
theorem dX7_markOf_9 : decode cX7_markOf 9 = .ok (.istore_n 2, 1) := by decide +kernel
theorem dX7_markOf_10 : decode cX7_markOf 10 = .ok (.iload_n 2, 1) := by decide +kernel
theorem dX7_markOf_11 : decode cX7_markOf 11 = .ok (.iconst 2, 1) := by decide +kernel
theorem dX7_markOf_12 : decode cX7_markOf 12 = .ok (.if_icmp .ne 17, 3) := by decide +kernel
theorem dX7_markOf_15 : decode cX7_markOf 15 = .ok (.aload_n 0, 1) := by decide +kernel
theorem dX7_markOf_16 : decode cX7_markOf 16 = .ok (.bipush 24, 2) := by decide +kernel
theorem dX7_markOf_18 : decode cX7_markOf 18 = .ok (.invokevirtual 259, 3) := by decide +kernel
theorem dX7_markOf_21 : decode cX7_markOf 21 = .ok (.iconst 2, 1) := by decide +kernel
theorem dX7_markOf_22 : decode cX7_markOf 22 = .ok (.aload_n 0, 1) := by decide +kernel
theorem dX7_markOf_23 : decode cX7_markOf 23 = .ok (.iload_n 1, 1) := by decide +kernel
theorem dX7_markOf_24 : decode cX7_markOf 24 = .ok (.invokevirtual 268, 3) := by decide +kernel
theorem dX7_markOf_27 : decode cX7_markOf 27 = .ok (.imul, 1) := by decide +kernel
theorem dX7_markOf_28 : decode cX7_markOf 28 = .ok (.ireturn, 1) := by decide +kernel
theorem dX7_markOf_29 : decode cX7_markOf 29 = .ok (.iload_n 2, 1) := by decide +kernel
theorem dX7_markOf_30 : decode cX7_markOf 30 = .ok (.iconst 3, 1) := by decide +kernel
theorem dX7_markOf_31 : decode cX7_markOf 31 = .ok (.if_icmp .ne 19, 3) := by decide +kernel
theorem dX7_markOf_34 : decode cX7_markOf 34 = .ok (.aload_n 0, 1) := by decide +kernel
theorem dX7_markOf_35 : decode cX7_markOf 35 = .ok (.bipush 22, 2) := by decide +kernel
theorem dX7_markOf_37 : decode cX7_markOf 37 = .ok (.invokevirtual 259, 3) := by decide +kernel
theorem dX7_markOf_40 : decode cX7_markOf 40 = .ok (.aload_n 0, 1) := by decide +kernel
theorem dX7_markOf_41 : decode cX7_markOf 41 = .ok (.iload_n 1, 1) := by decide +kernel
theorem dX7_markOf_42 : decode cX7_markOf 42 = .ok (.invokevirtual 268, 3) := by decide +kernel
theorem dX7_markOf_45 : decode cX7_markOf 45 = .ok (.sipush 1000, 3) := by decide +kernel
theorem dX7_markOf_48 : decode cX7_markOf 48 = .ok (.isub, 1) := by decide +kernel
theorem dX7_markOf_49 : decode cX7_markOf 49 = .ok (.ireturn, 1) := by decide +kernel
theorem dX7_markOf_50 : decode cX7_markOf 50 = .ok (.iload_n 2, 1) := by decide +kernel
theorem dX7_markOf_51 : decode cX7_markOf 51 = .ok (.iconst 1, 1) := by decide +kernel
theorem dX7_markOf_52 : decode cX7_markOf 52 = .ok (.if_icmp .ne 9, 3) := by decide +kernel
theorem dX7_markOf_55 : decode cX7_markOf 55 = .ok (.aload_n 0, 1) := by decide +kernel
theorem dX7_markOf_56 : decode cX7_markOf 56 = .ok (.iload_n 1, 1) := by decide +kernel
theorem dX7_markOf_57 : decode cX7_markOf 57 = .ok (.invokevirtual 268, 3) := by decide +kernel
theorem dX7_markOf_60 : decode cX7_markOf 60 = .ok (.ireturn, 1) := by decide +kernel
theorem dX7_markOf_61 : decode cX7_markOf 61 = .ok (.aload_n 0, 1) := by decide +kernel
theorem dX7_markOf_62 : decode cX7_markOf 62 = .ok (.bipush 23, 2) := by decide +kernel
theorem dX7_markOf_64 : decode cX7_markOf 64 = .ok (.invokevirtual 259, 3) := by decide +kernel
theorem dX7_markOf_67 : decode cX7_markOf 67 = .ok (.aload_n 0, 1) := by decide +kernel
theorem dX7_markOf_68 : decode cX7_markOf 68 = .ok (.iload_n 1, 1) := by decide +kernel
theorem dX7_markOf_69 : decode cX7_markOf 69 = .ok (.bipush 20, 2) := by decide +kernel
theorem dX7_markOf_71 : decode cX7_markOf 71 = .ok (.invokevirtual 262, 3) := by decide +kernel
theorem dX7_markOf_74 : decode cX7_markOf 74 = .ok (.istore_n 3, 1) := by decide +kernel
theorem dX7_markOf_75 : decode cX7_markOf 75 = .ok (.iload_n 3, 1) := by decide +kernel
theorem dX7_markOf_76 : decode cX7_markOf 76 = .ok (.aload_n 0, 1) := by decide +kernel
theorem dX7_markOf_77 : decode cX7_markOf 77 = .ok (.iload_n 1, 1) := by decide +kernel
theorem dX7_markOf_78 : decode cX7_markOf 78 = .ok (.invokevirtual 271, 3) := by decide +kernel
theorem dX7_markOf_81 : decode cX7_markOf 81 = .ok (.isub, 1) := by decide +kernel
theorem dX7_markOf_82 : decode cX7_markOf 82 = .ok (.ireturn, 1) := by decide +kernel
theorem dX7_commonSize_0 : decode cX7_commonSize 0 = .ok (.aload_n 0, 1) := by decide +kernel
theorem dX7_commonSize_1 : decode cX7_commonSize 1 = .ok (.bipush 11, 2) := by decide +kernel
theorem dX7_commonSize_3 : decode cX7_commonSize 3 = .ok (.invokevirtual 259, 3) := by decide +kernel
theorem dX7_commonSize_6 : decode cX7_commonSize 6 = .ok (.aload_n 0, 1) := by decide +kernel
theorem dX7_commonSize_7 : decode cX7_commonSize 7 = .ok (.iload_n 1, 1) := by decide +kernel
theorem dX7_commonSize_8 : decode cX7_commonSize 8 = .ok (.bipush 10, 2) := by decide +kernel
theorem dX7_commonSize_10 : decode cX7_commonSize 10 = .ok (.invokevirtual 262, 3) := by decide +kernel
theorem dX7_commonSize_13 : decode cX7_commonSize 13 = .ok (.istore_n 2, 1) := by decide +kernel
theorem dX7_commonSize_14 : decode cX7_commonSize 14 = .ok (.iload_n 2, 1) := by decide +kernel
theorem dX7_commonSize_15 : decode cX7_commonSize 15 = .ok (.aload_n 0, 1) := by decide +kernel
theorem dX7_commonSize_16 : decode cX7_commonSize 16 = .ok (.iload_n 1, 1) := by decide +kernel
theorem dX7_commonSize_17 : decode cX7_commonSize 17 = .ok (.invokevirtual 274, 3) := by decide +kernel
theorem dX7_commonSize_20 : decode cX7_commonSize 20 = .ok (.iadd, 1) := by decide +kernel
theorem dX7_commonSize_21 : decode cX7_commonSize 21 = .ok (.ireturn, 1) := by decide +kernel
theorem dX7_sizeOf_0 : decode cX7_sizeOf 0 = .ok (.aload_n 0, 1) := by decide +kernel
theorem dX7_sizeOf_1 : decode cX7_sizeOf 1 = .ok (.getfield 19, 3) := by decide +kernel
theorem dX7_sizeOf_4 : decode cX7_sizeOf 4 = .ok (.bipush 9, 2) := by decide +kernel
theorem dX7_sizeOf_6 : decode cX7_sizeOf 6 = .ok (.iload_n 1, 1) := by decide +kernel
theorem dX7_sizeOf_7 : decode cX7_sizeOf 7 = .ok (.iadd, 1) := by decide +kernel
theorem dX7_sizeOf_8 : decode cX7_sizeOf 8 = .ok (.iaload, 1) := by decide +kernel
theorem dX7_sizeOf_9 : decode cX7_sizeOf 9 = .ok (.istore_n 2, 1) := by decide +kernel
theorem dX7_sizeOf_10 : decode cX7_sizeOf 10 = .ok (.iload_n 2, 1) := by decide +kernel
theorem dX7_sizeOf_11 : decode cX7_sizeOf 11 = .ok (.iconst 2, 1) := by decide +kernel
theorem dX7_sizeOf_12 : decode cX7_sizeOf 12 = .ok (.if_icmp .ne 16, 3) := by decide +kernel
theorem dX7_sizeOf_15 : decode cX7_sizeOf 15 = .ok (.aload_n 0, 1) := by decide +kernel
theorem dX7_sizeOf_16 : decode cX7_sizeOf 16 = .ok (.bipush 12, 2) := by decide +kernel
theorem dX7_sizeOf_18 : decode cX7_sizeOf 18 = .ok (.invokevirtual 259, 3) := by decide +kernel
theorem dX7_sizeOf_21 : decode cX7_sizeOf 21 = .ok (.aload_n 0, 1) := by decide +kernel
theorem dX7_sizeOf_22 : decode cX7_sizeOf 22 = .ok (.iload_n 1, 1) := by decide +kernel
theorem dX7_sizeOf_23 : decode cX7_sizeOf 23 = .ok (.invokevirtual 277, 3) := by decide +kernel
theorem dX7_sizeOf_26 : decode cX7_sizeOf 26 = .ok (.ineg, 1) := by decide +kernel
theorem dX7_sizeOf_27 : decode cX7_sizeOf 27 = .ok (.ireturn, 1) := by decide +kernel
theorem dX7_sizeOf_28 : decode cX7_sizeOf 28 = .ok (.iload_n 2, 1) := by decide +kernel
theorem dX7_sizeOf_29 : decode cX7_sizeOf 29 = .ok (.iconst 4, 1) := by decide +kernel
theorem dX7_sizeOf_30 : decode cX7_sizeOf 30 = .ok (.if_icmp .lt 11, 3) := by decide +kernel
theorem dX7_sizeOf_33 : decode cX7_sizeOf 33 = .ok (.aload_n 0, 1) := by decide +kernel
theorem dX7_sizeOf_34 : decode cX7_sizeOf 34 = .ok (.iload_n 1, 1) := by decide +kernel
theorem dX7_sizeOf_35 : decode cX7_sizeOf 35 = .ok (.invokevirtual 271, 3) := by decide +kernel
theorem dX7_sizeOf_38 : decode cX7_sizeOf 38 = .ok (.goto 8, 3) := by decide +kernel
theorem dX7_sizeOf_41 : decode cX7_sizeOf 41 = .ok (.aload_n 0, 1) := by decide +kernel
theorem dX7_sizeOf_42 : decode cX7_sizeOf 42 = .ok (.iload_n 1, 1) := by decide +kernel
theorem dX7_sizeOf_43 : decode cX7_sizeOf 43 = .ok (.invokevirtual 277, 3) := by decide +kernel
theorem dX7_sizeOf_46 : decode cX7_sizeOf 46 = .ok (.ireturn, 1) := by decide +kernel
theorem dX7_ask_0 : decode cX7_ask 0 = .ok (.aload_n 0, 1) := by decide +kernel
theorem dX7_ask_1 : decode cX7_ask 1 = .ok (.iload_n 1, 1) := by decide +kernel
theorem dX7_ask_2 : decode cX7_ask 2 = .ok (.invokevirtual 165, 3) := by decide +kernel
theorem dX7_ask_5 : decode cX7_ask 5 = .ok (.ifCond .eq 13, 3) := by decide +kernel
theorem dX7_ask_8 : decode cX7_ask 8 = .ok (.iload_n 2, 1) := by decide +kernel
theorem dX7_ask_9 : decode cX7_ask 9 = .ok (.i2l, 1) := by decide +kernel
theorem dX7_ask_10 : decode cX7_ask 10 = .ok (.lconst 0, 1) := by decide +kernel
theorem dX7_ask_11 : decode cX7_ask 11 = .ok (.lconst 1, 1) := by decide +kernel
theorem dX7_ask_12 : decode cX7_ask 12 = .ok (.invokestatic 54, 3) := by decide +kernel
theorem dX7_ask_15 : decode cX7_ask 15 = .ok (.ifCond .ne 6, 3) := by decide +kernel
theorem dX7_ask_18 : decode cX7_ask 18 = .ok (.ldc 64, 2) := by decide +kernel
theorem dX7_ask_20 : decode cX7_ask 20 = .ok (.ireturn, 1) := by decide +kernel
theorem dX7_ask_21 : decode cX7_ask 21 = .ok (.aload_n 0, 1) := by decide +kernel
theorem dX7_ask_22 : decode cX7_ask 22 = .ok (.iconst 0, 1) := by decide +kernel
theorem dX7_ask_23 : decode cX7_ask 23 = .ok (.putfield 256, 3) := by decide +kernel
theorem dX7_ask_26 : decode cX7_ask 26 = .ok (.iload_n 2, 1) := by decide +kernel
theorem dX7_ask_27 : decode cX7_ask 27 = .ok (.ifCond .ne 11, 3) := by decide +kernel
theorem dX7_ask_30 : decode cX7_ask 30 = .ok (.aload_n 0, 1) := by decide +kernel
theorem dX7_ask_31 : decode cX7_ask 31 = .ok (.iload_n 1, 1) := by decide +kernel
theorem dX7_ask_32 : decode cX7_ask 32 = .ok (.invokevirtual 280, 3) := by decide +kernel
theorem dX7_ask_35 : decode cX7_ask 35 = .ok (.goto 8, 3) := by decide +kernel
theorem dX7_ask_38 : decode cX7_ask 38 = .ok (.aload_n 0, 1) := by decide +kernel
theorem dX7_ask_39 : decode cX7_ask 39 = .ok (.iload_n 1, 1) := by decide +kernel
theorem dX7_ask_40 : decode cX7_ask 40 = .ok (.invokevirtual 274, 3) := by decide +kernel
theorem dX7_ask_43 : decode cX7_ask 43 = .ok (.ireturn, 1) := by decide +kernel
theorem dX7_trace_0 : decode cX7_trace 0 = .ok (.iload_n 1, 1) := by decide +kernel
theorem dX7_trace_1 : decode cX7_trace 1 = .ok (.i2l, 1) := by decide +kernel
theorem dX7_trace_2 : decode cX7_trace 2 = .ok (.lconst 0, 1) := by decide +kernel
theorem dX7_trace_3 : decode cX7_trace 3 = .ok (.aload_n 0, 1) := by decide +kernel
theorem dX7_trace_4 : decode cX7_trace 4 = .ok (.getfield 256, 3) := by decide +kernel
theorem dX7_trace_7 : decode cX7_trace 7 = .ok (.iconst 1, 1) := by decide +kernel
theorem dX7_trace_8 : decode cX7_trace 8 = .ok (.isub, 1) := by decide +kernel
theorem dX7_trace_9 : decode cX7_trace 9 = .ok (.i2l, 1) := by decide +kernel
theorem dX7_trace_10 : decode cX7_trace 10 = .ok (.invokestatic 54, 3) := by decide +kernel
theorem dX7_trace_13 : decode cX7_trace 13 = .ok (.ifCond .eq 12, 3) := by decide +kernel
theorem dX7_trace_16 : decode cX7_trace 16 = .ok (.aload_n 0, 1) := by decide +kernel
theorem dX7_trace_17 : decode cX7_trace 17 = .ok (.getfield 44, 3) := by decide +kernel
theorem dX7_trace_20 : decode cX7_trace 20 = .ok (.iload_n 1, 1) := by decide +kernel
theorem dX7_trace_21 : decode cX7_trace 21 = .ok (.iaload, 1) := by decide +kernel
theorem dX7_trace_22 : decode cX7_trace 22 = .ok (.goto 5, 3) := by decide +kernel
theorem dX7_trace_25 : decode cX7_trace 25 = .ok (.ldc 209, 2) := by decide +kernel
theorem dX7_trace_27 : decode cX7_trace 27 = .ok (.ireturn, 1) := by decide +kernel
theorem dX7_count_0 : decode cX7_count 0 = .ok (.iconst 0, 1) := by decide +kernel
theorem dX7_count_1 : decode cX7_count 1 = .ok (.istore_n 2, 1) := by decide +kernel
theorem dX7_count_2 : decode cX7_count 2 = .ok (.iconst 0, 1) := by decide +kernel
theorem dX7_count_3 : decode cX7_count 3 = .ok (.istore_n 3, 1) := by decide +kernel
theorem dX7_count_4 : decode cX7_count 4 = .ok (.iload_n 3, 1) := by decide +kernel
theorem dX7_count_5 : decode cX7_count 5 = .ok (.bipush 8, 2) := by decide +kernel
theorem dX7_count_7 : decode cX7_count 7 = .ok (.if_icmp .ge 26, 3) := by decide +kernel
theorem dX7_count_10 : decode cX7_count 10 = .ok (.iload_n 2, 1) := by decide +kernel
theorem dX7_count_11 : decode cX7_count 11 = .ok (.aload_n 0, 1) := by decide +kernel
theorem dX7_count_12 : decode cX7_count 12 = .ok (.getfield 13, 3) := by decide +kernel
theorem dX7_count_15 : decode cX7_count 15 = .ok (.iload_n 3, 1) := by decide +kernel
theorem dX7_count_16 : decode cX7_count 16 = .ok (.iaload, 1) := by decide +kernel
theorem dX7_count_17 : decode cX7_count 17 = .ok (.ifCond .lt 7, 3) := by decide +kernel
theorem dX7_count_20 : decode cX7_count 20 = .ok (.iconst 1, 1) := by decide +kernel
theorem dX7_count_21 : decode cX7_count 21 = .ok (.goto 4, 3) := by decide +kernel
theorem dX7_count_24 : decode cX7_count 24 = .ok (.iconst 0, 1) := by decide +kernel
theorem dX7_count_25 : decode cX7_count 25 = .ok (.iadd, 1) := by decide +kernel
theorem dX7_count_26 : decode cX7_count 26 = .ok (.istore_n 2, 1) := by decide +kernel
theorem dX7_count_27 : decode cX7_count 27 = .ok (.iinc 3 1, 3) := by decide +kernel
theorem dX7_count_30 : decode cX7_count 30 = .ok (.goto (-26), 3) := by decide +kernel
theorem dX7_count_33 : decode cX7_count 33 = .ok (.iload_n 1, 1) := by decide +kernel
theorem dX7_count_34 : decode cX7_count 34 = .ok (.tableswitch 108 0 7 #[46, 48, 55, 62, 67, 91, 98, 103], 46) := by decide +kernel
theorem dX7_count_80 : decode cX7_count 80 = .ok (.iload_n 2, 1) := by decide +kernel
theorem dX7_count_81 : decode cX7_count 81 = .ok (.ireturn, 1) := by decide +kernel
theorem dX7_count_82 : decode cX7_count 82 = .ok (.aload_n 0, 1) := by decide +kernel
theorem dX7_count_83 : decode cX7_count 83 = .ok (.getfield 19, 3) := by decide +kernel
theorem dX7_count_86 : decode cX7_count 86 = .ok (.iconst 0, 1) := by decide +kernel
theorem dX7_count_87 : decode cX7_count 87 = .ok (.iaload, 1) := by decide +kernel
theorem dX7_count_88 : decode cX7_count 88 = .ok (.ireturn, 1) := by decide +kernel
theorem dX7_count_89 : decode cX7_count 89 = .ok (.aload_n 0, 1) := by decide +kernel
theorem dX7_count_90 : decode cX7_count 90 = .ok (.getfield 19, 3) := by decide +kernel
theorem dX7_count_93 : decode cX7_count 93 = .ok (.iconst 4, 1) := by decide +kernel
theorem dX7_count_94 : decode cX7_count 94 = .ok (.iaload, 1) := by decide +kernel
theorem dX7_count_95 : decode cX7_count 95 = .ok (.ireturn, 1) := by decide +kernel
theorem dX7_count_96 : decode cX7_count 96 = .ok (.aload_n 0, 1) := by decide +kernel
theorem dX7_count_97 : decode cX7_count 97 = .ok (.invokevirtual 161, 3) := by decide +kernel
theorem dX7_count_100 : decode cX7_count 100 = .ok (.ireturn, 1) := by decide +kernel
theorem dX7_count_101 : decode cX7_count 101 = .ok (.aload_n 0, 1) := by decide +kernel
theorem dX7_count_102 : decode cX7_count 102 = .ok (.getfield 19, 3) := by decide +kernel
theorem dX7_count_105 : decode cX7_count 105 = .ok (.bipush 6, 2) := by decide +kernel
theorem dX7_count_107 : decode cX7_count 107 = .ok (.iaload, 1) := by decide +kernel
theorem dX7_count_108 : decode cX7_count 108 = .ok (.aload_n 0, 1) := by decide +kernel
theorem dX7_count_109 : decode cX7_count 109 = .ok (.getfield 19, 3) := by decide +kernel
theorem dX7_count_112 : decode cX7_count 112 = .ok (.bipush 7, 2) := by decide +kernel
theorem dX7_count_114 : decode cX7_count 114 = .ok (.iaload, 1) := by decide +kernel
theorem dX7_count_115 : decode cX7_count 115 = .ok (.iadd, 1) := by decide +kernel
theorem dX7_count_116 : decode cX7_count 116 = .ok (.aload_n 0, 1) := by decide +kernel
theorem dX7_count_117 : decode cX7_count 117 = .ok (.getfield 19, 3) := by decide +kernel
theorem dX7_count_120 : decode cX7_count 120 = .ok (.bipush 8, 2) := by decide +kernel
theorem dX7_count_122 : decode cX7_count 122 = .ok (.iaload, 1) := by decide +kernel
theorem dX7_count_123 : decode cX7_count 123 = .ok (.iadd, 1) := by decide +kernel
theorem dX7_count_124 : decode cX7_count 124 = .ok (.ireturn, 1) := by decide +kernel
theorem dX7_count_125 : decode cX7_count 125 = .ok (.aload_n 0, 1) := by decide +kernel
theorem dX7_count_126 : decode cX7_count 126 = .ok (.getfield 19, 3) := by decide +kernel
theorem dX7_count_129 : decode cX7_count 129 = .ok (.iconst 5, 1) := by decide +kernel
theorem dX7_count_130 : decode cX7_count 130 = .ok (.iaload, 1) := by decide +kernel
theorem dX7_count_131 : decode cX7_count 131 = .ok (.ireturn, 1) := by decide +kernel
theorem dX7_count_132 : decode cX7_count 132 = .ok (.aload_n 0, 1) := by decide +kernel
theorem dX7_count_133 : decode cX7_count 133 = .ok (.getfield 136, 3) := by decide +kernel
theorem dX7_count_136 : decode cX7_count 136 = .ok (.ireturn, 1) := by decide +kernel
theorem dX7_count_137 : decode cX7_count 137 = .ok (.aload_n 0, 1) := by decide +kernel
theorem dX7_count_138 : decode cX7_count 138 = .ok (.getfield 78, 3) := by decide +kernel
theorem dX7_count_141 : decode cX7_count 141 = .ok (.ireturn, 1) := by decide +kernel
theorem dX7_count_142 : decode cX7_count 142 = .ok (.ldc 64, 2) := by decide +kernel
theorem dX7_count_144 : decode cX7_count 144 = .ok (.ireturn, 1) := by decide +kernel
theorem dX7_status_0 : decode cX7_status 0 = .ok (.aload_n 0, 1) := by decide +kernel
theorem dX7_status_1 : decode cX7_status 1 = .ok (.getfield 47, 3) := by decide +kernel
theorem dX7_status_4 : decode cX7_status 4 = .ok (.ireturn, 1) := by decide +kernel
