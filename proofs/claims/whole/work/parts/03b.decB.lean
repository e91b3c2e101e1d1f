theorem dX5_init_0 : decode cX5_init 0 = .ok (.aload_n 0, 1) := by decide +kernel
theorem dX5_init_1 : decode cX5_init 1 = .ok (.invokespecial 3, 3) := by decide +kernel
theorem dX5_init_4 : decode cX5_init 4 = .ok (.aload_n 0, 1) := by decide +kernel
theorem dX5_init_5 : decode cX5_init 5 = .ok (.bipush 100, 2) := by decide +kernel
theorem dX5_init_7 : decode cX5_init 7 = .ok (.newarray .int, 2) := by decide +kernel
theorem dX5_init_9 : decode cX5_init 9 = .ok (.putfield 9, 3) := by decide +kernel
theorem dX5_init_12 : decode cX5_init 12 = .ok (.aload_n 0, 1) := by decide +kernel
theorem dX5_init_13 : decode cX5_init 13 = .ok (.iconst 0, 1) := by decide +kernel
theorem dX5_init_14 : decode cX5_init 14 = .ok (.putfield 15, 3) := by decide +kernel
theorem dX5_init_17 : decode cX5_init 17 = .ok (.aload_n 0, 1) := by decide +kernel
theorem dX5_init_18 : decode cX5_init 18 = .ok (.iconst 0, 1) := by decide +kernel
theorem dX5_init_19 : decode cX5_init 19 = .ok (.putfield 19, 3) := by decide +kernel
theorem dX5_init_22 : decode cX5_init 22 = .ok (.aload_n 0, 1) := by decide +kernel
theorem dX5_init_23 : decode cX5_init 23 = .ok (.iconst 0, 1) := by decide +kernel
theorem dX5_init_24 : decode cX5_init 24 = .ok (.putfield 22, 3) := by decide +kernel
theorem dX5_init_27 : decode cX5_init 27 = .ok (.return_, 1) := by decide +kernel
theorem dX5_length_0 : decode cX5_length 0 = .ok (.aload_n 0, 1) := by decide +kernel
theorem dX5_length_1 : decode cX5_length 1 = .ok (.getfield 15, 3) := by decide +kernel
theorem dX5_length_4 : decode cX5_length 4 = .ok (.ireturn, 1) := by decide +kernel
theorem dX5_append_0 : decode cX5_append 0 = .ok (.aload_n 0, 1) := by decide +kernel
theorem dX5_append_1 : decode cX5_append 1 = .ok (.getfield 15, 3) := by decide +kernel
theorem dX5_append_4 : decode cX5_append 4 = .ok (.ifCond .lt 32, 3) := by decide +kernel
theorem dX5_append_7 : decode cX5_append 7 = .ok (.aload_n 0, 1) := by decide +kernel
theorem dX5_append_8 : decode cX5_append 8 = .ok (.getfield 15, 3) := by decide +kernel
theorem dX5_append_11 : decode cX5_append 11 = .ok (.bipush 100, 2) := by decide +kernel
theorem dX5_append_13 : decode cX5_append 13 = .ok (.if_icmp .ge 23, 3) := by decide +kernel
theorem dX5_append_16 : decode cX5_append 16 = .ok (.aload_n 0, 1) := by decide +kernel
theorem dX5_append_17 : decode cX5_append 17 = .ok (.getfield 9, 3) := by decide +kernel
theorem dX5_append_20 : decode cX5_append 20 = .ok (.aload_n 0, 1) := by decide +kernel
theorem dX5_append_21 : decode cX5_append 21 = .ok (.getfield 15, 3) := by decide +kernel
theorem dX5_append_24 : decode cX5_append 24 = .ok (.iload_n 1, 1) := by decide +kernel
theorem dX5_append_25 : decode cX5_append 25 = .ok (.iastore, 1) := by decide +kernel
theorem dX5_append_26 : decode cX5_append 26 = .ok (.aload_n 0, 1) := by decide +kernel
theorem dX5_append_27 : decode cX5_append 27 = .ok (.dup, 1) := by decide +kernel
theorem dX5_append_28 : decode cX5_append 28 = .ok (.getfield 15, 3) := by decide +kernel
theorem dX5_append_31 : decode cX5_append 31 = .ok (.iconst 1, 1) := by decide +kernel
theorem dX5_append_32 : decode cX5_append 32 = .ok (.iadd, 1) := by decide +kernel
theorem dX5_append_33 : decode cX5_append 33 = .ok (.putfield 15, 3) := by decide +kernel
theorem dX5_append_36 : decode cX5_append 36 = .ok (.aload_n 0, 1) := by decide +kernel
theorem dX5_append_37 : decode cX5_append 37 = .ok (.getfield 15, 3) := by decide +kernel
theorem dX5_append_40 : decode cX5_append 40 = .ok (.ireturn, 1) := by decide +kernel
theorem dX5_clear_0 : decode cX5_clear 0 = .ok (.aload_n 0, 1) := by decide +kernel
theorem dX5_clear_1 : decode cX5_clear 1 = .ok (.iconst 0, 1) := by decide +kernel
theorem dX5_clear_2 : decode cX5_clear 2 = .ok (.putfield 15, 3) := by decide +kernel
theorem dX5_clear_5 : decode cX5_clear 5 = .ok (.return_, 1) := by decide +kernel
theorem dX5_readTo_0 : decode cX5_readTo 0 = .ok (.aload_n 0, 1) := by decide +kernel
theorem dX5_readTo_1 : decode cX5_readTo 1 = .ok (.getfield 19, 3) := by decide +kernel
theorem dX5_readTo_4 : decode cX5_readTo 4 = .ok (.ireturn, 1) := by decide +kernel
theorem dX5_readInto_0 : decode cX5_readInto 0 = .ok (.aload_n 0, 1) := by decide +kernel
theorem dX5_readInto_1 : decode cX5_readInto 1 = .ok (.iconst 0, 1) := by decide +kernel
theorem dX5_readInto_2 : decode cX5_readInto 2 = .ok (.putfield 19, 3) := by decide +kernel
theorem dX5_readInto_5 : decode cX5_readInto 5 = .ok (.aload_n 0, 1) := by decide +kernel
theorem dX5_readInto_6 : decode cX5_readInto 6 = .ok (.iconst 0, 1) := by decide +kernel
theorem dX5_readInto_7 : decode cX5_readInto 7 = .ok (.putfield 22, 3) := by decide +kernel
theorem dX5_readInto_10 : decode cX5_readInto 10 = .ok (.aload_n 0, 1) := by decide +kernel
theorem dX5_readInto_11 : decode cX5_readInto 11 = .ok (.aload_n 1, 1) := by decide +kernel
theorem dX5_readInto_12 : decode cX5_readInto 12 = .ok (.invokevirtual 25, 3) := by decide +kernel
theorem dX5_readInto_15 : decode cX5_readInto 15 = .ok (.ifCond .eq 8, 3) := by decide +kernel
theorem dX5_readInto_18 : decode cX5_readInto 18 = .ok (.aload_n 0, 1) := by decide +kernel
theorem dX5_readInto_19 : decode cX5_readInto 19 = .ok (.aload_n 1, 1) := by decide +kernel
theorem dX5_readInto_20 : decode cX5_readInto 20 = .ok (.invokevirtual 29, 3) := by decide +kernel
theorem dX5_readInto_23 : decode cX5_readInto 23 = .ok (.aload_n 0, 1) := by decide +kernel
theorem dX5_readInto_24 : decode cX5_readInto 24 = .ok (.getfield 22, 3) := by decide +kernel
theorem dX5_readInto_27 : decode cX5_readInto 27 = .ok (.ireturn, 1) := by decide +kernel
theorem dX5_readLaw_0 : decode cX5_readLaw 0 = .ok (.aload_n 0, 1) := by decide +kernel
theorem dX5_readLaw_1 : decode cX5_readLaw 1 = .ok (.bipush 108, 2) := by decide +kernel
theorem dX5_readLaw_3 : decode cX5_readLaw 3 = .ok (.invokevirtual 33, 3) := by decide +kernel
theorem dX5_readLaw_6 : decode cX5_readLaw 6 = .ok (.ifCond .ne 5, 3) := by decide +kernel
theorem dX5_readLaw_9 : decode cX5_readLaw 9 = .ok (.iconst 0, 1) := by decide +kernel
theorem dX5_readLaw_10 : decode cX5_readLaw 10 = .ok (.ireturn, 1) := by decide +kernel
theorem dX5_readLaw_11 : decode cX5_readLaw 11 = .ok (.aload_n 0, 1) := by decide +kernel
theorem dX5_readLaw_12 : decode cX5_readLaw 12 = .ok (.iconst 0, 1) := by decide +kernel
theorem dX5_readLaw_13 : decode cX5_readLaw 13 = .ok (.bipush 8, 2) := by decide +kernel
theorem dX5_readLaw_15 : decode cX5_readLaw 15 = .ok (.invokevirtual 37, 3) := by decide +kernel
theorem dX5_readLaw_18 : decode cX5_readLaw 18 = .ok (.istore_n 2, 1) := by decide +kernel
theorem dX5_readLaw_19 : decode cX5_readLaw 19 = .ok (.iload_n 2, 1) := by decide +kernel
theorem dX5_readLaw_20 : decode cX5_readLaw 20 = .ok (.iconst (-1), 1) := by decide +kernel
theorem dX5_readLaw_21 : decode cX5_readLaw 21 = .ok (.if_icmp .eq 12, 3) := by decide +kernel
theorem dX5_readLaw_24 : decode cX5_readLaw 24 = .ok (.aload_n 0, 1) := by decide +kernel
theorem dX5_readLaw_25 : decode cX5_readLaw 25 = .ok (.bipush 44, 2) := by decide +kernel
theorem dX5_readLaw_27 : decode cX5_readLaw 27 = .ok (.invokevirtual 33, 3) := by decide +kernel
theorem dX5_readLaw_30 : decode cX5_readLaw 30 = .ok (.ifCond .ne 5, 3) := by decide +kernel
theorem dX5_readLaw_33 : decode cX5_readLaw 33 = .ok (.iconst 0, 1) := by decide +kernel
theorem dX5_readLaw_34 : decode cX5_readLaw 34 = .ok (.ireturn, 1) := by decide +kernel
theorem dX5_readLaw_35 : decode cX5_readLaw 35 = .ok (.aload_n 0, 1) := by decide +kernel
theorem dX5_readLaw_36 : decode cX5_readLaw 36 = .ok (.iconst 0, 1) := by decide +kernel
theorem dX5_readLaw_37 : decode cX5_readLaw 37 = .ok (.bipush 8, 2) := by decide +kernel
theorem dX5_readLaw_39 : decode cX5_readLaw 39 = .ok (.invokevirtual 37, 3) := by decide +kernel
theorem dX5_readLaw_42 : decode cX5_readLaw 42 = .ok (.istore_n 3, 1) := by decide +kernel
theorem dX5_readLaw_43 : decode cX5_readLaw 43 = .ok (.iload_n 3, 1) := by decide +kernel
theorem dX5_readLaw_44 : decode cX5_readLaw 44 = .ok (.iconst (-1), 1) := by decide +kernel
theorem dX5_readLaw_45 : decode cX5_readLaw 45 = .ok (.if_icmp .eq 12, 3) := by decide +kernel
theorem dX5_readLaw_48 : decode cX5_readLaw 48 = .ok (.aload_n 0, 1) := by decide +kernel
theorem dX5_readLaw_49 : decode cX5_readLaw 49 = .ok (.bipush 44, 2) := by decide +kernel
theorem dX5_readLaw_51 : decode cX5_readLaw 51 = .ok (.invokevirtual 33, 3) := by decide +kernel
theorem dX5_readLaw_54 : decode cX5_readLaw 54 = .ok (.ifCond .ne 5, 3) := by decide +kernel
theorem dX5_readLaw_57 : decode cX5_readLaw 57 = .ok (.iconst 0, 1) := by decide +kernel
theorem dX5_readLaw_58 : decode cX5_readLaw 58 = .ok (.ireturn, 1) := by decide +kernel
theorem dX5_readLaw_59 : decode cX5_readLaw 59 = .ok (.aload_n 0, 1) := by decide +kernel
theorem dX5_readLaw_60 : decode cX5_readLaw 60 = .ok (.iconst 1, 1) := by decide +kernel
theorem dX5_readLaw_61 : decode cX5_readLaw 61 = .ok (.bipush 9, 2) := by decide +kernel
theorem dX5_readLaw_63 : decode cX5_readLaw 63 = .ok (.invokevirtual 37, 3) := by decide +kernel
theorem dX5_readLaw_66 : decode cX5_readLaw 66 = .ok (.istore 4, 2) := by decide +kernel
theorem dX5_readLaw_68 : decode cX5_readLaw 68 = .ok (.iload 4, 2) := by decide +kernel
theorem dX5_readLaw_70 : decode cX5_readLaw 70 = .ok (.iconst (-1), 1) := by decide +kernel
theorem dX5_readLaw_71 : decode cX5_readLaw 71 = .ok (.if_icmp .eq 12, 3) := by decide +kernel
theorem dX5_readLaw_74 : decode cX5_readLaw 74 = .ok (.aload_n 0, 1) := by decide +kernel
theorem dX5_readLaw_75 : decode cX5_readLaw 75 = .ok (.bipush 59, 2) := by decide +kernel
theorem dX5_readLaw_77 : decode cX5_readLaw 77 = .ok (.invokevirtual 33, 3) := by decide +kernel
theorem dX5_readLaw_80 : decode cX5_readLaw 80 = .ok (.ifCond .ne 5, 3) := by decide +kernel
theorem dX5_readLaw_83 : decode cX5_readLaw 83 = .ok (.iconst 0, 1) := by decide +kernel
theorem dX5_readLaw_84 : decode cX5_readLaw 84 = .ok (.ireturn, 1) := by decide +kernel
theorem dX5_readLaw_85 : decode cX5_readLaw 85 = .ok (.aload_n 1, 1) := by decide +kernel
theorem dX5_readLaw_86 : decode cX5_readLaw 86 = .ok (.iload_n 2, 1) := by decide +kernel
theorem dX5_readLaw_87 : decode cX5_readLaw 87 = .ok (.iload_n 3, 1) := by decide +kernel
theorem dX5_readLaw_88 : decode cX5_readLaw 88 = .ok (.iload 4, 2) := by decide +kernel
theorem dX5_readLaw_90 : decode cX5_readLaw 90 = .ok (.invokevirtual 41, 3) := by decide +kernel
theorem dX5_readLaw_93 : decode cX5_readLaw 93 = .ok (.iconst 1, 1) := by decide +kernel
theorem dX5_readLaw_94 : decode cX5_readLaw 94 = .ok (.ireturn, 1) := by decide +kernel
theorem dX5_readBeds_0 : decode cX5_readBeds 0 = .ok (.iconst 0, 1) := by decide +kernel
theorem dX5_readBeds_1 : decode cX5_readBeds 1 = .ok (.istore_n 2, 1) := by decide +kernel
theorem dX5_readBeds_2 : decode cX5_readBeds 2 = .ok (.iload_n 2, 1) := by decide +kernel
theorem dX5_readBeds_3 : decode cX5_readBeds 3 = .ok (.bipush 9, 2) := by decide +kernel
theorem dX5_readBeds_5 : decode cX5_readBeds 5 = .ok (.if_icmp .gt 29, 3) := by decide +kernel
theorem dX5_readBeds_8 : decode cX5_readBeds 8 = .ok (.aload_n 0, 1) := by decide +kernel
theorem dX5_readBeds_9 : decode cX5_readBeds 9 = .ok (.aload_n 1, 1) := by decide +kernel
theorem dX5_readBeds_10 : decode cX5_readBeds 10 = .ok (.invokevirtual 47, 3) := by decide +kernel
theorem dX5_readBeds_13 : decode cX5_readBeds 13 = .ok (.ifCond .eq 14, 3) := by decide +kernel
theorem dX5_readBeds_16 : decode cX5_readBeds 16 = .ok (.aload_n 0, 1) := by decide +kernel
theorem dX5_readBeds_17 : decode cX5_readBeds 17 = .ok (.getfield 19, 3) := by decide +kernel
theorem dX5_readBeds_20 : decode cX5_readBeds 20 = .ok (.aload_n 0, 1) := by decide +kernel
theorem dX5_readBeds_21 : decode cX5_readBeds 21 = .ok (.getfield 15, 3) := by decide +kernel
theorem dX5_readBeds_24 : decode cX5_readBeds 24 = .ok (.if_icmp .lt 4, 3) := by decide +kernel
theorem dX5_readBeds_27 : decode cX5_readBeds 27 = .ok (.return_, 1) := by decide +kernel
theorem dX5_readBeds_28 : decode cX5_readBeds 28 = .ok (.iinc 2 1, 3) := by decide +kernel
theorem dX5_readBeds_31 : decode cX5_readBeds 31 = .ok (.goto (-29), 3) := by decide +kernel
theorem dX5_readBeds_34 : decode cX5_readBeds 34 = .ok (.return_, 1) := by decide +kernel
theorem dX5_readBed_0 : decode cX5_readBed 0 = .ok (.aload_n 0, 1) := by decide +kernel
theorem dX5_readBed_1 : decode cX5_readBed 1 = .ok (.aload_n 0, 1) := by decide +kernel
theorem dX5_readBed_2 : decode cX5_readBed 2 = .ok (.getfield 19, 3) := by decide +kernel
theorem dX5_readBed_5 : decode cX5_readBed 5 = .ok (.invokevirtual 50, 3) := by decide +kernel
theorem dX5_readBed_8 : decode cX5_readBed 8 = .ok (.invokestatic 54, 3) := by decide +kernel
theorem dX5_readBed_11 : decode cX5_readBed 11 = .ok (.istore_n 2, 1) := by decide +kernel
theorem dX5_readBed_12 : decode cX5_readBed 12 = .ok (.iload_n 2, 1) := by decide +kernel
theorem dX5_readBed_13 : decode cX5_readBed 13 = .ok (.ifCond .ne 9, 3) := by decide +kernel
theorem dX5_readBed_16 : decode cX5_readBed 16 = .ok (.aload_n 0, 1) := by decide +kernel
theorem dX5_readBed_17 : decode cX5_readBed 17 = .ok (.iconst 1, 1) := by decide +kernel
theorem dX5_readBed_18 : decode cX5_readBed 18 = .ok (.invokevirtual 57, 3) := by decide +kernel
theorem dX5_readBed_21 : decode cX5_readBed 21 = .ok (.ireturn, 1) := by decide +kernel
theorem dX5_readBed_22 : decode cX5_readBed 22 = .ok (.aload_n 1, 1) := by decide +kernel
theorem dX5_readBed_23 : decode cX5_readBed 23 = .ok (.getfield 60, 3) := by decide +kernel
theorem dX5_readBed_26 : decode cX5_readBed 26 = .ok (.bipush 9, 2) := by decide +kernel
theorem dX5_readBed_28 : decode cX5_readBed 28 = .ok (.if_icmp .lt 9, 3) := by decide +kernel
theorem dX5_readBed_31 : decode cX5_readBed 31 = .ok (.aload_n 0, 1) := by decide +kernel
theorem dX5_readBed_32 : decode cX5_readBed 32 = .ok (.iconst 3, 1) := by decide +kernel
theorem dX5_readBed_33 : decode cX5_readBed 33 = .ok (.invokevirtual 57, 3) := by decide +kernel
theorem dX5_readBed_36 : decode cX5_readBed 36 = .ok (.ireturn, 1) := by decide +kernel
theorem dX5_readBed_37 : decode cX5_readBed 37 = .ok (.aload_n 0, 1) := by decide +kernel
theorem dX5_readBed_38 : decode cX5_readBed 38 = .ok (.dup, 1) := by decide +kernel
theorem dX5_readBed_39 : decode cX5_readBed 39 = .ok (.getfield 19, 3) := by decide +kernel
theorem dX5_readBed_42 : decode cX5_readBed 42 = .ok (.iconst 1, 1) := by decide +kernel
theorem dX5_readBed_43 : decode cX5_readBed 43 = .ok (.iadd, 1) := by decide +kernel
theorem dX5_readBed_44 : decode cX5_readBed 44 = .ok (.putfield 19, 3) := by decide +kernel
theorem dX5_readBed_47 : decode cX5_readBed 47 = .ok (.aload_n 0, 1) := by decide +kernel
theorem dX5_readBed_48 : decode cX5_readBed 48 = .ok (.iconst 0, 1) := by decide +kernel
theorem dX5_readBed_49 : decode cX5_readBed 49 = .ok (.bipush 99, 2) := by decide +kernel
theorem dX5_readBed_51 : decode cX5_readBed 51 = .ok (.invokevirtual 37, 3) := by decide +kernel
theorem dX5_readBed_54 : decode cX5_readBed 54 = .ok (.istore_n 3, 1) := by decide +kernel
theorem dX5_readBed_55 : decode cX5_readBed 55 = .ok (.iload_n 3, 1) := by decide +kernel
theorem dX5_readBed_56 : decode cX5_readBed 56 = .ok (.iconst (-1), 1) := by decide +kernel
theorem dX5_readBed_57 : decode cX5_readBed 57 = .ok (.if_icmp .eq 12, 3) := by decide +kernel
theorem dX5_readBed_60 : decode cX5_readBed 60 = .ok (.aload_n 0, 1) := by decide +kernel
theorem dX5_readBed_61 : decode cX5_readBed 61 = .ok (.bipush 44, 2) := by decide +kernel
theorem dX5_readBed_63 : decode cX5_readBed 63 = .ok (.invokevirtual 33, 3) := by decide +kernel
theorem dX5_readBed_66 : decode cX5_readBed 66 = .ok (.ifCond .ne 5, 3) := by decide +kernel
theorem dX5_readBed_69 : decode cX5_readBed 69 = .ok (.iconst 0, 1) := by decide +kernel
theorem dX5_readBed_70 : decode cX5_readBed 70 = .ok (.ireturn, 1) := by decide +kernel
theorem dX5_readBed_71 : decode cX5_readBed 71 = .ok (.aload_n 0, 1) := by decide +kernel
theorem dX5_readBed_72 : decode cX5_readBed 72 = .ok (.iconst 0, 1) := by decide +kernel
theorem dX5_readBed_73 : decode cX5_readBed 73 = .ok (.bipush 9, 2) := by decide +kernel
theorem dX5_readBed_75 : decode cX5_readBed 75 = .ok (.invokevirtual 37, 3) := by decide +kernel
theorem dX5_readBed_78 : decode cX5_readBed 78 = .ok (.istore 4, 2) := by decide +kernel
theorem dX5_readBed_80 : decode cX5_readBed 80 = .ok (.iload 4, 2) := by decide +kernel
theorem dX5_readBed_82 : decode cX5_readBed 82 = .ok (.iconst (-1), 1) := by decide +kernel
theorem dX5_readBed_83 : decode cX5_readBed 83 = .ok (.if_icmp .eq 12, 3) := by decide +kernel
theorem dX5_readBed_86 : decode cX5_readBed 86 = .ok (.aload_n 0, 1) := by decide +kernel
theorem dX5_readBed_87 : decode cX5_readBed 87 = .ok (.bipush 59, 2) := by decide +kernel
theorem dX5_readBed_89 : decode cX5_readBed 89 = .ok (.invokevirtual 33, 3) := by decide +kernel
theorem dX5_readBed_92 : decode cX5_readBed 92 = .ok (.ifCond .ne 5, 3) := by decide +kernel
theorem dX5_readBed_95 : decode cX5_readBed 95 = .ok (.iconst 0, 1) := by decide +kernel
theorem dX5_readBed_96 : decode cX5_readBed 96 = .ok (.ireturn, 1) := by decide +kernel
theorem dX5_readBed_97 : decode cX5_readBed 97 = .ok (.aload_n 1, 1) := by decide +kernel
theorem dX5_readBed_98 : decode cX5_readBed 98 = .ok (.iload_n 2, 1) := by decide +kernel
theorem dX5_readBed_99 : decode cX5_readBed 99 = .ok (.iload_n 3, 1) := by decide +kernel
theorem dX5_readBed_100 : decode cX5_readBed 100 = .ok (.iload 4, 2) := by decide +kernel
theorem dX5_readBed_102 : decode cX5_readBed 102 = .ok (.invokevirtual 63, 3) := by decide +kernel
theorem dX5_readBed_105 : decode cX5_readBed 105 = .ok (.iconst 1, 1) := by decide +kernel
theorem dX5_readBed_106 : decode cX5_readBed 106 = .ok (.ireturn, 1) := by decide +kernel
theorem dX5_takes_0 : decode cX5_takes 0 = .ok (.aload_n 0, 1) := by decide +kernel
theorem dX5_takes_1 : decode cX5_takes 1 = .ok (.aload_n 0, 1) := by decide +kernel
theorem dX5_takes_2 : decode cX5_takes 2 = .ok (.getfield 19, 3) := by decide +kernel
theorem dX5_takes_5 : decode cX5_takes 5 = .ok (.invokevirtual 50, 3) := by decide +kernel
theorem dX5_takes_8 : decode cX5_takes 8 = .ok (.iload_n 1, 1) := by decide +kernel
theorem dX5_takes_9 : decode cX5_takes 9 = .ok (.if_icmp .eq 9, 3) := by decide +kernel
theorem dX5_takes_12 : decode cX5_takes 12 = .ok (.aload_n 0, 1) := by decide +kernel
theorem dX5_takes_13 : decode cX5_takes 13 = .ok (.iconst 1, 1) := by decide +kernel
theorem dX5_takes_14 : decode cX5_takes 14 = .ok (.invokevirtual 57, 3) := by decide +kernel
theorem dX5_takes_17 : decode cX5_takes 17 = .ok (.ireturn, 1) := by decide +kernel
theorem dX5_takes_18 : decode cX5_takes 18 = .ok (.aload_n 0, 1) := by decide +kernel
theorem dX5_takes_19 : decode cX5_takes 19 = .ok (.dup, 1) := by decide +kernel
theorem dX5_takes_20 : decode cX5_takes 20 = .ok (.getfield 19, 3) := by decide +kernel
theorem dX5_takes_23 : decode cX5_takes 23 = .ok (.iconst 1, 1) := by decide +kernel
theorem dX5_takes_24 : decode cX5_takes 24 = .ok (.iadd, 1) := by decide +kernel
theorem dX5_takes_25 : decode cX5_takes 25 = .ok (.putfield 19, 3) := by decide +kernel
theorem dX5_takes_28 : decode cX5_takes 28 = .ok (.iconst 1, 1) := by decide +kernel
theorem dX5_takes_29 : decode cX5_takes 29 = .ok (.ireturn, 1) := by decide +kernel
theorem dX5_number_0 : decode cX5_number 0 = .ok (.aload_n 0, 1) := by decide +kernel
theorem dX5_number_1 : decode cX5_number 1 = .ok (.invokevirtual 66, 3) := by decide +kernel
theorem dX5_number_4 : decode cX5_number 4 = .ok (.istore_n 3, 1) := by decide +kernel
theorem dX5_number_5 : decode cX5_number 5 = .ok (.iload_n 3, 1) := by decide +kernel
theorem dX5_number_6 : decode cX5_number 6 = .ok (.iconst 1, 1) := by decide +kernel
theorem dX5_number_7 : decode cX5_number 7 = .ok (.if_icmp .lt 8, 3) := by decide +kernel
theorem dX5_number_10 : decode cX5_number 10 = .ok (.iload_n 3, 1) := by decide +kernel
theorem dX5_number_11 : decode cX5_number 11 = .ok (.iconst 2, 1) := by decide +kernel
theorem dX5_number_12 : decode cX5_number 12 = .ok (.if_icmp .le 11, 3) := by decide +kernel
theorem dX5_number_15 : decode cX5_number 15 = .ok (.aload_n 0, 1) := by decide +kernel
theorem dX5_number_16 : decode cX5_number 16 = .ok (.iconst 1, 1) := by decide +kernel
theorem dX5_number_17 : decode cX5_number 17 = .ok (.invokevirtual 57, 3) := by decide +kernel
theorem dX5_number_20 : decode cX5_number 20 = .ok (.pop, 1) := by decide +kernel
theorem dX5_number_21 : decode cX5_number 21 = .ok (.iconst (-1), 1) := by decide +kernel
theorem dX5_number_22 : decode cX5_number 22 = .ok (.ireturn, 1) := by decide +kernel
theorem dX5_number_23 : decode cX5_number 23 = .ok (.iconst 0, 1) := by decide +kernel
theorem dX5_number_24 : decode cX5_number 24 = .ok (.istore 4, 2) := by decide +kernel
theorem dX5_number_26 : decode cX5_number 26 = .ok (.iconst 0, 1) := by decide +kernel
theorem dX5_number_27 : decode cX5_number 27 = .ok (.istore 5, 2) := by decide +kernel
theorem dX5_number_29 : decode cX5_number 29 = .ok (.iload 5, 2) := by decide +kernel
theorem dX5_number_31 : decode cX5_number 31 = .ok (.iload_n 3, 1) := by decide +kernel
theorem dX5_number_32 : decode cX5_number 32 = .ok (.if_icmp .ge 31, 3) := by decide +kernel
theorem dX5_number_35 : decode cX5_number 35 = .ok (.bipush 10, 2) := by decide +kernel
theorem dX5_number_37 : decode cX5_number 37 = .ok (.iload 4, 2) := by decide +kernel
theorem dX5_number_39 : decode cX5_number 39 = .ok (.imul, 1) := by decide +kernel
theorem dX5_number_40 : decode cX5_number 40 = .ok (.aload_n 0, 1) := by decide +kernel
theorem dX5_number_41 : decode cX5_number 41 = .ok (.aload_n 0, 1) := by decide +kernel
theorem dX5_number_42 : decode cX5_number 42 = .ok (.getfield 19, 3) := by decide +kernel
theorem dX5_number_45 : decode cX5_number 45 = .ok (.iload 5, 2) := by decide +kernel
theorem dX5_number_47 : decode cX5_number 47 = .ok (.iadd, 1) := by decide +kernel
theorem dX5_number_48 : decode cX5_number 48 = .ok (.invokevirtual 50, 3) := by decide +kernel
theorem dX5_number_51 : decode cX5_number 51 = .ok (.iadd, 1) := by decide +kernel
theorem dX5_number_52 : decode cX5_number 52 = .ok (.bipush 48, 2) := by decide +kernel
theorem dX5_number_54 : decode cX5_number 54 = .ok (.isub, 1) := by decide +kernel
theorem dX5_number_55 : decode cX5_number 55 = .ok (.istore 4, 2) := by decide +kernel
theorem dX5_number_57 : decode cX5_number 57 = .ok (.iinc 5 1, 3) := by decide +kernel
theorem dX5_number_60 : decode cX5_number 60 = .ok (.goto (-31), 3) := by decide +kernel
theorem dX5_number_63 : decode cX5_number 63 = .ok (.iload 4, 2) := by decide +kernel
theorem dX5_number_65 : decode cX5_number 65 = .ok (.iload_n 1, 1) := by decide +kernel
theorem dX5_number_66 : decode cX5_number 66 = .ok (.iload_n 2, 1) := by decide +kernel
theorem dX5_number_67 : decode cX5_number 67 = .ok (.invokestatic 70, 3) := by decide +kernel
theorem dX5_number_70 : decode cX5_number 70 = .ok (.ifCond .ne 11, 3) := by decide +kernel
theorem dX5_number_73 : decode cX5_number 73 = .ok (.aload_n 0, 1) := by decide +kernel
theorem dX5_number_74 : decode cX5_number 74 = .ok (.iconst 2, 1) := by decide +kernel
theorem dX5_number_75 : decode cX5_number 75 = .ok (.invokevirtual 57, 3) := by decide +kernel
theorem dX5_number_78 : decode cX5_number 78 = .ok (.pop, 1) := by decide +kernel
theorem dX5_number_79 : decode cX5_number 79 = .ok (.iconst (-1), 1) := by decide +kernel
theorem dX5_number_80 : decode cX5_number 80 = .ok (.ireturn, 1) := by decide +kernel
theorem dX5_number_81 : decode cX5_number 81 = .ok (.aload_n 0, 1) := by decide +kernel
theorem dX5_number_82 : decode cX5_number 82 = .ok (.dup, 1) := by decide +kernel
theorem dX5_number_83 : decode cX5_number 83 = .ok (.getfield 19, 3) := by decide +kernel
theorem dX5_number_86 : decode cX5_number 86 = .ok (.iload_n 3, 1) := by decide +kernel
theorem dX5_number_87 : decode cX5_number 87 = .ok (.iadd, 1) := by decide +kernel
theorem dX5_number_88 : decode cX5_number 88 = .ok (.putfield 19, 3) := by decide +kernel
theorem dX5_number_91 : decode cX5_number 91 = .ok (.iload 4, 2) := by decide +kernel
theorem dX5_number_93 : decode cX5_number 93 = .ok (.ireturn, 1) := by decide +kernel
theorem dX5_figuresAhead_0 : decode cX5_figuresAhead 0 = .ok (.iconst 0, 1) := by decide +kernel
theorem dX5_figuresAhead_1 : decode cX5_figuresAhead 1 = .ok (.istore_n 1, 1) := by decide +kernel
theorem dX5_figuresAhead_2 : decode cX5_figuresAhead 2 = .ok (.iload_n 1, 1) := by decide +kernel
theorem dX5_figuresAhead_3 : decode cX5_figuresAhead 3 = .ok (.bipush 100, 2) := by decide +kernel
theorem dX5_figuresAhead_5 : decode cX5_figuresAhead 5 = .ok (.if_icmp .ge 29, 3) := by decide +kernel
theorem dX5_figuresAhead_8 : decode cX5_figuresAhead 8 = .ok (.aload_n 0, 1) := by decide +kernel
theorem dX5_figuresAhead_9 : decode cX5_figuresAhead 9 = .ok (.aload_n 0, 1) := by decide +kernel
theorem dX5_figuresAhead_10 : decode cX5_figuresAhead 10 = .ok (.getfield 19, 3) := by decide +kernel
theorem dX5_figuresAhead_13 : decode cX5_figuresAhead 13 = .ok (.iload_n 1, 1) := by decide +kernel
theorem dX5_figuresAhead_14 : decode cX5_figuresAhead 14 = .ok (.iadd, 1) := by decide +kernel
theorem dX5_figuresAhead_15 : decode cX5_figuresAhead 15 = .ok (.invokevirtual 50, 3) := by decide +kernel
theorem dX5_figuresAhead_18 : decode cX5_figuresAhead 18 = .ok (.bipush 48, 2) := by decide +kernel
theorem dX5_figuresAhead_20 : decode cX5_figuresAhead 20 = .ok (.bipush 57, 2) := by decide +kernel
theorem dX5_figuresAhead_22 : decode cX5_figuresAhead 22 = .ok (.invokestatic 70, 3) := by decide +kernel
theorem dX5_figuresAhead_25 : decode cX5_figuresAhead 25 = .ok (.ifCond .eq 9, 3) := by decide +kernel
theorem dX5_figuresAhead_28 : decode cX5_figuresAhead 28 = .ok (.iinc 1 1, 3) := by decide +kernel
theorem dX5_figuresAhead_31 : decode cX5_figuresAhead 31 = .ok (.goto (-29), 3) := by decide +kernel
theorem dX5_figuresAhead_34 : decode cX5_figuresAhead 34 = .ok (.iload_n 1, 1) := by decide +kernel
theorem dX5_figuresAhead_35 : decode cX5_figuresAhead 35 = .ok (.ireturn, 1) := by decide +kernel
theorem dX5_letterAt_0 : decode cX5_letterAt 0 = .ok (.iload_n 1, 1) := by decide +kernel
theorem dX5_letterAt_1 : decode cX5_letterAt 1 = .ok (.ifCond .lt 26, 3) := by decide +kernel
theorem dX5_letterAt_4 : decode cX5_letterAt 4 = .ok (.iload_n 1, 1) := by decide +kernel
theorem dX5_letterAt_5 : decode cX5_letterAt 5 = .ok (.aload_n 0, 1) := by decide +kernel
theorem dX5_letterAt_6 : decode cX5_letterAt 6 = .ok (.getfield 15, 3) := by decide +kernel
theorem dX5_letterAt_9 : decode cX5_letterAt 9 = .ok (.if_icmp .ge 18, 3) := by decide +kernel
theorem dX5_letterAt_12 : decode cX5_letterAt 12 = .ok (.iload_n 1, 1) := by decide +kernel
theorem dX5_letterAt_13 : decode cX5_letterAt 13 = .ok (.bipush 100, 2) := by decide +kernel
theorem dX5_letterAt_15 : decode cX5_letterAt 15 = .ok (.if_icmp .ge 12, 3) := by decide +kernel
theorem dX5_letterAt_18 : decode cX5_letterAt 18 = .ok (.aload_n 0, 1) := by decide +kernel
theorem dX5_letterAt_19 : decode cX5_letterAt 19 = .ok (.getfield 9, 3) := by decide +kernel
theorem dX5_letterAt_22 : decode cX5_letterAt 22 = .ok (.iload_n 1, 1) := by decide +kernel
theorem dX5_letterAt_23 : decode cX5_letterAt 23 = .ok (.iaload, 1) := by decide +kernel
theorem dX5_letterAt_24 : decode cX5_letterAt 24 = .ok (.goto 4, 3) := by decide +kernel
theorem dX5_letterAt_27 : decode cX5_letterAt 27 = .ok (.iconst (-1), 1) := by decide +kernel
theorem dX5_letterAt_28 : decode cX5_letterAt 28 = .ok (.ireturn, 1) := by decide +kernel
theorem dX5_fails_0 : decode cX5_fails 0 = .ok (.aload_n 0, 1) := by decide +kernel
theorem dX5_fails_1 : decode cX5_fails 1 = .ok (.iload_n 1, 1) := by decide +kernel
theorem dX5_fails_2 : decode cX5_fails 2 = .ok (.putfield 22, 3) := by decide +kernel
theorem dX5_fails_5 : decode cX5_fails 5 = .ok (.iconst 0, 1) := by decide +kernel
theorem dX5_fails_6 : decode cX5_fails 6 = .ok (.ireturn, 1) := by decide +kernel
theorem dX5_kindNamed_0 : decode cX5_kindNamed 0 = .ok (.iload_n 0, 1) := by decide +kernel
theorem dX5_kindNamed_1 : decode cX5_kindNamed 1 = .ok (.lookupswitch 61 #[(99, 51), (107, 55), (113, 59), (115, 53), (119, 57)], 51) := by decide +kernel
theorem dX5_kindNamed_52 : decode cX5_kindNamed 52 = .ok (.iconst 1, 1) := by decide +kernel
theorem dX5_kindNamed_53 : decode cX5_kindNamed 53 = .ok (.ireturn, 1) := by decide +kernel
theorem dX5_kindNamed_54 : decode cX5_kindNamed 54 = .ok (.iconst 2, 1) := by decide +kernel
theorem dX5_kindNamed_55 : decode cX5_kindNamed 55 = .ok (.ireturn, 1) := by decide +kernel
theorem dX5_kindNamed_56 : decode cX5_kindNamed 56 = .ok (.iconst 3, 1) := by decide +kernel
theorem dX5_kindNamed_57 : decode cX5_kindNamed 57 = .ok (.ireturn, 1) := by decide +kernel
theorem dX5_kindNamed_58 : decode cX5_kindNamed 58 = .ok (.iconst 4, 1) := by decide +kernel
theorem dX5_kindNamed_59 : decode cX5_kindNamed 59 = .ok (.ireturn, 1) := by decide +kernel
theorem dX5_kindNamed_60 : decode cX5_kindNamed 60 = .ok (.iconst 5, 1) := by decide +kernel
theorem dX5_kindNamed_61 : decode cX5_kindNamed 61 = .ok (.ireturn, 1) := by decide +kernel
theorem dX5_kindNamed_62 : decode cX5_kindNamed 62 = .ok (.iconst 0, 1) := by decide +kernel
theorem dX5_kindNamed_63 : decode cX5_kindNamed 63 = .ok (.ireturn, 1) := by decide +kernel
theorem dX6_init_0 : decode cX6_init 0 = .ok (.aload_n 0, 1) := by decide +kernel
theorem dX6_init_1 : decode cX6_init 1 = .ok (.invokespecial 1, 3) := by decide +kernel
theorem dX6_init_4 : decode cX6_init 4 = .ok (.aload_n 0, 1) := by decide +kernel
theorem dX6_init_5 : decode cX6_init 5 = .ok (.new 7, 3) := by decide +kernel
theorem dX6_init_8 : decode cX6_init 8 = .ok (.dup, 1) := by decide +kernel
theorem dX6_init_9 : decode cX6_init 9 = .ok (.invokespecial 9, 3) := by decide +kernel
theorem dX6_init_12 : decode cX6_init 12 = .ok (.putfield 10, 3) := by decide +kernel
theorem dX6_init_15 : decode cX6_init 15 = .ok (.aload_n 0, 1) := by decide +kernel
theorem dX6_init_16 : decode cX6_init 16 = .ok (.new 16, 3) := by decide +kernel
theorem dX6_init_19 : decode cX6_init 19 = .ok (.dup, 1) := by decide +kernel
theorem dX6_init_20 : decode cX6_init 20 = .ok (.invokespecial 18, 3) := by decide +kernel
theorem dX6_init_23 : decode cX6_init 23 = .ok (.putfield 19, 3) := by decide +kernel
theorem dX6_init_26 : decode cX6_init 26 = .ok (.aload_n 0, 1) := by decide +kernel
theorem dX6_init_27 : decode cX6_init 27 = .ok (.new 23, 3) := by decide +kernel
theorem dX6_init_30 : decode cX6_init 30 = .ok (.dup, 1) := by decide +kernel
theorem dX6_init_31 : decode cX6_init 31 = .ok (.invokespecial 25, 3) := by decide +kernel
theorem dX6_init_34 : decode cX6_init 34 = .ok (.putfield 26, 3) := by decide +kernel
theorem dX6_init_37 : decode cX6_init 37 = .ok (.aload_n 0, 1) := by decide +kernel
theorem dX6_init_38 : decode cX6_init 38 = .ok (.new 30, 3) := by decide +kernel
theorem dX6_init_41 : decode cX6_init 41 = .ok (.dup, 1) := by decide +kernel
theorem dX6_init_42 : decode cX6_init 42 = .ok (.invokespecial 32, 3) := by decide +kernel
theorem dX6_init_45 : decode cX6_init 45 = .ok (.putfield 33, 3) := by decide +kernel
theorem dX6_init_48 : decode cX6_init 48 = .ok (.aload_n 0, 1) := by decide +kernel
theorem dX6_init_49 : decode cX6_init 49 = .ok (.iconst 2, 1) := by decide +kernel
theorem dX6_init_50 : decode cX6_init 50 = .ok (.anewarray 23, 3) := by decide +kernel
theorem dX6_init_53 : decode cX6_init 53 = .ok (.putfield 37, 3) := by decide +kernel
theorem dX6_init_56 : decode cX6_init 56 = .ok (.aload_n 0, 1) := by decide +kernel
theorem dX6_init_57 : decode cX6_init 57 = .ok (.new 41, 3) := by decide +kernel
theorem dX6_init_60 : decode cX6_init 60 = .ok (.dup, 1) := by decide +kernel
theorem dX6_init_61 : decode cX6_init 61 = .ok (.invokespecial 43, 3) := by decide +kernel
theorem dX6_init_64 : decode cX6_init 64 = .ok (.putfield 44, 3) := by decide +kernel
theorem dX6_init_67 : decode cX6_init 67 = .ok (.aload_n 0, 1) := by decide +kernel
theorem dX6_init_68 : decode cX6_init 68 = .ok (.new 48, 3) := by decide +kernel
theorem dX6_init_71 : decode cX6_init 71 = .ok (.dup, 1) := by decide +kernel
theorem dX6_init_72 : decode cX6_init 72 = .ok (.invokespecial 50, 3) := by decide +kernel
theorem dX6_init_75 : decode cX6_init 75 = .ok (.putfield 51, 3) := by decide +kernel
theorem dX6_init_78 : decode cX6_init 78 = .ok (.aload_n 0, 1) := by decide +kernel
theorem dX6_init_79 : decode cX6_init 79 = .ok (.iconst 0, 1) := by decide +kernel
theorem dX6_init_80 : decode cX6_init 80 = .ok (.putfield 55, 3) := by decide +kernel
theorem dX6_init_83 : decode cX6_init 83 = .ok (.aload_n 0, 1) := by decide +kernel
theorem dX6_init_84 : decode cX6_init 84 = .ok (.iconst 0, 1) := by decide +kernel
theorem dX6_init_85 : decode cX6_init 85 = .ok (.putfield 59, 3) := by decide +kernel
theorem dX6_init_88 : decode cX6_init 88 = .ok (.return_, 1) := by decide +kernel
theorem dX6_row_0 : decode cX6_row 0 = .ok (.iload_n 1, 1) := by decide +kernel
theorem dX6_row_1 : decode cX6_row 1 = .ok (.iconst 0, 1) := by decide +kernel
theorem dX6_row_2 : decode cX6_row 2 = .ok (.bipush 7, 2) := by decide +kernel
theorem dX6_row_4 : decode cX6_row 4 = .ok (.invokestatic 62, 3) := by decide +kernel
theorem dX6_row_7 : decode cX6_row 7 = .ok (.ifCond .eq 18, 3) := by decide +kernel
theorem dX6_row_10 : decode cX6_row 10 = .ok (.iload_n 2, 1) := by decide +kernel
theorem dX6_row_11 : decode cX6_row 11 = .ok (.iconst 0, 1) := by decide +kernel
theorem dX6_row_12 : decode cX6_row 12 = .ok (.iconst 2, 1) := by decide +kernel
theorem dX6_row_13 : decode cX6_row 13 = .ok (.invokestatic 62, 3) := by decide +kernel
theorem dX6_row_16 : decode cX6_row 16 = .ok (.ifCond .eq 9, 3) := by decide +kernel
theorem dX6_row_19 : decode cX6_row 19 = .ok (.iload_n 3, 1) := by decide +kernel
theorem dX6_row_20 : decode cX6_row 20 = .ok (.bipush 40, 2) := by decide +kernel
theorem dX6_row_22 : decode cX6_row 22 = .ok (.if_icmp .le 6, 3) := by decide +kernel
theorem dX6_row_25 : decode cX6_row 25 = .ok (.ldc 66, 2) := by decide +kernel
theorem dX6_row_27 : decode cX6_row 27 = .ok (.ireturn, 1) := by decide +kernel
theorem dX6_row_28 : decode cX6_row 28 = .ok (.iload_n 3, 1) := by decide +kernel
theorem dX6_row_29 : decode cX6_row 29 = .ok (.ifCond .ge 9, 3) := by decide +kernel
theorem dX6_row_32 : decode cX6_row 32 = .ok (.aload_n 0, 1) := by decide +kernel
theorem dX6_row_33 : decode cX6_row 33 = .ok (.iconst 4, 1) := by decide +kernel
theorem dX6_row_34 : decode cX6_row 34 = .ok (.invokevirtual 67, 3) := by decide +kernel
theorem dX6_row_37 : decode cX6_row 37 = .ok (.ireturn, 1) := by decide +kernel
theorem dX6_row_38 : decode cX6_row 38 = .ok (.aload_n 0, 1) := by decide +kernel
theorem dX6_row_39 : decode cX6_row 39 = .ok (.getfield 10, 3) := by decide +kernel
theorem dX6_row_42 : decode cX6_row 42 = .ok (.iload_n 1, 1) := by decide +kernel
theorem dX6_row_43 : decode cX6_row 43 = .ok (.iload_n 2, 1) := by decide +kernel
theorem dX6_row_44 : decode cX6_row 44 = .ok (.iload_n 3, 1) := by decide +kernel
theorem dX6_row_45 : decode cX6_row 45 = .ok (.invokevirtual 71, 3) := by decide +kernel
theorem dX6_row_48 : decode cX6_row 48 = .ok (.aload_n 0, 1) := by decide +kernel
theorem dX6_row_49 : decode cX6_row 49 = .ok (.iload_n 3, 1) := by decide +kernel
theorem dX6_row_50 : decode cX6_row 50 = .ok (.invokevirtual 75, 3) := by decide +kernel
theorem dX6_row_53 : decode cX6_row 53 = .ok (.ireturn, 1) := by decide +kernel
theorem dX6_set_0 : decode cX6_set 0 = .ok (.iload_n 1, 1) := by decide +kernel
theorem dX6_set_1 : decode cX6_set 1 = .ok (.iconst 0, 1) := by decide +kernel
theorem dX6_set_2 : decode cX6_set 2 = .ok (.bipush 7, 2) := by decide +kernel
theorem dX6_set_4 : decode cX6_set 4 = .ok (.invokestatic 62, 3) := by decide +kernel
theorem dX6_set_7 : decode cX6_set 7 = .ok (.ifCond .ne 6, 3) := by decide +kernel
theorem dX6_set_10 : decode cX6_set 10 = .ok (.ldc 66, 2) := by decide +kernel
theorem dX6_set_12 : decode cX6_set 12 = .ok (.ireturn, 1) := by decide +kernel
theorem dX6_set_13 : decode cX6_set 13 = .ok (.aload_n 0, 1) := by decide +kernel
theorem dX6_set_14 : decode cX6_set 14 = .ok (.getfield 10, 3) := by decide +kernel
theorem dX6_set_17 : decode cX6_set 17 = .ok (.iload_n 1, 1) := by decide +kernel
theorem dX6_set_18 : decode cX6_set 18 = .ok (.invokevirtual 78, 3) := by decide +kernel
theorem dX6_set_21 : decode cX6_set 21 = .ok (.ifCond .eq 9, 3) := by decide +kernel
theorem dX6_set_24 : decode cX6_set 24 = .ok (.aload_n 0, 1) := by decide +kernel
theorem dX6_set_25 : decode cX6_set 25 = .ok (.iconst 1, 1) := by decide +kernel
theorem dX6_set_26 : decode cX6_set 26 = .ok (.invokevirtual 67, 3) := by decide +kernel
theorem dX6_set_29 : decode cX6_set 29 = .ok (.ireturn, 1) := by decide +kernel
theorem dX6_set_30 : decode cX6_set 30 = .ok (.aload_n 0, 1) := by decide +kernel
theorem dX6_set_31 : decode cX6_set 31 = .ok (.getfield 10, 3) := by decide +kernel
theorem dX6_set_34 : decode cX6_set 34 = .ok (.iload_n 1, 1) := by decide +kernel
theorem dX6_set_35 : decode cX6_set 35 = .ok (.iload_n 2, 1) := by decide +kernel
theorem dX6_set_36 : decode cX6_set 36 = .ok (.iconst 1, 1) := by decide +kernel
theorem dX6_set_37 : decode cX6_set 37 = .ok (.invokevirtual 82, 3) := by decide +kernel
theorem dX6_set_40 : decode cX6_set 40 = .ok (.ifCond .ne 9, 3) := by decide +kernel
theorem dX6_set_43 : decode cX6_set 43 = .ok (.aload_n 0, 1) := by decide +kernel
theorem dX6_set_44 : decode cX6_set 44 = .ok (.iconst 2, 1) := by decide +kernel
theorem dX6_set_45 : decode cX6_set 45 = .ok (.invokevirtual 67, 3) := by decide +kernel
theorem dX6_set_48 : decode cX6_set 48 = .ok (.ireturn, 1) := by decide +kernel
theorem dX6_set_49 : decode cX6_set 49 = .ok (.aload_n 0, 1) := by decide +kernel
theorem dX6_set_50 : decode cX6_set 50 = .ok (.aload_n 0, 1) := by decide +kernel
theorem dX6_set_51 : decode cX6_set 51 = .ok (.getfield 10, 3) := by decide +kernel
theorem dX6_set_54 : decode cX6_set 54 = .ok (.iload_n 1, 1) := by decide +kernel
theorem dX6_set_55 : decode cX6_set 55 = .ok (.iload_n 2, 1) := by decide +kernel
theorem dX6_set_56 : decode cX6_set 56 = .ok (.iload_n 3, 1) := by decide +kernel
theorem dX6_set_57 : decode cX6_set 57 = .ok (.invokevirtual 85, 3) := by decide +kernel
theorem dX6_set_60 : decode cX6_set 60 = .ok (.invokevirtual 75, 3) := by decide +kernel
theorem dX6_set_63 : decode cX6_set 63 = .ok (.ireturn, 1) := by decide +kernel
theorem dX6_copy_0 : decode cX6_copy 0 = .ok (.iload_n 1, 1) := by decide +kernel
theorem dX6_copy_1 : decode cX6_copy 1 = .ok (.iconst 0, 1) := by decide +kernel
theorem dX6_copy_2 : decode cX6_copy 2 = .ok (.bipush 7, 2) := by decide +kernel
theorem dX6_copy_4 : decode cX6_copy 4 = .ok (.invokestatic 62, 3) := by decide +kernel
theorem dX6_copy_7 : decode cX6_copy 7 = .ok (.ifCond .eq 13, 3) := by decide +kernel
theorem dX6_copy_10 : decode cX6_copy 10 = .ok (.iload_n 3, 1) := by decide +kernel
theorem dX6_copy_11 : decode cX6_copy 11 = .ok (.iconst 0, 1) := by decide +kernel
theorem dX6_copy_12 : decode cX6_copy 12 = .ok (.bipush 7, 2) := by decide +kernel
theorem dX6_copy_14 : decode cX6_copy 14 = .ok (.invokestatic 62, 3) := by decide +kernel
theorem dX6_copy_17 : decode cX6_copy 17 = .ok (.ifCond .ne 6, 3) := by decide +kernel
theorem dX6_copy_20 : decode cX6_copy 20 = .ok (.ldc 66, 2) := by decide +kernel
theorem dX6_copy_22 : decode cX6_copy 22 = .ok (.ireturn, 1) := by decide +kernel
theorem dX6_copy_23 : decode cX6_copy 23 = .ok (.aload_n 0, 1) := by decide +kernel
theorem dX6_copy_24 : decode cX6_copy 24 = .ok (.getfield 10, 3) := by decide +kernel
theorem dX6_copy_27 : decode cX6_copy 27 = .ok (.iload_n 1, 1) := by decide +kernel
theorem dX6_copy_28 : decode cX6_copy 28 = .ok (.invokevirtual 78, 3) := by decide +kernel
theorem dX6_copy_31 : decode cX6_copy 31 = .ok (.ifCond .ne 14, 3) := by decide +kernel
theorem dX6_copy_34 : decode cX6_copy 34 = .ok (.aload_n 0, 1) := by decide +kernel
theorem dX6_copy_35 : decode cX6_copy 35 = .ok (.getfield 10, 3) := by decide +kernel
theorem dX6_copy_38 : decode cX6_copy 38 = .ok (.iload_n 3, 1) := by decide +kernel
theorem dX6_copy_39 : decode cX6_copy 39 = .ok (.invokevirtual 78, 3) := by decide +kernel
theorem dX6_copy_42 : decode cX6_copy 42 = .ok (.ifCond .eq 9, 3) := by decide +kernel
theorem dX6_copy_45 : decode cX6_copy 45 = .ok (.aload_n 0, 1) := by decide +kernel
theorem dX6_copy_46 : decode cX6_copy 46 = .ok (.iconst 1, 1) := by decide +kernel
theorem dX6_copy_47 : decode cX6_copy 47 = .ok (.invokevirtual 67, 3) := by decide +kernel
theorem dX6_copy_50 : decode cX6_copy 50 = .ok (.ireturn, 1) := by decide +kernel
theorem dX6_copy_51 : decode cX6_copy 51 = .ok (.aload_n 0, 1) := by decide +kernel
theorem dX6_copy_52 : decode cX6_copy 52 = .ok (.getfield 10, 3) := by decide +kernel
theorem dX6_copy_55 : decode cX6_copy 55 = .ok (.iload_n 1, 1) := by decide +kernel
theorem dX6_copy_56 : decode cX6_copy 56 = .ok (.invokevirtual 89, 3) := by decide +kernel
theorem dX6_copy_59 : decode cX6_copy 59 = .ok (.aload_n 0, 1) := by decide +kernel
theorem dX6_copy_60 : decode cX6_copy 60 = .ok (.getfield 10, 3) := by decide +kernel
theorem dX6_copy_63 : decode cX6_copy 63 = .ok (.iload_n 3, 1) := by decide +kernel
theorem dX6_copy_64 : decode cX6_copy 64 = .ok (.invokevirtual 89, 3) := by decide +kernel
theorem dX6_copy_67 : decode cX6_copy 67 = .ok (.if_icmp .eq 9, 3) := by decide +kernel
theorem dX6_copy_70 : decode cX6_copy 70 = .ok (.aload_n 0, 1) := by decide +kernel
theorem dX6_copy_71 : decode cX6_copy 71 = .ok (.iconst 5, 1) := by decide +kernel
theorem dX6_copy_72 : decode cX6_copy 72 = .ok (.invokevirtual 67, 3) := by decide +kernel
theorem dX6_copy_75 : decode cX6_copy 75 = .ok (.ireturn, 1) := by decide +kernel
theorem dX6_copy_76 : decode cX6_copy 76 = .ok (.aload_n 0, 1) := by decide +kernel
theorem dX6_copy_77 : decode cX6_copy 77 = .ok (.getfield 10, 3) := by decide +kernel
theorem dX6_copy_80 : decode cX6_copy 80 = .ok (.iload_n 1, 1) := by decide +kernel
theorem dX6_copy_81 : decode cX6_copy 81 = .ok (.iload_n 2, 1) := by decide +kernel
theorem dX6_copy_82 : decode cX6_copy 82 = .ok (.iload 5, 2) := by decide +kernel
theorem dX6_copy_84 : decode cX6_copy 84 = .ok (.invokevirtual 82, 3) := by decide +kernel
theorem dX6_copy_87 : decode cX6_copy 87 = .ok (.ifCond .eq 18, 3) := by decide +kernel
theorem dX6_copy_90 : decode cX6_copy 90 = .ok (.aload_n 0, 1) := by decide +kernel
theorem dX6_copy_91 : decode cX6_copy 91 = .ok (.getfield 10, 3) := by decide +kernel
theorem dX6_copy_94 : decode cX6_copy 94 = .ok (.iload_n 3, 1) := by decide +kernel
theorem dX6_copy_95 : decode cX6_copy 95 = .ok (.iload 4, 2) := by decide +kernel
theorem dX6_copy_97 : decode cX6_copy 97 = .ok (.iload 5, 2) := by decide +kernel
theorem dX6_copy_99 : decode cX6_copy 99 = .ok (.invokevirtual 82, 3) := by decide +kernel
theorem dX6_copy_102 : decode cX6_copy 102 = .ok (.ifCond .ne 9, 3) := by decide +kernel
theorem dX6_copy_105 : decode cX6_copy 105 = .ok (.aload_n 0, 1) := by decide +kernel
theorem dX6_copy_106 : decode cX6_copy 106 = .ok (.iconst 2, 1) := by decide +kernel
theorem dX6_copy_107 : decode cX6_copy 107 = .ok (.invokevirtual 67, 3) := by decide +kernel
theorem dX6_copy_110 : decode cX6_copy 110 = .ok (.ireturn, 1) := by decide +kernel
theorem dX6_copy_111 : decode cX6_copy 111 = .ok (.aload_n 0, 1) := by decide +kernel
theorem dX6_copy_112 : decode cX6_copy 112 = .ok (.getfield 10, 3) := by decide +kernel
theorem dX6_copy_115 : decode cX6_copy 115 = .ok (.iload_n 1, 1) := by decide +kernel
theorem dX6_copy_116 : decode cX6_copy 116 = .ok (.iload_n 2, 1) := by decide +kernel
theorem dX6_copy_117 : decode cX6_copy 117 = .ok (.iload_n 3, 1) := by decide +kernel
theorem dX6_copy_118 : decode cX6_copy 118 = .ok (.iload 4, 2) := by decide +kernel
theorem dX6_copy_120 : decode cX6_copy 120 = .ok (.iload 5, 2) := by decide +kernel
theorem dX6_copy_122 : decode cX6_copy 122 = .ok (.invokevirtual 92, 3) := by decide +kernel
theorem dX6_copy_125 : decode cX6_copy 125 = .ok (.aload_n 0, 1) := by decide +kernel
theorem dX6_copy_126 : decode cX6_copy 126 = .ok (.iload 5, 2) := by decide +kernel
theorem dX6_copy_128 : decode cX6_copy 128 = .ok (.invokevirtual 75, 3) := by decide +kernel
theorem dX6_copy_131 : decode cX6_copy 131 = .ok (.ireturn, 1) := by decide +kernel
theorem dX6_drop_0 : decode cX6_drop 0 = .ok (.iload_n 1, 1) := by decide +kernel
theorem dX6_drop_1 : decode cX6_drop 1 = .ok (.iconst 0, 1) := by decide +kernel
theorem dX6_drop_2 : decode cX6_drop 2 = .ok (.bipush 7, 2) := by decide +kernel
theorem dX6_drop_4 : decode cX6_drop 4 = .ok (.invokestatic 62, 3) := by decide +kernel
theorem dX6_drop_7 : decode cX6_drop 7 = .ok (.ifCond .ne 6, 3) := by decide +kernel
theorem dX6_drop_10 : decode cX6_drop 10 = .ok (.ldc 66, 2) := by decide +kernel
theorem dX6_drop_12 : decode cX6_drop 12 = .ok (.ireturn, 1) := by decide +kernel
theorem dX6_drop_13 : decode cX6_drop 13 = .ok (.aload_n 0, 1) := by decide +kernel
theorem dX6_drop_14 : decode cX6_drop 14 = .ok (.getfield 10, 3) := by decide +kernel
theorem dX6_drop_17 : decode cX6_drop 17 = .ok (.iload_n 1, 1) := by decide +kernel
theorem dX6_drop_18 : decode cX6_drop 18 = .ok (.invokevirtual 78, 3) := by decide +kernel
theorem dX6_drop_21 : decode cX6_drop 21 = .ok (.ifCond .eq 9, 3) := by decide +kernel
theorem dX6_drop_24 : decode cX6_drop 24 = .ok (.aload_n 0, 1) := by decide +kernel
theorem dX6_drop_25 : decode cX6_drop 25 = .ok (.iconst 1, 1) := by decide +kernel
theorem dX6_drop_26 : decode cX6_drop 26 = .ok (.invokevirtual 67, 3) := by decide +kernel
theorem dX6_drop_29 : decode cX6_drop 29 = .ok (.ireturn, 1) := by decide +kernel
theorem dX6_drop_30 : decode cX6_drop 30 = .ok (.aload_n 0, 1) := by decide +kernel
theorem dX6_drop_31 : decode cX6_drop 31 = .ok (.aload_n 0, 1) := by decide +kernel
theorem dX6_drop_32 : decode cX6_drop 32 = .ok (.getfield 10, 3) := by decide +kernel
theorem dX6_drop_35 : decode cX6_drop 35 = .ok (.iload_n 1, 1) := by decide +kernel
theorem dX6_drop_36 : decode cX6_drop 36 = .ok (.invokevirtual 96, 3) := by decide +kernel
theorem dX6_drop_39 : decode cX6_drop 39 = .ok (.invokevirtual 75, 3) := by decide +kernel
theorem dX6_drop_42 : decode cX6_drop 42 = .ok (.ireturn, 1) := by decide +kernel
theorem dX6_feed_0 : decode cX6_feed 0 = .ok (.iload_n 1, 1) := by decide +kernel
theorem dX6_feed_1 : decode cX6_feed 1 = .ok (.iconst 0, 1) := by decide +kernel
theorem dX6_feed_2 : decode cX6_feed 2 = .ok (.sipush 255, 3) := by decide +kernel
theorem dX6_feed_5 : decode cX6_feed 5 = .ok (.invokestatic 62, 3) := by decide +kernel
theorem dX6_feed_8 : decode cX6_feed 8 = .ok (.ifCond .ne 6, 3) := by decide +kernel
theorem dX6_feed_11 : decode cX6_feed 11 = .ok (.ldc 66, 2) := by decide +kernel
theorem dX6_feed_13 : decode cX6_feed 13 = .ok (.ireturn, 1) := by decide +kernel
theorem dX6_feed_14 : decode cX6_feed 14 = .ok (.aload_n 0, 1) := by decide +kernel
theorem dX6_feed_15 : decode cX6_feed 15 = .ok (.getfield 19, 3) := by decide +kernel
theorem dX6_feed_18 : decode cX6_feed 18 = .ok (.invokevirtual 99, 3) := by decide +kernel
theorem dX6_feed_21 : decode cX6_feed 21 = .ok (.bipush 100, 2) := by decide +kernel
theorem dX6_feed_23 : decode cX6_feed 23 = .ok (.if_icmp .lt 6, 3) := by decide +kernel
theorem dX6_feed_26 : decode cX6_feed 26 = .ok (.ldc 103, 2) := by decide +kernel
theorem dX6_feed_28 : decode cX6_feed 28 = .ok (.ireturn, 1) := by decide +kernel
theorem dX6_feed_29 : decode cX6_feed 29 = .ok (.aload_n 0, 1) := by decide +kernel
theorem dX6_feed_30 : decode cX6_feed 30 = .ok (.getfield 19, 3) := by decide +kernel
theorem dX6_feed_33 : decode cX6_feed 33 = .ok (.iload_n 1, 1) := by decide +kernel
theorem dX6_feed_34 : decode cX6_feed 34 = .ok (.invokevirtual 104, 3) := by decide +kernel
theorem dX6_feed_37 : decode cX6_feed 37 = .ok (.ireturn, 1) := by decide +kernel
theorem dX6_flat_0 : decode cX6_flat 0 = .ok (.aload_n 0, 1) := by decide +kernel
theorem dX6_flat_1 : decode cX6_flat 1 = .ok (.getfield 44, 3) := by decide +kernel
theorem dX6_flat_4 : decode cX6_flat 4 = .ok (.invokevirtual 107, 3) := by decide +kernel
theorem dX6_flat_7 : decode cX6_flat 7 = .ok (.astore_n 1, 1) := by decide +kernel
theorem dX6_flat_8 : decode cX6_flat 8 = .ok (.aload_n 0, 1) := by decide +kernel
theorem dX6_flat_9 : decode cX6_flat 9 = .ok (.getfield 19, 3) := by decide +kernel
theorem dX6_flat_12 : decode cX6_flat 12 = .ok (.aload_n 1, 1) := by decide +kernel
theorem dX6_flat_13 : decode cX6_flat 13 = .ok (.invokevirtual 111, 3) := by decide +kernel
theorem dX6_flat_16 : decode cX6_flat 16 = .ok (.istore_n 2, 1) := by decide +kernel
theorem dX6_flat_17 : decode cX6_flat 17 = .ok (.aload_n 0, 1) := by decide +kernel
theorem dX6_flat_18 : decode cX6_flat 18 = .ok (.getfield 19, 3) := by decide +kernel
theorem dX6_flat_21 : decode cX6_flat 21 = .ok (.invokevirtual 115, 3) := by decide +kernel
theorem dX6_flat_24 : decode cX6_flat 24 = .ok (.iload_n 2, 1) := by decide +kernel
theorem dX6_flat_25 : decode cX6_flat 25 = .ok (.ifCond .eq 19, 3) := by decide +kernel
theorem dX6_flat_28 : decode cX6_flat 28 = .ok (.aload_n 0, 1) := by decide +kernel
theorem dX6_flat_29 : decode cX6_flat 29 = .ok (.iload_n 2, 1) := by decide +kernel
theorem dX6_flat_30 : decode cX6_flat 30 = .ok (.putfield 55, 3) := by decide +kernel
theorem dX6_flat_33 : decode cX6_flat 33 = .ok (.ldc 118, 2) := by decide +kernel
theorem dX6_flat_35 : decode cX6_flat 35 = .ok (.aload_n 0, 1) := by decide +kernel
theorem dX6_flat_36 : decode cX6_flat 36 = .ok (.getfield 19, 3) := by decide +kernel
theorem dX6_flat_39 : decode cX6_flat 39 = .ok (.invokevirtual 119, 3) := by decide +kernel
theorem dX6_flat_42 : decode cX6_flat 42 = .ok (.isub, 1) := by decide +kernel
theorem dX6_flat_43 : decode cX6_flat 43 = .ok (.ireturn, 1) := by decide +kernel
theorem dX6_flat_44 : decode cX6_flat 44 = .ok (.aload_n 0, 1) := by decide +kernel
theorem dX6_flat_45 : decode cX6_flat 45 = .ok (.getfield 26, 3) := by decide +kernel
theorem dX6_flat_48 : decode cX6_flat 48 = .ok (.aload_n 1, 1) := by decide +kernel
theorem dX6_flat_49 : decode cX6_flat 49 = .ok (.invokevirtual 122, 3) := by decide +kernel
theorem dX6_flat_52 : decode cX6_flat 52 = .ok (.aload_n 0, 1) := by decide +kernel
theorem dX6_flat_53 : decode cX6_flat 53 = .ok (.getfield 33, 3) := by decide +kernel
theorem dX6_flat_56 : decode cX6_flat 56 = .ok (.invokevirtual 126, 3) := by decide +kernel
theorem dX6_flat_59 : decode cX6_flat 59 = .ok (.aload_n 0, 1) := by decide +kernel
theorem dX6_flat_60 : decode cX6_flat 60 = .ok (.getfield 26, 3) := by decide +kernel
theorem dX6_flat_63 : decode cX6_flat 63 = .ok (.getfield 129, 3) := by decide +kernel
theorem dX6_flat_66 : decode cX6_flat 66 = .ok (.ireturn, 1) := by decide +kernel
theorem dX6_fault_0 : decode cX6_fault 0 = .ok (.aload_n 0, 1) := by decide +kernel
theorem dX6_fault_1 : decode cX6_fault 1 = .ok (.getfield 55, 3) := by decide +kernel
theorem dX6_fault_4 : decode cX6_fault 4 = .ok (.ireturn, 1) := by decide +kernel
theorem dX6_undo_0 : decode cX6_undo 0 = .ok (.aload_n 0, 1) := by decide +kernel
theorem dX6_undo_1 : decode cX6_undo 1 = .ok (.getfield 33, 3) := by decide +kernel
theorem dX6_undo_4 : decode cX6_undo 4 = .ok (.aload_n 0, 1) := by decide +kernel
theorem dX6_undo_5 : decode cX6_undo 5 = .ok (.getfield 26, 3) := by decide +kernel
theorem dX6_undo_8 : decode cX6_undo 8 = .ok (.invokevirtual 132, 3) := by decide +kernel
theorem dX6_undo_11 : decode cX6_undo 11 = .ok (.ifCond .ne 6, 3) := by decide +kernel
theorem dX6_undo_14 : decode cX6_undo 14 = .ok (.ldc 136, 2) := by decide +kernel
theorem dX6_undo_16 : decode cX6_undo 16 = .ok (.ireturn, 1) := by decide +kernel
theorem dX6_undo_17 : decode cX6_undo 17 = .ok (.aload_n 0, 1) := by decide +kernel
theorem dX6_undo_18 : decode cX6_undo 18 = .ok (.getfield 33, 3) := by decide +kernel
theorem dX6_undo_21 : decode cX6_undo 21 = .ok (.invokevirtual 137, 3) := by decide +kernel
theorem dX6_undo_24 : decode cX6_undo 24 = .ok (.ireturn, 1) := by decide +kernel
theorem dX6_tides_0 : decode cX6_tides 0 = .ok (.aload_n 0, 1) := by decide +kernel
theorem dX6_tides_1 : decode cX6_tides 1 = .ok (.getfield 26, 3) := by decide +kernel
theorem dX6_tides_4 : decode cX6_tides 4 = .ok (.invokevirtual 140, 3) := by decide +kernel
theorem dX6_tides_7 : decode cX6_tides 7 = .ok (.ifCond .eq 6, 3) := by decide +kernel
theorem dX6_tides_10 : decode cX6_tides 10 = .ok (.ldc 136, 2) := by decide +kernel
theorem dX6_tides_12 : decode cX6_tides 12 = .ok (.ireturn, 1) := by decide +kernel
theorem dX6_tides_13 : decode cX6_tides 13 = .ok (.iload_n 1, 1) := by decide +kernel
theorem dX6_tides_14 : decode cX6_tides 14 = .ok (.iconst 1, 1) := by decide +kernel
theorem dX6_tides_15 : decode cX6_tides 15 = .ok (.bipush 24, 2) := by decide +kernel
theorem dX6_tides_17 : decode cX6_tides 17 = .ok (.invokestatic 62, 3) := by decide +kernel
theorem dX6_tides_20 : decode cX6_tides 20 = .ok (.ifCond .ne 6, 3) := by decide +kernel
theorem dX6_tides_23 : decode cX6_tides 23 = .ok (.ldc 66, 2) := by decide +kernel
theorem dX6_tides_25 : decode cX6_tides 25 = .ok (.ireturn, 1) := by decide +kernel
theorem dX6_tides_26 : decode cX6_tides 26 = .ok (.aload_n 0, 1) := by decide +kernel
theorem dX6_tides_27 : decode cX6_tides 27 = .ok (.getfield 26, 3) := by decide +kernel
theorem dX6_tides_30 : decode cX6_tides 30 = .ok (.getfield 144, 3) := by decide +kernel
theorem dX6_tides_33 : decode cX6_tides 33 = .ok (.iload_n 1, 1) := by decide +kernel
theorem dX6_tides_34 : decode cX6_tides 34 = .ok (.iadd, 1) := by decide +kernel
theorem dX6_tides_35 : decode cX6_tides 35 = .ok (.sipush 999, 3) := by decide +kernel
theorem dX6_tides_38 : decode cX6_tides 38 = .ok (.if_icmp .le 6, 3) := by decide +kernel
theorem dX6_tides_41 : decode cX6_tides 41 = .ok (.ldc 103, 2) := by decide +kernel
theorem dX6_tides_43 : decode cX6_tides 43 = .ok (.ireturn, 1) := by decide +kernel
theorem dX6_tides_44 : decode cX6_tides 44 = .ok (.iconst 0, 1) := by decide +kernel
theorem dX6_tides_45 : decode cX6_tides 45 = .ok (.istore_n 2, 1) := by decide +kernel
theorem dX6_tides_46 : decode cX6_tides 46 = .ok (.iload_n 2, 1) := by decide +kernel
theorem dX6_tides_47 : decode cX6_tides 47 = .ok (.iload_n 1, 1) := by decide +kernel
theorem dX6_tides_48 : decode cX6_tides 48 = .ok (.if_icmp .ge 27, 3) := by decide +kernel
theorem dX6_tides_51 : decode cX6_tides 51 = .ok (.aload_n 0, 1) := by decide +kernel
theorem dX6_tides_52 : decode cX6_tides 52 = .ok (.getfield 33, 3) := by decide +kernel
theorem dX6_tides_55 : decode cX6_tides 55 = .ok (.aload_n 0, 1) := by decide +kernel
theorem dX6_tides_56 : decode cX6_tides 56 = .ok (.getfield 26, 3) := by decide +kernel
theorem dX6_tides_59 : decode cX6_tides 59 = .ok (.invokevirtual 147, 3) := by decide +kernel
theorem dX6_tides_62 : decode cX6_tides 62 = .ok (.aload_n 0, 1) := by decide +kernel
theorem dX6_tides_63 : decode cX6_tides 63 = .ok (.getfield 26, 3) := by decide +kernel
theorem dX6_tides_66 : decode cX6_tides 66 = .ok (.invokevirtual 150, 3) := by decide +kernel
theorem dX6_tides_69 : decode cX6_tides 69 = .ok (.iinc 2 1, 3) := by decide +kernel
theorem dX6_tides_72 : decode cX6_tides 72 = .ok (.goto (-26), 3) := by decide +kernel
theorem dX6_tides_75 : decode cX6_tides 75 = .ok (.aload_n 0, 1) := by decide +kernel
theorem dX6_tides_76 : decode cX6_tides 76 = .ok (.getfield 26, 3) := by decide +kernel
theorem dX6_tides_79 : decode cX6_tides 79 = .ok (.invokevirtual 153, 3) := by decide +kernel
theorem dX6_tides_82 : decode cX6_tides 82 = .ok (.ireturn, 1) := by decide +kernel
theorem dX6_rake_0 : decode cX6_rake 0 = .ok (.aload_n 0, 1) := by decide +kernel
theorem dX6_rake_1 : decode cX6_rake 1 = .ok (.getfield 26, 3) := by decide +kernel
theorem dX6_rake_4 : decode cX6_rake 4 = .ok (.iload_n 1, 1) := by decide +kernel
theorem dX6_rake_5 : decode cX6_rake 5 = .ok (.invokevirtual 156, 3) := by decide +kernel
theorem dX6_rake_8 : decode cX6_rake 8 = .ok (.ifCond .eq 13, 3) := by decide +kernel
theorem dX6_rake_11 : decode cX6_rake 11 = .ok (.iload_n 2, 1) := by decide +kernel
theorem dX6_rake_12 : decode cX6_rake 12 = .ok (.iconst 1, 1) := by decide +kernel
theorem dX6_rake_13 : decode cX6_rake 13 = .ok (.bipush 99, 2) := by decide +kernel
theorem dX6_rake_15 : decode cX6_rake 15 = .ok (.invokestatic 62, 3) := by decide +kernel
theorem dX6_rake_18 : decode cX6_rake 18 = .ok (.ifCond .ne 6, 3) := by decide +kernel
theorem dX6_rake_21 : decode cX6_rake 21 = .ok (.ldc 66, 2) := by decide +kernel
theorem dX6_rake_23 : decode cX6_rake 23 = .ok (.ireturn, 1) := by decide +kernel
theorem dX6_rake_24 : decode cX6_rake 24 = .ok (.aload_n 0, 1) := by decide +kernel
theorem dX6_rake_25 : decode cX6_rake 25 = .ok (.getfield 26, 3) := by decide +kernel
theorem dX6_rake_28 : decode cX6_rake 28 = .ok (.iload_n 1, 1) := by decide +kernel
theorem dX6_rake_29 : decode cX6_rake 29 = .ok (.invokevirtual 159, 3) := by decide +kernel
theorem dX6_rake_32 : decode cX6_rake 32 = .ok (.ifCond .ne 15, 3) := by decide +kernel
theorem dX6_rake_35 : decode cX6_rake 35 = .ok (.aload_n 0, 1) := by decide +kernel
theorem dX6_rake_36 : decode cX6_rake 36 = .ok (.getfield 26, 3) := by decide +kernel
theorem dX6_rake_39 : decode cX6_rake 39 = .ok (.iload_n 1, 1) := by decide +kernel
theorem dX6_rake_40 : decode cX6_rake 40 = .ok (.invokevirtual 162, 3) := by decide +kernel
theorem dX6_rake_43 : decode cX6_rake 43 = .ok (.iload_n 2, 1) := by decide +kernel
theorem dX6_rake_44 : decode cX6_rake 44 = .ok (.if_icmp .ge 6, 3) := by decide +kernel
theorem dX6_rake_47 : decode cX6_rake 47 = .ok (.ldc 136, 2) := by decide +kernel
theorem dX6_rake_49 : decode cX6_rake 49 = .ok (.ireturn, 1) := by decide +kernel
theorem dX6_rake_50 : decode cX6_rake 50 = .ok (.aload_n 0, 1) := by decide +kernel
theorem dX6_rake_51 : decode cX6_rake 51 = .ok (.getfield 33, 3) := by decide +kernel
theorem dX6_rake_54 : decode cX6_rake 54 = .ok (.aload_n 0, 1) := by decide +kernel
theorem dX6_rake_55 : decode cX6_rake 55 = .ok (.getfield 26, 3) := by decide +kernel
theorem dX6_rake_58 : decode cX6_rake 58 = .ok (.invokevirtual 147, 3) := by decide +kernel
theorem dX6_rake_61 : decode cX6_rake 61 = .ok (.aload_n 0, 1) := by decide +kernel
theorem dX6_rake_62 : decode cX6_rake 62 = .ok (.getfield 26, 3) := by decide +kernel
theorem dX6_rake_65 : decode cX6_rake 65 = .ok (.iload_n 1, 1) := by decide +kernel
theorem dX6_rake_66 : decode cX6_rake 66 = .ok (.iload_n 2, 1) := by decide +kernel
theorem dX6_rake_67 : decode cX6_rake 67 = .ok (.invokevirtual 165, 3) := by decide +kernel
theorem dX6_rake_70 : decode cX6_rake 70 = .ok (.ireturn, 1) := by decide +kernel
theorem dX6_rain_0 : decode cX6_rain 0 = .ok (.aload_n 0, 1) := by decide +kernel
theorem dX6_rain_1 : decode cX6_rain 1 = .ok (.getfield 26, 3) := by decide +kernel
theorem dX6_rain_4 : decode cX6_rain 4 = .ok (.iload_n 1, 1) := by decide +kernel
theorem dX6_rain_5 : decode cX6_rain 5 = .ok (.invokevirtual 156, 3) := by decide +kernel
theorem dX6_rain_8 : decode cX6_rain 8 = .ok (.ifCond .eq 13, 3) := by decide +kernel
theorem dX6_rain_11 : decode cX6_rain 11 = .ok (.iload_n 2, 1) := by decide +kernel
theorem dX6_rain_12 : decode cX6_rain 12 = .ok (.iconst 0, 1) := by decide +kernel
theorem dX6_rain_13 : decode cX6_rain 13 = .ok (.bipush 9, 2) := by decide +kernel
theorem dX6_rain_15 : decode cX6_rain 15 = .ok (.invokestatic 62, 3) := by decide +kernel
theorem dX6_rain_18 : decode cX6_rain 18 = .ok (.ifCond .ne 6, 3) := by decide +kernel
theorem dX6_rain_21 : decode cX6_rain 21 = .ok (.ldc 66, 2) := by decide +kernel
theorem dX6_rain_23 : decode cX6_rain 23 = .ok (.ireturn, 1) := by decide +kernel
theorem dX6_rain_24 : decode cX6_rain 24 = .ok (.aload_n 0, 1) := by decide +kernel
theorem dX6_rain_25 : decode cX6_rain 25 = .ok (.getfield 26, 3) := by decide +kernel
theorem dX6_rain_28 : decode cX6_rain 28 = .ok (.iload_n 1, 1) := by decide +kernel
theorem dX6_rain_29 : decode cX6_rain 29 = .ok (.invokevirtual 169, 3) := by decide +kernel
theorem dX6_rain_32 : decode cX6_rain 32 = .ok (.istore_n 3, 1) := by decide +kernel
theorem dX6_rain_33 : decode cX6_rain 33 = .ok (.aload_n 0, 1) := by decide +kernel
theorem dX6_rain_34 : decode cX6_rain 34 = .ok (.getfield 33, 3) := by decide +kernel
theorem dX6_rain_37 : decode cX6_rain 37 = .ok (.aload_n 0, 1) := by decide +kernel
theorem dX6_rain_38 : decode cX6_rain 38 = .ok (.getfield 26, 3) := by decide +kernel
theorem dX6_rain_41 : decode cX6_rain 41 = .ok (.invokevirtual 147, 3) := by decide +kernel
theorem dX6_rain_44 : decode cX6_rain 44 = .ok (.aload_n 0, 1) := by decide +kernel
theorem dX6_rain_45 : decode cX6_rain 45 = .ok (.getfield 26, 3) := by decide +kernel
theorem dX6_rain_48 : decode cX6_rain 48 = .ok (.iload_n 1, 1) := by decide +kernel
theorem dX6_rain_49 : decode cX6_rain 49 = .ok (.iload_n 2, 1) := by decide +kernel
theorem dX6_rain_50 : decode cX6_rain 50 = .ok (.invokevirtual 172, 3) := by decide +kernel
theorem dX6_rain_53 : decode cX6_rain 53 = .ok (.iload_n 3, 1) := by decide +kernel
theorem dX6_rain_54 : decode cX6_rain 54 = .ok (.ireturn, 1) := by decide +kernel
theorem dX6_veto_0 : decode cX6_veto 0 = .ok (.aload_n 0, 1) := by decide +kernel
theorem dX6_veto_1 : decode cX6_veto 1 = .ok (.getfield 26, 3) := by decide +kernel
theorem dX6_veto_4 : decode cX6_veto 4 = .ok (.iload_n 1, 1) := by decide +kernel
theorem dX6_veto_5 : decode cX6_veto 5 = .ok (.invokevirtual 156, 3) := by decide +kernel
theorem dX6_veto_8 : decode cX6_veto 8 = .ok (.ifCond .eq 12, 3) := by decide +kernel
theorem dX6_veto_11 : decode cX6_veto 11 = .ok (.iload_n 2, 1) := by decide +kernel
theorem dX6_veto_12 : decode cX6_veto 12 = .ok (.iconst 0, 1) := by decide +kernel
theorem dX6_veto_13 : decode cX6_veto 13 = .ok (.iconst 1, 1) := by decide +kernel
theorem dX6_veto_14 : decode cX6_veto 14 = .ok (.invokestatic 62, 3) := by decide +kernel
theorem dX6_veto_17 : decode cX6_veto 17 = .ok (.ifCond .ne 6, 3) := by decide +kernel
theorem dX6_veto_20 : decode cX6_veto 20 = .ok (.ldc 66, 2) := by decide +kernel
theorem dX6_veto_22 : decode cX6_veto 22 = .ok (.ireturn, 1) := by decide +kernel
theorem dX6_veto_23 : decode cX6_veto 23 = .ok (.aload_n 0, 1) := by decide +kernel
theorem dX6_veto_24 : decode cX6_veto 24 = .ok (.getfield 26, 3) := by decide +kernel
theorem dX6_veto_27 : decode cX6_veto 27 = .ok (.iload_n 1, 1) := by decide +kernel
theorem dX6_veto_28 : decode cX6_veto 28 = .ok (.invokevirtual 159, 3) := by decide +kernel
theorem dX6_veto_31 : decode cX6_veto 31 = .ok (.iload_n 2, 1) := by decide +kernel
theorem dX6_veto_32 : decode cX6_veto 32 = .ok (.iconst 1, 1) := by decide +kernel
theorem dX6_veto_33 : decode cX6_veto 33 = .ok (.if_icmp .ne 7, 3) := by decide +kernel
theorem dX6_veto_36 : decode cX6_veto 36 = .ok (.iconst 1, 1) := by decide +kernel
theorem dX6_veto_37 : decode cX6_veto 37 = .ok (.goto 4, 3) := by decide +kernel
theorem dX6_veto_40 : decode cX6_veto 40 = .ok (.iconst 0, 1) := by decide +kernel
theorem dX6_veto_41 : decode cX6_veto 41 = .ok (.if_icmp .ne 6, 3) := by decide +kernel
theorem dX6_veto_44 : decode cX6_veto 44 = .ok (.ldc 136, 2) := by decide +kernel
theorem dX6_veto_46 : decode cX6_veto 46 = .ok (.ireturn, 1) := by decide +kernel
theorem dX6_veto_47 : decode cX6_veto 47 = .ok (.aload_n 0, 1) := by decide +kernel
theorem dX6_veto_48 : decode cX6_veto 48 = .ok (.getfield 33, 3) := by decide +kernel
theorem dX6_veto_51 : decode cX6_veto 51 = .ok (.aload_n 0, 1) := by decide +kernel
theorem dX6_veto_52 : decode cX6_veto 52 = .ok (.getfield 26, 3) := by decide +kernel
theorem dX6_veto_55 : decode cX6_veto 55 = .ok (.invokevirtual 147, 3) := by decide +kernel
theorem dX6_veto_58 : decode cX6_veto 58 = .ok (.aload_n 0, 1) := by decide +kernel
theorem dX6_veto_59 : decode cX6_veto 59 = .ok (.getfield 26, 3) := by decide +kernel
theorem dX6_veto_62 : decode cX6_veto 62 = .ok (.iload_n 1, 1) := by decide +kernel
theorem dX6_veto_63 : decode cX6_veto 63 = .ok (.invokevirtual 176, 3) := by decide +kernel
theorem dX6_veto_66 : decode cX6_veto 66 = .ok (.aload_n 0, 1) := by decide +kernel
theorem dX6_veto_67 : decode cX6_veto 67 = .ok (.getfield 26, 3) := by decide +kernel
theorem dX6_veto_70 : decode cX6_veto 70 = .ok (.getfield 180, 3) := by decide +kernel
theorem dX6_veto_73 : decode cX6_veto 73 = .ok (.ireturn, 1) := by decide +kernel
theorem dX6_stand_0 : decode cX6_stand 0 = .ok (.aload_n 0, 1) := by decide +kernel
theorem dX6_stand_1 : decode cX6_stand 1 = .ok (.getfield 26, 3) := by decide +kernel
theorem dX6_stand_4 : decode cX6_stand 4 = .ok (.invokevirtual 140, 3) := by decide +kernel
theorem dX6_stand_7 : decode cX6_stand 7 = .ok (.ifCond .eq 6, 3) := by decide +kernel
theorem dX6_stand_10 : decode cX6_stand 10 = .ok (.ldc 136, 2) := by decide +kernel
theorem dX6_stand_12 : decode cX6_stand 12 = .ok (.ireturn, 1) := by decide +kernel
theorem dX6_stand_13 : decode cX6_stand 13 = .ok (.iload_n 1, 1) := by decide +kernel
theorem dX6_stand_14 : decode cX6_stand 14 = .ok (.invokestatic 183, 3) := by decide +kernel
theorem dX6_stand_17 : decode cX6_stand 17 = .ok (.ifCond .eq 13, 3) := by decide +kernel
theorem dX6_stand_20 : decode cX6_stand 20 = .ok (.iload_n 2, 1) := by decide +kernel
theorem dX6_stand_21 : decode cX6_stand 21 = .ok (.iconst 0, 1) := by decide +kernel
theorem dX6_stand_22 : decode cX6_stand 22 = .ok (.bipush 8, 2) := by decide +kernel
theorem dX6_stand_24 : decode cX6_stand 24 = .ok (.invokestatic 62, 3) := by decide +kernel
theorem dX6_stand_27 : decode cX6_stand 27 = .ok (.ifCond .ne 6, 3) := by decide +kernel
theorem dX6_stand_30 : decode cX6_stand 30 = .ok (.ldc 66, 2) := by decide +kernel
theorem dX6_stand_32 : decode cX6_stand 32 = .ok (.ireturn, 1) := by decide +kernel
theorem dX6_stand_33 : decode cX6_stand 33 = .ok (.iload_n 1, 1) := by decide +kernel
theorem dX6_stand_34 : decode cX6_stand 34 = .ok (.ifCond .ne 13, 3) := by decide +kernel
theorem dX6_stand_37 : decode cX6_stand 37 = .ok (.aload_n 0, 1) := by decide +kernel
theorem dX6_stand_38 : decode cX6_stand 38 = .ok (.getfield 26, 3) := by decide +kernel
theorem dX6_stand_41 : decode cX6_stand 41 = .ok (.getfield 186, 3) := by decide +kernel
theorem dX6_stand_44 : decode cX6_stand 44 = .ok (.goto 10, 3) := by decide +kernel
theorem dX6_stand_47 : decode cX6_stand 47 = .ok (.aload_n 0, 1) := by decide +kernel
theorem dX6_stand_48 : decode cX6_stand 48 = .ok (.getfield 26, 3) := by decide +kernel
theorem dX6_stand_51 : decode cX6_stand 51 = .ok (.getfield 189, 3) := by decide +kernel
theorem dX6_stand_54 : decode cX6_stand 54 = .ok (.istore_n 3, 1) := by decide +kernel
theorem dX6_stand_55 : decode cX6_stand 55 = .ok (.aload_n 0, 1) := by decide +kernel
theorem dX6_stand_56 : decode cX6_stand 56 = .ok (.getfield 33, 3) := by decide +kernel
theorem dX6_stand_59 : decode cX6_stand 59 = .ok (.aload_n 0, 1) := by decide +kernel
theorem dX6_stand_60 : decode cX6_stand 60 = .ok (.getfield 26, 3) := by decide +kernel
theorem dX6_stand_63 : decode cX6_stand 63 = .ok (.invokevirtual 147, 3) := by decide +kernel
theorem dX6_stand_66 : decode cX6_stand 66 = .ok (.aload_n 0, 1) := by decide +kernel
theorem dX6_stand_67 : decode cX6_stand 67 = .ok (.getfield 26, 3) := by decide +kernel
theorem dX6_stand_70 : decode cX6_stand 70 = .ok (.iload_n 1, 1) := by decide +kernel
theorem dX6_stand_71 : decode cX6_stand 71 = .ok (.iload_n 2, 1) := by decide +kernel
theorem dX6_stand_72 : decode cX6_stand 72 = .ok (.invokevirtual 192, 3) := by decide +kernel
theorem dX6_stand_75 : decode cX6_stand 75 = .ok (.iload_n 3, 1) := by decide +kernel
theorem dX6_stand_76 : decode cX6_stand 76 = .ok (.ireturn, 1) := by decide +kernel
theorem dX6_bed_0 : decode cX6_bed 0 = .ok (.aload_n 0, 1) := by decide +kernel
theorem dX6_bed_1 : decode cX6_bed 1 = .ok (.getfield 26, 3) := by decide +kernel
theorem dX6_bed_4 : decode cX6_bed 4 = .ok (.iload_n 1, 1) := by decide +kernel
theorem dX6_bed_5 : decode cX6_bed 5 = .ok (.invokevirtual 156, 3) := by decide +kernel
theorem dX6_bed_8 : decode cX6_bed 8 = .ok (.ifCond .eq 12, 3) := by decide +kernel
theorem dX6_bed_11 : decode cX6_bed 11 = .ok (.iload_n 2, 1) := by decide +kernel
theorem dX6_bed_12 : decode cX6_bed 12 = .ok (.iconst 0, 1) := by decide +kernel
theorem dX6_bed_13 : decode cX6_bed 13 = .ok (.iconst 3, 1) := by decide +kernel
theorem dX6_bed_14 : decode cX6_bed 14 = .ok (.invokestatic 62, 3) := by decide +kernel
theorem dX6_bed_17 : decode cX6_bed 17 = .ok (.ifCond .ne 6, 3) := by decide +kernel
theorem dX6_bed_20 : decode cX6_bed 20 = .ok (.ldc 66, 2) := by decide +kernel
theorem dX6_bed_22 : decode cX6_bed 22 = .ok (.ireturn, 1) := by decide +kernel
theorem dX6_bed_23 : decode cX6_bed 23 = .ok (.iload_n 2, 1) := by decide +kernel
theorem dX6_bed_24 : decode cX6_bed 24 = .ok (.iconst 3, 1) := by decide +kernel
theorem dX6_bed_25 : decode cX6_bed 25 = .ok (.if_icmp .ne 20, 3) := by decide +kernel
theorem dX6_bed_28 : decode cX6_bed 28 = .ok (.aload_n 0, 1) := by decide +kernel
theorem dX6_bed_29 : decode cX6_bed 29 = .ok (.getfield 26, 3) := by decide +kernel
theorem dX6_bed_32 : decode cX6_bed 32 = .ok (.iload_n 1, 1) := by decide +kernel
theorem dX6_bed_33 : decode cX6_bed 33 = .ok (.invokevirtual 159, 3) := by decide +kernel
theorem dX6_bed_36 : decode cX6_bed 36 = .ok (.ifCond .eq 7, 3) := by decide +kernel
theorem dX6_bed_39 : decode cX6_bed 39 = .ok (.iconst 1, 1) := by decide +kernel
theorem dX6_bed_40 : decode cX6_bed 40 = .ok (.goto 4, 3) := by decide +kernel
theorem dX6_bed_43 : decode cX6_bed 43 = .ok (.iconst 0, 1) := by decide +kernel
theorem dX6_bed_44 : decode cX6_bed 44 = .ok (.ireturn, 1) := by decide +kernel
theorem dX6_bed_45 : decode cX6_bed 45 = .ok (.aload_n 0, 1) := by decide +kernel
theorem dX6_bed_46 : decode cX6_bed 46 = .ok (.getfield 26, 3) := by decide +kernel
theorem dX6_bed_49 : decode cX6_bed 49 = .ok (.iload_n 1, 1) := by decide +kernel
theorem dX6_bed_50 : decode cX6_bed 50 = .ok (.iload_n 2, 1) := by decide +kernel
theorem dX6_bed_51 : decode cX6_bed 51 = .ok (.invokevirtual 195, 3) := by decide +kernel
theorem dX6_bed_54 : decode cX6_bed 54 = .ok (.ireturn, 1) := by decide +kernel
theorem dX6_board_0 : decode cX6_board 0 = .ok (.aload_n 0, 1) := by decide +kernel
theorem dX6_board_1 : decode cX6_board 1 = .ok (.getfield 26, 3) := by decide +kernel
theorem dX6_board_4 : decode cX6_board 4 = .ok (.invokevirtual 140, 3) := by decide +kernel
theorem dX6_board_7 : decode cX6_board 7 = .ok (.ifCond .eq 6, 3) := by decide +kernel
theorem dX6_board_10 : decode cX6_board 10 = .ok (.ldc 136, 2) := by decide +kernel
theorem dX6_board_12 : decode cX6_board 12 = .ok (.ireturn, 1) := by decide +kernel
theorem dX6_board_13 : decode cX6_board 13 = .ok (.iload_n 1, 1) := by decide +kernel
theorem dX6_board_14 : decode cX6_board 14 = .ok (.tableswitch 71 0 5 #[38, 38, 38, 47, 55, 63], 38) := by decide +kernel
theorem dX6_board_52 : decode cX6_board 52 = .ok (.aload_n 0, 1) := by decide +kernel
theorem dX6_board_53 : decode cX6_board 53 = .ok (.getfield 26, 3) := by decide +kernel
theorem dX6_board_56 : decode cX6_board 56 = .ok (.iload_n 1, 1) := by decide +kernel
theorem dX6_board_57 : decode cX6_board 57 = .ok (.invokevirtual 198, 3) := by decide +kernel
theorem dX6_board_60 : decode cX6_board 60 = .ok (.ireturn, 1) := by decide +kernel
theorem dX6_board_61 : decode cX6_board 61 = .ok (.aload_n 0, 1) := by decide +kernel
theorem dX6_board_62 : decode cX6_board 62 = .ok (.getfield 26, 3) := by decide +kernel
theorem dX6_board_65 : decode cX6_board 65 = .ok (.getfield 186, 3) := by decide +kernel
theorem dX6_board_68 : decode cX6_board 68 = .ok (.ireturn, 1) := by decide +kernel
theorem dX6_board_69 : decode cX6_board 69 = .ok (.aload_n 0, 1) := by decide +kernel
theorem dX6_board_70 : decode cX6_board 70 = .ok (.getfield 26, 3) := by decide +kernel
theorem dX6_board_73 : decode cX6_board 73 = .ok (.getfield 189, 3) := by decide +kernel
theorem dX6_board_76 : decode cX6_board 76 = .ok (.ireturn, 1) := by decide +kernel
theorem dX6_board_77 : decode cX6_board 77 = .ok (.aload_n 0, 1) := by decide +kernel
theorem dX6_board_78 : decode cX6_board 78 = .ok (.getfield 26, 3) := by decide +kernel
theorem dX6_board_81 : decode cX6_board 81 = .ok (.getfield 201, 3) := by decide +kernel
theorem dX6_board_84 : decode cX6_board 84 = .ok (.ireturn, 1) := by decide +kernel
theorem dX6_board_85 : decode cX6_board 85 = .ok (.ldc 66, 2) := by decide +kernel
theorem dX6_board_87 : decode cX6_board 87 = .ok (.ireturn, 1) := by decide +kernel
theorem dX6_ahead_0 : decode cX6_ahead 0 = .ok (.aload_n 0, 1) := by decide +kernel
theorem dX6_ahead_1 : decode cX6_ahead 1 = .ok (.getfield 26, 3) := by decide +kernel
theorem dX6_ahead_4 : decode cX6_ahead 4 = .ok (.iload_n 1, 1) := by decide +kernel
theorem dX6_ahead_5 : decode cX6_ahead 5 = .ok (.invokevirtual 156, 3) := by decide +kernel
theorem dX6_ahead_8 : decode cX6_ahead 8 = .ok (.ifCond .eq 22, 3) := by decide +kernel
theorem dX6_ahead_11 : decode cX6_ahead 11 = .ok (.iload_n 2, 1) := by decide +kernel
theorem dX6_ahead_12 : decode cX6_ahead 12 = .ok (.iconst 0, 1) := by decide +kernel
theorem dX6_ahead_13 : decode cX6_ahead 13 = .ok (.bipush 60, 2) := by decide +kernel
theorem dX6_ahead_15 : decode cX6_ahead 15 = .ok (.invokestatic 62, 3) := by decide +kernel
theorem dX6_ahead_18 : decode cX6_ahead 18 = .ok (.ifCond .eq 12, 3) := by decide +kernel
theorem dX6_ahead_21 : decode cX6_ahead 21 = .ok (.iload_n 3, 1) := by decide +kernel
theorem dX6_ahead_22 : decode cX6_ahead 22 = .ok (.iconst 0, 1) := by decide +kernel
theorem dX6_ahead_23 : decode cX6_ahead 23 = .ok (.iconst 2, 1) := by decide +kernel
theorem dX6_ahead_24 : decode cX6_ahead 24 = .ok (.invokestatic 62, 3) := by decide +kernel
theorem dX6_ahead_27 : decode cX6_ahead 27 = .ok (.ifCond .ne 6, 3) := by decide +kernel
theorem dX6_ahead_30 : decode cX6_ahead 30 = .ok (.ldc 66, 2) := by decide +kernel
theorem dX6_ahead_32 : decode cX6_ahead 32 = .ok (.ireturn, 1) := by decide +kernel
theorem dX6_ahead_33 : decode cX6_ahead 33 = .ok (.aload_n 0, 1) := by decide +kernel
theorem dX6_ahead_34 : decode cX6_ahead 34 = .ok (.getfield 44, 3) := by decide +kernel
theorem dX6_ahead_37 : decode cX6_ahead 37 = .ok (.aload_n 0, 1) := by decide +kernel
theorem dX6_ahead_38 : decode cX6_ahead 38 = .ok (.getfield 26, 3) := by decide +kernel
theorem dX6_ahead_41 : decode cX6_ahead 41 = .ok (.iload_n 2, 1) := by decide +kernel
theorem dX6_ahead_42 : decode cX6_ahead 42 = .ok (.invokevirtual 204, 3) := by decide +kernel
theorem dX6_ahead_45 : decode cX6_ahead 45 = .ok (.iload_n 1, 1) := by decide +kernel
theorem dX6_ahead_46 : decode cX6_ahead 46 = .ok (.iload_n 3, 1) := by decide +kernel
theorem dX6_ahead_47 : decode cX6_ahead 47 = .ok (.invokevirtual 195, 3) := by decide +kernel
theorem dX6_ahead_50 : decode cX6_ahead 50 = .ok (.ireturn, 1) := by decide +kernel
theorem dX6_tally_0 : decode cX6_tally 0 = .ok (.aload_n 0, 1) := by decide +kernel
theorem dX6_tally_1 : decode cX6_tally 1 = .ok (.getfield 26, 3) := by decide +kernel
theorem dX6_tally_4 : decode cX6_tally 4 = .ok (.invokevirtual 140, 3) := by decide +kernel
theorem dX6_tally_7 : decode cX6_tally 7 = .ok (.ifCond .eq 6, 3) := by decide +kernel
theorem dX6_tally_10 : decode cX6_tally 10 = .ok (.ldc 136, 2) := by decide +kernel
theorem dX6_tally_12 : decode cX6_tally 12 = .ok (.ireturn, 1) := by decide +kernel
theorem dX6_tally_13 : decode cX6_tally 13 = .ok (.iload_n 1, 1) := by decide +kernel
theorem dX6_tally_14 : decode cX6_tally 14 = .ok (.iconst 0, 1) := by decide +kernel
theorem dX6_tally_15 : decode cX6_tally 15 = .ok (.bipush 60, 2) := by decide +kernel
theorem dX6_tally_17 : decode cX6_tally 17 = .ok (.invokestatic 62, 3) := by decide +kernel
theorem dX6_tally_20 : decode cX6_tally 20 = .ok (.ifCond .eq 12, 3) := by decide +kernel
theorem dX6_tally_23 : decode cX6_tally 23 = .ok (.iload_n 2, 1) := by decide +kernel
theorem dX6_tally_24 : decode cX6_tally 24 = .ok (.iconst 0, 1) := by decide +kernel
theorem dX6_tally_25 : decode cX6_tally 25 = .ok (.iconst 2, 1) := by decide +kernel
theorem dX6_tally_26 : decode cX6_tally 26 = .ok (.invokestatic 62, 3) := by decide +kernel
theorem dX6_tally_29 : decode cX6_tally 29 = .ok (.ifCond .ne 6, 3) := by decide +kernel
theorem dX6_tally_32 : decode cX6_tally 32 = .ok (.ldc 66, 2) := by decide +kernel
theorem dX6_tally_34 : decode cX6_tally 34 = .ok (.ireturn, 1) := by decide +kernel
theorem dX6_tally_35 : decode cX6_tally 35 = .ok (.aload_n 0, 1) := by decide +kernel
theorem dX6_tally_36 : decode cX6_tally 36 = .ok (.getfield 44, 3) := by decide +kernel
theorem dX6_tally_39 : decode cX6_tally 39 = .ok (.aload_n 0, 1) := by decide +kernel
theorem dX6_tally_40 : decode cX6_tally 40 = .ok (.getfield 26, 3) := by decide +kernel
theorem dX6_tally_43 : decode cX6_tally 43 = .ok (.iload_n 1, 1) := by decide +kernel
theorem dX6_tally_44 : decode cX6_tally 44 = .ok (.invokevirtual 204, 3) := by decide +kernel
theorem dX6_tally_47 : decode cX6_tally 47 = .ok (.iload_n 2, 1) := by decide +kernel
theorem dX6_tally_48 : decode cX6_tally 48 = .ok (.invokevirtual 208, 3) := by decide +kernel
theorem dX6_tally_51 : decode cX6_tally 51 = .ok (.ireturn, 1) := by decide +kernel
theorem dX6_when_0 : decode cX6_when 0 = .ok (.aload_n 0, 1) := by decide +kernel
theorem dX6_when_1 : decode cX6_when 1 = .ok (.getfield 26, 3) := by decide +kernel
theorem dX6_when_4 : decode cX6_when 4 = .ok (.iload_n 1, 1) := by decide +kernel
theorem dX6_when_5 : decode cX6_when 5 = .ok (.invokevirtual 156, 3) := by decide +kernel
theorem dX6_when_8 : decode cX6_when 8 = .ok (.ifCond .eq 12, 3) := by decide +kernel
theorem dX6_when_11 : decode cX6_when 11 = .ok (.iload_n 2, 1) := by decide +kernel
theorem dX6_when_12 : decode cX6_when 12 = .ok (.iconst 0, 1) := by decide +kernel
theorem dX6_when_13 : decode cX6_when 13 = .ok (.iconst 2, 1) := by decide +kernel
theorem dX6_when_14 : decode cX6_when 14 = .ok (.invokestatic 62, 3) := by decide +kernel
theorem dX6_when_17 : decode cX6_when 17 = .ok (.ifCond .ne 6, 3) := by decide +kernel
theorem dX6_when_20 : decode cX6_when 20 = .ok (.ldc 66, 2) := by decide +kernel
theorem dX6_when_22 : decode cX6_when 22 = .ok (.ireturn, 1) := by decide +kernel
theorem dX6_when_23 : decode cX6_when 23 = .ok (.aload_n 0, 1) := by decide +kernel
theorem dX6_when_24 : decode cX6_when 24 = .ok (.getfield 44, 3) := by decide +kernel
theorem dX6_when_27 : decode cX6_when 27 = .ok (.aload_n 0, 1) := by decide +kernel
theorem dX6_when_28 : decode cX6_when 28 = .ok (.getfield 26, 3) := by decide +kernel
theorem dX6_when_31 : decode cX6_when 31 = .ok (.iload_n 1, 1) := by decide +kernel
theorem dX6_when_32 : decode cX6_when 32 = .ok (.iload_n 2, 1) := by decide +kernel
theorem dX6_when_33 : decode cX6_when 33 = .ok (.invokevirtual 211, 3) := by decide +kernel
theorem dX6_when_36 : decode cX6_when 36 = .ok (.ireturn, 1) := by decide +kernel
theorem dX6_place_0 : decode cX6_place 0 = .ok (.aload_n 0, 1) := by decide +kernel
theorem dX6_place_1 : decode cX6_place 1 = .ok (.getfield 26, 3) := by decide +kernel
theorem dX6_place_4 : decode cX6_place 4 = .ok (.invokevirtual 140, 3) := by decide +kernel
theorem dX6_place_7 : decode cX6_place 7 = .ok (.ifCond .eq 6, 3) := by decide +kernel
theorem dX6_place_10 : decode cX6_place 10 = .ok (.ldc 136, 2) := by decide +kernel
theorem dX6_place_12 : decode cX6_place 12 = .ok (.ireturn, 1) := by decide +kernel
theorem dX6_place_13 : decode cX6_place 13 = .ok (.iload_n 1, 1) := by decide +kernel
theorem dX6_place_14 : decode cX6_place 14 = .ok (.invokestatic 183, 3) := by decide +kernel
theorem dX6_place_17 : decode cX6_place 17 = .ok (.ifCond .eq 12, 3) := by decide +kernel
theorem dX6_place_20 : decode cX6_place 20 = .ok (.iload_n 2, 1) := by decide +kernel
theorem dX6_place_21 : decode cX6_place 21 = .ok (.iconst 0, 1) := by decide +kernel
theorem dX6_place_22 : decode cX6_place 22 = .ok (.iconst 1, 1) := by decide +kernel
theorem dX6_place_23 : decode cX6_place 23 = .ok (.invokestatic 62, 3) := by decide +kernel
theorem dX6_place_26 : decode cX6_place 26 = .ok (.ifCond .ne 6, 3) := by decide +kernel
theorem dX6_place_29 : decode cX6_place 29 = .ok (.ldc 66, 2) := by decide +kernel
theorem dX6_place_31 : decode cX6_place 31 = .ok (.ireturn, 1) := by decide +kernel
theorem dX6_place_32 : decode cX6_place 32 = .ok (.aload_n 0, 1) := by decide +kernel
theorem dX6_place_33 : decode cX6_place 33 = .ok (.getfield 44, 3) := by decide +kernel
theorem dX6_place_36 : decode cX6_place 36 = .ok (.aload_n 0, 1) := by decide +kernel
theorem dX6_place_37 : decode cX6_place 37 = .ok (.getfield 26, 3) := by decide +kernel
theorem dX6_place_40 : decode cX6_place 40 = .ok (.iload_n 1, 1) := by decide +kernel
theorem dX6_place_41 : decode cX6_place 41 = .ok (.invokevirtual 215, 3) := by decide +kernel
theorem dX6_place_44 : decode cX6_place 44 = .ok (.istore_n 3, 1) := by decide +kernel
theorem dX6_place_45 : decode cX6_place 45 = .ok (.iload_n 2, 1) := by decide +kernel
theorem dX6_place_46 : decode cX6_place 46 = .ok (.ifCond .ne 7, 3) := by decide +kernel
theorem dX6_place_49 : decode cX6_place 49 = .ok (.iload_n 3, 1) := by decide +kernel
theorem dX6_place_50 : decode cX6_place 50 = .ok (.goto 16, 3) := by decide +kernel
theorem dX6_place_53 : decode cX6_place 53 = .ok (.aload_n 0, 1) := by decide +kernel
theorem dX6_place_54 : decode cX6_place 54 = .ok (.getfield 44, 3) := by decide +kernel
theorem dX6_place_57 : decode cX6_place 57 = .ok (.aload_n 0, 1) := by decide +kernel
theorem dX6_place_58 : decode cX6_place 58 = .ok (.getfield 26, 3) := by decide +kernel
theorem dX6_place_61 : decode cX6_place 61 = .ok (.iload_n 1, 1) := by decide +kernel
theorem dX6_place_62 : decode cX6_place 62 = .ok (.iload_n 3, 1) := by decide +kernel
theorem dX6_place_63 : decode cX6_place 63 = .ok (.invokevirtual 219, 3) := by decide +kernel
theorem dX6_place_66 : decode cX6_place 66 = .ok (.ireturn, 1) := by decide +kernel
theorem dX6_rests_0 : decode cX6_rests 0 = .ok (.aload_n 0, 1) := by decide +kernel
theorem dX6_rests_1 : decode cX6_rests 1 = .ok (.getfield 26, 3) := by decide +kernel
theorem dX6_rests_4 : decode cX6_rests 4 = .ok (.invokevirtual 140, 3) := by decide +kernel
theorem dX6_rests_7 : decode cX6_rests 7 = .ok (.ifCond .eq 6, 3) := by decide +kernel
theorem dX6_rests_10 : decode cX6_rests 10 = .ok (.ldc 136, 2) := by decide +kernel
theorem dX6_rests_12 : decode cX6_rests 12 = .ok (.ireturn, 1) := by decide +kernel
theorem dX6_rests_13 : decode cX6_rests 13 = .ok (.iload_n 1, 1) := by decide +kernel
theorem dX6_rests_14 : decode cX6_rests 14 = .ok (.iconst 0, 1) := by decide +kernel
theorem dX6_rests_15 : decode cX6_rests 15 = .ok (.iconst 1, 1) := by decide +kernel
theorem dX6_rests_16 : decode cX6_rests 16 = .ok (.invokestatic 62, 3) := by decide +kernel
theorem dX6_rests_19 : decode cX6_rests 19 = .ok (.ifCond .ne 6, 3) := by decide +kernel
theorem dX6_rests_22 : decode cX6_rests 22 = .ok (.ldc 66, 2) := by decide +kernel
theorem dX6_rests_24 : decode cX6_rests 24 = .ok (.ireturn, 1) := by decide +kernel
theorem dX6_rests_25 : decode cX6_rests 25 = .ok (.aload_n 0, 1) := by decide +kernel
theorem dX6_rests_26 : decode cX6_rests 26 = .ok (.getfield 44, 3) := by decide +kernel
theorem dX6_rests_29 : decode cX6_rests 29 = .ok (.aload_n 0, 1) := by decide +kernel
theorem dX6_rests_30 : decode cX6_rests 30 = .ok (.getfield 26, 3) := by decide +kernel
theorem dX6_rests_33 : decode cX6_rests 33 = .ok (.invokevirtual 222, 3) := by decide +kernel
theorem dX6_rests_36 : decode cX6_rests 36 = .ok (.iload_n 1, 1) := by decide +kernel
theorem dX6_rests_37 : decode cX6_rests 37 = .ok (.ifCond .ne 13, 3) := by decide +kernel
theorem dX6_rests_40 : decode cX6_rests 40 = .ok (.aload_n 0, 1) := by decide +kernel
theorem dX6_rests_41 : decode cX6_rests 41 = .ok (.getfield 44, 3) := by decide +kernel
theorem dX6_rests_44 : decode cX6_rests 44 = .ok (.invokevirtual 225, 3) := by decide +kernel
theorem dX6_rests_47 : decode cX6_rests 47 = .ok (.goto 10, 3) := by decide +kernel
theorem dX6_rests_50 : decode cX6_rests 50 = .ok (.aload_n 0, 1) := by decide +kernel
theorem dX6_rests_51 : decode cX6_rests 51 = .ok (.getfield 44, 3) := by decide +kernel
theorem dX6_rests_54 : decode cX6_rests 54 = .ok (.invokevirtual 228, 3) := by decide +kernel
theorem dX6_rests_57 : decode cX6_rests 57 = .ok (.ireturn, 1) := by decide +kernel
theorem dX6_rakes_0 : decode cX6_rakes 0 = .ok (.aload_n 0, 1) := by decide +kernel
theorem dX6_rakes_1 : decode cX6_rakes 1 = .ok (.getfield 26, 3) := by decide +kernel
theorem dX6_rakes_4 : decode cX6_rakes 4 = .ok (.invokevirtual 140, 3) := by decide +kernel
theorem dX6_rakes_7 : decode cX6_rakes 7 = .ok (.ifCond .eq 6, 3) := by decide +kernel
theorem dX6_rakes_10 : decode cX6_rakes 10 = .ok (.ldc 136, 2) := by decide +kernel
theorem dX6_rakes_12 : decode cX6_rakes 12 = .ok (.ireturn, 1) := by decide +kernel
theorem dX6_rakes_13 : decode cX6_rakes 13 = .ok (.iload_n 1, 1) := by decide +kernel
theorem dX6_rakes_14 : decode cX6_rakes 14 = .ok (.invokestatic 183, 3) := by decide +kernel
theorem dX6_rakes_17 : decode cX6_rakes 17 = .ok (.ifCond .eq 12, 3) := by decide +kernel
theorem dX6_rakes_20 : decode cX6_rakes 20 = .ok (.iload_n 2, 1) := by decide +kernel
theorem dX6_rakes_21 : decode cX6_rakes 21 = .ok (.iconst 0, 1) := by decide +kernel
theorem dX6_rakes_22 : decode cX6_rakes 22 = .ok (.iconst 1, 1) := by decide +kernel
theorem dX6_rakes_23 : decode cX6_rakes 23 = .ok (.invokestatic 62, 3) := by decide +kernel
theorem dX6_rakes_26 : decode cX6_rakes 26 = .ok (.ifCond .ne 6, 3) := by decide +kernel
theorem dX6_rakes_29 : decode cX6_rakes 29 = .ok (.ldc 66, 2) := by decide +kernel
theorem dX6_rakes_31 : decode cX6_rakes 31 = .ok (.ireturn, 1) := by decide +kernel
theorem dX6_rakes_32 : decode cX6_rakes 32 = .ok (.aload_n 0, 1) := by decide +kernel
theorem dX6_rakes_33 : decode cX6_rakes 33 = .ok (.getfield 44, 3) := by decide +kernel
theorem dX6_rakes_36 : decode cX6_rakes 36 = .ok (.aload_n 0, 1) := by decide +kernel
theorem dX6_rakes_37 : decode cX6_rakes 37 = .ok (.getfield 26, 3) := by decide +kernel
theorem dX6_rakes_40 : decode cX6_rakes 40 = .ok (.iload_n 1, 1) := by decide +kernel
theorem dX6_rakes_41 : decode cX6_rakes 41 = .ok (.invokevirtual 231, 3) := by decide +kernel
theorem dX6_rakes_44 : decode cX6_rakes 44 = .ok (.istore_n 3, 1) := by decide +kernel
theorem dX6_rakes_45 : decode cX6_rakes 45 = .ok (.iload_n 3, 1) := by decide +kernel
theorem dX6_rakes_46 : decode cX6_rakes 46 = .ok (.ldc 234, 2) := by decide +kernel
theorem dX6_rakes_48 : decode cX6_rakes 48 = .ok (.if_icmp .eq 8, 3) := by decide +kernel
theorem dX6_rakes_51 : decode cX6_rakes 51 = .ok (.iload_n 2, 1) := by decide +kernel
theorem dX6_rakes_52 : decode cX6_rakes 52 = .ok (.iconst 1, 1) := by decide +kernel
theorem dX6_rakes_53 : decode cX6_rakes 53 = .ok (.if_icmp .ne 7, 3) := by decide +kernel
theorem dX6_rakes_56 : decode cX6_rakes 56 = .ok (.iload_n 3, 1) := by decide +kernel
theorem dX6_rakes_57 : decode cX6_rakes 57 = .ok (.goto 7, 3) := by decide +kernel
theorem dX6_rakes_60 : decode cX6_rakes 60 = .ok (.iload_n 3, 1) := by decide +kernel
theorem dX6_rakes_61 : decode cX6_rakes 61 = .ok (.invokestatic 235, 3) := by decide +kernel
theorem dX6_rakes_64 : decode cX6_rakes 64 = .ok (.ireturn, 1) := by decide +kernel
theorem dX6_wards_0 : decode cX6_wards 0 = .ok (.aload_n 0, 1) := by decide +kernel
theorem dX6_wards_1 : decode cX6_wards 1 = .ok (.getfield 26, 3) := by decide +kernel
theorem dX6_wards_4 : decode cX6_wards 4 = .ok (.invokevirtual 140, 3) := by decide +kernel
theorem dX6_wards_7 : decode cX6_wards 7 = .ok (.ifCond .eq 6, 3) := by decide +kernel
theorem dX6_wards_10 : decode cX6_wards 10 = .ok (.ldc 136, 2) := by decide +kernel
theorem dX6_wards_12 : decode cX6_wards 12 = .ok (.ireturn, 1) := by decide +kernel
theorem dX6_wards_13 : decode cX6_wards 13 = .ok (.iload_n 1, 1) := by decide +kernel
theorem dX6_wards_14 : decode cX6_wards 14 = .ok (.invokestatic 183, 3) := by decide +kernel
theorem dX6_wards_17 : decode cX6_wards 17 = .ok (.ifCond .eq 21, 3) := by decide +kernel
theorem dX6_wards_20 : decode cX6_wards 20 = .ok (.iload_n 2, 1) := by decide +kernel
theorem dX6_wards_21 : decode cX6_wards 21 = .ok (.iconst 1, 1) := by decide +kernel
theorem dX6_wards_22 : decode cX6_wards 22 = .ok (.iconst 3, 1) := by decide +kernel
theorem dX6_wards_23 : decode cX6_wards 23 = .ok (.invokestatic 62, 3) := by decide +kernel
theorem dX6_wards_26 : decode cX6_wards 26 = .ok (.ifCond .eq 12, 3) := by decide +kernel
theorem dX6_wards_29 : decode cX6_wards 29 = .ok (.iload_n 3, 1) := by decide +kernel
theorem dX6_wards_30 : decode cX6_wards 30 = .ok (.iconst 0, 1) := by decide +kernel
theorem dX6_wards_31 : decode cX6_wards 31 = .ok (.iconst 1, 1) := by decide +kernel
theorem dX6_wards_32 : decode cX6_wards 32 = .ok (.invokestatic 62, 3) := by decide +kernel
theorem dX6_wards_35 : decode cX6_wards 35 = .ok (.ifCond .ne 6, 3) := by decide +kernel
theorem dX6_wards_38 : decode cX6_wards 38 = .ok (.ldc 66, 2) := by decide +kernel
theorem dX6_wards_40 : decode cX6_wards 40 = .ok (.ireturn, 1) := by decide +kernel
theorem dX6_wards_41 : decode cX6_wards 41 = .ok (.aload_n 0, 1) := by decide +kernel
theorem dX6_wards_42 : decode cX6_wards 42 = .ok (.getfield 44, 3) := by decide +kernel
theorem dX6_wards_45 : decode cX6_wards 45 = .ok (.aload_n 0, 1) := by decide +kernel
theorem dX6_wards_46 : decode cX6_wards 46 = .ok (.getfield 26, 3) := by decide +kernel
theorem dX6_wards_49 : decode cX6_wards 49 = .ok (.iload_n 1, 1) := by decide +kernel
theorem dX6_wards_50 : decode cX6_wards 50 = .ok (.iload_n 2, 1) := by decide +kernel
theorem dX6_wards_51 : decode cX6_wards 51 = .ok (.invokevirtual 240, 3) := by decide +kernel
theorem dX6_wards_54 : decode cX6_wards 54 = .ok (.istore 4, 2) := by decide +kernel
theorem dX6_wards_56 : decode cX6_wards 56 = .ok (.iload 4, 2) := by decide +kernel
theorem dX6_wards_58 : decode cX6_wards 58 = .ok (.ldc 234, 2) := by decide +kernel
theorem dX6_wards_60 : decode cX6_wards 60 = .ok (.if_icmp .eq 8, 3) := by decide +kernel
theorem dX6_wards_63 : decode cX6_wards 63 = .ok (.iload_n 3, 1) := by decide +kernel
theorem dX6_wards_64 : decode cX6_wards 64 = .ok (.iconst 1, 1) := by decide +kernel
theorem dX6_wards_65 : decode cX6_wards 65 = .ok (.if_icmp .ne 8, 3) := by decide +kernel
theorem dX6_wards_68 : decode cX6_wards 68 = .ok (.iload 4, 2) := by decide +kernel
theorem dX6_wards_70 : decode cX6_wards 70 = .ok (.goto 19, 3) := by decide +kernel
theorem dX6_wards_73 : decode cX6_wards 73 = .ok (.aload_n 0, 1) := by decide +kernel
theorem dX6_wards_74 : decode cX6_wards 74 = .ok (.getfield 44, 3) := by decide +kernel
theorem dX6_wards_77 : decode cX6_wards 77 = .ok (.iload 4, 2) := by decide +kernel
theorem dX6_wards_79 : decode cX6_wards 79 = .ok (.aload_n 0, 1) := by decide +kernel
theorem dX6_wards_80 : decode cX6_wards 80 = .ok (.getfield 26, 3) := by decide +kernel
theorem dX6_wards_83 : decode cX6_wards 83 = .ok (.getfield 129, 3) := by decide +kernel
theorem dX6_wards_86 : decode cX6_wards 86 = .ok (.invokevirtual 243, 3) := by decide +kernel
theorem dX6_wards_89 : decode cX6_wards 89 = .ok (.ireturn, 1) := by decide +kernel
theorem dX6_decide_0 : decode cX6_decide 0 = .ok (.aload_n 0, 1) := by decide +kernel
theorem dX6_decide_1 : decode cX6_decide 1 = .ok (.getfield 26, 3) := by decide +kernel
theorem dX6_decide_4 : decode cX6_decide 4 = .ok (.invokevirtual 140, 3) := by decide +kernel
theorem dX6_decide_7 : decode cX6_decide 7 = .ok (.ifCond .eq 6, 3) := by decide +kernel
theorem dX6_decide_10 : decode cX6_decide 10 = .ok (.ldc 136, 2) := by decide +kernel
theorem dX6_decide_12 : decode cX6_decide 12 = .ok (.ireturn, 1) := by decide +kernel
theorem dX6_decide_13 : decode cX6_decide 13 = .ok (.aload_n 0, 1) := by decide +kernel
theorem dX6_decide_14 : decode cX6_decide 14 = .ok (.getfield 26, 3) := by decide +kernel
theorem dX6_decide_17 : decode cX6_decide 17 = .ok (.invokevirtual 246, 3) := by decide +kernel
theorem dX6_decide_20 : decode cX6_decide 20 = .ok (.ireturn, 1) := by decide +kernel
theorem dX6_grown_0 : decode cX6_grown 0 = .ok (.aload_n 0, 1) := by decide +kernel
theorem dX6_grown_1 : decode cX6_grown 1 = .ok (.getfield 26, 3) := by decide +kernel
theorem dX6_grown_4 : decode cX6_grown 4 = .ok (.iload_n 1, 1) := by decide +kernel
theorem dX6_grown_5 : decode cX6_grown 5 = .ok (.invokevirtual 156, 3) := by decide +kernel
theorem dX6_grown_8 : decode cX6_grown 8 = .ok (.ifCond .eq 33, 3) := by decide +kernel
theorem dX6_grown_11 : decode cX6_grown 11 = .ok (.iload_n 2, 1) := by decide +kernel
theorem dX6_grown_12 : decode cX6_grown 12 = .ok (.iconst 0, 1) := by decide +kernel
theorem dX6_grown_13 : decode cX6_grown 13 = .ok (.iconst 2, 1) := by decide +kernel
theorem dX6_grown_14 : decode cX6_grown 14 = .ok (.invokestatic 62, 3) := by decide +kernel
theorem dX6_grown_17 : decode cX6_grown 17 = .ok (.ifCond .eq 24, 3) := by decide +kernel
theorem dX6_grown_20 : decode cX6_grown 20 = .ok (.iload_n 3, 1) := by decide +kernel
theorem dX6_grown_21 : decode cX6_grown 21 = .ok (.iconst 0, 1) := by decide +kernel
theorem dX6_grown_22 : decode cX6_grown 22 = .ok (.bipush 7, 2) := by decide +kernel
theorem dX6_grown_24 : decode cX6_grown 24 = .ok (.invokestatic 62, 3) := by decide +kernel
theorem dX6_grown_27 : decode cX6_grown 27 = .ok (.ifCond .eq 14, 3) := by decide +kernel
theorem dX6_grown_30 : decode cX6_grown 30 = .ok (.iload 5, 2) := by decide +kernel
theorem dX6_grown_32 : decode cX6_grown 32 = .ok (.iconst 1, 1) := by decide +kernel
theorem dX6_grown_33 : decode cX6_grown 33 = .ok (.bipush 12, 2) := by decide +kernel
theorem dX6_grown_35 : decode cX6_grown 35 = .ok (.invokestatic 62, 3) := by decide +kernel
theorem dX6_grown_38 : decode cX6_grown 38 = .ok (.ifCond .ne 6, 3) := by decide +kernel
theorem dX6_grown_41 : decode cX6_grown 41 = .ok (.ldc 66, 2) := by decide +kernel
theorem dX6_grown_43 : decode cX6_grown 43 = .ok (.ireturn, 1) := by decide +kernel
theorem dX6_grown_44 : decode cX6_grown 44 = .ok (.aload_n 0, 1) := by decide +kernel
theorem dX6_grown_45 : decode cX6_grown 45 = .ok (.getfield 10, 3) := by decide +kernel
theorem dX6_grown_48 : decode cX6_grown 48 = .ok (.iload_n 3, 1) := by decide +kernel
theorem dX6_grown_49 : decode cX6_grown 49 = .ok (.invokevirtual 78, 3) := by decide +kernel
theorem dX6_grown_52 : decode cX6_grown 52 = .ok (.ifCond .eq 9, 3) := by decide +kernel
theorem dX6_grown_55 : decode cX6_grown 55 = .ok (.aload_n 0, 1) := by decide +kernel
theorem dX6_grown_56 : decode cX6_grown 56 = .ok (.iconst 1, 1) := by decide +kernel
theorem dX6_grown_57 : decode cX6_grown 57 = .ok (.invokevirtual 67, 3) := by decide +kernel
theorem dX6_grown_60 : decode cX6_grown 60 = .ok (.ireturn, 1) := by decide +kernel
theorem dX6_grown_61 : decode cX6_grown 61 = .ok (.aload_n 0, 1) := by decide +kernel
theorem dX6_grown_62 : decode cX6_grown 62 = .ok (.getfield 10, 3) := by decide +kernel
theorem dX6_grown_65 : decode cX6_grown 65 = .ok (.iload_n 3, 1) := by decide +kernel
theorem dX6_grown_66 : decode cX6_grown 66 = .ok (.iload 4, 2) := by decide +kernel
theorem dX6_grown_68 : decode cX6_grown 68 = .ok (.iload 5, 2) := by decide +kernel
theorem dX6_grown_70 : decode cX6_grown 70 = .ok (.invokevirtual 82, 3) := by decide +kernel
theorem dX6_grown_73 : decode cX6_grown 73 = .ok (.ifCond .ne 9, 3) := by decide +kernel
theorem dX6_grown_76 : decode cX6_grown 76 = .ok (.aload_n 0, 1) := by decide +kernel
theorem dX6_grown_77 : decode cX6_grown 77 = .ok (.iconst 2, 1) := by decide +kernel
theorem dX6_grown_78 : decode cX6_grown 78 = .ok (.invokevirtual 67, 3) := by decide +kernel
theorem dX6_grown_81 : decode cX6_grown 81 = .ok (.ireturn, 1) := by decide +kernel
theorem dX6_grown_82 : decode cX6_grown 82 = .ok (.aload_n 0, 1) := by decide +kernel
theorem dX6_grown_83 : decode cX6_grown 83 = .ok (.getfield 44, 3) := by decide +kernel
theorem dX6_grown_86 : decode cX6_grown 86 = .ok (.aload_n 0, 1) := by decide +kernel
theorem dX6_grown_87 : decode cX6_grown 87 = .ok (.getfield 10, 3) := by decide +kernel
theorem dX6_grown_90 : decode cX6_grown 90 = .ok (.iload_n 3, 1) := by decide +kernel
theorem dX6_grown_91 : decode cX6_grown 91 = .ok (.iload 4, 2) := by decide +kernel
theorem dX6_grown_93 : decode cX6_grown 93 = .ok (.iload 5, 2) := by decide +kernel
theorem dX6_grown_95 : decode cX6_grown 95 = .ok (.invokevirtual 249, 3) := by decide +kernel
theorem dX6_grown_98 : decode cX6_grown 98 = .ok (.aload_n 0, 1) := by decide +kernel
theorem dX6_grown_99 : decode cX6_grown 99 = .ok (.aload_n 0, 1) := by decide +kernel
theorem dX6_grown_100 : decode cX6_grown 100 = .ok (.getfield 44, 3) := by decide +kernel
theorem dX6_grown_103 : decode cX6_grown 103 = .ok (.aload_n 0, 1) := by decide +kernel
theorem dX6_grown_104 : decode cX6_grown 104 = .ok (.getfield 26, 3) := by decide +kernel
theorem dX6_grown_107 : decode cX6_grown 107 = .ok (.iload_n 1, 1) := by decide +kernel
theorem dX6_grown_108 : decode cX6_grown 108 = .ok (.iload_n 2, 1) := by decide +kernel
theorem dX6_grown_109 : decode cX6_grown 109 = .ok (.iload 5, 2) := by decide +kernel
theorem dX6_grown_111 : decode cX6_grown 111 = .ok (.invokevirtual 253, 3) := by decide +kernel
theorem dX6_grown_114 : decode cX6_grown 114 = .ok (.invokevirtual 75, 3) := by decide +kernel
theorem dX6_grown_117 : decode cX6_grown 117 = .ok (.ireturn, 1) := by decide +kernel
theorem dX6_lain_0 : decode cX6_lain 0 = .ok (.aload_n 0, 1) := by decide +kernel
theorem dX6_lain_1 : decode cX6_lain 1 = .ok (.getfield 26, 3) := by decide +kernel
theorem dX6_lain_4 : decode cX6_lain 4 = .ok (.invokevirtual 140, 3) := by decide +kernel
theorem dX6_lain_7 : decode cX6_lain 7 = .ok (.ifCond .eq 6, 3) := by decide +kernel
theorem dX6_lain_10 : decode cX6_lain 10 = .ok (.ldc 136, 2) := by decide +kernel
theorem dX6_lain_12 : decode cX6_lain 12 = .ok (.ireturn, 1) := by decide +kernel
theorem dX6_lain_13 : decode cX6_lain 13 = .ok (.iload_n 1, 1) := by decide +kernel
theorem dX6_lain_14 : decode cX6_lain 14 = .ok (.invokestatic 183, 3) := by decide +kernel
theorem dX6_lain_17 : decode cX6_lain 17 = .ok (.ifCond .eq 13, 3) := by decide +kernel
theorem dX6_lain_20 : decode cX6_lain 20 = .ok (.iload_n 2, 1) := by decide +kernel
theorem dX6_lain_21 : decode cX6_lain 21 = .ok (.iconst 0, 1) := by decide +kernel
theorem dX6_lain_22 : decode cX6_lain 22 = .ok (.bipush 7, 2) := by decide +kernel
theorem dX6_lain_24 : decode cX6_lain 24 = .ok (.invokestatic 62, 3) := by decide +kernel
theorem dX6_lain_27 : decode cX6_lain 27 = .ok (.ifCond .ne 6, 3) := by decide +kernel
theorem dX6_lain_30 : decode cX6_lain 30 = .ok (.ldc 66, 2) := by decide +kernel
theorem dX6_lain_32 : decode cX6_lain 32 = .ok (.ireturn, 1) := by decide +kernel
theorem dX6_lain_33 : decode cX6_lain 33 = .ok (.aload_n 0, 1) := by decide +kernel
theorem dX6_lain_34 : decode cX6_lain 34 = .ok (.getfield 10, 3) := by decide +kernel
theorem dX6_lain_37 : decode cX6_lain 37 = .ok (.iload_n 2, 1) := by decide +kernel
theorem dX6_lain_38 : decode cX6_lain 38 = .ok (.invokevirtual 78, 3) := by decide +kernel
theorem dX6_lain_41 : decode cX6_lain 41 = .ok (.ifCond .eq 9, 3) := by decide +kernel
theorem dX6_lain_44 : decode cX6_lain 44 = .ok (.aload_n 0, 1) := by decide +kernel
theorem dX6_lain_45 : decode cX6_lain 45 = .ok (.iconst 1, 1) := by decide +kernel
theorem dX6_lain_46 : decode cX6_lain 46 = .ok (.invokevirtual 67, 3) := by decide +kernel
theorem dX6_lain_49 : decode cX6_lain 49 = .ok (.ireturn, 1) := by decide +kernel
theorem dX6_lain_50 : decode cX6_lain 50 = .ok (.aload_n 0, 1) := by decide +kernel
theorem dX6_lain_51 : decode cX6_lain 51 = .ok (.getfield 10, 3) := by decide +kernel
theorem dX6_lain_54 : decode cX6_lain 54 = .ok (.iload_n 2, 1) := by decide +kernel
theorem dX6_lain_55 : decode cX6_lain 55 = .ok (.iload_n 3, 1) := by decide +kernel
theorem dX6_lain_56 : decode cX6_lain 56 = .ok (.aload_n 0, 1) := by decide +kernel
theorem dX6_lain_57 : decode cX6_lain 57 = .ok (.getfield 26, 3) := by decide +kernel
theorem dX6_lain_60 : decode cX6_lain 60 = .ok (.getfield 129, 3) := by decide +kernel
theorem dX6_lain_63 : decode cX6_lain 63 = .ok (.invokevirtual 82, 3) := by decide +kernel
theorem dX6_lain_66 : decode cX6_lain 66 = .ok (.ifCond .ne 9, 3) := by decide +kernel
theorem dX6_lain_69 : decode cX6_lain 69 = .ok (.aload_n 0, 1) := by decide +kernel
theorem dX6_lain_70 : decode cX6_lain 70 = .ok (.iconst 2, 1) := by decide +kernel
theorem dX6_lain_71 : decode cX6_lain 71 = .ok (.invokevirtual 67, 3) := by decide +kernel
theorem dX6_lain_74 : decode cX6_lain 74 = .ok (.ireturn, 1) := by decide +kernel
theorem dX6_lain_75 : decode cX6_lain 75 = .ok (.aload_n 0, 1) := by decide +kernel
theorem dX6_lain_76 : decode cX6_lain 76 = .ok (.getfield 44, 3) := by decide +kernel
theorem dX6_lain_79 : decode cX6_lain 79 = .ok (.aload_n 0, 1) := by decide +kernel
theorem dX6_lain_80 : decode cX6_lain 80 = .ok (.getfield 10, 3) := by decide +kernel
theorem dX6_lain_83 : decode cX6_lain 83 = .ok (.iload_n 2, 1) := by decide +kernel
theorem dX6_lain_84 : decode cX6_lain 84 = .ok (.iload_n 3, 1) := by decide +kernel
theorem dX6_lain_85 : decode cX6_lain 85 = .ok (.aload_n 0, 1) := by decide +kernel
theorem dX6_lain_86 : decode cX6_lain 86 = .ok (.getfield 26, 3) := by decide +kernel
theorem dX6_lain_89 : decode cX6_lain 89 = .ok (.getfield 129, 3) := by decide +kernel
theorem dX6_lain_92 : decode cX6_lain 92 = .ok (.invokevirtual 249, 3) := by decide +kernel
theorem dX6_lain_95 : decode cX6_lain 95 = .ok (.aload_n 0, 1) := by decide +kernel
theorem dX6_lain_96 : decode cX6_lain 96 = .ok (.aload_n 0, 1) := by decide +kernel
theorem dX6_lain_97 : decode cX6_lain 97 = .ok (.getfield 44, 3) := by decide +kernel
theorem dX6_lain_100 : decode cX6_lain 100 = .ok (.aload_n 0, 1) := by decide +kernel
theorem dX6_lain_101 : decode cX6_lain 101 = .ok (.getfield 26, 3) := by decide +kernel
theorem dX6_lain_104 : decode cX6_lain 104 = .ok (.iload_n 1, 1) := by decide +kernel
theorem dX6_lain_105 : decode cX6_lain 105 = .ok (.invokevirtual 257, 3) := by decide +kernel
theorem dX6_lain_108 : decode cX6_lain 108 = .ok (.invokevirtual 75, 3) := by decide +kernel
theorem dX6_lain_111 : decode cX6_lain 111 = .ok (.ireturn, 1) := by decide +kernel
theorem dX6_flood_0 : decode cX6_flood 0 = .ok (.aload_n 0, 1) := by decide +kernel
theorem dX6_flood_1 : decode cX6_flood 1 = .ok (.getfield 26, 3) := by decide +kernel
theorem dX6_flood_4 : decode cX6_flood 4 = .ok (.invokevirtual 140, 3) := by decide +kernel
theorem dX6_flood_7 : decode cX6_flood 7 = .ok (.ifCond .eq 7, 3) := by decide +kernel
theorem dX6_flood_10 : decode cX6_flood 10 = .ok (.ldc2_w 260, 3) := by decide +kernel
theorem dX6_flood_13 : decode cX6_flood 13 = .ok (.lreturn, 1) := by decide +kernel
theorem dX6_flood_14 : decode cX6_flood 14 = .ok (.iload_n 1, 1) := by decide +kernel
theorem dX6_flood_15 : decode cX6_flood 15 = .ok (.invokestatic 183, 3) := by decide +kernel
theorem dX6_flood_18 : decode cX6_flood 18 = .ok (.ifCond .eq 22, 3) := by decide +kernel
theorem dX6_flood_21 : decode cX6_flood 21 = .ok (.iload_n 2, 1) := by decide +kernel
theorem dX6_flood_22 : decode cX6_flood 22 = .ok (.iconst 0, 1) := by decide +kernel
theorem dX6_flood_23 : decode cX6_flood 23 = .ok (.bipush 10, 2) := by decide +kernel
theorem dX6_flood_25 : decode cX6_flood 25 = .ok (.invokestatic 62, 3) := by decide +kernel
theorem dX6_flood_28 : decode cX6_flood 28 = .ok (.ifCond .eq 12, 3) := by decide +kernel
theorem dX6_flood_31 : decode cX6_flood 31 = .ok (.iload_n 3, 1) := by decide +kernel
theorem dX6_flood_32 : decode cX6_flood 32 = .ok (.iconst 0, 1) := by decide +kernel
theorem dX6_flood_33 : decode cX6_flood 33 = .ok (.iconst 1, 1) := by decide +kernel
theorem dX6_flood_34 : decode cX6_flood 34 = .ok (.invokestatic 62, 3) := by decide +kernel
theorem dX6_flood_37 : decode cX6_flood 37 = .ok (.ifCond .ne 7, 3) := by decide +kernel
theorem dX6_flood_40 : decode cX6_flood 40 = .ok (.ldc2_w 262, 3) := by decide +kernel
theorem dX6_flood_43 : decode cX6_flood 43 = .ok (.lreturn, 1) := by decide +kernel
theorem dX6_flood_44 : decode cX6_flood 44 = .ok (.aload_n 0, 1) := by decide +kernel
theorem dX6_flood_45 : decode cX6_flood 45 = .ok (.getfield 44, 3) := by decide +kernel
theorem dX6_flood_48 : decode cX6_flood 48 = .ok (.aload_n 0, 1) := by decide +kernel
theorem dX6_flood_49 : decode cX6_flood 49 = .ok (.getfield 26, 3) := by decide +kernel
theorem dX6_flood_52 : decode cX6_flood 52 = .ok (.iload_n 1, 1) := by decide +kernel
theorem dX6_flood_53 : decode cX6_flood 53 = .ok (.iload_n 2, 1) := by decide +kernel
theorem dX6_flood_54 : decode cX6_flood 54 = .ok (.invokevirtual 264, 3) := by decide +kernel
theorem dX6_flood_57 : decode cX6_flood 57 = .ok (.lstore 4, 2) := by decide +kernel
theorem dX6_flood_59 : decode cX6_flood 59 = .ok (.aload_n 0, 1) := by decide +kernel
theorem dX6_flood_60 : decode cX6_flood 60 = .ok (.getfield 44, 3) := by decide +kernel
theorem dX6_flood_63 : decode cX6_flood 63 = .ok (.aload_n 0, 1) := by decide +kernel
theorem dX6_flood_64 : decode cX6_flood 64 = .ok (.getfield 26, 3) := by decide +kernel
theorem dX6_flood_67 : decode cX6_flood 67 = .ok (.invokevirtual 268, 3) := by decide +kernel
theorem dX6_flood_70 : decode cX6_flood 70 = .ok (.lstore 6, 2) := by decide +kernel
theorem dX6_flood_72 : decode cX6_flood 72 = .ok (.lload 4, 2) := by decide +kernel
theorem dX6_flood_74 : decode cX6_flood 74 = .ok (.lload 6, 2) := by decide +kernel
theorem dX6_flood_76 : decode cX6_flood 76 = .ok (.invokestatic 272, 3) := by decide +kernel
theorem dX6_flood_79 : decode cX6_flood 79 = .ok (.lstore 8, 2) := by decide +kernel
theorem dX6_flood_81 : decode cX6_flood 81 = .ok (.lload 8, 2) := by decide +kernel
theorem dX6_flood_83 : decode cX6_flood 83 = .ok (.lconst 1, 1) := by decide +kernel
theorem dX6_flood_84 : decode cX6_flood 84 = .ok (.lcmp, 1) := by decide +kernel
theorem dX6_flood_85 : decode cX6_flood 85 = .ok (.ifCond .ge 6, 3) := by decide +kernel
theorem dX6_flood_88 : decode cX6_flood 88 = .ok (.iload_n 3, 1) := by decide +kernel
theorem dX6_flood_89 : decode cX6_flood 89 = .ok (.i2l, 1) := by decide +kernel
theorem dX6_flood_90 : decode cX6_flood 90 = .ok (.lreturn, 1) := by decide +kernel
theorem dX6_flood_91 : decode cX6_flood 91 = .ok (.iload_n 3, 1) := by decide +kernel
theorem dX6_flood_92 : decode cX6_flood 92 = .ok (.ifCond .ne 8, 3) := by decide +kernel
theorem dX6_flood_95 : decode cX6_flood 95 = .ok (.lload 4, 2) := by decide +kernel
theorem dX6_flood_97 : decode cX6_flood 97 = .ok (.goto 5, 3) := by decide +kernel
theorem dX6_flood_100 : decode cX6_flood 100 = .ok (.lload 6, 2) := by decide +kernel
theorem dX6_flood_102 : decode cX6_flood 102 = .ok (.lload 8, 2) := by decide +kernel
theorem dX6_flood_104 : decode cX6_flood 104 = .ok (.ldiv, 1) := by decide +kernel
theorem dX6_flood_105 : decode cX6_flood 105 = .ok (.lreturn, 1) := by decide +kernel
theorem dX6_drawn_0 : decode cX6_drawn 0 = .ok (.aload_n 0, 1) := by decide +kernel
theorem dX6_drawn_1 : decode cX6_drawn 1 = .ok (.getfield 26, 3) := by decide +kernel
theorem dX6_drawn_4 : decode cX6_drawn 4 = .ok (.invokevirtual 140, 3) := by decide +kernel
theorem dX6_drawn_7 : decode cX6_drawn 7 = .ok (.ifCond .eq 6, 3) := by decide +kernel
theorem dX6_drawn_10 : decode cX6_drawn 10 = .ok (.ldc 136, 2) := by decide +kernel
theorem dX6_drawn_12 : decode cX6_drawn 12 = .ok (.ireturn, 1) := by decide +kernel
theorem dX6_drawn_13 : decode cX6_drawn 13 = .ok (.iload_n 1, 1) := by decide +kernel
theorem dX6_drawn_14 : decode cX6_drawn 14 = .ok (.iconst 0, 1) := by decide +kernel
theorem dX6_drawn_15 : decode cX6_drawn 15 = .ok (.bipush 60, 2) := by decide +kernel
theorem dX6_drawn_17 : decode cX6_drawn 17 = .ok (.invokestatic 62, 3) := by decide +kernel
theorem dX6_drawn_20 : decode cX6_drawn 20 = .ok (.ifCond .eq 23, 3) := by decide +kernel
theorem dX6_drawn_23 : decode cX6_drawn 23 = .ok (.iload_n 2, 1) := by decide +kernel
theorem dX6_drawn_24 : decode cX6_drawn 24 = .ok (.iconst 1, 1) := by decide +kernel
theorem dX6_drawn_25 : decode cX6_drawn 25 = .ok (.ldc_w 276, 3) := by decide +kernel
theorem dX6_drawn_28 : decode cX6_drawn 28 = .ok (.invokestatic 62, 3) := by decide +kernel
theorem dX6_drawn_31 : decode cX6_drawn 31 = .ok (.ifCond .eq 12, 3) := by decide +kernel
theorem dX6_drawn_34 : decode cX6_drawn 34 = .ok (.iload_n 3, 1) := by decide +kernel
theorem dX6_drawn_35 : decode cX6_drawn 35 = .ok (.iconst 0, 1) := by decide +kernel
theorem dX6_drawn_36 : decode cX6_drawn 36 = .ok (.iconst 2, 1) := by decide +kernel
theorem dX6_drawn_37 : decode cX6_drawn 37 = .ok (.invokestatic 62, 3) := by decide +kernel
theorem dX6_drawn_40 : decode cX6_drawn 40 = .ok (.ifCond .ne 6, 3) := by decide +kernel
theorem dX6_drawn_43 : decode cX6_drawn 43 = .ok (.ldc 66, 2) := by decide +kernel
theorem dX6_drawn_45 : decode cX6_drawn 45 = .ok (.ireturn, 1) := by decide +kernel
theorem dX6_drawn_46 : decode cX6_drawn 46 = .ok (.aload_n 0, 1) := by decide +kernel
theorem dX6_drawn_47 : decode cX6_drawn 47 = .ok (.getfield 44, 3) := by decide +kernel
theorem dX6_drawn_50 : decode cX6_drawn 50 = .ok (.aload_n 0, 1) := by decide +kernel
theorem dX6_drawn_51 : decode cX6_drawn 51 = .ok (.getfield 26, 3) := by decide +kernel
theorem dX6_drawn_54 : decode cX6_drawn 54 = .ok (.iload_n 1, 1) := by decide +kernel
theorem dX6_drawn_55 : decode cX6_drawn 55 = .ok (.iload_n 2, 1) := by decide +kernel
theorem dX6_drawn_56 : decode cX6_drawn 56 = .ok (.invokevirtual 277, 3) := by decide +kernel
theorem dX6_drawn_59 : decode cX6_drawn 59 = .ok (.iload_n 3, 1) := by decide +kernel
theorem dX6_drawn_60 : decode cX6_drawn 60 = .ok (.invokevirtual 198, 3) := by decide +kernel
theorem dX6_drawn_63 : decode cX6_drawn 63 = .ok (.ireturn, 1) := by decide +kernel
theorem dX6_image_0 : decode cX6_image 0 = .ok (.iload_n 1, 1) := by decide +kernel
theorem dX6_image_1 : decode cX6_image 1 = .ok (.iconst 0, 1) := by decide +kernel
theorem dX6_image_2 : decode cX6_image 2 = .ok (.iconst 1, 1) := by decide +kernel
theorem dX6_image_3 : decode cX6_image 3 = .ok (.invokestatic 62, 3) := by decide +kernel
theorem dX6_image_6 : decode cX6_image 6 = .ok (.ifCond .ne 6, 3) := by decide +kernel
theorem dX6_image_9 : decode cX6_image 9 = .ok (.ldc 66, 2) := by decide +kernel
theorem dX6_image_11 : decode cX6_image 11 = .ok (.ireturn, 1) := by decide +kernel
theorem dX6_image_12 : decode cX6_image 12 = .ok (.aload_n 0, 1) := by decide +kernel
theorem dX6_image_13 : decode cX6_image 13 = .ok (.getfield 26, 3) := by decide +kernel
theorem dX6_image_16 : decode cX6_image 16 = .ok (.invokevirtual 140, 3) := by decide +kernel
theorem dX6_image_19 : decode cX6_image 19 = .ok (.ifCond .eq 6, 3) := by decide +kernel
theorem dX6_image_22 : decode cX6_image 22 = .ok (.ldc 136, 2) := by decide +kernel
theorem dX6_image_24 : decode cX6_image 24 = .ok (.ireturn, 1) := by decide +kernel
theorem dX6_image_25 : decode cX6_image 25 = .ok (.aload_n 0, 1) := by decide +kernel
theorem dX6_image_26 : decode cX6_image 26 = .ok (.getfield 37, 3) := by decide +kernel
theorem dX6_image_29 : decode cX6_image 29 = .ok (.iload_n 1, 1) := by decide +kernel
theorem dX6_image_30 : decode cX6_image 30 = .ok (.aaload, 1) := by decide +kernel
theorem dX6_image_31 : decode cX6_image 31 = .ok (.astore_n 2, 1) := by decide +kernel
theorem dX6_image_32 : decode cX6_image 32 = .ok (.aload_n 2, 1) := by decide +kernel
theorem dX6_image_33 : decode cX6_image 33 = .ok (.ifnonnull 18, 3) := by decide +kernel
theorem dX6_image_36 : decode cX6_image 36 = .ok (.new 23, 3) := by decide +kernel
theorem dX6_image_39 : decode cX6_image 39 = .ok (.dup, 1) := by decide +kernel
theorem dX6_image_40 : decode cX6_image 40 = .ok (.invokespecial 25, 3) := by decide +kernel
theorem dX6_image_43 : decode cX6_image 43 = .ok (.astore_n 2, 1) := by decide +kernel
theorem dX6_image_44 : decode cX6_image 44 = .ok (.aload_n 0, 1) := by decide +kernel
theorem dX6_image_45 : decode cX6_image 45 = .ok (.getfield 37, 3) := by decide +kernel
theorem dX6_image_48 : decode cX6_image 48 = .ok (.iload_n 1, 1) := by decide +kernel
theorem dX6_image_49 : decode cX6_image 49 = .ok (.aload_n 2, 1) := by decide +kernel
theorem dX6_image_50 : decode cX6_image 50 = .ok (.aastore, 1) := by decide +kernel
theorem dX6_image_51 : decode cX6_image 51 = .ok (.aload_n 2, 1) := by decide +kernel
theorem dX6_image_52 : decode cX6_image 52 = .ok (.aload_n 0, 1) := by decide +kernel
theorem dX6_image_53 : decode cX6_image 53 = .ok (.getfield 26, 3) := by decide +kernel
theorem dX6_image_56 : decode cX6_image 56 = .ok (.invokevirtual 122, 3) := by decide +kernel
theorem dX6_image_59 : decode cX6_image 59 = .ok (.iconst 1, 1) := by decide +kernel
theorem dX6_image_60 : decode cX6_image 60 = .ok (.ireturn, 1) := by decide +kernel
theorem dX6_restore_0 : decode cX6_restore 0 = .ok (.iload_n 1, 1) := by decide +kernel
theorem dX6_restore_1 : decode cX6_restore 1 = .ok (.iconst 0, 1) := by decide +kernel
theorem dX6_restore_2 : decode cX6_restore 2 = .ok (.iconst 1, 1) := by decide +kernel
theorem dX6_restore_3 : decode cX6_restore 3 = .ok (.invokestatic 62, 3) := by decide +kernel
theorem dX6_restore_6 : decode cX6_restore 6 = .ok (.ifCond .ne 6, 3) := by decide +kernel
theorem dX6_restore_9 : decode cX6_restore 9 = .ok (.ldc 66, 2) := by decide +kernel
theorem dX6_restore_11 : decode cX6_restore 11 = .ok (.ireturn, 1) := by decide +kernel
theorem dX6_restore_12 : decode cX6_restore 12 = .ok (.aload_n 0, 1) := by decide +kernel
theorem dX6_restore_13 : decode cX6_restore 13 = .ok (.getfield 37, 3) := by decide +kernel
theorem dX6_restore_16 : decode cX6_restore 16 = .ok (.iload_n 1, 1) := by decide +kernel
theorem dX6_restore_17 : decode cX6_restore 17 = .ok (.aaload, 1) := by decide +kernel
theorem dX6_restore_18 : decode cX6_restore 18 = .ok (.astore_n 2, 1) := by decide +kernel
theorem dX6_restore_19 : decode cX6_restore 19 = .ok (.aload_n 2, 1) := by decide +kernel
theorem dX6_restore_20 : decode cX6_restore 20 = .ok (.ifnonnull 6, 3) := by decide +kernel
theorem dX6_restore_23 : decode cX6_restore 23 = .ok (.ldc 136, 2) := by decide +kernel
theorem dX6_restore_25 : decode cX6_restore 25 = .ok (.ireturn, 1) := by decide +kernel
theorem dX6_restore_26 : decode cX6_restore 26 = .ok (.aload_n 0, 1) := by decide +kernel
theorem dX6_restore_27 : decode cX6_restore 27 = .ok (.getfield 26, 3) := by decide +kernel
theorem dX6_restore_30 : decode cX6_restore 30 = .ok (.aload_n 2, 1) := by decide +kernel
theorem dX6_restore_31 : decode cX6_restore 31 = .ok (.invokevirtual 122, 3) := by decide +kernel
theorem dX6_restore_34 : decode cX6_restore 34 = .ok (.aload_n 0, 1) := by decide +kernel
theorem dX6_restore_35 : decode cX6_restore 35 = .ok (.getfield 33, 3) := by decide +kernel
theorem dX6_restore_38 : decode cX6_restore 38 = .ok (.invokevirtual 126, 3) := by decide +kernel
theorem dX6_restore_41 : decode cX6_restore 41 = .ok (.iconst 1, 1) := by decide +kernel
theorem dX6_restore_42 : decode cX6_restore 42 = .ok (.ireturn, 1) := by decide +kernel
theorem dX6_kind_0 : decode cX6_kind 0 = .ok (.aload_n 0, 1) := by decide +kernel
theorem dX6_kind_1 : decode cX6_kind 1 = .ok (.getfield 26, 3) := by decide +kernel
theorem dX6_kind_4 : decode cX6_kind 4 = .ok (.iload_n 1, 1) := by decide +kernel
theorem dX6_kind_5 : decode cX6_kind 5 = .ok (.invokevirtual 156, 3) := by decide +kernel
theorem dX6_kind_8 : decode cX6_kind 8 = .ok (.ifCond .ne 6, 3) := by decide +kernel
theorem dX6_kind_11 : decode cX6_kind 11 = .ok (.ldc 66, 2) := by decide +kernel
theorem dX6_kind_13 : decode cX6_kind 13 = .ok (.ireturn, 1) := by decide +kernel
theorem dX6_kind_14 : decode cX6_kind 14 = .ok (.aload_n 0, 1) := by decide +kernel
theorem dX6_kind_15 : decode cX6_kind 15 = .ok (.getfield 26, 3) := by decide +kernel
theorem dX6_kind_18 : decode cX6_kind 18 = .ok (.iload_n 1, 1) := by decide +kernel
theorem dX6_kind_19 : decode cX6_kind 19 = .ok (.invokevirtual 281, 3) := by decide +kernel
theorem dX6_kind_22 : decode cX6_kind 22 = .ok (.ireturn, 1) := by decide +kernel
theorem dX6_as_0 : decode cX6_as 0 = .ok (.aload_n 0, 1) := by decide +kernel
theorem dX6_as_1 : decode cX6_as 1 = .ok (.getfield 26, 3) := by decide +kernel
theorem dX6_as_4 : decode cX6_as 4 = .ok (.iload_n 1, 1) := by decide +kernel
theorem dX6_as_5 : decode cX6_as 5 = .ok (.invokevirtual 156, 3) := by decide +kernel
theorem dX6_as_8 : decode cX6_as 8 = .ok (.ifCond .eq 12, 3) := by decide +kernel
theorem dX6_as_11 : decode cX6_as 11 = .ok (.iload_n 2, 1) := by decide +kernel
theorem dX6_as_12 : decode cX6_as 12 = .ok (.iconst 0, 1) := by decide +kernel
theorem dX6_as_13 : decode cX6_as 13 = .ok (.iconst 5, 1) := by decide +kernel
theorem dX6_as_14 : decode cX6_as 14 = .ok (.invokestatic 62, 3) := by decide +kernel
theorem dX6_as_17 : decode cX6_as 17 = .ok (.ifCond .ne 6, 3) := by decide +kernel
theorem dX6_as_20 : decode cX6_as 20 = .ok (.ldc 66, 2) := by decide +kernel
theorem dX6_as_22 : decode cX6_as 22 = .ok (.ireturn, 1) := by decide +kernel
theorem dX6_as_23 : decode cX6_as 23 = .ok (.aload_n 0, 1) := by decide +kernel
theorem dX6_as_24 : decode cX6_as 24 = .ok (.getfield 26, 3) := by decide +kernel
theorem dX6_as_27 : decode cX6_as 27 = .ok (.iload_n 1, 1) := by decide +kernel
theorem dX6_as_28 : decode cX6_as 28 = .ok (.invokevirtual 281, 3) := by decide +kernel
theorem dX6_as_31 : decode cX6_as 31 = .ok (.iload_n 2, 1) := by decide +kernel
theorem dX6_as_32 : decode cX6_as 32 = .ok (.invokestatic 284, 3) := by decide +kernel
theorem dX6_as_35 : decode cX6_as 35 = .ok (.ifCond .ne 9, 3) := by decide +kernel
theorem dX6_as_38 : decode cX6_as 38 = .ok (.aload_n 0, 1) := by decide +kernel
theorem dX6_as_39 : decode cX6_as 39 = .ok (.iconst 3, 1) := by decide +kernel
theorem dX6_as_40 : decode cX6_as 40 = .ok (.invokevirtual 67, 3) := by decide +kernel
theorem dX6_as_43 : decode cX6_as 43 = .ok (.ireturn, 1) := by decide +kernel
theorem dX6_as_44 : decode cX6_as 44 = .ok (.aload_n 0, 1) := by decide +kernel
theorem dX6_as_45 : decode cX6_as 45 = .ok (.iload_n 1, 1) := by decide +kernel
theorem dX6_as_46 : decode cX6_as 46 = .ok (.invokevirtual 75, 3) := by decide +kernel
theorem dX6_as_49 : decode cX6_as 49 = .ok (.ireturn, 1) := by decide +kernel
theorem dX6_ask_0 : decode cX6_ask 0 = .ok (.aload_n 0, 1) := by decide +kernel
theorem dX6_ask_1 : decode cX6_ask 1 = .ok (.getfield 26, 3) := by decide +kernel
theorem dX6_ask_4 : decode cX6_ask 4 = .ok (.iload_n 1, 1) := by decide +kernel
theorem dX6_ask_5 : decode cX6_ask 5 = .ok (.invokevirtual 156, 3) := by decide +kernel
theorem dX6_ask_8 : decode cX6_ask 8 = .ok (.ifCond .eq 12, 3) := by decide +kernel
theorem dX6_ask_11 : decode cX6_ask 11 = .ok (.iload_n 2, 1) := by decide +kernel
theorem dX6_ask_12 : decode cX6_ask 12 = .ok (.iconst 0, 1) := by decide +kernel
theorem dX6_ask_13 : decode cX6_ask 13 = .ok (.iconst 1, 1) := by decide +kernel
theorem dX6_ask_14 : decode cX6_ask 14 = .ok (.invokestatic 62, 3) := by decide +kernel
theorem dX6_ask_17 : decode cX6_ask 17 = .ok (.ifCond .ne 6, 3) := by decide +kernel
theorem dX6_ask_20 : decode cX6_ask 20 = .ok (.ldc 66, 2) := by decide +kernel
theorem dX6_ask_22 : decode cX6_ask 22 = .ok (.ireturn, 1) := by decide +kernel
theorem dX6_ask_23 : decode cX6_ask 23 = .ok (.aload_n 0, 1) := by decide +kernel
theorem dX6_ask_24 : decode cX6_ask 24 = .ok (.getfield 51, 3) := by decide +kernel
theorem dX6_ask_27 : decode cX6_ask 27 = .ok (.aload_n 0, 1) := by decide +kernel
theorem dX6_ask_28 : decode cX6_ask 28 = .ok (.getfield 26, 3) := by decide +kernel
theorem dX6_ask_31 : decode cX6_ask 31 = .ok (.iload_n 1, 1) := by decide +kernel
theorem dX6_ask_32 : decode cX6_ask 32 = .ok (.iload_n 2, 1) := by decide +kernel
theorem dX6_ask_33 : decode cX6_ask 33 = .ok (.invokevirtual 288, 3) := by decide +kernel
theorem dX6_ask_36 : decode cX6_ask 36 = .ok (.ireturn, 1) := by decide +kernel
theorem dX6_trace_0 : decode cX6_trace 0 = .ok (.aload_n 0, 1) := by decide +kernel
theorem dX6_trace_1 : decode cX6_trace 1 = .ok (.getfield 51, 3) := by decide +kernel
theorem dX6_trace_4 : decode cX6_trace 4 = .ok (.iload_n 1, 1) := by decide +kernel
theorem dX6_trace_5 : decode cX6_trace 5 = .ok (.invokevirtual 291, 3) := by decide +kernel
theorem dX6_trace_8 : decode cX6_trace 8 = .ok (.ireturn, 1) := by decide +kernel
theorem dX6_count_0 : decode cX6_count 0 = .ok (.iload_n 1, 1) := by decide +kernel
theorem dX6_count_1 : decode cX6_count 1 = .ok (.tableswitch 111 0 7 #[47, 55, 63, 71, 79, 87, 95, 103], 47) := by decide +kernel
theorem dX6_count_48 : decode cX6_count 48 = .ok (.aload_n 0, 1) := by decide +kernel
theorem dX6_count_49 : decode cX6_count 49 = .ok (.getfield 10, 3) := by decide +kernel
theorem dX6_count_52 : decode cX6_count 52 = .ok (.invokevirtual 294, 3) := by decide +kernel
theorem dX6_count_55 : decode cX6_count 55 = .ok (.ireturn, 1) := by decide +kernel
theorem dX6_count_56 : decode cX6_count 56 = .ok (.aload_n 0, 1) := by decide +kernel
theorem dX6_count_57 : decode cX6_count 57 = .ok (.getfield 26, 3) := by decide +kernel
theorem dX6_count_60 : decode cX6_count 60 = .ok (.getfield 129, 3) := by decide +kernel
theorem dX6_count_63 : decode cX6_count 63 = .ok (.ireturn, 1) := by decide +kernel
theorem dX6_count_64 : decode cX6_count 64 = .ok (.aload_n 0, 1) := by decide +kernel
theorem dX6_count_65 : decode cX6_count 65 = .ok (.getfield 26, 3) := by decide +kernel
theorem dX6_count_68 : decode cX6_count 68 = .ok (.getfield 144, 3) := by decide +kernel
theorem dX6_count_71 : decode cX6_count 71 = .ok (.ireturn, 1) := by decide +kernel
theorem dX6_count_72 : decode cX6_count 72 = .ok (.aload_n 0, 1) := by decide +kernel
theorem dX6_count_73 : decode cX6_count 73 = .ok (.getfield 26, 3) := by decide +kernel
theorem dX6_count_76 : decode cX6_count 76 = .ok (.invokevirtual 153, 3) := by decide +kernel
theorem dX6_count_79 : decode cX6_count 79 = .ok (.ireturn, 1) := by decide +kernel
theorem dX6_count_80 : decode cX6_count 80 = .ok (.aload_n 0, 1) := by decide +kernel
theorem dX6_count_81 : decode cX6_count 81 = .ok (.getfield 26, 3) := by decide +kernel
theorem dX6_count_84 : decode cX6_count 84 = .ok (.invokevirtual 297, 3) := by decide +kernel
theorem dX6_count_87 : decode cX6_count 87 = .ok (.ireturn, 1) := by decide +kernel
theorem dX6_count_88 : decode cX6_count 88 = .ok (.aload_n 0, 1) := by decide +kernel
theorem dX6_count_89 : decode cX6_count 89 = .ok (.getfield 26, 3) := by decide +kernel
theorem dX6_count_92 : decode cX6_count 92 = .ok (.getfield 180, 3) := by decide +kernel
theorem dX6_count_95 : decode cX6_count 95 = .ok (.ireturn, 1) := by decide +kernel
theorem dX6_count_96 : decode cX6_count 96 = .ok (.aload_n 0, 1) := by decide +kernel
theorem dX6_count_97 : decode cX6_count 97 = .ok (.getfield 33, 3) := by decide +kernel
theorem dX6_count_100 : decode cX6_count 100 = .ok (.invokevirtual 137, 3) := by decide +kernel
theorem dX6_count_103 : decode cX6_count 103 = .ok (.ireturn, 1) := by decide +kernel
theorem dX6_count_104 : decode cX6_count 104 = .ok (.aload_n 0, 1) := by decide +kernel
theorem dX6_count_105 : decode cX6_count 105 = .ok (.getfield 19, 3) := by decide +kernel
theorem dX6_count_108 : decode cX6_count 108 = .ok (.invokevirtual 99, 3) := by decide +kernel
theorem dX6_count_111 : decode cX6_count 111 = .ok (.ireturn, 1) := by decide +kernel
theorem dX6_count_112 : decode cX6_count 112 = .ok (.ldc 66, 2) := by decide +kernel
theorem dX6_count_114 : decode cX6_count 114 = .ok (.ireturn, 1) := by decide +kernel
theorem dX6_status_0 : decode cX6_status 0 = .ok (.aload_n 0, 1) := by decide +kernel
theorem dX6_status_1 : decode cX6_status 1 = .ok (.getfield 59, 3) := by decide +kernel
theorem dX6_status_4 : decode cX6_status 4 = .ok (.ireturn, 1) := by decide +kernel
theorem dX6_found_0 : decode cX6_found 0 = .ok (.aload_n 0, 1) := by decide +kernel
theorem dX6_found_1 : decode cX6_found 1 = .ok (.iload_n 1, 1) := by decide +kernel
theorem dX6_found_2 : decode cX6_found 2 = .ok (.putfield 59, 3) := by decide +kernel
theorem dX6_found_5 : decode cX6_found 5 = .ok (.ldc_w 300, 3) := by decide +kernel
theorem dX6_found_8 : decode cX6_found 8 = .ok (.iload_n 1, 1) := by decide +kernel
theorem dX6_found_9 : decode cX6_found 9 = .ok (.isub, 1) := by decide +kernel
theorem dX6_found_10 : decode cX6_found 10 = .ok (.ireturn, 1) := by decide +kernel
theorem dX6_unfound_0 : decode cX6_unfound 0 = .ok (.aload_n 0, 1) := by decide +kernel
theorem dX6_unfound_1 : decode cX6_unfound 1 = .ok (.iconst 0, 1) := by decide +kernel
theorem dX6_unfound_2 : decode cX6_unfound 2 = .ok (.putfield 59, 3) := by decide +kernel
theorem dX6_unfound_5 : decode cX6_unfound 5 = .ok (.iload_n 1, 1) := by decide +kernel
theorem dX6_unfound_6 : decode cX6_unfound 6 = .ok (.ireturn, 1) := by decide +kernel
theorem dX6_within_0 : decode cX6_within 0 = .ok (.iload_n 0, 1) := by decide +kernel
theorem dX6_within_1 : decode cX6_within 1 = .ok (.iload_n 1, 1) := by decide +kernel
theorem dX6_within_2 : decode cX6_within 2 = .ok (.if_icmp .lt 12, 3) := by decide +kernel
theorem dX6_within_5 : decode cX6_within 5 = .ok (.iload_n 0, 1) := by decide +kernel
theorem dX6_within_6 : decode cX6_within 6 = .ok (.iload_n 2, 1) := by decide +kernel
theorem dX6_within_7 : decode cX6_within 7 = .ok (.if_icmp .gt 7, 3) := by decide +kernel
theorem dX6_within_10 : decode cX6_within 10 = .ok (.iconst 1, 1) := by decide +kernel
theorem dX6_within_11 : decode cX6_within 11 = .ok (.goto 4, 3) := by decide +kernel
theorem dX6_within_14 : decode cX6_within 14 = .ok (.iconst 0, 1) := by decide +kernel
theorem dX6_within_15 : decode cX6_within 15 = .ok (.ireturn, 1) := by decide +kernel
theorem dX6_isOne_0 : decode cX6_isOne 0 = .ok (.iload_n 0, 1) := by decide +kernel
theorem dX6_isOne_1 : decode cX6_isOne 1 = .ok (.ifCond .eq 8, 3) := by decide +kernel
theorem dX6_isOne_4 : decode cX6_isOne 4 = .ok (.iload_n 0, 1) := by decide +kernel
theorem dX6_isOne_5 : decode cX6_isOne 5 = .ok (.iconst 1, 1) := by decide +kernel
theorem dX6_isOne_6 : decode cX6_isOne 6 = .ok (.if_icmp .ne 7, 3) := by decide +kernel
theorem dX6_isOne_9 : decode cX6_isOne 9 = .ok (.iconst 1, 1) := by decide +kernel
theorem dX6_isOne_10 : decode cX6_isOne 10 = .ok (.goto 4, 3) := by decide +kernel
theorem dX6_isOne_13 : decode cX6_isOne 13 = .ok (.iconst 0, 1) := by decide +kernel
theorem dX6_isOne_14 : decode cX6_isOne 14 = .ok (.ireturn, 1) := by decide +kernel
theorem dX6_commonDivisor_0 : decode cX6_commonDivisor 0 = .ok (.iconst 0, 1) := by decide +kernel
theorem dX6_commonDivisor_1 : decode cX6_commonDivisor 1 = .ok (.istore 4, 2) := by decide +kernel
theorem dX6_commonDivisor_3 : decode cX6_commonDivisor 3 = .ok (.iload 4, 2) := by decide +kernel
theorem dX6_commonDivisor_5 : decode cX6_commonDivisor 5 = .ok (.sipush 128, 3) := by decide +kernel
theorem dX6_commonDivisor_8 : decode cX6_commonDivisor 8 = .ok (.if_icmp .ge 25, 3) := by decide +kernel
theorem dX6_commonDivisor_11 : decode cX6_commonDivisor 11 = .ok (.lload_n 2, 1) := by decide +kernel
theorem dX6_commonDivisor_12 : decode cX6_commonDivisor 12 = .ok (.lconst 0, 1) := by decide +kernel
theorem dX6_commonDivisor_13 : decode cX6_commonDivisor 13 = .ok (.lcmp, 1) := by decide +kernel
theorem dX6_commonDivisor_14 : decode cX6_commonDivisor 14 = .ok (.ifCond .eq 19, 3) := by decide +kernel
theorem dX6_commonDivisor_17 : decode cX6_commonDivisor 17 = .ok (.lload_n 0, 1) := by decide +kernel
theorem dX6_commonDivisor_18 : decode cX6_commonDivisor 18 = .ok (.lload_n 2, 1) := by decide +kernel
theorem dX6_commonDivisor_19 : decode cX6_commonDivisor 19 = .ok (.lrem, 1) := by decide +kernel
theorem dX6_commonDivisor_20 : decode cX6_commonDivisor 20 = .ok (.lstore 5, 2) := by decide +kernel
theorem dX6_commonDivisor_22 : decode cX6_commonDivisor 22 = .ok (.lload_n 2, 1) := by decide +kernel
theorem dX6_commonDivisor_23 : decode cX6_commonDivisor 23 = .ok (.lstore_n 0, 1) := by decide +kernel
theorem dX6_commonDivisor_24 : decode cX6_commonDivisor 24 = .ok (.lload 5, 2) := by decide +kernel
theorem dX6_commonDivisor_26 : decode cX6_commonDivisor 26 = .ok (.lstore_n 2, 1) := by decide +kernel
theorem dX6_commonDivisor_27 : decode cX6_commonDivisor 27 = .ok (.iinc 4 1, 3) := by decide +kernel
theorem dX6_commonDivisor_30 : decode cX6_commonDivisor 30 = .ok (.goto (-27), 3) := by decide +kernel
theorem dX6_commonDivisor_33 : decode cX6_commonDivisor 33 = .ok (.lload_n 0, 1) := by decide +kernel
theorem dX6_commonDivisor_34 : decode cX6_commonDivisor 34 = .ok (.lreturn, 1) := by decide +kernel
theorem dJ6_bitCount_0f7a4_0 : decode cJ6_bitCount_0f7a4 0 = .ok (.iload_n 0, 1) := by decide +kernel
theorem dJ6_bitCount_0f7a4_1 : decode cJ6_bitCount_0f7a4 1 = .ok (.iload_n 0, 1) := by decide +kernel
theorem dJ6_bitCount_0f7a4_2 : decode cJ6_bitCount_0f7a4 2 = .ok (.iconst 1, 1) := by decide +kernel
theorem dJ6_bitCount_0f7a4_3 : decode cJ6_bitCount_0f7a4 3 = .ok (.iushr, 1) := by decide +kernel
theorem dJ6_bitCount_0f7a4_4 : decode cJ6_bitCount_0f7a4 4 = .ok (.ldc_w 265, 3) := by decide +kernel
theorem dJ6_bitCount_0f7a4_7 : decode cJ6_bitCount_0f7a4 7 = .ok (.iand, 1) := by decide +kernel
theorem dJ6_bitCount_0f7a4_8 : decode cJ6_bitCount_0f7a4 8 = .ok (.isub, 1) := by decide +kernel
theorem dJ6_bitCount_0f7a4_9 : decode cJ6_bitCount_0f7a4 9 = .ok (.istore_n 0, 1) := by decide +kernel
theorem dJ6_bitCount_0f7a4_10 : decode cJ6_bitCount_0f7a4 10 = .ok (.iload_n 0, 1) := by decide +kernel
theorem dJ6_bitCount_0f7a4_11 : decode cJ6_bitCount_0f7a4 11 = .ok (.ldc_w 266, 3) := by decide +kernel
theorem dJ6_bitCount_0f7a4_14 : decode cJ6_bitCount_0f7a4 14 = .ok (.iand, 1) := by decide +kernel
theorem dJ6_bitCount_0f7a4_15 : decode cJ6_bitCount_0f7a4 15 = .ok (.iload_n 0, 1) := by decide +kernel
theorem dJ6_bitCount_0f7a4_16 : decode cJ6_bitCount_0f7a4 16 = .ok (.iconst 2, 1) := by decide +kernel
theorem dJ6_bitCount_0f7a4_17 : decode cJ6_bitCount_0f7a4 17 = .ok (.iushr, 1) := by decide +kernel
theorem dJ6_bitCount_0f7a4_18 : decode cJ6_bitCount_0f7a4 18 = .ok (.ldc_w 266, 3) := by decide +kernel
theorem dJ6_bitCount_0f7a4_21 : decode cJ6_bitCount_0f7a4 21 = .ok (.iand, 1) := by decide +kernel
theorem dJ6_bitCount_0f7a4_22 : decode cJ6_bitCount_0f7a4 22 = .ok (.iadd, 1) := by decide +kernel
theorem dJ6_bitCount_0f7a4_23 : decode cJ6_bitCount_0f7a4 23 = .ok (.istore_n 0, 1) := by decide +kernel
theorem dJ6_bitCount_0f7a4_24 : decode cJ6_bitCount_0f7a4 24 = .ok (.iload_n 0, 1) := by decide +kernel
theorem dJ6_bitCount_0f7a4_25 : decode cJ6_bitCount_0f7a4 25 = .ok (.iload_n 0, 1) := by decide +kernel
theorem dJ6_bitCount_0f7a4_26 : decode cJ6_bitCount_0f7a4 26 = .ok (.iconst 4, 1) := by decide +kernel
theorem dJ6_bitCount_0f7a4_27 : decode cJ6_bitCount_0f7a4 27 = .ok (.iushr, 1) := by decide +kernel
theorem dJ6_bitCount_0f7a4_28 : decode cJ6_bitCount_0f7a4 28 = .ok (.iadd, 1) := by decide +kernel
theorem dJ6_bitCount_0f7a4_29 : decode cJ6_bitCount_0f7a4 29 = .ok (.ldc_w 267, 3) := by decide +kernel
theorem dJ6_bitCount_0f7a4_32 : decode cJ6_bitCount_0f7a4 32 = .ok (.iand, 1) := by decide +kernel
theorem dJ6_bitCount_0f7a4_33 : decode cJ6_bitCount_0f7a4 33 = .ok (.istore_n 0, 1) := by decide +kernel
theorem dJ6_bitCount_0f7a4_34 : decode cJ6_bitCount_0f7a4 34 = .ok (.iload_n 0, 1) := by decide +kernel
theorem dJ6_bitCount_0f7a4_35 : decode cJ6_bitCount_0f7a4 35 = .ok (.iload_n 0, 1) := by decide +kernel
theorem dJ6_bitCount_0f7a4_36 : decode cJ6_bitCount_0f7a4 36 = .ok (.bipush 8, 2) := by decide +kernel
theorem dJ6_bitCount_0f7a4_38 : decode cJ6_bitCount_0f7a4 38 = .ok (.iushr, 1) := by decide +kernel
theorem dJ6_bitCount_0f7a4_39 : decode cJ6_bitCount_0f7a4 39 = .ok (.iadd, 1) := by decide +kernel
theorem dJ6_bitCount_0f7a4_40 : decode cJ6_bitCount_0f7a4 40 = .ok (.istore_n 0, 1) := by decide +kernel
theorem dJ6_bitCount_0f7a4_41 : decode cJ6_bitCount_0f7a4 41 = .ok (.iload_n 0, 1) := by decide +kernel
theorem dJ6_bitCount_0f7a4_42 : decode cJ6_bitCount_0f7a4 42 = .ok (.iload_n 0, 1) := by decide +kernel
theorem dJ6_bitCount_0f7a4_43 : decode cJ6_bitCount_0f7a4 43 = .ok (.bipush 16, 2) := by decide +kernel
theorem dJ6_bitCount_0f7a4_45 : decode cJ6_bitCount_0f7a4 45 = .ok (.iushr, 1) := by decide +kernel
theorem dJ6_bitCount_0f7a4_46 : decode cJ6_bitCount_0f7a4 46 = .ok (.iadd, 1) := by decide +kernel
theorem dJ6_bitCount_0f7a4_47 : decode cJ6_bitCount_0f7a4 47 = .ok (.istore_n 0, 1) := by decide +kernel
theorem dJ6_bitCount_0f7a4_48 : decode cJ6_bitCount_0f7a4 48 = .ok (.iload_n 0, 1) := by decide +kernel
theorem dJ6_bitCount_0f7a4_49 : decode cJ6_bitCount_0f7a4 49 = .ok (.bipush 63, 2) := by decide +kernel
theorem dJ6_bitCount_0f7a4_51 : decode cJ6_bitCount_0f7a4 51 = .ok (.iand, 1) := by decide +kernel
theorem dJ6_bitCount_0f7a4_52 : decode cJ6_bitCount_0f7a4 52 = .ok (.ireturn, 1) := by decide +kernel
theorem dJ9_abs_0f7a4_0 : decode cJ9_abs_0f7a4 0 = .ok (.iload_n 0, 1) := by decide +kernel
theorem dJ9_abs_0f7a4_1 : decode cJ9_abs_0f7a4 1 = .ok (.ifCond .ge 8, 3) := by decide +kernel
theorem dJ9_abs_0f7a4_4 : decode cJ9_abs_0f7a4 4 = .ok (.iload_n 0, 1) := by decide +kernel
theorem dJ9_abs_0f7a4_5 : decode cJ9_abs_0f7a4 5 = .ok (.ineg, 1) := by decide +kernel
theorem dJ9_abs_0f7a4_6 : decode cJ9_abs_0f7a4 6 = .ok (.goto 4, 3) := by decide +kernel
theorem dJ9_abs_0f7a4_9 : decode cJ9_abs_0f7a4 9 = .ok (.iload_n 0, 1) := by decide +kernel
theorem dJ9_abs_0f7a4_10 : decode cJ9_abs_0f7a4 10 = .ok (.ireturn, 1) := by decide +kernel
theorem dJ9_max_7cf53_0 : decode cJ9_max_7cf53 0 = .ok (.iload_n 0, 1) := by decide +kernel
theorem dJ9_max_7cf53_1 : decode cJ9_max_7cf53 1 = .ok (.iload_n 1, 1) := by decide +kernel
theorem dJ9_max_7cf53_2 : decode cJ9_max_7cf53 2 = .ok (.if_icmp .lt 7, 3) := by decide +kernel
theorem dJ9_max_7cf53_5 : decode cJ9_max_7cf53 5 = .ok (.iload_n 0, 1) := by decide +kernel
theorem dJ9_max_7cf53_6 : decode cJ9_max_7cf53 6 = .ok (.goto 4, 3) := by decide +kernel
theorem dJ9_max_7cf53_9 : decode cJ9_max_7cf53 9 = .ok (.iload_n 1, 1) := by decide +kernel
theorem dJ9_max_7cf53_10 : decode cJ9_max_7cf53 10 = .ok (.ireturn, 1) := by decide +kernel
theorem dJ9_min_7cf53_0 : decode cJ9_min_7cf53 0 = .ok (.iload_n 0, 1) := by decide +kernel
theorem dJ9_min_7cf53_1 : decode cJ9_min_7cf53 1 = .ok (.iload_n 1, 1) := by decide +kernel
theorem dJ9_min_7cf53_2 : decode cJ9_min_7cf53 2 = .ok (.if_icmp .gt 7, 3) := by decide +kernel
theorem dJ9_min_7cf53_5 : decode cJ9_min_7cf53 5 = .ok (.iload_n 0, 1) := by decide +kernel
theorem dJ9_min_7cf53_6 : decode cJ9_min_7cf53 6 = .ok (.goto 4, 3) := by decide +kernel
theorem dJ9_min_7cf53_9 : decode cJ9_min_7cf53 9 = .ok (.iload_n 1, 1) := by decide +kernel
theorem dJ9_min_7cf53_10 : decode cJ9_min_7cf53 10 = .ok (.ireturn, 1) := by decide +kernel
