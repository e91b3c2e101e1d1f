theorem dX0_init_0 : decode cX0_init 0 = .ok (.aload_n 0, 1) := by decide +kernel
theorem dX0_init_1 : decode cX0_init 1 = .ok (.invokespecial 3, 3) := by decide +kernel
theorem dX0_init_4 : decode cX0_init 4 = .ok (.aload_n 0, 1) := by decide +kernel
theorem dX0_init_5 : decode cX0_init 5 = .ok (.bipush 24, 2) := by decide +kernel
theorem dX0_init_7 : decode cX0_init 7 = .ok (.anewarray 9, 3) := by decide +kernel
theorem dX0_init_10 : decode cX0_init 10 = .ok (.putfield 11, 3) := by decide +kernel
theorem dX0_init_13 : decode cX0_init 13 = .ok (.aload_n 0, 1) := by decide +kernel
theorem dX0_init_14 : decode cX0_init 14 = .ok (.iconst 0, 1) := by decide +kernel
theorem dX0_init_15 : decode cX0_init 15 = .ok (.putfield 17, 3) := by decide +kernel
theorem dX0_init_18 : decode cX0_init 18 = .ok (.aload_n 0, 1) := by decide +kernel
theorem dX0_init_19 : decode cX0_init 19 = .ok (.iconst 0, 1) := by decide +kernel
theorem dX0_init_20 : decode cX0_init 20 = .ok (.putfield 21, 3) := by decide +kernel
theorem dX0_init_23 : decode cX0_init 23 = .ok (.return_, 1) := by decide +kernel
theorem dX0_kept_0 : decode cX0_kept 0 = .ok (.aload_n 0, 1) := by decide +kernel
theorem dX0_kept_1 : decode cX0_kept 1 = .ok (.getfield 21, 3) := by decide +kernel
theorem dX0_kept_4 : decode cX0_kept 4 = .ok (.ireturn, 1) := by decide +kernel
theorem dX0_forget_0 : decode cX0_forget 0 = .ok (.aload_n 0, 1) := by decide +kernel
theorem dX0_forget_1 : decode cX0_forget 1 = .ok (.iconst 0, 1) := by decide +kernel
theorem dX0_forget_2 : decode cX0_forget 2 = .ok (.putfield 21, 3) := by decide +kernel
theorem dX0_forget_5 : decode cX0_forget 5 = .ok (.return_, 1) := by decide +kernel
theorem dX0_keep_0 : decode cX0_keep 0 = .ok (.aload_n 0, 1) := by decide +kernel
theorem dX0_keep_1 : decode cX0_keep 1 = .ok (.getfield 17, 3) := by decide +kernel
theorem dX0_keep_4 : decode cX0_keep 4 = .ok (.iconst 0, 1) := by decide +kernel
theorem dX0_keep_5 : decode cX0_keep 5 = .ok (.bipush 23, 2) := by decide +kernel
theorem dX0_keep_7 : decode cX0_keep 7 = .ok (.invokestatic 24, 3) := by decide +kernel
theorem dX0_keep_10 : decode cX0_keep 10 = .ok (.ifCond .ne 4, 3) := by decide +kernel
theorem dX0_keep_13 : decode cX0_keep 13 = .ok (.return_, 1) := by decide +kernel
theorem dX0_keep_14 : decode cX0_keep 14 = .ok (.aload_n 0, 1) := by decide +kernel
theorem dX0_keep_15 : decode cX0_keep 15 = .ok (.getfield 11, 3) := by decide +kernel
theorem dX0_keep_18 : decode cX0_keep 18 = .ok (.aload_n 0, 1) := by decide +kernel
theorem dX0_keep_19 : decode cX0_keep 19 = .ok (.getfield 17, 3) := by decide +kernel
theorem dX0_keep_22 : decode cX0_keep 22 = .ok (.aaload, 1) := by decide +kernel
theorem dX0_keep_23 : decode cX0_keep 23 = .ok (.astore_n 2, 1) := by decide +kernel
theorem dX0_keep_24 : decode cX0_keep 24 = .ok (.aload_n 2, 1) := by decide +kernel
theorem dX0_keep_25 : decode cX0_keep 25 = .ok (.ifnonnull 21, 3) := by decide +kernel
theorem dX0_keep_28 : decode cX0_keep 28 = .ok (.new 9, 3) := by decide +kernel
theorem dX0_keep_31 : decode cX0_keep 31 = .ok (.dup, 1) := by decide +kernel
theorem dX0_keep_32 : decode cX0_keep 32 = .ok (.invokespecial 28, 3) := by decide +kernel
theorem dX0_keep_35 : decode cX0_keep 35 = .ok (.astore_n 2, 1) := by decide +kernel
theorem dX0_keep_36 : decode cX0_keep 36 = .ok (.aload_n 0, 1) := by decide +kernel
theorem dX0_keep_37 : decode cX0_keep 37 = .ok (.getfield 11, 3) := by decide +kernel
theorem dX0_keep_40 : decode cX0_keep 40 = .ok (.aload_n 0, 1) := by decide +kernel
theorem dX0_keep_41 : decode cX0_keep 41 = .ok (.getfield 17, 3) := by decide +kernel
theorem dX0_keep_44 : decode cX0_keep 44 = .ok (.aload_n 2, 1) := by decide +kernel
theorem dX0_keep_45 : decode cX0_keep 45 = .ok (.aastore, 1) := by decide +kernel
theorem dX0_keep_46 : decode cX0_keep 46 = .ok (.aload_n 2, 1) := by decide +kernel
theorem dX0_keep_47 : decode cX0_keep 47 = .ok (.aload_n 1, 1) := by decide +kernel
theorem dX0_keep_48 : decode cX0_keep 48 = .ok (.invokevirtual 29, 3) := by decide +kernel
theorem dX0_keep_51 : decode cX0_keep 51 = .ok (.aload_n 0, 1) := by decide +kernel
theorem dX0_keep_52 : decode cX0_keep 52 = .ok (.aload_n 0, 1) := by decide +kernel
theorem dX0_keep_53 : decode cX0_keep 53 = .ok (.getfield 17, 3) := by decide +kernel
theorem dX0_keep_56 : decode cX0_keep 56 = .ok (.iconst 1, 1) := by decide +kernel
theorem dX0_keep_57 : decode cX0_keep 57 = .ok (.iadd, 1) := by decide +kernel
theorem dX0_keep_58 : decode cX0_keep 58 = .ok (.bipush 24, 2) := by decide +kernel
theorem dX0_keep_60 : decode cX0_keep 60 = .ok (.irem, 1) := by decide +kernel
theorem dX0_keep_61 : decode cX0_keep 61 = .ok (.putfield 17, 3) := by decide +kernel
theorem dX0_keep_64 : decode cX0_keep 64 = .ok (.aload_n 0, 1) := by decide +kernel
theorem dX0_keep_65 : decode cX0_keep 65 = .ok (.bipush 24, 2) := by decide +kernel
theorem dX0_keep_67 : decode cX0_keep 67 = .ok (.aload_n 0, 1) := by decide +kernel
theorem dX0_keep_68 : decode cX0_keep 68 = .ok (.getfield 21, 3) := by decide +kernel
theorem dX0_keep_71 : decode cX0_keep 71 = .ok (.iconst 1, 1) := by decide +kernel
theorem dX0_keep_72 : decode cX0_keep 72 = .ok (.iadd, 1) := by decide +kernel
theorem dX0_keep_73 : decode cX0_keep 73 = .ok (.invokestatic 33, 3) := by decide +kernel
theorem dX0_keep_76 : decode cX0_keep 76 = .ok (.putfield 21, 3) := by decide +kernel
theorem dX0_keep_79 : decode cX0_keep 79 = .ok (.return_, 1) := by decide +kernel
theorem dX0_takeBack_0 : decode cX0_takeBack 0 = .ok (.aload_n 0, 1) := by decide +kernel
theorem dX0_takeBack_1 : decode cX0_takeBack 1 = .ok (.getfield 21, 3) := by decide +kernel
theorem dX0_takeBack_4 : decode cX0_takeBack 4 = .ok (.iconst 1, 1) := by decide +kernel
theorem dX0_takeBack_5 : decode cX0_takeBack 5 = .ok (.if_icmp .ge 5, 3) := by decide +kernel
theorem dX0_takeBack_8 : decode cX0_takeBack 8 = .ok (.iconst 0, 1) := by decide +kernel
theorem dX0_takeBack_9 : decode cX0_takeBack 9 = .ok (.ireturn, 1) := by decide +kernel
theorem dX0_takeBack_10 : decode cX0_takeBack 10 = .ok (.aload_n 0, 1) := by decide +kernel
theorem dX0_takeBack_11 : decode cX0_takeBack 11 = .ok (.getfield 17, 3) := by decide +kernel
theorem dX0_takeBack_14 : decode cX0_takeBack 14 = .ok (.bipush 24, 2) := by decide +kernel
theorem dX0_takeBack_16 : decode cX0_takeBack 16 = .ok (.iadd, 1) := by decide +kernel
theorem dX0_takeBack_17 : decode cX0_takeBack 17 = .ok (.iconst 1, 1) := by decide +kernel
theorem dX0_takeBack_18 : decode cX0_takeBack 18 = .ok (.isub, 1) := by decide +kernel
theorem dX0_takeBack_19 : decode cX0_takeBack 19 = .ok (.bipush 24, 2) := by decide +kernel
theorem dX0_takeBack_21 : decode cX0_takeBack 21 = .ok (.irem, 1) := by decide +kernel
theorem dX0_takeBack_22 : decode cX0_takeBack 22 = .ok (.istore_n 2, 1) := by decide +kernel
theorem dX0_takeBack_23 : decode cX0_takeBack 23 = .ok (.iload_n 2, 1) := by decide +kernel
theorem dX0_takeBack_24 : decode cX0_takeBack 24 = .ok (.iconst 0, 1) := by decide +kernel
theorem dX0_takeBack_25 : decode cX0_takeBack 25 = .ok (.bipush 23, 2) := by decide +kernel
theorem dX0_takeBack_27 : decode cX0_takeBack 27 = .ok (.invokestatic 24, 3) := by decide +kernel
theorem dX0_takeBack_30 : decode cX0_takeBack 30 = .ok (.ifCond .ne 5, 3) := by decide +kernel
theorem dX0_takeBack_33 : decode cX0_takeBack 33 = .ok (.iconst 0, 1) := by decide +kernel
theorem dX0_takeBack_34 : decode cX0_takeBack 34 = .ok (.ireturn, 1) := by decide +kernel
theorem dX0_takeBack_35 : decode cX0_takeBack 35 = .ok (.aload_n 0, 1) := by decide +kernel
theorem dX0_takeBack_36 : decode cX0_takeBack 36 = .ok (.getfield 11, 3) := by decide +kernel
theorem dX0_takeBack_39 : decode cX0_takeBack 39 = .ok (.iload_n 2, 1) := by decide +kernel
theorem dX0_takeBack_40 : decode cX0_takeBack 40 = .ok (.aaload, 1) := by decide +kernel
theorem dX0_takeBack_41 : decode cX0_takeBack 41 = .ok (.astore_n 3, 1) := by decide +kernel
theorem dX0_takeBack_42 : decode cX0_takeBack 42 = .ok (.aload_n 3, 1) := by decide +kernel
theorem dX0_takeBack_43 : decode cX0_takeBack 43 = .ok (.ifnonnull 5, 3) := by decide +kernel
theorem dX0_takeBack_46 : decode cX0_takeBack 46 = .ok (.iconst 0, 1) := by decide +kernel
theorem dX0_takeBack_47 : decode cX0_takeBack 47 = .ok (.ireturn, 1) := by decide +kernel
theorem dX0_takeBack_48 : decode cX0_takeBack 48 = .ok (.aload_n 1, 1) := by decide +kernel
theorem dX0_takeBack_49 : decode cX0_takeBack 49 = .ok (.aload_n 3, 1) := by decide +kernel
theorem dX0_takeBack_50 : decode cX0_takeBack 50 = .ok (.invokevirtual 29, 3) := by decide +kernel
theorem dX0_takeBack_53 : decode cX0_takeBack 53 = .ok (.aload_n 0, 1) := by decide +kernel
theorem dX0_takeBack_54 : decode cX0_takeBack 54 = .ok (.iload_n 2, 1) := by decide +kernel
theorem dX0_takeBack_55 : decode cX0_takeBack 55 = .ok (.putfield 17, 3) := by decide +kernel
theorem dX0_takeBack_58 : decode cX0_takeBack 58 = .ok (.aload_n 0, 1) := by decide +kernel
theorem dX0_takeBack_59 : decode cX0_takeBack 59 = .ok (.dup, 1) := by decide +kernel
theorem dX0_takeBack_60 : decode cX0_takeBack 60 = .ok (.getfield 21, 3) := by decide +kernel
theorem dX0_takeBack_63 : decode cX0_takeBack 63 = .ok (.iconst 1, 1) := by decide +kernel
theorem dX0_takeBack_64 : decode cX0_takeBack 64 = .ok (.isub, 1) := by decide +kernel
theorem dX0_takeBack_65 : decode cX0_takeBack 65 = .ok (.putfield 21, 3) := by decide +kernel
theorem dX0_takeBack_68 : decode cX0_takeBack 68 = .ok (.iconst 1, 1) := by decide +kernel
theorem dX0_takeBack_69 : decode cX0_takeBack 69 = .ok (.ireturn, 1) := by decide +kernel
theorem dX1_init_0 : decode cX1_init 0 = .ok (.aload_n 0, 1) := by decide +kernel
theorem dX1_init_1 : decode cX1_init 1 = .ok (.invokespecial 3, 3) := by decide +kernel
theorem dX1_init_4 : decode cX1_init 4 = .ok (.aload_n 0, 1) := by decide +kernel
theorem dX1_init_5 : decode cX1_init 5 = .ok (.bipush 16, 2) := by decide +kernel
theorem dX1_init_7 : decode cX1_init 7 = .ok (.newarray .int, 2) := by decide +kernel
theorem dX1_init_9 : decode cX1_init 9 = .ok (.putfield 9, 3) := by decide +kernel
theorem dX1_init_12 : decode cX1_init 12 = .ok (.aload_n 0, 1) := by decide +kernel
theorem dX1_init_13 : decode cX1_init 13 = .ok (.iconst 0, 1) := by decide +kernel
theorem dX1_init_14 : decode cX1_init 14 = .ok (.putfield 15, 3) := by decide +kernel
theorem dX1_init_17 : decode cX1_init 17 = .ok (.return_, 1) := by decide +kernel
theorem dX1_isSuch_0 : decode cX1_isSuch 0 = .ok (.iload_n 0, 1) := by decide +kernel
theorem dX1_isSuch_1 : decode cX1_isSuch 1 = .ok (.istore_n 2, 1) := by decide +kernel
theorem dX1_isSuch_2 : decode cX1_isSuch 2 = .ok (.iconst 0, 1) := by decide +kernel
theorem dX1_isSuch_3 : decode cX1_isSuch 3 = .ok (.istore_n 3, 1) := by decide +kernel
theorem dX1_isSuch_4 : decode cX1_isSuch 4 = .ok (.iload_n 3, 1) := by decide +kernel
theorem dX1_isSuch_5 : decode cX1_isSuch 5 = .ok (.getstatic 19, 3) := by decide +kernel
theorem dX1_isSuch_8 : decode cX1_isSuch 8 = .ok (.arraylength, 1) := by decide +kernel
theorem dX1_isSuch_9 : decode cX1_isSuch 9 = .ok (.if_icmp .ge 31, 3) := by decide +kernel
theorem dX1_isSuch_12 : decode cX1_isSuch 12 = .ok (.iload_n 2, 1) := by decide +kernel
theorem dX1_isSuch_13 : decode cX1_isSuch 13 = .ok (.iconst 0, 1) := by decide +kernel
theorem dX1_isSuch_14 : decode cX1_isSuch 14 = .ok (.iconst 5, 1) := by decide +kernel
theorem dX1_isSuch_15 : decode cX1_isSuch 15 = .ok (.invokestatic 22, 3) := by decide +kernel
theorem dX1_isSuch_18 : decode cX1_isSuch 18 = .ok (.ifCond .eq 22, 3) := by decide +kernel
theorem dX1_isSuch_21 : decode cX1_isSuch 21 = .ok (.iload_n 2, 1) := by decide +kernel
theorem dX1_isSuch_22 : decode cX1_isSuch 22 = .ok (.iload_n 1, 1) := by decide +kernel
theorem dX1_isSuch_23 : decode cX1_isSuch 23 = .ok (.if_icmp .ne 5, 3) := by decide +kernel
theorem dX1_isSuch_26 : decode cX1_isSuch 26 = .ok (.iconst 1, 1) := by decide +kernel
theorem dX1_isSuch_27 : decode cX1_isSuch 27 = .ok (.ireturn, 1) := by decide +kernel
theorem dX1_isSuch_28 : decode cX1_isSuch 28 = .ok (.getstatic 19, 3) := by decide +kernel
theorem dX1_isSuch_31 : decode cX1_isSuch 31 = .ok (.iload_n 2, 1) := by decide +kernel
theorem dX1_isSuch_32 : decode cX1_isSuch 32 = .ok (.iaload, 1) := by decide +kernel
theorem dX1_isSuch_33 : decode cX1_isSuch 33 = .ok (.istore_n 2, 1) := by decide +kernel
theorem dX1_isSuch_34 : decode cX1_isSuch 34 = .ok (.iinc 3 1, 3) := by decide +kernel
theorem dX1_isSuch_37 : decode cX1_isSuch 37 = .ok (.goto (-33), 3) := by decide +kernel
theorem dX1_isSuch_40 : decode cX1_isSuch 40 = .ok (.iconst 0, 1) := by decide +kernel
theorem dX1_isSuch_41 : decode cX1_isSuch 41 = .ok (.ireturn, 1) := by decide +kernel
theorem dX1_answer_0 : decode cX1_answer 0 = .ok (.aload_n 0, 1) := by decide +kernel
theorem dX1_answer_1 : decode cX1_answer 1 = .ok (.iconst 0, 1) := by decide +kernel
theorem dX1_answer_2 : decode cX1_answer 2 = .ok (.putfield 15, 3) := by decide +kernel
theorem dX1_answer_5 : decode cX1_answer 5 = .ok (.aload_n 1, 1) := by decide +kernel
theorem dX1_answer_6 : decode cX1_answer 6 = .ok (.iload_n 2, 1) := by decide +kernel
theorem dX1_answer_7 : decode cX1_answer 7 = .ok (.invokevirtual 26, 3) := by decide +kernel
theorem dX1_answer_10 : decode cX1_answer 10 = .ok (.istore 4, 2) := by decide +kernel
theorem dX1_answer_12 : decode cX1_answer 12 = .ok (.aload_n 0, 1) := by decide +kernel
theorem dX1_answer_13 : decode cX1_answer 13 = .ok (.aload_n 1, 1) := by decide +kernel
theorem dX1_answer_14 : decode cX1_answer 14 = .ok (.iload_n 2, 1) := by decide +kernel
theorem dX1_answer_15 : decode cX1_answer 15 = .ok (.iload_n 3, 1) := by decide +kernel
theorem dX1_answer_16 : decode cX1_answer 16 = .ok (.ifCond .ne 11, 3) := by decide +kernel
theorem dX1_answer_19 : decode cX1_answer 19 = .ok (.iload 4, 2) := by decide +kernel
theorem dX1_answer_21 : decode cX1_answer 21 = .ok (.invokestatic 32, 3) := by decide +kernel
theorem dX1_answer_24 : decode cX1_answer 24 = .ok (.goto 8, 3) := by decide +kernel
theorem dX1_answer_27 : decode cX1_answer 27 = .ok (.iload 4, 2) := by decide +kernel
theorem dX1_answer_29 : decode cX1_answer 29 = .ok (.invokestatic 35, 3) := by decide +kernel
theorem dX1_answer_32 : decode cX1_answer 32 = .ok (.iconst 0, 1) := by decide +kernel
theorem dX1_answer_33 : decode cX1_answer 33 = .ok (.invokestatic 38, 3) := by decide +kernel
theorem dX1_answer_36 : decode cX1_answer 36 = .ok (.ireturn, 1) := by decide +kernel
theorem dX1_traced_0 : decode cX1_traced 0 = .ok (.iload_n 1, 1) := by decide +kernel
theorem dX1_traced_1 : decode cX1_traced 1 = .ok (.ifCond .lt 26, 3) := by decide +kernel
theorem dX1_traced_4 : decode cX1_traced 4 = .ok (.iload_n 1, 1) := by decide +kernel
theorem dX1_traced_5 : decode cX1_traced 5 = .ok (.aload_n 0, 1) := by decide +kernel
theorem dX1_traced_6 : decode cX1_traced 6 = .ok (.getfield 15, 3) := by decide +kernel
theorem dX1_traced_9 : decode cX1_traced 9 = .ok (.if_icmp .ge 18, 3) := by decide +kernel
theorem dX1_traced_12 : decode cX1_traced 12 = .ok (.iload_n 1, 1) := by decide +kernel
theorem dX1_traced_13 : decode cX1_traced 13 = .ok (.bipush 16, 2) := by decide +kernel
theorem dX1_traced_15 : decode cX1_traced 15 = .ok (.if_icmp .ge 12, 3) := by decide +kernel
theorem dX1_traced_18 : decode cX1_traced 18 = .ok (.aload_n 0, 1) := by decide +kernel
theorem dX1_traced_19 : decode cX1_traced 19 = .ok (.getfield 9, 3) := by decide +kernel
theorem dX1_traced_22 : decode cX1_traced 22 = .ok (.iload_n 1, 1) := by decide +kernel
theorem dX1_traced_23 : decode cX1_traced 23 = .ok (.iaload, 1) := by decide +kernel
theorem dX1_traced_24 : decode cX1_traced 24 = .ok (.goto 5, 3) := by decide +kernel
theorem dX1_traced_27 : decode cX1_traced 27 = .ok (.ldc 42, 2) := by decide +kernel
theorem dX1_traced_29 : decode cX1_traced 29 = .ok (.ireturn, 1) := by decide +kernel
theorem dX1_leave_0 : decode cX1_leave 0 = .ok (.aload_n 0, 1) := by decide +kernel
theorem dX1_leave_1 : decode cX1_leave 1 = .ok (.getfield 15, 3) := by decide +kernel
theorem dX1_leave_4 : decode cX1_leave 4 = .ok (.ifCond .lt 12, 3) := by decide +kernel
theorem dX1_leave_7 : decode cX1_leave 7 = .ok (.aload_n 0, 1) := by decide +kernel
theorem dX1_leave_8 : decode cX1_leave 8 = .ok (.getfield 15, 3) := by decide +kernel
theorem dX1_leave_11 : decode cX1_leave 11 = .ok (.bipush 16, 2) := by decide +kernel
theorem dX1_leave_13 : decode cX1_leave 13 = .ok (.if_icmp .lt 4, 3) := by decide +kernel
theorem dX1_leave_16 : decode cX1_leave 16 = .ok (.return_, 1) := by decide +kernel
theorem dX1_leave_17 : decode cX1_leave 17 = .ok (.aload_n 0, 1) := by decide +kernel
theorem dX1_leave_18 : decode cX1_leave 18 = .ok (.getfield 9, 3) := by decide +kernel
theorem dX1_leave_21 : decode cX1_leave 21 = .ok (.aload_n 0, 1) := by decide +kernel
theorem dX1_leave_22 : decode cX1_leave 22 = .ok (.getfield 15, 3) := by decide +kernel
theorem dX1_leave_25 : decode cX1_leave 25 = .ok (.iload_n 1, 1) := by decide +kernel
theorem dX1_leave_26 : decode cX1_leave 26 = .ok (.iastore, 1) := by decide +kernel
theorem dX1_leave_27 : decode cX1_leave 27 = .ok (.aload_n 0, 1) := by decide +kernel
theorem dX1_leave_28 : decode cX1_leave 28 = .ok (.dup, 1) := by decide +kernel
theorem dX1_leave_29 : decode cX1_leave 29 = .ok (.getfield 15, 3) := by decide +kernel
theorem dX1_leave_32 : decode cX1_leave 32 = .ok (.iconst 1, 1) := by decide +kernel
theorem dX1_leave_33 : decode cX1_leave 33 = .ok (.iadd, 1) := by decide +kernel
theorem dX1_leave_34 : decode cX1_leave 34 = .ok (.putfield 15, 3) := by decide +kernel
theorem dX1_leave_37 : decode cX1_leave 37 = .ok (.return_, 1) := by decide +kernel
theorem dX1_sizeBody_0 : decode cX1_sizeBody 0 = .ok (.iload_n 0, 1) := by decide +kernel
theorem dX1_sizeBody_1 : decode cX1_sizeBody 1 = .ok (.iconst 0, 1) := by decide +kernel
theorem dX1_sizeBody_2 : decode cX1_sizeBody 2 = .ok (.iconst 5, 1) := by decide +kernel
theorem dX1_sizeBody_3 : decode cX1_sizeBody 3 = .ok (.invokestatic 22, 3) := by decide +kernel
theorem dX1_sizeBody_6 : decode cX1_sizeBody 6 = .ok (.ifCond .eq 11, 3) := by decide +kernel
theorem dX1_sizeBody_9 : decode cX1_sizeBody 9 = .ok (.getstatic 43, 3) := by decide +kernel
theorem dX1_sizeBody_12 : decode cX1_sizeBody 12 = .ok (.iload_n 0, 1) := by decide +kernel
theorem dX1_sizeBody_13 : decode cX1_sizeBody 13 = .ok (.iaload, 1) := by decide +kernel
theorem dX1_sizeBody_14 : decode cX1_sizeBody 14 = .ok (.goto 5, 3) := by decide +kernel
theorem dX1_sizeBody_17 : decode cX1_sizeBody 17 = .ok (.bipush 10, 2) := by decide +kernel
theorem dX1_sizeBody_19 : decode cX1_sizeBody 19 = .ok (.ireturn, 1) := by decide +kernel
theorem dX1_markBody_0 : decode cX1_markBody 0 = .ok (.iload_n 0, 1) := by decide +kernel
theorem dX1_markBody_1 : decode cX1_markBody 1 = .ok (.iconst 0, 1) := by decide +kernel
theorem dX1_markBody_2 : decode cX1_markBody 2 = .ok (.iconst 5, 1) := by decide +kernel
theorem dX1_markBody_3 : decode cX1_markBody 3 = .ok (.invokestatic 22, 3) := by decide +kernel
theorem dX1_markBody_6 : decode cX1_markBody 6 = .ok (.ifCond .eq 11, 3) := by decide +kernel
theorem dX1_markBody_9 : decode cX1_markBody 9 = .ok (.getstatic 46, 3) := by decide +kernel
theorem dX1_markBody_12 : decode cX1_markBody 12 = .ok (.iload_n 0, 1) := by decide +kernel
theorem dX1_markBody_13 : decode cX1_markBody 13 = .ok (.iaload, 1) := by decide +kernel
theorem dX1_markBody_14 : decode cX1_markBody 14 = .ok (.goto 5, 3) := by decide +kernel
theorem dX1_markBody_17 : decode cX1_markBody 17 = .ok (.bipush 20, 2) := by decide +kernel
theorem dX1_markBody_19 : decode cX1_markBody 19 = .ok (.ireturn, 1) := by decide +kernel
theorem dX1_give_0 : decode cX1_give 0 = .ok (.iload 4, 2) := by decide +kernel
theorem dX1_give_2 : decode cX1_give 2 = .ok (.bipush 12, 2) := by decide +kernel
theorem dX1_give_4 : decode cX1_give 4 = .ok (.if_icmp .le 5, 3) := by decide +kernel
theorem dX1_give_7 : decode cX1_give 7 = .ok (.iconst 0, 1) := by decide +kernel
theorem dX1_give_8 : decode cX1_give 8 = .ok (.ireturn, 1) := by decide +kernel
theorem dX1_give_9 : decode cX1_give 9 = .ok (.aload_n 0, 1) := by decide +kernel
theorem dX1_give_10 : decode cX1_give 10 = .ok (.iload_n 3, 1) := by decide +kernel
theorem dX1_give_11 : decode cX1_give 11 = .ok (.invokevirtual 49, 3) := by decide +kernel
theorem dX1_give_14 : decode cX1_give 14 = .ok (.iload 4, 2) := by decide +kernel
theorem dX1_give_16 : decode cX1_give 16 = .ok (.iconst 1, 1) := by decide +kernel
theorem dX1_give_17 : decode cX1_give 17 = .ok (.iadd, 1) := by decide +kernel
theorem dX1_give_18 : decode cX1_give 18 = .ok (.istore 5, 2) := by decide +kernel
theorem dX1_give_20 : decode cX1_give 20 = .ok (.aload_n 1, 1) := by decide +kernel
theorem dX1_give_21 : decode cX1_give 21 = .ok (.iload_n 2, 1) := by decide +kernel
theorem dX1_give_22 : decode cX1_give 22 = .ok (.invokevirtual 26, 3) := by decide +kernel
theorem dX1_give_25 : decode cX1_give 25 = .ok (.istore 6, 2) := by decide +kernel
theorem dX1_give_27 : decode cX1_give 27 = .ok (.iload_n 3, 1) := by decide +kernel
theorem dX1_give_28 : decode cX1_give 28 = .ok (.tableswitch 218 10 24 #[76, 82, 107, 119, 133, 218, 218, 218, 218, 218, 146, 148, 165, 180, 205], 76) := by decide +kernel
theorem dX1_give_104 : decode cX1_give 104 = .ok (.aload_n 1, 1) := by decide +kernel
theorem dX1_give_105 : decode cX1_give 105 = .ok (.iload_n 2, 1) := by decide +kernel
theorem dX1_give_106 : decode cX1_give 106 = .ok (.invokevirtual 53, 3) := by decide +kernel
theorem dX1_give_109 : decode cX1_give 109 = .ok (.ireturn, 1) := by decide +kernel
theorem dX1_give_110 : decode cX1_give 110 = .ok (.aload_n 0, 1) := by decide +kernel
theorem dX1_give_111 : decode cX1_give 111 = .ok (.aload_n 1, 1) := by decide +kernel
theorem dX1_give_112 : decode cX1_give 112 = .ok (.iload_n 2, 1) := by decide +kernel
theorem dX1_give_113 : decode cX1_give 113 = .ok (.bipush 10, 2) := by decide +kernel
theorem dX1_give_115 : decode cX1_give 115 = .ok (.iload 5, 2) := by decide +kernel
theorem dX1_give_117 : decode cX1_give 117 = .ok (.invokestatic 38, 3) := by decide +kernel
theorem dX1_give_120 : decode cX1_give 120 = .ok (.aload_n 0, 1) := by decide +kernel
theorem dX1_give_121 : decode cX1_give 121 = .ok (.aload_n 1, 1) := by decide +kernel
theorem dX1_give_122 : decode cX1_give 122 = .ok (.iload_n 2, 1) := by decide +kernel
theorem dX1_give_123 : decode cX1_give 123 = .ok (.iload 6, 2) := by decide +kernel
theorem dX1_give_125 : decode cX1_give 125 = .ok (.invokestatic 35, 3) := by decide +kernel
theorem dX1_give_128 : decode cX1_give 128 = .ok (.iload 5, 2) := by decide +kernel
theorem dX1_give_130 : decode cX1_give 130 = .ok (.invokestatic 38, 3) := by decide +kernel
theorem dX1_give_133 : decode cX1_give 133 = .ok (.iadd, 1) := by decide +kernel
theorem dX1_give_134 : decode cX1_give 134 = .ok (.ireturn, 1) := by decide +kernel
theorem dX1_give_135 : decode cX1_give 135 = .ok (.aload_n 0, 1) := by decide +kernel
theorem dX1_give_136 : decode cX1_give 136 = .ok (.aload_n 1, 1) := by decide +kernel
theorem dX1_give_137 : decode cX1_give 137 = .ok (.iload_n 2, 1) := by decide +kernel
theorem dX1_give_138 : decode cX1_give 138 = .ok (.bipush 11, 2) := by decide +kernel
theorem dX1_give_140 : decode cX1_give 140 = .ok (.iload 5, 2) := by decide +kernel
theorem dX1_give_142 : decode cX1_give 142 = .ok (.invokestatic 38, 3) := by decide +kernel
theorem dX1_give_145 : decode cX1_give 145 = .ok (.ineg, 1) := by decide +kernel
theorem dX1_give_146 : decode cX1_give 146 = .ok (.ireturn, 1) := by decide +kernel
theorem dX1_give_147 : decode cX1_give 147 = .ok (.aload_n 0, 1) := by decide +kernel
theorem dX1_give_148 : decode cX1_give 148 = .ok (.aload_n 1, 1) := by decide +kernel
theorem dX1_give_149 : decode cX1_give 149 = .ok (.iload_n 2, 1) := by decide +kernel
theorem dX1_give_150 : decode cX1_give 150 = .ok (.bipush 10, 2) := by decide +kernel
theorem dX1_give_152 : decode cX1_give 152 = .ok (.iload 5, 2) := by decide +kernel
theorem dX1_give_154 : decode cX1_give 154 = .ok (.invokestatic 38, 3) := by decide +kernel
theorem dX1_give_157 : decode cX1_give 157 = .ok (.bipush 100, 2) := by decide +kernel
theorem dX1_give_159 : decode cX1_give 159 = .ok (.isub, 1) := by decide +kernel
theorem dX1_give_160 : decode cX1_give 160 = .ok (.ireturn, 1) := by decide +kernel
theorem dX1_give_161 : decode cX1_give 161 = .ok (.iconst 2, 1) := by decide +kernel
theorem dX1_give_162 : decode cX1_give 162 = .ok (.aload_n 0, 1) := by decide +kernel
theorem dX1_give_163 : decode cX1_give 163 = .ok (.aload_n 1, 1) := by decide +kernel
theorem dX1_give_164 : decode cX1_give 164 = .ok (.iload_n 2, 1) := by decide +kernel
theorem dX1_give_165 : decode cX1_give 165 = .ok (.bipush 13, 2) := by decide +kernel
theorem dX1_give_167 : decode cX1_give 167 = .ok (.iload 5, 2) := by decide +kernel
theorem dX1_give_169 : decode cX1_give 169 = .ok (.invokestatic 38, 3) := by decide +kernel
theorem dX1_give_172 : decode cX1_give 172 = .ok (.imul, 1) := by decide +kernel
theorem dX1_give_173 : decode cX1_give 173 = .ok (.ireturn, 1) := by decide +kernel
theorem dX1_give_174 : decode cX1_give 174 = .ok (.iload_n 2, 1) := by decide +kernel
theorem dX1_give_175 : decode cX1_give 175 = .ok (.ireturn, 1) := by decide +kernel
theorem dX1_give_176 : decode cX1_give 176 = .ok (.aload_n 0, 1) := by decide +kernel
theorem dX1_give_177 : decode cX1_give 177 = .ok (.aload_n 1, 1) := by decide +kernel
theorem dX1_give_178 : decode cX1_give 178 = .ok (.iload_n 2, 1) := by decide +kernel
theorem dX1_give_179 : decode cX1_give 179 = .ok (.bipush 20, 2) := by decide +kernel
theorem dX1_give_181 : decode cX1_give 181 = .ok (.iload 5, 2) := by decide +kernel
theorem dX1_give_183 : decode cX1_give 183 = .ok (.invokestatic 38, 3) := by decide +kernel
theorem dX1_give_186 : decode cX1_give 186 = .ok (.aload_n 1, 1) := by decide +kernel
theorem dX1_give_187 : decode cX1_give 187 = .ok (.iload_n 2, 1) := by decide +kernel
theorem dX1_give_188 : decode cX1_give 188 = .ok (.invokevirtual 56, 3) := by decide +kernel
theorem dX1_give_191 : decode cX1_give 191 = .ok (.iadd, 1) := by decide +kernel
theorem dX1_give_192 : decode cX1_give 192 = .ok (.ireturn, 1) := by decide +kernel
theorem dX1_give_193 : decode cX1_give 193 = .ok (.aload_n 0, 1) := by decide +kernel
theorem dX1_give_194 : decode cX1_give 194 = .ok (.aload_n 1, 1) := by decide +kernel
theorem dX1_give_195 : decode cX1_give 195 = .ok (.iload_n 2, 1) := by decide +kernel
theorem dX1_give_196 : decode cX1_give 196 = .ok (.bipush 21, 2) := by decide +kernel
theorem dX1_give_198 : decode cX1_give 198 = .ok (.iload 5, 2) := by decide +kernel
theorem dX1_give_200 : decode cX1_give 200 = .ok (.invokestatic 38, 3) := by decide +kernel
theorem dX1_give_203 : decode cX1_give 203 = .ok (.sipush 1000, 3) := by decide +kernel
theorem dX1_give_206 : decode cX1_give 206 = .ok (.isub, 1) := by decide +kernel
theorem dX1_give_207 : decode cX1_give 207 = .ok (.ireturn, 1) := by decide +kernel
theorem dX1_give_208 : decode cX1_give 208 = .ok (.aload_n 0, 1) := by decide +kernel
theorem dX1_give_209 : decode cX1_give 209 = .ok (.aload_n 1, 1) := by decide +kernel
theorem dX1_give_210 : decode cX1_give 210 = .ok (.iload_n 2, 1) := by decide +kernel
theorem dX1_give_211 : decode cX1_give 211 = .ok (.bipush 20, 2) := by decide +kernel
theorem dX1_give_213 : decode cX1_give 213 = .ok (.iload 5, 2) := by decide +kernel
theorem dX1_give_215 : decode cX1_give 215 = .ok (.invokestatic 38, 3) := by decide +kernel
theorem dX1_give_218 : decode cX1_give 218 = .ok (.aload_n 0, 1) := by decide +kernel
theorem dX1_give_219 : decode cX1_give 219 = .ok (.aload_n 1, 1) := by decide +kernel
theorem dX1_give_220 : decode cX1_give 220 = .ok (.iload_n 2, 1) := by decide +kernel
theorem dX1_give_221 : decode cX1_give 221 = .ok (.iload 6, 2) := by decide +kernel
theorem dX1_give_223 : decode cX1_give 223 = .ok (.invokestatic 32, 3) := by decide +kernel
theorem dX1_give_226 : decode cX1_give 226 = .ok (.iload 5, 2) := by decide +kernel
theorem dX1_give_228 : decode cX1_give 228 = .ok (.invokestatic 38, 3) := by decide +kernel
theorem dX1_give_231 : decode cX1_give 231 = .ok (.isub, 1) := by decide +kernel
theorem dX1_give_232 : decode cX1_give 232 = .ok (.ireturn, 1) := by decide +kernel
theorem dX1_give_233 : decode cX1_give 233 = .ok (.iconst 2, 1) := by decide +kernel
theorem dX1_give_234 : decode cX1_give 234 = .ok (.aload_n 0, 1) := by decide +kernel
theorem dX1_give_235 : decode cX1_give 235 = .ok (.aload_n 1, 1) := by decide +kernel
theorem dX1_give_236 : decode cX1_give 236 = .ok (.iload_n 2, 1) := by decide +kernel
theorem dX1_give_237 : decode cX1_give 237 = .ok (.bipush 21, 2) := by decide +kernel
theorem dX1_give_239 : decode cX1_give 239 = .ok (.iload 5, 2) := by decide +kernel
theorem dX1_give_241 : decode cX1_give 241 = .ok (.invokestatic 38, 3) := by decide +kernel
theorem dX1_give_244 : decode cX1_give 244 = .ok (.imul, 1) := by decide +kernel
theorem dX1_give_245 : decode cX1_give 245 = .ok (.ireturn, 1) := by decide +kernel
theorem dX1_give_246 : decode cX1_give 246 = .ok (.iconst 0, 1) := by decide +kernel
theorem dX1_give_247 : decode cX1_give 247 = .ok (.ireturn, 1) := by decide +kernel
theorem dX2_init_0 : decode cX2_init 0 = .ok (.aload_n 0, 1) := by decide +kernel
theorem dX2_init_1 : decode cX2_init 1 = .ok (.invokespecial 3, 3) := by decide +kernel
theorem dX2_init_4 : decode cX2_init 4 = .ok (.aload_n 0, 1) := by decide +kernel
theorem dX2_init_5 : decode cX2_init 5 = .ok (.iconst 0, 1) := by decide +kernel
theorem dX2_init_6 : decode cX2_init 6 = .ok (.putfield 9, 3) := by decide +kernel
theorem dX2_init_9 : decode cX2_init 9 = .ok (.aload_n 0, 1) := by decide +kernel
theorem dX2_init_10 : decode cX2_init 10 = .ok (.iconst 0, 1) := by decide +kernel
theorem dX2_init_11 : decode cX2_init 11 = .ok (.putfield 15, 3) := by decide +kernel
theorem dX2_init_14 : decode cX2_init 14 = .ok (.aload_n 0, 1) := by decide +kernel
theorem dX2_init_15 : decode cX2_init 15 = .ok (.iconst 0, 1) := by decide +kernel
theorem dX2_init_16 : decode cX2_init 16 = .ok (.putfield 18, 3) := by decide +kernel
theorem dX2_init_19 : decode cX2_init 19 = .ok (.aload_n 0, 1) := by decide +kernel
theorem dX2_init_20 : decode cX2_init 20 = .ok (.iconst 0, 1) := by decide +kernel
theorem dX2_init_21 : decode cX2_init 21 = .ok (.putfield 21, 3) := by decide +kernel
theorem dX2_init_24 : decode cX2_init 24 = .ok (.aload_n 0, 1) := by decide +kernel
theorem dX2_init_25 : decode cX2_init 25 = .ok (.iconst 0, 1) := by decide +kernel
theorem dX2_init_26 : decode cX2_init 26 = .ok (.putfield 24, 3) := by decide +kernel
theorem dX2_init_29 : decode cX2_init 29 = .ok (.aload_n 0, 1) := by decide +kernel
theorem dX2_init_30 : decode cX2_init 30 = .ok (.iconst 0, 1) := by decide +kernel
theorem dX2_init_31 : decode cX2_init 31 = .ok (.putfield 27, 3) := by decide +kernel
theorem dX2_init_34 : decode cX2_init 34 = .ok (.aload_n 0, 1) := by decide +kernel
theorem dX2_init_35 : decode cX2_init 35 = .ok (.iconst 3, 1) := by decide +kernel
theorem dX2_init_36 : decode cX2_init 36 = .ok (.newarray .int, 2) := by decide +kernel
theorem dX2_init_38 : decode cX2_init 38 = .ok (.putfield 30, 3) := by decide +kernel
theorem dX2_init_41 : decode cX2_init 41 = .ok (.aload_n 0, 1) := by decide +kernel
theorem dX2_init_42 : decode cX2_init 42 = .ok (.bipush 9, 2) := by decide +kernel
theorem dX2_init_44 : decode cX2_init 44 = .ok (.newarray .int, 2) := by decide +kernel
theorem dX2_init_46 : decode cX2_init 46 = .ok (.putfield 34, 3) := by decide +kernel
theorem dX2_init_49 : decode cX2_init 49 = .ok (.aload_n 0, 1) := by decide +kernel
theorem dX2_init_50 : decode cX2_init 50 = .ok (.bipush 9, 2) := by decide +kernel
theorem dX2_init_52 : decode cX2_init 52 = .ok (.newarray .int, 2) := by decide +kernel
theorem dX2_init_54 : decode cX2_init 54 = .ok (.putfield 37, 3) := by decide +kernel
theorem dX2_init_57 : decode cX2_init 57 = .ok (.aload_n 0, 1) := by decide +kernel
theorem dX2_init_58 : decode cX2_init 58 = .ok (.bipush 9, 2) := by decide +kernel
theorem dX2_init_60 : decode cX2_init 60 = .ok (.newarray .int, 2) := by decide +kernel
theorem dX2_init_62 : decode cX2_init 62 = .ok (.putfield 40, 3) := by decide +kernel
theorem dX2_init_65 : decode cX2_init 65 = .ok (.return_, 1) := by decide +kernel
theorem dX2_begin_0 : decode cX2_begin 0 = .ok (.aload_n 0, 1) := by decide +kernel
theorem dX2_begin_1 : decode cX2_begin 1 = .ok (.iconst 0, 1) := by decide +kernel
theorem dX2_begin_2 : decode cX2_begin 2 = .ok (.putfield 9, 3) := by decide +kernel
theorem dX2_begin_5 : decode cX2_begin 5 = .ok (.aload_n 0, 1) := by decide +kernel
theorem dX2_begin_6 : decode cX2_begin 6 = .ok (.iconst 0, 1) := by decide +kernel
theorem dX2_begin_7 : decode cX2_begin 7 = .ok (.putfield 15, 3) := by decide +kernel
theorem dX2_begin_10 : decode cX2_begin 10 = .ok (.aload_n 0, 1) := by decide +kernel
theorem dX2_begin_11 : decode cX2_begin 11 = .ok (.iload_n 3, 1) := by decide +kernel
theorem dX2_begin_12 : decode cX2_begin 12 = .ok (.putfield 18, 3) := by decide +kernel
theorem dX2_begin_15 : decode cX2_begin 15 = .ok (.aload_n 0, 1) := by decide +kernel
theorem dX2_begin_16 : decode cX2_begin 16 = .ok (.iconst 0, 1) := by decide +kernel
theorem dX2_begin_17 : decode cX2_begin 17 = .ok (.putfield 21, 3) := by decide +kernel
theorem dX2_begin_20 : decode cX2_begin 20 = .ok (.aload_n 0, 1) := by decide +kernel
theorem dX2_begin_21 : decode cX2_begin 21 = .ok (.iload_n 1, 1) := by decide +kernel
theorem dX2_begin_22 : decode cX2_begin 22 = .ok (.putfield 24, 3) := by decide +kernel
theorem dX2_begin_25 : decode cX2_begin 25 = .ok (.aload_n 0, 1) := by decide +kernel
theorem dX2_begin_26 : decode cX2_begin 26 = .ok (.iload_n 2, 1) := by decide +kernel
theorem dX2_begin_27 : decode cX2_begin 27 = .ok (.putfield 27, 3) := by decide +kernel
theorem dX2_begin_30 : decode cX2_begin 30 = .ok (.iconst 0, 1) := by decide +kernel
theorem dX2_begin_31 : decode cX2_begin 31 = .ok (.istore 4, 2) := by decide +kernel
theorem dX2_begin_33 : decode cX2_begin 33 = .ok (.iload 4, 2) := by decide +kernel
theorem dX2_begin_35 : decode cX2_begin 35 = .ok (.iconst 2, 1) := by decide +kernel
theorem dX2_begin_36 : decode cX2_begin 36 = .ok (.if_icmp .gt 17, 3) := by decide +kernel
theorem dX2_begin_39 : decode cX2_begin 39 = .ok (.aload_n 0, 1) := by decide +kernel
theorem dX2_begin_40 : decode cX2_begin 40 = .ok (.getfield 30, 3) := by decide +kernel
theorem dX2_begin_43 : decode cX2_begin 43 = .ok (.iload 4, 2) := by decide +kernel
theorem dX2_begin_45 : decode cX2_begin 45 = .ok (.iconst 0, 1) := by decide +kernel
theorem dX2_begin_46 : decode cX2_begin 46 = .ok (.iastore, 1) := by decide +kernel
theorem dX2_begin_47 : decode cX2_begin 47 = .ok (.iinc 4 1, 3) := by decide +kernel
theorem dX2_begin_50 : decode cX2_begin 50 = .ok (.goto (-17), 3) := by decide +kernel
theorem dX2_begin_53 : decode cX2_begin 53 = .ok (.return_, 1) := by decide +kernel
theorem dX2_add_0 : decode cX2_add 0 = .ok (.aload_n 0, 1) := by decide +kernel
theorem dX2_add_1 : decode cX2_add 1 = .ok (.getfield 9, 3) := by decide +kernel
theorem dX2_add_4 : decode cX2_add 4 = .ok (.ifCond .lt 12, 3) := by decide +kernel
theorem dX2_add_7 : decode cX2_add 7 = .ok (.aload_n 0, 1) := by decide +kernel
theorem dX2_add_8 : decode cX2_add 8 = .ok (.getfield 9, 3) := by decide +kernel
theorem dX2_add_11 : decode cX2_add 11 = .ok (.bipush 9, 2) := by decide +kernel
theorem dX2_add_13 : decode cX2_add 13 = .ok (.if_icmp .lt 4, 3) := by decide +kernel
theorem dX2_add_16 : decode cX2_add 16 = .ok (.return_, 1) := by decide +kernel
theorem dX2_add_17 : decode cX2_add 17 = .ok (.aload_n 0, 1) := by decide +kernel
theorem dX2_add_18 : decode cX2_add 18 = .ok (.getfield 34, 3) := by decide +kernel
theorem dX2_add_21 : decode cX2_add 21 = .ok (.aload_n 0, 1) := by decide +kernel
theorem dX2_add_22 : decode cX2_add 22 = .ok (.getfield 9, 3) := by decide +kernel
theorem dX2_add_25 : decode cX2_add 25 = .ok (.iload_n 1, 1) := by decide +kernel
theorem dX2_add_26 : decode cX2_add 26 = .ok (.iastore, 1) := by decide +kernel
theorem dX2_add_27 : decode cX2_add 27 = .ok (.aload_n 0, 1) := by decide +kernel
theorem dX2_add_28 : decode cX2_add 28 = .ok (.getfield 37, 3) := by decide +kernel
theorem dX2_add_31 : decode cX2_add 31 = .ok (.aload_n 0, 1) := by decide +kernel
theorem dX2_add_32 : decode cX2_add 32 = .ok (.getfield 9, 3) := by decide +kernel
theorem dX2_add_35 : decode cX2_add 35 = .ok (.iload_n 2, 1) := by decide +kernel
theorem dX2_add_36 : decode cX2_add 36 = .ok (.iastore, 1) := by decide +kernel
theorem dX2_add_37 : decode cX2_add 37 = .ok (.aload_n 0, 1) := by decide +kernel
theorem dX2_add_38 : decode cX2_add 38 = .ok (.getfield 40, 3) := by decide +kernel
theorem dX2_add_41 : decode cX2_add 41 = .ok (.aload_n 0, 1) := by decide +kernel
theorem dX2_add_42 : decode cX2_add 42 = .ok (.getfield 9, 3) := by decide +kernel
theorem dX2_add_45 : decode cX2_add 45 = .ok (.iload_n 3, 1) := by decide +kernel
theorem dX2_add_46 : decode cX2_add 46 = .ok (.iastore, 1) := by decide +kernel
theorem dX2_add_47 : decode cX2_add 47 = .ok (.aload_n 0, 1) := by decide +kernel
theorem dX2_add_48 : decode cX2_add 48 = .ok (.dup, 1) := by decide +kernel
theorem dX2_add_49 : decode cX2_add 49 = .ok (.getfield 9, 3) := by decide +kernel
theorem dX2_add_52 : decode cX2_add 52 = .ok (.iconst 1, 1) := by decide +kernel
theorem dX2_add_53 : decode cX2_add 53 = .ok (.iadd, 1) := by decide +kernel
theorem dX2_add_54 : decode cX2_add 54 = .ok (.putfield 9, 3) := by decide +kernel
theorem dX2_add_57 : decode cX2_add 57 = .ok (.return_, 1) := by decide +kernel
theorem dX2_become_0 : decode cX2_become 0 = .ok (.aload_n 0, 1) := by decide +kernel
theorem dX2_become_1 : decode cX2_become 1 = .ok (.aload_n 1, 1) := by decide +kernel
theorem dX2_become_2 : decode cX2_become 2 = .ok (.getfield 9, 3) := by decide +kernel
theorem dX2_become_5 : decode cX2_become 5 = .ok (.putfield 9, 3) := by decide +kernel
theorem dX2_become_8 : decode cX2_become 8 = .ok (.aload_n 0, 1) := by decide +kernel
theorem dX2_become_9 : decode cX2_become 9 = .ok (.aload_n 1, 1) := by decide +kernel
theorem dX2_become_10 : decode cX2_become 10 = .ok (.getfield 15, 3) := by decide +kernel
theorem dX2_become_13 : decode cX2_become 13 = .ok (.putfield 15, 3) := by decide +kernel
theorem dX2_become_16 : decode cX2_become 16 = .ok (.aload_n 0, 1) := by decide +kernel
theorem dX2_become_17 : decode cX2_become 17 = .ok (.aload_n 1, 1) := by decide +kernel
theorem dX2_become_18 : decode cX2_become 18 = .ok (.getfield 18, 3) := by decide +kernel
theorem dX2_become_21 : decode cX2_become 21 = .ok (.putfield 18, 3) := by decide +kernel
theorem dX2_become_24 : decode cX2_become 24 = .ok (.aload_n 0, 1) := by decide +kernel
theorem dX2_become_25 : decode cX2_become 25 = .ok (.aload_n 1, 1) := by decide +kernel
theorem dX2_become_26 : decode cX2_become 26 = .ok (.getfield 21, 3) := by decide +kernel
theorem dX2_become_29 : decode cX2_become 29 = .ok (.putfield 21, 3) := by decide +kernel
theorem dX2_become_32 : decode cX2_become 32 = .ok (.aload_n 0, 1) := by decide +kernel
theorem dX2_become_33 : decode cX2_become 33 = .ok (.aload_n 1, 1) := by decide +kernel
theorem dX2_become_34 : decode cX2_become 34 = .ok (.getfield 24, 3) := by decide +kernel
theorem dX2_become_37 : decode cX2_become 37 = .ok (.putfield 24, 3) := by decide +kernel
theorem dX2_become_40 : decode cX2_become 40 = .ok (.aload_n 0, 1) := by decide +kernel
theorem dX2_become_41 : decode cX2_become 41 = .ok (.aload_n 1, 1) := by decide +kernel
theorem dX2_become_42 : decode cX2_become 42 = .ok (.getfield 27, 3) := by decide +kernel
theorem dX2_become_45 : decode cX2_become 45 = .ok (.putfield 27, 3) := by decide +kernel
theorem dX2_become_48 : decode cX2_become 48 = .ok (.aload_n 1, 1) := by decide +kernel
theorem dX2_become_49 : decode cX2_become 49 = .ok (.getfield 30, 3) := by decide +kernel
theorem dX2_become_52 : decode cX2_become 52 = .ok (.iconst 0, 1) := by decide +kernel
theorem dX2_become_53 : decode cX2_become 53 = .ok (.aload_n 0, 1) := by decide +kernel
theorem dX2_become_54 : decode cX2_become 54 = .ok (.getfield 30, 3) := by decide +kernel
theorem dX2_become_57 : decode cX2_become 57 = .ok (.iconst 0, 1) := by decide +kernel
theorem dX2_become_58 : decode cX2_become 58 = .ok (.iconst 3, 1) := by decide +kernel
theorem dX2_become_59 : decode cX2_become 59 = .ok (.invokestatic 43, 3) := by decide +kernel
theorem dX2_become_62 : decode cX2_become 62 = .ok (.aload_n 1, 1) := by decide +kernel
theorem dX2_become_63 : decode cX2_become 63 = .ok (.getfield 34, 3) := by decide +kernel
theorem dX2_become_66 : decode cX2_become 66 = .ok (.iconst 0, 1) := by decide +kernel
theorem dX2_become_67 : decode cX2_become 67 = .ok (.aload_n 0, 1) := by decide +kernel
theorem dX2_become_68 : decode cX2_become 68 = .ok (.getfield 34, 3) := by decide +kernel
theorem dX2_become_71 : decode cX2_become 71 = .ok (.iconst 0, 1) := by decide +kernel
theorem dX2_become_72 : decode cX2_become 72 = .ok (.bipush 9, 2) := by decide +kernel
theorem dX2_become_74 : decode cX2_become 74 = .ok (.invokestatic 43, 3) := by decide +kernel
theorem dX2_become_77 : decode cX2_become 77 = .ok (.aload_n 1, 1) := by decide +kernel
theorem dX2_become_78 : decode cX2_become 78 = .ok (.getfield 37, 3) := by decide +kernel
theorem dX2_become_81 : decode cX2_become 81 = .ok (.iconst 0, 1) := by decide +kernel
theorem dX2_become_82 : decode cX2_become 82 = .ok (.aload_n 0, 1) := by decide +kernel
theorem dX2_become_83 : decode cX2_become 83 = .ok (.getfield 37, 3) := by decide +kernel
theorem dX2_become_86 : decode cX2_become 86 = .ok (.iconst 0, 1) := by decide +kernel
theorem dX2_become_87 : decode cX2_become 87 = .ok (.bipush 9, 2) := by decide +kernel
theorem dX2_become_89 : decode cX2_become 89 = .ok (.invokestatic 43, 3) := by decide +kernel
theorem dX2_become_92 : decode cX2_become 92 = .ok (.aload_n 1, 1) := by decide +kernel
theorem dX2_become_93 : decode cX2_become 93 = .ok (.getfield 40, 3) := by decide +kernel
theorem dX2_become_96 : decode cX2_become 96 = .ok (.iconst 0, 1) := by decide +kernel
theorem dX2_become_97 : decode cX2_become 97 = .ok (.aload_n 0, 1) := by decide +kernel
theorem dX2_become_98 : decode cX2_become 98 = .ok (.getfield 40, 3) := by decide +kernel
theorem dX2_become_101 : decode cX2_become 101 = .ok (.iconst 0, 1) := by decide +kernel
theorem dX2_become_102 : decode cX2_become 102 = .ok (.bipush 9, 2) := by decide +kernel
theorem dX2_become_104 : decode cX2_become 104 = .ok (.invokestatic 43, 3) := by decide +kernel
theorem dX2_become_107 : decode cX2_become 107 = .ok (.return_, 1) := by decide +kernel
theorem dX2_isNone_0 : decode cX2_isNone 0 = .ok (.aload_n 0, 1) := by decide +kernel
theorem dX2_isNone_1 : decode cX2_isNone 1 = .ok (.getfield 9, 3) := by decide +kernel
theorem dX2_isNone_4 : decode cX2_isNone 4 = .ok (.iconst 1, 1) := by decide +kernel
theorem dX2_isNone_5 : decode cX2_isNone 5 = .ok (.if_icmp .ge 7, 3) := by decide +kernel
theorem dX2_isNone_8 : decode cX2_isNone 8 = .ok (.iconst 1, 1) := by decide +kernel
theorem dX2_isNone_9 : decode cX2_isNone 9 = .ok (.goto 4, 3) := by decide +kernel
theorem dX2_isNone_12 : decode cX2_isNone 12 = .ok (.iconst 0, 1) := by decide +kernel
theorem dX2_isNone_13 : decode cX2_isNone 13 = .ok (.ireturn, 1) := by decide +kernel
theorem dX2_has_0 : decode cX2_has 0 = .ok (.iload_n 1, 1) := by decide +kernel
theorem dX2_has_1 : decode cX2_has 1 = .ok (.ifCond .lt 21, 3) := by decide +kernel
theorem dX2_has_4 : decode cX2_has 4 = .ok (.iload_n 1, 1) := by decide +kernel
theorem dX2_has_5 : decode cX2_has 5 = .ok (.aload_n 0, 1) := by decide +kernel
theorem dX2_has_6 : decode cX2_has 6 = .ok (.getfield 9, 3) := by decide +kernel
theorem dX2_has_9 : decode cX2_has 9 = .ok (.if_icmp .ge 13, 3) := by decide +kernel
theorem dX2_has_12 : decode cX2_has 12 = .ok (.iload_n 1, 1) := by decide +kernel
theorem dX2_has_13 : decode cX2_has 13 = .ok (.bipush 9, 2) := by decide +kernel
theorem dX2_has_15 : decode cX2_has 15 = .ok (.if_icmp .ge 7, 3) := by decide +kernel
theorem dX2_has_18 : decode cX2_has 18 = .ok (.iconst 1, 1) := by decide +kernel
theorem dX2_has_19 : decode cX2_has 19 = .ok (.goto 4, 3) := by decide +kernel
theorem dX2_has_22 : decode cX2_has 22 = .ok (.iconst 0, 1) := by decide +kernel
theorem dX2_has_23 : decode cX2_has 23 = .ok (.ireturn, 1) := by decide +kernel
theorem dX2_hasVeto_0 : decode cX2_hasVeto 0 = .ok (.aload_n 0, 1) := by decide +kernel
theorem dX2_hasVeto_1 : decode cX2_hasVeto 1 = .ok (.iload_n 1, 1) := by decide +kernel
theorem dX2_hasVeto_2 : decode cX2_hasVeto 2 = .ok (.invokevirtual 49, 3) := by decide +kernel
theorem dX2_hasVeto_5 : decode cX2_hasVeto 5 = .ok (.ifCond .eq 19, 3) := by decide +kernel
theorem dX2_hasVeto_8 : decode cX2_hasVeto 8 = .ok (.aload_n 0, 1) := by decide +kernel
theorem dX2_hasVeto_9 : decode cX2_hasVeto 9 = .ok (.getfield 21, 3) := by decide +kernel
theorem dX2_hasVeto_12 : decode cX2_hasVeto 12 = .ok (.iload_n 1, 1) := by decide +kernel
theorem dX2_hasVeto_13 : decode cX2_hasVeto 13 = .ok (.ishr, 1) := by decide +kernel
theorem dX2_hasVeto_14 : decode cX2_hasVeto 14 = .ok (.iconst 1, 1) := by decide +kernel
theorem dX2_hasVeto_15 : decode cX2_hasVeto 15 = .ok (.iand, 1) := by decide +kernel
theorem dX2_hasVeto_16 : decode cX2_hasVeto 16 = .ok (.iconst 1, 1) := by decide +kernel
theorem dX2_hasVeto_17 : decode cX2_hasVeto 17 = .ok (.if_icmp .ne 7, 3) := by decide +kernel
theorem dX2_hasVeto_20 : decode cX2_hasVeto 20 = .ok (.iconst 1, 1) := by decide +kernel
theorem dX2_hasVeto_21 : decode cX2_hasVeto 21 = .ok (.goto 4, 3) := by decide +kernel
theorem dX2_hasVeto_24 : decode cX2_hasVeto 24 = .ok (.iconst 0, 1) := by decide +kernel
theorem dX2_hasVeto_25 : decode cX2_hasVeto 25 = .ok (.ireturn, 1) := by decide +kernel
theorem dX2_kindOf_0 : decode cX2_kindOf 0 = .ok (.aload_n 0, 1) := by decide +kernel
theorem dX2_kindOf_1 : decode cX2_kindOf 1 = .ok (.iload_n 1, 1) := by decide +kernel
theorem dX2_kindOf_2 : decode cX2_kindOf 2 = .ok (.invokevirtual 49, 3) := by decide +kernel
theorem dX2_kindOf_5 : decode cX2_kindOf 5 = .ok (.ifCond .eq 12, 3) := by decide +kernel
theorem dX2_kindOf_8 : decode cX2_kindOf 8 = .ok (.aload_n 0, 1) := by decide +kernel
theorem dX2_kindOf_9 : decode cX2_kindOf 9 = .ok (.getfield 34, 3) := by decide +kernel
theorem dX2_kindOf_12 : decode cX2_kindOf 12 = .ok (.iload_n 1, 1) := by decide +kernel
theorem dX2_kindOf_13 : decode cX2_kindOf 13 = .ok (.iaload, 1) := by decide +kernel
theorem dX2_kindOf_14 : decode cX2_kindOf 14 = .ok (.goto 4, 3) := by decide +kernel
theorem dX2_kindOf_17 : decode cX2_kindOf 17 = .ok (.iconst 0, 1) := by decide +kernel
theorem dX2_kindOf_18 : decode cX2_kindOf 18 = .ok (.ireturn, 1) := by decide +kernel
theorem dX2_stockOf_0 : decode cX2_stockOf 0 = .ok (.aload_n 0, 1) := by decide +kernel
theorem dX2_stockOf_1 : decode cX2_stockOf 1 = .ok (.iload_n 1, 1) := by decide +kernel
theorem dX2_stockOf_2 : decode cX2_stockOf 2 = .ok (.invokevirtual 49, 3) := by decide +kernel
theorem dX2_stockOf_5 : decode cX2_stockOf 5 = .ok (.ifCond .eq 12, 3) := by decide +kernel
theorem dX2_stockOf_8 : decode cX2_stockOf 8 = .ok (.aload_n 0, 1) := by decide +kernel
theorem dX2_stockOf_9 : decode cX2_stockOf 9 = .ok (.getfield 37, 3) := by decide +kernel
theorem dX2_stockOf_12 : decode cX2_stockOf 12 = .ok (.iload_n 1, 1) := by decide +kernel
theorem dX2_stockOf_13 : decode cX2_stockOf 13 = .ok (.iaload, 1) := by decide +kernel
theorem dX2_stockOf_14 : decode cX2_stockOf 14 = .ok (.goto 4, 3) := by decide +kernel
theorem dX2_stockOf_17 : decode cX2_stockOf 17 = .ok (.iconst 0, 1) := by decide +kernel
theorem dX2_stockOf_18 : decode cX2_stockOf 18 = .ok (.ireturn, 1) := by decide +kernel
theorem dX2_warmOf_0 : decode cX2_warmOf 0 = .ok (.aload_n 0, 1) := by decide +kernel
theorem dX2_warmOf_1 : decode cX2_warmOf 1 = .ok (.iload_n 1, 1) := by decide +kernel
theorem dX2_warmOf_2 : decode cX2_warmOf 2 = .ok (.invokevirtual 49, 3) := by decide +kernel
theorem dX2_warmOf_5 : decode cX2_warmOf 5 = .ok (.ifCond .eq 12, 3) := by decide +kernel
theorem dX2_warmOf_8 : decode cX2_warmOf 8 = .ok (.aload_n 0, 1) := by decide +kernel
theorem dX2_warmOf_9 : decode cX2_warmOf 9 = .ok (.getfield 40, 3) := by decide +kernel
theorem dX2_warmOf_12 : decode cX2_warmOf 12 = .ok (.iload_n 1, 1) := by decide +kernel
theorem dX2_warmOf_13 : decode cX2_warmOf 13 = .ok (.iaload, 1) := by decide +kernel
theorem dX2_warmOf_14 : decode cX2_warmOf 14 = .ok (.goto 4, 3) := by decide +kernel
theorem dX2_warmOf_17 : decode cX2_warmOf 17 = .ok (.iconst 0, 1) := by decide +kernel
theorem dX2_warmOf_18 : decode cX2_warmOf 18 = .ok (.ireturn, 1) := by decide +kernel
theorem dX2_tellOf_0 : decode cX2_tellOf 0 = .ok (.iload_n 2, 1) := by decide +kernel
theorem dX2_tellOf_1 : decode cX2_tellOf 1 = .ok (.ifCond .ne 9, 3) := by decide +kernel
theorem dX2_tellOf_4 : decode cX2_tellOf 4 = .ok (.aload_n 0, 1) := by decide +kernel
theorem dX2_tellOf_5 : decode cX2_tellOf 5 = .ok (.iload_n 1, 1) := by decide +kernel
theorem dX2_tellOf_6 : decode cX2_tellOf 6 = .ok (.invokevirtual 53, 3) := by decide +kernel
theorem dX2_tellOf_9 : decode cX2_tellOf 9 = .ok (.ireturn, 1) := by decide +kernel
theorem dX2_tellOf_10 : decode cX2_tellOf 10 = .ok (.iload_n 2, 1) := by decide +kernel
theorem dX2_tellOf_11 : decode cX2_tellOf 11 = .ok (.iconst 1, 1) := by decide +kernel
theorem dX2_tellOf_12 : decode cX2_tellOf 12 = .ok (.if_icmp .ne 11, 3) := by decide +kernel
theorem dX2_tellOf_15 : decode cX2_tellOf 15 = .ok (.aload_n 0, 1) := by decide +kernel
theorem dX2_tellOf_16 : decode cX2_tellOf 16 = .ok (.iload_n 1, 1) := by decide +kernel
theorem dX2_tellOf_17 : decode cX2_tellOf 17 = .ok (.invokevirtual 57, 3) := by decide +kernel
theorem dX2_tellOf_20 : decode cX2_tellOf 20 = .ok (.goto 8, 3) := by decide +kernel
theorem dX2_tellOf_23 : decode cX2_tellOf 23 = .ok (.aload_n 0, 1) := by decide +kernel
theorem dX2_tellOf_24 : decode cX2_tellOf 24 = .ok (.iload_n 1, 1) := by decide +kernel
theorem dX2_tellOf_25 : decode cX2_tellOf 25 = .ok (.invokevirtual 60, 3) := by decide +kernel
theorem dX2_tellOf_28 : decode cX2_tellOf 28 = .ok (.ireturn, 1) := by decide +kernel
theorem dX2_countedFor_0 : decode cX2_countedFor 0 = .ok (.iload_n 1, 1) := by decide +kernel
theorem dX2_countedFor_1 : decode cX2_countedFor 1 = .ok (.iconst 0, 1) := by decide +kernel
theorem dX2_countedFor_2 : decode cX2_countedFor 2 = .ok (.iconst 2, 1) := by decide +kernel
theorem dX2_countedFor_3 : decode cX2_countedFor 3 = .ok (.invokestatic 63, 3) := by decide +kernel
theorem dX2_countedFor_6 : decode cX2_countedFor 6 = .ok (.ifCond .eq 12, 3) := by decide +kernel
theorem dX2_countedFor_9 : decode cX2_countedFor 9 = .ok (.aload_n 0, 1) := by decide +kernel
theorem dX2_countedFor_10 : decode cX2_countedFor 10 = .ok (.getfield 30, 3) := by decide +kernel
theorem dX2_countedFor_13 : decode cX2_countedFor 13 = .ok (.iload_n 1, 1) := by decide +kernel
theorem dX2_countedFor_14 : decode cX2_countedFor 14 = .ok (.iaload, 1) := by decide +kernel
theorem dX2_countedFor_15 : decode cX2_countedFor 15 = .ok (.goto 4, 3) := by decide +kernel
theorem dX2_countedFor_18 : decode cX2_countedFor 18 = .ok (.iconst 0, 1) := by decide +kernel
theorem dX2_countedFor_19 : decode cX2_countedFor 19 = .ok (.ireturn, 1) := by decide +kernel
theorem dX2_allCounted_0 : decode cX2_allCounted 0 = .ok (.aload_n 0, 1) := by decide +kernel
theorem dX2_allCounted_1 : decode cX2_allCounted 1 = .ok (.getfield 30, 3) := by decide +kernel
theorem dX2_allCounted_4 : decode cX2_allCounted 4 = .ok (.iconst 0, 1) := by decide +kernel
theorem dX2_allCounted_5 : decode cX2_allCounted 5 = .ok (.iaload, 1) := by decide +kernel
theorem dX2_allCounted_6 : decode cX2_allCounted 6 = .ok (.aload_n 0, 1) := by decide +kernel
theorem dX2_allCounted_7 : decode cX2_allCounted 7 = .ok (.getfield 30, 3) := by decide +kernel
theorem dX2_allCounted_10 : decode cX2_allCounted 10 = .ok (.iconst 1, 1) := by decide +kernel
theorem dX2_allCounted_11 : decode cX2_allCounted 11 = .ok (.iaload, 1) := by decide +kernel
theorem dX2_allCounted_12 : decode cX2_allCounted 12 = .ok (.iadd, 1) := by decide +kernel
theorem dX2_allCounted_13 : decode cX2_allCounted 13 = .ok (.aload_n 0, 1) := by decide +kernel
theorem dX2_allCounted_14 : decode cX2_allCounted 14 = .ok (.getfield 30, 3) := by decide +kernel
theorem dX2_allCounted_17 : decode cX2_allCounted 17 = .ok (.iconst 2, 1) := by decide +kernel
theorem dX2_allCounted_18 : decode cX2_allCounted 18 = .ok (.iaload, 1) := by decide +kernel
theorem dX2_allCounted_19 : decode cX2_allCounted 19 = .ok (.iadd, 1) := by decide +kernel
theorem dX2_allCounted_20 : decode cX2_allCounted 20 = .ok (.ireturn, 1) := by decide +kernel
theorem dX2_allStock_0 : decode cX2_allStock 0 = .ok (.iconst 0, 1) := by decide +kernel
theorem dX2_allStock_1 : decode cX2_allStock 1 = .ok (.istore_n 1, 1) := by decide +kernel
theorem dX2_allStock_2 : decode cX2_allStock 2 = .ok (.iconst 0, 1) := by decide +kernel
theorem dX2_allStock_3 : decode cX2_allStock 3 = .ok (.istore_n 2, 1) := by decide +kernel
theorem dX2_allStock_4 : decode cX2_allStock 4 = .ok (.iload_n 2, 1) := by decide +kernel
theorem dX2_allStock_5 : decode cX2_allStock 5 = .ok (.aload_n 0, 1) := by decide +kernel
theorem dX2_allStock_6 : decode cX2_allStock 6 = .ok (.getfield 9, 3) := by decide +kernel
theorem dX2_allStock_9 : decode cX2_allStock 9 = .ok (.if_icmp .ge 17, 3) := by decide +kernel
theorem dX2_allStock_12 : decode cX2_allStock 12 = .ok (.iload_n 1, 1) := by decide +kernel
theorem dX2_allStock_13 : decode cX2_allStock 13 = .ok (.aload_n 0, 1) := by decide +kernel
theorem dX2_allStock_14 : decode cX2_allStock 14 = .ok (.iload_n 2, 1) := by decide +kernel
theorem dX2_allStock_15 : decode cX2_allStock 15 = .ok (.invokevirtual 53, 3) := by decide +kernel
theorem dX2_allStock_18 : decode cX2_allStock 18 = .ok (.iadd, 1) := by decide +kernel
theorem dX2_allStock_19 : decode cX2_allStock 19 = .ok (.istore_n 1, 1) := by decide +kernel
theorem dX2_allStock_20 : decode cX2_allStock 20 = .ok (.iinc 2 1, 3) := by decide +kernel
theorem dX2_allStock_23 : decode cX2_allStock 23 = .ok (.goto (-19), 3) := by decide +kernel
theorem dX2_allStock_26 : decode cX2_allStock 26 = .ok (.iload_n 1, 1) := by decide +kernel
theorem dX2_allStock_27 : decode cX2_allStock 27 = .ok (.ireturn, 1) := by decide +kernel
theorem dX2_kindTo_0 : decode cX2_kindTo 0 = .ok (.aload_n 0, 1) := by decide +kernel
theorem dX2_kindTo_1 : decode cX2_kindTo 1 = .ok (.iload_n 1, 1) := by decide +kernel
theorem dX2_kindTo_2 : decode cX2_kindTo 2 = .ok (.invokevirtual 49, 3) := by decide +kernel
theorem dX2_kindTo_5 : decode cX2_kindTo 5 = .ok (.ifCond .eq 10, 3) := by decide +kernel
theorem dX2_kindTo_8 : decode cX2_kindTo 8 = .ok (.aload_n 0, 1) := by decide +kernel
theorem dX2_kindTo_9 : decode cX2_kindTo 9 = .ok (.getfield 34, 3) := by decide +kernel
theorem dX2_kindTo_12 : decode cX2_kindTo 12 = .ok (.iload_n 1, 1) := by decide +kernel
theorem dX2_kindTo_13 : decode cX2_kindTo 13 = .ok (.iload_n 2, 1) := by decide +kernel
theorem dX2_kindTo_14 : decode cX2_kindTo 14 = .ok (.iastore, 1) := by decide +kernel
theorem dX2_kindTo_15 : decode cX2_kindTo 15 = .ok (.return_, 1) := by decide +kernel
theorem dX2_warmTo_0 : decode cX2_warmTo 0 = .ok (.aload_n 0, 1) := by decide +kernel
theorem dX2_warmTo_1 : decode cX2_warmTo 1 = .ok (.iload_n 1, 1) := by decide +kernel
theorem dX2_warmTo_2 : decode cX2_warmTo 2 = .ok (.invokevirtual 49, 3) := by decide +kernel
theorem dX2_warmTo_5 : decode cX2_warmTo 5 = .ok (.ifCond .eq 10, 3) := by decide +kernel
theorem dX2_warmTo_8 : decode cX2_warmTo 8 = .ok (.aload_n 0, 1) := by decide +kernel
theorem dX2_warmTo_9 : decode cX2_warmTo 9 = .ok (.getfield 40, 3) := by decide +kernel
theorem dX2_warmTo_12 : decode cX2_warmTo 12 = .ok (.iload_n 1, 1) := by decide +kernel
theorem dX2_warmTo_13 : decode cX2_warmTo 13 = .ok (.iload_n 2, 1) := by decide +kernel
theorem dX2_warmTo_14 : decode cX2_warmTo 14 = .ok (.iastore, 1) := by decide +kernel
theorem dX2_warmTo_15 : decode cX2_warmTo 15 = .ok (.return_, 1) := by decide +kernel
theorem dX2_lotTo_0 : decode cX2_lotTo 0 = .ok (.aload_n 0, 1) := by decide +kernel
theorem dX2_lotTo_1 : decode cX2_lotTo 1 = .ok (.iload_n 1, 1) := by decide +kernel
theorem dX2_lotTo_2 : decode cX2_lotTo 2 = .ok (.putfield 18, 3) := by decide +kernel
theorem dX2_lotTo_5 : decode cX2_lotTo 5 = .ok (.return_, 1) := by decide +kernel
theorem dX2_turnVeto_0 : decode cX2_turnVeto 0 = .ok (.aload_n 0, 1) := by decide +kernel
theorem dX2_turnVeto_1 : decode cX2_turnVeto 1 = .ok (.iload_n 1, 1) := by decide +kernel
theorem dX2_turnVeto_2 : decode cX2_turnVeto 2 = .ok (.invokevirtual 49, 3) := by decide +kernel
theorem dX2_turnVeto_5 : decode cX2_turnVeto 5 = .ok (.ifCond .eq 15, 3) := by decide +kernel
theorem dX2_turnVeto_8 : decode cX2_turnVeto 8 = .ok (.aload_n 0, 1) := by decide +kernel
theorem dX2_turnVeto_9 : decode cX2_turnVeto 9 = .ok (.dup, 1) := by decide +kernel
theorem dX2_turnVeto_10 : decode cX2_turnVeto 10 = .ok (.getfield 21, 3) := by decide +kernel
theorem dX2_turnVeto_13 : decode cX2_turnVeto 13 = .ok (.iconst 1, 1) := by decide +kernel
theorem dX2_turnVeto_14 : decode cX2_turnVeto 14 = .ok (.iload_n 1, 1) := by decide +kernel
theorem dX2_turnVeto_15 : decode cX2_turnVeto 15 = .ok (.ishl, 1) := by decide +kernel
theorem dX2_turnVeto_16 : decode cX2_turnVeto 16 = .ok (.ixor, 1) := by decide +kernel
theorem dX2_turnVeto_17 : decode cX2_turnVeto 17 = .ok (.putfield 21, 3) := by decide +kernel
theorem dX2_turnVeto_20 : decode cX2_turnVeto 20 = .ok (.return_, 1) := by decide +kernel
theorem dX2_standIn_0 : decode cX2_standIn 0 = .ok (.iload_n 1, 1) := by decide +kernel
theorem dX2_standIn_1 : decode cX2_standIn 1 = .ok (.ifCond .ne 11, 3) := by decide +kernel
theorem dX2_standIn_4 : decode cX2_standIn 4 = .ok (.aload_n 0, 1) := by decide +kernel
theorem dX2_standIn_5 : decode cX2_standIn 5 = .ok (.iload_n 2, 1) := by decide +kernel
theorem dX2_standIn_6 : decode cX2_standIn 6 = .ok (.putfield 24, 3) := by decide +kernel
theorem dX2_standIn_9 : decode cX2_standIn 9 = .ok (.goto 8, 3) := by decide +kernel
theorem dX2_standIn_12 : decode cX2_standIn 12 = .ok (.aload_n 0, 1) := by decide +kernel
theorem dX2_standIn_13 : decode cX2_standIn 13 = .ok (.iload_n 2, 1) := by decide +kernel
theorem dX2_standIn_14 : decode cX2_standIn 14 = .ok (.putfield 27, 3) := by decide +kernel
theorem dX2_standIn_17 : decode cX2_standIn 17 = .ok (.return_, 1) := by decide +kernel
theorem dX2_lying_0 : decode cX2_lying 0 = .ok (.aload_n 0, 1) := by decide +kernel
theorem dX2_lying_1 : decode cX2_lying 1 = .ok (.iload_n 1, 1) := by decide +kernel
theorem dX2_lying_2 : decode cX2_lying 2 = .ok (.invokevirtual 49, 3) := by decide +kernel
theorem dX2_lying_5 : decode cX2_lying 5 = .ok (.ifCond .ne 5, 3) := by decide +kernel
theorem dX2_lying_8 : decode cX2_lying 8 = .ok (.iconst 2, 1) := by decide +kernel
theorem dX2_lying_9 : decode cX2_lying 9 = .ok (.ireturn, 1) := by decide +kernel
theorem dX2_lying_10 : decode cX2_lying 10 = .ok (.aload_n 0, 1) := by decide +kernel
theorem dX2_lying_11 : decode cX2_lying 11 = .ok (.getfield 34, 3) := by decide +kernel
theorem dX2_lying_14 : decode cX2_lying 14 = .ok (.iload_n 1, 1) := by decide +kernel
theorem dX2_lying_15 : decode cX2_lying 15 = .ok (.iaload, 1) := by decide +kernel
theorem dX2_lying_16 : decode cX2_lying 16 = .ok (.tableswitch 95 1 5 #[36, 43, 50, 60, 70], 36) := by decide +kernel
theorem dX2_lying_52 : decode cX2_lying 52 = .ok (.aload_n 0, 1) := by decide +kernel
theorem dX2_lying_53 : decode cX2_lying 53 = .ok (.iload_n 1, 1) := by decide +kernel
theorem dX2_lying_54 : decode cX2_lying 54 = .ok (.iconst 1, 1) := by decide +kernel
theorem dX2_lying_55 : decode cX2_lying 55 = .ok (.invokevirtual 67, 3) := by decide +kernel
theorem dX2_lying_58 : decode cX2_lying 58 = .ok (.ireturn, 1) := by decide +kernel
theorem dX2_lying_59 : decode cX2_lying 59 = .ok (.aload_n 0, 1) := by decide +kernel
theorem dX2_lying_60 : decode cX2_lying 60 = .ok (.iload_n 1, 1) := by decide +kernel
theorem dX2_lying_61 : decode cX2_lying 61 = .ok (.iconst 2, 1) := by decide +kernel
theorem dX2_lying_62 : decode cX2_lying 62 = .ok (.invokevirtual 67, 3) := by decide +kernel
theorem dX2_lying_65 : decode cX2_lying 65 = .ok (.ireturn, 1) := by decide +kernel
theorem dX2_lying_66 : decode cX2_lying 66 = .ok (.aload_n 0, 1) := by decide +kernel
theorem dX2_lying_67 : decode cX2_lying 67 = .ok (.iload_n 1, 1) := by decide +kernel
theorem dX2_lying_68 : decode cX2_lying 68 = .ok (.iconst 1, 1) := by decide +kernel
theorem dX2_lying_69 : decode cX2_lying 69 = .ok (.invokevirtual 67, 3) := by decide +kernel
theorem dX2_lying_72 : decode cX2_lying 72 = .ok (.invokestatic 71, 3) := by decide +kernel
theorem dX2_lying_75 : decode cX2_lying 75 = .ok (.ireturn, 1) := by decide +kernel
theorem dX2_lying_76 : decode cX2_lying 76 = .ok (.aload_n 0, 1) := by decide +kernel
theorem dX2_lying_77 : decode cX2_lying 77 = .ok (.getfield 40, 3) := by decide +kernel
theorem dX2_lying_80 : decode cX2_lying 80 = .ok (.iload_n 1, 1) := by decide +kernel
theorem dX2_lying_81 : decode cX2_lying 81 = .ok (.iaload, 1) := by decide +kernel
theorem dX2_lying_82 : decode cX2_lying 82 = .ok (.invokestatic 74, 3) := by decide +kernel
theorem dX2_lying_85 : decode cX2_lying 85 = .ok (.ireturn, 1) := by decide +kernel
theorem dX2_lying_86 : decode cX2_lying 86 = .ok (.aload_n 0, 1) := by decide +kernel
theorem dX2_lying_87 : decode cX2_lying 87 = .ok (.getfield 37, 3) := by decide +kernel
theorem dX2_lying_90 : decode cX2_lying 90 = .ok (.iload_n 1, 1) := by decide +kernel
theorem dX2_lying_91 : decode cX2_lying 91 = .ok (.iaload, 1) := by decide +kernel
theorem dX2_lying_92 : decode cX2_lying 92 = .ok (.bipush 10, 2) := by decide +kernel
theorem dX2_lying_94 : decode cX2_lying 94 = .ok (.if_icmp .ge 7, 3) := by decide +kernel
theorem dX2_lying_97 : decode cX2_lying 97 = .ok (.iconst 2, 1) := by decide +kernel
theorem dX2_lying_98 : decode cX2_lying 98 = .ok (.goto 12, 3) := by decide +kernel
theorem dX2_lying_101 : decode cX2_lying 101 = .ok (.aload_n 0, 1) := by decide +kernel
theorem dX2_lying_102 : decode cX2_lying 102 = .ok (.getfield 40, 3) := by decide +kernel
theorem dX2_lying_105 : decode cX2_lying 105 = .ok (.iload_n 1, 1) := by decide +kernel
theorem dX2_lying_106 : decode cX2_lying 106 = .ok (.iaload, 1) := by decide +kernel
theorem dX2_lying_107 : decode cX2_lying 107 = .ok (.invokestatic 74, 3) := by decide +kernel
theorem dX2_lying_110 : decode cX2_lying 110 = .ok (.ireturn, 1) := by decide +kernel
theorem dX2_lying_111 : decode cX2_lying 111 = .ok (.iconst 2, 1) := by decide +kernel
theorem dX2_lying_112 : decode cX2_lying 112 = .ok (.ireturn, 1) := by decide +kernel
theorem dX2_nearerBy_0 : decode cX2_nearerBy 0 = .ok (.iload_n 1, 1) := by decide +kernel
theorem dX2_nearerBy_1 : decode cX2_nearerBy 1 = .ok (.aload_n 0, 1) := by decide +kernel
theorem dX2_nearerBy_2 : decode cX2_nearerBy 2 = .ok (.getfield 27, 3) := by decide +kernel
theorem dX2_nearerBy_5 : decode cX2_nearerBy 5 = .ok (.isub, 1) := by decide +kernel
theorem dX2_nearerBy_6 : decode cX2_nearerBy 6 = .ok (.invokestatic 77, 3) := by decide +kernel
theorem dX2_nearerBy_9 : decode cX2_nearerBy 9 = .ok (.iload_n 1, 1) := by decide +kernel
theorem dX2_nearerBy_10 : decode cX2_nearerBy 10 = .ok (.aload_n 0, 1) := by decide +kernel
theorem dX2_nearerBy_11 : decode cX2_nearerBy 11 = .ok (.getfield 24, 3) := by decide +kernel
theorem dX2_nearerBy_14 : decode cX2_nearerBy 14 = .ok (.isub, 1) := by decide +kernel
theorem dX2_nearerBy_15 : decode cX2_nearerBy 15 = .ok (.invokestatic 77, 3) := by decide +kernel
theorem dX2_nearerBy_18 : decode cX2_nearerBy 18 = .ok (.isub, 1) := by decide +kernel
theorem dX2_nearerBy_19 : decode cX2_nearerBy 19 = .ok (.istore_n 3, 1) := by decide +kernel
theorem dX2_nearerBy_20 : decode cX2_nearerBy 20 = .ok (.iload_n 3, 1) := by decide +kernel
theorem dX2_nearerBy_21 : decode cX2_nearerBy 21 = .ok (.iload_n 2, 1) := by decide +kernel
theorem dX2_nearerBy_22 : decode cX2_nearerBy 22 = .ok (.if_icmp .lt 5, 3) := by decide +kernel
theorem dX2_nearerBy_25 : decode cX2_nearerBy 25 = .ok (.iconst 0, 1) := by decide +kernel
theorem dX2_nearerBy_26 : decode cX2_nearerBy 26 = .ok (.ireturn, 1) := by decide +kernel
theorem dX2_nearerBy_27 : decode cX2_nearerBy 27 = .ok (.iload_n 3, 1) := by decide +kernel
theorem dX2_nearerBy_28 : decode cX2_nearerBy 28 = .ok (.iload_n 2, 1) := by decide +kernel
theorem dX2_nearerBy_29 : decode cX2_nearerBy 29 = .ok (.ineg, 1) := by decide +kernel
theorem dX2_nearerBy_30 : decode cX2_nearerBy 30 = .ok (.if_icmp .gt 7, 3) := by decide +kernel
theorem dX2_nearerBy_33 : decode cX2_nearerBy 33 = .ok (.iconst 1, 1) := by decide +kernel
theorem dX2_nearerBy_34 : decode cX2_nearerBy 34 = .ok (.goto 4, 3) := by decide +kernel
theorem dX2_nearerBy_37 : decode cX2_nearerBy 37 = .ok (.iconst 2, 1) := by decide +kernel
theorem dX2_nearerBy_38 : decode cX2_nearerBy 38 = .ok (.ireturn, 1) := by decide +kernel
theorem dX2_otherOne_0 : decode cX2_otherOne 0 = .ok (.iload_n 0, 1) := by decide +kernel
theorem dX2_otherOne_1 : decode cX2_otherOne 1 = .ok (.iconst 2, 1) := by decide +kernel
theorem dX2_otherOne_2 : decode cX2_otherOne 2 = .ok (.if_icmp .ne 5, 3) := by decide +kernel
theorem dX2_otherOne_5 : decode cX2_otherOne 5 = .ok (.iconst 2, 1) := by decide +kernel
theorem dX2_otherOne_6 : decode cX2_otherOne 6 = .ok (.ireturn, 1) := by decide +kernel
theorem dX2_otherOne_7 : decode cX2_otherOne 7 = .ok (.iload_n 0, 1) := by decide +kernel
theorem dX2_otherOne_8 : decode cX2_otherOne 8 = .ok (.ifCond .ne 7, 3) := by decide +kernel
theorem dX2_otherOne_11 : decode cX2_otherOne 11 = .ok (.iconst 1, 1) := by decide +kernel
theorem dX2_otherOne_12 : decode cX2_otherOne 12 = .ok (.goto 4, 3) := by decide +kernel
theorem dX2_otherOne_15 : decode cX2_otherOne 15 = .ok (.iconst 0, 1) := by decide +kernel
theorem dX2_otherOne_16 : decode cX2_otherOne 16 = .ok (.ireturn, 1) := by decide +kernel
theorem dX2_byWarmth_0 : decode cX2_byWarmth 0 = .ok (.iload_n 0, 1) := by decide +kernel
theorem dX2_byWarmth_1 : decode cX2_byWarmth 1 = .ok (.iconst 5, 1) := by decide +kernel
theorem dX2_byWarmth_2 : decode cX2_byWarmth 2 = .ok (.if_icmp .lt 7, 3) := by decide +kernel
theorem dX2_byWarmth_5 : decode cX2_byWarmth 5 = .ok (.iconst 0, 1) := by decide +kernel
theorem dX2_byWarmth_6 : decode cX2_byWarmth 6 = .ok (.goto 4, 3) := by decide +kernel
theorem dX2_byWarmth_9 : decode cX2_byWarmth 9 = .ok (.iconst 1, 1) := by decide +kernel
theorem dX2_byWarmth_10 : decode cX2_byWarmth 10 = .ok (.ireturn, 1) := by decide +kernel
theorem dX2_flow_0 : decode cX2_flow 0 = .ok (.iconst 0, 1) := by decide +kernel
theorem dX2_flow_1 : decode cX2_flow 1 = .ok (.istore_n 1, 1) := by decide +kernel
theorem dX2_flow_2 : decode cX2_flow 2 = .ok (.iload_n 1, 1) := by decide +kernel
theorem dX2_flow_3 : decode cX2_flow 3 = .ok (.aload_n 0, 1) := by decide +kernel
theorem dX2_flow_4 : decode cX2_flow 4 = .ok (.getfield 9, 3) := by decide +kernel
theorem dX2_flow_7 : decode cX2_flow 7 = .ok (.if_icmp .ge 14, 3) := by decide +kernel
theorem dX2_flow_10 : decode cX2_flow 10 = .ok (.aload_n 0, 1) := by decide +kernel
theorem dX2_flow_11 : decode cX2_flow 11 = .ok (.iload_n 1, 1) := by decide +kernel
theorem dX2_flow_12 : decode cX2_flow 12 = .ok (.invokevirtual 82, 3) := by decide +kernel
theorem dX2_flow_15 : decode cX2_flow 15 = .ok (.iinc 1 1, 3) := by decide +kernel
theorem dX2_flow_18 : decode cX2_flow 18 = .ok (.goto (-16), 3) := by decide +kernel
theorem dX2_flow_21 : decode cX2_flow 21 = .ok (.aload_n 0, 1) := by decide +kernel
theorem dX2_flow_22 : decode cX2_flow 22 = .ok (.dup, 1) := by decide +kernel
theorem dX2_flow_23 : decode cX2_flow 23 = .ok (.getfield 15, 3) := by decide +kernel
theorem dX2_flow_26 : decode cX2_flow 26 = .ok (.iconst 1, 1) := by decide +kernel
theorem dX2_flow_27 : decode cX2_flow 27 = .ok (.iadd, 1) := by decide +kernel
theorem dX2_flow_28 : decode cX2_flow 28 = .ok (.putfield 15, 3) := by decide +kernel
theorem dX2_flow_31 : decode cX2_flow 31 = .ok (.return_, 1) := by decide +kernel
theorem dX2_swell_0 : decode cX2_swell 0 = .ok (.aload_n 0, 1) := by decide +kernel
theorem dX2_swell_1 : decode cX2_swell 1 = .ok (.iload_n 1, 1) := by decide +kernel
theorem dX2_swell_2 : decode cX2_swell 2 = .ok (.invokevirtual 49, 3) := by decide +kernel
theorem dX2_swell_5 : decode cX2_swell 5 = .ok (.ifCond .ne 4, 3) := by decide +kernel
theorem dX2_swell_8 : decode cX2_swell 8 = .ok (.return_, 1) := by decide +kernel
theorem dX2_swell_9 : decode cX2_swell 9 = .ok (.aload_n 0, 1) := by decide +kernel
theorem dX2_swell_10 : decode cX2_swell 10 = .ok (.getfield 40, 3) := by decide +kernel
theorem dX2_swell_13 : decode cX2_swell 13 = .ok (.iload_n 1, 1) := by decide +kernel
theorem dX2_swell_14 : decode cX2_swell 14 = .ok (.iaload, 1) := by decide +kernel
theorem dX2_swell_15 : decode cX2_swell 15 = .ok (.iconst 1, 1) := by decide +kernel
theorem dX2_swell_16 : decode cX2_swell 16 = .ok (.iadd, 1) := by decide +kernel
theorem dX2_swell_17 : decode cX2_swell 17 = .ok (.iconst 2, 1) := by decide +kernel
theorem dX2_swell_18 : decode cX2_swell 18 = .ok (.idiv, 1) := by decide +kernel
theorem dX2_swell_19 : decode cX2_swell 19 = .ok (.istore_n 2, 1) := by decide +kernel
theorem dX2_swell_20 : decode cX2_swell 20 = .ok (.aload_n 0, 1) := by decide +kernel
theorem dX2_swell_21 : decode cX2_swell 21 = .ok (.iload_n 1, 1) := by decide +kernel
theorem dX2_swell_22 : decode cX2_swell 22 = .ok (.invokevirtual 60, 3) := by decide +kernel
theorem dX2_swell_25 : decode cX2_swell 25 = .ok (.iconst 2, 1) := by decide +kernel
theorem dX2_swell_26 : decode cX2_swell 26 = .ok (.if_icmp .ne 10, 3) := by decide +kernel
theorem dX2_swell_29 : decode cX2_swell 29 = .ok (.iload_n 2, 1) := by decide +kernel
theorem dX2_swell_30 : decode cX2_swell 30 = .ok (.aload_n 0, 1) := by decide +kernel
theorem dX2_swell_31 : decode cX2_swell 31 = .ok (.getfield 18, 3) := by decide +kernel
theorem dX2_swell_34 : decode cX2_swell 34 = .ok (.iadd, 1) := by decide +kernel
theorem dX2_swell_35 : decode cX2_swell 35 = .ok (.istore_n 2, 1) := by decide +kernel
theorem dX2_swell_36 : decode cX2_swell 36 = .ok (.aload_n 0, 1) := by decide +kernel
theorem dX2_swell_37 : decode cX2_swell 37 = .ok (.getfield 37, 3) := by decide +kernel
theorem dX2_swell_40 : decode cX2_swell 40 = .ok (.iload_n 1, 1) := by decide +kernel
theorem dX2_swell_41 : decode cX2_swell 41 = .ok (.bipush 99, 2) := by decide +kernel
theorem dX2_swell_43 : decode cX2_swell 43 = .ok (.aload_n 0, 1) := by decide +kernel
theorem dX2_swell_44 : decode cX2_swell 44 = .ok (.getfield 37, 3) := by decide +kernel
theorem dX2_swell_47 : decode cX2_swell 47 = .ok (.iload_n 1, 1) := by decide +kernel
theorem dX2_swell_48 : decode cX2_swell 48 = .ok (.iaload, 1) := by decide +kernel
theorem dX2_swell_49 : decode cX2_swell 49 = .ok (.iload_n 2, 1) := by decide +kernel
theorem dX2_swell_50 : decode cX2_swell 50 = .ok (.iadd, 1) := by decide +kernel
theorem dX2_swell_51 : decode cX2_swell 51 = .ok (.invokestatic 86, 3) := by decide +kernel
theorem dX2_swell_54 : decode cX2_swell 54 = .ok (.iastore, 1) := by decide +kernel
theorem dX2_swell_55 : decode cX2_swell 55 = .ok (.aload_n 0, 1) := by decide +kernel
theorem dX2_swell_56 : decode cX2_swell 56 = .ok (.getfield 15, 3) := by decide +kernel
theorem dX2_swell_59 : decode cX2_swell 59 = .ok (.iconst 2, 1) := by decide +kernel
theorem dX2_swell_60 : decode cX2_swell 60 = .ok (.irem, 1) := by decide +kernel
theorem dX2_swell_61 : decode cX2_swell 61 = .ok (.iconst 1, 1) := by decide +kernel
theorem dX2_swell_62 : decode cX2_swell 62 = .ok (.if_icmp .ne 21, 3) := by decide +kernel
theorem dX2_swell_65 : decode cX2_swell 65 = .ok (.aload_n 0, 1) := by decide +kernel
theorem dX2_swell_66 : decode cX2_swell 66 = .ok (.getfield 40, 3) := by decide +kernel
theorem dX2_swell_69 : decode cX2_swell 69 = .ok (.iload_n 1, 1) := by decide +kernel
theorem dX2_swell_70 : decode cX2_swell 70 = .ok (.iconst 0, 1) := by decide +kernel
theorem dX2_swell_71 : decode cX2_swell 71 = .ok (.aload_n 0, 1) := by decide +kernel
theorem dX2_swell_72 : decode cX2_swell 72 = .ok (.getfield 40, 3) := by decide +kernel
theorem dX2_swell_75 : decode cX2_swell 75 = .ok (.iload_n 1, 1) := by decide +kernel
theorem dX2_swell_76 : decode cX2_swell 76 = .ok (.iaload, 1) := by decide +kernel
theorem dX2_swell_77 : decode cX2_swell 77 = .ok (.iconst 1, 1) := by decide +kernel
theorem dX2_swell_78 : decode cX2_swell 78 = .ok (.isub, 1) := by decide +kernel
theorem dX2_swell_79 : decode cX2_swell 79 = .ok (.invokestatic 89, 3) := by decide +kernel
theorem dX2_swell_82 : decode cX2_swell 82 = .ok (.iastore, 1) := by decide +kernel
theorem dX2_swell_83 : decode cX2_swell 83 = .ok (.return_, 1) := by decide +kernel
theorem dX2_rakeUp_0 : decode cX2_rakeUp 0 = .ok (.aload_n 0, 1) := by decide +kernel
theorem dX2_rakeUp_1 : decode cX2_rakeUp 1 = .ok (.iload_n 1, 1) := by decide +kernel
theorem dX2_rakeUp_2 : decode cX2_rakeUp 2 = .ok (.invokevirtual 49, 3) := by decide +kernel
theorem dX2_rakeUp_5 : decode cX2_rakeUp 5 = .ok (.ifCond .ne 5, 3) := by decide +kernel
theorem dX2_rakeUp_8 : decode cX2_rakeUp 8 = .ok (.iconst 0, 1) := by decide +kernel
theorem dX2_rakeUp_9 : decode cX2_rakeUp 9 = .ok (.ireturn, 1) := by decide +kernel
theorem dX2_rakeUp_10 : decode cX2_rakeUp 10 = .ok (.iload_n 2, 1) := by decide +kernel
theorem dX2_rakeUp_11 : decode cX2_rakeUp 11 = .ok (.invokestatic 92, 3) := by decide +kernel
theorem dX2_rakeUp_14 : decode cX2_rakeUp 14 = .ok (.istore_n 3, 1) := by decide +kernel
theorem dX2_rakeUp_15 : decode cX2_rakeUp 15 = .ok (.aload_n 0, 1) := by decide +kernel
theorem dX2_rakeUp_16 : decode cX2_rakeUp 16 = .ok (.iload_n 1, 1) := by decide +kernel
theorem dX2_rakeUp_17 : decode cX2_rakeUp 17 = .ok (.invokevirtual 60, 3) := by decide +kernel
theorem dX2_rakeUp_20 : decode cX2_rakeUp 20 = .ok (.istore 4, 2) := by decide +kernel
theorem dX2_rakeUp_22 : decode cX2_rakeUp 22 = .ok (.iload 4, 2) := by decide +kernel
theorem dX2_rakeUp_24 : decode cX2_rakeUp 24 = .ok (.iconst 0, 1) := by decide +kernel
theorem dX2_rakeUp_25 : decode cX2_rakeUp 25 = .ok (.iconst 2, 1) := by decide +kernel
theorem dX2_rakeUp_26 : decode cX2_rakeUp 26 = .ok (.invokestatic 63, 3) := by decide +kernel
theorem dX2_rakeUp_29 : decode cX2_rakeUp 29 = .ok (.ifCond .eq 14, 3) := by decide +kernel
theorem dX2_rakeUp_32 : decode cX2_rakeUp 32 = .ok (.aload_n 0, 1) := by decide +kernel
theorem dX2_rakeUp_33 : decode cX2_rakeUp 33 = .ok (.getfield 30, 3) := by decide +kernel
theorem dX2_rakeUp_36 : decode cX2_rakeUp 36 = .ok (.iload 4, 2) := by decide +kernel
theorem dX2_rakeUp_38 : decode cX2_rakeUp 38 = .ok (.dup2, 1) := by decide +kernel
theorem dX2_rakeUp_39 : decode cX2_rakeUp 39 = .ok (.iaload, 1) := by decide +kernel
theorem dX2_rakeUp_40 : decode cX2_rakeUp 40 = .ok (.iload_n 3, 1) := by decide +kernel
theorem dX2_rakeUp_41 : decode cX2_rakeUp 41 = .ok (.iadd, 1) := by decide +kernel
theorem dX2_rakeUp_42 : decode cX2_rakeUp 42 = .ok (.iastore, 1) := by decide +kernel
theorem dX2_rakeUp_43 : decode cX2_rakeUp 43 = .ok (.aload_n 0, 1) := by decide +kernel
theorem dX2_rakeUp_44 : decode cX2_rakeUp 44 = .ok (.getfield 37, 3) := by decide +kernel
theorem dX2_rakeUp_47 : decode cX2_rakeUp 47 = .ok (.iload_n 1, 1) := by decide +kernel
theorem dX2_rakeUp_48 : decode cX2_rakeUp 48 = .ok (.dup2, 1) := by decide +kernel
theorem dX2_rakeUp_49 : decode cX2_rakeUp 49 = .ok (.iaload, 1) := by decide +kernel
theorem dX2_rakeUp_50 : decode cX2_rakeUp 50 = .ok (.iload_n 3, 1) := by decide +kernel
theorem dX2_rakeUp_51 : decode cX2_rakeUp 51 = .ok (.isub, 1) := by decide +kernel
theorem dX2_rakeUp_52 : decode cX2_rakeUp 52 = .ok (.iastore, 1) := by decide +kernel
theorem dX2_rakeUp_53 : decode cX2_rakeUp 53 = .ok (.iload_n 3, 1) := by decide +kernel
theorem dX2_rakeUp_54 : decode cX2_rakeUp 54 = .ok (.ireturn, 1) := by decide +kernel
theorem dX2_sieved_0 : decode cX2_sieved 0 = .ok (.iload_n 0, 1) := by decide +kernel
theorem dX2_sieved_1 : decode cX2_sieved 1 = .ok (.iconst 3, 1) := by decide +kernel
theorem dX2_sieved_2 : decode cX2_sieved 2 = .ok (.imul, 1) := by decide +kernel
theorem dX2_sieved_3 : decode cX2_sieved 3 = .ok (.iconst 4, 1) := by decide +kernel
theorem dX2_sieved_4 : decode cX2_sieved 4 = .ok (.idiv, 1) := by decide +kernel
theorem dX2_sieved_5 : decode cX2_sieved 5 = .ok (.ireturn, 1) := by decide +kernel
theorem dX2_tallyFor_0 : decode cX2_tallyFor 0 = .ok (.aload_n 0, 1) := by decide +kernel
theorem dX2_tallyFor_1 : decode cX2_tallyFor 1 = .ok (.iload_n 1, 1) := by decide +kernel
theorem dX2_tallyFor_2 : decode cX2_tallyFor 2 = .ok (.invokevirtual 95, 3) := by decide +kernel
theorem dX2_tallyFor_5 : decode cX2_tallyFor 5 = .ok (.istore_n 2, 1) := by decide +kernel
theorem dX2_tallyFor_6 : decode cX2_tallyFor 6 = .ok (.iconst 0, 1) := by decide +kernel
theorem dX2_tallyFor_7 : decode cX2_tallyFor 7 = .ok (.istore_n 3, 1) := by decide +kernel
theorem dX2_tallyFor_8 : decode cX2_tallyFor 8 = .ok (.iload_n 3, 1) := by decide +kernel
theorem dX2_tallyFor_9 : decode cX2_tallyFor 9 = .ok (.aload_n 0, 1) := by decide +kernel
theorem dX2_tallyFor_10 : decode cX2_tallyFor 10 = .ok (.getfield 9, 3) := by decide +kernel
theorem dX2_tallyFor_13 : decode cX2_tallyFor 13 = .ok (.if_icmp .ge 37, 3) := by decide +kernel
theorem dX2_tallyFor_16 : decode cX2_tallyFor 16 = .ok (.aload_n 0, 1) := by decide +kernel
theorem dX2_tallyFor_17 : decode cX2_tallyFor 17 = .ok (.iload_n 3, 1) := by decide +kernel
theorem dX2_tallyFor_18 : decode cX2_tallyFor 18 = .ok (.invokevirtual 98, 3) := by decide +kernel
theorem dX2_tallyFor_21 : decode cX2_tallyFor 21 = .ok (.ifCond .ne 23, 3) := by decide +kernel
theorem dX2_tallyFor_24 : decode cX2_tallyFor 24 = .ok (.aload_n 0, 1) := by decide +kernel
theorem dX2_tallyFor_25 : decode cX2_tallyFor 25 = .ok (.iload_n 3, 1) := by decide +kernel
theorem dX2_tallyFor_26 : decode cX2_tallyFor 26 = .ok (.invokevirtual 60, 3) := by decide +kernel
theorem dX2_tallyFor_29 : decode cX2_tallyFor 29 = .ok (.iload_n 1, 1) := by decide +kernel
theorem dX2_tallyFor_30 : decode cX2_tallyFor 30 = .ok (.if_icmp .ne 14, 3) := by decide +kernel
theorem dX2_tallyFor_33 : decode cX2_tallyFor 33 = .ok (.iload_n 2, 1) := by decide +kernel
theorem dX2_tallyFor_34 : decode cX2_tallyFor 34 = .ok (.aload_n 0, 1) := by decide +kernel
theorem dX2_tallyFor_35 : decode cX2_tallyFor 35 = .ok (.iload_n 3, 1) := by decide +kernel
theorem dX2_tallyFor_36 : decode cX2_tallyFor 36 = .ok (.invokevirtual 53, 3) := by decide +kernel
theorem dX2_tallyFor_39 : decode cX2_tallyFor 39 = .ok (.invokestatic 92, 3) := by decide +kernel
theorem dX2_tallyFor_42 : decode cX2_tallyFor 42 = .ok (.iadd, 1) := by decide +kernel
theorem dX2_tallyFor_43 : decode cX2_tallyFor 43 = .ok (.istore_n 2, 1) := by decide +kernel
theorem dX2_tallyFor_44 : decode cX2_tallyFor 44 = .ok (.iinc 3 1, 3) := by decide +kernel
theorem dX2_tallyFor_47 : decode cX2_tallyFor 47 = .ok (.goto (-39), 3) := by decide +kernel
theorem dX2_tallyFor_50 : decode cX2_tallyFor 50 = .ok (.iload_n 2, 1) := by decide +kernel
theorem dX2_tallyFor_51 : decode cX2_tallyFor 51 = .ok (.ireturn, 1) := by decide +kernel
theorem dX2_gainBy_0 : decode cX2_gainBy 0 = .ok (.aload_n 0, 1) := by decide +kernel
theorem dX2_gainBy_1 : decode cX2_gainBy 1 = .ok (.iload_n 1, 1) := by decide +kernel
theorem dX2_gainBy_2 : decode cX2_gainBy 2 = .ok (.invokevirtual 60, 3) := by decide +kernel
theorem dX2_gainBy_5 : decode cX2_gainBy 5 = .ok (.istore_n 3, 1) := by decide +kernel
theorem dX2_gainBy_6 : decode cX2_gainBy 6 = .ok (.iload_n 3, 1) := by decide +kernel
theorem dX2_gainBy_7 : decode cX2_gainBy 7 = .ok (.iconst 2, 1) := by decide +kernel
theorem dX2_gainBy_8 : decode cX2_gainBy 8 = .ok (.if_icmp .ne 5, 3) := by decide +kernel
theorem dX2_gainBy_11 : decode cX2_gainBy 11 = .ok (.iconst 0, 1) := by decide +kernel
theorem dX2_gainBy_12 : decode cX2_gainBy 12 = .ok (.ireturn, 1) := by decide +kernel
theorem dX2_gainBy_13 : decode cX2_gainBy 13 = .ok (.aload_n 0, 1) := by decide +kernel
theorem dX2_gainBy_14 : decode cX2_gainBy 14 = .ok (.iload_n 1, 1) := by decide +kernel
theorem dX2_gainBy_15 : decode cX2_gainBy 15 = .ok (.invokevirtual 53, 3) := by decide +kernel
theorem dX2_gainBy_18 : decode cX2_gainBy 18 = .ok (.invokestatic 92, 3) := by decide +kernel
theorem dX2_gainBy_21 : decode cX2_gainBy 21 = .ok (.istore 4, 2) := by decide +kernel
theorem dX2_gainBy_23 : decode cX2_gainBy 23 = .ok (.iload_n 3, 1) := by decide +kernel
theorem dX2_gainBy_24 : decode cX2_gainBy 24 = .ok (.iload_n 2, 1) := by decide +kernel
theorem dX2_gainBy_25 : decode cX2_gainBy 25 = .ok (.if_icmp .ne 8, 3) := by decide +kernel
theorem dX2_gainBy_28 : decode cX2_gainBy 28 = .ok (.iload 4, 2) := by decide +kernel
theorem dX2_gainBy_30 : decode cX2_gainBy 30 = .ok (.goto 6, 3) := by decide +kernel
theorem dX2_gainBy_33 : decode cX2_gainBy 33 = .ok (.iload 4, 2) := by decide +kernel
theorem dX2_gainBy_35 : decode cX2_gainBy 35 = .ok (.ineg, 1) := by decide +kernel
theorem dX2_gainBy_36 : decode cX2_gainBy 36 = .ok (.ireturn, 1) := by decide +kernel
theorem dX2_countedLead_0 : decode cX2_countedLead 0 = .ok (.aload_n 0, 1) := by decide +kernel
theorem dX2_countedLead_1 : decode cX2_countedLead 1 = .ok (.getfield 30, 3) := by decide +kernel
theorem dX2_countedLead_4 : decode cX2_countedLead 4 = .ok (.iconst 0, 1) := by decide +kernel
theorem dX2_countedLead_5 : decode cX2_countedLead 5 = .ok (.iaload, 1) := by decide +kernel
theorem dX2_countedLead_6 : decode cX2_countedLead 6 = .ok (.aload_n 0, 1) := by decide +kernel
theorem dX2_countedLead_7 : decode cX2_countedLead 7 = .ok (.getfield 30, 3) := by decide +kernel
theorem dX2_countedLead_10 : decode cX2_countedLead 10 = .ok (.iconst 1, 1) := by decide +kernel
theorem dX2_countedLead_11 : decode cX2_countedLead 11 = .ok (.iaload, 1) := by decide +kernel
theorem dX2_countedLead_12 : decode cX2_countedLead 12 = .ok (.isub, 1) := by decide +kernel
theorem dX2_countedLead_13 : decode cX2_countedLead 13 = .ok (.istore_n 2, 1) := by decide +kernel
theorem dX2_countedLead_14 : decode cX2_countedLead 14 = .ok (.iload_n 1, 1) := by decide +kernel
theorem dX2_countedLead_15 : decode cX2_countedLead 15 = .ok (.ifCond .ne 7, 3) := by decide +kernel
theorem dX2_countedLead_18 : decode cX2_countedLead 18 = .ok (.iload_n 2, 1) := by decide +kernel
theorem dX2_countedLead_19 : decode cX2_countedLead 19 = .ok (.goto 5, 3) := by decide +kernel
theorem dX2_countedLead_22 : decode cX2_countedLead 22 = .ok (.iload_n 2, 1) := by decide +kernel
theorem dX2_countedLead_23 : decode cX2_countedLead 23 = .ok (.ineg, 1) := by decide +kernel
theorem dX2_countedLead_24 : decode cX2_countedLead 24 = .ok (.ireturn, 1) := by decide +kernel
theorem dX2_leadOf_0 : decode cX2_leadOf 0 = .ok (.aload_n 0, 1) := by decide +kernel
theorem dX2_leadOf_1 : decode cX2_leadOf 1 = .ok (.iload_n 1, 1) := by decide +kernel
theorem dX2_leadOf_2 : decode cX2_leadOf 2 = .ok (.invokevirtual 101, 3) := by decide +kernel
theorem dX2_leadOf_5 : decode cX2_leadOf 5 = .ok (.istore_n 2, 1) := by decide +kernel
theorem dX2_leadOf_6 : decode cX2_leadOf 6 = .ok (.iconst 0, 1) := by decide +kernel
theorem dX2_leadOf_7 : decode cX2_leadOf 7 = .ok (.istore_n 3, 1) := by decide +kernel
theorem dX2_leadOf_8 : decode cX2_leadOf 8 = .ok (.iload_n 3, 1) := by decide +kernel
theorem dX2_leadOf_9 : decode cX2_leadOf 9 = .ok (.aload_n 0, 1) := by decide +kernel
theorem dX2_leadOf_10 : decode cX2_leadOf 10 = .ok (.getfield 9, 3) := by decide +kernel
theorem dX2_leadOf_13 : decode cX2_leadOf 13 = .ok (.if_icmp .ge 26, 3) := by decide +kernel
theorem dX2_leadOf_16 : decode cX2_leadOf 16 = .ok (.aload_n 0, 1) := by decide +kernel
theorem dX2_leadOf_17 : decode cX2_leadOf 17 = .ok (.iload_n 3, 1) := by decide +kernel
theorem dX2_leadOf_18 : decode cX2_leadOf 18 = .ok (.invokevirtual 98, 3) := by decide +kernel
theorem dX2_leadOf_21 : decode cX2_leadOf 21 = .ok (.ifCond .ne 12, 3) := by decide +kernel
theorem dX2_leadOf_24 : decode cX2_leadOf 24 = .ok (.iload_n 2, 1) := by decide +kernel
theorem dX2_leadOf_25 : decode cX2_leadOf 25 = .ok (.aload_n 0, 1) := by decide +kernel
theorem dX2_leadOf_26 : decode cX2_leadOf 26 = .ok (.iload_n 3, 1) := by decide +kernel
theorem dX2_leadOf_27 : decode cX2_leadOf 27 = .ok (.iload_n 1, 1) := by decide +kernel
theorem dX2_leadOf_28 : decode cX2_leadOf 28 = .ok (.invokevirtual 104, 3) := by decide +kernel
theorem dX2_leadOf_31 : decode cX2_leadOf 31 = .ok (.iadd, 1) := by decide +kernel
theorem dX2_leadOf_32 : decode cX2_leadOf 32 = .ok (.istore_n 2, 1) := by decide +kernel
theorem dX2_leadOf_33 : decode cX2_leadOf 33 = .ok (.iinc 3 1, 3) := by decide +kernel
theorem dX2_leadOf_36 : decode cX2_leadOf 36 = .ok (.goto (-28), 3) := by decide +kernel
theorem dX2_leadOf_39 : decode cX2_leadOf 39 = .ok (.iload_n 2, 1) := by decide +kernel
theorem dX2_leadOf_40 : decode cX2_leadOf 40 = .ok (.ireturn, 1) := by decide +kernel
theorem dX2_deciding_0 : decode cX2_deciding 0 = .ok (.aload_n 0, 1) := by decide +kernel
theorem dX2_deciding_1 : decode cX2_deciding 1 = .ok (.iconst 0, 1) := by decide +kernel
theorem dX2_deciding_2 : decode cX2_deciding 2 = .ok (.invokevirtual 107, 3) := by decide +kernel
theorem dX2_deciding_5 : decode cX2_deciding 5 = .ok (.istore_n 1, 1) := by decide +kernel
theorem dX2_deciding_6 : decode cX2_deciding 6 = .ok (.iconst 0, 1) := by decide +kernel
theorem dX2_deciding_7 : decode cX2_deciding 7 = .ok (.istore_n 2, 1) := by decide +kernel
theorem dX2_deciding_8 : decode cX2_deciding 8 = .ok (.iconst 0, 1) := by decide +kernel
theorem dX2_deciding_9 : decode cX2_deciding 9 = .ok (.istore_n 3, 1) := by decide +kernel
theorem dX2_deciding_10 : decode cX2_deciding 10 = .ok (.iload_n 3, 1) := by decide +kernel
theorem dX2_deciding_11 : decode cX2_deciding 11 = .ok (.aload_n 0, 1) := by decide +kernel
theorem dX2_deciding_12 : decode cX2_deciding 12 = .ok (.getfield 9, 3) := by decide +kernel
theorem dX2_deciding_15 : decode cX2_deciding 15 = .ok (.if_icmp .ge 56, 3) := by decide +kernel
theorem dX2_deciding_18 : decode cX2_deciding 18 = .ok (.aload_n 0, 1) := by decide +kernel
theorem dX2_deciding_19 : decode cX2_deciding 19 = .ok (.iload_n 3, 1) := by decide +kernel
theorem dX2_deciding_20 : decode cX2_deciding 20 = .ok (.iconst 0, 1) := by decide +kernel
theorem dX2_deciding_21 : decode cX2_deciding 21 = .ok (.invokevirtual 104, 3) := by decide +kernel
theorem dX2_deciding_24 : decode cX2_deciding 24 = .ok (.istore 4, 2) := by decide +kernel
theorem dX2_deciding_26 : decode cX2_deciding 26 = .ok (.aload_n 0, 1) := by decide +kernel
theorem dX2_deciding_27 : decode cX2_deciding 27 = .ok (.iload_n 3, 1) := by decide +kernel
theorem dX2_deciding_28 : decode cX2_deciding 28 = .ok (.invokevirtual 98, 3) := by decide +kernel
theorem dX2_deciding_31 : decode cX2_deciding 31 = .ok (.ifCond .eq 10, 3) := by decide +kernel
theorem dX2_deciding_34 : decode cX2_deciding 34 = .ok (.iload_n 1, 1) := by decide +kernel
theorem dX2_deciding_35 : decode cX2_deciding 35 = .ok (.iload 4, 2) := by decide +kernel
theorem dX2_deciding_37 : decode cX2_deciding 37 = .ok (.iadd, 1) := by decide +kernel
theorem dX2_deciding_38 : decode cX2_deciding 38 = .ok (.goto 7, 3) := by decide +kernel
theorem dX2_deciding_41 : decode cX2_deciding 41 = .ok (.iload_n 1, 1) := by decide +kernel
theorem dX2_deciding_42 : decode cX2_deciding 42 = .ok (.iload 4, 2) := by decide +kernel
theorem dX2_deciding_44 : decode cX2_deciding 44 = .ok (.isub, 1) := by decide +kernel
theorem dX2_deciding_45 : decode cX2_deciding 45 = .ok (.istore 5, 2) := by decide +kernel
theorem dX2_deciding_47 : decode cX2_deciding 47 = .ok (.iload 5, 2) := by decide +kernel
theorem dX2_deciding_49 : decode cX2_deciding 49 = .ok (.invokestatic 110, 3) := by decide +kernel
theorem dX2_deciding_52 : decode cX2_deciding 52 = .ok (.iload_n 1, 1) := by decide +kernel
theorem dX2_deciding_53 : decode cX2_deciding 53 = .ok (.invokestatic 110, 3) := by decide +kernel
theorem dX2_deciding_56 : decode cX2_deciding 56 = .ok (.if_icmp .eq 9, 3) := by decide +kernel
theorem dX2_deciding_59 : decode cX2_deciding 59 = .ok (.iload_n 2, 1) := by decide +kernel
theorem dX2_deciding_60 : decode cX2_deciding 60 = .ok (.iconst 1, 1) := by decide +kernel
theorem dX2_deciding_61 : decode cX2_deciding 61 = .ok (.iload_n 3, 1) := by decide +kernel
theorem dX2_deciding_62 : decode cX2_deciding 62 = .ok (.ishl, 1) := by decide +kernel
theorem dX2_deciding_63 : decode cX2_deciding 63 = .ok (.ior, 1) := by decide +kernel
theorem dX2_deciding_64 : decode cX2_deciding 64 = .ok (.istore_n 2, 1) := by decide +kernel
theorem dX2_deciding_65 : decode cX2_deciding 65 = .ok (.iinc 3 1, 3) := by decide +kernel
theorem dX2_deciding_68 : decode cX2_deciding 68 = .ok (.goto (-58), 3) := by decide +kernel
theorem dX2_deciding_71 : decode cX2_deciding 71 = .ok (.iload_n 2, 1) := by decide +kernel
theorem dX2_deciding_72 : decode cX2_deciding 72 = .ok (.ireturn, 1) := by decide +kernel
theorem dX2_leader_0 : decode cX2_leader 0 = .ok (.iload_n 0, 1) := by decide +kernel
theorem dX2_leader_1 : decode cX2_leader 1 = .ok (.ifCond .ne 5, 3) := by decide +kernel
theorem dX2_leader_4 : decode cX2_leader 4 = .ok (.iconst 2, 1) := by decide +kernel
theorem dX2_leader_5 : decode cX2_leader 5 = .ok (.ireturn, 1) := by decide +kernel
theorem dX2_leader_6 : decode cX2_leader 6 = .ok (.iload_n 0, 1) := by decide +kernel
theorem dX2_leader_7 : decode cX2_leader 7 = .ok (.ifCond .le 7, 3) := by decide +kernel
theorem dX2_leader_10 : decode cX2_leader 10 = .ok (.iconst 0, 1) := by decide +kernel
theorem dX2_leader_11 : decode cX2_leader 11 = .ok (.goto 4, 3) := by decide +kernel
theorem dX2_leader_14 : decode cX2_leader 14 = .ok (.iconst 1, 1) := by decide +kernel
theorem dX2_leader_15 : decode cX2_leader 15 = .ok (.ireturn, 1) := by decide +kernel
theorem dX3_init_0 : decode cX3_init 0 = .ok (.aload_n 0, 1) := by decide +kernel
theorem dX3_init_1 : decode cX3_init 1 = .ok (.invokespecial 3, 3) := by decide +kernel
theorem dX3_init_4 : decode cX3_init 4 = .ok (.aload_n 0, 1) := by decide +kernel
theorem dX3_init_5 : decode cX3_init 5 = .ok (.new 9, 3) := by decide +kernel
theorem dX3_init_8 : decode cX3_init 8 = .ok (.dup, 1) := by decide +kernel
theorem dX3_init_9 : decode cX3_init 9 = .ok (.invokespecial 11, 3) := by decide +kernel
theorem dX3_init_12 : decode cX3_init 12 = .ok (.putfield 12, 3) := by decide +kernel
theorem dX3_init_15 : decode cX3_init 15 = .ok (.aload_n 0, 1) := by decide +kernel
theorem dX3_init_16 : decode cX3_init 16 = .ok (.bipush 12, 2) := by decide +kernel
theorem dX3_init_18 : decode cX3_init 18 = .ok (.newarray .int, 2) := by decide +kernel
theorem dX3_init_20 : decode cX3_init 20 = .ok (.putfield 18, 3) := by decide +kernel
theorem dX3_init_23 : decode cX3_init 23 = .ok (.aload_n 0, 1) := by decide +kernel
theorem dX3_init_24 : decode cX3_init 24 = .ok (.bipush 9, 2) := by decide +kernel
theorem dX3_init_26 : decode cX3_init 26 = .ok (.newarray .int, 2) := by decide +kernel
theorem dX3_init_28 : decode cX3_init 28 = .ok (.putfield 22, 3) := by decide +kernel
theorem dX3_init_31 : decode cX3_init 31 = .ok (.aload_n 0, 1) := by decide +kernel
theorem dX3_init_32 : decode cX3_init 32 = .ok (.bipush 81, 2) := by decide +kernel
theorem dX3_init_34 : decode cX3_init 34 = .ok (.newarray .int, 2) := by decide +kernel
theorem dX3_init_36 : decode cX3_init 36 = .ok (.putfield 25, 3) := by decide +kernel
theorem dX3_init_39 : decode cX3_init 39 = .ok (.return_, 1) := by decide +kernel
theorem dX3_scratch_0 : decode cX3_scratch 0 = .ok (.aload_n 0, 1) := by decide +kernel
theorem dX3_scratch_1 : decode cX3_scratch 1 = .ok (.getfield 12, 3) := by decide +kernel
theorem dX3_scratch_4 : decode cX3_scratch 4 = .ok (.areturn, 1) := by decide +kernel
theorem dX3_hear_0 : decode cX3_hear 0 = .ok (.iconst 0, 1) := by decide +kernel
theorem dX3_hear_1 : decode cX3_hear 1 = .ok (.istore 5, 2) := by decide +kernel
theorem dX3_hear_3 : decode cX3_hear 3 = .ok (.iload 5, 2) := by decide +kernel
theorem dX3_hear_5 : decode cX3_hear 5 = .ok (.iload 4, 2) := by decide +kernel
theorem dX3_hear_7 : decode cX3_hear 7 = .ok (.if_icmp .ge 32, 3) := by decide +kernel
theorem dX3_hear_10 : decode cX3_hear 10 = .ok (.iload 5, 2) := by decide +kernel
theorem dX3_hear_12 : decode cX3_hear 12 = .ok (.bipush 12, 2) := by decide +kernel
theorem dX3_hear_14 : decode cX3_hear 14 = .ok (.if_icmp .ge 25, 3) := by decide +kernel
theorem dX3_hear_17 : decode cX3_hear 17 = .ok (.aload_n 0, 1) := by decide +kernel
theorem dX3_hear_18 : decode cX3_hear 18 = .ok (.getfield 18, 3) := by decide +kernel
theorem dX3_hear_21 : decode cX3_hear 21 = .ok (.iload 5, 2) := by decide +kernel
theorem dX3_hear_23 : decode cX3_hear 23 = .ok (.aload_n 1, 1) := by decide +kernel
theorem dX3_hear_24 : decode cX3_hear 24 = .ok (.iload_n 2, 1) := by decide +kernel
theorem dX3_hear_25 : decode cX3_hear 25 = .ok (.iload_n 3, 1) := by decide +kernel
theorem dX3_hear_26 : decode cX3_hear 26 = .ok (.iload 5, 2) := by decide +kernel
theorem dX3_hear_28 : decode cX3_hear 28 = .ok (.iadd, 1) := by decide +kernel
theorem dX3_hear_29 : decode cX3_hear 29 = .ok (.invokevirtual 28, 3) := by decide +kernel
theorem dX3_hear_32 : decode cX3_hear 32 = .ok (.iastore, 1) := by decide +kernel
theorem dX3_hear_33 : decode cX3_hear 33 = .ok (.iinc 5 1, 3) := by decide +kernel
theorem dX3_hear_36 : decode cX3_hear 36 = .ok (.goto (-33), 3) := by decide +kernel
theorem dX3_hear_39 : decode cX3_hear 39 = .ok (.return_, 1) := by decide +kernel
theorem dX3_after_0 : decode cX3_after 0 = .ok (.aload_n 0, 1) := by decide +kernel
theorem dX3_after_1 : decode cX3_after 1 = .ok (.getfield 12, 3) := by decide +kernel
theorem dX3_after_4 : decode cX3_after 4 = .ok (.aload_n 1, 1) := by decide +kernel
theorem dX3_after_5 : decode cX3_after 5 = .ok (.invokevirtual 34, 3) := by decide +kernel
theorem dX3_after_8 : decode cX3_after 8 = .ok (.iconst 0, 1) := by decide +kernel
theorem dX3_after_9 : decode cX3_after 9 = .ok (.istore_n 3, 1) := by decide +kernel
theorem dX3_after_10 : decode cX3_after 10 = .ok (.iload_n 3, 1) := by decide +kernel
theorem dX3_after_11 : decode cX3_after 11 = .ok (.iload_n 2, 1) := by decide +kernel
theorem dX3_after_12 : decode cX3_after 12 = .ok (.if_icmp .ge 16, 3) := by decide +kernel
theorem dX3_after_15 : decode cX3_after 15 = .ok (.aload_n 0, 1) := by decide +kernel
theorem dX3_after_16 : decode cX3_after 16 = .ok (.getfield 12, 3) := by decide +kernel
theorem dX3_after_19 : decode cX3_after 19 = .ok (.invokevirtual 38, 3) := by decide +kernel
theorem dX3_after_22 : decode cX3_after 22 = .ok (.iinc 3 1, 3) := by decide +kernel
theorem dX3_after_25 : decode cX3_after 25 = .ok (.goto (-15), 3) := by decide +kernel
theorem dX3_after_28 : decode cX3_after 28 = .ok (.aload_n 0, 1) := by decide +kernel
theorem dX3_after_29 : decode cX3_after 29 = .ok (.getfield 12, 3) := by decide +kernel
theorem dX3_after_32 : decode cX3_after 32 = .ok (.areturn, 1) := by decide +kernel
theorem dX3_firstLying_0 : decode cX3_firstLying 0 = .ok (.aload_n 0, 1) := by decide +kernel
theorem dX3_firstLying_1 : decode cX3_firstLying 1 = .ok (.getfield 12, 3) := by decide +kernel
theorem dX3_firstLying_4 : decode cX3_firstLying 4 = .ok (.aload_n 1, 1) := by decide +kernel
theorem dX3_firstLying_5 : decode cX3_firstLying 5 = .ok (.invokevirtual 34, 3) := by decide +kernel
theorem dX3_firstLying_8 : decode cX3_firstLying 8 = .ok (.iconst 0, 1) := by decide +kernel
theorem dX3_firstLying_9 : decode cX3_firstLying 9 = .ok (.istore 4, 2) := by decide +kernel
theorem dX3_firstLying_11 : decode cX3_firstLying 11 = .ok (.iload 4, 2) := by decide +kernel
theorem dX3_firstLying_13 : decode cX3_firstLying 13 = .ok (.bipush 60, 2) := by decide +kernel
theorem dX3_firstLying_15 : decode cX3_firstLying 15 = .ok (.if_icmp .gt 31, 3) := by decide +kernel
theorem dX3_firstLying_18 : decode cX3_firstLying 18 = .ok (.aload_n 0, 1) := by decide +kernel
theorem dX3_firstLying_19 : decode cX3_firstLying 19 = .ok (.getfield 12, 3) := by decide +kernel
theorem dX3_firstLying_22 : decode cX3_firstLying 22 = .ok (.iload_n 2, 1) := by decide +kernel
theorem dX3_firstLying_23 : decode cX3_firstLying 23 = .ok (.invokevirtual 41, 3) := by decide +kernel
theorem dX3_firstLying_26 : decode cX3_firstLying 26 = .ok (.iload_n 3, 1) := by decide +kernel
theorem dX3_firstLying_27 : decode cX3_firstLying 27 = .ok (.if_icmp .ne 6, 3) := by decide +kernel
theorem dX3_firstLying_30 : decode cX3_firstLying 30 = .ok (.iload 4, 2) := by decide +kernel
theorem dX3_firstLying_32 : decode cX3_firstLying 32 = .ok (.ireturn, 1) := by decide +kernel
theorem dX3_firstLying_33 : decode cX3_firstLying 33 = .ok (.aload_n 0, 1) := by decide +kernel
theorem dX3_firstLying_34 : decode cX3_firstLying 34 = .ok (.getfield 12, 3) := by decide +kernel
theorem dX3_firstLying_37 : decode cX3_firstLying 37 = .ok (.invokevirtual 38, 3) := by decide +kernel
theorem dX3_firstLying_40 : decode cX3_firstLying 40 = .ok (.iinc 4 1, 3) := by decide +kernel
theorem dX3_firstLying_43 : decode cX3_firstLying 43 = .ok (.goto (-32), 3) := by decide +kernel
theorem dX3_firstLying_46 : decode cX3_firstLying 46 = .ok (.ldc 45, 2) := by decide +kernel
theorem dX3_firstLying_48 : decode cX3_firstLying 48 = .ok (.ireturn, 1) := by decide +kernel
theorem dX3_leadFrom_0 : decode cX3_leadFrom 0 = .ok (.aload_n 0, 1) := by decide +kernel
theorem dX3_leadFrom_1 : decode cX3_leadFrom 1 = .ok (.getfield 12, 3) := by decide +kernel
theorem dX3_leadFrom_4 : decode cX3_leadFrom 4 = .ok (.aload_n 1, 1) := by decide +kernel
theorem dX3_leadFrom_5 : decode cX3_leadFrom 5 = .ok (.invokevirtual 34, 3) := by decide +kernel
theorem dX3_leadFrom_8 : decode cX3_leadFrom 8 = .ok (.aload_n 0, 1) := by decide +kernel
theorem dX3_leadFrom_9 : decode cX3_leadFrom 9 = .ok (.getfield 12, 3) := by decide +kernel
theorem dX3_leadFrom_12 : decode cX3_leadFrom 12 = .ok (.iload_n 2, 1) := by decide +kernel
theorem dX3_leadFrom_13 : decode cX3_leadFrom 13 = .ok (.iload_n 3, 1) := by decide +kernel
theorem dX3_leadFrom_14 : decode cX3_leadFrom 14 = .ok (.invokevirtual 46, 3) := by decide +kernel
theorem dX3_leadFrom_17 : decode cX3_leadFrom 17 = .ok (.aload_n 0, 1) := by decide +kernel
theorem dX3_leadFrom_18 : decode cX3_leadFrom 18 = .ok (.getfield 12, 3) := by decide +kernel
theorem dX3_leadFrom_21 : decode cX3_leadFrom 21 = .ok (.iload_n 2, 1) := by decide +kernel
theorem dX3_leadFrom_22 : decode cX3_leadFrom 22 = .ok (.invokevirtual 50, 3) := by decide +kernel
theorem dX3_leadFrom_25 : decode cX3_leadFrom 25 = .ok (.ireturn, 1) := by decide +kernel
theorem dX3_bestCell_0 : decode cX3_bestCell 0 = .ok (.iconst 0, 1) := by decide +kernel
theorem dX3_bestCell_1 : decode cX3_bestCell 1 = .ok (.istore_n 3, 1) := by decide +kernel
theorem dX3_bestCell_2 : decode cX3_bestCell 2 = .ok (.aload_n 0, 1) := by decide +kernel
theorem dX3_bestCell_3 : decode cX3_bestCell 3 = .ok (.aload_n 1, 1) := by decide +kernel
theorem dX3_bestCell_4 : decode cX3_bestCell 4 = .ok (.iload_n 2, 1) := by decide +kernel
theorem dX3_bestCell_5 : decode cX3_bestCell 5 = .ok (.iconst 0, 1) := by decide +kernel
theorem dX3_bestCell_6 : decode cX3_bestCell 6 = .ok (.invokevirtual 53, 3) := by decide +kernel
theorem dX3_bestCell_9 : decode cX3_bestCell 9 = .ok (.istore 4, 2) := by decide +kernel
theorem dX3_bestCell_11 : decode cX3_bestCell 11 = .ok (.iconst 1, 1) := by decide +kernel
theorem dX3_bestCell_12 : decode cX3_bestCell 12 = .ok (.istore 5, 2) := by decide +kernel
theorem dX3_bestCell_14 : decode cX3_bestCell 14 = .ok (.iload 5, 2) := by decide +kernel
theorem dX3_bestCell_16 : decode cX3_bestCell 16 = .ok (.bipush 9, 2) := by decide +kernel
theorem dX3_bestCell_18 : decode cX3_bestCell 18 = .ok (.if_icmp .ge 33, 3) := by decide +kernel
theorem dX3_bestCell_21 : decode cX3_bestCell 21 = .ok (.aload_n 0, 1) := by decide +kernel
theorem dX3_bestCell_22 : decode cX3_bestCell 22 = .ok (.aload_n 1, 1) := by decide +kernel
theorem dX3_bestCell_23 : decode cX3_bestCell 23 = .ok (.iload_n 2, 1) := by decide +kernel
theorem dX3_bestCell_24 : decode cX3_bestCell 24 = .ok (.iload 5, 2) := by decide +kernel
theorem dX3_bestCell_26 : decode cX3_bestCell 26 = .ok (.invokevirtual 53, 3) := by decide +kernel
theorem dX3_bestCell_29 : decode cX3_bestCell 29 = .ok (.istore 6, 2) := by decide +kernel
theorem dX3_bestCell_31 : decode cX3_bestCell 31 = .ok (.iload 6, 2) := by decide +kernel
theorem dX3_bestCell_33 : decode cX3_bestCell 33 = .ok (.iload 4, 2) := by decide +kernel
theorem dX3_bestCell_35 : decode cX3_bestCell 35 = .ok (.if_icmp .le 10, 3) := by decide +kernel
theorem dX3_bestCell_38 : decode cX3_bestCell 38 = .ok (.iload 5, 2) := by decide +kernel
theorem dX3_bestCell_40 : decode cX3_bestCell 40 = .ok (.istore_n 3, 1) := by decide +kernel
theorem dX3_bestCell_41 : decode cX3_bestCell 41 = .ok (.iload 6, 2) := by decide +kernel
theorem dX3_bestCell_43 : decode cX3_bestCell 43 = .ok (.istore 4, 2) := by decide +kernel
theorem dX3_bestCell_45 : decode cX3_bestCell 45 = .ok (.iinc 5 1, 3) := by decide +kernel
theorem dX3_bestCell_48 : decode cX3_bestCell 48 = .ok (.goto (-34), 3) := by decide +kernel
theorem dX3_bestCell_51 : decode cX3_bestCell 51 = .ok (.iload_n 3, 1) := by decide +kernel
theorem dX3_bestCell_52 : decode cX3_bestCell 52 = .ok (.ireturn, 1) := by decide +kernel
theorem dX3_weighPairs_0 : decode cX3_weighPairs 0 = .ok (.aload_n 0, 1) := by decide +kernel
theorem dX3_weighPairs_1 : decode cX3_weighPairs 1 = .ok (.getfield 12, 3) := by decide +kernel
theorem dX3_weighPairs_4 : decode cX3_weighPairs 4 = .ok (.aload_n 1, 1) := by decide +kernel
theorem dX3_weighPairs_5 : decode cX3_weighPairs 5 = .ok (.invokevirtual 34, 3) := by decide +kernel
theorem dX3_weighPairs_8 : decode cX3_weighPairs 8 = .ok (.iconst 0, 1) := by decide +kernel
theorem dX3_weighPairs_9 : decode cX3_weighPairs 9 = .ok (.istore_n 2, 1) := by decide +kernel
theorem dX3_weighPairs_10 : decode cX3_weighPairs 10 = .ok (.iload_n 2, 1) := by decide +kernel
theorem dX3_weighPairs_11 : decode cX3_weighPairs 11 = .ok (.bipush 9, 2) := by decide +kernel
theorem dX3_weighPairs_13 : decode cX3_weighPairs 13 = .ok (.if_icmp .ge 60, 3) := by decide +kernel
theorem dX3_weighPairs_16 : decode cX3_weighPairs 16 = .ok (.aload_n 0, 1) := by decide +kernel
theorem dX3_weighPairs_17 : decode cX3_weighPairs 17 = .ok (.getfield 12, 3) := by decide +kernel
theorem dX3_weighPairs_20 : decode cX3_weighPairs 20 = .ok (.iconst 0, 1) := by decide +kernel
theorem dX3_weighPairs_21 : decode cX3_weighPairs 21 = .ok (.iload_n 2, 1) := by decide +kernel
theorem dX3_weighPairs_22 : decode cX3_weighPairs 22 = .ok (.invokevirtual 46, 3) := by decide +kernel
theorem dX3_weighPairs_25 : decode cX3_weighPairs 25 = .ok (.iconst 0, 1) := by decide +kernel
theorem dX3_weighPairs_26 : decode cX3_weighPairs 26 = .ok (.istore_n 3, 1) := by decide +kernel
theorem dX3_weighPairs_27 : decode cX3_weighPairs 27 = .ok (.iload_n 3, 1) := by decide +kernel
theorem dX3_weighPairs_28 : decode cX3_weighPairs 28 = .ok (.bipush 9, 2) := by decide +kernel
theorem dX3_weighPairs_30 : decode cX3_weighPairs 30 = .ok (.if_icmp .ge 37, 3) := by decide +kernel
theorem dX3_weighPairs_33 : decode cX3_weighPairs 33 = .ok (.aload_n 0, 1) := by decide +kernel
theorem dX3_weighPairs_34 : decode cX3_weighPairs 34 = .ok (.getfield 12, 3) := by decide +kernel
theorem dX3_weighPairs_37 : decode cX3_weighPairs 37 = .ok (.iconst 1, 1) := by decide +kernel
theorem dX3_weighPairs_38 : decode cX3_weighPairs 38 = .ok (.iload_n 3, 1) := by decide +kernel
theorem dX3_weighPairs_39 : decode cX3_weighPairs 39 = .ok (.invokevirtual 46, 3) := by decide +kernel
theorem dX3_weighPairs_42 : decode cX3_weighPairs 42 = .ok (.aload_n 0, 1) := by decide +kernel
theorem dX3_weighPairs_43 : decode cX3_weighPairs 43 = .ok (.getfield 25, 3) := by decide +kernel
theorem dX3_weighPairs_46 : decode cX3_weighPairs 46 = .ok (.iload_n 2, 1) := by decide +kernel
theorem dX3_weighPairs_47 : decode cX3_weighPairs 47 = .ok (.bipush 9, 2) := by decide +kernel
theorem dX3_weighPairs_49 : decode cX3_weighPairs 49 = .ok (.imul, 1) := by decide +kernel
theorem dX3_weighPairs_50 : decode cX3_weighPairs 50 = .ok (.iload_n 3, 1) := by decide +kernel
theorem dX3_weighPairs_51 : decode cX3_weighPairs 51 = .ok (.iadd, 1) := by decide +kernel
theorem dX3_weighPairs_52 : decode cX3_weighPairs 52 = .ok (.aload_n 0, 1) := by decide +kernel
theorem dX3_weighPairs_53 : decode cX3_weighPairs 53 = .ok (.getfield 12, 3) := by decide +kernel
theorem dX3_weighPairs_56 : decode cX3_weighPairs 56 = .ok (.iconst 0, 1) := by decide +kernel
theorem dX3_weighPairs_57 : decode cX3_weighPairs 57 = .ok (.invokevirtual 50, 3) := by decide +kernel
theorem dX3_weighPairs_60 : decode cX3_weighPairs 60 = .ok (.iastore, 1) := by decide +kernel
theorem dX3_weighPairs_61 : decode cX3_weighPairs 61 = .ok (.iinc 3 1, 3) := by decide +kernel
theorem dX3_weighPairs_64 : decode cX3_weighPairs 64 = .ok (.goto (-37), 3) := by decide +kernel
theorem dX3_weighPairs_67 : decode cX3_weighPairs 67 = .ok (.iinc 2 1, 3) := by decide +kernel
theorem dX3_weighPairs_70 : decode cX3_weighPairs 70 = .ok (.goto (-60), 3) := by decide +kernel
theorem dX3_weighPairs_73 : decode cX3_weighPairs 73 = .ok (.return_, 1) := by decide +kernel
theorem dX3_restingPairs_0 : decode cX3_restingPairs 0 = .ok (.iconst 0, 1) := by decide +kernel
theorem dX3_restingPairs_1 : decode cX3_restingPairs 1 = .ok (.istore_n 1, 1) := by decide +kernel
theorem dX3_restingPairs_2 : decode cX3_restingPairs 2 = .ok (.iconst 0, 1) := by decide +kernel
theorem dX3_restingPairs_3 : decode cX3_restingPairs 3 = .ok (.istore_n 2, 1) := by decide +kernel
theorem dX3_restingPairs_4 : decode cX3_restingPairs 4 = .ok (.iload_n 2, 1) := by decide +kernel
theorem dX3_restingPairs_5 : decode cX3_restingPairs 5 = .ok (.bipush 9, 2) := by decide +kernel
theorem dX3_restingPairs_7 : decode cX3_restingPairs 7 = .ok (.if_icmp .ge 35, 3) := by decide +kernel
theorem dX3_restingPairs_10 : decode cX3_restingPairs 10 = .ok (.iconst 0, 1) := by decide +kernel
theorem dX3_restingPairs_11 : decode cX3_restingPairs 11 = .ok (.istore_n 3, 1) := by decide +kernel
theorem dX3_restingPairs_12 : decode cX3_restingPairs 12 = .ok (.iload_n 3, 1) := by decide +kernel
theorem dX3_restingPairs_13 : decode cX3_restingPairs 13 = .ok (.bipush 9, 2) := by decide +kernel
theorem dX3_restingPairs_15 : decode cX3_restingPairs 15 = .ok (.if_icmp .ge 21, 3) := by decide +kernel
theorem dX3_restingPairs_18 : decode cX3_restingPairs 18 = .ok (.aload_n 0, 1) := by decide +kernel
theorem dX3_restingPairs_19 : decode cX3_restingPairs 19 = .ok (.iload_n 2, 1) := by decide +kernel
theorem dX3_restingPairs_20 : decode cX3_restingPairs 20 = .ok (.iload_n 3, 1) := by decide +kernel
theorem dX3_restingPairs_21 : decode cX3_restingPairs 21 = .ok (.invokevirtual 57, 3) := by decide +kernel
theorem dX3_restingPairs_24 : decode cX3_restingPairs 24 = .ok (.ifCond .eq 6, 3) := by decide +kernel
theorem dX3_restingPairs_27 : decode cX3_restingPairs 27 = .ok (.iinc 1 1, 3) := by decide +kernel
theorem dX3_restingPairs_30 : decode cX3_restingPairs 30 = .ok (.iinc 3 1, 3) := by decide +kernel
theorem dX3_restingPairs_33 : decode cX3_restingPairs 33 = .ok (.goto (-21), 3) := by decide +kernel
theorem dX3_restingPairs_36 : decode cX3_restingPairs 36 = .ok (.iinc 2 1, 3) := by decide +kernel
theorem dX3_restingPairs_39 : decode cX3_restingPairs 39 = .ok (.goto (-35), 3) := by decide +kernel
theorem dX3_restingPairs_42 : decode cX3_restingPairs 42 = .ok (.iload_n 1, 1) := by decide +kernel
theorem dX3_restingPairs_43 : decode cX3_restingPairs 43 = .ok (.ireturn, 1) := by decide +kernel
theorem dX3_firstResting_0 : decode cX3_firstResting 0 = .ok (.iconst 0, 1) := by decide +kernel
theorem dX3_firstResting_1 : decode cX3_firstResting 1 = .ok (.istore_n 1, 1) := by decide +kernel
theorem dX3_firstResting_2 : decode cX3_firstResting 2 = .ok (.iload_n 1, 1) := by decide +kernel
theorem dX3_firstResting_3 : decode cX3_firstResting 3 = .ok (.bipush 9, 2) := by decide +kernel
theorem dX3_firstResting_5 : decode cX3_firstResting 5 = .ok (.if_icmp .ge 39, 3) := by decide +kernel
theorem dX3_firstResting_8 : decode cX3_firstResting 8 = .ok (.iconst 0, 1) := by decide +kernel
theorem dX3_firstResting_9 : decode cX3_firstResting 9 = .ok (.istore_n 2, 1) := by decide +kernel
theorem dX3_firstResting_10 : decode cX3_firstResting 10 = .ok (.iload_n 2, 1) := by decide +kernel
theorem dX3_firstResting_11 : decode cX3_firstResting 11 = .ok (.bipush 9, 2) := by decide +kernel
theorem dX3_firstResting_13 : decode cX3_firstResting 13 = .ok (.if_icmp .ge 25, 3) := by decide +kernel
theorem dX3_firstResting_16 : decode cX3_firstResting 16 = .ok (.aload_n 0, 1) := by decide +kernel
theorem dX3_firstResting_17 : decode cX3_firstResting 17 = .ok (.iload_n 1, 1) := by decide +kernel
theorem dX3_firstResting_18 : decode cX3_firstResting 18 = .ok (.iload_n 2, 1) := by decide +kernel
theorem dX3_firstResting_19 : decode cX3_firstResting 19 = .ok (.invokevirtual 57, 3) := by decide +kernel
theorem dX3_firstResting_22 : decode cX3_firstResting 22 = .ok (.ifCond .eq 10, 3) := by decide +kernel
theorem dX3_firstResting_25 : decode cX3_firstResting 25 = .ok (.bipush 10, 2) := by decide +kernel
theorem dX3_firstResting_27 : decode cX3_firstResting 27 = .ok (.iload_n 1, 1) := by decide +kernel
theorem dX3_firstResting_28 : decode cX3_firstResting 28 = .ok (.imul, 1) := by decide +kernel
theorem dX3_firstResting_29 : decode cX3_firstResting 29 = .ok (.iload_n 2, 1) := by decide +kernel
theorem dX3_firstResting_30 : decode cX3_firstResting 30 = .ok (.iadd, 1) := by decide +kernel
theorem dX3_firstResting_31 : decode cX3_firstResting 31 = .ok (.ireturn, 1) := by decide +kernel
theorem dX3_firstResting_32 : decode cX3_firstResting 32 = .ok (.iinc 2 1, 3) := by decide +kernel
theorem dX3_firstResting_35 : decode cX3_firstResting 35 = .ok (.goto (-25), 3) := by decide +kernel
theorem dX3_firstResting_38 : decode cX3_firstResting 38 = .ok (.iinc 1 1, 3) := by decide +kernel
theorem dX3_firstResting_41 : decode cX3_firstResting 41 = .ok (.goto (-39), 3) := by decide +kernel
theorem dX3_firstResting_44 : decode cX3_firstResting 44 = .ok (.ldc 45, 2) := by decide +kernel
theorem dX3_firstResting_46 : decode cX3_firstResting 46 = .ok (.ireturn, 1) := by decide +kernel
theorem dX3_isResting_0 : decode cX3_isResting 0 = .ok (.iload_n 1, 1) := by decide +kernel
theorem dX3_isResting_1 : decode cX3_isResting 1 = .ok (.iconst 0, 1) := by decide +kernel
theorem dX3_isResting_2 : decode cX3_isResting 2 = .ok (.bipush 8, 2) := by decide +kernel
theorem dX3_isResting_4 : decode cX3_isResting 4 = .ok (.invokestatic 61, 3) := by decide +kernel
theorem dX3_isResting_7 : decode cX3_isResting 7 = .ok (.ifCond .eq 13, 3) := by decide +kernel
theorem dX3_isResting_10 : decode cX3_isResting 10 = .ok (.iload_n 2, 1) := by decide +kernel
theorem dX3_isResting_11 : decode cX3_isResting 11 = .ok (.iconst 0, 1) := by decide +kernel
theorem dX3_isResting_12 : decode cX3_isResting 12 = .ok (.bipush 8, 2) := by decide +kernel
theorem dX3_isResting_14 : decode cX3_isResting 14 = .ok (.invokestatic 61, 3) := by decide +kernel
theorem dX3_isResting_17 : decode cX3_isResting 17 = .ok (.ifCond .ne 5, 3) := by decide +kernel
theorem dX3_isResting_20 : decode cX3_isResting 20 = .ok (.iconst 0, 1) := by decide +kernel
theorem dX3_isResting_21 : decode cX3_isResting 21 = .ok (.ireturn, 1) := by decide +kernel
theorem dX3_isResting_22 : decode cX3_isResting 22 = .ok (.aload_n 0, 1) := by decide +kernel
theorem dX3_isResting_23 : decode cX3_isResting 23 = .ok (.getfield 25, 3) := by decide +kernel
theorem dX3_isResting_26 : decode cX3_isResting 26 = .ok (.iload_n 1, 1) := by decide +kernel
theorem dX3_isResting_27 : decode cX3_isResting 27 = .ok (.bipush 9, 2) := by decide +kernel
theorem dX3_isResting_29 : decode cX3_isResting 29 = .ok (.imul, 1) := by decide +kernel
theorem dX3_isResting_30 : decode cX3_isResting 30 = .ok (.iload_n 2, 1) := by decide +kernel
theorem dX3_isResting_31 : decode cX3_isResting 31 = .ok (.iadd, 1) := by decide +kernel
theorem dX3_isResting_32 : decode cX3_isResting 32 = .ok (.iaload, 1) := by decide +kernel
theorem dX3_isResting_33 : decode cX3_isResting 33 = .ok (.istore_n 3, 1) := by decide +kernel
theorem dX3_isResting_34 : decode cX3_isResting 34 = .ok (.iconst 0, 1) := by decide +kernel
theorem dX3_isResting_35 : decode cX3_isResting 35 = .ok (.istore 4, 2) := by decide +kernel
theorem dX3_isResting_37 : decode cX3_isResting 37 = .ok (.iload 4, 2) := by decide +kernel
theorem dX3_isResting_39 : decode cX3_isResting 39 = .ok (.bipush 9, 2) := by decide +kernel
theorem dX3_isResting_41 : decode cX3_isResting 41 = .ok (.if_icmp .ge 43, 3) := by decide +kernel
theorem dX3_isResting_44 : decode cX3_isResting 44 = .ok (.aload_n 0, 1) := by decide +kernel
theorem dX3_isResting_45 : decode cX3_isResting 45 = .ok (.getfield 25, 3) := by decide +kernel
theorem dX3_isResting_48 : decode cX3_isResting 48 = .ok (.iload 4, 2) := by decide +kernel
theorem dX3_isResting_50 : decode cX3_isResting 50 = .ok (.bipush 9, 2) := by decide +kernel
theorem dX3_isResting_52 : decode cX3_isResting 52 = .ok (.imul, 1) := by decide +kernel
theorem dX3_isResting_53 : decode cX3_isResting 53 = .ok (.iload_n 2, 1) := by decide +kernel
theorem dX3_isResting_54 : decode cX3_isResting 54 = .ok (.iadd, 1) := by decide +kernel
theorem dX3_isResting_55 : decode cX3_isResting 55 = .ok (.iaload, 1) := by decide +kernel
theorem dX3_isResting_56 : decode cX3_isResting 56 = .ok (.iload_n 3, 1) := by decide +kernel
theorem dX3_isResting_57 : decode cX3_isResting 57 = .ok (.if_icmp .gt 19, 3) := by decide +kernel
theorem dX3_isResting_60 : decode cX3_isResting 60 = .ok (.aload_n 0, 1) := by decide +kernel
theorem dX3_isResting_61 : decode cX3_isResting 61 = .ok (.getfield 25, 3) := by decide +kernel
theorem dX3_isResting_64 : decode cX3_isResting 64 = .ok (.iload_n 1, 1) := by decide +kernel
theorem dX3_isResting_65 : decode cX3_isResting 65 = .ok (.bipush 9, 2) := by decide +kernel
theorem dX3_isResting_67 : decode cX3_isResting 67 = .ok (.imul, 1) := by decide +kernel
theorem dX3_isResting_68 : decode cX3_isResting 68 = .ok (.iload 4, 2) := by decide +kernel
theorem dX3_isResting_70 : decode cX3_isResting 70 = .ok (.iadd, 1) := by decide +kernel
theorem dX3_isResting_71 : decode cX3_isResting 71 = .ok (.iaload, 1) := by decide +kernel
theorem dX3_isResting_72 : decode cX3_isResting 72 = .ok (.iload_n 3, 1) := by decide +kernel
theorem dX3_isResting_73 : decode cX3_isResting 73 = .ok (.if_icmp .ge 5, 3) := by decide +kernel
theorem dX3_isResting_76 : decode cX3_isResting 76 = .ok (.iconst 0, 1) := by decide +kernel
theorem dX3_isResting_77 : decode cX3_isResting 77 = .ok (.ireturn, 1) := by decide +kernel
theorem dX3_isResting_78 : decode cX3_isResting 78 = .ok (.iinc 4 1, 3) := by decide +kernel
theorem dX3_isResting_81 : decode cX3_isResting 81 = .ok (.goto (-44), 3) := by decide +kernel
theorem dX3_isResting_84 : decode cX3_isResting 84 = .ok (.iconst 1, 1) := by decide +kernel
theorem dX3_isResting_85 : decode cX3_isResting 85 = .ok (.ireturn, 1) := by decide +kernel
theorem dX3_weighBeds_0 : decode cX3_weighBeds 0 = .ok (.iconst 0, 1) := by decide +kernel
theorem dX3_weighBeds_1 : decode cX3_weighBeds 1 = .ok (.istore_n 3, 1) := by decide +kernel
theorem dX3_weighBeds_2 : decode cX3_weighBeds 2 = .ok (.iload_n 3, 1) := by decide +kernel
theorem dX3_weighBeds_3 : decode cX3_weighBeds 3 = .ok (.bipush 9, 2) := by decide +kernel
theorem dX3_weighBeds_5 : decode cX3_weighBeds 5 = .ok (.if_icmp .ge 41, 3) := by decide +kernel
theorem dX3_weighBeds_8 : decode cX3_weighBeds 8 = .ok (.aload_n 0, 1) := by decide +kernel
theorem dX3_weighBeds_9 : decode cX3_weighBeds 9 = .ok (.getfield 22, 3) := by decide +kernel
theorem dX3_weighBeds_12 : decode cX3_weighBeds 12 = .ok (.iload_n 3, 1) := by decide +kernel
theorem dX3_weighBeds_13 : decode cX3_weighBeds 13 = .ok (.aload_n 1, 1) := by decide +kernel
theorem dX3_weighBeds_14 : decode cX3_weighBeds 14 = .ok (.iload_n 3, 1) := by decide +kernel
theorem dX3_weighBeds_15 : decode cX3_weighBeds 15 = .ok (.invokevirtual 65, 3) := by decide +kernel
theorem dX3_weighBeds_18 : decode cX3_weighBeds 18 = .ok (.ifCond .eq 20, 3) := by decide +kernel
theorem dX3_weighBeds_21 : decode cX3_weighBeds 21 = .ok (.aload_n 1, 1) := by decide +kernel
theorem dX3_weighBeds_22 : decode cX3_weighBeds 22 = .ok (.iload_n 3, 1) := by decide +kernel
theorem dX3_weighBeds_23 : decode cX3_weighBeds 23 = .ok (.invokevirtual 69, 3) := by decide +kernel
theorem dX3_weighBeds_26 : decode cX3_weighBeds 26 = .ok (.ifCond .ne 12, 3) := by decide +kernel
theorem dX3_weighBeds_29 : decode cX3_weighBeds 29 = .ok (.aload_n 1, 1) := by decide +kernel
theorem dX3_weighBeds_30 : decode cX3_weighBeds 30 = .ok (.iload_n 3, 1) := by decide +kernel
theorem dX3_weighBeds_31 : decode cX3_weighBeds 31 = .ok (.iload_n 2, 1) := by decide +kernel
theorem dX3_weighBeds_32 : decode cX3_weighBeds 32 = .ok (.invokevirtual 72, 3) := by decide +kernel
theorem dX3_weighBeds_35 : decode cX3_weighBeds 35 = .ok (.goto 4, 3) := by decide +kernel
theorem dX3_weighBeds_38 : decode cX3_weighBeds 38 = .ok (.iconst 0, 1) := by decide +kernel
theorem dX3_weighBeds_39 : decode cX3_weighBeds 39 = .ok (.iastore, 1) := by decide +kernel
theorem dX3_weighBeds_40 : decode cX3_weighBeds 40 = .ok (.iinc 3 1, 3) := by decide +kernel
theorem dX3_weighBeds_43 : decode cX3_weighBeds 43 = .ok (.goto (-41), 3) := by decide +kernel
theorem dX3_weighBeds_46 : decode cX3_weighBeds 46 = .ok (.return_, 1) := by decide +kernel
theorem dX3_gainOfAll_0 : decode cX3_gainOfAll 0 = .ok (.iconst 0, 1) := by decide +kernel
theorem dX3_gainOfAll_1 : decode cX3_gainOfAll 1 = .ok (.istore_n 2, 1) := by decide +kernel
theorem dX3_gainOfAll_2 : decode cX3_gainOfAll 2 = .ok (.iconst 0, 1) := by decide +kernel
theorem dX3_gainOfAll_3 : decode cX3_gainOfAll 3 = .ok (.istore_n 3, 1) := by decide +kernel
theorem dX3_gainOfAll_4 : decode cX3_gainOfAll 4 = .ok (.iload_n 3, 1) := by decide +kernel
theorem dX3_gainOfAll_5 : decode cX3_gainOfAll 5 = .ok (.bipush 9, 2) := by decide +kernel
theorem dX3_gainOfAll_7 : decode cX3_gainOfAll 7 = .ok (.if_icmp .ge 27, 3) := by decide +kernel
theorem dX3_gainOfAll_10 : decode cX3_gainOfAll 10 = .ok (.iload_n 1, 1) := by decide +kernel
theorem dX3_gainOfAll_11 : decode cX3_gainOfAll 11 = .ok (.iload_n 3, 1) := by decide +kernel
theorem dX3_gainOfAll_12 : decode cX3_gainOfAll 12 = .ok (.ishr, 1) := by decide +kernel
theorem dX3_gainOfAll_13 : decode cX3_gainOfAll 13 = .ok (.iconst 1, 1) := by decide +kernel
theorem dX3_gainOfAll_14 : decode cX3_gainOfAll 14 = .ok (.iand, 1) := by decide +kernel
theorem dX3_gainOfAll_15 : decode cX3_gainOfAll 15 = .ok (.iconst 1, 1) := by decide +kernel
theorem dX3_gainOfAll_16 : decode cX3_gainOfAll 16 = .ok (.if_icmp .ne 12, 3) := by decide +kernel
theorem dX3_gainOfAll_19 : decode cX3_gainOfAll 19 = .ok (.iload_n 2, 1) := by decide +kernel
theorem dX3_gainOfAll_20 : decode cX3_gainOfAll 20 = .ok (.aload_n 0, 1) := by decide +kernel
theorem dX3_gainOfAll_21 : decode cX3_gainOfAll 21 = .ok (.getfield 22, 3) := by decide +kernel
theorem dX3_gainOfAll_24 : decode cX3_gainOfAll 24 = .ok (.iload_n 3, 1) := by decide +kernel
theorem dX3_gainOfAll_25 : decode cX3_gainOfAll 25 = .ok (.iaload, 1) := by decide +kernel
theorem dX3_gainOfAll_26 : decode cX3_gainOfAll 26 = .ok (.iadd, 1) := by decide +kernel
theorem dX3_gainOfAll_27 : decode cX3_gainOfAll 27 = .ok (.istore_n 2, 1) := by decide +kernel
theorem dX3_gainOfAll_28 : decode cX3_gainOfAll 28 = .ok (.iinc 3 1, 3) := by decide +kernel
theorem dX3_gainOfAll_31 : decode cX3_gainOfAll 31 = .ok (.goto (-27), 3) := by decide +kernel
theorem dX3_gainOfAll_34 : decode cX3_gainOfAll 34 = .ok (.iload_n 2, 1) := by decide +kernel
theorem dX3_gainOfAll_35 : decode cX3_gainOfAll 35 = .ok (.ireturn, 1) := by decide +kernel
theorem dX3_gainBetween_0 : decode cX3_gainBetween 0 = .ok (.iconst 0, 1) := by decide +kernel
theorem dX3_gainBetween_1 : decode cX3_gainBetween 1 = .ok (.istore_n 3, 1) := by decide +kernel
theorem dX3_gainBetween_2 : decode cX3_gainBetween 2 = .ok (.iconst 0, 1) := by decide +kernel
theorem dX3_gainBetween_3 : decode cX3_gainBetween 3 = .ok (.istore 4, 2) := by decide +kernel
theorem dX3_gainBetween_5 : decode cX3_gainBetween 5 = .ok (.iload 4, 2) := by decide +kernel
theorem dX3_gainBetween_7 : decode cX3_gainBetween 7 = .ok (.bipush 9, 2) := by decide +kernel
theorem dX3_gainBetween_9 : decode cX3_gainBetween 9 = .ok (.if_icmp .ge 31, 3) := by decide +kernel
theorem dX3_gainBetween_12 : decode cX3_gainBetween 12 = .ok (.iload 4, 2) := by decide +kernel
theorem dX3_gainBetween_14 : decode cX3_gainBetween 14 = .ok (.iload_n 1, 1) := by decide +kernel
theorem dX3_gainBetween_15 : decode cX3_gainBetween 15 = .ok (.if_icmp .lt 19, 3) := by decide +kernel
theorem dX3_gainBetween_18 : decode cX3_gainBetween 18 = .ok (.iload 4, 2) := by decide +kernel
theorem dX3_gainBetween_20 : decode cX3_gainBetween 20 = .ok (.iload_n 2, 1) := by decide +kernel
theorem dX3_gainBetween_21 : decode cX3_gainBetween 21 = .ok (.if_icmp .ge 13, 3) := by decide +kernel
theorem dX3_gainBetween_24 : decode cX3_gainBetween 24 = .ok (.iload_n 3, 1) := by decide +kernel
theorem dX3_gainBetween_25 : decode cX3_gainBetween 25 = .ok (.aload_n 0, 1) := by decide +kernel
theorem dX3_gainBetween_26 : decode cX3_gainBetween 26 = .ok (.getfield 22, 3) := by decide +kernel
theorem dX3_gainBetween_29 : decode cX3_gainBetween 29 = .ok (.iload 4, 2) := by decide +kernel
theorem dX3_gainBetween_31 : decode cX3_gainBetween 31 = .ok (.iaload, 1) := by decide +kernel
theorem dX3_gainBetween_32 : decode cX3_gainBetween 32 = .ok (.iadd, 1) := by decide +kernel
theorem dX3_gainBetween_33 : decode cX3_gainBetween 33 = .ok (.istore_n 3, 1) := by decide +kernel
theorem dX3_gainBetween_34 : decode cX3_gainBetween 34 = .ok (.iinc 4 1, 3) := by decide +kernel
theorem dX3_gainBetween_37 : decode cX3_gainBetween 37 = .ok (.goto (-32), 3) := by decide +kernel
theorem dX3_gainBetween_40 : decode cX3_gainBetween 40 = .ok (.iload_n 3, 1) := by decide +kernel
theorem dX3_gainBetween_41 : decode cX3_gainBetween 41 = .ok (.ireturn, 1) := by decide +kernel
theorem dX3_fewestRaked_0 : decode cX3_fewestRaked 0 = .ok (.aload_n 0, 1) := by decide +kernel
theorem dX3_fewestRaked_1 : decode cX3_fewestRaked 1 = .ok (.aload_n 1, 1) := by decide +kernel
theorem dX3_fewestRaked_2 : decode cX3_fewestRaked 2 = .ok (.iload_n 2, 1) := by decide +kernel
theorem dX3_fewestRaked_3 : decode cX3_fewestRaked 3 = .ok (.invokevirtual 75, 3) := by decide +kernel
theorem dX3_fewestRaked_6 : decode cX3_fewestRaked 6 = .ok (.aload_n 1, 1) := by decide +kernel
theorem dX3_fewestRaked_7 : decode cX3_fewestRaked 7 = .ok (.iload_n 2, 1) := by decide +kernel
theorem dX3_fewestRaked_8 : decode cX3_fewestRaked 8 = .ok (.invokevirtual 79, 3) := by decide +kernel
theorem dX3_fewestRaked_11 : decode cX3_fewestRaked 11 = .ok (.istore_n 3, 1) := by decide +kernel
theorem dX3_fewestRaked_12 : decode cX3_fewestRaked 12 = .ok (.ldc 45, 2) := by decide +kernel
theorem dX3_fewestRaked_14 : decode cX3_fewestRaked 14 = .ok (.istore 4, 2) := by decide +kernel
theorem dX3_fewestRaked_16 : decode cX3_fewestRaked 16 = .ok (.iconst 0, 1) := by decide +kernel
theorem dX3_fewestRaked_17 : decode cX3_fewestRaked 17 = .ok (.istore 5, 2) := by decide +kernel
theorem dX3_fewestRaked_19 : decode cX3_fewestRaked 19 = .ok (.iload 5, 2) := by decide +kernel
theorem dX3_fewestRaked_21 : decode cX3_fewestRaked 21 = .ok (.iconst 1, 1) := by decide +kernel
theorem dX3_fewestRaked_22 : decode cX3_fewestRaked 22 = .ok (.aload_n 1, 1) := by decide +kernel
theorem dX3_fewestRaked_23 : decode cX3_fewestRaked 23 = .ok (.getfield 82, 3) := by decide +kernel
theorem dX3_fewestRaked_26 : decode cX3_fewestRaked 26 = .ok (.ishl, 1) := by decide +kernel
theorem dX3_fewestRaked_27 : decode cX3_fewestRaked 27 = .ok (.if_icmp .ge 66, 3) := by decide +kernel
theorem dX3_fewestRaked_30 : decode cX3_fewestRaked 30 = .ok (.iload 4, 2) := by decide +kernel
theorem dX3_fewestRaked_32 : decode cX3_fewestRaked 32 = .ok (.ldc 45, 2) := by decide +kernel
theorem dX3_fewestRaked_34 : decode cX3_fewestRaked 34 = .ok (.if_icmp .eq 16, 3) := by decide +kernel
theorem dX3_fewestRaked_37 : decode cX3_fewestRaked 37 = .ok (.iload 5, 2) := by decide +kernel
theorem dX3_fewestRaked_39 : decode cX3_fewestRaked 39 = .ok (.invokestatic 86, 3) := by decide +kernel
theorem dX3_fewestRaked_42 : decode cX3_fewestRaked 42 = .ok (.iload 4, 2) := by decide +kernel
theorem dX3_fewestRaked_44 : decode cX3_fewestRaked 44 = .ok (.invokestatic 86, 3) := by decide +kernel
theorem dX3_fewestRaked_47 : decode cX3_fewestRaked 47 = .ok (.if_icmp .ge 7, 3) := by decide +kernel
theorem dX3_fewestRaked_50 : decode cX3_fewestRaked 50 = .ok (.iconst 1, 1) := by decide +kernel
theorem dX3_fewestRaked_51 : decode cX3_fewestRaked 51 = .ok (.goto 4, 3) := by decide +kernel
theorem dX3_fewestRaked_54 : decode cX3_fewestRaked 54 = .ok (.iconst 0, 1) := by decide +kernel
theorem dX3_fewestRaked_55 : decode cX3_fewestRaked 55 = .ok (.istore 6, 2) := by decide +kernel
theorem dX3_fewestRaked_57 : decode cX3_fewestRaked 57 = .ok (.iload 6, 2) := by decide +kernel
theorem dX3_fewestRaked_59 : decode cX3_fewestRaked 59 = .ok (.ifCond .eq 28, 3) := by decide +kernel
theorem dX3_fewestRaked_62 : decode cX3_fewestRaked 62 = .ok (.iload 5, 2) := by decide +kernel
theorem dX3_fewestRaked_64 : decode cX3_fewestRaked 64 = .ok (.aload_n 1, 1) := by decide +kernel
theorem dX3_fewestRaked_65 : decode cX3_fewestRaked 65 = .ok (.getfield 91, 3) := by decide +kernel
theorem dX3_fewestRaked_68 : decode cX3_fewestRaked 68 = .ok (.iand, 1) := by decide +kernel
theorem dX3_fewestRaked_69 : decode cX3_fewestRaked 69 = .ok (.ifCond .ne 18, 3) := by decide +kernel
theorem dX3_fewestRaked_72 : decode cX3_fewestRaked 72 = .ok (.iload_n 3, 1) := by decide +kernel
theorem dX3_fewestRaked_73 : decode cX3_fewestRaked 73 = .ok (.aload_n 0, 1) := by decide +kernel
theorem dX3_fewestRaked_74 : decode cX3_fewestRaked 74 = .ok (.iload 5, 2) := by decide +kernel
theorem dX3_fewestRaked_76 : decode cX3_fewestRaked 76 = .ok (.invokevirtual 94, 3) := by decide +kernel
theorem dX3_fewestRaked_79 : decode cX3_fewestRaked 79 = .ok (.iadd, 1) := by decide +kernel
theorem dX3_fewestRaked_80 : decode cX3_fewestRaked 80 = .ok (.ifCond .le 7, 3) := by decide +kernel
theorem dX3_fewestRaked_83 : decode cX3_fewestRaked 83 = .ok (.iload 5, 2) := by decide +kernel
theorem dX3_fewestRaked_85 : decode cX3_fewestRaked 85 = .ok (.istore 4, 2) := by decide +kernel
theorem dX3_fewestRaked_87 : decode cX3_fewestRaked 87 = .ok (.iinc 5 1, 3) := by decide +kernel
theorem dX3_fewestRaked_90 : decode cX3_fewestRaked 90 = .ok (.goto (-71), 3) := by decide +kernel
theorem dX3_fewestRaked_93 : decode cX3_fewestRaked 93 = .ok (.iload 4, 2) := by decide +kernel
theorem dX3_fewestRaked_95 : decode cX3_fewestRaked 95 = .ok (.ireturn, 1) := by decide +kernel
theorem dX3_bestCut_0 : decode cX3_bestCut 0 = .ok (.aload_n 0, 1) := by decide +kernel
theorem dX3_bestCut_1 : decode cX3_bestCut 1 = .ok (.aload_n 1, 1) := by decide +kernel
theorem dX3_bestCut_2 : decode cX3_bestCut 2 = .ok (.iload_n 2, 1) := by decide +kernel
theorem dX3_bestCut_3 : decode cX3_bestCut 3 = .ok (.invokevirtual 75, 3) := by decide +kernel
theorem dX3_bestCut_6 : decode cX3_bestCut 6 = .ok (.ldc 45, 2) := by decide +kernel
theorem dX3_bestCut_8 : decode cX3_bestCut 8 = .ok (.istore 4, 2) := by decide +kernel
theorem dX3_bestCut_10 : decode cX3_bestCut 10 = .ok (.iconst (-1), 1) := by decide +kernel
theorem dX3_bestCut_11 : decode cX3_bestCut 11 = .ok (.istore 5, 2) := by decide +kernel
theorem dX3_bestCut_13 : decode cX3_bestCut 13 = .ok (.iconst 0, 1) := by decide +kernel
theorem dX3_bestCut_14 : decode cX3_bestCut 14 = .ok (.istore 6, 2) := by decide +kernel
theorem dX3_bestCut_16 : decode cX3_bestCut 16 = .ok (.iload 6, 2) := by decide +kernel
theorem dX3_bestCut_18 : decode cX3_bestCut 18 = .ok (.bipush 100, 2) := by decide +kernel
theorem dX3_bestCut_20 : decode cX3_bestCut 20 = .ok (.if_icmp .ge 52, 3) := by decide +kernel
theorem dX3_bestCut_23 : decode cX3_bestCut 23 = .ok (.iload 6, 2) := by decide +kernel
theorem dX3_bestCut_25 : decode cX3_bestCut 25 = .ok (.aload_n 1, 1) := by decide +kernel
theorem dX3_bestCut_26 : decode cX3_bestCut 26 = .ok (.getfield 82, 3) := by decide +kernel
theorem dX3_bestCut_29 : decode cX3_bestCut 29 = .ok (.invokestatic 97, 3) := by decide +kernel
theorem dX3_bestCut_32 : decode cX3_bestCut 32 = .ok (.iload_n 3, 1) := by decide +kernel
theorem dX3_bestCut_33 : decode cX3_bestCut 33 = .ok (.if_icmp .eq 6, 3) := by decide +kernel
theorem dX3_bestCut_36 : decode cX3_bestCut 36 = .ok (.goto 30, 3) := by decide +kernel
theorem dX3_bestCut_39 : decode cX3_bestCut 39 = .ok (.aload_n 0, 1) := by decide +kernel
theorem dX3_bestCut_40 : decode cX3_bestCut 40 = .ok (.iload 6, 2) := by decide +kernel
theorem dX3_bestCut_42 : decode cX3_bestCut 42 = .ok (.aload_n 1, 1) := by decide +kernel
theorem dX3_bestCut_43 : decode cX3_bestCut 43 = .ok (.getfield 82, 3) := by decide +kernel
theorem dX3_bestCut_46 : decode cX3_bestCut 46 = .ok (.invokevirtual 100, 3) := by decide +kernel
theorem dX3_bestCut_49 : decode cX3_bestCut 49 = .ok (.istore 7, 2) := by decide +kernel
theorem dX3_bestCut_51 : decode cX3_bestCut 51 = .ok (.iload 7, 2) := by decide +kernel
theorem dX3_bestCut_53 : decode cX3_bestCut 53 = .ok (.iload 5, 2) := by decide +kernel
theorem dX3_bestCut_55 : decode cX3_bestCut 55 = .ok (.if_icmp .le 11, 3) := by decide +kernel
theorem dX3_bestCut_58 : decode cX3_bestCut 58 = .ok (.iload 6, 2) := by decide +kernel
theorem dX3_bestCut_60 : decode cX3_bestCut 60 = .ok (.istore 4, 2) := by decide +kernel
theorem dX3_bestCut_62 : decode cX3_bestCut 62 = .ok (.iload 7, 2) := by decide +kernel
theorem dX3_bestCut_64 : decode cX3_bestCut 64 = .ok (.istore 5, 2) := by decide +kernel
theorem dX3_bestCut_66 : decode cX3_bestCut 66 = .ok (.iinc 6 1, 3) := by decide +kernel
theorem dX3_bestCut_69 : decode cX3_bestCut 69 = .ok (.goto (-53), 3) := by decide +kernel
theorem dX3_bestCut_72 : decode cX3_bestCut 72 = .ok (.iload 4, 2) := by decide +kernel
theorem dX3_bestCut_74 : decode cX3_bestCut 74 = .ok (.ireturn, 1) := by decide +kernel
theorem dX3_wardsOf_0 : decode cX3_wardsOf 0 = .ok (.iload_n 0, 1) := by decide +kernel
theorem dX3_wardsOf_1 : decode cX3_wardsOf 1 = .ok (.bipush 10, 2) := by decide +kernel
theorem dX3_wardsOf_3 : decode cX3_wardsOf 3 = .ok (.idiv, 1) := by decide +kernel
theorem dX3_wardsOf_4 : decode cX3_wardsOf 4 = .ok (.istore_n 2, 1) := by decide +kernel
theorem dX3_wardsOf_5 : decode cX3_wardsOf 5 = .ok (.iload_n 0, 1) := by decide +kernel
theorem dX3_wardsOf_6 : decode cX3_wardsOf 6 = .ok (.bipush 10, 2) := by decide +kernel
theorem dX3_wardsOf_8 : decode cX3_wardsOf 8 = .ok (.irem, 1) := by decide +kernel
theorem dX3_wardsOf_9 : decode cX3_wardsOf 9 = .ok (.istore_n 3, 1) := by decide +kernel
theorem dX3_wardsOf_10 : decode cX3_wardsOf 10 = .ok (.iload_n 0, 1) := by decide +kernel
theorem dX3_wardsOf_11 : decode cX3_wardsOf 11 = .ok (.ifCond .ne 13, 3) := by decide +kernel
theorem dX3_wardsOf_14 : decode cX3_wardsOf 14 = .ok (.iload_n 1, 1) := by decide +kernel
theorem dX3_wardsOf_15 : decode cX3_wardsOf 15 = .ok (.ifCond .le 7, 3) := by decide +kernel
theorem dX3_wardsOf_18 : decode cX3_wardsOf 18 = .ok (.iconst 1, 1) := by decide +kernel
theorem dX3_wardsOf_19 : decode cX3_wardsOf 19 = .ok (.goto 4, 3) := by decide +kernel
theorem dX3_wardsOf_22 : decode cX3_wardsOf 22 = .ok (.iconst 0, 1) := by decide +kernel
theorem dX3_wardsOf_23 : decode cX3_wardsOf 23 = .ok (.ireturn, 1) := by decide +kernel
theorem dX3_wardsOf_24 : decode cX3_wardsOf 24 = .ok (.iload_n 2, 1) := by decide +kernel
theorem dX3_wardsOf_25 : decode cX3_wardsOf 25 = .ok (.iconst 1, 1) := by decide +kernel
theorem dX3_wardsOf_26 : decode cX3_wardsOf 26 = .ok (.if_icmp .lt 8, 3) := by decide +kernel
theorem dX3_wardsOf_29 : decode cX3_wardsOf 29 = .ok (.iload_n 2, 1) := by decide +kernel
theorem dX3_wardsOf_30 : decode cX3_wardsOf 30 = .ok (.iload_n 1, 1) := by decide +kernel
theorem dX3_wardsOf_31 : decode cX3_wardsOf 31 = .ok (.if_icmp .lt 5, 3) := by decide +kernel
theorem dX3_wardsOf_34 : decode cX3_wardsOf 34 = .ok (.iconst 0, 1) := by decide +kernel
theorem dX3_wardsOf_35 : decode cX3_wardsOf 35 = .ok (.ireturn, 1) := by decide +kernel
theorem dX3_wardsOf_36 : decode cX3_wardsOf 36 = .ok (.iload_n 3, 1) := by decide +kernel
theorem dX3_wardsOf_37 : decode cX3_wardsOf 37 = .ok (.ifCond .ne 5, 3) := by decide +kernel
theorem dX3_wardsOf_40 : decode cX3_wardsOf 40 = .ok (.iconst 2, 1) := by decide +kernel
theorem dX3_wardsOf_41 : decode cX3_wardsOf 41 = .ok (.ireturn, 1) := by decide +kernel
theorem dX3_wardsOf_42 : decode cX3_wardsOf 42 = .ok (.iload_n 3, 1) := by decide +kernel
theorem dX3_wardsOf_43 : decode cX3_wardsOf 43 = .ok (.iload_n 2, 1) := by decide +kernel
theorem dX3_wardsOf_44 : decode cX3_wardsOf 44 = .ok (.if_icmp .le 12, 3) := by decide +kernel
theorem dX3_wardsOf_47 : decode cX3_wardsOf 47 = .ok (.iload_n 3, 1) := by decide +kernel
theorem dX3_wardsOf_48 : decode cX3_wardsOf 48 = .ok (.iload_n 1, 1) := by decide +kernel
theorem dX3_wardsOf_49 : decode cX3_wardsOf 49 = .ok (.if_icmp .ge 7, 3) := by decide +kernel
theorem dX3_wardsOf_52 : decode cX3_wardsOf 52 = .ok (.iconst 3, 1) := by decide +kernel
theorem dX3_wardsOf_53 : decode cX3_wardsOf 53 = .ok (.goto 4, 3) := by decide +kernel
theorem dX3_wardsOf_56 : decode cX3_wardsOf 56 = .ok (.iconst 0, 1) := by decide +kernel
theorem dX3_wardsOf_57 : decode cX3_wardsOf 57 = .ok (.ireturn, 1) := by decide +kernel
theorem dX3_wardsLed_0 : decode cX3_wardsLed 0 = .ok (.iload_n 1, 1) := by decide +kernel
theorem dX3_wardsLed_1 : decode cX3_wardsLed 1 = .ok (.bipush 10, 2) := by decide +kernel
theorem dX3_wardsLed_3 : decode cX3_wardsLed 3 = .ok (.idiv, 1) := by decide +kernel
theorem dX3_wardsLed_4 : decode cX3_wardsLed 4 = .ok (.istore_n 3, 1) := by decide +kernel
theorem dX3_wardsLed_5 : decode cX3_wardsLed 5 = .ok (.iload_n 1, 1) := by decide +kernel
theorem dX3_wardsLed_6 : decode cX3_wardsLed 6 = .ok (.bipush 10, 2) := by decide +kernel
theorem dX3_wardsLed_8 : decode cX3_wardsLed 8 = .ok (.irem, 1) := by decide +kernel
theorem dX3_wardsLed_9 : decode cX3_wardsLed 9 = .ok (.istore 4, 2) := by decide +kernel
theorem dX3_wardsLed_11 : decode cX3_wardsLed 11 = .ok (.iload_n 3, 1) := by decide +kernel
theorem dX3_wardsLed_12 : decode cX3_wardsLed 12 = .ok (.ifCond .le 7, 3) := by decide +kernel
theorem dX3_wardsLed_15 : decode cX3_wardsLed 15 = .ok (.iload_n 3, 1) := by decide +kernel
theorem dX3_wardsLed_16 : decode cX3_wardsLed 16 = .ok (.goto 4, 3) := by decide +kernel
theorem dX3_wardsLed_19 : decode cX3_wardsLed 19 = .ok (.iload_n 2, 1) := by decide +kernel
theorem dX3_wardsLed_20 : decode cX3_wardsLed 20 = .ok (.istore 5, 2) := by decide +kernel
theorem dX3_wardsLed_22 : decode cX3_wardsLed 22 = .ok (.iload 4, 2) := by decide +kernel
theorem dX3_wardsLed_24 : decode cX3_wardsLed 24 = .ok (.ifCond .le 8, 3) := by decide +kernel
theorem dX3_wardsLed_27 : decode cX3_wardsLed 27 = .ok (.iload 4, 2) := by decide +kernel
theorem dX3_wardsLed_29 : decode cX3_wardsLed 29 = .ok (.goto 4, 3) := by decide +kernel
theorem dX3_wardsLed_32 : decode cX3_wardsLed 32 = .ok (.iload_n 2, 1) := by decide +kernel
theorem dX3_wardsLed_33 : decode cX3_wardsLed 33 = .ok (.istore 6, 2) := by decide +kernel
theorem dX3_wardsLed_35 : decode cX3_wardsLed 35 = .ok (.iconst 0, 1) := by decide +kernel
theorem dX3_wardsLed_36 : decode cX3_wardsLed 36 = .ok (.istore 7, 2) := by decide +kernel
theorem dX3_wardsLed_38 : decode cX3_wardsLed 38 = .ok (.aload_n 0, 1) := by decide +kernel
theorem dX3_wardsLed_39 : decode cX3_wardsLed 39 = .ok (.iconst 0, 1) := by decide +kernel
theorem dX3_wardsLed_40 : decode cX3_wardsLed 40 = .ok (.iload 5, 2) := by decide +kernel
theorem dX3_wardsLed_42 : decode cX3_wardsLed 42 = .ok (.invokevirtual 103, 3) := by decide +kernel
theorem dX3_wardsLed_45 : decode cX3_wardsLed 45 = .ok (.ifCond .le 6, 3) := by decide +kernel
theorem dX3_wardsLed_48 : decode cX3_wardsLed 48 = .ok (.iinc 7 1, 3) := by decide +kernel
theorem dX3_wardsLed_51 : decode cX3_wardsLed 51 = .ok (.iload_n 3, 1) := by decide +kernel
theorem dX3_wardsLed_52 : decode cX3_wardsLed 52 = .ok (.ifCond .le 16, 3) := by decide +kernel
theorem dX3_wardsLed_55 : decode cX3_wardsLed 55 = .ok (.aload_n 0, 1) := by decide +kernel
theorem dX3_wardsLed_56 : decode cX3_wardsLed 56 = .ok (.iload_n 3, 1) := by decide +kernel
theorem dX3_wardsLed_57 : decode cX3_wardsLed 57 = .ok (.iload 6, 2) := by decide +kernel
theorem dX3_wardsLed_59 : decode cX3_wardsLed 59 = .ok (.invokevirtual 103, 3) := by decide +kernel
theorem dX3_wardsLed_62 : decode cX3_wardsLed 62 = .ok (.ifCond .le 6, 3) := by decide +kernel
theorem dX3_wardsLed_65 : decode cX3_wardsLed 65 = .ok (.iinc 7 1, 3) := by decide +kernel
theorem dX3_wardsLed_68 : decode cX3_wardsLed 68 = .ok (.iload 4, 2) := by decide +kernel
theorem dX3_wardsLed_70 : decode cX3_wardsLed 70 = .ok (.ifCond .le 16, 3) := by decide +kernel
theorem dX3_wardsLed_73 : decode cX3_wardsLed 73 = .ok (.aload_n 0, 1) := by decide +kernel
theorem dX3_wardsLed_74 : decode cX3_wardsLed 74 = .ok (.iload 4, 2) := by decide +kernel
theorem dX3_wardsLed_76 : decode cX3_wardsLed 76 = .ok (.iload_n 2, 1) := by decide +kernel
theorem dX3_wardsLed_77 : decode cX3_wardsLed 77 = .ok (.invokevirtual 103, 3) := by decide +kernel
theorem dX3_wardsLed_80 : decode cX3_wardsLed 80 = .ok (.ifCond .le 6, 3) := by decide +kernel
theorem dX3_wardsLed_83 : decode cX3_wardsLed 83 = .ok (.iinc 7 1, 3) := by decide +kernel
theorem dX3_wardsLed_86 : decode cX3_wardsLed 86 = .ok (.iload 7, 2) := by decide +kernel
theorem dX3_wardsLed_88 : decode cX3_wardsLed 88 = .ok (.ireturn, 1) := by decide +kernel
theorem dX3_grownBy_0 : decode cX3_grownBy 0 = .ok (.iload_n 3, 1) := by decide +kernel
theorem dX3_grownBy_1 : decode cX3_grownBy 1 = .ok (.ifCond .ne 7, 3) := by decide +kernel
theorem dX3_grownBy_4 : decode cX3_grownBy 4 = .ok (.iconst 1, 1) := by decide +kernel
theorem dX3_grownBy_5 : decode cX3_grownBy 5 = .ok (.goto 13, 3) := by decide +kernel
theorem dX3_grownBy_8 : decode cX3_grownBy 8 = .ok (.iload_n 3, 1) := by decide +kernel
theorem dX3_grownBy_9 : decode cX3_grownBy 9 = .ok (.iconst 1, 1) := by decide +kernel
theorem dX3_grownBy_10 : decode cX3_grownBy 10 = .ok (.if_icmp .ne 7, 3) := by decide +kernel
theorem dX3_grownBy_13 : decode cX3_grownBy 13 = .ok (.iconst 0, 1) := by decide +kernel
theorem dX3_grownBy_14 : decode cX3_grownBy 14 = .ok (.goto 4, 3) := by decide +kernel
theorem dX3_grownBy_17 : decode cX3_grownBy 17 = .ok (.iconst 1, 1) := by decide +kernel
theorem dX3_grownBy_18 : decode cX3_grownBy 18 = .ok (.istore 5, 2) := by decide +kernel
theorem dX3_grownBy_20 : decode cX3_grownBy 20 = .ok (.iload_n 3, 1) := by decide +kernel
theorem dX3_grownBy_21 : decode cX3_grownBy 21 = .ok (.ifCond .ne 7, 3) := by decide +kernel
theorem dX3_grownBy_24 : decode cX3_grownBy 24 = .ok (.iconst 5, 1) := by decide +kernel
theorem dX3_grownBy_25 : decode cX3_grownBy 25 = .ok (.goto 15, 3) := by decide +kernel
theorem dX3_grownBy_28 : decode cX3_grownBy 28 = .ok (.iload_n 3, 1) := by decide +kernel
theorem dX3_grownBy_29 : decode cX3_grownBy 29 = .ok (.iconst 1, 1) := by decide +kernel
theorem dX3_grownBy_30 : decode cX3_grownBy 30 = .ok (.if_icmp .ne 8, 3) := by decide +kernel
theorem dX3_grownBy_33 : decode cX3_grownBy 33 = .ok (.bipush 9, 2) := by decide +kernel
theorem dX3_grownBy_35 : decode cX3_grownBy 35 = .ok (.goto 5, 3) := by decide +kernel
theorem dX3_grownBy_38 : decode cX3_grownBy 38 = .ok (.bipush 9, 2) := by decide +kernel
theorem dX3_grownBy_40 : decode cX3_grownBy 40 = .ok (.istore 6, 2) := by decide +kernel
theorem dX3_grownBy_42 : decode cX3_grownBy 42 = .ok (.iconst 0, 1) := by decide +kernel
theorem dX3_grownBy_43 : decode cX3_grownBy 43 = .ok (.istore 7, 2) := by decide +kernel
theorem dX3_grownBy_45 : decode cX3_grownBy 45 = .ok (.iload 5, 2) := by decide +kernel
theorem dX3_grownBy_47 : decode cX3_grownBy 47 = .ok (.istore 8, 2) := by decide +kernel
theorem dX3_grownBy_49 : decode cX3_grownBy 49 = .ok (.iload 8, 2) := by decide +kernel
theorem dX3_grownBy_51 : decode cX3_grownBy 51 = .ok (.iload 6, 2) := by decide +kernel
theorem dX3_grownBy_53 : decode cX3_grownBy 53 = .ok (.if_icmp .gt 80, 3) := by decide +kernel
theorem dX3_grownBy_56 : decode cX3_grownBy 56 = .ok (.aload_n 0, 1) := by decide +kernel
theorem dX3_grownBy_57 : decode cX3_grownBy 57 = .ok (.getfield 12, 3) := by decide +kernel
theorem dX3_grownBy_60 : decode cX3_grownBy 60 = .ok (.aload_n 1, 1) := by decide +kernel
theorem dX3_grownBy_61 : decode cX3_grownBy 61 = .ok (.invokevirtual 34, 3) := by decide +kernel
theorem dX3_grownBy_64 : decode cX3_grownBy 64 = .ok (.iload_n 3, 1) := by decide +kernel
theorem dX3_grownBy_65 : decode cX3_grownBy 65 = .ok (.ifCond .ne 16, 3) := by decide +kernel
theorem dX3_grownBy_68 : decode cX3_grownBy 68 = .ok (.aload_n 0, 1) := by decide +kernel
theorem dX3_grownBy_69 : decode cX3_grownBy 69 = .ok (.getfield 12, 3) := by decide +kernel
theorem dX3_grownBy_72 : decode cX3_grownBy 72 = .ok (.iload_n 2, 1) := by decide +kernel
theorem dX3_grownBy_73 : decode cX3_grownBy 73 = .ok (.iload 8, 2) := by decide +kernel
theorem dX3_grownBy_75 : decode cX3_grownBy 75 = .ok (.invokevirtual 106, 3) := by decide +kernel
theorem dX3_grownBy_78 : decode cX3_grownBy 78 = .ok (.goto 30, 3) := by decide +kernel
theorem dX3_grownBy_81 : decode cX3_grownBy 81 = .ok (.iload_n 3, 1) := by decide +kernel
theorem dX3_grownBy_82 : decode cX3_grownBy 82 = .ok (.iconst 1, 1) := by decide +kernel
theorem dX3_grownBy_83 : decode cX3_grownBy 83 = .ok (.if_icmp .ne 16, 3) := by decide +kernel
theorem dX3_grownBy_86 : decode cX3_grownBy 86 = .ok (.aload_n 0, 1) := by decide +kernel
theorem dX3_grownBy_87 : decode cX3_grownBy 87 = .ok (.getfield 12, 3) := by decide +kernel
theorem dX3_grownBy_90 : decode cX3_grownBy 90 = .ok (.iload_n 2, 1) := by decide +kernel
theorem dX3_grownBy_91 : decode cX3_grownBy 91 = .ok (.iload 8, 2) := by decide +kernel
theorem dX3_grownBy_93 : decode cX3_grownBy 93 = .ok (.invokevirtual 109, 3) := by decide +kernel
theorem dX3_grownBy_96 : decode cX3_grownBy 96 = .ok (.goto 12, 3) := by decide +kernel
theorem dX3_grownBy_99 : decode cX3_grownBy 99 = .ok (.aload_n 0, 1) := by decide +kernel
theorem dX3_grownBy_100 : decode cX3_grownBy 100 = .ok (.getfield 12, 3) := by decide +kernel
theorem dX3_grownBy_103 : decode cX3_grownBy 103 = .ok (.iload 8, 2) := by decide +kernel
theorem dX3_grownBy_105 : decode cX3_grownBy 105 = .ok (.invokevirtual 112, 3) := by decide +kernel
theorem dX3_grownBy_108 : decode cX3_grownBy 108 = .ok (.aload_n 0, 1) := by decide +kernel
theorem dX3_grownBy_109 : decode cX3_grownBy 109 = .ok (.iload_n 2, 1) := by decide +kernel
theorem dX3_grownBy_110 : decode cX3_grownBy 110 = .ok (.iload 4, 2) := by decide +kernel
theorem dX3_grownBy_112 : decode cX3_grownBy 112 = .ok (.invokevirtual 116, 3) := by decide +kernel
theorem dX3_grownBy_115 : decode cX3_grownBy 115 = .ok (.ifCond .eq 12, 3) := by decide +kernel
theorem dX3_grownBy_118 : decode cX3_grownBy 118 = .ok (.iload 7, 2) := by decide +kernel
theorem dX3_grownBy_120 : decode cX3_grownBy 120 = .ok (.iconst 1, 1) := by decide +kernel
theorem dX3_grownBy_121 : decode cX3_grownBy 121 = .ok (.iload 8, 2) := by decide +kernel
theorem dX3_grownBy_123 : decode cX3_grownBy 123 = .ok (.ishl, 1) := by decide +kernel
theorem dX3_grownBy_124 : decode cX3_grownBy 124 = .ok (.ior, 1) := by decide +kernel
theorem dX3_grownBy_125 : decode cX3_grownBy 125 = .ok (.istore 7, 2) := by decide +kernel
theorem dX3_grownBy_127 : decode cX3_grownBy 127 = .ok (.iinc 8 1, 3) := by decide +kernel
theorem dX3_grownBy_130 : decode cX3_grownBy 130 = .ok (.goto (-81), 3) := by decide +kernel
theorem dX3_grownBy_133 : decode cX3_grownBy 133 = .ok (.iload 7, 2) := by decide +kernel
theorem dX3_grownBy_135 : decode cX3_grownBy 135 = .ok (.ireturn, 1) := by decide +kernel
theorem dX3_growsAsTold_0 : decode cX3_growsAsTold 0 = .ok (.iconst 0, 1) := by decide +kernel
theorem dX3_growsAsTold_1 : decode cX3_growsAsTold 1 = .ok (.istore_n 3, 1) := by decide +kernel
theorem dX3_growsAsTold_2 : decode cX3_growsAsTold 2 = .ok (.iload_n 3, 1) := by decide +kernel
theorem dX3_growsAsTold_3 : decode cX3_growsAsTold 3 = .ok (.iload_n 2, 1) := by decide +kernel
theorem dX3_growsAsTold_4 : decode cX3_growsAsTold 4 = .ok (.if_icmp .ge 41, 3) := by decide +kernel
theorem dX3_growsAsTold_7 : decode cX3_growsAsTold 7 = .ok (.iload_n 3, 1) := by decide +kernel
theorem dX3_growsAsTold_8 : decode cX3_growsAsTold 8 = .ok (.bipush 12, 2) := by decide +kernel
theorem dX3_growsAsTold_10 : decode cX3_growsAsTold 10 = .ok (.if_icmp .ge 35, 3) := by decide +kernel
theorem dX3_growsAsTold_13 : decode cX3_growsAsTold 13 = .ok (.aload_n 0, 1) := by decide +kernel
theorem dX3_growsAsTold_14 : decode cX3_growsAsTold 14 = .ok (.getfield 12, 3) := by decide +kernel
theorem dX3_growsAsTold_17 : decode cX3_growsAsTold 17 = .ok (.invokevirtual 38, 3) := by decide +kernel
theorem dX3_growsAsTold_20 : decode cX3_growsAsTold 20 = .ok (.aload_n 0, 1) := by decide +kernel
theorem dX3_growsAsTold_21 : decode cX3_growsAsTold 21 = .ok (.getfield 12, 3) := by decide +kernel
theorem dX3_growsAsTold_24 : decode cX3_growsAsTold 24 = .ok (.iload_n 1, 1) := by decide +kernel
theorem dX3_growsAsTold_25 : decode cX3_growsAsTold 25 = .ok (.invokevirtual 119, 3) := by decide +kernel
theorem dX3_growsAsTold_28 : decode cX3_growsAsTold 28 = .ok (.aload_n 0, 1) := by decide +kernel
theorem dX3_growsAsTold_29 : decode cX3_growsAsTold 29 = .ok (.getfield 18, 3) := by decide +kernel
theorem dX3_growsAsTold_32 : decode cX3_growsAsTold 32 = .ok (.iload_n 3, 1) := by decide +kernel
theorem dX3_growsAsTold_33 : decode cX3_growsAsTold 33 = .ok (.iaload, 1) := by decide +kernel
theorem dX3_growsAsTold_34 : decode cX3_growsAsTold 34 = .ok (.if_icmp .eq 5, 3) := by decide +kernel
theorem dX3_growsAsTold_37 : decode cX3_growsAsTold 37 = .ok (.iconst 0, 1) := by decide +kernel
theorem dX3_growsAsTold_38 : decode cX3_growsAsTold 38 = .ok (.ireturn, 1) := by decide +kernel
theorem dX3_growsAsTold_39 : decode cX3_growsAsTold 39 = .ok (.iinc 3 1, 3) := by decide +kernel
theorem dX3_growsAsTold_42 : decode cX3_growsAsTold 42 = .ok (.goto (-40), 3) := by decide +kernel
theorem dX3_growsAsTold_45 : decode cX3_growsAsTold 45 = .ok (.iconst 1, 1) := by decide +kernel
theorem dX3_growsAsTold_46 : decode cX3_growsAsTold 46 = .ok (.ireturn, 1) := by decide +kernel
theorem dX3_lainBy_0 : decode cX3_lainBy 0 = .ok (.aload_n 0, 1) := by decide +kernel
theorem dX3_lainBy_1 : decode cX3_lainBy 1 = .ok (.getfield 12, 3) := by decide +kernel
theorem dX3_lainBy_4 : decode cX3_lainBy 4 = .ok (.aload_n 1, 1) := by decide +kernel
theorem dX3_lainBy_5 : decode cX3_lainBy 5 = .ok (.invokevirtual 34, 3) := by decide +kernel
theorem dX3_lainBy_8 : decode cX3_lainBy 8 = .ok (.iconst 0, 1) := by decide +kernel
theorem dX3_lainBy_9 : decode cX3_lainBy 9 = .ok (.istore_n 3, 1) := by decide +kernel
theorem dX3_lainBy_10 : decode cX3_lainBy 10 = .ok (.iconst 0, 1) := by decide +kernel
theorem dX3_lainBy_11 : decode cX3_lainBy 11 = .ok (.istore 4, 2) := by decide +kernel
theorem dX3_lainBy_13 : decode cX3_lainBy 13 = .ok (.iload 4, 2) := by decide +kernel
theorem dX3_lainBy_15 : decode cX3_lainBy 15 = .ok (.bipush 9, 2) := by decide +kernel
theorem dX3_lainBy_17 : decode cX3_lainBy 17 = .ok (.if_icmp .ge 33, 3) := by decide +kernel
theorem dX3_lainBy_20 : decode cX3_lainBy 20 = .ok (.aload_n 0, 1) := by decide +kernel
theorem dX3_lainBy_21 : decode cX3_lainBy 21 = .ok (.getfield 12, 3) := by decide +kernel
theorem dX3_lainBy_24 : decode cX3_lainBy 24 = .ok (.iload_n 2, 1) := by decide +kernel
theorem dX3_lainBy_25 : decode cX3_lainBy 25 = .ok (.iload 4, 2) := by decide +kernel
theorem dX3_lainBy_27 : decode cX3_lainBy 27 = .ok (.invokevirtual 46, 3) := by decide +kernel
theorem dX3_lainBy_30 : decode cX3_lainBy 30 = .ok (.aload_n 0, 1) := by decide +kernel
theorem dX3_lainBy_31 : decode cX3_lainBy 31 = .ok (.invokevirtual 122, 3) := by decide +kernel
theorem dX3_lainBy_34 : decode cX3_lainBy 34 = .ok (.ifCond .eq 10, 3) := by decide +kernel
theorem dX3_lainBy_37 : decode cX3_lainBy 37 = .ok (.iload_n 3, 1) := by decide +kernel
theorem dX3_lainBy_38 : decode cX3_lainBy 38 = .ok (.iconst 1, 1) := by decide +kernel
theorem dX3_lainBy_39 : decode cX3_lainBy 39 = .ok (.iload 4, 2) := by decide +kernel
theorem dX3_lainBy_41 : decode cX3_lainBy 41 = .ok (.ishl, 1) := by decide +kernel
theorem dX3_lainBy_42 : decode cX3_lainBy 42 = .ok (.ior, 1) := by decide +kernel
theorem dX3_lainBy_43 : decode cX3_lainBy 43 = .ok (.istore_n 3, 1) := by decide +kernel
theorem dX3_lainBy_44 : decode cX3_lainBy 44 = .ok (.iinc 4 1, 3) := by decide +kernel
theorem dX3_lainBy_47 : decode cX3_lainBy 47 = .ok (.goto (-34), 3) := by decide +kernel
theorem dX3_lainBy_50 : decode cX3_lainBy 50 = .ok (.iload_n 3, 1) := by decide +kernel
theorem dX3_lainBy_51 : decode cX3_lainBy 51 = .ok (.ireturn, 1) := by decide +kernel
theorem dX3_liesAsTold_0 : decode cX3_liesAsTold 0 = .ok (.iconst 0, 1) := by decide +kernel
theorem dX3_liesAsTold_1 : decode cX3_liesAsTold 1 = .ok (.istore_n 1, 1) := by decide +kernel
theorem dX3_liesAsTold_2 : decode cX3_liesAsTold 2 = .ok (.iload_n 1, 1) := by decide +kernel
theorem dX3_liesAsTold_3 : decode cX3_liesAsTold 3 = .ok (.bipush 9, 2) := by decide +kernel
theorem dX3_liesAsTold_5 : decode cX3_liesAsTold 5 = .ok (.if_icmp .ge 39, 3) := by decide +kernel
theorem dX3_liesAsTold_8 : decode cX3_liesAsTold 8 = .ok (.aload_n 0, 1) := by decide +kernel
theorem dX3_liesAsTold_9 : decode cX3_liesAsTold 9 = .ok (.getfield 12, 3) := by decide +kernel
theorem dX3_liesAsTold_12 : decode cX3_liesAsTold 12 = .ok (.iload_n 1, 1) := by decide +kernel
theorem dX3_liesAsTold_13 : decode cX3_liesAsTold 13 = .ok (.invokevirtual 65, 3) := by decide +kernel
theorem dX3_liesAsTold_16 : decode cX3_liesAsTold 16 = .ok (.ifCond .eq 22, 3) := by decide +kernel
theorem dX3_liesAsTold_19 : decode cX3_liesAsTold 19 = .ok (.aload_n 0, 1) := by decide +kernel
theorem dX3_liesAsTold_20 : decode cX3_liesAsTold 20 = .ok (.getfield 12, 3) := by decide +kernel
theorem dX3_liesAsTold_23 : decode cX3_liesAsTold 23 = .ok (.iload_n 1, 1) := by decide +kernel
theorem dX3_liesAsTold_24 : decode cX3_liesAsTold 24 = .ok (.invokevirtual 41, 3) := by decide +kernel
theorem dX3_liesAsTold_27 : decode cX3_liesAsTold 27 = .ok (.aload_n 0, 1) := by decide +kernel
theorem dX3_liesAsTold_28 : decode cX3_liesAsTold 28 = .ok (.getfield 18, 3) := by decide +kernel
theorem dX3_liesAsTold_31 : decode cX3_liesAsTold 31 = .ok (.iload_n 1, 1) := by decide +kernel
theorem dX3_liesAsTold_32 : decode cX3_liesAsTold 32 = .ok (.iaload, 1) := by decide +kernel
theorem dX3_liesAsTold_33 : decode cX3_liesAsTold 33 = .ok (.if_icmp .eq 5, 3) := by decide +kernel
theorem dX3_liesAsTold_36 : decode cX3_liesAsTold 36 = .ok (.iconst 0, 1) := by decide +kernel
theorem dX3_liesAsTold_37 : decode cX3_liesAsTold 37 = .ok (.ireturn, 1) := by decide +kernel
theorem dX3_liesAsTold_38 : decode cX3_liesAsTold 38 = .ok (.iinc 1 1, 3) := by decide +kernel
theorem dX3_liesAsTold_41 : decode cX3_liesAsTold 41 = .ok (.goto (-39), 3) := by decide +kernel
theorem dX3_liesAsTold_44 : decode cX3_liesAsTold 44 = .ok (.iconst 1, 1) := by decide +kernel
theorem dX3_liesAsTold_45 : decode cX3_liesAsTold 45 = .ok (.ireturn, 1) := by decide +kernel
theorem dX3_allCases_0 : decode cX3_allCases 0 = .ok (.lconst 1, 1) := by decide +kernel
theorem dX3_allCases_1 : decode cX3_allCases 1 = .ok (.lstore_n 2, 1) := by decide +kernel
theorem dX3_allCases_2 : decode cX3_allCases 2 = .ok (.iconst 0, 1) := by decide +kernel
theorem dX3_allCases_3 : decode cX3_allCases 3 = .ok (.istore 4, 2) := by decide +kernel
theorem dX3_allCases_5 : decode cX3_allCases 5 = .ok (.iload 4, 2) := by decide +kernel
theorem dX3_allCases_7 : decode cX3_allCases 7 = .ok (.aload_n 1, 1) := by decide +kernel
theorem dX3_allCases_8 : decode cX3_allCases 8 = .ok (.getfield 82, 3) := by decide +kernel
theorem dX3_allCases_11 : decode cX3_allCases 11 = .ok (.if_icmp .ge 24, 3) := by decide +kernel
theorem dX3_allCases_14 : decode cX3_allCases 14 = .ok (.aload_n 1, 1) := by decide +kernel
theorem dX3_allCases_15 : decode cX3_allCases 15 = .ok (.iload 4, 2) := by decide +kernel
theorem dX3_allCases_17 : decode cX3_allCases 17 = .ok (.invokevirtual 69, 3) := by decide +kernel
theorem dX3_allCases_20 : decode cX3_allCases 20 = .ok (.ifCond .ne 9, 3) := by decide +kernel
theorem dX3_allCases_23 : decode cX3_allCases 23 = .ok (.lload_n 2, 1) := by decide +kernel
theorem dX3_allCases_24 : decode cX3_allCases 24 = .ok (.ldc2_w 126, 3) := by decide +kernel
theorem dX3_allCases_27 : decode cX3_allCases 27 = .ok (.lmul, 1) := by decide +kernel
theorem dX3_allCases_28 : decode cX3_allCases 28 = .ok (.lstore_n 2, 1) := by decide +kernel
theorem dX3_allCases_29 : decode cX3_allCases 29 = .ok (.iinc 4 1, 3) := by decide +kernel
theorem dX3_allCases_32 : decode cX3_allCases 32 = .ok (.goto (-27), 3) := by decide +kernel
theorem dX3_allCases_35 : decode cX3_allCases 35 = .ok (.lload_n 2, 1) := by decide +kernel
theorem dX3_allCases_36 : decode cX3_allCases 36 = .ok (.lreturn, 1) := by decide +kernel
theorem dX3_casesLed_0 : decode cX3_casesLed 0 = .ok (.aload_n 0, 1) := by decide +kernel
theorem dX3_casesLed_1 : decode cX3_casesLed 1 = .ok (.aload_n 1, 1) := by decide +kernel
theorem dX3_casesLed_2 : decode cX3_casesLed 2 = .ok (.iload_n 2, 1) := by decide +kernel
theorem dX3_casesLed_3 : decode cX3_casesLed 3 = .ok (.invokevirtual 75, 3) := by decide +kernel
theorem dX3_casesLed_6 : decode cX3_casesLed 6 = .ok (.aload_n 1, 1) := by decide +kernel
theorem dX3_casesLed_7 : decode cX3_casesLed 7 = .ok (.iload_n 2, 1) := by decide +kernel
theorem dX3_casesLed_8 : decode cX3_casesLed 8 = .ok (.invokevirtual 79, 3) := by decide +kernel
theorem dX3_casesLed_11 : decode cX3_casesLed 11 = .ok (.istore 4, 2) := by decide +kernel
theorem dX3_casesLed_13 : decode cX3_casesLed 13 = .ok (.lconst 0, 1) := by decide +kernel
theorem dX3_casesLed_14 : decode cX3_casesLed 14 = .ok (.lstore 5, 2) := by decide +kernel
theorem dX3_casesLed_16 : decode cX3_casesLed 16 = .ok (.iconst 0, 1) := by decide +kernel
theorem dX3_casesLed_17 : decode cX3_casesLed 17 = .ok (.istore 7, 2) := by decide +kernel
theorem dX3_casesLed_19 : decode cX3_casesLed 19 = .ok (.iload 7, 2) := by decide +kernel
theorem dX3_casesLed_21 : decode cX3_casesLed 21 = .ok (.iconst 1, 1) := by decide +kernel
theorem dX3_casesLed_22 : decode cX3_casesLed 22 = .ok (.aload_n 1, 1) := by decide +kernel
theorem dX3_casesLed_23 : decode cX3_casesLed 23 = .ok (.getfield 82, 3) := by decide +kernel
theorem dX3_casesLed_26 : decode cX3_casesLed 26 = .ok (.ishl, 1) := by decide +kernel
theorem dX3_casesLed_27 : decode cX3_casesLed 27 = .ok (.if_icmp .ge 43, 3) := by decide +kernel
theorem dX3_casesLed_30 : decode cX3_casesLed 30 = .ok (.iload 7, 2) := by decide +kernel
theorem dX3_casesLed_32 : decode cX3_casesLed 32 = .ok (.aload_n 1, 1) := by decide +kernel
theorem dX3_casesLed_33 : decode cX3_casesLed 33 = .ok (.getfield 91, 3) := by decide +kernel
theorem dX3_casesLed_36 : decode cX3_casesLed 36 = .ok (.iand, 1) := by decide +kernel
theorem dX3_casesLed_37 : decode cX3_casesLed 37 = .ok (.ifCond .ne 27, 3) := by decide +kernel
theorem dX3_casesLed_40 : decode cX3_casesLed 40 = .ok (.iload 4, 2) := by decide +kernel
theorem dX3_casesLed_42 : decode cX3_casesLed 42 = .ok (.aload_n 0, 1) := by decide +kernel
theorem dX3_casesLed_43 : decode cX3_casesLed 43 = .ok (.iload 7, 2) := by decide +kernel
theorem dX3_casesLed_45 : decode cX3_casesLed 45 = .ok (.invokevirtual 94, 3) := by decide +kernel
theorem dX3_casesLed_48 : decode cX3_casesLed 48 = .ok (.iadd, 1) := by decide +kernel
theorem dX3_casesLed_49 : decode cX3_casesLed 49 = .ok (.ifCond .le 15, 3) := by decide +kernel
theorem dX3_casesLed_52 : decode cX3_casesLed 52 = .ok (.lload 5, 2) := by decide +kernel
theorem dX3_casesLed_54 : decode cX3_casesLed 54 = .ok (.aload_n 1, 1) := by decide +kernel
theorem dX3_casesLed_55 : decode cX3_casesLed 55 = .ok (.iload 7, 2) := by decide +kernel
theorem dX3_casesLed_57 : decode cX3_casesLed 57 = .ok (.iload_n 3, 1) := by decide +kernel
theorem dX3_casesLed_58 : decode cX3_casesLed 58 = .ok (.invokestatic 128, 3) := by decide +kernel
theorem dX3_casesLed_61 : decode cX3_casesLed 61 = .ok (.ladd, 1) := by decide +kernel
theorem dX3_casesLed_62 : decode cX3_casesLed 62 = .ok (.lstore 5, 2) := by decide +kernel
theorem dX3_casesLed_64 : decode cX3_casesLed 64 = .ok (.iinc 7 1, 3) := by decide +kernel
theorem dX3_casesLed_67 : decode cX3_casesLed 67 = .ok (.goto (-48), 3) := by decide +kernel
theorem dX3_casesLed_70 : decode cX3_casesLed 70 = .ok (.lload 5, 2) := by decide +kernel
theorem dX3_casesLed_72 : decode cX3_casesLed 72 = .ok (.lreturn, 1) := by decide +kernel
theorem dX3_casesOf_0 : decode cX3_casesOf 0 = .ok (.lconst 1, 1) := by decide +kernel
theorem dX3_casesOf_1 : decode cX3_casesOf 1 = .ok (.lstore_n 3, 1) := by decide +kernel
theorem dX3_casesOf_2 : decode cX3_casesOf 2 = .ok (.iconst 0, 1) := by decide +kernel
theorem dX3_casesOf_3 : decode cX3_casesOf 3 = .ok (.istore 5, 2) := by decide +kernel
theorem dX3_casesOf_5 : decode cX3_casesOf 5 = .ok (.iload 5, 2) := by decide +kernel
theorem dX3_casesOf_7 : decode cX3_casesOf 7 = .ok (.aload_n 0, 1) := by decide +kernel
theorem dX3_casesOf_8 : decode cX3_casesOf 8 = .ok (.getfield 82, 3) := by decide +kernel
theorem dX3_casesOf_11 : decode cX3_casesOf 11 = .ok (.if_icmp .ge 41, 3) := by decide +kernel
theorem dX3_casesOf_14 : decode cX3_casesOf 14 = .ok (.aload_n 0, 1) := by decide +kernel
theorem dX3_casesOf_15 : decode cX3_casesOf 15 = .ok (.iload 5, 2) := by decide +kernel
theorem dX3_casesOf_17 : decode cX3_casesOf 17 = .ok (.invokevirtual 69, 3) := by decide +kernel
theorem dX3_casesOf_20 : decode cX3_casesOf 20 = .ok (.ifCond .ne 26, 3) := by decide +kernel
theorem dX3_casesOf_23 : decode cX3_casesOf 23 = .ok (.lload_n 3, 1) := by decide +kernel
theorem dX3_casesOf_24 : decode cX3_casesOf 24 = .ok (.iload_n 1, 1) := by decide +kernel
theorem dX3_casesOf_25 : decode cX3_casesOf 25 = .ok (.iload 5, 2) := by decide +kernel
theorem dX3_casesOf_27 : decode cX3_casesOf 27 = .ok (.ishr, 1) := by decide +kernel
theorem dX3_casesOf_28 : decode cX3_casesOf 28 = .ok (.iconst 1, 1) := by decide +kernel
theorem dX3_casesOf_29 : decode cX3_casesOf 29 = .ok (.iand, 1) := by decide +kernel
theorem dX3_casesOf_30 : decode cX3_casesOf 30 = .ok (.iconst 1, 1) := by decide +kernel
theorem dX3_casesOf_31 : decode cX3_casesOf 31 = .ok (.if_icmp .ne 11, 3) := by decide +kernel
theorem dX3_casesOf_34 : decode cX3_casesOf 34 = .ok (.bipush 10, 2) := by decide +kernel
theorem dX3_casesOf_36 : decode cX3_casesOf 36 = .ok (.iload_n 2, 1) := by decide +kernel
theorem dX3_casesOf_37 : decode cX3_casesOf 37 = .ok (.isub, 1) := by decide +kernel
theorem dX3_casesOf_38 : decode cX3_casesOf 38 = .ok (.i2l, 1) := by decide +kernel
theorem dX3_casesOf_39 : decode cX3_casesOf 39 = .ok (.goto 5, 3) := by decide +kernel
theorem dX3_casesOf_42 : decode cX3_casesOf 42 = .ok (.iload_n 2, 1) := by decide +kernel
theorem dX3_casesOf_43 : decode cX3_casesOf 43 = .ok (.i2l, 1) := by decide +kernel
theorem dX3_casesOf_44 : decode cX3_casesOf 44 = .ok (.lmul, 1) := by decide +kernel
theorem dX3_casesOf_45 : decode cX3_casesOf 45 = .ok (.lstore_n 3, 1) := by decide +kernel
theorem dX3_casesOf_46 : decode cX3_casesOf 46 = .ok (.iinc 5 1, 3) := by decide +kernel
theorem dX3_casesOf_49 : decode cX3_casesOf 49 = .ok (.goto (-44), 3) := by decide +kernel
theorem dX3_casesOf_52 : decode cX3_casesOf 52 = .ok (.lload_n 3, 1) := by decide +kernel
theorem dX3_casesOf_53 : decode cX3_casesOf 53 = .ok (.lreturn, 1) := by decide +kernel
theorem dX3_afterYears_0 : decode cX3_afterYears 0 = .ok (.aload_n 0, 1) := by decide +kernel
theorem dX3_afterYears_1 : decode cX3_afterYears 1 = .ok (.getfield 12, 3) := by decide +kernel
theorem dX3_afterYears_4 : decode cX3_afterYears 4 = .ok (.aload_n 1, 1) := by decide +kernel
theorem dX3_afterYears_5 : decode cX3_afterYears 5 = .ok (.invokevirtual 34, 3) := by decide +kernel
theorem dX3_afterYears_8 : decode cX3_afterYears 8 = .ok (.aload_n 0, 1) := by decide +kernel
theorem dX3_afterYears_9 : decode cX3_afterYears 9 = .ok (.getfield 12, 3) := by decide +kernel
theorem dX3_afterYears_12 : decode cX3_afterYears 12 = .ok (.getfield 82, 3) := by decide +kernel
theorem dX3_afterYears_15 : decode cX3_afterYears 15 = .ok (.iconst 1, 1) := by decide +kernel
theorem dX3_afterYears_16 : decode cX3_afterYears 16 = .ok (.if_icmp .ge 8, 3) := by decide +kernel
theorem dX3_afterYears_19 : decode cX3_afterYears 19 = .ok (.aload_n 0, 1) := by decide +kernel
theorem dX3_afterYears_20 : decode cX3_afterYears 20 = .ok (.getfield 12, 3) := by decide +kernel
theorem dX3_afterYears_23 : decode cX3_afterYears 23 = .ok (.areturn, 1) := by decide +kernel
theorem dX3_afterYears_24 : decode cX3_afterYears 24 = .ok (.iload_n 3, 1) := by decide +kernel
theorem dX3_afterYears_25 : decode cX3_afterYears 25 = .ok (.i2l, 1) := by decide +kernel
theorem dX3_afterYears_26 : decode cX3_afterYears 26 = .ok (.lstore 4, 2) := by decide +kernel
theorem dX3_afterYears_28 : decode cX3_afterYears 28 = .ok (.iconst 0, 1) := by decide +kernel
theorem dX3_afterYears_29 : decode cX3_afterYears 29 = .ok (.istore 6, 2) := by decide +kernel
theorem dX3_afterYears_31 : decode cX3_afterYears 31 = .ok (.iload 6, 2) := by decide +kernel
theorem dX3_afterYears_33 : decode cX3_afterYears 33 = .ok (.iload_n 2, 1) := by decide +kernel
theorem dX3_afterYears_34 : decode cX3_afterYears 34 = .ok (.if_icmp .ge 130, 3) := by decide +kernel
theorem dX3_afterYears_37 : decode cX3_afterYears 37 = .ok (.lload 4, 2) := by decide +kernel
theorem dX3_afterYears_39 : decode cX3_afterYears 39 = .ok (.ldc2_w 132, 3) := by decide +kernel
theorem dX3_afterYears_42 : decode cX3_afterYears 42 = .ok (.lmul, 1) := by decide +kernel
theorem dX3_afterYears_43 : decode cX3_afterYears 43 = .ok (.ldc2_w 134, 3) := by decide +kernel
theorem dX3_afterYears_46 : decode cX3_afterYears 46 = .ok (.lrem, 1) := by decide +kernel
theorem dX3_afterYears_47 : decode cX3_afterYears 47 = .ok (.lstore 4, 2) := by decide +kernel
theorem dX3_afterYears_49 : decode cX3_afterYears 49 = .ok (.lload 4, 2) := by decide +kernel
theorem dX3_afterYears_51 : decode cX3_afterYears 51 = .ok (.aload_n 0, 1) := by decide +kernel
theorem dX3_afterYears_52 : decode cX3_afterYears 52 = .ok (.getfield 12, 3) := by decide +kernel
theorem dX3_afterYears_55 : decode cX3_afterYears 55 = .ok (.getfield 82, 3) := by decide +kernel
theorem dX3_afterYears_58 : decode cX3_afterYears 58 = .ok (.i2l, 1) := by decide +kernel
theorem dX3_afterYears_59 : decode cX3_afterYears 59 = .ok (.lrem, 1) := by decide +kernel
theorem dX3_afterYears_60 : decode cX3_afterYears 60 = .ok (.l2i, 1) := by decide +kernel
theorem dX3_afterYears_61 : decode cX3_afterYears 61 = .ok (.istore 7, 2) := by decide +kernel
theorem dX3_afterYears_63 : decode cX3_afterYears 63 = .ok (.aload_n 0, 1) := by decide +kernel
theorem dX3_afterYears_64 : decode cX3_afterYears 64 = .ok (.getfield 12, 3) := by decide +kernel
theorem dX3_afterYears_67 : decode cX3_afterYears 67 = .ok (.lload 4, 2) := by decide +kernel
theorem dX3_afterYears_69 : decode cX3_afterYears 69 = .ok (.ldc2_w 136, 3) := by decide +kernel
theorem dX3_afterYears_72 : decode cX3_afterYears 72 = .ok (.lrem, 1) := by decide +kernel
theorem dX3_afterYears_73 : decode cX3_afterYears 73 = .ok (.lconst 0, 1) := by decide +kernel
theorem dX3_afterYears_74 : decode cX3_afterYears 74 = .ok (.lcmp, 1) := by decide +kernel
theorem dX3_afterYears_75 : decode cX3_afterYears 75 = .ok (.ifCond .ne 7, 3) := by decide +kernel
theorem dX3_afterYears_78 : decode cX3_afterYears 78 = .ok (.iconst 0, 1) := by decide +kernel
theorem dX3_afterYears_79 : decode cX3_afterYears 79 = .ok (.goto 4, 3) := by decide +kernel
theorem dX3_afterYears_82 : decode cX3_afterYears 82 = .ok (.iconst 1, 1) := by decide +kernel
theorem dX3_afterYears_83 : decode cX3_afterYears 83 = .ok (.lload 4, 2) := by decide +kernel
theorem dX3_afterYears_85 : decode cX3_afterYears 85 = .ok (.ldc2_w 138, 3) := by decide +kernel
theorem dX3_afterYears_88 : decode cX3_afterYears 88 = .ok (.lrem, 1) := by decide +kernel
theorem dX3_afterYears_89 : decode cX3_afterYears 89 = .ok (.l2i, 1) := by decide +kernel
theorem dX3_afterYears_90 : decode cX3_afterYears 90 = .ok (.invokevirtual 46, 3) := by decide +kernel
theorem dX3_afterYears_93 : decode cX3_afterYears 93 = .ok (.lload 4, 2) := by decide +kernel
theorem dX3_afterYears_95 : decode cX3_afterYears 95 = .ok (.ldc2_w 140, 3) := by decide +kernel
theorem dX3_afterYears_98 : decode cX3_afterYears 98 = .ok (.lrem, 1) := by decide +kernel
theorem dX3_afterYears_99 : decode cX3_afterYears 99 = .ok (.lconst 0, 1) := by decide +kernel
theorem dX3_afterYears_100 : decode cX3_afterYears 100 = .ok (.lcmp, 1) := by decide +kernel
theorem dX3_afterYears_101 : decode cX3_afterYears 101 = .ok (.ifCond .ne 19, 3) := by decide +kernel
theorem dX3_afterYears_104 : decode cX3_afterYears 104 = .ok (.aload_n 0, 1) := by decide +kernel
theorem dX3_afterYears_105 : decode cX3_afterYears 105 = .ok (.getfield 12, 3) := by decide +kernel
theorem dX3_afterYears_108 : decode cX3_afterYears 108 = .ok (.iload 7, 2) := by decide +kernel
theorem dX3_afterYears_110 : decode cX3_afterYears 110 = .ok (.lload 4, 2) := by decide +kernel
theorem dX3_afterYears_112 : decode cX3_afterYears 112 = .ok (.ldc2_w 126, 3) := by decide +kernel
theorem dX3_afterYears_115 : decode cX3_afterYears 115 = .ok (.lrem, 1) := by decide +kernel
theorem dX3_afterYears_116 : decode cX3_afterYears 116 = .ok (.l2i, 1) := by decide +kernel
theorem dX3_afterYears_117 : decode cX3_afterYears 117 = .ok (.invokevirtual 109, 3) := by decide +kernel
theorem dX3_afterYears_120 : decode cX3_afterYears 120 = .ok (.aload_n 0, 1) := by decide +kernel
theorem dX3_afterYears_121 : decode cX3_afterYears 121 = .ok (.getfield 12, 3) := by decide +kernel
theorem dX3_afterYears_124 : decode cX3_afterYears 124 = .ok (.invokevirtual 38, 3) := by decide +kernel
theorem dX3_afterYears_127 : decode cX3_afterYears 127 = .ok (.aload_n 0, 1) := by decide +kernel
theorem dX3_afterYears_128 : decode cX3_afterYears 128 = .ok (.getfield 12, 3) := by decide +kernel
theorem dX3_afterYears_131 : decode cX3_afterYears 131 = .ok (.iload 7, 2) := by decide +kernel
theorem dX3_afterYears_133 : decode cX3_afterYears 133 = .ok (.invokevirtual 69, 3) := by decide +kernel
theorem dX3_afterYears_136 : decode cX3_afterYears 136 = .ok (.ifCond .ne 22, 3) := by decide +kernel
theorem dX3_afterYears_139 : decode cX3_afterYears 139 = .ok (.aload_n 0, 1) := by decide +kernel
theorem dX3_afterYears_140 : decode cX3_afterYears 140 = .ok (.getfield 12, 3) := by decide +kernel
theorem dX3_afterYears_143 : decode cX3_afterYears 143 = .ok (.iload 7, 2) := by decide +kernel
theorem dX3_afterYears_145 : decode cX3_afterYears 145 = .ok (.aload_n 0, 1) := by decide +kernel
theorem dX3_afterYears_146 : decode cX3_afterYears 146 = .ok (.getfield 12, 3) := by decide +kernel
theorem dX3_afterYears_149 : decode cX3_afterYears 149 = .ok (.iload 7, 2) := by decide +kernel
theorem dX3_afterYears_151 : decode cX3_afterYears 151 = .ok (.invokevirtual 119, 3) := by decide +kernel
theorem dX3_afterYears_154 : decode cX3_afterYears 154 = .ok (.invokevirtual 142, 3) := by decide +kernel
theorem dX3_afterYears_157 : decode cX3_afterYears 157 = .ok (.pop, 1) := by decide +kernel
theorem dX3_afterYears_158 : decode cX3_afterYears 158 = .ok (.iinc 6 1, 3) := by decide +kernel
theorem dX3_afterYears_161 : decode cX3_afterYears 161 = .ok (.goto (-130), 3) := by decide +kernel
theorem dX3_afterYears_164 : decode cX3_afterYears 164 = .ok (.aload_n 0, 1) := by decide +kernel
theorem dX3_afterYears_165 : decode cX3_afterYears 165 = .ok (.getfield 12, 3) := by decide +kernel
theorem dX3_afterYears_168 : decode cX3_afterYears 168 = .ok (.areturn, 1) := by decide +kernel
theorem dX4_init_0 : decode cX4_init 0 = .ok (.aload_n 0, 1) := by decide +kernel
theorem dX4_init_1 : decode cX4_init 1 = .ok (.invokespecial 3, 3) := by decide +kernel
theorem dX4_init_4 : decode cX4_init 4 = .ok (.aload_n 0, 1) := by decide +kernel
theorem dX4_init_5 : decode cX4_init 5 = .ok (.sipush 320, 3) := by decide +kernel
theorem dX4_init_8 : decode cX4_init 8 = .ok (.newarray .int, 2) := by decide +kernel
theorem dX4_init_10 : decode cX4_init 10 = .ok (.putfield 9, 3) := by decide +kernel
theorem dX4_init_13 : decode cX4_init 13 = .ok (.aload_n 0, 1) := by decide +kernel
theorem dX4_init_14 : decode cX4_init 14 = .ok (.bipush 8, 2) := by decide +kernel
theorem dX4_init_16 : decode cX4_init 16 = .ok (.newarray .int, 2) := by decide +kernel
theorem dX4_init_18 : decode cX4_init 18 = .ok (.putfield 15, 3) := by decide +kernel
theorem dX4_init_21 : decode cX4_init 21 = .ok (.aload_n 0, 1) := by decide +kernel
theorem dX4_init_22 : decode cX4_init 22 = .ok (.bipush 8, 2) := by decide +kernel
theorem dX4_init_24 : decode cX4_init 24 = .ok (.newarray .int, 2) := by decide +kernel
theorem dX4_init_26 : decode cX4_init 26 = .ok (.putfield 18, 3) := by decide +kernel
theorem dX4_init_29 : decode cX4_init 29 = .ok (.iconst 0, 1) := by decide +kernel
theorem dX4_init_30 : decode cX4_init 30 = .ok (.istore_n 1, 1) := by decide +kernel
theorem dX4_init_31 : decode cX4_init 31 = .ok (.iload_n 1, 1) := by decide +kernel
theorem dX4_init_32 : decode cX4_init 32 = .ok (.bipush 8, 2) := by decide +kernel
theorem dX4_init_34 : decode cX4_init 34 = .ok (.if_icmp .ge 16, 3) := by decide +kernel
theorem dX4_init_37 : decode cX4_init 37 = .ok (.aload_n 0, 1) := by decide +kernel
theorem dX4_init_38 : decode cX4_init 38 = .ok (.getfield 18, 3) := by decide +kernel
theorem dX4_init_41 : decode cX4_init 41 = .ok (.iload_n 1, 1) := by decide +kernel
theorem dX4_init_42 : decode cX4_init 42 = .ok (.iconst (-1), 1) := by decide +kernel
theorem dX4_init_43 : decode cX4_init 43 = .ok (.iastore, 1) := by decide +kernel
theorem dX4_init_44 : decode cX4_init 44 = .ok (.iinc 1 1, 3) := by decide +kernel
theorem dX4_init_47 : decode cX4_init 47 = .ok (.goto (-16), 3) := by decide +kernel
theorem dX4_init_50 : decode cX4_init 50 = .ok (.return_, 1) := by decide +kernel
theorem dX4_isMissing_0 : decode cX4_isMissing 0 = .ok (.iload_n 1, 1) := by decide +kernel
theorem dX4_isMissing_1 : decode cX4_isMissing 1 = .ok (.iconst 0, 1) := by decide +kernel
theorem dX4_isMissing_2 : decode cX4_isMissing 2 = .ok (.bipush 7, 2) := by decide +kernel
theorem dX4_isMissing_4 : decode cX4_isMissing 4 = .ok (.invokestatic 21, 3) := by decide +kernel
theorem dX4_isMissing_7 : decode cX4_isMissing 7 = .ok (.ifCond .eq 13, 3) := by decide +kernel
theorem dX4_isMissing_10 : decode cX4_isMissing 10 = .ok (.aload_n 0, 1) := by decide +kernel
theorem dX4_isMissing_11 : decode cX4_isMissing 11 = .ok (.getfield 18, 3) := by decide +kernel
theorem dX4_isMissing_14 : decode cX4_isMissing 14 = .ok (.iload_n 1, 1) := by decide +kernel
theorem dX4_isMissing_15 : decode cX4_isMissing 15 = .ok (.iaload, 1) := by decide +kernel
theorem dX4_isMissing_16 : decode cX4_isMissing 16 = .ok (.iconst (-1), 1) := by decide +kernel
theorem dX4_isMissing_17 : decode cX4_isMissing 17 = .ok (.if_icmp .ne 7, 3) := by decide +kernel
theorem dX4_isMissing_20 : decode cX4_isMissing 20 = .ok (.iconst 1, 1) := by decide +kernel
theorem dX4_isMissing_21 : decode cX4_isMissing 21 = .ok (.goto 4, 3) := by decide +kernel
theorem dX4_isMissing_24 : decode cX4_isMissing 24 = .ok (.iconst 0, 1) := by decide +kernel
theorem dX4_isMissing_25 : decode cX4_isMissing 25 = .ok (.ireturn, 1) := by decide +kernel
theorem dX4_holds_0 : decode cX4_holds 0 = .ok (.aload_n 0, 1) := by decide +kernel
theorem dX4_holds_1 : decode cX4_holds 1 = .ok (.iload_n 1, 1) := by decide +kernel
theorem dX4_holds_2 : decode cX4_holds 2 = .ok (.invokevirtual 25, 3) := by decide +kernel
theorem dX4_holds_5 : decode cX4_holds 5 = .ok (.ifCond .ne 31, 3) := by decide +kernel
theorem dX4_holds_8 : decode cX4_holds 8 = .ok (.iload_n 2, 1) := by decide +kernel
theorem dX4_holds_9 : decode cX4_holds 9 = .ok (.ifCond .lt 27, 3) := by decide +kernel
theorem dX4_holds_12 : decode cX4_holds 12 = .ok (.iload_n 3, 1) := by decide +kernel
theorem dX4_holds_13 : decode cX4_holds 13 = .ok (.ifCond .lt 23, 3) := by decide +kernel
theorem dX4_holds_16 : decode cX4_holds 16 = .ok (.iload_n 2, 1) := by decide +kernel
theorem dX4_holds_17 : decode cX4_holds 17 = .ok (.i2l, 1) := by decide +kernel
theorem dX4_holds_18 : decode cX4_holds 18 = .ok (.iload_n 3, 1) := by decide +kernel
theorem dX4_holds_19 : decode cX4_holds 19 = .ok (.i2l, 1) := by decide +kernel
theorem dX4_holds_20 : decode cX4_holds 20 = .ok (.ladd, 1) := by decide +kernel
theorem dX4_holds_21 : decode cX4_holds 21 = .ok (.aload_n 0, 1) := by decide +kernel
theorem dX4_holds_22 : decode cX4_holds 22 = .ok (.getfield 18, 3) := by decide +kernel
theorem dX4_holds_25 : decode cX4_holds 25 = .ok (.iload_n 1, 1) := by decide +kernel
theorem dX4_holds_26 : decode cX4_holds 26 = .ok (.iaload, 1) := by decide +kernel
theorem dX4_holds_27 : decode cX4_holds 27 = .ok (.i2l, 1) := by decide +kernel
theorem dX4_holds_28 : decode cX4_holds 28 = .ok (.lcmp, 1) := by decide +kernel
theorem dX4_holds_29 : decode cX4_holds 29 = .ok (.ifCond .gt 7, 3) := by decide +kernel
theorem dX4_holds_32 : decode cX4_holds 32 = .ok (.iconst 1, 1) := by decide +kernel
theorem dX4_holds_33 : decode cX4_holds 33 = .ok (.goto 4, 3) := by decide +kernel
theorem dX4_holds_36 : decode cX4_holds 36 = .ok (.iconst 0, 1) := by decide +kernel
theorem dX4_holds_37 : decode cX4_holds 37 = .ok (.ireturn, 1) := by decide +kernel
theorem dX4_laneOf_0 : decode cX4_laneOf 0 = .ok (.aload_n 0, 1) := by decide +kernel
theorem dX4_laneOf_1 : decode cX4_laneOf 1 = .ok (.iload_n 1, 1) := by decide +kernel
theorem dX4_laneOf_2 : decode cX4_laneOf 2 = .ok (.invokevirtual 25, 3) := by decide +kernel
theorem dX4_laneOf_5 : decode cX4_laneOf 5 = .ok (.ifCond .eq 7, 3) := by decide +kernel
theorem dX4_laneOf_8 : decode cX4_laneOf 8 = .ok (.iconst (-1), 1) := by decide +kernel
theorem dX4_laneOf_9 : decode cX4_laneOf 9 = .ok (.goto 9, 3) := by decide +kernel
theorem dX4_laneOf_12 : decode cX4_laneOf 12 = .ok (.aload_n 0, 1) := by decide +kernel
theorem dX4_laneOf_13 : decode cX4_laneOf 13 = .ok (.getfield 15, 3) := by decide +kernel
theorem dX4_laneOf_16 : decode cX4_laneOf 16 = .ok (.iload_n 1, 1) := by decide +kernel
theorem dX4_laneOf_17 : decode cX4_laneOf 17 = .ok (.iaload, 1) := by decide +kernel
theorem dX4_laneOf_18 : decode cX4_laneOf 18 = .ok (.ireturn, 1) := by decide +kernel
theorem dX4_itemOf_0 : decode cX4_itemOf 0 = .ok (.aload_n 0, 1) := by decide +kernel
theorem dX4_itemOf_1 : decode cX4_itemOf 1 = .ok (.iload_n 1, 1) := by decide +kernel
theorem dX4_itemOf_2 : decode cX4_itemOf 2 = .ok (.iload_n 2, 1) := by decide +kernel
theorem dX4_itemOf_3 : decode cX4_itemOf 3 = .ok (.iconst 1, 1) := by decide +kernel
theorem dX4_itemOf_4 : decode cX4_itemOf 4 = .ok (.invokevirtual 29, 3) := by decide +kernel
theorem dX4_itemOf_7 : decode cX4_itemOf 7 = .ok (.ifCond .eq 17, 3) := by decide +kernel
theorem dX4_itemOf_10 : decode cX4_itemOf 10 = .ok (.aload_n 0, 1) := by decide +kernel
theorem dX4_itemOf_11 : decode cX4_itemOf 11 = .ok (.getfield 9, 3) := by decide +kernel
theorem dX4_itemOf_14 : decode cX4_itemOf 14 = .ok (.iload_n 1, 1) := by decide +kernel
theorem dX4_itemOf_15 : decode cX4_itemOf 15 = .ok (.bipush 40, 2) := by decide +kernel
theorem dX4_itemOf_17 : decode cX4_itemOf 17 = .ok (.imul, 1) := by decide +kernel
theorem dX4_itemOf_18 : decode cX4_itemOf 18 = .ok (.iload_n 2, 1) := by decide +kernel
theorem dX4_itemOf_19 : decode cX4_itemOf 19 = .ok (.iadd, 1) := by decide +kernel
theorem dX4_itemOf_20 : decode cX4_itemOf 20 = .ok (.iaload, 1) := by decide +kernel
theorem dX4_itemOf_21 : decode cX4_itemOf 21 = .ok (.goto 4, 3) := by decide +kernel
theorem dX4_itemOf_24 : decode cX4_itemOf 24 = .ok (.iconst 0, 1) := by decide +kernel
theorem dX4_itemOf_25 : decode cX4_itemOf 25 = .ok (.ireturn, 1) := by decide +kernel
theorem dX4_make_0 : decode cX4_make 0 = .ok (.iload_n 1, 1) := by decide +kernel
theorem dX4_make_1 : decode cX4_make 1 = .ok (.iconst 0, 1) := by decide +kernel
theorem dX4_make_2 : decode cX4_make 2 = .ok (.bipush 7, 2) := by decide +kernel
theorem dX4_make_4 : decode cX4_make 4 = .ok (.invokestatic 21, 3) := by decide +kernel
theorem dX4_make_7 : decode cX4_make 7 = .ok (.ifCond .eq 13, 3) := by decide +kernel
theorem dX4_make_10 : decode cX4_make 10 = .ok (.iload_n 3, 1) := by decide +kernel
theorem dX4_make_11 : decode cX4_make 11 = .ok (.iconst 0, 1) := by decide +kernel
theorem dX4_make_12 : decode cX4_make 12 = .ok (.bipush 40, 2) := by decide +kernel
theorem dX4_make_14 : decode cX4_make 14 = .ok (.invokestatic 21, 3) := by decide +kernel
theorem dX4_make_17 : decode cX4_make 17 = .ok (.ifCond .ne 4, 3) := by decide +kernel
theorem dX4_make_20 : decode cX4_make 20 = .ok (.return_, 1) := by decide +kernel
theorem dX4_make_21 : decode cX4_make 21 = .ok (.aload_n 0, 1) := by decide +kernel
theorem dX4_make_22 : decode cX4_make 22 = .ok (.getfield 15, 3) := by decide +kernel
theorem dX4_make_25 : decode cX4_make 25 = .ok (.iload_n 1, 1) := by decide +kernel
theorem dX4_make_26 : decode cX4_make 26 = .ok (.iload_n 2, 1) := by decide +kernel
theorem dX4_make_27 : decode cX4_make 27 = .ok (.iastore, 1) := by decide +kernel
theorem dX4_make_28 : decode cX4_make 28 = .ok (.aload_n 0, 1) := by decide +kernel
theorem dX4_make_29 : decode cX4_make 29 = .ok (.getfield 18, 3) := by decide +kernel
theorem dX4_make_32 : decode cX4_make 32 = .ok (.iload_n 1, 1) := by decide +kernel
theorem dX4_make_33 : decode cX4_make 33 = .ok (.iload_n 3, 1) := by decide +kernel
theorem dX4_make_34 : decode cX4_make 34 = .ok (.iastore, 1) := by decide +kernel
theorem dX4_make_35 : decode cX4_make 35 = .ok (.iconst 0, 1) := by decide +kernel
theorem dX4_make_36 : decode cX4_make 36 = .ok (.istore 4, 2) := by decide +kernel
theorem dX4_make_38 : decode cX4_make 38 = .ok (.iload 4, 2) := by decide +kernel
theorem dX4_make_40 : decode cX4_make 40 = .ok (.iload_n 3, 1) := by decide +kernel
theorem dX4_make_41 : decode cX4_make 41 = .ok (.if_icmp .ge 22, 3) := by decide +kernel
theorem dX4_make_44 : decode cX4_make 44 = .ok (.aload_n 0, 1) := by decide +kernel
theorem dX4_make_45 : decode cX4_make 45 = .ok (.getfield 9, 3) := by decide +kernel
theorem dX4_make_48 : decode cX4_make 48 = .ok (.iload_n 1, 1) := by decide +kernel
theorem dX4_make_49 : decode cX4_make 49 = .ok (.bipush 40, 2) := by decide +kernel
theorem dX4_make_51 : decode cX4_make 51 = .ok (.imul, 1) := by decide +kernel
theorem dX4_make_52 : decode cX4_make 52 = .ok (.iload 4, 2) := by decide +kernel
theorem dX4_make_54 : decode cX4_make 54 = .ok (.iadd, 1) := by decide +kernel
theorem dX4_make_55 : decode cX4_make 55 = .ok (.iconst 0, 1) := by decide +kernel
theorem dX4_make_56 : decode cX4_make 56 = .ok (.iastore, 1) := by decide +kernel
theorem dX4_make_57 : decode cX4_make 57 = .ok (.iinc 4 1, 3) := by decide +kernel
theorem dX4_make_60 : decode cX4_make 60 = .ok (.goto (-22), 3) := by decide +kernel
theorem dX4_make_63 : decode cX4_make 63 = .ok (.return_, 1) := by decide +kernel
theorem dX4_put_0 : decode cX4_put 0 = .ok (.aload_n 0, 1) := by decide +kernel
theorem dX4_put_1 : decode cX4_put 1 = .ok (.iload_n 1, 1) := by decide +kernel
theorem dX4_put_2 : decode cX4_put 2 = .ok (.iload_n 2, 1) := by decide +kernel
theorem dX4_put_3 : decode cX4_put 3 = .ok (.iconst 1, 1) := by decide +kernel
theorem dX4_put_4 : decode cX4_put 4 = .ok (.invokevirtual 29, 3) := by decide +kernel
theorem dX4_put_7 : decode cX4_put 7 = .ok (.ifCond .ne 5, 3) := by decide +kernel
theorem dX4_put_10 : decode cX4_put 10 = .ok (.iconst 0, 1) := by decide +kernel
theorem dX4_put_11 : decode cX4_put 11 = .ok (.ireturn, 1) := by decide +kernel
theorem dX4_put_12 : decode cX4_put 12 = .ok (.aload_n 0, 1) := by decide +kernel
theorem dX4_put_13 : decode cX4_put 13 = .ok (.getfield 15, 3) := by decide +kernel
theorem dX4_put_16 : decode cX4_put 16 = .ok (.iload_n 1, 1) := by decide +kernel
theorem dX4_put_17 : decode cX4_put 17 = .ok (.iaload, 1) := by decide +kernel
theorem dX4_put_18 : decode cX4_put 18 = .ok (.iload_n 3, 1) := by decide +kernel
theorem dX4_put_19 : decode cX4_put 19 = .ok (.invokestatic 32, 3) := by decide +kernel
theorem dX4_put_22 : decode cX4_put 22 = .ok (.istore 4, 2) := by decide +kernel
theorem dX4_put_24 : decode cX4_put 24 = .ok (.aload_n 0, 1) := by decide +kernel
theorem dX4_put_25 : decode cX4_put 25 = .ok (.getfield 9, 3) := by decide +kernel
theorem dX4_put_28 : decode cX4_put 28 = .ok (.iload_n 1, 1) := by decide +kernel
theorem dX4_put_29 : decode cX4_put 29 = .ok (.bipush 40, 2) := by decide +kernel
theorem dX4_put_31 : decode cX4_put 31 = .ok (.imul, 1) := by decide +kernel
theorem dX4_put_32 : decode cX4_put 32 = .ok (.iload_n 2, 1) := by decide +kernel
theorem dX4_put_33 : decode cX4_put 33 = .ok (.iadd, 1) := by decide +kernel
theorem dX4_put_34 : decode cX4_put 34 = .ok (.iload 4, 2) := by decide +kernel
theorem dX4_put_36 : decode cX4_put 36 = .ok (.iastore, 1) := by decide +kernel
theorem dX4_put_37 : decode cX4_put 37 = .ok (.iload 4, 2) := by decide +kernel
theorem dX4_put_39 : decode cX4_put 39 = .ok (.ireturn, 1) := by decide +kernel
theorem dX4_carry_0 : decode cX4_carry 0 = .ok (.aload_n 0, 1) := by decide +kernel
theorem dX4_carry_1 : decode cX4_carry 1 = .ok (.iload_n 1, 1) := by decide +kernel
theorem dX4_carry_2 : decode cX4_carry 2 = .ok (.iload_n 2, 1) := by decide +kernel
theorem dX4_carry_3 : decode cX4_carry 3 = .ok (.iload 5, 2) := by decide +kernel
theorem dX4_carry_5 : decode cX4_carry 5 = .ok (.invokevirtual 29, 3) := by decide +kernel
theorem dX4_carry_8 : decode cX4_carry 8 = .ok (.ifCond .eq 15, 3) := by decide +kernel
theorem dX4_carry_11 : decode cX4_carry 11 = .ok (.aload_n 0, 1) := by decide +kernel
theorem dX4_carry_12 : decode cX4_carry 12 = .ok (.iload_n 3, 1) := by decide +kernel
theorem dX4_carry_13 : decode cX4_carry 13 = .ok (.iload 4, 2) := by decide +kernel
theorem dX4_carry_15 : decode cX4_carry 15 = .ok (.iload 5, 2) := by decide +kernel
theorem dX4_carry_17 : decode cX4_carry 17 = .ok (.invokevirtual 29, 3) := by decide +kernel
theorem dX4_carry_20 : decode cX4_carry 20 = .ok (.ifCond .ne 4, 3) := by decide +kernel
theorem dX4_carry_23 : decode cX4_carry 23 = .ok (.return_, 1) := by decide +kernel
theorem dX4_carry_24 : decode cX4_carry 24 = .ok (.aload_n 0, 1) := by decide +kernel
theorem dX4_carry_25 : decode cX4_carry 25 = .ok (.getfield 9, 3) := by decide +kernel
theorem dX4_carry_28 : decode cX4_carry 28 = .ok (.iload_n 1, 1) := by decide +kernel
theorem dX4_carry_29 : decode cX4_carry 29 = .ok (.bipush 40, 2) := by decide +kernel
theorem dX4_carry_31 : decode cX4_carry 31 = .ok (.imul, 1) := by decide +kernel
theorem dX4_carry_32 : decode cX4_carry 32 = .ok (.iload_n 2, 1) := by decide +kernel
theorem dX4_carry_33 : decode cX4_carry 33 = .ok (.iadd, 1) := by decide +kernel
theorem dX4_carry_34 : decode cX4_carry 34 = .ok (.aload_n 0, 1) := by decide +kernel
theorem dX4_carry_35 : decode cX4_carry 35 = .ok (.getfield 9, 3) := by decide +kernel
theorem dX4_carry_38 : decode cX4_carry 38 = .ok (.iload_n 3, 1) := by decide +kernel
theorem dX4_carry_39 : decode cX4_carry 39 = .ok (.bipush 40, 2) := by decide +kernel
theorem dX4_carry_41 : decode cX4_carry 41 = .ok (.imul, 1) := by decide +kernel
theorem dX4_carry_42 : decode cX4_carry 42 = .ok (.iload 4, 2) := by decide +kernel
theorem dX4_carry_44 : decode cX4_carry 44 = .ok (.iadd, 1) := by decide +kernel
theorem dX4_carry_45 : decode cX4_carry 45 = .ok (.iload 5, 2) := by decide +kernel
theorem dX4_carry_47 : decode cX4_carry 47 = .ok (.invokestatic 36, 3) := by decide +kernel
theorem dX4_carry_50 : decode cX4_carry 50 = .ok (.return_, 1) := by decide +kernel
theorem dX4_lose_0 : decode cX4_lose 0 = .ok (.aload_n 0, 1) := by decide +kernel
theorem dX4_lose_1 : decode cX4_lose 1 = .ok (.iload_n 1, 1) := by decide +kernel
theorem dX4_lose_2 : decode cX4_lose 2 = .ok (.invokevirtual 25, 3) := by decide +kernel
theorem dX4_lose_5 : decode cX4_lose 5 = .ok (.ifCond .eq 5, 3) := by decide +kernel
theorem dX4_lose_8 : decode cX4_lose 8 = .ok (.iconst 0, 1) := by decide +kernel
theorem dX4_lose_9 : decode cX4_lose 9 = .ok (.ireturn, 1) := by decide +kernel
theorem dX4_lose_10 : decode cX4_lose 10 = .ok (.aload_n 0, 1) := by decide +kernel
theorem dX4_lose_11 : decode cX4_lose 11 = .ok (.getfield 18, 3) := by decide +kernel
theorem dX4_lose_14 : decode cX4_lose 14 = .ok (.iload_n 1, 1) := by decide +kernel
theorem dX4_lose_15 : decode cX4_lose 15 = .ok (.iaload, 1) := by decide +kernel
theorem dX4_lose_16 : decode cX4_lose 16 = .ok (.istore_n 2, 1) := by decide +kernel
theorem dX4_lose_17 : decode cX4_lose 17 = .ok (.aload_n 0, 1) := by decide +kernel
theorem dX4_lose_18 : decode cX4_lose 18 = .ok (.getfield 18, 3) := by decide +kernel
theorem dX4_lose_21 : decode cX4_lose 21 = .ok (.iload_n 1, 1) := by decide +kernel
theorem dX4_lose_22 : decode cX4_lose 22 = .ok (.iconst (-1), 1) := by decide +kernel
theorem dX4_lose_23 : decode cX4_lose 23 = .ok (.iastore, 1) := by decide +kernel
theorem dX4_lose_24 : decode cX4_lose 24 = .ok (.iload_n 2, 1) := by decide +kernel
theorem dX4_lose_25 : decode cX4_lose 25 = .ok (.ireturn, 1) := by decide +kernel
theorem dX4_present_0 : decode cX4_present 0 = .ok (.iconst 0, 1) := by decide +kernel
theorem dX4_present_1 : decode cX4_present 1 = .ok (.istore_n 1, 1) := by decide +kernel
theorem dX4_present_2 : decode cX4_present 2 = .ok (.iconst 0, 1) := by decide +kernel
theorem dX4_present_3 : decode cX4_present 3 = .ok (.istore_n 2, 1) := by decide +kernel
theorem dX4_present_4 : decode cX4_present 4 = .ok (.iload_n 2, 1) := by decide +kernel
theorem dX4_present_5 : decode cX4_present 5 = .ok (.bipush 8, 2) := by decide +kernel
theorem dX4_present_7 : decode cX4_present 7 = .ok (.if_icmp .ge 22, 3) := by decide +kernel
theorem dX4_present_10 : decode cX4_present 10 = .ok (.aload_n 0, 1) := by decide +kernel
theorem dX4_present_11 : decode cX4_present 11 = .ok (.getfield 18, 3) := by decide +kernel
theorem dX4_present_14 : decode cX4_present 14 = .ok (.iload_n 2, 1) := by decide +kernel
theorem dX4_present_15 : decode cX4_present 15 = .ok (.iaload, 1) := by decide +kernel
theorem dX4_present_16 : decode cX4_present 16 = .ok (.iconst (-1), 1) := by decide +kernel
theorem dX4_present_17 : decode cX4_present 17 = .ok (.if_icmp .eq 6, 3) := by decide +kernel
theorem dX4_present_20 : decode cX4_present 20 = .ok (.iinc 1 1, 3) := by decide +kernel
theorem dX4_present_23 : decode cX4_present 23 = .ok (.iinc 2 1, 3) := by decide +kernel
theorem dX4_present_26 : decode cX4_present 26 = .ok (.goto (-22), 3) := by decide +kernel
theorem dX4_present_29 : decode cX4_present 29 = .ok (.iload_n 1, 1) := by decide +kernel
theorem dX4_present_30 : decode cX4_present 30 = .ok (.ireturn, 1) := by decide +kernel
theorem dX4_inLane_0 : decode cX4_inLane 0 = .ok (.iload_n 0, 1) := by decide +kernel
theorem dX4_inLane_1 : decode cX4_inLane 1 = .ok (.lookupswitch 33 #[(0, 27), (1, 30)], 27) := by decide +kernel
theorem dX4_inLane_28 : decode cX4_inLane 28 = .ok (.iload_n 1, 1) := by decide +kernel
theorem dX4_inLane_29 : decode cX4_inLane 29 = .ok (.i2b, 1) := by decide +kernel
theorem dX4_inLane_30 : decode cX4_inLane 30 = .ok (.ireturn, 1) := by decide +kernel
theorem dX4_inLane_31 : decode cX4_inLane 31 = .ok (.iload_n 1, 1) := by decide +kernel
theorem dX4_inLane_32 : decode cX4_inLane 32 = .ok (.i2s, 1) := by decide +kernel
theorem dX4_inLane_33 : decode cX4_inLane 33 = .ok (.ireturn, 1) := by decide +kernel
theorem dX4_inLane_34 : decode cX4_inLane 34 = .ok (.iload_n 1, 1) := by decide +kernel
theorem dX4_inLane_35 : decode cX4_inLane 35 = .ok (.ireturn, 1) := by decide +kernel
