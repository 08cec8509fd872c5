theorem dX0_init_0 : decode cX0_init 0 = .ok (.aload_n 0, 1) := by decide +kernel
theorem dX0_init_1 : decode cX0_init 1 = .ok (.invokespecial 3, 3) := by decide +kernel
theorem dX0_init_4 : decode cX0_init 4 = .ok (.aload_n 0, 1) := by decide +kernel
theorem dX0_init_5 : decode cX0_init 5 = .ok (.bipush 60, 2) := by decide +kernel
theorem dX0_init_7 : decode cX0_init 7 = .ok (.newarray .int, 2) := by decide +kernel
theorem dX0_init_9 : decode cX0_init 9 = .ok (.putfield 9, 3) := by decide +kernel
theorem dX0_init_12 : decode cX0_init 12 = .ok (.aload_n 0, 1) := by decide +kernel
theorem dX0_init_13 : decode cX0_init 13 = .ok (.bipush 20, 2) := by decide +kernel
theorem dX0_init_15 : decode cX0_init 15 = .ok (.newarray .int, 2) := by decide +kernel
theorem dX0_init_17 : decode cX0_init 17 = .ok (.putfield 15, 3) := by decide +kernel
theorem dX0_init_20 : decode cX0_init 20 = .ok (.aload_n 0, 1) := by decide +kernel
theorem dX0_init_21 : decode cX0_init 21 = .ok (.bipush 20, 2) := by decide +kernel
theorem dX0_init_23 : decode cX0_init 23 = .ok (.newarray .int, 2) := by decide +kernel
theorem dX0_init_25 : decode cX0_init 25 = .ok (.putfield 18, 3) := by decide +kernel
theorem dX0_init_28 : decode cX0_init 28 = .ok (.aload_n 0, 1) := by decide +kernel
theorem dX0_init_29 : decode cX0_init 29 = .ok (.bipush 20, 2) := by decide +kernel
theorem dX0_init_31 : decode cX0_init 31 = .ok (.newarray .int, 2) := by decide +kernel
theorem dX0_init_33 : decode cX0_init 33 = .ok (.putfield 21, 3) := by decide +kernel
theorem dX0_init_36 : decode cX0_init 36 = .ok (.return_, 1) := by decide +kernel
theorem dX1_init_0 : decode cX1_init 0 = .ok (.aload_n 0, 1) := by decide +kernel
theorem dX1_init_1 : decode cX1_init 1 = .ok (.invokespecial 3, 3) := by decide +kernel
theorem dX1_init_4 : decode cX1_init 4 = .ok (.aload_n 0, 1) := by decide +kernel
theorem dX1_init_5 : decode cX1_init 5 = .ok (.bipush 6, 2) := by decide +kernel
theorem dX1_init_7 : decode cX1_init 7 = .ok (.anewarray 9, 3) := by decide +kernel
theorem dX1_init_10 : decode cX1_init 10 = .ok (.putfield 11, 3) := by decide +kernel
theorem dX1_init_13 : decode cX1_init 13 = .ok (.iconst 0, 1) := by decide +kernel
theorem dX1_init_14 : decode cX1_init 14 = .ok (.istore_n 1, 1) := by decide +kernel
theorem dX1_init_15 : decode cX1_init 15 = .ok (.iload_n 1, 1) := by decide +kernel
theorem dX1_init_16 : decode cX1_init 16 = .ok (.bipush 6, 2) := by decide +kernel
theorem dX1_init_18 : decode cX1_init 18 = .ok (.if_icmp .ge 22, 3) := by decide +kernel
theorem dX1_init_21 : decode cX1_init 21 = .ok (.aload_n 0, 1) := by decide +kernel
theorem dX1_init_22 : decode cX1_init 22 = .ok (.getfield 11, 3) := by decide +kernel
theorem dX1_init_25 : decode cX1_init 25 = .ok (.iload_n 1, 1) := by decide +kernel
theorem dX1_init_26 : decode cX1_init 26 = .ok (.new 9, 3) := by decide +kernel
theorem dX1_init_29 : decode cX1_init 29 = .ok (.dup, 1) := by decide +kernel
theorem dX1_init_30 : decode cX1_init 30 = .ok (.invokespecial 17, 3) := by decide +kernel
theorem dX1_init_33 : decode cX1_init 33 = .ok (.aastore, 1) := by decide +kernel
theorem dX1_init_34 : decode cX1_init 34 = .ok (.iinc 1 1, 3) := by decide +kernel
theorem dX1_init_37 : decode cX1_init 37 = .ok (.goto (-22), 3) := by decide +kernel
theorem dX1_init_40 : decode cX1_init 40 = .ok (.return_, 1) := by decide +kernel
theorem dX1_keep_0 : decode cX1_keep 0 = .ok (.aload_n 0, 1) := by decide +kernel
theorem dX1_keep_1 : decode cX1_keep 1 = .ok (.getfield 18, 3) := by decide +kernel
theorem dX1_keep_4 : decode cX1_keep 4 = .ok (.bipush 6, 2) := by decide +kernel
theorem dX1_keep_6 : decode cX1_keep 6 = .ok (.if_icmp .ne 26, 3) := by decide +kernel
theorem dX1_keep_9 : decode cX1_keep 9 = .ok (.aload_n 0, 1) := by decide +kernel
theorem dX1_keep_10 : decode cX1_keep 10 = .ok (.aload_n 0, 1) := by decide +kernel
theorem dX1_keep_11 : decode cX1_keep 11 = .ok (.getfield 22, 3) := by decide +kernel
theorem dX1_keep_14 : decode cX1_keep 14 = .ok (.iconst 1, 1) := by decide +kernel
theorem dX1_keep_15 : decode cX1_keep 15 = .ok (.iadd, 1) := by decide +kernel
theorem dX1_keep_16 : decode cX1_keep 16 = .ok (.bipush 6, 2) := by decide +kernel
theorem dX1_keep_18 : decode cX1_keep 18 = .ok (.irem, 1) := by decide +kernel
theorem dX1_keep_19 : decode cX1_keep 19 = .ok (.putfield 22, 3) := by decide +kernel
theorem dX1_keep_22 : decode cX1_keep 22 = .ok (.aload_n 0, 1) := by decide +kernel
theorem dX1_keep_23 : decode cX1_keep 23 = .ok (.dup, 1) := by decide +kernel
theorem dX1_keep_24 : decode cX1_keep 24 = .ok (.getfield 18, 3) := by decide +kernel
theorem dX1_keep_27 : decode cX1_keep 27 = .ok (.iconst 1, 1) := by decide +kernel
theorem dX1_keep_28 : decode cX1_keep 28 = .ok (.isub, 1) := by decide +kernel
theorem dX1_keep_29 : decode cX1_keep 29 = .ok (.putfield 18, 3) := by decide +kernel
theorem dX1_keep_32 : decode cX1_keep 32 = .ok (.aload_n 0, 1) := by decide +kernel
theorem dX1_keep_33 : decode cX1_keep 33 = .ok (.getfield 11, 3) := by decide +kernel
theorem dX1_keep_36 : decode cX1_keep 36 = .ok (.aload_n 0, 1) := by decide +kernel
theorem dX1_keep_37 : decode cX1_keep 37 = .ok (.getfield 22, 3) := by decide +kernel
theorem dX1_keep_40 : decode cX1_keep 40 = .ok (.aload_n 0, 1) := by decide +kernel
theorem dX1_keep_41 : decode cX1_keep 41 = .ok (.getfield 18, 3) := by decide +kernel
theorem dX1_keep_44 : decode cX1_keep 44 = .ok (.iadd, 1) := by decide +kernel
theorem dX1_keep_45 : decode cX1_keep 45 = .ok (.bipush 6, 2) := by decide +kernel
theorem dX1_keep_47 : decode cX1_keep 47 = .ok (.irem, 1) := by decide +kernel
theorem dX1_keep_48 : decode cX1_keep 48 = .ok (.aaload, 1) := by decide +kernel
theorem dX1_keep_49 : decode cX1_keep 49 = .ok (.aload_n 1, 1) := by decide +kernel
theorem dX1_keep_50 : decode cX1_keep 50 = .ok (.invokevirtual 25, 3) := by decide +kernel
theorem dX1_keep_53 : decode cX1_keep 53 = .ok (.aload_n 0, 1) := by decide +kernel
theorem dX1_keep_54 : decode cX1_keep 54 = .ok (.dup, 1) := by decide +kernel
theorem dX1_keep_55 : decode cX1_keep 55 = .ok (.getfield 18, 3) := by decide +kernel
theorem dX1_keep_58 : decode cX1_keep 58 = .ok (.iconst 1, 1) := by decide +kernel
theorem dX1_keep_59 : decode cX1_keep 59 = .ok (.iadd, 1) := by decide +kernel
theorem dX1_keep_60 : decode cX1_keep 60 = .ok (.putfield 18, 3) := by decide +kernel
theorem dX1_keep_63 : decode cX1_keep 63 = .ok (.return_, 1) := by decide +kernel
theorem dX2_init_0 : decode cX2_init 0 = .ok (.aload_n 0, 1) := by decide +kernel
theorem dX2_init_1 : decode cX2_init 1 = .ok (.invokespecial 3, 3) := by decide +kernel
theorem dX2_init_4 : decode cX2_init 4 = .ok (.return_, 1) := by decide +kernel
theorem dX2_along_0 : decode cX2_along 0 = .ok (.aload_n 0, 1) := by decide +kernel
theorem dX2_along_1 : decode cX2_along 1 = .ok (.invokevirtual 9, 3) := by decide +kernel
theorem dX2_along_4 : decode cX2_along 4 = .ok (.iload_n 3, 1) := by decide +kernel
theorem dX2_along_5 : decode cX2_along 5 = .ok (.aload_n 1, 1) := by decide +kernel
theorem dX2_along_6 : decode cX2_along 6 = .ok (.getfield 14, 3) := by decide +kernel
theorem dX2_along_9 : decode cX2_along 9 = .ok (.iconst 3, 1) := by decide +kernel
theorem dX2_along_10 : decode cX2_along 10 = .ok (.iaload, 1) := by decide +kernel
theorem dX2_along_11 : decode cX2_along 11 = .ok (.aload_n 1, 1) := by decide +kernel
theorem dX2_along_12 : decode cX2_along 12 = .ok (.iload_n 2, 1) := by decide +kernel
theorem dX2_along_13 : decode cX2_along 13 = .ok (.invokevirtual 20, 3) := by decide +kernel
theorem dX2_along_16 : decode cX2_along 16 = .ok (.isub, 1) := by decide +kernel
theorem dX2_along_17 : decode cX2_along 17 = .ok (.invokestatic 24, 3) := by decide +kernel
theorem dX2_along_20 : decode cX2_along 20 = .ok (.istore 4, 2) := by decide +kernel
theorem dX2_along_22 : decode cX2_along 22 = .ok (.bipush 9, 2) := by decide +kernel
theorem dX2_along_24 : decode cX2_along 24 = .ok (.istore 5, 2) := by decide +kernel
theorem dX2_along_26 : decode cX2_along 26 = .ok (.iload 5, 2) := by decide +kernel
theorem dX2_along_28 : decode cX2_along 28 = .ok (.ifCond .lt 86, 3) := by decide +kernel
theorem dX2_along_31 : decode cX2_along 31 = .ok (.aload_n 0, 1) := by decide +kernel
theorem dX2_along_32 : decode cX2_along 32 = .ok (.getfield 30, 3) := by decide +kernel
theorem dX2_along_35 : decode cX2_along 35 = .ok (.iload 4, 2) := by decide +kernel
theorem dX2_along_37 : decode cX2_along 37 = .ok (.if_icmp .ge 77, 3) := by decide +kernel
theorem dX2_along_40 : decode cX2_along 40 = .ok (.iconst 0, 1) := by decide +kernel
theorem dX2_along_41 : decode cX2_along 41 = .ok (.istore 6, 2) := by decide +kernel
theorem dX2_along_43 : decode cX2_along 43 = .ok (.iload 6, 2) := by decide +kernel
theorem dX2_along_45 : decode cX2_along 45 = .ok (.aload_n 1, 1) := by decide +kernel
theorem dX2_along_46 : decode cX2_along 46 = .ok (.getfield 34, 3) := by decide +kernel
theorem dX2_along_49 : decode cX2_along 49 = .ok (.if_icmp .ge 59, 3) := by decide +kernel
theorem dX2_along_52 : decode cX2_along 52 = .ok (.aload_n 0, 1) := by decide +kernel
theorem dX2_along_53 : decode cX2_along 53 = .ok (.getfield 30, 3) := by decide +kernel
theorem dX2_along_56 : decode cX2_along 56 = .ok (.iload 4, 2) := by decide +kernel
theorem dX2_along_58 : decode cX2_along 58 = .ok (.if_icmp .ge 50, 3) := by decide +kernel
theorem dX2_along_61 : decode cX2_along 61 = .ok (.aload_n 1, 1) := by decide +kernel
theorem dX2_along_62 : decode cX2_along 62 = .ok (.getfield 37, 3) := by decide +kernel
theorem dX2_along_65 : decode cX2_along 65 = .ok (.iload 6, 2) := by decide +kernel
theorem dX2_along_67 : decode cX2_along 67 = .ok (.aaload, 1) := by decide +kernel
theorem dX2_along_68 : decode cX2_along 68 = .ok (.getfield 41, 3) := by decide +kernel
theorem dX2_along_71 : decode cX2_along 71 = .ok (.iload 5, 2) := by decide +kernel
theorem dX2_along_73 : decode cX2_along 73 = .ok (.if_icmp .ne 29, 3) := by decide +kernel
theorem dX2_along_76 : decode cX2_along 76 = .ok (.aload_n 1, 1) := by decide +kernel
theorem dX2_along_77 : decode cX2_along 77 = .ok (.getfield 37, 3) := by decide +kernel
theorem dX2_along_80 : decode cX2_along 80 = .ok (.iload 6, 2) := by decide +kernel
theorem dX2_along_82 : decode cX2_along 82 = .ok (.aaload, 1) := by decide +kernel
theorem dX2_along_83 : decode cX2_along 83 = .ok (.invokevirtual 46, 3) := by decide +kernel
theorem dX2_along_86 : decode cX2_along 86 = .ok (.ifCond .eq 16, 3) := by decide +kernel
theorem dX2_along_89 : decode cX2_along 89 = .ok (.aload_n 0, 1) := by decide +kernel
theorem dX2_along_90 : decode cX2_along 90 = .ok (.iload 6, 2) := by decide +kernel
theorem dX2_along_92 : decode cX2_along 92 = .ok (.aload_n 1, 1) := by decide +kernel
theorem dX2_along_93 : decode cX2_along 93 = .ok (.iload_n 2, 1) := by decide +kernel
theorem dX2_along_94 : decode cX2_along 94 = .ok (.iload 6, 2) := by decide +kernel
theorem dX2_along_96 : decode cX2_along 96 = .ok (.invokevirtual 50, 3) := by decide +kernel
theorem dX2_along_99 : decode cX2_along 99 = .ok (.invokevirtual 54, 3) := by decide +kernel
theorem dX2_along_102 : decode cX2_along 102 = .ok (.iinc 6 1, 3) := by decide +kernel
theorem dX2_along_105 : decode cX2_along 105 = .ok (.goto (-62), 3) := by decide +kernel
theorem dX2_along_108 : decode cX2_along 108 = .ok (.iinc 5 (-1), 3) := by decide +kernel
theorem dX2_along_111 : decode cX2_along 111 = .ok (.goto (-85), 3) := by decide +kernel
theorem dX2_along_114 : decode cX2_along 114 = .ok (.return_, 1) := by decide +kernel
theorem dX2_forget_0 : decode cX2_forget 0 = .ok (.aload_n 0, 1) := by decide +kernel
theorem dX2_forget_1 : decode cX2_forget 1 = .ok (.iconst 0, 1) := by decide +kernel
theorem dX2_forget_2 : decode cX2_forget 2 = .ok (.putfield 58, 3) := by decide +kernel
theorem dX2_forget_5 : decode cX2_forget 5 = .ok (.aload_n 0, 1) := by decide +kernel
theorem dX2_forget_6 : decode cX2_forget 6 = .ok (.iconst 0, 1) := by decide +kernel
theorem dX2_forget_7 : decode cX2_forget 7 = .ok (.putfield 30, 3) := by decide +kernel
theorem dX2_forget_10 : decode cX2_forget 10 = .ok (.aload_n 0, 1) := by decide +kernel
theorem dX2_forget_11 : decode cX2_forget 11 = .ok (.iconst 0, 1) := by decide +kernel
theorem dX2_forget_12 : decode cX2_forget 12 = .ok (.putfield 61, 3) := by decide +kernel
theorem dX2_forget_15 : decode cX2_forget 15 = .ok (.aload_n 0, 1) := by decide +kernel
theorem dX2_forget_16 : decode cX2_forget 16 = .ok (.iconst 0, 1) := by decide +kernel
theorem dX2_forget_17 : decode cX2_forget 17 = .ok (.putfield 64, 3) := by decide +kernel
theorem dX2_forget_20 : decode cX2_forget 20 = .ok (.aload_n 0, 1) := by decide +kernel
theorem dX2_forget_21 : decode cX2_forget 21 = .ok (.iconst (-1), 1) := by decide +kernel
theorem dX2_forget_22 : decode cX2_forget 22 = .ok (.putfield 67, 3) := by decide +kernel
theorem dX2_forget_25 : decode cX2_forget 25 = .ok (.return_, 1) := by decide +kernel
theorem dX2_meet_0 : decode cX2_meet 0 = .ok (.iload_n 2, 1) := by decide +kernel
theorem dX2_meet_1 : decode cX2_meet 1 = .ok (.ifCond .ne 26, 3) := by decide +kernel
theorem dX2_meet_4 : decode cX2_meet 4 = .ok (.aload_n 0, 1) := by decide +kernel
theorem dX2_meet_5 : decode cX2_meet 5 = .ok (.aload_n 0, 1) := by decide +kernel
theorem dX2_meet_6 : decode cX2_meet 6 = .ok (.getfield 61, 3) := by decide +kernel
theorem dX2_meet_9 : decode cX2_meet 9 = .ok (.iconst 1, 1) := by decide +kernel
theorem dX2_meet_10 : decode cX2_meet 10 = .ok (.iload_n 1, 1) := by decide +kernel
theorem dX2_meet_11 : decode cX2_meet 11 = .ok (.ishl, 1) := by decide +kernel
theorem dX2_meet_12 : decode cX2_meet 12 = .ok (.ior, 1) := by decide +kernel
theorem dX2_meet_13 : decode cX2_meet 13 = .ok (.putfield 61, 3) := by decide +kernel
theorem dX2_meet_16 : decode cX2_meet 16 = .ok (.aload_n 0, 1) := by decide +kernel
theorem dX2_meet_17 : decode cX2_meet 17 = .ok (.dup, 1) := by decide +kernel
theorem dX2_meet_18 : decode cX2_meet 18 = .ok (.getfield 64, 3) := by decide +kernel
theorem dX2_meet_21 : decode cX2_meet 21 = .ok (.iconst 1, 1) := by decide +kernel
theorem dX2_meet_22 : decode cX2_meet 22 = .ok (.iadd, 1) := by decide +kernel
theorem dX2_meet_23 : decode cX2_meet 23 = .ok (.putfield 64, 3) := by decide +kernel
theorem dX2_meet_26 : decode cX2_meet 26 = .ok (.return_, 1) := by decide +kernel
theorem dX2_meet_27 : decode cX2_meet 27 = .ok (.aload_n 0, 1) := by decide +kernel
theorem dX2_meet_28 : decode cX2_meet 28 = .ok (.getfield 30, 3) := by decide +kernel
theorem dX2_meet_31 : decode cX2_meet 31 = .ok (.ifCond .ne 8, 3) := by decide +kernel
theorem dX2_meet_34 : decode cX2_meet 34 = .ok (.aload_n 0, 1) := by decide +kernel
theorem dX2_meet_35 : decode cX2_meet 35 = .ok (.iload_n 1, 1) := by decide +kernel
theorem dX2_meet_36 : decode cX2_meet 36 = .ok (.putfield 67, 3) := by decide +kernel
theorem dX2_meet_39 : decode cX2_meet 39 = .ok (.aload_n 0, 1) := by decide +kernel
theorem dX2_meet_40 : decode cX2_meet 40 = .ok (.aload_n 0, 1) := by decide +kernel
theorem dX2_meet_41 : decode cX2_meet 41 = .ok (.getfield 58, 3) := by decide +kernel
theorem dX2_meet_44 : decode cX2_meet 44 = .ok (.iconst 1, 1) := by decide +kernel
theorem dX2_meet_45 : decode cX2_meet 45 = .ok (.iload_n 1, 1) := by decide +kernel
theorem dX2_meet_46 : decode cX2_meet 46 = .ok (.ishl, 1) := by decide +kernel
theorem dX2_meet_47 : decode cX2_meet 47 = .ok (.ior, 1) := by decide +kernel
theorem dX2_meet_48 : decode cX2_meet 48 = .ok (.putfield 58, 3) := by decide +kernel
theorem dX2_meet_51 : decode cX2_meet 51 = .ok (.aload_n 0, 1) := by decide +kernel
theorem dX2_meet_52 : decode cX2_meet 52 = .ok (.dup, 1) := by decide +kernel
theorem dX2_meet_53 : decode cX2_meet 53 = .ok (.getfield 30, 3) := by decide +kernel
theorem dX2_meet_56 : decode cX2_meet 56 = .ok (.iconst 1, 1) := by decide +kernel
theorem dX2_meet_57 : decode cX2_meet 57 = .ok (.iadd, 1) := by decide +kernel
theorem dX2_meet_58 : decode cX2_meet 58 = .ok (.putfield 30, 3) := by decide +kernel
theorem dX2_meet_61 : decode cX2_meet 61 = .ok (.return_, 1) := by decide +kernel
theorem dX2_hasTaken_0 : decode cX2_hasTaken 0 = .ok (.aload_n 0, 1) := by decide +kernel
theorem dX2_hasTaken_1 : decode cX2_hasTaken 1 = .ok (.getfield 58, 3) := by decide +kernel
theorem dX2_hasTaken_4 : decode cX2_hasTaken 4 = .ok (.iload_n 1, 1) := by decide +kernel
theorem dX2_hasTaken_5 : decode cX2_hasTaken 5 = .ok (.ishr, 1) := by decide +kernel
theorem dX2_hasTaken_6 : decode cX2_hasTaken 6 = .ok (.iconst 1, 1) := by decide +kernel
theorem dX2_hasTaken_7 : decode cX2_hasTaken 7 = .ok (.iand, 1) := by decide +kernel
theorem dX2_hasTaken_8 : decode cX2_hasTaken 8 = .ok (.iconst 1, 1) := by decide +kernel
theorem dX2_hasTaken_9 : decode cX2_hasTaken 9 = .ok (.if_icmp .ne 7, 3) := by decide +kernel
theorem dX2_hasTaken_12 : decode cX2_hasTaken 12 = .ok (.iconst 1, 1) := by decide +kernel
theorem dX2_hasTaken_13 : decode cX2_hasTaken 13 = .ok (.goto 4, 3) := by decide +kernel
theorem dX2_hasTaken_16 : decode cX2_hasTaken 16 = .ok (.iconst 0, 1) := by decide +kernel
theorem dX2_hasTaken_17 : decode cX2_hasTaken 17 = .ok (.ireturn, 1) := by decide +kernel
theorem dX2_hasSkipped_0 : decode cX2_hasSkipped 0 = .ok (.aload_n 0, 1) := by decide +kernel
theorem dX2_hasSkipped_1 : decode cX2_hasSkipped 1 = .ok (.getfield 61, 3) := by decide +kernel
theorem dX2_hasSkipped_4 : decode cX2_hasSkipped 4 = .ok (.iload_n 1, 1) := by decide +kernel
theorem dX2_hasSkipped_5 : decode cX2_hasSkipped 5 = .ok (.ishr, 1) := by decide +kernel
theorem dX2_hasSkipped_6 : decode cX2_hasSkipped 6 = .ok (.iconst 1, 1) := by decide +kernel
theorem dX2_hasSkipped_7 : decode cX2_hasSkipped 7 = .ok (.iand, 1) := by decide +kernel
theorem dX2_hasSkipped_8 : decode cX2_hasSkipped 8 = .ok (.iconst 1, 1) := by decide +kernel
theorem dX2_hasSkipped_9 : decode cX2_hasSkipped 9 = .ok (.if_icmp .ne 7, 3) := by decide +kernel
theorem dX2_hasSkipped_12 : decode cX2_hasSkipped 12 = .ok (.iconst 1, 1) := by decide +kernel
theorem dX2_hasSkipped_13 : decode cX2_hasSkipped 13 = .ok (.goto 4, 3) := by decide +kernel
theorem dX2_hasSkipped_16 : decode cX2_hasSkipped 16 = .ok (.iconst 0, 1) := by decide +kernel
theorem dX2_hasSkipped_17 : decode cX2_hasSkipped 17 = .ok (.ireturn, 1) := by decide +kernel
theorem dX3_init_0 : decode cX3_init 0 = .ok (.aload_n 0, 1) := by decide +kernel
theorem dX3_init_1 : decode cX3_init 1 = .ok (.invokespecial 3, 3) := by decide +kernel
theorem dX3_init_4 : decode cX3_init 4 = .ok (.aload_n 0, 1) := by decide +kernel
theorem dX3_init_5 : decode cX3_init 5 = .ok (.sipush 255, 3) := by decide +kernel
theorem dX3_init_8 : decode cX3_init 8 = .ok (.putfield 9, 3) := by decide +kernel
theorem dX3_init_11 : decode cX3_init 11 = .ok (.return_, 1) := by decide +kernel
theorem dX3_copyFrom_0 : decode cX3_copyFrom 0 = .ok (.aload_n 0, 1) := by decide +kernel
theorem dX3_copyFrom_1 : decode cX3_copyFrom 1 = .ok (.aload_n 1, 1) := by decide +kernel
theorem dX3_copyFrom_2 : decode cX3_copyFrom 2 = .ok (.getfield 9, 3) := by decide +kernel
theorem dX3_copyFrom_5 : decode cX3_copyFrom 5 = .ok (.putfield 9, 3) := by decide +kernel
theorem dX3_copyFrom_8 : decode cX3_copyFrom 8 = .ok (.aload_n 0, 1) := by decide +kernel
theorem dX3_copyFrom_9 : decode cX3_copyFrom 9 = .ok (.aload_n 1, 1) := by decide +kernel
theorem dX3_copyFrom_10 : decode cX3_copyFrom 10 = .ok (.getfield 15, 3) := by decide +kernel
theorem dX3_copyFrom_13 : decode cX3_copyFrom 13 = .ok (.putfield 15, 3) := by decide +kernel
theorem dX3_copyFrom_16 : decode cX3_copyFrom 16 = .ok (.aload_n 0, 1) := by decide +kernel
theorem dX3_copyFrom_17 : decode cX3_copyFrom 17 = .ok (.aload_n 1, 1) := by decide +kernel
theorem dX3_copyFrom_18 : decode cX3_copyFrom 18 = .ok (.getfield 18, 3) := by decide +kernel
theorem dX3_copyFrom_21 : decode cX3_copyFrom 21 = .ok (.putfield 18, 3) := by decide +kernel
theorem dX3_copyFrom_24 : decode cX3_copyFrom 24 = .ok (.aload_n 0, 1) := by decide +kernel
theorem dX3_copyFrom_25 : decode cX3_copyFrom 25 = .ok (.aload_n 1, 1) := by decide +kernel
theorem dX3_copyFrom_26 : decode cX3_copyFrom 26 = .ok (.getfield 21, 3) := by decide +kernel
theorem dX3_copyFrom_29 : decode cX3_copyFrom 29 = .ok (.putfield 21, 3) := by decide +kernel
theorem dX3_copyFrom_32 : decode cX3_copyFrom 32 = .ok (.return_, 1) := by decide +kernel
theorem dX3_wants_0 : decode cX3_wants 0 = .ok (.aload_n 0, 1) := by decide +kernel
theorem dX3_wants_1 : decode cX3_wants 1 = .ok (.getfield 9, 3) := by decide +kernel
theorem dX3_wants_4 : decode cX3_wants 4 = .ok (.iload_n 1, 1) := by decide +kernel
theorem dX3_wants_5 : decode cX3_wants 5 = .ok (.ishr, 1) := by decide +kernel
theorem dX3_wants_6 : decode cX3_wants 6 = .ok (.iconst 1, 1) := by decide +kernel
theorem dX3_wants_7 : decode cX3_wants 7 = .ok (.iand, 1) := by decide +kernel
theorem dX3_wants_8 : decode cX3_wants 8 = .ok (.iconst 1, 1) := by decide +kernel
theorem dX3_wants_9 : decode cX3_wants 9 = .ok (.if_icmp .ne 7, 3) := by decide +kernel
theorem dX3_wants_12 : decode cX3_wants 12 = .ok (.iconst 1, 1) := by decide +kernel
theorem dX3_wants_13 : decode cX3_wants 13 = .ok (.goto 4, 3) := by decide +kernel
theorem dX3_wants_16 : decode cX3_wants 16 = .ok (.iconst 0, 1) := by decide +kernel
theorem dX3_wants_17 : decode cX3_wants 17 = .ok (.ireturn, 1) := by decide +kernel
theorem dX4_init_0 : decode cX4_init 0 = .ok (.aload_n 0, 1) := by decide +kernel
theorem dX4_init_1 : decode cX4_init 1 = .ok (.invokespecial 3, 3) := by decide +kernel
theorem dX4_init_4 : decode cX4_init 4 = .ok (.aload_n 0, 1) := by decide +kernel
theorem dX4_init_5 : decode cX4_init 5 = .ok (.iconst (-1), 1) := by decide +kernel
theorem dX4_init_6 : decode cX4_init 6 = .ok (.putfield 9, 3) := by decide +kernel
theorem dX4_init_9 : decode cX4_init 9 = .ok (.aload_n 0, 1) := by decide +kernel
theorem dX4_init_10 : decode cX4_init 10 = .ok (.iconst (-1), 1) := by decide +kernel
theorem dX4_init_11 : decode cX4_init 11 = .ok (.putfield 15, 3) := by decide +kernel
theorem dX4_init_14 : decode cX4_init 14 = .ok (.return_, 1) := by decide +kernel
theorem dX4_copyFrom_0 : decode cX4_copyFrom 0 = .ok (.aload_n 0, 1) := by decide +kernel
theorem dX4_copyFrom_1 : decode cX4_copyFrom 1 = .ok (.aload_n 1, 1) := by decide +kernel
theorem dX4_copyFrom_2 : decode cX4_copyFrom 2 = .ok (.getfield 18, 3) := by decide +kernel
theorem dX4_copyFrom_5 : decode cX4_copyFrom 5 = .ok (.putfield 18, 3) := by decide +kernel
theorem dX4_copyFrom_8 : decode cX4_copyFrom 8 = .ok (.aload_n 0, 1) := by decide +kernel
theorem dX4_copyFrom_9 : decode cX4_copyFrom 9 = .ok (.aload_n 1, 1) := by decide +kernel
theorem dX4_copyFrom_10 : decode cX4_copyFrom 10 = .ok (.getfield 21, 3) := by decide +kernel
theorem dX4_copyFrom_13 : decode cX4_copyFrom 13 = .ok (.putfield 21, 3) := by decide +kernel
theorem dX4_copyFrom_16 : decode cX4_copyFrom 16 = .ok (.aload_n 0, 1) := by decide +kernel
theorem dX4_copyFrom_17 : decode cX4_copyFrom 17 = .ok (.aload_n 1, 1) := by decide +kernel
theorem dX4_copyFrom_18 : decode cX4_copyFrom 18 = .ok (.getfield 24, 3) := by decide +kernel
theorem dX4_copyFrom_21 : decode cX4_copyFrom 21 = .ok (.putfield 24, 3) := by decide +kernel
theorem dX4_copyFrom_24 : decode cX4_copyFrom 24 = .ok (.aload_n 0, 1) := by decide +kernel
theorem dX4_copyFrom_25 : decode cX4_copyFrom 25 = .ok (.aload_n 1, 1) := by decide +kernel
theorem dX4_copyFrom_26 : decode cX4_copyFrom 26 = .ok (.getfield 27, 3) := by decide +kernel
theorem dX4_copyFrom_29 : decode cX4_copyFrom 29 = .ok (.putfield 27, 3) := by decide +kernel
theorem dX4_copyFrom_32 : decode cX4_copyFrom 32 = .ok (.aload_n 0, 1) := by decide +kernel
theorem dX4_copyFrom_33 : decode cX4_copyFrom 33 = .ok (.aload_n 1, 1) := by decide +kernel
theorem dX4_copyFrom_34 : decode cX4_copyFrom 34 = .ok (.getfield 30, 3) := by decide +kernel
theorem dX4_copyFrom_37 : decode cX4_copyFrom 37 = .ok (.putfield 30, 3) := by decide +kernel
theorem dX4_copyFrom_40 : decode cX4_copyFrom 40 = .ok (.aload_n 0, 1) := by decide +kernel
theorem dX4_copyFrom_41 : decode cX4_copyFrom 41 = .ok (.aload_n 1, 1) := by decide +kernel
theorem dX4_copyFrom_42 : decode cX4_copyFrom 42 = .ok (.getfield 9, 3) := by decide +kernel
theorem dX4_copyFrom_45 : decode cX4_copyFrom 45 = .ok (.putfield 9, 3) := by decide +kernel
theorem dX4_copyFrom_48 : decode cX4_copyFrom 48 = .ok (.aload_n 0, 1) := by decide +kernel
theorem dX4_copyFrom_49 : decode cX4_copyFrom 49 = .ok (.aload_n 1, 1) := by decide +kernel
theorem dX4_copyFrom_50 : decode cX4_copyFrom 50 = .ok (.getfield 15, 3) := by decide +kernel
theorem dX4_copyFrom_53 : decode cX4_copyFrom 53 = .ok (.putfield 15, 3) := by decide +kernel
theorem dX4_copyFrom_56 : decode cX4_copyFrom 56 = .ok (.aload_n 0, 1) := by decide +kernel
theorem dX4_copyFrom_57 : decode cX4_copyFrom 57 = .ok (.aload_n 1, 1) := by decide +kernel
theorem dX4_copyFrom_58 : decode cX4_copyFrom 58 = .ok (.getfield 33, 3) := by decide +kernel
theorem dX4_copyFrom_61 : decode cX4_copyFrom 61 = .ok (.putfield 33, 3) := by decide +kernel
theorem dX4_copyFrom_64 : decode cX4_copyFrom 64 = .ok (.aload_n 0, 1) := by decide +kernel
theorem dX4_copyFrom_65 : decode cX4_copyFrom 65 = .ok (.aload_n 1, 1) := by decide +kernel
theorem dX4_copyFrom_66 : decode cX4_copyFrom 66 = .ok (.getfield 36, 3) := by decide +kernel
theorem dX4_copyFrom_69 : decode cX4_copyFrom 69 = .ok (.putfield 36, 3) := by decide +kernel
theorem dX4_copyFrom_72 : decode cX4_copyFrom 72 = .ok (.return_, 1) := by decide +kernel
theorem dX4_begin_0 : decode cX4_begin 0 = .ok (.aload_n 0, 1) := by decide +kernel
theorem dX4_begin_1 : decode cX4_begin 1 = .ok (.iload_n 1, 1) := by decide +kernel
theorem dX4_begin_2 : decode cX4_begin 2 = .ok (.putfield 18, 3) := by decide +kernel
theorem dX4_begin_5 : decode cX4_begin 5 = .ok (.aload_n 0, 1) := by decide +kernel
theorem dX4_begin_6 : decode cX4_begin 6 = .ok (.iload_n 2, 1) := by decide +kernel
theorem dX4_begin_7 : decode cX4_begin 7 = .ok (.putfield 21, 3) := by decide +kernel
theorem dX4_begin_10 : decode cX4_begin 10 = .ok (.aload_n 0, 1) := by decide +kernel
theorem dX4_begin_11 : decode cX4_begin 11 = .ok (.iload_n 3, 1) := by decide +kernel
theorem dX4_begin_12 : decode cX4_begin 12 = .ok (.putfield 24, 3) := by decide +kernel
theorem dX4_begin_15 : decode cX4_begin 15 = .ok (.aload_n 0, 1) := by decide +kernel
theorem dX4_begin_16 : decode cX4_begin 16 = .ok (.iload 4, 2) := by decide +kernel
theorem dX4_begin_18 : decode cX4_begin 18 = .ok (.putfield 27, 3) := by decide +kernel
theorem dX4_begin_21 : decode cX4_begin 21 = .ok (.aload_n 0, 1) := by decide +kernel
theorem dX4_begin_22 : decode cX4_begin 22 = .ok (.iconst 0, 1) := by decide +kernel
theorem dX4_begin_23 : decode cX4_begin 23 = .ok (.putfield 30, 3) := by decide +kernel
theorem dX4_begin_26 : decode cX4_begin 26 = .ok (.aload_n 0, 1) := by decide +kernel
theorem dX4_begin_27 : decode cX4_begin 27 = .ok (.iconst (-1), 1) := by decide +kernel
theorem dX4_begin_28 : decode cX4_begin 28 = .ok (.putfield 9, 3) := by decide +kernel
theorem dX4_begin_31 : decode cX4_begin 31 = .ok (.aload_n 0, 1) := by decide +kernel
theorem dX4_begin_32 : decode cX4_begin 32 = .ok (.iconst (-1), 1) := by decide +kernel
theorem dX4_begin_33 : decode cX4_begin 33 = .ok (.putfield 15, 3) := by decide +kernel
theorem dX4_begin_36 : decode cX4_begin 36 = .ok (.aload_n 0, 1) := by decide +kernel
theorem dX4_begin_37 : decode cX4_begin 37 = .ok (.iconst 0, 1) := by decide +kernel
theorem dX4_begin_38 : decode cX4_begin 38 = .ok (.putfield 33, 3) := by decide +kernel
theorem dX4_begin_41 : decode cX4_begin 41 = .ok (.aload_n 0, 1) := by decide +kernel
theorem dX4_begin_42 : decode cX4_begin 42 = .ok (.iconst 0, 1) := by decide +kernel
theorem dX4_begin_43 : decode cX4_begin 43 = .ok (.putfield 36, 3) := by decide +kernel
theorem dX4_begin_46 : decode cX4_begin 46 = .ok (.return_, 1) := by decide +kernel
theorem dX4_isOpen_0 : decode cX4_isOpen 0 = .ok (.aload_n 0, 1) := by decide +kernel
theorem dX4_isOpen_1 : decode cX4_isOpen 1 = .ok (.getfield 30, 3) := by decide +kernel
theorem dX4_isOpen_4 : decode cX4_isOpen 4 = .ok (.ifCond .eq 11, 3) := by decide +kernel
theorem dX4_isOpen_7 : decode cX4_isOpen 7 = .ok (.aload_n 0, 1) := by decide +kernel
theorem dX4_isOpen_8 : decode cX4_isOpen 8 = .ok (.getfield 30, 3) := by decide +kernel
theorem dX4_isOpen_11 : decode cX4_isOpen 11 = .ok (.iconst 1, 1) := by decide +kernel
theorem dX4_isOpen_12 : decode cX4_isOpen 12 = .ok (.if_icmp .ne 7, 3) := by decide +kernel
theorem dX4_isOpen_15 : decode cX4_isOpen 15 = .ok (.iconst 1, 1) := by decide +kernel
theorem dX4_isOpen_16 : decode cX4_isOpen 16 = .ok (.goto 4, 3) := by decide +kernel
theorem dX4_isOpen_19 : decode cX4_isOpen 19 = .ok (.iconst 0, 1) := by decide +kernel
theorem dX4_isOpen_20 : decode cX4_isOpen 20 = .ok (.ireturn, 1) := by decide +kernel
theorem dX4_isHeldBy_0 : decode cX4_isHeldBy 0 = .ok (.aload_n 0, 1) := by decide +kernel
theorem dX4_isHeldBy_1 : decode cX4_isHeldBy 1 = .ok (.getfield 30, 3) := by decide +kernel
theorem dX4_isHeldBy_4 : decode cX4_isHeldBy 4 = .ok (.iconst 1, 1) := by decide +kernel
theorem dX4_isHeldBy_5 : decode cX4_isHeldBy 5 = .ok (.if_icmp .ne 15, 3) := by decide +kernel
theorem dX4_isHeldBy_8 : decode cX4_isHeldBy 8 = .ok (.aload_n 0, 1) := by decide +kernel
theorem dX4_isHeldBy_9 : decode cX4_isHeldBy 9 = .ok (.getfield 9, 3) := by decide +kernel
theorem dX4_isHeldBy_12 : decode cX4_isHeldBy 12 = .ok (.iload_n 1, 1) := by decide +kernel
theorem dX4_isHeldBy_13 : decode cX4_isHeldBy 13 = .ok (.if_icmp .ne 7, 3) := by decide +kernel
theorem dX4_isHeldBy_16 : decode cX4_isHeldBy 16 = .ok (.iconst 1, 1) := by decide +kernel
theorem dX4_isHeldBy_17 : decode cX4_isHeldBy 17 = .ok (.goto 4, 3) := by decide +kernel
theorem dX4_isHeldBy_20 : decode cX4_isHeldBy 20 = .ok (.iconst 0, 1) := by decide +kernel
theorem dX4_isHeldBy_21 : decode cX4_isHeldBy 21 = .ok (.ireturn, 1) := by decide +kernel
theorem dX4_lapsesBy_0 : decode cX4_lapsesBy 0 = .ok (.aload_n 0, 1) := by decide +kernel
theorem dX4_lapsesBy_1 : decode cX4_lapsesBy 1 = .ok (.getfield 30, 3) := by decide +kernel
theorem dX4_lapsesBy_4 : decode cX4_lapsesBy 4 = .ok (.iconst 1, 1) := by decide +kernel
theorem dX4_lapsesBy_5 : decode cX4_lapsesBy 5 = .ok (.if_icmp .ne 15, 3) := by decide +kernel
theorem dX4_lapsesBy_8 : decode cX4_lapsesBy 8 = .ok (.aload_n 0, 1) := by decide +kernel
theorem dX4_lapsesBy_9 : decode cX4_lapsesBy 9 = .ok (.getfield 15, 3) := by decide +kernel
theorem dX4_lapsesBy_12 : decode cX4_lapsesBy 12 = .ok (.iload_n 1, 1) := by decide +kernel
theorem dX4_lapsesBy_13 : decode cX4_lapsesBy 13 = .ok (.if_icmp .gt 7, 3) := by decide +kernel
theorem dX4_lapsesBy_16 : decode cX4_lapsesBy 16 = .ok (.iconst 1, 1) := by decide +kernel
theorem dX4_lapsesBy_17 : decode cX4_lapsesBy 17 = .ok (.goto 4, 3) := by decide +kernel
theorem dX4_lapsesBy_20 : decode cX4_lapsesBy 20 = .ok (.iconst 0, 1) := by decide +kernel
theorem dX4_lapsesBy_21 : decode cX4_lapsesBy 21 = .ok (.ireturn, 1) := by decide +kernel
theorem dX4_startHold_0 : decode cX4_startHold 0 = .ok (.aload_n 0, 1) := by decide +kernel
theorem dX4_startHold_1 : decode cX4_startHold 1 = .ok (.iconst 1, 1) := by decide +kernel
theorem dX4_startHold_2 : decode cX4_startHold 2 = .ok (.putfield 30, 3) := by decide +kernel
theorem dX4_startHold_5 : decode cX4_startHold 5 = .ok (.aload_n 0, 1) := by decide +kernel
theorem dX4_startHold_6 : decode cX4_startHold 6 = .ok (.iload_n 1, 1) := by decide +kernel
theorem dX4_startHold_7 : decode cX4_startHold 7 = .ok (.putfield 9, 3) := by decide +kernel
theorem dX4_startHold_10 : decode cX4_startHold 10 = .ok (.aload_n 0, 1) := by decide +kernel
theorem dX4_startHold_11 : decode cX4_startHold 11 = .ok (.iload_n 2, 1) := by decide +kernel
theorem dX4_startHold_12 : decode cX4_startHold 12 = .ok (.putfield 15, 3) := by decide +kernel
theorem dX4_startHold_15 : decode cX4_startHold 15 = .ok (.return_, 1) := by decide +kernel
theorem dX4_endHold_0 : decode cX4_endHold 0 = .ok (.aload_n 0, 1) := by decide +kernel
theorem dX4_endHold_1 : decode cX4_endHold 1 = .ok (.iload_n 1, 1) := by decide +kernel
theorem dX4_endHold_2 : decode cX4_endHold 2 = .ok (.putfield 30, 3) := by decide +kernel
theorem dX4_endHold_5 : decode cX4_endHold 5 = .ok (.aload_n 0, 1) := by decide +kernel
theorem dX4_endHold_6 : decode cX4_endHold 6 = .ok (.iconst (-1), 1) := by decide +kernel
theorem dX4_endHold_7 : decode cX4_endHold 7 = .ok (.putfield 9, 3) := by decide +kernel
theorem dX4_endHold_10 : decode cX4_endHold 10 = .ok (.aload_n 0, 1) := by decide +kernel
theorem dX4_endHold_11 : decode cX4_endHold 11 = .ok (.iconst (-1), 1) := by decide +kernel
theorem dX4_endHold_12 : decode cX4_endHold 12 = .ok (.putfield 15, 3) := by decide +kernel
theorem dX4_endHold_15 : decode cX4_endHold 15 = .ok (.return_, 1) := by decide +kernel
theorem dX5_init_0 : decode cX5_init 0 = .ok (.aload_n 0, 1) := by decide +kernel
theorem dX5_init_1 : decode cX5_init 1 = .ok (.invokespecial 3, 3) := by decide +kernel
theorem dX5_init_4 : decode cX5_init 4 = .ok (.aload_n 0, 1) := by decide +kernel
theorem dX5_init_5 : decode cX5_init 5 = .ok (.bipush 24, 2) := by decide +kernel
theorem dX5_init_7 : decode cX5_init 7 = .ok (.anewarray 9, 3) := by decide +kernel
theorem dX5_init_10 : decode cX5_init 10 = .ok (.putfield 11, 3) := by decide +kernel
theorem dX5_init_13 : decode cX5_init 13 = .ok (.aload_n 0, 1) := by decide +kernel
theorem dX5_init_14 : decode cX5_init 14 = .ok (.iconst 4, 1) := by decide +kernel
theorem dX5_init_15 : decode cX5_init 15 = .ok (.anewarray 17, 3) := by decide +kernel
theorem dX5_init_18 : decode cX5_init 18 = .ok (.putfield 19, 3) := by decide +kernel
theorem dX5_init_21 : decode cX5_init 21 = .ok (.aload_n 0, 1) := by decide +kernel
theorem dX5_init_22 : decode cX5_init 22 = .ok (.iconst 4, 1) := by decide +kernel
theorem dX5_init_23 : decode cX5_init 23 = .ok (.newarray .int, 2) := by decide +kernel
theorem dX5_init_25 : decode cX5_init 25 = .ok (.dup, 1) := by decide +kernel
theorem dX5_init_26 : decode cX5_init 26 = .ok (.iconst 0, 1) := by decide +kernel
theorem dX5_init_27 : decode cX5_init 27 = .ok (.iconst 5, 1) := by decide +kernel
theorem dX5_init_28 : decode cX5_init 28 = .ok (.iastore, 1) := by decide +kernel
theorem dX5_init_29 : decode cX5_init 29 = .ok (.dup, 1) := by decide +kernel
theorem dX5_init_30 : decode cX5_init 30 = .ok (.iconst 1, 1) := by decide +kernel
theorem dX5_init_31 : decode cX5_init 31 = .ok (.iconst 3, 1) := by decide +kernel
theorem dX5_init_32 : decode cX5_init 32 = .ok (.iastore, 1) := by decide +kernel
theorem dX5_init_33 : decode cX5_init 33 = .ok (.dup, 1) := by decide +kernel
theorem dX5_init_34 : decode cX5_init 34 = .ok (.iconst 2, 1) := by decide +kernel
theorem dX5_init_35 : decode cX5_init 35 = .ok (.iconst 0, 1) := by decide +kernel
theorem dX5_init_36 : decode cX5_init 36 = .ok (.iastore, 1) := by decide +kernel
theorem dX5_init_37 : decode cX5_init 37 = .ok (.dup, 1) := by decide +kernel
theorem dX5_init_38 : decode cX5_init 38 = .ok (.iconst 3, 1) := by decide +kernel
theorem dX5_init_39 : decode cX5_init 39 = .ok (.iconst 4, 1) := by decide +kernel
theorem dX5_init_40 : decode cX5_init 40 = .ok (.iastore, 1) := by decide +kernel
theorem dX5_init_41 : decode cX5_init 41 = .ok (.putfield 23, 3) := by decide +kernel
theorem dX5_init_44 : decode cX5_init 44 = .ok (.iconst 0, 1) := by decide +kernel
theorem dX5_init_45 : decode cX5_init 45 = .ok (.istore_n 1, 1) := by decide +kernel
theorem dX5_init_46 : decode cX5_init 46 = .ok (.iload_n 1, 1) := by decide +kernel
theorem dX5_init_47 : decode cX5_init 47 = .ok (.bipush 24, 2) := by decide +kernel
theorem dX5_init_49 : decode cX5_init 49 = .ok (.if_icmp .ge 22, 3) := by decide +kernel
theorem dX5_init_52 : decode cX5_init 52 = .ok (.aload_n 0, 1) := by decide +kernel
theorem dX5_init_53 : decode cX5_init 53 = .ok (.getfield 11, 3) := by decide +kernel
theorem dX5_init_56 : decode cX5_init 56 = .ok (.iload_n 1, 1) := by decide +kernel
theorem dX5_init_57 : decode cX5_init 57 = .ok (.new 9, 3) := by decide +kernel
theorem dX5_init_60 : decode cX5_init 60 = .ok (.dup, 1) := by decide +kernel
theorem dX5_init_61 : decode cX5_init 61 = .ok (.invokespecial 27, 3) := by decide +kernel
theorem dX5_init_64 : decode cX5_init 64 = .ok (.aastore, 1) := by decide +kernel
theorem dX5_init_65 : decode cX5_init 65 = .ok (.iinc 1 1, 3) := by decide +kernel
theorem dX5_init_68 : decode cX5_init 68 = .ok (.goto (-22), 3) := by decide +kernel
theorem dX5_init_71 : decode cX5_init 71 = .ok (.iconst 0, 1) := by decide +kernel
theorem dX5_init_72 : decode cX5_init 72 = .ok (.istore_n 1, 1) := by decide +kernel
theorem dX5_init_73 : decode cX5_init 73 = .ok (.iload_n 1, 1) := by decide +kernel
theorem dX5_init_74 : decode cX5_init 74 = .ok (.iconst 4, 1) := by decide +kernel
theorem dX5_init_75 : decode cX5_init 75 = .ok (.if_icmp .ge 22, 3) := by decide +kernel
theorem dX5_init_78 : decode cX5_init 78 = .ok (.aload_n 0, 1) := by decide +kernel
theorem dX5_init_79 : decode cX5_init 79 = .ok (.getfield 19, 3) := by decide +kernel
theorem dX5_init_82 : decode cX5_init 82 = .ok (.iload_n 1, 1) := by decide +kernel
theorem dX5_init_83 : decode cX5_init 83 = .ok (.new 17, 3) := by decide +kernel
theorem dX5_init_86 : decode cX5_init 86 = .ok (.dup, 1) := by decide +kernel
theorem dX5_init_87 : decode cX5_init 87 = .ok (.invokespecial 28, 3) := by decide +kernel
theorem dX5_init_90 : decode cX5_init 90 = .ok (.aastore, 1) := by decide +kernel
theorem dX5_init_91 : decode cX5_init 91 = .ok (.iinc 1 1, 3) := by decide +kernel
theorem dX5_init_94 : decode cX5_init 94 = .ok (.goto (-21), 3) := by decide +kernel
theorem dX5_init_97 : decode cX5_init 97 = .ok (.return_, 1) := by decide +kernel
theorem dX5_copyFrom_0 : decode cX5_copyFrom 0 = .ok (.iconst 0, 1) := by decide +kernel
theorem dX5_copyFrom_1 : decode cX5_copyFrom 1 = .ok (.istore_n 2, 1) := by decide +kernel
theorem dX5_copyFrom_2 : decode cX5_copyFrom 2 = .ok (.iload_n 2, 1) := by decide +kernel
theorem dX5_copyFrom_3 : decode cX5_copyFrom 3 = .ok (.aload_n 1, 1) := by decide +kernel
theorem dX5_copyFrom_4 : decode cX5_copyFrom 4 = .ok (.getfield 29, 3) := by decide +kernel
theorem dX5_copyFrom_7 : decode cX5_copyFrom 7 = .ok (.if_icmp .ge 24, 3) := by decide +kernel
theorem dX5_copyFrom_10 : decode cX5_copyFrom 10 = .ok (.aload_n 0, 1) := by decide +kernel
theorem dX5_copyFrom_11 : decode cX5_copyFrom 11 = .ok (.getfield 11, 3) := by decide +kernel
theorem dX5_copyFrom_14 : decode cX5_copyFrom 14 = .ok (.iload_n 2, 1) := by decide +kernel
theorem dX5_copyFrom_15 : decode cX5_copyFrom 15 = .ok (.aaload, 1) := by decide +kernel
theorem dX5_copyFrom_16 : decode cX5_copyFrom 16 = .ok (.aload_n 1, 1) := by decide +kernel
theorem dX5_copyFrom_17 : decode cX5_copyFrom 17 = .ok (.getfield 11, 3) := by decide +kernel
theorem dX5_copyFrom_20 : decode cX5_copyFrom 20 = .ok (.iload_n 2, 1) := by decide +kernel
theorem dX5_copyFrom_21 : decode cX5_copyFrom 21 = .ok (.aaload, 1) := by decide +kernel
theorem dX5_copyFrom_22 : decode cX5_copyFrom 22 = .ok (.invokevirtual 33, 3) := by decide +kernel
theorem dX5_copyFrom_25 : decode cX5_copyFrom 25 = .ok (.iinc 2 1, 3) := by decide +kernel
theorem dX5_copyFrom_28 : decode cX5_copyFrom 28 = .ok (.goto (-26), 3) := by decide +kernel
theorem dX5_copyFrom_31 : decode cX5_copyFrom 31 = .ok (.iconst 0, 1) := by decide +kernel
theorem dX5_copyFrom_32 : decode cX5_copyFrom 32 = .ok (.istore_n 2, 1) := by decide +kernel
theorem dX5_copyFrom_33 : decode cX5_copyFrom 33 = .ok (.iload_n 2, 1) := by decide +kernel
theorem dX5_copyFrom_34 : decode cX5_copyFrom 34 = .ok (.iconst 4, 1) := by decide +kernel
theorem dX5_copyFrom_35 : decode cX5_copyFrom 35 = .ok (.if_icmp .ge 24, 3) := by decide +kernel
theorem dX5_copyFrom_38 : decode cX5_copyFrom 38 = .ok (.aload_n 0, 1) := by decide +kernel
theorem dX5_copyFrom_39 : decode cX5_copyFrom 39 = .ok (.getfield 19, 3) := by decide +kernel
theorem dX5_copyFrom_42 : decode cX5_copyFrom 42 = .ok (.iload_n 2, 1) := by decide +kernel
theorem dX5_copyFrom_43 : decode cX5_copyFrom 43 = .ok (.aaload, 1) := by decide +kernel
theorem dX5_copyFrom_44 : decode cX5_copyFrom 44 = .ok (.aload_n 1, 1) := by decide +kernel
theorem dX5_copyFrom_45 : decode cX5_copyFrom 45 = .ok (.getfield 19, 3) := by decide +kernel
theorem dX5_copyFrom_48 : decode cX5_copyFrom 48 = .ok (.iload_n 2, 1) := by decide +kernel
theorem dX5_copyFrom_49 : decode cX5_copyFrom 49 = .ok (.aaload, 1) := by decide +kernel
theorem dX5_copyFrom_50 : decode cX5_copyFrom 50 = .ok (.invokevirtual 37, 3) := by decide +kernel
theorem dX5_copyFrom_53 : decode cX5_copyFrom 53 = .ok (.iinc 2 1, 3) := by decide +kernel
theorem dX5_copyFrom_56 : decode cX5_copyFrom 56 = .ok (.goto (-23), 3) := by decide +kernel
theorem dX5_copyFrom_59 : decode cX5_copyFrom 59 = .ok (.iconst 0, 1) := by decide +kernel
theorem dX5_copyFrom_60 : decode cX5_copyFrom 60 = .ok (.istore_n 2, 1) := by decide +kernel
theorem dX5_copyFrom_61 : decode cX5_copyFrom 61 = .ok (.iload_n 2, 1) := by decide +kernel
theorem dX5_copyFrom_62 : decode cX5_copyFrom 62 = .ok (.iconst 4, 1) := by decide +kernel
theorem dX5_copyFrom_63 : decode cX5_copyFrom 63 = .ok (.if_icmp .ge 21, 3) := by decide +kernel
theorem dX5_copyFrom_66 : decode cX5_copyFrom 66 = .ok (.aload_n 0, 1) := by decide +kernel
theorem dX5_copyFrom_67 : decode cX5_copyFrom 67 = .ok (.getfield 23, 3) := by decide +kernel
theorem dX5_copyFrom_70 : decode cX5_copyFrom 70 = .ok (.iload_n 2, 1) := by decide +kernel
theorem dX5_copyFrom_71 : decode cX5_copyFrom 71 = .ok (.aload_n 1, 1) := by decide +kernel
theorem dX5_copyFrom_72 : decode cX5_copyFrom 72 = .ok (.getfield 23, 3) := by decide +kernel
theorem dX5_copyFrom_75 : decode cX5_copyFrom 75 = .ok (.iload_n 2, 1) := by decide +kernel
theorem dX5_copyFrom_76 : decode cX5_copyFrom 76 = .ok (.iaload, 1) := by decide +kernel
theorem dX5_copyFrom_77 : decode cX5_copyFrom 77 = .ok (.iastore, 1) := by decide +kernel
theorem dX5_copyFrom_78 : decode cX5_copyFrom 78 = .ok (.iinc 2 1, 3) := by decide +kernel
theorem dX5_copyFrom_81 : decode cX5_copyFrom 81 = .ok (.goto (-20), 3) := by decide +kernel
theorem dX5_copyFrom_84 : decode cX5_copyFrom 84 = .ok (.aload_n 0, 1) := by decide +kernel
theorem dX5_copyFrom_85 : decode cX5_copyFrom 85 = .ok (.aload_n 1, 1) := by decide +kernel
theorem dX5_copyFrom_86 : decode cX5_copyFrom 86 = .ok (.getfield 29, 3) := by decide +kernel
theorem dX5_copyFrom_89 : decode cX5_copyFrom 89 = .ok (.putfield 29, 3) := by decide +kernel
theorem dX5_copyFrom_92 : decode cX5_copyFrom 92 = .ok (.aload_n 0, 1) := by decide +kernel
theorem dX5_copyFrom_93 : decode cX5_copyFrom 93 = .ok (.aload_n 1, 1) := by decide +kernel
theorem dX5_copyFrom_94 : decode cX5_copyFrom 94 = .ok (.getfield 40, 3) := by decide +kernel
theorem dX5_copyFrom_97 : decode cX5_copyFrom 97 = .ok (.putfield 40, 3) := by decide +kernel
theorem dX5_copyFrom_100 : decode cX5_copyFrom 100 = .ok (.aload_n 0, 1) := by decide +kernel
theorem dX5_copyFrom_101 : decode cX5_copyFrom 101 = .ok (.aload_n 1, 1) := by decide +kernel
theorem dX5_copyFrom_102 : decode cX5_copyFrom 102 = .ok (.getfield 43, 3) := by decide +kernel
theorem dX5_copyFrom_105 : decode cX5_copyFrom 105 = .ok (.putfield 43, 3) := by decide +kernel
theorem dX5_copyFrom_108 : decode cX5_copyFrom 108 = .ok (.aload_n 0, 1) := by decide +kernel
theorem dX5_copyFrom_109 : decode cX5_copyFrom 109 = .ok (.aload_n 1, 1) := by decide +kernel
theorem dX5_copyFrom_110 : decode cX5_copyFrom 110 = .ok (.getfield 46, 3) := by decide +kernel
theorem dX5_copyFrom_113 : decode cX5_copyFrom 113 = .ok (.putfield 46, 3) := by decide +kernel
theorem dX5_copyFrom_116 : decode cX5_copyFrom 116 = .ok (.aload_n 0, 1) := by decide +kernel
theorem dX5_copyFrom_117 : decode cX5_copyFrom 117 = .ok (.aload_n 1, 1) := by decide +kernel
theorem dX5_copyFrom_118 : decode cX5_copyFrom 118 = .ok (.getfield 49, 3) := by decide +kernel
theorem dX5_copyFrom_121 : decode cX5_copyFrom 121 = .ok (.putfield 49, 3) := by decide +kernel
theorem dX5_copyFrom_124 : decode cX5_copyFrom 124 = .ok (.return_, 1) := by decide +kernel
theorem dX5_addRow_0 : decode cX5_addRow 0 = .ok (.aload_n 0, 1) := by decide +kernel
theorem dX5_addRow_1 : decode cX5_addRow 1 = .ok (.getfield 29, 3) := by decide +kernel
theorem dX5_addRow_4 : decode cX5_addRow 4 = .ok (.bipush 24, 2) := by decide +kernel
theorem dX5_addRow_6 : decode cX5_addRow 6 = .ok (.if_icmp .ge 45, 3) := by decide +kernel
theorem dX5_addRow_9 : decode cX5_addRow 9 = .ok (.aload_n 0, 1) := by decide +kernel
theorem dX5_addRow_10 : decode cX5_addRow 10 = .ok (.getfield 11, 3) := by decide +kernel
theorem dX5_addRow_13 : decode cX5_addRow 13 = .ok (.aload_n 0, 1) := by decide +kernel
theorem dX5_addRow_14 : decode cX5_addRow 14 = .ok (.getfield 29, 3) := by decide +kernel
theorem dX5_addRow_17 : decode cX5_addRow 17 = .ok (.aaload, 1) := by decide +kernel
theorem dX5_addRow_18 : decode cX5_addRow 18 = .ok (.iload_n 1, 1) := by decide +kernel
theorem dX5_addRow_19 : decode cX5_addRow 19 = .ok (.iload_n 2, 1) := by decide +kernel
theorem dX5_addRow_20 : decode cX5_addRow 20 = .ok (.aload_n 0, 1) := by decide +kernel
theorem dX5_addRow_21 : decode cX5_addRow 21 = .ok (.getfield 43, 3) := by decide +kernel
theorem dX5_addRow_24 : decode cX5_addRow 24 = .ok (.aload_n 0, 1) := by decide +kernel
theorem dX5_addRow_25 : decode cX5_addRow 25 = .ok (.getfield 40, 3) := by decide +kernel
theorem dX5_addRow_28 : decode cX5_addRow 28 = .ok (.invokevirtual 52, 3) := by decide +kernel
theorem dX5_addRow_31 : decode cX5_addRow 31 = .ok (.aload_n 0, 1) := by decide +kernel
theorem dX5_addRow_32 : decode cX5_addRow 32 = .ok (.dup, 1) := by decide +kernel
theorem dX5_addRow_33 : decode cX5_addRow 33 = .ok (.getfield 29, 3) := by decide +kernel
theorem dX5_addRow_36 : decode cX5_addRow 36 = .ok (.iconst 1, 1) := by decide +kernel
theorem dX5_addRow_37 : decode cX5_addRow 37 = .ok (.iadd, 1) := by decide +kernel
theorem dX5_addRow_38 : decode cX5_addRow 38 = .ok (.putfield 29, 3) := by decide +kernel
theorem dX5_addRow_41 : decode cX5_addRow 41 = .ok (.aload_n 0, 1) := by decide +kernel
theorem dX5_addRow_42 : decode cX5_addRow 42 = .ok (.dup, 1) := by decide +kernel
theorem dX5_addRow_43 : decode cX5_addRow 43 = .ok (.getfield 43, 3) := by decide +kernel
theorem dX5_addRow_46 : decode cX5_addRow 46 = .ok (.iconst 1, 1) := by decide +kernel
theorem dX5_addRow_47 : decode cX5_addRow 47 = .ok (.iadd, 1) := by decide +kernel
theorem dX5_addRow_48 : decode cX5_addRow 48 = .ok (.putfield 43, 3) := by decide +kernel
theorem dX5_addRow_51 : decode cX5_addRow 51 = .ok (.return_, 1) := by decide +kernel
theorem dX5_dropDoneRows_0 : decode cX5_dropDoneRows 0 = .ok (.iconst 0, 1) := by decide +kernel
theorem dX5_dropDoneRows_1 : decode cX5_dropDoneRows 1 = .ok (.istore_n 1, 1) := by decide +kernel
theorem dX5_dropDoneRows_2 : decode cX5_dropDoneRows 2 = .ok (.iconst 0, 1) := by decide +kernel
theorem dX5_dropDoneRows_3 : decode cX5_dropDoneRows 3 = .ok (.istore_n 2, 1) := by decide +kernel
theorem dX5_dropDoneRows_4 : decode cX5_dropDoneRows 4 = .ok (.iload_n 2, 1) := by decide +kernel
theorem dX5_dropDoneRows_5 : decode cX5_dropDoneRows 5 = .ok (.aload_n 0, 1) := by decide +kernel
theorem dX5_dropDoneRows_6 : decode cX5_dropDoneRows 6 = .ok (.getfield 29, 3) := by decide +kernel
theorem dX5_dropDoneRows_9 : decode cX5_dropDoneRows 9 = .ok (.if_icmp .ge 40, 3) := by decide +kernel
theorem dX5_dropDoneRows_12 : decode cX5_dropDoneRows 12 = .ok (.aload_n 0, 1) := by decide +kernel
theorem dX5_dropDoneRows_13 : decode cX5_dropDoneRows 13 = .ok (.getfield 11, 3) := by decide +kernel
theorem dX5_dropDoneRows_16 : decode cX5_dropDoneRows 16 = .ok (.iload_n 2, 1) := by decide +kernel
theorem dX5_dropDoneRows_17 : decode cX5_dropDoneRows 17 = .ok (.aaload, 1) := by decide +kernel
theorem dX5_dropDoneRows_18 : decode cX5_dropDoneRows 18 = .ok (.getfield 56, 3) := by decide +kernel
theorem dX5_dropDoneRows_21 : decode cX5_dropDoneRows 21 = .ok (.iconst 2, 1) := by decide +kernel
theorem dX5_dropDoneRows_22 : decode cX5_dropDoneRows 22 = .ok (.if_icmp .eq 21, 3) := by decide +kernel
theorem dX5_dropDoneRows_25 : decode cX5_dropDoneRows 25 = .ok (.aload_n 0, 1) := by decide +kernel
theorem dX5_dropDoneRows_26 : decode cX5_dropDoneRows 26 = .ok (.getfield 11, 3) := by decide +kernel
theorem dX5_dropDoneRows_29 : decode cX5_dropDoneRows 29 = .ok (.iload_n 1, 1) := by decide +kernel
theorem dX5_dropDoneRows_30 : decode cX5_dropDoneRows 30 = .ok (.aaload, 1) := by decide +kernel
theorem dX5_dropDoneRows_31 : decode cX5_dropDoneRows 31 = .ok (.aload_n 0, 1) := by decide +kernel
theorem dX5_dropDoneRows_32 : decode cX5_dropDoneRows 32 = .ok (.getfield 11, 3) := by decide +kernel
theorem dX5_dropDoneRows_35 : decode cX5_dropDoneRows 35 = .ok (.iload_n 2, 1) := by decide +kernel
theorem dX5_dropDoneRows_36 : decode cX5_dropDoneRows 36 = .ok (.aaload, 1) := by decide +kernel
theorem dX5_dropDoneRows_37 : decode cX5_dropDoneRows 37 = .ok (.invokevirtual 33, 3) := by decide +kernel
theorem dX5_dropDoneRows_40 : decode cX5_dropDoneRows 40 = .ok (.iinc 1 1, 3) := by decide +kernel
theorem dX5_dropDoneRows_43 : decode cX5_dropDoneRows 43 = .ok (.iinc 2 1, 3) := by decide +kernel
theorem dX5_dropDoneRows_46 : decode cX5_dropDoneRows 46 = .ok (.goto (-42), 3) := by decide +kernel
theorem dX5_dropDoneRows_49 : decode cX5_dropDoneRows 49 = .ok (.aload_n 0, 1) := by decide +kernel
theorem dX5_dropDoneRows_50 : decode cX5_dropDoneRows 50 = .ok (.getfield 29, 3) := by decide +kernel
theorem dX5_dropDoneRows_53 : decode cX5_dropDoneRows 53 = .ok (.iload_n 1, 1) := by decide +kernel
theorem dX5_dropDoneRows_54 : decode cX5_dropDoneRows 54 = .ok (.isub, 1) := by decide +kernel
theorem dX5_dropDoneRows_55 : decode cX5_dropDoneRows 55 = .ok (.istore_n 2, 1) := by decide +kernel
theorem dX5_dropDoneRows_56 : decode cX5_dropDoneRows 56 = .ok (.aload_n 0, 1) := by decide +kernel
theorem dX5_dropDoneRows_57 : decode cX5_dropDoneRows 57 = .ok (.iload_n 1, 1) := by decide +kernel
theorem dX5_dropDoneRows_58 : decode cX5_dropDoneRows 58 = .ok (.putfield 29, 3) := by decide +kernel
theorem dX5_dropDoneRows_61 : decode cX5_dropDoneRows 61 = .ok (.iload_n 2, 1) := by decide +kernel
theorem dX5_dropDoneRows_62 : decode cX5_dropDoneRows 62 = .ok (.ireturn, 1) := by decide +kernel
theorem dX5_isBlocked_0 : decode cX5_isBlocked 0 = .ok (.aload_n 0, 1) := by decide +kernel
theorem dX5_isBlocked_1 : decode cX5_isBlocked 1 = .ok (.getfield 23, 3) := by decide +kernel
theorem dX5_isBlocked_4 : decode cX5_isBlocked 4 = .ok (.iconst 2, 1) := by decide +kernel
theorem dX5_isBlocked_5 : decode cX5_isBlocked 5 = .ok (.iaload, 1) := by decide +kernel
theorem dX5_isBlocked_6 : decode cX5_isBlocked 6 = .ok (.iconst 1, 1) := by decide +kernel
theorem dX5_isBlocked_7 : decode cX5_isBlocked 7 = .ok (.if_icmp .eq 5, 3) := by decide +kernel
theorem dX5_isBlocked_10 : decode cX5_isBlocked 10 = .ok (.iconst 0, 1) := by decide +kernel
theorem dX5_isBlocked_11 : decode cX5_isBlocked 11 = .ok (.ireturn, 1) := by decide +kernel
theorem dX5_isBlocked_12 : decode cX5_isBlocked 12 = .ok (.iconst 0, 1) := by decide +kernel
theorem dX5_isBlocked_13 : decode cX5_isBlocked 13 = .ok (.istore_n 2, 1) := by decide +kernel
theorem dX5_isBlocked_14 : decode cX5_isBlocked 14 = .ok (.iload_n 2, 1) := by decide +kernel
theorem dX5_isBlocked_15 : decode cX5_isBlocked 15 = .ok (.iload_n 1, 1) := by decide +kernel
theorem dX5_isBlocked_16 : decode cX5_isBlocked 16 = .ok (.if_icmp .ge 44, 3) := by decide +kernel
theorem dX5_isBlocked_19 : decode cX5_isBlocked 19 = .ok (.aload_n 0, 1) := by decide +kernel
theorem dX5_isBlocked_20 : decode cX5_isBlocked 20 = .ok (.getfield 11, 3) := by decide +kernel
theorem dX5_isBlocked_23 : decode cX5_isBlocked 23 = .ok (.iload_n 2, 1) := by decide +kernel
theorem dX5_isBlocked_24 : decode cX5_isBlocked 24 = .ok (.aaload, 1) := by decide +kernel
theorem dX5_isBlocked_25 : decode cX5_isBlocked 25 = .ok (.getfield 59, 3) := by decide +kernel
theorem dX5_isBlocked_28 : decode cX5_isBlocked 28 = .ok (.aload_n 0, 1) := by decide +kernel
theorem dX5_isBlocked_29 : decode cX5_isBlocked 29 = .ok (.getfield 11, 3) := by decide +kernel
theorem dX5_isBlocked_32 : decode cX5_isBlocked 32 = .ok (.iload_n 1, 1) := by decide +kernel
theorem dX5_isBlocked_33 : decode cX5_isBlocked 33 = .ok (.aaload, 1) := by decide +kernel
theorem dX5_isBlocked_34 : decode cX5_isBlocked 34 = .ok (.getfield 59, 3) := by decide +kernel
theorem dX5_isBlocked_37 : decode cX5_isBlocked 37 = .ok (.if_icmp .ne 17, 3) := by decide +kernel
theorem dX5_isBlocked_40 : decode cX5_isBlocked 40 = .ok (.aload_n 0, 1) := by decide +kernel
theorem dX5_isBlocked_41 : decode cX5_isBlocked 41 = .ok (.getfield 11, 3) := by decide +kernel
theorem dX5_isBlocked_44 : decode cX5_isBlocked 44 = .ok (.iload_n 2, 1) := by decide +kernel
theorem dX5_isBlocked_45 : decode cX5_isBlocked 45 = .ok (.aaload, 1) := by decide +kernel
theorem dX5_isBlocked_46 : decode cX5_isBlocked 46 = .ok (.invokevirtual 62, 3) := by decide +kernel
theorem dX5_isBlocked_49 : decode cX5_isBlocked 49 = .ok (.ifCond .eq 5, 3) := by decide +kernel
theorem dX5_isBlocked_52 : decode cX5_isBlocked 52 = .ok (.iconst 1, 1) := by decide +kernel
theorem dX5_isBlocked_53 : decode cX5_isBlocked 53 = .ok (.ireturn, 1) := by decide +kernel
theorem dX5_isBlocked_54 : decode cX5_isBlocked 54 = .ok (.iinc 2 1, 3) := by decide +kernel
theorem dX5_isBlocked_57 : decode cX5_isBlocked 57 = .ok (.goto (-43), 3) := by decide +kernel
theorem dX5_isBlocked_60 : decode cX5_isBlocked 60 = .ok (.iconst 0, 1) := by decide +kernel
theorem dX5_isBlocked_61 : decode cX5_isBlocked 61 = .ok (.ireturn, 1) := by decide +kernel
theorem dX5_canTake_0 : decode cX5_canTake 0 = .ok (.aload_n 0, 1) := by decide +kernel
theorem dX5_canTake_1 : decode cX5_canTake 1 = .ok (.getfield 11, 3) := by decide +kernel
theorem dX5_canTake_4 : decode cX5_canTake 4 = .ok (.iload_n 2, 1) := by decide +kernel
theorem dX5_canTake_5 : decode cX5_canTake 5 = .ok (.aaload, 1) := by decide +kernel
theorem dX5_canTake_6 : decode cX5_canTake 6 = .ok (.getfield 56, 3) := by decide +kernel
theorem dX5_canTake_9 : decode cX5_canTake 9 = .ok (.ifCond .ne 36, 3) := by decide +kernel
theorem dX5_canTake_12 : decode cX5_canTake 12 = .ok (.aload_n 0, 1) := by decide +kernel
theorem dX5_canTake_13 : decode cX5_canTake 13 = .ok (.getfield 19, 3) := by decide +kernel
theorem dX5_canTake_16 : decode cX5_canTake 16 = .ok (.iload_n 1, 1) := by decide +kernel
theorem dX5_canTake_17 : decode cX5_canTake 17 = .ok (.aaload, 1) := by decide +kernel
theorem dX5_canTake_18 : decode cX5_canTake 18 = .ok (.aload_n 0, 1) := by decide +kernel
theorem dX5_canTake_19 : decode cX5_canTake 19 = .ok (.getfield 11, 3) := by decide +kernel
theorem dX5_canTake_22 : decode cX5_canTake 22 = .ok (.iload_n 2, 1) := by decide +kernel
theorem dX5_canTake_23 : decode cX5_canTake 23 = .ok (.aaload, 1) := by decide +kernel
theorem dX5_canTake_24 : decode cX5_canTake 24 = .ok (.getfield 59, 3) := by decide +kernel
theorem dX5_canTake_27 : decode cX5_canTake 27 = .ok (.invokevirtual 66, 3) := by decide +kernel
theorem dX5_canTake_30 : decode cX5_canTake 30 = .ok (.ifCond .eq 15, 3) := by decide +kernel
theorem dX5_canTake_33 : decode cX5_canTake 33 = .ok (.aload_n 0, 1) := by decide +kernel
theorem dX5_canTake_34 : decode cX5_canTake 34 = .ok (.iload_n 2, 1) := by decide +kernel
theorem dX5_canTake_35 : decode cX5_canTake 35 = .ok (.invokevirtual 70, 3) := by decide +kernel
theorem dX5_canTake_38 : decode cX5_canTake 38 = .ok (.ifCond .ne 7, 3) := by decide +kernel
theorem dX5_canTake_41 : decode cX5_canTake 41 = .ok (.iconst 1, 1) := by decide +kernel
theorem dX5_canTake_42 : decode cX5_canTake 42 = .ok (.goto 4, 3) := by decide +kernel
theorem dX5_canTake_45 : decode cX5_canTake 45 = .ok (.iconst 0, 1) := by decide +kernel
theorem dX5_canTake_46 : decode cX5_canTake 46 = .ok (.ireturn, 1) := by decide +kernel
theorem dX5_holdAndSkip_0 : decode cX5_holdAndSkip 0 = .ok (.iconst 0, 1) := by decide +kernel
theorem dX5_holdAndSkip_1 : decode cX5_holdAndSkip 1 = .ok (.istore_n 3, 1) := by decide +kernel
theorem dX5_holdAndSkip_2 : decode cX5_holdAndSkip 2 = .ok (.iload_n 3, 1) := by decide +kernel
theorem dX5_holdAndSkip_3 : decode cX5_holdAndSkip 3 = .ok (.aload_n 0, 1) := by decide +kernel
theorem dX5_holdAndSkip_4 : decode cX5_holdAndSkip 4 = .ok (.getfield 29, 3) := by decide +kernel
theorem dX5_holdAndSkip_7 : decode cX5_holdAndSkip 7 = .ok (.if_icmp .ge 74, 3) := by decide +kernel
theorem dX5_holdAndSkip_10 : decode cX5_holdAndSkip 10 = .ok (.aload_n 2, 1) := by decide +kernel
theorem dX5_holdAndSkip_11 : decode cX5_holdAndSkip 11 = .ok (.iload_n 3, 1) := by decide +kernel
theorem dX5_holdAndSkip_12 : decode cX5_holdAndSkip 12 = .ok (.invokevirtual 73, 3) := by decide +kernel
theorem dX5_holdAndSkip_15 : decode cX5_holdAndSkip 15 = .ok (.ifCond .eq 27, 3) := by decide +kernel
theorem dX5_holdAndSkip_18 : decode cX5_holdAndSkip 18 = .ok (.aload_n 0, 1) := by decide +kernel
theorem dX5_holdAndSkip_19 : decode cX5_holdAndSkip 19 = .ok (.getfield 11, 3) := by decide +kernel
theorem dX5_holdAndSkip_22 : decode cX5_holdAndSkip 22 = .ok (.iload_n 3, 1) := by decide +kernel
theorem dX5_holdAndSkip_23 : decode cX5_holdAndSkip 23 = .ok (.aaload, 1) := by decide +kernel
theorem dX5_holdAndSkip_24 : decode cX5_holdAndSkip 24 = .ok (.iload_n 1, 1) := by decide +kernel
theorem dX5_holdAndSkip_25 : decode cX5_holdAndSkip 25 = .ok (.aload_n 0, 1) := by decide +kernel
theorem dX5_holdAndSkip_26 : decode cX5_holdAndSkip 26 = .ok (.getfield 40, 3) := by decide +kernel
theorem dX5_holdAndSkip_29 : decode cX5_holdAndSkip 29 = .ok (.aload_n 0, 1) := by decide +kernel
theorem dX5_holdAndSkip_30 : decode cX5_holdAndSkip 30 = .ok (.getfield 23, 3) := by decide +kernel
theorem dX5_holdAndSkip_33 : decode cX5_holdAndSkip 33 = .ok (.iconst 0, 1) := by decide +kernel
theorem dX5_holdAndSkip_34 : decode cX5_holdAndSkip 34 = .ok (.iaload, 1) := by decide +kernel
theorem dX5_holdAndSkip_35 : decode cX5_holdAndSkip 35 = .ok (.iadd, 1) := by decide +kernel
theorem dX5_holdAndSkip_36 : decode cX5_holdAndSkip 36 = .ok (.invokevirtual 78, 3) := by decide +kernel
theorem dX5_holdAndSkip_39 : decode cX5_holdAndSkip 39 = .ok (.goto 36, 3) := by decide +kernel
theorem dX5_holdAndSkip_42 : decode cX5_holdAndSkip 42 = .ok (.aload_n 2, 1) := by decide +kernel
theorem dX5_holdAndSkip_43 : decode cX5_holdAndSkip 43 = .ok (.iload_n 3, 1) := by decide +kernel
theorem dX5_holdAndSkip_44 : decode cX5_holdAndSkip 44 = .ok (.invokevirtual 82, 3) := by decide +kernel
theorem dX5_holdAndSkip_47 : decode cX5_holdAndSkip 47 = .ok (.ifCond .eq 28, 3) := by decide +kernel
theorem dX5_holdAndSkip_50 : decode cX5_holdAndSkip 50 = .ok (.aload_n 0, 1) := by decide +kernel
theorem dX5_holdAndSkip_51 : decode cX5_holdAndSkip 51 = .ok (.getfield 11, 3) := by decide +kernel
theorem dX5_holdAndSkip_54 : decode cX5_holdAndSkip 54 = .ok (.iload_n 3, 1) := by decide +kernel
theorem dX5_holdAndSkip_55 : decode cX5_holdAndSkip 55 = .ok (.aaload, 1) := by decide +kernel
theorem dX5_holdAndSkip_56 : decode cX5_holdAndSkip 56 = .ok (.dup, 1) := by decide +kernel
theorem dX5_holdAndSkip_57 : decode cX5_holdAndSkip 57 = .ok (.getfield 85, 3) := by decide +kernel
theorem dX5_holdAndSkip_60 : decode cX5_holdAndSkip 60 = .ok (.iconst 1, 1) := by decide +kernel
theorem dX5_holdAndSkip_61 : decode cX5_holdAndSkip 61 = .ok (.iadd, 1) := by decide +kernel
theorem dX5_holdAndSkip_62 : decode cX5_holdAndSkip 62 = .ok (.putfield 85, 3) := by decide +kernel
theorem dX5_holdAndSkip_65 : decode cX5_holdAndSkip 65 = .ok (.aload_n 0, 1) := by decide +kernel
theorem dX5_holdAndSkip_66 : decode cX5_holdAndSkip 66 = .ok (.dup, 1) := by decide +kernel
theorem dX5_holdAndSkip_67 : decode cX5_holdAndSkip 67 = .ok (.getfield 49, 3) := by decide +kernel
theorem dX5_holdAndSkip_70 : decode cX5_holdAndSkip 70 = .ok (.iconst 1, 1) := by decide +kernel
theorem dX5_holdAndSkip_71 : decode cX5_holdAndSkip 71 = .ok (.iadd, 1) := by decide +kernel
theorem dX5_holdAndSkip_72 : decode cX5_holdAndSkip 72 = .ok (.putfield 49, 3) := by decide +kernel
theorem dX5_holdAndSkip_75 : decode cX5_holdAndSkip 75 = .ok (.iinc 3 1, 3) := by decide +kernel
theorem dX5_holdAndSkip_78 : decode cX5_holdAndSkip 78 = .ok (.goto (-76), 3) := by decide +kernel
theorem dX5_holdAndSkip_81 : decode cX5_holdAndSkip 81 = .ok (.return_, 1) := by decide +kernel
theorem dX5_holdsOf_0 : decode cX5_holdsOf 0 = .ok (.iconst 0, 1) := by decide +kernel
theorem dX5_holdsOf_1 : decode cX5_holdsOf 1 = .ok (.istore_n 2, 1) := by decide +kernel
theorem dX5_holdsOf_2 : decode cX5_holdsOf 2 = .ok (.iconst 0, 1) := by decide +kernel
theorem dX5_holdsOf_3 : decode cX5_holdsOf 3 = .ok (.istore_n 3, 1) := by decide +kernel
theorem dX5_holdsOf_4 : decode cX5_holdsOf 4 = .ok (.iload_n 3, 1) := by decide +kernel
theorem dX5_holdsOf_5 : decode cX5_holdsOf 5 = .ok (.aload_n 0, 1) := by decide +kernel
theorem dX5_holdsOf_6 : decode cX5_holdsOf 6 = .ok (.getfield 29, 3) := by decide +kernel
theorem dX5_holdsOf_9 : decode cX5_holdsOf 9 = .ok (.if_icmp .ge 25, 3) := by decide +kernel
theorem dX5_holdsOf_12 : decode cX5_holdsOf 12 = .ok (.aload_n 0, 1) := by decide +kernel
theorem dX5_holdsOf_13 : decode cX5_holdsOf 13 = .ok (.getfield 11, 3) := by decide +kernel
theorem dX5_holdsOf_16 : decode cX5_holdsOf 16 = .ok (.iload_n 3, 1) := by decide +kernel
theorem dX5_holdsOf_17 : decode cX5_holdsOf 17 = .ok (.aaload, 1) := by decide +kernel
theorem dX5_holdsOf_18 : decode cX5_holdsOf 18 = .ok (.iload_n 1, 1) := by decide +kernel
theorem dX5_holdsOf_19 : decode cX5_holdsOf 19 = .ok (.invokevirtual 86, 3) := by decide +kernel
theorem dX5_holdsOf_22 : decode cX5_holdsOf 22 = .ok (.ifCond .eq 6, 3) := by decide +kernel
theorem dX5_holdsOf_25 : decode cX5_holdsOf 25 = .ok (.iinc 2 1, 3) := by decide +kernel
theorem dX5_holdsOf_28 : decode cX5_holdsOf 28 = .ok (.iinc 3 1, 3) := by decide +kernel
theorem dX5_holdsOf_31 : decode cX5_holdsOf 31 = .ok (.goto (-27), 3) := by decide +kernel
theorem dX5_holdsOf_34 : decode cX5_holdsOf 34 = .ok (.iload_n 2, 1) := by decide +kernel
theorem dX5_holdsOf_35 : decode cX5_holdsOf 35 = .ok (.ireturn, 1) := by decide +kernel
theorem dX5_prolongHolds_0 : decode cX5_prolongHolds 0 = .ok (.iconst 0, 1) := by decide +kernel
theorem dX5_prolongHolds_1 : decode cX5_prolongHolds 1 = .ok (.istore_n 2, 1) := by decide +kernel
theorem dX5_prolongHolds_2 : decode cX5_prolongHolds 2 = .ok (.iload_n 2, 1) := by decide +kernel
theorem dX5_prolongHolds_3 : decode cX5_prolongHolds 3 = .ok (.aload_n 0, 1) := by decide +kernel
theorem dX5_prolongHolds_4 : decode cX5_prolongHolds 4 = .ok (.getfield 29, 3) := by decide +kernel
theorem dX5_prolongHolds_7 : decode cX5_prolongHolds 7 = .ok (.if_icmp .ge 42, 3) := by decide +kernel
theorem dX5_prolongHolds_10 : decode cX5_prolongHolds 10 = .ok (.aload_n 0, 1) := by decide +kernel
theorem dX5_prolongHolds_11 : decode cX5_prolongHolds 11 = .ok (.getfield 11, 3) := by decide +kernel
theorem dX5_prolongHolds_14 : decode cX5_prolongHolds 14 = .ok (.iload_n 2, 1) := by decide +kernel
theorem dX5_prolongHolds_15 : decode cX5_prolongHolds 15 = .ok (.aaload, 1) := by decide +kernel
theorem dX5_prolongHolds_16 : decode cX5_prolongHolds 16 = .ok (.iload_n 1, 1) := by decide +kernel
theorem dX5_prolongHolds_17 : decode cX5_prolongHolds 17 = .ok (.invokevirtual 86, 3) := by decide +kernel
theorem dX5_prolongHolds_20 : decode cX5_prolongHolds 20 = .ok (.ifCond .eq 23, 3) := by decide +kernel
theorem dX5_prolongHolds_23 : decode cX5_prolongHolds 23 = .ok (.aload_n 0, 1) := by decide +kernel
theorem dX5_prolongHolds_24 : decode cX5_prolongHolds 24 = .ok (.getfield 11, 3) := by decide +kernel
theorem dX5_prolongHolds_27 : decode cX5_prolongHolds 27 = .ok (.iload_n 2, 1) := by decide +kernel
theorem dX5_prolongHolds_28 : decode cX5_prolongHolds 28 = .ok (.aaload, 1) := by decide +kernel
theorem dX5_prolongHolds_29 : decode cX5_prolongHolds 29 = .ok (.aload_n 0, 1) := by decide +kernel
theorem dX5_prolongHolds_30 : decode cX5_prolongHolds 30 = .ok (.getfield 40, 3) := by decide +kernel
theorem dX5_prolongHolds_33 : decode cX5_prolongHolds 33 = .ok (.aload_n 0, 1) := by decide +kernel
theorem dX5_prolongHolds_34 : decode cX5_prolongHolds 34 = .ok (.getfield 23, 3) := by decide +kernel
theorem dX5_prolongHolds_37 : decode cX5_prolongHolds 37 = .ok (.iconst 0, 1) := by decide +kernel
theorem dX5_prolongHolds_38 : decode cX5_prolongHolds 38 = .ok (.iaload, 1) := by decide +kernel
theorem dX5_prolongHolds_39 : decode cX5_prolongHolds 39 = .ok (.iadd, 1) := by decide +kernel
theorem dX5_prolongHolds_40 : decode cX5_prolongHolds 40 = .ok (.putfield 89, 3) := by decide +kernel
theorem dX5_prolongHolds_43 : decode cX5_prolongHolds 43 = .ok (.iinc 2 1, 3) := by decide +kernel
theorem dX5_prolongHolds_46 : decode cX5_prolongHolds 46 = .ok (.goto (-44), 3) := by decide +kernel
theorem dX5_prolongHolds_49 : decode cX5_prolongHolds 49 = .ok (.return_, 1) := by decide +kernel
theorem dX5_firstLapseOf_0 : decode cX5_firstLapseOf 0 = .ok (.iconst (-1), 1) := by decide +kernel
theorem dX5_firstLapseOf_1 : decode cX5_firstLapseOf 1 = .ok (.istore_n 2, 1) := by decide +kernel
theorem dX5_firstLapseOf_2 : decode cX5_firstLapseOf 2 = .ok (.iconst 0, 1) := by decide +kernel
theorem dX5_firstLapseOf_3 : decode cX5_firstLapseOf 3 = .ok (.istore_n 3, 1) := by decide +kernel
theorem dX5_firstLapseOf_4 : decode cX5_firstLapseOf 4 = .ok (.iload_n 3, 1) := by decide +kernel
theorem dX5_firstLapseOf_5 : decode cX5_firstLapseOf 5 = .ok (.aload_n 0, 1) := by decide +kernel
theorem dX5_firstLapseOf_6 : decode cX5_firstLapseOf 6 = .ok (.getfield 29, 3) := by decide +kernel
theorem dX5_firstLapseOf_9 : decode cX5_firstLapseOf 9 = .ok (.if_icmp .ge 50, 3) := by decide +kernel
theorem dX5_firstLapseOf_12 : decode cX5_firstLapseOf 12 = .ok (.aload_n 0, 1) := by decide +kernel
theorem dX5_firstLapseOf_13 : decode cX5_firstLapseOf 13 = .ok (.getfield 11, 3) := by decide +kernel
theorem dX5_firstLapseOf_16 : decode cX5_firstLapseOf 16 = .ok (.iload_n 3, 1) := by decide +kernel
theorem dX5_firstLapseOf_17 : decode cX5_firstLapseOf 17 = .ok (.aaload, 1) := by decide +kernel
theorem dX5_firstLapseOf_18 : decode cX5_firstLapseOf 18 = .ok (.iload_n 1, 1) := by decide +kernel
theorem dX5_firstLapseOf_19 : decode cX5_firstLapseOf 19 = .ok (.invokevirtual 86, 3) := by decide +kernel
theorem dX5_firstLapseOf_22 : decode cX5_firstLapseOf 22 = .ok (.ifCond .eq 31, 3) := by decide +kernel
theorem dX5_firstLapseOf_25 : decode cX5_firstLapseOf 25 = .ok (.iload_n 2, 1) := by decide +kernel
theorem dX5_firstLapseOf_26 : decode cX5_firstLapseOf 26 = .ok (.iconst (-1), 1) := by decide +kernel
theorem dX5_firstLapseOf_27 : decode cX5_firstLapseOf 27 = .ok (.if_icmp .eq 16, 3) := by decide +kernel
theorem dX5_firstLapseOf_30 : decode cX5_firstLapseOf 30 = .ok (.aload_n 0, 1) := by decide +kernel
theorem dX5_firstLapseOf_31 : decode cX5_firstLapseOf 31 = .ok (.getfield 11, 3) := by decide +kernel
theorem dX5_firstLapseOf_34 : decode cX5_firstLapseOf 34 = .ok (.iload_n 3, 1) := by decide +kernel
theorem dX5_firstLapseOf_35 : decode cX5_firstLapseOf 35 = .ok (.aaload, 1) := by decide +kernel
theorem dX5_firstLapseOf_36 : decode cX5_firstLapseOf 36 = .ok (.getfield 89, 3) := by decide +kernel
theorem dX5_firstLapseOf_39 : decode cX5_firstLapseOf 39 = .ok (.iload_n 2, 1) := by decide +kernel
theorem dX5_firstLapseOf_40 : decode cX5_firstLapseOf 40 = .ok (.if_icmp .ge 13, 3) := by decide +kernel
theorem dX5_firstLapseOf_43 : decode cX5_firstLapseOf 43 = .ok (.aload_n 0, 1) := by decide +kernel
theorem dX5_firstLapseOf_44 : decode cX5_firstLapseOf 44 = .ok (.getfield 11, 3) := by decide +kernel
theorem dX5_firstLapseOf_47 : decode cX5_firstLapseOf 47 = .ok (.iload_n 3, 1) := by decide +kernel
theorem dX5_firstLapseOf_48 : decode cX5_firstLapseOf 48 = .ok (.aaload, 1) := by decide +kernel
theorem dX5_firstLapseOf_49 : decode cX5_firstLapseOf 49 = .ok (.getfield 89, 3) := by decide +kernel
theorem dX5_firstLapseOf_52 : decode cX5_firstLapseOf 52 = .ok (.istore_n 2, 1) := by decide +kernel
theorem dX5_firstLapseOf_53 : decode cX5_firstLapseOf 53 = .ok (.iinc 3 1, 3) := by decide +kernel
theorem dX5_firstLapseOf_56 : decode cX5_firstLapseOf 56 = .ok (.goto (-52), 3) := by decide +kernel
theorem dX5_firstLapseOf_59 : decode cX5_firstLapseOf 59 = .ok (.iload_n 2, 1) := by decide +kernel
theorem dX5_firstLapseOf_60 : decode cX5_firstLapseOf 60 = .ok (.ireturn, 1) := by decide +kernel
theorem dX5_moveTime_0 : decode cX5_moveTime 0 = .ok (.aload_n 0, 1) := by decide +kernel
theorem dX5_moveTime_1 : decode cX5_moveTime 1 = .ok (.aload_n 0, 1) := by decide +kernel
theorem dX5_moveTime_2 : decode cX5_moveTime 2 = .ok (.getfield 40, 3) := by decide +kernel
theorem dX5_moveTime_5 : decode cX5_moveTime 5 = .ok (.iload_n 1, 1) := by decide +kernel
theorem dX5_moveTime_6 : decode cX5_moveTime 6 = .ok (.iadd, 1) := by decide +kernel
theorem dX5_moveTime_7 : decode cX5_moveTime 7 = .ok (.putfield 40, 3) := by decide +kernel
theorem dX5_moveTime_10 : decode cX5_moveTime 10 = .ok (.iconst 0, 1) := by decide +kernel
theorem dX5_moveTime_11 : decode cX5_moveTime 11 = .ok (.istore_n 2, 1) := by decide +kernel
theorem dX5_moveTime_12 : decode cX5_moveTime 12 = .ok (.iconst 0, 1) := by decide +kernel
theorem dX5_moveTime_13 : decode cX5_moveTime 13 = .ok (.istore_n 3, 1) := by decide +kernel
theorem dX5_moveTime_14 : decode cX5_moveTime 14 = .ok (.iload_n 3, 1) := by decide +kernel
theorem dX5_moveTime_15 : decode cX5_moveTime 15 = .ok (.aload_n 0, 1) := by decide +kernel
theorem dX5_moveTime_16 : decode cX5_moveTime 16 = .ok (.getfield 29, 3) := by decide +kernel
theorem dX5_moveTime_19 : decode cX5_moveTime 19 = .ok (.if_icmp .ge 38, 3) := by decide +kernel
theorem dX5_moveTime_22 : decode cX5_moveTime 22 = .ok (.aload_n 0, 1) := by decide +kernel
theorem dX5_moveTime_23 : decode cX5_moveTime 23 = .ok (.getfield 11, 3) := by decide +kernel
theorem dX5_moveTime_26 : decode cX5_moveTime 26 = .ok (.iload_n 3, 1) := by decide +kernel
theorem dX5_moveTime_27 : decode cX5_moveTime 27 = .ok (.aaload, 1) := by decide +kernel
theorem dX5_moveTime_28 : decode cX5_moveTime 28 = .ok (.aload_n 0, 1) := by decide +kernel
theorem dX5_moveTime_29 : decode cX5_moveTime 29 = .ok (.getfield 40, 3) := by decide +kernel
theorem dX5_moveTime_32 : decode cX5_moveTime 32 = .ok (.invokevirtual 92, 3) := by decide +kernel
theorem dX5_moveTime_35 : decode cX5_moveTime 35 = .ok (.ifCond .eq 16, 3) := by decide +kernel
theorem dX5_moveTime_38 : decode cX5_moveTime 38 = .ok (.aload_n 0, 1) := by decide +kernel
theorem dX5_moveTime_39 : decode cX5_moveTime 39 = .ok (.aload_n 0, 1) := by decide +kernel
theorem dX5_moveTime_40 : decode cX5_moveTime 40 = .ok (.getfield 11, 3) := by decide +kernel
theorem dX5_moveTime_43 : decode cX5_moveTime 43 = .ok (.iload_n 3, 1) := by decide +kernel
theorem dX5_moveTime_44 : decode cX5_moveTime 44 = .ok (.aaload, 1) := by decide +kernel
theorem dX5_moveTime_45 : decode cX5_moveTime 45 = .ok (.invokevirtual 95, 3) := by decide +kernel
theorem dX5_moveTime_48 : decode cX5_moveTime 48 = .ok (.iinc 2 1, 3) := by decide +kernel
theorem dX5_moveTime_51 : decode cX5_moveTime 51 = .ok (.iinc 3 1, 3) := by decide +kernel
theorem dX5_moveTime_54 : decode cX5_moveTime 54 = .ok (.goto (-40), 3) := by decide +kernel
theorem dX5_moveTime_57 : decode cX5_moveTime 57 = .ok (.iload_n 2, 1) := by decide +kernel
theorem dX5_moveTime_58 : decode cX5_moveTime 58 = .ok (.ireturn, 1) := by decide +kernel
theorem dX5_lapse_0 : decode cX5_lapse 0 = .ok (.aload_n 1, 1) := by decide +kernel
theorem dX5_lapse_1 : decode cX5_lapse 1 = .ok (.getfield 98, 3) := by decide +kernel
theorem dX5_lapse_4 : decode cX5_lapse 4 = .ok (.ifCond .lt 29, 3) := by decide +kernel
theorem dX5_lapse_7 : decode cX5_lapse 7 = .ok (.aload_n 1, 1) := by decide +kernel
theorem dX5_lapse_8 : decode cX5_lapse 8 = .ok (.getfield 98, 3) := by decide +kernel
theorem dX5_lapse_11 : decode cX5_lapse 11 = .ok (.iconst 4, 1) := by decide +kernel
theorem dX5_lapse_12 : decode cX5_lapse 12 = .ok (.if_icmp .ge 21, 3) := by decide +kernel
theorem dX5_lapse_15 : decode cX5_lapse 15 = .ok (.aload_n 0, 1) := by decide +kernel
theorem dX5_lapse_16 : decode cX5_lapse 16 = .ok (.getfield 19, 3) := by decide +kernel
theorem dX5_lapse_19 : decode cX5_lapse 19 = .ok (.aload_n 1, 1) := by decide +kernel
theorem dX5_lapse_20 : decode cX5_lapse 20 = .ok (.getfield 98, 3) := by decide +kernel
theorem dX5_lapse_23 : decode cX5_lapse 23 = .ok (.aaload, 1) := by decide +kernel
theorem dX5_lapse_24 : decode cX5_lapse 24 = .ok (.dup, 1) := by decide +kernel
theorem dX5_lapse_25 : decode cX5_lapse 25 = .ok (.getfield 101, 3) := by decide +kernel
theorem dX5_lapse_28 : decode cX5_lapse 28 = .ok (.iconst 1, 1) := by decide +kernel
theorem dX5_lapse_29 : decode cX5_lapse 29 = .ok (.iadd, 1) := by decide +kernel
theorem dX5_lapse_30 : decode cX5_lapse 30 = .ok (.putfield 101, 3) := by decide +kernel
theorem dX5_lapse_33 : decode cX5_lapse 33 = .ok (.aload_n 1, 1) := by decide +kernel
theorem dX5_lapse_34 : decode cX5_lapse 34 = .ok (.dup, 1) := by decide +kernel
theorem dX5_lapse_35 : decode cX5_lapse 35 = .ok (.getfield 104, 3) := by decide +kernel
theorem dX5_lapse_38 : decode cX5_lapse 38 = .ok (.iconst 1, 1) := by decide +kernel
theorem dX5_lapse_39 : decode cX5_lapse 39 = .ok (.iadd, 1) := by decide +kernel
theorem dX5_lapse_40 : decode cX5_lapse 40 = .ok (.putfield 104, 3) := by decide +kernel
theorem dX5_lapse_43 : decode cX5_lapse 43 = .ok (.aload_n 1, 1) := by decide +kernel
theorem dX5_lapse_44 : decode cX5_lapse 44 = .ok (.aload_n 1, 1) := by decide +kernel
theorem dX5_lapse_45 : decode cX5_lapse 45 = .ok (.getfield 104, 3) := by decide +kernel
theorem dX5_lapse_48 : decode cX5_lapse 48 = .ok (.aload_n 0, 1) := by decide +kernel
theorem dX5_lapse_49 : decode cX5_lapse 49 = .ok (.getfield 23, 3) := by decide +kernel
theorem dX5_lapse_52 : decode cX5_lapse 52 = .ok (.iconst 1, 1) := by decide +kernel
theorem dX5_lapse_53 : decode cX5_lapse 53 = .ok (.iaload, 1) := by decide +kernel
theorem dX5_lapse_54 : decode cX5_lapse 54 = .ok (.if_icmp .lt 7, 3) := by decide +kernel
theorem dX5_lapse_57 : decode cX5_lapse 57 = .ok (.iconst 3, 1) := by decide +kernel
theorem dX5_lapse_58 : decode cX5_lapse 58 = .ok (.goto 4, 3) := by decide +kernel
theorem dX5_lapse_61 : decode cX5_lapse 61 = .ok (.iconst 0, 1) := by decide +kernel
theorem dX5_lapse_62 : decode cX5_lapse 62 = .ok (.invokevirtual 107, 3) := by decide +kernel
theorem dX5_lapse_65 : decode cX5_lapse 65 = .ok (.return_, 1) := by decide +kernel
theorem dX5_holdsEndedBy_0 : decode cX5_holdsEndedBy 0 = .ok (.iconst 0, 1) := by decide +kernel
theorem dX5_holdsEndedBy_1 : decode cX5_holdsEndedBy 1 = .ok (.istore_n 2, 1) := by decide +kernel
theorem dX5_holdsEndedBy_2 : decode cX5_holdsEndedBy 2 = .ok (.iconst 0, 1) := by decide +kernel
theorem dX5_holdsEndedBy_3 : decode cX5_holdsEndedBy 3 = .ok (.istore_n 3, 1) := by decide +kernel
theorem dX5_holdsEndedBy_4 : decode cX5_holdsEndedBy 4 = .ok (.iload_n 3, 1) := by decide +kernel
theorem dX5_holdsEndedBy_5 : decode cX5_holdsEndedBy 5 = .ok (.aload_n 0, 1) := by decide +kernel
theorem dX5_holdsEndedBy_6 : decode cX5_holdsEndedBy 6 = .ok (.getfield 29, 3) := by decide +kernel
theorem dX5_holdsEndedBy_9 : decode cX5_holdsEndedBy 9 = .ok (.if_icmp .ge 25, 3) := by decide +kernel
theorem dX5_holdsEndedBy_12 : decode cX5_holdsEndedBy 12 = .ok (.aload_n 0, 1) := by decide +kernel
theorem dX5_holdsEndedBy_13 : decode cX5_holdsEndedBy 13 = .ok (.getfield 11, 3) := by decide +kernel
theorem dX5_holdsEndedBy_16 : decode cX5_holdsEndedBy 16 = .ok (.iload_n 3, 1) := by decide +kernel
theorem dX5_holdsEndedBy_17 : decode cX5_holdsEndedBy 17 = .ok (.aaload, 1) := by decide +kernel
theorem dX5_holdsEndedBy_18 : decode cX5_holdsEndedBy 18 = .ok (.iload_n 1, 1) := by decide +kernel
theorem dX5_holdsEndedBy_19 : decode cX5_holdsEndedBy 19 = .ok (.invokevirtual 92, 3) := by decide +kernel
theorem dX5_holdsEndedBy_22 : decode cX5_holdsEndedBy 22 = .ok (.ifCond .eq 6, 3) := by decide +kernel
theorem dX5_holdsEndedBy_25 : decode cX5_holdsEndedBy 25 = .ok (.iinc 2 1, 3) := by decide +kernel
theorem dX5_holdsEndedBy_28 : decode cX5_holdsEndedBy 28 = .ok (.iinc 3 1, 3) := by decide +kernel
theorem dX5_holdsEndedBy_31 : decode cX5_holdsEndedBy 31 = .ok (.goto (-27), 3) := by decide +kernel
theorem dX5_holdsEndedBy_34 : decode cX5_holdsEndedBy 34 = .ok (.iload_n 2, 1) := by decide +kernel
theorem dX5_holdsEndedBy_35 : decode cX5_holdsEndedBy 35 = .ok (.ireturn, 1) := by decide +kernel
theorem dX5_deadBy_0 : decode cX5_deadBy 0 = .ok (.aload_n 0, 1) := by decide +kernel
theorem dX5_deadBy_1 : decode cX5_deadBy 1 = .ok (.iconst 3, 1) := by decide +kernel
theorem dX5_deadBy_2 : decode cX5_deadBy 2 = .ok (.invokevirtual 111, 3) := by decide +kernel
theorem dX5_deadBy_5 : decode cX5_deadBy 5 = .ok (.istore_n 2, 1) := by decide +kernel
theorem dX5_deadBy_6 : decode cX5_deadBy 6 = .ok (.iconst 0, 1) := by decide +kernel
theorem dX5_deadBy_7 : decode cX5_deadBy 7 = .ok (.istore_n 3, 1) := by decide +kernel
theorem dX5_deadBy_8 : decode cX5_deadBy 8 = .ok (.iload_n 3, 1) := by decide +kernel
theorem dX5_deadBy_9 : decode cX5_deadBy 9 = .ok (.aload_n 0, 1) := by decide +kernel
theorem dX5_deadBy_10 : decode cX5_deadBy 10 = .ok (.getfield 29, 3) := by decide +kernel
theorem dX5_deadBy_13 : decode cX5_deadBy 13 = .ok (.if_icmp .ge 45, 3) := by decide +kernel
theorem dX5_deadBy_16 : decode cX5_deadBy 16 = .ok (.aload_n 0, 1) := by decide +kernel
theorem dX5_deadBy_17 : decode cX5_deadBy 17 = .ok (.getfield 11, 3) := by decide +kernel
theorem dX5_deadBy_20 : decode cX5_deadBy 20 = .ok (.iload_n 3, 1) := by decide +kernel
theorem dX5_deadBy_21 : decode cX5_deadBy 21 = .ok (.aaload, 1) := by decide +kernel
theorem dX5_deadBy_22 : decode cX5_deadBy 22 = .ok (.iload_n 1, 1) := by decide +kernel
theorem dX5_deadBy_23 : decode cX5_deadBy 23 = .ok (.invokevirtual 92, 3) := by decide +kernel
theorem dX5_deadBy_26 : decode cX5_deadBy 26 = .ok (.ifCond .eq 26, 3) := by decide +kernel
theorem dX5_deadBy_29 : decode cX5_deadBy 29 = .ok (.aload_n 0, 1) := by decide +kernel
theorem dX5_deadBy_30 : decode cX5_deadBy 30 = .ok (.getfield 11, 3) := by decide +kernel
theorem dX5_deadBy_33 : decode cX5_deadBy 33 = .ok (.iload_n 3, 1) := by decide +kernel
theorem dX5_deadBy_34 : decode cX5_deadBy 34 = .ok (.aaload, 1) := by decide +kernel
theorem dX5_deadBy_35 : decode cX5_deadBy 35 = .ok (.getfield 104, 3) := by decide +kernel
theorem dX5_deadBy_38 : decode cX5_deadBy 38 = .ok (.iconst 1, 1) := by decide +kernel
theorem dX5_deadBy_39 : decode cX5_deadBy 39 = .ok (.iadd, 1) := by decide +kernel
theorem dX5_deadBy_40 : decode cX5_deadBy 40 = .ok (.aload_n 0, 1) := by decide +kernel
theorem dX5_deadBy_41 : decode cX5_deadBy 41 = .ok (.getfield 23, 3) := by decide +kernel
theorem dX5_deadBy_44 : decode cX5_deadBy 44 = .ok (.iconst 1, 1) := by decide +kernel
theorem dX5_deadBy_45 : decode cX5_deadBy 45 = .ok (.iaload, 1) := by decide +kernel
theorem dX5_deadBy_46 : decode cX5_deadBy 46 = .ok (.if_icmp .lt 6, 3) := by decide +kernel
theorem dX5_deadBy_49 : decode cX5_deadBy 49 = .ok (.iinc 2 1, 3) := by decide +kernel
theorem dX5_deadBy_52 : decode cX5_deadBy 52 = .ok (.iinc 3 1, 3) := by decide +kernel
theorem dX5_deadBy_55 : decode cX5_deadBy 55 = .ok (.goto (-47), 3) := by decide +kernel
theorem dX5_deadBy_58 : decode cX5_deadBy 58 = .ok (.iload_n 2, 1) := by decide +kernel
theorem dX5_deadBy_59 : decode cX5_deadBy 59 = .ok (.ireturn, 1) := by decide +kernel
theorem dX5_placeOf_0 : decode cX5_placeOf 0 = .ok (.aload_n 0, 1) := by decide +kernel
theorem dX5_placeOf_1 : decode cX5_placeOf 1 = .ok (.getfield 11, 3) := by decide +kernel
theorem dX5_placeOf_4 : decode cX5_placeOf 4 = .ok (.iload_n 1, 1) := by decide +kernel
theorem dX5_placeOf_5 : decode cX5_placeOf 5 = .ok (.aaload, 1) := by decide +kernel
theorem dX5_placeOf_6 : decode cX5_placeOf 6 = .ok (.invokevirtual 62, 3) := by decide +kernel
theorem dX5_placeOf_9 : decode cX5_placeOf 9 = .ok (.ifCond .ne 5, 3) := by decide +kernel
theorem dX5_placeOf_12 : decode cX5_placeOf 12 = .ok (.iconst (-1), 1) := by decide +kernel
theorem dX5_placeOf_13 : decode cX5_placeOf 13 = .ok (.ireturn, 1) := by decide +kernel
theorem dX5_placeOf_14 : decode cX5_placeOf 14 = .ok (.iconst 0, 1) := by decide +kernel
theorem dX5_placeOf_15 : decode cX5_placeOf 15 = .ok (.istore_n 2, 1) := by decide +kernel
theorem dX5_placeOf_16 : decode cX5_placeOf 16 = .ok (.iconst 0, 1) := by decide +kernel
theorem dX5_placeOf_17 : decode cX5_placeOf 17 = .ok (.istore_n 3, 1) := by decide +kernel
theorem dX5_placeOf_18 : decode cX5_placeOf 18 = .ok (.iload_n 3, 1) := by decide +kernel
theorem dX5_placeOf_19 : decode cX5_placeOf 19 = .ok (.aload_n 0, 1) := by decide +kernel
theorem dX5_placeOf_20 : decode cX5_placeOf 20 = .ok (.getfield 29, 3) := by decide +kernel
theorem dX5_placeOf_23 : decode cX5_placeOf 23 = .ok (.if_icmp .ge 33, 3) := by decide +kernel
theorem dX5_placeOf_26 : decode cX5_placeOf 26 = .ok (.aload_n 0, 1) := by decide +kernel
theorem dX5_placeOf_27 : decode cX5_placeOf 27 = .ok (.getfield 11, 3) := by decide +kernel
theorem dX5_placeOf_30 : decode cX5_placeOf 30 = .ok (.iload_n 3, 1) := by decide +kernel
theorem dX5_placeOf_31 : decode cX5_placeOf 31 = .ok (.aaload, 1) := by decide +kernel
theorem dX5_placeOf_32 : decode cX5_placeOf 32 = .ok (.invokevirtual 62, 3) := by decide +kernel
theorem dX5_placeOf_35 : decode cX5_placeOf 35 = .ok (.ifCond .eq 15, 3) := by decide +kernel
theorem dX5_placeOf_38 : decode cX5_placeOf 38 = .ok (.aload_n 0, 1) := by decide +kernel
theorem dX5_placeOf_39 : decode cX5_placeOf 39 = .ok (.iload_n 3, 1) := by decide +kernel
theorem dX5_placeOf_40 : decode cX5_placeOf 40 = .ok (.iload_n 1, 1) := by decide +kernel
theorem dX5_placeOf_41 : decode cX5_placeOf 41 = .ok (.invokevirtual 115, 3) := by decide +kernel
theorem dX5_placeOf_44 : decode cX5_placeOf 44 = .ok (.ifCond .eq 6, 3) := by decide +kernel
theorem dX5_placeOf_47 : decode cX5_placeOf 47 = .ok (.iinc 2 1, 3) := by decide +kernel
theorem dX5_placeOf_50 : decode cX5_placeOf 50 = .ok (.iinc 3 1, 3) := by decide +kernel
theorem dX5_placeOf_53 : decode cX5_placeOf 53 = .ok (.goto (-35), 3) := by decide +kernel
theorem dX5_placeOf_56 : decode cX5_placeOf 56 = .ok (.iload_n 2, 1) := by decide +kernel
theorem dX5_placeOf_57 : decode cX5_placeOf 57 = .ok (.ireturn, 1) := by decide +kernel
theorem dX5_isAhead_0 : decode cX5_isAhead 0 = .ok (.aload_n 0, 1) := by decide +kernel
theorem dX5_isAhead_1 : decode cX5_isAhead 1 = .ok (.getfield 11, 3) := by decide +kernel
theorem dX5_isAhead_4 : decode cX5_isAhead 4 = .ok (.iload_n 1, 1) := by decide +kernel
theorem dX5_isAhead_5 : decode cX5_isAhead 5 = .ok (.aaload, 1) := by decide +kernel
theorem dX5_isAhead_6 : decode cX5_isAhead 6 = .ok (.getfield 119, 3) := by decide +kernel
theorem dX5_isAhead_9 : decode cX5_isAhead 9 = .ok (.aload_n 0, 1) := by decide +kernel
theorem dX5_isAhead_10 : decode cX5_isAhead 10 = .ok (.getfield 11, 3) := by decide +kernel
theorem dX5_isAhead_13 : decode cX5_isAhead 13 = .ok (.iload_n 2, 1) := by decide +kernel
theorem dX5_isAhead_14 : decode cX5_isAhead 14 = .ok (.aaload, 1) := by decide +kernel
theorem dX5_isAhead_15 : decode cX5_isAhead 15 = .ok (.getfield 119, 3) := by decide +kernel
theorem dX5_isAhead_18 : decode cX5_isAhead 18 = .ok (.if_icmp .eq 30, 3) := by decide +kernel
theorem dX5_isAhead_21 : decode cX5_isAhead 21 = .ok (.aload_n 0, 1) := by decide +kernel
theorem dX5_isAhead_22 : decode cX5_isAhead 22 = .ok (.getfield 11, 3) := by decide +kernel
theorem dX5_isAhead_25 : decode cX5_isAhead 25 = .ok (.iload_n 1, 1) := by decide +kernel
theorem dX5_isAhead_26 : decode cX5_isAhead 26 = .ok (.aaload, 1) := by decide +kernel
theorem dX5_isAhead_27 : decode cX5_isAhead 27 = .ok (.getfield 119, 3) := by decide +kernel
theorem dX5_isAhead_30 : decode cX5_isAhead 30 = .ok (.aload_n 0, 1) := by decide +kernel
theorem dX5_isAhead_31 : decode cX5_isAhead 31 = .ok (.getfield 11, 3) := by decide +kernel
theorem dX5_isAhead_34 : decode cX5_isAhead 34 = .ok (.iload_n 2, 1) := by decide +kernel
theorem dX5_isAhead_35 : decode cX5_isAhead 35 = .ok (.aaload, 1) := by decide +kernel
theorem dX5_isAhead_36 : decode cX5_isAhead 36 = .ok (.getfield 119, 3) := by decide +kernel
theorem dX5_isAhead_39 : decode cX5_isAhead 39 = .ok (.if_icmp .le 7, 3) := by decide +kernel
theorem dX5_isAhead_42 : decode cX5_isAhead 42 = .ok (.iconst 1, 1) := by decide +kernel
theorem dX5_isAhead_43 : decode cX5_isAhead 43 = .ok (.goto 4, 3) := by decide +kernel
theorem dX5_isAhead_46 : decode cX5_isAhead 46 = .ok (.iconst 0, 1) := by decide +kernel
theorem dX5_isAhead_47 : decode cX5_isAhead 47 = .ok (.ireturn, 1) := by decide +kernel
theorem dX5_isAhead_48 : decode cX5_isAhead 48 = .ok (.aload_n 0, 1) := by decide +kernel
theorem dX5_isAhead_49 : decode cX5_isAhead 49 = .ok (.getfield 11, 3) := by decide +kernel
theorem dX5_isAhead_52 : decode cX5_isAhead 52 = .ok (.iload_n 1, 1) := by decide +kernel
theorem dX5_isAhead_53 : decode cX5_isAhead 53 = .ok (.aaload, 1) := by decide +kernel
theorem dX5_isAhead_54 : decode cX5_isAhead 54 = .ok (.getfield 122, 3) := by decide +kernel
theorem dX5_isAhead_57 : decode cX5_isAhead 57 = .ok (.aload_n 0, 1) := by decide +kernel
theorem dX5_isAhead_58 : decode cX5_isAhead 58 = .ok (.getfield 11, 3) := by decide +kernel
theorem dX5_isAhead_61 : decode cX5_isAhead 61 = .ok (.iload_n 2, 1) := by decide +kernel
theorem dX5_isAhead_62 : decode cX5_isAhead 62 = .ok (.aaload, 1) := by decide +kernel
theorem dX5_isAhead_63 : decode cX5_isAhead 63 = .ok (.getfield 122, 3) := by decide +kernel
theorem dX5_isAhead_66 : decode cX5_isAhead 66 = .ok (.if_icmp .ge 7, 3) := by decide +kernel
theorem dX5_isAhead_69 : decode cX5_isAhead 69 = .ok (.iconst 1, 1) := by decide +kernel
theorem dX5_isAhead_70 : decode cX5_isAhead 70 = .ok (.goto 4, 3) := by decide +kernel
theorem dX5_isAhead_73 : decode cX5_isAhead 73 = .ok (.iconst 0, 1) := by decide +kernel
theorem dX5_isAhead_74 : decode cX5_isAhead 74 = .ok (.ireturn, 1) := by decide +kernel
theorem dX5_rowsIn_0 : decode cX5_rowsIn 0 = .ok (.iconst 0, 1) := by decide +kernel
theorem dX5_rowsIn_1 : decode cX5_rowsIn 1 = .ok (.istore_n 2, 1) := by decide +kernel
theorem dX5_rowsIn_2 : decode cX5_rowsIn 2 = .ok (.iconst 0, 1) := by decide +kernel
theorem dX5_rowsIn_3 : decode cX5_rowsIn 3 = .ok (.istore_n 3, 1) := by decide +kernel
theorem dX5_rowsIn_4 : decode cX5_rowsIn 4 = .ok (.iload_n 3, 1) := by decide +kernel
theorem dX5_rowsIn_5 : decode cX5_rowsIn 5 = .ok (.aload_n 0, 1) := by decide +kernel
theorem dX5_rowsIn_6 : decode cX5_rowsIn 6 = .ok (.getfield 29, 3) := by decide +kernel
theorem dX5_rowsIn_9 : decode cX5_rowsIn 9 = .ok (.if_icmp .ge 25, 3) := by decide +kernel
theorem dX5_rowsIn_12 : decode cX5_rowsIn 12 = .ok (.aload_n 0, 1) := by decide +kernel
theorem dX5_rowsIn_13 : decode cX5_rowsIn 13 = .ok (.getfield 11, 3) := by decide +kernel
theorem dX5_rowsIn_16 : decode cX5_rowsIn 16 = .ok (.iload_n 3, 1) := by decide +kernel
theorem dX5_rowsIn_17 : decode cX5_rowsIn 17 = .ok (.aaload, 1) := by decide +kernel
theorem dX5_rowsIn_18 : decode cX5_rowsIn 18 = .ok (.getfield 56, 3) := by decide +kernel
theorem dX5_rowsIn_21 : decode cX5_rowsIn 21 = .ok (.iload_n 1, 1) := by decide +kernel
theorem dX5_rowsIn_22 : decode cX5_rowsIn 22 = .ok (.if_icmp .ne 6, 3) := by decide +kernel
theorem dX5_rowsIn_25 : decode cX5_rowsIn 25 = .ok (.iinc 2 1, 3) := by decide +kernel
theorem dX5_rowsIn_28 : decode cX5_rowsIn 28 = .ok (.iinc 3 1, 3) := by decide +kernel
theorem dX5_rowsIn_31 : decode cX5_rowsIn 31 = .ok (.goto (-27), 3) := by decide +kernel
theorem dX5_rowsIn_34 : decode cX5_rowsIn 34 = .ok (.iload_n 2, 1) := by decide +kernel
theorem dX5_rowsIn_35 : decode cX5_rowsIn 35 = .ok (.ireturn, 1) := by decide +kernel
theorem dX5_blockedWaiting_0 : decode cX5_blockedWaiting 0 = .ok (.iconst 0, 1) := by decide +kernel
theorem dX5_blockedWaiting_1 : decode cX5_blockedWaiting 1 = .ok (.istore_n 1, 1) := by decide +kernel
theorem dX5_blockedWaiting_2 : decode cX5_blockedWaiting 2 = .ok (.iconst 0, 1) := by decide +kernel
theorem dX5_blockedWaiting_3 : decode cX5_blockedWaiting 3 = .ok (.istore_n 2, 1) := by decide +kernel
theorem dX5_blockedWaiting_4 : decode cX5_blockedWaiting 4 = .ok (.iload_n 2, 1) := by decide +kernel
theorem dX5_blockedWaiting_5 : decode cX5_blockedWaiting 5 = .ok (.aload_n 0, 1) := by decide +kernel
theorem dX5_blockedWaiting_6 : decode cX5_blockedWaiting 6 = .ok (.getfield 29, 3) := by decide +kernel
theorem dX5_blockedWaiting_9 : decode cX5_blockedWaiting 9 = .ok (.if_icmp .ge 32, 3) := by decide +kernel
theorem dX5_blockedWaiting_12 : decode cX5_blockedWaiting 12 = .ok (.aload_n 0, 1) := by decide +kernel
theorem dX5_blockedWaiting_13 : decode cX5_blockedWaiting 13 = .ok (.getfield 11, 3) := by decide +kernel
theorem dX5_blockedWaiting_16 : decode cX5_blockedWaiting 16 = .ok (.iload_n 2, 1) := by decide +kernel
theorem dX5_blockedWaiting_17 : decode cX5_blockedWaiting 17 = .ok (.aaload, 1) := by decide +kernel
theorem dX5_blockedWaiting_18 : decode cX5_blockedWaiting 18 = .ok (.getfield 56, 3) := by decide +kernel
theorem dX5_blockedWaiting_21 : decode cX5_blockedWaiting 21 = .ok (.ifCond .ne 14, 3) := by decide +kernel
theorem dX5_blockedWaiting_24 : decode cX5_blockedWaiting 24 = .ok (.aload_n 0, 1) := by decide +kernel
theorem dX5_blockedWaiting_25 : decode cX5_blockedWaiting 25 = .ok (.iload_n 2, 1) := by decide +kernel
theorem dX5_blockedWaiting_26 : decode cX5_blockedWaiting 26 = .ok (.invokevirtual 70, 3) := by decide +kernel
theorem dX5_blockedWaiting_29 : decode cX5_blockedWaiting 29 = .ok (.ifCond .eq 6, 3) := by decide +kernel
theorem dX5_blockedWaiting_32 : decode cX5_blockedWaiting 32 = .ok (.iinc 1 1, 3) := by decide +kernel
theorem dX5_blockedWaiting_35 : decode cX5_blockedWaiting 35 = .ok (.iinc 2 1, 3) := by decide +kernel
theorem dX5_blockedWaiting_38 : decode cX5_blockedWaiting 38 = .ok (.goto (-34), 3) := by decide +kernel
theorem dX5_blockedWaiting_41 : decode cX5_blockedWaiting 41 = .ok (.iload_n 1, 1) := by decide +kernel
theorem dX5_blockedWaiting_42 : decode cX5_blockedWaiting 42 = .ok (.ireturn, 1) := by decide +kernel
theorem dX5_firstWaiting_0 : decode cX5_firstWaiting 0 = .ok (.iconst 0, 1) := by decide +kernel
theorem dX5_firstWaiting_1 : decode cX5_firstWaiting 1 = .ok (.istore_n 1, 1) := by decide +kernel
theorem dX5_firstWaiting_2 : decode cX5_firstWaiting 2 = .ok (.iload_n 1, 1) := by decide +kernel
theorem dX5_firstWaiting_3 : decode cX5_firstWaiting 3 = .ok (.aload_n 0, 1) := by decide +kernel
theorem dX5_firstWaiting_4 : decode cX5_firstWaiting 4 = .ok (.getfield 29, 3) := by decide +kernel
theorem dX5_firstWaiting_7 : decode cX5_firstWaiting 7 = .ok (.if_icmp .ge 23, 3) := by decide +kernel
theorem dX5_firstWaiting_10 : decode cX5_firstWaiting 10 = .ok (.aload_n 0, 1) := by decide +kernel
theorem dX5_firstWaiting_11 : decode cX5_firstWaiting 11 = .ok (.getfield 11, 3) := by decide +kernel
theorem dX5_firstWaiting_14 : decode cX5_firstWaiting 14 = .ok (.iload_n 1, 1) := by decide +kernel
theorem dX5_firstWaiting_15 : decode cX5_firstWaiting 15 = .ok (.aaload, 1) := by decide +kernel
theorem dX5_firstWaiting_16 : decode cX5_firstWaiting 16 = .ok (.getfield 56, 3) := by decide +kernel
theorem dX5_firstWaiting_19 : decode cX5_firstWaiting 19 = .ok (.ifCond .ne 5, 3) := by decide +kernel
theorem dX5_firstWaiting_22 : decode cX5_firstWaiting 22 = .ok (.iload_n 1, 1) := by decide +kernel
theorem dX5_firstWaiting_23 : decode cX5_firstWaiting 23 = .ok (.ireturn, 1) := by decide +kernel
theorem dX5_firstWaiting_24 : decode cX5_firstWaiting 24 = .ok (.iinc 1 1, 3) := by decide +kernel
theorem dX5_firstWaiting_27 : decode cX5_firstWaiting 27 = .ok (.goto (-25), 3) := by decide +kernel
theorem dX5_firstWaiting_30 : decode cX5_firstWaiting 30 = .ok (.iconst (-1), 1) := by decide +kernel
theorem dX5_firstWaiting_31 : decode cX5_firstWaiting 31 = .ok (.ireturn, 1) := by decide +kernel
theorem dX5_unlikePairs_0 : decode cX5_unlikePairs 0 = .ok (.iconst 0, 1) := by decide +kernel
theorem dX5_unlikePairs_1 : decode cX5_unlikePairs 1 = .ok (.istore_n 1, 1) := by decide +kernel
theorem dX5_unlikePairs_2 : decode cX5_unlikePairs 2 = .ok (.iconst 0, 1) := by decide +kernel
theorem dX5_unlikePairs_3 : decode cX5_unlikePairs 3 = .ok (.istore_n 2, 1) := by decide +kernel
theorem dX5_unlikePairs_4 : decode cX5_unlikePairs 4 = .ok (.iload_n 2, 1) := by decide +kernel
theorem dX5_unlikePairs_5 : decode cX5_unlikePairs 5 = .ok (.aload_n 0, 1) := by decide +kernel
theorem dX5_unlikePairs_6 : decode cX5_unlikePairs 6 = .ok (.getfield 29, 3) := by decide +kernel
theorem dX5_unlikePairs_9 : decode cX5_unlikePairs 9 = .ok (.if_icmp .ge 32, 3) := by decide +kernel
theorem dX5_unlikePairs_12 : decode cX5_unlikePairs 12 = .ok (.aload_n 0, 1) := by decide +kernel
theorem dX5_unlikePairs_13 : decode cX5_unlikePairs 13 = .ok (.getfield 11, 3) := by decide +kernel
theorem dX5_unlikePairs_16 : decode cX5_unlikePairs 16 = .ok (.iload_n 2, 1) := by decide +kernel
theorem dX5_unlikePairs_17 : decode cX5_unlikePairs 17 = .ok (.aaload, 1) := by decide +kernel
theorem dX5_unlikePairs_18 : decode cX5_unlikePairs 18 = .ok (.getfield 56, 3) := by decide +kernel
theorem dX5_unlikePairs_21 : decode cX5_unlikePairs 21 = .ok (.ifCond .ne 14, 3) := by decide +kernel
theorem dX5_unlikePairs_24 : decode cX5_unlikePairs 24 = .ok (.aload_n 0, 1) := by decide +kernel
theorem dX5_unlikePairs_25 : decode cX5_unlikePairs 25 = .ok (.iload_n 2, 1) := by decide +kernel
theorem dX5_unlikePairs_26 : decode cX5_unlikePairs 26 = .ok (.invokevirtual 125, 3) := by decide +kernel
theorem dX5_unlikePairs_29 : decode cX5_unlikePairs 29 = .ok (.ifCond .ne 6, 3) := by decide +kernel
theorem dX5_unlikePairs_32 : decode cX5_unlikePairs 32 = .ok (.iinc 1 1, 3) := by decide +kernel
theorem dX5_unlikePairs_35 : decode cX5_unlikePairs 35 = .ok (.iinc 2 1, 3) := by decide +kernel
theorem dX5_unlikePairs_38 : decode cX5_unlikePairs 38 = .ok (.goto (-34), 3) := by decide +kernel
theorem dX5_unlikePairs_41 : decode cX5_unlikePairs 41 = .ok (.iload_n 1, 1) := by decide +kernel
theorem dX5_unlikePairs_42 : decode cX5_unlikePairs 42 = .ok (.ireturn, 1) := by decide +kernel
theorem dX5_hasEarlierPair_0 : decode cX5_hasEarlierPair 0 = .ok (.iconst 0, 1) := by decide +kernel
theorem dX5_hasEarlierPair_1 : decode cX5_hasEarlierPair 1 = .ok (.istore_n 2, 1) := by decide +kernel
theorem dX5_hasEarlierPair_2 : decode cX5_hasEarlierPair 2 = .ok (.iload_n 2, 1) := by decide +kernel
theorem dX5_hasEarlierPair_3 : decode cX5_hasEarlierPair 3 = .ok (.iload_n 1, 1) := by decide +kernel
theorem dX5_hasEarlierPair_4 : decode cX5_hasEarlierPair 4 = .ok (.if_icmp .ge 65, 3) := by decide +kernel
theorem dX5_hasEarlierPair_7 : decode cX5_hasEarlierPair 7 = .ok (.aload_n 0, 1) := by decide +kernel
theorem dX5_hasEarlierPair_8 : decode cX5_hasEarlierPair 8 = .ok (.getfield 11, 3) := by decide +kernel
theorem dX5_hasEarlierPair_11 : decode cX5_hasEarlierPair 11 = .ok (.iload_n 2, 1) := by decide +kernel
theorem dX5_hasEarlierPair_12 : decode cX5_hasEarlierPair 12 = .ok (.aaload, 1) := by decide +kernel
theorem dX5_hasEarlierPair_13 : decode cX5_hasEarlierPair 13 = .ok (.getfield 56, 3) := by decide +kernel
theorem dX5_hasEarlierPair_16 : decode cX5_hasEarlierPair 16 = .ok (.ifCond .ne 47, 3) := by decide +kernel
theorem dX5_hasEarlierPair_19 : decode cX5_hasEarlierPair 19 = .ok (.aload_n 0, 1) := by decide +kernel
theorem dX5_hasEarlierPair_20 : decode cX5_hasEarlierPair 20 = .ok (.getfield 11, 3) := by decide +kernel
theorem dX5_hasEarlierPair_23 : decode cX5_hasEarlierPair 23 = .ok (.iload_n 2, 1) := by decide +kernel
theorem dX5_hasEarlierPair_24 : decode cX5_hasEarlierPair 24 = .ok (.aaload, 1) := by decide +kernel
theorem dX5_hasEarlierPair_25 : decode cX5_hasEarlierPair 25 = .ok (.getfield 59, 3) := by decide +kernel
theorem dX5_hasEarlierPair_28 : decode cX5_hasEarlierPair 28 = .ok (.aload_n 0, 1) := by decide +kernel
theorem dX5_hasEarlierPair_29 : decode cX5_hasEarlierPair 29 = .ok (.getfield 11, 3) := by decide +kernel
theorem dX5_hasEarlierPair_32 : decode cX5_hasEarlierPair 32 = .ok (.iload_n 1, 1) := by decide +kernel
theorem dX5_hasEarlierPair_33 : decode cX5_hasEarlierPair 33 = .ok (.aaload, 1) := by decide +kernel
theorem dX5_hasEarlierPair_34 : decode cX5_hasEarlierPair 34 = .ok (.getfield 59, 3) := by decide +kernel
theorem dX5_hasEarlierPair_37 : decode cX5_hasEarlierPair 37 = .ok (.if_icmp .ne 26, 3) := by decide +kernel
theorem dX5_hasEarlierPair_40 : decode cX5_hasEarlierPair 40 = .ok (.aload_n 0, 1) := by decide +kernel
theorem dX5_hasEarlierPair_41 : decode cX5_hasEarlierPair 41 = .ok (.getfield 11, 3) := by decide +kernel
theorem dX5_hasEarlierPair_44 : decode cX5_hasEarlierPair 44 = .ok (.iload_n 2, 1) := by decide +kernel
theorem dX5_hasEarlierPair_45 : decode cX5_hasEarlierPair 45 = .ok (.aaload, 1) := by decide +kernel
theorem dX5_hasEarlierPair_46 : decode cX5_hasEarlierPair 46 = .ok (.getfield 119, 3) := by decide +kernel
theorem dX5_hasEarlierPair_49 : decode cX5_hasEarlierPair 49 = .ok (.aload_n 0, 1) := by decide +kernel
theorem dX5_hasEarlierPair_50 : decode cX5_hasEarlierPair 50 = .ok (.getfield 11, 3) := by decide +kernel
theorem dX5_hasEarlierPair_53 : decode cX5_hasEarlierPair 53 = .ok (.iload_n 1, 1) := by decide +kernel
theorem dX5_hasEarlierPair_54 : decode cX5_hasEarlierPair 54 = .ok (.aaload, 1) := by decide +kernel
theorem dX5_hasEarlierPair_55 : decode cX5_hasEarlierPair 55 = .ok (.getfield 119, 3) := by decide +kernel
theorem dX5_hasEarlierPair_58 : decode cX5_hasEarlierPair 58 = .ok (.if_icmp .ne 5, 3) := by decide +kernel
theorem dX5_hasEarlierPair_61 : decode cX5_hasEarlierPair 61 = .ok (.iconst 1, 1) := by decide +kernel
theorem dX5_hasEarlierPair_62 : decode cX5_hasEarlierPair 62 = .ok (.ireturn, 1) := by decide +kernel
theorem dX5_hasEarlierPair_63 : decode cX5_hasEarlierPair 63 = .ok (.iinc 2 1, 3) := by decide +kernel
theorem dX5_hasEarlierPair_66 : decode cX5_hasEarlierPair 66 = .ok (.goto (-64), 3) := by decide +kernel
theorem dX5_hasEarlierPair_69 : decode cX5_hasEarlierPair 69 = .ok (.iconst 0, 1) := by decide +kernel
theorem dX5_hasEarlierPair_70 : decode cX5_hasEarlierPair 70 = .ok (.ireturn, 1) := by decide +kernel
theorem dX5_greatestSkipsWaiting_0 : decode cX5_greatestSkipsWaiting 0 = .ok (.iconst 0, 1) := by decide +kernel
theorem dX5_greatestSkipsWaiting_1 : decode cX5_greatestSkipsWaiting 1 = .ok (.istore_n 1, 1) := by decide +kernel
theorem dX5_greatestSkipsWaiting_2 : decode cX5_greatestSkipsWaiting 2 = .ok (.iconst 0, 1) := by decide +kernel
theorem dX5_greatestSkipsWaiting_3 : decode cX5_greatestSkipsWaiting 3 = .ok (.istore_n 2, 1) := by decide +kernel
theorem dX5_greatestSkipsWaiting_4 : decode cX5_greatestSkipsWaiting 4 = .ok (.iload_n 2, 1) := by decide +kernel
theorem dX5_greatestSkipsWaiting_5 : decode cX5_greatestSkipsWaiting 5 = .ok (.aload_n 0, 1) := by decide +kernel
theorem dX5_greatestSkipsWaiting_6 : decode cX5_greatestSkipsWaiting 6 = .ok (.getfield 29, 3) := by decide +kernel
theorem dX5_greatestSkipsWaiting_9 : decode cX5_greatestSkipsWaiting 9 = .ok (.if_icmp .ge 35, 3) := by decide +kernel
theorem dX5_greatestSkipsWaiting_12 : decode cX5_greatestSkipsWaiting 12 = .ok (.aload_n 0, 1) := by decide +kernel
theorem dX5_greatestSkipsWaiting_13 : decode cX5_greatestSkipsWaiting 13 = .ok (.getfield 11, 3) := by decide +kernel
theorem dX5_greatestSkipsWaiting_16 : decode cX5_greatestSkipsWaiting 16 = .ok (.iload_n 2, 1) := by decide +kernel
theorem dX5_greatestSkipsWaiting_17 : decode cX5_greatestSkipsWaiting 17 = .ok (.aaload, 1) := by decide +kernel
theorem dX5_greatestSkipsWaiting_18 : decode cX5_greatestSkipsWaiting 18 = .ok (.getfield 56, 3) := by decide +kernel
theorem dX5_greatestSkipsWaiting_21 : decode cX5_greatestSkipsWaiting 21 = .ok (.ifCond .ne 17, 3) := by decide +kernel
theorem dX5_greatestSkipsWaiting_24 : decode cX5_greatestSkipsWaiting 24 = .ok (.iload_n 1, 1) := by decide +kernel
theorem dX5_greatestSkipsWaiting_25 : decode cX5_greatestSkipsWaiting 25 = .ok (.aload_n 0, 1) := by decide +kernel
theorem dX5_greatestSkipsWaiting_26 : decode cX5_greatestSkipsWaiting 26 = .ok (.getfield 11, 3) := by decide +kernel
theorem dX5_greatestSkipsWaiting_29 : decode cX5_greatestSkipsWaiting 29 = .ok (.iload_n 2, 1) := by decide +kernel
theorem dX5_greatestSkipsWaiting_30 : decode cX5_greatestSkipsWaiting 30 = .ok (.aaload, 1) := by decide +kernel
theorem dX5_greatestSkipsWaiting_31 : decode cX5_greatestSkipsWaiting 31 = .ok (.getfield 85, 3) := by decide +kernel
theorem dX5_greatestSkipsWaiting_34 : decode cX5_greatestSkipsWaiting 34 = .ok (.invokestatic 128, 3) := by decide +kernel
theorem dX5_greatestSkipsWaiting_37 : decode cX5_greatestSkipsWaiting 37 = .ok (.istore_n 1, 1) := by decide +kernel
theorem dX5_greatestSkipsWaiting_38 : decode cX5_greatestSkipsWaiting 38 = .ok (.iinc 2 1, 3) := by decide +kernel
theorem dX5_greatestSkipsWaiting_41 : decode cX5_greatestSkipsWaiting 41 = .ok (.goto (-37), 3) := by decide +kernel
theorem dX5_greatestSkipsWaiting_44 : decode cX5_greatestSkipsWaiting 44 = .ok (.iload_n 1, 1) := by decide +kernel
theorem dX5_greatestSkipsWaiting_45 : decode cX5_greatestSkipsWaiting 45 = .ok (.ireturn, 1) := by decide +kernel
theorem dX6_init_0 : decode cX6_init 0 = .ok (.aload_n 0, 1) := by decide +kernel
theorem dX6_init_1 : decode cX6_init 1 = .ok (.invokespecial 1, 3) := by decide +kernel
theorem dX6_init_4 : decode cX6_init 4 = .ok (.aload_n 0, 1) := by decide +kernel
theorem dX6_init_5 : decode cX6_init 5 = .ok (.new 7, 3) := by decide +kernel
theorem dX6_init_8 : decode cX6_init 8 = .ok (.dup, 1) := by decide +kernel
theorem dX6_init_9 : decode cX6_init 9 = .ok (.invokespecial 9, 3) := by decide +kernel
theorem dX6_init_12 : decode cX6_init 12 = .ok (.putfield 10, 3) := by decide +kernel
theorem dX6_init_15 : decode cX6_init 15 = .ok (.aload_n 0, 1) := by decide +kernel
theorem dX6_init_16 : decode cX6_init 16 = .ok (.new 16, 3) := by decide +kernel
theorem dX6_init_19 : decode cX6_init 19 = .ok (.dup, 1) := by decide +kernel
theorem dX6_init_20 : decode cX6_init 20 = .ok (.invokespecial 18, 3) := by decide +kernel
theorem dX6_init_23 : decode cX6_init 23 = .ok (.putfield 19, 3) := by decide +kernel
theorem dX6_init_26 : decode cX6_init 26 = .ok (.aload_n 0, 1) := by decide +kernel
theorem dX6_init_27 : decode cX6_init 27 = .ok (.new 23, 3) := by decide +kernel
theorem dX6_init_30 : decode cX6_init 30 = .ok (.dup, 1) := by decide +kernel
theorem dX6_init_31 : decode cX6_init 31 = .ok (.invokespecial 25, 3) := by decide +kernel
theorem dX6_init_34 : decode cX6_init 34 = .ok (.putfield 26, 3) := by decide +kernel
theorem dX6_init_37 : decode cX6_init 37 = .ok (.aload_n 0, 1) := by decide +kernel
theorem dX6_init_38 : decode cX6_init 38 = .ok (.new 30, 3) := by decide +kernel
theorem dX6_init_41 : decode cX6_init 41 = .ok (.dup, 1) := by decide +kernel
theorem dX6_init_42 : decode cX6_init 42 = .ok (.invokespecial 32, 3) := by decide +kernel
theorem dX6_init_45 : decode cX6_init 45 = .ok (.putfield 33, 3) := by decide +kernel
theorem dX6_init_48 : decode cX6_init 48 = .ok (.return_, 1) := by decide +kernel
theorem dX6_put_0 : decode cX6_put 0 = .ok (.iload_n 1, 1) := by decide +kernel
theorem dX6_put_1 : decode cX6_put 1 = .ok (.iconst 0, 1) := by decide +kernel
theorem dX6_put_2 : decode cX6_put 2 = .ok (.bipush 7, 2) := by decide +kernel
theorem dX6_put_4 : decode cX6_put 4 = .ok (.invokestatic 37, 3) := by decide +kernel
theorem dX6_put_7 : decode cX6_put 7 = .ok (.iload_n 2, 1) := by decide +kernel
theorem dX6_put_8 : decode cX6_put 8 = .ok (.iconst 0, 1) := by decide +kernel
theorem dX6_put_9 : decode cX6_put 9 = .ok (.bipush 9, 2) := by decide +kernel
theorem dX6_put_11 : decode cX6_put 11 = .ok (.invokestatic 37, 3) := by decide +kernel
theorem dX6_put_14 : decode cX6_put 14 = .ok (.aload_n 0, 1) := by decide +kernel
theorem dX6_put_15 : decode cX6_put 15 = .ok (.iconst 1, 1) := by decide +kernel
theorem dX6_put_16 : decode cX6_put 16 = .ok (.invokevirtual 41, 3) := by decide +kernel
theorem dX6_put_19 : decode cX6_put 19 = .ok (.aload_n 0, 1) := by decide +kernel
theorem dX6_put_20 : decode cX6_put 20 = .ok (.getfield 19, 3) := by decide +kernel
theorem dX6_put_23 : decode cX6_put 23 = .ok (.aload_n 0, 1) := by decide +kernel
theorem dX6_put_24 : decode cX6_put 24 = .ok (.getfield 10, 3) := by decide +kernel
theorem dX6_put_27 : decode cX6_put 27 = .ok (.invokevirtual 45, 3) := by decide +kernel
theorem dX6_put_30 : decode cX6_put 30 = .ok (.aload_n 0, 1) := by decide +kernel
theorem dX6_put_31 : decode cX6_put 31 = .ok (.getfield 10, 3) := by decide +kernel
theorem dX6_put_34 : decode cX6_put 34 = .ok (.iload_n 1, 1) := by decide +kernel
theorem dX6_put_35 : decode cX6_put 35 = .ok (.iload_n 2, 1) := by decide +kernel
theorem dX6_put_36 : decode cX6_put 36 = .ok (.invokevirtual 49, 3) := by decide +kernel
theorem dX6_put_39 : decode cX6_put 39 = .ok (.aload_n 0, 1) := by decide +kernel
theorem dX6_put_40 : decode cX6_put 40 = .ok (.getfield 10, 3) := by decide +kernel
theorem dX6_put_43 : decode cX6_put 43 = .ok (.getfield 53, 3) := by decide +kernel
theorem dX6_put_46 : decode cX6_put 46 = .ok (.iconst 1, 1) := by decide +kernel
theorem dX6_put_47 : decode cX6_put 47 = .ok (.isub, 1) := by decide +kernel
theorem dX6_put_48 : decode cX6_put 48 = .ok (.ireturn, 1) := by decide +kernel
theorem dX6_urge_0 : decode cX6_urge 0 = .ok (.aload_n 0, 1) := by decide +kernel
theorem dX6_urge_1 : decode cX6_urge 1 = .ok (.iload_n 1, 1) := by decide +kernel
theorem dX6_urge_2 : decode cX6_urge 2 = .ok (.invokevirtual 57, 3) := by decide +kernel
theorem dX6_urge_5 : decode cX6_urge 5 = .ok (.iload_n 2, 1) := by decide +kernel
theorem dX6_urge_6 : decode cX6_urge 6 = .ok (.iconst 0, 1) := by decide +kernel
theorem dX6_urge_7 : decode cX6_urge 7 = .ok (.bipush 9, 2) := by decide +kernel
theorem dX6_urge_9 : decode cX6_urge 9 = .ok (.invokestatic 37, 3) := by decide +kernel
theorem dX6_urge_12 : decode cX6_urge 12 = .ok (.aload_n 0, 1) := by decide +kernel
theorem dX6_urge_13 : decode cX6_urge 13 = .ok (.getfield 10, 3) := by decide +kernel
theorem dX6_urge_16 : decode cX6_urge 16 = .ok (.getfield 60, 3) := by decide +kernel
theorem dX6_urge_19 : decode cX6_urge 19 = .ok (.iload_n 1, 1) := by decide +kernel
theorem dX6_urge_20 : decode cX6_urge 20 = .ok (.aaload, 1) := by decide +kernel
theorem dX6_urge_21 : decode cX6_urge 21 = .ok (.invokevirtual 64, 3) := by decide +kernel
theorem dX6_urge_24 : decode cX6_urge 24 = .ok (.ifCond .ne 13, 3) := by decide +kernel
theorem dX6_urge_27 : decode cX6_urge 27 = .ok (.new 70, 3) := by decide +kernel
theorem dX6_urge_30 : decode cX6_urge 30 = .ok (.dup, 1) := by decide +kernel
theorem dX6_urge_31 : decode cX6_urge 31 = .ok (.ldc 72, 2) := by decide +kernel
theorem dX6_urge_33 : decode cX6_urge 33 = .ok (.invokespecial 74, 3) := by decide +kernel
theorem dX6_urge_36 : decode cX6_urge 36 = .ok (.athrow, 1) := by decide +kernel
theorem dX6_urge_37 : decode cX6_urge 37 = .ok (.aload_n 0, 1) := by decide +kernel
theorem dX6_urge_38 : decode cX6_urge 38 = .ok (.getfield 19, 3) := by decide +kernel
theorem dX6_urge_41 : decode cX6_urge 41 = .ok (.aload_n 0, 1) := by decide +kernel
theorem dX6_urge_42 : decode cX6_urge 42 = .ok (.getfield 10, 3) := by decide +kernel
theorem dX6_urge_45 : decode cX6_urge 45 = .ok (.invokevirtual 45, 3) := by decide +kernel
theorem dX6_urge_48 : decode cX6_urge 48 = .ok (.aload_n 0, 1) := by decide +kernel
theorem dX6_urge_49 : decode cX6_urge 49 = .ok (.getfield 10, 3) := by decide +kernel
theorem dX6_urge_52 : decode cX6_urge 52 = .ok (.getfield 60, 3) := by decide +kernel
theorem dX6_urge_55 : decode cX6_urge 55 = .ok (.iload_n 1, 1) := by decide +kernel
theorem dX6_urge_56 : decode cX6_urge 56 = .ok (.aaload, 1) := by decide +kernel
theorem dX6_urge_57 : decode cX6_urge 57 = .ok (.getfield 77, 3) := by decide +kernel
theorem dX6_urge_60 : decode cX6_urge 60 = .ok (.istore_n 3, 1) := by decide +kernel
theorem dX6_urge_61 : decode cX6_urge 61 = .ok (.aload_n 0, 1) := by decide +kernel
theorem dX6_urge_62 : decode cX6_urge 62 = .ok (.getfield 10, 3) := by decide +kernel
theorem dX6_urge_65 : decode cX6_urge 65 = .ok (.getfield 60, 3) := by decide +kernel
theorem dX6_urge_68 : decode cX6_urge 68 = .ok (.iload_n 1, 1) := by decide +kernel
theorem dX6_urge_69 : decode cX6_urge 69 = .ok (.aaload, 1) := by decide +kernel
theorem dX6_urge_70 : decode cX6_urge 70 = .ok (.iload_n 2, 1) := by decide +kernel
theorem dX6_urge_71 : decode cX6_urge 71 = .ok (.putfield 77, 3) := by decide +kernel
theorem dX6_urge_74 : decode cX6_urge 74 = .ok (.iload_n 3, 1) := by decide +kernel
theorem dX6_urge_75 : decode cX6_urge 75 = .ok (.ireturn, 1) := by decide +kernel
theorem dX6_revive_0 : decode cX6_revive 0 = .ok (.aload_n 0, 1) := by decide +kernel
theorem dX6_revive_1 : decode cX6_revive 1 = .ok (.iload_n 1, 1) := by decide +kernel
theorem dX6_revive_2 : decode cX6_revive 2 = .ok (.invokevirtual 57, 3) := by decide +kernel
theorem dX6_revive_5 : decode cX6_revive 5 = .ok (.aload_n 0, 1) := by decide +kernel
theorem dX6_revive_6 : decode cX6_revive 6 = .ok (.getfield 10, 3) := by decide +kernel
theorem dX6_revive_9 : decode cX6_revive 9 = .ok (.getfield 60, 3) := by decide +kernel
theorem dX6_revive_12 : decode cX6_revive 12 = .ok (.iload_n 1, 1) := by decide +kernel
theorem dX6_revive_13 : decode cX6_revive 13 = .ok (.aaload, 1) := by decide +kernel
theorem dX6_revive_14 : decode cX6_revive 14 = .ok (.getfield 80, 3) := by decide +kernel
theorem dX6_revive_17 : decode cX6_revive 17 = .ok (.iconst 3, 1) := by decide +kernel
theorem dX6_revive_18 : decode cX6_revive 18 = .ok (.if_icmp .eq 13, 3) := by decide +kernel
theorem dX6_revive_21 : decode cX6_revive 21 = .ok (.new 70, 3) := by decide +kernel
theorem dX6_revive_24 : decode cX6_revive 24 = .ok (.dup, 1) := by decide +kernel
theorem dX6_revive_25 : decode cX6_revive 25 = .ok (.ldc 83, 2) := by decide +kernel
theorem dX6_revive_27 : decode cX6_revive 27 = .ok (.invokespecial 74, 3) := by decide +kernel
theorem dX6_revive_30 : decode cX6_revive 30 = .ok (.athrow, 1) := by decide +kernel
theorem dX6_revive_31 : decode cX6_revive 31 = .ok (.aload_n 0, 1) := by decide +kernel
theorem dX6_revive_32 : decode cX6_revive 32 = .ok (.getfield 19, 3) := by decide +kernel
theorem dX6_revive_35 : decode cX6_revive 35 = .ok (.aload_n 0, 1) := by decide +kernel
theorem dX6_revive_36 : decode cX6_revive 36 = .ok (.getfield 10, 3) := by decide +kernel
theorem dX6_revive_39 : decode cX6_revive 39 = .ok (.invokevirtual 45, 3) := by decide +kernel
theorem dX6_revive_42 : decode cX6_revive 42 = .ok (.aload_n 0, 1) := by decide +kernel
theorem dX6_revive_43 : decode cX6_revive 43 = .ok (.getfield 10, 3) := by decide +kernel
theorem dX6_revive_46 : decode cX6_revive 46 = .ok (.getfield 60, 3) := by decide +kernel
theorem dX6_revive_49 : decode cX6_revive 49 = .ok (.iload_n 1, 1) := by decide +kernel
theorem dX6_revive_50 : decode cX6_revive 50 = .ok (.aaload, 1) := by decide +kernel
theorem dX6_revive_51 : decode cX6_revive 51 = .ok (.getfield 85, 3) := by decide +kernel
theorem dX6_revive_54 : decode cX6_revive 54 = .ok (.istore_n 2, 1) := by decide +kernel
theorem dX6_revive_55 : decode cX6_revive 55 = .ok (.aload_n 0, 1) := by decide +kernel
theorem dX6_revive_56 : decode cX6_revive 56 = .ok (.getfield 10, 3) := by decide +kernel
theorem dX6_revive_59 : decode cX6_revive 59 = .ok (.getfield 60, 3) := by decide +kernel
theorem dX6_revive_62 : decode cX6_revive 62 = .ok (.iload_n 1, 1) := by decide +kernel
theorem dX6_revive_63 : decode cX6_revive 63 = .ok (.aaload, 1) := by decide +kernel
theorem dX6_revive_64 : decode cX6_revive 64 = .ok (.iconst 0, 1) := by decide +kernel
theorem dX6_revive_65 : decode cX6_revive 65 = .ok (.putfield 85, 3) := by decide +kernel
theorem dX6_revive_68 : decode cX6_revive 68 = .ok (.aload_n 0, 1) := by decide +kernel
theorem dX6_revive_69 : decode cX6_revive 69 = .ok (.getfield 10, 3) := by decide +kernel
theorem dX6_revive_72 : decode cX6_revive 72 = .ok (.getfield 60, 3) := by decide +kernel
theorem dX6_revive_75 : decode cX6_revive 75 = .ok (.iload_n 1, 1) := by decide +kernel
theorem dX6_revive_76 : decode cX6_revive 76 = .ok (.aaload, 1) := by decide +kernel
theorem dX6_revive_77 : decode cX6_revive 77 = .ok (.iconst 0, 1) := by decide +kernel
theorem dX6_revive_78 : decode cX6_revive 78 = .ok (.putfield 80, 3) := by decide +kernel
theorem dX6_revive_81 : decode cX6_revive 81 = .ok (.iload_n 2, 1) := by decide +kernel
theorem dX6_revive_82 : decode cX6_revive 82 = .ok (.ireturn, 1) := by decide +kernel
theorem dX6_sweep_0 : decode cX6_sweep 0 = .ok (.aload_n 0, 1) := by decide +kernel
theorem dX6_sweep_1 : decode cX6_sweep 1 = .ok (.getfield 19, 3) := by decide +kernel
theorem dX6_sweep_4 : decode cX6_sweep 4 = .ok (.aload_n 0, 1) := by decide +kernel
theorem dX6_sweep_5 : decode cX6_sweep 5 = .ok (.getfield 10, 3) := by decide +kernel
theorem dX6_sweep_8 : decode cX6_sweep 8 = .ok (.invokevirtual 45, 3) := by decide +kernel
theorem dX6_sweep_11 : decode cX6_sweep 11 = .ok (.aload_n 0, 1) := by decide +kernel
theorem dX6_sweep_12 : decode cX6_sweep 12 = .ok (.getfield 10, 3) := by decide +kernel
theorem dX6_sweep_15 : decode cX6_sweep 15 = .ok (.invokevirtual 88, 3) := by decide +kernel
theorem dX6_sweep_18 : decode cX6_sweep 18 = .ok (.ireturn, 1) := by decide +kernel
theorem dX6_set_0 : decode cX6_set 0 = .ok (.iload_n 1, 1) := by decide +kernel
theorem dX6_set_1 : decode cX6_set 1 = .ok (.invokestatic 92, 3) := by decide +kernel
theorem dX6_set_4 : decode cX6_set 4 = .ok (.iload_n 2, 1) := by decide +kernel
theorem dX6_set_5 : decode cX6_set 5 = .ok (.getstatic 95, 3) := by decide +kernel
theorem dX6_set_8 : decode cX6_set 8 = .ok (.iload_n 1, 1) := by decide +kernel
theorem dX6_set_9 : decode cX6_set 9 = .ok (.iaload, 1) := by decide +kernel
theorem dX6_set_10 : decode cX6_set 10 = .ok (.getstatic 99, 3) := by decide +kernel
theorem dX6_set_13 : decode cX6_set 13 = .ok (.iload_n 1, 1) := by decide +kernel
theorem dX6_set_14 : decode cX6_set 14 = .ok (.iaload, 1) := by decide +kernel
theorem dX6_set_15 : decode cX6_set 15 = .ok (.invokestatic 37, 3) := by decide +kernel
theorem dX6_set_18 : decode cX6_set 18 = .ok (.aload_n 0, 1) := by decide +kernel
theorem dX6_set_19 : decode cX6_set 19 = .ok (.getfield 19, 3) := by decide +kernel
theorem dX6_set_22 : decode cX6_set 22 = .ok (.aload_n 0, 1) := by decide +kernel
theorem dX6_set_23 : decode cX6_set 23 = .ok (.getfield 10, 3) := by decide +kernel
theorem dX6_set_26 : decode cX6_set 26 = .ok (.invokevirtual 45, 3) := by decide +kernel
theorem dX6_set_29 : decode cX6_set 29 = .ok (.aload_n 0, 1) := by decide +kernel
theorem dX6_set_30 : decode cX6_set 30 = .ok (.getfield 10, 3) := by decide +kernel
theorem dX6_set_33 : decode cX6_set 33 = .ok (.getfield 102, 3) := by decide +kernel
theorem dX6_set_36 : decode cX6_set 36 = .ok (.iload_n 1, 1) := by decide +kernel
theorem dX6_set_37 : decode cX6_set 37 = .ok (.iaload, 1) := by decide +kernel
theorem dX6_set_38 : decode cX6_set 38 = .ok (.istore_n 3, 1) := by decide +kernel
theorem dX6_set_39 : decode cX6_set 39 = .ok (.aload_n 0, 1) := by decide +kernel
theorem dX6_set_40 : decode cX6_set 40 = .ok (.getfield 10, 3) := by decide +kernel
theorem dX6_set_43 : decode cX6_set 43 = .ok (.getfield 102, 3) := by decide +kernel
theorem dX6_set_46 : decode cX6_set 46 = .ok (.iload_n 1, 1) := by decide +kernel
theorem dX6_set_47 : decode cX6_set 47 = .ok (.iload_n 2, 1) := by decide +kernel
theorem dX6_set_48 : decode cX6_set 48 = .ok (.iastore, 1) := by decide +kernel
theorem dX6_set_49 : decode cX6_set 49 = .ok (.iload_n 3, 1) := by decide +kernel
theorem dX6_set_50 : decode cX6_set 50 = .ok (.ireturn, 1) := by decide +kernel
theorem dX6_takes_0 : decode cX6_takes 0 = .ok (.iload_n 1, 1) := by decide +kernel
theorem dX6_takes_1 : decode cX6_takes 1 = .ok (.invokestatic 105, 3) := by decide +kernel
theorem dX6_takes_4 : decode cX6_takes 4 = .ok (.iload_n 2, 1) := by decide +kernel
theorem dX6_takes_5 : decode cX6_takes 5 = .ok (.iconst 0, 1) := by decide +kernel
theorem dX6_takes_6 : decode cX6_takes 6 = .ok (.sipush 255, 3) := by decide +kernel
theorem dX6_takes_9 : decode cX6_takes 9 = .ok (.invokestatic 37, 3) := by decide +kernel
theorem dX6_takes_12 : decode cX6_takes 12 = .ok (.aload_n 0, 1) := by decide +kernel
theorem dX6_takes_13 : decode cX6_takes 13 = .ok (.getfield 19, 3) := by decide +kernel
theorem dX6_takes_16 : decode cX6_takes 16 = .ok (.aload_n 0, 1) := by decide +kernel
theorem dX6_takes_17 : decode cX6_takes 17 = .ok (.getfield 10, 3) := by decide +kernel
theorem dX6_takes_20 : decode cX6_takes 20 = .ok (.invokevirtual 45, 3) := by decide +kernel
theorem dX6_takes_23 : decode cX6_takes 23 = .ok (.aload_n 0, 1) := by decide +kernel
theorem dX6_takes_24 : decode cX6_takes 24 = .ok (.getfield 10, 3) := by decide +kernel
theorem dX6_takes_27 : decode cX6_takes 27 = .ok (.getfield 108, 3) := by decide +kernel
theorem dX6_takes_30 : decode cX6_takes 30 = .ok (.iload_n 1, 1) := by decide +kernel
theorem dX6_takes_31 : decode cX6_takes 31 = .ok (.aaload, 1) := by decide +kernel
theorem dX6_takes_32 : decode cX6_takes 32 = .ok (.getfield 112, 3) := by decide +kernel
theorem dX6_takes_35 : decode cX6_takes 35 = .ok (.istore_n 3, 1) := by decide +kernel
theorem dX6_takes_36 : decode cX6_takes 36 = .ok (.aload_n 0, 1) := by decide +kernel
theorem dX6_takes_37 : decode cX6_takes 37 = .ok (.getfield 10, 3) := by decide +kernel
theorem dX6_takes_40 : decode cX6_takes 40 = .ok (.getfield 108, 3) := by decide +kernel
theorem dX6_takes_43 : decode cX6_takes 43 = .ok (.iload_n 1, 1) := by decide +kernel
theorem dX6_takes_44 : decode cX6_takes 44 = .ok (.aaload, 1) := by decide +kernel
theorem dX6_takes_45 : decode cX6_takes 45 = .ok (.iload_n 2, 1) := by decide +kernel
theorem dX6_takes_46 : decode cX6_takes 46 = .ok (.putfield 112, 3) := by decide +kernel
theorem dX6_takes_49 : decode cX6_takes 49 = .ok (.iload_n 3, 1) := by decide +kernel
theorem dX6_takes_50 : decode cX6_takes 50 = .ok (.ireturn, 1) := by decide +kernel
theorem dX6_take_0 : decode cX6_take 0 = .ok (.iload_n 1, 1) := by decide +kernel
theorem dX6_take_1 : decode cX6_take 1 = .ok (.invokestatic 105, 3) := by decide +kernel
theorem dX6_take_4 : decode cX6_take 4 = .ok (.iload_n 2, 1) := by decide +kernel
theorem dX6_take_5 : decode cX6_take 5 = .ok (.iconst 1, 1) := by decide +kernel
theorem dX6_take_6 : decode cX6_take 6 = .ok (.bipush 24, 2) := by decide +kernel
theorem dX6_take_8 : decode cX6_take 8 = .ok (.invokestatic 37, 3) := by decide +kernel
theorem dX6_take_11 : decode cX6_take 11 = .ok (.aload_n 0, 1) := by decide +kernel
theorem dX6_take_12 : decode cX6_take 12 = .ok (.getfield 19, 3) := by decide +kernel
theorem dX6_take_15 : decode cX6_take 15 = .ok (.aload_n 0, 1) := by decide +kernel
theorem dX6_take_16 : decode cX6_take 16 = .ok (.getfield 10, 3) := by decide +kernel
theorem dX6_take_19 : decode cX6_take 19 = .ok (.invokevirtual 45, 3) := by decide +kernel
theorem dX6_take_22 : decode cX6_take 22 = .ok (.aload_n 0, 1) := by decide +kernel
theorem dX6_take_23 : decode cX6_take 23 = .ok (.getfield 33, 3) := by decide +kernel
theorem dX6_take_26 : decode cX6_take 26 = .ok (.aload_n 0, 1) := by decide +kernel
theorem dX6_take_27 : decode cX6_take 27 = .ok (.getfield 10, 3) := by decide +kernel
theorem dX6_take_30 : decode cX6_take 30 = .ok (.iload_n 1, 1) := by decide +kernel
theorem dX6_take_31 : decode cX6_take 31 = .ok (.iload_n 2, 1) := by decide +kernel
theorem dX6_take_32 : decode cX6_take 32 = .ok (.invokevirtual 117, 3) := by decide +kernel
theorem dX6_take_35 : decode cX6_take 35 = .ok (.aload_n 0, 1) := by decide +kernel
theorem dX6_take_36 : decode cX6_take 36 = .ok (.getfield 10, 3) := by decide +kernel
theorem dX6_take_39 : decode cX6_take 39 = .ok (.iload_n 1, 1) := by decide +kernel
theorem dX6_take_40 : decode cX6_take 40 = .ok (.aload_n 0, 1) := by decide +kernel
theorem dX6_take_41 : decode cX6_take 41 = .ok (.getfield 33, 3) := by decide +kernel
theorem dX6_take_44 : decode cX6_take 44 = .ok (.invokevirtual 121, 3) := by decide +kernel
theorem dX6_take_47 : decode cX6_take 47 = .ok (.aload_n 0, 1) := by decide +kernel
theorem dX6_take_48 : decode cX6_take 48 = .ok (.getfield 33, 3) := by decide +kernel
theorem dX6_take_51 : decode cX6_take 51 = .ok (.getfield 125, 3) := by decide +kernel
theorem dX6_take_54 : decode cX6_take 54 = .ok (.ireturn, 1) := by decide +kernel
theorem dX6_done_0 : decode cX6_done 0 = .ok (.iload_n 1, 1) := by decide +kernel
theorem dX6_done_1 : decode cX6_done 1 = .ok (.invokestatic 105, 3) := by decide +kernel
theorem dX6_done_4 : decode cX6_done 4 = .ok (.aload_n 0, 1) := by decide +kernel
theorem dX6_done_5 : decode cX6_done 5 = .ok (.iload_n 2, 1) := by decide +kernel
theorem dX6_done_6 : decode cX6_done 6 = .ok (.invokevirtual 57, 3) := by decide +kernel
theorem dX6_done_9 : decode cX6_done 9 = .ok (.aload_n 0, 1) := by decide +kernel
theorem dX6_done_10 : decode cX6_done 10 = .ok (.iload_n 1, 1) := by decide +kernel
theorem dX6_done_11 : decode cX6_done 11 = .ok (.iload_n 2, 1) := by decide +kernel
theorem dX6_done_12 : decode cX6_done 12 = .ok (.invokevirtual 128, 3) := by decide +kernel
theorem dX6_done_15 : decode cX6_done 15 = .ok (.aload_n 0, 1) := by decide +kernel
theorem dX6_done_16 : decode cX6_done 16 = .ok (.getfield 19, 3) := by decide +kernel
theorem dX6_done_19 : decode cX6_done 19 = .ok (.aload_n 0, 1) := by decide +kernel
theorem dX6_done_20 : decode cX6_done 20 = .ok (.getfield 10, 3) := by decide +kernel
theorem dX6_done_23 : decode cX6_done 23 = .ok (.invokevirtual 45, 3) := by decide +kernel
theorem dX6_done_26 : decode cX6_done 26 = .ok (.aload_n 0, 1) := by decide +kernel
theorem dX6_done_27 : decode cX6_done 27 = .ok (.getfield 10, 3) := by decide +kernel
theorem dX6_done_30 : decode cX6_done 30 = .ok (.getfield 60, 3) := by decide +kernel
theorem dX6_done_33 : decode cX6_done 33 = .ok (.iload_n 2, 1) := by decide +kernel
theorem dX6_done_34 : decode cX6_done 34 = .ok (.aaload, 1) := by decide +kernel
theorem dX6_done_35 : decode cX6_done 35 = .ok (.iconst 2, 1) := by decide +kernel
theorem dX6_done_36 : decode cX6_done 36 = .ok (.invokevirtual 131, 3) := by decide +kernel
theorem dX6_done_39 : decode cX6_done 39 = .ok (.aload_n 0, 1) := by decide +kernel
theorem dX6_done_40 : decode cX6_done 40 = .ok (.getfield 10, 3) := by decide +kernel
theorem dX6_done_43 : decode cX6_done 43 = .ok (.dup, 1) := by decide +kernel
theorem dX6_done_44 : decode cX6_done 44 = .ok (.getfield 134, 3) := by decide +kernel
theorem dX6_done_47 : decode cX6_done 47 = .ok (.iconst 1, 1) := by decide +kernel
theorem dX6_done_48 : decode cX6_done 48 = .ok (.iadd, 1) := by decide +kernel
theorem dX6_done_49 : decode cX6_done 49 = .ok (.putfield 134, 3) := by decide +kernel
theorem dX6_done_52 : decode cX6_done 52 = .ok (.aload_n 0, 1) := by decide +kernel
theorem dX6_done_53 : decode cX6_done 53 = .ok (.getfield 10, 3) := by decide +kernel
theorem dX6_done_56 : decode cX6_done 56 = .ok (.getfield 108, 3) := by decide +kernel
theorem dX6_done_59 : decode cX6_done 59 = .ok (.iload_n 1, 1) := by decide +kernel
theorem dX6_done_60 : decode cX6_done 60 = .ok (.aaload, 1) := by decide +kernel
theorem dX6_done_61 : decode cX6_done 61 = .ok (.dup, 1) := by decide +kernel
theorem dX6_done_62 : decode cX6_done 62 = .ok (.getfield 137, 3) := by decide +kernel
theorem dX6_done_65 : decode cX6_done 65 = .ok (.iconst 1, 1) := by decide +kernel
theorem dX6_done_66 : decode cX6_done 66 = .ok (.iadd, 1) := by decide +kernel
theorem dX6_done_67 : decode cX6_done 67 = .ok (.putfield 137, 3) := by decide +kernel
theorem dX6_done_70 : decode cX6_done 70 = .ok (.aload_n 0, 1) := by decide +kernel
theorem dX6_done_71 : decode cX6_done 71 = .ok (.getfield 10, 3) := by decide +kernel
theorem dX6_done_74 : decode cX6_done 74 = .ok (.getfield 108, 3) := by decide +kernel
theorem dX6_done_77 : decode cX6_done 77 = .ok (.iload_n 1, 1) := by decide +kernel
theorem dX6_done_78 : decode cX6_done 78 = .ok (.aaload, 1) := by decide +kernel
theorem dX6_done_79 : decode cX6_done 79 = .ok (.getfield 137, 3) := by decide +kernel
theorem dX6_done_82 : decode cX6_done 82 = .ok (.ireturn, 1) := by decide +kernel
theorem dX6_giveBack_0 : decode cX6_giveBack 0 = .ok (.iload_n 1, 1) := by decide +kernel
theorem dX6_giveBack_1 : decode cX6_giveBack 1 = .ok (.invokestatic 105, 3) := by decide +kernel
theorem dX6_giveBack_4 : decode cX6_giveBack 4 = .ok (.aload_n 0, 1) := by decide +kernel
theorem dX6_giveBack_5 : decode cX6_giveBack 5 = .ok (.iload_n 2, 1) := by decide +kernel
theorem dX6_giveBack_6 : decode cX6_giveBack 6 = .ok (.invokevirtual 57, 3) := by decide +kernel
theorem dX6_giveBack_9 : decode cX6_giveBack 9 = .ok (.aload_n 0, 1) := by decide +kernel
theorem dX6_giveBack_10 : decode cX6_giveBack 10 = .ok (.iload_n 1, 1) := by decide +kernel
theorem dX6_giveBack_11 : decode cX6_giveBack 11 = .ok (.iload_n 2, 1) := by decide +kernel
theorem dX6_giveBack_12 : decode cX6_giveBack 12 = .ok (.invokevirtual 128, 3) := by decide +kernel
theorem dX6_giveBack_15 : decode cX6_giveBack 15 = .ok (.aload_n 0, 1) := by decide +kernel
theorem dX6_giveBack_16 : decode cX6_giveBack 16 = .ok (.getfield 19, 3) := by decide +kernel
theorem dX6_giveBack_19 : decode cX6_giveBack 19 = .ok (.aload_n 0, 1) := by decide +kernel
theorem dX6_giveBack_20 : decode cX6_giveBack 20 = .ok (.getfield 10, 3) := by decide +kernel
theorem dX6_giveBack_23 : decode cX6_giveBack 23 = .ok (.invokevirtual 45, 3) := by decide +kernel
theorem dX6_giveBack_26 : decode cX6_giveBack 26 = .ok (.aload_n 0, 1) := by decide +kernel
theorem dX6_giveBack_27 : decode cX6_giveBack 27 = .ok (.getfield 10, 3) := by decide +kernel
theorem dX6_giveBack_30 : decode cX6_giveBack 30 = .ok (.getfield 60, 3) := by decide +kernel
theorem dX6_giveBack_33 : decode cX6_giveBack 33 = .ok (.iload_n 2, 1) := by decide +kernel
theorem dX6_giveBack_34 : decode cX6_giveBack 34 = .ok (.aaload, 1) := by decide +kernel
theorem dX6_giveBack_35 : decode cX6_giveBack 35 = .ok (.iconst 0, 1) := by decide +kernel
theorem dX6_giveBack_36 : decode cX6_giveBack 36 = .ok (.invokevirtual 131, 3) := by decide +kernel
theorem dX6_giveBack_39 : decode cX6_giveBack 39 = .ok (.aload_n 0, 1) := by decide +kernel
theorem dX6_giveBack_40 : decode cX6_giveBack 40 = .ok (.getfield 10, 3) := by decide +kernel
theorem dX6_giveBack_43 : decode cX6_giveBack 43 = .ok (.getfield 108, 3) := by decide +kernel
theorem dX6_giveBack_46 : decode cX6_giveBack 46 = .ok (.iload_n 1, 1) := by decide +kernel
theorem dX6_giveBack_47 : decode cX6_giveBack 47 = .ok (.aaload, 1) := by decide +kernel
theorem dX6_giveBack_48 : decode cX6_giveBack 48 = .ok (.dup, 1) := by decide +kernel
theorem dX6_giveBack_49 : decode cX6_giveBack 49 = .ok (.getfield 138, 3) := by decide +kernel
theorem dX6_giveBack_52 : decode cX6_giveBack 52 = .ok (.iconst 1, 1) := by decide +kernel
theorem dX6_giveBack_53 : decode cX6_giveBack 53 = .ok (.iadd, 1) := by decide +kernel
theorem dX6_giveBack_54 : decode cX6_giveBack 54 = .ok (.putfield 138, 3) := by decide +kernel
theorem dX6_giveBack_57 : decode cX6_giveBack 57 = .ok (.aload_n 0, 1) := by decide +kernel
theorem dX6_giveBack_58 : decode cX6_giveBack 58 = .ok (.getfield 10, 3) := by decide +kernel
theorem dX6_giveBack_61 : decode cX6_giveBack 61 = .ok (.iload_n 1, 1) := by decide +kernel
theorem dX6_giveBack_62 : decode cX6_giveBack 62 = .ok (.invokevirtual 141, 3) := by decide +kernel
theorem dX6_giveBack_65 : decode cX6_giveBack 65 = .ok (.ireturn, 1) := by decide +kernel
theorem dX6_renew_0 : decode cX6_renew 0 = .ok (.iload_n 1, 1) := by decide +kernel
theorem dX6_renew_1 : decode cX6_renew 1 = .ok (.invokestatic 105, 3) := by decide +kernel
theorem dX6_renew_4 : decode cX6_renew 4 = .ok (.aload_n 0, 1) := by decide +kernel
theorem dX6_renew_5 : decode cX6_renew 5 = .ok (.getfield 19, 3) := by decide +kernel
theorem dX6_renew_8 : decode cX6_renew 8 = .ok (.aload_n 0, 1) := by decide +kernel
theorem dX6_renew_9 : decode cX6_renew 9 = .ok (.getfield 10, 3) := by decide +kernel
theorem dX6_renew_12 : decode cX6_renew 12 = .ok (.invokevirtual 45, 3) := by decide +kernel
theorem dX6_renew_15 : decode cX6_renew 15 = .ok (.aload_n 0, 1) := by decide +kernel
theorem dX6_renew_16 : decode cX6_renew 16 = .ok (.getfield 10, 3) := by decide +kernel
theorem dX6_renew_19 : decode cX6_renew 19 = .ok (.iload_n 1, 1) := by decide +kernel
theorem dX6_renew_20 : decode cX6_renew 20 = .ok (.invokevirtual 145, 3) := by decide +kernel
theorem dX6_renew_23 : decode cX6_renew 23 = .ok (.aload_n 0, 1) := by decide +kernel
theorem dX6_renew_24 : decode cX6_renew 24 = .ok (.getfield 10, 3) := by decide +kernel
theorem dX6_renew_27 : decode cX6_renew 27 = .ok (.iload_n 1, 1) := by decide +kernel
theorem dX6_renew_28 : decode cX6_renew 28 = .ok (.invokevirtual 141, 3) := by decide +kernel
theorem dX6_renew_31 : decode cX6_renew 31 = .ok (.ireturn, 1) := by decide +kernel
theorem dX6_pass_0 : decode cX6_pass 0 = .ok (.iload_n 1, 1) := by decide +kernel
theorem dX6_pass_1 : decode cX6_pass 1 = .ok (.iconst 1, 1) := by decide +kernel
theorem dX6_pass_2 : decode cX6_pass 2 = .ok (.bipush 99, 2) := by decide +kernel
theorem dX6_pass_4 : decode cX6_pass 4 = .ok (.invokestatic 37, 3) := by decide +kernel
theorem dX6_pass_7 : decode cX6_pass 7 = .ok (.aload_n 0, 1) := by decide +kernel
theorem dX6_pass_8 : decode cX6_pass 8 = .ok (.getfield 10, 3) := by decide +kernel
theorem dX6_pass_11 : decode cX6_pass 11 = .ok (.getfield 148, 3) := by decide +kernel
theorem dX6_pass_14 : decode cX6_pass 14 = .ok (.iload_n 1, 1) := by decide +kernel
theorem dX6_pass_15 : decode cX6_pass 15 = .ok (.iadd, 1) := by decide +kernel
theorem dX6_pass_16 : decode cX6_pass 16 = .ok (.sipush 9999, 3) := by decide +kernel
theorem dX6_pass_19 : decode cX6_pass 19 = .ok (.if_icmp .le 13, 3) := by decide +kernel
theorem dX6_pass_22 : decode cX6_pass 22 = .ok (.new 70, 3) := by decide +kernel
theorem dX6_pass_25 : decode cX6_pass 25 = .ok (.dup, 1) := by decide +kernel
theorem dX6_pass_26 : decode cX6_pass 26 = .ok (.ldc 151, 2) := by decide +kernel
theorem dX6_pass_28 : decode cX6_pass 28 = .ok (.invokespecial 74, 3) := by decide +kernel
theorem dX6_pass_31 : decode cX6_pass 31 = .ok (.athrow, 1) := by decide +kernel
theorem dX6_pass_32 : decode cX6_pass 32 = .ok (.aload_n 0, 1) := by decide +kernel
theorem dX6_pass_33 : decode cX6_pass 33 = .ok (.getfield 19, 3) := by decide +kernel
theorem dX6_pass_36 : decode cX6_pass 36 = .ok (.aload_n 0, 1) := by decide +kernel
theorem dX6_pass_37 : decode cX6_pass 37 = .ok (.getfield 10, 3) := by decide +kernel
theorem dX6_pass_40 : decode cX6_pass 40 = .ok (.invokevirtual 45, 3) := by decide +kernel
theorem dX6_pass_43 : decode cX6_pass 43 = .ok (.aload_n 0, 1) := by decide +kernel
theorem dX6_pass_44 : decode cX6_pass 44 = .ok (.getfield 10, 3) := by decide +kernel
theorem dX6_pass_47 : decode cX6_pass 47 = .ok (.iload_n 1, 1) := by decide +kernel
theorem dX6_pass_48 : decode cX6_pass 48 = .ok (.invokevirtual 153, 3) := by decide +kernel
theorem dX6_pass_51 : decode cX6_pass 51 = .ok (.ireturn, 1) := by decide +kernel
theorem dX6_row_0 : decode cX6_row 0 = .ok (.aload_n 0, 1) := by decide +kernel
theorem dX6_row_1 : decode cX6_row 1 = .ok (.iload_n 1, 1) := by decide +kernel
theorem dX6_row_2 : decode cX6_row 2 = .ok (.invokevirtual 57, 3) := by decide +kernel
theorem dX6_row_5 : decode cX6_row 5 = .ok (.iload_n 2, 1) := by decide +kernel
theorem dX6_row_6 : decode cX6_row 6 = .ok (.iconst 0, 1) := by decide +kernel
theorem dX6_row_7 : decode cX6_row 7 = .ok (.bipush 10, 2) := by decide +kernel
theorem dX6_row_9 : decode cX6_row 9 = .ok (.invokestatic 37, 3) := by decide +kernel
theorem dX6_row_12 : decode cX6_row 12 = .ok (.aload_n 0, 1) := by decide +kernel
theorem dX6_row_13 : decode cX6_row 13 = .ok (.getfield 10, 3) := by decide +kernel
theorem dX6_row_16 : decode cX6_row 16 = .ok (.getfield 60, 3) := by decide +kernel
theorem dX6_row_19 : decode cX6_row 19 = .ok (.iload_n 1, 1) := by decide +kernel
theorem dX6_row_20 : decode cX6_row 20 = .ok (.aaload, 1) := by decide +kernel
theorem dX6_row_21 : decode cX6_row 21 = .ok (.astore_n 3, 1) := by decide +kernel
theorem dX6_row_22 : decode cX6_row 22 = .ok (.iload_n 2, 1) := by decide +kernel
theorem dX6_row_23 : decode cX6_row 23 = .ok (.tableswitch 126 0 9 #[53, 58, 63, 68, 73, 78, 83, 88, 93, 117], 53) := by decide +kernel
theorem dX6_row_76 : decode cX6_row 76 = .ok (.aload_n 3, 1) := by decide +kernel
theorem dX6_row_77 : decode cX6_row 77 = .ok (.getfield 195, 3) := by decide +kernel
theorem dX6_row_80 : decode cX6_row 80 = .ok (.ireturn, 1) := by decide +kernel
theorem dX6_row_81 : decode cX6_row 81 = .ok (.aload_n 3, 1) := by decide +kernel
theorem dX6_row_82 : decode cX6_row 82 = .ok (.getfield 77, 3) := by decide +kernel
theorem dX6_row_85 : decode cX6_row 85 = .ok (.ireturn, 1) := by decide +kernel
theorem dX6_row_86 : decode cX6_row 86 = .ok (.aload_n 3, 1) := by decide +kernel
theorem dX6_row_87 : decode cX6_row 87 = .ok (.getfield 198, 3) := by decide +kernel
theorem dX6_row_90 : decode cX6_row 90 = .ok (.ireturn, 1) := by decide +kernel
theorem dX6_row_91 : decode cX6_row 91 = .ok (.aload_n 3, 1) := by decide +kernel
theorem dX6_row_92 : decode cX6_row 92 = .ok (.getfield 80, 3) := by decide +kernel
theorem dX6_row_95 : decode cX6_row 95 = .ok (.ireturn, 1) := by decide +kernel
theorem dX6_row_96 : decode cX6_row 96 = .ok (.aload_n 3, 1) := by decide +kernel
theorem dX6_row_97 : decode cX6_row 97 = .ok (.getfield 201, 3) := by decide +kernel
theorem dX6_row_100 : decode cX6_row 100 = .ok (.ireturn, 1) := by decide +kernel
theorem dX6_row_101 : decode cX6_row 101 = .ok (.aload_n 3, 1) := by decide +kernel
theorem dX6_row_102 : decode cX6_row 102 = .ok (.getfield 204, 3) := by decide +kernel
theorem dX6_row_105 : decode cX6_row 105 = .ok (.ireturn, 1) := by decide +kernel
theorem dX6_row_106 : decode cX6_row 106 = .ok (.aload_n 3, 1) := by decide +kernel
theorem dX6_row_107 : decode cX6_row 107 = .ok (.getfield 85, 3) := by decide +kernel
theorem dX6_row_110 : decode cX6_row 110 = .ok (.ireturn, 1) := by decide +kernel
theorem dX6_row_111 : decode cX6_row 111 = .ok (.aload_n 3, 1) := by decide +kernel
theorem dX6_row_112 : decode cX6_row 112 = .ok (.getfield 207, 3) := by decide +kernel
theorem dX6_row_115 : decode cX6_row 115 = .ok (.ireturn, 1) := by decide +kernel
theorem dX6_row_116 : decode cX6_row 116 = .ok (.aload_n 3, 1) := by decide +kernel
theorem dX6_row_117 : decode cX6_row 117 = .ok (.invokevirtual 64, 3) := by decide +kernel
theorem dX6_row_120 : decode cX6_row 120 = .ok (.ifCond .eq 18, 3) := by decide +kernel
theorem dX6_row_123 : decode cX6_row 123 = .ok (.aload_n 0, 1) := by decide +kernel
theorem dX6_row_124 : decode cX6_row 124 = .ok (.getfield 10, 3) := by decide +kernel
theorem dX6_row_127 : decode cX6_row 127 = .ok (.iload_n 1, 1) := by decide +kernel
theorem dX6_row_128 : decode cX6_row 128 = .ok (.invokevirtual 210, 3) := by decide +kernel
theorem dX6_row_131 : decode cX6_row 131 = .ok (.ifCond .eq 7, 3) := by decide +kernel
theorem dX6_row_134 : decode cX6_row 134 = .ok (.iconst 1, 1) := by decide +kernel
theorem dX6_row_135 : decode cX6_row 135 = .ok (.goto 4, 3) := by decide +kernel
theorem dX6_row_138 : decode cX6_row 138 = .ok (.iconst 0, 1) := by decide +kernel
theorem dX6_row_139 : decode cX6_row 139 = .ok (.ireturn, 1) := by decide +kernel
theorem dX6_row_140 : decode cX6_row 140 = .ok (.aload_n 0, 1) := by decide +kernel
theorem dX6_row_141 : decode cX6_row 141 = .ok (.getfield 10, 3) := by decide +kernel
theorem dX6_row_144 : decode cX6_row 144 = .ok (.iload_n 1, 1) := by decide +kernel
theorem dX6_row_145 : decode cX6_row 145 = .ok (.invokevirtual 214, 3) := by decide +kernel
theorem dX6_row_148 : decode cX6_row 148 = .ok (.ireturn, 1) := by decide +kernel
theorem dX6_row_149 : decode cX6_row 149 = .ok (.aload_n 0, 1) := by decide +kernel
theorem dX6_row_150 : decode cX6_row 150 = .ok (.getfield 10, 3) := by decide +kernel
theorem dX6_row_153 : decode cX6_row 153 = .ok (.getfield 148, 3) := by decide +kernel
theorem dX6_row_156 : decode cX6_row 156 = .ok (.aload_n 3, 1) := by decide +kernel
theorem dX6_row_157 : decode cX6_row 157 = .ok (.getfield 217, 3) := by decide +kernel
theorem dX6_row_160 : decode cX6_row 160 = .ok (.isub, 1) := by decide +kernel
theorem dX6_row_161 : decode cX6_row 161 = .ok (.ireturn, 1) := by decide +kernel
theorem dX6_reader_0 : decode cX6_reader 0 = .ok (.iload_n 1, 1) := by decide +kernel
theorem dX6_reader_1 : decode cX6_reader 1 = .ok (.invokestatic 105, 3) := by decide +kernel
theorem dX6_reader_4 : decode cX6_reader 4 = .ok (.iload_n 2, 1) := by decide +kernel
theorem dX6_reader_5 : decode cX6_reader 5 = .ok (.iconst 0, 1) := by decide +kernel
theorem dX6_reader_6 : decode cX6_reader 6 = .ok (.bipush 6, 2) := by decide +kernel
theorem dX6_reader_8 : decode cX6_reader 8 = .ok (.invokestatic 37, 3) := by decide +kernel
theorem dX6_reader_11 : decode cX6_reader 11 = .ok (.aload_n 0, 1) := by decide +kernel
theorem dX6_reader_12 : decode cX6_reader 12 = .ok (.getfield 10, 3) := by decide +kernel
theorem dX6_reader_15 : decode cX6_reader 15 = .ok (.getfield 108, 3) := by decide +kernel
theorem dX6_reader_18 : decode cX6_reader 18 = .ok (.iload_n 1, 1) := by decide +kernel
theorem dX6_reader_19 : decode cX6_reader 19 = .ok (.aaload, 1) := by decide +kernel
theorem dX6_reader_20 : decode cX6_reader 20 = .ok (.astore_n 3, 1) := by decide +kernel
theorem dX6_reader_21 : decode cX6_reader 21 = .ok (.iload_n 2, 1) := by decide +kernel
theorem dX6_reader_22 : decode cX6_reader 22 = .ok (.tableswitch 76 0 5 #[38, 43, 52, 57, 62, 67], 38) := by decide +kernel
theorem dX6_reader_60 : decode cX6_reader 60 = .ok (.aload_n 3, 1) := by decide +kernel
theorem dX6_reader_61 : decode cX6_reader 61 = .ok (.getfield 112, 3) := by decide +kernel
theorem dX6_reader_64 : decode cX6_reader 64 = .ok (.ireturn, 1) := by decide +kernel
theorem dX6_reader_65 : decode cX6_reader 65 = .ok (.aload_n 0, 1) := by decide +kernel
theorem dX6_reader_66 : decode cX6_reader 66 = .ok (.getfield 10, 3) := by decide +kernel
theorem dX6_reader_69 : decode cX6_reader 69 = .ok (.iload_n 1, 1) := by decide +kernel
theorem dX6_reader_70 : decode cX6_reader 70 = .ok (.invokevirtual 141, 3) := by decide +kernel
theorem dX6_reader_73 : decode cX6_reader 73 = .ok (.ireturn, 1) := by decide +kernel
theorem dX6_reader_74 : decode cX6_reader 74 = .ok (.aload_n 3, 1) := by decide +kernel
theorem dX6_reader_75 : decode cX6_reader 75 = .ok (.getfield 137, 3) := by decide +kernel
theorem dX6_reader_78 : decode cX6_reader 78 = .ok (.ireturn, 1) := by decide +kernel
theorem dX6_reader_79 : decode cX6_reader 79 = .ok (.aload_n 3, 1) := by decide +kernel
theorem dX6_reader_80 : decode cX6_reader 80 = .ok (.getfield 138, 3) := by decide +kernel
theorem dX6_reader_83 : decode cX6_reader 83 = .ok (.ireturn, 1) := by decide +kernel
theorem dX6_reader_84 : decode cX6_reader 84 = .ok (.aload_n 3, 1) := by decide +kernel
theorem dX6_reader_85 : decode cX6_reader 85 = .ok (.getfield 220, 3) := by decide +kernel
theorem dX6_reader_88 : decode cX6_reader 88 = .ok (.ireturn, 1) := by decide +kernel
theorem dX6_reader_89 : decode cX6_reader 89 = .ok (.aload_n 0, 1) := by decide +kernel
theorem dX6_reader_90 : decode cX6_reader 90 = .ok (.getfield 10, 3) := by decide +kernel
theorem dX6_reader_93 : decode cX6_reader 93 = .ok (.iload_n 1, 1) := by decide +kernel
theorem dX6_reader_94 : decode cX6_reader 94 = .ok (.invokevirtual 223, 3) := by decide +kernel
theorem dX6_reader_97 : decode cX6_reader 97 = .ok (.ireturn, 1) := by decide +kernel
theorem dX6_reader_98 : decode cX6_reader 98 = .ok (.aload_n 0, 1) := by decide +kernel
theorem dX6_reader_99 : decode cX6_reader 99 = .ok (.getfield 33, 3) := by decide +kernel
theorem dX6_reader_102 : decode cX6_reader 102 = .ok (.aload_n 0, 1) := by decide +kernel
theorem dX6_reader_103 : decode cX6_reader 103 = .ok (.getfield 10, 3) := by decide +kernel
theorem dX6_reader_106 : decode cX6_reader 106 = .ok (.iload_n 1, 1) := by decide +kernel
theorem dX6_reader_107 : decode cX6_reader 107 = .ok (.iconst 1, 1) := by decide +kernel
theorem dX6_reader_108 : decode cX6_reader 108 = .ok (.invokevirtual 117, 3) := by decide +kernel
theorem dX6_reader_111 : decode cX6_reader 111 = .ok (.aload_n 0, 1) := by decide +kernel
theorem dX6_reader_112 : decode cX6_reader 112 = .ok (.getfield 33, 3) := by decide +kernel
theorem dX6_reader_115 : decode cX6_reader 115 = .ok (.getfield 226, 3) := by decide +kernel
theorem dX6_reader_118 : decode cX6_reader 118 = .ok (.ireturn, 1) := by decide +kernel
theorem dX6_count_0 : decode cX6_count 0 = .ok (.iload_n 1, 1) := by decide +kernel
theorem dX6_count_1 : decode cX6_count 1 = .ok (.iconst 0, 1) := by decide +kernel
theorem dX6_count_2 : decode cX6_count 2 = .ok (.bipush 12, 2) := by decide +kernel
theorem dX6_count_4 : decode cX6_count 4 = .ok (.invokestatic 37, 3) := by decide +kernel
theorem dX6_count_7 : decode cX6_count 7 = .ok (.iload_n 1, 1) := by decide +kernel
theorem dX6_count_8 : decode cX6_count 8 = .ok (.tableswitch 164 0 11 #[64, 72, 80, 89, 98, 107, 116, 124, 132, 140, 148, 156], 64) := by decide +kernel
theorem dX6_count_72 : decode cX6_count 72 = .ok (.aload_n 0, 1) := by decide +kernel
theorem dX6_count_73 : decode cX6_count 73 = .ok (.getfield 10, 3) := by decide +kernel
theorem dX6_count_76 : decode cX6_count 76 = .ok (.getfield 148, 3) := by decide +kernel
theorem dX6_count_79 : decode cX6_count 79 = .ok (.ireturn, 1) := by decide +kernel
theorem dX6_count_80 : decode cX6_count 80 = .ok (.aload_n 0, 1) := by decide +kernel
theorem dX6_count_81 : decode cX6_count 81 = .ok (.getfield 10, 3) := by decide +kernel
theorem dX6_count_84 : decode cX6_count 84 = .ok (.getfield 53, 3) := by decide +kernel
theorem dX6_count_87 : decode cX6_count 87 = .ok (.ireturn, 1) := by decide +kernel
theorem dX6_count_88 : decode cX6_count 88 = .ok (.aload_n 0, 1) := by decide +kernel
theorem dX6_count_89 : decode cX6_count 89 = .ok (.getfield 10, 3) := by decide +kernel
theorem dX6_count_92 : decode cX6_count 92 = .ok (.iconst 0, 1) := by decide +kernel
theorem dX6_count_93 : decode cX6_count 93 = .ok (.invokevirtual 233, 3) := by decide +kernel
theorem dX6_count_96 : decode cX6_count 96 = .ok (.ireturn, 1) := by decide +kernel
theorem dX6_count_97 : decode cX6_count 97 = .ok (.aload_n 0, 1) := by decide +kernel
theorem dX6_count_98 : decode cX6_count 98 = .ok (.getfield 10, 3) := by decide +kernel
theorem dX6_count_101 : decode cX6_count 101 = .ok (.iconst 1, 1) := by decide +kernel
theorem dX6_count_102 : decode cX6_count 102 = .ok (.invokevirtual 233, 3) := by decide +kernel
theorem dX6_count_105 : decode cX6_count 105 = .ok (.ireturn, 1) := by decide +kernel
theorem dX6_count_106 : decode cX6_count 106 = .ok (.aload_n 0, 1) := by decide +kernel
theorem dX6_count_107 : decode cX6_count 107 = .ok (.getfield 10, 3) := by decide +kernel
theorem dX6_count_110 : decode cX6_count 110 = .ok (.iconst 2, 1) := by decide +kernel
theorem dX6_count_111 : decode cX6_count 111 = .ok (.invokevirtual 233, 3) := by decide +kernel
theorem dX6_count_114 : decode cX6_count 114 = .ok (.ireturn, 1) := by decide +kernel
theorem dX6_count_115 : decode cX6_count 115 = .ok (.aload_n 0, 1) := by decide +kernel
theorem dX6_count_116 : decode cX6_count 116 = .ok (.getfield 10, 3) := by decide +kernel
theorem dX6_count_119 : decode cX6_count 119 = .ok (.iconst 3, 1) := by decide +kernel
theorem dX6_count_120 : decode cX6_count 120 = .ok (.invokevirtual 233, 3) := by decide +kernel
theorem dX6_count_123 : decode cX6_count 123 = .ok (.ireturn, 1) := by decide +kernel
theorem dX6_count_124 : decode cX6_count 124 = .ok (.aload_n 0, 1) := by decide +kernel
theorem dX6_count_125 : decode cX6_count 125 = .ok (.getfield 10, 3) := by decide +kernel
theorem dX6_count_128 : decode cX6_count 128 = .ok (.getfield 236, 3) := by decide +kernel
theorem dX6_count_131 : decode cX6_count 131 = .ok (.ireturn, 1) := by decide +kernel
theorem dX6_count_132 : decode cX6_count 132 = .ok (.aload_n 0, 1) := by decide +kernel
theorem dX6_count_133 : decode cX6_count 133 = .ok (.getfield 10, 3) := by decide +kernel
theorem dX6_count_136 : decode cX6_count 136 = .ok (.getfield 134, 3) := by decide +kernel
theorem dX6_count_139 : decode cX6_count 139 = .ok (.ireturn, 1) := by decide +kernel
theorem dX6_count_140 : decode cX6_count 140 = .ok (.aload_n 0, 1) := by decide +kernel
theorem dX6_count_141 : decode cX6_count 141 = .ok (.getfield 10, 3) := by decide +kernel
theorem dX6_count_144 : decode cX6_count 144 = .ok (.invokevirtual 239, 3) := by decide +kernel
theorem dX6_count_147 : decode cX6_count 147 = .ok (.ireturn, 1) := by decide +kernel
theorem dX6_count_148 : decode cX6_count 148 = .ok (.aload_n 0, 1) := by decide +kernel
theorem dX6_count_149 : decode cX6_count 149 = .ok (.getfield 10, 3) := by decide +kernel
theorem dX6_count_152 : decode cX6_count 152 = .ok (.getfield 242, 3) := by decide +kernel
theorem dX6_count_155 : decode cX6_count 155 = .ok (.ireturn, 1) := by decide +kernel
theorem dX6_count_156 : decode cX6_count 156 = .ok (.aload_n 0, 1) := by decide +kernel
theorem dX6_count_157 : decode cX6_count 157 = .ok (.getfield 10, 3) := by decide +kernel
theorem dX6_count_160 : decode cX6_count 160 = .ok (.invokevirtual 243, 3) := by decide +kernel
theorem dX6_count_163 : decode cX6_count 163 = .ok (.ireturn, 1) := by decide +kernel
theorem dX6_count_164 : decode cX6_count 164 = .ok (.aload_n 0, 1) := by decide +kernel
theorem dX6_count_165 : decode cX6_count 165 = .ok (.getfield 10, 3) := by decide +kernel
theorem dX6_count_168 : decode cX6_count 168 = .ok (.invokevirtual 246, 3) := by decide +kernel
theorem dX6_count_171 : decode cX6_count 171 = .ok (.ireturn, 1) := by decide +kernel
theorem dX6_count_172 : decode cX6_count 172 = .ok (.aload_n 0, 1) := by decide +kernel
theorem dX6_count_173 : decode cX6_count 173 = .ok (.getfield 19, 3) := by decide +kernel
theorem dX6_count_176 : decode cX6_count 176 = .ok (.getfield 189, 3) := by decide +kernel
theorem dX6_count_179 : decode cX6_count 179 = .ok (.ireturn, 1) := by decide +kernel
theorem dX6_setting_0 : decode cX6_setting 0 = .ok (.iload_n 1, 1) := by decide +kernel
theorem dX6_setting_1 : decode cX6_setting 1 = .ok (.invokestatic 92, 3) := by decide +kernel
theorem dX6_setting_4 : decode cX6_setting 4 = .ok (.aload_n 0, 1) := by decide +kernel
theorem dX6_setting_5 : decode cX6_setting 5 = .ok (.getfield 10, 3) := by decide +kernel
theorem dX6_setting_8 : decode cX6_setting 8 = .ok (.getfield 102, 3) := by decide +kernel
theorem dX6_setting_11 : decode cX6_setting 11 = .ok (.iload_n 1, 1) := by decide +kernel
theorem dX6_setting_12 : decode cX6_setting 12 = .ok (.iaload, 1) := by decide +kernel
theorem dX6_setting_13 : decode cX6_setting 13 = .ok (.ireturn, 1) := by decide +kernel
theorem dX6_ifTaken_0 : decode cX6_ifTaken 0 = .ok (.iload_n 1, 1) := by decide +kernel
theorem dX6_ifTaken_1 : decode cX6_ifTaken 1 = .ok (.invokestatic 105, 3) := by decide +kernel
theorem dX6_ifTaken_4 : decode cX6_ifTaken 4 = .ok (.iload_n 2, 1) := by decide +kernel
theorem dX6_ifTaken_5 : decode cX6_ifTaken 5 = .ok (.iconst 1, 1) := by decide +kernel
theorem dX6_ifTaken_6 : decode cX6_ifTaken 6 = .ok (.bipush 24, 2) := by decide +kernel
theorem dX6_ifTaken_8 : decode cX6_ifTaken 8 = .ok (.invokestatic 37, 3) := by decide +kernel
theorem dX6_ifTaken_11 : decode cX6_ifTaken 11 = .ok (.iload_n 3, 1) := by decide +kernel
theorem dX6_ifTaken_12 : decode cX6_ifTaken 12 = .ok (.iconst 0, 1) := by decide +kernel
theorem dX6_ifTaken_13 : decode cX6_ifTaken 13 = .ok (.iconst 2, 1) := by decide +kernel
theorem dX6_ifTaken_14 : decode cX6_ifTaken 14 = .ok (.invokestatic 37, 3) := by decide +kernel
theorem dX6_ifTaken_17 : decode cX6_ifTaken 17 = .ok (.aload_n 0, 1) := by decide +kernel
theorem dX6_ifTaken_18 : decode cX6_ifTaken 18 = .ok (.getfield 33, 3) := by decide +kernel
theorem dX6_ifTaken_21 : decode cX6_ifTaken 21 = .ok (.aload_n 0, 1) := by decide +kernel
theorem dX6_ifTaken_22 : decode cX6_ifTaken 22 = .ok (.getfield 10, 3) := by decide +kernel
theorem dX6_ifTaken_25 : decode cX6_ifTaken 25 = .ok (.iload_n 1, 1) := by decide +kernel
theorem dX6_ifTaken_26 : decode cX6_ifTaken 26 = .ok (.iload_n 2, 1) := by decide +kernel
theorem dX6_ifTaken_27 : decode cX6_ifTaken 27 = .ok (.invokevirtual 117, 3) := by decide +kernel
theorem dX6_ifTaken_30 : decode cX6_ifTaken 30 = .ok (.iload_n 3, 1) := by decide +kernel
theorem dX6_ifTaken_31 : decode cX6_ifTaken 31 = .ok (.lookupswitch 41 #[(0, 25), (1, 33)], 25) := by decide +kernel
theorem dX6_ifTaken_56 : decode cX6_ifTaken 56 = .ok (.aload_n 0, 1) := by decide +kernel
theorem dX6_ifTaken_57 : decode cX6_ifTaken 57 = .ok (.getfield 33, 3) := by decide +kernel
theorem dX6_ifTaken_60 : decode cX6_ifTaken 60 = .ok (.getfield 125, 3) := by decide +kernel
theorem dX6_ifTaken_63 : decode cX6_ifTaken 63 = .ok (.ireturn, 1) := by decide +kernel
theorem dX6_ifTaken_64 : decode cX6_ifTaken 64 = .ok (.aload_n 0, 1) := by decide +kernel
theorem dX6_ifTaken_65 : decode cX6_ifTaken 65 = .ok (.getfield 33, 3) := by decide +kernel
theorem dX6_ifTaken_68 : decode cX6_ifTaken 68 = .ok (.getfield 249, 3) := by decide +kernel
theorem dX6_ifTaken_71 : decode cX6_ifTaken 71 = .ok (.ireturn, 1) := by decide +kernel
theorem dX6_ifTaken_72 : decode cX6_ifTaken 72 = .ok (.aload_n 0, 1) := by decide +kernel
theorem dX6_ifTaken_73 : decode cX6_ifTaken 73 = .ok (.getfield 33, 3) := by decide +kernel
theorem dX6_ifTaken_76 : decode cX6_ifTaken 76 = .ok (.getfield 252, 3) := by decide +kernel
theorem dX6_ifTaken_79 : decode cX6_ifTaken 79 = .ok (.ireturn, 1) := by decide +kernel
theorem dX6_ifPassed_0 : decode cX6_ifPassed 0 = .ok (.iload_n 1, 1) := by decide +kernel
theorem dX6_ifPassed_1 : decode cX6_ifPassed 1 = .ok (.iconst 0, 1) := by decide +kernel
theorem dX6_ifPassed_2 : decode cX6_ifPassed 2 = .ok (.sipush 200, 3) := by decide +kernel
theorem dX6_ifPassed_5 : decode cX6_ifPassed 5 = .ok (.invokestatic 37, 3) := by decide +kernel
theorem dX6_ifPassed_8 : decode cX6_ifPassed 8 = .ok (.iload_n 2, 1) := by decide +kernel
theorem dX6_ifPassed_9 : decode cX6_ifPassed 9 = .ok (.iconst 0, 1) := by decide +kernel
theorem dX6_ifPassed_10 : decode cX6_ifPassed 10 = .ok (.iconst 1, 1) := by decide +kernel
theorem dX6_ifPassed_11 : decode cX6_ifPassed 11 = .ok (.invokestatic 37, 3) := by decide +kernel
theorem dX6_ifPassed_14 : decode cX6_ifPassed 14 = .ok (.aload_n 0, 1) := by decide +kernel
theorem dX6_ifPassed_15 : decode cX6_ifPassed 15 = .ok (.getfield 10, 3) := by decide +kernel
theorem dX6_ifPassed_18 : decode cX6_ifPassed 18 = .ok (.getfield 148, 3) := by decide +kernel
theorem dX6_ifPassed_21 : decode cX6_ifPassed 21 = .ok (.iload_n 1, 1) := by decide +kernel
theorem dX6_ifPassed_22 : decode cX6_ifPassed 22 = .ok (.iadd, 1) := by decide +kernel
theorem dX6_ifPassed_23 : decode cX6_ifPassed 23 = .ok (.istore_n 3, 1) := by decide +kernel
theorem dX6_ifPassed_24 : decode cX6_ifPassed 24 = .ok (.iload_n 2, 1) := by decide +kernel
theorem dX6_ifPassed_25 : decode cX6_ifPassed 25 = .ok (.ifCond .ne 14, 3) := by decide +kernel
theorem dX6_ifPassed_28 : decode cX6_ifPassed 28 = .ok (.aload_n 0, 1) := by decide +kernel
theorem dX6_ifPassed_29 : decode cX6_ifPassed 29 = .ok (.getfield 10, 3) := by decide +kernel
theorem dX6_ifPassed_32 : decode cX6_ifPassed 32 = .ok (.iload_n 3, 1) := by decide +kernel
theorem dX6_ifPassed_33 : decode cX6_ifPassed 33 = .ok (.invokevirtual 255, 3) := by decide +kernel
theorem dX6_ifPassed_36 : decode cX6_ifPassed 36 = .ok (.goto 11, 3) := by decide +kernel
theorem dX6_ifPassed_39 : decode cX6_ifPassed 39 = .ok (.aload_n 0, 1) := by decide +kernel
theorem dX6_ifPassed_40 : decode cX6_ifPassed 40 = .ok (.getfield 10, 3) := by decide +kernel
theorem dX6_ifPassed_43 : decode cX6_ifPassed 43 = .ok (.iload_n 3, 1) := by decide +kernel
theorem dX6_ifPassed_44 : decode cX6_ifPassed 44 = .ok (.invokevirtual 258, 3) := by decide +kernel
theorem dX6_ifPassed_47 : decode cX6_ifPassed 47 = .ok (.ireturn, 1) := by decide +kernel
theorem dX6_freest_0 : decode cX6_freest 0 = .ok (.iconst (-1), 1) := by decide +kernel
theorem dX6_freest_1 : decode cX6_freest 1 = .ok (.istore_n 1, 1) := by decide +kernel
theorem dX6_freest_2 : decode cX6_freest 2 = .ok (.iconst 0, 1) := by decide +kernel
theorem dX6_freest_3 : decode cX6_freest 3 = .ok (.istore_n 2, 1) := by decide +kernel
theorem dX6_freest_4 : decode cX6_freest 4 = .ok (.iconst 0, 1) := by decide +kernel
theorem dX6_freest_5 : decode cX6_freest 5 = .ok (.istore_n 3, 1) := by decide +kernel
theorem dX6_freest_6 : decode cX6_freest 6 = .ok (.iload_n 3, 1) := by decide +kernel
theorem dX6_freest_7 : decode cX6_freest 7 = .ok (.iconst 4, 1) := by decide +kernel
theorem dX6_freest_8 : decode cX6_freest 8 = .ok (.if_icmp .ge 44, 3) := by decide +kernel
theorem dX6_freest_11 : decode cX6_freest 11 = .ok (.aload_n 0, 1) := by decide +kernel
theorem dX6_freest_12 : decode cX6_freest 12 = .ok (.getfield 33, 3) := by decide +kernel
theorem dX6_freest_15 : decode cX6_freest 15 = .ok (.aload_n 0, 1) := by decide +kernel
theorem dX6_freest_16 : decode cX6_freest 16 = .ok (.getfield 10, 3) := by decide +kernel
theorem dX6_freest_19 : decode cX6_freest 19 = .ok (.iload_n 3, 1) := by decide +kernel
theorem dX6_freest_20 : decode cX6_freest 20 = .ok (.bipush 24, 2) := by decide +kernel
theorem dX6_freest_22 : decode cX6_freest 22 = .ok (.invokevirtual 117, 3) := by decide +kernel
theorem dX6_freest_25 : decode cX6_freest 25 = .ok (.aload_n 0, 1) := by decide +kernel
theorem dX6_freest_26 : decode cX6_freest 26 = .ok (.getfield 33, 3) := by decide +kernel
theorem dX6_freest_29 : decode cX6_freest 29 = .ok (.getfield 125, 3) := by decide +kernel
theorem dX6_freest_32 : decode cX6_freest 32 = .ok (.iload_n 2, 1) := by decide +kernel
theorem dX6_freest_33 : decode cX6_freest 33 = .ok (.if_icmp .le 13, 3) := by decide +kernel
theorem dX6_freest_36 : decode cX6_freest 36 = .ok (.iload_n 3, 1) := by decide +kernel
theorem dX6_freest_37 : decode cX6_freest 37 = .ok (.istore_n 1, 1) := by decide +kernel
theorem dX6_freest_38 : decode cX6_freest 38 = .ok (.aload_n 0, 1) := by decide +kernel
theorem dX6_freest_39 : decode cX6_freest 39 = .ok (.getfield 33, 3) := by decide +kernel
theorem dX6_freest_42 : decode cX6_freest 42 = .ok (.getfield 125, 3) := by decide +kernel
theorem dX6_freest_45 : decode cX6_freest 45 = .ok (.istore_n 2, 1) := by decide +kernel
theorem dX6_freest_46 : decode cX6_freest 46 = .ok (.iinc 3 1, 3) := by decide +kernel
theorem dX6_freest_49 : decode cX6_freest 49 = .ok (.goto (-43), 3) := by decide +kernel
theorem dX6_freest_52 : decode cX6_freest 52 = .ok (.iload_n 1, 1) := by decide +kernel
theorem dX6_freest_53 : decode cX6_freest 53 = .ok (.ireturn, 1) := by decide +kernel
theorem dX6_fairness_0 : decode cX6_fairness 0 = .ok (.dconst 1, 1) := by decide +kernel
theorem dX6_fairness_1 : decode cX6_fairness 1 = .ok (.dconst 1, 1) := by decide +kernel
theorem dX6_fairness_2 : decode cX6_fairness 2 = .ok (.aload_n 0, 1) := by decide +kernel
theorem dX6_fairness_3 : decode cX6_fairness 3 = .ok (.getfield 10, 3) := by decide +kernel
theorem dX6_fairness_6 : decode cX6_fairness 6 = .ok (.invokevirtual 261, 3) := by decide +kernel
theorem dX6_fairness_9 : decode cX6_fairness 9 = .ok (.i2d, 1) := by decide +kernel
theorem dX6_fairness_10 : decode cX6_fairness 10 = .ok (.dadd, 1) := by decide +kernel
theorem dX6_fairness_11 : decode cX6_fairness 11 = .ok (.ddiv, 1) := by decide +kernel
theorem dX6_fairness_12 : decode cX6_fairness 12 = .ok (.dreturn, 1) := by decide +kernel
theorem dX6_requireWithin_0 : decode cX6_requireWithin 0 = .ok (.iload_n 0, 1) := by decide +kernel
theorem dX6_requireWithin_1 : decode cX6_requireWithin 1 = .ok (.iload_n 1, 1) := by decide +kernel
theorem dX6_requireWithin_2 : decode cX6_requireWithin 2 = .ok (.if_icmp .lt 8, 3) := by decide +kernel
theorem dX6_requireWithin_5 : decode cX6_requireWithin 5 = .ok (.iload_n 0, 1) := by decide +kernel
theorem dX6_requireWithin_6 : decode cX6_requireWithin 6 = .ok (.iload_n 2, 1) := by decide +kernel
theorem dX6_requireWithin_7 : decode cX6_requireWithin 7 = .ok (.if_icmp .le 14, 3) := by decide +kernel
theorem dX6_requireWithin_10 : decode cX6_requireWithin 10 = .ok (.new 170, 3) := by decide +kernel
theorem dX6_requireWithin_13 : decode cX6_requireWithin 13 = .ok (.dup, 1) := by decide +kernel
theorem dX6_requireWithin_14 : decode cX6_requireWithin 14 = .ok (.ldc_w 324, 3) := by decide +kernel
theorem dX6_requireWithin_17 : decode cX6_requireWithin 17 = .ok (.invokespecial 174, 3) := by decide +kernel
theorem dX6_requireWithin_20 : decode cX6_requireWithin 20 = .ok (.athrow, 1) := by decide +kernel
theorem dX6_requireWithin_21 : decode cX6_requireWithin 21 = .ok (.return_, 1) := by decide +kernel
theorem dX6_requireReader_0 : decode cX6_requireReader 0 = .ok (.iload_n 0, 1) := by decide +kernel
theorem dX6_requireReader_1 : decode cX6_requireReader 1 = .ok (.ifCond .lt 8, 3) := by decide +kernel
theorem dX6_requireReader_4 : decode cX6_requireReader 4 = .ok (.iload_n 0, 1) := by decide +kernel
theorem dX6_requireReader_5 : decode cX6_requireReader 5 = .ok (.iconst 4, 1) := by decide +kernel
theorem dX6_requireReader_6 : decode cX6_requireReader 6 = .ok (.if_icmp .lt 14, 3) := by decide +kernel
theorem dX6_requireReader_9 : decode cX6_requireReader 9 = .ok (.new 326, 3) := by decide +kernel
theorem dX6_requireReader_12 : decode cX6_requireReader 12 = .ok (.dup, 1) := by decide +kernel
theorem dX6_requireReader_13 : decode cX6_requireReader 13 = .ok (.ldc_w 328, 3) := by decide +kernel
theorem dX6_requireReader_16 : decode cX6_requireReader 16 = .ok (.invokespecial 330, 3) := by decide +kernel
theorem dX6_requireReader_19 : decode cX6_requireReader 19 = .ok (.athrow, 1) := by decide +kernel
theorem dX6_requireReader_20 : decode cX6_requireReader 20 = .ok (.return_, 1) := by decide +kernel
theorem dX6_requireSetting_0 : decode cX6_requireSetting 0 = .ok (.iload_n 0, 1) := by decide +kernel
theorem dX6_requireSetting_1 : decode cX6_requireSetting 1 = .ok (.ifCond .lt 8, 3) := by decide +kernel
theorem dX6_requireSetting_4 : decode cX6_requireSetting 4 = .ok (.iload_n 0, 1) := by decide +kernel
theorem dX6_requireSetting_5 : decode cX6_requireSetting 5 = .ok (.iconst 4, 1) := by decide +kernel
theorem dX6_requireSetting_6 : decode cX6_requireSetting 6 = .ok (.if_icmp .lt 14, 3) := by decide +kernel
theorem dX6_requireSetting_9 : decode cX6_requireSetting 9 = .ok (.new 326, 3) := by decide +kernel
theorem dX6_requireSetting_12 : decode cX6_requireSetting 12 = .ok (.dup, 1) := by decide +kernel
theorem dX6_requireSetting_13 : decode cX6_requireSetting 13 = .ok (.ldc_w 331, 3) := by decide +kernel
theorem dX6_requireSetting_16 : decode cX6_requireSetting 16 = .ok (.invokespecial 330, 3) := by decide +kernel
theorem dX6_requireSetting_19 : decode cX6_requireSetting 19 = .ok (.athrow, 1) := by decide +kernel
theorem dX6_requireSetting_20 : decode cX6_requireSetting 20 = .ok (.return_, 1) := by decide +kernel
theorem dX6_requireRow_0 : decode cX6_requireRow 0 = .ok (.iload_n 1, 1) := by decide +kernel
theorem dX6_requireRow_1 : decode cX6_requireRow 1 = .ok (.ifCond .lt 14, 3) := by decide +kernel
theorem dX6_requireRow_4 : decode cX6_requireRow 4 = .ok (.iload_n 1, 1) := by decide +kernel
theorem dX6_requireRow_5 : decode cX6_requireRow 5 = .ok (.aload_n 0, 1) := by decide +kernel
theorem dX6_requireRow_6 : decode cX6_requireRow 6 = .ok (.getfield 10, 3) := by decide +kernel
theorem dX6_requireRow_9 : decode cX6_requireRow 9 = .ok (.getfield 53, 3) := by decide +kernel
theorem dX6_requireRow_12 : decode cX6_requireRow 12 = .ok (.if_icmp .lt 14, 3) := by decide +kernel
theorem dX6_requireRow_15 : decode cX6_requireRow 15 = .ok (.new 326, 3) := by decide +kernel
theorem dX6_requireRow_18 : decode cX6_requireRow 18 = .ok (.dup, 1) := by decide +kernel
theorem dX6_requireRow_19 : decode cX6_requireRow 19 = .ok (.ldc_w 333, 3) := by decide +kernel
theorem dX6_requireRow_22 : decode cX6_requireRow 22 = .ok (.invokespecial 330, 3) := by decide +kernel
theorem dX6_requireRow_25 : decode cX6_requireRow 25 = .ok (.athrow, 1) := by decide +kernel
theorem dX6_requireRow_26 : decode cX6_requireRow 26 = .ok (.return_, 1) := by decide +kernel
theorem dX6_requireHold_0 : decode cX6_requireHold 0 = .ok (.aload_n 0, 1) := by decide +kernel
theorem dX6_requireHold_1 : decode cX6_requireHold 1 = .ok (.getfield 10, 3) := by decide +kernel
theorem dX6_requireHold_4 : decode cX6_requireHold 4 = .ok (.getfield 60, 3) := by decide +kernel
theorem dX6_requireHold_7 : decode cX6_requireHold 7 = .ok (.iload_n 2, 1) := by decide +kernel
theorem dX6_requireHold_8 : decode cX6_requireHold 8 = .ok (.aaload, 1) := by decide +kernel
theorem dX6_requireHold_9 : decode cX6_requireHold 9 = .ok (.iload_n 1, 1) := by decide +kernel
theorem dX6_requireHold_10 : decode cX6_requireHold 10 = .ok (.invokevirtual 335, 3) := by decide +kernel
theorem dX6_requireHold_13 : decode cX6_requireHold 13 = .ok (.ifCond .ne 14, 3) := by decide +kernel
theorem dX6_requireHold_16 : decode cX6_requireHold 16 = .ok (.new 70, 3) := by decide +kernel
theorem dX6_requireHold_19 : decode cX6_requireHold 19 = .ok (.dup, 1) := by decide +kernel
theorem dX6_requireHold_20 : decode cX6_requireHold 20 = .ok (.ldc_w 338, 3) := by decide +kernel
theorem dX6_requireHold_23 : decode cX6_requireHold 23 = .ok (.invokespecial 74, 3) := by decide +kernel
theorem dX6_requireHold_26 : decode cX6_requireHold 26 = .ok (.athrow, 1) := by decide +kernel
theorem dX6_requireHold_27 : decode cX6_requireHold 27 = .ok (.return_, 1) := by decide +kernel
theorem dX6_requireRoomFor_0 : decode cX6_requireRoomFor 0 = .ok (.aload_n 0, 1) := by decide +kernel
theorem dX6_requireRoomFor_1 : decode cX6_requireRoomFor 1 = .ok (.getfield 10, 3) := by decide +kernel
theorem dX6_requireRoomFor_4 : decode cX6_requireRoomFor 4 = .ok (.getfield 53, 3) := by decide +kernel
theorem dX6_requireRoomFor_7 : decode cX6_requireRoomFor 7 = .ok (.iload_n 1, 1) := by decide +kernel
theorem dX6_requireRoomFor_8 : decode cX6_requireRoomFor 8 = .ok (.iadd, 1) := by decide +kernel
theorem dX6_requireRoomFor_9 : decode cX6_requireRoomFor 9 = .ok (.bipush 24, 2) := by decide +kernel
theorem dX6_requireRoomFor_11 : decode cX6_requireRoomFor 11 = .ok (.if_icmp .le 14, 3) := by decide +kernel
theorem dX6_requireRoomFor_14 : decode cX6_requireRoomFor 14 = .ok (.new 70, 3) := by decide +kernel
theorem dX6_requireRoomFor_17 : decode cX6_requireRoomFor 17 = .ok (.dup, 1) := by decide +kernel
theorem dX6_requireRoomFor_18 : decode cX6_requireRoomFor 18 = .ok (.ldc_w 340, 3) := by decide +kernel
theorem dX6_requireRoomFor_21 : decode cX6_requireRoomFor 21 = .ok (.invokespecial 74, 3) := by decide +kernel
theorem dX6_requireRoomFor_24 : decode cX6_requireRoomFor 24 = .ok (.athrow, 1) := by decide +kernel
theorem dX6_requireRoomFor_25 : decode cX6_requireRoomFor 25 = .ok (.return_, 1) := by decide +kernel
theorem dJ9_max_7cf53_0 : decode cJ9_max_7cf53 0 = .ok (.iload_n 0, 1) := by decide +kernel
theorem dJ9_max_7cf53_1 : decode cJ9_max_7cf53 1 = .ok (.iload_n 1, 1) := by decide +kernel
theorem dJ9_max_7cf53_2 : decode cJ9_max_7cf53 2 = .ok (.if_icmp .lt 7, 3) := by decide +kernel
theorem dJ9_max_7cf53_5 : decode cJ9_max_7cf53 5 = .ok (.iload_n 0, 1) := by decide +kernel
theorem dJ9_max_7cf53_6 : decode cJ9_max_7cf53 6 = .ok (.goto 4, 3) := by decide +kernel
theorem dJ9_max_7cf53_9 : decode cJ9_max_7cf53 9 = .ok (.iload_n 1, 1) := by decide +kernel
theorem dJ9_max_7cf53_10 : decode cJ9_max_7cf53 10 = .ok (.ireturn, 1) := by decide +kernel
theorem dJ9_min_7cf53_0 : decode cJ9_min_7cf53 0 = .ok (.iload_n 0, 1) := by decide +kernel
theorem dJ9_min_7cf53_1 : decode cJ9_min_7cf53 1 = .ok (.iload_n 1, 1) := by decide +kernel
theorem dJ9_min_7cf53_2 : decode cJ9_min_7cf53 2 = .ok (.if_icmp .gt 7, 3) := by decide +kernel
theorem dJ9_min_7cf53_5 : decode cJ9_min_7cf53 5 = .ok (.iload_n 0, 1) := by decide +kernel
theorem dJ9_min_7cf53_6 : decode cJ9_min_7cf53 6 = .ok (.goto 4, 3) := by decide +kernel
theorem dJ9_min_7cf53_9 : decode cJ9_min_7cf53 9 = .ok (.iload_n 1, 1) := by decide +kernel
theorem dJ9_min_7cf53_10 : decode cJ9_min_7cf53 10 = .ok (.ireturn, 1) := by decide +kernel
