theorem dL_cell_0 : decode cL_cell 0 = .ok (.iload_n 1, 1) := by decide +kernel
theorem dL_cell_1 : decode cL_cell 1 = .ok (.aload_n 0, 1) := by decide +kernel
theorem dL_cell_2 : decode cL_cell 2 = .ok (.arraylength, 1) := by decide +kernel
theorem dL_cell_3 : decode cL_cell 3 = .ok (.if_icmp .ge 9, 3) := by decide +kernel
theorem dL_cell_6 : decode cL_cell 6 = .ok (.aload_n 0, 1) := by decide +kernel
theorem dL_cell_7 : decode cL_cell 7 = .ok (.iload_n 1, 1) := by decide +kernel
theorem dL_cell_8 : decode cL_cell 8 = .ok (.iaload, 1) := by decide +kernel
theorem dL_cell_9 : decode cL_cell 9 = .ok (.goto 12, 3) := by decide +kernel
theorem dL_cell_12 : decode cL_cell 12 = .ok (.ldc 7, 2) := by decide +kernel
theorem dL_cell_14 : decode cL_cell 14 = .ok (.iload_n 1, 1) := by decide +kernel
theorem dL_cell_15 : decode cL_cell 15 = .ok (.iconst 1, 1) := by decide +kernel
theorem dL_cell_16 : decode cL_cell 16 = .ok (.iadd, 1) := by decide +kernel
theorem dL_cell_17 : decode cL_cell 17 = .ok (.imul, 1) := by decide +kernel
theorem dL_cell_18 : decode cL_cell 18 = .ok (.ldc 8, 2) := by decide +kernel
theorem dL_cell_20 : decode cL_cell 20 = .ok (.iadd, 1) := by decide +kernel
theorem dL_cell_21 : decode cL_cell 21 = .ok (.ireturn, 1) := by decide +kernel
theorem dL_low_0 : decode cL_low 0 = .ok (.iload_n 0, 1) := by decide +kernel
theorem dL_low_1 : decode cL_low 1 = .ok (.ldc 9, 2) := by decide +kernel
theorem dL_low_3 : decode cL_low 3 = .ok (.iand, 1) := by decide +kernel
theorem dL_low_4 : decode cL_low 4 = .ok (.iload_n 1, 1) := by decide +kernel
theorem dL_low_5 : decode cL_low 5 = .ok (.irem, 1) := by decide +kernel
theorem dL_low_6 : decode cL_low 6 = .ok (.ireturn, 1) := by decide +kernel
theorem dL_put_0 : decode cL_put 0 = .ok (.aload_n 0, 1) := by decide +kernel
theorem dL_put_1 : decode cL_put 1 = .ok (.iload_n 1, 1) := by decide +kernel
theorem dL_put_2 : decode cL_put 2 = .ok (.iload_n 2, 1) := by decide +kernel
theorem dL_put_3 : decode cL_put 3 = .ok (.invokevirtual 10, 3) := by decide +kernel
theorem dL_put_6 : decode cL_put 6 = .ok (.ireturn, 1) := by decide +kernel
theorem dL_put_7 : decode cL_put 7 = .ok (.astore_n 3, 1) := by decide +kernel
theorem dL_put_8 : decode cL_put 8 = .ok (.bipush (-2), 2) := by decide +kernel
theorem dL_put_10 : decode cL_put 10 = .ok (.ireturn, 1) := by decide +kernel
theorem dL_put_11 : decode cL_put 11 = .ok (.astore_n 3, 1) := by decide +kernel
theorem dL_put_12 : decode cL_put 12 = .ok (.bipush (-3), 2) := by decide +kernel
theorem dL_put_14 : decode cL_put 14 = .ok (.ireturn, 1) := by decide +kernel
theorem dL_done_0 : decode cL_done 0 = .ok (.aload_n 0, 1) := by decide +kernel
theorem dL_done_1 : decode cL_done 1 = .ok (.iload_n 1, 1) := by decide +kernel
theorem dL_done_2 : decode cL_done 2 = .ok (.iload_n 2, 1) := by decide +kernel
theorem dL_done_3 : decode cL_done 3 = .ok (.invokevirtual 20, 3) := by decide +kernel
theorem dL_done_6 : decode cL_done 6 = .ok (.ireturn, 1) := by decide +kernel
theorem dL_done_7 : decode cL_done 7 = .ok (.astore_n 3, 1) := by decide +kernel
theorem dL_done_8 : decode cL_done 8 = .ok (.bipush (-2), 2) := by decide +kernel
theorem dL_done_10 : decode cL_done 10 = .ok (.ireturn, 1) := by decide +kernel
theorem dL_done_11 : decode cL_done 11 = .ok (.astore_n 3, 1) := by decide +kernel
theorem dL_done_12 : decode cL_done 12 = .ok (.bipush (-3), 2) := by decide +kernel
theorem dL_done_14 : decode cL_done 14 = .ok (.ireturn, 1) := by decide +kernel
theorem dL_giveBack_0 : decode cL_giveBack 0 = .ok (.aload_n 0, 1) := by decide +kernel
theorem dL_giveBack_1 : decode cL_giveBack 1 = .ok (.iload_n 1, 1) := by decide +kernel
theorem dL_giveBack_2 : decode cL_giveBack 2 = .ok (.iload_n 2, 1) := by decide +kernel
theorem dL_giveBack_3 : decode cL_giveBack 3 = .ok (.invokevirtual 25, 3) := by decide +kernel
theorem dL_giveBack_6 : decode cL_giveBack 6 = .ok (.ireturn, 1) := by decide +kernel
theorem dL_giveBack_7 : decode cL_giveBack 7 = .ok (.astore_n 3, 1) := by decide +kernel
theorem dL_giveBack_8 : decode cL_giveBack 8 = .ok (.bipush (-2), 2) := by decide +kernel
theorem dL_giveBack_10 : decode cL_giveBack 10 = .ok (.ireturn, 1) := by decide +kernel
theorem dL_giveBack_11 : decode cL_giveBack 11 = .ok (.astore_n 3, 1) := by decide +kernel
theorem dL_giveBack_12 : decode cL_giveBack 12 = .ok (.bipush (-3), 2) := by decide +kernel
theorem dL_giveBack_14 : decode cL_giveBack 14 = .ok (.ireturn, 1) := by decide +kernel
theorem dL_revive_0 : decode cL_revive 0 = .ok (.aload_n 0, 1) := by decide +kernel
theorem dL_revive_1 : decode cL_revive 1 = .ok (.iload_n 1, 1) := by decide +kernel
theorem dL_revive_2 : decode cL_revive 2 = .ok (.invokevirtual 28, 3) := by decide +kernel
theorem dL_revive_5 : decode cL_revive 5 = .ok (.ireturn, 1) := by decide +kernel
theorem dL_revive_6 : decode cL_revive 6 = .ok (.astore_n 2, 1) := by decide +kernel
theorem dL_revive_7 : decode cL_revive 7 = .ok (.bipush (-2), 2) := by decide +kernel
theorem dL_revive_9 : decode cL_revive 9 = .ok (.ireturn, 1) := by decide +kernel
theorem dL_revive_10 : decode cL_revive 10 = .ok (.astore_n 2, 1) := by decide +kernel
theorem dL_revive_11 : decode cL_revive 11 = .ok (.bipush (-3), 2) := by decide +kernel
theorem dL_revive_13 : decode cL_revive 13 = .ok (.ireturn, 1) := by decide +kernel
theorem dL_urge_0 : decode cL_urge 0 = .ok (.aload_n 0, 1) := by decide +kernel
theorem dL_urge_1 : decode cL_urge 1 = .ok (.iload_n 1, 1) := by decide +kernel
theorem dL_urge_2 : decode cL_urge 2 = .ok (.iload_n 2, 1) := by decide +kernel
theorem dL_urge_3 : decode cL_urge 3 = .ok (.invokevirtual 32, 3) := by decide +kernel
theorem dL_urge_6 : decode cL_urge 6 = .ok (.ireturn, 1) := by decide +kernel
theorem dL_urge_7 : decode cL_urge 7 = .ok (.astore_n 3, 1) := by decide +kernel
theorem dL_urge_8 : decode cL_urge 8 = .ok (.bipush (-2), 2) := by decide +kernel
theorem dL_urge_10 : decode cL_urge 10 = .ok (.ireturn, 1) := by decide +kernel
theorem dL_urge_11 : decode cL_urge 11 = .ok (.astore_n 3, 1) := by decide +kernel
theorem dL_urge_12 : decode cL_urge 12 = .ok (.bipush (-4), 2) := by decide +kernel
theorem dL_urge_14 : decode cL_urge 14 = .ok (.ireturn, 1) := by decide +kernel
theorem dL_urge_15 : decode cL_urge 15 = .ok (.astore_n 3, 1) := by decide +kernel
theorem dL_urge_16 : decode cL_urge 16 = .ok (.bipush (-3), 2) := by decide +kernel
theorem dL_urge_18 : decode cL_urge 18 = .ok (.ireturn, 1) := by decide +kernel
theorem dL_blocked_0 : decode cL_blocked 0 = .ok (.iconst 0, 1) := by decide +kernel
theorem dL_blocked_1 : decode cL_blocked 1 = .ok (.istore_n 3, 1) := by decide +kernel
theorem dL_blocked_2 : decode cL_blocked 2 = .ok (.iload_n 3, 1) := by decide +kernel
theorem dL_blocked_3 : decode cL_blocked 3 = .ok (.aload_n 1, 1) := by decide +kernel
theorem dL_blocked_4 : decode cL_blocked 4 = .ok (.iconst 0, 1) := by decide +kernel
theorem dL_blocked_5 : decode cL_blocked 5 = .ok (.iaload, 1) := by decide +kernel
theorem dL_blocked_6 : decode cL_blocked 6 = .ok (.if_icmp .ge 65, 3) := by decide +kernel
theorem dL_blocked_9 : decode cL_blocked 9 = .ok (.aload_n 1, 1) := by decide +kernel
theorem dL_blocked_10 : decode cL_blocked 10 = .ok (.bipush 7, 2) := by decide +kernel
theorem dL_blocked_12 : decode cL_blocked 12 = .ok (.iaload, 1) := by decide +kernel
theorem dL_blocked_13 : decode cL_blocked 13 = .ok (.iconst 1, 1) := by decide +kernel
theorem dL_blocked_14 : decode cL_blocked 14 = .ok (.if_icmp .ne 51, 3) := by decide +kernel
theorem dL_blocked_17 : decode cL_blocked 17 = .ok (.aload_n 2, 1) := by decide +kernel
theorem dL_blocked_18 : decode cL_blocked 18 = .ok (.bipush 9, 2) := by decide +kernel
theorem dL_blocked_20 : decode cL_blocked 20 = .ok (.iload_n 3, 1) := by decide +kernel
theorem dL_blocked_21 : decode cL_blocked 21 = .ok (.imul, 1) := by decide +kernel
theorem dL_blocked_22 : decode cL_blocked 22 = .ok (.iconst 2, 1) := by decide +kernel
theorem dL_blocked_23 : decode cL_blocked 23 = .ok (.iadd, 1) := by decide +kernel
theorem dL_blocked_24 : decode cL_blocked 24 = .ok (.iaload, 1) := by decide +kernel
theorem dL_blocked_25 : decode cL_blocked 25 = .ok (.aload_n 2, 1) := by decide +kernel
theorem dL_blocked_26 : decode cL_blocked 26 = .ok (.bipush 9, 2) := by decide +kernel
theorem dL_blocked_28 : decode cL_blocked 28 = .ok (.iload_n 0, 1) := by decide +kernel
theorem dL_blocked_29 : decode cL_blocked 29 = .ok (.imul, 1) := by decide +kernel
theorem dL_blocked_30 : decode cL_blocked 30 = .ok (.iconst 2, 1) := by decide +kernel
theorem dL_blocked_31 : decode cL_blocked 31 = .ok (.iadd, 1) := by decide +kernel
theorem dL_blocked_32 : decode cL_blocked 32 = .ok (.iaload, 1) := by decide +kernel
theorem dL_blocked_33 : decode cL_blocked 33 = .ok (.if_icmp .ge 32, 3) := by decide +kernel
theorem dL_blocked_36 : decode cL_blocked 36 = .ok (.aload_n 2, 1) := by decide +kernel
theorem dL_blocked_37 : decode cL_blocked 37 = .ok (.bipush 9, 2) := by decide +kernel
theorem dL_blocked_39 : decode cL_blocked 39 = .ok (.iload_n 3, 1) := by decide +kernel
theorem dL_blocked_40 : decode cL_blocked 40 = .ok (.imul, 1) := by decide +kernel
theorem dL_blocked_41 : decode cL_blocked 41 = .ok (.iaload, 1) := by decide +kernel
theorem dL_blocked_42 : decode cL_blocked 42 = .ok (.aload_n 2, 1) := by decide +kernel
theorem dL_blocked_43 : decode cL_blocked 43 = .ok (.bipush 9, 2) := by decide +kernel
theorem dL_blocked_45 : decode cL_blocked 45 = .ok (.iload_n 0, 1) := by decide +kernel
theorem dL_blocked_46 : decode cL_blocked 46 = .ok (.imul, 1) := by decide +kernel
theorem dL_blocked_47 : decode cL_blocked 47 = .ok (.iaload, 1) := by decide +kernel
theorem dL_blocked_48 : decode cL_blocked 48 = .ok (.if_icmp .ne 17, 3) := by decide +kernel
theorem dL_blocked_51 : decode cL_blocked 51 = .ok (.aload_n 2, 1) := by decide +kernel
theorem dL_blocked_52 : decode cL_blocked 52 = .ok (.bipush 9, 2) := by decide +kernel
theorem dL_blocked_54 : decode cL_blocked 54 = .ok (.iload_n 3, 1) := by decide +kernel
theorem dL_blocked_55 : decode cL_blocked 55 = .ok (.imul, 1) := by decide +kernel
theorem dL_blocked_56 : decode cL_blocked 56 = .ok (.iconst 3, 1) := by decide +kernel
theorem dL_blocked_57 : decode cL_blocked 57 = .ok (.iadd, 1) := by decide +kernel
theorem dL_blocked_58 : decode cL_blocked 58 = .ok (.iaload, 1) := by decide +kernel
theorem dL_blocked_59 : decode cL_blocked 59 = .ok (.iconst 2, 1) := by decide +kernel
theorem dL_blocked_60 : decode cL_blocked 60 = .ok (.if_icmp .ge 5, 3) := by decide +kernel
theorem dL_blocked_63 : decode cL_blocked 63 = .ok (.iconst 1, 1) := by decide +kernel
theorem dL_blocked_64 : decode cL_blocked 64 = .ok (.ireturn, 1) := by decide +kernel
theorem dL_blocked_65 : decode cL_blocked 65 = .ok (.iinc 3 1, 3) := by decide +kernel
theorem dL_blocked_68 : decode cL_blocked 68 = .ok (.goto (-66), 3) := by decide +kernel
theorem dL_blocked_71 : decode cL_blocked 71 = .ok (.iconst 0, 1) := by decide +kernel
theorem dL_blocked_72 : decode cL_blocked 72 = .ok (.ireturn, 1) := by decide +kernel
theorem dL_next_0 : decode cL_next 0 = .ok (.iconst (-1), 1) := by decide +kernel
theorem dL_next_1 : decode cL_next 1 = .ok (.istore_n 3, 1) := by decide +kernel
theorem dL_next_2 : decode cL_next 2 = .ok (.iconst 0, 1) := by decide +kernel
theorem dL_next_3 : decode cL_next 3 = .ok (.istore 4, 2) := by decide +kernel
theorem dL_next_5 : decode cL_next 5 = .ok (.iload 4, 2) := by decide +kernel
theorem dL_next_7 : decode cL_next 7 = .ok (.aload_n 1, 1) := by decide +kernel
theorem dL_next_8 : decode cL_next 8 = .ok (.iconst 0, 1) := by decide +kernel
theorem dL_next_9 : decode cL_next 9 = .ok (.iaload, 1) := by decide +kernel
theorem dL_next_10 : decode cL_next 10 = .ok (.if_icmp .ge 71, 3) := by decide +kernel
theorem dL_next_13 : decode cL_next 13 = .ok (.aload_n 2, 1) := by decide +kernel
theorem dL_next_14 : decode cL_next 14 = .ok (.bipush 9, 2) := by decide +kernel
theorem dL_next_16 : decode cL_next 16 = .ok (.iload 4, 2) := by decide +kernel
theorem dL_next_18 : decode cL_next 18 = .ok (.imul, 1) := by decide +kernel
theorem dL_next_19 : decode cL_next 19 = .ok (.iconst 3, 1) := by decide +kernel
theorem dL_next_20 : decode cL_next 20 = .ok (.iadd, 1) := by decide +kernel
theorem dL_next_21 : decode cL_next 21 = .ok (.iaload, 1) := by decide +kernel
theorem dL_next_22 : decode cL_next 22 = .ok (.iconst 1, 1) := by decide +kernel
theorem dL_next_23 : decode cL_next 23 = .ok (.if_icmp .le 6, 3) := by decide +kernel
theorem dL_next_26 : decode cL_next 26 = .ok (.goto 49, 3) := by decide +kernel
theorem dL_next_29 : decode cL_next 29 = .ok (.iload 4, 2) := by decide +kernel
theorem dL_next_31 : decode cL_next 31 = .ok (.aload_n 2, 1) := by decide +kernel
theorem dL_next_32 : decode cL_next 32 = .ok (.invokestatic 35, 3) := by decide +kernel
theorem dL_next_35 : decode cL_next 35 = .ok (.istore 5, 2) := by decide +kernel
theorem dL_next_37 : decode cL_next 37 = .ok (.iload_n 0, 1) := by decide +kernel
theorem dL_next_38 : decode cL_next 38 = .ok (.ifCond .lt 16, 3) := by decide +kernel
theorem dL_next_41 : decode cL_next 41 = .ok (.iload 5, 2) := by decide +kernel
theorem dL_next_43 : decode cL_next 43 = .ok (.iload_n 0, 1) := by decide +kernel
theorem dL_next_44 : decode cL_next 44 = .ok (.aload_n 2, 1) := by decide +kernel
theorem dL_next_45 : decode cL_next 45 = .ok (.invokestatic 35, 3) := by decide +kernel
theorem dL_next_48 : decode cL_next 48 = .ok (.if_icmp .gt 6, 3) := by decide +kernel
theorem dL_next_51 : decode cL_next 51 = .ok (.goto 24, 3) := by decide +kernel
theorem dL_next_54 : decode cL_next 54 = .ok (.iload_n 3, 1) := by decide +kernel
theorem dL_next_55 : decode cL_next 55 = .ok (.ifCond .lt 13, 3) := by decide +kernel
theorem dL_next_58 : decode cL_next 58 = .ok (.iload 5, 2) := by decide +kernel
theorem dL_next_60 : decode cL_next 60 = .ok (.iload_n 3, 1) := by decide +kernel
theorem dL_next_61 : decode cL_next 61 = .ok (.aload_n 2, 1) := by decide +kernel
theorem dL_next_62 : decode cL_next 62 = .ok (.invokestatic 35, 3) := by decide +kernel
theorem dL_next_65 : decode cL_next 65 = .ok (.if_icmp .ge 8, 3) := by decide +kernel
theorem dL_next_68 : decode cL_next 68 = .ok (.iload 4, 2) := by decide +kernel
theorem dL_next_70 : decode cL_next 70 = .ok (.goto 4, 3) := by decide +kernel
theorem dL_next_73 : decode cL_next 73 = .ok (.iload_n 3, 1) := by decide +kernel
theorem dL_next_74 : decode cL_next 74 = .ok (.istore_n 3, 1) := by decide +kernel
theorem dL_next_75 : decode cL_next 75 = .ok (.iinc 4 1, 3) := by decide +kernel
theorem dL_next_78 : decode cL_next 78 = .ok (.goto (-73), 3) := by decide +kernel
theorem dL_next_81 : decode cL_next 81 = .ok (.iload_n 3, 1) := by decide +kernel
theorem dL_next_82 : decode cL_next 82 = .ok (.ireturn, 1) := by decide +kernel
theorem dL_rank_0 : decode cL_rank 0 = .ok (.sipush 1000, 3) := by decide +kernel
theorem dL_rank_3 : decode cL_rank 3 = .ok (.bipush 9, 2) := by decide +kernel
theorem dL_rank_5 : decode cL_rank 5 = .ok (.aload_n 1, 1) := by decide +kernel
theorem dL_rank_6 : decode cL_rank 6 = .ok (.bipush 9, 2) := by decide +kernel
theorem dL_rank_8 : decode cL_rank 8 = .ok (.iload_n 0, 1) := by decide +kernel
theorem dL_rank_9 : decode cL_rank 9 = .ok (.imul, 1) := by decide +kernel
theorem dL_rank_10 : decode cL_rank 10 = .ok (.iconst 1, 1) := by decide +kernel
theorem dL_rank_11 : decode cL_rank 11 = .ok (.iadd, 1) := by decide +kernel
theorem dL_rank_12 : decode cL_rank 12 = .ok (.iaload, 1) := by decide +kernel
theorem dL_rank_13 : decode cL_rank 13 = .ok (.isub, 1) := by decide +kernel
theorem dL_rank_14 : decode cL_rank 14 = .ok (.imul, 1) := by decide +kernel
theorem dL_rank_15 : decode cL_rank 15 = .ok (.aload_n 1, 1) := by decide +kernel
theorem dL_rank_16 : decode cL_rank 16 = .ok (.bipush 9, 2) := by decide +kernel
theorem dL_rank_18 : decode cL_rank 18 = .ok (.iload_n 0, 1) := by decide +kernel
theorem dL_rank_19 : decode cL_rank 19 = .ok (.imul, 1) := by decide +kernel
theorem dL_rank_20 : decode cL_rank 20 = .ok (.iconst 2, 1) := by decide +kernel
theorem dL_rank_21 : decode cL_rank 21 = .ok (.iadd, 1) := by decide +kernel
theorem dL_rank_22 : decode cL_rank 22 = .ok (.iaload, 1) := by decide +kernel
theorem dL_rank_23 : decode cL_rank 23 = .ok (.iadd, 1) := by decide +kernel
theorem dL_rank_24 : decode cL_rank 24 = .ok (.ireturn, 1) := by decide +kernel
theorem dL_held_0 : decode cL_held 0 = .ok (.iconst 0, 1) := by decide +kernel
theorem dL_held_1 : decode cL_held 1 = .ok (.istore_n 3, 1) := by decide +kernel
theorem dL_held_2 : decode cL_held 2 = .ok (.iconst 0, 1) := by decide +kernel
theorem dL_held_3 : decode cL_held 3 = .ok (.istore 4, 2) := by decide +kernel
theorem dL_held_5 : decode cL_held 5 = .ok (.iload 4, 2) := by decide +kernel
theorem dL_held_7 : decode cL_held 7 = .ok (.aload_n 1, 1) := by decide +kernel
theorem dL_held_8 : decode cL_held 8 = .ok (.iconst 0, 1) := by decide +kernel
theorem dL_held_9 : decode cL_held 9 = .ok (.iaload, 1) := by decide +kernel
theorem dL_held_10 : decode cL_held 10 = .ok (.if_icmp .ge 43, 3) := by decide +kernel
theorem dL_held_13 : decode cL_held 13 = .ok (.iload_n 3, 1) := by decide +kernel
theorem dL_held_14 : decode cL_held 14 = .ok (.aload_n 2, 1) := by decide +kernel
theorem dL_held_15 : decode cL_held 15 = .ok (.bipush 9, 2) := by decide +kernel
theorem dL_held_17 : decode cL_held 17 = .ok (.iload 4, 2) := by decide +kernel
theorem dL_held_19 : decode cL_held 19 = .ok (.imul, 1) := by decide +kernel
theorem dL_held_20 : decode cL_held 20 = .ok (.iconst 3, 1) := by decide +kernel
theorem dL_held_21 : decode cL_held 21 = .ok (.iadd, 1) := by decide +kernel
theorem dL_held_22 : decode cL_held 22 = .ok (.iaload, 1) := by decide +kernel
theorem dL_held_23 : decode cL_held 23 = .ok (.iconst 1, 1) := by decide +kernel
theorem dL_held_24 : decode cL_held 24 = .ok (.if_icmp .ne 20, 3) := by decide +kernel
theorem dL_held_27 : decode cL_held 27 = .ok (.aload_n 2, 1) := by decide +kernel
theorem dL_held_28 : decode cL_held 28 = .ok (.bipush 9, 2) := by decide +kernel
theorem dL_held_30 : decode cL_held 30 = .ok (.iload 4, 2) := by decide +kernel
theorem dL_held_32 : decode cL_held 32 = .ok (.imul, 1) := by decide +kernel
theorem dL_held_33 : decode cL_held 33 = .ok (.iconst 4, 1) := by decide +kernel
theorem dL_held_34 : decode cL_held 34 = .ok (.iadd, 1) := by decide +kernel
theorem dL_held_35 : decode cL_held 35 = .ok (.iaload, 1) := by decide +kernel
theorem dL_held_36 : decode cL_held 36 = .ok (.iload_n 0, 1) := by decide +kernel
theorem dL_held_37 : decode cL_held 37 = .ok (.if_icmp .ne 7, 3) := by decide +kernel
theorem dL_held_40 : decode cL_held 40 = .ok (.iconst 1, 1) := by decide +kernel
theorem dL_held_41 : decode cL_held 41 = .ok (.goto 4, 3) := by decide +kernel
theorem dL_held_44 : decode cL_held 44 = .ok (.iconst 0, 1) := by decide +kernel
theorem dL_held_45 : decode cL_held 45 = .ok (.iadd, 1) := by decide +kernel
theorem dL_held_46 : decode cL_held 46 = .ok (.istore_n 3, 1) := by decide +kernel
theorem dL_held_47 : decode cL_held 47 = .ok (.iinc 4 1, 3) := by decide +kernel
theorem dL_held_50 : decode cL_held 50 = .ok (.goto (-45), 3) := by decide +kernel
theorem dL_held_53 : decode cL_held 53 = .ok (.iload_n 3, 1) := by decide +kernel
theorem dL_held_54 : decode cL_held 54 = .ok (.ireturn, 1) := by decide +kernel
theorem dL_take_0 : decode cL_take 0 = .ok (.aload 4, 2) := by decide +kernel
theorem dL_take_2 : decode cL_take 2 = .ok (.iconst 0, 1) := by decide +kernel
theorem dL_take_3 : decode cL_take 3 = .ok (.iconst 0, 1) := by decide +kernel
theorem dL_take_4 : decode cL_take 4 = .ok (.iastore, 1) := by decide +kernel
theorem dL_take_5 : decode cL_take 5 = .ok (.aload 4, 2) := by decide +kernel
theorem dL_take_7 : decode cL_take 7 = .ok (.iconst 1, 1) := by decide +kernel
theorem dL_take_8 : decode cL_take 8 = .ok (.iconst 0, 1) := by decide +kernel
theorem dL_take_9 : decode cL_take 9 = .ok (.iastore, 1) := by decide +kernel
theorem dL_take_10 : decode cL_take 10 = .ok (.aload 4, 2) := by decide +kernel
theorem dL_take_12 : decode cL_take 12 = .ok (.iconst 2, 1) := by decide +kernel
theorem dL_take_13 : decode cL_take 13 = .ok (.iconst 0, 1) := by decide +kernel
theorem dL_take_14 : decode cL_take 14 = .ok (.iastore, 1) := by decide +kernel
theorem dL_take_15 : decode cL_take 15 = .ok (.aload_n 2, 1) := by decide +kernel
theorem dL_take_16 : decode cL_take 16 = .ok (.bipush 8, 2) := by decide +kernel
theorem dL_take_18 : decode cL_take 18 = .ok (.iaload, 1) := by decide +kernel
theorem dL_take_19 : decode cL_take 19 = .ok (.iload_n 0, 1) := by decide +kernel
theorem dL_take_20 : decode cL_take 20 = .ok (.aload_n 2, 1) := by decide +kernel
theorem dL_take_21 : decode cL_take 21 = .ok (.aload_n 3, 1) := by decide +kernel
theorem dL_take_22 : decode cL_take 22 = .ok (.invokestatic 41, 3) := by decide +kernel
theorem dL_take_25 : decode cL_take 25 = .ok (.isub, 1) := by decide +kernel
theorem dL_take_26 : decode cL_take 26 = .ok (.istore 5, 2) := by decide +kernel
theorem dL_take_28 : decode cL_take 28 = .ok (.iload_n 1, 1) := by decide +kernel
theorem dL_take_29 : decode cL_take 29 = .ok (.iload 5, 2) := by decide +kernel
theorem dL_take_31 : decode cL_take 31 = .ok (.if_icmp .ge 7, 3) := by decide +kernel
theorem dL_take_34 : decode cL_take 34 = .ok (.iload_n 1, 1) := by decide +kernel
theorem dL_take_35 : decode cL_take 35 = .ok (.goto 5, 3) := by decide +kernel
theorem dL_take_38 : decode cL_take 38 = .ok (.iload 5, 2) := by decide +kernel
theorem dL_take_40 : decode cL_take 40 = .ok (.istore 5, 2) := by decide +kernel
theorem dL_take_42 : decode cL_take 42 = .ok (.iconst (-1), 1) := by decide +kernel
theorem dL_take_43 : decode cL_take 43 = .ok (.aload_n 2, 1) := by decide +kernel
theorem dL_take_44 : decode cL_take 44 = .ok (.aload_n 3, 1) := by decide +kernel
theorem dL_take_45 : decode cL_take 45 = .ok (.invokestatic 45, 3) := by decide +kernel
theorem dL_take_48 : decode cL_take 48 = .ok (.istore 6, 2) := by decide +kernel
theorem dL_take_50 : decode cL_take 50 = .ok (.iload 6, 2) := by decide +kernel
theorem dL_take_52 : decode cL_take 52 = .ok (.ifCond .lt 137, 3) := by decide +kernel
theorem dL_take_55 : decode cL_take 55 = .ok (.aload 4, 2) := by decide +kernel
theorem dL_take_57 : decode cL_take 57 = .ok (.iconst 0, 1) := by decide +kernel
theorem dL_take_58 : decode cL_take 58 = .ok (.iaload, 1) := by decide +kernel
theorem dL_take_59 : decode cL_take 59 = .ok (.iload 5, 2) := by decide +kernel
theorem dL_take_61 : decode cL_take 61 = .ok (.if_icmp .ge 128, 3) := by decide +kernel
theorem dL_take_64 : decode cL_take 64 = .ok (.bipush 9, 2) := by decide +kernel
theorem dL_take_66 : decode cL_take 66 = .ok (.iload 6, 2) := by decide +kernel
theorem dL_take_68 : decode cL_take 68 = .ok (.imul, 1) := by decide +kernel
theorem dL_take_69 : decode cL_take 69 = .ok (.istore 7, 2) := by decide +kernel
theorem dL_take_71 : decode cL_take 71 = .ok (.aload_n 3, 1) := by decide +kernel
theorem dL_take_72 : decode cL_take 72 = .ok (.iload 7, 2) := by decide +kernel
theorem dL_take_74 : decode cL_take 74 = .ok (.iconst 3, 1) := by decide +kernel
theorem dL_take_75 : decode cL_take 75 = .ok (.iadd, 1) := by decide +kernel
theorem dL_take_76 : decode cL_take 76 = .ok (.iaload, 1) := by decide +kernel
theorem dL_take_77 : decode cL_take 77 = .ok (.ifCond .ne 81, 3) := by decide +kernel
theorem dL_take_80 : decode cL_take 80 = .ok (.iload 6, 2) := by decide +kernel
theorem dL_take_82 : decode cL_take 82 = .ok (.aload_n 2, 1) := by decide +kernel
theorem dL_take_83 : decode cL_take 83 = .ok (.aload_n 3, 1) := by decide +kernel
theorem dL_take_84 : decode cL_take 84 = .ok (.invokestatic 48, 3) := by decide +kernel
theorem dL_take_87 : decode cL_take 87 = .ok (.ifCond .ne 71, 3) := by decide +kernel
theorem dL_take_90 : decode cL_take 90 = .ok (.aload_n 2, 1) := by decide +kernel
theorem dL_take_91 : decode cL_take 91 = .ok (.bipush 9, 2) := by decide +kernel
theorem dL_take_93 : decode cL_take 93 = .ok (.iconst 4, 1) := by decide +kernel
theorem dL_take_94 : decode cL_take 94 = .ok (.iload_n 0, 1) := by decide +kernel
theorem dL_take_95 : decode cL_take 95 = .ok (.imul, 1) := by decide +kernel
theorem dL_take_96 : decode cL_take 96 = .ok (.iadd, 1) := by decide +kernel
theorem dL_take_97 : decode cL_take 97 = .ok (.iaload, 1) := by decide +kernel
theorem dL_take_98 : decode cL_take 98 = .ok (.aload_n 3, 1) := by decide +kernel
theorem dL_take_99 : decode cL_take 99 = .ok (.iload 7, 2) := by decide +kernel
theorem dL_take_101 : decode cL_take 101 = .ok (.iaload, 1) := by decide +kernel
theorem dL_take_102 : decode cL_take 102 = .ok (.ishr, 1) := by decide +kernel
theorem dL_take_103 : decode cL_take 103 = .ok (.iconst 1, 1) := by decide +kernel
theorem dL_take_104 : decode cL_take 104 = .ok (.iand, 1) := by decide +kernel
theorem dL_take_105 : decode cL_take 105 = .ok (.iconst 1, 1) := by decide +kernel
theorem dL_take_106 : decode cL_take 106 = .ok (.if_icmp .ne 52, 3) := by decide +kernel
theorem dL_take_109 : decode cL_take 109 = .ok (.aload_n 3, 1) := by decide +kernel
theorem dL_take_110 : decode cL_take 110 = .ok (.iload 7, 2) := by decide +kernel
theorem dL_take_112 : decode cL_take 112 = .ok (.iconst 3, 1) := by decide +kernel
theorem dL_take_113 : decode cL_take 113 = .ok (.iadd, 1) := by decide +kernel
theorem dL_take_114 : decode cL_take 114 = .ok (.iconst 1, 1) := by decide +kernel
theorem dL_take_115 : decode cL_take 115 = .ok (.iastore, 1) := by decide +kernel
theorem dL_take_116 : decode cL_take 116 = .ok (.aload_n 3, 1) := by decide +kernel
theorem dL_take_117 : decode cL_take 117 = .ok (.iload 7, 2) := by decide +kernel
theorem dL_take_119 : decode cL_take 119 = .ok (.iconst 4, 1) := by decide +kernel
theorem dL_take_120 : decode cL_take 120 = .ok (.iadd, 1) := by decide +kernel
theorem dL_take_121 : decode cL_take 121 = .ok (.iload_n 0, 1) := by decide +kernel
theorem dL_take_122 : decode cL_take 122 = .ok (.iastore, 1) := by decide +kernel
theorem dL_take_123 : decode cL_take 123 = .ok (.aload_n 3, 1) := by decide +kernel
theorem dL_take_124 : decode cL_take 124 = .ok (.iload 7, 2) := by decide +kernel
theorem dL_take_126 : decode cL_take 126 = .ok (.iconst 5, 1) := by decide +kernel
theorem dL_take_127 : decode cL_take 127 = .ok (.iadd, 1) := by decide +kernel
theorem dL_take_128 : decode cL_take 128 = .ok (.aload_n 2, 1) := by decide +kernel
theorem dL_take_129 : decode cL_take 129 = .ok (.iconst 3, 1) := by decide +kernel
theorem dL_take_130 : decode cL_take 130 = .ok (.iaload, 1) := by decide +kernel
theorem dL_take_131 : decode cL_take 131 = .ok (.aload_n 2, 1) := by decide +kernel
theorem dL_take_132 : decode cL_take 132 = .ok (.iconst 5, 1) := by decide +kernel
theorem dL_take_133 : decode cL_take 133 = .ok (.iaload, 1) := by decide +kernel
theorem dL_take_134 : decode cL_take 134 = .ok (.iadd, 1) := by decide +kernel
theorem dL_take_135 : decode cL_take 135 = .ok (.iastore, 1) := by decide +kernel
theorem dL_take_136 : decode cL_take 136 = .ok (.aload 4, 2) := by decide +kernel
theorem dL_take_138 : decode cL_take 138 = .ok (.iconst 0, 1) := by decide +kernel
theorem dL_take_139 : decode cL_take 139 = .ok (.dup2, 1) := by decide +kernel
theorem dL_take_140 : decode cL_take 140 = .ok (.iaload, 1) := by decide +kernel
theorem dL_take_141 : decode cL_take 141 = .ok (.iconst 1, 1) := by decide +kernel
theorem dL_take_142 : decode cL_take 142 = .ok (.iadd, 1) := by decide +kernel
theorem dL_take_143 : decode cL_take 143 = .ok (.iastore, 1) := by decide +kernel
theorem dL_take_144 : decode cL_take 144 = .ok (.aload 4, 2) := by decide +kernel
theorem dL_take_146 : decode cL_take 146 = .ok (.iconst 1, 1) := by decide +kernel
theorem dL_take_147 : decode cL_take 147 = .ok (.dup2, 1) := by decide +kernel
theorem dL_take_148 : decode cL_take 148 = .ok (.iaload, 1) := by decide +kernel
theorem dL_take_149 : decode cL_take 149 = .ok (.iconst 1, 1) := by decide +kernel
theorem dL_take_150 : decode cL_take 150 = .ok (.iload 6, 2) := by decide +kernel
theorem dL_take_152 : decode cL_take 152 = .ok (.ishl, 1) := by decide +kernel
theorem dL_take_153 : decode cL_take 153 = .ok (.ior, 1) := by decide +kernel
theorem dL_take_154 : decode cL_take 154 = .ok (.iastore, 1) := by decide +kernel
theorem dL_take_155 : decode cL_take 155 = .ok (.goto 22, 3) := by decide +kernel
theorem dL_take_158 : decode cL_take 158 = .ok (.aload_n 3, 1) := by decide +kernel
theorem dL_take_159 : decode cL_take 159 = .ok (.iload 7, 2) := by decide +kernel
theorem dL_take_161 : decode cL_take 161 = .ok (.bipush 7, 2) := by decide +kernel
theorem dL_take_163 : decode cL_take 163 = .ok (.iadd, 1) := by decide +kernel
theorem dL_take_164 : decode cL_take 164 = .ok (.dup2, 1) := by decide +kernel
theorem dL_take_165 : decode cL_take 165 = .ok (.iaload, 1) := by decide +kernel
theorem dL_take_166 : decode cL_take 166 = .ok (.iconst 1, 1) := by decide +kernel
theorem dL_take_167 : decode cL_take 167 = .ok (.iadd, 1) := by decide +kernel
theorem dL_take_168 : decode cL_take 168 = .ok (.iastore, 1) := by decide +kernel
theorem dL_take_169 : decode cL_take 169 = .ok (.aload 4, 2) := by decide +kernel
theorem dL_take_171 : decode cL_take 171 = .ok (.iconst 2, 1) := by decide +kernel
theorem dL_take_172 : decode cL_take 172 = .ok (.dup2, 1) := by decide +kernel
theorem dL_take_173 : decode cL_take 173 = .ok (.iaload, 1) := by decide +kernel
theorem dL_take_174 : decode cL_take 174 = .ok (.iconst 1, 1) := by decide +kernel
theorem dL_take_175 : decode cL_take 175 = .ok (.iadd, 1) := by decide +kernel
theorem dL_take_176 : decode cL_take 176 = .ok (.iastore, 1) := by decide +kernel
theorem dL_take_177 : decode cL_take 177 = .ok (.iload 6, 2) := by decide +kernel
theorem dL_take_179 : decode cL_take 179 = .ok (.aload_n 2, 1) := by decide +kernel
theorem dL_take_180 : decode cL_take 180 = .ok (.aload_n 3, 1) := by decide +kernel
theorem dL_take_181 : decode cL_take 181 = .ok (.invokestatic 45, 3) := by decide +kernel
theorem dL_take_184 : decode cL_take 184 = .ok (.istore 6, 2) := by decide +kernel
theorem dL_take_186 : decode cL_take 186 = .ok (.goto (-136), 3) := by decide +kernel
theorem dL_take_189 : decode cL_take 189 = .ok (.aload_n 2, 1) := by decide +kernel
theorem dL_take_190 : decode cL_take 190 = .ok (.iconst 4, 1) := by decide +kernel
theorem dL_take_191 : decode cL_take 191 = .ok (.dup2, 1) := by decide +kernel
theorem dL_take_192 : decode cL_take 192 = .ok (.iaload, 1) := by decide +kernel
theorem dL_take_193 : decode cL_take 193 = .ok (.aload 4, 2) := by decide +kernel
theorem dL_take_195 : decode cL_take 195 = .ok (.iconst 2, 1) := by decide +kernel
theorem dL_take_196 : decode cL_take 196 = .ok (.iaload, 1) := by decide +kernel
theorem dL_take_197 : decode cL_take 197 = .ok (.iadd, 1) := by decide +kernel
theorem dL_take_198 : decode cL_take 198 = .ok (.iastore, 1) := by decide +kernel
theorem dL_take_199 : decode cL_take 199 = .ok (.return_, 1) := by decide +kernel
theorem dL_pass_0 : decode cL_pass 0 = .ok (.iconst 0, 1) := by decide +kernel
theorem dL_pass_1 : decode cL_pass 1 = .ok (.istore_n 3, 1) := by decide +kernel
theorem dL_pass_2 : decode cL_pass 2 = .ok (.iconst 0, 1) := by decide +kernel
theorem dL_pass_3 : decode cL_pass 3 = .ok (.istore 4, 2) := by decide +kernel
theorem dL_pass_5 : decode cL_pass 5 = .ok (.iload 4, 2) := by decide +kernel
theorem dL_pass_7 : decode cL_pass 7 = .ok (.iload_n 0, 1) := by decide +kernel
theorem dL_pass_8 : decode cL_pass 8 = .ok (.if_icmp .ge 121, 3) := by decide +kernel
theorem dL_pass_11 : decode cL_pass 11 = .ok (.aload_n 1, 1) := by decide +kernel
theorem dL_pass_12 : decode cL_pass 12 = .ok (.iconst 3, 1) := by decide +kernel
theorem dL_pass_13 : decode cL_pass 13 = .ok (.dup2, 1) := by decide +kernel
theorem dL_pass_14 : decode cL_pass 14 = .ok (.iaload, 1) := by decide +kernel
theorem dL_pass_15 : decode cL_pass 15 = .ok (.iconst 1, 1) := by decide +kernel
theorem dL_pass_16 : decode cL_pass 16 = .ok (.iadd, 1) := by decide +kernel
theorem dL_pass_17 : decode cL_pass 17 = .ok (.iastore, 1) := by decide +kernel
theorem dL_pass_18 : decode cL_pass 18 = .ok (.iconst 0, 1) := by decide +kernel
theorem dL_pass_19 : decode cL_pass 19 = .ok (.istore 5, 2) := by decide +kernel
theorem dL_pass_21 : decode cL_pass 21 = .ok (.iload 5, 2) := by decide +kernel
theorem dL_pass_23 : decode cL_pass 23 = .ok (.aload_n 1, 1) := by decide +kernel
theorem dL_pass_24 : decode cL_pass 24 = .ok (.iconst 0, 1) := by decide +kernel
theorem dL_pass_25 : decode cL_pass 25 = .ok (.iaload, 1) := by decide +kernel
theorem dL_pass_26 : decode cL_pass 26 = .ok (.if_icmp .ge 97, 3) := by decide +kernel
theorem dL_pass_29 : decode cL_pass 29 = .ok (.bipush 9, 2) := by decide +kernel
theorem dL_pass_31 : decode cL_pass 31 = .ok (.iload 5, 2) := by decide +kernel
theorem dL_pass_33 : decode cL_pass 33 = .ok (.imul, 1) := by decide +kernel
theorem dL_pass_34 : decode cL_pass 34 = .ok (.istore 6, 2) := by decide +kernel
theorem dL_pass_36 : decode cL_pass 36 = .ok (.aload_n 2, 1) := by decide +kernel
theorem dL_pass_37 : decode cL_pass 37 = .ok (.iload 6, 2) := by decide +kernel
theorem dL_pass_39 : decode cL_pass 39 = .ok (.iconst 3, 1) := by decide +kernel
theorem dL_pass_40 : decode cL_pass 40 = .ok (.iadd, 1) := by decide +kernel
theorem dL_pass_41 : decode cL_pass 41 = .ok (.iaload, 1) := by decide +kernel
theorem dL_pass_42 : decode cL_pass 42 = .ok (.iconst 1, 1) := by decide +kernel
theorem dL_pass_43 : decode cL_pass 43 = .ok (.if_icmp .ne 74, 3) := by decide +kernel
theorem dL_pass_46 : decode cL_pass 46 = .ok (.aload_n 2, 1) := by decide +kernel
theorem dL_pass_47 : decode cL_pass 47 = .ok (.iload 6, 2) := by decide +kernel
theorem dL_pass_49 : decode cL_pass 49 = .ok (.iconst 5, 1) := by decide +kernel
theorem dL_pass_50 : decode cL_pass 50 = .ok (.iadd, 1) := by decide +kernel
theorem dL_pass_51 : decode cL_pass 51 = .ok (.iaload, 1) := by decide +kernel
theorem dL_pass_52 : decode cL_pass 52 = .ok (.aload_n 1, 1) := by decide +kernel
theorem dL_pass_53 : decode cL_pass 53 = .ok (.iconst 3, 1) := by decide +kernel
theorem dL_pass_54 : decode cL_pass 54 = .ok (.iaload, 1) := by decide +kernel
theorem dL_pass_55 : decode cL_pass 55 = .ok (.if_icmp .eq 6, 3) := by decide +kernel
theorem dL_pass_58 : decode cL_pass 58 = .ok (.goto 59, 3) := by decide +kernel
theorem dL_pass_61 : decode cL_pass 61 = .ok (.aload_n 2, 1) := by decide +kernel
theorem dL_pass_62 : decode cL_pass 62 = .ok (.iload 6, 2) := by decide +kernel
theorem dL_pass_64 : decode cL_pass 64 = .ok (.bipush 6, 2) := by decide +kernel
theorem dL_pass_66 : decode cL_pass 66 = .ok (.iadd, 1) := by decide +kernel
theorem dL_pass_67 : decode cL_pass 67 = .ok (.dup2, 1) := by decide +kernel
theorem dL_pass_68 : decode cL_pass 68 = .ok (.iaload, 1) := by decide +kernel
theorem dL_pass_69 : decode cL_pass 69 = .ok (.iconst 1, 1) := by decide +kernel
theorem dL_pass_70 : decode cL_pass 70 = .ok (.iadd, 1) := by decide +kernel
theorem dL_pass_71 : decode cL_pass 71 = .ok (.iastore, 1) := by decide +kernel
theorem dL_pass_72 : decode cL_pass 72 = .ok (.aload_n 2, 1) := by decide +kernel
theorem dL_pass_73 : decode cL_pass 73 = .ok (.iload 6, 2) := by decide +kernel
theorem dL_pass_75 : decode cL_pass 75 = .ok (.iconst 3, 1) := by decide +kernel
theorem dL_pass_76 : decode cL_pass 76 = .ok (.iadd, 1) := by decide +kernel
theorem dL_pass_77 : decode cL_pass 77 = .ok (.aload_n 2, 1) := by decide +kernel
theorem dL_pass_78 : decode cL_pass 78 = .ok (.iload 6, 2) := by decide +kernel
theorem dL_pass_80 : decode cL_pass 80 = .ok (.bipush 6, 2) := by decide +kernel
theorem dL_pass_82 : decode cL_pass 82 = .ok (.iadd, 1) := by decide +kernel
theorem dL_pass_83 : decode cL_pass 83 = .ok (.iaload, 1) := by decide +kernel
theorem dL_pass_84 : decode cL_pass 84 = .ok (.aload_n 1, 1) := by decide +kernel
theorem dL_pass_85 : decode cL_pass 85 = .ok (.bipush 6, 2) := by decide +kernel
theorem dL_pass_87 : decode cL_pass 87 = .ok (.iaload, 1) := by decide +kernel
theorem dL_pass_88 : decode cL_pass 88 = .ok (.if_icmp .lt 7, 3) := by decide +kernel
theorem dL_pass_91 : decode cL_pass 91 = .ok (.iconst 3, 1) := by decide +kernel
theorem dL_pass_92 : decode cL_pass 92 = .ok (.goto 4, 3) := by decide +kernel
theorem dL_pass_95 : decode cL_pass 95 = .ok (.iconst 0, 1) := by decide +kernel
theorem dL_pass_96 : decode cL_pass 96 = .ok (.iastore, 1) := by decide +kernel
theorem dL_pass_97 : decode cL_pass 97 = .ok (.aload_n 1, 1) := by decide +kernel
theorem dL_pass_98 : decode cL_pass 98 = .ok (.bipush 12, 2) := by decide +kernel
theorem dL_pass_100 : decode cL_pass 100 = .ok (.iconst 4, 1) := by decide +kernel
theorem dL_pass_101 : decode cL_pass 101 = .ok (.aload_n 2, 1) := by decide +kernel
theorem dL_pass_102 : decode cL_pass 102 = .ok (.iload 6, 2) := by decide +kernel
theorem dL_pass_104 : decode cL_pass 104 = .ok (.iconst 4, 1) := by decide +kernel
theorem dL_pass_105 : decode cL_pass 105 = .ok (.iadd, 1) := by decide +kernel
theorem dL_pass_106 : decode cL_pass 106 = .ok (.iaload, 1) := by decide +kernel
theorem dL_pass_107 : decode cL_pass 107 = .ok (.imul, 1) := by decide +kernel
theorem dL_pass_108 : decode cL_pass 108 = .ok (.iadd, 1) := by decide +kernel
theorem dL_pass_109 : decode cL_pass 109 = .ok (.dup2, 1) := by decide +kernel
theorem dL_pass_110 : decode cL_pass 110 = .ok (.iaload, 1) := by decide +kernel
theorem dL_pass_111 : decode cL_pass 111 = .ok (.iconst 1, 1) := by decide +kernel
theorem dL_pass_112 : decode cL_pass 112 = .ok (.iadd, 1) := by decide +kernel
theorem dL_pass_113 : decode cL_pass 113 = .ok (.iastore, 1) := by decide +kernel
theorem dL_pass_114 : decode cL_pass 114 = .ok (.iinc 3 1, 3) := by decide +kernel
theorem dL_pass_117 : decode cL_pass 117 = .ok (.iinc 5 1, 3) := by decide +kernel
theorem dL_pass_120 : decode cL_pass 120 = .ok (.goto (-99), 3) := by decide +kernel
theorem dL_pass_123 : decode cL_pass 123 = .ok (.iinc 4 1, 3) := by decide +kernel
theorem dL_pass_126 : decode cL_pass 126 = .ok (.goto (-121), 3) := by decide +kernel
theorem dL_pass_129 : decode cL_pass 129 = .ok (.iload_n 3, 1) := by decide +kernel
theorem dL_pass_130 : decode cL_pass 130 = .ok (.ireturn, 1) := by decide +kernel
theorem dL_copy_0 : decode cL_copy 0 = .ok (.iconst 0, 1) := by decide +kernel
theorem dL_copy_1 : decode cL_copy 1 = .ok (.istore 4, 2) := by decide +kernel
theorem dL_copy_3 : decode cL_copy 3 = .ok (.iload 4, 2) := by decide +kernel
theorem dL_copy_5 : decode cL_copy 5 = .ok (.bipush 25, 2) := by decide +kernel
theorem dL_copy_7 : decode cL_copy 7 = .ok (.if_icmp .ge 17, 3) := by decide +kernel
theorem dL_copy_10 : decode cL_copy 10 = .ok (.aload_n 2, 1) := by decide +kernel
theorem dL_copy_11 : decode cL_copy 11 = .ok (.iload 4, 2) := by decide +kernel
theorem dL_copy_13 : decode cL_copy 13 = .ok (.aload_n 0, 1) := by decide +kernel
theorem dL_copy_14 : decode cL_copy 14 = .ok (.iload 4, 2) := by decide +kernel
theorem dL_copy_16 : decode cL_copy 16 = .ok (.iaload, 1) := by decide +kernel
theorem dL_copy_17 : decode cL_copy 17 = .ok (.iastore, 1) := by decide +kernel
theorem dL_copy_18 : decode cL_copy 18 = .ok (.iinc 4 1, 3) := by decide +kernel
theorem dL_copy_21 : decode cL_copy 21 = .ok (.goto (-18), 3) := by decide +kernel
theorem dL_copy_24 : decode cL_copy 24 = .ok (.iconst 0, 1) := by decide +kernel
theorem dL_copy_25 : decode cL_copy 25 = .ok (.istore 4, 2) := by decide +kernel
theorem dL_copy_27 : decode cL_copy 27 = .ok (.iload 4, 2) := by decide +kernel
theorem dL_copy_29 : decode cL_copy 29 = .ok (.bipush 63, 2) := by decide +kernel
theorem dL_copy_31 : decode cL_copy 31 = .ok (.if_icmp .ge 17, 3) := by decide +kernel
theorem dL_copy_34 : decode cL_copy 34 = .ok (.aload_n 3, 1) := by decide +kernel
theorem dL_copy_35 : decode cL_copy 35 = .ok (.iload 4, 2) := by decide +kernel
theorem dL_copy_37 : decode cL_copy 37 = .ok (.aload_n 1, 1) := by decide +kernel
theorem dL_copy_38 : decode cL_copy 38 = .ok (.iload 4, 2) := by decide +kernel
theorem dL_copy_40 : decode cL_copy 40 = .ok (.iaload, 1) := by decide +kernel
theorem dL_copy_41 : decode cL_copy 41 = .ok (.iastore, 1) := by decide +kernel
theorem dL_copy_42 : decode cL_copy 42 = .ok (.iinc 4 1, 3) := by decide +kernel
theorem dL_copy_45 : decode cL_copy 45 = .ok (.goto (-18), 3) := by decide +kernel
theorem dL_copy_48 : decode cL_copy 48 = .ok (.return_, 1) := by decide +kernel
theorem dL_same_0 : decode cL_same 0 = .ok (.iconst 4, 1) := by decide +kernel
theorem dL_same_1 : decode cL_same 1 = .ok (.newarray .int, 2) := by decide +kernel
theorem dL_same_3 : decode cL_same 3 = .ok (.astore 6, 2) := by decide +kernel
theorem dL_same_5 : decode cL_same 5 = .ok (.iconst 0, 1) := by decide +kernel
theorem dL_same_6 : decode cL_same 6 = .ok (.istore 7, 2) := by decide +kernel
theorem dL_same_8 : decode cL_same 8 = .ok (.iconst (-1), 1) := by decide +kernel
theorem dL_same_9 : decode cL_same 9 = .ok (.istore 8, 2) := by decide +kernel
theorem dL_same_11 : decode cL_same 11 = .ok (.iconst 0, 1) := by decide +kernel
theorem dL_same_12 : decode cL_same 12 = .ok (.istore 9, 2) := by decide +kernel
theorem dL_same_14 : decode cL_same 14 = .ok (.iconst 0, 1) := by decide +kernel
theorem dL_same_15 : decode cL_same 15 = .ok (.istore 10, 2) := by decide +kernel
theorem dL_same_17 : decode cL_same 17 = .ok (.iload 10, 2) := by decide +kernel
theorem dL_same_19 : decode cL_same 19 = .ok (.aload_n 1, 1) := by decide +kernel
theorem dL_same_20 : decode cL_same 20 = .ok (.iconst 0, 1) := by decide +kernel
theorem dL_same_21 : decode cL_same 21 = .ok (.iaload, 1) := by decide +kernel
theorem dL_same_22 : decode cL_same 22 = .ok (.if_icmp .ge 380, 3) := by decide +kernel
theorem dL_same_25 : decode cL_same 25 = .ok (.bipush 9, 2) := by decide +kernel
theorem dL_same_27 : decode cL_same 27 = .ok (.iload 10, 2) := by decide +kernel
theorem dL_same_29 : decode cL_same 29 = .ok (.imul, 1) := by decide +kernel
theorem dL_same_30 : decode cL_same 30 = .ok (.istore 11, 2) := by decide +kernel
theorem dL_same_32 : decode cL_same 32 = .ok (.aload_n 2, 1) := by decide +kernel
theorem dL_same_33 : decode cL_same 33 = .ok (.iload 11, 2) := by decide +kernel
theorem dL_same_35 : decode cL_same 35 = .ok (.iconst 3, 1) := by decide +kernel
theorem dL_same_36 : decode cL_same 36 = .ok (.iadd, 1) := by decide +kernel
theorem dL_same_37 : decode cL_same 37 = .ok (.iaload, 1) := by decide +kernel
theorem dL_same_38 : decode cL_same 38 = .ok (.iconst 2, 1) := by decide +kernel
theorem dL_same_39 : decode cL_same 39 = .ok (.if_icmp .ge 7, 3) := by decide +kernel
theorem dL_same_42 : decode cL_same 42 = .ok (.iconst 1, 1) := by decide +kernel
theorem dL_same_43 : decode cL_same 43 = .ok (.goto 4, 3) := by decide +kernel
theorem dL_same_46 : decode cL_same 46 = .ok (.iconst 0, 1) := by decide +kernel
theorem dL_same_47 : decode cL_same 47 = .ok (.istore 12, 2) := by decide +kernel
theorem dL_same_49 : decode cL_same 49 = .ok (.aload_n 2, 1) := by decide +kernel
theorem dL_same_50 : decode cL_same 50 = .ok (.iload 11, 2) := by decide +kernel
theorem dL_same_52 : decode cL_same 52 = .ok (.iconst 3, 1) := by decide +kernel
theorem dL_same_53 : decode cL_same 53 = .ok (.iadd, 1) := by decide +kernel
theorem dL_same_54 : decode cL_same 54 = .ok (.iaload, 1) := by decide +kernel
theorem dL_same_55 : decode cL_same 55 = .ok (.iconst 1, 1) := by decide +kernel
theorem dL_same_56 : decode cL_same 56 = .ok (.if_icmp .ne 7, 3) := by decide +kernel
theorem dL_same_59 : decode cL_same 59 = .ok (.iconst 1, 1) := by decide +kernel
theorem dL_same_60 : decode cL_same 60 = .ok (.goto 4, 3) := by decide +kernel
theorem dL_same_63 : decode cL_same 63 = .ok (.iconst 0, 1) := by decide +kernel
theorem dL_same_64 : decode cL_same 64 = .ok (.istore 13, 2) := by decide +kernel
theorem dL_same_66 : decode cL_same 66 = .ok (.iconst (-1), 1) := by decide +kernel
theorem dL_same_67 : decode cL_same 67 = .ok (.istore 14, 2) := by decide +kernel
theorem dL_same_69 : decode cL_same 69 = .ok (.iload 12, 2) := by decide +kernel
theorem dL_same_71 : decode cL_same 71 = .ok (.ifCond .eq 36, 3) := by decide +kernel
theorem dL_same_74 : decode cL_same 74 = .ok (.iconst 0, 1) := by decide +kernel
theorem dL_same_75 : decode cL_same 75 = .ok (.istore 14, 2) := by decide +kernel
theorem dL_same_77 : decode cL_same 77 = .ok (.iconst (-1), 1) := by decide +kernel
theorem dL_same_78 : decode cL_same 78 = .ok (.aload_n 1, 1) := by decide +kernel
theorem dL_same_79 : decode cL_same 79 = .ok (.aload_n 2, 1) := by decide +kernel
theorem dL_same_80 : decode cL_same 80 = .ok (.invokestatic 45, 3) := by decide +kernel
theorem dL_same_83 : decode cL_same 83 = .ok (.istore 15, 2) := by decide +kernel
theorem dL_same_85 : decode cL_same 85 = .ok (.iload 15, 2) := by decide +kernel
theorem dL_same_87 : decode cL_same 87 = .ok (.iload 10, 2) := by decide +kernel
theorem dL_same_89 : decode cL_same 89 = .ok (.if_icmp .eq 18, 3) := by decide +kernel
theorem dL_same_92 : decode cL_same 92 = .ok (.iinc 14 1, 3) := by decide +kernel
theorem dL_same_95 : decode cL_same 95 = .ok (.iload 15, 2) := by decide +kernel
theorem dL_same_97 : decode cL_same 97 = .ok (.aload_n 1, 1) := by decide +kernel
theorem dL_same_98 : decode cL_same 98 = .ok (.aload_n 2, 1) := by decide +kernel
theorem dL_same_99 : decode cL_same 99 = .ok (.invokestatic 45, 3) := by decide +kernel
theorem dL_same_102 : decode cL_same 102 = .ok (.istore 15, 2) := by decide +kernel
theorem dL_same_104 : decode cL_same 104 = .ok (.goto (-19), 3) := by decide +kernel
theorem dL_same_107 : decode cL_same 107 = .ok (.iconst 0, 1) := by decide +kernel
theorem dL_same_108 : decode cL_same 108 = .ok (.istore 15, 2) := by decide +kernel
theorem dL_same_110 : decode cL_same 110 = .ok (.iload 15, 2) := by decide +kernel
theorem dL_same_112 : decode cL_same 112 = .ok (.iconst 4, 1) := by decide +kernel
theorem dL_same_113 : decode cL_same 113 = .ok (.if_icmp .ge 29, 3) := by decide +kernel
theorem dL_same_116 : decode cL_same 116 = .ok (.aload_n 0, 1) := by decide +kernel
theorem dL_same_117 : decode cL_same 117 = .ok (.iload 10, 2) := by decide +kernel
theorem dL_same_119 : decode cL_same 119 = .ok (.iload 15, 2) := by decide +kernel
theorem dL_same_121 : decode cL_same 121 = .ok (.invokevirtual 52, 3) := by decide +kernel
theorem dL_same_124 : decode cL_same 124 = .ok (.aload_n 2, 1) := by decide +kernel
theorem dL_same_125 : decode cL_same 125 = .ok (.iload 11, 2) := by decide +kernel
theorem dL_same_127 : decode cL_same 127 = .ok (.iload 15, 2) := by decide +kernel
theorem dL_same_129 : decode cL_same 129 = .ok (.iadd, 1) := by decide +kernel
theorem dL_same_130 : decode cL_same 130 = .ok (.iaload, 1) := by decide +kernel
theorem dL_same_131 : decode cL_same 131 = .ok (.if_icmp .eq 5, 3) := by decide +kernel
theorem dL_same_134 : decode cL_same 134 = .ok (.iconst 0, 1) := by decide +kernel
theorem dL_same_135 : decode cL_same 135 = .ok (.ireturn, 1) := by decide +kernel
theorem dL_same_136 : decode cL_same 136 = .ok (.iinc 15 1, 3) := by decide +kernel
theorem dL_same_139 : decode cL_same 139 = .ok (.goto (-29), 3) := by decide +kernel
theorem dL_same_142 : decode cL_same 142 = .ok (.aload_n 0, 1) := by decide +kernel
theorem dL_same_143 : decode cL_same 143 = .ok (.iload 10, 2) := by decide +kernel
theorem dL_same_145 : decode cL_same 145 = .ok (.iconst 4, 1) := by decide +kernel
theorem dL_same_146 : decode cL_same 146 = .ok (.invokevirtual 52, 3) := by decide +kernel
theorem dL_same_149 : decode cL_same 149 = .ok (.iload 13, 2) := by decide +kernel
theorem dL_same_151 : decode cL_same 151 = .ok (.ifCond .eq 12, 3) := by decide +kernel
theorem dL_same_154 : decode cL_same 154 = .ok (.aload_n 2, 1) := by decide +kernel
theorem dL_same_155 : decode cL_same 155 = .ok (.iload 11, 2) := by decide +kernel
theorem dL_same_157 : decode cL_same 157 = .ok (.iconst 4, 1) := by decide +kernel
theorem dL_same_158 : decode cL_same 158 = .ok (.iadd, 1) := by decide +kernel
theorem dL_same_159 : decode cL_same 159 = .ok (.iaload, 1) := by decide +kernel
theorem dL_same_160 : decode cL_same 160 = .ok (.goto 4, 3) := by decide +kernel
theorem dL_same_163 : decode cL_same 163 = .ok (.iconst (-1), 1) := by decide +kernel
theorem dL_same_164 : decode cL_same 164 = .ok (.if_icmp .ne 130, 3) := by decide +kernel
theorem dL_same_167 : decode cL_same 167 = .ok (.aload_n 0, 1) := by decide +kernel
theorem dL_same_168 : decode cL_same 168 = .ok (.iload 10, 2) := by decide +kernel
theorem dL_same_170 : decode cL_same 170 = .ok (.iconst 5, 1) := by decide +kernel
theorem dL_same_171 : decode cL_same 171 = .ok (.invokevirtual 52, 3) := by decide +kernel
theorem dL_same_174 : decode cL_same 174 = .ok (.iload 13, 2) := by decide +kernel
theorem dL_same_176 : decode cL_same 176 = .ok (.ifCond .eq 12, 3) := by decide +kernel
theorem dL_same_179 : decode cL_same 179 = .ok (.aload_n 2, 1) := by decide +kernel
theorem dL_same_180 : decode cL_same 180 = .ok (.iload 11, 2) := by decide +kernel
theorem dL_same_182 : decode cL_same 182 = .ok (.iconst 5, 1) := by decide +kernel
theorem dL_same_183 : decode cL_same 183 = .ok (.iadd, 1) := by decide +kernel
theorem dL_same_184 : decode cL_same 184 = .ok (.iaload, 1) := by decide +kernel
theorem dL_same_185 : decode cL_same 185 = .ok (.goto 4, 3) := by decide +kernel
theorem dL_same_188 : decode cL_same 188 = .ok (.iconst (-1), 1) := by decide +kernel
theorem dL_same_189 : decode cL_same 189 = .ok (.if_icmp .ne 105, 3) := by decide +kernel
theorem dL_same_192 : decode cL_same 192 = .ok (.aload_n 0, 1) := by decide +kernel
theorem dL_same_193 : decode cL_same 193 = .ok (.iload 10, 2) := by decide +kernel
theorem dL_same_195 : decode cL_same 195 = .ok (.bipush 6, 2) := by decide +kernel
theorem dL_same_197 : decode cL_same 197 = .ok (.invokevirtual 52, 3) := by decide +kernel
theorem dL_same_200 : decode cL_same 200 = .ok (.aload_n 2, 1) := by decide +kernel
theorem dL_same_201 : decode cL_same 201 = .ok (.iload 11, 2) := by decide +kernel
theorem dL_same_203 : decode cL_same 203 = .ok (.bipush 6, 2) := by decide +kernel
theorem dL_same_205 : decode cL_same 205 = .ok (.iadd, 1) := by decide +kernel
theorem dL_same_206 : decode cL_same 206 = .ok (.iaload, 1) := by decide +kernel
theorem dL_same_207 : decode cL_same 207 = .ok (.if_icmp .ne 87, 3) := by decide +kernel
theorem dL_same_210 : decode cL_same 210 = .ok (.aload_n 0, 1) := by decide +kernel
theorem dL_same_211 : decode cL_same 211 = .ok (.iload 10, 2) := by decide +kernel
theorem dL_same_213 : decode cL_same 213 = .ok (.bipush 7, 2) := by decide +kernel
theorem dL_same_215 : decode cL_same 215 = .ok (.invokevirtual 52, 3) := by decide +kernel
theorem dL_same_218 : decode cL_same 218 = .ok (.aload_n 2, 1) := by decide +kernel
theorem dL_same_219 : decode cL_same 219 = .ok (.iload 11, 2) := by decide +kernel
theorem dL_same_221 : decode cL_same 221 = .ok (.bipush 7, 2) := by decide +kernel
theorem dL_same_223 : decode cL_same 223 = .ok (.iadd, 1) := by decide +kernel
theorem dL_same_224 : decode cL_same 224 = .ok (.iaload, 1) := by decide +kernel
theorem dL_same_225 : decode cL_same 225 = .ok (.if_icmp .ne 69, 3) := by decide +kernel
theorem dL_same_228 : decode cL_same 228 = .ok (.aload_n 0, 1) := by decide +kernel
theorem dL_same_229 : decode cL_same 229 = .ok (.iload 10, 2) := by decide +kernel
theorem dL_same_231 : decode cL_same 231 = .ok (.bipush 8, 2) := by decide +kernel
theorem dL_same_233 : decode cL_same 233 = .ok (.invokevirtual 52, 3) := by decide +kernel
theorem dL_same_236 : decode cL_same 236 = .ok (.iload 12, 2) := by decide +kernel
theorem dL_same_238 : decode cL_same 238 = .ok (.ifCond .eq 17, 3) := by decide +kernel
theorem dL_same_241 : decode cL_same 241 = .ok (.iload 10, 2) := by decide +kernel
theorem dL_same_243 : decode cL_same 243 = .ok (.aload_n 1, 1) := by decide +kernel
theorem dL_same_244 : decode cL_same 244 = .ok (.aload_n 2, 1) := by decide +kernel
theorem dL_same_245 : decode cL_same 245 = .ok (.invokestatic 48, 3) := by decide +kernel
theorem dL_same_248 : decode cL_same 248 = .ok (.ifCond .eq 7, 3) := by decide +kernel
theorem dL_same_251 : decode cL_same 251 = .ok (.iconst 1, 1) := by decide +kernel
theorem dL_same_252 : decode cL_same 252 = .ok (.goto 4, 3) := by decide +kernel
theorem dL_same_255 : decode cL_same 255 = .ok (.iconst 0, 1) := by decide +kernel
theorem dL_same_256 : decode cL_same 256 = .ok (.if_icmp .ne 38, 3) := by decide +kernel
theorem dL_same_259 : decode cL_same 259 = .ok (.aload_n 0, 1) := by decide +kernel
theorem dL_same_260 : decode cL_same 260 = .ok (.iload 10, 2) := by decide +kernel
theorem dL_same_262 : decode cL_same 262 = .ok (.bipush 9, 2) := by decide +kernel
theorem dL_same_264 : decode cL_same 264 = .ok (.invokevirtual 52, 3) := by decide +kernel
theorem dL_same_267 : decode cL_same 267 = .ok (.iload 14, 2) := by decide +kernel
theorem dL_same_269 : decode cL_same 269 = .ok (.if_icmp .ne 25, 3) := by decide +kernel
theorem dL_same_272 : decode cL_same 272 = .ok (.aload_n 0, 1) := by decide +kernel
theorem dL_same_273 : decode cL_same 273 = .ok (.iload 10, 2) := by decide +kernel
theorem dL_same_275 : decode cL_same 275 = .ok (.bipush 10, 2) := by decide +kernel
theorem dL_same_277 : decode cL_same 277 = .ok (.invokevirtual 52, 3) := by decide +kernel
theorem dL_same_280 : decode cL_same 280 = .ok (.aload_n 1, 1) := by decide +kernel
theorem dL_same_281 : decode cL_same 281 = .ok (.iconst 3, 1) := by decide +kernel
theorem dL_same_282 : decode cL_same 282 = .ok (.iaload, 1) := by decide +kernel
theorem dL_same_283 : decode cL_same 283 = .ok (.aload_n 2, 1) := by decide +kernel
theorem dL_same_284 : decode cL_same 284 = .ok (.iload 11, 2) := by decide +kernel
theorem dL_same_286 : decode cL_same 286 = .ok (.bipush 8, 2) := by decide +kernel
theorem dL_same_288 : decode cL_same 288 = .ok (.iadd, 1) := by decide +kernel
theorem dL_same_289 : decode cL_same 289 = .ok (.iaload, 1) := by decide +kernel
theorem dL_same_290 : decode cL_same 290 = .ok (.isub, 1) := by decide +kernel
theorem dL_same_291 : decode cL_same 291 = .ok (.if_icmp .eq 5, 3) := by decide +kernel
theorem dL_same_294 : decode cL_same 294 = .ok (.iconst 0, 1) := by decide +kernel
theorem dL_same_295 : decode cL_same 295 = .ok (.ireturn, 1) := by decide +kernel
theorem dL_same_296 : decode cL_same 296 = .ok (.aload 6, 2) := by decide +kernel
theorem dL_same_298 : decode cL_same 298 = .ok (.aload_n 2, 1) := by decide +kernel
theorem dL_same_299 : decode cL_same 299 = .ok (.iload 11, 2) := by decide +kernel
theorem dL_same_301 : decode cL_same 301 = .ok (.iconst 3, 1) := by decide +kernel
theorem dL_same_302 : decode cL_same 302 = .ok (.iadd, 1) := by decide +kernel
theorem dL_same_303 : decode cL_same 303 = .ok (.iaload, 1) := by decide +kernel
theorem dL_same_304 : decode cL_same 304 = .ok (.dup2, 1) := by decide +kernel
theorem dL_same_305 : decode cL_same 305 = .ok (.iaload, 1) := by decide +kernel
theorem dL_same_306 : decode cL_same 306 = .ok (.iconst 1, 1) := by decide +kernel
theorem dL_same_307 : decode cL_same 307 = .ok (.iadd, 1) := by decide +kernel
theorem dL_same_308 : decode cL_same 308 = .ok (.iastore, 1) := by decide +kernel
theorem dL_same_309 : decode cL_same 309 = .ok (.iload 7, 2) := by decide +kernel
theorem dL_same_311 : decode cL_same 311 = .ok (.aload_n 2, 1) := by decide +kernel
theorem dL_same_312 : decode cL_same 312 = .ok (.iload 11, 2) := by decide +kernel
theorem dL_same_314 : decode cL_same 314 = .ok (.iconst 3, 1) := by decide +kernel
theorem dL_same_315 : decode cL_same 315 = .ok (.iadd, 1) := by decide +kernel
theorem dL_same_316 : decode cL_same 316 = .ok (.iaload, 1) := by decide +kernel
theorem dL_same_317 : decode cL_same 317 = .ok (.ifCond .ne 17, 3) := by decide +kernel
theorem dL_same_320 : decode cL_same 320 = .ok (.iload 10, 2) := by decide +kernel
theorem dL_same_322 : decode cL_same 322 = .ok (.aload_n 1, 1) := by decide +kernel
theorem dL_same_323 : decode cL_same 323 = .ok (.aload_n 2, 1) := by decide +kernel
theorem dL_same_324 : decode cL_same 324 = .ok (.invokestatic 48, 3) := by decide +kernel
theorem dL_same_327 : decode cL_same 327 = .ok (.ifCond .eq 7, 3) := by decide +kernel
theorem dL_same_330 : decode cL_same 330 = .ok (.iconst 1, 1) := by decide +kernel
theorem dL_same_331 : decode cL_same 331 = .ok (.goto 4, 3) := by decide +kernel
theorem dL_same_334 : decode cL_same 334 = .ok (.iconst 0, 1) := by decide +kernel
theorem dL_same_335 : decode cL_same 335 = .ok (.iadd, 1) := by decide +kernel
theorem dL_same_336 : decode cL_same 336 = .ok (.istore 7, 2) := by decide +kernel
theorem dL_same_338 : decode cL_same 338 = .ok (.iload 8, 2) := by decide +kernel
theorem dL_same_340 : decode cL_same 340 = .ok (.ifCond .ge 17, 3) := by decide +kernel
theorem dL_same_343 : decode cL_same 343 = .ok (.aload_n 2, 1) := by decide +kernel
theorem dL_same_344 : decode cL_same 344 = .ok (.iload 11, 2) := by decide +kernel
theorem dL_same_346 : decode cL_same 346 = .ok (.iconst 3, 1) := by decide +kernel
theorem dL_same_347 : decode cL_same 347 = .ok (.iadd, 1) := by decide +kernel
theorem dL_same_348 : decode cL_same 348 = .ok (.iaload, 1) := by decide +kernel
theorem dL_same_349 : decode cL_same 349 = .ok (.ifCond .ne 8, 3) := by decide +kernel
theorem dL_same_352 : decode cL_same 352 = .ok (.iload 10, 2) := by decide +kernel
theorem dL_same_354 : decode cL_same 354 = .ok (.goto 5, 3) := by decide +kernel
theorem dL_same_357 : decode cL_same 357 = .ok (.iload 8, 2) := by decide +kernel
theorem dL_same_359 : decode cL_same 359 = .ok (.istore 8, 2) := by decide +kernel
theorem dL_same_361 : decode cL_same 361 = .ok (.aload_n 2, 1) := by decide +kernel
theorem dL_same_362 : decode cL_same 362 = .ok (.iload 11, 2) := by decide +kernel
theorem dL_same_364 : decode cL_same 364 = .ok (.iconst 3, 1) := by decide +kernel
theorem dL_same_365 : decode cL_same 365 = .ok (.iadd, 1) := by decide +kernel
theorem dL_same_366 : decode cL_same 366 = .ok (.iaload, 1) := by decide +kernel
theorem dL_same_367 : decode cL_same 367 = .ok (.ifCond .ne 25, 3) := by decide +kernel
theorem dL_same_370 : decode cL_same 370 = .ok (.aload_n 2, 1) := by decide +kernel
theorem dL_same_371 : decode cL_same 371 = .ok (.iload 11, 2) := by decide +kernel
theorem dL_same_373 : decode cL_same 373 = .ok (.bipush 7, 2) := by decide +kernel
theorem dL_same_375 : decode cL_same 375 = .ok (.iadd, 1) := by decide +kernel
theorem dL_same_376 : decode cL_same 376 = .ok (.iaload, 1) := by decide +kernel
theorem dL_same_377 : decode cL_same 377 = .ok (.iload 9, 2) := by decide +kernel
theorem dL_same_379 : decode cL_same 379 = .ok (.if_icmp .le 13, 3) := by decide +kernel
theorem dL_same_382 : decode cL_same 382 = .ok (.aload_n 2, 1) := by decide +kernel
theorem dL_same_383 : decode cL_same 383 = .ok (.iload 11, 2) := by decide +kernel
theorem dL_same_385 : decode cL_same 385 = .ok (.bipush 7, 2) := by decide +kernel
theorem dL_same_387 : decode cL_same 387 = .ok (.iadd, 1) := by decide +kernel
theorem dL_same_388 : decode cL_same 388 = .ok (.iaload, 1) := by decide +kernel
theorem dL_same_389 : decode cL_same 389 = .ok (.goto 5, 3) := by decide +kernel
theorem dL_same_392 : decode cL_same 392 = .ok (.iload 9, 2) := by decide +kernel
theorem dL_same_394 : decode cL_same 394 = .ok (.istore 9, 2) := by decide +kernel
theorem dL_same_396 : decode cL_same 396 = .ok (.iinc 10 1, 3) := by decide +kernel
theorem dL_same_399 : decode cL_same 399 = .ok (.goto (-382), 3) := by decide +kernel
theorem dL_same_402 : decode cL_same 402 = .ok (.iconst (-1), 1) := by decide +kernel
theorem dL_same_403 : decode cL_same 403 = .ok (.istore 10, 2) := by decide +kernel
theorem dL_same_405 : decode cL_same 405 = .ok (.iconst 0, 1) := by decide +kernel
theorem dL_same_406 : decode cL_same 406 = .ok (.istore 11, 2) := by decide +kernel
theorem dL_same_408 : decode cL_same 408 = .ok (.iconst 0, 1) := by decide +kernel
theorem dL_same_409 : decode cL_same 409 = .ok (.istore 12, 2) := by decide +kernel
theorem dL_same_411 : decode cL_same 411 = .ok (.iload 12, 2) := by decide +kernel
theorem dL_same_413 : decode cL_same 413 = .ok (.iconst 4, 1) := by decide +kernel
theorem dL_same_414 : decode cL_same 414 = .ok (.if_icmp .ge 358, 3) := by decide +kernel
theorem dL_same_417 : decode cL_same 417 = .ok (.iconst (-1), 1) := by decide +kernel
theorem dL_same_418 : decode cL_same 418 = .ok (.istore 13, 2) := by decide +kernel
theorem dL_same_420 : decode cL_same 420 = .ok (.iconst 0, 1) := by decide +kernel
theorem dL_same_421 : decode cL_same 421 = .ok (.istore 14, 2) := by decide +kernel
theorem dL_same_423 : decode cL_same 423 = .ok (.iload 14, 2) := by decide +kernel
theorem dL_same_425 : decode cL_same 425 = .ok (.aload_n 1, 1) := by decide +kernel
theorem dL_same_426 : decode cL_same 426 = .ok (.iconst 0, 1) := by decide +kernel
theorem dL_same_427 : decode cL_same 427 = .ok (.iaload, 1) := by decide +kernel
theorem dL_same_428 : decode cL_same 428 = .ok (.if_icmp .ge 66, 3) := by decide +kernel
theorem dL_same_431 : decode cL_same 431 = .ok (.aload_n 2, 1) := by decide +kernel
theorem dL_same_432 : decode cL_same 432 = .ok (.bipush 9, 2) := by decide +kernel
theorem dL_same_434 : decode cL_same 434 = .ok (.iload 14, 2) := by decide +kernel
theorem dL_same_436 : decode cL_same 436 = .ok (.imul, 1) := by decide +kernel
theorem dL_same_437 : decode cL_same 437 = .ok (.iconst 3, 1) := by decide +kernel
theorem dL_same_438 : decode cL_same 438 = .ok (.iadd, 1) := by decide +kernel
theorem dL_same_439 : decode cL_same 439 = .ok (.iaload, 1) := by decide +kernel
theorem dL_same_440 : decode cL_same 440 = .ok (.iconst 1, 1) := by decide +kernel
theorem dL_same_441 : decode cL_same 441 = .ok (.if_icmp .ne 47, 3) := by decide +kernel
theorem dL_same_444 : decode cL_same 444 = .ok (.aload_n 2, 1) := by decide +kernel
theorem dL_same_445 : decode cL_same 445 = .ok (.bipush 9, 2) := by decide +kernel
theorem dL_same_447 : decode cL_same 447 = .ok (.iload 14, 2) := by decide +kernel
theorem dL_same_449 : decode cL_same 449 = .ok (.imul, 1) := by decide +kernel
theorem dL_same_450 : decode cL_same 450 = .ok (.iconst 4, 1) := by decide +kernel
theorem dL_same_451 : decode cL_same 451 = .ok (.iadd, 1) := by decide +kernel
theorem dL_same_452 : decode cL_same 452 = .ok (.iaload, 1) := by decide +kernel
theorem dL_same_453 : decode cL_same 453 = .ok (.iload 12, 2) := by decide +kernel
theorem dL_same_455 : decode cL_same 455 = .ok (.if_icmp .ne 33, 3) := by decide +kernel
theorem dL_same_458 : decode cL_same 458 = .ok (.iload 13, 2) := by decide +kernel
theorem dL_same_460 : decode cL_same 460 = .ok (.ifCond .lt 17, 3) := by decide +kernel
theorem dL_same_463 : decode cL_same 463 = .ok (.aload_n 2, 1) := by decide +kernel
theorem dL_same_464 : decode cL_same 464 = .ok (.bipush 9, 2) := by decide +kernel
theorem dL_same_466 : decode cL_same 466 = .ok (.iload 14, 2) := by decide +kernel
theorem dL_same_468 : decode cL_same 468 = .ok (.imul, 1) := by decide +kernel
theorem dL_same_469 : decode cL_same 469 = .ok (.iconst 5, 1) := by decide +kernel
theorem dL_same_470 : decode cL_same 470 = .ok (.iadd, 1) := by decide +kernel
theorem dL_same_471 : decode cL_same 471 = .ok (.iaload, 1) := by decide +kernel
theorem dL_same_472 : decode cL_same 472 = .ok (.iload 13, 2) := by decide +kernel
theorem dL_same_474 : decode cL_same 474 = .ok (.if_icmp .ge 14, 3) := by decide +kernel
theorem dL_same_477 : decode cL_same 477 = .ok (.aload_n 2, 1) := by decide +kernel
theorem dL_same_478 : decode cL_same 478 = .ok (.bipush 9, 2) := by decide +kernel
theorem dL_same_480 : decode cL_same 480 = .ok (.iload 14, 2) := by decide +kernel
theorem dL_same_482 : decode cL_same 482 = .ok (.imul, 1) := by decide +kernel
theorem dL_same_483 : decode cL_same 483 = .ok (.iconst 5, 1) := by decide +kernel
theorem dL_same_484 : decode cL_same 484 = .ok (.iadd, 1) := by decide +kernel
theorem dL_same_485 : decode cL_same 485 = .ok (.iaload, 1) := by decide +kernel
theorem dL_same_486 : decode cL_same 486 = .ok (.istore 13, 2) := by decide +kernel
theorem dL_same_488 : decode cL_same 488 = .ok (.iinc 14 1, 3) := by decide +kernel
theorem dL_same_491 : decode cL_same 491 = .ok (.goto (-68), 3) := by decide +kernel
theorem dL_same_494 : decode cL_same 494 = .ok (.aload_n 1, 1) := by decide +kernel
theorem dL_same_495 : decode cL_same 495 = .ok (.aload_n 2, 1) := by decide +kernel
theorem dL_same_496 : decode cL_same 496 = .ok (.aload_n 3, 1) := by decide +kernel
theorem dL_same_497 : decode cL_same 497 = .ok (.aload 4, 2) := by decide +kernel
theorem dL_same_499 : decode cL_same 499 = .ok (.invokestatic 55, 3) := by decide +kernel
theorem dL_same_502 : decode cL_same 502 = .ok (.iload 12, 2) := by decide +kernel
theorem dL_same_504 : decode cL_same 504 = .ok (.iconst 1, 1) := by decide +kernel
theorem dL_same_505 : decode cL_same 505 = .ok (.aload_n 3, 1) := by decide +kernel
theorem dL_same_506 : decode cL_same 506 = .ok (.aload 4, 2) := by decide +kernel
theorem dL_same_508 : decode cL_same 508 = .ok (.aload 5, 2) := by decide +kernel
theorem dL_same_510 : decode cL_same 510 = .ok (.invokestatic 59, 3) := by decide +kernel
theorem dL_same_513 : decode cL_same 513 = .ok (.iconst (-1), 1) := by decide +kernel
theorem dL_same_514 : decode cL_same 514 = .ok (.istore 14, 2) := by decide +kernel
theorem dL_same_516 : decode cL_same 516 = .ok (.iconst 0, 1) := by decide +kernel
theorem dL_same_517 : decode cL_same 517 = .ok (.istore 15, 2) := by decide +kernel
theorem dL_same_519 : decode cL_same 519 = .ok (.iload 15, 2) := by decide +kernel
theorem dL_same_521 : decode cL_same 521 = .ok (.aload_n 1, 1) := by decide +kernel
theorem dL_same_522 : decode cL_same 522 = .ok (.iconst 0, 1) := by decide +kernel
theorem dL_same_523 : decode cL_same 523 = .ok (.iaload, 1) := by decide +kernel
theorem dL_same_524 : decode cL_same 524 = .ok (.if_icmp .ge 29, 3) := by decide +kernel
theorem dL_same_527 : decode cL_same 527 = .ok (.aload 5, 2) := by decide +kernel
theorem dL_same_529 : decode cL_same 529 = .ok (.iconst 1, 1) := by decide +kernel
theorem dL_same_530 : decode cL_same 530 = .ok (.iaload, 1) := by decide +kernel
theorem dL_same_531 : decode cL_same 531 = .ok (.iconst 1, 1) := by decide +kernel
theorem dL_same_532 : decode cL_same 532 = .ok (.iload 15, 2) := by decide +kernel
theorem dL_same_534 : decode cL_same 534 = .ok (.ishl, 1) := by decide +kernel
theorem dL_same_535 : decode cL_same 535 = .ok (.if_icmp .ne 8, 3) := by decide +kernel
theorem dL_same_538 : decode cL_same 538 = .ok (.iload 15, 2) := by decide +kernel
theorem dL_same_540 : decode cL_same 540 = .ok (.goto 5, 3) := by decide +kernel
theorem dL_same_543 : decode cL_same 543 = .ok (.iload 14, 2) := by decide +kernel
theorem dL_same_545 : decode cL_same 545 = .ok (.istore 14, 2) := by decide +kernel
theorem dL_same_547 : decode cL_same 547 = .ok (.iinc 15 1, 3) := by decide +kernel
theorem dL_same_550 : decode cL_same 550 = .ok (.goto (-31), 3) := by decide +kernel
theorem dL_same_553 : decode cL_same 553 = .ok (.aload_n 0, 1) := by decide +kernel
theorem dL_same_554 : decode cL_same 554 = .ok (.iload 12, 2) := by decide +kernel
theorem dL_same_556 : decode cL_same 556 = .ok (.iconst 0, 1) := by decide +kernel
theorem dL_same_557 : decode cL_same 557 = .ok (.invokevirtual 63, 3) := by decide +kernel
theorem dL_same_560 : decode cL_same 560 = .ok (.aload_n 1, 1) := by decide +kernel
theorem dL_same_561 : decode cL_same 561 = .ok (.bipush 9, 2) := by decide +kernel
theorem dL_same_563 : decode cL_same 563 = .ok (.iconst 4, 1) := by decide +kernel
theorem dL_same_564 : decode cL_same 564 = .ok (.iload 12, 2) := by decide +kernel
theorem dL_same_566 : decode cL_same 566 = .ok (.imul, 1) := by decide +kernel
theorem dL_same_567 : decode cL_same 567 = .ok (.iadd, 1) := by decide +kernel
theorem dL_same_568 : decode cL_same 568 = .ok (.iaload, 1) := by decide +kernel
theorem dL_same_569 : decode cL_same 569 = .ok (.if_icmp .ne 102, 3) := by decide +kernel
theorem dL_same_572 : decode cL_same 572 = .ok (.aload_n 0, 1) := by decide +kernel
theorem dL_same_573 : decode cL_same 573 = .ok (.iload 12, 2) := by decide +kernel
theorem dL_same_575 : decode cL_same 575 = .ok (.iconst 1, 1) := by decide +kernel
theorem dL_same_576 : decode cL_same 576 = .ok (.invokevirtual 63, 3) := by decide +kernel
theorem dL_same_579 : decode cL_same 579 = .ok (.iload 12, 2) := by decide +kernel
theorem dL_same_581 : decode cL_same 581 = .ok (.aload_n 1, 1) := by decide +kernel
theorem dL_same_582 : decode cL_same 582 = .ok (.aload_n 2, 1) := by decide +kernel
theorem dL_same_583 : decode cL_same 583 = .ok (.invokestatic 41, 3) := by decide +kernel
theorem dL_same_586 : decode cL_same 586 = .ok (.if_icmp .ne 85, 3) := by decide +kernel
theorem dL_same_589 : decode cL_same 589 = .ok (.aload_n 0, 1) := by decide +kernel
theorem dL_same_590 : decode cL_same 590 = .ok (.iload 12, 2) := by decide +kernel
theorem dL_same_592 : decode cL_same 592 = .ok (.iconst 2, 1) := by decide +kernel
theorem dL_same_593 : decode cL_same 593 = .ok (.invokevirtual 63, 3) := by decide +kernel
theorem dL_same_596 : decode cL_same 596 = .ok (.aload_n 1, 1) := by decide +kernel
theorem dL_same_597 : decode cL_same 597 = .ok (.bipush 10, 2) := by decide +kernel
theorem dL_same_599 : decode cL_same 599 = .ok (.iconst 4, 1) := by decide +kernel
theorem dL_same_600 : decode cL_same 600 = .ok (.iload 12, 2) := by decide +kernel
theorem dL_same_602 : decode cL_same 602 = .ok (.imul, 1) := by decide +kernel
theorem dL_same_603 : decode cL_same 603 = .ok (.iadd, 1) := by decide +kernel
theorem dL_same_604 : decode cL_same 604 = .ok (.iaload, 1) := by decide +kernel
theorem dL_same_605 : decode cL_same 605 = .ok (.if_icmp .ne 66, 3) := by decide +kernel
theorem dL_same_608 : decode cL_same 608 = .ok (.aload_n 0, 1) := by decide +kernel
theorem dL_same_609 : decode cL_same 609 = .ok (.iload 12, 2) := by decide +kernel
theorem dL_same_611 : decode cL_same 611 = .ok (.iconst 3, 1) := by decide +kernel
theorem dL_same_612 : decode cL_same 612 = .ok (.invokevirtual 63, 3) := by decide +kernel
theorem dL_same_615 : decode cL_same 615 = .ok (.aload_n 1, 1) := by decide +kernel
theorem dL_same_616 : decode cL_same 616 = .ok (.bipush 11, 2) := by decide +kernel
theorem dL_same_618 : decode cL_same 618 = .ok (.iconst 4, 1) := by decide +kernel
theorem dL_same_619 : decode cL_same 619 = .ok (.iload 12, 2) := by decide +kernel
theorem dL_same_621 : decode cL_same 621 = .ok (.imul, 1) := by decide +kernel
theorem dL_same_622 : decode cL_same 622 = .ok (.iadd, 1) := by decide +kernel
theorem dL_same_623 : decode cL_same 623 = .ok (.iaload, 1) := by decide +kernel
theorem dL_same_624 : decode cL_same 624 = .ok (.if_icmp .ne 47, 3) := by decide +kernel
theorem dL_same_627 : decode cL_same 627 = .ok (.aload_n 0, 1) := by decide +kernel
theorem dL_same_628 : decode cL_same 628 = .ok (.iload 12, 2) := by decide +kernel
theorem dL_same_630 : decode cL_same 630 = .ok (.iconst 4, 1) := by decide +kernel
theorem dL_same_631 : decode cL_same 631 = .ok (.invokevirtual 63, 3) := by decide +kernel
theorem dL_same_634 : decode cL_same 634 = .ok (.aload_n 1, 1) := by decide +kernel
theorem dL_same_635 : decode cL_same 635 = .ok (.bipush 12, 2) := by decide +kernel
theorem dL_same_637 : decode cL_same 637 = .ok (.iconst 4, 1) := by decide +kernel
theorem dL_same_638 : decode cL_same 638 = .ok (.iload 12, 2) := by decide +kernel
theorem dL_same_640 : decode cL_same 640 = .ok (.imul, 1) := by decide +kernel
theorem dL_same_641 : decode cL_same 641 = .ok (.iadd, 1) := by decide +kernel
theorem dL_same_642 : decode cL_same 642 = .ok (.iaload, 1) := by decide +kernel
theorem dL_same_643 : decode cL_same 643 = .ok (.if_icmp .ne 28, 3) := by decide +kernel
theorem dL_same_646 : decode cL_same 646 = .ok (.aload_n 0, 1) := by decide +kernel
theorem dL_same_647 : decode cL_same 647 = .ok (.iload 12, 2) := by decide +kernel
theorem dL_same_649 : decode cL_same 649 = .ok (.iconst 5, 1) := by decide +kernel
theorem dL_same_650 : decode cL_same 650 = .ok (.invokevirtual 63, 3) := by decide +kernel
theorem dL_same_653 : decode cL_same 653 = .ok (.iload 13, 2) := by decide +kernel
theorem dL_same_655 : decode cL_same 655 = .ok (.if_icmp .ne 16, 3) := by decide +kernel
theorem dL_same_658 : decode cL_same 658 = .ok (.aload_n 0, 1) := by decide +kernel
theorem dL_same_659 : decode cL_same 659 = .ok (.iload 12, 2) := by decide +kernel
theorem dL_same_661 : decode cL_same 661 = .ok (.bipush 6, 2) := by decide +kernel
theorem dL_same_663 : decode cL_same 663 = .ok (.invokevirtual 63, 3) := by decide +kernel
theorem dL_same_666 : decode cL_same 666 = .ok (.iload 14, 2) := by decide +kernel
theorem dL_same_668 : decode cL_same 668 = .ok (.if_icmp .eq 5, 3) := by decide +kernel
theorem dL_same_671 : decode cL_same 671 = .ok (.iconst 0, 1) := by decide +kernel
theorem dL_same_672 : decode cL_same 672 = .ok (.ireturn, 1) := by decide +kernel
theorem dL_same_673 : decode cL_same 673 = .ok (.aload_n 1, 1) := by decide +kernel
theorem dL_same_674 : decode cL_same 674 = .ok (.aload_n 2, 1) := by decide +kernel
theorem dL_same_675 : decode cL_same 675 = .ok (.aload_n 3, 1) := by decide +kernel
theorem dL_same_676 : decode cL_same 676 = .ok (.aload 4, 2) := by decide +kernel
theorem dL_same_678 : decode cL_same 678 = .ok (.invokestatic 55, 3) := by decide +kernel
theorem dL_same_681 : decode cL_same 681 = .ok (.iload 12, 2) := by decide +kernel
theorem dL_same_683 : decode cL_same 683 = .ok (.bipush 24, 2) := by decide +kernel
theorem dL_same_685 : decode cL_same 685 = .ok (.aload_n 3, 1) := by decide +kernel
theorem dL_same_686 : decode cL_same 686 = .ok (.aload 4, 2) := by decide +kernel
theorem dL_same_688 : decode cL_same 688 = .ok (.aload 5, 2) := by decide +kernel
theorem dL_same_690 : decode cL_same 690 = .ok (.invokestatic 59, 3) := by decide +kernel
theorem dL_same_693 : decode cL_same 693 = .ok (.iconst 0, 1) := by decide +kernel
theorem dL_same_694 : decode cL_same 694 = .ok (.istore 15, 2) := by decide +kernel
theorem dL_same_696 : decode cL_same 696 = .ok (.iload 15, 2) := by decide +kernel
theorem dL_same_698 : decode cL_same 698 = .ok (.iconst 3, 1) := by decide +kernel
theorem dL_same_699 : decode cL_same 699 = .ok (.if_icmp .ge 29, 3) := by decide +kernel
theorem dL_same_702 : decode cL_same 702 = .ok (.aload_n 0, 1) := by decide +kernel
theorem dL_same_703 : decode cL_same 703 = .ok (.iload 12, 2) := by decide +kernel
theorem dL_same_705 : decode cL_same 705 = .ok (.bipush 24, 2) := by decide +kernel
theorem dL_same_707 : decode cL_same 707 = .ok (.iload 15, 2) := by decide +kernel
theorem dL_same_709 : decode cL_same 709 = .ok (.invokevirtual 66, 3) := by decide +kernel
theorem dL_same_712 : decode cL_same 712 = .ok (.aload 5, 2) := by decide +kernel
theorem dL_same_714 : decode cL_same 714 = .ok (.iload 15, 2) := by decide +kernel
theorem dL_same_716 : decode cL_same 716 = .ok (.iaload, 1) := by decide +kernel
theorem dL_same_717 : decode cL_same 717 = .ok (.if_icmp .eq 5, 3) := by decide +kernel
theorem dL_same_720 : decode cL_same 720 = .ok (.iconst 0, 1) := by decide +kernel
theorem dL_same_721 : decode cL_same 721 = .ok (.ireturn, 1) := by decide +kernel
theorem dL_same_722 : decode cL_same 722 = .ok (.iinc 15 1, 3) := by decide +kernel
theorem dL_same_725 : decode cL_same 725 = .ok (.goto (-29), 3) := by decide +kernel
theorem dL_same_728 : decode cL_same 728 = .ok (.aload 5, 2) := by decide +kernel
theorem dL_same_730 : decode cL_same 730 = .ok (.iconst 0, 1) := by decide +kernel
theorem dL_same_731 : decode cL_same 731 = .ok (.iaload, 1) := by decide +kernel
theorem dL_same_732 : decode cL_same 732 = .ok (.iload 11, 2) := by decide +kernel
theorem dL_same_734 : decode cL_same 734 = .ok (.if_icmp .le 8, 3) := by decide +kernel
theorem dL_same_737 : decode cL_same 737 = .ok (.iload 12, 2) := by decide +kernel
theorem dL_same_739 : decode cL_same 739 = .ok (.goto 5, 3) := by decide +kernel
theorem dL_same_742 : decode cL_same 742 = .ok (.iload 10, 2) := by decide +kernel
theorem dL_same_744 : decode cL_same 744 = .ok (.istore 10, 2) := by decide +kernel
theorem dL_same_746 : decode cL_same 746 = .ok (.aload 5, 2) := by decide +kernel
theorem dL_same_748 : decode cL_same 748 = .ok (.iconst 0, 1) := by decide +kernel
theorem dL_same_749 : decode cL_same 749 = .ok (.iaload, 1) := by decide +kernel
theorem dL_same_750 : decode cL_same 750 = .ok (.iload 11, 2) := by decide +kernel
theorem dL_same_752 : decode cL_same 752 = .ok (.if_icmp .le 10, 3) := by decide +kernel
theorem dL_same_755 : decode cL_same 755 = .ok (.aload 5, 2) := by decide +kernel
theorem dL_same_757 : decode cL_same 757 = .ok (.iconst 0, 1) := by decide +kernel
theorem dL_same_758 : decode cL_same 758 = .ok (.iaload, 1) := by decide +kernel
theorem dL_same_759 : decode cL_same 759 = .ok (.goto 5, 3) := by decide +kernel
theorem dL_same_762 : decode cL_same 762 = .ok (.iload 11, 2) := by decide +kernel
theorem dL_same_764 : decode cL_same 764 = .ok (.istore 11, 2) := by decide +kernel
theorem dL_same_766 : decode cL_same 766 = .ok (.iinc 12 1, 3) := by decide +kernel
theorem dL_same_769 : decode cL_same 769 = .ok (.goto (-358), 3) := by decide +kernel
theorem dL_same_772 : decode cL_same 772 = .ok (.aload_n 1, 1) := by decide +kernel
theorem dL_same_773 : decode cL_same 773 = .ok (.aload_n 2, 1) := by decide +kernel
theorem dL_same_774 : decode cL_same 774 = .ok (.aload_n 3, 1) := by decide +kernel
theorem dL_same_775 : decode cL_same 775 = .ok (.aload 4, 2) := by decide +kernel
theorem dL_same_777 : decode cL_same 777 = .ok (.invokestatic 55, 3) := by decide +kernel
theorem dL_same_780 : decode cL_same 780 = .ok (.bipush 7, 2) := by decide +kernel
theorem dL_same_782 : decode cL_same 782 = .ok (.aload_n 3, 1) := by decide +kernel
theorem dL_same_783 : decode cL_same 783 = .ok (.aload 4, 2) := by decide +kernel
theorem dL_same_785 : decode cL_same 785 = .ok (.invokestatic 70, 3) := by decide +kernel
theorem dL_same_788 : decode cL_same 788 = .ok (.istore 12, 2) := by decide +kernel
theorem dL_same_790 : decode cL_same 790 = .ok (.iconst 0, 1) := by decide +kernel
theorem dL_same_791 : decode cL_same 791 = .ok (.istore 13, 2) := by decide +kernel
theorem dL_same_793 : decode cL_same 793 = .ok (.iconst 0, 1) := by decide +kernel
theorem dL_same_794 : decode cL_same 794 = .ok (.istore 14, 2) := by decide +kernel
theorem dL_same_796 : decode cL_same 796 = .ok (.iload 14, 2) := by decide +kernel
theorem dL_same_798 : decode cL_same 798 = .ok (.aload_n 1, 1) := by decide +kernel
theorem dL_same_799 : decode cL_same 799 = .ok (.iconst 0, 1) := by decide +kernel
theorem dL_same_800 : decode cL_same 800 = .ok (.iaload, 1) := by decide +kernel
theorem dL_same_801 : decode cL_same 801 = .ok (.if_icmp .ge 33, 3) := by decide +kernel
theorem dL_same_804 : decode cL_same 804 = .ok (.iload 13, 2) := by decide +kernel
theorem dL_same_806 : decode cL_same 806 = .ok (.aload 4, 2) := by decide +kernel
theorem dL_same_808 : decode cL_same 808 = .ok (.bipush 9, 2) := by decide +kernel
theorem dL_same_810 : decode cL_same 810 = .ok (.iload 14, 2) := by decide +kernel
theorem dL_same_812 : decode cL_same 812 = .ok (.imul, 1) := by decide +kernel
theorem dL_same_813 : decode cL_same 813 = .ok (.iconst 3, 1) := by decide +kernel
theorem dL_same_814 : decode cL_same 814 = .ok (.iadd, 1) := by decide +kernel
theorem dL_same_815 : decode cL_same 815 = .ok (.iaload, 1) := by decide +kernel
theorem dL_same_816 : decode cL_same 816 = .ok (.iconst 3, 1) := by decide +kernel
theorem dL_same_817 : decode cL_same 817 = .ok (.if_icmp .ne 7, 3) := by decide +kernel
theorem dL_same_820 : decode cL_same 820 = .ok (.iconst 1, 1) := by decide +kernel
theorem dL_same_821 : decode cL_same 821 = .ok (.goto 4, 3) := by decide +kernel
theorem dL_same_824 : decode cL_same 824 = .ok (.iconst 0, 1) := by decide +kernel
theorem dL_same_825 : decode cL_same 825 = .ok (.iadd, 1) := by decide +kernel
theorem dL_same_826 : decode cL_same 826 = .ok (.istore 13, 2) := by decide +kernel
theorem dL_same_828 : decode cL_same 828 = .ok (.iinc 14 1, 3) := by decide +kernel
theorem dL_same_831 : decode cL_same 831 = .ok (.goto (-35), 3) := by decide +kernel
theorem dL_same_834 : decode cL_same 834 = .ok (.aload_n 0, 1) := by decide +kernel
theorem dL_same_835 : decode cL_same 835 = .ok (.bipush 7, 2) := by decide +kernel
theorem dL_same_837 : decode cL_same 837 = .ok (.iconst 0, 1) := by decide +kernel
theorem dL_same_838 : decode cL_same 838 = .ok (.invokevirtual 73, 3) := by decide +kernel
theorem dL_same_841 : decode cL_same 841 = .ok (.iload 12, 2) := by decide +kernel
theorem dL_same_843 : decode cL_same 843 = .ok (.if_icmp .ne 39, 3) := by decide +kernel
theorem dL_same_846 : decode cL_same 846 = .ok (.aload_n 0, 1) := by decide +kernel
theorem dL_same_847 : decode cL_same 847 = .ok (.bipush 7, 2) := by decide +kernel
theorem dL_same_849 : decode cL_same 849 = .ok (.iconst 1, 1) := by decide +kernel
theorem dL_same_850 : decode cL_same 850 = .ok (.invokevirtual 73, 3) := by decide +kernel
theorem dL_same_853 : decode cL_same 853 = .ok (.iload 13, 2) := by decide +kernel
theorem dL_same_855 : decode cL_same 855 = .ok (.if_icmp .ne 27, 3) := by decide +kernel
theorem dL_same_858 : decode cL_same 858 = .ok (.aload_n 0, 1) := by decide +kernel
theorem dL_same_859 : decode cL_same 859 = .ok (.invokevirtual 76, 3) := by decide +kernel
theorem dL_same_862 : decode cL_same 862 = .ok (.iload 10, 2) := by decide +kernel
theorem dL_same_864 : decode cL_same 864 = .ok (.if_icmp .ne 18, 3) := by decide +kernel
theorem dL_same_867 : decode cL_same 867 = .ok (.aload_n 0, 1) := by decide +kernel
theorem dL_same_868 : decode cL_same 868 = .ok (.invokevirtual 80, 3) := by decide +kernel
theorem dL_same_871 : decode cL_same 871 = .ok (.dconst 1, 1) := by decide +kernel
theorem dL_same_872 : decode cL_same 872 = .ok (.dconst 1, 1) := by decide +kernel
theorem dL_same_873 : decode cL_same 873 = .ok (.iload 9, 2) := by decide +kernel
theorem dL_same_875 : decode cL_same 875 = .ok (.i2d, 1) := by decide +kernel
theorem dL_same_876 : decode cL_same 876 = .ok (.dadd, 1) := by decide +kernel
theorem dL_same_877 : decode cL_same 877 = .ok (.ddiv, 1) := by decide +kernel
theorem dL_same_878 : decode cL_same 878 = .ok (.dcmp .l, 1) := by decide +kernel
theorem dL_same_879 : decode cL_same 879 = .ok (.ifCond .eq 5, 3) := by decide +kernel
theorem dL_same_882 : decode cL_same 882 = .ok (.iconst 0, 1) := by decide +kernel
theorem dL_same_883 : decode cL_same 883 = .ok (.ireturn, 1) := by decide +kernel
theorem dL_same_884 : decode cL_same 884 = .ok (.iconst 0, 1) := by decide +kernel
theorem dL_same_885 : decode cL_same 885 = .ok (.istore 14, 2) := by decide +kernel
theorem dL_same_887 : decode cL_same 887 = .ok (.iload 14, 2) := by decide +kernel
theorem dL_same_889 : decode cL_same 889 = .ok (.iconst 4, 1) := by decide +kernel
theorem dL_same_890 : decode cL_same 890 = .ok (.if_icmp .ge 42, 3) := by decide +kernel
theorem dL_same_893 : decode cL_same 893 = .ok (.aload_n 0, 1) := by decide +kernel
theorem dL_same_894 : decode cL_same 894 = .ok (.iconst 2, 1) := by decide +kernel
theorem dL_same_895 : decode cL_same 895 = .ok (.iload 14, 2) := by decide +kernel
theorem dL_same_897 : decode cL_same 897 = .ok (.iadd, 1) := by decide +kernel
theorem dL_same_898 : decode cL_same 898 = .ok (.invokevirtual 84, 3) := by decide +kernel
theorem dL_same_901 : decode cL_same 901 = .ok (.aload 6, 2) := by decide +kernel
theorem dL_same_903 : decode cL_same 903 = .ok (.iload 14, 2) := by decide +kernel
theorem dL_same_905 : decode cL_same 905 = .ok (.iaload, 1) := by decide +kernel
theorem dL_same_906 : decode cL_same 906 = .ok (.if_icmp .ne 18, 3) := by decide +kernel
theorem dL_same_909 : decode cL_same 909 = .ok (.aload_n 0, 1) := by decide +kernel
theorem dL_same_910 : decode cL_same 910 = .ok (.iload 14, 2) := by decide +kernel
theorem dL_same_912 : decode cL_same 912 = .ok (.invokevirtual 87, 3) := by decide +kernel
theorem dL_same_915 : decode cL_same 915 = .ok (.aload_n 1, 1) := by decide +kernel
theorem dL_same_916 : decode cL_same 916 = .ok (.iconst 5, 1) := by decide +kernel
theorem dL_same_917 : decode cL_same 917 = .ok (.iload 14, 2) := by decide +kernel
theorem dL_same_919 : decode cL_same 919 = .ok (.iadd, 1) := by decide +kernel
theorem dL_same_920 : decode cL_same 920 = .ok (.iaload, 1) := by decide +kernel
theorem dL_same_921 : decode cL_same 921 = .ok (.if_icmp .eq 5, 3) := by decide +kernel
theorem dL_same_924 : decode cL_same 924 = .ok (.iconst 0, 1) := by decide +kernel
theorem dL_same_925 : decode cL_same 925 = .ok (.ireturn, 1) := by decide +kernel
theorem dL_same_926 : decode cL_same 926 = .ok (.iinc 14 1, 3) := by decide +kernel
theorem dL_same_929 : decode cL_same 929 = .ok (.goto (-42), 3) := by decide +kernel
theorem dL_same_932 : decode cL_same 932 = .ok (.aload_n 0, 1) := by decide +kernel
theorem dL_same_933 : decode cL_same 933 = .ok (.iconst 0, 1) := by decide +kernel
theorem dL_same_934 : decode cL_same 934 = .ok (.invokevirtual 84, 3) := by decide +kernel
theorem dL_same_937 : decode cL_same 937 = .ok (.aload_n 1, 1) := by decide +kernel
theorem dL_same_938 : decode cL_same 938 = .ok (.iconst 3, 1) := by decide +kernel
theorem dL_same_939 : decode cL_same 939 = .ok (.iaload, 1) := by decide +kernel
theorem dL_same_940 : decode cL_same 940 = .ok (.if_icmp .ne 76, 3) := by decide +kernel
theorem dL_same_943 : decode cL_same 943 = .ok (.aload_n 0, 1) := by decide +kernel
theorem dL_same_944 : decode cL_same 944 = .ok (.iconst 1, 1) := by decide +kernel
theorem dL_same_945 : decode cL_same 945 = .ok (.invokevirtual 84, 3) := by decide +kernel
theorem dL_same_948 : decode cL_same 948 = .ok (.aload_n 1, 1) := by decide +kernel
theorem dL_same_949 : decode cL_same 949 = .ok (.iconst 0, 1) := by decide +kernel
theorem dL_same_950 : decode cL_same 950 = .ok (.iaload, 1) := by decide +kernel
theorem dL_same_951 : decode cL_same 951 = .ok (.if_icmp .ne 65, 3) := by decide +kernel
theorem dL_same_954 : decode cL_same 954 = .ok (.aload_n 0, 1) := by decide +kernel
theorem dL_same_955 : decode cL_same 955 = .ok (.bipush 6, 2) := by decide +kernel
theorem dL_same_957 : decode cL_same 957 = .ok (.invokevirtual 84, 3) := by decide +kernel
theorem dL_same_960 : decode cL_same 960 = .ok (.aload_n 1, 1) := by decide +kernel
theorem dL_same_961 : decode cL_same 961 = .ok (.iconst 1, 1) := by decide +kernel
theorem dL_same_962 : decode cL_same 962 = .ok (.iaload, 1) := by decide +kernel
theorem dL_same_963 : decode cL_same 963 = .ok (.if_icmp .ne 53, 3) := by decide +kernel
theorem dL_same_966 : decode cL_same 966 = .ok (.aload_n 0, 1) := by decide +kernel
theorem dL_same_967 : decode cL_same 967 = .ok (.bipush 7, 2) := by decide +kernel
theorem dL_same_969 : decode cL_same 969 = .ok (.invokevirtual 84, 3) := by decide +kernel
theorem dL_same_972 : decode cL_same 972 = .ok (.aload_n 1, 1) := by decide +kernel
theorem dL_same_973 : decode cL_same 973 = .ok (.iconst 2, 1) := by decide +kernel
theorem dL_same_974 : decode cL_same 974 = .ok (.iaload, 1) := by decide +kernel
theorem dL_same_975 : decode cL_same 975 = .ok (.if_icmp .ne 41, 3) := by decide +kernel
theorem dL_same_978 : decode cL_same 978 = .ok (.aload_n 0, 1) := by decide +kernel
theorem dL_same_979 : decode cL_same 979 = .ok (.bipush 8, 2) := by decide +kernel
theorem dL_same_981 : decode cL_same 981 = .ok (.invokevirtual 84, 3) := by decide +kernel
theorem dL_same_984 : decode cL_same 984 = .ok (.iload 7, 2) := by decide +kernel
theorem dL_same_986 : decode cL_same 986 = .ok (.if_icmp .ne 30, 3) := by decide +kernel
theorem dL_same_989 : decode cL_same 989 = .ok (.aload_n 0, 1) := by decide +kernel
theorem dL_same_990 : decode cL_same 990 = .ok (.bipush 9, 2) := by decide +kernel
theorem dL_same_992 : decode cL_same 992 = .ok (.invokevirtual 84, 3) := by decide +kernel
theorem dL_same_995 : decode cL_same 995 = .ok (.aload_n 1, 1) := by decide +kernel
theorem dL_same_996 : decode cL_same 996 = .ok (.iconst 4, 1) := by decide +kernel
theorem dL_same_997 : decode cL_same 997 = .ok (.iaload, 1) := by decide +kernel
theorem dL_same_998 : decode cL_same 998 = .ok (.if_icmp .ne 18, 3) := by decide +kernel
theorem dL_same_1001 : decode cL_same 1001 = .ok (.aload_n 0, 1) := by decide +kernel
theorem dL_same_1002 : decode cL_same 1002 = .ok (.bipush 11, 2) := by decide +kernel
theorem dL_same_1004 : decode cL_same 1004 = .ok (.invokevirtual 84, 3) := by decide +kernel
theorem dL_same_1007 : decode cL_same 1007 = .ok (.iload 8, 2) := by decide +kernel
theorem dL_same_1009 : decode cL_same 1009 = .ok (.if_icmp .ne 7, 3) := by decide +kernel
theorem dL_same_1012 : decode cL_same 1012 = .ok (.iconst 1, 1) := by decide +kernel
theorem dL_same_1013 : decode cL_same 1013 = .ok (.goto 4, 3) := by decide +kernel
theorem dL_same_1016 : decode cL_same 1016 = .ok (.iconst 0, 1) := by decide +kernel
theorem dL_same_1017 : decode cL_same 1017 = .ok (.ireturn, 1) := by decide +kernel
