theorem dX7_init_0 : decode cX7_init 0 = .ok (.aload_n 0, 1) := by decide +kernel
theorem dX7_init_1 : decode cX7_init 1 = .ok (.invokespecial 1, 3) := by decide +kernel
theorem dX7_init_4 : decode cX7_init 4 = .ok (.aload_n 0, 1) := by decide +kernel
theorem dX7_init_5 : decode cX7_init 5 = .ok (.sipush 241, 3) := by decide +kernel
theorem dX7_init_8 : decode cX7_init 8 = .ok (.newarray .int, 2) := by decide +kernel
theorem dX7_init_10 : decode cX7_init 10 = .ok (.putfield 7, 3) := by decide +kernel
theorem dX7_init_13 : decode cX7_init 13 = .ok (.aload_n 0, 1) := by decide +kernel
theorem dX7_init_14 : decode cX7_init 14 = .ok (.sipush 241, 3) := by decide +kernel
theorem dX7_init_17 : decode cX7_init 17 = .ok (.newarray .int, 2) := by decide +kernel
theorem dX7_init_19 : decode cX7_init 19 = .ok (.putfield 13, 3) := by decide +kernel
theorem dX7_init_22 : decode cX7_init 22 = .ok (.aload_n 0, 1) := by decide +kernel
theorem dX7_init_23 : decode cX7_init 23 = .ok (.sipush 1446, 3) := by decide +kernel
theorem dX7_init_26 : decode cX7_init 26 = .ok (.newarray .int, 2) := by decide +kernel
theorem dX7_init_28 : decode cX7_init 28 = .ok (.putfield 16, 3) := by decide +kernel
theorem dX7_init_31 : decode cX7_init 31 = .ok (.aload_n 0, 1) := by decide +kernel
theorem dX7_init_32 : decode cX7_init 32 = .ok (.bipush 60, 2) := by decide +kernel
theorem dX7_init_34 : decode cX7_init 34 = .ok (.newarray .int, 2) := by decide +kernel
theorem dX7_init_36 : decode cX7_init 36 = .ok (.putfield 19, 3) := by decide +kernel
theorem dX7_init_39 : decode cX7_init 39 = .ok (.aload_n 0, 1) := by decide +kernel
theorem dX7_init_40 : decode cX7_init 40 = .ok (.bipush 24, 2) := by decide +kernel
theorem dX7_init_42 : decode cX7_init 42 = .ok (.newarray .int, 2) := by decide +kernel
theorem dX7_init_44 : decode cX7_init 44 = .ok (.putfield 22, 3) := by decide +kernel
theorem dX7_init_47 : decode cX7_init 47 = .ok (.aload_n 0, 1) := by decide +kernel
theorem dX7_init_48 : decode cX7_init 48 = .ok (.getfield 7, 3) := by decide +kernel
theorem dX7_init_51 : decode cX7_init 51 = .ok (.iconst 5, 1) := by decide +kernel
theorem dX7_init_52 : decode cX7_init 52 = .ok (.iconst 5, 1) := by decide +kernel
theorem dX7_init_53 : decode cX7_init 53 = .ok (.iastore, 1) := by decide +kernel
theorem dX7_init_54 : decode cX7_init 54 = .ok (.aload_n 0, 1) := by decide +kernel
theorem dX7_init_55 : decode cX7_init 55 = .ok (.getfield 7, 3) := by decide +kernel
theorem dX7_init_58 : decode cX7_init 58 = .ok (.bipush 6, 2) := by decide +kernel
theorem dX7_init_60 : decode cX7_init 60 = .ok (.iconst 3, 1) := by decide +kernel
theorem dX7_init_61 : decode cX7_init 61 = .ok (.iastore, 1) := by decide +kernel
theorem dX7_init_62 : decode cX7_init 62 = .ok (.aload_n 0, 1) := by decide +kernel
theorem dX7_init_63 : decode cX7_init 63 = .ok (.getfield 7, 3) := by decide +kernel
theorem dX7_init_66 : decode cX7_init 66 = .ok (.bipush 8, 2) := by decide +kernel
theorem dX7_init_68 : decode cX7_init 68 = .ok (.iconst 4, 1) := by decide +kernel
theorem dX7_init_69 : decode cX7_init 69 = .ok (.iastore, 1) := by decide +kernel
theorem dX7_init_70 : decode cX7_init 70 = .ok (.iconst 0, 1) := by decide +kernel
theorem dX7_init_71 : decode cX7_init 71 = .ok (.istore_n 1, 1) := by decide +kernel
theorem dX7_init_72 : decode cX7_init 72 = .ok (.iload_n 1, 1) := by decide +kernel
theorem dX7_init_73 : decode cX7_init 73 = .ok (.iconst 4, 1) := by decide +kernel
theorem dX7_init_74 : decode cX7_init 74 = .ok (.if_icmp .ge 25, 3) := by decide +kernel
theorem dX7_init_77 : decode cX7_init 77 = .ok (.aload_n 0, 1) := by decide +kernel
theorem dX7_init_78 : decode cX7_init 78 = .ok (.getfield 7, 3) := by decide +kernel
theorem dX7_init_81 : decode cX7_init 81 = .ok (.bipush 9, 2) := by decide +kernel
theorem dX7_init_83 : decode cX7_init 83 = .ok (.iconst 4, 1) := by decide +kernel
theorem dX7_init_84 : decode cX7_init 84 = .ok (.iload_n 1, 1) := by decide +kernel
theorem dX7_init_85 : decode cX7_init 85 = .ok (.imul, 1) := by decide +kernel
theorem dX7_init_86 : decode cX7_init 86 = .ok (.iadd, 1) := by decide +kernel
theorem dX7_init_87 : decode cX7_init 87 = .ok (.iconst 0, 1) := by decide +kernel
theorem dX7_init_88 : decode cX7_init 88 = .ok (.iadd, 1) := by decide +kernel
theorem dX7_init_89 : decode cX7_init 89 = .ok (.sipush 255, 3) := by decide +kernel
theorem dX7_init_92 : decode cX7_init 92 = .ok (.iastore, 1) := by decide +kernel
theorem dX7_init_93 : decode cX7_init 93 = .ok (.iinc 1 1, 3) := by decide +kernel
theorem dX7_init_96 : decode cX7_init 96 = .ok (.goto (-24), 3) := by decide +kernel
theorem dX7_init_99 : decode cX7_init 99 = .ok (.return_, 1) := by decide +kernel
theorem dX7_thrown_0 : decode cX7_thrown 0 = .ok (.aload_n 0, 1) := by decide +kernel
theorem dX7_thrown_1 : decode cX7_thrown 1 = .ok (.getfield 25, 3) := by decide +kernel
theorem dX7_thrown_4 : decode cX7_thrown 4 = .ok (.ireturn, 1) := by decide +kernel
theorem dX7_copy_0 : decode cX7_copy 0 = .ok (.iconst 0, 1) := by decide +kernel
theorem dX7_copy_1 : decode cX7_copy 1 = .ok (.istore 4, 2) := by decide +kernel
theorem dX7_copy_3 : decode cX7_copy 3 = .ok (.iload 4, 2) := by decide +kernel
theorem dX7_copy_5 : decode cX7_copy 5 = .ok (.sipush 241, 3) := by decide +kernel
theorem dX7_copy_8 : decode cX7_copy 8 = .ok (.if_icmp .ge 21, 3) := by decide +kernel
theorem dX7_copy_11 : decode cX7_copy 11 = .ok (.aload_n 2, 1) := by decide +kernel
theorem dX7_copy_12 : decode cX7_copy 12 = .ok (.iload_n 3, 1) := by decide +kernel
theorem dX7_copy_13 : decode cX7_copy 13 = .ok (.iload 4, 2) := by decide +kernel
theorem dX7_copy_15 : decode cX7_copy 15 = .ok (.iadd, 1) := by decide +kernel
theorem dX7_copy_16 : decode cX7_copy 16 = .ok (.aload_n 0, 1) := by decide +kernel
theorem dX7_copy_17 : decode cX7_copy 17 = .ok (.iload_n 1, 1) := by decide +kernel
theorem dX7_copy_18 : decode cX7_copy 18 = .ok (.iload 4, 2) := by decide +kernel
theorem dX7_copy_20 : decode cX7_copy 20 = .ok (.iadd, 1) := by decide +kernel
theorem dX7_copy_21 : decode cX7_copy 21 = .ok (.iaload, 1) := by decide +kernel
theorem dX7_copy_22 : decode cX7_copy 22 = .ok (.iastore, 1) := by decide +kernel
theorem dX7_copy_23 : decode cX7_copy 23 = .ok (.iinc 4 1, 3) := by decide +kernel
theorem dX7_copy_26 : decode cX7_copy 26 = .ok (.goto (-23), 3) := by decide +kernel
theorem dX7_copy_29 : decode cX7_copy 29 = .ok (.return_, 1) := by decide +kernel
theorem dX7_within_0 : decode cX7_within 0 = .ok (.iload_n 0, 1) := by decide +kernel
theorem dX7_within_1 : decode cX7_within 1 = .ok (.iload_n 1, 1) := by decide +kernel
theorem dX7_within_2 : decode cX7_within 2 = .ok (.if_icmp .lt 12, 3) := by decide +kernel
theorem dX7_within_5 : decode cX7_within 5 = .ok (.iload_n 0, 1) := by decide +kernel
theorem dX7_within_6 : decode cX7_within 6 = .ok (.iload_n 2, 1) := by decide +kernel
theorem dX7_within_7 : decode cX7_within 7 = .ok (.if_icmp .gt 7, 3) := by decide +kernel
theorem dX7_within_10 : decode cX7_within 10 = .ok (.iconst 1, 1) := by decide +kernel
theorem dX7_within_11 : decode cX7_within 11 = .ok (.goto 4, 3) := by decide +kernel
theorem dX7_within_14 : decode cX7_within 14 = .ok (.iconst 0, 1) := by decide +kernel
theorem dX7_within_15 : decode cX7_within 15 = .ok (.ireturn, 1) := by decide +kernel
theorem dX7_save_0 : decode cX7_save 0 = .ok (.aload_n 0, 1) := by decide +kernel
theorem dX7_save_1 : decode cX7_save 1 = .ok (.getfield 29, 3) := by decide +kernel
theorem dX7_save_4 : decode cX7_save 4 = .ok (.bipush 6, 2) := by decide +kernel
theorem dX7_save_6 : decode cX7_save 6 = .ok (.if_icmp .ne 44, 3) := by decide +kernel
theorem dX7_save_9 : decode cX7_save 9 = .ok (.iconst 0, 1) := by decide +kernel
theorem dX7_save_10 : decode cX7_save 10 = .ok (.istore_n 1, 1) := by decide +kernel
theorem dX7_save_11 : decode cX7_save 11 = .ok (.iload_n 1, 1) := by decide +kernel
theorem dX7_save_12 : decode cX7_save 12 = .ok (.sipush 1205, 3) := by decide +kernel
theorem dX7_save_15 : decode cX7_save 15 = .ok (.if_icmp .ge 25, 3) := by decide +kernel
theorem dX7_save_18 : decode cX7_save 18 = .ok (.aload_n 0, 1) := by decide +kernel
theorem dX7_save_19 : decode cX7_save 19 = .ok (.getfield 16, 3) := by decide +kernel
theorem dX7_save_22 : decode cX7_save 22 = .ok (.iload_n 1, 1) := by decide +kernel
theorem dX7_save_23 : decode cX7_save 23 = .ok (.aload_n 0, 1) := by decide +kernel
theorem dX7_save_24 : decode cX7_save 24 = .ok (.getfield 16, 3) := by decide +kernel
theorem dX7_save_27 : decode cX7_save 27 = .ok (.iload_n 1, 1) := by decide +kernel
theorem dX7_save_28 : decode cX7_save 28 = .ok (.sipush 241, 3) := by decide +kernel
theorem dX7_save_31 : decode cX7_save 31 = .ok (.iadd, 1) := by decide +kernel
theorem dX7_save_32 : decode cX7_save 32 = .ok (.iaload, 1) := by decide +kernel
theorem dX7_save_33 : decode cX7_save 33 = .ok (.iastore, 1) := by decide +kernel
theorem dX7_save_34 : decode cX7_save 34 = .ok (.iinc 1 1, 3) := by decide +kernel
theorem dX7_save_37 : decode cX7_save 37 = .ok (.goto (-26), 3) := by decide +kernel
theorem dX7_save_40 : decode cX7_save 40 = .ok (.aload_n 0, 1) := by decide +kernel
theorem dX7_save_41 : decode cX7_save 41 = .ok (.dup, 1) := by decide +kernel
theorem dX7_save_42 : decode cX7_save 42 = .ok (.getfield 29, 3) := by decide +kernel
theorem dX7_save_45 : decode cX7_save 45 = .ok (.iconst 1, 1) := by decide +kernel
theorem dX7_save_46 : decode cX7_save 46 = .ok (.isub, 1) := by decide +kernel
theorem dX7_save_47 : decode cX7_save 47 = .ok (.putfield 29, 3) := by decide +kernel
theorem dX7_save_50 : decode cX7_save 50 = .ok (.aload_n 0, 1) := by decide +kernel
theorem dX7_save_51 : decode cX7_save 51 = .ok (.getfield 7, 3) := by decide +kernel
theorem dX7_save_54 : decode cX7_save 54 = .ok (.iconst 0, 1) := by decide +kernel
theorem dX7_save_55 : decode cX7_save 55 = .ok (.aload_n 0, 1) := by decide +kernel
theorem dX7_save_56 : decode cX7_save 56 = .ok (.getfield 16, 3) := by decide +kernel
theorem dX7_save_59 : decode cX7_save 59 = .ok (.aload_n 0, 1) := by decide +kernel
theorem dX7_save_60 : decode cX7_save 60 = .ok (.getfield 29, 3) := by decide +kernel
theorem dX7_save_63 : decode cX7_save 63 = .ok (.sipush 241, 3) := by decide +kernel
theorem dX7_save_66 : decode cX7_save 66 = .ok (.imul, 1) := by decide +kernel
theorem dX7_save_67 : decode cX7_save 67 = .ok (.invokestatic 32, 3) := by decide +kernel
theorem dX7_save_70 : decode cX7_save 70 = .ok (.aload_n 0, 1) := by decide +kernel
theorem dX7_save_71 : decode cX7_save 71 = .ok (.dup, 1) := by decide +kernel
theorem dX7_save_72 : decode cX7_save 72 = .ok (.getfield 29, 3) := by decide +kernel
theorem dX7_save_75 : decode cX7_save 75 = .ok (.iconst 1, 1) := by decide +kernel
theorem dX7_save_76 : decode cX7_save 76 = .ok (.iadd, 1) := by decide +kernel
theorem dX7_save_77 : decode cX7_save 77 = .ok (.putfield 29, 3) := by decide +kernel
theorem dX7_save_80 : decode cX7_save 80 = .ok (.return_, 1) := by decide +kernel
theorem dX7_isRow_0 : decode cX7_isRow 0 = .ok (.iload_n 1, 1) := by decide +kernel
theorem dX7_isRow_1 : decode cX7_isRow 1 = .ok (.iconst 0, 1) := by decide +kernel
theorem dX7_isRow_2 : decode cX7_isRow 2 = .ok (.aload_n 0, 1) := by decide +kernel
theorem dX7_isRow_3 : decode cX7_isRow 3 = .ok (.getfield 7, 3) := by decide +kernel
theorem dX7_isRow_6 : decode cX7_isRow 6 = .ok (.iconst 0, 1) := by decide +kernel
theorem dX7_isRow_7 : decode cX7_isRow 7 = .ok (.iaload, 1) := by decide +kernel
theorem dX7_isRow_8 : decode cX7_isRow 8 = .ok (.iconst 1, 1) := by decide +kernel
theorem dX7_isRow_9 : decode cX7_isRow 9 = .ok (.isub, 1) := by decide +kernel
theorem dX7_isRow_10 : decode cX7_isRow 10 = .ok (.invokestatic 36, 3) := by decide +kernel
theorem dX7_isRow_13 : decode cX7_isRow 13 = .ok (.ireturn, 1) := by decide +kernel
theorem dX7_isReader_0 : decode cX7_isReader 0 = .ok (.iload_n 0, 1) := by decide +kernel
theorem dX7_isReader_1 : decode cX7_isReader 1 = .ok (.iconst 0, 1) := by decide +kernel
theorem dX7_isReader_2 : decode cX7_isReader 2 = .ok (.iconst 3, 1) := by decide +kernel
theorem dX7_isReader_3 : decode cX7_isReader 3 = .ok (.invokestatic 36, 3) := by decide +kernel
theorem dX7_isReader_6 : decode cX7_isReader 6 = .ok (.ireturn, 1) := by decide +kernel
theorem dX7_rowPart_0 : decode cX7_rowPart 0 = .ok (.aload_n 0, 1) := by decide +kernel
theorem dX7_rowPart_1 : decode cX7_rowPart 1 = .ok (.getfield 7, 3) := by decide +kernel
theorem dX7_rowPart_4 : decode cX7_rowPart 4 = .ok (.bipush 25, 2) := by decide +kernel
theorem dX7_rowPart_6 : decode cX7_rowPart 6 = .ok (.bipush 9, 2) := by decide +kernel
theorem dX7_rowPart_8 : decode cX7_rowPart 8 = .ok (.iload_n 1, 1) := by decide +kernel
theorem dX7_rowPart_9 : decode cX7_rowPart 9 = .ok (.imul, 1) := by decide +kernel
theorem dX7_rowPart_10 : decode cX7_rowPart 10 = .ok (.iadd, 1) := by decide +kernel
theorem dX7_rowPart_11 : decode cX7_rowPart 11 = .ok (.iload_n 2, 1) := by decide +kernel
theorem dX7_rowPart_12 : decode cX7_rowPart 12 = .ok (.iadd, 1) := by decide +kernel
theorem dX7_rowPart_13 : decode cX7_rowPart 13 = .ok (.iaload, 1) := by decide +kernel
theorem dX7_rowPart_14 : decode cX7_rowPart 14 = .ok (.ireturn, 1) := by decide +kernel
theorem dX7_setRow_0 : decode cX7_setRow 0 = .ok (.aload_n 0, 1) := by decide +kernel
theorem dX7_setRow_1 : decode cX7_setRow 1 = .ok (.getfield 7, 3) := by decide +kernel
theorem dX7_setRow_4 : decode cX7_setRow 4 = .ok (.bipush 25, 2) := by decide +kernel
theorem dX7_setRow_6 : decode cX7_setRow 6 = .ok (.bipush 9, 2) := by decide +kernel
theorem dX7_setRow_8 : decode cX7_setRow 8 = .ok (.iload_n 1, 1) := by decide +kernel
theorem dX7_setRow_9 : decode cX7_setRow 9 = .ok (.imul, 1) := by decide +kernel
theorem dX7_setRow_10 : decode cX7_setRow 10 = .ok (.iadd, 1) := by decide +kernel
theorem dX7_setRow_11 : decode cX7_setRow 11 = .ok (.iload_n 2, 1) := by decide +kernel
theorem dX7_setRow_12 : decode cX7_setRow 12 = .ok (.iadd, 1) := by decide +kernel
theorem dX7_setRow_13 : decode cX7_setRow 13 = .ok (.iload_n 3, 1) := by decide +kernel
theorem dX7_setRow_14 : decode cX7_setRow 14 = .ok (.iastore, 1) := by decide +kernel
theorem dX7_setRow_15 : decode cX7_setRow 15 = .ok (.return_, 1) := by decide +kernel
theorem dX7_readerPart_0 : decode cX7_readerPart 0 = .ok (.aload_n 0, 1) := by decide +kernel
theorem dX7_readerPart_1 : decode cX7_readerPart 1 = .ok (.getfield 7, 3) := by decide +kernel
theorem dX7_readerPart_4 : decode cX7_readerPart 4 = .ok (.bipush 9, 2) := by decide +kernel
theorem dX7_readerPart_6 : decode cX7_readerPart 6 = .ok (.iconst 4, 1) := by decide +kernel
theorem dX7_readerPart_7 : decode cX7_readerPart 7 = .ok (.iload_n 1, 1) := by decide +kernel
theorem dX7_readerPart_8 : decode cX7_readerPart 8 = .ok (.imul, 1) := by decide +kernel
theorem dX7_readerPart_9 : decode cX7_readerPart 9 = .ok (.iadd, 1) := by decide +kernel
theorem dX7_readerPart_10 : decode cX7_readerPart 10 = .ok (.iload_n 2, 1) := by decide +kernel
theorem dX7_readerPart_11 : decode cX7_readerPart 11 = .ok (.iadd, 1) := by decide +kernel
theorem dX7_readerPart_12 : decode cX7_readerPart 12 = .ok (.iaload, 1) := by decide +kernel
theorem dX7_readerPart_13 : decode cX7_readerPart 13 = .ok (.ireturn, 1) := by decide +kernel
theorem dX7_isOpen_0 : decode cX7_isOpen 0 = .ok (.aload_n 0, 1) := by decide +kernel
theorem dX7_isOpen_1 : decode cX7_isOpen 1 = .ok (.iload_n 1, 1) := by decide +kernel
theorem dX7_isOpen_2 : decode cX7_isOpen 2 = .ok (.iconst 3, 1) := by decide +kernel
theorem dX7_isOpen_3 : decode cX7_isOpen 3 = .ok (.invokevirtual 40, 3) := by decide +kernel
theorem dX7_isOpen_6 : decode cX7_isOpen 6 = .ok (.iconst 1, 1) := by decide +kernel
theorem dX7_isOpen_7 : decode cX7_isOpen 7 = .ok (.if_icmp .gt 7, 3) := by decide +kernel
theorem dX7_isOpen_10 : decode cX7_isOpen 10 = .ok (.iconst 1, 1) := by decide +kernel
theorem dX7_isOpen_11 : decode cX7_isOpen 11 = .ok (.goto 4, 3) := by decide +kernel
theorem dX7_isOpen_14 : decode cX7_isOpen 14 = .ok (.iconst 0, 1) := by decide +kernel
theorem dX7_isOpen_15 : decode cX7_isOpen 15 = .ok (.ireturn, 1) := by decide +kernel
theorem dX7_isHeldBy_0 : decode cX7_isHeldBy 0 = .ok (.aload_n 0, 1) := by decide +kernel
theorem dX7_isHeldBy_1 : decode cX7_isHeldBy 1 = .ok (.iload_n 1, 1) := by decide +kernel
theorem dX7_isHeldBy_2 : decode cX7_isHeldBy 2 = .ok (.iconst 3, 1) := by decide +kernel
theorem dX7_isHeldBy_3 : decode cX7_isHeldBy 3 = .ok (.invokevirtual 40, 3) := by decide +kernel
theorem dX7_isHeldBy_6 : decode cX7_isHeldBy 6 = .ok (.iconst 1, 1) := by decide +kernel
theorem dX7_isHeldBy_7 : decode cX7_isHeldBy 7 = .ok (.if_icmp .ne 17, 3) := by decide +kernel
theorem dX7_isHeldBy_10 : decode cX7_isHeldBy 10 = .ok (.aload_n 0, 1) := by decide +kernel
theorem dX7_isHeldBy_11 : decode cX7_isHeldBy 11 = .ok (.iload_n 1, 1) := by decide +kernel
theorem dX7_isHeldBy_12 : decode cX7_isHeldBy 12 = .ok (.iconst 4, 1) := by decide +kernel
theorem dX7_isHeldBy_13 : decode cX7_isHeldBy 13 = .ok (.invokevirtual 40, 3) := by decide +kernel
theorem dX7_isHeldBy_16 : decode cX7_isHeldBy 16 = .ok (.iload_n 2, 1) := by decide +kernel
theorem dX7_isHeldBy_17 : decode cX7_isHeldBy 17 = .ok (.if_icmp .ne 7, 3) := by decide +kernel
theorem dX7_isHeldBy_20 : decode cX7_isHeldBy 20 = .ok (.iconst 1, 1) := by decide +kernel
theorem dX7_isHeldBy_21 : decode cX7_isHeldBy 21 = .ok (.goto 4, 3) := by decide +kernel
theorem dX7_isHeldBy_24 : decode cX7_isHeldBy 24 = .ok (.iconst 0, 1) := by decide +kernel
theorem dX7_isHeldBy_25 : decode cX7_isHeldBy 25 = .ok (.ireturn, 1) := by decide +kernel
theorem dX7_heldBy_0 : decode cX7_heldBy 0 = .ok (.iconst 0, 1) := by decide +kernel
theorem dX7_heldBy_1 : decode cX7_heldBy 1 = .ok (.istore_n 2, 1) := by decide +kernel
theorem dX7_heldBy_2 : decode cX7_heldBy 2 = .ok (.iconst 0, 1) := by decide +kernel
theorem dX7_heldBy_3 : decode cX7_heldBy 3 = .ok (.istore_n 3, 1) := by decide +kernel
theorem dX7_heldBy_4 : decode cX7_heldBy 4 = .ok (.iload_n 3, 1) := by decide +kernel
theorem dX7_heldBy_5 : decode cX7_heldBy 5 = .ok (.aload_n 0, 1) := by decide +kernel
theorem dX7_heldBy_6 : decode cX7_heldBy 6 = .ok (.getfield 7, 3) := by decide +kernel
theorem dX7_heldBy_9 : decode cX7_heldBy 9 = .ok (.iconst 0, 1) := by decide +kernel
theorem dX7_heldBy_10 : decode cX7_heldBy 10 = .ok (.iaload, 1) := by decide +kernel
theorem dX7_heldBy_11 : decode cX7_heldBy 11 = .ok (.if_icmp .ge 26, 3) := by decide +kernel
theorem dX7_heldBy_14 : decode cX7_heldBy 14 = .ok (.iload_n 2, 1) := by decide +kernel
theorem dX7_heldBy_15 : decode cX7_heldBy 15 = .ok (.aload_n 0, 1) := by decide +kernel
theorem dX7_heldBy_16 : decode cX7_heldBy 16 = .ok (.iload_n 3, 1) := by decide +kernel
theorem dX7_heldBy_17 : decode cX7_heldBy 17 = .ok (.iload_n 1, 1) := by decide +kernel
theorem dX7_heldBy_18 : decode cX7_heldBy 18 = .ok (.invokevirtual 44, 3) := by decide +kernel
theorem dX7_heldBy_21 : decode cX7_heldBy 21 = .ok (.ifCond .eq 7, 3) := by decide +kernel
theorem dX7_heldBy_24 : decode cX7_heldBy 24 = .ok (.iconst 1, 1) := by decide +kernel
theorem dX7_heldBy_25 : decode cX7_heldBy 25 = .ok (.goto 4, 3) := by decide +kernel
theorem dX7_heldBy_28 : decode cX7_heldBy 28 = .ok (.iconst 0, 1) := by decide +kernel
theorem dX7_heldBy_29 : decode cX7_heldBy 29 = .ok (.iadd, 1) := by decide +kernel
theorem dX7_heldBy_30 : decode cX7_heldBy 30 = .ok (.istore_n 2, 1) := by decide +kernel
theorem dX7_heldBy_31 : decode cX7_heldBy 31 = .ok (.iinc 3 1, 3) := by decide +kernel
theorem dX7_heldBy_34 : decode cX7_heldBy 34 = .ok (.goto (-30), 3) := by decide +kernel
theorem dX7_heldBy_37 : decode cX7_heldBy 37 = .ok (.iload_n 2, 1) := by decide +kernel
theorem dX7_heldBy_38 : decode cX7_heldBy 38 = .ok (.ireturn, 1) := by decide +kernel
theorem dX7_inState_0 : decode cX7_inState 0 = .ok (.iconst 0, 1) := by decide +kernel
theorem dX7_inState_1 : decode cX7_inState 1 = .ok (.istore_n 2, 1) := by decide +kernel
theorem dX7_inState_2 : decode cX7_inState 2 = .ok (.iconst 0, 1) := by decide +kernel
theorem dX7_inState_3 : decode cX7_inState 3 = .ok (.istore_n 3, 1) := by decide +kernel
theorem dX7_inState_4 : decode cX7_inState 4 = .ok (.iload_n 3, 1) := by decide +kernel
theorem dX7_inState_5 : decode cX7_inState 5 = .ok (.aload_n 0, 1) := by decide +kernel
theorem dX7_inState_6 : decode cX7_inState 6 = .ok (.getfield 7, 3) := by decide +kernel
theorem dX7_inState_9 : decode cX7_inState 9 = .ok (.iconst 0, 1) := by decide +kernel
theorem dX7_inState_10 : decode cX7_inState 10 = .ok (.iaload, 1) := by decide +kernel
theorem dX7_inState_11 : decode cX7_inState 11 = .ok (.if_icmp .ge 27, 3) := by decide +kernel
theorem dX7_inState_14 : decode cX7_inState 14 = .ok (.iload_n 2, 1) := by decide +kernel
theorem dX7_inState_15 : decode cX7_inState 15 = .ok (.aload_n 0, 1) := by decide +kernel
theorem dX7_inState_16 : decode cX7_inState 16 = .ok (.iload_n 3, 1) := by decide +kernel
theorem dX7_inState_17 : decode cX7_inState 17 = .ok (.iconst 3, 1) := by decide +kernel
theorem dX7_inState_18 : decode cX7_inState 18 = .ok (.invokevirtual 40, 3) := by decide +kernel
theorem dX7_inState_21 : decode cX7_inState 21 = .ok (.iload_n 1, 1) := by decide +kernel
theorem dX7_inState_22 : decode cX7_inState 22 = .ok (.if_icmp .ne 7, 3) := by decide +kernel
theorem dX7_inState_25 : decode cX7_inState 25 = .ok (.iconst 1, 1) := by decide +kernel
theorem dX7_inState_26 : decode cX7_inState 26 = .ok (.goto 4, 3) := by decide +kernel
theorem dX7_inState_29 : decode cX7_inState 29 = .ok (.iconst 0, 1) := by decide +kernel
theorem dX7_inState_30 : decode cX7_inState 30 = .ok (.iadd, 1) := by decide +kernel
theorem dX7_inState_31 : decode cX7_inState 31 = .ok (.istore_n 2, 1) := by decide +kernel
theorem dX7_inState_32 : decode cX7_inState 32 = .ok (.iinc 3 1, 3) := by decide +kernel
theorem dX7_inState_35 : decode cX7_inState 35 = .ok (.goto (-31), 3) := by decide +kernel
theorem dX7_inState_38 : decode cX7_inState 38 = .ok (.iload_n 2, 1) := by decide +kernel
theorem dX7_inState_39 : decode cX7_inState 39 = .ok (.ireturn, 1) := by decide +kernel
theorem dX7_isBlocked_0 : decode cX7_isBlocked 0 = .ok (.iconst 0, 1) := by decide +kernel
theorem dX7_isBlocked_1 : decode cX7_isBlocked 1 = .ok (.istore_n 2, 1) := by decide +kernel
theorem dX7_isBlocked_2 : decode cX7_isBlocked 2 = .ok (.iconst 0, 1) := by decide +kernel
theorem dX7_isBlocked_3 : decode cX7_isBlocked 3 = .ok (.istore_n 3, 1) := by decide +kernel
theorem dX7_isBlocked_4 : decode cX7_isBlocked 4 = .ok (.iload_n 3, 1) := by decide +kernel
theorem dX7_isBlocked_5 : decode cX7_isBlocked 5 = .ok (.iload_n 1, 1) := by decide +kernel
theorem dX7_isBlocked_6 : decode cX7_isBlocked 6 = .ok (.if_icmp .ge 42, 3) := by decide +kernel
theorem dX7_isBlocked_9 : decode cX7_isBlocked 9 = .ok (.iload_n 2, 1) := by decide +kernel
theorem dX7_isBlocked_10 : decode cX7_isBlocked 10 = .ok (.ifCond .ne 26, 3) := by decide +kernel
theorem dX7_isBlocked_13 : decode cX7_isBlocked 13 = .ok (.aload_n 0, 1) := by decide +kernel
theorem dX7_isBlocked_14 : decode cX7_isBlocked 14 = .ok (.iload_n 3, 1) := by decide +kernel
theorem dX7_isBlocked_15 : decode cX7_isBlocked 15 = .ok (.invokevirtual 48, 3) := by decide +kernel
theorem dX7_isBlocked_18 : decode cX7_isBlocked 18 = .ok (.ifCond .eq 22, 3) := by decide +kernel
theorem dX7_isBlocked_21 : decode cX7_isBlocked 21 = .ok (.aload_n 0, 1) := by decide +kernel
theorem dX7_isBlocked_22 : decode cX7_isBlocked 22 = .ok (.iload_n 3, 1) := by decide +kernel
theorem dX7_isBlocked_23 : decode cX7_isBlocked 23 = .ok (.iconst 0, 1) := by decide +kernel
theorem dX7_isBlocked_24 : decode cX7_isBlocked 24 = .ok (.invokevirtual 40, 3) := by decide +kernel
theorem dX7_isBlocked_27 : decode cX7_isBlocked 27 = .ok (.aload_n 0, 1) := by decide +kernel
theorem dX7_isBlocked_28 : decode cX7_isBlocked 28 = .ok (.iload_n 1, 1) := by decide +kernel
theorem dX7_isBlocked_29 : decode cX7_isBlocked 29 = .ok (.iconst 0, 1) := by decide +kernel
theorem dX7_isBlocked_30 : decode cX7_isBlocked 30 = .ok (.invokevirtual 40, 3) := by decide +kernel
theorem dX7_isBlocked_33 : decode cX7_isBlocked 33 = .ok (.if_icmp .ne 7, 3) := by decide +kernel
theorem dX7_isBlocked_36 : decode cX7_isBlocked 36 = .ok (.iconst 1, 1) := by decide +kernel
theorem dX7_isBlocked_37 : decode cX7_isBlocked 37 = .ok (.goto 4, 3) := by decide +kernel
theorem dX7_isBlocked_40 : decode cX7_isBlocked 40 = .ok (.iconst 0, 1) := by decide +kernel
theorem dX7_isBlocked_41 : decode cX7_isBlocked 41 = .ok (.istore_n 2, 1) := by decide +kernel
theorem dX7_isBlocked_42 : decode cX7_isBlocked 42 = .ok (.iinc 3 1, 3) := by decide +kernel
theorem dX7_isBlocked_45 : decode cX7_isBlocked 45 = .ok (.goto (-41), 3) := by decide +kernel
theorem dX7_isBlocked_48 : decode cX7_isBlocked 48 = .ok (.iload_n 2, 1) := by decide +kernel
theorem dX7_isBlocked_49 : decode cX7_isBlocked 49 = .ok (.ifCond .eq 18, 3) := by decide +kernel
theorem dX7_isBlocked_52 : decode cX7_isBlocked 52 = .ok (.aload_n 0, 1) := by decide +kernel
theorem dX7_isBlocked_53 : decode cX7_isBlocked 53 = .ok (.getfield 7, 3) := by decide +kernel
theorem dX7_isBlocked_56 : decode cX7_isBlocked 56 = .ok (.bipush 7, 2) := by decide +kernel
theorem dX7_isBlocked_58 : decode cX7_isBlocked 58 = .ok (.iaload, 1) := by decide +kernel
theorem dX7_isBlocked_59 : decode cX7_isBlocked 59 = .ok (.iconst 1, 1) := by decide +kernel
theorem dX7_isBlocked_60 : decode cX7_isBlocked 60 = .ok (.if_icmp .ne 7, 3) := by decide +kernel
theorem dX7_isBlocked_63 : decode cX7_isBlocked 63 = .ok (.iconst 1, 1) := by decide +kernel
theorem dX7_isBlocked_64 : decode cX7_isBlocked 64 = .ok (.goto 4, 3) := by decide +kernel
theorem dX7_isBlocked_67 : decode cX7_isBlocked 67 = .ok (.iconst 0, 1) := by decide +kernel
theorem dX7_isBlocked_68 : decode cX7_isBlocked 68 = .ok (.ireturn, 1) := by decide +kernel
theorem dX7_placeOf_0 : decode cX7_placeOf 0 = .ok (.iconst 0, 1) := by decide +kernel
theorem dX7_placeOf_1 : decode cX7_placeOf 1 = .ok (.istore_n 2, 1) := by decide +kernel
theorem dX7_placeOf_2 : decode cX7_placeOf 2 = .ok (.iconst 0, 1) := by decide +kernel
theorem dX7_placeOf_3 : decode cX7_placeOf 3 = .ok (.istore_n 3, 1) := by decide +kernel
theorem dX7_placeOf_4 : decode cX7_placeOf 4 = .ok (.iload_n 3, 1) := by decide +kernel
theorem dX7_placeOf_5 : decode cX7_placeOf 5 = .ok (.aload_n 0, 1) := by decide +kernel
theorem dX7_placeOf_6 : decode cX7_placeOf 6 = .ok (.getfield 7, 3) := by decide +kernel
theorem dX7_placeOf_9 : decode cX7_placeOf 9 = .ok (.iconst 0, 1) := by decide +kernel
theorem dX7_placeOf_10 : decode cX7_placeOf 10 = .ok (.iaload, 1) := by decide +kernel
theorem dX7_placeOf_11 : decode cX7_placeOf 11 = .ok (.if_icmp .ge 55, 3) := by decide +kernel
theorem dX7_placeOf_14 : decode cX7_placeOf 14 = .ok (.aload_n 0, 1) := by decide +kernel
theorem dX7_placeOf_15 : decode cX7_placeOf 15 = .ok (.iload_n 3, 1) := by decide +kernel
theorem dX7_placeOf_16 : decode cX7_placeOf 16 = .ok (.iconst 1, 1) := by decide +kernel
theorem dX7_placeOf_17 : decode cX7_placeOf 17 = .ok (.invokevirtual 40, 3) := by decide +kernel
theorem dX7_placeOf_20 : decode cX7_placeOf 20 = .ok (.aload_n 0, 1) := by decide +kernel
theorem dX7_placeOf_21 : decode cX7_placeOf 21 = .ok (.iload_n 1, 1) := by decide +kernel
theorem dX7_placeOf_22 : decode cX7_placeOf 22 = .ok (.iconst 1, 1) := by decide +kernel
theorem dX7_placeOf_23 : decode cX7_placeOf 23 = .ok (.invokevirtual 40, 3) := by decide +kernel
theorem dX7_placeOf_26 : decode cX7_placeOf 26 = .ok (.isub, 1) := by decide +kernel
theorem dX7_placeOf_27 : decode cX7_placeOf 27 = .ok (.istore 4, 2) := by decide +kernel
theorem dX7_placeOf_29 : decode cX7_placeOf 29 = .ok (.iload_n 2, 1) := by decide +kernel
theorem dX7_placeOf_30 : decode cX7_placeOf 30 = .ok (.aload_n 0, 1) := by decide +kernel
theorem dX7_placeOf_31 : decode cX7_placeOf 31 = .ok (.iload_n 3, 1) := by decide +kernel
theorem dX7_placeOf_32 : decode cX7_placeOf 32 = .ok (.invokevirtual 48, 3) := by decide +kernel
theorem dX7_placeOf_35 : decode cX7_placeOf 35 = .ok (.ifCond .eq 22, 3) := by decide +kernel
theorem dX7_placeOf_38 : decode cX7_placeOf 38 = .ok (.iload 4, 2) := by decide +kernel
theorem dX7_placeOf_40 : decode cX7_placeOf 40 = .ok (.ifCond .gt 13, 3) := by decide +kernel
theorem dX7_placeOf_43 : decode cX7_placeOf 43 = .ok (.iload 4, 2) := by decide +kernel
theorem dX7_placeOf_45 : decode cX7_placeOf 45 = .ok (.ifCond .ne 12, 3) := by decide +kernel
theorem dX7_placeOf_48 : decode cX7_placeOf 48 = .ok (.iload_n 3, 1) := by decide +kernel
theorem dX7_placeOf_49 : decode cX7_placeOf 49 = .ok (.iload_n 1, 1) := by decide +kernel
theorem dX7_placeOf_50 : decode cX7_placeOf 50 = .ok (.if_icmp .ge 7, 3) := by decide +kernel
theorem dX7_placeOf_53 : decode cX7_placeOf 53 = .ok (.iconst 1, 1) := by decide +kernel
theorem dX7_placeOf_54 : decode cX7_placeOf 54 = .ok (.goto 4, 3) := by decide +kernel
theorem dX7_placeOf_57 : decode cX7_placeOf 57 = .ok (.iconst 0, 1) := by decide +kernel
theorem dX7_placeOf_58 : decode cX7_placeOf 58 = .ok (.iadd, 1) := by decide +kernel
theorem dX7_placeOf_59 : decode cX7_placeOf 59 = .ok (.istore_n 2, 1) := by decide +kernel
theorem dX7_placeOf_60 : decode cX7_placeOf 60 = .ok (.iinc 3 1, 3) := by decide +kernel
theorem dX7_placeOf_63 : decode cX7_placeOf 63 = .ok (.goto (-59), 3) := by decide +kernel
theorem dX7_placeOf_66 : decode cX7_placeOf 66 = .ok (.iload_n 2, 1) := by decide +kernel
theorem dX7_placeOf_67 : decode cX7_placeOf 67 = .ok (.ireturn, 1) := by decide +kernel
theorem dX7_findOrder_0 : decode cX7_findOrder 0 = .ok (.aload_n 0, 1) := by decide +kernel
theorem dX7_findOrder_1 : decode cX7_findOrder 1 = .ok (.iconst 0, 1) := by decide +kernel
theorem dX7_findOrder_2 : decode cX7_findOrder 2 = .ok (.putfield 52, 3) := by decide +kernel
theorem dX7_findOrder_5 : decode cX7_findOrder 5 = .ok (.iconst 0, 1) := by decide +kernel
theorem dX7_findOrder_6 : decode cX7_findOrder 6 = .ok (.istore_n 1, 1) := by decide +kernel
theorem dX7_findOrder_7 : decode cX7_findOrder 7 = .ok (.iload_n 1, 1) := by decide +kernel
theorem dX7_findOrder_8 : decode cX7_findOrder 8 = .ok (.aload_n 0, 1) := by decide +kernel
theorem dX7_findOrder_9 : decode cX7_findOrder 9 = .ok (.getfield 7, 3) := by decide +kernel
theorem dX7_findOrder_12 : decode cX7_findOrder 12 = .ok (.iconst 0, 1) := by decide +kernel
theorem dX7_findOrder_13 : decode cX7_findOrder 13 = .ok (.iaload, 1) := by decide +kernel
theorem dX7_findOrder_14 : decode cX7_findOrder 14 = .ok (.if_icmp .ge 38, 3) := by decide +kernel
theorem dX7_findOrder_17 : decode cX7_findOrder 17 = .ok (.aload_n 0, 1) := by decide +kernel
theorem dX7_findOrder_18 : decode cX7_findOrder 18 = .ok (.iload_n 1, 1) := by decide +kernel
theorem dX7_findOrder_19 : decode cX7_findOrder 19 = .ok (.invokevirtual 48, 3) := by decide +kernel
theorem dX7_findOrder_22 : decode cX7_findOrder 22 = .ok (.ifCond .eq 24, 3) := by decide +kernel
theorem dX7_findOrder_25 : decode cX7_findOrder 25 = .ok (.aload_n 0, 1) := by decide +kernel
theorem dX7_findOrder_26 : decode cX7_findOrder 26 = .ok (.getfield 22, 3) := by decide +kernel
theorem dX7_findOrder_29 : decode cX7_findOrder 29 = .ok (.aload_n 0, 1) := by decide +kernel
theorem dX7_findOrder_30 : decode cX7_findOrder 30 = .ok (.iload_n 1, 1) := by decide +kernel
theorem dX7_findOrder_31 : decode cX7_findOrder 31 = .ok (.invokevirtual 55, 3) := by decide +kernel
theorem dX7_findOrder_34 : decode cX7_findOrder 34 = .ok (.iload_n 1, 1) := by decide +kernel
theorem dX7_findOrder_35 : decode cX7_findOrder 35 = .ok (.iastore, 1) := by decide +kernel
theorem dX7_findOrder_36 : decode cX7_findOrder 36 = .ok (.aload_n 0, 1) := by decide +kernel
theorem dX7_findOrder_37 : decode cX7_findOrder 37 = .ok (.dup, 1) := by decide +kernel
theorem dX7_findOrder_38 : decode cX7_findOrder 38 = .ok (.getfield 52, 3) := by decide +kernel
theorem dX7_findOrder_41 : decode cX7_findOrder 41 = .ok (.iconst 1, 1) := by decide +kernel
theorem dX7_findOrder_42 : decode cX7_findOrder 42 = .ok (.iadd, 1) := by decide +kernel
theorem dX7_findOrder_43 : decode cX7_findOrder 43 = .ok (.putfield 52, 3) := by decide +kernel
theorem dX7_findOrder_46 : decode cX7_findOrder 46 = .ok (.iinc 1 1, 3) := by decide +kernel
theorem dX7_findOrder_49 : decode cX7_findOrder 49 = .ok (.goto (-42), 3) := by decide +kernel
theorem dX7_findOrder_52 : decode cX7_findOrder 52 = .ok (.return_, 1) := by decide +kernel
theorem dX7_putRow_0 : decode cX7_putRow 0 = .ok (.aload_n 0, 1) := by decide +kernel
theorem dX7_putRow_1 : decode cX7_putRow 1 = .ok (.getfield 7, 3) := by decide +kernel
theorem dX7_putRow_4 : decode cX7_putRow 4 = .ok (.iconst 0, 1) := by decide +kernel
theorem dX7_putRow_5 : decode cX7_putRow 5 = .ok (.iaload, 1) := by decide +kernel
theorem dX7_putRow_6 : decode cX7_putRow 6 = .ok (.istore_n 3, 1) := by decide +kernel
theorem dX7_putRow_7 : decode cX7_putRow 7 = .ok (.iconst 0, 1) := by decide +kernel
theorem dX7_putRow_8 : decode cX7_putRow 8 = .ok (.istore 4, 2) := by decide +kernel
theorem dX7_putRow_10 : decode cX7_putRow 10 = .ok (.iload 4, 2) := by decide +kernel
theorem dX7_putRow_12 : decode cX7_putRow 12 = .ok (.bipush 9, 2) := by decide +kernel
theorem dX7_putRow_14 : decode cX7_putRow 14 = .ok (.if_icmp .ge 17, 3) := by decide +kernel
theorem dX7_putRow_17 : decode cX7_putRow 17 = .ok (.aload_n 0, 1) := by decide +kernel
theorem dX7_putRow_18 : decode cX7_putRow 18 = .ok (.iload_n 3, 1) := by decide +kernel
theorem dX7_putRow_19 : decode cX7_putRow 19 = .ok (.iload 4, 2) := by decide +kernel
theorem dX7_putRow_21 : decode cX7_putRow 21 = .ok (.iconst 0, 1) := by decide +kernel
theorem dX7_putRow_22 : decode cX7_putRow 22 = .ok (.invokevirtual 59, 3) := by decide +kernel
theorem dX7_putRow_25 : decode cX7_putRow 25 = .ok (.iinc 4 1, 3) := by decide +kernel
theorem dX7_putRow_28 : decode cX7_putRow 28 = .ok (.goto (-18), 3) := by decide +kernel
theorem dX7_putRow_31 : decode cX7_putRow 31 = .ok (.aload_n 0, 1) := by decide +kernel
theorem dX7_putRow_32 : decode cX7_putRow 32 = .ok (.iload_n 3, 1) := by decide +kernel
theorem dX7_putRow_33 : decode cX7_putRow 33 = .ok (.iconst 0, 1) := by decide +kernel
theorem dX7_putRow_34 : decode cX7_putRow 34 = .ok (.iload_n 1, 1) := by decide +kernel
theorem dX7_putRow_35 : decode cX7_putRow 35 = .ok (.invokevirtual 59, 3) := by decide +kernel
theorem dX7_putRow_38 : decode cX7_putRow 38 = .ok (.aload_n 0, 1) := by decide +kernel
theorem dX7_putRow_39 : decode cX7_putRow 39 = .ok (.iload_n 3, 1) := by decide +kernel
theorem dX7_putRow_40 : decode cX7_putRow 40 = .ok (.iconst 1, 1) := by decide +kernel
theorem dX7_putRow_41 : decode cX7_putRow 41 = .ok (.iload_n 2, 1) := by decide +kernel
theorem dX7_putRow_42 : decode cX7_putRow 42 = .ok (.invokevirtual 59, 3) := by decide +kernel
theorem dX7_putRow_45 : decode cX7_putRow 45 = .ok (.aload_n 0, 1) := by decide +kernel
theorem dX7_putRow_46 : decode cX7_putRow 46 = .ok (.iload_n 3, 1) := by decide +kernel
theorem dX7_putRow_47 : decode cX7_putRow 47 = .ok (.iconst 2, 1) := by decide +kernel
theorem dX7_putRow_48 : decode cX7_putRow 48 = .ok (.aload_n 0, 1) := by decide +kernel
theorem dX7_putRow_49 : decode cX7_putRow 49 = .ok (.getfield 7, 3) := by decide +kernel
theorem dX7_putRow_52 : decode cX7_putRow 52 = .ok (.iconst 1, 1) := by decide +kernel
theorem dX7_putRow_53 : decode cX7_putRow 53 = .ok (.iaload, 1) := by decide +kernel
theorem dX7_putRow_54 : decode cX7_putRow 54 = .ok (.invokevirtual 59, 3) := by decide +kernel
theorem dX7_putRow_57 : decode cX7_putRow 57 = .ok (.aload_n 0, 1) := by decide +kernel
theorem dX7_putRow_58 : decode cX7_putRow 58 = .ok (.iload_n 3, 1) := by decide +kernel
theorem dX7_putRow_59 : decode cX7_putRow 59 = .ok (.bipush 8, 2) := by decide +kernel
theorem dX7_putRow_61 : decode cX7_putRow 61 = .ok (.aload_n 0, 1) := by decide +kernel
theorem dX7_putRow_62 : decode cX7_putRow 62 = .ok (.getfield 7, 3) := by decide +kernel
theorem dX7_putRow_65 : decode cX7_putRow 65 = .ok (.iconst 3, 1) := by decide +kernel
theorem dX7_putRow_66 : decode cX7_putRow 66 = .ok (.iaload, 1) := by decide +kernel
theorem dX7_putRow_67 : decode cX7_putRow 67 = .ok (.invokevirtual 59, 3) := by decide +kernel
theorem dX7_putRow_70 : decode cX7_putRow 70 = .ok (.aload_n 0, 1) := by decide +kernel
theorem dX7_putRow_71 : decode cX7_putRow 71 = .ok (.getfield 7, 3) := by decide +kernel
theorem dX7_putRow_74 : decode cX7_putRow 74 = .ok (.iconst 0, 1) := by decide +kernel
theorem dX7_putRow_75 : decode cX7_putRow 75 = .ok (.dup2, 1) := by decide +kernel
theorem dX7_putRow_76 : decode cX7_putRow 76 = .ok (.iaload, 1) := by decide +kernel
theorem dX7_putRow_77 : decode cX7_putRow 77 = .ok (.iconst 1, 1) := by decide +kernel
theorem dX7_putRow_78 : decode cX7_putRow 78 = .ok (.iadd, 1) := by decide +kernel
theorem dX7_putRow_79 : decode cX7_putRow 79 = .ok (.iastore, 1) := by decide +kernel
theorem dX7_putRow_80 : decode cX7_putRow 80 = .ok (.aload_n 0, 1) := by decide +kernel
theorem dX7_putRow_81 : decode cX7_putRow 81 = .ok (.getfield 7, 3) := by decide +kernel
theorem dX7_putRow_84 : decode cX7_putRow 84 = .ok (.iconst 1, 1) := by decide +kernel
theorem dX7_putRow_85 : decode cX7_putRow 85 = .ok (.dup2, 1) := by decide +kernel
theorem dX7_putRow_86 : decode cX7_putRow 86 = .ok (.iaload, 1) := by decide +kernel
theorem dX7_putRow_87 : decode cX7_putRow 87 = .ok (.iconst 1, 1) := by decide +kernel
theorem dX7_putRow_88 : decode cX7_putRow 88 = .ok (.iadd, 1) := by decide +kernel
theorem dX7_putRow_89 : decode cX7_putRow 89 = .ok (.iastore, 1) := by decide +kernel
theorem dX7_putRow_90 : decode cX7_putRow 90 = .ok (.iload_n 3, 1) := by decide +kernel
theorem dX7_putRow_91 : decode cX7_putRow 91 = .ok (.ireturn, 1) := by decide +kernel
theorem dX7_canTake_0 : decode cX7_canTake 0 = .ok (.aload_n 0, 1) := by decide +kernel
theorem dX7_canTake_1 : decode cX7_canTake 1 = .ok (.iload_n 2, 1) := by decide +kernel
theorem dX7_canTake_2 : decode cX7_canTake 2 = .ok (.iconst 3, 1) := by decide +kernel
theorem dX7_canTake_3 : decode cX7_canTake 3 = .ok (.invokevirtual 40, 3) := by decide +kernel
theorem dX7_canTake_6 : decode cX7_canTake 6 = .ok (.ifCond .ne 34, 3) := by decide +kernel
theorem dX7_canTake_9 : decode cX7_canTake 9 = .ok (.aload_n 0, 1) := by decide +kernel
theorem dX7_canTake_10 : decode cX7_canTake 10 = .ok (.iload_n 2, 1) := by decide +kernel
theorem dX7_canTake_11 : decode cX7_canTake 11 = .ok (.invokevirtual 63, 3) := by decide +kernel
theorem dX7_canTake_14 : decode cX7_canTake 14 = .ok (.ifCond .ne 26, 3) := by decide +kernel
theorem dX7_canTake_17 : decode cX7_canTake 17 = .ok (.aload_n 0, 1) := by decide +kernel
theorem dX7_canTake_18 : decode cX7_canTake 18 = .ok (.iload_n 1, 1) := by decide +kernel
theorem dX7_canTake_19 : decode cX7_canTake 19 = .ok (.iconst 0, 1) := by decide +kernel
theorem dX7_canTake_20 : decode cX7_canTake 20 = .ok (.invokevirtual 66, 3) := by decide +kernel
theorem dX7_canTake_23 : decode cX7_canTake 23 = .ok (.aload_n 0, 1) := by decide +kernel
theorem dX7_canTake_24 : decode cX7_canTake 24 = .ok (.iload_n 2, 1) := by decide +kernel
theorem dX7_canTake_25 : decode cX7_canTake 25 = .ok (.iconst 0, 1) := by decide +kernel
theorem dX7_canTake_26 : decode cX7_canTake 26 = .ok (.invokevirtual 40, 3) := by decide +kernel
theorem dX7_canTake_29 : decode cX7_canTake 29 = .ok (.ishr, 1) := by decide +kernel
theorem dX7_canTake_30 : decode cX7_canTake 30 = .ok (.iconst 1, 1) := by decide +kernel
theorem dX7_canTake_31 : decode cX7_canTake 31 = .ok (.iand, 1) := by decide +kernel
theorem dX7_canTake_32 : decode cX7_canTake 32 = .ok (.iconst 1, 1) := by decide +kernel
theorem dX7_canTake_33 : decode cX7_canTake 33 = .ok (.if_icmp .ne 7, 3) := by decide +kernel
theorem dX7_canTake_36 : decode cX7_canTake 36 = .ok (.iconst 1, 1) := by decide +kernel
theorem dX7_canTake_37 : decode cX7_canTake 37 = .ok (.goto 4, 3) := by decide +kernel
theorem dX7_canTake_40 : decode cX7_canTake 40 = .ok (.iconst 0, 1) := by decide +kernel
theorem dX7_canTake_41 : decode cX7_canTake 41 = .ok (.ireturn, 1) := by decide +kernel
theorem dX7_takesRows_0 : decode cX7_takesRows 0 = .ok (.aload_n 0, 1) := by decide +kernel
theorem dX7_takesRows_1 : decode cX7_takesRows 1 = .ok (.getfield 7, 3) := by decide +kernel
theorem dX7_takesRows_4 : decode cX7_takesRows 4 = .ok (.bipush 8, 2) := by decide +kernel
theorem dX7_takesRows_6 : decode cX7_takesRows 6 = .ok (.iaload, 1) := by decide +kernel
theorem dX7_takesRows_7 : decode cX7_takesRows 7 = .ok (.aload_n 0, 1) := by decide +kernel
theorem dX7_takesRows_8 : decode cX7_takesRows 8 = .ok (.iload_n 1, 1) := by decide +kernel
theorem dX7_takesRows_9 : decode cX7_takesRows 9 = .ok (.invokevirtual 69, 3) := by decide +kernel
theorem dX7_takesRows_12 : decode cX7_takesRows 12 = .ok (.isub, 1) := by decide +kernel
theorem dX7_takesRows_13 : decode cX7_takesRows 13 = .ok (.istore_n 3, 1) := by decide +kernel
theorem dX7_takesRows_14 : decode cX7_takesRows 14 = .ok (.iload_n 3, 1) := by decide +kernel
theorem dX7_takesRows_15 : decode cX7_takesRows 15 = .ok (.iload_n 2, 1) := by decide +kernel
theorem dX7_takesRows_16 : decode cX7_takesRows 16 = .ok (.if_icmp .ge 7, 3) := by decide +kernel
theorem dX7_takesRows_19 : decode cX7_takesRows 19 = .ok (.iload_n 3, 1) := by decide +kernel
theorem dX7_takesRows_20 : decode cX7_takesRows 20 = .ok (.goto 4, 3) := by decide +kernel
theorem dX7_takesRows_23 : decode cX7_takesRows 23 = .ok (.iload_n 2, 1) := by decide +kernel
theorem dX7_takesRows_24 : decode cX7_takesRows 24 = .ok (.istore_n 3, 1) := by decide +kernel
theorem dX7_takesRows_25 : decode cX7_takesRows 25 = .ok (.aload_n 0, 1) := by decide +kernel
theorem dX7_takesRows_26 : decode cX7_takesRows 26 = .ok (.iconst 0, 1) := by decide +kernel
theorem dX7_takesRows_27 : decode cX7_takesRows 27 = .ok (.putfield 72, 3) := by decide +kernel
theorem dX7_takesRows_30 : decode cX7_takesRows 30 = .ok (.aload_n 0, 1) := by decide +kernel
theorem dX7_takesRows_31 : decode cX7_takesRows 31 = .ok (.iconst 0, 1) := by decide +kernel
theorem dX7_takesRows_32 : decode cX7_takesRows 32 = .ok (.putfield 75, 3) := by decide +kernel
theorem dX7_takesRows_35 : decode cX7_takesRows 35 = .ok (.iconst 0, 1) := by decide +kernel
theorem dX7_takesRows_36 : decode cX7_takesRows 36 = .ok (.istore 4, 2) := by decide +kernel
theorem dX7_takesRows_38 : decode cX7_takesRows 38 = .ok (.aload_n 0, 1) := by decide +kernel
theorem dX7_takesRows_39 : decode cX7_takesRows 39 = .ok (.invokevirtual 78, 3) := by decide +kernel
theorem dX7_takesRows_42 : decode cX7_takesRows 42 = .ok (.iconst 0, 1) := by decide +kernel
theorem dX7_takesRows_43 : decode cX7_takesRows 43 = .ok (.istore 5, 2) := by decide +kernel
theorem dX7_takesRows_45 : decode cX7_takesRows 45 = .ok (.iload 5, 2) := by decide +kernel
theorem dX7_takesRows_47 : decode cX7_takesRows 47 = .ok (.aload_n 0, 1) := by decide +kernel
theorem dX7_takesRows_48 : decode cX7_takesRows 48 = .ok (.getfield 52, 3) := by decide +kernel
theorem dX7_takesRows_51 : decode cX7_takesRows 51 = .ok (.if_icmp .ge 122, 3) := by decide +kernel
theorem dX7_takesRows_54 : decode cX7_takesRows 54 = .ok (.aload_n 0, 1) := by decide +kernel
theorem dX7_takesRows_55 : decode cX7_takesRows 55 = .ok (.getfield 72, 3) := by decide +kernel
theorem dX7_takesRows_58 : decode cX7_takesRows 58 = .ok (.iload_n 3, 1) := by decide +kernel
theorem dX7_takesRows_59 : decode cX7_takesRows 59 = .ok (.if_icmp .ge 114, 3) := by decide +kernel
theorem dX7_takesRows_62 : decode cX7_takesRows 62 = .ok (.aload_n 0, 1) := by decide +kernel
theorem dX7_takesRows_63 : decode cX7_takesRows 63 = .ok (.getfield 22, 3) := by decide +kernel
theorem dX7_takesRows_66 : decode cX7_takesRows 66 = .ok (.iload 5, 2) := by decide +kernel
theorem dX7_takesRows_68 : decode cX7_takesRows 68 = .ok (.iaload, 1) := by decide +kernel
theorem dX7_takesRows_69 : decode cX7_takesRows 69 = .ok (.istore 6, 2) := by decide +kernel
theorem dX7_takesRows_71 : decode cX7_takesRows 71 = .ok (.aload_n 0, 1) := by decide +kernel
theorem dX7_takesRows_72 : decode cX7_takesRows 72 = .ok (.iload_n 1, 1) := by decide +kernel
theorem dX7_takesRows_73 : decode cX7_takesRows 73 = .ok (.iload 6, 2) := by decide +kernel
theorem dX7_takesRows_75 : decode cX7_takesRows 75 = .ok (.invokevirtual 81, 3) := by decide +kernel
theorem dX7_takesRows_78 : decode cX7_takesRows 78 = .ok (.ifCond .eq 61, 3) := by decide +kernel
theorem dX7_takesRows_81 : decode cX7_takesRows 81 = .ok (.aload_n 0, 1) := by decide +kernel
theorem dX7_takesRows_82 : decode cX7_takesRows 82 = .ok (.iload 6, 2) := by decide +kernel
theorem dX7_takesRows_84 : decode cX7_takesRows 84 = .ok (.iconst 3, 1) := by decide +kernel
theorem dX7_takesRows_85 : decode cX7_takesRows 85 = .ok (.iconst 1, 1) := by decide +kernel
theorem dX7_takesRows_86 : decode cX7_takesRows 86 = .ok (.invokevirtual 59, 3) := by decide +kernel
theorem dX7_takesRows_89 : decode cX7_takesRows 89 = .ok (.aload_n 0, 1) := by decide +kernel
theorem dX7_takesRows_90 : decode cX7_takesRows 90 = .ok (.iload 6, 2) := by decide +kernel
theorem dX7_takesRows_92 : decode cX7_takesRows 92 = .ok (.iconst 4, 1) := by decide +kernel
theorem dX7_takesRows_93 : decode cX7_takesRows 93 = .ok (.iload_n 1, 1) := by decide +kernel
theorem dX7_takesRows_94 : decode cX7_takesRows 94 = .ok (.invokevirtual 59, 3) := by decide +kernel
theorem dX7_takesRows_97 : decode cX7_takesRows 97 = .ok (.aload_n 0, 1) := by decide +kernel
theorem dX7_takesRows_98 : decode cX7_takesRows 98 = .ok (.iload 6, 2) := by decide +kernel
theorem dX7_takesRows_100 : decode cX7_takesRows 100 = .ok (.iconst 5, 1) := by decide +kernel
theorem dX7_takesRows_101 : decode cX7_takesRows 101 = .ok (.aload_n 0, 1) := by decide +kernel
theorem dX7_takesRows_102 : decode cX7_takesRows 102 = .ok (.getfield 7, 3) := by decide +kernel
theorem dX7_takesRows_105 : decode cX7_takesRows 105 = .ok (.iconst 3, 1) := by decide +kernel
theorem dX7_takesRows_106 : decode cX7_takesRows 106 = .ok (.iaload, 1) := by decide +kernel
theorem dX7_takesRows_107 : decode cX7_takesRows 107 = .ok (.aload_n 0, 1) := by decide +kernel
theorem dX7_takesRows_108 : decode cX7_takesRows 108 = .ok (.getfield 7, 3) := by decide +kernel
theorem dX7_takesRows_111 : decode cX7_takesRows 111 = .ok (.iconst 5, 1) := by decide +kernel
theorem dX7_takesRows_112 : decode cX7_takesRows 112 = .ok (.iaload, 1) := by decide +kernel
theorem dX7_takesRows_113 : decode cX7_takesRows 113 = .ok (.iadd, 1) := by decide +kernel
theorem dX7_takesRows_114 : decode cX7_takesRows 114 = .ok (.invokevirtual 59, 3) := by decide +kernel
theorem dX7_takesRows_117 : decode cX7_takesRows 117 = .ok (.aload_n 0, 1) := by decide +kernel
theorem dX7_takesRows_118 : decode cX7_takesRows 118 = .ok (.dup, 1) := by decide +kernel
theorem dX7_takesRows_119 : decode cX7_takesRows 119 = .ok (.getfield 72, 3) := by decide +kernel
theorem dX7_takesRows_122 : decode cX7_takesRows 122 = .ok (.iconst 1, 1) := by decide +kernel
theorem dX7_takesRows_123 : decode cX7_takesRows 123 = .ok (.iadd, 1) := by decide +kernel
theorem dX7_takesRows_124 : decode cX7_takesRows 124 = .ok (.putfield 72, 3) := by decide +kernel
theorem dX7_takesRows_127 : decode cX7_takesRows 127 = .ok (.iload 4, 2) := by decide +kernel
theorem dX7_takesRows_129 : decode cX7_takesRows 129 = .ok (.iconst 1, 1) := by decide +kernel
theorem dX7_takesRows_130 : decode cX7_takesRows 130 = .ok (.iload 6, 2) := by decide +kernel
theorem dX7_takesRows_132 : decode cX7_takesRows 132 = .ok (.ishl, 1) := by decide +kernel
theorem dX7_takesRows_133 : decode cX7_takesRows 133 = .ok (.ior, 1) := by decide +kernel
theorem dX7_takesRows_134 : decode cX7_takesRows 134 = .ok (.istore 4, 2) := by decide +kernel
theorem dX7_takesRows_136 : decode cX7_takesRows 136 = .ok (.goto 31, 3) := by decide +kernel
theorem dX7_takesRows_139 : decode cX7_takesRows 139 = .ok (.aload_n 0, 1) := by decide +kernel
theorem dX7_takesRows_140 : decode cX7_takesRows 140 = .ok (.iload 6, 2) := by decide +kernel
theorem dX7_takesRows_142 : decode cX7_takesRows 142 = .ok (.bipush 7, 2) := by decide +kernel
theorem dX7_takesRows_144 : decode cX7_takesRows 144 = .ok (.aload_n 0, 1) := by decide +kernel
theorem dX7_takesRows_145 : decode cX7_takesRows 145 = .ok (.iload 6, 2) := by decide +kernel
theorem dX7_takesRows_147 : decode cX7_takesRows 147 = .ok (.bipush 7, 2) := by decide +kernel
theorem dX7_takesRows_149 : decode cX7_takesRows 149 = .ok (.invokevirtual 40, 3) := by decide +kernel
theorem dX7_takesRows_152 : decode cX7_takesRows 152 = .ok (.iconst 1, 1) := by decide +kernel
theorem dX7_takesRows_153 : decode cX7_takesRows 153 = .ok (.iadd, 1) := by decide +kernel
theorem dX7_takesRows_154 : decode cX7_takesRows 154 = .ok (.invokevirtual 59, 3) := by decide +kernel
theorem dX7_takesRows_157 : decode cX7_takesRows 157 = .ok (.aload_n 0, 1) := by decide +kernel
theorem dX7_takesRows_158 : decode cX7_takesRows 158 = .ok (.dup, 1) := by decide +kernel
theorem dX7_takesRows_159 : decode cX7_takesRows 159 = .ok (.getfield 75, 3) := by decide +kernel
theorem dX7_takesRows_162 : decode cX7_takesRows 162 = .ok (.iconst 1, 1) := by decide +kernel
theorem dX7_takesRows_163 : decode cX7_takesRows 163 = .ok (.iadd, 1) := by decide +kernel
theorem dX7_takesRows_164 : decode cX7_takesRows 164 = .ok (.putfield 75, 3) := by decide +kernel
theorem dX7_takesRows_167 : decode cX7_takesRows 167 = .ok (.iinc 5 1, 3) := by decide +kernel
theorem dX7_takesRows_170 : decode cX7_takesRows 170 = .ok (.goto (-125), 3) := by decide +kernel
theorem dX7_takesRows_173 : decode cX7_takesRows 173 = .ok (.aload_n 0, 1) := by decide +kernel
theorem dX7_takesRows_174 : decode cX7_takesRows 174 = .ok (.getfield 7, 3) := by decide +kernel
theorem dX7_takesRows_177 : decode cX7_takesRows 177 = .ok (.iconst 4, 1) := by decide +kernel
theorem dX7_takesRows_178 : decode cX7_takesRows 178 = .ok (.dup2, 1) := by decide +kernel
theorem dX7_takesRows_179 : decode cX7_takesRows 179 = .ok (.iaload, 1) := by decide +kernel
theorem dX7_takesRows_180 : decode cX7_takesRows 180 = .ok (.aload_n 0, 1) := by decide +kernel
theorem dX7_takesRows_181 : decode cX7_takesRows 181 = .ok (.getfield 75, 3) := by decide +kernel
theorem dX7_takesRows_184 : decode cX7_takesRows 184 = .ok (.iadd, 1) := by decide +kernel
theorem dX7_takesRows_185 : decode cX7_takesRows 185 = .ok (.iastore, 1) := by decide +kernel
theorem dX7_takesRows_186 : decode cX7_takesRows 186 = .ok (.iload 4, 2) := by decide +kernel
theorem dX7_takesRows_188 : decode cX7_takesRows 188 = .ok (.ireturn, 1) := by decide +kernel
theorem dX7_goesOn_0 : decode cX7_goesOn 0 = .ok (.aload_n 0, 1) := by decide +kernel
theorem dX7_goesOn_1 : decode cX7_goesOn 1 = .ok (.getfield 7, 3) := by decide +kernel
theorem dX7_goesOn_4 : decode cX7_goesOn 4 = .ok (.iconst 3, 1) := by decide +kernel
theorem dX7_goesOn_5 : decode cX7_goesOn 5 = .ok (.dup2, 1) := by decide +kernel
theorem dX7_goesOn_6 : decode cX7_goesOn 6 = .ok (.iaload, 1) := by decide +kernel
theorem dX7_goesOn_7 : decode cX7_goesOn 7 = .ok (.iconst 1, 1) := by decide +kernel
theorem dX7_goesOn_8 : decode cX7_goesOn 8 = .ok (.iadd, 1) := by decide +kernel
theorem dX7_goesOn_9 : decode cX7_goesOn 9 = .ok (.iastore, 1) := by decide +kernel
theorem dX7_goesOn_10 : decode cX7_goesOn 10 = .ok (.iconst 0, 1) := by decide +kernel
theorem dX7_goesOn_11 : decode cX7_goesOn 11 = .ok (.istore_n 1, 1) := by decide +kernel
theorem dX7_goesOn_12 : decode cX7_goesOn 12 = .ok (.iconst 0, 1) := by decide +kernel
theorem dX7_goesOn_13 : decode cX7_goesOn 13 = .ok (.istore_n 2, 1) := by decide +kernel
theorem dX7_goesOn_14 : decode cX7_goesOn 14 = .ok (.iload_n 2, 1) := by decide +kernel
theorem dX7_goesOn_15 : decode cX7_goesOn 15 = .ok (.aload_n 0, 1) := by decide +kernel
theorem dX7_goesOn_16 : decode cX7_goesOn 16 = .ok (.getfield 7, 3) := by decide +kernel
theorem dX7_goesOn_19 : decode cX7_goesOn 19 = .ok (.iconst 0, 1) := by decide +kernel
theorem dX7_goesOn_20 : decode cX7_goesOn 20 = .ok (.iaload, 1) := by decide +kernel
theorem dX7_goesOn_21 : decode cX7_goesOn 21 = .ok (.if_icmp .ge 99, 3) := by decide +kernel
theorem dX7_goesOn_24 : decode cX7_goesOn 24 = .ok (.aload_n 0, 1) := by decide +kernel
theorem dX7_goesOn_25 : decode cX7_goesOn 25 = .ok (.iload_n 2, 1) := by decide +kernel
theorem dX7_goesOn_26 : decode cX7_goesOn 26 = .ok (.iconst 3, 1) := by decide +kernel
theorem dX7_goesOn_27 : decode cX7_goesOn 27 = .ok (.invokevirtual 40, 3) := by decide +kernel
theorem dX7_goesOn_30 : decode cX7_goesOn 30 = .ok (.iconst 1, 1) := by decide +kernel
theorem dX7_goesOn_31 : decode cX7_goesOn 31 = .ok (.if_icmp .ne 83, 3) := by decide +kernel
theorem dX7_goesOn_34 : decode cX7_goesOn 34 = .ok (.aload_n 0, 1) := by decide +kernel
theorem dX7_goesOn_35 : decode cX7_goesOn 35 = .ok (.iload_n 2, 1) := by decide +kernel
theorem dX7_goesOn_36 : decode cX7_goesOn 36 = .ok (.iconst 5, 1) := by decide +kernel
theorem dX7_goesOn_37 : decode cX7_goesOn 37 = .ok (.invokevirtual 40, 3) := by decide +kernel
theorem dX7_goesOn_40 : decode cX7_goesOn 40 = .ok (.aload_n 0, 1) := by decide +kernel
theorem dX7_goesOn_41 : decode cX7_goesOn 41 = .ok (.getfield 7, 3) := by decide +kernel
theorem dX7_goesOn_44 : decode cX7_goesOn 44 = .ok (.iconst 3, 1) := by decide +kernel
theorem dX7_goesOn_45 : decode cX7_goesOn 45 = .ok (.iaload, 1) := by decide +kernel
theorem dX7_goesOn_46 : decode cX7_goesOn 46 = .ok (.if_icmp .ne 68, 3) := by decide +kernel
theorem dX7_goesOn_49 : decode cX7_goesOn 49 = .ok (.aload_n 0, 1) := by decide +kernel
theorem dX7_goesOn_50 : decode cX7_goesOn 50 = .ok (.iload_n 2, 1) := by decide +kernel
theorem dX7_goesOn_51 : decode cX7_goesOn 51 = .ok (.bipush 6, 2) := by decide +kernel
theorem dX7_goesOn_53 : decode cX7_goesOn 53 = .ok (.invokevirtual 40, 3) := by decide +kernel
theorem dX7_goesOn_56 : decode cX7_goesOn 56 = .ok (.iconst 1, 1) := by decide +kernel
theorem dX7_goesOn_57 : decode cX7_goesOn 57 = .ok (.iadd, 1) := by decide +kernel
theorem dX7_goesOn_58 : decode cX7_goesOn 58 = .ok (.istore_n 3, 1) := by decide +kernel
theorem dX7_goesOn_59 : decode cX7_goesOn 59 = .ok (.aload_n 0, 1) := by decide +kernel
theorem dX7_goesOn_60 : decode cX7_goesOn 60 = .ok (.iload_n 2, 1) := by decide +kernel
theorem dX7_goesOn_61 : decode cX7_goesOn 61 = .ok (.bipush 6, 2) := by decide +kernel
theorem dX7_goesOn_63 : decode cX7_goesOn 63 = .ok (.iload_n 3, 1) := by decide +kernel
theorem dX7_goesOn_64 : decode cX7_goesOn 64 = .ok (.invokevirtual 59, 3) := by decide +kernel
theorem dX7_goesOn_67 : decode cX7_goesOn 67 = .ok (.aload_n 0, 1) := by decide +kernel
theorem dX7_goesOn_68 : decode cX7_goesOn 68 = .ok (.iload_n 2, 1) := by decide +kernel
theorem dX7_goesOn_69 : decode cX7_goesOn 69 = .ok (.iconst 3, 1) := by decide +kernel
theorem dX7_goesOn_70 : decode cX7_goesOn 70 = .ok (.iload_n 3, 1) := by decide +kernel
theorem dX7_goesOn_71 : decode cX7_goesOn 71 = .ok (.aload_n 0, 1) := by decide +kernel
theorem dX7_goesOn_72 : decode cX7_goesOn 72 = .ok (.getfield 7, 3) := by decide +kernel
theorem dX7_goesOn_75 : decode cX7_goesOn 75 = .ok (.bipush 6, 2) := by decide +kernel
theorem dX7_goesOn_77 : decode cX7_goesOn 77 = .ok (.iaload, 1) := by decide +kernel
theorem dX7_goesOn_78 : decode cX7_goesOn 78 = .ok (.if_icmp .lt 7, 3) := by decide +kernel
theorem dX7_goesOn_81 : decode cX7_goesOn 81 = .ok (.iconst 3, 1) := by decide +kernel
theorem dX7_goesOn_82 : decode cX7_goesOn 82 = .ok (.goto 4, 3) := by decide +kernel
theorem dX7_goesOn_85 : decode cX7_goesOn 85 = .ok (.iconst 0, 1) := by decide +kernel
theorem dX7_goesOn_86 : decode cX7_goesOn 86 = .ok (.invokevirtual 59, 3) := by decide +kernel
theorem dX7_goesOn_89 : decode cX7_goesOn 89 = .ok (.aload_n 0, 1) := by decide +kernel
theorem dX7_goesOn_90 : decode cX7_goesOn 90 = .ok (.getfield 7, 3) := by decide +kernel
theorem dX7_goesOn_93 : decode cX7_goesOn 93 = .ok (.bipush 9, 2) := by decide +kernel
theorem dX7_goesOn_95 : decode cX7_goesOn 95 = .ok (.iconst 4, 1) := by decide +kernel
theorem dX7_goesOn_96 : decode cX7_goesOn 96 = .ok (.aload_n 0, 1) := by decide +kernel
theorem dX7_goesOn_97 : decode cX7_goesOn 97 = .ok (.iload_n 2, 1) := by decide +kernel
theorem dX7_goesOn_98 : decode cX7_goesOn 98 = .ok (.iconst 4, 1) := by decide +kernel
theorem dX7_goesOn_99 : decode cX7_goesOn 99 = .ok (.invokevirtual 40, 3) := by decide +kernel
theorem dX7_goesOn_102 : decode cX7_goesOn 102 = .ok (.imul, 1) := by decide +kernel
theorem dX7_goesOn_103 : decode cX7_goesOn 103 = .ok (.iadd, 1) := by decide +kernel
theorem dX7_goesOn_104 : decode cX7_goesOn 104 = .ok (.iconst 3, 1) := by decide +kernel
theorem dX7_goesOn_105 : decode cX7_goesOn 105 = .ok (.iadd, 1) := by decide +kernel
theorem dX7_goesOn_106 : decode cX7_goesOn 106 = .ok (.dup2, 1) := by decide +kernel
theorem dX7_goesOn_107 : decode cX7_goesOn 107 = .ok (.iaload, 1) := by decide +kernel
theorem dX7_goesOn_108 : decode cX7_goesOn 108 = .ok (.iconst 1, 1) := by decide +kernel
theorem dX7_goesOn_109 : decode cX7_goesOn 109 = .ok (.iadd, 1) := by decide +kernel
theorem dX7_goesOn_110 : decode cX7_goesOn 110 = .ok (.iastore, 1) := by decide +kernel
theorem dX7_goesOn_111 : decode cX7_goesOn 111 = .ok (.iinc 1 1, 3) := by decide +kernel
theorem dX7_goesOn_114 : decode cX7_goesOn 114 = .ok (.iinc 2 1, 3) := by decide +kernel
theorem dX7_goesOn_117 : decode cX7_goesOn 117 = .ok (.goto (-103), 3) := by decide +kernel
theorem dX7_goesOn_120 : decode cX7_goesOn 120 = .ok (.iload_n 1, 1) := by decide +kernel
theorem dX7_goesOn_121 : decode cX7_goesOn 121 = .ok (.ireturn, 1) := by decide +kernel
theorem dX7_goesOnBy_0 : decode cX7_goesOnBy 0 = .ok (.iconst 0, 1) := by decide +kernel
theorem dX7_goesOnBy_1 : decode cX7_goesOnBy 1 = .ok (.istore_n 2, 1) := by decide +kernel
theorem dX7_goesOnBy_2 : decode cX7_goesOnBy 2 = .ok (.iconst 0, 1) := by decide +kernel
theorem dX7_goesOnBy_3 : decode cX7_goesOnBy 3 = .ok (.istore_n 3, 1) := by decide +kernel
theorem dX7_goesOnBy_4 : decode cX7_goesOnBy 4 = .ok (.iload_n 3, 1) := by decide +kernel
theorem dX7_goesOnBy_5 : decode cX7_goesOnBy 5 = .ok (.iload_n 1, 1) := by decide +kernel
theorem dX7_goesOnBy_6 : decode cX7_goesOnBy 6 = .ok (.if_icmp .ge 16, 3) := by decide +kernel
theorem dX7_goesOnBy_9 : decode cX7_goesOnBy 9 = .ok (.iload_n 2, 1) := by decide +kernel
theorem dX7_goesOnBy_10 : decode cX7_goesOnBy 10 = .ok (.aload_n 0, 1) := by decide +kernel
theorem dX7_goesOnBy_11 : decode cX7_goesOnBy 11 = .ok (.invokevirtual 84, 3) := by decide +kernel
theorem dX7_goesOnBy_14 : decode cX7_goesOnBy 14 = .ok (.iadd, 1) := by decide +kernel
theorem dX7_goesOnBy_15 : decode cX7_goesOnBy 15 = .ok (.istore_n 2, 1) := by decide +kernel
theorem dX7_goesOnBy_16 : decode cX7_goesOnBy 16 = .ok (.iinc 3 1, 3) := by decide +kernel
theorem dX7_goesOnBy_19 : decode cX7_goesOnBy 19 = .ok (.goto (-15), 3) := by decide +kernel
theorem dX7_goesOnBy_22 : decode cX7_goesOnBy 22 = .ok (.iload_n 2, 1) := by decide +kernel
theorem dX7_goesOnBy_23 : decode cX7_goesOnBy 23 = .ok (.ireturn, 1) := by decide +kernel
theorem dX7_put_0 : decode cX7_put 0 = .ok (.aload_n 0, 1) := by decide +kernel
theorem dX7_put_1 : decode cX7_put 1 = .ok (.iload_n 1, 1) := by decide +kernel
theorem dX7_put_2 : decode cX7_put 2 = .ok (.iconst 0, 1) := by decide +kernel
theorem dX7_put_3 : decode cX7_put 3 = .ok (.bipush 7, 2) := by decide +kernel
theorem dX7_put_5 : decode cX7_put 5 = .ok (.invokestatic 36, 3) := by decide +kernel
theorem dX7_put_8 : decode cX7_put 8 = .ok (.ifCond .eq 13, 3) := by decide +kernel
theorem dX7_put_11 : decode cX7_put 11 = .ok (.iload_n 2, 1) := by decide +kernel
theorem dX7_put_12 : decode cX7_put 12 = .ok (.iconst 0, 1) := by decide +kernel
theorem dX7_put_13 : decode cX7_put 13 = .ok (.bipush 9, 2) := by decide +kernel
theorem dX7_put_15 : decode cX7_put 15 = .ok (.invokestatic 36, 3) := by decide +kernel
theorem dX7_put_18 : decode cX7_put 18 = .ok (.ifCond .ne 7, 3) := by decide +kernel
theorem dX7_put_21 : decode cX7_put 21 = .ok (.iconst 1, 1) := by decide +kernel
theorem dX7_put_22 : decode cX7_put 22 = .ok (.goto 19, 3) := by decide +kernel
theorem dX7_put_25 : decode cX7_put 25 = .ok (.aload_n 0, 1) := by decide +kernel
theorem dX7_put_26 : decode cX7_put 26 = .ok (.getfield 7, 3) := by decide +kernel
theorem dX7_put_29 : decode cX7_put 29 = .ok (.iconst 0, 1) := by decide +kernel
theorem dX7_put_30 : decode cX7_put 30 = .ok (.iaload, 1) := by decide +kernel
theorem dX7_put_31 : decode cX7_put 31 = .ok (.bipush 24, 2) := by decide +kernel
theorem dX7_put_33 : decode cX7_put 33 = .ok (.if_icmp .ne 7, 3) := by decide +kernel
theorem dX7_put_36 : decode cX7_put 36 = .ok (.iconst 2, 1) := by decide +kernel
theorem dX7_put_37 : decode cX7_put 37 = .ok (.goto 4, 3) := by decide +kernel
theorem dX7_put_40 : decode cX7_put 40 = .ok (.iconst 0, 1) := by decide +kernel
theorem dX7_put_41 : decode cX7_put 41 = .ok (.putfield 25, 3) := by decide +kernel
theorem dX7_put_44 : decode cX7_put 44 = .ok (.aload_n 0, 1) := by decide +kernel
theorem dX7_put_45 : decode cX7_put 45 = .ok (.getfield 25, 3) := by decide +kernel
theorem dX7_put_48 : decode cX7_put 48 = .ok (.ifCond .le 5, 3) := by decide +kernel
theorem dX7_put_51 : decode cX7_put 51 = .ok (.iconst 0, 1) := by decide +kernel
theorem dX7_put_52 : decode cX7_put 52 = .ok (.ireturn, 1) := by decide +kernel
theorem dX7_put_53 : decode cX7_put 53 = .ok (.aload_n 0, 1) := by decide +kernel
theorem dX7_put_54 : decode cX7_put 54 = .ok (.invokevirtual 88, 3) := by decide +kernel
theorem dX7_put_57 : decode cX7_put 57 = .ok (.aload_n 0, 1) := by decide +kernel
theorem dX7_put_58 : decode cX7_put 58 = .ok (.iload_n 1, 1) := by decide +kernel
theorem dX7_put_59 : decode cX7_put 59 = .ok (.iload_n 2, 1) := by decide +kernel
theorem dX7_put_60 : decode cX7_put 60 = .ok (.invokevirtual 91, 3) := by decide +kernel
theorem dX7_put_63 : decode cX7_put 63 = .ok (.ireturn, 1) := by decide +kernel
theorem dX7_urge_0 : decode cX7_urge 0 = .ok (.aload_n 0, 1) := by decide +kernel
theorem dX7_urge_1 : decode cX7_urge 1 = .ok (.aload_n 0, 1) := by decide +kernel
theorem dX7_urge_2 : decode cX7_urge 2 = .ok (.iload_n 1, 1) := by decide +kernel
theorem dX7_urge_3 : decode cX7_urge 3 = .ok (.invokevirtual 94, 3) := by decide +kernel
theorem dX7_urge_6 : decode cX7_urge 6 = .ok (.ifCond .ne 7, 3) := by decide +kernel
theorem dX7_urge_9 : decode cX7_urge 9 = .ok (.iconst 1, 1) := by decide +kernel
theorem dX7_urge_10 : decode cX7_urge 10 = .ok (.goto 30, 3) := by decide +kernel
theorem dX7_urge_13 : decode cX7_urge 13 = .ok (.iload_n 2, 1) := by decide +kernel
theorem dX7_urge_14 : decode cX7_urge 14 = .ok (.iconst 0, 1) := by decide +kernel
theorem dX7_urge_15 : decode cX7_urge 15 = .ok (.bipush 9, 2) := by decide +kernel
theorem dX7_urge_17 : decode cX7_urge 17 = .ok (.invokestatic 36, 3) := by decide +kernel
theorem dX7_urge_20 : decode cX7_urge 20 = .ok (.ifCond .ne 7, 3) := by decide +kernel
theorem dX7_urge_23 : decode cX7_urge 23 = .ok (.iconst 2, 1) := by decide +kernel
theorem dX7_urge_24 : decode cX7_urge 24 = .ok (.goto 16, 3) := by decide +kernel
theorem dX7_urge_27 : decode cX7_urge 27 = .ok (.aload_n 0, 1) := by decide +kernel
theorem dX7_urge_28 : decode cX7_urge 28 = .ok (.iload_n 1, 1) := by decide +kernel
theorem dX7_urge_29 : decode cX7_urge 29 = .ok (.invokevirtual 48, 3) := by decide +kernel
theorem dX7_urge_32 : decode cX7_urge 32 = .ok (.ifCond .eq 7, 3) := by decide +kernel
theorem dX7_urge_35 : decode cX7_urge 35 = .ok (.iconst 0, 1) := by decide +kernel
theorem dX7_urge_36 : decode cX7_urge 36 = .ok (.goto 4, 3) := by decide +kernel
theorem dX7_urge_39 : decode cX7_urge 39 = .ok (.iconst 3, 1) := by decide +kernel
theorem dX7_urge_40 : decode cX7_urge 40 = .ok (.putfield 25, 3) := by decide +kernel
theorem dX7_urge_43 : decode cX7_urge 43 = .ok (.aload_n 0, 1) := by decide +kernel
theorem dX7_urge_44 : decode cX7_urge 44 = .ok (.getfield 25, 3) := by decide +kernel
theorem dX7_urge_47 : decode cX7_urge 47 = .ok (.ifCond .le 5, 3) := by decide +kernel
theorem dX7_urge_50 : decode cX7_urge 50 = .ok (.iconst 0, 1) := by decide +kernel
theorem dX7_urge_51 : decode cX7_urge 51 = .ok (.ireturn, 1) := by decide +kernel
theorem dX7_urge_52 : decode cX7_urge 52 = .ok (.aload_n 0, 1) := by decide +kernel
theorem dX7_urge_53 : decode cX7_urge 53 = .ok (.invokevirtual 88, 3) := by decide +kernel
theorem dX7_urge_56 : decode cX7_urge 56 = .ok (.aload_n 0, 1) := by decide +kernel
theorem dX7_urge_57 : decode cX7_urge 57 = .ok (.iload_n 1, 1) := by decide +kernel
theorem dX7_urge_58 : decode cX7_urge 58 = .ok (.iconst 1, 1) := by decide +kernel
theorem dX7_urge_59 : decode cX7_urge 59 = .ok (.invokevirtual 40, 3) := by decide +kernel
theorem dX7_urge_62 : decode cX7_urge 62 = .ok (.istore_n 3, 1) := by decide +kernel
theorem dX7_urge_63 : decode cX7_urge 63 = .ok (.aload_n 0, 1) := by decide +kernel
theorem dX7_urge_64 : decode cX7_urge 64 = .ok (.iload_n 1, 1) := by decide +kernel
theorem dX7_urge_65 : decode cX7_urge 65 = .ok (.iconst 1, 1) := by decide +kernel
theorem dX7_urge_66 : decode cX7_urge 66 = .ok (.iload_n 2, 1) := by decide +kernel
theorem dX7_urge_67 : decode cX7_urge 67 = .ok (.invokevirtual 59, 3) := by decide +kernel
theorem dX7_urge_70 : decode cX7_urge 70 = .ok (.iload_n 3, 1) := by decide +kernel
theorem dX7_urge_71 : decode cX7_urge 71 = .ok (.ireturn, 1) := by decide +kernel
theorem dX7_revive_0 : decode cX7_revive 0 = .ok (.aload_n 0, 1) := by decide +kernel
theorem dX7_revive_1 : decode cX7_revive 1 = .ok (.aload_n 0, 1) := by decide +kernel
theorem dX7_revive_2 : decode cX7_revive 2 = .ok (.iload_n 1, 1) := by decide +kernel
theorem dX7_revive_3 : decode cX7_revive 3 = .ok (.invokevirtual 94, 3) := by decide +kernel
theorem dX7_revive_6 : decode cX7_revive 6 = .ok (.ifCond .ne 7, 3) := by decide +kernel
theorem dX7_revive_9 : decode cX7_revive 9 = .ok (.iconst 1, 1) := by decide +kernel
theorem dX7_revive_10 : decode cX7_revive 10 = .ok (.goto 18, 3) := by decide +kernel
theorem dX7_revive_13 : decode cX7_revive 13 = .ok (.aload_n 0, 1) := by decide +kernel
theorem dX7_revive_14 : decode cX7_revive 14 = .ok (.iload_n 1, 1) := by decide +kernel
theorem dX7_revive_15 : decode cX7_revive 15 = .ok (.iconst 3, 1) := by decide +kernel
theorem dX7_revive_16 : decode cX7_revive 16 = .ok (.invokevirtual 40, 3) := by decide +kernel
theorem dX7_revive_19 : decode cX7_revive 19 = .ok (.iconst 3, 1) := by decide +kernel
theorem dX7_revive_20 : decode cX7_revive 20 = .ok (.if_icmp .ne 7, 3) := by decide +kernel
theorem dX7_revive_23 : decode cX7_revive 23 = .ok (.iconst 0, 1) := by decide +kernel
theorem dX7_revive_24 : decode cX7_revive 24 = .ok (.goto 4, 3) := by decide +kernel
theorem dX7_revive_27 : decode cX7_revive 27 = .ok (.iconst 2, 1) := by decide +kernel
theorem dX7_revive_28 : decode cX7_revive 28 = .ok (.putfield 25, 3) := by decide +kernel
theorem dX7_revive_31 : decode cX7_revive 31 = .ok (.aload_n 0, 1) := by decide +kernel
theorem dX7_revive_32 : decode cX7_revive 32 = .ok (.getfield 25, 3) := by decide +kernel
theorem dX7_revive_35 : decode cX7_revive 35 = .ok (.ifCond .le 5, 3) := by decide +kernel
theorem dX7_revive_38 : decode cX7_revive 38 = .ok (.iconst 0, 1) := by decide +kernel
theorem dX7_revive_39 : decode cX7_revive 39 = .ok (.ireturn, 1) := by decide +kernel
theorem dX7_revive_40 : decode cX7_revive 40 = .ok (.aload_n 0, 1) := by decide +kernel
theorem dX7_revive_41 : decode cX7_revive 41 = .ok (.invokevirtual 88, 3) := by decide +kernel
theorem dX7_revive_44 : decode cX7_revive 44 = .ok (.aload_n 0, 1) := by decide +kernel
theorem dX7_revive_45 : decode cX7_revive 45 = .ok (.iload_n 1, 1) := by decide +kernel
theorem dX7_revive_46 : decode cX7_revive 46 = .ok (.bipush 6, 2) := by decide +kernel
theorem dX7_revive_48 : decode cX7_revive 48 = .ok (.invokevirtual 40, 3) := by decide +kernel
theorem dX7_revive_51 : decode cX7_revive 51 = .ok (.istore_n 2, 1) := by decide +kernel
theorem dX7_revive_52 : decode cX7_revive 52 = .ok (.aload_n 0, 1) := by decide +kernel
theorem dX7_revive_53 : decode cX7_revive 53 = .ok (.iload_n 1, 1) := by decide +kernel
theorem dX7_revive_54 : decode cX7_revive 54 = .ok (.bipush 6, 2) := by decide +kernel
theorem dX7_revive_56 : decode cX7_revive 56 = .ok (.iconst 0, 1) := by decide +kernel
theorem dX7_revive_57 : decode cX7_revive 57 = .ok (.invokevirtual 59, 3) := by decide +kernel
theorem dX7_revive_60 : decode cX7_revive 60 = .ok (.aload_n 0, 1) := by decide +kernel
theorem dX7_revive_61 : decode cX7_revive 61 = .ok (.iload_n 1, 1) := by decide +kernel
theorem dX7_revive_62 : decode cX7_revive 62 = .ok (.iconst 3, 1) := by decide +kernel
theorem dX7_revive_63 : decode cX7_revive 63 = .ok (.iconst 0, 1) := by decide +kernel
theorem dX7_revive_64 : decode cX7_revive 64 = .ok (.invokevirtual 59, 3) := by decide +kernel
theorem dX7_revive_67 : decode cX7_revive 67 = .ok (.iload_n 2, 1) := by decide +kernel
theorem dX7_revive_68 : decode cX7_revive 68 = .ok (.ireturn, 1) := by decide +kernel
theorem dX7_sweep_0 : decode cX7_sweep 0 = .ok (.aload_n 0, 1) := by decide +kernel
theorem dX7_sweep_1 : decode cX7_sweep 1 = .ok (.iconst 0, 1) := by decide +kernel
theorem dX7_sweep_2 : decode cX7_sweep 2 = .ok (.putfield 25, 3) := by decide +kernel
theorem dX7_sweep_5 : decode cX7_sweep 5 = .ok (.aload_n 0, 1) := by decide +kernel
theorem dX7_sweep_6 : decode cX7_sweep 6 = .ok (.invokevirtual 88, 3) := by decide +kernel
theorem dX7_sweep_9 : decode cX7_sweep 9 = .ok (.iconst 0, 1) := by decide +kernel
theorem dX7_sweep_10 : decode cX7_sweep 10 = .ok (.istore_n 1, 1) := by decide +kernel
theorem dX7_sweep_11 : decode cX7_sweep 11 = .ok (.aload_n 0, 1) := by decide +kernel
theorem dX7_sweep_12 : decode cX7_sweep 12 = .ok (.getfield 7, 3) := by decide +kernel
theorem dX7_sweep_15 : decode cX7_sweep 15 = .ok (.iconst 0, 1) := by decide +kernel
theorem dX7_sweep_16 : decode cX7_sweep 16 = .ok (.iaload, 1) := by decide +kernel
theorem dX7_sweep_17 : decode cX7_sweep 17 = .ok (.istore_n 2, 1) := by decide +kernel
theorem dX7_sweep_18 : decode cX7_sweep 18 = .ok (.iconst 0, 1) := by decide +kernel
theorem dX7_sweep_19 : decode cX7_sweep 19 = .ok (.istore_n 3, 1) := by decide +kernel
theorem dX7_sweep_20 : decode cX7_sweep 20 = .ok (.iload_n 3, 1) := by decide +kernel
theorem dX7_sweep_21 : decode cX7_sweep 21 = .ok (.iload_n 2, 1) := by decide +kernel
theorem dX7_sweep_22 : decode cX7_sweep 22 = .ok (.if_icmp .ge 52, 3) := by decide +kernel
theorem dX7_sweep_25 : decode cX7_sweep 25 = .ok (.aload_n 0, 1) := by decide +kernel
theorem dX7_sweep_26 : decode cX7_sweep 26 = .ok (.iload_n 3, 1) := by decide +kernel
theorem dX7_sweep_27 : decode cX7_sweep 27 = .ok (.iconst 3, 1) := by decide +kernel
theorem dX7_sweep_28 : decode cX7_sweep 28 = .ok (.invokevirtual 40, 3) := by decide +kernel
theorem dX7_sweep_31 : decode cX7_sweep 31 = .ok (.iconst 2, 1) := by decide +kernel
theorem dX7_sweep_32 : decode cX7_sweep 32 = .ok (.if_icmp .eq 36, 3) := by decide +kernel
theorem dX7_sweep_35 : decode cX7_sweep 35 = .ok (.iconst 0, 1) := by decide +kernel
theorem dX7_sweep_36 : decode cX7_sweep 36 = .ok (.istore 4, 2) := by decide +kernel
theorem dX7_sweep_38 : decode cX7_sweep 38 = .ok (.iload 4, 2) := by decide +kernel
theorem dX7_sweep_40 : decode cX7_sweep 40 = .ok (.bipush 9, 2) := by decide +kernel
theorem dX7_sweep_42 : decode cX7_sweep 42 = .ok (.if_icmp .ge 23, 3) := by decide +kernel
theorem dX7_sweep_45 : decode cX7_sweep 45 = .ok (.aload_n 0, 1) := by decide +kernel
theorem dX7_sweep_46 : decode cX7_sweep 46 = .ok (.iload_n 1, 1) := by decide +kernel
theorem dX7_sweep_47 : decode cX7_sweep 47 = .ok (.iload 4, 2) := by decide +kernel
theorem dX7_sweep_49 : decode cX7_sweep 49 = .ok (.aload_n 0, 1) := by decide +kernel
theorem dX7_sweep_50 : decode cX7_sweep 50 = .ok (.iload_n 3, 1) := by decide +kernel
theorem dX7_sweep_51 : decode cX7_sweep 51 = .ok (.iload 4, 2) := by decide +kernel
theorem dX7_sweep_53 : decode cX7_sweep 53 = .ok (.invokevirtual 40, 3) := by decide +kernel
theorem dX7_sweep_56 : decode cX7_sweep 56 = .ok (.invokevirtual 59, 3) := by decide +kernel
theorem dX7_sweep_59 : decode cX7_sweep 59 = .ok (.iinc 4 1, 3) := by decide +kernel
theorem dX7_sweep_62 : decode cX7_sweep 62 = .ok (.goto (-24), 3) := by decide +kernel
theorem dX7_sweep_65 : decode cX7_sweep 65 = .ok (.iinc 1 1, 3) := by decide +kernel
theorem dX7_sweep_68 : decode cX7_sweep 68 = .ok (.iinc 3 1, 3) := by decide +kernel
theorem dX7_sweep_71 : decode cX7_sweep 71 = .ok (.goto (-51), 3) := by decide +kernel
theorem dX7_sweep_74 : decode cX7_sweep 74 = .ok (.aload_n 0, 1) := by decide +kernel
theorem dX7_sweep_75 : decode cX7_sweep 75 = .ok (.getfield 7, 3) := by decide +kernel
theorem dX7_sweep_78 : decode cX7_sweep 78 = .ok (.iconst 0, 1) := by decide +kernel
theorem dX7_sweep_79 : decode cX7_sweep 79 = .ok (.iload_n 1, 1) := by decide +kernel
theorem dX7_sweep_80 : decode cX7_sweep 80 = .ok (.iastore, 1) := by decide +kernel
theorem dX7_sweep_81 : decode cX7_sweep 81 = .ok (.iload_n 2, 1) := by decide +kernel
theorem dX7_sweep_82 : decode cX7_sweep 82 = .ok (.iload_n 1, 1) := by decide +kernel
theorem dX7_sweep_83 : decode cX7_sweep 83 = .ok (.isub, 1) := by decide +kernel
theorem dX7_sweep_84 : decode cX7_sweep 84 = .ok (.ireturn, 1) := by decide +kernel
theorem dX7_isValue_0 : decode cX7_isValue 0 = .ok (.iload_n 0, 1) := by decide +kernel
theorem dX7_isValue_1 : decode cX7_isValue 1 = .ok (.ifCond .ne 13, 3) := by decide +kernel
theorem dX7_isValue_4 : decode cX7_isValue 4 = .ok (.iload_n 1, 1) := by decide +kernel
theorem dX7_isValue_5 : decode cX7_isValue 5 = .ok (.iconst 1, 1) := by decide +kernel
theorem dX7_isValue_6 : decode cX7_isValue 6 = .ok (.bipush 99, 2) := by decide +kernel
theorem dX7_isValue_8 : decode cX7_isValue 8 = .ok (.invokestatic 36, 3) := by decide +kernel
theorem dX7_isValue_11 : decode cX7_isValue 11 = .ok (.goto 39, 3) := by decide +kernel
theorem dX7_isValue_14 : decode cX7_isValue 14 = .ok (.iload_n 0, 1) := by decide +kernel
theorem dX7_isValue_15 : decode cX7_isValue 15 = .ok (.iconst 1, 1) := by decide +kernel
theorem dX7_isValue_16 : decode cX7_isValue 16 = .ok (.if_icmp .ne 13, 3) := by decide +kernel
theorem dX7_isValue_19 : decode cX7_isValue 19 = .ok (.iload_n 1, 1) := by decide +kernel
theorem dX7_isValue_20 : decode cX7_isValue 20 = .ok (.iconst 1, 1) := by decide +kernel
theorem dX7_isValue_21 : decode cX7_isValue 21 = .ok (.bipush 9, 2) := by decide +kernel
theorem dX7_isValue_23 : decode cX7_isValue 23 = .ok (.invokestatic 36, 3) := by decide +kernel
theorem dX7_isValue_26 : decode cX7_isValue 26 = .ok (.goto 24, 3) := by decide +kernel
theorem dX7_isValue_29 : decode cX7_isValue 29 = .ok (.iload_n 0, 1) := by decide +kernel
theorem dX7_isValue_30 : decode cX7_isValue 30 = .ok (.iconst 2, 1) := by decide +kernel
theorem dX7_isValue_31 : decode cX7_isValue 31 = .ok (.if_icmp .ne 12, 3) := by decide +kernel
theorem dX7_isValue_34 : decode cX7_isValue 34 = .ok (.iload_n 1, 1) := by decide +kernel
theorem dX7_isValue_35 : decode cX7_isValue 35 = .ok (.iconst 0, 1) := by decide +kernel
theorem dX7_isValue_36 : decode cX7_isValue 36 = .ok (.iconst 1, 1) := by decide +kernel
theorem dX7_isValue_37 : decode cX7_isValue 37 = .ok (.invokestatic 36, 3) := by decide +kernel
theorem dX7_isValue_40 : decode cX7_isValue 40 = .ok (.goto 10, 3) := by decide +kernel
theorem dX7_isValue_43 : decode cX7_isValue 43 = .ok (.iload_n 1, 1) := by decide +kernel
theorem dX7_isValue_44 : decode cX7_isValue 44 = .ok (.iconst 1, 1) := by decide +kernel
theorem dX7_isValue_45 : decode cX7_isValue 45 = .ok (.bipush 24, 2) := by decide +kernel
theorem dX7_isValue_47 : decode cX7_isValue 47 = .ok (.invokestatic 36, 3) := by decide +kernel
theorem dX7_isValue_50 : decode cX7_isValue 50 = .ok (.ireturn, 1) := by decide +kernel
theorem dX7_set_0 : decode cX7_set 0 = .ok (.aload_n 0, 1) := by decide +kernel
theorem dX7_set_1 : decode cX7_set 1 = .ok (.iload_n 1, 1) := by decide +kernel
theorem dX7_set_2 : decode cX7_set 2 = .ok (.iconst 0, 1) := by decide +kernel
theorem dX7_set_3 : decode cX7_set 3 = .ok (.iconst 3, 1) := by decide +kernel
theorem dX7_set_4 : decode cX7_set 4 = .ok (.invokestatic 36, 3) := by decide +kernel
theorem dX7_set_7 : decode cX7_set 7 = .ok (.ifCond .ne 7, 3) := by decide +kernel
theorem dX7_set_10 : decode cX7_set 10 = .ok (.iconst 1, 1) := by decide +kernel
theorem dX7_set_11 : decode cX7_set 11 = .ok (.goto 16, 3) := by decide +kernel
theorem dX7_set_14 : decode cX7_set 14 = .ok (.iload_n 1, 1) := by decide +kernel
theorem dX7_set_15 : decode cX7_set 15 = .ok (.iload_n 2, 1) := by decide +kernel
theorem dX7_set_16 : decode cX7_set 16 = .ok (.invokestatic 97, 3) := by decide +kernel
theorem dX7_set_19 : decode cX7_set 19 = .ok (.ifCond .eq 7, 3) := by decide +kernel
theorem dX7_set_22 : decode cX7_set 22 = .ok (.iconst 0, 1) := by decide +kernel
theorem dX7_set_23 : decode cX7_set 23 = .ok (.goto 4, 3) := by decide +kernel
theorem dX7_set_26 : decode cX7_set 26 = .ok (.iconst 2, 1) := by decide +kernel
theorem dX7_set_27 : decode cX7_set 27 = .ok (.putfield 25, 3) := by decide +kernel
theorem dX7_set_30 : decode cX7_set 30 = .ok (.aload_n 0, 1) := by decide +kernel
theorem dX7_set_31 : decode cX7_set 31 = .ok (.getfield 25, 3) := by decide +kernel
theorem dX7_set_34 : decode cX7_set 34 = .ok (.ifCond .le 5, 3) := by decide +kernel
theorem dX7_set_37 : decode cX7_set 37 = .ok (.iconst 0, 1) := by decide +kernel
theorem dX7_set_38 : decode cX7_set 38 = .ok (.ireturn, 1) := by decide +kernel
theorem dX7_set_39 : decode cX7_set 39 = .ok (.aload_n 0, 1) := by decide +kernel
theorem dX7_set_40 : decode cX7_set 40 = .ok (.invokevirtual 88, 3) := by decide +kernel
theorem dX7_set_43 : decode cX7_set 43 = .ok (.aload_n 0, 1) := by decide +kernel
theorem dX7_set_44 : decode cX7_set 44 = .ok (.getfield 7, 3) := by decide +kernel
theorem dX7_set_47 : decode cX7_set 47 = .ok (.iconst 5, 1) := by decide +kernel
theorem dX7_set_48 : decode cX7_set 48 = .ok (.iload_n 1, 1) := by decide +kernel
theorem dX7_set_49 : decode cX7_set 49 = .ok (.iadd, 1) := by decide +kernel
theorem dX7_set_50 : decode cX7_set 50 = .ok (.iaload, 1) := by decide +kernel
theorem dX7_set_51 : decode cX7_set 51 = .ok (.istore_n 3, 1) := by decide +kernel
theorem dX7_set_52 : decode cX7_set 52 = .ok (.aload_n 0, 1) := by decide +kernel
theorem dX7_set_53 : decode cX7_set 53 = .ok (.getfield 7, 3) := by decide +kernel
theorem dX7_set_56 : decode cX7_set 56 = .ok (.iconst 5, 1) := by decide +kernel
theorem dX7_set_57 : decode cX7_set 57 = .ok (.iload_n 1, 1) := by decide +kernel
theorem dX7_set_58 : decode cX7_set 58 = .ok (.iadd, 1) := by decide +kernel
theorem dX7_set_59 : decode cX7_set 59 = .ok (.iload_n 2, 1) := by decide +kernel
theorem dX7_set_60 : decode cX7_set 60 = .ok (.iastore, 1) := by decide +kernel
theorem dX7_set_61 : decode cX7_set 61 = .ok (.iload_n 3, 1) := by decide +kernel
theorem dX7_set_62 : decode cX7_set 62 = .ok (.ireturn, 1) := by decide +kernel
theorem dX7_takes_0 : decode cX7_takes 0 = .ok (.aload_n 0, 1) := by decide +kernel
theorem dX7_takes_1 : decode cX7_takes 1 = .ok (.iload_n 1, 1) := by decide +kernel
theorem dX7_takes_2 : decode cX7_takes 2 = .ok (.invokestatic 100, 3) := by decide +kernel
theorem dX7_takes_5 : decode cX7_takes 5 = .ok (.ifCond .ne 7, 3) := by decide +kernel
theorem dX7_takes_8 : decode cX7_takes 8 = .ok (.iconst 1, 1) := by decide +kernel
theorem dX7_takes_9 : decode cX7_takes 9 = .ok (.goto 19, 3) := by decide +kernel
theorem dX7_takes_12 : decode cX7_takes 12 = .ok (.iload_n 2, 1) := by decide +kernel
theorem dX7_takes_13 : decode cX7_takes 13 = .ok (.iconst 0, 1) := by decide +kernel
theorem dX7_takes_14 : decode cX7_takes 14 = .ok (.sipush 255, 3) := by decide +kernel
theorem dX7_takes_17 : decode cX7_takes 17 = .ok (.invokestatic 36, 3) := by decide +kernel
theorem dX7_takes_20 : decode cX7_takes 20 = .ok (.ifCond .eq 7, 3) := by decide +kernel
theorem dX7_takes_23 : decode cX7_takes 23 = .ok (.iconst 0, 1) := by decide +kernel
theorem dX7_takes_24 : decode cX7_takes 24 = .ok (.goto 4, 3) := by decide +kernel
theorem dX7_takes_27 : decode cX7_takes 27 = .ok (.iconst 2, 1) := by decide +kernel
theorem dX7_takes_28 : decode cX7_takes 28 = .ok (.putfield 25, 3) := by decide +kernel
theorem dX7_takes_31 : decode cX7_takes 31 = .ok (.aload_n 0, 1) := by decide +kernel
theorem dX7_takes_32 : decode cX7_takes 32 = .ok (.getfield 25, 3) := by decide +kernel
theorem dX7_takes_35 : decode cX7_takes 35 = .ok (.ifCond .le 5, 3) := by decide +kernel
theorem dX7_takes_38 : decode cX7_takes 38 = .ok (.iconst 0, 1) := by decide +kernel
theorem dX7_takes_39 : decode cX7_takes 39 = .ok (.ireturn, 1) := by decide +kernel
theorem dX7_takes_40 : decode cX7_takes 40 = .ok (.aload_n 0, 1) := by decide +kernel
theorem dX7_takes_41 : decode cX7_takes 41 = .ok (.invokevirtual 88, 3) := by decide +kernel
theorem dX7_takes_44 : decode cX7_takes 44 = .ok (.aload_n 0, 1) := by decide +kernel
theorem dX7_takes_45 : decode cX7_takes 45 = .ok (.iload_n 1, 1) := by decide +kernel
theorem dX7_takes_46 : decode cX7_takes 46 = .ok (.iconst 0, 1) := by decide +kernel
theorem dX7_takes_47 : decode cX7_takes 47 = .ok (.invokevirtual 66, 3) := by decide +kernel
theorem dX7_takes_50 : decode cX7_takes 50 = .ok (.istore_n 3, 1) := by decide +kernel
theorem dX7_takes_51 : decode cX7_takes 51 = .ok (.aload_n 0, 1) := by decide +kernel
theorem dX7_takes_52 : decode cX7_takes 52 = .ok (.getfield 7, 3) := by decide +kernel
theorem dX7_takes_55 : decode cX7_takes 55 = .ok (.bipush 9, 2) := by decide +kernel
theorem dX7_takes_57 : decode cX7_takes 57 = .ok (.iconst 4, 1) := by decide +kernel
theorem dX7_takes_58 : decode cX7_takes 58 = .ok (.iload_n 1, 1) := by decide +kernel
theorem dX7_takes_59 : decode cX7_takes 59 = .ok (.imul, 1) := by decide +kernel
theorem dX7_takes_60 : decode cX7_takes 60 = .ok (.iadd, 1) := by decide +kernel
theorem dX7_takes_61 : decode cX7_takes 61 = .ok (.iconst 0, 1) := by decide +kernel
theorem dX7_takes_62 : decode cX7_takes 62 = .ok (.iadd, 1) := by decide +kernel
theorem dX7_takes_63 : decode cX7_takes 63 = .ok (.iload_n 2, 1) := by decide +kernel
theorem dX7_takes_64 : decode cX7_takes 64 = .ok (.iastore, 1) := by decide +kernel
theorem dX7_takes_65 : decode cX7_takes 65 = .ok (.iload_n 3, 1) := by decide +kernel
theorem dX7_takes_66 : decode cX7_takes 66 = .ok (.ireturn, 1) := by decide +kernel
theorem dX7_take_0 : decode cX7_take 0 = .ok (.aload_n 0, 1) := by decide +kernel
theorem dX7_take_1 : decode cX7_take 1 = .ok (.iload_n 1, 1) := by decide +kernel
theorem dX7_take_2 : decode cX7_take 2 = .ok (.invokestatic 100, 3) := by decide +kernel
theorem dX7_take_5 : decode cX7_take 5 = .ok (.ifCond .ne 7, 3) := by decide +kernel
theorem dX7_take_8 : decode cX7_take 8 = .ok (.iconst 1, 1) := by decide +kernel
theorem dX7_take_9 : decode cX7_take 9 = .ok (.goto 18, 3) := by decide +kernel
theorem dX7_take_12 : decode cX7_take 12 = .ok (.iload_n 2, 1) := by decide +kernel
theorem dX7_take_13 : decode cX7_take 13 = .ok (.iconst 1, 1) := by decide +kernel
theorem dX7_take_14 : decode cX7_take 14 = .ok (.bipush 24, 2) := by decide +kernel
theorem dX7_take_16 : decode cX7_take 16 = .ok (.invokestatic 36, 3) := by decide +kernel
theorem dX7_take_19 : decode cX7_take 19 = .ok (.ifCond .eq 7, 3) := by decide +kernel
theorem dX7_take_22 : decode cX7_take 22 = .ok (.iconst 0, 1) := by decide +kernel
theorem dX7_take_23 : decode cX7_take 23 = .ok (.goto 4, 3) := by decide +kernel
theorem dX7_take_26 : decode cX7_take 26 = .ok (.iconst 2, 1) := by decide +kernel
theorem dX7_take_27 : decode cX7_take 27 = .ok (.putfield 25, 3) := by decide +kernel
theorem dX7_take_30 : decode cX7_take 30 = .ok (.aload_n 0, 1) := by decide +kernel
theorem dX7_take_31 : decode cX7_take 31 = .ok (.getfield 25, 3) := by decide +kernel
theorem dX7_take_34 : decode cX7_take 34 = .ok (.ifCond .le 5, 3) := by decide +kernel
theorem dX7_take_37 : decode cX7_take 37 = .ok (.iconst 0, 1) := by decide +kernel
theorem dX7_take_38 : decode cX7_take 38 = .ok (.ireturn, 1) := by decide +kernel
theorem dX7_take_39 : decode cX7_take 39 = .ok (.aload_n 0, 1) := by decide +kernel
theorem dX7_take_40 : decode cX7_take 40 = .ok (.invokevirtual 88, 3) := by decide +kernel
theorem dX7_take_43 : decode cX7_take 43 = .ok (.aload_n 0, 1) := by decide +kernel
theorem dX7_take_44 : decode cX7_take 44 = .ok (.iload_n 1, 1) := by decide +kernel
theorem dX7_take_45 : decode cX7_take 45 = .ok (.iload_n 2, 1) := by decide +kernel
theorem dX7_take_46 : decode cX7_take 46 = .ok (.invokevirtual 103, 3) := by decide +kernel
theorem dX7_take_49 : decode cX7_take 49 = .ok (.pop, 1) := by decide +kernel
theorem dX7_take_50 : decode cX7_take 50 = .ok (.aload_n 0, 1) := by decide +kernel
theorem dX7_take_51 : decode cX7_take 51 = .ok (.getfield 72, 3) := by decide +kernel
theorem dX7_take_54 : decode cX7_take 54 = .ok (.ireturn, 1) := by decide +kernel
theorem dX7_whyNotHeld_0 : decode cX7_whyNotHeld 0 = .ok (.iload_n 1, 1) := by decide +kernel
theorem dX7_whyNotHeld_1 : decode cX7_whyNotHeld 1 = .ok (.invokestatic 100, 3) := by decide +kernel
theorem dX7_whyNotHeld_4 : decode cX7_whyNotHeld 4 = .ok (.ifCond .eq 11, 3) := by decide +kernel
theorem dX7_whyNotHeld_7 : decode cX7_whyNotHeld 7 = .ok (.aload_n 0, 1) := by decide +kernel
theorem dX7_whyNotHeld_8 : decode cX7_whyNotHeld 8 = .ok (.iload_n 2, 1) := by decide +kernel
theorem dX7_whyNotHeld_9 : decode cX7_whyNotHeld 9 = .ok (.invokevirtual 94, 3) := by decide +kernel
theorem dX7_whyNotHeld_12 : decode cX7_whyNotHeld 12 = .ok (.ifCond .ne 7, 3) := by decide +kernel
theorem dX7_whyNotHeld_15 : decode cX7_whyNotHeld 15 = .ok (.iconst 1, 1) := by decide +kernel
theorem dX7_whyNotHeld_16 : decode cX7_whyNotHeld 16 = .ok (.goto 17, 3) := by decide +kernel
theorem dX7_whyNotHeld_19 : decode cX7_whyNotHeld 19 = .ok (.aload_n 0, 1) := by decide +kernel
theorem dX7_whyNotHeld_20 : decode cX7_whyNotHeld 20 = .ok (.iload_n 2, 1) := by decide +kernel
theorem dX7_whyNotHeld_21 : decode cX7_whyNotHeld 21 = .ok (.iload_n 1, 1) := by decide +kernel
theorem dX7_whyNotHeld_22 : decode cX7_whyNotHeld 22 = .ok (.invokevirtual 44, 3) := by decide +kernel
theorem dX7_whyNotHeld_25 : decode cX7_whyNotHeld 25 = .ok (.ifCond .eq 7, 3) := by decide +kernel
theorem dX7_whyNotHeld_28 : decode cX7_whyNotHeld 28 = .ok (.iconst 0, 1) := by decide +kernel
theorem dX7_whyNotHeld_29 : decode cX7_whyNotHeld 29 = .ok (.goto 4, 3) := by decide +kernel
theorem dX7_whyNotHeld_32 : decode cX7_whyNotHeld 32 = .ok (.iconst 2, 1) := by decide +kernel
theorem dX7_whyNotHeld_33 : decode cX7_whyNotHeld 33 = .ok (.ireturn, 1) := by decide +kernel
theorem dX7_done_0 : decode cX7_done 0 = .ok (.aload_n 0, 1) := by decide +kernel
theorem dX7_done_1 : decode cX7_done 1 = .ok (.aload_n 0, 1) := by decide +kernel
theorem dX7_done_2 : decode cX7_done 2 = .ok (.iload_n 1, 1) := by decide +kernel
theorem dX7_done_3 : decode cX7_done 3 = .ok (.iload_n 2, 1) := by decide +kernel
theorem dX7_done_4 : decode cX7_done 4 = .ok (.invokevirtual 106, 3) := by decide +kernel
theorem dX7_done_7 : decode cX7_done 7 = .ok (.putfield 25, 3) := by decide +kernel
theorem dX7_done_10 : decode cX7_done 10 = .ok (.aload_n 0, 1) := by decide +kernel
theorem dX7_done_11 : decode cX7_done 11 = .ok (.getfield 25, 3) := by decide +kernel
theorem dX7_done_14 : decode cX7_done 14 = .ok (.ifCond .le 5, 3) := by decide +kernel
theorem dX7_done_17 : decode cX7_done 17 = .ok (.iconst 0, 1) := by decide +kernel
theorem dX7_done_18 : decode cX7_done 18 = .ok (.ireturn, 1) := by decide +kernel
theorem dX7_done_19 : decode cX7_done 19 = .ok (.aload_n 0, 1) := by decide +kernel
theorem dX7_done_20 : decode cX7_done 20 = .ok (.invokevirtual 88, 3) := by decide +kernel
theorem dX7_done_23 : decode cX7_done 23 = .ok (.aload_n 0, 1) := by decide +kernel
theorem dX7_done_24 : decode cX7_done 24 = .ok (.iload_n 2, 1) := by decide +kernel
theorem dX7_done_25 : decode cX7_done 25 = .ok (.iconst 3, 1) := by decide +kernel
theorem dX7_done_26 : decode cX7_done 26 = .ok (.iconst 2, 1) := by decide +kernel
theorem dX7_done_27 : decode cX7_done 27 = .ok (.invokevirtual 59, 3) := by decide +kernel
theorem dX7_done_30 : decode cX7_done 30 = .ok (.aload_n 0, 1) := by decide +kernel
theorem dX7_done_31 : decode cX7_done 31 = .ok (.getfield 7, 3) := by decide +kernel
theorem dX7_done_34 : decode cX7_done 34 = .ok (.iconst 2, 1) := by decide +kernel
theorem dX7_done_35 : decode cX7_done 35 = .ok (.dup2, 1) := by decide +kernel
theorem dX7_done_36 : decode cX7_done 36 = .ok (.iaload, 1) := by decide +kernel
theorem dX7_done_37 : decode cX7_done 37 = .ok (.iconst 1, 1) := by decide +kernel
theorem dX7_done_38 : decode cX7_done 38 = .ok (.iadd, 1) := by decide +kernel
theorem dX7_done_39 : decode cX7_done 39 = .ok (.iastore, 1) := by decide +kernel
theorem dX7_done_40 : decode cX7_done 40 = .ok (.aload_n 0, 1) := by decide +kernel
theorem dX7_done_41 : decode cX7_done 41 = .ok (.getfield 7, 3) := by decide +kernel
theorem dX7_done_44 : decode cX7_done 44 = .ok (.bipush 9, 2) := by decide +kernel
theorem dX7_done_46 : decode cX7_done 46 = .ok (.iconst 4, 1) := by decide +kernel
theorem dX7_done_47 : decode cX7_done 47 = .ok (.iload_n 1, 1) := by decide +kernel
theorem dX7_done_48 : decode cX7_done 48 = .ok (.imul, 1) := by decide +kernel
theorem dX7_done_49 : decode cX7_done 49 = .ok (.iadd, 1) := by decide +kernel
theorem dX7_done_50 : decode cX7_done 50 = .ok (.iconst 1, 1) := by decide +kernel
theorem dX7_done_51 : decode cX7_done 51 = .ok (.iadd, 1) := by decide +kernel
theorem dX7_done_52 : decode cX7_done 52 = .ok (.dup2, 1) := by decide +kernel
theorem dX7_done_53 : decode cX7_done 53 = .ok (.iaload, 1) := by decide +kernel
theorem dX7_done_54 : decode cX7_done 54 = .ok (.iconst 1, 1) := by decide +kernel
theorem dX7_done_55 : decode cX7_done 55 = .ok (.iadd, 1) := by decide +kernel
theorem dX7_done_56 : decode cX7_done 56 = .ok (.iastore, 1) := by decide +kernel
theorem dX7_done_57 : decode cX7_done 57 = .ok (.aload_n 0, 1) := by decide +kernel
theorem dX7_done_58 : decode cX7_done 58 = .ok (.iload_n 1, 1) := by decide +kernel
theorem dX7_done_59 : decode cX7_done 59 = .ok (.iconst 1, 1) := by decide +kernel
theorem dX7_done_60 : decode cX7_done 60 = .ok (.invokevirtual 66, 3) := by decide +kernel
theorem dX7_done_63 : decode cX7_done 63 = .ok (.ireturn, 1) := by decide +kernel
theorem dX7_giveBack_0 : decode cX7_giveBack 0 = .ok (.aload_n 0, 1) := by decide +kernel
theorem dX7_giveBack_1 : decode cX7_giveBack 1 = .ok (.aload_n 0, 1) := by decide +kernel
theorem dX7_giveBack_2 : decode cX7_giveBack 2 = .ok (.iload_n 1, 1) := by decide +kernel
theorem dX7_giveBack_3 : decode cX7_giveBack 3 = .ok (.iload_n 2, 1) := by decide +kernel
theorem dX7_giveBack_4 : decode cX7_giveBack 4 = .ok (.invokevirtual 106, 3) := by decide +kernel
theorem dX7_giveBack_7 : decode cX7_giveBack 7 = .ok (.putfield 25, 3) := by decide +kernel
theorem dX7_giveBack_10 : decode cX7_giveBack 10 = .ok (.aload_n 0, 1) := by decide +kernel
theorem dX7_giveBack_11 : decode cX7_giveBack 11 = .ok (.getfield 25, 3) := by decide +kernel
theorem dX7_giveBack_14 : decode cX7_giveBack 14 = .ok (.ifCond .le 5, 3) := by decide +kernel
theorem dX7_giveBack_17 : decode cX7_giveBack 17 = .ok (.iconst 0, 1) := by decide +kernel
theorem dX7_giveBack_18 : decode cX7_giveBack 18 = .ok (.ireturn, 1) := by decide +kernel
theorem dX7_giveBack_19 : decode cX7_giveBack 19 = .ok (.aload_n 0, 1) := by decide +kernel
theorem dX7_giveBack_20 : decode cX7_giveBack 20 = .ok (.invokevirtual 88, 3) := by decide +kernel
theorem dX7_giveBack_23 : decode cX7_giveBack 23 = .ok (.aload_n 0, 1) := by decide +kernel
theorem dX7_giveBack_24 : decode cX7_giveBack 24 = .ok (.iload_n 2, 1) := by decide +kernel
theorem dX7_giveBack_25 : decode cX7_giveBack 25 = .ok (.iconst 3, 1) := by decide +kernel
theorem dX7_giveBack_26 : decode cX7_giveBack 26 = .ok (.iconst 0, 1) := by decide +kernel
theorem dX7_giveBack_27 : decode cX7_giveBack 27 = .ok (.invokevirtual 59, 3) := by decide +kernel
theorem dX7_giveBack_30 : decode cX7_giveBack 30 = .ok (.aload_n 0, 1) := by decide +kernel
theorem dX7_giveBack_31 : decode cX7_giveBack 31 = .ok (.getfield 7, 3) := by decide +kernel
theorem dX7_giveBack_34 : decode cX7_giveBack 34 = .ok (.bipush 9, 2) := by decide +kernel
theorem dX7_giveBack_36 : decode cX7_giveBack 36 = .ok (.iconst 4, 1) := by decide +kernel
theorem dX7_giveBack_37 : decode cX7_giveBack 37 = .ok (.iload_n 1, 1) := by decide +kernel
theorem dX7_giveBack_38 : decode cX7_giveBack 38 = .ok (.imul, 1) := by decide +kernel
theorem dX7_giveBack_39 : decode cX7_giveBack 39 = .ok (.iadd, 1) := by decide +kernel
theorem dX7_giveBack_40 : decode cX7_giveBack 40 = .ok (.iconst 2, 1) := by decide +kernel
theorem dX7_giveBack_41 : decode cX7_giveBack 41 = .ok (.iadd, 1) := by decide +kernel
theorem dX7_giveBack_42 : decode cX7_giveBack 42 = .ok (.dup2, 1) := by decide +kernel
theorem dX7_giveBack_43 : decode cX7_giveBack 43 = .ok (.iaload, 1) := by decide +kernel
theorem dX7_giveBack_44 : decode cX7_giveBack 44 = .ok (.iconst 1, 1) := by decide +kernel
theorem dX7_giveBack_45 : decode cX7_giveBack 45 = .ok (.iadd, 1) := by decide +kernel
theorem dX7_giveBack_46 : decode cX7_giveBack 46 = .ok (.iastore, 1) := by decide +kernel
theorem dX7_giveBack_47 : decode cX7_giveBack 47 = .ok (.aload_n 0, 1) := by decide +kernel
theorem dX7_giveBack_48 : decode cX7_giveBack 48 = .ok (.iload_n 1, 1) := by decide +kernel
theorem dX7_giveBack_49 : decode cX7_giveBack 49 = .ok (.invokevirtual 69, 3) := by decide +kernel
theorem dX7_giveBack_52 : decode cX7_giveBack 52 = .ok (.ireturn, 1) := by decide +kernel
theorem dX7_renew_0 : decode cX7_renew 0 = .ok (.aload_n 0, 1) := by decide +kernel
theorem dX7_renew_1 : decode cX7_renew 1 = .ok (.iload_n 1, 1) := by decide +kernel
theorem dX7_renew_2 : decode cX7_renew 2 = .ok (.invokestatic 100, 3) := by decide +kernel
theorem dX7_renew_5 : decode cX7_renew 5 = .ok (.ifCond .eq 7, 3) := by decide +kernel
theorem dX7_renew_8 : decode cX7_renew 8 = .ok (.iconst 0, 1) := by decide +kernel
theorem dX7_renew_9 : decode cX7_renew 9 = .ok (.goto 4, 3) := by decide +kernel
theorem dX7_renew_12 : decode cX7_renew 12 = .ok (.iconst 1, 1) := by decide +kernel
theorem dX7_renew_13 : decode cX7_renew 13 = .ok (.putfield 25, 3) := by decide +kernel
theorem dX7_renew_16 : decode cX7_renew 16 = .ok (.aload_n 0, 1) := by decide +kernel
theorem dX7_renew_17 : decode cX7_renew 17 = .ok (.getfield 25, 3) := by decide +kernel
theorem dX7_renew_20 : decode cX7_renew 20 = .ok (.ifCond .le 5, 3) := by decide +kernel
theorem dX7_renew_23 : decode cX7_renew 23 = .ok (.iconst 0, 1) := by decide +kernel
theorem dX7_renew_24 : decode cX7_renew 24 = .ok (.ireturn, 1) := by decide +kernel
theorem dX7_renew_25 : decode cX7_renew 25 = .ok (.aload_n 0, 1) := by decide +kernel
theorem dX7_renew_26 : decode cX7_renew 26 = .ok (.invokevirtual 88, 3) := by decide +kernel
theorem dX7_renew_29 : decode cX7_renew 29 = .ok (.iconst 0, 1) := by decide +kernel
theorem dX7_renew_30 : decode cX7_renew 30 = .ok (.istore_n 2, 1) := by decide +kernel
theorem dX7_renew_31 : decode cX7_renew 31 = .ok (.iload_n 2, 1) := by decide +kernel
theorem dX7_renew_32 : decode cX7_renew 32 = .ok (.aload_n 0, 1) := by decide +kernel
theorem dX7_renew_33 : decode cX7_renew 33 = .ok (.getfield 7, 3) := by decide +kernel
theorem dX7_renew_36 : decode cX7_renew 36 = .ok (.iconst 0, 1) := by decide +kernel
theorem dX7_renew_37 : decode cX7_renew 37 = .ok (.iaload, 1) := by decide +kernel
theorem dX7_renew_38 : decode cX7_renew 38 = .ok (.if_icmp .ge 37, 3) := by decide +kernel
theorem dX7_renew_41 : decode cX7_renew 41 = .ok (.aload_n 0, 1) := by decide +kernel
theorem dX7_renew_42 : decode cX7_renew 42 = .ok (.iload_n 2, 1) := by decide +kernel
theorem dX7_renew_43 : decode cX7_renew 43 = .ok (.iload_n 1, 1) := by decide +kernel
theorem dX7_renew_44 : decode cX7_renew 44 = .ok (.invokevirtual 44, 3) := by decide +kernel
theorem dX7_renew_47 : decode cX7_renew 47 = .ok (.ifCond .eq 22, 3) := by decide +kernel
theorem dX7_renew_50 : decode cX7_renew 50 = .ok (.aload_n 0, 1) := by decide +kernel
theorem dX7_renew_51 : decode cX7_renew 51 = .ok (.iload_n 2, 1) := by decide +kernel
theorem dX7_renew_52 : decode cX7_renew 52 = .ok (.iconst 5, 1) := by decide +kernel
theorem dX7_renew_53 : decode cX7_renew 53 = .ok (.aload_n 0, 1) := by decide +kernel
theorem dX7_renew_54 : decode cX7_renew 54 = .ok (.getfield 7, 3) := by decide +kernel
theorem dX7_renew_57 : decode cX7_renew 57 = .ok (.iconst 3, 1) := by decide +kernel
theorem dX7_renew_58 : decode cX7_renew 58 = .ok (.iaload, 1) := by decide +kernel
theorem dX7_renew_59 : decode cX7_renew 59 = .ok (.aload_n 0, 1) := by decide +kernel
theorem dX7_renew_60 : decode cX7_renew 60 = .ok (.getfield 7, 3) := by decide +kernel
theorem dX7_renew_63 : decode cX7_renew 63 = .ok (.iconst 5, 1) := by decide +kernel
theorem dX7_renew_64 : decode cX7_renew 64 = .ok (.iaload, 1) := by decide +kernel
theorem dX7_renew_65 : decode cX7_renew 65 = .ok (.iadd, 1) := by decide +kernel
theorem dX7_renew_66 : decode cX7_renew 66 = .ok (.invokevirtual 59, 3) := by decide +kernel
theorem dX7_renew_69 : decode cX7_renew 69 = .ok (.iinc 2 1, 3) := by decide +kernel
theorem dX7_renew_72 : decode cX7_renew 72 = .ok (.goto (-41), 3) := by decide +kernel
theorem dX7_renew_75 : decode cX7_renew 75 = .ok (.aload_n 0, 1) := by decide +kernel
theorem dX7_renew_76 : decode cX7_renew 76 = .ok (.iload_n 1, 1) := by decide +kernel
theorem dX7_renew_77 : decode cX7_renew 77 = .ok (.invokevirtual 69, 3) := by decide +kernel
theorem dX7_renew_80 : decode cX7_renew 80 = .ok (.ireturn, 1) := by decide +kernel
theorem dX7_pass_0 : decode cX7_pass 0 = .ok (.aload_n 0, 1) := by decide +kernel
theorem dX7_pass_1 : decode cX7_pass 1 = .ok (.iload_n 1, 1) := by decide +kernel
theorem dX7_pass_2 : decode cX7_pass 2 = .ok (.iconst 1, 1) := by decide +kernel
theorem dX7_pass_3 : decode cX7_pass 3 = .ok (.bipush 99, 2) := by decide +kernel
theorem dX7_pass_5 : decode cX7_pass 5 = .ok (.invokestatic 36, 3) := by decide +kernel
theorem dX7_pass_8 : decode cX7_pass 8 = .ok (.ifCond .ne 7, 3) := by decide +kernel
theorem dX7_pass_11 : decode cX7_pass 11 = .ok (.iconst 1, 1) := by decide +kernel
theorem dX7_pass_12 : decode cX7_pass 12 = .ok (.goto 22, 3) := by decide +kernel
theorem dX7_pass_15 : decode cX7_pass 15 = .ok (.aload_n 0, 1) := by decide +kernel
theorem dX7_pass_16 : decode cX7_pass 16 = .ok (.getfield 7, 3) := by decide +kernel
theorem dX7_pass_19 : decode cX7_pass 19 = .ok (.iconst 3, 1) := by decide +kernel
theorem dX7_pass_20 : decode cX7_pass 20 = .ok (.iaload, 1) := by decide +kernel
theorem dX7_pass_21 : decode cX7_pass 21 = .ok (.iload_n 1, 1) := by decide +kernel
theorem dX7_pass_22 : decode cX7_pass 22 = .ok (.iadd, 1) := by decide +kernel
theorem dX7_pass_23 : decode cX7_pass 23 = .ok (.sipush 9999, 3) := by decide +kernel
theorem dX7_pass_26 : decode cX7_pass 26 = .ok (.if_icmp .le 7, 3) := by decide +kernel
theorem dX7_pass_29 : decode cX7_pass 29 = .ok (.iconst 2, 1) := by decide +kernel
theorem dX7_pass_30 : decode cX7_pass 30 = .ok (.goto 4, 3) := by decide +kernel
theorem dX7_pass_33 : decode cX7_pass 33 = .ok (.iconst 0, 1) := by decide +kernel
theorem dX7_pass_34 : decode cX7_pass 34 = .ok (.putfield 25, 3) := by decide +kernel
theorem dX7_pass_37 : decode cX7_pass 37 = .ok (.aload_n 0, 1) := by decide +kernel
theorem dX7_pass_38 : decode cX7_pass 38 = .ok (.getfield 25, 3) := by decide +kernel
theorem dX7_pass_41 : decode cX7_pass 41 = .ok (.ifCond .le 5, 3) := by decide +kernel
theorem dX7_pass_44 : decode cX7_pass 44 = .ok (.iconst 0, 1) := by decide +kernel
theorem dX7_pass_45 : decode cX7_pass 45 = .ok (.ireturn, 1) := by decide +kernel
theorem dX7_pass_46 : decode cX7_pass 46 = .ok (.aload_n 0, 1) := by decide +kernel
theorem dX7_pass_47 : decode cX7_pass 47 = .ok (.invokevirtual 88, 3) := by decide +kernel
theorem dX7_pass_50 : decode cX7_pass 50 = .ok (.aload_n 0, 1) := by decide +kernel
theorem dX7_pass_51 : decode cX7_pass 51 = .ok (.iload_n 1, 1) := by decide +kernel
theorem dX7_pass_52 : decode cX7_pass 52 = .ok (.invokevirtual 109, 3) := by decide +kernel
theorem dX7_pass_55 : decode cX7_pass 55 = .ok (.ireturn, 1) := by decide +kernel
theorem dX7_append_0 : decode cX7_append 0 = .ok (.aload_n 0, 1) := by decide +kernel
theorem dX7_append_1 : decode cX7_append 1 = .ok (.iload_n 1, 1) := by decide +kernel
theorem dX7_append_2 : decode cX7_append 2 = .ok (.bipush 33, 2) := by decide +kernel
theorem dX7_append_4 : decode cX7_append 4 = .ok (.bipush 126, 2) := by decide +kernel
theorem dX7_append_6 : decode cX7_append 6 = .ok (.invokestatic 36, 3) := by decide +kernel
theorem dX7_append_9 : decode cX7_append 9 = .ok (.ifCond .ne 7, 3) := by decide +kernel
theorem dX7_append_12 : decode cX7_append 12 = .ok (.iconst 1, 1) := by decide +kernel
theorem dX7_append_13 : decode cX7_append 13 = .ok (.goto 17, 3) := by decide +kernel
theorem dX7_append_16 : decode cX7_append 16 = .ok (.aload_n 0, 1) := by decide +kernel
theorem dX7_append_17 : decode cX7_append 17 = .ok (.getfield 112, 3) := by decide +kernel
theorem dX7_append_20 : decode cX7_append 20 = .ok (.bipush 60, 2) := by decide +kernel
theorem dX7_append_22 : decode cX7_append 22 = .ok (.if_icmp .ne 7, 3) := by decide +kernel
theorem dX7_append_25 : decode cX7_append 25 = .ok (.iconst 2, 1) := by decide +kernel
theorem dX7_append_26 : decode cX7_append 26 = .ok (.goto 4, 3) := by decide +kernel
theorem dX7_append_29 : decode cX7_append 29 = .ok (.iconst 0, 1) := by decide +kernel
theorem dX7_append_30 : decode cX7_append 30 = .ok (.putfield 25, 3) := by decide +kernel
theorem dX7_append_33 : decode cX7_append 33 = .ok (.aload_n 0, 1) := by decide +kernel
theorem dX7_append_34 : decode cX7_append 34 = .ok (.getfield 25, 3) := by decide +kernel
theorem dX7_append_37 : decode cX7_append 37 = .ok (.ifCond .le 5, 3) := by decide +kernel
theorem dX7_append_40 : decode cX7_append 40 = .ok (.iconst 0, 1) := by decide +kernel
theorem dX7_append_41 : decode cX7_append 41 = .ok (.ireturn, 1) := by decide +kernel
theorem dX7_append_42 : decode cX7_append 42 = .ok (.aload_n 0, 1) := by decide +kernel
theorem dX7_append_43 : decode cX7_append 43 = .ok (.getfield 19, 3) := by decide +kernel
theorem dX7_append_46 : decode cX7_append 46 = .ok (.aload_n 0, 1) := by decide +kernel
theorem dX7_append_47 : decode cX7_append 47 = .ok (.getfield 112, 3) := by decide +kernel
theorem dX7_append_50 : decode cX7_append 50 = .ok (.iload_n 1, 1) := by decide +kernel
theorem dX7_append_51 : decode cX7_append 51 = .ok (.iastore, 1) := by decide +kernel
theorem dX7_append_52 : decode cX7_append 52 = .ok (.aload_n 0, 1) := by decide +kernel
theorem dX7_append_53 : decode cX7_append 53 = .ok (.dup, 1) := by decide +kernel
theorem dX7_append_54 : decode cX7_append 54 = .ok (.getfield 112, 3) := by decide +kernel
theorem dX7_append_57 : decode cX7_append 57 = .ok (.iconst 1, 1) := by decide +kernel
theorem dX7_append_58 : decode cX7_append 58 = .ok (.iadd, 1) := by decide +kernel
theorem dX7_append_59 : decode cX7_append 59 = .ok (.putfield 112, 3) := by decide +kernel
theorem dX7_append_62 : decode cX7_append 62 = .ok (.aload_n 0, 1) := by decide +kernel
theorem dX7_append_63 : decode cX7_append 63 = .ok (.getfield 112, 3) := by decide +kernel
theorem dX7_append_66 : decode cX7_append 66 = .ok (.ireturn, 1) := by decide +kernel
theorem dX7_clearBuffer_0 : decode cX7_clearBuffer 0 = .ok (.aload_n 0, 1) := by decide +kernel
theorem dX7_clearBuffer_1 : decode cX7_clearBuffer 1 = .ok (.iconst 0, 1) := by decide +kernel
theorem dX7_clearBuffer_2 : decode cX7_clearBuffer 2 = .ok (.putfield 25, 3) := by decide +kernel
theorem dX7_clearBuffer_5 : decode cX7_clearBuffer 5 = .ok (.aload_n 0, 1) := by decide +kernel
theorem dX7_clearBuffer_6 : decode cX7_clearBuffer 6 = .ok (.getfield 112, 3) := by decide +kernel
theorem dX7_clearBuffer_9 : decode cX7_clearBuffer 9 = .ok (.istore_n 1, 1) := by decide +kernel
theorem dX7_clearBuffer_10 : decode cX7_clearBuffer 10 = .ok (.aload_n 0, 1) := by decide +kernel
theorem dX7_clearBuffer_11 : decode cX7_clearBuffer 11 = .ok (.iconst 0, 1) := by decide +kernel
theorem dX7_clearBuffer_12 : decode cX7_clearBuffer 12 = .ok (.putfield 112, 3) := by decide +kernel
theorem dX7_clearBuffer_15 : decode cX7_clearBuffer 15 = .ok (.iload_n 1, 1) := by decide +kernel
theorem dX7_clearBuffer_16 : decode cX7_clearBuffer 16 = .ok (.ireturn, 1) := by decide +kernel
theorem dX7_behind_0 : decode cX7_behind 0 = .ok (.iload_n 0, 1) := by decide +kernel
theorem dX7_behind_1 : decode cX7_behind 1 = .ok (.tableswitch 157 0 5 #[39, 51, 68, 100, 117, 139], 39) := by decide +kernel
theorem dX7_behind_40 : decode cX7_behind 40 = .ok (.iload_n 1, 1) := by decide +kernel
theorem dX7_behind_41 : decode cX7_behind 41 = .ok (.bipush 107, 2) := by decide +kernel
theorem dX7_behind_43 : decode cX7_behind 43 = .ok (.if_icmp .ne 7, 3) := by decide +kernel
theorem dX7_behind_46 : decode cX7_behind 46 = .ok (.iconst 1, 1) := by decide +kernel
theorem dX7_behind_47 : decode cX7_behind 47 = .ok (.goto 4, 3) := by decide +kernel
theorem dX7_behind_50 : decode cX7_behind 50 = .ok (.iconst (-1), 1) := by decide +kernel
theorem dX7_behind_51 : decode cX7_behind 51 = .ok (.ireturn, 1) := by decide +kernel
theorem dX7_behind_52 : decode cX7_behind 52 = .ok (.iload_n 1, 1) := by decide +kernel
theorem dX7_behind_53 : decode cX7_behind 53 = .ok (.bipush 48, 2) := by decide +kernel
theorem dX7_behind_55 : decode cX7_behind 55 = .ok (.bipush 55, 2) := by decide +kernel
theorem dX7_behind_57 : decode cX7_behind 57 = .ok (.invokestatic 36, 3) := by decide +kernel
theorem dX7_behind_60 : decode cX7_behind 60 = .ok (.ifCond .eq 7, 3) := by decide +kernel
theorem dX7_behind_63 : decode cX7_behind 63 = .ok (.iconst 2, 1) := by decide +kernel
theorem dX7_behind_64 : decode cX7_behind 64 = .ok (.goto 4, 3) := by decide +kernel
theorem dX7_behind_67 : decode cX7_behind 67 = .ok (.iconst (-1), 1) := by decide +kernel
theorem dX7_behind_68 : decode cX7_behind 68 = .ok (.ireturn, 1) := by decide +kernel
theorem dX7_behind_69 : decode cX7_behind 69 = .ok (.iload_n 1, 1) := by decide +kernel
theorem dX7_behind_70 : decode cX7_behind 70 = .ok (.bipush 117, 2) := by decide +kernel
theorem dX7_behind_72 : decode cX7_behind 72 = .ok (.if_icmp .ne 7, 3) := by decide +kernel
theorem dX7_behind_75 : decode cX7_behind 75 = .ok (.iconst 3, 1) := by decide +kernel
theorem dX7_behind_76 : decode cX7_behind 76 = .ok (.goto 24, 3) := by decide +kernel
theorem dX7_behind_79 : decode cX7_behind 79 = .ok (.iload_n 1, 1) := by decide +kernel
theorem dX7_behind_80 : decode cX7_behind 80 = .ok (.bipush 42, 2) := by decide +kernel
theorem dX7_behind_82 : decode cX7_behind 82 = .ok (.if_icmp .ne 7, 3) := by decide +kernel
theorem dX7_behind_85 : decode cX7_behind 85 = .ok (.iconst 5, 1) := by decide +kernel
theorem dX7_behind_86 : decode cX7_behind 86 = .ok (.goto 14, 3) := by decide +kernel
theorem dX7_behind_89 : decode cX7_behind 89 = .ok (.iload_n 1, 1) := by decide +kernel
theorem dX7_behind_90 : decode cX7_behind 90 = .ok (.bipush 59, 2) := by decide +kernel
theorem dX7_behind_92 : decode cX7_behind 92 = .ok (.if_icmp .ne 7, 3) := by decide +kernel
theorem dX7_behind_95 : decode cX7_behind 95 = .ok (.iconst 0, 1) := by decide +kernel
theorem dX7_behind_96 : decode cX7_behind 96 = .ok (.goto 4, 3) := by decide +kernel
theorem dX7_behind_99 : decode cX7_behind 99 = .ok (.iconst (-1), 1) := by decide +kernel
theorem dX7_behind_100 : decode cX7_behind 100 = .ok (.ireturn, 1) := by decide +kernel
theorem dX7_behind_101 : decode cX7_behind 101 = .ok (.iload_n 1, 1) := by decide +kernel
theorem dX7_behind_102 : decode cX7_behind 102 = .ok (.bipush 48, 2) := by decide +kernel
theorem dX7_behind_104 : decode cX7_behind 104 = .ok (.bipush 57, 2) := by decide +kernel
theorem dX7_behind_106 : decode cX7_behind 106 = .ok (.invokestatic 36, 3) := by decide +kernel
theorem dX7_behind_109 : decode cX7_behind 109 = .ok (.ifCond .eq 7, 3) := by decide +kernel
theorem dX7_behind_112 : decode cX7_behind 112 = .ok (.iconst 4, 1) := by decide +kernel
theorem dX7_behind_113 : decode cX7_behind 113 = .ok (.goto 4, 3) := by decide +kernel
theorem dX7_behind_116 : decode cX7_behind 116 = .ok (.iconst (-1), 1) := by decide +kernel
theorem dX7_behind_117 : decode cX7_behind 117 = .ok (.ireturn, 1) := by decide +kernel
theorem dX7_behind_118 : decode cX7_behind 118 = .ok (.iload_n 1, 1) := by decide +kernel
theorem dX7_behind_119 : decode cX7_behind 119 = .ok (.bipush 42, 2) := by decide +kernel
theorem dX7_behind_121 : decode cX7_behind 121 = .ok (.if_icmp .ne 7, 3) := by decide +kernel
theorem dX7_behind_124 : decode cX7_behind 124 = .ok (.iconst 5, 1) := by decide +kernel
theorem dX7_behind_125 : decode cX7_behind 125 = .ok (.goto 14, 3) := by decide +kernel
theorem dX7_behind_128 : decode cX7_behind 128 = .ok (.iload_n 1, 1) := by decide +kernel
theorem dX7_behind_129 : decode cX7_behind 129 = .ok (.bipush 59, 2) := by decide +kernel
theorem dX7_behind_131 : decode cX7_behind 131 = .ok (.if_icmp .ne 7, 3) := by decide +kernel
theorem dX7_behind_134 : decode cX7_behind 134 = .ok (.iconst 0, 1) := by decide +kernel
theorem dX7_behind_135 : decode cX7_behind 135 = .ok (.goto 4, 3) := by decide +kernel
theorem dX7_behind_138 : decode cX7_behind 138 = .ok (.iconst (-1), 1) := by decide +kernel
theorem dX7_behind_139 : decode cX7_behind 139 = .ok (.ireturn, 1) := by decide +kernel
theorem dX7_behind_140 : decode cX7_behind 140 = .ok (.iload_n 1, 1) := by decide +kernel
theorem dX7_behind_141 : decode cX7_behind 141 = .ok (.bipush 50, 2) := by decide +kernel
theorem dX7_behind_143 : decode cX7_behind 143 = .ok (.bipush 57, 2) := by decide +kernel
theorem dX7_behind_145 : decode cX7_behind 145 = .ok (.invokestatic 36, 3) := by decide +kernel
theorem dX7_behind_148 : decode cX7_behind 148 = .ok (.ifCond .eq 8, 3) := by decide +kernel
theorem dX7_behind_151 : decode cX7_behind 151 = .ok (.bipush 6, 2) := by decide +kernel
theorem dX7_behind_153 : decode cX7_behind 153 = .ok (.goto 4, 3) := by decide +kernel
theorem dX7_behind_156 : decode cX7_behind 156 = .ok (.iconst (-1), 1) := by decide +kernel
theorem dX7_behind_157 : decode cX7_behind 157 = .ok (.ireturn, 1) := by decide +kernel
theorem dX7_behind_158 : decode cX7_behind 158 = .ok (.iload_n 1, 1) := by decide +kernel
theorem dX7_behind_159 : decode cX7_behind 159 = .ok (.bipush 59, 2) := by decide +kernel
theorem dX7_behind_161 : decode cX7_behind 161 = .ok (.if_icmp .ne 7, 3) := by decide +kernel
theorem dX7_behind_164 : decode cX7_behind 164 = .ok (.iconst 0, 1) := by decide +kernel
theorem dX7_behind_165 : decode cX7_behind 165 = .ok (.goto 4, 3) := by decide +kernel
theorem dX7_behind_168 : decode cX7_behind 168 = .ok (.iconst (-1), 1) := by decide +kernel
theorem dX7_behind_169 : decode cX7_behind 169 = .ok (.ireturn, 1) := by decide +kernel
theorem dX7_findError_0 : decode cX7_findError 0 = .ok (.iconst 0, 1) := by decide +kernel
theorem dX7_findError_1 : decode cX7_findError 1 = .ok (.istore_n 1, 1) := by decide +kernel
theorem dX7_findError_2 : decode cX7_findError 2 = .ok (.iconst 0, 1) := by decide +kernel
theorem dX7_findError_3 : decode cX7_findError 3 = .ok (.istore_n 2, 1) := by decide +kernel
theorem dX7_findError_4 : decode cX7_findError 4 = .ok (.iload_n 2, 1) := by decide +kernel
theorem dX7_findError_5 : decode cX7_findError 5 = .ok (.aload_n 0, 1) := by decide +kernel
theorem dX7_findError_6 : decode cX7_findError 6 = .ok (.getfield 112, 3) := by decide +kernel
theorem dX7_findError_9 : decode cX7_findError 9 = .ok (.if_icmp .ge 27, 3) := by decide +kernel
theorem dX7_findError_12 : decode cX7_findError 12 = .ok (.iload_n 1, 1) := by decide +kernel
theorem dX7_findError_13 : decode cX7_findError 13 = .ok (.aload_n 0, 1) := by decide +kernel
theorem dX7_findError_14 : decode cX7_findError 14 = .ok (.getfield 19, 3) := by decide +kernel
theorem dX7_findError_17 : decode cX7_findError 17 = .ok (.iload_n 2, 1) := by decide +kernel
theorem dX7_findError_18 : decode cX7_findError 18 = .ok (.iaload, 1) := by decide +kernel
theorem dX7_findError_19 : decode cX7_findError 19 = .ok (.invokestatic 115, 3) := by decide +kernel
theorem dX7_findError_22 : decode cX7_findError 22 = .ok (.istore_n 1, 1) := by decide +kernel
theorem dX7_findError_23 : decode cX7_findError 23 = .ok (.iload_n 1, 1) := by decide +kernel
theorem dX7_findError_24 : decode cX7_findError 24 = .ok (.iconst (-1), 1) := by decide +kernel
theorem dX7_findError_25 : decode cX7_findError 25 = .ok (.if_icmp .ne 5, 3) := by decide +kernel
theorem dX7_findError_28 : decode cX7_findError 28 = .ok (.iload_n 2, 1) := by decide +kernel
theorem dX7_findError_29 : decode cX7_findError 29 = .ok (.ireturn, 1) := by decide +kernel
theorem dX7_findError_30 : decode cX7_findError 30 = .ok (.iinc 2 1, 3) := by decide +kernel
theorem dX7_findError_33 : decode cX7_findError 33 = .ok (.goto (-29), 3) := by decide +kernel
theorem dX7_findError_36 : decode cX7_findError 36 = .ok (.aload_n 0, 1) := by decide +kernel
theorem dX7_findError_37 : decode cX7_findError 37 = .ok (.getfield 112, 3) := by decide +kernel
theorem dX7_findError_40 : decode cX7_findError 40 = .ok (.ireturn, 1) := by decide +kernel
theorem dX7_isComplete_0 : decode cX7_isComplete 0 = .ok (.iconst 0, 1) := by decide +kernel
theorem dX7_isComplete_1 : decode cX7_isComplete 1 = .ok (.istore_n 1, 1) := by decide +kernel
theorem dX7_isComplete_2 : decode cX7_isComplete 2 = .ok (.iconst 0, 1) := by decide +kernel
theorem dX7_isComplete_3 : decode cX7_isComplete 3 = .ok (.istore_n 2, 1) := by decide +kernel
theorem dX7_isComplete_4 : decode cX7_isComplete 4 = .ok (.iload_n 2, 1) := by decide +kernel
theorem dX7_isComplete_5 : decode cX7_isComplete 5 = .ok (.aload_n 0, 1) := by decide +kernel
theorem dX7_isComplete_6 : decode cX7_isComplete 6 = .ok (.getfield 112, 3) := by decide +kernel
theorem dX7_isComplete_9 : decode cX7_isComplete 9 = .ok (.if_icmp .ge 25, 3) := by decide +kernel
theorem dX7_isComplete_12 : decode cX7_isComplete 12 = .ok (.iload_n 1, 1) := by decide +kernel
theorem dX7_isComplete_13 : decode cX7_isComplete 13 = .ok (.iconst (-1), 1) := by decide +kernel
theorem dX7_isComplete_14 : decode cX7_isComplete 14 = .ok (.if_icmp .eq 20, 3) := by decide +kernel
theorem dX7_isComplete_17 : decode cX7_isComplete 17 = .ok (.iload_n 1, 1) := by decide +kernel
theorem dX7_isComplete_18 : decode cX7_isComplete 18 = .ok (.aload_n 0, 1) := by decide +kernel
theorem dX7_isComplete_19 : decode cX7_isComplete 19 = .ok (.getfield 19, 3) := by decide +kernel
theorem dX7_isComplete_22 : decode cX7_isComplete 22 = .ok (.iload_n 2, 1) := by decide +kernel
theorem dX7_isComplete_23 : decode cX7_isComplete 23 = .ok (.iaload, 1) := by decide +kernel
theorem dX7_isComplete_24 : decode cX7_isComplete 24 = .ok (.invokestatic 115, 3) := by decide +kernel
theorem dX7_isComplete_27 : decode cX7_isComplete 27 = .ok (.istore_n 1, 1) := by decide +kernel
theorem dX7_isComplete_28 : decode cX7_isComplete 28 = .ok (.iinc 2 1, 3) := by decide +kernel
theorem dX7_isComplete_31 : decode cX7_isComplete 31 = .ok (.goto (-27), 3) := by decide +kernel
theorem dX7_isComplete_34 : decode cX7_isComplete 34 = .ok (.iload_n 1, 1) := by decide +kernel
theorem dX7_isComplete_35 : decode cX7_isComplete 35 = .ok (.iconst 2, 1) := by decide +kernel
theorem dX7_isComplete_36 : decode cX7_isComplete 36 = .ok (.if_icmp .eq 14, 3) := by decide +kernel
theorem dX7_isComplete_39 : decode cX7_isComplete 39 = .ok (.iload_n 1, 1) := by decide +kernel
theorem dX7_isComplete_40 : decode cX7_isComplete 40 = .ok (.iconst 4, 1) := by decide +kernel
theorem dX7_isComplete_41 : decode cX7_isComplete 41 = .ok (.if_icmp .eq 9, 3) := by decide +kernel
theorem dX7_isComplete_44 : decode cX7_isComplete 44 = .ok (.iload_n 1, 1) := by decide +kernel
theorem dX7_isComplete_45 : decode cX7_isComplete 45 = .ok (.bipush 6, 2) := by decide +kernel
theorem dX7_isComplete_47 : decode cX7_isComplete 47 = .ok (.if_icmp .ne 7, 3) := by decide +kernel
theorem dX7_isComplete_50 : decode cX7_isComplete 50 = .ok (.iconst 1, 1) := by decide +kernel
theorem dX7_isComplete_51 : decode cX7_isComplete 51 = .ok (.goto 4, 3) := by decide +kernel
theorem dX7_isComplete_54 : decode cX7_isComplete 54 = .ok (.iconst 0, 1) := by decide +kernel
theorem dX7_isComplete_55 : decode cX7_isComplete 55 = .ok (.ireturn, 1) := by decide +kernel
theorem dX7_firstError_0 : decode cX7_firstError 0 = .ok (.aload_n 0, 1) := by decide +kernel
theorem dX7_firstError_1 : decode cX7_firstError 1 = .ok (.iconst 0, 1) := by decide +kernel
theorem dX7_firstError_2 : decode cX7_firstError 2 = .ok (.putfield 25, 3) := by decide +kernel
theorem dX7_firstError_5 : decode cX7_firstError 5 = .ok (.aload_n 0, 1) := by decide +kernel
theorem dX7_firstError_6 : decode cX7_firstError 6 = .ok (.invokevirtual 118, 3) := by decide +kernel
theorem dX7_firstError_9 : decode cX7_firstError 9 = .ok (.ireturn, 1) := by decide +kernel
theorem dX7_readRows_0 : decode cX7_readRows 0 = .ok (.iconst 0, 1) := by decide +kernel
theorem dX7_readRows_1 : decode cX7_readRows 1 = .ok (.istore_n 2, 1) := by decide +kernel
theorem dX7_readRows_2 : decode cX7_readRows 2 = .ok (.iconst 0, 1) := by decide +kernel
theorem dX7_readRows_3 : decode cX7_readRows 3 = .ok (.istore_n 3, 1) := by decide +kernel
theorem dX7_readRows_4 : decode cX7_readRows 4 = .ok (.iload_n 3, 1) := by decide +kernel
theorem dX7_readRows_5 : decode cX7_readRows 5 = .ok (.aload_n 0, 1) := by decide +kernel
theorem dX7_readRows_6 : decode cX7_readRows 6 = .ok (.getfield 112, 3) := by decide +kernel
theorem dX7_readRows_9 : decode cX7_readRows 9 = .ok (.if_icmp .ge 135, 3) := by decide +kernel
theorem dX7_readRows_12 : decode cX7_readRows 12 = .ok (.aload_n 0, 1) := by decide +kernel
theorem dX7_readRows_13 : decode cX7_readRows 13 = .ok (.getfield 19, 3) := by decide +kernel
theorem dX7_readRows_16 : decode cX7_readRows 16 = .ok (.iload_n 3, 1) := by decide +kernel
theorem dX7_readRows_17 : decode cX7_readRows 17 = .ok (.iconst 1, 1) := by decide +kernel
theorem dX7_readRows_18 : decode cX7_readRows 18 = .ok (.iadd, 1) := by decide +kernel
theorem dX7_readRows_19 : decode cX7_readRows 19 = .ok (.iaload, 1) := by decide +kernel
theorem dX7_readRows_20 : decode cX7_readRows 20 = .ok (.bipush 48, 2) := by decide +kernel
theorem dX7_readRows_22 : decode cX7_readRows 22 = .ok (.isub, 1) := by decide +kernel
theorem dX7_readRows_23 : decode cX7_readRows 23 = .ok (.istore 4, 2) := by decide +kernel
theorem dX7_readRows_25 : decode cX7_readRows 25 = .ok (.iconst 0, 1) := by decide +kernel
theorem dX7_readRows_26 : decode cX7_readRows 26 = .ok (.istore 5, 2) := by decide +kernel
theorem dX7_readRows_28 : decode cX7_readRows 28 = .ok (.iconst 1, 1) := by decide +kernel
theorem dX7_readRows_29 : decode cX7_readRows 29 = .ok (.istore 6, 2) := by decide +kernel
theorem dX7_readRows_31 : decode cX7_readRows 31 = .ok (.iinc 3 2, 3) := by decide +kernel
theorem dX7_readRows_34 : decode cX7_readRows 34 = .ok (.iload_n 3, 1) := by decide +kernel
theorem dX7_readRows_35 : decode cX7_readRows 35 = .ok (.aload_n 0, 1) := by decide +kernel
theorem dX7_readRows_36 : decode cX7_readRows 36 = .ok (.getfield 112, 3) := by decide +kernel
theorem dX7_readRows_39 : decode cX7_readRows 39 = .ok (.if_icmp .ge 30, 3) := by decide +kernel
theorem dX7_readRows_42 : decode cX7_readRows 42 = .ok (.aload_n 0, 1) := by decide +kernel
theorem dX7_readRows_43 : decode cX7_readRows 43 = .ok (.getfield 19, 3) := by decide +kernel
theorem dX7_readRows_46 : decode cX7_readRows 46 = .ok (.iload_n 3, 1) := by decide +kernel
theorem dX7_readRows_47 : decode cX7_readRows 47 = .ok (.iaload, 1) := by decide +kernel
theorem dX7_readRows_48 : decode cX7_readRows 48 = .ok (.bipush 117, 2) := by decide +kernel
theorem dX7_readRows_50 : decode cX7_readRows 50 = .ok (.if_icmp .ne 19, 3) := by decide +kernel
theorem dX7_readRows_53 : decode cX7_readRows 53 = .ok (.aload_n 0, 1) := by decide +kernel
theorem dX7_readRows_54 : decode cX7_readRows 54 = .ok (.getfield 19, 3) := by decide +kernel
theorem dX7_readRows_57 : decode cX7_readRows 57 = .ok (.iload_n 3, 1) := by decide +kernel
theorem dX7_readRows_58 : decode cX7_readRows 58 = .ok (.iconst 1, 1) := by decide +kernel
theorem dX7_readRows_59 : decode cX7_readRows 59 = .ok (.iadd, 1) := by decide +kernel
theorem dX7_readRows_60 : decode cX7_readRows 60 = .ok (.iaload, 1) := by decide +kernel
theorem dX7_readRows_61 : decode cX7_readRows 61 = .ok (.bipush 48, 2) := by decide +kernel
theorem dX7_readRows_63 : decode cX7_readRows 63 = .ok (.isub, 1) := by decide +kernel
theorem dX7_readRows_64 : decode cX7_readRows 64 = .ok (.istore 5, 2) := by decide +kernel
theorem dX7_readRows_66 : decode cX7_readRows 66 = .ok (.iinc 3 2, 3) := by decide +kernel
theorem dX7_readRows_69 : decode cX7_readRows 69 = .ok (.iload_n 3, 1) := by decide +kernel
theorem dX7_readRows_70 : decode cX7_readRows 70 = .ok (.aload_n 0, 1) := by decide +kernel
theorem dX7_readRows_71 : decode cX7_readRows 71 = .ok (.getfield 112, 3) := by decide +kernel
theorem dX7_readRows_74 : decode cX7_readRows 74 = .ok (.if_icmp .ge 30, 3) := by decide +kernel
theorem dX7_readRows_77 : decode cX7_readRows 77 = .ok (.aload_n 0, 1) := by decide +kernel
theorem dX7_readRows_78 : decode cX7_readRows 78 = .ok (.getfield 19, 3) := by decide +kernel
theorem dX7_readRows_81 : decode cX7_readRows 81 = .ok (.iload_n 3, 1) := by decide +kernel
theorem dX7_readRows_82 : decode cX7_readRows 82 = .ok (.iaload, 1) := by decide +kernel
theorem dX7_readRows_83 : decode cX7_readRows 83 = .ok (.bipush 42, 2) := by decide +kernel
theorem dX7_readRows_85 : decode cX7_readRows 85 = .ok (.if_icmp .ne 19, 3) := by decide +kernel
theorem dX7_readRows_88 : decode cX7_readRows 88 = .ok (.aload_n 0, 1) := by decide +kernel
theorem dX7_readRows_89 : decode cX7_readRows 89 = .ok (.getfield 19, 3) := by decide +kernel
theorem dX7_readRows_92 : decode cX7_readRows 92 = .ok (.iload_n 3, 1) := by decide +kernel
theorem dX7_readRows_93 : decode cX7_readRows 93 = .ok (.iconst 1, 1) := by decide +kernel
theorem dX7_readRows_94 : decode cX7_readRows 94 = .ok (.iadd, 1) := by decide +kernel
theorem dX7_readRows_95 : decode cX7_readRows 95 = .ok (.iaload, 1) := by decide +kernel
theorem dX7_readRows_96 : decode cX7_readRows 96 = .ok (.bipush 48, 2) := by decide +kernel
theorem dX7_readRows_98 : decode cX7_readRows 98 = .ok (.isub, 1) := by decide +kernel
theorem dX7_readRows_99 : decode cX7_readRows 99 = .ok (.istore 6, 2) := by decide +kernel
theorem dX7_readRows_101 : decode cX7_readRows 101 = .ok (.iinc 3 2, 3) := by decide +kernel
theorem dX7_readRows_104 : decode cX7_readRows 104 = .ok (.iinc 3 1, 3) := by decide +kernel
theorem dX7_readRows_107 : decode cX7_readRows 107 = .ok (.iload_n 2, 1) := by decide +kernel
theorem dX7_readRows_108 : decode cX7_readRows 108 = .ok (.iload 6, 2) := by decide +kernel
theorem dX7_readRows_110 : decode cX7_readRows 110 = .ok (.iadd, 1) := by decide +kernel
theorem dX7_readRows_111 : decode cX7_readRows 111 = .ok (.istore_n 2, 1) := by decide +kernel
theorem dX7_readRows_112 : decode cX7_readRows 112 = .ok (.iconst 0, 1) := by decide +kernel
theorem dX7_readRows_113 : decode cX7_readRows 113 = .ok (.istore 7, 2) := by decide +kernel
theorem dX7_readRows_115 : decode cX7_readRows 115 = .ok (.iload 7, 2) := by decide +kernel
theorem dX7_readRows_117 : decode cX7_readRows 117 = .ok (.iload 6, 2) := by decide +kernel
theorem dX7_readRows_119 : decode cX7_readRows 119 = .ok (.if_icmp .ge 22, 3) := by decide +kernel
theorem dX7_readRows_122 : decode cX7_readRows 122 = .ok (.iload_n 1, 1) := by decide +kernel
theorem dX7_readRows_123 : decode cX7_readRows 123 = .ok (.ifCond .eq 18, 3) := by decide +kernel
theorem dX7_readRows_126 : decode cX7_readRows 126 = .ok (.aload_n 0, 1) := by decide +kernel
theorem dX7_readRows_127 : decode cX7_readRows 127 = .ok (.iload 4, 2) := by decide +kernel
theorem dX7_readRows_129 : decode cX7_readRows 129 = .ok (.iload 5, 2) := by decide +kernel
theorem dX7_readRows_131 : decode cX7_readRows 131 = .ok (.invokevirtual 91, 3) := by decide +kernel
theorem dX7_readRows_134 : decode cX7_readRows 134 = .ok (.pop, 1) := by decide +kernel
theorem dX7_readRows_135 : decode cX7_readRows 135 = .ok (.iinc 7 1, 3) := by decide +kernel
theorem dX7_readRows_138 : decode cX7_readRows 138 = .ok (.goto (-23), 3) := by decide +kernel
theorem dX7_readRows_141 : decode cX7_readRows 141 = .ok (.goto (-137), 3) := by decide +kernel
theorem dX7_readRows_144 : decode cX7_readRows 144 = .ok (.iload_n 2, 1) := by decide +kernel
theorem dX7_readRows_145 : decode cX7_readRows 145 = .ok (.ireturn, 1) := by decide +kernel
theorem dX7_putAll_0 : decode cX7_putAll 0 = .ok (.aload_n 0, 1) := by decide +kernel
theorem dX7_putAll_1 : decode cX7_putAll 1 = .ok (.aload_n 0, 1) := by decide +kernel
theorem dX7_putAll_2 : decode cX7_putAll 2 = .ok (.invokevirtual 121, 3) := by decide +kernel
theorem dX7_putAll_5 : decode cX7_putAll 5 = .ok (.ifCond .ne 7, 3) := by decide +kernel
theorem dX7_putAll_8 : decode cX7_putAll 8 = .ok (.iconst 1, 1) := by decide +kernel
theorem dX7_putAll_9 : decode cX7_putAll 9 = .ok (.goto 25, 3) := by decide +kernel
theorem dX7_putAll_12 : decode cX7_putAll 12 = .ok (.aload_n 0, 1) := by decide +kernel
theorem dX7_putAll_13 : decode cX7_putAll 13 = .ok (.getfield 7, 3) := by decide +kernel
theorem dX7_putAll_16 : decode cX7_putAll 16 = .ok (.iconst 0, 1) := by decide +kernel
theorem dX7_putAll_17 : decode cX7_putAll 17 = .ok (.iaload, 1) := by decide +kernel
theorem dX7_putAll_18 : decode cX7_putAll 18 = .ok (.aload_n 0, 1) := by decide +kernel
theorem dX7_putAll_19 : decode cX7_putAll 19 = .ok (.iconst 0, 1) := by decide +kernel
theorem dX7_putAll_20 : decode cX7_putAll 20 = .ok (.invokevirtual 125, 3) := by decide +kernel
theorem dX7_putAll_23 : decode cX7_putAll 23 = .ok (.iadd, 1) := by decide +kernel
theorem dX7_putAll_24 : decode cX7_putAll 24 = .ok (.bipush 24, 2) := by decide +kernel
theorem dX7_putAll_26 : decode cX7_putAll 26 = .ok (.if_icmp .le 7, 3) := by decide +kernel
theorem dX7_putAll_29 : decode cX7_putAll 29 = .ok (.iconst 2, 1) := by decide +kernel
theorem dX7_putAll_30 : decode cX7_putAll 30 = .ok (.goto 4, 3) := by decide +kernel
theorem dX7_putAll_33 : decode cX7_putAll 33 = .ok (.iconst 0, 1) := by decide +kernel
theorem dX7_putAll_34 : decode cX7_putAll 34 = .ok (.putfield 25, 3) := by decide +kernel
theorem dX7_putAll_37 : decode cX7_putAll 37 = .ok (.aload_n 0, 1) := by decide +kernel
theorem dX7_putAll_38 : decode cX7_putAll 38 = .ok (.getfield 25, 3) := by decide +kernel
theorem dX7_putAll_41 : decode cX7_putAll 41 = .ok (.ifCond .le 5, 3) := by decide +kernel
theorem dX7_putAll_44 : decode cX7_putAll 44 = .ok (.iconst 0, 1) := by decide +kernel
theorem dX7_putAll_45 : decode cX7_putAll 45 = .ok (.ireturn, 1) := by decide +kernel
theorem dX7_putAll_46 : decode cX7_putAll 46 = .ok (.aload_n 0, 1) := by decide +kernel
theorem dX7_putAll_47 : decode cX7_putAll 47 = .ok (.invokevirtual 88, 3) := by decide +kernel
theorem dX7_putAll_50 : decode cX7_putAll 50 = .ok (.aload_n 0, 1) := by decide +kernel
theorem dX7_putAll_51 : decode cX7_putAll 51 = .ok (.iconst 1, 1) := by decide +kernel
theorem dX7_putAll_52 : decode cX7_putAll 52 = .ok (.invokevirtual 125, 3) := by decide +kernel
theorem dX7_putAll_55 : decode cX7_putAll 55 = .ok (.pop, 1) := by decide +kernel
theorem dX7_putAll_56 : decode cX7_putAll 56 = .ok (.aload_n 0, 1) := by decide +kernel
theorem dX7_putAll_57 : decode cX7_putAll 57 = .ok (.iconst 0, 1) := by decide +kernel
theorem dX7_putAll_58 : decode cX7_putAll 58 = .ok (.putfield 112, 3) := by decide +kernel
theorem dX7_putAll_61 : decode cX7_putAll 61 = .ok (.aload_n 0, 1) := by decide +kernel
theorem dX7_putAll_62 : decode cX7_putAll 62 = .ok (.getfield 7, 3) := by decide +kernel
theorem dX7_putAll_65 : decode cX7_putAll 65 = .ok (.iconst 0, 1) := by decide +kernel
theorem dX7_putAll_66 : decode cX7_putAll 66 = .ok (.iaload, 1) := by decide +kernel
theorem dX7_putAll_67 : decode cX7_putAll 67 = .ok (.ireturn, 1) := by decide +kernel
theorem dX7_undo_0 : decode cX7_undo 0 = .ok (.aload_n 0, 1) := by decide +kernel
theorem dX7_undo_1 : decode cX7_undo 1 = .ok (.aload_n 0, 1) := by decide +kernel
theorem dX7_undo_2 : decode cX7_undo 2 = .ok (.getfield 29, 3) := by decide +kernel
theorem dX7_undo_5 : decode cX7_undo 5 = .ok (.ifCond .le 7, 3) := by decide +kernel
theorem dX7_undo_8 : decode cX7_undo 8 = .ok (.iconst 0, 1) := by decide +kernel
theorem dX7_undo_9 : decode cX7_undo 9 = .ok (.goto 4, 3) := by decide +kernel
theorem dX7_undo_12 : decode cX7_undo 12 = .ok (.iconst 1, 1) := by decide +kernel
theorem dX7_undo_13 : decode cX7_undo 13 = .ok (.putfield 25, 3) := by decide +kernel
theorem dX7_undo_16 : decode cX7_undo 16 = .ok (.aload_n 0, 1) := by decide +kernel
theorem dX7_undo_17 : decode cX7_undo 17 = .ok (.getfield 25, 3) := by decide +kernel
theorem dX7_undo_20 : decode cX7_undo 20 = .ok (.ifCond .le 5, 3) := by decide +kernel
theorem dX7_undo_23 : decode cX7_undo 23 = .ok (.iconst 0, 1) := by decide +kernel
theorem dX7_undo_24 : decode cX7_undo 24 = .ok (.ireturn, 1) := by decide +kernel
theorem dX7_undo_25 : decode cX7_undo 25 = .ok (.aload_n 0, 1) := by decide +kernel
theorem dX7_undo_26 : decode cX7_undo 26 = .ok (.dup, 1) := by decide +kernel
theorem dX7_undo_27 : decode cX7_undo 27 = .ok (.getfield 29, 3) := by decide +kernel
theorem dX7_undo_30 : decode cX7_undo 30 = .ok (.iconst 1, 1) := by decide +kernel
theorem dX7_undo_31 : decode cX7_undo 31 = .ok (.isub, 1) := by decide +kernel
theorem dX7_undo_32 : decode cX7_undo 32 = .ok (.putfield 29, 3) := by decide +kernel
theorem dX7_undo_35 : decode cX7_undo 35 = .ok (.aload_n 0, 1) := by decide +kernel
theorem dX7_undo_36 : decode cX7_undo 36 = .ok (.getfield 16, 3) := by decide +kernel
theorem dX7_undo_39 : decode cX7_undo 39 = .ok (.aload_n 0, 1) := by decide +kernel
theorem dX7_undo_40 : decode cX7_undo 40 = .ok (.getfield 29, 3) := by decide +kernel
theorem dX7_undo_43 : decode cX7_undo 43 = .ok (.sipush 241, 3) := by decide +kernel
theorem dX7_undo_46 : decode cX7_undo 46 = .ok (.imul, 1) := by decide +kernel
theorem dX7_undo_47 : decode cX7_undo 47 = .ok (.aload_n 0, 1) := by decide +kernel
theorem dX7_undo_48 : decode cX7_undo 48 = .ok (.getfield 7, 3) := by decide +kernel
theorem dX7_undo_51 : decode cX7_undo 51 = .ok (.iconst 0, 1) := by decide +kernel
theorem dX7_undo_52 : decode cX7_undo 52 = .ok (.invokestatic 32, 3) := by decide +kernel
theorem dX7_undo_55 : decode cX7_undo 55 = .ok (.aload_n 0, 1) := by decide +kernel
theorem dX7_undo_56 : decode cX7_undo 56 = .ok (.getfield 29, 3) := by decide +kernel
theorem dX7_undo_59 : decode cX7_undo 59 = .ok (.ireturn, 1) := by decide +kernel
theorem dX7_ofRow_0 : decode cX7_ofRow 0 = .ok (.aload_n 0, 1) := by decide +kernel
theorem dX7_ofRow_1 : decode cX7_ofRow 1 = .ok (.iload_n 1, 1) := by decide +kernel
theorem dX7_ofRow_2 : decode cX7_ofRow 2 = .ok (.iconst 3, 1) := by decide +kernel
theorem dX7_ofRow_3 : decode cX7_ofRow 3 = .ok (.invokevirtual 40, 3) := by decide +kernel
theorem dX7_ofRow_6 : decode cX7_ofRow 6 = .ok (.iconst 1, 1) := by decide +kernel
theorem dX7_ofRow_7 : decode cX7_ofRow 7 = .ok (.if_icmp .ne 7, 3) := by decide +kernel
theorem dX7_ofRow_10 : decode cX7_ofRow 10 = .ok (.iconst 1, 1) := by decide +kernel
theorem dX7_ofRow_11 : decode cX7_ofRow 11 = .ok (.goto 4, 3) := by decide +kernel
theorem dX7_ofRow_14 : decode cX7_ofRow 14 = .ok (.iconst 0, 1) := by decide +kernel
theorem dX7_ofRow_15 : decode cX7_ofRow 15 = .ok (.istore_n 3, 1) := by decide +kernel
theorem dX7_ofRow_16 : decode cX7_ofRow 16 = .ok (.iload_n 2, 1) := by decide +kernel
theorem dX7_ofRow_17 : decode cX7_ofRow 17 = .ok (.tableswitch 139 0 9 #[55, 55, 55, 55, 62, 77, 92, 92, 99, 121], 55) := by decide +kernel
theorem dX7_ofRow_72 : decode cX7_ofRow 72 = .ok (.aload_n 0, 1) := by decide +kernel
theorem dX7_ofRow_73 : decode cX7_ofRow 73 = .ok (.iload_n 1, 1) := by decide +kernel
theorem dX7_ofRow_74 : decode cX7_ofRow 74 = .ok (.iload_n 2, 1) := by decide +kernel
theorem dX7_ofRow_75 : decode cX7_ofRow 75 = .ok (.invokevirtual 40, 3) := by decide +kernel
theorem dX7_ofRow_78 : decode cX7_ofRow 78 = .ok (.ireturn, 1) := by decide +kernel
theorem dX7_ofRow_79 : decode cX7_ofRow 79 = .ok (.iload_n 3, 1) := by decide +kernel
theorem dX7_ofRow_80 : decode cX7_ofRow 80 = .ok (.ifCond .eq 12, 3) := by decide +kernel
theorem dX7_ofRow_83 : decode cX7_ofRow 83 = .ok (.aload_n 0, 1) := by decide +kernel
theorem dX7_ofRow_84 : decode cX7_ofRow 84 = .ok (.iload_n 1, 1) := by decide +kernel
theorem dX7_ofRow_85 : decode cX7_ofRow 85 = .ok (.iconst 4, 1) := by decide +kernel
theorem dX7_ofRow_86 : decode cX7_ofRow 86 = .ok (.invokevirtual 40, 3) := by decide +kernel
theorem dX7_ofRow_89 : decode cX7_ofRow 89 = .ok (.goto 4, 3) := by decide +kernel
theorem dX7_ofRow_92 : decode cX7_ofRow 92 = .ok (.iconst (-1), 1) := by decide +kernel
theorem dX7_ofRow_93 : decode cX7_ofRow 93 = .ok (.ireturn, 1) := by decide +kernel
theorem dX7_ofRow_94 : decode cX7_ofRow 94 = .ok (.iload_n 3, 1) := by decide +kernel
theorem dX7_ofRow_95 : decode cX7_ofRow 95 = .ok (.ifCond .eq 12, 3) := by decide +kernel
theorem dX7_ofRow_98 : decode cX7_ofRow 98 = .ok (.aload_n 0, 1) := by decide +kernel
theorem dX7_ofRow_99 : decode cX7_ofRow 99 = .ok (.iload_n 1, 1) := by decide +kernel
theorem dX7_ofRow_100 : decode cX7_ofRow 100 = .ok (.iconst 5, 1) := by decide +kernel
theorem dX7_ofRow_101 : decode cX7_ofRow 101 = .ok (.invokevirtual 40, 3) := by decide +kernel
theorem dX7_ofRow_104 : decode cX7_ofRow 104 = .ok (.goto 4, 3) := by decide +kernel
theorem dX7_ofRow_107 : decode cX7_ofRow 107 = .ok (.iconst (-1), 1) := by decide +kernel
theorem dX7_ofRow_108 : decode cX7_ofRow 108 = .ok (.ireturn, 1) := by decide +kernel
theorem dX7_ofRow_109 : decode cX7_ofRow 109 = .ok (.aload_n 0, 1) := by decide +kernel
theorem dX7_ofRow_110 : decode cX7_ofRow 110 = .ok (.iload_n 1, 1) := by decide +kernel
theorem dX7_ofRow_111 : decode cX7_ofRow 111 = .ok (.iload_n 2, 1) := by decide +kernel
theorem dX7_ofRow_112 : decode cX7_ofRow 112 = .ok (.invokevirtual 40, 3) := by decide +kernel
theorem dX7_ofRow_115 : decode cX7_ofRow 115 = .ok (.ireturn, 1) := by decide +kernel
theorem dX7_ofRow_116 : decode cX7_ofRow 116 = .ok (.aload_n 0, 1) := by decide +kernel
theorem dX7_ofRow_117 : decode cX7_ofRow 117 = .ok (.iload_n 1, 1) := by decide +kernel
theorem dX7_ofRow_118 : decode cX7_ofRow 118 = .ok (.invokevirtual 48, 3) := by decide +kernel
theorem dX7_ofRow_121 : decode cX7_ofRow 121 = .ok (.ifCond .eq 15, 3) := by decide +kernel
theorem dX7_ofRow_124 : decode cX7_ofRow 124 = .ok (.aload_n 0, 1) := by decide +kernel
theorem dX7_ofRow_125 : decode cX7_ofRow 125 = .ok (.iload_n 1, 1) := by decide +kernel
theorem dX7_ofRow_126 : decode cX7_ofRow 126 = .ok (.invokevirtual 63, 3) := by decide +kernel
theorem dX7_ofRow_129 : decode cX7_ofRow 129 = .ok (.ifCond .eq 7, 3) := by decide +kernel
theorem dX7_ofRow_132 : decode cX7_ofRow 132 = .ok (.iconst 1, 1) := by decide +kernel
theorem dX7_ofRow_133 : decode cX7_ofRow 133 = .ok (.goto 4, 3) := by decide +kernel
theorem dX7_ofRow_136 : decode cX7_ofRow 136 = .ok (.iconst 0, 1) := by decide +kernel
theorem dX7_ofRow_137 : decode cX7_ofRow 137 = .ok (.ireturn, 1) := by decide +kernel
theorem dX7_ofRow_138 : decode cX7_ofRow 138 = .ok (.aload_n 0, 1) := by decide +kernel
theorem dX7_ofRow_139 : decode cX7_ofRow 139 = .ok (.iload_n 1, 1) := by decide +kernel
theorem dX7_ofRow_140 : decode cX7_ofRow 140 = .ok (.invokevirtual 48, 3) := by decide +kernel
theorem dX7_ofRow_143 : decode cX7_ofRow 143 = .ok (.ifCond .eq 11, 3) := by decide +kernel
theorem dX7_ofRow_146 : decode cX7_ofRow 146 = .ok (.aload_n 0, 1) := by decide +kernel
theorem dX7_ofRow_147 : decode cX7_ofRow 147 = .ok (.iload_n 1, 1) := by decide +kernel
theorem dX7_ofRow_148 : decode cX7_ofRow 148 = .ok (.invokevirtual 55, 3) := by decide +kernel
theorem dX7_ofRow_151 : decode cX7_ofRow 151 = .ok (.goto 4, 3) := by decide +kernel
theorem dX7_ofRow_154 : decode cX7_ofRow 154 = .ok (.iconst (-1), 1) := by decide +kernel
theorem dX7_ofRow_155 : decode cX7_ofRow 155 = .ok (.ireturn, 1) := by decide +kernel
theorem dX7_ofRow_156 : decode cX7_ofRow 156 = .ok (.aload_n 0, 1) := by decide +kernel
theorem dX7_ofRow_157 : decode cX7_ofRow 157 = .ok (.getfield 7, 3) := by decide +kernel
theorem dX7_ofRow_160 : decode cX7_ofRow 160 = .ok (.iconst 3, 1) := by decide +kernel
theorem dX7_ofRow_161 : decode cX7_ofRow 161 = .ok (.iaload, 1) := by decide +kernel
theorem dX7_ofRow_162 : decode cX7_ofRow 162 = .ok (.aload_n 0, 1) := by decide +kernel
theorem dX7_ofRow_163 : decode cX7_ofRow 163 = .ok (.iload_n 1, 1) := by decide +kernel
theorem dX7_ofRow_164 : decode cX7_ofRow 164 = .ok (.bipush 8, 2) := by decide +kernel
theorem dX7_ofRow_166 : decode cX7_ofRow 166 = .ok (.invokevirtual 40, 3) := by decide +kernel
theorem dX7_ofRow_169 : decode cX7_ofRow 169 = .ok (.isub, 1) := by decide +kernel
theorem dX7_ofRow_170 : decode cX7_ofRow 170 = .ok (.ireturn, 1) := by decide +kernel
theorem dX7_row_0 : decode cX7_row 0 = .ok (.aload_n 0, 1) := by decide +kernel
theorem dX7_row_1 : decode cX7_row 1 = .ok (.aload_n 0, 1) := by decide +kernel
theorem dX7_row_2 : decode cX7_row 2 = .ok (.iload_n 1, 1) := by decide +kernel
theorem dX7_row_3 : decode cX7_row 3 = .ok (.invokevirtual 94, 3) := by decide +kernel
theorem dX7_row_6 : decode cX7_row 6 = .ok (.ifCond .ne 7, 3) := by decide +kernel
theorem dX7_row_9 : decode cX7_row 9 = .ok (.iconst 1, 1) := by decide +kernel
theorem dX7_row_10 : decode cX7_row 10 = .ok (.goto 18, 3) := by decide +kernel
theorem dX7_row_13 : decode cX7_row 13 = .ok (.iload_n 2, 1) := by decide +kernel
theorem dX7_row_14 : decode cX7_row 14 = .ok (.iconst 0, 1) := by decide +kernel
theorem dX7_row_15 : decode cX7_row 15 = .ok (.bipush 10, 2) := by decide +kernel
theorem dX7_row_17 : decode cX7_row 17 = .ok (.invokestatic 36, 3) := by decide +kernel
theorem dX7_row_20 : decode cX7_row 20 = .ok (.ifCond .eq 7, 3) := by decide +kernel
theorem dX7_row_23 : decode cX7_row 23 = .ok (.iconst 0, 1) := by decide +kernel
theorem dX7_row_24 : decode cX7_row 24 = .ok (.goto 4, 3) := by decide +kernel
theorem dX7_row_27 : decode cX7_row 27 = .ok (.iconst 2, 1) := by decide +kernel
theorem dX7_row_28 : decode cX7_row 28 = .ok (.putfield 25, 3) := by decide +kernel
theorem dX7_row_31 : decode cX7_row 31 = .ok (.aload_n 0, 1) := by decide +kernel
theorem dX7_row_32 : decode cX7_row 32 = .ok (.getfield 25, 3) := by decide +kernel
theorem dX7_row_35 : decode cX7_row 35 = .ok (.ifCond .le 7, 3) := by decide +kernel
theorem dX7_row_38 : decode cX7_row 38 = .ok (.iconst 0, 1) := by decide +kernel
theorem dX7_row_39 : decode cX7_row 39 = .ok (.goto 9, 3) := by decide +kernel
theorem dX7_row_42 : decode cX7_row 42 = .ok (.aload_n 0, 1) := by decide +kernel
theorem dX7_row_43 : decode cX7_row 43 = .ok (.iload_n 1, 1) := by decide +kernel
theorem dX7_row_44 : decode cX7_row 44 = .ok (.iload_n 2, 1) := by decide +kernel
theorem dX7_row_45 : decode cX7_row 45 = .ok (.invokevirtual 129, 3) := by decide +kernel
theorem dX7_row_48 : decode cX7_row 48 = .ok (.ireturn, 1) := by decide +kernel
theorem dX7_firstLapse_0 : decode cX7_firstLapse 0 = .ok (.iconst (-1), 1) := by decide +kernel
theorem dX7_firstLapse_1 : decode cX7_firstLapse 1 = .ok (.istore_n 2, 1) := by decide +kernel
theorem dX7_firstLapse_2 : decode cX7_firstLapse 2 = .ok (.iconst 0, 1) := by decide +kernel
theorem dX7_firstLapse_3 : decode cX7_firstLapse 3 = .ok (.istore_n 3, 1) := by decide +kernel
theorem dX7_firstLapse_4 : decode cX7_firstLapse 4 = .ok (.iload_n 3, 1) := by decide +kernel
theorem dX7_firstLapse_5 : decode cX7_firstLapse 5 = .ok (.aload_n 0, 1) := by decide +kernel
theorem dX7_firstLapse_6 : decode cX7_firstLapse 6 = .ok (.getfield 7, 3) := by decide +kernel
theorem dX7_firstLapse_9 : decode cX7_firstLapse 9 = .ok (.iconst 0, 1) := by decide +kernel
theorem dX7_firstLapse_10 : decode cX7_firstLapse 10 = .ok (.iaload, 1) := by decide +kernel
theorem dX7_firstLapse_11 : decode cX7_firstLapse 11 = .ok (.if_icmp .ge 56, 3) := by decide +kernel
theorem dX7_firstLapse_14 : decode cX7_firstLapse 14 = .ok (.aload_n 0, 1) := by decide +kernel
theorem dX7_firstLapse_15 : decode cX7_firstLapse 15 = .ok (.iload_n 3, 1) := by decide +kernel
theorem dX7_firstLapse_16 : decode cX7_firstLapse 16 = .ok (.iload_n 1, 1) := by decide +kernel
theorem dX7_firstLapse_17 : decode cX7_firstLapse 17 = .ok (.invokevirtual 44, 3) := by decide +kernel
theorem dX7_firstLapse_20 : decode cX7_firstLapse 20 = .ok (.ifCond .eq 22, 3) := by decide +kernel
theorem dX7_firstLapse_23 : decode cX7_firstLapse 23 = .ok (.iload_n 2, 1) := by decide +kernel
theorem dX7_firstLapse_24 : decode cX7_firstLapse 24 = .ok (.iconst (-1), 1) := by decide +kernel
theorem dX7_firstLapse_25 : decode cX7_firstLapse 25 = .ok (.if_icmp .eq 13, 3) := by decide +kernel
theorem dX7_firstLapse_28 : decode cX7_firstLapse 28 = .ok (.aload_n 0, 1) := by decide +kernel
theorem dX7_firstLapse_29 : decode cX7_firstLapse 29 = .ok (.iload_n 3, 1) := by decide +kernel
theorem dX7_firstLapse_30 : decode cX7_firstLapse 30 = .ok (.iconst 5, 1) := by decide +kernel
theorem dX7_firstLapse_31 : decode cX7_firstLapse 31 = .ok (.invokevirtual 40, 3) := by decide +kernel
theorem dX7_firstLapse_34 : decode cX7_firstLapse 34 = .ok (.iload_n 2, 1) := by decide +kernel
theorem dX7_firstLapse_35 : decode cX7_firstLapse 35 = .ok (.if_icmp .ge 7, 3) := by decide +kernel
theorem dX7_firstLapse_38 : decode cX7_firstLapse 38 = .ok (.iconst 1, 1) := by decide +kernel
theorem dX7_firstLapse_39 : decode cX7_firstLapse 39 = .ok (.goto 4, 3) := by decide +kernel
theorem dX7_firstLapse_42 : decode cX7_firstLapse 42 = .ok (.iconst 0, 1) := by decide +kernel
theorem dX7_firstLapse_43 : decode cX7_firstLapse 43 = .ok (.istore 4, 2) := by decide +kernel
theorem dX7_firstLapse_45 : decode cX7_firstLapse 45 = .ok (.iload 4, 2) := by decide +kernel
theorem dX7_firstLapse_47 : decode cX7_firstLapse 47 = .ok (.ifCond .eq 12, 3) := by decide +kernel
theorem dX7_firstLapse_50 : decode cX7_firstLapse 50 = .ok (.aload_n 0, 1) := by decide +kernel
theorem dX7_firstLapse_51 : decode cX7_firstLapse 51 = .ok (.iload_n 3, 1) := by decide +kernel
theorem dX7_firstLapse_52 : decode cX7_firstLapse 52 = .ok (.iconst 5, 1) := by decide +kernel
theorem dX7_firstLapse_53 : decode cX7_firstLapse 53 = .ok (.invokevirtual 40, 3) := by decide +kernel
theorem dX7_firstLapse_56 : decode cX7_firstLapse 56 = .ok (.goto 4, 3) := by decide +kernel
theorem dX7_firstLapse_59 : decode cX7_firstLapse 59 = .ok (.iload_n 2, 1) := by decide +kernel
theorem dX7_firstLapse_60 : decode cX7_firstLapse 60 = .ok (.istore_n 2, 1) := by decide +kernel
theorem dX7_firstLapse_61 : decode cX7_firstLapse 61 = .ok (.iinc 3 1, 3) := by decide +kernel
theorem dX7_firstLapse_64 : decode cX7_firstLapse 64 = .ok (.goto (-60), 3) := by decide +kernel
theorem dX7_firstLapse_67 : decode cX7_firstLapse 67 = .ok (.iload_n 2, 1) := by decide +kernel
theorem dX7_firstLapse_68 : decode cX7_firstLapse 68 = .ok (.ireturn, 1) := by decide +kernel
theorem dX7_nextFor_0 : decode cX7_nextFor 0 = .ok (.aload_n 0, 1) := by decide +kernel
theorem dX7_nextFor_1 : decode cX7_nextFor 1 = .ok (.invokevirtual 78, 3) := by decide +kernel
theorem dX7_nextFor_4 : decode cX7_nextFor 4 = .ok (.iconst (-1), 1) := by decide +kernel
theorem dX7_nextFor_5 : decode cX7_nextFor 5 = .ok (.istore_n 2, 1) := by decide +kernel
theorem dX7_nextFor_6 : decode cX7_nextFor 6 = .ok (.aload_n 0, 1) := by decide +kernel
theorem dX7_nextFor_7 : decode cX7_nextFor 7 = .ok (.getfield 52, 3) := by decide +kernel
theorem dX7_nextFor_10 : decode cX7_nextFor 10 = .ok (.iconst 1, 1) := by decide +kernel
theorem dX7_nextFor_11 : decode cX7_nextFor 11 = .ok (.isub, 1) := by decide +kernel
theorem dX7_nextFor_12 : decode cX7_nextFor 12 = .ok (.istore_n 3, 1) := by decide +kernel
theorem dX7_nextFor_13 : decode cX7_nextFor 13 = .ok (.iload_n 3, 1) := by decide +kernel
theorem dX7_nextFor_14 : decode cX7_nextFor 14 = .ok (.ifCond .lt 34, 3) := by decide +kernel
theorem dX7_nextFor_17 : decode cX7_nextFor 17 = .ok (.aload_n 0, 1) := by decide +kernel
theorem dX7_nextFor_18 : decode cX7_nextFor 18 = .ok (.iload_n 1, 1) := by decide +kernel
theorem dX7_nextFor_19 : decode cX7_nextFor 19 = .ok (.aload_n 0, 1) := by decide +kernel
theorem dX7_nextFor_20 : decode cX7_nextFor 20 = .ok (.getfield 22, 3) := by decide +kernel
theorem dX7_nextFor_23 : decode cX7_nextFor 23 = .ok (.iload_n 3, 1) := by decide +kernel
theorem dX7_nextFor_24 : decode cX7_nextFor 24 = .ok (.iaload, 1) := by decide +kernel
theorem dX7_nextFor_25 : decode cX7_nextFor 25 = .ok (.invokevirtual 81, 3) := by decide +kernel
theorem dX7_nextFor_28 : decode cX7_nextFor 28 = .ok (.ifCond .eq 12, 3) := by decide +kernel
theorem dX7_nextFor_31 : decode cX7_nextFor 31 = .ok (.aload_n 0, 1) := by decide +kernel
theorem dX7_nextFor_32 : decode cX7_nextFor 32 = .ok (.getfield 22, 3) := by decide +kernel
theorem dX7_nextFor_35 : decode cX7_nextFor 35 = .ok (.iload_n 3, 1) := by decide +kernel
theorem dX7_nextFor_36 : decode cX7_nextFor 36 = .ok (.iaload, 1) := by decide +kernel
theorem dX7_nextFor_37 : decode cX7_nextFor 37 = .ok (.goto 4, 3) := by decide +kernel
theorem dX7_nextFor_40 : decode cX7_nextFor 40 = .ok (.iload_n 2, 1) := by decide +kernel
theorem dX7_nextFor_41 : decode cX7_nextFor 41 = .ok (.istore_n 2, 1) := by decide +kernel
theorem dX7_nextFor_42 : decode cX7_nextFor 42 = .ok (.iinc 3 (-1), 3) := by decide +kernel
theorem dX7_nextFor_45 : decode cX7_nextFor 45 = .ok (.goto (-32), 3) := by decide +kernel
theorem dX7_nextFor_48 : decode cX7_nextFor 48 = .ok (.aload_n 0, 1) := by decide +kernel
theorem dX7_nextFor_49 : decode cX7_nextFor 49 = .ok (.iload_n 1, 1) := by decide +kernel
theorem dX7_nextFor_50 : decode cX7_nextFor 50 = .ok (.invokevirtual 69, 3) := by decide +kernel
theorem dX7_nextFor_53 : decode cX7_nextFor 53 = .ok (.aload_n 0, 1) := by decide +kernel
theorem dX7_nextFor_54 : decode cX7_nextFor 54 = .ok (.getfield 7, 3) := by decide +kernel
theorem dX7_nextFor_57 : decode cX7_nextFor 57 = .ok (.bipush 8, 2) := by decide +kernel
theorem dX7_nextFor_59 : decode cX7_nextFor 59 = .ok (.iaload, 1) := by decide +kernel
theorem dX7_nextFor_60 : decode cX7_nextFor 60 = .ok (.if_icmp .lt 7, 3) := by decide +kernel
theorem dX7_nextFor_63 : decode cX7_nextFor 63 = .ok (.iconst (-1), 1) := by decide +kernel
theorem dX7_nextFor_64 : decode cX7_nextFor 64 = .ok (.goto 4, 3) := by decide +kernel
theorem dX7_nextFor_67 : decode cX7_nextFor 67 = .ok (.iload_n 2, 1) := by decide +kernel
theorem dX7_nextFor_68 : decode cX7_nextFor 68 = .ok (.ireturn, 1) := by decide +kernel
theorem dX7_ofReader_0 : decode cX7_ofReader 0 = .ok (.iload_n 2, 1) := by decide +kernel
theorem dX7_ofReader_1 : decode cX7_ofReader 1 = .ok (.tableswitch 67 0 5 #[39, 46, 52, 52, 52, 61], 39) := by decide +kernel
theorem dX7_ofReader_40 : decode cX7_ofReader 40 = .ok (.aload_n 0, 1) := by decide +kernel
theorem dX7_ofReader_41 : decode cX7_ofReader 41 = .ok (.iload_n 1, 1) := by decide +kernel
theorem dX7_ofReader_42 : decode cX7_ofReader 42 = .ok (.iconst 0, 1) := by decide +kernel
theorem dX7_ofReader_43 : decode cX7_ofReader 43 = .ok (.invokevirtual 66, 3) := by decide +kernel
theorem dX7_ofReader_46 : decode cX7_ofReader 46 = .ok (.ireturn, 1) := by decide +kernel
theorem dX7_ofReader_47 : decode cX7_ofReader 47 = .ok (.aload_n 0, 1) := by decide +kernel
theorem dX7_ofReader_48 : decode cX7_ofReader 48 = .ok (.iload_n 1, 1) := by decide +kernel
theorem dX7_ofReader_49 : decode cX7_ofReader 49 = .ok (.invokevirtual 69, 3) := by decide +kernel
theorem dX7_ofReader_52 : decode cX7_ofReader 52 = .ok (.ireturn, 1) := by decide +kernel
theorem dX7_ofReader_53 : decode cX7_ofReader 53 = .ok (.aload_n 0, 1) := by decide +kernel
theorem dX7_ofReader_54 : decode cX7_ofReader 54 = .ok (.iload_n 1, 1) := by decide +kernel
theorem dX7_ofReader_55 : decode cX7_ofReader 55 = .ok (.iload_n 2, 1) := by decide +kernel
theorem dX7_ofReader_56 : decode cX7_ofReader 56 = .ok (.iconst 1, 1) := by decide +kernel
theorem dX7_ofReader_57 : decode cX7_ofReader 57 = .ok (.isub, 1) := by decide +kernel
theorem dX7_ofReader_58 : decode cX7_ofReader 58 = .ok (.invokevirtual 66, 3) := by decide +kernel
theorem dX7_ofReader_61 : decode cX7_ofReader 61 = .ok (.ireturn, 1) := by decide +kernel
theorem dX7_ofReader_62 : decode cX7_ofReader 62 = .ok (.aload_n 0, 1) := by decide +kernel
theorem dX7_ofReader_63 : decode cX7_ofReader 63 = .ok (.iload_n 1, 1) := by decide +kernel
theorem dX7_ofReader_64 : decode cX7_ofReader 64 = .ok (.invokevirtual 132, 3) := by decide +kernel
theorem dX7_ofReader_67 : decode cX7_ofReader 67 = .ok (.ireturn, 1) := by decide +kernel
theorem dX7_ofReader_68 : decode cX7_ofReader 68 = .ok (.aload_n 0, 1) := by decide +kernel
theorem dX7_ofReader_69 : decode cX7_ofReader 69 = .ok (.iload_n 1, 1) := by decide +kernel
theorem dX7_ofReader_70 : decode cX7_ofReader 70 = .ok (.invokevirtual 135, 3) := by decide +kernel
theorem dX7_ofReader_73 : decode cX7_ofReader 73 = .ok (.ireturn, 1) := by decide +kernel
theorem dX7_reader_0 : decode cX7_reader 0 = .ok (.aload_n 0, 1) := by decide +kernel
theorem dX7_reader_1 : decode cX7_reader 1 = .ok (.iload_n 1, 1) := by decide +kernel
theorem dX7_reader_2 : decode cX7_reader 2 = .ok (.invokestatic 100, 3) := by decide +kernel
theorem dX7_reader_5 : decode cX7_reader 5 = .ok (.ifCond .ne 7, 3) := by decide +kernel
theorem dX7_reader_8 : decode cX7_reader 8 = .ok (.iconst 1, 1) := by decide +kernel
theorem dX7_reader_9 : decode cX7_reader 9 = .ok (.goto 18, 3) := by decide +kernel
theorem dX7_reader_12 : decode cX7_reader 12 = .ok (.iload_n 2, 1) := by decide +kernel
theorem dX7_reader_13 : decode cX7_reader 13 = .ok (.iconst 0, 1) := by decide +kernel
theorem dX7_reader_14 : decode cX7_reader 14 = .ok (.bipush 6, 2) := by decide +kernel
theorem dX7_reader_16 : decode cX7_reader 16 = .ok (.invokestatic 36, 3) := by decide +kernel
theorem dX7_reader_19 : decode cX7_reader 19 = .ok (.ifCond .eq 7, 3) := by decide +kernel
theorem dX7_reader_22 : decode cX7_reader 22 = .ok (.iconst 0, 1) := by decide +kernel
theorem dX7_reader_23 : decode cX7_reader 23 = .ok (.goto 4, 3) := by decide +kernel
theorem dX7_reader_26 : decode cX7_reader 26 = .ok (.iconst 2, 1) := by decide +kernel
theorem dX7_reader_27 : decode cX7_reader 27 = .ok (.putfield 25, 3) := by decide +kernel
theorem dX7_reader_30 : decode cX7_reader 30 = .ok (.aload_n 0, 1) := by decide +kernel
theorem dX7_reader_31 : decode cX7_reader 31 = .ok (.getfield 25, 3) := by decide +kernel
theorem dX7_reader_34 : decode cX7_reader 34 = .ok (.ifCond .le 7, 3) := by decide +kernel
theorem dX7_reader_37 : decode cX7_reader 37 = .ok (.iconst 0, 1) := by decide +kernel
theorem dX7_reader_38 : decode cX7_reader 38 = .ok (.goto 9, 3) := by decide +kernel
theorem dX7_reader_41 : decode cX7_reader 41 = .ok (.aload_n 0, 1) := by decide +kernel
theorem dX7_reader_42 : decode cX7_reader 42 = .ok (.iload_n 1, 1) := by decide +kernel
theorem dX7_reader_43 : decode cX7_reader 43 = .ok (.iload_n 2, 1) := by decide +kernel
theorem dX7_reader_44 : decode cX7_reader 44 = .ok (.invokevirtual 138, 3) := by decide +kernel
theorem dX7_reader_47 : decode cX7_reader 47 = .ok (.ireturn, 1) := by decide +kernel
theorem dX7_inGroup_0 : decode cX7_inGroup 0 = .ok (.iconst 0, 1) := by decide +kernel
theorem dX7_inGroup_1 : decode cX7_inGroup 1 = .ok (.istore 4, 2) := by decide +kernel
theorem dX7_inGroup_3 : decode cX7_inGroup 3 = .ok (.iconst 0, 1) := by decide +kernel
theorem dX7_inGroup_4 : decode cX7_inGroup 4 = .ok (.istore 5, 2) := by decide +kernel
theorem dX7_inGroup_6 : decode cX7_inGroup 6 = .ok (.iload 5, 2) := by decide +kernel
theorem dX7_inGroup_8 : decode cX7_inGroup 8 = .ok (.aload_n 0, 1) := by decide +kernel
theorem dX7_inGroup_9 : decode cX7_inGroup 9 = .ok (.getfield 7, 3) := by decide +kernel
theorem dX7_inGroup_12 : decode cX7_inGroup 12 = .ok (.iconst 0, 1) := by decide +kernel
theorem dX7_inGroup_13 : decode cX7_inGroup 13 = .ok (.iaload, 1) := by decide +kernel
theorem dX7_inGroup_14 : decode cX7_inGroup 14 = .ok (.if_icmp .ge 69, 3) := by decide +kernel
theorem dX7_inGroup_17 : decode cX7_inGroup 17 = .ok (.aload_n 0, 1) := by decide +kernel
theorem dX7_inGroup_18 : decode cX7_inGroup 18 = .ok (.iload 5, 2) := by decide +kernel
theorem dX7_inGroup_20 : decode cX7_inGroup 20 = .ok (.iconst 0, 1) := by decide +kernel
theorem dX7_inGroup_21 : decode cX7_inGroup 21 = .ok (.invokevirtual 40, 3) := by decide +kernel
theorem dX7_inGroup_24 : decode cX7_inGroup 24 = .ok (.iload_n 1, 1) := by decide +kernel
theorem dX7_inGroup_25 : decode cX7_inGroup 25 = .ok (.if_icmp .ne 23, 3) := by decide +kernel
theorem dX7_inGroup_28 : decode cX7_inGroup 28 = .ok (.iload_n 2, 1) := by decide +kernel
theorem dX7_inGroup_29 : decode cX7_inGroup 29 = .ok (.iconst (-1), 1) := by decide +kernel
theorem dX7_inGroup_30 : decode cX7_inGroup 30 = .ok (.if_icmp .eq 14, 3) := by decide +kernel
theorem dX7_inGroup_33 : decode cX7_inGroup 33 = .ok (.aload_n 0, 1) := by decide +kernel
theorem dX7_inGroup_34 : decode cX7_inGroup 34 = .ok (.iload 5, 2) := by decide +kernel
theorem dX7_inGroup_36 : decode cX7_inGroup 36 = .ok (.iconst 1, 1) := by decide +kernel
theorem dX7_inGroup_37 : decode cX7_inGroup 37 = .ok (.invokevirtual 40, 3) := by decide +kernel
theorem dX7_inGroup_40 : decode cX7_inGroup 40 = .ok (.iload_n 2, 1) := by decide +kernel
theorem dX7_inGroup_41 : decode cX7_inGroup 41 = .ok (.if_icmp .ne 7, 3) := by decide +kernel
theorem dX7_inGroup_44 : decode cX7_inGroup 44 = .ok (.iconst 1, 1) := by decide +kernel
theorem dX7_inGroup_45 : decode cX7_inGroup 45 = .ok (.goto 4, 3) := by decide +kernel
theorem dX7_inGroup_48 : decode cX7_inGroup 48 = .ok (.iconst 0, 1) := by decide +kernel
theorem dX7_inGroup_49 : decode cX7_inGroup 49 = .ok (.istore 6, 2) := by decide +kernel
theorem dX7_inGroup_51 : decode cX7_inGroup 51 = .ok (.iload 4, 2) := by decide +kernel
theorem dX7_inGroup_53 : decode cX7_inGroup 53 = .ok (.iload 6, 2) := by decide +kernel
theorem dX7_inGroup_55 : decode cX7_inGroup 55 = .ok (.ifCond .eq 18, 3) := by decide +kernel
theorem dX7_inGroup_58 : decode cX7_inGroup 58 = .ok (.aload_n 0, 1) := by decide +kernel
theorem dX7_inGroup_59 : decode cX7_inGroup 59 = .ok (.iload 5, 2) := by decide +kernel
theorem dX7_inGroup_61 : decode cX7_inGroup 61 = .ok (.iconst 3, 1) := by decide +kernel
theorem dX7_inGroup_62 : decode cX7_inGroup 62 = .ok (.invokevirtual 40, 3) := by decide +kernel
theorem dX7_inGroup_65 : decode cX7_inGroup 65 = .ok (.iload_n 3, 1) := by decide +kernel
theorem dX7_inGroup_66 : decode cX7_inGroup 66 = .ok (.if_icmp .ne 7, 3) := by decide +kernel
theorem dX7_inGroup_69 : decode cX7_inGroup 69 = .ok (.iconst 1, 1) := by decide +kernel
theorem dX7_inGroup_70 : decode cX7_inGroup 70 = .ok (.goto 4, 3) := by decide +kernel
theorem dX7_inGroup_73 : decode cX7_inGroup 73 = .ok (.iconst 0, 1) := by decide +kernel
theorem dX7_inGroup_74 : decode cX7_inGroup 74 = .ok (.iadd, 1) := by decide +kernel
theorem dX7_inGroup_75 : decode cX7_inGroup 75 = .ok (.istore 4, 2) := by decide +kernel
theorem dX7_inGroup_77 : decode cX7_inGroup 77 = .ok (.iinc 5 1, 3) := by decide +kernel
theorem dX7_inGroup_80 : decode cX7_inGroup 80 = .ok (.goto (-74), 3) := by decide +kernel
theorem dX7_inGroup_83 : decode cX7_inGroup 83 = .ok (.iload 4, 2) := by decide +kernel
theorem dX7_inGroup_85 : decode cX7_inGroup 85 = .ok (.ireturn, 1) := by decide +kernel
theorem dX7_group_0 : decode cX7_group 0 = .ok (.aload_n 0, 1) := by decide +kernel
theorem dX7_group_1 : decode cX7_group 1 = .ok (.iload_n 1, 1) := by decide +kernel
theorem dX7_group_2 : decode cX7_group 2 = .ok (.iconst 0, 1) := by decide +kernel
theorem dX7_group_3 : decode cX7_group 3 = .ok (.bipush 7, 2) := by decide +kernel
theorem dX7_group_5 : decode cX7_group 5 = .ok (.invokestatic 36, 3) := by decide +kernel
theorem dX7_group_8 : decode cX7_group 8 = .ok (.ifCond .eq 26, 3) := by decide +kernel
theorem dX7_group_11 : decode cX7_group 11 = .ok (.iload_n 2, 1) := by decide +kernel
theorem dX7_group_12 : decode cX7_group 12 = .ok (.iconst (-1), 1) := by decide +kernel
theorem dX7_group_13 : decode cX7_group 13 = .ok (.bipush 9, 2) := by decide +kernel
theorem dX7_group_15 : decode cX7_group 15 = .ok (.invokestatic 36, 3) := by decide +kernel
theorem dX7_group_18 : decode cX7_group 18 = .ok (.ifCond .eq 16, 3) := by decide +kernel
theorem dX7_group_21 : decode cX7_group 21 = .ok (.iload_n 3, 1) := by decide +kernel
theorem dX7_group_22 : decode cX7_group 22 = .ok (.iconst 0, 1) := by decide +kernel
theorem dX7_group_23 : decode cX7_group 23 = .ok (.iconst 3, 1) := by decide +kernel
theorem dX7_group_24 : decode cX7_group 24 = .ok (.invokestatic 36, 3) := by decide +kernel
theorem dX7_group_27 : decode cX7_group 27 = .ok (.ifCond .eq 7, 3) := by decide +kernel
theorem dX7_group_30 : decode cX7_group 30 = .ok (.iconst 0, 1) := by decide +kernel
theorem dX7_group_31 : decode cX7_group 31 = .ok (.goto 4, 3) := by decide +kernel
theorem dX7_group_34 : decode cX7_group 34 = .ok (.iconst 1, 1) := by decide +kernel
theorem dX7_group_35 : decode cX7_group 35 = .ok (.putfield 25, 3) := by decide +kernel
theorem dX7_group_38 : decode cX7_group 38 = .ok (.aload_n 0, 1) := by decide +kernel
theorem dX7_group_39 : decode cX7_group 39 = .ok (.getfield 25, 3) := by decide +kernel
theorem dX7_group_42 : decode cX7_group 42 = .ok (.ifCond .le 7, 3) := by decide +kernel
theorem dX7_group_45 : decode cX7_group 45 = .ok (.iconst 0, 1) := by decide +kernel
theorem dX7_group_46 : decode cX7_group 46 = .ok (.goto 10, 3) := by decide +kernel
theorem dX7_group_49 : decode cX7_group 49 = .ok (.aload_n 0, 1) := by decide +kernel
theorem dX7_group_50 : decode cX7_group 50 = .ok (.iload_n 1, 1) := by decide +kernel
theorem dX7_group_51 : decode cX7_group 51 = .ok (.iload_n 2, 1) := by decide +kernel
theorem dX7_group_52 : decode cX7_group 52 = .ok (.iload_n 3, 1) := by decide +kernel
theorem dX7_group_53 : decode cX7_group 53 = .ok (.invokevirtual 141, 3) := by decide +kernel
theorem dX7_group_56 : decode cX7_group 56 = .ok (.ireturn, 1) := by decide +kernel
theorem dX7_blockedMany_0 : decode cX7_blockedMany 0 = .ok (.iconst 0, 1) := by decide +kernel
theorem dX7_blockedMany_1 : decode cX7_blockedMany 1 = .ok (.istore_n 1, 1) := by decide +kernel
theorem dX7_blockedMany_2 : decode cX7_blockedMany 2 = .ok (.iconst 0, 1) := by decide +kernel
theorem dX7_blockedMany_3 : decode cX7_blockedMany 3 = .ok (.istore_n 2, 1) := by decide +kernel
theorem dX7_blockedMany_4 : decode cX7_blockedMany 4 = .ok (.iload_n 2, 1) := by decide +kernel
theorem dX7_blockedMany_5 : decode cX7_blockedMany 5 = .ok (.aload_n 0, 1) := by decide +kernel
theorem dX7_blockedMany_6 : decode cX7_blockedMany 6 = .ok (.getfield 7, 3) := by decide +kernel
theorem dX7_blockedMany_9 : decode cX7_blockedMany 9 = .ok (.iconst 0, 1) := by decide +kernel
theorem dX7_blockedMany_10 : decode cX7_blockedMany 10 = .ok (.iaload, 1) := by decide +kernel
theorem dX7_blockedMany_11 : decode cX7_blockedMany 11 = .ok (.if_icmp .ge 34, 3) := by decide +kernel
theorem dX7_blockedMany_14 : decode cX7_blockedMany 14 = .ok (.iload_n 1, 1) := by decide +kernel
theorem dX7_blockedMany_15 : decode cX7_blockedMany 15 = .ok (.aload_n 0, 1) := by decide +kernel
theorem dX7_blockedMany_16 : decode cX7_blockedMany 16 = .ok (.iload_n 2, 1) := by decide +kernel
theorem dX7_blockedMany_17 : decode cX7_blockedMany 17 = .ok (.iconst 3, 1) := by decide +kernel
theorem dX7_blockedMany_18 : decode cX7_blockedMany 18 = .ok (.invokevirtual 40, 3) := by decide +kernel
theorem dX7_blockedMany_21 : decode cX7_blockedMany 21 = .ok (.ifCond .ne 15, 3) := by decide +kernel
theorem dX7_blockedMany_24 : decode cX7_blockedMany 24 = .ok (.aload_n 0, 1) := by decide +kernel
theorem dX7_blockedMany_25 : decode cX7_blockedMany 25 = .ok (.iload_n 2, 1) := by decide +kernel
theorem dX7_blockedMany_26 : decode cX7_blockedMany 26 = .ok (.invokevirtual 63, 3) := by decide +kernel
theorem dX7_blockedMany_29 : decode cX7_blockedMany 29 = .ok (.ifCond .eq 7, 3) := by decide +kernel
theorem dX7_blockedMany_32 : decode cX7_blockedMany 32 = .ok (.iconst 1, 1) := by decide +kernel
theorem dX7_blockedMany_33 : decode cX7_blockedMany 33 = .ok (.goto 4, 3) := by decide +kernel
theorem dX7_blockedMany_36 : decode cX7_blockedMany 36 = .ok (.iconst 0, 1) := by decide +kernel
theorem dX7_blockedMany_37 : decode cX7_blockedMany 37 = .ok (.iadd, 1) := by decide +kernel
theorem dX7_blockedMany_38 : decode cX7_blockedMany 38 = .ok (.istore_n 1, 1) := by decide +kernel
theorem dX7_blockedMany_39 : decode cX7_blockedMany 39 = .ok (.iinc 2 1, 3) := by decide +kernel
theorem dX7_blockedMany_42 : decode cX7_blockedMany 42 = .ok (.goto (-38), 3) := by decide +kernel
theorem dX7_blockedMany_45 : decode cX7_blockedMany 45 = .ok (.iload_n 1, 1) := by decide +kernel
theorem dX7_blockedMany_46 : decode cX7_blockedMany 46 = .ok (.ireturn, 1) := by decide +kernel
theorem dX7_pairs_0 : decode cX7_pairs 0 = .ok (.iconst 0, 1) := by decide +kernel
theorem dX7_pairs_1 : decode cX7_pairs 1 = .ok (.istore_n 1, 1) := by decide +kernel
theorem dX7_pairs_2 : decode cX7_pairs 2 = .ok (.iconst 0, 1) := by decide +kernel
theorem dX7_pairs_3 : decode cX7_pairs 3 = .ok (.istore_n 2, 1) := by decide +kernel
theorem dX7_pairs_4 : decode cX7_pairs 4 = .ok (.iload_n 2, 1) := by decide +kernel
theorem dX7_pairs_5 : decode cX7_pairs 5 = .ok (.bipush 8, 2) := by decide +kernel
theorem dX7_pairs_7 : decode cX7_pairs 7 = .ok (.if_icmp .ge 41, 3) := by decide +kernel
theorem dX7_pairs_10 : decode cX7_pairs 10 = .ok (.iconst 0, 1) := by decide +kernel
theorem dX7_pairs_11 : decode cX7_pairs 11 = .ok (.istore_n 3, 1) := by decide +kernel
theorem dX7_pairs_12 : decode cX7_pairs 12 = .ok (.iload_n 3, 1) := by decide +kernel
theorem dX7_pairs_13 : decode cX7_pairs 13 = .ok (.bipush 10, 2) := by decide +kernel
theorem dX7_pairs_15 : decode cX7_pairs 15 = .ok (.if_icmp .ge 27, 3) := by decide +kernel
theorem dX7_pairs_18 : decode cX7_pairs 18 = .ok (.iload_n 1, 1) := by decide +kernel
theorem dX7_pairs_19 : decode cX7_pairs 19 = .ok (.aload_n 0, 1) := by decide +kernel
theorem dX7_pairs_20 : decode cX7_pairs 20 = .ok (.iload_n 2, 1) := by decide +kernel
theorem dX7_pairs_21 : decode cX7_pairs 21 = .ok (.iload_n 3, 1) := by decide +kernel
theorem dX7_pairs_22 : decode cX7_pairs 22 = .ok (.iconst 0, 1) := by decide +kernel
theorem dX7_pairs_23 : decode cX7_pairs 23 = .ok (.invokevirtual 141, 3) := by decide +kernel
theorem dX7_pairs_26 : decode cX7_pairs 26 = .ok (.ifCond .le 7, 3) := by decide +kernel
theorem dX7_pairs_29 : decode cX7_pairs 29 = .ok (.iconst 1, 1) := by decide +kernel
theorem dX7_pairs_30 : decode cX7_pairs 30 = .ok (.goto 4, 3) := by decide +kernel
theorem dX7_pairs_33 : decode cX7_pairs 33 = .ok (.iconst 0, 1) := by decide +kernel
theorem dX7_pairs_34 : decode cX7_pairs 34 = .ok (.iadd, 1) := by decide +kernel
theorem dX7_pairs_35 : decode cX7_pairs 35 = .ok (.istore_n 1, 1) := by decide +kernel
theorem dX7_pairs_36 : decode cX7_pairs 36 = .ok (.iinc 3 1, 3) := by decide +kernel
theorem dX7_pairs_39 : decode cX7_pairs 39 = .ok (.goto (-27), 3) := by decide +kernel
theorem dX7_pairs_42 : decode cX7_pairs 42 = .ok (.iinc 2 1, 3) := by decide +kernel
theorem dX7_pairs_45 : decode cX7_pairs 45 = .ok (.goto (-41), 3) := by decide +kernel
theorem dX7_pairs_48 : decode cX7_pairs 48 = .ok (.iload_n 1, 1) := by decide +kernel
theorem dX7_pairs_49 : decode cX7_pairs 49 = .ok (.ireturn, 1) := by decide +kernel
theorem dX7_firstThatWaits_0 : decode cX7_firstThatWaits 0 = .ok (.iconst (-1), 1) := by decide +kernel
theorem dX7_firstThatWaits_1 : decode cX7_firstThatWaits 1 = .ok (.istore_n 1, 1) := by decide +kernel
theorem dX7_firstThatWaits_2 : decode cX7_firstThatWaits 2 = .ok (.aload_n 0, 1) := by decide +kernel
theorem dX7_firstThatWaits_3 : decode cX7_firstThatWaits 3 = .ok (.getfield 7, 3) := by decide +kernel
theorem dX7_firstThatWaits_6 : decode cX7_firstThatWaits 6 = .ok (.iconst 0, 1) := by decide +kernel
theorem dX7_firstThatWaits_7 : decode cX7_firstThatWaits 7 = .ok (.iaload, 1) := by decide +kernel
theorem dX7_firstThatWaits_8 : decode cX7_firstThatWaits 8 = .ok (.iconst 1, 1) := by decide +kernel
theorem dX7_firstThatWaits_9 : decode cX7_firstThatWaits 9 = .ok (.isub, 1) := by decide +kernel
theorem dX7_firstThatWaits_10 : decode cX7_firstThatWaits 10 = .ok (.istore_n 2, 1) := by decide +kernel
theorem dX7_firstThatWaits_11 : decode cX7_firstThatWaits 11 = .ok (.iload_n 2, 1) := by decide +kernel
theorem dX7_firstThatWaits_12 : decode cX7_firstThatWaits 12 = .ok (.ifCond .lt 24, 3) := by decide +kernel
theorem dX7_firstThatWaits_15 : decode cX7_firstThatWaits 15 = .ok (.aload_n 0, 1) := by decide +kernel
theorem dX7_firstThatWaits_16 : decode cX7_firstThatWaits 16 = .ok (.iload_n 2, 1) := by decide +kernel
theorem dX7_firstThatWaits_17 : decode cX7_firstThatWaits 17 = .ok (.iconst 3, 1) := by decide +kernel
theorem dX7_firstThatWaits_18 : decode cX7_firstThatWaits 18 = .ok (.invokevirtual 40, 3) := by decide +kernel
theorem dX7_firstThatWaits_21 : decode cX7_firstThatWaits 21 = .ok (.ifCond .ne 7, 3) := by decide +kernel
theorem dX7_firstThatWaits_24 : decode cX7_firstThatWaits 24 = .ok (.iload_n 2, 1) := by decide +kernel
theorem dX7_firstThatWaits_25 : decode cX7_firstThatWaits 25 = .ok (.goto 4, 3) := by decide +kernel
theorem dX7_firstThatWaits_28 : decode cX7_firstThatWaits 28 = .ok (.iload_n 1, 1) := by decide +kernel
theorem dX7_firstThatWaits_29 : decode cX7_firstThatWaits 29 = .ok (.istore_n 1, 1) := by decide +kernel
theorem dX7_firstThatWaits_30 : decode cX7_firstThatWaits 30 = .ok (.iinc 2 (-1), 3) := by decide +kernel
theorem dX7_firstThatWaits_33 : decode cX7_firstThatWaits 33 = .ok (.goto (-22), 3) := by decide +kernel
theorem dX7_firstThatWaits_36 : decode cX7_firstThatWaits 36 = .ok (.iload_n 1, 1) := by decide +kernel
theorem dX7_firstThatWaits_37 : decode cX7_firstThatWaits 37 = .ok (.ireturn, 1) := by decide +kernel
theorem dX7_told_0 : decode cX7_told 0 = .ok (.iload_n 1, 1) := by decide +kernel
theorem dX7_told_1 : decode cX7_told 1 = .ok (.tableswitch 121 0 11 #[63, 70, 77, 77, 77, 77, 85, 92, 99, 104, 111, 116], 63) := by decide +kernel
theorem dX7_told_64 : decode cX7_told 64 = .ok (.aload_n 0, 1) := by decide +kernel
theorem dX7_told_65 : decode cX7_told 65 = .ok (.getfield 7, 3) := by decide +kernel
theorem dX7_told_68 : decode cX7_told 68 = .ok (.iconst 3, 1) := by decide +kernel
theorem dX7_told_69 : decode cX7_told 69 = .ok (.iaload, 1) := by decide +kernel
theorem dX7_told_70 : decode cX7_told 70 = .ok (.ireturn, 1) := by decide +kernel
theorem dX7_told_71 : decode cX7_told 71 = .ok (.aload_n 0, 1) := by decide +kernel
theorem dX7_told_72 : decode cX7_told 72 = .ok (.getfield 7, 3) := by decide +kernel
theorem dX7_told_75 : decode cX7_told 75 = .ok (.iconst 0, 1) := by decide +kernel
theorem dX7_told_76 : decode cX7_told 76 = .ok (.iaload, 1) := by decide +kernel
theorem dX7_told_77 : decode cX7_told 77 = .ok (.ireturn, 1) := by decide +kernel
theorem dX7_told_78 : decode cX7_told 78 = .ok (.aload_n 0, 1) := by decide +kernel
theorem dX7_told_79 : decode cX7_told 79 = .ok (.iload_n 1, 1) := by decide +kernel
theorem dX7_told_80 : decode cX7_told 80 = .ok (.iconst 2, 1) := by decide +kernel
theorem dX7_told_81 : decode cX7_told 81 = .ok (.isub, 1) := by decide +kernel
theorem dX7_told_82 : decode cX7_told 82 = .ok (.invokevirtual 145, 3) := by decide +kernel
theorem dX7_told_85 : decode cX7_told 85 = .ok (.ireturn, 1) := by decide +kernel
theorem dX7_told_86 : decode cX7_told 86 = .ok (.aload_n 0, 1) := by decide +kernel
theorem dX7_told_87 : decode cX7_told 87 = .ok (.getfield 7, 3) := by decide +kernel
theorem dX7_told_90 : decode cX7_told 90 = .ok (.iconst 1, 1) := by decide +kernel
theorem dX7_told_91 : decode cX7_told 91 = .ok (.iaload, 1) := by decide +kernel
theorem dX7_told_92 : decode cX7_told 92 = .ok (.ireturn, 1) := by decide +kernel
theorem dX7_told_93 : decode cX7_told 93 = .ok (.aload_n 0, 1) := by decide +kernel
theorem dX7_told_94 : decode cX7_told 94 = .ok (.getfield 7, 3) := by decide +kernel
theorem dX7_told_97 : decode cX7_told 97 = .ok (.iconst 2, 1) := by decide +kernel
theorem dX7_told_98 : decode cX7_told 98 = .ok (.iaload, 1) := by decide +kernel
theorem dX7_told_99 : decode cX7_told 99 = .ok (.ireturn, 1) := by decide +kernel
theorem dX7_told_100 : decode cX7_told 100 = .ok (.aload_n 0, 1) := by decide +kernel
theorem dX7_told_101 : decode cX7_told 101 = .ok (.invokevirtual 148, 3) := by decide +kernel
theorem dX7_told_104 : decode cX7_told 104 = .ok (.ireturn, 1) := by decide +kernel
theorem dX7_told_105 : decode cX7_told 105 = .ok (.aload_n 0, 1) := by decide +kernel
theorem dX7_told_106 : decode cX7_told 106 = .ok (.getfield 7, 3) := by decide +kernel
theorem dX7_told_109 : decode cX7_told 109 = .ok (.iconst 4, 1) := by decide +kernel
theorem dX7_told_110 : decode cX7_told 110 = .ok (.iaload, 1) := by decide +kernel
theorem dX7_told_111 : decode cX7_told 111 = .ok (.ireturn, 1) := by decide +kernel
theorem dX7_told_112 : decode cX7_told 112 = .ok (.aload_n 0, 1) := by decide +kernel
theorem dX7_told_113 : decode cX7_told 113 = .ok (.invokevirtual 151, 3) := by decide +kernel
theorem dX7_told_116 : decode cX7_told 116 = .ok (.ireturn, 1) := by decide +kernel
theorem dX7_told_117 : decode cX7_told 117 = .ok (.aload_n 0, 1) := by decide +kernel
theorem dX7_told_118 : decode cX7_told 118 = .ok (.invokevirtual 154, 3) := by decide +kernel
theorem dX7_told_121 : decode cX7_told 121 = .ok (.ireturn, 1) := by decide +kernel
theorem dX7_told_122 : decode cX7_told 122 = .ok (.aload_n 0, 1) := by decide +kernel
theorem dX7_told_123 : decode cX7_told 123 = .ok (.getfield 29, 3) := by decide +kernel
theorem dX7_told_126 : decode cX7_told 126 = .ok (.ireturn, 1) := by decide +kernel
theorem dX7_count_0 : decode cX7_count 0 = .ok (.aload_n 0, 1) := by decide +kernel
theorem dX7_count_1 : decode cX7_count 1 = .ok (.iload_n 1, 1) := by decide +kernel
theorem dX7_count_2 : decode cX7_count 2 = .ok (.iconst 0, 1) := by decide +kernel
theorem dX7_count_3 : decode cX7_count 3 = .ok (.bipush 12, 2) := by decide +kernel
theorem dX7_count_5 : decode cX7_count 5 = .ok (.invokestatic 36, 3) := by decide +kernel
theorem dX7_count_8 : decode cX7_count 8 = .ok (.ifCond .eq 7, 3) := by decide +kernel
theorem dX7_count_11 : decode cX7_count 11 = .ok (.iconst 0, 1) := by decide +kernel
theorem dX7_count_12 : decode cX7_count 12 = .ok (.goto 4, 3) := by decide +kernel
theorem dX7_count_15 : decode cX7_count 15 = .ok (.iconst 1, 1) := by decide +kernel
theorem dX7_count_16 : decode cX7_count 16 = .ok (.putfield 25, 3) := by decide +kernel
theorem dX7_count_19 : decode cX7_count 19 = .ok (.aload_n 0, 1) := by decide +kernel
theorem dX7_count_20 : decode cX7_count 20 = .ok (.getfield 25, 3) := by decide +kernel
theorem dX7_count_23 : decode cX7_count 23 = .ok (.ifCond .le 7, 3) := by decide +kernel
theorem dX7_count_26 : decode cX7_count 26 = .ok (.iconst 0, 1) := by decide +kernel
theorem dX7_count_27 : decode cX7_count 27 = .ok (.goto 8, 3) := by decide +kernel
theorem dX7_count_30 : decode cX7_count 30 = .ok (.aload_n 0, 1) := by decide +kernel
theorem dX7_count_31 : decode cX7_count 31 = .ok (.iload_n 1, 1) := by decide +kernel
theorem dX7_count_32 : decode cX7_count 32 = .ok (.invokevirtual 157, 3) := by decide +kernel
theorem dX7_count_35 : decode cX7_count 35 = .ok (.ireturn, 1) := by decide +kernel
theorem dX7_setting_0 : decode cX7_setting 0 = .ok (.aload_n 0, 1) := by decide +kernel
theorem dX7_setting_1 : decode cX7_setting 1 = .ok (.iload_n 1, 1) := by decide +kernel
theorem dX7_setting_2 : decode cX7_setting 2 = .ok (.iconst 0, 1) := by decide +kernel
theorem dX7_setting_3 : decode cX7_setting 3 = .ok (.iconst 3, 1) := by decide +kernel
theorem dX7_setting_4 : decode cX7_setting 4 = .ok (.invokestatic 36, 3) := by decide +kernel
theorem dX7_setting_7 : decode cX7_setting 7 = .ok (.ifCond .eq 7, 3) := by decide +kernel
theorem dX7_setting_10 : decode cX7_setting 10 = .ok (.iconst 0, 1) := by decide +kernel
theorem dX7_setting_11 : decode cX7_setting 11 = .ok (.goto 4, 3) := by decide +kernel
theorem dX7_setting_14 : decode cX7_setting 14 = .ok (.iconst 1, 1) := by decide +kernel
theorem dX7_setting_15 : decode cX7_setting 15 = .ok (.putfield 25, 3) := by decide +kernel
theorem dX7_setting_18 : decode cX7_setting 18 = .ok (.aload_n 0, 1) := by decide +kernel
theorem dX7_setting_19 : decode cX7_setting 19 = .ok (.getfield 25, 3) := by decide +kernel
theorem dX7_setting_22 : decode cX7_setting 22 = .ok (.ifCond .le 7, 3) := by decide +kernel
theorem dX7_setting_25 : decode cX7_setting 25 = .ok (.iconst 0, 1) := by decide +kernel
theorem dX7_setting_26 : decode cX7_setting 26 = .ok (.goto 11, 3) := by decide +kernel
theorem dX7_setting_29 : decode cX7_setting 29 = .ok (.aload_n 0, 1) := by decide +kernel
theorem dX7_setting_30 : decode cX7_setting 30 = .ok (.getfield 7, 3) := by decide +kernel
theorem dX7_setting_33 : decode cX7_setting 33 = .ok (.iconst 5, 1) := by decide +kernel
theorem dX7_setting_34 : decode cX7_setting 34 = .ok (.iload_n 1, 1) := by decide +kernel
theorem dX7_setting_35 : decode cX7_setting 35 = .ok (.iadd, 1) := by decide +kernel
theorem dX7_setting_36 : decode cX7_setting 36 = .ok (.iaload, 1) := by decide +kernel
theorem dX7_setting_37 : decode cX7_setting 37 = .ok (.ireturn, 1) := by decide +kernel
theorem dX7_takenIf_0 : decode cX7_takenIf 0 = .ok (.aload_n 0, 1) := by decide +kernel
theorem dX7_takenIf_1 : decode cX7_takenIf 1 = .ok (.getfield 7, 3) := by decide +kernel
theorem dX7_takenIf_4 : decode cX7_takenIf 4 = .ok (.iconst 0, 1) := by decide +kernel
theorem dX7_takenIf_5 : decode cX7_takenIf 5 = .ok (.aload_n 0, 1) := by decide +kernel
theorem dX7_takenIf_6 : decode cX7_takenIf 6 = .ok (.getfield 13, 3) := by decide +kernel
theorem dX7_takenIf_9 : decode cX7_takenIf 9 = .ok (.iconst 0, 1) := by decide +kernel
theorem dX7_takenIf_10 : decode cX7_takenIf 10 = .ok (.invokestatic 32, 3) := by decide +kernel
theorem dX7_takenIf_13 : decode cX7_takenIf 13 = .ok (.aload_n 0, 1) := by decide +kernel
theorem dX7_takenIf_14 : decode cX7_takenIf 14 = .ok (.iload_n 1, 1) := by decide +kernel
theorem dX7_takenIf_15 : decode cX7_takenIf 15 = .ok (.iload_n 2, 1) := by decide +kernel
theorem dX7_takenIf_16 : decode cX7_takenIf 16 = .ok (.invokevirtual 103, 3) := by decide +kernel
theorem dX7_takenIf_19 : decode cX7_takenIf 19 = .ok (.istore 4, 2) := by decide +kernel
theorem dX7_takenIf_21 : decode cX7_takenIf 21 = .ok (.aload_n 0, 1) := by decide +kernel
theorem dX7_takenIf_22 : decode cX7_takenIf 22 = .ok (.getfield 13, 3) := by decide +kernel
theorem dX7_takenIf_25 : decode cX7_takenIf 25 = .ok (.iconst 0, 1) := by decide +kernel
theorem dX7_takenIf_26 : decode cX7_takenIf 26 = .ok (.aload_n 0, 1) := by decide +kernel
theorem dX7_takenIf_27 : decode cX7_takenIf 27 = .ok (.getfield 7, 3) := by decide +kernel
theorem dX7_takenIf_30 : decode cX7_takenIf 30 = .ok (.iconst 0, 1) := by decide +kernel
theorem dX7_takenIf_31 : decode cX7_takenIf 31 = .ok (.invokestatic 32, 3) := by decide +kernel
theorem dX7_takenIf_34 : decode cX7_takenIf 34 = .ok (.iload_n 3, 1) := by decide +kernel
theorem dX7_takenIf_35 : decode cX7_takenIf 35 = .ok (.ifCond .ne 10, 3) := by decide +kernel
theorem dX7_takenIf_38 : decode cX7_takenIf 38 = .ok (.aload_n 0, 1) := by decide +kernel
theorem dX7_takenIf_39 : decode cX7_takenIf 39 = .ok (.getfield 72, 3) := by decide +kernel
theorem dX7_takenIf_42 : decode cX7_takenIf 42 = .ok (.goto 17, 3) := by decide +kernel
theorem dX7_takenIf_45 : decode cX7_takenIf 45 = .ok (.iload_n 3, 1) := by decide +kernel
theorem dX7_takenIf_46 : decode cX7_takenIf 46 = .ok (.iconst 1, 1) := by decide +kernel
theorem dX7_takenIf_47 : decode cX7_takenIf 47 = .ok (.if_icmp .ne 8, 3) := by decide +kernel
theorem dX7_takenIf_50 : decode cX7_takenIf 50 = .ok (.iload 4, 2) := by decide +kernel
theorem dX7_takenIf_52 : decode cX7_takenIf 52 = .ok (.goto 7, 3) := by decide +kernel
theorem dX7_takenIf_55 : decode cX7_takenIf 55 = .ok (.aload_n 0, 1) := by decide +kernel
theorem dX7_takenIf_56 : decode cX7_takenIf 56 = .ok (.getfield 75, 3) := by decide +kernel
theorem dX7_takenIf_59 : decode cX7_takenIf 59 = .ok (.ireturn, 1) := by decide +kernel
theorem dX7_ifTaken_0 : decode cX7_ifTaken 0 = .ok (.aload_n 0, 1) := by decide +kernel
theorem dX7_ifTaken_1 : decode cX7_ifTaken 1 = .ok (.iload_n 1, 1) := by decide +kernel
theorem dX7_ifTaken_2 : decode cX7_ifTaken 2 = .ok (.invokestatic 100, 3) := by decide +kernel
theorem dX7_ifTaken_5 : decode cX7_ifTaken 5 = .ok (.ifCond .ne 7, 3) := by decide +kernel
theorem dX7_ifTaken_8 : decode cX7_ifTaken 8 = .ok (.iconst 1, 1) := by decide +kernel
theorem dX7_ifTaken_9 : decode cX7_ifTaken 9 = .ok (.goto 27, 3) := by decide +kernel
theorem dX7_ifTaken_12 : decode cX7_ifTaken 12 = .ok (.iload_n 2, 1) := by decide +kernel
theorem dX7_ifTaken_13 : decode cX7_ifTaken 13 = .ok (.iconst 1, 1) := by decide +kernel
theorem dX7_ifTaken_14 : decode cX7_ifTaken 14 = .ok (.bipush 24, 2) := by decide +kernel
theorem dX7_ifTaken_16 : decode cX7_ifTaken 16 = .ok (.invokestatic 36, 3) := by decide +kernel
theorem dX7_ifTaken_19 : decode cX7_ifTaken 19 = .ok (.ifCond .eq 16, 3) := by decide +kernel
theorem dX7_ifTaken_22 : decode cX7_ifTaken 22 = .ok (.iload_n 3, 1) := by decide +kernel
theorem dX7_ifTaken_23 : decode cX7_ifTaken 23 = .ok (.iconst 0, 1) := by decide +kernel
theorem dX7_ifTaken_24 : decode cX7_ifTaken 24 = .ok (.iconst 2, 1) := by decide +kernel
theorem dX7_ifTaken_25 : decode cX7_ifTaken 25 = .ok (.invokestatic 36, 3) := by decide +kernel
theorem dX7_ifTaken_28 : decode cX7_ifTaken 28 = .ok (.ifCond .eq 7, 3) := by decide +kernel
theorem dX7_ifTaken_31 : decode cX7_ifTaken 31 = .ok (.iconst 0, 1) := by decide +kernel
theorem dX7_ifTaken_32 : decode cX7_ifTaken 32 = .ok (.goto 4, 3) := by decide +kernel
theorem dX7_ifTaken_35 : decode cX7_ifTaken 35 = .ok (.iconst 2, 1) := by decide +kernel
theorem dX7_ifTaken_36 : decode cX7_ifTaken 36 = .ok (.putfield 25, 3) := by decide +kernel
theorem dX7_ifTaken_39 : decode cX7_ifTaken 39 = .ok (.aload_n 0, 1) := by decide +kernel
theorem dX7_ifTaken_40 : decode cX7_ifTaken 40 = .ok (.getfield 25, 3) := by decide +kernel
theorem dX7_ifTaken_43 : decode cX7_ifTaken 43 = .ok (.ifCond .le 7, 3) := by decide +kernel
theorem dX7_ifTaken_46 : decode cX7_ifTaken 46 = .ok (.iconst 0, 1) := by decide +kernel
theorem dX7_ifTaken_47 : decode cX7_ifTaken 47 = .ok (.goto 10, 3) := by decide +kernel
theorem dX7_ifTaken_50 : decode cX7_ifTaken 50 = .ok (.aload_n 0, 1) := by decide +kernel
theorem dX7_ifTaken_51 : decode cX7_ifTaken 51 = .ok (.iload_n 1, 1) := by decide +kernel
theorem dX7_ifTaken_52 : decode cX7_ifTaken 52 = .ok (.iload_n 2, 1) := by decide +kernel
theorem dX7_ifTaken_53 : decode cX7_ifTaken 53 = .ok (.iload_n 3, 1) := by decide +kernel
theorem dX7_ifTaken_54 : decode cX7_ifTaken 54 = .ok (.invokevirtual 160, 3) := by decide +kernel
theorem dX7_ifTaken_57 : decode cX7_ifTaken 57 = .ok (.ireturn, 1) := by decide +kernel
theorem dX7_passedIf_0 : decode cX7_passedIf 0 = .ok (.aload_n 0, 1) := by decide +kernel
theorem dX7_passedIf_1 : decode cX7_passedIf 1 = .ok (.getfield 7, 3) := by decide +kernel
theorem dX7_passedIf_4 : decode cX7_passedIf 4 = .ok (.iconst 0, 1) := by decide +kernel
theorem dX7_passedIf_5 : decode cX7_passedIf 5 = .ok (.aload_n 0, 1) := by decide +kernel
theorem dX7_passedIf_6 : decode cX7_passedIf 6 = .ok (.getfield 13, 3) := by decide +kernel
theorem dX7_passedIf_9 : decode cX7_passedIf 9 = .ok (.iconst 0, 1) := by decide +kernel
theorem dX7_passedIf_10 : decode cX7_passedIf 10 = .ok (.invokestatic 32, 3) := by decide +kernel
theorem dX7_passedIf_13 : decode cX7_passedIf 13 = .ok (.aload_n 0, 1) := by decide +kernel
theorem dX7_passedIf_14 : decode cX7_passedIf 14 = .ok (.iload_n 1, 1) := by decide +kernel
theorem dX7_passedIf_15 : decode cX7_passedIf 15 = .ok (.invokevirtual 109, 3) := by decide +kernel
theorem dX7_passedIf_18 : decode cX7_passedIf 18 = .ok (.istore_n 3, 1) := by decide +kernel
theorem dX7_passedIf_19 : decode cX7_passedIf 19 = .ok (.aload_n 0, 1) := by decide +kernel
theorem dX7_passedIf_20 : decode cX7_passedIf 20 = .ok (.iconst 3, 1) := by decide +kernel
theorem dX7_passedIf_21 : decode cX7_passedIf 21 = .ok (.invokevirtual 145, 3) := by decide +kernel
theorem dX7_passedIf_24 : decode cX7_passedIf 24 = .ok (.istore 4, 2) := by decide +kernel
theorem dX7_passedIf_26 : decode cX7_passedIf 26 = .ok (.aload_n 0, 1) := by decide +kernel
theorem dX7_passedIf_27 : decode cX7_passedIf 27 = .ok (.getfield 13, 3) := by decide +kernel
theorem dX7_passedIf_30 : decode cX7_passedIf 30 = .ok (.iconst 0, 1) := by decide +kernel
theorem dX7_passedIf_31 : decode cX7_passedIf 31 = .ok (.aload_n 0, 1) := by decide +kernel
theorem dX7_passedIf_32 : decode cX7_passedIf 32 = .ok (.getfield 7, 3) := by decide +kernel
theorem dX7_passedIf_35 : decode cX7_passedIf 35 = .ok (.iconst 0, 1) := by decide +kernel
theorem dX7_passedIf_36 : decode cX7_passedIf 36 = .ok (.invokestatic 32, 3) := by decide +kernel
theorem dX7_passedIf_39 : decode cX7_passedIf 39 = .ok (.iload_n 2, 1) := by decide +kernel
theorem dX7_passedIf_40 : decode cX7_passedIf 40 = .ok (.ifCond .ne 7, 3) := by decide +kernel
theorem dX7_passedIf_43 : decode cX7_passedIf 43 = .ok (.iload_n 3, 1) := by decide +kernel
theorem dX7_passedIf_44 : decode cX7_passedIf 44 = .ok (.goto 5, 3) := by decide +kernel
theorem dX7_passedIf_47 : decode cX7_passedIf 47 = .ok (.iload 4, 2) := by decide +kernel
theorem dX7_passedIf_49 : decode cX7_passedIf 49 = .ok (.ireturn, 1) := by decide +kernel
theorem dX7_ifPassed_0 : decode cX7_ifPassed 0 = .ok (.aload_n 0, 1) := by decide +kernel
theorem dX7_ifPassed_1 : decode cX7_ifPassed 1 = .ok (.iload_n 1, 1) := by decide +kernel
theorem dX7_ifPassed_2 : decode cX7_ifPassed 2 = .ok (.iconst 0, 1) := by decide +kernel
theorem dX7_ifPassed_3 : decode cX7_ifPassed 3 = .ok (.sipush 200, 3) := by decide +kernel
theorem dX7_ifPassed_6 : decode cX7_ifPassed 6 = .ok (.invokestatic 36, 3) := by decide +kernel
theorem dX7_ifPassed_9 : decode cX7_ifPassed 9 = .ok (.ifCond .eq 16, 3) := by decide +kernel
theorem dX7_ifPassed_12 : decode cX7_ifPassed 12 = .ok (.iload_n 2, 1) := by decide +kernel
theorem dX7_ifPassed_13 : decode cX7_ifPassed 13 = .ok (.iconst 0, 1) := by decide +kernel
theorem dX7_ifPassed_14 : decode cX7_ifPassed 14 = .ok (.iconst 1, 1) := by decide +kernel
theorem dX7_ifPassed_15 : decode cX7_ifPassed 15 = .ok (.invokestatic 36, 3) := by decide +kernel
theorem dX7_ifPassed_18 : decode cX7_ifPassed 18 = .ok (.ifCond .eq 7, 3) := by decide +kernel
theorem dX7_ifPassed_21 : decode cX7_ifPassed 21 = .ok (.iconst 0, 1) := by decide +kernel
theorem dX7_ifPassed_22 : decode cX7_ifPassed 22 = .ok (.goto 4, 3) := by decide +kernel
theorem dX7_ifPassed_25 : decode cX7_ifPassed 25 = .ok (.iconst 1, 1) := by decide +kernel
theorem dX7_ifPassed_26 : decode cX7_ifPassed 26 = .ok (.putfield 25, 3) := by decide +kernel
theorem dX7_ifPassed_29 : decode cX7_ifPassed 29 = .ok (.aload_n 0, 1) := by decide +kernel
theorem dX7_ifPassed_30 : decode cX7_ifPassed 30 = .ok (.getfield 25, 3) := by decide +kernel
theorem dX7_ifPassed_33 : decode cX7_ifPassed 33 = .ok (.ifCond .le 7, 3) := by decide +kernel
theorem dX7_ifPassed_36 : decode cX7_ifPassed 36 = .ok (.iconst 0, 1) := by decide +kernel
theorem dX7_ifPassed_37 : decode cX7_ifPassed 37 = .ok (.goto 9, 3) := by decide +kernel
theorem dX7_ifPassed_40 : decode cX7_ifPassed 40 = .ok (.aload_n 0, 1) := by decide +kernel
theorem dX7_ifPassed_41 : decode cX7_ifPassed 41 = .ok (.iload_n 1, 1) := by decide +kernel
theorem dX7_ifPassed_42 : decode cX7_ifPassed 42 = .ok (.iload_n 2, 1) := by decide +kernel
theorem dX7_ifPassed_43 : decode cX7_ifPassed 43 = .ok (.invokevirtual 163, 3) := by decide +kernel
theorem dX7_ifPassed_46 : decode cX7_ifPassed 46 = .ok (.ireturn, 1) := by decide +kernel
theorem dX7_freestOf_0 : decode cX7_freestOf 0 = .ok (.iconst (-1), 1) := by decide +kernel
theorem dX7_freestOf_1 : decode cX7_freestOf 1 = .ok (.istore_n 1, 1) := by decide +kernel
theorem dX7_freestOf_2 : decode cX7_freestOf 2 = .ok (.iconst 0, 1) := by decide +kernel
theorem dX7_freestOf_3 : decode cX7_freestOf 3 = .ok (.istore_n 2, 1) := by decide +kernel
theorem dX7_freestOf_4 : decode cX7_freestOf 4 = .ok (.iconst 0, 1) := by decide +kernel
theorem dX7_freestOf_5 : decode cX7_freestOf 5 = .ok (.istore_n 3, 1) := by decide +kernel
theorem dX7_freestOf_6 : decode cX7_freestOf 6 = .ok (.iload_n 3, 1) := by decide +kernel
theorem dX7_freestOf_7 : decode cX7_freestOf 7 = .ok (.iconst 4, 1) := by decide +kernel
theorem dX7_freestOf_8 : decode cX7_freestOf 8 = .ok (.if_icmp .ge 44, 3) := by decide +kernel
theorem dX7_freestOf_11 : decode cX7_freestOf 11 = .ok (.aload_n 0, 1) := by decide +kernel
theorem dX7_freestOf_12 : decode cX7_freestOf 12 = .ok (.iload_n 3, 1) := by decide +kernel
theorem dX7_freestOf_13 : decode cX7_freestOf 13 = .ok (.bipush 24, 2) := by decide +kernel
theorem dX7_freestOf_15 : decode cX7_freestOf 15 = .ok (.iconst 0, 1) := by decide +kernel
theorem dX7_freestOf_16 : decode cX7_freestOf 16 = .ok (.invokevirtual 160, 3) := by decide +kernel
theorem dX7_freestOf_19 : decode cX7_freestOf 19 = .ok (.istore 4, 2) := by decide +kernel
theorem dX7_freestOf_21 : decode cX7_freestOf 21 = .ok (.iload 4, 2) := by decide +kernel
theorem dX7_freestOf_23 : decode cX7_freestOf 23 = .ok (.iload_n 2, 1) := by decide +kernel
theorem dX7_freestOf_24 : decode cX7_freestOf 24 = .ok (.if_icmp .le 7, 3) := by decide +kernel
theorem dX7_freestOf_27 : decode cX7_freestOf 27 = .ok (.iload_n 3, 1) := by decide +kernel
theorem dX7_freestOf_28 : decode cX7_freestOf 28 = .ok (.goto 4, 3) := by decide +kernel
theorem dX7_freestOf_31 : decode cX7_freestOf 31 = .ok (.iload_n 1, 1) := by decide +kernel
theorem dX7_freestOf_32 : decode cX7_freestOf 32 = .ok (.istore_n 1, 1) := by decide +kernel
theorem dX7_freestOf_33 : decode cX7_freestOf 33 = .ok (.iload 4, 2) := by decide +kernel
theorem dX7_freestOf_35 : decode cX7_freestOf 35 = .ok (.iload_n 2, 1) := by decide +kernel
theorem dX7_freestOf_36 : decode cX7_freestOf 36 = .ok (.if_icmp .le 8, 3) := by decide +kernel
theorem dX7_freestOf_39 : decode cX7_freestOf 39 = .ok (.iload 4, 2) := by decide +kernel
theorem dX7_freestOf_41 : decode cX7_freestOf 41 = .ok (.goto 4, 3) := by decide +kernel
theorem dX7_freestOf_44 : decode cX7_freestOf 44 = .ok (.iload_n 2, 1) := by decide +kernel
theorem dX7_freestOf_45 : decode cX7_freestOf 45 = .ok (.istore_n 2, 1) := by decide +kernel
theorem dX7_freestOf_46 : decode cX7_freestOf 46 = .ok (.iinc 3 1, 3) := by decide +kernel
theorem dX7_freestOf_49 : decode cX7_freestOf 49 = .ok (.goto (-43), 3) := by decide +kernel
theorem dX7_freestOf_52 : decode cX7_freestOf 52 = .ok (.iload_n 1, 1) := by decide +kernel
theorem dX7_freestOf_53 : decode cX7_freestOf 53 = .ok (.ireturn, 1) := by decide +kernel
theorem dX7_freest_0 : decode cX7_freest 0 = .ok (.aload_n 0, 1) := by decide +kernel
theorem dX7_freest_1 : decode cX7_freest 1 = .ok (.iconst 0, 1) := by decide +kernel
theorem dX7_freest_2 : decode cX7_freest 2 = .ok (.putfield 25, 3) := by decide +kernel
theorem dX7_freest_5 : decode cX7_freest 5 = .ok (.aload_n 0, 1) := by decide +kernel
theorem dX7_freest_6 : decode cX7_freest 6 = .ok (.invokevirtual 166, 3) := by decide +kernel
theorem dX7_freest_9 : decode cX7_freest 9 = .ok (.ireturn, 1) := by decide +kernel
theorem dX7_mostSkips_0 : decode cX7_mostSkips 0 = .ok (.iconst 0, 1) := by decide +kernel
theorem dX7_mostSkips_1 : decode cX7_mostSkips 1 = .ok (.istore_n 1, 1) := by decide +kernel
theorem dX7_mostSkips_2 : decode cX7_mostSkips 2 = .ok (.iconst 0, 1) := by decide +kernel
theorem dX7_mostSkips_3 : decode cX7_mostSkips 3 = .ok (.istore_n 2, 1) := by decide +kernel
theorem dX7_mostSkips_4 : decode cX7_mostSkips 4 = .ok (.iload_n 2, 1) := by decide +kernel
theorem dX7_mostSkips_5 : decode cX7_mostSkips 5 = .ok (.aload_n 0, 1) := by decide +kernel
theorem dX7_mostSkips_6 : decode cX7_mostSkips 6 = .ok (.getfield 7, 3) := by decide +kernel
theorem dX7_mostSkips_9 : decode cX7_mostSkips 9 = .ok (.iconst 0, 1) := by decide +kernel
theorem dX7_mostSkips_10 : decode cX7_mostSkips 10 = .ok (.iaload, 1) := by decide +kernel
theorem dX7_mostSkips_11 : decode cX7_mostSkips 11 = .ok (.if_icmp .ge 41, 3) := by decide +kernel
theorem dX7_mostSkips_14 : decode cX7_mostSkips 14 = .ok (.aload_n 0, 1) := by decide +kernel
theorem dX7_mostSkips_15 : decode cX7_mostSkips 15 = .ok (.iload_n 2, 1) := by decide +kernel
theorem dX7_mostSkips_16 : decode cX7_mostSkips 16 = .ok (.iconst 3, 1) := by decide +kernel
theorem dX7_mostSkips_17 : decode cX7_mostSkips 17 = .ok (.invokevirtual 40, 3) := by decide +kernel
theorem dX7_mostSkips_20 : decode cX7_mostSkips 20 = .ok (.ifCond .ne 24, 3) := by decide +kernel
theorem dX7_mostSkips_23 : decode cX7_mostSkips 23 = .ok (.aload_n 0, 1) := by decide +kernel
theorem dX7_mostSkips_24 : decode cX7_mostSkips 24 = .ok (.iload_n 2, 1) := by decide +kernel
theorem dX7_mostSkips_25 : decode cX7_mostSkips 25 = .ok (.bipush 7, 2) := by decide +kernel
theorem dX7_mostSkips_27 : decode cX7_mostSkips 27 = .ok (.invokevirtual 40, 3) := by decide +kernel
theorem dX7_mostSkips_30 : decode cX7_mostSkips 30 = .ok (.iload_n 1, 1) := by decide +kernel
theorem dX7_mostSkips_31 : decode cX7_mostSkips 31 = .ok (.if_icmp .le 13, 3) := by decide +kernel
theorem dX7_mostSkips_34 : decode cX7_mostSkips 34 = .ok (.aload_n 0, 1) := by decide +kernel
theorem dX7_mostSkips_35 : decode cX7_mostSkips 35 = .ok (.iload_n 2, 1) := by decide +kernel
theorem dX7_mostSkips_36 : decode cX7_mostSkips 36 = .ok (.bipush 7, 2) := by decide +kernel
theorem dX7_mostSkips_38 : decode cX7_mostSkips 38 = .ok (.invokevirtual 40, 3) := by decide +kernel
theorem dX7_mostSkips_41 : decode cX7_mostSkips 41 = .ok (.goto 4, 3) := by decide +kernel
theorem dX7_mostSkips_44 : decode cX7_mostSkips 44 = .ok (.iload_n 1, 1) := by decide +kernel
theorem dX7_mostSkips_45 : decode cX7_mostSkips 45 = .ok (.istore_n 1, 1) := by decide +kernel
theorem dX7_mostSkips_46 : decode cX7_mostSkips 46 = .ok (.iinc 2 1, 3) := by decide +kernel
theorem dX7_mostSkips_49 : decode cX7_mostSkips 49 = .ok (.goto (-45), 3) := by decide +kernel
theorem dX7_mostSkips_52 : decode cX7_mostSkips 52 = .ok (.iload_n 1, 1) := by decide +kernel
theorem dX7_mostSkips_53 : decode cX7_mostSkips 53 = .ok (.ireturn, 1) := by decide +kernel
theorem dX7_fairness_0 : decode cX7_fairness 0 = .ok (.aload_n 0, 1) := by decide +kernel
theorem dX7_fairness_1 : decode cX7_fairness 1 = .ok (.iconst 0, 1) := by decide +kernel
theorem dX7_fairness_2 : decode cX7_fairness 2 = .ok (.putfield 25, 3) := by decide +kernel
theorem dX7_fairness_5 : decode cX7_fairness 5 = .ok (.dconst 1, 1) := by decide +kernel
theorem dX7_fairness_6 : decode cX7_fairness 6 = .ok (.dconst 1, 1) := by decide +kernel
theorem dX7_fairness_7 : decode cX7_fairness 7 = .ok (.aload_n 0, 1) := by decide +kernel
theorem dX7_fairness_8 : decode cX7_fairness 8 = .ok (.invokevirtual 169, 3) := by decide +kernel
theorem dX7_fairness_11 : decode cX7_fairness 11 = .ok (.i2d, 1) := by decide +kernel
theorem dX7_fairness_12 : decode cX7_fairness 12 = .ok (.dadd, 1) := by decide +kernel
theorem dX7_fairness_13 : decode cX7_fairness 13 = .ok (.ddiv, 1) := by decide +kernel
theorem dX7_fairness_14 : decode cX7_fairness 14 = .ok (.dreturn, 1) := by decide +kernel
theorem dX7_bitsOfOneBy_0 : decode cX7_bitsOfOneBy 0 = .ok (.lconst 1, 1) := by decide +kernel
theorem dX7_bitsOfOneBy_1 : decode cX7_bitsOfOneBy 1 = .ok (.lstore_n 2, 1) := by decide +kernel
theorem dX7_bitsOfOneBy_2 : decode cX7_bitsOfOneBy 2 = .ok (.ldc2_w 172, 3) := by decide +kernel
theorem dX7_bitsOfOneBy_5 : decode cX7_bitsOfOneBy 5 = .ok (.lstore 4, 2) := by decide +kernel
theorem dX7_bitsOfOneBy_7 : decode cX7_bitsOfOneBy 7 = .ok (.lload_n 2, 1) := by decide +kernel
theorem dX7_bitsOfOneBy_8 : decode cX7_bitsOfOneBy 8 = .ok (.lload_n 0, 1) := by decide +kernel
theorem dX7_bitsOfOneBy_9 : decode cX7_bitsOfOneBy 9 = .ok (.lcmp, 1) := by decide +kernel
theorem dX7_bitsOfOneBy_10 : decode cX7_bitsOfOneBy 10 = .ok (.ifCond .ge 18, 3) := by decide +kernel
theorem dX7_bitsOfOneBy_13 : decode cX7_bitsOfOneBy 13 = .ok (.lload_n 2, 1) := by decide +kernel
theorem dX7_bitsOfOneBy_14 : decode cX7_bitsOfOneBy 14 = .ok (.ldc2_w 174, 3) := by decide +kernel
theorem dX7_bitsOfOneBy_17 : decode cX7_bitsOfOneBy 17 = .ok (.lmul, 1) := by decide +kernel
theorem dX7_bitsOfOneBy_18 : decode cX7_bitsOfOneBy 18 = .ok (.lstore_n 2, 1) := by decide +kernel
theorem dX7_bitsOfOneBy_19 : decode cX7_bitsOfOneBy 19 = .ok (.lload 4, 2) := by decide +kernel
theorem dX7_bitsOfOneBy_21 : decode cX7_bitsOfOneBy 21 = .ok (.lconst 1, 1) := by decide +kernel
theorem dX7_bitsOfOneBy_22 : decode cX7_bitsOfOneBy 22 = .ok (.lsub, 1) := by decide +kernel
theorem dX7_bitsOfOneBy_23 : decode cX7_bitsOfOneBy 23 = .ok (.lstore 4, 2) := by decide +kernel
theorem dX7_bitsOfOneBy_25 : decode cX7_bitsOfOneBy 25 = .ok (.goto (-18), 3) := by decide +kernel
theorem dX7_bitsOfOneBy_28 : decode cX7_bitsOfOneBy 28 = .ok (.lconst 0, 1) := by decide +kernel
theorem dX7_bitsOfOneBy_29 : decode cX7_bitsOfOneBy 29 = .ok (.lstore 6, 2) := by decide +kernel
theorem dX7_bitsOfOneBy_31 : decode cX7_bitsOfOneBy 31 = .ok (.iconst 0, 1) := by decide +kernel
theorem dX7_bitsOfOneBy_32 : decode cX7_bitsOfOneBy 32 = .ok (.istore 8, 2) := by decide +kernel
theorem dX7_bitsOfOneBy_34 : decode cX7_bitsOfOneBy 34 = .ok (.iload 8, 2) := by decide +kernel
theorem dX7_bitsOfOneBy_36 : decode cX7_bitsOfOneBy 36 = .ok (.bipush 53, 2) := by decide +kernel
theorem dX7_bitsOfOneBy_38 : decode cX7_bitsOfOneBy 38 = .ok (.if_icmp .ge 47, 3) := by decide +kernel
theorem dX7_bitsOfOneBy_41 : decode cX7_bitsOfOneBy 41 = .ok (.ldc2_w 174, 3) := by decide +kernel
theorem dX7_bitsOfOneBy_44 : decode cX7_bitsOfOneBy 44 = .ok (.lload 6, 2) := by decide +kernel
theorem dX7_bitsOfOneBy_46 : decode cX7_bitsOfOneBy 46 = .ok (.lmul, 1) := by decide +kernel
theorem dX7_bitsOfOneBy_47 : decode cX7_bitsOfOneBy 47 = .ok (.lload_n 2, 1) := by decide +kernel
theorem dX7_bitsOfOneBy_48 : decode cX7_bitsOfOneBy 48 = .ok (.lload_n 0, 1) := by decide +kernel
theorem dX7_bitsOfOneBy_49 : decode cX7_bitsOfOneBy 49 = .ok (.lcmp, 1) := by decide +kernel
theorem dX7_bitsOfOneBy_50 : decode cX7_bitsOfOneBy 50 = .ok (.ifCond .lt 7, 3) := by decide +kernel
theorem dX7_bitsOfOneBy_53 : decode cX7_bitsOfOneBy 53 = .ok (.lconst 1, 1) := by decide +kernel
theorem dX7_bitsOfOneBy_54 : decode cX7_bitsOfOneBy 54 = .ok (.goto 4, 3) := by decide +kernel
theorem dX7_bitsOfOneBy_57 : decode cX7_bitsOfOneBy 57 = .ok (.lconst 0, 1) := by decide +kernel
theorem dX7_bitsOfOneBy_58 : decode cX7_bitsOfOneBy 58 = .ok (.ladd, 1) := by decide +kernel
theorem dX7_bitsOfOneBy_59 : decode cX7_bitsOfOneBy 59 = .ok (.lstore 6, 2) := by decide +kernel
theorem dX7_bitsOfOneBy_61 : decode cX7_bitsOfOneBy 61 = .ok (.ldc2_w 174, 3) := by decide +kernel
theorem dX7_bitsOfOneBy_64 : decode cX7_bitsOfOneBy 64 = .ok (.lload_n 2, 1) := by decide +kernel
theorem dX7_bitsOfOneBy_65 : decode cX7_bitsOfOneBy 65 = .ok (.lload_n 0, 1) := by decide +kernel
theorem dX7_bitsOfOneBy_66 : decode cX7_bitsOfOneBy 66 = .ok (.lcmp, 1) := by decide +kernel
theorem dX7_bitsOfOneBy_67 : decode cX7_bitsOfOneBy 67 = .ok (.ifCond .lt 9, 3) := by decide +kernel
theorem dX7_bitsOfOneBy_70 : decode cX7_bitsOfOneBy 70 = .ok (.lload_n 2, 1) := by decide +kernel
theorem dX7_bitsOfOneBy_71 : decode cX7_bitsOfOneBy 71 = .ok (.lload_n 0, 1) := by decide +kernel
theorem dX7_bitsOfOneBy_72 : decode cX7_bitsOfOneBy 72 = .ok (.lsub, 1) := by decide +kernel
theorem dX7_bitsOfOneBy_73 : decode cX7_bitsOfOneBy 73 = .ok (.goto 4, 3) := by decide +kernel
theorem dX7_bitsOfOneBy_76 : decode cX7_bitsOfOneBy 76 = .ok (.lload_n 2, 1) := by decide +kernel
theorem dX7_bitsOfOneBy_77 : decode cX7_bitsOfOneBy 77 = .ok (.lmul, 1) := by decide +kernel
theorem dX7_bitsOfOneBy_78 : decode cX7_bitsOfOneBy 78 = .ok (.lstore_n 2, 1) := by decide +kernel
theorem dX7_bitsOfOneBy_79 : decode cX7_bitsOfOneBy 79 = .ok (.iinc 8 1, 3) := by decide +kernel
theorem dX7_bitsOfOneBy_82 : decode cX7_bitsOfOneBy 82 = .ok (.goto (-48), 3) := by decide +kernel
theorem dX7_bitsOfOneBy_85 : decode cX7_bitsOfOneBy 85 = .ok (.lload 6, 2) := by decide +kernel
theorem dX7_bitsOfOneBy_87 : decode cX7_bitsOfOneBy 87 = .ok (.lload_n 2, 1) := by decide +kernel
theorem dX7_bitsOfOneBy_88 : decode cX7_bitsOfOneBy 88 = .ok (.lload_n 0, 1) := by decide +kernel
theorem dX7_bitsOfOneBy_89 : decode cX7_bitsOfOneBy 89 = .ok (.lcmp, 1) := by decide +kernel
theorem dX7_bitsOfOneBy_90 : decode cX7_bitsOfOneBy 90 = .ok (.ifCond .gt 20, 3) := by decide +kernel
theorem dX7_bitsOfOneBy_93 : decode cX7_bitsOfOneBy 93 = .ok (.lload_n 2, 1) := by decide +kernel
theorem dX7_bitsOfOneBy_94 : decode cX7_bitsOfOneBy 94 = .ok (.lload_n 0, 1) := by decide +kernel
theorem dX7_bitsOfOneBy_95 : decode cX7_bitsOfOneBy 95 = .ok (.lcmp, 1) := by decide +kernel
theorem dX7_bitsOfOneBy_96 : decode cX7_bitsOfOneBy 96 = .ok (.ifCond .ne 18, 3) := by decide +kernel
theorem dX7_bitsOfOneBy_99 : decode cX7_bitsOfOneBy 99 = .ok (.lload 6, 2) := by decide +kernel
theorem dX7_bitsOfOneBy_101 : decode cX7_bitsOfOneBy 101 = .ok (.ldc2_w 174, 3) := by decide +kernel
theorem dX7_bitsOfOneBy_104 : decode cX7_bitsOfOneBy 104 = .ok (.lrem, 1) := by decide +kernel
theorem dX7_bitsOfOneBy_105 : decode cX7_bitsOfOneBy 105 = .ok (.lconst 1, 1) := by decide +kernel
theorem dX7_bitsOfOneBy_106 : decode cX7_bitsOfOneBy 106 = .ok (.lcmp, 1) := by decide +kernel
theorem dX7_bitsOfOneBy_107 : decode cX7_bitsOfOneBy 107 = .ok (.ifCond .ne 7, 3) := by decide +kernel
theorem dX7_bitsOfOneBy_110 : decode cX7_bitsOfOneBy 110 = .ok (.lconst 1, 1) := by decide +kernel
theorem dX7_bitsOfOneBy_111 : decode cX7_bitsOfOneBy 111 = .ok (.goto 4, 3) := by decide +kernel
theorem dX7_bitsOfOneBy_114 : decode cX7_bitsOfOneBy 114 = .ok (.lconst 0, 1) := by decide +kernel
theorem dX7_bitsOfOneBy_115 : decode cX7_bitsOfOneBy 115 = .ok (.ladd, 1) := by decide +kernel
theorem dX7_bitsOfOneBy_116 : decode cX7_bitsOfOneBy 116 = .ok (.lstore 6, 2) := by decide +kernel
theorem dX7_bitsOfOneBy_118 : decode cX7_bitsOfOneBy 118 = .ok (.lload 6, 2) := by decide +kernel
theorem dX7_bitsOfOneBy_120 : decode cX7_bitsOfOneBy 120 = .ok (.ldc2_w 176, 3) := by decide +kernel
theorem dX7_bitsOfOneBy_123 : decode cX7_bitsOfOneBy 123 = .ok (.lcmp, 1) := by decide +kernel
theorem dX7_bitsOfOneBy_124 : decode cX7_bitsOfOneBy 124 = .ok (.ifCond .ne 14, 3) := by decide +kernel
theorem dX7_bitsOfOneBy_127 : decode cX7_bitsOfOneBy 127 = .ok (.ldc2_w 178, 3) := by decide +kernel
theorem dX7_bitsOfOneBy_130 : decode cX7_bitsOfOneBy 130 = .ok (.lstore 6, 2) := by decide +kernel
theorem dX7_bitsOfOneBy_132 : decode cX7_bitsOfOneBy 132 = .ok (.lload 4, 2) := by decide +kernel
theorem dX7_bitsOfOneBy_134 : decode cX7_bitsOfOneBy 134 = .ok (.lconst 1, 1) := by decide +kernel
theorem dX7_bitsOfOneBy_135 : decode cX7_bitsOfOneBy 135 = .ok (.ladd, 1) := by decide +kernel
theorem dX7_bitsOfOneBy_136 : decode cX7_bitsOfOneBy 136 = .ok (.lstore 4, 2) := by decide +kernel
theorem dX7_bitsOfOneBy_138 : decode cX7_bitsOfOneBy 138 = .ok (.lload 4, 2) := by decide +kernel
theorem dX7_bitsOfOneBy_140 : decode cX7_bitsOfOneBy 140 = .ok (.bipush 52, 2) := by decide +kernel
theorem dX7_bitsOfOneBy_142 : decode cX7_bitsOfOneBy 142 = .ok (.lshl, 1) := by decide +kernel
theorem dX7_bitsOfOneBy_143 : decode cX7_bitsOfOneBy 143 = .ok (.lload 6, 2) := by decide +kernel
theorem dX7_bitsOfOneBy_145 : decode cX7_bitsOfOneBy 145 = .ok (.ldc2_w 178, 3) := by decide +kernel
theorem dX7_bitsOfOneBy_148 : decode cX7_bitsOfOneBy 148 = .ok (.lsub, 1) := by decide +kernel
theorem dX7_bitsOfOneBy_149 : decode cX7_bitsOfOneBy 149 = .ok (.ladd, 1) := by decide +kernel
theorem dX7_bitsOfOneBy_150 : decode cX7_bitsOfOneBy 150 = .ok (.lreturn, 1) := by decide +kernel
theorem dX7_digest_0 : decode cX7_digest 0 = .ok (.aload_n 0, 1) := by decide +kernel
theorem dX7_digest_1 : decode cX7_digest 1 = .ok (.iconst 0, 1) := by decide +kernel
theorem dX7_digest_2 : decode cX7_digest 2 = .ok (.putfield 25, 3) := by decide +kernel
theorem dX7_digest_5 : decode cX7_digest 5 = .ok (.ldc2_w 180, 3) := by decide +kernel
theorem dX7_digest_8 : decode cX7_digest 8 = .ok (.lstore_n 1, 1) := by decide +kernel
theorem dX7_digest_9 : decode cX7_digest 9 = .ok (.iconst 0, 1) := by decide +kernel
theorem dX7_digest_10 : decode cX7_digest 10 = .ok (.istore_n 3, 1) := by decide +kernel
theorem dX7_digest_11 : decode cX7_digest 11 = .ok (.iload_n 3, 1) := by decide +kernel
theorem dX7_digest_12 : decode cX7_digest 12 = .ok (.bipush 12, 2) := by decide +kernel
theorem dX7_digest_14 : decode cX7_digest 14 = .ok (.if_icmp .gt 22, 3) := by decide +kernel
theorem dX7_digest_17 : decode cX7_digest 17 = .ok (.ldc2_w 182, 3) := by decide +kernel
theorem dX7_digest_20 : decode cX7_digest 20 = .ok (.lload_n 1, 1) := by decide +kernel
theorem dX7_digest_21 : decode cX7_digest 21 = .ok (.lmul, 1) := by decide +kernel
theorem dX7_digest_22 : decode cX7_digest 22 = .ok (.aload_n 0, 1) := by decide +kernel
theorem dX7_digest_23 : decode cX7_digest 23 = .ok (.iload_n 3, 1) := by decide +kernel
theorem dX7_digest_24 : decode cX7_digest 24 = .ok (.invokevirtual 157, 3) := by decide +kernel
theorem dX7_digest_27 : decode cX7_digest 27 = .ok (.i2l, 1) := by decide +kernel
theorem dX7_digest_28 : decode cX7_digest 28 = .ok (.ladd, 1) := by decide +kernel
theorem dX7_digest_29 : decode cX7_digest 29 = .ok (.lstore_n 1, 1) := by decide +kernel
theorem dX7_digest_30 : decode cX7_digest 30 = .ok (.iinc 3 1, 3) := by decide +kernel
theorem dX7_digest_33 : decode cX7_digest 33 = .ok (.goto (-22), 3) := by decide +kernel
theorem dX7_digest_36 : decode cX7_digest 36 = .ok (.iconst 0, 1) := by decide +kernel
theorem dX7_digest_37 : decode cX7_digest 37 = .ok (.istore_n 3, 1) := by decide +kernel
theorem dX7_digest_38 : decode cX7_digest 38 = .ok (.iload_n 3, 1) := by decide +kernel
theorem dX7_digest_39 : decode cX7_digest 39 = .ok (.iconst 4, 1) := by decide +kernel
theorem dX7_digest_40 : decode cX7_digest 40 = .ok (.if_icmp .ge 25, 3) := by decide +kernel
theorem dX7_digest_43 : decode cX7_digest 43 = .ok (.ldc2_w 182, 3) := by decide +kernel
theorem dX7_digest_46 : decode cX7_digest 46 = .ok (.lload_n 1, 1) := by decide +kernel
theorem dX7_digest_47 : decode cX7_digest 47 = .ok (.lmul, 1) := by decide +kernel
theorem dX7_digest_48 : decode cX7_digest 48 = .ok (.aload_n 0, 1) := by decide +kernel
theorem dX7_digest_49 : decode cX7_digest 49 = .ok (.getfield 7, 3) := by decide +kernel
theorem dX7_digest_52 : decode cX7_digest 52 = .ok (.iconst 5, 1) := by decide +kernel
theorem dX7_digest_53 : decode cX7_digest 53 = .ok (.iload_n 3, 1) := by decide +kernel
theorem dX7_digest_54 : decode cX7_digest 54 = .ok (.iadd, 1) := by decide +kernel
theorem dX7_digest_55 : decode cX7_digest 55 = .ok (.iaload, 1) := by decide +kernel
theorem dX7_digest_56 : decode cX7_digest 56 = .ok (.i2l, 1) := by decide +kernel
theorem dX7_digest_57 : decode cX7_digest 57 = .ok (.ladd, 1) := by decide +kernel
theorem dX7_digest_58 : decode cX7_digest 58 = .ok (.lstore_n 1, 1) := by decide +kernel
theorem dX7_digest_59 : decode cX7_digest 59 = .ok (.iinc 3 1, 3) := by decide +kernel
theorem dX7_digest_62 : decode cX7_digest 62 = .ok (.goto (-24), 3) := by decide +kernel
theorem dX7_digest_65 : decode cX7_digest 65 = .ok (.iconst 0, 1) := by decide +kernel
theorem dX7_digest_66 : decode cX7_digest 66 = .ok (.istore_n 3, 1) := by decide +kernel
theorem dX7_digest_67 : decode cX7_digest 67 = .ok (.iload_n 3, 1) := by decide +kernel
theorem dX7_digest_68 : decode cX7_digest 68 = .ok (.aload_n 0, 1) := by decide +kernel
theorem dX7_digest_69 : decode cX7_digest 69 = .ok (.getfield 7, 3) := by decide +kernel
theorem dX7_digest_72 : decode cX7_digest 72 = .ok (.iconst 0, 1) := by decide +kernel
theorem dX7_digest_73 : decode cX7_digest 73 = .ok (.iaload, 1) := by decide +kernel
theorem dX7_digest_74 : decode cX7_digest 74 = .ok (.if_icmp .ge 40, 3) := by decide +kernel
theorem dX7_digest_77 : decode cX7_digest 77 = .ok (.iconst 0, 1) := by decide +kernel
theorem dX7_digest_78 : decode cX7_digest 78 = .ok (.istore 4, 2) := by decide +kernel
theorem dX7_digest_80 : decode cX7_digest 80 = .ok (.iload 4, 2) := by decide +kernel
theorem dX7_digest_82 : decode cX7_digest 82 = .ok (.bipush 10, 2) := by decide +kernel
theorem dX7_digest_84 : decode cX7_digest 84 = .ok (.if_icmp .gt 24, 3) := by decide +kernel
theorem dX7_digest_87 : decode cX7_digest 87 = .ok (.ldc2_w 182, 3) := by decide +kernel
theorem dX7_digest_90 : decode cX7_digest 90 = .ok (.lload_n 1, 1) := by decide +kernel
theorem dX7_digest_91 : decode cX7_digest 91 = .ok (.lmul, 1) := by decide +kernel
theorem dX7_digest_92 : decode cX7_digest 92 = .ok (.aload_n 0, 1) := by decide +kernel
theorem dX7_digest_93 : decode cX7_digest 93 = .ok (.iload_n 3, 1) := by decide +kernel
theorem dX7_digest_94 : decode cX7_digest 94 = .ok (.iload 4, 2) := by decide +kernel
theorem dX7_digest_96 : decode cX7_digest 96 = .ok (.invokevirtual 129, 3) := by decide +kernel
theorem dX7_digest_99 : decode cX7_digest 99 = .ok (.i2l, 1) := by decide +kernel
theorem dX7_digest_100 : decode cX7_digest 100 = .ok (.ladd, 1) := by decide +kernel
theorem dX7_digest_101 : decode cX7_digest 101 = .ok (.lstore_n 1, 1) := by decide +kernel
theorem dX7_digest_102 : decode cX7_digest 102 = .ok (.iinc 4 1, 3) := by decide +kernel
theorem dX7_digest_105 : decode cX7_digest 105 = .ok (.goto (-25), 3) := by decide +kernel
theorem dX7_digest_108 : decode cX7_digest 108 = .ok (.iinc 3 1, 3) := by decide +kernel
theorem dX7_digest_111 : decode cX7_digest 111 = .ok (.goto (-44), 3) := by decide +kernel
theorem dX7_digest_114 : decode cX7_digest 114 = .ok (.iconst 0, 1) := by decide +kernel
theorem dX7_digest_115 : decode cX7_digest 115 = .ok (.istore_n 3, 1) := by decide +kernel
theorem dX7_digest_116 : decode cX7_digest 116 = .ok (.iload_n 3, 1) := by decide +kernel
theorem dX7_digest_117 : decode cX7_digest 117 = .ok (.iconst 4, 1) := by decide +kernel
theorem dX7_digest_118 : decode cX7_digest 118 = .ok (.if_icmp .ge 72, 3) := by decide +kernel
theorem dX7_digest_121 : decode cX7_digest 121 = .ok (.iconst 0, 1) := by decide +kernel
theorem dX7_digest_122 : decode cX7_digest 122 = .ok (.istore 4, 2) := by decide +kernel
theorem dX7_digest_124 : decode cX7_digest 124 = .ok (.iload 4, 2) := by decide +kernel
theorem dX7_digest_126 : decode cX7_digest 126 = .ok (.bipush 6, 2) := by decide +kernel
theorem dX7_digest_128 : decode cX7_digest 128 = .ok (.if_icmp .gt 24, 3) := by decide +kernel
theorem dX7_digest_131 : decode cX7_digest 131 = .ok (.ldc2_w 182, 3) := by decide +kernel
theorem dX7_digest_134 : decode cX7_digest 134 = .ok (.lload_n 1, 1) := by decide +kernel
theorem dX7_digest_135 : decode cX7_digest 135 = .ok (.lmul, 1) := by decide +kernel
theorem dX7_digest_136 : decode cX7_digest 136 = .ok (.aload_n 0, 1) := by decide +kernel
theorem dX7_digest_137 : decode cX7_digest 137 = .ok (.iload_n 3, 1) := by decide +kernel
theorem dX7_digest_138 : decode cX7_digest 138 = .ok (.iload 4, 2) := by decide +kernel
theorem dX7_digest_140 : decode cX7_digest 140 = .ok (.invokevirtual 138, 3) := by decide +kernel
theorem dX7_digest_143 : decode cX7_digest 143 = .ok (.i2l, 1) := by decide +kernel
theorem dX7_digest_144 : decode cX7_digest 144 = .ok (.ladd, 1) := by decide +kernel
theorem dX7_digest_145 : decode cX7_digest 145 = .ok (.lstore_n 1, 1) := by decide +kernel
theorem dX7_digest_146 : decode cX7_digest 146 = .ok (.iinc 4 1, 3) := by decide +kernel
theorem dX7_digest_149 : decode cX7_digest 149 = .ok (.goto (-25), 3) := by decide +kernel
theorem dX7_digest_152 : decode cX7_digest 152 = .ok (.iconst 0, 1) := by decide +kernel
theorem dX7_digest_153 : decode cX7_digest 153 = .ok (.istore 4, 2) := by decide +kernel
theorem dX7_digest_155 : decode cX7_digest 155 = .ok (.iload 4, 2) := by decide +kernel
theorem dX7_digest_157 : decode cX7_digest 157 = .ok (.iconst 2, 1) := by decide +kernel
theorem dX7_digest_158 : decode cX7_digest 158 = .ok (.if_icmp .gt 26, 3) := by decide +kernel
theorem dX7_digest_161 : decode cX7_digest 161 = .ok (.ldc2_w 182, 3) := by decide +kernel
theorem dX7_digest_164 : decode cX7_digest 164 = .ok (.lload_n 1, 1) := by decide +kernel
theorem dX7_digest_165 : decode cX7_digest 165 = .ok (.lmul, 1) := by decide +kernel
theorem dX7_digest_166 : decode cX7_digest 166 = .ok (.aload_n 0, 1) := by decide +kernel
theorem dX7_digest_167 : decode cX7_digest 167 = .ok (.iload_n 3, 1) := by decide +kernel
theorem dX7_digest_168 : decode cX7_digest 168 = .ok (.bipush 24, 2) := by decide +kernel
theorem dX7_digest_170 : decode cX7_digest 170 = .ok (.iload 4, 2) := by decide +kernel
theorem dX7_digest_172 : decode cX7_digest 172 = .ok (.invokevirtual 160, 3) := by decide +kernel
theorem dX7_digest_175 : decode cX7_digest 175 = .ok (.i2l, 1) := by decide +kernel
theorem dX7_digest_176 : decode cX7_digest 176 = .ok (.ladd, 1) := by decide +kernel
theorem dX7_digest_177 : decode cX7_digest 177 = .ok (.lstore_n 1, 1) := by decide +kernel
theorem dX7_digest_178 : decode cX7_digest 178 = .ok (.iinc 4 1, 3) := by decide +kernel
theorem dX7_digest_181 : decode cX7_digest 181 = .ok (.goto (-26), 3) := by decide +kernel
theorem dX7_digest_184 : decode cX7_digest 184 = .ok (.iinc 3 1, 3) := by decide +kernel
theorem dX7_digest_187 : decode cX7_digest 187 = .ok (.goto (-71), 3) := by decide +kernel
theorem dX7_digest_190 : decode cX7_digest 190 = .ok (.iconst 0, 1) := by decide +kernel
theorem dX7_digest_191 : decode cX7_digest 191 = .ok (.istore_n 3, 1) := by decide +kernel
theorem dX7_digest_192 : decode cX7_digest 192 = .ok (.iload_n 3, 1) := by decide +kernel
theorem dX7_digest_193 : decode cX7_digest 193 = .ok (.bipush 8, 2) := by decide +kernel
theorem dX7_digest_195 : decode cX7_digest 195 = .ok (.if_icmp .ge 40, 3) := by decide +kernel
theorem dX7_digest_198 : decode cX7_digest 198 = .ok (.iconst 0, 1) := by decide +kernel
theorem dX7_digest_199 : decode cX7_digest 199 = .ok (.istore 4, 2) := by decide +kernel
theorem dX7_digest_201 : decode cX7_digest 201 = .ok (.iload 4, 2) := by decide +kernel
theorem dX7_digest_203 : decode cX7_digest 203 = .ok (.iconst 3, 1) := by decide +kernel
theorem dX7_digest_204 : decode cX7_digest 204 = .ok (.if_icmp .gt 25, 3) := by decide +kernel
theorem dX7_digest_207 : decode cX7_digest 207 = .ok (.ldc2_w 182, 3) := by decide +kernel
theorem dX7_digest_210 : decode cX7_digest 210 = .ok (.lload_n 1, 1) := by decide +kernel
theorem dX7_digest_211 : decode cX7_digest 211 = .ok (.lmul, 1) := by decide +kernel
theorem dX7_digest_212 : decode cX7_digest 212 = .ok (.aload_n 0, 1) := by decide +kernel
theorem dX7_digest_213 : decode cX7_digest 213 = .ok (.iload_n 3, 1) := by decide +kernel
theorem dX7_digest_214 : decode cX7_digest 214 = .ok (.iconst (-1), 1) := by decide +kernel
theorem dX7_digest_215 : decode cX7_digest 215 = .ok (.iload 4, 2) := by decide +kernel
theorem dX7_digest_217 : decode cX7_digest 217 = .ok (.invokevirtual 141, 3) := by decide +kernel
theorem dX7_digest_220 : decode cX7_digest 220 = .ok (.i2l, 1) := by decide +kernel
theorem dX7_digest_221 : decode cX7_digest 221 = .ok (.ladd, 1) := by decide +kernel
theorem dX7_digest_222 : decode cX7_digest 222 = .ok (.lstore_n 1, 1) := by decide +kernel
theorem dX7_digest_223 : decode cX7_digest 223 = .ok (.iinc 4 1, 3) := by decide +kernel
theorem dX7_digest_226 : decode cX7_digest 226 = .ok (.goto (-25), 3) := by decide +kernel
theorem dX7_digest_229 : decode cX7_digest 229 = .ok (.iinc 3 1, 3) := by decide +kernel
theorem dX7_digest_232 : decode cX7_digest 232 = .ok (.goto (-40), 3) := by decide +kernel
theorem dX7_digest_235 : decode cX7_digest 235 = .ok (.ldc2_w 182, 3) := by decide +kernel
theorem dX7_digest_238 : decode cX7_digest 238 = .ok (.ldc2_w 182, 3) := by decide +kernel
theorem dX7_digest_241 : decode cX7_digest 241 = .ok (.lload_n 1, 1) := by decide +kernel
theorem dX7_digest_242 : decode cX7_digest 242 = .ok (.lmul, 1) := by decide +kernel
theorem dX7_digest_243 : decode cX7_digest 243 = .ok (.aload_n 0, 1) := by decide +kernel
theorem dX7_digest_244 : decode cX7_digest 244 = .ok (.bipush 10, 2) := by decide +kernel
theorem dX7_digest_246 : decode cX7_digest 246 = .ok (.iconst 0, 1) := by decide +kernel
theorem dX7_digest_247 : decode cX7_digest 247 = .ok (.invokevirtual 163, 3) := by decide +kernel
theorem dX7_digest_250 : decode cX7_digest 250 = .ok (.i2l, 1) := by decide +kernel
theorem dX7_digest_251 : decode cX7_digest 251 = .ok (.ladd, 1) := by decide +kernel
theorem dX7_digest_252 : decode cX7_digest 252 = .ok (.lmul, 1) := by decide +kernel
theorem dX7_digest_253 : decode cX7_digest 253 = .ok (.aload_n 0, 1) := by decide +kernel
theorem dX7_digest_254 : decode cX7_digest 254 = .ok (.bipush 10, 2) := by decide +kernel
theorem dX7_digest_256 : decode cX7_digest 256 = .ok (.iconst 1, 1) := by decide +kernel
theorem dX7_digest_257 : decode cX7_digest 257 = .ok (.invokevirtual 163, 3) := by decide +kernel
theorem dX7_digest_260 : decode cX7_digest 260 = .ok (.i2l, 1) := by decide +kernel
theorem dX7_digest_261 : decode cX7_digest 261 = .ok (.ladd, 1) := by decide +kernel
theorem dX7_digest_262 : decode cX7_digest 262 = .ok (.lstore_n 1, 1) := by decide +kernel
theorem dX7_digest_263 : decode cX7_digest 263 = .ok (.ldc2_w 182, 3) := by decide +kernel
theorem dX7_digest_266 : decode cX7_digest 266 = .ok (.lload_n 1, 1) := by decide +kernel
theorem dX7_digest_267 : decode cX7_digest 267 = .ok (.lmul, 1) := by decide +kernel
theorem dX7_digest_268 : decode cX7_digest 268 = .ok (.aload_n 0, 1) := by decide +kernel
theorem dX7_digest_269 : decode cX7_digest 269 = .ok (.invokevirtual 166, 3) := by decide +kernel
theorem dX7_digest_272 : decode cX7_digest 272 = .ok (.i2l, 1) := by decide +kernel
theorem dX7_digest_273 : decode cX7_digest 273 = .ok (.ladd, 1) := by decide +kernel
theorem dX7_digest_274 : decode cX7_digest 274 = .ok (.lstore_n 1, 1) := by decide +kernel
theorem dX7_digest_275 : decode cX7_digest 275 = .ok (.ldc2_w 182, 3) := by decide +kernel
theorem dX7_digest_278 : decode cX7_digest 278 = .ok (.lload_n 1, 1) := by decide +kernel
theorem dX7_digest_279 : decode cX7_digest 279 = .ok (.lmul, 1) := by decide +kernel
theorem dX7_digest_280 : decode cX7_digest 280 = .ok (.lconst 1, 1) := by decide +kernel
theorem dX7_digest_281 : decode cX7_digest 281 = .ok (.aload_n 0, 1) := by decide +kernel
theorem dX7_digest_282 : decode cX7_digest 282 = .ok (.invokevirtual 169, 3) := by decide +kernel
theorem dX7_digest_285 : decode cX7_digest 285 = .ok (.i2l, 1) := by decide +kernel
theorem dX7_digest_286 : decode cX7_digest 286 = .ok (.ladd, 1) := by decide +kernel
theorem dX7_digest_287 : decode cX7_digest 287 = .ok (.invokestatic 184, 3) := by decide +kernel
theorem dX7_digest_290 : decode cX7_digest 290 = .ok (.ladd, 1) := by decide +kernel
theorem dX7_digest_291 : decode cX7_digest 291 = .ok (.lstore_n 1, 1) := by decide +kernel
theorem dX7_digest_292 : decode cX7_digest 292 = .ok (.ldc2_w 182, 3) := by decide +kernel
theorem dX7_digest_295 : decode cX7_digest 295 = .ok (.lload_n 1, 1) := by decide +kernel
theorem dX7_digest_296 : decode cX7_digest 296 = .ok (.lmul, 1) := by decide +kernel
theorem dX7_digest_297 : decode cX7_digest 297 = .ok (.aload_n 0, 1) := by decide +kernel
theorem dX7_digest_298 : decode cX7_digest 298 = .ok (.getfield 112, 3) := by decide +kernel
theorem dX7_digest_301 : decode cX7_digest 301 = .ok (.i2l, 1) := by decide +kernel
theorem dX7_digest_302 : decode cX7_digest 302 = .ok (.ladd, 1) := by decide +kernel
theorem dX7_digest_303 : decode cX7_digest 303 = .ok (.lstore_n 1, 1) := by decide +kernel
theorem dX7_digest_304 : decode cX7_digest 304 = .ok (.iconst 0, 1) := by decide +kernel
theorem dX7_digest_305 : decode cX7_digest 305 = .ok (.istore_n 3, 1) := by decide +kernel
theorem dX7_digest_306 : decode cX7_digest 306 = .ok (.iload_n 3, 1) := by decide +kernel
theorem dX7_digest_307 : decode cX7_digest 307 = .ok (.aload_n 0, 1) := by decide +kernel
theorem dX7_digest_308 : decode cX7_digest 308 = .ok (.getfield 112, 3) := by decide +kernel
theorem dX7_digest_311 : decode cX7_digest 311 = .ok (.if_icmp .ge 23, 3) := by decide +kernel
theorem dX7_digest_314 : decode cX7_digest 314 = .ok (.ldc2_w 182, 3) := by decide +kernel
theorem dX7_digest_317 : decode cX7_digest 317 = .ok (.lload_n 1, 1) := by decide +kernel
theorem dX7_digest_318 : decode cX7_digest 318 = .ok (.lmul, 1) := by decide +kernel
theorem dX7_digest_319 : decode cX7_digest 319 = .ok (.aload_n 0, 1) := by decide +kernel
theorem dX7_digest_320 : decode cX7_digest 320 = .ok (.getfield 19, 3) := by decide +kernel
theorem dX7_digest_323 : decode cX7_digest 323 = .ok (.iload_n 3, 1) := by decide +kernel
theorem dX7_digest_324 : decode cX7_digest 324 = .ok (.iaload, 1) := by decide +kernel
theorem dX7_digest_325 : decode cX7_digest 325 = .ok (.i2l, 1) := by decide +kernel
theorem dX7_digest_326 : decode cX7_digest 326 = .ok (.ladd, 1) := by decide +kernel
theorem dX7_digest_327 : decode cX7_digest 327 = .ok (.lstore_n 1, 1) := by decide +kernel
theorem dX7_digest_328 : decode cX7_digest 328 = .ok (.iinc 3 1, 3) := by decide +kernel
theorem dX7_digest_331 : decode cX7_digest 331 = .ok (.goto (-25), 3) := by decide +kernel
theorem dX7_digest_334 : decode cX7_digest 334 = .ok (.lload_n 1, 1) := by decide +kernel
theorem dX7_digest_335 : decode cX7_digest 335 = .ok (.lreturn, 1) := by decide +kernel
