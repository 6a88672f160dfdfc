theorem dX0_init_0 : decode cX0_init 0 = .ok (.aload_n 0, 1) := by decide +kernel
theorem dX0_init_1 : decode cX0_init 1 = .ok (.invokespecial 3, 3) := by decide +kernel
theorem dX0_init_4 : decode cX0_init 4 = .ok (.aload_n 0, 1) := by decide +kernel
theorem dX0_init_5 : decode cX0_init 5 = .ok (.sipush 4096, 3) := by decide +kernel
theorem dX0_init_8 : decode cX0_init 8 = .ok (.newarray .int, 2) := by decide +kernel
theorem dX0_init_10 : decode cX0_init 10 = .ok (.putfield 9, 3) := by decide +kernel
theorem dX0_init_13 : decode cX0_init 13 = .ok (.aload_n 0, 1) := by decide +kernel
theorem dX0_init_14 : decode cX0_init 14 = .ok (.sipush 4096, 3) := by decide +kernel
theorem dX0_init_17 : decode cX0_init 17 = .ok (.newarray .int, 2) := by decide +kernel
theorem dX0_init_19 : decode cX0_init 19 = .ok (.putfield 15, 3) := by decide +kernel
theorem dX0_init_22 : decode cX0_init 22 = .ok (.aload_n 0, 1) := by decide +kernel
theorem dX0_init_23 : decode cX0_init 23 = .ok (.sipush 4096, 3) := by decide +kernel
theorem dX0_init_26 : decode cX0_init 26 = .ok (.newarray .int, 2) := by decide +kernel
theorem dX0_init_28 : decode cX0_init 28 = .ok (.putfield 18, 3) := by decide +kernel
theorem dX0_init_31 : decode cX0_init 31 = .ok (.aload_n 0, 1) := by decide +kernel
theorem dX0_init_32 : decode cX0_init 32 = .ok (.new 21, 3) := by decide +kernel
theorem dX0_init_35 : decode cX0_init 35 = .ok (.dup, 1) := by decide +kernel
theorem dX0_init_36 : decode cX0_init 36 = .ok (.invokespecial 23, 3) := by decide +kernel
theorem dX0_init_39 : decode cX0_init 39 = .ok (.putfield 24, 3) := by decide +kernel
theorem dX0_init_42 : decode cX0_init 42 = .ok (.return_, 1) := by decide +kernel
theorem dX0_codesOf_0 : decode cX0_codesOf 0 = .ok (.iconst 1, 1) := by decide +kernel
theorem dX0_codesOf_1 : decode cX0_codesOf 1 = .ok (.istore_n 2, 1) := by decide +kernel
theorem dX0_codesOf_2 : decode cX0_codesOf 2 = .ok (.iconst 0, 1) := by decide +kernel
theorem dX0_codesOf_3 : decode cX0_codesOf 3 = .ok (.istore_n 3, 1) := by decide +kernel
theorem dX0_codesOf_4 : decode cX0_codesOf 4 = .ok (.iload_n 3, 1) := by decide +kernel
theorem dX0_codesOf_5 : decode cX0_codesOf 5 = .ok (.iload_n 0, 1) := by decide +kernel
theorem dX0_codesOf_6 : decode cX0_codesOf 6 = .ok (.if_icmp .ge 13, 3) := by decide +kernel
theorem dX0_codesOf_9 : decode cX0_codesOf 9 = .ok (.iload_n 2, 1) := by decide +kernel
theorem dX0_codesOf_10 : decode cX0_codesOf 10 = .ok (.iload_n 1, 1) := by decide +kernel
theorem dX0_codesOf_11 : decode cX0_codesOf 11 = .ok (.imul, 1) := by decide +kernel
theorem dX0_codesOf_12 : decode cX0_codesOf 12 = .ok (.istore_n 2, 1) := by decide +kernel
theorem dX0_codesOf_13 : decode cX0_codesOf 13 = .ok (.iinc 3 1, 3) := by decide +kernel
theorem dX0_codesOf_16 : decode cX0_codesOf 16 = .ok (.goto (-12), 3) := by decide +kernel
theorem dX0_codesOf_19 : decode cX0_codesOf 19 = .ok (.iload_n 2, 1) := by decide +kernel
theorem dX0_codesOf_20 : decode cX0_codesOf 20 = .ok (.ireturn, 1) := by decide +kernel
theorem dX0_write_0 : decode cX0_write 0 = .ok (.aload_n 0, 1) := by decide +kernel
theorem dX0_write_1 : decode cX0_write 1 = .ok (.iload_n 1, 1) := by decide +kernel
theorem dX0_write_2 : decode cX0_write 2 = .ok (.putfield 28, 3) := by decide +kernel
theorem dX0_write_5 : decode cX0_write 5 = .ok (.aload_n 0, 1) := by decide +kernel
theorem dX0_write_6 : decode cX0_write 6 = .ok (.iload_n 2, 1) := by decide +kernel
theorem dX0_write_7 : decode cX0_write 7 = .ok (.putfield 32, 3) := by decide +kernel
theorem dX0_write_10 : decode cX0_write 10 = .ok (.aload_n 0, 1) := by decide +kernel
theorem dX0_write_11 : decode cX0_write 11 = .ok (.iload_n 1, 1) := by decide +kernel
theorem dX0_write_12 : decode cX0_write 12 = .ok (.iload_n 2, 1) := by decide +kernel
theorem dX0_write_13 : decode cX0_write 13 = .ok (.invokestatic 35, 3) := by decide +kernel
theorem dX0_write_16 : decode cX0_write 16 = .ok (.putfield 39, 3) := by decide +kernel
theorem dX0_write_19 : decode cX0_write 19 = .ok (.aload_n 0, 1) := by decide +kernel
theorem dX0_write_20 : decode cX0_write 20 = .ok (.getfield 24, 3) := by decide +kernel
theorem dX0_write_23 : decode cX0_write 23 = .ok (.iconst 0, 1) := by decide +kernel
theorem dX0_write_24 : decode cX0_write 24 = .ok (.invokevirtual 42, 3) := by decide +kernel
theorem dX0_write_27 : decode cX0_write 27 = .ok (.iconst 0, 1) := by decide +kernel
theorem dX0_write_28 : decode cX0_write 28 = .ok (.istore_n 3, 1) := by decide +kernel
theorem dX0_write_29 : decode cX0_write 29 = .ok (.iload_n 3, 1) := by decide +kernel
theorem dX0_write_30 : decode cX0_write 30 = .ok (.aload_n 0, 1) := by decide +kernel
theorem dX0_write_31 : decode cX0_write 31 = .ok (.getfield 39, 3) := by decide +kernel
theorem dX0_write_34 : decode cX0_write 34 = .ok (.if_icmp .ge 82, 3) := by decide +kernel
theorem dX0_write_37 : decode cX0_write 37 = .ok (.aload_n 0, 1) := by decide +kernel
theorem dX0_write_38 : decode cX0_write 38 = .ok (.getfield 24, 3) := by decide +kernel
theorem dX0_write_41 : decode cX0_write 41 = .ok (.aload_n 0, 1) := by decide +kernel
theorem dX0_write_42 : decode cX0_write 42 = .ok (.getfield 28, 3) := by decide +kernel
theorem dX0_write_45 : decode cX0_write 45 = .ok (.aload_n 0, 1) := by decide +kernel
theorem dX0_write_46 : decode cX0_write 46 = .ok (.getfield 32, 3) := by decide +kernel
theorem dX0_write_49 : decode cX0_write 49 = .ok (.invokevirtual 46, 3) := by decide +kernel
theorem dX0_write_52 : decode cX0_write 52 = .ok (.aload_n 0, 1) := by decide +kernel
theorem dX0_write_53 : decode cX0_write 53 = .ok (.getfield 9, 3) := by decide +kernel
theorem dX0_write_56 : decode cX0_write 56 = .ok (.iload_n 3, 1) := by decide +kernel
theorem dX0_write_57 : decode cX0_write 57 = .ok (.aload_n 0, 1) := by decide +kernel
theorem dX0_write_58 : decode cX0_write 58 = .ok (.getfield 24, 3) := by decide +kernel
theorem dX0_write_61 : decode cX0_write 61 = .ok (.getfield 50, 3) := by decide +kernel
theorem dX0_write_64 : decode cX0_write 64 = .ok (.iastore, 1) := by decide +kernel
theorem dX0_write_65 : decode cX0_write 65 = .ok (.aload_n 0, 1) := by decide +kernel
theorem dX0_write_66 : decode cX0_write 66 = .ok (.getfield 15, 3) := by decide +kernel
theorem dX0_write_69 : decode cX0_write 69 = .ok (.iload_n 3, 1) := by decide +kernel
theorem dX0_write_70 : decode cX0_write 70 = .ok (.aload_n 0, 1) := by decide +kernel
theorem dX0_write_71 : decode cX0_write 71 = .ok (.getfield 24, 3) := by decide +kernel
theorem dX0_write_74 : decode cX0_write 74 = .ok (.getfield 52, 3) := by decide +kernel
theorem dX0_write_77 : decode cX0_write 77 = .ok (.iastore, 1) := by decide +kernel
theorem dX0_write_78 : decode cX0_write 78 = .ok (.aload_n 0, 1) := by decide +kernel
theorem dX0_write_79 : decode cX0_write 79 = .ok (.getfield 18, 3) := by decide +kernel
theorem dX0_write_82 : decode cX0_write 82 = .ok (.iload_n 3, 1) := by decide +kernel
theorem dX0_write_83 : decode cX0_write 83 = .ok (.aload_n 0, 1) := by decide +kernel
theorem dX0_write_84 : decode cX0_write 84 = .ok (.getfield 24, 3) := by decide +kernel
theorem dX0_write_87 : decode cX0_write 87 = .ok (.aload_n 0, 1) := by decide +kernel
theorem dX0_write_88 : decode cX0_write 88 = .ok (.getfield 28, 3) := by decide +kernel
theorem dX0_write_91 : decode cX0_write 91 = .ok (.invokevirtual 54, 3) := by decide +kernel
theorem dX0_write_94 : decode cX0_write 94 = .ok (.iastore, 1) := by decide +kernel
theorem dX0_write_95 : decode cX0_write 95 = .ok (.aload_n 0, 1) := by decide +kernel
theorem dX0_write_96 : decode cX0_write 96 = .ok (.getfield 24, 3) := by decide +kernel
theorem dX0_write_99 : decode cX0_write 99 = .ok (.aload_n 0, 1) := by decide +kernel
theorem dX0_write_100 : decode cX0_write 100 = .ok (.getfield 28, 3) := by decide +kernel
theorem dX0_write_103 : decode cX0_write 103 = .ok (.aload_n 0, 1) := by decide +kernel
theorem dX0_write_104 : decode cX0_write 104 = .ok (.getfield 32, 3) := by decide +kernel
theorem dX0_write_107 : decode cX0_write 107 = .ok (.invokevirtual 58, 3) := by decide +kernel
theorem dX0_write_110 : decode cX0_write 110 = .ok (.iinc 3 1, 3) := by decide +kernel
theorem dX0_write_113 : decode cX0_write 113 = .ok (.goto (-84), 3) := by decide +kernel
theorem dX0_write_116 : decode cX0_write 116 = .ok (.return_, 1) := by decide +kernel
theorem dX0_has_0 : decode cX0_has 0 = .ok (.iload_n 1, 1) := by decide +kernel
theorem dX0_has_1 : decode cX0_has 1 = .ok (.ifCond .lt 15, 3) := by decide +kernel
theorem dX0_has_4 : decode cX0_has 4 = .ok (.iload_n 1, 1) := by decide +kernel
theorem dX0_has_5 : decode cX0_has 5 = .ok (.aload_n 0, 1) := by decide +kernel
theorem dX0_has_6 : decode cX0_has 6 = .ok (.getfield 39, 3) := by decide +kernel
theorem dX0_has_9 : decode cX0_has 9 = .ok (.if_icmp .ge 7, 3) := by decide +kernel
theorem dX0_has_12 : decode cX0_has 12 = .ok (.iconst 1, 1) := by decide +kernel
theorem dX0_has_13 : decode cX0_has 13 = .ok (.goto 4, 3) := by decide +kernel
theorem dX0_has_16 : decode cX0_has 16 = .ok (.iconst 0, 1) := by decide +kernel
theorem dX0_has_17 : decode cX0_has 17 = .ok (.ireturn, 1) := by decide +kernel
theorem dX0_hasPlace_0 : decode cX0_hasPlace 0 = .ok (.iload_n 1, 1) := by decide +kernel
theorem dX0_hasPlace_1 : decode cX0_hasPlace 1 = .ok (.ifCond .lt 15, 3) := by decide +kernel
theorem dX0_hasPlace_4 : decode cX0_hasPlace 4 = .ok (.iload_n 1, 1) := by decide +kernel
theorem dX0_hasPlace_5 : decode cX0_hasPlace 5 = .ok (.aload_n 0, 1) := by decide +kernel
theorem dX0_hasPlace_6 : decode cX0_hasPlace 6 = .ok (.getfield 28, 3) := by decide +kernel
theorem dX0_hasPlace_9 : decode cX0_hasPlace 9 = .ok (.if_icmp .ge 7, 3) := by decide +kernel
theorem dX0_hasPlace_12 : decode cX0_hasPlace 12 = .ok (.iconst 1, 1) := by decide +kernel
theorem dX0_hasPlace_13 : decode cX0_hasPlace 13 = .ok (.goto 4, 3) := by decide +kernel
theorem dX0_hasPlace_16 : decode cX0_hasPlace 16 = .ok (.iconst 0, 1) := by decide +kernel
theorem dX0_hasPlace_17 : decode cX0_hasPlace 17 = .ok (.ireturn, 1) := by decide +kernel
theorem dX0_isPeg_0 : decode cX0_isPeg 0 = .ok (.iload_n 1, 1) := by decide +kernel
theorem dX0_isPeg_1 : decode cX0_isPeg 1 = .ok (.iconst (-1), 1) := by decide +kernel
theorem dX0_isPeg_2 : decode cX0_isPeg 2 = .ok (.if_icmp .lt 15, 3) := by decide +kernel
theorem dX0_isPeg_5 : decode cX0_isPeg 5 = .ok (.iload_n 1, 1) := by decide +kernel
theorem dX0_isPeg_6 : decode cX0_isPeg 6 = .ok (.aload_n 0, 1) := by decide +kernel
theorem dX0_isPeg_7 : decode cX0_isPeg 7 = .ok (.getfield 32, 3) := by decide +kernel
theorem dX0_isPeg_10 : decode cX0_isPeg 10 = .ok (.if_icmp .ge 7, 3) := by decide +kernel
theorem dX0_isPeg_13 : decode cX0_isPeg 13 = .ok (.iconst 1, 1) := by decide +kernel
theorem dX0_isPeg_14 : decode cX0_isPeg 14 = .ok (.goto 4, 3) := by decide +kernel
theorem dX0_isPeg_17 : decode cX0_isPeg 17 = .ok (.iconst 0, 1) := by decide +kernel
theorem dX0_isPeg_18 : decode cX0_isPeg 18 = .ok (.ireturn, 1) := by decide +kernel
theorem dX0_canBeTold_0 : decode cX0_canBeTold 0 = .ok (.iload_n 1, 1) := by decide +kernel
theorem dX0_canBeTold_1 : decode cX0_canBeTold 1 = .ok (.ifCond .lt 23, 3) := by decide +kernel
theorem dX0_canBeTold_4 : decode cX0_canBeTold 4 = .ok (.iload_n 1, 1) := by decide +kernel
theorem dX0_canBeTold_5 : decode cX0_canBeTold 5 = .ok (.bipush 10, 2) := by decide +kernel
theorem dX0_canBeTold_7 : decode cX0_canBeTold 7 = .ok (.idiv, 1) := by decide +kernel
theorem dX0_canBeTold_8 : decode cX0_canBeTold 8 = .ok (.iload_n 1, 1) := by decide +kernel
theorem dX0_canBeTold_9 : decode cX0_canBeTold 9 = .ok (.bipush 10, 2) := by decide +kernel
theorem dX0_canBeTold_11 : decode cX0_canBeTold 11 = .ok (.irem, 1) := by decide +kernel
theorem dX0_canBeTold_12 : decode cX0_canBeTold 12 = .ok (.iadd, 1) := by decide +kernel
theorem dX0_canBeTold_13 : decode cX0_canBeTold 13 = .ok (.aload_n 0, 1) := by decide +kernel
theorem dX0_canBeTold_14 : decode cX0_canBeTold 14 = .ok (.getfield 28, 3) := by decide +kernel
theorem dX0_canBeTold_17 : decode cX0_canBeTold 17 = .ok (.if_icmp .gt 7, 3) := by decide +kernel
theorem dX0_canBeTold_20 : decode cX0_canBeTold 20 = .ok (.iconst 1, 1) := by decide +kernel
theorem dX0_canBeTold_21 : decode cX0_canBeTold 21 = .ok (.goto 4, 3) := by decide +kernel
theorem dX0_canBeTold_24 : decode cX0_canBeTold 24 = .ok (.iconst 0, 1) := by decide +kernel
theorem dX0_canBeTold_25 : decode cX0_canBeTold 25 = .ok (.ireturn, 1) := by decide +kernel
theorem dX0_fullAnswer_0 : decode cX0_fullAnswer 0 = .ok (.bipush 10, 2) := by decide +kernel
theorem dX0_fullAnswer_2 : decode cX0_fullAnswer 2 = .ok (.aload_n 0, 1) := by decide +kernel
theorem dX0_fullAnswer_3 : decode cX0_fullAnswer 3 = .ok (.getfield 28, 3) := by decide +kernel
theorem dX0_fullAnswer_6 : decode cX0_fullAnswer 6 = .ok (.imul, 1) := by decide +kernel
theorem dX0_fullAnswer_7 : decode cX0_fullAnswer 7 = .ok (.ireturn, 1) := by decide +kernel
theorem dX0_colourAt_0 : decode cX0_colourAt 0 = .ok (.aload_n 0, 1) := by decide +kernel
theorem dX0_colourAt_1 : decode cX0_colourAt 1 = .ok (.getfield 18, 3) := by decide +kernel
theorem dX0_colourAt_4 : decode cX0_colourAt 4 = .ok (.iload_n 1, 1) := by decide +kernel
theorem dX0_colourAt_5 : decode cX0_colourAt 5 = .ok (.iaload, 1) := by decide +kernel
theorem dX0_colourAt_6 : decode cX0_colourAt 6 = .ok (.iconst 3, 1) := by decide +kernel
theorem dX0_colourAt_7 : decode cX0_colourAt 7 = .ok (.iload_n 2, 1) := by decide +kernel
theorem dX0_colourAt_8 : decode cX0_colourAt 8 = .ok (.imul, 1) := by decide +kernel
theorem dX0_colourAt_9 : decode cX0_colourAt 9 = .ok (.iushr, 1) := by decide +kernel
theorem dX0_colourAt_10 : decode cX0_colourAt 10 = .ok (.bipush 7, 2) := by decide +kernel
theorem dX0_colourAt_12 : decode cX0_colourAt 12 = .ok (.iand, 1) := by decide +kernel
theorem dX0_colourAt_13 : decode cX0_colourAt 13 = .ok (.ireturn, 1) := by decide +kernel
theorem dX0_answerTo_0 : decode cX0_answerTo 0 = .ok (.bipush 9, 2) := by decide +kernel
theorem dX0_answerTo_2 : decode cX0_answerTo 2 = .ok (.iload_n 1, 1) := by decide +kernel
theorem dX0_answerTo_3 : decode cX0_answerTo 3 = .ok (.aload_n 0, 1) := by decide +kernel
theorem dX0_answerTo_4 : decode cX0_answerTo 4 = .ok (.getfield 9, 3) := by decide +kernel
theorem dX0_answerTo_7 : decode cX0_answerTo 7 = .ok (.iload_n 3, 1) := by decide +kernel
theorem dX0_answerTo_8 : decode cX0_answerTo 8 = .ok (.iaload, 1) := by decide +kernel
theorem dX0_answerTo_9 : decode cX0_answerTo 9 = .ok (.iand, 1) := by decide +kernel
theorem dX0_answerTo_10 : decode cX0_answerTo 10 = .ok (.invokestatic 61, 3) := by decide +kernel
theorem dX0_answerTo_13 : decode cX0_answerTo 13 = .ok (.imul, 1) := by decide +kernel
theorem dX0_answerTo_14 : decode cX0_answerTo 14 = .ok (.iload_n 2, 1) := by decide +kernel
theorem dX0_answerTo_15 : decode cX0_answerTo 15 = .ok (.aload_n 0, 1) := by decide +kernel
theorem dX0_answerTo_16 : decode cX0_answerTo 16 = .ok (.getfield 15, 3) := by decide +kernel
theorem dX0_answerTo_19 : decode cX0_answerTo 19 = .ok (.iload_n 3, 1) := by decide +kernel
theorem dX0_answerTo_20 : decode cX0_answerTo 20 = .ok (.iaload, 1) := by decide +kernel
theorem dX0_answerTo_21 : decode cX0_answerTo 21 = .ok (.iand, 1) := by decide +kernel
theorem dX0_answerTo_22 : decode cX0_answerTo 22 = .ok (.invokestatic 61, 3) := by decide +kernel
theorem dX0_answerTo_25 : decode cX0_answerTo 25 = .ok (.iadd, 1) := by decide +kernel
theorem dX0_answerTo_26 : decode cX0_answerTo 26 = .ok (.ireturn, 1) := by decide +kernel
theorem dX0_answerOfCodes_0 : decode cX0_answerOfCodes 0 = .ok (.aload_n 0, 1) := by decide +kernel
theorem dX0_answerOfCodes_1 : decode cX0_answerOfCodes 1 = .ok (.aload_n 0, 1) := by decide +kernel
theorem dX0_answerOfCodes_2 : decode cX0_answerOfCodes 2 = .ok (.getfield 9, 3) := by decide +kernel
theorem dX0_answerOfCodes_5 : decode cX0_answerOfCodes 5 = .ok (.iload_n 1, 1) := by decide +kernel
theorem dX0_answerOfCodes_6 : decode cX0_answerOfCodes 6 = .ok (.iaload, 1) := by decide +kernel
theorem dX0_answerOfCodes_7 : decode cX0_answerOfCodes 7 = .ok (.aload_n 0, 1) := by decide +kernel
theorem dX0_answerOfCodes_8 : decode cX0_answerOfCodes 8 = .ok (.getfield 15, 3) := by decide +kernel
theorem dX0_answerOfCodes_11 : decode cX0_answerOfCodes 11 = .ok (.iload_n 1, 1) := by decide +kernel
theorem dX0_answerOfCodes_12 : decode cX0_answerOfCodes 12 = .ok (.iaload, 1) := by decide +kernel
theorem dX0_answerOfCodes_13 : decode cX0_answerOfCodes 13 = .ok (.iload_n 2, 1) := by decide +kernel
theorem dX0_answerOfCodes_14 : decode cX0_answerOfCodes 14 = .ok (.invokevirtual 66, 3) := by decide +kernel
theorem dX0_answerOfCodes_17 : decode cX0_answerOfCodes 17 = .ok (.ireturn, 1) := by decide +kernel
theorem dX0_numberOf_0 : decode cX0_numberOf 0 = .ok (.iconst 0, 1) := by decide +kernel
theorem dX0_numberOf_1 : decode cX0_numberOf 1 = .ok (.istore_n 2, 1) := by decide +kernel
theorem dX0_numberOf_2 : decode cX0_numberOf 2 = .ok (.iconst 0, 1) := by decide +kernel
theorem dX0_numberOf_3 : decode cX0_numberOf 3 = .ok (.istore_n 3, 1) := by decide +kernel
theorem dX0_numberOf_4 : decode cX0_numberOf 4 = .ok (.iload_n 3, 1) := by decide +kernel
theorem dX0_numberOf_5 : decode cX0_numberOf 5 = .ok (.aload_n 0, 1) := by decide +kernel
theorem dX0_numberOf_6 : decode cX0_numberOf 6 = .ok (.getfield 28, 3) := by decide +kernel
theorem dX0_numberOf_9 : decode cX0_numberOf 9 = .ok (.if_icmp .ge 35, 3) := by decide +kernel
theorem dX0_numberOf_12 : decode cX0_numberOf 12 = .ok (.aload_n 1, 1) := by decide +kernel
theorem dX0_numberOf_13 : decode cX0_numberOf 13 = .ok (.getfield 70, 3) := by decide +kernel
theorem dX0_numberOf_16 : decode cX0_numberOf 16 = .ok (.iload_n 3, 1) := by decide +kernel
theorem dX0_numberOf_17 : decode cX0_numberOf 17 = .ok (.iaload, 1) := by decide +kernel
theorem dX0_numberOf_18 : decode cX0_numberOf 18 = .ok (.iconst (-1), 1) := by decide +kernel
theorem dX0_numberOf_19 : decode cX0_numberOf 19 = .ok (.if_icmp .ne 5, 3) := by decide +kernel
theorem dX0_numberOf_22 : decode cX0_numberOf 22 = .ok (.iconst (-1), 1) := by decide +kernel
theorem dX0_numberOf_23 : decode cX0_numberOf 23 = .ok (.ireturn, 1) := by decide +kernel
theorem dX0_numberOf_24 : decode cX0_numberOf 24 = .ok (.iload_n 2, 1) := by decide +kernel
theorem dX0_numberOf_25 : decode cX0_numberOf 25 = .ok (.aload_n 0, 1) := by decide +kernel
theorem dX0_numberOf_26 : decode cX0_numberOf 26 = .ok (.getfield 32, 3) := by decide +kernel
theorem dX0_numberOf_29 : decode cX0_numberOf 29 = .ok (.imul, 1) := by decide +kernel
theorem dX0_numberOf_30 : decode cX0_numberOf 30 = .ok (.aload_n 1, 1) := by decide +kernel
theorem dX0_numberOf_31 : decode cX0_numberOf 31 = .ok (.getfield 70, 3) := by decide +kernel
theorem dX0_numberOf_34 : decode cX0_numberOf 34 = .ok (.iload_n 3, 1) := by decide +kernel
theorem dX0_numberOf_35 : decode cX0_numberOf 35 = .ok (.iaload, 1) := by decide +kernel
theorem dX0_numberOf_36 : decode cX0_numberOf 36 = .ok (.iadd, 1) := by decide +kernel
theorem dX0_numberOf_37 : decode cX0_numberOf 37 = .ok (.istore_n 2, 1) := by decide +kernel
theorem dX0_numberOf_38 : decode cX0_numberOf 38 = .ok (.iinc 3 1, 3) := by decide +kernel
theorem dX0_numberOf_41 : decode cX0_numberOf 41 = .ok (.goto (-37), 3) := by decide +kernel
theorem dX0_numberOf_44 : decode cX0_numberOf 44 = .ok (.iload_n 2, 1) := by decide +kernel
theorem dX0_numberOf_45 : decode cX0_numberOf 45 = .ok (.ireturn, 1) := by decide +kernel
theorem dX0_hasColourTwice_0 : decode cX0_hasColourTwice 0 = .ok (.iconst 0, 1) := by decide +kernel
theorem dX0_hasColourTwice_1 : decode cX0_hasColourTwice 1 = .ok (.istore_n 2, 1) := by decide +kernel
theorem dX0_hasColourTwice_2 : decode cX0_hasColourTwice 2 = .ok (.iconst 0, 1) := by decide +kernel
theorem dX0_hasColourTwice_3 : decode cX0_hasColourTwice 3 = .ok (.istore_n 3, 1) := by decide +kernel
theorem dX0_hasColourTwice_4 : decode cX0_hasColourTwice 4 = .ok (.iload_n 3, 1) := by decide +kernel
theorem dX0_hasColourTwice_5 : decode cX0_hasColourTwice 5 = .ok (.aload_n 0, 1) := by decide +kernel
theorem dX0_hasColourTwice_6 : decode cX0_hasColourTwice 6 = .ok (.getfield 28, 3) := by decide +kernel
theorem dX0_hasColourTwice_9 : decode cX0_hasColourTwice 9 = .ok (.if_icmp .ge 33, 3) := by decide +kernel
theorem dX0_hasColourTwice_12 : decode cX0_hasColourTwice 12 = .ok (.iconst 1, 1) := by decide +kernel
theorem dX0_hasColourTwice_13 : decode cX0_hasColourTwice 13 = .ok (.aload_n 0, 1) := by decide +kernel
theorem dX0_hasColourTwice_14 : decode cX0_hasColourTwice 14 = .ok (.iload_n 1, 1) := by decide +kernel
theorem dX0_hasColourTwice_15 : decode cX0_hasColourTwice 15 = .ok (.iload_n 3, 1) := by decide +kernel
theorem dX0_hasColourTwice_16 : decode cX0_hasColourTwice 16 = .ok (.invokevirtual 73, 3) := by decide +kernel
theorem dX0_hasColourTwice_19 : decode cX0_hasColourTwice 19 = .ok (.ishl, 1) := by decide +kernel
theorem dX0_hasColourTwice_20 : decode cX0_hasColourTwice 20 = .ok (.istore 4, 2) := by decide +kernel
theorem dX0_hasColourTwice_22 : decode cX0_hasColourTwice 22 = .ok (.iload_n 2, 1) := by decide +kernel
theorem dX0_hasColourTwice_23 : decode cX0_hasColourTwice 23 = .ok (.iload 4, 2) := by decide +kernel
theorem dX0_hasColourTwice_25 : decode cX0_hasColourTwice 25 = .ok (.iand, 1) := by decide +kernel
theorem dX0_hasColourTwice_26 : decode cX0_hasColourTwice 26 = .ok (.ifCond .eq 5, 3) := by decide +kernel
theorem dX0_hasColourTwice_29 : decode cX0_hasColourTwice 29 = .ok (.iconst 1, 1) := by decide +kernel
theorem dX0_hasColourTwice_30 : decode cX0_hasColourTwice 30 = .ok (.ireturn, 1) := by decide +kernel
theorem dX0_hasColourTwice_31 : decode cX0_hasColourTwice 31 = .ok (.iload_n 2, 1) := by decide +kernel
theorem dX0_hasColourTwice_32 : decode cX0_hasColourTwice 32 = .ok (.iload 4, 2) := by decide +kernel
theorem dX0_hasColourTwice_34 : decode cX0_hasColourTwice 34 = .ok (.ior, 1) := by decide +kernel
theorem dX0_hasColourTwice_35 : decode cX0_hasColourTwice 35 = .ok (.istore_n 2, 1) := by decide +kernel
theorem dX0_hasColourTwice_36 : decode cX0_hasColourTwice 36 = .ok (.iinc 3 1, 3) := by decide +kernel
theorem dX0_hasColourTwice_39 : decode cX0_hasColourTwice 39 = .ok (.goto (-35), 3) := by decide +kernel
theorem dX0_hasColourTwice_42 : decode cX0_hasColourTwice 42 = .ok (.iconst 0, 1) := by decide +kernel
theorem dX0_hasColourTwice_43 : decode cX0_hasColourTwice 43 = .ok (.ireturn, 1) := by decide +kernel
theorem dX0_sumOfColours_0 : decode cX0_sumOfColours 0 = .ok (.iconst 0, 1) := by decide +kernel
theorem dX0_sumOfColours_1 : decode cX0_sumOfColours 1 = .ok (.istore_n 2, 1) := by decide +kernel
theorem dX0_sumOfColours_2 : decode cX0_sumOfColours 2 = .ok (.iconst 0, 1) := by decide +kernel
theorem dX0_sumOfColours_3 : decode cX0_sumOfColours 3 = .ok (.istore_n 3, 1) := by decide +kernel
theorem dX0_sumOfColours_4 : decode cX0_sumOfColours 4 = .ok (.iload_n 3, 1) := by decide +kernel
theorem dX0_sumOfColours_5 : decode cX0_sumOfColours 5 = .ok (.aload_n 0, 1) := by decide +kernel
theorem dX0_sumOfColours_6 : decode cX0_sumOfColours 6 = .ok (.getfield 28, 3) := by decide +kernel
theorem dX0_sumOfColours_9 : decode cX0_sumOfColours 9 = .ok (.if_icmp .ge 18, 3) := by decide +kernel
theorem dX0_sumOfColours_12 : decode cX0_sumOfColours 12 = .ok (.iload_n 2, 1) := by decide +kernel
theorem dX0_sumOfColours_13 : decode cX0_sumOfColours 13 = .ok (.aload_n 0, 1) := by decide +kernel
theorem dX0_sumOfColours_14 : decode cX0_sumOfColours 14 = .ok (.iload_n 1, 1) := by decide +kernel
theorem dX0_sumOfColours_15 : decode cX0_sumOfColours 15 = .ok (.iload_n 3, 1) := by decide +kernel
theorem dX0_sumOfColours_16 : decode cX0_sumOfColours 16 = .ok (.invokevirtual 73, 3) := by decide +kernel
theorem dX0_sumOfColours_19 : decode cX0_sumOfColours 19 = .ok (.iadd, 1) := by decide +kernel
theorem dX0_sumOfColours_20 : decode cX0_sumOfColours 20 = .ok (.istore_n 2, 1) := by decide +kernel
theorem dX0_sumOfColours_21 : decode cX0_sumOfColours 21 = .ok (.iinc 3 1, 3) := by decide +kernel
theorem dX0_sumOfColours_24 : decode cX0_sumOfColours 24 = .ok (.goto (-20), 3) := by decide +kernel
theorem dX0_sumOfColours_27 : decode cX0_sumOfColours 27 = .ok (.iload_n 2, 1) := by decide +kernel
theorem dX0_sumOfColours_28 : decode cX0_sumOfColours 28 = .ok (.ireturn, 1) := by decide +kernel
theorem dX1_init_0 : decode cX1_init 0 = .ok (.aload_n 0, 1) := by decide +kernel
theorem dX1_init_1 : decode cX1_init 1 = .ok (.invokespecial 5, 3) := by decide +kernel
theorem dX1_init_4 : decode cX1_init 4 = .ok (.aload_n 0, 1) := by decide +kernel
theorem dX1_init_5 : decode cX1_init 5 = .ok (.bipush 10, 2) := by decide +kernel
theorem dX1_init_7 : decode cX1_init 7 = .ok (.newarray .int, 2) := by decide +kernel
theorem dX1_init_9 : decode cX1_init 9 = .ok (.putfield 11, 3) := by decide +kernel
theorem dX1_init_12 : decode cX1_init 12 = .ok (.aload_n 0, 1) := by decide +kernel
theorem dX1_init_13 : decode cX1_init 13 = .ok (.bipush 51, 2) := by decide +kernel
theorem dX1_init_15 : decode cX1_init 15 = .ok (.newarray .int, 2) := by decide +kernel
theorem dX1_init_17 : decode cX1_init 17 = .ok (.putfield 15, 3) := by decide +kernel
theorem dX1_init_20 : decode cX1_init 20 = .ok (.aload_n 0, 1) := by decide +kernel
theorem dX1_init_21 : decode cX1_init 21 = .ok (.sipush 11264, 3) := by decide +kernel
theorem dX1_init_24 : decode cX1_init 24 = .ok (.newarray .int, 2) := by decide +kernel
theorem dX1_init_26 : decode cX1_init 26 = .ok (.putfield 18, 3) := by decide +kernel
theorem dX1_init_29 : decode cX1_init 29 = .ok (.iload_n 2, 1) := by decide +kernel
theorem dX1_init_30 : decode cX1_init 30 = .ok (.ifCond .eq 9, 3) := by decide +kernel
theorem dX1_init_33 : decode cX1_init 33 = .ok (.sipush 1296, 3) := by decide +kernel
theorem dX1_init_36 : decode cX1_init 36 = .ok (.goto 5, 3) := by decide +kernel
theorem dX1_init_39 : decode cX1_init 39 = .ok (.bipush 10, 2) := by decide +kernel
theorem dX1_init_41 : decode cX1_init 41 = .ok (.istore_n 3, 1) := by decide +kernel
theorem dX1_init_42 : decode cX1_init 42 = .ok (.aload_n 0, 1) := by decide +kernel
theorem dX1_init_43 : decode cX1_init 43 = .ok (.aload_n 1, 1) := by decide +kernel
theorem dX1_init_44 : decode cX1_init 44 = .ok (.putfield 21, 3) := by decide +kernel
theorem dX1_init_47 : decode cX1_init 47 = .ok (.aload_n 0, 1) := by decide +kernel
theorem dX1_init_48 : decode cX1_init 48 = .ok (.iload_n 2, 1) := by decide +kernel
theorem dX1_init_49 : decode cX1_init 49 = .ok (.putfield 25, 3) := by decide +kernel
theorem dX1_init_52 : decode cX1_init 52 = .ok (.aload_n 0, 1) := by decide +kernel
theorem dX1_init_53 : decode cX1_init 53 = .ok (.iload_n 3, 1) := by decide +kernel
theorem dX1_init_54 : decode cX1_init 54 = .ok (.newarray .int, 2) := by decide +kernel
theorem dX1_init_56 : decode cX1_init 56 = .ok (.putfield 29, 3) := by decide +kernel
theorem dX1_init_59 : decode cX1_init 59 = .ok (.aload_n 0, 1) := by decide +kernel
theorem dX1_init_60 : decode cX1_init 60 = .ok (.iload_n 3, 1) := by decide +kernel
theorem dX1_init_61 : decode cX1_init 61 = .ok (.newarray .int, 2) := by decide +kernel
theorem dX1_init_63 : decode cX1_init 63 = .ok (.putfield 32, 3) := by decide +kernel
theorem dX1_init_66 : decode cX1_init 66 = .ok (.aload_n 0, 1) := by decide +kernel
theorem dX1_init_67 : decode cX1_init 67 = .ok (.iload_n 3, 1) := by decide +kernel
theorem dX1_init_68 : decode cX1_init 68 = .ok (.newarray .int, 2) := by decide +kernel
theorem dX1_init_70 : decode cX1_init 70 = .ok (.putfield 35, 3) := by decide +kernel
theorem dX1_init_73 : decode cX1_init 73 = .ok (.aload_n 0, 1) := by decide +kernel
theorem dX1_init_74 : decode cX1_init 74 = .ok (.iload_n 3, 1) := by decide +kernel
theorem dX1_init_75 : decode cX1_init 75 = .ok (.bipush 10, 2) := by decide +kernel
theorem dX1_init_77 : decode cX1_init 77 = .ok (.imul, 1) := by decide +kernel
theorem dX1_init_78 : decode cX1_init 78 = .ok (.newarray .int, 2) := by decide +kernel
theorem dX1_init_80 : decode cX1_init 80 = .ok (.putfield 38, 3) := by decide +kernel
theorem dX1_init_83 : decode cX1_init 83 = .ok (.aload_n 0, 1) := by decide +kernel
theorem dX1_init_84 : decode cX1_init 84 = .ok (.iload_n 3, 1) := by decide +kernel
theorem dX1_init_85 : decode cX1_init 85 = .ok (.newarray .long, 2) := by decide +kernel
theorem dX1_init_87 : decode cX1_init 87 = .ok (.putfield 41, 3) := by decide +kernel
theorem dX1_init_90 : decode cX1_init 90 = .ok (.aload_n 0, 1) := by decide +kernel
theorem dX1_init_91 : decode cX1_init 91 = .ok (.iload_n 2, 1) := by decide +kernel
theorem dX1_init_92 : decode cX1_init 92 = .ok (.ifCond .eq 9, 3) := by decide +kernel
theorem dX1_init_95 : decode cX1_init 95 = .ok (.sipush 2048, 3) := by decide +kernel
theorem dX1_init_98 : decode cX1_init 98 = .ok (.goto 4, 3) := by decide +kernel
theorem dX1_init_101 : decode cX1_init 101 = .ok (.iconst 0, 1) := by decide +kernel
theorem dX1_init_102 : decode cX1_init 102 = .ok (.newarray .int, 2) := by decide +kernel
theorem dX1_init_104 : decode cX1_init 104 = .ok (.putfield 45, 3) := by decide +kernel
theorem dX1_init_107 : decode cX1_init 107 = .ok (.return_, 1) := by decide +kernel
theorem dX1_standFor_0 : decode cX1_standFor 0 = .ok (.aload_n 0, 1) := by decide +kernel
theorem dX1_standFor_1 : decode cX1_standFor 1 = .ok (.aload_n 1, 1) := by decide +kernel
theorem dX1_standFor_2 : decode cX1_standFor 2 = .ok (.invokevirtual 48, 3) := by decide +kernel
theorem dX1_standFor_5 : decode cX1_standFor 5 = .ok (.ifCond .eq 4, 3) := by decide +kernel
theorem dX1_standFor_8 : decode cX1_standFor 8 = .ok (.return_, 1) := by decide +kernel
theorem dX1_standFor_9 : decode cX1_standFor 9 = .ok (.aload_n 0, 1) := by decide +kernel
theorem dX1_standFor_10 : decode cX1_standFor 10 = .ok (.aload_n 0, 1) := by decide +kernel
theorem dX1_standFor_11 : decode cX1_standFor 11 = .ok (.getfield 21, 3) := by decide +kernel
theorem dX1_standFor_14 : decode cX1_standFor 14 = .ok (.getfield 52, 3) := by decide +kernel
theorem dX1_standFor_17 : decode cX1_standFor 17 = .ok (.putfield 58, 3) := by decide +kernel
theorem dX1_standFor_20 : decode cX1_standFor 20 = .ok (.aload_n 0, 1) := by decide +kernel
theorem dX1_standFor_21 : decode cX1_standFor 21 = .ok (.aload_n 0, 1) := by decide +kernel
theorem dX1_standFor_22 : decode cX1_standFor 22 = .ok (.getfield 21, 3) := by decide +kernel
theorem dX1_standFor_25 : decode cX1_standFor 25 = .ok (.getfield 59, 3) := by decide +kernel
theorem dX1_standFor_28 : decode cX1_standFor 28 = .ok (.putfield 62, 3) := by decide +kernel
theorem dX1_standFor_31 : decode cX1_standFor 31 = .ok (.aload_n 0, 1) := by decide +kernel
theorem dX1_standFor_32 : decode cX1_standFor 32 = .ok (.aload_n 1, 1) := by decide +kernel
theorem dX1_standFor_33 : decode cX1_standFor 33 = .ok (.getfield 63, 3) := by decide +kernel
theorem dX1_standFor_36 : decode cX1_standFor 36 = .ok (.bipush 10, 2) := by decide +kernel
theorem dX1_standFor_38 : decode cX1_standFor 38 = .ok (.invokestatic 68, 3) := by decide +kernel
theorem dX1_standFor_41 : decode cX1_standFor 41 = .ok (.putfield 74, 3) := by decide +kernel
theorem dX1_standFor_44 : decode cX1_standFor 44 = .ok (.aload_n 1, 1) := by decide +kernel
theorem dX1_standFor_45 : decode cX1_standFor 45 = .ok (.getfield 77, 3) := by decide +kernel
theorem dX1_standFor_48 : decode cX1_standFor 48 = .ok (.iconst 0, 1) := by decide +kernel
theorem dX1_standFor_49 : decode cX1_standFor 49 = .ok (.aload_n 0, 1) := by decide +kernel
theorem dX1_standFor_50 : decode cX1_standFor 50 = .ok (.getfield 11, 3) := by decide +kernel
theorem dX1_standFor_53 : decode cX1_standFor 53 = .ok (.iconst 0, 1) := by decide +kernel
theorem dX1_standFor_54 : decode cX1_standFor 54 = .ok (.aload_n 0, 1) := by decide +kernel
theorem dX1_standFor_55 : decode cX1_standFor 55 = .ok (.getfield 74, 3) := by decide +kernel
theorem dX1_standFor_58 : decode cX1_standFor 58 = .ok (.invokestatic 80, 3) := by decide +kernel
theorem dX1_standFor_61 : decode cX1_standFor 61 = .ok (.aload_n 0, 1) := by decide +kernel
theorem dX1_standFor_62 : decode cX1_standFor 62 = .ok (.getfield 18, 3) := by decide +kernel
theorem dX1_standFor_65 : decode cX1_standFor 65 = .ok (.iconst 0, 1) := by decide +kernel
theorem dX1_standFor_66 : decode cX1_standFor 66 = .ok (.invokestatic 86, 3) := by decide +kernel
theorem dX1_standFor_69 : decode cX1_standFor 69 = .ok (.aload_n 0, 1) := by decide +kernel
theorem dX1_standFor_70 : decode cX1_standFor 70 = .ok (.getfield 45, 3) := by decide +kernel
theorem dX1_standFor_73 : decode cX1_standFor 73 = .ok (.iconst 0, 1) := by decide +kernel
theorem dX1_standFor_74 : decode cX1_standFor 74 = .ok (.invokestatic 86, 3) := by decide +kernel
theorem dX1_standFor_77 : decode cX1_standFor 77 = .ok (.aload_n 0, 1) := by decide +kernel
theorem dX1_standFor_78 : decode cX1_standFor 78 = .ok (.iconst 0, 1) := by decide +kernel
theorem dX1_standFor_79 : decode cX1_standFor 79 = .ok (.putfield 92, 3) := by decide +kernel
theorem dX1_standFor_82 : decode cX1_standFor 82 = .ok (.aload_n 0, 1) := by decide +kernel
theorem dX1_standFor_83 : decode cX1_standFor 83 = .ok (.getfield 25, 3) := by decide +kernel
theorem dX1_standFor_86 : decode cX1_standFor 86 = .ok (.ifCond .eq 13, 3) := by decide +kernel
theorem dX1_standFor_89 : decode cX1_standFor 89 = .ok (.aload_n 0, 1) := by decide +kernel
theorem dX1_standFor_90 : decode cX1_standFor 90 = .ok (.getfield 21, 3) := by decide +kernel
theorem dX1_standFor_93 : decode cX1_standFor 93 = .ok (.getfield 95, 3) := by decide +kernel
theorem dX1_standFor_96 : decode cX1_standFor 96 = .ok (.goto 7, 3) := by decide +kernel
theorem dX1_standFor_99 : decode cX1_standFor 99 = .ok (.aload_n 0, 1) := by decide +kernel
theorem dX1_standFor_100 : decode cX1_standFor 100 = .ok (.getfield 74, 3) := by decide +kernel
theorem dX1_standFor_103 : decode cX1_standFor 103 = .ok (.istore_n 2, 1) := by decide +kernel
theorem dX1_standFor_104 : decode cX1_standFor 104 = .ok (.iconst 0, 1) := by decide +kernel
theorem dX1_standFor_105 : decode cX1_standFor 105 = .ok (.istore_n 3, 1) := by decide +kernel
theorem dX1_standFor_106 : decode cX1_standFor 106 = .ok (.iload_n 3, 1) := by decide +kernel
theorem dX1_standFor_107 : decode cX1_standFor 107 = .ok (.iload_n 2, 1) := by decide +kernel
theorem dX1_standFor_108 : decode cX1_standFor 108 = .ok (.if_icmp .ge 30, 3) := by decide +kernel
theorem dX1_standFor_111 : decode cX1_standFor 111 = .ok (.aload_n 0, 1) := by decide +kernel
theorem dX1_standFor_112 : decode cX1_standFor 112 = .ok (.aload_n 0, 1) := by decide +kernel
theorem dX1_standFor_113 : decode cX1_standFor 113 = .ok (.getfield 25, 3) := by decide +kernel
theorem dX1_standFor_116 : decode cX1_standFor 116 = .ok (.ifCond .eq 7, 3) := by decide +kernel
theorem dX1_standFor_119 : decode cX1_standFor 119 = .ok (.iload_n 3, 1) := by decide +kernel
theorem dX1_standFor_120 : decode cX1_standFor 120 = .ok (.goto 9, 3) := by decide +kernel
theorem dX1_standFor_123 : decode cX1_standFor 123 = .ok (.aload_n 0, 1) := by decide +kernel
theorem dX1_standFor_124 : decode cX1_standFor 124 = .ok (.getfield 11, 3) := by decide +kernel
theorem dX1_standFor_127 : decode cX1_standFor 127 = .ok (.iload_n 3, 1) := by decide +kernel
theorem dX1_standFor_128 : decode cX1_standFor 128 = .ok (.iaload, 1) := by decide +kernel
theorem dX1_standFor_129 : decode cX1_standFor 129 = .ok (.invokevirtual 98, 3) := by decide +kernel
theorem dX1_standFor_132 : decode cX1_standFor 132 = .ok (.iinc 3 1, 3) := by decide +kernel
theorem dX1_standFor_135 : decode cX1_standFor 135 = .ok (.goto (-29), 3) := by decide +kernel
theorem dX1_standFor_138 : decode cX1_standFor 138 = .ok (.return_, 1) := by decide +kernel
theorem dX1_standsFor_0 : decode cX1_standsFor 0 = .ok (.aload_n 0, 1) := by decide +kernel
theorem dX1_standsFor_1 : decode cX1_standsFor 1 = .ok (.getfield 58, 3) := by decide +kernel
theorem dX1_standsFor_4 : decode cX1_standsFor 4 = .ok (.aload_n 0, 1) := by decide +kernel
theorem dX1_standsFor_5 : decode cX1_standsFor 5 = .ok (.getfield 21, 3) := by decide +kernel
theorem dX1_standsFor_8 : decode cX1_standsFor 8 = .ok (.getfield 52, 3) := by decide +kernel
theorem dX1_standsFor_11 : decode cX1_standsFor 11 = .ok (.if_icmp .ne 28, 3) := by decide +kernel
theorem dX1_standsFor_14 : decode cX1_standsFor 14 = .ok (.aload_n 0, 1) := by decide +kernel
theorem dX1_standsFor_15 : decode cX1_standsFor 15 = .ok (.getfield 62, 3) := by decide +kernel
theorem dX1_standsFor_18 : decode cX1_standsFor 18 = .ok (.aload_n 0, 1) := by decide +kernel
theorem dX1_standsFor_19 : decode cX1_standsFor 19 = .ok (.getfield 21, 3) := by decide +kernel
theorem dX1_standsFor_22 : decode cX1_standsFor 22 = .ok (.getfield 59, 3) := by decide +kernel
theorem dX1_standsFor_25 : decode cX1_standsFor 25 = .ok (.if_icmp .ne 14, 3) := by decide +kernel
theorem dX1_standsFor_28 : decode cX1_standsFor 28 = .ok (.aload_n 0, 1) := by decide +kernel
theorem dX1_standsFor_29 : decode cX1_standsFor 29 = .ok (.getfield 74, 3) := by decide +kernel
theorem dX1_standsFor_32 : decode cX1_standsFor 32 = .ok (.aload_n 1, 1) := by decide +kernel
theorem dX1_standsFor_33 : decode cX1_standsFor 33 = .ok (.getfield 63, 3) := by decide +kernel
theorem dX1_standsFor_36 : decode cX1_standsFor 36 = .ok (.if_icmp .eq 5, 3) := by decide +kernel
theorem dX1_standsFor_39 : decode cX1_standsFor 39 = .ok (.iconst 0, 1) := by decide +kernel
theorem dX1_standsFor_40 : decode cX1_standsFor 40 = .ok (.ireturn, 1) := by decide +kernel
theorem dX1_standsFor_41 : decode cX1_standsFor 41 = .ok (.iconst 0, 1) := by decide +kernel
theorem dX1_standsFor_42 : decode cX1_standsFor 42 = .ok (.istore_n 2, 1) := by decide +kernel
theorem dX1_standsFor_43 : decode cX1_standsFor 43 = .ok (.iload_n 2, 1) := by decide +kernel
theorem dX1_standsFor_44 : decode cX1_standsFor 44 = .ok (.aload_n 0, 1) := by decide +kernel
theorem dX1_standsFor_45 : decode cX1_standsFor 45 = .ok (.getfield 74, 3) := by decide +kernel
theorem dX1_standsFor_48 : decode cX1_standsFor 48 = .ok (.if_icmp .ge 26, 3) := by decide +kernel
theorem dX1_standsFor_51 : decode cX1_standsFor 51 = .ok (.aload_n 0, 1) := by decide +kernel
theorem dX1_standsFor_52 : decode cX1_standsFor 52 = .ok (.getfield 11, 3) := by decide +kernel
theorem dX1_standsFor_55 : decode cX1_standsFor 55 = .ok (.iload_n 2, 1) := by decide +kernel
theorem dX1_standsFor_56 : decode cX1_standsFor 56 = .ok (.iaload, 1) := by decide +kernel
theorem dX1_standsFor_57 : decode cX1_standsFor 57 = .ok (.aload_n 1, 1) := by decide +kernel
theorem dX1_standsFor_58 : decode cX1_standsFor 58 = .ok (.getfield 77, 3) := by decide +kernel
theorem dX1_standsFor_61 : decode cX1_standsFor 61 = .ok (.iload_n 2, 1) := by decide +kernel
theorem dX1_standsFor_62 : decode cX1_standsFor 62 = .ok (.iaload, 1) := by decide +kernel
theorem dX1_standsFor_63 : decode cX1_standsFor 63 = .ok (.if_icmp .eq 5, 3) := by decide +kernel
theorem dX1_standsFor_66 : decode cX1_standsFor 66 = .ok (.iconst 0, 1) := by decide +kernel
theorem dX1_standsFor_67 : decode cX1_standsFor 67 = .ok (.ireturn, 1) := by decide +kernel
theorem dX1_standsFor_68 : decode cX1_standsFor 68 = .ok (.iinc 2 1, 3) := by decide +kernel
theorem dX1_standsFor_71 : decode cX1_standsFor 71 = .ok (.goto (-28), 3) := by decide +kernel
theorem dX1_standsFor_74 : decode cX1_standsFor 74 = .ok (.iconst 1, 1) := by decide +kernel
theorem dX1_standsFor_75 : decode cX1_standsFor 75 = .ok (.ireturn, 1) := by decide +kernel
theorem dX1_enter_0 : decode cX1_enter 0 = .ok (.aload_n 0, 1) := by decide +kernel
theorem dX1_enter_1 : decode cX1_enter 1 = .ok (.getfield 92, 3) := by decide +kernel
theorem dX1_enter_4 : decode cX1_enter 4 = .ok (.aload_n 0, 1) := by decide +kernel
theorem dX1_enter_5 : decode cX1_enter 5 = .ok (.getfield 29, 3) := by decide +kernel
theorem dX1_enter_8 : decode cX1_enter 8 = .ok (.arraylength, 1) := by decide +kernel
theorem dX1_enter_9 : decode cX1_enter 9 = .ok (.if_icmp .lt 4, 3) := by decide +kernel
theorem dX1_enter_12 : decode cX1_enter 12 = .ok (.return_, 1) := by decide +kernel
theorem dX1_enter_13 : decode cX1_enter 13 = .ok (.aload_n 0, 1) := by decide +kernel
theorem dX1_enter_14 : decode cX1_enter 14 = .ok (.iload_n 1, 1) := by decide +kernel
theorem dX1_enter_15 : decode cX1_enter 15 = .ok (.invokevirtual 102, 3) := by decide +kernel
theorem dX1_enter_18 : decode cX1_enter 18 = .ok (.lstore_n 2, 1) := by decide +kernel
theorem dX1_enter_19 : decode cX1_enter 19 = .ok (.aload_n 0, 1) := by decide +kernel
theorem dX1_enter_20 : decode cX1_enter 20 = .ok (.getfield 25, 3) := by decide +kernel
theorem dX1_enter_23 : decode cX1_enter 23 = .ok (.ifCond .eq 34, 3) := by decide +kernel
theorem dX1_enter_26 : decode cX1_enter 26 = .ok (.aload_n 0, 1) := by decide +kernel
theorem dX1_enter_27 : decode cX1_enter 27 = .ok (.lload_n 2, 1) := by decide +kernel
theorem dX1_enter_28 : decode cX1_enter 28 = .ok (.invokevirtual 106, 3) := by decide +kernel
theorem dX1_enter_31 : decode cX1_enter 31 = .ok (.istore 4, 2) := by decide +kernel
theorem dX1_enter_33 : decode cX1_enter 33 = .ok (.aload_n 0, 1) := by decide +kernel
theorem dX1_enter_34 : decode cX1_enter 34 = .ok (.getfield 45, 3) := by decide +kernel
theorem dX1_enter_37 : decode cX1_enter 37 = .ok (.iload 4, 2) := by decide +kernel
theorem dX1_enter_39 : decode cX1_enter 39 = .ok (.iaload, 1) := by decide +kernel
theorem dX1_enter_40 : decode cX1_enter 40 = .ok (.ifCond .eq 4, 3) := by decide +kernel
theorem dX1_enter_43 : decode cX1_enter 43 = .ok (.return_, 1) := by decide +kernel
theorem dX1_enter_44 : decode cX1_enter 44 = .ok (.aload_n 0, 1) := by decide +kernel
theorem dX1_enter_45 : decode cX1_enter 45 = .ok (.getfield 45, 3) := by decide +kernel
theorem dX1_enter_48 : decode cX1_enter 48 = .ok (.iload 4, 2) := by decide +kernel
theorem dX1_enter_50 : decode cX1_enter 50 = .ok (.aload_n 0, 1) := by decide +kernel
theorem dX1_enter_51 : decode cX1_enter 51 = .ok (.getfield 92, 3) := by decide +kernel
theorem dX1_enter_54 : decode cX1_enter 54 = .ok (.iconst 1, 1) := by decide +kernel
theorem dX1_enter_55 : decode cX1_enter 55 = .ok (.iadd, 1) := by decide +kernel
theorem dX1_enter_56 : decode cX1_enter 56 = .ok (.iastore, 1) := by decide +kernel
theorem dX1_enter_57 : decode cX1_enter 57 = .ok (.aload_n 0, 1) := by decide +kernel
theorem dX1_enter_58 : decode cX1_enter 58 = .ok (.getfield 29, 3) := by decide +kernel
theorem dX1_enter_61 : decode cX1_enter 61 = .ok (.aload_n 0, 1) := by decide +kernel
theorem dX1_enter_62 : decode cX1_enter 62 = .ok (.getfield 92, 3) := by decide +kernel
theorem dX1_enter_65 : decode cX1_enter 65 = .ok (.iload_n 1, 1) := by decide +kernel
theorem dX1_enter_66 : decode cX1_enter 66 = .ok (.iastore, 1) := by decide +kernel
theorem dX1_enter_67 : decode cX1_enter 67 = .ok (.aload_n 0, 1) := by decide +kernel
theorem dX1_enter_68 : decode cX1_enter 68 = .ok (.getfield 32, 3) := by decide +kernel
theorem dX1_enter_71 : decode cX1_enter 71 = .ok (.aload_n 0, 1) := by decide +kernel
theorem dX1_enter_72 : decode cX1_enter 72 = .ok (.getfield 92, 3) := by decide +kernel
theorem dX1_enter_75 : decode cX1_enter 75 = .ok (.aload_n 0, 1) := by decide +kernel
theorem dX1_enter_76 : decode cX1_enter 76 = .ok (.iload_n 1, 1) := by decide +kernel
theorem dX1_enter_77 : decode cX1_enter 77 = .ok (.invokevirtual 110, 3) := by decide +kernel
theorem dX1_enter_80 : decode cX1_enter 80 = .ok (.iastore, 1) := by decide +kernel
theorem dX1_enter_81 : decode cX1_enter 81 = .ok (.aload_n 0, 1) := by decide +kernel
theorem dX1_enter_82 : decode cX1_enter 82 = .ok (.getfield 41, 3) := by decide +kernel
theorem dX1_enter_85 : decode cX1_enter 85 = .ok (.aload_n 0, 1) := by decide +kernel
theorem dX1_enter_86 : decode cX1_enter 86 = .ok (.getfield 92, 3) := by decide +kernel
theorem dX1_enter_89 : decode cX1_enter 89 = .ok (.lload_n 2, 1) := by decide +kernel
theorem dX1_enter_90 : decode cX1_enter 90 = .ok (.lastore, 1) := by decide +kernel
theorem dX1_enter_91 : decode cX1_enter 91 = .ok (.aload_n 0, 1) := by decide +kernel
theorem dX1_enter_92 : decode cX1_enter 92 = .ok (.dup, 1) := by decide +kernel
theorem dX1_enter_93 : decode cX1_enter 93 = .ok (.getfield 92, 3) := by decide +kernel
theorem dX1_enter_96 : decode cX1_enter 96 = .ok (.iconst 1, 1) := by decide +kernel
theorem dX1_enter_97 : decode cX1_enter 97 = .ok (.iadd, 1) := by decide +kernel
theorem dX1_enter_98 : decode cX1_enter 98 = .ok (.putfield 92, 3) := by decide +kernel
theorem dX1_enter_101 : decode cX1_enter 101 = .ok (.return_, 1) := by decide +kernel
theorem dX1_classify_0 : decode cX1_classify 0 = .ok (.aload_n 0, 1) := by decide +kernel
theorem dX1_classify_1 : decode cX1_classify 1 = .ok (.getfield 92, 3) := by decide +kernel
theorem dX1_classify_4 : decode cX1_classify 4 = .ok (.bipush 10, 2) := by decide +kernel
theorem dX1_classify_6 : decode cX1_classify 6 = .ok (.imul, 1) := by decide +kernel
theorem dX1_classify_7 : decode cX1_classify 7 = .ok (.istore_n 2, 1) := by decide +kernel
theorem dX1_classify_8 : decode cX1_classify 8 = .ok (.iconst 0, 1) := by decide +kernel
theorem dX1_classify_9 : decode cX1_classify 9 = .ok (.istore_n 3, 1) := by decide +kernel
theorem dX1_classify_10 : decode cX1_classify 10 = .ok (.lconst 0, 1) := by decide +kernel
theorem dX1_classify_11 : decode cX1_classify 11 = .ok (.lstore 4, 2) := by decide +kernel
theorem dX1_classify_13 : decode cX1_classify 13 = .ok (.aload_n 0, 1) := by decide +kernel
theorem dX1_classify_14 : decode cX1_classify 14 = .ok (.getfield 15, 3) := by decide +kernel
theorem dX1_classify_17 : decode cX1_classify 17 = .ok (.iconst (-1), 1) := by decide +kernel
theorem dX1_classify_18 : decode cX1_classify 18 = .ok (.invokestatic 86, 3) := by decide +kernel
theorem dX1_classify_21 : decode cX1_classify 21 = .ok (.aload_n 0, 1) := by decide +kernel
theorem dX1_classify_22 : decode cX1_classify 22 = .ok (.getfield 15, 3) := by decide +kernel
theorem dX1_classify_25 : decode cX1_classify 25 = .ok (.aload_n 0, 1) := by decide +kernel
theorem dX1_classify_26 : decode cX1_classify 26 = .ok (.getfield 21, 3) := by decide +kernel
theorem dX1_classify_29 : decode cX1_classify 29 = .ok (.invokevirtual 114, 3) := by decide +kernel
theorem dX1_classify_32 : decode cX1_classify 32 = .ok (.bipush 15, 2) := by decide +kernel
theorem dX1_classify_34 : decode cX1_classify 34 = .ok (.iastore, 1) := by decide +kernel
theorem dX1_classify_35 : decode cX1_classify 35 = .ok (.iconst 0, 1) := by decide +kernel
theorem dX1_classify_36 : decode cX1_classify 36 = .ok (.istore 6, 2) := by decide +kernel
theorem dX1_classify_38 : decode cX1_classify 38 = .ok (.iload 6, 2) := by decide +kernel
theorem dX1_classify_40 : decode cX1_classify 40 = .ok (.aload_n 0, 1) := by decide +kernel
theorem dX1_classify_41 : decode cX1_classify 41 = .ok (.getfield 74, 3) := by decide +kernel
theorem dX1_classify_44 : decode cX1_classify 44 = .ok (.if_icmp .ge 102, 3) := by decide +kernel
theorem dX1_classify_47 : decode cX1_classify 47 = .ok (.aload_n 0, 1) := by decide +kernel
theorem dX1_classify_48 : decode cX1_classify 48 = .ok (.getfield 21, 3) := by decide +kernel
theorem dX1_classify_51 : decode cX1_classify 51 = .ok (.iload_n 1, 1) := by decide +kernel
theorem dX1_classify_52 : decode cX1_classify 52 = .ok (.aload_n 0, 1) := by decide +kernel
theorem dX1_classify_53 : decode cX1_classify 53 = .ok (.getfield 11, 3) := by decide +kernel
theorem dX1_classify_56 : decode cX1_classify 56 = .ok (.iload 6, 2) := by decide +kernel
theorem dX1_classify_58 : decode cX1_classify 58 = .ok (.iaload, 1) := by decide +kernel
theorem dX1_classify_59 : decode cX1_classify 59 = .ok (.invokevirtual 118, 3) := by decide +kernel
theorem dX1_classify_62 : decode cX1_classify 62 = .ok (.istore 7, 2) := by decide +kernel
theorem dX1_classify_64 : decode cX1_classify 64 = .ok (.aload_n 0, 1) := by decide +kernel
theorem dX1_classify_65 : decode cX1_classify 65 = .ok (.getfield 15, 3) := by decide +kernel
theorem dX1_classify_68 : decode cX1_classify 68 = .ok (.iload 7, 2) := by decide +kernel
theorem dX1_classify_70 : decode cX1_classify 70 = .ok (.iaload, 1) := by decide +kernel
theorem dX1_classify_71 : decode cX1_classify 71 = .ok (.iconst (-1), 1) := by decide +kernel
theorem dX1_classify_72 : decode cX1_classify 72 = .ok (.if_icmp .ne 23, 3) := by decide +kernel
theorem dX1_classify_75 : decode cX1_classify 75 = .ok (.aload_n 0, 1) := by decide +kernel
theorem dX1_classify_76 : decode cX1_classify 76 = .ok (.getfield 15, 3) := by decide +kernel
theorem dX1_classify_79 : decode cX1_classify 79 = .ok (.iload 7, 2) := by decide +kernel
theorem dX1_classify_81 : decode cX1_classify 81 = .ok (.iload_n 3, 1) := by decide +kernel
theorem dX1_classify_82 : decode cX1_classify 82 = .ok (.iastore, 1) := by decide +kernel
theorem dX1_classify_83 : decode cX1_classify 83 = .ok (.aload_n 0, 1) := by decide +kernel
theorem dX1_classify_84 : decode cX1_classify 84 = .ok (.getfield 38, 3) := by decide +kernel
theorem dX1_classify_87 : decode cX1_classify 87 = .ok (.iload_n 2, 1) := by decide +kernel
theorem dX1_classify_88 : decode cX1_classify 88 = .ok (.iload_n 3, 1) := by decide +kernel
theorem dX1_classify_89 : decode cX1_classify 89 = .ok (.iadd, 1) := by decide +kernel
theorem dX1_classify_90 : decode cX1_classify 90 = .ok (.iconst 0, 1) := by decide +kernel
theorem dX1_classify_91 : decode cX1_classify 91 = .ok (.iastore, 1) := by decide +kernel
theorem dX1_classify_92 : decode cX1_classify 92 = .ok (.iinc 3 1, 3) := by decide +kernel
theorem dX1_classify_95 : decode cX1_classify 95 = .ok (.aload_n 0, 1) := by decide +kernel
theorem dX1_classify_96 : decode cX1_classify 96 = .ok (.getfield 15, 3) := by decide +kernel
theorem dX1_classify_99 : decode cX1_classify 99 = .ok (.iload 7, 2) := by decide +kernel
theorem dX1_classify_101 : decode cX1_classify 101 = .ok (.iaload, 1) := by decide +kernel
theorem dX1_classify_102 : decode cX1_classify 102 = .ok (.istore 8, 2) := by decide +kernel
theorem dX1_classify_104 : decode cX1_classify 104 = .ok (.iload 8, 2) := by decide +kernel
theorem dX1_classify_106 : decode cX1_classify 106 = .ok (.bipush 15, 2) := by decide +kernel
theorem dX1_classify_108 : decode cX1_classify 108 = .ok (.if_icmp .eq 19, 3) := by decide +kernel
theorem dX1_classify_111 : decode cX1_classify 111 = .ok (.aload_n 0, 1) := by decide +kernel
theorem dX1_classify_112 : decode cX1_classify 112 = .ok (.getfield 38, 3) := by decide +kernel
theorem dX1_classify_115 : decode cX1_classify 115 = .ok (.iload_n 2, 1) := by decide +kernel
theorem dX1_classify_116 : decode cX1_classify 116 = .ok (.iload 8, 2) := by decide +kernel
theorem dX1_classify_118 : decode cX1_classify 118 = .ok (.iadd, 1) := by decide +kernel
theorem dX1_classify_119 : decode cX1_classify 119 = .ok (.dup2, 1) := by decide +kernel
theorem dX1_classify_120 : decode cX1_classify 120 = .ok (.iaload, 1) := by decide +kernel
theorem dX1_classify_121 : decode cX1_classify 121 = .ok (.iconst 1, 1) := by decide +kernel
theorem dX1_classify_122 : decode cX1_classify 122 = .ok (.iload 6, 2) := by decide +kernel
theorem dX1_classify_124 : decode cX1_classify 124 = .ok (.ishl, 1) := by decide +kernel
theorem dX1_classify_125 : decode cX1_classify 125 = .ok (.ior, 1) := by decide +kernel
theorem dX1_classify_126 : decode cX1_classify 126 = .ok (.iastore, 1) := by decide +kernel
theorem dX1_classify_127 : decode cX1_classify 127 = .ok (.lload 4, 2) := by decide +kernel
theorem dX1_classify_129 : decode cX1_classify 129 = .ok (.iload 8, 2) := by decide +kernel
theorem dX1_classify_131 : decode cX1_classify 131 = .ok (.i2l, 1) := by decide +kernel
theorem dX1_classify_132 : decode cX1_classify 132 = .ok (.iconst 4, 1) := by decide +kernel
theorem dX1_classify_133 : decode cX1_classify 133 = .ok (.iload 6, 2) := by decide +kernel
theorem dX1_classify_135 : decode cX1_classify 135 = .ok (.imul, 1) := by decide +kernel
theorem dX1_classify_136 : decode cX1_classify 136 = .ok (.lshl, 1) := by decide +kernel
theorem dX1_classify_137 : decode cX1_classify 137 = .ok (.lor, 1) := by decide +kernel
theorem dX1_classify_138 : decode cX1_classify 138 = .ok (.lstore 4, 2) := by decide +kernel
theorem dX1_classify_140 : decode cX1_classify 140 = .ok (.iinc 6 1, 3) := by decide +kernel
theorem dX1_classify_143 : decode cX1_classify 143 = .ok (.goto (-105), 3) := by decide +kernel
theorem dX1_classify_146 : decode cX1_classify 146 = .ok (.aload_n 0, 1) := by decide +kernel
theorem dX1_classify_147 : decode cX1_classify 147 = .ok (.getfield 35, 3) := by decide +kernel
theorem dX1_classify_150 : decode cX1_classify 150 = .ok (.aload_n 0, 1) := by decide +kernel
theorem dX1_classify_151 : decode cX1_classify 151 = .ok (.getfield 92, 3) := by decide +kernel
theorem dX1_classify_154 : decode cX1_classify 154 = .ok (.iload_n 3, 1) := by decide +kernel
theorem dX1_classify_155 : decode cX1_classify 155 = .ok (.iastore, 1) := by decide +kernel
theorem dX1_classify_156 : decode cX1_classify 156 = .ok (.lload 4, 2) := by decide +kernel
theorem dX1_classify_158 : decode cX1_classify 158 = .ok (.lreturn, 1) := by decide +kernel
theorem dX1_slotOf_0 : decode cX1_slotOf 0 = .ok (.lload_n 1, 1) := by decide +kernel
theorem dX1_slotOf_1 : decode cX1_slotOf 1 = .ok (.ldc2_w 121, 3) := by decide +kernel
theorem dX1_slotOf_4 : decode cX1_slotOf 4 = .ok (.lmul, 1) := by decide +kernel
theorem dX1_slotOf_5 : decode cX1_slotOf 5 = .ok (.bipush 53, 2) := by decide +kernel
theorem dX1_slotOf_7 : decode cX1_slotOf 7 = .ok (.lushr, 1) := by decide +kernel
theorem dX1_slotOf_8 : decode cX1_slotOf 8 = .ok (.l2i, 1) := by decide +kernel
theorem dX1_slotOf_9 : decode cX1_slotOf 9 = .ok (.istore_n 3, 1) := by decide +kernel
theorem dX1_slotOf_10 : decode cX1_slotOf 10 = .ok (.iconst 0, 1) := by decide +kernel
theorem dX1_slotOf_11 : decode cX1_slotOf 11 = .ok (.istore 4, 2) := by decide +kernel
theorem dX1_slotOf_13 : decode cX1_slotOf 13 = .ok (.iload 4, 2) := by decide +kernel
theorem dX1_slotOf_15 : decode cX1_slotOf 15 = .ok (.sipush 2048, 3) := by decide +kernel
theorem dX1_slotOf_18 : decode cX1_slotOf 18 = .ok (.if_icmp .ge 46, 3) := by decide +kernel
theorem dX1_slotOf_21 : decode cX1_slotOf 21 = .ok (.aload_n 0, 1) := by decide +kernel
theorem dX1_slotOf_22 : decode cX1_slotOf 22 = .ok (.getfield 45, 3) := by decide +kernel
theorem dX1_slotOf_25 : decode cX1_slotOf 25 = .ok (.iload_n 3, 1) := by decide +kernel
theorem dX1_slotOf_26 : decode cX1_slotOf 26 = .ok (.iaload, 1) := by decide +kernel
theorem dX1_slotOf_27 : decode cX1_slotOf 27 = .ok (.iconst 1, 1) := by decide +kernel
theorem dX1_slotOf_28 : decode cX1_slotOf 28 = .ok (.isub, 1) := by decide +kernel
theorem dX1_slotOf_29 : decode cX1_slotOf 29 = .ok (.istore 5, 2) := by decide +kernel
theorem dX1_slotOf_31 : decode cX1_slotOf 31 = .ok (.iload 5, 2) := by decide +kernel
theorem dX1_slotOf_33 : decode cX1_slotOf 33 = .ok (.ifCond .lt 15, 3) := by decide +kernel
theorem dX1_slotOf_36 : decode cX1_slotOf 36 = .ok (.aload_n 0, 1) := by decide +kernel
theorem dX1_slotOf_37 : decode cX1_slotOf 37 = .ok (.getfield 41, 3) := by decide +kernel
theorem dX1_slotOf_40 : decode cX1_slotOf 40 = .ok (.iload 5, 2) := by decide +kernel
theorem dX1_slotOf_42 : decode cX1_slotOf 42 = .ok (.laload, 1) := by decide +kernel
theorem dX1_slotOf_43 : decode cX1_slotOf 43 = .ok (.lload_n 1, 1) := by decide +kernel
theorem dX1_slotOf_44 : decode cX1_slotOf 44 = .ok (.lcmp, 1) := by decide +kernel
theorem dX1_slotOf_45 : decode cX1_slotOf 45 = .ok (.ifCond .ne 5, 3) := by decide +kernel
theorem dX1_slotOf_48 : decode cX1_slotOf 48 = .ok (.iload_n 3, 1) := by decide +kernel
theorem dX1_slotOf_49 : decode cX1_slotOf 49 = .ok (.ireturn, 1) := by decide +kernel
theorem dX1_slotOf_50 : decode cX1_slotOf 50 = .ok (.iload_n 3, 1) := by decide +kernel
theorem dX1_slotOf_51 : decode cX1_slotOf 51 = .ok (.iconst 1, 1) := by decide +kernel
theorem dX1_slotOf_52 : decode cX1_slotOf 52 = .ok (.iadd, 1) := by decide +kernel
theorem dX1_slotOf_53 : decode cX1_slotOf 53 = .ok (.sipush 2047, 3) := by decide +kernel
theorem dX1_slotOf_56 : decode cX1_slotOf 56 = .ok (.iand, 1) := by decide +kernel
theorem dX1_slotOf_57 : decode cX1_slotOf 57 = .ok (.istore_n 3, 1) := by decide +kernel
theorem dX1_slotOf_58 : decode cX1_slotOf 58 = .ok (.iinc 4 1, 3) := by decide +kernel
theorem dX1_slotOf_61 : decode cX1_slotOf 61 = .ok (.goto (-48), 3) := by decide +kernel
theorem dX1_slotOf_64 : decode cX1_slotOf 64 = .ok (.iload_n 3, 1) := by decide +kernel
theorem dX1_slotOf_65 : decode cX1_slotOf 65 = .ok (.ireturn, 1) := by decide +kernel
theorem dX1_bitOf_0 : decode cX1_bitOf 0 = .ok (.iconst 0, 1) := by decide +kernel
theorem dX1_bitOf_1 : decode cX1_bitOf 1 = .ok (.istore_n 2, 1) := by decide +kernel
theorem dX1_bitOf_2 : decode cX1_bitOf 2 = .ok (.iload_n 2, 1) := by decide +kernel
theorem dX1_bitOf_3 : decode cX1_bitOf 3 = .ok (.aload_n 0, 1) := by decide +kernel
theorem dX1_bitOf_4 : decode cX1_bitOf 4 = .ok (.getfield 74, 3) := by decide +kernel
theorem dX1_bitOf_7 : decode cX1_bitOf 7 = .ok (.if_icmp .ge 23, 3) := by decide +kernel
theorem dX1_bitOf_10 : decode cX1_bitOf 10 = .ok (.aload_n 0, 1) := by decide +kernel
theorem dX1_bitOf_11 : decode cX1_bitOf 11 = .ok (.getfield 11, 3) := by decide +kernel
theorem dX1_bitOf_14 : decode cX1_bitOf 14 = .ok (.iload_n 2, 1) := by decide +kernel
theorem dX1_bitOf_15 : decode cX1_bitOf 15 = .ok (.iaload, 1) := by decide +kernel
theorem dX1_bitOf_16 : decode cX1_bitOf 16 = .ok (.iload_n 1, 1) := by decide +kernel
theorem dX1_bitOf_17 : decode cX1_bitOf 17 = .ok (.if_icmp .ne 7, 3) := by decide +kernel
theorem dX1_bitOf_20 : decode cX1_bitOf 20 = .ok (.iconst 1, 1) := by decide +kernel
theorem dX1_bitOf_21 : decode cX1_bitOf 21 = .ok (.iload_n 2, 1) := by decide +kernel
theorem dX1_bitOf_22 : decode cX1_bitOf 22 = .ok (.ishl, 1) := by decide +kernel
theorem dX1_bitOf_23 : decode cX1_bitOf 23 = .ok (.ireturn, 1) := by decide +kernel
theorem dX1_bitOf_24 : decode cX1_bitOf 24 = .ok (.iinc 2 1, 3) := by decide +kernel
theorem dX1_bitOf_27 : decode cX1_bitOf 27 = .ok (.goto (-25), 3) := by decide +kernel
theorem dX1_bitOf_30 : decode cX1_bitOf 30 = .ok (.iconst 0, 1) := by decide +kernel
theorem dX1_bitOf_31 : decode cX1_bitOf 31 = .ok (.ireturn, 1) := by decide +kernel
theorem dX1_allMembers_0 : decode cX1_allMembers 0 = .ok (.iconst 1, 1) := by decide +kernel
theorem dX1_allMembers_1 : decode cX1_allMembers 1 = .ok (.aload_n 0, 1) := by decide +kernel
theorem dX1_allMembers_2 : decode cX1_allMembers 2 = .ok (.getfield 74, 3) := by decide +kernel
theorem dX1_allMembers_5 : decode cX1_allMembers 5 = .ok (.ishl, 1) := by decide +kernel
theorem dX1_allMembers_6 : decode cX1_allMembers 6 = .ok (.iconst 1, 1) := by decide +kernel
theorem dX1_allMembers_7 : decode cX1_allMembers 7 = .ok (.isub, 1) := by decide +kernel
theorem dX1_allMembers_8 : decode cX1_allMembers 8 = .ok (.ireturn, 1) := by decide +kernel
theorem dX1_bounded_0 : decode cX1_bounded 0 = .ok (.iload_n 1, 1) := by decide +kernel
theorem dX1_bounded_1 : decode cX1_bounded 1 = .ok (.ifCond .eq 11, 3) := by decide +kernel
theorem dX1_bounded_4 : decode cX1_bounded 4 = .ok (.iload_n 1, 1) := by decide +kernel
theorem dX1_bounded_5 : decode cX1_bounded 5 = .ok (.aload_n 0, 1) := by decide +kernel
theorem dX1_bounded_6 : decode cX1_bounded 6 = .ok (.getfield 74, 3) := by decide +kernel
theorem dX1_bounded_9 : decode cX1_bounded 9 = .ok (.if_icmp .le 10, 3) := by decide +kernel
theorem dX1_bounded_12 : decode cX1_bounded 12 = .ok (.aload_n 0, 1) := by decide +kernel
theorem dX1_bounded_13 : decode cX1_bounded 13 = .ok (.getfield 74, 3) := by decide +kernel
theorem dX1_bounded_16 : decode cX1_bounded 16 = .ok (.goto 4, 3) := by decide +kernel
theorem dX1_bounded_19 : decode cX1_bounded 19 = .ok (.iload_n 1, 1) := by decide +kernel
theorem dX1_bounded_20 : decode cX1_bounded 20 = .ok (.ireturn, 1) := by decide +kernel
theorem dX1_leastSumWithin_0 : decode cX1_leastSumWithin 0 = .ok (.aload_n 0, 1) := by decide +kernel
theorem dX1_leastSumWithin_1 : decode cX1_leastSumWithin 1 = .ok (.aload_n 0, 1) := by decide +kernel
theorem dX1_leastSumWithin_2 : decode cX1_leastSumWithin 2 = .ok (.invokevirtual 123, 3) := by decide +kernel
theorem dX1_leastSumWithin_5 : decode cX1_leastSumWithin 5 = .ok (.aload_n 0, 1) := by decide +kernel
theorem dX1_leastSumWithin_6 : decode cX1_leastSumWithin 6 = .ok (.iload_n 1, 1) := by decide +kernel
theorem dX1_leastSumWithin_7 : decode cX1_leastSumWithin 7 = .ok (.invokevirtual 126, 3) := by decide +kernel
theorem dX1_leastSumWithin_10 : decode cX1_leastSumWithin 10 = .ok (.invokevirtual 129, 3) := by decide +kernel
theorem dX1_leastSumWithin_13 : decode cX1_leastSumWithin 13 = .ok (.ireturn, 1) := by decide +kernel
theorem dX1_firstOfLeastSum_0 : decode cX1_firstOfLeastSum 0 = .ok (.aload_n 0, 1) := by decide +kernel
theorem dX1_firstOfLeastSum_1 : decode cX1_firstOfLeastSum 1 = .ok (.aload_n 0, 1) := by decide +kernel
theorem dX1_firstOfLeastSum_2 : decode cX1_firstOfLeastSum 2 = .ok (.invokevirtual 123, 3) := by decide +kernel
theorem dX1_firstOfLeastSum_5 : decode cX1_firstOfLeastSum 5 = .ok (.aload_n 0, 1) := by decide +kernel
theorem dX1_firstOfLeastSum_6 : decode cX1_firstOfLeastSum 6 = .ok (.iload_n 1, 1) := by decide +kernel
theorem dX1_firstOfLeastSum_7 : decode cX1_firstOfLeastSum 7 = .ok (.invokevirtual 126, 3) := by decide +kernel
theorem dX1_firstOfLeastSum_10 : decode cX1_firstOfLeastSum 10 = .ok (.invokevirtual 132, 3) := by decide +kernel
theorem dX1_firstOfLeastSum_13 : decode cX1_firstOfLeastSum 13 = .ok (.ireturn, 1) := by decide +kernel
theorem dX1_leastDepth_0 : decode cX1_leastDepth 0 = .ok (.iconst 1, 1) := by decide +kernel
theorem dX1_leastDepth_1 : decode cX1_leastDepth 1 = .ok (.istore_n 1, 1) := by decide +kernel
theorem dX1_leastDepth_2 : decode cX1_leastDepth 2 = .ok (.iload_n 1, 1) := by decide +kernel
theorem dX1_leastDepth_3 : decode cX1_leastDepth 3 = .ok (.aload_n 0, 1) := by decide +kernel
theorem dX1_leastDepth_4 : decode cX1_leastDepth 4 = .ok (.getfield 74, 3) := by decide +kernel
theorem dX1_leastDepth_7 : decode cX1_leastDepth 7 = .ok (.if_icmp .ge 21, 3) := by decide +kernel
theorem dX1_leastDepth_10 : decode cX1_leastDepth 10 = .ok (.aload_n 0, 1) := by decide +kernel
theorem dX1_leastDepth_11 : decode cX1_leastDepth 11 = .ok (.aload_n 0, 1) := by decide +kernel
theorem dX1_leastDepth_12 : decode cX1_leastDepth 12 = .ok (.invokevirtual 123, 3) := by decide +kernel
theorem dX1_leastDepth_15 : decode cX1_leastDepth 15 = .ok (.iload_n 1, 1) := by decide +kernel
theorem dX1_leastDepth_16 : decode cX1_leastDepth 16 = .ok (.invokevirtual 129, 3) := by decide +kernel
theorem dX1_leastDepth_19 : decode cX1_leastDepth 19 = .ok (.ifCond .ne 9, 3) := by decide +kernel
theorem dX1_leastDepth_22 : decode cX1_leastDepth 22 = .ok (.iinc 1 1, 3) := by decide +kernel
theorem dX1_leastDepth_25 : decode cX1_leastDepth 25 = .ok (.goto (-23), 3) := by decide +kernel
theorem dX1_leastDepth_28 : decode cX1_leastDepth 28 = .ok (.iload_n 1, 1) := by decide +kernel
theorem dX1_leastDepth_29 : decode cX1_leastDepth 29 = .ok (.ireturn, 1) := by decide +kernel
theorem dX1_firstOfLeastDepth_0 : decode cX1_firstOfLeastDepth 0 = .ok (.aload_n 0, 1) := by decide +kernel
theorem dX1_firstOfLeastDepth_1 : decode cX1_firstOfLeastDepth 1 = .ok (.invokevirtual 135, 3) := by decide +kernel
theorem dX1_firstOfLeastDepth_4 : decode cX1_firstOfLeastDepth 4 = .ok (.istore_n 1, 1) := by decide +kernel
theorem dX1_firstOfLeastDepth_5 : decode cX1_firstOfLeastDepth 5 = .ok (.aload_n 0, 1) := by decide +kernel
theorem dX1_firstOfLeastDepth_6 : decode cX1_firstOfLeastDepth 6 = .ok (.getfield 74, 3) := by decide +kernel
theorem dX1_firstOfLeastDepth_9 : decode cX1_firstOfLeastDepth 9 = .ok (.iconst 1, 1) := by decide +kernel
theorem dX1_firstOfLeastDepth_10 : decode cX1_firstOfLeastDepth 10 = .ok (.if_icmp .le 41, 3) := by decide +kernel
theorem dX1_firstOfLeastDepth_13 : decode cX1_firstOfLeastDepth 13 = .ok (.iconst 0, 1) := by decide +kernel
theorem dX1_firstOfLeastDepth_14 : decode cX1_firstOfLeastDepth 14 = .ok (.istore_n 2, 1) := by decide +kernel
theorem dX1_firstOfLeastDepth_15 : decode cX1_firstOfLeastDepth 15 = .ok (.iload_n 2, 1) := by decide +kernel
theorem dX1_firstOfLeastDepth_16 : decode cX1_firstOfLeastDepth 16 = .ok (.aload_n 0, 1) := by decide +kernel
theorem dX1_firstOfLeastDepth_17 : decode cX1_firstOfLeastDepth 17 = .ok (.getfield 92, 3) := by decide +kernel
theorem dX1_firstOfLeastDepth_20 : decode cX1_firstOfLeastDepth 20 = .ok (.if_icmp .ge 31, 3) := by decide +kernel
theorem dX1_firstOfLeastDepth_23 : decode cX1_firstOfLeastDepth 23 = .ok (.aload_n 0, 1) := by decide +kernel
theorem dX1_firstOfLeastDepth_24 : decode cX1_firstOfLeastDepth 24 = .ok (.iload_n 2, 1) := by decide +kernel
theorem dX1_firstOfLeastDepth_25 : decode cX1_firstOfLeastDepth 25 = .ok (.aload_n 0, 1) := by decide +kernel
theorem dX1_firstOfLeastDepth_26 : decode cX1_firstOfLeastDepth 26 = .ok (.invokevirtual 123, 3) := by decide +kernel
theorem dX1_firstOfLeastDepth_29 : decode cX1_firstOfLeastDepth 29 = .ok (.iload_n 1, 1) := by decide +kernel
theorem dX1_firstOfLeastDepth_30 : decode cX1_firstOfLeastDepth 30 = .ok (.ldc 138, 2) := by decide +kernel
theorem dX1_firstOfLeastDepth_32 : decode cX1_firstOfLeastDepth 32 = .ok (.invokevirtual 139, 3) := by decide +kernel
theorem dX1_firstOfLeastDepth_35 : decode cX1_firstOfLeastDepth 35 = .ok (.ifCond .le 10, 3) := by decide +kernel
theorem dX1_firstOfLeastDepth_38 : decode cX1_firstOfLeastDepth 38 = .ok (.aload_n 0, 1) := by decide +kernel
theorem dX1_firstOfLeastDepth_39 : decode cX1_firstOfLeastDepth 39 = .ok (.getfield 29, 3) := by decide +kernel
theorem dX1_firstOfLeastDepth_42 : decode cX1_firstOfLeastDepth 42 = .ok (.iload_n 2, 1) := by decide +kernel
theorem dX1_firstOfLeastDepth_43 : decode cX1_firstOfLeastDepth 43 = .ok (.iaload, 1) := by decide +kernel
theorem dX1_firstOfLeastDepth_44 : decode cX1_firstOfLeastDepth 44 = .ok (.ireturn, 1) := by decide +kernel
theorem dX1_firstOfLeastDepth_45 : decode cX1_firstOfLeastDepth 45 = .ok (.iinc 2 1, 3) := by decide +kernel
theorem dX1_firstOfLeastDepth_48 : decode cX1_firstOfLeastDepth 48 = .ok (.goto (-33), 3) := by decide +kernel
theorem dX1_firstOfLeastDepth_51 : decode cX1_firstOfLeastDepth 51 = .ok (.aload_n 0, 1) := by decide +kernel
theorem dX1_firstOfLeastDepth_52 : decode cX1_firstOfLeastDepth 52 = .ok (.getfield 11, 3) := by decide +kernel
theorem dX1_firstOfLeastDepth_55 : decode cX1_firstOfLeastDepth 55 = .ok (.iconst 0, 1) := by decide +kernel
theorem dX1_firstOfLeastDepth_56 : decode cX1_firstOfLeastDepth 56 = .ok (.iaload, 1) := by decide +kernel
theorem dX1_firstOfLeastDepth_57 : decode cX1_firstOfLeastDepth 57 = .ok (.ireturn, 1) := by decide +kernel
theorem dX1_leastSum_0 : decode cX1_leastSum 0 = .ok (.iload_n 1, 1) := by decide +kernel
theorem dX1_leastSum_1 : decode cX1_leastSum 1 = .ok (.invokestatic 143, 3) := by decide +kernel
theorem dX1_leastSum_4 : decode cX1_leastSum 4 = .ok (.istore_n 3, 1) := by decide +kernel
theorem dX1_leastSum_5 : decode cX1_leastSum 5 = .ok (.iload_n 3, 1) := by decide +kernel
theorem dX1_leastSum_6 : decode cX1_leastSum 6 = .ok (.ifCond .eq 8, 3) := by decide +kernel
theorem dX1_leastSum_9 : decode cX1_leastSum 9 = .ok (.iload_n 2, 1) := by decide +kernel
theorem dX1_leastSum_10 : decode cX1_leastSum 10 = .ok (.iconst 1, 1) := by decide +kernel
theorem dX1_leastSum_11 : decode cX1_leastSum 11 = .ok (.if_icmp .ge 5, 3) := by decide +kernel
theorem dX1_leastSum_14 : decode cX1_leastSum 14 = .ok (.iconst 0, 1) := by decide +kernel
theorem dX1_leastSum_15 : decode cX1_leastSum 15 = .ok (.ireturn, 1) := by decide +kernel
theorem dX1_leastSum_16 : decode cX1_leastSum 16 = .ok (.iload_n 3, 1) := by decide +kernel
theorem dX1_leastSum_17 : decode cX1_leastSum 17 = .ok (.iconst 1, 1) := by decide +kernel
theorem dX1_leastSum_18 : decode cX1_leastSum 18 = .ok (.if_icmp .ne 5, 3) := by decide +kernel
theorem dX1_leastSum_21 : decode cX1_leastSum 21 = .ok (.iconst 1, 1) := by decide +kernel
theorem dX1_leastSum_22 : decode cX1_leastSum 22 = .ok (.ireturn, 1) := by decide +kernel
theorem dX1_leastSum_23 : decode cX1_leastSum 23 = .ok (.iload_n 2, 1) := by decide +kernel
theorem dX1_leastSum_24 : decode cX1_leastSum 24 = .ok (.iconst 2, 1) := by decide +kernel
theorem dX1_leastSum_25 : decode cX1_leastSum 25 = .ok (.if_icmp .ge 5, 3) := by decide +kernel
theorem dX1_leastSum_28 : decode cX1_leastSum 28 = .ok (.iconst 0, 1) := by decide +kernel
theorem dX1_leastSum_29 : decode cX1_leastSum 29 = .ok (.ireturn, 1) := by decide +kernel
theorem dX1_leastSum_30 : decode cX1_leastSum 30 = .ok (.iload_n 3, 1) := by decide +kernel
theorem dX1_leastSum_31 : decode cX1_leastSum 31 = .ok (.iconst 2, 1) := by decide +kernel
theorem dX1_leastSum_32 : decode cX1_leastSum 32 = .ok (.if_icmp .ne 5, 3) := by decide +kernel
theorem dX1_leastSum_35 : decode cX1_leastSum 35 = .ok (.iconst 3, 1) := by decide +kernel
theorem dX1_leastSum_36 : decode cX1_leastSum 36 = .ok (.ireturn, 1) := by decide +kernel
theorem dX1_leastSum_37 : decode cX1_leastSum 37 = .ok (.aload_n 0, 1) := by decide +kernel
theorem dX1_leastSum_38 : decode cX1_leastSum 38 = .ok (.iload_n 1, 1) := by decide +kernel
theorem dX1_leastSum_39 : decode cX1_leastSum 39 = .ok (.iload_n 2, 1) := by decide +kernel
theorem dX1_leastSum_40 : decode cX1_leastSum 40 = .ok (.iload_n 3, 1) := by decide +kernel
theorem dX1_leastSum_41 : decode cX1_leastSum 41 = .ok (.invokestatic 68, 3) := by decide +kernel
theorem dX1_leastSum_44 : decode cX1_leastSum 44 = .ok (.invokevirtual 148, 3) := by decide +kernel
theorem dX1_leastSum_47 : decode cX1_leastSum 47 = .ok (.istore 4, 2) := by decide +kernel
theorem dX1_leastSum_49 : decode cX1_leastSum 49 = .ok (.iload 4, 2) := by decide +kernel
theorem dX1_leastSum_51 : decode cX1_leastSum 51 = .ok (.iconst (-1), 1) := by decide +kernel
theorem dX1_leastSum_52 : decode cX1_leastSum 52 = .ok (.if_icmp .ne 7, 3) := by decide +kernel
theorem dX1_leastSum_55 : decode cX1_leastSum 55 = .ok (.iconst 0, 1) := by decide +kernel
theorem dX1_leastSum_56 : decode cX1_leastSum 56 = .ok (.goto 8, 3) := by decide +kernel
theorem dX1_leastSum_59 : decode cX1_leastSum 59 = .ok (.iload 4, 2) := by decide +kernel
theorem dX1_leastSum_61 : decode cX1_leastSum 61 = .ok (.bipush 11, 2) := by decide +kernel
theorem dX1_leastSum_63 : decode cX1_leastSum 63 = .ok (.iushr, 1) := by decide +kernel
theorem dX1_leastSum_64 : decode cX1_leastSum 64 = .ok (.ireturn, 1) := by decide +kernel
theorem dX1_shortOf_0 : decode cX1_shortOf 0 = .ok (.iload_n 2, 1) := by decide +kernel
theorem dX1_shortOf_1 : decode cX1_shortOf 1 = .ok (.sipush 1024, 3) := by decide +kernel
theorem dX1_shortOf_4 : decode cX1_shortOf 4 = .ok (.imul, 1) := by decide +kernel
theorem dX1_shortOf_5 : decode cX1_shortOf 5 = .ok (.iload_n 1, 1) := by decide +kernel
theorem dX1_shortOf_6 : decode cX1_shortOf 6 = .ok (.iadd, 1) := by decide +kernel
theorem dX1_shortOf_7 : decode cX1_shortOf 7 = .ok (.istore_n 3, 1) := by decide +kernel
theorem dX1_shortOf_8 : decode cX1_shortOf 8 = .ok (.aload_n 0, 1) := by decide +kernel
theorem dX1_shortOf_9 : decode cX1_shortOf 9 = .ok (.getfield 18, 3) := by decide +kernel
theorem dX1_shortOf_12 : decode cX1_shortOf 12 = .ok (.iload_n 3, 1) := by decide +kernel
theorem dX1_shortOf_13 : decode cX1_shortOf 13 = .ok (.iaload, 1) := by decide +kernel
theorem dX1_shortOf_14 : decode cX1_shortOf 14 = .ok (.ifCond .ne 15, 3) := by decide +kernel
theorem dX1_shortOf_17 : decode cX1_shortOf 17 = .ok (.aload_n 0, 1) := by decide +kernel
theorem dX1_shortOf_18 : decode cX1_shortOf 18 = .ok (.getfield 18, 3) := by decide +kernel
theorem dX1_shortOf_21 : decode cX1_shortOf 21 = .ok (.iload_n 3, 1) := by decide +kernel
theorem dX1_shortOf_22 : decode cX1_shortOf 22 = .ok (.aload_n 0, 1) := by decide +kernel
theorem dX1_shortOf_23 : decode cX1_shortOf 23 = .ok (.iload_n 1, 1) := by decide +kernel
theorem dX1_shortOf_24 : decode cX1_shortOf 24 = .ok (.iload_n 2, 1) := by decide +kernel
theorem dX1_shortOf_25 : decode cX1_shortOf 25 = .ok (.invokevirtual 151, 3) := by decide +kernel
theorem dX1_shortOf_28 : decode cX1_shortOf 28 = .ok (.iastore, 1) := by decide +kernel
theorem dX1_shortOf_29 : decode cX1_shortOf 29 = .ok (.aload_n 0, 1) := by decide +kernel
theorem dX1_shortOf_30 : decode cX1_shortOf 30 = .ok (.getfield 18, 3) := by decide +kernel
theorem dX1_shortOf_33 : decode cX1_shortOf 33 = .ok (.iload_n 3, 1) := by decide +kernel
theorem dX1_shortOf_34 : decode cX1_shortOf 34 = .ok (.iaload, 1) := by decide +kernel
theorem dX1_shortOf_35 : decode cX1_shortOf 35 = .ok (.ireturn, 1) := by decide +kernel
theorem dX1_findShort_0 : decode cX1_findShort 0 = .ok (.iload_n 1, 1) := by decide +kernel
theorem dX1_findShort_1 : decode cX1_findShort 1 = .ok (.invokestatic 143, 3) := by decide +kernel
theorem dX1_findShort_4 : decode cX1_findShort 4 = .ok (.istore_n 3, 1) := by decide +kernel
theorem dX1_findShort_5 : decode cX1_findShort 5 = .ok (.iconst 2, 1) := by decide +kernel
theorem dX1_findShort_6 : decode cX1_findShort 6 = .ok (.iload_n 3, 1) := by decide +kernel
theorem dX1_findShort_7 : decode cX1_findShort 7 = .ok (.imul, 1) := by decide +kernel
theorem dX1_findShort_8 : decode cX1_findShort 8 = .ok (.iconst 1, 1) := by decide +kernel
theorem dX1_findShort_9 : decode cX1_findShort 9 = .ok (.isub, 1) := by decide +kernel
theorem dX1_findShort_10 : decode cX1_findShort 10 = .ok (.istore 4, 2) := by decide +kernel
theorem dX1_findShort_12 : decode cX1_findShort 12 = .ok (.ldc 138, 2) := by decide +kernel
theorem dX1_findShort_14 : decode cX1_findShort 14 = .ok (.istore 5, 2) := by decide +kernel
theorem dX1_findShort_16 : decode cX1_findShort 16 = .ok (.iconst 0, 1) := by decide +kernel
theorem dX1_findShort_17 : decode cX1_findShort 17 = .ok (.istore 6, 2) := by decide +kernel
theorem dX1_findShort_19 : decode cX1_findShort 19 = .ok (.iconst 0, 1) := by decide +kernel
theorem dX1_findShort_20 : decode cX1_findShort 20 = .ok (.istore 7, 2) := by decide +kernel
theorem dX1_findShort_22 : decode cX1_findShort 22 = .ok (.iload 7, 2) := by decide +kernel
theorem dX1_findShort_24 : decode cX1_findShort 24 = .ok (.aload_n 0, 1) := by decide +kernel
theorem dX1_findShort_25 : decode cX1_findShort 25 = .ok (.getfield 92, 3) := by decide +kernel
theorem dX1_findShort_28 : decode cX1_findShort 28 = .ok (.if_icmp .ge 41, 3) := by decide +kernel
theorem dX1_findShort_31 : decode cX1_findShort 31 = .ok (.iload 5, 2) := by decide +kernel
theorem dX1_findShort_33 : decode cX1_findShort 33 = .ok (.iload 4, 2) := by decide +kernel
theorem dX1_findShort_35 : decode cX1_findShort 35 = .ok (.if_icmp .le 34, 3) := by decide +kernel
theorem dX1_findShort_38 : decode cX1_findShort 38 = .ok (.aload_n 0, 1) := by decide +kernel
theorem dX1_findShort_39 : decode cX1_findShort 39 = .ok (.iload 7, 2) := by decide +kernel
theorem dX1_findShort_41 : decode cX1_findShort 41 = .ok (.iload_n 1, 1) := by decide +kernel
theorem dX1_findShort_42 : decode cX1_findShort 42 = .ok (.iload_n 2, 1) := by decide +kernel
theorem dX1_findShort_43 : decode cX1_findShort 43 = .ok (.iload 5, 2) := by decide +kernel
theorem dX1_findShort_45 : decode cX1_findShort 45 = .ok (.invokevirtual 139, 3) := by decide +kernel
theorem dX1_findShort_48 : decode cX1_findShort 48 = .ok (.istore 8, 2) := by decide +kernel
theorem dX1_findShort_50 : decode cX1_findShort 50 = .ok (.iload 8, 2) := by decide +kernel
theorem dX1_findShort_52 : decode cX1_findShort 52 = .ok (.ifCond .le 11, 3) := by decide +kernel
theorem dX1_findShort_55 : decode cX1_findShort 55 = .ok (.iload 8, 2) := by decide +kernel
theorem dX1_findShort_57 : decode cX1_findShort 57 = .ok (.istore 5, 2) := by decide +kernel
theorem dX1_findShort_59 : decode cX1_findShort 59 = .ok (.iload 7, 2) := by decide +kernel
theorem dX1_findShort_61 : decode cX1_findShort 61 = .ok (.istore 6, 2) := by decide +kernel
theorem dX1_findShort_63 : decode cX1_findShort 63 = .ok (.iinc 7 1, 3) := by decide +kernel
theorem dX1_findShort_66 : decode cX1_findShort 66 = .ok (.goto (-44), 3) := by decide +kernel
theorem dX1_findShort_69 : decode cX1_findShort 69 = .ok (.iload 5, 2) := by decide +kernel
theorem dX1_findShort_71 : decode cX1_findShort 71 = .ok (.ldc 138, 2) := by decide +kernel
theorem dX1_findShort_73 : decode cX1_findShort 73 = .ok (.if_icmp .ne 7, 3) := by decide +kernel
theorem dX1_findShort_76 : decode cX1_findShort 76 = .ok (.iconst (-1), 1) := by decide +kernel
theorem dX1_findShort_77 : decode cX1_findShort 77 = .ok (.goto 11, 3) := by decide +kernel
theorem dX1_findShort_80 : decode cX1_findShort 80 = .ok (.iload 5, 2) := by decide +kernel
theorem dX1_findShort_82 : decode cX1_findShort 82 = .ok (.bipush 11, 2) := by decide +kernel
theorem dX1_findShort_84 : decode cX1_findShort 84 = .ok (.ishl, 1) := by decide +kernel
theorem dX1_findShort_85 : decode cX1_findShort 85 = .ok (.iload 6, 2) := by decide +kernel
theorem dX1_findShort_87 : decode cX1_findShort 87 = .ok (.ior, 1) := by decide +kernel
theorem dX1_findShort_88 : decode cX1_findShort 88 = .ok (.ireturn, 1) := by decide +kernel
theorem dX1_sumBehind_0 : decode cX1_sumBehind 0 = .ok (.aload_n 0, 1) := by decide +kernel
theorem dX1_sumBehind_1 : decode cX1_sumBehind 1 = .ok (.getfield 32, 3) := by decide +kernel
theorem dX1_sumBehind_4 : decode cX1_sumBehind 4 = .ok (.iload_n 1, 1) := by decide +kernel
theorem dX1_sumBehind_5 : decode cX1_sumBehind 5 = .ok (.iaload, 1) := by decide +kernel
theorem dX1_sumBehind_6 : decode cX1_sumBehind 6 = .ok (.iload_n 2, 1) := by decide +kernel
theorem dX1_sumBehind_7 : decode cX1_sumBehind 7 = .ok (.iand, 1) := by decide +kernel
theorem dX1_sumBehind_8 : decode cX1_sumBehind 8 = .ok (.ifCond .eq 7, 3) := by decide +kernel
theorem dX1_sumBehind_11 : decode cX1_sumBehind 11 = .ok (.iconst 1, 1) := by decide +kernel
theorem dX1_sumBehind_12 : decode cX1_sumBehind 12 = .ok (.goto 4, 3) := by decide +kernel
theorem dX1_sumBehind_15 : decode cX1_sumBehind 15 = .ok (.iconst 0, 1) := by decide +kernel
theorem dX1_sumBehind_16 : decode cX1_sumBehind 16 = .ok (.istore 5, 2) := by decide +kernel
theorem dX1_sumBehind_18 : decode cX1_sumBehind 18 = .ok (.aload_n 0, 1) := by decide +kernel
theorem dX1_sumBehind_19 : decode cX1_sumBehind 19 = .ok (.iload_n 1, 1) := by decide +kernel
theorem dX1_sumBehind_20 : decode cX1_sumBehind 20 = .ok (.iload_n 2, 1) := by decide +kernel
theorem dX1_sumBehind_21 : decode cX1_sumBehind 21 = .ok (.invokevirtual 154, 3) := by decide +kernel
theorem dX1_sumBehind_24 : decode cX1_sumBehind 24 = .ok (.istore 6, 2) := by decide +kernel
theorem dX1_sumBehind_26 : decode cX1_sumBehind 26 = .ok (.iload 5, 2) := by decide +kernel
theorem dX1_sumBehind_28 : decode cX1_sumBehind 28 = .ok (.ifCond .eq 12, 3) := by decide +kernel
theorem dX1_sumBehind_31 : decode cX1_sumBehind 31 = .ok (.iload 6, 2) := by decide +kernel
theorem dX1_sumBehind_33 : decode cX1_sumBehind 33 = .ok (.iconst 1, 1) := by decide +kernel
theorem dX1_sumBehind_34 : decode cX1_sumBehind 34 = .ok (.if_icmp .ge 21, 3) := by decide +kernel
theorem dX1_sumBehind_37 : decode cX1_sumBehind 37 = .ok (.goto 16, 3) := by decide +kernel
theorem dX1_sumBehind_40 : decode cX1_sumBehind 40 = .ok (.aload_n 0, 1) := by decide +kernel
theorem dX1_sumBehind_41 : decode cX1_sumBehind 41 = .ok (.getfield 25, 3) := by decide +kernel
theorem dX1_sumBehind_44 : decode cX1_sumBehind 44 = .ok (.ifCond .eq 9, 3) := by decide +kernel
theorem dX1_sumBehind_47 : decode cX1_sumBehind 47 = .ok (.iload 6, 2) := by decide +kernel
theorem dX1_sumBehind_49 : decode cX1_sumBehind 49 = .ok (.iconst 2, 1) := by decide +kernel
theorem dX1_sumBehind_50 : decode cX1_sumBehind 50 = .ok (.if_icmp .ge 5, 3) := by decide +kernel
theorem dX1_sumBehind_53 : decode cX1_sumBehind 53 = .ok (.iconst 0, 1) := by decide +kernel
theorem dX1_sumBehind_54 : decode cX1_sumBehind 54 = .ok (.ireturn, 1) := by decide +kernel
theorem dX1_sumBehind_55 : decode cX1_sumBehind 55 = .ok (.iconst 3, 1) := by decide +kernel
theorem dX1_sumBehind_56 : decode cX1_sumBehind 56 = .ok (.iload_n 2, 1) := by decide +kernel
theorem dX1_sumBehind_57 : decode cX1_sumBehind 57 = .ok (.invokestatic 143, 3) := by decide +kernel
theorem dX1_sumBehind_60 : decode cX1_sumBehind 60 = .ok (.imul, 1) := by decide +kernel
theorem dX1_sumBehind_61 : decode cX1_sumBehind 61 = .ok (.iload 6, 2) := by decide +kernel
theorem dX1_sumBehind_63 : decode cX1_sumBehind 63 = .ok (.isub, 1) := by decide +kernel
theorem dX1_sumBehind_64 : decode cX1_sumBehind 64 = .ok (.iload 5, 2) := by decide +kernel
theorem dX1_sumBehind_66 : decode cX1_sumBehind 66 = .ok (.ifCond .eq 7, 3) := by decide +kernel
theorem dX1_sumBehind_69 : decode cX1_sumBehind 69 = .ok (.iconst 2, 1) := by decide +kernel
theorem dX1_sumBehind_70 : decode cX1_sumBehind 70 = .ok (.goto 4, 3) := by decide +kernel
theorem dX1_sumBehind_73 : decode cX1_sumBehind 73 = .ok (.iconst 0, 1) := by decide +kernel
theorem dX1_sumBehind_74 : decode cX1_sumBehind 74 = .ok (.isub, 1) := by decide +kernel
theorem dX1_sumBehind_75 : decode cX1_sumBehind 75 = .ok (.istore 7, 2) := by decide +kernel
theorem dX1_sumBehind_77 : decode cX1_sumBehind 77 = .ok (.iload_n 1, 1) := by decide +kernel
theorem dX1_sumBehind_78 : decode cX1_sumBehind 78 = .ok (.bipush 10, 2) := by decide +kernel
theorem dX1_sumBehind_80 : decode cX1_sumBehind 80 = .ok (.imul, 1) := by decide +kernel
theorem dX1_sumBehind_81 : decode cX1_sumBehind 81 = .ok (.istore 8, 2) := by decide +kernel
theorem dX1_sumBehind_83 : decode cX1_sumBehind 83 = .ok (.iconst 0, 1) := by decide +kernel
theorem dX1_sumBehind_84 : decode cX1_sumBehind 84 = .ok (.istore 9, 2) := by decide +kernel
theorem dX1_sumBehind_86 : decode cX1_sumBehind 86 = .ok (.iload 9, 2) := by decide +kernel
theorem dX1_sumBehind_88 : decode cX1_sumBehind 88 = .ok (.aload_n 0, 1) := by decide +kernel
theorem dX1_sumBehind_89 : decode cX1_sumBehind 89 = .ok (.getfield 35, 3) := by decide +kernel
theorem dX1_sumBehind_92 : decode cX1_sumBehind 92 = .ok (.iload_n 1, 1) := by decide +kernel
theorem dX1_sumBehind_93 : decode cX1_sumBehind 93 = .ok (.iaload, 1) := by decide +kernel
theorem dX1_sumBehind_94 : decode cX1_sumBehind 94 = .ok (.if_icmp .ge 70, 3) := by decide +kernel
theorem dX1_sumBehind_97 : decode cX1_sumBehind 97 = .ok (.iload 7, 2) := by decide +kernel
theorem dX1_sumBehind_99 : decode cX1_sumBehind 99 = .ok (.iload 4, 2) := by decide +kernel
theorem dX1_sumBehind_101 : decode cX1_sumBehind 101 = .ok (.if_icmp .ge 63, 3) := by decide +kernel
theorem dX1_sumBehind_104 : decode cX1_sumBehind 104 = .ok (.aload_n 0, 1) := by decide +kernel
theorem dX1_sumBehind_105 : decode cX1_sumBehind 105 = .ok (.getfield 38, 3) := by decide +kernel
theorem dX1_sumBehind_108 : decode cX1_sumBehind 108 = .ok (.iload 8, 2) := by decide +kernel
theorem dX1_sumBehind_110 : decode cX1_sumBehind 110 = .ok (.iload 9, 2) := by decide +kernel
theorem dX1_sumBehind_112 : decode cX1_sumBehind 112 = .ok (.iadd, 1) := by decide +kernel
theorem dX1_sumBehind_113 : decode cX1_sumBehind 113 = .ok (.iaload, 1) := by decide +kernel
theorem dX1_sumBehind_114 : decode cX1_sumBehind 114 = .ok (.iload_n 2, 1) := by decide +kernel
theorem dX1_sumBehind_115 : decode cX1_sumBehind 115 = .ok (.iand, 1) := by decide +kernel
theorem dX1_sumBehind_116 : decode cX1_sumBehind 116 = .ok (.istore 10, 2) := by decide +kernel
theorem dX1_sumBehind_118 : decode cX1_sumBehind 118 = .ok (.iload 10, 2) := by decide +kernel
theorem dX1_sumBehind_120 : decode cX1_sumBehind 120 = .ok (.ifCond .eq 38, 3) := by decide +kernel
theorem dX1_sumBehind_123 : decode cX1_sumBehind 123 = .ok (.aload_n 0, 1) := by decide +kernel
theorem dX1_sumBehind_124 : decode cX1_sumBehind 124 = .ok (.iload 10, 2) := by decide +kernel
theorem dX1_sumBehind_126 : decode cX1_sumBehind 126 = .ok (.iload_n 3, 1) := by decide +kernel
theorem dX1_sumBehind_127 : decode cX1_sumBehind 127 = .ok (.iconst 1, 1) := by decide +kernel
theorem dX1_sumBehind_128 : decode cX1_sumBehind 128 = .ok (.isub, 1) := by decide +kernel
theorem dX1_sumBehind_129 : decode cX1_sumBehind 129 = .ok (.invokevirtual 129, 3) := by decide +kernel
theorem dX1_sumBehind_132 : decode cX1_sumBehind 132 = .ok (.istore 11, 2) := by decide +kernel
theorem dX1_sumBehind_134 : decode cX1_sumBehind 134 = .ok (.iload 11, 2) := by decide +kernel
theorem dX1_sumBehind_136 : decode cX1_sumBehind 136 = .ok (.ifCond .ne 5, 3) := by decide +kernel
theorem dX1_sumBehind_139 : decode cX1_sumBehind 139 = .ok (.iconst 0, 1) := by decide +kernel
theorem dX1_sumBehind_140 : decode cX1_sumBehind 140 = .ok (.ireturn, 1) := by decide +kernel
theorem dX1_sumBehind_141 : decode cX1_sumBehind 141 = .ok (.iload 7, 2) := by decide +kernel
theorem dX1_sumBehind_143 : decode cX1_sumBehind 143 = .ok (.iload 11, 2) := by decide +kernel
theorem dX1_sumBehind_145 : decode cX1_sumBehind 145 = .ok (.iconst 2, 1) := by decide +kernel
theorem dX1_sumBehind_146 : decode cX1_sumBehind 146 = .ok (.iload 10, 2) := by decide +kernel
theorem dX1_sumBehind_148 : decode cX1_sumBehind 148 = .ok (.invokestatic 143, 3) := by decide +kernel
theorem dX1_sumBehind_151 : decode cX1_sumBehind 151 = .ok (.imul, 1) := by decide +kernel
theorem dX1_sumBehind_152 : decode cX1_sumBehind 152 = .ok (.iconst 1, 1) := by decide +kernel
theorem dX1_sumBehind_153 : decode cX1_sumBehind 153 = .ok (.isub, 1) := by decide +kernel
theorem dX1_sumBehind_154 : decode cX1_sumBehind 154 = .ok (.isub, 1) := by decide +kernel
theorem dX1_sumBehind_155 : decode cX1_sumBehind 155 = .ok (.iadd, 1) := by decide +kernel
theorem dX1_sumBehind_156 : decode cX1_sumBehind 156 = .ok (.istore 7, 2) := by decide +kernel
theorem dX1_sumBehind_158 : decode cX1_sumBehind 158 = .ok (.iinc 9 1, 3) := by decide +kernel
theorem dX1_sumBehind_161 : decode cX1_sumBehind 161 = .ok (.goto (-75), 3) := by decide +kernel
theorem dX1_sumBehind_164 : decode cX1_sumBehind 164 = .ok (.iload 7, 2) := by decide +kernel
theorem dX1_sumBehind_166 : decode cX1_sumBehind 166 = .ok (.iload 4, 2) := by decide +kernel
theorem dX1_sumBehind_168 : decode cX1_sumBehind 168 = .ok (.if_icmp .ge 8, 3) := by decide +kernel
theorem dX1_sumBehind_171 : decode cX1_sumBehind 171 = .ok (.iload 7, 2) := by decide +kernel
theorem dX1_sumBehind_173 : decode cX1_sumBehind 173 = .ok (.goto 4, 3) := by decide +kernel
theorem dX1_sumBehind_176 : decode cX1_sumBehind 176 = .ok (.iconst 0, 1) := by decide +kernel
theorem dX1_sumBehind_177 : decode cX1_sumBehind 177 = .ok (.ireturn, 1) := by decide +kernel
theorem dX1_classesIn_0 : decode cX1_classesIn 0 = .ok (.iload_n 1, 1) := by decide +kernel
theorem dX1_classesIn_1 : decode cX1_classesIn 1 = .ok (.bipush 10, 2) := by decide +kernel
theorem dX1_classesIn_3 : decode cX1_classesIn 3 = .ok (.imul, 1) := by decide +kernel
theorem dX1_classesIn_4 : decode cX1_classesIn 4 = .ok (.istore_n 3, 1) := by decide +kernel
theorem dX1_classesIn_5 : decode cX1_classesIn 5 = .ok (.iconst 0, 1) := by decide +kernel
theorem dX1_classesIn_6 : decode cX1_classesIn 6 = .ok (.istore 4, 2) := by decide +kernel
theorem dX1_classesIn_8 : decode cX1_classesIn 8 = .ok (.iconst 0, 1) := by decide +kernel
theorem dX1_classesIn_9 : decode cX1_classesIn 9 = .ok (.istore 5, 2) := by decide +kernel
theorem dX1_classesIn_11 : decode cX1_classesIn 11 = .ok (.iload 5, 2) := by decide +kernel
theorem dX1_classesIn_13 : decode cX1_classesIn 13 = .ok (.aload_n 0, 1) := by decide +kernel
theorem dX1_classesIn_14 : decode cX1_classesIn 14 = .ok (.getfield 35, 3) := by decide +kernel
theorem dX1_classesIn_17 : decode cX1_classesIn 17 = .ok (.iload_n 1, 1) := by decide +kernel
theorem dX1_classesIn_18 : decode cX1_classesIn 18 = .ok (.iaload, 1) := by decide +kernel
theorem dX1_classesIn_19 : decode cX1_classesIn 19 = .ok (.if_icmp .ge 26, 3) := by decide +kernel
theorem dX1_classesIn_22 : decode cX1_classesIn 22 = .ok (.aload_n 0, 1) := by decide +kernel
theorem dX1_classesIn_23 : decode cX1_classesIn 23 = .ok (.getfield 38, 3) := by decide +kernel
theorem dX1_classesIn_26 : decode cX1_classesIn 26 = .ok (.iload_n 3, 1) := by decide +kernel
theorem dX1_classesIn_27 : decode cX1_classesIn 27 = .ok (.iload 5, 2) := by decide +kernel
theorem dX1_classesIn_29 : decode cX1_classesIn 29 = .ok (.iadd, 1) := by decide +kernel
theorem dX1_classesIn_30 : decode cX1_classesIn 30 = .ok (.iaload, 1) := by decide +kernel
theorem dX1_classesIn_31 : decode cX1_classesIn 31 = .ok (.iload_n 2, 1) := by decide +kernel
theorem dX1_classesIn_32 : decode cX1_classesIn 32 = .ok (.iand, 1) := by decide +kernel
theorem dX1_classesIn_33 : decode cX1_classesIn 33 = .ok (.ifCond .eq 6, 3) := by decide +kernel
theorem dX1_classesIn_36 : decode cX1_classesIn 36 = .ok (.iinc 4 1, 3) := by decide +kernel
theorem dX1_classesIn_39 : decode cX1_classesIn 39 = .ok (.iinc 5 1, 3) := by decide +kernel
theorem dX1_classesIn_42 : decode cX1_classesIn 42 = .ok (.goto (-31), 3) := by decide +kernel
theorem dX1_classesIn_45 : decode cX1_classesIn 45 = .ok (.iload 4, 2) := by decide +kernel
theorem dX1_classesIn_47 : decode cX1_classesIn 47 = .ok (.ireturn, 1) := by decide +kernel
theorem dX1_shortGuess_0 : decode cX1_shortGuess 0 = .ok (.iload_n 1, 1) := by decide +kernel
theorem dX1_shortGuess_1 : decode cX1_shortGuess 1 = .ok (.invokestatic 143, 3) := by decide +kernel
theorem dX1_shortGuess_4 : decode cX1_shortGuess 4 = .ok (.istore_n 3, 1) := by decide +kernel
theorem dX1_shortGuess_5 : decode cX1_shortGuess 5 = .ok (.iload_n 3, 1) := by decide +kernel
theorem dX1_shortGuess_6 : decode cX1_shortGuess 6 = .ok (.iconst 2, 1) := by decide +kernel
theorem dX1_shortGuess_7 : decode cX1_shortGuess 7 = .ok (.if_icmp .le 37, 3) := by decide +kernel
theorem dX1_shortGuess_10 : decode cX1_shortGuess 10 = .ok (.aload_n 0, 1) := by decide +kernel
theorem dX1_shortGuess_11 : decode cX1_shortGuess 11 = .ok (.iload_n 1, 1) := by decide +kernel
theorem dX1_shortGuess_12 : decode cX1_shortGuess 12 = .ok (.iload_n 2, 1) := by decide +kernel
theorem dX1_shortGuess_13 : decode cX1_shortGuess 13 = .ok (.iload_n 3, 1) := by decide +kernel
theorem dX1_shortGuess_14 : decode cX1_shortGuess 14 = .ok (.invokestatic 68, 3) := by decide +kernel
theorem dX1_shortGuess_17 : decode cX1_shortGuess 17 = .ok (.invokevirtual 148, 3) := by decide +kernel
theorem dX1_shortGuess_20 : decode cX1_shortGuess 20 = .ok (.istore 4, 2) := by decide +kernel
theorem dX1_shortGuess_22 : decode cX1_shortGuess 22 = .ok (.iload 4, 2) := by decide +kernel
theorem dX1_shortGuess_24 : decode cX1_shortGuess 24 = .ok (.iconst (-1), 1) := by decide +kernel
theorem dX1_shortGuess_25 : decode cX1_shortGuess 25 = .ok (.if_icmp .ne 7, 3) := by decide +kernel
theorem dX1_shortGuess_28 : decode cX1_shortGuess 28 = .ok (.iconst (-1), 1) := by decide +kernel
theorem dX1_shortGuess_29 : decode cX1_shortGuess 29 = .ok (.goto 14, 3) := by decide +kernel
theorem dX1_shortGuess_32 : decode cX1_shortGuess 32 = .ok (.aload_n 0, 1) := by decide +kernel
theorem dX1_shortGuess_33 : decode cX1_shortGuess 33 = .ok (.getfield 29, 3) := by decide +kernel
theorem dX1_shortGuess_36 : decode cX1_shortGuess 36 = .ok (.iload 4, 2) := by decide +kernel
theorem dX1_shortGuess_38 : decode cX1_shortGuess 38 = .ok (.sipush 2047, 3) := by decide +kernel
theorem dX1_shortGuess_41 : decode cX1_shortGuess 41 = .ok (.iand, 1) := by decide +kernel
theorem dX1_shortGuess_42 : decode cX1_shortGuess 42 = .ok (.iaload, 1) := by decide +kernel
theorem dX1_shortGuess_43 : decode cX1_shortGuess 43 = .ok (.ireturn, 1) := by decide +kernel
theorem dX1_shortGuess_44 : decode cX1_shortGuess 44 = .ok (.iconst 0, 1) := by decide +kernel
theorem dX1_shortGuess_45 : decode cX1_shortGuess 45 = .ok (.istore 4, 2) := by decide +kernel
theorem dX1_shortGuess_47 : decode cX1_shortGuess 47 = .ok (.iload 4, 2) := by decide +kernel
theorem dX1_shortGuess_49 : decode cX1_shortGuess 49 = .ok (.aload_n 0, 1) := by decide +kernel
theorem dX1_shortGuess_50 : decode cX1_shortGuess 50 = .ok (.getfield 74, 3) := by decide +kernel
theorem dX1_shortGuess_53 : decode cX1_shortGuess 53 = .ok (.if_icmp .ge 26, 3) := by decide +kernel
theorem dX1_shortGuess_56 : decode cX1_shortGuess 56 = .ok (.iload_n 1, 1) := by decide +kernel
theorem dX1_shortGuess_57 : decode cX1_shortGuess 57 = .ok (.iload 4, 2) := by decide +kernel
theorem dX1_shortGuess_59 : decode cX1_shortGuess 59 = .ok (.iushr, 1) := by decide +kernel
theorem dX1_shortGuess_60 : decode cX1_shortGuess 60 = .ok (.iconst 1, 1) := by decide +kernel
theorem dX1_shortGuess_61 : decode cX1_shortGuess 61 = .ok (.iand, 1) := by decide +kernel
theorem dX1_shortGuess_62 : decode cX1_shortGuess 62 = .ok (.ifCond .eq 11, 3) := by decide +kernel
theorem dX1_shortGuess_65 : decode cX1_shortGuess 65 = .ok (.aload_n 0, 1) := by decide +kernel
theorem dX1_shortGuess_66 : decode cX1_shortGuess 66 = .ok (.getfield 11, 3) := by decide +kernel
theorem dX1_shortGuess_69 : decode cX1_shortGuess 69 = .ok (.iload 4, 2) := by decide +kernel
theorem dX1_shortGuess_71 : decode cX1_shortGuess 71 = .ok (.iaload, 1) := by decide +kernel
theorem dX1_shortGuess_72 : decode cX1_shortGuess 72 = .ok (.ireturn, 1) := by decide +kernel
theorem dX1_shortGuess_73 : decode cX1_shortGuess 73 = .ok (.iinc 4 1, 3) := by decide +kernel
theorem dX1_shortGuess_76 : decode cX1_shortGuess 76 = .ok (.goto (-29), 3) := by decide +kernel
theorem dX1_shortGuess_79 : decode cX1_shortGuess 79 = .ok (.iconst (-1), 1) := by decide +kernel
theorem dX1_shortGuess_80 : decode cX1_shortGuess 80 = .ok (.ireturn, 1) := by decide +kernel
theorem dX1_plant_0 : decode cX1_plant 0 = .ok (.aload_n 1, 1) := by decide +kernel
theorem dX1_plant_1 : decode cX1_plant 1 = .ok (.iconst 0, 1) := by decide +kernel
theorem dX1_plant_2 : decode cX1_plant 2 = .ok (.putfield 157, 3) := by decide +kernel
theorem dX1_plant_5 : decode cX1_plant 5 = .ok (.aload_n 0, 1) := by decide +kernel
theorem dX1_plant_6 : decode cX1_plant 6 = .ok (.aload_n 1, 1) := by decide +kernel
theorem dX1_plant_7 : decode cX1_plant 7 = .ok (.aload_n 0, 1) := by decide +kernel
theorem dX1_plant_8 : decode cX1_plant 8 = .ok (.invokevirtual 123, 3) := by decide +kernel
theorem dX1_plant_11 : decode cX1_plant 11 = .ok (.aload_n 0, 1) := by decide +kernel
theorem dX1_plant_12 : decode cX1_plant 12 = .ok (.iload_n 2, 1) := by decide +kernel
theorem dX1_plant_13 : decode cX1_plant 13 = .ok (.invokevirtual 126, 3) := by decide +kernel
theorem dX1_plant_16 : decode cX1_plant 16 = .ok (.iconst (-1), 1) := by decide +kernel
theorem dX1_plant_17 : decode cX1_plant 17 = .ok (.iconst (-1), 1) := by decide +kernel
theorem dX1_plant_18 : decode cX1_plant 18 = .ok (.invokevirtual 162, 3) := by decide +kernel
theorem dX1_plant_21 : decode cX1_plant 21 = .ok (.return_, 1) := by decide +kernel
theorem dX1_grow_0 : decode cX1_grow 0 = .ok (.iload_n 3, 1) := by decide +kernel
theorem dX1_grow_1 : decode cX1_grow 1 = .ok (.iconst 1, 1) := by decide +kernel
theorem dX1_grow_2 : decode cX1_grow 2 = .ok (.if_icmp .lt 12, 3) := by decide +kernel
theorem dX1_grow_5 : decode cX1_grow 5 = .ok (.aload_n 1, 1) := by decide +kernel
theorem dX1_grow_6 : decode cX1_grow 6 = .ok (.getfield 157, 3) := by decide +kernel
theorem dX1_grow_9 : decode cX1_grow 9 = .ok (.bipush 20, 2) := by decide +kernel
theorem dX1_grow_11 : decode cX1_grow 11 = .ok (.if_icmp .lt 4, 3) := by decide +kernel
theorem dX1_grow_14 : decode cX1_grow 14 = .ok (.return_, 1) := by decide +kernel
theorem dX1_grow_15 : decode cX1_grow 15 = .ok (.aload_n 0, 1) := by decide +kernel
theorem dX1_grow_16 : decode cX1_grow 16 = .ok (.iload_n 2, 1) := by decide +kernel
theorem dX1_grow_17 : decode cX1_grow 17 = .ok (.iload_n 3, 1) := by decide +kernel
theorem dX1_grow_18 : decode cX1_grow 18 = .ok (.invokevirtual 132, 3) := by decide +kernel
theorem dX1_grow_21 : decode cX1_grow 21 = .ok (.istore 6, 2) := by decide +kernel
theorem dX1_grow_23 : decode cX1_grow 23 = .ok (.iload 6, 2) := by decide +kernel
theorem dX1_grow_25 : decode cX1_grow 25 = .ok (.iconst (-1), 1) := by decide +kernel
theorem dX1_grow_26 : decode cX1_grow 26 = .ok (.if_icmp .ne 4, 3) := by decide +kernel
theorem dX1_grow_29 : decode cX1_grow 29 = .ok (.return_, 1) := by decide +kernel
theorem dX1_grow_30 : decode cX1_grow 30 = .ok (.aload_n 1, 1) := by decide +kernel
theorem dX1_grow_31 : decode cX1_grow 31 = .ok (.getfield 157, 3) := by decide +kernel
theorem dX1_grow_34 : decode cX1_grow 34 = .ok (.istore 7, 2) := by decide +kernel
theorem dX1_grow_36 : decode cX1_grow 36 = .ok (.aload_n 1, 1) := by decide +kernel
theorem dX1_grow_37 : decode cX1_grow 37 = .ok (.iload 6, 2) := by decide +kernel
theorem dX1_grow_39 : decode cX1_grow 39 = .ok (.iload 4, 2) := by decide +kernel
theorem dX1_grow_41 : decode cX1_grow 41 = .ok (.iload 5, 2) := by decide +kernel
theorem dX1_grow_43 : decode cX1_grow 43 = .ok (.iload_n 2, 1) := by decide +kernel
theorem dX1_grow_44 : decode cX1_grow 44 = .ok (.invokestatic 143, 3) := by decide +kernel
theorem dX1_grow_47 : decode cX1_grow 47 = .ok (.invokevirtual 166, 3) := by decide +kernel
theorem dX1_grow_50 : decode cX1_grow 50 = .ok (.aload_n 0, 1) := by decide +kernel
theorem dX1_grow_51 : decode cX1_grow 51 = .ok (.iload 6, 2) := by decide +kernel
theorem dX1_grow_53 : decode cX1_grow 53 = .ok (.iload_n 2, 1) := by decide +kernel
theorem dX1_grow_54 : decode cX1_grow 54 = .ok (.iconst (-1), 1) := by decide +kernel
theorem dX1_grow_55 : decode cX1_grow 55 = .ok (.invokevirtual 170, 3) := by decide +kernel
theorem dX1_grow_58 : decode cX1_grow 58 = .ok (.istore 8, 2) := by decide +kernel
theorem dX1_grow_60 : decode cX1_grow 60 = .ok (.iconst 0, 1) := by decide +kernel
theorem dX1_grow_61 : decode cX1_grow 61 = .ok (.istore 9, 2) := by decide +kernel
theorem dX1_grow_63 : decode cX1_grow 63 = .ok (.iload 9, 2) := by decide +kernel
theorem dX1_grow_65 : decode cX1_grow 65 = .ok (.bipush 10, 2) := by decide +kernel
theorem dX1_grow_67 : decode cX1_grow 67 = .ok (.if_icmp .ge 47, 3) := by decide +kernel
theorem dX1_grow_70 : decode cX1_grow 70 = .ok (.iload 8, 2) := by decide +kernel
theorem dX1_grow_72 : decode cX1_grow 72 = .ok (.iconst (-1), 1) := by decide +kernel
theorem dX1_grow_73 : decode cX1_grow 73 = .ok (.if_icmp .eq 41, 3) := by decide +kernel
theorem dX1_grow_76 : decode cX1_grow 76 = .ok (.aload_n 0, 1) := by decide +kernel
theorem dX1_grow_77 : decode cX1_grow 77 = .ok (.aload_n 1, 1) := by decide +kernel
theorem dX1_grow_78 : decode cX1_grow 78 = .ok (.aload_n 0, 1) := by decide +kernel
theorem dX1_grow_79 : decode cX1_grow 79 = .ok (.iload 6, 2) := by decide +kernel
theorem dX1_grow_81 : decode cX1_grow 81 = .ok (.iload_n 2, 1) := by decide +kernel
theorem dX1_grow_82 : decode cX1_grow 82 = .ok (.iload 8, 2) := by decide +kernel
theorem dX1_grow_84 : decode cX1_grow 84 = .ok (.invokevirtual 174, 3) := by decide +kernel
theorem dX1_grow_87 : decode cX1_grow 87 = .ok (.iload_n 3, 1) := by decide +kernel
theorem dX1_grow_88 : decode cX1_grow 88 = .ok (.iconst 1, 1) := by decide +kernel
theorem dX1_grow_89 : decode cX1_grow 89 = .ok (.isub, 1) := by decide +kernel
theorem dX1_grow_90 : decode cX1_grow 90 = .ok (.iload 7, 2) := by decide +kernel
theorem dX1_grow_92 : decode cX1_grow 92 = .ok (.iload 8, 2) := by decide +kernel
theorem dX1_grow_94 : decode cX1_grow 94 = .ok (.invokevirtual 162, 3) := by decide +kernel
theorem dX1_grow_97 : decode cX1_grow 97 = .ok (.aload_n 0, 1) := by decide +kernel
theorem dX1_grow_98 : decode cX1_grow 98 = .ok (.iload 6, 2) := by decide +kernel
theorem dX1_grow_100 : decode cX1_grow 100 = .ok (.iload_n 2, 1) := by decide +kernel
theorem dX1_grow_101 : decode cX1_grow 101 = .ok (.iload 8, 2) := by decide +kernel
theorem dX1_grow_103 : decode cX1_grow 103 = .ok (.invokevirtual 170, 3) := by decide +kernel
theorem dX1_grow_106 : decode cX1_grow 106 = .ok (.istore 8, 2) := by decide +kernel
theorem dX1_grow_108 : decode cX1_grow 108 = .ok (.iinc 9 1, 3) := by decide +kernel
theorem dX1_grow_111 : decode cX1_grow 111 = .ok (.goto (-48), 3) := by decide +kernel
theorem dX1_grow_114 : decode cX1_grow 114 = .ok (.return_, 1) := by decide +kernel
theorem dX1_nextAnswer_0 : decode cX1_nextAnswer 0 = .ok (.aload_n 0, 1) := by decide +kernel
theorem dX1_nextAnswer_1 : decode cX1_nextAnswer 1 = .ok (.getfield 21, 3) := by decide +kernel
theorem dX1_nextAnswer_4 : decode cX1_nextAnswer 4 = .ok (.invokevirtual 114, 3) := by decide +kernel
theorem dX1_nextAnswer_7 : decode cX1_nextAnswer 7 = .ok (.istore 4, 2) := by decide +kernel
theorem dX1_nextAnswer_9 : decode cX1_nextAnswer 9 = .ok (.iconst 0, 1) := by decide +kernel
theorem dX1_nextAnswer_10 : decode cX1_nextAnswer 10 = .ok (.istore 5, 2) := by decide +kernel
theorem dX1_nextAnswer_12 : decode cX1_nextAnswer 12 = .ok (.iload 5, 2) := by decide +kernel
theorem dX1_nextAnswer_14 : decode cX1_nextAnswer 14 = .ok (.aload_n 0, 1) := by decide +kernel
theorem dX1_nextAnswer_15 : decode cX1_nextAnswer 15 = .ok (.getfield 74, 3) := by decide +kernel
theorem dX1_nextAnswer_18 : decode cX1_nextAnswer 18 = .ok (.if_icmp .ge 52, 3) := by decide +kernel
theorem dX1_nextAnswer_21 : decode cX1_nextAnswer 21 = .ok (.iload_n 2, 1) := by decide +kernel
theorem dX1_nextAnswer_22 : decode cX1_nextAnswer 22 = .ok (.iload 5, 2) := by decide +kernel
theorem dX1_nextAnswer_24 : decode cX1_nextAnswer 24 = .ok (.iushr, 1) := by decide +kernel
theorem dX1_nextAnswer_25 : decode cX1_nextAnswer 25 = .ok (.iconst 1, 1) := by decide +kernel
theorem dX1_nextAnswer_26 : decode cX1_nextAnswer 26 = .ok (.iand, 1) := by decide +kernel
theorem dX1_nextAnswer_27 : decode cX1_nextAnswer 27 = .ok (.ifCond .eq 37, 3) := by decide +kernel
theorem dX1_nextAnswer_30 : decode cX1_nextAnswer 30 = .ok (.aload_n 0, 1) := by decide +kernel
theorem dX1_nextAnswer_31 : decode cX1_nextAnswer 31 = .ok (.getfield 21, 3) := by decide +kernel
theorem dX1_nextAnswer_34 : decode cX1_nextAnswer 34 = .ok (.iload_n 1, 1) := by decide +kernel
theorem dX1_nextAnswer_35 : decode cX1_nextAnswer 35 = .ok (.aload_n 0, 1) := by decide +kernel
theorem dX1_nextAnswer_36 : decode cX1_nextAnswer 36 = .ok (.getfield 11, 3) := by decide +kernel
theorem dX1_nextAnswer_39 : decode cX1_nextAnswer 39 = .ok (.iload 5, 2) := by decide +kernel
theorem dX1_nextAnswer_41 : decode cX1_nextAnswer 41 = .ok (.iaload, 1) := by decide +kernel
theorem dX1_nextAnswer_42 : decode cX1_nextAnswer 42 = .ok (.invokevirtual 118, 3) := by decide +kernel
theorem dX1_nextAnswer_45 : decode cX1_nextAnswer 45 = .ok (.istore 6, 2) := by decide +kernel
theorem dX1_nextAnswer_47 : decode cX1_nextAnswer 47 = .ok (.iload 6, 2) := by decide +kernel
theorem dX1_nextAnswer_49 : decode cX1_nextAnswer 49 = .ok (.iload_n 3, 1) := by decide +kernel
theorem dX1_nextAnswer_50 : decode cX1_nextAnswer 50 = .ok (.if_icmp .le 14, 3) := by decide +kernel
theorem dX1_nextAnswer_53 : decode cX1_nextAnswer 53 = .ok (.iload 6, 2) := by decide +kernel
theorem dX1_nextAnswer_55 : decode cX1_nextAnswer 55 = .ok (.iload 4, 2) := by decide +kernel
theorem dX1_nextAnswer_57 : decode cX1_nextAnswer 57 = .ok (.if_icmp .ge 7, 3) := by decide +kernel
theorem dX1_nextAnswer_60 : decode cX1_nextAnswer 60 = .ok (.iload 6, 2) := by decide +kernel
theorem dX1_nextAnswer_62 : decode cX1_nextAnswer 62 = .ok (.istore 4, 2) := by decide +kernel
theorem dX1_nextAnswer_64 : decode cX1_nextAnswer 64 = .ok (.iinc 5 1, 3) := by decide +kernel
theorem dX1_nextAnswer_67 : decode cX1_nextAnswer 67 = .ok (.goto (-55), 3) := by decide +kernel
theorem dX1_nextAnswer_70 : decode cX1_nextAnswer 70 = .ok (.iload 4, 2) := by decide +kernel
theorem dX1_nextAnswer_72 : decode cX1_nextAnswer 72 = .ok (.aload_n 0, 1) := by decide +kernel
theorem dX1_nextAnswer_73 : decode cX1_nextAnswer 73 = .ok (.getfield 21, 3) := by decide +kernel
theorem dX1_nextAnswer_76 : decode cX1_nextAnswer 76 = .ok (.invokevirtual 114, 3) := by decide +kernel
theorem dX1_nextAnswer_79 : decode cX1_nextAnswer 79 = .ok (.if_icmp .ne 7, 3) := by decide +kernel
theorem dX1_nextAnswer_82 : decode cX1_nextAnswer 82 = .ok (.iconst (-1), 1) := by decide +kernel
theorem dX1_nextAnswer_83 : decode cX1_nextAnswer 83 = .ok (.goto 5, 3) := by decide +kernel
theorem dX1_nextAnswer_86 : decode cX1_nextAnswer 86 = .ok (.iload 4, 2) := by decide +kernel
theorem dX1_nextAnswer_88 : decode cX1_nextAnswer 88 = .ok (.ireturn, 1) := by decide +kernel
theorem dX1_withAnswer_0 : decode cX1_withAnswer 0 = .ok (.iconst 0, 1) := by decide +kernel
theorem dX1_withAnswer_1 : decode cX1_withAnswer 1 = .ok (.istore 4, 2) := by decide +kernel
theorem dX1_withAnswer_3 : decode cX1_withAnswer 3 = .ok (.iconst 0, 1) := by decide +kernel
theorem dX1_withAnswer_4 : decode cX1_withAnswer 4 = .ok (.istore 5, 2) := by decide +kernel
theorem dX1_withAnswer_6 : decode cX1_withAnswer 6 = .ok (.iload 5, 2) := by decide +kernel
theorem dX1_withAnswer_8 : decode cX1_withAnswer 8 = .ok (.aload_n 0, 1) := by decide +kernel
theorem dX1_withAnswer_9 : decode cX1_withAnswer 9 = .ok (.getfield 74, 3) := by decide +kernel
theorem dX1_withAnswer_12 : decode cX1_withAnswer 12 = .ok (.if_icmp .ge 46, 3) := by decide +kernel
theorem dX1_withAnswer_15 : decode cX1_withAnswer 15 = .ok (.iload_n 2, 1) := by decide +kernel
theorem dX1_withAnswer_16 : decode cX1_withAnswer 16 = .ok (.iload 5, 2) := by decide +kernel
theorem dX1_withAnswer_18 : decode cX1_withAnswer 18 = .ok (.iushr, 1) := by decide +kernel
theorem dX1_withAnswer_19 : decode cX1_withAnswer 19 = .ok (.iconst 1, 1) := by decide +kernel
theorem dX1_withAnswer_20 : decode cX1_withAnswer 20 = .ok (.iand, 1) := by decide +kernel
theorem dX1_withAnswer_21 : decode cX1_withAnswer 21 = .ok (.ifCond .eq 31, 3) := by decide +kernel
theorem dX1_withAnswer_24 : decode cX1_withAnswer 24 = .ok (.aload_n 0, 1) := by decide +kernel
theorem dX1_withAnswer_25 : decode cX1_withAnswer 25 = .ok (.getfield 21, 3) := by decide +kernel
theorem dX1_withAnswer_28 : decode cX1_withAnswer 28 = .ok (.iload_n 1, 1) := by decide +kernel
theorem dX1_withAnswer_29 : decode cX1_withAnswer 29 = .ok (.aload_n 0, 1) := by decide +kernel
theorem dX1_withAnswer_30 : decode cX1_withAnswer 30 = .ok (.getfield 11, 3) := by decide +kernel
theorem dX1_withAnswer_33 : decode cX1_withAnswer 33 = .ok (.iload 5, 2) := by decide +kernel
theorem dX1_withAnswer_35 : decode cX1_withAnswer 35 = .ok (.iaload, 1) := by decide +kernel
theorem dX1_withAnswer_36 : decode cX1_withAnswer 36 = .ok (.invokevirtual 118, 3) := by decide +kernel
theorem dX1_withAnswer_39 : decode cX1_withAnswer 39 = .ok (.iload_n 3, 1) := by decide +kernel
theorem dX1_withAnswer_40 : decode cX1_withAnswer 40 = .ok (.if_icmp .ne 12, 3) := by decide +kernel
theorem dX1_withAnswer_43 : decode cX1_withAnswer 43 = .ok (.iload 4, 2) := by decide +kernel
theorem dX1_withAnswer_45 : decode cX1_withAnswer 45 = .ok (.iconst 1, 1) := by decide +kernel
theorem dX1_withAnswer_46 : decode cX1_withAnswer 46 = .ok (.iload 5, 2) := by decide +kernel
theorem dX1_withAnswer_48 : decode cX1_withAnswer 48 = .ok (.ishl, 1) := by decide +kernel
theorem dX1_withAnswer_49 : decode cX1_withAnswer 49 = .ok (.ior, 1) := by decide +kernel
theorem dX1_withAnswer_50 : decode cX1_withAnswer 50 = .ok (.istore 4, 2) := by decide +kernel
theorem dX1_withAnswer_52 : decode cX1_withAnswer 52 = .ok (.iinc 5 1, 3) := by decide +kernel
theorem dX1_withAnswer_55 : decode cX1_withAnswer 55 = .ok (.goto (-49), 3) := by decide +kernel
theorem dX1_withAnswer_58 : decode cX1_withAnswer 58 = .ok (.iload 4, 2) := by decide +kernel
theorem dX1_withAnswer_60 : decode cX1_withAnswer 60 = .ok (.ireturn, 1) := by decide +kernel
theorem dX2_init_0 : decode cX2_init 0 = .ok (.aload_n 0, 1) := by decide +kernel
theorem dX2_init_1 : decode cX2_init 1 = .ok (.invokespecial 3, 3) := by decide +kernel
theorem dX2_init_4 : decode cX2_init 4 = .ok (.aload_n 0, 1) := by decide +kernel
theorem dX2_init_5 : decode cX2_init 5 = .ok (.iconst 5, 1) := by decide +kernel
theorem dX2_init_6 : decode cX2_init 6 = .ok (.newarray .int, 2) := by decide +kernel
theorem dX2_init_8 : decode cX2_init 8 = .ok (.putfield 9, 3) := by decide +kernel
theorem dX2_init_11 : decode cX2_init 11 = .ok (.return_, 1) := by decide +kernel
theorem dX2_fillWith_0 : decode cX2_fillWith 0 = .ok (.aload_n 0, 1) := by decide +kernel
theorem dX2_fillWith_1 : decode cX2_fillWith 1 = .ok (.getfield 9, 3) := by decide +kernel
theorem dX2_fillWith_4 : decode cX2_fillWith 4 = .ok (.iload_n 1, 1) := by decide +kernel
theorem dX2_fillWith_5 : decode cX2_fillWith 5 = .ok (.invokestatic 15, 3) := by decide +kernel
theorem dX2_fillWith_8 : decode cX2_fillWith 8 = .ok (.return_, 1) := by decide +kernel
theorem dX2_measure_0 : decode cX2_measure 0 = .ok (.iconst 1, 1) := by decide +kernel
theorem dX2_measure_1 : decode cX2_measure 1 = .ok (.iload_n 1, 1) := by decide +kernel
theorem dX2_measure_2 : decode cX2_measure 2 = .ok (.ishl, 1) := by decide +kernel
theorem dX2_measure_3 : decode cX2_measure 3 = .ok (.iconst 1, 1) := by decide +kernel
theorem dX2_measure_4 : decode cX2_measure 4 = .ok (.isub, 1) := by decide +kernel
theorem dX2_measure_5 : decode cX2_measure 5 = .ok (.istore_n 3, 1) := by decide +kernel
theorem dX2_measure_6 : decode cX2_measure 6 = .ok (.iconst 0, 1) := by decide +kernel
theorem dX2_measure_7 : decode cX2_measure 7 = .ok (.istore 4, 2) := by decide +kernel
theorem dX2_measure_9 : decode cX2_measure 9 = .ok (.iconst 0, 1) := by decide +kernel
theorem dX2_measure_10 : decode cX2_measure 10 = .ok (.istore 5, 2) := by decide +kernel
theorem dX2_measure_12 : decode cX2_measure 12 = .ok (.iconst 0, 1) := by decide +kernel
theorem dX2_measure_13 : decode cX2_measure 13 = .ok (.istore 6, 2) := by decide +kernel
theorem dX2_measure_15 : decode cX2_measure 15 = .ok (.iload 6, 2) := by decide +kernel
theorem dX2_measure_17 : decode cX2_measure 17 = .ok (.iload_n 1, 1) := by decide +kernel
theorem dX2_measure_18 : decode cX2_measure 18 = .ok (.if_icmp .ge 63, 3) := by decide +kernel
theorem dX2_measure_21 : decode cX2_measure 21 = .ok (.aload_n 0, 1) := by decide +kernel
theorem dX2_measure_22 : decode cX2_measure 22 = .ok (.getfield 9, 3) := by decide +kernel
theorem dX2_measure_25 : decode cX2_measure 25 = .ok (.iload 6, 2) := by decide +kernel
theorem dX2_measure_27 : decode cX2_measure 27 = .ok (.iaload, 1) := by decide +kernel
theorem dX2_measure_28 : decode cX2_measure 28 = .ok (.istore 7, 2) := by decide +kernel
theorem dX2_measure_30 : decode cX2_measure 30 = .ok (.iload 7, 2) := by decide +kernel
theorem dX2_measure_32 : decode cX2_measure 32 = .ok (.iconst (-1), 1) := by decide +kernel
theorem dX2_measure_33 : decode cX2_measure 33 = .ok (.if_icmp .eq 42, 3) := by decide +kernel
theorem dX2_measure_36 : decode cX2_measure 36 = .ok (.iload 7, 2) := by decide +kernel
theorem dX2_measure_38 : decode cX2_measure 38 = .ok (.iload_n 1, 1) := by decide +kernel
theorem dX2_measure_39 : decode cX2_measure 39 = .ok (.imul, 1) := by decide +kernel
theorem dX2_measure_40 : decode cX2_measure 40 = .ok (.istore 8, 2) := by decide +kernel
theorem dX2_measure_42 : decode cX2_measure 42 = .ok (.iload 4, 2) := by decide +kernel
theorem dX2_measure_44 : decode cX2_measure 44 = .ok (.iconst 1, 1) := by decide +kernel
theorem dX2_measure_45 : decode cX2_measure 45 = .ok (.iload 6, 2) := by decide +kernel
theorem dX2_measure_47 : decode cX2_measure 47 = .ok (.iload_n 2, 1) := by decide +kernel
theorem dX2_measure_48 : decode cX2_measure 48 = .ok (.imul, 1) := by decide +kernel
theorem dX2_measure_49 : decode cX2_measure 49 = .ok (.iload 7, 2) := by decide +kernel
theorem dX2_measure_51 : decode cX2_measure 51 = .ok (.iadd, 1) := by decide +kernel
theorem dX2_measure_52 : decode cX2_measure 52 = .ok (.ishl, 1) := by decide +kernel
theorem dX2_measure_53 : decode cX2_measure 53 = .ok (.ior, 1) := by decide +kernel
theorem dX2_measure_54 : decode cX2_measure 54 = .ok (.istore 4, 2) := by decide +kernel
theorem dX2_measure_56 : decode cX2_measure 56 = .ok (.iload 5, 2) := by decide +kernel
theorem dX2_measure_58 : decode cX2_measure 58 = .ok (.iload 5, 2) := by decide +kernel
theorem dX2_measure_60 : decode cX2_measure 60 = .ok (.iload_n 3, 1) := by decide +kernel
theorem dX2_measure_61 : decode cX2_measure 61 = .ok (.iload 8, 2) := by decide +kernel
theorem dX2_measure_63 : decode cX2_measure 63 = .ok (.ishl, 1) := by decide +kernel
theorem dX2_measure_64 : decode cX2_measure 64 = .ok (.iand, 1) := by decide +kernel
theorem dX2_measure_65 : decode cX2_measure 65 = .ok (.iconst 1, 1) := by decide +kernel
theorem dX2_measure_66 : decode cX2_measure 66 = .ok (.ishl, 1) := by decide +kernel
theorem dX2_measure_67 : decode cX2_measure 67 = .ok (.iconst 1, 1) := by decide +kernel
theorem dX2_measure_68 : decode cX2_measure 68 = .ok (.iload 8, 2) := by decide +kernel
theorem dX2_measure_70 : decode cX2_measure 70 = .ok (.ishl, 1) := by decide +kernel
theorem dX2_measure_71 : decode cX2_measure 71 = .ok (.ior, 1) := by decide +kernel
theorem dX2_measure_72 : decode cX2_measure 72 = .ok (.ior, 1) := by decide +kernel
theorem dX2_measure_73 : decode cX2_measure 73 = .ok (.istore 5, 2) := by decide +kernel
theorem dX2_measure_75 : decode cX2_measure 75 = .ok (.iinc 6 1, 3) := by decide +kernel
theorem dX2_measure_78 : decode cX2_measure 78 = .ok (.goto (-63), 3) := by decide +kernel
theorem dX2_measure_81 : decode cX2_measure 81 = .ok (.aload_n 0, 1) := by decide +kernel
theorem dX2_measure_82 : decode cX2_measure 82 = .ok (.iload 4, 2) := by decide +kernel
theorem dX2_measure_84 : decode cX2_measure 84 = .ok (.putfield 21, 3) := by decide +kernel
theorem dX2_measure_87 : decode cX2_measure 87 = .ok (.aload_n 0, 1) := by decide +kernel
theorem dX2_measure_88 : decode cX2_measure 88 = .ok (.iload 5, 2) := by decide +kernel
theorem dX2_measure_90 : decode cX2_measure 90 = .ok (.putfield 25, 3) := by decide +kernel
theorem dX2_measure_93 : decode cX2_measure 93 = .ok (.return_, 1) := by decide +kernel
theorem dX2_packed_0 : decode cX2_packed 0 = .ok (.iconst 0, 1) := by decide +kernel
theorem dX2_packed_1 : decode cX2_packed 1 = .ok (.istore_n 2, 1) := by decide +kernel
theorem dX2_packed_2 : decode cX2_packed 2 = .ok (.iconst 0, 1) := by decide +kernel
theorem dX2_packed_3 : decode cX2_packed 3 = .ok (.istore_n 3, 1) := by decide +kernel
theorem dX2_packed_4 : decode cX2_packed 4 = .ok (.iload_n 3, 1) := by decide +kernel
theorem dX2_packed_5 : decode cX2_packed 5 = .ok (.iload_n 1, 1) := by decide +kernel
theorem dX2_packed_6 : decode cX2_packed 6 = .ok (.if_icmp .ge 22, 3) := by decide +kernel
theorem dX2_packed_9 : decode cX2_packed 9 = .ok (.iload_n 2, 1) := by decide +kernel
theorem dX2_packed_10 : decode cX2_packed 10 = .ok (.aload_n 0, 1) := by decide +kernel
theorem dX2_packed_11 : decode cX2_packed 11 = .ok (.getfield 9, 3) := by decide +kernel
theorem dX2_packed_14 : decode cX2_packed 14 = .ok (.iload_n 3, 1) := by decide +kernel
theorem dX2_packed_15 : decode cX2_packed 15 = .ok (.iaload, 1) := by decide +kernel
theorem dX2_packed_16 : decode cX2_packed 16 = .ok (.iconst 3, 1) := by decide +kernel
theorem dX2_packed_17 : decode cX2_packed 17 = .ok (.iload_n 3, 1) := by decide +kernel
theorem dX2_packed_18 : decode cX2_packed 18 = .ok (.imul, 1) := by decide +kernel
theorem dX2_packed_19 : decode cX2_packed 19 = .ok (.ishl, 1) := by decide +kernel
theorem dX2_packed_20 : decode cX2_packed 20 = .ok (.ior, 1) := by decide +kernel
theorem dX2_packed_21 : decode cX2_packed 21 = .ok (.istore_n 2, 1) := by decide +kernel
theorem dX2_packed_22 : decode cX2_packed 22 = .ok (.iinc 3 1, 3) := by decide +kernel
theorem dX2_packed_25 : decode cX2_packed 25 = .ok (.goto (-21), 3) := by decide +kernel
theorem dX2_packed_28 : decode cX2_packed 28 = .ok (.iload_n 2, 1) := by decide +kernel
theorem dX2_packed_29 : decode cX2_packed 29 = .ok (.ireturn, 1) := by decide +kernel
theorem dX2_stepOn_0 : decode cX2_stepOn 0 = .ok (.iload_n 1, 1) := by decide +kernel
theorem dX2_stepOn_1 : decode cX2_stepOn 1 = .ok (.iconst 1, 1) := by decide +kernel
theorem dX2_stepOn_2 : decode cX2_stepOn 2 = .ok (.isub, 1) := by decide +kernel
theorem dX2_stepOn_3 : decode cX2_stepOn 3 = .ok (.istore_n 3, 1) := by decide +kernel
theorem dX2_stepOn_4 : decode cX2_stepOn 4 = .ok (.iload_n 3, 1) := by decide +kernel
theorem dX2_stepOn_5 : decode cX2_stepOn 5 = .ok (.ifCond .lt 37, 3) := by decide +kernel
theorem dX2_stepOn_8 : decode cX2_stepOn 8 = .ok (.aload_n 0, 1) := by decide +kernel
theorem dX2_stepOn_9 : decode cX2_stepOn 9 = .ok (.getfield 9, 3) := by decide +kernel
theorem dX2_stepOn_12 : decode cX2_stepOn 12 = .ok (.iload_n 3, 1) := by decide +kernel
theorem dX2_stepOn_13 : decode cX2_stepOn 13 = .ok (.dup2, 1) := by decide +kernel
theorem dX2_stepOn_14 : decode cX2_stepOn 14 = .ok (.iaload, 1) := by decide +kernel
theorem dX2_stepOn_15 : decode cX2_stepOn 15 = .ok (.iconst 1, 1) := by decide +kernel
theorem dX2_stepOn_16 : decode cX2_stepOn 16 = .ok (.iadd, 1) := by decide +kernel
theorem dX2_stepOn_17 : decode cX2_stepOn 17 = .ok (.iastore, 1) := by decide +kernel
theorem dX2_stepOn_18 : decode cX2_stepOn 18 = .ok (.aload_n 0, 1) := by decide +kernel
theorem dX2_stepOn_19 : decode cX2_stepOn 19 = .ok (.getfield 9, 3) := by decide +kernel
theorem dX2_stepOn_22 : decode cX2_stepOn 22 = .ok (.iload_n 3, 1) := by decide +kernel
theorem dX2_stepOn_23 : decode cX2_stepOn 23 = .ok (.iaload, 1) := by decide +kernel
theorem dX2_stepOn_24 : decode cX2_stepOn 24 = .ok (.iload_n 2, 1) := by decide +kernel
theorem dX2_stepOn_25 : decode cX2_stepOn 25 = .ok (.if_icmp .ge 4, 3) := by decide +kernel
theorem dX2_stepOn_28 : decode cX2_stepOn 28 = .ok (.return_, 1) := by decide +kernel
theorem dX2_stepOn_29 : decode cX2_stepOn 29 = .ok (.aload_n 0, 1) := by decide +kernel
theorem dX2_stepOn_30 : decode cX2_stepOn 30 = .ok (.getfield 9, 3) := by decide +kernel
theorem dX2_stepOn_33 : decode cX2_stepOn 33 = .ok (.iload_n 3, 1) := by decide +kernel
theorem dX2_stepOn_34 : decode cX2_stepOn 34 = .ok (.iconst 0, 1) := by decide +kernel
theorem dX2_stepOn_35 : decode cX2_stepOn 35 = .ok (.iastore, 1) := by decide +kernel
theorem dX2_stepOn_36 : decode cX2_stepOn 36 = .ok (.iinc 3 (-1), 3) := by decide +kernel
theorem dX2_stepOn_39 : decode cX2_stepOn 39 = .ok (.goto (-35), 3) := by decide +kernel
theorem dX2_stepOn_42 : decode cX2_stepOn 42 = .ok (.return_, 1) := by decide +kernel
theorem dX3_init_0 : decode cX3_init 0 = .ok (.aload_n 0, 1) := by decide +kernel
theorem dX3_init_1 : decode cX3_init 1 = .ok (.invokespecial 3, 3) := by decide +kernel
theorem dX3_init_4 : decode cX3_init 4 = .ok (.aload_n 0, 1) := by decide +kernel
theorem dX3_init_5 : decode cX3_init 5 = .ok (.bipush 51, 2) := by decide +kernel
theorem dX3_init_7 : decode cX3_init 7 = .ok (.newarray .int, 2) := by decide +kernel
theorem dX3_init_9 : decode cX3_init 9 = .ok (.putfield 9, 3) := by decide +kernel
theorem dX3_init_12 : decode cX3_init 12 = .ok (.return_, 1) := by decide +kernel
theorem dX3_divide_0 : decode cX3_divide 0 = .ok (.aload_n 0, 1) := by decide +kernel
theorem dX3_divide_1 : decode cX3_divide 1 = .ok (.getfield 9, 3) := by decide +kernel
theorem dX3_divide_4 : decode cX3_divide 4 = .ok (.iconst 0, 1) := by decide +kernel
theorem dX3_divide_5 : decode cX3_divide 5 = .ok (.invokestatic 15, 3) := by decide +kernel
theorem dX3_divide_8 : decode cX3_divide 8 = .ok (.aload_n 0, 1) := by decide +kernel
theorem dX3_divide_9 : decode cX3_divide 9 = .ok (.iconst 0, 1) := by decide +kernel
theorem dX3_divide_10 : decode cX3_divide 10 = .ok (.putfield 21, 3) := by decide +kernel
theorem dX3_divide_13 : decode cX3_divide 13 = .ok (.aload_n 0, 1) := by decide +kernel
theorem dX3_divide_14 : decode cX3_divide 14 = .ok (.iconst 0, 1) := by decide +kernel
theorem dX3_divide_15 : decode cX3_divide 15 = .ok (.putfield 25, 3) := by decide +kernel
theorem dX3_divide_18 : decode cX3_divide 18 = .ok (.iconst 0, 1) := by decide +kernel
theorem dX3_divide_19 : decode cX3_divide 19 = .ok (.istore 4, 2) := by decide +kernel
theorem dX3_divide_21 : decode cX3_divide 21 = .ok (.iload 4, 2) := by decide +kernel
theorem dX3_divide_23 : decode cX3_divide 23 = .ok (.aload_n 1, 1) := by decide +kernel
theorem dX3_divide_24 : decode cX3_divide 24 = .ok (.getfield 28, 3) := by decide +kernel
theorem dX3_divide_27 : decode cX3_divide 27 = .ok (.if_icmp .ge 84, 3) := by decide +kernel
theorem dX3_divide_30 : decode cX3_divide 30 = .ok (.aload_n 1, 1) := by decide +kernel
theorem dX3_divide_31 : decode cX3_divide 31 = .ok (.getfield 33, 3) := by decide +kernel
theorem dX3_divide_34 : decode cX3_divide 34 = .ok (.iload_n 2, 1) := by decide +kernel
theorem dX3_divide_35 : decode cX3_divide 35 = .ok (.iload_n 3, 1) := by decide +kernel
theorem dX3_divide_36 : decode cX3_divide 36 = .ok (.aload_n 1, 1) := by decide +kernel
theorem dX3_divide_37 : decode cX3_divide 37 = .ok (.getfield 37, 3) := by decide +kernel
theorem dX3_divide_40 : decode cX3_divide 40 = .ok (.iload 4, 2) := by decide +kernel
theorem dX3_divide_42 : decode cX3_divide 42 = .ok (.iaload, 1) := by decide +kernel
theorem dX3_divide_43 : decode cX3_divide 43 = .ok (.invokevirtual 40, 3) := by decide +kernel
theorem dX3_divide_46 : decode cX3_divide 46 = .ok (.istore 5, 2) := by decide +kernel
theorem dX3_divide_48 : decode cX3_divide 48 = .ok (.aload_n 0, 1) := by decide +kernel
theorem dX3_divide_49 : decode cX3_divide 49 = .ok (.getfield 9, 3) := by decide +kernel
theorem dX3_divide_52 : decode cX3_divide 52 = .ok (.iload 5, 2) := by decide +kernel
theorem dX3_divide_54 : decode cX3_divide 54 = .ok (.dup2, 1) := by decide +kernel
theorem dX3_divide_55 : decode cX3_divide 55 = .ok (.iaload, 1) := by decide +kernel
theorem dX3_divide_56 : decode cX3_divide 56 = .ok (.iconst 1, 1) := by decide +kernel
theorem dX3_divide_57 : decode cX3_divide 57 = .ok (.iadd, 1) := by decide +kernel
theorem dX3_divide_58 : decode cX3_divide 58 = .ok (.iastore, 1) := by decide +kernel
theorem dX3_divide_59 : decode cX3_divide 59 = .ok (.aload_n 0, 1) := by decide +kernel
theorem dX3_divide_60 : decode cX3_divide 60 = .ok (.getfield 9, 3) := by decide +kernel
theorem dX3_divide_63 : decode cX3_divide 63 = .ok (.iload 5, 2) := by decide +kernel
theorem dX3_divide_65 : decode cX3_divide 65 = .ok (.iaload, 1) := by decide +kernel
theorem dX3_divide_66 : decode cX3_divide 66 = .ok (.iconst 1, 1) := by decide +kernel
theorem dX3_divide_67 : decode cX3_divide 67 = .ok (.if_icmp .ne 13, 3) := by decide +kernel
theorem dX3_divide_70 : decode cX3_divide 70 = .ok (.aload_n 0, 1) := by decide +kernel
theorem dX3_divide_71 : decode cX3_divide 71 = .ok (.dup, 1) := by decide +kernel
theorem dX3_divide_72 : decode cX3_divide 72 = .ok (.getfield 21, 3) := by decide +kernel
theorem dX3_divide_75 : decode cX3_divide 75 = .ok (.iconst 1, 1) := by decide +kernel
theorem dX3_divide_76 : decode cX3_divide 76 = .ok (.iadd, 1) := by decide +kernel
theorem dX3_divide_77 : decode cX3_divide 77 = .ok (.putfield 21, 3) := by decide +kernel
theorem dX3_divide_80 : decode cX3_divide 80 = .ok (.aload_n 0, 1) := by decide +kernel
theorem dX3_divide_81 : decode cX3_divide 81 = .ok (.getfield 9, 3) := by decide +kernel
theorem dX3_divide_84 : decode cX3_divide 84 = .ok (.iload 5, 2) := by decide +kernel
theorem dX3_divide_86 : decode cX3_divide 86 = .ok (.iaload, 1) := by decide +kernel
theorem dX3_divide_87 : decode cX3_divide 87 = .ok (.aload_n 0, 1) := by decide +kernel
theorem dX3_divide_88 : decode cX3_divide 88 = .ok (.getfield 25, 3) := by decide +kernel
theorem dX3_divide_91 : decode cX3_divide 91 = .ok (.if_icmp .le 14, 3) := by decide +kernel
theorem dX3_divide_94 : decode cX3_divide 94 = .ok (.aload_n 0, 1) := by decide +kernel
theorem dX3_divide_95 : decode cX3_divide 95 = .ok (.aload_n 0, 1) := by decide +kernel
theorem dX3_divide_96 : decode cX3_divide 96 = .ok (.getfield 9, 3) := by decide +kernel
theorem dX3_divide_99 : decode cX3_divide 99 = .ok (.iload 5, 2) := by decide +kernel
theorem dX3_divide_101 : decode cX3_divide 101 = .ok (.iaload, 1) := by decide +kernel
theorem dX3_divide_102 : decode cX3_divide 102 = .ok (.putfield 25, 3) := by decide +kernel
theorem dX3_divide_105 : decode cX3_divide 105 = .ok (.iinc 4 1, 3) := by decide +kernel
theorem dX3_divide_108 : decode cX3_divide 108 = .ok (.goto (-87), 3) := by decide +kernel
theorem dX3_divide_111 : decode cX3_divide 111 = .ok (.return_, 1) := by decide +kernel
theorem dX3_answerOfPart_0 : decode cX3_answerOfPart 0 = .ok (.iconst 0, 1) := by decide +kernel
theorem dX3_answerOfPart_1 : decode cX3_answerOfPart 1 = .ok (.istore_n 2, 1) := by decide +kernel
theorem dX3_answerOfPart_2 : decode cX3_answerOfPart 2 = .ok (.iconst 0, 1) := by decide +kernel
theorem dX3_answerOfPart_3 : decode cX3_answerOfPart 3 = .ok (.istore_n 3, 1) := by decide +kernel
theorem dX3_answerOfPart_4 : decode cX3_answerOfPart 4 = .ok (.iload_n 3, 1) := by decide +kernel
theorem dX3_answerOfPart_5 : decode cX3_answerOfPart 5 = .ok (.bipush 51, 2) := by decide +kernel
theorem dX3_answerOfPart_7 : decode cX3_answerOfPart 7 = .ok (.if_icmp .ge 28, 3) := by decide +kernel
theorem dX3_answerOfPart_10 : decode cX3_answerOfPart 10 = .ok (.aload_n 0, 1) := by decide +kernel
theorem dX3_answerOfPart_11 : decode cX3_answerOfPart 11 = .ok (.getfield 9, 3) := by decide +kernel
theorem dX3_answerOfPart_14 : decode cX3_answerOfPart 14 = .ok (.iload_n 3, 1) := by decide +kernel
theorem dX3_answerOfPart_15 : decode cX3_answerOfPart 15 = .ok (.iaload, 1) := by decide +kernel
theorem dX3_answerOfPart_16 : decode cX3_answerOfPart 16 = .ok (.ifCond .le 13, 3) := by decide +kernel
theorem dX3_answerOfPart_19 : decode cX3_answerOfPart 19 = .ok (.iload_n 2, 1) := by decide +kernel
theorem dX3_answerOfPart_20 : decode cX3_answerOfPart 20 = .ok (.iload_n 1, 1) := by decide +kernel
theorem dX3_answerOfPart_21 : decode cX3_answerOfPart 21 = .ok (.if_icmp .ne 5, 3) := by decide +kernel
theorem dX3_answerOfPart_24 : decode cX3_answerOfPart 24 = .ok (.iload_n 3, 1) := by decide +kernel
theorem dX3_answerOfPart_25 : decode cX3_answerOfPart 25 = .ok (.ireturn, 1) := by decide +kernel
theorem dX3_answerOfPart_26 : decode cX3_answerOfPart 26 = .ok (.iinc 2 1, 3) := by decide +kernel
theorem dX3_answerOfPart_29 : decode cX3_answerOfPart 29 = .ok (.iinc 3 1, 3) := by decide +kernel
theorem dX3_answerOfPart_32 : decode cX3_answerOfPart 32 = .ok (.goto (-28), 3) := by decide +kernel
theorem dX3_answerOfPart_35 : decode cX3_answerOfPart 35 = .ok (.iconst (-1), 1) := by decide +kernel
theorem dX3_answerOfPart_36 : decode cX3_answerOfPart 36 = .ok (.ireturn, 1) := by decide +kernel
theorem dX4_init_0 : decode cX4_init 0 = .ok (.aload_n 0, 1) := by decide +kernel
theorem dX4_init_1 : decode cX4_init 1 = .ok (.invokespecial 3, 3) := by decide +kernel
theorem dX4_init_4 : decode cX4_init 4 = .ok (.aload_n 0, 1) := by decide +kernel
theorem dX4_init_5 : decode cX4_init 5 = .ok (.bipush 40, 2) := by decide +kernel
theorem dX4_init_7 : decode cX4_init 7 = .ok (.newarray .int, 2) := by decide +kernel
theorem dX4_init_9 : decode cX4_init 9 = .ok (.putfield 9, 3) := by decide +kernel
theorem dX4_init_12 : decode cX4_init 12 = .ok (.aload_n 0, 1) := by decide +kernel
theorem dX4_init_13 : decode cX4_init 13 = .ok (.bipush 40, 2) := by decide +kernel
theorem dX4_init_15 : decode cX4_init 15 = .ok (.newarray .int, 2) := by decide +kernel
theorem dX4_init_17 : decode cX4_init 17 = .ok (.putfield 15, 3) := by decide +kernel
theorem dX4_init_20 : decode cX4_init 20 = .ok (.aload_n 0, 1) := by decide +kernel
theorem dX4_init_21 : decode cX4_init 21 = .ok (.bipush 40, 2) := by decide +kernel
theorem dX4_init_23 : decode cX4_init 23 = .ok (.newarray .int, 2) := by decide +kernel
theorem dX4_init_25 : decode cX4_init 25 = .ok (.putfield 18, 3) := by decide +kernel
theorem dX4_init_28 : decode cX4_init 28 = .ok (.aload_n 0, 1) := by decide +kernel
theorem dX4_init_29 : decode cX4_init 29 = .ok (.bipush 40, 2) := by decide +kernel
theorem dX4_init_31 : decode cX4_init 31 = .ok (.newarray .int, 2) := by decide +kernel
theorem dX4_init_33 : decode cX4_init 33 = .ok (.putfield 21, 3) := by decide +kernel
theorem dX4_init_36 : decode cX4_init 36 = .ok (.aload_n 0, 1) := by decide +kernel
theorem dX4_init_37 : decode cX4_init 37 = .ok (.bipush 40, 2) := by decide +kernel
theorem dX4_init_39 : decode cX4_init 39 = .ok (.newarray .long, 2) := by decide +kernel
theorem dX4_init_41 : decode cX4_init 41 = .ok (.putfield 24, 3) := by decide +kernel
theorem dX4_init_44 : decode cX4_init 44 = .ok (.aload_n 0, 1) := by decide +kernel
theorem dX4_init_45 : decode cX4_init 45 = .ok (.bipush 40, 2) := by decide +kernel
theorem dX4_init_47 : decode cX4_init 47 = .ok (.newarray .boolean, 2) := by decide +kernel
theorem dX4_init_49 : decode cX4_init 49 = .ok (.putfield 28, 3) := by decide +kernel
theorem dX4_init_52 : decode cX4_init 52 = .ok (.aload_n 0, 1) := by decide +kernel
theorem dX4_init_53 : decode cX4_init 53 = .ok (.bipush 40, 2) := by decide +kernel
theorem dX4_init_55 : decode cX4_init 55 = .ok (.newarray .long, 2) := by decide +kernel
theorem dX4_init_57 : decode cX4_init 57 = .ok (.putfield 32, 3) := by decide +kernel
theorem dX4_init_60 : decode cX4_init 60 = .ok (.aload_n 0, 1) := by decide +kernel
theorem dX4_init_61 : decode cX4_init 61 = .ok (.bipush 40, 2) := by decide +kernel
theorem dX4_init_63 : decode cX4_init 63 = .ok (.newarray .int, 2) := by decide +kernel
theorem dX4_init_65 : decode cX4_init 65 = .ok (.putfield 35, 3) := by decide +kernel
theorem dX4_init_68 : decode cX4_init 68 = .ok (.return_, 1) := by decide +kernel
theorem dX4_empty_0 : decode cX4_empty 0 = .ok (.aload_n 0, 1) := by decide +kernel
theorem dX4_empty_1 : decode cX4_empty 1 = .ok (.iconst 0, 1) := by decide +kernel
theorem dX4_empty_2 : decode cX4_empty 2 = .ok (.putfield 38, 3) := by decide +kernel
theorem dX4_empty_5 : decode cX4_empty 5 = .ok (.aload_n 0, 1) := by decide +kernel
theorem dX4_empty_6 : decode cX4_empty 6 = .ok (.iconst 0, 1) := by decide +kernel
theorem dX4_empty_7 : decode cX4_empty 7 = .ok (.putfield 42, 3) := by decide +kernel
theorem dX4_empty_10 : decode cX4_empty 10 = .ok (.return_, 1) := by decide +kernel
theorem dX4_has_0 : decode cX4_has 0 = .ok (.iload_n 1, 1) := by decide +kernel
theorem dX4_has_1 : decode cX4_has 1 = .ok (.ifCond .lt 15, 3) := by decide +kernel
theorem dX4_has_4 : decode cX4_has 4 = .ok (.iload_n 1, 1) := by decide +kernel
theorem dX4_has_5 : decode cX4_has 5 = .ok (.aload_n 0, 1) := by decide +kernel
theorem dX4_has_6 : decode cX4_has 6 = .ok (.getfield 38, 3) := by decide +kernel
theorem dX4_has_9 : decode cX4_has 9 = .ok (.if_icmp .ge 7, 3) := by decide +kernel
theorem dX4_has_12 : decode cX4_has 12 = .ok (.iconst 1, 1) := by decide +kernel
theorem dX4_has_13 : decode cX4_has 13 = .ok (.goto 4, 3) := by decide +kernel
theorem dX4_has_16 : decode cX4_has 16 = .ok (.iconst 0, 1) := by decide +kernel
theorem dX4_has_17 : decode cX4_has 17 = .ok (.ireturn, 1) := by decide +kernel
theorem dX4_add_0 : decode cX4_add 0 = .ok (.aload_n 0, 1) := by decide +kernel
theorem dX4_add_1 : decode cX4_add 1 = .ok (.getfield 9, 3) := by decide +kernel
theorem dX4_add_4 : decode cX4_add 4 = .ok (.aload_n 0, 1) := by decide +kernel
theorem dX4_add_5 : decode cX4_add 5 = .ok (.getfield 38, 3) := by decide +kernel
theorem dX4_add_8 : decode cX4_add 8 = .ok (.iload_n 1, 1) := by decide +kernel
theorem dX4_add_9 : decode cX4_add 9 = .ok (.iastore, 1) := by decide +kernel
theorem dX4_add_10 : decode cX4_add 10 = .ok (.aload_n 0, 1) := by decide +kernel
theorem dX4_add_11 : decode cX4_add 11 = .ok (.getfield 15, 3) := by decide +kernel
theorem dX4_add_14 : decode cX4_add 14 = .ok (.aload_n 0, 1) := by decide +kernel
theorem dX4_add_15 : decode cX4_add 15 = .ok (.getfield 38, 3) := by decide +kernel
theorem dX4_add_18 : decode cX4_add 18 = .ok (.iload_n 2, 1) := by decide +kernel
theorem dX4_add_19 : decode cX4_add 19 = .ok (.iastore, 1) := by decide +kernel
theorem dX4_add_20 : decode cX4_add 20 = .ok (.aload_n 0, 1) := by decide +kernel
theorem dX4_add_21 : decode cX4_add 21 = .ok (.getfield 18, 3) := by decide +kernel
theorem dX4_add_24 : decode cX4_add 24 = .ok (.aload_n 0, 1) := by decide +kernel
theorem dX4_add_25 : decode cX4_add 25 = .ok (.getfield 38, 3) := by decide +kernel
theorem dX4_add_28 : decode cX4_add 28 = .ok (.iload_n 3, 1) := by decide +kernel
theorem dX4_add_29 : decode cX4_add 29 = .ok (.iastore, 1) := by decide +kernel
theorem dX4_add_30 : decode cX4_add 30 = .ok (.aload_n 0, 1) := by decide +kernel
theorem dX4_add_31 : decode cX4_add 31 = .ok (.getfield 24, 3) := by decide +kernel
theorem dX4_add_34 : decode cX4_add 34 = .ok (.aload_n 0, 1) := by decide +kernel
theorem dX4_add_35 : decode cX4_add 35 = .ok (.getfield 38, 3) := by decide +kernel
theorem dX4_add_38 : decode cX4_add 38 = .ok (.lconst 0, 1) := by decide +kernel
theorem dX4_add_39 : decode cX4_add 39 = .ok (.lastore, 1) := by decide +kernel
theorem dX4_add_40 : decode cX4_add 40 = .ok (.aload_n 0, 1) := by decide +kernel
theorem dX4_add_41 : decode cX4_add 41 = .ok (.getfield 28, 3) := by decide +kernel
theorem dX4_add_44 : decode cX4_add 44 = .ok (.aload_n 0, 1) := by decide +kernel
theorem dX4_add_45 : decode cX4_add 45 = .ok (.getfield 38, 3) := by decide +kernel
theorem dX4_add_48 : decode cX4_add 48 = .ok (.iconst 0, 1) := by decide +kernel
theorem dX4_add_49 : decode cX4_add 49 = .ok (.bastore, 1) := by decide +kernel
theorem dX4_add_50 : decode cX4_add 50 = .ok (.aload_n 0, 1) := by decide +kernel
theorem dX4_add_51 : decode cX4_add 51 = .ok (.getfield 21, 3) := by decide +kernel
theorem dX4_add_54 : decode cX4_add 54 = .ok (.aload_n 0, 1) := by decide +kernel
theorem dX4_add_55 : decode cX4_add 55 = .ok (.getfield 38, 3) := by decide +kernel
theorem dX4_add_58 : decode cX4_add 58 = .ok (.iconst 1, 1) := by decide +kernel
theorem dX4_add_59 : decode cX4_add 59 = .ok (.iastore, 1) := by decide +kernel
theorem dX4_add_60 : decode cX4_add 60 = .ok (.aload_n 0, 1) := by decide +kernel
theorem dX4_add_61 : decode cX4_add 61 = .ok (.iload_n 1, 1) := by decide +kernel
theorem dX4_add_62 : decode cX4_add 62 = .ok (.invokevirtual 45, 3) := by decide +kernel
theorem dX4_add_65 : decode cX4_add 65 = .ok (.ifCond .eq 57, 3) := by decide +kernel
theorem dX4_add_68 : decode cX4_add 68 = .ok (.lconst 1, 1) := by decide +kernel
theorem dX4_add_69 : decode cX4_add 69 = .ok (.iload_n 2, 1) := by decide +kernel
theorem dX4_add_70 : decode cX4_add 70 = .ok (.lshl, 1) := by decide +kernel
theorem dX4_add_71 : decode cX4_add 71 = .ok (.lstore 4, 2) := by decide +kernel
theorem dX4_add_73 : decode cX4_add 73 = .ok (.aload_n 0, 1) := by decide +kernel
theorem dX4_add_74 : decode cX4_add 74 = .ok (.getfield 24, 3) := by decide +kernel
theorem dX4_add_77 : decode cX4_add 77 = .ok (.iload_n 1, 1) := by decide +kernel
theorem dX4_add_78 : decode cX4_add 78 = .ok (.laload, 1) := by decide +kernel
theorem dX4_add_79 : decode cX4_add 79 = .ok (.lload 4, 2) := by decide +kernel
theorem dX4_add_81 : decode cX4_add 81 = .ok (.land, 1) := by decide +kernel
theorem dX4_add_82 : decode cX4_add 82 = .ok (.lconst 0, 1) := by decide +kernel
theorem dX4_add_83 : decode cX4_add 83 = .ok (.lcmp, 1) := by decide +kernel
theorem dX4_add_84 : decode cX4_add 84 = .ok (.ifCond .eq 10, 3) := by decide +kernel
theorem dX4_add_87 : decode cX4_add 87 = .ok (.aload_n 0, 1) := by decide +kernel
theorem dX4_add_88 : decode cX4_add 88 = .ok (.getfield 28, 3) := by decide +kernel
theorem dX4_add_91 : decode cX4_add 91 = .ok (.iload_n 1, 1) := by decide +kernel
theorem dX4_add_92 : decode cX4_add 92 = .ok (.iconst 1, 1) := by decide +kernel
theorem dX4_add_93 : decode cX4_add 93 = .ok (.bastore, 1) := by decide +kernel
theorem dX4_add_94 : decode cX4_add 94 = .ok (.aload_n 0, 1) := by decide +kernel
theorem dX4_add_95 : decode cX4_add 95 = .ok (.getfield 24, 3) := by decide +kernel
theorem dX4_add_98 : decode cX4_add 98 = .ok (.iload_n 1, 1) := by decide +kernel
theorem dX4_add_99 : decode cX4_add 99 = .ok (.dup2, 1) := by decide +kernel
theorem dX4_add_100 : decode cX4_add 100 = .ok (.laload, 1) := by decide +kernel
theorem dX4_add_101 : decode cX4_add 101 = .ok (.lload 4, 2) := by decide +kernel
theorem dX4_add_103 : decode cX4_add 103 = .ok (.lor, 1) := by decide +kernel
theorem dX4_add_104 : decode cX4_add 104 = .ok (.lastore, 1) := by decide +kernel
theorem dX4_add_105 : decode cX4_add 105 = .ok (.aload_n 0, 1) := by decide +kernel
theorem dX4_add_106 : decode cX4_add 106 = .ok (.getfield 21, 3) := by decide +kernel
theorem dX4_add_109 : decode cX4_add 109 = .ok (.aload_n 0, 1) := by decide +kernel
theorem dX4_add_110 : decode cX4_add 110 = .ok (.getfield 38, 3) := by decide +kernel
theorem dX4_add_113 : decode cX4_add 113 = .ok (.aload_n 0, 1) := by decide +kernel
theorem dX4_add_114 : decode cX4_add 114 = .ok (.getfield 21, 3) := by decide +kernel
theorem dX4_add_117 : decode cX4_add 117 = .ok (.iload_n 1, 1) := by decide +kernel
theorem dX4_add_118 : decode cX4_add 118 = .ok (.iaload, 1) := by decide +kernel
theorem dX4_add_119 : decode cX4_add 119 = .ok (.iconst 1, 1) := by decide +kernel
theorem dX4_add_120 : decode cX4_add 120 = .ok (.iadd, 1) := by decide +kernel
theorem dX4_add_121 : decode cX4_add 121 = .ok (.iastore, 1) := by decide +kernel
theorem dX4_add_122 : decode cX4_add 122 = .ok (.aload_n 0, 1) := by decide +kernel
theorem dX4_add_123 : decode cX4_add 123 = .ok (.aload_n 0, 1) := by decide +kernel
theorem dX4_add_124 : decode cX4_add 124 = .ok (.getfield 42, 3) := by decide +kernel
theorem dX4_add_127 : decode cX4_add 127 = .ok (.aload_n 0, 1) := by decide +kernel
theorem dX4_add_128 : decode cX4_add 128 = .ok (.getfield 21, 3) := by decide +kernel
theorem dX4_add_131 : decode cX4_add 131 = .ok (.aload_n 0, 1) := by decide +kernel
theorem dX4_add_132 : decode cX4_add 132 = .ok (.getfield 38, 3) := by decide +kernel
theorem dX4_add_135 : decode cX4_add 135 = .ok (.iaload, 1) := by decide +kernel
theorem dX4_add_136 : decode cX4_add 136 = .ok (.invokestatic 49, 3) := by decide +kernel
theorem dX4_add_139 : decode cX4_add 139 = .ok (.putfield 42, 3) := by decide +kernel
theorem dX4_add_142 : decode cX4_add 142 = .ok (.aload_n 0, 1) := by decide +kernel
theorem dX4_add_143 : decode cX4_add 143 = .ok (.dup, 1) := by decide +kernel
theorem dX4_add_144 : decode cX4_add 144 = .ok (.getfield 38, 3) := by decide +kernel
theorem dX4_add_147 : decode cX4_add 147 = .ok (.iconst 1, 1) := by decide +kernel
theorem dX4_add_148 : decode cX4_add 148 = .ok (.iadd, 1) := by decide +kernel
theorem dX4_add_149 : decode cX4_add 149 = .ok (.putfield 38, 3) := by decide +kernel
theorem dX4_add_152 : decode cX4_add 152 = .ok (.return_, 1) := by decide +kernel
theorem dX4_follow_0 : decode cX4_follow 0 = .ok (.aload_n 0, 1) := by decide +kernel
theorem dX4_follow_1 : decode cX4_follow 1 = .ok (.iconst 0, 1) := by decide +kernel
theorem dX4_follow_2 : decode cX4_follow 2 = .ok (.putfield 55, 3) := by decide +kernel
theorem dX4_follow_5 : decode cX4_follow 5 = .ok (.aload_n 0, 1) := by decide +kernel
theorem dX4_follow_6 : decode cX4_follow 6 = .ok (.getfield 32, 3) := by decide +kernel
theorem dX4_follow_9 : decode cX4_follow 9 = .ok (.lconst 0, 1) := by decide +kernel
theorem dX4_follow_10 : decode cX4_follow 10 = .ok (.invokestatic 58, 3) := by decide +kernel
theorem dX4_follow_13 : decode cX4_follow 13 = .ok (.iconst 0, 1) := by decide +kernel
theorem dX4_follow_14 : decode cX4_follow 14 = .ok (.istore_n 2, 1) := by decide +kernel
theorem dX4_follow_15 : decode cX4_follow 15 = .ok (.iload_n 2, 1) := by decide +kernel
theorem dX4_follow_16 : decode cX4_follow 16 = .ok (.aload_n 1, 1) := by decide +kernel
theorem dX4_follow_17 : decode cX4_follow 17 = .ok (.getfield 64, 3) := by decide +kernel
theorem dX4_follow_20 : decode cX4_follow 20 = .ok (.if_icmp .ge 23, 3) := by decide +kernel
theorem dX4_follow_23 : decode cX4_follow 23 = .ok (.aload_n 0, 1) := by decide +kernel
theorem dX4_follow_24 : decode cX4_follow 24 = .ok (.aload_n 1, 1) := by decide +kernel
theorem dX4_follow_25 : decode cX4_follow 25 = .ok (.getfield 69, 3) := by decide +kernel
theorem dX4_follow_28 : decode cX4_follow 28 = .ok (.aload_n 1, 1) := by decide +kernel
theorem dX4_follow_29 : decode cX4_follow 29 = .ok (.getfield 73, 3) := by decide +kernel
theorem dX4_follow_32 : decode cX4_follow 32 = .ok (.iload_n 2, 1) := by decide +kernel
theorem dX4_follow_33 : decode cX4_follow 33 = .ok (.iaload, 1) := by decide +kernel
theorem dX4_follow_34 : decode cX4_follow 34 = .ok (.invokevirtual 76, 3) := by decide +kernel
theorem dX4_follow_37 : decode cX4_follow 37 = .ok (.iinc 2 1, 3) := by decide +kernel
theorem dX4_follow_40 : decode cX4_follow 40 = .ok (.goto (-25), 3) := by decide +kernel
theorem dX4_follow_43 : decode cX4_follow 43 = .ok (.return_, 1) := by decide +kernel
theorem dX4_followCode_0 : decode cX4_followCode 0 = .ok (.lconst 0, 1) := by decide +kernel
theorem dX4_followCode_1 : decode cX4_followCode 1 = .ok (.lstore_n 3, 1) := by decide +kernel
theorem dX4_followCode_2 : decode cX4_followCode 2 = .ok (.iconst 0, 1) := by decide +kernel
theorem dX4_followCode_3 : decode cX4_followCode 3 = .ok (.istore 5, 2) := by decide +kernel
theorem dX4_followCode_5 : decode cX4_followCode 5 = .ok (.iload 5, 2) := by decide +kernel
theorem dX4_followCode_7 : decode cX4_followCode 7 = .ok (.aload_n 0, 1) := by decide +kernel
theorem dX4_followCode_8 : decode cX4_followCode 8 = .ok (.getfield 38, 3) := by decide +kernel
theorem dX4_followCode_11 : decode cX4_followCode 11 = .ok (.if_icmp .ge 120, 3) := by decide +kernel
theorem dX4_followCode_14 : decode cX4_followCode 14 = .ok (.aload_n 0, 1) := by decide +kernel
theorem dX4_followCode_15 : decode cX4_followCode 15 = .ok (.getfield 9, 3) := by decide +kernel
theorem dX4_followCode_18 : decode cX4_followCode 18 = .ok (.iload 5, 2) := by decide +kernel
theorem dX4_followCode_20 : decode cX4_followCode 20 = .ok (.iaload, 1) := by decide +kernel
theorem dX4_followCode_21 : decode cX4_followCode 21 = .ok (.istore 6, 2) := by decide +kernel
theorem dX4_followCode_23 : decode cX4_followCode 23 = .ok (.iload 5, 2) := by decide +kernel
theorem dX4_followCode_25 : decode cX4_followCode 25 = .ok (.ifCond .eq 31, 3) := by decide +kernel
theorem dX4_followCode_28 : decode cX4_followCode 28 = .ok (.lload_n 3, 1) := by decide +kernel
theorem dX4_followCode_29 : decode cX4_followCode 29 = .ok (.iload 6, 2) := by decide +kernel
theorem dX4_followCode_31 : decode cX4_followCode 31 = .ok (.lushr, 1) := by decide +kernel
theorem dX4_followCode_32 : decode cX4_followCode 32 = .ok (.lconst 1, 1) := by decide +kernel
theorem dX4_followCode_33 : decode cX4_followCode 33 = .ok (.land, 1) := by decide +kernel
theorem dX4_followCode_34 : decode cX4_followCode 34 = .ok (.lconst 0, 1) := by decide +kernel
theorem dX4_followCode_35 : decode cX4_followCode 35 = .ok (.lcmp, 1) := by decide +kernel
theorem dX4_followCode_36 : decode cX4_followCode 36 = .ok (.ifCond .eq 89, 3) := by decide +kernel
theorem dX4_followCode_39 : decode cX4_followCode 39 = .ok (.aload_n 0, 1) := by decide +kernel
theorem dX4_followCode_40 : decode cX4_followCode 40 = .ok (.getfield 35, 3) := by decide +kernel
theorem dX4_followCode_43 : decode cX4_followCode 43 = .ok (.iload 6, 2) := by decide +kernel
theorem dX4_followCode_45 : decode cX4_followCode 45 = .ok (.iaload, 1) := by decide +kernel
theorem dX4_followCode_46 : decode cX4_followCode 46 = .ok (.aload_n 0, 1) := by decide +kernel
theorem dX4_followCode_47 : decode cX4_followCode 47 = .ok (.getfield 15, 3) := by decide +kernel
theorem dX4_followCode_50 : decode cX4_followCode 50 = .ok (.iload 5, 2) := by decide +kernel
theorem dX4_followCode_52 : decode cX4_followCode 52 = .ok (.iaload, 1) := by decide +kernel
theorem dX4_followCode_53 : decode cX4_followCode 53 = .ok (.if_icmp .ne 72, 3) := by decide +kernel
theorem dX4_followCode_56 : decode cX4_followCode 56 = .ok (.lload_n 3, 1) := by decide +kernel
theorem dX4_followCode_57 : decode cX4_followCode 57 = .ok (.lconst 1, 1) := by decide +kernel
theorem dX4_followCode_58 : decode cX4_followCode 58 = .ok (.iload 5, 2) := by decide +kernel
theorem dX4_followCode_60 : decode cX4_followCode 60 = .ok (.lshl, 1) := by decide +kernel
theorem dX4_followCode_61 : decode cX4_followCode 61 = .ok (.lor, 1) := by decide +kernel
theorem dX4_followCode_62 : decode cX4_followCode 62 = .ok (.lstore_n 3, 1) := by decide +kernel
theorem dX4_followCode_63 : decode cX4_followCode 63 = .ok (.aload_n 0, 1) := by decide +kernel
theorem dX4_followCode_64 : decode cX4_followCode 64 = .ok (.dup, 1) := by decide +kernel
theorem dX4_followCode_65 : decode cX4_followCode 65 = .ok (.getfield 55, 3) := by decide +kernel
theorem dX4_followCode_68 : decode cX4_followCode 68 = .ok (.iconst 1, 1) := by decide +kernel
theorem dX4_followCode_69 : decode cX4_followCode 69 = .ok (.iadd, 1) := by decide +kernel
theorem dX4_followCode_70 : decode cX4_followCode 70 = .ok (.putfield 55, 3) := by decide +kernel
theorem dX4_followCode_73 : decode cX4_followCode 73 = .ok (.aload_n 0, 1) := by decide +kernel
theorem dX4_followCode_74 : decode cX4_followCode 74 = .ok (.getfield 35, 3) := by decide +kernel
theorem dX4_followCode_77 : decode cX4_followCode 77 = .ok (.iload 5, 2) := by decide +kernel
theorem dX4_followCode_79 : decode cX4_followCode 79 = .ok (.aload_n 1, 1) := by decide +kernel
theorem dX4_followCode_80 : decode cX4_followCode 80 = .ok (.aload_n 0, 1) := by decide +kernel
theorem dX4_followCode_81 : decode cX4_followCode 81 = .ok (.getfield 18, 3) := by decide +kernel
theorem dX4_followCode_84 : decode cX4_followCode 84 = .ok (.iload 5, 2) := by decide +kernel
theorem dX4_followCode_86 : decode cX4_followCode 86 = .ok (.iaload, 1) := by decide +kernel
theorem dX4_followCode_87 : decode cX4_followCode 87 = .ok (.iload_n 2, 1) := by decide +kernel
theorem dX4_followCode_88 : decode cX4_followCode 88 = .ok (.invokevirtual 80, 3) := by decide +kernel
theorem dX4_followCode_91 : decode cX4_followCode 91 = .ok (.iastore, 1) := by decide +kernel
theorem dX4_followCode_92 : decode cX4_followCode 92 = .ok (.aload_n 0, 1) := by decide +kernel
theorem dX4_followCode_93 : decode cX4_followCode 93 = .ok (.getfield 35, 3) := by decide +kernel
theorem dX4_followCode_96 : decode cX4_followCode 96 = .ok (.iload 5, 2) := by decide +kernel
theorem dX4_followCode_98 : decode cX4_followCode 98 = .ok (.iaload, 1) := by decide +kernel
theorem dX4_followCode_99 : decode cX4_followCode 99 = .ok (.aload_n 1, 1) := by decide +kernel
theorem dX4_followCode_100 : decode cX4_followCode 100 = .ok (.invokevirtual 85, 3) := by decide +kernel
theorem dX4_followCode_103 : decode cX4_followCode 103 = .ok (.if_icmp .eq 22, 3) := by decide +kernel
theorem dX4_followCode_106 : decode cX4_followCode 106 = .ok (.aload_n 0, 1) := by decide +kernel
theorem dX4_followCode_107 : decode cX4_followCode 107 = .ok (.getfield 32, 3) := by decide +kernel
theorem dX4_followCode_110 : decode cX4_followCode 110 = .ok (.iload 5, 2) := by decide +kernel
theorem dX4_followCode_112 : decode cX4_followCode 112 = .ok (.dup2, 1) := by decide +kernel
theorem dX4_followCode_113 : decode cX4_followCode 113 = .ok (.laload, 1) := by decide +kernel
theorem dX4_followCode_114 : decode cX4_followCode 114 = .ok (.lconst 1, 1) := by decide +kernel
theorem dX4_followCode_115 : decode cX4_followCode 115 = .ok (.aload_n 0, 1) := by decide +kernel
theorem dX4_followCode_116 : decode cX4_followCode 116 = .ok (.getfield 35, 3) := by decide +kernel
theorem dX4_followCode_119 : decode cX4_followCode 119 = .ok (.iload 5, 2) := by decide +kernel
theorem dX4_followCode_121 : decode cX4_followCode 121 = .ok (.iaload, 1) := by decide +kernel
theorem dX4_followCode_122 : decode cX4_followCode 122 = .ok (.lshl, 1) := by decide +kernel
theorem dX4_followCode_123 : decode cX4_followCode 123 = .ok (.lor, 1) := by decide +kernel
theorem dX4_followCode_124 : decode cX4_followCode 124 = .ok (.lastore, 1) := by decide +kernel
theorem dX4_followCode_125 : decode cX4_followCode 125 = .ok (.iinc 5 1, 3) := by decide +kernel
theorem dX4_followCode_128 : decode cX4_followCode 128 = .ok (.goto (-123), 3) := by decide +kernel
theorem dX4_followCode_131 : decode cX4_followCode 131 = .ok (.return_, 1) := by decide +kernel
theorem dX4_firstNotWhole_0 : decode cX4_firstNotWhole 0 = .ok (.iconst 0, 1) := by decide +kernel
theorem dX4_firstNotWhole_1 : decode cX4_firstNotWhole 1 = .ok (.istore_n 1, 1) := by decide +kernel
theorem dX4_firstNotWhole_2 : decode cX4_firstNotWhole 2 = .ok (.iload_n 1, 1) := by decide +kernel
theorem dX4_firstNotWhole_3 : decode cX4_firstNotWhole 3 = .ok (.aload_n 0, 1) := by decide +kernel
theorem dX4_firstNotWhole_4 : decode cX4_firstNotWhole 4 = .ok (.getfield 38, 3) := by decide +kernel
theorem dX4_firstNotWhole_7 : decode cX4_firstNotWhole 7 = .ok (.if_icmp .ge 36, 3) := by decide +kernel
theorem dX4_firstNotWhole_10 : decode cX4_firstNotWhole 10 = .ok (.aload_n 0, 1) := by decide +kernel
theorem dX4_firstNotWhole_11 : decode cX4_firstNotWhole 11 = .ok (.getfield 28, 3) := by decide +kernel
theorem dX4_firstNotWhole_14 : decode cX4_firstNotWhole 14 = .ok (.iload_n 1, 1) := by decide +kernel
theorem dX4_firstNotWhole_15 : decode cX4_firstNotWhole 15 = .ok (.baload, 1) := by decide +kernel
theorem dX4_firstNotWhole_16 : decode cX4_firstNotWhole 16 = .ok (.ifCond .ne 19, 3) := by decide +kernel
theorem dX4_firstNotWhole_19 : decode cX4_firstNotWhole 19 = .ok (.aload_n 0, 1) := by decide +kernel
theorem dX4_firstNotWhole_20 : decode cX4_firstNotWhole 20 = .ok (.getfield 24, 3) := by decide +kernel
theorem dX4_firstNotWhole_23 : decode cX4_firstNotWhole 23 = .ok (.iload_n 1, 1) := by decide +kernel
theorem dX4_firstNotWhole_24 : decode cX4_firstNotWhole 24 = .ok (.laload, 1) := by decide +kernel
theorem dX4_firstNotWhole_25 : decode cX4_firstNotWhole 25 = .ok (.aload_n 0, 1) := by decide +kernel
theorem dX4_firstNotWhole_26 : decode cX4_firstNotWhole 26 = .ok (.getfield 32, 3) := by decide +kernel
theorem dX4_firstNotWhole_29 : decode cX4_firstNotWhole 29 = .ok (.iload_n 1, 1) := by decide +kernel
theorem dX4_firstNotWhole_30 : decode cX4_firstNotWhole 30 = .ok (.laload, 1) := by decide +kernel
theorem dX4_firstNotWhole_31 : decode cX4_firstNotWhole 31 = .ok (.lcmp, 1) := by decide +kernel
theorem dX4_firstNotWhole_32 : decode cX4_firstNotWhole 32 = .ok (.ifCond .eq 5, 3) := by decide +kernel
theorem dX4_firstNotWhole_35 : decode cX4_firstNotWhole 35 = .ok (.iload_n 1, 1) := by decide +kernel
theorem dX4_firstNotWhole_36 : decode cX4_firstNotWhole 36 = .ok (.ireturn, 1) := by decide +kernel
theorem dX4_firstNotWhole_37 : decode cX4_firstNotWhole 37 = .ok (.iinc 1 1, 3) := by decide +kernel
theorem dX4_firstNotWhole_40 : decode cX4_firstNotWhole 40 = .ok (.goto (-38), 3) := by decide +kernel
theorem dX4_firstNotWhole_43 : decode cX4_firstNotWhole 43 = .ok (.iconst (-1), 1) := by decide +kernel
theorem dX4_firstNotWhole_44 : decode cX4_firstNotWhole 44 = .ok (.ireturn, 1) := by decide +kernel
theorem dX5_init_0 : decode cX5_init 0 = .ok (.aload_n 0, 1) := by decide +kernel
theorem dX5_init_1 : decode cX5_init 1 = .ok (.invokespecial 3, 3) := by decide +kernel
theorem dX5_init_4 : decode cX5_init 4 = .ok (.aload_n 0, 1) := by decide +kernel
theorem dX5_init_5 : decode cX5_init 5 = .ok (.new 9, 3) := by decide +kernel
theorem dX5_init_8 : decode cX5_init 8 = .ok (.dup, 1) := by decide +kernel
theorem dX5_init_9 : decode cX5_init 9 = .ok (.invokespecial 11, 3) := by decide +kernel
theorem dX5_init_12 : decode cX5_init 12 = .ok (.putfield 12, 3) := by decide +kernel
theorem dX5_init_15 : decode cX5_init 15 = .ok (.aload_n 0, 1) := by decide +kernel
theorem dX5_init_16 : decode cX5_init 16 = .ok (.bipush 50, 2) := by decide +kernel
theorem dX5_init_18 : decode cX5_init 18 = .ok (.newarray .int, 2) := by decide +kernel
theorem dX5_init_20 : decode cX5_init 20 = .ok (.putfield 18, 3) := by decide +kernel
theorem dX5_init_23 : decode cX5_init 23 = .ok (.aload_n 0, 1) := by decide +kernel
theorem dX5_init_24 : decode cX5_init 24 = .ok (.bipush 10, 2) := by decide +kernel
theorem dX5_init_26 : decode cX5_init 26 = .ok (.newarray .int, 2) := by decide +kernel
theorem dX5_init_28 : decode cX5_init 28 = .ok (.putfield 22, 3) := by decide +kernel
theorem dX5_init_31 : decode cX5_init 31 = .ok (.aload_n 0, 1) := by decide +kernel
theorem dX5_init_32 : decode cX5_init 32 = .ok (.sipush 4096, 3) := by decide +kernel
theorem dX5_init_35 : decode cX5_init 35 = .ok (.newarray .boolean, 2) := by decide +kernel
theorem dX5_init_37 : decode cX5_init 37 = .ok (.putfield 25, 3) := by decide +kernel
theorem dX5_init_40 : decode cX5_init 40 = .ok (.aload_n 0, 1) := by decide +kernel
theorem dX5_init_41 : decode cX5_init 41 = .ok (.sipush 4096, 3) := by decide +kernel
theorem dX5_init_44 : decode cX5_init 44 = .ok (.newarray .boolean, 2) := by decide +kernel
theorem dX5_init_46 : decode cX5_init 46 = .ok (.putfield 29, 3) := by decide +kernel
theorem dX5_init_49 : decode cX5_init 49 = .ok (.aload_n 0, 1) := by decide +kernel
theorem dX5_init_50 : decode cX5_init 50 = .ok (.sipush 4096, 3) := by decide +kernel
theorem dX5_init_53 : decode cX5_init 53 = .ok (.newarray .int, 2) := by decide +kernel
theorem dX5_init_55 : decode cX5_init 55 = .ok (.putfield 32, 3) := by decide +kernel
theorem dX5_init_58 : decode cX5_init 58 = .ok (.aload_n 0, 1) := by decide +kernel
theorem dX5_init_59 : decode cX5_init 59 = .ok (.sipush 4096, 3) := by decide +kernel
theorem dX5_init_62 : decode cX5_init 62 = .ok (.newarray .int, 2) := by decide +kernel
theorem dX5_init_64 : decode cX5_init 64 = .ok (.putfield 35, 3) := by decide +kernel
theorem dX5_init_67 : decode cX5_init 67 = .ok (.aload_n 0, 1) := by decide +kernel
theorem dX5_init_68 : decode cX5_init 68 = .ok (.aload_n 1, 1) := by decide +kernel
theorem dX5_init_69 : decode cX5_init 69 = .ok (.putfield 38, 3) := by decide +kernel
theorem dX5_init_72 : decode cX5_init 72 = .ok (.return_, 1) := by decide +kernel
theorem dX5_startAnew_0 : decode cX5_startAnew 0 = .ok (.iconst 0, 1) := by decide +kernel
theorem dX5_startAnew_1 : decode cX5_startAnew 1 = .ok (.istore_n 1, 1) := by decide +kernel
theorem dX5_startAnew_2 : decode cX5_startAnew 2 = .ok (.iload_n 1, 1) := by decide +kernel
theorem dX5_startAnew_3 : decode cX5_startAnew 3 = .ok (.aload_n 0, 1) := by decide +kernel
theorem dX5_startAnew_4 : decode cX5_startAnew 4 = .ok (.getfield 38, 3) := by decide +kernel
theorem dX5_startAnew_7 : decode cX5_startAnew 7 = .ok (.getfield 42, 3) := by decide +kernel
theorem dX5_startAnew_10 : decode cX5_startAnew 10 = .ok (.if_icmp .ge 23, 3) := by decide +kernel
theorem dX5_startAnew_13 : decode cX5_startAnew 13 = .ok (.aload_n 0, 1) := by decide +kernel
theorem dX5_startAnew_14 : decode cX5_startAnew 14 = .ok (.getfield 25, 3) := by decide +kernel
theorem dX5_startAnew_17 : decode cX5_startAnew 17 = .ok (.iload_n 1, 1) := by decide +kernel
theorem dX5_startAnew_18 : decode cX5_startAnew 18 = .ok (.iconst 0, 1) := by decide +kernel
theorem dX5_startAnew_19 : decode cX5_startAnew 19 = .ok (.bastore, 1) := by decide +kernel
theorem dX5_startAnew_20 : decode cX5_startAnew 20 = .ok (.aload_n 0, 1) := by decide +kernel
theorem dX5_startAnew_21 : decode cX5_startAnew 21 = .ok (.getfield 32, 3) := by decide +kernel
theorem dX5_startAnew_24 : decode cX5_startAnew 24 = .ok (.iload_n 1, 1) := by decide +kernel
theorem dX5_startAnew_25 : decode cX5_startAnew 25 = .ok (.iconst 0, 1) := by decide +kernel
theorem dX5_startAnew_26 : decode cX5_startAnew 26 = .ok (.iastore, 1) := by decide +kernel
theorem dX5_startAnew_27 : decode cX5_startAnew 27 = .ok (.iinc 1 1, 3) := by decide +kernel
theorem dX5_startAnew_30 : decode cX5_startAnew 30 = .ok (.goto (-28), 3) := by decide +kernel
theorem dX5_startAnew_33 : decode cX5_startAnew 33 = .ok (.aload_n 0, 1) := by decide +kernel
theorem dX5_startAnew_34 : decode cX5_startAnew 34 = .ok (.iconst 0, 1) := by decide +kernel
theorem dX5_startAnew_35 : decode cX5_startAnew 35 = .ok (.putfield 48, 3) := by decide +kernel
theorem dX5_startAnew_38 : decode cX5_startAnew 38 = .ok (.aload_n 0, 1) := by decide +kernel
theorem dX5_startAnew_39 : decode cX5_startAnew 39 = .ok (.iconst 0, 1) := by decide +kernel
theorem dX5_startAnew_40 : decode cX5_startAnew 40 = .ok (.putfield 51, 3) := by decide +kernel
theorem dX5_startAnew_43 : decode cX5_startAnew 43 = .ok (.aload_n 0, 1) := by decide +kernel
theorem dX5_startAnew_44 : decode cX5_startAnew 44 = .ok (.iconst 0, 1) := by decide +kernel
theorem dX5_startAnew_45 : decode cX5_startAnew 45 = .ok (.putfield 54, 3) := by decide +kernel
theorem dX5_startAnew_48 : decode cX5_startAnew 48 = .ok (.aload_n 0, 1) := by decide +kernel
theorem dX5_startAnew_49 : decode cX5_startAnew 49 = .ok (.iconst (-1), 1) := by decide +kernel
theorem dX5_startAnew_50 : decode cX5_startAnew 50 = .ok (.putfield 57, 3) := by decide +kernel
theorem dX5_startAnew_53 : decode cX5_startAnew 53 = .ok (.aload_n 0, 1) := by decide +kernel
theorem dX5_startAnew_54 : decode cX5_startAnew 54 = .ok (.iconst 0, 1) := by decide +kernel
theorem dX5_startAnew_55 : decode cX5_startAnew 55 = .ok (.iconst 0, 1) := by decide +kernel
theorem dX5_startAnew_56 : decode cX5_startAnew 56 = .ok (.invokevirtual 60, 3) := by decide +kernel
theorem dX5_startAnew_59 : decode cX5_startAnew 59 = .ok (.return_, 1) := by decide +kernel
theorem dX5_setLaw_0 : decode cX5_setLaw 0 = .ok (.aload_n 0, 1) := by decide +kernel
theorem dX5_setLaw_1 : decode cX5_setLaw 1 = .ok (.iload_n 1, 1) := by decide +kernel
theorem dX5_setLaw_2 : decode cX5_setLaw 2 = .ok (.putfield 64, 3) := by decide +kernel
theorem dX5_setLaw_5 : decode cX5_setLaw 5 = .ok (.aload_n 0, 1) := by decide +kernel
theorem dX5_setLaw_6 : decode cX5_setLaw 6 = .ok (.iload_n 2, 1) := by decide +kernel
theorem dX5_setLaw_7 : decode cX5_setLaw 7 = .ok (.putfield 67, 3) := by decide +kernel
theorem dX5_setLaw_10 : decode cX5_setLaw 10 = .ok (.aload_n 0, 1) := by decide +kernel
theorem dX5_setLaw_11 : decode cX5_setLaw 11 = .ok (.iconst 0, 1) := by decide +kernel
theorem dX5_setLaw_12 : decode cX5_setLaw 12 = .ok (.putfield 70, 3) := by decide +kernel
theorem dX5_setLaw_15 : decode cX5_setLaw 15 = .ok (.iconst 0, 1) := by decide +kernel
theorem dX5_setLaw_16 : decode cX5_setLaw 16 = .ok (.istore_n 3, 1) := by decide +kernel
theorem dX5_setLaw_17 : decode cX5_setLaw 17 = .ok (.iload_n 3, 1) := by decide +kernel
theorem dX5_setLaw_18 : decode cX5_setLaw 18 = .ok (.aload_n 0, 1) := by decide +kernel
theorem dX5_setLaw_19 : decode cX5_setLaw 19 = .ok (.getfield 38, 3) := by decide +kernel
theorem dX5_setLaw_22 : decode cX5_setLaw 22 = .ok (.getfield 42, 3) := by decide +kernel
theorem dX5_setLaw_25 : decode cX5_setLaw 25 = .ok (.if_icmp .ge 39, 3) := by decide +kernel
theorem dX5_setLaw_28 : decode cX5_setLaw 28 = .ok (.aload_n 0, 1) := by decide +kernel
theorem dX5_setLaw_29 : decode cX5_setLaw 29 = .ok (.getfield 29, 3) := by decide +kernel
theorem dX5_setLaw_32 : decode cX5_setLaw 32 = .ok (.iload_n 3, 1) := by decide +kernel
theorem dX5_setLaw_33 : decode cX5_setLaw 33 = .ok (.aload_n 0, 1) := by decide +kernel
theorem dX5_setLaw_34 : decode cX5_setLaw 34 = .ok (.iload_n 3, 1) := by decide +kernel
theorem dX5_setLaw_35 : decode cX5_setLaw 35 = .ok (.invokevirtual 73, 3) := by decide +kernel
theorem dX5_setLaw_38 : decode cX5_setLaw 38 = .ok (.bastore, 1) := by decide +kernel
theorem dX5_setLaw_39 : decode cX5_setLaw 39 = .ok (.aload_n 0, 1) := by decide +kernel
theorem dX5_setLaw_40 : decode cX5_setLaw 40 = .ok (.getfield 29, 3) := by decide +kernel
theorem dX5_setLaw_43 : decode cX5_setLaw 43 = .ok (.iload_n 3, 1) := by decide +kernel
theorem dX5_setLaw_44 : decode cX5_setLaw 44 = .ok (.baload, 1) := by decide +kernel
theorem dX5_setLaw_45 : decode cX5_setLaw 45 = .ok (.ifCond .eq 13, 3) := by decide +kernel
theorem dX5_setLaw_48 : decode cX5_setLaw 48 = .ok (.aload_n 0, 1) := by decide +kernel
theorem dX5_setLaw_49 : decode cX5_setLaw 49 = .ok (.dup, 1) := by decide +kernel
theorem dX5_setLaw_50 : decode cX5_setLaw 50 = .ok (.getfield 70, 3) := by decide +kernel
theorem dX5_setLaw_53 : decode cX5_setLaw 53 = .ok (.iconst 1, 1) := by decide +kernel
theorem dX5_setLaw_54 : decode cX5_setLaw 54 = .ok (.iadd, 1) := by decide +kernel
theorem dX5_setLaw_55 : decode cX5_setLaw 55 = .ok (.putfield 70, 3) := by decide +kernel
theorem dX5_setLaw_58 : decode cX5_setLaw 58 = .ok (.iinc 3 1, 3) := by decide +kernel
theorem dX5_setLaw_61 : decode cX5_setLaw 61 = .ok (.goto (-44), 3) := by decide +kernel
theorem dX5_setLaw_64 : decode cX5_setLaw 64 = .ok (.aload_n 0, 1) := by decide +kernel
theorem dX5_setLaw_65 : decode cX5_setLaw 65 = .ok (.invokevirtual 77, 3) := by decide +kernel
theorem dX5_setLaw_68 : decode cX5_setLaw 68 = .ok (.return_, 1) := by decide +kernel
theorem dX5_isLawful_0 : decode cX5_isLawful 0 = .ok (.aload_n 0, 1) := by decide +kernel
theorem dX5_isLawful_1 : decode cX5_isLawful 1 = .ok (.getfield 64, 3) := by decide +kernel
theorem dX5_isLawful_4 : decode cX5_isLawful 4 = .ok (.tableswitch 73 1 3 #[28, 45, 66], 28) := by decide +kernel
theorem dX5_isLawful_32 : decode cX5_isLawful 32 = .ok (.aload_n 0, 1) := by decide +kernel
theorem dX5_isLawful_33 : decode cX5_isLawful 33 = .ok (.getfield 38, 3) := by decide +kernel
theorem dX5_isLawful_36 : decode cX5_isLawful 36 = .ok (.iload_n 1, 1) := by decide +kernel
theorem dX5_isLawful_37 : decode cX5_isLawful 37 = .ok (.invokevirtual 80, 3) := by decide +kernel
theorem dX5_isLawful_40 : decode cX5_isLawful 40 = .ok (.ifCond .ne 7, 3) := by decide +kernel
theorem dX5_isLawful_43 : decode cX5_isLawful 43 = .ok (.iconst 1, 1) := by decide +kernel
theorem dX5_isLawful_44 : decode cX5_isLawful 44 = .ok (.goto 4, 3) := by decide +kernel
theorem dX5_isLawful_47 : decode cX5_isLawful 47 = .ok (.iconst 0, 1) := by decide +kernel
theorem dX5_isLawful_48 : decode cX5_isLawful 48 = .ok (.ireturn, 1) := by decide +kernel
theorem dX5_isLawful_49 : decode cX5_isLawful 49 = .ok (.aload_n 0, 1) := by decide +kernel
theorem dX5_isLawful_50 : decode cX5_isLawful 50 = .ok (.getfield 38, 3) := by decide +kernel
theorem dX5_isLawful_53 : decode cX5_isLawful 53 = .ok (.iload_n 1, 1) := by decide +kernel
theorem dX5_isLawful_54 : decode cX5_isLawful 54 = .ok (.invokevirtual 83, 3) := by decide +kernel
theorem dX5_isLawful_57 : decode cX5_isLawful 57 = .ok (.aload_n 0, 1) := by decide +kernel
theorem dX5_isLawful_58 : decode cX5_isLawful 58 = .ok (.getfield 67, 3) := by decide +kernel
theorem dX5_isLawful_61 : decode cX5_isLawful 61 = .ok (.if_icmp .ne 7, 3) := by decide +kernel
theorem dX5_isLawful_64 : decode cX5_isLawful 64 = .ok (.iconst 1, 1) := by decide +kernel
theorem dX5_isLawful_65 : decode cX5_isLawful 65 = .ok (.goto 4, 3) := by decide +kernel
theorem dX5_isLawful_68 : decode cX5_isLawful 68 = .ok (.iconst 0, 1) := by decide +kernel
theorem dX5_isLawful_69 : decode cX5_isLawful 69 = .ok (.ireturn, 1) := by decide +kernel
theorem dX5_isLawful_70 : decode cX5_isLawful 70 = .ok (.aload_n 0, 1) := by decide +kernel
theorem dX5_isLawful_71 : decode cX5_isLawful 71 = .ok (.getfield 25, 3) := by decide +kernel
theorem dX5_isLawful_74 : decode cX5_isLawful 74 = .ok (.iload_n 1, 1) := by decide +kernel
theorem dX5_isLawful_75 : decode cX5_isLawful 75 = .ok (.baload, 1) := by decide +kernel
theorem dX5_isLawful_76 : decode cX5_isLawful 76 = .ok (.ireturn, 1) := by decide +kernel
theorem dX5_isLawful_77 : decode cX5_isLawful 77 = .ok (.iconst 1, 1) := by decide +kernel
theorem dX5_isLawful_78 : decode cX5_isLawful 78 = .ok (.ireturn, 1) := by decide +kernel
theorem dX5_addToList_0 : decode cX5_addToList 0 = .ok (.aload_n 0, 1) := by decide +kernel
theorem dX5_addToList_1 : decode cX5_addToList 1 = .ok (.getfield 25, 3) := by decide +kernel
theorem dX5_addToList_4 : decode cX5_addToList 4 = .ok (.iload_n 1, 1) := by decide +kernel
theorem dX5_addToList_5 : decode cX5_addToList 5 = .ok (.iconst 1, 1) := by decide +kernel
theorem dX5_addToList_6 : decode cX5_addToList 6 = .ok (.bastore, 1) := by decide +kernel
theorem dX5_addToList_7 : decode cX5_addToList 7 = .ok (.aload_n 0, 1) := by decide +kernel
theorem dX5_addToList_8 : decode cX5_addToList 8 = .ok (.dup, 1) := by decide +kernel
theorem dX5_addToList_9 : decode cX5_addToList 9 = .ok (.getfield 48, 3) := by decide +kernel
theorem dX5_addToList_12 : decode cX5_addToList 12 = .ok (.iconst 1, 1) := by decide +kernel
theorem dX5_addToList_13 : decode cX5_addToList 13 = .ok (.iadd, 1) := by decide +kernel
theorem dX5_addToList_14 : decode cX5_addToList 14 = .ok (.putfield 48, 3) := by decide +kernel
theorem dX5_addToList_17 : decode cX5_addToList 17 = .ok (.aload_n 0, 1) := by decide +kernel
theorem dX5_addToList_18 : decode cX5_addToList 18 = .ok (.getfield 64, 3) := by decide +kernel
theorem dX5_addToList_21 : decode cX5_addToList 21 = .ok (.iconst 3, 1) := by decide +kernel
theorem dX5_addToList_22 : decode cX5_addToList 22 = .ok (.if_icmp .ne 24, 3) := by decide +kernel
theorem dX5_addToList_25 : decode cX5_addToList 25 = .ok (.aload_n 0, 1) := by decide +kernel
theorem dX5_addToList_26 : decode cX5_addToList 26 = .ok (.getfield 29, 3) := by decide +kernel
theorem dX5_addToList_29 : decode cX5_addToList 29 = .ok (.iload_n 1, 1) := by decide +kernel
theorem dX5_addToList_30 : decode cX5_addToList 30 = .ok (.iconst 1, 1) := by decide +kernel
theorem dX5_addToList_31 : decode cX5_addToList 31 = .ok (.bastore, 1) := by decide +kernel
theorem dX5_addToList_32 : decode cX5_addToList 32 = .ok (.aload_n 0, 1) := by decide +kernel
theorem dX5_addToList_33 : decode cX5_addToList 33 = .ok (.dup, 1) := by decide +kernel
theorem dX5_addToList_34 : decode cX5_addToList 34 = .ok (.getfield 70, 3) := by decide +kernel
theorem dX5_addToList_37 : decode cX5_addToList 37 = .ok (.iconst 1, 1) := by decide +kernel
theorem dX5_addToList_38 : decode cX5_addToList 38 = .ok (.iadd, 1) := by decide +kernel
theorem dX5_addToList_39 : decode cX5_addToList 39 = .ok (.putfield 70, 3) := by decide +kernel
theorem dX5_addToList_42 : decode cX5_addToList 42 = .ok (.aload_n 0, 1) := by decide +kernel
theorem dX5_addToList_43 : decode cX5_addToList 43 = .ok (.invokevirtual 77, 3) := by decide +kernel
theorem dX5_addToList_46 : decode cX5_addToList 46 = .ok (.return_, 1) := by decide +kernel
theorem dX5_setLies_0 : decode cX5_setLies 0 = .ok (.aload_n 0, 1) := by decide +kernel
theorem dX5_setLies_1 : decode cX5_setLies 1 = .ok (.iload_n 1, 1) := by decide +kernel
theorem dX5_setLies_2 : decode cX5_setLies 2 = .ok (.putfield 51, 3) := by decide +kernel
theorem dX5_setLies_5 : decode cX5_setLies 5 = .ok (.aload_n 0, 1) := by decide +kernel
theorem dX5_setLies_6 : decode cX5_setLies 6 = .ok (.invokevirtual 77, 3) := by decide +kernel
theorem dX5_setLies_9 : decode cX5_setLies 9 = .ok (.return_, 1) := by decide +kernel
theorem dX5_isLeft_0 : decode cX5_isLeft 0 = .ok (.aload_n 0, 1) := by decide +kernel
theorem dX5_isLeft_1 : decode cX5_isLeft 1 = .ok (.getfield 38, 3) := by decide +kernel
theorem dX5_isLeft_4 : decode cX5_isLeft 4 = .ok (.iload_n 1, 1) := by decide +kernel
theorem dX5_isLeft_5 : decode cX5_isLeft 5 = .ok (.invokevirtual 87, 3) := by decide +kernel
theorem dX5_isLeft_8 : decode cX5_isLeft 8 = .ok (.ifCond .eq 32, 3) := by decide +kernel
theorem dX5_isLeft_11 : decode cX5_isLeft 11 = .ok (.aload_n 0, 1) := by decide +kernel
theorem dX5_isLeft_12 : decode cX5_isLeft 12 = .ok (.getfield 29, 3) := by decide +kernel
theorem dX5_isLeft_15 : decode cX5_isLeft 15 = .ok (.iload_n 1, 1) := by decide +kernel
theorem dX5_isLeft_16 : decode cX5_isLeft 16 = .ok (.baload, 1) := by decide +kernel
theorem dX5_isLeft_17 : decode cX5_isLeft 17 = .ok (.ifCond .eq 23, 3) := by decide +kernel
theorem dX5_isLeft_20 : decode cX5_isLeft 20 = .ok (.aload_n 0, 1) := by decide +kernel
theorem dX5_isLeft_21 : decode cX5_isLeft 21 = .ok (.getfield 32, 3) := by decide +kernel
theorem dX5_isLeft_24 : decode cX5_isLeft 24 = .ok (.iload_n 1, 1) := by decide +kernel
theorem dX5_isLeft_25 : decode cX5_isLeft 25 = .ok (.iaload, 1) := by decide +kernel
theorem dX5_isLeft_26 : decode cX5_isLeft 26 = .ok (.invokestatic 90, 3) := by decide +kernel
theorem dX5_isLeft_29 : decode cX5_isLeft 29 = .ok (.aload_n 0, 1) := by decide +kernel
theorem dX5_isLeft_30 : decode cX5_isLeft 30 = .ok (.getfield 51, 3) := by decide +kernel
theorem dX5_isLeft_33 : decode cX5_isLeft 33 = .ok (.if_icmp .gt 7, 3) := by decide +kernel
theorem dX5_isLeft_36 : decode cX5_isLeft 36 = .ok (.iconst 1, 1) := by decide +kernel
theorem dX5_isLeft_37 : decode cX5_isLeft 37 = .ok (.goto 4, 3) := by decide +kernel
theorem dX5_isLeft_40 : decode cX5_isLeft 40 = .ok (.iconst 0, 1) := by decide +kernel
theorem dX5_isLeft_41 : decode cX5_isLeft 41 = .ok (.ireturn, 1) := by decide +kernel
theorem dX5_findLeft_0 : decode cX5_findLeft 0 = .ok (.aload_n 0, 1) := by decide +kernel
theorem dX5_findLeft_1 : decode cX5_findLeft 1 = .ok (.iconst 0, 1) := by decide +kernel
theorem dX5_findLeft_2 : decode cX5_findLeft 2 = .ok (.putfield 95, 3) := by decide +kernel
theorem dX5_findLeft_5 : decode cX5_findLeft 5 = .ok (.iconst 0, 1) := by decide +kernel
theorem dX5_findLeft_6 : decode cX5_findLeft 6 = .ok (.istore_n 1, 1) := by decide +kernel
theorem dX5_findLeft_7 : decode cX5_findLeft 7 = .ok (.iload_n 1, 1) := by decide +kernel
theorem dX5_findLeft_8 : decode cX5_findLeft 8 = .ok (.aload_n 0, 1) := by decide +kernel
theorem dX5_findLeft_9 : decode cX5_findLeft 9 = .ok (.getfield 38, 3) := by decide +kernel
theorem dX5_findLeft_12 : decode cX5_findLeft 12 = .ok (.getfield 42, 3) := by decide +kernel
theorem dX5_findLeft_15 : decode cX5_findLeft 15 = .ok (.if_icmp .ge 37, 3) := by decide +kernel
theorem dX5_findLeft_18 : decode cX5_findLeft 18 = .ok (.aload_n 0, 1) := by decide +kernel
theorem dX5_findLeft_19 : decode cX5_findLeft 19 = .ok (.iload_n 1, 1) := by decide +kernel
theorem dX5_findLeft_20 : decode cX5_findLeft 20 = .ok (.invokevirtual 98, 3) := by decide +kernel
theorem dX5_findLeft_23 : decode cX5_findLeft 23 = .ok (.ifCond .eq 23, 3) := by decide +kernel
theorem dX5_findLeft_26 : decode cX5_findLeft 26 = .ok (.aload_n 0, 1) := by decide +kernel
theorem dX5_findLeft_27 : decode cX5_findLeft 27 = .ok (.getfield 35, 3) := by decide +kernel
theorem dX5_findLeft_30 : decode cX5_findLeft 30 = .ok (.aload_n 0, 1) := by decide +kernel
theorem dX5_findLeft_31 : decode cX5_findLeft 31 = .ok (.getfield 95, 3) := by decide +kernel
theorem dX5_findLeft_34 : decode cX5_findLeft 34 = .ok (.iload_n 1, 1) := by decide +kernel
theorem dX5_findLeft_35 : decode cX5_findLeft 35 = .ok (.iastore, 1) := by decide +kernel
theorem dX5_findLeft_36 : decode cX5_findLeft 36 = .ok (.aload_n 0, 1) := by decide +kernel
theorem dX5_findLeft_37 : decode cX5_findLeft 37 = .ok (.dup, 1) := by decide +kernel
theorem dX5_findLeft_38 : decode cX5_findLeft 38 = .ok (.getfield 95, 3) := by decide +kernel
theorem dX5_findLeft_41 : decode cX5_findLeft 41 = .ok (.iconst 1, 1) := by decide +kernel
theorem dX5_findLeft_42 : decode cX5_findLeft 42 = .ok (.iadd, 1) := by decide +kernel
theorem dX5_findLeft_43 : decode cX5_findLeft 43 = .ok (.putfield 95, 3) := by decide +kernel
theorem dX5_findLeft_46 : decode cX5_findLeft 46 = .ok (.iinc 1 1, 3) := by decide +kernel
theorem dX5_findLeft_49 : decode cX5_findLeft 49 = .ok (.goto (-42), 3) := by decide +kernel
theorem dX5_findLeft_52 : decode cX5_findLeft 52 = .ok (.aload_n 0, 1) := by decide +kernel
theorem dX5_findLeft_53 : decode cX5_findLeft 53 = .ok (.dup, 1) := by decide +kernel
theorem dX5_findLeft_54 : decode cX5_findLeft 54 = .ok (.getfield 101, 3) := by decide +kernel
theorem dX5_findLeft_57 : decode cX5_findLeft 57 = .ok (.iconst 1, 1) := by decide +kernel
theorem dX5_findLeft_58 : decode cX5_findLeft 58 = .ok (.iadd, 1) := by decide +kernel
theorem dX5_findLeft_59 : decode cX5_findLeft 59 = .ok (.putfield 101, 3) := by decide +kernel
theorem dX5_findLeft_62 : decode cX5_findLeft 62 = .ok (.return_, 1) := by decide +kernel
theorem dX5_anyLeft_0 : decode cX5_anyLeft 0 = .ok (.iconst 0, 1) := by decide +kernel
theorem dX5_anyLeft_1 : decode cX5_anyLeft 1 = .ok (.istore_n 1, 1) := by decide +kernel
theorem dX5_anyLeft_2 : decode cX5_anyLeft 2 = .ok (.iload_n 1, 1) := by decide +kernel
theorem dX5_anyLeft_3 : decode cX5_anyLeft 3 = .ok (.aload_n 0, 1) := by decide +kernel
theorem dX5_anyLeft_4 : decode cX5_anyLeft 4 = .ok (.getfield 38, 3) := by decide +kernel
theorem dX5_anyLeft_7 : decode cX5_anyLeft 7 = .ok (.getfield 42, 3) := by decide +kernel
theorem dX5_anyLeft_10 : decode cX5_anyLeft 10 = .ok (.if_icmp .ge 19, 3) := by decide +kernel
theorem dX5_anyLeft_13 : decode cX5_anyLeft 13 = .ok (.aload_n 0, 1) := by decide +kernel
theorem dX5_anyLeft_14 : decode cX5_anyLeft 14 = .ok (.iload_n 1, 1) := by decide +kernel
theorem dX5_anyLeft_15 : decode cX5_anyLeft 15 = .ok (.invokevirtual 98, 3) := by decide +kernel
theorem dX5_anyLeft_18 : decode cX5_anyLeft 18 = .ok (.ifCond .eq 5, 3) := by decide +kernel
theorem dX5_anyLeft_21 : decode cX5_anyLeft 21 = .ok (.iconst 1, 1) := by decide +kernel
theorem dX5_anyLeft_22 : decode cX5_anyLeft 22 = .ok (.ireturn, 1) := by decide +kernel
theorem dX5_anyLeft_23 : decode cX5_anyLeft 23 = .ok (.iinc 1 1, 3) := by decide +kernel
theorem dX5_anyLeft_26 : decode cX5_anyLeft 26 = .ok (.goto (-24), 3) := by decide +kernel
theorem dX5_anyLeft_29 : decode cX5_anyLeft 29 = .ok (.iconst 0, 1) := by decide +kernel
theorem dX5_anyLeft_30 : decode cX5_anyLeft 30 = .ok (.ireturn, 1) := by decide +kernel
theorem dX5_accepts_0 : decode cX5_accepts 0 = .ok (.aload_n 0, 1) := by decide +kernel
theorem dX5_accepts_1 : decode cX5_accepts 1 = .ok (.aload_n 1, 1) := by decide +kernel
theorem dX5_accepts_2 : decode cX5_accepts 2 = .ok (.iload_n 2, 1) := by decide +kernel
theorem dX5_accepts_3 : decode cX5_accepts 3 = .ok (.invokevirtual 104, 3) := by decide +kernel
theorem dX5_accepts_6 : decode cX5_accepts 6 = .ok (.aload_n 0, 1) := by decide +kernel
theorem dX5_accepts_7 : decode cX5_accepts 7 = .ok (.invokevirtual 108, 3) := by decide +kernel
theorem dX5_accepts_10 : decode cX5_accepts 10 = .ok (.ifCond .ne 27, 3) := by decide +kernel
theorem dX5_accepts_13 : decode cX5_accepts 13 = .ok (.aload_n 0, 1) := by decide +kernel
theorem dX5_accepts_14 : decode cX5_accepts 14 = .ok (.aload_n 0, 1) := by decide +kernel
theorem dX5_accepts_15 : decode cX5_accepts 15 = .ok (.getfield 12, 3) := by decide +kernel
theorem dX5_accepts_18 : decode cX5_accepts 18 = .ok (.aload_n 0, 1) := by decide +kernel
theorem dX5_accepts_19 : decode cX5_accepts 19 = .ok (.aload_n 0, 1) := by decide +kernel
theorem dX5_accepts_20 : decode cX5_accepts 20 = .ok (.getfield 54, 3) := by decide +kernel
theorem dX5_accepts_23 : decode cX5_accepts 23 = .ok (.iconst 1, 1) := by decide +kernel
theorem dX5_accepts_24 : decode cX5_accepts 24 = .ok (.iadd, 1) := by decide +kernel
theorem dX5_accepts_25 : decode cX5_accepts 25 = .ok (.invokevirtual 112, 3) := by decide +kernel
theorem dX5_accepts_28 : decode cX5_accepts 28 = .ok (.putfield 57, 3) := by decide +kernel
theorem dX5_accepts_31 : decode cX5_accepts 31 = .ok (.aload_n 0, 1) := by decide +kernel
theorem dX5_accepts_32 : decode cX5_accepts 32 = .ok (.invokevirtual 116, 3) := by decide +kernel
theorem dX5_accepts_35 : decode cX5_accepts 35 = .ok (.iconst 0, 1) := by decide +kernel
theorem dX5_accepts_36 : decode cX5_accepts 36 = .ok (.ireturn, 1) := by decide +kernel
theorem dX5_accepts_37 : decode cX5_accepts 37 = .ok (.aload_n 1, 1) := by decide +kernel
theorem dX5_accepts_38 : decode cX5_accepts 38 = .ok (.getfield 119, 3) := by decide +kernel
theorem dX5_accepts_41 : decode cX5_accepts 41 = .ok (.iconst 0, 1) := by decide +kernel
theorem dX5_accepts_42 : decode cX5_accepts 42 = .ok (.aload_n 0, 1) := by decide +kernel
theorem dX5_accepts_43 : decode cX5_accepts 43 = .ok (.getfield 18, 3) := by decide +kernel
theorem dX5_accepts_46 : decode cX5_accepts 46 = .ok (.aload_n 0, 1) := by decide +kernel
theorem dX5_accepts_47 : decode cX5_accepts 47 = .ok (.getfield 54, 3) := by decide +kernel
theorem dX5_accepts_50 : decode cX5_accepts 50 = .ok (.iconst 5, 1) := by decide +kernel
theorem dX5_accepts_51 : decode cX5_accepts 51 = .ok (.imul, 1) := by decide +kernel
theorem dX5_accepts_52 : decode cX5_accepts 52 = .ok (.iconst 5, 1) := by decide +kernel
theorem dX5_accepts_53 : decode cX5_accepts 53 = .ok (.invokestatic 122, 3) := by decide +kernel
theorem dX5_accepts_56 : decode cX5_accepts 56 = .ok (.aload_n 0, 1) := by decide +kernel
theorem dX5_accepts_57 : decode cX5_accepts 57 = .ok (.getfield 22, 3) := by decide +kernel
theorem dX5_accepts_60 : decode cX5_accepts 60 = .ok (.aload_n 0, 1) := by decide +kernel
theorem dX5_accepts_61 : decode cX5_accepts 61 = .ok (.getfield 54, 3) := by decide +kernel
theorem dX5_accepts_64 : decode cX5_accepts 64 = .ok (.iload_n 2, 1) := by decide +kernel
theorem dX5_accepts_65 : decode cX5_accepts 65 = .ok (.iastore, 1) := by decide +kernel
theorem dX5_accepts_66 : decode cX5_accepts 66 = .ok (.aload_n 0, 1) := by decide +kernel
theorem dX5_accepts_67 : decode cX5_accepts 67 = .ok (.dup, 1) := by decide +kernel
theorem dX5_accepts_68 : decode cX5_accepts 68 = .ok (.getfield 54, 3) := by decide +kernel
theorem dX5_accepts_71 : decode cX5_accepts 71 = .ok (.iconst 1, 1) := by decide +kernel
theorem dX5_accepts_72 : decode cX5_accepts 72 = .ok (.iadd, 1) := by decide +kernel
theorem dX5_accepts_73 : decode cX5_accepts 73 = .ok (.putfield 54, 3) := by decide +kernel
theorem dX5_accepts_76 : decode cX5_accepts 76 = .ok (.aload_n 0, 1) := by decide +kernel
theorem dX5_accepts_77 : decode cX5_accepts 77 = .ok (.invokevirtual 77, 3) := by decide +kernel
theorem dX5_accepts_80 : decode cX5_accepts 80 = .ok (.iconst 1, 1) := by decide +kernel
theorem dX5_accepts_81 : decode cX5_accepts 81 = .ok (.ireturn, 1) := by decide +kernel
theorem dX5_takeBack_0 : decode cX5_takeBack 0 = .ok (.aload_n 0, 1) := by decide +kernel
theorem dX5_takeBack_1 : decode cX5_takeBack 1 = .ok (.dup, 1) := by decide +kernel
theorem dX5_takeBack_2 : decode cX5_takeBack 2 = .ok (.getfield 54, 3) := by decide +kernel
theorem dX5_takeBack_5 : decode cX5_takeBack 5 = .ok (.iconst 1, 1) := by decide +kernel
theorem dX5_takeBack_6 : decode cX5_takeBack 6 = .ok (.isub, 1) := by decide +kernel
theorem dX5_takeBack_7 : decode cX5_takeBack 7 = .ok (.putfield 54, 3) := by decide +kernel
theorem dX5_takeBack_10 : decode cX5_takeBack 10 = .ok (.aload_n 0, 1) := by decide +kernel
theorem dX5_takeBack_11 : decode cX5_takeBack 11 = .ok (.invokevirtual 116, 3) := by decide +kernel
theorem dX5_takeBack_14 : decode cX5_takeBack 14 = .ok (.aload_n 0, 1) := by decide +kernel
theorem dX5_takeBack_15 : decode cX5_takeBack 15 = .ok (.invokevirtual 77, 3) := by decide +kernel
theorem dX5_takeBack_18 : decode cX5_takeBack 18 = .ok (.return_, 1) := by decide +kernel
theorem dX5_markFalse_0 : decode cX5_markFalse 0 = .ok (.iconst 1, 1) := by decide +kernel
theorem dX5_markFalse_1 : decode cX5_markFalse 1 = .ok (.aload_n 0, 1) := by decide +kernel
theorem dX5_markFalse_2 : decode cX5_markFalse 2 = .ok (.getfield 54, 3) := by decide +kernel
theorem dX5_markFalse_5 : decode cX5_markFalse 5 = .ok (.ishl, 1) := by decide +kernel
theorem dX5_markFalse_6 : decode cX5_markFalse 6 = .ok (.istore_n 3, 1) := by decide +kernel
theorem dX5_markFalse_7 : decode cX5_markFalse 7 = .ok (.iconst 0, 1) := by decide +kernel
theorem dX5_markFalse_8 : decode cX5_markFalse 8 = .ok (.istore 4, 2) := by decide +kernel
theorem dX5_markFalse_10 : decode cX5_markFalse 10 = .ok (.iload 4, 2) := by decide +kernel
theorem dX5_markFalse_12 : decode cX5_markFalse 12 = .ok (.aload_n 0, 1) := by decide +kernel
theorem dX5_markFalse_13 : decode cX5_markFalse 13 = .ok (.getfield 38, 3) := by decide +kernel
theorem dX5_markFalse_16 : decode cX5_markFalse 16 = .ok (.getfield 42, 3) := by decide +kernel
theorem dX5_markFalse_19 : decode cX5_markFalse 19 = .ok (.if_icmp .ge 41, 3) := by decide +kernel
theorem dX5_markFalse_22 : decode cX5_markFalse 22 = .ok (.aload_n 0, 1) := by decide +kernel
theorem dX5_markFalse_23 : decode cX5_markFalse 23 = .ok (.getfield 38, 3) := by decide +kernel
theorem dX5_markFalse_26 : decode cX5_markFalse 26 = .ok (.aload_n 1, 1) := by decide +kernel
theorem dX5_markFalse_27 : decode cX5_markFalse 27 = .ok (.getfield 128, 3) := by decide +kernel
theorem dX5_markFalse_30 : decode cX5_markFalse 30 = .ok (.aload_n 1, 1) := by decide +kernel
theorem dX5_markFalse_31 : decode cX5_markFalse 31 = .ok (.getfield 131, 3) := by decide +kernel
theorem dX5_markFalse_34 : decode cX5_markFalse 34 = .ok (.iload 4, 2) := by decide +kernel
theorem dX5_markFalse_36 : decode cX5_markFalse 36 = .ok (.invokevirtual 134, 3) := by decide +kernel
theorem dX5_markFalse_39 : decode cX5_markFalse 39 = .ok (.iload_n 2, 1) := by decide +kernel
theorem dX5_markFalse_40 : decode cX5_markFalse 40 = .ok (.if_icmp .eq 14, 3) := by decide +kernel
theorem dX5_markFalse_43 : decode cX5_markFalse 43 = .ok (.aload_n 0, 1) := by decide +kernel
theorem dX5_markFalse_44 : decode cX5_markFalse 44 = .ok (.getfield 32, 3) := by decide +kernel
theorem dX5_markFalse_47 : decode cX5_markFalse 47 = .ok (.iload 4, 2) := by decide +kernel
theorem dX5_markFalse_49 : decode cX5_markFalse 49 = .ok (.dup2, 1) := by decide +kernel
theorem dX5_markFalse_50 : decode cX5_markFalse 50 = .ok (.iaload, 1) := by decide +kernel
theorem dX5_markFalse_51 : decode cX5_markFalse 51 = .ok (.iload_n 3, 1) := by decide +kernel
theorem dX5_markFalse_52 : decode cX5_markFalse 52 = .ok (.ior, 1) := by decide +kernel
theorem dX5_markFalse_53 : decode cX5_markFalse 53 = .ok (.iastore, 1) := by decide +kernel
theorem dX5_markFalse_54 : decode cX5_markFalse 54 = .ok (.iinc 4 1, 3) := by decide +kernel
theorem dX5_markFalse_57 : decode cX5_markFalse 57 = .ok (.goto (-47), 3) := by decide +kernel
theorem dX5_markFalse_60 : decode cX5_markFalse 60 = .ok (.return_, 1) := by decide +kernel
theorem dX5_unmark_0 : decode cX5_unmark 0 = .ok (.iconst 1, 1) := by decide +kernel
theorem dX5_unmark_1 : decode cX5_unmark 1 = .ok (.aload_n 0, 1) := by decide +kernel
theorem dX5_unmark_2 : decode cX5_unmark 2 = .ok (.getfield 54, 3) := by decide +kernel
theorem dX5_unmark_5 : decode cX5_unmark 5 = .ok (.ishl, 1) := by decide +kernel
theorem dX5_unmark_6 : decode cX5_unmark 6 = .ok (.iconst (-1), 1) := by decide +kernel
theorem dX5_unmark_7 : decode cX5_unmark 7 = .ok (.ixor, 1) := by decide +kernel
theorem dX5_unmark_8 : decode cX5_unmark 8 = .ok (.istore_n 1, 1) := by decide +kernel
theorem dX5_unmark_9 : decode cX5_unmark 9 = .ok (.iconst 0, 1) := by decide +kernel
theorem dX5_unmark_10 : decode cX5_unmark 10 = .ok (.istore_n 2, 1) := by decide +kernel
theorem dX5_unmark_11 : decode cX5_unmark 11 = .ok (.iload_n 2, 1) := by decide +kernel
theorem dX5_unmark_12 : decode cX5_unmark 12 = .ok (.aload_n 0, 1) := by decide +kernel
theorem dX5_unmark_13 : decode cX5_unmark 13 = .ok (.getfield 38, 3) := by decide +kernel
theorem dX5_unmark_16 : decode cX5_unmark 16 = .ok (.getfield 42, 3) := by decide +kernel
theorem dX5_unmark_19 : decode cX5_unmark 19 = .ok (.if_icmp .ge 19, 3) := by decide +kernel
theorem dX5_unmark_22 : decode cX5_unmark 22 = .ok (.aload_n 0, 1) := by decide +kernel
theorem dX5_unmark_23 : decode cX5_unmark 23 = .ok (.getfield 32, 3) := by decide +kernel
theorem dX5_unmark_26 : decode cX5_unmark 26 = .ok (.iload_n 2, 1) := by decide +kernel
theorem dX5_unmark_27 : decode cX5_unmark 27 = .ok (.dup2, 1) := by decide +kernel
theorem dX5_unmark_28 : decode cX5_unmark 28 = .ok (.iaload, 1) := by decide +kernel
theorem dX5_unmark_29 : decode cX5_unmark 29 = .ok (.iload_n 1, 1) := by decide +kernel
theorem dX5_unmark_30 : decode cX5_unmark 30 = .ok (.iand, 1) := by decide +kernel
theorem dX5_unmark_31 : decode cX5_unmark 31 = .ok (.iastore, 1) := by decide +kernel
theorem dX5_unmark_32 : decode cX5_unmark 32 = .ok (.iinc 2 1, 3) := by decide +kernel
theorem dX5_unmark_35 : decode cX5_unmark 35 = .ok (.goto (-24), 3) := by decide +kernel
theorem dX5_unmark_38 : decode cX5_unmark 38 = .ok (.return_, 1) := by decide +kernel
theorem dX5_leftWithFalse_0 : decode cX5_leftWithFalse 0 = .ok (.iconst 0, 1) := by decide +kernel
theorem dX5_leftWithFalse_1 : decode cX5_leftWithFalse 1 = .ok (.istore_n 2, 1) := by decide +kernel
theorem dX5_leftWithFalse_2 : decode cX5_leftWithFalse 2 = .ok (.iconst 0, 1) := by decide +kernel
theorem dX5_leftWithFalse_3 : decode cX5_leftWithFalse 3 = .ok (.istore_n 3, 1) := by decide +kernel
theorem dX5_leftWithFalse_4 : decode cX5_leftWithFalse 4 = .ok (.iload_n 3, 1) := by decide +kernel
theorem dX5_leftWithFalse_5 : decode cX5_leftWithFalse 5 = .ok (.aload_n 0, 1) := by decide +kernel
theorem dX5_leftWithFalse_6 : decode cX5_leftWithFalse 6 = .ok (.getfield 95, 3) := by decide +kernel
theorem dX5_leftWithFalse_9 : decode cX5_leftWithFalse 9 = .ok (.if_icmp .ge 27, 3) := by decide +kernel
theorem dX5_leftWithFalse_12 : decode cX5_leftWithFalse 12 = .ok (.iload_n 2, 1) := by decide +kernel
theorem dX5_leftWithFalse_13 : decode cX5_leftWithFalse 13 = .ok (.aload_n 0, 1) := by decide +kernel
theorem dX5_leftWithFalse_14 : decode cX5_leftWithFalse 14 = .ok (.getfield 32, 3) := by decide +kernel
theorem dX5_leftWithFalse_17 : decode cX5_leftWithFalse 17 = .ok (.aload_n 0, 1) := by decide +kernel
theorem dX5_leftWithFalse_18 : decode cX5_leftWithFalse 18 = .ok (.getfield 35, 3) := by decide +kernel
theorem dX5_leftWithFalse_21 : decode cX5_leftWithFalse 21 = .ok (.iload_n 3, 1) := by decide +kernel
theorem dX5_leftWithFalse_22 : decode cX5_leftWithFalse 22 = .ok (.iaload, 1) := by decide +kernel
theorem dX5_leftWithFalse_23 : decode cX5_leftWithFalse 23 = .ok (.iaload, 1) := by decide +kernel
theorem dX5_leftWithFalse_24 : decode cX5_leftWithFalse 24 = .ok (.iload_n 1, 1) := by decide +kernel
theorem dX5_leftWithFalse_25 : decode cX5_leftWithFalse 25 = .ok (.iushr, 1) := by decide +kernel
theorem dX5_leftWithFalse_26 : decode cX5_leftWithFalse 26 = .ok (.iconst 1, 1) := by decide +kernel
theorem dX5_leftWithFalse_27 : decode cX5_leftWithFalse 27 = .ok (.iand, 1) := by decide +kernel
theorem dX5_leftWithFalse_28 : decode cX5_leftWithFalse 28 = .ok (.iadd, 1) := by decide +kernel
theorem dX5_leftWithFalse_29 : decode cX5_leftWithFalse 29 = .ok (.istore_n 2, 1) := by decide +kernel
theorem dX5_leftWithFalse_30 : decode cX5_leftWithFalse 30 = .ok (.iinc 3 1, 3) := by decide +kernel
theorem dX5_leftWithFalse_33 : decode cX5_leftWithFalse 33 = .ok (.goto (-29), 3) := by decide +kernel
theorem dX5_leftWithFalse_36 : decode cX5_leftWithFalse 36 = .ok (.iload_n 2, 1) := by decide +kernel
theorem dX5_leftWithFalse_37 : decode cX5_leftWithFalse 37 = .ok (.ireturn, 1) := by decide +kernel
theorem dX6_init_0 : decode cX6_init 0 = .ok (.aload_n 0, 1) := by decide +kernel
theorem dX6_init_1 : decode cX6_init 1 = .ok (.invokespecial 3, 3) := by decide +kernel
theorem dX6_init_4 : decode cX6_init 4 = .ok (.aload_n 0, 1) := by decide +kernel
theorem dX6_init_5 : decode cX6_init 5 = .ok (.sipush 1024, 3) := by decide +kernel
theorem dX6_init_8 : decode cX6_init 8 = .ok (.newarray .boolean, 2) := by decide +kernel
theorem dX6_init_10 : decode cX6_init 10 = .ok (.putfield 9, 3) := by decide +kernel
theorem dX6_init_13 : decode cX6_init 13 = .ok (.aload_n 0, 1) := by decide +kernel
theorem dX6_init_14 : decode cX6_init 14 = .ok (.sipush 1024, 3) := by decide +kernel
theorem dX6_init_17 : decode cX6_init 17 = .ok (.newarray .int, 2) := by decide +kernel
theorem dX6_init_19 : decode cX6_init 19 = .ok (.putfield 15, 3) := by decide +kernel
theorem dX6_init_22 : decode cX6_init 22 = .ok (.return_, 1) := by decide +kernel
theorem dX6_leastQuarrel_0 : decode cX6_leastQuarrel 0 = .ok (.aload_n 0, 1) := by decide +kernel
theorem dX6_leastQuarrel_1 : decode cX6_leastQuarrel 1 = .ok (.aload_n 1, 1) := by decide +kernel
theorem dX6_leastQuarrel_2 : decode cX6_leastQuarrel 2 = .ok (.iload_n 2, 1) := by decide +kernel
theorem dX6_leastQuarrel_3 : decode cX6_leastQuarrel 3 = .ok (.invokevirtual 19, 3) := by decide +kernel
theorem dX6_leastQuarrel_6 : decode cX6_leastQuarrel 6 = .ok (.iconst 1, 1) := by decide +kernel
theorem dX6_leastQuarrel_7 : decode cX6_leastQuarrel 7 = .ok (.iload_n 2, 1) := by decide +kernel
theorem dX6_leastQuarrel_8 : decode cX6_leastQuarrel 8 = .ok (.ishl, 1) := by decide +kernel
theorem dX6_leastQuarrel_9 : decode cX6_leastQuarrel 9 = .ok (.istore_n 3, 1) := by decide +kernel
theorem dX6_leastQuarrel_10 : decode cX6_leastQuarrel 10 = .ok (.iconst 0, 1) := by decide +kernel
theorem dX6_leastQuarrel_11 : decode cX6_leastQuarrel 11 = .ok (.istore 4, 2) := by decide +kernel
theorem dX6_leastQuarrel_13 : decode cX6_leastQuarrel 13 = .ok (.iload 4, 2) := by decide +kernel
theorem dX6_leastQuarrel_15 : decode cX6_leastQuarrel 15 = .ok (.iload_n 2, 1) := by decide +kernel
theorem dX6_leastQuarrel_16 : decode cX6_leastQuarrel 16 = .ok (.if_icmp .gt 50, 3) := by decide +kernel
theorem dX6_leastQuarrel_19 : decode cX6_leastQuarrel 19 = .ok (.iconst 0, 1) := by decide +kernel
theorem dX6_leastQuarrel_20 : decode cX6_leastQuarrel 20 = .ok (.istore 5, 2) := by decide +kernel
theorem dX6_leastQuarrel_22 : decode cX6_leastQuarrel 22 = .ok (.iload 5, 2) := by decide +kernel
theorem dX6_leastQuarrel_24 : decode cX6_leastQuarrel 24 = .ok (.iload_n 3, 1) := by decide +kernel
theorem dX6_leastQuarrel_25 : decode cX6_leastQuarrel 25 = .ok (.if_icmp .ge 35, 3) := by decide +kernel
theorem dX6_leastQuarrel_28 : decode cX6_leastQuarrel 28 = .ok (.iload 5, 2) := by decide +kernel
theorem dX6_leastQuarrel_30 : decode cX6_leastQuarrel 30 = .ok (.invokestatic 23, 3) := by decide +kernel
theorem dX6_leastQuarrel_33 : decode cX6_leastQuarrel 33 = .ok (.iload 4, 2) := by decide +kernel
theorem dX6_leastQuarrel_35 : decode cX6_leastQuarrel 35 = .ok (.if_icmp .ne 19, 3) := by decide +kernel
theorem dX6_leastQuarrel_38 : decode cX6_leastQuarrel 38 = .ok (.aload_n 0, 1) := by decide +kernel
theorem dX6_leastQuarrel_39 : decode cX6_leastQuarrel 39 = .ok (.iload 5, 2) := by decide +kernel
theorem dX6_leastQuarrel_41 : decode cX6_leastQuarrel 41 = .ok (.aload_n 1, 1) := by decide +kernel
theorem dX6_leastQuarrel_42 : decode cX6_leastQuarrel 42 = .ok (.getfield 29, 3) := by decide +kernel
theorem dX6_leastQuarrel_45 : decode cX6_leastQuarrel 45 = .ok (.invokevirtual 35, 3) := by decide +kernel
theorem dX6_leastQuarrel_48 : decode cX6_leastQuarrel 48 = .ok (.ifCond .eq 6, 3) := by decide +kernel
theorem dX6_leastQuarrel_51 : decode cX6_leastQuarrel 51 = .ok (.iload 5, 2) := by decide +kernel
theorem dX6_leastQuarrel_53 : decode cX6_leastQuarrel 53 = .ok (.ireturn, 1) := by decide +kernel
theorem dX6_leastQuarrel_54 : decode cX6_leastQuarrel 54 = .ok (.iinc 5 1, 3) := by decide +kernel
theorem dX6_leastQuarrel_57 : decode cX6_leastQuarrel 57 = .ok (.goto (-35), 3) := by decide +kernel
theorem dX6_leastQuarrel_60 : decode cX6_leastQuarrel 60 = .ok (.iinc 4 1, 3) := by decide +kernel
theorem dX6_leastQuarrel_63 : decode cX6_leastQuarrel 63 = .ok (.goto (-50), 3) := by decide +kernel
theorem dX6_leastQuarrel_66 : decode cX6_leastQuarrel 66 = .ok (.iload_n 3, 1) := by decide +kernel
theorem dX6_leastQuarrel_67 : decode cX6_leastQuarrel 67 = .ok (.iconst 1, 1) := by decide +kernel
theorem dX6_leastQuarrel_68 : decode cX6_leastQuarrel 68 = .ok (.isub, 1) := by decide +kernel
theorem dX6_leastQuarrel_69 : decode cX6_leastQuarrel 69 = .ok (.ireturn, 1) := by decide +kernel
theorem dX6_gather_0 : decode cX6_gather 0 = .ok (.iconst 1, 1) := by decide +kernel
theorem dX6_gather_1 : decode cX6_gather 1 = .ok (.iload_n 2, 1) := by decide +kernel
theorem dX6_gather_2 : decode cX6_gather 2 = .ok (.ishl, 1) := by decide +kernel
theorem dX6_gather_3 : decode cX6_gather 3 = .ok (.istore_n 3, 1) := by decide +kernel
theorem dX6_gather_4 : decode cX6_gather 4 = .ok (.iconst 0, 1) := by decide +kernel
theorem dX6_gather_5 : decode cX6_gather 5 = .ok (.istore 4, 2) := by decide +kernel
theorem dX6_gather_7 : decode cX6_gather 7 = .ok (.iload 4, 2) := by decide +kernel
theorem dX6_gather_9 : decode cX6_gather 9 = .ok (.iload_n 3, 1) := by decide +kernel
theorem dX6_gather_10 : decode cX6_gather 10 = .ok (.if_icmp .ge 17, 3) := by decide +kernel
theorem dX6_gather_13 : decode cX6_gather 13 = .ok (.aload_n 0, 1) := by decide +kernel
theorem dX6_gather_14 : decode cX6_gather 14 = .ok (.getfield 9, 3) := by decide +kernel
theorem dX6_gather_17 : decode cX6_gather 17 = .ok (.iload 4, 2) := by decide +kernel
theorem dX6_gather_19 : decode cX6_gather 19 = .ok (.iconst 0, 1) := by decide +kernel
theorem dX6_gather_20 : decode cX6_gather 20 = .ok (.bastore, 1) := by decide +kernel
theorem dX6_gather_21 : decode cX6_gather 21 = .ok (.iinc 4 1, 3) := by decide +kernel
theorem dX6_gather_24 : decode cX6_gather 24 = .ok (.goto (-17), 3) := by decide +kernel
theorem dX6_gather_27 : decode cX6_gather 27 = .ok (.aload_n 0, 1) := by decide +kernel
theorem dX6_gather_28 : decode cX6_gather 28 = .ok (.iconst 0, 1) := by decide +kernel
theorem dX6_gather_29 : decode cX6_gather 29 = .ok (.putfield 39, 3) := by decide +kernel
theorem dX6_gather_32 : decode cX6_gather 32 = .ok (.iconst 0, 1) := by decide +kernel
theorem dX6_gather_33 : decode cX6_gather 33 = .ok (.istore 4, 2) := by decide +kernel
theorem dX6_gather_35 : decode cX6_gather 35 = .ok (.iload 4, 2) := by decide +kernel
theorem dX6_gather_37 : decode cX6_gather 37 = .ok (.aload_n 1, 1) := by decide +kernel
theorem dX6_gather_38 : decode cX6_gather 38 = .ok (.getfield 42, 3) := by decide +kernel
theorem dX6_gather_41 : decode cX6_gather 41 = .ok (.getfield 46, 3) := by decide +kernel
theorem dX6_gather_44 : decode cX6_gather 44 = .ok (.if_icmp .ge 67, 3) := by decide +kernel
theorem dX6_gather_47 : decode cX6_gather 47 = .ok (.aload_n 1, 1) := by decide +kernel
theorem dX6_gather_48 : decode cX6_gather 48 = .ok (.getfield 51, 3) := by decide +kernel
theorem dX6_gather_51 : decode cX6_gather 51 = .ok (.iload 4, 2) := by decide +kernel
theorem dX6_gather_53 : decode cX6_gather 53 = .ok (.iaload, 1) := by decide +kernel
theorem dX6_gather_54 : decode cX6_gather 54 = .ok (.istore 5, 2) := by decide +kernel
theorem dX6_gather_56 : decode cX6_gather 56 = .ok (.aload_n 1, 1) := by decide +kernel
theorem dX6_gather_57 : decode cX6_gather 57 = .ok (.getfield 54, 3) := by decide +kernel
theorem dX6_gather_60 : decode cX6_gather 60 = .ok (.iload 4, 2) := by decide +kernel
theorem dX6_gather_62 : decode cX6_gather 62 = .ok (.baload, 1) := by decide +kernel
theorem dX6_gather_63 : decode cX6_gather 63 = .ok (.ifCond .eq 42, 3) := by decide +kernel
theorem dX6_gather_66 : decode cX6_gather 66 = .ok (.aload_n 0, 1) := by decide +kernel
theorem dX6_gather_67 : decode cX6_gather 67 = .ok (.getfield 9, 3) := by decide +kernel
theorem dX6_gather_70 : decode cX6_gather 70 = .ok (.iload 5, 2) := by decide +kernel
theorem dX6_gather_72 : decode cX6_gather 72 = .ok (.baload, 1) := by decide +kernel
theorem dX6_gather_73 : decode cX6_gather 73 = .ok (.ifCond .ne 32, 3) := by decide +kernel
theorem dX6_gather_76 : decode cX6_gather 76 = .ok (.aload_n 0, 1) := by decide +kernel
theorem dX6_gather_77 : decode cX6_gather 77 = .ok (.getfield 9, 3) := by decide +kernel
theorem dX6_gather_80 : decode cX6_gather 80 = .ok (.iload 5, 2) := by decide +kernel
theorem dX6_gather_82 : decode cX6_gather 82 = .ok (.iconst 1, 1) := by decide +kernel
theorem dX6_gather_83 : decode cX6_gather 83 = .ok (.bastore, 1) := by decide +kernel
theorem dX6_gather_84 : decode cX6_gather 84 = .ok (.aload_n 0, 1) := by decide +kernel
theorem dX6_gather_85 : decode cX6_gather 85 = .ok (.getfield 15, 3) := by decide +kernel
theorem dX6_gather_88 : decode cX6_gather 88 = .ok (.aload_n 0, 1) := by decide +kernel
theorem dX6_gather_89 : decode cX6_gather 89 = .ok (.getfield 39, 3) := by decide +kernel
theorem dX6_gather_92 : decode cX6_gather 92 = .ok (.iload 5, 2) := by decide +kernel
theorem dX6_gather_94 : decode cX6_gather 94 = .ok (.iastore, 1) := by decide +kernel
theorem dX6_gather_95 : decode cX6_gather 95 = .ok (.aload_n 0, 1) := by decide +kernel
theorem dX6_gather_96 : decode cX6_gather 96 = .ok (.dup, 1) := by decide +kernel
theorem dX6_gather_97 : decode cX6_gather 97 = .ok (.getfield 39, 3) := by decide +kernel
theorem dX6_gather_100 : decode cX6_gather 100 = .ok (.iconst 1, 1) := by decide +kernel
theorem dX6_gather_101 : decode cX6_gather 101 = .ok (.iadd, 1) := by decide +kernel
theorem dX6_gather_102 : decode cX6_gather 102 = .ok (.putfield 39, 3) := by decide +kernel
theorem dX6_gather_105 : decode cX6_gather 105 = .ok (.iinc 4 1, 3) := by decide +kernel
theorem dX6_gather_108 : decode cX6_gather 108 = .ok (.goto (-73), 3) := by decide +kernel
theorem dX6_gather_111 : decode cX6_gather 111 = .ok (.return_, 1) := by decide +kernel
theorem dX6_isQuarrel_0 : decode cX6_isQuarrel 0 = .ok (.iconst 0, 1) := by decide +kernel
theorem dX6_isQuarrel_1 : decode cX6_isQuarrel 1 = .ok (.istore_n 3, 1) := by decide +kernel
theorem dX6_isQuarrel_2 : decode cX6_isQuarrel 2 = .ok (.iload_n 3, 1) := by decide +kernel
theorem dX6_isQuarrel_3 : decode cX6_isQuarrel 3 = .ok (.aload_n 0, 1) := by decide +kernel
theorem dX6_isQuarrel_4 : decode cX6_isQuarrel 4 = .ok (.getfield 39, 3) := by decide +kernel
theorem dX6_isQuarrel_7 : decode cX6_isQuarrel 7 = .ok (.if_icmp .ge 31, 3) := by decide +kernel
theorem dX6_isQuarrel_10 : decode cX6_isQuarrel 10 = .ok (.aload_n 0, 1) := by decide +kernel
theorem dX6_isQuarrel_11 : decode cX6_isQuarrel 11 = .ok (.getfield 15, 3) := by decide +kernel
theorem dX6_isQuarrel_14 : decode cX6_isQuarrel 14 = .ok (.iload_n 3, 1) := by decide +kernel
theorem dX6_isQuarrel_15 : decode cX6_isQuarrel 15 = .ok (.iaload, 1) := by decide +kernel
theorem dX6_isQuarrel_16 : decode cX6_isQuarrel 16 = .ok (.iload_n 1, 1) := by decide +kernel
theorem dX6_isQuarrel_17 : decode cX6_isQuarrel 17 = .ok (.iand, 1) := by decide +kernel
theorem dX6_isQuarrel_18 : decode cX6_isQuarrel 18 = .ok (.invokestatic 23, 3) := by decide +kernel
theorem dX6_isQuarrel_21 : decode cX6_isQuarrel 21 = .ok (.iload_n 2, 1) := by decide +kernel
theorem dX6_isQuarrel_22 : decode cX6_isQuarrel 22 = .ok (.if_icmp .gt 10, 3) := by decide +kernel
theorem dX6_isQuarrel_25 : decode cX6_isQuarrel 25 = .ok (.aload_n 0, 1) := by decide +kernel
theorem dX6_isQuarrel_26 : decode cX6_isQuarrel 26 = .ok (.iload_n 3, 1) := by decide +kernel
theorem dX6_isQuarrel_27 : decode cX6_isQuarrel 27 = .ok (.invokevirtual 57, 3) := by decide +kernel
theorem dX6_isQuarrel_30 : decode cX6_isQuarrel 30 = .ok (.iconst 0, 1) := by decide +kernel
theorem dX6_isQuarrel_31 : decode cX6_isQuarrel 31 = .ok (.ireturn, 1) := by decide +kernel
theorem dX6_isQuarrel_32 : decode cX6_isQuarrel 32 = .ok (.iinc 3 1, 3) := by decide +kernel
theorem dX6_isQuarrel_35 : decode cX6_isQuarrel 35 = .ok (.goto (-33), 3) := by decide +kernel
theorem dX6_isQuarrel_38 : decode cX6_isQuarrel 38 = .ok (.iconst 1, 1) := by decide +kernel
theorem dX6_isQuarrel_39 : decode cX6_isQuarrel 39 = .ok (.ireturn, 1) := by decide +kernel
theorem dX6_bringForward_0 : decode cX6_bringForward 0 = .ok (.aload_n 0, 1) := by decide +kernel
theorem dX6_bringForward_1 : decode cX6_bringForward 1 = .ok (.getfield 15, 3) := by decide +kernel
theorem dX6_bringForward_4 : decode cX6_bringForward 4 = .ok (.iload_n 1, 1) := by decide +kernel
theorem dX6_bringForward_5 : decode cX6_bringForward 5 = .ok (.iaload, 1) := by decide +kernel
theorem dX6_bringForward_6 : decode cX6_bringForward 6 = .ok (.istore_n 2, 1) := by decide +kernel
theorem dX6_bringForward_7 : decode cX6_bringForward 7 = .ok (.aload_n 0, 1) := by decide +kernel
theorem dX6_bringForward_8 : decode cX6_bringForward 8 = .ok (.getfield 15, 3) := by decide +kernel
theorem dX6_bringForward_11 : decode cX6_bringForward 11 = .ok (.iload_n 1, 1) := by decide +kernel
theorem dX6_bringForward_12 : decode cX6_bringForward 12 = .ok (.aload_n 0, 1) := by decide +kernel
theorem dX6_bringForward_13 : decode cX6_bringForward 13 = .ok (.getfield 15, 3) := by decide +kernel
theorem dX6_bringForward_16 : decode cX6_bringForward 16 = .ok (.iconst 0, 1) := by decide +kernel
theorem dX6_bringForward_17 : decode cX6_bringForward 17 = .ok (.iaload, 1) := by decide +kernel
theorem dX6_bringForward_18 : decode cX6_bringForward 18 = .ok (.iastore, 1) := by decide +kernel
theorem dX6_bringForward_19 : decode cX6_bringForward 19 = .ok (.aload_n 0, 1) := by decide +kernel
theorem dX6_bringForward_20 : decode cX6_bringForward 20 = .ok (.getfield 15, 3) := by decide +kernel
theorem dX6_bringForward_23 : decode cX6_bringForward 23 = .ok (.iconst 0, 1) := by decide +kernel
theorem dX6_bringForward_24 : decode cX6_bringForward 24 = .ok (.iload_n 2, 1) := by decide +kernel
theorem dX6_bringForward_25 : decode cX6_bringForward 25 = .ok (.iastore, 1) := by decide +kernel
theorem dX6_bringForward_26 : decode cX6_bringForward 26 = .ok (.return_, 1) := by decide +kernel
theorem dX7_init_0 : decode cX7_init 0 = .ok (.aload_n 0, 1) := by decide +kernel
theorem dX7_init_1 : decode cX7_init 1 = .ok (.invokespecial 3, 3) := by decide +kernel
theorem dX7_init_4 : decode cX7_init 4 = .ok (.aload_n 0, 1) := by decide +kernel
theorem dX7_init_5 : decode cX7_init 5 = .ok (.bipush 60, 2) := by decide +kernel
theorem dX7_init_7 : decode cX7_init 7 = .ok (.newarray .int, 2) := by decide +kernel
theorem dX7_init_9 : decode cX7_init 9 = .ok (.putfield 9, 3) := by decide +kernel
theorem dX7_init_12 : decode cX7_init 12 = .ok (.aload_n 0, 1) := by decide +kernel
theorem dX7_init_13 : decode cX7_init 13 = .ok (.iconst 0, 1) := by decide +kernel
theorem dX7_init_14 : decode cX7_init 14 = .ok (.putfield 15, 3) := by decide +kernel
theorem dX7_init_17 : decode cX7_init 17 = .ok (.return_, 1) := by decide +kernel
theorem dX7_holdRow_0 : decode cX7_holdRow 0 = .ok (.aload_n 0, 1) := by decide +kernel
theorem dX7_holdRow_1 : decode cX7_holdRow 1 = .ok (.iload_n 1, 1) := by decide +kernel
theorem dX7_holdRow_2 : decode cX7_holdRow 2 = .ok (.putfield 15, 3) := by decide +kernel
theorem dX7_holdRow_5 : decode cX7_holdRow 5 = .ok (.aload_n 0, 1) := by decide +kernel
theorem dX7_holdRow_6 : decode cX7_holdRow 6 = .ok (.iload_n 2, 1) := by decide +kernel
theorem dX7_holdRow_7 : decode cX7_holdRow 7 = .ok (.putfield 19, 3) := by decide +kernel
theorem dX7_holdRow_10 : decode cX7_holdRow 10 = .ok (.aload_n 0, 1) := by decide +kernel
theorem dX7_holdRow_11 : decode cX7_holdRow 11 = .ok (.getfield 9, 3) := by decide +kernel
theorem dX7_holdRow_14 : decode cX7_holdRow 14 = .ok (.iconst 0, 1) := by decide +kernel
theorem dX7_holdRow_15 : decode cX7_holdRow 15 = .ok (.invokestatic 22, 3) := by decide +kernel
theorem dX7_holdRow_18 : decode cX7_holdRow 18 = .ok (.return_, 1) := by decide +kernel
theorem dX7_holdGuess_0 : decode cX7_holdGuess 0 = .ok (.aload_n 0, 1) := by decide +kernel
theorem dX7_holdGuess_1 : decode cX7_holdGuess 1 = .ok (.iconst 4, 1) := by decide +kernel
theorem dX7_holdGuess_2 : decode cX7_holdGuess 2 = .ok (.putfield 15, 3) := by decide +kernel
theorem dX7_holdGuess_5 : decode cX7_holdGuess 5 = .ok (.aload_n 0, 1) := by decide +kernel
theorem dX7_holdGuess_6 : decode cX7_holdGuess 6 = .ok (.iload_n 2, 1) := by decide +kernel
theorem dX7_holdGuess_7 : decode cX7_holdGuess 7 = .ok (.putfield 19, 3) := by decide +kernel
theorem dX7_holdGuess_10 : decode cX7_holdGuess 10 = .ok (.aload_n 0, 1) := by decide +kernel
theorem dX7_holdGuess_11 : decode cX7_holdGuess 11 = .ok (.iload_n 3, 1) := by decide +kernel
theorem dX7_holdGuess_12 : decode cX7_holdGuess 12 = .ok (.putfield 28, 3) := by decide +kernel
theorem dX7_holdGuess_15 : decode cX7_holdGuess 15 = .ok (.aload_n 1, 1) := by decide +kernel
theorem dX7_holdGuess_16 : decode cX7_holdGuess 16 = .ok (.getfield 31, 3) := by decide +kernel
theorem dX7_holdGuess_19 : decode cX7_holdGuess 19 = .ok (.iconst 0, 1) := by decide +kernel
theorem dX7_holdGuess_20 : decode cX7_holdGuess 20 = .ok (.aload_n 0, 1) := by decide +kernel
theorem dX7_holdGuess_21 : decode cX7_holdGuess 21 = .ok (.getfield 9, 3) := by decide +kernel
theorem dX7_holdGuess_24 : decode cX7_holdGuess 24 = .ok (.iconst 0, 1) := by decide +kernel
theorem dX7_holdGuess_25 : decode cX7_holdGuess 25 = .ok (.iload_n 2, 1) := by decide +kernel
theorem dX7_holdGuess_26 : decode cX7_holdGuess 26 = .ok (.invokestatic 36, 3) := by decide +kernel
theorem dX7_holdGuess_29 : decode cX7_holdGuess 29 = .ok (.return_, 1) := by decide +kernel
theorem dX7_whyNoRow_0 : decode cX7_whyNoRow 0 = .ok (.aload_n 0, 1) := by decide +kernel
theorem dX7_whyNoRow_1 : decode cX7_whyNoRow 1 = .ok (.getfield 15, 3) := by decide +kernel
theorem dX7_whyNoRow_4 : decode cX7_whyNoRow 4 = .ok (.ifCond .ne 6, 3) := by decide +kernel
theorem dX7_whyNoRow_7 : decode cX7_whyNoRow 7 = .ok (.bipush (-11), 2) := by decide +kernel
theorem dX7_whyNoRow_9 : decode cX7_whyNoRow 9 = .ok (.ireturn, 1) := by decide +kernel
theorem dX7_whyNoRow_10 : decode cX7_whyNoRow 10 = .ok (.aload_n 0, 1) := by decide +kernel
theorem dX7_whyNoRow_11 : decode cX7_whyNoRow 11 = .ok (.getfield 15, 3) := by decide +kernel
theorem dX7_whyNoRow_14 : decode cX7_whyNoRow 14 = .ok (.iconst 4, 1) := by decide +kernel
theorem dX7_whyNoRow_15 : decode cX7_whyNoRow 15 = .ok (.if_icmp .ne 8, 3) := by decide +kernel
theorem dX7_whyNoRow_18 : decode cX7_whyNoRow 18 = .ok (.bipush (-12), 2) := by decide +kernel
theorem dX7_whyNoRow_20 : decode cX7_whyNoRow 20 = .ok (.goto 4, 3) := by decide +kernel
theorem dX7_whyNoRow_23 : decode cX7_whyNoRow 23 = .ok (.iconst 0, 1) := by decide +kernel
theorem dX7_whyNoRow_24 : decode cX7_whyNoRow 24 = .ok (.ireturn, 1) := by decide +kernel
theorem dX7_whyNoGuess_0 : decode cX7_whyNoGuess 0 = .ok (.aload_n 0, 1) := by decide +kernel
theorem dX7_whyNoGuess_1 : decode cX7_whyNoGuess 1 = .ok (.getfield 15, 3) := by decide +kernel
theorem dX7_whyNoGuess_4 : decode cX7_whyNoGuess 4 = .ok (.ifCond .ne 6, 3) := by decide +kernel
theorem dX7_whyNoGuess_7 : decode cX7_whyNoGuess 7 = .ok (.bipush (-11), 2) := by decide +kernel
theorem dX7_whyNoGuess_9 : decode cX7_whyNoGuess 9 = .ok (.ireturn, 1) := by decide +kernel
theorem dX7_whyNoGuess_10 : decode cX7_whyNoGuess 10 = .ok (.aload_n 0, 1) := by decide +kernel
theorem dX7_whyNoGuess_11 : decode cX7_whyNoGuess 11 = .ok (.getfield 15, 3) := by decide +kernel
theorem dX7_whyNoGuess_14 : decode cX7_whyNoGuess 14 = .ok (.iconst 4, 1) := by decide +kernel
theorem dX7_whyNoGuess_15 : decode cX7_whyNoGuess 15 = .ok (.if_icmp .ne 7, 3) := by decide +kernel
theorem dX7_whyNoGuess_18 : decode cX7_whyNoGuess 18 = .ok (.iconst 0, 1) := by decide +kernel
theorem dX7_whyNoGuess_19 : decode cX7_whyNoGuess 19 = .ok (.goto 5, 3) := by decide +kernel
theorem dX7_whyNoGuess_22 : decode cX7_whyNoGuess 22 = .ok (.bipush (-12), 2) := by decide +kernel
theorem dX7_whyNoGuess_24 : decode cX7_whyNoGuess 24 = .ok (.ireturn, 1) := by decide +kernel
theorem dX7_hasCells_0 : decode cX7_hasCells 0 = .ok (.iload_n 2, 1) := by decide +kernel
theorem dX7_hasCells_1 : decode cX7_hasCells 1 = .ok (.ifCond .lt 29, 3) := by decide +kernel
theorem dX7_hasCells_4 : decode cX7_hasCells 4 = .ok (.iload_n 1, 1) := by decide +kernel
theorem dX7_hasCells_5 : decode cX7_hasCells 5 = .ok (.ifCond .lt 25, 3) := by decide +kernel
theorem dX7_hasCells_8 : decode cX7_hasCells 8 = .ok (.iload_n 2, 1) := by decide +kernel
theorem dX7_hasCells_9 : decode cX7_hasCells 9 = .ok (.aload_n 0, 1) := by decide +kernel
theorem dX7_hasCells_10 : decode cX7_hasCells 10 = .ok (.getfield 19, 3) := by decide +kernel
theorem dX7_hasCells_13 : decode cX7_hasCells 13 = .ok (.if_icmp .gt 17, 3) := by decide +kernel
theorem dX7_hasCells_16 : decode cX7_hasCells 16 = .ok (.iload_n 1, 1) := by decide +kernel
theorem dX7_hasCells_17 : decode cX7_hasCells 17 = .ok (.aload_n 0, 1) := by decide +kernel
theorem dX7_hasCells_18 : decode cX7_hasCells 18 = .ok (.getfield 19, 3) := by decide +kernel
theorem dX7_hasCells_21 : decode cX7_hasCells 21 = .ok (.iload_n 2, 1) := by decide +kernel
theorem dX7_hasCells_22 : decode cX7_hasCells 22 = .ok (.isub, 1) := by decide +kernel
theorem dX7_hasCells_23 : decode cX7_hasCells 23 = .ok (.if_icmp .gt 7, 3) := by decide +kernel
theorem dX7_hasCells_26 : decode cX7_hasCells 26 = .ok (.iconst 1, 1) := by decide +kernel
theorem dX7_hasCells_27 : decode cX7_hasCells 27 = .ok (.goto 4, 3) := by decide +kernel
theorem dX7_hasCells_30 : decode cX7_hasCells 30 = .ok (.iconst 0, 1) := by decide +kernel
theorem dX7_hasCells_31 : decode cX7_hasCells 31 = .ok (.ireturn, 1) := by decide +kernel
theorem dX7_narrowed_0 : decode cX7_narrowed 0 = .ok (.aload_n 0, 1) := by decide +kernel
theorem dX7_narrowed_1 : decode cX7_narrowed 1 = .ok (.getfield 15, 3) := by decide +kernel
theorem dX7_narrowed_4 : decode cX7_narrowed 4 = .ok (.lookupswitch 34 #[(1, 28), (2, 31)], 28) := by decide +kernel
theorem dX7_narrowed_32 : decode cX7_narrowed 32 = .ok (.iload_n 1, 1) := by decide +kernel
theorem dX7_narrowed_33 : decode cX7_narrowed 33 = .ok (.i2b, 1) := by decide +kernel
theorem dX7_narrowed_34 : decode cX7_narrowed 34 = .ok (.ireturn, 1) := by decide +kernel
theorem dX7_narrowed_35 : decode cX7_narrowed 35 = .ok (.iload_n 1, 1) := by decide +kernel
theorem dX7_narrowed_36 : decode cX7_narrowed 36 = .ok (.i2c, 1) := by decide +kernel
theorem dX7_narrowed_37 : decode cX7_narrowed 37 = .ok (.ireturn, 1) := by decide +kernel
theorem dX7_narrowed_38 : decode cX7_narrowed 38 = .ok (.iload_n 1, 1) := by decide +kernel
theorem dX7_narrowed_39 : decode cX7_narrowed 39 = .ok (.i2s, 1) := by decide +kernel
theorem dX7_narrowed_40 : decode cX7_narrowed 40 = .ok (.ireturn, 1) := by decide +kernel
theorem dX7_pegAt_0 : decode cX7_pegAt 0 = .ok (.aload_n 0, 1) := by decide +kernel
theorem dX7_pegAt_1 : decode cX7_pegAt 1 = .ok (.getfield 15, 3) := by decide +kernel
theorem dX7_pegAt_4 : decode cX7_pegAt 4 = .ok (.iconst 2, 1) := by decide +kernel
theorem dX7_pegAt_5 : decode cX7_pegAt 5 = .ok (.if_icmp .ne 18, 3) := by decide +kernel
theorem dX7_pegAt_8 : decode cX7_pegAt 8 = .ok (.aload_n 0, 1) := by decide +kernel
theorem dX7_pegAt_9 : decode cX7_pegAt 9 = .ok (.getfield 9, 3) := by decide +kernel
theorem dX7_pegAt_12 : decode cX7_pegAt 12 = .ok (.iload_n 1, 1) := by decide +kernel
theorem dX7_pegAt_13 : decode cX7_pegAt 13 = .ok (.iaload, 1) := by decide +kernel
theorem dX7_pegAt_14 : decode cX7_pegAt 14 = .ok (.ldc 42, 2) := by decide +kernel
theorem dX7_pegAt_16 : decode cX7_pegAt 16 = .ok (.if_icmp .ne 7, 3) := by decide +kernel
theorem dX7_pegAt_19 : decode cX7_pegAt 19 = .ok (.iconst (-1), 1) := by decide +kernel
theorem dX7_pegAt_20 : decode cX7_pegAt 20 = .ok (.goto 9, 3) := by decide +kernel
theorem dX7_pegAt_23 : decode cX7_pegAt 23 = .ok (.aload_n 0, 1) := by decide +kernel
theorem dX7_pegAt_24 : decode cX7_pegAt 24 = .ok (.getfield 9, 3) := by decide +kernel
theorem dX7_pegAt_27 : decode cX7_pegAt 27 = .ok (.iload_n 1, 1) := by decide +kernel
theorem dX7_pegAt_28 : decode cX7_pegAt 28 = .ok (.iaload, 1) := by decide +kernel
theorem dX7_pegAt_29 : decode cX7_pegAt 29 = .ok (.ireturn, 1) := by decide +kernel
theorem dX7_pegsSet_0 : decode cX7_pegsSet 0 = .ok (.iconst 0, 1) := by decide +kernel
theorem dX7_pegsSet_1 : decode cX7_pegsSet 1 = .ok (.istore_n 1, 1) := by decide +kernel
theorem dX7_pegsSet_2 : decode cX7_pegsSet 2 = .ok (.iconst 0, 1) := by decide +kernel
theorem dX7_pegsSet_3 : decode cX7_pegsSet 3 = .ok (.istore_n 2, 1) := by decide +kernel
theorem dX7_pegsSet_4 : decode cX7_pegsSet 4 = .ok (.iload_n 2, 1) := by decide +kernel
theorem dX7_pegsSet_5 : decode cX7_pegsSet 5 = .ok (.aload_n 0, 1) := by decide +kernel
theorem dX7_pegsSet_6 : decode cX7_pegsSet 6 = .ok (.getfield 19, 3) := by decide +kernel
theorem dX7_pegsSet_9 : decode cX7_pegsSet 9 = .ok (.if_icmp .ge 22, 3) := by decide +kernel
theorem dX7_pegsSet_12 : decode cX7_pegsSet 12 = .ok (.aload_n 0, 1) := by decide +kernel
theorem dX7_pegsSet_13 : decode cX7_pegsSet 13 = .ok (.getfield 9, 3) := by decide +kernel
theorem dX7_pegsSet_16 : decode cX7_pegsSet 16 = .ok (.iload_n 2, 1) := by decide +kernel
theorem dX7_pegsSet_17 : decode cX7_pegsSet 17 = .ok (.iaload, 1) := by decide +kernel
theorem dX7_pegsSet_18 : decode cX7_pegsSet 18 = .ok (.iconst (-1), 1) := by decide +kernel
theorem dX7_pegsSet_19 : decode cX7_pegsSet 19 = .ok (.if_icmp .eq 6, 3) := by decide +kernel
theorem dX7_pegsSet_22 : decode cX7_pegsSet 22 = .ok (.iinc 1 1, 3) := by decide +kernel
theorem dX7_pegsSet_25 : decode cX7_pegsSet 25 = .ok (.iinc 2 1, 3) := by decide +kernel
theorem dX7_pegsSet_28 : decode cX7_pegsSet 28 = .ok (.goto (-24), 3) := by decide +kernel
theorem dX7_pegsSet_31 : decode cX7_pegsSet 31 = .ok (.iload_n 1, 1) := by decide +kernel
theorem dX7_pegsSet_32 : decode cX7_pegsSet 32 = .ok (.ireturn, 1) := by decide +kernel
theorem dX7_weight_0 : decode cX7_weight 0 = .ok (.aload_n 0, 1) := by decide +kernel
theorem dX7_weight_1 : decode cX7_weight 1 = .ok (.invokevirtual 43, 3) := by decide +kernel
theorem dX7_weight_4 : decode cX7_weight 4 = .ok (.istore_n 1, 1) := by decide +kernel
theorem dX7_weight_5 : decode cX7_weight 5 = .ok (.iload_n 1, 1) := by decide +kernel
theorem dX7_weight_6 : decode cX7_weight 6 = .ok (.bipush 10, 2) := by decide +kernel
theorem dX7_weight_8 : decode cX7_weight 8 = .ok (.iadd, 1) := by decide +kernel
theorem dX7_weight_9 : decode cX7_weight 9 = .ok (.istore_n 2, 1) := by decide +kernel
theorem dX7_weight_10 : decode cX7_weight 10 = .ok (.aload_n 0, 1) := by decide +kernel
theorem dX7_weight_11 : decode cX7_weight 11 = .ok (.getfield 28, 3) := by decide +kernel
theorem dX7_weight_14 : decode cX7_weight 14 = .ok (.tableswitch 51 1 4 #[30, 32, 36, 45], 30) := by decide +kernel
theorem dX7_weight_44 : decode cX7_weight 44 = .ok (.iload_n 2, 1) := by decide +kernel
theorem dX7_weight_45 : decode cX7_weight 45 = .ok (.ireturn, 1) := by decide +kernel
theorem dX7_weight_46 : decode cX7_weight 46 = .ok (.iconst 2, 1) := by decide +kernel
theorem dX7_weight_47 : decode cX7_weight 47 = .ok (.iload_n 2, 1) := by decide +kernel
theorem dX7_weight_48 : decode cX7_weight 48 = .ok (.imul, 1) := by decide +kernel
theorem dX7_weight_49 : decode cX7_weight 49 = .ok (.ireturn, 1) := by decide +kernel
theorem dX7_weight_50 : decode cX7_weight 50 = .ok (.iload_n 1, 1) := by decide +kernel
theorem dX7_weight_51 : decode cX7_weight 51 = .ok (.aload_n 0, 1) := by decide +kernel
theorem dX7_weight_52 : decode cX7_weight 52 = .ok (.getfield 19, 3) := by decide +kernel
theorem dX7_weight_55 : decode cX7_weight 55 = .ok (.iload_n 1, 1) := by decide +kernel
theorem dX7_weight_56 : decode cX7_weight 56 = .ok (.isub, 1) := by decide +kernel
theorem dX7_weight_57 : decode cX7_weight 57 = .ok (.isub, 1) := by decide +kernel
theorem dX7_weight_58 : decode cX7_weight 58 = .ok (.ireturn, 1) := by decide +kernel
theorem dX7_weight_59 : decode cX7_weight 59 = .ok (.iconst 2, 1) := by decide +kernel
theorem dX7_weight_60 : decode cX7_weight 60 = .ok (.iload_n 2, 1) := by decide +kernel
theorem dX7_weight_61 : decode cX7_weight 61 = .ok (.imul, 1) := by decide +kernel
theorem dX7_weight_62 : decode cX7_weight 62 = .ok (.iconst 1, 1) := by decide +kernel
theorem dX7_weight_63 : decode cX7_weight 63 = .ok (.iadd, 1) := by decide +kernel
theorem dX7_weight_64 : decode cX7_weight 64 = .ok (.ireturn, 1) := by decide +kernel
theorem dX7_weight_65 : decode cX7_weight 65 = .ok (.iload_n 1, 1) := by decide +kernel
theorem dX7_weight_66 : decode cX7_weight 66 = .ok (.ireturn, 1) := by decide +kernel
theorem dX7_rank_0 : decode cX7_rank 0 = .ok (.aload_n 0, 1) := by decide +kernel
theorem dX7_rank_1 : decode cX7_rank 1 = .ok (.getfield 28, 3) := by decide +kernel
theorem dX7_rank_4 : decode cX7_rank 4 = .ok (.tableswitch 41 1 4 #[32, 34, 36, 38], 32) := by decide +kernel
theorem dX7_rank_36 : decode cX7_rank 36 = .ok (.iconst 2, 1) := by decide +kernel
theorem dX7_rank_37 : decode cX7_rank 37 = .ok (.ireturn, 1) := by decide +kernel
theorem dX7_rank_38 : decode cX7_rank 38 = .ok (.iconst 2, 1) := by decide +kernel
theorem dX7_rank_39 : decode cX7_rank 39 = .ok (.ireturn, 1) := by decide +kernel
theorem dX7_rank_40 : decode cX7_rank 40 = .ok (.iconst 0, 1) := by decide +kernel
theorem dX7_rank_41 : decode cX7_rank 41 = .ok (.ireturn, 1) := by decide +kernel
theorem dX7_rank_42 : decode cX7_rank 42 = .ok (.bipush 7, 2) := by decide +kernel
theorem dX7_rank_44 : decode cX7_rank 44 = .ok (.ireturn, 1) := by decide +kernel
theorem dX7_rank_45 : decode cX7_rank 45 = .ok (.iconst 1, 1) := by decide +kernel
theorem dX7_rank_46 : decode cX7_rank 46 = .ok (.ireturn, 1) := by decide +kernel
theorem dX7_failIfAnyPeg_0 : decode cX7_failIfAnyPeg 0 = .ok (.aload_n 0, 1) := by decide +kernel
theorem dX7_failIfAnyPeg_1 : decode cX7_failIfAnyPeg 1 = .ok (.invokevirtual 43, 3) := by decide +kernel
theorem dX7_failIfAnyPeg_4 : decode cX7_failIfAnyPeg 4 = .ok (.ifCond .le 13, 3) := by decide +kernel
theorem dX7_failIfAnyPeg_7 : decode cX7_failIfAnyPeg 7 = .ok (.new 47, 3) := by decide +kernel
theorem dX7_failIfAnyPeg_10 : decode cX7_failIfAnyPeg 10 = .ok (.dup, 1) := by decide +kernel
theorem dX7_failIfAnyPeg_11 : decode cX7_failIfAnyPeg 11 = .ok (.ldc 49, 2) := by decide +kernel
theorem dX7_failIfAnyPeg_13 : decode cX7_failIfAnyPeg 13 = .ok (.invokespecial 51, 3) := by decide +kernel
theorem dX7_failIfAnyPeg_16 : decode cX7_failIfAnyPeg 16 = .ok (.athrow, 1) := by decide +kernel
theorem dX7_failIfAnyPeg_17 : decode cX7_failIfAnyPeg 17 = .ok (.return_, 1) := by decide +kernel
theorem dX8_init_0 : decode cX8_init 0 = .ok (.aload_n 0, 1) := by decide +kernel
theorem dX8_init_1 : decode cX8_init 1 = .ok (.invokespecial 1, 3) := by decide +kernel
theorem dX8_init_4 : decode cX8_init 4 = .ok (.aload_n 0, 1) := by decide +kernel
theorem dX8_init_5 : decode cX8_init 5 = .ok (.iconst (-1), 1) := by decide +kernel
theorem dX8_init_6 : decode cX8_init 6 = .ok (.putfield 7, 3) := by decide +kernel
theorem dX8_init_9 : decode cX8_init 9 = .ok (.return_, 1) := by decide +kernel
theorem dX8_look_0 : decode cX8_look 0 = .ok (.aload_n 0, 1) := by decide +kernel
theorem dX8_look_1 : decode cX8_look 1 = .ok (.getfield 7, 3) := by decide +kernel
theorem dX8_look_4 : decode cX8_look 4 = .ok (.aload_n 1, 1) := by decide +kernel
theorem dX8_look_5 : decode cX8_look 5 = .ok (.getfield 13, 3) := by decide +kernel
theorem dX8_look_8 : decode cX8_look 8 = .ok (.if_icmp .ne 4, 3) := by decide +kernel
theorem dX8_look_11 : decode cX8_look 11 = .ok (.return_, 1) := by decide +kernel
theorem dX8_look_12 : decode cX8_look 12 = .ok (.aload_n 0, 1) := by decide +kernel
theorem dX8_look_13 : decode cX8_look 13 = .ok (.aload_n 1, 1) := by decide +kernel
theorem dX8_look_14 : decode cX8_look 14 = .ok (.getfield 13, 3) := by decide +kernel
theorem dX8_look_17 : decode cX8_look 17 = .ok (.putfield 7, 3) := by decide +kernel
theorem dX8_look_20 : decode cX8_look 20 = .ok (.aload_n 0, 1) := by decide +kernel
theorem dX8_look_21 : decode cX8_look 21 = .ok (.aload_n 1, 1) := by decide +kernel
theorem dX8_look_22 : decode cX8_look 22 = .ok (.getfield 18, 3) := by decide +kernel
theorem dX8_look_25 : decode cX8_look 25 = .ok (.iconst 1, 1) := by decide +kernel
theorem dX8_look_26 : decode cX8_look 26 = .ok (.iadd, 1) := by decide +kernel
theorem dX8_look_27 : decode cX8_look 27 = .ok (.putfield 21, 3) := by decide +kernel
theorem dX8_look_30 : decode cX8_look 30 = .ok (.aload_n 0, 1) := by decide +kernel
theorem dX8_look_31 : decode cX8_look 31 = .ok (.iconst 0, 1) := by decide +kernel
theorem dX8_look_32 : decode cX8_look 32 = .ok (.putfield 24, 3) := by decide +kernel
theorem dX8_look_35 : decode cX8_look 35 = .ok (.iconst 0, 1) := by decide +kernel
theorem dX8_look_36 : decode cX8_look 36 = .ok (.istore_n 3, 1) := by decide +kernel
theorem dX8_look_37 : decode cX8_look 37 = .ok (.iload_n 3, 1) := by decide +kernel
theorem dX8_look_38 : decode cX8_look 38 = .ok (.aload_n 1, 1) := by decide +kernel
theorem dX8_look_39 : decode cX8_look 39 = .ok (.getfield 27, 3) := by decide +kernel
theorem dX8_look_42 : decode cX8_look 42 = .ok (.getfield 31, 3) := by decide +kernel
theorem dX8_look_45 : decode cX8_look 45 = .ok (.if_icmp .ge 80, 3) := by decide +kernel
theorem dX8_look_48 : decode cX8_look 48 = .ok (.aload_n 2, 1) := by decide +kernel
theorem dX8_look_49 : decode cX8_look 49 = .ok (.aload_n 1, 1) := by decide +kernel
theorem dX8_look_50 : decode cX8_look 50 = .ok (.aload_n 1, 1) := by decide +kernel
theorem dX8_look_51 : decode cX8_look 51 = .ok (.getfield 27, 3) := by decide +kernel
theorem dX8_look_54 : decode cX8_look 54 = .ok (.getfield 36, 3) := by decide +kernel
theorem dX8_look_57 : decode cX8_look 57 = .ok (.iload_n 3, 1) := by decide +kernel
theorem dX8_look_58 : decode cX8_look 58 = .ok (.iaload, 1) := by decide +kernel
theorem dX8_look_59 : decode cX8_look 59 = .ok (.aload_n 1, 1) := by decide +kernel
theorem dX8_look_60 : decode cX8_look 60 = .ok (.getfield 27, 3) := by decide +kernel
theorem dX8_look_63 : decode cX8_look 63 = .ok (.getfield 40, 3) := by decide +kernel
theorem dX8_look_66 : decode cX8_look 66 = .ok (.iload_n 3, 1) := by decide +kernel
theorem dX8_look_67 : decode cX8_look 67 = .ok (.iaload, 1) := by decide +kernel
theorem dX8_look_68 : decode cX8_look 68 = .ok (.invokevirtual 43, 3) := by decide +kernel
theorem dX8_look_71 : decode cX8_look 71 = .ok (.aload_n 2, 1) := by decide +kernel
theorem dX8_look_72 : decode cX8_look 72 = .ok (.getfield 49, 3) := by decide +kernel
theorem dX8_look_75 : decode cX8_look 75 = .ok (.aload_n 0, 1) := by decide +kernel
theorem dX8_look_76 : decode cX8_look 76 = .ok (.getfield 21, 3) := by decide +kernel
theorem dX8_look_79 : decode cX8_look 79 = .ok (.if_icmp .ge 16, 3) := by decide +kernel
theorem dX8_look_82 : decode cX8_look 82 = .ok (.aload_n 0, 1) := by decide +kernel
theorem dX8_look_83 : decode cX8_look 83 = .ok (.aload_n 2, 1) := by decide +kernel
theorem dX8_look_84 : decode cX8_look 84 = .ok (.getfield 49, 3) := by decide +kernel
theorem dX8_look_87 : decode cX8_look 87 = .ok (.putfield 21, 3) := by decide +kernel
theorem dX8_look_90 : decode cX8_look 90 = .ok (.aload_n 0, 1) := by decide +kernel
theorem dX8_look_91 : decode cX8_look 91 = .ok (.iload_n 3, 1) := by decide +kernel
theorem dX8_look_92 : decode cX8_look 92 = .ok (.putfield 52, 3) := by decide +kernel
theorem dX8_look_95 : decode cX8_look 95 = .ok (.aload_n 2, 1) := by decide +kernel
theorem dX8_look_96 : decode cX8_look 96 = .ok (.getfield 55, 3) := by decide +kernel
theorem dX8_look_99 : decode cX8_look 99 = .ok (.aload_n 0, 1) := by decide +kernel
theorem dX8_look_100 : decode cX8_look 100 = .ok (.getfield 24, 3) := by decide +kernel
theorem dX8_look_103 : decode cX8_look 103 = .ok (.if_icmp .le 16, 3) := by decide +kernel
theorem dX8_look_106 : decode cX8_look 106 = .ok (.aload_n 0, 1) := by decide +kernel
theorem dX8_look_107 : decode cX8_look 107 = .ok (.aload_n 2, 1) := by decide +kernel
theorem dX8_look_108 : decode cX8_look 108 = .ok (.getfield 55, 3) := by decide +kernel
theorem dX8_look_111 : decode cX8_look 111 = .ok (.putfield 24, 3) := by decide +kernel
theorem dX8_look_114 : decode cX8_look 114 = .ok (.aload_n 0, 1) := by decide +kernel
theorem dX8_look_115 : decode cX8_look 115 = .ok (.iload_n 3, 1) := by decide +kernel
theorem dX8_look_116 : decode cX8_look 116 = .ok (.putfield 58, 3) := by decide +kernel
theorem dX8_look_119 : decode cX8_look 119 = .ok (.iinc 3 1, 3) := by decide +kernel
theorem dX8_look_122 : decode cX8_look 122 = .ok (.goto (-85), 3) := by decide +kernel
theorem dX8_look_125 : decode cX8_look 125 = .ok (.return_, 1) := by decide +kernel
theorem dX9_init_0 : decode cX9_init 0 = .ok (.aload_n 0, 1) := by decide +kernel
theorem dX9_init_1 : decode cX9_init 1 = .ok (.invokespecial 3, 3) := by decide +kernel
theorem dX9_init_4 : decode cX9_init 4 = .ok (.aload_n 0, 1) := by decide +kernel
theorem dX9_init_5 : decode cX9_init 5 = .ok (.bipush 20, 2) := by decide +kernel
theorem dX9_init_7 : decode cX9_init 7 = .ok (.newarray .int, 2) := by decide +kernel
theorem dX9_init_9 : decode cX9_init 9 = .ok (.putfield 9, 3) := by decide +kernel
theorem dX9_init_12 : decode cX9_init 12 = .ok (.aload_n 0, 1) := by decide +kernel
theorem dX9_init_13 : decode cX9_init 13 = .ok (.bipush 20, 2) := by decide +kernel
theorem dX9_init_15 : decode cX9_init 15 = .ok (.newarray .int, 2) := by decide +kernel
theorem dX9_init_17 : decode cX9_init 17 = .ok (.putfield 15, 3) := by decide +kernel
theorem dX9_init_20 : decode cX9_init 20 = .ok (.aload_n 0, 1) := by decide +kernel
theorem dX9_init_21 : decode cX9_init 21 = .ok (.bipush 20, 2) := by decide +kernel
theorem dX9_init_23 : decode cX9_init 23 = .ok (.newarray .int, 2) := by decide +kernel
theorem dX9_init_25 : decode cX9_init 25 = .ok (.putfield 18, 3) := by decide +kernel
theorem dX9_init_28 : decode cX9_init 28 = .ok (.aload_n 0, 1) := by decide +kernel
theorem dX9_init_29 : decode cX9_init 29 = .ok (.bipush 20, 2) := by decide +kernel
theorem dX9_init_31 : decode cX9_init 31 = .ok (.newarray .int, 2) := by decide +kernel
theorem dX9_init_33 : decode cX9_init 33 = .ok (.putfield 21, 3) := by decide +kernel
theorem dX9_init_36 : decode cX9_init 36 = .ok (.aload_n 0, 1) := by decide +kernel
theorem dX9_init_37 : decode cX9_init 37 = .ok (.bipush 20, 2) := by decide +kernel
theorem dX9_init_39 : decode cX9_init 39 = .ok (.newarray .int, 2) := by decide +kernel
theorem dX9_init_41 : decode cX9_init 41 = .ok (.putfield 24, 3) := by decide +kernel
theorem dX9_init_44 : decode cX9_init 44 = .ok (.return_, 1) := by decide +kernel
theorem dX9_add_0 : decode cX9_add 0 = .ok (.aload_n 0, 1) := by decide +kernel
theorem dX9_add_1 : decode cX9_add 1 = .ok (.getfield 27, 3) := by decide +kernel
theorem dX9_add_4 : decode cX9_add 4 = .ok (.bipush 20, 2) := by decide +kernel
theorem dX9_add_6 : decode cX9_add 6 = .ok (.if_icmp .lt 4, 3) := by decide +kernel
theorem dX9_add_9 : decode cX9_add 9 = .ok (.return_, 1) := by decide +kernel
theorem dX9_add_10 : decode cX9_add 10 = .ok (.aload_n 0, 1) := by decide +kernel
theorem dX9_add_11 : decode cX9_add 11 = .ok (.getfield 9, 3) := by decide +kernel
theorem dX9_add_14 : decode cX9_add 14 = .ok (.aload_n 0, 1) := by decide +kernel
theorem dX9_add_15 : decode cX9_add 15 = .ok (.getfield 27, 3) := by decide +kernel
theorem dX9_add_18 : decode cX9_add 18 = .ok (.iload_n 1, 1) := by decide +kernel
theorem dX9_add_19 : decode cX9_add 19 = .ok (.iastore, 1) := by decide +kernel
theorem dX9_add_20 : decode cX9_add 20 = .ok (.aload_n 0, 1) := by decide +kernel
theorem dX9_add_21 : decode cX9_add 21 = .ok (.getfield 15, 3) := by decide +kernel
theorem dX9_add_24 : decode cX9_add 24 = .ok (.aload_n 0, 1) := by decide +kernel
theorem dX9_add_25 : decode cX9_add 25 = .ok (.getfield 27, 3) := by decide +kernel
theorem dX9_add_28 : decode cX9_add 28 = .ok (.iload_n 2, 1) := by decide +kernel
theorem dX9_add_29 : decode cX9_add 29 = .ok (.iastore, 1) := by decide +kernel
theorem dX9_add_30 : decode cX9_add 30 = .ok (.aload_n 0, 1) := by decide +kernel
theorem dX9_add_31 : decode cX9_add 31 = .ok (.getfield 18, 3) := by decide +kernel
theorem dX9_add_34 : decode cX9_add 34 = .ok (.aload_n 0, 1) := by decide +kernel
theorem dX9_add_35 : decode cX9_add 35 = .ok (.getfield 27, 3) := by decide +kernel
theorem dX9_add_38 : decode cX9_add 38 = .ok (.iload_n 3, 1) := by decide +kernel
theorem dX9_add_39 : decode cX9_add 39 = .ok (.iastore, 1) := by decide +kernel
theorem dX9_add_40 : decode cX9_add 40 = .ok (.aload_n 0, 1) := by decide +kernel
theorem dX9_add_41 : decode cX9_add 41 = .ok (.getfield 21, 3) := by decide +kernel
theorem dX9_add_44 : decode cX9_add 44 = .ok (.aload_n 0, 1) := by decide +kernel
theorem dX9_add_45 : decode cX9_add 45 = .ok (.getfield 27, 3) := by decide +kernel
theorem dX9_add_48 : decode cX9_add 48 = .ok (.iload 4, 2) := by decide +kernel
theorem dX9_add_50 : decode cX9_add 50 = .ok (.iastore, 1) := by decide +kernel
theorem dX9_add_51 : decode cX9_add 51 = .ok (.aload_n 0, 1) := by decide +kernel
theorem dX9_add_52 : decode cX9_add 52 = .ok (.getfield 24, 3) := by decide +kernel
theorem dX9_add_55 : decode cX9_add 55 = .ok (.aload_n 0, 1) := by decide +kernel
theorem dX9_add_56 : decode cX9_add 56 = .ok (.getfield 27, 3) := by decide +kernel
theorem dX9_add_59 : decode cX9_add 59 = .ok (.iload_n 2, 1) := by decide +kernel
theorem dX9_add_60 : decode cX9_add 60 = .ok (.ifCond .ge 7, 3) := by decide +kernel
theorem dX9_add_63 : decode cX9_add 63 = .ok (.iconst 1, 1) := by decide +kernel
theorem dX9_add_64 : decode cX9_add 64 = .ok (.goto 11, 3) := by decide +kernel
theorem dX9_add_67 : decode cX9_add 67 = .ok (.aload_n 0, 1) := by decide +kernel
theorem dX9_add_68 : decode cX9_add 68 = .ok (.getfield 24, 3) := by decide +kernel
theorem dX9_add_71 : decode cX9_add 71 = .ok (.iload_n 2, 1) := by decide +kernel
theorem dX9_add_72 : decode cX9_add 72 = .ok (.iaload, 1) := by decide +kernel
theorem dX9_add_73 : decode cX9_add 73 = .ok (.iconst 1, 1) := by decide +kernel
theorem dX9_add_74 : decode cX9_add 74 = .ok (.iadd, 1) := by decide +kernel
theorem dX9_add_75 : decode cX9_add 75 = .ok (.iastore, 1) := by decide +kernel
theorem dX9_add_76 : decode cX9_add 76 = .ok (.aload_n 0, 1) := by decide +kernel
theorem dX9_add_77 : decode cX9_add 77 = .ok (.dup, 1) := by decide +kernel
theorem dX9_add_78 : decode cX9_add 78 = .ok (.getfield 27, 3) := by decide +kernel
theorem dX9_add_81 : decode cX9_add 81 = .ok (.iconst 1, 1) := by decide +kernel
theorem dX9_add_82 : decode cX9_add 82 = .ok (.iadd, 1) := by decide +kernel
theorem dX9_add_83 : decode cX9_add 83 = .ok (.putfield 27, 3) := by decide +kernel
theorem dX9_add_86 : decode cX9_add 86 = .ok (.return_, 1) := by decide +kernel
theorem dX10_init_0 : decode cX10_init 0 = .ok (.aload_n 0, 1) := by decide +kernel
theorem dX10_init_1 : decode cX10_init 1 = .ok (.invokespecial 3, 3) := by decide +kernel
theorem dX10_init_4 : decode cX10_init 4 = .ok (.aload_n 0, 1) := by decide +kernel
theorem dX10_init_5 : decode cX10_init 5 = .ok (.iconst 4, 1) := by decide +kernel
theorem dX10_init_6 : decode cX10_init 6 = .ok (.newarray .int, 2) := by decide +kernel
theorem dX10_init_8 : decode cX10_init 8 = .ok (.putfield 9, 3) := by decide +kernel
theorem dX10_init_11 : decode cX10_init 11 = .ok (.aload_n 0, 1) := by decide +kernel
theorem dX10_init_12 : decode cX10_init 12 = .ok (.iconst 5, 1) := by decide +kernel
theorem dX10_init_13 : decode cX10_init 13 = .ok (.newarray .int, 2) := by decide +kernel
theorem dX10_init_15 : decode cX10_init 15 = .ok (.putfield 15, 3) := by decide +kernel
theorem dX10_init_18 : decode cX10_init 18 = .ok (.aload_n 0, 1) := by decide +kernel
theorem dX10_init_19 : decode cX10_init 19 = .ok (.iconst 4, 1) := by decide +kernel
theorem dX10_init_20 : decode cX10_init 20 = .ok (.newarray .int, 2) := by decide +kernel
theorem dX10_init_22 : decode cX10_init 22 = .ok (.putfield 18, 3) := by decide +kernel
theorem dX10_init_25 : decode cX10_init 25 = .ok (.aload_n 0, 1) := by decide +kernel
theorem dX10_init_26 : decode cX10_init 26 = .ok (.aload_n 1, 1) := by decide +kernel
theorem dX10_init_27 : decode cX10_init 27 = .ok (.putfield 21, 3) := by decide +kernel
theorem dX10_init_30 : decode cX10_init 30 = .ok (.return_, 1) := by decide +kernel
theorem dX10_leads_0 : decode cX10_leads 0 = .ok (.aload_n 0, 1) := by decide +kernel
theorem dX10_leads_1 : decode cX10_leads 1 = .ok (.invokevirtual 25, 3) := by decide +kernel
theorem dX10_leads_4 : decode cX10_leads 4 = .ok (.aload_n 0, 1) := by decide +kernel
theorem dX10_leads_5 : decode cX10_leads 5 = .ok (.getfield 9, 3) := by decide +kernel
theorem dX10_leads_8 : decode cX10_leads 8 = .ok (.aload_n 0, 1) := by decide +kernel
theorem dX10_leads_9 : decode cX10_leads 9 = .ok (.getfield 21, 3) := by decide +kernel
theorem dX10_leads_12 : decode cX10_leads 12 = .ok (.getfield 28, 3) := by decide +kernel
theorem dX10_leads_15 : decode cX10_leads 15 = .ok (.invokestatic 34, 3) := by decide +kernel
theorem dX10_leads_18 : decode cX10_leads 18 = .ok (.istore 4, 2) := by decide +kernel
theorem dX10_leads_20 : decode cX10_leads 20 = .ok (.iconst 0, 1) := by decide +kernel
theorem dX10_leads_21 : decode cX10_leads 21 = .ok (.istore 5, 2) := by decide +kernel
theorem dX10_leads_23 : decode cX10_leads 23 = .ok (.iload 5, 2) := by decide +kernel
theorem dX10_leads_25 : decode cX10_leads 25 = .ok (.iload 4, 2) := by decide +kernel
theorem dX10_leads_27 : decode cX10_leads 27 = .ok (.if_icmp .ge 88, 3) := by decide +kernel
theorem dX10_leads_30 : decode cX10_leads 30 = .ok (.aload_n 0, 1) := by decide +kernel
theorem dX10_leads_31 : decode cX10_leads 31 = .ok (.getfield 15, 3) := by decide +kernel
theorem dX10_leads_34 : decode cX10_leads 34 = .ok (.aload_n 0, 1) := by decide +kernel
theorem dX10_leads_35 : decode cX10_leads 35 = .ok (.getfield 21, 3) := by decide +kernel
theorem dX10_leads_38 : decode cX10_leads 38 = .ok (.getfield 38, 3) := by decide +kernel
theorem dX10_leads_41 : decode cX10_leads 41 = .ok (.invokestatic 34, 3) := by decide +kernel
theorem dX10_leads_44 : decode cX10_leads 44 = .ok (.istore 6, 2) := by decide +kernel
theorem dX10_leads_46 : decode cX10_leads 46 = .ok (.iconst 0, 1) := by decide +kernel
theorem dX10_leads_47 : decode cX10_leads 47 = .ok (.istore 7, 2) := by decide +kernel
theorem dX10_leads_49 : decode cX10_leads 49 = .ok (.iload 7, 2) := by decide +kernel
theorem dX10_leads_51 : decode cX10_leads 51 = .ok (.iload 6, 2) := by decide +kernel
theorem dX10_leads_53 : decode cX10_leads 53 = .ok (.if_icmp .ge 42, 3) := by decide +kernel
theorem dX10_leads_56 : decode cX10_leads 56 = .ok (.aload_n 0, 1) := by decide +kernel
theorem dX10_leads_57 : decode cX10_leads 57 = .ok (.iload_n 2, 1) := by decide +kernel
theorem dX10_leads_58 : decode cX10_leads 58 = .ok (.invokevirtual 41, 3) := by decide +kernel
theorem dX10_leads_61 : decode cX10_leads 61 = .ok (.iload_n 3, 1) := by decide +kernel
theorem dX10_leads_62 : decode cX10_leads 62 = .ok (.if_icmp .ne 13, 3) := by decide +kernel
theorem dX10_leads_65 : decode cX10_leads 65 = .ok (.aload_n 0, 1) := by decide +kernel
theorem dX10_leads_66 : decode cX10_leads 66 = .ok (.aload_n 1, 1) := by decide +kernel
theorem dX10_leads_67 : decode cX10_leads 67 = .ok (.invokevirtual 45, 3) := by decide +kernel
theorem dX10_leads_70 : decode cX10_leads 70 = .ok (.ifCond .eq 5, 3) := by decide +kernel
theorem dX10_leads_73 : decode cX10_leads 73 = .ok (.iconst 1, 1) := by decide +kernel
theorem dX10_leads_74 : decode cX10_leads 74 = .ok (.ireturn, 1) := by decide +kernel
theorem dX10_leads_75 : decode cX10_leads 75 = .ok (.aload_n 0, 1) := by decide +kernel
theorem dX10_leads_76 : decode cX10_leads 76 = .ok (.getfield 15, 3) := by decide +kernel
theorem dX10_leads_79 : decode cX10_leads 79 = .ok (.aload_n 0, 1) := by decide +kernel
theorem dX10_leads_80 : decode cX10_leads 80 = .ok (.getfield 21, 3) := by decide +kernel
theorem dX10_leads_83 : decode cX10_leads 83 = .ok (.getfield 38, 3) := by decide +kernel
theorem dX10_leads_86 : decode cX10_leads 86 = .ok (.invokestatic 49, 3) := by decide +kernel
theorem dX10_leads_89 : decode cX10_leads 89 = .ok (.iinc 7 1, 3) := by decide +kernel
theorem dX10_leads_92 : decode cX10_leads 92 = .ok (.goto (-43), 3) := by decide +kernel
theorem dX10_leads_95 : decode cX10_leads 95 = .ok (.aload_n 0, 1) := by decide +kernel
theorem dX10_leads_96 : decode cX10_leads 96 = .ok (.getfield 9, 3) := by decide +kernel
theorem dX10_leads_99 : decode cX10_leads 99 = .ok (.aload_n 0, 1) := by decide +kernel
theorem dX10_leads_100 : decode cX10_leads 100 = .ok (.getfield 21, 3) := by decide +kernel
theorem dX10_leads_103 : decode cX10_leads 103 = .ok (.getfield 28, 3) := by decide +kernel
theorem dX10_leads_106 : decode cX10_leads 106 = .ok (.invokestatic 49, 3) := by decide +kernel
theorem dX10_leads_109 : decode cX10_leads 109 = .ok (.iinc 5 1, 3) := by decide +kernel
theorem dX10_leads_112 : decode cX10_leads 112 = .ok (.goto (-89), 3) := by decide +kernel
theorem dX10_leads_115 : decode cX10_leads 115 = .ok (.iconst 0, 1) := by decide +kernel
theorem dX10_leads_116 : decode cX10_leads 116 = .ok (.ireturn, 1) := by decide +kernel
theorem dX10_weighPlaces_0 : decode cX10_weighPlaces 0 = .ok (.iconst 1, 1) := by decide +kernel
theorem dX10_weighPlaces_1 : decode cX10_weighPlaces 1 = .ok (.istore_n 1, 1) := by decide +kernel
theorem dX10_weighPlaces_2 : decode cX10_weighPlaces 2 = .ok (.aload_n 0, 1) := by decide +kernel
theorem dX10_weighPlaces_3 : decode cX10_weighPlaces 3 = .ok (.getfield 21, 3) := by decide +kernel
theorem dX10_weighPlaces_6 : decode cX10_weighPlaces 6 = .ok (.getfield 28, 3) := by decide +kernel
theorem dX10_weighPlaces_9 : decode cX10_weighPlaces 9 = .ok (.iconst 1, 1) := by decide +kernel
theorem dX10_weighPlaces_10 : decode cX10_weighPlaces 10 = .ok (.isub, 1) := by decide +kernel
theorem dX10_weighPlaces_11 : decode cX10_weighPlaces 11 = .ok (.istore_n 2, 1) := by decide +kernel
theorem dX10_weighPlaces_12 : decode cX10_weighPlaces 12 = .ok (.iload_n 2, 1) := by decide +kernel
theorem dX10_weighPlaces_13 : decode cX10_weighPlaces 13 = .ok (.ifCond .lt 26, 3) := by decide +kernel
theorem dX10_weighPlaces_16 : decode cX10_weighPlaces 16 = .ok (.aload_n 0, 1) := by decide +kernel
theorem dX10_weighPlaces_17 : decode cX10_weighPlaces 17 = .ok (.getfield 18, 3) := by decide +kernel
theorem dX10_weighPlaces_20 : decode cX10_weighPlaces 20 = .ok (.iload_n 2, 1) := by decide +kernel
theorem dX10_weighPlaces_21 : decode cX10_weighPlaces 21 = .ok (.iload_n 1, 1) := by decide +kernel
theorem dX10_weighPlaces_22 : decode cX10_weighPlaces 22 = .ok (.iastore, 1) := by decide +kernel
theorem dX10_weighPlaces_23 : decode cX10_weighPlaces 23 = .ok (.iload_n 1, 1) := by decide +kernel
theorem dX10_weighPlaces_24 : decode cX10_weighPlaces 24 = .ok (.aload_n 0, 1) := by decide +kernel
theorem dX10_weighPlaces_25 : decode cX10_weighPlaces 25 = .ok (.getfield 21, 3) := by decide +kernel
theorem dX10_weighPlaces_28 : decode cX10_weighPlaces 28 = .ok (.getfield 38, 3) := by decide +kernel
theorem dX10_weighPlaces_31 : decode cX10_weighPlaces 31 = .ok (.imul, 1) := by decide +kernel
theorem dX10_weighPlaces_32 : decode cX10_weighPlaces 32 = .ok (.istore_n 1, 1) := by decide +kernel
theorem dX10_weighPlaces_33 : decode cX10_weighPlaces 33 = .ok (.iinc 2 (-1), 3) := by decide +kernel
theorem dX10_weighPlaces_36 : decode cX10_weighPlaces 36 = .ok (.goto (-24), 3) := by decide +kernel
theorem dX10_weighPlaces_39 : decode cX10_weighPlaces 39 = .ok (.return_, 1) := by decide +kernel
theorem dX10_imageOf_0 : decode cX10_imageOf 0 = .ok (.iconst 0, 1) := by decide +kernel
theorem dX10_imageOf_1 : decode cX10_imageOf 1 = .ok (.istore_n 2, 1) := by decide +kernel
theorem dX10_imageOf_2 : decode cX10_imageOf 2 = .ok (.iconst 0, 1) := by decide +kernel
theorem dX10_imageOf_3 : decode cX10_imageOf 3 = .ok (.istore_n 3, 1) := by decide +kernel
theorem dX10_imageOf_4 : decode cX10_imageOf 4 = .ok (.iload_n 3, 1) := by decide +kernel
theorem dX10_imageOf_5 : decode cX10_imageOf 5 = .ok (.aload_n 0, 1) := by decide +kernel
theorem dX10_imageOf_6 : decode cX10_imageOf 6 = .ok (.getfield 21, 3) := by decide +kernel
theorem dX10_imageOf_9 : decode cX10_imageOf 9 = .ok (.getfield 28, 3) := by decide +kernel
theorem dX10_imageOf_12 : decode cX10_imageOf 12 = .ok (.if_icmp .ge 38, 3) := by decide +kernel
theorem dX10_imageOf_15 : decode cX10_imageOf 15 = .ok (.iload_n 2, 1) := by decide +kernel
theorem dX10_imageOf_16 : decode cX10_imageOf 16 = .ok (.aload_n 0, 1) := by decide +kernel
theorem dX10_imageOf_17 : decode cX10_imageOf 17 = .ok (.getfield 18, 3) := by decide +kernel
theorem dX10_imageOf_20 : decode cX10_imageOf 20 = .ok (.aload_n 0, 1) := by decide +kernel
theorem dX10_imageOf_21 : decode cX10_imageOf 21 = .ok (.getfield 9, 3) := by decide +kernel
theorem dX10_imageOf_24 : decode cX10_imageOf 24 = .ok (.iload_n 3, 1) := by decide +kernel
theorem dX10_imageOf_25 : decode cX10_imageOf 25 = .ok (.iaload, 1) := by decide +kernel
theorem dX10_imageOf_26 : decode cX10_imageOf 26 = .ok (.iaload, 1) := by decide +kernel
theorem dX10_imageOf_27 : decode cX10_imageOf 27 = .ok (.aload_n 0, 1) := by decide +kernel
theorem dX10_imageOf_28 : decode cX10_imageOf 28 = .ok (.getfield 15, 3) := by decide +kernel
theorem dX10_imageOf_31 : decode cX10_imageOf 31 = .ok (.aload_n 0, 1) := by decide +kernel
theorem dX10_imageOf_32 : decode cX10_imageOf 32 = .ok (.getfield 21, 3) := by decide +kernel
theorem dX10_imageOf_35 : decode cX10_imageOf 35 = .ok (.iload_n 1, 1) := by decide +kernel
theorem dX10_imageOf_36 : decode cX10_imageOf 36 = .ok (.iload_n 3, 1) := by decide +kernel
theorem dX10_imageOf_37 : decode cX10_imageOf 37 = .ok (.invokevirtual 53, 3) := by decide +kernel
theorem dX10_imageOf_40 : decode cX10_imageOf 40 = .ok (.iaload, 1) := by decide +kernel
theorem dX10_imageOf_41 : decode cX10_imageOf 41 = .ok (.imul, 1) := by decide +kernel
theorem dX10_imageOf_42 : decode cX10_imageOf 42 = .ok (.iadd, 1) := by decide +kernel
theorem dX10_imageOf_43 : decode cX10_imageOf 43 = .ok (.istore_n 2, 1) := by decide +kernel
theorem dX10_imageOf_44 : decode cX10_imageOf 44 = .ok (.iinc 3 1, 3) := by decide +kernel
theorem dX10_imageOf_47 : decode cX10_imageOf 47 = .ok (.goto (-43), 3) := by decide +kernel
theorem dX10_imageOf_50 : decode cX10_imageOf 50 = .ok (.iload_n 2, 1) := by decide +kernel
theorem dX10_imageOf_51 : decode cX10_imageOf 51 = .ok (.ireturn, 1) := by decide +kernel
theorem dX10_keepsLeft_0 : decode cX10_keepsLeft 0 = .ok (.iconst 0, 1) := by decide +kernel
theorem dX10_keepsLeft_1 : decode cX10_keepsLeft 1 = .ok (.istore_n 2, 1) := by decide +kernel
theorem dX10_keepsLeft_2 : decode cX10_keepsLeft 2 = .ok (.iload_n 2, 1) := by decide +kernel
theorem dX10_keepsLeft_3 : decode cX10_keepsLeft 3 = .ok (.aload_n 1, 1) := by decide +kernel
theorem dX10_keepsLeft_4 : decode cX10_keepsLeft 4 = .ok (.getfield 57, 3) := by decide +kernel
theorem dX10_keepsLeft_7 : decode cX10_keepsLeft 7 = .ok (.if_icmp .ge 28, 3) := by decide +kernel
theorem dX10_keepsLeft_10 : decode cX10_keepsLeft 10 = .ok (.aload_n 1, 1) := by decide +kernel
theorem dX10_keepsLeft_11 : decode cX10_keepsLeft 11 = .ok (.aload_n 0, 1) := by decide +kernel
theorem dX10_keepsLeft_12 : decode cX10_keepsLeft 12 = .ok (.aload_n 1, 1) := by decide +kernel
theorem dX10_keepsLeft_13 : decode cX10_keepsLeft 13 = .ok (.getfield 62, 3) := by decide +kernel
theorem dX10_keepsLeft_16 : decode cX10_keepsLeft 16 = .ok (.iload_n 2, 1) := by decide +kernel
theorem dX10_keepsLeft_17 : decode cX10_keepsLeft 17 = .ok (.iaload, 1) := by decide +kernel
theorem dX10_keepsLeft_18 : decode cX10_keepsLeft 18 = .ok (.invokevirtual 41, 3) := by decide +kernel
theorem dX10_keepsLeft_21 : decode cX10_keepsLeft 21 = .ok (.invokevirtual 65, 3) := by decide +kernel
theorem dX10_keepsLeft_24 : decode cX10_keepsLeft 24 = .ok (.ifCond .ne 5, 3) := by decide +kernel
theorem dX10_keepsLeft_27 : decode cX10_keepsLeft 27 = .ok (.iconst 0, 1) := by decide +kernel
theorem dX10_keepsLeft_28 : decode cX10_keepsLeft 28 = .ok (.ireturn, 1) := by decide +kernel
theorem dX10_keepsLeft_29 : decode cX10_keepsLeft 29 = .ok (.iinc 2 1, 3) := by decide +kernel
theorem dX10_keepsLeft_32 : decode cX10_keepsLeft 32 = .ok (.goto (-30), 3) := by decide +kernel
theorem dX10_keepsLeft_35 : decode cX10_keepsLeft 35 = .ok (.iconst 1, 1) := by decide +kernel
theorem dX10_keepsLeft_36 : decode cX10_keepsLeft 36 = .ok (.ireturn, 1) := by decide +kernel
theorem dX10_startOrders_0 : decode cX10_startOrders 0 = .ok (.iconst 1, 1) := by decide +kernel
theorem dX10_startOrders_1 : decode cX10_startOrders 1 = .ok (.istore_n 2, 1) := by decide +kernel
theorem dX10_startOrders_2 : decode cX10_startOrders 2 = .ok (.iconst 0, 1) := by decide +kernel
theorem dX10_startOrders_3 : decode cX10_startOrders 3 = .ok (.istore_n 3, 1) := by decide +kernel
theorem dX10_startOrders_4 : decode cX10_startOrders 4 = .ok (.iload_n 3, 1) := by decide +kernel
theorem dX10_startOrders_5 : decode cX10_startOrders 5 = .ok (.iload_n 1, 1) := by decide +kernel
theorem dX10_startOrders_6 : decode cX10_startOrders 6 = .ok (.if_icmp .ge 19, 3) := by decide +kernel
theorem dX10_startOrders_9 : decode cX10_startOrders 9 = .ok (.aload_n 0, 1) := by decide +kernel
theorem dX10_startOrders_10 : decode cX10_startOrders 10 = .ok (.iload_n 3, 1) := by decide +kernel
theorem dX10_startOrders_11 : decode cX10_startOrders 11 = .ok (.iload_n 3, 1) := by decide +kernel
theorem dX10_startOrders_12 : decode cX10_startOrders 12 = .ok (.iastore, 1) := by decide +kernel
theorem dX10_startOrders_13 : decode cX10_startOrders 13 = .ok (.iload_n 2, 1) := by decide +kernel
theorem dX10_startOrders_14 : decode cX10_startOrders 14 = .ok (.iload_n 3, 1) := by decide +kernel
theorem dX10_startOrders_15 : decode cX10_startOrders 15 = .ok (.iconst 1, 1) := by decide +kernel
theorem dX10_startOrders_16 : decode cX10_startOrders 16 = .ok (.iadd, 1) := by decide +kernel
theorem dX10_startOrders_17 : decode cX10_startOrders 17 = .ok (.imul, 1) := by decide +kernel
theorem dX10_startOrders_18 : decode cX10_startOrders 18 = .ok (.istore_n 2, 1) := by decide +kernel
theorem dX10_startOrders_19 : decode cX10_startOrders 19 = .ok (.iinc 3 1, 3) := by decide +kernel
theorem dX10_startOrders_22 : decode cX10_startOrders 22 = .ok (.goto (-18), 3) := by decide +kernel
theorem dX10_startOrders_25 : decode cX10_startOrders 25 = .ok (.iload_n 2, 1) := by decide +kernel
theorem dX10_startOrders_26 : decode cX10_startOrders 26 = .ok (.ireturn, 1) := by decide +kernel
theorem dX10_stepOrder_0 : decode cX10_stepOrder 0 = .ok (.iload_n 1, 1) := by decide +kernel
theorem dX10_stepOrder_1 : decode cX10_stepOrder 1 = .ok (.iconst 2, 1) := by decide +kernel
theorem dX10_stepOrder_2 : decode cX10_stepOrder 2 = .ok (.isub, 1) := by decide +kernel
theorem dX10_stepOrder_3 : decode cX10_stepOrder 3 = .ok (.istore_n 2, 1) := by decide +kernel
theorem dX10_stepOrder_4 : decode cX10_stepOrder 4 = .ok (.iload_n 2, 1) := by decide +kernel
theorem dX10_stepOrder_5 : decode cX10_stepOrder 5 = .ok (.ifCond .lt 20, 3) := by decide +kernel
theorem dX10_stepOrder_8 : decode cX10_stepOrder 8 = .ok (.aload_n 0, 1) := by decide +kernel
theorem dX10_stepOrder_9 : decode cX10_stepOrder 9 = .ok (.iload_n 2, 1) := by decide +kernel
theorem dX10_stepOrder_10 : decode cX10_stepOrder 10 = .ok (.iaload, 1) := by decide +kernel
theorem dX10_stepOrder_11 : decode cX10_stepOrder 11 = .ok (.aload_n 0, 1) := by decide +kernel
theorem dX10_stepOrder_12 : decode cX10_stepOrder 12 = .ok (.iload_n 2, 1) := by decide +kernel
theorem dX10_stepOrder_13 : decode cX10_stepOrder 13 = .ok (.iconst 1, 1) := by decide +kernel
theorem dX10_stepOrder_14 : decode cX10_stepOrder 14 = .ok (.iadd, 1) := by decide +kernel
theorem dX10_stepOrder_15 : decode cX10_stepOrder 15 = .ok (.iaload, 1) := by decide +kernel
theorem dX10_stepOrder_16 : decode cX10_stepOrder 16 = .ok (.if_icmp .le 9, 3) := by decide +kernel
theorem dX10_stepOrder_19 : decode cX10_stepOrder 19 = .ok (.iinc 2 (-1), 3) := by decide +kernel
theorem dX10_stepOrder_22 : decode cX10_stepOrder 22 = .ok (.goto (-18), 3) := by decide +kernel
theorem dX10_stepOrder_25 : decode cX10_stepOrder 25 = .ok (.iload_n 2, 1) := by decide +kernel
theorem dX10_stepOrder_26 : decode cX10_stepOrder 26 = .ok (.ifCond .ge 4, 3) := by decide +kernel
theorem dX10_stepOrder_29 : decode cX10_stepOrder 29 = .ok (.return_, 1) := by decide +kernel
theorem dX10_stepOrder_30 : decode cX10_stepOrder 30 = .ok (.iload_n 1, 1) := by decide +kernel
theorem dX10_stepOrder_31 : decode cX10_stepOrder 31 = .ok (.iconst 1, 1) := by decide +kernel
theorem dX10_stepOrder_32 : decode cX10_stepOrder 32 = .ok (.isub, 1) := by decide +kernel
theorem dX10_stepOrder_33 : decode cX10_stepOrder 33 = .ok (.istore_n 3, 1) := by decide +kernel
theorem dX10_stepOrder_34 : decode cX10_stepOrder 34 = .ok (.iload_n 3, 1) := by decide +kernel
theorem dX10_stepOrder_35 : decode cX10_stepOrder 35 = .ok (.iload_n 2, 1) := by decide +kernel
theorem dX10_stepOrder_36 : decode cX10_stepOrder 36 = .ok (.if_icmp .le 18, 3) := by decide +kernel
theorem dX10_stepOrder_39 : decode cX10_stepOrder 39 = .ok (.aload_n 0, 1) := by decide +kernel
theorem dX10_stepOrder_40 : decode cX10_stepOrder 40 = .ok (.iload_n 3, 1) := by decide +kernel
theorem dX10_stepOrder_41 : decode cX10_stepOrder 41 = .ok (.iaload, 1) := by decide +kernel
theorem dX10_stepOrder_42 : decode cX10_stepOrder 42 = .ok (.aload_n 0, 1) := by decide +kernel
theorem dX10_stepOrder_43 : decode cX10_stepOrder 43 = .ok (.iload_n 2, 1) := by decide +kernel
theorem dX10_stepOrder_44 : decode cX10_stepOrder 44 = .ok (.iaload, 1) := by decide +kernel
theorem dX10_stepOrder_45 : decode cX10_stepOrder 45 = .ok (.if_icmp .ge 9, 3) := by decide +kernel
theorem dX10_stepOrder_48 : decode cX10_stepOrder 48 = .ok (.iinc 3 (-1), 3) := by decide +kernel
theorem dX10_stepOrder_51 : decode cX10_stepOrder 51 = .ok (.goto (-17), 3) := by decide +kernel
theorem dX10_stepOrder_54 : decode cX10_stepOrder 54 = .ok (.aload_n 0, 1) := by decide +kernel
theorem dX10_stepOrder_55 : decode cX10_stepOrder 55 = .ok (.iload_n 2, 1) := by decide +kernel
theorem dX10_stepOrder_56 : decode cX10_stepOrder 56 = .ok (.iload_n 3, 1) := by decide +kernel
theorem dX10_stepOrder_57 : decode cX10_stepOrder 57 = .ok (.invokestatic 69, 3) := by decide +kernel
theorem dX10_stepOrder_60 : decode cX10_stepOrder 60 = .ok (.iload_n 2, 1) := by decide +kernel
theorem dX10_stepOrder_61 : decode cX10_stepOrder 61 = .ok (.iconst 1, 1) := by decide +kernel
theorem dX10_stepOrder_62 : decode cX10_stepOrder 62 = .ok (.iadd, 1) := by decide +kernel
theorem dX10_stepOrder_63 : decode cX10_stepOrder 63 = .ok (.istore 4, 2) := by decide +kernel
theorem dX10_stepOrder_65 : decode cX10_stepOrder 65 = .ok (.iload_n 1, 1) := by decide +kernel
theorem dX10_stepOrder_66 : decode cX10_stepOrder 66 = .ok (.iconst 1, 1) := by decide +kernel
theorem dX10_stepOrder_67 : decode cX10_stepOrder 67 = .ok (.isub, 1) := by decide +kernel
theorem dX10_stepOrder_68 : decode cX10_stepOrder 68 = .ok (.istore 5, 2) := by decide +kernel
theorem dX10_stepOrder_70 : decode cX10_stepOrder 70 = .ok (.iload 4, 2) := by decide +kernel
theorem dX10_stepOrder_72 : decode cX10_stepOrder 72 = .ok (.iload 5, 2) := by decide +kernel
theorem dX10_stepOrder_74 : decode cX10_stepOrder 74 = .ok (.if_icmp .ge 20, 3) := by decide +kernel
theorem dX10_stepOrder_77 : decode cX10_stepOrder 77 = .ok (.aload_n 0, 1) := by decide +kernel
theorem dX10_stepOrder_78 : decode cX10_stepOrder 78 = .ok (.iload 4, 2) := by decide +kernel
theorem dX10_stepOrder_80 : decode cX10_stepOrder 80 = .ok (.iload 5, 2) := by decide +kernel
theorem dX10_stepOrder_82 : decode cX10_stepOrder 82 = .ok (.invokestatic 69, 3) := by decide +kernel
theorem dX10_stepOrder_85 : decode cX10_stepOrder 85 = .ok (.iinc 4 1, 3) := by decide +kernel
theorem dX10_stepOrder_88 : decode cX10_stepOrder 88 = .ok (.iinc 5 (-1), 3) := by decide +kernel
theorem dX10_stepOrder_91 : decode cX10_stepOrder 91 = .ok (.goto (-21), 3) := by decide +kernel
theorem dX10_stepOrder_94 : decode cX10_stepOrder 94 = .ok (.return_, 1) := by decide +kernel
theorem dX10_exchange_0 : decode cX10_exchange 0 = .ok (.aload_n 0, 1) := by decide +kernel
theorem dX10_exchange_1 : decode cX10_exchange 1 = .ok (.iload_n 1, 1) := by decide +kernel
theorem dX10_exchange_2 : decode cX10_exchange 2 = .ok (.iaload, 1) := by decide +kernel
theorem dX10_exchange_3 : decode cX10_exchange 3 = .ok (.istore_n 3, 1) := by decide +kernel
theorem dX10_exchange_4 : decode cX10_exchange 4 = .ok (.aload_n 0, 1) := by decide +kernel
theorem dX10_exchange_5 : decode cX10_exchange 5 = .ok (.iload_n 1, 1) := by decide +kernel
theorem dX10_exchange_6 : decode cX10_exchange 6 = .ok (.aload_n 0, 1) := by decide +kernel
theorem dX10_exchange_7 : decode cX10_exchange 7 = .ok (.iload_n 2, 1) := by decide +kernel
theorem dX10_exchange_8 : decode cX10_exchange 8 = .ok (.iaload, 1) := by decide +kernel
theorem dX10_exchange_9 : decode cX10_exchange 9 = .ok (.iastore, 1) := by decide +kernel
theorem dX10_exchange_10 : decode cX10_exchange 10 = .ok (.aload_n 0, 1) := by decide +kernel
theorem dX10_exchange_11 : decode cX10_exchange 11 = .ok (.iload_n 2, 1) := by decide +kernel
theorem dX10_exchange_12 : decode cX10_exchange 12 = .ok (.iload_n 3, 1) := by decide +kernel
theorem dX10_exchange_13 : decode cX10_exchange 13 = .ok (.iastore, 1) := by decide +kernel
theorem dX10_exchange_14 : decode cX10_exchange 14 = .ok (.return_, 1) := by decide +kernel
theorem dX11_init_0 : decode cX11_init 0 = .ok (.aload_n 0, 1) := by decide +kernel
theorem dX11_init_1 : decode cX11_init 1 = .ok (.invokespecial 3, 3) := by decide +kernel
theorem dX11_init_4 : decode cX11_init 4 = .ok (.aload_n 0, 1) := by decide +kernel
theorem dX11_init_5 : decode cX11_init 5 = .ok (.new 9, 3) := by decide +kernel
theorem dX11_init_8 : decode cX11_init 8 = .ok (.dup, 1) := by decide +kernel
theorem dX11_init_9 : decode cX11_init 9 = .ok (.invokespecial 11, 3) := by decide +kernel
theorem dX11_init_12 : decode cX11_init 12 = .ok (.putfield 12, 3) := by decide +kernel
theorem dX11_init_15 : decode cX11_init 15 = .ok (.aload_n 0, 1) := by decide +kernel
theorem dX11_init_16 : decode cX11_init 16 = .ok (.new 16, 3) := by decide +kernel
theorem dX11_init_19 : decode cX11_init 19 = .ok (.dup, 1) := by decide +kernel
theorem dX11_init_20 : decode cX11_init 20 = .ok (.aload_n 0, 1) := by decide +kernel
theorem dX11_init_21 : decode cX11_init 21 = .ok (.getfield 12, 3) := by decide +kernel
theorem dX11_init_24 : decode cX11_init 24 = .ok (.invokespecial 18, 3) := by decide +kernel
theorem dX11_init_27 : decode cX11_init 27 = .ok (.putfield 21, 3) := by decide +kernel
theorem dX11_init_30 : decode cX11_init 30 = .ok (.aload_n 0, 1) := by decide +kernel
theorem dX11_init_31 : decode cX11_init 31 = .ok (.new 25, 3) := by decide +kernel
theorem dX11_init_34 : decode cX11_init 34 = .ok (.dup, 1) := by decide +kernel
theorem dX11_init_35 : decode cX11_init 35 = .ok (.invokespecial 27, 3) := by decide +kernel
theorem dX11_init_38 : decode cX11_init 38 = .ok (.putfield 28, 3) := by decide +kernel
theorem dX11_init_41 : decode cX11_init 41 = .ok (.aload_n 0, 1) := by decide +kernel
theorem dX11_init_42 : decode cX11_init 42 = .ok (.new 32, 3) := by decide +kernel
theorem dX11_init_45 : decode cX11_init 45 = .ok (.dup, 1) := by decide +kernel
theorem dX11_init_46 : decode cX11_init 46 = .ok (.invokespecial 34, 3) := by decide +kernel
theorem dX11_init_49 : decode cX11_init 49 = .ok (.putfield 35, 3) := by decide +kernel
theorem dX11_init_52 : decode cX11_init 52 = .ok (.aload_n 0, 1) := by decide +kernel
theorem dX11_init_53 : decode cX11_init 53 = .ok (.new 39, 3) := by decide +kernel
theorem dX11_init_56 : decode cX11_init 56 = .ok (.dup, 1) := by decide +kernel
theorem dX11_init_57 : decode cX11_init 57 = .ok (.invokespecial 41, 3) := by decide +kernel
theorem dX11_init_60 : decode cX11_init 60 = .ok (.putfield 42, 3) := by decide +kernel
theorem dX11_init_63 : decode cX11_init 63 = .ok (.aload_n 0, 1) := by decide +kernel
theorem dX11_init_64 : decode cX11_init 64 = .ok (.new 46, 3) := by decide +kernel
theorem dX11_init_67 : decode cX11_init 67 = .ok (.dup, 1) := by decide +kernel
theorem dX11_init_68 : decode cX11_init 68 = .ok (.aload_n 0, 1) := by decide +kernel
theorem dX11_init_69 : decode cX11_init 69 = .ok (.getfield 12, 3) := by decide +kernel
theorem dX11_init_72 : decode cX11_init 72 = .ok (.invokespecial 48, 3) := by decide +kernel
theorem dX11_init_75 : decode cX11_init 75 = .ok (.putfield 49, 3) := by decide +kernel
theorem dX11_init_78 : decode cX11_init 78 = .ok (.aload_n 0, 1) := by decide +kernel
theorem dX11_init_79 : decode cX11_init 79 = .ok (.new 53, 3) := by decide +kernel
theorem dX11_init_82 : decode cX11_init 82 = .ok (.dup, 1) := by decide +kernel
theorem dX11_init_83 : decode cX11_init 83 = .ok (.aload_n 0, 1) := by decide +kernel
theorem dX11_init_84 : decode cX11_init 84 = .ok (.getfield 12, 3) := by decide +kernel
theorem dX11_init_87 : decode cX11_init 87 = .ok (.iconst 1, 1) := by decide +kernel
theorem dX11_init_88 : decode cX11_init 88 = .ok (.invokespecial 55, 3) := by decide +kernel
theorem dX11_init_91 : decode cX11_init 91 = .ok (.putfield 58, 3) := by decide +kernel
theorem dX11_init_94 : decode cX11_init 94 = .ok (.aload_n 0, 1) := by decide +kernel
theorem dX11_init_95 : decode cX11_init 95 = .ok (.new 53, 3) := by decide +kernel
theorem dX11_init_98 : decode cX11_init 98 = .ok (.dup, 1) := by decide +kernel
theorem dX11_init_99 : decode cX11_init 99 = .ok (.aload_n 0, 1) := by decide +kernel
theorem dX11_init_100 : decode cX11_init 100 = .ok (.getfield 12, 3) := by decide +kernel
theorem dX11_init_103 : decode cX11_init 103 = .ok (.iconst 0, 1) := by decide +kernel
theorem dX11_init_104 : decode cX11_init 104 = .ok (.invokespecial 55, 3) := by decide +kernel
theorem dX11_init_107 : decode cX11_init 107 = .ok (.putfield 62, 3) := by decide +kernel
theorem dX11_init_110 : decode cX11_init 110 = .ok (.aload_n 0, 1) := by decide +kernel
theorem dX11_init_111 : decode cX11_init 111 = .ok (.new 65, 3) := by decide +kernel
theorem dX11_init_114 : decode cX11_init 114 = .ok (.dup, 1) := by decide +kernel
theorem dX11_init_115 : decode cX11_init 115 = .ok (.invokespecial 67, 3) := by decide +kernel
theorem dX11_init_118 : decode cX11_init 118 = .ok (.putfield 68, 3) := by decide +kernel
theorem dX11_init_121 : decode cX11_init 121 = .ok (.aload_n 0, 1) := by decide +kernel
theorem dX11_init_122 : decode cX11_init 122 = .ok (.new 72, 3) := by decide +kernel
theorem dX11_init_125 : decode cX11_init 125 = .ok (.dup, 1) := by decide +kernel
theorem dX11_init_126 : decode cX11_init 126 = .ok (.invokespecial 74, 3) := by decide +kernel
theorem dX11_init_129 : decode cX11_init 129 = .ok (.putfield 75, 3) := by decide +kernel
theorem dX11_init_132 : decode cX11_init 132 = .ok (.aload_n 0, 1) := by decide +kernel
theorem dX11_init_133 : decode cX11_init 133 = .ok (.bipush 6, 2) := by decide +kernel
theorem dX11_init_135 : decode cX11_init 135 = .ok (.anewarray 79, 3) := by decide +kernel
theorem dX11_init_138 : decode cX11_init 138 = .ok (.putfield 81, 3) := by decide +kernel
theorem dX11_init_141 : decode cX11_init 141 = .ok (.iconst 0, 1) := by decide +kernel
theorem dX11_init_142 : decode cX11_init 142 = .ok (.istore_n 1, 1) := by decide +kernel
theorem dX11_init_143 : decode cX11_init 143 = .ok (.iload_n 1, 1) := by decide +kernel
theorem dX11_init_144 : decode cX11_init 144 = .ok (.bipush 6, 2) := by decide +kernel
theorem dX11_init_146 : decode cX11_init 146 = .ok (.if_icmp .ge 22, 3) := by decide +kernel
theorem dX11_init_149 : decode cX11_init 149 = .ok (.aload_n 0, 1) := by decide +kernel
theorem dX11_init_150 : decode cX11_init 150 = .ok (.getfield 81, 3) := by decide +kernel
theorem dX11_init_153 : decode cX11_init 153 = .ok (.iload_n 1, 1) := by decide +kernel
theorem dX11_init_154 : decode cX11_init 154 = .ok (.new 79, 3) := by decide +kernel
theorem dX11_init_157 : decode cX11_init 157 = .ok (.dup, 1) := by decide +kernel
theorem dX11_init_158 : decode cX11_init 158 = .ok (.invokespecial 85, 3) := by decide +kernel
theorem dX11_init_161 : decode cX11_init 161 = .ok (.aastore, 1) := by decide +kernel
theorem dX11_init_162 : decode cX11_init 162 = .ok (.iinc 1 1, 3) := by decide +kernel
theorem dX11_init_165 : decode cX11_init 165 = .ok (.goto (-22), 3) := by decide +kernel
theorem dX11_init_168 : decode cX11_init 168 = .ok (.aload_n 0, 1) := by decide +kernel
theorem dX11_init_169 : decode cX11_init 169 = .ok (.iconst 3, 1) := by decide +kernel
theorem dX11_init_170 : decode cX11_init 170 = .ok (.iconst 4, 1) := by decide +kernel
theorem dX11_init_171 : decode cX11_init 171 = .ok (.invokevirtual 86, 3) := by decide +kernel
theorem dX11_init_174 : decode cX11_init 174 = .ok (.return_, 1) := by decide +kernel
theorem dX11_begin_0 : decode cX11_begin 0 = .ok (.iload_n 1, 1) := by decide +kernel
theorem dX11_begin_1 : decode cX11_begin 1 = .ok (.iconst 1, 1) := by decide +kernel
theorem dX11_begin_2 : decode cX11_begin 2 = .ok (.if_icmp .lt 19, 3) := by decide +kernel
theorem dX11_begin_5 : decode cX11_begin 5 = .ok (.iload_n 1, 1) := by decide +kernel
theorem dX11_begin_6 : decode cX11_begin 6 = .ok (.iconst 5, 1) := by decide +kernel
theorem dX11_begin_7 : decode cX11_begin 7 = .ok (.if_icmp .gt 14, 3) := by decide +kernel
theorem dX11_begin_10 : decode cX11_begin 10 = .ok (.iload_n 2, 1) := by decide +kernel
theorem dX11_begin_11 : decode cX11_begin 11 = .ok (.iconst 1, 1) := by decide +kernel
theorem dX11_begin_12 : decode cX11_begin 12 = .ok (.if_icmp .lt 9, 3) := by decide +kernel
theorem dX11_begin_15 : decode cX11_begin 15 = .ok (.iload_n 2, 1) := by decide +kernel
theorem dX11_begin_16 : decode cX11_begin 16 = .ok (.bipush 8, 2) := by decide +kernel
theorem dX11_begin_18 : decode cX11_begin 18 = .ok (.if_icmp .le 5, 3) := by decide +kernel
theorem dX11_begin_21 : decode cX11_begin 21 = .ok (.iconst (-1), 1) := by decide +kernel
theorem dX11_begin_22 : decode cX11_begin 22 = .ok (.ireturn, 1) := by decide +kernel
theorem dX11_begin_23 : decode cX11_begin 23 = .ok (.iload_n 1, 1) := by decide +kernel
theorem dX11_begin_24 : decode cX11_begin 24 = .ok (.iload_n 2, 1) := by decide +kernel
theorem dX11_begin_25 : decode cX11_begin 25 = .ok (.invokestatic 90, 3) := by decide +kernel
theorem dX11_begin_28 : decode cX11_begin 28 = .ok (.sipush 4096, 3) := by decide +kernel
theorem dX11_begin_31 : decode cX11_begin 31 = .ok (.if_icmp .le 6, 3) := by decide +kernel
theorem dX11_begin_34 : decode cX11_begin 34 = .ok (.bipush (-5), 2) := by decide +kernel
theorem dX11_begin_36 : decode cX11_begin 36 = .ok (.ireturn, 1) := by decide +kernel
theorem dX11_begin_37 : decode cX11_begin 37 = .ok (.aload_n 0, 1) := by decide +kernel
theorem dX11_begin_38 : decode cX11_begin 38 = .ok (.iload_n 1, 1) := by decide +kernel
theorem dX11_begin_39 : decode cX11_begin 39 = .ok (.iload_n 2, 1) := by decide +kernel
theorem dX11_begin_40 : decode cX11_begin 40 = .ok (.invokevirtual 86, 3) := by decide +kernel
theorem dX11_begin_43 : decode cX11_begin 43 = .ok (.aload_n 0, 1) := by decide +kernel
theorem dX11_begin_44 : decode cX11_begin 44 = .ok (.getfield 12, 3) := by decide +kernel
theorem dX11_begin_47 : decode cX11_begin 47 = .ok (.getfield 94, 3) := by decide +kernel
theorem dX11_begin_50 : decode cX11_begin 50 = .ok (.ireturn, 1) := by decide +kernel
theorem dX11_startAnew_0 : decode cX11_startAnew 0 = .ok (.aload_n 0, 1) := by decide +kernel
theorem dX11_startAnew_1 : decode cX11_startAnew 1 = .ok (.getfield 12, 3) := by decide +kernel
theorem dX11_startAnew_4 : decode cX11_startAnew 4 = .ok (.iload_n 1, 1) := by decide +kernel
theorem dX11_startAnew_5 : decode cX11_startAnew 5 = .ok (.iload_n 2, 1) := by decide +kernel
theorem dX11_startAnew_6 : decode cX11_startAnew 6 = .ok (.invokevirtual 98, 3) := by decide +kernel
theorem dX11_startAnew_9 : decode cX11_startAnew 9 = .ok (.aload_n 0, 1) := by decide +kernel
theorem dX11_startAnew_10 : decode cX11_startAnew 10 = .ok (.getfield 21, 3) := by decide +kernel
theorem dX11_startAnew_13 : decode cX11_startAnew 13 = .ok (.invokevirtual 101, 3) := by decide +kernel
theorem dX11_startAnew_16 : decode cX11_startAnew 16 = .ok (.aload_n 0, 1) := by decide +kernel
theorem dX11_startAnew_17 : decode cX11_startAnew 17 = .ok (.getfield 28, 3) := by decide +kernel
theorem dX11_startAnew_20 : decode cX11_startAnew 20 = .ok (.iconst (-1), 1) := by decide +kernel
theorem dX11_startAnew_21 : decode cX11_startAnew 21 = .ok (.invokevirtual 103, 3) := by decide +kernel
theorem dX11_startAnew_24 : decode cX11_startAnew 24 = .ok (.aload_n 0, 1) := by decide +kernel
theorem dX11_startAnew_25 : decode cX11_startAnew 25 = .ok (.getfield 28, 3) := by decide +kernel
theorem dX11_startAnew_28 : decode cX11_startAnew 28 = .ok (.iload_n 1, 1) := by decide +kernel
theorem dX11_startAnew_29 : decode cX11_startAnew 29 = .ok (.iload_n 2, 1) := by decide +kernel
theorem dX11_startAnew_30 : decode cX11_startAnew 30 = .ok (.invokevirtual 107, 3) := by decide +kernel
theorem dX11_startAnew_33 : decode cX11_startAnew 33 = .ok (.aload_n 0, 1) := by decide +kernel
theorem dX11_startAnew_34 : decode cX11_startAnew 34 = .ok (.getfield 68, 3) := by decide +kernel
theorem dX11_startAnew_37 : decode cX11_startAnew 37 = .ok (.iconst 0, 1) := by decide +kernel
theorem dX11_startAnew_38 : decode cX11_startAnew 38 = .ok (.putfield 110, 3) := by decide +kernel
theorem dX11_startAnew_41 : decode cX11_startAnew 41 = .ok (.aload_n 0, 1) := by decide +kernel
theorem dX11_startAnew_42 : decode cX11_startAnew 42 = .ok (.getfield 75, 3) := by decide +kernel
theorem dX11_startAnew_45 : decode cX11_startAnew 45 = .ok (.invokevirtual 113, 3) := by decide +kernel
theorem dX11_startAnew_48 : decode cX11_startAnew 48 = .ok (.aload_n 0, 1) := by decide +kernel
theorem dX11_startAnew_49 : decode cX11_startAnew 49 = .ok (.iconst 0, 1) := by decide +kernel
theorem dX11_startAnew_50 : decode cX11_startAnew 50 = .ok (.putfield 116, 3) := by decide +kernel
theorem dX11_startAnew_53 : decode cX11_startAnew 53 = .ok (.return_, 1) := by decide +kernel
theorem dX11_law_0 : decode cX11_law 0 = .ok (.iload_n 1, 1) := by decide +kernel
theorem dX11_law_1 : decode cX11_law 1 = .ok (.ifCond .lt 8, 3) := by decide +kernel
theorem dX11_law_4 : decode cX11_law 4 = .ok (.iload_n 1, 1) := by decide +kernel
theorem dX11_law_5 : decode cX11_law 5 = .ok (.iconst 3, 1) := by decide +kernel
theorem dX11_law_6 : decode cX11_law 6 = .ok (.if_icmp .le 5, 3) := by decide +kernel
theorem dX11_law_9 : decode cX11_law 9 = .ok (.iconst (-1), 1) := by decide +kernel
theorem dX11_law_10 : decode cX11_law 10 = .ok (.ireturn, 1) := by decide +kernel
theorem dX11_law_11 : decode cX11_law 11 = .ok (.aload_n 0, 1) := by decide +kernel
theorem dX11_law_12 : decode cX11_law 12 = .ok (.getfield 21, 3) := by decide +kernel
theorem dX11_law_15 : decode cX11_law 15 = .ok (.getfield 119, 3) := by decide +kernel
theorem dX11_law_18 : decode cX11_law 18 = .ok (.ifCond .le 6, 3) := by decide +kernel
theorem dX11_law_21 : decode cX11_law 21 = .ok (.bipush (-3), 2) := by decide +kernel
theorem dX11_law_23 : decode cX11_law 23 = .ok (.ireturn, 1) := by decide +kernel
theorem dX11_law_24 : decode cX11_law 24 = .ok (.aload_n 0, 1) := by decide +kernel
theorem dX11_law_25 : decode cX11_law 25 = .ok (.getfield 21, 3) := by decide +kernel
theorem dX11_law_28 : decode cX11_law 28 = .ok (.iload_n 1, 1) := by decide +kernel
theorem dX11_law_29 : decode cX11_law 29 = .ok (.iload_n 2, 1) := by decide +kernel
theorem dX11_law_30 : decode cX11_law 30 = .ok (.invokevirtual 122, 3) := by decide +kernel
theorem dX11_law_33 : decode cX11_law 33 = .ok (.aload_n 0, 1) := by decide +kernel
theorem dX11_law_34 : decode cX11_law 34 = .ok (.getfield 21, 3) := by decide +kernel
theorem dX11_law_37 : decode cX11_law 37 = .ok (.getfield 125, 3) := by decide +kernel
theorem dX11_law_40 : decode cX11_law 40 = .ok (.ireturn, 1) := by decide +kernel
theorem dX11_enlist_0 : decode cX11_enlist 0 = .ok (.aload_n 0, 1) := by decide +kernel
theorem dX11_enlist_1 : decode cX11_enlist 1 = .ok (.getfield 12, 3) := by decide +kernel
theorem dX11_enlist_4 : decode cX11_enlist 4 = .ok (.iload_n 1, 1) := by decide +kernel
theorem dX11_enlist_5 : decode cX11_enlist 5 = .ok (.invokevirtual 128, 3) := by decide +kernel
theorem dX11_enlist_8 : decode cX11_enlist 8 = .ok (.ifCond .ne 5, 3) := by decide +kernel
theorem dX11_enlist_11 : decode cX11_enlist 11 = .ok (.iconst (-1), 1) := by decide +kernel
theorem dX11_enlist_12 : decode cX11_enlist 12 = .ok (.ireturn, 1) := by decide +kernel
theorem dX11_enlist_13 : decode cX11_enlist 13 = .ok (.aload_n 0, 1) := by decide +kernel
theorem dX11_enlist_14 : decode cX11_enlist 14 = .ok (.getfield 21, 3) := by decide +kernel
theorem dX11_enlist_17 : decode cX11_enlist 17 = .ok (.getfield 119, 3) := by decide +kernel
theorem dX11_enlist_20 : decode cX11_enlist 20 = .ok (.ifCond .le 6, 3) := by decide +kernel
theorem dX11_enlist_23 : decode cX11_enlist 23 = .ok (.bipush (-3), 2) := by decide +kernel
theorem dX11_enlist_25 : decode cX11_enlist 25 = .ok (.ireturn, 1) := by decide +kernel
theorem dX11_enlist_26 : decode cX11_enlist 26 = .ok (.aload_n 0, 1) := by decide +kernel
theorem dX11_enlist_27 : decode cX11_enlist 27 = .ok (.getfield 21, 3) := by decide +kernel
theorem dX11_enlist_30 : decode cX11_enlist 30 = .ok (.getfield 132, 3) := by decide +kernel
theorem dX11_enlist_33 : decode cX11_enlist 33 = .ok (.iload_n 1, 1) := by decide +kernel
theorem dX11_enlist_34 : decode cX11_enlist 34 = .ok (.baload, 1) := by decide +kernel
theorem dX11_enlist_35 : decode cX11_enlist 35 = .ok (.ifCond .ne 27, 3) := by decide +kernel
theorem dX11_enlist_38 : decode cX11_enlist 38 = .ok (.aload_n 0, 1) := by decide +kernel
theorem dX11_enlist_39 : decode cX11_enlist 39 = .ok (.getfield 21, 3) := by decide +kernel
theorem dX11_enlist_42 : decode cX11_enlist 42 = .ok (.getfield 136, 3) := by decide +kernel
theorem dX11_enlist_45 : decode cX11_enlist 45 = .ok (.sipush 300, 3) := by decide +kernel
theorem dX11_enlist_48 : decode cX11_enlist 48 = .ok (.if_icmp .lt 6, 3) := by decide +kernel
theorem dX11_enlist_51 : decode cX11_enlist 51 = .ok (.bipush (-2), 2) := by decide +kernel
theorem dX11_enlist_53 : decode cX11_enlist 53 = .ok (.ireturn, 1) := by decide +kernel
theorem dX11_enlist_54 : decode cX11_enlist 54 = .ok (.aload_n 0, 1) := by decide +kernel
theorem dX11_enlist_55 : decode cX11_enlist 55 = .ok (.getfield 21, 3) := by decide +kernel
theorem dX11_enlist_58 : decode cX11_enlist 58 = .ok (.iload_n 1, 1) := by decide +kernel
theorem dX11_enlist_59 : decode cX11_enlist 59 = .ok (.invokevirtual 139, 3) := by decide +kernel
theorem dX11_enlist_62 : decode cX11_enlist 62 = .ok (.aload_n 0, 1) := by decide +kernel
theorem dX11_enlist_63 : decode cX11_enlist 63 = .ok (.getfield 21, 3) := by decide +kernel
theorem dX11_enlist_66 : decode cX11_enlist 66 = .ok (.getfield 136, 3) := by decide +kernel
theorem dX11_enlist_69 : decode cX11_enlist 69 = .ok (.ireturn, 1) := by decide +kernel
theorem dX11_lies_0 : decode cX11_lies 0 = .ok (.iload_n 1, 1) := by decide +kernel
theorem dX11_lies_1 : decode cX11_lies 1 = .ok (.ifCond .lt 8, 3) := by decide +kernel
theorem dX11_lies_4 : decode cX11_lies 4 = .ok (.iload_n 1, 1) := by decide +kernel
theorem dX11_lies_5 : decode cX11_lies 5 = .ok (.iconst 2, 1) := by decide +kernel
theorem dX11_lies_6 : decode cX11_lies 6 = .ok (.if_icmp .le 5, 3) := by decide +kernel
theorem dX11_lies_9 : decode cX11_lies 9 = .ok (.iconst (-1), 1) := by decide +kernel
theorem dX11_lies_10 : decode cX11_lies 10 = .ok (.ireturn, 1) := by decide +kernel
theorem dX11_lies_11 : decode cX11_lies 11 = .ok (.aload_n 0, 1) := by decide +kernel
theorem dX11_lies_12 : decode cX11_lies 12 = .ok (.getfield 21, 3) := by decide +kernel
theorem dX11_lies_15 : decode cX11_lies 15 = .ok (.getfield 119, 3) := by decide +kernel
theorem dX11_lies_18 : decode cX11_lies 18 = .ok (.ifCond .le 6, 3) := by decide +kernel
theorem dX11_lies_21 : decode cX11_lies 21 = .ok (.bipush (-3), 2) := by decide +kernel
theorem dX11_lies_23 : decode cX11_lies 23 = .ok (.ireturn, 1) := by decide +kernel
theorem dX11_lies_24 : decode cX11_lies 24 = .ok (.aload_n 0, 1) := by decide +kernel
theorem dX11_lies_25 : decode cX11_lies 25 = .ok (.getfield 21, 3) := by decide +kernel
theorem dX11_lies_28 : decode cX11_lies 28 = .ok (.getfield 142, 3) := by decide +kernel
theorem dX11_lies_31 : decode cX11_lies 31 = .ok (.istore_n 2, 1) := by decide +kernel
theorem dX11_lies_32 : decode cX11_lies 32 = .ok (.aload_n 0, 1) := by decide +kernel
theorem dX11_lies_33 : decode cX11_lies 33 = .ok (.getfield 21, 3) := by decide +kernel
theorem dX11_lies_36 : decode cX11_lies 36 = .ok (.iload_n 1, 1) := by decide +kernel
theorem dX11_lies_37 : decode cX11_lies 37 = .ok (.invokevirtual 145, 3) := by decide +kernel
theorem dX11_lies_40 : decode cX11_lies 40 = .ok (.iload_n 2, 1) := by decide +kernel
theorem dX11_lies_41 : decode cX11_lies 41 = .ok (.ireturn, 1) := by decide +kernel
theorem dX11_peg_0 : decode cX11_peg 0 = .ok (.aload_n 0, 1) := by decide +kernel
theorem dX11_peg_1 : decode cX11_peg 1 = .ok (.getfield 12, 3) := by decide +kernel
theorem dX11_peg_4 : decode cX11_peg 4 = .ok (.iload_n 1, 1) := by decide +kernel
theorem dX11_peg_5 : decode cX11_peg 5 = .ok (.invokevirtual 148, 3) := by decide +kernel
theorem dX11_peg_8 : decode cX11_peg 8 = .ok (.ifCond .ne 10, 3) := by decide +kernel
theorem dX11_peg_11 : decode cX11_peg 11 = .ok (.aload_n 0, 1) := by decide +kernel
theorem dX11_peg_12 : decode cX11_peg 12 = .ok (.bipush (-13), 2) := by decide +kernel
theorem dX11_peg_14 : decode cX11_peg 14 = .ok (.invokevirtual 151, 3) := by decide +kernel
theorem dX11_peg_17 : decode cX11_peg 17 = .ok (.ireturn, 1) := by decide +kernel
theorem dX11_peg_18 : decode cX11_peg 18 = .ok (.aload_n 0, 1) := by decide +kernel
theorem dX11_peg_19 : decode cX11_peg 19 = .ok (.getfield 12, 3) := by decide +kernel
theorem dX11_peg_22 : decode cX11_peg 22 = .ok (.iload_n 2, 1) := by decide +kernel
theorem dX11_peg_23 : decode cX11_peg 23 = .ok (.invokevirtual 155, 3) := by decide +kernel
theorem dX11_peg_26 : decode cX11_peg 26 = .ok (.ifCond .ne 6, 3) := by decide +kernel
theorem dX11_peg_29 : decode cX11_peg 29 = .ok (.bipush (-16), 2) := by decide +kernel
theorem dX11_peg_31 : decode cX11_peg 31 = .ok (.ireturn, 1) := by decide +kernel
theorem dX11_peg_32 : decode cX11_peg 32 = .ok (.aload_n 0, 1) := by decide +kernel
theorem dX11_peg_33 : decode cX11_peg 33 = .ok (.getfield 28, 3) := by decide +kernel
theorem dX11_peg_36 : decode cX11_peg 36 = .ok (.getfield 158, 3) := by decide +kernel
theorem dX11_peg_39 : decode cX11_peg 39 = .ok (.iload_n 1, 1) := by decide +kernel
theorem dX11_peg_40 : decode cX11_peg 40 = .ok (.iaload, 1) := by decide +kernel
theorem dX11_peg_41 : decode cX11_peg 41 = .ok (.istore_n 3, 1) := by decide +kernel
theorem dX11_peg_42 : decode cX11_peg 42 = .ok (.aload_n 0, 1) := by decide +kernel
theorem dX11_peg_43 : decode cX11_peg 43 = .ok (.getfield 28, 3) := by decide +kernel
theorem dX11_peg_46 : decode cX11_peg 46 = .ok (.getfield 158, 3) := by decide +kernel
theorem dX11_peg_49 : decode cX11_peg 49 = .ok (.iload_n 1, 1) := by decide +kernel
theorem dX11_peg_50 : decode cX11_peg 50 = .ok (.iload_n 2, 1) := by decide +kernel
theorem dX11_peg_51 : decode cX11_peg 51 = .ok (.iastore, 1) := by decide +kernel
theorem dX11_peg_52 : decode cX11_peg 52 = .ok (.aload_n 0, 1) := by decide +kernel
theorem dX11_peg_53 : decode cX11_peg 53 = .ok (.getfield 28, 3) := by decide +kernel
theorem dX11_peg_56 : decode cX11_peg 56 = .ok (.aload_n 0, 1) := by decide +kernel
theorem dX11_peg_57 : decode cX11_peg 57 = .ok (.getfield 12, 3) := by decide +kernel
theorem dX11_peg_60 : decode cX11_peg 60 = .ok (.getfield 162, 3) := by decide +kernel
theorem dX11_peg_63 : decode cX11_peg 63 = .ok (.aload_n 0, 1) := by decide +kernel
theorem dX11_peg_64 : decode cX11_peg 64 = .ok (.getfield 12, 3) := by decide +kernel
theorem dX11_peg_67 : decode cX11_peg 67 = .ok (.getfield 165, 3) := by decide +kernel
theorem dX11_peg_70 : decode cX11_peg 70 = .ok (.invokevirtual 107, 3) := by decide +kernel
theorem dX11_peg_73 : decode cX11_peg 73 = .ok (.iload_n 3, 1) := by decide +kernel
theorem dX11_peg_74 : decode cX11_peg 74 = .ok (.ireturn, 1) := by decide +kernel
theorem dX11_show_0 : decode cX11_show 0 = .ok (.aload_n 0, 1) := by decide +kernel
theorem dX11_show_1 : decode cX11_show 1 = .ok (.getfield 12, 3) := by decide +kernel
theorem dX11_show_4 : decode cX11_show 4 = .ok (.iload_n 1, 1) := by decide +kernel
theorem dX11_show_5 : decode cX11_show 5 = .ok (.invokevirtual 128, 3) := by decide +kernel
theorem dX11_show_8 : decode cX11_show 8 = .ok (.ifCond .ne 5, 3) := by decide +kernel
theorem dX11_show_11 : decode cX11_show 11 = .ok (.iconst (-1), 1) := by decide +kernel
theorem dX11_show_12 : decode cX11_show 12 = .ok (.ireturn, 1) := by decide +kernel
theorem dX11_show_13 : decode cX11_show 13 = .ok (.iconst 0, 1) := by decide +kernel
theorem dX11_show_14 : decode cX11_show 14 = .ok (.istore_n 2, 1) := by decide +kernel
theorem dX11_show_15 : decode cX11_show 15 = .ok (.iload_n 2, 1) := by decide +kernel
theorem dX11_show_16 : decode cX11_show 16 = .ok (.aload_n 0, 1) := by decide +kernel
theorem dX11_show_17 : decode cX11_show 17 = .ok (.getfield 12, 3) := by decide +kernel
theorem dX11_show_20 : decode cX11_show 20 = .ok (.getfield 162, 3) := by decide +kernel
theorem dX11_show_23 : decode cX11_show 23 = .ok (.if_icmp .ge 27, 3) := by decide +kernel
theorem dX11_show_26 : decode cX11_show 26 = .ok (.aload_n 0, 1) := by decide +kernel
theorem dX11_show_27 : decode cX11_show 27 = .ok (.getfield 28, 3) := by decide +kernel
theorem dX11_show_30 : decode cX11_show 30 = .ok (.getfield 158, 3) := by decide +kernel
theorem dX11_show_33 : decode cX11_show 33 = .ok (.iload_n 2, 1) := by decide +kernel
theorem dX11_show_34 : decode cX11_show 34 = .ok (.aload_n 0, 1) := by decide +kernel
theorem dX11_show_35 : decode cX11_show 35 = .ok (.getfield 12, 3) := by decide +kernel
theorem dX11_show_38 : decode cX11_show 38 = .ok (.iload_n 1, 1) := by decide +kernel
theorem dX11_show_39 : decode cX11_show 39 = .ok (.iload_n 2, 1) := by decide +kernel
theorem dX11_show_40 : decode cX11_show 40 = .ok (.invokevirtual 168, 3) := by decide +kernel
theorem dX11_show_43 : decode cX11_show 43 = .ok (.iastore, 1) := by decide +kernel
theorem dX11_show_44 : decode cX11_show 44 = .ok (.iinc 2 1, 3) := by decide +kernel
theorem dX11_show_47 : decode cX11_show 47 = .ok (.goto (-32), 3) := by decide +kernel
theorem dX11_show_50 : decode cX11_show 50 = .ok (.aload_n 0, 1) := by decide +kernel
theorem dX11_show_51 : decode cX11_show 51 = .ok (.getfield 28, 3) := by decide +kernel
theorem dX11_show_54 : decode cX11_show 54 = .ok (.aload_n 0, 1) := by decide +kernel
theorem dX11_show_55 : decode cX11_show 55 = .ok (.getfield 12, 3) := by decide +kernel
theorem dX11_show_58 : decode cX11_show 58 = .ok (.getfield 162, 3) := by decide +kernel
theorem dX11_show_61 : decode cX11_show 61 = .ok (.aload_n 0, 1) := by decide +kernel
theorem dX11_show_62 : decode cX11_show 62 = .ok (.getfield 12, 3) := by decide +kernel
theorem dX11_show_65 : decode cX11_show 65 = .ok (.getfield 165, 3) := by decide +kernel
theorem dX11_show_68 : decode cX11_show 68 = .ok (.invokevirtual 107, 3) := by decide +kernel
theorem dX11_show_71 : decode cX11_show 71 = .ok (.aload_n 0, 1) := by decide +kernel
theorem dX11_show_72 : decode cX11_show 72 = .ok (.invokevirtual 171, 3) := by decide +kernel
theorem dX11_show_75 : decode cX11_show 75 = .ok (.ireturn, 1) := by decide +kernel
theorem dX11_hand_0 : decode cX11_hand 0 = .ok (.aload_n 0, 1) := by decide +kernel
theorem dX11_hand_1 : decode cX11_hand 1 = .ok (.getfield 12, 3) := by decide +kernel
theorem dX11_hand_4 : decode cX11_hand 4 = .ok (.iload_n 1, 1) := by decide +kernel
theorem dX11_hand_5 : decode cX11_hand 5 = .ok (.invokevirtual 148, 3) := by decide +kernel
theorem dX11_hand_8 : decode cX11_hand 8 = .ok (.ifCond .eq 15, 3) := by decide +kernel
theorem dX11_hand_11 : decode cX11_hand 11 = .ok (.aload_n 0, 1) := by decide +kernel
theorem dX11_hand_12 : decode cX11_hand 12 = .ok (.getfield 28, 3) := by decide +kernel
theorem dX11_hand_15 : decode cX11_hand 15 = .ok (.getfield 158, 3) := by decide +kernel
theorem dX11_hand_18 : decode cX11_hand 18 = .ok (.iload_n 1, 1) := by decide +kernel
theorem dX11_hand_19 : decode cX11_hand 19 = .ok (.iaload, 1) := by decide +kernel
theorem dX11_hand_20 : decode cX11_hand 20 = .ok (.goto 9, 3) := by decide +kernel
theorem dX11_hand_23 : decode cX11_hand 23 = .ok (.aload_n 0, 1) := by decide +kernel
theorem dX11_hand_24 : decode cX11_hand 24 = .ok (.bipush (-13), 2) := by decide +kernel
theorem dX11_hand_26 : decode cX11_hand 26 = .ok (.invokevirtual 151, 3) := by decide +kernel
theorem dX11_hand_29 : decode cX11_hand 29 = .ok (.ireturn, 1) := by decide +kernel
theorem dX11_sort_0 : decode cX11_sort 0 = .ok (.aload_n 0, 1) := by decide +kernel
theorem dX11_sort_1 : decode cX11_sort 1 = .ok (.invokevirtual 171, 3) := by decide +kernel
theorem dX11_sort_4 : decode cX11_sort 4 = .ok (.ireturn, 1) := by decide +kernel
theorem dX11_sortOfHand_0 : decode cX11_sortOfHand 0 = .ok (.aload_n 0, 1) := by decide +kernel
theorem dX11_sortOfHand_1 : decode cX11_sortOfHand 1 = .ok (.getfield 12, 3) := by decide +kernel
theorem dX11_sortOfHand_4 : decode cX11_sortOfHand 4 = .ok (.aload_n 0, 1) := by decide +kernel
theorem dX11_sortOfHand_5 : decode cX11_sortOfHand 5 = .ok (.getfield 28, 3) := by decide +kernel
theorem dX11_sortOfHand_8 : decode cX11_sortOfHand 8 = .ok (.invokevirtual 175, 3) := by decide +kernel
theorem dX11_sortOfHand_11 : decode cX11_sortOfHand 11 = .ok (.istore_n 1, 1) := by decide +kernel
theorem dX11_sortOfHand_12 : decode cX11_sortOfHand 12 = .ok (.iload_n 1, 1) := by decide +kernel
theorem dX11_sortOfHand_13 : decode cX11_sortOfHand 13 = .ok (.iconst (-1), 1) := by decide +kernel
theorem dX11_sortOfHand_14 : decode cX11_sortOfHand 14 = .ok (.if_icmp .ne 5, 3) := by decide +kernel
theorem dX11_sortOfHand_17 : decode cX11_sortOfHand 17 = .ok (.iconst 3, 1) := by decide +kernel
theorem dX11_sortOfHand_18 : decode cX11_sortOfHand 18 = .ok (.ireturn, 1) := by decide +kernel
theorem dX11_sortOfHand_19 : decode cX11_sortOfHand 19 = .ok (.aload_n 0, 1) := by decide +kernel
theorem dX11_sortOfHand_20 : decode cX11_sortOfHand 20 = .ok (.getfield 21, 3) := by decide +kernel
theorem dX11_sortOfHand_23 : decode cX11_sortOfHand 23 = .ok (.iload_n 1, 1) := by decide +kernel
theorem dX11_sortOfHand_24 : decode cX11_sortOfHand 24 = .ok (.invokevirtual 179, 3) := by decide +kernel
theorem dX11_sortOfHand_27 : decode cX11_sortOfHand 27 = .ok (.ifCond .ne 5, 3) := by decide +kernel
theorem dX11_sortOfHand_30 : decode cX11_sortOfHand 30 = .ok (.iconst 0, 1) := by decide +kernel
theorem dX11_sortOfHand_31 : decode cX11_sortOfHand 31 = .ok (.ireturn, 1) := by decide +kernel
theorem dX11_sortOfHand_32 : decode cX11_sortOfHand 32 = .ok (.aload_n 0, 1) := by decide +kernel
theorem dX11_sortOfHand_33 : decode cX11_sortOfHand 33 = .ok (.getfield 21, 3) := by decide +kernel
theorem dX11_sortOfHand_36 : decode cX11_sortOfHand 36 = .ok (.getfield 182, 3) := by decide +kernel
theorem dX11_sortOfHand_39 : decode cX11_sortOfHand 39 = .ok (.iconst 1, 1) := by decide +kernel
theorem dX11_sortOfHand_40 : decode cX11_sortOfHand 40 = .ok (.if_icmp .ne 5, 3) := by decide +kernel
theorem dX11_sortOfHand_43 : decode cX11_sortOfHand 43 = .ok (.iconst 4, 1) := by decide +kernel
theorem dX11_sortOfHand_44 : decode cX11_sortOfHand 44 = .ok (.ireturn, 1) := by decide +kernel
theorem dX11_sortOfHand_45 : decode cX11_sortOfHand 45 = .ok (.aload_n 0, 1) := by decide +kernel
theorem dX11_sortOfHand_46 : decode cX11_sortOfHand 46 = .ok (.getfield 35, 3) := by decide +kernel
theorem dX11_sortOfHand_49 : decode cX11_sortOfHand 49 = .ok (.aload_n 0, 1) := by decide +kernel
theorem dX11_sortOfHand_50 : decode cX11_sortOfHand 50 = .ok (.getfield 21, 3) := by decide +kernel
theorem dX11_sortOfHand_53 : decode cX11_sortOfHand 53 = .ok (.aload_n 0, 1) := by decide +kernel
theorem dX11_sortOfHand_54 : decode cX11_sortOfHand 54 = .ok (.getfield 28, 3) := by decide +kernel
theorem dX11_sortOfHand_57 : decode cX11_sortOfHand 57 = .ok (.getfield 185, 3) := by decide +kernel
theorem dX11_sortOfHand_60 : decode cX11_sortOfHand 60 = .ok (.aload_n 0, 1) := by decide +kernel
theorem dX11_sortOfHand_61 : decode cX11_sortOfHand 61 = .ok (.getfield 28, 3) := by decide +kernel
theorem dX11_sortOfHand_64 : decode cX11_sortOfHand 64 = .ok (.getfield 188, 3) := by decide +kernel
theorem dX11_sortOfHand_67 : decode cX11_sortOfHand 67 = .ok (.invokevirtual 191, 3) := by decide +kernel
theorem dX11_sortOfHand_70 : decode cX11_sortOfHand 70 = .ok (.aload_n 0, 1) := by decide +kernel
theorem dX11_sortOfHand_71 : decode cX11_sortOfHand 71 = .ok (.getfield 35, 3) := by decide +kernel
theorem dX11_sortOfHand_74 : decode cX11_sortOfHand 74 = .ok (.getfield 195, 3) := by decide +kernel
theorem dX11_sortOfHand_77 : decode cX11_sortOfHand 77 = .ok (.aload_n 0, 1) := by decide +kernel
theorem dX11_sortOfHand_78 : decode cX11_sortOfHand 78 = .ok (.getfield 21, 3) := by decide +kernel
theorem dX11_sortOfHand_81 : decode cX11_sortOfHand 81 = .ok (.getfield 182, 3) := by decide +kernel
theorem dX11_sortOfHand_84 : decode cX11_sortOfHand 84 = .ok (.if_icmp .ne 7, 3) := by decide +kernel
theorem dX11_sortOfHand_87 : decode cX11_sortOfHand 87 = .ok (.iconst 2, 1) := by decide +kernel
theorem dX11_sortOfHand_88 : decode cX11_sortOfHand 88 = .ok (.goto 4, 3) := by decide +kernel
theorem dX11_sortOfHand_91 : decode cX11_sortOfHand 91 = .ok (.iconst 1, 1) := by decide +kernel
theorem dX11_sortOfHand_92 : decode cX11_sortOfHand 92 = .ok (.ireturn, 1) := by decide +kernel
theorem dX11_answer_0 : decode cX11_answer 0 = .ok (.aload_n 0, 1) := by decide +kernel
theorem dX11_answer_1 : decode cX11_answer 1 = .ok (.getfield 12, 3) := by decide +kernel
theorem dX11_answer_4 : decode cX11_answer 4 = .ok (.iload_n 1, 1) := by decide +kernel
theorem dX11_answer_5 : decode cX11_answer 5 = .ok (.invokevirtual 128, 3) := by decide +kernel
theorem dX11_answer_8 : decode cX11_answer 8 = .ok (.ifCond .eq 26, 3) := by decide +kernel
theorem dX11_answer_11 : decode cX11_answer 11 = .ok (.aload_n 0, 1) := by decide +kernel
theorem dX11_answer_12 : decode cX11_answer 12 = .ok (.getfield 12, 3) := by decide +kernel
theorem dX11_answer_15 : decode cX11_answer 15 = .ok (.iload_n 2, 1) := by decide +kernel
theorem dX11_answer_16 : decode cX11_answer 16 = .ok (.invokevirtual 128, 3) := by decide +kernel
theorem dX11_answer_19 : decode cX11_answer 19 = .ok (.ifCond .eq 15, 3) := by decide +kernel
theorem dX11_answer_22 : decode cX11_answer 22 = .ok (.aload_n 0, 1) := by decide +kernel
theorem dX11_answer_23 : decode cX11_answer 23 = .ok (.getfield 12, 3) := by decide +kernel
theorem dX11_answer_26 : decode cX11_answer 26 = .ok (.iload_n 1, 1) := by decide +kernel
theorem dX11_answer_27 : decode cX11_answer 27 = .ok (.iload_n 2, 1) := by decide +kernel
theorem dX11_answer_28 : decode cX11_answer 28 = .ok (.invokevirtual 198, 3) := by decide +kernel
theorem dX11_answer_31 : decode cX11_answer 31 = .ok (.goto 4, 3) := by decide +kernel
theorem dX11_answer_34 : decode cX11_answer 34 = .ok (.iconst (-1), 1) := by decide +kernel
theorem dX11_answer_35 : decode cX11_answer 35 = .ok (.ireturn, 1) := by decide +kernel
theorem dX11_reply_0 : decode cX11_reply 0 = .ok (.aload_n 0, 1) := by decide +kernel
theorem dX11_reply_1 : decode cX11_reply 1 = .ok (.getfield 12, 3) := by decide +kernel
theorem dX11_reply_4 : decode cX11_reply 4 = .ok (.iload_n 1, 1) := by decide +kernel
theorem dX11_reply_5 : decode cX11_reply 5 = .ok (.invokevirtual 128, 3) := by decide +kernel
theorem dX11_reply_8 : decode cX11_reply 8 = .ok (.ifCond .eq 28, 3) := by decide +kernel
theorem dX11_reply_11 : decode cX11_reply 11 = .ok (.aload_n 0, 1) := by decide +kernel
theorem dX11_reply_12 : decode cX11_reply 12 = .ok (.getfield 12, 3) := by decide +kernel
theorem dX11_reply_15 : decode cX11_reply 15 = .ok (.aload_n 0, 1) := by decide +kernel
theorem dX11_reply_16 : decode cX11_reply 16 = .ok (.getfield 28, 3) := by decide +kernel
theorem dX11_reply_19 : decode cX11_reply 19 = .ok (.getfield 185, 3) := by decide +kernel
theorem dX11_reply_22 : decode cX11_reply 22 = .ok (.aload_n 0, 1) := by decide +kernel
theorem dX11_reply_23 : decode cX11_reply 23 = .ok (.getfield 28, 3) := by decide +kernel
theorem dX11_reply_26 : decode cX11_reply 26 = .ok (.getfield 188, 3) := by decide +kernel
theorem dX11_reply_29 : decode cX11_reply 29 = .ok (.iload_n 1, 1) := by decide +kernel
theorem dX11_reply_30 : decode cX11_reply 30 = .ok (.invokevirtual 201, 3) := by decide +kernel
theorem dX11_reply_33 : decode cX11_reply 33 = .ok (.goto 4, 3) := by decide +kernel
theorem dX11_reply_36 : decode cX11_reply 36 = .ok (.iconst (-1), 1) := by decide +kernel
theorem dX11_reply_37 : decode cX11_reply 37 = .ok (.ireturn, 1) := by decide +kernel
theorem dX11_tell_0 : decode cX11_tell 0 = .ok (.aload_n 0, 1) := by decide +kernel
theorem dX11_tell_1 : decode cX11_tell 1 = .ok (.getfield 12, 3) := by decide +kernel
theorem dX11_tell_4 : decode cX11_tell 4 = .ok (.iload_n 1, 1) := by decide +kernel
theorem dX11_tell_5 : decode cX11_tell 5 = .ok (.invokevirtual 205, 3) := by decide +kernel
theorem dX11_tell_8 : decode cX11_tell 8 = .ok (.ifCond .ne 5, 3) := by decide +kernel
theorem dX11_tell_11 : decode cX11_tell 11 = .ok (.iconst (-1), 1) := by decide +kernel
theorem dX11_tell_12 : decode cX11_tell 12 = .ok (.ireturn, 1) := by decide +kernel
theorem dX11_tell_13 : decode cX11_tell 13 = .ok (.aload_n 0, 1) := by decide +kernel
theorem dX11_tell_14 : decode cX11_tell 14 = .ok (.getfield 21, 3) := by decide +kernel
theorem dX11_tell_17 : decode cX11_tell 17 = .ok (.getfield 119, 3) := by decide +kernel
theorem dX11_tell_20 : decode cX11_tell 20 = .ok (.bipush 10, 2) := by decide +kernel
theorem dX11_tell_22 : decode cX11_tell 22 = .ok (.if_icmp .lt 6, 3) := by decide +kernel
theorem dX11_tell_25 : decode cX11_tell 25 = .ok (.bipush (-2), 2) := by decide +kernel
theorem dX11_tell_27 : decode cX11_tell 27 = .ok (.ireturn, 1) := by decide +kernel
theorem dX11_tell_28 : decode cX11_tell 28 = .ok (.aload_n 0, 1) := by decide +kernel
theorem dX11_tell_29 : decode cX11_tell 29 = .ok (.getfield 21, 3) := by decide +kernel
theorem dX11_tell_32 : decode cX11_tell 32 = .ok (.aload_n 0, 1) := by decide +kernel
theorem dX11_tell_33 : decode cX11_tell 33 = .ok (.getfield 28, 3) := by decide +kernel
theorem dX11_tell_36 : decode cX11_tell 36 = .ok (.iload_n 1, 1) := by decide +kernel
theorem dX11_tell_37 : decode cX11_tell 37 = .ok (.invokevirtual 208, 3) := by decide +kernel
theorem dX11_tell_40 : decode cX11_tell 40 = .ok (.ifCond .eq 13, 3) := by decide +kernel
theorem dX11_tell_43 : decode cX11_tell 43 = .ok (.aload_n 0, 1) := by decide +kernel
theorem dX11_tell_44 : decode cX11_tell 44 = .ok (.getfield 21, 3) := by decide +kernel
theorem dX11_tell_47 : decode cX11_tell 47 = .ok (.getfield 182, 3) := by decide +kernel
theorem dX11_tell_50 : decode cX11_tell 50 = .ok (.goto 5, 3) := by decide +kernel
theorem dX11_tell_53 : decode cX11_tell 53 = .ok (.bipush (-4), 2) := by decide +kernel
theorem dX11_tell_55 : decode cX11_tell 55 = .ok (.ireturn, 1) := by decide +kernel
theorem dX11_undo_0 : decode cX11_undo 0 = .ok (.aload_n 0, 1) := by decide +kernel
theorem dX11_undo_1 : decode cX11_undo 1 = .ok (.getfield 21, 3) := by decide +kernel
theorem dX11_undo_4 : decode cX11_undo 4 = .ok (.getfield 119, 3) := by decide +kernel
theorem dX11_undo_7 : decode cX11_undo 7 = .ok (.ifCond .ne 5, 3) := by decide +kernel
theorem dX11_undo_10 : decode cX11_undo 10 = .ok (.iconst (-1), 1) := by decide +kernel
theorem dX11_undo_11 : decode cX11_undo 11 = .ok (.ireturn, 1) := by decide +kernel
theorem dX11_undo_12 : decode cX11_undo 12 = .ok (.aload_n 0, 1) := by decide +kernel
theorem dX11_undo_13 : decode cX11_undo 13 = .ok (.getfield 21, 3) := by decide +kernel
theorem dX11_undo_16 : decode cX11_undo 16 = .ok (.invokevirtual 212, 3) := by decide +kernel
theorem dX11_undo_19 : decode cX11_undo 19 = .ok (.aload_n 0, 1) := by decide +kernel
theorem dX11_undo_20 : decode cX11_undo 20 = .ok (.getfield 21, 3) := by decide +kernel
theorem dX11_undo_23 : decode cX11_undo 23 = .ok (.getfield 119, 3) := by decide +kernel
theorem dX11_undo_26 : decode cX11_undo 26 = .ok (.ireturn, 1) := by decide +kernel
theorem dX11_quarrel_0 : decode cX11_quarrel 0 = .ok (.aload_n 0, 1) := by decide +kernel
theorem dX11_quarrel_1 : decode cX11_quarrel 1 = .ok (.getfield 21, 3) := by decide +kernel
theorem dX11_quarrel_4 : decode cX11_quarrel 4 = .ok (.getfield 215, 3) := by decide +kernel
theorem dX11_quarrel_7 : decode cX11_quarrel 7 = .ok (.iconst (-1), 1) := by decide +kernel
theorem dX11_quarrel_8 : decode cX11_quarrel 8 = .ok (.if_icmp .ne 5, 3) := by decide +kernel
theorem dX11_quarrel_11 : decode cX11_quarrel 11 = .ok (.iconst (-1), 1) := by decide +kernel
theorem dX11_quarrel_12 : decode cX11_quarrel 12 = .ok (.ireturn, 1) := by decide +kernel
theorem dX11_quarrel_13 : decode cX11_quarrel 13 = .ok (.iload_n 1, 1) := by decide +kernel
theorem dX11_quarrel_14 : decode cX11_quarrel 14 = .ok (.iconst (-1), 1) := by decide +kernel
theorem dX11_quarrel_15 : decode cX11_quarrel 15 = .ok (.if_icmp .ne 16, 3) := by decide +kernel
theorem dX11_quarrel_18 : decode cX11_quarrel 18 = .ok (.aload_n 0, 1) := by decide +kernel
theorem dX11_quarrel_19 : decode cX11_quarrel 19 = .ok (.getfield 21, 3) := by decide +kernel
theorem dX11_quarrel_22 : decode cX11_quarrel 22 = .ok (.getfield 215, 3) := by decide +kernel
theorem dX11_quarrel_25 : decode cX11_quarrel 25 = .ok (.invokestatic 218, 3) := by decide +kernel
theorem dX11_quarrel_28 : decode cX11_quarrel 28 = .ok (.goto 14, 3) := by decide +kernel
theorem dX11_quarrel_31 : decode cX11_quarrel 31 = .ok (.aload_n 0, 1) := by decide +kernel
theorem dX11_quarrel_32 : decode cX11_quarrel 32 = .ok (.getfield 21, 3) := by decide +kernel
theorem dX11_quarrel_35 : decode cX11_quarrel 35 = .ok (.getfield 215, 3) := by decide +kernel
theorem dX11_quarrel_38 : decode cX11_quarrel 38 = .ok (.iload_n 1, 1) := by decide +kernel
theorem dX11_quarrel_39 : decode cX11_quarrel 39 = .ok (.invokestatic 223, 3) := by decide +kernel
theorem dX11_quarrel_42 : decode cX11_quarrel 42 = .ok (.ireturn, 1) := by decide +kernel
theorem dX11_memberOf_0 : decode cX11_memberOf 0 = .ok (.iconst 0, 1) := by decide +kernel
theorem dX11_memberOf_1 : decode cX11_memberOf 1 = .ok (.istore_n 2, 1) := by decide +kernel
theorem dX11_memberOf_2 : decode cX11_memberOf 2 = .ok (.iconst 0, 1) := by decide +kernel
theorem dX11_memberOf_3 : decode cX11_memberOf 3 = .ok (.istore_n 3, 1) := by decide +kernel
theorem dX11_memberOf_4 : decode cX11_memberOf 4 = .ok (.iload_n 3, 1) := by decide +kernel
theorem dX11_memberOf_5 : decode cX11_memberOf 5 = .ok (.bipush 10, 2) := by decide +kernel
theorem dX11_memberOf_7 : decode cX11_memberOf 7 = .ok (.if_icmp .ge 27, 3) := by decide +kernel
theorem dX11_memberOf_10 : decode cX11_memberOf 10 = .ok (.iload_n 0, 1) := by decide +kernel
theorem dX11_memberOf_11 : decode cX11_memberOf 11 = .ok (.iload_n 3, 1) := by decide +kernel
theorem dX11_memberOf_12 : decode cX11_memberOf 12 = .ok (.iushr, 1) := by decide +kernel
theorem dX11_memberOf_13 : decode cX11_memberOf 13 = .ok (.iconst 1, 1) := by decide +kernel
theorem dX11_memberOf_14 : decode cX11_memberOf 14 = .ok (.iand, 1) := by decide +kernel
theorem dX11_memberOf_15 : decode cX11_memberOf 15 = .ok (.ifCond .eq 13, 3) := by decide +kernel
theorem dX11_memberOf_18 : decode cX11_memberOf 18 = .ok (.iload_n 2, 1) := by decide +kernel
theorem dX11_memberOf_19 : decode cX11_memberOf 19 = .ok (.iload_n 1, 1) := by decide +kernel
theorem dX11_memberOf_20 : decode cX11_memberOf 20 = .ok (.if_icmp .ne 5, 3) := by decide +kernel
theorem dX11_memberOf_23 : decode cX11_memberOf 23 = .ok (.iload_n 3, 1) := by decide +kernel
theorem dX11_memberOf_24 : decode cX11_memberOf 24 = .ok (.ireturn, 1) := by decide +kernel
theorem dX11_memberOf_25 : decode cX11_memberOf 25 = .ok (.iinc 2 1, 3) := by decide +kernel
theorem dX11_memberOf_28 : decode cX11_memberOf 28 = .ok (.iinc 3 1, 3) := by decide +kernel
theorem dX11_memberOf_31 : decode cX11_memberOf 31 = .ok (.goto (-27), 3) := by decide +kernel
theorem dX11_memberOf_34 : decode cX11_memberOf 34 = .ok (.iconst (-1), 1) := by decide +kernel
theorem dX11_memberOf_35 : decode cX11_memberOf 35 = .ok (.ireturn, 1) := by decide +kernel
theorem dX11_turn_0 : decode cX11_turn 0 = .ok (.iload_n 1, 1) := by decide +kernel
theorem dX11_turn_1 : decode cX11_turn 1 = .ok (.ifCond .lt 14, 3) := by decide +kernel
theorem dX11_turn_4 : decode cX11_turn 4 = .ok (.iload_n 1, 1) := by decide +kernel
theorem dX11_turn_5 : decode cX11_turn 5 = .ok (.aload_n 0, 1) := by decide +kernel
theorem dX11_turn_6 : decode cX11_turn 6 = .ok (.getfield 21, 3) := by decide +kernel
theorem dX11_turn_9 : decode cX11_turn 9 = .ok (.getfield 119, 3) := by decide +kernel
theorem dX11_turn_12 : decode cX11_turn 12 = .ok (.if_icmp .lt 5, 3) := by decide +kernel
theorem dX11_turn_15 : decode cX11_turn 15 = .ok (.iconst (-1), 1) := by decide +kernel
theorem dX11_turn_16 : decode cX11_turn 16 = .ok (.ireturn, 1) := by decide +kernel
theorem dX11_turn_17 : decode cX11_turn 17 = .ok (.iload_n 2, 1) := by decide +kernel
theorem dX11_turn_18 : decode cX11_turn 18 = .ok (.ifCond .ne 13, 3) := by decide +kernel
theorem dX11_turn_21 : decode cX11_turn 21 = .ok (.aload_n 0, 1) := by decide +kernel
theorem dX11_turn_22 : decode cX11_turn 22 = .ok (.getfield 21, 3) := by decide +kernel
theorem dX11_turn_25 : decode cX11_turn 25 = .ok (.getfield 226, 3) := by decide +kernel
theorem dX11_turn_28 : decode cX11_turn 28 = .ok (.iload_n 1, 1) := by decide +kernel
theorem dX11_turn_29 : decode cX11_turn 29 = .ok (.iaload, 1) := by decide +kernel
theorem dX11_turn_30 : decode cX11_turn 30 = .ok (.ireturn, 1) := by decide +kernel
theorem dX11_turn_31 : decode cX11_turn 31 = .ok (.iload_n 2, 1) := by decide +kernel
theorem dX11_turn_32 : decode cX11_turn 32 = .ok (.bipush 6, 2) := by decide +kernel
theorem dX11_turn_34 : decode cX11_turn 34 = .ok (.if_icmp .ne 12, 3) := by decide +kernel
theorem dX11_turn_37 : decode cX11_turn 37 = .ok (.aload_n 0, 1) := by decide +kernel
theorem dX11_turn_38 : decode cX11_turn 38 = .ok (.getfield 21, 3) := by decide +kernel
theorem dX11_turn_41 : decode cX11_turn 41 = .ok (.iload_n 1, 1) := by decide +kernel
theorem dX11_turn_42 : decode cX11_turn 42 = .ok (.invokevirtual 229, 3) := by decide +kernel
theorem dX11_turn_45 : decode cX11_turn 45 = .ok (.ireturn, 1) := by decide +kernel
theorem dX11_turn_46 : decode cX11_turn 46 = .ok (.aload_n 0, 1) := by decide +kernel
theorem dX11_turn_47 : decode cX11_turn 47 = .ok (.getfield 12, 3) := by decide +kernel
theorem dX11_turn_50 : decode cX11_turn 50 = .ok (.iload_n 2, 1) := by decide +kernel
theorem dX11_turn_51 : decode cX11_turn 51 = .ok (.iconst 1, 1) := by decide +kernel
theorem dX11_turn_52 : decode cX11_turn 52 = .ok (.isub, 1) := by decide +kernel
theorem dX11_turn_53 : decode cX11_turn 53 = .ok (.invokevirtual 148, 3) := by decide +kernel
theorem dX11_turn_56 : decode cX11_turn 56 = .ok (.ifCond .eq 21, 3) := by decide +kernel
theorem dX11_turn_59 : decode cX11_turn 59 = .ok (.aload_n 0, 1) := by decide +kernel
theorem dX11_turn_60 : decode cX11_turn 60 = .ok (.getfield 21, 3) := by decide +kernel
theorem dX11_turn_63 : decode cX11_turn 63 = .ok (.getfield 232, 3) := by decide +kernel
theorem dX11_turn_66 : decode cX11_turn 66 = .ok (.iload_n 1, 1) := by decide +kernel
theorem dX11_turn_67 : decode cX11_turn 67 = .ok (.iconst 5, 1) := by decide +kernel
theorem dX11_turn_68 : decode cX11_turn 68 = .ok (.imul, 1) := by decide +kernel
theorem dX11_turn_69 : decode cX11_turn 69 = .ok (.iload_n 2, 1) := by decide +kernel
theorem dX11_turn_70 : decode cX11_turn 70 = .ok (.iadd, 1) := by decide +kernel
theorem dX11_turn_71 : decode cX11_turn 71 = .ok (.iconst 1, 1) := by decide +kernel
theorem dX11_turn_72 : decode cX11_turn 72 = .ok (.isub, 1) := by decide +kernel
theorem dX11_turn_73 : decode cX11_turn 73 = .ok (.iaload, 1) := by decide +kernel
theorem dX11_turn_74 : decode cX11_turn 74 = .ok (.goto 4, 3) := by decide +kernel
theorem dX11_turn_77 : decode cX11_turn 77 = .ok (.iconst (-1), 1) := by decide +kernel
theorem dX11_turn_78 : decode cX11_turn 78 = .ok (.ireturn, 1) := by decide +kernel
theorem dX11_left_0 : decode cX11_left 0 = .ok (.iload_n 1, 1) := by decide +kernel
theorem dX11_left_1 : decode cX11_left 1 = .ok (.ifCond .lt 26, 3) := by decide +kernel
theorem dX11_left_4 : decode cX11_left 4 = .ok (.iload_n 1, 1) := by decide +kernel
theorem dX11_left_5 : decode cX11_left 5 = .ok (.aload_n 0, 1) := by decide +kernel
theorem dX11_left_6 : decode cX11_left 6 = .ok (.getfield 21, 3) := by decide +kernel
theorem dX11_left_9 : decode cX11_left 9 = .ok (.getfield 182, 3) := by decide +kernel
theorem dX11_left_12 : decode cX11_left 12 = .ok (.if_icmp .ge 15, 3) := by decide +kernel
theorem dX11_left_15 : decode cX11_left 15 = .ok (.aload_n 0, 1) := by decide +kernel
theorem dX11_left_16 : decode cX11_left 16 = .ok (.getfield 21, 3) := by decide +kernel
theorem dX11_left_19 : decode cX11_left 19 = .ok (.getfield 233, 3) := by decide +kernel
theorem dX11_left_22 : decode cX11_left 22 = .ok (.iload_n 1, 1) := by decide +kernel
theorem dX11_left_23 : decode cX11_left 23 = .ok (.iaload, 1) := by decide +kernel
theorem dX11_left_24 : decode cX11_left 24 = .ok (.goto 4, 3) := by decide +kernel
theorem dX11_left_27 : decode cX11_left 27 = .ok (.iconst (-1), 1) := by decide +kernel
theorem dX11_left_28 : decode cX11_left 28 = .ok (.ireturn, 1) := by decide +kernel
theorem dX11_falses_0 : decode cX11_falses 0 = .ok (.aload_n 0, 1) := by decide +kernel
theorem dX11_falses_1 : decode cX11_falses 1 = .ok (.getfield 12, 3) := by decide +kernel
theorem dX11_falses_4 : decode cX11_falses 4 = .ok (.iload_n 1, 1) := by decide +kernel
theorem dX11_falses_5 : decode cX11_falses 5 = .ok (.invokevirtual 128, 3) := by decide +kernel
theorem dX11_falses_8 : decode cX11_falses 8 = .ok (.ifCond .eq 18, 3) := by decide +kernel
theorem dX11_falses_11 : decode cX11_falses 11 = .ok (.aload_n 0, 1) := by decide +kernel
theorem dX11_falses_12 : decode cX11_falses 12 = .ok (.getfield 21, 3) := by decide +kernel
theorem dX11_falses_15 : decode cX11_falses 15 = .ok (.getfield 236, 3) := by decide +kernel
theorem dX11_falses_18 : decode cX11_falses 18 = .ok (.iload_n 1, 1) := by decide +kernel
theorem dX11_falses_19 : decode cX11_falses 19 = .ok (.iaload, 1) := by decide +kernel
theorem dX11_falses_20 : decode cX11_falses 20 = .ok (.invokestatic 218, 3) := by decide +kernel
theorem dX11_falses_23 : decode cX11_falses 23 = .ok (.goto 4, 3) := by decide +kernel
theorem dX11_falses_26 : decode cX11_falses 26 = .ok (.iconst (-1), 1) := by decide +kernel
theorem dX11_falses_27 : decode cX11_falses 27 = .ok (.ireturn, 1) := by decide +kernel
theorem dX11_part_0 : decode cX11_part 0 = .ok (.iload_n 2, 1) := by decide +kernel
theorem dX11_part_1 : decode cX11_part 1 = .ok (.ifCond .eq 10, 3) := by decide +kernel
theorem dX11_part_4 : decode cX11_part 4 = .ok (.iload_n 2, 1) := by decide +kernel
theorem dX11_part_5 : decode cX11_part 5 = .ok (.iconst 1, 1) := by decide +kernel
theorem dX11_part_6 : decode cX11_part 6 = .ok (.if_icmp .eq 5, 3) := by decide +kernel
theorem dX11_part_9 : decode cX11_part 9 = .ok (.iconst (-1), 1) := by decide +kernel
theorem dX11_part_10 : decode cX11_part 10 = .ok (.ireturn, 1) := by decide +kernel
theorem dX11_part_11 : decode cX11_part 11 = .ok (.aload_n 0, 1) := by decide +kernel
theorem dX11_part_12 : decode cX11_part 12 = .ok (.getfield 35, 3) := by decide +kernel
theorem dX11_part_15 : decode cX11_part 15 = .ok (.aload_n 0, 1) := by decide +kernel
theorem dX11_part_16 : decode cX11_part 16 = .ok (.getfield 21, 3) := by decide +kernel
theorem dX11_part_19 : decode cX11_part 19 = .ok (.aload_n 0, 1) := by decide +kernel
theorem dX11_part_20 : decode cX11_part 20 = .ok (.getfield 28, 3) := by decide +kernel
theorem dX11_part_23 : decode cX11_part 23 = .ok (.getfield 185, 3) := by decide +kernel
theorem dX11_part_26 : decode cX11_part 26 = .ok (.aload_n 0, 1) := by decide +kernel
theorem dX11_part_27 : decode cX11_part 27 = .ok (.getfield 28, 3) := by decide +kernel
theorem dX11_part_30 : decode cX11_part 30 = .ok (.getfield 188, 3) := by decide +kernel
theorem dX11_part_33 : decode cX11_part 33 = .ok (.invokevirtual 191, 3) := by decide +kernel
theorem dX11_part_36 : decode cX11_part 36 = .ok (.aload_n 0, 1) := by decide +kernel
theorem dX11_part_37 : decode cX11_part 37 = .ok (.getfield 35, 3) := by decide +kernel
theorem dX11_part_40 : decode cX11_part 40 = .ok (.iload_n 1, 1) := by decide +kernel
theorem dX11_part_41 : decode cX11_part 41 = .ok (.invokevirtual 239, 3) := by decide +kernel
theorem dX11_part_44 : decode cX11_part 44 = .ok (.istore_n 3, 1) := by decide +kernel
theorem dX11_part_45 : decode cX11_part 45 = .ok (.iload_n 3, 1) := by decide +kernel
theorem dX11_part_46 : decode cX11_part 46 = .ok (.iconst (-1), 1) := by decide +kernel
theorem dX11_part_47 : decode cX11_part 47 = .ok (.if_icmp .ne 5, 3) := by decide +kernel
theorem dX11_part_50 : decode cX11_part 50 = .ok (.iconst (-1), 1) := by decide +kernel
theorem dX11_part_51 : decode cX11_part 51 = .ok (.ireturn, 1) := by decide +kernel
theorem dX11_part_52 : decode cX11_part 52 = .ok (.iload_n 2, 1) := by decide +kernel
theorem dX11_part_53 : decode cX11_part 53 = .ok (.ifCond .ne 7, 3) := by decide +kernel
theorem dX11_part_56 : decode cX11_part 56 = .ok (.iload_n 3, 1) := by decide +kernel
theorem dX11_part_57 : decode cX11_part 57 = .ok (.goto 12, 3) := by decide +kernel
theorem dX11_part_60 : decode cX11_part 60 = .ok (.aload_n 0, 1) := by decide +kernel
theorem dX11_part_61 : decode cX11_part 61 = .ok (.getfield 35, 3) := by decide +kernel
theorem dX11_part_64 : decode cX11_part 64 = .ok (.getfield 242, 3) := by decide +kernel
theorem dX11_part_67 : decode cX11_part 67 = .ok (.iload_n 3, 1) := by decide +kernel
theorem dX11_part_68 : decode cX11_part 68 = .ok (.iaload, 1) := by decide +kernel
theorem dX11_part_69 : decode cX11_part 69 = .ok (.ireturn, 1) := by decide +kernel
theorem dX11_among_0 : decode cX11_among 0 = .ok (.iload_n 1, 1) := by decide +kernel
theorem dX11_among_1 : decode cX11_among 1 = .ok (.ifCond .lt 8, 3) := by decide +kernel
theorem dX11_among_4 : decode cX11_among 4 = .ok (.iload_n 1, 1) := by decide +kernel
theorem dX11_among_5 : decode cX11_among 5 = .ok (.iconst 3, 1) := by decide +kernel
theorem dX11_among_6 : decode cX11_among 6 = .ok (.if_icmp .le 5, 3) := by decide +kernel
theorem dX11_among_9 : decode cX11_among 9 = .ok (.iconst (-1), 1) := by decide +kernel
theorem dX11_among_10 : decode cX11_among 10 = .ok (.ireturn, 1) := by decide +kernel
theorem dX11_among_11 : decode cX11_among 11 = .ok (.aload_n 0, 1) := by decide +kernel
theorem dX11_among_12 : decode cX11_among 12 = .ok (.getfield 21, 3) := by decide +kernel
theorem dX11_among_15 : decode cX11_among 15 = .ok (.getfield 182, 3) := by decide +kernel
theorem dX11_among_18 : decode cX11_among 18 = .ok (.ifCond .ne 14, 3) := by decide +kernel
theorem dX11_among_21 : decode cX11_among 21 = .ok (.iload_n 1, 1) := by decide +kernel
theorem dX11_among_22 : decode cX11_among 22 = .ok (.iconst 2, 1) := by decide +kernel
theorem dX11_among_23 : decode cX11_among 23 = .ok (.if_icmp .ge 7, 3) := by decide +kernel
theorem dX11_among_26 : decode cX11_among 26 = .ok (.iconst 0, 1) := by decide +kernel
theorem dX11_among_27 : decode cX11_among 27 = .ok (.goto 4, 3) := by decide +kernel
theorem dX11_among_30 : decode cX11_among 30 = .ok (.iconst (-1), 1) := by decide +kernel
theorem dX11_among_31 : decode cX11_among 31 = .ok (.ireturn, 1) := by decide +kernel
theorem dX11_among_32 : decode cX11_among 32 = .ok (.aload_n 0, 1) := by decide +kernel
theorem dX11_among_33 : decode cX11_among 33 = .ok (.getfield 12, 3) := by decide +kernel
theorem dX11_among_36 : decode cX11_among 36 = .ok (.getfield 94, 3) := by decide +kernel
theorem dX11_among_39 : decode cX11_among 39 = .ok (.aload_n 0, 1) := by decide +kernel
theorem dX11_among_40 : decode cX11_among 40 = .ok (.getfield 21, 3) := by decide +kernel
theorem dX11_among_43 : decode cX11_among 43 = .ok (.getfield 182, 3) := by decide +kernel
theorem dX11_among_46 : decode cX11_among 46 = .ok (.imul, 1) := by decide +kernel
theorem dX11_among_47 : decode cX11_among 47 = .ok (.ldc 245, 2) := by decide +kernel
theorem dX11_among_49 : decode cX11_among 49 = .ok (.if_icmp .le 6, 3) := by decide +kernel
theorem dX11_among_52 : decode cX11_among 52 = .ok (.bipush (-5), 2) := by decide +kernel
theorem dX11_among_54 : decode cX11_among 54 = .ok (.ireturn, 1) := by decide +kernel
theorem dX11_among_55 : decode cX11_among 55 = .ok (.aload_n 0, 1) := by decide +kernel
theorem dX11_among_56 : decode cX11_among 56 = .ok (.getfield 42, 3) := by decide +kernel
theorem dX11_among_59 : decode cX11_among 59 = .ok (.aload_n 0, 1) := by decide +kernel
theorem dX11_among_60 : decode cX11_among 60 = .ok (.getfield 21, 3) := by decide +kernel
theorem dX11_among_63 : decode cX11_among 63 = .ok (.aload_n 0, 1) := by decide +kernel
theorem dX11_among_64 : decode cX11_among 64 = .ok (.getfield 35, 3) := by decide +kernel
theorem dX11_among_67 : decode cX11_among 67 = .ok (.invokevirtual 246, 3) := by decide +kernel
theorem dX11_among_70 : decode cX11_among 70 = .ok (.iload_n 1, 1) := by decide +kernel
theorem dX11_among_71 : decode cX11_among 71 = .ok (.tableswitch 49 0 2 #[25, 33, 41], 25) := by decide +kernel
theorem dX11_among_96 : decode cX11_among 96 = .ok (.aload_n 0, 1) := by decide +kernel
theorem dX11_among_97 : decode cX11_among 97 = .ok (.getfield 42, 3) := by decide +kernel
theorem dX11_among_100 : decode cX11_among 100 = .ok (.getfield 250, 3) := by decide +kernel
theorem dX11_among_103 : decode cX11_among 103 = .ok (.ireturn, 1) := by decide +kernel
theorem dX11_among_104 : decode cX11_among 104 = .ok (.aload_n 0, 1) := by decide +kernel
theorem dX11_among_105 : decode cX11_among 105 = .ok (.getfield 42, 3) := by decide +kernel
theorem dX11_among_108 : decode cX11_among 108 = .ok (.getfield 253, 3) := by decide +kernel
theorem dX11_among_111 : decode cX11_among 111 = .ok (.ireturn, 1) := by decide +kernel
theorem dX11_among_112 : decode cX11_among 112 = .ok (.aload_n 0, 1) := by decide +kernel
theorem dX11_among_113 : decode cX11_among 113 = .ok (.getfield 42, 3) := by decide +kernel
theorem dX11_among_116 : decode cX11_among 116 = .ok (.getfield 256, 3) := by decide +kernel
theorem dX11_among_119 : decode cX11_among 119 = .ok (.ireturn, 1) := by decide +kernel
theorem dX11_among_120 : decode cX11_among 120 = .ok (.aload_n 0, 1) := by decide +kernel
theorem dX11_among_121 : decode cX11_among 121 = .ok (.getfield 42, 3) := by decide +kernel
theorem dX11_among_124 : decode cX11_among 124 = .ok (.getfield 259, 3) := by decide +kernel
theorem dX11_among_127 : decode cX11_among 127 = .ok (.ireturn, 1) := by decide +kernel
theorem dX11_like_0 : decode cX11_like 0 = .ok (.aload_n 0, 1) := by decide +kernel
theorem dX11_like_1 : decode cX11_like 1 = .ok (.getfield 12, 3) := by decide +kernel
theorem dX11_like_4 : decode cX11_like 4 = .ok (.iload_n 1, 1) := by decide +kernel
theorem dX11_like_5 : decode cX11_like 5 = .ok (.invokevirtual 128, 3) := by decide +kernel
theorem dX11_like_8 : decode cX11_like 8 = .ok (.ifCond .eq 14, 3) := by decide +kernel
theorem dX11_like_11 : decode cX11_like 11 = .ok (.aload_n 0, 1) := by decide +kernel
theorem dX11_like_12 : decode cX11_like 12 = .ok (.getfield 12, 3) := by decide +kernel
theorem dX11_like_15 : decode cX11_like 15 = .ok (.iload_n 2, 1) := by decide +kernel
theorem dX11_like_16 : decode cX11_like 16 = .ok (.invokevirtual 128, 3) := by decide +kernel
theorem dX11_like_19 : decode cX11_like 19 = .ok (.ifCond .ne 5, 3) := by decide +kernel
theorem dX11_like_22 : decode cX11_like 22 = .ok (.iconst (-1), 1) := by decide +kernel
theorem dX11_like_23 : decode cX11_like 23 = .ok (.ireturn, 1) := by decide +kernel
theorem dX11_like_24 : decode cX11_like 24 = .ok (.aload_n 0, 1) := by decide +kernel
theorem dX11_like_25 : decode cX11_like 25 = .ok (.getfield 12, 3) := by decide +kernel
theorem dX11_like_28 : decode cX11_like 28 = .ok (.getfield 162, 3) := by decide +kernel
theorem dX11_like_31 : decode cX11_like 31 = .ok (.iconst 4, 1) := by decide +kernel
theorem dX11_like_32 : decode cX11_like 32 = .ok (.if_icmp .gt 14, 3) := by decide +kernel
theorem dX11_like_35 : decode cX11_like 35 = .ok (.aload_n 0, 1) := by decide +kernel
theorem dX11_like_36 : decode cX11_like 36 = .ok (.getfield 12, 3) := by decide +kernel
theorem dX11_like_39 : decode cX11_like 39 = .ok (.getfield 165, 3) := by decide +kernel
theorem dX11_like_42 : decode cX11_like 42 = .ok (.iconst 5, 1) := by decide +kernel
theorem dX11_like_43 : decode cX11_like 43 = .ok (.if_icmp .le 6, 3) := by decide +kernel
theorem dX11_like_46 : decode cX11_like 46 = .ok (.bipush (-5), 2) := by decide +kernel
theorem dX11_like_48 : decode cX11_like 48 = .ok (.ireturn, 1) := by decide +kernel
theorem dX11_like_49 : decode cX11_like 49 = .ok (.aload_n 0, 1) := by decide +kernel
theorem dX11_like_50 : decode cX11_like 50 = .ok (.getfield 49, 3) := by decide +kernel
theorem dX11_like_53 : decode cX11_like 53 = .ok (.aload_n 0, 1) := by decide +kernel
theorem dX11_like_54 : decode cX11_like 54 = .ok (.getfield 21, 3) := by decide +kernel
theorem dX11_like_57 : decode cX11_like 57 = .ok (.iload_n 1, 1) := by decide +kernel
theorem dX11_like_58 : decode cX11_like 58 = .ok (.iload_n 2, 1) := by decide +kernel
theorem dX11_like_59 : decode cX11_like 59 = .ok (.invokevirtual 262, 3) := by decide +kernel
theorem dX11_like_62 : decode cX11_like 62 = .ok (.ifCond .eq 7, 3) := by decide +kernel
theorem dX11_like_65 : decode cX11_like 65 = .ok (.iconst 1, 1) := by decide +kernel
theorem dX11_like_66 : decode cX11_like 66 = .ok (.goto 4, 3) := by decide +kernel
theorem dX11_like_69 : decode cX11_like 69 = .ok (.iconst 0, 1) := by decide +kernel
theorem dX11_like_70 : decode cX11_like 70 = .ok (.ireturn, 1) := by decide +kernel
theorem dX11_least_0 : decode cX11_least 0 = .ok (.iload_n 1, 1) := by decide +kernel
theorem dX11_least_1 : decode cX11_least 1 = .ok (.invokestatic 266, 3) := by decide +kernel
theorem dX11_least_4 : decode cX11_least 4 = .ok (.ifCond .ne 5, 3) := by decide +kernel
theorem dX11_least_7 : decode cX11_least 7 = .ok (.iconst (-1), 1) := by decide +kernel
theorem dX11_least_8 : decode cX11_least 8 = .ok (.ireturn, 1) := by decide +kernel
theorem dX11_least_9 : decode cX11_least 9 = .ok (.aload_n 0, 1) := by decide +kernel
theorem dX11_least_10 : decode cX11_least 10 = .ok (.invokevirtual 269, 3) := by decide +kernel
theorem dX11_least_13 : decode cX11_least 13 = .ok (.istore_n 2, 1) := by decide +kernel
theorem dX11_least_14 : decode cX11_least 14 = .ok (.iload_n 2, 1) := by decide +kernel
theorem dX11_least_15 : decode cX11_least 15 = .ok (.ifCond .eq 7, 3) := by decide +kernel
theorem dX11_least_18 : decode cX11_least 18 = .ok (.iload_n 2, 1) := by decide +kernel
theorem dX11_least_19 : decode cX11_least 19 = .ok (.goto 11, 3) := by decide +kernel
theorem dX11_least_22 : decode cX11_least 22 = .ok (.aload_n 0, 1) := by decide +kernel
theorem dX11_least_23 : decode cX11_least 23 = .ok (.iload_n 1, 1) := by decide +kernel
theorem dX11_least_24 : decode cX11_least 24 = .ok (.invokevirtual 272, 3) := by decide +kernel
theorem dX11_least_27 : decode cX11_least 27 = .ok (.invokevirtual 276, 3) := by decide +kernel
theorem dX11_least_30 : decode cX11_least 30 = .ok (.ireturn, 1) := by decide +kernel
theorem dX11_sum_0 : decode cX11_sum 0 = .ok (.iload_n 1, 1) := by decide +kernel
theorem dX11_sum_1 : decode cX11_sum 1 = .ok (.invokestatic 266, 3) := by decide +kernel
theorem dX11_sum_4 : decode cX11_sum 4 = .ok (.ifCond .eq 10, 3) := by decide +kernel
theorem dX11_sum_7 : decode cX11_sum 7 = .ok (.iload_n 2, 1) := by decide +kernel
theorem dX11_sum_8 : decode cX11_sum 8 = .ok (.invokestatic 279, 3) := by decide +kernel
theorem dX11_sum_11 : decode cX11_sum 11 = .ok (.ifCond .ne 5, 3) := by decide +kernel
theorem dX11_sum_14 : decode cX11_sum 14 = .ok (.iconst (-1), 1) := by decide +kernel
theorem dX11_sum_15 : decode cX11_sum 15 = .ok (.ireturn, 1) := by decide +kernel
theorem dX11_sum_16 : decode cX11_sum 16 = .ok (.aload_n 0, 1) := by decide +kernel
theorem dX11_sum_17 : decode cX11_sum 17 = .ok (.invokevirtual 269, 3) := by decide +kernel
theorem dX11_sum_20 : decode cX11_sum 20 = .ok (.istore_n 3, 1) := by decide +kernel
theorem dX11_sum_21 : decode cX11_sum 21 = .ok (.iload_n 3, 1) := by decide +kernel
theorem dX11_sum_22 : decode cX11_sum 22 = .ok (.ifCond .eq 5, 3) := by decide +kernel
theorem dX11_sum_25 : decode cX11_sum 25 = .ok (.iload_n 3, 1) := by decide +kernel
theorem dX11_sum_26 : decode cX11_sum 26 = .ok (.ireturn, 1) := by decide +kernel
theorem dX11_sum_27 : decode cX11_sum 27 = .ok (.aload_n 0, 1) := by decide +kernel
theorem dX11_sum_28 : decode cX11_sum 28 = .ok (.iload_n 1, 1) := by decide +kernel
theorem dX11_sum_29 : decode cX11_sum 29 = .ok (.invokevirtual 272, 3) := by decide +kernel
theorem dX11_sum_32 : decode cX11_sum 32 = .ok (.iload_n 2, 1) := by decide +kernel
theorem dX11_sum_33 : decode cX11_sum 33 = .ok (.invokevirtual 282, 3) := by decide +kernel
theorem dX11_sum_36 : decode cX11_sum 36 = .ok (.istore 4, 2) := by decide +kernel
theorem dX11_sum_38 : decode cX11_sum 38 = .ok (.iload 4, 2) := by decide +kernel
theorem dX11_sum_40 : decode cX11_sum 40 = .ok (.ifCond .ne 8, 3) := by decide +kernel
theorem dX11_sum_43 : decode cX11_sum 43 = .ok (.bipush (-7), 2) := by decide +kernel
theorem dX11_sum_45 : decode cX11_sum 45 = .ok (.goto 5, 3) := by decide +kernel
theorem dX11_sum_48 : decode cX11_sum 48 = .ok (.iload 4, 2) := by decide +kernel
theorem dX11_sum_50 : decode cX11_sum 50 = .ok (.ireturn, 1) := by decide +kernel
theorem dX11_best_0 : decode cX11_best 0 = .ok (.iload_n 1, 1) := by decide +kernel
theorem dX11_best_1 : decode cX11_best 1 = .ok (.ifCond .eq 8, 3) := by decide +kernel
theorem dX11_best_4 : decode cX11_best 4 = .ok (.iload_n 1, 1) := by decide +kernel
theorem dX11_best_5 : decode cX11_best 5 = .ok (.iconst 1, 1) := by decide +kernel
theorem dX11_best_6 : decode cX11_best 6 = .ok (.if_icmp .ne 17, 3) := by decide +kernel
theorem dX11_best_9 : decode cX11_best 9 = .ok (.iload_n 2, 1) := by decide +kernel
theorem dX11_best_10 : decode cX11_best 10 = .ok (.invokestatic 266, 3) := by decide +kernel
theorem dX11_best_13 : decode cX11_best 13 = .ok (.ifCond .eq 10, 3) := by decide +kernel
theorem dX11_best_16 : decode cX11_best 16 = .ok (.iload_n 3, 1) := by decide +kernel
theorem dX11_best_17 : decode cX11_best 17 = .ok (.invokestatic 279, 3) := by decide +kernel
theorem dX11_best_20 : decode cX11_best 20 = .ok (.ifCond .ne 5, 3) := by decide +kernel
theorem dX11_best_23 : decode cX11_best 23 = .ok (.iconst (-1), 1) := by decide +kernel
theorem dX11_best_24 : decode cX11_best 24 = .ok (.ireturn, 1) := by decide +kernel
theorem dX11_best_25 : decode cX11_best 25 = .ok (.aload_n 0, 1) := by decide +kernel
theorem dX11_best_26 : decode cX11_best 26 = .ok (.invokevirtual 269, 3) := by decide +kernel
theorem dX11_best_29 : decode cX11_best 29 = .ok (.istore 4, 2) := by decide +kernel
theorem dX11_best_31 : decode cX11_best 31 = .ok (.iload 4, 2) := by decide +kernel
theorem dX11_best_33 : decode cX11_best 33 = .ok (.ifCond .eq 6, 3) := by decide +kernel
theorem dX11_best_36 : decode cX11_best 36 = .ok (.iload 4, 2) := by decide +kernel
theorem dX11_best_38 : decode cX11_best 38 = .ok (.ireturn, 1) := by decide +kernel
theorem dX11_best_39 : decode cX11_best 39 = .ok (.aload_n 0, 1) := by decide +kernel
theorem dX11_best_40 : decode cX11_best 40 = .ok (.iload_n 2, 1) := by decide +kernel
theorem dX11_best_41 : decode cX11_best 41 = .ok (.invokevirtual 272, 3) := by decide +kernel
theorem dX11_best_44 : decode cX11_best 44 = .ok (.astore 5, 2) := by decide +kernel
theorem dX11_best_46 : decode cX11_best 46 = .ok (.iload_n 1, 1) := by decide +kernel
theorem dX11_best_47 : decode cX11_best 47 = .ok (.ifCond .ne 9, 3) := by decide +kernel
theorem dX11_best_50 : decode cX11_best 50 = .ok (.aload 5, 2) := by decide +kernel
theorem dX11_best_52 : decode cX11_best 52 = .ok (.invokevirtual 285, 3) := by decide +kernel
theorem dX11_best_55 : decode cX11_best 55 = .ok (.ireturn, 1) := by decide +kernel
theorem dX11_best_56 : decode cX11_best 56 = .ok (.aload 5, 2) := by decide +kernel
theorem dX11_best_58 : decode cX11_best 58 = .ok (.iload_n 3, 1) := by decide +kernel
theorem dX11_best_59 : decode cX11_best 59 = .ok (.invokevirtual 282, 3) := by decide +kernel
theorem dX11_best_62 : decode cX11_best 62 = .ok (.ifCond .ne 8, 3) := by decide +kernel
theorem dX11_best_65 : decode cX11_best 65 = .ok (.bipush (-7), 2) := by decide +kernel
theorem dX11_best_67 : decode cX11_best 67 = .ok (.goto 9, 3) := by decide +kernel
theorem dX11_best_70 : decode cX11_best 70 = .ok (.aload 5, 2) := by decide +kernel
theorem dX11_best_72 : decode cX11_best 72 = .ok (.iload_n 3, 1) := by decide +kernel
theorem dX11_best_73 : decode cX11_best 73 = .ok (.invokevirtual 288, 3) := by decide +kernel
theorem dX11_best_76 : decode cX11_best 76 = .ok (.ireturn, 1) := by decide +kernel
theorem dX11_tree_0 : decode cX11_tree 0 = .ok (.iload_n 1, 1) := by decide +kernel
theorem dX11_tree_1 : decode cX11_tree 1 = .ok (.invokestatic 266, 3) := by decide +kernel
theorem dX11_tree_4 : decode cX11_tree 4 = .ok (.ifCond .eq 10, 3) := by decide +kernel
theorem dX11_tree_7 : decode cX11_tree 7 = .ok (.iload_n 2, 1) := by decide +kernel
theorem dX11_tree_8 : decode cX11_tree 8 = .ok (.invokestatic 279, 3) := by decide +kernel
theorem dX11_tree_11 : decode cX11_tree 11 = .ok (.ifCond .ne 5, 3) := by decide +kernel
theorem dX11_tree_14 : decode cX11_tree 14 = .ok (.iconst (-1), 1) := by decide +kernel
theorem dX11_tree_15 : decode cX11_tree 15 = .ok (.ireturn, 1) := by decide +kernel
theorem dX11_tree_16 : decode cX11_tree 16 = .ok (.aload_n 0, 1) := by decide +kernel
theorem dX11_tree_17 : decode cX11_tree 17 = .ok (.invokevirtual 269, 3) := by decide +kernel
theorem dX11_tree_20 : decode cX11_tree 20 = .ok (.istore_n 3, 1) := by decide +kernel
theorem dX11_tree_21 : decode cX11_tree 21 = .ok (.iload_n 3, 1) := by decide +kernel
theorem dX11_tree_22 : decode cX11_tree 22 = .ok (.ifCond .eq 5, 3) := by decide +kernel
theorem dX11_tree_25 : decode cX11_tree 25 = .ok (.iload_n 3, 1) := by decide +kernel
theorem dX11_tree_26 : decode cX11_tree 26 = .ok (.ireturn, 1) := by decide +kernel
theorem dX11_tree_27 : decode cX11_tree 27 = .ok (.aload_n 0, 1) := by decide +kernel
theorem dX11_tree_28 : decode cX11_tree 28 = .ok (.iload_n 1, 1) := by decide +kernel
theorem dX11_tree_29 : decode cX11_tree 29 = .ok (.invokevirtual 272, 3) := by decide +kernel
theorem dX11_tree_32 : decode cX11_tree 32 = .ok (.astore 4, 2) := by decide +kernel
theorem dX11_tree_34 : decode cX11_tree 34 = .ok (.aload 4, 2) := by decide +kernel
theorem dX11_tree_36 : decode cX11_tree 36 = .ok (.iload_n 2, 1) := by decide +kernel
theorem dX11_tree_37 : decode cX11_tree 37 = .ok (.invokevirtual 282, 3) := by decide +kernel
theorem dX11_tree_40 : decode cX11_tree 40 = .ok (.ifCond .ne 6, 3) := by decide +kernel
theorem dX11_tree_43 : decode cX11_tree 43 = .ok (.bipush (-7), 2) := by decide +kernel
theorem dX11_tree_45 : decode cX11_tree 45 = .ok (.ireturn, 1) := by decide +kernel
theorem dX11_tree_46 : decode cX11_tree 46 = .ok (.aload 4, 2) := by decide +kernel
theorem dX11_tree_48 : decode cX11_tree 48 = .ok (.aload_n 0, 1) := by decide +kernel
theorem dX11_tree_49 : decode cX11_tree 49 = .ok (.getfield 68, 3) := by decide +kernel
theorem dX11_tree_52 : decode cX11_tree 52 = .ok (.iload_n 2, 1) := by decide +kernel
theorem dX11_tree_53 : decode cX11_tree 53 = .ok (.invokevirtual 291, 3) := by decide +kernel
theorem dX11_tree_56 : decode cX11_tree 56 = .ok (.aload_n 0, 1) := by decide +kernel
theorem dX11_tree_57 : decode cX11_tree 57 = .ok (.getfield 68, 3) := by decide +kernel
theorem dX11_tree_60 : decode cX11_tree 60 = .ok (.getfield 110, 3) := by decide +kernel
theorem dX11_tree_63 : decode cX11_tree 63 = .ok (.ireturn, 1) := by decide +kernel
theorem dX11_isPool_0 : decode cX11_isPool 0 = .ok (.iload_n 0, 1) := by decide +kernel
theorem dX11_isPool_1 : decode cX11_isPool 1 = .ok (.ifCond .eq 8, 3) := by decide +kernel
theorem dX11_isPool_4 : decode cX11_isPool 4 = .ok (.iload_n 0, 1) := by decide +kernel
theorem dX11_isPool_5 : decode cX11_isPool 5 = .ok (.iconst 1, 1) := by decide +kernel
theorem dX11_isPool_6 : decode cX11_isPool 6 = .ok (.if_icmp .ne 7, 3) := by decide +kernel
theorem dX11_isPool_9 : decode cX11_isPool 9 = .ok (.iconst 1, 1) := by decide +kernel
theorem dX11_isPool_10 : decode cX11_isPool 10 = .ok (.goto 4, 3) := by decide +kernel
theorem dX11_isPool_13 : decode cX11_isPool 13 = .ok (.iconst 0, 1) := by decide +kernel
theorem dX11_isPool_14 : decode cX11_isPool 14 = .ok (.ireturn, 1) := by decide +kernel
theorem dX11_isDepth_0 : decode cX11_isDepth 0 = .ok (.iload_n 0, 1) := by decide +kernel
theorem dX11_isDepth_1 : decode cX11_isDepth 1 = .ok (.ifCond .lt 13, 3) := by decide +kernel
theorem dX11_isDepth_4 : decode cX11_isDepth 4 = .ok (.iload_n 0, 1) := by decide +kernel
theorem dX11_isDepth_5 : decode cX11_isDepth 5 = .ok (.bipush 20, 2) := by decide +kernel
theorem dX11_isDepth_7 : decode cX11_isDepth 7 = .ok (.if_icmp .gt 7, 3) := by decide +kernel
theorem dX11_isDepth_10 : decode cX11_isDepth 10 = .ok (.iconst 1, 1) := by decide +kernel
theorem dX11_isDepth_11 : decode cX11_isDepth 11 = .ok (.goto 4, 3) := by decide +kernel
theorem dX11_isDepth_14 : decode cX11_isDepth 14 = .ok (.iconst 0, 1) := by decide +kernel
theorem dX11_isDepth_15 : decode cX11_isDepth 15 = .ok (.ireturn, 1) := by decide +kernel
theorem dX11_whyNoTrees_0 : decode cX11_whyNoTrees 0 = .ok (.aload_n 0, 1) := by decide +kernel
theorem dX11_whyNoTrees_1 : decode cX11_whyNoTrees 1 = .ok (.getfield 21, 3) := by decide +kernel
theorem dX11_whyNoTrees_4 : decode cX11_whyNoTrees 4 = .ok (.getfield 142, 3) := by decide +kernel
theorem dX11_whyNoTrees_7 : decode cX11_whyNoTrees 7 = .ok (.ifCond .eq 6, 3) := by decide +kernel
theorem dX11_whyNoTrees_10 : decode cX11_whyNoTrees 10 = .ok (.bipush (-6), 2) := by decide +kernel
theorem dX11_whyNoTrees_12 : decode cX11_whyNoTrees 12 = .ok (.ireturn, 1) := by decide +kernel
theorem dX11_whyNoTrees_13 : decode cX11_whyNoTrees 13 = .ok (.aload_n 0, 1) := by decide +kernel
theorem dX11_whyNoTrees_14 : decode cX11_whyNoTrees 14 = .ok (.getfield 21, 3) := by decide +kernel
theorem dX11_whyNoTrees_17 : decode cX11_whyNoTrees 17 = .ok (.getfield 182, 3) := by decide +kernel
theorem dX11_whyNoTrees_20 : decode cX11_whyNoTrees 20 = .ok (.ifCond .eq 28, 3) := by decide +kernel
theorem dX11_whyNoTrees_23 : decode cX11_whyNoTrees 23 = .ok (.aload_n 0, 1) := by decide +kernel
theorem dX11_whyNoTrees_24 : decode cX11_whyNoTrees 24 = .ok (.getfield 21, 3) := by decide +kernel
theorem dX11_whyNoTrees_27 : decode cX11_whyNoTrees 27 = .ok (.getfield 182, 3) := by decide +kernel
theorem dX11_whyNoTrees_30 : decode cX11_whyNoTrees 30 = .ok (.bipush 10, 2) := by decide +kernel
theorem dX11_whyNoTrees_32 : decode cX11_whyNoTrees 32 = .ok (.if_icmp .gt 16, 3) := by decide +kernel
theorem dX11_whyNoTrees_35 : decode cX11_whyNoTrees 35 = .ok (.aload_n 0, 1) := by decide +kernel
theorem dX11_whyNoTrees_36 : decode cX11_whyNoTrees 36 = .ok (.getfield 12, 3) := by decide +kernel
theorem dX11_whyNoTrees_39 : decode cX11_whyNoTrees 39 = .ok (.getfield 94, 3) := by decide +kernel
theorem dX11_whyNoTrees_42 : decode cX11_whyNoTrees 42 = .ok (.sipush 1296, 3) := by decide +kernel
theorem dX11_whyNoTrees_45 : decode cX11_whyNoTrees 45 = .ok (.if_icmp .le 6, 3) := by decide +kernel
theorem dX11_whyNoTrees_48 : decode cX11_whyNoTrees 48 = .ok (.bipush (-5), 2) := by decide +kernel
theorem dX11_whyNoTrees_50 : decode cX11_whyNoTrees 50 = .ok (.ireturn, 1) := by decide +kernel
theorem dX11_whyNoTrees_51 : decode cX11_whyNoTrees 51 = .ok (.iconst 0, 1) := by decide +kernel
theorem dX11_whyNoTrees_52 : decode cX11_whyNoTrees 52 = .ok (.ireturn, 1) := by decide +kernel
theorem dX11_forestOf_0 : decode cX11_forestOf 0 = .ok (.iload_n 1, 1) := by decide +kernel
theorem dX11_forestOf_1 : decode cX11_forestOf 1 = .ok (.ifCond .ne 10, 3) := by decide +kernel
theorem dX11_forestOf_4 : decode cX11_forestOf 4 = .ok (.aload_n 0, 1) := by decide +kernel
theorem dX11_forestOf_5 : decode cX11_forestOf 5 = .ok (.getfield 58, 3) := by decide +kernel
theorem dX11_forestOf_8 : decode cX11_forestOf 8 = .ok (.goto 7, 3) := by decide +kernel
theorem dX11_forestOf_11 : decode cX11_forestOf 11 = .ok (.aload_n 0, 1) := by decide +kernel
theorem dX11_forestOf_12 : decode cX11_forestOf 12 = .ok (.getfield 62, 3) := by decide +kernel
theorem dX11_forestOf_15 : decode cX11_forestOf 15 = .ok (.astore_n 2, 1) := by decide +kernel
theorem dX11_forestOf_16 : decode cX11_forestOf 16 = .ok (.aload_n 2, 1) := by decide +kernel
theorem dX11_forestOf_17 : decode cX11_forestOf 17 = .ok (.aload_n 0, 1) := by decide +kernel
theorem dX11_forestOf_18 : decode cX11_forestOf 18 = .ok (.getfield 21, 3) := by decide +kernel
theorem dX11_forestOf_21 : decode cX11_forestOf 21 = .ok (.invokevirtual 295, 3) := by decide +kernel
theorem dX11_forestOf_24 : decode cX11_forestOf 24 = .ok (.aload_n 2, 1) := by decide +kernel
theorem dX11_forestOf_25 : decode cX11_forestOf 25 = .ok (.areturn, 1) := by decide +kernel
theorem dX11_node_0 : decode cX11_node 0 = .ok (.iload_n 1, 1) := by decide +kernel
theorem dX11_node_1 : decode cX11_node 1 = .ok (.ifCond .lt 14, 3) := by decide +kernel
theorem dX11_node_4 : decode cX11_node 4 = .ok (.iload_n 1, 1) := by decide +kernel
theorem dX11_node_5 : decode cX11_node 5 = .ok (.aload_n 0, 1) := by decide +kernel
theorem dX11_node_6 : decode cX11_node 6 = .ok (.getfield 68, 3) := by decide +kernel
theorem dX11_node_9 : decode cX11_node 9 = .ok (.getfield 110, 3) := by decide +kernel
theorem dX11_node_12 : decode cX11_node 12 = .ok (.if_icmp .lt 5, 3) := by decide +kernel
theorem dX11_node_15 : decode cX11_node 15 = .ok (.iconst (-1), 1) := by decide +kernel
theorem dX11_node_16 : decode cX11_node 16 = .ok (.ireturn, 1) := by decide +kernel
theorem dX11_node_17 : decode cX11_node 17 = .ok (.iload_n 2, 1) := by decide +kernel
theorem dX11_node_18 : decode cX11_node 18 = .ok (.tableswitch 84 0 4 #[34, 44, 54, 64, 74], 34) := by decide +kernel
theorem dX11_node_52 : decode cX11_node 52 = .ok (.aload_n 0, 1) := by decide +kernel
theorem dX11_node_53 : decode cX11_node 53 = .ok (.getfield 68, 3) := by decide +kernel
theorem dX11_node_56 : decode cX11_node 56 = .ok (.getfield 299, 3) := by decide +kernel
theorem dX11_node_59 : decode cX11_node 59 = .ok (.iload_n 1, 1) := by decide +kernel
theorem dX11_node_60 : decode cX11_node 60 = .ok (.iaload, 1) := by decide +kernel
theorem dX11_node_61 : decode cX11_node 61 = .ok (.ireturn, 1) := by decide +kernel
theorem dX11_node_62 : decode cX11_node 62 = .ok (.aload_n 0, 1) := by decide +kernel
theorem dX11_node_63 : decode cX11_node 63 = .ok (.getfield 68, 3) := by decide +kernel
theorem dX11_node_66 : decode cX11_node 66 = .ok (.getfield 302, 3) := by decide +kernel
theorem dX11_node_69 : decode cX11_node 69 = .ok (.iload_n 1, 1) := by decide +kernel
theorem dX11_node_70 : decode cX11_node 70 = .ok (.iaload, 1) := by decide +kernel
theorem dX11_node_71 : decode cX11_node 71 = .ok (.ireturn, 1) := by decide +kernel
theorem dX11_node_72 : decode cX11_node 72 = .ok (.aload_n 0, 1) := by decide +kernel
theorem dX11_node_73 : decode cX11_node 73 = .ok (.getfield 68, 3) := by decide +kernel
theorem dX11_node_76 : decode cX11_node 76 = .ok (.getfield 305, 3) := by decide +kernel
theorem dX11_node_79 : decode cX11_node 79 = .ok (.iload_n 1, 1) := by decide +kernel
theorem dX11_node_80 : decode cX11_node 80 = .ok (.iaload, 1) := by decide +kernel
theorem dX11_node_81 : decode cX11_node 81 = .ok (.ireturn, 1) := by decide +kernel
theorem dX11_node_82 : decode cX11_node 82 = .ok (.aload_n 0, 1) := by decide +kernel
theorem dX11_node_83 : decode cX11_node 83 = .ok (.getfield 68, 3) := by decide +kernel
theorem dX11_node_86 : decode cX11_node 86 = .ok (.getfield 306, 3) := by decide +kernel
theorem dX11_node_89 : decode cX11_node 89 = .ok (.iload_n 1, 1) := by decide +kernel
theorem dX11_node_90 : decode cX11_node 90 = .ok (.iaload, 1) := by decide +kernel
theorem dX11_node_91 : decode cX11_node 91 = .ok (.ireturn, 1) := by decide +kernel
theorem dX11_node_92 : decode cX11_node 92 = .ok (.aload_n 0, 1) := by decide +kernel
theorem dX11_node_93 : decode cX11_node 93 = .ok (.getfield 68, 3) := by decide +kernel
theorem dX11_node_96 : decode cX11_node 96 = .ok (.getfield 307, 3) := by decide +kernel
theorem dX11_node_99 : decode cX11_node 99 = .ok (.iload_n 1, 1) := by decide +kernel
theorem dX11_node_100 : decode cX11_node 100 = .ok (.iaload, 1) := by decide +kernel
theorem dX11_node_101 : decode cX11_node 101 = .ok (.ireturn, 1) := by decide +kernel
theorem dX11_node_102 : decode cX11_node 102 = .ok (.iconst (-1), 1) := by decide +kernel
theorem dX11_node_103 : decode cX11_node 103 = .ok (.ireturn, 1) := by decide +kernel
theorem dX11_plan_0 : decode cX11_plan 0 = .ok (.aload_n 0, 1) := by decide +kernel
theorem dX11_plan_1 : decode cX11_plan 1 = .ok (.getfield 75, 3) := by decide +kernel
theorem dX11_plan_4 : decode cX11_plan 4 = .ok (.getfield 310, 3) := by decide +kernel
theorem dX11_plan_7 : decode cX11_plan 7 = .ok (.ifCond .ne 11, 3) := by decide +kernel
theorem dX11_plan_10 : decode cX11_plan 10 = .ok (.iload_n 1, 1) := by decide +kernel
theorem dX11_plan_11 : decode cX11_plan 11 = .ok (.iconst (-1), 1) := by decide +kernel
theorem dX11_plan_12 : decode cX11_plan 12 = .ok (.if_icmp .eq 30, 3) := by decide +kernel
theorem dX11_plan_15 : decode cX11_plan 15 = .ok (.goto 25, 3) := by decide +kernel
theorem dX11_plan_18 : decode cX11_plan 18 = .ok (.aload_n 0, 1) := by decide +kernel
theorem dX11_plan_19 : decode cX11_plan 19 = .ok (.getfield 75, 3) := by decide +kernel
theorem dX11_plan_22 : decode cX11_plan 22 = .ok (.iload_n 1, 1) := by decide +kernel
theorem dX11_plan_23 : decode cX11_plan 23 = .ok (.invokevirtual 311, 3) := by decide +kernel
theorem dX11_plan_26 : decode cX11_plan 26 = .ok (.ifCond .eq 14, 3) := by decide +kernel
theorem dX11_plan_29 : decode cX11_plan 29 = .ok (.aload_n 0, 1) := by decide +kernel
theorem dX11_plan_30 : decode cX11_plan 30 = .ok (.getfield 12, 3) := by decide +kernel
theorem dX11_plan_33 : decode cX11_plan 33 = .ok (.iload_n 2, 1) := by decide +kernel
theorem dX11_plan_34 : decode cX11_plan 34 = .ok (.invokevirtual 205, 3) := by decide +kernel
theorem dX11_plan_37 : decode cX11_plan 37 = .ok (.ifCond .ne 5, 3) := by decide +kernel
theorem dX11_plan_40 : decode cX11_plan 40 = .ok (.iconst (-1), 1) := by decide +kernel
theorem dX11_plan_41 : decode cX11_plan 41 = .ok (.ireturn, 1) := by decide +kernel
theorem dX11_plan_42 : decode cX11_plan 42 = .ok (.aload_n 0, 1) := by decide +kernel
theorem dX11_plan_43 : decode cX11_plan 43 = .ok (.getfield 12, 3) := by decide +kernel
theorem dX11_plan_46 : decode cX11_plan 46 = .ok (.iload_n 3, 1) := by decide +kernel
theorem dX11_plan_47 : decode cX11_plan 47 = .ok (.invokevirtual 128, 3) := by decide +kernel
theorem dX11_plan_50 : decode cX11_plan 50 = .ok (.ifCond .ne 5, 3) := by decide +kernel
theorem dX11_plan_53 : decode cX11_plan 53 = .ok (.iconst (-1), 1) := by decide +kernel
theorem dX11_plan_54 : decode cX11_plan 54 = .ok (.ireturn, 1) := by decide +kernel
theorem dX11_plan_55 : decode cX11_plan 55 = .ok (.aload_n 0, 1) := by decide +kernel
theorem dX11_plan_56 : decode cX11_plan 56 = .ok (.getfield 75, 3) := by decide +kernel
theorem dX11_plan_59 : decode cX11_plan 59 = .ok (.getfield 310, 3) := by decide +kernel
theorem dX11_plan_62 : decode cX11_plan 62 = .ok (.bipush 40, 2) := by decide +kernel
theorem dX11_plan_64 : decode cX11_plan 64 = .ok (.if_icmp .lt 6, 3) := by decide +kernel
theorem dX11_plan_67 : decode cX11_plan 67 = .ok (.bipush (-2), 2) := by decide +kernel
theorem dX11_plan_69 : decode cX11_plan 69 = .ok (.ireturn, 1) := by decide +kernel
theorem dX11_plan_70 : decode cX11_plan 70 = .ok (.aload_n 0, 1) := by decide +kernel
theorem dX11_plan_71 : decode cX11_plan 71 = .ok (.getfield 75, 3) := by decide +kernel
theorem dX11_plan_74 : decode cX11_plan 74 = .ok (.iload_n 1, 1) := by decide +kernel
theorem dX11_plan_75 : decode cX11_plan 75 = .ok (.iload_n 2, 1) := by decide +kernel
theorem dX11_plan_76 : decode cX11_plan 76 = .ok (.iload_n 3, 1) := by decide +kernel
theorem dX11_plan_77 : decode cX11_plan 77 = .ok (.invokevirtual 312, 3) := by decide +kernel
theorem dX11_plan_80 : decode cX11_plan 80 = .ok (.aload_n 0, 1) := by decide +kernel
theorem dX11_plan_81 : decode cX11_plan 81 = .ok (.getfield 75, 3) := by decide +kernel
theorem dX11_plan_84 : decode cX11_plan 84 = .ok (.getfield 310, 3) := by decide +kernel
theorem dX11_plan_87 : decode cX11_plan 87 = .ok (.iconst 1, 1) := by decide +kernel
theorem dX11_plan_88 : decode cX11_plan 88 = .ok (.isub, 1) := by decide +kernel
theorem dX11_plan_89 : decode cX11_plan 89 = .ok (.ireturn, 1) := by decide +kernel
theorem dX11_drop_0 : decode cX11_drop 0 = .ok (.aload_n 0, 1) := by decide +kernel
theorem dX11_drop_1 : decode cX11_drop 1 = .ok (.getfield 75, 3) := by decide +kernel
theorem dX11_drop_4 : decode cX11_drop 4 = .ok (.getfield 310, 3) := by decide +kernel
theorem dX11_drop_7 : decode cX11_drop 7 = .ok (.istore_n 1, 1) := by decide +kernel
theorem dX11_drop_8 : decode cX11_drop 8 = .ok (.aload_n 0, 1) := by decide +kernel
theorem dX11_drop_9 : decode cX11_drop 9 = .ok (.getfield 75, 3) := by decide +kernel
theorem dX11_drop_12 : decode cX11_drop 12 = .ok (.invokevirtual 113, 3) := by decide +kernel
theorem dX11_drop_15 : decode cX11_drop 15 = .ok (.iload_n 1, 1) := by decide +kernel
theorem dX11_drop_16 : decode cX11_drop 16 = .ok (.ireturn, 1) := by decide +kernel
theorem dX11_judge_0 : decode cX11_judge 0 = .ok (.aload_n 0, 1) := by decide +kernel
theorem dX11_judge_1 : decode cX11_judge 1 = .ok (.getfield 75, 3) := by decide +kernel
theorem dX11_judge_4 : decode cX11_judge 4 = .ok (.getfield 310, 3) := by decide +kernel
theorem dX11_judge_7 : decode cX11_judge 7 = .ok (.ifCond .eq 13, 3) := by decide +kernel
theorem dX11_judge_10 : decode cX11_judge 10 = .ok (.aload_n 0, 1) := by decide +kernel
theorem dX11_judge_11 : decode cX11_judge 11 = .ok (.getfield 21, 3) := by decide +kernel
theorem dX11_judge_14 : decode cX11_judge 14 = .ok (.getfield 182, 3) := by decide +kernel
theorem dX11_judge_17 : decode cX11_judge 17 = .ok (.ifCond .ne 5, 3) := by decide +kernel
theorem dX11_judge_20 : decode cX11_judge 20 = .ok (.iconst (-1), 1) := by decide +kernel
theorem dX11_judge_21 : decode cX11_judge 21 = .ok (.ireturn, 1) := by decide +kernel
theorem dX11_judge_22 : decode cX11_judge 22 = .ok (.aload_n 0, 1) := by decide +kernel
theorem dX11_judge_23 : decode cX11_judge 23 = .ok (.getfield 21, 3) := by decide +kernel
theorem dX11_judge_26 : decode cX11_judge 26 = .ok (.getfield 142, 3) := by decide +kernel
theorem dX11_judge_29 : decode cX11_judge 29 = .ok (.ifCond .eq 6, 3) := by decide +kernel
theorem dX11_judge_32 : decode cX11_judge 32 = .ok (.bipush (-6), 2) := by decide +kernel
theorem dX11_judge_34 : decode cX11_judge 34 = .ok (.ireturn, 1) := by decide +kernel
theorem dX11_judge_35 : decode cX11_judge 35 = .ok (.aload_n 0, 1) := by decide +kernel
theorem dX11_judge_36 : decode cX11_judge 36 = .ok (.getfield 75, 3) := by decide +kernel
theorem dX11_judge_39 : decode cX11_judge 39 = .ok (.aload_n 0, 1) := by decide +kernel
theorem dX11_judge_40 : decode cX11_judge 40 = .ok (.getfield 21, 3) := by decide +kernel
theorem dX11_judge_43 : decode cX11_judge 43 = .ok (.invokevirtual 316, 3) := by decide +kernel
theorem dX11_judge_46 : decode cX11_judge 46 = .ok (.aload_n 0, 1) := by decide +kernel
theorem dX11_judge_47 : decode cX11_judge 47 = .ok (.getfield 75, 3) := by decide +kernel
theorem dX11_judge_50 : decode cX11_judge 50 = .ok (.invokevirtual 319, 3) := by decide +kernel
theorem dX11_judge_53 : decode cX11_judge 53 = .ok (.istore_n 1, 1) := by decide +kernel
theorem dX11_judge_54 : decode cX11_judge 54 = .ok (.iload_n 1, 1) := by decide +kernel
theorem dX11_judge_55 : decode cX11_judge 55 = .ok (.iconst (-1), 1) := by decide +kernel
theorem dX11_judge_56 : decode cX11_judge 56 = .ok (.if_icmp .ne 13, 3) := by decide +kernel
theorem dX11_judge_59 : decode cX11_judge 59 = .ok (.aload_n 0, 1) := by decide +kernel
theorem dX11_judge_60 : decode cX11_judge 60 = .ok (.getfield 75, 3) := by decide +kernel
theorem dX11_judge_63 : decode cX11_judge 63 = .ok (.getfield 322, 3) := by decide +kernel
theorem dX11_judge_66 : decode cX11_judge 66 = .ok (.goto 7, 3) := by decide +kernel
theorem dX11_judge_69 : decode cX11_judge 69 = .ok (.bipush (-20), 2) := by decide +kernel
theorem dX11_judge_71 : decode cX11_judge 71 = .ok (.iload_n 1, 1) := by decide +kernel
theorem dX11_judge_72 : decode cX11_judge 72 = .ok (.isub, 1) := by decide +kernel
theorem dX11_judge_73 : decode cX11_judge 73 = .ok (.ireturn, 1) := by decide +kernel
theorem dX11_total_0 : decode cX11_total 0 = .ok (.aload_n 0, 1) := by decide +kernel
theorem dX11_total_1 : decode cX11_total 1 = .ok (.invokevirtual 325, 3) := by decide +kernel
theorem dX11_total_4 : decode cX11_total 4 = .ok (.ifCond .le 13, 3) := by decide +kernel
theorem dX11_total_7 : decode cX11_total 7 = .ok (.aload_n 0, 1) := by decide +kernel
theorem dX11_total_8 : decode cX11_total 8 = .ok (.getfield 75, 3) := by decide +kernel
theorem dX11_total_11 : decode cX11_total 11 = .ok (.getfield 328, 3) := by decide +kernel
theorem dX11_total_14 : decode cX11_total 14 = .ok (.goto 4, 3) := by decide +kernel
theorem dX11_total_17 : decode cX11_total 17 = .ok (.iconst (-1), 1) := by decide +kernel
theorem dX11_total_18 : decode cX11_total 18 = .ok (.ireturn, 1) := by decide +kernel
theorem dX11_rack_0 : decode cX11_rack 0 = .ok (.iload_n 1, 1) := by decide +kernel
theorem dX11_rack_1 : decode cX11_rack 1 = .ok (.invokestatic 331, 3) := by decide +kernel
theorem dX11_rack_4 : decode cX11_rack 4 = .ok (.ifCond .eq 19, 3) := by decide +kernel
theorem dX11_rack_7 : decode cX11_rack 7 = .ok (.iload_n 2, 1) := by decide +kernel
theorem dX11_rack_8 : decode cX11_rack 8 = .ok (.iconst 1, 1) := by decide +kernel
theorem dX11_rack_9 : decode cX11_rack 9 = .ok (.if_icmp .lt 14, 3) := by decide +kernel
theorem dX11_rack_12 : decode cX11_rack 12 = .ok (.iload_n 2, 1) := by decide +kernel
theorem dX11_rack_13 : decode cX11_rack 13 = .ok (.iconst 3, 1) := by decide +kernel
theorem dX11_rack_14 : decode cX11_rack 14 = .ok (.if_icmp .gt 9, 3) := by decide +kernel
theorem dX11_rack_17 : decode cX11_rack 17 = .ok (.iload_n 3, 1) := by decide +kernel
theorem dX11_rack_18 : decode cX11_rack 18 = .ok (.bipush 60, 2) := by decide +kernel
theorem dX11_rack_20 : decode cX11_rack 20 = .ok (.if_icmp .le 5, 3) := by decide +kernel
theorem dX11_rack_23 : decode cX11_rack 23 = .ok (.iconst (-1), 1) := by decide +kernel
theorem dX11_rack_24 : decode cX11_rack 24 = .ok (.ireturn, 1) := by decide +kernel
theorem dX11_rack_25 : decode cX11_rack 25 = .ok (.iload_n 3, 1) := by decide +kernel
theorem dX11_rack_26 : decode cX11_rack 26 = .ok (.ifCond .ge 10, 3) := by decide +kernel
theorem dX11_rack_29 : decode cX11_rack 29 = .ok (.aload_n 0, 1) := by decide +kernel
theorem dX11_rack_30 : decode cX11_rack 30 = .ok (.bipush (-14), 2) := by decide +kernel
theorem dX11_rack_32 : decode cX11_rack 32 = .ok (.invokevirtual 151, 3) := by decide +kernel
theorem dX11_rack_35 : decode cX11_rack 35 = .ok (.ireturn, 1) := by decide +kernel
theorem dX11_rack_36 : decode cX11_rack 36 = .ok (.aload_n 0, 1) := by decide +kernel
theorem dX11_rack_37 : decode cX11_rack 37 = .ok (.getfield 81, 3) := by decide +kernel
theorem dX11_rack_40 : decode cX11_rack 40 = .ok (.iload_n 1, 1) := by decide +kernel
theorem dX11_rack_41 : decode cX11_rack 41 = .ok (.aaload, 1) := by decide +kernel
theorem dX11_rack_42 : decode cX11_rack 42 = .ok (.iload_n 2, 1) := by decide +kernel
theorem dX11_rack_43 : decode cX11_rack 43 = .ok (.iload_n 3, 1) := by decide +kernel
theorem dX11_rack_44 : decode cX11_rack 44 = .ok (.invokevirtual 334, 3) := by decide +kernel
theorem dX11_rack_47 : decode cX11_rack 47 = .ok (.iload_n 3, 1) := by decide +kernel
theorem dX11_rack_48 : decode cX11_rack 48 = .ok (.ireturn, 1) := by decide +kernel
theorem dX11_keep_0 : decode cX11_keep 0 = .ok (.iload_n 1, 1) := by decide +kernel
theorem dX11_keep_1 : decode cX11_keep 1 = .ok (.invokestatic 331, 3) := by decide +kernel
theorem dX11_keep_4 : decode cX11_keep 4 = .ok (.ifCond .ne 5, 3) := by decide +kernel
theorem dX11_keep_7 : decode cX11_keep 7 = .ok (.iconst (-1), 1) := by decide +kernel
theorem dX11_keep_8 : decode cX11_keep 8 = .ok (.ireturn, 1) := by decide +kernel
theorem dX11_keep_9 : decode cX11_keep 9 = .ok (.aload_n 0, 1) := by decide +kernel
theorem dX11_keep_10 : decode cX11_keep 10 = .ok (.invokevirtual 171, 3) := by decide +kernel
theorem dX11_keep_13 : decode cX11_keep 13 = .ok (.istore_n 2, 1) := by decide +kernel
theorem dX11_keep_14 : decode cX11_keep 14 = .ok (.aload_n 0, 1) := by decide +kernel
theorem dX11_keep_15 : decode cX11_keep 15 = .ok (.getfield 81, 3) := by decide +kernel
theorem dX11_keep_18 : decode cX11_keep 18 = .ok (.iload_n 1, 1) := by decide +kernel
theorem dX11_keep_19 : decode cX11_keep 19 = .ok (.aaload, 1) := by decide +kernel
theorem dX11_keep_20 : decode cX11_keep 20 = .ok (.aload_n 0, 1) := by decide +kernel
theorem dX11_keep_21 : decode cX11_keep 21 = .ok (.getfield 28, 3) := by decide +kernel
theorem dX11_keep_24 : decode cX11_keep 24 = .ok (.aload_n 0, 1) := by decide +kernel
theorem dX11_keep_25 : decode cX11_keep 25 = .ok (.getfield 12, 3) := by decide +kernel
theorem dX11_keep_28 : decode cX11_keep 28 = .ok (.getfield 162, 3) := by decide +kernel
theorem dX11_keep_31 : decode cX11_keep 31 = .ok (.iload_n 2, 1) := by decide +kernel
theorem dX11_keep_32 : decode cX11_keep 32 = .ok (.invokevirtual 337, 3) := by decide +kernel
theorem dX11_keep_35 : decode cX11_keep 35 = .ok (.iload_n 2, 1) := by decide +kernel
theorem dX11_keep_36 : decode cX11_keep 36 = .ok (.ireturn, 1) := by decide +kernel
theorem dX11_clear_0 : decode cX11_clear 0 = .ok (.iload_n 1, 1) := by decide +kernel
theorem dX11_clear_1 : decode cX11_clear 1 = .ok (.invokestatic 331, 3) := by decide +kernel
theorem dX11_clear_4 : decode cX11_clear 4 = .ok (.ifCond .ne 5, 3) := by decide +kernel
theorem dX11_clear_7 : decode cX11_clear 7 = .ok (.iconst (-1), 1) := by decide +kernel
theorem dX11_clear_8 : decode cX11_clear 8 = .ok (.ireturn, 1) := by decide +kernel
theorem dX11_clear_9 : decode cX11_clear 9 = .ok (.aload_n 0, 1) := by decide +kernel
theorem dX11_clear_10 : decode cX11_clear 10 = .ok (.getfield 81, 3) := by decide +kernel
theorem dX11_clear_13 : decode cX11_clear 13 = .ok (.iload_n 1, 1) := by decide +kernel
theorem dX11_clear_14 : decode cX11_clear 14 = .ok (.aaload, 1) := by decide +kernel
theorem dX11_clear_15 : decode cX11_clear 15 = .ok (.getfield 341, 3) := by decide +kernel
theorem dX11_clear_18 : decode cX11_clear 18 = .ok (.istore_n 2, 1) := by decide +kernel
theorem dX11_clear_19 : decode cX11_clear 19 = .ok (.aload_n 0, 1) := by decide +kernel
theorem dX11_clear_20 : decode cX11_clear 20 = .ok (.getfield 81, 3) := by decide +kernel
theorem dX11_clear_23 : decode cX11_clear 23 = .ok (.iload_n 1, 1) := by decide +kernel
theorem dX11_clear_24 : decode cX11_clear 24 = .ok (.aaload, 1) := by decide +kernel
theorem dX11_clear_25 : decode cX11_clear 25 = .ok (.iconst 0, 1) := by decide +kernel
theorem dX11_clear_26 : decode cX11_clear 26 = .ok (.putfield 341, 3) := by decide +kernel
theorem dX11_clear_29 : decode cX11_clear 29 = .ok (.iload_n 2, 1) := by decide +kernel
theorem dX11_clear_30 : decode cX11_clear 30 = .ok (.ireturn, 1) := by decide +kernel
theorem dX11_put_0 : decode cX11_put 0 = .ok (.iload_n 1, 1) := by decide +kernel
theorem dX11_put_1 : decode cX11_put 1 = .ok (.invokestatic 331, 3) := by decide +kernel
theorem dX11_put_4 : decode cX11_put 4 = .ok (.ifCond .ne 5, 3) := by decide +kernel
theorem dX11_put_7 : decode cX11_put 7 = .ok (.iconst (-1), 1) := by decide +kernel
theorem dX11_put_8 : decode cX11_put 8 = .ok (.ireturn, 1) := by decide +kernel
theorem dX11_put_9 : decode cX11_put 9 = .ok (.aload_n 0, 1) := by decide +kernel
theorem dX11_put_10 : decode cX11_put 10 = .ok (.getfield 81, 3) := by decide +kernel
theorem dX11_put_13 : decode cX11_put 13 = .ok (.iload_n 1, 1) := by decide +kernel
theorem dX11_put_14 : decode cX11_put 14 = .ok (.aaload, 1) := by decide +kernel
theorem dX11_put_15 : decode cX11_put 15 = .ok (.astore 4, 2) := by decide +kernel
theorem dX11_put_17 : decode cX11_put 17 = .ok (.aload 4, 2) := by decide +kernel
theorem dX11_put_19 : decode cX11_put 19 = .ok (.invokevirtual 344, 3) := by decide +kernel
theorem dX11_put_22 : decode cX11_put 22 = .ok (.istore 5, 2) := by decide +kernel
theorem dX11_put_24 : decode cX11_put 24 = .ok (.iload 5, 2) := by decide +kernel
theorem dX11_put_26 : decode cX11_put 26 = .ok (.ifCond .eq 10, 3) := by decide +kernel
theorem dX11_put_29 : decode cX11_put 29 = .ok (.aload_n 0, 1) := by decide +kernel
theorem dX11_put_30 : decode cX11_put 30 = .ok (.iload 5, 2) := by decide +kernel
theorem dX11_put_32 : decode cX11_put 32 = .ok (.invokevirtual 151, 3) := by decide +kernel
theorem dX11_put_35 : decode cX11_put 35 = .ok (.ireturn, 1) := by decide +kernel
theorem dX11_put_36 : decode cX11_put 36 = .ok (.aload 4, 2) := by decide +kernel
theorem dX11_put_38 : decode cX11_put 38 = .ok (.iload_n 2, 1) := by decide +kernel
theorem dX11_put_39 : decode cX11_put 39 = .ok (.iconst 1, 1) := by decide +kernel
theorem dX11_put_40 : decode cX11_put 40 = .ok (.invokevirtual 347, 3) := by decide +kernel
theorem dX11_put_43 : decode cX11_put 43 = .ok (.ifCond .ne 10, 3) := by decide +kernel
theorem dX11_put_46 : decode cX11_put 46 = .ok (.aload_n 0, 1) := by decide +kernel
theorem dX11_put_47 : decode cX11_put 47 = .ok (.bipush (-13), 2) := by decide +kernel
theorem dX11_put_49 : decode cX11_put 49 = .ok (.invokevirtual 151, 3) := by decide +kernel
theorem dX11_put_52 : decode cX11_put 52 = .ok (.ireturn, 1) := by decide +kernel
theorem dX11_put_53 : decode cX11_put 53 = .ok (.aload 4, 2) := by decide +kernel
theorem dX11_put_55 : decode cX11_put 55 = .ok (.getfield 351, 3) := by decide +kernel
theorem dX11_put_58 : decode cX11_put 58 = .ok (.iload_n 2, 1) := by decide +kernel
theorem dX11_put_59 : decode cX11_put 59 = .ok (.iaload, 1) := by decide +kernel
theorem dX11_put_60 : decode cX11_put 60 = .ok (.istore 6, 2) := by decide +kernel
theorem dX11_put_62 : decode cX11_put 62 = .ok (.aload 4, 2) := by decide +kernel
theorem dX11_put_64 : decode cX11_put 64 = .ok (.getfield 351, 3) := by decide +kernel
theorem dX11_put_67 : decode cX11_put 67 = .ok (.iload_n 2, 1) := by decide +kernel
theorem dX11_put_68 : decode cX11_put 68 = .ok (.aload 4, 2) := by decide +kernel
theorem dX11_put_70 : decode cX11_put 70 = .ok (.iload_n 3, 1) := by decide +kernel
theorem dX11_put_71 : decode cX11_put 71 = .ok (.invokevirtual 354, 3) := by decide +kernel
theorem dX11_put_74 : decode cX11_put 74 = .ok (.iastore, 1) := by decide +kernel
theorem dX11_put_75 : decode cX11_put 75 = .ok (.iload 6, 2) := by decide +kernel
theorem dX11_put_77 : decode cX11_put 77 = .ok (.ireturn, 1) := by decide +kernel
theorem dX11_at_0 : decode cX11_at 0 = .ok (.iload_n 1, 1) := by decide +kernel
theorem dX11_at_1 : decode cX11_at 1 = .ok (.invokestatic 331, 3) := by decide +kernel
theorem dX11_at_4 : decode cX11_at 4 = .ok (.ifCond .ne 14, 3) := by decide +kernel
theorem dX11_at_7 : decode cX11_at 7 = .ok (.new 357, 3) := by decide +kernel
theorem dX11_at_10 : decode cX11_at 10 = .ok (.dup, 1) := by decide +kernel
theorem dX11_at_11 : decode cX11_at 11 = .ok (.ldc_w 359, 3) := by decide +kernel
theorem dX11_at_14 : decode cX11_at 14 = .ok (.invokespecial 361, 3) := by decide +kernel
theorem dX11_at_17 : decode cX11_at 17 = .ok (.athrow, 1) := by decide +kernel
theorem dX11_at_18 : decode cX11_at 18 = .ok (.aload_n 0, 1) := by decide +kernel
theorem dX11_at_19 : decode cX11_at 19 = .ok (.getfield 81, 3) := by decide +kernel
theorem dX11_at_22 : decode cX11_at 22 = .ok (.iload_n 1, 1) := by decide +kernel
theorem dX11_at_23 : decode cX11_at 23 = .ok (.aaload, 1) := by decide +kernel
theorem dX11_at_24 : decode cX11_at 24 = .ok (.astore_n 3, 1) := by decide +kernel
theorem dX11_at_25 : decode cX11_at 25 = .ok (.aload_n 3, 1) := by decide +kernel
theorem dX11_at_26 : decode cX11_at 26 = .ok (.invokevirtual 344, 3) := by decide +kernel
theorem dX11_at_29 : decode cX11_at 29 = .ok (.ifCond .eq 14, 3) := by decide +kernel
theorem dX11_at_32 : decode cX11_at 32 = .ok (.new 364, 3) := by decide +kernel
theorem dX11_at_35 : decode cX11_at 35 = .ok (.dup, 1) := by decide +kernel
theorem dX11_at_36 : decode cX11_at 36 = .ok (.ldc_w 366, 3) := by decide +kernel
theorem dX11_at_39 : decode cX11_at 39 = .ok (.invokespecial 368, 3) := by decide +kernel
theorem dX11_at_42 : decode cX11_at 42 = .ok (.athrow, 1) := by decide +kernel
theorem dX11_at_43 : decode cX11_at 43 = .ok (.aload_n 3, 1) := by decide +kernel
theorem dX11_at_44 : decode cX11_at 44 = .ok (.iload_n 2, 1) := by decide +kernel
theorem dX11_at_45 : decode cX11_at 45 = .ok (.iconst 1, 1) := by decide +kernel
theorem dX11_at_46 : decode cX11_at 46 = .ok (.invokevirtual 347, 3) := by decide +kernel
theorem dX11_at_49 : decode cX11_at 49 = .ok (.ifCond .ne 14, 3) := by decide +kernel
theorem dX11_at_52 : decode cX11_at 52 = .ok (.new 364, 3) := by decide +kernel
theorem dX11_at_55 : decode cX11_at 55 = .ok (.dup, 1) := by decide +kernel
theorem dX11_at_56 : decode cX11_at 56 = .ok (.ldc_w 369, 3) := by decide +kernel
theorem dX11_at_59 : decode cX11_at 59 = .ok (.invokespecial 368, 3) := by decide +kernel
theorem dX11_at_62 : decode cX11_at 62 = .ok (.athrow, 1) := by decide +kernel
theorem dX11_at_63 : decode cX11_at 63 = .ok (.aload_n 3, 1) := by decide +kernel
theorem dX11_at_64 : decode cX11_at 64 = .ok (.getfield 351, 3) := by decide +kernel
theorem dX11_at_67 : decode cX11_at 67 = .ok (.iload_n 2, 1) := by decide +kernel
theorem dX11_at_68 : decode cX11_at 68 = .ok (.iaload, 1) := by decide +kernel
theorem dX11_at_69 : decode cX11_at 69 = .ok (.ireturn, 1) := by decide +kernel
theorem dX11_copy_0 : decode cX11_copy 0 = .ok (.iload_n 1, 1) := by decide +kernel
theorem dX11_copy_1 : decode cX11_copy 1 = .ok (.invokestatic 331, 3) := by decide +kernel
theorem dX11_copy_4 : decode cX11_copy 4 = .ok (.ifCond .eq 10, 3) := by decide +kernel
theorem dX11_copy_7 : decode cX11_copy 7 = .ok (.iload_n 3, 1) := by decide +kernel
theorem dX11_copy_8 : decode cX11_copy 8 = .ok (.invokestatic 331, 3) := by decide +kernel
theorem dX11_copy_11 : decode cX11_copy 11 = .ok (.ifCond .ne 5, 3) := by decide +kernel
theorem dX11_copy_14 : decode cX11_copy 14 = .ok (.iconst (-1), 1) := by decide +kernel
theorem dX11_copy_15 : decode cX11_copy 15 = .ok (.ireturn, 1) := by decide +kernel
theorem dX11_copy_16 : decode cX11_copy 16 = .ok (.aload_n 0, 1) := by decide +kernel
theorem dX11_copy_17 : decode cX11_copy 17 = .ok (.getfield 81, 3) := by decide +kernel
theorem dX11_copy_20 : decode cX11_copy 20 = .ok (.iload_n 1, 1) := by decide +kernel
theorem dX11_copy_21 : decode cX11_copy 21 = .ok (.aaload, 1) := by decide +kernel
theorem dX11_copy_22 : decode cX11_copy 22 = .ok (.astore 6, 2) := by decide +kernel
theorem dX11_copy_24 : decode cX11_copy 24 = .ok (.aload_n 0, 1) := by decide +kernel
theorem dX11_copy_25 : decode cX11_copy 25 = .ok (.getfield 81, 3) := by decide +kernel
theorem dX11_copy_28 : decode cX11_copy 28 = .ok (.iload_n 3, 1) := by decide +kernel
theorem dX11_copy_29 : decode cX11_copy 29 = .ok (.aaload, 1) := by decide +kernel
theorem dX11_copy_30 : decode cX11_copy 30 = .ok (.astore 7, 2) := by decide +kernel
theorem dX11_copy_32 : decode cX11_copy 32 = .ok (.aload 6, 2) := by decide +kernel
theorem dX11_copy_34 : decode cX11_copy 34 = .ok (.getfield 341, 3) := by decide +kernel
theorem dX11_copy_37 : decode cX11_copy 37 = .ok (.ifCond .eq 11, 3) := by decide +kernel
theorem dX11_copy_40 : decode cX11_copy 40 = .ok (.aload 7, 2) := by decide +kernel
theorem dX11_copy_42 : decode cX11_copy 42 = .ok (.getfield 341, 3) := by decide +kernel
theorem dX11_copy_45 : decode cX11_copy 45 = .ok (.ifCond .ne 10, 3) := by decide +kernel
theorem dX11_copy_48 : decode cX11_copy 48 = .ok (.aload_n 0, 1) := by decide +kernel
theorem dX11_copy_49 : decode cX11_copy 49 = .ok (.bipush (-11), 2) := by decide +kernel
theorem dX11_copy_51 : decode cX11_copy 51 = .ok (.invokevirtual 151, 3) := by decide +kernel
theorem dX11_copy_54 : decode cX11_copy 54 = .ok (.ireturn, 1) := by decide +kernel
theorem dX11_copy_55 : decode cX11_copy 55 = .ok (.aload 6, 2) := by decide +kernel
theorem dX11_copy_57 : decode cX11_copy 57 = .ok (.invokevirtual 344, 3) := by decide +kernel
theorem dX11_copy_60 : decode cX11_copy 60 = .ok (.ifCond .ne 16, 3) := by decide +kernel
theorem dX11_copy_63 : decode cX11_copy 63 = .ok (.aload 6, 2) := by decide +kernel
theorem dX11_copy_65 : decode cX11_copy 65 = .ok (.getfield 341, 3) := by decide +kernel
theorem dX11_copy_68 : decode cX11_copy 68 = .ok (.aload 7, 2) := by decide +kernel
theorem dX11_copy_70 : decode cX11_copy 70 = .ok (.getfield 341, 3) := by decide +kernel
theorem dX11_copy_73 : decode cX11_copy 73 = .ok (.if_icmp .eq 10, 3) := by decide +kernel
theorem dX11_copy_76 : decode cX11_copy 76 = .ok (.aload_n 0, 1) := by decide +kernel
theorem dX11_copy_77 : decode cX11_copy 77 = .ok (.bipush (-12), 2) := by decide +kernel
theorem dX11_copy_79 : decode cX11_copy 79 = .ok (.invokevirtual 151, 3) := by decide +kernel
theorem dX11_copy_82 : decode cX11_copy 82 = .ok (.ireturn, 1) := by decide +kernel
theorem dX11_copy_83 : decode cX11_copy 83 = .ok (.aload 6, 2) := by decide +kernel
theorem dX11_copy_85 : decode cX11_copy 85 = .ok (.iload_n 2, 1) := by decide +kernel
theorem dX11_copy_86 : decode cX11_copy 86 = .ok (.iload 5, 2) := by decide +kernel
theorem dX11_copy_88 : decode cX11_copy 88 = .ok (.invokevirtual 347, 3) := by decide +kernel
theorem dX11_copy_91 : decode cX11_copy 91 = .ok (.ifCond .eq 15, 3) := by decide +kernel
theorem dX11_copy_94 : decode cX11_copy 94 = .ok (.aload 7, 2) := by decide +kernel
theorem dX11_copy_96 : decode cX11_copy 96 = .ok (.iload 4, 2) := by decide +kernel
theorem dX11_copy_98 : decode cX11_copy 98 = .ok (.iload 5, 2) := by decide +kernel
theorem dX11_copy_100 : decode cX11_copy 100 = .ok (.invokevirtual 347, 3) := by decide +kernel
theorem dX11_copy_103 : decode cX11_copy 103 = .ok (.ifCond .ne 10, 3) := by decide +kernel
theorem dX11_copy_106 : decode cX11_copy 106 = .ok (.aload_n 0, 1) := by decide +kernel
theorem dX11_copy_107 : decode cX11_copy 107 = .ok (.bipush (-13), 2) := by decide +kernel
theorem dX11_copy_109 : decode cX11_copy 109 = .ok (.invokevirtual 151, 3) := by decide +kernel
theorem dX11_copy_112 : decode cX11_copy 112 = .ok (.ireturn, 1) := by decide +kernel
theorem dX11_copy_113 : decode cX11_copy 113 = .ok (.aload 6, 2) := by decide +kernel
theorem dX11_copy_115 : decode cX11_copy 115 = .ok (.getfield 351, 3) := by decide +kernel
theorem dX11_copy_118 : decode cX11_copy 118 = .ok (.iload_n 2, 1) := by decide +kernel
theorem dX11_copy_119 : decode cX11_copy 119 = .ok (.aload 7, 2) := by decide +kernel
theorem dX11_copy_121 : decode cX11_copy 121 = .ok (.getfield 351, 3) := by decide +kernel
theorem dX11_copy_124 : decode cX11_copy 124 = .ok (.iload 4, 2) := by decide +kernel
theorem dX11_copy_126 : decode cX11_copy 126 = .ok (.iload 5, 2) := by decide +kernel
theorem dX11_copy_128 : decode cX11_copy 128 = .ok (.invokestatic 371, 3) := by decide +kernel
theorem dX11_copy_131 : decode cX11_copy 131 = .ok (.iload 5, 2) := by decide +kernel
theorem dX11_copy_133 : decode cX11_copy 133 = .ok (.ireturn, 1) := by decide +kernel
theorem dX11_take_0 : decode cX11_take 0 = .ok (.iload_n 1, 1) := by decide +kernel
theorem dX11_take_1 : decode cX11_take 1 = .ok (.invokestatic 331, 3) := by decide +kernel
theorem dX11_take_4 : decode cX11_take 4 = .ok (.ifCond .ne 5, 3) := by decide +kernel
theorem dX11_take_7 : decode cX11_take 7 = .ok (.iconst (-1), 1) := by decide +kernel
theorem dX11_take_8 : decode cX11_take 8 = .ok (.ireturn, 1) := by decide +kernel
theorem dX11_take_9 : decode cX11_take 9 = .ok (.aload_n 0, 1) := by decide +kernel
theorem dX11_take_10 : decode cX11_take 10 = .ok (.getfield 81, 3) := by decide +kernel
theorem dX11_take_13 : decode cX11_take 13 = .ok (.iload_n 1, 1) := by decide +kernel
theorem dX11_take_14 : decode cX11_take 14 = .ok (.aaload, 1) := by decide +kernel
theorem dX11_take_15 : decode cX11_take 15 = .ok (.astore_n 3, 1) := by decide +kernel
theorem dX11_take_16 : decode cX11_take 16 = .ok (.aload_n 3, 1) := by decide +kernel
theorem dX11_take_17 : decode cX11_take 17 = .ok (.invokevirtual 344, 3) := by decide +kernel
theorem dX11_take_20 : decode cX11_take 20 = .ok (.istore 4, 2) := by decide +kernel
theorem dX11_take_22 : decode cX11_take 22 = .ok (.iload 4, 2) := by decide +kernel
theorem dX11_take_24 : decode cX11_take 24 = .ok (.ifCond .eq 10, 3) := by decide +kernel
theorem dX11_take_27 : decode cX11_take 27 = .ok (.aload_n 0, 1) := by decide +kernel
theorem dX11_take_28 : decode cX11_take 28 = .ok (.iload 4, 2) := by decide +kernel
theorem dX11_take_30 : decode cX11_take 30 = .ok (.invokevirtual 151, 3) := by decide +kernel
theorem dX11_take_33 : decode cX11_take 33 = .ok (.ireturn, 1) := by decide +kernel
theorem dX11_take_34 : decode cX11_take 34 = .ok (.aload_n 3, 1) := by decide +kernel
theorem dX11_take_35 : decode cX11_take 35 = .ok (.iload_n 2, 1) := by decide +kernel
theorem dX11_take_36 : decode cX11_take 36 = .ok (.aload_n 0, 1) := by decide +kernel
theorem dX11_take_37 : decode cX11_take 37 = .ok (.getfield 12, 3) := by decide +kernel
theorem dX11_take_40 : decode cX11_take 40 = .ok (.getfield 162, 3) := by decide +kernel
theorem dX11_take_43 : decode cX11_take 43 = .ok (.invokevirtual 347, 3) := by decide +kernel
theorem dX11_take_46 : decode cX11_take 46 = .ok (.ifCond .ne 10, 3) := by decide +kernel
theorem dX11_take_49 : decode cX11_take 49 = .ok (.aload_n 0, 1) := by decide +kernel
theorem dX11_take_50 : decode cX11_take 50 = .ok (.bipush (-13), 2) := by decide +kernel
theorem dX11_take_52 : decode cX11_take 52 = .ok (.invokevirtual 151, 3) := by decide +kernel
theorem dX11_take_55 : decode cX11_take 55 = .ok (.ireturn, 1) := by decide +kernel
theorem dX11_take_56 : decode cX11_take 56 = .ok (.iconst 0, 1) := by decide +kernel
theorem dX11_take_57 : decode cX11_take 57 = .ok (.istore 5, 2) := by decide +kernel
theorem dX11_take_59 : decode cX11_take 59 = .ok (.iload 5, 2) := by decide +kernel
theorem dX11_take_61 : decode cX11_take 61 = .ok (.aload_n 0, 1) := by decide +kernel
theorem dX11_take_62 : decode cX11_take 62 = .ok (.getfield 12, 3) := by decide +kernel
theorem dX11_take_65 : decode cX11_take 65 = .ok (.getfield 162, 3) := by decide +kernel
theorem dX11_take_68 : decode cX11_take 68 = .ok (.if_icmp .ge 30, 3) := by decide +kernel
theorem dX11_take_71 : decode cX11_take 71 = .ok (.aload_n 0, 1) := by decide +kernel
theorem dX11_take_72 : decode cX11_take 72 = .ok (.getfield 12, 3) := by decide +kernel
theorem dX11_take_75 : decode cX11_take 75 = .ok (.aload_n 3, 1) := by decide +kernel
theorem dX11_take_76 : decode cX11_take 76 = .ok (.iload_n 2, 1) := by decide +kernel
theorem dX11_take_77 : decode cX11_take 77 = .ok (.iload 5, 2) := by decide +kernel
theorem dX11_take_79 : decode cX11_take 79 = .ok (.iadd, 1) := by decide +kernel
theorem dX11_take_80 : decode cX11_take 80 = .ok (.invokevirtual 377, 3) := by decide +kernel
theorem dX11_take_83 : decode cX11_take 83 = .ok (.invokevirtual 155, 3) := by decide +kernel
theorem dX11_take_86 : decode cX11_take 86 = .ok (.ifCond .ne 6, 3) := by decide +kernel
theorem dX11_take_89 : decode cX11_take 89 = .ok (.bipush (-16), 2) := by decide +kernel
theorem dX11_take_91 : decode cX11_take 91 = .ok (.ireturn, 1) := by decide +kernel
theorem dX11_take_92 : decode cX11_take 92 = .ok (.iinc 5 1, 3) := by decide +kernel
theorem dX11_take_95 : decode cX11_take 95 = .ok (.goto (-36), 3) := by decide +kernel
theorem dX11_take_98 : decode cX11_take 98 = .ok (.iconst 0, 1) := by decide +kernel
theorem dX11_take_99 : decode cX11_take 99 = .ok (.istore 5, 2) := by decide +kernel
theorem dX11_take_101 : decode cX11_take 101 = .ok (.iload 5, 2) := by decide +kernel
theorem dX11_take_103 : decode cX11_take 103 = .ok (.aload_n 0, 1) := by decide +kernel
theorem dX11_take_104 : decode cX11_take 104 = .ok (.getfield 12, 3) := by decide +kernel
theorem dX11_take_107 : decode cX11_take 107 = .ok (.getfield 162, 3) := by decide +kernel
theorem dX11_take_110 : decode cX11_take 110 = .ok (.if_icmp .ge 27, 3) := by decide +kernel
theorem dX11_take_113 : decode cX11_take 113 = .ok (.aload_n 0, 1) := by decide +kernel
theorem dX11_take_114 : decode cX11_take 114 = .ok (.getfield 28, 3) := by decide +kernel
theorem dX11_take_117 : decode cX11_take 117 = .ok (.getfield 158, 3) := by decide +kernel
theorem dX11_take_120 : decode cX11_take 120 = .ok (.iload 5, 2) := by decide +kernel
theorem dX11_take_122 : decode cX11_take 122 = .ok (.aload_n 3, 1) := by decide +kernel
theorem dX11_take_123 : decode cX11_take 123 = .ok (.iload_n 2, 1) := by decide +kernel
theorem dX11_take_124 : decode cX11_take 124 = .ok (.iload 5, 2) := by decide +kernel
theorem dX11_take_126 : decode cX11_take 126 = .ok (.iadd, 1) := by decide +kernel
theorem dX11_take_127 : decode cX11_take 127 = .ok (.invokevirtual 377, 3) := by decide +kernel
theorem dX11_take_130 : decode cX11_take 130 = .ok (.iastore, 1) := by decide +kernel
theorem dX11_take_131 : decode cX11_take 131 = .ok (.iinc 5 1, 3) := by decide +kernel
theorem dX11_take_134 : decode cX11_take 134 = .ok (.goto (-33), 3) := by decide +kernel
theorem dX11_take_137 : decode cX11_take 137 = .ok (.aload_n 0, 1) := by decide +kernel
theorem dX11_take_138 : decode cX11_take 138 = .ok (.getfield 28, 3) := by decide +kernel
theorem dX11_take_141 : decode cX11_take 141 = .ok (.aload_n 0, 1) := by decide +kernel
theorem dX11_take_142 : decode cX11_take 142 = .ok (.getfield 12, 3) := by decide +kernel
theorem dX11_take_145 : decode cX11_take 145 = .ok (.getfield 162, 3) := by decide +kernel
theorem dX11_take_148 : decode cX11_take 148 = .ok (.aload_n 0, 1) := by decide +kernel
theorem dX11_take_149 : decode cX11_take 149 = .ok (.getfield 12, 3) := by decide +kernel
theorem dX11_take_152 : decode cX11_take 152 = .ok (.getfield 165, 3) := by decide +kernel
theorem dX11_take_155 : decode cX11_take 155 = .ok (.invokevirtual 107, 3) := by decide +kernel
theorem dX11_take_158 : decode cX11_take 158 = .ok (.aload_n 0, 1) := by decide +kernel
theorem dX11_take_159 : decode cX11_take 159 = .ok (.invokevirtual 171, 3) := by decide +kernel
theorem dX11_take_162 : decode cX11_take 162 = .ok (.ireturn, 1) := by decide +kernel
theorem dX11_kept_0 : decode cX11_kept 0 = .ok (.iload_n 1, 1) := by decide +kernel
theorem dX11_kept_1 : decode cX11_kept 1 = .ok (.invokestatic 331, 3) := by decide +kernel
theorem dX11_kept_4 : decode cX11_kept 4 = .ok (.ifCond .eq 13, 3) := by decide +kernel
theorem dX11_kept_7 : decode cX11_kept 7 = .ok (.iload_n 2, 1) := by decide +kernel
theorem dX11_kept_8 : decode cX11_kept 8 = .ok (.ifCond .lt 9, 3) := by decide +kernel
theorem dX11_kept_11 : decode cX11_kept 11 = .ok (.iload_n 2, 1) := by decide +kernel
theorem dX11_kept_12 : decode cX11_kept 12 = .ok (.bipush 8, 2) := by decide +kernel
theorem dX11_kept_14 : decode cX11_kept 14 = .ok (.if_icmp .le 5, 3) := by decide +kernel
theorem dX11_kept_17 : decode cX11_kept 17 = .ok (.iconst (-1), 1) := by decide +kernel
theorem dX11_kept_18 : decode cX11_kept 18 = .ok (.ireturn, 1) := by decide +kernel
theorem dX11_kept_19 : decode cX11_kept 19 = .ok (.aload_n 0, 1) := by decide +kernel
theorem dX11_kept_20 : decode cX11_kept 20 = .ok (.getfield 81, 3) := by decide +kernel
theorem dX11_kept_23 : decode cX11_kept 23 = .ok (.iload_n 1, 1) := by decide +kernel
theorem dX11_kept_24 : decode cX11_kept 24 = .ok (.aaload, 1) := by decide +kernel
theorem dX11_kept_25 : decode cX11_kept 25 = .ok (.astore_n 3, 1) := by decide +kernel
theorem dX11_kept_26 : decode cX11_kept 26 = .ok (.aload_n 3, 1) := by decide +kernel
theorem dX11_kept_27 : decode cX11_kept 27 = .ok (.invokevirtual 380, 3) := by decide +kernel
theorem dX11_kept_30 : decode cX11_kept 30 = .ok (.istore 4, 2) := by decide +kernel
theorem dX11_kept_32 : decode cX11_kept 32 = .ok (.iload 4, 2) := by decide +kernel
theorem dX11_kept_34 : decode cX11_kept 34 = .ok (.ifCond .eq 10, 3) := by decide +kernel
theorem dX11_kept_37 : decode cX11_kept 37 = .ok (.aload_n 0, 1) := by decide +kernel
theorem dX11_kept_38 : decode cX11_kept 38 = .ok (.iload 4, 2) := by decide +kernel
theorem dX11_kept_40 : decode cX11_kept 40 = .ok (.invokevirtual 151, 3) := by decide +kernel
theorem dX11_kept_43 : decode cX11_kept 43 = .ok (.ireturn, 1) := by decide +kernel
theorem dX11_kept_44 : decode cX11_kept 44 = .ok (.iload_n 2, 1) := by decide +kernel
theorem dX11_kept_45 : decode cX11_kept 45 = .ok (.tableswitch 51 0 3 #[31, 36, 41, 46], 31) := by decide +kernel
theorem dX11_kept_76 : decode cX11_kept 76 = .ok (.aload_n 3, 1) := by decide +kernel
theorem dX11_kept_77 : decode cX11_kept 77 = .ok (.getfield 383, 3) := by decide +kernel
theorem dX11_kept_80 : decode cX11_kept 80 = .ok (.ireturn, 1) := by decide +kernel
theorem dX11_kept_81 : decode cX11_kept 81 = .ok (.aload_n 3, 1) := by decide +kernel
theorem dX11_kept_82 : decode cX11_kept 82 = .ok (.invokevirtual 386, 3) := by decide +kernel
theorem dX11_kept_85 : decode cX11_kept 85 = .ok (.ireturn, 1) := by decide +kernel
theorem dX11_kept_86 : decode cX11_kept 86 = .ok (.aload_n 3, 1) := by decide +kernel
theorem dX11_kept_87 : decode cX11_kept 87 = .ok (.invokevirtual 389, 3) := by decide +kernel
theorem dX11_kept_90 : decode cX11_kept 90 = .ok (.ireturn, 1) := by decide +kernel
theorem dX11_kept_91 : decode cX11_kept 91 = .ok (.aload_n 3, 1) := by decide +kernel
theorem dX11_kept_92 : decode cX11_kept 92 = .ok (.getfield 392, 3) := by decide +kernel
theorem dX11_kept_95 : decode cX11_kept 95 = .ok (.ireturn, 1) := by decide +kernel
theorem dX11_kept_96 : decode cX11_kept 96 = .ok (.aload_n 3, 1) := by decide +kernel
theorem dX11_kept_97 : decode cX11_kept 97 = .ok (.iload_n 2, 1) := by decide +kernel
theorem dX11_kept_98 : decode cX11_kept 98 = .ok (.iconst 4, 1) := by decide +kernel
theorem dX11_kept_99 : decode cX11_kept 99 = .ok (.isub, 1) := by decide +kernel
theorem dX11_kept_100 : decode cX11_kept 100 = .ok (.iconst 1, 1) := by decide +kernel
theorem dX11_kept_101 : decode cX11_kept 101 = .ok (.invokevirtual 347, 3) := by decide +kernel
theorem dX11_kept_104 : decode cX11_kept 104 = .ok (.ifCond .eq 14, 3) := by decide +kernel
theorem dX11_kept_107 : decode cX11_kept 107 = .ok (.aload_n 3, 1) := by decide +kernel
theorem dX11_kept_108 : decode cX11_kept 108 = .ok (.getfield 351, 3) := by decide +kernel
theorem dX11_kept_111 : decode cX11_kept 111 = .ok (.iload_n 2, 1) := by decide +kernel
theorem dX11_kept_112 : decode cX11_kept 112 = .ok (.iconst 4, 1) := by decide +kernel
theorem dX11_kept_113 : decode cX11_kept 113 = .ok (.isub, 1) := by decide +kernel
theorem dX11_kept_114 : decode cX11_kept 114 = .ok (.iaload, 1) := by decide +kernel
theorem dX11_kept_115 : decode cX11_kept 115 = .ok (.goto 9, 3) := by decide +kernel
theorem dX11_kept_118 : decode cX11_kept 118 = .ok (.aload_n 0, 1) := by decide +kernel
theorem dX11_kept_119 : decode cX11_kept 119 = .ok (.bipush (-13), 2) := by decide +kernel
theorem dX11_kept_121 : decode cX11_kept 121 = .ok (.invokevirtual 151, 3) := by decide +kernel
theorem dX11_kept_124 : decode cX11_kept 124 = .ok (.ireturn, 1) := by decide +kernel
theorem dX11_toss_0 : decode cX11_toss 0 = .ok (.iload_n 1, 1) := by decide +kernel
theorem dX11_toss_1 : decode cX11_toss 1 = .ok (.invokestatic 331, 3) := by decide +kernel
theorem dX11_toss_4 : decode cX11_toss 4 = .ok (.ifCond .ne 5, 3) := by decide +kernel
theorem dX11_toss_7 : decode cX11_toss 7 = .ok (.iconst (-1), 1) := by decide +kernel
theorem dX11_toss_8 : decode cX11_toss 8 = .ok (.ireturn, 1) := by decide +kernel
theorem dX11_toss_9 : decode cX11_toss 9 = .ok (.aload_n 0, 1) := by decide +kernel
theorem dX11_toss_10 : decode cX11_toss 10 = .ok (.getfield 81, 3) := by decide +kernel
theorem dX11_toss_13 : decode cX11_toss 13 = .ok (.iload_n 1, 1) := by decide +kernel
theorem dX11_toss_14 : decode cX11_toss 14 = .ok (.aaload, 1) := by decide +kernel
theorem dX11_toss_15 : decode cX11_toss 15 = .ok (.astore_n 2, 1) := by decide +kernel
theorem dX11_toss_16 : decode cX11_toss 16 = .ok (.aload_n 2, 1) := by decide +kernel
theorem dX11_toss_17 : decode cX11_toss 17 = .ok (.invokevirtual 380, 3) := by decide +kernel
theorem dX11_toss_20 : decode cX11_toss 20 = .ok (.istore_n 3, 1) := by decide +kernel
theorem dX11_toss_21 : decode cX11_toss 21 = .ok (.iload_n 3, 1) := by decide +kernel
theorem dX11_toss_22 : decode cX11_toss 22 = .ok (.ifCond .eq 9, 3) := by decide +kernel
theorem dX11_toss_25 : decode cX11_toss 25 = .ok (.aload_n 0, 1) := by decide +kernel
theorem dX11_toss_26 : decode cX11_toss 26 = .ok (.iload_n 3, 1) := by decide +kernel
theorem dX11_toss_27 : decode cX11_toss 27 = .ok (.invokevirtual 151, 3) := by decide +kernel
theorem dX11_toss_30 : decode cX11_toss 30 = .ok (.ireturn, 1) := by decide +kernel
theorem dX11_toss_31 : decode cX11_toss 31 = .ok (.aload_n 2, 1) := by decide +kernel
theorem dX11_toss_32 : decode cX11_toss 32 = .ok (.invokevirtual 395, 3) := by decide +kernel
theorem dX11_toss_35 : decode cX11_toss 35 = .ok (.goto 12, 3) := by decide +kernel
theorem dX11_toss_38 : decode cX11_toss 38 = .ok (.astore 4, 2) := by decide +kernel
theorem dX11_toss_40 : decode cX11_toss 40 = .ok (.iconst 1, 1) := by decide +kernel
theorem dX11_toss_41 : decode cX11_toss 41 = .ok (.aload_n 2, 1) := by decide +kernel
theorem dX11_toss_42 : decode cX11_toss 42 = .ok (.getfield 383, 3) := by decide +kernel
theorem dX11_toss_45 : decode cX11_toss 45 = .ok (.iadd, 1) := by decide +kernel
theorem dX11_toss_46 : decode cX11_toss 46 = .ok (.ireturn, 1) := by decide +kernel
theorem dX11_toss_47 : decode cX11_toss 47 = .ok (.aload_n 0, 1) := by decide +kernel
theorem dX11_toss_48 : decode cX11_toss 48 = .ok (.bipush (-15), 2) := by decide +kernel
theorem dX11_toss_50 : decode cX11_toss 50 = .ok (.invokevirtual 151, 3) := by decide +kernel
theorem dX11_toss_53 : decode cX11_toss 53 = .ok (.ireturn, 1) := by decide +kernel
theorem dX11_isShelf_0 : decode cX11_isShelf 0 = .ok (.iload_n 0, 1) := by decide +kernel
theorem dX11_isShelf_1 : decode cX11_isShelf 1 = .ok (.ifCond .lt 13, 3) := by decide +kernel
theorem dX11_isShelf_4 : decode cX11_isShelf 4 = .ok (.iload_n 0, 1) := by decide +kernel
theorem dX11_isShelf_5 : decode cX11_isShelf 5 = .ok (.bipush 6, 2) := by decide +kernel
theorem dX11_isShelf_7 : decode cX11_isShelf 7 = .ok (.if_icmp .ge 7, 3) := by decide +kernel
theorem dX11_isShelf_10 : decode cX11_isShelf 10 = .ok (.iconst 1, 1) := by decide +kernel
theorem dX11_isShelf_11 : decode cX11_isShelf 11 = .ok (.goto 4, 3) := by decide +kernel
theorem dX11_isShelf_14 : decode cX11_isShelf 14 = .ok (.iconst 0, 1) := by decide +kernel
theorem dX11_isShelf_15 : decode cX11_isShelf 15 = .ok (.ireturn, 1) := by decide +kernel
theorem dX11_refused_0 : decode cX11_refused 0 = .ok (.aload_n 0, 1) := by decide +kernel
theorem dX11_refused_1 : decode cX11_refused 1 = .ok (.dup, 1) := by decide +kernel
theorem dX11_refused_2 : decode cX11_refused 2 = .ok (.getfield 116, 3) := by decide +kernel
theorem dX11_refused_5 : decode cX11_refused 5 = .ok (.iconst 1, 1) := by decide +kernel
theorem dX11_refused_6 : decode cX11_refused 6 = .ok (.iadd, 1) := by decide +kernel
theorem dX11_refused_7 : decode cX11_refused 7 = .ok (.putfield 116, 3) := by decide +kernel
theorem dX11_refused_10 : decode cX11_refused 10 = .ok (.iload_n 1, 1) := by decide +kernel
theorem dX11_refused_11 : decode cX11_refused 11 = .ok (.ireturn, 1) := by decide +kernel
theorem dX11_count_0 : decode cX11_count 0 = .ok (.iload_n 1, 1) := by decide +kernel
theorem dX11_count_1 : decode cX11_count 1 = .ok (.tableswitch 165 0 12 #[67, 75, 83, 91, 99, 107, 115, 120, 128, 136, 144, 152, 160], 67) := by decide +kernel
theorem dX11_count_68 : decode cX11_count 68 = .ok (.aload_n 0, 1) := by decide +kernel
theorem dX11_count_69 : decode cX11_count 69 = .ok (.getfield 12, 3) := by decide +kernel
theorem dX11_count_72 : decode cX11_count 72 = .ok (.getfield 162, 3) := by decide +kernel
theorem dX11_count_75 : decode cX11_count 75 = .ok (.ireturn, 1) := by decide +kernel
theorem dX11_count_76 : decode cX11_count 76 = .ok (.aload_n 0, 1) := by decide +kernel
theorem dX11_count_77 : decode cX11_count 77 = .ok (.getfield 12, 3) := by decide +kernel
theorem dX11_count_80 : decode cX11_count 80 = .ok (.getfield 165, 3) := by decide +kernel
theorem dX11_count_83 : decode cX11_count 83 = .ok (.ireturn, 1) := by decide +kernel
theorem dX11_count_84 : decode cX11_count 84 = .ok (.aload_n 0, 1) := by decide +kernel
theorem dX11_count_85 : decode cX11_count 85 = .ok (.getfield 12, 3) := by decide +kernel
theorem dX11_count_88 : decode cX11_count 88 = .ok (.getfield 94, 3) := by decide +kernel
theorem dX11_count_91 : decode cX11_count 91 = .ok (.ireturn, 1) := by decide +kernel
theorem dX11_count_92 : decode cX11_count 92 = .ok (.aload_n 0, 1) := by decide +kernel
theorem dX11_count_93 : decode cX11_count 93 = .ok (.getfield 21, 3) := by decide +kernel
theorem dX11_count_96 : decode cX11_count 96 = .ok (.getfield 125, 3) := by decide +kernel
theorem dX11_count_99 : decode cX11_count 99 = .ok (.ireturn, 1) := by decide +kernel
theorem dX11_count_100 : decode cX11_count 100 = .ok (.aload_n 0, 1) := by decide +kernel
theorem dX11_count_101 : decode cX11_count 101 = .ok (.getfield 21, 3) := by decide +kernel
theorem dX11_count_104 : decode cX11_count 104 = .ok (.getfield 182, 3) := by decide +kernel
theorem dX11_count_107 : decode cX11_count 107 = .ok (.ireturn, 1) := by decide +kernel
theorem dX11_count_108 : decode cX11_count 108 = .ok (.aload_n 0, 1) := by decide +kernel
theorem dX11_count_109 : decode cX11_count 109 = .ok (.getfield 21, 3) := by decide +kernel
theorem dX11_count_112 : decode cX11_count 112 = .ok (.getfield 119, 3) := by decide +kernel
theorem dX11_count_115 : decode cX11_count 115 = .ok (.ireturn, 1) := by decide +kernel
theorem dX11_count_116 : decode cX11_count 116 = .ok (.aload_n 0, 1) := by decide +kernel
theorem dX11_count_117 : decode cX11_count 117 = .ok (.invokevirtual 398, 3) := by decide +kernel
theorem dX11_count_120 : decode cX11_count 120 = .ok (.ireturn, 1) := by decide +kernel
theorem dX11_count_121 : decode cX11_count 121 = .ok (.aload_n 0, 1) := by decide +kernel
theorem dX11_count_122 : decode cX11_count 122 = .ok (.getfield 68, 3) := by decide +kernel
theorem dX11_count_125 : decode cX11_count 125 = .ok (.getfield 110, 3) := by decide +kernel
theorem dX11_count_128 : decode cX11_count 128 = .ok (.ireturn, 1) := by decide +kernel
theorem dX11_count_129 : decode cX11_count 129 = .ok (.aload_n 0, 1) := by decide +kernel
theorem dX11_count_130 : decode cX11_count 130 = .ok (.getfield 75, 3) := by decide +kernel
theorem dX11_count_133 : decode cX11_count 133 = .ok (.getfield 310, 3) := by decide +kernel
theorem dX11_count_136 : decode cX11_count 136 = .ok (.ireturn, 1) := by decide +kernel
theorem dX11_count_137 : decode cX11_count 137 = .ok (.aload_n 0, 1) := by decide +kernel
theorem dX11_count_138 : decode cX11_count 138 = .ok (.getfield 21, 3) := by decide +kernel
theorem dX11_count_141 : decode cX11_count 141 = .ok (.getfield 142, 3) := by decide +kernel
theorem dX11_count_144 : decode cX11_count 144 = .ok (.ireturn, 1) := by decide +kernel
theorem dX11_count_145 : decode cX11_count 145 = .ok (.aload_n 0, 1) := by decide +kernel
theorem dX11_count_146 : decode cX11_count 146 = .ok (.getfield 21, 3) := by decide +kernel
theorem dX11_count_149 : decode cX11_count 149 = .ok (.getfield 401, 3) := by decide +kernel
theorem dX11_count_152 : decode cX11_count 152 = .ok (.ireturn, 1) := by decide +kernel
theorem dX11_count_153 : decode cX11_count 153 = .ok (.aload_n 0, 1) := by decide +kernel
theorem dX11_count_154 : decode cX11_count 154 = .ok (.getfield 21, 3) := by decide +kernel
theorem dX11_count_157 : decode cX11_count 157 = .ok (.getfield 136, 3) := by decide +kernel
theorem dX11_count_160 : decode cX11_count 160 = .ok (.ireturn, 1) := by decide +kernel
theorem dX11_count_161 : decode cX11_count 161 = .ok (.aload_n 0, 1) := by decide +kernel
theorem dX11_count_162 : decode cX11_count 162 = .ok (.getfield 116, 3) := by decide +kernel
theorem dX11_count_165 : decode cX11_count 165 = .ok (.ireturn, 1) := by decide +kernel
theorem dX11_count_166 : decode cX11_count 166 = .ok (.iconst (-1), 1) := by decide +kernel
theorem dX11_count_167 : decode cX11_count 167 = .ok (.ireturn, 1) := by decide +kernel
theorem dX11_partsOfHand_0 : decode cX11_partsOfHand 0 = .ok (.aload_n 0, 1) := by decide +kernel
theorem dX11_partsOfHand_1 : decode cX11_partsOfHand 1 = .ok (.getfield 35, 3) := by decide +kernel
theorem dX11_partsOfHand_4 : decode cX11_partsOfHand 4 = .ok (.aload_n 0, 1) := by decide +kernel
theorem dX11_partsOfHand_5 : decode cX11_partsOfHand 5 = .ok (.getfield 21, 3) := by decide +kernel
theorem dX11_partsOfHand_8 : decode cX11_partsOfHand 8 = .ok (.aload_n 0, 1) := by decide +kernel
theorem dX11_partsOfHand_9 : decode cX11_partsOfHand 9 = .ok (.getfield 28, 3) := by decide +kernel
theorem dX11_partsOfHand_12 : decode cX11_partsOfHand 12 = .ok (.getfield 185, 3) := by decide +kernel
theorem dX11_partsOfHand_15 : decode cX11_partsOfHand 15 = .ok (.aload_n 0, 1) := by decide +kernel
theorem dX11_partsOfHand_16 : decode cX11_partsOfHand 16 = .ok (.getfield 28, 3) := by decide +kernel
theorem dX11_partsOfHand_19 : decode cX11_partsOfHand 19 = .ok (.getfield 188, 3) := by decide +kernel
theorem dX11_partsOfHand_22 : decode cX11_partsOfHand 22 = .ok (.invokevirtual 191, 3) := by decide +kernel
theorem dX11_partsOfHand_25 : decode cX11_partsOfHand 25 = .ok (.aload_n 0, 1) := by decide +kernel
theorem dX11_partsOfHand_26 : decode cX11_partsOfHand 26 = .ok (.getfield 35, 3) := by decide +kernel
theorem dX11_partsOfHand_29 : decode cX11_partsOfHand 29 = .ok (.getfield 195, 3) := by decide +kernel
theorem dX11_partsOfHand_32 : decode cX11_partsOfHand 32 = .ok (.ireturn, 1) := by decide +kernel
theorem dJ6_bitCount_0f7a4_0 : decode cJ6_bitCount_0f7a4 0 = .ok (.iload_n 0, 1) := by decide +kernel
theorem dJ6_bitCount_0f7a4_1 : decode cJ6_bitCount_0f7a4 1 = .ok (.iload_n 0, 1) := by decide +kernel
theorem dJ6_bitCount_0f7a4_2 : decode cJ6_bitCount_0f7a4 2 = .ok (.iconst 1, 1) := by decide +kernel
theorem dJ6_bitCount_0f7a4_3 : decode cJ6_bitCount_0f7a4 3 = .ok (.iushr, 1) := by decide +kernel
theorem dJ6_bitCount_0f7a4_4 : decode cJ6_bitCount_0f7a4 4 = .ok (.ldc_w 265, 3) := by decide +kernel
theorem dJ6_bitCount_0f7a4_7 : decode cJ6_bitCount_0f7a4 7 = .ok (.iand, 1) := by decide +kernel
theorem dJ6_bitCount_0f7a4_8 : decode cJ6_bitCount_0f7a4 8 = .ok (.isub, 1) := by decide +kernel
theorem dJ6_bitCount_0f7a4_9 : decode cJ6_bitCount_0f7a4 9 = .ok (.istore_n 0, 1) := by decide +kernel
theorem dJ6_bitCount_0f7a4_10 : decode cJ6_bitCount_0f7a4 10 = .ok (.iload_n 0, 1) := by decide +kernel
theorem dJ6_bitCount_0f7a4_11 : decode cJ6_bitCount_0f7a4 11 = .ok (.ldc_w 266, 3) := by decide +kernel
theorem dJ6_bitCount_0f7a4_14 : decode cJ6_bitCount_0f7a4 14 = .ok (.iand, 1) := by decide +kernel
theorem dJ6_bitCount_0f7a4_15 : decode cJ6_bitCount_0f7a4 15 = .ok (.iload_n 0, 1) := by decide +kernel
theorem dJ6_bitCount_0f7a4_16 : decode cJ6_bitCount_0f7a4 16 = .ok (.iconst 2, 1) := by decide +kernel
theorem dJ6_bitCount_0f7a4_17 : decode cJ6_bitCount_0f7a4 17 = .ok (.iushr, 1) := by decide +kernel
theorem dJ6_bitCount_0f7a4_18 : decode cJ6_bitCount_0f7a4 18 = .ok (.ldc_w 266, 3) := by decide +kernel
theorem dJ6_bitCount_0f7a4_21 : decode cJ6_bitCount_0f7a4 21 = .ok (.iand, 1) := by decide +kernel
theorem dJ6_bitCount_0f7a4_22 : decode cJ6_bitCount_0f7a4 22 = .ok (.iadd, 1) := by decide +kernel
theorem dJ6_bitCount_0f7a4_23 : decode cJ6_bitCount_0f7a4 23 = .ok (.istore_n 0, 1) := by decide +kernel
theorem dJ6_bitCount_0f7a4_24 : decode cJ6_bitCount_0f7a4 24 = .ok (.iload_n 0, 1) := by decide +kernel
theorem dJ6_bitCount_0f7a4_25 : decode cJ6_bitCount_0f7a4 25 = .ok (.iload_n 0, 1) := by decide +kernel
theorem dJ6_bitCount_0f7a4_26 : decode cJ6_bitCount_0f7a4 26 = .ok (.iconst 4, 1) := by decide +kernel
theorem dJ6_bitCount_0f7a4_27 : decode cJ6_bitCount_0f7a4 27 = .ok (.iushr, 1) := by decide +kernel
theorem dJ6_bitCount_0f7a4_28 : decode cJ6_bitCount_0f7a4 28 = .ok (.iadd, 1) := by decide +kernel
theorem dJ6_bitCount_0f7a4_29 : decode cJ6_bitCount_0f7a4 29 = .ok (.ldc_w 267, 3) := by decide +kernel
theorem dJ6_bitCount_0f7a4_32 : decode cJ6_bitCount_0f7a4 32 = .ok (.iand, 1) := by decide +kernel
theorem dJ6_bitCount_0f7a4_33 : decode cJ6_bitCount_0f7a4 33 = .ok (.istore_n 0, 1) := by decide +kernel
theorem dJ6_bitCount_0f7a4_34 : decode cJ6_bitCount_0f7a4 34 = .ok (.iload_n 0, 1) := by decide +kernel
theorem dJ6_bitCount_0f7a4_35 : decode cJ6_bitCount_0f7a4 35 = .ok (.iload_n 0, 1) := by decide +kernel
theorem dJ6_bitCount_0f7a4_36 : decode cJ6_bitCount_0f7a4 36 = .ok (.bipush 8, 2) := by decide +kernel
theorem dJ6_bitCount_0f7a4_38 : decode cJ6_bitCount_0f7a4 38 = .ok (.iushr, 1) := by decide +kernel
theorem dJ6_bitCount_0f7a4_39 : decode cJ6_bitCount_0f7a4 39 = .ok (.iadd, 1) := by decide +kernel
theorem dJ6_bitCount_0f7a4_40 : decode cJ6_bitCount_0f7a4 40 = .ok (.istore_n 0, 1) := by decide +kernel
theorem dJ6_bitCount_0f7a4_41 : decode cJ6_bitCount_0f7a4 41 = .ok (.iload_n 0, 1) := by decide +kernel
theorem dJ6_bitCount_0f7a4_42 : decode cJ6_bitCount_0f7a4 42 = .ok (.iload_n 0, 1) := by decide +kernel
theorem dJ6_bitCount_0f7a4_43 : decode cJ6_bitCount_0f7a4 43 = .ok (.bipush 16, 2) := by decide +kernel
theorem dJ6_bitCount_0f7a4_45 : decode cJ6_bitCount_0f7a4 45 = .ok (.iushr, 1) := by decide +kernel
theorem dJ6_bitCount_0f7a4_46 : decode cJ6_bitCount_0f7a4 46 = .ok (.iadd, 1) := by decide +kernel
theorem dJ6_bitCount_0f7a4_47 : decode cJ6_bitCount_0f7a4 47 = .ok (.istore_n 0, 1) := by decide +kernel
theorem dJ6_bitCount_0f7a4_48 : decode cJ6_bitCount_0f7a4 48 = .ok (.iload_n 0, 1) := by decide +kernel
theorem dJ6_bitCount_0f7a4_49 : decode cJ6_bitCount_0f7a4 49 = .ok (.bipush 63, 2) := by decide +kernel
theorem dJ6_bitCount_0f7a4_51 : decode cJ6_bitCount_0f7a4 51 = .ok (.iand, 1) := by decide +kernel
theorem dJ6_bitCount_0f7a4_52 : decode cJ6_bitCount_0f7a4 52 = .ok (.ireturn, 1) := by decide +kernel
theorem dJ9_max_7cf53_0 : decode cJ9_max_7cf53 0 = .ok (.iload_n 0, 1) := by decide +kernel
theorem dJ9_max_7cf53_1 : decode cJ9_max_7cf53 1 = .ok (.iload_n 1, 1) := by decide +kernel
theorem dJ9_max_7cf53_2 : decode cJ9_max_7cf53 2 = .ok (.if_icmp .lt 7, 3) := by decide +kernel
theorem dJ9_max_7cf53_5 : decode cJ9_max_7cf53 5 = .ok (.iload_n 0, 1) := by decide +kernel
theorem dJ9_max_7cf53_6 : decode cJ9_max_7cf53 6 = .ok (.goto 4, 3) := by decide +kernel
theorem dJ9_max_7cf53_9 : decode cJ9_max_7cf53 9 = .ok (.iload_n 1, 1) := by decide +kernel
theorem dJ9_max_7cf53_10 : decode cJ9_max_7cf53 10 = .ok (.ireturn, 1) := by decide +kernel
theorem dJ9_min_7cf53_0 : decode cJ9_min_7cf53 0 = .ok (.iload_n 0, 1) := by decide +kernel
theorem dJ9_min_7cf53_1 : decode cJ9_min_7cf53 1 = .ok (.iload_n 1, 1) := by decide +kernel
theorem dJ9_min_7cf53_2 : decode cJ9_min_7cf53 2 = .ok (.if_icmp .gt 7, 3) := by decide +kernel
theorem dJ9_min_7cf53_5 : decode cJ9_min_7cf53 5 = .ok (.iload_n 0, 1) := by decide +kernel
theorem dJ9_min_7cf53_6 : decode cJ9_min_7cf53 6 = .ok (.goto 4, 3) := by decide +kernel
theorem dJ9_min_7cf53_9 : decode cJ9_min_7cf53 9 = .ok (.iload_n 1, 1) := by decide +kernel
theorem dJ9_min_7cf53_10 : decode cJ9_min_7cf53 10 = .ok (.ireturn, 1) := by decide +kernel
theorem dJ7_fill_d0a16_0 : decode cJ7_fill_d0a16 0 = .ok (.iconst 0, 1) := by decide +kernel
theorem dJ7_fill_d0a16_1 : decode cJ7_fill_d0a16 1 = .ok (.istore_n 3, 1) := by decide +kernel
theorem dJ7_fill_d0a16_2 : decode cJ7_fill_d0a16 2 = .ok (.aload_n 0, 1) := by decide +kernel
theorem dJ7_fill_d0a16_3 : decode cJ7_fill_d0a16 3 = .ok (.arraylength, 1) := by decide +kernel
theorem dJ7_fill_d0a16_4 : decode cJ7_fill_d0a16 4 = .ok (.istore 4, 2) := by decide +kernel
theorem dJ7_fill_d0a16_6 : decode cJ7_fill_d0a16 6 = .ok (.iload_n 3, 1) := by decide +kernel
theorem dJ7_fill_d0a16_7 : decode cJ7_fill_d0a16 7 = .ok (.iload 4, 2) := by decide +kernel
theorem dJ7_fill_d0a16_9 : decode cJ7_fill_d0a16 9 = .ok (.if_icmp .ge 13, 3) := by decide +kernel
theorem dJ7_fill_d0a16_12 : decode cJ7_fill_d0a16 12 = .ok (.aload_n 0, 1) := by decide +kernel
theorem dJ7_fill_d0a16_13 : decode cJ7_fill_d0a16 13 = .ok (.iload_n 3, 1) := by decide +kernel
theorem dJ7_fill_d0a16_14 : decode cJ7_fill_d0a16 14 = .ok (.lload_n 1, 1) := by decide +kernel
theorem dJ7_fill_d0a16_15 : decode cJ7_fill_d0a16 15 = .ok (.lastore, 1) := by decide +kernel
theorem dJ7_fill_d0a16_16 : decode cJ7_fill_d0a16 16 = .ok (.iinc 3 1, 3) := by decide +kernel
theorem dJ7_fill_d0a16_19 : decode cJ7_fill_d0a16 19 = .ok (.goto (-13), 3) := by decide +kernel
theorem dJ7_fill_d0a16_22 : decode cJ7_fill_d0a16 22 = .ok (.return_, 1) := by decide +kernel
theorem dJ7_fill_53178_0 : decode cJ7_fill_53178 0 = .ok (.iconst 0, 1) := by decide +kernel
theorem dJ7_fill_53178_1 : decode cJ7_fill_53178 1 = .ok (.istore_n 2, 1) := by decide +kernel
theorem dJ7_fill_53178_2 : decode cJ7_fill_53178 2 = .ok (.aload_n 0, 1) := by decide +kernel
theorem dJ7_fill_53178_3 : decode cJ7_fill_53178 3 = .ok (.arraylength, 1) := by decide +kernel
theorem dJ7_fill_53178_4 : decode cJ7_fill_53178 4 = .ok (.istore_n 3, 1) := by decide +kernel
theorem dJ7_fill_53178_5 : decode cJ7_fill_53178 5 = .ok (.iload_n 2, 1) := by decide +kernel
theorem dJ7_fill_53178_6 : decode cJ7_fill_53178 6 = .ok (.iload_n 3, 1) := by decide +kernel
theorem dJ7_fill_53178_7 : decode cJ7_fill_53178 7 = .ok (.if_icmp .ge 13, 3) := by decide +kernel
theorem dJ7_fill_53178_10 : decode cJ7_fill_53178 10 = .ok (.aload_n 0, 1) := by decide +kernel
theorem dJ7_fill_53178_11 : decode cJ7_fill_53178 11 = .ok (.iload_n 2, 1) := by decide +kernel
theorem dJ7_fill_53178_12 : decode cJ7_fill_53178 12 = .ok (.iload_n 1, 1) := by decide +kernel
theorem dJ7_fill_53178_13 : decode cJ7_fill_53178 13 = .ok (.iastore, 1) := by decide +kernel
theorem dJ7_fill_53178_14 : decode cJ7_fill_53178 14 = .ok (.iinc 2 1, 3) := by decide +kernel
theorem dJ7_fill_53178_17 : decode cJ7_fill_53178 17 = .ok (.goto (-12), 3) := by decide +kernel
theorem dJ7_fill_53178_20 : decode cJ7_fill_53178 20 = .ok (.return_, 1) := by decide +kernel
