theorem dX4_init_0 : decode cX4_init 0 = .ok (.aload_n 0, 1) := by decide +kernel
theorem dX4_init_1 : decode cX4_init 1 = .ok (.invokespecial 3, 3) := by decide +kernel
theorem dX4_init_4 : decode cX4_init 4 = .ok (.aload_n 0, 1) := by decide +kernel
theorem dX4_init_5 : decode cX4_init 5 = .ok (.iconst 5, 1) := by decide +kernel
theorem dX4_init_6 : decode cX4_init 6 = .ok (.bipush 10, 2) := by decide +kernel
theorem dX4_init_8 : decode cX4_init 8 = .ok (.multianewarray 11 2, 4) := by decide +kernel
theorem dX4_init_12 : decode cX4_init 12 = .ok (.putfield 13, 3) := by decide +kernel
theorem dX4_init_15 : decode cX4_init 15 = .ok (.return_, 1) := by decide +kernel
theorem dX4_workOut_0 : decode cX4_workOut 0 = .ok (.aload_n 0, 1) := by decide +kernel
theorem dX4_workOut_1 : decode cX4_workOut 1 = .ok (.aload_n 1, 1) := by decide +kernel
theorem dX4_workOut_2 : decode cX4_workOut 2 = .ok (.invokestatic 16, 3) := by decide +kernel
theorem dX4_workOut_5 : decode cX4_workOut 5 = .ok (.putfield 20, 3) := by decide +kernel
theorem dX4_workOut_8 : decode cX4_workOut 8 = .ok (.iconst 0, 1) := by decide +kernel
theorem dX4_workOut_9 : decode cX4_workOut 9 = .ok (.istore_n 2, 1) := by decide +kernel
theorem dX4_workOut_10 : decode cX4_workOut 10 = .ok (.iload_n 2, 1) := by decide +kernel
theorem dX4_workOut_11 : decode cX4_workOut 11 = .ok (.iconst 5, 1) := by decide +kernel
theorem dX4_workOut_12 : decode cX4_workOut 12 = .ok (.if_icmp .ge 15, 3) := by decide +kernel
theorem dX4_workOut_15 : decode cX4_workOut 15 = .ok (.aload_n 0, 1) := by decide +kernel
theorem dX4_workOut_16 : decode cX4_workOut 16 = .ok (.aload_n 1, 1) := by decide +kernel
theorem dX4_workOut_17 : decode cX4_workOut 17 = .ok (.iload_n 2, 1) := by decide +kernel
theorem dX4_workOut_18 : decode cX4_workOut 18 = .ok (.invokevirtual 24, 3) := by decide +kernel
theorem dX4_workOut_21 : decode cX4_workOut 21 = .ok (.iinc 2 1, 3) := by decide +kernel
theorem dX4_workOut_24 : decode cX4_workOut 24 = .ok (.goto (-14), 3) := by decide +kernel
theorem dX4_workOut_27 : decode cX4_workOut 27 = .ok (.aload_n 0, 1) := by decide +kernel
theorem dX4_workOut_28 : decode cX4_workOut 28 = .ok (.invokevirtual 28, 3) := by decide +kernel
theorem dX4_workOut_31 : decode cX4_workOut 31 = .ok (.return_, 1) := by decide +kernel
theorem dX4_lockedFirms_0 : decode cX4_lockedFirms 0 = .ok (.bipush 31, 2) := by decide +kernel
theorem dX4_lockedFirms_2 : decode cX4_lockedFirms 2 = .ok (.istore_n 1, 1) := by decide +kernel
theorem dX4_lockedFirms_3 : decode cX4_lockedFirms 3 = .ok (.iconst 0, 1) := by decide +kernel
theorem dX4_lockedFirms_4 : decode cX4_lockedFirms 4 = .ok (.istore_n 2, 1) := by decide +kernel
theorem dX4_lockedFirms_5 : decode cX4_lockedFirms 5 = .ok (.iload_n 2, 1) := by decide +kernel
theorem dX4_lockedFirms_6 : decode cX4_lockedFirms 6 = .ok (.iconst 5, 1) := by decide +kernel
theorem dX4_lockedFirms_7 : decode cX4_lockedFirms 7 = .ok (.if_icmp .ge 49, 3) := by decide +kernel
theorem dX4_lockedFirms_10 : decode cX4_lockedFirms 10 = .ok (.iconst 0, 1) := by decide +kernel
theorem dX4_lockedFirms_11 : decode cX4_lockedFirms 11 = .ok (.istore_n 3, 1) := by decide +kernel
theorem dX4_lockedFirms_12 : decode cX4_lockedFirms 12 = .ok (.iload_n 3, 1) := by decide +kernel
theorem dX4_lockedFirms_13 : decode cX4_lockedFirms 13 = .ok (.iconst 5, 1) := by decide +kernel
theorem dX4_lockedFirms_14 : decode cX4_lockedFirms 14 = .ok (.if_icmp .ge 36, 3) := by decide +kernel
theorem dX4_lockedFirms_17 : decode cX4_lockedFirms 17 = .ok (.iload_n 1, 1) := by decide +kernel
theorem dX4_lockedFirms_18 : decode cX4_lockedFirms 18 = .ok (.iload_n 3, 1) := by decide +kernel
theorem dX4_lockedFirms_19 : decode cX4_lockedFirms 19 = .ok (.invokestatic 31, 3) := by decide +kernel
theorem dX4_lockedFirms_22 : decode cX4_lockedFirms 22 = .ok (.ifCond .eq 22, 3) := by decide +kernel
theorem dX4_lockedFirms_25 : decode cX4_lockedFirms 25 = .ok (.aload_n 0, 1) := by decide +kernel
theorem dX4_lockedFirms_26 : decode cX4_lockedFirms 26 = .ok (.iload_n 3, 1) := by decide +kernel
theorem dX4_lockedFirms_27 : decode cX4_lockedFirms 27 = .ok (.iload_n 1, 1) := by decide +kernel
theorem dX4_lockedFirms_28 : decode cX4_lockedFirms 28 = .ok (.invokevirtual 35, 3) := by decide +kernel
theorem dX4_lockedFirms_31 : decode cX4_lockedFirms 31 = .ok (.bipush 100, 2) := by decide +kernel
theorem dX4_lockedFirms_33 : decode cX4_lockedFirms 33 = .ok (.if_icmp .ge 11, 3) := by decide +kernel
theorem dX4_lockedFirms_36 : decode cX4_lockedFirms 36 = .ok (.iload_n 1, 1) := by decide +kernel
theorem dX4_lockedFirms_37 : decode cX4_lockedFirms 37 = .ok (.iconst 1, 1) := by decide +kernel
theorem dX4_lockedFirms_38 : decode cX4_lockedFirms 38 = .ok (.iload_n 3, 1) := by decide +kernel
theorem dX4_lockedFirms_39 : decode cX4_lockedFirms 39 = .ok (.ishl, 1) := by decide +kernel
theorem dX4_lockedFirms_40 : decode cX4_lockedFirms 40 = .ok (.iconst (-1), 1) := by decide +kernel
theorem dX4_lockedFirms_41 : decode cX4_lockedFirms 41 = .ok (.ixor, 1) := by decide +kernel
theorem dX4_lockedFirms_42 : decode cX4_lockedFirms 42 = .ok (.iand, 1) := by decide +kernel
theorem dX4_lockedFirms_43 : decode cX4_lockedFirms 43 = .ok (.istore_n 1, 1) := by decide +kernel
theorem dX4_lockedFirms_44 : decode cX4_lockedFirms 44 = .ok (.iinc 3 1, 3) := by decide +kernel
theorem dX4_lockedFirms_47 : decode cX4_lockedFirms 47 = .ok (.goto (-35), 3) := by decide +kernel
theorem dX4_lockedFirms_50 : decode cX4_lockedFirms 50 = .ok (.iinc 2 1, 3) := by decide +kernel
theorem dX4_lockedFirms_53 : decode cX4_lockedFirms 53 = .ok (.goto (-48), 3) := by decide +kernel
theorem dX4_lockedFirms_56 : decode cX4_lockedFirms 56 = .ok (.iload_n 1, 1) := by decide +kernel
theorem dX4_lockedFirms_57 : decode cX4_lockedFirms 57 = .ok (.ireturn, 1) := by decide +kernel
theorem dX4_writeRow_0 : decode cX4_writeRow 0 = .ok (.aload_n 0, 1) := by decide +kernel
theorem dX4_writeRow_1 : decode cX4_writeRow 1 = .ok (.getfield 20, 3) := by decide +kernel
theorem dX4_writeRow_4 : decode cX4_writeRow 4 = .ok (.iload_n 2, 1) := by decide +kernel
theorem dX4_writeRow_5 : decode cX4_writeRow 5 = .ok (.invokestatic 31, 3) := by decide +kernel
theorem dX4_writeRow_8 : decode cX4_writeRow 8 = .ok (.istore_n 3, 1) := by decide +kernel
theorem dX4_writeRow_9 : decode cX4_writeRow 9 = .ok (.iconst 0, 1) := by decide +kernel
theorem dX4_writeRow_10 : decode cX4_writeRow 10 = .ok (.istore 4, 2) := by decide +kernel
theorem dX4_writeRow_12 : decode cX4_writeRow 12 = .ok (.iload 4, 2) := by decide +kernel
theorem dX4_writeRow_14 : decode cX4_writeRow 14 = .ok (.iconst 5, 1) := by decide +kernel
theorem dX4_writeRow_15 : decode cX4_writeRow 15 = .ok (.if_icmp .ge 64, 3) := by decide +kernel
theorem dX4_writeRow_18 : decode cX4_writeRow 18 = .ok (.iload_n 3, 1) := by decide +kernel
theorem dX4_writeRow_19 : decode cX4_writeRow 19 = .ok (.ifCond .ne 19, 3) := by decide +kernel
theorem dX4_writeRow_22 : decode cX4_writeRow 22 = .ok (.aload_n 0, 1) := by decide +kernel
theorem dX4_writeRow_23 : decode cX4_writeRow 23 = .ok (.getfield 20, 3) := by decide +kernel
theorem dX4_writeRow_26 : decode cX4_writeRow 26 = .ok (.iload 4, 2) := by decide +kernel
theorem dX4_writeRow_28 : decode cX4_writeRow 28 = .ok (.invokestatic 31, 3) := by decide +kernel
theorem dX4_writeRow_31 : decode cX4_writeRow 31 = .ok (.ifCond .ne 7, 3) := by decide +kernel
theorem dX4_writeRow_34 : decode cX4_writeRow 34 = .ok (.iconst 1, 1) := by decide +kernel
theorem dX4_writeRow_35 : decode cX4_writeRow 35 = .ok (.goto 4, 3) := by decide +kernel
theorem dX4_writeRow_38 : decode cX4_writeRow 38 = .ok (.iconst 0, 1) := by decide +kernel
theorem dX4_writeRow_39 : decode cX4_writeRow 39 = .ok (.istore 5, 2) := by decide +kernel
theorem dX4_writeRow_41 : decode cX4_writeRow 41 = .ok (.aload_n 0, 1) := by decide +kernel
theorem dX4_writeRow_42 : decode cX4_writeRow 42 = .ok (.getfield 13, 3) := by decide +kernel
theorem dX4_writeRow_45 : decode cX4_writeRow 45 = .ok (.iload_n 2, 1) := by decide +kernel
theorem dX4_writeRow_46 : decode cX4_writeRow 46 = .ok (.aaload, 1) := by decide +kernel
theorem dX4_writeRow_47 : decode cX4_writeRow 47 = .ok (.iload 4, 2) := by decide +kernel
theorem dX4_writeRow_49 : decode cX4_writeRow 49 = .ok (.iload 5, 2) := by decide +kernel
theorem dX4_writeRow_51 : decode cX4_writeRow 51 = .ok (.ifCond .eq 20, 3) := by decide +kernel
theorem dX4_writeRow_54 : decode cX4_writeRow 54 = .ok (.aload_n 1, 1) := by decide +kernel
theorem dX4_writeRow_55 : decode cX4_writeRow 55 = .ok (.getfield 41, 3) := by decide +kernel
theorem dX4_writeRow_58 : decode cX4_writeRow 58 = .ok (.iload_n 2, 1) := by decide +kernel
theorem dX4_writeRow_59 : decode cX4_writeRow 59 = .ok (.aaload, 1) := by decide +kernel
theorem dX4_writeRow_60 : decode cX4_writeRow 60 = .ok (.iload 4, 2) := by decide +kernel
theorem dX4_writeRow_62 : decode cX4_writeRow 62 = .ok (.invokestatic 45, 3) := by decide +kernel
theorem dX4_writeRow_65 : decode cX4_writeRow 65 = .ok (.iaload, 1) := by decide +kernel
theorem dX4_writeRow_66 : decode cX4_writeRow 66 = .ok (.ineg, 1) := by decide +kernel
theorem dX4_writeRow_67 : decode cX4_writeRow 67 = .ok (.i2l, 1) := by decide +kernel
theorem dX4_writeRow_68 : decode cX4_writeRow 68 = .ok (.goto 4, 3) := by decide +kernel
theorem dX4_writeRow_71 : decode cX4_writeRow 71 = .ok (.lconst 0, 1) := by decide +kernel
theorem dX4_writeRow_72 : decode cX4_writeRow 72 = .ok (.lastore, 1) := by decide +kernel
theorem dX4_writeRow_73 : decode cX4_writeRow 73 = .ok (.iinc 4 1, 3) := by decide +kernel
theorem dX4_writeRow_76 : decode cX4_writeRow 76 = .ok (.goto (-64), 3) := by decide +kernel
theorem dX4_writeRow_79 : decode cX4_writeRow 79 = .ok (.aload_n 0, 1) := by decide +kernel
theorem dX4_writeRow_80 : decode cX4_writeRow 80 = .ok (.getfield 13, 3) := by decide +kernel
theorem dX4_writeRow_83 : decode cX4_writeRow 83 = .ok (.iload_n 2, 1) := by decide +kernel
theorem dX4_writeRow_84 : decode cX4_writeRow 84 = .ok (.aaload, 1) := by decide +kernel
theorem dX4_writeRow_85 : decode cX4_writeRow 85 = .ok (.iload_n 2, 1) := by decide +kernel
theorem dX4_writeRow_86 : decode cX4_writeRow 86 = .ok (.ldc2_w 49, 3) := by decide +kernel
theorem dX4_writeRow_89 : decode cX4_writeRow 89 = .ok (.lastore, 1) := by decide +kernel
theorem dX4_writeRow_90 : decode cX4_writeRow 90 = .ok (.iconst 0, 1) := by decide +kernel
theorem dX4_writeRow_91 : decode cX4_writeRow 91 = .ok (.istore 4, 2) := by decide +kernel
theorem dX4_writeRow_93 : decode cX4_writeRow 93 = .ok (.iload 4, 2) := by decide +kernel
theorem dX4_writeRow_95 : decode cX4_writeRow 95 = .ok (.iconst 5, 1) := by decide +kernel
theorem dX4_writeRow_96 : decode cX4_writeRow 96 = .ok (.if_icmp .ge 53, 3) := by decide +kernel
theorem dX4_writeRow_99 : decode cX4_writeRow 99 = .ok (.iload 4, 2) := by decide +kernel
theorem dX4_writeRow_101 : decode cX4_writeRow 101 = .ok (.iconst 4, 1) := by decide +kernel
theorem dX4_writeRow_102 : decode cX4_writeRow 102 = .ok (.if_icmp .ne 8, 3) := by decide +kernel
theorem dX4_writeRow_105 : decode cX4_writeRow 105 = .ok (.bipush 9, 2) := by decide +kernel
theorem dX4_writeRow_107 : decode cX4_writeRow 107 = .ok (.goto 5, 3) := by decide +kernel
theorem dX4_writeRow_110 : decode cX4_writeRow 110 = .ok (.iload 4, 2) := by decide +kernel
theorem dX4_writeRow_112 : decode cX4_writeRow 112 = .ok (.istore 5, 2) := by decide +kernel
theorem dX4_writeRow_114 : decode cX4_writeRow 114 = .ok (.aload_n 0, 1) := by decide +kernel
theorem dX4_writeRow_115 : decode cX4_writeRow 115 = .ok (.getfield 13, 3) := by decide +kernel
theorem dX4_writeRow_118 : decode cX4_writeRow 118 = .ok (.iload_n 2, 1) := by decide +kernel
theorem dX4_writeRow_119 : decode cX4_writeRow 119 = .ok (.aaload, 1) := by decide +kernel
theorem dX4_writeRow_120 : decode cX4_writeRow 120 = .ok (.iconst 5, 1) := by decide +kernel
theorem dX4_writeRow_121 : decode cX4_writeRow 121 = .ok (.iload 4, 2) := by decide +kernel
theorem dX4_writeRow_123 : decode cX4_writeRow 123 = .ok (.iadd, 1) := by decide +kernel
theorem dX4_writeRow_124 : decode cX4_writeRow 124 = .ok (.iload_n 3, 1) := by decide +kernel
theorem dX4_writeRow_125 : decode cX4_writeRow 125 = .ok (.ifCond .eq 7, 3) := by decide +kernel
theorem dX4_writeRow_128 : decode cX4_writeRow 128 = .ok (.lconst 0, 1) := by decide +kernel
theorem dX4_writeRow_129 : decode cX4_writeRow 129 = .ok (.goto 13, 3) := by decide +kernel
theorem dX4_writeRow_132 : decode cX4_writeRow 132 = .ok (.aload_n 1, 1) := by decide +kernel
theorem dX4_writeRow_133 : decode cX4_writeRow 133 = .ok (.getfield 41, 3) := by decide +kernel
theorem dX4_writeRow_136 : decode cX4_writeRow 136 = .ok (.iload_n 2, 1) := by decide +kernel
theorem dX4_writeRow_137 : decode cX4_writeRow 137 = .ok (.aaload, 1) := by decide +kernel
theorem dX4_writeRow_138 : decode cX4_writeRow 138 = .ok (.iload 5, 2) := by decide +kernel
theorem dX4_writeRow_140 : decode cX4_writeRow 140 = .ok (.iaload, 1) := by decide +kernel
theorem dX4_writeRow_141 : decode cX4_writeRow 141 = .ok (.i2l, 1) := by decide +kernel
theorem dX4_writeRow_142 : decode cX4_writeRow 142 = .ok (.lastore, 1) := by decide +kernel
theorem dX4_writeRow_143 : decode cX4_writeRow 143 = .ok (.iinc 4 1, 3) := by decide +kernel
theorem dX4_writeRow_146 : decode cX4_writeRow 146 = .ok (.goto (-53), 3) := by decide +kernel
theorem dX4_writeRow_149 : decode cX4_writeRow 149 = .ok (.return_, 1) := by decide +kernel
theorem dX4_solve_0 : decode cX4_solve 0 = .ok (.lconst 1, 1) := by decide +kernel
theorem dX4_solve_1 : decode cX4_solve 1 = .ok (.lstore_n 1, 1) := by decide +kernel
theorem dX4_solve_2 : decode cX4_solve 2 = .ok (.iconst 0, 1) := by decide +kernel
theorem dX4_solve_3 : decode cX4_solve 3 = .ok (.istore_n 3, 1) := by decide +kernel
theorem dX4_solve_4 : decode cX4_solve 4 = .ok (.iload_n 3, 1) := by decide +kernel
theorem dX4_solve_5 : decode cX4_solve 5 = .ok (.iconst 5, 1) := by decide +kernel
theorem dX4_solve_6 : decode cX4_solve 6 = .ok (.if_icmp .ge 54, 3) := by decide +kernel
theorem dX4_solve_9 : decode cX4_solve 9 = .ok (.lload_n 1, 1) := by decide +kernel
theorem dX4_solve_10 : decode cX4_solve 10 = .ok (.lconst 0, 1) := by decide +kernel
theorem dX4_solve_11 : decode cX4_solve 11 = .ok (.lcmp, 1) := by decide +kernel
theorem dX4_solve_12 : decode cX4_solve 12 = .ok (.ifCond .ne 4, 3) := by decide +kernel
theorem dX4_solve_15 : decode cX4_solve 15 = .ok (.return_, 1) := by decide +kernel
theorem dX4_solve_16 : decode cX4_solve 16 = .ok (.iconst 0, 1) := by decide +kernel
theorem dX4_solve_17 : decode cX4_solve 17 = .ok (.istore 4, 2) := by decide +kernel
theorem dX4_solve_19 : decode cX4_solve 19 = .ok (.iload 4, 2) := by decide +kernel
theorem dX4_solve_21 : decode cX4_solve 21 = .ok (.iconst 5, 1) := by decide +kernel
theorem dX4_solve_22 : decode cX4_solve 22 = .ok (.if_icmp .ge 23, 3) := by decide +kernel
theorem dX4_solve_25 : decode cX4_solve 25 = .ok (.iload 4, 2) := by decide +kernel
theorem dX4_solve_27 : decode cX4_solve 27 = .ok (.iload_n 3, 1) := by decide +kernel
theorem dX4_solve_28 : decode cX4_solve 28 = .ok (.if_icmp .eq 11, 3) := by decide +kernel
theorem dX4_solve_31 : decode cX4_solve 31 = .ok (.aload_n 0, 1) := by decide +kernel
theorem dX4_solve_32 : decode cX4_solve 32 = .ok (.iload 4, 2) := by decide +kernel
theorem dX4_solve_34 : decode cX4_solve 34 = .ok (.iload_n 3, 1) := by decide +kernel
theorem dX4_solve_35 : decode cX4_solve 35 = .ok (.lload_n 1, 1) := by decide +kernel
theorem dX4_solve_36 : decode cX4_solve 36 = .ok (.invokevirtual 51, 3) := by decide +kernel
theorem dX4_solve_39 : decode cX4_solve 39 = .ok (.iinc 4 1, 3) := by decide +kernel
theorem dX4_solve_42 : decode cX4_solve 42 = .ok (.goto (-23), 3) := by decide +kernel
theorem dX4_solve_45 : decode cX4_solve 45 = .ok (.aload_n 0, 1) := by decide +kernel
theorem dX4_solve_46 : decode cX4_solve 46 = .ok (.getfield 13, 3) := by decide +kernel
theorem dX4_solve_49 : decode cX4_solve 49 = .ok (.iload_n 3, 1) := by decide +kernel
theorem dX4_solve_50 : decode cX4_solve 50 = .ok (.aaload, 1) := by decide +kernel
theorem dX4_solve_51 : decode cX4_solve 51 = .ok (.iload_n 3, 1) := by decide +kernel
theorem dX4_solve_52 : decode cX4_solve 52 = .ok (.laload, 1) := by decide +kernel
theorem dX4_solve_53 : decode cX4_solve 53 = .ok (.lstore_n 1, 1) := by decide +kernel
theorem dX4_solve_54 : decode cX4_solve 54 = .ok (.iinc 3 1, 3) := by decide +kernel
theorem dX4_solve_57 : decode cX4_solve 57 = .ok (.goto (-53), 3) := by decide +kernel
theorem dX4_solve_60 : decode cX4_solve 60 = .ok (.return_, 1) := by decide +kernel
theorem dX4_eliminate_0 : decode cX4_eliminate 0 = .ok (.lload_n 3, 1) := by decide +kernel
theorem dX4_eliminate_1 : decode cX4_eliminate 1 = .ok (.lconst 0, 1) := by decide +kernel
theorem dX4_eliminate_2 : decode cX4_eliminate 2 = .ok (.lcmp, 1) := by decide +kernel
theorem dX4_eliminate_3 : decode cX4_eliminate 3 = .ok (.ifCond .ne 4, 3) := by decide +kernel
theorem dX4_eliminate_6 : decode cX4_eliminate 6 = .ok (.return_, 1) := by decide +kernel
theorem dX4_eliminate_7 : decode cX4_eliminate 7 = .ok (.aload_n 0, 1) := by decide +kernel
theorem dX4_eliminate_8 : decode cX4_eliminate 8 = .ok (.getfield 13, 3) := by decide +kernel
theorem dX4_eliminate_11 : decode cX4_eliminate 11 = .ok (.iload_n 2, 1) := by decide +kernel
theorem dX4_eliminate_12 : decode cX4_eliminate 12 = .ok (.aaload, 1) := by decide +kernel
theorem dX4_eliminate_13 : decode cX4_eliminate 13 = .ok (.iload_n 2, 1) := by decide +kernel
theorem dX4_eliminate_14 : decode cX4_eliminate 14 = .ok (.laload, 1) := by decide +kernel
theorem dX4_eliminate_15 : decode cX4_eliminate 15 = .ok (.lstore 5, 2) := by decide +kernel
theorem dX4_eliminate_17 : decode cX4_eliminate 17 = .ok (.aload_n 0, 1) := by decide +kernel
theorem dX4_eliminate_18 : decode cX4_eliminate 18 = .ok (.getfield 13, 3) := by decide +kernel
theorem dX4_eliminate_21 : decode cX4_eliminate 21 = .ok (.iload_n 1, 1) := by decide +kernel
theorem dX4_eliminate_22 : decode cX4_eliminate 22 = .ok (.aaload, 1) := by decide +kernel
theorem dX4_eliminate_23 : decode cX4_eliminate 23 = .ok (.iload_n 2, 1) := by decide +kernel
theorem dX4_eliminate_24 : decode cX4_eliminate 24 = .ok (.laload, 1) := by decide +kernel
theorem dX4_eliminate_25 : decode cX4_eliminate 25 = .ok (.lstore 7, 2) := by decide +kernel
theorem dX4_eliminate_27 : decode cX4_eliminate 27 = .ok (.iconst 0, 1) := by decide +kernel
theorem dX4_eliminate_28 : decode cX4_eliminate 28 = .ok (.istore 9, 2) := by decide +kernel
theorem dX4_eliminate_30 : decode cX4_eliminate 30 = .ok (.iload 9, 2) := by decide +kernel
theorem dX4_eliminate_32 : decode cX4_eliminate 32 = .ok (.bipush 10, 2) := by decide +kernel
theorem dX4_eliminate_34 : decode cX4_eliminate 34 = .ok (.if_icmp .ge 45, 3) := by decide +kernel
theorem dX4_eliminate_37 : decode cX4_eliminate 37 = .ok (.aload_n 0, 1) := by decide +kernel
theorem dX4_eliminate_38 : decode cX4_eliminate 38 = .ok (.getfield 13, 3) := by decide +kernel
theorem dX4_eliminate_41 : decode cX4_eliminate 41 = .ok (.iload_n 1, 1) := by decide +kernel
theorem dX4_eliminate_42 : decode cX4_eliminate 42 = .ok (.aaload, 1) := by decide +kernel
theorem dX4_eliminate_43 : decode cX4_eliminate 43 = .ok (.iload 9, 2) := by decide +kernel
theorem dX4_eliminate_45 : decode cX4_eliminate 45 = .ok (.lload 5, 2) := by decide +kernel
theorem dX4_eliminate_47 : decode cX4_eliminate 47 = .ok (.aload_n 0, 1) := by decide +kernel
theorem dX4_eliminate_48 : decode cX4_eliminate 48 = .ok (.getfield 13, 3) := by decide +kernel
theorem dX4_eliminate_51 : decode cX4_eliminate 51 = .ok (.iload_n 1, 1) := by decide +kernel
theorem dX4_eliminate_52 : decode cX4_eliminate 52 = .ok (.aaload, 1) := by decide +kernel
theorem dX4_eliminate_53 : decode cX4_eliminate 53 = .ok (.iload 9, 2) := by decide +kernel
theorem dX4_eliminate_55 : decode cX4_eliminate 55 = .ok (.laload, 1) := by decide +kernel
theorem dX4_eliminate_56 : decode cX4_eliminate 56 = .ok (.lmul, 1) := by decide +kernel
theorem dX4_eliminate_57 : decode cX4_eliminate 57 = .ok (.lload 7, 2) := by decide +kernel
theorem dX4_eliminate_59 : decode cX4_eliminate 59 = .ok (.aload_n 0, 1) := by decide +kernel
theorem dX4_eliminate_60 : decode cX4_eliminate 60 = .ok (.getfield 13, 3) := by decide +kernel
theorem dX4_eliminate_63 : decode cX4_eliminate 63 = .ok (.iload_n 2, 1) := by decide +kernel
theorem dX4_eliminate_64 : decode cX4_eliminate 64 = .ok (.aaload, 1) := by decide +kernel
theorem dX4_eliminate_65 : decode cX4_eliminate 65 = .ok (.iload 9, 2) := by decide +kernel
theorem dX4_eliminate_67 : decode cX4_eliminate 67 = .ok (.laload, 1) := by decide +kernel
theorem dX4_eliminate_68 : decode cX4_eliminate 68 = .ok (.lmul, 1) := by decide +kernel
theorem dX4_eliminate_69 : decode cX4_eliminate 69 = .ok (.lsub, 1) := by decide +kernel
theorem dX4_eliminate_70 : decode cX4_eliminate 70 = .ok (.lload_n 3, 1) := by decide +kernel
theorem dX4_eliminate_71 : decode cX4_eliminate 71 = .ok (.ldiv, 1) := by decide +kernel
theorem dX4_eliminate_72 : decode cX4_eliminate 72 = .ok (.lastore, 1) := by decide +kernel
theorem dX4_eliminate_73 : decode cX4_eliminate 73 = .ok (.iinc 9 1, 3) := by decide +kernel
theorem dX4_eliminate_76 : decode cX4_eliminate 76 = .ok (.goto (-46), 3) := by decide +kernel
theorem dX4_eliminate_79 : decode cX4_eliminate 79 = .ok (.return_, 1) := by decide +kernel
theorem dX4_upper_0 : decode cX4_upper 0 = .ok (.aload_n 0, 1) := by decide +kernel
theorem dX4_upper_1 : decode cX4_upper 1 = .ok (.getfield 13, 3) := by decide +kernel
theorem dX4_upper_4 : decode cX4_upper 4 = .ok (.iload_n 1, 1) := by decide +kernel
theorem dX4_upper_5 : decode cX4_upper 5 = .ok (.aaload, 1) := by decide +kernel
theorem dX4_upper_6 : decode cX4_upper 6 = .ok (.iconst 5, 1) := by decide +kernel
theorem dX4_upper_7 : decode cX4_upper 7 = .ok (.iload_n 2, 1) := by decide +kernel
theorem dX4_upper_8 : decode cX4_upper 8 = .ok (.iadd, 1) := by decide +kernel
theorem dX4_upper_9 : decode cX4_upper 9 = .ok (.laload, 1) := by decide +kernel
theorem dX4_upper_10 : decode cX4_upper 10 = .ok (.lreturn, 1) := by decide +kernel
theorem dX4_lower_0 : decode cX4_lower 0 = .ok (.aload_n 0, 1) := by decide +kernel
theorem dX4_lower_1 : decode cX4_lower 1 = .ok (.getfield 13, 3) := by decide +kernel
theorem dX4_lower_4 : decode cX4_lower 4 = .ok (.iload_n 1, 1) := by decide +kernel
theorem dX4_lower_5 : decode cX4_lower 5 = .ok (.aaload, 1) := by decide +kernel
theorem dX4_lower_6 : decode cX4_lower 6 = .ok (.iload_n 1, 1) := by decide +kernel
theorem dX4_lower_7 : decode cX4_lower 7 = .ok (.laload, 1) := by decide +kernel
theorem dX4_lower_8 : decode cX4_lower 8 = .ok (.lreturn, 1) := by decide +kernel
theorem dX4_upperOfNobody_0 : decode cX4_upperOfNobody 0 = .ok (.aload_n 0, 1) := by decide +kernel
theorem dX4_upperOfNobody_1 : decode cX4_upperOfNobody 1 = .ok (.iload_n 1, 1) := by decide +kernel
theorem dX4_upperOfNobody_2 : decode cX4_upperOfNobody 2 = .ok (.invokevirtual 55, 3) := by decide +kernel
theorem dX4_upperOfNobody_5 : decode cX4_upperOfNobody 5 = .ok (.lstore_n 2, 1) := by decide +kernel
theorem dX4_upperOfNobody_6 : decode cX4_upperOfNobody 6 = .ok (.iconst 0, 1) := by decide +kernel
theorem dX4_upperOfNobody_7 : decode cX4_upperOfNobody 7 = .ok (.istore 4, 2) := by decide +kernel
theorem dX4_upperOfNobody_9 : decode cX4_upperOfNobody 9 = .ok (.iload 4, 2) := by decide +kernel
theorem dX4_upperOfNobody_11 : decode cX4_upperOfNobody 11 = .ok (.iconst 5, 1) := by decide +kernel
theorem dX4_upperOfNobody_12 : decode cX4_upperOfNobody 12 = .ok (.if_icmp .ge 19, 3) := by decide +kernel
theorem dX4_upperOfNobody_15 : decode cX4_upperOfNobody 15 = .ok (.lload_n 2, 1) := by decide +kernel
theorem dX4_upperOfNobody_16 : decode cX4_upperOfNobody 16 = .ok (.aload_n 0, 1) := by decide +kernel
theorem dX4_upperOfNobody_17 : decode cX4_upperOfNobody 17 = .ok (.iload_n 1, 1) := by decide +kernel
theorem dX4_upperOfNobody_18 : decode cX4_upperOfNobody 18 = .ok (.iload 4, 2) := by decide +kernel
theorem dX4_upperOfNobody_20 : decode cX4_upperOfNobody 20 = .ok (.invokevirtual 59, 3) := by decide +kernel
theorem dX4_upperOfNobody_23 : decode cX4_upperOfNobody 23 = .ok (.lsub, 1) := by decide +kernel
theorem dX4_upperOfNobody_24 : decode cX4_upperOfNobody 24 = .ok (.lstore_n 2, 1) := by decide +kernel
theorem dX4_upperOfNobody_25 : decode cX4_upperOfNobody 25 = .ok (.iinc 4 1, 3) := by decide +kernel
theorem dX4_upperOfNobody_28 : decode cX4_upperOfNobody 28 = .ok (.goto (-19), 3) := by decide +kernel
theorem dX4_upperOfNobody_31 : decode cX4_upperOfNobody 31 = .ok (.lload_n 2, 1) := by decide +kernel
theorem dX4_upperOfNobody_32 : decode cX4_upperOfNobody 32 = .ok (.lreturn, 1) := by decide +kernel
theorem dX4_rankOf_0 : decode cX4_rankOf 0 = .ok (.iconst 0, 1) := by decide +kernel
theorem dX4_rankOf_1 : decode cX4_rankOf 1 = .ok (.istore_n 3, 1) := by decide +kernel
theorem dX4_rankOf_2 : decode cX4_rankOf 2 = .ok (.iconst 0, 1) := by decide +kernel
theorem dX4_rankOf_3 : decode cX4_rankOf 3 = .ok (.istore 4, 2) := by decide +kernel
theorem dX4_rankOf_5 : decode cX4_rankOf 5 = .ok (.iload 4, 2) := by decide +kernel
theorem dX4_rankOf_7 : decode cX4_rankOf 7 = .ok (.iconst 4, 1) := by decide +kernel
theorem dX4_rankOf_8 : decode cX4_rankOf 8 = .ok (.if_icmp .ge 72, 3) := by decide +kernel
theorem dX4_rankOf_11 : decode cX4_rankOf 11 = .ok (.aload_n 0, 1) := by decide +kernel
theorem dX4_rankOf_12 : decode cX4_rankOf 12 = .ok (.iload_n 1, 1) := by decide +kernel
theorem dX4_rankOf_13 : decode cX4_rankOf 13 = .ok (.iload 4, 2) := by decide +kernel
theorem dX4_rankOf_15 : decode cX4_rankOf 15 = .ok (.invokevirtual 59, 3) := by decide +kernel
theorem dX4_rankOf_18 : decode cX4_rankOf 18 = .ok (.aload_n 0, 1) := by decide +kernel
theorem dX4_rankOf_19 : decode cX4_rankOf 19 = .ok (.iload_n 1, 1) := by decide +kernel
theorem dX4_rankOf_20 : decode cX4_rankOf 20 = .ok (.iload_n 2, 1) := by decide +kernel
theorem dX4_rankOf_21 : decode cX4_rankOf 21 = .ok (.invokevirtual 59, 3) := by decide +kernel
theorem dX4_rankOf_24 : decode cX4_rankOf 24 = .ok (.lcmp, 1) := by decide +kernel
theorem dX4_rankOf_25 : decode cX4_rankOf 25 = .ok (.ifCond .ne 13, 3) := by decide +kernel
theorem dX4_rankOf_28 : decode cX4_rankOf 28 = .ok (.iload 4, 2) := by decide +kernel
theorem dX4_rankOf_30 : decode cX4_rankOf 30 = .ok (.iload_n 2, 1) := by decide +kernel
theorem dX4_rankOf_31 : decode cX4_rankOf 31 = .ok (.if_icmp .ge 7, 3) := by decide +kernel
theorem dX4_rankOf_34 : decode cX4_rankOf 34 = .ok (.iconst 1, 1) := by decide +kernel
theorem dX4_rankOf_35 : decode cX4_rankOf 35 = .ok (.goto 4, 3) := by decide +kernel
theorem dX4_rankOf_38 : decode cX4_rankOf 38 = .ok (.iconst 0, 1) := by decide +kernel
theorem dX4_rankOf_39 : decode cX4_rankOf 39 = .ok (.istore 5, 2) := by decide +kernel
theorem dX4_rankOf_41 : decode cX4_rankOf 41 = .ok (.iload_n 3, 1) := by decide +kernel
theorem dX4_rankOf_42 : decode cX4_rankOf 42 = .ok (.iload 5, 2) := by decide +kernel
theorem dX4_rankOf_44 : decode cX4_rankOf 44 = .ok (.ifCond .ne 20, 3) := by decide +kernel
theorem dX4_rankOf_47 : decode cX4_rankOf 47 = .ok (.aload_n 0, 1) := by decide +kernel
theorem dX4_rankOf_48 : decode cX4_rankOf 48 = .ok (.iload_n 1, 1) := by decide +kernel
theorem dX4_rankOf_49 : decode cX4_rankOf 49 = .ok (.iload 4, 2) := by decide +kernel
theorem dX4_rankOf_51 : decode cX4_rankOf 51 = .ok (.invokevirtual 59, 3) := by decide +kernel
theorem dX4_rankOf_54 : decode cX4_rankOf 54 = .ok (.aload_n 0, 1) := by decide +kernel
theorem dX4_rankOf_55 : decode cX4_rankOf 55 = .ok (.iload_n 1, 1) := by decide +kernel
theorem dX4_rankOf_56 : decode cX4_rankOf 56 = .ok (.iload_n 2, 1) := by decide +kernel
theorem dX4_rankOf_57 : decode cX4_rankOf 57 = .ok (.invokevirtual 59, 3) := by decide +kernel
theorem dX4_rankOf_60 : decode cX4_rankOf 60 = .ok (.lcmp, 1) := by decide +kernel
theorem dX4_rankOf_61 : decode cX4_rankOf 61 = .ok (.ifCond .le 7, 3) := by decide +kernel
theorem dX4_rankOf_64 : decode cX4_rankOf 64 = .ok (.iconst 1, 1) := by decide +kernel
theorem dX4_rankOf_65 : decode cX4_rankOf 65 = .ok (.goto 4, 3) := by decide +kernel
theorem dX4_rankOf_68 : decode cX4_rankOf 68 = .ok (.iconst 0, 1) := by decide +kernel
theorem dX4_rankOf_69 : decode cX4_rankOf 69 = .ok (.invokestatic 63, 3) := by decide +kernel
theorem dX4_rankOf_72 : decode cX4_rankOf 72 = .ok (.iadd, 1) := by decide +kernel
theorem dX4_rankOf_73 : decode cX4_rankOf 73 = .ok (.istore_n 3, 1) := by decide +kernel
theorem dX4_rankOf_74 : decode cX4_rankOf 74 = .ok (.iinc 4 1, 3) := by decide +kernel
theorem dX4_rankOf_77 : decode cX4_rankOf 77 = .ok (.goto (-72), 3) := by decide +kernel
theorem dX4_rankOf_80 : decode cX4_rankOf 80 = .ok (.iload_n 3, 1) := by decide +kernel
theorem dX4_rankOf_81 : decode cX4_rankOf 81 = .ok (.ireturn, 1) := by decide +kernel
theorem dX4_personsAbove_0 : decode cX4_personsAbove 0 = .ok (.iconst 0, 1) := by decide +kernel
theorem dX4_personsAbove_1 : decode cX4_personsAbove 1 = .ok (.istore_n 3, 1) := by decide +kernel
theorem dX4_personsAbove_2 : decode cX4_personsAbove 2 = .ok (.iconst 0, 1) := by decide +kernel
theorem dX4_personsAbove_3 : decode cX4_personsAbove 3 = .ok (.istore 4, 2) := by decide +kernel
theorem dX4_personsAbove_5 : decode cX4_personsAbove 5 = .ok (.iload 4, 2) := by decide +kernel
theorem dX4_personsAbove_7 : decode cX4_personsAbove 7 = .ok (.iconst 4, 1) := by decide +kernel
theorem dX4_personsAbove_8 : decode cX4_personsAbove 8 = .ok (.if_icmp .ge 39, 3) := by decide +kernel
theorem dX4_personsAbove_11 : decode cX4_personsAbove 11 = .ok (.aload_n 0, 1) := by decide +kernel
theorem dX4_personsAbove_12 : decode cX4_personsAbove 12 = .ok (.iload_n 1, 1) := by decide +kernel
theorem dX4_personsAbove_13 : decode cX4_personsAbove 13 = .ok (.iload 4, 2) := by decide +kernel
theorem dX4_personsAbove_15 : decode cX4_personsAbove 15 = .ok (.invokevirtual 59, 3) := by decide +kernel
theorem dX4_personsAbove_18 : decode cX4_personsAbove 18 = .ok (.ldc2_w 49, 3) := by decide +kernel
theorem dX4_personsAbove_21 : decode cX4_personsAbove 21 = .ok (.lmul, 1) := by decide +kernel
theorem dX4_personsAbove_22 : decode cX4_personsAbove 22 = .ok (.iload_n 2, 1) := by decide +kernel
theorem dX4_personsAbove_23 : decode cX4_personsAbove 23 = .ok (.i2l, 1) := by decide +kernel
theorem dX4_personsAbove_24 : decode cX4_personsAbove 24 = .ok (.aload_n 0, 1) := by decide +kernel
theorem dX4_personsAbove_25 : decode cX4_personsAbove 25 = .ok (.iload_n 1, 1) := by decide +kernel
theorem dX4_personsAbove_26 : decode cX4_personsAbove 26 = .ok (.invokevirtual 55, 3) := by decide +kernel
theorem dX4_personsAbove_29 : decode cX4_personsAbove 29 = .ok (.lmul, 1) := by decide +kernel
theorem dX4_personsAbove_30 : decode cX4_personsAbove 30 = .ok (.lcmp, 1) := by decide +kernel
theorem dX4_personsAbove_31 : decode cX4_personsAbove 31 = .ok (.ifCond .le 10, 3) := by decide +kernel
theorem dX4_personsAbove_34 : decode cX4_personsAbove 34 = .ok (.iload_n 3, 1) := by decide +kernel
theorem dX4_personsAbove_35 : decode cX4_personsAbove 35 = .ok (.iconst 1, 1) := by decide +kernel
theorem dX4_personsAbove_36 : decode cX4_personsAbove 36 = .ok (.iload 4, 2) := by decide +kernel
theorem dX4_personsAbove_38 : decode cX4_personsAbove 38 = .ok (.ishl, 1) := by decide +kernel
theorem dX4_personsAbove_39 : decode cX4_personsAbove 39 = .ok (.ior, 1) := by decide +kernel
theorem dX4_personsAbove_40 : decode cX4_personsAbove 40 = .ok (.istore_n 3, 1) := by decide +kernel
theorem dX4_personsAbove_41 : decode cX4_personsAbove 41 = .ok (.iinc 4 1, 3) := by decide +kernel
theorem dX4_personsAbove_44 : decode cX4_personsAbove 44 = .ok (.goto (-39), 3) := by decide +kernel
theorem dX4_personsAbove_47 : decode cX4_personsAbove 47 = .ok (.iload_n 3, 1) := by decide +kernel
theorem dX4_personsAbove_48 : decode cX4_personsAbove 48 = .ok (.ireturn, 1) := by decide +kernel
theorem dX5_init_0 : decode cX5_init 0 = .ok (.aload_n 0, 1) := by decide +kernel
theorem dX5_init_1 : decode cX5_init 1 = .ok (.invokespecial 3, 3) := by decide +kernel
theorem dX5_init_4 : decode cX5_init 4 = .ok (.aload_n 0, 1) := by decide +kernel
theorem dX5_init_5 : decode cX5_init 5 = .ok (.bipush 40, 2) := by decide +kernel
theorem dX5_init_7 : decode cX5_init 7 = .ok (.newarray .int, 2) := by decide +kernel
theorem dX5_init_9 : decode cX5_init 9 = .ok (.putfield 9, 3) := by decide +kernel
theorem dX5_init_12 : decode cX5_init 12 = .ok (.aload_n 0, 1) := by decide +kernel
theorem dX5_init_13 : decode cX5_init 13 = .ok (.bipush 40, 2) := by decide +kernel
theorem dX5_init_15 : decode cX5_init 15 = .ok (.bipush 9, 2) := by decide +kernel
theorem dX5_init_17 : decode cX5_init 17 = .ok (.multianewarray 15 2, 4) := by decide +kernel
theorem dX5_init_21 : decode cX5_init 21 = .ok (.putfield 17, 3) := by decide +kernel
theorem dX5_init_24 : decode cX5_init 24 = .ok (.aload_n 0, 1) := by decide +kernel
theorem dX5_init_25 : decode cX5_init 25 = .ok (.sipush 1800, 3) := by decide +kernel
theorem dX5_init_28 : decode cX5_init 28 = .ok (.newarray .int, 2) := by decide +kernel
theorem dX5_init_30 : decode cX5_init 30 = .ok (.putfield 20, 3) := by decide +kernel
theorem dX5_init_33 : decode cX5_init 33 = .ok (.return_, 1) := by decide +kernel
theorem dX5_workOut_0 : decode cX5_workOut 0 = .ok (.aload_n 0, 1) := by decide +kernel
theorem dX5_workOut_1 : decode cX5_workOut 1 = .ok (.iconst 0, 1) := by decide +kernel
theorem dX5_workOut_2 : decode cX5_workOut 2 = .ok (.putfield 23, 3) := by decide +kernel
theorem dX5_workOut_5 : decode cX5_workOut 5 = .ok (.aload_n 2, 1) := by decide +kernel
theorem dX5_workOut_6 : decode cX5_workOut 6 = .ok (.invokevirtual 27, 3) := by decide +kernel
theorem dX5_workOut_9 : decode cX5_workOut 9 = .ok (.iconst 0, 1) := by decide +kernel
theorem dX5_workOut_10 : decode cX5_workOut 10 = .ok (.istore 4, 2) := by decide +kernel
theorem dX5_workOut_12 : decode cX5_workOut 12 = .ok (.iload 4, 2) := by decide +kernel
theorem dX5_workOut_14 : decode cX5_workOut 14 = .ok (.aload_n 1, 1) := by decide +kernel
theorem dX5_workOut_15 : decode cX5_workOut 15 = .ok (.getfield 32, 3) := by decide +kernel
theorem dX5_workOut_18 : decode cX5_workOut 18 = .ok (.if_icmp .ge 113, 3) := by decide +kernel
theorem dX5_workOut_21 : decode cX5_workOut 21 = .ok (.aload_n 0, 1) := by decide +kernel
theorem dX5_workOut_22 : decode cX5_workOut 22 = .ok (.getfield 23, 3) := by decide +kernel
theorem dX5_workOut_25 : decode cX5_workOut 25 = .ok (.bipush 40, 2) := by decide +kernel
theorem dX5_workOut_27 : decode cX5_workOut 27 = .ok (.if_icmp .ge 104, 3) := by decide +kernel
theorem dX5_workOut_30 : decode cX5_workOut 30 = .ok (.aload_n 1, 1) := by decide +kernel
theorem dX5_workOut_31 : decode cX5_workOut 31 = .ok (.getfield 35, 3) := by decide +kernel
theorem dX5_workOut_34 : decode cX5_workOut 34 = .ok (.iload 4, 2) := by decide +kernel
theorem dX5_workOut_36 : decode cX5_workOut 36 = .ok (.iaload, 1) := by decide +kernel
theorem dX5_workOut_37 : decode cX5_workOut 37 = .ok (.istore 5, 2) := by decide +kernel
theorem dX5_workOut_39 : decode cX5_workOut 39 = .ok (.aload_n 2, 1) := by decide +kernel
theorem dX5_workOut_40 : decode cX5_workOut 40 = .ok (.aload_n 1, 1) := by decide +kernel
theorem dX5_workOut_41 : decode cX5_workOut 41 = .ok (.iload 5, 2) := by decide +kernel
theorem dX5_workOut_43 : decode cX5_workOut 43 = .ok (.invokevirtual 38, 3) := by decide +kernel
theorem dX5_workOut_46 : decode cX5_workOut 46 = .ok (.pop, 1) := by decide +kernel
theorem dX5_workOut_47 : decode cX5_workOut 47 = .ok (.aload_n 1, 1) := by decide +kernel
theorem dX5_workOut_48 : decode cX5_workOut 48 = .ok (.iload 4, 2) := by decide +kernel
theorem dX5_workOut_50 : decode cX5_workOut 50 = .ok (.invokevirtual 42, 3) := by decide +kernel
theorem dX5_workOut_53 : decode cX5_workOut 53 = .ok (.ifCond .eq 72, 3) := by decide +kernel
theorem dX5_workOut_56 : decode cX5_workOut 56 = .ok (.iconst 0, 1) := by decide +kernel
theorem dX5_workOut_57 : decode cX5_workOut 57 = .ok (.istore 6, 2) := by decide +kernel
theorem dX5_workOut_59 : decode cX5_workOut 59 = .ok (.iload 6, 2) := by decide +kernel
theorem dX5_workOut_61 : decode cX5_workOut 61 = .ok (.bipush 9, 2) := by decide +kernel
theorem dX5_workOut_63 : decode cX5_workOut 63 = .ok (.if_icmp .ge 36, 3) := by decide +kernel
theorem dX5_workOut_66 : decode cX5_workOut 66 = .ok (.aload_n 3, 1) := by decide +kernel
theorem dX5_workOut_67 : decode cX5_workOut 67 = .ok (.iload 6, 2) := by decide +kernel
theorem dX5_workOut_69 : decode cX5_workOut 69 = .ok (.aload_n 2, 1) := by decide +kernel
theorem dX5_workOut_70 : decode cX5_workOut 70 = .ok (.aload_n 1, 1) := by decide +kernel
theorem dX5_workOut_71 : decode cX5_workOut 71 = .ok (.invokevirtual 46, 3) := by decide +kernel
theorem dX5_workOut_74 : decode cX5_workOut 74 = .ok (.aload_n 0, 1) := by decide +kernel
theorem dX5_workOut_75 : decode cX5_workOut 75 = .ok (.getfield 17, 3) := by decide +kernel
theorem dX5_workOut_78 : decode cX5_workOut 78 = .ok (.aload_n 0, 1) := by decide +kernel
theorem dX5_workOut_79 : decode cX5_workOut 79 = .ok (.getfield 23, 3) := by decide +kernel
theorem dX5_workOut_82 : decode cX5_workOut 82 = .ok (.aaload, 1) := by decide +kernel
theorem dX5_workOut_83 : decode cX5_workOut 83 = .ok (.iload 6, 2) := by decide +kernel
theorem dX5_workOut_85 : decode cX5_workOut 85 = .ok (.aload_n 3, 1) := by decide +kernel
theorem dX5_workOut_86 : decode cX5_workOut 86 = .ok (.getfield 52, 3) := by decide +kernel
theorem dX5_workOut_89 : decode cX5_workOut 89 = .ok (.iload 6, 2) := by decide +kernel
theorem dX5_workOut_91 : decode cX5_workOut 91 = .ok (.iaload, 1) := by decide +kernel
theorem dX5_workOut_92 : decode cX5_workOut 92 = .ok (.iastore, 1) := by decide +kernel
theorem dX5_workOut_93 : decode cX5_workOut 93 = .ok (.iinc 6 1, 3) := by decide +kernel
theorem dX5_workOut_96 : decode cX5_workOut 96 = .ok (.goto (-37), 3) := by decide +kernel
theorem dX5_workOut_99 : decode cX5_workOut 99 = .ok (.aload_n 0, 1) := by decide +kernel
theorem dX5_workOut_100 : decode cX5_workOut 100 = .ok (.getfield 9, 3) := by decide +kernel
theorem dX5_workOut_103 : decode cX5_workOut 103 = .ok (.aload_n 0, 1) := by decide +kernel
theorem dX5_workOut_104 : decode cX5_workOut 104 = .ok (.getfield 23, 3) := by decide +kernel
theorem dX5_workOut_107 : decode cX5_workOut 107 = .ok (.aload_n 1, 1) := by decide +kernel
theorem dX5_workOut_108 : decode cX5_workOut 108 = .ok (.getfield 54, 3) := by decide +kernel
theorem dX5_workOut_111 : decode cX5_workOut 111 = .ok (.iload 5, 2) := by decide +kernel
theorem dX5_workOut_113 : decode cX5_workOut 113 = .ok (.iaload, 1) := by decide +kernel
theorem dX5_workOut_114 : decode cX5_workOut 114 = .ok (.iastore, 1) := by decide +kernel
theorem dX5_workOut_115 : decode cX5_workOut 115 = .ok (.aload_n 0, 1) := by decide +kernel
theorem dX5_workOut_116 : decode cX5_workOut 116 = .ok (.dup, 1) := by decide +kernel
theorem dX5_workOut_117 : decode cX5_workOut 117 = .ok (.getfield 23, 3) := by decide +kernel
theorem dX5_workOut_120 : decode cX5_workOut 120 = .ok (.iconst 1, 1) := by decide +kernel
theorem dX5_workOut_121 : decode cX5_workOut 121 = .ok (.iadd, 1) := by decide +kernel
theorem dX5_workOut_122 : decode cX5_workOut 122 = .ok (.putfield 23, 3) := by decide +kernel
theorem dX5_workOut_125 : decode cX5_workOut 125 = .ok (.iinc 4 1, 3) := by decide +kernel
theorem dX5_workOut_128 : decode cX5_workOut 128 = .ok (.goto (-116), 3) := by decide +kernel
theorem dX5_workOut_131 : decode cX5_workOut 131 = .ok (.aload_n 0, 1) := by decide +kernel
theorem dX5_workOut_132 : decode cX5_workOut 132 = .ok (.invokevirtual 57, 3) := by decide +kernel
theorem dX5_workOut_135 : decode cX5_workOut 135 = .ok (.return_, 1) := by decide +kernel
theorem dX5_listEvents_0 : decode cX5_listEvents 0 = .ok (.aload_n 0, 1) := by decide +kernel
theorem dX5_listEvents_1 : decode cX5_listEvents 1 = .ok (.iconst 0, 1) := by decide +kernel
theorem dX5_listEvents_2 : decode cX5_listEvents 2 = .ok (.putfield 60, 3) := by decide +kernel
theorem dX5_listEvents_5 : decode cX5_listEvents 5 = .ok (.iconst 0, 1) := by decide +kernel
theorem dX5_listEvents_6 : decode cX5_listEvents 6 = .ok (.istore_n 1, 1) := by decide +kernel
theorem dX5_listEvents_7 : decode cX5_listEvents 7 = .ok (.iload_n 1, 1) := by decide +kernel
theorem dX5_listEvents_8 : decode cX5_listEvents 8 = .ok (.aload_n 0, 1) := by decide +kernel
theorem dX5_listEvents_9 : decode cX5_listEvents 9 = .ok (.getfield 23, 3) := by decide +kernel
theorem dX5_listEvents_12 : decode cX5_listEvents 12 = .ok (.if_icmp .ge 43, 3) := by decide +kernel
theorem dX5_listEvents_15 : decode cX5_listEvents 15 = .ok (.iconst 0, 1) := by decide +kernel
theorem dX5_listEvents_16 : decode cX5_listEvents 16 = .ok (.istore_n 2, 1) := by decide +kernel
theorem dX5_listEvents_17 : decode cX5_listEvents 17 = .ok (.iload_n 2, 1) := by decide +kernel
theorem dX5_listEvents_18 : decode cX5_listEvents 18 = .ok (.bipush 9, 2) := by decide +kernel
theorem dX5_listEvents_20 : decode cX5_listEvents 20 = .ok (.if_icmp .ge 29, 3) := by decide +kernel
theorem dX5_listEvents_23 : decode cX5_listEvents 23 = .ok (.iconst 0, 1) := by decide +kernel
theorem dX5_listEvents_24 : decode cX5_listEvents 24 = .ok (.istore_n 3, 1) := by decide +kernel
theorem dX5_listEvents_25 : decode cX5_listEvents 25 = .ok (.iload_n 3, 1) := by decide +kernel
theorem dX5_listEvents_26 : decode cX5_listEvents 26 = .ok (.iconst 5, 1) := by decide +kernel
theorem dX5_listEvents_27 : decode cX5_listEvents 27 = .ok (.if_icmp .ge 16, 3) := by decide +kernel
theorem dX5_listEvents_30 : decode cX5_listEvents 30 = .ok (.aload_n 0, 1) := by decide +kernel
theorem dX5_listEvents_31 : decode cX5_listEvents 31 = .ok (.iload_n 1, 1) := by decide +kernel
theorem dX5_listEvents_32 : decode cX5_listEvents 32 = .ok (.iload_n 2, 1) := by decide +kernel
theorem dX5_listEvents_33 : decode cX5_listEvents 33 = .ok (.iload_n 3, 1) := by decide +kernel
theorem dX5_listEvents_34 : decode cX5_listEvents 34 = .ok (.invokevirtual 63, 3) := by decide +kernel
theorem dX5_listEvents_37 : decode cX5_listEvents 37 = .ok (.iinc 3 1, 3) := by decide +kernel
theorem dX5_listEvents_40 : decode cX5_listEvents 40 = .ok (.goto (-15), 3) := by decide +kernel
theorem dX5_listEvents_43 : decode cX5_listEvents 43 = .ok (.iinc 2 1, 3) := by decide +kernel
theorem dX5_listEvents_46 : decode cX5_listEvents 46 = .ok (.goto (-29), 3) := by decide +kernel
theorem dX5_listEvents_49 : decode cX5_listEvents 49 = .ok (.iinc 1 1, 3) := by decide +kernel
theorem dX5_listEvents_52 : decode cX5_listEvents 52 = .ok (.goto (-45), 3) := by decide +kernel
theorem dX5_listEvents_55 : decode cX5_listEvents 55 = .ok (.return_, 1) := by decide +kernel
theorem dX5_listEvent_0 : decode cX5_listEvent 0 = .ok (.aload_n 0, 1) := by decide +kernel
theorem dX5_listEvent_1 : decode cX5_listEvent 1 = .ok (.iload_n 1, 1) := by decide +kernel
theorem dX5_listEvent_2 : decode cX5_listEvent 2 = .ok (.iload_n 2, 1) := by decide +kernel
theorem dX5_listEvent_3 : decode cX5_listEvent 3 = .ok (.iload_n 3, 1) := by decide +kernel
theorem dX5_listEvent_4 : decode cX5_listEvent 4 = .ok (.invokevirtual 67, 3) := by decide +kernel
theorem dX5_listEvent_7 : decode cX5_listEvent 7 = .ok (.istore 4, 2) := by decide +kernel
theorem dX5_listEvent_9 : decode cX5_listEvent 9 = .ok (.iload 4, 2) := by decide +kernel
theorem dX5_listEvent_11 : decode cX5_listEvent 11 = .ok (.aload_n 0, 1) := by decide +kernel
theorem dX5_listEvent_12 : decode cX5_listEvent 12 = .ok (.iload_n 1, 1) := by decide +kernel
theorem dX5_listEvent_13 : decode cX5_listEvent 13 = .ok (.iconst 1, 1) := by decide +kernel
theorem dX5_listEvent_14 : decode cX5_listEvent 14 = .ok (.isub, 1) := by decide +kernel
theorem dX5_listEvent_15 : decode cX5_listEvent 15 = .ok (.iload_n 2, 1) := by decide +kernel
theorem dX5_listEvent_16 : decode cX5_listEvent 16 = .ok (.iload_n 3, 1) := by decide +kernel
theorem dX5_listEvent_17 : decode cX5_listEvent 17 = .ok (.invokevirtual 67, 3) := by decide +kernel
theorem dX5_listEvent_20 : decode cX5_listEvent 20 = .ok (.if_icmp .eq 50, 3) := by decide +kernel
theorem dX5_listEvent_23 : decode cX5_listEvent 23 = .ok (.aload_n 0, 1) := by decide +kernel
theorem dX5_listEvent_24 : decode cX5_listEvent 24 = .ok (.getfield 60, 3) := by decide +kernel
theorem dX5_listEvent_27 : decode cX5_listEvent 27 = .ok (.sipush 1800, 3) := by decide +kernel
theorem dX5_listEvent_30 : decode cX5_listEvent 30 = .ok (.if_icmp .ge 40, 3) := by decide +kernel
theorem dX5_listEvent_33 : decode cX5_listEvent 33 = .ok (.aload_n 0, 1) := by decide +kernel
theorem dX5_listEvent_34 : decode cX5_listEvent 34 = .ok (.getfield 20, 3) := by decide +kernel
theorem dX5_listEvent_37 : decode cX5_listEvent 37 = .ok (.aload_n 0, 1) := by decide +kernel
theorem dX5_listEvent_38 : decode cX5_listEvent 38 = .ok (.getfield 60, 3) := by decide +kernel
theorem dX5_listEvent_41 : decode cX5_listEvent 41 = .ok (.iload_n 1, 1) := by decide +kernel
theorem dX5_listEvent_42 : decode cX5_listEvent 42 = .ok (.bipush 9, 2) := by decide +kernel
theorem dX5_listEvent_44 : decode cX5_listEvent 44 = .ok (.imul, 1) := by decide +kernel
theorem dX5_listEvent_45 : decode cX5_listEvent 45 = .ok (.iload_n 2, 1) := by decide +kernel
theorem dX5_listEvent_46 : decode cX5_listEvent 46 = .ok (.iadd, 1) := by decide +kernel
theorem dX5_listEvent_47 : decode cX5_listEvent 47 = .ok (.iconst 5, 1) := by decide +kernel
theorem dX5_listEvent_48 : decode cX5_listEvent 48 = .ok (.imul, 1) := by decide +kernel
theorem dX5_listEvent_49 : decode cX5_listEvent 49 = .ok (.iload_n 3, 1) := by decide +kernel
theorem dX5_listEvent_50 : decode cX5_listEvent 50 = .ok (.iadd, 1) := by decide +kernel
theorem dX5_listEvent_51 : decode cX5_listEvent 51 = .ok (.iconst 2, 1) := by decide +kernel
theorem dX5_listEvent_52 : decode cX5_listEvent 52 = .ok (.imul, 1) := by decide +kernel
theorem dX5_listEvent_53 : decode cX5_listEvent 53 = .ok (.iload 4, 2) := by decide +kernel
theorem dX5_listEvent_55 : decode cX5_listEvent 55 = .ok (.invokestatic 71, 3) := by decide +kernel
theorem dX5_listEvent_58 : decode cX5_listEvent 58 = .ok (.iadd, 1) := by decide +kernel
theorem dX5_listEvent_59 : decode cX5_listEvent 59 = .ok (.iastore, 1) := by decide +kernel
theorem dX5_listEvent_60 : decode cX5_listEvent 60 = .ok (.aload_n 0, 1) := by decide +kernel
theorem dX5_listEvent_61 : decode cX5_listEvent 61 = .ok (.dup, 1) := by decide +kernel
theorem dX5_listEvent_62 : decode cX5_listEvent 62 = .ok (.getfield 60, 3) := by decide +kernel
theorem dX5_listEvent_65 : decode cX5_listEvent 65 = .ok (.iconst 1, 1) := by decide +kernel
theorem dX5_listEvent_66 : decode cX5_listEvent 66 = .ok (.iadd, 1) := by decide +kernel
theorem dX5_listEvent_67 : decode cX5_listEvent 67 = .ok (.putfield 60, 3) := by decide +kernel
theorem dX5_listEvent_70 : decode cX5_listEvent 70 = .ok (.return_, 1) := by decide +kernel
theorem dX5_isControlled_0 : decode cX5_isControlled 0 = .ok (.iload_n 1, 1) := by decide +kernel
theorem dX5_isControlled_1 : decode cX5_isControlled 1 = .ok (.ifCond .lt 22, 3) := by decide +kernel
theorem dX5_isControlled_4 : decode cX5_isControlled 4 = .ok (.aload_n 0, 1) := by decide +kernel
theorem dX5_isControlled_5 : decode cX5_isControlled 5 = .ok (.getfield 17, 3) := by decide +kernel
theorem dX5_isControlled_8 : decode cX5_isControlled 8 = .ok (.iload_n 1, 1) := by decide +kernel
theorem dX5_isControlled_9 : decode cX5_isControlled 9 = .ok (.aaload, 1) := by decide +kernel
theorem dX5_isControlled_10 : decode cX5_isControlled 10 = .ok (.iload_n 2, 1) := by decide +kernel
theorem dX5_isControlled_11 : decode cX5_isControlled 11 = .ok (.iaload, 1) := by decide +kernel
theorem dX5_isControlled_12 : decode cX5_isControlled 12 = .ok (.iload_n 3, 1) := by decide +kernel
theorem dX5_isControlled_13 : decode cX5_isControlled 13 = .ok (.invokestatic 75, 3) := by decide +kernel
theorem dX5_isControlled_16 : decode cX5_isControlled 16 = .ok (.ifCond .eq 7, 3) := by decide +kernel
theorem dX5_isControlled_19 : decode cX5_isControlled 19 = .ok (.iconst 1, 1) := by decide +kernel
theorem dX5_isControlled_20 : decode cX5_isControlled 20 = .ok (.goto 4, 3) := by decide +kernel
theorem dX5_isControlled_23 : decode cX5_isControlled 23 = .ok (.iconst 0, 1) := by decide +kernel
theorem dX5_isControlled_24 : decode cX5_isControlled 24 = .ok (.ireturn, 1) := by decide +kernel
theorem dX5_ofEvent_0 : decode cX5_ofEvent 0 = .ok (.iload_n 1, 1) := by decide +kernel
theorem dX5_ofEvent_1 : decode cX5_ofEvent 1 = .ok (.ifCond .lt 11, 3) := by decide +kernel
theorem dX5_ofEvent_4 : decode cX5_ofEvent 4 = .ok (.iload_n 1, 1) := by decide +kernel
theorem dX5_ofEvent_5 : decode cX5_ofEvent 5 = .ok (.aload_n 0, 1) := by decide +kernel
theorem dX5_ofEvent_6 : decode cX5_ofEvent 6 = .ok (.getfield 60, 3) := by decide +kernel
theorem dX5_ofEvent_9 : decode cX5_ofEvent 9 = .ok (.if_icmp .lt 6, 3) := by decide +kernel
theorem dX5_ofEvent_12 : decode cX5_ofEvent 12 = .ok (.bipush (-6), 2) := by decide +kernel
theorem dX5_ofEvent_14 : decode cX5_ofEvent 14 = .ok (.ireturn, 1) := by decide +kernel
theorem dX5_ofEvent_15 : decode cX5_ofEvent 15 = .ok (.aload_n 0, 1) := by decide +kernel
theorem dX5_ofEvent_16 : decode cX5_ofEvent 16 = .ok (.getfield 20, 3) := by decide +kernel
theorem dX5_ofEvent_19 : decode cX5_ofEvent 19 = .ok (.iload_n 1, 1) := by decide +kernel
theorem dX5_ofEvent_20 : decode cX5_ofEvent 20 = .ok (.iaload, 1) := by decide +kernel
theorem dX5_ofEvent_21 : decode cX5_ofEvent 21 = .ok (.iconst 2, 1) := by decide +kernel
theorem dX5_ofEvent_22 : decode cX5_ofEvent 22 = .ok (.idiv, 1) := by decide +kernel
theorem dX5_ofEvent_23 : decode cX5_ofEvent 23 = .ok (.istore_n 3, 1) := by decide +kernel
theorem dX5_ofEvent_24 : decode cX5_ofEvent 24 = .ok (.iload_n 2, 1) := by decide +kernel
theorem dX5_ofEvent_25 : decode cX5_ofEvent 25 = .ok (.tableswitch 48 0 2 #[27, 37, 44], 27) := by decide +kernel
theorem dX5_ofEvent_52 : decode cX5_ofEvent 52 = .ok (.aload_n 0, 1) := by decide +kernel
theorem dX5_ofEvent_53 : decode cX5_ofEvent 53 = .ok (.getfield 9, 3) := by decide +kernel
theorem dX5_ofEvent_56 : decode cX5_ofEvent 56 = .ok (.iload_n 3, 1) := by decide +kernel
theorem dX5_ofEvent_57 : decode cX5_ofEvent 57 = .ok (.bipush 45, 2) := by decide +kernel
theorem dX5_ofEvent_59 : decode cX5_ofEvent 59 = .ok (.idiv, 1) := by decide +kernel
theorem dX5_ofEvent_60 : decode cX5_ofEvent 60 = .ok (.iaload, 1) := by decide +kernel
theorem dX5_ofEvent_61 : decode cX5_ofEvent 61 = .ok (.ireturn, 1) := by decide +kernel
theorem dX5_ofEvent_62 : decode cX5_ofEvent 62 = .ok (.iload_n 3, 1) := by decide +kernel
theorem dX5_ofEvent_63 : decode cX5_ofEvent 63 = .ok (.iconst 5, 1) := by decide +kernel
theorem dX5_ofEvent_64 : decode cX5_ofEvent 64 = .ok (.idiv, 1) := by decide +kernel
theorem dX5_ofEvent_65 : decode cX5_ofEvent 65 = .ok (.bipush 9, 2) := by decide +kernel
theorem dX5_ofEvent_67 : decode cX5_ofEvent 67 = .ok (.irem, 1) := by decide +kernel
theorem dX5_ofEvent_68 : decode cX5_ofEvent 68 = .ok (.ireturn, 1) := by decide +kernel
theorem dX5_ofEvent_69 : decode cX5_ofEvent 69 = .ok (.iload_n 3, 1) := by decide +kernel
theorem dX5_ofEvent_70 : decode cX5_ofEvent 70 = .ok (.iconst 5, 1) := by decide +kernel
theorem dX5_ofEvent_71 : decode cX5_ofEvent 71 = .ok (.irem, 1) := by decide +kernel
theorem dX5_ofEvent_72 : decode cX5_ofEvent 72 = .ok (.ireturn, 1) := by decide +kernel
theorem dX5_ofEvent_73 : decode cX5_ofEvent 73 = .ok (.aload_n 0, 1) := by decide +kernel
theorem dX5_ofEvent_74 : decode cX5_ofEvent 74 = .ok (.getfield 20, 3) := by decide +kernel
theorem dX5_ofEvent_77 : decode cX5_ofEvent 77 = .ok (.iload_n 1, 1) := by decide +kernel
theorem dX5_ofEvent_78 : decode cX5_ofEvent 78 = .ok (.iaload, 1) := by decide +kernel
theorem dX5_ofEvent_79 : decode cX5_ofEvent 79 = .ok (.iconst 2, 1) := by decide +kernel
theorem dX5_ofEvent_80 : decode cX5_ofEvent 80 = .ok (.irem, 1) := by decide +kernel
theorem dX5_ofEvent_81 : decode cX5_ofEvent 81 = .ok (.ireturn, 1) := by decide +kernel
theorem dX5_firstDay_0 : decode cX5_firstDay 0 = .ok (.aload_n 0, 1) := by decide +kernel
theorem dX5_firstDay_1 : decode cX5_firstDay 1 = .ok (.iload_n 1, 1) := by decide +kernel
theorem dX5_firstDay_2 : decode cX5_firstDay 2 = .ok (.invokevirtual 79, 3) := by decide +kernel
theorem dX5_firstDay_5 : decode cX5_firstDay 5 = .ok (.istore 5, 2) := by decide +kernel
theorem dX5_firstDay_7 : decode cX5_firstDay 7 = .ok (.aload_n 0, 1) := by decide +kernel
theorem dX5_firstDay_8 : decode cX5_firstDay 8 = .ok (.iload 5, 2) := by decide +kernel
theorem dX5_firstDay_10 : decode cX5_firstDay 10 = .ok (.iload_n 2, 1) := by decide +kernel
theorem dX5_firstDay_11 : decode cX5_firstDay 11 = .ok (.iload_n 3, 1) := by decide +kernel
theorem dX5_firstDay_12 : decode cX5_firstDay 12 = .ok (.invokevirtual 67, 3) := by decide +kernel
theorem dX5_firstDay_15 : decode cX5_firstDay 15 = .ok (.iload 4, 2) := by decide +kernel
theorem dX5_firstDay_17 : decode cX5_firstDay 17 = .ok (.if_icmp .ne 5, 3) := by decide +kernel
theorem dX5_firstDay_20 : decode cX5_firstDay 20 = .ok (.iload_n 1, 1) := by decide +kernel
theorem dX5_firstDay_21 : decode cX5_firstDay 21 = .ok (.ireturn, 1) := by decide +kernel
theorem dX5_firstDay_22 : decode cX5_firstDay 22 = .ok (.iload 5, 2) := by decide +kernel
theorem dX5_firstDay_24 : decode cX5_firstDay 24 = .ok (.iconst 1, 1) := by decide +kernel
theorem dX5_firstDay_25 : decode cX5_firstDay 25 = .ok (.iadd, 1) := by decide +kernel
theorem dX5_firstDay_26 : decode cX5_firstDay 26 = .ok (.istore 6, 2) := by decide +kernel
theorem dX5_firstDay_28 : decode cX5_firstDay 28 = .ok (.iload 6, 2) := by decide +kernel
theorem dX5_firstDay_30 : decode cX5_firstDay 30 = .ok (.aload_n 0, 1) := by decide +kernel
theorem dX5_firstDay_31 : decode cX5_firstDay 31 = .ok (.getfield 23, 3) := by decide +kernel
theorem dX5_firstDay_34 : decode cX5_firstDay 34 = .ok (.if_icmp .ge 30, 3) := by decide +kernel
theorem dX5_firstDay_37 : decode cX5_firstDay 37 = .ok (.aload_n 0, 1) := by decide +kernel
theorem dX5_firstDay_38 : decode cX5_firstDay 38 = .ok (.iload 6, 2) := by decide +kernel
theorem dX5_firstDay_40 : decode cX5_firstDay 40 = .ok (.iload_n 2, 1) := by decide +kernel
theorem dX5_firstDay_41 : decode cX5_firstDay 41 = .ok (.iload_n 3, 1) := by decide +kernel
theorem dX5_firstDay_42 : decode cX5_firstDay 42 = .ok (.invokevirtual 67, 3) := by decide +kernel
theorem dX5_firstDay_45 : decode cX5_firstDay 45 = .ok (.iload 4, 2) := by decide +kernel
theorem dX5_firstDay_47 : decode cX5_firstDay 47 = .ok (.if_icmp .ne 11, 3) := by decide +kernel
theorem dX5_firstDay_50 : decode cX5_firstDay 50 = .ok (.aload_n 0, 1) := by decide +kernel
theorem dX5_firstDay_51 : decode cX5_firstDay 51 = .ok (.getfield 9, 3) := by decide +kernel
theorem dX5_firstDay_54 : decode cX5_firstDay 54 = .ok (.iload 6, 2) := by decide +kernel
theorem dX5_firstDay_56 : decode cX5_firstDay 56 = .ok (.iaload, 1) := by decide +kernel
theorem dX5_firstDay_57 : decode cX5_firstDay 57 = .ok (.ireturn, 1) := by decide +kernel
theorem dX5_firstDay_58 : decode cX5_firstDay 58 = .ok (.iinc 6 1, 3) := by decide +kernel
theorem dX5_firstDay_61 : decode cX5_firstDay 61 = .ok (.goto (-33), 3) := by decide +kernel
theorem dX5_firstDay_64 : decode cX5_firstDay 64 = .ok (.bipush (-6), 2) := by decide +kernel
theorem dX5_firstDay_66 : decode cX5_firstDay 66 = .ok (.ireturn, 1) := by decide +kernel
theorem dX5_lastBy_0 : decode cX5_lastBy 0 = .ok (.iconst (-1), 1) := by decide +kernel
theorem dX5_lastBy_1 : decode cX5_lastBy 1 = .ok (.istore_n 2, 1) := by decide +kernel
theorem dX5_lastBy_2 : decode cX5_lastBy 2 = .ok (.iconst 0, 1) := by decide +kernel
theorem dX5_lastBy_3 : decode cX5_lastBy 3 = .ok (.istore_n 3, 1) := by decide +kernel
theorem dX5_lastBy_4 : decode cX5_lastBy 4 = .ok (.iload_n 3, 1) := by decide +kernel
theorem dX5_lastBy_5 : decode cX5_lastBy 5 = .ok (.aload_n 0, 1) := by decide +kernel
theorem dX5_lastBy_6 : decode cX5_lastBy 6 = .ok (.getfield 23, 3) := by decide +kernel
theorem dX5_lastBy_9 : decode cX5_lastBy 9 = .ok (.if_icmp .ge 21, 3) := by decide +kernel
theorem dX5_lastBy_12 : decode cX5_lastBy 12 = .ok (.aload_n 0, 1) := by decide +kernel
theorem dX5_lastBy_13 : decode cX5_lastBy 13 = .ok (.getfield 9, 3) := by decide +kernel
theorem dX5_lastBy_16 : decode cX5_lastBy 16 = .ok (.iload_n 3, 1) := by decide +kernel
theorem dX5_lastBy_17 : decode cX5_lastBy 17 = .ok (.iaload, 1) := by decide +kernel
theorem dX5_lastBy_18 : decode cX5_lastBy 18 = .ok (.iload_n 1, 1) := by decide +kernel
theorem dX5_lastBy_19 : decode cX5_lastBy 19 = .ok (.if_icmp .gt 11, 3) := by decide +kernel
theorem dX5_lastBy_22 : decode cX5_lastBy 22 = .ok (.iload_n 3, 1) := by decide +kernel
theorem dX5_lastBy_23 : decode cX5_lastBy 23 = .ok (.istore_n 2, 1) := by decide +kernel
theorem dX5_lastBy_24 : decode cX5_lastBy 24 = .ok (.iinc 3 1, 3) := by decide +kernel
theorem dX5_lastBy_27 : decode cX5_lastBy 27 = .ok (.goto (-23), 3) := by decide +kernel
theorem dX5_lastBy_30 : decode cX5_lastBy 30 = .ok (.iload_n 2, 1) := by decide +kernel
theorem dX5_lastBy_31 : decode cX5_lastBy 31 = .ok (.ireturn, 1) := by decide +kernel
theorem dJ6_bitCount_0f7a4_0 : decode cJ6_bitCount_0f7a4 0 = .ok (.iload_n 0, 1) := by decide +kernel
theorem dJ6_bitCount_0f7a4_1 : decode cJ6_bitCount_0f7a4 1 = .ok (.iload_n 0, 1) := by decide +kernel
theorem dJ6_bitCount_0f7a4_2 : decode cJ6_bitCount_0f7a4 2 = .ok (.iconst 1, 1) := by decide +kernel
theorem dJ6_bitCount_0f7a4_3 : decode cJ6_bitCount_0f7a4 3 = .ok (.iushr, 1) := by decide +kernel
theorem dJ6_bitCount_0f7a4_4 : decode cJ6_bitCount_0f7a4 4 = .ok (.ldc_w 265, 3) := by decide +kernel
theorem dJ6_bitCount_0f7a4_7 : decode cJ6_bitCount_0f7a4 7 = .ok (.iand, 1) := by decide +kernel
theorem dJ6_bitCount_0f7a4_8 : decode cJ6_bitCount_0f7a4 8 = .ok (.isub, 1) := by decide +kernel
theorem dJ6_bitCount_0f7a4_9 : decode cJ6_bitCount_0f7a4 9 = .ok (.istore_n 0, 1) := by decide +kernel
theorem dJ6_bitCount_0f7a4_10 : decode cJ6_bitCount_0f7a4 10 = .ok (.iload_n 0, 1) := by decide +kernel
theorem dJ6_bitCount_0f7a4_11 : decode cJ6_bitCount_0f7a4 11 = .ok (.ldc_w 266, 3) := by decide +kernel
theorem dJ6_bitCount_0f7a4_14 : decode cJ6_bitCount_0f7a4 14 = .ok (.iand, 1) := by decide +kernel
theorem dJ6_bitCount_0f7a4_15 : decode cJ6_bitCount_0f7a4 15 = .ok (.iload_n 0, 1) := by decide +kernel
theorem dJ6_bitCount_0f7a4_16 : decode cJ6_bitCount_0f7a4 16 = .ok (.iconst 2, 1) := by decide +kernel
theorem dJ6_bitCount_0f7a4_17 : decode cJ6_bitCount_0f7a4 17 = .ok (.iushr, 1) := by decide +kernel
theorem dJ6_bitCount_0f7a4_18 : decode cJ6_bitCount_0f7a4 18 = .ok (.ldc_w 266, 3) := by decide +kernel
theorem dJ6_bitCount_0f7a4_21 : decode cJ6_bitCount_0f7a4 21 = .ok (.iand, 1) := by decide +kernel
theorem dJ6_bitCount_0f7a4_22 : decode cJ6_bitCount_0f7a4 22 = .ok (.iadd, 1) := by decide +kernel
theorem dJ6_bitCount_0f7a4_23 : decode cJ6_bitCount_0f7a4 23 = .ok (.istore_n 0, 1) := by decide +kernel
theorem dJ6_bitCount_0f7a4_24 : decode cJ6_bitCount_0f7a4 24 = .ok (.iload_n 0, 1) := by decide +kernel
theorem dJ6_bitCount_0f7a4_25 : decode cJ6_bitCount_0f7a4 25 = .ok (.iload_n 0, 1) := by decide +kernel
theorem dJ6_bitCount_0f7a4_26 : decode cJ6_bitCount_0f7a4 26 = .ok (.iconst 4, 1) := by decide +kernel
theorem dJ6_bitCount_0f7a4_27 : decode cJ6_bitCount_0f7a4 27 = .ok (.iushr, 1) := by decide +kernel
theorem dJ6_bitCount_0f7a4_28 : decode cJ6_bitCount_0f7a4 28 = .ok (.iadd, 1) := by decide +kernel
theorem dJ6_bitCount_0f7a4_29 : decode cJ6_bitCount_0f7a4 29 = .ok (.ldc_w 267, 3) := by decide +kernel
theorem dJ6_bitCount_0f7a4_32 : decode cJ6_bitCount_0f7a4 32 = .ok (.iand, 1) := by decide +kernel
theorem dJ6_bitCount_0f7a4_33 : decode cJ6_bitCount_0f7a4 33 = .ok (.istore_n 0, 1) := by decide +kernel
theorem dJ6_bitCount_0f7a4_34 : decode cJ6_bitCount_0f7a4 34 = .ok (.iload_n 0, 1) := by decide +kernel
theorem dJ6_bitCount_0f7a4_35 : decode cJ6_bitCount_0f7a4 35 = .ok (.iload_n 0, 1) := by decide +kernel
theorem dJ6_bitCount_0f7a4_36 : decode cJ6_bitCount_0f7a4 36 = .ok (.bipush 8, 2) := by decide +kernel
theorem dJ6_bitCount_0f7a4_38 : decode cJ6_bitCount_0f7a4 38 = .ok (.iushr, 1) := by decide +kernel
theorem dJ6_bitCount_0f7a4_39 : decode cJ6_bitCount_0f7a4 39 = .ok (.iadd, 1) := by decide +kernel
theorem dJ6_bitCount_0f7a4_40 : decode cJ6_bitCount_0f7a4 40 = .ok (.istore_n 0, 1) := by decide +kernel
theorem dJ6_bitCount_0f7a4_41 : decode cJ6_bitCount_0f7a4 41 = .ok (.iload_n 0, 1) := by decide +kernel
theorem dJ6_bitCount_0f7a4_42 : decode cJ6_bitCount_0f7a4 42 = .ok (.iload_n 0, 1) := by decide +kernel
theorem dJ6_bitCount_0f7a4_43 : decode cJ6_bitCount_0f7a4 43 = .ok (.bipush 16, 2) := by decide +kernel
theorem dJ6_bitCount_0f7a4_45 : decode cJ6_bitCount_0f7a4 45 = .ok (.iushr, 1) := by decide +kernel
theorem dJ6_bitCount_0f7a4_46 : decode cJ6_bitCount_0f7a4 46 = .ok (.iadd, 1) := by decide +kernel
theorem dJ6_bitCount_0f7a4_47 : decode cJ6_bitCount_0f7a4 47 = .ok (.istore_n 0, 1) := by decide +kernel
theorem dJ6_bitCount_0f7a4_48 : decode cJ6_bitCount_0f7a4 48 = .ok (.iload_n 0, 1) := by decide +kernel
theorem dJ6_bitCount_0f7a4_49 : decode cJ6_bitCount_0f7a4 49 = .ok (.bipush 63, 2) := by decide +kernel
theorem dJ6_bitCount_0f7a4_51 : decode cJ6_bitCount_0f7a4 51 = .ok (.iand, 1) := by decide +kernel
theorem dJ6_bitCount_0f7a4_52 : decode cJ6_bitCount_0f7a4 52 = .ok (.ireturn, 1) := by decide +kernel
theorem dJ9_max_7cf53_0 : decode cJ9_max_7cf53 0 = .ok (.iload_n 0, 1) := by decide +kernel
theorem dJ9_max_7cf53_1 : decode cJ9_max_7cf53 1 = .ok (.iload_n 1, 1) := by decide +kernel
theorem dJ9_max_7cf53_2 : decode cJ9_max_7cf53 2 = .ok (.if_icmp .lt 7, 3) := by decide +kernel
theorem dJ9_max_7cf53_5 : decode cJ9_max_7cf53 5 = .ok (.iload_n 0, 1) := by decide +kernel
theorem dJ9_max_7cf53_6 : decode cJ9_max_7cf53 6 = .ok (.goto 4, 3) := by decide +kernel
theorem dJ9_max_7cf53_9 : decode cJ9_max_7cf53 9 = .ok (.iload_n 1, 1) := by decide +kernel
theorem dJ9_max_7cf53_10 : decode cJ9_max_7cf53 10 = .ok (.ireturn, 1) := by decide +kernel
