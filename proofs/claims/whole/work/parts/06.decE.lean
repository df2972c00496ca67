theorem dX7_init_0 : decode cX7_init 0 = .ok (.aload_n 0, 1) := by decide +kernel
theorem dX7_init_1 : decode cX7_init 1 = .ok (.invokespecial 1, 3) := by decide +kernel
theorem dX7_init_4 : decode cX7_init 4 = .ok (.aload_n 0, 1) := by decide +kernel
theorem dX7_init_5 : decode cX7_init 5 = .ok (.bipush 41, 2) := by decide +kernel
theorem dX7_init_7 : decode cX7_init 7 = .ok (.newarray .int, 2) := by decide +kernel
theorem dX7_init_9 : decode cX7_init 9 = .ok (.putfield 7, 3) := by decide +kernel
theorem dX7_init_12 : decode cX7_init 12 = .ok (.aload_n 0, 1) := by decide +kernel
theorem dX7_init_13 : decode cX7_init 13 = .ok (.bipush 41, 2) := by decide +kernel
theorem dX7_init_15 : decode cX7_init 15 = .ok (.newarray .int, 2) := by decide +kernel
theorem dX7_init_17 : decode cX7_init 17 = .ok (.putfield 13, 3) := by decide +kernel
theorem dX7_init_20 : decode cX7_init 20 = .ok (.aload_n 0, 1) := by decide +kernel
theorem dX7_init_21 : decode cX7_init 21 = .ok (.bipush 41, 2) := by decide +kernel
theorem dX7_init_23 : decode cX7_init 23 = .ok (.newarray .int, 2) := by decide +kernel
theorem dX7_init_25 : decode cX7_init 25 = .ok (.putfield 16, 3) := by decide +kernel
theorem dX7_init_28 : decode cX7_init 28 = .ok (.aload_n 0, 1) := by decide +kernel
theorem dX7_init_29 : decode cX7_init 29 = .ok (.bipush 41, 2) := by decide +kernel
theorem dX7_init_31 : decode cX7_init 31 = .ok (.newarray .int, 2) := by decide +kernel
theorem dX7_init_33 : decode cX7_init 33 = .ok (.putfield 19, 3) := by decide +kernel
theorem dX7_init_36 : decode cX7_init 36 = .ok (.aload_n 0, 1) := by decide +kernel
theorem dX7_init_37 : decode cX7_init 37 = .ok (.bipush 41, 2) := by decide +kernel
theorem dX7_init_39 : decode cX7_init 39 = .ok (.newarray .int, 2) := by decide +kernel
theorem dX7_init_41 : decode cX7_init 41 = .ok (.putfield 22, 3) := by decide +kernel
theorem dX7_init_44 : decode cX7_init 44 = .ok (.aload_n 0, 1) := by decide +kernel
theorem dX7_init_45 : decode cX7_init 45 = .ok (.bipush 41, 2) := by decide +kernel
theorem dX7_init_47 : decode cX7_init 47 = .ok (.newarray .int, 2) := by decide +kernel
theorem dX7_init_49 : decode cX7_init 49 = .ok (.putfield 25, 3) := by decide +kernel
theorem dX7_init_52 : decode cX7_init 52 = .ok (.aload_n 0, 1) := by decide +kernel
theorem dX7_init_53 : decode cX7_init 53 = .ok (.iconst 3, 1) := by decide +kernel
theorem dX7_init_54 : decode cX7_init 54 = .ok (.newarray .int, 2) := by decide +kernel
theorem dX7_init_56 : decode cX7_init 56 = .ok (.putfield 28, 3) := by decide +kernel
theorem dX7_init_59 : decode cX7_init 59 = .ok (.aload_n 0, 1) := by decide +kernel
theorem dX7_init_60 : decode cX7_init 60 = .ok (.bipush 41, 2) := by decide +kernel
theorem dX7_init_62 : decode cX7_init 62 = .ok (.newarray .int, 2) := by decide +kernel
theorem dX7_init_64 : decode cX7_init 64 = .ok (.putfield 31, 3) := by decide +kernel
theorem dX7_init_67 : decode cX7_init 67 = .ok (.aload_n 0, 1) := by decide +kernel
theorem dX7_init_68 : decode cX7_init 68 = .ok (.bipush 50, 2) := by decide +kernel
theorem dX7_init_70 : decode cX7_init 70 = .ok (.newarray .int, 2) := by decide +kernel
theorem dX7_init_72 : decode cX7_init 72 = .ok (.putfield 34, 3) := by decide +kernel
theorem dX7_init_75 : decode cX7_init 75 = .ok (.aload_n 0, 1) := by decide +kernel
theorem dX7_init_76 : decode cX7_init 76 = .ok (.bipush 50, 2) := by decide +kernel
theorem dX7_init_78 : decode cX7_init 78 = .ok (.newarray .int, 2) := by decide +kernel
theorem dX7_init_80 : decode cX7_init 80 = .ok (.putfield 37, 3) := by decide +kernel
theorem dX7_init_83 : decode cX7_init 83 = .ok (.aload_n 0, 1) := by decide +kernel
theorem dX7_init_84 : decode cX7_init 84 = .ok (.bipush 50, 2) := by decide +kernel
theorem dX7_init_86 : decode cX7_init 86 = .ok (.newarray .boolean, 2) := by decide +kernel
theorem dX7_init_88 : decode cX7_init 88 = .ok (.putfield 40, 3) := by decide +kernel
theorem dX7_init_91 : decode cX7_init 91 = .ok (.aload_n 0, 1) := by decide +kernel
theorem dX7_init_92 : decode cX7_init 92 = .ok (.iconst 5, 1) := by decide +kernel
theorem dX7_init_93 : decode cX7_init 93 = .ok (.newarray .int, 2) := by decide +kernel
theorem dX7_init_95 : decode cX7_init 95 = .ok (.putfield 44, 3) := by decide +kernel
theorem dX7_init_98 : decode cX7_init 98 = .ok (.aload_n 0, 1) := by decide +kernel
theorem dX7_init_99 : decode cX7_init 99 = .ok (.bipush 9, 2) := by decide +kernel
theorem dX7_init_101 : decode cX7_init 101 = .ok (.newarray .int, 2) := by decide +kernel
theorem dX7_init_103 : decode cX7_init 103 = .ok (.putfield 47, 3) := by decide +kernel
theorem dX7_init_106 : decode cX7_init 106 = .ok (.aload_n 0, 1) := by decide +kernel
theorem dX7_init_107 : decode cX7_init 107 = .ok (.bipush 25, 2) := by decide +kernel
theorem dX7_init_109 : decode cX7_init 109 = .ok (.newarray .long, 2) := by decide +kernel
theorem dX7_init_111 : decode cX7_init 111 = .ok (.putfield 50, 3) := by decide +kernel
theorem dX7_init_114 : decode cX7_init 114 = .ok (.aload_n 0, 1) := by decide +kernel
theorem dX7_init_115 : decode cX7_init 115 = .ok (.iconst 4, 1) := by decide +kernel
theorem dX7_init_116 : decode cX7_init 116 = .ok (.newarray .long, 2) := by decide +kernel
theorem dX7_init_118 : decode cX7_init 118 = .ok (.putfield 54, 3) := by decide +kernel
theorem dX7_init_121 : decode cX7_init 121 = .ok (.aload_n 0, 1) := by decide +kernel
theorem dX7_init_122 : decode cX7_init 122 = .ok (.iconst 5, 1) := by decide +kernel
theorem dX7_init_123 : decode cX7_init 123 = .ok (.newarray .int, 2) := by decide +kernel
theorem dX7_init_125 : decode cX7_init 125 = .ok (.putfield 57, 3) := by decide +kernel
theorem dX7_init_128 : decode cX7_init 128 = .ok (.aload_n 0, 1) := by decide +kernel
theorem dX7_init_129 : decode cX7_init 129 = .ok (.sipush 490, 3) := by decide +kernel
theorem dX7_init_132 : decode cX7_init 132 = .ok (.newarray .int, 2) := by decide +kernel
theorem dX7_init_134 : decode cX7_init 134 = .ok (.putfield 60, 3) := by decide +kernel
theorem dX7_init_137 : decode cX7_init 137 = .ok (.aload_n 0, 1) := by decide +kernel
theorem dX7_init_138 : decode cX7_init 138 = .ok (.iconst 2, 1) := by decide +kernel
theorem dX7_init_139 : decode cX7_init 139 = .ok (.newarray .boolean, 2) := by decide +kernel
theorem dX7_init_141 : decode cX7_init 141 = .ok (.putfield 63, 3) := by decide +kernel
theorem dX7_init_144 : decode cX7_init 144 = .ok (.aload_n 0, 1) := by decide +kernel
theorem dX7_init_145 : decode cX7_init 145 = .ok (.getfield 28, 3) := by decide +kernel
theorem dX7_init_148 : decode cX7_init 148 = .ok (.iconst 0, 1) := by decide +kernel
theorem dX7_init_149 : decode cX7_init 149 = .ok (.bipush 50, 2) := by decide +kernel
theorem dX7_init_151 : decode cX7_init 151 = .ok (.iastore, 1) := by decide +kernel
theorem dX7_init_152 : decode cX7_init 152 = .ok (.aload_n 0, 1) := by decide +kernel
theorem dX7_init_153 : decode cX7_init 153 = .ok (.getfield 28, 3) := by decide +kernel
theorem dX7_init_156 : decode cX7_init 156 = .ok (.iconst 1, 1) := by decide +kernel
theorem dX7_init_157 : decode cX7_init 157 = .ok (.bipush 30, 2) := by decide +kernel
theorem dX7_init_159 : decode cX7_init 159 = .ok (.iastore, 1) := by decide +kernel
theorem dX7_init_160 : decode cX7_init 160 = .ok (.aload_n 0, 1) := by decide +kernel
theorem dX7_init_161 : decode cX7_init 161 = .ok (.getfield 28, 3) := by decide +kernel
theorem dX7_init_164 : decode cX7_init 164 = .ok (.iconst 2, 1) := by decide +kernel
theorem dX7_init_165 : decode cX7_init 165 = .ok (.bipush 25, 2) := by decide +kernel
theorem dX7_init_167 : decode cX7_init 167 = .ok (.iastore, 1) := by decide +kernel
theorem dX7_init_168 : decode cX7_init 168 = .ok (.return_, 1) := by decide +kernel
theorem dX7_in_0 : decode cX7_in 0 = .ok (.iload_n 0, 1) := by decide +kernel
theorem dX7_in_1 : decode cX7_in 1 = .ok (.iload_n 1, 1) := by decide +kernel
theorem dX7_in_2 : decode cX7_in 2 = .ok (.if_icmp .lt 12, 3) := by decide +kernel
theorem dX7_in_5 : decode cX7_in 5 = .ok (.iload_n 0, 1) := by decide +kernel
theorem dX7_in_6 : decode cX7_in 6 = .ok (.iload_n 2, 1) := by decide +kernel
theorem dX7_in_7 : decode cX7_in 7 = .ok (.if_icmp .gt 7, 3) := by decide +kernel
theorem dX7_in_10 : decode cX7_in 10 = .ok (.iconst 1, 1) := by decide +kernel
theorem dX7_in_11 : decode cX7_in 11 = .ok (.goto 4, 3) := by decide +kernel
theorem dX7_in_14 : decode cX7_in 14 = .ok (.iconst 0, 1) := by decide +kernel
theorem dX7_in_15 : decode cX7_in 15 = .ok (.ireturn, 1) := by decide +kernel
theorem dX7_isFirm_0 : decode cX7_isFirm 0 = .ok (.iload_n 0, 1) := by decide +kernel
theorem dX7_isFirm_1 : decode cX7_isFirm 1 = .ok (.iconst 0, 1) := by decide +kernel
theorem dX7_isFirm_2 : decode cX7_isFirm 2 = .ok (.iconst 4, 1) := by decide +kernel
theorem dX7_isFirm_3 : decode cX7_isFirm 3 = .ok (.invokestatic 66, 3) := by decide +kernel
theorem dX7_isFirm_6 : decode cX7_isFirm 6 = .ok (.ireturn, 1) := by decide +kernel
theorem dX7_isOne_0 : decode cX7_isOne 0 = .ok (.iload_n 0, 1) := by decide +kernel
theorem dX7_isOne_1 : decode cX7_isOne 1 = .ok (.iconst 0, 1) := by decide +kernel
theorem dX7_isOne_2 : decode cX7_isOne 2 = .ok (.bipush 8, 2) := by decide +kernel
theorem dX7_isOne_4 : decode cX7_isOne 4 = .ok (.invokestatic 66, 3) := by decide +kernel
theorem dX7_isOne_7 : decode cX7_isOne 7 = .ok (.ireturn, 1) := by decide +kernel
theorem dX7_placeOf_0 : decode cX7_placeOf 0 = .ok (.iconst 0, 1) := by decide +kernel
theorem dX7_placeOf_1 : decode cX7_placeOf 1 = .ok (.istore_n 2, 1) := by decide +kernel
theorem dX7_placeOf_2 : decode cX7_placeOf 2 = .ok (.iconst 0, 1) := by decide +kernel
theorem dX7_placeOf_3 : decode cX7_placeOf 3 = .ok (.istore_n 3, 1) := by decide +kernel
theorem dX7_placeOf_4 : decode cX7_placeOf 4 = .ok (.iload_n 3, 1) := by decide +kernel
theorem dX7_placeOf_5 : decode cX7_placeOf 5 = .ok (.aload_n 0, 1) := by decide +kernel
theorem dX7_placeOf_6 : decode cX7_placeOf 6 = .ok (.getfield 70, 3) := by decide +kernel
theorem dX7_placeOf_9 : decode cX7_placeOf 9 = .ok (.if_icmp .ge 52, 3) := by decide +kernel
theorem dX7_placeOf_12 : decode cX7_placeOf 12 = .ok (.iload_n 2, 1) := by decide +kernel
theorem dX7_placeOf_13 : decode cX7_placeOf 13 = .ok (.aload_n 0, 1) := by decide +kernel
theorem dX7_placeOf_14 : decode cX7_placeOf 14 = .ok (.getfield 7, 3) := by decide +kernel
theorem dX7_placeOf_17 : decode cX7_placeOf 17 = .ok (.iload_n 3, 1) := by decide +kernel
theorem dX7_placeOf_18 : decode cX7_placeOf 18 = .ok (.iaload, 1) := by decide +kernel
theorem dX7_placeOf_19 : decode cX7_placeOf 19 = .ok (.aload_n 0, 1) := by decide +kernel
theorem dX7_placeOf_20 : decode cX7_placeOf 20 = .ok (.getfield 7, 3) := by decide +kernel
theorem dX7_placeOf_23 : decode cX7_placeOf 23 = .ok (.iload_n 1, 1) := by decide +kernel
theorem dX7_placeOf_24 : decode cX7_placeOf 24 = .ok (.iaload, 1) := by decide +kernel
theorem dX7_placeOf_25 : decode cX7_placeOf 25 = .ok (.if_icmp .lt 23, 3) := by decide +kernel
theorem dX7_placeOf_28 : decode cX7_placeOf 28 = .ok (.aload_n 0, 1) := by decide +kernel
theorem dX7_placeOf_29 : decode cX7_placeOf 29 = .ok (.getfield 7, 3) := by decide +kernel
theorem dX7_placeOf_32 : decode cX7_placeOf 32 = .ok (.iload_n 3, 1) := by decide +kernel
theorem dX7_placeOf_33 : decode cX7_placeOf 33 = .ok (.iaload, 1) := by decide +kernel
theorem dX7_placeOf_34 : decode cX7_placeOf 34 = .ok (.aload_n 0, 1) := by decide +kernel
theorem dX7_placeOf_35 : decode cX7_placeOf 35 = .ok (.getfield 7, 3) := by decide +kernel
theorem dX7_placeOf_38 : decode cX7_placeOf 38 = .ok (.iload_n 1, 1) := by decide +kernel
theorem dX7_placeOf_39 : decode cX7_placeOf 39 = .ok (.iaload, 1) := by decide +kernel
theorem dX7_placeOf_40 : decode cX7_placeOf 40 = .ok (.if_icmp .ne 12, 3) := by decide +kernel
theorem dX7_placeOf_43 : decode cX7_placeOf 43 = .ok (.iload_n 3, 1) := by decide +kernel
theorem dX7_placeOf_44 : decode cX7_placeOf 44 = .ok (.iload_n 1, 1) := by decide +kernel
theorem dX7_placeOf_45 : decode cX7_placeOf 45 = .ok (.if_icmp .ge 7, 3) := by decide +kernel
theorem dX7_placeOf_48 : decode cX7_placeOf 48 = .ok (.iconst 1, 1) := by decide +kernel
theorem dX7_placeOf_49 : decode cX7_placeOf 49 = .ok (.goto 4, 3) := by decide +kernel
theorem dX7_placeOf_52 : decode cX7_placeOf 52 = .ok (.iconst 0, 1) := by decide +kernel
theorem dX7_placeOf_53 : decode cX7_placeOf 53 = .ok (.iadd, 1) := by decide +kernel
theorem dX7_placeOf_54 : decode cX7_placeOf 54 = .ok (.istore_n 2, 1) := by decide +kernel
theorem dX7_placeOf_55 : decode cX7_placeOf 55 = .ok (.iinc 3 1, 3) := by decide +kernel
theorem dX7_placeOf_58 : decode cX7_placeOf 58 = .ok (.goto (-54), 3) := by decide +kernel
theorem dX7_placeOf_61 : decode cX7_placeOf 61 = .ok (.iload_n 2, 1) := by decide +kernel
theorem dX7_placeOf_62 : decode cX7_placeOf 62 = .ok (.ireturn, 1) := by decide +kernel
theorem dX7_at_0 : decode cX7_at 0 = .ok (.iconst 5, 1) := by decide +kernel
theorem dX7_at_1 : decode cX7_at 1 = .ok (.iload_n 0, 1) := by decide +kernel
theorem dX7_at_2 : decode cX7_at 2 = .ok (.imul, 1) := by decide +kernel
theorem dX7_at_3 : decode cX7_at 3 = .ok (.iload_n 1, 1) := by decide +kernel
theorem dX7_at_4 : decode cX7_at 4 = .ok (.iadd, 1) := by decide +kernel
theorem dX7_at_5 : decode cX7_at 5 = .ok (.ireturn, 1) := by decide +kernel
theorem dX7_begin_0 : decode cX7_begin 0 = .ok (.iconst 0, 1) := by decide +kernel
theorem dX7_begin_1 : decode cX7_begin 1 = .ok (.istore_n 1, 1) := by decide +kernel
theorem dX7_begin_2 : decode cX7_begin 2 = .ok (.iload_n 1, 1) := by decide +kernel
theorem dX7_begin_3 : decode cX7_begin 3 = .ok (.aload_n 0, 1) := by decide +kernel
theorem dX7_begin_4 : decode cX7_begin 4 = .ok (.getfield 70, 3) := by decide +kernel
theorem dX7_begin_7 : decode cX7_begin 7 = .ok (.if_icmp .ge 20, 3) := by decide +kernel
theorem dX7_begin_10 : decode cX7_begin 10 = .ok (.aload_n 0, 1) := by decide +kernel
theorem dX7_begin_11 : decode cX7_begin 11 = .ok (.getfield 31, 3) := by decide +kernel
theorem dX7_begin_14 : decode cX7_begin 14 = .ok (.aload_n 0, 1) := by decide +kernel
theorem dX7_begin_15 : decode cX7_begin 15 = .ok (.iload_n 1, 1) := by decide +kernel
theorem dX7_begin_16 : decode cX7_begin 16 = .ok (.invokevirtual 74, 3) := by decide +kernel
theorem dX7_begin_19 : decode cX7_begin 19 = .ok (.iload_n 1, 1) := by decide +kernel
theorem dX7_begin_20 : decode cX7_begin 20 = .ok (.iastore, 1) := by decide +kernel
theorem dX7_begin_21 : decode cX7_begin 21 = .ok (.iinc 1 1, 3) := by decide +kernel
theorem dX7_begin_24 : decode cX7_begin 24 = .ok (.goto (-22), 3) := by decide +kernel
theorem dX7_begin_27 : decode cX7_begin 27 = .ok (.iconst 0, 1) := by decide +kernel
theorem dX7_begin_28 : decode cX7_begin 28 = .ok (.istore_n 1, 1) := by decide +kernel
theorem dX7_begin_29 : decode cX7_begin 29 = .ok (.iload_n 1, 1) := by decide +kernel
theorem dX7_begin_30 : decode cX7_begin 30 = .ok (.bipush 50, 2) := by decide +kernel
theorem dX7_begin_32 : decode cX7_begin 32 = .ok (.if_icmp .ge 48, 3) := by decide +kernel
theorem dX7_begin_35 : decode cX7_begin 35 = .ok (.aload_n 0, 1) := by decide +kernel
theorem dX7_begin_36 : decode cX7_begin 36 = .ok (.getfield 34, 3) := by decide +kernel
theorem dX7_begin_39 : decode cX7_begin 39 = .ok (.iload_n 1, 1) := by decide +kernel
theorem dX7_begin_40 : decode cX7_begin 40 = .ok (.iload_n 1, 1) := by decide +kernel
theorem dX7_begin_41 : decode cX7_begin 41 = .ok (.iconst 5, 1) := by decide +kernel
theorem dX7_begin_42 : decode cX7_begin 42 = .ok (.idiv, 1) := by decide +kernel
theorem dX7_begin_43 : decode cX7_begin 43 = .ok (.bipush 9, 2) := by decide +kernel
theorem dX7_begin_45 : decode cX7_begin 45 = .ok (.if_icmp .ne 8, 3) := by decide +kernel
theorem dX7_begin_48 : decode cX7_begin 48 = .ok (.bipush 100, 2) := by decide +kernel
theorem dX7_begin_50 : decode cX7_begin 50 = .ok (.goto 4, 3) := by decide +kernel
theorem dX7_begin_53 : decode cX7_begin 53 = .ok (.iconst 0, 1) := by decide +kernel
theorem dX7_begin_54 : decode cX7_begin 54 = .ok (.iastore, 1) := by decide +kernel
theorem dX7_begin_55 : decode cX7_begin 55 = .ok (.aload_n 0, 1) := by decide +kernel
theorem dX7_begin_56 : decode cX7_begin 56 = .ok (.getfield 37, 3) := by decide +kernel
theorem dX7_begin_59 : decode cX7_begin 59 = .ok (.iload_n 1, 1) := by decide +kernel
theorem dX7_begin_60 : decode cX7_begin 60 = .ok (.aload_n 0, 1) := by decide +kernel
theorem dX7_begin_61 : decode cX7_begin 61 = .ok (.getfield 34, 3) := by decide +kernel
theorem dX7_begin_64 : decode cX7_begin 64 = .ok (.iload_n 1, 1) := by decide +kernel
theorem dX7_begin_65 : decode cX7_begin 65 = .ok (.iaload, 1) := by decide +kernel
theorem dX7_begin_66 : decode cX7_begin 66 = .ok (.iastore, 1) := by decide +kernel
theorem dX7_begin_67 : decode cX7_begin 67 = .ok (.aload_n 0, 1) := by decide +kernel
theorem dX7_begin_68 : decode cX7_begin 68 = .ok (.getfield 40, 3) := by decide +kernel
theorem dX7_begin_71 : decode cX7_begin 71 = .ok (.iload_n 1, 1) := by decide +kernel
theorem dX7_begin_72 : decode cX7_begin 72 = .ok (.iconst 0, 1) := by decide +kernel
theorem dX7_begin_73 : decode cX7_begin 73 = .ok (.bastore, 1) := by decide +kernel
theorem dX7_begin_74 : decode cX7_begin 74 = .ok (.iinc 1 1, 3) := by decide +kernel
theorem dX7_begin_77 : decode cX7_begin 77 = .ok (.goto (-48), 3) := by decide +kernel
theorem dX7_begin_80 : decode cX7_begin 80 = .ok (.return_, 1) := by decide +kernel
theorem dX7_does_0 : decode cX7_does 0 = .ok (.aload_n 0, 1) := by decide +kernel
theorem dX7_does_1 : decode cX7_does 1 = .ok (.getfield 19, 3) := by decide +kernel
theorem dX7_does_4 : decode cX7_does 4 = .ok (.iload_n 1, 1) := by decide +kernel
theorem dX7_does_5 : decode cX7_does 5 = .ok (.iaload, 1) := by decide +kernel
theorem dX7_does_6 : decode cX7_does 6 = .ok (.aload_n 0, 1) := by decide +kernel
theorem dX7_does_7 : decode cX7_does 7 = .ok (.getfield 13, 3) := by decide +kernel
theorem dX7_does_10 : decode cX7_does 10 = .ok (.iload_n 1, 1) := by decide +kernel
theorem dX7_does_11 : decode cX7_does 11 = .ok (.iaload, 1) := by decide +kernel
theorem dX7_does_12 : decode cX7_does 12 = .ok (.invokestatic 78, 3) := by decide +kernel
theorem dX7_does_15 : decode cX7_does 15 = .ok (.istore_n 2, 1) := by decide +kernel
theorem dX7_does_16 : decode cX7_does 16 = .ok (.aload_n 0, 1) := by decide +kernel
theorem dX7_does_17 : decode cX7_does 17 = .ok (.getfield 22, 3) := by decide +kernel
theorem dX7_does_20 : decode cX7_does 20 = .ok (.iload_n 1, 1) := by decide +kernel
theorem dX7_does_21 : decode cX7_does 21 = .ok (.iaload, 1) := by decide +kernel
theorem dX7_does_22 : decode cX7_does 22 = .ok (.aload_n 0, 1) := by decide +kernel
theorem dX7_does_23 : decode cX7_does 23 = .ok (.getfield 13, 3) := by decide +kernel
theorem dX7_does_26 : decode cX7_does 26 = .ok (.iload_n 1, 1) := by decide +kernel
theorem dX7_does_27 : decode cX7_does 27 = .ok (.iaload, 1) := by decide +kernel
theorem dX7_does_28 : decode cX7_does 28 = .ok (.invokestatic 78, 3) := by decide +kernel
theorem dX7_does_31 : decode cX7_does 31 = .ok (.istore_n 3, 1) := by decide +kernel
theorem dX7_does_32 : decode cX7_does 32 = .ok (.aload_n 0, 1) := by decide +kernel
theorem dX7_does_33 : decode cX7_does 33 = .ok (.getfield 16, 3) := by decide +kernel
theorem dX7_does_36 : decode cX7_does 36 = .ok (.iload_n 1, 1) := by decide +kernel
theorem dX7_does_37 : decode cX7_does 37 = .ok (.iaload, 1) := by decide +kernel
theorem dX7_does_38 : decode cX7_does 38 = .ok (.lookupswitch 124 #[(0, 26), (1, 75)], 26) := by decide +kernel
theorem dX7_does_64 : decode cX7_does 64 = .ok (.aload_n 0, 1) := by decide +kernel
theorem dX7_does_65 : decode cX7_does 65 = .ok (.getfield 34, 3) := by decide +kernel
theorem dX7_does_68 : decode cX7_does 68 = .ok (.iload_n 2, 1) := by decide +kernel
theorem dX7_does_69 : decode cX7_does 69 = .ok (.iaload, 1) := by decide +kernel
theorem dX7_does_70 : decode cX7_does 70 = .ok (.aload_n 0, 1) := by decide +kernel
theorem dX7_does_71 : decode cX7_does 71 = .ok (.getfield 25, 3) := by decide +kernel
theorem dX7_does_74 : decode cX7_does 74 = .ok (.iload_n 1, 1) := by decide +kernel
theorem dX7_does_75 : decode cX7_does 75 = .ok (.iaload, 1) := by decide +kernel
theorem dX7_does_76 : decode cX7_does 76 = .ok (.if_icmp .ge 5, 3) := by decide +kernel
theorem dX7_does_79 : decode cX7_does 79 = .ok (.iconst 0, 1) := by decide +kernel
theorem dX7_does_80 : decode cX7_does 80 = .ok (.ireturn, 1) := by decide +kernel
theorem dX7_does_81 : decode cX7_does 81 = .ok (.aload_n 0, 1) := by decide +kernel
theorem dX7_does_82 : decode cX7_does 82 = .ok (.getfield 34, 3) := by decide +kernel
theorem dX7_does_85 : decode cX7_does 85 = .ok (.iload_n 2, 1) := by decide +kernel
theorem dX7_does_86 : decode cX7_does 86 = .ok (.dup2, 1) := by decide +kernel
theorem dX7_does_87 : decode cX7_does 87 = .ok (.iaload, 1) := by decide +kernel
theorem dX7_does_88 : decode cX7_does 88 = .ok (.aload_n 0, 1) := by decide +kernel
theorem dX7_does_89 : decode cX7_does 89 = .ok (.getfield 25, 3) := by decide +kernel
theorem dX7_does_92 : decode cX7_does 92 = .ok (.iload_n 1, 1) := by decide +kernel
theorem dX7_does_93 : decode cX7_does 93 = .ok (.iaload, 1) := by decide +kernel
theorem dX7_does_94 : decode cX7_does 94 = .ok (.isub, 1) := by decide +kernel
theorem dX7_does_95 : decode cX7_does 95 = .ok (.iastore, 1) := by decide +kernel
theorem dX7_does_96 : decode cX7_does 96 = .ok (.aload_n 0, 1) := by decide +kernel
theorem dX7_does_97 : decode cX7_does 97 = .ok (.getfield 34, 3) := by decide +kernel
theorem dX7_does_100 : decode cX7_does 100 = .ok (.iload_n 3, 1) := by decide +kernel
theorem dX7_does_101 : decode cX7_does 101 = .ok (.dup2, 1) := by decide +kernel
theorem dX7_does_102 : decode cX7_does 102 = .ok (.iaload, 1) := by decide +kernel
theorem dX7_does_103 : decode cX7_does 103 = .ok (.aload_n 0, 1) := by decide +kernel
theorem dX7_does_104 : decode cX7_does 104 = .ok (.getfield 25, 3) := by decide +kernel
theorem dX7_does_107 : decode cX7_does 107 = .ok (.iload_n 1, 1) := by decide +kernel
theorem dX7_does_108 : decode cX7_does 108 = .ok (.iaload, 1) := by decide +kernel
theorem dX7_does_109 : decode cX7_does 109 = .ok (.iadd, 1) := by decide +kernel
theorem dX7_does_110 : decode cX7_does 110 = .ok (.iastore, 1) := by decide +kernel
theorem dX7_does_111 : decode cX7_does 111 = .ok (.iconst 1, 1) := by decide +kernel
theorem dX7_does_112 : decode cX7_does 112 = .ok (.ireturn, 1) := by decide +kernel
theorem dX7_does_113 : decode cX7_does 113 = .ok (.aload_n 0, 1) := by decide +kernel
theorem dX7_does_114 : decode cX7_does 114 = .ok (.getfield 37, 3) := by decide +kernel
theorem dX7_does_117 : decode cX7_does 117 = .ok (.iload_n 2, 1) := by decide +kernel
theorem dX7_does_118 : decode cX7_does 118 = .ok (.iaload, 1) := by decide +kernel
theorem dX7_does_119 : decode cX7_does 119 = .ok (.aload_n 0, 1) := by decide +kernel
theorem dX7_does_120 : decode cX7_does 120 = .ok (.getfield 25, 3) := by decide +kernel
theorem dX7_does_123 : decode cX7_does 123 = .ok (.iload_n 1, 1) := by decide +kernel
theorem dX7_does_124 : decode cX7_does 124 = .ok (.iaload, 1) := by decide +kernel
theorem dX7_does_125 : decode cX7_does 125 = .ok (.if_icmp .ge 5, 3) := by decide +kernel
theorem dX7_does_128 : decode cX7_does 128 = .ok (.iconst 0, 1) := by decide +kernel
theorem dX7_does_129 : decode cX7_does 129 = .ok (.ireturn, 1) := by decide +kernel
theorem dX7_does_130 : decode cX7_does 130 = .ok (.aload_n 0, 1) := by decide +kernel
theorem dX7_does_131 : decode cX7_does 131 = .ok (.getfield 37, 3) := by decide +kernel
theorem dX7_does_134 : decode cX7_does 134 = .ok (.iload_n 2, 1) := by decide +kernel
theorem dX7_does_135 : decode cX7_does 135 = .ok (.dup2, 1) := by decide +kernel
theorem dX7_does_136 : decode cX7_does 136 = .ok (.iaload, 1) := by decide +kernel
theorem dX7_does_137 : decode cX7_does 137 = .ok (.aload_n 0, 1) := by decide +kernel
theorem dX7_does_138 : decode cX7_does 138 = .ok (.getfield 25, 3) := by decide +kernel
theorem dX7_does_141 : decode cX7_does 141 = .ok (.iload_n 1, 1) := by decide +kernel
theorem dX7_does_142 : decode cX7_does 142 = .ok (.iaload, 1) := by decide +kernel
theorem dX7_does_143 : decode cX7_does 143 = .ok (.isub, 1) := by decide +kernel
theorem dX7_does_144 : decode cX7_does 144 = .ok (.iastore, 1) := by decide +kernel
theorem dX7_does_145 : decode cX7_does 145 = .ok (.aload_n 0, 1) := by decide +kernel
theorem dX7_does_146 : decode cX7_does 146 = .ok (.getfield 37, 3) := by decide +kernel
theorem dX7_does_149 : decode cX7_does 149 = .ok (.iload_n 3, 1) := by decide +kernel
theorem dX7_does_150 : decode cX7_does 150 = .ok (.dup2, 1) := by decide +kernel
theorem dX7_does_151 : decode cX7_does 151 = .ok (.iaload, 1) := by decide +kernel
theorem dX7_does_152 : decode cX7_does 152 = .ok (.aload_n 0, 1) := by decide +kernel
theorem dX7_does_153 : decode cX7_does 153 = .ok (.getfield 25, 3) := by decide +kernel
theorem dX7_does_156 : decode cX7_does 156 = .ok (.iload_n 1, 1) := by decide +kernel
theorem dX7_does_157 : decode cX7_does 157 = .ok (.iaload, 1) := by decide +kernel
theorem dX7_does_158 : decode cX7_does 158 = .ok (.iadd, 1) := by decide +kernel
theorem dX7_does_159 : decode cX7_does 159 = .ok (.iastore, 1) := by decide +kernel
theorem dX7_does_160 : decode cX7_does 160 = .ok (.iconst 1, 1) := by decide +kernel
theorem dX7_does_161 : decode cX7_does 161 = .ok (.ireturn, 1) := by decide +kernel
theorem dX7_does_162 : decode cX7_does 162 = .ok (.aload_n 0, 1) := by decide +kernel
theorem dX7_does_163 : decode cX7_does 163 = .ok (.getfield 40, 3) := by decide +kernel
theorem dX7_does_166 : decode cX7_does 166 = .ok (.iload_n 3, 1) := by decide +kernel
theorem dX7_does_167 : decode cX7_does 167 = .ok (.aload_n 0, 1) := by decide +kernel
theorem dX7_does_168 : decode cX7_does 168 = .ok (.getfield 16, 3) := by decide +kernel
theorem dX7_does_171 : decode cX7_does 171 = .ok (.iload_n 1, 1) := by decide +kernel
theorem dX7_does_172 : decode cX7_does 172 = .ok (.iaload, 1) := by decide +kernel
theorem dX7_does_173 : decode cX7_does 173 = .ok (.iconst 2, 1) := by decide +kernel
theorem dX7_does_174 : decode cX7_does 174 = .ok (.if_icmp .ne 7, 3) := by decide +kernel
theorem dX7_does_177 : decode cX7_does 177 = .ok (.iconst 1, 1) := by decide +kernel
theorem dX7_does_178 : decode cX7_does 178 = .ok (.goto 4, 3) := by decide +kernel
theorem dX7_does_181 : decode cX7_does 181 = .ok (.iconst 0, 1) := by decide +kernel
theorem dX7_does_182 : decode cX7_does 182 = .ok (.bastore, 1) := by decide +kernel
theorem dX7_does_183 : decode cX7_does 183 = .ok (.iconst 1, 1) := by decide +kernel
theorem dX7_does_184 : decode cX7_does 184 = .ok (.ireturn, 1) := by decide +kernel
theorem dX7_lay_0 : decode cX7_lay 0 = .ok (.aload_n 0, 1) := by decide +kernel
theorem dX7_lay_1 : decode cX7_lay 1 = .ok (.invokevirtual 82, 3) := by decide +kernel
theorem dX7_lay_4 : decode cX7_lay 4 = .ok (.iconst 0, 1) := by decide +kernel
theorem dX7_lay_5 : decode cX7_lay 5 = .ok (.istore_n 3, 1) := by decide +kernel
theorem dX7_lay_6 : decode cX7_lay 6 = .ok (.iload_n 3, 1) := by decide +kernel
theorem dX7_lay_7 : decode cX7_lay 7 = .ok (.aload_n 0, 1) := by decide +kernel
theorem dX7_lay_8 : decode cX7_lay 8 = .ok (.getfield 70, 3) := by decide +kernel
theorem dX7_lay_11 : decode cX7_lay 11 = .ok (.if_icmp .ge 45, 3) := by decide +kernel
theorem dX7_lay_14 : decode cX7_lay 14 = .ok (.aload_n 0, 1) := by decide +kernel
theorem dX7_lay_15 : decode cX7_lay 15 = .ok (.getfield 31, 3) := by decide +kernel
theorem dX7_lay_18 : decode cX7_lay 18 = .ok (.iload_n 3, 1) := by decide +kernel
theorem dX7_lay_19 : decode cX7_lay 19 = .ok (.iaload, 1) := by decide +kernel
theorem dX7_lay_20 : decode cX7_lay 20 = .ok (.istore 4, 2) := by decide +kernel
theorem dX7_lay_22 : decode cX7_lay 22 = .ok (.iload 4, 2) := by decide +kernel
theorem dX7_lay_24 : decode cX7_lay 24 = .ok (.iload_n 2, 1) := by decide +kernel
theorem dX7_lay_25 : decode cX7_lay 25 = .ok (.if_icmp .eq 25, 3) := by decide +kernel
theorem dX7_lay_28 : decode cX7_lay 28 = .ok (.aload_n 0, 1) := by decide +kernel
theorem dX7_lay_29 : decode cX7_lay 29 = .ok (.getfield 7, 3) := by decide +kernel
theorem dX7_lay_32 : decode cX7_lay 32 = .ok (.iload 4, 2) := by decide +kernel
theorem dX7_lay_34 : decode cX7_lay 34 = .ok (.iaload, 1) := by decide +kernel
theorem dX7_lay_35 : decode cX7_lay 35 = .ok (.iload_n 1, 1) := by decide +kernel
theorem dX7_lay_36 : decode cX7_lay 36 = .ok (.if_icmp .gt 14, 3) := by decide +kernel
theorem dX7_lay_39 : decode cX7_lay 39 = .ok (.aload_n 0, 1) := by decide +kernel
theorem dX7_lay_40 : decode cX7_lay 40 = .ok (.iload 4, 2) := by decide +kernel
theorem dX7_lay_42 : decode cX7_lay 42 = .ok (.invokevirtual 85, 3) := by decide +kernel
theorem dX7_lay_45 : decode cX7_lay 45 = .ok (.ifCond .ne 5, 3) := by decide +kernel
theorem dX7_lay_48 : decode cX7_lay 48 = .ok (.iconst 0, 1) := by decide +kernel
theorem dX7_lay_49 : decode cX7_lay 49 = .ok (.ireturn, 1) := by decide +kernel
theorem dX7_lay_50 : decode cX7_lay 50 = .ok (.iinc 3 1, 3) := by decide +kernel
theorem dX7_lay_53 : decode cX7_lay 53 = .ok (.goto (-47), 3) := by decide +kernel
theorem dX7_lay_56 : decode cX7_lay 56 = .ok (.iconst 1, 1) := by decide +kernel
theorem dX7_lay_57 : decode cX7_lay 57 = .ok (.ireturn, 1) := by decide +kernel
theorem dX7_put_0 : decode cX7_put 0 = .ok (.aload_n 0, 1) := by decide +kernel
theorem dX7_put_1 : decode cX7_put 1 = .ok (.getfield 7, 3) := by decide +kernel
theorem dX7_put_4 : decode cX7_put 4 = .ok (.iload_n 1, 1) := by decide +kernel
theorem dX7_put_5 : decode cX7_put 5 = .ok (.iload_n 2, 1) := by decide +kernel
theorem dX7_put_6 : decode cX7_put 6 = .ok (.iastore, 1) := by decide +kernel
theorem dX7_put_7 : decode cX7_put 7 = .ok (.aload_n 0, 1) := by decide +kernel
theorem dX7_put_8 : decode cX7_put 8 = .ok (.getfield 13, 3) := by decide +kernel
theorem dX7_put_11 : decode cX7_put 11 = .ok (.iload_n 1, 1) := by decide +kernel
theorem dX7_put_12 : decode cX7_put 12 = .ok (.iload_n 3, 1) := by decide +kernel
theorem dX7_put_13 : decode cX7_put 13 = .ok (.iastore, 1) := by decide +kernel
theorem dX7_put_14 : decode cX7_put 14 = .ok (.aload_n 0, 1) := by decide +kernel
theorem dX7_put_15 : decode cX7_put 15 = .ok (.getfield 16, 3) := by decide +kernel
theorem dX7_put_18 : decode cX7_put 18 = .ok (.iload_n 1, 1) := by decide +kernel
theorem dX7_put_19 : decode cX7_put 19 = .ok (.iload 4, 2) := by decide +kernel
theorem dX7_put_21 : decode cX7_put 21 = .ok (.iastore, 1) := by decide +kernel
theorem dX7_put_22 : decode cX7_put 22 = .ok (.aload_n 0, 1) := by decide +kernel
theorem dX7_put_23 : decode cX7_put 23 = .ok (.getfield 19, 3) := by decide +kernel
theorem dX7_put_26 : decode cX7_put 26 = .ok (.iload_n 1, 1) := by decide +kernel
theorem dX7_put_27 : decode cX7_put 27 = .ok (.iload 5, 2) := by decide +kernel
theorem dX7_put_29 : decode cX7_put 29 = .ok (.iastore, 1) := by decide +kernel
theorem dX7_put_30 : decode cX7_put 30 = .ok (.aload_n 0, 1) := by decide +kernel
theorem dX7_put_31 : decode cX7_put 31 = .ok (.getfield 22, 3) := by decide +kernel
theorem dX7_put_34 : decode cX7_put 34 = .ok (.iload_n 1, 1) := by decide +kernel
theorem dX7_put_35 : decode cX7_put 35 = .ok (.iload 6, 2) := by decide +kernel
theorem dX7_put_37 : decode cX7_put 37 = .ok (.iastore, 1) := by decide +kernel
theorem dX7_put_38 : decode cX7_put 38 = .ok (.aload_n 0, 1) := by decide +kernel
theorem dX7_put_39 : decode cX7_put 39 = .ok (.getfield 25, 3) := by decide +kernel
theorem dX7_put_42 : decode cX7_put 42 = .ok (.iload_n 1, 1) := by decide +kernel
theorem dX7_put_43 : decode cX7_put 43 = .ok (.iload 7, 2) := by decide +kernel
theorem dX7_put_45 : decode cX7_put 45 = .ok (.iastore, 1) := by decide +kernel
theorem dX7_put_46 : decode cX7_put 46 = .ok (.return_, 1) := by decide +kernel
theorem dX7_add_0 : decode cX7_add 0 = .ok (.aload_n 0, 1) := by decide +kernel
theorem dX7_add_1 : decode cX7_add 1 = .ok (.dup, 1) := by decide +kernel
theorem dX7_add_2 : decode cX7_add 2 = .ok (.getfield 70, 3) := by decide +kernel
theorem dX7_add_5 : decode cX7_add 5 = .ok (.iconst 1, 1) := by decide +kernel
theorem dX7_add_6 : decode cX7_add 6 = .ok (.iadd, 1) := by decide +kernel
theorem dX7_add_7 : decode cX7_add 7 = .ok (.putfield 70, 3) := by decide +kernel
theorem dX7_add_10 : decode cX7_add 10 = .ok (.aload_n 0, 1) := by decide +kernel
theorem dX7_add_11 : decode cX7_add 11 = .ok (.sipush 999, 3) := by decide +kernel
theorem dX7_add_14 : decode cX7_add 14 = .ok (.bipush (-6), 2) := by decide +kernel
theorem dX7_add_16 : decode cX7_add 16 = .ok (.invokevirtual 89, 3) := by decide +kernel
theorem dX7_add_19 : decode cX7_add 19 = .ok (.ifCond .ne 16, 3) := by decide +kernel
theorem dX7_add_22 : decode cX7_add 22 = .ok (.aload_n 0, 1) := by decide +kernel
theorem dX7_add_23 : decode cX7_add 23 = .ok (.dup, 1) := by decide +kernel
theorem dX7_add_24 : decode cX7_add 24 = .ok (.getfield 70, 3) := by decide +kernel
theorem dX7_add_27 : decode cX7_add 27 = .ok (.iconst 1, 1) := by decide +kernel
theorem dX7_add_28 : decode cX7_add 28 = .ok (.isub, 1) := by decide +kernel
theorem dX7_add_29 : decode cX7_add 29 = .ok (.putfield 70, 3) := by decide +kernel
theorem dX7_add_32 : decode cX7_add 32 = .ok (.bipush (-5), 2) := by decide +kernel
theorem dX7_add_34 : decode cX7_add 34 = .ok (.ireturn, 1) := by decide +kernel
theorem dX7_add_35 : decode cX7_add 35 = .ok (.aload_n 0, 1) := by decide +kernel
theorem dX7_add_36 : decode cX7_add 36 = .ok (.getfield 70, 3) := by decide +kernel
theorem dX7_add_39 : decode cX7_add 39 = .ok (.bipush 40, 2) := by decide +kernel
theorem dX7_add_41 : decode cX7_add 41 = .ok (.if_icmp .le 16, 3) := by decide +kernel
theorem dX7_add_44 : decode cX7_add 44 = .ok (.aload_n 0, 1) := by decide +kernel
theorem dX7_add_45 : decode cX7_add 45 = .ok (.dup, 1) := by decide +kernel
theorem dX7_add_46 : decode cX7_add 46 = .ok (.getfield 70, 3) := by decide +kernel
theorem dX7_add_49 : decode cX7_add 49 = .ok (.iconst 1, 1) := by decide +kernel
theorem dX7_add_50 : decode cX7_add 50 = .ok (.isub, 1) := by decide +kernel
theorem dX7_add_51 : decode cX7_add 51 = .ok (.putfield 70, 3) := by decide +kernel
theorem dX7_add_54 : decode cX7_add 54 = .ok (.bipush (-4), 2) := by decide +kernel
theorem dX7_add_56 : decode cX7_add 56 = .ok (.ireturn, 1) := by decide +kernel
theorem dX7_add_57 : decode cX7_add 57 = .ok (.aload_n 0, 1) := by decide +kernel
theorem dX7_add_58 : decode cX7_add 58 = .ok (.getfield 70, 3) := by decide +kernel
theorem dX7_add_61 : decode cX7_add 61 = .ok (.ireturn, 1) := by decide +kernel
theorem dX7_sell_0 : decode cX7_sell 0 = .ok (.iload_n 3, 1) := by decide +kernel
theorem dX7_sell_1 : decode cX7_sell 1 = .ok (.iconst 0, 1) := by decide +kernel
theorem dX7_sell_2 : decode cX7_sell 2 = .ok (.bipush 9, 2) := by decide +kernel
theorem dX7_sell_4 : decode cX7_sell 4 = .ok (.invokestatic 66, 3) := by decide +kernel
theorem dX7_sell_7 : decode cX7_sell 7 = .ok (.ifCond .eq 22, 3) := by decide +kernel
theorem dX7_sell_10 : decode cX7_sell 10 = .ok (.iload 4, 2) := by decide +kernel
theorem dX7_sell_12 : decode cX7_sell 12 = .ok (.iconst 0, 1) := by decide +kernel
theorem dX7_sell_13 : decode cX7_sell 13 = .ok (.bipush 9, 2) := by decide +kernel
theorem dX7_sell_15 : decode cX7_sell 15 = .ok (.invokestatic 66, 3) := by decide +kernel
theorem dX7_sell_18 : decode cX7_sell 18 = .ok (.ifCond .eq 11, 3) := by decide +kernel
theorem dX7_sell_21 : decode cX7_sell 21 = .ok (.iload 5, 2) := by decide +kernel
theorem dX7_sell_23 : decode cX7_sell 23 = .ok (.invokestatic 93, 3) := by decide +kernel
theorem dX7_sell_26 : decode cX7_sell 26 = .ok (.ifCond .ne 5, 3) := by decide +kernel
theorem dX7_sell_29 : decode cX7_sell 29 = .ok (.iconst (-1), 1) := by decide +kernel
theorem dX7_sell_30 : decode cX7_sell 30 = .ok (.ireturn, 1) := by decide +kernel
theorem dX7_sell_31 : decode cX7_sell 31 = .ok (.iload_n 2, 1) := by decide +kernel
theorem dX7_sell_32 : decode cX7_sell 32 = .ok (.iconst 0, 1) := by decide +kernel
theorem dX7_sell_33 : decode cX7_sell 33 = .ok (.sipush 999, 3) := by decide +kernel
theorem dX7_sell_36 : decode cX7_sell 36 = .ok (.invokestatic 66, 3) := by decide +kernel
theorem dX7_sell_39 : decode cX7_sell 39 = .ok (.ifCond .eq 37, 3) := by decide +kernel
theorem dX7_sell_42 : decode cX7_sell 42 = .ok (.iload 6, 2) := by decide +kernel
theorem dX7_sell_44 : decode cX7_sell 44 = .ok (.iconst 1, 1) := by decide +kernel
theorem dX7_sell_45 : decode cX7_sell 45 = .ok (.bipush 100, 2) := by decide +kernel
theorem dX7_sell_47 : decode cX7_sell 47 = .ok (.invokestatic 66, 3) := by decide +kernel
theorem dX7_sell_50 : decode cX7_sell 50 = .ok (.ifCond .eq 26, 3) := by decide +kernel
theorem dX7_sell_53 : decode cX7_sell 53 = .ok (.iload_n 3, 1) := by decide +kernel
theorem dX7_sell_54 : decode cX7_sell 54 = .ok (.iload 4, 2) := by decide +kernel
theorem dX7_sell_56 : decode cX7_sell 56 = .ok (.if_icmp .eq 20, 3) := by decide +kernel
theorem dX7_sell_59 : decode cX7_sell 59 = .ok (.iload_n 3, 1) := by decide +kernel
theorem dX7_sell_60 : decode cX7_sell 60 = .ok (.iconst 4, 1) := by decide +kernel
theorem dX7_sell_61 : decode cX7_sell 61 = .ok (.iload 5, 2) := by decide +kernel
theorem dX7_sell_63 : decode cX7_sell 63 = .ok (.iadd, 1) := by decide +kernel
theorem dX7_sell_64 : decode cX7_sell 64 = .ok (.if_icmp .eq 12, 3) := by decide +kernel
theorem dX7_sell_67 : decode cX7_sell 67 = .ok (.iload 4, 2) := by decide +kernel
theorem dX7_sell_69 : decode cX7_sell 69 = .ok (.iconst 4, 1) := by decide +kernel
theorem dX7_sell_70 : decode cX7_sell 70 = .ok (.iload 5, 2) := by decide +kernel
theorem dX7_sell_72 : decode cX7_sell 72 = .ok (.iadd, 1) := by decide +kernel
theorem dX7_sell_73 : decode cX7_sell 73 = .ok (.if_icmp .ne 6, 3) := by decide +kernel
theorem dX7_sell_76 : decode cX7_sell 76 = .ok (.bipush (-2), 2) := by decide +kernel
theorem dX7_sell_78 : decode cX7_sell 78 = .ok (.ireturn, 1) := by decide +kernel
theorem dX7_sell_79 : decode cX7_sell 79 = .ok (.aload_n 0, 1) := by decide +kernel
theorem dX7_sell_80 : decode cX7_sell 80 = .ok (.aload_n 0, 1) := by decide +kernel
theorem dX7_sell_81 : decode cX7_sell 81 = .ok (.getfield 70, 3) := by decide +kernel
theorem dX7_sell_84 : decode cX7_sell 84 = .ok (.iload_n 2, 1) := by decide +kernel
theorem dX7_sell_85 : decode cX7_sell 85 = .ok (.iload 5, 2) := by decide +kernel
theorem dX7_sell_87 : decode cX7_sell 87 = .ok (.iload_n 1, 1) := by decide +kernel
theorem dX7_sell_88 : decode cX7_sell 88 = .ok (.iload_n 3, 1) := by decide +kernel
theorem dX7_sell_89 : decode cX7_sell 89 = .ok (.iload 4, 2) := by decide +kernel
theorem dX7_sell_91 : decode cX7_sell 91 = .ok (.iload 6, 2) := by decide +kernel
theorem dX7_sell_93 : decode cX7_sell 93 = .ok (.invokevirtual 96, 3) := by decide +kernel
theorem dX7_sell_96 : decode cX7_sell 96 = .ok (.aload_n 0, 1) := by decide +kernel
theorem dX7_sell_97 : decode cX7_sell 97 = .ok (.invokevirtual 100, 3) := by decide +kernel
theorem dX7_sell_100 : decode cX7_sell 100 = .ok (.ireturn, 1) := by decide +kernel
theorem dX7_sellShares_0 : decode cX7_sellShares 0 = .ok (.aload_n 0, 1) := by decide +kernel
theorem dX7_sellShares_1 : decode cX7_sellShares 1 = .ok (.iconst 0, 1) := by decide +kernel
theorem dX7_sellShares_2 : decode cX7_sellShares 2 = .ok (.iload_n 1, 1) := by decide +kernel
theorem dX7_sellShares_3 : decode cX7_sellShares 3 = .ok (.iload_n 2, 1) := by decide +kernel
theorem dX7_sellShares_4 : decode cX7_sellShares 4 = .ok (.iload_n 3, 1) := by decide +kernel
theorem dX7_sellShares_5 : decode cX7_sellShares 5 = .ok (.iload 4, 2) := by decide +kernel
theorem dX7_sellShares_7 : decode cX7_sellShares 7 = .ok (.iload 5, 2) := by decide +kernel
theorem dX7_sellShares_9 : decode cX7_sellShares 9 = .ok (.invokevirtual 104, 3) := by decide +kernel
theorem dX7_sellShares_12 : decode cX7_sellShares 12 = .ok (.ireturn, 1) := by decide +kernel
theorem dX7_sellVotes_0 : decode cX7_sellVotes 0 = .ok (.aload_n 0, 1) := by decide +kernel
theorem dX7_sellVotes_1 : decode cX7_sellVotes 1 = .ok (.iconst 1, 1) := by decide +kernel
theorem dX7_sellVotes_2 : decode cX7_sellVotes 2 = .ok (.iload_n 1, 1) := by decide +kernel
theorem dX7_sellVotes_3 : decode cX7_sellVotes 3 = .ok (.iload_n 2, 1) := by decide +kernel
theorem dX7_sellVotes_4 : decode cX7_sellVotes 4 = .ok (.iload_n 3, 1) := by decide +kernel
theorem dX7_sellVotes_5 : decode cX7_sellVotes 5 = .ok (.iload 4, 2) := by decide +kernel
theorem dX7_sellVotes_7 : decode cX7_sellVotes 7 = .ok (.iload 5, 2) := by decide +kernel
theorem dX7_sellVotes_9 : decode cX7_sellVotes 9 = .ok (.invokevirtual 104, 3) := by decide +kernel
theorem dX7_sellVotes_12 : decode cX7_sellVotes 12 = .ok (.ireturn, 1) := by decide +kernel
theorem dX7_veto_0 : decode cX7_veto 0 = .ok (.iload_n 2, 1) := by decide +kernel
theorem dX7_veto_1 : decode cX7_veto 1 = .ok (.invokestatic 108, 3) := by decide +kernel
theorem dX7_veto_4 : decode cX7_veto 4 = .ok (.ifCond .eq 10, 3) := by decide +kernel
theorem dX7_veto_7 : decode cX7_veto 7 = .ok (.iload_n 3, 1) := by decide +kernel
theorem dX7_veto_8 : decode cX7_veto 8 = .ok (.invokestatic 93, 3) := by decide +kernel
theorem dX7_veto_11 : decode cX7_veto 11 = .ok (.ifCond .ne 5, 3) := by decide +kernel
theorem dX7_veto_14 : decode cX7_veto 14 = .ok (.iconst (-1), 1) := by decide +kernel
theorem dX7_veto_15 : decode cX7_veto 15 = .ok (.ireturn, 1) := by decide +kernel
theorem dX7_veto_16 : decode cX7_veto 16 = .ok (.iload_n 1, 1) := by decide +kernel
theorem dX7_veto_17 : decode cX7_veto 17 = .ok (.iconst 0, 1) := by decide +kernel
theorem dX7_veto_18 : decode cX7_veto 18 = .ok (.sipush 999, 3) := by decide +kernel
theorem dX7_veto_21 : decode cX7_veto 21 = .ok (.invokestatic 66, 3) := by decide +kernel
theorem dX7_veto_24 : decode cX7_veto 24 = .ok (.ifCond .eq 13, 3) := by decide +kernel
theorem dX7_veto_27 : decode cX7_veto 27 = .ok (.iload 4, 2) := by decide +kernel
theorem dX7_veto_29 : decode cX7_veto 29 = .ok (.iconst 0, 1) := by decide +kernel
theorem dX7_veto_30 : decode cX7_veto 30 = .ok (.iconst 1, 1) := by decide +kernel
theorem dX7_veto_31 : decode cX7_veto 31 = .ok (.invokestatic 66, 3) := by decide +kernel
theorem dX7_veto_34 : decode cX7_veto 34 = .ok (.ifCond .ne 6, 3) := by decide +kernel
theorem dX7_veto_37 : decode cX7_veto 37 = .ok (.bipush (-2), 2) := by decide +kernel
theorem dX7_veto_39 : decode cX7_veto 39 = .ok (.ireturn, 1) := by decide +kernel
theorem dX7_veto_40 : decode cX7_veto 40 = .ok (.aload_n 0, 1) := by decide +kernel
theorem dX7_veto_41 : decode cX7_veto 41 = .ok (.aload_n 0, 1) := by decide +kernel
theorem dX7_veto_42 : decode cX7_veto 42 = .ok (.getfield 70, 3) := by decide +kernel
theorem dX7_veto_45 : decode cX7_veto 45 = .ok (.iload_n 1, 1) := by decide +kernel
theorem dX7_veto_46 : decode cX7_veto 46 = .ok (.iload_n 3, 1) := by decide +kernel
theorem dX7_veto_47 : decode cX7_veto 47 = .ok (.iconst 3, 1) := by decide +kernel
theorem dX7_veto_48 : decode cX7_veto 48 = .ok (.iload 4, 2) := by decide +kernel
theorem dX7_veto_50 : decode cX7_veto 50 = .ok (.isub, 1) := by decide +kernel
theorem dX7_veto_51 : decode cX7_veto 51 = .ok (.iconst 0, 1) := by decide +kernel
theorem dX7_veto_52 : decode cX7_veto 52 = .ok (.iload_n 2, 1) := by decide +kernel
theorem dX7_veto_53 : decode cX7_veto 53 = .ok (.iconst 0, 1) := by decide +kernel
theorem dX7_veto_54 : decode cX7_veto 54 = .ok (.invokevirtual 96, 3) := by decide +kernel
theorem dX7_veto_57 : decode cX7_veto 57 = .ok (.aload_n 0, 1) := by decide +kernel
theorem dX7_veto_58 : decode cX7_veto 58 = .ok (.invokevirtual 100, 3) := by decide +kernel
theorem dX7_veto_61 : decode cX7_veto 61 = .ok (.ireturn, 1) := by decide +kernel
theorem dX7_isDeal_0 : decode cX7_isDeal 0 = .ok (.iload_n 1, 1) := by decide +kernel
theorem dX7_isDeal_1 : decode cX7_isDeal 1 = .ok (.iconst 0, 1) := by decide +kernel
theorem dX7_isDeal_2 : decode cX7_isDeal 2 = .ok (.aload_n 0, 1) := by decide +kernel
theorem dX7_isDeal_3 : decode cX7_isDeal 3 = .ok (.getfield 70, 3) := by decide +kernel
theorem dX7_isDeal_6 : decode cX7_isDeal 6 = .ok (.iconst 1, 1) := by decide +kernel
theorem dX7_isDeal_7 : decode cX7_isDeal 7 = .ok (.isub, 1) := by decide +kernel
theorem dX7_isDeal_8 : decode cX7_isDeal 8 = .ok (.invokestatic 66, 3) := by decide +kernel
theorem dX7_isDeal_11 : decode cX7_isDeal 11 = .ok (.ireturn, 1) := by decide +kernel
theorem dX7_cancel_0 : decode cX7_cancel 0 = .ok (.aload_n 0, 1) := by decide +kernel
theorem dX7_cancel_1 : decode cX7_cancel 1 = .ok (.iload_n 1, 1) := by decide +kernel
theorem dX7_cancel_2 : decode cX7_cancel 2 = .ok (.invokevirtual 111, 3) := by decide +kernel
theorem dX7_cancel_5 : decode cX7_cancel 5 = .ok (.ifCond .ne 5, 3) := by decide +kernel
theorem dX7_cancel_8 : decode cX7_cancel 8 = .ok (.iconst (-1), 1) := by decide +kernel
theorem dX7_cancel_9 : decode cX7_cancel 9 = .ok (.ireturn, 1) := by decide +kernel
theorem dX7_cancel_10 : decode cX7_cancel 10 = .ok (.aload_n 0, 1) := by decide +kernel
theorem dX7_cancel_11 : decode cX7_cancel 11 = .ok (.sipush 999, 3) := by decide +kernel
theorem dX7_cancel_14 : decode cX7_cancel 14 = .ok (.iload_n 1, 1) := by decide +kernel
theorem dX7_cancel_15 : decode cX7_cancel 15 = .ok (.invokevirtual 89, 3) := by decide +kernel
theorem dX7_cancel_18 : decode cX7_cancel 18 = .ok (.ifCond .ne 6, 3) := by decide +kernel
theorem dX7_cancel_21 : decode cX7_cancel 21 = .ok (.bipush (-5), 2) := by decide +kernel
theorem dX7_cancel_23 : decode cX7_cancel 23 = .ok (.ireturn, 1) := by decide +kernel
theorem dX7_cancel_24 : decode cX7_cancel 24 = .ok (.aload_n 0, 1) := by decide +kernel
theorem dX7_cancel_25 : decode cX7_cancel 25 = .ok (.dup, 1) := by decide +kernel
theorem dX7_cancel_26 : decode cX7_cancel 26 = .ok (.getfield 70, 3) := by decide +kernel
theorem dX7_cancel_29 : decode cX7_cancel 29 = .ok (.iconst 1, 1) := by decide +kernel
theorem dX7_cancel_30 : decode cX7_cancel 30 = .ok (.isub, 1) := by decide +kernel
theorem dX7_cancel_31 : decode cX7_cancel 31 = .ok (.putfield 70, 3) := by decide +kernel
theorem dX7_cancel_34 : decode cX7_cancel 34 = .ok (.iload_n 1, 1) := by decide +kernel
theorem dX7_cancel_35 : decode cX7_cancel 35 = .ok (.istore_n 2, 1) := by decide +kernel
theorem dX7_cancel_36 : decode cX7_cancel 36 = .ok (.iload_n 2, 1) := by decide +kernel
theorem dX7_cancel_37 : decode cX7_cancel 37 = .ok (.aload_n 0, 1) := by decide +kernel
theorem dX7_cancel_38 : decode cX7_cancel 38 = .ok (.getfield 70, 3) := by decide +kernel
theorem dX7_cancel_41 : decode cX7_cancel 41 = .ok (.if_icmp .ge 62, 3) := by decide +kernel
theorem dX7_cancel_44 : decode cX7_cancel 44 = .ok (.aload_n 0, 1) := by decide +kernel
theorem dX7_cancel_45 : decode cX7_cancel 45 = .ok (.iload_n 2, 1) := by decide +kernel
theorem dX7_cancel_46 : decode cX7_cancel 46 = .ok (.aload_n 0, 1) := by decide +kernel
theorem dX7_cancel_47 : decode cX7_cancel 47 = .ok (.getfield 7, 3) := by decide +kernel
theorem dX7_cancel_50 : decode cX7_cancel 50 = .ok (.iload_n 2, 1) := by decide +kernel
theorem dX7_cancel_51 : decode cX7_cancel 51 = .ok (.iconst 1, 1) := by decide +kernel
theorem dX7_cancel_52 : decode cX7_cancel 52 = .ok (.iadd, 1) := by decide +kernel
theorem dX7_cancel_53 : decode cX7_cancel 53 = .ok (.iaload, 1) := by decide +kernel
theorem dX7_cancel_54 : decode cX7_cancel 54 = .ok (.aload_n 0, 1) := by decide +kernel
theorem dX7_cancel_55 : decode cX7_cancel 55 = .ok (.getfield 13, 3) := by decide +kernel
theorem dX7_cancel_58 : decode cX7_cancel 58 = .ok (.iload_n 2, 1) := by decide +kernel
theorem dX7_cancel_59 : decode cX7_cancel 59 = .ok (.iconst 1, 1) := by decide +kernel
theorem dX7_cancel_60 : decode cX7_cancel 60 = .ok (.iadd, 1) := by decide +kernel
theorem dX7_cancel_61 : decode cX7_cancel 61 = .ok (.iaload, 1) := by decide +kernel
theorem dX7_cancel_62 : decode cX7_cancel 62 = .ok (.aload_n 0, 1) := by decide +kernel
theorem dX7_cancel_63 : decode cX7_cancel 63 = .ok (.getfield 16, 3) := by decide +kernel
theorem dX7_cancel_66 : decode cX7_cancel 66 = .ok (.iload_n 2, 1) := by decide +kernel
theorem dX7_cancel_67 : decode cX7_cancel 67 = .ok (.iconst 1, 1) := by decide +kernel
theorem dX7_cancel_68 : decode cX7_cancel 68 = .ok (.iadd, 1) := by decide +kernel
theorem dX7_cancel_69 : decode cX7_cancel 69 = .ok (.iaload, 1) := by decide +kernel
theorem dX7_cancel_70 : decode cX7_cancel 70 = .ok (.aload_n 0, 1) := by decide +kernel
theorem dX7_cancel_71 : decode cX7_cancel 71 = .ok (.getfield 19, 3) := by decide +kernel
theorem dX7_cancel_74 : decode cX7_cancel 74 = .ok (.iload_n 2, 1) := by decide +kernel
theorem dX7_cancel_75 : decode cX7_cancel 75 = .ok (.iconst 1, 1) := by decide +kernel
theorem dX7_cancel_76 : decode cX7_cancel 76 = .ok (.iadd, 1) := by decide +kernel
theorem dX7_cancel_77 : decode cX7_cancel 77 = .ok (.iaload, 1) := by decide +kernel
theorem dX7_cancel_78 : decode cX7_cancel 78 = .ok (.aload_n 0, 1) := by decide +kernel
theorem dX7_cancel_79 : decode cX7_cancel 79 = .ok (.getfield 22, 3) := by decide +kernel
theorem dX7_cancel_82 : decode cX7_cancel 82 = .ok (.iload_n 2, 1) := by decide +kernel
theorem dX7_cancel_83 : decode cX7_cancel 83 = .ok (.iconst 1, 1) := by decide +kernel
theorem dX7_cancel_84 : decode cX7_cancel 84 = .ok (.iadd, 1) := by decide +kernel
theorem dX7_cancel_85 : decode cX7_cancel 85 = .ok (.iaload, 1) := by decide +kernel
theorem dX7_cancel_86 : decode cX7_cancel 86 = .ok (.aload_n 0, 1) := by decide +kernel
theorem dX7_cancel_87 : decode cX7_cancel 87 = .ok (.getfield 25, 3) := by decide +kernel
theorem dX7_cancel_90 : decode cX7_cancel 90 = .ok (.iload_n 2, 1) := by decide +kernel
theorem dX7_cancel_91 : decode cX7_cancel 91 = .ok (.iconst 1, 1) := by decide +kernel
theorem dX7_cancel_92 : decode cX7_cancel 92 = .ok (.iadd, 1) := by decide +kernel
theorem dX7_cancel_93 : decode cX7_cancel 93 = .ok (.iaload, 1) := by decide +kernel
theorem dX7_cancel_94 : decode cX7_cancel 94 = .ok (.invokevirtual 96, 3) := by decide +kernel
theorem dX7_cancel_97 : decode cX7_cancel 97 = .ok (.iinc 2 1, 3) := by decide +kernel
theorem dX7_cancel_100 : decode cX7_cancel 100 = .ok (.goto (-64), 3) := by decide +kernel
theorem dX7_cancel_103 : decode cX7_cancel 103 = .ok (.aload_n 0, 1) := by decide +kernel
theorem dX7_cancel_104 : decode cX7_cancel 104 = .ok (.getfield 70, 3) := by decide +kernel
theorem dX7_cancel_107 : decode cX7_cancel 107 = .ok (.ireturn, 1) := by decide +kernel
theorem dX7_told_0 : decode cX7_told 0 = .ok (.aload_n 0, 1) := by decide +kernel
theorem dX7_told_1 : decode cX7_told 1 = .ok (.iload_n 1, 1) := by decide +kernel
theorem dX7_told_2 : decode cX7_told 2 = .ok (.invokevirtual 111, 3) := by decide +kernel
theorem dX7_told_5 : decode cX7_told 5 = .ok (.ifCond .ne 5, 3) := by decide +kernel
theorem dX7_told_8 : decode cX7_told 8 = .ok (.iconst (-1), 1) := by decide +kernel
theorem dX7_told_9 : decode cX7_told 9 = .ok (.ireturn, 1) := by decide +kernel
theorem dX7_told_10 : decode cX7_told 10 = .ok (.iload_n 2, 1) := by decide +kernel
theorem dX7_told_11 : decode cX7_told 11 = .ok (.tableswitch 127 0 7 #[45, 52, 59, 66, 88, 95, 102, 108], 45) := by decide +kernel
theorem dX7_told_56 : decode cX7_told 56 = .ok (.aload_n 0, 1) := by decide +kernel
theorem dX7_told_57 : decode cX7_told 57 = .ok (.getfield 7, 3) := by decide +kernel
theorem dX7_told_60 : decode cX7_told 60 = .ok (.iload_n 1, 1) := by decide +kernel
theorem dX7_told_61 : decode cX7_told 61 = .ok (.iaload, 1) := by decide +kernel
theorem dX7_told_62 : decode cX7_told 62 = .ok (.ireturn, 1) := by decide +kernel
theorem dX7_told_63 : decode cX7_told 63 = .ok (.aload_n 0, 1) := by decide +kernel
theorem dX7_told_64 : decode cX7_told 64 = .ok (.getfield 13, 3) := by decide +kernel
theorem dX7_told_67 : decode cX7_told 67 = .ok (.iload_n 1, 1) := by decide +kernel
theorem dX7_told_68 : decode cX7_told 68 = .ok (.iaload, 1) := by decide +kernel
theorem dX7_told_69 : decode cX7_told 69 = .ok (.ireturn, 1) := by decide +kernel
theorem dX7_told_70 : decode cX7_told 70 = .ok (.aload_n 0, 1) := by decide +kernel
theorem dX7_told_71 : decode cX7_told 71 = .ok (.getfield 16, 3) := by decide +kernel
theorem dX7_told_74 : decode cX7_told 74 = .ok (.iload_n 1, 1) := by decide +kernel
theorem dX7_told_75 : decode cX7_told 75 = .ok (.iaload, 1) := by decide +kernel
theorem dX7_told_76 : decode cX7_told 76 = .ok (.ireturn, 1) := by decide +kernel
theorem dX7_told_77 : decode cX7_told 77 = .ok (.aload_n 0, 1) := by decide +kernel
theorem dX7_told_78 : decode cX7_told 78 = .ok (.getfield 16, 3) := by decide +kernel
theorem dX7_told_81 : decode cX7_told 81 = .ok (.iload_n 1, 1) := by decide +kernel
theorem dX7_told_82 : decode cX7_told 82 = .ok (.iaload, 1) := by decide +kernel
theorem dX7_told_83 : decode cX7_told 83 = .ok (.iconst 1, 1) := by decide +kernel
theorem dX7_told_84 : decode cX7_told 84 = .ok (.if_icmp .le 8, 3) := by decide +kernel
theorem dX7_told_87 : decode cX7_told 87 = .ok (.bipush (-6), 2) := by decide +kernel
theorem dX7_told_89 : decode cX7_told 89 = .ok (.goto 9, 3) := by decide +kernel
theorem dX7_told_92 : decode cX7_told 92 = .ok (.aload_n 0, 1) := by decide +kernel
theorem dX7_told_93 : decode cX7_told 93 = .ok (.getfield 19, 3) := by decide +kernel
theorem dX7_told_96 : decode cX7_told 96 = .ok (.iload_n 1, 1) := by decide +kernel
theorem dX7_told_97 : decode cX7_told 97 = .ok (.iaload, 1) := by decide +kernel
theorem dX7_told_98 : decode cX7_told 98 = .ok (.ireturn, 1) := by decide +kernel
theorem dX7_told_99 : decode cX7_told 99 = .ok (.aload_n 0, 1) := by decide +kernel
theorem dX7_told_100 : decode cX7_told 100 = .ok (.getfield 22, 3) := by decide +kernel
theorem dX7_told_103 : decode cX7_told 103 = .ok (.iload_n 1, 1) := by decide +kernel
theorem dX7_told_104 : decode cX7_told 104 = .ok (.iaload, 1) := by decide +kernel
theorem dX7_told_105 : decode cX7_told 105 = .ok (.ireturn, 1) := by decide +kernel
theorem dX7_told_106 : decode cX7_told 106 = .ok (.aload_n 0, 1) := by decide +kernel
theorem dX7_told_107 : decode cX7_told 107 = .ok (.getfield 25, 3) := by decide +kernel
theorem dX7_told_110 : decode cX7_told 110 = .ok (.iload_n 1, 1) := by decide +kernel
theorem dX7_told_111 : decode cX7_told 111 = .ok (.iaload, 1) := by decide +kernel
theorem dX7_told_112 : decode cX7_told 112 = .ok (.ireturn, 1) := by decide +kernel
theorem dX7_told_113 : decode cX7_told 113 = .ok (.aload_n 0, 1) := by decide +kernel
theorem dX7_told_114 : decode cX7_told 114 = .ok (.iload_n 1, 1) := by decide +kernel
theorem dX7_told_115 : decode cX7_told 115 = .ok (.invokevirtual 74, 3) := by decide +kernel
theorem dX7_told_118 : decode cX7_told 118 = .ok (.ireturn, 1) := by decide +kernel
theorem dX7_told_119 : decode cX7_told 119 = .ok (.aload_n 0, 1) := by decide +kernel
theorem dX7_told_120 : decode cX7_told 120 = .ok (.getfield 7, 3) := by decide +kernel
theorem dX7_told_123 : decode cX7_told 123 = .ok (.iload_n 1, 1) := by decide +kernel
theorem dX7_told_124 : decode cX7_told 124 = .ok (.iaload, 1) := by decide +kernel
theorem dX7_told_125 : decode cX7_told 125 = .ok (.aload_n 0, 1) := by decide +kernel
theorem dX7_told_126 : decode cX7_told 126 = .ok (.getfield 114, 3) := by decide +kernel
theorem dX7_told_129 : decode cX7_told 129 = .ok (.if_icmp .gt 7, 3) := by decide +kernel
theorem dX7_told_132 : decode cX7_told 132 = .ok (.iconst 1, 1) := by decide +kernel
theorem dX7_told_133 : decode cX7_told 133 = .ok (.goto 4, 3) := by decide +kernel
theorem dX7_told_136 : decode cX7_told 136 = .ok (.iconst 0, 1) := by decide +kernel
theorem dX7_told_137 : decode cX7_told 137 = .ok (.ireturn, 1) := by decide +kernel
theorem dX7_told_138 : decode cX7_told 138 = .ok (.bipush (-2), 2) := by decide +kernel
theorem dX7_told_140 : decode cX7_told 140 = .ok (.ireturn, 1) := by decide +kernel
theorem dX7_look_0 : decode cX7_look 0 = .ok (.iload_n 1, 1) := by decide +kernel
theorem dX7_look_1 : decode cX7_look 1 = .ok (.iconst 0, 1) := by decide +kernel
theorem dX7_look_2 : decode cX7_look 2 = .ok (.sipush 999, 3) := by decide +kernel
theorem dX7_look_5 : decode cX7_look 5 = .ok (.invokestatic 66, 3) := by decide +kernel
theorem dX7_look_8 : decode cX7_look 8 = .ok (.ifCond .ne 6, 3) := by decide +kernel
theorem dX7_look_11 : decode cX7_look 11 = .ok (.bipush (-2), 2) := by decide +kernel
theorem dX7_look_13 : decode cX7_look 13 = .ok (.ireturn, 1) := by decide +kernel
theorem dX7_look_14 : decode cX7_look 14 = .ok (.aload_n 0, 1) := by decide +kernel
theorem dX7_look_15 : decode cX7_look 15 = .ok (.getfield 114, 3) := by decide +kernel
theorem dX7_look_18 : decode cX7_look 18 = .ok (.istore_n 2, 1) := by decide +kernel
theorem dX7_look_19 : decode cX7_look 19 = .ok (.aload_n 0, 1) := by decide +kernel
theorem dX7_look_20 : decode cX7_look 20 = .ok (.iload_n 1, 1) := by decide +kernel
theorem dX7_look_21 : decode cX7_look 21 = .ok (.putfield 114, 3) := by decide +kernel
theorem dX7_look_24 : decode cX7_look 24 = .ok (.iload_n 2, 1) := by decide +kernel
theorem dX7_look_25 : decode cX7_look 25 = .ok (.ireturn, 1) := by decide +kernel
theorem dX7_rule_0 : decode cX7_rule 0 = .ok (.iload_n 1, 1) := by decide +kernel
theorem dX7_rule_1 : decode cX7_rule 1 = .ok (.iconst 0, 1) := by decide +kernel
theorem dX7_rule_2 : decode cX7_rule 2 = .ok (.iconst 2, 1) := by decide +kernel
theorem dX7_rule_3 : decode cX7_rule 3 = .ok (.invokestatic 66, 3) := by decide +kernel
theorem dX7_rule_6 : decode cX7_rule 6 = .ok (.ifCond .eq 13, 3) := by decide +kernel
theorem dX7_rule_9 : decode cX7_rule 9 = .ok (.iload_n 2, 1) := by decide +kernel
theorem dX7_rule_10 : decode cX7_rule 10 = .ok (.iconst 1, 1) := by decide +kernel
theorem dX7_rule_11 : decode cX7_rule 11 = .ok (.bipush 99, 2) := by decide +kernel
theorem dX7_rule_13 : decode cX7_rule 13 = .ok (.invokestatic 66, 3) := by decide +kernel
theorem dX7_rule_16 : decode cX7_rule 16 = .ok (.ifCond .ne 6, 3) := by decide +kernel
theorem dX7_rule_19 : decode cX7_rule 19 = .ok (.bipush (-2), 2) := by decide +kernel
theorem dX7_rule_21 : decode cX7_rule 21 = .ok (.ireturn, 1) := by decide +kernel
theorem dX7_rule_22 : decode cX7_rule 22 = .ok (.aload_n 0, 1) := by decide +kernel
theorem dX7_rule_23 : decode cX7_rule 23 = .ok (.getfield 28, 3) := by decide +kernel
theorem dX7_rule_26 : decode cX7_rule 26 = .ok (.iload_n 1, 1) := by decide +kernel
theorem dX7_rule_27 : decode cX7_rule 27 = .ok (.iaload, 1) := by decide +kernel
theorem dX7_rule_28 : decode cX7_rule 28 = .ok (.istore_n 3, 1) := by decide +kernel
theorem dX7_rule_29 : decode cX7_rule 29 = .ok (.aload_n 0, 1) := by decide +kernel
theorem dX7_rule_30 : decode cX7_rule 30 = .ok (.getfield 28, 3) := by decide +kernel
theorem dX7_rule_33 : decode cX7_rule 33 = .ok (.iload_n 1, 1) := by decide +kernel
theorem dX7_rule_34 : decode cX7_rule 34 = .ok (.iload_n 2, 1) := by decide +kernel
theorem dX7_rule_35 : decode cX7_rule 35 = .ok (.iastore, 1) := by decide +kernel
theorem dX7_rule_36 : decode cX7_rule 36 = .ok (.iload_n 3, 1) := by decide +kernel
theorem dX7_rule_37 : decode cX7_rule 37 = .ok (.ireturn, 1) := by decide +kernel
theorem dX7_holds_0 : decode cX7_holds 0 = .ok (.iload_n 1, 1) := by decide +kernel
theorem dX7_holds_1 : decode cX7_holds 1 = .ok (.iconst 0, 1) := by decide +kernel
theorem dX7_holds_2 : decode cX7_holds 2 = .ok (.bipush 9, 2) := by decide +kernel
theorem dX7_holds_4 : decode cX7_holds 4 = .ok (.invokestatic 66, 3) := by decide +kernel
theorem dX7_holds_7 : decode cX7_holds 7 = .ok (.ifCond .eq 10, 3) := by decide +kernel
theorem dX7_holds_10 : decode cX7_holds 10 = .ok (.iload_n 2, 1) := by decide +kernel
theorem dX7_holds_11 : decode cX7_holds 11 = .ok (.invokestatic 93, 3) := by decide +kernel
theorem dX7_holds_14 : decode cX7_holds 14 = .ok (.ifCond .ne 5, 3) := by decide +kernel
theorem dX7_holds_17 : decode cX7_holds 17 = .ok (.iconst (-1), 1) := by decide +kernel
theorem dX7_holds_18 : decode cX7_holds 18 = .ok (.ireturn, 1) := by decide +kernel
theorem dX7_holds_19 : decode cX7_holds 19 = .ok (.iload_n 3, 1) := by decide +kernel
theorem dX7_holds_20 : decode cX7_holds 20 = .ok (.iconst 0, 1) := by decide +kernel
theorem dX7_holds_21 : decode cX7_holds 21 = .ok (.iconst 2, 1) := by decide +kernel
theorem dX7_holds_22 : decode cX7_holds 22 = .ok (.invokestatic 66, 3) := by decide +kernel
theorem dX7_holds_25 : decode cX7_holds 25 = .ok (.ifCond .ne 6, 3) := by decide +kernel
theorem dX7_holds_28 : decode cX7_holds 28 = .ok (.bipush (-2), 2) := by decide +kernel
theorem dX7_holds_30 : decode cX7_holds 30 = .ok (.ireturn, 1) := by decide +kernel
theorem dX7_holds_31 : decode cX7_holds 31 = .ok (.aload_n 0, 1) := by decide +kernel
theorem dX7_holds_32 : decode cX7_holds 32 = .ok (.aload_n 0, 1) := by decide +kernel
theorem dX7_holds_33 : decode cX7_holds 33 = .ok (.getfield 114, 3) := by decide +kernel
theorem dX7_holds_36 : decode cX7_holds 36 = .ok (.bipush (-6), 2) := by decide +kernel
theorem dX7_holds_38 : decode cX7_holds 38 = .ok (.invokevirtual 89, 3) := by decide +kernel
theorem dX7_holds_41 : decode cX7_holds 41 = .ok (.pop, 1) := by decide +kernel
theorem dX7_holds_42 : decode cX7_holds 42 = .ok (.iload_n 1, 1) := by decide +kernel
theorem dX7_holds_43 : decode cX7_holds 43 = .ok (.iload_n 2, 1) := by decide +kernel
theorem dX7_holds_44 : decode cX7_holds 44 = .ok (.invokestatic 78, 3) := by decide +kernel
theorem dX7_holds_47 : decode cX7_holds 47 = .ok (.istore 4, 2) := by decide +kernel
theorem dX7_holds_49 : decode cX7_holds 49 = .ok (.iload_n 3, 1) := by decide +kernel
theorem dX7_holds_50 : decode cX7_holds 50 = .ok (.ifCond .ne 13, 3) := by decide +kernel
theorem dX7_holds_53 : decode cX7_holds 53 = .ok (.aload_n 0, 1) := by decide +kernel
theorem dX7_holds_54 : decode cX7_holds 54 = .ok (.getfield 34, 3) := by decide +kernel
theorem dX7_holds_57 : decode cX7_holds 57 = .ok (.iload 4, 2) := by decide +kernel
theorem dX7_holds_59 : decode cX7_holds 59 = .ok (.iaload, 1) := by decide +kernel
theorem dX7_holds_60 : decode cX7_holds 60 = .ok (.goto 33, 3) := by decide +kernel
theorem dX7_holds_63 : decode cX7_holds 63 = .ok (.iload_n 3, 1) := by decide +kernel
theorem dX7_holds_64 : decode cX7_holds 64 = .ok (.iconst 1, 1) := by decide +kernel
theorem dX7_holds_65 : decode cX7_holds 65 = .ok (.if_icmp .ne 13, 3) := by decide +kernel
theorem dX7_holds_68 : decode cX7_holds 68 = .ok (.aload_n 0, 1) := by decide +kernel
theorem dX7_holds_69 : decode cX7_holds 69 = .ok (.getfield 37, 3) := by decide +kernel
theorem dX7_holds_72 : decode cX7_holds 72 = .ok (.iload 4, 2) := by decide +kernel
theorem dX7_holds_74 : decode cX7_holds 74 = .ok (.iaload, 1) := by decide +kernel
theorem dX7_holds_75 : decode cX7_holds 75 = .ok (.goto 18, 3) := by decide +kernel
theorem dX7_holds_78 : decode cX7_holds 78 = .ok (.aload_n 0, 1) := by decide +kernel
theorem dX7_holds_79 : decode cX7_holds 79 = .ok (.getfield 40, 3) := by decide +kernel
theorem dX7_holds_82 : decode cX7_holds 82 = .ok (.iload 4, 2) := by decide +kernel
theorem dX7_holds_84 : decode cX7_holds 84 = .ok (.baload, 1) := by decide +kernel
theorem dX7_holds_85 : decode cX7_holds 85 = .ok (.ifCond .eq 7, 3) := by decide +kernel
theorem dX7_holds_88 : decode cX7_holds 88 = .ok (.iconst 1, 1) := by decide +kernel
theorem dX7_holds_89 : decode cX7_holds 89 = .ok (.goto 4, 3) := by decide +kernel
theorem dX7_holds_92 : decode cX7_holds 92 = .ok (.iconst 0, 1) := by decide +kernel
theorem dX7_holds_93 : decode cX7_holds 93 = .ok (.ireturn, 1) := by decide +kernel
theorem dX7_has_0 : decode cX7_has 0 = .ok (.iload_n 0, 1) := by decide +kernel
theorem dX7_has_1 : decode cX7_has 1 = .ok (.iload_n 1, 1) := by decide +kernel
theorem dX7_has_2 : decode cX7_has 2 = .ok (.ishr, 1) := by decide +kernel
theorem dX7_has_3 : decode cX7_has 3 = .ok (.iconst 1, 1) := by decide +kernel
theorem dX7_has_4 : decode cX7_has 4 = .ok (.iand, 1) := by decide +kernel
theorem dX7_has_5 : decode cX7_has 5 = .ok (.iconst 1, 1) := by decide +kernel
theorem dX7_has_6 : decode cX7_has 6 = .ok (.if_icmp .ne 7, 3) := by decide +kernel
theorem dX7_has_9 : decode cX7_has 9 = .ok (.iconst 1, 1) := by decide +kernel
theorem dX7_has_10 : decode cX7_has 10 = .ok (.goto 4, 3) := by decide +kernel
theorem dX7_has_13 : decode cX7_has 13 = .ok (.iconst 0, 1) := by decide +kernel
theorem dX7_has_14 : decode cX7_has 14 = .ok (.ireturn, 1) := by decide +kernel
theorem dX7_isWith_0 : decode cX7_isWith 0 = .ok (.iload_n 0, 1) := by decide +kernel
theorem dX7_isWith_1 : decode cX7_isWith 1 = .ok (.iload_n 1, 1) := by decide +kernel
theorem dX7_isWith_2 : decode cX7_isWith 2 = .ok (.if_icmp .eq 18, 3) := by decide +kernel
theorem dX7_isWith_5 : decode cX7_isWith 5 = .ok (.iload_n 0, 1) := by decide +kernel
theorem dX7_isWith_6 : decode cX7_isWith 6 = .ok (.iconst 4, 1) := by decide +kernel
theorem dX7_isWith_7 : decode cX7_isWith 7 = .ok (.if_icmp .lt 17, 3) := by decide +kernel
theorem dX7_isWith_10 : decode cX7_isWith 10 = .ok (.iload_n 2, 1) := by decide +kernel
theorem dX7_isWith_11 : decode cX7_isWith 11 = .ok (.iload_n 0, 1) := by decide +kernel
theorem dX7_isWith_12 : decode cX7_isWith 12 = .ok (.iconst 4, 1) := by decide +kernel
theorem dX7_isWith_13 : decode cX7_isWith 13 = .ok (.isub, 1) := by decide +kernel
theorem dX7_isWith_14 : decode cX7_isWith 14 = .ok (.invokestatic 117, 3) := by decide +kernel
theorem dX7_isWith_17 : decode cX7_isWith 17 = .ok (.ifCond .eq 7, 3) := by decide +kernel
theorem dX7_isWith_20 : decode cX7_isWith 20 = .ok (.iconst 1, 1) := by decide +kernel
theorem dX7_isWith_21 : decode cX7_isWith 21 = .ok (.goto 4, 3) := by decide +kernel
theorem dX7_isWith_24 : decode cX7_isWith 24 = .ok (.iconst 0, 1) := by decide +kernel
theorem dX7_isWith_25 : decode cX7_isWith 25 = .ok (.ireturn, 1) := by decide +kernel
theorem dX7_block_0 : decode cX7_block 0 = .ok (.iconst 0, 1) := by decide +kernel
theorem dX7_block_1 : decode cX7_block 1 = .ok (.istore 4, 2) := by decide +kernel
theorem dX7_block_3 : decode cX7_block 3 = .ok (.iconst 0, 1) := by decide +kernel
theorem dX7_block_4 : decode cX7_block 4 = .ok (.istore 5, 2) := by decide +kernel
theorem dX7_block_6 : decode cX7_block 6 = .ok (.iload 5, 2) := by decide +kernel
theorem dX7_block_8 : decode cX7_block 8 = .ok (.bipush 9, 2) := by decide +kernel
theorem dX7_block_10 : decode cX7_block 10 = .ok (.if_icmp .ge 39, 3) := by decide +kernel
theorem dX7_block_13 : decode cX7_block 13 = .ok (.iload 4, 2) := by decide +kernel
theorem dX7_block_15 : decode cX7_block 15 = .ok (.iload 5, 2) := by decide +kernel
theorem dX7_block_17 : decode cX7_block 17 = .ok (.iload_n 1, 1) := by decide +kernel
theorem dX7_block_18 : decode cX7_block 18 = .ok (.iload_n 3, 1) := by decide +kernel
theorem dX7_block_19 : decode cX7_block 19 = .ok (.invokestatic 120, 3) := by decide +kernel
theorem dX7_block_22 : decode cX7_block 22 = .ok (.ifCond .eq 17, 3) := by decide +kernel
theorem dX7_block_25 : decode cX7_block 25 = .ok (.aload_n 0, 1) := by decide +kernel
theorem dX7_block_26 : decode cX7_block 26 = .ok (.getfield 37, 3) := by decide +kernel
theorem dX7_block_29 : decode cX7_block 29 = .ok (.iload 5, 2) := by decide +kernel
theorem dX7_block_31 : decode cX7_block 31 = .ok (.iload_n 2, 1) := by decide +kernel
theorem dX7_block_32 : decode cX7_block 32 = .ok (.invokestatic 78, 3) := by decide +kernel
theorem dX7_block_35 : decode cX7_block 35 = .ok (.iaload, 1) := by decide +kernel
theorem dX7_block_36 : decode cX7_block 36 = .ok (.goto 4, 3) := by decide +kernel
theorem dX7_block_39 : decode cX7_block 39 = .ok (.iconst 0, 1) := by decide +kernel
theorem dX7_block_40 : decode cX7_block 40 = .ok (.iadd, 1) := by decide +kernel
theorem dX7_block_41 : decode cX7_block 41 = .ok (.istore 4, 2) := by decide +kernel
theorem dX7_block_43 : decode cX7_block 43 = .ok (.iinc 5 1, 3) := by decide +kernel
theorem dX7_block_46 : decode cX7_block 46 = .ok (.goto (-40), 3) := by decide +kernel
theorem dX7_block_49 : decode cX7_block 49 = .ok (.iload 4, 2) := by decide +kernel
theorem dX7_block_51 : decode cX7_block 51 = .ok (.ireturn, 1) := by decide +kernel
theorem dX7_falls_0 : decode cX7_falls 0 = .ok (.aload_n 0, 1) := by decide +kernel
theorem dX7_falls_1 : decode cX7_falls 1 = .ok (.iload_n 1, 1) := by decide +kernel
theorem dX7_falls_2 : decode cX7_falls 2 = .ok (.iload_n 2, 1) := by decide +kernel
theorem dX7_falls_3 : decode cX7_falls 3 = .ok (.iload_n 3, 1) := by decide +kernel
theorem dX7_falls_4 : decode cX7_falls 4 = .ok (.invokevirtual 123, 3) := by decide +kernel
theorem dX7_falls_7 : decode cX7_falls 7 = .ok (.istore 4, 2) := by decide +kernel
theorem dX7_falls_9 : decode cX7_falls 9 = .ok (.iload 4, 2) := by decide +kernel
theorem dX7_falls_11 : decode cX7_falls 11 = .ok (.aload_n 0, 1) := by decide +kernel
theorem dX7_falls_12 : decode cX7_falls 12 = .ok (.getfield 28, 3) := by decide +kernel
theorem dX7_falls_15 : decode cX7_falls 15 = .ok (.iconst 1, 1) := by decide +kernel
theorem dX7_falls_16 : decode cX7_falls 16 = .ok (.iaload, 1) := by decide +kernel
theorem dX7_falls_17 : decode cX7_falls 17 = .ok (.if_icmp .lt 7, 3) := by decide +kernel
theorem dX7_falls_20 : decode cX7_falls 20 = .ok (.iconst 1, 1) := by decide +kernel
theorem dX7_falls_21 : decode cX7_falls 21 = .ok (.goto 4, 3) := by decide +kernel
theorem dX7_falls_24 : decode cX7_falls 24 = .ok (.iconst 0, 1) := by decide +kernel
theorem dX7_falls_25 : decode cX7_falls 25 = .ok (.istore 5, 2) := by decide +kernel
theorem dX7_falls_27 : decode cX7_falls 27 = .ok (.iconst 1, 1) := by decide +kernel
theorem dX7_falls_28 : decode cX7_falls 28 = .ok (.istore 6, 2) := by decide +kernel
theorem dX7_falls_30 : decode cX7_falls 30 = .ok (.iconst 0, 1) := by decide +kernel
theorem dX7_falls_31 : decode cX7_falls 31 = .ok (.istore 7, 2) := by decide +kernel
theorem dX7_falls_33 : decode cX7_falls 33 = .ok (.iload 7, 2) := by decide +kernel
theorem dX7_falls_35 : decode cX7_falls 35 = .ok (.bipush 9, 2) := by decide +kernel
theorem dX7_falls_37 : decode cX7_falls 37 = .ok (.if_icmp .ge 73, 3) := by decide +kernel
theorem dX7_falls_40 : decode cX7_falls 40 = .ok (.iload 7, 2) := by decide +kernel
theorem dX7_falls_42 : decode cX7_falls 42 = .ok (.iload_n 1, 1) := by decide +kernel
theorem dX7_falls_43 : decode cX7_falls 43 = .ok (.iload_n 3, 1) := by decide +kernel
theorem dX7_falls_44 : decode cX7_falls 44 = .ok (.invokestatic 120, 3) := by decide +kernel
theorem dX7_falls_47 : decode cX7_falls 47 = .ok (.ifCond .ne 57, 3) := by decide +kernel
theorem dX7_falls_50 : decode cX7_falls 50 = .ok (.iload 6, 2) := by decide +kernel
theorem dX7_falls_52 : decode cX7_falls 52 = .ok (.ifCond .eq 21, 3) := by decide +kernel
theorem dX7_falls_55 : decode cX7_falls 55 = .ok (.aload_n 0, 1) := by decide +kernel
theorem dX7_falls_56 : decode cX7_falls 56 = .ok (.getfield 40, 3) := by decide +kernel
theorem dX7_falls_59 : decode cX7_falls 59 = .ok (.iload 7, 2) := by decide +kernel
theorem dX7_falls_61 : decode cX7_falls 61 = .ok (.iload_n 2, 1) := by decide +kernel
theorem dX7_falls_62 : decode cX7_falls 62 = .ok (.invokestatic 78, 3) := by decide +kernel
theorem dX7_falls_65 : decode cX7_falls 65 = .ok (.baload, 1) := by decide +kernel
theorem dX7_falls_66 : decode cX7_falls 66 = .ok (.ifCond .ne 7, 3) := by decide +kernel
theorem dX7_falls_69 : decode cX7_falls 69 = .ok (.iconst 1, 1) := by decide +kernel
theorem dX7_falls_70 : decode cX7_falls 70 = .ok (.goto 4, 3) := by decide +kernel
theorem dX7_falls_73 : decode cX7_falls 73 = .ok (.iconst 0, 1) := by decide +kernel
theorem dX7_falls_74 : decode cX7_falls 74 = .ok (.istore 6, 2) := by decide +kernel
theorem dX7_falls_76 : decode cX7_falls 76 = .ok (.iload 5, 2) := by decide +kernel
theorem dX7_falls_78 : decode cX7_falls 78 = .ok (.ifCond .eq 23, 3) := by decide +kernel
theorem dX7_falls_81 : decode cX7_falls 81 = .ok (.iload 4, 2) := by decide +kernel
theorem dX7_falls_83 : decode cX7_falls 83 = .ok (.aload_n 0, 1) := by decide +kernel
theorem dX7_falls_84 : decode cX7_falls 84 = .ok (.getfield 37, 3) := by decide +kernel
theorem dX7_falls_87 : decode cX7_falls 87 = .ok (.iload 7, 2) := by decide +kernel
theorem dX7_falls_89 : decode cX7_falls 89 = .ok (.iload_n 2, 1) := by decide +kernel
theorem dX7_falls_90 : decode cX7_falls 90 = .ok (.invokestatic 78, 3) := by decide +kernel
theorem dX7_falls_93 : decode cX7_falls 93 = .ok (.iaload, 1) := by decide +kernel
theorem dX7_falls_94 : decode cX7_falls 94 = .ok (.if_icmp .le 7, 3) := by decide +kernel
theorem dX7_falls_97 : decode cX7_falls 97 = .ok (.iconst 1, 1) := by decide +kernel
theorem dX7_falls_98 : decode cX7_falls 98 = .ok (.goto 4, 3) := by decide +kernel
theorem dX7_falls_101 : decode cX7_falls 101 = .ok (.iconst 0, 1) := by decide +kernel
theorem dX7_falls_102 : decode cX7_falls 102 = .ok (.istore 5, 2) := by decide +kernel
theorem dX7_falls_104 : decode cX7_falls 104 = .ok (.iinc 7 1, 3) := by decide +kernel
theorem dX7_falls_107 : decode cX7_falls 107 = .ok (.goto (-74), 3) := by decide +kernel
theorem dX7_falls_110 : decode cX7_falls 110 = .ok (.iload 6, 2) := by decide +kernel
theorem dX7_falls_112 : decode cX7_falls 112 = .ok (.ifCond .eq 23, 3) := by decide +kernel
theorem dX7_falls_115 : decode cX7_falls 115 = .ok (.iload 4, 2) := by decide +kernel
theorem dX7_falls_117 : decode cX7_falls 117 = .ok (.aload_n 0, 1) := by decide +kernel
theorem dX7_falls_118 : decode cX7_falls 118 = .ok (.getfield 28, 3) := by decide +kernel
theorem dX7_falls_121 : decode cX7_falls 121 = .ok (.iconst 0, 1) := by decide +kernel
theorem dX7_falls_122 : decode cX7_falls 122 = .ok (.iaload, 1) := by decide +kernel
theorem dX7_falls_123 : decode cX7_falls 123 = .ok (.if_icmp .gt 8, 3) := by decide +kernel
theorem dX7_falls_126 : decode cX7_falls 126 = .ok (.iload 5, 2) := by decide +kernel
theorem dX7_falls_128 : decode cX7_falls 128 = .ok (.ifCond .eq 7, 3) := by decide +kernel
theorem dX7_falls_131 : decode cX7_falls 131 = .ok (.iconst 1, 1) := by decide +kernel
theorem dX7_falls_132 : decode cX7_falls 132 = .ok (.goto 4, 3) := by decide +kernel
theorem dX7_falls_135 : decode cX7_falls 135 = .ok (.iconst 0, 1) := by decide +kernel
theorem dX7_falls_136 : decode cX7_falls 136 = .ok (.ireturn, 1) := by decide +kernel
theorem dX7_control_0 : decode cX7_control 0 = .ok (.iconst 0, 1) := by decide +kernel
theorem dX7_control_1 : decode cX7_control 1 = .ok (.istore_n 2, 1) := by decide +kernel
theorem dX7_control_2 : decode cX7_control 2 = .ok (.aload_n 0, 1) := by decide +kernel
theorem dX7_control_3 : decode cX7_control 3 = .ok (.iconst 0, 1) := by decide +kernel
theorem dX7_control_4 : decode cX7_control 4 = .ok (.putfield 127, 3) := by decide +kernel
theorem dX7_control_7 : decode cX7_control 7 = .ok (.iconst 0, 1) := by decide +kernel
theorem dX7_control_8 : decode cX7_control 8 = .ok (.istore_n 3, 1) := by decide +kernel
theorem dX7_control_9 : decode cX7_control 9 = .ok (.iload_n 3, 1) := by decide +kernel
theorem dX7_control_10 : decode cX7_control 10 = .ok (.iconst 5, 1) := by decide +kernel
theorem dX7_control_11 : decode cX7_control 11 = .ok (.if_icmp .ge 17, 3) := by decide +kernel
theorem dX7_control_14 : decode cX7_control 14 = .ok (.aload_n 0, 1) := by decide +kernel
theorem dX7_control_15 : decode cX7_control 15 = .ok (.getfield 44, 3) := by decide +kernel
theorem dX7_control_18 : decode cX7_control 18 = .ok (.iload_n 3, 1) := by decide +kernel
theorem dX7_control_19 : decode cX7_control 19 = .ok (.bipush (-6), 2) := by decide +kernel
theorem dX7_control_21 : decode cX7_control 21 = .ok (.iastore, 1) := by decide +kernel
theorem dX7_control_22 : decode cX7_control 22 = .ok (.iinc 3 1, 3) := by decide +kernel
theorem dX7_control_25 : decode cX7_control 25 = .ok (.goto (-16), 3) := by decide +kernel
theorem dX7_control_28 : decode cX7_control 28 = .ok (.iconst 1, 1) := by decide +kernel
theorem dX7_control_29 : decode cX7_control 29 = .ok (.istore_n 3, 1) := by decide +kernel
theorem dX7_control_30 : decode cX7_control 30 = .ok (.iload_n 3, 1) := by decide +kernel
theorem dX7_control_31 : decode cX7_control 31 = .ok (.iconst 5, 1) := by decide +kernel
theorem dX7_control_32 : decode cX7_control 32 = .ok (.if_icmp .gt 74, 3) := by decide +kernel
theorem dX7_control_35 : decode cX7_control 35 = .ok (.iconst 0, 1) := by decide +kernel
theorem dX7_control_36 : decode cX7_control 36 = .ok (.istore 4, 2) := by decide +kernel
theorem dX7_control_38 : decode cX7_control 38 = .ok (.iconst 0, 1) := by decide +kernel
theorem dX7_control_39 : decode cX7_control 39 = .ok (.istore 5, 2) := by decide +kernel
theorem dX7_control_41 : decode cX7_control 41 = .ok (.iload 5, 2) := by decide +kernel
theorem dX7_control_43 : decode cX7_control 43 = .ok (.iconst 5, 1) := by decide +kernel
theorem dX7_control_44 : decode cX7_control 44 = .ok (.if_icmp .ge 51, 3) := by decide +kernel
