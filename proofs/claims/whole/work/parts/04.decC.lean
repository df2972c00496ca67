theorem dX6_init_0 : decode cX6_init 0 = .ok (.aload_n 0, 1) := by decide +kernel
theorem dX6_init_1 : decode cX6_init 1 = .ok (.invokespecial 3, 3) := by decide +kernel
theorem dX6_init_4 : decode cX6_init 4 = .ok (.aload_n 0, 1) := by decide +kernel
theorem dX6_init_5 : decode cX6_init 5 = .ok (.new 9, 3) := by decide +kernel
theorem dX6_init_8 : decode cX6_init 8 = .ok (.dup, 1) := by decide +kernel
theorem dX6_init_9 : decode cX6_init 9 = .ok (.invokespecial 11, 3) := by decide +kernel
theorem dX6_init_12 : decode cX6_init 12 = .ok (.putfield 12, 3) := by decide +kernel
theorem dX6_init_15 : decode cX6_init 15 = .ok (.aload_n 0, 1) := by decide +kernel
theorem dX6_init_16 : decode cX6_init 16 = .ok (.new 9, 3) := by decide +kernel
theorem dX6_init_19 : decode cX6_init 19 = .ok (.dup, 1) := by decide +kernel
theorem dX6_init_20 : decode cX6_init 20 = .ok (.invokespecial 11, 3) := by decide +kernel
theorem dX6_init_23 : decode cX6_init 23 = .ok (.putfield 16, 3) := by decide +kernel
theorem dX6_init_26 : decode cX6_init 26 = .ok (.aload_n 0, 1) := by decide +kernel
theorem dX6_init_27 : decode cX6_init 27 = .ok (.new 9, 3) := by decide +kernel
theorem dX6_init_30 : decode cX6_init 30 = .ok (.dup, 1) := by decide +kernel
theorem dX6_init_31 : decode cX6_init 31 = .ok (.invokespecial 11, 3) := by decide +kernel
theorem dX6_init_34 : decode cX6_init 34 = .ok (.putfield 19, 3) := by decide +kernel
theorem dX6_init_37 : decode cX6_init 37 = .ok (.aload_n 0, 1) := by decide +kernel
theorem dX6_init_38 : decode cX6_init 38 = .ok (.new 22, 3) := by decide +kernel
theorem dX6_init_41 : decode cX6_init 41 = .ok (.dup, 1) := by decide +kernel
theorem dX6_init_42 : decode cX6_init 42 = .ok (.invokespecial 24, 3) := by decide +kernel
theorem dX6_init_45 : decode cX6_init 45 = .ok (.putfield 25, 3) := by decide +kernel
theorem dX6_init_48 : decode cX6_init 48 = .ok (.aload_n 0, 1) := by decide +kernel
theorem dX6_init_49 : decode cX6_init 49 = .ok (.new 29, 3) := by decide +kernel
theorem dX6_init_52 : decode cX6_init 52 = .ok (.dup, 1) := by decide +kernel
theorem dX6_init_53 : decode cX6_init 53 = .ok (.invokespecial 31, 3) := by decide +kernel
theorem dX6_init_56 : decode cX6_init 56 = .ok (.putfield 32, 3) := by decide +kernel
theorem dX6_init_59 : decode cX6_init 59 = .ok (.aload_n 0, 1) := by decide +kernel
theorem dX6_init_60 : decode cX6_init 60 = .ok (.new 36, 3) := by decide +kernel
theorem dX6_init_63 : decode cX6_init 63 = .ok (.dup, 1) := by decide +kernel
theorem dX6_init_64 : decode cX6_init 64 = .ok (.invokespecial 38, 3) := by decide +kernel
theorem dX6_init_67 : decode cX6_init 67 = .ok (.putfield 39, 3) := by decide +kernel
theorem dX6_init_70 : decode cX6_init 70 = .ok (.aload_n 0, 1) := by decide +kernel
theorem dX6_init_71 : decode cX6_init 71 = .ok (.new 43, 3) := by decide +kernel
theorem dX6_init_74 : decode cX6_init 74 = .ok (.dup, 1) := by decide +kernel
theorem dX6_init_75 : decode cX6_init 75 = .ok (.invokespecial 45, 3) := by decide +kernel
theorem dX6_init_78 : decode cX6_init 78 = .ok (.putfield 46, 3) := by decide +kernel
theorem dX6_init_81 : decode cX6_init 81 = .ok (.aload_n 0, 1) := by decide +kernel
theorem dX6_init_82 : decode cX6_init 82 = .ok (.new 50, 3) := by decide +kernel
theorem dX6_init_85 : decode cX6_init 85 = .ok (.dup, 1) := by decide +kernel
theorem dX6_init_86 : decode cX6_init 86 = .ok (.invokespecial 52, 3) := by decide +kernel
theorem dX6_init_89 : decode cX6_init 89 = .ok (.putfield 53, 3) := by decide +kernel
theorem dX6_init_92 : decode cX6_init 92 = .ok (.aload_n 0, 1) := by decide +kernel
theorem dX6_init_93 : decode cX6_init 93 = .ok (.new 22, 3) := by decide +kernel
theorem dX6_init_96 : decode cX6_init 96 = .ok (.dup, 1) := by decide +kernel
theorem dX6_init_97 : decode cX6_init 97 = .ok (.invokespecial 24, 3) := by decide +kernel
theorem dX6_init_100 : decode cX6_init 100 = .ok (.putfield 57, 3) := by decide +kernel
theorem dX6_init_103 : decode cX6_init 103 = .ok (.aload_n 0, 1) := by decide +kernel
theorem dX6_init_104 : decode cX6_init 104 = .ok (.new 29, 3) := by decide +kernel
theorem dX6_init_107 : decode cX6_init 107 = .ok (.dup, 1) := by decide +kernel
theorem dX6_init_108 : decode cX6_init 108 = .ok (.invokespecial 31, 3) := by decide +kernel
theorem dX6_init_111 : decode cX6_init 111 = .ok (.putfield 60, 3) := by decide +kernel
theorem dX6_init_114 : decode cX6_init 114 = .ok (.return_, 1) := by decide +kernel
theorem dX6_sellShares_0 : decode cX6_sellShares 0 = .ok (.aload_n 0, 1) := by decide +kernel
theorem dX6_sellShares_1 : decode cX6_sellShares 1 = .ok (.iconst 0, 1) := by decide +kernel
theorem dX6_sellShares_2 : decode cX6_sellShares 2 = .ok (.iload_n 1, 1) := by decide +kernel
theorem dX6_sellShares_3 : decode cX6_sellShares 3 = .ok (.iload_n 2, 1) := by decide +kernel
theorem dX6_sellShares_4 : decode cX6_sellShares 4 = .ok (.iload_n 3, 1) := by decide +kernel
theorem dX6_sellShares_5 : decode cX6_sellShares 5 = .ok (.iload 4, 2) := by decide +kernel
theorem dX6_sellShares_7 : decode cX6_sellShares 7 = .ok (.iload 5, 2) := by decide +kernel
theorem dX6_sellShares_9 : decode cX6_sellShares 9 = .ok (.invokevirtual 63, 3) := by decide +kernel
theorem dX6_sellShares_12 : decode cX6_sellShares 12 = .ok (.ireturn, 1) := by decide +kernel
theorem dX6_sellVotes_0 : decode cX6_sellVotes 0 = .ok (.aload_n 0, 1) := by decide +kernel
theorem dX6_sellVotes_1 : decode cX6_sellVotes 1 = .ok (.iconst 1, 1) := by decide +kernel
theorem dX6_sellVotes_2 : decode cX6_sellVotes 2 = .ok (.iload_n 1, 1) := by decide +kernel
theorem dX6_sellVotes_3 : decode cX6_sellVotes 3 = .ok (.iload_n 2, 1) := by decide +kernel
theorem dX6_sellVotes_4 : decode cX6_sellVotes 4 = .ok (.iload_n 3, 1) := by decide +kernel
theorem dX6_sellVotes_5 : decode cX6_sellVotes 5 = .ok (.iload 4, 2) := by decide +kernel
theorem dX6_sellVotes_7 : decode cX6_sellVotes 7 = .ok (.iload 5, 2) := by decide +kernel
theorem dX6_sellVotes_9 : decode cX6_sellVotes 9 = .ok (.invokevirtual 63, 3) := by decide +kernel
theorem dX6_sellVotes_12 : decode cX6_sellVotes 12 = .ok (.ireturn, 1) := by decide +kernel
theorem dX6_veto_0 : decode cX6_veto 0 = .ok (.iload_n 2, 1) := by decide +kernel
theorem dX6_veto_1 : decode cX6_veto 1 = .ok (.invokestatic 67, 3) := by decide +kernel
theorem dX6_veto_4 : decode cX6_veto 4 = .ok (.ifCond .eq 10, 3) := by decide +kernel
theorem dX6_veto_7 : decode cX6_veto 7 = .ok (.iload_n 3, 1) := by decide +kernel
theorem dX6_veto_8 : decode cX6_veto 8 = .ok (.invokestatic 71, 3) := by decide +kernel
theorem dX6_veto_11 : decode cX6_veto 11 = .ok (.ifCond .ne 5, 3) := by decide +kernel
theorem dX6_veto_14 : decode cX6_veto 14 = .ok (.iconst (-1), 1) := by decide +kernel
theorem dX6_veto_15 : decode cX6_veto 15 = .ok (.ireturn, 1) := by decide +kernel
theorem dX6_veto_16 : decode cX6_veto 16 = .ok (.iload_n 1, 1) := by decide +kernel
theorem dX6_veto_17 : decode cX6_veto 17 = .ok (.invokestatic 74, 3) := by decide +kernel
theorem dX6_veto_20 : decode cX6_veto 20 = .ok (.ifCond .eq 11, 3) := by decide +kernel
theorem dX6_veto_23 : decode cX6_veto 23 = .ok (.iload 4, 2) := by decide +kernel
theorem dX6_veto_25 : decode cX6_veto 25 = .ok (.invokestatic 77, 3) := by decide +kernel
theorem dX6_veto_28 : decode cX6_veto 28 = .ok (.ifCond .ne 6, 3) := by decide +kernel
theorem dX6_veto_31 : decode cX6_veto 31 = .ok (.bipush (-2), 2) := by decide +kernel
theorem dX6_veto_33 : decode cX6_veto 33 = .ok (.ireturn, 1) := by decide +kernel
theorem dX6_veto_34 : decode cX6_veto 34 = .ok (.aload_n 0, 1) := by decide +kernel
theorem dX6_veto_35 : decode cX6_veto 35 = .ok (.iload_n 1, 1) := by decide +kernel
theorem dX6_veto_36 : decode cX6_veto 36 = .ok (.iload 4, 2) := by decide +kernel
theorem dX6_veto_38 : decode cX6_veto 38 = .ok (.iconst 1, 1) := by decide +kernel
theorem dX6_veto_39 : decode cX6_veto 39 = .ok (.if_icmp .ne 7, 3) := by decide +kernel
theorem dX6_veto_42 : decode cX6_veto 42 = .ok (.iconst 2, 1) := by decide +kernel
theorem dX6_veto_43 : decode cX6_veto 43 = .ok (.goto 4, 3) := by decide +kernel
theorem dX6_veto_46 : decode cX6_veto 46 = .ok (.iconst 3, 1) := by decide +kernel
theorem dX6_veto_47 : decode cX6_veto 47 = .ok (.iload_n 3, 1) := by decide +kernel
theorem dX6_veto_48 : decode cX6_veto 48 = .ok (.bipush (-6), 2) := by decide +kernel
theorem dX6_veto_50 : decode cX6_veto 50 = .ok (.iload_n 2, 1) := by decide +kernel
theorem dX6_veto_51 : decode cX6_veto 51 = .ok (.iconst 0, 1) := by decide +kernel
theorem dX6_veto_52 : decode cX6_veto 52 = .ok (.invokevirtual 80, 3) := by decide +kernel
theorem dX6_veto_55 : decode cX6_veto 55 = .ok (.ireturn, 1) := by decide +kernel
theorem dX6_cancel_0 : decode cX6_cancel 0 = .ok (.aload_n 0, 1) := by decide +kernel
theorem dX6_cancel_1 : decode cX6_cancel 1 = .ok (.iload_n 1, 1) := by decide +kernel
theorem dX6_cancel_2 : decode cX6_cancel 2 = .ok (.invokevirtual 83, 3) := by decide +kernel
theorem dX6_cancel_5 : decode cX6_cancel 5 = .ok (.ifCond .ne 5, 3) := by decide +kernel
theorem dX6_cancel_8 : decode cX6_cancel 8 = .ok (.iconst (-1), 1) := by decide +kernel
theorem dX6_cancel_9 : decode cX6_cancel 9 = .ok (.ireturn, 1) := by decide +kernel
theorem dX6_cancel_10 : decode cX6_cancel 10 = .ok (.aload_n 0, 1) := by decide +kernel
theorem dX6_cancel_11 : decode cX6_cancel 11 = .ok (.iload_n 1, 1) := by decide +kernel
theorem dX6_cancel_12 : decode cX6_cancel 12 = .ok (.invokevirtual 86, 3) := by decide +kernel
theorem dX6_cancel_15 : decode cX6_cancel 15 = .ok (.ifCond .ne 6, 3) := by decide +kernel
theorem dX6_cancel_18 : decode cX6_cancel 18 = .ok (.bipush (-5), 2) := by decide +kernel
theorem dX6_cancel_20 : decode cX6_cancel 20 = .ok (.ireturn, 1) := by decide +kernel
theorem dX6_cancel_21 : decode cX6_cancel 21 = .ok (.aload_n 0, 1) := by decide +kernel
theorem dX6_cancel_22 : decode cX6_cancel 22 = .ok (.getfield 12, 3) := by decide +kernel
theorem dX6_cancel_25 : decode cX6_cancel 25 = .ok (.iload_n 1, 1) := by decide +kernel
theorem dX6_cancel_26 : decode cX6_cancel 26 = .ok (.invokevirtual 89, 3) := by decide +kernel
theorem dX6_cancel_29 : decode cX6_cancel 29 = .ok (.aload_n 0, 1) := by decide +kernel
theorem dX6_cancel_30 : decode cX6_cancel 30 = .ok (.invokevirtual 93, 3) := by decide +kernel
theorem dX6_cancel_33 : decode cX6_cancel 33 = .ok (.aload_n 0, 1) := by decide +kernel
theorem dX6_cancel_34 : decode cX6_cancel 34 = .ok (.getfield 12, 3) := by decide +kernel
theorem dX6_cancel_37 : decode cX6_cancel 37 = .ok (.getfield 96, 3) := by decide +kernel
theorem dX6_cancel_40 : decode cX6_cancel 40 = .ok (.ireturn, 1) := by decide +kernel
theorem dX6_told_0 : decode cX6_told 0 = .ok (.aload_n 0, 1) := by decide +kernel
theorem dX6_told_1 : decode cX6_told 1 = .ok (.iload_n 1, 1) := by decide +kernel
theorem dX6_told_2 : decode cX6_told 2 = .ok (.invokevirtual 83, 3) := by decide +kernel
theorem dX6_told_5 : decode cX6_told 5 = .ok (.ifCond .ne 5, 3) := by decide +kernel
theorem dX6_told_8 : decode cX6_told 8 = .ok (.iconst (-1), 1) := by decide +kernel
theorem dX6_told_9 : decode cX6_told 9 = .ok (.ireturn, 1) := by decide +kernel
theorem dX6_told_10 : decode cX6_told 10 = .ok (.iload_n 2, 1) := by decide +kernel
theorem dX6_told_11 : decode cX6_told 11 = .ok (.tableswitch 142 0 7 #[45, 55, 65, 75, 85, 95, 105, 114], 45) := by decide +kernel
theorem dX6_told_56 : decode cX6_told 56 = .ok (.aload_n 0, 1) := by decide +kernel
theorem dX6_told_57 : decode cX6_told 57 = .ok (.getfield 12, 3) := by decide +kernel
theorem dX6_told_60 : decode cX6_told 60 = .ok (.getfield 100, 3) := by decide +kernel
theorem dX6_told_63 : decode cX6_told 63 = .ok (.iload_n 1, 1) := by decide +kernel
theorem dX6_told_64 : decode cX6_told 64 = .ok (.iaload, 1) := by decide +kernel
theorem dX6_told_65 : decode cX6_told 65 = .ok (.ireturn, 1) := by decide +kernel
theorem dX6_told_66 : decode cX6_told 66 = .ok (.aload_n 0, 1) := by decide +kernel
theorem dX6_told_67 : decode cX6_told 67 = .ok (.getfield 12, 3) := by decide +kernel
theorem dX6_told_70 : decode cX6_told 70 = .ok (.getfield 104, 3) := by decide +kernel
theorem dX6_told_73 : decode cX6_told 73 = .ok (.iload_n 1, 1) := by decide +kernel
theorem dX6_told_74 : decode cX6_told 74 = .ok (.iaload, 1) := by decide +kernel
theorem dX6_told_75 : decode cX6_told 75 = .ok (.ireturn, 1) := by decide +kernel
theorem dX6_told_76 : decode cX6_told 76 = .ok (.aload_n 0, 1) := by decide +kernel
theorem dX6_told_77 : decode cX6_told 77 = .ok (.getfield 12, 3) := by decide +kernel
theorem dX6_told_80 : decode cX6_told 80 = .ok (.getfield 107, 3) := by decide +kernel
theorem dX6_told_83 : decode cX6_told 83 = .ok (.iload_n 1, 1) := by decide +kernel
theorem dX6_told_84 : decode cX6_told 84 = .ok (.iaload, 1) := by decide +kernel
theorem dX6_told_85 : decode cX6_told 85 = .ok (.ireturn, 1) := by decide +kernel
theorem dX6_told_86 : decode cX6_told 86 = .ok (.aload_n 0, 1) := by decide +kernel
theorem dX6_told_87 : decode cX6_told 87 = .ok (.getfield 12, 3) := by decide +kernel
theorem dX6_told_90 : decode cX6_told 90 = .ok (.getfield 110, 3) := by decide +kernel
theorem dX6_told_93 : decode cX6_told 93 = .ok (.iload_n 1, 1) := by decide +kernel
theorem dX6_told_94 : decode cX6_told 94 = .ok (.iaload, 1) := by decide +kernel
theorem dX6_told_95 : decode cX6_told 95 = .ok (.ireturn, 1) := by decide +kernel
theorem dX6_told_96 : decode cX6_told 96 = .ok (.aload_n 0, 1) := by decide +kernel
theorem dX6_told_97 : decode cX6_told 97 = .ok (.getfield 12, 3) := by decide +kernel
theorem dX6_told_100 : decode cX6_told 100 = .ok (.getfield 113, 3) := by decide +kernel
theorem dX6_told_103 : decode cX6_told 103 = .ok (.iload_n 1, 1) := by decide +kernel
theorem dX6_told_104 : decode cX6_told 104 = .ok (.iaload, 1) := by decide +kernel
theorem dX6_told_105 : decode cX6_told 105 = .ok (.ireturn, 1) := by decide +kernel
theorem dX6_told_106 : decode cX6_told 106 = .ok (.aload_n 0, 1) := by decide +kernel
theorem dX6_told_107 : decode cX6_told 107 = .ok (.getfield 12, 3) := by decide +kernel
theorem dX6_told_110 : decode cX6_told 110 = .ok (.getfield 116, 3) := by decide +kernel
theorem dX6_told_113 : decode cX6_told 113 = .ok (.iload_n 1, 1) := by decide +kernel
theorem dX6_told_114 : decode cX6_told 114 = .ok (.iaload, 1) := by decide +kernel
theorem dX6_told_115 : decode cX6_told 115 = .ok (.ireturn, 1) := by decide +kernel
theorem dX6_told_116 : decode cX6_told 116 = .ok (.aload_n 0, 1) := by decide +kernel
theorem dX6_told_117 : decode cX6_told 117 = .ok (.getfield 12, 3) := by decide +kernel
theorem dX6_told_120 : decode cX6_told 120 = .ok (.iload_n 1, 1) := by decide +kernel
theorem dX6_told_121 : decode cX6_told 121 = .ok (.invokevirtual 119, 3) := by decide +kernel
theorem dX6_told_124 : decode cX6_told 124 = .ok (.ireturn, 1) := by decide +kernel
theorem dX6_told_125 : decode cX6_told 125 = .ok (.aload_n 0, 1) := by decide +kernel
theorem dX6_told_126 : decode cX6_told 126 = .ok (.getfield 12, 3) := by decide +kernel
theorem dX6_told_129 : decode cX6_told 129 = .ok (.getfield 100, 3) := by decide +kernel
theorem dX6_told_132 : decode cX6_told 132 = .ok (.iload_n 1, 1) := by decide +kernel
theorem dX6_told_133 : decode cX6_told 133 = .ok (.iaload, 1) := by decide +kernel
theorem dX6_told_134 : decode cX6_told 134 = .ok (.aload_n 0, 1) := by decide +kernel
theorem dX6_told_135 : decode cX6_told 135 = .ok (.getfield 12, 3) := by decide +kernel
theorem dX6_told_138 : decode cX6_told 138 = .ok (.getfield 123, 3) := by decide +kernel
theorem dX6_told_141 : decode cX6_told 141 = .ok (.if_icmp .gt 7, 3) := by decide +kernel
theorem dX6_told_144 : decode cX6_told 144 = .ok (.iconst 1, 1) := by decide +kernel
theorem dX6_told_145 : decode cX6_told 145 = .ok (.goto 4, 3) := by decide +kernel
theorem dX6_told_148 : decode cX6_told 148 = .ok (.iconst 0, 1) := by decide +kernel
theorem dX6_told_149 : decode cX6_told 149 = .ok (.invokestatic 126, 3) := by decide +kernel
theorem dX6_told_152 : decode cX6_told 152 = .ok (.ireturn, 1) := by decide +kernel
theorem dX6_told_153 : decode cX6_told 153 = .ok (.bipush (-2), 2) := by decide +kernel
theorem dX6_told_155 : decode cX6_told 155 = .ok (.ireturn, 1) := by decide +kernel
theorem dX6_look_0 : decode cX6_look 0 = .ok (.iload_n 1, 1) := by decide +kernel
theorem dX6_look_1 : decode cX6_look 1 = .ok (.invokestatic 74, 3) := by decide +kernel
theorem dX6_look_4 : decode cX6_look 4 = .ok (.ifCond .ne 6, 3) := by decide +kernel
theorem dX6_look_7 : decode cX6_look 7 = .ok (.bipush (-2), 2) := by decide +kernel
theorem dX6_look_9 : decode cX6_look 9 = .ok (.ireturn, 1) := by decide +kernel
theorem dX6_look_10 : decode cX6_look 10 = .ok (.aload_n 0, 1) := by decide +kernel
theorem dX6_look_11 : decode cX6_look 11 = .ok (.getfield 12, 3) := by decide +kernel
theorem dX6_look_14 : decode cX6_look 14 = .ok (.getfield 123, 3) := by decide +kernel
theorem dX6_look_17 : decode cX6_look 17 = .ok (.istore_n 2, 1) := by decide +kernel
theorem dX6_look_18 : decode cX6_look 18 = .ok (.aload_n 0, 1) := by decide +kernel
theorem dX6_look_19 : decode cX6_look 19 = .ok (.getfield 12, 3) := by decide +kernel
theorem dX6_look_22 : decode cX6_look 22 = .ok (.iload_n 1, 1) := by decide +kernel
theorem dX6_look_23 : decode cX6_look 23 = .ok (.putfield 123, 3) := by decide +kernel
theorem dX6_look_26 : decode cX6_look 26 = .ok (.aload_n 0, 1) := by decide +kernel
theorem dX6_look_27 : decode cX6_look 27 = .ok (.iconst 0, 1) := by decide +kernel
theorem dX6_look_28 : decode cX6_look 28 = .ok (.putfield 130, 3) := by decide +kernel
theorem dX6_look_31 : decode cX6_look 31 = .ok (.iload_n 2, 1) := by decide +kernel
theorem dX6_look_32 : decode cX6_look 32 = .ok (.ireturn, 1) := by decide +kernel
theorem dX6_rule_0 : decode cX6_rule 0 = .ok (.iload_n 1, 1) := by decide +kernel
theorem dX6_rule_1 : decode cX6_rule 1 = .ok (.ifCond .lt 19, 3) := by decide +kernel
theorem dX6_rule_4 : decode cX6_rule 4 = .ok (.iload_n 1, 1) := by decide +kernel
theorem dX6_rule_5 : decode cX6_rule 5 = .ok (.iconst 2, 1) := by decide +kernel
theorem dX6_rule_6 : decode cX6_rule 6 = .ok (.if_icmp .gt 14, 3) := by decide +kernel
theorem dX6_rule_9 : decode cX6_rule 9 = .ok (.iload_n 2, 1) := by decide +kernel
theorem dX6_rule_10 : decode cX6_rule 10 = .ok (.iconst 1, 1) := by decide +kernel
theorem dX6_rule_11 : decode cX6_rule 11 = .ok (.if_icmp .lt 9, 3) := by decide +kernel
theorem dX6_rule_14 : decode cX6_rule 14 = .ok (.iload_n 2, 1) := by decide +kernel
theorem dX6_rule_15 : decode cX6_rule 15 = .ok (.bipush 100, 2) := by decide +kernel
theorem dX6_rule_17 : decode cX6_rule 17 = .ok (.if_icmp .lt 6, 3) := by decide +kernel
theorem dX6_rule_20 : decode cX6_rule 20 = .ok (.bipush (-2), 2) := by decide +kernel
theorem dX6_rule_22 : decode cX6_rule 22 = .ok (.ireturn, 1) := by decide +kernel
theorem dX6_rule_23 : decode cX6_rule 23 = .ok (.iload_n 1, 1) := by decide +kernel
theorem dX6_rule_24 : decode cX6_rule 24 = .ok (.ifCond .ne 22, 3) := by decide +kernel
theorem dX6_rule_27 : decode cX6_rule 27 = .ok (.aload_n 0, 1) := by decide +kernel
theorem dX6_rule_28 : decode cX6_rule 28 = .ok (.getfield 12, 3) := by decide +kernel
theorem dX6_rule_31 : decode cX6_rule 31 = .ok (.getfield 134, 3) := by decide +kernel
theorem dX6_rule_34 : decode cX6_rule 34 = .ok (.istore_n 3, 1) := by decide +kernel
theorem dX6_rule_35 : decode cX6_rule 35 = .ok (.aload_n 0, 1) := by decide +kernel
theorem dX6_rule_36 : decode cX6_rule 36 = .ok (.getfield 12, 3) := by decide +kernel
theorem dX6_rule_39 : decode cX6_rule 39 = .ok (.iload_n 2, 1) := by decide +kernel
theorem dX6_rule_40 : decode cX6_rule 40 = .ok (.putfield 134, 3) := by decide +kernel
theorem dX6_rule_43 : decode cX6_rule 43 = .ok (.goto 43, 3) := by decide +kernel
theorem dX6_rule_46 : decode cX6_rule 46 = .ok (.iload_n 1, 1) := by decide +kernel
theorem dX6_rule_47 : decode cX6_rule 47 = .ok (.iconst 1, 1) := by decide +kernel
theorem dX6_rule_48 : decode cX6_rule 48 = .ok (.if_icmp .ne 22, 3) := by decide +kernel
theorem dX6_rule_51 : decode cX6_rule 51 = .ok (.aload_n 0, 1) := by decide +kernel
theorem dX6_rule_52 : decode cX6_rule 52 = .ok (.getfield 12, 3) := by decide +kernel
theorem dX6_rule_55 : decode cX6_rule 55 = .ok (.getfield 137, 3) := by decide +kernel
theorem dX6_rule_58 : decode cX6_rule 58 = .ok (.istore_n 3, 1) := by decide +kernel
theorem dX6_rule_59 : decode cX6_rule 59 = .ok (.aload_n 0, 1) := by decide +kernel
theorem dX6_rule_60 : decode cX6_rule 60 = .ok (.getfield 12, 3) := by decide +kernel
theorem dX6_rule_63 : decode cX6_rule 63 = .ok (.iload_n 2, 1) := by decide +kernel
theorem dX6_rule_64 : decode cX6_rule 64 = .ok (.putfield 137, 3) := by decide +kernel
theorem dX6_rule_67 : decode cX6_rule 67 = .ok (.goto 19, 3) := by decide +kernel
theorem dX6_rule_70 : decode cX6_rule 70 = .ok (.aload_n 0, 1) := by decide +kernel
theorem dX6_rule_71 : decode cX6_rule 71 = .ok (.getfield 12, 3) := by decide +kernel
theorem dX6_rule_74 : decode cX6_rule 74 = .ok (.getfield 140, 3) := by decide +kernel
theorem dX6_rule_77 : decode cX6_rule 77 = .ok (.istore_n 3, 1) := by decide +kernel
theorem dX6_rule_78 : decode cX6_rule 78 = .ok (.aload_n 0, 1) := by decide +kernel
theorem dX6_rule_79 : decode cX6_rule 79 = .ok (.getfield 12, 3) := by decide +kernel
theorem dX6_rule_82 : decode cX6_rule 82 = .ok (.iload_n 2, 1) := by decide +kernel
theorem dX6_rule_83 : decode cX6_rule 83 = .ok (.putfield 140, 3) := by decide +kernel
theorem dX6_rule_86 : decode cX6_rule 86 = .ok (.aload_n 0, 1) := by decide +kernel
theorem dX6_rule_87 : decode cX6_rule 87 = .ok (.invokevirtual 93, 3) := by decide +kernel
theorem dX6_rule_90 : decode cX6_rule 90 = .ok (.iload_n 3, 1) := by decide +kernel
theorem dX6_rule_91 : decode cX6_rule 91 = .ok (.ireturn, 1) := by decide +kernel
theorem dX6_holds_0 : decode cX6_holds 0 = .ok (.iload_n 1, 1) := by decide +kernel
theorem dX6_holds_1 : decode cX6_holds 1 = .ok (.invokestatic 143, 3) := by decide +kernel
theorem dX6_holds_4 : decode cX6_holds 4 = .ok (.ifCond .eq 10, 3) := by decide +kernel
theorem dX6_holds_7 : decode cX6_holds 7 = .ok (.iload_n 2, 1) := by decide +kernel
theorem dX6_holds_8 : decode cX6_holds 8 = .ok (.invokestatic 71, 3) := by decide +kernel
theorem dX6_holds_11 : decode cX6_holds 11 = .ok (.ifCond .ne 5, 3) := by decide +kernel
theorem dX6_holds_14 : decode cX6_holds 14 = .ok (.iconst (-1), 1) := by decide +kernel
theorem dX6_holds_15 : decode cX6_holds 15 = .ok (.ireturn, 1) := by decide +kernel
theorem dX6_holds_16 : decode cX6_holds 16 = .ok (.aload_n 0, 1) := by decide +kernel
theorem dX6_holds_17 : decode cX6_holds 17 = .ok (.invokevirtual 146, 3) := by decide +kernel
theorem dX6_holds_20 : decode cX6_holds 20 = .ok (.iload_n 3, 1) := by decide +kernel
theorem dX6_holds_21 : decode cX6_holds 21 = .ok (.tableswitch 68 0 2 #[27, 39, 51], 27) := by decide +kernel
theorem dX6_holds_48 : decode cX6_holds 48 = .ok (.aload_n 0, 1) := by decide +kernel
theorem dX6_holds_49 : decode cX6_holds 49 = .ok (.getfield 25, 3) := by decide +kernel
theorem dX6_holds_52 : decode cX6_holds 52 = .ok (.getfield 149, 3) := by decide +kernel
theorem dX6_holds_55 : decode cX6_holds 55 = .ok (.iload_n 2, 1) := by decide +kernel
theorem dX6_holds_56 : decode cX6_holds 56 = .ok (.aaload, 1) := by decide +kernel
theorem dX6_holds_57 : decode cX6_holds 57 = .ok (.iload_n 1, 1) := by decide +kernel
theorem dX6_holds_58 : decode cX6_holds 58 = .ok (.iaload, 1) := by decide +kernel
theorem dX6_holds_59 : decode cX6_holds 59 = .ok (.ireturn, 1) := by decide +kernel
theorem dX6_holds_60 : decode cX6_holds 60 = .ok (.aload_n 0, 1) := by decide +kernel
theorem dX6_holds_61 : decode cX6_holds 61 = .ok (.getfield 25, 3) := by decide +kernel
theorem dX6_holds_64 : decode cX6_holds 64 = .ok (.getfield 153, 3) := by decide +kernel
theorem dX6_holds_67 : decode cX6_holds 67 = .ok (.iload_n 2, 1) := by decide +kernel
theorem dX6_holds_68 : decode cX6_holds 68 = .ok (.aaload, 1) := by decide +kernel
theorem dX6_holds_69 : decode cX6_holds 69 = .ok (.iload_n 1, 1) := by decide +kernel
theorem dX6_holds_70 : decode cX6_holds 70 = .ok (.iaload, 1) := by decide +kernel
theorem dX6_holds_71 : decode cX6_holds 71 = .ok (.ireturn, 1) := by decide +kernel
theorem dX6_holds_72 : decode cX6_holds 72 = .ok (.aload_n 0, 1) := by decide +kernel
theorem dX6_holds_73 : decode cX6_holds 73 = .ok (.getfield 25, 3) := by decide +kernel
theorem dX6_holds_76 : decode cX6_holds 76 = .ok (.getfield 156, 3) := by decide +kernel
theorem dX6_holds_79 : decode cX6_holds 79 = .ok (.iload_n 2, 1) := by decide +kernel
theorem dX6_holds_80 : decode cX6_holds 80 = .ok (.iaload, 1) := by decide +kernel
theorem dX6_holds_81 : decode cX6_holds 81 = .ok (.iload_n 1, 1) := by decide +kernel
theorem dX6_holds_82 : decode cX6_holds 82 = .ok (.invokestatic 159, 3) := by decide +kernel
theorem dX6_holds_85 : decode cX6_holds 85 = .ok (.invokestatic 126, 3) := by decide +kernel
theorem dX6_holds_88 : decode cX6_holds 88 = .ok (.ireturn, 1) := by decide +kernel
theorem dX6_holds_89 : decode cX6_holds 89 = .ok (.bipush (-2), 2) := by decide +kernel
theorem dX6_holds_91 : decode cX6_holds 91 = .ok (.ireturn, 1) := by decide +kernel
theorem dX6_controls_0 : decode cX6_controls 0 = .ok (.iload_n 1, 1) := by decide +kernel
theorem dX6_controls_1 : decode cX6_controls 1 = .ok (.invokestatic 67, 3) := by decide +kernel
theorem dX6_controls_4 : decode cX6_controls 4 = .ok (.ifCond .ne 5, 3) := by decide +kernel
theorem dX6_controls_7 : decode cX6_controls 7 = .ok (.iconst (-1), 1) := by decide +kernel
theorem dX6_controls_8 : decode cX6_controls 8 = .ok (.ireturn, 1) := by decide +kernel
theorem dX6_controls_9 : decode cX6_controls 9 = .ok (.aload_n 0, 1) := by decide +kernel
theorem dX6_controls_10 : decode cX6_controls 10 = .ok (.invokevirtual 146, 3) := by decide +kernel
theorem dX6_controls_13 : decode cX6_controls 13 = .ok (.aload_n 0, 1) := by decide +kernel
theorem dX6_controls_14 : decode cX6_controls 14 = .ok (.getfield 32, 3) := by decide +kernel
theorem dX6_controls_17 : decode cX6_controls 17 = .ok (.getfield 163, 3) := by decide +kernel
theorem dX6_controls_20 : decode cX6_controls 20 = .ok (.iload_n 1, 1) := by decide +kernel
theorem dX6_controls_21 : decode cX6_controls 21 = .ok (.iaload, 1) := by decide +kernel
theorem dX6_controls_22 : decode cX6_controls 22 = .ok (.ireturn, 1) := by decide +kernel
theorem dX6_how_0 : decode cX6_how 0 = .ok (.iload_n 1, 1) := by decide +kernel
theorem dX6_how_1 : decode cX6_how 1 = .ok (.invokestatic 67, 3) := by decide +kernel
theorem dX6_how_4 : decode cX6_how 4 = .ok (.ifCond .eq 10, 3) := by decide +kernel
theorem dX6_how_7 : decode cX6_how 7 = .ok (.iload_n 2, 1) := by decide +kernel
theorem dX6_how_8 : decode cX6_how 8 = .ok (.invokestatic 71, 3) := by decide +kernel
theorem dX6_how_11 : decode cX6_how 11 = .ok (.ifCond .ne 5, 3) := by decide +kernel
theorem dX6_how_14 : decode cX6_how 14 = .ok (.iconst (-1), 1) := by decide +kernel
theorem dX6_how_15 : decode cX6_how 15 = .ok (.ireturn, 1) := by decide +kernel
theorem dX6_how_16 : decode cX6_how 16 = .ok (.aload_n 0, 1) := by decide +kernel
theorem dX6_how_17 : decode cX6_how 17 = .ok (.invokevirtual 146, 3) := by decide +kernel
theorem dX6_how_20 : decode cX6_how 20 = .ok (.iload_n 3, 1) := by decide +kernel
theorem dX6_how_21 : decode cX6_how 21 = .ok (.tableswitch 97 0 4 #[35, 42, 54, 61, 79], 35) := by decide +kernel
theorem dX6_how_56 : decode cX6_how 56 = .ok (.aload_n 0, 1) := by decide +kernel
theorem dX6_how_57 : decode cX6_how 57 = .ok (.iload_n 1, 1) := by decide +kernel
theorem dX6_how_58 : decode cX6_how 58 = .ok (.iload_n 2, 1) := by decide +kernel
theorem dX6_how_59 : decode cX6_how 59 = .ok (.invokevirtual 166, 3) := by decide +kernel
theorem dX6_how_62 : decode cX6_how 62 = .ok (.ireturn, 1) := by decide +kernel
theorem dX6_how_63 : decode cX6_how 63 = .ok (.aload_n 0, 1) := by decide +kernel
theorem dX6_how_64 : decode cX6_how 64 = .ok (.getfield 32, 3) := by decide +kernel
theorem dX6_how_67 : decode cX6_how 67 = .ok (.getfield 170, 3) := by decide +kernel
theorem dX6_how_70 : decode cX6_how 70 = .ok (.iload_n 1, 1) := by decide +kernel
theorem dX6_how_71 : decode cX6_how 71 = .ok (.aaload, 1) := by decide +kernel
theorem dX6_how_72 : decode cX6_how 72 = .ok (.iload_n 2, 1) := by decide +kernel
theorem dX6_how_73 : decode cX6_how 73 = .ok (.iaload, 1) := by decide +kernel
theorem dX6_how_74 : decode cX6_how 74 = .ok (.ireturn, 1) := by decide +kernel
theorem dX6_how_75 : decode cX6_how 75 = .ok (.aload_n 0, 1) := by decide +kernel
theorem dX6_how_76 : decode cX6_how 76 = .ok (.iload_n 1, 1) := by decide +kernel
theorem dX6_how_77 : decode cX6_how 77 = .ok (.iload_n 2, 1) := by decide +kernel
theorem dX6_how_78 : decode cX6_how 78 = .ok (.invokevirtual 173, 3) := by decide +kernel
theorem dX6_how_81 : decode cX6_how 81 = .ok (.ireturn, 1) := by decide +kernel
theorem dX6_how_82 : decode cX6_how 82 = .ok (.aload_n 0, 1) := by decide +kernel
theorem dX6_how_83 : decode cX6_how 83 = .ok (.getfield 32, 3) := by decide +kernel
theorem dX6_how_86 : decode cX6_how 86 = .ok (.iload_n 1, 1) := by decide +kernel
theorem dX6_how_87 : decode cX6_how 87 = .ok (.iload_n 2, 1) := by decide +kernel
theorem dX6_how_88 : decode cX6_how 88 = .ok (.aload_n 0, 1) := by decide +kernel
theorem dX6_how_89 : decode cX6_how 89 = .ok (.getfield 25, 3) := by decide +kernel
theorem dX6_how_92 : decode cX6_how 92 = .ok (.aload_n 0, 1) := by decide +kernel
theorem dX6_how_93 : decode cX6_how 93 = .ok (.getfield 12, 3) := by decide +kernel
theorem dX6_how_96 : decode cX6_how 96 = .ok (.invokevirtual 176, 3) := by decide +kernel
theorem dX6_how_99 : decode cX6_how 99 = .ok (.ireturn, 1) := by decide +kernel
theorem dX6_how_100 : decode cX6_how 100 = .ok (.aload_n 0, 1) := by decide +kernel
theorem dX6_how_101 : decode cX6_how 101 = .ok (.getfield 32, 3) := by decide +kernel
theorem dX6_how_104 : decode cX6_how 104 = .ok (.iload_n 1, 1) := by decide +kernel
theorem dX6_how_105 : decode cX6_how 105 = .ok (.iload_n 2, 1) := by decide +kernel
theorem dX6_how_106 : decode cX6_how 106 = .ok (.aload_n 0, 1) := by decide +kernel
theorem dX6_how_107 : decode cX6_how 107 = .ok (.getfield 25, 3) := by decide +kernel
theorem dX6_how_110 : decode cX6_how 110 = .ok (.aload_n 0, 1) := by decide +kernel
theorem dX6_how_111 : decode cX6_how 111 = .ok (.getfield 12, 3) := by decide +kernel
theorem dX6_how_114 : decode cX6_how 114 = .ok (.invokevirtual 180, 3) := by decide +kernel
theorem dX6_how_117 : decode cX6_how 117 = .ok (.ireturn, 1) := by decide +kernel
theorem dX6_how_118 : decode cX6_how 118 = .ok (.bipush (-2), 2) := by decide +kernel
theorem dX6_how_120 : decode cX6_how 120 = .ok (.ireturn, 1) := by decide +kernel
theorem dX6_above_0 : decode cX6_above 0 = .ok (.iload_n 1, 1) := by decide +kernel
theorem dX6_above_1 : decode cX6_above 1 = .ok (.invokestatic 71, 3) := by decide +kernel
theorem dX6_above_4 : decode cX6_above 4 = .ok (.ifCond .ne 5, 3) := by decide +kernel
theorem dX6_above_7 : decode cX6_above 7 = .ok (.iconst (-1), 1) := by decide +kernel
theorem dX6_above_8 : decode cX6_above 8 = .ok (.ireturn, 1) := by decide +kernel
theorem dX6_above_9 : decode cX6_above 9 = .ok (.aload_n 0, 1) := by decide +kernel
theorem dX6_above_10 : decode cX6_above 10 = .ok (.invokevirtual 146, 3) := by decide +kernel
theorem dX6_above_13 : decode cX6_above 13 = .ok (.iload_n 2, 1) := by decide +kernel
theorem dX6_above_14 : decode cX6_above 14 = .ok (.tableswitch 82 0 3 #[30, 41, 52, 62], 30) := by decide +kernel
theorem dX6_above_44 : decode cX6_above 44 = .ok (.aload_n 0, 1) := by decide +kernel
theorem dX6_above_45 : decode cX6_above 45 = .ok (.getfield 32, 3) := by decide +kernel
theorem dX6_above_48 : decode cX6_above 48 = .ok (.iload_n 1, 1) := by decide +kernel
theorem dX6_above_49 : decode cX6_above 49 = .ok (.iconst 0, 1) := by decide +kernel
theorem dX6_above_50 : decode cX6_above 50 = .ok (.iconst 4, 1) := by decide +kernel
theorem dX6_above_51 : decode cX6_above 51 = .ok (.invokevirtual 183, 3) := by decide +kernel
theorem dX6_above_54 : decode cX6_above 54 = .ok (.ireturn, 1) := by decide +kernel
theorem dX6_above_55 : decode cX6_above 55 = .ok (.aload_n 0, 1) := by decide +kernel
theorem dX6_above_56 : decode cX6_above 56 = .ok (.getfield 32, 3) := by decide +kernel
theorem dX6_above_59 : decode cX6_above 59 = .ok (.iload_n 1, 1) := by decide +kernel
theorem dX6_above_60 : decode cX6_above 60 = .ok (.iconst 4, 1) := by decide +kernel
theorem dX6_above_61 : decode cX6_above 61 = .ok (.iconst 5, 1) := by decide +kernel
theorem dX6_above_62 : decode cX6_above 62 = .ok (.invokevirtual 183, 3) := by decide +kernel
theorem dX6_above_65 : decode cX6_above 65 = .ok (.ireturn, 1) := by decide +kernel
theorem dX6_above_66 : decode cX6_above 66 = .ok (.aload_n 0, 1) := by decide +kernel
theorem dX6_above_67 : decode cX6_above 67 = .ok (.getfield 25, 3) := by decide +kernel
theorem dX6_above_70 : decode cX6_above 70 = .ok (.getfield 156, 3) := by decide +kernel
theorem dX6_above_73 : decode cX6_above 73 = .ok (.iload_n 1, 1) := by decide +kernel
theorem dX6_above_74 : decode cX6_above 74 = .ok (.iaload, 1) := by decide +kernel
theorem dX6_above_75 : decode cX6_above 75 = .ok (.ireturn, 1) := by decide +kernel
theorem dX6_above_76 : decode cX6_above 76 = .ok (.aload_n 0, 1) := by decide +kernel
theorem dX6_above_77 : decode cX6_above 77 = .ok (.getfield 32, 3) := by decide +kernel
theorem dX6_above_80 : decode cX6_above 80 = .ok (.getfield 163, 3) := by decide +kernel
theorem dX6_above_83 : decode cX6_above 83 = .ok (.iload_n 1, 1) := by decide +kernel
theorem dX6_above_84 : decode cX6_above 84 = .ok (.invokestatic 187, 3) := by decide +kernel
theorem dX6_above_87 : decode cX6_above 87 = .ok (.iaload, 1) := by decide +kernel
theorem dX6_above_88 : decode cX6_above 88 = .ok (.iload_n 1, 1) := by decide +kernel
theorem dX6_above_89 : decode cX6_above 89 = .ok (.invokestatic 159, 3) := by decide +kernel
theorem dX6_above_92 : decode cX6_above 92 = .ok (.invokestatic 126, 3) := by decide +kernel
theorem dX6_above_95 : decode cX6_above 95 = .ok (.ireturn, 1) := by decide +kernel
theorem dX6_above_96 : decode cX6_above 96 = .ok (.bipush (-2), 2) := by decide +kernel
theorem dX6_above_98 : decode cX6_above 98 = .ok (.ireturn, 1) := by decide +kernel
theorem dX6_when_0 : decode cX6_when 0 = .ok (.iload_n 1, 1) := by decide +kernel
theorem dX6_when_1 : decode cX6_when 1 = .ok (.invokestatic 67, 3) := by decide +kernel
theorem dX6_when_4 : decode cX6_when 4 = .ok (.ifCond .eq 10, 3) := by decide +kernel
theorem dX6_when_7 : decode cX6_when 7 = .ok (.iload_n 2, 1) := by decide +kernel
theorem dX6_when_8 : decode cX6_when 8 = .ok (.invokestatic 71, 3) := by decide +kernel
theorem dX6_when_11 : decode cX6_when 11 = .ok (.ifCond .ne 5, 3) := by decide +kernel
theorem dX6_when_14 : decode cX6_when 14 = .ok (.iconst (-1), 1) := by decide +kernel
theorem dX6_when_15 : decode cX6_when 15 = .ok (.ireturn, 1) := by decide +kernel
theorem dX6_when_16 : decode cX6_when 16 = .ok (.iload_n 3, 1) := by decide +kernel
theorem dX6_when_17 : decode cX6_when 17 = .ok (.invokestatic 77, 3) := by decide +kernel
theorem dX6_when_20 : decode cX6_when 20 = .ok (.ifCond .ne 6, 3) := by decide +kernel
theorem dX6_when_23 : decode cX6_when 23 = .ok (.bipush (-2), 2) := by decide +kernel
theorem dX6_when_25 : decode cX6_when 25 = .ok (.ireturn, 1) := by decide +kernel
theorem dX6_when_26 : decode cX6_when 26 = .ok (.aload_n 0, 1) := by decide +kernel
theorem dX6_when_27 : decode cX6_when 27 = .ok (.invokevirtual 190, 3) := by decide +kernel
theorem dX6_when_30 : decode cX6_when 30 = .ok (.aload_n 0, 1) := by decide +kernel
theorem dX6_when_31 : decode cX6_when 31 = .ok (.getfield 53, 3) := by decide +kernel
theorem dX6_when_34 : decode cX6_when 34 = .ok (.aload_n 0, 1) := by decide +kernel
theorem dX6_when_35 : decode cX6_when 35 = .ok (.getfield 12, 3) := by decide +kernel
theorem dX6_when_38 : decode cX6_when 38 = .ok (.getfield 123, 3) := by decide +kernel
theorem dX6_when_41 : decode cX6_when 41 = .ok (.iload_n 1, 1) := by decide +kernel
theorem dX6_when_42 : decode cX6_when 42 = .ok (.iload_n 2, 1) := by decide +kernel
theorem dX6_when_43 : decode cX6_when 43 = .ok (.iload_n 3, 1) := by decide +kernel
theorem dX6_when_44 : decode cX6_when 44 = .ok (.iconst 1, 1) := by decide +kernel
theorem dX6_when_45 : decode cX6_when 45 = .ok (.if_icmp .ne 7, 3) := by decide +kernel
theorem dX6_when_48 : decode cX6_when 48 = .ok (.iconst 1, 1) := by decide +kernel
theorem dX6_when_49 : decode cX6_when 49 = .ok (.goto 4, 3) := by decide +kernel
theorem dX6_when_52 : decode cX6_when 52 = .ok (.iconst 0, 1) := by decide +kernel
theorem dX6_when_53 : decode cX6_when 53 = .ok (.invokevirtual 193, 3) := by decide +kernel
theorem dX6_when_56 : decode cX6_when 56 = .ok (.ireturn, 1) := by decide +kernel
theorem dX6_fewest_0 : decode cX6_fewest 0 = .ok (.iload_n 1, 1) := by decide +kernel
theorem dX6_fewest_1 : decode cX6_fewest 1 = .ok (.invokestatic 67, 3) := by decide +kernel
theorem dX6_fewest_4 : decode cX6_fewest 4 = .ok (.ifCond .eq 10, 3) := by decide +kernel
theorem dX6_fewest_7 : decode cX6_fewest 7 = .ok (.iload_n 2, 1) := by decide +kernel
theorem dX6_fewest_8 : decode cX6_fewest 8 = .ok (.invokestatic 71, 3) := by decide +kernel
theorem dX6_fewest_11 : decode cX6_fewest 11 = .ok (.ifCond .ne 5, 3) := by decide +kernel
theorem dX6_fewest_14 : decode cX6_fewest 14 = .ok (.iconst (-1), 1) := by decide +kernel
theorem dX6_fewest_15 : decode cX6_fewest 15 = .ok (.ireturn, 1) := by decide +kernel
theorem dX6_fewest_16 : decode cX6_fewest 16 = .ok (.iload_n 3, 1) := by decide +kernel
theorem dX6_fewest_17 : decode cX6_fewest 17 = .ok (.invokestatic 77, 3) := by decide +kernel
theorem dX6_fewest_20 : decode cX6_fewest 20 = .ok (.ifCond .ne 6, 3) := by decide +kernel
theorem dX6_fewest_23 : decode cX6_fewest 23 = .ok (.bipush (-2), 2) := by decide +kernel
theorem dX6_fewest_25 : decode cX6_fewest 25 = .ok (.ireturn, 1) := by decide +kernel
theorem dX6_fewest_26 : decode cX6_fewest 26 = .ok (.aload_n 0, 1) := by decide +kernel
theorem dX6_fewest_27 : decode cX6_fewest 27 = .ok (.invokevirtual 146, 3) := by decide +kernel
theorem dX6_fewest_30 : decode cX6_fewest 30 = .ok (.iload_n 3, 1) := by decide +kernel
theorem dX6_fewest_31 : decode cX6_fewest 31 = .ok (.ifCond .ne 12, 3) := by decide +kernel
theorem dX6_fewest_34 : decode cX6_fewest 34 = .ok (.aload_n 0, 1) := by decide +kernel
theorem dX6_fewest_35 : decode cX6_fewest 35 = .ok (.iload_n 1, 1) := by decide +kernel
theorem dX6_fewest_36 : decode cX6_fewest 36 = .ok (.iload_n 2, 1) := by decide +kernel
theorem dX6_fewest_37 : decode cX6_fewest 37 = .ok (.invokevirtual 197, 3) := by decide +kernel
theorem dX6_fewest_40 : decode cX6_fewest 40 = .ok (.goto 9, 3) := by decide +kernel
theorem dX6_fewest_43 : decode cX6_fewest 43 = .ok (.aload_n 0, 1) := by decide +kernel
theorem dX6_fewest_44 : decode cX6_fewest 44 = .ok (.iload_n 1, 1) := by decide +kernel
theorem dX6_fewest_45 : decode cX6_fewest 45 = .ok (.iload_n 2, 1) := by decide +kernel
theorem dX6_fewest_46 : decode cX6_fewest 46 = .ok (.invokevirtual 200, 3) := by decide +kernel
theorem dX6_fewest_49 : decode cX6_fewest 49 = .ok (.ireturn, 1) := by decide +kernel
theorem dX6_event_0 : decode cX6_event 0 = .ok (.iload_n 2, 1) := by decide +kernel
theorem dX6_event_1 : decode cX6_event 1 = .ok (.ifCond .lt 8, 3) := by decide +kernel
theorem dX6_event_4 : decode cX6_event 4 = .ok (.iload_n 2, 1) := by decide +kernel
theorem dX6_event_5 : decode cX6_event 5 = .ok (.iconst 3, 1) := by decide +kernel
theorem dX6_event_6 : decode cX6_event 6 = .ok (.if_icmp .le 6, 3) := by decide +kernel
theorem dX6_event_9 : decode cX6_event 9 = .ok (.bipush (-2), 2) := by decide +kernel
theorem dX6_event_11 : decode cX6_event 11 = .ok (.ireturn, 1) := by decide +kernel
theorem dX6_event_12 : decode cX6_event 12 = .ok (.aload_n 0, 1) := by decide +kernel
theorem dX6_event_13 : decode cX6_event 13 = .ok (.invokevirtual 190, 3) := by decide +kernel
theorem dX6_event_16 : decode cX6_event 16 = .ok (.aload_n 0, 1) := by decide +kernel
theorem dX6_event_17 : decode cX6_event 17 = .ok (.getfield 53, 3) := by decide +kernel
theorem dX6_event_20 : decode cX6_event 20 = .ok (.iload_n 1, 1) := by decide +kernel
theorem dX6_event_21 : decode cX6_event 21 = .ok (.iload_n 2, 1) := by decide +kernel
theorem dX6_event_22 : decode cX6_event 22 = .ok (.invokevirtual 203, 3) := by decide +kernel
theorem dX6_event_25 : decode cX6_event 25 = .ok (.ireturn, 1) := by decide +kernel
theorem dX6_stake_0 : decode cX6_stake 0 = .ok (.iload_n 1, 1) := by decide +kernel
theorem dX6_stake_1 : decode cX6_stake 1 = .ok (.invokestatic 206, 3) := by decide +kernel
theorem dX6_stake_4 : decode cX6_stake 4 = .ok (.ifCond .ne 9, 3) := by decide +kernel
theorem dX6_stake_7 : decode cX6_stake 7 = .ok (.iload_n 1, 1) := by decide +kernel
theorem dX6_stake_8 : decode cX6_stake 8 = .ok (.bipush 9, 2) := by decide +kernel
theorem dX6_stake_10 : decode cX6_stake 10 = .ok (.if_icmp .ne 10, 3) := by decide +kernel
theorem dX6_stake_13 : decode cX6_stake 13 = .ok (.iload_n 2, 1) := by decide +kernel
theorem dX6_stake_14 : decode cX6_stake 14 = .ok (.invokestatic 71, 3) := by decide +kernel
theorem dX6_stake_17 : decode cX6_stake 17 = .ok (.ifCond .ne 7, 3) := by decide +kernel
theorem dX6_stake_20 : decode cX6_stake 20 = .ok (.ldc2_w 209, 3) := by decide +kernel
theorem dX6_stake_23 : decode cX6_stake 23 = .ok (.lreturn, 1) := by decide +kernel
theorem dX6_stake_24 : decode cX6_stake 24 = .ok (.iload_n 3, 1) := by decide +kernel
theorem dX6_stake_25 : decode cX6_stake 25 = .ok (.invokestatic 77, 3) := by decide +kernel
theorem dX6_stake_28 : decode cX6_stake 28 = .ok (.ifCond .ne 7, 3) := by decide +kernel
theorem dX6_stake_31 : decode cX6_stake 31 = .ok (.ldc2_w 211, 3) := by decide +kernel
theorem dX6_stake_34 : decode cX6_stake 34 = .ok (.lreturn, 1) := by decide +kernel
theorem dX6_stake_35 : decode cX6_stake 35 = .ok (.aload_n 0, 1) := by decide +kernel
theorem dX6_stake_36 : decode cX6_stake 36 = .ok (.invokevirtual 146, 3) := by decide +kernel
theorem dX6_stake_39 : decode cX6_stake 39 = .ok (.iload_n 1, 1) := by decide +kernel
theorem dX6_stake_40 : decode cX6_stake 40 = .ok (.bipush 9, 2) := by decide +kernel
theorem dX6_stake_42 : decode cX6_stake 42 = .ok (.if_icmp .ne 7, 3) := by decide +kernel
theorem dX6_stake_45 : decode cX6_stake 45 = .ok (.iconst 4, 1) := by decide +kernel
theorem dX6_stake_46 : decode cX6_stake 46 = .ok (.goto 4, 3) := by decide +kernel
theorem dX6_stake_49 : decode cX6_stake 49 = .ok (.iload_n 1, 1) := by decide +kernel
theorem dX6_stake_50 : decode cX6_stake 50 = .ok (.istore 4, 2) := by decide +kernel
theorem dX6_stake_52 : decode cX6_stake 52 = .ok (.aload_n 0, 1) := by decide +kernel
theorem dX6_stake_53 : decode cX6_stake 53 = .ok (.getfield 39, 3) := by decide +kernel
theorem dX6_stake_56 : decode cX6_stake 56 = .ok (.iload_n 2, 1) := by decide +kernel
theorem dX6_stake_57 : decode cX6_stake 57 = .ok (.iload 4, 2) := by decide +kernel
theorem dX6_stake_59 : decode cX6_stake 59 = .ok (.invokevirtual 213, 3) := by decide +kernel
theorem dX6_stake_62 : decode cX6_stake 62 = .ok (.aload_n 0, 1) := by decide +kernel
theorem dX6_stake_63 : decode cX6_stake 63 = .ok (.getfield 39, 3) := by decide +kernel
theorem dX6_stake_66 : decode cX6_stake 66 = .ok (.iload_n 2, 1) := by decide +kernel
theorem dX6_stake_67 : decode cX6_stake 67 = .ok (.invokevirtual 217, 3) := by decide +kernel
theorem dX6_stake_70 : decode cX6_stake 70 = .ok (.iload_n 3, 1) := by decide +kernel
theorem dX6_stake_71 : decode cX6_stake 71 = .ok (.invokestatic 221, 3) := by decide +kernel
theorem dX6_stake_74 : decode cX6_stake 74 = .ok (.lreturn, 1) := by decide +kernel
theorem dX6_nobody_0 : decode cX6_nobody 0 = .ok (.iload_n 1, 1) := by decide +kernel
theorem dX6_nobody_1 : decode cX6_nobody 1 = .ok (.invokestatic 71, 3) := by decide +kernel
theorem dX6_nobody_4 : decode cX6_nobody 4 = .ok (.ifCond .ne 7, 3) := by decide +kernel
theorem dX6_nobody_7 : decode cX6_nobody 7 = .ok (.ldc2_w 209, 3) := by decide +kernel
theorem dX6_nobody_10 : decode cX6_nobody 10 = .ok (.lreturn, 1) := by decide +kernel
theorem dX6_nobody_11 : decode cX6_nobody 11 = .ok (.iload_n 2, 1) := by decide +kernel
theorem dX6_nobody_12 : decode cX6_nobody 12 = .ok (.invokestatic 77, 3) := by decide +kernel
theorem dX6_nobody_15 : decode cX6_nobody 15 = .ok (.ifCond .ne 7, 3) := by decide +kernel
theorem dX6_nobody_18 : decode cX6_nobody 18 = .ok (.ldc2_w 211, 3) := by decide +kernel
theorem dX6_nobody_21 : decode cX6_nobody 21 = .ok (.lreturn, 1) := by decide +kernel
theorem dX6_nobody_22 : decode cX6_nobody 22 = .ok (.aload_n 0, 1) := by decide +kernel
theorem dX6_nobody_23 : decode cX6_nobody 23 = .ok (.invokevirtual 146, 3) := by decide +kernel
theorem dX6_nobody_26 : decode cX6_nobody 26 = .ok (.aload_n 0, 1) := by decide +kernel
theorem dX6_nobody_27 : decode cX6_nobody 27 = .ok (.getfield 39, 3) := by decide +kernel
theorem dX6_nobody_30 : decode cX6_nobody 30 = .ok (.iload_n 1, 1) := by decide +kernel
theorem dX6_nobody_31 : decode cX6_nobody 31 = .ok (.invokevirtual 225, 3) := by decide +kernel
theorem dX6_nobody_34 : decode cX6_nobody 34 = .ok (.aload_n 0, 1) := by decide +kernel
theorem dX6_nobody_35 : decode cX6_nobody 35 = .ok (.getfield 39, 3) := by decide +kernel
theorem dX6_nobody_38 : decode cX6_nobody 38 = .ok (.iload_n 1, 1) := by decide +kernel
theorem dX6_nobody_39 : decode cX6_nobody 39 = .ok (.invokevirtual 217, 3) := by decide +kernel
theorem dX6_nobody_42 : decode cX6_nobody 42 = .ok (.iload_n 2, 1) := by decide +kernel
theorem dX6_nobody_43 : decode cX6_nobody 43 = .ok (.invokestatic 221, 3) := by decide +kernel
theorem dX6_nobody_46 : decode cX6_nobody 46 = .ok (.lreturn, 1) := by decide +kernel
theorem dX6_ranked_0 : decode cX6_ranked 0 = .ok (.iload_n 1, 1) := by decide +kernel
theorem dX6_ranked_1 : decode cX6_ranked 1 = .ok (.invokestatic 71, 3) := by decide +kernel
theorem dX6_ranked_4 : decode cX6_ranked 4 = .ok (.ifCond .ne 5, 3) := by decide +kernel
theorem dX6_ranked_7 : decode cX6_ranked 7 = .ok (.iconst (-1), 1) := by decide +kernel
theorem dX6_ranked_8 : decode cX6_ranked 8 = .ok (.ireturn, 1) := by decide +kernel
theorem dX6_ranked_9 : decode cX6_ranked 9 = .ok (.aload_n 0, 1) := by decide +kernel
theorem dX6_ranked_10 : decode cX6_ranked 10 = .ok (.invokevirtual 146, 3) := by decide +kernel
theorem dX6_ranked_13 : decode cX6_ranked 13 = .ok (.iconst 0, 1) := by decide +kernel
theorem dX6_ranked_14 : decode cX6_ranked 14 = .ok (.istore_n 3, 1) := by decide +kernel
theorem dX6_ranked_15 : decode cX6_ranked 15 = .ok (.iload_n 3, 1) := by decide +kernel
theorem dX6_ranked_16 : decode cX6_ranked 16 = .ok (.iconst 4, 1) := by decide +kernel
theorem dX6_ranked_17 : decode cX6_ranked 17 = .ok (.if_icmp .ge 38, 3) := by decide +kernel
theorem dX6_ranked_20 : decode cX6_ranked 20 = .ok (.aload_n 0, 1) := by decide +kernel
theorem dX6_ranked_21 : decode cX6_ranked 21 = .ok (.getfield 39, 3) := by decide +kernel
theorem dX6_ranked_24 : decode cX6_ranked 24 = .ok (.iload_n 1, 1) := by decide +kernel
theorem dX6_ranked_25 : decode cX6_ranked 25 = .ok (.iload_n 3, 1) := by decide +kernel
theorem dX6_ranked_26 : decode cX6_ranked 26 = .ok (.invokevirtual 213, 3) := by decide +kernel
theorem dX6_ranked_29 : decode cX6_ranked 29 = .ok (.lconst 0, 1) := by decide +kernel
theorem dX6_ranked_30 : decode cX6_ranked 30 = .ok (.lcmp, 1) := by decide +kernel
theorem dX6_ranked_31 : decode cX6_ranked 31 = .ok (.ifCond .le 18, 3) := by decide +kernel
theorem dX6_ranked_34 : decode cX6_ranked 34 = .ok (.aload_n 0, 1) := by decide +kernel
theorem dX6_ranked_35 : decode cX6_ranked 35 = .ok (.getfield 39, 3) := by decide +kernel
theorem dX6_ranked_38 : decode cX6_ranked 38 = .ok (.iload_n 1, 1) := by decide +kernel
theorem dX6_ranked_39 : decode cX6_ranked 39 = .ok (.iload_n 3, 1) := by decide +kernel
theorem dX6_ranked_40 : decode cX6_ranked 40 = .ok (.invokevirtual 228, 3) := by decide +kernel
theorem dX6_ranked_43 : decode cX6_ranked 43 = .ok (.iload_n 2, 1) := by decide +kernel
theorem dX6_ranked_44 : decode cX6_ranked 44 = .ok (.if_icmp .ne 5, 3) := by decide +kernel
theorem dX6_ranked_47 : decode cX6_ranked 47 = .ok (.iload_n 3, 1) := by decide +kernel
theorem dX6_ranked_48 : decode cX6_ranked 48 = .ok (.ireturn, 1) := by decide +kernel
theorem dX6_ranked_49 : decode cX6_ranked 49 = .ok (.iinc 3 1, 3) := by decide +kernel
theorem dX6_ranked_52 : decode cX6_ranked 52 = .ok (.goto (-37), 3) := by decide +kernel
theorem dX6_ranked_55 : decode cX6_ranked 55 = .ok (.bipush (-6), 2) := by decide +kernel
theorem dX6_ranked_57 : decode cX6_ranked 57 = .ok (.ireturn, 1) := by decide +kernel
theorem dX6_owners_0 : decode cX6_owners 0 = .ok (.iload_n 1, 1) := by decide +kernel
theorem dX6_owners_1 : decode cX6_owners 1 = .ok (.invokestatic 71, 3) := by decide +kernel
theorem dX6_owners_4 : decode cX6_owners 4 = .ok (.ifCond .ne 5, 3) := by decide +kernel
theorem dX6_owners_7 : decode cX6_owners 7 = .ok (.iconst (-1), 1) := by decide +kernel
theorem dX6_owners_8 : decode cX6_owners 8 = .ok (.ireturn, 1) := by decide +kernel
theorem dX6_owners_9 : decode cX6_owners 9 = .ok (.aload_n 0, 1) := by decide +kernel
theorem dX6_owners_10 : decode cX6_owners 10 = .ok (.invokevirtual 146, 3) := by decide +kernel
theorem dX6_owners_13 : decode cX6_owners 13 = .ok (.aload_n 0, 1) := by decide +kernel
theorem dX6_owners_14 : decode cX6_owners 14 = .ok (.getfield 32, 3) := by decide +kernel
theorem dX6_owners_17 : decode cX6_owners 17 = .ok (.iload_n 1, 1) := by decide +kernel
theorem dX6_owners_18 : decode cX6_owners 18 = .ok (.iconst 0, 1) := by decide +kernel
theorem dX6_owners_19 : decode cX6_owners 19 = .ok (.iconst 4, 1) := by decide +kernel
theorem dX6_owners_20 : decode cX6_owners 20 = .ok (.invokevirtual 183, 3) := by decide +kernel
theorem dX6_owners_23 : decode cX6_owners 23 = .ok (.aload_n 0, 1) := by decide +kernel
theorem dX6_owners_24 : decode cX6_owners 24 = .ok (.getfield 39, 3) := by decide +kernel
theorem dX6_owners_27 : decode cX6_owners 27 = .ok (.iload_n 1, 1) := by decide +kernel
theorem dX6_owners_28 : decode cX6_owners 28 = .ok (.aload_n 0, 1) := by decide +kernel
theorem dX6_owners_29 : decode cX6_owners 29 = .ok (.getfield 12, 3) := by decide +kernel
theorem dX6_owners_32 : decode cX6_owners 32 = .ok (.getfield 140, 3) := by decide +kernel
theorem dX6_owners_35 : decode cX6_owners 35 = .ok (.invokevirtual 231, 3) := by decide +kernel
theorem dX6_owners_38 : decode cX6_owners 38 = .ok (.ior, 1) := by decide +kernel
theorem dX6_owners_39 : decode cX6_owners 39 = .ok (.ireturn, 1) := by decide +kernel
theorem dX6_circle_0 : decode cX6_circle 0 = .ok (.iload_n 1, 1) := by decide +kernel
theorem dX6_circle_1 : decode cX6_circle 1 = .ok (.invokestatic 71, 3) := by decide +kernel
theorem dX6_circle_4 : decode cX6_circle 4 = .ok (.ifCond .ne 5, 3) := by decide +kernel
theorem dX6_circle_7 : decode cX6_circle 7 = .ok (.iconst (-1), 1) := by decide +kernel
theorem dX6_circle_8 : decode cX6_circle 8 = .ok (.ireturn, 1) := by decide +kernel
theorem dX6_circle_9 : decode cX6_circle 9 = .ok (.aload_n 0, 1) := by decide +kernel
theorem dX6_circle_10 : decode cX6_circle 10 = .ok (.invokevirtual 146, 3) := by decide +kernel
theorem dX6_circle_13 : decode cX6_circle 13 = .ok (.aload_n 0, 1) := by decide +kernel
theorem dX6_circle_14 : decode cX6_circle 14 = .ok (.getfield 46, 3) := by decide +kernel
theorem dX6_circle_17 : decode cX6_circle 17 = .ok (.iload_n 1, 1) := by decide +kernel
theorem dX6_circle_18 : decode cX6_circle 18 = .ok (.invokevirtual 234, 3) := by decide +kernel
theorem dX6_circle_21 : decode cX6_circle 21 = .ok (.ireturn, 1) := by decide +kernel
theorem dX6_image_0 : decode cX6_image 0 = .ok (.iload_n 1, 1) := by decide +kernel
theorem dX6_image_1 : decode cX6_image 1 = .ok (.invokestatic 77, 3) := by decide +kernel
