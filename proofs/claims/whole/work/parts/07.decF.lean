theorem dX7_control_47 : decode cX7_control 47 = .ok (.iload_n 2, 1) := by decide +kernel
theorem dX7_control_48 : decode cX7_control 48 = .ok (.iload 5, 2) := by decide +kernel
theorem dX7_control_50 : decode cX7_control 50 = .ok (.invokestatic 117, 3) := by decide +kernel
theorem dX7_control_53 : decode cX7_control 53 = .ok (.ifCond .ne 36, 3) := by decide +kernel
theorem dX7_control_56 : decode cX7_control 56 = .ok (.aload_n 0, 1) := by decide +kernel
theorem dX7_control_57 : decode cX7_control 57 = .ok (.iload_n 1, 1) := by decide +kernel
theorem dX7_control_58 : decode cX7_control 58 = .ok (.iload 5, 2) := by decide +kernel
theorem dX7_control_60 : decode cX7_control 60 = .ok (.iload_n 2, 1) := by decide +kernel
theorem dX7_control_61 : decode cX7_control 61 = .ok (.invokevirtual 130, 3) := by decide +kernel
theorem dX7_control_64 : decode cX7_control 64 = .ok (.ifCond .eq 25, 3) := by decide +kernel
theorem dX7_control_67 : decode cX7_control 67 = .ok (.iload 4, 2) := by decide +kernel
theorem dX7_control_69 : decode cX7_control 69 = .ok (.iconst 1, 1) := by decide +kernel
theorem dX7_control_70 : decode cX7_control 70 = .ok (.iload 5, 2) := by decide +kernel
theorem dX7_control_72 : decode cX7_control 72 = .ok (.ishl, 1) := by decide +kernel
theorem dX7_control_73 : decode cX7_control 73 = .ok (.ior, 1) := by decide +kernel
theorem dX7_control_74 : decode cX7_control 74 = .ok (.istore 4, 2) := by decide +kernel
theorem dX7_control_76 : decode cX7_control 76 = .ok (.aload_n 0, 1) := by decide +kernel
theorem dX7_control_77 : decode cX7_control 77 = .ok (.getfield 44, 3) := by decide +kernel
theorem dX7_control_80 : decode cX7_control 80 = .ok (.iload 5, 2) := by decide +kernel
theorem dX7_control_82 : decode cX7_control 82 = .ok (.iload_n 3, 1) := by decide +kernel
theorem dX7_control_83 : decode cX7_control 83 = .ok (.iastore, 1) := by decide +kernel
theorem dX7_control_84 : decode cX7_control 84 = .ok (.aload_n 0, 1) := by decide +kernel
theorem dX7_control_85 : decode cX7_control 85 = .ok (.iload_n 3, 1) := by decide +kernel
theorem dX7_control_86 : decode cX7_control 86 = .ok (.putfield 127, 3) := by decide +kernel
theorem dX7_control_89 : decode cX7_control 89 = .ok (.iinc 5 1, 3) := by decide +kernel
theorem dX7_control_92 : decode cX7_control 92 = .ok (.goto (-51), 3) := by decide +kernel
theorem dX7_control_95 : decode cX7_control 95 = .ok (.iload_n 2, 1) := by decide +kernel
theorem dX7_control_96 : decode cX7_control 96 = .ok (.iload 4, 2) := by decide +kernel
theorem dX7_control_98 : decode cX7_control 98 = .ok (.ior, 1) := by decide +kernel
theorem dX7_control_99 : decode cX7_control 99 = .ok (.istore_n 2, 1) := by decide +kernel
theorem dX7_control_100 : decode cX7_control 100 = .ok (.iinc 3 1, 3) := by decide +kernel
theorem dX7_control_103 : decode cX7_control 103 = .ok (.goto (-73), 3) := by decide +kernel
theorem dX7_control_106 : decode cX7_control 106 = .ok (.iload_n 2, 1) := by decide +kernel
theorem dX7_control_107 : decode cX7_control 107 = .ok (.ireturn, 1) := by decide +kernel
theorem dX7_controls_0 : decode cX7_controls 0 = .ok (.iload_n 1, 1) := by decide +kernel
theorem dX7_controls_1 : decode cX7_controls 1 = .ok (.invokestatic 108, 3) := by decide +kernel
theorem dX7_controls_4 : decode cX7_controls 4 = .ok (.ifCond .ne 5, 3) := by decide +kernel
theorem dX7_controls_7 : decode cX7_controls 7 = .ok (.iconst (-1), 1) := by decide +kernel
theorem dX7_controls_8 : decode cX7_controls 8 = .ok (.ireturn, 1) := by decide +kernel
theorem dX7_controls_9 : decode cX7_controls 9 = .ok (.aload_n 0, 1) := by decide +kernel
theorem dX7_controls_10 : decode cX7_controls 10 = .ok (.aload_n 0, 1) := by decide +kernel
theorem dX7_controls_11 : decode cX7_controls 11 = .ok (.getfield 114, 3) := by decide +kernel
theorem dX7_controls_14 : decode cX7_controls 14 = .ok (.bipush (-6), 2) := by decide +kernel
theorem dX7_controls_16 : decode cX7_controls 16 = .ok (.invokevirtual 89, 3) := by decide +kernel
theorem dX7_controls_19 : decode cX7_controls 19 = .ok (.pop, 1) := by decide +kernel
theorem dX7_controls_20 : decode cX7_controls 20 = .ok (.aload_n 0, 1) := by decide +kernel
theorem dX7_controls_21 : decode cX7_controls 21 = .ok (.iload_n 1, 1) := by decide +kernel
theorem dX7_controls_22 : decode cX7_controls 22 = .ok (.invokevirtual 133, 3) := by decide +kernel
theorem dX7_controls_25 : decode cX7_controls 25 = .ok (.ireturn, 1) := by decide +kernel
theorem dX7_many_0 : decode cX7_many 0 = .ok (.iconst 0, 1) := by decide +kernel
theorem dX7_many_1 : decode cX7_many 1 = .ok (.istore_n 1, 1) := by decide +kernel
theorem dX7_many_2 : decode cX7_many 2 = .ok (.iconst 0, 1) := by decide +kernel
theorem dX7_many_3 : decode cX7_many 3 = .ok (.istore_n 2, 1) := by decide +kernel
theorem dX7_many_4 : decode cX7_many 4 = .ok (.iload_n 2, 1) := by decide +kernel
theorem dX7_many_5 : decode cX7_many 5 = .ok (.iconst 5, 1) := by decide +kernel
theorem dX7_many_6 : decode cX7_many 6 = .ok (.if_icmp .ge 17, 3) := by decide +kernel
theorem dX7_many_9 : decode cX7_many 9 = .ok (.iload_n 1, 1) := by decide +kernel
theorem dX7_many_10 : decode cX7_many 10 = .ok (.iload_n 0, 1) := by decide +kernel
theorem dX7_many_11 : decode cX7_many 11 = .ok (.iload_n 2, 1) := by decide +kernel
theorem dX7_many_12 : decode cX7_many 12 = .ok (.ishr, 1) := by decide +kernel
theorem dX7_many_13 : decode cX7_many 13 = .ok (.iconst 1, 1) := by decide +kernel
theorem dX7_many_14 : decode cX7_many 14 = .ok (.iand, 1) := by decide +kernel
theorem dX7_many_15 : decode cX7_many 15 = .ok (.iadd, 1) := by decide +kernel
theorem dX7_many_16 : decode cX7_many 16 = .ok (.istore_n 1, 1) := by decide +kernel
theorem dX7_many_17 : decode cX7_many 17 = .ok (.iinc 2 1, 3) := by decide +kernel
theorem dX7_many_20 : decode cX7_many 20 = .ok (.goto (-16), 3) := by decide +kernel
theorem dX7_many_23 : decode cX7_many 23 = .ok (.iload_n 1, 1) := by decide +kernel
theorem dX7_many_24 : decode cX7_many 24 = .ok (.ireturn, 1) := by decide +kernel
theorem dX7_witness_0 : decode cX7_witness 0 = .ok (.iconst 0, 1) := by decide +kernel
theorem dX7_witness_1 : decode cX7_witness 1 = .ok (.istore_n 3, 1) := by decide +kernel
theorem dX7_witness_2 : decode cX7_witness 2 = .ok (.iconst 0, 1) := by decide +kernel
theorem dX7_witness_3 : decode cX7_witness 3 = .ok (.istore 4, 2) := by decide +kernel
theorem dX7_witness_5 : decode cX7_witness 5 = .ok (.iload 4, 2) := by decide +kernel
theorem dX7_witness_7 : decode cX7_witness 7 = .ok (.iconst 5, 1) := by decide +kernel
theorem dX7_witness_8 : decode cX7_witness 8 = .ok (.if_icmp .ge 46, 3) := by decide +kernel
theorem dX7_witness_11 : decode cX7_witness 11 = .ok (.iload_n 3, 1) := by decide +kernel
theorem dX7_witness_12 : decode cX7_witness 12 = .ok (.aload_n 0, 1) := by decide +kernel
theorem dX7_witness_13 : decode cX7_witness 13 = .ok (.getfield 44, 3) := by decide +kernel
theorem dX7_witness_16 : decode cX7_witness 16 = .ok (.iload 4, 2) := by decide +kernel
theorem dX7_witness_18 : decode cX7_witness 18 = .ok (.iaload, 1) := by decide +kernel
theorem dX7_witness_19 : decode cX7_witness 19 = .ok (.ifCond .le 26, 3) := by decide +kernel
theorem dX7_witness_22 : decode cX7_witness 22 = .ok (.aload_n 0, 1) := by decide +kernel
theorem dX7_witness_23 : decode cX7_witness 23 = .ok (.getfield 44, 3) := by decide +kernel
theorem dX7_witness_26 : decode cX7_witness 26 = .ok (.iload 4, 2) := by decide +kernel
theorem dX7_witness_28 : decode cX7_witness 28 = .ok (.iaload, 1) := by decide +kernel
theorem dX7_witness_29 : decode cX7_witness 29 = .ok (.aload_n 0, 1) := by decide +kernel
theorem dX7_witness_30 : decode cX7_witness 30 = .ok (.getfield 44, 3) := by decide +kernel
theorem dX7_witness_33 : decode cX7_witness 33 = .ok (.iload_n 2, 1) := by decide +kernel
theorem dX7_witness_34 : decode cX7_witness 34 = .ok (.iaload, 1) := by decide +kernel
theorem dX7_witness_35 : decode cX7_witness 35 = .ok (.if_icmp .ge 10, 3) := by decide +kernel
theorem dX7_witness_38 : decode cX7_witness 38 = .ok (.iconst 1, 1) := by decide +kernel
theorem dX7_witness_39 : decode cX7_witness 39 = .ok (.iload 4, 2) := by decide +kernel
theorem dX7_witness_41 : decode cX7_witness 41 = .ok (.ishl, 1) := by decide +kernel
theorem dX7_witness_42 : decode cX7_witness 42 = .ok (.goto 4, 3) := by decide +kernel
theorem dX7_witness_45 : decode cX7_witness 45 = .ok (.iconst 0, 1) := by decide +kernel
theorem dX7_witness_46 : decode cX7_witness 46 = .ok (.ior, 1) := by decide +kernel
theorem dX7_witness_47 : decode cX7_witness 47 = .ok (.istore_n 3, 1) := by decide +kernel
theorem dX7_witness_48 : decode cX7_witness 48 = .ok (.iinc 4 1, 3) := by decide +kernel
theorem dX7_witness_51 : decode cX7_witness 51 = .ok (.goto (-46), 3) := by decide +kernel
theorem dX7_witness_54 : decode cX7_witness 54 = .ok (.bipush (-6), 2) := by decide +kernel
theorem dX7_witness_56 : decode cX7_witness 56 = .ok (.istore 4, 2) := by decide +kernel
theorem dX7_witness_58 : decode cX7_witness 58 = .ok (.iconst 0, 1) := by decide +kernel
theorem dX7_witness_59 : decode cX7_witness 59 = .ok (.istore 5, 2) := by decide +kernel
theorem dX7_witness_61 : decode cX7_witness 61 = .ok (.iload 5, 2) := by decide +kernel
theorem dX7_witness_63 : decode cX7_witness 63 = .ok (.bipush 32, 2) := by decide +kernel
theorem dX7_witness_65 : decode cX7_witness 65 = .ok (.if_icmp .ge 51, 3) := by decide +kernel
theorem dX7_witness_68 : decode cX7_witness 68 = .ok (.iload 5, 2) := by decide +kernel
theorem dX7_witness_70 : decode cX7_witness 70 = .ok (.iload_n 3, 1) := by decide +kernel
theorem dX7_witness_71 : decode cX7_witness 71 = .ok (.iand, 1) := by decide +kernel
theorem dX7_witness_72 : decode cX7_witness 72 = .ok (.iload 5, 2) := by decide +kernel
theorem dX7_witness_74 : decode cX7_witness 74 = .ok (.if_icmp .ne 36, 3) := by decide +kernel
theorem dX7_witness_77 : decode cX7_witness 77 = .ok (.aload_n 0, 1) := by decide +kernel
theorem dX7_witness_78 : decode cX7_witness 78 = .ok (.iload_n 1, 1) := by decide +kernel
theorem dX7_witness_79 : decode cX7_witness 79 = .ok (.iload_n 2, 1) := by decide +kernel
theorem dX7_witness_80 : decode cX7_witness 80 = .ok (.iload 5, 2) := by decide +kernel
theorem dX7_witness_82 : decode cX7_witness 82 = .ok (.invokevirtual 130, 3) := by decide +kernel
theorem dX7_witness_85 : decode cX7_witness 85 = .ok (.ifCond .eq 25, 3) := by decide +kernel
theorem dX7_witness_88 : decode cX7_witness 88 = .ok (.iload 4, 2) := by decide +kernel
theorem dX7_witness_90 : decode cX7_witness 90 = .ok (.ifCond .lt 16, 3) := by decide +kernel
theorem dX7_witness_93 : decode cX7_witness 93 = .ok (.iload 5, 2) := by decide +kernel
theorem dX7_witness_95 : decode cX7_witness 95 = .ok (.invokestatic 136, 3) := by decide +kernel
theorem dX7_witness_98 : decode cX7_witness 98 = .ok (.iload 4, 2) := by decide +kernel
theorem dX7_witness_100 : decode cX7_witness 100 = .ok (.invokestatic 136, 3) := by decide +kernel
theorem dX7_witness_103 : decode cX7_witness 103 = .ok (.if_icmp .ge 7, 3) := by decide +kernel
theorem dX7_witness_106 : decode cX7_witness 106 = .ok (.iload 5, 2) := by decide +kernel
theorem dX7_witness_108 : decode cX7_witness 108 = .ok (.istore 4, 2) := by decide +kernel
theorem dX7_witness_110 : decode cX7_witness 110 = .ok (.iinc 5 1, 3) := by decide +kernel
theorem dX7_witness_113 : decode cX7_witness 113 = .ok (.goto (-52), 3) := by decide +kernel
theorem dX7_witness_116 : decode cX7_witness 116 = .ok (.iload 4, 2) := by decide +kernel
theorem dX7_witness_118 : decode cX7_witness 118 = .ok (.ireturn, 1) := by decide +kernel
theorem dX7_chain_0 : decode cX7_chain 0 = .ok (.aload_n 0, 1) := by decide +kernel
theorem dX7_chain_1 : decode cX7_chain 1 = .ok (.iload_n 1, 1) := by decide +kernel
theorem dX7_chain_2 : decode cX7_chain 2 = .ok (.iload_n 2, 1) := by decide +kernel
theorem dX7_chain_3 : decode cX7_chain 3 = .ok (.invokevirtual 139, 3) := by decide +kernel
theorem dX7_chain_6 : decode cX7_chain 6 = .ok (.istore_n 3, 1) := by decide +kernel
theorem dX7_chain_7 : decode cX7_chain 7 = .ok (.iconst 0, 1) := by decide +kernel
theorem dX7_chain_8 : decode cX7_chain 8 = .ok (.istore 4, 2) := by decide +kernel
theorem dX7_chain_10 : decode cX7_chain 10 = .ok (.iload 4, 2) := by decide +kernel
theorem dX7_chain_12 : decode cX7_chain 12 = .ok (.iconst 5, 1) := by decide +kernel
theorem dX7_chain_13 : decode cX7_chain 13 = .ok (.if_icmp .ge 47, 3) := by decide +kernel
theorem dX7_chain_16 : decode cX7_chain 16 = .ok (.iconst 0, 1) := by decide +kernel
theorem dX7_chain_17 : decode cX7_chain 17 = .ok (.istore 5, 2) := by decide +kernel
theorem dX7_chain_19 : decode cX7_chain 19 = .ok (.iload 5, 2) := by decide +kernel
theorem dX7_chain_21 : decode cX7_chain 21 = .ok (.iconst 5, 1) := by decide +kernel
theorem dX7_chain_22 : decode cX7_chain 22 = .ok (.if_icmp .ge 32, 3) := by decide +kernel
theorem dX7_chain_25 : decode cX7_chain 25 = .ok (.iload_n 3, 1) := by decide +kernel
theorem dX7_chain_26 : decode cX7_chain 26 = .ok (.iload_n 3, 1) := by decide +kernel
theorem dX7_chain_27 : decode cX7_chain 27 = .ok (.iload 5, 2) := by decide +kernel
theorem dX7_chain_29 : decode cX7_chain 29 = .ok (.invokestatic 117, 3) := by decide +kernel
theorem dX7_chain_32 : decode cX7_chain 32 = .ok (.ifCond .eq 13, 3) := by decide +kernel
theorem dX7_chain_35 : decode cX7_chain 35 = .ok (.aload_n 0, 1) := by decide +kernel
theorem dX7_chain_36 : decode cX7_chain 36 = .ok (.iload_n 1, 1) := by decide +kernel
theorem dX7_chain_37 : decode cX7_chain 37 = .ok (.iload 5, 2) := by decide +kernel
theorem dX7_chain_39 : decode cX7_chain 39 = .ok (.invokevirtual 139, 3) := by decide +kernel
theorem dX7_chain_42 : decode cX7_chain 42 = .ok (.goto 4, 3) := by decide +kernel
theorem dX7_chain_45 : decode cX7_chain 45 = .ok (.iconst 0, 1) := by decide +kernel
theorem dX7_chain_46 : decode cX7_chain 46 = .ok (.ior, 1) := by decide +kernel
theorem dX7_chain_47 : decode cX7_chain 47 = .ok (.istore_n 3, 1) := by decide +kernel
theorem dX7_chain_48 : decode cX7_chain 48 = .ok (.iinc 5 1, 3) := by decide +kernel
theorem dX7_chain_51 : decode cX7_chain 51 = .ok (.goto (-32), 3) := by decide +kernel
theorem dX7_chain_54 : decode cX7_chain 54 = .ok (.iinc 4 1, 3) := by decide +kernel
theorem dX7_chain_57 : decode cX7_chain 57 = .ok (.goto (-47), 3) := by decide +kernel
theorem dX7_chain_60 : decode cX7_chain 60 = .ok (.iload_n 3, 1) := by decide +kernel
theorem dX7_chain_61 : decode cX7_chain 61 = .ok (.ireturn, 1) := by decide +kernel
theorem dX7_areKnown_0 : decode cX7_areKnown 0 = .ok (.iload_n 0, 1) := by decide +kernel
theorem dX7_areKnown_1 : decode cX7_areKnown 1 = .ok (.invokestatic 108, 3) := by decide +kernel
theorem dX7_areKnown_4 : decode cX7_areKnown 4 = .ok (.ifCond .eq 14, 3) := by decide +kernel
theorem dX7_areKnown_7 : decode cX7_areKnown 7 = .ok (.iload_n 1, 1) := by decide +kernel
theorem dX7_areKnown_8 : decode cX7_areKnown 8 = .ok (.invokestatic 93, 3) := by decide +kernel
theorem dX7_areKnown_11 : decode cX7_areKnown 11 = .ok (.ifCond .eq 7, 3) := by decide +kernel
theorem dX7_areKnown_14 : decode cX7_areKnown 14 = .ok (.iconst 1, 1) := by decide +kernel
theorem dX7_areKnown_15 : decode cX7_areKnown 15 = .ok (.goto 4, 3) := by decide +kernel
theorem dX7_areKnown_18 : decode cX7_areKnown 18 = .ok (.iconst 0, 1) := by decide +kernel
theorem dX7_areKnown_19 : decode cX7_areKnown 19 = .ok (.ireturn, 1) := by decide +kernel
theorem dX7_how_0 : decode cX7_how 0 = .ok (.iload_n 1, 1) := by decide +kernel
theorem dX7_how_1 : decode cX7_how 1 = .ok (.iload_n 2, 1) := by decide +kernel
theorem dX7_how_2 : decode cX7_how 2 = .ok (.invokestatic 142, 3) := by decide +kernel
theorem dX7_how_5 : decode cX7_how 5 = .ok (.ifCond .ne 5, 3) := by decide +kernel
theorem dX7_how_8 : decode cX7_how 8 = .ok (.iconst (-1), 1) := by decide +kernel
theorem dX7_how_9 : decode cX7_how 9 = .ok (.ireturn, 1) := by decide +kernel
theorem dX7_how_10 : decode cX7_how 10 = .ok (.iload_n 3, 1) := by decide +kernel
theorem dX7_how_11 : decode cX7_how 11 = .ok (.iconst 0, 1) := by decide +kernel
theorem dX7_how_12 : decode cX7_how 12 = .ok (.iconst 4, 1) := by decide +kernel
theorem dX7_how_13 : decode cX7_how 13 = .ok (.invokestatic 66, 3) := by decide +kernel
theorem dX7_how_16 : decode cX7_how 16 = .ok (.ifCond .ne 6, 3) := by decide +kernel
theorem dX7_how_19 : decode cX7_how 19 = .ok (.bipush (-2), 2) := by decide +kernel
theorem dX7_how_21 : decode cX7_how 21 = .ok (.ireturn, 1) := by decide +kernel
theorem dX7_how_22 : decode cX7_how 22 = .ok (.aload_n 0, 1) := by decide +kernel
theorem dX7_how_23 : decode cX7_how 23 = .ok (.aload_n 0, 1) := by decide +kernel
theorem dX7_how_24 : decode cX7_how 24 = .ok (.getfield 114, 3) := by decide +kernel
theorem dX7_how_27 : decode cX7_how 27 = .ok (.bipush (-6), 2) := by decide +kernel
theorem dX7_how_29 : decode cX7_how 29 = .ok (.invokevirtual 89, 3) := by decide +kernel
theorem dX7_how_32 : decode cX7_how 32 = .ok (.pop, 1) := by decide +kernel
theorem dX7_how_33 : decode cX7_how 33 = .ok (.aload_n 0, 1) := by decide +kernel
theorem dX7_how_34 : decode cX7_how 34 = .ok (.iload_n 1, 1) := by decide +kernel
theorem dX7_how_35 : decode cX7_how 35 = .ok (.invokevirtual 133, 3) := by decide +kernel
theorem dX7_how_38 : decode cX7_how 38 = .ok (.istore 4, 2) := by decide +kernel
theorem dX7_how_40 : decode cX7_how 40 = .ok (.aload_n 0, 1) := by decide +kernel
theorem dX7_how_41 : decode cX7_how 41 = .ok (.iload_n 1, 1) := by decide +kernel
theorem dX7_how_42 : decode cX7_how 42 = .ok (.iload_n 2, 1) := by decide +kernel
theorem dX7_how_43 : decode cX7_how 43 = .ok (.iload 4, 2) := by decide +kernel
theorem dX7_how_45 : decode cX7_how 45 = .ok (.invokevirtual 123, 3) := by decide +kernel
theorem dX7_how_48 : decode cX7_how 48 = .ok (.istore 5, 2) := by decide +kernel
theorem dX7_how_50 : decode cX7_how 50 = .ok (.iload_n 3, 1) := by decide +kernel
theorem dX7_how_51 : decode cX7_how 51 = .ok (.tableswitch 90 0 3 #[29, 59, 66, 69], 29) := by decide +kernel
theorem dX7_how_80 : decode cX7_how 80 = .ok (.iload 4, 2) := by decide +kernel
theorem dX7_how_82 : decode cX7_how 82 = .ok (.iload_n 2, 1) := by decide +kernel
theorem dX7_how_83 : decode cX7_how 83 = .ok (.invokestatic 117, 3) := by decide +kernel
theorem dX7_how_86 : decode cX7_how 86 = .ok (.ifCond .ne 7, 3) := by decide +kernel
theorem dX7_how_89 : decode cX7_how 89 = .ok (.iconst 0, 1) := by decide +kernel
theorem dX7_how_90 : decode cX7_how 90 = .ok (.goto 19, 3) := by decide +kernel
theorem dX7_how_93 : decode cX7_how 93 = .ok (.iload 5, 2) := by decide +kernel
theorem dX7_how_95 : decode cX7_how 95 = .ok (.aload_n 0, 1) := by decide +kernel
theorem dX7_how_96 : decode cX7_how 96 = .ok (.getfield 28, 3) := by decide +kernel
theorem dX7_how_99 : decode cX7_how 99 = .ok (.iconst 0, 1) := by decide +kernel
theorem dX7_how_100 : decode cX7_how 100 = .ok (.iaload, 1) := by decide +kernel
theorem dX7_how_101 : decode cX7_how 101 = .ok (.if_icmp .le 7, 3) := by decide +kernel
theorem dX7_how_104 : decode cX7_how 104 = .ok (.iconst 1, 1) := by decide +kernel
theorem dX7_how_105 : decode cX7_how 105 = .ok (.goto 4, 3) := by decide +kernel
theorem dX7_how_108 : decode cX7_how 108 = .ok (.iconst 2, 1) := by decide +kernel
theorem dX7_how_109 : decode cX7_how 109 = .ok (.ireturn, 1) := by decide +kernel
theorem dX7_how_110 : decode cX7_how 110 = .ok (.aload_n 0, 1) := by decide +kernel
theorem dX7_how_111 : decode cX7_how 111 = .ok (.getfield 44, 3) := by decide +kernel
theorem dX7_how_114 : decode cX7_how 114 = .ok (.iload_n 2, 1) := by decide +kernel
theorem dX7_how_115 : decode cX7_how 115 = .ok (.iaload, 1) := by decide +kernel
theorem dX7_how_116 : decode cX7_how 116 = .ok (.ireturn, 1) := by decide +kernel
theorem dX7_how_117 : decode cX7_how 117 = .ok (.iload 5, 2) := by decide +kernel
theorem dX7_how_119 : decode cX7_how 119 = .ok (.ireturn, 1) := by decide +kernel
theorem dX7_how_120 : decode cX7_how 120 = .ok (.iload 4, 2) := by decide +kernel
theorem dX7_how_122 : decode cX7_how 122 = .ok (.iload_n 2, 1) := by decide +kernel
theorem dX7_how_123 : decode cX7_how 123 = .ok (.invokestatic 117, 3) := by decide +kernel
theorem dX7_how_126 : decode cX7_how 126 = .ok (.ifCond .eq 12, 3) := by decide +kernel
theorem dX7_how_129 : decode cX7_how 129 = .ok (.aload_n 0, 1) := by decide +kernel
theorem dX7_how_130 : decode cX7_how 130 = .ok (.iload_n 1, 1) := by decide +kernel
theorem dX7_how_131 : decode cX7_how 131 = .ok (.iload_n 2, 1) := by decide +kernel
theorem dX7_how_132 : decode cX7_how 132 = .ok (.invokevirtual 139, 3) := by decide +kernel
theorem dX7_how_135 : decode cX7_how 135 = .ok (.goto 5, 3) := by decide +kernel
theorem dX7_how_138 : decode cX7_how 138 = .ok (.bipush (-6), 2) := by decide +kernel
theorem dX7_how_140 : decode cX7_how 140 = .ok (.ireturn, 1) := by decide +kernel
theorem dX7_how_141 : decode cX7_how 141 = .ok (.iload 4, 2) := by decide +kernel
theorem dX7_how_143 : decode cX7_how 143 = .ok (.iload_n 2, 1) := by decide +kernel
theorem dX7_how_144 : decode cX7_how 144 = .ok (.invokestatic 117, 3) := by decide +kernel
theorem dX7_how_147 : decode cX7_how 147 = .ok (.ifCond .eq 12, 3) := by decide +kernel
theorem dX7_how_150 : decode cX7_how 150 = .ok (.aload_n 0, 1) := by decide +kernel
theorem dX7_how_151 : decode cX7_how 151 = .ok (.iload_n 1, 1) := by decide +kernel
theorem dX7_how_152 : decode cX7_how 152 = .ok (.iload_n 2, 1) := by decide +kernel
theorem dX7_how_153 : decode cX7_how 153 = .ok (.invokevirtual 145, 3) := by decide +kernel
theorem dX7_how_156 : decode cX7_how 156 = .ok (.goto 5, 3) := by decide +kernel
theorem dX7_how_159 : decode cX7_how 159 = .ok (.bipush (-6), 2) := by decide +kernel
theorem dX7_how_161 : decode cX7_how 161 = .ok (.ireturn, 1) := by decide +kernel
theorem dX7_above_0 : decode cX7_above 0 = .ok (.iload_n 1, 1) := by decide +kernel
theorem dX7_above_1 : decode cX7_above 1 = .ok (.invokestatic 93, 3) := by decide +kernel
theorem dX7_above_4 : decode cX7_above 4 = .ok (.ifCond .ne 5, 3) := by decide +kernel
theorem dX7_above_7 : decode cX7_above 7 = .ok (.iconst (-1), 1) := by decide +kernel
theorem dX7_above_8 : decode cX7_above 8 = .ok (.ireturn, 1) := by decide +kernel
theorem dX7_above_9 : decode cX7_above 9 = .ok (.iload_n 2, 1) := by decide +kernel
theorem dX7_above_10 : decode cX7_above 10 = .ok (.iconst 0, 1) := by decide +kernel
theorem dX7_above_11 : decode cX7_above 11 = .ok (.iconst 3, 1) := by decide +kernel
theorem dX7_above_12 : decode cX7_above 12 = .ok (.invokestatic 66, 3) := by decide +kernel
theorem dX7_above_15 : decode cX7_above 15 = .ok (.ifCond .ne 6, 3) := by decide +kernel
theorem dX7_above_18 : decode cX7_above 18 = .ok (.bipush (-2), 2) := by decide +kernel
theorem dX7_above_20 : decode cX7_above 20 = .ok (.ireturn, 1) := by decide +kernel
theorem dX7_above_21 : decode cX7_above 21 = .ok (.aload_n 0, 1) := by decide +kernel
theorem dX7_above_22 : decode cX7_above 22 = .ok (.aload_n 0, 1) := by decide +kernel
theorem dX7_above_23 : decode cX7_above 23 = .ok (.getfield 114, 3) := by decide +kernel
theorem dX7_above_26 : decode cX7_above 26 = .ok (.bipush (-6), 2) := by decide +kernel
theorem dX7_above_28 : decode cX7_above 28 = .ok (.invokevirtual 89, 3) := by decide +kernel
theorem dX7_above_31 : decode cX7_above 31 = .ok (.pop, 1) := by decide +kernel
theorem dX7_above_32 : decode cX7_above 32 = .ok (.iconst 0, 1) := by decide +kernel
theorem dX7_above_33 : decode cX7_above 33 = .ok (.istore_n 3, 1) := by decide +kernel
theorem dX7_above_34 : decode cX7_above 34 = .ok (.iconst 0, 1) := by decide +kernel
theorem dX7_above_35 : decode cX7_above 35 = .ok (.istore 4, 2) := by decide +kernel
theorem dX7_above_37 : decode cX7_above 37 = .ok (.iconst 0, 1) := by decide +kernel
theorem dX7_above_38 : decode cX7_above 38 = .ok (.istore 5, 2) := by decide +kernel
theorem dX7_above_40 : decode cX7_above 40 = .ok (.iload 5, 2) := by decide +kernel
theorem dX7_above_42 : decode cX7_above 42 = .ok (.bipush 9, 2) := by decide +kernel
theorem dX7_above_44 : decode cX7_above 44 = .ok (.if_icmp .ge 60, 3) := by decide +kernel
theorem dX7_above_47 : decode cX7_above 47 = .ok (.iload_n 3, 1) := by decide +kernel
theorem dX7_above_48 : decode cX7_above 48 = .ok (.aload_n 0, 1) := by decide +kernel
theorem dX7_above_49 : decode cX7_above 49 = .ok (.iload 5, 2) := by decide +kernel
theorem dX7_above_51 : decode cX7_above 51 = .ok (.invokevirtual 133, 3) := by decide +kernel
theorem dX7_above_54 : decode cX7_above 54 = .ok (.iload_n 1, 1) := by decide +kernel
theorem dX7_above_55 : decode cX7_above 55 = .ok (.invokestatic 117, 3) := by decide +kernel
theorem dX7_above_58 : decode cX7_above 58 = .ok (.ifCond .eq 10, 3) := by decide +kernel
theorem dX7_above_61 : decode cX7_above 61 = .ok (.iconst 1, 1) := by decide +kernel
theorem dX7_above_62 : decode cX7_above 62 = .ok (.iload 5, 2) := by decide +kernel
theorem dX7_above_64 : decode cX7_above 64 = .ok (.ishl, 1) := by decide +kernel
theorem dX7_above_65 : decode cX7_above 65 = .ok (.goto 4, 3) := by decide +kernel
theorem dX7_above_68 : decode cX7_above 68 = .ok (.iconst 0, 1) := by decide +kernel
theorem dX7_above_69 : decode cX7_above 69 = .ok (.ior, 1) := by decide +kernel
theorem dX7_above_70 : decode cX7_above 70 = .ok (.istore_n 3, 1) := by decide +kernel
theorem dX7_above_71 : decode cX7_above 71 = .ok (.iload 4, 2) := by decide +kernel
theorem dX7_above_73 : decode cX7_above 73 = .ok (.aload_n 0, 1) := by decide +kernel
theorem dX7_above_74 : decode cX7_above 74 = .ok (.getfield 40, 3) := by decide +kernel
theorem dX7_above_77 : decode cX7_above 77 = .ok (.iload 5, 2) := by decide +kernel
theorem dX7_above_79 : decode cX7_above 79 = .ok (.iload_n 1, 1) := by decide +kernel
theorem dX7_above_80 : decode cX7_above 80 = .ok (.invokestatic 78, 3) := by decide +kernel
theorem dX7_above_83 : decode cX7_above 83 = .ok (.baload, 1) := by decide +kernel
theorem dX7_above_84 : decode cX7_above 84 = .ok (.ifCond .eq 10, 3) := by decide +kernel
theorem dX7_above_87 : decode cX7_above 87 = .ok (.iconst 1, 1) := by decide +kernel
theorem dX7_above_88 : decode cX7_above 88 = .ok (.iload 5, 2) := by decide +kernel
theorem dX7_above_90 : decode cX7_above 90 = .ok (.ishl, 1) := by decide +kernel
theorem dX7_above_91 : decode cX7_above 91 = .ok (.goto 4, 3) := by decide +kernel
theorem dX7_above_94 : decode cX7_above 94 = .ok (.iconst 0, 1) := by decide +kernel
theorem dX7_above_95 : decode cX7_above 95 = .ok (.ior, 1) := by decide +kernel
theorem dX7_above_96 : decode cX7_above 96 = .ok (.istore 4, 2) := by decide +kernel
theorem dX7_above_98 : decode cX7_above 98 = .ok (.iinc 5 1, 3) := by decide +kernel
theorem dX7_above_101 : decode cX7_above 101 = .ok (.goto (-61), 3) := by decide +kernel
theorem dX7_above_104 : decode cX7_above 104 = .ok (.iload_n 2, 1) := by decide +kernel
theorem dX7_above_105 : decode cX7_above 105 = .ok (.ifCond .ne 10, 3) := by decide +kernel
theorem dX7_above_108 : decode cX7_above 108 = .ok (.iload_n 3, 1) := by decide +kernel
theorem dX7_above_109 : decode cX7_above 109 = .ok (.bipush 15, 2) := by decide +kernel
theorem dX7_above_111 : decode cX7_above 111 = .ok (.iand, 1) := by decide +kernel
theorem dX7_above_112 : decode cX7_above 112 = .ok (.goto 31, 3) := by decide +kernel
theorem dX7_above_115 : decode cX7_above 115 = .ok (.iload_n 2, 1) := by decide +kernel
theorem dX7_above_116 : decode cX7_above 116 = .ok (.iconst 1, 1) := by decide +kernel
theorem dX7_above_117 : decode cX7_above 117 = .ok (.if_icmp .ne 9, 3) := by decide +kernel
theorem dX7_above_120 : decode cX7_above 120 = .ok (.iload_n 3, 1) := by decide +kernel
theorem dX7_above_121 : decode cX7_above 121 = .ok (.iconst 4, 1) := by decide +kernel
theorem dX7_above_122 : decode cX7_above 122 = .ok (.ishr, 1) := by decide +kernel
theorem dX7_above_123 : decode cX7_above 123 = .ok (.goto 20, 3) := by decide +kernel
theorem dX7_above_126 : decode cX7_above 126 = .ok (.iload_n 2, 1) := by decide +kernel
theorem dX7_above_127 : decode cX7_above 127 = .ok (.iconst 2, 1) := by decide +kernel
theorem dX7_above_128 : decode cX7_above 128 = .ok (.if_icmp .ne 8, 3) := by decide +kernel
theorem dX7_above_131 : decode cX7_above 131 = .ok (.iload 4, 2) := by decide +kernel
theorem dX7_above_133 : decode cX7_above 133 = .ok (.goto 10, 3) := by decide +kernel
theorem dX7_above_136 : decode cX7_above 136 = .ok (.iload_n 3, 1) := by decide +kernel
theorem dX7_above_137 : decode cX7_above 137 = .ok (.iconst 4, 1) := by decide +kernel
theorem dX7_above_138 : decode cX7_above 138 = .ok (.iload_n 1, 1) := by decide +kernel
theorem dX7_above_139 : decode cX7_above 139 = .ok (.iadd, 1) := by decide +kernel
theorem dX7_above_140 : decode cX7_above 140 = .ok (.ishr, 1) := by decide +kernel
theorem dX7_above_141 : decode cX7_above 141 = .ok (.iconst 1, 1) := by decide +kernel
theorem dX7_above_142 : decode cX7_above 142 = .ok (.iand, 1) := by decide +kernel
theorem dX7_above_143 : decode cX7_above 143 = .ok (.ireturn, 1) := by decide +kernel
theorem dX7_dayBehind_0 : decode cX7_dayBehind 0 = .ok (.bipush (-6), 2) := by decide +kernel
theorem dX7_dayBehind_2 : decode cX7_dayBehind 2 = .ok (.istore_n 2, 1) := by decide +kernel
theorem dX7_dayBehind_3 : decode cX7_dayBehind 3 = .ok (.iconst 0, 1) := by decide +kernel
theorem dX7_dayBehind_4 : decode cX7_dayBehind 4 = .ok (.istore_n 3, 1) := by decide +kernel
theorem dX7_dayBehind_5 : decode cX7_dayBehind 5 = .ok (.iload_n 3, 1) := by decide +kernel
theorem dX7_dayBehind_6 : decode cX7_dayBehind 6 = .ok (.aload_n 0, 1) := by decide +kernel
theorem dX7_dayBehind_7 : decode cX7_dayBehind 7 = .ok (.getfield 70, 3) := by decide +kernel
theorem dX7_dayBehind_10 : decode cX7_dayBehind 10 = .ok (.if_icmp .ge 44, 3) := by decide +kernel
theorem dX7_dayBehind_13 : decode cX7_dayBehind 13 = .ok (.aload_n 0, 1) := by decide +kernel
theorem dX7_dayBehind_14 : decode cX7_dayBehind 14 = .ok (.getfield 7, 3) := by decide +kernel
theorem dX7_dayBehind_17 : decode cX7_dayBehind 17 = .ok (.iload_n 3, 1) := by decide +kernel
theorem dX7_dayBehind_18 : decode cX7_dayBehind 18 = .ok (.iaload, 1) := by decide +kernel
theorem dX7_dayBehind_19 : decode cX7_dayBehind 19 = .ok (.iload_n 1, 1) := by decide +kernel
theorem dX7_dayBehind_20 : decode cX7_dayBehind 20 = .ok (.if_icmp .le 26, 3) := by decide +kernel
theorem dX7_dayBehind_23 : decode cX7_dayBehind 23 = .ok (.iload_n 2, 1) := by decide +kernel
theorem dX7_dayBehind_24 : decode cX7_dayBehind 24 = .ok (.ifCond .lt 13, 3) := by decide +kernel
theorem dX7_dayBehind_27 : decode cX7_dayBehind 27 = .ok (.aload_n 0, 1) := by decide +kernel
theorem dX7_dayBehind_28 : decode cX7_dayBehind 28 = .ok (.getfield 7, 3) := by decide +kernel
theorem dX7_dayBehind_31 : decode cX7_dayBehind 31 = .ok (.iload_n 3, 1) := by decide +kernel
theorem dX7_dayBehind_32 : decode cX7_dayBehind 32 = .ok (.iaload, 1) := by decide +kernel
theorem dX7_dayBehind_33 : decode cX7_dayBehind 33 = .ok (.iload_n 2, 1) := by decide +kernel
theorem dX7_dayBehind_34 : decode cX7_dayBehind 34 = .ok (.if_icmp .ge 12, 3) := by decide +kernel
theorem dX7_dayBehind_37 : decode cX7_dayBehind 37 = .ok (.aload_n 0, 1) := by decide +kernel
theorem dX7_dayBehind_38 : decode cX7_dayBehind 38 = .ok (.getfield 7, 3) := by decide +kernel
theorem dX7_dayBehind_41 : decode cX7_dayBehind 41 = .ok (.iload_n 3, 1) := by decide +kernel
theorem dX7_dayBehind_42 : decode cX7_dayBehind 42 = .ok (.iaload, 1) := by decide +kernel
theorem dX7_dayBehind_43 : decode cX7_dayBehind 43 = .ok (.goto 4, 3) := by decide +kernel
theorem dX7_dayBehind_46 : decode cX7_dayBehind 46 = .ok (.iload_n 2, 1) := by decide +kernel
theorem dX7_dayBehind_47 : decode cX7_dayBehind 47 = .ok (.istore_n 2, 1) := by decide +kernel
theorem dX7_dayBehind_48 : decode cX7_dayBehind 48 = .ok (.iinc 3 1, 3) := by decide +kernel
theorem dX7_dayBehind_51 : decode cX7_dayBehind 51 = .ok (.goto (-46), 3) := by decide +kernel
theorem dX7_dayBehind_54 : decode cX7_dayBehind 54 = .ok (.iload_n 2, 1) := by decide +kernel
theorem dX7_dayBehind_55 : decode cX7_dayBehind 55 = .ok (.ireturn, 1) := by decide +kernel
theorem dX7_when_0 : decode cX7_when 0 = .ok (.iload_n 1, 1) := by decide +kernel
theorem dX7_when_1 : decode cX7_when 1 = .ok (.iload_n 2, 1) := by decide +kernel
theorem dX7_when_2 : decode cX7_when 2 = .ok (.invokestatic 142, 3) := by decide +kernel
theorem dX7_when_5 : decode cX7_when 5 = .ok (.ifCond .ne 5, 3) := by decide +kernel
theorem dX7_when_8 : decode cX7_when 8 = .ok (.iconst (-1), 1) := by decide +kernel
theorem dX7_when_9 : decode cX7_when 9 = .ok (.ireturn, 1) := by decide +kernel
theorem dX7_when_10 : decode cX7_when 10 = .ok (.iload_n 3, 1) := by decide +kernel
theorem dX7_when_11 : decode cX7_when 11 = .ok (.iconst 0, 1) := by decide +kernel
theorem dX7_when_12 : decode cX7_when 12 = .ok (.iconst 1, 1) := by decide +kernel
theorem dX7_when_13 : decode cX7_when 13 = .ok (.invokestatic 66, 3) := by decide +kernel
theorem dX7_when_16 : decode cX7_when 16 = .ok (.ifCond .ne 6, 3) := by decide +kernel
theorem dX7_when_19 : decode cX7_when 19 = .ok (.bipush (-2), 2) := by decide +kernel
theorem dX7_when_21 : decode cX7_when 21 = .ok (.ireturn, 1) := by decide +kernel
theorem dX7_when_22 : decode cX7_when 22 = .ok (.aload_n 0, 1) := by decide +kernel
theorem dX7_when_23 : decode cX7_when 23 = .ok (.getfield 114, 3) := by decide +kernel
theorem dX7_when_26 : decode cX7_when 26 = .ok (.istore 4, 2) := by decide +kernel
theorem dX7_when_28 : decode cX7_when 28 = .ok (.iconst 0, 1) := by decide +kernel
theorem dX7_when_29 : decode cX7_when 29 = .ok (.istore 5, 2) := by decide +kernel
theorem dX7_when_31 : decode cX7_when 31 = .ok (.iload 5, 2) := by decide +kernel
theorem dX7_when_33 : decode cX7_when 33 = .ok (.bipush 40, 2) := by decide +kernel
theorem dX7_when_35 : decode cX7_when 35 = .ok (.if_icmp .gt 56, 3) := by decide +kernel
theorem dX7_when_38 : decode cX7_when 38 = .ok (.iload 4, 2) := by decide +kernel
theorem dX7_when_40 : decode cX7_when 40 = .ok (.ifCond .lt 51, 3) := by decide +kernel
theorem dX7_when_43 : decode cX7_when 43 = .ok (.aload_n 0, 1) := by decide +kernel
theorem dX7_when_44 : decode cX7_when 44 = .ok (.iload 4, 2) := by decide +kernel
theorem dX7_when_46 : decode cX7_when 46 = .ok (.bipush (-6), 2) := by decide +kernel
theorem dX7_when_48 : decode cX7_when 48 = .ok (.invokevirtual 89, 3) := by decide +kernel
theorem dX7_when_51 : decode cX7_when 51 = .ok (.pop, 1) := by decide +kernel
theorem dX7_when_52 : decode cX7_when 52 = .ok (.aload_n 0, 1) := by decide +kernel
theorem dX7_when_53 : decode cX7_when 53 = .ok (.iload_n 1, 1) := by decide +kernel
theorem dX7_when_54 : decode cX7_when 54 = .ok (.invokevirtual 133, 3) := by decide +kernel
theorem dX7_when_57 : decode cX7_when 57 = .ok (.iload_n 2, 1) := by decide +kernel
theorem dX7_when_58 : decode cX7_when 58 = .ok (.invokestatic 117, 3) := by decide +kernel
theorem dX7_when_61 : decode cX7_when 61 = .ok (.iload_n 3, 1) := by decide +kernel
theorem dX7_when_62 : decode cX7_when 62 = .ok (.iconst 1, 1) := by decide +kernel
theorem dX7_when_63 : decode cX7_when 63 = .ok (.if_icmp .ne 7, 3) := by decide +kernel
theorem dX7_when_66 : decode cX7_when 66 = .ok (.iconst 1, 1) := by decide +kernel
theorem dX7_when_67 : decode cX7_when 67 = .ok (.goto 4, 3) := by decide +kernel
theorem dX7_when_70 : decode cX7_when 70 = .ok (.iconst 0, 1) := by decide +kernel
theorem dX7_when_71 : decode cX7_when 71 = .ok (.if_icmp .ne 6, 3) := by decide +kernel
theorem dX7_when_74 : decode cX7_when 74 = .ok (.iload 4, 2) := by decide +kernel
theorem dX7_when_76 : decode cX7_when 76 = .ok (.ireturn, 1) := by decide +kernel
theorem dX7_when_77 : decode cX7_when 77 = .ok (.aload_n 0, 1) := by decide +kernel
theorem dX7_when_78 : decode cX7_when 78 = .ok (.iload 4, 2) := by decide +kernel
theorem dX7_when_80 : decode cX7_when 80 = .ok (.invokevirtual 148, 3) := by decide +kernel
theorem dX7_when_83 : decode cX7_when 83 = .ok (.istore 4, 2) := by decide +kernel
theorem dX7_when_85 : decode cX7_when 85 = .ok (.iinc 5 1, 3) := by decide +kernel
theorem dX7_when_88 : decode cX7_when 88 = .ok (.goto (-57), 3) := by decide +kernel
theorem dX7_when_91 : decode cX7_when 91 = .ok (.bipush (-6), 2) := by decide +kernel
theorem dX7_when_93 : decode cX7_when 93 = .ok (.ireturn, 1) := by decide +kernel
theorem dX7_fewest_0 : decode cX7_fewest 0 = .ok (.iload_n 1, 1) := by decide +kernel
theorem dX7_fewest_1 : decode cX7_fewest 1 = .ok (.iload_n 2, 1) := by decide +kernel
theorem dX7_fewest_2 : decode cX7_fewest 2 = .ok (.invokestatic 142, 3) := by decide +kernel
theorem dX7_fewest_5 : decode cX7_fewest 5 = .ok (.ifCond .ne 5, 3) := by decide +kernel
theorem dX7_fewest_8 : decode cX7_fewest 8 = .ok (.iconst (-1), 1) := by decide +kernel
theorem dX7_fewest_9 : decode cX7_fewest 9 = .ok (.ireturn, 1) := by decide +kernel
theorem dX7_fewest_10 : decode cX7_fewest 10 = .ok (.iload_n 3, 1) := by decide +kernel
theorem dX7_fewest_11 : decode cX7_fewest 11 = .ok (.iconst 0, 1) := by decide +kernel
theorem dX7_fewest_12 : decode cX7_fewest 12 = .ok (.iconst 1, 1) := by decide +kernel
theorem dX7_fewest_13 : decode cX7_fewest 13 = .ok (.invokestatic 66, 3) := by decide +kernel
theorem dX7_fewest_16 : decode cX7_fewest 16 = .ok (.ifCond .ne 6, 3) := by decide +kernel
theorem dX7_fewest_19 : decode cX7_fewest 19 = .ok (.bipush (-2), 2) := by decide +kernel
theorem dX7_fewest_21 : decode cX7_fewest 21 = .ok (.ireturn, 1) := by decide +kernel
theorem dX7_fewest_22 : decode cX7_fewest 22 = .ok (.aload_n 0, 1) := by decide +kernel
theorem dX7_fewest_23 : decode cX7_fewest 23 = .ok (.aload_n 0, 1) := by decide +kernel
theorem dX7_fewest_24 : decode cX7_fewest 24 = .ok (.getfield 114, 3) := by decide +kernel
theorem dX7_fewest_27 : decode cX7_fewest 27 = .ok (.bipush (-6), 2) := by decide +kernel
theorem dX7_fewest_29 : decode cX7_fewest 29 = .ok (.invokevirtual 89, 3) := by decide +kernel
theorem dX7_fewest_32 : decode cX7_fewest 32 = .ok (.pop, 1) := by decide +kernel
theorem dX7_fewest_33 : decode cX7_fewest 33 = .ok (.iload_n 1, 1) := by decide +kernel
theorem dX7_fewest_34 : decode cX7_fewest 34 = .ok (.iload_n 2, 1) := by decide +kernel
theorem dX7_fewest_35 : decode cX7_fewest 35 = .ok (.invokestatic 78, 3) := by decide +kernel
theorem dX7_fewest_38 : decode cX7_fewest 38 = .ok (.istore 4, 2) := by decide +kernel
theorem dX7_fewest_40 : decode cX7_fewest 40 = .ok (.bipush 9, 2) := by decide +kernel
theorem dX7_fewest_42 : decode cX7_fewest 42 = .ok (.iload_n 2, 1) := by decide +kernel
theorem dX7_fewest_43 : decode cX7_fewest 43 = .ok (.invokestatic 78, 3) := by decide +kernel
theorem dX7_fewest_46 : decode cX7_fewest 46 = .ok (.istore 5, 2) := by decide +kernel
theorem dX7_fewest_48 : decode cX7_fewest 48 = .ok (.iload_n 3, 1) := by decide +kernel
theorem dX7_fewest_49 : decode cX7_fewest 49 = .ok (.ifCond .ne 7, 3) := by decide +kernel
theorem dX7_fewest_52 : decode cX7_fewest 52 = .ok (.iconst (-1), 1) := by decide +kernel
theorem dX7_fewest_53 : decode cX7_fewest 53 = .ok (.goto 4, 3) := by decide +kernel
theorem dX7_fewest_56 : decode cX7_fewest 56 = .ok (.iconst 1, 1) := by decide +kernel
theorem dX7_fewest_57 : decode cX7_fewest 57 = .ok (.istore 6, 2) := by decide +kernel
theorem dX7_fewest_59 : decode cX7_fewest 59 = .ok (.iload_n 3, 1) := by decide +kernel
theorem dX7_fewest_60 : decode cX7_fewest 60 = .ok (.ifCond .ne 13, 3) := by decide +kernel
theorem dX7_fewest_63 : decode cX7_fewest 63 = .ok (.aload_n 0, 1) := by decide +kernel
theorem dX7_fewest_64 : decode cX7_fewest 64 = .ok (.getfield 37, 3) := by decide +kernel
theorem dX7_fewest_67 : decode cX7_fewest 67 = .ok (.iload 4, 2) := by decide +kernel
theorem dX7_fewest_69 : decode cX7_fewest 69 = .ok (.iaload, 1) := by decide +kernel
theorem dX7_fewest_70 : decode cX7_fewest 70 = .ok (.goto 21, 3) := by decide +kernel
theorem dX7_fewest_73 : decode cX7_fewest 73 = .ok (.iload_n 1, 1) := by decide +kernel
theorem dX7_fewest_74 : decode cX7_fewest 74 = .ok (.iconst 4, 1) := by decide +kernel
theorem dX7_fewest_75 : decode cX7_fewest 75 = .ok (.iload_n 2, 1) := by decide +kernel
theorem dX7_fewest_76 : decode cX7_fewest 76 = .ok (.iadd, 1) := by decide +kernel
theorem dX7_fewest_77 : decode cX7_fewest 77 = .ok (.if_icmp .ne 7, 3) := by decide +kernel
theorem dX7_fewest_80 : decode cX7_fewest 80 = .ok (.iconst 0, 1) := by decide +kernel
theorem dX7_fewest_81 : decode cX7_fewest 81 = .ok (.goto 10, 3) := by decide +kernel
theorem dX7_fewest_84 : decode cX7_fewest 84 = .ok (.aload_n 0, 1) := by decide +kernel
theorem dX7_fewest_85 : decode cX7_fewest 85 = .ok (.getfield 37, 3) := by decide +kernel
theorem dX7_fewest_88 : decode cX7_fewest 88 = .ok (.iload 5, 2) := by decide +kernel
theorem dX7_fewest_90 : decode cX7_fewest 90 = .ok (.iaload, 1) := by decide +kernel
theorem dX7_fewest_91 : decode cX7_fewest 91 = .ok (.istore 7, 2) := by decide +kernel
theorem dX7_fewest_93 : decode cX7_fewest 93 = .ok (.iconst 0, 1) := by decide +kernel
theorem dX7_fewest_94 : decode cX7_fewest 94 = .ok (.istore 8, 2) := by decide +kernel
theorem dX7_fewest_96 : decode cX7_fewest 96 = .ok (.iload 8, 2) := by decide +kernel
theorem dX7_fewest_98 : decode cX7_fewest 98 = .ok (.iload 7, 2) := by decide +kernel
theorem dX7_fewest_100 : decode cX7_fewest 100 = .ok (.if_icmp .gt 58, 3) := by decide +kernel
theorem dX7_fewest_103 : decode cX7_fewest 103 = .ok (.aload_n 0, 1) := by decide +kernel
theorem dX7_fewest_104 : decode cX7_fewest 104 = .ok (.iload_n 1, 1) := by decide +kernel
theorem dX7_fewest_105 : decode cX7_fewest 105 = .ok (.invokevirtual 133, 3) := by decide +kernel
theorem dX7_fewest_108 : decode cX7_fewest 108 = .ok (.iload_n 2, 1) := by decide +kernel
theorem dX7_fewest_109 : decode cX7_fewest 109 = .ok (.invokestatic 117, 3) := by decide +kernel
theorem dX7_fewest_112 : decode cX7_fewest 112 = .ok (.iload_n 3, 1) := by decide +kernel
theorem dX7_fewest_113 : decode cX7_fewest 113 = .ok (.iconst 1, 1) := by decide +kernel
theorem dX7_fewest_114 : decode cX7_fewest 114 = .ok (.if_icmp .ne 7, 3) := by decide +kernel
theorem dX7_fewest_117 : decode cX7_fewest 117 = .ok (.iconst 1, 1) := by decide +kernel
theorem dX7_fewest_118 : decode cX7_fewest 118 = .ok (.goto 4, 3) := by decide +kernel
theorem dX7_fewest_121 : decode cX7_fewest 121 = .ok (.iconst 0, 1) := by decide +kernel
theorem dX7_fewest_122 : decode cX7_fewest 122 = .ok (.if_icmp .ne 6, 3) := by decide +kernel
theorem dX7_fewest_125 : decode cX7_fewest 125 = .ok (.iload 8, 2) := by decide +kernel
theorem dX7_fewest_127 : decode cX7_fewest 127 = .ok (.ireturn, 1) := by decide +kernel
theorem dX7_fewest_128 : decode cX7_fewest 128 = .ok (.aload_n 0, 1) := by decide +kernel
theorem dX7_fewest_129 : decode cX7_fewest 129 = .ok (.getfield 37, 3) := by decide +kernel
theorem dX7_fewest_132 : decode cX7_fewest 132 = .ok (.iload 4, 2) := by decide +kernel
theorem dX7_fewest_134 : decode cX7_fewest 134 = .ok (.dup2, 1) := by decide +kernel
theorem dX7_fewest_135 : decode cX7_fewest 135 = .ok (.iaload, 1) := by decide +kernel
theorem dX7_fewest_136 : decode cX7_fewest 136 = .ok (.iload 6, 2) := by decide +kernel
theorem dX7_fewest_138 : decode cX7_fewest 138 = .ok (.iadd, 1) := by decide +kernel
theorem dX7_fewest_139 : decode cX7_fewest 139 = .ok (.iastore, 1) := by decide +kernel
theorem dX7_fewest_140 : decode cX7_fewest 140 = .ok (.aload_n 0, 1) := by decide +kernel
theorem dX7_fewest_141 : decode cX7_fewest 141 = .ok (.getfield 37, 3) := by decide +kernel
theorem dX7_fewest_144 : decode cX7_fewest 144 = .ok (.iload 5, 2) := by decide +kernel
theorem dX7_fewest_146 : decode cX7_fewest 146 = .ok (.dup2, 1) := by decide +kernel
theorem dX7_fewest_147 : decode cX7_fewest 147 = .ok (.iaload, 1) := by decide +kernel
theorem dX7_fewest_148 : decode cX7_fewest 148 = .ok (.iload 6, 2) := by decide +kernel
theorem dX7_fewest_150 : decode cX7_fewest 150 = .ok (.isub, 1) := by decide +kernel
theorem dX7_fewest_151 : decode cX7_fewest 151 = .ok (.iastore, 1) := by decide +kernel
theorem dX7_fewest_152 : decode cX7_fewest 152 = .ok (.iinc 8 1, 3) := by decide +kernel
theorem dX7_fewest_155 : decode cX7_fewest 155 = .ok (.goto (-59), 3) := by decide +kernel
theorem dX7_fewest_158 : decode cX7_fewest 158 = .ok (.bipush (-6), 2) := by decide +kernel
theorem dX7_fewest_160 : decode cX7_fewest 160 = .ok (.ireturn, 1) := by decide +kernel
theorem dX7_events_0 : decode cX7_events 0 = .ok (.iconst 0, 1) := by decide +kernel
theorem dX7_events_1 : decode cX7_events 1 = .ok (.istore_n 2, 1) := by decide +kernel
theorem dX7_events_2 : decode cX7_events 2 = .ok (.iconst 0, 1) := by decide +kernel
theorem dX7_events_3 : decode cX7_events 3 = .ok (.istore_n 3, 1) := by decide +kernel
theorem dX7_events_4 : decode cX7_events 4 = .ok (.iload_n 3, 1) := by decide +kernel
theorem dX7_events_5 : decode cX7_events 5 = .ok (.bipush 9, 2) := by decide +kernel
theorem dX7_events_7 : decode cX7_events 7 = .ok (.if_icmp .ge 16, 3) := by decide +kernel
theorem dX7_events_10 : decode cX7_events 10 = .ok (.aload_n 0, 1) := by decide +kernel
theorem dX7_events_11 : decode cX7_events 11 = .ok (.getfield 47, 3) := by decide +kernel
theorem dX7_events_14 : decode cX7_events 14 = .ok (.iload_n 3, 1) := by decide +kernel
theorem dX7_events_15 : decode cX7_events 15 = .ok (.iconst 0, 1) := by decide +kernel
theorem dX7_events_16 : decode cX7_events 16 = .ok (.iastore, 1) := by decide +kernel
theorem dX7_events_17 : decode cX7_events 17 = .ok (.iinc 3 1, 3) := by decide +kernel
theorem dX7_events_20 : decode cX7_events 20 = .ok (.goto (-16), 3) := by decide +kernel
theorem dX7_events_23 : decode cX7_events 23 = .ok (.aload_n 0, 1) := by decide +kernel
theorem dX7_events_24 : decode cX7_events 24 = .ok (.iconst (-1), 1) := by decide +kernel
theorem dX7_events_25 : decode cX7_events 25 = .ok (.invokevirtual 148, 3) := by decide +kernel
theorem dX7_events_28 : decode cX7_events 28 = .ok (.istore_n 3, 1) := by decide +kernel
theorem dX7_events_29 : decode cX7_events 29 = .ok (.iconst 0, 1) := by decide +kernel
theorem dX7_events_30 : decode cX7_events 30 = .ok (.istore 4, 2) := by decide +kernel
theorem dX7_events_32 : decode cX7_events 32 = .ok (.iload 4, 2) := by decide +kernel
theorem dX7_events_34 : decode cX7_events 34 = .ok (.bipush 40, 2) := by decide +kernel
theorem dX7_events_36 : decode cX7_events 36 = .ok (.if_icmp .ge 133, 3) := by decide +kernel
theorem dX7_events_39 : decode cX7_events 39 = .ok (.iload_n 3, 1) := by decide +kernel
theorem dX7_events_40 : decode cX7_events 40 = .ok (.ifCond .lt 129, 3) := by decide +kernel
theorem dX7_events_43 : decode cX7_events 43 = .ok (.aload_n 0, 1) := by decide +kernel
theorem dX7_events_44 : decode cX7_events 44 = .ok (.iload_n 3, 1) := by decide +kernel
theorem dX7_events_45 : decode cX7_events 45 = .ok (.bipush (-6), 2) := by decide +kernel
theorem dX7_events_47 : decode cX7_events 47 = .ok (.invokevirtual 89, 3) := by decide +kernel
theorem dX7_events_50 : decode cX7_events 50 = .ok (.pop, 1) := by decide +kernel
theorem dX7_events_51 : decode cX7_events 51 = .ok (.iconst 0, 1) := by decide +kernel
theorem dX7_events_52 : decode cX7_events 52 = .ok (.istore 5, 2) := by decide +kernel
theorem dX7_events_54 : decode cX7_events 54 = .ok (.iload 5, 2) := by decide +kernel
theorem dX7_events_56 : decode cX7_events 56 = .ok (.bipush 9, 2) := by decide +kernel
theorem dX7_events_58 : decode cX7_events 58 = .ok (.if_icmp .ge 99, 3) := by decide +kernel
theorem dX7_events_61 : decode cX7_events 61 = .ok (.aload_n 0, 1) := by decide +kernel
theorem dX7_events_62 : decode cX7_events 62 = .ok (.iload 5, 2) := by decide +kernel
theorem dX7_events_64 : decode cX7_events 64 = .ok (.invokevirtual 133, 3) := by decide +kernel
theorem dX7_events_67 : decode cX7_events 67 = .ok (.istore 6, 2) := by decide +kernel
theorem dX7_events_69 : decode cX7_events 69 = .ok (.iconst 0, 1) := by decide +kernel
theorem dX7_events_70 : decode cX7_events 70 = .ok (.istore 7, 2) := by decide +kernel
theorem dX7_events_72 : decode cX7_events 72 = .ok (.iload 7, 2) := by decide +kernel
theorem dX7_events_74 : decode cX7_events 74 = .ok (.iconst 5, 1) := by decide +kernel
theorem dX7_events_75 : decode cX7_events 75 = .ok (.if_icmp .ge 67, 3) := by decide +kernel
theorem dX7_events_78 : decode cX7_events 78 = .ok (.iload 6, 2) := by decide +kernel
theorem dX7_events_80 : decode cX7_events 80 = .ok (.iload 7, 2) := by decide +kernel
theorem dX7_events_82 : decode cX7_events 82 = .ok (.invokestatic 117, 3) := by decide +kernel
theorem dX7_events_85 : decode cX7_events 85 = .ok (.aload_n 0, 1) := by decide +kernel
theorem dX7_events_86 : decode cX7_events 86 = .ok (.getfield 47, 3) := by decide +kernel
theorem dX7_events_89 : decode cX7_events 89 = .ok (.iload 5, 2) := by decide +kernel
theorem dX7_events_91 : decode cX7_events 91 = .ok (.iaload, 1) := by decide +kernel
theorem dX7_events_92 : decode cX7_events 92 = .ok (.iload 7, 2) := by decide +kernel
theorem dX7_events_94 : decode cX7_events 94 = .ok (.invokestatic 117, 3) := by decide +kernel
theorem dX7_events_97 : decode cX7_events 97 = .ok (.if_icmp .eq 39, 3) := by decide +kernel
theorem dX7_events_100 : decode cX7_events 100 = .ok (.iload_n 2, 1) := by decide +kernel
theorem dX7_events_101 : decode cX7_events 101 = .ok (.iload_n 1, 1) := by decide +kernel
theorem dX7_events_102 : decode cX7_events 102 = .ok (.if_icmp .ne 31, 3) := by decide +kernel
theorem dX7_events_105 : decode cX7_events 105 = .ok (.aload_n 0, 1) := by decide +kernel
theorem dX7_events_106 : decode cX7_events 106 = .ok (.iload_n 3, 1) := by decide +kernel
theorem dX7_events_107 : decode cX7_events 107 = .ok (.putfield 151, 3) := by decide +kernel
theorem dX7_events_110 : decode cX7_events 110 = .ok (.aload_n 0, 1) := by decide +kernel
theorem dX7_events_111 : decode cX7_events 111 = .ok (.iload 5, 2) := by decide +kernel
theorem dX7_events_113 : decode cX7_events 113 = .ok (.putfield 154, 3) := by decide +kernel
theorem dX7_events_116 : decode cX7_events 116 = .ok (.aload_n 0, 1) := by decide +kernel
theorem dX7_events_117 : decode cX7_events 117 = .ok (.iload 7, 2) := by decide +kernel
theorem dX7_events_119 : decode cX7_events 119 = .ok (.putfield 157, 3) := by decide +kernel
theorem dX7_events_122 : decode cX7_events 122 = .ok (.aload_n 0, 1) := by decide +kernel
theorem dX7_events_123 : decode cX7_events 123 = .ok (.iload 6, 2) := by decide +kernel
theorem dX7_events_125 : decode cX7_events 125 = .ok (.iload 7, 2) := by decide +kernel
theorem dX7_events_127 : decode cX7_events 127 = .ok (.ishr, 1) := by decide +kernel
theorem dX7_events_128 : decode cX7_events 128 = .ok (.iconst 1, 1) := by decide +kernel
theorem dX7_events_129 : decode cX7_events 129 = .ok (.iand, 1) := by decide +kernel
theorem dX7_events_130 : decode cX7_events 130 = .ok (.putfield 160, 3) := by decide +kernel
theorem dX7_events_133 : decode cX7_events 133 = .ok (.iinc 2 1, 3) := by decide +kernel
theorem dX7_events_136 : decode cX7_events 136 = .ok (.iinc 7 1, 3) := by decide +kernel
theorem dX7_events_139 : decode cX7_events 139 = .ok (.goto (-67), 3) := by decide +kernel
theorem dX7_events_142 : decode cX7_events 142 = .ok (.aload_n 0, 1) := by decide +kernel
theorem dX7_events_143 : decode cX7_events 143 = .ok (.getfield 47, 3) := by decide +kernel
theorem dX7_events_146 : decode cX7_events 146 = .ok (.iload 5, 2) := by decide +kernel
theorem dX7_events_148 : decode cX7_events 148 = .ok (.iload 6, 2) := by decide +kernel
theorem dX7_events_150 : decode cX7_events 150 = .ok (.iastore, 1) := by decide +kernel
theorem dX7_events_151 : decode cX7_events 151 = .ok (.iinc 5 1, 3) := by decide +kernel
theorem dX7_events_154 : decode cX7_events 154 = .ok (.goto (-100), 3) := by decide +kernel
theorem dX7_events_157 : decode cX7_events 157 = .ok (.aload_n 0, 1) := by decide +kernel
theorem dX7_events_158 : decode cX7_events 158 = .ok (.iload_n 3, 1) := by decide +kernel
theorem dX7_events_159 : decode cX7_events 159 = .ok (.invokevirtual 148, 3) := by decide +kernel
theorem dX7_events_162 : decode cX7_events 162 = .ok (.istore_n 3, 1) := by decide +kernel
theorem dX7_events_163 : decode cX7_events 163 = .ok (.iinc 4 1, 3) := by decide +kernel
theorem dX7_events_166 : decode cX7_events 166 = .ok (.goto (-134), 3) := by decide +kernel
theorem dX7_events_169 : decode cX7_events 169 = .ok (.iload_n 2, 1) := by decide +kernel
theorem dX7_events_170 : decode cX7_events 170 = .ok (.ireturn, 1) := by decide +kernel
theorem dX7_event_0 : decode cX7_event 0 = .ok (.iload_n 2, 1) := by decide +kernel
theorem dX7_event_1 : decode cX7_event 1 = .ok (.iconst 0, 1) := by decide +kernel
theorem dX7_event_2 : decode cX7_event 2 = .ok (.iconst 3, 1) := by decide +kernel
theorem dX7_event_3 : decode cX7_event 3 = .ok (.invokestatic 66, 3) := by decide +kernel
theorem dX7_event_6 : decode cX7_event 6 = .ok (.ifCond .ne 6, 3) := by decide +kernel
theorem dX7_event_9 : decode cX7_event 9 = .ok (.bipush (-2), 2) := by decide +kernel
theorem dX7_event_11 : decode cX7_event 11 = .ok (.ireturn, 1) := by decide +kernel
theorem dX7_event_12 : decode cX7_event 12 = .ok (.iload_n 1, 1) := by decide +kernel
theorem dX7_event_13 : decode cX7_event 13 = .ok (.ifCond .lt 12, 3) := by decide +kernel
theorem dX7_event_16 : decode cX7_event 16 = .ok (.iload_n 1, 1) := by decide +kernel
theorem dX7_event_17 : decode cX7_event 17 = .ok (.aload_n 0, 1) := by decide +kernel
theorem dX7_event_18 : decode cX7_event 18 = .ok (.iload_n 1, 1) := by decide +kernel
theorem dX7_event_19 : decode cX7_event 19 = .ok (.invokevirtual 163, 3) := by decide +kernel
theorem dX7_event_22 : decode cX7_event 22 = .ok (.if_icmp .lt 6, 3) := by decide +kernel
theorem dX7_event_25 : decode cX7_event 25 = .ok (.bipush (-6), 2) := by decide +kernel
theorem dX7_event_27 : decode cX7_event 27 = .ok (.ireturn, 1) := by decide +kernel
theorem dX7_event_28 : decode cX7_event 28 = .ok (.iload_n 2, 1) := by decide +kernel
theorem dX7_event_29 : decode cX7_event 29 = .ok (.ifCond .ne 10, 3) := by decide +kernel
theorem dX7_event_32 : decode cX7_event 32 = .ok (.aload_n 0, 1) := by decide +kernel
theorem dX7_event_33 : decode cX7_event 33 = .ok (.getfield 151, 3) := by decide +kernel
theorem dX7_event_36 : decode cX7_event 36 = .ok (.goto 31, 3) := by decide +kernel
theorem dX7_event_39 : decode cX7_event 39 = .ok (.iload_n 2, 1) := by decide +kernel
theorem dX7_event_40 : decode cX7_event 40 = .ok (.iconst 1, 1) := by decide +kernel
theorem dX7_event_41 : decode cX7_event 41 = .ok (.if_icmp .ne 10, 3) := by decide +kernel
theorem dX7_event_44 : decode cX7_event 44 = .ok (.aload_n 0, 1) := by decide +kernel
theorem dX7_event_45 : decode cX7_event 45 = .ok (.getfield 154, 3) := by decide +kernel
theorem dX7_event_48 : decode cX7_event 48 = .ok (.goto 19, 3) := by decide +kernel
theorem dX7_event_51 : decode cX7_event 51 = .ok (.iload_n 2, 1) := by decide +kernel
theorem dX7_event_52 : decode cX7_event 52 = .ok (.iconst 2, 1) := by decide +kernel
theorem dX7_event_53 : decode cX7_event 53 = .ok (.if_icmp .ne 10, 3) := by decide +kernel
theorem dX7_event_56 : decode cX7_event 56 = .ok (.aload_n 0, 1) := by decide +kernel
theorem dX7_event_57 : decode cX7_event 57 = .ok (.getfield 157, 3) := by decide +kernel
theorem dX7_event_60 : decode cX7_event 60 = .ok (.goto 7, 3) := by decide +kernel
theorem dX7_event_63 : decode cX7_event 63 = .ok (.aload_n 0, 1) := by decide +kernel
theorem dX7_event_64 : decode cX7_event 64 = .ok (.getfield 160, 3) := by decide +kernel
theorem dX7_event_67 : decode cX7_event 67 = .ok (.ireturn, 1) := by decide +kernel
theorem dX7_locked_0 : decode cX7_locked 0 = .ok (.iconst 0, 1) := by decide +kernel
theorem dX7_locked_1 : decode cX7_locked 1 = .ok (.istore_n 1, 1) := by decide +kernel
theorem dX7_locked_2 : decode cX7_locked 2 = .ok (.iconst 1, 1) := by decide +kernel
theorem dX7_locked_3 : decode cX7_locked 3 = .ok (.istore_n 2, 1) := by decide +kernel
theorem dX7_locked_4 : decode cX7_locked 4 = .ok (.iload_n 2, 1) := by decide +kernel
theorem dX7_locked_5 : decode cX7_locked 5 = .ok (.bipush 32, 2) := by decide +kernel
theorem dX7_locked_7 : decode cX7_locked 7 = .ok (.if_icmp .ge 114, 3) := by decide +kernel
theorem dX7_locked_10 : decode cX7_locked 10 = .ok (.iconst 1, 1) := by decide +kernel
theorem dX7_locked_11 : decode cX7_locked 11 = .ok (.istore_n 3, 1) := by decide +kernel
theorem dX7_locked_12 : decode cX7_locked 12 = .ok (.iconst 0, 1) := by decide +kernel
theorem dX7_locked_13 : decode cX7_locked 13 = .ok (.istore 4, 2) := by decide +kernel
theorem dX7_locked_15 : decode cX7_locked 15 = .ok (.iload 4, 2) := by decide +kernel
theorem dX7_locked_17 : decode cX7_locked 17 = .ok (.iconst 5, 1) := by decide +kernel
theorem dX7_locked_18 : decode cX7_locked 18 = .ok (.if_icmp .ge 85, 3) := by decide +kernel
theorem dX7_locked_21 : decode cX7_locked 21 = .ok (.iconst 0, 1) := by decide +kernel
theorem dX7_locked_22 : decode cX7_locked 22 = .ok (.istore 5, 2) := by decide +kernel
theorem dX7_locked_24 : decode cX7_locked 24 = .ok (.iconst 0, 1) := by decide +kernel
theorem dX7_locked_25 : decode cX7_locked 25 = .ok (.istore 6, 2) := by decide +kernel
theorem dX7_locked_27 : decode cX7_locked 27 = .ok (.iload 6, 2) := by decide +kernel
theorem dX7_locked_29 : decode cX7_locked 29 = .ok (.iconst 5, 1) := by decide +kernel
theorem dX7_locked_30 : decode cX7_locked 30 = .ok (.if_icmp .ge 41, 3) := by decide +kernel
theorem dX7_locked_33 : decode cX7_locked 33 = .ok (.iload 5, 2) := by decide +kernel
theorem dX7_locked_35 : decode cX7_locked 35 = .ok (.iload_n 2, 1) := by decide +kernel
theorem dX7_locked_36 : decode cX7_locked 36 = .ok (.iload 6, 2) := by decide +kernel
theorem dX7_locked_38 : decode cX7_locked 38 = .ok (.invokestatic 117, 3) := by decide +kernel
theorem dX7_locked_41 : decode cX7_locked 41 = .ok (.ifCond .eq 20, 3) := by decide +kernel
theorem dX7_locked_44 : decode cX7_locked 44 = .ok (.aload_n 0, 1) := by decide +kernel
theorem dX7_locked_45 : decode cX7_locked 45 = .ok (.getfield 34, 3) := by decide +kernel
theorem dX7_locked_48 : decode cX7_locked 48 = .ok (.iconst 4, 1) := by decide +kernel
theorem dX7_locked_49 : decode cX7_locked 49 = .ok (.iload 6, 2) := by decide +kernel
theorem dX7_locked_51 : decode cX7_locked 51 = .ok (.iadd, 1) := by decide +kernel
theorem dX7_locked_52 : decode cX7_locked 52 = .ok (.iload 4, 2) := by decide +kernel
theorem dX7_locked_54 : decode cX7_locked 54 = .ok (.invokestatic 78, 3) := by decide +kernel
theorem dX7_locked_57 : decode cX7_locked 57 = .ok (.iaload, 1) := by decide +kernel
theorem dX7_locked_58 : decode cX7_locked 58 = .ok (.goto 4, 3) := by decide +kernel
theorem dX7_locked_61 : decode cX7_locked 61 = .ok (.iconst 0, 1) := by decide +kernel
theorem dX7_locked_62 : decode cX7_locked 62 = .ok (.iadd, 1) := by decide +kernel
theorem dX7_locked_63 : decode cX7_locked 63 = .ok (.istore 5, 2) := by decide +kernel
theorem dX7_locked_65 : decode cX7_locked 65 = .ok (.iinc 6 1, 3) := by decide +kernel
theorem dX7_locked_68 : decode cX7_locked 68 = .ok (.goto (-41), 3) := by decide +kernel
theorem dX7_locked_71 : decode cX7_locked 71 = .ok (.iload_n 3, 1) := by decide +kernel
theorem dX7_locked_72 : decode cX7_locked 72 = .ok (.ifCond .eq 23, 3) := by decide +kernel
theorem dX7_locked_75 : decode cX7_locked 75 = .ok (.iload_n 2, 1) := by decide +kernel
theorem dX7_locked_76 : decode cX7_locked 76 = .ok (.iload 4, 2) := by decide +kernel
theorem dX7_locked_78 : decode cX7_locked 78 = .ok (.invokestatic 117, 3) := by decide +kernel
theorem dX7_locked_81 : decode cX7_locked 81 = .ok (.ifCond .eq 10, 3) := by decide +kernel
theorem dX7_locked_84 : decode cX7_locked 84 = .ok (.iload 5, 2) := by decide +kernel
theorem dX7_locked_86 : decode cX7_locked 86 = .ok (.bipush 100, 2) := by decide +kernel
theorem dX7_locked_88 : decode cX7_locked 88 = .ok (.if_icmp .ne 7, 3) := by decide +kernel
theorem dX7_locked_91 : decode cX7_locked 91 = .ok (.iconst 1, 1) := by decide +kernel
theorem dX7_locked_92 : decode cX7_locked 92 = .ok (.goto 4, 3) := by decide +kernel
theorem dX7_locked_95 : decode cX7_locked 95 = .ok (.iconst 0, 1) := by decide +kernel
theorem dX7_locked_96 : decode cX7_locked 96 = .ok (.istore_n 3, 1) := by decide +kernel
theorem dX7_locked_97 : decode cX7_locked 97 = .ok (.iinc 4 1, 3) := by decide +kernel
theorem dX7_locked_100 : decode cX7_locked 100 = .ok (.goto (-85), 3) := by decide +kernel
theorem dX7_locked_103 : decode cX7_locked 103 = .ok (.iload_n 1, 1) := by decide +kernel
theorem dX7_locked_104 : decode cX7_locked 104 = .ok (.iload_n 3, 1) := by decide +kernel
theorem dX7_locked_105 : decode cX7_locked 105 = .ok (.ifCond .eq 7, 3) := by decide +kernel
theorem dX7_locked_108 : decode cX7_locked 108 = .ok (.iload_n 2, 1) := by decide +kernel
theorem dX7_locked_109 : decode cX7_locked 109 = .ok (.goto 4, 3) := by decide +kernel
theorem dX7_locked_112 : decode cX7_locked 112 = .ok (.iconst 0, 1) := by decide +kernel
theorem dX7_locked_113 : decode cX7_locked 113 = .ok (.ior, 1) := by decide +kernel
theorem dX7_locked_114 : decode cX7_locked 114 = .ok (.istore_n 1, 1) := by decide +kernel
theorem dX7_locked_115 : decode cX7_locked 115 = .ok (.iinc 2 1, 3) := by decide +kernel
theorem dX7_locked_118 : decode cX7_locked 118 = .ok (.goto (-114), 3) := by decide +kernel
theorem dX7_locked_121 : decode cX7_locked 121 = .ok (.iload_n 1, 1) := by decide +kernel
theorem dX7_locked_122 : decode cX7_locked 122 = .ok (.ireturn, 1) := by decide +kernel
theorem dX7_over_0 : decode cX7_over 0 = .ok (.iload_n 0, 1) := by decide +kernel
theorem dX7_over_1 : decode cX7_over 1 = .ok (.iload_n 1, 1) := by decide +kernel
theorem dX7_over_2 : decode cX7_over 2 = .ok (.if_icmp .le 7, 3) := by decide +kernel
theorem dX7_over_5 : decode cX7_over 5 = .ok (.iconst 1, 1) := by decide +kernel
theorem dX7_over_6 : decode cX7_over 6 = .ok (.goto 4, 3) := by decide +kernel
theorem dX7_over_9 : decode cX7_over 9 = .ok (.iconst 0, 1) := by decide +kernel
theorem dX7_over_10 : decode cX7_over 10 = .ok (.ireturn, 1) := by decide +kernel
theorem dX7_determinant_0 : decode cX7_determinant 0 = .ok (.lconst 0, 1) := by decide +kernel
theorem dX7_determinant_1 : decode cX7_determinant 1 = .ok (.lstore_n 1, 1) := by decide +kernel
theorem dX7_determinant_2 : decode cX7_determinant 2 = .ok (.iconst 0, 1) := by decide +kernel
theorem dX7_determinant_3 : decode cX7_determinant 3 = .ok (.istore_n 3, 1) := by decide +kernel
theorem dX7_determinant_4 : decode cX7_determinant 4 = .ok (.iload_n 3, 1) := by decide +kernel
theorem dX7_determinant_5 : decode cX7_determinant 5 = .ok (.sipush 3125, 3) := by decide +kernel
theorem dX7_determinant_8 : decode cX7_determinant 8 = .ok (.if_icmp .ge 224, 3) := by decide +kernel
theorem dX7_determinant_11 : decode cX7_determinant 11 = .ok (.iload_n 3, 1) := by decide +kernel
theorem dX7_determinant_12 : decode cX7_determinant 12 = .ok (.sipush 625, 3) := by decide +kernel
theorem dX7_determinant_15 : decode cX7_determinant 15 = .ok (.idiv, 1) := by decide +kernel
theorem dX7_determinant_16 : decode cX7_determinant 16 = .ok (.istore 4, 2) := by decide +kernel
theorem dX7_determinant_18 : decode cX7_determinant 18 = .ok (.iload_n 3, 1) := by decide +kernel
theorem dX7_determinant_19 : decode cX7_determinant 19 = .ok (.bipush 125, 2) := by decide +kernel
theorem dX7_determinant_21 : decode cX7_determinant 21 = .ok (.idiv, 1) := by decide +kernel
theorem dX7_determinant_22 : decode cX7_determinant 22 = .ok (.iconst 5, 1) := by decide +kernel
theorem dX7_determinant_23 : decode cX7_determinant 23 = .ok (.irem, 1) := by decide +kernel
theorem dX7_determinant_24 : decode cX7_determinant 24 = .ok (.istore 5, 2) := by decide +kernel
theorem dX7_determinant_26 : decode cX7_determinant 26 = .ok (.iload_n 3, 1) := by decide +kernel
theorem dX7_determinant_27 : decode cX7_determinant 27 = .ok (.bipush 25, 2) := by decide +kernel
theorem dX7_determinant_29 : decode cX7_determinant 29 = .ok (.idiv, 1) := by decide +kernel
theorem dX7_determinant_30 : decode cX7_determinant 30 = .ok (.iconst 5, 1) := by decide +kernel
theorem dX7_determinant_31 : decode cX7_determinant 31 = .ok (.irem, 1) := by decide +kernel
theorem dX7_determinant_32 : decode cX7_determinant 32 = .ok (.istore 6, 2) := by decide +kernel
theorem dX7_determinant_34 : decode cX7_determinant 34 = .ok (.iload_n 3, 1) := by decide +kernel
theorem dX7_determinant_35 : decode cX7_determinant 35 = .ok (.iconst 5, 1) := by decide +kernel
theorem dX7_determinant_36 : decode cX7_determinant 36 = .ok (.idiv, 1) := by decide +kernel
theorem dX7_determinant_37 : decode cX7_determinant 37 = .ok (.iconst 5, 1) := by decide +kernel
theorem dX7_determinant_38 : decode cX7_determinant 38 = .ok (.irem, 1) := by decide +kernel
theorem dX7_determinant_39 : decode cX7_determinant 39 = .ok (.istore 7, 2) := by decide +kernel
theorem dX7_determinant_41 : decode cX7_determinant 41 = .ok (.iload_n 3, 1) := by decide +kernel
theorem dX7_determinant_42 : decode cX7_determinant 42 = .ok (.iconst 5, 1) := by decide +kernel
theorem dX7_determinant_43 : decode cX7_determinant 43 = .ok (.irem, 1) := by decide +kernel
theorem dX7_determinant_44 : decode cX7_determinant 44 = .ok (.istore 8, 2) := by decide +kernel
theorem dX7_determinant_46 : decode cX7_determinant 46 = .ok (.iconst 1, 1) := by decide +kernel
theorem dX7_determinant_47 : decode cX7_determinant 47 = .ok (.iload 4, 2) := by decide +kernel
theorem dX7_determinant_49 : decode cX7_determinant 49 = .ok (.ishl, 1) := by decide +kernel
theorem dX7_determinant_50 : decode cX7_determinant 50 = .ok (.iconst 1, 1) := by decide +kernel
theorem dX7_determinant_51 : decode cX7_determinant 51 = .ok (.iload 5, 2) := by decide +kernel
theorem dX7_determinant_53 : decode cX7_determinant 53 = .ok (.ishl, 1) := by decide +kernel
theorem dX7_determinant_54 : decode cX7_determinant 54 = .ok (.ior, 1) := by decide +kernel
theorem dX7_determinant_55 : decode cX7_determinant 55 = .ok (.iconst 1, 1) := by decide +kernel
theorem dX7_determinant_56 : decode cX7_determinant 56 = .ok (.iload 6, 2) := by decide +kernel
theorem dX7_determinant_58 : decode cX7_determinant 58 = .ok (.ishl, 1) := by decide +kernel
theorem dX7_determinant_59 : decode cX7_determinant 59 = .ok (.ior, 1) := by decide +kernel
theorem dX7_determinant_60 : decode cX7_determinant 60 = .ok (.iconst 1, 1) := by decide +kernel
theorem dX7_determinant_61 : decode cX7_determinant 61 = .ok (.iload 7, 2) := by decide +kernel
theorem dX7_determinant_63 : decode cX7_determinant 63 = .ok (.ishl, 1) := by decide +kernel
theorem dX7_determinant_64 : decode cX7_determinant 64 = .ok (.ior, 1) := by decide +kernel
theorem dX7_determinant_65 : decode cX7_determinant 65 = .ok (.iconst 1, 1) := by decide +kernel
theorem dX7_determinant_66 : decode cX7_determinant 66 = .ok (.iload 8, 2) := by decide +kernel
theorem dX7_determinant_68 : decode cX7_determinant 68 = .ok (.ishl, 1) := by decide +kernel
theorem dX7_determinant_69 : decode cX7_determinant 69 = .ok (.ior, 1) := by decide +kernel
theorem dX7_determinant_70 : decode cX7_determinant 70 = .ok (.bipush 31, 2) := by decide +kernel
theorem dX7_determinant_72 : decode cX7_determinant 72 = .ok (.if_icmp .ne 154, 3) := by decide +kernel
theorem dX7_determinant_75 : decode cX7_determinant 75 = .ok (.iload 4, 2) := by decide +kernel
theorem dX7_determinant_77 : decode cX7_determinant 77 = .ok (.iload 5, 2) := by decide +kernel
theorem dX7_determinant_79 : decode cX7_determinant 79 = .ok (.invokestatic 166, 3) := by decide +kernel
theorem dX7_determinant_82 : decode cX7_determinant 82 = .ok (.iload 4, 2) := by decide +kernel
theorem dX7_determinant_84 : decode cX7_determinant 84 = .ok (.iload 6, 2) := by decide +kernel
theorem dX7_determinant_86 : decode cX7_determinant 86 = .ok (.invokestatic 166, 3) := by decide +kernel
theorem dX7_determinant_89 : decode cX7_determinant 89 = .ok (.iadd, 1) := by decide +kernel
theorem dX7_determinant_90 : decode cX7_determinant 90 = .ok (.iload 4, 2) := by decide +kernel
theorem dX7_determinant_92 : decode cX7_determinant 92 = .ok (.iload 7, 2) := by decide +kernel
theorem dX7_determinant_94 : decode cX7_determinant 94 = .ok (.invokestatic 166, 3) := by decide +kernel
theorem dX7_determinant_97 : decode cX7_determinant 97 = .ok (.iadd, 1) := by decide +kernel
theorem dX7_determinant_98 : decode cX7_determinant 98 = .ok (.iload 4, 2) := by decide +kernel
theorem dX7_determinant_100 : decode cX7_determinant 100 = .ok (.iload 8, 2) := by decide +kernel
theorem dX7_determinant_102 : decode cX7_determinant 102 = .ok (.invokestatic 166, 3) := by decide +kernel
theorem dX7_determinant_105 : decode cX7_determinant 105 = .ok (.iadd, 1) := by decide +kernel
theorem dX7_determinant_106 : decode cX7_determinant 106 = .ok (.iload 5, 2) := by decide +kernel
theorem dX7_determinant_108 : decode cX7_determinant 108 = .ok (.iload 6, 2) := by decide +kernel
theorem dX7_determinant_110 : decode cX7_determinant 110 = .ok (.invokestatic 166, 3) := by decide +kernel
theorem dX7_determinant_113 : decode cX7_determinant 113 = .ok (.iadd, 1) := by decide +kernel
theorem dX7_determinant_114 : decode cX7_determinant 114 = .ok (.iload 5, 2) := by decide +kernel
theorem dX7_determinant_116 : decode cX7_determinant 116 = .ok (.iload 7, 2) := by decide +kernel
theorem dX7_determinant_118 : decode cX7_determinant 118 = .ok (.invokestatic 166, 3) := by decide +kernel
theorem dX7_determinant_121 : decode cX7_determinant 121 = .ok (.iadd, 1) := by decide +kernel
theorem dX7_determinant_122 : decode cX7_determinant 122 = .ok (.iload 5, 2) := by decide +kernel
theorem dX7_determinant_124 : decode cX7_determinant 124 = .ok (.iload 8, 2) := by decide +kernel
theorem dX7_determinant_126 : decode cX7_determinant 126 = .ok (.invokestatic 166, 3) := by decide +kernel
theorem dX7_determinant_129 : decode cX7_determinant 129 = .ok (.iadd, 1) := by decide +kernel
theorem dX7_determinant_130 : decode cX7_determinant 130 = .ok (.iload 6, 2) := by decide +kernel
theorem dX7_determinant_132 : decode cX7_determinant 132 = .ok (.iload 7, 2) := by decide +kernel
theorem dX7_determinant_134 : decode cX7_determinant 134 = .ok (.invokestatic 166, 3) := by decide +kernel
theorem dX7_determinant_137 : decode cX7_determinant 137 = .ok (.iadd, 1) := by decide +kernel
theorem dX7_determinant_138 : decode cX7_determinant 138 = .ok (.iload 6, 2) := by decide +kernel
theorem dX7_determinant_140 : decode cX7_determinant 140 = .ok (.iload 8, 2) := by decide +kernel
theorem dX7_determinant_142 : decode cX7_determinant 142 = .ok (.invokestatic 166, 3) := by decide +kernel
theorem dX7_determinant_145 : decode cX7_determinant 145 = .ok (.iadd, 1) := by decide +kernel
theorem dX7_determinant_146 : decode cX7_determinant 146 = .ok (.iload 7, 2) := by decide +kernel
theorem dX7_determinant_148 : decode cX7_determinant 148 = .ok (.iload 8, 2) := by decide +kernel
theorem dX7_determinant_150 : decode cX7_determinant 150 = .ok (.invokestatic 166, 3) := by decide +kernel
theorem dX7_determinant_153 : decode cX7_determinant 153 = .ok (.iadd, 1) := by decide +kernel
theorem dX7_determinant_154 : decode cX7_determinant 154 = .ok (.istore 9, 2) := by decide +kernel
theorem dX7_determinant_156 : decode cX7_determinant 156 = .ok (.aload_n 0, 1) := by decide +kernel
theorem dX7_determinant_157 : decode cX7_determinant 157 = .ok (.getfield 50, 3) := by decide +kernel
theorem dX7_determinant_160 : decode cX7_determinant 160 = .ok (.iload 4, 2) := by decide +kernel
theorem dX7_determinant_162 : decode cX7_determinant 162 = .ok (.laload, 1) := by decide +kernel
theorem dX7_determinant_163 : decode cX7_determinant 163 = .ok (.aload_n 0, 1) := by decide +kernel
theorem dX7_determinant_164 : decode cX7_determinant 164 = .ok (.getfield 50, 3) := by decide +kernel
theorem dX7_determinant_167 : decode cX7_determinant 167 = .ok (.iconst 5, 1) := by decide +kernel
theorem dX7_determinant_168 : decode cX7_determinant 168 = .ok (.iload 5, 2) := by decide +kernel
theorem dX7_determinant_170 : decode cX7_determinant 170 = .ok (.iadd, 1) := by decide +kernel
theorem dX7_determinant_171 : decode cX7_determinant 171 = .ok (.laload, 1) := by decide +kernel
theorem dX7_determinant_172 : decode cX7_determinant 172 = .ok (.lmul, 1) := by decide +kernel
theorem dX7_determinant_173 : decode cX7_determinant 173 = .ok (.aload_n 0, 1) := by decide +kernel
theorem dX7_determinant_174 : decode cX7_determinant 174 = .ok (.getfield 50, 3) := by decide +kernel
theorem dX7_determinant_177 : decode cX7_determinant 177 = .ok (.bipush 10, 2) := by decide +kernel
theorem dX7_determinant_179 : decode cX7_determinant 179 = .ok (.iload 6, 2) := by decide +kernel
theorem dX7_determinant_181 : decode cX7_determinant 181 = .ok (.iadd, 1) := by decide +kernel
theorem dX7_determinant_182 : decode cX7_determinant 182 = .ok (.laload, 1) := by decide +kernel
theorem dX7_determinant_183 : decode cX7_determinant 183 = .ok (.lmul, 1) := by decide +kernel
theorem dX7_determinant_184 : decode cX7_determinant 184 = .ok (.aload_n 0, 1) := by decide +kernel
theorem dX7_determinant_185 : decode cX7_determinant 185 = .ok (.getfield 50, 3) := by decide +kernel
theorem dX7_determinant_188 : decode cX7_determinant 188 = .ok (.bipush 15, 2) := by decide +kernel
theorem dX7_determinant_190 : decode cX7_determinant 190 = .ok (.iload 7, 2) := by decide +kernel
theorem dX7_determinant_192 : decode cX7_determinant 192 = .ok (.iadd, 1) := by decide +kernel
theorem dX7_determinant_193 : decode cX7_determinant 193 = .ok (.laload, 1) := by decide +kernel
theorem dX7_determinant_194 : decode cX7_determinant 194 = .ok (.lmul, 1) := by decide +kernel
theorem dX7_determinant_195 : decode cX7_determinant 195 = .ok (.aload_n 0, 1) := by decide +kernel
theorem dX7_determinant_196 : decode cX7_determinant 196 = .ok (.getfield 50, 3) := by decide +kernel
theorem dX7_determinant_199 : decode cX7_determinant 199 = .ok (.bipush 20, 2) := by decide +kernel
theorem dX7_determinant_201 : decode cX7_determinant 201 = .ok (.iload 8, 2) := by decide +kernel
theorem dX7_determinant_203 : decode cX7_determinant 203 = .ok (.iadd, 1) := by decide +kernel
theorem dX7_determinant_204 : decode cX7_determinant 204 = .ok (.laload, 1) := by decide +kernel
theorem dX7_determinant_205 : decode cX7_determinant 205 = .ok (.lmul, 1) := by decide +kernel
theorem dX7_determinant_206 : decode cX7_determinant 206 = .ok (.lstore 10, 2) := by decide +kernel
theorem dX7_determinant_208 : decode cX7_determinant 208 = .ok (.lload_n 1, 1) := by decide +kernel
theorem dX7_determinant_209 : decode cX7_determinant 209 = .ok (.iload 9, 2) := by decide +kernel
theorem dX7_determinant_211 : decode cX7_determinant 211 = .ok (.iconst 2, 1) := by decide +kernel
theorem dX7_determinant_212 : decode cX7_determinant 212 = .ok (.irem, 1) := by decide +kernel
theorem dX7_determinant_213 : decode cX7_determinant 213 = .ok (.ifCond .ne 8, 3) := by decide +kernel
theorem dX7_determinant_216 : decode cX7_determinant 216 = .ok (.lload 10, 2) := by decide +kernel
theorem dX7_determinant_218 : decode cX7_determinant 218 = .ok (.goto 6, 3) := by decide +kernel
theorem dX7_determinant_221 : decode cX7_determinant 221 = .ok (.lload 10, 2) := by decide +kernel
theorem dX7_determinant_223 : decode cX7_determinant 223 = .ok (.lneg, 1) := by decide +kernel
theorem dX7_determinant_224 : decode cX7_determinant 224 = .ok (.ladd, 1) := by decide +kernel
theorem dX7_determinant_225 : decode cX7_determinant 225 = .ok (.lstore_n 1, 1) := by decide +kernel
theorem dX7_determinant_226 : decode cX7_determinant 226 = .ok (.iinc 3 1, 3) := by decide +kernel
theorem dX7_determinant_229 : decode cX7_determinant 229 = .ok (.goto (-225), 3) := by decide +kernel
theorem dX7_determinant_232 : decode cX7_determinant 232 = .ok (.lload_n 1, 1) := by decide +kernel
theorem dX7_determinant_233 : decode cX7_determinant 233 = .ok (.lreturn, 1) := by decide +kernel
theorem dX7_layRows_0 : decode cX7_layRows 0 = .ok (.aload_n 0, 1) := by decide +kernel
theorem dX7_layRows_1 : decode cX7_layRows 1 = .ok (.invokevirtual 169, 3) := by decide +kernel
theorem dX7_layRows_4 : decode cX7_layRows 4 = .ok (.istore_n 1, 1) := by decide +kernel
theorem dX7_layRows_5 : decode cX7_layRows 5 = .ok (.iconst 0, 1) := by decide +kernel
theorem dX7_layRows_6 : decode cX7_layRows 6 = .ok (.istore_n 2, 1) := by decide +kernel
theorem dX7_layRows_7 : decode cX7_layRows 7 = .ok (.iload_n 2, 1) := by decide +kernel
theorem dX7_layRows_8 : decode cX7_layRows 8 = .ok (.iconst 5, 1) := by decide +kernel
theorem dX7_layRows_9 : decode cX7_layRows 9 = .ok (.if_icmp .ge 69, 3) := by decide +kernel
theorem dX7_layRows_12 : decode cX7_layRows 12 = .ok (.iconst 0, 1) := by decide +kernel
theorem dX7_layRows_13 : decode cX7_layRows 13 = .ok (.istore_n 3, 1) := by decide +kernel
theorem dX7_layRows_14 : decode cX7_layRows 14 = .ok (.iload_n 3, 1) := by decide +kernel
theorem dX7_layRows_15 : decode cX7_layRows 15 = .ok (.iconst 5, 1) := by decide +kernel
theorem dX7_layRows_16 : decode cX7_layRows 16 = .ok (.if_icmp .ge 56, 3) := by decide +kernel
theorem dX7_layRows_19 : decode cX7_layRows 19 = .ok (.aload_n 0, 1) := by decide +kernel
theorem dX7_layRows_20 : decode cX7_layRows 20 = .ok (.getfield 50, 3) := by decide +kernel
theorem dX7_layRows_23 : decode cX7_layRows 23 = .ok (.iconst 5, 1) := by decide +kernel
theorem dX7_layRows_24 : decode cX7_layRows 24 = .ok (.iload_n 2, 1) := by decide +kernel
theorem dX7_layRows_25 : decode cX7_layRows 25 = .ok (.imul, 1) := by decide +kernel
theorem dX7_layRows_26 : decode cX7_layRows 26 = .ok (.iload_n 3, 1) := by decide +kernel
theorem dX7_layRows_27 : decode cX7_layRows 27 = .ok (.iadd, 1) := by decide +kernel
theorem dX7_layRows_28 : decode cX7_layRows 28 = .ok (.iload_n 2, 1) := by decide +kernel
theorem dX7_layRows_29 : decode cX7_layRows 29 = .ok (.iload_n 3, 1) := by decide +kernel
theorem dX7_layRows_30 : decode cX7_layRows 30 = .ok (.if_icmp .ne 9, 3) := by decide +kernel
theorem dX7_layRows_33 : decode cX7_layRows 33 = .ok (.ldc2_w 172, 3) := by decide +kernel
theorem dX7_layRows_36 : decode cX7_layRows 36 = .ok (.goto 29, 3) := by decide +kernel
theorem dX7_layRows_39 : decode cX7_layRows 39 = .ok (.iload_n 1, 1) := by decide +kernel
theorem dX7_layRows_40 : decode cX7_layRows 40 = .ok (.iload_n 2, 1) := by decide +kernel
theorem dX7_layRows_41 : decode cX7_layRows 41 = .ok (.invokestatic 117, 3) := by decide +kernel
theorem dX7_layRows_44 : decode cX7_layRows 44 = .ok (.ifCond .eq 7, 3) := by decide +kernel
theorem dX7_layRows_47 : decode cX7_layRows 47 = .ok (.lconst 0, 1) := by decide +kernel
theorem dX7_layRows_48 : decode cX7_layRows 48 = .ok (.goto 17, 3) := by decide +kernel
theorem dX7_layRows_51 : decode cX7_layRows 51 = .ok (.aload_n 0, 1) := by decide +kernel
theorem dX7_layRows_52 : decode cX7_layRows 52 = .ok (.getfield 34, 3) := by decide +kernel
theorem dX7_layRows_55 : decode cX7_layRows 55 = .ok (.iconst 4, 1) := by decide +kernel
theorem dX7_layRows_56 : decode cX7_layRows 56 = .ok (.iload_n 3, 1) := by decide +kernel
theorem dX7_layRows_57 : decode cX7_layRows 57 = .ok (.iadd, 1) := by decide +kernel
theorem dX7_layRows_58 : decode cX7_layRows 58 = .ok (.iload_n 2, 1) := by decide +kernel
theorem dX7_layRows_59 : decode cX7_layRows 59 = .ok (.invokestatic 78, 3) := by decide +kernel
theorem dX7_layRows_62 : decode cX7_layRows 62 = .ok (.iaload, 1) := by decide +kernel
theorem dX7_layRows_63 : decode cX7_layRows 63 = .ok (.ineg, 1) := by decide +kernel
theorem dX7_layRows_64 : decode cX7_layRows 64 = .ok (.i2l, 1) := by decide +kernel
theorem dX7_layRows_65 : decode cX7_layRows 65 = .ok (.lastore, 1) := by decide +kernel
theorem dX7_layRows_66 : decode cX7_layRows 66 = .ok (.iinc 3 1, 3) := by decide +kernel
theorem dX7_layRows_69 : decode cX7_layRows 69 = .ok (.goto (-55), 3) := by decide +kernel
theorem dX7_layRows_72 : decode cX7_layRows 72 = .ok (.iinc 2 1, 3) := by decide +kernel
theorem dX7_layRows_75 : decode cX7_layRows 75 = .ok (.goto (-68), 3) := by decide +kernel
theorem dX7_layRows_78 : decode cX7_layRows 78 = .ok (.return_, 1) := by decide +kernel
theorem dX7_lower_0 : decode cX7_lower 0 = .ok (.aload_n 0, 1) := by decide +kernel
theorem dX7_lower_1 : decode cX7_lower 1 = .ok (.invokevirtual 174, 3) := by decide +kernel
