theorem dX7_lower_4 : decode cX7_lower 4 = .ok (.aload_n 0, 1) := by decide +kernel
theorem dX7_lower_5 : decode cX7_lower 5 = .ok (.invokevirtual 177, 3) := by decide +kernel
theorem dX7_lower_8 : decode cX7_lower 8 = .ok (.lreturn, 1) := by decide +kernel
theorem dX7_upper_0 : decode cX7_upper 0 = .ok (.aload_n 0, 1) := by decide +kernel
theorem dX7_upper_1 : decode cX7_upper 1 = .ok (.invokevirtual 174, 3) := by decide +kernel
theorem dX7_upper_4 : decode cX7_upper 4 = .ok (.aload_n 0, 1) := by decide +kernel
theorem dX7_upper_5 : decode cX7_upper 5 = .ok (.invokevirtual 169, 3) := by decide +kernel
theorem dX7_upper_8 : decode cX7_upper 8 = .ok (.istore_n 3, 1) := by decide +kernel
theorem dX7_upper_9 : decode cX7_upper 9 = .ok (.iconst 0, 1) := by decide +kernel
theorem dX7_upper_10 : decode cX7_upper 10 = .ok (.istore 4, 2) := by decide +kernel
theorem dX7_upper_12 : decode cX7_upper 12 = .ok (.iload 4, 2) := by decide +kernel
theorem dX7_upper_14 : decode cX7_upper 14 = .ok (.iconst 5, 1) := by decide +kernel
theorem dX7_upper_15 : decode cX7_upper 15 = .ok (.if_icmp .ge 45, 3) := by decide +kernel
theorem dX7_upper_18 : decode cX7_upper 18 = .ok (.aload_n 0, 1) := by decide +kernel
theorem dX7_upper_19 : decode cX7_upper 19 = .ok (.getfield 50, 3) := by decide +kernel
theorem dX7_upper_22 : decode cX7_upper 22 = .ok (.iconst 5, 1) := by decide +kernel
theorem dX7_upper_23 : decode cX7_upper 23 = .ok (.iload 4, 2) := by decide +kernel
theorem dX7_upper_25 : decode cX7_upper 25 = .ok (.imul, 1) := by decide +kernel
theorem dX7_upper_26 : decode cX7_upper 26 = .ok (.iload_n 2, 1) := by decide +kernel
theorem dX7_upper_27 : decode cX7_upper 27 = .ok (.iadd, 1) := by decide +kernel
theorem dX7_upper_28 : decode cX7_upper 28 = .ok (.iload_n 3, 1) := by decide +kernel
theorem dX7_upper_29 : decode cX7_upper 29 = .ok (.iload 4, 2) := by decide +kernel
theorem dX7_upper_31 : decode cX7_upper 31 = .ok (.invokestatic 117, 3) := by decide +kernel
theorem dX7_upper_34 : decode cX7_upper 34 = .ok (.ifCond .eq 7, 3) := by decide +kernel
theorem dX7_upper_37 : decode cX7_upper 37 = .ok (.lconst 0, 1) := by decide +kernel
theorem dX7_upper_38 : decode cX7_upper 38 = .ok (.goto 15, 3) := by decide +kernel
theorem dX7_upper_41 : decode cX7_upper 41 = .ok (.aload_n 0, 1) := by decide +kernel
theorem dX7_upper_42 : decode cX7_upper 42 = .ok (.getfield 34, 3) := by decide +kernel
theorem dX7_upper_45 : decode cX7_upper 45 = .ok (.iload_n 1, 1) := by decide +kernel
theorem dX7_upper_46 : decode cX7_upper 46 = .ok (.iload 4, 2) := by decide +kernel
theorem dX7_upper_48 : decode cX7_upper 48 = .ok (.invokestatic 78, 3) := by decide +kernel
theorem dX7_upper_51 : decode cX7_upper 51 = .ok (.iaload, 1) := by decide +kernel
theorem dX7_upper_52 : decode cX7_upper 52 = .ok (.i2l, 1) := by decide +kernel
theorem dX7_upper_53 : decode cX7_upper 53 = .ok (.lastore, 1) := by decide +kernel
theorem dX7_upper_54 : decode cX7_upper 54 = .ok (.iinc 4 1, 3) := by decide +kernel
theorem dX7_upper_57 : decode cX7_upper 57 = .ok (.goto (-45), 3) := by decide +kernel
theorem dX7_upper_60 : decode cX7_upper 60 = .ok (.aload_n 0, 1) := by decide +kernel
theorem dX7_upper_61 : decode cX7_upper 61 = .ok (.invokevirtual 177, 3) := by decide +kernel
theorem dX7_upper_64 : decode cX7_upper 64 = .ok (.lreturn, 1) := by decide +kernel
theorem dX7_part_0 : decode cX7_part 0 = .ok (.lload_n 0, 1) := by decide +kernel
theorem dX7_part_1 : decode cX7_part 1 = .ok (.lstore 5, 2) := by decide +kernel
theorem dX7_part_3 : decode cX7_part 3 = .ok (.lload_n 2, 1) := by decide +kernel
theorem dX7_part_4 : decode cX7_part 4 = .ok (.lstore 7, 2) := by decide +kernel
theorem dX7_part_6 : decode cX7_part 6 = .ok (.iconst 0, 1) := by decide +kernel
theorem dX7_part_7 : decode cX7_part 7 = .ok (.istore 9, 2) := by decide +kernel
theorem dX7_part_9 : decode cX7_part 9 = .ok (.iload 9, 2) := by decide +kernel
theorem dX7_part_11 : decode cX7_part 11 = .ok (.bipush 100, 2) := by decide +kernel
theorem dX7_part_13 : decode cX7_part 13 = .ok (.if_icmp .ge 31, 3) := by decide +kernel
theorem dX7_part_16 : decode cX7_part 16 = .ok (.lload 7, 2) := by decide +kernel
theorem dX7_part_18 : decode cX7_part 18 = .ok (.lconst 0, 1) := by decide +kernel
theorem dX7_part_19 : decode cX7_part 19 = .ok (.lcmp, 1) := by decide +kernel
theorem dX7_part_20 : decode cX7_part 20 = .ok (.ifCond .eq 24, 3) := by decide +kernel
theorem dX7_part_23 : decode cX7_part 23 = .ok (.lload 5, 2) := by decide +kernel
theorem dX7_part_25 : decode cX7_part 25 = .ok (.lload 7, 2) := by decide +kernel
theorem dX7_part_27 : decode cX7_part 27 = .ok (.lrem, 1) := by decide +kernel
theorem dX7_part_28 : decode cX7_part 28 = .ok (.lstore 10, 2) := by decide +kernel
theorem dX7_part_30 : decode cX7_part 30 = .ok (.lload 7, 2) := by decide +kernel
theorem dX7_part_32 : decode cX7_part 32 = .ok (.lstore 5, 2) := by decide +kernel
theorem dX7_part_34 : decode cX7_part 34 = .ok (.lload 10, 2) := by decide +kernel
theorem dX7_part_36 : decode cX7_part 36 = .ok (.lstore 7, 2) := by decide +kernel
theorem dX7_part_38 : decode cX7_part 38 = .ok (.iinc 9 1, 3) := by decide +kernel
theorem dX7_part_41 : decode cX7_part 41 = .ok (.goto (-32), 3) := by decide +kernel
theorem dX7_part_44 : decode cX7_part 44 = .ok (.iload 4, 2) := by decide +kernel
theorem dX7_part_46 : decode cX7_part 46 = .ok (.ifCond .ne 10, 3) := by decide +kernel
theorem dX7_part_49 : decode cX7_part 49 = .ok (.lload_n 0, 1) := by decide +kernel
theorem dX7_part_50 : decode cX7_part 50 = .ok (.lload 5, 2) := by decide +kernel
theorem dX7_part_52 : decode cX7_part 52 = .ok (.ldiv, 1) := by decide +kernel
theorem dX7_part_53 : decode cX7_part 53 = .ok (.goto 7, 3) := by decide +kernel
theorem dX7_part_56 : decode cX7_part 56 = .ok (.lload_n 2, 1) := by decide +kernel
theorem dX7_part_57 : decode cX7_part 57 = .ok (.lload 5, 2) := by decide +kernel
theorem dX7_part_59 : decode cX7_part 59 = .ok (.ldiv, 1) := by decide +kernel
theorem dX7_part_60 : decode cX7_part 60 = .ok (.lreturn, 1) := by decide +kernel
theorem dX7_stake_0 : decode cX7_stake 0 = .ok (.iload_n 1, 1) := by decide +kernel
theorem dX7_stake_1 : decode cX7_stake 1 = .ok (.iconst 0, 1) := by decide +kernel
theorem dX7_stake_2 : decode cX7_stake 2 = .ok (.iconst 3, 1) := by decide +kernel
theorem dX7_stake_3 : decode cX7_stake 3 = .ok (.invokestatic 66, 3) := by decide +kernel
theorem dX7_stake_6 : decode cX7_stake 6 = .ok (.ifCond .ne 9, 3) := by decide +kernel
theorem dX7_stake_9 : decode cX7_stake 9 = .ok (.iload_n 1, 1) := by decide +kernel
theorem dX7_stake_10 : decode cX7_stake 10 = .ok (.bipush 9, 2) := by decide +kernel
theorem dX7_stake_12 : decode cX7_stake 12 = .ok (.if_icmp .ne 10, 3) := by decide +kernel
theorem dX7_stake_15 : decode cX7_stake 15 = .ok (.iload_n 2, 1) := by decide +kernel
theorem dX7_stake_16 : decode cX7_stake 16 = .ok (.invokestatic 93, 3) := by decide +kernel
theorem dX7_stake_19 : decode cX7_stake 19 = .ok (.ifCond .ne 7, 3) := by decide +kernel
theorem dX7_stake_22 : decode cX7_stake 22 = .ok (.ldc2_w 181, 3) := by decide +kernel
theorem dX7_stake_25 : decode cX7_stake 25 = .ok (.lreturn, 1) := by decide +kernel
theorem dX7_stake_26 : decode cX7_stake 26 = .ok (.iload_n 3, 1) := by decide +kernel
theorem dX7_stake_27 : decode cX7_stake 27 = .ok (.iconst 0, 1) := by decide +kernel
theorem dX7_stake_28 : decode cX7_stake 28 = .ok (.iconst 1, 1) := by decide +kernel
theorem dX7_stake_29 : decode cX7_stake 29 = .ok (.invokestatic 66, 3) := by decide +kernel
theorem dX7_stake_32 : decode cX7_stake 32 = .ok (.ifCond .ne 7, 3) := by decide +kernel
theorem dX7_stake_35 : decode cX7_stake 35 = .ok (.ldc2_w 183, 3) := by decide +kernel
theorem dX7_stake_38 : decode cX7_stake 38 = .ok (.lreturn, 1) := by decide +kernel
theorem dX7_stake_39 : decode cX7_stake 39 = .ok (.aload_n 0, 1) := by decide +kernel
theorem dX7_stake_40 : decode cX7_stake 40 = .ok (.aload_n 0, 1) := by decide +kernel
theorem dX7_stake_41 : decode cX7_stake 41 = .ok (.getfield 114, 3) := by decide +kernel
theorem dX7_stake_44 : decode cX7_stake 44 = .ok (.bipush (-6), 2) := by decide +kernel
theorem dX7_stake_46 : decode cX7_stake 46 = .ok (.invokevirtual 89, 3) := by decide +kernel
theorem dX7_stake_49 : decode cX7_stake 49 = .ok (.pop, 1) := by decide +kernel
theorem dX7_stake_50 : decode cX7_stake 50 = .ok (.aload_n 0, 1) := by decide +kernel
theorem dX7_stake_51 : decode cX7_stake 51 = .ok (.iload_n 1, 1) := by decide +kernel
theorem dX7_stake_52 : decode cX7_stake 52 = .ok (.iload_n 2, 1) := by decide +kernel
theorem dX7_stake_53 : decode cX7_stake 53 = .ok (.invokevirtual 185, 3) := by decide +kernel
theorem dX7_stake_56 : decode cX7_stake 56 = .ok (.aload_n 0, 1) := by decide +kernel
theorem dX7_stake_57 : decode cX7_stake 57 = .ok (.invokevirtual 189, 3) := by decide +kernel
theorem dX7_stake_60 : decode cX7_stake 60 = .ok (.iload_n 3, 1) := by decide +kernel
theorem dX7_stake_61 : decode cX7_stake 61 = .ok (.invokestatic 192, 3) := by decide +kernel
theorem dX7_stake_64 : decode cX7_stake 64 = .ok (.lreturn, 1) := by decide +kernel
theorem dX7_nobody_0 : decode cX7_nobody 0 = .ok (.iload_n 1, 1) := by decide +kernel
theorem dX7_nobody_1 : decode cX7_nobody 1 = .ok (.invokestatic 93, 3) := by decide +kernel
theorem dX7_nobody_4 : decode cX7_nobody 4 = .ok (.ifCond .ne 7, 3) := by decide +kernel
theorem dX7_nobody_7 : decode cX7_nobody 7 = .ok (.ldc2_w 181, 3) := by decide +kernel
theorem dX7_nobody_10 : decode cX7_nobody 10 = .ok (.lreturn, 1) := by decide +kernel
theorem dX7_nobody_11 : decode cX7_nobody 11 = .ok (.iload_n 2, 1) := by decide +kernel
theorem dX7_nobody_12 : decode cX7_nobody 12 = .ok (.iconst 0, 1) := by decide +kernel
theorem dX7_nobody_13 : decode cX7_nobody 13 = .ok (.iconst 1, 1) := by decide +kernel
theorem dX7_nobody_14 : decode cX7_nobody 14 = .ok (.invokestatic 66, 3) := by decide +kernel
theorem dX7_nobody_17 : decode cX7_nobody 17 = .ok (.ifCond .ne 7, 3) := by decide +kernel
theorem dX7_nobody_20 : decode cX7_nobody 20 = .ok (.ldc2_w 183, 3) := by decide +kernel
theorem dX7_nobody_23 : decode cX7_nobody 23 = .ok (.lreturn, 1) := by decide +kernel
theorem dX7_nobody_24 : decode cX7_nobody 24 = .ok (.aload_n 0, 1) := by decide +kernel
theorem dX7_nobody_25 : decode cX7_nobody 25 = .ok (.aload_n 0, 1) := by decide +kernel
theorem dX7_nobody_26 : decode cX7_nobody 26 = .ok (.getfield 114, 3) := by decide +kernel
theorem dX7_nobody_29 : decode cX7_nobody 29 = .ok (.bipush (-6), 2) := by decide +kernel
theorem dX7_nobody_31 : decode cX7_nobody 31 = .ok (.invokevirtual 89, 3) := by decide +kernel
theorem dX7_nobody_34 : decode cX7_nobody 34 = .ok (.pop, 1) := by decide +kernel
theorem dX7_nobody_35 : decode cX7_nobody 35 = .ok (.aload_n 0, 1) := by decide +kernel
theorem dX7_nobody_36 : decode cX7_nobody 36 = .ok (.invokevirtual 189, 3) := by decide +kernel
theorem dX7_nobody_39 : decode cX7_nobody 39 = .ok (.aload_n 0, 1) := by decide +kernel
theorem dX7_nobody_40 : decode cX7_nobody 40 = .ok (.bipush 9, 2) := by decide +kernel
theorem dX7_nobody_42 : decode cX7_nobody 42 = .ok (.iload_n 1, 1) := by decide +kernel
theorem dX7_nobody_43 : decode cX7_nobody 43 = .ok (.invokevirtual 185, 3) := by decide +kernel
theorem dX7_nobody_46 : decode cX7_nobody 46 = .ok (.lsub, 1) := by decide +kernel
theorem dX7_nobody_47 : decode cX7_nobody 47 = .ok (.lstore_n 3, 1) := by decide +kernel
theorem dX7_nobody_48 : decode cX7_nobody 48 = .ok (.iconst 0, 1) := by decide +kernel
theorem dX7_nobody_49 : decode cX7_nobody 49 = .ok (.istore 5, 2) := by decide +kernel
theorem dX7_nobody_51 : decode cX7_nobody 51 = .ok (.iload 5, 2) := by decide +kernel
theorem dX7_nobody_53 : decode cX7_nobody 53 = .ok (.iconst 4, 1) := by decide +kernel
theorem dX7_nobody_54 : decode cX7_nobody 54 = .ok (.if_icmp .ge 19, 3) := by decide +kernel
theorem dX7_nobody_57 : decode cX7_nobody 57 = .ok (.lload_n 3, 1) := by decide +kernel
theorem dX7_nobody_58 : decode cX7_nobody 58 = .ok (.aload_n 0, 1) := by decide +kernel
theorem dX7_nobody_59 : decode cX7_nobody 59 = .ok (.iload 5, 2) := by decide +kernel
theorem dX7_nobody_61 : decode cX7_nobody 61 = .ok (.iload_n 1, 1) := by decide +kernel
theorem dX7_nobody_62 : decode cX7_nobody 62 = .ok (.invokevirtual 185, 3) := by decide +kernel
theorem dX7_nobody_65 : decode cX7_nobody 65 = .ok (.lsub, 1) := by decide +kernel
theorem dX7_nobody_66 : decode cX7_nobody 66 = .ok (.lstore_n 3, 1) := by decide +kernel
theorem dX7_nobody_67 : decode cX7_nobody 67 = .ok (.iinc 5 1, 3) := by decide +kernel
theorem dX7_nobody_70 : decode cX7_nobody 70 = .ok (.goto (-19), 3) := by decide +kernel
theorem dX7_nobody_73 : decode cX7_nobody 73 = .ok (.lload_n 3, 1) := by decide +kernel
theorem dX7_nobody_74 : decode cX7_nobody 74 = .ok (.aload_n 0, 1) := by decide +kernel
theorem dX7_nobody_75 : decode cX7_nobody 75 = .ok (.invokevirtual 189, 3) := by decide +kernel
theorem dX7_nobody_78 : decode cX7_nobody 78 = .ok (.iload_n 2, 1) := by decide +kernel
theorem dX7_nobody_79 : decode cX7_nobody 79 = .ok (.invokestatic 192, 3) := by decide +kernel
theorem dX7_nobody_82 : decode cX7_nobody 82 = .ok (.lreturn, 1) := by decide +kernel
theorem dX7_layUppers_0 : decode cX7_layUppers 0 = .ok (.aload_n 0, 1) := by decide +kernel
theorem dX7_layUppers_1 : decode cX7_layUppers 1 = .ok (.aload_n 0, 1) := by decide +kernel
theorem dX7_layUppers_2 : decode cX7_layUppers 2 = .ok (.getfield 114, 3) := by decide +kernel
theorem dX7_layUppers_5 : decode cX7_layUppers 5 = .ok (.bipush (-6), 2) := by decide +kernel
theorem dX7_layUppers_7 : decode cX7_layUppers 7 = .ok (.invokevirtual 89, 3) := by decide +kernel
theorem dX7_layUppers_10 : decode cX7_layUppers 10 = .ok (.pop, 1) := by decide +kernel
theorem dX7_layUppers_11 : decode cX7_layUppers 11 = .ok (.iconst 0, 1) := by decide +kernel
theorem dX7_layUppers_12 : decode cX7_layUppers 12 = .ok (.istore_n 2, 1) := by decide +kernel
theorem dX7_layUppers_13 : decode cX7_layUppers 13 = .ok (.iload_n 2, 1) := by decide +kernel
theorem dX7_layUppers_14 : decode cX7_layUppers 14 = .ok (.iconst 4, 1) := by decide +kernel
theorem dX7_layUppers_15 : decode cX7_layUppers 15 = .ok (.if_icmp .ge 21, 3) := by decide +kernel
theorem dX7_layUppers_18 : decode cX7_layUppers 18 = .ok (.aload_n 0, 1) := by decide +kernel
theorem dX7_layUppers_19 : decode cX7_layUppers 19 = .ok (.getfield 54, 3) := by decide +kernel
theorem dX7_layUppers_22 : decode cX7_layUppers 22 = .ok (.iload_n 2, 1) := by decide +kernel
theorem dX7_layUppers_23 : decode cX7_layUppers 23 = .ok (.aload_n 0, 1) := by decide +kernel
theorem dX7_layUppers_24 : decode cX7_layUppers 24 = .ok (.iload_n 2, 1) := by decide +kernel
theorem dX7_layUppers_25 : decode cX7_layUppers 25 = .ok (.iload_n 1, 1) := by decide +kernel
theorem dX7_layUppers_26 : decode cX7_layUppers 26 = .ok (.invokevirtual 185, 3) := by decide +kernel
theorem dX7_layUppers_29 : decode cX7_layUppers 29 = .ok (.lastore, 1) := by decide +kernel
theorem dX7_layUppers_30 : decode cX7_layUppers 30 = .ok (.iinc 2 1, 3) := by decide +kernel
theorem dX7_layUppers_33 : decode cX7_layUppers 33 = .ok (.goto (-20), 3) := by decide +kernel
theorem dX7_layUppers_36 : decode cX7_layUppers 36 = .ok (.return_, 1) := by decide +kernel
theorem dX7_ranked_0 : decode cX7_ranked 0 = .ok (.iload_n 1, 1) := by decide +kernel
theorem dX7_ranked_1 : decode cX7_ranked 1 = .ok (.invokestatic 93, 3) := by decide +kernel
theorem dX7_ranked_4 : decode cX7_ranked 4 = .ok (.ifCond .ne 5, 3) := by decide +kernel
theorem dX7_ranked_7 : decode cX7_ranked 7 = .ok (.iconst (-1), 1) := by decide +kernel
theorem dX7_ranked_8 : decode cX7_ranked 8 = .ok (.ireturn, 1) := by decide +kernel
theorem dX7_ranked_9 : decode cX7_ranked 9 = .ok (.aload_n 0, 1) := by decide +kernel
theorem dX7_ranked_10 : decode cX7_ranked 10 = .ok (.iload_n 1, 1) := by decide +kernel
theorem dX7_ranked_11 : decode cX7_ranked 11 = .ok (.invokevirtual 196, 3) := by decide +kernel
theorem dX7_ranked_14 : decode cX7_ranked 14 = .ok (.bipush (-6), 2) := by decide +kernel
theorem dX7_ranked_16 : decode cX7_ranked 16 = .ok (.istore_n 3, 1) := by decide +kernel
theorem dX7_ranked_17 : decode cX7_ranked 17 = .ok (.iconst 0, 1) := by decide +kernel
theorem dX7_ranked_18 : decode cX7_ranked 18 = .ok (.istore 4, 2) := by decide +kernel
theorem dX7_ranked_20 : decode cX7_ranked 20 = .ok (.iload 4, 2) := by decide +kernel
theorem dX7_ranked_22 : decode cX7_ranked 22 = .ok (.iconst 4, 1) := by decide +kernel
theorem dX7_ranked_23 : decode cX7_ranked 23 = .ok (.if_icmp .ge 105, 3) := by decide +kernel
theorem dX7_ranked_26 : decode cX7_ranked 26 = .ok (.iconst 0, 1) := by decide +kernel
theorem dX7_ranked_27 : decode cX7_ranked 27 = .ok (.istore 5, 2) := by decide +kernel
theorem dX7_ranked_29 : decode cX7_ranked 29 = .ok (.iconst 0, 1) := by decide +kernel
theorem dX7_ranked_30 : decode cX7_ranked 30 = .ok (.istore 6, 2) := by decide +kernel
theorem dX7_ranked_32 : decode cX7_ranked 32 = .ok (.iload 6, 2) := by decide +kernel
theorem dX7_ranked_34 : decode cX7_ranked 34 = .ok (.iconst 4, 1) := by decide +kernel
theorem dX7_ranked_35 : decode cX7_ranked 35 = .ok (.if_icmp .ge 62, 3) := by decide +kernel
theorem dX7_ranked_38 : decode cX7_ranked 38 = .ok (.iload 5, 2) := by decide +kernel
theorem dX7_ranked_40 : decode cX7_ranked 40 = .ok (.aload_n 0, 1) := by decide +kernel
theorem dX7_ranked_41 : decode cX7_ranked 41 = .ok (.getfield 54, 3) := by decide +kernel
theorem dX7_ranked_44 : decode cX7_ranked 44 = .ok (.iload 6, 2) := by decide +kernel
theorem dX7_ranked_46 : decode cX7_ranked 46 = .ok (.laload, 1) := by decide +kernel
theorem dX7_ranked_47 : decode cX7_ranked 47 = .ok (.aload_n 0, 1) := by decide +kernel
theorem dX7_ranked_48 : decode cX7_ranked 48 = .ok (.getfield 54, 3) := by decide +kernel
theorem dX7_ranked_51 : decode cX7_ranked 51 = .ok (.iload 4, 2) := by decide +kernel
theorem dX7_ranked_53 : decode cX7_ranked 53 = .ok (.laload, 1) := by decide +kernel
theorem dX7_ranked_54 : decode cX7_ranked 54 = .ok (.lcmp, 1) := by decide +kernel
theorem dX7_ranked_55 : decode cX7_ranked 55 = .ok (.ifCond .gt 28, 3) := by decide +kernel
theorem dX7_ranked_58 : decode cX7_ranked 58 = .ok (.aload_n 0, 1) := by decide +kernel
theorem dX7_ranked_59 : decode cX7_ranked 59 = .ok (.getfield 54, 3) := by decide +kernel
theorem dX7_ranked_62 : decode cX7_ranked 62 = .ok (.iload 6, 2) := by decide +kernel
theorem dX7_ranked_64 : decode cX7_ranked 64 = .ok (.laload, 1) := by decide +kernel
theorem dX7_ranked_65 : decode cX7_ranked 65 = .ok (.aload_n 0, 1) := by decide +kernel
theorem dX7_ranked_66 : decode cX7_ranked 66 = .ok (.getfield 54, 3) := by decide +kernel
theorem dX7_ranked_69 : decode cX7_ranked 69 = .ok (.iload 4, 2) := by decide +kernel
theorem dX7_ranked_71 : decode cX7_ranked 71 = .ok (.laload, 1) := by decide +kernel
theorem dX7_ranked_72 : decode cX7_ranked 72 = .ok (.lcmp, 1) := by decide +kernel
theorem dX7_ranked_73 : decode cX7_ranked 73 = .ok (.ifCond .ne 14, 3) := by decide +kernel
theorem dX7_ranked_76 : decode cX7_ranked 76 = .ok (.iload 6, 2) := by decide +kernel
theorem dX7_ranked_78 : decode cX7_ranked 78 = .ok (.iload 4, 2) := by decide +kernel
theorem dX7_ranked_80 : decode cX7_ranked 80 = .ok (.if_icmp .ge 7, 3) := by decide +kernel
theorem dX7_ranked_83 : decode cX7_ranked 83 = .ok (.iconst 1, 1) := by decide +kernel
theorem dX7_ranked_84 : decode cX7_ranked 84 = .ok (.goto 4, 3) := by decide +kernel
theorem dX7_ranked_87 : decode cX7_ranked 87 = .ok (.iconst 0, 1) := by decide +kernel
theorem dX7_ranked_88 : decode cX7_ranked 88 = .ok (.iadd, 1) := by decide +kernel
theorem dX7_ranked_89 : decode cX7_ranked 89 = .ok (.istore 5, 2) := by decide +kernel
theorem dX7_ranked_91 : decode cX7_ranked 91 = .ok (.iinc 6 1, 3) := by decide +kernel
theorem dX7_ranked_94 : decode cX7_ranked 94 = .ok (.goto (-62), 3) := by decide +kernel
theorem dX7_ranked_97 : decode cX7_ranked 97 = .ok (.iload 5, 2) := by decide +kernel
theorem dX7_ranked_99 : decode cX7_ranked 99 = .ok (.iload_n 2, 1) := by decide +kernel
theorem dX7_ranked_100 : decode cX7_ranked 100 = .ok (.if_icmp .ne 20, 3) := by decide +kernel
theorem dX7_ranked_103 : decode cX7_ranked 103 = .ok (.aload_n 0, 1) := by decide +kernel
theorem dX7_ranked_104 : decode cX7_ranked 104 = .ok (.getfield 54, 3) := by decide +kernel
theorem dX7_ranked_107 : decode cX7_ranked 107 = .ok (.iload 4, 2) := by decide +kernel
theorem dX7_ranked_109 : decode cX7_ranked 109 = .ok (.laload, 1) := by decide +kernel
theorem dX7_ranked_110 : decode cX7_ranked 110 = .ok (.lconst 0, 1) := by decide +kernel
theorem dX7_ranked_111 : decode cX7_ranked 111 = .ok (.lcmp, 1) := by decide +kernel
theorem dX7_ranked_112 : decode cX7_ranked 112 = .ok (.ifCond .le 8, 3) := by decide +kernel
theorem dX7_ranked_115 : decode cX7_ranked 115 = .ok (.iload 4, 2) := by decide +kernel
theorem dX7_ranked_117 : decode cX7_ranked 117 = .ok (.goto 4, 3) := by decide +kernel
theorem dX7_ranked_120 : decode cX7_ranked 120 = .ok (.iload_n 3, 1) := by decide +kernel
theorem dX7_ranked_121 : decode cX7_ranked 121 = .ok (.istore_n 3, 1) := by decide +kernel
theorem dX7_ranked_122 : decode cX7_ranked 122 = .ok (.iinc 4 1, 3) := by decide +kernel
theorem dX7_ranked_125 : decode cX7_ranked 125 = .ok (.goto (-105), 3) := by decide +kernel
theorem dX7_ranked_128 : decode cX7_ranked 128 = .ok (.iload_n 3, 1) := by decide +kernel
theorem dX7_ranked_129 : decode cX7_ranked 129 = .ok (.ireturn, 1) := by decide +kernel
theorem dX7_owners_0 : decode cX7_owners 0 = .ok (.iload_n 1, 1) := by decide +kernel
theorem dX7_owners_1 : decode cX7_owners 1 = .ok (.invokestatic 93, 3) := by decide +kernel
theorem dX7_owners_4 : decode cX7_owners 4 = .ok (.ifCond .ne 5, 3) := by decide +kernel
theorem dX7_owners_7 : decode cX7_owners 7 = .ok (.iconst (-1), 1) := by decide +kernel
theorem dX7_owners_8 : decode cX7_owners 8 = .ok (.ireturn, 1) := by decide +kernel
theorem dX7_owners_9 : decode cX7_owners 9 = .ok (.aload_n 0, 1) := by decide +kernel
theorem dX7_owners_10 : decode cX7_owners 10 = .ok (.iload_n 1, 1) := by decide +kernel
theorem dX7_owners_11 : decode cX7_owners 11 = .ok (.invokevirtual 196, 3) := by decide +kernel
theorem dX7_owners_14 : decode cX7_owners 14 = .ok (.aload_n 0, 1) := by decide +kernel
theorem dX7_owners_15 : decode cX7_owners 15 = .ok (.invokevirtual 189, 3) := by decide +kernel
theorem dX7_owners_18 : decode cX7_owners 18 = .ok (.lstore_n 2, 1) := by decide +kernel
theorem dX7_owners_19 : decode cX7_owners 19 = .ok (.iconst 0, 1) := by decide +kernel
theorem dX7_owners_20 : decode cX7_owners 20 = .ok (.istore 4, 2) := by decide +kernel
theorem dX7_owners_22 : decode cX7_owners 22 = .ok (.iconst 0, 1) := by decide +kernel
theorem dX7_owners_23 : decode cX7_owners 23 = .ok (.istore 5, 2) := by decide +kernel
theorem dX7_owners_25 : decode cX7_owners 25 = .ok (.iload 5, 2) := by decide +kernel
theorem dX7_owners_27 : decode cX7_owners 27 = .ok (.iconst 4, 1) := by decide +kernel
theorem dX7_owners_28 : decode cX7_owners 28 = .ok (.if_icmp .ge 59, 3) := by decide +kernel
theorem dX7_owners_31 : decode cX7_owners 31 = .ok (.iload 4, 2) := by decide +kernel
theorem dX7_owners_33 : decode cX7_owners 33 = .ok (.aload_n 0, 1) := by decide +kernel
theorem dX7_owners_34 : decode cX7_owners 34 = .ok (.iload 5, 2) := by decide +kernel
theorem dX7_owners_36 : decode cX7_owners 36 = .ok (.invokevirtual 133, 3) := by decide +kernel
theorem dX7_owners_39 : decode cX7_owners 39 = .ok (.iload_n 1, 1) := by decide +kernel
theorem dX7_owners_40 : decode cX7_owners 40 = .ok (.invokestatic 117, 3) := by decide +kernel
theorem dX7_owners_43 : decode cX7_owners 43 = .ok (.ifCond .ne 27, 3) := by decide +kernel
theorem dX7_owners_46 : decode cX7_owners 46 = .ok (.ldc2_w 172, 3) := by decide +kernel
theorem dX7_owners_49 : decode cX7_owners 49 = .ok (.aload_n 0, 1) := by decide +kernel
theorem dX7_owners_50 : decode cX7_owners 50 = .ok (.getfield 54, 3) := by decide +kernel
theorem dX7_owners_53 : decode cX7_owners 53 = .ok (.iload 5, 2) := by decide +kernel
theorem dX7_owners_55 : decode cX7_owners 55 = .ok (.laload, 1) := by decide +kernel
theorem dX7_owners_56 : decode cX7_owners 56 = .ok (.lmul, 1) := by decide +kernel
theorem dX7_owners_57 : decode cX7_owners 57 = .ok (.aload_n 0, 1) := by decide +kernel
theorem dX7_owners_58 : decode cX7_owners 58 = .ok (.getfield 28, 3) := by decide +kernel
theorem dX7_owners_61 : decode cX7_owners 61 = .ok (.iconst 2, 1) := by decide +kernel
theorem dX7_owners_62 : decode cX7_owners 62 = .ok (.iaload, 1) := by decide +kernel
theorem dX7_owners_63 : decode cX7_owners 63 = .ok (.i2l, 1) := by decide +kernel
theorem dX7_owners_64 : decode cX7_owners 64 = .ok (.lload_n 2, 1) := by decide +kernel
theorem dX7_owners_65 : decode cX7_owners 65 = .ok (.lmul, 1) := by decide +kernel
theorem dX7_owners_66 : decode cX7_owners 66 = .ok (.lcmp, 1) := by decide +kernel
theorem dX7_owners_67 : decode cX7_owners 67 = .ok (.ifCond .le 10, 3) := by decide +kernel
theorem dX7_owners_70 : decode cX7_owners 70 = .ok (.iconst 1, 1) := by decide +kernel
theorem dX7_owners_71 : decode cX7_owners 71 = .ok (.iload 5, 2) := by decide +kernel
theorem dX7_owners_73 : decode cX7_owners 73 = .ok (.ishl, 1) := by decide +kernel
theorem dX7_owners_74 : decode cX7_owners 74 = .ok (.goto 4, 3) := by decide +kernel
theorem dX7_owners_77 : decode cX7_owners 77 = .ok (.iconst 0, 1) := by decide +kernel
theorem dX7_owners_78 : decode cX7_owners 78 = .ok (.ior, 1) := by decide +kernel
theorem dX7_owners_79 : decode cX7_owners 79 = .ok (.istore 4, 2) := by decide +kernel
theorem dX7_owners_81 : decode cX7_owners 81 = .ok (.iinc 5 1, 3) := by decide +kernel
theorem dX7_owners_84 : decode cX7_owners 84 = .ok (.goto (-59), 3) := by decide +kernel
theorem dX7_owners_87 : decode cX7_owners 87 = .ok (.iload 4, 2) := by decide +kernel
theorem dX7_owners_89 : decode cX7_owners 89 = .ok (.ireturn, 1) := by decide +kernel
theorem dX7_circle_0 : decode cX7_circle 0 = .ok (.iload_n 1, 1) := by decide +kernel
theorem dX7_circle_1 : decode cX7_circle 1 = .ok (.invokestatic 93, 3) := by decide +kernel
theorem dX7_circle_4 : decode cX7_circle 4 = .ok (.ifCond .ne 5, 3) := by decide +kernel
theorem dX7_circle_7 : decode cX7_circle 7 = .ok (.iconst (-1), 1) := by decide +kernel
theorem dX7_circle_8 : decode cX7_circle 8 = .ok (.ireturn, 1) := by decide +kernel
theorem dX7_circle_9 : decode cX7_circle 9 = .ok (.aload_n 0, 1) := by decide +kernel
theorem dX7_circle_10 : decode cX7_circle 10 = .ok (.aload_n 0, 1) := by decide +kernel
theorem dX7_circle_11 : decode cX7_circle 11 = .ok (.getfield 114, 3) := by decide +kernel
theorem dX7_circle_14 : decode cX7_circle 14 = .ok (.bipush (-6), 2) := by decide +kernel
theorem dX7_circle_16 : decode cX7_circle 16 = .ok (.invokevirtual 89, 3) := by decide +kernel
theorem dX7_circle_19 : decode cX7_circle 19 = .ok (.pop, 1) := by decide +kernel
theorem dX7_circle_20 : decode cX7_circle 20 = .ok (.iconst 0, 1) := by decide +kernel
theorem dX7_circle_21 : decode cX7_circle 21 = .ok (.istore_n 2, 1) := by decide +kernel
theorem dX7_circle_22 : decode cX7_circle 22 = .ok (.iload_n 2, 1) := by decide +kernel
theorem dX7_circle_23 : decode cX7_circle 23 = .ok (.iconst 5, 1) := by decide +kernel
theorem dX7_circle_24 : decode cX7_circle 24 = .ok (.if_icmp .ge 16, 3) := by decide +kernel
theorem dX7_circle_27 : decode cX7_circle 27 = .ok (.aload_n 0, 1) := by decide +kernel
theorem dX7_circle_28 : decode cX7_circle 28 = .ok (.getfield 57, 3) := by decide +kernel
theorem dX7_circle_31 : decode cX7_circle 31 = .ok (.iload_n 2, 1) := by decide +kernel
theorem dX7_circle_32 : decode cX7_circle 32 = .ok (.iconst 0, 1) := by decide +kernel
theorem dX7_circle_33 : decode cX7_circle 33 = .ok (.iastore, 1) := by decide +kernel
theorem dX7_circle_34 : decode cX7_circle 34 = .ok (.iinc 2 1, 3) := by decide +kernel
theorem dX7_circle_37 : decode cX7_circle 37 = .ok (.goto (-15), 3) := by decide +kernel
theorem dX7_circle_40 : decode cX7_circle 40 = .ok (.iconst 0, 1) := by decide +kernel
theorem dX7_circle_41 : decode cX7_circle 41 = .ok (.istore_n 2, 1) := by decide +kernel
theorem dX7_circle_42 : decode cX7_circle 42 = .ok (.iload_n 2, 1) := by decide +kernel
theorem dX7_circle_43 : decode cX7_circle 43 = .ok (.iconst 5, 1) := by decide +kernel
theorem dX7_circle_44 : decode cX7_circle 44 = .ok (.if_icmp .ge 78, 3) := by decide +kernel
theorem dX7_circle_47 : decode cX7_circle 47 = .ok (.iconst 0, 1) := by decide +kernel
theorem dX7_circle_48 : decode cX7_circle 48 = .ok (.istore_n 3, 1) := by decide +kernel
theorem dX7_circle_49 : decode cX7_circle 49 = .ok (.iload_n 3, 1) := by decide +kernel
theorem dX7_circle_50 : decode cX7_circle 50 = .ok (.iconst 5, 1) := by decide +kernel
theorem dX7_circle_51 : decode cX7_circle 51 = .ok (.if_icmp .ge 65, 3) := by decide +kernel
theorem dX7_circle_54 : decode cX7_circle 54 = .ok (.iconst 0, 1) := by decide +kernel
theorem dX7_circle_55 : decode cX7_circle 55 = .ok (.istore 4, 2) := by decide +kernel
theorem dX7_circle_57 : decode cX7_circle 57 = .ok (.iload 4, 2) := by decide +kernel
theorem dX7_circle_59 : decode cX7_circle 59 = .ok (.iconst 5, 1) := by decide +kernel
theorem dX7_circle_60 : decode cX7_circle 60 = .ok (.if_icmp .ge 50, 3) := by decide +kernel
theorem dX7_circle_63 : decode cX7_circle 63 = .ok (.aload_n 0, 1) := by decide +kernel
theorem dX7_circle_64 : decode cX7_circle 64 = .ok (.getfield 57, 3) := by decide +kernel
theorem dX7_circle_67 : decode cX7_circle 67 = .ok (.iload_n 3, 1) := by decide +kernel
theorem dX7_circle_68 : decode cX7_circle 68 = .ok (.dup2, 1) := by decide +kernel
theorem dX7_circle_69 : decode cX7_circle 69 = .ok (.iaload, 1) := by decide +kernel
theorem dX7_circle_70 : decode cX7_circle 70 = .ok (.aload_n 0, 1) := by decide +kernel
theorem dX7_circle_71 : decode cX7_circle 71 = .ok (.getfield 34, 3) := by decide +kernel
theorem dX7_circle_74 : decode cX7_circle 74 = .ok (.iconst 4, 1) := by decide +kernel
theorem dX7_circle_75 : decode cX7_circle 75 = .ok (.iload_n 3, 1) := by decide +kernel
theorem dX7_circle_76 : decode cX7_circle 76 = .ok (.iadd, 1) := by decide +kernel
theorem dX7_circle_77 : decode cX7_circle 77 = .ok (.iload 4, 2) := by decide +kernel
theorem dX7_circle_79 : decode cX7_circle 79 = .ok (.invokestatic 78, 3) := by decide +kernel
theorem dX7_circle_82 : decode cX7_circle 82 = .ok (.iaload, 1) := by decide +kernel
theorem dX7_circle_83 : decode cX7_circle 83 = .ok (.ifCond .le 18, 3) := by decide +kernel
theorem dX7_circle_86 : decode cX7_circle 86 = .ok (.iconst 1, 1) := by decide +kernel
theorem dX7_circle_87 : decode cX7_circle 87 = .ok (.iload 4, 2) := by decide +kernel
theorem dX7_circle_89 : decode cX7_circle 89 = .ok (.ishl, 1) := by decide +kernel
theorem dX7_circle_90 : decode cX7_circle 90 = .ok (.aload_n 0, 1) := by decide +kernel
theorem dX7_circle_91 : decode cX7_circle 91 = .ok (.getfield 57, 3) := by decide +kernel
theorem dX7_circle_94 : decode cX7_circle 94 = .ok (.iload 4, 2) := by decide +kernel
theorem dX7_circle_96 : decode cX7_circle 96 = .ok (.iaload, 1) := by decide +kernel
theorem dX7_circle_97 : decode cX7_circle 97 = .ok (.ior, 1) := by decide +kernel
theorem dX7_circle_98 : decode cX7_circle 98 = .ok (.goto 4, 3) := by decide +kernel
theorem dX7_circle_101 : decode cX7_circle 101 = .ok (.iconst 0, 1) := by decide +kernel
theorem dX7_circle_102 : decode cX7_circle 102 = .ok (.ior, 1) := by decide +kernel
theorem dX7_circle_103 : decode cX7_circle 103 = .ok (.iastore, 1) := by decide +kernel
theorem dX7_circle_104 : decode cX7_circle 104 = .ok (.iinc 4 1, 3) := by decide +kernel
theorem dX7_circle_107 : decode cX7_circle 107 = .ok (.goto (-50), 3) := by decide +kernel
theorem dX7_circle_110 : decode cX7_circle 110 = .ok (.iinc 3 1, 3) := by decide +kernel
theorem dX7_circle_113 : decode cX7_circle 113 = .ok (.goto (-64), 3) := by decide +kernel
theorem dX7_circle_116 : decode cX7_circle 116 = .ok (.iinc 2 1, 3) := by decide +kernel
theorem dX7_circle_119 : decode cX7_circle 119 = .ok (.goto (-77), 3) := by decide +kernel
theorem dX7_circle_122 : decode cX7_circle 122 = .ok (.iconst 0, 1) := by decide +kernel
theorem dX7_circle_123 : decode cX7_circle 123 = .ok (.istore_n 2, 1) := by decide +kernel
theorem dX7_circle_124 : decode cX7_circle 124 = .ok (.iconst 0, 1) := by decide +kernel
theorem dX7_circle_125 : decode cX7_circle 125 = .ok (.istore_n 3, 1) := by decide +kernel
theorem dX7_circle_126 : decode cX7_circle 126 = .ok (.iload_n 3, 1) := by decide +kernel
theorem dX7_circle_127 : decode cX7_circle 127 = .ok (.iconst 5, 1) := by decide +kernel
theorem dX7_circle_128 : decode cX7_circle 128 = .ok (.if_icmp .ge 45, 3) := by decide +kernel
theorem dX7_circle_131 : decode cX7_circle 131 = .ok (.iload_n 2, 1) := by decide +kernel
theorem dX7_circle_132 : decode cX7_circle 132 = .ok (.aload_n 0, 1) := by decide +kernel
theorem dX7_circle_133 : decode cX7_circle 133 = .ok (.getfield 57, 3) := by decide +kernel
theorem dX7_circle_136 : decode cX7_circle 136 = .ok (.iload_n 1, 1) := by decide +kernel
theorem dX7_circle_137 : decode cX7_circle 137 = .ok (.iaload, 1) := by decide +kernel
theorem dX7_circle_138 : decode cX7_circle 138 = .ok (.iload_n 3, 1) := by decide +kernel
theorem dX7_circle_139 : decode cX7_circle 139 = .ok (.invokestatic 117, 3) := by decide +kernel
theorem dX7_circle_142 : decode cX7_circle 142 = .ok (.ifCond .eq 22, 3) := by decide +kernel
theorem dX7_circle_145 : decode cX7_circle 145 = .ok (.aload_n 0, 1) := by decide +kernel
theorem dX7_circle_146 : decode cX7_circle 146 = .ok (.getfield 57, 3) := by decide +kernel
theorem dX7_circle_149 : decode cX7_circle 149 = .ok (.iload_n 3, 1) := by decide +kernel
theorem dX7_circle_150 : decode cX7_circle 150 = .ok (.iaload, 1) := by decide +kernel
theorem dX7_circle_151 : decode cX7_circle 151 = .ok (.iload_n 1, 1) := by decide +kernel
theorem dX7_circle_152 : decode cX7_circle 152 = .ok (.invokestatic 117, 3) := by decide +kernel
theorem dX7_circle_155 : decode cX7_circle 155 = .ok (.ifCond .eq 9, 3) := by decide +kernel
theorem dX7_circle_158 : decode cX7_circle 158 = .ok (.iconst 1, 1) := by decide +kernel
theorem dX7_circle_159 : decode cX7_circle 159 = .ok (.iload_n 3, 1) := by decide +kernel
theorem dX7_circle_160 : decode cX7_circle 160 = .ok (.ishl, 1) := by decide +kernel
theorem dX7_circle_161 : decode cX7_circle 161 = .ok (.goto 4, 3) := by decide +kernel
theorem dX7_circle_164 : decode cX7_circle 164 = .ok (.iconst 0, 1) := by decide +kernel
theorem dX7_circle_165 : decode cX7_circle 165 = .ok (.ior, 1) := by decide +kernel
theorem dX7_circle_166 : decode cX7_circle 166 = .ok (.istore_n 2, 1) := by decide +kernel
theorem dX7_circle_167 : decode cX7_circle 167 = .ok (.iinc 3 1, 3) := by decide +kernel
theorem dX7_circle_170 : decode cX7_circle 170 = .ok (.goto (-44), 3) := by decide +kernel
theorem dX7_circle_173 : decode cX7_circle 173 = .ok (.iload_n 2, 1) := by decide +kernel
theorem dX7_circle_174 : decode cX7_circle 174 = .ok (.ireturn, 1) := by decide +kernel
theorem dX7_image_0 : decode cX7_image 0 = .ok (.iload_n 1, 1) := by decide +kernel
theorem dX7_image_1 : decode cX7_image 1 = .ok (.iconst 0, 1) := by decide +kernel
theorem dX7_image_2 : decode cX7_image 2 = .ok (.iconst 1, 1) := by decide +kernel
theorem dX7_image_3 : decode cX7_image 3 = .ok (.invokestatic 66, 3) := by decide +kernel
theorem dX7_image_6 : decode cX7_image 6 = .ok (.ifCond .ne 6, 3) := by decide +kernel
theorem dX7_image_9 : decode cX7_image 9 = .ok (.bipush (-2), 2) := by decide +kernel
theorem dX7_image_11 : decode cX7_image 11 = .ok (.ireturn, 1) := by decide +kernel
theorem dX7_image_12 : decode cX7_image 12 = .ok (.sipush 245, 3) := by decide +kernel
theorem dX7_image_15 : decode cX7_image 15 = .ok (.iload_n 1, 1) := by decide +kernel
theorem dX7_image_16 : decode cX7_image 16 = .ok (.imul, 1) := by decide +kernel
theorem dX7_image_17 : decode cX7_image 17 = .ok (.istore_n 2, 1) := by decide +kernel
theorem dX7_image_18 : decode cX7_image 18 = .ok (.iconst 0, 1) := by decide +kernel
theorem dX7_image_19 : decode cX7_image 19 = .ok (.istore_n 3, 1) := by decide +kernel
theorem dX7_image_20 : decode cX7_image 20 = .ok (.iload_n 3, 1) := by decide +kernel
theorem dX7_image_21 : decode cX7_image 21 = .ok (.aload_n 0, 1) := by decide +kernel
theorem dX7_image_22 : decode cX7_image 22 = .ok (.getfield 70, 3) := by decide +kernel
theorem dX7_image_25 : decode cX7_image 25 = .ok (.if_icmp .ge 121, 3) := by decide +kernel
theorem dX7_image_28 : decode cX7_image 28 = .ok (.aload_n 0, 1) := by decide +kernel
theorem dX7_image_29 : decode cX7_image 29 = .ok (.getfield 60, 3) := by decide +kernel
theorem dX7_image_32 : decode cX7_image 32 = .ok (.iload_n 2, 1) := by decide +kernel
theorem dX7_image_33 : decode cX7_image 33 = .ok (.bipush 6, 2) := by decide +kernel
theorem dX7_image_35 : decode cX7_image 35 = .ok (.iload_n 3, 1) := by decide +kernel
theorem dX7_image_36 : decode cX7_image 36 = .ok (.imul, 1) := by decide +kernel
theorem dX7_image_37 : decode cX7_image 37 = .ok (.iadd, 1) := by decide +kernel
theorem dX7_image_38 : decode cX7_image 38 = .ok (.aload_n 0, 1) := by decide +kernel
theorem dX7_image_39 : decode cX7_image 39 = .ok (.getfield 7, 3) := by decide +kernel
theorem dX7_image_42 : decode cX7_image 42 = .ok (.iload_n 3, 1) := by decide +kernel
theorem dX7_image_43 : decode cX7_image 43 = .ok (.iaload, 1) := by decide +kernel
theorem dX7_image_44 : decode cX7_image 44 = .ok (.iastore, 1) := by decide +kernel
theorem dX7_image_45 : decode cX7_image 45 = .ok (.aload_n 0, 1) := by decide +kernel
theorem dX7_image_46 : decode cX7_image 46 = .ok (.getfield 60, 3) := by decide +kernel
theorem dX7_image_49 : decode cX7_image 49 = .ok (.iload_n 2, 1) := by decide +kernel
theorem dX7_image_50 : decode cX7_image 50 = .ok (.bipush 6, 2) := by decide +kernel
theorem dX7_image_52 : decode cX7_image 52 = .ok (.iload_n 3, 1) := by decide +kernel
theorem dX7_image_53 : decode cX7_image 53 = .ok (.imul, 1) := by decide +kernel
theorem dX7_image_54 : decode cX7_image 54 = .ok (.iadd, 1) := by decide +kernel
theorem dX7_image_55 : decode cX7_image 55 = .ok (.iconst 1, 1) := by decide +kernel
theorem dX7_image_56 : decode cX7_image 56 = .ok (.iadd, 1) := by decide +kernel
theorem dX7_image_57 : decode cX7_image 57 = .ok (.aload_n 0, 1) := by decide +kernel
theorem dX7_image_58 : decode cX7_image 58 = .ok (.getfield 13, 3) := by decide +kernel
theorem dX7_image_61 : decode cX7_image 61 = .ok (.iload_n 3, 1) := by decide +kernel
theorem dX7_image_62 : decode cX7_image 62 = .ok (.iaload, 1) := by decide +kernel
theorem dX7_image_63 : decode cX7_image 63 = .ok (.iastore, 1) := by decide +kernel
theorem dX7_image_64 : decode cX7_image 64 = .ok (.aload_n 0, 1) := by decide +kernel
theorem dX7_image_65 : decode cX7_image 65 = .ok (.getfield 60, 3) := by decide +kernel
theorem dX7_image_68 : decode cX7_image 68 = .ok (.iload_n 2, 1) := by decide +kernel
theorem dX7_image_69 : decode cX7_image 69 = .ok (.bipush 6, 2) := by decide +kernel
theorem dX7_image_71 : decode cX7_image 71 = .ok (.iload_n 3, 1) := by decide +kernel
theorem dX7_image_72 : decode cX7_image 72 = .ok (.imul, 1) := by decide +kernel
theorem dX7_image_73 : decode cX7_image 73 = .ok (.iadd, 1) := by decide +kernel
theorem dX7_image_74 : decode cX7_image 74 = .ok (.iconst 2, 1) := by decide +kernel
theorem dX7_image_75 : decode cX7_image 75 = .ok (.iadd, 1) := by decide +kernel
theorem dX7_image_76 : decode cX7_image 76 = .ok (.aload_n 0, 1) := by decide +kernel
theorem dX7_image_77 : decode cX7_image 77 = .ok (.getfield 16, 3) := by decide +kernel
theorem dX7_image_80 : decode cX7_image 80 = .ok (.iload_n 3, 1) := by decide +kernel
theorem dX7_image_81 : decode cX7_image 81 = .ok (.iaload, 1) := by decide +kernel
theorem dX7_image_82 : decode cX7_image 82 = .ok (.iastore, 1) := by decide +kernel
theorem dX7_image_83 : decode cX7_image 83 = .ok (.aload_n 0, 1) := by decide +kernel
theorem dX7_image_84 : decode cX7_image 84 = .ok (.getfield 60, 3) := by decide +kernel
theorem dX7_image_87 : decode cX7_image 87 = .ok (.iload_n 2, 1) := by decide +kernel
theorem dX7_image_88 : decode cX7_image 88 = .ok (.bipush 6, 2) := by decide +kernel
theorem dX7_image_90 : decode cX7_image 90 = .ok (.iload_n 3, 1) := by decide +kernel
theorem dX7_image_91 : decode cX7_image 91 = .ok (.imul, 1) := by decide +kernel
theorem dX7_image_92 : decode cX7_image 92 = .ok (.iadd, 1) := by decide +kernel
theorem dX7_image_93 : decode cX7_image 93 = .ok (.iconst 3, 1) := by decide +kernel
theorem dX7_image_94 : decode cX7_image 94 = .ok (.iadd, 1) := by decide +kernel
theorem dX7_image_95 : decode cX7_image 95 = .ok (.aload_n 0, 1) := by decide +kernel
theorem dX7_image_96 : decode cX7_image 96 = .ok (.getfield 19, 3) := by decide +kernel
theorem dX7_image_99 : decode cX7_image 99 = .ok (.iload_n 3, 1) := by decide +kernel
theorem dX7_image_100 : decode cX7_image 100 = .ok (.iaload, 1) := by decide +kernel
theorem dX7_image_101 : decode cX7_image 101 = .ok (.iastore, 1) := by decide +kernel
theorem dX7_image_102 : decode cX7_image 102 = .ok (.aload_n 0, 1) := by decide +kernel
theorem dX7_image_103 : decode cX7_image 103 = .ok (.getfield 60, 3) := by decide +kernel
theorem dX7_image_106 : decode cX7_image 106 = .ok (.iload_n 2, 1) := by decide +kernel
theorem dX7_image_107 : decode cX7_image 107 = .ok (.bipush 6, 2) := by decide +kernel
theorem dX7_image_109 : decode cX7_image 109 = .ok (.iload_n 3, 1) := by decide +kernel
theorem dX7_image_110 : decode cX7_image 110 = .ok (.imul, 1) := by decide +kernel
theorem dX7_image_111 : decode cX7_image 111 = .ok (.iadd, 1) := by decide +kernel
theorem dX7_image_112 : decode cX7_image 112 = .ok (.iconst 4, 1) := by decide +kernel
theorem dX7_image_113 : decode cX7_image 113 = .ok (.iadd, 1) := by decide +kernel
theorem dX7_image_114 : decode cX7_image 114 = .ok (.aload_n 0, 1) := by decide +kernel
theorem dX7_image_115 : decode cX7_image 115 = .ok (.getfield 22, 3) := by decide +kernel
theorem dX7_image_118 : decode cX7_image 118 = .ok (.iload_n 3, 1) := by decide +kernel
theorem dX7_image_119 : decode cX7_image 119 = .ok (.iaload, 1) := by decide +kernel
theorem dX7_image_120 : decode cX7_image 120 = .ok (.iastore, 1) := by decide +kernel
theorem dX7_image_121 : decode cX7_image 121 = .ok (.aload_n 0, 1) := by decide +kernel
theorem dX7_image_122 : decode cX7_image 122 = .ok (.getfield 60, 3) := by decide +kernel
theorem dX7_image_125 : decode cX7_image 125 = .ok (.iload_n 2, 1) := by decide +kernel
theorem dX7_image_126 : decode cX7_image 126 = .ok (.bipush 6, 2) := by decide +kernel
theorem dX7_image_128 : decode cX7_image 128 = .ok (.iload_n 3, 1) := by decide +kernel
theorem dX7_image_129 : decode cX7_image 129 = .ok (.imul, 1) := by decide +kernel
theorem dX7_image_130 : decode cX7_image 130 = .ok (.iadd, 1) := by decide +kernel
theorem dX7_image_131 : decode cX7_image 131 = .ok (.iconst 5, 1) := by decide +kernel
theorem dX7_image_132 : decode cX7_image 132 = .ok (.iadd, 1) := by decide +kernel
theorem dX7_image_133 : decode cX7_image 133 = .ok (.aload_n 0, 1) := by decide +kernel
theorem dX7_image_134 : decode cX7_image 134 = .ok (.getfield 25, 3) := by decide +kernel
theorem dX7_image_137 : decode cX7_image 137 = .ok (.iload_n 3, 1) := by decide +kernel
theorem dX7_image_138 : decode cX7_image 138 = .ok (.iaload, 1) := by decide +kernel
theorem dX7_image_139 : decode cX7_image 139 = .ok (.iastore, 1) := by decide +kernel
theorem dX7_image_140 : decode cX7_image 140 = .ok (.iinc 3 1, 3) := by decide +kernel
theorem dX7_image_143 : decode cX7_image 143 = .ok (.goto (-123), 3) := by decide +kernel
theorem dX7_image_146 : decode cX7_image 146 = .ok (.aload_n 0, 1) := by decide +kernel
theorem dX7_image_147 : decode cX7_image 147 = .ok (.getfield 60, 3) := by decide +kernel
theorem dX7_image_150 : decode cX7_image 150 = .ok (.iload_n 2, 1) := by decide +kernel
theorem dX7_image_151 : decode cX7_image 151 = .ok (.sipush 240, 3) := by decide +kernel
theorem dX7_image_154 : decode cX7_image 154 = .ok (.iadd, 1) := by decide +kernel
theorem dX7_image_155 : decode cX7_image 155 = .ok (.aload_n 0, 1) := by decide +kernel
theorem dX7_image_156 : decode cX7_image 156 = .ok (.getfield 70, 3) := by decide +kernel
theorem dX7_image_159 : decode cX7_image 159 = .ok (.iastore, 1) := by decide +kernel
theorem dX7_image_160 : decode cX7_image 160 = .ok (.aload_n 0, 1) := by decide +kernel
theorem dX7_image_161 : decode cX7_image 161 = .ok (.getfield 60, 3) := by decide +kernel
theorem dX7_image_164 : decode cX7_image 164 = .ok (.iload_n 2, 1) := by decide +kernel
theorem dX7_image_165 : decode cX7_image 165 = .ok (.sipush 241, 3) := by decide +kernel
theorem dX7_image_168 : decode cX7_image 168 = .ok (.iadd, 1) := by decide +kernel
theorem dX7_image_169 : decode cX7_image 169 = .ok (.aload_n 0, 1) := by decide +kernel
theorem dX7_image_170 : decode cX7_image 170 = .ok (.getfield 114, 3) := by decide +kernel
theorem dX7_image_173 : decode cX7_image 173 = .ok (.iastore, 1) := by decide +kernel
theorem dX7_image_174 : decode cX7_image 174 = .ok (.iconst 0, 1) := by decide +kernel
theorem dX7_image_175 : decode cX7_image 175 = .ok (.istore_n 3, 1) := by decide +kernel
theorem dX7_image_176 : decode cX7_image 176 = .ok (.iload_n 3, 1) := by decide +kernel
theorem dX7_image_177 : decode cX7_image 177 = .ok (.iconst 3, 1) := by decide +kernel
theorem dX7_image_178 : decode cX7_image 178 = .ok (.if_icmp .ge 27, 3) := by decide +kernel
theorem dX7_image_181 : decode cX7_image 181 = .ok (.aload_n 0, 1) := by decide +kernel
theorem dX7_image_182 : decode cX7_image 182 = .ok (.getfield 60, 3) := by decide +kernel
theorem dX7_image_185 : decode cX7_image 185 = .ok (.iload_n 2, 1) := by decide +kernel
theorem dX7_image_186 : decode cX7_image 186 = .ok (.sipush 242, 3) := by decide +kernel
theorem dX7_image_189 : decode cX7_image 189 = .ok (.iadd, 1) := by decide +kernel
theorem dX7_image_190 : decode cX7_image 190 = .ok (.iload_n 3, 1) := by decide +kernel
theorem dX7_image_191 : decode cX7_image 191 = .ok (.iadd, 1) := by decide +kernel
theorem dX7_image_192 : decode cX7_image 192 = .ok (.aload_n 0, 1) := by decide +kernel
theorem dX7_image_193 : decode cX7_image 193 = .ok (.getfield 28, 3) := by decide +kernel
theorem dX7_image_196 : decode cX7_image 196 = .ok (.iload_n 3, 1) := by decide +kernel
theorem dX7_image_197 : decode cX7_image 197 = .ok (.iaload, 1) := by decide +kernel
theorem dX7_image_198 : decode cX7_image 198 = .ok (.iastore, 1) := by decide +kernel
theorem dX7_image_199 : decode cX7_image 199 = .ok (.iinc 3 1, 3) := by decide +kernel
theorem dX7_image_202 : decode cX7_image 202 = .ok (.goto (-26), 3) := by decide +kernel
theorem dX7_image_205 : decode cX7_image 205 = .ok (.aload_n 0, 1) := by decide +kernel
theorem dX7_image_206 : decode cX7_image 206 = .ok (.getfield 63, 3) := by decide +kernel
theorem dX7_image_209 : decode cX7_image 209 = .ok (.iload_n 1, 1) := by decide +kernel
theorem dX7_image_210 : decode cX7_image 210 = .ok (.iconst 1, 1) := by decide +kernel
theorem dX7_image_211 : decode cX7_image 211 = .ok (.bastore, 1) := by decide +kernel
theorem dX7_image_212 : decode cX7_image 212 = .ok (.iconst 1, 1) := by decide +kernel
theorem dX7_image_213 : decode cX7_image 213 = .ok (.ireturn, 1) := by decide +kernel
theorem dX7_restore_0 : decode cX7_restore 0 = .ok (.iload_n 1, 1) := by decide +kernel
theorem dX7_restore_1 : decode cX7_restore 1 = .ok (.iconst 0, 1) := by decide +kernel
theorem dX7_restore_2 : decode cX7_restore 2 = .ok (.iconst 1, 1) := by decide +kernel
theorem dX7_restore_3 : decode cX7_restore 3 = .ok (.invokestatic 66, 3) := by decide +kernel
theorem dX7_restore_6 : decode cX7_restore 6 = .ok (.ifCond .ne 6, 3) := by decide +kernel
theorem dX7_restore_9 : decode cX7_restore 9 = .ok (.bipush (-2), 2) := by decide +kernel
theorem dX7_restore_11 : decode cX7_restore 11 = .ok (.ireturn, 1) := by decide +kernel
theorem dX7_restore_12 : decode cX7_restore 12 = .ok (.aload_n 0, 1) := by decide +kernel
theorem dX7_restore_13 : decode cX7_restore 13 = .ok (.getfield 63, 3) := by decide +kernel
theorem dX7_restore_16 : decode cX7_restore 16 = .ok (.iload_n 1, 1) := by decide +kernel
theorem dX7_restore_17 : decode cX7_restore 17 = .ok (.baload, 1) := by decide +kernel
theorem dX7_restore_18 : decode cX7_restore 18 = .ok (.ifCond .ne 6, 3) := by decide +kernel
theorem dX7_restore_21 : decode cX7_restore 21 = .ok (.bipush (-3), 2) := by decide +kernel
theorem dX7_restore_23 : decode cX7_restore 23 = .ok (.ireturn, 1) := by decide +kernel
theorem dX7_restore_24 : decode cX7_restore 24 = .ok (.sipush 245, 3) := by decide +kernel
theorem dX7_restore_27 : decode cX7_restore 27 = .ok (.iload_n 1, 1) := by decide +kernel
theorem dX7_restore_28 : decode cX7_restore 28 = .ok (.imul, 1) := by decide +kernel
theorem dX7_restore_29 : decode cX7_restore 29 = .ok (.istore_n 2, 1) := by decide +kernel
theorem dX7_restore_30 : decode cX7_restore 30 = .ok (.aload_n 0, 1) := by decide +kernel
theorem dX7_restore_31 : decode cX7_restore 31 = .ok (.aload_n 0, 1) := by decide +kernel
theorem dX7_restore_32 : decode cX7_restore 32 = .ok (.getfield 60, 3) := by decide +kernel
theorem dX7_restore_35 : decode cX7_restore 35 = .ok (.iload_n 2, 1) := by decide +kernel
theorem dX7_restore_36 : decode cX7_restore 36 = .ok (.sipush 240, 3) := by decide +kernel
theorem dX7_restore_39 : decode cX7_restore 39 = .ok (.iadd, 1) := by decide +kernel
theorem dX7_restore_40 : decode cX7_restore 40 = .ok (.iaload, 1) := by decide +kernel
theorem dX7_restore_41 : decode cX7_restore 41 = .ok (.putfield 70, 3) := by decide +kernel
theorem dX7_restore_44 : decode cX7_restore 44 = .ok (.aload_n 0, 1) := by decide +kernel
theorem dX7_restore_45 : decode cX7_restore 45 = .ok (.aload_n 0, 1) := by decide +kernel
theorem dX7_restore_46 : decode cX7_restore 46 = .ok (.getfield 60, 3) := by decide +kernel
theorem dX7_restore_49 : decode cX7_restore 49 = .ok (.iload_n 2, 1) := by decide +kernel
theorem dX7_restore_50 : decode cX7_restore 50 = .ok (.sipush 241, 3) := by decide +kernel
theorem dX7_restore_53 : decode cX7_restore 53 = .ok (.iadd, 1) := by decide +kernel
theorem dX7_restore_54 : decode cX7_restore 54 = .ok (.iaload, 1) := by decide +kernel
theorem dX7_restore_55 : decode cX7_restore 55 = .ok (.putfield 114, 3) := by decide +kernel
theorem dX7_restore_58 : decode cX7_restore 58 = .ok (.iconst 0, 1) := by decide +kernel
theorem dX7_restore_59 : decode cX7_restore 59 = .ok (.istore_n 3, 1) := by decide +kernel
theorem dX7_restore_60 : decode cX7_restore 60 = .ok (.iload_n 3, 1) := by decide +kernel
theorem dX7_restore_61 : decode cX7_restore 61 = .ok (.aload_n 0, 1) := by decide +kernel
theorem dX7_restore_62 : decode cX7_restore 62 = .ok (.getfield 70, 3) := by decide +kernel
theorem dX7_restore_65 : decode cX7_restore 65 = .ok (.if_icmp .ge 74, 3) := by decide +kernel
theorem dX7_restore_68 : decode cX7_restore 68 = .ok (.iload_n 2, 1) := by decide +kernel
theorem dX7_restore_69 : decode cX7_restore 69 = .ok (.bipush 6, 2) := by decide +kernel
theorem dX7_restore_71 : decode cX7_restore 71 = .ok (.iload_n 3, 1) := by decide +kernel
theorem dX7_restore_72 : decode cX7_restore 72 = .ok (.imul, 1) := by decide +kernel
theorem dX7_restore_73 : decode cX7_restore 73 = .ok (.iadd, 1) := by decide +kernel
theorem dX7_restore_74 : decode cX7_restore 74 = .ok (.istore 4, 2) := by decide +kernel
theorem dX7_restore_76 : decode cX7_restore 76 = .ok (.aload_n 0, 1) := by decide +kernel
theorem dX7_restore_77 : decode cX7_restore 77 = .ok (.iload_n 3, 1) := by decide +kernel
theorem dX7_restore_78 : decode cX7_restore 78 = .ok (.aload_n 0, 1) := by decide +kernel
theorem dX7_restore_79 : decode cX7_restore 79 = .ok (.getfield 60, 3) := by decide +kernel
theorem dX7_restore_82 : decode cX7_restore 82 = .ok (.iload 4, 2) := by decide +kernel
theorem dX7_restore_84 : decode cX7_restore 84 = .ok (.iaload, 1) := by decide +kernel
theorem dX7_restore_85 : decode cX7_restore 85 = .ok (.aload_n 0, 1) := by decide +kernel
theorem dX7_restore_86 : decode cX7_restore 86 = .ok (.getfield 60, 3) := by decide +kernel
theorem dX7_restore_89 : decode cX7_restore 89 = .ok (.iload 4, 2) := by decide +kernel
theorem dX7_restore_91 : decode cX7_restore 91 = .ok (.iconst 1, 1) := by decide +kernel
theorem dX7_restore_92 : decode cX7_restore 92 = .ok (.iadd, 1) := by decide +kernel
theorem dX7_restore_93 : decode cX7_restore 93 = .ok (.iaload, 1) := by decide +kernel
theorem dX7_restore_94 : decode cX7_restore 94 = .ok (.aload_n 0, 1) := by decide +kernel
theorem dX7_restore_95 : decode cX7_restore 95 = .ok (.getfield 60, 3) := by decide +kernel
theorem dX7_restore_98 : decode cX7_restore 98 = .ok (.iload 4, 2) := by decide +kernel
theorem dX7_restore_100 : decode cX7_restore 100 = .ok (.iconst 2, 1) := by decide +kernel
theorem dX7_restore_101 : decode cX7_restore 101 = .ok (.iadd, 1) := by decide +kernel
theorem dX7_restore_102 : decode cX7_restore 102 = .ok (.iaload, 1) := by decide +kernel
theorem dX7_restore_103 : decode cX7_restore 103 = .ok (.aload_n 0, 1) := by decide +kernel
theorem dX7_restore_104 : decode cX7_restore 104 = .ok (.getfield 60, 3) := by decide +kernel
theorem dX7_restore_107 : decode cX7_restore 107 = .ok (.iload 4, 2) := by decide +kernel
theorem dX7_restore_109 : decode cX7_restore 109 = .ok (.iconst 3, 1) := by decide +kernel
theorem dX7_restore_110 : decode cX7_restore 110 = .ok (.iadd, 1) := by decide +kernel
theorem dX7_restore_111 : decode cX7_restore 111 = .ok (.iaload, 1) := by decide +kernel
theorem dX7_restore_112 : decode cX7_restore 112 = .ok (.aload_n 0, 1) := by decide +kernel
theorem dX7_restore_113 : decode cX7_restore 113 = .ok (.getfield 60, 3) := by decide +kernel
theorem dX7_restore_116 : decode cX7_restore 116 = .ok (.iload 4, 2) := by decide +kernel
theorem dX7_restore_118 : decode cX7_restore 118 = .ok (.iconst 4, 1) := by decide +kernel
theorem dX7_restore_119 : decode cX7_restore 119 = .ok (.iadd, 1) := by decide +kernel
theorem dX7_restore_120 : decode cX7_restore 120 = .ok (.iaload, 1) := by decide +kernel
theorem dX7_restore_121 : decode cX7_restore 121 = .ok (.aload_n 0, 1) := by decide +kernel
theorem dX7_restore_122 : decode cX7_restore 122 = .ok (.getfield 60, 3) := by decide +kernel
theorem dX7_restore_125 : decode cX7_restore 125 = .ok (.iload 4, 2) := by decide +kernel
theorem dX7_restore_127 : decode cX7_restore 127 = .ok (.iconst 5, 1) := by decide +kernel
theorem dX7_restore_128 : decode cX7_restore 128 = .ok (.iadd, 1) := by decide +kernel
theorem dX7_restore_129 : decode cX7_restore 129 = .ok (.iaload, 1) := by decide +kernel
theorem dX7_restore_130 : decode cX7_restore 130 = .ok (.invokevirtual 96, 3) := by decide +kernel
theorem dX7_restore_133 : decode cX7_restore 133 = .ok (.iinc 3 1, 3) := by decide +kernel
theorem dX7_restore_136 : decode cX7_restore 136 = .ok (.goto (-76), 3) := by decide +kernel
theorem dX7_restore_139 : decode cX7_restore 139 = .ok (.iconst 0, 1) := by decide +kernel
theorem dX7_restore_140 : decode cX7_restore 140 = .ok (.istore_n 3, 1) := by decide +kernel
theorem dX7_restore_141 : decode cX7_restore 141 = .ok (.iload_n 3, 1) := by decide +kernel
theorem dX7_restore_142 : decode cX7_restore 142 = .ok (.iconst 3, 1) := by decide +kernel
theorem dX7_restore_143 : decode cX7_restore 143 = .ok (.if_icmp .ge 27, 3) := by decide +kernel
theorem dX7_restore_146 : decode cX7_restore 146 = .ok (.aload_n 0, 1) := by decide +kernel
theorem dX7_restore_147 : decode cX7_restore 147 = .ok (.getfield 28, 3) := by decide +kernel
theorem dX7_restore_150 : decode cX7_restore 150 = .ok (.iload_n 3, 1) := by decide +kernel
theorem dX7_restore_151 : decode cX7_restore 151 = .ok (.aload_n 0, 1) := by decide +kernel
theorem dX7_restore_152 : decode cX7_restore 152 = .ok (.getfield 60, 3) := by decide +kernel
theorem dX7_restore_155 : decode cX7_restore 155 = .ok (.iload_n 2, 1) := by decide +kernel
theorem dX7_restore_156 : decode cX7_restore 156 = .ok (.sipush 242, 3) := by decide +kernel
theorem dX7_restore_159 : decode cX7_restore 159 = .ok (.iadd, 1) := by decide +kernel
theorem dX7_restore_160 : decode cX7_restore 160 = .ok (.iload_n 3, 1) := by decide +kernel
theorem dX7_restore_161 : decode cX7_restore 161 = .ok (.iadd, 1) := by decide +kernel
theorem dX7_restore_162 : decode cX7_restore 162 = .ok (.iaload, 1) := by decide +kernel
theorem dX7_restore_163 : decode cX7_restore 163 = .ok (.iastore, 1) := by decide +kernel
theorem dX7_restore_164 : decode cX7_restore 164 = .ok (.iinc 3 1, 3) := by decide +kernel
theorem dX7_restore_167 : decode cX7_restore 167 = .ok (.goto (-26), 3) := by decide +kernel
theorem dX7_restore_170 : decode cX7_restore 170 = .ok (.iconst 1, 1) := by decide +kernel
theorem dX7_restore_171 : decode cX7_restore 171 = .ok (.ireturn, 1) := by decide +kernel
theorem dX7_unlikeDay_0 : decode cX7_unlikeDay 0 = .ok (.aload_n 0, 1) := by decide +kernel
theorem dX7_unlikeDay_1 : decode cX7_unlikeDay 1 = .ok (.iconst (-1), 1) := by decide +kernel
theorem dX7_unlikeDay_2 : decode cX7_unlikeDay 2 = .ok (.invokevirtual 148, 3) := by decide +kernel
theorem dX7_unlikeDay_5 : decode cX7_unlikeDay 5 = .ok (.istore_n 2, 1) := by decide +kernel
theorem dX7_unlikeDay_6 : decode cX7_unlikeDay 6 = .ok (.iconst 0, 1) := by decide +kernel
theorem dX7_unlikeDay_7 : decode cX7_unlikeDay 7 = .ok (.istore_n 3, 1) := by decide +kernel
theorem dX7_unlikeDay_8 : decode cX7_unlikeDay 8 = .ok (.iload_n 3, 1) := by decide +kernel
theorem dX7_unlikeDay_9 : decode cX7_unlikeDay 9 = .ok (.iload_n 1, 1) := by decide +kernel
theorem dX7_unlikeDay_10 : decode cX7_unlikeDay 10 = .ok (.if_icmp .ge 19, 3) := by decide +kernel
theorem dX7_unlikeDay_13 : decode cX7_unlikeDay 13 = .ok (.iload_n 2, 1) := by decide +kernel
theorem dX7_unlikeDay_14 : decode cX7_unlikeDay 14 = .ok (.ifCond .lt 15, 3) := by decide +kernel
theorem dX7_unlikeDay_17 : decode cX7_unlikeDay 17 = .ok (.aload_n 0, 1) := by decide +kernel
theorem dX7_unlikeDay_18 : decode cX7_unlikeDay 18 = .ok (.iload_n 2, 1) := by decide +kernel
theorem dX7_unlikeDay_19 : decode cX7_unlikeDay 19 = .ok (.invokevirtual 148, 3) := by decide +kernel
theorem dX7_unlikeDay_22 : decode cX7_unlikeDay 22 = .ok (.istore_n 2, 1) := by decide +kernel
theorem dX7_unlikeDay_23 : decode cX7_unlikeDay 23 = .ok (.iinc 3 1, 3) := by decide +kernel
theorem dX7_unlikeDay_26 : decode cX7_unlikeDay 26 = .ok (.goto (-18), 3) := by decide +kernel
theorem dX7_unlikeDay_29 : decode cX7_unlikeDay 29 = .ok (.iload_n 2, 1) := by decide +kernel
theorem dX7_unlikeDay_30 : decode cX7_unlikeDay 30 = .ok (.ireturn, 1) := by decide +kernel
theorem dX7_done_0 : decode cX7_done 0 = .ok (.iconst 0, 1) := by decide +kernel
theorem dX7_done_1 : decode cX7_done 1 = .ok (.istore_n 1, 1) := by decide +kernel
theorem dX7_done_2 : decode cX7_done 2 = .ok (.iconst 0, 1) := by decide +kernel
theorem dX7_done_3 : decode cX7_done 3 = .ok (.istore_n 2, 1) := by decide +kernel
theorem dX7_done_4 : decode cX7_done 4 = .ok (.iload_n 2, 1) := by decide +kernel
theorem dX7_done_5 : decode cX7_done 5 = .ok (.aload_n 0, 1) := by decide +kernel
theorem dX7_done_6 : decode cX7_done 6 = .ok (.getfield 70, 3) := by decide +kernel
theorem dX7_done_9 : decode cX7_done 9 = .ok (.if_icmp .ge 30, 3) := by decide +kernel
theorem dX7_done_12 : decode cX7_done 12 = .ok (.iload_n 1, 1) := by decide +kernel
theorem dX7_done_13 : decode cX7_done 13 = .ok (.aload_n 0, 1) := by decide +kernel
theorem dX7_done_14 : decode cX7_done 14 = .ok (.getfield 7, 3) := by decide +kernel
theorem dX7_done_17 : decode cX7_done 17 = .ok (.iload_n 2, 1) := by decide +kernel
theorem dX7_done_18 : decode cX7_done 18 = .ok (.iaload, 1) := by decide +kernel
theorem dX7_done_19 : decode cX7_done 19 = .ok (.aload_n 0, 1) := by decide +kernel
theorem dX7_done_20 : decode cX7_done 20 = .ok (.getfield 114, 3) := by decide +kernel
theorem dX7_done_23 : decode cX7_done 23 = .ok (.if_icmp .gt 7, 3) := by decide +kernel
theorem dX7_done_26 : decode cX7_done 26 = .ok (.iconst 1, 1) := by decide +kernel
theorem dX7_done_27 : decode cX7_done 27 = .ok (.goto 4, 3) := by decide +kernel
theorem dX7_done_30 : decode cX7_done 30 = .ok (.iconst 0, 1) := by decide +kernel
theorem dX7_done_31 : decode cX7_done 31 = .ok (.iadd, 1) := by decide +kernel
theorem dX7_done_32 : decode cX7_done 32 = .ok (.istore_n 1, 1) := by decide +kernel
theorem dX7_done_33 : decode cX7_done 33 = .ok (.iinc 2 1, 3) := by decide +kernel
theorem dX7_done_36 : decode cX7_done 36 = .ok (.goto (-32), 3) := by decide +kernel
theorem dX7_done_39 : decode cX7_done 39 = .ok (.iload_n 1, 1) := by decide +kernel
theorem dX7_done_40 : decode cX7_done 40 = .ok (.ireturn, 1) := by decide +kernel
theorem dX7_mostRounds_0 : decode cX7_mostRounds 0 = .ok (.iconst 0, 1) := by decide +kernel
theorem dX7_mostRounds_1 : decode cX7_mostRounds 1 = .ok (.istore_n 1, 1) := by decide +kernel
theorem dX7_mostRounds_2 : decode cX7_mostRounds 2 = .ok (.iconst 0, 1) := by decide +kernel
theorem dX7_mostRounds_3 : decode cX7_mostRounds 3 = .ok (.istore_n 2, 1) := by decide +kernel
theorem dX7_mostRounds_4 : decode cX7_mostRounds 4 = .ok (.iload_n 2, 1) := by decide +kernel
theorem dX7_mostRounds_5 : decode cX7_mostRounds 5 = .ok (.bipush 9, 2) := by decide +kernel
theorem dX7_mostRounds_7 : decode cX7_mostRounds 7 = .ok (.if_icmp .ge 34, 3) := by decide +kernel
theorem dX7_mostRounds_10 : decode cX7_mostRounds 10 = .ok (.aload_n 0, 1) := by decide +kernel
theorem dX7_mostRounds_11 : decode cX7_mostRounds 11 = .ok (.iload_n 2, 1) := by decide +kernel
theorem dX7_mostRounds_12 : decode cX7_mostRounds 12 = .ok (.invokevirtual 133, 3) := by decide +kernel
theorem dX7_mostRounds_15 : decode cX7_mostRounds 15 = .ok (.ifCond .le 18, 3) := by decide +kernel
theorem dX7_mostRounds_18 : decode cX7_mostRounds 18 = .ok (.aload_n 0, 1) := by decide +kernel
theorem dX7_mostRounds_19 : decode cX7_mostRounds 19 = .ok (.getfield 127, 3) := by decide +kernel
theorem dX7_mostRounds_22 : decode cX7_mostRounds 22 = .ok (.iload_n 1, 1) := by decide +kernel
theorem dX7_mostRounds_23 : decode cX7_mostRounds 23 = .ok (.if_icmp .le 10, 3) := by decide +kernel
theorem dX7_mostRounds_26 : decode cX7_mostRounds 26 = .ok (.aload_n 0, 1) := by decide +kernel
theorem dX7_mostRounds_27 : decode cX7_mostRounds 27 = .ok (.getfield 127, 3) := by decide +kernel
theorem dX7_mostRounds_30 : decode cX7_mostRounds 30 = .ok (.goto 4, 3) := by decide +kernel
theorem dX7_mostRounds_33 : decode cX7_mostRounds 33 = .ok (.iload_n 1, 1) := by decide +kernel
theorem dX7_mostRounds_34 : decode cX7_mostRounds 34 = .ok (.istore_n 1, 1) := by decide +kernel
theorem dX7_mostRounds_35 : decode cX7_mostRounds 35 = .ok (.iinc 2 1, 3) := by decide +kernel
theorem dX7_mostRounds_38 : decode cX7_mostRounds 38 = .ok (.goto (-34), 3) := by decide +kernel
theorem dX7_mostRounds_41 : decode cX7_mostRounds 41 = .ok (.iload_n 1, 1) := by decide +kernel
theorem dX7_mostRounds_42 : decode cX7_mostRounds 42 = .ok (.ireturn, 1) := by decide +kernel
theorem dX7_count_0 : decode cX7_count 0 = .ok (.aload_n 0, 1) := by decide +kernel
theorem dX7_count_1 : decode cX7_count 1 = .ok (.aload_n 0, 1) := by decide +kernel
theorem dX7_count_2 : decode cX7_count 2 = .ok (.getfield 114, 3) := by decide +kernel
theorem dX7_count_5 : decode cX7_count 5 = .ok (.bipush (-6), 2) := by decide +kernel
theorem dX7_count_7 : decode cX7_count 7 = .ok (.invokevirtual 89, 3) := by decide +kernel
theorem dX7_count_10 : decode cX7_count 10 = .ok (.pop, 1) := by decide +kernel
theorem dX7_count_11 : decode cX7_count 11 = .ok (.iload_n 1, 1) := by decide +kernel
theorem dX7_count_12 : decode cX7_count 12 = .ok (.tableswitch 139 0 9 #[56, 61, 66, 73, 80, 87, 92, 97, 104, 109], 56) := by decide +kernel
theorem dX7_count_68 : decode cX7_count 68 = .ok (.aload_n 0, 1) := by decide +kernel
theorem dX7_count_69 : decode cX7_count 69 = .ok (.getfield 70, 3) := by decide +kernel
theorem dX7_count_72 : decode cX7_count 72 = .ok (.ireturn, 1) := by decide +kernel
theorem dX7_count_73 : decode cX7_count 73 = .ok (.aload_n 0, 1) := by decide +kernel
theorem dX7_count_74 : decode cX7_count 74 = .ok (.getfield 114, 3) := by decide +kernel
theorem dX7_count_77 : decode cX7_count 77 = .ok (.ireturn, 1) := by decide +kernel
theorem dX7_count_78 : decode cX7_count 78 = .ok (.aload_n 0, 1) := by decide +kernel
theorem dX7_count_79 : decode cX7_count 79 = .ok (.getfield 28, 3) := by decide +kernel
theorem dX7_count_82 : decode cX7_count 82 = .ok (.iconst 0, 1) := by decide +kernel
theorem dX7_count_83 : decode cX7_count 83 = .ok (.iaload, 1) := by decide +kernel
theorem dX7_count_84 : decode cX7_count 84 = .ok (.ireturn, 1) := by decide +kernel
theorem dX7_count_85 : decode cX7_count 85 = .ok (.aload_n 0, 1) := by decide +kernel
theorem dX7_count_86 : decode cX7_count 86 = .ok (.getfield 28, 3) := by decide +kernel
theorem dX7_count_89 : decode cX7_count 89 = .ok (.iconst 1, 1) := by decide +kernel
theorem dX7_count_90 : decode cX7_count 90 = .ok (.iaload, 1) := by decide +kernel
theorem dX7_count_91 : decode cX7_count 91 = .ok (.ireturn, 1) := by decide +kernel
theorem dX7_count_92 : decode cX7_count 92 = .ok (.aload_n 0, 1) := by decide +kernel
theorem dX7_count_93 : decode cX7_count 93 = .ok (.getfield 28, 3) := by decide +kernel
theorem dX7_count_96 : decode cX7_count 96 = .ok (.iconst 2, 1) := by decide +kernel
theorem dX7_count_97 : decode cX7_count 97 = .ok (.iaload, 1) := by decide +kernel
theorem dX7_count_98 : decode cX7_count 98 = .ok (.ireturn, 1) := by decide +kernel
theorem dX7_count_99 : decode cX7_count 99 = .ok (.aload_n 0, 1) := by decide +kernel
theorem dX7_count_100 : decode cX7_count 100 = .ok (.invokevirtual 200, 3) := by decide +kernel
theorem dX7_count_103 : decode cX7_count 103 = .ok (.ireturn, 1) := by decide +kernel
theorem dX7_count_104 : decode cX7_count 104 = .ok (.aload_n 0, 1) := by decide +kernel
theorem dX7_count_105 : decode cX7_count 105 = .ok (.invokevirtual 203, 3) := by decide +kernel
theorem dX7_count_108 : decode cX7_count 108 = .ok (.ireturn, 1) := by decide +kernel
theorem dX7_count_109 : decode cX7_count 109 = .ok (.aload_n 0, 1) := by decide +kernel
theorem dX7_count_110 : decode cX7_count 110 = .ok (.bipush (-6), 2) := by decide +kernel
theorem dX7_count_112 : decode cX7_count 112 = .ok (.invokevirtual 163, 3) := by decide +kernel
theorem dX7_count_115 : decode cX7_count 115 = .ok (.ireturn, 1) := by decide +kernel
theorem dX7_count_116 : decode cX7_count 116 = .ok (.aload_n 0, 1) := by decide +kernel
theorem dX7_count_117 : decode cX7_count 117 = .ok (.invokevirtual 169, 3) := by decide +kernel
theorem dX7_count_120 : decode cX7_count 120 = .ok (.ireturn, 1) := by decide +kernel
theorem dX7_count_121 : decode cX7_count 121 = .ok (.aload_n 0, 1) := by decide +kernel
theorem dX7_count_122 : decode cX7_count 122 = .ok (.getfield 63, 3) := by decide +kernel
theorem dX7_count_125 : decode cX7_count 125 = .ok (.iconst 0, 1) := by decide +kernel
theorem dX7_count_126 : decode cX7_count 126 = .ok (.baload, 1) := by decide +kernel
theorem dX7_count_127 : decode cX7_count 127 = .ok (.ifCond .eq 7, 3) := by decide +kernel
theorem dX7_count_130 : decode cX7_count 130 = .ok (.iconst 1, 1) := by decide +kernel
theorem dX7_count_131 : decode cX7_count 131 = .ok (.goto 4, 3) := by decide +kernel
theorem dX7_count_134 : decode cX7_count 134 = .ok (.iconst 0, 1) := by decide +kernel
theorem dX7_count_135 : decode cX7_count 135 = .ok (.aload_n 0, 1) := by decide +kernel
theorem dX7_count_136 : decode cX7_count 136 = .ok (.getfield 63, 3) := by decide +kernel
theorem dX7_count_139 : decode cX7_count 139 = .ok (.iconst 1, 1) := by decide +kernel
theorem dX7_count_140 : decode cX7_count 140 = .ok (.baload, 1) := by decide +kernel
theorem dX7_count_141 : decode cX7_count 141 = .ok (.ifCond .eq 7, 3) := by decide +kernel
theorem dX7_count_144 : decode cX7_count 144 = .ok (.iconst 2, 1) := by decide +kernel
theorem dX7_count_145 : decode cX7_count 145 = .ok (.goto 4, 3) := by decide +kernel
theorem dX7_count_148 : decode cX7_count 148 = .ok (.iconst 0, 1) := by decide +kernel
theorem dX7_count_149 : decode cX7_count 149 = .ok (.iadd, 1) := by decide +kernel
theorem dX7_count_150 : decode cX7_count 150 = .ok (.ireturn, 1) := by decide +kernel
theorem dX7_count_151 : decode cX7_count 151 = .ok (.iload_n 1, 1) := by decide +kernel
theorem dX7_count_152 : decode cX7_count 152 = .ok (.bipush 10, 2) := by decide +kernel
theorem dX7_count_154 : decode cX7_count 154 = .ok (.bipush 49, 2) := by decide +kernel
theorem dX7_count_156 : decode cX7_count 156 = .ok (.invokestatic 66, 3) := by decide +kernel
theorem dX7_count_159 : decode cX7_count 159 = .ok (.ifCond .eq 14, 3) := by decide +kernel
theorem dX7_count_162 : decode cX7_count 162 = .ok (.aload_n 0, 1) := by decide +kernel
theorem dX7_count_163 : decode cX7_count 163 = .ok (.iload_n 1, 1) := by decide +kernel
theorem dX7_count_164 : decode cX7_count 164 = .ok (.bipush 10, 2) := by decide +kernel
theorem dX7_count_166 : decode cX7_count 166 = .ok (.isub, 1) := by decide +kernel
theorem dX7_count_167 : decode cX7_count 167 = .ok (.invokevirtual 206, 3) := by decide +kernel
theorem dX7_count_170 : decode cX7_count 170 = .ok (.goto 5, 3) := by decide +kernel
theorem dX7_count_173 : decode cX7_count 173 = .ok (.bipush (-2), 2) := by decide +kernel
theorem dX7_count_175 : decode cX7_count 175 = .ok (.ireturn, 1) := by decide +kernel
