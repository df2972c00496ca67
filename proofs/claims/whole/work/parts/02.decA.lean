theorem dX0_init_0 : decode cX0_init 0 = .ok (.aload_n 0, 1) := by decide +kernel
theorem dX0_init_1 : decode cX0_init 1 = .ok (.invokespecial 3, 3) := by decide +kernel
theorem dX0_init_4 : decode cX0_init 4 = .ok (.aload_n 0, 1) := by decide +kernel
theorem dX0_init_5 : decode cX0_init 5 = .ok (.bipush 41, 2) := by decide +kernel
theorem dX0_init_7 : decode cX0_init 7 = .ok (.newarray .int, 2) := by decide +kernel
theorem dX0_init_9 : decode cX0_init 9 = .ok (.putfield 11, 3) := by decide +kernel
theorem dX0_init_12 : decode cX0_init 12 = .ok (.aload_n 0, 1) := by decide +kernel
theorem dX0_init_13 : decode cX0_init 13 = .ok (.bipush 41, 2) := by decide +kernel
theorem dX0_init_15 : decode cX0_init 15 = .ok (.newarray .int, 2) := by decide +kernel
theorem dX0_init_17 : decode cX0_init 17 = .ok (.putfield 15, 3) := by decide +kernel
theorem dX0_init_20 : decode cX0_init 20 = .ok (.aload_n 0, 1) := by decide +kernel
theorem dX0_init_21 : decode cX0_init 21 = .ok (.bipush 41, 2) := by decide +kernel
theorem dX0_init_23 : decode cX0_init 23 = .ok (.newarray .int, 2) := by decide +kernel
theorem dX0_init_25 : decode cX0_init 25 = .ok (.putfield 18, 3) := by decide +kernel
theorem dX0_init_28 : decode cX0_init 28 = .ok (.aload_n 0, 1) := by decide +kernel
theorem dX0_init_29 : decode cX0_init 29 = .ok (.bipush 41, 2) := by decide +kernel
theorem dX0_init_31 : decode cX0_init 31 = .ok (.newarray .int, 2) := by decide +kernel
theorem dX0_init_33 : decode cX0_init 33 = .ok (.putfield 21, 3) := by decide +kernel
theorem dX0_init_36 : decode cX0_init 36 = .ok (.aload_n 0, 1) := by decide +kernel
theorem dX0_init_37 : decode cX0_init 37 = .ok (.bipush 41, 2) := by decide +kernel
theorem dX0_init_39 : decode cX0_init 39 = .ok (.newarray .int, 2) := by decide +kernel
theorem dX0_init_41 : decode cX0_init 41 = .ok (.putfield 24, 3) := by decide +kernel
theorem dX0_init_44 : decode cX0_init 44 = .ok (.aload_n 0, 1) := by decide +kernel
theorem dX0_init_45 : decode cX0_init 45 = .ok (.bipush 41, 2) := by decide +kernel
theorem dX0_init_47 : decode cX0_init 47 = .ok (.newarray .int, 2) := by decide +kernel
theorem dX0_init_49 : decode cX0_init 49 = .ok (.putfield 27, 3) := by decide +kernel
theorem dX0_init_52 : decode cX0_init 52 = .ok (.aload_n 0, 1) := by decide +kernel
theorem dX0_init_53 : decode cX0_init 53 = .ok (.bipush 41, 2) := by decide +kernel
theorem dX0_init_55 : decode cX0_init 55 = .ok (.newarray .int, 2) := by decide +kernel
theorem dX0_init_57 : decode cX0_init 57 = .ok (.putfield 30, 3) := by decide +kernel
theorem dX0_init_60 : decode cX0_init 60 = .ok (.aload_n 0, 1) := by decide +kernel
theorem dX0_init_61 : decode cX0_init 61 = .ok (.bipush 50, 2) := by decide +kernel
theorem dX0_init_63 : decode cX0_init 63 = .ok (.putfield 33, 3) := by decide +kernel
theorem dX0_init_66 : decode cX0_init 66 = .ok (.aload_n 0, 1) := by decide +kernel
theorem dX0_init_67 : decode cX0_init 67 = .ok (.bipush 30, 2) := by decide +kernel
theorem dX0_init_69 : decode cX0_init 69 = .ok (.putfield 37, 3) := by decide +kernel
theorem dX0_init_72 : decode cX0_init 72 = .ok (.aload_n 0, 1) := by decide +kernel
theorem dX0_init_73 : decode cX0_init 73 = .ok (.bipush 25, 2) := by decide +kernel
theorem dX0_init_75 : decode cX0_init 75 = .ok (.putfield 40, 3) := by decide +kernel
theorem dX0_init_78 : decode cX0_init 78 = .ok (.return_, 1) := by decide +kernel
theorem dX0_append_0 : decode cX0_append 0 = .ok (.aload_n 0, 1) := by decide +kernel
theorem dX0_append_1 : decode cX0_append 1 = .ok (.getfield 43, 3) := by decide +kernel
theorem dX0_append_4 : decode cX0_append 4 = .ok (.bipush 41, 2) := by decide +kernel
theorem dX0_append_6 : decode cX0_append 6 = .ok (.if_icmp .lt 4, 3) := by decide +kernel
theorem dX0_append_9 : decode cX0_append 9 = .ok (.return_, 1) := by decide +kernel
theorem dX0_append_10 : decode cX0_append 10 = .ok (.aload_n 0, 1) := by decide +kernel
theorem dX0_append_11 : decode cX0_append 11 = .ok (.getfield 11, 3) := by decide +kernel
theorem dX0_append_14 : decode cX0_append 14 = .ok (.aload_n 0, 1) := by decide +kernel
theorem dX0_append_15 : decode cX0_append 15 = .ok (.getfield 43, 3) := by decide +kernel
theorem dX0_append_18 : decode cX0_append 18 = .ok (.iload_n 1, 1) := by decide +kernel
theorem dX0_append_19 : decode cX0_append 19 = .ok (.iastore, 1) := by decide +kernel
theorem dX0_append_20 : decode cX0_append 20 = .ok (.aload_n 0, 1) := by decide +kernel
theorem dX0_append_21 : decode cX0_append 21 = .ok (.getfield 15, 3) := by decide +kernel
theorem dX0_append_24 : decode cX0_append 24 = .ok (.aload_n 0, 1) := by decide +kernel
theorem dX0_append_25 : decode cX0_append 25 = .ok (.getfield 43, 3) := by decide +kernel
theorem dX0_append_28 : decode cX0_append 28 = .ok (.iload_n 2, 1) := by decide +kernel
theorem dX0_append_29 : decode cX0_append 29 = .ok (.iastore, 1) := by decide +kernel
theorem dX0_append_30 : decode cX0_append 30 = .ok (.aload_n 0, 1) := by decide +kernel
theorem dX0_append_31 : decode cX0_append 31 = .ok (.getfield 18, 3) := by decide +kernel
theorem dX0_append_34 : decode cX0_append 34 = .ok (.aload_n 0, 1) := by decide +kernel
theorem dX0_append_35 : decode cX0_append 35 = .ok (.getfield 43, 3) := by decide +kernel
theorem dX0_append_38 : decode cX0_append 38 = .ok (.iload_n 3, 1) := by decide +kernel
theorem dX0_append_39 : decode cX0_append 39 = .ok (.iastore, 1) := by decide +kernel
theorem dX0_append_40 : decode cX0_append 40 = .ok (.aload_n 0, 1) := by decide +kernel
theorem dX0_append_41 : decode cX0_append 41 = .ok (.getfield 21, 3) := by decide +kernel
theorem dX0_append_44 : decode cX0_append 44 = .ok (.aload_n 0, 1) := by decide +kernel
theorem dX0_append_45 : decode cX0_append 45 = .ok (.getfield 43, 3) := by decide +kernel
theorem dX0_append_48 : decode cX0_append 48 = .ok (.iload 4, 2) := by decide +kernel
theorem dX0_append_50 : decode cX0_append 50 = .ok (.iastore, 1) := by decide +kernel
theorem dX0_append_51 : decode cX0_append 51 = .ok (.aload_n 0, 1) := by decide +kernel
theorem dX0_append_52 : decode cX0_append 52 = .ok (.getfield 24, 3) := by decide +kernel
theorem dX0_append_55 : decode cX0_append 55 = .ok (.aload_n 0, 1) := by decide +kernel
theorem dX0_append_56 : decode cX0_append 56 = .ok (.getfield 43, 3) := by decide +kernel
theorem dX0_append_59 : decode cX0_append 59 = .ok (.iload 5, 2) := by decide +kernel
theorem dX0_append_61 : decode cX0_append 61 = .ok (.iastore, 1) := by decide +kernel
theorem dX0_append_62 : decode cX0_append 62 = .ok (.aload_n 0, 1) := by decide +kernel
theorem dX0_append_63 : decode cX0_append 63 = .ok (.getfield 27, 3) := by decide +kernel
theorem dX0_append_66 : decode cX0_append 66 = .ok (.aload_n 0, 1) := by decide +kernel
theorem dX0_append_67 : decode cX0_append 67 = .ok (.getfield 43, 3) := by decide +kernel
theorem dX0_append_70 : decode cX0_append 70 = .ok (.iload 6, 2) := by decide +kernel
theorem dX0_append_72 : decode cX0_append 72 = .ok (.iastore, 1) := by decide +kernel
theorem dX0_append_73 : decode cX0_append 73 = .ok (.aload_n 0, 1) := by decide +kernel
theorem dX0_append_74 : decode cX0_append 74 = .ok (.dup, 1) := by decide +kernel
theorem dX0_append_75 : decode cX0_append 75 = .ok (.getfield 43, 3) := by decide +kernel
theorem dX0_append_78 : decode cX0_append 78 = .ok (.iconst 1, 1) := by decide +kernel
theorem dX0_append_79 : decode cX0_append 79 = .ok (.iadd, 1) := by decide +kernel
theorem dX0_append_80 : decode cX0_append 80 = .ok (.putfield 43, 3) := by decide +kernel
theorem dX0_append_83 : decode cX0_append 83 = .ok (.aload_n 0, 1) := by decide +kernel
theorem dX0_append_84 : decode cX0_append 84 = .ok (.invokevirtual 46, 3) := by decide +kernel
theorem dX0_append_87 : decode cX0_append 87 = .ok (.return_, 1) := by decide +kernel
theorem dX0_strike_0 : decode cX0_strike 0 = .ok (.iload_n 1, 1) := by decide +kernel
theorem dX0_strike_1 : decode cX0_strike 1 = .ok (.ifCond .lt 11, 3) := by decide +kernel
theorem dX0_strike_4 : decode cX0_strike 4 = .ok (.iload_n 1, 1) := by decide +kernel
theorem dX0_strike_5 : decode cX0_strike 5 = .ok (.aload_n 0, 1) := by decide +kernel
theorem dX0_strike_6 : decode cX0_strike 6 = .ok (.getfield 43, 3) := by decide +kernel
theorem dX0_strike_9 : decode cX0_strike 9 = .ok (.if_icmp .lt 4, 3) := by decide +kernel
theorem dX0_strike_12 : decode cX0_strike 12 = .ok (.return_, 1) := by decide +kernel
theorem dX0_strike_13 : decode cX0_strike 13 = .ok (.aload_n 0, 1) := by decide +kernel
theorem dX0_strike_14 : decode cX0_strike 14 = .ok (.aload_n 0, 1) := by decide +kernel
theorem dX0_strike_15 : decode cX0_strike 15 = .ok (.getfield 11, 3) := by decide +kernel
theorem dX0_strike_18 : decode cX0_strike 18 = .ok (.iload_n 1, 1) := by decide +kernel
theorem dX0_strike_19 : decode cX0_strike 19 = .ok (.invokevirtual 49, 3) := by decide +kernel
theorem dX0_strike_22 : decode cX0_strike 22 = .ok (.aload_n 0, 1) := by decide +kernel
theorem dX0_strike_23 : decode cX0_strike 23 = .ok (.aload_n 0, 1) := by decide +kernel
theorem dX0_strike_24 : decode cX0_strike 24 = .ok (.getfield 15, 3) := by decide +kernel
theorem dX0_strike_27 : decode cX0_strike 27 = .ok (.iload_n 1, 1) := by decide +kernel
theorem dX0_strike_28 : decode cX0_strike 28 = .ok (.invokevirtual 49, 3) := by decide +kernel
theorem dX0_strike_31 : decode cX0_strike 31 = .ok (.aload_n 0, 1) := by decide +kernel
theorem dX0_strike_32 : decode cX0_strike 32 = .ok (.aload_n 0, 1) := by decide +kernel
theorem dX0_strike_33 : decode cX0_strike 33 = .ok (.getfield 18, 3) := by decide +kernel
theorem dX0_strike_36 : decode cX0_strike 36 = .ok (.iload_n 1, 1) := by decide +kernel
theorem dX0_strike_37 : decode cX0_strike 37 = .ok (.invokevirtual 49, 3) := by decide +kernel
theorem dX0_strike_40 : decode cX0_strike 40 = .ok (.aload_n 0, 1) := by decide +kernel
theorem dX0_strike_41 : decode cX0_strike 41 = .ok (.aload_n 0, 1) := by decide +kernel
theorem dX0_strike_42 : decode cX0_strike 42 = .ok (.getfield 21, 3) := by decide +kernel
theorem dX0_strike_45 : decode cX0_strike 45 = .ok (.iload_n 1, 1) := by decide +kernel
theorem dX0_strike_46 : decode cX0_strike 46 = .ok (.invokevirtual 49, 3) := by decide +kernel
theorem dX0_strike_49 : decode cX0_strike 49 = .ok (.aload_n 0, 1) := by decide +kernel
theorem dX0_strike_50 : decode cX0_strike 50 = .ok (.aload_n 0, 1) := by decide +kernel
theorem dX0_strike_51 : decode cX0_strike 51 = .ok (.getfield 24, 3) := by decide +kernel
theorem dX0_strike_54 : decode cX0_strike 54 = .ok (.iload_n 1, 1) := by decide +kernel
theorem dX0_strike_55 : decode cX0_strike 55 = .ok (.invokevirtual 49, 3) := by decide +kernel
theorem dX0_strike_58 : decode cX0_strike 58 = .ok (.aload_n 0, 1) := by decide +kernel
theorem dX0_strike_59 : decode cX0_strike 59 = .ok (.aload_n 0, 1) := by decide +kernel
theorem dX0_strike_60 : decode cX0_strike 60 = .ok (.getfield 27, 3) := by decide +kernel
theorem dX0_strike_63 : decode cX0_strike 63 = .ok (.iload_n 1, 1) := by decide +kernel
theorem dX0_strike_64 : decode cX0_strike 64 = .ok (.invokevirtual 49, 3) := by decide +kernel
theorem dX0_strike_67 : decode cX0_strike 67 = .ok (.aload_n 0, 1) := by decide +kernel
theorem dX0_strike_68 : decode cX0_strike 68 = .ok (.dup, 1) := by decide +kernel
theorem dX0_strike_69 : decode cX0_strike 69 = .ok (.getfield 43, 3) := by decide +kernel
theorem dX0_strike_72 : decode cX0_strike 72 = .ok (.iconst 1, 1) := by decide +kernel
theorem dX0_strike_73 : decode cX0_strike 73 = .ok (.isub, 1) := by decide +kernel
theorem dX0_strike_74 : decode cX0_strike 74 = .ok (.putfield 43, 3) := by decide +kernel
theorem dX0_strike_77 : decode cX0_strike 77 = .ok (.aload_n 0, 1) := by decide +kernel
theorem dX0_strike_78 : decode cX0_strike 78 = .ok (.invokevirtual 46, 3) := by decide +kernel
theorem dX0_strike_81 : decode cX0_strike 81 = .ok (.return_, 1) := by decide +kernel
theorem dX0_closeGap_0 : decode cX0_closeGap 0 = .ok (.aload_n 1, 1) := by decide +kernel
theorem dX0_closeGap_1 : decode cX0_closeGap 1 = .ok (.iload_n 2, 1) := by decide +kernel
theorem dX0_closeGap_2 : decode cX0_closeGap 2 = .ok (.iconst 1, 1) := by decide +kernel
theorem dX0_closeGap_3 : decode cX0_closeGap 3 = .ok (.iadd, 1) := by decide +kernel
theorem dX0_closeGap_4 : decode cX0_closeGap 4 = .ok (.aload_n 1, 1) := by decide +kernel
theorem dX0_closeGap_5 : decode cX0_closeGap 5 = .ok (.iload_n 2, 1) := by decide +kernel
theorem dX0_closeGap_6 : decode cX0_closeGap 6 = .ok (.aload_n 0, 1) := by decide +kernel
theorem dX0_closeGap_7 : decode cX0_closeGap 7 = .ok (.getfield 43, 3) := by decide +kernel
theorem dX0_closeGap_10 : decode cX0_closeGap 10 = .ok (.iload_n 2, 1) := by decide +kernel
theorem dX0_closeGap_11 : decode cX0_closeGap 11 = .ok (.isub, 1) := by decide +kernel
theorem dX0_closeGap_12 : decode cX0_closeGap 12 = .ok (.iconst 1, 1) := by decide +kernel
theorem dX0_closeGap_13 : decode cX0_closeGap 13 = .ok (.isub, 1) := by decide +kernel
theorem dX0_closeGap_14 : decode cX0_closeGap 14 = .ok (.invokestatic 53, 3) := by decide +kernel
theorem dX0_closeGap_17 : decode cX0_closeGap 17 = .ok (.return_, 1) := by decide +kernel
theorem dX0_arrange_0 : decode cX0_arrange 0 = .ok (.iconst 0, 1) := by decide +kernel
theorem dX0_arrange_1 : decode cX0_arrange 1 = .ok (.istore_n 1, 1) := by decide +kernel
theorem dX0_arrange_2 : decode cX0_arrange 2 = .ok (.iload_n 1, 1) := by decide +kernel
theorem dX0_arrange_3 : decode cX0_arrange 3 = .ok (.aload_n 0, 1) := by decide +kernel
theorem dX0_arrange_4 : decode cX0_arrange 4 = .ok (.getfield 43, 3) := by decide +kernel
theorem dX0_arrange_7 : decode cX0_arrange 7 = .ok (.if_icmp .ge 64, 3) := by decide +kernel
theorem dX0_arrange_10 : decode cX0_arrange 10 = .ok (.iload_n 1, 1) := by decide +kernel
theorem dX0_arrange_11 : decode cX0_arrange 11 = .ok (.istore_n 2, 1) := by decide +kernel
theorem dX0_arrange_12 : decode cX0_arrange 12 = .ok (.iload_n 2, 1) := by decide +kernel
theorem dX0_arrange_13 : decode cX0_arrange 13 = .ok (.ifCond .le 45, 3) := by decide +kernel
theorem dX0_arrange_16 : decode cX0_arrange 16 = .ok (.aload_n 0, 1) := by decide +kernel
theorem dX0_arrange_17 : decode cX0_arrange 17 = .ok (.getfield 11, 3) := by decide +kernel
theorem dX0_arrange_20 : decode cX0_arrange 20 = .ok (.aload_n 0, 1) := by decide +kernel
theorem dX0_arrange_21 : decode cX0_arrange 21 = .ok (.getfield 30, 3) := by decide +kernel
theorem dX0_arrange_24 : decode cX0_arrange 24 = .ok (.iload_n 2, 1) := by decide +kernel
theorem dX0_arrange_25 : decode cX0_arrange 25 = .ok (.iconst 1, 1) := by decide +kernel
theorem dX0_arrange_26 : decode cX0_arrange 26 = .ok (.isub, 1) := by decide +kernel
theorem dX0_arrange_27 : decode cX0_arrange 27 = .ok (.iaload, 1) := by decide +kernel
theorem dX0_arrange_28 : decode cX0_arrange 28 = .ok (.iaload, 1) := by decide +kernel
theorem dX0_arrange_29 : decode cX0_arrange 29 = .ok (.aload_n 0, 1) := by decide +kernel
theorem dX0_arrange_30 : decode cX0_arrange 30 = .ok (.getfield 11, 3) := by decide +kernel
theorem dX0_arrange_33 : decode cX0_arrange 33 = .ok (.iload_n 1, 1) := by decide +kernel
theorem dX0_arrange_34 : decode cX0_arrange 34 = .ok (.iaload, 1) := by decide +kernel
theorem dX0_arrange_35 : decode cX0_arrange 35 = .ok (.if_icmp .le 23, 3) := by decide +kernel
theorem dX0_arrange_38 : decode cX0_arrange 38 = .ok (.aload_n 0, 1) := by decide +kernel
theorem dX0_arrange_39 : decode cX0_arrange 39 = .ok (.getfield 30, 3) := by decide +kernel
theorem dX0_arrange_42 : decode cX0_arrange 42 = .ok (.iload_n 2, 1) := by decide +kernel
theorem dX0_arrange_43 : decode cX0_arrange 43 = .ok (.aload_n 0, 1) := by decide +kernel
theorem dX0_arrange_44 : decode cX0_arrange 44 = .ok (.getfield 30, 3) := by decide +kernel
theorem dX0_arrange_47 : decode cX0_arrange 47 = .ok (.iload_n 2, 1) := by decide +kernel
theorem dX0_arrange_48 : decode cX0_arrange 48 = .ok (.iconst 1, 1) := by decide +kernel
theorem dX0_arrange_49 : decode cX0_arrange 49 = .ok (.isub, 1) := by decide +kernel
theorem dX0_arrange_50 : decode cX0_arrange 50 = .ok (.iaload, 1) := by decide +kernel
theorem dX0_arrange_51 : decode cX0_arrange 51 = .ok (.iastore, 1) := by decide +kernel
theorem dX0_arrange_52 : decode cX0_arrange 52 = .ok (.iinc 2 (-1), 3) := by decide +kernel
theorem dX0_arrange_55 : decode cX0_arrange 55 = .ok (.goto (-43), 3) := by decide +kernel
theorem dX0_arrange_58 : decode cX0_arrange 58 = .ok (.aload_n 0, 1) := by decide +kernel
theorem dX0_arrange_59 : decode cX0_arrange 59 = .ok (.getfield 30, 3) := by decide +kernel
theorem dX0_arrange_62 : decode cX0_arrange 62 = .ok (.iload_n 2, 1) := by decide +kernel
theorem dX0_arrange_63 : decode cX0_arrange 63 = .ok (.iload_n 1, 1) := by decide +kernel
theorem dX0_arrange_64 : decode cX0_arrange 64 = .ok (.iastore, 1) := by decide +kernel
theorem dX0_arrange_65 : decode cX0_arrange 65 = .ok (.iinc 1 1, 3) := by decide +kernel
theorem dX0_arrange_68 : decode cX0_arrange 68 = .ok (.goto (-66), 3) := by decide +kernel
theorem dX0_arrange_71 : decode cX0_arrange 71 = .ok (.return_, 1) := by decide +kernel
theorem dX0_copyFrom_0 : decode cX0_copyFrom 0 = .ok (.aload_n 1, 1) := by decide +kernel
theorem dX0_copyFrom_1 : decode cX0_copyFrom 1 = .ok (.getfield 11, 3) := by decide +kernel
theorem dX0_copyFrom_4 : decode cX0_copyFrom 4 = .ok (.iconst 0, 1) := by decide +kernel
theorem dX0_copyFrom_5 : decode cX0_copyFrom 5 = .ok (.aload_n 0, 1) := by decide +kernel
theorem dX0_copyFrom_6 : decode cX0_copyFrom 6 = .ok (.getfield 11, 3) := by decide +kernel
theorem dX0_copyFrom_9 : decode cX0_copyFrom 9 = .ok (.iconst 0, 1) := by decide +kernel
theorem dX0_copyFrom_10 : decode cX0_copyFrom 10 = .ok (.bipush 41, 2) := by decide +kernel
theorem dX0_copyFrom_12 : decode cX0_copyFrom 12 = .ok (.invokestatic 53, 3) := by decide +kernel
theorem dX0_copyFrom_15 : decode cX0_copyFrom 15 = .ok (.aload_n 1, 1) := by decide +kernel
theorem dX0_copyFrom_16 : decode cX0_copyFrom 16 = .ok (.getfield 15, 3) := by decide +kernel
theorem dX0_copyFrom_19 : decode cX0_copyFrom 19 = .ok (.iconst 0, 1) := by decide +kernel
theorem dX0_copyFrom_20 : decode cX0_copyFrom 20 = .ok (.aload_n 0, 1) := by decide +kernel
theorem dX0_copyFrom_21 : decode cX0_copyFrom 21 = .ok (.getfield 15, 3) := by decide +kernel
theorem dX0_copyFrom_24 : decode cX0_copyFrom 24 = .ok (.iconst 0, 1) := by decide +kernel
theorem dX0_copyFrom_25 : decode cX0_copyFrom 25 = .ok (.bipush 41, 2) := by decide +kernel
theorem dX0_copyFrom_27 : decode cX0_copyFrom 27 = .ok (.invokestatic 53, 3) := by decide +kernel
theorem dX0_copyFrom_30 : decode cX0_copyFrom 30 = .ok (.aload_n 1, 1) := by decide +kernel
theorem dX0_copyFrom_31 : decode cX0_copyFrom 31 = .ok (.getfield 18, 3) := by decide +kernel
theorem dX0_copyFrom_34 : decode cX0_copyFrom 34 = .ok (.iconst 0, 1) := by decide +kernel
theorem dX0_copyFrom_35 : decode cX0_copyFrom 35 = .ok (.aload_n 0, 1) := by decide +kernel
theorem dX0_copyFrom_36 : decode cX0_copyFrom 36 = .ok (.getfield 18, 3) := by decide +kernel
theorem dX0_copyFrom_39 : decode cX0_copyFrom 39 = .ok (.iconst 0, 1) := by decide +kernel
theorem dX0_copyFrom_40 : decode cX0_copyFrom 40 = .ok (.bipush 41, 2) := by decide +kernel
theorem dX0_copyFrom_42 : decode cX0_copyFrom 42 = .ok (.invokestatic 53, 3) := by decide +kernel
theorem dX0_copyFrom_45 : decode cX0_copyFrom 45 = .ok (.aload_n 1, 1) := by decide +kernel
theorem dX0_copyFrom_46 : decode cX0_copyFrom 46 = .ok (.getfield 21, 3) := by decide +kernel
theorem dX0_copyFrom_49 : decode cX0_copyFrom 49 = .ok (.iconst 0, 1) := by decide +kernel
theorem dX0_copyFrom_50 : decode cX0_copyFrom 50 = .ok (.aload_n 0, 1) := by decide +kernel
theorem dX0_copyFrom_51 : decode cX0_copyFrom 51 = .ok (.getfield 21, 3) := by decide +kernel
theorem dX0_copyFrom_54 : decode cX0_copyFrom 54 = .ok (.iconst 0, 1) := by decide +kernel
theorem dX0_copyFrom_55 : decode cX0_copyFrom 55 = .ok (.bipush 41, 2) := by decide +kernel
theorem dX0_copyFrom_57 : decode cX0_copyFrom 57 = .ok (.invokestatic 53, 3) := by decide +kernel
theorem dX0_copyFrom_60 : decode cX0_copyFrom 60 = .ok (.aload_n 1, 1) := by decide +kernel
theorem dX0_copyFrom_61 : decode cX0_copyFrom 61 = .ok (.getfield 24, 3) := by decide +kernel
theorem dX0_copyFrom_64 : decode cX0_copyFrom 64 = .ok (.iconst 0, 1) := by decide +kernel
theorem dX0_copyFrom_65 : decode cX0_copyFrom 65 = .ok (.aload_n 0, 1) := by decide +kernel
theorem dX0_copyFrom_66 : decode cX0_copyFrom 66 = .ok (.getfield 24, 3) := by decide +kernel
theorem dX0_copyFrom_69 : decode cX0_copyFrom 69 = .ok (.iconst 0, 1) := by decide +kernel
theorem dX0_copyFrom_70 : decode cX0_copyFrom 70 = .ok (.bipush 41, 2) := by decide +kernel
theorem dX0_copyFrom_72 : decode cX0_copyFrom 72 = .ok (.invokestatic 53, 3) := by decide +kernel
theorem dX0_copyFrom_75 : decode cX0_copyFrom 75 = .ok (.aload_n 1, 1) := by decide +kernel
theorem dX0_copyFrom_76 : decode cX0_copyFrom 76 = .ok (.getfield 27, 3) := by decide +kernel
theorem dX0_copyFrom_79 : decode cX0_copyFrom 79 = .ok (.iconst 0, 1) := by decide +kernel
theorem dX0_copyFrom_80 : decode cX0_copyFrom 80 = .ok (.aload_n 0, 1) := by decide +kernel
theorem dX0_copyFrom_81 : decode cX0_copyFrom 81 = .ok (.getfield 27, 3) := by decide +kernel
theorem dX0_copyFrom_84 : decode cX0_copyFrom 84 = .ok (.iconst 0, 1) := by decide +kernel
theorem dX0_copyFrom_85 : decode cX0_copyFrom 85 = .ok (.bipush 41, 2) := by decide +kernel
theorem dX0_copyFrom_87 : decode cX0_copyFrom 87 = .ok (.invokestatic 53, 3) := by decide +kernel
theorem dX0_copyFrom_90 : decode cX0_copyFrom 90 = .ok (.aload_n 1, 1) := by decide +kernel
theorem dX0_copyFrom_91 : decode cX0_copyFrom 91 = .ok (.getfield 30, 3) := by decide +kernel
theorem dX0_copyFrom_94 : decode cX0_copyFrom 94 = .ok (.iconst 0, 1) := by decide +kernel
theorem dX0_copyFrom_95 : decode cX0_copyFrom 95 = .ok (.aload_n 0, 1) := by decide +kernel
theorem dX0_copyFrom_96 : decode cX0_copyFrom 96 = .ok (.getfield 30, 3) := by decide +kernel
theorem dX0_copyFrom_99 : decode cX0_copyFrom 99 = .ok (.iconst 0, 1) := by decide +kernel
theorem dX0_copyFrom_100 : decode cX0_copyFrom 100 = .ok (.bipush 41, 2) := by decide +kernel
theorem dX0_copyFrom_102 : decode cX0_copyFrom 102 = .ok (.invokestatic 53, 3) := by decide +kernel
theorem dX0_copyFrom_105 : decode cX0_copyFrom 105 = .ok (.aload_n 0, 1) := by decide +kernel
theorem dX0_copyFrom_106 : decode cX0_copyFrom 106 = .ok (.aload_n 1, 1) := by decide +kernel
theorem dX0_copyFrom_107 : decode cX0_copyFrom 107 = .ok (.getfield 43, 3) := by decide +kernel
theorem dX0_copyFrom_110 : decode cX0_copyFrom 110 = .ok (.putfield 43, 3) := by decide +kernel
theorem dX0_copyFrom_113 : decode cX0_copyFrom 113 = .ok (.aload_n 0, 1) := by decide +kernel
theorem dX0_copyFrom_114 : decode cX0_copyFrom 114 = .ok (.aload_n 1, 1) := by decide +kernel
theorem dX0_copyFrom_115 : decode cX0_copyFrom 115 = .ok (.getfield 59, 3) := by decide +kernel
theorem dX0_copyFrom_118 : decode cX0_copyFrom 118 = .ok (.putfield 59, 3) := by decide +kernel
theorem dX0_copyFrom_121 : decode cX0_copyFrom 121 = .ok (.aload_n 0, 1) := by decide +kernel
theorem dX0_copyFrom_122 : decode cX0_copyFrom 122 = .ok (.aload_n 1, 1) := by decide +kernel
theorem dX0_copyFrom_123 : decode cX0_copyFrom 123 = .ok (.getfield 33, 3) := by decide +kernel
theorem dX0_copyFrom_126 : decode cX0_copyFrom 126 = .ok (.putfield 33, 3) := by decide +kernel
theorem dX0_copyFrom_129 : decode cX0_copyFrom 129 = .ok (.aload_n 0, 1) := by decide +kernel
theorem dX0_copyFrom_130 : decode cX0_copyFrom 130 = .ok (.aload_n 1, 1) := by decide +kernel
theorem dX0_copyFrom_131 : decode cX0_copyFrom 131 = .ok (.getfield 37, 3) := by decide +kernel
theorem dX0_copyFrom_134 : decode cX0_copyFrom 134 = .ok (.putfield 37, 3) := by decide +kernel
theorem dX0_copyFrom_137 : decode cX0_copyFrom 137 = .ok (.aload_n 0, 1) := by decide +kernel
theorem dX0_copyFrom_138 : decode cX0_copyFrom 138 = .ok (.aload_n 1, 1) := by decide +kernel
theorem dX0_copyFrom_139 : decode cX0_copyFrom 139 = .ok (.getfield 40, 3) := by decide +kernel
theorem dX0_copyFrom_142 : decode cX0_copyFrom 142 = .ok (.putfield 40, 3) := by decide +kernel
theorem dX0_copyFrom_145 : decode cX0_copyFrom 145 = .ok (.return_, 1) := by decide +kernel
theorem dX0_placeOf_0 : decode cX0_placeOf 0 = .ok (.iconst 0, 1) := by decide +kernel
theorem dX0_placeOf_1 : decode cX0_placeOf 1 = .ok (.istore_n 2, 1) := by decide +kernel
theorem dX0_placeOf_2 : decode cX0_placeOf 2 = .ok (.iload_n 2, 1) := by decide +kernel
theorem dX0_placeOf_3 : decode cX0_placeOf 3 = .ok (.aload_n 0, 1) := by decide +kernel
theorem dX0_placeOf_4 : decode cX0_placeOf 4 = .ok (.getfield 43, 3) := by decide +kernel
theorem dX0_placeOf_7 : decode cX0_placeOf 7 = .ok (.if_icmp .ge 21, 3) := by decide +kernel
theorem dX0_placeOf_10 : decode cX0_placeOf 10 = .ok (.aload_n 0, 1) := by decide +kernel
theorem dX0_placeOf_11 : decode cX0_placeOf 11 = .ok (.getfield 30, 3) := by decide +kernel
theorem dX0_placeOf_14 : decode cX0_placeOf 14 = .ok (.iload_n 2, 1) := by decide +kernel
theorem dX0_placeOf_15 : decode cX0_placeOf 15 = .ok (.iaload, 1) := by decide +kernel
theorem dX0_placeOf_16 : decode cX0_placeOf 16 = .ok (.iload_n 1, 1) := by decide +kernel
theorem dX0_placeOf_17 : decode cX0_placeOf 17 = .ok (.if_icmp .ne 5, 3) := by decide +kernel
theorem dX0_placeOf_20 : decode cX0_placeOf 20 = .ok (.iload_n 2, 1) := by decide +kernel
theorem dX0_placeOf_21 : decode cX0_placeOf 21 = .ok (.ireturn, 1) := by decide +kernel
theorem dX0_placeOf_22 : decode cX0_placeOf 22 = .ok (.iinc 2 1, 3) := by decide +kernel
theorem dX0_placeOf_25 : decode cX0_placeOf 25 = .ok (.goto (-23), 3) := by decide +kernel
theorem dX0_placeOf_28 : decode cX0_placeOf 28 = .ok (.bipush (-6), 2) := by decide +kernel
theorem dX0_placeOf_30 : decode cX0_placeOf 30 = .ok (.ireturn, 1) := by decide +kernel
theorem dX0_doneBy_0 : decode cX0_doneBy 0 = .ok (.iconst 0, 1) := by decide +kernel
theorem dX0_doneBy_1 : decode cX0_doneBy 1 = .ok (.istore_n 2, 1) := by decide +kernel
theorem dX0_doneBy_2 : decode cX0_doneBy 2 = .ok (.iconst 0, 1) := by decide +kernel
theorem dX0_doneBy_3 : decode cX0_doneBy 3 = .ok (.istore_n 3, 1) := by decide +kernel
theorem dX0_doneBy_4 : decode cX0_doneBy 4 = .ok (.iload_n 3, 1) := by decide +kernel
theorem dX0_doneBy_5 : decode cX0_doneBy 5 = .ok (.aload_n 0, 1) := by decide +kernel
theorem dX0_doneBy_6 : decode cX0_doneBy 6 = .ok (.getfield 43, 3) := by decide +kernel
theorem dX0_doneBy_9 : decode cX0_doneBy 9 = .ok (.if_icmp .ge 30, 3) := by decide +kernel
theorem dX0_doneBy_12 : decode cX0_doneBy 12 = .ok (.iload_n 2, 1) := by decide +kernel
theorem dX0_doneBy_13 : decode cX0_doneBy 13 = .ok (.aload_n 0, 1) := by decide +kernel
theorem dX0_doneBy_14 : decode cX0_doneBy 14 = .ok (.getfield 11, 3) := by decide +kernel
theorem dX0_doneBy_17 : decode cX0_doneBy 17 = .ok (.iload_n 3, 1) := by decide +kernel
theorem dX0_doneBy_18 : decode cX0_doneBy 18 = .ok (.iaload, 1) := by decide +kernel
theorem dX0_doneBy_19 : decode cX0_doneBy 19 = .ok (.iload_n 1, 1) := by decide +kernel
theorem dX0_doneBy_20 : decode cX0_doneBy 20 = .ok (.if_icmp .gt 7, 3) := by decide +kernel
theorem dX0_doneBy_23 : decode cX0_doneBy 23 = .ok (.iconst 1, 1) := by decide +kernel
theorem dX0_doneBy_24 : decode cX0_doneBy 24 = .ok (.goto 4, 3) := by decide +kernel
theorem dX0_doneBy_27 : decode cX0_doneBy 27 = .ok (.iconst 0, 1) := by decide +kernel
theorem dX0_doneBy_28 : decode cX0_doneBy 28 = .ok (.invokestatic 62, 3) := by decide +kernel
theorem dX0_doneBy_31 : decode cX0_doneBy 31 = .ok (.iadd, 1) := by decide +kernel
theorem dX0_doneBy_32 : decode cX0_doneBy 32 = .ok (.istore_n 2, 1) := by decide +kernel
theorem dX0_doneBy_33 : decode cX0_doneBy 33 = .ok (.iinc 3 1, 3) := by decide +kernel
theorem dX0_doneBy_36 : decode cX0_doneBy 36 = .ok (.goto (-32), 3) := by decide +kernel
theorem dX0_doneBy_39 : decode cX0_doneBy 39 = .ok (.iload_n 2, 1) := by decide +kernel
theorem dX0_doneBy_40 : decode cX0_doneBy 40 = .ok (.ireturn, 1) := by decide +kernel
theorem dX0_isLastOfItsDay_0 : decode cX0_isLastOfItsDay 0 = .ok (.iload_n 1, 1) := by decide +kernel
theorem dX0_isLastOfItsDay_1 : decode cX0_isLastOfItsDay 1 = .ok (.iconst 1, 1) := by decide +kernel
theorem dX0_isLastOfItsDay_2 : decode cX0_isLastOfItsDay 2 = .ok (.iadd, 1) := by decide +kernel
theorem dX0_isLastOfItsDay_3 : decode cX0_isLastOfItsDay 3 = .ok (.aload_n 0, 1) := by decide +kernel
theorem dX0_isLastOfItsDay_4 : decode cX0_isLastOfItsDay 4 = .ok (.getfield 43, 3) := by decide +kernel
theorem dX0_isLastOfItsDay_7 : decode cX0_isLastOfItsDay 7 = .ok (.if_icmp .ge 30, 3) := by decide +kernel
theorem dX0_isLastOfItsDay_10 : decode cX0_isLastOfItsDay 10 = .ok (.aload_n 0, 1) := by decide +kernel
theorem dX0_isLastOfItsDay_11 : decode cX0_isLastOfItsDay 11 = .ok (.getfield 11, 3) := by decide +kernel
theorem dX0_isLastOfItsDay_14 : decode cX0_isLastOfItsDay 14 = .ok (.aload_n 0, 1) := by decide +kernel
theorem dX0_isLastOfItsDay_15 : decode cX0_isLastOfItsDay 15 = .ok (.getfield 30, 3) := by decide +kernel
theorem dX0_isLastOfItsDay_18 : decode cX0_isLastOfItsDay 18 = .ok (.iload_n 1, 1) := by decide +kernel
theorem dX0_isLastOfItsDay_19 : decode cX0_isLastOfItsDay 19 = .ok (.iconst 1, 1) := by decide +kernel
theorem dX0_isLastOfItsDay_20 : decode cX0_isLastOfItsDay 20 = .ok (.iadd, 1) := by decide +kernel
theorem dX0_isLastOfItsDay_21 : decode cX0_isLastOfItsDay 21 = .ok (.iaload, 1) := by decide +kernel
theorem dX0_isLastOfItsDay_22 : decode cX0_isLastOfItsDay 22 = .ok (.iaload, 1) := by decide +kernel
theorem dX0_isLastOfItsDay_23 : decode cX0_isLastOfItsDay 23 = .ok (.aload_n 0, 1) := by decide +kernel
theorem dX0_isLastOfItsDay_24 : decode cX0_isLastOfItsDay 24 = .ok (.getfield 11, 3) := by decide +kernel
theorem dX0_isLastOfItsDay_27 : decode cX0_isLastOfItsDay 27 = .ok (.aload_n 0, 1) := by decide +kernel
theorem dX0_isLastOfItsDay_28 : decode cX0_isLastOfItsDay 28 = .ok (.getfield 30, 3) := by decide +kernel
theorem dX0_isLastOfItsDay_31 : decode cX0_isLastOfItsDay 31 = .ok (.iload_n 1, 1) := by decide +kernel
theorem dX0_isLastOfItsDay_32 : decode cX0_isLastOfItsDay 32 = .ok (.iaload, 1) := by decide +kernel
theorem dX0_isLastOfItsDay_33 : decode cX0_isLastOfItsDay 33 = .ok (.iaload, 1) := by decide +kernel
theorem dX0_isLastOfItsDay_34 : decode cX0_isLastOfItsDay 34 = .ok (.if_icmp .eq 7, 3) := by decide +kernel
theorem dX0_isLastOfItsDay_37 : decode cX0_isLastOfItsDay 37 = .ok (.iconst 1, 1) := by decide +kernel
theorem dX0_isLastOfItsDay_38 : decode cX0_isLastOfItsDay 38 = .ok (.goto 4, 3) := by decide +kernel
theorem dX0_isLastOfItsDay_41 : decode cX0_isLastOfItsDay 41 = .ok (.iconst 0, 1) := by decide +kernel
theorem dX0_isLastOfItsDay_42 : decode cX0_isLastOfItsDay 42 = .ok (.ireturn, 1) := by decide +kernel
theorem dX0_unlikeDay_0 : decode cX0_unlikeDay 0 = .ok (.iconst 0, 1) := by decide +kernel
theorem dX0_unlikeDay_1 : decode cX0_unlikeDay 1 = .ok (.istore_n 2, 1) := by decide +kernel
theorem dX0_unlikeDay_2 : decode cX0_unlikeDay 2 = .ok (.iconst 0, 1) := by decide +kernel
theorem dX0_unlikeDay_3 : decode cX0_unlikeDay 3 = .ok (.istore_n 3, 1) := by decide +kernel
theorem dX0_unlikeDay_4 : decode cX0_unlikeDay 4 = .ok (.iload_n 3, 1) := by decide +kernel
theorem dX0_unlikeDay_5 : decode cX0_unlikeDay 5 = .ok (.aload_n 0, 1) := by decide +kernel
theorem dX0_unlikeDay_6 : decode cX0_unlikeDay 6 = .ok (.getfield 43, 3) := by decide +kernel
theorem dX0_unlikeDay_9 : decode cX0_unlikeDay 9 = .ok (.if_icmp .ge 37, 3) := by decide +kernel
theorem dX0_unlikeDay_12 : decode cX0_unlikeDay 12 = .ok (.aload_n 0, 1) := by decide +kernel
theorem dX0_unlikeDay_13 : decode cX0_unlikeDay 13 = .ok (.iload_n 3, 1) := by decide +kernel
theorem dX0_unlikeDay_14 : decode cX0_unlikeDay 14 = .ok (.invokevirtual 66, 3) := by decide +kernel
theorem dX0_unlikeDay_17 : decode cX0_unlikeDay 17 = .ok (.ifCond .eq 23, 3) := by decide +kernel
theorem dX0_unlikeDay_20 : decode cX0_unlikeDay 20 = .ok (.iload_n 2, 1) := by decide +kernel
theorem dX0_unlikeDay_21 : decode cX0_unlikeDay 21 = .ok (.iload_n 1, 1) := by decide +kernel
theorem dX0_unlikeDay_22 : decode cX0_unlikeDay 22 = .ok (.if_icmp .ne 15, 3) := by decide +kernel
theorem dX0_unlikeDay_25 : decode cX0_unlikeDay 25 = .ok (.aload_n 0, 1) := by decide +kernel
theorem dX0_unlikeDay_26 : decode cX0_unlikeDay 26 = .ok (.getfield 11, 3) := by decide +kernel
theorem dX0_unlikeDay_29 : decode cX0_unlikeDay 29 = .ok (.aload_n 0, 1) := by decide +kernel
theorem dX0_unlikeDay_30 : decode cX0_unlikeDay 30 = .ok (.getfield 30, 3) := by decide +kernel
theorem dX0_unlikeDay_33 : decode cX0_unlikeDay 33 = .ok (.iload_n 3, 1) := by decide +kernel
theorem dX0_unlikeDay_34 : decode cX0_unlikeDay 34 = .ok (.iaload, 1) := by decide +kernel
theorem dX0_unlikeDay_35 : decode cX0_unlikeDay 35 = .ok (.iaload, 1) := by decide +kernel
theorem dX0_unlikeDay_36 : decode cX0_unlikeDay 36 = .ok (.ireturn, 1) := by decide +kernel
theorem dX0_unlikeDay_37 : decode cX0_unlikeDay 37 = .ok (.iinc 2 1, 3) := by decide +kernel
theorem dX0_unlikeDay_40 : decode cX0_unlikeDay 40 = .ok (.iinc 3 1, 3) := by decide +kernel
theorem dX0_unlikeDay_43 : decode cX0_unlikeDay 43 = .ok (.goto (-39), 3) := by decide +kernel
theorem dX0_unlikeDay_46 : decode cX0_unlikeDay 46 = .ok (.bipush (-6), 2) := by decide +kernel
theorem dX0_unlikeDay_48 : decode cX0_unlikeDay 48 = .ok (.ireturn, 1) := by decide +kernel
theorem dX1_init_0 : decode cX1_init 0 = .ok (.aload_n 0, 1) := by decide +kernel
theorem dX1_init_1 : decode cX1_init 1 = .ok (.invokespecial 3, 3) := by decide +kernel
theorem dX1_init_4 : decode cX1_init 4 = .ok (.aload_n 0, 1) := by decide +kernel
theorem dX1_init_5 : decode cX1_init 5 = .ok (.bipush 9, 2) := by decide +kernel
theorem dX1_init_7 : decode cX1_init 7 = .ok (.newarray .int, 2) := by decide +kernel
theorem dX1_init_9 : decode cX1_init 9 = .ok (.putfield 9, 3) := by decide +kernel
theorem dX1_init_12 : decode cX1_init 12 = .ok (.aload_n 0, 1) := by decide +kernel
theorem dX1_init_13 : decode cX1_init 13 = .ok (.bipush 9, 2) := by decide +kernel
theorem dX1_init_15 : decode cX1_init 15 = .ok (.iconst 5, 1) := by decide +kernel
theorem dX1_init_16 : decode cX1_init 16 = .ok (.multianewarray 15 2, 4) := by decide +kernel
theorem dX1_init_20 : decode cX1_init 20 = .ok (.putfield 17, 3) := by decide +kernel
theorem dX1_init_23 : decode cX1_init 23 = .ok (.aload_n 0, 1) := by decide +kernel
theorem dX1_init_24 : decode cX1_init 24 = .ok (.bipush 9, 2) := by decide +kernel
theorem dX1_init_26 : decode cX1_init 26 = .ok (.newarray .int, 2) := by decide +kernel
theorem dX1_init_28 : decode cX1_init 28 = .ok (.putfield 20, 3) := by decide +kernel
theorem dX1_init_31 : decode cX1_init 31 = .ok (.return_, 1) := by decide +kernel
theorem dX1_workOutAll_0 : decode cX1_workOutAll 0 = .ok (.iconst 0, 1) := by decide +kernel
theorem dX1_workOutAll_1 : decode cX1_workOutAll 1 = .ok (.istore_n 3, 1) := by decide +kernel
theorem dX1_workOutAll_2 : decode cX1_workOutAll 2 = .ok (.iload_n 3, 1) := by decide +kernel
theorem dX1_workOutAll_3 : decode cX1_workOutAll 3 = .ok (.bipush 9, 2) := by decide +kernel
theorem dX1_workOutAll_5 : decode cX1_workOutAll 5 = .ok (.if_icmp .ge 16, 3) := by decide +kernel
theorem dX1_workOutAll_8 : decode cX1_workOutAll 8 = .ok (.aload_n 0, 1) := by decide +kernel
theorem dX1_workOutAll_9 : decode cX1_workOutAll 9 = .ok (.iload_n 3, 1) := by decide +kernel
theorem dX1_workOutAll_10 : decode cX1_workOutAll 10 = .ok (.aload_n 1, 1) := by decide +kernel
theorem dX1_workOutAll_11 : decode cX1_workOutAll 11 = .ok (.aload_n 2, 1) := by decide +kernel
theorem dX1_workOutAll_12 : decode cX1_workOutAll 12 = .ok (.invokevirtual 23, 3) := by decide +kernel
theorem dX1_workOutAll_15 : decode cX1_workOutAll 15 = .ok (.iinc 3 1, 3) := by decide +kernel
theorem dX1_workOutAll_18 : decode cX1_workOutAll 18 = .ok (.goto (-16), 3) := by decide +kernel
theorem dX1_workOutAll_21 : decode cX1_workOutAll 21 = .ok (.return_, 1) := by decide +kernel
theorem dX1_workOut_0 : decode cX1_workOut 0 = .ok (.aload_n 0, 1) := by decide +kernel
theorem dX1_workOut_1 : decode cX1_workOut 1 = .ok (.getfield 9, 3) := by decide +kernel
theorem dX1_workOut_4 : decode cX1_workOut 4 = .ok (.iload_n 1, 1) := by decide +kernel
theorem dX1_workOut_5 : decode cX1_workOut 5 = .ok (.iconst 0, 1) := by decide +kernel
theorem dX1_workOut_6 : decode cX1_workOut 6 = .ok (.iastore, 1) := by decide +kernel
theorem dX1_workOut_7 : decode cX1_workOut 7 = .ok (.aload_n 0, 1) := by decide +kernel
theorem dX1_workOut_8 : decode cX1_workOut 8 = .ok (.getfield 20, 3) := by decide +kernel
theorem dX1_workOut_11 : decode cX1_workOut 11 = .ok (.iload_n 1, 1) := by decide +kernel
theorem dX1_workOut_12 : decode cX1_workOut 12 = .ok (.iconst 0, 1) := by decide +kernel
theorem dX1_workOut_13 : decode cX1_workOut 13 = .ok (.iastore, 1) := by decide +kernel
theorem dX1_workOut_14 : decode cX1_workOut 14 = .ok (.iconst 0, 1) := by decide +kernel
theorem dX1_workOut_15 : decode cX1_workOut 15 = .ok (.istore 4, 2) := by decide +kernel
theorem dX1_workOut_17 : decode cX1_workOut 17 = .ok (.iload 4, 2) := by decide +kernel
theorem dX1_workOut_19 : decode cX1_workOut 19 = .ok (.iconst 5, 1) := by decide +kernel
theorem dX1_workOut_20 : decode cX1_workOut 20 = .ok (.if_icmp .ge 20, 3) := by decide +kernel
theorem dX1_workOut_23 : decode cX1_workOut 23 = .ok (.aload_n 0, 1) := by decide +kernel
theorem dX1_workOut_24 : decode cX1_workOut 24 = .ok (.getfield 17, 3) := by decide +kernel
theorem dX1_workOut_27 : decode cX1_workOut 27 = .ok (.iload_n 1, 1) := by decide +kernel
theorem dX1_workOut_28 : decode cX1_workOut 28 = .ok (.aaload, 1) := by decide +kernel
theorem dX1_workOut_29 : decode cX1_workOut 29 = .ok (.iload 4, 2) := by decide +kernel
theorem dX1_workOut_31 : decode cX1_workOut 31 = .ok (.bipush (-6), 2) := by decide +kernel
theorem dX1_workOut_33 : decode cX1_workOut 33 = .ok (.iastore, 1) := by decide +kernel
theorem dX1_workOut_34 : decode cX1_workOut 34 = .ok (.iinc 4 1, 3) := by decide +kernel
theorem dX1_workOut_37 : decode cX1_workOut 37 = .ok (.goto (-20), 3) := by decide +kernel
theorem dX1_workOut_40 : decode cX1_workOut 40 = .ok (.iconst 1, 1) := by decide +kernel
theorem dX1_workOut_41 : decode cX1_workOut 41 = .ok (.istore 4, 2) := by decide +kernel
theorem dX1_workOut_43 : decode cX1_workOut 43 = .ok (.iload 4, 2) := by decide +kernel
theorem dX1_workOut_45 : decode cX1_workOut 45 = .ok (.iconst 5, 1) := by decide +kernel
theorem dX1_workOut_46 : decode cX1_workOut 46 = .ok (.if_icmp .gt 79, 3) := by decide +kernel
theorem dX1_workOut_49 : decode cX1_workOut 49 = .ok (.aload_n 0, 1) := by decide +kernel
theorem dX1_workOut_50 : decode cX1_workOut 50 = .ok (.iload_n 1, 1) := by decide +kernel
theorem dX1_workOut_51 : decode cX1_workOut 51 = .ok (.aload_n 2, 1) := by decide +kernel
theorem dX1_workOut_52 : decode cX1_workOut 52 = .ok (.aload_n 3, 1) := by decide +kernel
theorem dX1_workOut_53 : decode cX1_workOut 53 = .ok (.invokevirtual 27, 3) := by decide +kernel
theorem dX1_workOut_56 : decode cX1_workOut 56 = .ok (.istore 5, 2) := by decide +kernel
theorem dX1_workOut_58 : decode cX1_workOut 58 = .ok (.iload 5, 2) := by decide +kernel
theorem dX1_workOut_60 : decode cX1_workOut 60 = .ok (.ifCond .ne 4, 3) := by decide +kernel
theorem dX1_workOut_63 : decode cX1_workOut 63 = .ok (.return_, 1) := by decide +kernel
theorem dX1_workOut_64 : decode cX1_workOut 64 = .ok (.aload_n 0, 1) := by decide +kernel
theorem dX1_workOut_65 : decode cX1_workOut 65 = .ok (.getfield 9, 3) := by decide +kernel
theorem dX1_workOut_68 : decode cX1_workOut 68 = .ok (.iload_n 1, 1) := by decide +kernel
theorem dX1_workOut_69 : decode cX1_workOut 69 = .ok (.dup2, 1) := by decide +kernel
theorem dX1_workOut_70 : decode cX1_workOut 70 = .ok (.iaload, 1) := by decide +kernel
theorem dX1_workOut_71 : decode cX1_workOut 71 = .ok (.iload 5, 2) := by decide +kernel
theorem dX1_workOut_73 : decode cX1_workOut 73 = .ok (.ior, 1) := by decide +kernel
theorem dX1_workOut_74 : decode cX1_workOut 74 = .ok (.iastore, 1) := by decide +kernel
theorem dX1_workOut_75 : decode cX1_workOut 75 = .ok (.aload_n 0, 1) := by decide +kernel
theorem dX1_workOut_76 : decode cX1_workOut 76 = .ok (.getfield 20, 3) := by decide +kernel
theorem dX1_workOut_79 : decode cX1_workOut 79 = .ok (.iload_n 1, 1) := by decide +kernel
theorem dX1_workOut_80 : decode cX1_workOut 80 = .ok (.iload 4, 2) := by decide +kernel
theorem dX1_workOut_82 : decode cX1_workOut 82 = .ok (.iastore, 1) := by decide +kernel
theorem dX1_workOut_83 : decode cX1_workOut 83 = .ok (.iconst 0, 1) := by decide +kernel
theorem dX1_workOut_84 : decode cX1_workOut 84 = .ok (.istore 6, 2) := by decide +kernel
theorem dX1_workOut_86 : decode cX1_workOut 86 = .ok (.iload 6, 2) := by decide +kernel
theorem dX1_workOut_88 : decode cX1_workOut 88 = .ok (.iconst 5, 1) := by decide +kernel
theorem dX1_workOut_89 : decode cX1_workOut 89 = .ok (.if_icmp .ge 30, 3) := by decide +kernel
theorem dX1_workOut_92 : decode cX1_workOut 92 = .ok (.iload 5, 2) := by decide +kernel
theorem dX1_workOut_94 : decode cX1_workOut 94 = .ok (.iload 6, 2) := by decide +kernel
theorem dX1_workOut_96 : decode cX1_workOut 96 = .ok (.invokestatic 31, 3) := by decide +kernel
theorem dX1_workOut_99 : decode cX1_workOut 99 = .ok (.ifCond .eq 14, 3) := by decide +kernel
theorem dX1_workOut_102 : decode cX1_workOut 102 = .ok (.aload_n 0, 1) := by decide +kernel
theorem dX1_workOut_103 : decode cX1_workOut 103 = .ok (.getfield 17, 3) := by decide +kernel
theorem dX1_workOut_106 : decode cX1_workOut 106 = .ok (.iload_n 1, 1) := by decide +kernel
theorem dX1_workOut_107 : decode cX1_workOut 107 = .ok (.aaload, 1) := by decide +kernel
theorem dX1_workOut_108 : decode cX1_workOut 108 = .ok (.iload 6, 2) := by decide +kernel
theorem dX1_workOut_110 : decode cX1_workOut 110 = .ok (.iload 4, 2) := by decide +kernel
theorem dX1_workOut_112 : decode cX1_workOut 112 = .ok (.iastore, 1) := by decide +kernel
theorem dX1_workOut_113 : decode cX1_workOut 113 = .ok (.iinc 6 1, 3) := by decide +kernel
theorem dX1_workOut_116 : decode cX1_workOut 116 = .ok (.goto (-30), 3) := by decide +kernel
theorem dX1_workOut_119 : decode cX1_workOut 119 = .ok (.iinc 4 1, 3) := by decide +kernel
theorem dX1_workOut_122 : decode cX1_workOut 122 = .ok (.goto (-79), 3) := by decide +kernel
theorem dX1_workOut_125 : decode cX1_workOut 125 = .ok (.return_, 1) := by decide +kernel
theorem dX1_newFirms_0 : decode cX1_newFirms 0 = .ok (.iconst 0, 1) := by decide +kernel
theorem dX1_newFirms_1 : decode cX1_newFirms 1 = .ok (.istore 4, 2) := by decide +kernel
theorem dX1_newFirms_3 : decode cX1_newFirms 3 = .ok (.iconst 0, 1) := by decide +kernel
theorem dX1_newFirms_4 : decode cX1_newFirms 4 = .ok (.istore 5, 2) := by decide +kernel
theorem dX1_newFirms_6 : decode cX1_newFirms 6 = .ok (.iload 5, 2) := by decide +kernel
theorem dX1_newFirms_8 : decode cX1_newFirms 8 = .ok (.iconst 5, 1) := by decide +kernel
theorem dX1_newFirms_9 : decode cX1_newFirms 9 = .ok (.if_icmp .ge 49, 3) := by decide +kernel
theorem dX1_newFirms_12 : decode cX1_newFirms 12 = .ok (.aload_n 0, 1) := by decide +kernel
theorem dX1_newFirms_13 : decode cX1_newFirms 13 = .ok (.getfield 9, 3) := by decide +kernel
theorem dX1_newFirms_16 : decode cX1_newFirms 16 = .ok (.iload_n 1, 1) := by decide +kernel
theorem dX1_newFirms_17 : decode cX1_newFirms 17 = .ok (.iaload, 1) := by decide +kernel
theorem dX1_newFirms_18 : decode cX1_newFirms 18 = .ok (.iload 5, 2) := by decide +kernel
theorem dX1_newFirms_20 : decode cX1_newFirms 20 = .ok (.invokestatic 31, 3) := by decide +kernel
theorem dX1_newFirms_23 : decode cX1_newFirms 23 = .ok (.ifCond .ne 29, 3) := by decide +kernel
theorem dX1_newFirms_26 : decode cX1_newFirms 26 = .ok (.aload_n 2, 1) := by decide +kernel
theorem dX1_newFirms_27 : decode cX1_newFirms 27 = .ok (.iload 5, 2) := by decide +kernel
theorem dX1_newFirms_29 : decode cX1_newFirms 29 = .ok (.iload_n 1, 1) := by decide +kernel
theorem dX1_newFirms_30 : decode cX1_newFirms 30 = .ok (.aload_n 0, 1) := by decide +kernel
theorem dX1_newFirms_31 : decode cX1_newFirms 31 = .ok (.getfield 9, 3) := by decide +kernel
theorem dX1_newFirms_34 : decode cX1_newFirms 34 = .ok (.iload_n 1, 1) := by decide +kernel
theorem dX1_newFirms_35 : decode cX1_newFirms 35 = .ok (.iaload, 1) := by decide +kernel
theorem dX1_newFirms_36 : decode cX1_newFirms 36 = .ok (.aload_n 3, 1) := by decide +kernel
theorem dX1_newFirms_37 : decode cX1_newFirms 37 = .ok (.invokevirtual 35, 3) := by decide +kernel
theorem dX1_newFirms_40 : decode cX1_newFirms 40 = .ok (.ifCond .eq 12, 3) := by decide +kernel
theorem dX1_newFirms_43 : decode cX1_newFirms 43 = .ok (.iload 4, 2) := by decide +kernel
theorem dX1_newFirms_45 : decode cX1_newFirms 45 = .ok (.iconst 1, 1) := by decide +kernel
theorem dX1_newFirms_46 : decode cX1_newFirms 46 = .ok (.iload 5, 2) := by decide +kernel
theorem dX1_newFirms_48 : decode cX1_newFirms 48 = .ok (.ishl, 1) := by decide +kernel
theorem dX1_newFirms_49 : decode cX1_newFirms 49 = .ok (.ior, 1) := by decide +kernel
theorem dX1_newFirms_50 : decode cX1_newFirms 50 = .ok (.istore 4, 2) := by decide +kernel
theorem dX1_newFirms_52 : decode cX1_newFirms 52 = .ok (.iinc 5 1, 3) := by decide +kernel
theorem dX1_newFirms_55 : decode cX1_newFirms 55 = .ok (.goto (-49), 3) := by decide +kernel
theorem dX1_newFirms_58 : decode cX1_newFirms 58 = .ok (.iload 4, 2) := by decide +kernel
theorem dX1_newFirms_60 : decode cX1_newFirms 60 = .ok (.ireturn, 1) := by decide +kernel
theorem dX1_witnessOf_0 : decode cX1_witnessOf 0 = .ok (.aload_n 0, 1) := by decide +kernel
theorem dX1_witnessOf_1 : decode cX1_witnessOf 1 = .ok (.getfield 9, 3) := by decide +kernel
theorem dX1_witnessOf_4 : decode cX1_witnessOf 4 = .ok (.iload_n 1, 1) := by decide +kernel
theorem dX1_witnessOf_5 : decode cX1_witnessOf 5 = .ok (.iaload, 1) := by decide +kernel
theorem dX1_witnessOf_6 : decode cX1_witnessOf 6 = .ok (.iload_n 2, 1) := by decide +kernel
theorem dX1_witnessOf_7 : decode cX1_witnessOf 7 = .ok (.invokestatic 31, 3) := by decide +kernel
theorem dX1_witnessOf_10 : decode cX1_witnessOf 10 = .ok (.ifCond .ne 6, 3) := by decide +kernel
theorem dX1_witnessOf_13 : decode cX1_witnessOf 13 = .ok (.bipush (-6), 2) := by decide +kernel
theorem dX1_witnessOf_15 : decode cX1_witnessOf 15 = .ok (.ireturn, 1) := by decide +kernel
theorem dX1_witnessOf_16 : decode cX1_witnessOf 16 = .ok (.aload_n 0, 1) := by decide +kernel
theorem dX1_witnessOf_17 : decode cX1_witnessOf 17 = .ok (.iload_n 1, 1) := by decide +kernel
theorem dX1_witnessOf_18 : decode cX1_witnessOf 18 = .ok (.aload_n 0, 1) := by decide +kernel
theorem dX1_witnessOf_19 : decode cX1_witnessOf 19 = .ok (.getfield 17, 3) := by decide +kernel
theorem dX1_witnessOf_22 : decode cX1_witnessOf 22 = .ok (.iload_n 1, 1) := by decide +kernel
theorem dX1_witnessOf_23 : decode cX1_witnessOf 23 = .ok (.aaload, 1) := by decide +kernel
theorem dX1_witnessOf_24 : decode cX1_witnessOf 24 = .ok (.iload_n 2, 1) := by decide +kernel
theorem dX1_witnessOf_25 : decode cX1_witnessOf 25 = .ok (.iaload, 1) := by decide +kernel
theorem dX1_witnessOf_26 : decode cX1_witnessOf 26 = .ok (.invokevirtual 41, 3) := by decide +kernel
theorem dX1_witnessOf_29 : decode cX1_witnessOf 29 = .ok (.istore 5, 2) := by decide +kernel
theorem dX1_witnessOf_31 : decode cX1_witnessOf 31 = .ok (.iload 5, 2) := by decide +kernel
theorem dX1_witnessOf_33 : decode cX1_witnessOf 33 = .ok (.istore 6, 2) := by decide +kernel
theorem dX1_witnessOf_35 : decode cX1_witnessOf 35 = .ok (.iconst 0, 1) := by decide +kernel
theorem dX1_witnessOf_36 : decode cX1_witnessOf 36 = .ok (.istore 7, 2) := by decide +kernel
theorem dX1_witnessOf_38 : decode cX1_witnessOf 38 = .ok (.iload 7, 2) := by decide +kernel
theorem dX1_witnessOf_40 : decode cX1_witnessOf 40 = .ok (.iload 5, 2) := by decide +kernel
theorem dX1_witnessOf_42 : decode cX1_witnessOf 42 = .ok (.if_icmp .ge 61, 3) := by decide +kernel
theorem dX1_witnessOf_45 : decode cX1_witnessOf 45 = .ok (.iload 7, 2) := by decide +kernel
theorem dX1_witnessOf_47 : decode cX1_witnessOf 47 = .ok (.iload 5, 2) := by decide +kernel
theorem dX1_witnessOf_49 : decode cX1_witnessOf 49 = .ok (.iconst (-1), 1) := by decide +kernel
theorem dX1_witnessOf_50 : decode cX1_witnessOf 50 = .ok (.ixor, 1) := by decide +kernel
theorem dX1_witnessOf_51 : decode cX1_witnessOf 51 = .ok (.iand, 1) := by decide +kernel
theorem dX1_witnessOf_52 : decode cX1_witnessOf 52 = .ok (.ifCond .ne 20, 3) := by decide +kernel
theorem dX1_witnessOf_55 : decode cX1_witnessOf 55 = .ok (.iload 7, 2) := by decide +kernel
theorem dX1_witnessOf_57 : decode cX1_witnessOf 57 = .ok (.invokestatic 45, 3) := by decide +kernel
theorem dX1_witnessOf_60 : decode cX1_witnessOf 60 = .ok (.iload 6, 2) := by decide +kernel
theorem dX1_witnessOf_62 : decode cX1_witnessOf 62 = .ok (.invokestatic 45, 3) := by decide +kernel
theorem dX1_witnessOf_65 : decode cX1_witnessOf 65 = .ok (.if_icmp .ge 7, 3) := by decide +kernel
theorem dX1_witnessOf_68 : decode cX1_witnessOf 68 = .ok (.iconst 1, 1) := by decide +kernel
theorem dX1_witnessOf_69 : decode cX1_witnessOf 69 = .ok (.goto 4, 3) := by decide +kernel
theorem dX1_witnessOf_72 : decode cX1_witnessOf 72 = .ok (.iconst 0, 1) := by decide +kernel
theorem dX1_witnessOf_73 : decode cX1_witnessOf 73 = .ok (.istore 8, 2) := by decide +kernel
theorem dX1_witnessOf_75 : decode cX1_witnessOf 75 = .ok (.iload 8, 2) := by decide +kernel
theorem dX1_witnessOf_77 : decode cX1_witnessOf 77 = .ok (.ifCond .eq 20, 3) := by decide +kernel
theorem dX1_witnessOf_80 : decode cX1_witnessOf 80 = .ok (.aload_n 3, 1) := by decide +kernel
theorem dX1_witnessOf_81 : decode cX1_witnessOf 81 = .ok (.iload_n 2, 1) := by decide +kernel
theorem dX1_witnessOf_82 : decode cX1_witnessOf 82 = .ok (.iload_n 1, 1) := by decide +kernel
theorem dX1_witnessOf_83 : decode cX1_witnessOf 83 = .ok (.iload 7, 2) := by decide +kernel
theorem dX1_witnessOf_85 : decode cX1_witnessOf 85 = .ok (.aload 4, 2) := by decide +kernel
theorem dX1_witnessOf_87 : decode cX1_witnessOf 87 = .ok (.invokevirtual 35, 3) := by decide +kernel
theorem dX1_witnessOf_90 : decode cX1_witnessOf 90 = .ok (.ifCond .eq 7, 3) := by decide +kernel
theorem dX1_witnessOf_93 : decode cX1_witnessOf 93 = .ok (.iload 7, 2) := by decide +kernel
theorem dX1_witnessOf_95 : decode cX1_witnessOf 95 = .ok (.istore 6, 2) := by decide +kernel
theorem dX1_witnessOf_97 : decode cX1_witnessOf 97 = .ok (.iinc 7 1, 3) := by decide +kernel
theorem dX1_witnessOf_100 : decode cX1_witnessOf 100 = .ok (.goto (-62), 3) := by decide +kernel
theorem dX1_witnessOf_103 : decode cX1_witnessOf 103 = .ok (.iload 6, 2) := by decide +kernel
theorem dX1_witnessOf_105 : decode cX1_witnessOf 105 = .ok (.ireturn, 1) := by decide +kernel
theorem dX1_firmsBefore_0 : decode cX1_firmsBefore 0 = .ok (.iconst 0, 1) := by decide +kernel
theorem dX1_firmsBefore_1 : decode cX1_firmsBefore 1 = .ok (.istore_n 3, 1) := by decide +kernel
theorem dX1_firmsBefore_2 : decode cX1_firmsBefore 2 = .ok (.iconst 0, 1) := by decide +kernel
theorem dX1_firmsBefore_3 : decode cX1_firmsBefore 3 = .ok (.istore 4, 2) := by decide +kernel
theorem dX1_firmsBefore_5 : decode cX1_firmsBefore 5 = .ok (.iload 4, 2) := by decide +kernel
theorem dX1_firmsBefore_7 : decode cX1_firmsBefore 7 = .ok (.iconst 5, 1) := by decide +kernel
theorem dX1_firmsBefore_8 : decode cX1_firmsBefore 8 = .ok (.if_icmp .ge 43, 3) := by decide +kernel
theorem dX1_firmsBefore_11 : decode cX1_firmsBefore 11 = .ok (.aload_n 0, 1) := by decide +kernel
theorem dX1_firmsBefore_12 : decode cX1_firmsBefore 12 = .ok (.getfield 9, 3) := by decide +kernel
theorem dX1_firmsBefore_15 : decode cX1_firmsBefore 15 = .ok (.iload_n 1, 1) := by decide +kernel
theorem dX1_firmsBefore_16 : decode cX1_firmsBefore 16 = .ok (.iaload, 1) := by decide +kernel
theorem dX1_firmsBefore_17 : decode cX1_firmsBefore 17 = .ok (.iload 4, 2) := by decide +kernel
theorem dX1_firmsBefore_19 : decode cX1_firmsBefore 19 = .ok (.invokestatic 31, 3) := by decide +kernel
theorem dX1_firmsBefore_22 : decode cX1_firmsBefore 22 = .ok (.ifCond .eq 23, 3) := by decide +kernel
theorem dX1_firmsBefore_25 : decode cX1_firmsBefore 25 = .ok (.aload_n 0, 1) := by decide +kernel
theorem dX1_firmsBefore_26 : decode cX1_firmsBefore 26 = .ok (.getfield 17, 3) := by decide +kernel
theorem dX1_firmsBefore_29 : decode cX1_firmsBefore 29 = .ok (.iload_n 1, 1) := by decide +kernel
theorem dX1_firmsBefore_30 : decode cX1_firmsBefore 30 = .ok (.aaload, 1) := by decide +kernel
theorem dX1_firmsBefore_31 : decode cX1_firmsBefore 31 = .ok (.iload 4, 2) := by decide +kernel
theorem dX1_firmsBefore_33 : decode cX1_firmsBefore 33 = .ok (.iaload, 1) := by decide +kernel
theorem dX1_firmsBefore_34 : decode cX1_firmsBefore 34 = .ok (.iload_n 2, 1) := by decide +kernel
theorem dX1_firmsBefore_35 : decode cX1_firmsBefore 35 = .ok (.if_icmp .ge 10, 3) := by decide +kernel
theorem dX1_firmsBefore_38 : decode cX1_firmsBefore 38 = .ok (.iload_n 3, 1) := by decide +kernel
theorem dX1_firmsBefore_39 : decode cX1_firmsBefore 39 = .ok (.iconst 1, 1) := by decide +kernel
theorem dX1_firmsBefore_40 : decode cX1_firmsBefore 40 = .ok (.iload 4, 2) := by decide +kernel
theorem dX1_firmsBefore_42 : decode cX1_firmsBefore 42 = .ok (.ishl, 1) := by decide +kernel
theorem dX1_firmsBefore_43 : decode cX1_firmsBefore 43 = .ok (.ior, 1) := by decide +kernel
theorem dX1_firmsBefore_44 : decode cX1_firmsBefore 44 = .ok (.istore_n 3, 1) := by decide +kernel
theorem dX1_firmsBefore_45 : decode cX1_firmsBefore 45 = .ok (.iinc 4 1, 3) := by decide +kernel
theorem dX1_firmsBefore_48 : decode cX1_firmsBefore 48 = .ok (.goto (-43), 3) := by decide +kernel
theorem dX1_firmsBefore_51 : decode cX1_firmsBefore 51 = .ok (.iload_n 3, 1) := by decide +kernel
theorem dX1_firmsBefore_52 : decode cX1_firmsBefore 52 = .ok (.ireturn, 1) := by decide +kernel
theorem dX1_chainOf_0 : decode cX1_chainOf 0 = .ok (.aload_n 0, 1) := by decide +kernel
theorem dX1_chainOf_1 : decode cX1_chainOf 1 = .ok (.iload_n 1, 1) := by decide +kernel
theorem dX1_chainOf_2 : decode cX1_chainOf 2 = .ok (.iload_n 2, 1) := by decide +kernel
theorem dX1_chainOf_3 : decode cX1_chainOf 3 = .ok (.aload_n 3, 1) := by decide +kernel
theorem dX1_chainOf_4 : decode cX1_chainOf 4 = .ok (.aload 4, 2) := by decide +kernel
theorem dX1_chainOf_6 : decode cX1_chainOf 6 = .ok (.invokevirtual 51, 3) := by decide +kernel
theorem dX1_chainOf_9 : decode cX1_chainOf 9 = .ok (.istore 5, 2) := by decide +kernel
theorem dX1_chainOf_11 : decode cX1_chainOf 11 = .ok (.aload_n 0, 1) := by decide +kernel
theorem dX1_chainOf_12 : decode cX1_chainOf 12 = .ok (.getfield 17, 3) := by decide +kernel
theorem dX1_chainOf_15 : decode cX1_chainOf 15 = .ok (.iload_n 1, 1) := by decide +kernel
theorem dX1_chainOf_16 : decode cX1_chainOf 16 = .ok (.aaload, 1) := by decide +kernel
theorem dX1_chainOf_17 : decode cX1_chainOf 17 = .ok (.iload_n 2, 1) := by decide +kernel
theorem dX1_chainOf_18 : decode cX1_chainOf 18 = .ok (.iaload, 1) := by decide +kernel
theorem dX1_chainOf_19 : decode cX1_chainOf 19 = .ok (.iconst 1, 1) := by decide +kernel
theorem dX1_chainOf_20 : decode cX1_chainOf 20 = .ok (.isub, 1) := by decide +kernel
theorem dX1_chainOf_21 : decode cX1_chainOf 21 = .ok (.istore 6, 2) := by decide +kernel
theorem dX1_chainOf_23 : decode cX1_chainOf 23 = .ok (.iload 6, 2) := by decide +kernel
theorem dX1_chainOf_25 : decode cX1_chainOf 25 = .ok (.ifCond .le 63, 3) := by decide +kernel
theorem dX1_chainOf_28 : decode cX1_chainOf 28 = .ok (.iconst 0, 1) := by decide +kernel
theorem dX1_chainOf_29 : decode cX1_chainOf 29 = .ok (.istore 7, 2) := by decide +kernel
theorem dX1_chainOf_31 : decode cX1_chainOf 31 = .ok (.iload 7, 2) := by decide +kernel
theorem dX1_chainOf_33 : decode cX1_chainOf 33 = .ok (.iconst 5, 1) := by decide +kernel
theorem dX1_chainOf_34 : decode cX1_chainOf 34 = .ok (.if_icmp .ge 48, 3) := by decide +kernel
theorem dX1_chainOf_37 : decode cX1_chainOf 37 = .ok (.iload 5, 2) := by decide +kernel
theorem dX1_chainOf_39 : decode cX1_chainOf 39 = .ok (.iload 7, 2) := by decide +kernel
theorem dX1_chainOf_41 : decode cX1_chainOf 41 = .ok (.invokestatic 31, 3) := by decide +kernel
theorem dX1_chainOf_44 : decode cX1_chainOf 44 = .ok (.ifCond .eq 32, 3) := by decide +kernel
theorem dX1_chainOf_47 : decode cX1_chainOf 47 = .ok (.aload_n 0, 1) := by decide +kernel
theorem dX1_chainOf_48 : decode cX1_chainOf 48 = .ok (.getfield 17, 3) := by decide +kernel
theorem dX1_chainOf_51 : decode cX1_chainOf 51 = .ok (.iload_n 1, 1) := by decide +kernel
theorem dX1_chainOf_52 : decode cX1_chainOf 52 = .ok (.aaload, 1) := by decide +kernel
theorem dX1_chainOf_53 : decode cX1_chainOf 53 = .ok (.iload 7, 2) := by decide +kernel
theorem dX1_chainOf_55 : decode cX1_chainOf 55 = .ok (.iaload, 1) := by decide +kernel
theorem dX1_chainOf_56 : decode cX1_chainOf 56 = .ok (.iload 6, 2) := by decide +kernel
theorem dX1_chainOf_58 : decode cX1_chainOf 58 = .ok (.if_icmp .ne 18, 3) := by decide +kernel
theorem dX1_chainOf_61 : decode cX1_chainOf 61 = .ok (.iload 5, 2) := by decide +kernel
theorem dX1_chainOf_63 : decode cX1_chainOf 63 = .ok (.aload_n 0, 1) := by decide +kernel
theorem dX1_chainOf_64 : decode cX1_chainOf 64 = .ok (.iload_n 1, 1) := by decide +kernel
theorem dX1_chainOf_65 : decode cX1_chainOf 65 = .ok (.iload 7, 2) := by decide +kernel
theorem dX1_chainOf_67 : decode cX1_chainOf 67 = .ok (.aload_n 3, 1) := by decide +kernel
theorem dX1_chainOf_68 : decode cX1_chainOf 68 = .ok (.aload 4, 2) := by decide +kernel
theorem dX1_chainOf_70 : decode cX1_chainOf 70 = .ok (.invokevirtual 51, 3) := by decide +kernel
theorem dX1_chainOf_73 : decode cX1_chainOf 73 = .ok (.ior, 1) := by decide +kernel
theorem dX1_chainOf_74 : decode cX1_chainOf 74 = .ok (.istore 5, 2) := by decide +kernel
theorem dX1_chainOf_76 : decode cX1_chainOf 76 = .ok (.iinc 7 1, 3) := by decide +kernel
theorem dX1_chainOf_79 : decode cX1_chainOf 79 = .ok (.goto (-48), 3) := by decide +kernel
theorem dX1_chainOf_82 : decode cX1_chainOf 82 = .ok (.iinc 6 (-1), 3) := by decide +kernel
theorem dX1_chainOf_85 : decode cX1_chainOf 85 = .ok (.goto (-62), 3) := by decide +kernel
theorem dX1_chainOf_88 : decode cX1_chainOf 88 = .ok (.iload 5, 2) := by decide +kernel
theorem dX1_chainOf_90 : decode cX1_chainOf 90 = .ok (.ireturn, 1) := by decide +kernel
theorem dX1_thoseOver_0 : decode cX1_thoseOver 0 = .ok (.iconst 0, 1) := by decide +kernel
theorem dX1_thoseOver_1 : decode cX1_thoseOver 1 = .ok (.istore 4, 2) := by decide +kernel
theorem dX1_thoseOver_3 : decode cX1_thoseOver 3 = .ok (.iconst 0, 1) := by decide +kernel
theorem dX1_thoseOver_4 : decode cX1_thoseOver 4 = .ok (.istore 5, 2) := by decide +kernel
theorem dX1_thoseOver_6 : decode cX1_thoseOver 6 = .ok (.iload 5, 2) := by decide +kernel
theorem dX1_thoseOver_8 : decode cX1_thoseOver 8 = .ok (.iload_n 3, 1) := by decide +kernel
theorem dX1_thoseOver_9 : decode cX1_thoseOver 9 = .ok (.if_icmp .ge 34, 3) := by decide +kernel
theorem dX1_thoseOver_12 : decode cX1_thoseOver 12 = .ok (.aload_n 0, 1) := by decide +kernel
theorem dX1_thoseOver_13 : decode cX1_thoseOver 13 = .ok (.getfield 9, 3) := by decide +kernel
theorem dX1_thoseOver_16 : decode cX1_thoseOver 16 = .ok (.iload_n 2, 1) := by decide +kernel
theorem dX1_thoseOver_17 : decode cX1_thoseOver 17 = .ok (.iload 5, 2) := by decide +kernel
theorem dX1_thoseOver_19 : decode cX1_thoseOver 19 = .ok (.iadd, 1) := by decide +kernel
theorem dX1_thoseOver_20 : decode cX1_thoseOver 20 = .ok (.iaload, 1) := by decide +kernel
theorem dX1_thoseOver_21 : decode cX1_thoseOver 21 = .ok (.iload_n 1, 1) := by decide +kernel
theorem dX1_thoseOver_22 : decode cX1_thoseOver 22 = .ok (.invokestatic 31, 3) := by decide +kernel
theorem dX1_thoseOver_25 : decode cX1_thoseOver 25 = .ok (.ifCond .eq 12, 3) := by decide +kernel
theorem dX1_thoseOver_28 : decode cX1_thoseOver 28 = .ok (.iload 4, 2) := by decide +kernel
theorem dX1_thoseOver_30 : decode cX1_thoseOver 30 = .ok (.iconst 1, 1) := by decide +kernel
theorem dX1_thoseOver_31 : decode cX1_thoseOver 31 = .ok (.iload 5, 2) := by decide +kernel
theorem dX1_thoseOver_33 : decode cX1_thoseOver 33 = .ok (.ishl, 1) := by decide +kernel
theorem dX1_thoseOver_34 : decode cX1_thoseOver 34 = .ok (.ior, 1) := by decide +kernel
theorem dX1_thoseOver_35 : decode cX1_thoseOver 35 = .ok (.istore 4, 2) := by decide +kernel
theorem dX1_thoseOver_37 : decode cX1_thoseOver 37 = .ok (.iinc 5 1, 3) := by decide +kernel
theorem dX1_thoseOver_40 : decode cX1_thoseOver 40 = .ok (.goto (-34), 3) := by decide +kernel
theorem dX1_thoseOver_43 : decode cX1_thoseOver 43 = .ok (.iload 4, 2) := by decide +kernel
theorem dX1_thoseOver_45 : decode cX1_thoseOver 45 = .ok (.ireturn, 1) := by decide +kernel
theorem dX1_mostRounds_0 : decode cX1_mostRounds 0 = .ok (.iconst 0, 1) := by decide +kernel
theorem dX1_mostRounds_1 : decode cX1_mostRounds 1 = .ok (.istore_n 1, 1) := by decide +kernel
theorem dX1_mostRounds_2 : decode cX1_mostRounds 2 = .ok (.iconst 0, 1) := by decide +kernel
theorem dX1_mostRounds_3 : decode cX1_mostRounds 3 = .ok (.istore_n 2, 1) := by decide +kernel
theorem dX1_mostRounds_4 : decode cX1_mostRounds 4 = .ok (.iload_n 2, 1) := by decide +kernel
theorem dX1_mostRounds_5 : decode cX1_mostRounds 5 = .ok (.bipush 9, 2) := by decide +kernel
theorem dX1_mostRounds_7 : decode cX1_mostRounds 7 = .ok (.if_icmp .ge 20, 3) := by decide +kernel
theorem dX1_mostRounds_10 : decode cX1_mostRounds 10 = .ok (.iload_n 1, 1) := by decide +kernel
theorem dX1_mostRounds_11 : decode cX1_mostRounds 11 = .ok (.aload_n 0, 1) := by decide +kernel
theorem dX1_mostRounds_12 : decode cX1_mostRounds 12 = .ok (.getfield 20, 3) := by decide +kernel
theorem dX1_mostRounds_15 : decode cX1_mostRounds 15 = .ok (.iload_n 2, 1) := by decide +kernel
theorem dX1_mostRounds_16 : decode cX1_mostRounds 16 = .ok (.iaload, 1) := by decide +kernel
theorem dX1_mostRounds_17 : decode cX1_mostRounds 17 = .ok (.invokestatic 55, 3) := by decide +kernel
theorem dX1_mostRounds_20 : decode cX1_mostRounds 20 = .ok (.istore_n 1, 1) := by decide +kernel
theorem dX1_mostRounds_21 : decode cX1_mostRounds 21 = .ok (.iinc 2 1, 3) := by decide +kernel
theorem dX1_mostRounds_24 : decode cX1_mostRounds 24 = .ok (.goto (-20), 3) := by decide +kernel
theorem dX1_mostRounds_27 : decode cX1_mostRounds 27 = .ok (.iload_n 1, 1) := by decide +kernel
theorem dX1_mostRounds_28 : decode cX1_mostRounds 28 = .ok (.ireturn, 1) := by decide +kernel
theorem dX2_init_0 : decode cX2_init 0 = .ok (.aload_n 0, 1) := by decide +kernel
theorem dX2_init_1 : decode cX2_init 1 = .ok (.invokespecial 3, 3) := by decide +kernel
theorem dX2_init_4 : decode cX2_init 4 = .ok (.aload_n 0, 1) := by decide +kernel
theorem dX2_init_5 : decode cX2_init 5 = .ok (.iconst 5, 1) := by decide +kernel
theorem dX2_init_6 : decode cX2_init 6 = .ok (.bipush 10, 2) := by decide +kernel
theorem dX2_init_8 : decode cX2_init 8 = .ok (.multianewarray 9 2, 4) := by decide +kernel
theorem dX2_init_12 : decode cX2_init 12 = .ok (.putfield 11, 3) := by decide +kernel
theorem dX2_init_15 : decode cX2_init 15 = .ok (.aload_n 0, 1) := by decide +kernel
theorem dX2_init_16 : decode cX2_init 16 = .ok (.iconst 5, 1) := by decide +kernel
theorem dX2_init_17 : decode cX2_init 17 = .ok (.bipush 10, 2) := by decide +kernel
theorem dX2_init_19 : decode cX2_init 19 = .ok (.multianewarray 9 2, 4) := by decide +kernel
theorem dX2_init_23 : decode cX2_init 23 = .ok (.putfield 16, 3) := by decide +kernel
theorem dX2_init_26 : decode cX2_init 26 = .ok (.aload_n 0, 1) := by decide +kernel
theorem dX2_init_27 : decode cX2_init 27 = .ok (.iconst 5, 1) := by decide +kernel
theorem dX2_init_28 : decode cX2_init 28 = .ok (.newarray .int, 2) := by decide +kernel
theorem dX2_init_30 : decode cX2_init 30 = .ok (.putfield 19, 3) := by decide +kernel
theorem dX2_init_33 : decode cX2_init 33 = .ok (.return_, 1) := by decide +kernel
theorem dX2_beginAgain_0 : decode cX2_beginAgain 0 = .ok (.iconst 0, 1) := by decide +kernel
theorem dX2_beginAgain_1 : decode cX2_beginAgain 1 = .ok (.istore_n 1, 1) := by decide +kernel
theorem dX2_beginAgain_2 : decode cX2_beginAgain 2 = .ok (.iload_n 1, 1) := by decide +kernel
theorem dX2_beginAgain_3 : decode cX2_beginAgain 3 = .ok (.iconst 5, 1) := by decide +kernel
theorem dX2_beginAgain_4 : decode cX2_beginAgain 4 = .ok (.if_icmp .ge 61, 3) := by decide +kernel
theorem dX2_beginAgain_7 : decode cX2_beginAgain 7 = .ok (.iconst 0, 1) := by decide +kernel
theorem dX2_beginAgain_8 : decode cX2_beginAgain 8 = .ok (.istore_n 2, 1) := by decide +kernel
theorem dX2_beginAgain_9 : decode cX2_beginAgain 9 = .ok (.iload_n 2, 1) := by decide +kernel
theorem dX2_beginAgain_10 : decode cX2_beginAgain 10 = .ok (.bipush 10, 2) := by decide +kernel
theorem dX2_beginAgain_12 : decode cX2_beginAgain 12 = .ok (.if_icmp .ge 40, 3) := by decide +kernel
theorem dX2_beginAgain_15 : decode cX2_beginAgain 15 = .ok (.iload_n 2, 1) := by decide +kernel
theorem dX2_beginAgain_16 : decode cX2_beginAgain 16 = .ok (.bipush 9, 2) := by decide +kernel
theorem dX2_beginAgain_18 : decode cX2_beginAgain 18 = .ok (.if_icmp .ne 8, 3) := by decide +kernel
theorem dX2_beginAgain_21 : decode cX2_beginAgain 21 = .ok (.bipush 100, 2) := by decide +kernel
theorem dX2_beginAgain_23 : decode cX2_beginAgain 23 = .ok (.goto 4, 3) := by decide +kernel
theorem dX2_beginAgain_26 : decode cX2_beginAgain 26 = .ok (.iconst 0, 1) := by decide +kernel
theorem dX2_beginAgain_27 : decode cX2_beginAgain 27 = .ok (.istore_n 3, 1) := by decide +kernel
theorem dX2_beginAgain_28 : decode cX2_beginAgain 28 = .ok (.aload_n 0, 1) := by decide +kernel
theorem dX2_beginAgain_29 : decode cX2_beginAgain 29 = .ok (.getfield 11, 3) := by decide +kernel
theorem dX2_beginAgain_32 : decode cX2_beginAgain 32 = .ok (.iload_n 1, 1) := by decide +kernel
theorem dX2_beginAgain_33 : decode cX2_beginAgain 33 = .ok (.aaload, 1) := by decide +kernel
theorem dX2_beginAgain_34 : decode cX2_beginAgain 34 = .ok (.iload_n 2, 1) := by decide +kernel
theorem dX2_beginAgain_35 : decode cX2_beginAgain 35 = .ok (.iload_n 3, 1) := by decide +kernel
theorem dX2_beginAgain_36 : decode cX2_beginAgain 36 = .ok (.iastore, 1) := by decide +kernel
theorem dX2_beginAgain_37 : decode cX2_beginAgain 37 = .ok (.aload_n 0, 1) := by decide +kernel
theorem dX2_beginAgain_38 : decode cX2_beginAgain 38 = .ok (.getfield 16, 3) := by decide +kernel
theorem dX2_beginAgain_41 : decode cX2_beginAgain 41 = .ok (.iload_n 1, 1) := by decide +kernel
theorem dX2_beginAgain_42 : decode cX2_beginAgain 42 = .ok (.aaload, 1) := by decide +kernel
theorem dX2_beginAgain_43 : decode cX2_beginAgain 43 = .ok (.iload_n 2, 1) := by decide +kernel
theorem dX2_beginAgain_44 : decode cX2_beginAgain 44 = .ok (.iload_n 3, 1) := by decide +kernel
theorem dX2_beginAgain_45 : decode cX2_beginAgain 45 = .ok (.iastore, 1) := by decide +kernel
theorem dX2_beginAgain_46 : decode cX2_beginAgain 46 = .ok (.iinc 2 1, 3) := by decide +kernel
theorem dX2_beginAgain_49 : decode cX2_beginAgain 49 = .ok (.goto (-40), 3) := by decide +kernel
theorem dX2_beginAgain_52 : decode cX2_beginAgain 52 = .ok (.aload_n 0, 1) := by decide +kernel
theorem dX2_beginAgain_53 : decode cX2_beginAgain 53 = .ok (.getfield 19, 3) := by decide +kernel
theorem dX2_beginAgain_56 : decode cX2_beginAgain 56 = .ok (.iload_n 1, 1) := by decide +kernel
theorem dX2_beginAgain_57 : decode cX2_beginAgain 57 = .ok (.iconst 0, 1) := by decide +kernel
theorem dX2_beginAgain_58 : decode cX2_beginAgain 58 = .ok (.iastore, 1) := by decide +kernel
theorem dX2_beginAgain_59 : decode cX2_beginAgain 59 = .ok (.iinc 1 1, 3) := by decide +kernel
theorem dX2_beginAgain_62 : decode cX2_beginAgain 62 = .ok (.goto (-60), 3) := by decide +kernel
theorem dX2_beginAgain_65 : decode cX2_beginAgain 65 = .ok (.return_, 1) := by decide +kernel
theorem dX2_copyFrom_0 : decode cX2_copyFrom 0 = .ok (.iconst 0, 1) := by decide +kernel
theorem dX2_copyFrom_1 : decode cX2_copyFrom 1 = .ok (.istore_n 2, 1) := by decide +kernel
theorem dX2_copyFrom_2 : decode cX2_copyFrom 2 = .ok (.iload_n 2, 1) := by decide +kernel
theorem dX2_copyFrom_3 : decode cX2_copyFrom 3 = .ok (.iconst 5, 1) := by decide +kernel
theorem dX2_copyFrom_4 : decode cX2_copyFrom 4 = .ok (.if_icmp .ge 59, 3) := by decide +kernel
theorem dX2_copyFrom_7 : decode cX2_copyFrom 7 = .ok (.aload_n 1, 1) := by decide +kernel
theorem dX2_copyFrom_8 : decode cX2_copyFrom 8 = .ok (.getfield 11, 3) := by decide +kernel
theorem dX2_copyFrom_11 : decode cX2_copyFrom 11 = .ok (.iload_n 2, 1) := by decide +kernel
theorem dX2_copyFrom_12 : decode cX2_copyFrom 12 = .ok (.aaload, 1) := by decide +kernel
theorem dX2_copyFrom_13 : decode cX2_copyFrom 13 = .ok (.iconst 0, 1) := by decide +kernel
theorem dX2_copyFrom_14 : decode cX2_copyFrom 14 = .ok (.aload_n 0, 1) := by decide +kernel
theorem dX2_copyFrom_15 : decode cX2_copyFrom 15 = .ok (.getfield 11, 3) := by decide +kernel
theorem dX2_copyFrom_18 : decode cX2_copyFrom 18 = .ok (.iload_n 2, 1) := by decide +kernel
theorem dX2_copyFrom_19 : decode cX2_copyFrom 19 = .ok (.aaload, 1) := by decide +kernel
theorem dX2_copyFrom_20 : decode cX2_copyFrom 20 = .ok (.iconst 0, 1) := by decide +kernel
theorem dX2_copyFrom_21 : decode cX2_copyFrom 21 = .ok (.bipush 10, 2) := by decide +kernel
theorem dX2_copyFrom_23 : decode cX2_copyFrom 23 = .ok (.invokestatic 23, 3) := by decide +kernel
theorem dX2_copyFrom_26 : decode cX2_copyFrom 26 = .ok (.aload_n 1, 1) := by decide +kernel
theorem dX2_copyFrom_27 : decode cX2_copyFrom 27 = .ok (.getfield 16, 3) := by decide +kernel
theorem dX2_copyFrom_30 : decode cX2_copyFrom 30 = .ok (.iload_n 2, 1) := by decide +kernel
theorem dX2_copyFrom_31 : decode cX2_copyFrom 31 = .ok (.aaload, 1) := by decide +kernel
theorem dX2_copyFrom_32 : decode cX2_copyFrom 32 = .ok (.iconst 0, 1) := by decide +kernel
theorem dX2_copyFrom_33 : decode cX2_copyFrom 33 = .ok (.aload_n 0, 1) := by decide +kernel
theorem dX2_copyFrom_34 : decode cX2_copyFrom 34 = .ok (.getfield 16, 3) := by decide +kernel
theorem dX2_copyFrom_37 : decode cX2_copyFrom 37 = .ok (.iload_n 2, 1) := by decide +kernel
theorem dX2_copyFrom_38 : decode cX2_copyFrom 38 = .ok (.aaload, 1) := by decide +kernel
theorem dX2_copyFrom_39 : decode cX2_copyFrom 39 = .ok (.iconst 0, 1) := by decide +kernel
theorem dX2_copyFrom_40 : decode cX2_copyFrom 40 = .ok (.bipush 10, 2) := by decide +kernel
theorem dX2_copyFrom_42 : decode cX2_copyFrom 42 = .ok (.invokestatic 23, 3) := by decide +kernel
theorem dX2_copyFrom_45 : decode cX2_copyFrom 45 = .ok (.aload_n 0, 1) := by decide +kernel
theorem dX2_copyFrom_46 : decode cX2_copyFrom 46 = .ok (.getfield 19, 3) := by decide +kernel
theorem dX2_copyFrom_49 : decode cX2_copyFrom 49 = .ok (.iload_n 2, 1) := by decide +kernel
theorem dX2_copyFrom_50 : decode cX2_copyFrom 50 = .ok (.aload_n 1, 1) := by decide +kernel
theorem dX2_copyFrom_51 : decode cX2_copyFrom 51 = .ok (.getfield 19, 3) := by decide +kernel
theorem dX2_copyFrom_54 : decode cX2_copyFrom 54 = .ok (.iload_n 2, 1) := by decide +kernel
theorem dX2_copyFrom_55 : decode cX2_copyFrom 55 = .ok (.iaload, 1) := by decide +kernel
theorem dX2_copyFrom_56 : decode cX2_copyFrom 56 = .ok (.iastore, 1) := by decide +kernel
theorem dX2_copyFrom_57 : decode cX2_copyFrom 57 = .ok (.iinc 2 1, 3) := by decide +kernel
theorem dX2_copyFrom_60 : decode cX2_copyFrom 60 = .ok (.goto (-58), 3) := by decide +kernel
theorem dX2_copyFrom_63 : decode cX2_copyFrom 63 = .ok (.return_, 1) := by decide +kernel
theorem dX2_carryOut_0 : decode cX2_carryOut 0 = .ok (.aload_n 1, 1) := by decide +kernel
theorem dX2_carryOut_1 : decode cX2_carryOut 1 = .ok (.getfield 29, 3) := by decide +kernel
theorem dX2_carryOut_4 : decode cX2_carryOut 4 = .ok (.iload_n 2, 1) := by decide +kernel
theorem dX2_carryOut_5 : decode cX2_carryOut 5 = .ok (.iaload, 1) := by decide +kernel
theorem dX2_carryOut_6 : decode cX2_carryOut 6 = .ok (.istore_n 3, 1) := by decide +kernel
theorem dX2_carryOut_7 : decode cX2_carryOut 7 = .ok (.aload_n 1, 1) := by decide +kernel
theorem dX2_carryOut_8 : decode cX2_carryOut 8 = .ok (.getfield 34, 3) := by decide +kernel
theorem dX2_carryOut_11 : decode cX2_carryOut 11 = .ok (.iload_n 2, 1) := by decide +kernel
theorem dX2_carryOut_12 : decode cX2_carryOut 12 = .ok (.iaload, 1) := by decide +kernel
theorem dX2_carryOut_13 : decode cX2_carryOut 13 = .ok (.istore 4, 2) := by decide +kernel
theorem dX2_carryOut_15 : decode cX2_carryOut 15 = .ok (.aload_n 1, 1) := by decide +kernel
theorem dX2_carryOut_16 : decode cX2_carryOut 16 = .ok (.getfield 37, 3) := by decide +kernel
theorem dX2_carryOut_19 : decode cX2_carryOut 19 = .ok (.iload_n 2, 1) := by decide +kernel
theorem dX2_carryOut_20 : decode cX2_carryOut 20 = .ok (.iaload, 1) := by decide +kernel
theorem dX2_carryOut_21 : decode cX2_carryOut 21 = .ok (.tableswitch 90 0 2 #[27, 51, 75], 27) := by decide +kernel
theorem dX2_carryOut_48 : decode cX2_carryOut 48 = .ok (.aload_n 0, 1) := by decide +kernel
theorem dX2_carryOut_49 : decode cX2_carryOut 49 = .ok (.getfield 11, 3) := by decide +kernel
theorem dX2_carryOut_52 : decode cX2_carryOut 52 = .ok (.iload_n 3, 1) := by decide +kernel
theorem dX2_carryOut_53 : decode cX2_carryOut 53 = .ok (.aaload, 1) := by decide +kernel
theorem dX2_carryOut_54 : decode cX2_carryOut 54 = .ok (.aload_n 1, 1) := by decide +kernel
theorem dX2_carryOut_55 : decode cX2_carryOut 55 = .ok (.getfield 40, 3) := by decide +kernel
theorem dX2_carryOut_58 : decode cX2_carryOut 58 = .ok (.iload_n 2, 1) := by decide +kernel
theorem dX2_carryOut_59 : decode cX2_carryOut 59 = .ok (.iaload, 1) := by decide +kernel
theorem dX2_carryOut_60 : decode cX2_carryOut 60 = .ok (.iload 4, 2) := by decide +kernel
theorem dX2_carryOut_62 : decode cX2_carryOut 62 = .ok (.aload_n 1, 1) := by decide +kernel
theorem dX2_carryOut_63 : decode cX2_carryOut 63 = .ok (.getfield 43, 3) := by decide +kernel
theorem dX2_carryOut_66 : decode cX2_carryOut 66 = .ok (.iload_n 2, 1) := by decide +kernel
theorem dX2_carryOut_67 : decode cX2_carryOut 67 = .ok (.iaload, 1) := by decide +kernel
theorem dX2_carryOut_68 : decode cX2_carryOut 68 = .ok (.invokestatic 46, 3) := by decide +kernel
theorem dX2_carryOut_71 : decode cX2_carryOut 71 = .ok (.ireturn, 1) := by decide +kernel
theorem dX2_carryOut_72 : decode cX2_carryOut 72 = .ok (.aload_n 0, 1) := by decide +kernel
theorem dX2_carryOut_73 : decode cX2_carryOut 73 = .ok (.getfield 16, 3) := by decide +kernel
theorem dX2_carryOut_76 : decode cX2_carryOut 76 = .ok (.iload_n 3, 1) := by decide +kernel
theorem dX2_carryOut_77 : decode cX2_carryOut 77 = .ok (.aaload, 1) := by decide +kernel
theorem dX2_carryOut_78 : decode cX2_carryOut 78 = .ok (.aload_n 1, 1) := by decide +kernel
theorem dX2_carryOut_79 : decode cX2_carryOut 79 = .ok (.getfield 40, 3) := by decide +kernel
theorem dX2_carryOut_82 : decode cX2_carryOut 82 = .ok (.iload_n 2, 1) := by decide +kernel
theorem dX2_carryOut_83 : decode cX2_carryOut 83 = .ok (.iaload, 1) := by decide +kernel
theorem dX2_carryOut_84 : decode cX2_carryOut 84 = .ok (.iload 4, 2) := by decide +kernel
theorem dX2_carryOut_86 : decode cX2_carryOut 86 = .ok (.aload_n 1, 1) := by decide +kernel
theorem dX2_carryOut_87 : decode cX2_carryOut 87 = .ok (.getfield 43, 3) := by decide +kernel
theorem dX2_carryOut_90 : decode cX2_carryOut 90 = .ok (.iload_n 2, 1) := by decide +kernel
theorem dX2_carryOut_91 : decode cX2_carryOut 91 = .ok (.iaload, 1) := by decide +kernel
theorem dX2_carryOut_92 : decode cX2_carryOut 92 = .ok (.invokestatic 46, 3) := by decide +kernel
theorem dX2_carryOut_95 : decode cX2_carryOut 95 = .ok (.ireturn, 1) := by decide +kernel
theorem dX2_carryOut_96 : decode cX2_carryOut 96 = .ok (.aload_n 0, 1) := by decide +kernel
theorem dX2_carryOut_97 : decode cX2_carryOut 97 = .ok (.getfield 19, 3) := by decide +kernel
theorem dX2_carryOut_100 : decode cX2_carryOut 100 = .ok (.iload_n 3, 1) := by decide +kernel
theorem dX2_carryOut_101 : decode cX2_carryOut 101 = .ok (.dup2, 1) := by decide +kernel
theorem dX2_carryOut_102 : decode cX2_carryOut 102 = .ok (.iaload, 1) := by decide +kernel
theorem dX2_carryOut_103 : decode cX2_carryOut 103 = .ok (.iconst 1, 1) := by decide +kernel
theorem dX2_carryOut_104 : decode cX2_carryOut 104 = .ok (.iload 4, 2) := by decide +kernel
theorem dX2_carryOut_106 : decode cX2_carryOut 106 = .ok (.ishl, 1) := by decide +kernel
theorem dX2_carryOut_107 : decode cX2_carryOut 107 = .ok (.ior, 1) := by decide +kernel
theorem dX2_carryOut_108 : decode cX2_carryOut 108 = .ok (.iastore, 1) := by decide +kernel
theorem dX2_carryOut_109 : decode cX2_carryOut 109 = .ok (.iconst 1, 1) := by decide +kernel
theorem dX2_carryOut_110 : decode cX2_carryOut 110 = .ok (.ireturn, 1) := by decide +kernel
theorem dX2_carryOut_111 : decode cX2_carryOut 111 = .ok (.aload_n 0, 1) := by decide +kernel
theorem dX2_carryOut_112 : decode cX2_carryOut 112 = .ok (.getfield 19, 3) := by decide +kernel
theorem dX2_carryOut_115 : decode cX2_carryOut 115 = .ok (.iload_n 3, 1) := by decide +kernel
theorem dX2_carryOut_116 : decode cX2_carryOut 116 = .ok (.dup2, 1) := by decide +kernel
theorem dX2_carryOut_117 : decode cX2_carryOut 117 = .ok (.iaload, 1) := by decide +kernel
theorem dX2_carryOut_118 : decode cX2_carryOut 118 = .ok (.iconst 1, 1) := by decide +kernel
theorem dX2_carryOut_119 : decode cX2_carryOut 119 = .ok (.iload 4, 2) := by decide +kernel
theorem dX2_carryOut_121 : decode cX2_carryOut 121 = .ok (.ishl, 1) := by decide +kernel
theorem dX2_carryOut_122 : decode cX2_carryOut 122 = .ok (.iconst (-1), 1) := by decide +kernel
theorem dX2_carryOut_123 : decode cX2_carryOut 123 = .ok (.ixor, 1) := by decide +kernel
theorem dX2_carryOut_124 : decode cX2_carryOut 124 = .ok (.iand, 1) := by decide +kernel
theorem dX2_carryOut_125 : decode cX2_carryOut 125 = .ok (.iastore, 1) := by decide +kernel
theorem dX2_carryOut_126 : decode cX2_carryOut 126 = .ok (.iconst 1, 1) := by decide +kernel
theorem dX2_carryOut_127 : decode cX2_carryOut 127 = .ok (.ireturn, 1) := by decide +kernel
theorem dX2_move_0 : decode cX2_move 0 = .ok (.aload_n 0, 1) := by decide +kernel
theorem dX2_move_1 : decode cX2_move 1 = .ok (.iload_n 1, 1) := by decide +kernel
theorem dX2_move_2 : decode cX2_move 2 = .ok (.iaload, 1) := by decide +kernel
theorem dX2_move_3 : decode cX2_move 3 = .ok (.iload_n 3, 1) := by decide +kernel
theorem dX2_move_4 : decode cX2_move 4 = .ok (.if_icmp .ge 5, 3) := by decide +kernel
theorem dX2_move_7 : decode cX2_move 7 = .ok (.iconst 0, 1) := by decide +kernel
theorem dX2_move_8 : decode cX2_move 8 = .ok (.ireturn, 1) := by decide +kernel
theorem dX2_move_9 : decode cX2_move 9 = .ok (.aload_n 0, 1) := by decide +kernel
theorem dX2_move_10 : decode cX2_move 10 = .ok (.iload_n 1, 1) := by decide +kernel
theorem dX2_move_11 : decode cX2_move 11 = .ok (.dup2, 1) := by decide +kernel
theorem dX2_move_12 : decode cX2_move 12 = .ok (.iaload, 1) := by decide +kernel
theorem dX2_move_13 : decode cX2_move 13 = .ok (.iload_n 3, 1) := by decide +kernel
theorem dX2_move_14 : decode cX2_move 14 = .ok (.isub, 1) := by decide +kernel
theorem dX2_move_15 : decode cX2_move 15 = .ok (.iastore, 1) := by decide +kernel
theorem dX2_move_16 : decode cX2_move 16 = .ok (.aload_n 0, 1) := by decide +kernel
theorem dX2_move_17 : decode cX2_move 17 = .ok (.iload_n 2, 1) := by decide +kernel
theorem dX2_move_18 : decode cX2_move 18 = .ok (.dup2, 1) := by decide +kernel
theorem dX2_move_19 : decode cX2_move 19 = .ok (.iaload, 1) := by decide +kernel
theorem dX2_move_20 : decode cX2_move 20 = .ok (.iload_n 3, 1) := by decide +kernel
theorem dX2_move_21 : decode cX2_move 21 = .ok (.iadd, 1) := by decide +kernel
theorem dX2_move_22 : decode cX2_move 22 = .ok (.iastore, 1) := by decide +kernel
theorem dX2_move_23 : decode cX2_move 23 = .ok (.iconst 1, 1) := by decide +kernel
theorem dX2_move_24 : decode cX2_move 24 = .ok (.ireturn, 1) := by decide +kernel
theorem dX2_allies_0 : decode cX2_allies 0 = .ok (.iconst 1, 1) := by decide +kernel
theorem dX2_allies_1 : decode cX2_allies 1 = .ok (.iload_n 0, 1) := by decide +kernel
theorem dX2_allies_2 : decode cX2_allies 2 = .ok (.ishl, 1) := by decide +kernel
theorem dX2_allies_3 : decode cX2_allies 3 = .ok (.iload_n 1, 1) := by decide +kernel
theorem dX2_allies_4 : decode cX2_allies 4 = .ok (.iconst 4, 1) := by decide +kernel
theorem dX2_allies_5 : decode cX2_allies 5 = .ok (.ishl, 1) := by decide +kernel
theorem dX2_allies_6 : decode cX2_allies 6 = .ok (.ior, 1) := by decide +kernel
theorem dX2_allies_7 : decode cX2_allies 7 = .ok (.ireturn, 1) := by decide +kernel
theorem dX2_block_0 : decode cX2_block 0 = .ok (.iconst 0, 1) := by decide +kernel
theorem dX2_block_1 : decode cX2_block 1 = .ok (.istore_n 3, 1) := by decide +kernel
theorem dX2_block_2 : decode cX2_block 2 = .ok (.iconst 0, 1) := by decide +kernel
theorem dX2_block_3 : decode cX2_block 3 = .ok (.istore 4, 2) := by decide +kernel
theorem dX2_block_5 : decode cX2_block 5 = .ok (.iload 4, 2) := by decide +kernel
theorem dX2_block_7 : decode cX2_block 7 = .ok (.bipush 9, 2) := by decide +kernel
theorem dX2_block_9 : decode cX2_block 9 = .ok (.if_icmp .ge 30, 3) := by decide +kernel
theorem dX2_block_12 : decode cX2_block 12 = .ok (.iload_n 2, 1) := by decide +kernel
theorem dX2_block_13 : decode cX2_block 13 = .ok (.iconst 1, 1) := by decide +kernel
theorem dX2_block_14 : decode cX2_block 14 = .ok (.iload 4, 2) := by decide +kernel
theorem dX2_block_16 : decode cX2_block 16 = .ok (.ishl, 1) := by decide +kernel
theorem dX2_block_17 : decode cX2_block 17 = .ok (.iand, 1) := by decide +kernel
theorem dX2_block_18 : decode cX2_block 18 = .ok (.ifCond .eq 15, 3) := by decide +kernel
theorem dX2_block_21 : decode cX2_block 21 = .ok (.iload_n 3, 1) := by decide +kernel
theorem dX2_block_22 : decode cX2_block 22 = .ok (.aload_n 0, 1) := by decide +kernel
theorem dX2_block_23 : decode cX2_block 23 = .ok (.getfield 16, 3) := by decide +kernel
theorem dX2_block_26 : decode cX2_block 26 = .ok (.iload_n 1, 1) := by decide +kernel
theorem dX2_block_27 : decode cX2_block 27 = .ok (.aaload, 1) := by decide +kernel
theorem dX2_block_28 : decode cX2_block 28 = .ok (.iload 4, 2) := by decide +kernel
theorem dX2_block_30 : decode cX2_block 30 = .ok (.iaload, 1) := by decide +kernel
theorem dX2_block_31 : decode cX2_block 31 = .ok (.iadd, 1) := by decide +kernel
theorem dX2_block_32 : decode cX2_block 32 = .ok (.istore_n 3, 1) := by decide +kernel
theorem dX2_block_33 : decode cX2_block 33 = .ok (.iinc 4 1, 3) := by decide +kernel
theorem dX2_block_36 : decode cX2_block 36 = .ok (.goto (-31), 3) := by decide +kernel
theorem dX2_block_39 : decode cX2_block 39 = .ok (.iload_n 3, 1) := by decide +kernel
theorem dX2_block_40 : decode cX2_block 40 = .ok (.ireturn, 1) := by decide +kernel
theorem dX2_isMatched_0 : decode cX2_isMatched 0 = .ok (.iconst 0, 1) := by decide +kernel
theorem dX2_isMatched_1 : decode cX2_isMatched 1 = .ok (.istore 4, 2) := by decide +kernel
theorem dX2_isMatched_3 : decode cX2_isMatched 3 = .ok (.iload 4, 2) := by decide +kernel
theorem dX2_isMatched_5 : decode cX2_isMatched 5 = .ok (.bipush 9, 2) := by decide +kernel
theorem dX2_isMatched_7 : decode cX2_isMatched 7 = .ok (.if_icmp .ge 33, 3) := by decide +kernel
theorem dX2_isMatched_10 : decode cX2_isMatched 10 = .ok (.iload_n 2, 1) := by decide +kernel
theorem dX2_isMatched_11 : decode cX2_isMatched 11 = .ok (.iconst 1, 1) := by decide +kernel
theorem dX2_isMatched_12 : decode cX2_isMatched 12 = .ok (.iload 4, 2) := by decide +kernel
theorem dX2_isMatched_14 : decode cX2_isMatched 14 = .ok (.ishl, 1) := by decide +kernel
theorem dX2_isMatched_15 : decode cX2_isMatched 15 = .ok (.iand, 1) := by decide +kernel
theorem dX2_isMatched_16 : decode cX2_isMatched 16 = .ok (.ifCond .ne 18, 3) := by decide +kernel
theorem dX2_isMatched_19 : decode cX2_isMatched 19 = .ok (.aload_n 0, 1) := by decide +kernel
theorem dX2_isMatched_20 : decode cX2_isMatched 20 = .ok (.getfield 16, 3) := by decide +kernel
theorem dX2_isMatched_23 : decode cX2_isMatched 23 = .ok (.iload_n 1, 1) := by decide +kernel
theorem dX2_isMatched_24 : decode cX2_isMatched 24 = .ok (.aaload, 1) := by decide +kernel
theorem dX2_isMatched_25 : decode cX2_isMatched 25 = .ok (.iload 4, 2) := by decide +kernel
theorem dX2_isMatched_27 : decode cX2_isMatched 27 = .ok (.iaload, 1) := by decide +kernel
theorem dX2_isMatched_28 : decode cX2_isMatched 28 = .ok (.iload_n 3, 1) := by decide +kernel
theorem dX2_isMatched_29 : decode cX2_isMatched 29 = .ok (.if_icmp .lt 5, 3) := by decide +kernel
theorem dX2_isMatched_32 : decode cX2_isMatched 32 = .ok (.iconst 1, 1) := by decide +kernel
theorem dX2_isMatched_33 : decode cX2_isMatched 33 = .ok (.ireturn, 1) := by decide +kernel
theorem dX2_isMatched_34 : decode cX2_isMatched 34 = .ok (.iinc 4 1, 3) := by decide +kernel
theorem dX2_isMatched_37 : decode cX2_isMatched 37 = .ok (.goto (-34), 3) := by decide +kernel
theorem dX2_isMatched_40 : decode cX2_isMatched 40 = .ok (.iconst 0, 1) := by decide +kernel
theorem dX2_isMatched_41 : decode cX2_isMatched 41 = .ok (.ireturn, 1) := by decide +kernel
theorem dX2_falls_0 : decode cX2_falls 0 = .ok (.iload_n 2, 1) := by decide +kernel
theorem dX2_falls_1 : decode cX2_falls 1 = .ok (.iload_n 3, 1) := by decide +kernel
theorem dX2_falls_2 : decode cX2_falls 2 = .ok (.invokestatic 50, 3) := by decide +kernel
theorem dX2_falls_5 : decode cX2_falls 5 = .ok (.istore 5, 2) := by decide +kernel
theorem dX2_falls_7 : decode cX2_falls 7 = .ok (.aload_n 0, 1) := by decide +kernel
theorem dX2_falls_8 : decode cX2_falls 8 = .ok (.getfield 19, 3) := by decide +kernel
theorem dX2_falls_11 : decode cX2_falls 11 = .ok (.iload_n 1, 1) := by decide +kernel
theorem dX2_falls_12 : decode cX2_falls 12 = .ok (.iaload, 1) := by decide +kernel
theorem dX2_falls_13 : decode cX2_falls 13 = .ok (.iload 5, 2) := by decide +kernel
theorem dX2_falls_15 : decode cX2_falls 15 = .ok (.iconst (-1), 1) := by decide +kernel
theorem dX2_falls_16 : decode cX2_falls 16 = .ok (.ixor, 1) := by decide +kernel
theorem dX2_falls_17 : decode cX2_falls 17 = .ok (.iand, 1) := by decide +kernel
theorem dX2_falls_18 : decode cX2_falls 18 = .ok (.ifCond .eq 5, 3) := by decide +kernel
theorem dX2_falls_21 : decode cX2_falls 21 = .ok (.iconst 0, 1) := by decide +kernel
theorem dX2_falls_22 : decode cX2_falls 22 = .ok (.ireturn, 1) := by decide +kernel
theorem dX2_falls_23 : decode cX2_falls 23 = .ok (.aload_n 0, 1) := by decide +kernel
theorem dX2_falls_24 : decode cX2_falls 24 = .ok (.iload_n 1, 1) := by decide +kernel
theorem dX2_falls_25 : decode cX2_falls 25 = .ok (.iload 5, 2) := by decide +kernel
theorem dX2_falls_27 : decode cX2_falls 27 = .ok (.invokevirtual 54, 3) := by decide +kernel
theorem dX2_falls_30 : decode cX2_falls 30 = .ok (.istore 6, 2) := by decide +kernel
theorem dX2_falls_32 : decode cX2_falls 32 = .ok (.iload 6, 2) := by decide +kernel
theorem dX2_falls_34 : decode cX2_falls 34 = .ok (.aload 4, 2) := by decide +kernel
theorem dX2_falls_36 : decode cX2_falls 36 = .ok (.getfield 57, 3) := by decide +kernel
theorem dX2_falls_39 : decode cX2_falls 39 = .ok (.if_icmp .le 5, 3) := by decide +kernel
theorem dX2_falls_42 : decode cX2_falls 42 = .ok (.iconst 1, 1) := by decide +kernel
theorem dX2_falls_43 : decode cX2_falls 43 = .ok (.ireturn, 1) := by decide +kernel
theorem dX2_falls_44 : decode cX2_falls 44 = .ok (.iload 6, 2) := by decide +kernel
theorem dX2_falls_46 : decode cX2_falls 46 = .ok (.aload 4, 2) := by decide +kernel
theorem dX2_falls_48 : decode cX2_falls 48 = .ok (.getfield 61, 3) := by decide +kernel
theorem dX2_falls_51 : decode cX2_falls 51 = .ok (.if_icmp .lt 19, 3) := by decide +kernel
theorem dX2_falls_54 : decode cX2_falls 54 = .ok (.aload_n 0, 1) := by decide +kernel
theorem dX2_falls_55 : decode cX2_falls 55 = .ok (.iload_n 1, 1) := by decide +kernel
theorem dX2_falls_56 : decode cX2_falls 56 = .ok (.iload 5, 2) := by decide +kernel
theorem dX2_falls_58 : decode cX2_falls 58 = .ok (.iload 6, 2) := by decide +kernel
theorem dX2_falls_60 : decode cX2_falls 60 = .ok (.invokevirtual 64, 3) := by decide +kernel
theorem dX2_falls_63 : decode cX2_falls 63 = .ok (.ifCond .ne 7, 3) := by decide +kernel
theorem dX2_falls_66 : decode cX2_falls 66 = .ok (.iconst 1, 1) := by decide +kernel
theorem dX2_falls_67 : decode cX2_falls 67 = .ok (.goto 4, 3) := by decide +kernel
theorem dX2_falls_70 : decode cX2_falls 70 = .ok (.iconst 0, 1) := by decide +kernel
theorem dX2_falls_71 : decode cX2_falls 71 = .ok (.ireturn, 1) := by decide +kernel
theorem dX2_sharesHeldBy_0 : decode cX2_sharesHeldBy 0 = .ok (.iconst 0, 1) := by decide +kernel
theorem dX2_sharesHeldBy_1 : decode cX2_sharesHeldBy 1 = .ok (.istore_n 3, 1) := by decide +kernel
theorem dX2_sharesHeldBy_2 : decode cX2_sharesHeldBy 2 = .ok (.iconst 0, 1) := by decide +kernel
theorem dX2_sharesHeldBy_3 : decode cX2_sharesHeldBy 3 = .ok (.istore 4, 2) := by decide +kernel
theorem dX2_sharesHeldBy_5 : decode cX2_sharesHeldBy 5 = .ok (.iload 4, 2) := by decide +kernel
theorem dX2_sharesHeldBy_7 : decode cX2_sharesHeldBy 7 = .ok (.iconst 5, 1) := by decide +kernel
theorem dX2_sharesHeldBy_8 : decode cX2_sharesHeldBy 8 = .ok (.if_icmp .ge 33, 3) := by decide +kernel
theorem dX2_sharesHeldBy_11 : decode cX2_sharesHeldBy 11 = .ok (.iload_n 2, 1) := by decide +kernel
theorem dX2_sharesHeldBy_12 : decode cX2_sharesHeldBy 12 = .ok (.iload 4, 2) := by decide +kernel
theorem dX2_sharesHeldBy_14 : decode cX2_sharesHeldBy 14 = .ok (.invokestatic 68, 3) := by decide +kernel
theorem dX2_sharesHeldBy_17 : decode cX2_sharesHeldBy 17 = .ok (.ifCond .eq 18, 3) := by decide +kernel
theorem dX2_sharesHeldBy_20 : decode cX2_sharesHeldBy 20 = .ok (.iload_n 3, 1) := by decide +kernel
theorem dX2_sharesHeldBy_21 : decode cX2_sharesHeldBy 21 = .ok (.aload_n 0, 1) := by decide +kernel
theorem dX2_sharesHeldBy_22 : decode cX2_sharesHeldBy 22 = .ok (.getfield 11, 3) := by decide +kernel
theorem dX2_sharesHeldBy_25 : decode cX2_sharesHeldBy 25 = .ok (.iload_n 1, 1) := by decide +kernel
theorem dX2_sharesHeldBy_26 : decode cX2_sharesHeldBy 26 = .ok (.aaload, 1) := by decide +kernel
theorem dX2_sharesHeldBy_27 : decode cX2_sharesHeldBy 27 = .ok (.iload 4, 2) := by decide +kernel
theorem dX2_sharesHeldBy_29 : decode cX2_sharesHeldBy 29 = .ok (.invokestatic 72, 3) := by decide +kernel
theorem dX2_sharesHeldBy_32 : decode cX2_sharesHeldBy 32 = .ok (.iaload, 1) := by decide +kernel
theorem dX2_sharesHeldBy_33 : decode cX2_sharesHeldBy 33 = .ok (.iadd, 1) := by decide +kernel
theorem dX2_sharesHeldBy_34 : decode cX2_sharesHeldBy 34 = .ok (.istore_n 3, 1) := by decide +kernel
theorem dX2_sharesHeldBy_35 : decode cX2_sharesHeldBy 35 = .ok (.iinc 4 1, 3) := by decide +kernel
theorem dX2_sharesHeldBy_38 : decode cX2_sharesHeldBy 38 = .ok (.goto (-33), 3) := by decide +kernel
theorem dX2_sharesHeldBy_41 : decode cX2_sharesHeldBy 41 = .ok (.iload_n 3, 1) := by decide +kernel
theorem dX2_sharesHeldBy_42 : decode cX2_sharesHeldBy 42 = .ok (.ireturn, 1) := by decide +kernel
theorem dX3_init_0 : decode cX3_init 0 = .ok (.aload_n 0, 1) := by decide +kernel
theorem dX3_init_1 : decode cX3_init 1 = .ok (.invokespecial 3, 3) := by decide +kernel
theorem dX3_init_4 : decode cX3_init 4 = .ok (.aload_n 0, 1) := by decide +kernel
theorem dX3_init_5 : decode cX3_init 5 = .ok (.iconst 5, 1) := by decide +kernel
theorem dX3_init_6 : decode cX3_init 6 = .ok (.newarray .int, 2) := by decide +kernel
theorem dX3_init_8 : decode cX3_init 8 = .ok (.putfield 9, 3) := by decide +kernel
theorem dX3_init_11 : decode cX3_init 11 = .ok (.return_, 1) := by decide +kernel
theorem dX3_workOut_0 : decode cX3_workOut 0 = .ok (.iconst 0, 1) := by decide +kernel
theorem dX3_workOut_1 : decode cX3_workOut 1 = .ok (.istore_n 2, 1) := by decide +kernel
theorem dX3_workOut_2 : decode cX3_workOut 2 = .ok (.iload_n 2, 1) := by decide +kernel
theorem dX3_workOut_3 : decode cX3_workOut 3 = .ok (.iconst 5, 1) := by decide +kernel
theorem dX3_workOut_4 : decode cX3_workOut 4 = .ok (.if_icmp .ge 20, 3) := by decide +kernel
theorem dX3_workOut_7 : decode cX3_workOut 7 = .ok (.aload_n 0, 1) := by decide +kernel
theorem dX3_workOut_8 : decode cX3_workOut 8 = .ok (.getfield 9, 3) := by decide +kernel
theorem dX3_workOut_11 : decode cX3_workOut 11 = .ok (.iload_n 2, 1) := by decide +kernel
theorem dX3_workOut_12 : decode cX3_workOut 12 = .ok (.aload_n 1, 1) := by decide +kernel
theorem dX3_workOut_13 : decode cX3_workOut 13 = .ok (.iload_n 2, 1) := by decide +kernel
theorem dX3_workOut_14 : decode cX3_workOut 14 = .ok (.invokestatic 15, 3) := by decide +kernel
theorem dX3_workOut_17 : decode cX3_workOut 17 = .ok (.iastore, 1) := by decide +kernel
theorem dX3_workOut_18 : decode cX3_workOut 18 = .ok (.iinc 2 1, 3) := by decide +kernel
theorem dX3_workOut_21 : decode cX3_workOut 21 = .ok (.goto (-19), 3) := by decide +kernel
theorem dX3_workOut_24 : decode cX3_workOut 24 = .ok (.iconst 0, 1) := by decide +kernel
theorem dX3_workOut_25 : decode cX3_workOut 25 = .ok (.istore_n 2, 1) := by decide +kernel
theorem dX3_workOut_26 : decode cX3_workOut 26 = .ok (.iload_n 2, 1) := by decide +kernel
theorem dX3_workOut_27 : decode cX3_workOut 27 = .ok (.iconst 5, 1) := by decide +kernel
theorem dX3_workOut_28 : decode cX3_workOut 28 = .ok (.if_icmp .ge 50, 3) := by decide +kernel
theorem dX3_workOut_31 : decode cX3_workOut 31 = .ok (.iconst 0, 1) := by decide +kernel
theorem dX3_workOut_32 : decode cX3_workOut 32 = .ok (.istore_n 3, 1) := by decide +kernel
theorem dX3_workOut_33 : decode cX3_workOut 33 = .ok (.iload_n 3, 1) := by decide +kernel
theorem dX3_workOut_34 : decode cX3_workOut 34 = .ok (.iconst 5, 1) := by decide +kernel
theorem dX3_workOut_35 : decode cX3_workOut 35 = .ok (.if_icmp .ge 37, 3) := by decide +kernel
theorem dX3_workOut_38 : decode cX3_workOut 38 = .ok (.aload_n 0, 1) := by decide +kernel
theorem dX3_workOut_39 : decode cX3_workOut 39 = .ok (.getfield 9, 3) := by decide +kernel
theorem dX3_workOut_42 : decode cX3_workOut 42 = .ok (.iload_n 3, 1) := by decide +kernel
theorem dX3_workOut_43 : decode cX3_workOut 43 = .ok (.iaload, 1) := by decide +kernel
theorem dX3_workOut_44 : decode cX3_workOut 44 = .ok (.iload_n 2, 1) := by decide +kernel
theorem dX3_workOut_45 : decode cX3_workOut 45 = .ok (.invokestatic 19, 3) := by decide +kernel
theorem dX3_workOut_48 : decode cX3_workOut 48 = .ok (.ifCond .eq 18, 3) := by decide +kernel
theorem dX3_workOut_51 : decode cX3_workOut 51 = .ok (.aload_n 0, 1) := by decide +kernel
theorem dX3_workOut_52 : decode cX3_workOut 52 = .ok (.getfield 9, 3) := by decide +kernel
theorem dX3_workOut_55 : decode cX3_workOut 55 = .ok (.iload_n 3, 1) := by decide +kernel
theorem dX3_workOut_56 : decode cX3_workOut 56 = .ok (.dup2, 1) := by decide +kernel
theorem dX3_workOut_57 : decode cX3_workOut 57 = .ok (.iaload, 1) := by decide +kernel
theorem dX3_workOut_58 : decode cX3_workOut 58 = .ok (.aload_n 0, 1) := by decide +kernel
theorem dX3_workOut_59 : decode cX3_workOut 59 = .ok (.getfield 9, 3) := by decide +kernel
theorem dX3_workOut_62 : decode cX3_workOut 62 = .ok (.iload_n 2, 1) := by decide +kernel
theorem dX3_workOut_63 : decode cX3_workOut 63 = .ok (.iaload, 1) := by decide +kernel
theorem dX3_workOut_64 : decode cX3_workOut 64 = .ok (.ior, 1) := by decide +kernel
theorem dX3_workOut_65 : decode cX3_workOut 65 = .ok (.iastore, 1) := by decide +kernel
theorem dX3_workOut_66 : decode cX3_workOut 66 = .ok (.iinc 3 1, 3) := by decide +kernel
theorem dX3_workOut_69 : decode cX3_workOut 69 = .ok (.goto (-36), 3) := by decide +kernel
theorem dX3_workOut_72 : decode cX3_workOut 72 = .ok (.iinc 2 1, 3) := by decide +kernel
theorem dX3_workOut_75 : decode cX3_workOut 75 = .ok (.goto (-49), 3) := by decide +kernel
theorem dX3_workOut_78 : decode cX3_workOut 78 = .ok (.return_, 1) := by decide +kernel
theorem dX3_firmsWithShareOf_0 : decode cX3_firmsWithShareOf 0 = .ok (.iconst 0, 1) := by decide +kernel
theorem dX3_firmsWithShareOf_1 : decode cX3_firmsWithShareOf 1 = .ok (.istore_n 2, 1) := by decide +kernel
theorem dX3_firmsWithShareOf_2 : decode cX3_firmsWithShareOf 2 = .ok (.iconst 0, 1) := by decide +kernel
theorem dX3_firmsWithShareOf_3 : decode cX3_firmsWithShareOf 3 = .ok (.istore_n 3, 1) := by decide +kernel
theorem dX3_firmsWithShareOf_4 : decode cX3_firmsWithShareOf 4 = .ok (.iload_n 3, 1) := by decide +kernel
theorem dX3_firmsWithShareOf_5 : decode cX3_firmsWithShareOf 5 = .ok (.iconst 5, 1) := by decide +kernel
theorem dX3_firmsWithShareOf_6 : decode cX3_firmsWithShareOf 6 = .ok (.if_icmp .ge 29, 3) := by decide +kernel
theorem dX3_firmsWithShareOf_9 : decode cX3_firmsWithShareOf 9 = .ok (.aload_n 0, 1) := by decide +kernel
theorem dX3_firmsWithShareOf_10 : decode cX3_firmsWithShareOf 10 = .ok (.getfield 23, 3) := by decide +kernel
theorem dX3_firmsWithShareOf_13 : decode cX3_firmsWithShareOf 13 = .ok (.iload_n 3, 1) := by decide +kernel
theorem dX3_firmsWithShareOf_14 : decode cX3_firmsWithShareOf 14 = .ok (.aaload, 1) := by decide +kernel
theorem dX3_firmsWithShareOf_15 : decode cX3_firmsWithShareOf 15 = .ok (.iload_n 1, 1) := by decide +kernel
theorem dX3_firmsWithShareOf_16 : decode cX3_firmsWithShareOf 16 = .ok (.invokestatic 29, 3) := by decide +kernel
theorem dX3_firmsWithShareOf_19 : decode cX3_firmsWithShareOf 19 = .ok (.iaload, 1) := by decide +kernel
theorem dX3_firmsWithShareOf_20 : decode cX3_firmsWithShareOf 20 = .ok (.ifCond .le 9, 3) := by decide +kernel
theorem dX3_firmsWithShareOf_23 : decode cX3_firmsWithShareOf 23 = .ok (.iload_n 2, 1) := by decide +kernel
theorem dX3_firmsWithShareOf_24 : decode cX3_firmsWithShareOf 24 = .ok (.iconst 1, 1) := by decide +kernel
theorem dX3_firmsWithShareOf_25 : decode cX3_firmsWithShareOf 25 = .ok (.iload_n 3, 1) := by decide +kernel
theorem dX3_firmsWithShareOf_26 : decode cX3_firmsWithShareOf 26 = .ok (.ishl, 1) := by decide +kernel
theorem dX3_firmsWithShareOf_27 : decode cX3_firmsWithShareOf 27 = .ok (.ior, 1) := by decide +kernel
theorem dX3_firmsWithShareOf_28 : decode cX3_firmsWithShareOf 28 = .ok (.istore_n 2, 1) := by decide +kernel
theorem dX3_firmsWithShareOf_29 : decode cX3_firmsWithShareOf 29 = .ok (.iinc 3 1, 3) := by decide +kernel
theorem dX3_firmsWithShareOf_32 : decode cX3_firmsWithShareOf 32 = .ok (.goto (-28), 3) := by decide +kernel
theorem dX3_firmsWithShareOf_35 : decode cX3_firmsWithShareOf 35 = .ok (.iload_n 2, 1) := by decide +kernel
theorem dX3_firmsWithShareOf_36 : decode cX3_firmsWithShareOf 36 = .ok (.ireturn, 1) := by decide +kernel
theorem dX3_circleOf_0 : decode cX3_circleOf 0 = .ok (.iconst 0, 1) := by decide +kernel
theorem dX3_circleOf_1 : decode cX3_circleOf 1 = .ok (.istore_n 2, 1) := by decide +kernel
theorem dX3_circleOf_2 : decode cX3_circleOf 2 = .ok (.iconst 0, 1) := by decide +kernel
theorem dX3_circleOf_3 : decode cX3_circleOf 3 = .ok (.istore_n 3, 1) := by decide +kernel
theorem dX3_circleOf_4 : decode cX3_circleOf 4 = .ok (.iload_n 3, 1) := by decide +kernel
theorem dX3_circleOf_5 : decode cX3_circleOf 5 = .ok (.iconst 5, 1) := by decide +kernel
theorem dX3_circleOf_6 : decode cX3_circleOf 6 = .ok (.if_icmp .ge 41, 3) := by decide +kernel
theorem dX3_circleOf_9 : decode cX3_circleOf 9 = .ok (.aload_n 0, 1) := by decide +kernel
theorem dX3_circleOf_10 : decode cX3_circleOf 10 = .ok (.getfield 9, 3) := by decide +kernel
theorem dX3_circleOf_13 : decode cX3_circleOf 13 = .ok (.iload_n 1, 1) := by decide +kernel
theorem dX3_circleOf_14 : decode cX3_circleOf 14 = .ok (.iaload, 1) := by decide +kernel
theorem dX3_circleOf_15 : decode cX3_circleOf 15 = .ok (.iload_n 3, 1) := by decide +kernel
theorem dX3_circleOf_16 : decode cX3_circleOf 16 = .ok (.invokestatic 19, 3) := by decide +kernel
theorem dX3_circleOf_19 : decode cX3_circleOf 19 = .ok (.ifCond .eq 22, 3) := by decide +kernel
theorem dX3_circleOf_22 : decode cX3_circleOf 22 = .ok (.aload_n 0, 1) := by decide +kernel
theorem dX3_circleOf_23 : decode cX3_circleOf 23 = .ok (.getfield 9, 3) := by decide +kernel
theorem dX3_circleOf_26 : decode cX3_circleOf 26 = .ok (.iload_n 3, 1) := by decide +kernel
theorem dX3_circleOf_27 : decode cX3_circleOf 27 = .ok (.iaload, 1) := by decide +kernel
theorem dX3_circleOf_28 : decode cX3_circleOf 28 = .ok (.iload_n 1, 1) := by decide +kernel
theorem dX3_circleOf_29 : decode cX3_circleOf 29 = .ok (.invokestatic 19, 3) := by decide +kernel
theorem dX3_circleOf_32 : decode cX3_circleOf 32 = .ok (.ifCond .eq 9, 3) := by decide +kernel
theorem dX3_circleOf_35 : decode cX3_circleOf 35 = .ok (.iload_n 2, 1) := by decide +kernel
theorem dX3_circleOf_36 : decode cX3_circleOf 36 = .ok (.iconst 1, 1) := by decide +kernel
theorem dX3_circleOf_37 : decode cX3_circleOf 37 = .ok (.iload_n 3, 1) := by decide +kernel
theorem dX3_circleOf_38 : decode cX3_circleOf 38 = .ok (.ishl, 1) := by decide +kernel
theorem dX3_circleOf_39 : decode cX3_circleOf 39 = .ok (.ior, 1) := by decide +kernel
theorem dX3_circleOf_40 : decode cX3_circleOf 40 = .ok (.istore_n 2, 1) := by decide +kernel
theorem dX3_circleOf_41 : decode cX3_circleOf 41 = .ok (.iinc 3 1, 3) := by decide +kernel
theorem dX3_circleOf_44 : decode cX3_circleOf 44 = .ok (.goto (-40), 3) := by decide +kernel
theorem dX3_circleOf_47 : decode cX3_circleOf 47 = .ok (.iload_n 2, 1) := by decide +kernel
theorem dX3_circleOf_48 : decode cX3_circleOf 48 = .ok (.ireturn, 1) := by decide +kernel
