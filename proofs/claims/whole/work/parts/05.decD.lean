theorem dX6_image_4 : decode cX6_image 4 = .ok (.ifCond .ne 6, 3) := by decide +kernel
theorem dX6_image_7 : decode cX6_image 7 = .ok (.bipush (-2), 2) := by decide +kernel
theorem dX6_image_9 : decode cX6_image 9 = .ok (.ireturn, 1) := by decide +kernel
theorem dX6_image_10 : decode cX6_image 10 = .ok (.aload_n 0, 1) := by decide +kernel
theorem dX6_image_11 : decode cX6_image 11 = .ok (.iload_n 1, 1) := by decide +kernel
theorem dX6_image_12 : decode cX6_image 12 = .ok (.invokevirtual 237, 3) := by decide +kernel
theorem dX6_image_15 : decode cX6_image 15 = .ok (.aload_n 0, 1) := by decide +kernel
theorem dX6_image_16 : decode cX6_image 16 = .ok (.getfield 12, 3) := by decide +kernel
theorem dX6_image_19 : decode cX6_image 19 = .ok (.invokevirtual 241, 3) := by decide +kernel
theorem dX6_image_22 : decode cX6_image 22 = .ok (.aload_n 0, 1) := by decide +kernel
theorem dX6_image_23 : decode cX6_image 23 = .ok (.dup, 1) := by decide +kernel
theorem dX6_image_24 : decode cX6_image 24 = .ok (.getfield 245, 3) := by decide +kernel
theorem dX6_image_27 : decode cX6_image 27 = .ok (.iconst 1, 1) := by decide +kernel
theorem dX6_image_28 : decode cX6_image 28 = .ok (.iload_n 1, 1) := by decide +kernel
theorem dX6_image_29 : decode cX6_image 29 = .ok (.ishl, 1) := by decide +kernel
theorem dX6_image_30 : decode cX6_image 30 = .ok (.ior, 1) := by decide +kernel
theorem dX6_image_31 : decode cX6_image 31 = .ok (.putfield 245, 3) := by decide +kernel
theorem dX6_image_34 : decode cX6_image 34 = .ok (.iconst 1, 1) := by decide +kernel
theorem dX6_image_35 : decode cX6_image 35 = .ok (.ireturn, 1) := by decide +kernel
theorem dX6_restore_0 : decode cX6_restore 0 = .ok (.iload_n 1, 1) := by decide +kernel
theorem dX6_restore_1 : decode cX6_restore 1 = .ok (.invokestatic 77, 3) := by decide +kernel
theorem dX6_restore_4 : decode cX6_restore 4 = .ok (.ifCond .ne 6, 3) := by decide +kernel
theorem dX6_restore_7 : decode cX6_restore 7 = .ok (.bipush (-2), 2) := by decide +kernel
theorem dX6_restore_9 : decode cX6_restore 9 = .ok (.ireturn, 1) := by decide +kernel
theorem dX6_restore_10 : decode cX6_restore 10 = .ok (.aload_n 0, 1) := by decide +kernel
theorem dX6_restore_11 : decode cX6_restore 11 = .ok (.getfield 245, 3) := by decide +kernel
theorem dX6_restore_14 : decode cX6_restore 14 = .ok (.iload_n 1, 1) := by decide +kernel
theorem dX6_restore_15 : decode cX6_restore 15 = .ok (.invokestatic 159, 3) := by decide +kernel
theorem dX6_restore_18 : decode cX6_restore 18 = .ok (.ifCond .ne 6, 3) := by decide +kernel
theorem dX6_restore_21 : decode cX6_restore 21 = .ok (.bipush (-3), 2) := by decide +kernel
theorem dX6_restore_23 : decode cX6_restore 23 = .ok (.ireturn, 1) := by decide +kernel
theorem dX6_restore_24 : decode cX6_restore 24 = .ok (.aload_n 0, 1) := by decide +kernel
theorem dX6_restore_25 : decode cX6_restore 25 = .ok (.getfield 12, 3) := by decide +kernel
theorem dX6_restore_28 : decode cX6_restore 28 = .ok (.aload_n 0, 1) := by decide +kernel
theorem dX6_restore_29 : decode cX6_restore 29 = .ok (.iload_n 1, 1) := by decide +kernel
theorem dX6_restore_30 : decode cX6_restore 30 = .ok (.invokevirtual 237, 3) := by decide +kernel
theorem dX6_restore_33 : decode cX6_restore 33 = .ok (.invokevirtual 241, 3) := by decide +kernel
theorem dX6_restore_36 : decode cX6_restore 36 = .ok (.aload_n 0, 1) := by decide +kernel
theorem dX6_restore_37 : decode cX6_restore 37 = .ok (.invokevirtual 93, 3) := by decide +kernel
theorem dX6_restore_40 : decode cX6_restore 40 = .ok (.iconst 1, 1) := by decide +kernel
theorem dX6_restore_41 : decode cX6_restore 41 = .ok (.ireturn, 1) := by decide +kernel
theorem dX6_count_0 : decode cX6_count 0 = .ok (.iload_n 1, 1) := by decide +kernel
theorem dX6_count_1 : decode cX6_count 1 = .ok (.bipush 10, 2) := by decide +kernel
theorem dX6_count_3 : decode cX6_count 3 = .ok (.if_icmp .lt 21, 3) := by decide +kernel
theorem dX6_count_6 : decode cX6_count 6 = .ok (.iload_n 1, 1) := by decide +kernel
theorem dX6_count_7 : decode cX6_count 7 = .ok (.bipush 50, 2) := by decide +kernel
theorem dX6_count_9 : decode cX6_count 9 = .ok (.if_icmp .ge 15, 3) := by decide +kernel
theorem dX6_count_12 : decode cX6_count 12 = .ok (.aload_n 0, 1) := by decide +kernel
theorem dX6_count_13 : decode cX6_count 13 = .ok (.getfield 12, 3) := by decide +kernel
theorem dX6_count_16 : decode cX6_count 16 = .ok (.iload_n 1, 1) := by decide +kernel
theorem dX6_count_17 : decode cX6_count 17 = .ok (.bipush 10, 2) := by decide +kernel
theorem dX6_count_19 : decode cX6_count 19 = .ok (.isub, 1) := by decide +kernel
theorem dX6_count_20 : decode cX6_count 20 = .ok (.invokevirtual 248, 3) := by decide +kernel
theorem dX6_count_23 : decode cX6_count 23 = .ok (.ireturn, 1) := by decide +kernel
theorem dX6_count_24 : decode cX6_count 24 = .ok (.iload_n 1, 1) := by decide +kernel
theorem dX6_count_25 : decode cX6_count 25 = .ok (.tableswitch 151 0 9 #[55, 63, 71, 79, 87, 95, 110, 122, 134, 146], 55) := by decide +kernel
theorem dX6_count_80 : decode cX6_count 80 = .ok (.aload_n 0, 1) := by decide +kernel
theorem dX6_count_81 : decode cX6_count 81 = .ok (.getfield 12, 3) := by decide +kernel
theorem dX6_count_84 : decode cX6_count 84 = .ok (.getfield 96, 3) := by decide +kernel
theorem dX6_count_87 : decode cX6_count 87 = .ok (.ireturn, 1) := by decide +kernel
theorem dX6_count_88 : decode cX6_count 88 = .ok (.aload_n 0, 1) := by decide +kernel
theorem dX6_count_89 : decode cX6_count 89 = .ok (.getfield 12, 3) := by decide +kernel
theorem dX6_count_92 : decode cX6_count 92 = .ok (.getfield 123, 3) := by decide +kernel
theorem dX6_count_95 : decode cX6_count 95 = .ok (.ireturn, 1) := by decide +kernel
theorem dX6_count_96 : decode cX6_count 96 = .ok (.aload_n 0, 1) := by decide +kernel
theorem dX6_count_97 : decode cX6_count 97 = .ok (.getfield 12, 3) := by decide +kernel
theorem dX6_count_100 : decode cX6_count 100 = .ok (.getfield 134, 3) := by decide +kernel
theorem dX6_count_103 : decode cX6_count 103 = .ok (.ireturn, 1) := by decide +kernel
theorem dX6_count_104 : decode cX6_count 104 = .ok (.aload_n 0, 1) := by decide +kernel
theorem dX6_count_105 : decode cX6_count 105 = .ok (.getfield 12, 3) := by decide +kernel
theorem dX6_count_108 : decode cX6_count 108 = .ok (.getfield 137, 3) := by decide +kernel
theorem dX6_count_111 : decode cX6_count 111 = .ok (.ireturn, 1) := by decide +kernel
theorem dX6_count_112 : decode cX6_count 112 = .ok (.aload_n 0, 1) := by decide +kernel
theorem dX6_count_113 : decode cX6_count 113 = .ok (.getfield 12, 3) := by decide +kernel
theorem dX6_count_116 : decode cX6_count 116 = .ok (.getfield 140, 3) := by decide +kernel
theorem dX6_count_119 : decode cX6_count 119 = .ok (.ireturn, 1) := by decide +kernel
theorem dX6_count_120 : decode cX6_count 120 = .ok (.aload_n 0, 1) := by decide +kernel
theorem dX6_count_121 : decode cX6_count 121 = .ok (.getfield 12, 3) := by decide +kernel
theorem dX6_count_124 : decode cX6_count 124 = .ok (.aload_n 0, 1) := by decide +kernel
theorem dX6_count_125 : decode cX6_count 125 = .ok (.getfield 12, 3) := by decide +kernel
theorem dX6_count_128 : decode cX6_count 128 = .ok (.getfield 123, 3) := by decide +kernel
theorem dX6_count_131 : decode cX6_count 131 = .ok (.invokevirtual 251, 3) := by decide +kernel
theorem dX6_count_134 : decode cX6_count 134 = .ok (.ireturn, 1) := by decide +kernel
theorem dX6_count_135 : decode cX6_count 135 = .ok (.aload_n 0, 1) := by decide +kernel
theorem dX6_count_136 : decode cX6_count 136 = .ok (.invokevirtual 146, 3) := by decide +kernel
theorem dX6_count_139 : decode cX6_count 139 = .ok (.aload_n 0, 1) := by decide +kernel
theorem dX6_count_140 : decode cX6_count 140 = .ok (.getfield 32, 3) := by decide +kernel
theorem dX6_count_143 : decode cX6_count 143 = .ok (.invokevirtual 254, 3) := by decide +kernel
theorem dX6_count_146 : decode cX6_count 146 = .ok (.ireturn, 1) := by decide +kernel
theorem dX6_count_147 : decode cX6_count 147 = .ok (.aload_n 0, 1) := by decide +kernel
theorem dX6_count_148 : decode cX6_count 148 = .ok (.invokevirtual 190, 3) := by decide +kernel
theorem dX6_count_151 : decode cX6_count 151 = .ok (.aload_n 0, 1) := by decide +kernel
theorem dX6_count_152 : decode cX6_count 152 = .ok (.getfield 53, 3) := by decide +kernel
theorem dX6_count_155 : decode cX6_count 155 = .ok (.getfield 258, 3) := by decide +kernel
theorem dX6_count_158 : decode cX6_count 158 = .ok (.ireturn, 1) := by decide +kernel
theorem dX6_count_159 : decode cX6_count 159 = .ok (.aload_n 0, 1) := by decide +kernel
theorem dX6_count_160 : decode cX6_count 160 = .ok (.invokevirtual 146, 3) := by decide +kernel
theorem dX6_count_163 : decode cX6_count 163 = .ok (.aload_n 0, 1) := by decide +kernel
theorem dX6_count_164 : decode cX6_count 164 = .ok (.getfield 39, 3) := by decide +kernel
theorem dX6_count_167 : decode cX6_count 167 = .ok (.getfield 261, 3) := by decide +kernel
theorem dX6_count_170 : decode cX6_count 170 = .ok (.ireturn, 1) := by decide +kernel
theorem dX6_count_171 : decode cX6_count 171 = .ok (.aload_n 0, 1) := by decide +kernel
theorem dX6_count_172 : decode cX6_count 172 = .ok (.getfield 245, 3) := by decide +kernel
theorem dX6_count_175 : decode cX6_count 175 = .ok (.ireturn, 1) := by decide +kernel
theorem dX6_count_176 : decode cX6_count 176 = .ok (.bipush (-2), 2) := by decide +kernel
theorem dX6_count_178 : decode cX6_count 178 = .ok (.ireturn, 1) := by decide +kernel
theorem dX6_isHolder_0 : decode cX6_isHolder 0 = .ok (.iload_n 0, 1) := by decide +kernel
theorem dX6_isHolder_1 : decode cX6_isHolder 1 = .ok (.ifCond .lt 13, 3) := by decide +kernel
theorem dX6_isHolder_4 : decode cX6_isHolder 4 = .ok (.iload_n 0, 1) := by decide +kernel
theorem dX6_isHolder_5 : decode cX6_isHolder 5 = .ok (.bipush 10, 2) := by decide +kernel
theorem dX6_isHolder_7 : decode cX6_isHolder 7 = .ok (.if_icmp .ge 7, 3) := by decide +kernel
theorem dX6_isHolder_10 : decode cX6_isHolder 10 = .ok (.iconst 1, 1) := by decide +kernel
theorem dX6_isHolder_11 : decode cX6_isHolder 11 = .ok (.goto 4, 3) := by decide +kernel
theorem dX6_isHolder_14 : decode cX6_isHolder 14 = .ok (.iconst 0, 1) := by decide +kernel
theorem dX6_isHolder_15 : decode cX6_isHolder 15 = .ok (.ireturn, 1) := by decide +kernel
theorem dX6_isPerson_0 : decode cX6_isPerson 0 = .ok (.iload_n 0, 1) := by decide +kernel
theorem dX6_isPerson_1 : decode cX6_isPerson 1 = .ok (.ifCond .lt 12, 3) := by decide +kernel
theorem dX6_isPerson_4 : decode cX6_isPerson 4 = .ok (.iload_n 0, 1) := by decide +kernel
theorem dX6_isPerson_5 : decode cX6_isPerson 5 = .ok (.iconst 4, 1) := by decide +kernel
theorem dX6_isPerson_6 : decode cX6_isPerson 6 = .ok (.if_icmp .ge 7, 3) := by decide +kernel
theorem dX6_isPerson_9 : decode cX6_isPerson 9 = .ok (.iconst 1, 1) := by decide +kernel
theorem dX6_isPerson_10 : decode cX6_isPerson 10 = .ok (.goto 4, 3) := by decide +kernel
theorem dX6_isPerson_13 : decode cX6_isPerson 13 = .ok (.iconst 0, 1) := by decide +kernel
theorem dX6_isPerson_14 : decode cX6_isPerson 14 = .ok (.ireturn, 1) := by decide +kernel
theorem dX6_isController_0 : decode cX6_isController 0 = .ok (.iload_n 0, 1) := by decide +kernel
theorem dX6_isController_1 : decode cX6_isController 1 = .ok (.ifCond .lt 13, 3) := by decide +kernel
theorem dX6_isController_4 : decode cX6_isController 4 = .ok (.iload_n 0, 1) := by decide +kernel
theorem dX6_isController_5 : decode cX6_isController 5 = .ok (.bipush 9, 2) := by decide +kernel
theorem dX6_isController_7 : decode cX6_isController 7 = .ok (.if_icmp .ge 7, 3) := by decide +kernel
theorem dX6_isController_10 : decode cX6_isController 10 = .ok (.iconst 1, 1) := by decide +kernel
theorem dX6_isController_11 : decode cX6_isController 11 = .ok (.goto 4, 3) := by decide +kernel
theorem dX6_isController_14 : decode cX6_isController 14 = .ok (.iconst 0, 1) := by decide +kernel
theorem dX6_isController_15 : decode cX6_isController 15 = .ok (.ireturn, 1) := by decide +kernel
theorem dX6_isFirm_0 : decode cX6_isFirm 0 = .ok (.iload_n 0, 1) := by decide +kernel
theorem dX6_isFirm_1 : decode cX6_isFirm 1 = .ok (.ifCond .lt 12, 3) := by decide +kernel
theorem dX6_isFirm_4 : decode cX6_isFirm 4 = .ok (.iload_n 0, 1) := by decide +kernel
theorem dX6_isFirm_5 : decode cX6_isFirm 5 = .ok (.iconst 5, 1) := by decide +kernel
theorem dX6_isFirm_6 : decode cX6_isFirm 6 = .ok (.if_icmp .ge 7, 3) := by decide +kernel
theorem dX6_isFirm_9 : decode cX6_isFirm 9 = .ok (.iconst 1, 1) := by decide +kernel
theorem dX6_isFirm_10 : decode cX6_isFirm 10 = .ok (.goto 4, 3) := by decide +kernel
theorem dX6_isFirm_13 : decode cX6_isFirm 13 = .ok (.iconst 0, 1) := by decide +kernel
theorem dX6_isFirm_14 : decode cX6_isFirm 14 = .ok (.ireturn, 1) := by decide +kernel
theorem dX6_isDay_0 : decode cX6_isDay 0 = .ok (.iload_n 0, 1) := by decide +kernel
theorem dX6_isDay_1 : decode cX6_isDay 1 = .ok (.ifCond .lt 14, 3) := by decide +kernel
theorem dX6_isDay_4 : decode cX6_isDay 4 = .ok (.iload_n 0, 1) := by decide +kernel
theorem dX6_isDay_5 : decode cX6_isDay 5 = .ok (.sipush 999, 3) := by decide +kernel
theorem dX6_isDay_8 : decode cX6_isDay 8 = .ok (.if_icmp .gt 7, 3) := by decide +kernel
theorem dX6_isDay_11 : decode cX6_isDay 11 = .ok (.iconst 1, 1) := by decide +kernel
theorem dX6_isDay_12 : decode cX6_isDay 12 = .ok (.goto 4, 3) := by decide +kernel
theorem dX6_isDay_15 : decode cX6_isDay 15 = .ok (.iconst 0, 1) := by decide +kernel
theorem dX6_isDay_16 : decode cX6_isDay 16 = .ok (.ireturn, 1) := by decide +kernel
theorem dX6_isYesOrNo_0 : decode cX6_isYesOrNo 0 = .ok (.iload_n 0, 1) := by decide +kernel
theorem dX6_isYesOrNo_1 : decode cX6_isYesOrNo 1 = .ok (.ifCond .eq 8, 3) := by decide +kernel
theorem dX6_isYesOrNo_4 : decode cX6_isYesOrNo 4 = .ok (.iload_n 0, 1) := by decide +kernel
theorem dX6_isYesOrNo_5 : decode cX6_isYesOrNo 5 = .ok (.iconst 1, 1) := by decide +kernel
theorem dX6_isYesOrNo_6 : decode cX6_isYesOrNo 6 = .ok (.if_icmp .ne 7, 3) := by decide +kernel
theorem dX6_isYesOrNo_9 : decode cX6_isYesOrNo 9 = .ok (.iconst 1, 1) := by decide +kernel
theorem dX6_isYesOrNo_10 : decode cX6_isYesOrNo 10 = .ok (.goto 4, 3) := by decide +kernel
theorem dX6_isYesOrNo_13 : decode cX6_isYesOrNo 13 = .ok (.iconst 0, 1) := by decide +kernel
theorem dX6_isYesOrNo_14 : decode cX6_isYesOrNo 14 = .ok (.ireturn, 1) := by decide +kernel
theorem dX6_isDeal_0 : decode cX6_isDeal 0 = .ok (.iload_n 1, 1) := by decide +kernel
theorem dX6_isDeal_1 : decode cX6_isDeal 1 = .ok (.ifCond .lt 18, 3) := by decide +kernel
theorem dX6_isDeal_4 : decode cX6_isDeal 4 = .ok (.iload_n 1, 1) := by decide +kernel
theorem dX6_isDeal_5 : decode cX6_isDeal 5 = .ok (.aload_n 0, 1) := by decide +kernel
theorem dX6_isDeal_6 : decode cX6_isDeal 6 = .ok (.getfield 12, 3) := by decide +kernel
theorem dX6_isDeal_9 : decode cX6_isDeal 9 = .ok (.getfield 96, 3) := by decide +kernel
theorem dX6_isDeal_12 : decode cX6_isDeal 12 = .ok (.if_icmp .ge 7, 3) := by decide +kernel
theorem dX6_isDeal_15 : decode cX6_isDeal 15 = .ok (.iconst 1, 1) := by decide +kernel
theorem dX6_isDeal_16 : decode cX6_isDeal 16 = .ok (.goto 4, 3) := by decide +kernel
theorem dX6_isDeal_19 : decode cX6_isDeal 19 = .ok (.iconst 0, 1) := by decide +kernel
theorem dX6_isDeal_20 : decode cX6_isDeal 20 = .ok (.ireturn, 1) := by decide +kernel
theorem dX6_holderOf_0 : decode cX6_holderOf 0 = .ok (.iconst 4, 1) := by decide +kernel
theorem dX6_holderOf_1 : decode cX6_holderOf 1 = .ok (.iload_n 0, 1) := by decide +kernel
theorem dX6_holderOf_2 : decode cX6_holderOf 2 = .ok (.iadd, 1) := by decide +kernel
theorem dX6_holderOf_3 : decode cX6_holderOf 3 = .ok (.ireturn, 1) := by decide +kernel
theorem dX6_has_0 : decode cX6_has 0 = .ok (.iload_n 0, 1) := by decide +kernel
theorem dX6_has_1 : decode cX6_has 1 = .ok (.iload_n 1, 1) := by decide +kernel
theorem dX6_has_2 : decode cX6_has 2 = .ok (.ishr, 1) := by decide +kernel
theorem dX6_has_3 : decode cX6_has 3 = .ok (.iconst 1, 1) := by decide +kernel
theorem dX6_has_4 : decode cX6_has 4 = .ok (.iand, 1) := by decide +kernel
theorem dX6_has_5 : decode cX6_has 5 = .ok (.iconst 1, 1) := by decide +kernel
theorem dX6_has_6 : decode cX6_has 6 = .ok (.if_icmp .ne 7, 3) := by decide +kernel
theorem dX6_has_9 : decode cX6_has 9 = .ok (.iconst 1, 1) := by decide +kernel
theorem dX6_has_10 : decode cX6_has 10 = .ok (.goto 4, 3) := by decide +kernel
theorem dX6_has_13 : decode cX6_has 13 = .ok (.iconst 0, 1) := by decide +kernel
theorem dX6_has_14 : decode cX6_has 14 = .ok (.ireturn, 1) := by decide +kernel
theorem dX6_asNumber_0 : decode cX6_asNumber 0 = .ok (.iload_n 0, 1) := by decide +kernel
theorem dX6_asNumber_1 : decode cX6_asNumber 1 = .ok (.ifCond .eq 7, 3) := by decide +kernel
theorem dX6_asNumber_4 : decode cX6_asNumber 4 = .ok (.iconst 1, 1) := by decide +kernel
theorem dX6_asNumber_5 : decode cX6_asNumber 5 = .ok (.goto 4, 3) := by decide +kernel
theorem dX6_asNumber_8 : decode cX6_asNumber 8 = .ok (.iconst 0, 1) := by decide +kernel
theorem dX6_asNumber_9 : decode cX6_asNumber 9 = .ok (.ireturn, 1) := by decide +kernel
theorem dX6_imageAt_0 : decode cX6_imageAt 0 = .ok (.iload_n 1, 1) := by decide +kernel
theorem dX6_imageAt_1 : decode cX6_imageAt 1 = .ok (.ifCond .ne 10, 3) := by decide +kernel
theorem dX6_imageAt_4 : decode cX6_imageAt 4 = .ok (.aload_n 0, 1) := by decide +kernel
theorem dX6_imageAt_5 : decode cX6_imageAt 5 = .ok (.getfield 16, 3) := by decide +kernel
theorem dX6_imageAt_8 : decode cX6_imageAt 8 = .ok (.goto 7, 3) := by decide +kernel
theorem dX6_imageAt_11 : decode cX6_imageAt 11 = .ok (.aload_n 0, 1) := by decide +kernel
theorem dX6_imageAt_12 : decode cX6_imageAt 12 = .ok (.getfield 19, 3) := by decide +kernel
theorem dX6_imageAt_15 : decode cX6_imageAt 15 = .ok (.areturn, 1) := by decide +kernel
theorem dX6_sell_0 : decode cX6_sell 0 = .ok (.iload_n 3, 1) := by decide +kernel
theorem dX6_sell_1 : decode cX6_sell 1 = .ok (.invokestatic 143, 3) := by decide +kernel
theorem dX6_sell_4 : decode cX6_sell 4 = .ok (.ifCond .eq 19, 3) := by decide +kernel
theorem dX6_sell_7 : decode cX6_sell 7 = .ok (.iload 4, 2) := by decide +kernel
theorem dX6_sell_9 : decode cX6_sell 9 = .ok (.invokestatic 143, 3) := by decide +kernel
theorem dX6_sell_12 : decode cX6_sell 12 = .ok (.ifCond .eq 11, 3) := by decide +kernel
theorem dX6_sell_15 : decode cX6_sell 15 = .ok (.iload 5, 2) := by decide +kernel
theorem dX6_sell_17 : decode cX6_sell 17 = .ok (.invokestatic 71, 3) := by decide +kernel
theorem dX6_sell_20 : decode cX6_sell 20 = .ok (.ifCond .ne 5, 3) := by decide +kernel
theorem dX6_sell_23 : decode cX6_sell 23 = .ok (.iconst (-1), 1) := by decide +kernel
theorem dX6_sell_24 : decode cX6_sell 24 = .ok (.ireturn, 1) := by decide +kernel
theorem dX6_sell_25 : decode cX6_sell 25 = .ok (.iload_n 2, 1) := by decide +kernel
theorem dX6_sell_26 : decode cX6_sell 26 = .ok (.invokestatic 74, 3) := by decide +kernel
theorem dX6_sell_29 : decode cX6_sell 29 = .ok (.ifCond .eq 16, 3) := by decide +kernel
theorem dX6_sell_32 : decode cX6_sell 32 = .ok (.iload 6, 2) := by decide +kernel
theorem dX6_sell_34 : decode cX6_sell 34 = .ok (.iconst 1, 1) := by decide +kernel
theorem dX6_sell_35 : decode cX6_sell 35 = .ok (.if_icmp .lt 10, 3) := by decide +kernel
theorem dX6_sell_38 : decode cX6_sell 38 = .ok (.iload 6, 2) := by decide +kernel
theorem dX6_sell_40 : decode cX6_sell 40 = .ok (.bipush 100, 2) := by decide +kernel
theorem dX6_sell_42 : decode cX6_sell 42 = .ok (.if_icmp .le 6, 3) := by decide +kernel
theorem dX6_sell_45 : decode cX6_sell 45 = .ok (.bipush (-2), 2) := by decide +kernel
theorem dX6_sell_47 : decode cX6_sell 47 = .ok (.ireturn, 1) := by decide +kernel
theorem dX6_sell_48 : decode cX6_sell 48 = .ok (.iload_n 3, 1) := by decide +kernel
theorem dX6_sell_49 : decode cX6_sell 49 = .ok (.iload 4, 2) := by decide +kernel
theorem dX6_sell_51 : decode cX6_sell 51 = .ok (.if_icmp .eq 22, 3) := by decide +kernel
theorem dX6_sell_54 : decode cX6_sell 54 = .ok (.iload_n 3, 1) := by decide +kernel
theorem dX6_sell_55 : decode cX6_sell 55 = .ok (.iload 5, 2) := by decide +kernel
theorem dX6_sell_57 : decode cX6_sell 57 = .ok (.invokestatic 187, 3) := by decide +kernel
theorem dX6_sell_60 : decode cX6_sell 60 = .ok (.if_icmp .eq 13, 3) := by decide +kernel
theorem dX6_sell_63 : decode cX6_sell 63 = .ok (.iload 4, 2) := by decide +kernel
theorem dX6_sell_65 : decode cX6_sell 65 = .ok (.iload 5, 2) := by decide +kernel
theorem dX6_sell_67 : decode cX6_sell 67 = .ok (.invokestatic 187, 3) := by decide +kernel
theorem dX6_sell_70 : decode cX6_sell 70 = .ok (.if_icmp .ne 6, 3) := by decide +kernel
theorem dX6_sell_73 : decode cX6_sell 73 = .ok (.bipush (-2), 2) := by decide +kernel
theorem dX6_sell_75 : decode cX6_sell 75 = .ok (.ireturn, 1) := by decide +kernel
theorem dX6_sell_76 : decode cX6_sell 76 = .ok (.aload_n 0, 1) := by decide +kernel
theorem dX6_sell_77 : decode cX6_sell 77 = .ok (.iload_n 2, 1) := by decide +kernel
theorem dX6_sell_78 : decode cX6_sell 78 = .ok (.iload_n 1, 1) := by decide +kernel
theorem dX6_sell_79 : decode cX6_sell 79 = .ok (.iload 5, 2) := by decide +kernel
theorem dX6_sell_81 : decode cX6_sell 81 = .ok (.iload_n 3, 1) := by decide +kernel
theorem dX6_sell_82 : decode cX6_sell 82 = .ok (.iload 4, 2) := by decide +kernel
theorem dX6_sell_84 : decode cX6_sell 84 = .ok (.iload 6, 2) := by decide +kernel
theorem dX6_sell_86 : decode cX6_sell 86 = .ok (.invokevirtual 80, 3) := by decide +kernel
theorem dX6_sell_89 : decode cX6_sell 89 = .ok (.ireturn, 1) := by decide +kernel
theorem dX6_enter_0 : decode cX6_enter 0 = .ok (.aload_n 0, 1) := by decide +kernel
theorem dX6_enter_1 : decode cX6_enter 1 = .ok (.getfield 12, 3) := by decide +kernel
theorem dX6_enter_4 : decode cX6_enter 4 = .ok (.iload_n 1, 1) := by decide +kernel
theorem dX6_enter_5 : decode cX6_enter 5 = .ok (.iload_n 2, 1) := by decide +kernel
theorem dX6_enter_6 : decode cX6_enter 6 = .ok (.iload_n 3, 1) := by decide +kernel
theorem dX6_enter_7 : decode cX6_enter 7 = .ok (.iload 4, 2) := by decide +kernel
theorem dX6_enter_9 : decode cX6_enter 9 = .ok (.iload 5, 2) := by decide +kernel
theorem dX6_enter_11 : decode cX6_enter 11 = .ok (.iload 6, 2) := by decide +kernel
theorem dX6_enter_13 : decode cX6_enter 13 = .ok (.invokevirtual 264, 3) := by decide +kernel
theorem dX6_enter_16 : decode cX6_enter 16 = .ok (.iconst 0, 1) := by decide +kernel
theorem dX6_enter_17 : decode cX6_enter 17 = .ok (.istore 7, 2) := by decide +kernel
theorem dX6_enter_19 : decode cX6_enter 19 = .ok (.aload_n 0, 1) := by decide +kernel
theorem dX6_enter_20 : decode cX6_enter 20 = .ok (.iconst (-1), 1) := by decide +kernel
theorem dX6_enter_21 : decode cX6_enter 21 = .ok (.invokevirtual 86, 3) := by decide +kernel
theorem dX6_enter_24 : decode cX6_enter 24 = .ok (.ifCond .ne 10, 3) := by decide +kernel
theorem dX6_enter_27 : decode cX6_enter 27 = .ok (.bipush (-5), 2) := by decide +kernel
theorem dX6_enter_29 : decode cX6_enter 29 = .ok (.istore 7, 2) := by decide +kernel
theorem dX6_enter_31 : decode cX6_enter 31 = .ok (.goto 19, 3) := by decide +kernel
theorem dX6_enter_34 : decode cX6_enter 34 = .ok (.aload_n 0, 1) := by decide +kernel
theorem dX6_enter_35 : decode cX6_enter 35 = .ok (.getfield 12, 3) := by decide +kernel
theorem dX6_enter_38 : decode cX6_enter 38 = .ok (.getfield 96, 3) := by decide +kernel
theorem dX6_enter_41 : decode cX6_enter 41 = .ok (.bipush 40, 2) := by decide +kernel
theorem dX6_enter_43 : decode cX6_enter 43 = .ok (.if_icmp .le 7, 3) := by decide +kernel
theorem dX6_enter_46 : decode cX6_enter 46 = .ok (.bipush (-4), 2) := by decide +kernel
theorem dX6_enter_48 : decode cX6_enter 48 = .ok (.istore 7, 2) := by decide +kernel
theorem dX6_enter_50 : decode cX6_enter 50 = .ok (.iload 7, 2) := by decide +kernel
theorem dX6_enter_52 : decode cX6_enter 52 = .ok (.ifCond .eq 22, 3) := by decide +kernel
theorem dX6_enter_55 : decode cX6_enter 55 = .ok (.aload_n 0, 1) := by decide +kernel
theorem dX6_enter_56 : decode cX6_enter 56 = .ok (.getfield 12, 3) := by decide +kernel
theorem dX6_enter_59 : decode cX6_enter 59 = .ok (.aload_n 0, 1) := by decide +kernel
theorem dX6_enter_60 : decode cX6_enter 60 = .ok (.getfield 12, 3) := by decide +kernel
theorem dX6_enter_63 : decode cX6_enter 63 = .ok (.getfield 96, 3) := by decide +kernel
theorem dX6_enter_66 : decode cX6_enter 66 = .ok (.iconst 1, 1) := by decide +kernel
theorem dX6_enter_67 : decode cX6_enter 67 = .ok (.isub, 1) := by decide +kernel
theorem dX6_enter_68 : decode cX6_enter 68 = .ok (.invokevirtual 89, 3) := by decide +kernel
theorem dX6_enter_71 : decode cX6_enter 71 = .ok (.iload 7, 2) := by decide +kernel
theorem dX6_enter_73 : decode cX6_enter 73 = .ok (.ireturn, 1) := by decide +kernel
theorem dX6_enter_74 : decode cX6_enter 74 = .ok (.aload_n 0, 1) := by decide +kernel
theorem dX6_enter_75 : decode cX6_enter 75 = .ok (.invokevirtual 93, 3) := by decide +kernel
theorem dX6_enter_78 : decode cX6_enter 78 = .ok (.aload_n 0, 1) := by decide +kernel
theorem dX6_enter_79 : decode cX6_enter 79 = .ok (.getfield 12, 3) := by decide +kernel
theorem dX6_enter_82 : decode cX6_enter 82 = .ok (.getfield 96, 3) := by decide +kernel
theorem dX6_enter_85 : decode cX6_enter 85 = .ok (.ireturn, 1) := by decide +kernel
theorem dX6_isSoundWithout_0 : decode cX6_isSoundWithout 0 = .ok (.aload_n 0, 1) := by decide +kernel
theorem dX6_isSoundWithout_1 : decode cX6_isSoundWithout 1 = .ok (.getfield 57, 3) := by decide +kernel
theorem dX6_isSoundWithout_4 : decode cX6_isSoundWithout 4 = .ok (.invokevirtual 268, 3) := by decide +kernel
theorem dX6_isSoundWithout_7 : decode cX6_isSoundWithout 7 = .ok (.iconst 0, 1) := by decide +kernel
theorem dX6_isSoundWithout_8 : decode cX6_isSoundWithout 8 = .ok (.istore_n 2, 1) := by decide +kernel
theorem dX6_isSoundWithout_9 : decode cX6_isSoundWithout 9 = .ok (.iload_n 2, 1) := by decide +kernel
theorem dX6_isSoundWithout_10 : decode cX6_isSoundWithout 10 = .ok (.aload_n 0, 1) := by decide +kernel
theorem dX6_isSoundWithout_11 : decode cX6_isSoundWithout 11 = .ok (.getfield 12, 3) := by decide +kernel
theorem dX6_isSoundWithout_14 : decode cX6_isSoundWithout 14 = .ok (.getfield 96, 3) := by decide +kernel
theorem dX6_isSoundWithout_17 : decode cX6_isSoundWithout 17 = .ok (.if_icmp .ge 41, 3) := by decide +kernel
theorem dX6_isSoundWithout_20 : decode cX6_isSoundWithout 20 = .ok (.aload_n 0, 1) := by decide +kernel
theorem dX6_isSoundWithout_21 : decode cX6_isSoundWithout 21 = .ok (.getfield 12, 3) := by decide +kernel
theorem dX6_isSoundWithout_24 : decode cX6_isSoundWithout 24 = .ok (.getfield 271, 3) := by decide +kernel
theorem dX6_isSoundWithout_27 : decode cX6_isSoundWithout 27 = .ok (.iload_n 2, 1) := by decide +kernel
theorem dX6_isSoundWithout_28 : decode cX6_isSoundWithout 28 = .ok (.iaload, 1) := by decide +kernel
theorem dX6_isSoundWithout_29 : decode cX6_isSoundWithout 29 = .ok (.istore_n 3, 1) := by decide +kernel
theorem dX6_isSoundWithout_30 : decode cX6_isSoundWithout 30 = .ok (.iload_n 3, 1) := by decide +kernel
theorem dX6_isSoundWithout_31 : decode cX6_isSoundWithout 31 = .ok (.iload_n 1, 1) := by decide +kernel
theorem dX6_isSoundWithout_32 : decode cX6_isSoundWithout 32 = .ok (.if_icmp .eq 20, 3) := by decide +kernel
theorem dX6_isSoundWithout_35 : decode cX6_isSoundWithout 35 = .ok (.aload_n 0, 1) := by decide +kernel
theorem dX6_isSoundWithout_36 : decode cX6_isSoundWithout 36 = .ok (.getfield 57, 3) := by decide +kernel
theorem dX6_isSoundWithout_39 : decode cX6_isSoundWithout 39 = .ok (.aload_n 0, 1) := by decide +kernel
theorem dX6_isSoundWithout_40 : decode cX6_isSoundWithout 40 = .ok (.getfield 12, 3) := by decide +kernel
theorem dX6_isSoundWithout_43 : decode cX6_isSoundWithout 43 = .ok (.iload_n 3, 1) := by decide +kernel
theorem dX6_isSoundWithout_44 : decode cX6_isSoundWithout 44 = .ok (.invokevirtual 274, 3) := by decide +kernel
theorem dX6_isSoundWithout_47 : decode cX6_isSoundWithout 47 = .ok (.ifCond .ne 5, 3) := by decide +kernel
theorem dX6_isSoundWithout_50 : decode cX6_isSoundWithout 50 = .ok (.iconst 0, 1) := by decide +kernel
theorem dX6_isSoundWithout_51 : decode cX6_isSoundWithout 51 = .ok (.ireturn, 1) := by decide +kernel
theorem dX6_isSoundWithout_52 : decode cX6_isSoundWithout 52 = .ok (.iinc 2 1, 3) := by decide +kernel
theorem dX6_isSoundWithout_55 : decode cX6_isSoundWithout 55 = .ok (.goto (-46), 3) := by decide +kernel
theorem dX6_isSoundWithout_58 : decode cX6_isSoundWithout 58 = .ok (.iconst 1, 1) := by decide +kernel
theorem dX6_isSoundWithout_59 : decode cX6_isSoundWithout 59 = .ok (.ireturn, 1) := by decide +kernel
theorem dX6_allIsChanged_0 : decode cX6_allIsChanged 0 = .ok (.aload_n 0, 1) := by decide +kernel
theorem dX6_allIsChanged_1 : decode cX6_allIsChanged 1 = .ok (.iconst 0, 1) := by decide +kernel
theorem dX6_allIsChanged_2 : decode cX6_allIsChanged 2 = .ok (.putfield 130, 3) := by decide +kernel
theorem dX6_allIsChanged_5 : decode cX6_allIsChanged 5 = .ok (.aload_n 0, 1) := by decide +kernel
theorem dX6_allIsChanged_6 : decode cX6_allIsChanged 6 = .ok (.iconst 0, 1) := by decide +kernel
theorem dX6_allIsChanged_7 : decode cX6_allIsChanged 7 = .ok (.putfield 278, 3) := by decide +kernel
theorem dX6_allIsChanged_10 : decode cX6_allIsChanged 10 = .ok (.return_, 1) := by decide +kernel
theorem dX6_bringUpToDate_0 : decode cX6_bringUpToDate 0 = .ok (.aload_n 0, 1) := by decide +kernel
theorem dX6_bringUpToDate_1 : decode cX6_bringUpToDate 1 = .ok (.getfield 130, 3) := by decide +kernel
theorem dX6_bringUpToDate_4 : decode cX6_bringUpToDate 4 = .ok (.ifCond .eq 4, 3) := by decide +kernel
theorem dX6_bringUpToDate_7 : decode cX6_bringUpToDate 7 = .ok (.return_, 1) := by decide +kernel
theorem dX6_bringUpToDate_8 : decode cX6_bringUpToDate 8 = .ok (.aload_n 0, 1) := by decide +kernel
theorem dX6_bringUpToDate_9 : decode cX6_bringUpToDate 9 = .ok (.getfield 25, 3) := by decide +kernel
theorem dX6_bringUpToDate_12 : decode cX6_bringUpToDate 12 = .ok (.invokevirtual 268, 3) := by decide +kernel
theorem dX6_bringUpToDate_15 : decode cX6_bringUpToDate 15 = .ok (.aload_n 0, 1) := by decide +kernel
theorem dX6_bringUpToDate_16 : decode cX6_bringUpToDate 16 = .ok (.getfield 12, 3) := by decide +kernel
theorem dX6_bringUpToDate_19 : decode cX6_bringUpToDate 19 = .ok (.aload_n 0, 1) := by decide +kernel
theorem dX6_bringUpToDate_20 : decode cX6_bringUpToDate 20 = .ok (.getfield 12, 3) := by decide +kernel
theorem dX6_bringUpToDate_23 : decode cX6_bringUpToDate 23 = .ok (.getfield 123, 3) := by decide +kernel
theorem dX6_bringUpToDate_26 : decode cX6_bringUpToDate 26 = .ok (.invokevirtual 251, 3) := by decide +kernel
theorem dX6_bringUpToDate_29 : decode cX6_bringUpToDate 29 = .ok (.istore_n 1, 1) := by decide +kernel
theorem dX6_bringUpToDate_30 : decode cX6_bringUpToDate 30 = .ok (.iconst 0, 1) := by decide +kernel
theorem dX6_bringUpToDate_31 : decode cX6_bringUpToDate 31 = .ok (.istore_n 2, 1) := by decide +kernel
theorem dX6_bringUpToDate_32 : decode cX6_bringUpToDate 32 = .ok (.iload_n 2, 1) := by decide +kernel
theorem dX6_bringUpToDate_33 : decode cX6_bringUpToDate 33 = .ok (.iload_n 1, 1) := by decide +kernel
theorem dX6_bringUpToDate_34 : decode cX6_bringUpToDate 34 = .ok (.if_icmp .ge 30, 3) := by decide +kernel
theorem dX6_bringUpToDate_37 : decode cX6_bringUpToDate 37 = .ok (.aload_n 0, 1) := by decide +kernel
theorem dX6_bringUpToDate_38 : decode cX6_bringUpToDate 38 = .ok (.getfield 25, 3) := by decide +kernel
theorem dX6_bringUpToDate_41 : decode cX6_bringUpToDate 41 = .ok (.aload_n 0, 1) := by decide +kernel
theorem dX6_bringUpToDate_42 : decode cX6_bringUpToDate 42 = .ok (.getfield 12, 3) := by decide +kernel
theorem dX6_bringUpToDate_45 : decode cX6_bringUpToDate 45 = .ok (.aload_n 0, 1) := by decide +kernel
theorem dX6_bringUpToDate_46 : decode cX6_bringUpToDate 46 = .ok (.getfield 12, 3) := by decide +kernel
theorem dX6_bringUpToDate_49 : decode cX6_bringUpToDate 49 = .ok (.getfield 271, 3) := by decide +kernel
theorem dX6_bringUpToDate_52 : decode cX6_bringUpToDate 52 = .ok (.iload_n 2, 1) := by decide +kernel
theorem dX6_bringUpToDate_53 : decode cX6_bringUpToDate 53 = .ok (.iaload, 1) := by decide +kernel
theorem dX6_bringUpToDate_54 : decode cX6_bringUpToDate 54 = .ok (.invokevirtual 274, 3) := by decide +kernel
theorem dX6_bringUpToDate_57 : decode cX6_bringUpToDate 57 = .ok (.pop, 1) := by decide +kernel
theorem dX6_bringUpToDate_58 : decode cX6_bringUpToDate 58 = .ok (.iinc 2 1, 3) := by decide +kernel
theorem dX6_bringUpToDate_61 : decode cX6_bringUpToDate 61 = .ok (.goto (-29), 3) := by decide +kernel
theorem dX6_bringUpToDate_64 : decode cX6_bringUpToDate 64 = .ok (.aload_n 0, 1) := by decide +kernel
theorem dX6_bringUpToDate_65 : decode cX6_bringUpToDate 65 = .ok (.getfield 32, 3) := by decide +kernel
theorem dX6_bringUpToDate_68 : decode cX6_bringUpToDate 68 = .ok (.aload_n 0, 1) := by decide +kernel
theorem dX6_bringUpToDate_69 : decode cX6_bringUpToDate 69 = .ok (.getfield 25, 3) := by decide +kernel
theorem dX6_bringUpToDate_72 : decode cX6_bringUpToDate 72 = .ok (.aload_n 0, 1) := by decide +kernel
theorem dX6_bringUpToDate_73 : decode cX6_bringUpToDate 73 = .ok (.getfield 12, 3) := by decide +kernel
theorem dX6_bringUpToDate_76 : decode cX6_bringUpToDate 76 = .ok (.invokevirtual 281, 3) := by decide +kernel
theorem dX6_bringUpToDate_79 : decode cX6_bringUpToDate 79 = .ok (.aload_n 0, 1) := by decide +kernel
theorem dX6_bringUpToDate_80 : decode cX6_bringUpToDate 80 = .ok (.getfield 39, 3) := by decide +kernel
theorem dX6_bringUpToDate_83 : decode cX6_bringUpToDate 83 = .ok (.aload_n 0, 1) := by decide +kernel
theorem dX6_bringUpToDate_84 : decode cX6_bringUpToDate 84 = .ok (.getfield 25, 3) := by decide +kernel
theorem dX6_bringUpToDate_87 : decode cX6_bringUpToDate 87 = .ok (.invokevirtual 285, 3) := by decide +kernel
theorem dX6_bringUpToDate_90 : decode cX6_bringUpToDate 90 = .ok (.aload_n 0, 1) := by decide +kernel
theorem dX6_bringUpToDate_91 : decode cX6_bringUpToDate 91 = .ok (.getfield 46, 3) := by decide +kernel
theorem dX6_bringUpToDate_94 : decode cX6_bringUpToDate 94 = .ok (.aload_n 0, 1) := by decide +kernel
theorem dX6_bringUpToDate_95 : decode cX6_bringUpToDate 95 = .ok (.getfield 25, 3) := by decide +kernel
theorem dX6_bringUpToDate_98 : decode cX6_bringUpToDate 98 = .ok (.invokevirtual 289, 3) := by decide +kernel
theorem dX6_bringUpToDate_101 : decode cX6_bringUpToDate 101 = .ok (.aload_n 0, 1) := by decide +kernel
theorem dX6_bringUpToDate_102 : decode cX6_bringUpToDate 102 = .ok (.iconst 1, 1) := by decide +kernel
theorem dX6_bringUpToDate_103 : decode cX6_bringUpToDate 103 = .ok (.putfield 130, 3) := by decide +kernel
theorem dX6_bringUpToDate_106 : decode cX6_bringUpToDate 106 = .ok (.return_, 1) := by decide +kernel
theorem dX6_trace_0 : decode cX6_trace 0 = .ok (.aload_n 0, 1) := by decide +kernel
theorem dX6_trace_1 : decode cX6_trace 1 = .ok (.getfield 278, 3) := by decide +kernel
theorem dX6_trace_4 : decode cX6_trace 4 = .ok (.ifCond .eq 4, 3) := by decide +kernel
theorem dX6_trace_7 : decode cX6_trace 7 = .ok (.return_, 1) := by decide +kernel
theorem dX6_trace_8 : decode cX6_trace 8 = .ok (.aload_n 0, 1) := by decide +kernel
theorem dX6_trace_9 : decode cX6_trace 9 = .ok (.getfield 53, 3) := by decide +kernel
theorem dX6_trace_12 : decode cX6_trace 12 = .ok (.aload_n 0, 1) := by decide +kernel
theorem dX6_trace_13 : decode cX6_trace 13 = .ok (.getfield 12, 3) := by decide +kernel
theorem dX6_trace_16 : decode cX6_trace 16 = .ok (.aload_n 0, 1) := by decide +kernel
theorem dX6_trace_17 : decode cX6_trace 17 = .ok (.getfield 57, 3) := by decide +kernel
theorem dX6_trace_20 : decode cX6_trace 20 = .ok (.aload_n 0, 1) := by decide +kernel
theorem dX6_trace_21 : decode cX6_trace 21 = .ok (.getfield 60, 3) := by decide +kernel
theorem dX6_trace_24 : decode cX6_trace 24 = .ok (.invokevirtual 290, 3) := by decide +kernel
theorem dX6_trace_27 : decode cX6_trace 27 = .ok (.aload_n 0, 1) := by decide +kernel
theorem dX6_trace_28 : decode cX6_trace 28 = .ok (.iconst 1, 1) := by decide +kernel
theorem dX6_trace_29 : decode cX6_trace 29 = .ok (.putfield 278, 3) := by decide +kernel
theorem dX6_trace_32 : decode cX6_trace 32 = .ok (.return_, 1) := by decide +kernel
theorem dX6_finalBlock_0 : decode cX6_finalBlock 0 = .ok (.aload_n 0, 1) := by decide +kernel
theorem dX6_finalBlock_1 : decode cX6_finalBlock 1 = .ok (.getfield 25, 3) := by decide +kernel
theorem dX6_finalBlock_4 : decode cX6_finalBlock 4 = .ok (.iload_n 2, 1) := by decide +kernel
theorem dX6_finalBlock_5 : decode cX6_finalBlock 5 = .ok (.iload_n 1, 1) := by decide +kernel
theorem dX6_finalBlock_6 : decode cX6_finalBlock 6 = .ok (.aload_n 0, 1) := by decide +kernel
theorem dX6_finalBlock_7 : decode cX6_finalBlock 7 = .ok (.getfield 32, 3) := by decide +kernel
theorem dX6_finalBlock_10 : decode cX6_finalBlock 10 = .ok (.getfield 163, 3) := by decide +kernel
theorem dX6_finalBlock_13 : decode cX6_finalBlock 13 = .ok (.iload_n 1, 1) := by decide +kernel
theorem dX6_finalBlock_14 : decode cX6_finalBlock 14 = .ok (.iaload, 1) := by decide +kernel
theorem dX6_finalBlock_15 : decode cX6_finalBlock 15 = .ok (.invokestatic 293, 3) := by decide +kernel
theorem dX6_finalBlock_18 : decode cX6_finalBlock 18 = .ok (.invokevirtual 296, 3) := by decide +kernel
theorem dX6_finalBlock_21 : decode cX6_finalBlock 21 = .ok (.ireturn, 1) := by decide +kernel
theorem dX6_wayOfControl_0 : decode cX6_wayOfControl 0 = .ok (.aload_n 0, 1) := by decide +kernel
theorem dX6_wayOfControl_1 : decode cX6_wayOfControl 1 = .ok (.getfield 32, 3) := by decide +kernel
theorem dX6_wayOfControl_4 : decode cX6_wayOfControl 4 = .ok (.getfield 163, 3) := by decide +kernel
theorem dX6_wayOfControl_7 : decode cX6_wayOfControl 7 = .ok (.iload_n 1, 1) := by decide +kernel
theorem dX6_wayOfControl_8 : decode cX6_wayOfControl 8 = .ok (.iaload, 1) := by decide +kernel
theorem dX6_wayOfControl_9 : decode cX6_wayOfControl 9 = .ok (.iload_n 2, 1) := by decide +kernel
theorem dX6_wayOfControl_10 : decode cX6_wayOfControl 10 = .ok (.invokestatic 159, 3) := by decide +kernel
theorem dX6_wayOfControl_13 : decode cX6_wayOfControl 13 = .ok (.ifCond .ne 5, 3) := by decide +kernel
theorem dX6_wayOfControl_16 : decode cX6_wayOfControl 16 = .ok (.iconst 0, 1) := by decide +kernel
theorem dX6_wayOfControl_17 : decode cX6_wayOfControl 17 = .ok (.ireturn, 1) := by decide +kernel
theorem dX6_wayOfControl_18 : decode cX6_wayOfControl 18 = .ok (.aload_n 0, 1) := by decide +kernel
theorem dX6_wayOfControl_19 : decode cX6_wayOfControl 19 = .ok (.iload_n 1, 1) := by decide +kernel
theorem dX6_wayOfControl_20 : decode cX6_wayOfControl 20 = .ok (.iload_n 2, 1) := by decide +kernel
theorem dX6_wayOfControl_21 : decode cX6_wayOfControl 21 = .ok (.invokevirtual 173, 3) := by decide +kernel
theorem dX6_wayOfControl_24 : decode cX6_wayOfControl 24 = .ok (.aload_n 0, 1) := by decide +kernel
theorem dX6_wayOfControl_25 : decode cX6_wayOfControl 25 = .ok (.getfield 12, 3) := by decide +kernel
theorem dX6_wayOfControl_28 : decode cX6_wayOfControl 28 = .ok (.getfield 134, 3) := by decide +kernel
theorem dX6_wayOfControl_31 : decode cX6_wayOfControl 31 = .ok (.if_icmp .le 7, 3) := by decide +kernel
theorem dX6_wayOfControl_34 : decode cX6_wayOfControl 34 = .ok (.iconst 1, 1) := by decide +kernel
theorem dX6_wayOfControl_35 : decode cX6_wayOfControl 35 = .ok (.goto 4, 3) := by decide +kernel
theorem dX6_wayOfControl_38 : decode cX6_wayOfControl 38 = .ok (.iconst 2, 1) := by decide +kernel
theorem dX6_wayOfControl_39 : decode cX6_wayOfControl 39 = .ok (.ireturn, 1) := by decide +kernel
theorem dX6_fewestToSell_0 : decode cX6_fewestToSell 0 = .ok (.aload_n 0, 1) := by decide +kernel
theorem dX6_fewestToSell_1 : decode cX6_fewestToSell 1 = .ok (.getfield 25, 3) := by decide +kernel
theorem dX6_fewestToSell_4 : decode cX6_fewestToSell 4 = .ok (.getfield 153, 3) := by decide +kernel
theorem dX6_fewestToSell_7 : decode cX6_fewestToSell 7 = .ok (.iload_n 2, 1) := by decide +kernel
theorem dX6_fewestToSell_8 : decode cX6_fewestToSell 8 = .ok (.aaload, 1) := by decide +kernel
theorem dX6_fewestToSell_9 : decode cX6_fewestToSell 9 = .ok (.iload_n 1, 1) := by decide +kernel
theorem dX6_fewestToSell_10 : decode cX6_fewestToSell 10 = .ok (.iaload, 1) := by decide +kernel
theorem dX6_fewestToSell_11 : decode cX6_fewestToSell 11 = .ok (.istore_n 3, 1) := by decide +kernel
theorem dX6_fewestToSell_12 : decode cX6_fewestToSell 12 = .ok (.aload_n 0, 1) := by decide +kernel
theorem dX6_fewestToSell_13 : decode cX6_fewestToSell 13 = .ok (.getfield 57, 3) := by decide +kernel
theorem dX6_fewestToSell_16 : decode cX6_fewestToSell 16 = .ok (.aload_n 0, 1) := by decide +kernel
theorem dX6_fewestToSell_17 : decode cX6_fewestToSell 17 = .ok (.getfield 25, 3) := by decide +kernel
theorem dX6_fewestToSell_20 : decode cX6_fewestToSell 20 = .ok (.invokevirtual 299, 3) := by decide +kernel
theorem dX6_fewestToSell_23 : decode cX6_fewestToSell 23 = .ok (.iconst 0, 1) := by decide +kernel
theorem dX6_fewestToSell_24 : decode cX6_fewestToSell 24 = .ok (.istore 4, 2) := by decide +kernel
theorem dX6_fewestToSell_26 : decode cX6_fewestToSell 26 = .ok (.iload 4, 2) := by decide +kernel
theorem dX6_fewestToSell_28 : decode cX6_fewestToSell 28 = .ok (.iload_n 3, 1) := by decide +kernel
theorem dX6_fewestToSell_29 : decode cX6_fewestToSell 29 = .ok (.if_icmp .gt 38, 3) := by decide +kernel
theorem dX6_fewestToSell_32 : decode cX6_fewestToSell 32 = .ok (.aload_n 0, 1) := by decide +kernel
theorem dX6_fewestToSell_33 : decode cX6_fewestToSell 33 = .ok (.iload_n 1, 1) := by decide +kernel
theorem dX6_fewestToSell_34 : decode cX6_fewestToSell 34 = .ok (.iload_n 2, 1) := by decide +kernel
theorem dX6_fewestToSell_35 : decode cX6_fewestToSell 35 = .ok (.invokevirtual 301, 3) := by decide +kernel
theorem dX6_fewestToSell_38 : decode cX6_fewestToSell 38 = .ok (.ifCond .ne 6, 3) := by decide +kernel
theorem dX6_fewestToSell_41 : decode cX6_fewestToSell 41 = .ok (.iload 4, 2) := by decide +kernel
theorem dX6_fewestToSell_43 : decode cX6_fewestToSell 43 = .ok (.ireturn, 1) := by decide +kernel
theorem dX6_fewestToSell_44 : decode cX6_fewestToSell 44 = .ok (.aload_n 0, 1) := by decide +kernel
theorem dX6_fewestToSell_45 : decode cX6_fewestToSell 45 = .ok (.getfield 57, 3) := by decide +kernel
theorem dX6_fewestToSell_48 : decode cX6_fewestToSell 48 = .ok (.getfield 153, 3) := by decide +kernel
theorem dX6_fewestToSell_51 : decode cX6_fewestToSell 51 = .ok (.iload_n 2, 1) := by decide +kernel
theorem dX6_fewestToSell_52 : decode cX6_fewestToSell 52 = .ok (.aaload, 1) := by decide +kernel
theorem dX6_fewestToSell_53 : decode cX6_fewestToSell 53 = .ok (.iload_n 1, 1) := by decide +kernel
theorem dX6_fewestToSell_54 : decode cX6_fewestToSell 54 = .ok (.bipush 9, 2) := by decide +kernel
theorem dX6_fewestToSell_56 : decode cX6_fewestToSell 56 = .ok (.iconst 1, 1) := by decide +kernel
theorem dX6_fewestToSell_57 : decode cX6_fewestToSell 57 = .ok (.invokestatic 304, 3) := by decide +kernel
theorem dX6_fewestToSell_60 : decode cX6_fewestToSell 60 = .ok (.pop, 1) := by decide +kernel
theorem dX6_fewestToSell_61 : decode cX6_fewestToSell 61 = .ok (.iinc 4 1, 3) := by decide +kernel
theorem dX6_fewestToSell_64 : decode cX6_fewestToSell 64 = .ok (.goto (-38), 3) := by decide +kernel
theorem dX6_fewestToSell_67 : decode cX6_fewestToSell 67 = .ok (.bipush (-6), 2) := by decide +kernel
theorem dX6_fewestToSell_69 : decode cX6_fewestToSell 69 = .ok (.ireturn, 1) := by decide +kernel
theorem dX6_fewestToBuy_0 : decode cX6_fewestToBuy 0 = .ok (.iload_n 1, 1) := by decide +kernel
theorem dX6_fewestToBuy_1 : decode cX6_fewestToBuy 1 = .ok (.iload_n 2, 1) := by decide +kernel
theorem dX6_fewestToBuy_2 : decode cX6_fewestToBuy 2 = .ok (.invokestatic 187, 3) := by decide +kernel
theorem dX6_fewestToBuy_5 : decode cX6_fewestToBuy 5 = .ok (.if_icmp .ne 7, 3) := by decide +kernel
theorem dX6_fewestToBuy_8 : decode cX6_fewestToBuy 8 = .ok (.iconst 0, 1) := by decide +kernel
theorem dX6_fewestToBuy_9 : decode cX6_fewestToBuy 9 = .ok (.goto 15, 3) := by decide +kernel
theorem dX6_fewestToBuy_12 : decode cX6_fewestToBuy 12 = .ok (.aload_n 0, 1) := by decide +kernel
theorem dX6_fewestToBuy_13 : decode cX6_fewestToBuy 13 = .ok (.getfield 25, 3) := by decide +kernel
theorem dX6_fewestToBuy_16 : decode cX6_fewestToBuy 16 = .ok (.getfield 153, 3) := by decide +kernel
theorem dX6_fewestToBuy_19 : decode cX6_fewestToBuy 19 = .ok (.iload_n 2, 1) := by decide +kernel
theorem dX6_fewestToBuy_20 : decode cX6_fewestToBuy 20 = .ok (.aaload, 1) := by decide +kernel
theorem dX6_fewestToBuy_21 : decode cX6_fewestToBuy 21 = .ok (.bipush 9, 2) := by decide +kernel
theorem dX6_fewestToBuy_23 : decode cX6_fewestToBuy 23 = .ok (.iaload, 1) := by decide +kernel
theorem dX6_fewestToBuy_24 : decode cX6_fewestToBuy 24 = .ok (.istore_n 3, 1) := by decide +kernel
theorem dX6_fewestToBuy_25 : decode cX6_fewestToBuy 25 = .ok (.aload_n 0, 1) := by decide +kernel
theorem dX6_fewestToBuy_26 : decode cX6_fewestToBuy 26 = .ok (.getfield 57, 3) := by decide +kernel
theorem dX6_fewestToBuy_29 : decode cX6_fewestToBuy 29 = .ok (.aload_n 0, 1) := by decide +kernel
theorem dX6_fewestToBuy_30 : decode cX6_fewestToBuy 30 = .ok (.getfield 25, 3) := by decide +kernel
theorem dX6_fewestToBuy_33 : decode cX6_fewestToBuy 33 = .ok (.invokevirtual 299, 3) := by decide +kernel
theorem dX6_fewestToBuy_36 : decode cX6_fewestToBuy 36 = .ok (.iconst 0, 1) := by decide +kernel
theorem dX6_fewestToBuy_37 : decode cX6_fewestToBuy 37 = .ok (.istore 4, 2) := by decide +kernel
theorem dX6_fewestToBuy_39 : decode cX6_fewestToBuy 39 = .ok (.iload 4, 2) := by decide +kernel
theorem dX6_fewestToBuy_41 : decode cX6_fewestToBuy 41 = .ok (.iload_n 3, 1) := by decide +kernel
theorem dX6_fewestToBuy_42 : decode cX6_fewestToBuy 42 = .ok (.if_icmp .gt 38, 3) := by decide +kernel
theorem dX6_fewestToBuy_45 : decode cX6_fewestToBuy 45 = .ok (.aload_n 0, 1) := by decide +kernel
theorem dX6_fewestToBuy_46 : decode cX6_fewestToBuy 46 = .ok (.iload_n 1, 1) := by decide +kernel
theorem dX6_fewestToBuy_47 : decode cX6_fewestToBuy 47 = .ok (.iload_n 2, 1) := by decide +kernel
theorem dX6_fewestToBuy_48 : decode cX6_fewestToBuy 48 = .ok (.invokevirtual 301, 3) := by decide +kernel
theorem dX6_fewestToBuy_51 : decode cX6_fewestToBuy 51 = .ok (.ifCond .eq 6, 3) := by decide +kernel
theorem dX6_fewestToBuy_54 : decode cX6_fewestToBuy 54 = .ok (.iload 4, 2) := by decide +kernel
theorem dX6_fewestToBuy_56 : decode cX6_fewestToBuy 56 = .ok (.ireturn, 1) := by decide +kernel
theorem dX6_fewestToBuy_57 : decode cX6_fewestToBuy 57 = .ok (.aload_n 0, 1) := by decide +kernel
theorem dX6_fewestToBuy_58 : decode cX6_fewestToBuy 58 = .ok (.getfield 57, 3) := by decide +kernel
theorem dX6_fewestToBuy_61 : decode cX6_fewestToBuy 61 = .ok (.getfield 153, 3) := by decide +kernel
theorem dX6_fewestToBuy_64 : decode cX6_fewestToBuy 64 = .ok (.iload_n 2, 1) := by decide +kernel
theorem dX6_fewestToBuy_65 : decode cX6_fewestToBuy 65 = .ok (.aaload, 1) := by decide +kernel
theorem dX6_fewestToBuy_66 : decode cX6_fewestToBuy 66 = .ok (.bipush 9, 2) := by decide +kernel
theorem dX6_fewestToBuy_68 : decode cX6_fewestToBuy 68 = .ok (.iload_n 1, 1) := by decide +kernel
theorem dX6_fewestToBuy_69 : decode cX6_fewestToBuy 69 = .ok (.iconst 1, 1) := by decide +kernel
theorem dX6_fewestToBuy_70 : decode cX6_fewestToBuy 70 = .ok (.invokestatic 304, 3) := by decide +kernel
theorem dX6_fewestToBuy_73 : decode cX6_fewestToBuy 73 = .ok (.pop, 1) := by decide +kernel
theorem dX6_fewestToBuy_74 : decode cX6_fewestToBuy 74 = .ok (.iinc 4 1, 3) := by decide +kernel
theorem dX6_fewestToBuy_77 : decode cX6_fewestToBuy 77 = .ok (.goto (-38), 3) := by decide +kernel
theorem dX6_fewestToBuy_80 : decode cX6_fewestToBuy 80 = .ok (.bipush (-6), 2) := by decide +kernel
theorem dX6_fewestToBuy_82 : decode cX6_fewestToBuy 82 = .ok (.ireturn, 1) := by decide +kernel
theorem dX6_wouldControl_0 : decode cX6_wouldControl 0 = .ok (.aload_n 0, 1) := by decide +kernel
theorem dX6_wouldControl_1 : decode cX6_wouldControl 1 = .ok (.getfield 60, 3) := by decide +kernel
theorem dX6_wouldControl_4 : decode cX6_wouldControl 4 = .ok (.iload_n 1, 1) := by decide +kernel
theorem dX6_wouldControl_5 : decode cX6_wouldControl 5 = .ok (.aload_n 0, 1) := by decide +kernel
theorem dX6_wouldControl_6 : decode cX6_wouldControl 6 = .ok (.getfield 57, 3) := by decide +kernel
theorem dX6_wouldControl_9 : decode cX6_wouldControl 9 = .ok (.aload_n 0, 1) := by decide +kernel
theorem dX6_wouldControl_10 : decode cX6_wouldControl 10 = .ok (.getfield 12, 3) := by decide +kernel
theorem dX6_wouldControl_13 : decode cX6_wouldControl 13 = .ok (.invokevirtual 308, 3) := by decide +kernel
theorem dX6_wouldControl_16 : decode cX6_wouldControl 16 = .ok (.aload_n 0, 1) := by decide +kernel
theorem dX6_wouldControl_17 : decode cX6_wouldControl 17 = .ok (.getfield 60, 3) := by decide +kernel
theorem dX6_wouldControl_20 : decode cX6_wouldControl 20 = .ok (.getfield 163, 3) := by decide +kernel
theorem dX6_wouldControl_23 : decode cX6_wouldControl 23 = .ok (.iload_n 1, 1) := by decide +kernel
theorem dX6_wouldControl_24 : decode cX6_wouldControl 24 = .ok (.iaload, 1) := by decide +kernel
theorem dX6_wouldControl_25 : decode cX6_wouldControl 25 = .ok (.iload_n 2, 1) := by decide +kernel
theorem dX6_wouldControl_26 : decode cX6_wouldControl 26 = .ok (.invokestatic 159, 3) := by decide +kernel
theorem dX6_wouldControl_29 : decode cX6_wouldControl 29 = .ok (.ireturn, 1) := by decide +kernel
theorem dX6_inLowestTerms_0 : decode cX6_inLowestTerms 0 = .ok (.lload_n 0, 1) := by decide +kernel
theorem dX6_inLowestTerms_1 : decode cX6_inLowestTerms 1 = .ok (.lload_n 2, 1) := by decide +kernel
theorem dX6_inLowestTerms_2 : decode cX6_inLowestTerms 2 = .ok (.invokestatic 311, 3) := by decide +kernel
theorem dX6_inLowestTerms_5 : decode cX6_inLowestTerms 5 = .ok (.lstore 5, 2) := by decide +kernel
theorem dX6_inLowestTerms_7 : decode cX6_inLowestTerms 7 = .ok (.lload 5, 2) := by decide +kernel
theorem dX6_inLowestTerms_9 : decode cX6_inLowestTerms 9 = .ok (.lconst 0, 1) := by decide +kernel
theorem dX6_inLowestTerms_10 : decode cX6_inLowestTerms 10 = .ok (.lcmp, 1) := by decide +kernel
theorem dX6_inLowestTerms_11 : decode cX6_inLowestTerms 11 = .ok (.ifCond .ne 7, 3) := by decide +kernel
theorem dX6_inLowestTerms_14 : decode cX6_inLowestTerms 14 = .ok (.iload 4, 2) := by decide +kernel
theorem dX6_inLowestTerms_16 : decode cX6_inLowestTerms 16 = .ok (.i2l, 1) := by decide +kernel
theorem dX6_inLowestTerms_17 : decode cX6_inLowestTerms 17 = .ok (.lreturn, 1) := by decide +kernel
theorem dX6_inLowestTerms_18 : decode cX6_inLowestTerms 18 = .ok (.iload 4, 2) := by decide +kernel
theorem dX6_inLowestTerms_20 : decode cX6_inLowestTerms 20 = .ok (.ifCond .ne 7, 3) := by decide +kernel
theorem dX6_inLowestTerms_23 : decode cX6_inLowestTerms 23 = .ok (.lload_n 0, 1) := by decide +kernel
theorem dX6_inLowestTerms_24 : decode cX6_inLowestTerms 24 = .ok (.goto 4, 3) := by decide +kernel
theorem dX6_inLowestTerms_27 : decode cX6_inLowestTerms 27 = .ok (.lload_n 2, 1) := by decide +kernel
theorem dX6_inLowestTerms_28 : decode cX6_inLowestTerms 28 = .ok (.lload 5, 2) := by decide +kernel
theorem dX6_inLowestTerms_30 : decode cX6_inLowestTerms 30 = .ok (.ldiv, 1) := by decide +kernel
theorem dX6_inLowestTerms_31 : decode cX6_inLowestTerms 31 = .ok (.lreturn, 1) := by decide +kernel
theorem dX6_commonDivisor_0 : decode cX6_commonDivisor 0 = .ok (.lload_n 0, 1) := by decide +kernel
theorem dX6_commonDivisor_1 : decode cX6_commonDivisor 1 = .ok (.lstore 4, 2) := by decide +kernel
theorem dX6_commonDivisor_3 : decode cX6_commonDivisor 3 = .ok (.lload_n 2, 1) := by decide +kernel
theorem dX6_commonDivisor_4 : decode cX6_commonDivisor 4 = .ok (.lstore 6, 2) := by decide +kernel
theorem dX6_commonDivisor_6 : decode cX6_commonDivisor 6 = .ok (.iconst 0, 1) := by decide +kernel
theorem dX6_commonDivisor_7 : decode cX6_commonDivisor 7 = .ok (.istore 8, 2) := by decide +kernel
theorem dX6_commonDivisor_9 : decode cX6_commonDivisor 9 = .ok (.iload 8, 2) := by decide +kernel
theorem dX6_commonDivisor_11 : decode cX6_commonDivisor 11 = .ok (.bipush 100, 2) := by decide +kernel
theorem dX6_commonDivisor_13 : decode cX6_commonDivisor 13 = .ok (.if_icmp .ge 31, 3) := by decide +kernel
theorem dX6_commonDivisor_16 : decode cX6_commonDivisor 16 = .ok (.lload 6, 2) := by decide +kernel
theorem dX6_commonDivisor_18 : decode cX6_commonDivisor 18 = .ok (.lconst 0, 1) := by decide +kernel
theorem dX6_commonDivisor_19 : decode cX6_commonDivisor 19 = .ok (.lcmp, 1) := by decide +kernel
theorem dX6_commonDivisor_20 : decode cX6_commonDivisor 20 = .ok (.ifCond .eq 24, 3) := by decide +kernel
theorem dX6_commonDivisor_23 : decode cX6_commonDivisor 23 = .ok (.lload 4, 2) := by decide +kernel
theorem dX6_commonDivisor_25 : decode cX6_commonDivisor 25 = .ok (.lload 6, 2) := by decide +kernel
theorem dX6_commonDivisor_27 : decode cX6_commonDivisor 27 = .ok (.lrem, 1) := by decide +kernel
theorem dX6_commonDivisor_28 : decode cX6_commonDivisor 28 = .ok (.lstore 9, 2) := by decide +kernel
theorem dX6_commonDivisor_30 : decode cX6_commonDivisor 30 = .ok (.lload 6, 2) := by decide +kernel
theorem dX6_commonDivisor_32 : decode cX6_commonDivisor 32 = .ok (.lstore 4, 2) := by decide +kernel
theorem dX6_commonDivisor_34 : decode cX6_commonDivisor 34 = .ok (.lload 9, 2) := by decide +kernel
theorem dX6_commonDivisor_36 : decode cX6_commonDivisor 36 = .ok (.lstore 6, 2) := by decide +kernel
theorem dX6_commonDivisor_38 : decode cX6_commonDivisor 38 = .ok (.iinc 8 1, 3) := by decide +kernel
theorem dX6_commonDivisor_41 : decode cX6_commonDivisor 41 = .ok (.goto (-32), 3) := by decide +kernel
theorem dX6_commonDivisor_44 : decode cX6_commonDivisor 44 = .ok (.lload 4, 2) := by decide +kernel
theorem dX6_commonDivisor_46 : decode cX6_commonDivisor 46 = .ok (.lreturn, 1) := by decide +kernel
