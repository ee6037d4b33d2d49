theorem dJ6_bitCount_0f7a4_0 : decode cJ6_bitCount_0f7a4 0 = .ok (.iload_n 0, 1) := by decide +kernel
theorem dJ6_bitCount_0f7a4_1 : decode cJ6_bitCount_0f7a4 1 = .ok (.iload_n 0, 1) := by decide +kernel
theorem dJ6_bitCount_0f7a4_2 : decode cJ6_bitCount_0f7a4 2 = .ok (.iconst 1, 1) := by decide +kernel
theorem dJ6_bitCount_0f7a4_3 : decode cJ6_bitCount_0f7a4 3 = .ok (.iushr, 1) := by decide +kernel
theorem dJ6_bitCount_0f7a4_4 : decode cJ6_bitCount_0f7a4 4 = .ok (.ldc_w 265, 3) := by decide +kernel
theorem dJ6_bitCount_0f7a4_7 : decode cJ6_bitCount_0f7a4 7 = .ok (.iand, 1) := by decide +kernel
theorem dJ6_bitCount_0f7a4_8 : decode cJ6_bitCount_0f7a4 8 = .ok (.isub, 1) := by decide +kernel
theorem dJ6_bitCount_0f7a4_9 : decode cJ6_bitCount_0f7a4 9 = .ok (.istore_n 0, 1) := by decide +kernel
theorem dJ6_bitCount_0f7a4_10 : decode cJ6_bitCount_0f7a4 10 = .ok (.iload_n 0, 1) := by decide +kernel
theorem dJ6_bitCount_0f7a4_11 : decode cJ6_bitCount_0f7a4 11 = .ok (.ldc_w 266, 3) := by decide +kernel
theorem dJ6_bitCount_0f7a4_14 : decode cJ6_bitCount_0f7a4 14 = .ok (.iand, 1) := by decide +kernel
theorem dJ6_bitCount_0f7a4_15 : decode cJ6_bitCount_0f7a4 15 = .ok (.iload_n 0, 1) := by decide +kernel
theorem dJ6_bitCount_0f7a4_16 : decode cJ6_bitCount_0f7a4 16 = .ok (.iconst 2, 1) := by decide +kernel
theorem dJ6_bitCount_0f7a4_17 : decode cJ6_bitCount_0f7a4 17 = .ok (.iushr, 1) := by decide +kernel
theorem dJ6_bitCount_0f7a4_18 : decode cJ6_bitCount_0f7a4 18 = .ok (.ldc_w 266, 3) := by decide +kernel
theorem dJ6_bitCount_0f7a4_21 : decode cJ6_bitCount_0f7a4 21 = .ok (.iand, 1) := by decide +kernel
theorem dJ6_bitCount_0f7a4_22 : decode cJ6_bitCount_0f7a4 22 = .ok (.iadd, 1) := by decide +kernel
theorem dJ6_bitCount_0f7a4_23 : decode cJ6_bitCount_0f7a4 23 = .ok (.istore_n 0, 1) := by decide +kernel
theorem dJ6_bitCount_0f7a4_24 : decode cJ6_bitCount_0f7a4 24 = .ok (.iload_n 0, 1) := by decide +kernel
theorem dJ6_bitCount_0f7a4_25 : decode cJ6_bitCount_0f7a4 25 = .ok (.iload_n 0, 1) := by decide +kernel
theorem dJ6_bitCount_0f7a4_26 : decode cJ6_bitCount_0f7a4 26 = .ok (.iconst 4, 1) := by decide +kernel
theorem dJ6_bitCount_0f7a4_27 : decode cJ6_bitCount_0f7a4 27 = .ok (.iushr, 1) := by decide +kernel
theorem dJ6_bitCount_0f7a4_28 : decode cJ6_bitCount_0f7a4 28 = .ok (.iadd, 1) := by decide +kernel
theorem dJ6_bitCount_0f7a4_29 : decode cJ6_bitCount_0f7a4 29 = .ok (.ldc_w 267, 3) := by decide +kernel
theorem dJ6_bitCount_0f7a4_32 : decode cJ6_bitCount_0f7a4 32 = .ok (.iand, 1) := by decide +kernel
theorem dJ6_bitCount_0f7a4_33 : decode cJ6_bitCount_0f7a4 33 = .ok (.istore_n 0, 1) := by decide +kernel
theorem dJ6_bitCount_0f7a4_34 : decode cJ6_bitCount_0f7a4 34 = .ok (.iload_n 0, 1) := by decide +kernel
theorem dJ6_bitCount_0f7a4_35 : decode cJ6_bitCount_0f7a4 35 = .ok (.iload_n 0, 1) := by decide +kernel
theorem dJ6_bitCount_0f7a4_36 : decode cJ6_bitCount_0f7a4 36 = .ok (.bipush 8, 2) := by decide +kernel
theorem dJ6_bitCount_0f7a4_38 : decode cJ6_bitCount_0f7a4 38 = .ok (.iushr, 1) := by decide +kernel
theorem dJ6_bitCount_0f7a4_39 : decode cJ6_bitCount_0f7a4 39 = .ok (.iadd, 1) := by decide +kernel
theorem dJ6_bitCount_0f7a4_40 : decode cJ6_bitCount_0f7a4 40 = .ok (.istore_n 0, 1) := by decide +kernel
theorem dJ6_bitCount_0f7a4_41 : decode cJ6_bitCount_0f7a4 41 = .ok (.iload_n 0, 1) := by decide +kernel
theorem dJ6_bitCount_0f7a4_42 : decode cJ6_bitCount_0f7a4 42 = .ok (.iload_n 0, 1) := by decide +kernel
theorem dJ6_bitCount_0f7a4_43 : decode cJ6_bitCount_0f7a4 43 = .ok (.bipush 16, 2) := by decide +kernel
theorem dJ6_bitCount_0f7a4_45 : decode cJ6_bitCount_0f7a4 45 = .ok (.iushr, 1) := by decide +kernel
theorem dJ6_bitCount_0f7a4_46 : decode cJ6_bitCount_0f7a4 46 = .ok (.iadd, 1) := by decide +kernel
theorem dJ6_bitCount_0f7a4_47 : decode cJ6_bitCount_0f7a4 47 = .ok (.istore_n 0, 1) := by decide +kernel
theorem dJ6_bitCount_0f7a4_48 : decode cJ6_bitCount_0f7a4 48 = .ok (.iload_n 0, 1) := by decide +kernel
theorem dJ6_bitCount_0f7a4_49 : decode cJ6_bitCount_0f7a4 49 = .ok (.bipush 63, 2) := by decide +kernel
theorem dJ6_bitCount_0f7a4_51 : decode cJ6_bitCount_0f7a4 51 = .ok (.iand, 1) := by decide +kernel
theorem dJ6_bitCount_0f7a4_52 : decode cJ6_bitCount_0f7a4 52 = .ok (.ireturn, 1) := by decide +kernel
theorem dX0_allThatAre_0 : decode cX0_allThatAre 0 = .ok (.iconst 0, 1) := by decide +kernel
theorem dX0_allThatAre_1 : decode cX0_allThatAre 1 = .ok (.istore_n 2, 1) := by decide +kernel
theorem dX0_allThatAre_2 : decode cX0_allThatAre 2 = .ok (.iconst 0, 1) := by decide +kernel
theorem dX0_allThatAre_3 : decode cX0_allThatAre 3 = .ok (.istore_n 3, 1) := by decide +kernel
theorem dX0_allThatAre_4 : decode cX0_allThatAre 4 = .ok (.iload_n 3, 1) := by decide +kernel
theorem dX0_allThatAre_5 : decode cX0_allThatAre 5 = .ok (.aload_n 0, 1) := by decide +kernel
theorem dX0_allThatAre_6 : decode cX0_allThatAre 6 = .ok (.getfield 15, 3) := by decide +kernel
theorem dX0_allThatAre_9 : decode cX0_allThatAre 9 = .ok (.getfield 25, 3) := by decide +kernel
theorem dX0_allThatAre_12 : decode cX0_allThatAre 12 = .ok (.if_icmp .ge 31, 3) := by decide +kernel
theorem dX0_allThatAre_43 : decode cX0_allThatAre 43 = .ok (.iload_n 2, 1) := by decide +kernel
theorem dX0_allThatAre_44 : decode cX0_allThatAre 44 = .ok (.ireturn, 1) := by decide +kernel
theorem dX0_barOf_0 : decode cX0_barOf 0 = .ok (.iload_n 1, 1) := by decide +kernel
theorem dX0_barOf_1 : decode cX0_barOf 1 = .ok (.iconst 2, 1) := by decide +kernel
theorem dX0_barOf_2 : decode cX0_barOf 2 = .ok (.if_icmp .ne 9, 3) := by decide +kernel
theorem dX0_barOf_5 : decode cX0_barOf 5 = .ok (.aload_n 0, 1) := by decide +kernel
theorem dX0_barOf_6 : decode cX0_barOf 6 = .ok (.iload_n 2, 1) := by decide +kernel
theorem dX0_barOf_7 : decode cX0_barOf 7 = .ok (.invokevirtual 147, 3) := by decide +kernel
theorem dX0_barOf_10 : decode cX0_barOf 10 = .ok (.ireturn, 1) := by decide +kernel
theorem dX0_barOf_11 : decode cX0_barOf 11 = .ok (.aload_n 0, 1) := by decide +kernel
theorem dX0_barOf_12 : decode cX0_barOf 12 = .ok (.getfield 15, 3) := by decide +kernel
theorem dX0_barOf_15 : decode cX0_barOf 15 = .ok (.iload_n 2, 1) := by decide +kernel
theorem dX0_barOf_16 : decode cX0_barOf 16 = .ok (.invokevirtual 150, 3) := by decide +kernel
theorem dX0_barOf_19 : decode cX0_barOf 19 = .ok (.ifCond .ne 5, 3) := by decide +kernel
theorem dX0_barOf_22 : decode cX0_barOf 22 = .ok (.iconst 0, 1) := by decide +kernel
theorem dX0_barOf_23 : decode cX0_barOf 23 = .ok (.ireturn, 1) := by decide +kernel
theorem dX0_barOfTicks_0 : decode cX0_barOfTicks 0 = .ok (.aload_n 0, 1) := by decide +kernel
theorem dX0_barOfTicks_1 : decode cX0_barOfTicks 1 = .ok (.getfield 15, 3) := by decide +kernel
theorem dX0_barOfTicks_4 : decode cX0_barOfTicks 4 = .ok (.invokevirtual 163, 3) := by decide +kernel
theorem dX0_barOfTicks_7 : decode cX0_barOfTicks 7 = .ok (.ifCond .ne 5, 3) := by decide +kernel
theorem dX0_barOfTicks_10 : decode cX0_barOfTicks 10 = .ok (.iconst 0, 1) := by decide +kernel
theorem dX0_barOfTicks_11 : decode cX0_barOfTicks 11 = .ok (.ireturn, 1) := by decide +kernel
theorem dX0_withAddress_0 : decode cX0_withAddress 0 = .ok (.iconst 0, 1) := by decide +kernel
theorem dX0_withAddress_1 : decode cX0_withAddress 1 = .ok (.istore_n 2, 1) := by decide +kernel
theorem dX0_withAddress_2 : decode cX0_withAddress 2 = .ok (.iload_n 2, 1) := by decide +kernel
theorem dX0_withAddress_3 : decode cX0_withAddress 3 = .ok (.aload_n 0, 1) := by decide +kernel
theorem dX0_withAddress_4 : decode cX0_withAddress 4 = .ok (.getfield 15, 3) := by decide +kernel
theorem dX0_withAddress_7 : decode cX0_withAddress 7 = .ok (.getfield 25, 3) := by decide +kernel
theorem dX0_withAddress_10 : decode cX0_withAddress 10 = .ok (.if_icmp .ge 24, 3) := by decide +kernel
theorem dX0_withAddress_34 : decode cX0_withAddress 34 = .ok (.iconst (-1), 1) := by decide +kernel
theorem dX0_withAddress_35 : decode cX0_withAddress 35 = .ok (.ireturn, 1) := by decide +kernel
theorem dX1_shown_0 : decode cX1_shown 0 = .ok (.aload_n 0, 1) := by decide +kernel
theorem dX1_shown_1 : decode cX1_shown 1 = .ok (.getfield 15, 3) := by decide +kernel
theorem dX1_shown_4 : decode cX1_shown 4 = .ok (.bipush 60, 2) := by decide +kernel
theorem dX1_shown_6 : decode cX1_shown 6 = .ok (.invokestatic 19, 3) := by decide +kernel
theorem dX1_shown_9 : decode cX1_shown 9 = .ok (.ireturn, 1) := by decide +kernel
theorem dX5_has_0 : decode cX5_has 0 = .ok (.iload_n 1, 1) := by decide +kernel
theorem dX5_has_1 : decode cX5_has 1 = .ok (.ifCond .lt 15, 3) := by decide +kernel
theorem dX5_has_4 : decode cX5_has 4 = .ok (.iload_n 1, 1) := by decide +kernel
theorem dX5_has_5 : decode cX5_has 5 = .ok (.aload_n 0, 1) := by decide +kernel
theorem dX5_has_6 : decode cX5_has 6 = .ok (.getfield 18, 3) := by decide +kernel
theorem dX5_has_9 : decode cX5_has 9 = .ok (.if_icmp .ge 7, 3) := by decide +kernel
theorem dX5_has_16 : decode cX5_has 16 = .ok (.iconst 0, 1) := by decide +kernel
theorem dX5_has_17 : decode cX5_has 17 = .ok (.ireturn, 1) := by decide +kernel
theorem dX5_hasPort_0 : decode cX5_hasPort 0 = .ok (.iload_n 2, 1) := by decide +kernel
theorem dX5_hasPort_1 : decode cX5_hasPort 1 = .ok (.ifCond .lt 16, 3) := by decide +kernel
theorem dX5_hasPort_4 : decode cX5_hasPort 4 = .ok (.iload_n 2, 1) := by decide +kernel
theorem dX5_hasPort_5 : decode cX5_hasPort 5 = .ok (.aload_n 0, 1) := by decide +kernel
theorem dX5_hasPort_6 : decode cX5_hasPort 6 = .ok (.iload_n 1, 1) := by decide +kernel
theorem dX5_hasPort_7 : decode cX5_hasPort 7 = .ok (.invokevirtual 34, 3) := by decide +kernel
theorem dX5_hasPort_10 : decode cX5_hasPort 10 = .ok (.if_icmp .ge 7, 3) := by decide +kernel
theorem dX5_hasPort_17 : decode cX5_hasPort 17 = .ok (.iconst 0, 1) := by decide +kernel
theorem dX5_hasPort_18 : decode cX5_hasPort 18 = .ok (.ireturn, 1) := by decide +kernel
theorem dX5_isHub_0 : decode cX5_isHub 0 = .ok (.aload_n 0, 1) := by decide +kernel
theorem dX5_isHub_1 : decode cX5_isHub 1 = .ok (.iload_n 1, 1) := by decide +kernel
theorem dX5_isHub_2 : decode cX5_isHub 2 = .ok (.invokevirtual 34, 3) := by decide +kernel
theorem dX5_isHub_5 : decode cX5_isHub 5 = .ok (.ifCond .le 7, 3) := by decide +kernel
theorem dX5_isHub_12 : decode cX5_isHub 12 = .ok (.iconst 0, 1) := by decide +kernel
theorem dX5_isHub_13 : decode cX5_isHub 13 = .ok (.ireturn, 1) := by decide +kernel
theorem dX5_isTold_0 : decode cX5_isTold 0 = .ok (.aload_n 0, 1) := by decide +kernel
theorem dX5_isTold_1 : decode cX5_isTold 1 = .ok (.getfield 18, 3) := by decide +kernel
theorem dX5_isTold_4 : decode cX5_isTold 4 = .ok (.ifCond .le 7, 3) := by decide +kernel
theorem dX5_isTold_11 : decode cX5_isTold 11 = .ok (.iconst 0, 1) := by decide +kernel
theorem dX5_isTold_12 : decode cX5_isTold 12 = .ok (.ireturn, 1) := by decide +kernel
theorem dX5_portsOf_0 : decode cX5_portsOf 0 = .ok (.iload_n 1, 1) := by decide +kernel
theorem dX5_portsOf_1 : decode cX5_portsOf 1 = .ok (.bipush 8, 2) := by decide +kernel
theorem dX5_portsOf_3 : decode cX5_portsOf 3 = .ok (.if_icmp .ne 17, 3) := by decide +kernel
theorem dX5_portsOf_6 : decode cX5_portsOf 6 = .ok (.aload_n 0, 1) := by decide +kernel
theorem dX5_portsOf_7 : decode cX5_portsOf 7 = .ok (.getfield 18, 3) := by decide +kernel
theorem dX5_portsOf_10 : decode cX5_portsOf 10 = .ok (.ifCond .le 10, 3) := by decide +kernel
theorem dX5_portsOf_20 : decode cX5_portsOf 20 = .ok (.iload_n 1, 1) := by decide +kernel
theorem dX5_portsOf_21 : decode cX5_portsOf 21 = .ok (.ifCond .lt 22, 3) := by decide +kernel
theorem dX5_portsOf_24 : decode cX5_portsOf 24 = .ok (.iload_n 1, 1) := by decide +kernel
theorem dX5_portsOf_25 : decode cX5_portsOf 25 = .ok (.aload_n 0, 1) := by decide +kernel
theorem dX5_portsOf_26 : decode cX5_portsOf 26 = .ok (.getfield 18, 3) := by decide +kernel
theorem dX5_portsOf_29 : decode cX5_portsOf 29 = .ok (.if_icmp .ge 14, 3) := by decide +kernel
theorem dX5_portsOf_43 : decode cX5_portsOf 43 = .ok (.iconst 0, 1) := by decide +kernel
theorem dX5_portsOf_44 : decode cX5_portsOf 44 = .ok (.ireturn, 1) := by decide +kernel
theorem dX7_has_0 : decode cX7_has 0 = .ok (.iload_n 1, 1) := by decide +kernel
theorem dX7_has_1 : decode cX7_has 1 = .ok (.ifCond .lt 15, 3) := by decide +kernel
theorem dX7_has_4 : decode cX7_has 4 = .ok (.iload_n 1, 1) := by decide +kernel
theorem dX7_has_5 : decode cX7_has 5 = .ok (.aload_n 0, 1) := by decide +kernel
theorem dX7_has_6 : decode cX7_has 6 = .ok (.getfield 25, 3) := by decide +kernel
theorem dX7_has_9 : decode cX7_has 9 = .ok (.if_icmp .ge 7, 3) := by decide +kernel
theorem dX7_has_16 : decode cX7_has 16 = .ok (.iconst 0, 1) := by decide +kernel
theorem dX7_has_17 : decode cX7_has 17 = .ok (.ireturn, 1) := by decide +kernel
theorem dX9_ahead_0 : decode cX9_ahead 0 = .ok (.aload_n 0, 1) := by decide +kernel
theorem dX9_ahead_1 : decode cX9_ahead 1 = .ok (.getfield 32, 3) := by decide +kernel
theorem dX9_ahead_4 : decode cX9_ahead 4 = .ok (.invokevirtual 146, 3) := by decide +kernel
theorem dX9_ahead_7 : decode cX9_ahead 7 = .ok (.ifCond .eq 27, 3) := by decide +kernel
theorem dX9_ahead_34 : decode cX9_ahead 34 = .ok (.iconst 0, 1) := by decide +kernel
theorem dX9_ahead_35 : decode cX9_ahead 35 = .ok (.istore_n 3, 1) := by decide +kernel
theorem dX9_ahead_36 : decode cX9_ahead 36 = .ok (.iload_n 3, 1) := by decide +kernel
theorem dX9_ahead_37 : decode cX9_ahead 37 = .ok (.ifCond .eq 21, 3) := by decide +kernel
theorem dX9_ahead_58 : decode cX9_ahead 58 = .ok (.iconst (-1), 1) := by decide +kernel
theorem dX9_ahead_59 : decode cX9_ahead 59 = .ok (.ireturn, 1) := by decide +kernel
theorem dX9_all_0 : decode cX9_all 0 = .ok (.aload_n 0, 1) := by decide +kernel
theorem dX9_all_1 : decode cX9_all 1 = .ok (.getfield 32, 3) := by decide +kernel
theorem dX9_all_4 : decode cX9_all 4 = .ok (.invokevirtual 146, 3) := by decide +kernel
theorem dX9_all_7 : decode cX9_all 7 = .ok (.ifCond .ne 6, 3) := by decide +kernel
theorem dX9_all_10 : decode cX9_all 10 = .ok (.ldc 185, 2) := by decide +kernel
theorem dX9_all_12 : decode cX9_all 12 = .ok (.ireturn, 1) := by decide +kernel
theorem dX9_at_0 : decode cX9_at 0 = .ok (.iload_n 1, 1) := by decide +kernel
theorem dX9_at_1 : decode cX9_at 1 = .ok (.iconst 1, 1) := by decide +kernel
theorem dX9_at_2 : decode cX9_at 2 = .ok (.if_icmp .ge 7, 3) := by decide +kernel
theorem dX9_at_5 : decode cX9_at 5 = .ok (.iconst (-1), 1) := by decide +kernel
theorem dX9_at_6 : decode cX9_at 6 = .ok (.goto 11, 3) := by decide +kernel
theorem dX9_at_9 : decode cX9_at 9 = .ok (.aload_n 0, 1) := by decide +kernel
theorem dX9_at_10 : decode cX9_at 10 = .ok (.getfield 47, 3) := by decide +kernel
theorem dX9_at_13 : decode cX9_at 13 = .ok (.iload_n 1, 1) := by decide +kernel
theorem dX9_at_14 : decode cX9_at 14 = .ok (.invokevirtual 221, 3) := by decide +kernel
theorem dX9_at_17 : decode cX9_at 17 = .ok (.ireturn, 1) := by decide +kernel
theorem dX9_attempt_0 : decode cX9_attempt 0 = .ok (.aload_n 1, 1) := by decide +kernel
theorem dX9_attempt_1 : decode cX9_attempt 1 = .ok (.iload_n 3, 1) := by decide +kernel
theorem dX9_attempt_2 : decode cX9_attempt 2 = .ok (.iload 4, 2) := by decide +kernel
theorem dX9_attempt_4 : decode cX9_attempt 4 = .ok (.iload 5, 2) := by decide +kernel
theorem dX9_attempt_6 : decode cX9_attempt 6 = .ok (.iload 6, 2) := by decide +kernel
theorem dX9_attempt_8 : decode cX9_attempt 8 = .ok (.invokevirtual 319, 3) := by decide +kernel
theorem dX9_attempt_11 : decode cX9_attempt 11 = .ok (.istore 7, 2) := by decide +kernel
theorem dX9_attempt_13 : decode cX9_attempt 13 = .ok (.iload 7, 2) := by decide +kernel
theorem dX9_attempt_15 : decode cX9_attempt 15 = .ok (.iconst (-1), 1) := by decide +kernel
theorem dX9_attempt_16 : decode cX9_attempt 16 = .ok (.if_icmp .eq 6, 3) := by decide +kernel
theorem dX9_attempt_19 : decode cX9_attempt 19 = .ok (.iload 7, 2) := by decide +kernel
theorem dX9_attempt_21 : decode cX9_attempt 21 = .ok (.ireturn, 1) := by decide +kernel
theorem dX9_back_0 : decode cX9_back 0 = .ok (.aload_n 0, 1) := by decide +kernel
theorem dX9_back_1 : decode cX9_back 1 = .ok (.getfield 94, 3) := by decide +kernel
theorem dX9_back_4 : decode cX9_back 4 = .ok (.ifCond .ne 5, 3) := by decide +kernel
theorem dX9_back_7 : decode cX9_back 7 = .ok (.iconst (-1), 1) := by decide +kernel
theorem dX9_back_8 : decode cX9_back 8 = .ok (.ireturn, 1) := by decide +kernel
theorem dX9_helper_0 : decode cX9_helper 0 = .ok (.aload_n 0, 1) := by decide +kernel
theorem dX9_helper_1 : decode cX9_helper 1 = .ok (.getfield 32, 3) := by decide +kernel
theorem dX9_helper_4 : decode cX9_helper 4 = .ok (.iload_n 1, 1) := by decide +kernel
theorem dX9_helper_5 : decode cX9_helper 5 = .ok (.invokevirtual 153, 3) := by decide +kernel
theorem dX9_helper_8 : decode cX9_helper 8 = .ok (.ifCond .eq 32, 3) := by decide +kernel
theorem dX9_helper_40 : decode cX9_helper 40 = .ok (.iconst (-1), 1) := by decide +kernel
theorem dX9_helper_41 : decode cX9_helper 41 = .ok (.ireturn, 1) := by decide +kernel
theorem dX9_hub_0 : decode cX9_hub 0 = .ok (.aload_n 0, 1) := by decide +kernel
theorem dX9_hub_1 : decode cX9_hub 1 = .ok (.getfield 32, 3) := by decide +kernel
theorem dX9_hub_4 : decode cX9_hub 4 = .ok (.iload_n 1, 1) := by decide +kernel
theorem dX9_hub_5 : decode cX9_hub 5 = .ok (.invokevirtual 182, 3) := by decide +kernel
theorem dX9_hub_8 : decode cX9_hub 8 = .ok (.ifCond .ne 6, 3) := by decide +kernel
theorem dX9_hub_11 : decode cX9_hub 11 = .ok (.ldc 185, 2) := by decide +kernel
theorem dX9_hub_13 : decode cX9_hub 13 = .ok (.ireturn, 1) := by decide +kernel
theorem dX9_image_0 : decode cX9_image 0 = .ok (.aload_n 0, 1) := by decide +kernel
theorem dX9_image_1 : decode cX9_image 1 = .ok (.getfield 32, 3) := by decide +kernel
theorem dX9_image_4 : decode cX9_image 4 = .ok (.invokevirtual 146, 3) := by decide +kernel
theorem dX9_image_7 : decode cX9_image 7 = .ok (.ifCond .ne 5, 3) := by decide +kernel
theorem dX9_image_10 : decode cX9_image 10 = .ok (.iconst (-1), 1) := by decide +kernel
theorem dX9_image_11 : decode cX9_image 11 = .ok (.ireturn, 1) := by decide +kernel
theorem dX9_last_0 : decode cX9_last 0 = .ok (.aload_n 0, 1) := by decide +kernel
theorem dX9_last_1 : decode cX9_last 1 = .ok (.getfield 32, 3) := by decide +kernel
theorem dX9_last_4 : decode cX9_last 4 = .ok (.invokevirtual 146, 3) := by decide +kernel
theorem dX9_last_7 : decode cX9_last 7 = .ok (.ifCond .eq 13, 3) := by decide +kernel
theorem dX9_last_20 : decode cX9_last 20 = .ok (.iconst (-1), 1) := by decide +kernel
theorem dX9_last_21 : decode cX9_last 21 = .ok (.ireturn, 1) := by decide +kernel
theorem dX9_log_0 : decode cX9_log 0 = .ok (.iload_n 1, 1) := by decide +kernel
theorem dX9_log_1 : decode cX9_log 1 = .ok (.ifCond .lt 23, 3) := by decide +kernel
theorem dX9_log_4 : decode cX9_log 4 = .ok (.iload_n 1, 1) := by decide +kernel
theorem dX9_log_5 : decode cX9_log 5 = .ok (.aload_n 0, 1) := by decide +kernel
theorem dX9_log_6 : decode cX9_log 6 = .ok (.getfield 73, 3) := by decide +kernel
theorem dX9_log_9 : decode cX9_log 9 = .ok (.invokevirtual 255, 3) := by decide +kernel
theorem dX9_log_12 : decode cX9_log 12 = .ok (.if_icmp .ge 12, 3) := by decide +kernel
theorem dX9_log_24 : decode cX9_log 24 = .ok (.ldc 185, 2) := by decide +kernel
theorem dX9_log_26 : decode cX9_log 26 = .ok (.ireturn, 1) := by decide +kernel
theorem dX9_lost_0 : decode cX9_lost 0 = .ok (.aload_n 0, 1) := by decide +kernel
theorem dX9_lost_1 : decode cX9_lost 1 = .ok (.getfield 32, 3) := by decide +kernel
theorem dX9_lost_4 : decode cX9_lost 4 = .ok (.iload_n 1, 1) := by decide +kernel
theorem dX9_lost_5 : decode cX9_lost 5 = .ok (.invokevirtual 153, 3) := by decide +kernel
theorem dX9_lost_8 : decode cX9_lost 8 = .ok (.ifCond .eq 23, 3) := by decide +kernel
theorem dX9_lost_31 : decode cX9_lost 31 = .ok (.iconst 0, 1) := by decide +kernel
theorem dX9_lost_32 : decode cX9_lost 32 = .ok (.istore_n 2, 1) := by decide +kernel
theorem dX9_lost_33 : decode cX9_lost 33 = .ok (.iload_n 2, 1) := by decide +kernel
theorem dX9_lost_34 : decode cX9_lost 34 = .ok (.ifCond .eq 14, 3) := by decide +kernel
theorem dX9_lost_48 : decode cX9_lost 48 = .ok (.iconst (-1), 1) := by decide +kernel
theorem dX9_lost_49 : decode cX9_lost 49 = .ok (.ireturn, 1) := by decide +kernel
theorem dX9_octet_0 : decode cX9_octet 0 = .ok (.aload_n 0, 1) := by decide +kernel
theorem dX9_octet_1 : decode cX9_octet 1 = .ok (.getfield 32, 3) := by decide +kernel
theorem dX9_octet_4 : decode cX9_octet 4 = .ok (.iload_n 1, 1) := by decide +kernel
theorem dX9_octet_5 : decode cX9_octet 5 = .ok (.invokevirtual 153, 3) := by decide +kernel
theorem dX9_octet_8 : decode cX9_octet 8 = .ok (.ifCond .eq 31, 3) := by decide +kernel
theorem dX9_octet_39 : decode cX9_octet 39 = .ok (.iconst (-1), 1) := by decide +kernel
theorem dX9_octet_40 : decode cX9_octet 40 = .ok (.ireturn, 1) := by decide +kernel
theorem dX9_order_0 : decode cX9_order 0 = .ok (.aload_n 0, 1) := by decide +kernel
theorem dX9_order_1 : decode cX9_order 1 = .ok (.getfield 32, 3) := by decide +kernel
theorem dX9_order_4 : decode cX9_order 4 = .ok (.invokevirtual 146, 3) := by decide +kernel
theorem dX9_order_7 : decode cX9_order 7 = .ok (.ifCond .eq 24, 3) := by decide +kernel
theorem dX9_order_31 : decode cX9_order 31 = .ok (.iconst (-1), 1) := by decide +kernel
theorem dX9_order_32 : decode cX9_order 32 = .ok (.ireturn, 1) := by decide +kernel
theorem dX9_perform_0 : decode cX9_perform 0 = .ok (.aload_n 0, 1) := by decide +kernel
theorem dX9_perform_1 : decode cX9_perform 1 = .ok (.getfield 32, 3) := by decide +kernel
theorem dX9_perform_4 : decode cX9_perform 4 = .ok (.invokevirtual 146, 3) := by decide +kernel
theorem dX9_perform_7 : decode cX9_perform 7 = .ok (.ifCond .eq 27, 3) := by decide +kernel
theorem dX9_perform_34 : decode cX9_perform 34 = .ok (.iconst (-1), 1) := by decide +kernel
theorem dX9_perform_35 : decode cX9_perform 35 = .ok (.ireturn, 1) := by decide +kernel
theorem dX9_place_0 : decode cX9_place 0 = .ok (.aload_n 0, 1) := by decide +kernel
theorem dX9_place_1 : decode cX9_place 1 = .ok (.getfield 32, 3) := by decide +kernel
theorem dX9_place_4 : decode cX9_place 4 = .ok (.iload_n 1, 1) := by decide +kernel
theorem dX9_place_5 : decode cX9_place 5 = .ok (.invokevirtual 153, 3) := by decide +kernel
theorem dX9_place_8 : decode cX9_place 8 = .ok (.ifCond .eq 26, 3) := by decide +kernel
theorem dX9_place_34 : decode cX9_place 34 = .ok (.iconst (-1), 1) := by decide +kernel
theorem dX9_place_35 : decode cX9_place 35 = .ok (.ireturn, 1) := by decide +kernel
theorem dX9_port_0 : decode cX9_port 0 = .ok (.aload_n 0, 1) := by decide +kernel
theorem dX9_port_1 : decode cX9_port 1 = .ok (.getfield 32, 3) := by decide +kernel
theorem dX9_port_4 : decode cX9_port 4 = .ok (.iload_n 1, 1) := by decide +kernel
theorem dX9_port_5 : decode cX9_port 5 = .ok (.iload_n 2, 1) := by decide +kernel
theorem dX9_port_6 : decode cX9_port 6 = .ok (.invokevirtual 174, 3) := by decide +kernel
theorem dX9_port_9 : decode cX9_port 9 = .ok (.ifCond .eq 15, 3) := by decide +kernel
theorem dX9_port_24 : decode cX9_port 24 = .ok (.iconst (-1), 1) := by decide +kernel
theorem dX9_port_25 : decode cX9_port 25 = .ok (.ireturn, 1) := by decide +kernel
theorem dX9_rule_0 : decode cX9_rule 0 = .ok (.aload_n 0, 1) := by decide +kernel
theorem dX9_rule_1 : decode cX9_rule 1 = .ok (.getfield 32, 3) := by decide +kernel
theorem dX9_rule_4 : decode cX9_rule 4 = .ok (.invokevirtual 146, 3) := by decide +kernel
theorem dX9_rule_7 : decode cX9_rule 7 = .ok (.ifCond .eq 25, 3) := by decide +kernel
theorem dX9_rule_32 : decode cX9_rule 32 = .ok (.iconst (-1), 1) := by decide +kernel
theorem dX9_rule_33 : decode cX9_rule 33 = .ok (.ireturn, 1) := by decide +kernel
theorem dX9_run_0 : decode cX9_run 0 = .ok (.aload_n 0, 1) := by decide +kernel
theorem dX9_run_1 : decode cX9_run 1 = .ok (.getfield 32, 3) := by decide +kernel
theorem dX9_run_4 : decode cX9_run 4 = .ok (.invokevirtual 146, 3) := by decide +kernel
theorem dX9_run_7 : decode cX9_run 7 = .ok (.ifCond .eq 23, 3) := by decide +kernel
theorem dX9_run_30 : decode cX9_run 30 = .ok (.ldc 185, 2) := by decide +kernel
theorem dX9_run_32 : decode cX9_run 32 = .ok (.ireturn, 1) := by decide +kernel
theorem dX9_shares_0 : decode cX9_shares 0 = .ok (.aload_n 0, 1) := by decide +kernel
theorem dX9_shares_1 : decode cX9_shares 1 = .ok (.getfield 32, 3) := by decide +kernel
theorem dX9_shares_4 : decode cX9_shares 4 = .ok (.iload_n 1, 1) := by decide +kernel
theorem dX9_shares_5 : decode cX9_shares 5 = .ok (.invokevirtual 153, 3) := by decide +kernel
theorem dX9_shares_8 : decode cX9_shares 8 = .ok (.ifCond .eq 27, 3) := by decide +kernel
theorem dX9_shares_35 : decode cX9_shares 35 = .ok (.iconst (-1), 1) := by decide +kernel
theorem dX9_shares_36 : decode cX9_shares 36 = .ok (.ireturn, 1) := by decide +kernel
theorem dX9_step_0 : decode cX9_step 0 = .ok (.aload_n 0, 1) := by decide +kernel
theorem dX9_step_1 : decode cX9_step 1 = .ok (.getfield 38, 3) := by decide +kernel
theorem dX9_step_4 : decode cX9_step 4 = .ok (.iload_n 1, 1) := by decide +kernel
theorem dX9_step_5 : decode cX9_step 5 = .ok (.invokevirtual 279, 3) := by decide +kernel
theorem dX9_step_8 : decode cX9_step 8 = .ok (.ifCond .eq 29, 3) := by decide +kernel
theorem dX9_step_37 : decode cX9_step 37 = .ok (.ldc 185, 2) := by decide +kernel
theorem dX9_step_39 : decode cX9_step 39 = .ok (.ireturn, 1) := by decide +kernel
theorem dX9_told_0 : decode cX9_told 0 = .ok (.aload_n 0, 1) := by decide +kernel
theorem dX9_told_1 : decode cX9_told 1 = .ok (.getfield 32, 3) := by decide +kernel
theorem dX9_told_4 : decode cX9_told 4 = .ok (.iload_n 1, 1) := by decide +kernel
theorem dX9_told_5 : decode cX9_told 5 = .ok (.invokevirtual 153, 3) := by decide +kernel
theorem dX9_told_8 : decode cX9_told 8 = .ok (.ifCond .eq 13, 3) := by decide +kernel
theorem dX9_told_21 : decode cX9_told 21 = .ok (.iconst (-1), 1) := by decide +kernel
theorem dX9_told_22 : decode cX9_told 22 = .ok (.ireturn, 1) := by decide +kernel
theorem dX9_undo_0 : decode cX9_undo 0 = .ok (.aload_n 0, 1) := by decide +kernel
theorem dX9_undo_1 : decode cX9_undo 1 = .ok (.getfield 66, 3) := by decide +kernel
theorem dX9_undo_4 : decode cX9_undo 4 = .ok (.getfield 247, 3) := by decide +kernel
theorem dX9_undo_7 : decode cX9_undo 7 = .ok (.ifCond .ne 5, 3) := by decide +kernel
theorem dX9_undo_10 : decode cX9_undo 10 = .ok (.iconst (-1), 1) := by decide +kernel
theorem dX9_undo_11 : decode cX9_undo 11 = .ok (.ireturn, 1) := by decide +kernel
theorem dX9_when_0 : decode cX9_when 0 = .ok (.aload_n 0, 1) := by decide +kernel
theorem dX9_when_1 : decode cX9_when 1 = .ok (.getfield 32, 3) := by decide +kernel
theorem dX9_when_4 : decode cX9_when 4 = .ok (.iload_n 1, 1) := by decide +kernel
theorem dX9_when_5 : decode cX9_when 5 = .ok (.invokevirtual 153, 3) := by decide +kernel
theorem dX9_when_8 : decode cX9_when 8 = .ok (.ifCond .eq 26, 3) := by decide +kernel
theorem dX9_when_34 : decode cX9_when 34 = .ok (.iconst (-1), 1) := by decide +kernel
theorem dX9_when_35 : decode cX9_when 35 = .ok (.ireturn, 1) := by decide +kernel
theorem dX9_years_0 : decode cX9_years 0 = .ok (.aload_n 0, 1) := by decide +kernel
theorem dX9_years_1 : decode cX9_years 1 = .ok (.getfield 32, 3) := by decide +kernel
theorem dX9_years_4 : decode cX9_years 4 = .ok (.invokevirtual 146, 3) := by decide +kernel
theorem dX9_years_7 : decode cX9_years 7 = .ok (.ifCond .eq 14, 3) := by decide +kernel
theorem dX9_years_21 : decode cX9_years 21 = .ok (.iconst (-1), 1) := by decide +kernel
theorem dX9_years_22 : decode cX9_years 22 = .ok (.ireturn, 1) := by decide +kernel
def wq_X5_isTold : List Cond := .code yX5_isTold cX5_isTold 1 (some .boolean) :: ([.fieldLink RX5 18 "HubTree$Plan" "devices" "I"] ++ wsX50)
theorem iq_X5_isTold_5 : ∀ w ∈ wsX50, w ∈ wq_X5_isTold := fun _ h => List.mem_cons_of_mem _ (List.mem_append_right _ h)
set_option maxHeartbeats 4000000 in
set_option maxRecDepth 100000 in
/-- no TREE: not told -/
theorem c_X5_isTold (l : Launch) (dC : Nat → ClassId) (dI : Nat → Nat → Nat) (h : Nat) (r1 : Nat) (r2 : Nat) : Met l yX5_isTold wq_X5_isTold ({ frames := 0, cells := 0, slots := 0, locals := 0 }) (va_Pc [.ref h] (q_R (dC, dI) [(h, .inr (5, [.ref r1, .ref r2, .int 0]))] [])) (q_i (0)) 0 0 (fun _ => False) := by
  refine Met.ofW (cc := cX5_isTold) (maxL := 1) (ret := (some .boolean)) (by decide) rfl ?_
  intro p e s m args below meth c s₁ B hml hv
  obtain ⟨rfl, hP, hK⟩ := hv
  have hx := B.exec
  have hb := B.bytes
  have hr := B.returns
  have hts := atoms_spec (ws := wq_X5_isTold) B.pre
  have hown : s.vm.findClass RX5 = some m.cls := findClass_of_methodNamed B.named
  have hlocks := B.notSynchronized
  have hS : va_S (fun _ => False) s.heap s.heap [] := va_S.rf
  have hl := lv_entry ([.ref h]) (n := 1) (Nat.le_of_ble_eq_true rfl)
  rw [lg_entry_eq]
  generalize (lg_sl ([.ref h]) ++ List.replicate (1 - (lg_sl ([.ref h])).length) Slot.unset).toArray = ls at hl ⊢
  have hl : lv_has ls 1 [(0, .ref h)] := hl
  refine lv_aload_n hx hb dX5_isTold_0 rfl (lv_at hl 0 rfl) ?_
  refine va_get (D := (dC, dI)) (ci := 5) (v := .int 0) (C := RX5) (T := TX5) (N := 3) hx hb hts iq_X5_isTold_5 hown hK hP 0 rfl rfl 2 (by decide) (hts (.fieldLink RX5 18 "HubTree$Plan" "devices" "I") (List.mem_of_getElem? (i := 1) rfl)) (fun _ h9 => h9) rfl dX5_isTold_1 ?_
  refine lv_if_le (tgt := 11) hx hb dX5_isTold_4 (by decide) (fun c_1 => ?_) (fun c_1 => ?_)
  · skip
    refine lv_iconst (v := 0) hx hb dX5_isTold_11 (by decide) ?_
    exact W.zret (v := 0) hx hb hr rfl (fun t ht hW => ⟨⟨0, (), rfl, rfl, trivial⟩, hS.F ht⟩) hS.2.2 dX5_isTold_12
  · exact absurd (by decide) c_1

def wq_X5_has : List Cond := .code yX5_has cX5_has 2 (some .boolean) :: ([.fieldLink RX5 18 "HubTree$Plan" "devices" "I"] ++ wsX50)
theorem iq_X5_has_5 : ∀ w ∈ wsX50, w ∈ wq_X5_has := fun _ h => List.mem_cons_of_mem _ (List.mem_append_right _ h)
set_option maxHeartbeats 4000000 in
set_option maxRecDepth 100000 in
theorem c_X5_has (l : Launch) (dC : Nat → ClassId) (dI : Nat → Nat → Nat) (h : Nat) (r1 : Nat) (r2 : Nat) (d : Int32) : Met l yX5_has wq_X5_has ({ frames := 0, cells := 0, slots := 0, locals := 0 }) (va_Pc [.ref h, .int d] (q_R (dC, dI) [(h, .inr (5, [.ref r1, .ref r2, .int 0]))] [])) (q_i (0)) 0 0 (fun _ => False) := by
  refine Met.ofW (cc := cX5_has) (maxL := 2) (ret := (some .boolean)) (by decide) rfl ?_
  intro p e s m args below meth c s₁ B hml hv
  obtain ⟨rfl, hP, hK⟩ := hv
  have hx := B.exec
  have hb := B.bytes
  have hr := B.returns
  have hts := atoms_spec (ws := wq_X5_has) B.pre
  have hown : s.vm.findClass RX5 = some m.cls := findClass_of_methodNamed B.named
  have hlocks := B.notSynchronized
  have hS : va_S (fun _ => False) s.heap s.heap [] := va_S.rf
  have hl := lv_entry ([.ref h, .int d]) (n := 2) (Nat.le_of_ble_eq_true rfl)
  rw [lg_entry_eq]
  generalize (lg_sl ([.ref h, .int d]) ++ List.replicate (2 - (lg_sl ([.ref h, .int d])).length) Slot.unset).toArray = ls at hl ⊢
  have hl : lv_has ls 2 [(0, .ref h), (1, .int d)] := hl
  refine lv_iload_n hx hb dX5_has_0 rfl (lv_at hl 1 rfl) ?_
  refine lv_if_lt (tgt := 16) hx hb dX5_has_1 (by decide) (fun c_1 => ?_) (fun c_1 => ?_)
  · skip
    refine lv_iconst (v := 0) hx hb dX5_has_16 (by decide) ?_
    exact W.zret (v := 0) hx hb hr rfl (fun t ht hW => ⟨⟨0, (), rfl, rfl, trivial⟩, hS.F ht⟩) hS.2.2 dX5_has_17
  · skip
    refine lv_iload_n hx hb dX5_has_4 rfl (lv_at hl 1 rfl) ?_
    refine lv_aload_n hx hb dX5_has_5 rfl (lv_at hl 0 rfl) ?_
    refine va_get (D := (dC, dI)) (ci := 5) (v := .int 0) (C := RX5) (T := TX5) (N := 3) hx hb hts iq_X5_has_5 hown hK hP 0 rfl rfl 2 (by decide) (hts (.fieldLink RX5 18 "HubTree$Plan" "devices" "I") (List.mem_of_getElem? (i := 1) rfl)) (fun _ h9 => h9) rfl dX5_has_6 ?_
    refine lv_icmp_ge (tgt := 16) hx hb dX5_has_9 (by decide) (fun c_2 => ?_) (fun c_2 => ?_)
    · skip
      refine lv_iconst (v := 0) hx hb dX5_has_16 (by decide) ?_
      exact W.zret (v := 0) hx hb hr rfl (fun t ht hW => ⟨⟨0, (), rfl, rfl, trivial⟩, hS.F ht⟩) hS.2.2 dX5_has_17
    · exfalso; have := (show ((0 : Int32)).toInt = 0 from (by decide)); simp only [q_lt, q_le, q_eq] at c_1 c_2; omega

def wq_X5_portsOf : List Cond := .code yX5_portsOf cX5_portsOf 2 (some .int) :: ([.fieldLink RX5 18 "HubTree$Plan" "devices" "I"] ++ wsX50)
theorem iq_X5_portsOf_5 : ∀ w ∈ wsX50, w ∈ wq_X5_portsOf := fun _ h => List.mem_cons_of_mem _ (List.mem_append_right _ h)
set_option maxHeartbeats 4000000 in
set_option maxRecDepth 100000 in
theorem c_X5_portsOf (l : Launch) (dC : Nat → ClassId) (dI : Nat → Nat → Nat) (h : Nat) (r1 : Nat) (r2 : Nat) (d : Int32) : Met l yX5_portsOf wq_X5_portsOf ({ frames := 0, cells := 0, slots := 0, locals := 0 }) (va_Pc [.ref h, .int d] (q_R (dC, dI) [(h, .inr (5, [.ref r1, .ref r2, .int 0]))] [])) (q_i (0)) 0 0 (fun _ => False) := by
  refine Met.ofW (cc := cX5_portsOf) (maxL := 2) (ret := (some .int)) (by decide) rfl ?_
  intro p e s m args below meth c s₁ B hml hv
  obtain ⟨rfl, hP, hK⟩ := hv
  have hx := B.exec
  have hb := B.bytes
  have hr := B.returns
  have hts := atoms_spec (ws := wq_X5_portsOf) B.pre
  have hown : s.vm.findClass RX5 = some m.cls := findClass_of_methodNamed B.named
  have hlocks := B.notSynchronized
  have hS : va_S (fun _ => False) s.heap s.heap [] := va_S.rf
  have hl := lv_entry ([.ref h, .int d]) (n := 2) (Nat.le_of_ble_eq_true rfl)
  rw [lg_entry_eq]
  generalize (lg_sl ([.ref h, .int d]) ++ List.replicate (2 - (lg_sl ([.ref h, .int d])).length) Slot.unset).toArray = ls at hl ⊢
  have hl : lv_has ls 2 [(0, .ref h), (1, .int d)] := hl
  refine lv_iload_n hx hb dX5_portsOf_0 rfl (lv_at hl 1 rfl) ?_
  refine lv_bipush (v := 8) hx hb dX5_portsOf_1 (by decide) ?_
  refine lv_icmp_ne (tgt := 20) hx hb dX5_portsOf_3 (by decide) (fun c_1 => ?_) (fun c_1 => ?_)
  · skip
    refine lv_iload_n hx hb dX5_portsOf_20 rfl (lv_at hl 1 rfl) ?_
    refine lv_if_lt (tgt := 43) hx hb dX5_portsOf_21 (by decide) (fun c_2 => ?_) (fun c_2 => ?_)
    · skip
      refine lv_iconst (v := 0) hx hb dX5_portsOf_43 (by decide) ?_
      exact W.iret (v := 0) hx hb hr (fun t ht hW => ⟨⟨0, (), rfl, rfl, trivial⟩, hS.F ht⟩) hS.2.2 dX5_portsOf_44
    · skip
      refine lv_iload_n hx hb dX5_portsOf_24 rfl (lv_at hl 1 rfl) ?_
      refine lv_aload_n hx hb dX5_portsOf_25 rfl (lv_at hl 0 rfl) ?_
      refine va_get (D := (dC, dI)) (ci := 5) (v := .int 0) (C := RX5) (T := TX5) (N := 3) hx hb hts iq_X5_portsOf_5 hown hK hP 0 rfl rfl 2 (by decide) (hts (.fieldLink RX5 18 "HubTree$Plan" "devices" "I") (List.mem_of_getElem? (i := 1) rfl)) (fun _ h9 => h9) rfl dX5_portsOf_26 ?_
      refine lv_icmp_ge (tgt := 43) hx hb dX5_portsOf_29 (by decide) (fun c_3 => ?_) (fun c_3 => ?_)
      · skip
        refine lv_iconst (v := 0) hx hb dX5_portsOf_43 (by decide) ?_
        exact W.iret (v := 0) hx hb hr (fun t ht hW => ⟨⟨0, (), rfl, rfl, trivial⟩, hS.F ht⟩) hS.2.2 dX5_portsOf_44
      · exfalso; have := (show ((0 : Int32)).toInt = 0 from (by decide)); have := (show ((8 : Int32)).toInt = 8 from (by decide)); simp only [q_lt, q_le, q_eq] at c_1 c_2 c_3; omega
  · skip
    refine lv_aload_n hx hb dX5_portsOf_6 rfl (lv_at hl 0 rfl) ?_
    refine va_get (D := (dC, dI)) (ci := 5) (v := .int 0) (C := RX5) (T := TX5) (N := 3) hx hb hts iq_X5_portsOf_5 hown hK hP 0 rfl rfl 2 (by decide) (hts (.fieldLink RX5 18 "HubTree$Plan" "devices" "I") (List.mem_of_getElem? (i := 1) rfl)) (fun _ h9 => h9) rfl dX5_portsOf_7 ?_
    refine lv_if_le (tgt := 20) hx hb dX5_portsOf_10 (by decide) (fun c_4 => ?_) (fun c_4 => ?_)
    · skip
      refine lv_iload_n hx hb dX5_portsOf_20 rfl (lv_at hl 1 rfl) ?_
      refine lv_if_lt (tgt := 43) hx hb dX5_portsOf_21 (by decide) (fun c_5 => ?_) (fun c_5 => ?_)
      · exfalso; have := (show ((0 : Int32)).toInt = 0 from (by decide)); have := (show ((8 : Int32)).toInt = 8 from (by decide)); simp only [q_lt, q_le, q_eq] at c_1 c_5; omega
      · skip
        refine lv_iload_n hx hb dX5_portsOf_24 rfl (lv_at hl 1 rfl) ?_
        refine lv_aload_n hx hb dX5_portsOf_25 rfl (lv_at hl 0 rfl) ?_
        refine va_get (D := (dC, dI)) (ci := 5) (v := .int 0) (C := RX5) (T := TX5) (N := 3) hx hb hts iq_X5_portsOf_5 hown hK hP 0 rfl rfl 2 (by decide) (hts (.fieldLink RX5 18 "HubTree$Plan" "devices" "I") (List.mem_of_getElem? (i := 1) rfl)) (fun _ h9 => h9) rfl dX5_portsOf_26 ?_
        refine lv_icmp_ge (tgt := 43) hx hb dX5_portsOf_29 (by decide) (fun c_6 => ?_) (fun c_6 => ?_)
        · skip
          refine lv_iconst (v := 0) hx hb dX5_portsOf_43 (by decide) ?_
          exact W.iret (v := 0) hx hb hr (fun t ht hW => ⟨⟨0, (), rfl, rfl, trivial⟩, hS.F ht⟩) hS.2.2 dX5_portsOf_44
        · exfalso; have := (show ((0 : Int32)).toInt = 0 from (by decide)); have := (show ((8 : Int32)).toInt = 8 from (by decide)); simp only [q_lt, q_le, q_eq] at c_1 c_5 c_6; omega
    · exact absurd (by decide) c_4

def wq_X5_isHub : List Cond := .code yX5_isHub cX5_isHub 2 (some .boolean) :: ([.methodLink RX5 34 yX5_portsOf, .instanceMethod yX5_portsOf, .selects RX5 yX5_portsOf yX5_portsOf, .initialized RX5, .code yX5_portsOf cX5_portsOf 2 (some .int), .fieldLink RX5 18 "HubTree$Plan" "devices" "I"] ++ wsX50)
set_option maxRecDepth 20000 in
theorem g_X5_isHub_X5_portsOf_34 : GoodIn wq_X5_isHub (wsV RX5 34 RX5 yX5_portsOf wq_X5_portsOf) := goodIn_r _ [1, 2, 3, 4, 5, 6, 7, 8, 9] (by decide +kernel) (by decide +kernel)
theorem iq_X5_isHub_5 : ∀ w ∈ wsX50, w ∈ wq_X5_isHub := fun _ h => List.mem_cons_of_mem _ (List.mem_append_right _ h)
set_option maxHeartbeats 4000000 in
set_option maxRecDepth 100000 in
theorem c_X5_isHub (l : Launch) (dC : Nat → ClassId) (dI : Nat → Nat → Nat) (h : Nat) (r1 : Nat) (r2 : Nat) (d : Int32) : Met l yX5_isHub wq_X5_isHub ({ frames := 1, cells := 0, slots := 0, locals := 21 }) (va_Pc [.ref h, .int d] (q_R (dC, dI) [(h, .inr (5, [.ref r1, .ref r2, .int 0]))] [])) (q_i (0)) 0 0 (fun _ => False) := by
  refine Met.ofW (cc := cX5_isHub) (maxL := 2) (ret := (some .boolean)) (by decide) rfl ?_
  intro p e s m args below meth c s₁ B hml hv
  obtain ⟨rfl, hP, hK⟩ := hv
  have hx := B.exec
  have hb := B.bytes
  have hr := B.returns
  have hts := atoms_spec (ws := wq_X5_isHub) B.pre
  have hown : s.vm.findClass RX5 = some m.cls := findClass_of_methodNamed B.named
  have hlocks := B.notSynchronized
  have hS : va_S (fun _ => False) s.heap s.heap [] := va_S.rf
  have hl := lv_entry ([.ref h, .int d]) (n := 2) (Nat.le_of_ble_eq_true rfl)
  rw [lg_entry_eq]
  generalize (lg_sl ([.ref h, .int d]) ++ List.replicate (2 - (lg_sl ([.ref h, .int d])).length) Slot.unset).toArray = ls at hl ⊢
  have hl : lv_has ls 2 [(0, .ref h), (1, .int d)] := hl
  refine lv_aload_n hx hb dX5_isHub_0 rfl (lv_at hl 0 rfl) ?_
  refine lv_iload_n hx hb dX5_isHub_1 rfl (lv_at hl 1 rfl) ?_
  refine q_goi (v := 0) (va_runV (As := [.int d]) (rest := []) ⟨hx, hb, hml, hown, hts⟩ (c_X5_portsOf l dC dI h r1 r2 d) (cwV 1 hts g_X5_isHub_X5_portsOf_34 rfl rfl rfl (by decide +kernel) ⟨Nat.le_of_ble_eq_true rfl, Nat.le_of_ble_eq_true rfl⟩) (q_preV hK hP (ci := 5) (q0 := 0) rfl rfl [0] rfl [] rfl) rfl rfl hl.1 rfl (lv_room (Nat.le_of_ble_eq_true rfl)) dX5_isHub_2 ⟨Nat.le_of_ble_eq_true rfl, Nat.le_of_ble_eq_true rfl⟩) hP hS (fun H locs hP hS => ?_)
  refine lv_if_le (tgt := 12) hx hb dX5_isHub_5 (by decide) (fun c_1 => ?_) (fun c_1 => ?_)
  · skip
    refine lv_iconst (v := 0) hx hb dX5_isHub_12 (by decide) ?_
    exact W.zret (v := 0) hx hb hr rfl (fun t ht hW => ⟨⟨0, (), rfl, rfl, trivial⟩, hS.F ht⟩) hS.2.2 dX5_isHub_13
  · exact absurd (by decide) c_1

def wq_X5_hasPort : List Cond := .code yX5_hasPort cX5_hasPort 3 (some .boolean) :: ([.methodLink RX5 34 yX5_portsOf, .instanceMethod yX5_portsOf, .selects RX5 yX5_portsOf yX5_portsOf, .initialized RX5, .code yX5_portsOf cX5_portsOf 2 (some .int), .fieldLink RX5 18 "HubTree$Plan" "devices" "I"] ++ wsX50)
set_option maxRecDepth 20000 in
theorem g_X5_hasPort_X5_portsOf_34 : GoodIn wq_X5_hasPort (wsV RX5 34 RX5 yX5_portsOf wq_X5_portsOf) := goodIn_r _ [1, 2, 3, 4, 5, 6, 7, 8, 9] (by decide +kernel) (by decide +kernel)
theorem iq_X5_hasPort_5 : ∀ w ∈ wsX50, w ∈ wq_X5_hasPort := fun _ h => List.mem_cons_of_mem _ (List.mem_append_right _ h)
set_option maxHeartbeats 4000000 in
set_option maxRecDepth 100000 in
theorem c_X5_hasPort (l : Launch) (dC : Nat → ClassId) (dI : Nat → Nat → Nat) (h : Nat) (r1 : Nat) (r2 : Nat) (d : Int32) (j : Int32) : Met l yX5_hasPort wq_X5_hasPort ({ frames := 1, cells := 0, slots := 0, locals := 21 }) (va_Pc [.ref h, .int d, .int j] (q_R (dC, dI) [(h, .inr (5, [.ref r1, .ref r2, .int 0]))] [])) (q_i (0)) 0 0 (fun _ => False) := by
  refine Met.ofW (cc := cX5_hasPort) (maxL := 3) (ret := (some .boolean)) (by decide) rfl ?_
  intro p e s m args below meth c s₁ B hml hv
  obtain ⟨rfl, hP, hK⟩ := hv
  have hx := B.exec
  have hb := B.bytes
  have hr := B.returns
  have hts := atoms_spec (ws := wq_X5_hasPort) B.pre
  have hown : s.vm.findClass RX5 = some m.cls := findClass_of_methodNamed B.named
  have hlocks := B.notSynchronized
  have hS : va_S (fun _ => False) s.heap s.heap [] := va_S.rf
  have hl := lv_entry ([.ref h, .int d, .int j]) (n := 3) (Nat.le_of_ble_eq_true rfl)
  rw [lg_entry_eq]
  generalize (lg_sl ([.ref h, .int d, .int j]) ++ List.replicate (3 - (lg_sl ([.ref h, .int d, .int j])).length) Slot.unset).toArray = ls at hl ⊢
  have hl : lv_has ls 3 [(0, .ref h), (1, .int d), (2, .int j)] := hl
  refine lv_iload_n hx hb dX5_hasPort_0 rfl (lv_at hl 2 rfl) ?_
  refine lv_if_lt (tgt := 17) hx hb dX5_hasPort_1 (by decide) (fun c_1 => ?_) (fun c_1 => ?_)
  · skip
    refine lv_iconst (v := 0) hx hb dX5_hasPort_17 (by decide) ?_
    exact W.zret (v := 0) hx hb hr rfl (fun t ht hW => ⟨⟨0, (), rfl, rfl, trivial⟩, hS.F ht⟩) hS.2.2 dX5_hasPort_18
  · skip
    refine lv_iload_n hx hb dX5_hasPort_4 rfl (lv_at hl 2 rfl) ?_
    refine lv_aload_n hx hb dX5_hasPort_5 rfl (lv_at hl 0 rfl) ?_
    refine lv_iload_n hx hb dX5_hasPort_6 rfl (lv_at hl 1 rfl) ?_
    refine q_goi (v := 0) (va_runV (As := [.int d]) (rest := [.int j]) ⟨hx, hb, hml, hown, hts⟩ (c_X5_portsOf l dC dI h r1 r2 d) (cwV 1 hts g_X5_hasPort_X5_portsOf_34 rfl rfl rfl (by decide +kernel) ⟨Nat.le_of_ble_eq_true rfl, Nat.le_of_ble_eq_true rfl⟩) (q_preV hK hP (ci := 5) (q0 := 0) rfl rfl [0] rfl [] rfl) rfl rfl hl.1 rfl (lv_room (Nat.le_of_ble_eq_true rfl)) dX5_hasPort_7 ⟨Nat.le_of_ble_eq_true rfl, Nat.le_of_ble_eq_true rfl⟩) hP hS (fun H locs hP hS => ?_)
    refine lv_icmp_ge (tgt := 17) hx hb dX5_hasPort_10 (by decide) (fun c_2 => ?_) (fun c_2 => ?_)
    · skip
      refine lv_iconst (v := 0) hx hb dX5_hasPort_17 (by decide) ?_
      exact W.zret (v := 0) hx hb hr rfl (fun t ht hW => ⟨⟨0, (), rfl, rfl, trivial⟩, hS.F ht⟩) hS.2.2 dX5_hasPort_18
    · exfalso; have := (show ((0 : Int32)).toInt = 0 from (by decide)); simp only [q_lt, q_le, q_eq] at c_1 c_2; omega

def wq_X7_has : List Cond := .code yX7_has cX7_has 2 (some .boolean) :: ([.fieldLink RX7 25 "HubTree$Scripts" "held" "I"] ++ wsX70)
theorem iq_X7_has_7 : ∀ w ∈ wsX70, w ∈ wq_X7_has := fun _ h => List.mem_cons_of_mem _ (List.mem_append_right _ h)
set_option maxHeartbeats 4000000 in
set_option maxRecDepth 100000 in
theorem c_X7_has (l : Launch) (dC : Nat → ClassId) (dI : Nat → Nat → Nat) (h : Nat) (r1 : Nat) (r2 : Nat) (r3 : Nat) (d : Int32) : Met l yX7_has wq_X7_has ({ frames := 0, cells := 0, slots := 0, locals := 0 }) (va_Pc [.ref h, .int d] (q_R (dC, dI) [(h, .inr (7, [.ref r1, .ref r2, .ref r3, .int 0, .int 0]))] [])) (q_i (0)) 0 0 (fun _ => False) := by
  refine Met.ofW (cc := cX7_has) (maxL := 2) (ret := (some .boolean)) (by decide) rfl ?_
  intro p e s m args below meth c s₁ B hml hv
  obtain ⟨rfl, hP, hK⟩ := hv
  have hx := B.exec
  have hb := B.bytes
  have hr := B.returns
  have hts := atoms_spec (ws := wq_X7_has) B.pre
  have hown : s.vm.findClass RX7 = some m.cls := findClass_of_methodNamed B.named
  have hlocks := B.notSynchronized
  have hS : va_S (fun _ => False) s.heap s.heap [] := va_S.rf
  have hl := lv_entry ([.ref h, .int d]) (n := 2) (Nat.le_of_ble_eq_true rfl)
  rw [lg_entry_eq]
  generalize (lg_sl ([.ref h, .int d]) ++ List.replicate (2 - (lg_sl ([.ref h, .int d])).length) Slot.unset).toArray = ls at hl ⊢
  have hl : lv_has ls 2 [(0, .ref h), (1, .int d)] := hl
  refine lv_iload_n hx hb dX7_has_0 rfl (lv_at hl 1 rfl) ?_
  refine lv_if_lt (tgt := 16) hx hb dX7_has_1 (by decide) (fun c_1 => ?_) (fun c_1 => ?_)
  · skip
    refine lv_iconst (v := 0) hx hb dX7_has_16 (by decide) ?_
    exact W.zret (v := 0) hx hb hr rfl (fun t ht hW => ⟨⟨0, (), rfl, rfl, trivial⟩, hS.F ht⟩) hS.2.2 dX7_has_17
  · skip
    refine lv_iload_n hx hb dX7_has_4 rfl (lv_at hl 1 rfl) ?_
    refine lv_aload_n hx hb dX7_has_5 rfl (lv_at hl 0 rfl) ?_
    refine va_get (D := (dC, dI)) (ci := 7) (v := .int 0) (C := RX7) (T := TX7) (N := 5) hx hb hts iq_X7_has_7 hown hK hP 0 rfl rfl 4 (by decide) (hts (.fieldLink RX7 25 "HubTree$Scripts" "held" "I") (List.mem_of_getElem? (i := 1) rfl)) (fun _ h9 => h9) rfl dX7_has_6 ?_
    refine lv_icmp_ge (tgt := 16) hx hb dX7_has_9 (by decide) (fun c_2 => ?_) (fun c_2 => ?_)
    · skip
      refine lv_iconst (v := 0) hx hb dX7_has_16 (by decide) ?_
      exact W.zret (v := 0) hx hb hr rfl (fun t ht hW => ⟨⟨0, (), rfl, rfl, trivial⟩, hS.F ht⟩) hS.2.2 dX7_has_17
    · exfalso; have := (show ((0 : Int32)).toInt = 0 from (by decide)); simp only [q_lt, q_le, q_eq] at c_1 c_2; omega

def wq_X0_withAddress : List Cond := .code yX0_withAddress cX0_withAddress 3 (some .int) :: ([.fieldLink RX0 15 "HubTree$Bus" "plan" "LHubTree$Plan;", .fieldLink RX0 25 "HubTree$Plan" "devices" "I"] ++ wsX00 ++ wsX50)
theorem iq_X0_withAddress_0 : ∀ w ∈ wsX00, w ∈ wq_X0_withAddress := fun _ h => List.mem_cons_of_mem _ (List.mem_append_left _ (List.mem_append_right _ h))
theorem iq_X0_withAddress_5 : ∀ w ∈ wsX50, w ∈ wq_X0_withAddress := fun _ h => List.mem_cons_of_mem _ (List.mem_append_right _ h)
set_option maxHeartbeats 4000000 in
set_option maxRecDepth 100000 in
theorem c_X0_withAddress (l : Launch) (dC : Nat → ClassId) (dI : Nat → Nat → Nat) (g : Nat) (r0 : Nat) (h : Nat) (r1 : Nat) (r2 : Nat) (d : Int32) : Met l yX0_withAddress wq_X0_withAddress ({ frames := 0, cells := 0, slots := 0, locals := 0 }) (va_Pc [.ref g, .int d] (q_R (dC, dI) [(g, .inr (0, [.ref r0, .ref h])), (h, .inr (5, [.ref r1, .ref r2, .int 0]))] [])) (q_i (-1)) 0 0 (fun _ => False) := by
  refine Met.ofW (cc := cX0_withAddress) (maxL := 3) (ret := (some .int)) (by decide) rfl ?_
  intro p e s m args below meth c s₁ B hml hv
  obtain ⟨rfl, hP, hK⟩ := hv
  have hx := B.exec
  have hb := B.bytes
  have hr := B.returns
  have hts := atoms_spec (ws := wq_X0_withAddress) B.pre
  have hown : s.vm.findClass RX0 = some m.cls := findClass_of_methodNamed B.named
  have hlocks := B.notSynchronized
  have hS : va_S (fun _ => False) s.heap s.heap [] := va_S.rf
  have hl := lv_entry ([.ref g, .int d]) (n := 3) (Nat.le_of_ble_eq_true rfl)
  rw [lg_entry_eq]
  generalize (lg_sl ([.ref g, .int d]) ++ List.replicate (3 - (lg_sl ([.ref g, .int d])).length) Slot.unset).toArray = ls at hl ⊢
  have hl : lv_has ls 3 [(0, .ref g), (1, .int d)] := hl
  refine lv_iconst (v := 0) hx hb dX0_withAddress_0 (by decide) ?_
  refine lv_istore_n (lv' := [(2, .int 0), (0, .ref g), (1, .int d)]) hx hb dX0_withAddress_1 rfl hl (by decide) rfl (fun ls hl => ?_)
  refine lv_iload_n hx hb dX0_withAddress_2 rfl (lv_at hl 0 rfl) ?_
  refine lv_aload_n hx hb dX0_withAddress_3 rfl (lv_at hl 1 rfl) ?_
  refine va_get (D := (dC, dI)) (ci := 0) (v := .ref h) (C := RX0) (T := TX0) (N := 2) hx hb hts iq_X0_withAddress_0 hown hK hP 0 rfl rfl 1 (by decide) (hts (.fieldLink RX0 15 "HubTree$Bus" "plan" "LHubTree$Plan;") (List.mem_of_getElem? (i := 1) rfl)) (fun _ h9 => h9) rfl dX0_withAddress_4 ?_
  refine va_get (D := (dC, dI)) (ci := 5) (v := .int 0) (C := RX5) (T := TX5) (N := 3) hx hb hts iq_X0_withAddress_5 hown hK hP 1 rfl rfl 2 (by decide) (hts (.fieldLink RX0 25 "HubTree$Plan" "devices" "I") (List.mem_of_getElem? (i := 2) rfl)) (fun _ h9 => h9) rfl dX0_withAddress_7 ?_
  refine lv_icmp_ge (tgt := 34) hx hb dX0_withAddress_10 (by decide) (fun c_1 => ?_) (fun c_1 => ?_)
  · skip
    refine lv_iconst (v := (-1)) hx hb dX0_withAddress_34 (by decide) ?_
    exact W.iret (v := (-1)) hx hb hr (fun t ht hW => ⟨⟨(-1), (), rfl, rfl, trivial⟩, hS.F ht⟩) hS.2.2 dX0_withAddress_35
  · exact absurd (by decide) c_1

def wq_X0_allThatAre : List Cond := .code yX0_allThatAre cX0_allThatAre 4 (some .int) :: ([.fieldLink RX0 15 "HubTree$Bus" "plan" "LHubTree$Plan;", .fieldLink RX0 25 "HubTree$Plan" "devices" "I"] ++ wsX00 ++ wsX50)
theorem iq_X0_allThatAre_0 : ∀ w ∈ wsX00, w ∈ wq_X0_allThatAre := fun _ h => List.mem_cons_of_mem _ (List.mem_append_left _ (List.mem_append_right _ h))
theorem iq_X0_allThatAre_5 : ∀ w ∈ wsX50, w ∈ wq_X0_allThatAre := fun _ h => List.mem_cons_of_mem _ (List.mem_append_right _ h)
set_option maxHeartbeats 4000000 in
set_option maxRecDepth 100000 in
theorem c_X0_allThatAre (l : Launch) (dC : Nat → ClassId) (dI : Nat → Nat → Nat) (g : Nat) (r0 : Nat) (h : Nat) (r1 : Nat) (r2 : Nat) (d : Int32) : Met l yX0_allThatAre wq_X0_allThatAre ({ frames := 0, cells := 0, slots := 0, locals := 0 }) (va_Pc [.ref g, .int d] (q_R (dC, dI) [(g, .inr (0, [.ref r0, .ref h])), (h, .inr (5, [.ref r1, .ref r2, .int 0]))] [])) (q_i (0)) 0 0 (fun _ => False) := by
  refine Met.ofW (cc := cX0_allThatAre) (maxL := 4) (ret := (some .int)) (by decide) rfl ?_
  intro p e s m args below meth c s₁ B hml hv
  obtain ⟨rfl, hP, hK⟩ := hv
  have hx := B.exec
  have hb := B.bytes
  have hr := B.returns
  have hts := atoms_spec (ws := wq_X0_allThatAre) B.pre
  have hown : s.vm.findClass RX0 = some m.cls := findClass_of_methodNamed B.named
  have hlocks := B.notSynchronized
  have hS : va_S (fun _ => False) s.heap s.heap [] := va_S.rf
  have hl := lv_entry ([.ref g, .int d]) (n := 4) (Nat.le_of_ble_eq_true rfl)
  rw [lg_entry_eq]
  generalize (lg_sl ([.ref g, .int d]) ++ List.replicate (4 - (lg_sl ([.ref g, .int d])).length) Slot.unset).toArray = ls at hl ⊢
  have hl : lv_has ls 4 [(0, .ref g), (1, .int d)] := hl
  refine lv_iconst (v := 0) hx hb dX0_allThatAre_0 (by decide) ?_
  refine lv_istore_n (lv' := [(2, .int 0), (0, .ref g), (1, .int d)]) hx hb dX0_allThatAre_1 rfl hl (by decide) rfl (fun ls hl => ?_)
  refine lv_iconst (v := 0) hx hb dX0_allThatAre_2 (by decide) ?_
  refine lv_istore_n (lv' := [(3, .int 0), (2, .int 0), (0, .ref g), (1, .int d)]) hx hb dX0_allThatAre_3 rfl hl (by decide) rfl (fun ls hl => ?_)
  refine lv_iload_n hx hb dX0_allThatAre_4 rfl (lv_at hl 0 rfl) ?_
  refine lv_aload_n hx hb dX0_allThatAre_5 rfl (lv_at hl 2 rfl) ?_
  refine va_get (D := (dC, dI)) (ci := 0) (v := .ref h) (C := RX0) (T := TX0) (N := 2) hx hb hts iq_X0_allThatAre_0 hown hK hP 0 rfl rfl 1 (by decide) (hts (.fieldLink RX0 15 "HubTree$Bus" "plan" "LHubTree$Plan;") (List.mem_of_getElem? (i := 1) rfl)) (fun _ h9 => h9) rfl dX0_allThatAre_6 ?_
  refine va_get (D := (dC, dI)) (ci := 5) (v := .int 0) (C := RX5) (T := TX5) (N := 3) hx hb hts iq_X0_allThatAre_5 hown hK hP 1 rfl rfl 2 (by decide) (hts (.fieldLink RX0 25 "HubTree$Plan" "devices" "I") (List.mem_of_getElem? (i := 2) rfl)) (fun _ h9 => h9) rfl dX0_allThatAre_9 ?_
  refine lv_icmp_ge (tgt := 43) hx hb dX0_allThatAre_12 (by decide) (fun c_1 => ?_) (fun c_1 => ?_)
  · skip
    refine lv_iload_n hx hb dX0_allThatAre_43 rfl (lv_at hl 1 rfl) ?_
    exact W.iret (v := 0) hx hb hr (fun t ht hW => ⟨⟨0, (), rfl, rfl, trivial⟩, hS.F ht⟩) hS.2.2 dX0_allThatAre_44
  · exact absurd (by decide) c_1

def wq_X0_barOfTicks : List Cond := .code yX0_barOfTicks cX0_barOfTicks 2 (some .int) :: ([.fieldLink RX0 15 "HubTree$Bus" "plan" "LHubTree$Plan;", .methodLink RX0 163 yX5_isTold, .instanceMethod yX5_isTold, .selects RX5 yX5_isTold yX5_isTold, .initialized RX5, .code yX5_isTold cX5_isTold 1 (some .boolean), .fieldLink RX5 18 "HubTree$Plan" "devices" "I"] ++ wsX00 ++ wsX50)
set_option maxRecDepth 20000 in
theorem g_X0_barOfTicks_X5_isTold_163 : GoodIn wq_X0_barOfTicks (wsV RX0 163 RX5 yX5_isTold wq_X5_isTold) := goodIn_r _ [2, 3, 4, 5, 6, 7, 10, 11, 12] (by decide +kernel) (by decide +kernel)
theorem iq_X0_barOfTicks_0 : ∀ w ∈ wsX00, w ∈ wq_X0_barOfTicks := fun _ h => List.mem_cons_of_mem _ (List.mem_append_left _ (List.mem_append_right _ h))
theorem iq_X0_barOfTicks_5 : ∀ w ∈ wsX50, w ∈ wq_X0_barOfTicks := fun _ h => List.mem_cons_of_mem _ (List.mem_append_right _ h)
set_option maxHeartbeats 4000000 in
set_option maxRecDepth 100000 in
theorem c_X0_barOfTicks (l : Launch) (dC : Nat → ClassId) (dI : Nat → Nat → Nat) (g : Nat) (r0 : Nat) (h : Nat) (r1 : Nat) (r2 : Nat) (d : Int32) : Met l yX0_barOfTicks wq_X0_barOfTicks ({ frames := 1, cells := 0, slots := 0, locals := 20 }) (va_Pc [.ref g, .int d] (q_R (dC, dI) [(g, .inr (0, [.ref r0, .ref h])), (h, .inr (5, [.ref r1, .ref r2, .int 0]))] [])) (q_i (0)) 0 0 (fun _ => False) := by
  refine Met.ofW (cc := cX0_barOfTicks) (maxL := 2) (ret := (some .int)) (by decide) rfl ?_
  intro p e s m args below meth c s₁ B hml hv
  obtain ⟨rfl, hP, hK⟩ := hv
  have hx := B.exec
  have hb := B.bytes
  have hr := B.returns
  have hts := atoms_spec (ws := wq_X0_barOfTicks) B.pre
  have hown : s.vm.findClass RX0 = some m.cls := findClass_of_methodNamed B.named
  have hlocks := B.notSynchronized
  have hS : va_S (fun _ => False) s.heap s.heap [] := va_S.rf
  have hl := lv_entry ([.ref g, .int d]) (n := 2) (Nat.le_of_ble_eq_true rfl)
  rw [lg_entry_eq]
  generalize (lg_sl ([.ref g, .int d]) ++ List.replicate (2 - (lg_sl ([.ref g, .int d])).length) Slot.unset).toArray = ls at hl ⊢
  have hl : lv_has ls 2 [(0, .ref g), (1, .int d)] := hl
  refine lv_aload_n hx hb dX0_barOfTicks_0 rfl (lv_at hl 0 rfl) ?_
  refine va_get (D := (dC, dI)) (ci := 0) (v := .ref h) (C := RX0) (T := TX0) (N := 2) hx hb hts iq_X0_barOfTicks_0 hown hK hP 0 rfl rfl 1 (by decide) (hts (.fieldLink RX0 15 "HubTree$Bus" "plan" "LHubTree$Plan;") (List.mem_of_getElem? (i := 1) rfl)) (fun _ h9 => h9) rfl dX0_barOfTicks_1 ?_
  refine q_goi (v := 0) (va_runV (As := []) (rest := []) ⟨hx, hb, hml, hown, hts⟩ (c_X5_isTold l dC dI h r1 r2) (cwV 0 hts g_X0_barOfTicks_X5_isTold_163 rfl rfl rfl (by decide +kernel) ⟨Nat.le_of_ble_eq_true rfl, Nat.le_of_ble_eq_true rfl⟩) (q_preV hK hP (ci := 5) (q0 := 1) rfl rfl [1] rfl [] rfl) rfl rfl hl.1 rfl (lv_room (Nat.le_of_ble_eq_true rfl)) dX0_barOfTicks_4 ⟨Nat.le_of_ble_eq_true rfl, Nat.le_of_ble_eq_true rfl⟩) hP hS (fun H locs hP hS => ?_)
  refine lv_if_ne (tgt := 12) hx hb dX0_barOfTicks_7 (by decide) (fun c_1 => ?_) (fun c_1 => ?_)
  · exact absurd (by decide) c_1
  refine lv_iconst (v := 0) hx hb dX0_barOfTicks_10 (by decide) ?_
  exact W.iret (v := 0) hx hb hr (fun t ht hW => ⟨⟨0, (), rfl, rfl, trivial⟩, hS.F ht⟩) hS.2.2 dX0_barOfTicks_11

def wq_X0_barOf : List Cond := .code yX0_barOf cX0_barOf 6 (some .int) :: ([.fieldLink RX0 15 "HubTree$Bus" "plan" "LHubTree$Plan;", .methodLink RX0 150 yX5_has, .instanceMethod yX5_has, .selects RX5 yX5_has yX5_has, .initialized RX5, .code yX5_has cX5_has 2 (some .boolean), .fieldLink RX5 18 "HubTree$Plan" "devices" "I", .methodLink RX0 147 yX0_barOfTicks, .instanceMethod yX0_barOfTicks, .selects RX0 yX0_barOfTicks yX0_barOfTicks, .initialized RX0, .code yX0_barOfTicks cX0_barOfTicks 2 (some .int), .methodLink RX0 163 yX5_isTold, .instanceMethod yX5_isTold, .selects RX5 yX5_isTold yX5_isTold, .code yX5_isTold cX5_isTold 1 (some .boolean)] ++ wsX00 ++ wsX50)
set_option maxRecDepth 20000 in
theorem g_X0_barOf_X5_has_150 : GoodIn wq_X0_barOf (wsV RX0 150 RX5 yX5_has wq_X5_has) := goodIn_r _ [2, 3, 4, 5, 6, 7, 19, 20, 21] (by decide +kernel) (by decide +kernel)
set_option maxRecDepth 20000 in
theorem g_X0_barOf_X0_barOfTicks_147 : GoodIn wq_X0_barOf (wsV RX0 147 RX0 yX0_barOfTicks wq_X0_barOfTicks) := goodIn_r _ [8, 9, 10, 11, 12, 1, 13, 14, 15, 5, 16, 7, 17, 18, 19, 20, 21] (by decide +kernel) (by decide +kernel)
theorem iq_X0_barOf_0 : ∀ w ∈ wsX00, w ∈ wq_X0_barOf := fun _ h => List.mem_cons_of_mem _ (List.mem_append_left _ (List.mem_append_right _ h))
theorem iq_X0_barOf_5 : ∀ w ∈ wsX50, w ∈ wq_X0_barOf := fun _ h => List.mem_cons_of_mem _ (List.mem_append_right _ h)
set_option maxHeartbeats 4000000 in
set_option maxRecDepth 100000 in
theorem c_X0_barOf (l : Launch) (dC : Nat → ClassId) (dI : Nat → Nat → Nat) (g : Nat) (r0 : Nat) (h : Nat) (r1 : Nat) (r2 : Nat) (z : Int32) (d : Int32) (d2 : Int32) (d3 : Int32) : Met l yX0_barOf wq_X0_barOf ({ frames := 2, cells := 0, slots := 0, locals := 41 }) (va_Pc [.ref g, .int z, .int d, .int d2, .int d3] (q_R (dC, dI) [(g, .inr (0, [.ref r0, .ref h])), (h, .inr (5, [.ref r1, .ref r2, .int 0]))] [])) (q_i (0)) 0 0 (fun _ => False) := by
  refine Met.ofW (cc := cX0_barOf) (maxL := 6) (ret := (some .int)) (by decide) rfl ?_
  intro p e s m args below meth c s₁ B hml hv
  obtain ⟨rfl, hP, hK⟩ := hv
  have hx := B.exec
  have hb := B.bytes
  have hr := B.returns
  have hts := atoms_spec (ws := wq_X0_barOf) B.pre
  have hown : s.vm.findClass RX0 = some m.cls := findClass_of_methodNamed B.named
  have hlocks := B.notSynchronized
  have hS : va_S (fun _ => False) s.heap s.heap [] := va_S.rf
  have hl := lv_entry ([.ref g, .int z, .int d, .int d2, .int d3]) (n := 6) (Nat.le_of_ble_eq_true rfl)
  rw [lg_entry_eq]
  generalize (lg_sl ([.ref g, .int z, .int d, .int d2, .int d3]) ++ List.replicate (6 - (lg_sl ([.ref g, .int z, .int d, .int d2, .int d3])).length) Slot.unset).toArray = ls at hl ⊢
  have hl : lv_has ls 6 [(0, .ref g), (1, .int z), (2, .int d), (3, .int d2), (4, .int d3)] := hl
  refine lv_iload_n hx hb dX0_barOf_0 rfl (lv_at hl 1 rfl) ?_
  refine lv_iconst (v := 2) hx hb dX0_barOf_1 (by decide) ?_
  refine lv_icmp_ne (tgt := 11) hx hb dX0_barOf_2 (by decide) (fun c_1 => ?_) (fun c_1 => ?_)
  · skip
    refine lv_aload_n hx hb dX0_barOf_11 rfl (lv_at hl 0 rfl) ?_
    refine va_get (D := (dC, dI)) (ci := 0) (v := .ref h) (C := RX0) (T := TX0) (N := 2) hx hb hts iq_X0_barOf_0 hown hK hP 0 rfl rfl 1 (by decide) (hts (.fieldLink RX0 15 "HubTree$Bus" "plan" "LHubTree$Plan;") (List.mem_of_getElem? (i := 1) rfl)) (fun _ h9 => h9) rfl dX0_barOf_12 ?_
    refine lv_iload_n hx hb dX0_barOf_15 rfl (lv_at hl 2 rfl) ?_
    refine q_goi (v := 0) (va_runV (As := [.int d]) (rest := []) ⟨hx, hb, hml, hown, hts⟩ (c_X5_has l dC dI h r1 r2 d) (cwV 1 hts g_X0_barOf_X5_has_150 rfl rfl rfl (by decide +kernel) ⟨Nat.le_of_ble_eq_true rfl, Nat.le_of_ble_eq_true rfl⟩) (q_preV hK hP (ci := 5) (q0 := 1) rfl rfl [1] rfl [] rfl) rfl rfl hl.1 rfl (lv_room (Nat.le_of_ble_eq_true rfl)) dX0_barOf_16 ⟨Nat.le_of_ble_eq_true rfl, Nat.le_of_ble_eq_true rfl⟩) hP hS (fun H locs hP hS => ?_)
    refine lv_if_ne (tgt := 24) hx hb dX0_barOf_19 (by decide) (fun c_2 => ?_) (fun c_2 => ?_)
    · exact absurd (by decide) c_2
    refine lv_iconst (v := 0) hx hb dX0_barOf_22 (by decide) ?_
    exact W.iret (v := 0) hx hb hr (fun t ht hW => ⟨⟨0, (), rfl, rfl, trivial⟩, hS.F ht⟩) hS.2.2 dX0_barOf_23
  · skip
    refine lv_aload_n hx hb dX0_barOf_5 rfl (lv_at hl 0 rfl) ?_
    refine lv_iload_n hx hb dX0_barOf_6 rfl (lv_at hl 2 rfl) ?_
    refine q_goi (v := 0) (va_runV (As := [.int d]) (rest := []) ⟨hx, hb, hml, hown, hts⟩ (c_X0_barOfTicks l dC dI g r0 h r1 r2 d) (cwV 1 hts g_X0_barOf_X0_barOfTicks_147 rfl rfl rfl (by decide +kernel) ⟨Nat.le_of_ble_eq_true rfl, Nat.le_of_ble_eq_true rfl⟩) (q_preV hK hP (ci := 0) (q0 := 0) rfl rfl [0, 1] rfl [] rfl) rfl rfl hl.1 rfl (lv_room (Nat.le_of_ble_eq_true rfl)) dX0_barOf_7 ⟨Nat.le_of_ble_eq_true rfl, Nat.le_of_ble_eq_true rfl⟩) hP hS (fun H locs hP hS => ?_)
    exact W.iret (v := 0) hx hb hr (fun t ht hW => ⟨⟨0, (), rfl, rfl, trivial⟩, hS.F ht⟩) hS.2.2 dX0_barOf_10

def wq_X1_shown : List Cond := .code yX1_shown cX1_shown 1 (some .int) :: ([.fieldLink RX1 15 "HubTree$Diary" "total" "I", .methodLink RX1 19 Lib.Math.min.name, .static Lib.Math.min.name, .initialized "java/lang/Math", .code Lib.Math.min.name Lib.Math.min.code 2 (some .int)] ++ wsX10)
theorem iq_X1_shown_1 : ∀ w ∈ wsX10, w ∈ wq_X1_shown := fun _ h => List.mem_cons_of_mem _ (List.mem_append_right _ h)
set_option maxHeartbeats 4000000 in
set_option maxRecDepth 100000 in
theorem c_X1_shown (l : Launch) (dC : Nat → ClassId) (dI : Nat → Nat → Nat) (h : Nat) (r1 : Nat) : Met l yX1_shown wq_X1_shown ({ frames := 1, cells := 0, slots := 0, locals := 21 }) (va_Pc [.ref h] (q_R (dC, dI) [(h, .inr (1, [.ref r1, .int 0]))] [])) (q_i (0)) 0 0 (fun _ => False) := by
  refine Met.ofW (cc := cX1_shown) (maxL := 1) (ret := (some .int)) (by decide) rfl ?_
  intro p e s m args below meth c s₁ B hml hv
  obtain ⟨rfl, hP, hK⟩ := hv
  have hx := B.exec
  have hb := B.bytes
  have hr := B.returns
  have hts := atoms_spec (ws := wq_X1_shown) B.pre
  have hown : s.vm.findClass RX1 = some m.cls := findClass_of_methodNamed B.named
  have hlocks := B.notSynchronized
  have hS : va_S (fun _ => False) s.heap s.heap [] := va_S.rf
  have hl := lv_entry ([.ref h]) (n := 1) (Nat.le_of_ble_eq_true rfl)
  rw [lg_entry_eq]
  generalize (lg_sl ([.ref h]) ++ List.replicate (1 - (lg_sl ([.ref h])).length) Slot.unset).toArray = ls at hl ⊢
  have hl : lv_has ls 1 [(0, .ref h)] := hl
  refine lv_aload_n hx hb dX1_shown_0 rfl (lv_at hl 0 rfl) ?_
  refine va_get (D := (dC, dI)) (ci := 1) (v := .int 0) (C := RX1) (T := TX1) (N := 2) hx hb hts iq_X1_shown_1 hown hK hP 0 rfl rfl 1 (by decide) (hts (.fieldLink RX1 15 "HubTree$Diary" "total" "I") (List.mem_of_getElem? (i := 1) rfl)) (fun _ h9 => h9) rfl dX1_shown_1 ?_
  refine lv_bipush (v := 60) hx hb dX1_shown_4 (by decide) ?_
  refine va_mmin hx hb (by rw [hml, hl.1]) hown (hts (.methodLink RX1 19 Lib.Math.min.name) (List.mem_of_getElem? (i := 2) rfl)) (hts (.static Lib.Math.min.name) (List.mem_of_getElem? (i := 3) rfl)) (hts (.initialized "java/lang/Math") (List.mem_of_getElem? (i := 4) rfl)) (hts (.code Lib.Math.min.name Lib.Math.min.code 2 (some .int)) (List.mem_of_getElem? (i := 5) rfl)) (Nat.le_of_ble_eq_true rfl) (Nat.le_of_ble_eq_true rfl) (Nat.zero_le _) (Nat.zero_le _) dX1_shown_6 ?_
  refine q_top (y := 0) (by decide) ?_
  exact W.iret (v := 0) hx hb hr (fun t ht hW => ⟨⟨0, (), rfl, rfl, trivial⟩, hS.F ht⟩) hS.2.2 dX1_shown_9

def wq_J6_bitCount_0f7a4 : List Cond := .code yJ6_bitCount_0f7a4 cJ6_bitCount_0f7a4 1 (some .int) :: ([.constant RJ6 265 (1431655765), .constant RJ6 266 (858993459), .constant RJ6 267 (252645135)])
set_option maxHeartbeats 4000000 in
set_option maxRecDepth 100000 in
/-- bitCount(0) -/
theorem c_J6_bitCount_0f7a4 (l : Launch) (dC : Nat → ClassId) (dI : Nat → Nat → Nat) : Met l yJ6_bitCount_0f7a4 wq_J6_bitCount_0f7a4 ({ frames := 0, cells := 0, slots := 0, locals := 0 }) (va_Pc [.int 0] (q_R (dC, dI) [] [])) (q_i (0)) 0 0 (fun _ => False) := by
  refine Met.ofW (cc := cJ6_bitCount_0f7a4) (maxL := 1) (ret := (some .int)) (by decide) rfl ?_
  intro p e s m args below meth c s₁ B hml hv
  obtain ⟨rfl, hP, hK⟩ := hv
  have hx := B.exec
  have hb := B.bytes
  have hr := B.returns
  have hts := atoms_spec (ws := wq_J6_bitCount_0f7a4) B.pre
  have hown : s.vm.findClass RJ6 = some m.cls := findClass_of_methodNamed B.named
  have hlocks := B.notSynchronized
  have hS : va_S (fun _ => False) s.heap s.heap [] := va_S.rf
  have hl := lv_entry ([.int 0]) (n := 1) (Nat.le_of_ble_eq_true rfl)
  rw [lg_entry_eq]
  generalize (lg_sl ([.int 0]) ++ List.replicate (1 - (lg_sl ([.int 0])).length) Slot.unset).toArray = ls at hl ⊢
  have hl : lv_has ls 1 [(0, .int 0)] := hl
  refine lv_iload_n hx hb dJ6_bitCount_0f7a4_0 rfl (lv_at hl 0 rfl) ?_
  refine lv_iload_n hx hb dJ6_bitCount_0f7a4_1 rfl (lv_at hl 0 rfl) ?_
  refine lv_iconst (v := 1) hx hb dJ6_bitCount_0f7a4_2 (by decide) ?_
  refine lv_iushr (v := 0) hx hb dJ6_bitCount_0f7a4_3 (by decide) ?_
  refine lv_ldcw (v := 1431655765) hx hb hown (hts (.constant RJ6 265 (1431655765)) (List.mem_of_getElem? (i := 1) rfl)) dJ6_bitCount_0f7a4_4 ?_
  refine lv_iand hx hb dJ6_bitCount_0f7a4_7 ?_
  refine q_top (y := 0) (by decide) ?_
  refine lv_isub hx hb dJ6_bitCount_0f7a4_8 ?_
  refine q_top (y := 0) (by decide) ?_
  refine lv_istore_n (lv' := [(0, .int 0)]) hx hb dJ6_bitCount_0f7a4_9 rfl hl (by decide) rfl (fun ls hl => ?_)
  refine lv_iload_n hx hb dJ6_bitCount_0f7a4_10 rfl (lv_at hl 0 rfl) ?_
  refine lv_ldcw (v := 858993459) hx hb hown (hts (.constant RJ6 266 (858993459)) (List.mem_of_getElem? (i := 2) rfl)) dJ6_bitCount_0f7a4_11 ?_
  refine lv_iand hx hb dJ6_bitCount_0f7a4_14 ?_
  refine q_top (y := 0) (by decide) ?_
  refine lv_iload_n hx hb dJ6_bitCount_0f7a4_15 rfl (lv_at hl 0 rfl) ?_
  refine lv_iconst (v := 2) hx hb dJ6_bitCount_0f7a4_16 (by decide) ?_
  refine lv_iushr (v := 0) hx hb dJ6_bitCount_0f7a4_17 (by decide) ?_
  refine lv_ldcw (v := 858993459) hx hb hown (hts (.constant RJ6 266 (858993459)) (List.mem_of_getElem? (i := 2) rfl)) dJ6_bitCount_0f7a4_18 ?_
  refine lv_iand hx hb dJ6_bitCount_0f7a4_21 ?_
  refine q_top (y := 0) (by decide) ?_
  refine lv_iadd hx hb dJ6_bitCount_0f7a4_22 ?_
  refine q_top (y := 0) (by decide) ?_
  refine lv_istore_n (lv' := [(0, .int 0)]) hx hb dJ6_bitCount_0f7a4_23 rfl hl (by decide) rfl (fun ls hl => ?_)
  refine lv_iload_n hx hb dJ6_bitCount_0f7a4_24 rfl (lv_at hl 0 rfl) ?_
  refine lv_iload_n hx hb dJ6_bitCount_0f7a4_25 rfl (lv_at hl 0 rfl) ?_
  refine lv_iconst (v := 4) hx hb dJ6_bitCount_0f7a4_26 (by decide) ?_
  refine lv_iushr (v := 0) hx hb dJ6_bitCount_0f7a4_27 (by decide) ?_
  refine lv_iadd hx hb dJ6_bitCount_0f7a4_28 ?_
  refine q_top (y := 0) (by decide) ?_
  refine lv_ldcw (v := 252645135) hx hb hown (hts (.constant RJ6 267 (252645135)) (List.mem_of_getElem? (i := 3) rfl)) dJ6_bitCount_0f7a4_29 ?_
  refine lv_iand hx hb dJ6_bitCount_0f7a4_32 ?_
  refine q_top (y := 0) (by decide) ?_
  refine lv_istore_n (lv' := [(0, .int 0)]) hx hb dJ6_bitCount_0f7a4_33 rfl hl (by decide) rfl (fun ls hl => ?_)
  refine lv_iload_n hx hb dJ6_bitCount_0f7a4_34 rfl (lv_at hl 0 rfl) ?_
  refine lv_iload_n hx hb dJ6_bitCount_0f7a4_35 rfl (lv_at hl 0 rfl) ?_
  refine lv_bipush (v := 8) hx hb dJ6_bitCount_0f7a4_36 (by decide) ?_
  refine lv_iushr (v := 0) hx hb dJ6_bitCount_0f7a4_38 (by decide) ?_
  refine lv_iadd hx hb dJ6_bitCount_0f7a4_39 ?_
  refine q_top (y := 0) (by decide) ?_
  refine lv_istore_n (lv' := [(0, .int 0)]) hx hb dJ6_bitCount_0f7a4_40 rfl hl (by decide) rfl (fun ls hl => ?_)
  refine lv_iload_n hx hb dJ6_bitCount_0f7a4_41 rfl (lv_at hl 0 rfl) ?_
  refine lv_iload_n hx hb dJ6_bitCount_0f7a4_42 rfl (lv_at hl 0 rfl) ?_
  refine lv_bipush (v := 16) hx hb dJ6_bitCount_0f7a4_43 (by decide) ?_
  refine lv_iushr (v := 0) hx hb dJ6_bitCount_0f7a4_45 (by decide) ?_
  refine lv_iadd hx hb dJ6_bitCount_0f7a4_46 ?_
  refine q_top (y := 0) (by decide) ?_
  refine lv_istore_n (lv' := [(0, .int 0)]) hx hb dJ6_bitCount_0f7a4_47 rfl hl (by decide) rfl (fun ls hl => ?_)
  refine lv_iload_n hx hb dJ6_bitCount_0f7a4_48 rfl (lv_at hl 0 rfl) ?_
  refine lv_bipush (v := 63) hx hb dJ6_bitCount_0f7a4_49 (by decide) ?_
  refine lv_iand hx hb dJ6_bitCount_0f7a4_51 ?_
  refine q_top (y := 0) (by decide) ?_
  exact W.iret (v := 0) hx hb hr (fun t ht hW => ⟨⟨0, (), rfl, rfl, trivial⟩, hS.F ht⟩) hS.2.2 dJ6_bitCount_0f7a4_52

def wq_X9_rule : List Cond := .code yX9_rule cX9_rule 2 (some .int) :: ([.fieldLink RX9 32 "HubTree" "plan" "LHubTree$Plan;", .methodLink RX9 146 yX5_isTold, .instanceMethod yX5_isTold, .selects RX5 yX5_isTold yX5_isTold, .initialized RX5, .code yX5_isTold cX5_isTold 1 (some .boolean), .fieldLink RX5 18 "HubTree$Plan" "devices" "I"] ++ wsX90 ++ wsX50)
set_option maxRecDepth 20000 in
theorem g_X9_rule_X5_isTold_146 : GoodIn wq_X9_rule (wsV RX9 146 RX5 yX5_isTold wq_X5_isTold) := goodIn_r _ [2, 3, 4, 5, 6, 7, 23, 24, 25] (by decide +kernel) (by decide +kernel)
theorem iq_X9_rule_9 : ∀ w ∈ wsX90, w ∈ wq_X9_rule := fun _ h => List.mem_cons_of_mem _ (List.mem_append_left _ (List.mem_append_right _ h))
theorem iq_X9_rule_5 : ∀ w ∈ wsX50, w ∈ wq_X9_rule := fun _ h => List.mem_cons_of_mem _ (List.mem_append_right _ h)
set_option maxHeartbeats 4000000 in
set_option maxRecDepth 100000 in
theorem c_X9_rule (l : Launch) (dC : Nat → ClassId) (dI : Nat → Nat → Nat) (a : Nat → Nat) (z1 : Int32) : Met l yX9_rule wq_X9_rule ({ frames := 1, cells := 0, slots := 0, locals := 20 }) (va_Pc [.ref (a 0), .int z1] (q_R (dC, dI) [((a 0), .inr (9, [.ref (a 1), .ref (a 3), .ref (a 4), .ref (a 7), .ref (a 10), .ref (a 14), .ref (a 16), .ref (a 18), .ref (a 19), .ref (a 21), .ref (a 23), .ref (a 25), .ref (a 27), .ref (a 28), .int 0])), ((a 7), .inr (5, [.ref (a 8), .ref (a 9), .int 0]))] [])) (q_i (-1)) 0 0 (fun _ => False) := by
  refine Met.ofW (cc := cX9_rule) (maxL := 2) (ret := (some .int)) (by decide) rfl ?_
  intro p e s m args below meth c s₁ B hml hv
  obtain ⟨rfl, hP, hK⟩ := hv
  have hx := B.exec
  have hb := B.bytes
  have hr := B.returns
  have hts := atoms_spec (ws := wq_X9_rule) B.pre
  have hown : s.vm.findClass RX9 = some m.cls := findClass_of_methodNamed B.named
  have hlocks := B.notSynchronized
  have hS : va_S (fun _ => False) s.heap s.heap [] := va_S.rf
  have hl := lv_entry ([.ref (a 0), .int z1]) (n := 2) (Nat.le_of_ble_eq_true rfl)
  rw [lg_entry_eq]
  generalize (lg_sl ([.ref (a 0), .int z1]) ++ List.replicate (2 - (lg_sl ([.ref (a 0), .int z1])).length) Slot.unset).toArray = ls at hl ⊢
  have hl : lv_has ls 2 [(0, .ref (a 0)), (1, .int z1)] := hl
  refine lv_aload_n hx hb dX9_rule_0 rfl (lv_at hl 0 rfl) ?_
  refine va_get (D := (dC, dI)) (ci := 9) (v := .ref (a 7)) (C := RX9) (T := TX9) (N := 15) hx hb hts iq_X9_rule_9 hown hK hP 0 rfl rfl 3 (by decide) (hts (.fieldLink RX9 32 "HubTree" "plan" "LHubTree$Plan;") (List.mem_of_getElem? (i := 1) rfl)) (fun _ h9 => h9) rfl dX9_rule_1 ?_
  refine q_goi (v := 0) (va_runV (As := []) (rest := []) ⟨hx, hb, hml, hown, hts⟩ (c_X5_isTold l dC dI (a 7) (a 8) (a 9)) (cwV 0 hts g_X9_rule_X5_isTold_146 rfl rfl rfl (by decide +kernel) ⟨Nat.le_of_ble_eq_true rfl, Nat.le_of_ble_eq_true rfl⟩) (q_preV hK hP (ci := 5) (q0 := 1) rfl rfl [1] rfl [] rfl) rfl rfl hl.1 rfl (lv_room (Nat.le_of_ble_eq_true rfl)) dX9_rule_4 ⟨Nat.le_of_ble_eq_true rfl, Nat.le_of_ble_eq_true rfl⟩) hP hS (fun H locs hP hS => ?_)
  refine lv_if_eq (tgt := 32) hx hb dX9_rule_7 (by decide) (fun c_1 => ?_) (fun c_1 => ?_)
  · skip
    refine lv_iconst (v := (-1)) hx hb dX9_rule_32 (by decide) ?_
    exact W.iret (v := (-1)) hx hb hr (fun t ht hW => ⟨⟨(-1), (), rfl, rfl, trivial⟩, hS.F ht⟩) hS.2.2 dX9_rule_33
  · exact absurd (by decide) c_1

def wq_X9_told : List Cond := .code yX9_told cX9_told 3 (some .int) :: ([.fieldLink RX9 32 "HubTree" "plan" "LHubTree$Plan;", .methodLink RX9 153 yX5_has, .instanceMethod yX5_has, .selects RX5 yX5_has yX5_has, .initialized RX5, .code yX5_has cX5_has 2 (some .boolean), .fieldLink RX5 18 "HubTree$Plan" "devices" "I"] ++ wsX90 ++ wsX50)
set_option maxRecDepth 20000 in
theorem g_X9_told_X5_has_153 : GoodIn wq_X9_told (wsV RX9 153 RX5 yX5_has wq_X5_has) := goodIn_r _ [2, 3, 4, 5, 6, 7, 23, 24, 25] (by decide +kernel) (by decide +kernel)
theorem iq_X9_told_9 : ∀ w ∈ wsX90, w ∈ wq_X9_told := fun _ h => List.mem_cons_of_mem _ (List.mem_append_left _ (List.mem_append_right _ h))
theorem iq_X9_told_5 : ∀ w ∈ wsX50, w ∈ wq_X9_told := fun _ h => List.mem_cons_of_mem _ (List.mem_append_right _ h)
set_option maxHeartbeats 4000000 in
set_option maxRecDepth 100000 in
theorem c_X9_told (l : Launch) (dC : Nat → ClassId) (dI : Nat → Nat → Nat) (a : Nat → Nat) (z1 : Int32) (z2 : Int32) : Met l yX9_told wq_X9_told ({ frames := 1, cells := 0, slots := 0, locals := 21 }) (va_Pc [.ref (a 0), .int z1, .int z2] (q_R (dC, dI) [((a 0), .inr (9, [.ref (a 1), .ref (a 3), .ref (a 4), .ref (a 7), .ref (a 10), .ref (a 14), .ref (a 16), .ref (a 18), .ref (a 19), .ref (a 21), .ref (a 23), .ref (a 25), .ref (a 27), .ref (a 28), .int 0])), ((a 7), .inr (5, [.ref (a 8), .ref (a 9), .int 0]))] [])) (q_i (-1)) 0 0 (fun _ => False) := by
  refine Met.ofW (cc := cX9_told) (maxL := 3) (ret := (some .int)) (by decide) rfl ?_
  intro p e s m args below meth c s₁ B hml hv
  obtain ⟨rfl, hP, hK⟩ := hv
  have hx := B.exec
  have hb := B.bytes
  have hr := B.returns
  have hts := atoms_spec (ws := wq_X9_told) B.pre
  have hown : s.vm.findClass RX9 = some m.cls := findClass_of_methodNamed B.named
  have hlocks := B.notSynchronized
  have hS : va_S (fun _ => False) s.heap s.heap [] := va_S.rf
  have hl := lv_entry ([.ref (a 0), .int z1, .int z2]) (n := 3) (Nat.le_of_ble_eq_true rfl)
  rw [lg_entry_eq]
  generalize (lg_sl ([.ref (a 0), .int z1, .int z2]) ++ List.replicate (3 - (lg_sl ([.ref (a 0), .int z1, .int z2])).length) Slot.unset).toArray = ls at hl ⊢
  have hl : lv_has ls 3 [(0, .ref (a 0)), (1, .int z1), (2, .int z2)] := hl
  refine lv_aload_n hx hb dX9_told_0 rfl (lv_at hl 0 rfl) ?_
  refine va_get (D := (dC, dI)) (ci := 9) (v := .ref (a 7)) (C := RX9) (T := TX9) (N := 15) hx hb hts iq_X9_told_9 hown hK hP 0 rfl rfl 3 (by decide) (hts (.fieldLink RX9 32 "HubTree" "plan" "LHubTree$Plan;") (List.mem_of_getElem? (i := 1) rfl)) (fun _ h9 => h9) rfl dX9_told_1 ?_
  refine lv_iload_n hx hb dX9_told_4 rfl (lv_at hl 1 rfl) ?_
  refine q_goi (v := 0) (va_runV (As := [.int z1]) (rest := []) ⟨hx, hb, hml, hown, hts⟩ (c_X5_has l dC dI (a 7) (a 8) (a 9) z1) (cwV 1 hts g_X9_told_X5_has_153 rfl rfl rfl (by decide +kernel) ⟨Nat.le_of_ble_eq_true rfl, Nat.le_of_ble_eq_true rfl⟩) (q_preV hK hP (ci := 5) (q0 := 1) rfl rfl [1] rfl [] rfl) rfl rfl hl.1 rfl (lv_room (Nat.le_of_ble_eq_true rfl)) dX9_told_5 ⟨Nat.le_of_ble_eq_true rfl, Nat.le_of_ble_eq_true rfl⟩) hP hS (fun H locs hP hS => ?_)
  refine lv_if_eq (tgt := 21) hx hb dX9_told_8 (by decide) (fun c_1 => ?_) (fun c_1 => ?_)
  · skip
    refine lv_iconst (v := (-1)) hx hb dX9_told_21 (by decide) ?_
    exact W.iret (v := (-1)) hx hb hr (fun t ht hW => ⟨⟨(-1), (), rfl, rfl, trivial⟩, hS.F ht⟩) hS.2.2 dX9_told_22
  · exact absurd (by decide) c_1

def wq_X9_port : List Cond := .code yX9_port cX9_port 3 (some .int) :: ([.fieldLink RX9 32 "HubTree" "plan" "LHubTree$Plan;", .methodLink RX9 174 yX5_hasPort, .instanceMethod yX5_hasPort, .selects RX5 yX5_hasPort yX5_hasPort, .initialized RX5, .code yX5_hasPort cX5_hasPort 3 (some .boolean), .methodLink RX5 34 yX5_portsOf, .instanceMethod yX5_portsOf, .selects RX5 yX5_portsOf yX5_portsOf, .code yX5_portsOf cX5_portsOf 2 (some .int), .fieldLink RX5 18 "HubTree$Plan" "devices" "I"] ++ wsX90 ++ wsX50)
set_option maxRecDepth 20000 in
theorem g_X9_port_X5_hasPort_174 : GoodIn wq_X9_port (wsV RX9 174 RX5 yX5_hasPort wq_X5_hasPort) := goodIn_r _ [2, 3, 4, 5, 6, 7, 8, 9, 5, 10, 11, 27, 28, 29] (by decide +kernel) (by decide +kernel)
theorem iq_X9_port_9 : ∀ w ∈ wsX90, w ∈ wq_X9_port := fun _ h => List.mem_cons_of_mem _ (List.mem_append_left _ (List.mem_append_right _ h))
theorem iq_X9_port_5 : ∀ w ∈ wsX50, w ∈ wq_X9_port := fun _ h => List.mem_cons_of_mem _ (List.mem_append_right _ h)
set_option maxHeartbeats 4000000 in
set_option maxRecDepth 100000 in
theorem c_X9_port (l : Launch) (dC : Nat → ClassId) (dI : Nat → Nat → Nat) (a : Nat → Nat) (z1 : Int32) (z2 : Int32) : Met l yX9_port wq_X9_port ({ frames := 2, cells := 0, slots := 0, locals := 43 }) (va_Pc [.ref (a 0), .int z1, .int z2] (q_R (dC, dI) [((a 0), .inr (9, [.ref (a 1), .ref (a 3), .ref (a 4), .ref (a 7), .ref (a 10), .ref (a 14), .ref (a 16), .ref (a 18), .ref (a 19), .ref (a 21), .ref (a 23), .ref (a 25), .ref (a 27), .ref (a 28), .int 0])), ((a 7), .inr (5, [.ref (a 8), .ref (a 9), .int 0]))] [])) (q_i (-1)) 0 0 (fun _ => False) := by
  refine Met.ofW (cc := cX9_port) (maxL := 3) (ret := (some .int)) (by decide) rfl ?_
  intro p e s m args below meth c s₁ B hml hv
  obtain ⟨rfl, hP, hK⟩ := hv
  have hx := B.exec
  have hb := B.bytes
  have hr := B.returns
  have hts := atoms_spec (ws := wq_X9_port) B.pre
  have hown : s.vm.findClass RX9 = some m.cls := findClass_of_methodNamed B.named
  have hlocks := B.notSynchronized
  have hS : va_S (fun _ => False) s.heap s.heap [] := va_S.rf
  have hl := lv_entry ([.ref (a 0), .int z1, .int z2]) (n := 3) (Nat.le_of_ble_eq_true rfl)
  rw [lg_entry_eq]
  generalize (lg_sl ([.ref (a 0), .int z1, .int z2]) ++ List.replicate (3 - (lg_sl ([.ref (a 0), .int z1, .int z2])).length) Slot.unset).toArray = ls at hl ⊢
  have hl : lv_has ls 3 [(0, .ref (a 0)), (1, .int z1), (2, .int z2)] := hl
  refine lv_aload_n hx hb dX9_port_0 rfl (lv_at hl 0 rfl) ?_
  refine va_get (D := (dC, dI)) (ci := 9) (v := .ref (a 7)) (C := RX9) (T := TX9) (N := 15) hx hb hts iq_X9_port_9 hown hK hP 0 rfl rfl 3 (by decide) (hts (.fieldLink RX9 32 "HubTree" "plan" "LHubTree$Plan;") (List.mem_of_getElem? (i := 1) rfl)) (fun _ h9 => h9) rfl dX9_port_1 ?_
  refine lv_iload_n hx hb dX9_port_4 rfl (lv_at hl 1 rfl) ?_
  refine lv_iload_n hx hb dX9_port_5 rfl (lv_at hl 2 rfl) ?_
  refine q_goi (v := 0) (va_runV (As := [.int z1, .int z2]) (rest := []) ⟨hx, hb, hml, hown, hts⟩ (c_X5_hasPort l dC dI (a 7) (a 8) (a 9) z1 z2) (cwV 2 hts g_X9_port_X5_hasPort_174 rfl rfl rfl (by decide +kernel) ⟨Nat.le_of_ble_eq_true rfl, Nat.le_of_ble_eq_true rfl⟩) (q_preV hK hP (ci := 5) (q0 := 1) rfl rfl [1] rfl [] rfl) rfl rfl hl.1 rfl (lv_room (Nat.le_of_ble_eq_true rfl)) dX9_port_6 ⟨Nat.le_of_ble_eq_true rfl, Nat.le_of_ble_eq_true rfl⟩) hP hS (fun H locs hP hS => ?_)
  refine lv_if_eq (tgt := 24) hx hb dX9_port_9 (by decide) (fun c_1 => ?_) (fun c_1 => ?_)
  · skip
    refine lv_iconst (v := (-1)) hx hb dX9_port_24 (by decide) ?_
    exact W.iret (v := (-1)) hx hb hr (fun t ht hW => ⟨⟨(-1), (), rfl, rfl, trivial⟩, hS.F ht⟩) hS.2.2 dX9_port_25
  · exact absurd (by decide) c_1

def wq_X9_hub : List Cond := .code yX9_hub cX9_hub 3 (some .int) :: ([.fieldLink RX9 32 "HubTree" "plan" "LHubTree$Plan;", .methodLink RX9 182 yX5_isHub, .instanceMethod yX5_isHub, .selects RX5 yX5_isHub yX5_isHub, .initialized RX5, .code yX5_isHub cX5_isHub 2 (some .boolean), .methodLink RX5 34 yX5_portsOf, .instanceMethod yX5_portsOf, .selects RX5 yX5_portsOf yX5_portsOf, .code yX5_portsOf cX5_portsOf 2 (some .int), .fieldLink RX5 18 "HubTree$Plan" "devices" "I", .constant RX9 185 (-1000000)] ++ wsX90 ++ wsX50)
set_option maxRecDepth 20000 in
theorem g_X9_hub_X5_isHub_182 : GoodIn wq_X9_hub (wsV RX9 182 RX5 yX5_isHub wq_X5_isHub) := goodIn_r _ [2, 3, 4, 5, 6, 7, 8, 9, 5, 10, 11, 28, 29, 30] (by decide +kernel) (by decide +kernel)
theorem iq_X9_hub_9 : ∀ w ∈ wsX90, w ∈ wq_X9_hub := fun _ h => List.mem_cons_of_mem _ (List.mem_append_left _ (List.mem_append_right _ h))
theorem iq_X9_hub_5 : ∀ w ∈ wsX50, w ∈ wq_X9_hub := fun _ h => List.mem_cons_of_mem _ (List.mem_append_right _ h)
set_option maxHeartbeats 4000000 in
set_option maxRecDepth 100000 in
theorem c_X9_hub (l : Launch) (dC : Nat → ClassId) (dI : Nat → Nat → Nat) (a : Nat → Nat) (z1 : Int32) (z2 : Int32) : Met l yX9_hub wq_X9_hub ({ frames := 2, cells := 0, slots := 0, locals := 42 }) (va_Pc [.ref (a 0), .int z1, .int z2] (q_R (dC, dI) [((a 0), .inr (9, [.ref (a 1), .ref (a 3), .ref (a 4), .ref (a 7), .ref (a 10), .ref (a 14), .ref (a 16), .ref (a 18), .ref (a 19), .ref (a 21), .ref (a 23), .ref (a 25), .ref (a 27), .ref (a 28), .int 0])), ((a 7), .inr (5, [.ref (a 8), .ref (a 9), .int 0]))] [])) (q_i (-1000000)) 0 0 (fun _ => False) := by
  refine Met.ofW (cc := cX9_hub) (maxL := 3) (ret := (some .int)) (by decide) rfl ?_
  intro p e s m args below meth c s₁ B hml hv
  obtain ⟨rfl, hP, hK⟩ := hv
  have hx := B.exec
  have hb := B.bytes
  have hr := B.returns
  have hts := atoms_spec (ws := wq_X9_hub) B.pre
  have hown : s.vm.findClass RX9 = some m.cls := findClass_of_methodNamed B.named
  have hlocks := B.notSynchronized
  have hS : va_S (fun _ => False) s.heap s.heap [] := va_S.rf
  have hl := lv_entry ([.ref (a 0), .int z1, .int z2]) (n := 3) (Nat.le_of_ble_eq_true rfl)
  rw [lg_entry_eq]
  generalize (lg_sl ([.ref (a 0), .int z1, .int z2]) ++ List.replicate (3 - (lg_sl ([.ref (a 0), .int z1, .int z2])).length) Slot.unset).toArray = ls at hl ⊢
  have hl : lv_has ls 3 [(0, .ref (a 0)), (1, .int z1), (2, .int z2)] := hl
  refine lv_aload_n hx hb dX9_hub_0 rfl (lv_at hl 0 rfl) ?_
  refine va_get (D := (dC, dI)) (ci := 9) (v := .ref (a 7)) (C := RX9) (T := TX9) (N := 15) hx hb hts iq_X9_hub_9 hown hK hP 0 rfl rfl 3 (by decide) (hts (.fieldLink RX9 32 "HubTree" "plan" "LHubTree$Plan;") (List.mem_of_getElem? (i := 1) rfl)) (fun _ h9 => h9) rfl dX9_hub_1 ?_
  refine lv_iload_n hx hb dX9_hub_4 rfl (lv_at hl 1 rfl) ?_
  refine q_goi (v := 0) (va_runV (As := [.int z1]) (rest := []) ⟨hx, hb, hml, hown, hts⟩ (c_X5_isHub l dC dI (a 7) (a 8) (a 9) z1) (cwV 1 hts g_X9_hub_X5_isHub_182 rfl rfl rfl (by decide +kernel) ⟨Nat.le_of_ble_eq_true rfl, Nat.le_of_ble_eq_true rfl⟩) (q_preV hK hP (ci := 5) (q0 := 1) rfl rfl [1] rfl [] rfl) rfl rfl hl.1 rfl (lv_room (Nat.le_of_ble_eq_true rfl)) dX9_hub_5 ⟨Nat.le_of_ble_eq_true rfl, Nat.le_of_ble_eq_true rfl⟩) hP hS (fun H locs hP hS => ?_)
  refine lv_if_ne (tgt := 14) hx hb dX9_hub_8 (by decide) (fun c_1 => ?_) (fun c_1 => ?_)
  · exact absurd (by decide) c_1
  refine lv_ldc (v := (-1000000)) hx hb hown (hts (.constant RX9 185 (-1000000)) (List.mem_of_getElem? (i := 12) rfl)) dX9_hub_11 ?_
  exact W.iret (v := (-1000000)) hx hb hr (fun t ht hW => ⟨⟨(-1000000), (), rfl, rfl, trivial⟩, hS.F ht⟩) hS.2.2 dX9_hub_13

def wq_X9_octet : List Cond := .code yX9_octet cX9_octet 3 (some .int) :: ([.fieldLink RX9 32 "HubTree" "plan" "LHubTree$Plan;", .methodLink RX9 153 yX5_has, .instanceMethod yX5_has, .selects RX5 yX5_has yX5_has, .initialized RX5, .code yX5_has cX5_has 2 (some .boolean), .fieldLink RX5 18 "HubTree$Plan" "devices" "I"] ++ wsX90 ++ wsX50)
set_option maxRecDepth 20000 in
theorem g_X9_octet_X5_has_153 : GoodIn wq_X9_octet (wsV RX9 153 RX5 yX5_has wq_X5_has) := goodIn_r _ [2, 3, 4, 5, 6, 7, 23, 24, 25] (by decide +kernel) (by decide +kernel)
theorem iq_X9_octet_9 : ∀ w ∈ wsX90, w ∈ wq_X9_octet := fun _ h => List.mem_cons_of_mem _ (List.mem_append_left _ (List.mem_append_right _ h))
theorem iq_X9_octet_5 : ∀ w ∈ wsX50, w ∈ wq_X9_octet := fun _ h => List.mem_cons_of_mem _ (List.mem_append_right _ h)
set_option maxHeartbeats 4000000 in
set_option maxRecDepth 100000 in
theorem c_X9_octet (l : Launch) (dC : Nat → ClassId) (dI : Nat → Nat → Nat) (a : Nat → Nat) (z1 : Int32) (z2 : Int32) : Met l yX9_octet wq_X9_octet ({ frames := 1, cells := 0, slots := 0, locals := 21 }) (va_Pc [.ref (a 0), .int z1, .int z2] (q_R (dC, dI) [((a 0), .inr (9, [.ref (a 1), .ref (a 3), .ref (a 4), .ref (a 7), .ref (a 10), .ref (a 14), .ref (a 16), .ref (a 18), .ref (a 19), .ref (a 21), .ref (a 23), .ref (a 25), .ref (a 27), .ref (a 28), .int 0])), ((a 7), .inr (5, [.ref (a 8), .ref (a 9), .int 0]))] [])) (q_i (-1)) 0 0 (fun _ => False) := by
  refine Met.ofW (cc := cX9_octet) (maxL := 3) (ret := (some .int)) (by decide) rfl ?_
  intro p e s m args below meth c s₁ B hml hv
  obtain ⟨rfl, hP, hK⟩ := hv
  have hx := B.exec
  have hb := B.bytes
  have hr := B.returns
  have hts := atoms_spec (ws := wq_X9_octet) B.pre
  have hown : s.vm.findClass RX9 = some m.cls := findClass_of_methodNamed B.named
  have hlocks := B.notSynchronized
  have hS : va_S (fun _ => False) s.heap s.heap [] := va_S.rf
  have hl := lv_entry ([.ref (a 0), .int z1, .int z2]) (n := 3) (Nat.le_of_ble_eq_true rfl)
  rw [lg_entry_eq]
  generalize (lg_sl ([.ref (a 0), .int z1, .int z2]) ++ List.replicate (3 - (lg_sl ([.ref (a 0), .int z1, .int z2])).length) Slot.unset).toArray = ls at hl ⊢
  have hl : lv_has ls 3 [(0, .ref (a 0)), (1, .int z1), (2, .int z2)] := hl
  refine lv_aload_n hx hb dX9_octet_0 rfl (lv_at hl 0 rfl) ?_
  refine va_get (D := (dC, dI)) (ci := 9) (v := .ref (a 7)) (C := RX9) (T := TX9) (N := 15) hx hb hts iq_X9_octet_9 hown hK hP 0 rfl rfl 3 (by decide) (hts (.fieldLink RX9 32 "HubTree" "plan" "LHubTree$Plan;") (List.mem_of_getElem? (i := 1) rfl)) (fun _ h9 => h9) rfl dX9_octet_1 ?_
  refine lv_iload_n hx hb dX9_octet_4 rfl (lv_at hl 1 rfl) ?_
  refine q_goi (v := 0) (va_runV (As := [.int z1]) (rest := []) ⟨hx, hb, hml, hown, hts⟩ (c_X5_has l dC dI (a 7) (a 8) (a 9) z1) (cwV 1 hts g_X9_octet_X5_has_153 rfl rfl rfl (by decide +kernel) ⟨Nat.le_of_ble_eq_true rfl, Nat.le_of_ble_eq_true rfl⟩) (q_preV hK hP (ci := 5) (q0 := 1) rfl rfl [1] rfl [] rfl) rfl rfl hl.1 rfl (lv_room (Nat.le_of_ble_eq_true rfl)) dX9_octet_5 ⟨Nat.le_of_ble_eq_true rfl, Nat.le_of_ble_eq_true rfl⟩) hP hS (fun H locs hP hS => ?_)
  refine lv_if_eq (tgt := 39) hx hb dX9_octet_8 (by decide) (fun c_1 => ?_) (fun c_1 => ?_)
  · skip
    refine lv_iconst (v := (-1)) hx hb dX9_octet_39 (by decide) ?_
    exact W.iret (v := (-1)) hx hb hr (fun t ht hW => ⟨⟨(-1), (), rfl, rfl, trivial⟩, hS.F ht⟩) hS.2.2 dX9_octet_40
  · exact absurd (by decide) c_1

def wq_X9_at : List Cond := .code yX9_at cX9_at 2 (some .int) :: ([.fieldLink RX9 47 "HubTree" "now" "LHubTree$Bus;", .methodLink RX9 221 yX0_withAddress, .instanceMethod yX0_withAddress, .selects RX0 yX0_withAddress yX0_withAddress, .initialized RX0, .code yX0_withAddress cX0_withAddress 3 (some .int), .fieldLink RX0 15 "HubTree$Bus" "plan" "LHubTree$Plan;", .fieldLink RX0 25 "HubTree$Plan" "devices" "I"] ++ wsX90 ++ wsX00 ++ wsX50)
set_option maxRecDepth 20000 in
theorem g_X9_at_X0_withAddress_221 : GoodIn wq_X9_at (wsV RX9 221 RX0 yX0_withAddress wq_X0_withAddress) := goodIn_r _ [2, 3, 4, 5, 6, 7, 8, 24, 25, 26, 27, 28] (by decide +kernel) (by decide +kernel)
theorem iq_X9_at_9 : ∀ w ∈ wsX90, w ∈ wq_X9_at := fun _ h => List.mem_cons_of_mem _ (List.mem_append_left _ (List.mem_append_left _ (List.mem_append_right _ h)))
theorem iq_X9_at_0 : ∀ w ∈ wsX00, w ∈ wq_X9_at := fun _ h => List.mem_cons_of_mem _ (List.mem_append_left _ (List.mem_append_right _ h))
theorem iq_X9_at_5 : ∀ w ∈ wsX50, w ∈ wq_X9_at := fun _ h => List.mem_cons_of_mem _ (List.mem_append_right _ h)
set_option maxHeartbeats 4000000 in
set_option maxRecDepth 100000 in
theorem c_X9_at (l : Launch) (dC : Nat → ClassId) (dI : Nat → Nat → Nat) (a : Nat → Nat) (z1 : Int32) : Met l yX9_at wq_X9_at ({ frames := 1, cells := 0, slots := 0, locals := 22 }) (va_Pc [.ref (a 0), .int z1] (q_R (dC, dI) [((a 0), .inr (9, [.ref (a 1), .ref (a 3), .ref (a 4), .ref (a 7), .ref (a 10), .ref (a 14), .ref (a 16), .ref (a 18), .ref (a 19), .ref (a 21), .ref (a 23), .ref (a 25), .ref (a 27), .ref (a 28), .int 0])), ((a 14), .inr (0, [.ref (a 15), .ref (a 7)])), ((a 7), .inr (5, [.ref (a 8), .ref (a 9), .int 0]))] [])) (q_i (-1)) 0 0 (fun _ => False) := by
  refine Met.ofW (cc := cX9_at) (maxL := 2) (ret := (some .int)) (by decide) rfl ?_
  intro p e s m args below meth c s₁ B hml hv
  obtain ⟨rfl, hP, hK⟩ := hv
  have hx := B.exec
  have hb := B.bytes
  have hr := B.returns
  have hts := atoms_spec (ws := wq_X9_at) B.pre
  have hown : s.vm.findClass RX9 = some m.cls := findClass_of_methodNamed B.named
  have hlocks := B.notSynchronized
  have hS : va_S (fun _ => False) s.heap s.heap [] := va_S.rf
  have hl := lv_entry ([.ref (a 0), .int z1]) (n := 2) (Nat.le_of_ble_eq_true rfl)
  rw [lg_entry_eq]
  generalize (lg_sl ([.ref (a 0), .int z1]) ++ List.replicate (2 - (lg_sl ([.ref (a 0), .int z1])).length) Slot.unset).toArray = ls at hl ⊢
  have hl : lv_has ls 2 [(0, .ref (a 0)), (1, .int z1)] := hl
  refine lv_iload_n hx hb dX9_at_0 rfl (lv_at hl 1 rfl) ?_
  refine lv_iconst (v := 1) hx hb dX9_at_1 (by decide) ?_
  refine lv_icmp_ge (tgt := 9) hx hb dX9_at_2 (by decide) (fun c_1 => ?_) (fun c_1 => ?_)
  · skip
    refine lv_aload_n hx hb dX9_at_9 rfl (lv_at hl 0 rfl) ?_
    refine va_get (D := (dC, dI)) (ci := 9) (v := .ref (a 14)) (C := RX9) (T := TX9) (N := 15) hx hb hts iq_X9_at_9 hown hK hP 0 rfl rfl 5 (by decide) (hts (.fieldLink RX9 47 "HubTree" "now" "LHubTree$Bus;") (List.mem_of_getElem? (i := 1) rfl)) (fun _ h9 => h9) rfl dX9_at_10 ?_
    refine lv_iload_n hx hb dX9_at_13 rfl (lv_at hl 1 rfl) ?_
    refine q_goi (v := (-1)) (va_runV (As := [.int z1]) (rest := []) ⟨hx, hb, hml, hown, hts⟩ (c_X0_withAddress l dC dI (a 14) (a 15) (a 7) (a 8) (a 9) z1) (cwV 1 hts g_X9_at_X0_withAddress_221 rfl rfl rfl (by decide +kernel) ⟨Nat.le_of_ble_eq_true rfl, Nat.le_of_ble_eq_true rfl⟩) (q_preV hK hP (ci := 0) (q0 := 1) rfl rfl [1, 2] rfl [] rfl) rfl rfl hl.1 rfl (lv_room (Nat.le_of_ble_eq_true rfl)) dX9_at_14 ⟨Nat.le_of_ble_eq_true rfl, Nat.le_of_ble_eq_true rfl⟩) hP hS (fun H locs hP hS => ?_)
    exact W.iret (v := (-1)) hx hb hr (fun t ht hW => ⟨⟨(-1), (), rfl, rfl, trivial⟩, hS.F ht⟩) hS.2.2 dX9_at_17
  · skip
    refine lv_iconst (v := (-1)) hx hb dX9_at_5 (by decide) ?_
    refine lv_goto (tgt := 17) hx hb dX9_at_6 (by decide) ?_
    exact W.iret (v := (-1)) hx hb hr (fun t ht hW => ⟨⟨(-1), (), rfl, rfl, trivial⟩, hS.F ht⟩) hS.2.2 dX9_at_17

def wq_X9_helper : List Cond := .code yX9_helper cX9_helper 2 (some .int) :: ([.fieldLink RX9 32 "HubTree" "plan" "LHubTree$Plan;", .methodLink RX9 153 yX5_has, .instanceMethod yX5_has, .selects RX5 yX5_has yX5_has, .initialized RX5, .code yX5_has cX5_has 2 (some .boolean), .fieldLink RX5 18 "HubTree$Plan" "devices" "I"] ++ wsX90 ++ wsX50)
set_option maxRecDepth 20000 in
theorem g_X9_helper_X5_has_153 : GoodIn wq_X9_helper (wsV RX9 153 RX5 yX5_has wq_X5_has) := goodIn_r _ [2, 3, 4, 5, 6, 7, 23, 24, 25] (by decide +kernel) (by decide +kernel)
theorem iq_X9_helper_9 : ∀ w ∈ wsX90, w ∈ wq_X9_helper := fun _ h => List.mem_cons_of_mem _ (List.mem_append_left _ (List.mem_append_right _ h))
theorem iq_X9_helper_5 : ∀ w ∈ wsX50, w ∈ wq_X9_helper := fun _ h => List.mem_cons_of_mem _ (List.mem_append_right _ h)
set_option maxHeartbeats 4000000 in
set_option maxRecDepth 100000 in
theorem c_X9_helper (l : Launch) (dC : Nat → ClassId) (dI : Nat → Nat → Nat) (a : Nat → Nat) (z1 : Int32) : Met l yX9_helper wq_X9_helper ({ frames := 1, cells := 0, slots := 0, locals := 21 }) (va_Pc [.ref (a 0), .int z1] (q_R (dC, dI) [((a 0), .inr (9, [.ref (a 1), .ref (a 3), .ref (a 4), .ref (a 7), .ref (a 10), .ref (a 14), .ref (a 16), .ref (a 18), .ref (a 19), .ref (a 21), .ref (a 23), .ref (a 25), .ref (a 27), .ref (a 28), .int 0])), ((a 7), .inr (5, [.ref (a 8), .ref (a 9), .int 0]))] [])) (q_i (-1)) 0 0 (fun _ => False) := by
  refine Met.ofW (cc := cX9_helper) (maxL := 2) (ret := (some .int)) (by decide) rfl ?_
  intro p e s m args below meth c s₁ B hml hv
  obtain ⟨rfl, hP, hK⟩ := hv
  have hx := B.exec
  have hb := B.bytes
  have hr := B.returns
  have hts := atoms_spec (ws := wq_X9_helper) B.pre
  have hown : s.vm.findClass RX9 = some m.cls := findClass_of_methodNamed B.named
  have hlocks := B.notSynchronized
  have hS : va_S (fun _ => False) s.heap s.heap [] := va_S.rf
  have hl := lv_entry ([.ref (a 0), .int z1]) (n := 2) (Nat.le_of_ble_eq_true rfl)
  rw [lg_entry_eq]
  generalize (lg_sl ([.ref (a 0), .int z1]) ++ List.replicate (2 - (lg_sl ([.ref (a 0), .int z1])).length) Slot.unset).toArray = ls at hl ⊢
  have hl : lv_has ls 2 [(0, .ref (a 0)), (1, .int z1)] := hl
  refine lv_aload_n hx hb dX9_helper_0 rfl (lv_at hl 0 rfl) ?_
  refine va_get (D := (dC, dI)) (ci := 9) (v := .ref (a 7)) (C := RX9) (T := TX9) (N := 15) hx hb hts iq_X9_helper_9 hown hK hP 0 rfl rfl 3 (by decide) (hts (.fieldLink RX9 32 "HubTree" "plan" "LHubTree$Plan;") (List.mem_of_getElem? (i := 1) rfl)) (fun _ h9 => h9) rfl dX9_helper_1 ?_
  refine lv_iload_n hx hb dX9_helper_4 rfl (lv_at hl 1 rfl) ?_
  refine q_goi (v := 0) (va_runV (As := [.int z1]) (rest := []) ⟨hx, hb, hml, hown, hts⟩ (c_X5_has l dC dI (a 7) (a 8) (a 9) z1) (cwV 1 hts g_X9_helper_X5_has_153 rfl rfl rfl (by decide +kernel) ⟨Nat.le_of_ble_eq_true rfl, Nat.le_of_ble_eq_true rfl⟩) (q_preV hK hP (ci := 5) (q0 := 1) rfl rfl [1] rfl [] rfl) rfl rfl hl.1 rfl (lv_room (Nat.le_of_ble_eq_true rfl)) dX9_helper_5 ⟨Nat.le_of_ble_eq_true rfl, Nat.le_of_ble_eq_true rfl⟩) hP hS (fun H locs hP hS => ?_)
  refine lv_if_eq (tgt := 40) hx hb dX9_helper_8 (by decide) (fun c_1 => ?_) (fun c_1 => ?_)
  · skip
    refine lv_iconst (v := (-1)) hx hb dX9_helper_40 (by decide) ?_
    exact W.iret (v := (-1)) hx hb hr (fun t ht hW => ⟨⟨(-1), (), rfl, rfl, trivial⟩, hS.F ht⟩) hS.2.2 dX9_helper_41
  · exact absurd (by decide) c_1

def wq_X9_years : List Cond := .code yX9_years cX9_years 8 (some .int) :: ([.fieldLink RX9 32 "HubTree" "plan" "LHubTree$Plan;", .methodLink RX9 146 yX5_isTold, .instanceMethod yX5_isTold, .selects RX5 yX5_isTold yX5_isTold, .initialized RX5, .code yX5_isTold cX5_isTold 1 (some .boolean), .fieldLink RX5 18 "HubTree$Plan" "devices" "I"] ++ wsX90 ++ wsX50)
set_option maxRecDepth 20000 in
theorem g_X9_years_X5_isTold_146 : GoodIn wq_X9_years (wsV RX9 146 RX5 yX5_isTold wq_X5_isTold) := goodIn_r _ [2, 3, 4, 5, 6, 7, 23, 24, 25] (by decide +kernel) (by decide +kernel)
theorem iq_X9_years_9 : ∀ w ∈ wsX90, w ∈ wq_X9_years := fun _ h => List.mem_cons_of_mem _ (List.mem_append_left _ (List.mem_append_right _ h))
theorem iq_X9_years_5 : ∀ w ∈ wsX50, w ∈ wq_X9_years := fun _ h => List.mem_cons_of_mem _ (List.mem_append_right _ h)
set_option maxHeartbeats 4000000 in
set_option maxRecDepth 100000 in
theorem c_X9_years (l : Launch) (dC : Nat → ClassId) (dI : Nat → Nat → Nat) (a : Nat → Nat) (z1 : Int32) (z2 : Int64) : Met l yX9_years wq_X9_years ({ frames := 1, cells := 0, slots := 0, locals := 20 }) (va_Pc [.ref (a 0), .int z1, .long z2] (q_R (dC, dI) [((a 0), .inr (9, [.ref (a 1), .ref (a 3), .ref (a 4), .ref (a 7), .ref (a 10), .ref (a 14), .ref (a 16), .ref (a 18), .ref (a 19), .ref (a 21), .ref (a 23), .ref (a 25), .ref (a 27), .ref (a 28), .int 0])), ((a 7), .inr (5, [.ref (a 8), .ref (a 9), .int 0]))] [])) (q_i (-1)) 0 0 (fun _ => False) := by
  refine Met.ofW (cc := cX9_years) (maxL := 8) (ret := (some .int)) (by decide) rfl ?_
  intro p e s m args below meth c s₁ B hml hv
  obtain ⟨rfl, hP, hK⟩ := hv
  have hx := B.exec
  have hb := B.bytes
  have hr := B.returns
  have hts := atoms_spec (ws := wq_X9_years) B.pre
  have hown : s.vm.findClass RX9 = some m.cls := findClass_of_methodNamed B.named
  have hlocks := B.notSynchronized
  have hS : va_S (fun _ => False) s.heap s.heap [] := va_S.rf
  have hl := lv_entry ([.ref (a 0), .int z1, .long z2]) (n := 8) (Nat.le_of_ble_eq_true rfl)
  rw [lg_entry_eq]
  generalize (lg_sl ([.ref (a 0), .int z1, .long z2]) ++ List.replicate (8 - (lg_sl ([.ref (a 0), .int z1, .long z2])).length) Slot.unset).toArray = ls at hl ⊢
  have hl : lv_has ls 8 [(0, .ref (a 0)), (1, .int z1), (2, .long z2)] := hl
  refine lv_aload_n hx hb dX9_years_0 rfl (lv_at hl 0 rfl) ?_
  refine va_get (D := (dC, dI)) (ci := 9) (v := .ref (a 7)) (C := RX9) (T := TX9) (N := 15) hx hb hts iq_X9_years_9 hown hK hP 0 rfl rfl 3 (by decide) (hts (.fieldLink RX9 32 "HubTree" "plan" "LHubTree$Plan;") (List.mem_of_getElem? (i := 1) rfl)) (fun _ h9 => h9) rfl dX9_years_1 ?_
  refine q_goi (v := 0) (va_runV (As := []) (rest := []) ⟨hx, hb, hml, hown, hts⟩ (c_X5_isTold l dC dI (a 7) (a 8) (a 9)) (cwV 0 hts g_X9_years_X5_isTold_146 rfl rfl rfl (by decide +kernel) ⟨Nat.le_of_ble_eq_true rfl, Nat.le_of_ble_eq_true rfl⟩) (q_preV hK hP (ci := 5) (q0 := 1) rfl rfl [1] rfl [] rfl) rfl rfl hl.1 rfl (lv_room (Nat.le_of_ble_eq_true rfl)) dX9_years_4 ⟨Nat.le_of_ble_eq_true rfl, Nat.le_of_ble_eq_true rfl⟩) hP hS (fun H locs hP hS => ?_)
  refine lv_if_eq (tgt := 21) hx hb dX9_years_7 (by decide) (fun c_1 => ?_) (fun c_1 => ?_)
  · skip
    refine lv_iconst (v := (-1)) hx hb dX9_years_21 (by decide) ?_
    exact W.iret (v := (-1)) hx hb hr (fun t ht hW => ⟨⟨(-1), (), rfl, rfl, trivial⟩, hS.F ht⟩) hS.2.2 dX9_years_22
  · exact absurd (by decide) c_1

def wq_X9_undo : List Cond := .code yX9_undo cX9_undo 1 (some .int) :: ([.fieldLink RX9 66 "HubTree" "past" "LHubTree$Past;", .fieldLink RX9 247 "HubTree$Past" "held" "I"] ++ wsX90 ++ wsX40)
theorem iq_X9_undo_9 : ∀ w ∈ wsX90, w ∈ wq_X9_undo := fun _ h => List.mem_cons_of_mem _ (List.mem_append_left _ (List.mem_append_right _ h))
theorem iq_X9_undo_4 : ∀ w ∈ wsX40, w ∈ wq_X9_undo := fun _ h => List.mem_cons_of_mem _ (List.mem_append_right _ h)
set_option maxHeartbeats 4000000 in
set_option maxRecDepth 100000 in
theorem c_X9_undo (l : Launch) (dC : Nat → ClassId) (dI : Nat → Nat → Nat) (a : Nat → Nat) : Met l yX9_undo wq_X9_undo ({ frames := 0, cells := 0, slots := 0, locals := 0 }) (va_Pc [.ref (a 0)] (q_R (dC, dI) [((a 0), .inr (9, [.ref (a 1), .ref (a 3), .ref (a 4), .ref (a 7), .ref (a 10), .ref (a 14), .ref (a 16), .ref (a 18), .ref (a 19), .ref (a 21), .ref (a 23), .ref (a 25), .ref (a 27), .ref (a 28), .int 0])), ((a 19), .inr (4, [.ref (a 20), .int 0, .int 0]))] [])) (q_i (-1)) 0 0 (fun _ => False) := by
  refine Met.ofW (cc := cX9_undo) (maxL := 1) (ret := (some .int)) (by decide) rfl ?_
  intro p e s m args below meth c s₁ B hml hv
  obtain ⟨rfl, hP, hK⟩ := hv
  have hx := B.exec
  have hb := B.bytes
  have hr := B.returns
  have hts := atoms_spec (ws := wq_X9_undo) B.pre
  have hown : s.vm.findClass RX9 = some m.cls := findClass_of_methodNamed B.named
  have hlocks := B.notSynchronized
  have hS : va_S (fun _ => False) s.heap s.heap [] := va_S.rf
  have hl := lv_entry ([.ref (a 0)]) (n := 1) (Nat.le_of_ble_eq_true rfl)
  rw [lg_entry_eq]
  generalize (lg_sl ([.ref (a 0)]) ++ List.replicate (1 - (lg_sl ([.ref (a 0)])).length) Slot.unset).toArray = ls at hl ⊢
  have hl : lv_has ls 1 [(0, .ref (a 0))] := hl
  refine lv_aload_n hx hb dX9_undo_0 rfl (lv_at hl 0 rfl) ?_
  refine va_get (D := (dC, dI)) (ci := 9) (v := .ref (a 19)) (C := RX9) (T := TX9) (N := 15) hx hb hts iq_X9_undo_9 hown hK hP 0 rfl rfl 8 (by decide) (hts (.fieldLink RX9 66 "HubTree" "past" "LHubTree$Past;") (List.mem_of_getElem? (i := 1) rfl)) (fun _ h9 => h9) rfl dX9_undo_1 ?_
  refine va_get (D := (dC, dI)) (ci := 4) (v := .int 0) (C := RX4) (T := TX4) (N := 3) hx hb hts iq_X9_undo_4 hown hK hP 1 rfl rfl 2 (by decide) (hts (.fieldLink RX9 247 "HubTree$Past" "held" "I") (List.mem_of_getElem? (i := 2) rfl)) (fun _ h9 => h9) rfl dX9_undo_4 ?_
  refine lv_if_ne (tgt := 12) hx hb dX9_undo_7 (by decide) (fun c_1 => ?_) (fun c_1 => ?_)
  · exact absurd (by decide) c_1
  refine lv_iconst (v := (-1)) hx hb dX9_undo_10 (by decide) ?_
  exact W.iret (v := (-1)) hx hb hr (fun t ht hW => ⟨⟨(-1), (), rfl, rfl, trivial⟩, hS.F ht⟩) hS.2.2 dX9_undo_11

def wq_X9_log : List Cond := .code yX9_log cX9_log 3 (some .int) :: ([.constant RX9 185 (-1000000), .fieldLink RX9 73 "HubTree" "diary" "LHubTree$Diary;", .methodLink RX9 255 yX1_shown, .instanceMethod yX1_shown, .selects RX1 yX1_shown yX1_shown, .initialized RX1, .code yX1_shown cX1_shown 1 (some .int), .fieldLink RX1 15 "HubTree$Diary" "total" "I", .methodLink RX1 19 Lib.Math.min.name, .static Lib.Math.min.name, .initialized "java/lang/Math", .code Lib.Math.min.name Lib.Math.min.code 2 (some .int)] ++ wsX90 ++ wsX10)
set_option maxRecDepth 20000 in
theorem g_X9_log_X1_shown_255 : GoodIn wq_X9_log (wsV RX9 255 RX1 yX1_shown wq_X1_shown) := goodIn_r _ [3, 4, 5, 6, 7, 8, 9, 10, 11, 12, 28, 29] (by decide +kernel) (by decide +kernel)
theorem iq_X9_log_9 : ∀ w ∈ wsX90, w ∈ wq_X9_log := fun _ h => List.mem_cons_of_mem _ (List.mem_append_left _ (List.mem_append_right _ h))
theorem iq_X9_log_1 : ∀ w ∈ wsX10, w ∈ wq_X9_log := fun _ h => List.mem_cons_of_mem _ (List.mem_append_right _ h)
set_option maxHeartbeats 4000000 in
set_option maxRecDepth 100000 in
theorem c_X9_log (l : Launch) (dC : Nat → ClassId) (dI : Nat → Nat → Nat) (a : Nat → Nat) (z1 : Int32) (z2 : Int32) : Met l yX9_log wq_X9_log ({ frames := 2, cells := 0, slots := 0, locals := 41 }) (va_Pc [.ref (a 0), .int z1, .int z2] (q_R (dC, dI) [((a 0), .inr (9, [.ref (a 1), .ref (a 3), .ref (a 4), .ref (a 7), .ref (a 10), .ref (a 14), .ref (a 16), .ref (a 18), .ref (a 19), .ref (a 21), .ref (a 23), .ref (a 25), .ref (a 27), .ref (a 28), .int 0])), ((a 21), .inr (1, [.ref (a 22), .int 0]))] [])) (q_i (-1000000)) 0 0 (fun _ => False) := by
  refine Met.ofW (cc := cX9_log) (maxL := 3) (ret := (some .int)) (by decide) rfl ?_
  intro p e s m args below meth c s₁ B hml hv
  obtain ⟨rfl, hP, hK⟩ := hv
  have hx := B.exec
  have hb := B.bytes
  have hr := B.returns
  have hts := atoms_spec (ws := wq_X9_log) B.pre
  have hown : s.vm.findClass RX9 = some m.cls := findClass_of_methodNamed B.named
  have hlocks := B.notSynchronized
  have hS : va_S (fun _ => False) s.heap s.heap [] := va_S.rf
  have hl := lv_entry ([.ref (a 0), .int z1, .int z2]) (n := 3) (Nat.le_of_ble_eq_true rfl)
  rw [lg_entry_eq]
  generalize (lg_sl ([.ref (a 0), .int z1, .int z2]) ++ List.replicate (3 - (lg_sl ([.ref (a 0), .int z1, .int z2])).length) Slot.unset).toArray = ls at hl ⊢
  have hl : lv_has ls 3 [(0, .ref (a 0)), (1, .int z1), (2, .int z2)] := hl
  refine lv_iload_n hx hb dX9_log_0 rfl (lv_at hl 1 rfl) ?_
  refine lv_if_lt (tgt := 24) hx hb dX9_log_1 (by decide) (fun c_1 => ?_) (fun c_1 => ?_)
  · skip
    refine lv_ldc (v := (-1000000)) hx hb hown (hts (.constant RX9 185 (-1000000)) (List.mem_of_getElem? (i := 1) rfl)) dX9_log_24 ?_
    exact W.iret (v := (-1000000)) hx hb hr (fun t ht hW => ⟨⟨(-1000000), (), rfl, rfl, trivial⟩, hS.F ht⟩) hS.2.2 dX9_log_26
  · skip
    refine lv_iload_n hx hb dX9_log_4 rfl (lv_at hl 1 rfl) ?_
    refine lv_aload_n hx hb dX9_log_5 rfl (lv_at hl 0 rfl) ?_
    refine va_get (D := (dC, dI)) (ci := 9) (v := .ref (a 21)) (C := RX9) (T := TX9) (N := 15) hx hb hts iq_X9_log_9 hown hK hP 0 rfl rfl 9 (by decide) (hts (.fieldLink RX9 73 "HubTree" "diary" "LHubTree$Diary;") (List.mem_of_getElem? (i := 2) rfl)) (fun _ h9 => h9) rfl dX9_log_6 ?_
    refine q_goi (v := 0) (va_runV (As := []) (rest := [.int z1]) ⟨hx, hb, hml, hown, hts⟩ (c_X1_shown l dC dI (a 21) (a 22)) (cwV 0 hts g_X9_log_X1_shown_255 rfl rfl rfl (by decide +kernel) ⟨Nat.le_of_ble_eq_true rfl, Nat.le_of_ble_eq_true rfl⟩) (q_preV hK hP (ci := 1) (q0 := 1) rfl rfl [1] rfl [] rfl) rfl rfl hl.1 rfl (lv_room (Nat.le_of_ble_eq_true rfl)) dX9_log_9 ⟨Nat.le_of_ble_eq_true rfl, Nat.le_of_ble_eq_true rfl⟩) hP hS (fun H locs hP hS => ?_)
    refine lv_icmp_ge (tgt := 24) hx hb dX9_log_12 (by decide) (fun c_2 => ?_) (fun c_2 => ?_)
    · skip
      refine lv_ldc (v := (-1000000)) hx hb hown (hts (.constant RX9 185 (-1000000)) (List.mem_of_getElem? (i := 1) rfl)) dX9_log_24 ?_
      exact W.iret (v := (-1000000)) hx hb hr (fun t ht hW => ⟨⟨(-1000000), (), rfl, rfl, trivial⟩, hS.F ht⟩) hS.2.2 dX9_log_26
    · exfalso; have := (show ((0 : Int32)).toInt = 0 from (by decide)); simp only [q_lt, q_le, q_eq] at c_1 c_2; omega

def wq_X9_when : List Cond := .code yX9_when cX9_when 2 (some .int) :: ([.fieldLink RX9 32 "HubTree" "plan" "LHubTree$Plan;", .methodLink RX9 153 yX5_has, .instanceMethod yX5_has, .selects RX5 yX5_has yX5_has, .initialized RX5, .code yX5_has cX5_has 2 (some .boolean), .fieldLink RX5 18 "HubTree$Plan" "devices" "I"] ++ wsX90 ++ wsX50)
set_option maxRecDepth 20000 in
theorem g_X9_when_X5_has_153 : GoodIn wq_X9_when (wsV RX9 153 RX5 yX5_has wq_X5_has) := goodIn_r _ [2, 3, 4, 5, 6, 7, 23, 24, 25] (by decide +kernel) (by decide +kernel)
theorem iq_X9_when_9 : ∀ w ∈ wsX90, w ∈ wq_X9_when := fun _ h => List.mem_cons_of_mem _ (List.mem_append_left _ (List.mem_append_right _ h))
theorem iq_X9_when_5 : ∀ w ∈ wsX50, w ∈ wq_X9_when := fun _ h => List.mem_cons_of_mem _ (List.mem_append_right _ h)
set_option maxHeartbeats 4000000 in
set_option maxRecDepth 100000 in
theorem c_X9_when (l : Launch) (dC : Nat → ClassId) (dI : Nat → Nat → Nat) (a : Nat → Nat) (z1 : Int32) : Met l yX9_when wq_X9_when ({ frames := 1, cells := 0, slots := 0, locals := 21 }) (va_Pc [.ref (a 0), .int z1] (q_R (dC, dI) [((a 0), .inr (9, [.ref (a 1), .ref (a 3), .ref (a 4), .ref (a 7), .ref (a 10), .ref (a 14), .ref (a 16), .ref (a 18), .ref (a 19), .ref (a 21), .ref (a 23), .ref (a 25), .ref (a 27), .ref (a 28), .int 0])), ((a 7), .inr (5, [.ref (a 8), .ref (a 9), .int 0]))] [])) (q_i (-1)) 0 0 (fun _ => False) := by
  refine Met.ofW (cc := cX9_when) (maxL := 2) (ret := (some .int)) (by decide) rfl ?_
  intro p e s m args below meth c s₁ B hml hv
  obtain ⟨rfl, hP, hK⟩ := hv
  have hx := B.exec
  have hb := B.bytes
  have hr := B.returns
  have hts := atoms_spec (ws := wq_X9_when) B.pre
  have hown : s.vm.findClass RX9 = some m.cls := findClass_of_methodNamed B.named
  have hlocks := B.notSynchronized
  have hS : va_S (fun _ => False) s.heap s.heap [] := va_S.rf
  have hl := lv_entry ([.ref (a 0), .int z1]) (n := 2) (Nat.le_of_ble_eq_true rfl)
  rw [lg_entry_eq]
  generalize (lg_sl ([.ref (a 0), .int z1]) ++ List.replicate (2 - (lg_sl ([.ref (a 0), .int z1])).length) Slot.unset).toArray = ls at hl ⊢
  have hl : lv_has ls 2 [(0, .ref (a 0)), (1, .int z1)] := hl
  refine lv_aload_n hx hb dX9_when_0 rfl (lv_at hl 0 rfl) ?_
  refine va_get (D := (dC, dI)) (ci := 9) (v := .ref (a 7)) (C := RX9) (T := TX9) (N := 15) hx hb hts iq_X9_when_9 hown hK hP 0 rfl rfl 3 (by decide) (hts (.fieldLink RX9 32 "HubTree" "plan" "LHubTree$Plan;") (List.mem_of_getElem? (i := 1) rfl)) (fun _ h9 => h9) rfl dX9_when_1 ?_
  refine lv_iload_n hx hb dX9_when_4 rfl (lv_at hl 1 rfl) ?_
  refine q_goi (v := 0) (va_runV (As := [.int z1]) (rest := []) ⟨hx, hb, hml, hown, hts⟩ (c_X5_has l dC dI (a 7) (a 8) (a 9) z1) (cwV 1 hts g_X9_when_X5_has_153 rfl rfl rfl (by decide +kernel) ⟨Nat.le_of_ble_eq_true rfl, Nat.le_of_ble_eq_true rfl⟩) (q_preV hK hP (ci := 5) (q0 := 1) rfl rfl [1] rfl [] rfl) rfl rfl hl.1 rfl (lv_room (Nat.le_of_ble_eq_true rfl)) dX9_when_5 ⟨Nat.le_of_ble_eq_true rfl, Nat.le_of_ble_eq_true rfl⟩) hP hS (fun H locs hP hS => ?_)
  refine lv_if_eq (tgt := 34) hx hb dX9_when_8 (by decide) (fun c_1 => ?_) (fun c_1 => ?_)
  · skip
    refine lv_iconst (v := (-1)) hx hb dX9_when_34 (by decide) ?_
    exact W.iret (v := (-1)) hx hb hr (fun t ht hW => ⟨⟨(-1), (), rfl, rfl, trivial⟩, hS.F ht⟩) hS.2.2 dX9_when_35
  · exact absurd (by decide) c_1

def wq_X9_ahead : List Cond := .code yX9_ahead cX9_ahead 4 (some .int) :: ([.fieldLink RX9 32 "HubTree" "plan" "LHubTree$Plan;", .methodLink RX9 146 yX5_isTold, .instanceMethod yX5_isTold, .selects RX5 yX5_isTold yX5_isTold, .initialized RX5, .code yX5_isTold cX5_isTold 1 (some .boolean), .fieldLink RX5 18 "HubTree$Plan" "devices" "I"] ++ wsX90 ++ wsX50)
set_option maxRecDepth 20000 in
theorem g_X9_ahead_X5_isTold_146 : GoodIn wq_X9_ahead (wsV RX9 146 RX5 yX5_isTold wq_X5_isTold) := goodIn_r _ [2, 3, 4, 5, 6, 7, 23, 24, 25] (by decide +kernel) (by decide +kernel)
theorem iq_X9_ahead_9 : ∀ w ∈ wsX90, w ∈ wq_X9_ahead := fun _ h => List.mem_cons_of_mem _ (List.mem_append_left _ (List.mem_append_right _ h))
theorem iq_X9_ahead_5 : ∀ w ∈ wsX50, w ∈ wq_X9_ahead := fun _ h => List.mem_cons_of_mem _ (List.mem_append_right _ h)
set_option maxHeartbeats 4000000 in
set_option maxRecDepth 100000 in
theorem c_X9_ahead (l : Launch) (dC : Nat → ClassId) (dI : Nat → Nat → Nat) (a : Nat → Nat) (z1 : Int32) (z2 : Int32) : Met l yX9_ahead wq_X9_ahead ({ frames := 1, cells := 0, slots := 0, locals := 20 }) (va_Pc [.ref (a 0), .int z1, .int z2] (q_R (dC, dI) [((a 0), .inr (9, [.ref (a 1), .ref (a 3), .ref (a 4), .ref (a 7), .ref (a 10), .ref (a 14), .ref (a 16), .ref (a 18), .ref (a 19), .ref (a 21), .ref (a 23), .ref (a 25), .ref (a 27), .ref (a 28), .int 0])), ((a 7), .inr (5, [.ref (a 8), .ref (a 9), .int 0]))] [])) (q_i (-1)) 0 0 (fun _ => False) := by
  refine Met.ofW (cc := cX9_ahead) (maxL := 4) (ret := (some .int)) (by decide) rfl ?_
  intro p e s m args below meth c s₁ B hml hv
  obtain ⟨rfl, hP, hK⟩ := hv
  have hx := B.exec
  have hb := B.bytes
  have hr := B.returns
  have hts := atoms_spec (ws := wq_X9_ahead) B.pre
  have hown : s.vm.findClass RX9 = some m.cls := findClass_of_methodNamed B.named
  have hlocks := B.notSynchronized
  have hS : va_S (fun _ => False) s.heap s.heap [] := va_S.rf
  have hl := lv_entry ([.ref (a 0), .int z1, .int z2]) (n := 4) (Nat.le_of_ble_eq_true rfl)
  rw [lg_entry_eq]
  generalize (lg_sl ([.ref (a 0), .int z1, .int z2]) ++ List.replicate (4 - (lg_sl ([.ref (a 0), .int z1, .int z2])).length) Slot.unset).toArray = ls at hl ⊢
  have hl : lv_has ls 4 [(0, .ref (a 0)), (1, .int z1), (2, .int z2)] := hl
  refine lv_aload_n hx hb dX9_ahead_0 rfl (lv_at hl 0 rfl) ?_
  refine va_get (D := (dC, dI)) (ci := 9) (v := .ref (a 7)) (C := RX9) (T := TX9) (N := 15) hx hb hts iq_X9_ahead_9 hown hK hP 0 rfl rfl 3 (by decide) (hts (.fieldLink RX9 32 "HubTree" "plan" "LHubTree$Plan;") (List.mem_of_getElem? (i := 1) rfl)) (fun _ h9 => h9) rfl dX9_ahead_1 ?_
  refine q_goi (v := 0) (va_runV (As := []) (rest := []) ⟨hx, hb, hml, hown, hts⟩ (c_X5_isTold l dC dI (a 7) (a 8) (a 9)) (cwV 0 hts g_X9_ahead_X5_isTold_146 rfl rfl rfl (by decide +kernel) ⟨Nat.le_of_ble_eq_true rfl, Nat.le_of_ble_eq_true rfl⟩) (q_preV hK hP (ci := 5) (q0 := 1) rfl rfl [1] rfl [] rfl) rfl rfl hl.1 rfl (lv_room (Nat.le_of_ble_eq_true rfl)) dX9_ahead_4 ⟨Nat.le_of_ble_eq_true rfl, Nat.le_of_ble_eq_true rfl⟩) hP hS (fun H locs hP hS => ?_)
  refine lv_if_eq (tgt := 34) hx hb dX9_ahead_7 (by decide) (fun c_1 => ?_) (fun c_1 => ?_)
  · skip
    refine lv_iconst (v := 0) hx hb dX9_ahead_34 (by decide) ?_
    refine lv_istore_n (lv' := [(3, .int 0), (0, .ref (a 0)), (1, .int z1), (2, .int z2)]) hx hb dX9_ahead_35 rfl hl (by decide) rfl (fun ls hl => ?_)
    refine lv_iload_n hx hb dX9_ahead_36 rfl (lv_at hl 0 rfl) ?_
    refine lv_if_eq (tgt := 58) hx hb dX9_ahead_37 (by decide) (fun c_2 => ?_) (fun c_2 => ?_)
    · skip
      refine lv_iconst (v := (-1)) hx hb dX9_ahead_58 (by decide) ?_
      exact W.iret (v := (-1)) hx hb hr (fun t ht hW => ⟨⟨(-1), (), rfl, rfl, trivial⟩, hS.F ht⟩) hS.2.2 dX9_ahead_59
    · exact absurd (by decide) c_2
  · exact absurd (by decide) c_1

def wq_X9_last : List Cond := .code yX9_last cX9_last 1 (some .int) :: ([.fieldLink RX9 32 "HubTree" "plan" "LHubTree$Plan;", .methodLink RX9 146 yX5_isTold, .instanceMethod yX5_isTold, .selects RX5 yX5_isTold yX5_isTold, .initialized RX5, .code yX5_isTold cX5_isTold 1 (some .boolean), .fieldLink RX5 18 "HubTree$Plan" "devices" "I"] ++ wsX90 ++ wsX50)
set_option maxRecDepth 20000 in
theorem g_X9_last_X5_isTold_146 : GoodIn wq_X9_last (wsV RX9 146 RX5 yX5_isTold wq_X5_isTold) := goodIn_r _ [2, 3, 4, 5, 6, 7, 23, 24, 25] (by decide +kernel) (by decide +kernel)
theorem iq_X9_last_9 : ∀ w ∈ wsX90, w ∈ wq_X9_last := fun _ h => List.mem_cons_of_mem _ (List.mem_append_left _ (List.mem_append_right _ h))
theorem iq_X9_last_5 : ∀ w ∈ wsX50, w ∈ wq_X9_last := fun _ h => List.mem_cons_of_mem _ (List.mem_append_right _ h)
set_option maxHeartbeats 4000000 in
set_option maxRecDepth 100000 in
theorem c_X9_last (l : Launch) (dC : Nat → ClassId) (dI : Nat → Nat → Nat) (a : Nat → Nat) : Met l yX9_last wq_X9_last ({ frames := 1, cells := 0, slots := 0, locals := 20 }) (va_Pc [.ref (a 0)] (q_R (dC, dI) [((a 0), .inr (9, [.ref (a 1), .ref (a 3), .ref (a 4), .ref (a 7), .ref (a 10), .ref (a 14), .ref (a 16), .ref (a 18), .ref (a 19), .ref (a 21), .ref (a 23), .ref (a 25), .ref (a 27), .ref (a 28), .int 0])), ((a 7), .inr (5, [.ref (a 8), .ref (a 9), .int 0]))] [])) (q_i (-1)) 0 0 (fun _ => False) := by
  refine Met.ofW (cc := cX9_last) (maxL := 1) (ret := (some .int)) (by decide) rfl ?_
  intro p e s m args below meth c s₁ B hml hv
  obtain ⟨rfl, hP, hK⟩ := hv
  have hx := B.exec
  have hb := B.bytes
  have hr := B.returns
  have hts := atoms_spec (ws := wq_X9_last) B.pre
  have hown : s.vm.findClass RX9 = some m.cls := findClass_of_methodNamed B.named
  have hlocks := B.notSynchronized
  have hS : va_S (fun _ => False) s.heap s.heap [] := va_S.rf
  have hl := lv_entry ([.ref (a 0)]) (n := 1) (Nat.le_of_ble_eq_true rfl)
  rw [lg_entry_eq]
  generalize (lg_sl ([.ref (a 0)]) ++ List.replicate (1 - (lg_sl ([.ref (a 0)])).length) Slot.unset).toArray = ls at hl ⊢
  have hl : lv_has ls 1 [(0, .ref (a 0))] := hl
  refine lv_aload_n hx hb dX9_last_0 rfl (lv_at hl 0 rfl) ?_
  refine va_get (D := (dC, dI)) (ci := 9) (v := .ref (a 7)) (C := RX9) (T := TX9) (N := 15) hx hb hts iq_X9_last_9 hown hK hP 0 rfl rfl 3 (by decide) (hts (.fieldLink RX9 32 "HubTree" "plan" "LHubTree$Plan;") (List.mem_of_getElem? (i := 1) rfl)) (fun _ h9 => h9) rfl dX9_last_1 ?_
  refine q_goi (v := 0) (va_runV (As := []) (rest := []) ⟨hx, hb, hml, hown, hts⟩ (c_X5_isTold l dC dI (a 7) (a 8) (a 9)) (cwV 0 hts g_X9_last_X5_isTold_146 rfl rfl rfl (by decide +kernel) ⟨Nat.le_of_ble_eq_true rfl, Nat.le_of_ble_eq_true rfl⟩) (q_preV hK hP (ci := 5) (q0 := 1) rfl rfl [1] rfl [] rfl) rfl rfl hl.1 rfl (lv_room (Nat.le_of_ble_eq_true rfl)) dX9_last_4 ⟨Nat.le_of_ble_eq_true rfl, Nat.le_of_ble_eq_true rfl⟩) hP hS (fun H locs hP hS => ?_)
  refine lv_if_eq (tgt := 20) hx hb dX9_last_7 (by decide) (fun c_1 => ?_) (fun c_1 => ?_)
  · skip
    refine lv_iconst (v := (-1)) hx hb dX9_last_20 (by decide) ?_
    exact W.iret (v := (-1)) hx hb hr (fun t ht hW => ⟨⟨(-1), (), rfl, rfl, trivial⟩, hS.F ht⟩) hS.2.2 dX9_last_21
  · exact absurd (by decide) c_1

def wq_X9_place : List Cond := .code yX9_place cX9_place 2 (some .int) :: ([.fieldLink RX9 32 "HubTree" "plan" "LHubTree$Plan;", .methodLink RX9 153 yX5_has, .instanceMethod yX5_has, .selects RX5 yX5_has yX5_has, .initialized RX5, .code yX5_has cX5_has 2 (some .boolean), .fieldLink RX5 18 "HubTree$Plan" "devices" "I"] ++ wsX90 ++ wsX50)
set_option maxRecDepth 20000 in
theorem g_X9_place_X5_has_153 : GoodIn wq_X9_place (wsV RX9 153 RX5 yX5_has wq_X5_has) := goodIn_r _ [2, 3, 4, 5, 6, 7, 23, 24, 25] (by decide +kernel) (by decide +kernel)
theorem iq_X9_place_9 : ∀ w ∈ wsX90, w ∈ wq_X9_place := fun _ h => List.mem_cons_of_mem _ (List.mem_append_left _ (List.mem_append_right _ h))
theorem iq_X9_place_5 : ∀ w ∈ wsX50, w ∈ wq_X9_place := fun _ h => List.mem_cons_of_mem _ (List.mem_append_right _ h)
set_option maxHeartbeats 4000000 in
set_option maxRecDepth 100000 in
theorem c_X9_place (l : Launch) (dC : Nat → ClassId) (dI : Nat → Nat → Nat) (a : Nat → Nat) (z1 : Int32) : Met l yX9_place wq_X9_place ({ frames := 1, cells := 0, slots := 0, locals := 21 }) (va_Pc [.ref (a 0), .int z1] (q_R (dC, dI) [((a 0), .inr (9, [.ref (a 1), .ref (a 3), .ref (a 4), .ref (a 7), .ref (a 10), .ref (a 14), .ref (a 16), .ref (a 18), .ref (a 19), .ref (a 21), .ref (a 23), .ref (a 25), .ref (a 27), .ref (a 28), .int 0])), ((a 7), .inr (5, [.ref (a 8), .ref (a 9), .int 0]))] [])) (q_i (-1)) 0 0 (fun _ => False) := by
  refine Met.ofW (cc := cX9_place) (maxL := 2) (ret := (some .int)) (by decide) rfl ?_
  intro p e s m args below meth c s₁ B hml hv
  obtain ⟨rfl, hP, hK⟩ := hv
  have hx := B.exec
  have hb := B.bytes
  have hr := B.returns
  have hts := atoms_spec (ws := wq_X9_place) B.pre
  have hown : s.vm.findClass RX9 = some m.cls := findClass_of_methodNamed B.named
  have hlocks := B.notSynchronized
  have hS : va_S (fun _ => False) s.heap s.heap [] := va_S.rf
  have hl := lv_entry ([.ref (a 0), .int z1]) (n := 2) (Nat.le_of_ble_eq_true rfl)
  rw [lg_entry_eq]
  generalize (lg_sl ([.ref (a 0), .int z1]) ++ List.replicate (2 - (lg_sl ([.ref (a 0), .int z1])).length) Slot.unset).toArray = ls at hl ⊢
  have hl : lv_has ls 2 [(0, .ref (a 0)), (1, .int z1)] := hl
  refine lv_aload_n hx hb dX9_place_0 rfl (lv_at hl 0 rfl) ?_
  refine va_get (D := (dC, dI)) (ci := 9) (v := .ref (a 7)) (C := RX9) (T := TX9) (N := 15) hx hb hts iq_X9_place_9 hown hK hP 0 rfl rfl 3 (by decide) (hts (.fieldLink RX9 32 "HubTree" "plan" "LHubTree$Plan;") (List.mem_of_getElem? (i := 1) rfl)) (fun _ h9 => h9) rfl dX9_place_1 ?_
  refine lv_iload_n hx hb dX9_place_4 rfl (lv_at hl 1 rfl) ?_
  refine q_goi (v := 0) (va_runV (As := [.int z1]) (rest := []) ⟨hx, hb, hml, hown, hts⟩ (c_X5_has l dC dI (a 7) (a 8) (a 9) z1) (cwV 1 hts g_X9_place_X5_has_153 rfl rfl rfl (by decide +kernel) ⟨Nat.le_of_ble_eq_true rfl, Nat.le_of_ble_eq_true rfl⟩) (q_preV hK hP (ci := 5) (q0 := 1) rfl rfl [1] rfl [] rfl) rfl rfl hl.1 rfl (lv_room (Nat.le_of_ble_eq_true rfl)) dX9_place_5 ⟨Nat.le_of_ble_eq_true rfl, Nat.le_of_ble_eq_true rfl⟩) hP hS (fun H locs hP hS => ?_)
  refine lv_if_eq (tgt := 34) hx hb dX9_place_8 (by decide) (fun c_1 => ?_) (fun c_1 => ?_)
  · skip
    refine lv_iconst (v := (-1)) hx hb dX9_place_34 (by decide) ?_
    exact W.iret (v := (-1)) hx hb hr (fun t ht hW => ⟨⟨(-1), (), rfl, rfl, trivial⟩, hS.F ht⟩) hS.2.2 dX9_place_35
  · exact absurd (by decide) c_1

def wq_X9_order : List Cond := .code yX9_order cX9_order 2 (some .int) :: ([.fieldLink RX9 32 "HubTree" "plan" "LHubTree$Plan;", .methodLink RX9 146 yX5_isTold, .instanceMethod yX5_isTold, .selects RX5 yX5_isTold yX5_isTold, .initialized RX5, .code yX5_isTold cX5_isTold 1 (some .boolean), .fieldLink RX5 18 "HubTree$Plan" "devices" "I"] ++ wsX90 ++ wsX50)
set_option maxRecDepth 20000 in
theorem g_X9_order_X5_isTold_146 : GoodIn wq_X9_order (wsV RX9 146 RX5 yX5_isTold wq_X5_isTold) := goodIn_r _ [2, 3, 4, 5, 6, 7, 23, 24, 25] (by decide +kernel) (by decide +kernel)
theorem iq_X9_order_9 : ∀ w ∈ wsX90, w ∈ wq_X9_order := fun _ h => List.mem_cons_of_mem _ (List.mem_append_left _ (List.mem_append_right _ h))
theorem iq_X9_order_5 : ∀ w ∈ wsX50, w ∈ wq_X9_order := fun _ h => List.mem_cons_of_mem _ (List.mem_append_right _ h)
set_option maxHeartbeats 4000000 in
set_option maxRecDepth 100000 in
theorem c_X9_order (l : Launch) (dC : Nat → ClassId) (dI : Nat → Nat → Nat) (a : Nat → Nat) (z1 : Int32) : Met l yX9_order wq_X9_order ({ frames := 1, cells := 0, slots := 0, locals := 20 }) (va_Pc [.ref (a 0), .int z1] (q_R (dC, dI) [((a 0), .inr (9, [.ref (a 1), .ref (a 3), .ref (a 4), .ref (a 7), .ref (a 10), .ref (a 14), .ref (a 16), .ref (a 18), .ref (a 19), .ref (a 21), .ref (a 23), .ref (a 25), .ref (a 27), .ref (a 28), .int 0])), ((a 7), .inr (5, [.ref (a 8), .ref (a 9), .int 0]))] [])) (q_i (-1)) 0 0 (fun _ => False) := by
  refine Met.ofW (cc := cX9_order) (maxL := 2) (ret := (some .int)) (by decide) rfl ?_
  intro p e s m args below meth c s₁ B hml hv
  obtain ⟨rfl, hP, hK⟩ := hv
  have hx := B.exec
  have hb := B.bytes
  have hr := B.returns
  have hts := atoms_spec (ws := wq_X9_order) B.pre
  have hown : s.vm.findClass RX9 = some m.cls := findClass_of_methodNamed B.named
  have hlocks := B.notSynchronized
  have hS : va_S (fun _ => False) s.heap s.heap [] := va_S.rf
  have hl := lv_entry ([.ref (a 0), .int z1]) (n := 2) (Nat.le_of_ble_eq_true rfl)
  rw [lg_entry_eq]
  generalize (lg_sl ([.ref (a 0), .int z1]) ++ List.replicate (2 - (lg_sl ([.ref (a 0), .int z1])).length) Slot.unset).toArray = ls at hl ⊢
  have hl : lv_has ls 2 [(0, .ref (a 0)), (1, .int z1)] := hl
  refine lv_aload_n hx hb dX9_order_0 rfl (lv_at hl 0 rfl) ?_
  refine va_get (D := (dC, dI)) (ci := 9) (v := .ref (a 7)) (C := RX9) (T := TX9) (N := 15) hx hb hts iq_X9_order_9 hown hK hP 0 rfl rfl 3 (by decide) (hts (.fieldLink RX9 32 "HubTree" "plan" "LHubTree$Plan;") (List.mem_of_getElem? (i := 1) rfl)) (fun _ h9 => h9) rfl dX9_order_1 ?_
  refine q_goi (v := 0) (va_runV (As := []) (rest := []) ⟨hx, hb, hml, hown, hts⟩ (c_X5_isTold l dC dI (a 7) (a 8) (a 9)) (cwV 0 hts g_X9_order_X5_isTold_146 rfl rfl rfl (by decide +kernel) ⟨Nat.le_of_ble_eq_true rfl, Nat.le_of_ble_eq_true rfl⟩) (q_preV hK hP (ci := 5) (q0 := 1) rfl rfl [1] rfl [] rfl) rfl rfl hl.1 rfl (lv_room (Nat.le_of_ble_eq_true rfl)) dX9_order_4 ⟨Nat.le_of_ble_eq_true rfl, Nat.le_of_ble_eq_true rfl⟩) hP hS (fun H locs hP hS => ?_)
  refine lv_if_eq (tgt := 31) hx hb dX9_order_7 (by decide) (fun c_1 => ?_) (fun c_1 => ?_)
  · skip
    refine lv_iconst (v := (-1)) hx hb dX9_order_31 (by decide) ?_
    exact W.iret (v := (-1)) hx hb hr (fun t ht hW => ⟨⟨(-1), (), rfl, rfl, trivial⟩, hS.F ht⟩) hS.2.2 dX9_order_32
  · exact absurd (by decide) c_1

def wq_X9_lost : List Cond := .code yX9_lost cX9_lost 3 (some .int) :: ([.fieldLink RX9 32 "HubTree" "plan" "LHubTree$Plan;", .methodLink RX9 153 yX5_has, .instanceMethod yX5_has, .selects RX5 yX5_has yX5_has, .initialized RX5, .code yX5_has cX5_has 2 (some .boolean), .fieldLink RX5 18 "HubTree$Plan" "devices" "I"] ++ wsX90 ++ wsX50)
set_option maxRecDepth 20000 in
theorem g_X9_lost_X5_has_153 : GoodIn wq_X9_lost (wsV RX9 153 RX5 yX5_has wq_X5_has) := goodIn_r _ [2, 3, 4, 5, 6, 7, 23, 24, 25] (by decide +kernel) (by decide +kernel)
theorem iq_X9_lost_9 : ∀ w ∈ wsX90, w ∈ wq_X9_lost := fun _ h => List.mem_cons_of_mem _ (List.mem_append_left _ (List.mem_append_right _ h))
theorem iq_X9_lost_5 : ∀ w ∈ wsX50, w ∈ wq_X9_lost := fun _ h => List.mem_cons_of_mem _ (List.mem_append_right _ h)
set_option maxHeartbeats 4000000 in
set_option maxRecDepth 100000 in
theorem c_X9_lost (l : Launch) (dC : Nat → ClassId) (dI : Nat → Nat → Nat) (a : Nat → Nat) (z1 : Int32) : Met l yX9_lost wq_X9_lost ({ frames := 1, cells := 0, slots := 0, locals := 21 }) (va_Pc [.ref (a 0), .int z1] (q_R (dC, dI) [((a 0), .inr (9, [.ref (a 1), .ref (a 3), .ref (a 4), .ref (a 7), .ref (a 10), .ref (a 14), .ref (a 16), .ref (a 18), .ref (a 19), .ref (a 21), .ref (a 23), .ref (a 25), .ref (a 27), .ref (a 28), .int 0])), ((a 7), .inr (5, [.ref (a 8), .ref (a 9), .int 0]))] [])) (q_i (-1)) 0 0 (fun _ => False) := by
  refine Met.ofW (cc := cX9_lost) (maxL := 3) (ret := (some .int)) (by decide) rfl ?_
  intro p e s m args below meth c s₁ B hml hv
  obtain ⟨rfl, hP, hK⟩ := hv
  have hx := B.exec
  have hb := B.bytes
  have hr := B.returns
  have hts := atoms_spec (ws := wq_X9_lost) B.pre
  have hown : s.vm.findClass RX9 = some m.cls := findClass_of_methodNamed B.named
  have hlocks := B.notSynchronized
  have hS : va_S (fun _ => False) s.heap s.heap [] := va_S.rf
  have hl := lv_entry ([.ref (a 0), .int z1]) (n := 3) (Nat.le_of_ble_eq_true rfl)
  rw [lg_entry_eq]
  generalize (lg_sl ([.ref (a 0), .int z1]) ++ List.replicate (3 - (lg_sl ([.ref (a 0), .int z1])).length) Slot.unset).toArray = ls at hl ⊢
  have hl : lv_has ls 3 [(0, .ref (a 0)), (1, .int z1)] := hl
  refine lv_aload_n hx hb dX9_lost_0 rfl (lv_at hl 0 rfl) ?_
  refine va_get (D := (dC, dI)) (ci := 9) (v := .ref (a 7)) (C := RX9) (T := TX9) (N := 15) hx hb hts iq_X9_lost_9 hown hK hP 0 rfl rfl 3 (by decide) (hts (.fieldLink RX9 32 "HubTree" "plan" "LHubTree$Plan;") (List.mem_of_getElem? (i := 1) rfl)) (fun _ h9 => h9) rfl dX9_lost_1 ?_
  refine lv_iload_n hx hb dX9_lost_4 rfl (lv_at hl 1 rfl) ?_
  refine q_goi (v := 0) (va_runV (As := [.int z1]) (rest := []) ⟨hx, hb, hml, hown, hts⟩ (c_X5_has l dC dI (a 7) (a 8) (a 9) z1) (cwV 1 hts g_X9_lost_X5_has_153 rfl rfl rfl (by decide +kernel) ⟨Nat.le_of_ble_eq_true rfl, Nat.le_of_ble_eq_true rfl⟩) (q_preV hK hP (ci := 5) (q0 := 1) rfl rfl [1] rfl [] rfl) rfl rfl hl.1 rfl (lv_room (Nat.le_of_ble_eq_true rfl)) dX9_lost_5 ⟨Nat.le_of_ble_eq_true rfl, Nat.le_of_ble_eq_true rfl⟩) hP hS (fun H locs hP hS => ?_)
  refine lv_if_eq (tgt := 31) hx hb dX9_lost_8 (by decide) (fun c_1 => ?_) (fun c_1 => ?_)
  · skip
    refine lv_iconst (v := 0) hx hb dX9_lost_31 (by decide) ?_
    refine lv_istore_n (lv' := [(2, .int 0), (0, .ref (a 0)), (1, .int z1)]) hx hb dX9_lost_32 rfl hl (by decide) rfl (fun ls hl => ?_)
    refine lv_iload_n hx hb dX9_lost_33 rfl (lv_at hl 0 rfl) ?_
    refine lv_if_eq (tgt := 48) hx hb dX9_lost_34 (by decide) (fun c_2 => ?_) (fun c_2 => ?_)
    · skip
      refine lv_iconst (v := (-1)) hx hb dX9_lost_48 (by decide) ?_
      exact W.iret (v := (-1)) hx hb hr (fun t ht hW => ⟨⟨(-1), (), rfl, rfl, trivial⟩, hS.F ht⟩) hS.2.2 dX9_lost_49
    · exact absurd (by decide) c_2
  · exact absurd (by decide) c_1

def wq_X9_shares : List Cond := .code yX9_shares cX9_shares 5 (some .int) :: ([.fieldLink RX9 32 "HubTree" "plan" "LHubTree$Plan;", .methodLink RX9 153 yX5_has, .instanceMethod yX5_has, .selects RX5 yX5_has yX5_has, .initialized RX5, .code yX5_has cX5_has 2 (some .boolean), .fieldLink RX5 18 "HubTree$Plan" "devices" "I"] ++ wsX90 ++ wsX50)
set_option maxRecDepth 20000 in
theorem g_X9_shares_X5_has_153 : GoodIn wq_X9_shares (wsV RX9 153 RX5 yX5_has wq_X5_has) := goodIn_r _ [2, 3, 4, 5, 6, 7, 23, 24, 25] (by decide +kernel) (by decide +kernel)
theorem iq_X9_shares_9 : ∀ w ∈ wsX90, w ∈ wq_X9_shares := fun _ h => List.mem_cons_of_mem _ (List.mem_append_left _ (List.mem_append_right _ h))
theorem iq_X9_shares_5 : ∀ w ∈ wsX50, w ∈ wq_X9_shares := fun _ h => List.mem_cons_of_mem _ (List.mem_append_right _ h)
set_option maxHeartbeats 4000000 in
set_option maxRecDepth 100000 in
theorem c_X9_shares (l : Launch) (dC : Nat → ClassId) (dI : Nat → Nat → Nat) (a : Nat → Nat) (z1 : Int32) (z2 : Int32) : Met l yX9_shares wq_X9_shares ({ frames := 1, cells := 0, slots := 0, locals := 21 }) (va_Pc [.ref (a 0), .int z1, .int z2] (q_R (dC, dI) [((a 0), .inr (9, [.ref (a 1), .ref (a 3), .ref (a 4), .ref (a 7), .ref (a 10), .ref (a 14), .ref (a 16), .ref (a 18), .ref (a 19), .ref (a 21), .ref (a 23), .ref (a 25), .ref (a 27), .ref (a 28), .int 0])), ((a 7), .inr (5, [.ref (a 8), .ref (a 9), .int 0]))] [])) (q_i (-1)) 0 0 (fun _ => False) := by
  refine Met.ofW (cc := cX9_shares) (maxL := 5) (ret := (some .int)) (by decide) rfl ?_
  intro p e s m args below meth c s₁ B hml hv
  obtain ⟨rfl, hP, hK⟩ := hv
  have hx := B.exec
  have hb := B.bytes
  have hr := B.returns
  have hts := atoms_spec (ws := wq_X9_shares) B.pre
  have hown : s.vm.findClass RX9 = some m.cls := findClass_of_methodNamed B.named
  have hlocks := B.notSynchronized
  have hS : va_S (fun _ => False) s.heap s.heap [] := va_S.rf
  have hl := lv_entry ([.ref (a 0), .int z1, .int z2]) (n := 5) (Nat.le_of_ble_eq_true rfl)
  rw [lg_entry_eq]
  generalize (lg_sl ([.ref (a 0), .int z1, .int z2]) ++ List.replicate (5 - (lg_sl ([.ref (a 0), .int z1, .int z2])).length) Slot.unset).toArray = ls at hl ⊢
  have hl : lv_has ls 5 [(0, .ref (a 0)), (1, .int z1), (2, .int z2)] := hl
  refine lv_aload_n hx hb dX9_shares_0 rfl (lv_at hl 0 rfl) ?_
  refine va_get (D := (dC, dI)) (ci := 9) (v := .ref (a 7)) (C := RX9) (T := TX9) (N := 15) hx hb hts iq_X9_shares_9 hown hK hP 0 rfl rfl 3 (by decide) (hts (.fieldLink RX9 32 "HubTree" "plan" "LHubTree$Plan;") (List.mem_of_getElem? (i := 1) rfl)) (fun _ h9 => h9) rfl dX9_shares_1 ?_
  refine lv_iload_n hx hb dX9_shares_4 rfl (lv_at hl 1 rfl) ?_
  refine q_goi (v := 0) (va_runV (As := [.int z1]) (rest := []) ⟨hx, hb, hml, hown, hts⟩ (c_X5_has l dC dI (a 7) (a 8) (a 9) z1) (cwV 1 hts g_X9_shares_X5_has_153 rfl rfl rfl (by decide +kernel) ⟨Nat.le_of_ble_eq_true rfl, Nat.le_of_ble_eq_true rfl⟩) (q_preV hK hP (ci := 5) (q0 := 1) rfl rfl [1] rfl [] rfl) rfl rfl hl.1 rfl (lv_room (Nat.le_of_ble_eq_true rfl)) dX9_shares_5 ⟨Nat.le_of_ble_eq_true rfl, Nat.le_of_ble_eq_true rfl⟩) hP hS (fun H locs hP hS => ?_)
  refine lv_if_eq (tgt := 35) hx hb dX9_shares_8 (by decide) (fun c_1 => ?_) (fun c_1 => ?_)
  · skip
    refine lv_iconst (v := (-1)) hx hb dX9_shares_35 (by decide) ?_
    exact W.iret (v := (-1)) hx hb hr (fun t ht hW => ⟨⟨(-1), (), rfl, rfl, trivial⟩, hS.F ht⟩) hS.2.2 dX9_shares_36
  · exact absurd (by decide) c_1

def wq_X9_step : List Cond := .code yX9_step cX9_step 4 (some .int) :: ([.fieldLink RX9 38 "HubTree" "scripts" "LHubTree$Scripts;", .methodLink RX9 279 yX7_has, .instanceMethod yX7_has, .selects RX7 yX7_has yX7_has, .initialized RX7, .code yX7_has cX7_has 2 (some .boolean), .fieldLink RX7 25 "HubTree$Scripts" "held" "I", .constant RX9 185 (-1000000)] ++ wsX90 ++ wsX70)
set_option maxRecDepth 20000 in
theorem g_X9_step_X7_has_279 : GoodIn wq_X9_step (wsV RX9 279 RX7 yX7_has wq_X7_has) := goodIn_r _ [2, 3, 4, 5, 6, 7, 24, 25, 26, 27, 28] (by decide +kernel) (by decide +kernel)
theorem iq_X9_step_9 : ∀ w ∈ wsX90, w ∈ wq_X9_step := fun _ h => List.mem_cons_of_mem _ (List.mem_append_left _ (List.mem_append_right _ h))
theorem iq_X9_step_7 : ∀ w ∈ wsX70, w ∈ wq_X9_step := fun _ h => List.mem_cons_of_mem _ (List.mem_append_right _ h)
set_option maxHeartbeats 4000000 in
set_option maxRecDepth 100000 in
theorem c_X9_step (l : Launch) (dC : Nat → ClassId) (dI : Nat → Nat → Nat) (a : Nat → Nat) (z1 : Int32) (z2 : Int32) (z3 : Int32) : Met l yX9_step wq_X9_step ({ frames := 1, cells := 0, slots := 0, locals := 21 }) (va_Pc [.ref (a 0), .int z1, .int z2, .int z3] (q_R (dC, dI) [((a 0), .inr (9, [.ref (a 1), .ref (a 3), .ref (a 4), .ref (a 7), .ref (a 10), .ref (a 14), .ref (a 16), .ref (a 18), .ref (a 19), .ref (a 21), .ref (a 23), .ref (a 25), .ref (a 27), .ref (a 28), .int 0])), ((a 10), .inr (7, [.ref (a 11), .ref (a 12), .ref (a 13), .int 0, .int 0]))] [])) (q_i (-1000000)) 0 0 (fun _ => False) := by
  refine Met.ofW (cc := cX9_step) (maxL := 4) (ret := (some .int)) (by decide) rfl ?_
  intro p e s m args below meth c s₁ B hml hv
  obtain ⟨rfl, hP, hK⟩ := hv
  have hx := B.exec
  have hb := B.bytes
  have hr := B.returns
  have hts := atoms_spec (ws := wq_X9_step) B.pre
  have hown : s.vm.findClass RX9 = some m.cls := findClass_of_methodNamed B.named
  have hlocks := B.notSynchronized
  have hS : va_S (fun _ => False) s.heap s.heap [] := va_S.rf
  have hl := lv_entry ([.ref (a 0), .int z1, .int z2, .int z3]) (n := 4) (Nat.le_of_ble_eq_true rfl)
  rw [lg_entry_eq]
  generalize (lg_sl ([.ref (a 0), .int z1, .int z2, .int z3]) ++ List.replicate (4 - (lg_sl ([.ref (a 0), .int z1, .int z2, .int z3])).length) Slot.unset).toArray = ls at hl ⊢
  have hl : lv_has ls 4 [(0, .ref (a 0)), (1, .int z1), (2, .int z2), (3, .int z3)] := hl
  refine lv_aload_n hx hb dX9_step_0 rfl (lv_at hl 0 rfl) ?_
  refine va_get (D := (dC, dI)) (ci := 9) (v := .ref (a 10)) (C := RX9) (T := TX9) (N := 15) hx hb hts iq_X9_step_9 hown hK hP 0 rfl rfl 4 (by decide) (hts (.fieldLink RX9 38 "HubTree" "scripts" "LHubTree$Scripts;") (List.mem_of_getElem? (i := 1) rfl)) (fun _ h9 => h9) rfl dX9_step_1 ?_
  refine lv_iload_n hx hb dX9_step_4 rfl (lv_at hl 1 rfl) ?_
  refine q_goi (v := 0) (va_runV (As := [.int z1]) (rest := []) ⟨hx, hb, hml, hown, hts⟩ (c_X7_has l dC dI (a 10) (a 11) (a 12) (a 13) z1) (cwV 1 hts g_X9_step_X7_has_279 rfl rfl rfl (by decide +kernel) ⟨Nat.le_of_ble_eq_true rfl, Nat.le_of_ble_eq_true rfl⟩) (q_preV hK hP (ci := 7) (q0 := 1) rfl rfl [1] rfl [] rfl) rfl rfl hl.1 rfl (lv_room (Nat.le_of_ble_eq_true rfl)) dX9_step_5 ⟨Nat.le_of_ble_eq_true rfl, Nat.le_of_ble_eq_true rfl⟩) hP hS (fun H locs hP hS => ?_)
  refine lv_if_eq (tgt := 37) hx hb dX9_step_8 (by decide) (fun c_1 => ?_) (fun c_1 => ?_)
  · skip
    refine lv_ldc (v := (-1000000)) hx hb hown (hts (.constant RX9 185 (-1000000)) (List.mem_of_getElem? (i := 8) rfl)) dX9_step_37 ?_
    exact W.iret (v := (-1000000)) hx hb hr (fun t ht hW => ⟨⟨(-1000000), (), rfl, rfl, trivial⟩, hS.F ht⟩) hS.2.2 dX9_step_39
  · exact absurd (by decide) c_1

def wq_X9_run : List Cond := .code yX9_run cX9_run 4 (some .int) :: ([.fieldLink RX9 32 "HubTree" "plan" "LHubTree$Plan;", .methodLink RX9 146 yX5_isTold, .instanceMethod yX5_isTold, .selects RX5 yX5_isTold yX5_isTold, .initialized RX5, .code yX5_isTold cX5_isTold 1 (some .boolean), .fieldLink RX5 18 "HubTree$Plan" "devices" "I", .constant RX9 185 (-1000000)] ++ wsX90 ++ wsX50)
set_option maxRecDepth 20000 in
theorem g_X9_run_X5_isTold_146 : GoodIn wq_X9_run (wsV RX9 146 RX5 yX5_isTold wq_X5_isTold) := goodIn_r _ [2, 3, 4, 5, 6, 7, 24, 25, 26] (by decide +kernel) (by decide +kernel)
theorem iq_X9_run_9 : ∀ w ∈ wsX90, w ∈ wq_X9_run := fun _ h => List.mem_cons_of_mem _ (List.mem_append_left _ (List.mem_append_right _ h))
theorem iq_X9_run_5 : ∀ w ∈ wsX50, w ∈ wq_X9_run := fun _ h => List.mem_cons_of_mem _ (List.mem_append_right _ h)
set_option maxHeartbeats 4000000 in
set_option maxRecDepth 100000 in
theorem c_X9_run (l : Launch) (dC : Nat → ClassId) (dI : Nat → Nat → Nat) (a : Nat → Nat) (z1 : Int32) (z2 : Int32) : Met l yX9_run wq_X9_run ({ frames := 1, cells := 0, slots := 0, locals := 20 }) (va_Pc [.ref (a 0), .int z1, .int z2] (q_R (dC, dI) [((a 0), .inr (9, [.ref (a 1), .ref (a 3), .ref (a 4), .ref (a 7), .ref (a 10), .ref (a 14), .ref (a 16), .ref (a 18), .ref (a 19), .ref (a 21), .ref (a 23), .ref (a 25), .ref (a 27), .ref (a 28), .int 0])), ((a 7), .inr (5, [.ref (a 8), .ref (a 9), .int 0])), ((a 10), .inr (7, [.ref (a 11), .ref (a 12), .ref (a 13), .int 0, .int 0]))] [])) (q_i (-1000000)) 0 0 (fun _ => False) := by
  refine Met.ofW (cc := cX9_run) (maxL := 4) (ret := (some .int)) (by decide) rfl ?_
  intro p e s m args below meth c s₁ B hml hv
  obtain ⟨rfl, hP, hK⟩ := hv
  have hx := B.exec
  have hb := B.bytes
  have hr := B.returns
  have hts := atoms_spec (ws := wq_X9_run) B.pre
  have hown : s.vm.findClass RX9 = some m.cls := findClass_of_methodNamed B.named
  have hlocks := B.notSynchronized
  have hS : va_S (fun _ => False) s.heap s.heap [] := va_S.rf
  have hl := lv_entry ([.ref (a 0), .int z1, .int z2]) (n := 4) (Nat.le_of_ble_eq_true rfl)
  rw [lg_entry_eq]
  generalize (lg_sl ([.ref (a 0), .int z1, .int z2]) ++ List.replicate (4 - (lg_sl ([.ref (a 0), .int z1, .int z2])).length) Slot.unset).toArray = ls at hl ⊢
  have hl : lv_has ls 4 [(0, .ref (a 0)), (1, .int z1), (2, .int z2)] := hl
  refine lv_aload_n hx hb dX9_run_0 rfl (lv_at hl 0 rfl) ?_
  refine va_get (D := (dC, dI)) (ci := 9) (v := .ref (a 7)) (C := RX9) (T := TX9) (N := 15) hx hb hts iq_X9_run_9 hown hK hP 0 rfl rfl 3 (by decide) (hts (.fieldLink RX9 32 "HubTree" "plan" "LHubTree$Plan;") (List.mem_of_getElem? (i := 1) rfl)) (fun _ h9 => h9) rfl dX9_run_1 ?_
  refine q_goi (v := 0) (va_runV (As := []) (rest := []) ⟨hx, hb, hml, hown, hts⟩ (c_X5_isTold l dC dI (a 7) (a 8) (a 9)) (cwV 0 hts g_X9_run_X5_isTold_146 rfl rfl rfl (by decide +kernel) ⟨Nat.le_of_ble_eq_true rfl, Nat.le_of_ble_eq_true rfl⟩) (q_preV hK hP (ci := 5) (q0 := 1) rfl rfl [1] rfl [] rfl) rfl rfl hl.1 rfl (lv_room (Nat.le_of_ble_eq_true rfl)) dX9_run_4 ⟨Nat.le_of_ble_eq_true rfl, Nat.le_of_ble_eq_true rfl⟩) hP hS (fun H locs hP hS => ?_)
  refine lv_if_eq (tgt := 30) hx hb dX9_run_7 (by decide) (fun c_1 => ?_) (fun c_1 => ?_)
  · skip
    refine lv_ldc (v := (-1000000)) hx hb hown (hts (.constant RX9 185 (-1000000)) (List.mem_of_getElem? (i := 8) rfl)) dX9_run_30 ?_
    exact W.iret (v := (-1000000)) hx hb hr (fun t ht hW => ⟨⟨(-1000000), (), rfl, rfl, trivial⟩, hS.F ht⟩) hS.2.2 dX9_run_32
  · exact absurd (by decide) c_1

def wq_X9_perform : List Cond := .code yX9_perform cX9_perform 2 (some .int) :: ([.fieldLink RX9 32 "HubTree" "plan" "LHubTree$Plan;", .methodLink RX9 146 yX5_isTold, .instanceMethod yX5_isTold, .selects RX5 yX5_isTold yX5_isTold, .initialized RX5, .code yX5_isTold cX5_isTold 1 (some .boolean), .fieldLink RX5 18 "HubTree$Plan" "devices" "I"] ++ wsX90 ++ wsX50)
set_option maxRecDepth 20000 in
theorem g_X9_perform_X5_isTold_146 : GoodIn wq_X9_perform (wsV RX9 146 RX5 yX5_isTold wq_X5_isTold) := goodIn_r _ [2, 3, 4, 5, 6, 7, 23, 24, 25] (by decide +kernel) (by decide +kernel)
theorem iq_X9_perform_9 : ∀ w ∈ wsX90, w ∈ wq_X9_perform := fun _ h => List.mem_cons_of_mem _ (List.mem_append_left _ (List.mem_append_right _ h))
theorem iq_X9_perform_5 : ∀ w ∈ wsX50, w ∈ wq_X9_perform := fun _ h => List.mem_cons_of_mem _ (List.mem_append_right _ h)
set_option maxHeartbeats 4000000 in
set_option maxRecDepth 100000 in
theorem c_X9_perform (l : Launch) (dC : Nat → ClassId) (dI : Nat → Nat → Nat) (a : Nat → Nat) (z1 : Int32) : Met l yX9_perform wq_X9_perform ({ frames := 1, cells := 0, slots := 0, locals := 20 }) (va_Pc [.ref (a 0), .int z1] (q_R (dC, dI) [((a 0), .inr (9, [.ref (a 1), .ref (a 3), .ref (a 4), .ref (a 7), .ref (a 10), .ref (a 14), .ref (a 16), .ref (a 18), .ref (a 19), .ref (a 21), .ref (a 23), .ref (a 25), .ref (a 27), .ref (a 28), .int 0])), ((a 7), .inr (5, [.ref (a 8), .ref (a 9), .int 0])), ((a 10), .inr (7, [.ref (a 11), .ref (a 12), .ref (a 13), .int 0, .int 0]))] [])) (q_i (-1)) 0 0 (fun _ => False) := by
  refine Met.ofW (cc := cX9_perform) (maxL := 2) (ret := (some .int)) (by decide) rfl ?_
  intro p e s m args below meth c s₁ B hml hv
  obtain ⟨rfl, hP, hK⟩ := hv
  have hx := B.exec
  have hb := B.bytes
  have hr := B.returns
  have hts := atoms_spec (ws := wq_X9_perform) B.pre
  have hown : s.vm.findClass RX9 = some m.cls := findClass_of_methodNamed B.named
  have hlocks := B.notSynchronized
  have hS : va_S (fun _ => False) s.heap s.heap [] := va_S.rf
  have hl := lv_entry ([.ref (a 0), .int z1]) (n := 2) (Nat.le_of_ble_eq_true rfl)
  rw [lg_entry_eq]
  generalize (lg_sl ([.ref (a 0), .int z1]) ++ List.replicate (2 - (lg_sl ([.ref (a 0), .int z1])).length) Slot.unset).toArray = ls at hl ⊢
  have hl : lv_has ls 2 [(0, .ref (a 0)), (1, .int z1)] := hl
  refine lv_aload_n hx hb dX9_perform_0 rfl (lv_at hl 0 rfl) ?_
  refine va_get (D := (dC, dI)) (ci := 9) (v := .ref (a 7)) (C := RX9) (T := TX9) (N := 15) hx hb hts iq_X9_perform_9 hown hK hP 0 rfl rfl 3 (by decide) (hts (.fieldLink RX9 32 "HubTree" "plan" "LHubTree$Plan;") (List.mem_of_getElem? (i := 1) rfl)) (fun _ h9 => h9) rfl dX9_perform_1 ?_
  refine q_goi (v := 0) (va_runV (As := []) (rest := []) ⟨hx, hb, hml, hown, hts⟩ (c_X5_isTold l dC dI (a 7) (a 8) (a 9)) (cwV 0 hts g_X9_perform_X5_isTold_146 rfl rfl rfl (by decide +kernel) ⟨Nat.le_of_ble_eq_true rfl, Nat.le_of_ble_eq_true rfl⟩) (q_preV hK hP (ci := 5) (q0 := 1) rfl rfl [1] rfl [] rfl) rfl rfl hl.1 rfl (lv_room (Nat.le_of_ble_eq_true rfl)) dX9_perform_4 ⟨Nat.le_of_ble_eq_true rfl, Nat.le_of_ble_eq_true rfl⟩) hP hS (fun H locs hP hS => ?_)
  refine lv_if_eq (tgt := 34) hx hb dX9_perform_7 (by decide) (fun c_1 => ?_) (fun c_1 => ?_)
  · skip
    refine lv_iconst (v := (-1)) hx hb dX9_perform_34 (by decide) ?_
    exact W.iret (v := (-1)) hx hb hr (fun t ht hW => ⟨⟨(-1), (), rfl, rfl, trivial⟩, hS.F ht⟩) hS.2.2 dX9_perform_35
  · exact absurd (by decide) c_1

def wq_X9_all : List Cond := .code yX9_all cX9_all 2 (some .int) :: ([.fieldLink RX9 32 "HubTree" "plan" "LHubTree$Plan;", .methodLink RX9 146 yX5_isTold, .instanceMethod yX5_isTold, .selects RX5 yX5_isTold yX5_isTold, .initialized RX5, .code yX5_isTold cX5_isTold 1 (some .boolean), .fieldLink RX5 18 "HubTree$Plan" "devices" "I", .constant RX9 185 (-1000000)] ++ wsX90 ++ wsX50)
set_option maxRecDepth 20000 in
theorem g_X9_all_X5_isTold_146 : GoodIn wq_X9_all (wsV RX9 146 RX5 yX5_isTold wq_X5_isTold) := goodIn_r _ [2, 3, 4, 5, 6, 7, 24, 25, 26] (by decide +kernel) (by decide +kernel)
theorem iq_X9_all_9 : ∀ w ∈ wsX90, w ∈ wq_X9_all := fun _ h => List.mem_cons_of_mem _ (List.mem_append_left _ (List.mem_append_right _ h))
theorem iq_X9_all_5 : ∀ w ∈ wsX50, w ∈ wq_X9_all := fun _ h => List.mem_cons_of_mem _ (List.mem_append_right _ h)
set_option maxHeartbeats 4000000 in
set_option maxRecDepth 100000 in
theorem c_X9_all (l : Launch) (dC : Nat → ClassId) (dI : Nat → Nat → Nat) (a : Nat → Nat) (z1 : Int32) : Met l yX9_all wq_X9_all ({ frames := 1, cells := 0, slots := 0, locals := 20 }) (va_Pc [.ref (a 0), .int z1] (q_R (dC, dI) [((a 0), .inr (9, [.ref (a 1), .ref (a 3), .ref (a 4), .ref (a 7), .ref (a 10), .ref (a 14), .ref (a 16), .ref (a 18), .ref (a 19), .ref (a 21), .ref (a 23), .ref (a 25), .ref (a 27), .ref (a 28), .int 0])), ((a 7), .inr (5, [.ref (a 8), .ref (a 9), .int 0]))] [])) (q_i (-1000000)) 0 0 (fun _ => False) := by
  refine Met.ofW (cc := cX9_all) (maxL := 2) (ret := (some .int)) (by decide) rfl ?_
  intro p e s m args below meth c s₁ B hml hv
  obtain ⟨rfl, hP, hK⟩ := hv
  have hx := B.exec
  have hb := B.bytes
  have hr := B.returns
  have hts := atoms_spec (ws := wq_X9_all) B.pre
  have hown : s.vm.findClass RX9 = some m.cls := findClass_of_methodNamed B.named
  have hlocks := B.notSynchronized
  have hS : va_S (fun _ => False) s.heap s.heap [] := va_S.rf
  have hl := lv_entry ([.ref (a 0), .int z1]) (n := 2) (Nat.le_of_ble_eq_true rfl)
  rw [lg_entry_eq]
  generalize (lg_sl ([.ref (a 0), .int z1]) ++ List.replicate (2 - (lg_sl ([.ref (a 0), .int z1])).length) Slot.unset).toArray = ls at hl ⊢
  have hl : lv_has ls 2 [(0, .ref (a 0)), (1, .int z1)] := hl
  refine lv_aload_n hx hb dX9_all_0 rfl (lv_at hl 0 rfl) ?_
  refine va_get (D := (dC, dI)) (ci := 9) (v := .ref (a 7)) (C := RX9) (T := TX9) (N := 15) hx hb hts iq_X9_all_9 hown hK hP 0 rfl rfl 3 (by decide) (hts (.fieldLink RX9 32 "HubTree" "plan" "LHubTree$Plan;") (List.mem_of_getElem? (i := 1) rfl)) (fun _ h9 => h9) rfl dX9_all_1 ?_
  refine q_goi (v := 0) (va_runV (As := []) (rest := []) ⟨hx, hb, hml, hown, hts⟩ (c_X5_isTold l dC dI (a 7) (a 8) (a 9)) (cwV 0 hts g_X9_all_X5_isTold_146 rfl rfl rfl (by decide +kernel) ⟨Nat.le_of_ble_eq_true rfl, Nat.le_of_ble_eq_true rfl⟩) (q_preV hK hP (ci := 5) (q0 := 1) rfl rfl [1] rfl [] rfl) rfl rfl hl.1 rfl (lv_room (Nat.le_of_ble_eq_true rfl)) dX9_all_4 ⟨Nat.le_of_ble_eq_true rfl, Nat.le_of_ble_eq_true rfl⟩) hP hS (fun H locs hP hS => ?_)
  refine lv_if_ne (tgt := 13) hx hb dX9_all_7 (by decide) (fun c_1 => ?_) (fun c_1 => ?_)
  · exact absurd (by decide) c_1
  refine lv_ldc (v := (-1000000)) hx hb hown (hts (.constant RX9 185 (-1000000)) (List.mem_of_getElem? (i := 8) rfl)) dX9_all_10 ?_
  exact W.iret (v := (-1000000)) hx hb hr (fun t ht hW => ⟨⟨(-1000000), (), rfl, rfl, trivial⟩, hS.F ht⟩) hS.2.2 dX9_all_12

def wq_X9_image : List Cond := .code yX9_image cX9_image 1 (some .int) :: ([.fieldLink RX9 32 "HubTree" "plan" "LHubTree$Plan;", .methodLink RX9 146 yX5_isTold, .instanceMethod yX5_isTold, .selects RX5 yX5_isTold yX5_isTold, .initialized RX5, .code yX5_isTold cX5_isTold 1 (some .boolean), .fieldLink RX5 18 "HubTree$Plan" "devices" "I"] ++ wsX90 ++ wsX50)
set_option maxRecDepth 20000 in
theorem g_X9_image_X5_isTold_146 : GoodIn wq_X9_image (wsV RX9 146 RX5 yX5_isTold wq_X5_isTold) := goodIn_r _ [2, 3, 4, 5, 6, 7, 23, 24, 25] (by decide +kernel) (by decide +kernel)
theorem iq_X9_image_9 : ∀ w ∈ wsX90, w ∈ wq_X9_image := fun _ h => List.mem_cons_of_mem _ (List.mem_append_left _ (List.mem_append_right _ h))
theorem iq_X9_image_5 : ∀ w ∈ wsX50, w ∈ wq_X9_image := fun _ h => List.mem_cons_of_mem _ (List.mem_append_right _ h)
set_option maxHeartbeats 4000000 in
set_option maxRecDepth 100000 in
theorem c_X9_image (l : Launch) (dC : Nat → ClassId) (dI : Nat → Nat → Nat) (a : Nat → Nat) : Met l yX9_image wq_X9_image ({ frames := 1, cells := 0, slots := 0, locals := 20 }) (va_Pc [.ref (a 0)] (q_R (dC, dI) [((a 0), .inr (9, [.ref (a 1), .ref (a 3), .ref (a 4), .ref (a 7), .ref (a 10), .ref (a 14), .ref (a 16), .ref (a 18), .ref (a 19), .ref (a 21), .ref (a 23), .ref (a 25), .ref (a 27), .ref (a 28), .int 0])), ((a 7), .inr (5, [.ref (a 8), .ref (a 9), .int 0]))] [])) (q_i (-1)) 0 0 (fun _ => False) := by
  refine Met.ofW (cc := cX9_image) (maxL := 1) (ret := (some .int)) (by decide) rfl ?_
  intro p e s m args below meth c s₁ B hml hv
  obtain ⟨rfl, hP, hK⟩ := hv
  have hx := B.exec
  have hb := B.bytes
  have hr := B.returns
  have hts := atoms_spec (ws := wq_X9_image) B.pre
  have hown : s.vm.findClass RX9 = some m.cls := findClass_of_methodNamed B.named
  have hlocks := B.notSynchronized
  have hS : va_S (fun _ => False) s.heap s.heap [] := va_S.rf
  have hl := lv_entry ([.ref (a 0)]) (n := 1) (Nat.le_of_ble_eq_true rfl)
  rw [lg_entry_eq]
  generalize (lg_sl ([.ref (a 0)]) ++ List.replicate (1 - (lg_sl ([.ref (a 0)])).length) Slot.unset).toArray = ls at hl ⊢
  have hl : lv_has ls 1 [(0, .ref (a 0))] := hl
  refine lv_aload_n hx hb dX9_image_0 rfl (lv_at hl 0 rfl) ?_
  refine va_get (D := (dC, dI)) (ci := 9) (v := .ref (a 7)) (C := RX9) (T := TX9) (N := 15) hx hb hts iq_X9_image_9 hown hK hP 0 rfl rfl 3 (by decide) (hts (.fieldLink RX9 32 "HubTree" "plan" "LHubTree$Plan;") (List.mem_of_getElem? (i := 1) rfl)) (fun _ h9 => h9) rfl dX9_image_1 ?_
  refine q_goi (v := 0) (va_runV (As := []) (rest := []) ⟨hx, hb, hml, hown, hts⟩ (c_X5_isTold l dC dI (a 7) (a 8) (a 9)) (cwV 0 hts g_X9_image_X5_isTold_146 rfl rfl rfl (by decide +kernel) ⟨Nat.le_of_ble_eq_true rfl, Nat.le_of_ble_eq_true rfl⟩) (q_preV hK hP (ci := 5) (q0 := 1) rfl rfl [1] rfl [] rfl) rfl rfl hl.1 rfl (lv_room (Nat.le_of_ble_eq_true rfl)) dX9_image_4 ⟨Nat.le_of_ble_eq_true rfl, Nat.le_of_ble_eq_true rfl⟩) hP hS (fun H locs hP hS => ?_)
  refine lv_if_ne (tgt := 12) hx hb dX9_image_7 (by decide) (fun c_1 => ?_) (fun c_1 => ?_)
  · exact absurd (by decide) c_1
  refine lv_iconst (v := (-1)) hx hb dX9_image_10 (by decide) ?_
  exact W.iret (v := (-1)) hx hb hr (fun t ht hW => ⟨⟨(-1), (), rfl, rfl, trivial⟩, hS.F ht⟩) hS.2.2 dX9_image_11

def wq_X9_back : List Cond := .code yX9_back cX9_back 1 (some .int) :: ([.fieldLink RX9 94 "HubTree" "hasImage" "Z"] ++ wsX90)
theorem iq_X9_back_9 : ∀ w ∈ wsX90, w ∈ wq_X9_back := fun _ h => List.mem_cons_of_mem _ (List.mem_append_right _ h)
set_option maxHeartbeats 4000000 in
set_option maxRecDepth 100000 in
theorem c_X9_back (l : Launch) (dC : Nat → ClassId) (dI : Nat → Nat → Nat) (a : Nat → Nat) : Met l yX9_back wq_X9_back ({ frames := 0, cells := 0, slots := 0, locals := 0 }) (va_Pc [.ref (a 0)] (q_R (dC, dI) [((a 0), .inr (9, [.ref (a 1), .ref (a 3), .ref (a 4), .ref (a 7), .ref (a 10), .ref (a 14), .ref (a 16), .ref (a 18), .ref (a 19), .ref (a 21), .ref (a 23), .ref (a 25), .ref (a 27), .ref (a 28), .int 0]))] [])) (q_i (-1)) 0 0 (fun _ => False) := by
  refine Met.ofW (cc := cX9_back) (maxL := 1) (ret := (some .int)) (by decide) rfl ?_
  intro p e s m args below meth c s₁ B hml hv
  obtain ⟨rfl, hP, hK⟩ := hv
  have hx := B.exec
  have hb := B.bytes
  have hr := B.returns
  have hts := atoms_spec (ws := wq_X9_back) B.pre
  have hown : s.vm.findClass RX9 = some m.cls := findClass_of_methodNamed B.named
  have hlocks := B.notSynchronized
  have hS : va_S (fun _ => False) s.heap s.heap [] := va_S.rf
  have hl := lv_entry ([.ref (a 0)]) (n := 1) (Nat.le_of_ble_eq_true rfl)
  rw [lg_entry_eq]
  generalize (lg_sl ([.ref (a 0)]) ++ List.replicate (1 - (lg_sl ([.ref (a 0)])).length) Slot.unset).toArray = ls at hl ⊢
  have hl : lv_has ls 1 [(0, .ref (a 0))] := hl
  refine lv_aload_n hx hb dX9_back_0 rfl (lv_at hl 0 rfl) ?_
  refine va_get (D := (dC, dI)) (ci := 9) (v := .int 0) (C := RX9) (T := TX9) (N := 15) hx hb hts iq_X9_back_9 hown hK hP 0 rfl rfl 14 (by decide) (hts (.fieldLink RX9 94 "HubTree" "hasImage" "Z") (List.mem_of_getElem? (i := 1) rfl)) (fun _ h9 => h9) rfl dX9_back_1 ?_
  refine lv_if_ne (tgt := 9) hx hb dX9_back_4 (by decide) (fun c_1 => ?_) (fun c_1 => ?_)
  · exact absurd (by decide) c_1
  refine lv_iconst (v := (-1)) hx hb dX9_back_7 (by decide) ?_
  exact W.iret (v := (-1)) hx hb hr (fun t ht hW => ⟨⟨(-1), (), rfl, rfl, trivial⟩, hS.F ht⟩) hS.2.2 dX9_back_8

def wq_X9_attempt : List Cond := .code yX9_attempt cX9_attempt 9 (some .int) :: ([.methodLink RX9 319 yX0_barOf, .instanceMethod yX0_barOf, .selects RX0 yX0_barOf yX0_barOf, .initialized RX0, .code yX0_barOf cX0_barOf 6 (some .int), .fieldLink RX0 15 "HubTree$Bus" "plan" "LHubTree$Plan;", .methodLink RX0 150 yX5_has, .instanceMethod yX5_has, .selects RX5 yX5_has yX5_has, .initialized RX5, .code yX5_has cX5_has 2 (some .boolean), .fieldLink RX5 18 "HubTree$Plan" "devices" "I", .methodLink RX0 147 yX0_barOfTicks, .instanceMethod yX0_barOfTicks, .selects RX0 yX0_barOfTicks yX0_barOfTicks, .code yX0_barOfTicks cX0_barOfTicks 2 (some .int), .methodLink RX0 163 yX5_isTold, .instanceMethod yX5_isTold, .selects RX5 yX5_isTold yX5_isTold, .code yX5_isTold cX5_isTold 1 (some .boolean)] ++ wsX00 ++ wsX50)
set_option maxRecDepth 20000 in
theorem g_X9_attempt_X0_barOf_319 : GoodIn wq_X9_attempt (wsV RX9 319 RX0 yX0_barOf wq_X0_barOf) := goodIn_r _ [1, 2, 3, 4, 5, 6, 7, 8, 9, 10, 11, 12, 13, 14, 15, 4, 16, 17, 18, 19, 20, 21, 22, 23, 24, 25] (by decide +kernel) (by decide +kernel)
theorem iq_X9_attempt_0 : ∀ w ∈ wsX00, w ∈ wq_X9_attempt := fun _ h => List.mem_cons_of_mem _ (List.mem_append_left _ (List.mem_append_right _ h))
theorem iq_X9_attempt_5 : ∀ w ∈ wsX50, w ∈ wq_X9_attempt := fun _ h => List.mem_cons_of_mem _ (List.mem_append_right _ h)
set_option maxHeartbeats 4000000 in
set_option maxRecDepth 100000 in
theorem c_X9_attempt (l : Launch) (dC : Nat → ClassId) (dI : Nat → Nat → Nat) (a : Nat → Nat) (z0 : Int32) (z1 : Int32) (z2 : Int32) (z3 : Int32) (z4 : Int32) : Met l yX9_attempt wq_X9_attempt ({ frames := 3, cells := 0, slots := 0, locals := 66 }) (va_Pc [.ref (a 0), .ref (a 14), .int z0, .int z1, .int z2, .int z3, .int z4] (q_R (dC, dI) [((a 0), .inr (9, [.ref (a 1), .ref (a 3), .ref (a 4), .ref (a 7), .ref (a 10), .ref (a 14), .ref (a 16), .ref (a 18), .ref (a 19), .ref (a 21), .ref (a 23), .ref (a 25), .ref (a 27), .ref (a 28), .int 0])), ((a 14), .inr (0, [.ref (a 15), .ref (a 7)])), ((a 7), .inr (5, [.ref (a 8), .ref (a 9), .int 0]))] [])) (q_i (0)) 0 0 (fun _ => False) := by
  refine Met.ofW (cc := cX9_attempt) (maxL := 9) (ret := (some .int)) (by decide) rfl ?_
  intro p e s m args below meth c s₁ B hml hv
  obtain ⟨rfl, hP, hK⟩ := hv
  have hx := B.exec
  have hb := B.bytes
  have hr := B.returns
  have hts := atoms_spec (ws := wq_X9_attempt) B.pre
  have hown : s.vm.findClass RX9 = some m.cls := findClass_of_methodNamed B.named
  have hlocks := B.notSynchronized
  have hS : va_S (fun _ => False) s.heap s.heap [] := va_S.rf
  have hl := lv_entry ([.ref (a 0), .ref (a 14), .int z0, .int z1, .int z2, .int z3, .int z4]) (n := 9) (Nat.le_of_ble_eq_true rfl)
  rw [lg_entry_eq]
  generalize (lg_sl ([.ref (a 0), .ref (a 14), .int z0, .int z1, .int z2, .int z3, .int z4]) ++ List.replicate (9 - (lg_sl ([.ref (a 0), .ref (a 14), .int z0, .int z1, .int z2, .int z3, .int z4])).length) Slot.unset).toArray = ls at hl ⊢
  have hl : lv_has ls 9 [(0, .ref (a 0)), (1, .ref (a 14)), (2, .int z0), (3, .int z1), (4, .int z2), (5, .int z3), (6, .int z4)] := hl
  refine lv_aload_n hx hb dX9_attempt_0 rfl (lv_at hl 1 rfl) ?_
  refine lv_iload_n hx hb dX9_attempt_1 rfl (lv_at hl 3 rfl) ?_
  refine lv_iload hx hb dX9_attempt_2 (lv_at hl 4 rfl) ?_
  refine lv_iload hx hb dX9_attempt_4 (lv_at hl 5 rfl) ?_
  refine lv_iload hx hb dX9_attempt_6 (lv_at hl 6 rfl) ?_
  refine q_goi (v := 0) (va_runV (As := [.int z1, .int z2, .int z3, .int z4]) (rest := []) ⟨hx, hb, hml, hown, hts⟩ (c_X0_barOf l dC dI (a 14) (a 15) (a 7) (a 8) (a 9) z1 z2 z3 z4) (cwV 4 hts g_X9_attempt_X0_barOf_319 rfl rfl rfl (by decide +kernel) ⟨Nat.le_of_ble_eq_true rfl, Nat.le_of_ble_eq_true rfl⟩) (q_preV hK hP (ci := 0) (q0 := 1) rfl rfl [1, 2] rfl [] rfl) rfl rfl hl.1 rfl (lv_room (Nat.le_of_ble_eq_true rfl)) dX9_attempt_8 ⟨Nat.le_of_ble_eq_true rfl, Nat.le_of_ble_eq_true rfl⟩) hP hS (fun H locs hP hS => ?_)
  refine lv_istore (lv' := [(7, .int 0), (0, .ref (a 0)), (1, .ref (a 14)), (2, .int z0), (3, .int z1), (4, .int z2), (5, .int z3), (6, .int z4)]) hx hb dX9_attempt_11 hl (by decide) rfl (fun ls hl => ?_)
  refine lv_iload hx hb dX9_attempt_13 (lv_at hl 0 rfl) ?_
  refine lv_iconst (v := (-1)) hx hb dX9_attempt_15 (by decide) ?_
  refine lv_icmp_eq (tgt := 22) hx hb dX9_attempt_16 (by decide) (fun c_1 => ?_) (fun c_1 => ?_)
  · exact absurd c_1 (by decide)
  refine lv_iload hx hb dX9_attempt_19 (lv_at hl 0 rfl) ?_
  exact W.iret (v := 0) hx hb hr (fun t ht hW => ⟨⟨0, (), rfl, rfl, trivial⟩, hS.F ht⟩) hS.2.2 dX9_attempt_21
