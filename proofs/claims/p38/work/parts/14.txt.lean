theorem dJ0_coder_7d493_0 : decode cJ0_coder_7d493 0 = .ok (.getstatic 38, 3) := by decide +kernel
theorem dJ0_coder_7d493_3 : decode cJ0_coder_7d493 3 = .ok (.ifCond .eq 10, 3) := q_o153 (a := 0) (b := 10) (by decide +kernel) rfl
theorem dJ0_coder_7d493_6 : decode cJ0_coder_7d493 6 = .ok (.aload_n 0, 1) := q_o42 (by decide +kernel)
theorem dJ0_coder_7d493_7 : decode cJ0_coder_7d493 7 = .ok (.getfield 15, 3) := q_o180 (a := 0) (b := 15) (by decide +kernel)
theorem dJ0_coder_7d493_10 : decode cJ0_coder_7d493 10 = .ok (.goto 4, 3) := q_o167 (a := 0) (b := 4) (by decide +kernel) rfl
theorem dJ0_coder_7d493_14 : decode cJ0_coder_7d493 14 = .ok (.ireturn, 1) := q_o172 (by decide +kernel)
theorem dJ0_indexOf_0f7a4_0 : decode cJ0_indexOf_0f7a4 0 = .ok (.aload_n 0, 1) := q_o42 (by decide +kernel)
theorem dJ0_indexOf_0f7a4_1 : decode cJ0_indexOf_0f7a4 1 = .ok (.iload_n 1, 1) := q_o27 (by decide +kernel)
theorem dJ0_indexOf_0f7a4_2 : decode cJ0_indexOf_0f7a4 2 = .ok (.iconst 0, 1) := q_o3 (by decide +kernel)
theorem dJ0_indexOf_0f7a4_3 : decode cJ0_indexOf_0f7a4 3 = .ok (.invokevirtual 633, 3) := q_o182 (a := 2) (b := 121) (by decide +kernel)
theorem dJ0_indexOf_0f7a4_6 : decode cJ0_indexOf_0f7a4 6 = .ok (.ireturn, 1) := q_o172 (by decide +kernel)
theorem dJ0_indexOf_7cf53_0 : decode cJ0_indexOf_7cf53 0 = .ok (.aload_n 0, 1) := q_o42 (by decide +kernel)
theorem dJ0_indexOf_7cf53_1 : decode cJ0_indexOf_7cf53 1 = .ok (.invokevirtual 492, 3) := q_o182 (a := 1) (b := 236) (by decide +kernel)
theorem dJ0_indexOf_7cf53_4 : decode cJ0_indexOf_7cf53 4 = .ok (.ifCond .eq 19, 3) := q_o153 (a := 0) (b := 19) (by decide +kernel) rfl
theorem dJ0_indexOf_7cf53_7 : decode cJ0_indexOf_7cf53 7 = .ok (.aload_n 0, 1) := q_o42 (by decide +kernel)
theorem dJ0_indexOf_7cf53_8 : decode cJ0_indexOf_7cf53 8 = .ok (.getfield 9, 3) := q_o180 (a := 0) (b := 9) (by decide +kernel)
theorem dJ0_indexOf_7cf53_11 : decode cJ0_indexOf_7cf53 11 = .ok (.iload_n 1, 1) := q_o27 (by decide +kernel)
theorem dJ0_indexOf_7cf53_12 : decode cJ0_indexOf_7cf53 12 = .ok (.iload_n 2, 1) := q_o28 (by decide +kernel)
theorem dJ0_indexOf_7cf53_13 : decode cJ0_indexOf_7cf53 13 = .ok (.aload_n 0, 1) := q_o42 (by decide +kernel)
theorem dJ0_indexOf_7cf53_14 : decode cJ0_indexOf_7cf53 14 = .ok (.invokevirtual 505, 3) := q_o182 (a := 1) (b := 249) (by decide +kernel)
theorem dJ0_indexOf_7cf53_17 : decode cJ0_indexOf_7cf53 17 = .ok (.invokestatic 637, 3) := q_o184 (a := 2) (b := 125) (by decide +kernel)
theorem dJ0_indexOf_7cf53_20 : decode cJ0_indexOf_7cf53 20 = .ok (.goto 16, 3) := q_o167 (a := 0) (b := 16) (by decide +kernel) rfl
theorem dJ0_indexOf_7cf53_36 : decode cJ0_indexOf_7cf53 36 = .ok (.ireturn, 1) := q_o172 (by decide +kernel)
theorem dJ0_isLatin1_aae02_0 : decode cJ0_isLatin1_aae02 0 = .ok (.getstatic 38, 3) := by decide +kernel
theorem dJ0_isLatin1_aae02_3 : decode cJ0_isLatin1_aae02 3 = .ok (.ifCond .eq 14, 3) := q_o153 (a := 0) (b := 14) (by decide +kernel) rfl
theorem dJ0_isLatin1_aae02_6 : decode cJ0_isLatin1_aae02 6 = .ok (.aload_n 0, 1) := q_o42 (by decide +kernel)
theorem dJ0_isLatin1_aae02_7 : decode cJ0_isLatin1_aae02 7 = .ok (.getfield 15, 3) := q_o180 (a := 0) (b := 15) (by decide +kernel)
theorem dJ0_isLatin1_aae02_10 : decode cJ0_isLatin1_aae02 10 = .ok (.ifCond .ne 7, 3) := q_o154 (a := 0) (b := 7) (by decide +kernel) rfl
theorem dJ0_isLatin1_aae02_13 : decode cJ0_isLatin1_aae02 13 = .ok (.iconst 1, 1) := q_o4 (by decide +kernel)
theorem dJ0_isLatin1_aae02_14 : decode cJ0_isLatin1_aae02 14 = .ok (.goto 4, 3) := q_o167 (a := 0) (b := 4) (by decide +kernel) rfl
theorem dJ0_isLatin1_aae02_18 : decode cJ0_isLatin1_aae02 18 = .ok (.ireturn, 1) := q_o172 (by decide +kernel)
theorem dJ0_length_8abf5_0 : decode cJ0_length_8abf5 0 = .ok (.aload_n 0, 1) := q_o42 (by decide +kernel)
theorem dJ0_length_8abf5_1 : decode cJ0_length_8abf5 1 = .ok (.getfield 9, 3) := q_o180 (a := 0) (b := 9) (by decide +kernel)
theorem dJ0_length_8abf5_4 : decode cJ0_length_8abf5 4 = .ok (.arraylength, 1) := by decide +kernel
theorem dJ0_length_8abf5_5 : decode cJ0_length_8abf5 5 = .ok (.aload_n 0, 1) := q_o42 (by decide +kernel)
theorem dJ0_length_8abf5_6 : decode cJ0_length_8abf5 6 = .ok (.invokevirtual 335, 3) := q_o182 (a := 1) (b := 79) (by decide +kernel)
theorem dJ0_length_8abf5_9 : decode cJ0_length_8abf5 9 = .ok (.ishr, 1) := by decide +kernel
theorem dJ0_length_8abf5_10 : decode cJ0_length_8abf5 10 = .ok (.ireturn, 1) := q_o172 (by decide +kernel)
theorem dJ1_canEncode_9a6ad_0 : decode cJ1_canEncode_9a6ad 0 = .ok (.iload_n 0, 1) := q_o26 (by decide +kernel)
theorem dJ1_canEncode_9a6ad_1 : decode cJ1_canEncode_9a6ad 1 = .ok (.ifCond .lt 14, 3) := q_o155 (a := 0) (b := 14) (by decide +kernel) rfl
theorem dJ1_canEncode_9a6ad_4 : decode cJ1_canEncode_9a6ad 4 = .ok (.iload_n 0, 1) := q_o26 (by decide +kernel)
theorem dJ1_canEncode_9a6ad_5 : decode cJ1_canEncode_9a6ad 5 = .ok (.sipush 255, 3) := q_o17 (a := 0) (b := 255) (by decide +kernel) rfl
theorem dJ1_canEncode_9a6ad_8 : decode cJ1_canEncode_9a6ad 8 = .ok (.if_icmp .gt 7, 3) := q_o163 (a := 0) (b := 7) (by decide +kernel) rfl
theorem dJ1_canEncode_9a6ad_11 : decode cJ1_canEncode_9a6ad 11 = .ok (.iconst 1, 1) := q_o4 (by decide +kernel)
theorem dJ1_canEncode_9a6ad_12 : decode cJ1_canEncode_9a6ad 12 = .ok (.goto 4, 3) := q_o167 (a := 0) (b := 4) (by decide +kernel) rfl
theorem dJ1_canEncode_9a6ad_15 : decode cJ1_canEncode_9a6ad 15 = .ok (.iconst 0, 1) := q_o3 (by decide +kernel)
theorem dJ1_canEncode_9a6ad_16 : decode cJ1_canEncode_9a6ad 16 = .ok (.ireturn, 1) := q_o172 (by decide +kernel)
theorem dJ1_indexOfChar_4cfef_0 : decode cJ1_indexOfChar_4cfef 0 = .ok (.iload_n 1, 1) := q_o27 (by decide +kernel)
theorem dJ1_indexOfChar_4cfef_1 : decode cJ1_indexOfChar_4cfef 1 = .ok (.i2b, 1) := by decide +kernel
theorem dJ1_indexOfChar_4cfef_2 : decode cJ1_indexOfChar_4cfef 2 = .ok (.istore 4, 2) := q_o54 (a := 4) (by decide +kernel)
theorem dJ1_indexOfChar_4cfef_4 : decode cJ1_indexOfChar_4cfef 4 = .ok (.iload_n 2, 1) := q_o28 (by decide +kernel)
theorem dJ1_indexOfChar_4cfef_5 : decode cJ1_indexOfChar_4cfef 5 = .ok (.istore 5, 2) := q_o54 (a := 5) (by decide +kernel)
theorem dJ1_indexOfChar_4cfef_7 : decode cJ1_indexOfChar_4cfef 7 = .ok (.iload 5, 2) := q_o21 (a := 5) (by decide +kernel)
theorem dJ1_indexOfChar_4cfef_9 : decode cJ1_indexOfChar_4cfef 9 = .ok (.iload_n 3, 1) := q_o29 (by decide +kernel)
theorem dJ1_indexOfChar_4cfef_10 : decode cJ1_indexOfChar_4cfef 10 = .ok (.if_icmp .ge 21, 3) := q_o162 (a := 0) (b := 21) (by decide +kernel) rfl
theorem dJ1_indexOfChar_4cfef_13 : decode cJ1_indexOfChar_4cfef 13 = .ok (.aload_n 0, 1) := q_o42 (by decide +kernel)
theorem dJ1_indexOfChar_4cfef_14 : decode cJ1_indexOfChar_4cfef 14 = .ok (.iload 5, 2) := q_o21 (a := 5) (by decide +kernel)
theorem dJ1_indexOfChar_4cfef_16 : decode cJ1_indexOfChar_4cfef 16 = .ok (.baload, 1) := by decide +kernel
theorem dJ1_indexOfChar_4cfef_17 : decode cJ1_indexOfChar_4cfef 17 = .ok (.iload 4, 2) := q_o21 (a := 4) (by decide +kernel)
theorem dJ1_indexOfChar_4cfef_19 : decode cJ1_indexOfChar_4cfef 19 = .ok (.if_icmp .ne 6, 3) := q_o160 (a := 0) (b := 6) (by decide +kernel) rfl
theorem dJ1_indexOfChar_4cfef_22 : decode cJ1_indexOfChar_4cfef 22 = .ok (.iload 5, 2) := q_o21 (a := 5) (by decide +kernel)
theorem dJ1_indexOfChar_4cfef_24 : decode cJ1_indexOfChar_4cfef 24 = .ok (.ireturn, 1) := q_o172 (by decide +kernel)
theorem dJ1_indexOfChar_4cfef_25 : decode cJ1_indexOfChar_4cfef 25 = .ok (.iinc 5 1, 3) := q_o132 (a := 5) (b := 1) (by decide +kernel) rfl
theorem dJ1_indexOfChar_4cfef_28 : decode cJ1_indexOfChar_4cfef 28 = .ok (.goto (-21), 3) := q_o167 (a := 255) (b := 235) (by decide +kernel) rfl
theorem dJ1_indexOfChar_4cfef_31 : decode cJ1_indexOfChar_4cfef 31 = .ok (.iconst (-1), 1) := q_o2 (by decide +kernel)
theorem dJ1_indexOfChar_4cfef_32 : decode cJ1_indexOfChar_4cfef 32 = .ok (.ireturn, 1) := q_o172 (by decide +kernel)
theorem dJ1_indexOf_4cfef_0 : decode cJ1_indexOf_4cfef 0 = .ok (.iload_n 1, 1) := q_o27 (by decide +kernel)
theorem dJ1_indexOf_4cfef_1 : decode cJ1_indexOf_4cfef 1 = .ok (.invokestatic 88, 3) := q_o184 (a := 0) (b := 88) (by decide +kernel)
theorem dJ1_indexOf_4cfef_4 : decode cJ1_indexOf_4cfef 4 = .ok (.ifCond .ne 5, 3) := q_o154 (a := 0) (b := 5) (by decide +kernel) rfl
theorem dJ1_indexOf_4cfef_7 : decode cJ1_indexOf_4cfef 7 = .ok (.iconst (-1), 1) := q_o2 (by decide +kernel)
theorem dJ1_indexOf_4cfef_8 : decode cJ1_indexOf_4cfef 8 = .ok (.ireturn, 1) := q_o172 (by decide +kernel)
theorem dJ1_indexOf_4cfef_9 : decode cJ1_indexOf_4cfef 9 = .ok (.iload_n 2, 1) := q_o28 (by decide +kernel)
theorem dJ1_indexOf_4cfef_10 : decode cJ1_indexOf_4cfef 10 = .ok (.iconst 0, 1) := q_o3 (by decide +kernel)
theorem dJ1_indexOf_4cfef_11 : decode cJ1_indexOf_4cfef 11 = .ok (.invokestatic 92, 3) := q_o184 (a := 0) (b := 92) (by decide +kernel)
theorem dJ1_indexOf_4cfef_14 : decode cJ1_indexOf_4cfef 14 = .ok (.istore_n 2, 1) := q_o61 (by decide +kernel)
theorem dJ1_indexOf_4cfef_15 : decode cJ1_indexOf_4cfef 15 = .ok (.iload_n 3, 1) := q_o29 (by decide +kernel)
theorem dJ1_indexOf_4cfef_16 : decode cJ1_indexOf_4cfef 16 = .ok (.aload_n 0, 1) := q_o42 (by decide +kernel)
theorem dJ1_indexOf_4cfef_17 : decode cJ1_indexOf_4cfef 17 = .ok (.arraylength, 1) := by decide +kernel
theorem dJ1_indexOf_4cfef_18 : decode cJ1_indexOf_4cfef 18 = .ok (.invokestatic 38, 3) := q_o184 (a := 0) (b := 38) (by decide +kernel)
theorem dJ1_indexOf_4cfef_21 : decode cJ1_indexOf_4cfef 21 = .ok (.istore_n 3, 1) := q_o62 (by decide +kernel)
theorem dJ1_indexOf_4cfef_22 : decode cJ1_indexOf_4cfef 22 = .ok (.iload_n 2, 1) := q_o28 (by decide +kernel)
theorem dJ1_indexOf_4cfef_23 : decode cJ1_indexOf_4cfef 23 = .ok (.iload_n 3, 1) := q_o29 (by decide +kernel)
theorem dJ1_indexOf_4cfef_24 : decode cJ1_indexOf_4cfef 24 = .ok (.if_icmp .lt 5, 3) := q_o161 (a := 0) (b := 5) (by decide +kernel) rfl
theorem dJ1_indexOf_4cfef_27 : decode cJ1_indexOf_4cfef 27 = .ok (.iconst (-1), 1) := q_o2 (by decide +kernel)
theorem dJ1_indexOf_4cfef_28 : decode cJ1_indexOf_4cfef 28 = .ok (.ireturn, 1) := q_o172 (by decide +kernel)
theorem dJ1_indexOf_4cfef_29 : decode cJ1_indexOf_4cfef 29 = .ok (.aload_n 0, 1) := q_o42 (by decide +kernel)
theorem dJ1_indexOf_4cfef_30 : decode cJ1_indexOf_4cfef 30 = .ok (.iload_n 1, 1) := q_o27 (by decide +kernel)
theorem dJ1_indexOf_4cfef_31 : decode cJ1_indexOf_4cfef 31 = .ok (.iload_n 2, 1) := q_o28 (by decide +kernel)
theorem dJ1_indexOf_4cfef_32 : decode cJ1_indexOf_4cfef 32 = .ok (.iload_n 3, 1) := q_o29 (by decide +kernel)
theorem dJ1_indexOf_4cfef_33 : decode cJ1_indexOf_4cfef 33 = .ok (.invokestatic 95, 3) := q_o184 (a := 0) (b := 95) (by decide +kernel)
theorem dJ1_indexOf_4cfef_36 : decode cJ1_indexOf_4cfef 36 = .ok (.ireturn, 1) := q_o172 (by decide +kernel)
theorem dX5_addDevice_0 : decode cX5_addDevice 0 = .ok (.aload_n 0, 1) := q_o42 (by decide +kernel)
theorem dX5_addDevice_1 : decode cX5_addDevice 1 = .ok (.getfield 18, 3) := q_o180 (a := 0) (b := 18) (by decide +kernel)
theorem dX5_addDevice_4 : decode cX5_addDevice 4 = .ok (.bipush 8, 2) := q_o16 (a := 8) (by decide +kernel) rfl
theorem dX5_addDevice_6 : decode cX5_addDevice 6 = .ok (.if_icmp .ge 46, 3) := q_o162 (a := 0) (b := 46) (by decide +kernel) rfl
theorem dX5_addDevice_9 : decode cX5_addDevice 9 = .ok (.iconst 0, 1) := q_o3 (by decide +kernel)
theorem dX5_addDevice_10 : decode cX5_addDevice 10 = .ok (.istore_n 1, 1) := q_o60 (by decide +kernel)
theorem dX5_addDevice_11 : decode cX5_addDevice 11 = .ok (.iload_n 1, 1) := q_o27 (by decide +kernel)
theorem dX5_addDevice_12 : decode cX5_addDevice 12 = .ok (.bipush 6, 2) := q_o16 (a := 6) (by decide +kernel) rfl
theorem dX5_addDevice_14 : decode cX5_addDevice 14 = .ok (.if_icmp .ge 28, 3) := q_o162 (a := 0) (b := 28) (by decide +kernel) rfl
theorem dX5_addDevice_17 : decode cX5_addDevice 17 = .ok (.aload_n 0, 1) := q_o42 (by decide +kernel)
theorem dX5_addDevice_18 : decode cX5_addDevice 18 = .ok (.getfield 15, 3) := q_o180 (a := 0) (b := 15) (by decide +kernel)
theorem dX5_addDevice_21 : decode cX5_addDevice 21 = .ok (.iload_n 1, 1) := q_o27 (by decide +kernel)
theorem dX5_addDevice_22 : decode cX5_addDevice 22 = .ok (.bipush 8, 2) := q_o16 (a := 8) (by decide +kernel) rfl
theorem dX5_addDevice_24 : decode cX5_addDevice 24 = .ok (.imul, 1) := q_o104 (by decide +kernel)
theorem dX5_addDevice_25 : decode cX5_addDevice 25 = .ok (.aload_n 0, 1) := q_o42 (by decide +kernel)
theorem dX5_addDevice_26 : decode cX5_addDevice 26 = .ok (.getfield 18, 3) := q_o180 (a := 0) (b := 18) (by decide +kernel)
theorem dX5_addDevice_29 : decode cX5_addDevice 29 = .ok (.iadd, 1) := q_o96 (by decide +kernel)
theorem dX5_addDevice_30 : decode cX5_addDevice 30 = .ok (.getstatic 31, 3) := by decide +kernel
theorem dX5_addDevice_33 : decode cX5_addDevice 33 = .ok (.iload_n 1, 1) := q_o27 (by decide +kernel)
theorem dX5_addDevice_34 : decode cX5_addDevice 34 = .ok (.iaload, 1) := q_o46 (by decide +kernel)
theorem dX5_addDevice_35 : decode cX5_addDevice 35 = .ok (.iastore, 1) := q_o79 (by decide +kernel)
theorem dX5_addDevice_36 : decode cX5_addDevice 36 = .ok (.iinc 1 1, 3) := q_o132 (a := 1) (b := 1) (by decide +kernel) rfl
theorem dX5_addDevice_39 : decode cX5_addDevice 39 = .ok (.goto (-28), 3) := q_o167 (a := 255) (b := 228) (by decide +kernel) rfl
theorem dX5_addDevice_42 : decode cX5_addDevice 42 = .ok (.aload_n 0, 1) := q_o42 (by decide +kernel)
theorem dX5_addDevice_43 : decode cX5_addDevice 43 = .ok (.dup, 1) := q_o89 (by decide +kernel)
theorem dX5_addDevice_44 : decode cX5_addDevice 44 = .ok (.getfield 18, 3) := q_o180 (a := 0) (b := 18) (by decide +kernel)
theorem dX5_addDevice_47 : decode cX5_addDevice 47 = .ok (.iconst 1, 1) := q_o4 (by decide +kernel)
theorem dX5_addDevice_48 : decode cX5_addDevice 48 = .ok (.iadd, 1) := q_o96 (by decide +kernel)
theorem dX5_addDevice_49 : decode cX5_addDevice 49 = .ok (.putfield 18, 3) := q_o181 (a := 0) (b := 18) (by decide +kernel)
theorem dX5_addDevice_52 : decode cX5_addDevice 52 = .ok (.return_, 1) := q_o177 (by decide +kernel)
theorem dX5_clear_0 : decode cX5_clear 0 = .ok (.getstatic 22, 3) := by decide +kernel
theorem dX5_clear_3 : decode cX5_clear 3 = .ok (.iconst 0, 1) := q_o3 (by decide +kernel)
theorem dX5_clear_4 : decode cX5_clear 4 = .ok (.aload_n 0, 1) := q_o42 (by decide +kernel)
theorem dX5_clear_5 : decode cX5_clear 5 = .ok (.getfield 9, 3) := q_o180 (a := 0) (b := 9) (by decide +kernel)
theorem dX5_clear_8 : decode cX5_clear 8 = .ok (.iconst 0, 1) := q_o3 (by decide +kernel)
theorem dX5_clear_9 : decode cX5_clear 9 = .ok (.bipush 8, 2) := q_o16 (a := 8) (by decide +kernel) rfl
theorem dX5_clear_11 : decode cX5_clear 11 = .ok (.invokestatic 25, 3) := q_o184 (a := 0) (b := 25) (by decide +kernel)
theorem dX5_clear_14 : decode cX5_clear 14 = .ok (.aload_n 0, 1) := q_o42 (by decide +kernel)
theorem dX5_clear_15 : decode cX5_clear 15 = .ok (.iconst 0, 1) := q_o3 (by decide +kernel)
theorem dX5_clear_16 : decode cX5_clear 16 = .ok (.putfield 18, 3) := q_o181 (a := 0) (b := 18) (by decide +kernel)
theorem dX5_clear_19 : decode cX5_clear 19 = .ok (.return_, 1) := q_o177 (by decide +kernel)
theorem dX6_readDigit_0 : decode cX6_readDigit 0 = .ok (.aload_n 0, 1) := q_o42 (by decide +kernel)
theorem dX6_readDigit_1 : decode cX6_readDigit 1 = .ok (.invokevirtual 119, 3) := q_o182 (a := 0) (b := 119) (by decide +kernel)
theorem dX6_readDigit_4 : decode cX6_readDigit 4 = .ok (.ifCond .ne 5, 3) := q_o154 (a := 0) (b := 5) (by decide +kernel) rfl
theorem dX6_readDigit_7 : decode cX6_readDigit 7 = .ok (.iconst 0, 1) := q_o3 (by decide +kernel)
theorem dX6_readDigit_8 : decode cX6_readDigit 8 = .ok (.ireturn, 1) := q_o172 (by decide +kernel)
theorem dX6_readDigit_9 : decode cX6_readDigit 9 = .ok (.aload_n 0, 1) := q_o42 (by decide +kernel)
theorem dX6_readDigit_10 : decode cX6_readDigit 10 = .ok (.aload_n 0, 1) := q_o42 (by decide +kernel)
theorem dX6_readDigit_11 : decode cX6_readDigit 11 = .ok (.getfield 18, 3) := q_o180 (a := 0) (b := 18) (by decide +kernel)
theorem dX6_readDigit_14 : decode cX6_readDigit 14 = .ok (.getfield 81, 3) := q_o180 (a := 0) (b := 81) (by decide +kernel)
theorem dX6_readDigit_17 : decode cX6_readDigit 17 = .ok (.aload_n 0, 1) := q_o42 (by decide +kernel)
theorem dX6_readDigit_18 : decode cX6_readDigit 18 = .ok (.getfield 9, 3) := q_o180 (a := 0) (b := 9) (by decide +kernel)
theorem dX6_readDigit_21 : decode cX6_readDigit 21 = .ok (.caload, 1) := by decide +kernel
theorem dX6_readDigit_22 : decode cX6_readDigit 22 = .ok (.bipush 48, 2) := q_o16 (a := 48) (by decide +kernel) rfl
theorem dX6_readDigit_24 : decode cX6_readDigit 24 = .ok (.isub, 1) := q_o100 (by decide +kernel)
theorem dX6_readDigit_25 : decode cX6_readDigit 25 = .ok (.putfield 15, 3) := q_o181 (a := 0) (b := 15) (by decide +kernel)
theorem dX6_readDigit_28 : decode cX6_readDigit 28 = .ok (.aload_n 0, 1) := q_o42 (by decide +kernel)
theorem dX6_readDigit_29 : decode cX6_readDigit 29 = .ok (.dup, 1) := q_o89 (by decide +kernel)
theorem dX6_readDigit_30 : decode cX6_readDigit 30 = .ok (.getfield 9, 3) := q_o180 (a := 0) (b := 9) (by decide +kernel)
theorem dX6_readDigit_33 : decode cX6_readDigit 33 = .ok (.iconst 1, 1) := q_o4 (by decide +kernel)
theorem dX6_readDigit_34 : decode cX6_readDigit 34 = .ok (.iadd, 1) := q_o96 (by decide +kernel)
theorem dX6_readDigit_35 : decode cX6_readDigit 35 = .ok (.putfield 9, 3) := q_o181 (a := 0) (b := 9) (by decide +kernel)
theorem dX6_readDigit_38 : decode cX6_readDigit 38 = .ok (.iconst 1, 1) := q_o4 (by decide +kernel)
theorem dX6_readDigit_39 : decode cX6_readDigit 39 = .ok (.ireturn, 1) := q_o172 (by decide +kernel)
theorem dX6_readItems_0 : decode cX6_readItems 0 = .ok (.iconst 0, 1) := q_o3 (by decide +kernel)
theorem dX6_readItems_1 : decode cX6_readItems 1 = .ok (.istore 7, 2) := q_o54 (a := 7) (by decide +kernel)
theorem dX6_readItems_3 : decode cX6_readItems 3 = .ok (.aload_n 0, 1) := q_o42 (by decide +kernel)
theorem dX6_readItems_4 : decode cX6_readItems 4 = .ok (.dup, 1) := q_o89 (by decide +kernel)
theorem dX6_readItems_5 : decode cX6_readItems 5 = .ok (.getfield 9, 3) := q_o180 (a := 0) (b := 9) (by decide +kernel)
theorem dX6_readItems_8 : decode cX6_readItems 8 = .ok (.iconst 1, 1) := q_o4 (by decide +kernel)
theorem dX6_readItems_9 : decode cX6_readItems 9 = .ok (.iadd, 1) := q_o96 (by decide +kernel)
theorem dX6_readItems_10 : decode cX6_readItems 10 = .ok (.putfield 9, 3) := q_o181 (a := 0) (b := 9) (by decide +kernel)
theorem dX6_readItems_13 : decode cX6_readItems 13 = .ok (.iconst 0, 1) := q_o3 (by decide +kernel)
theorem dX6_readItems_14 : decode cX6_readItems 14 = .ok (.istore 8, 2) := q_o54 (a := 8) (by decide +kernel)
theorem dX6_readItems_16 : decode cX6_readItems 16 = .ok (.iload 8, 2) := q_o21 (a := 8) (by decide +kernel)
theorem dX6_readItems_18 : decode cX6_readItems 18 = .ok (.aload_n 1, 1) := q_o43 (by decide +kernel)
theorem dX6_readItems_19 : decode cX6_readItems 19 = .ok (.invokevirtual 76, 3) := q_o182 (a := 0) (b := 76) (by decide +kernel)
theorem dX6_readItems_22 : decode cX6_readItems 22 = .ok (.if_icmp .gt 157, 3) := q_o163 (a := 0) (b := 157) (by decide +kernel) rfl
theorem dX6_readItems_25 : decode cX6_readItems 25 = .ok (.aload_n 0, 1) := q_o42 (by decide +kernel)
theorem dX6_readItems_26 : decode cX6_readItems 26 = .ok (.invokevirtual 27, 3) := q_o182 (a := 0) (b := 27) (by decide +kernel)
theorem dX6_readItems_29 : decode cX6_readItems 29 = .ok (.aload_n 0, 1) := q_o42 (by decide +kernel)
theorem dX6_readItems_30 : decode cX6_readItems 30 = .ok (.getfield 9, 3) := q_o180 (a := 0) (b := 9) (by decide +kernel)
theorem dX6_readItems_33 : decode cX6_readItems 33 = .ok (.aload_n 0, 1) := q_o42 (by decide +kernel)
theorem dX6_readItems_34 : decode cX6_readItems 34 = .ok (.getfield 18, 3) := q_o180 (a := 0) (b := 18) (by decide +kernel)
theorem dX6_readItems_37 : decode cX6_readItems 37 = .ok (.getfield 67, 3) := q_o180 (a := 0) (b := 67) (by decide +kernel)
theorem dX6_readItems_40 : decode cX6_readItems 40 = .ok (.if_icmp .ge 12, 3) := q_o162 (a := 0) (b := 12) (by decide +kernel) rfl
theorem dX6_readItems_43 : decode cX6_readItems 43 = .ok (.aload_n 0, 1) := q_o42 (by decide +kernel)
theorem dX6_readItems_44 : decode cX6_readItems 44 = .ok (.bipush 59, 2) := q_o16 (a := 59) (by decide +kernel) rfl
theorem dX6_readItems_46 : decode cX6_readItems 46 = .ok (.invokevirtual 30, 3) := q_o182 (a := 0) (b := 30) (by decide +kernel)
theorem dX6_readItems_49 : decode cX6_readItems 49 = .ok (.ifCond .eq 5, 3) := q_o153 (a := 0) (b := 5) (by decide +kernel) rfl
theorem dX6_readItems_52 : decode cX6_readItems 52 = .ok (.iconst (-1), 1) := q_o2 (by decide +kernel)
theorem dX6_readItems_53 : decode cX6_readItems 53 = .ok (.ireturn, 1) := q_o172 (by decide +kernel)
theorem dX6_readItems_54 : decode cX6_readItems 54 = .ok (.aload_n 1, 1) := q_o43 (by decide +kernel)
theorem dX6_readItems_55 : decode cX6_readItems 55 = .ok (.aload_n 0, 1) := q_o42 (by decide +kernel)
theorem dX6_readItems_56 : decode cX6_readItems 56 = .ok (.getfield 18, 3) := q_o180 (a := 0) (b := 18) (by decide +kernel)
theorem dX6_readItems_59 : decode cX6_readItems 59 = .ok (.getfield 81, 3) := q_o180 (a := 0) (b := 81) (by decide +kernel)
theorem dX6_readItems_62 : decode cX6_readItems 62 = .ok (.aload_n 0, 1) := q_o42 (by decide +kernel)
theorem dX6_readItems_63 : decode cX6_readItems 63 = .ok (.getfield 9, 3) := q_o180 (a := 0) (b := 9) (by decide +kernel)
theorem dX6_readItems_66 : decode cX6_readItems 66 = .ok (.caload, 1) := by decide +kernel
theorem dX6_readItems_67 : decode cX6_readItems 67 = .ok (.invokevirtual 85, 3) := q_o182 (a := 0) (b := 85) (by decide +kernel)
theorem dX6_readItems_70 : decode cX6_readItems 70 = .ok (.istore 9, 2) := q_o54 (a := 9) (by decide +kernel)
theorem dX6_readItems_72 : decode cX6_readItems 72 = .ok (.iload 9, 2) := q_o21 (a := 9) (by decide +kernel)
theorem dX6_readItems_74 : decode cX6_readItems 74 = .ok (.ifCond .lt 14, 3) := q_o155 (a := 0) (b := 14) (by decide +kernel) rfl
theorem dX6_readItems_77 : decode cX6_readItems 77 = .ok (.iload 7, 2) := q_o21 (a := 7) (by decide +kernel)
theorem dX6_readItems_79 : decode cX6_readItems 79 = .ok (.iload 9, 2) := q_o21 (a := 9) (by decide +kernel)
theorem dX6_readItems_81 : decode cX6_readItems 81 = .ok (.ishr, 1) := by decide +kernel
theorem dX6_readItems_82 : decode cX6_readItems 82 = .ok (.iconst 1, 1) := q_o4 (by decide +kernel)
theorem dX6_readItems_83 : decode cX6_readItems 83 = .ok (.iand, 1) := q_o126 (by decide +kernel)
theorem dX6_readItems_84 : decode cX6_readItems 84 = .ok (.iconst 1, 1) := q_o4 (by decide +kernel)
theorem dX6_readItems_85 : decode cX6_readItems 85 = .ok (.if_icmp .ne 8, 3) := q_o160 (a := 0) (b := 8) (by decide +kernel) rfl
theorem dX6_readItems_88 : decode cX6_readItems 88 = .ok (.aload_n 0, 1) := q_o42 (by decide +kernel)
theorem dX6_readItems_89 : decode cX6_readItems 89 = .ok (.getfield 9, 3) := q_o180 (a := 0) (b := 9) (by decide +kernel)
theorem dX6_readItems_92 : decode cX6_readItems 92 = .ok (.ireturn, 1) := q_o172 (by decide +kernel)
theorem dX6_readItems_93 : decode cX6_readItems 93 = .ok (.iload 7, 2) := q_o21 (a := 7) (by decide +kernel)
theorem dX6_readItems_95 : decode cX6_readItems 95 = .ok (.iconst 1, 1) := q_o4 (by decide +kernel)
theorem dX6_readItems_96 : decode cX6_readItems 96 = .ok (.iload 9, 2) := q_o21 (a := 9) (by decide +kernel)
theorem dX6_readItems_98 : decode cX6_readItems 98 = .ok (.ishl, 1) := by decide +kernel
theorem dX6_readItems_99 : decode cX6_readItems 99 = .ok (.ior, 1) := by decide +kernel
theorem dX6_readItems_100 : decode cX6_readItems 100 = .ok (.istore 7, 2) := q_o54 (a := 7) (by decide +kernel)
theorem dX6_readItems_102 : decode cX6_readItems 102 = .ok (.aload_n 0, 1) := q_o42 (by decide +kernel)
theorem dX6_readItems_103 : decode cX6_readItems 103 = .ok (.dup, 1) := q_o89 (by decide +kernel)
theorem dX6_readItems_104 : decode cX6_readItems 104 = .ok (.getfield 9, 3) := q_o180 (a := 0) (b := 9) (by decide +kernel)
theorem dX6_readItems_107 : decode cX6_readItems 107 = .ok (.iconst 1, 1) := q_o4 (by decide +kernel)
theorem dX6_readItems_108 : decode cX6_readItems 108 = .ok (.iadd, 1) := q_o96 (by decide +kernel)
theorem dX6_readItems_109 : decode cX6_readItems 109 = .ok (.putfield 9, 3) := q_o181 (a := 0) (b := 9) (by decide +kernel)
theorem dX6_readItems_112 : decode cX6_readItems 112 = .ok (.aload_n 0, 1) := q_o42 (by decide +kernel)
theorem dX6_readItems_113 : decode cX6_readItems 113 = .ok (.invokevirtual 27, 3) := q_o182 (a := 0) (b := 27) (by decide +kernel)
theorem dX6_readItems_116 : decode cX6_readItems 116 = .ok (.aload_n 0, 1) := q_o42 (by decide +kernel)
theorem dX6_readItems_117 : decode cX6_readItems 117 = .ok (.iconst 3, 1) := q_o6 (by decide +kernel)
theorem dX6_readItems_118 : decode cX6_readItems 118 = .ok (.invokevirtual 89, 3) := q_o182 (a := 0) (b := 89) (by decide +kernel)
theorem dX6_readItems_121 : decode cX6_readItems 121 = .ok (.ifCond .ne 8, 3) := q_o154 (a := 0) (b := 8) (by decide +kernel) rfl
theorem dX6_readItems_124 : decode cX6_readItems 124 = .ok (.aload_n 0, 1) := q_o42 (by decide +kernel)
theorem dX6_readItems_125 : decode cX6_readItems 125 = .ok (.getfield 9, 3) := q_o180 (a := 0) (b := 9) (by decide +kernel)
theorem dX6_readItems_128 : decode cX6_readItems 128 = .ok (.ireturn, 1) := q_o172 (by decide +kernel)
theorem dX6_readItems_129 : decode cX6_readItems 129 = .ok (.aload_n 0, 1) := q_o42 (by decide +kernel)
theorem dX6_readItems_130 : decode cX6_readItems 130 = .ok (.getfield 15, 3) := q_o180 (a := 0) (b := 15) (by decide +kernel)
theorem dX6_readItems_133 : decode cX6_readItems 133 = .ok (.aload_n 2, 1) := q_o44 (by decide +kernel)
theorem dX6_readItems_134 : decode cX6_readItems 134 = .ok (.iload 9, 2) := q_o21 (a := 9) (by decide +kernel)
theorem dX6_readItems_136 : decode cX6_readItems 136 = .ok (.iaload, 1) := q_o46 (by decide +kernel)
theorem dX6_readItems_137 : decode cX6_readItems 137 = .ok (.if_icmp .lt 14, 3) := q_o161 (a := 0) (b := 14) (by decide +kernel) rfl
theorem dX6_readItems_140 : decode cX6_readItems 140 = .ok (.aload_n 0, 1) := q_o42 (by decide +kernel)
theorem dX6_readItems_141 : decode cX6_readItems 141 = .ok (.getfield 15, 3) := q_o180 (a := 0) (b := 15) (by decide +kernel)
theorem dX6_readItems_144 : decode cX6_readItems 144 = .ok (.aload_n 3, 1) := by decide +kernel
theorem dX6_readItems_145 : decode cX6_readItems 145 = .ok (.iload 9, 2) := q_o21 (a := 9) (by decide +kernel)
theorem dX6_readItems_147 : decode cX6_readItems 147 = .ok (.iaload, 1) := q_o46 (by decide +kernel)
theorem dX6_readItems_148 : decode cX6_readItems 148 = .ok (.if_icmp .le 10, 3) := q_o164 (a := 0) (b := 10) (by decide +kernel) rfl
theorem dX6_readItems_151 : decode cX6_readItems 151 = .ok (.aload_n 0, 1) := q_o42 (by decide +kernel)
theorem dX6_readItems_152 : decode cX6_readItems 152 = .ok (.getfield 9, 3) := q_o180 (a := 0) (b := 9) (by decide +kernel)
theorem dX6_readItems_155 : decode cX6_readItems 155 = .ok (.iconst 1, 1) := q_o4 (by decide +kernel)
theorem dX6_readItems_156 : decode cX6_readItems 156 = .ok (.isub, 1) := q_o100 (by decide +kernel)
theorem dX6_readItems_157 : decode cX6_readItems 157 = .ok (.ireturn, 1) := q_o172 (by decide +kernel)
theorem dX6_readItems_158 : decode cX6_readItems 158 = .ok (.aload 4, 2) := by decide +kernel
theorem dX6_readItems_160 : decode cX6_readItems 160 = .ok (.iload 5, 2) := q_o21 (a := 5) (by decide +kernel)
theorem dX6_readItems_162 : decode cX6_readItems 162 = .ok (.iload 9, 2) := q_o21 (a := 9) (by decide +kernel)
theorem dX6_readItems_164 : decode cX6_readItems 164 = .ok (.iload 6, 2) := q_o21 (a := 6) (by decide +kernel)
theorem dX6_readItems_166 : decode cX6_readItems 166 = .ok (.imul, 1) := q_o104 (by decide +kernel)
theorem dX6_readItems_167 : decode cX6_readItems 167 = .ok (.iadd, 1) := q_o96 (by decide +kernel)
theorem dX6_readItems_168 : decode cX6_readItems 168 = .ok (.aload_n 0, 1) := q_o42 (by decide +kernel)
theorem dX6_readItems_169 : decode cX6_readItems 169 = .ok (.getfield 15, 3) := q_o180 (a := 0) (b := 15) (by decide +kernel)
theorem dX6_readItems_172 : decode cX6_readItems 172 = .ok (.iastore, 1) := q_o79 (by decide +kernel)
theorem dX6_readItems_173 : decode cX6_readItems 173 = .ok (.iinc 8 1, 3) := q_o132 (a := 8) (b := 1) (by decide +kernel) rfl
theorem dX6_readItems_176 : decode cX6_readItems 176 = .ok (.goto (-160), 3) := q_o167 (a := 255) (b := 96) (by decide +kernel) rfl
theorem dX6_readItems_179 : decode cX6_readItems 179 = .ok (.aload_n 0, 1) := q_o42 (by decide +kernel)
theorem dX6_readItems_180 : decode cX6_readItems 180 = .ok (.getfield 9, 3) := q_o180 (a := 0) (b := 9) (by decide +kernel)
theorem dX6_readItems_183 : decode cX6_readItems 183 = .ok (.ireturn, 1) := q_o172 (by decide +kernel)
theorem dX6_readNumber_0 : decode cX6_readNumber 0 = .ok (.iconst 0, 1) := q_o3 (by decide +kernel)
theorem dX6_readNumber_1 : decode cX6_readNumber 1 = .ok (.istore_n 2, 1) := q_o61 (by decide +kernel)
theorem dX6_readNumber_2 : decode cX6_readNumber 2 = .ok (.iconst 0, 1) := q_o3 (by decide +kernel)
theorem dX6_readNumber_3 : decode cX6_readNumber 3 = .ok (.istore_n 3, 1) := q_o62 (by decide +kernel)
theorem dX6_readNumber_4 : decode cX6_readNumber 4 = .ok (.iload_n 3, 1) := q_o29 (by decide +kernel)
theorem dX6_readNumber_5 : decode cX6_readNumber 5 = .ok (.iload_n 1, 1) := q_o27 (by decide +kernel)
theorem dX6_readNumber_6 : decode cX6_readNumber 6 = .ok (.if_icmp .ge 26, 3) := q_o162 (a := 0) (b := 26) (by decide +kernel) rfl
theorem dX6_readNumber_9 : decode cX6_readNumber 9 = .ok (.aload_n 0, 1) := q_o42 (by decide +kernel)
theorem dX6_readNumber_10 : decode cX6_readNumber 10 = .ok (.invokevirtual 116, 3) := q_o182 (a := 0) (b := 116) (by decide +kernel)
theorem dX6_readNumber_13 : decode cX6_readNumber 13 = .ok (.ifCond .eq 19, 3) := q_o153 (a := 0) (b := 19) (by decide +kernel) rfl
theorem dX6_readNumber_16 : decode cX6_readNumber 16 = .ok (.iload_n 2, 1) := q_o28 (by decide +kernel)
theorem dX6_readNumber_17 : decode cX6_readNumber 17 = .ok (.bipush 10, 2) := q_o16 (a := 10) (by decide +kernel) rfl
theorem dX6_readNumber_19 : decode cX6_readNumber 19 = .ok (.imul, 1) := q_o104 (by decide +kernel)
theorem dX6_readNumber_20 : decode cX6_readNumber 20 = .ok (.aload_n 0, 1) := q_o42 (by decide +kernel)
theorem dX6_readNumber_21 : decode cX6_readNumber 21 = .ok (.getfield 15, 3) := q_o180 (a := 0) (b := 15) (by decide +kernel)
theorem dX6_readNumber_24 : decode cX6_readNumber 24 = .ok (.iadd, 1) := q_o96 (by decide +kernel)
theorem dX6_readNumber_25 : decode cX6_readNumber 25 = .ok (.istore_n 2, 1) := q_o61 (by decide +kernel)
theorem dX6_readNumber_26 : decode cX6_readNumber 26 = .ok (.iinc 3 1, 3) := q_o132 (a := 3) (b := 1) (by decide +kernel) rfl
theorem dX6_readNumber_29 : decode cX6_readNumber 29 = .ok (.goto (-25), 3) := q_o167 (a := 255) (b := 231) (by decide +kernel) rfl
theorem dX6_readNumber_32 : decode cX6_readNumber 32 = .ok (.aload_n 0, 1) := q_o42 (by decide +kernel)
theorem dX6_readNumber_33 : decode cX6_readNumber 33 = .ok (.iload_n 2, 1) := q_o28 (by decide +kernel)
theorem dX6_readNumber_34 : decode cX6_readNumber 34 = .ok (.putfield 15, 3) := q_o181 (a := 0) (b := 15) (by decide +kernel)
theorem dX6_readNumber_37 : decode cX6_readNumber 37 = .ok (.iload_n 3, 1) := q_o29 (by decide +kernel)
theorem dX6_readNumber_38 : decode cX6_readNumber 38 = .ok (.ifCond .le 14, 3) := q_o158 (a := 0) (b := 14) (by decide +kernel) rfl
theorem dX6_readNumber_41 : decode cX6_readNumber 41 = .ok (.aload_n 0, 1) := q_o42 (by decide +kernel)
theorem dX6_readNumber_42 : decode cX6_readNumber 42 = .ok (.invokevirtual 119, 3) := q_o182 (a := 0) (b := 119) (by decide +kernel)
theorem dX6_readNumber_45 : decode cX6_readNumber 45 = .ok (.ifCond .ne 7, 3) := q_o154 (a := 0) (b := 7) (by decide +kernel) rfl
theorem dX6_readNumber_48 : decode cX6_readNumber 48 = .ok (.iconst 1, 1) := q_o4 (by decide +kernel)
theorem dX6_readNumber_49 : decode cX6_readNumber 49 = .ok (.goto 4, 3) := q_o167 (a := 0) (b := 4) (by decide +kernel) rfl
theorem dX6_readNumber_52 : decode cX6_readNumber 52 = .ok (.iconst 0, 1) := q_o3 (by decide +kernel)
theorem dX6_readNumber_53 : decode cX6_readNumber 53 = .ok (.ireturn, 1) := q_o172 (by decide +kernel)
theorem dX6_readScript_0 : decode cX6_readScript 0 = .ok (.aload_n 1, 1) := q_o43 (by decide +kernel)
theorem dX6_readScript_1 : decode cX6_readScript 1 = .ok (.getfield 93, 3) := q_o180 (a := 0) (b := 93) (by decide +kernel)
theorem dX6_readScript_4 : decode cX6_readScript 4 = .ok (.iconst (-1), 1) := q_o2 (by decide +kernel)
theorem dX6_readScript_5 : decode cX6_readScript 5 = .ok (.invokestatic 98, 3) := q_o184 (a := 0) (b := 98) (by decide +kernel)
theorem dX6_readScript_8 : decode cX6_readScript 8 = .ok (.aload_n 0, 1) := q_o42 (by decide +kernel)
theorem dX6_readScript_9 : decode cX6_readScript 9 = .ok (.iconst 0, 1) := q_o3 (by decide +kernel)
theorem dX6_readScript_10 : decode cX6_readScript 10 = .ok (.putfield 9, 3) := q_o181 (a := 0) (b := 9) (by decide +kernel)
theorem dX6_readScript_13 : decode cX6_readScript 13 = .ok (.iconst 0, 1) := q_o3 (by decide +kernel)
theorem dX6_readScript_14 : decode cX6_readScript 14 = .ok (.istore_n 2, 1) := q_o61 (by decide +kernel)
theorem dX6_readScript_15 : decode cX6_readScript 15 = .ok (.iload_n 2, 1) := q_o28 (by decide +kernel)
theorem dX6_readScript_16 : decode cX6_readScript 16 = .ok (.bipush 16, 2) := q_o16 (a := 16) (by decide +kernel) rfl
theorem dX6_readScript_18 : decode cX6_readScript 18 = .ok (.if_icmp .ge 145, 3) := q_o162 (a := 0) (b := 145) (by decide +kernel) rfl
theorem dX6_readScript_21 : decode cX6_readScript 21 = .ok (.aload_n 0, 1) := q_o42 (by decide +kernel)
theorem dX6_readScript_22 : decode cX6_readScript 22 = .ok (.invokevirtual 27, 3) := q_o182 (a := 0) (b := 27) (by decide +kernel)
theorem dX6_readScript_25 : decode cX6_readScript 25 = .ok (.aload_n 0, 1) := q_o42 (by decide +kernel)
theorem dX6_readScript_26 : decode cX6_readScript 26 = .ok (.getfield 9, 3) := q_o180 (a := 0) (b := 9) (by decide +kernel)
theorem dX6_readScript_29 : decode cX6_readScript 29 = .ok (.aload_n 0, 1) := q_o42 (by decide +kernel)
theorem dX6_readScript_30 : decode cX6_readScript 30 = .ok (.getfield 18, 3) := q_o180 (a := 0) (b := 18) (by decide +kernel)
theorem dX6_readScript_33 : decode cX6_readScript 33 = .ok (.getfield 67, 3) := q_o180 (a := 0) (b := 67) (by decide +kernel)
theorem dX6_readScript_36 : decode cX6_readScript 36 = .ok (.if_icmp .ge 23, 3) := q_o162 (a := 0) (b := 23) (by decide +kernel) rfl
theorem dX6_readScript_39 : decode cX6_readScript 39 = .ok (.ldc 104, 2) := by decide +kernel
theorem dX6_readScript_41 : decode cX6_readScript 41 = .ok (.aload_n 0, 1) := q_o42 (by decide +kernel)
theorem dX6_readScript_42 : decode cX6_readScript 42 = .ok (.getfield 18, 3) := q_o180 (a := 0) (b := 18) (by decide +kernel)
theorem dX6_readScript_45 : decode cX6_readScript 45 = .ok (.getfield 81, 3) := q_o180 (a := 0) (b := 81) (by decide +kernel)
theorem dX6_readScript_48 : decode cX6_readScript 48 = .ok (.aload_n 0, 1) := q_o42 (by decide +kernel)
theorem dX6_readScript_49 : decode cX6_readScript 49 = .ok (.getfield 9, 3) := q_o180 (a := 0) (b := 9) (by decide +kernel)
theorem dX6_readScript_52 : decode cX6_readScript 52 = .ok (.caload, 1) := by decide +kernel
theorem dX6_readScript_53 : decode cX6_readScript 53 = .ok (.invokevirtual 85, 3) := q_o182 (a := 0) (b := 85) (by decide +kernel)
theorem dX6_readScript_56 : decode cX6_readScript 56 = .ok (.goto 4, 3) := q_o167 (a := 0) (b := 4) (by decide +kernel) rfl
theorem dX6_readScript_59 : decode cX6_readScript 59 = .ok (.iconst (-1), 1) := q_o2 (by decide +kernel)
theorem dX6_readScript_60 : decode cX6_readScript 60 = .ok (.istore_n 3, 1) := q_o62 (by decide +kernel)
theorem dX6_readScript_61 : decode cX6_readScript 61 = .ok (.iload_n 3, 1) := q_o29 (by decide +kernel)
theorem dX6_readScript_62 : decode cX6_readScript 62 = .ok (.ifCond .ge 8, 3) := q_o156 (a := 0) (b := 8) (by decide +kernel) rfl
theorem dX6_readScript_65 : decode cX6_readScript 65 = .ok (.aload_n 0, 1) := q_o42 (by decide +kernel)
theorem dX6_readScript_66 : decode cX6_readScript 66 = .ok (.getfield 9, 3) := q_o180 (a := 0) (b := 9) (by decide +kernel)
theorem dX6_readScript_69 : decode cX6_readScript 69 = .ok (.ireturn, 1) := q_o172 (by decide +kernel)
theorem dX6_readScript_70 : decode cX6_readScript 70 = .ok (.aload_n 0, 1) := q_o42 (by decide +kernel)
theorem dX6_readScript_71 : decode cX6_readScript 71 = .ok (.dup, 1) := q_o89 (by decide +kernel)
theorem dX6_readScript_72 : decode cX6_readScript 72 = .ok (.getfield 9, 3) := q_o180 (a := 0) (b := 9) (by decide +kernel)
theorem dX6_readScript_75 : decode cX6_readScript 75 = .ok (.iconst 1, 1) := q_o4 (by decide +kernel)
theorem dX6_readScript_76 : decode cX6_readScript 76 = .ok (.iadd, 1) := q_o96 (by decide +kernel)
theorem dX6_readScript_77 : decode cX6_readScript 77 = .ok (.putfield 9, 3) := q_o181 (a := 0) (b := 9) (by decide +kernel)
theorem dX6_readScript_80 : decode cX6_readScript 80 = .ok (.aload_n 0, 1) := q_o42 (by decide +kernel)
theorem dX6_readScript_81 : decode cX6_readScript 81 = .ok (.iload_n 3, 1) := q_o29 (by decide +kernel)
theorem dX6_readScript_82 : decode cX6_readScript 82 = .ok (.aload_n 1, 1) := q_o43 (by decide +kernel)
theorem dX6_readScript_83 : decode cX6_readScript 83 = .ok (.getfield 93, 3) := q_o180 (a := 0) (b := 93) (by decide +kernel)
theorem dX6_readScript_86 : decode cX6_readScript 86 = .ok (.iload_n 2, 1) := q_o28 (by decide +kernel)
theorem dX6_readScript_87 : decode cX6_readScript 87 = .ok (.iconst 4, 1) := q_o7 (by decide +kernel)
theorem dX6_readScript_88 : decode cX6_readScript 88 = .ok (.imul, 1) := q_o104 (by decide +kernel)
theorem dX6_readScript_89 : decode cX6_readScript 89 = .ok (.invokevirtual 106, 3) := q_o182 (a := 0) (b := 106) (by decide +kernel)
theorem dX6_readScript_92 : decode cX6_readScript 92 = .ok (.ifCond .ne 8, 3) := q_o154 (a := 0) (b := 8) (by decide +kernel) rfl
theorem dX6_readScript_95 : decode cX6_readScript 95 = .ok (.aload_n 0, 1) := q_o42 (by decide +kernel)
theorem dX6_readScript_96 : decode cX6_readScript 96 = .ok (.getfield 9, 3) := q_o180 (a := 0) (b := 9) (by decide +kernel)
theorem dX6_readScript_99 : decode cX6_readScript 99 = .ok (.ireturn, 1) := q_o172 (by decide +kernel)
theorem dX6_readScript_100 : decode cX6_readScript 100 = .ok (.aload_n 1, 1) := q_o43 (by decide +kernel)
theorem dX6_readScript_101 : decode cX6_readScript 101 = .ok (.iload_n 2, 1) := q_o28 (by decide +kernel)
theorem dX6_readScript_102 : decode cX6_readScript 102 = .ok (.iconst 1, 1) := q_o4 (by decide +kernel)
theorem dX6_readScript_103 : decode cX6_readScript 103 = .ok (.iadd, 1) := q_o96 (by decide +kernel)
theorem dX6_readScript_104 : decode cX6_readScript 104 = .ok (.putfield 110, 3) := q_o181 (a := 0) (b := 110) (by decide +kernel)
theorem dX6_readScript_107 : decode cX6_readScript 107 = .ok (.aload_n 0, 1) := q_o42 (by decide +kernel)
theorem dX6_readScript_108 : decode cX6_readScript 108 = .ok (.invokevirtual 27, 3) := q_o182 (a := 0) (b := 27) (by decide +kernel)
theorem dX6_readScript_111 : decode cX6_readScript 111 = .ok (.aload_n 0, 1) := q_o42 (by decide +kernel)
theorem dX6_readScript_112 : decode cX6_readScript 112 = .ok (.getfield 9, 3) := q_o180 (a := 0) (b := 9) (by decide +kernel)
theorem dX6_readScript_115 : decode cX6_readScript 115 = .ok (.aload_n 0, 1) := q_o42 (by decide +kernel)
theorem dX6_readScript_116 : decode cX6_readScript 116 = .ok (.getfield 18, 3) := q_o180 (a := 0) (b := 18) (by decide +kernel)
theorem dX6_readScript_119 : decode cX6_readScript 119 = .ok (.getfield 67, 3) := q_o180 (a := 0) (b := 67) (by decide +kernel)
theorem dX6_readScript_122 : decode cX6_readScript 122 = .ok (.if_icmp .lt 5, 3) := q_o161 (a := 0) (b := 5) (by decide +kernel) rfl
theorem dX6_readScript_125 : decode cX6_readScript 125 = .ok (.iconst (-1), 1) := q_o2 (by decide +kernel)
theorem dX6_readScript_126 : decode cX6_readScript 126 = .ok (.ireturn, 1) := q_o172 (by decide +kernel)
theorem dX6_readScript_127 : decode cX6_readScript 127 = .ok (.aload_n 0, 1) := q_o42 (by decide +kernel)
theorem dX6_readScript_128 : decode cX6_readScript 128 = .ok (.bipush 59, 2) := q_o16 (a := 59) (by decide +kernel) rfl
theorem dX6_readScript_130 : decode cX6_readScript 130 = .ok (.invokevirtual 30, 3) := q_o182 (a := 0) (b := 30) (by decide +kernel)
theorem dX6_readScript_133 : decode cX6_readScript 133 = .ok (.ifCond .eq 9, 3) := q_o153 (a := 0) (b := 9) (by decide +kernel) rfl
theorem dX6_readScript_136 : decode cX6_readScript 136 = .ok (.iload_n 2, 1) := q_o28 (by decide +kernel)
theorem dX6_readScript_137 : decode cX6_readScript 137 = .ok (.bipush 15, 2) := q_o16 (a := 15) (by decide +kernel) rfl
theorem dX6_readScript_139 : decode cX6_readScript 139 = .ok (.if_icmp .ne 8, 3) := q_o160 (a := 0) (b := 8) (by decide +kernel) rfl
theorem dX6_readScript_142 : decode cX6_readScript 142 = .ok (.aload_n 0, 1) := q_o42 (by decide +kernel)
theorem dX6_readScript_143 : decode cX6_readScript 143 = .ok (.getfield 9, 3) := q_o180 (a := 0) (b := 9) (by decide +kernel)
theorem dX6_readScript_146 : decode cX6_readScript 146 = .ok (.ireturn, 1) := q_o172 (by decide +kernel)
theorem dX6_readScript_147 : decode cX6_readScript 147 = .ok (.aload_n 0, 1) := q_o42 (by decide +kernel)
theorem dX6_readScript_148 : decode cX6_readScript 148 = .ok (.dup, 1) := q_o89 (by decide +kernel)
theorem dX6_readScript_149 : decode cX6_readScript 149 = .ok (.getfield 9, 3) := q_o180 (a := 0) (b := 9) (by decide +kernel)
theorem dX6_readScript_152 : decode cX6_readScript 152 = .ok (.iconst 1, 1) := q_o4 (by decide +kernel)
theorem dX6_readScript_153 : decode cX6_readScript 153 = .ok (.iadd, 1) := q_o96 (by decide +kernel)
theorem dX6_readScript_154 : decode cX6_readScript 154 = .ok (.putfield 9, 3) := q_o181 (a := 0) (b := 9) (by decide +kernel)
theorem dX6_readScript_157 : decode cX6_readScript 157 = .ok (.iinc 2 1, 3) := q_o132 (a := 2) (b := 1) (by decide +kernel) rfl
theorem dX6_readScript_160 : decode cX6_readScript 160 = .ok (.goto (-145), 3) := q_o167 (a := 255) (b := 111) (by decide +kernel) rfl
theorem dX6_readScript_163 : decode cX6_readScript 163 = .ok (.aload_n 0, 1) := q_o42 (by decide +kernel)
theorem dX6_readScript_164 : decode cX6_readScript 164 = .ok (.getfield 9, 3) := q_o180 (a := 0) (b := 9) (by decide +kernel)
theorem dX6_readScript_167 : decode cX6_readScript 167 = .ok (.ireturn, 1) := q_o172 (by decide +kernel)
theorem dX6_readStep_0 : decode cX6_readStep 0 = .ok (.aload_n 2, 1) := q_o44 (by decide +kernel)
theorem dX6_readStep_1 : decode cX6_readStep 1 = .ok (.iload_n 3, 1) := q_o29 (by decide +kernel)
theorem dX6_readStep_2 : decode cX6_readStep 2 = .ok (.iload_n 1, 1) := q_o27 (by decide +kernel)
theorem dX6_readStep_3 : decode cX6_readStep 3 = .ok (.iastore, 1) := q_o79 (by decide +kernel)
theorem dX6_readStep_4 : decode cX6_readStep 4 = .ok (.iconst 1, 1) := q_o4 (by decide +kernel)
theorem dX6_readStep_5 : decode cX6_readStep 5 = .ok (.istore 4, 2) := q_o54 (a := 4) (by decide +kernel)
theorem dX6_readStep_7 : decode cX6_readStep 7 = .ok (.iload 4, 2) := q_o21 (a := 4) (by decide +kernel)
theorem dX6_readStep_9 : decode cX6_readStep 9 = .ok (.getstatic 113, 3) := by decide +kernel
theorem dX6_readStep_12 : decode cX6_readStep 12 = .ok (.iload_n 1, 1) := q_o27 (by decide +kernel)
theorem dX6_readStep_13 : decode cX6_readStep 13 = .ok (.iaload, 1) := q_o46 (by decide +kernel)
theorem dX6_readStep_14 : decode cX6_readStep 14 = .ok (.if_icmp .gt 48, 3) := q_o163 (a := 0) (b := 48) (by decide +kernel) rfl
theorem dX6_readStep_17 : decode cX6_readStep 17 = .ok (.aload_n 0, 1) := q_o42 (by decide +kernel)
theorem dX6_readStep_18 : decode cX6_readStep 18 = .ok (.invokevirtual 27, 3) := q_o182 (a := 0) (b := 27) (by decide +kernel)
theorem dX6_readStep_21 : decode cX6_readStep 21 = .ok (.iload_n 1, 1) := q_o27 (by decide +kernel)
theorem dX6_readStep_22 : decode cX6_readStep 22 = .ok (.iconst 2, 1) := q_o5 (by decide +kernel)
theorem dX6_readStep_23 : decode cX6_readStep 23 = .ok (.if_icmp .ne 14, 3) := q_o160 (a := 0) (b := 14) (by decide +kernel) rfl
theorem dX6_readStep_26 : decode cX6_readStep 26 = .ok (.aload_n 0, 1) := q_o42 (by decide +kernel)
theorem dX6_readStep_27 : decode cX6_readStep 27 = .ok (.iconst 2, 1) := q_o5 (by decide +kernel)
theorem dX6_readStep_28 : decode cX6_readStep 28 = .ok (.invokevirtual 89, 3) := q_o182 (a := 0) (b := 89) (by decide +kernel)
theorem dX6_readStep_31 : decode cX6_readStep 31 = .ok (.ifCond .ne 15, 3) := q_o154 (a := 0) (b := 15) (by decide +kernel) rfl
theorem dX6_readStep_34 : decode cX6_readStep 34 = .ok (.goto 10, 3) := q_o167 (a := 0) (b := 10) (by decide +kernel) rfl
theorem dX6_readStep_37 : decode cX6_readStep 37 = .ok (.aload_n 0, 1) := q_o42 (by decide +kernel)
theorem dX6_readStep_38 : decode cX6_readStep 38 = .ok (.invokevirtual 116, 3) := q_o182 (a := 0) (b := 116) (by decide +kernel)
theorem dX6_readStep_41 : decode cX6_readStep 41 = .ok (.ifCond .ne 5, 3) := q_o154 (a := 0) (b := 5) (by decide +kernel) rfl
theorem dX6_readStep_44 : decode cX6_readStep 44 = .ok (.iconst 0, 1) := q_o3 (by decide +kernel)
theorem dX6_readStep_45 : decode cX6_readStep 45 = .ok (.ireturn, 1) := q_o172 (by decide +kernel)
theorem dX6_readStep_46 : decode cX6_readStep 46 = .ok (.aload_n 2, 1) := q_o44 (by decide +kernel)
theorem dX6_readStep_47 : decode cX6_readStep 47 = .ok (.iload_n 3, 1) := q_o29 (by decide +kernel)
theorem dX6_readStep_48 : decode cX6_readStep 48 = .ok (.iload 4, 2) := q_o21 (a := 4) (by decide +kernel)
theorem dX6_readStep_50 : decode cX6_readStep 50 = .ok (.iadd, 1) := q_o96 (by decide +kernel)
theorem dX6_readStep_51 : decode cX6_readStep 51 = .ok (.aload_n 0, 1) := q_o42 (by decide +kernel)
theorem dX6_readStep_52 : decode cX6_readStep 52 = .ok (.getfield 15, 3) := q_o180 (a := 0) (b := 15) (by decide +kernel)
theorem dX6_readStep_55 : decode cX6_readStep 55 = .ok (.iastore, 1) := q_o79 (by decide +kernel)
theorem dX6_readStep_56 : decode cX6_readStep 56 = .ok (.iinc 4 1, 3) := q_o132 (a := 4) (b := 1) (by decide +kernel) rfl
theorem dX6_readStep_59 : decode cX6_readStep 59 = .ok (.goto (-52), 3) := q_o167 (a := 255) (b := 204) (by decide +kernel) rfl
theorem dX6_readStep_62 : decode cX6_readStep 62 = .ok (.iconst 1, 1) := q_o4 (by decide +kernel)
theorem dX6_readStep_63 : decode cX6_readStep 63 = .ok (.ireturn, 1) := q_o172 (by decide +kernel)
theorem dX6_readTree_0 : decode cX6_readTree 0 = .ok (.aload_n 1, 1) := q_o43 (by decide +kernel)
theorem dX6_readTree_1 : decode cX6_readTree 1 = .ok (.invokevirtual 22, 3) := q_o182 (a := 0) (b := 22) (by decide +kernel)
theorem dX6_readTree_4 : decode cX6_readTree 4 = .ok (.aload_n 0, 1) := q_o42 (by decide +kernel)
theorem dX6_readTree_5 : decode cX6_readTree 5 = .ok (.iconst 0, 1) := q_o3 (by decide +kernel)
theorem dX6_readTree_6 : decode cX6_readTree 6 = .ok (.putfield 9, 3) := q_o181 (a := 0) (b := 9) (by decide +kernel)
theorem dX6_readTree_9 : decode cX6_readTree 9 = .ok (.iconst 0, 1) := q_o3 (by decide +kernel)
theorem dX6_readTree_10 : decode cX6_readTree 10 = .ok (.istore_n 2, 1) := q_o61 (by decide +kernel)
theorem dX6_readTree_11 : decode cX6_readTree 11 = .ok (.iconst 0, 1) := q_o3 (by decide +kernel)
theorem dX6_readTree_12 : decode cX6_readTree 12 = .ok (.istore_n 3, 1) := q_o62 (by decide +kernel)
theorem dX6_readTree_13 : decode cX6_readTree 13 = .ok (.iload_n 3, 1) := q_o29 (by decide +kernel)
theorem dX6_readTree_14 : decode cX6_readTree 14 = .ok (.sipush 240, 3) := q_o17 (a := 0) (b := 240) (by decide +kernel) rfl
theorem dX6_readTree_17 : decode cX6_readTree 17 = .ok (.if_icmp .ge 160, 3) := q_o162 (a := 0) (b := 160) (by decide +kernel) rfl
theorem dX6_readTree_20 : decode cX6_readTree 20 = .ok (.aload_n 0, 1) := q_o42 (by decide +kernel)
theorem dX6_readTree_21 : decode cX6_readTree 21 = .ok (.invokevirtual 27, 3) := q_o182 (a := 0) (b := 27) (by decide +kernel)
theorem dX6_readTree_24 : decode cX6_readTree 24 = .ok (.aload_n 0, 1) := q_o42 (by decide +kernel)
theorem dX6_readTree_25 : decode cX6_readTree 25 = .ok (.bipush 115, 2) := q_o16 (a := 115) (by decide +kernel) rfl
theorem dX6_readTree_27 : decode cX6_readTree 27 = .ok (.invokevirtual 30, 3) := q_o182 (a := 0) (b := 30) (by decide +kernel)
theorem dX6_readTree_30 : decode cX6_readTree 30 = .ok (.ifCond .eq 32, 3) := q_o153 (a := 0) (b := 32) (by decide +kernel) rfl
theorem dX6_readTree_33 : decode cX6_readTree 33 = .ok (.iload_n 2, 1) := q_o28 (by decide +kernel)
theorem dX6_readTree_34 : decode cX6_readTree 34 = .ok (.ifCond .ne 28, 3) := q_o154 (a := 0) (b := 28) (by decide +kernel) rfl
theorem dX6_readTree_37 : decode cX6_readTree 37 = .ok (.iconst 1, 1) := q_o4 (by decide +kernel)
theorem dX6_readTree_38 : decode cX6_readTree 38 = .ok (.istore_n 2, 1) := q_o61 (by decide +kernel)
theorem dX6_readTree_39 : decode cX6_readTree 39 = .ok (.aload_n 0, 1) := q_o42 (by decide +kernel)
theorem dX6_readTree_40 : decode cX6_readTree 40 = .ok (.ldc 34, 2) := by decide +kernel
theorem dX6_readTree_42 : decode cX6_readTree 42 = .ok (.getstatic 36, 3) := by decide +kernel
theorem dX6_readTree_45 : decode cX6_readTree 45 = .ok (.getstatic 40, 3) := by decide +kernel
theorem dX6_readTree_48 : decode cX6_readTree 48 = .ok (.aload_n 1, 1) := q_o43 (by decide +kernel)
theorem dX6_readTree_49 : decode cX6_readTree 49 = .ok (.getfield 43, 3) := q_o180 (a := 0) (b := 43) (by decide +kernel)
theorem dX6_readTree_52 : decode cX6_readTree 52 = .ok (.iconst 0, 1) := q_o3 (by decide +kernel)
theorem dX6_readTree_53 : decode cX6_readTree 53 = .ok (.iconst 1, 1) := q_o4 (by decide +kernel)
theorem dX6_readTree_54 : decode cX6_readTree 54 = .ok (.invokevirtual 46, 3) := q_o182 (a := 0) (b := 46) (by decide +kernel)
theorem dX6_readTree_57 : decode cX6_readTree 57 = .ok (.istore 4, 2) := q_o54 (a := 4) (by decide +kernel)
theorem dX6_readTree_59 : decode cX6_readTree 59 = .ok (.goto 63, 3) := q_o167 (a := 0) (b := 63) (by decide +kernel) rfl
theorem dX6_readTree_62 : decode cX6_readTree 62 = .ok (.aload_n 0, 1) := q_o42 (by decide +kernel)
theorem dX6_readTree_63 : decode cX6_readTree 63 = .ok (.bipush 100, 2) := q_o16 (a := 100) (by decide +kernel) rfl
theorem dX6_readTree_65 : decode cX6_readTree 65 = .ok (.invokevirtual 30, 3) := q_o182 (a := 0) (b := 30) (by decide +kernel)
theorem dX6_readTree_68 : decode cX6_readTree 68 = .ok (.ifCond .eq 49, 3) := q_o153 (a := 0) (b := 49) (by decide +kernel) rfl
theorem dX6_readTree_71 : decode cX6_readTree 71 = .ok (.aload_n 1, 1) := q_o43 (by decide +kernel)
theorem dX6_readTree_72 : decode cX6_readTree 72 = .ok (.getfield 50, 3) := q_o180 (a := 0) (b := 50) (by decide +kernel)
theorem dX6_readTree_75 : decode cX6_readTree 75 = .ok (.bipush 8, 2) := q_o16 (a := 8) (by decide +kernel) rfl
theorem dX6_readTree_77 : decode cX6_readTree 77 = .ok (.if_icmp .ge 40, 3) := q_o162 (a := 0) (b := 40) (by decide +kernel) rfl
theorem dX6_readTree_80 : decode cX6_readTree 80 = .ok (.aload_n 1, 1) := q_o43 (by decide +kernel)
theorem dX6_readTree_81 : decode cX6_readTree 81 = .ok (.invokevirtual 53, 3) := q_o182 (a := 0) (b := 53) (by decide +kernel)
theorem dX6_readTree_84 : decode cX6_readTree 84 = .ok (.aload_n 1, 1) := q_o43 (by decide +kernel)
theorem dX6_readTree_85 : decode cX6_readTree 85 = .ok (.getfield 50, 3) := q_o180 (a := 0) (b := 50) (by decide +kernel)
theorem dX6_readTree_88 : decode cX6_readTree 88 = .ok (.iconst 1, 1) := q_o4 (by decide +kernel)
theorem dX6_readTree_89 : decode cX6_readTree 89 = .ok (.isub, 1) := q_o100 (by decide +kernel)
theorem dX6_readTree_90 : decode cX6_readTree 90 = .ok (.istore 5, 2) := q_o54 (a := 5) (by decide +kernel)
theorem dX6_readTree_92 : decode cX6_readTree 92 = .ok (.aload_n 0, 1) := q_o42 (by decide +kernel)
theorem dX6_readTree_93 : decode cX6_readTree 93 = .ok (.ldc 56, 2) := by decide +kernel
theorem dX6_readTree_95 : decode cX6_readTree 95 = .ok (.getstatic 58, 3) := by decide +kernel
theorem dX6_readTree_98 : decode cX6_readTree 98 = .ok (.getstatic 61, 3) := by decide +kernel
theorem dX6_readTree_101 : decode cX6_readTree 101 = .ok (.aload_n 1, 1) := q_o43 (by decide +kernel)
theorem dX6_readTree_102 : decode cX6_readTree 102 = .ok (.getfield 64, 3) := q_o180 (a := 0) (b := 64) (by decide +kernel)
theorem dX6_readTree_105 : decode cX6_readTree 105 = .ok (.iload 5, 2) := q_o21 (a := 5) (by decide +kernel)
theorem dX6_readTree_107 : decode cX6_readTree 107 = .ok (.bipush 8, 2) := q_o16 (a := 8) (by decide +kernel) rfl
theorem dX6_readTree_109 : decode cX6_readTree 109 = .ok (.invokevirtual 46, 3) := q_o182 (a := 0) (b := 46) (by decide +kernel)
theorem dX6_readTree_112 : decode cX6_readTree 112 = .ok (.istore 4, 2) := q_o54 (a := 4) (by decide +kernel)
theorem dX6_readTree_114 : decode cX6_readTree 114 = .ok (.goto 8, 3) := q_o167 (a := 0) (b := 8) (by decide +kernel) rfl
theorem dX6_readTree_117 : decode cX6_readTree 117 = .ok (.aload_n 0, 1) := q_o42 (by decide +kernel)
theorem dX6_readTree_118 : decode cX6_readTree 118 = .ok (.getfield 9, 3) := q_o180 (a := 0) (b := 9) (by decide +kernel)
theorem dX6_readTree_121 : decode cX6_readTree 121 = .ok (.ireturn, 1) := q_o172 (by decide +kernel)
theorem dX6_readTree_122 : decode cX6_readTree 122 = .ok (.iload 4, 2) := q_o21 (a := 4) (by decide +kernel)
theorem dX6_readTree_124 : decode cX6_readTree 124 = .ok (.iconst (-1), 1) := q_o2 (by decide +kernel)
theorem dX6_readTree_125 : decode cX6_readTree 125 = .ok (.if_icmp .eq 6, 3) := q_o159 (a := 0) (b := 6) (by decide +kernel) rfl
theorem dX6_readTree_128 : decode cX6_readTree 128 = .ok (.iload 4, 2) := q_o21 (a := 4) (by decide +kernel)
theorem dX6_readTree_130 : decode cX6_readTree 130 = .ok (.ireturn, 1) := q_o172 (by decide +kernel)
theorem dX6_readTree_131 : decode cX6_readTree 131 = .ok (.aload_n 0, 1) := q_o42 (by decide +kernel)
theorem dX6_readTree_132 : decode cX6_readTree 132 = .ok (.getfield 9, 3) := q_o180 (a := 0) (b := 9) (by decide +kernel)
theorem dX6_readTree_135 : decode cX6_readTree 135 = .ok (.aload_n 0, 1) := q_o42 (by decide +kernel)
theorem dX6_readTree_136 : decode cX6_readTree 136 = .ok (.getfield 18, 3) := q_o180 (a := 0) (b := 18) (by decide +kernel)
theorem dX6_readTree_139 : decode cX6_readTree 139 = .ok (.getfield 67, 3) := q_o180 (a := 0) (b := 67) (by decide +kernel)
theorem dX6_readTree_142 : decode cX6_readTree 142 = .ok (.if_icmp .lt 19, 3) := q_o161 (a := 0) (b := 19) (by decide +kernel) rfl
theorem dX6_readTree_145 : decode cX6_readTree 145 = .ok (.aload_n 1, 1) := q_o43 (by decide +kernel)
theorem dX6_readTree_146 : decode cX6_readTree 146 = .ok (.invokevirtual 72, 3) := q_o182 (a := 0) (b := 72) (by decide +kernel)
theorem dX6_readTree_149 : decode cX6_readTree 149 = .ok (.ifCond .eq 7, 3) := q_o153 (a := 0) (b := 7) (by decide +kernel) rfl
theorem dX6_readTree_152 : decode cX6_readTree 152 = .ok (.iconst (-1), 1) := q_o2 (by decide +kernel)
theorem dX6_readTree_153 : decode cX6_readTree 153 = .ok (.goto 7, 3) := q_o167 (a := 0) (b := 7) (by decide +kernel) rfl
theorem dX6_readTree_156 : decode cX6_readTree 156 = .ok (.aload_n 0, 1) := q_o42 (by decide +kernel)
theorem dX6_readTree_157 : decode cX6_readTree 157 = .ok (.getfield 9, 3) := q_o180 (a := 0) (b := 9) (by decide +kernel)
theorem dX6_readTree_160 : decode cX6_readTree 160 = .ok (.ireturn, 1) := q_o172 (by decide +kernel)
theorem dX6_readTree_161 : decode cX6_readTree 161 = .ok (.aload_n 0, 1) := q_o42 (by decide +kernel)
theorem dX6_readTree_162 : decode cX6_readTree 162 = .ok (.dup, 1) := q_o89 (by decide +kernel)
theorem dX6_readTree_163 : decode cX6_readTree 163 = .ok (.getfield 9, 3) := q_o180 (a := 0) (b := 9) (by decide +kernel)
theorem dX6_readTree_166 : decode cX6_readTree 166 = .ok (.iconst 1, 1) := q_o4 (by decide +kernel)
theorem dX6_readTree_167 : decode cX6_readTree 167 = .ok (.iadd, 1) := q_o96 (by decide +kernel)
theorem dX6_readTree_168 : decode cX6_readTree 168 = .ok (.putfield 9, 3) := q_o181 (a := 0) (b := 9) (by decide +kernel)
theorem dX6_readTree_171 : decode cX6_readTree 171 = .ok (.iinc 3 1, 3) := q_o132 (a := 3) (b := 1) (by decide +kernel) rfl
theorem dX6_readTree_174 : decode cX6_readTree 174 = .ok (.goto (-161), 3) := q_o167 (a := 255) (b := 95) (by decide +kernel) rfl
theorem dX6_readTree_177 : decode cX6_readTree 177 = .ok (.aload_n 0, 1) := q_o42 (by decide +kernel)
theorem dX6_readTree_178 : decode cX6_readTree 178 = .ok (.getfield 9, 3) := q_o180 (a := 0) (b := 9) (by decide +kernel)
theorem dX6_readTree_181 : decode cX6_readTree 181 = .ok (.ireturn, 1) := q_o172 (by decide +kernel)
theorem dX6_skipBlanks_0 : decode cX6_skipBlanks 0 = .ok (.aload_n 0, 1) := q_o42 (by decide +kernel)
theorem dX6_skipBlanks_1 : decode cX6_skipBlanks 1 = .ok (.getfield 9, 3) := q_o180 (a := 0) (b := 9) (by decide +kernel)
theorem dX6_skipBlanks_4 : decode cX6_skipBlanks 4 = .ok (.aload_n 0, 1) := q_o42 (by decide +kernel)
theorem dX6_skipBlanks_5 : decode cX6_skipBlanks 5 = .ok (.getfield 18, 3) := q_o180 (a := 0) (b := 18) (by decide +kernel)
theorem dX6_skipBlanks_8 : decode cX6_skipBlanks 8 = .ok (.getfield 67, 3) := q_o180 (a := 0) (b := 67) (by decide +kernel)
theorem dX6_skipBlanks_11 : decode cX6_skipBlanks 11 = .ok (.if_icmp .ge 33, 3) := q_o162 (a := 0) (b := 33) (by decide +kernel) rfl
theorem dX6_skipBlanks_14 : decode cX6_skipBlanks 14 = .ok (.aload_n 0, 1) := q_o42 (by decide +kernel)
theorem dX6_skipBlanks_15 : decode cX6_skipBlanks 15 = .ok (.getfield 18, 3) := q_o180 (a := 0) (b := 18) (by decide +kernel)
theorem dX6_skipBlanks_18 : decode cX6_skipBlanks 18 = .ok (.getfield 81, 3) := q_o180 (a := 0) (b := 81) (by decide +kernel)
theorem dX6_skipBlanks_21 : decode cX6_skipBlanks 21 = .ok (.aload_n 0, 1) := q_o42 (by decide +kernel)
theorem dX6_skipBlanks_22 : decode cX6_skipBlanks 22 = .ok (.getfield 9, 3) := q_o180 (a := 0) (b := 9) (by decide +kernel)
theorem dX6_skipBlanks_25 : decode cX6_skipBlanks 25 = .ok (.caload, 1) := by decide +kernel
theorem dX6_skipBlanks_26 : decode cX6_skipBlanks 26 = .ok (.bipush 32, 2) := q_o16 (a := 32) (by decide +kernel) rfl
theorem dX6_skipBlanks_28 : decode cX6_skipBlanks 28 = .ok (.if_icmp .ne 16, 3) := q_o160 (a := 0) (b := 16) (by decide +kernel) rfl
theorem dX6_skipBlanks_31 : decode cX6_skipBlanks 31 = .ok (.aload_n 0, 1) := q_o42 (by decide +kernel)
theorem dX6_skipBlanks_32 : decode cX6_skipBlanks 32 = .ok (.dup, 1) := q_o89 (by decide +kernel)
theorem dX6_skipBlanks_33 : decode cX6_skipBlanks 33 = .ok (.getfield 9, 3) := q_o180 (a := 0) (b := 9) (by decide +kernel)
theorem dX6_skipBlanks_36 : decode cX6_skipBlanks 36 = .ok (.iconst 1, 1) := q_o4 (by decide +kernel)
theorem dX6_skipBlanks_37 : decode cX6_skipBlanks 37 = .ok (.iadd, 1) := q_o96 (by decide +kernel)
theorem dX6_skipBlanks_38 : decode cX6_skipBlanks 38 = .ok (.putfield 9, 3) := q_o181 (a := 0) (b := 9) (by decide +kernel)
theorem dX6_skipBlanks_41 : decode cX6_skipBlanks 41 = .ok (.goto (-41), 3) := q_o167 (a := 255) (b := 215) (by decide +kernel) rfl
theorem dX6_skipBlanks_44 : decode cX6_skipBlanks 44 = .ok (.return_, 1) := q_o177 (by decide +kernel)
theorem dX6_stands_0 : decode cX6_stands 0 = .ok (.aload_n 0, 1) := q_o42 (by decide +kernel)
theorem dX6_stands_1 : decode cX6_stands 1 = .ok (.getfield 9, 3) := q_o180 (a := 0) (b := 9) (by decide +kernel)
theorem dX6_stands_4 : decode cX6_stands 4 = .ok (.aload_n 0, 1) := q_o42 (by decide +kernel)
theorem dX6_stands_5 : decode cX6_stands 5 = .ok (.getfield 18, 3) := q_o180 (a := 0) (b := 18) (by decide +kernel)
theorem dX6_stands_8 : decode cX6_stands 8 = .ok (.getfield 67, 3) := q_o180 (a := 0) (b := 67) (by decide +kernel)
theorem dX6_stands_11 : decode cX6_stands 11 = .ok (.if_icmp .ge 23, 3) := q_o162 (a := 0) (b := 23) (by decide +kernel) rfl
theorem dX6_stands_14 : decode cX6_stands 14 = .ok (.aload_n 0, 1) := q_o42 (by decide +kernel)
theorem dX6_stands_15 : decode cX6_stands 15 = .ok (.getfield 18, 3) := q_o180 (a := 0) (b := 18) (by decide +kernel)
theorem dX6_stands_18 : decode cX6_stands 18 = .ok (.getfield 81, 3) := q_o180 (a := 0) (b := 81) (by decide +kernel)
theorem dX6_stands_21 : decode cX6_stands 21 = .ok (.aload_n 0, 1) := q_o42 (by decide +kernel)
theorem dX6_stands_22 : decode cX6_stands 22 = .ok (.getfield 9, 3) := q_o180 (a := 0) (b := 9) (by decide +kernel)
theorem dX6_stands_25 : decode cX6_stands 25 = .ok (.caload, 1) := by decide +kernel
theorem dX6_stands_26 : decode cX6_stands 26 = .ok (.iload_n 1, 1) := q_o27 (by decide +kernel)
theorem dX6_stands_27 : decode cX6_stands 27 = .ok (.if_icmp .ne 7, 3) := q_o160 (a := 0) (b := 7) (by decide +kernel) rfl
theorem dX6_stands_30 : decode cX6_stands 30 = .ok (.iconst 1, 1) := q_o4 (by decide +kernel)
theorem dX6_stands_31 : decode cX6_stands 31 = .ok (.goto 4, 3) := q_o167 (a := 0) (b := 4) (by decide +kernel) rfl
theorem dX6_stands_34 : decode cX6_stands 34 = .ok (.iconst 0, 1) := q_o3 (by decide +kernel)
theorem dX6_stands_35 : decode cX6_stands 35 = .ok (.ireturn, 1) := q_o172 (by decide +kernel)
theorem dX6_standsDigit_0 : decode cX6_standsDigit 0 = .ok (.aload_n 0, 1) := q_o42 (by decide +kernel)
theorem dX6_standsDigit_1 : decode cX6_standsDigit 1 = .ok (.getfield 9, 3) := q_o180 (a := 0) (b := 9) (by decide +kernel)
theorem dX6_standsDigit_4 : decode cX6_standsDigit 4 = .ok (.aload_n 0, 1) := q_o42 (by decide +kernel)
theorem dX6_standsDigit_5 : decode cX6_standsDigit 5 = .ok (.getfield 18, 3) := q_o180 (a := 0) (b := 18) (by decide +kernel)
theorem dX6_standsDigit_8 : decode cX6_standsDigit 8 = .ok (.getfield 67, 3) := q_o180 (a := 0) (b := 67) (by decide +kernel)
theorem dX6_standsDigit_11 : decode cX6_standsDigit 11 = .ok (.if_icmp .ge 41, 3) := q_o162 (a := 0) (b := 41) (by decide +kernel) rfl
theorem dX6_standsDigit_14 : decode cX6_standsDigit 14 = .ok (.aload_n 0, 1) := q_o42 (by decide +kernel)
theorem dX6_standsDigit_15 : decode cX6_standsDigit 15 = .ok (.getfield 18, 3) := q_o180 (a := 0) (b := 18) (by decide +kernel)
theorem dX6_standsDigit_18 : decode cX6_standsDigit 18 = .ok (.getfield 81, 3) := q_o180 (a := 0) (b := 81) (by decide +kernel)
theorem dX6_standsDigit_21 : decode cX6_standsDigit 21 = .ok (.aload_n 0, 1) := q_o42 (by decide +kernel)
theorem dX6_standsDigit_22 : decode cX6_standsDigit 22 = .ok (.getfield 9, 3) := q_o180 (a := 0) (b := 9) (by decide +kernel)
theorem dX6_standsDigit_25 : decode cX6_standsDigit 25 = .ok (.caload, 1) := by decide +kernel
theorem dX6_standsDigit_26 : decode cX6_standsDigit 26 = .ok (.bipush 48, 2) := q_o16 (a := 48) (by decide +kernel) rfl
theorem dX6_standsDigit_28 : decode cX6_standsDigit 28 = .ok (.if_icmp .lt 24, 3) := q_o161 (a := 0) (b := 24) (by decide +kernel) rfl
theorem dX6_standsDigit_31 : decode cX6_standsDigit 31 = .ok (.aload_n 0, 1) := q_o42 (by decide +kernel)
theorem dX6_standsDigit_32 : decode cX6_standsDigit 32 = .ok (.getfield 18, 3) := q_o180 (a := 0) (b := 18) (by decide +kernel)
theorem dX6_standsDigit_35 : decode cX6_standsDigit 35 = .ok (.getfield 81, 3) := q_o180 (a := 0) (b := 81) (by decide +kernel)
theorem dX6_standsDigit_38 : decode cX6_standsDigit 38 = .ok (.aload_n 0, 1) := q_o42 (by decide +kernel)
theorem dX6_standsDigit_39 : decode cX6_standsDigit 39 = .ok (.getfield 9, 3) := q_o180 (a := 0) (b := 9) (by decide +kernel)
theorem dX6_standsDigit_42 : decode cX6_standsDigit 42 = .ok (.caload, 1) := by decide +kernel
theorem dX6_standsDigit_43 : decode cX6_standsDigit 43 = .ok (.bipush 57, 2) := q_o16 (a := 57) (by decide +kernel) rfl
theorem dX6_standsDigit_45 : decode cX6_standsDigit 45 = .ok (.if_icmp .gt 7, 3) := q_o163 (a := 0) (b := 7) (by decide +kernel) rfl
theorem dX6_standsDigit_48 : decode cX6_standsDigit 48 = .ok (.iconst 1, 1) := q_o4 (by decide +kernel)
theorem dX6_standsDigit_49 : decode cX6_standsDigit 49 = .ok (.goto 4, 3) := q_o167 (a := 0) (b := 4) (by decide +kernel) rfl
theorem dX6_standsDigit_52 : decode cX6_standsDigit 52 = .ok (.iconst 0, 1) := q_o3 (by decide +kernel)
theorem dX6_standsDigit_53 : decode cX6_standsDigit 53 = .ok (.ireturn, 1) := q_o172 (by decide +kernel)
theorem dX7_sortOf_0 : decode cX7_sortOf 0 = .ok (.aload_n 0, 1) := q_o42 (by decide +kernel)
theorem dX7_sortOf_1 : decode cX7_sortOf 1 = .ok (.iload_n 1, 1) := q_o27 (by decide +kernel)
theorem dX7_sortOf_2 : decode cX7_sortOf 2 = .ok (.iload_n 2, 1) := q_o28 (by decide +kernel)
theorem dX7_sortOf_3 : decode cX7_sortOf 3 = .ok (.iconst 0, 1) := q_o3 (by decide +kernel)
theorem dX7_sortOf_4 : decode cX7_sortOf 4 = .ok (.invokevirtual 34, 3) := q_o182 (a := 0) (b := 34) (by decide +kernel)
theorem dX7_sortOf_7 : decode cX7_sortOf 7 = .ok (.istore_n 3, 1) := q_o62 (by decide +kernel)
theorem dX7_sortOf_8 : decode cX7_sortOf 8 = .ok (.iload_n 3, 1) := q_o29 (by decide +kernel)
theorem dX7_sortOf_9 : decode cX7_sortOf 9 = .ok (.ifCond .lt 19, 3) := q_o155 (a := 0) (b := 19) (by decide +kernel) rfl
theorem dX7_sortOf_12 : decode cX7_sortOf 12 = .ok (.iload_n 3, 1) := q_o29 (by decide +kernel)
theorem dX7_sortOf_13 : decode cX7_sortOf 13 = .ok (.getstatic 38, 3) := by decide +kernel
theorem dX7_sortOf_16 : decode cX7_sortOf 16 = .ok (.arraylength, 1) := by decide +kernel
theorem dX7_sortOf_17 : decode cX7_sortOf 17 = .ok (.if_icmp .ge 11, 3) := q_o162 (a := 0) (b := 11) (by decide +kernel) rfl
theorem dX7_sortOf_20 : decode cX7_sortOf 20 = .ok (.getstatic 38, 3) := by decide +kernel
theorem dX7_sortOf_23 : decode cX7_sortOf 23 = .ok (.iload_n 3, 1) := q_o29 (by decide +kernel)
theorem dX7_sortOf_24 : decode cX7_sortOf 24 = .ok (.iaload, 1) := q_o46 (by decide +kernel)
theorem dX7_sortOf_25 : decode cX7_sortOf 25 = .ok (.goto 4, 3) := q_o167 (a := 0) (b := 4) (by decide +kernel) rfl
theorem dX7_sortOf_28 : decode cX7_sortOf 28 = .ok (.iconst (-1), 1) := q_o2 (by decide +kernel)
theorem dX7_sortOf_29 : decode cX7_sortOf 29 = .ok (.ireturn, 1) := q_o172 (by decide +kernel)
theorem hdS_yJ1_canEncode_9a6ad_1 : yJ1_canEncode_9a6ad.cls ≠ "java/lang/invoke/MethodHandle" ∧ yJ1_canEncode_9a6ad.cls ≠ "java/lang/invoke/VarHandle" ∧ (parseMethodDescriptor yJ1_canEncode_9a6ad.desc).map (fun d => d.parameters.length) = some 1 := by decide +kernel
theorem hdS_yJ1_indexOfChar_4cfef_4 : yJ1_indexOfChar_4cfef.cls ≠ "java/lang/invoke/MethodHandle" ∧ yJ1_indexOfChar_4cfef.cls ≠ "java/lang/invoke/VarHandle" ∧ (parseMethodDescriptor yJ1_indexOfChar_4cfef.desc).map (fun d => d.parameters.length) = some 4 := by decide +kernel
theorem hdS_yJ1_indexOf_4cfef_4 : yJ1_indexOf_4cfef.cls ≠ "java/lang/invoke/MethodHandle" ∧ yJ1_indexOf_4cfef.cls ≠ "java/lang/invoke/VarHandle" ∧ (parseMethodDescriptor yJ1_indexOf_4cfef.desc).map (fun d => d.parameters.length) = some 4 := by decide +kernel
theorem hdV_yJ0_coder_7d493_0 : yJ0_coder_7d493.cls = RJ0 ∧ yJ0_coder_7d493.cls ≠ "java/lang/invoke/MethodHandle" ∧ yJ0_coder_7d493.cls ≠ "java/lang/invoke/VarHandle" ∧ (parseMethodDescriptor yJ0_coder_7d493.desc).map (fun d => d.parameters.length) = some 0 := by decide +kernel
theorem hdV_yJ0_indexOf_0f7a4_1 : yJ0_indexOf_0f7a4.cls = RJ0 ∧ yJ0_indexOf_0f7a4.cls ≠ "java/lang/invoke/MethodHandle" ∧ yJ0_indexOf_0f7a4.cls ≠ "java/lang/invoke/VarHandle" ∧ (parseMethodDescriptor yJ0_indexOf_0f7a4.desc).map (fun d => d.parameters.length) = some 1 := by decide +kernel
theorem hdV_yJ0_indexOf_7cf53_2 : yJ0_indexOf_7cf53.cls = RJ0 ∧ yJ0_indexOf_7cf53.cls ≠ "java/lang/invoke/MethodHandle" ∧ yJ0_indexOf_7cf53.cls ≠ "java/lang/invoke/VarHandle" ∧ (parseMethodDescriptor yJ0_indexOf_7cf53.desc).map (fun d => d.parameters.length) = some 2 := by decide +kernel
theorem hdV_yJ0_isLatin1_aae02_0 : yJ0_isLatin1_aae02.cls = RJ0 ∧ yJ0_isLatin1_aae02.cls ≠ "java/lang/invoke/MethodHandle" ∧ yJ0_isLatin1_aae02.cls ≠ "java/lang/invoke/VarHandle" ∧ (parseMethodDescriptor yJ0_isLatin1_aae02.desc).map (fun d => d.parameters.length) = some 0 := by decide +kernel
theorem hdV_yJ0_length_8abf5_0 : yJ0_length_8abf5.cls = RJ0 ∧ yJ0_length_8abf5.cls ≠ "java/lang/invoke/MethodHandle" ∧ yJ0_length_8abf5.cls ≠ "java/lang/invoke/VarHandle" ∧ (parseMethodDescriptor yJ0_length_8abf5.desc).map (fun d => d.parameters.length) = some 0 := by decide +kernel
theorem hdV_yX5_addDevice_0 : yX5_addDevice.cls = RX5 ∧ yX5_addDevice.cls ≠ "java/lang/invoke/MethodHandle" ∧ yX5_addDevice.cls ≠ "java/lang/invoke/VarHandle" ∧ (parseMethodDescriptor yX5_addDevice.desc).map (fun d => d.parameters.length) = some 0 := by decide +kernel
theorem hdV_yX5_clear_0 : yX5_clear.cls = RX5 ∧ yX5_clear.cls ≠ "java/lang/invoke/MethodHandle" ∧ yX5_clear.cls ≠ "java/lang/invoke/VarHandle" ∧ (parseMethodDescriptor yX5_clear.desc).map (fun d => d.parameters.length) = some 0 := by decide +kernel
theorem hdV_yX6_readDigit_0 : yX6_readDigit.cls = RX6 ∧ yX6_readDigit.cls ≠ "java/lang/invoke/MethodHandle" ∧ yX6_readDigit.cls ≠ "java/lang/invoke/VarHandle" ∧ (parseMethodDescriptor yX6_readDigit.desc).map (fun d => d.parameters.length) = some 0 := by decide +kernel
theorem hdV_yX6_readItems_6 : yX6_readItems.cls = RX6 ∧ yX6_readItems.cls ≠ "java/lang/invoke/MethodHandle" ∧ yX6_readItems.cls ≠ "java/lang/invoke/VarHandle" ∧ (parseMethodDescriptor yX6_readItems.desc).map (fun d => d.parameters.length) = some 6 := by decide +kernel
theorem hdV_yX6_readNumber_1 : yX6_readNumber.cls = RX6 ∧ yX6_readNumber.cls ≠ "java/lang/invoke/MethodHandle" ∧ yX6_readNumber.cls ≠ "java/lang/invoke/VarHandle" ∧ (parseMethodDescriptor yX6_readNumber.desc).map (fun d => d.parameters.length) = some 1 := by decide +kernel
theorem hdV_yX6_readStep_3 : yX6_readStep.cls = RX6 ∧ yX6_readStep.cls ≠ "java/lang/invoke/MethodHandle" ∧ yX6_readStep.cls ≠ "java/lang/invoke/VarHandle" ∧ (parseMethodDescriptor yX6_readStep.desc).map (fun d => d.parameters.length) = some 3 := by decide +kernel
theorem hdV_yX6_skipBlanks_0 : yX6_skipBlanks.cls = RX6 ∧ yX6_skipBlanks.cls ≠ "java/lang/invoke/MethodHandle" ∧ yX6_skipBlanks.cls ≠ "java/lang/invoke/VarHandle" ∧ (parseMethodDescriptor yX6_skipBlanks.desc).map (fun d => d.parameters.length) = some 0 := by decide +kernel
theorem hdV_yX6_standsDigit_0 : yX6_standsDigit.cls = RX6 ∧ yX6_standsDigit.cls ≠ "java/lang/invoke/MethodHandle" ∧ yX6_standsDigit.cls ≠ "java/lang/invoke/VarHandle" ∧ (parseMethodDescriptor yX6_standsDigit.desc).map (fun d => d.parameters.length) = some 0 := by decide +kernel
theorem hdV_yX6_stands_1 : yX6_stands.cls = RX6 ∧ yX6_stands.cls ≠ "java/lang/invoke/MethodHandle" ∧ yX6_stands.cls ≠ "java/lang/invoke/VarHandle" ∧ (parseMethodDescriptor yX6_stands.desc).map (fun d => d.parameters.length) = some 1 := by decide +kernel
theorem hdV_yX7_read_3 : yX7_read.cls = RX7 ∧ yX7_read.cls ≠ "java/lang/invoke/MethodHandle" ∧ yX7_read.cls ≠ "java/lang/invoke/VarHandle" ∧ (parseMethodDescriptor yX7_read.desc).map (fun d => d.parameters.length) = some 3 := by decide +kernel
def F_J1_canEncode_9a6ad (z : Int32) : Option (Int32) := (if z < 0 then some (0) else (if 255 < z then some (0) else some (1)))
set_option maxHeartbeats 4000000 in
set_option maxRecDepth 100000 in
theorem c_J1_canEncode_9a6ad (l : Launch) (dC : Nat → ClassId) (dI : Nat → Nat → Nat) (z : Int32) (o : Int32) (hG : F_J1_canEncode_9a6ad z = some o) : Met l yJ1_canEncode_9a6ad (.code yJ1_canEncode_9a6ad cJ1_canEncode_9a6ad 1 (some .boolean) :: wA) ({ frames := 0, cells := 0, slots := 0, locals := 0 }) (va_Pc [.int z] (q_R (dC, dI) [] [])) (q_i o) 0 0 (fun _ => False) := by
  refine Met.ofW (cc := cJ1_canEncode_9a6ad) (maxL := 1) (ret := (some .boolean)) (by decide) rfl ?_
  intro p e s m args below meth c s₁ B hml hv
  obtain ⟨rfl, hP, hK⟩ := hv
  have hx := B.exec
  have hb := B.bytes
  have hr := B.returns
  have hts := atoms_spec (ws := .code yJ1_canEncode_9a6ad cJ1_canEncode_9a6ad 1 (some .boolean) :: wA) B.pre
  have hown : s.vm.findClass RJ1 = some m.cls := findClass_of_methodNamed B.named
  have hlocks := B.notSynchronized
  have hS : va_S (fun _ => False) s.heap s.heap [] := va_S.rf
  have hl := lv_entry ([.int z]) (n := 1) (Nat.le_of_ble_eq_true rfl)
  rw [lg_entry_eq]
  generalize (lg_sl ([.int z]) ++ List.replicate (1 - (lg_sl ([.int z])).length) Slot.unset).toArray = ls at hl ⊢
  have hl : lv_has ls 1 [(0, .int z)] := hl
  unfold F_J1_canEncode_9a6ad at hG
  refine lv_iload_n hx hb dJ1_canEncode_9a6ad_0 rfl (lv_at hl 0 rfl) ?_
  refine lv_if_lt (tgt := 15) hx hb dJ1_canEncode_9a6ad_1 (by decide) (fun c_1 => ?_) (fun c_1 => ?_)
  · have hG := q_ifp c_1 hG
    refine lv_iconst (v := 0) hx hb dJ1_canEncode_9a6ad_15 (by decide) ?_
    obtain rfl := Option.some.inj hG
    exact W.zret (v := 0) hx hb hr rfl (fun t ht hW => ⟨⟨0, (), rfl, rfl, trivial⟩, hS.F ht⟩) hS.2.2 dJ1_canEncode_9a6ad_16
  · have hG := q_ifn c_1 hG
    refine lv_iload_n hx hb dJ1_canEncode_9a6ad_4 rfl (lv_at hl 0 rfl) ?_
    refine lv_sipush (v := 255) hx hb dJ1_canEncode_9a6ad_5 (by decide) ?_
    refine lv_icmp_gt (tgt := 15) hx hb dJ1_canEncode_9a6ad_8 (by decide) (fun c_2 => ?_) (fun c_2 => ?_)
    · have hG := q_ifp c_2 hG
      refine lv_iconst (v := 0) hx hb dJ1_canEncode_9a6ad_15 (by decide) ?_
      obtain rfl := Option.some.inj hG
      exact W.zret (v := 0) hx hb hr rfl (fun t ht hW => ⟨⟨0, (), rfl, rfl, trivial⟩, hS.F ht⟩) hS.2.2 dJ1_canEncode_9a6ad_16
    · have hG := q_ifn c_2 hG
      refine lv_iconst (v := 1) hx hb dJ1_canEncode_9a6ad_11 (by decide) ?_
      refine lv_goto (tgt := 16) hx hb dJ1_canEncode_9a6ad_12 (by decide) ?_
      obtain rfl := Option.some.inj hG
      exact W.zret (v := 1) hx hb hr rfl (fun t ht hW => ⟨⟨1, (), rfl, rfl, trivial⟩, hS.F ht⟩) hS.2.2 dJ1_canEncode_9a6ad_16

def F_J0_coder_0 : Option (Int32) := some (0)
set_option maxHeartbeats 4000000 in
set_option maxRecDepth 100000 in
theorem c_J0_coder_0 (l : Launch) (dC : Nat → ClassId) (dI : Nat → Nat → Nat) (ts : Nat → Nat) (ks : Nat → Nat) (kv : Nat → Nat) (o : Int32) (hG : F_J0_coder_0 = some o) : Met l yJ0_coder_7d493 (.code yJ0_coder_7d493 cJ0_coder_7d493 1 (some .byte) :: wA) ({ frames := 0, cells := 0, slots := 0, locals := 0 }) (va_Pc [.ref (ks 0)] (q_RE (dC, dI) [] [] (q_S ts ks kv (fun _ => False)))) (q_i o) 0 0 (fun _ => False) := by
  refine Met.ofW (cc := cJ0_coder_7d493) (maxL := 1) (ret := (some .byte)) (by decide) rfl ?_
  intro p e s m args below meth c s₁ B hml hv
  obtain ⟨rfl, hP, hK, hE⟩ := hv
  have hx := B.exec
  have hb := B.bytes
  have hr := B.returns
  have hts := atoms_spec (ws := .code yJ0_coder_7d493 cJ0_coder_7d493 1 (some .byte) :: wA) B.pre
  have hown : s.vm.findClass RJ0 = some m.cls := findClass_of_methodNamed B.named
  have hlocks := B.notSynchronized
  have hS : va_S (fun _ => False) s.heap s.heap [] := va_S.rf
  have hl := lv_entry ([.ref (ks 0)]) (n := 1) (Nat.le_of_ble_eq_true rfl)
  rw [lg_entry_eq]
  generalize (lg_sl ([.ref (ks 0)]) ++ List.replicate (1 - (lg_sl ([.ref (ks 0)])).length) Slot.unset).toArray = ls at hl ⊢
  have hl : lv_has ls 1 [(0, .ref (ks 0))] := hl
  unfold F_J0_coder_0 at hG
  refine va_gets hx hb (q_S_c hE) hS hown (hts (.fieldLink RJ0 38 "java/lang/String" "COMPACT_STRINGS" "Z") (List.mem_cons_of_mem _ m_203)) (fun _ h9 => h9) dJ0_coder_7d493_0 ?_
  refine lv_if_eq (tgt := 13) hx hb dJ0_coder_7d493_3 (by decide) (fun c_1 => ?_) (fun c_1 => ?_)
  · exact absurd c_1 (by decide)
  refine lv_aload_n hx hb dJ0_coder_7d493_6 rfl (lv_at hl 0 rfl) ?_
  refine vk_getf hx hb ((q_S_s hE).1 0 (by decide)).2.1 hS hown (hts (.fieldLink RJ0 15 "java/lang/String" "coder" "B") (List.mem_cons_of_mem _ m_204)) (fun _ h9 => h9) dJ0_coder_7d493_7 ?_
  refine lv_goto (tgt := 14) hx hb dJ0_coder_7d493_10 (by decide) ?_
  obtain rfl := Option.some.inj hG
  exact W.zret (v := 0) hx hb hr rfl (fun t ht hW => ⟨⟨0, (), rfl, rfl, trivial⟩, hS.F ht⟩) hS.2.2 dJ0_coder_7d493_14

def F_J0_isLatin1_0 : Option (Int32) := some (1)
set_option maxHeartbeats 4000000 in
set_option maxRecDepth 100000 in
theorem c_J0_isLatin1_0 (l : Launch) (dC : Nat → ClassId) (dI : Nat → Nat → Nat) (ts : Nat → Nat) (ks : Nat → Nat) (kv : Nat → Nat) (o : Int32) (hG : F_J0_isLatin1_0 = some o) : Met l yJ0_isLatin1_aae02 (.code yJ0_isLatin1_aae02 cJ0_isLatin1_aae02 1 (some .boolean) :: wA) ({ frames := 0, cells := 0, slots := 0, locals := 0 }) (va_Pc [.ref (ks 0)] (q_RE (dC, dI) [] [] (q_S ts ks kv (fun _ => False)))) (q_i o) 0 0 (fun _ => False) := by
  refine Met.ofW (cc := cJ0_isLatin1_aae02) (maxL := 1) (ret := (some .boolean)) (by decide) rfl ?_
  intro p e s m args below meth c s₁ B hml hv
  obtain ⟨rfl, hP, hK, hE⟩ := hv
  have hx := B.exec
  have hb := B.bytes
  have hr := B.returns
  have hts := atoms_spec (ws := .code yJ0_isLatin1_aae02 cJ0_isLatin1_aae02 1 (some .boolean) :: wA) B.pre
  have hown : s.vm.findClass RJ0 = some m.cls := findClass_of_methodNamed B.named
  have hlocks := B.notSynchronized
  have hS : va_S (fun _ => False) s.heap s.heap [] := va_S.rf
  have hl := lv_entry ([.ref (ks 0)]) (n := 1) (Nat.le_of_ble_eq_true rfl)
  rw [lg_entry_eq]
  generalize (lg_sl ([.ref (ks 0)]) ++ List.replicate (1 - (lg_sl ([.ref (ks 0)])).length) Slot.unset).toArray = ls at hl ⊢
  have hl : lv_has ls 1 [(0, .ref (ks 0))] := hl
  unfold F_J0_isLatin1_0 at hG
  refine va_gets hx hb (q_S_c hE) hS hown (hts (.fieldLink RJ0 38 "java/lang/String" "COMPACT_STRINGS" "Z") (List.mem_cons_of_mem _ m_203)) (fun _ h9 => h9) dJ0_isLatin1_aae02_0 ?_
  refine lv_if_eq (tgt := 17) hx hb dJ0_isLatin1_aae02_3 (by decide) (fun c_1 => ?_) (fun c_1 => ?_)
  · exact absurd c_1 (by decide)
  refine lv_aload_n hx hb dJ0_isLatin1_aae02_6 rfl (lv_at hl 0 rfl) ?_
  refine vk_getf hx hb ((q_S_s hE).1 0 (by decide)).2.1 hS hown (hts (.fieldLink RJ0 15 "java/lang/String" "coder" "B") (List.mem_cons_of_mem _ m_204)) (fun _ h9 => h9) dJ0_isLatin1_aae02_7 ?_
  refine lv_if_ne (tgt := 17) hx hb dJ0_isLatin1_aae02_10 (by decide) (fun c_2 => ?_) (fun c_2 => ?_)
  · exact absurd (by decide) c_2
  refine lv_iconst (v := 1) hx hb dJ0_isLatin1_aae02_13 (by decide) ?_
  refine lv_goto (tgt := 18) hx hb dJ0_isLatin1_aae02_14 (by decide) ?_
  obtain rfl := Option.some.inj hG
  exact W.zret (v := 1) hx hb hr rfl (fun t ht hW => ⟨⟨1, (), rfl, rfl, trivial⟩, hS.F ht⟩) hS.2.2 dJ0_isLatin1_aae02_18

def F_J0_length_0 : Option (Int32) := ((F_J0_coder_0).bind fun o_1 => some ((8 >>> (o_1 &&& 31))))
set_option maxHeartbeats 4000000 in
set_option maxRecDepth 100000 in
theorem c_J0_length_0 (l : Launch) (dC : Nat → ClassId) (dI : Nat → Nat → Nat) (ts : Nat → Nat) (ks : Nat → Nat) (kv : Nat → Nat) (o : Int32) (hG : F_J0_length_0 = some o) : Met l yJ0_length_8abf5 (.code yJ0_length_8abf5 cJ0_length_8abf5 1 (some .int) :: wA) ({ frames := 1, cells := 0, slots := 0, locals := 20 }) (va_Pc [.ref (ks 0)] (q_RE (dC, dI) [] [] (q_S ts ks kv (fun _ => False)))) (q_i o) 0 0 (fun _ => False) := by
  refine Met.ofW (cc := cJ0_length_8abf5) (maxL := 1) (ret := (some .int)) (by decide) rfl ?_
  intro p e s m args below meth c s₁ B hml hv
  obtain ⟨rfl, hP, hK, hE⟩ := hv
  have hx := B.exec
  have hb := B.bytes
  have hr := B.returns
  have hts := atoms_spec (ws := .code yJ0_length_8abf5 cJ0_length_8abf5 1 (some .int) :: wA) B.pre
  have hown : s.vm.findClass RJ0 = some m.cls := findClass_of_methodNamed B.named
  have hlocks := B.notSynchronized
  have hS : va_S (fun _ => False) s.heap s.heap [] := va_S.rf
  have hl := lv_entry ([.ref (ks 0)]) (n := 1) (Nat.le_of_ble_eq_true rfl)
  rw [lg_entry_eq]
  generalize (lg_sl ([.ref (ks 0)]) ++ List.replicate (1 - (lg_sl ([.ref (ks 0)])).length) Slot.unset).toArray = ls at hl ⊢
  have hl : lv_has ls 1 [(0, .ref (ks 0))] := hl
  unfold F_J0_length_0 at hG
  refine lv_aload_n hx hb dJ0_length_8abf5_0 rfl (lv_at hl 0 rfl) ?_
  refine vk_getf hx hb ((q_S_s hE).1 0 (by decide)).2.2.1 hS hown (hts (.fieldLink RJ0 9 "java/lang/String" "value" "[B") (List.mem_cons_of_mem _ m_198)) (fun _ h9 => h9) dJ0_length_8abf5_1 ?_
  refine va_tlen hx hb ((q_S_s hE).1 0 (by decide)).2.2.2 hS (v := 8) rfl dJ0_length_8abf5_4 ?_
  refine lv_aload_n hx hb dJ0_length_8abf5_5 rfl (lv_at hl 0 rfl) ?_
  obtain ⟨o_1, r_2, hG⟩ := q_bi hG
  refine q_goi (v := o_1) (va_runV (As := []) (rest := [.int 8]) ⟨hx, hb, hml, hown, hts⟩ (c_J0_coder_0 l dC dI ts ks kv o_1 r_2) (cwV 0 hts (q_gV m_199 m_200 m_201 m_196 m_202) rfl rfl rfl hdV_yJ0_coder_7d493_0 ⟨Nat.le_of_ble_eq_true rfl, Nat.le_of_ble_eq_true rfl⟩) (q_preVEs hK hP (vk_recv (i := 0) (q_S_s hE) (by decide) hS) [] rfl [] rfl q_S_bl (q_S_give hE hS (fun _ h => h.elim))) rfl rfl hl.1 rfl (lv_room (Nat.le_of_ble_eq_true rfl)) dJ0_length_8abf5_6 ⟨Nat.le_of_ble_eq_true rfl, Nat.le_of_ble_eq_true rfl⟩) hP hS (fun H locs hP hS => ?_)
  refine lv_ishr hx hb dJ0_length_8abf5_9 ?_
  obtain rfl := Option.some.inj hG
  exact W.iret (v := (8 >>> (o_1 &&& 31))) hx hb hr (fun t ht hW => ⟨⟨(8 >>> (o_1 &&& 31)), (), rfl, rfl, trivial⟩, hS.F ht⟩) hS.2.2 dJ0_length_8abf5_10

def FL_J1_indexOfChar_0_7 (z1 : Int32) (z2 : Int32) (z3 : Int32) : Nat → Int32 → Int32 → Option (Int32)
  | 0, _, _ => none
  | n + 1, x4_7, x5_7 => (if z3 ≤ x5_7 then some ((-1)) else (if x5_7 < 0 ∨ 8 ≤ (x5_7).toNatClampNeg then none else (if ((q_sb.getD 0 []).getD (x5_7).toNatClampNeg 0) = x4_7 then some (x5_7) else (FL_J1_indexOfChar_0_7 z1 z2 z3 n x4_7 (x5_7 + 1)))))

def F_J1_indexOfChar_0 (z1 : Int32) (z2 : Int32) (z3 : Int32) : Option (Int32) := (FL_J1_indexOfChar_0_7 z1 z2 z3 1000 ((z1 : Int32).toInt8.toInt32) z2)
set_option maxHeartbeats 4000000 in
set_option maxRecDepth 100000 in
theorem c_J1_indexOfChar_0 (l : Launch) (dC : Nat → ClassId) (dI : Nat → Nat → Nat) (ts : Nat → Nat) (ks : Nat → Nat) (kv : Nat → Nat) (z1 : Int32) (z2 : Int32) (z3 : Int32) (o : Int32) (hG : F_J1_indexOfChar_0 z1 z2 z3 = some o) : Met l yJ1_indexOfChar_4cfef (.code yJ1_indexOfChar_4cfef cJ1_indexOfChar_4cfef 6 (some .int) :: wA) ({ frames := 0, cells := 0, slots := 0, locals := 0 }) (va_Pc [.ref (kv 0), .int z1, .int z2, .int z3] (q_RE (dC, dI) [] [] (q_S ts ks kv (fun _ => False)))) (q_i o) 0 0 (fun _ => False) := by
  refine Met.ofW (cc := cJ1_indexOfChar_4cfef) (maxL := 6) (ret := (some .int)) (by decide) rfl ?_
  intro p e s m args below meth c s₁ B hml hv
  obtain ⟨rfl, hP, hK, hE⟩ := hv
  have hx := B.exec
  have hb := B.bytes
  have hr := B.returns
  have hts := atoms_spec (ws := .code yJ1_indexOfChar_4cfef cJ1_indexOfChar_4cfef 6 (some .int) :: wA) B.pre
  have hown : s.vm.findClass RJ1 = some m.cls := findClass_of_methodNamed B.named
  have hlocks := B.notSynchronized
  have hS : va_S (fun _ => False) s.heap s.heap [] := va_S.rf
  have hl := lv_entry ([.ref (kv 0), .int z1, .int z2, .int z3]) (n := 6) (Nat.le_of_ble_eq_true rfl)
  rw [lg_entry_eq]
  generalize (lg_sl ([.ref (kv 0), .int z1, .int z2, .int z3]) ++ List.replicate (6 - (lg_sl ([.ref (kv 0), .int z1, .int z2, .int z3])).length) Slot.unset).toArray = ls at hl ⊢
  have hl : lv_has ls 6 [(0, .ref (kv 0)), (1, .int z1), (2, .int z2), (3, .int z3)] := hl
  unfold F_J1_indexOfChar_0 at hG
  refine lv_iload_n hx hb dJ1_indexOfChar_4cfef_0 rfl (lv_at hl 1 rfl) ?_
  refine lv_i2b hx hb dJ1_indexOfChar_4cfef_1 rfl ?_
  refine lv_istore (lv' := [(4, .int ((z1 : Int32).toInt8.toInt32)), (0, .ref (kv 0)), (1, .int z1), (2, .int z2), (3, .int z3)]) hx hb dJ1_indexOfChar_4cfef_2 hl (by decide) rfl (fun ls hl => ?_)
  refine lv_iload_n hx hb dJ1_indexOfChar_4cfef_4 rfl (lv_at hl 3 rfl) ?_
  refine lv_istore (lv' := [(5, .int z2), (4, .int ((z1 : Int32).toInt8.toInt32)), (0, .ref (kv 0)), (1, .int z1), (2, .int z2), (3, .int z3)]) hx hb dJ1_indexOfChar_4cfef_5 hl (by decide) rfl (fun ls hl => ?_)
  have L_7 : ∀ (n_7 : Nat) (x4_7 : Int32) (x5_7 : Int32) (H : Heap) (locs : List Loc) (ls : Array Slot), FL_J1_indexOfChar_0_7 z1 z2 z3 n_7 x4_7 x5_7 = some o → va_P (dC, dI) vwCl [] H → va_S (fun _ => False) s.heap H locs → lv_has ls 6 [(5, .int x5_7), (4, .int x4_7), (0, .ref (kv 0)), (1, .int z1), (2, .int z2), (3, .int z3)] → W p l e (headSpec (.code yJ1_indexOfChar_4cfef cJ1_indexOfChar_4cfef 6 (some .int) :: wA) ({ frames := 0, cells := 0, slots := 0, locals := 0 })).room s m #[.ref (kv 0), .int z1, .int z2, .int z3] below meth c H locs 0 0 (MQ below (q_i o) #[.ref (kv 0), .int z1, .int z2, .int z3] s 0 0 (fun _ => False)) (F0 m 7 ls []) := by
    intro n_7
    induction n_7 with
    | zero =>
      intro x4_7 x5_7 H locs ls hG
      exact q_no hG
    | succ n_7 ih_7 =>
      intro x4_7 x5_7 H locs ls hG hP hS hl
      unfold FL_J1_indexOfChar_0_7 at hG
      refine lv_iload hx hb dJ1_indexOfChar_4cfef_7 (lv_at hl 0 rfl) ?_
      refine lv_iload_n hx hb dJ1_indexOfChar_4cfef_9 rfl (lv_at hl 5 rfl) ?_
      refine lv_icmp_ge (tgt := 31) hx hb dJ1_indexOfChar_4cfef_10 (by decide) (fun c_1 => ?_) (fun c_1 => ?_)
      · have hG := q_ifp c_1 hG
        refine lv_iconst (v := (-1)) hx hb dJ1_indexOfChar_4cfef_31 (by decide) ?_
        obtain rfl := Option.some.inj hG
        exact W.iret (v := (-1)) hx hb hr (fun t ht hW => ⟨⟨(-1), (), rfl, rfl, trivial⟩, hS.F ht⟩) hS.2.2 dJ1_indexOfChar_4cfef_32
      · have hG := q_ifn c_1 hG
        refine lv_aload_n hx hb dJ1_indexOfChar_4cfef_13 rfl (lv_at hl 2 rfl) ?_
        refine lv_iload hx hb dJ1_indexOfChar_4cfef_14 (lv_at hl 0 rfl) ?_
        obtain ⟨h_2, hG⟩ := q_ix hG
        refine va_tb hx hb ((q_S_s hE).1 0 (by decide)).2.2.2 hS (i := x5_7) h_2 (v := .int ((q_sb.getD 0 []).getD (x5_7).toNatClampNeg 0)) rfl dJ1_indexOfChar_4cfef_16 ?_
        refine lv_iload hx hb dJ1_indexOfChar_4cfef_17 (lv_at hl 1 rfl) ?_
        refine lv_icmp_ne (tgt := 25) hx hb dJ1_indexOfChar_4cfef_19 (by decide) (fun c_3 => ?_) (fun c_3 => ?_)
        · have hG := q_ifn c_3 hG
          refine lv_iinc (v := (x5_7 + 1)) (lv' := [(5, .int (x5_7 + 1)), (4, .int x4_7), (0, .ref (kv 0)), (1, .int z1), (2, .int z2), (3, .int z3)]) hx hb dJ1_indexOfChar_4cfef_25 hl (k := 0) rfl (rfl) (by decide) rfl (fun ls hl => ?_)
          refine lv_goto (tgt := 7) hx hb dJ1_indexOfChar_4cfef_28 (by decide) ?_
          exact ih_7 x4_7 (x5_7 + 1) H locs ls hG hP hS (lv_sub hl [0, 1, 2, 3, 4, 5] rfl)
        · have hG := q_ifp c_3 hG
          refine lv_iload hx hb dJ1_indexOfChar_4cfef_22 (lv_at hl 0 rfl) ?_
          obtain rfl := Option.some.inj hG
          exact W.iret (v := x5_7) hx hb hr (fun t ht hW => ⟨⟨x5_7, (), rfl, rfl, trivial⟩, hS.F ht⟩) hS.2.2 dJ1_indexOfChar_4cfef_24
  exact L_7 1000 ((z1 : Int32).toInt8.toInt32) z2 s.heap [] ls hG hP hS hl

def F_J1_indexOf_0 (z1 : Int32) (z2 : Int32) (z3 : Int32) : Option (Int32) := ((F_J1_canEncode_9a6ad z1).bind fun o_1 => (if o_1 = 0 then some ((-1)) else (if (if z2 < 0 then 0 else z2) < (if 8 < z3 then 8 else z3) then ((F_J1_indexOfChar_0 z1 (if z2 < 0 then 0 else z2) (if 8 < z3 then 8 else z3)).bind fun o_5 => some (o_5)) else some ((-1)))))
set_option maxHeartbeats 4000000 in
set_option maxRecDepth 100000 in
theorem c_J1_indexOf_0 (l : Launch) (dC : Nat → ClassId) (dI : Nat → Nat → Nat) (ts : Nat → Nat) (ks : Nat → Nat) (kv : Nat → Nat) (z1 : Int32) (z2 : Int32) (z3 : Int32) (o : Int32) (hG : F_J1_indexOf_0 z1 z2 z3 = some o) : Met l yJ1_indexOf_4cfef (.code yJ1_indexOf_4cfef cJ1_indexOf_4cfef 4 (some .int) :: wA) ({ frames := 1, cells := 0, slots := 0, locals := 25 }) (va_Pc [.ref (kv 0), .int z1, .int z2, .int z3] (q_RE (dC, dI) [] [] (q_S ts ks kv (fun _ => False)))) (q_i o) 0 0 (fun _ => False) := by
  refine Met.ofW (cc := cJ1_indexOf_4cfef) (maxL := 4) (ret := (some .int)) (by decide) rfl ?_
  intro p e s m args below meth c s₁ B hml hv
  obtain ⟨rfl, hP, hK, hE⟩ := hv
  have hx := B.exec
  have hb := B.bytes
  have hr := B.returns
  have hts := atoms_spec (ws := .code yJ1_indexOf_4cfef cJ1_indexOf_4cfef 4 (some .int) :: wA) B.pre
  have hown : s.vm.findClass RJ1 = some m.cls := findClass_of_methodNamed B.named
  have hlocks := B.notSynchronized
  have hS : va_S (fun _ => False) s.heap s.heap [] := va_S.rf
  have hl := lv_entry ([.ref (kv 0), .int z1, .int z2, .int z3]) (n := 4) (Nat.le_of_ble_eq_true rfl)
  rw [lg_entry_eq]
  generalize (lg_sl ([.ref (kv 0), .int z1, .int z2, .int z3]) ++ List.replicate (4 - (lg_sl ([.ref (kv 0), .int z1, .int z2, .int z3])).length) Slot.unset).toArray = ls at hl ⊢
  have hl : lv_has ls 4 [(0, .ref (kv 0)), (1, .int z1), (2, .int z2), (3, .int z3)] := hl
  unfold F_J1_indexOf_0 at hG
  refine lv_iload_n hx hb dJ1_indexOf_4cfef_0 rfl (lv_at hl 1 rfl) ?_
  obtain ⟨o_1, r_2, hG⟩ := q_bi hG
  refine q_goi (v := o_1) (va_runS (As := [.int z1]) (rest := []) ⟨hx, hb, hml, hown, hts⟩ (c_J1_canEncode_9a6ad l dC dI z1 o_1 r_2) (va_cwS 1 hts (q_gS m_229 m_230 m_220 m_231) rfl rfl rfl hdS_yJ1_canEncode_9a6ad_1 ⟨Nat.le_of_ble_eq_true rfl, Nat.le_of_ble_eq_true rfl⟩) (q_preS hK hP [] rfl [] rfl) rfl rfl hl.1 rfl (lv_room (Nat.le_of_ble_eq_true rfl)) dJ1_indexOf_4cfef_1 ⟨Nat.le_of_ble_eq_true rfl, Nat.le_of_ble_eq_true rfl⟩) hP hS (fun H locs hP hS => ?_)
  refine lv_if_ne (tgt := 9) hx hb dJ1_indexOf_4cfef_4 (by decide) (fun c_3 => ?_) (fun c_3 => ?_)
  · have hG := q_ifn c_3 hG
    refine lv_iload_n hx hb dJ1_indexOf_4cfef_9 rfl (lv_at hl 2 rfl) ?_
    refine lv_iconst (v := 0) hx hb dJ1_indexOf_4cfef_10 (by decide) ?_
    refine va_mmax hx hb (by rw [hml, hl.1]) hown (hts (.methodLink RJ1 92 Lib.Math.max.name) (List.mem_cons_of_mem _ m_222)) (hts (.static Lib.Math.max.name) (List.mem_cons_of_mem _ m_223)) (hts (.initialized "java/lang/Math") (List.mem_cons_of_mem _ m_224)) (hts (.code Lib.Math.max.name Lib.Math.max.code 2 (some .int)) (List.mem_cons_of_mem _ m_225)) (Nat.le_of_ble_eq_true rfl) (Nat.le_of_ble_eq_true rfl) (Nat.zero_le _) (Nat.zero_le _) dJ1_indexOf_4cfef_11 ?_
    refine lv_istore_n (lv' := [(2, .int (if z2 < 0 then 0 else z2)), (0, .ref (kv 0)), (1, .int z1), (3, .int z3)]) hx hb dJ1_indexOf_4cfef_14 rfl hl (by decide) rfl (fun ls hl => ?_)
    refine lv_iload_n hx hb dJ1_indexOf_4cfef_15 rfl (lv_at hl 3 rfl) ?_
    refine lv_aload_n hx hb dJ1_indexOf_4cfef_16 rfl (lv_at hl 1 rfl) ?_
    refine va_tlen hx hb ((q_S_s hE).1 0 (by decide)).2.2.2 hS (v := 8) rfl dJ1_indexOf_4cfef_17 ?_
    refine va_mmin hx hb (by rw [hml, hl.1]) hown (hts (.methodLink RJ1 38 Lib.Math.min.name) (List.mem_cons_of_mem _ m_226)) (hts (.static Lib.Math.min.name) (List.mem_cons_of_mem _ m_227)) (hts (.initialized "java/lang/Math") (List.mem_cons_of_mem _ m_224)) (hts (.code Lib.Math.min.name Lib.Math.min.code 2 (some .int)) (List.mem_cons_of_mem _ m_228)) (Nat.le_of_ble_eq_true rfl) (Nat.le_of_ble_eq_true rfl) (Nat.zero_le _) (Nat.zero_le _) dJ1_indexOf_4cfef_18 ?_
    refine lv_istore_n (lv' := [(3, .int (if 8 < z3 then 8 else z3)), (2, .int (if z2 < 0 then 0 else z2)), (0, .ref (kv 0)), (1, .int z1)]) hx hb dJ1_indexOf_4cfef_21 rfl hl (by decide) rfl (fun ls hl => ?_)
    refine lv_iload_n hx hb dJ1_indexOf_4cfef_22 rfl (lv_at hl 1 rfl) ?_
    refine lv_iload_n hx hb dJ1_indexOf_4cfef_23 rfl (lv_at hl 0 rfl) ?_
    refine lv_icmp_lt (tgt := 29) hx hb dJ1_indexOf_4cfef_24 (by decide) (fun c_4 => ?_) (fun c_4 => ?_)
    · have hG := q_ifp c_4 hG
      refine lv_aload_n hx hb dJ1_indexOf_4cfef_29 rfl (lv_at hl 2 rfl) ?_
      refine lv_iload_n hx hb dJ1_indexOf_4cfef_30 rfl (lv_at hl 3 rfl) ?_
      refine lv_iload_n hx hb dJ1_indexOf_4cfef_31 rfl (lv_at hl 1 rfl) ?_
      refine lv_iload_n hx hb dJ1_indexOf_4cfef_32 rfl (lv_at hl 0 rfl) ?_
      obtain ⟨o_5, r_6, hG⟩ := q_bi hG
      refine q_goi (v := o_5) (va_runS (As := [.ref (kv 0), .int z1, .int (if z2 < 0 then 0 else z2), .int (if 8 < z3 then 8 else z3)]) (rest := []) ⟨hx, hb, hml, hown, hts⟩ (c_J1_indexOfChar_0 l dC dI ts ks kv z1 (if z2 < 0 then 0 else z2) (if 8 < z3 then 8 else z3) o_5 r_6) (va_cwS 4 hts (q_gS m_232 m_233 m_220 m_234) rfl rfl rfl hdS_yJ1_indexOfChar_4cfef_4 ⟨Nat.le_of_ble_eq_true rfl, Nat.le_of_ble_eq_true rfl⟩) (q_preSE hK hP [] rfl [] rfl q_S_bl (q_S_give hE hS (fun _ h => h.elim))) rfl rfl hl.1 rfl (lv_room (Nat.le_of_ble_eq_true rfl)) dJ1_indexOf_4cfef_33 ⟨Nat.le_of_ble_eq_true rfl, Nat.le_of_ble_eq_true rfl⟩) hP hS (fun H locs hP hS => ?_)
      obtain rfl := Option.some.inj hG
      exact W.iret (v := o_5) hx hb hr (fun t ht hW => ⟨⟨o_5, (), rfl, rfl, trivial⟩, hS.F ht⟩) hS.2.2 dJ1_indexOf_4cfef_36
    · have hG := q_ifn c_4 hG
      refine lv_iconst (v := (-1)) hx hb dJ1_indexOf_4cfef_27 (by decide) ?_
      obtain rfl := Option.some.inj hG
      exact W.iret (v := (-1)) hx hb hr (fun t ht hW => ⟨⟨(-1), (), rfl, rfl, trivial⟩, hS.F ht⟩) hS.2.2 dJ1_indexOf_4cfef_28
  · have hG := q_ifp c_3 hG
    refine lv_iconst (v := (-1)) hx hb dJ1_indexOf_4cfef_7 (by decide) ?_
    obtain rfl := Option.some.inj hG
    exact W.iret (v := (-1)) hx hb hr (fun t ht hW => ⟨⟨(-1), (), rfl, rfl, trivial⟩, hS.F ht⟩) hS.2.2 dJ1_indexOf_4cfef_8

def F_J0_indexOf2_0 (z1 : Int32) (z2 : Int32) : Option (Int32) := ((F_J0_isLatin1_0).bind fun o_1 => (if o_1 = 0 then none else ((F_J0_length_0).bind fun o_4 => ((F_J1_indexOf_0 z1 z2 o_4).bind fun o_6 => some (o_6)))))
set_option maxHeartbeats 4000000 in
set_option maxRecDepth 100000 in
theorem c_J0_indexOf2_0 (l : Launch) (dC : Nat → ClassId) (dI : Nat → Nat → Nat) (ts : Nat → Nat) (ks : Nat → Nat) (kv : Nat → Nat) (z1 : Int32) (z2 : Int32) (o : Int32) (hG : F_J0_indexOf2_0 z1 z2 = some o) : Met l yJ0_indexOf_7cf53 (.code yJ0_indexOf_7cf53 cJ0_indexOf_7cf53 3 (some .int) :: wA) ({ frames := 2, cells := 0, slots := 0, locals := 48 }) (va_Pc [.ref (ks 0), .int z1, .int z2] (q_RE (dC, dI) [] [] (q_S ts ks kv (fun _ => False)))) (q_i o) 0 0 (fun _ => False) := by
  refine Met.ofW (cc := cJ0_indexOf_7cf53) (maxL := 3) (ret := (some .int)) (by decide) rfl ?_
  intro p e s m args below meth c s₁ B hml hv
  obtain ⟨rfl, hP, hK, hE⟩ := hv
  have hx := B.exec
  have hb := B.bytes
  have hr := B.returns
  have hts := atoms_spec (ws := .code yJ0_indexOf_7cf53 cJ0_indexOf_7cf53 3 (some .int) :: wA) B.pre
  have hown : s.vm.findClass RJ0 = some m.cls := findClass_of_methodNamed B.named
  have hlocks := B.notSynchronized
  have hS : va_S (fun _ => False) s.heap s.heap [] := va_S.rf
  have hl := lv_entry ([.ref (ks 0), .int z1, .int z2]) (n := 3) (Nat.le_of_ble_eq_true rfl)
  rw [lg_entry_eq]
  generalize (lg_sl ([.ref (ks 0), .int z1, .int z2]) ++ List.replicate (3 - (lg_sl ([.ref (ks 0), .int z1, .int z2])).length) Slot.unset).toArray = ls at hl ⊢
  have hl : lv_has ls 3 [(0, .ref (ks 0)), (1, .int z1), (2, .int z2)] := hl
  unfold F_J0_indexOf2_0 at hG
  refine lv_aload_n hx hb dJ0_indexOf_7cf53_0 rfl (lv_at hl 0 rfl) ?_
  obtain ⟨o_1, r_2, hG⟩ := q_bi hG
  refine q_goi (v := o_1) (va_runV (As := []) (rest := []) ⟨hx, hb, hml, hown, hts⟩ (c_J0_isLatin1_0 l dC dI ts ks kv o_1 r_2) (cwV 0 hts (q_gV m_213 m_214 m_215 m_196 m_216) rfl rfl rfl hdV_yJ0_isLatin1_aae02_0 ⟨Nat.le_of_ble_eq_true rfl, Nat.le_of_ble_eq_true rfl⟩) (q_preVEs hK hP (vk_recv (i := 0) (q_S_s hE) (by decide) hS) [] rfl [] rfl q_S_bl (q_S_give hE hS (fun _ h => h.elim))) rfl rfl hl.1 rfl (lv_room (Nat.le_of_ble_eq_true rfl)) dJ0_indexOf_7cf53_1 ⟨Nat.le_of_ble_eq_true rfl, Nat.le_of_ble_eq_true rfl⟩) hP hS (fun H locs hP hS => ?_)
  refine lv_if_eq (tgt := 23) hx hb dJ0_indexOf_7cf53_4 (by decide) (fun c_3 => ?_) (fun c_3 => ?_)
  · have hG := q_ifp c_3 hG
    exact q_no hG
  · have hG := q_ifn c_3 hG
    refine lv_aload_n hx hb dJ0_indexOf_7cf53_7 rfl (lv_at hl 0 rfl) ?_
    refine vk_getf hx hb ((q_S_s hE).1 0 (by decide)).2.2.1 hS hown (hts (.fieldLink RJ0 9 "java/lang/String" "value" "[B") (List.mem_cons_of_mem _ m_198)) (fun _ h9 => h9) dJ0_indexOf_7cf53_8 ?_
    refine lv_iload_n hx hb dJ0_indexOf_7cf53_11 rfl (lv_at hl 1 rfl) ?_
    refine lv_iload_n hx hb dJ0_indexOf_7cf53_12 rfl (lv_at hl 2 rfl) ?_
    refine lv_aload_n hx hb dJ0_indexOf_7cf53_13 rfl (lv_at hl 0 rfl) ?_
    obtain ⟨o_4, r_5, hG⟩ := q_bi hG
    refine q_goi (v := o_4) (va_runV (As := []) (rest := [.int z2, .int z1, .ref (kv 0)]) ⟨hx, hb, hml, hown, hts⟩ (c_J0_length_0 l dC dI ts ks kv o_4 r_5) (cwV 0 hts (q_gV m_217 m_194 m_195 m_196 m_197) rfl rfl rfl hdV_yJ0_length_8abf5_0 ⟨Nat.le_of_ble_eq_true rfl, Nat.le_of_ble_eq_true rfl⟩) (q_preVEs hK hP (vk_recv (i := 0) (q_S_s hE) (by decide) hS) [] rfl [] rfl q_S_bl (q_S_give hE hS (fun _ h => h.elim))) rfl rfl hl.1 rfl (lv_room (Nat.le_of_ble_eq_true rfl)) dJ0_indexOf_7cf53_14 ⟨Nat.le_of_ble_eq_true rfl, Nat.le_of_ble_eq_true rfl⟩) hP hS (fun H locs hP hS => ?_)
    obtain ⟨o_6, r_7, hG⟩ := q_bi hG
    refine q_goi (v := o_6) (va_runS (As := [.ref (kv 0), .int z1, .int z2, .int o_4]) (rest := []) ⟨hx, hb, hml, hown, hts⟩ (c_J1_indexOf_0 l dC dI ts ks kv z1 z2 o_4 o_6 r_7) (va_cwS 4 hts (q_gS m_218 m_219 m_220 m_221) rfl rfl rfl hdS_yJ1_indexOf_4cfef_4 ⟨Nat.le_of_ble_eq_true rfl, Nat.le_of_ble_eq_true rfl⟩) (q_preSE hK hP [] rfl [] rfl q_S_bl (q_S_give hE hS (fun _ h => h.elim))) rfl rfl hl.1 rfl (lv_room (Nat.le_of_ble_eq_true rfl)) dJ0_indexOf_7cf53_17 ⟨Nat.le_of_ble_eq_true rfl, Nat.le_of_ble_eq_true rfl⟩) hP hS (fun H locs hP hS => ?_)
    refine lv_goto (tgt := 36) hx hb dJ0_indexOf_7cf53_20 (by decide) ?_
    obtain rfl := Option.some.inj hG
    exact W.iret (v := o_6) hx hb hr (fun t ht hW => ⟨⟨o_6, (), rfl, rfl, trivial⟩, hS.F ht⟩) hS.2.2 dJ0_indexOf_7cf53_36

def F_J0_indexOf_0 (z1 : Int32) : Option (Int32) := ((F_J0_indexOf2_0 z1 0).bind fun o_1 => some (o_1))
set_option maxHeartbeats 4000000 in
set_option maxRecDepth 100000 in
theorem c_J0_indexOf_0 (l : Launch) (dC : Nat → ClassId) (dI : Nat → Nat → Nat) (ts : Nat → Nat) (ks : Nat → Nat) (kv : Nat → Nat) (z1 : Int32) (o : Int32) (hG : F_J0_indexOf_0 z1 = some o) : Met l yJ0_indexOf_0f7a4 (.code yJ0_indexOf_0f7a4 cJ0_indexOf_0f7a4 2 (some .int) :: wA) ({ frames := 3, cells := 0, slots := 0, locals := 70 }) (va_Pc [.ref (ks 0), .int z1] (q_RE (dC, dI) [] [] (q_S ts ks kv (fun _ => False)))) (q_i o) 0 0 (fun _ => False) := by
  refine Met.ofW (cc := cJ0_indexOf_0f7a4) (maxL := 2) (ret := (some .int)) (by decide) rfl ?_
  intro p e s m args below meth c s₁ B hml hv
  obtain ⟨rfl, hP, hK, hE⟩ := hv
  have hx := B.exec
  have hb := B.bytes
  have hr := B.returns
  have hts := atoms_spec (ws := .code yJ0_indexOf_0f7a4 cJ0_indexOf_0f7a4 2 (some .int) :: wA) B.pre
  have hown : s.vm.findClass RJ0 = some m.cls := findClass_of_methodNamed B.named
  have hlocks := B.notSynchronized
  have hS : va_S (fun _ => False) s.heap s.heap [] := va_S.rf
  have hl := lv_entry ([.ref (ks 0), .int z1]) (n := 2) (Nat.le_of_ble_eq_true rfl)
  rw [lg_entry_eq]
  generalize (lg_sl ([.ref (ks 0), .int z1]) ++ List.replicate (2 - (lg_sl ([.ref (ks 0), .int z1])).length) Slot.unset).toArray = ls at hl ⊢
  have hl : lv_has ls 2 [(0, .ref (ks 0)), (1, .int z1)] := hl
  unfold F_J0_indexOf_0 at hG
  refine lv_aload_n hx hb dJ0_indexOf_0f7a4_0 rfl (lv_at hl 0 rfl) ?_
  refine lv_iload_n hx hb dJ0_indexOf_0f7a4_1 rfl (lv_at hl 1 rfl) ?_
  refine lv_iconst (v := 0) hx hb dJ0_indexOf_0f7a4_2 (by decide) ?_
  obtain ⟨o_1, r_2, hG⟩ := q_bi hG
  refine q_goi (v := o_1) (va_runV (As := [.int z1, .int 0]) (rest := []) ⟨hx, hb, hml, hown, hts⟩ (c_J0_indexOf2_0 l dC dI ts ks kv z1 0 o_1 r_2) (cwV 2 hts (q_gV m_209 m_210 m_211 m_196 m_212) rfl rfl rfl hdV_yJ0_indexOf_7cf53_2 ⟨Nat.le_of_ble_eq_true rfl, Nat.le_of_ble_eq_true rfl⟩) (q_preVEs hK hP (vk_recv (i := 0) (q_S_s hE) (by decide) hS) [] rfl [] rfl q_S_bl (q_S_give hE hS (fun _ h => h.elim))) rfl rfl hl.1 rfl (lv_room (Nat.le_of_ble_eq_true rfl)) dJ0_indexOf_0f7a4_3 ⟨Nat.le_of_ble_eq_true rfl, Nat.le_of_ble_eq_true rfl⟩) hP hS (fun H locs hP hS => ?_)
  obtain rfl := Option.some.inj hG
  exact W.iret (v := o_1) hx hb hr (fun t ht hW => ⟨⟨o_1, (), rfl, rfl, trivial⟩, hS.F ht⟩) hS.2.2 dJ0_indexOf_0f7a4_6

def F_J0_coder_1 : Option (Int32) := some (0)
set_option maxHeartbeats 4000000 in
set_option maxRecDepth 100000 in
theorem c_J0_coder_1 (l : Launch) (dC : Nat → ClassId) (dI : Nat → Nat → Nat) (ts : Nat → Nat) (ks : Nat → Nat) (kv : Nat → Nat) (o : Int32) (hG : F_J0_coder_1 = some o) : Met l yJ0_coder_7d493 (.code yJ0_coder_7d493 cJ0_coder_7d493 1 (some .byte) :: wA) ({ frames := 0, cells := 0, slots := 0, locals := 0 }) (va_Pc [.ref (ks 1)] (q_RE (dC, dI) [] [] (q_S ts ks kv (fun _ => False)))) (q_i o) 0 0 (fun _ => False) := by
  refine Met.ofW (cc := cJ0_coder_7d493) (maxL := 1) (ret := (some .byte)) (by decide) rfl ?_
  intro p e s m args below meth c s₁ B hml hv
  obtain ⟨rfl, hP, hK, hE⟩ := hv
  have hx := B.exec
  have hb := B.bytes
  have hr := B.returns
  have hts := atoms_spec (ws := .code yJ0_coder_7d493 cJ0_coder_7d493 1 (some .byte) :: wA) B.pre
  have hown : s.vm.findClass RJ0 = some m.cls := findClass_of_methodNamed B.named
  have hlocks := B.notSynchronized
  have hS : va_S (fun _ => False) s.heap s.heap [] := va_S.rf
  have hl := lv_entry ([.ref (ks 1)]) (n := 1) (Nat.le_of_ble_eq_true rfl)
  rw [lg_entry_eq]
  generalize (lg_sl ([.ref (ks 1)]) ++ List.replicate (1 - (lg_sl ([.ref (ks 1)])).length) Slot.unset).toArray = ls at hl ⊢
  have hl : lv_has ls 1 [(0, .ref (ks 1))] := hl
  unfold F_J0_coder_1 at hG
  refine va_gets hx hb (q_S_c hE) hS hown (hts (.fieldLink RJ0 38 "java/lang/String" "COMPACT_STRINGS" "Z") (List.mem_cons_of_mem _ m_203)) (fun _ h9 => h9) dJ0_coder_7d493_0 ?_
  refine lv_if_eq (tgt := 13) hx hb dJ0_coder_7d493_3 (by decide) (fun c_1 => ?_) (fun c_1 => ?_)
  · exact absurd c_1 (by decide)
  refine lv_aload_n hx hb dJ0_coder_7d493_6 rfl (lv_at hl 0 rfl) ?_
  refine vk_getf hx hb ((q_S_s hE).1 1 (by decide)).2.1 hS hown (hts (.fieldLink RJ0 15 "java/lang/String" "coder" "B") (List.mem_cons_of_mem _ m_204)) (fun _ h9 => h9) dJ0_coder_7d493_7 ?_
  refine lv_goto (tgt := 14) hx hb dJ0_coder_7d493_10 (by decide) ?_
  obtain rfl := Option.some.inj hG
  exact W.zret (v := 0) hx hb hr rfl (fun t ht hW => ⟨⟨0, (), rfl, rfl, trivial⟩, hS.F ht⟩) hS.2.2 dJ0_coder_7d493_14

def F_J0_isLatin1_1 : Option (Int32) := some (1)
set_option maxHeartbeats 4000000 in
set_option maxRecDepth 100000 in
theorem c_J0_isLatin1_1 (l : Launch) (dC : Nat → ClassId) (dI : Nat → Nat → Nat) (ts : Nat → Nat) (ks : Nat → Nat) (kv : Nat → Nat) (o : Int32) (hG : F_J0_isLatin1_1 = some o) : Met l yJ0_isLatin1_aae02 (.code yJ0_isLatin1_aae02 cJ0_isLatin1_aae02 1 (some .boolean) :: wA) ({ frames := 0, cells := 0, slots := 0, locals := 0 }) (va_Pc [.ref (ks 1)] (q_RE (dC, dI) [] [] (q_S ts ks kv (fun _ => False)))) (q_i o) 0 0 (fun _ => False) := by
  refine Met.ofW (cc := cJ0_isLatin1_aae02) (maxL := 1) (ret := (some .boolean)) (by decide) rfl ?_
  intro p e s m args below meth c s₁ B hml hv
  obtain ⟨rfl, hP, hK, hE⟩ := hv
  have hx := B.exec
  have hb := B.bytes
  have hr := B.returns
  have hts := atoms_spec (ws := .code yJ0_isLatin1_aae02 cJ0_isLatin1_aae02 1 (some .boolean) :: wA) B.pre
  have hown : s.vm.findClass RJ0 = some m.cls := findClass_of_methodNamed B.named
  have hlocks := B.notSynchronized
  have hS : va_S (fun _ => False) s.heap s.heap [] := va_S.rf
  have hl := lv_entry ([.ref (ks 1)]) (n := 1) (Nat.le_of_ble_eq_true rfl)
  rw [lg_entry_eq]
  generalize (lg_sl ([.ref (ks 1)]) ++ List.replicate (1 - (lg_sl ([.ref (ks 1)])).length) Slot.unset).toArray = ls at hl ⊢
  have hl : lv_has ls 1 [(0, .ref (ks 1))] := hl
  unfold F_J0_isLatin1_1 at hG
  refine va_gets hx hb (q_S_c hE) hS hown (hts (.fieldLink RJ0 38 "java/lang/String" "COMPACT_STRINGS" "Z") (List.mem_cons_of_mem _ m_203)) (fun _ h9 => h9) dJ0_isLatin1_aae02_0 ?_
  refine lv_if_eq (tgt := 17) hx hb dJ0_isLatin1_aae02_3 (by decide) (fun c_1 => ?_) (fun c_1 => ?_)
  · exact absurd c_1 (by decide)
  refine lv_aload_n hx hb dJ0_isLatin1_aae02_6 rfl (lv_at hl 0 rfl) ?_
  refine vk_getf hx hb ((q_S_s hE).1 1 (by decide)).2.1 hS hown (hts (.fieldLink RJ0 15 "java/lang/String" "coder" "B") (List.mem_cons_of_mem _ m_204)) (fun _ h9 => h9) dJ0_isLatin1_aae02_7 ?_
  refine lv_if_ne (tgt := 17) hx hb dJ0_isLatin1_aae02_10 (by decide) (fun c_2 => ?_) (fun c_2 => ?_)
  · exact absurd (by decide) c_2
  refine lv_iconst (v := 1) hx hb dJ0_isLatin1_aae02_13 (by decide) ?_
  refine lv_goto (tgt := 18) hx hb dJ0_isLatin1_aae02_14 (by decide) ?_
  obtain rfl := Option.some.inj hG
  exact W.zret (v := 1) hx hb hr rfl (fun t ht hW => ⟨⟨1, (), rfl, rfl, trivial⟩, hS.F ht⟩) hS.2.2 dJ0_isLatin1_aae02_18

def F_J0_length_1 : Option (Int32) := ((F_J0_coder_1).bind fun o_1 => some ((6 >>> (o_1 &&& 31))))
set_option maxHeartbeats 4000000 in
set_option maxRecDepth 100000 in
theorem c_J0_length_1 (l : Launch) (dC : Nat → ClassId) (dI : Nat → Nat → Nat) (ts : Nat → Nat) (ks : Nat → Nat) (kv : Nat → Nat) (o : Int32) (hG : F_J0_length_1 = some o) : Met l yJ0_length_8abf5 (.code yJ0_length_8abf5 cJ0_length_8abf5 1 (some .int) :: wA) ({ frames := 1, cells := 0, slots := 0, locals := 20 }) (va_Pc [.ref (ks 1)] (q_RE (dC, dI) [] [] (q_S ts ks kv (fun _ => False)))) (q_i o) 0 0 (fun _ => False) := by
  refine Met.ofW (cc := cJ0_length_8abf5) (maxL := 1) (ret := (some .int)) (by decide) rfl ?_
  intro p e s m args below meth c s₁ B hml hv
  obtain ⟨rfl, hP, hK, hE⟩ := hv
  have hx := B.exec
  have hb := B.bytes
  have hr := B.returns
  have hts := atoms_spec (ws := .code yJ0_length_8abf5 cJ0_length_8abf5 1 (some .int) :: wA) B.pre
  have hown : s.vm.findClass RJ0 = some m.cls := findClass_of_methodNamed B.named
  have hlocks := B.notSynchronized
  have hS : va_S (fun _ => False) s.heap s.heap [] := va_S.rf
  have hl := lv_entry ([.ref (ks 1)]) (n := 1) (Nat.le_of_ble_eq_true rfl)
  rw [lg_entry_eq]
  generalize (lg_sl ([.ref (ks 1)]) ++ List.replicate (1 - (lg_sl ([.ref (ks 1)])).length) Slot.unset).toArray = ls at hl ⊢
  have hl : lv_has ls 1 [(0, .ref (ks 1))] := hl
  unfold F_J0_length_1 at hG
  refine lv_aload_n hx hb dJ0_length_8abf5_0 rfl (lv_at hl 0 rfl) ?_
  refine vk_getf hx hb ((q_S_s hE).1 1 (by decide)).2.2.1 hS hown (hts (.fieldLink RJ0 9 "java/lang/String" "value" "[B") (List.mem_cons_of_mem _ m_198)) (fun _ h9 => h9) dJ0_length_8abf5_1 ?_
  refine va_tlen hx hb ((q_S_s hE).1 1 (by decide)).2.2.2 hS (v := 6) rfl dJ0_length_8abf5_4 ?_
  refine lv_aload_n hx hb dJ0_length_8abf5_5 rfl (lv_at hl 0 rfl) ?_
  obtain ⟨o_1, r_2, hG⟩ := q_bi hG
  refine q_goi (v := o_1) (va_runV (As := []) (rest := [.int 6]) ⟨hx, hb, hml, hown, hts⟩ (c_J0_coder_1 l dC dI ts ks kv o_1 r_2) (cwV 0 hts (q_gV m_199 m_200 m_201 m_196 m_202) rfl rfl rfl hdV_yJ0_coder_7d493_0 ⟨Nat.le_of_ble_eq_true rfl, Nat.le_of_ble_eq_true rfl⟩) (q_preVEs hK hP (vk_recv (i := 1) (q_S_s hE) (by decide) hS) [] rfl [] rfl q_S_bl (q_S_give hE hS (fun _ h => h.elim))) rfl rfl hl.1 rfl (lv_room (Nat.le_of_ble_eq_true rfl)) dJ0_length_8abf5_6 ⟨Nat.le_of_ble_eq_true rfl, Nat.le_of_ble_eq_true rfl⟩) hP hS (fun H locs hP hS => ?_)
  refine lv_ishr hx hb dJ0_length_8abf5_9 ?_
  obtain rfl := Option.some.inj hG
  exact W.iret (v := (6 >>> (o_1 &&& 31))) hx hb hr (fun t ht hW => ⟨⟨(6 >>> (o_1 &&& 31)), (), rfl, rfl, trivial⟩, hS.F ht⟩) hS.2.2 dJ0_length_8abf5_10

def FL_J1_indexOfChar_1_7 (z1 : Int32) (z2 : Int32) (z3 : Int32) : Nat → Int32 → Int32 → Option (Int32)
  | 0, _, _ => none
  | n + 1, x4_7, x5_7 => (if z3 ≤ x5_7 then some ((-1)) else (if x5_7 < 0 ∨ 6 ≤ (x5_7).toNatClampNeg then none else (if ((q_sb.getD 1 []).getD (x5_7).toNatClampNeg 0) = x4_7 then some (x5_7) else (FL_J1_indexOfChar_1_7 z1 z2 z3 n x4_7 (x5_7 + 1)))))

def F_J1_indexOfChar_1 (z1 : Int32) (z2 : Int32) (z3 : Int32) : Option (Int32) := (FL_J1_indexOfChar_1_7 z1 z2 z3 1000 ((z1 : Int32).toInt8.toInt32) z2)
set_option maxHeartbeats 4000000 in
set_option maxRecDepth 100000 in
theorem c_J1_indexOfChar_1 (l : Launch) (dC : Nat → ClassId) (dI : Nat → Nat → Nat) (ts : Nat → Nat) (ks : Nat → Nat) (kv : Nat → Nat) (z1 : Int32) (z2 : Int32) (z3 : Int32) (o : Int32) (hG : F_J1_indexOfChar_1 z1 z2 z3 = some o) : Met l yJ1_indexOfChar_4cfef (.code yJ1_indexOfChar_4cfef cJ1_indexOfChar_4cfef 6 (some .int) :: wA) ({ frames := 0, cells := 0, slots := 0, locals := 0 }) (va_Pc [.ref (kv 1), .int z1, .int z2, .int z3] (q_RE (dC, dI) [] [] (q_S ts ks kv (fun _ => False)))) (q_i o) 0 0 (fun _ => False) := by
  refine Met.ofW (cc := cJ1_indexOfChar_4cfef) (maxL := 6) (ret := (some .int)) (by decide) rfl ?_
  intro p e s m args below meth c s₁ B hml hv
  obtain ⟨rfl, hP, hK, hE⟩ := hv
  have hx := B.exec
  have hb := B.bytes
  have hr := B.returns
  have hts := atoms_spec (ws := .code yJ1_indexOfChar_4cfef cJ1_indexOfChar_4cfef 6 (some .int) :: wA) B.pre
  have hown : s.vm.findClass RJ1 = some m.cls := findClass_of_methodNamed B.named
  have hlocks := B.notSynchronized
  have hS : va_S (fun _ => False) s.heap s.heap [] := va_S.rf
  have hl := lv_entry ([.ref (kv 1), .int z1, .int z2, .int z3]) (n := 6) (Nat.le_of_ble_eq_true rfl)
  rw [lg_entry_eq]
  generalize (lg_sl ([.ref (kv 1), .int z1, .int z2, .int z3]) ++ List.replicate (6 - (lg_sl ([.ref (kv 1), .int z1, .int z2, .int z3])).length) Slot.unset).toArray = ls at hl ⊢
  have hl : lv_has ls 6 [(0, .ref (kv 1)), (1, .int z1), (2, .int z2), (3, .int z3)] := hl
  unfold F_J1_indexOfChar_1 at hG
  refine lv_iload_n hx hb dJ1_indexOfChar_4cfef_0 rfl (lv_at hl 1 rfl) ?_
  refine lv_i2b hx hb dJ1_indexOfChar_4cfef_1 rfl ?_
  refine lv_istore (lv' := [(4, .int ((z1 : Int32).toInt8.toInt32)), (0, .ref (kv 1)), (1, .int z1), (2, .int z2), (3, .int z3)]) hx hb dJ1_indexOfChar_4cfef_2 hl (by decide) rfl (fun ls hl => ?_)
  refine lv_iload_n hx hb dJ1_indexOfChar_4cfef_4 rfl (lv_at hl 3 rfl) ?_
  refine lv_istore (lv' := [(5, .int z2), (4, .int ((z1 : Int32).toInt8.toInt32)), (0, .ref (kv 1)), (1, .int z1), (2, .int z2), (3, .int z3)]) hx hb dJ1_indexOfChar_4cfef_5 hl (by decide) rfl (fun ls hl => ?_)
  have L_7 : ∀ (n_7 : Nat) (x4_7 : Int32) (x5_7 : Int32) (H : Heap) (locs : List Loc) (ls : Array Slot), FL_J1_indexOfChar_1_7 z1 z2 z3 n_7 x4_7 x5_7 = some o → va_P (dC, dI) vwCl [] H → va_S (fun _ => False) s.heap H locs → lv_has ls 6 [(5, .int x5_7), (4, .int x4_7), (0, .ref (kv 1)), (1, .int z1), (2, .int z2), (3, .int z3)] → W p l e (headSpec (.code yJ1_indexOfChar_4cfef cJ1_indexOfChar_4cfef 6 (some .int) :: wA) ({ frames := 0, cells := 0, slots := 0, locals := 0 })).room s m #[.ref (kv 1), .int z1, .int z2, .int z3] below meth c H locs 0 0 (MQ below (q_i o) #[.ref (kv 1), .int z1, .int z2, .int z3] s 0 0 (fun _ => False)) (F0 m 7 ls []) := by
    intro n_7
    induction n_7 with
    | zero =>
      intro x4_7 x5_7 H locs ls hG
      exact q_no hG
    | succ n_7 ih_7 =>
      intro x4_7 x5_7 H locs ls hG hP hS hl
      unfold FL_J1_indexOfChar_1_7 at hG
      refine lv_iload hx hb dJ1_indexOfChar_4cfef_7 (lv_at hl 0 rfl) ?_
      refine lv_iload_n hx hb dJ1_indexOfChar_4cfef_9 rfl (lv_at hl 5 rfl) ?_
      refine lv_icmp_ge (tgt := 31) hx hb dJ1_indexOfChar_4cfef_10 (by decide) (fun c_1 => ?_) (fun c_1 => ?_)
      · have hG := q_ifp c_1 hG
        refine lv_iconst (v := (-1)) hx hb dJ1_indexOfChar_4cfef_31 (by decide) ?_
        obtain rfl := Option.some.inj hG
        exact W.iret (v := (-1)) hx hb hr (fun t ht hW => ⟨⟨(-1), (), rfl, rfl, trivial⟩, hS.F ht⟩) hS.2.2 dJ1_indexOfChar_4cfef_32
      · have hG := q_ifn c_1 hG
        refine lv_aload_n hx hb dJ1_indexOfChar_4cfef_13 rfl (lv_at hl 2 rfl) ?_
        refine lv_iload hx hb dJ1_indexOfChar_4cfef_14 (lv_at hl 0 rfl) ?_
        obtain ⟨h_2, hG⟩ := q_ix hG
        refine va_tb hx hb ((q_S_s hE).1 1 (by decide)).2.2.2 hS (i := x5_7) h_2 (v := .int ((q_sb.getD 1 []).getD (x5_7).toNatClampNeg 0)) rfl dJ1_indexOfChar_4cfef_16 ?_
        refine lv_iload hx hb dJ1_indexOfChar_4cfef_17 (lv_at hl 1 rfl) ?_
        refine lv_icmp_ne (tgt := 25) hx hb dJ1_indexOfChar_4cfef_19 (by decide) (fun c_3 => ?_) (fun c_3 => ?_)
        · have hG := q_ifn c_3 hG
          refine lv_iinc (v := (x5_7 + 1)) (lv' := [(5, .int (x5_7 + 1)), (4, .int x4_7), (0, .ref (kv 1)), (1, .int z1), (2, .int z2), (3, .int z3)]) hx hb dJ1_indexOfChar_4cfef_25 hl (k := 0) rfl (rfl) (by decide) rfl (fun ls hl => ?_)
          refine lv_goto (tgt := 7) hx hb dJ1_indexOfChar_4cfef_28 (by decide) ?_
          exact ih_7 x4_7 (x5_7 + 1) H locs ls hG hP hS (lv_sub hl [0, 1, 2, 3, 4, 5] rfl)
        · have hG := q_ifp c_3 hG
          refine lv_iload hx hb dJ1_indexOfChar_4cfef_22 (lv_at hl 0 rfl) ?_
          obtain rfl := Option.some.inj hG
          exact W.iret (v := x5_7) hx hb hr (fun t ht hW => ⟨⟨x5_7, (), rfl, rfl, trivial⟩, hS.F ht⟩) hS.2.2 dJ1_indexOfChar_4cfef_24
  exact L_7 1000 ((z1 : Int32).toInt8.toInt32) z2 s.heap [] ls hG hP hS hl

def F_J1_indexOf_1 (z1 : Int32) (z2 : Int32) (z3 : Int32) : Option (Int32) := ((F_J1_canEncode_9a6ad z1).bind fun o_1 => (if o_1 = 0 then some ((-1)) else (if (if z2 < 0 then 0 else z2) < (if 6 < z3 then 6 else z3) then ((F_J1_indexOfChar_1 z1 (if z2 < 0 then 0 else z2) (if 6 < z3 then 6 else z3)).bind fun o_5 => some (o_5)) else some ((-1)))))
set_option maxHeartbeats 4000000 in
set_option maxRecDepth 100000 in
theorem c_J1_indexOf_1 (l : Launch) (dC : Nat → ClassId) (dI : Nat → Nat → Nat) (ts : Nat → Nat) (ks : Nat → Nat) (kv : Nat → Nat) (z1 : Int32) (z2 : Int32) (z3 : Int32) (o : Int32) (hG : F_J1_indexOf_1 z1 z2 z3 = some o) : Met l yJ1_indexOf_4cfef (.code yJ1_indexOf_4cfef cJ1_indexOf_4cfef 4 (some .int) :: wA) ({ frames := 1, cells := 0, slots := 0, locals := 25 }) (va_Pc [.ref (kv 1), .int z1, .int z2, .int z3] (q_RE (dC, dI) [] [] (q_S ts ks kv (fun _ => False)))) (q_i o) 0 0 (fun _ => False) := by
  refine Met.ofW (cc := cJ1_indexOf_4cfef) (maxL := 4) (ret := (some .int)) (by decide) rfl ?_
  intro p e s m args below meth c s₁ B hml hv
  obtain ⟨rfl, hP, hK, hE⟩ := hv
  have hx := B.exec
  have hb := B.bytes
  have hr := B.returns
  have hts := atoms_spec (ws := .code yJ1_indexOf_4cfef cJ1_indexOf_4cfef 4 (some .int) :: wA) B.pre
  have hown : s.vm.findClass RJ1 = some m.cls := findClass_of_methodNamed B.named
  have hlocks := B.notSynchronized
  have hS : va_S (fun _ => False) s.heap s.heap [] := va_S.rf
  have hl := lv_entry ([.ref (kv 1), .int z1, .int z2, .int z3]) (n := 4) (Nat.le_of_ble_eq_true rfl)
  rw [lg_entry_eq]
  generalize (lg_sl ([.ref (kv 1), .int z1, .int z2, .int z3]) ++ List.replicate (4 - (lg_sl ([.ref (kv 1), .int z1, .int z2, .int z3])).length) Slot.unset).toArray = ls at hl ⊢
  have hl : lv_has ls 4 [(0, .ref (kv 1)), (1, .int z1), (2, .int z2), (3, .int z3)] := hl
  unfold F_J1_indexOf_1 at hG
  refine lv_iload_n hx hb dJ1_indexOf_4cfef_0 rfl (lv_at hl 1 rfl) ?_
  obtain ⟨o_1, r_2, hG⟩ := q_bi hG
  refine q_goi (v := o_1) (va_runS (As := [.int z1]) (rest := []) ⟨hx, hb, hml, hown, hts⟩ (c_J1_canEncode_9a6ad l dC dI z1 o_1 r_2) (va_cwS 1 hts (q_gS m_229 m_230 m_220 m_231) rfl rfl rfl hdS_yJ1_canEncode_9a6ad_1 ⟨Nat.le_of_ble_eq_true rfl, Nat.le_of_ble_eq_true rfl⟩) (q_preS hK hP [] rfl [] rfl) rfl rfl hl.1 rfl (lv_room (Nat.le_of_ble_eq_true rfl)) dJ1_indexOf_4cfef_1 ⟨Nat.le_of_ble_eq_true rfl, Nat.le_of_ble_eq_true rfl⟩) hP hS (fun H locs hP hS => ?_)
  refine lv_if_ne (tgt := 9) hx hb dJ1_indexOf_4cfef_4 (by decide) (fun c_3 => ?_) (fun c_3 => ?_)
  · have hG := q_ifn c_3 hG
    refine lv_iload_n hx hb dJ1_indexOf_4cfef_9 rfl (lv_at hl 2 rfl) ?_
    refine lv_iconst (v := 0) hx hb dJ1_indexOf_4cfef_10 (by decide) ?_
    refine va_mmax hx hb (by rw [hml, hl.1]) hown (hts (.methodLink RJ1 92 Lib.Math.max.name) (List.mem_cons_of_mem _ m_222)) (hts (.static Lib.Math.max.name) (List.mem_cons_of_mem _ m_223)) (hts (.initialized "java/lang/Math") (List.mem_cons_of_mem _ m_224)) (hts (.code Lib.Math.max.name Lib.Math.max.code 2 (some .int)) (List.mem_cons_of_mem _ m_225)) (Nat.le_of_ble_eq_true rfl) (Nat.le_of_ble_eq_true rfl) (Nat.zero_le _) (Nat.zero_le _) dJ1_indexOf_4cfef_11 ?_
    refine lv_istore_n (lv' := [(2, .int (if z2 < 0 then 0 else z2)), (0, .ref (kv 1)), (1, .int z1), (3, .int z3)]) hx hb dJ1_indexOf_4cfef_14 rfl hl (by decide) rfl (fun ls hl => ?_)
    refine lv_iload_n hx hb dJ1_indexOf_4cfef_15 rfl (lv_at hl 3 rfl) ?_
    refine lv_aload_n hx hb dJ1_indexOf_4cfef_16 rfl (lv_at hl 1 rfl) ?_
    refine va_tlen hx hb ((q_S_s hE).1 1 (by decide)).2.2.2 hS (v := 6) rfl dJ1_indexOf_4cfef_17 ?_
    refine va_mmin hx hb (by rw [hml, hl.1]) hown (hts (.methodLink RJ1 38 Lib.Math.min.name) (List.mem_cons_of_mem _ m_226)) (hts (.static Lib.Math.min.name) (List.mem_cons_of_mem _ m_227)) (hts (.initialized "java/lang/Math") (List.mem_cons_of_mem _ m_224)) (hts (.code Lib.Math.min.name Lib.Math.min.code 2 (some .int)) (List.mem_cons_of_mem _ m_228)) (Nat.le_of_ble_eq_true rfl) (Nat.le_of_ble_eq_true rfl) (Nat.zero_le _) (Nat.zero_le _) dJ1_indexOf_4cfef_18 ?_
    refine lv_istore_n (lv' := [(3, .int (if 6 < z3 then 6 else z3)), (2, .int (if z2 < 0 then 0 else z2)), (0, .ref (kv 1)), (1, .int z1)]) hx hb dJ1_indexOf_4cfef_21 rfl hl (by decide) rfl (fun ls hl => ?_)
    refine lv_iload_n hx hb dJ1_indexOf_4cfef_22 rfl (lv_at hl 1 rfl) ?_
    refine lv_iload_n hx hb dJ1_indexOf_4cfef_23 rfl (lv_at hl 0 rfl) ?_
    refine lv_icmp_lt (tgt := 29) hx hb dJ1_indexOf_4cfef_24 (by decide) (fun c_4 => ?_) (fun c_4 => ?_)
    · have hG := q_ifp c_4 hG
      refine lv_aload_n hx hb dJ1_indexOf_4cfef_29 rfl (lv_at hl 2 rfl) ?_
      refine lv_iload_n hx hb dJ1_indexOf_4cfef_30 rfl (lv_at hl 3 rfl) ?_
      refine lv_iload_n hx hb dJ1_indexOf_4cfef_31 rfl (lv_at hl 1 rfl) ?_
      refine lv_iload_n hx hb dJ1_indexOf_4cfef_32 rfl (lv_at hl 0 rfl) ?_
      obtain ⟨o_5, r_6, hG⟩ := q_bi hG
      refine q_goi (v := o_5) (va_runS (As := [.ref (kv 1), .int z1, .int (if z2 < 0 then 0 else z2), .int (if 6 < z3 then 6 else z3)]) (rest := []) ⟨hx, hb, hml, hown, hts⟩ (c_J1_indexOfChar_1 l dC dI ts ks kv z1 (if z2 < 0 then 0 else z2) (if 6 < z3 then 6 else z3) o_5 r_6) (va_cwS 4 hts (q_gS m_232 m_233 m_220 m_234) rfl rfl rfl hdS_yJ1_indexOfChar_4cfef_4 ⟨Nat.le_of_ble_eq_true rfl, Nat.le_of_ble_eq_true rfl⟩) (q_preSE hK hP [] rfl [] rfl q_S_bl (q_S_give hE hS (fun _ h => h.elim))) rfl rfl hl.1 rfl (lv_room (Nat.le_of_ble_eq_true rfl)) dJ1_indexOf_4cfef_33 ⟨Nat.le_of_ble_eq_true rfl, Nat.le_of_ble_eq_true rfl⟩) hP hS (fun H locs hP hS => ?_)
      obtain rfl := Option.some.inj hG
      exact W.iret (v := o_5) hx hb hr (fun t ht hW => ⟨⟨o_5, (), rfl, rfl, trivial⟩, hS.F ht⟩) hS.2.2 dJ1_indexOf_4cfef_36
    · have hG := q_ifn c_4 hG
      refine lv_iconst (v := (-1)) hx hb dJ1_indexOf_4cfef_27 (by decide) ?_
      obtain rfl := Option.some.inj hG
      exact W.iret (v := (-1)) hx hb hr (fun t ht hW => ⟨⟨(-1), (), rfl, rfl, trivial⟩, hS.F ht⟩) hS.2.2 dJ1_indexOf_4cfef_28
  · have hG := q_ifp c_3 hG
    refine lv_iconst (v := (-1)) hx hb dJ1_indexOf_4cfef_7 (by decide) ?_
    obtain rfl := Option.some.inj hG
    exact W.iret (v := (-1)) hx hb hr (fun t ht hW => ⟨⟨(-1), (), rfl, rfl, trivial⟩, hS.F ht⟩) hS.2.2 dJ1_indexOf_4cfef_8

def F_J0_indexOf2_1 (z1 : Int32) (z2 : Int32) : Option (Int32) := ((F_J0_isLatin1_1).bind fun o_1 => (if o_1 = 0 then none else ((F_J0_length_1).bind fun o_4 => ((F_J1_indexOf_1 z1 z2 o_4).bind fun o_6 => some (o_6)))))
set_option maxHeartbeats 4000000 in
set_option maxRecDepth 100000 in
theorem c_J0_indexOf2_1 (l : Launch) (dC : Nat → ClassId) (dI : Nat → Nat → Nat) (ts : Nat → Nat) (ks : Nat → Nat) (kv : Nat → Nat) (z1 : Int32) (z2 : Int32) (o : Int32) (hG : F_J0_indexOf2_1 z1 z2 = some o) : Met l yJ0_indexOf_7cf53 (.code yJ0_indexOf_7cf53 cJ0_indexOf_7cf53 3 (some .int) :: wA) ({ frames := 2, cells := 0, slots := 0, locals := 48 }) (va_Pc [.ref (ks 1), .int z1, .int z2] (q_RE (dC, dI) [] [] (q_S ts ks kv (fun _ => False)))) (q_i o) 0 0 (fun _ => False) := by
  refine Met.ofW (cc := cJ0_indexOf_7cf53) (maxL := 3) (ret := (some .int)) (by decide) rfl ?_
  intro p e s m args below meth c s₁ B hml hv
  obtain ⟨rfl, hP, hK, hE⟩ := hv
  have hx := B.exec
  have hb := B.bytes
  have hr := B.returns
  have hts := atoms_spec (ws := .code yJ0_indexOf_7cf53 cJ0_indexOf_7cf53 3 (some .int) :: wA) B.pre
  have hown : s.vm.findClass RJ0 = some m.cls := findClass_of_methodNamed B.named
  have hlocks := B.notSynchronized
  have hS : va_S (fun _ => False) s.heap s.heap [] := va_S.rf
  have hl := lv_entry ([.ref (ks 1), .int z1, .int z2]) (n := 3) (Nat.le_of_ble_eq_true rfl)
  rw [lg_entry_eq]
  generalize (lg_sl ([.ref (ks 1), .int z1, .int z2]) ++ List.replicate (3 - (lg_sl ([.ref (ks 1), .int z1, .int z2])).length) Slot.unset).toArray = ls at hl ⊢
  have hl : lv_has ls 3 [(0, .ref (ks 1)), (1, .int z1), (2, .int z2)] := hl
  unfold F_J0_indexOf2_1 at hG
  refine lv_aload_n hx hb dJ0_indexOf_7cf53_0 rfl (lv_at hl 0 rfl) ?_
  obtain ⟨o_1, r_2, hG⟩ := q_bi hG
  refine q_goi (v := o_1) (va_runV (As := []) (rest := []) ⟨hx, hb, hml, hown, hts⟩ (c_J0_isLatin1_1 l dC dI ts ks kv o_1 r_2) (cwV 0 hts (q_gV m_213 m_214 m_215 m_196 m_216) rfl rfl rfl hdV_yJ0_isLatin1_aae02_0 ⟨Nat.le_of_ble_eq_true rfl, Nat.le_of_ble_eq_true rfl⟩) (q_preVEs hK hP (vk_recv (i := 1) (q_S_s hE) (by decide) hS) [] rfl [] rfl q_S_bl (q_S_give hE hS (fun _ h => h.elim))) rfl rfl hl.1 rfl (lv_room (Nat.le_of_ble_eq_true rfl)) dJ0_indexOf_7cf53_1 ⟨Nat.le_of_ble_eq_true rfl, Nat.le_of_ble_eq_true rfl⟩) hP hS (fun H locs hP hS => ?_)
  refine lv_if_eq (tgt := 23) hx hb dJ0_indexOf_7cf53_4 (by decide) (fun c_3 => ?_) (fun c_3 => ?_)
  · have hG := q_ifp c_3 hG
    exact q_no hG
  · have hG := q_ifn c_3 hG
    refine lv_aload_n hx hb dJ0_indexOf_7cf53_7 rfl (lv_at hl 0 rfl) ?_
    refine vk_getf hx hb ((q_S_s hE).1 1 (by decide)).2.2.1 hS hown (hts (.fieldLink RJ0 9 "java/lang/String" "value" "[B") (List.mem_cons_of_mem _ m_198)) (fun _ h9 => h9) dJ0_indexOf_7cf53_8 ?_
    refine lv_iload_n hx hb dJ0_indexOf_7cf53_11 rfl (lv_at hl 1 rfl) ?_
    refine lv_iload_n hx hb dJ0_indexOf_7cf53_12 rfl (lv_at hl 2 rfl) ?_
    refine lv_aload_n hx hb dJ0_indexOf_7cf53_13 rfl (lv_at hl 0 rfl) ?_
    obtain ⟨o_4, r_5, hG⟩ := q_bi hG
    refine q_goi (v := o_4) (va_runV (As := []) (rest := [.int z2, .int z1, .ref (kv 1)]) ⟨hx, hb, hml, hown, hts⟩ (c_J0_length_1 l dC dI ts ks kv o_4 r_5) (cwV 0 hts (q_gV m_217 m_194 m_195 m_196 m_197) rfl rfl rfl hdV_yJ0_length_8abf5_0 ⟨Nat.le_of_ble_eq_true rfl, Nat.le_of_ble_eq_true rfl⟩) (q_preVEs hK hP (vk_recv (i := 1) (q_S_s hE) (by decide) hS) [] rfl [] rfl q_S_bl (q_S_give hE hS (fun _ h => h.elim))) rfl rfl hl.1 rfl (lv_room (Nat.le_of_ble_eq_true rfl)) dJ0_indexOf_7cf53_14 ⟨Nat.le_of_ble_eq_true rfl, Nat.le_of_ble_eq_true rfl⟩) hP hS (fun H locs hP hS => ?_)
    obtain ⟨o_6, r_7, hG⟩ := q_bi hG
    refine q_goi (v := o_6) (va_runS (As := [.ref (kv 1), .int z1, .int z2, .int o_4]) (rest := []) ⟨hx, hb, hml, hown, hts⟩ (c_J1_indexOf_1 l dC dI ts ks kv z1 z2 o_4 o_6 r_7) (va_cwS 4 hts (q_gS m_218 m_219 m_220 m_221) rfl rfl rfl hdS_yJ1_indexOf_4cfef_4 ⟨Nat.le_of_ble_eq_true rfl, Nat.le_of_ble_eq_true rfl⟩) (q_preSE hK hP [] rfl [] rfl q_S_bl (q_S_give hE hS (fun _ h => h.elim))) rfl rfl hl.1 rfl (lv_room (Nat.le_of_ble_eq_true rfl)) dJ0_indexOf_7cf53_17 ⟨Nat.le_of_ble_eq_true rfl, Nat.le_of_ble_eq_true rfl⟩) hP hS (fun H locs hP hS => ?_)
    refine lv_goto (tgt := 36) hx hb dJ0_indexOf_7cf53_20 (by decide) ?_
    obtain rfl := Option.some.inj hG
    exact W.iret (v := o_6) hx hb hr (fun t ht hW => ⟨⟨o_6, (), rfl, rfl, trivial⟩, hS.F ht⟩) hS.2.2 dJ0_indexOf_7cf53_36

def F_J0_indexOf_1 (z1 : Int32) : Option (Int32) := ((F_J0_indexOf2_1 z1 0).bind fun o_1 => some (o_1))
set_option maxHeartbeats 4000000 in
set_option maxRecDepth 100000 in
theorem c_J0_indexOf_1 (l : Launch) (dC : Nat → ClassId) (dI : Nat → Nat → Nat) (ts : Nat → Nat) (ks : Nat → Nat) (kv : Nat → Nat) (z1 : Int32) (o : Int32) (hG : F_J0_indexOf_1 z1 = some o) : Met l yJ0_indexOf_0f7a4 (.code yJ0_indexOf_0f7a4 cJ0_indexOf_0f7a4 2 (some .int) :: wA) ({ frames := 3, cells := 0, slots := 0, locals := 70 }) (va_Pc [.ref (ks 1), .int z1] (q_RE (dC, dI) [] [] (q_S ts ks kv (fun _ => False)))) (q_i o) 0 0 (fun _ => False) := by
  refine Met.ofW (cc := cJ0_indexOf_0f7a4) (maxL := 2) (ret := (some .int)) (by decide) rfl ?_
  intro p e s m args below meth c s₁ B hml hv
  obtain ⟨rfl, hP, hK, hE⟩ := hv
  have hx := B.exec
  have hb := B.bytes
  have hr := B.returns
  have hts := atoms_spec (ws := .code yJ0_indexOf_0f7a4 cJ0_indexOf_0f7a4 2 (some .int) :: wA) B.pre
  have hown : s.vm.findClass RJ0 = some m.cls := findClass_of_methodNamed B.named
  have hlocks := B.notSynchronized
  have hS : va_S (fun _ => False) s.heap s.heap [] := va_S.rf
  have hl := lv_entry ([.ref (ks 1), .int z1]) (n := 2) (Nat.le_of_ble_eq_true rfl)
  rw [lg_entry_eq]
  generalize (lg_sl ([.ref (ks 1), .int z1]) ++ List.replicate (2 - (lg_sl ([.ref (ks 1), .int z1])).length) Slot.unset).toArray = ls at hl ⊢
  have hl : lv_has ls 2 [(0, .ref (ks 1)), (1, .int z1)] := hl
  unfold F_J0_indexOf_1 at hG
  refine lv_aload_n hx hb dJ0_indexOf_0f7a4_0 rfl (lv_at hl 0 rfl) ?_
  refine lv_iload_n hx hb dJ0_indexOf_0f7a4_1 rfl (lv_at hl 1 rfl) ?_
  refine lv_iconst (v := 0) hx hb dJ0_indexOf_0f7a4_2 (by decide) ?_
  obtain ⟨o_1, r_2, hG⟩ := q_bi hG
  refine q_goi (v := o_1) (va_runV (As := [.int z1, .int 0]) (rest := []) ⟨hx, hb, hml, hown, hts⟩ (c_J0_indexOf2_1 l dC dI ts ks kv z1 0 o_1 r_2) (cwV 2 hts (q_gV m_209 m_210 m_211 m_196 m_212) rfl rfl rfl hdV_yJ0_indexOf_7cf53_2 ⟨Nat.le_of_ble_eq_true rfl, Nat.le_of_ble_eq_true rfl⟩) (q_preVEs hK hP (vk_recv (i := 1) (q_S_s hE) (by decide) hS) [] rfl [] rfl q_S_bl (q_S_give hE hS (fun _ h => h.elim))) rfl rfl hl.1 rfl (lv_room (Nat.le_of_ble_eq_true rfl)) dJ0_indexOf_0f7a4_3 ⟨Nat.le_of_ble_eq_true rfl, Nat.le_of_ble_eq_true rfl⟩) hP hS (fun H locs hP hS => ?_)
  obtain rfl := Option.some.inj hG
  exact W.iret (v := o_1) hx hb hr (fun t ht hW => ⟨⟨o_1, (), rfl, rfl, trivial⟩, hS.F ht⟩) hS.2.2 dJ0_indexOf_0f7a4_6

def F_J0_coder_2 : Option (Int32) := some (0)
set_option maxHeartbeats 4000000 in
set_option maxRecDepth 100000 in
theorem c_J0_coder_2 (l : Launch) (dC : Nat → ClassId) (dI : Nat → Nat → Nat) (ts : Nat → Nat) (ks : Nat → Nat) (kv : Nat → Nat) (o : Int32) (hG : F_J0_coder_2 = some o) : Met l yJ0_coder_7d493 (.code yJ0_coder_7d493 cJ0_coder_7d493 1 (some .byte) :: wA) ({ frames := 0, cells := 0, slots := 0, locals := 0 }) (va_Pc [.ref (ks 2)] (q_RE (dC, dI) [] [] (q_S ts ks kv (fun _ => False)))) (q_i o) 0 0 (fun _ => False) := by
  refine Met.ofW (cc := cJ0_coder_7d493) (maxL := 1) (ret := (some .byte)) (by decide) rfl ?_
  intro p e s m args below meth c s₁ B hml hv
  obtain ⟨rfl, hP, hK, hE⟩ := hv
  have hx := B.exec
  have hb := B.bytes
  have hr := B.returns
  have hts := atoms_spec (ws := .code yJ0_coder_7d493 cJ0_coder_7d493 1 (some .byte) :: wA) B.pre
  have hown : s.vm.findClass RJ0 = some m.cls := findClass_of_methodNamed B.named
  have hlocks := B.notSynchronized
  have hS : va_S (fun _ => False) s.heap s.heap [] := va_S.rf
  have hl := lv_entry ([.ref (ks 2)]) (n := 1) (Nat.le_of_ble_eq_true rfl)
  rw [lg_entry_eq]
  generalize (lg_sl ([.ref (ks 2)]) ++ List.replicate (1 - (lg_sl ([.ref (ks 2)])).length) Slot.unset).toArray = ls at hl ⊢
  have hl : lv_has ls 1 [(0, .ref (ks 2))] := hl
  unfold F_J0_coder_2 at hG
  refine va_gets hx hb (q_S_c hE) hS hown (hts (.fieldLink RJ0 38 "java/lang/String" "COMPACT_STRINGS" "Z") (List.mem_cons_of_mem _ m_203)) (fun _ h9 => h9) dJ0_coder_7d493_0 ?_
  refine lv_if_eq (tgt := 13) hx hb dJ0_coder_7d493_3 (by decide) (fun c_1 => ?_) (fun c_1 => ?_)
  · exact absurd c_1 (by decide)
  refine lv_aload_n hx hb dJ0_coder_7d493_6 rfl (lv_at hl 0 rfl) ?_
  refine vk_getf hx hb ((q_S_s hE).1 2 (by decide)).2.1 hS hown (hts (.fieldLink RJ0 15 "java/lang/String" "coder" "B") (List.mem_cons_of_mem _ m_204)) (fun _ h9 => h9) dJ0_coder_7d493_7 ?_
  refine lv_goto (tgt := 14) hx hb dJ0_coder_7d493_10 (by decide) ?_
  obtain rfl := Option.some.inj hG
  exact W.zret (v := 0) hx hb hr rfl (fun t ht hW => ⟨⟨0, (), rfl, rfl, trivial⟩, hS.F ht⟩) hS.2.2 dJ0_coder_7d493_14

def F_J0_isLatin1_2 : Option (Int32) := some (1)
set_option maxHeartbeats 4000000 in
set_option maxRecDepth 100000 in
theorem c_J0_isLatin1_2 (l : Launch) (dC : Nat → ClassId) (dI : Nat → Nat → Nat) (ts : Nat → Nat) (ks : Nat → Nat) (kv : Nat → Nat) (o : Int32) (hG : F_J0_isLatin1_2 = some o) : Met l yJ0_isLatin1_aae02 (.code yJ0_isLatin1_aae02 cJ0_isLatin1_aae02 1 (some .boolean) :: wA) ({ frames := 0, cells := 0, slots := 0, locals := 0 }) (va_Pc [.ref (ks 2)] (q_RE (dC, dI) [] [] (q_S ts ks kv (fun _ => False)))) (q_i o) 0 0 (fun _ => False) := by
  refine Met.ofW (cc := cJ0_isLatin1_aae02) (maxL := 1) (ret := (some .boolean)) (by decide) rfl ?_
  intro p e s m args below meth c s₁ B hml hv
  obtain ⟨rfl, hP, hK, hE⟩ := hv
  have hx := B.exec
  have hb := B.bytes
  have hr := B.returns
  have hts := atoms_spec (ws := .code yJ0_isLatin1_aae02 cJ0_isLatin1_aae02 1 (some .boolean) :: wA) B.pre
  have hown : s.vm.findClass RJ0 = some m.cls := findClass_of_methodNamed B.named
  have hlocks := B.notSynchronized
  have hS : va_S (fun _ => False) s.heap s.heap [] := va_S.rf
  have hl := lv_entry ([.ref (ks 2)]) (n := 1) (Nat.le_of_ble_eq_true rfl)
  rw [lg_entry_eq]
  generalize (lg_sl ([.ref (ks 2)]) ++ List.replicate (1 - (lg_sl ([.ref (ks 2)])).length) Slot.unset).toArray = ls at hl ⊢
  have hl : lv_has ls 1 [(0, .ref (ks 2))] := hl
  unfold F_J0_isLatin1_2 at hG
  refine va_gets hx hb (q_S_c hE) hS hown (hts (.fieldLink RJ0 38 "java/lang/String" "COMPACT_STRINGS" "Z") (List.mem_cons_of_mem _ m_203)) (fun _ h9 => h9) dJ0_isLatin1_aae02_0 ?_
  refine lv_if_eq (tgt := 17) hx hb dJ0_isLatin1_aae02_3 (by decide) (fun c_1 => ?_) (fun c_1 => ?_)
  · exact absurd c_1 (by decide)
  refine lv_aload_n hx hb dJ0_isLatin1_aae02_6 rfl (lv_at hl 0 rfl) ?_
  refine vk_getf hx hb ((q_S_s hE).1 2 (by decide)).2.1 hS hown (hts (.fieldLink RJ0 15 "java/lang/String" "coder" "B") (List.mem_cons_of_mem _ m_204)) (fun _ h9 => h9) dJ0_isLatin1_aae02_7 ?_
  refine lv_if_ne (tgt := 17) hx hb dJ0_isLatin1_aae02_10 (by decide) (fun c_2 => ?_) (fun c_2 => ?_)
  · exact absurd (by decide) c_2
  refine lv_iconst (v := 1) hx hb dJ0_isLatin1_aae02_13 (by decide) ?_
  refine lv_goto (tgt := 18) hx hb dJ0_isLatin1_aae02_14 (by decide) ?_
  obtain rfl := Option.some.inj hG
  exact W.zret (v := 1) hx hb hr rfl (fun t ht hW => ⟨⟨1, (), rfl, rfl, trivial⟩, hS.F ht⟩) hS.2.2 dJ0_isLatin1_aae02_18

def F_J0_length_2 : Option (Int32) := ((F_J0_coder_2).bind fun o_1 => some ((6 >>> (o_1 &&& 31))))
set_option maxHeartbeats 4000000 in
set_option maxRecDepth 100000 in
theorem c_J0_length_2 (l : Launch) (dC : Nat → ClassId) (dI : Nat → Nat → Nat) (ts : Nat → Nat) (ks : Nat → Nat) (kv : Nat → Nat) (o : Int32) (hG : F_J0_length_2 = some o) : Met l yJ0_length_8abf5 (.code yJ0_length_8abf5 cJ0_length_8abf5 1 (some .int) :: wA) ({ frames := 1, cells := 0, slots := 0, locals := 20 }) (va_Pc [.ref (ks 2)] (q_RE (dC, dI) [] [] (q_S ts ks kv (fun _ => False)))) (q_i o) 0 0 (fun _ => False) := by
  refine Met.ofW (cc := cJ0_length_8abf5) (maxL := 1) (ret := (some .int)) (by decide) rfl ?_
  intro p e s m args below meth c s₁ B hml hv
  obtain ⟨rfl, hP, hK, hE⟩ := hv
  have hx := B.exec
  have hb := B.bytes
  have hr := B.returns
  have hts := atoms_spec (ws := .code yJ0_length_8abf5 cJ0_length_8abf5 1 (some .int) :: wA) B.pre
  have hown : s.vm.findClass RJ0 = some m.cls := findClass_of_methodNamed B.named
  have hlocks := B.notSynchronized
  have hS : va_S (fun _ => False) s.heap s.heap [] := va_S.rf
  have hl := lv_entry ([.ref (ks 2)]) (n := 1) (Nat.le_of_ble_eq_true rfl)
  rw [lg_entry_eq]
  generalize (lg_sl ([.ref (ks 2)]) ++ List.replicate (1 - (lg_sl ([.ref (ks 2)])).length) Slot.unset).toArray = ls at hl ⊢
  have hl : lv_has ls 1 [(0, .ref (ks 2))] := hl
  unfold F_J0_length_2 at hG
  refine lv_aload_n hx hb dJ0_length_8abf5_0 rfl (lv_at hl 0 rfl) ?_
  refine vk_getf hx hb ((q_S_s hE).1 2 (by decide)).2.2.1 hS hown (hts (.fieldLink RJ0 9 "java/lang/String" "value" "[B") (List.mem_cons_of_mem _ m_198)) (fun _ h9 => h9) dJ0_length_8abf5_1 ?_
  refine va_tlen hx hb ((q_S_s hE).1 2 (by decide)).2.2.2 hS (v := 6) rfl dJ0_length_8abf5_4 ?_
  refine lv_aload_n hx hb dJ0_length_8abf5_5 rfl (lv_at hl 0 rfl) ?_
  obtain ⟨o_1, r_2, hG⟩ := q_bi hG
  refine q_goi (v := o_1) (va_runV (As := []) (rest := [.int 6]) ⟨hx, hb, hml, hown, hts⟩ (c_J0_coder_2 l dC dI ts ks kv o_1 r_2) (cwV 0 hts (q_gV m_199 m_200 m_201 m_196 m_202) rfl rfl rfl hdV_yJ0_coder_7d493_0 ⟨Nat.le_of_ble_eq_true rfl, Nat.le_of_ble_eq_true rfl⟩) (q_preVEs hK hP (vk_recv (i := 2) (q_S_s hE) (by decide) hS) [] rfl [] rfl q_S_bl (q_S_give hE hS (fun _ h => h.elim))) rfl rfl hl.1 rfl (lv_room (Nat.le_of_ble_eq_true rfl)) dJ0_length_8abf5_6 ⟨Nat.le_of_ble_eq_true rfl, Nat.le_of_ble_eq_true rfl⟩) hP hS (fun H locs hP hS => ?_)
  refine lv_ishr hx hb dJ0_length_8abf5_9 ?_
  obtain rfl := Option.some.inj hG
  exact W.iret (v := (6 >>> (o_1 &&& 31))) hx hb hr (fun t ht hW => ⟨⟨(6 >>> (o_1 &&& 31)), (), rfl, rfl, trivial⟩, hS.F ht⟩) hS.2.2 dJ0_length_8abf5_10

def FL_J1_indexOfChar_2_7 (z1 : Int32) (z2 : Int32) (z3 : Int32) : Nat → Int32 → Int32 → Option (Int32)
  | 0, _, _ => none
  | n + 1, x4_7, x5_7 => (if z3 ≤ x5_7 then some ((-1)) else (if x5_7 < 0 ∨ 6 ≤ (x5_7).toNatClampNeg then none else (if ((q_sb.getD 2 []).getD (x5_7).toNatClampNeg 0) = x4_7 then some (x5_7) else (FL_J1_indexOfChar_2_7 z1 z2 z3 n x4_7 (x5_7 + 1)))))

def F_J1_indexOfChar_2 (z1 : Int32) (z2 : Int32) (z3 : Int32) : Option (Int32) := (FL_J1_indexOfChar_2_7 z1 z2 z3 1000 ((z1 : Int32).toInt8.toInt32) z2)
set_option maxHeartbeats 4000000 in
set_option maxRecDepth 100000 in
theorem c_J1_indexOfChar_2 (l : Launch) (dC : Nat → ClassId) (dI : Nat → Nat → Nat) (ts : Nat → Nat) (ks : Nat → Nat) (kv : Nat → Nat) (z1 : Int32) (z2 : Int32) (z3 : Int32) (o : Int32) (hG : F_J1_indexOfChar_2 z1 z2 z3 = some o) : Met l yJ1_indexOfChar_4cfef (.code yJ1_indexOfChar_4cfef cJ1_indexOfChar_4cfef 6 (some .int) :: wA) ({ frames := 0, cells := 0, slots := 0, locals := 0 }) (va_Pc [.ref (kv 2), .int z1, .int z2, .int z3] (q_RE (dC, dI) [] [] (q_S ts ks kv (fun _ => False)))) (q_i o) 0 0 (fun _ => False) := by
  refine Met.ofW (cc := cJ1_indexOfChar_4cfef) (maxL := 6) (ret := (some .int)) (by decide) rfl ?_
  intro p e s m args below meth c s₁ B hml hv
  obtain ⟨rfl, hP, hK, hE⟩ := hv
  have hx := B.exec
  have hb := B.bytes
  have hr := B.returns
  have hts := atoms_spec (ws := .code yJ1_indexOfChar_4cfef cJ1_indexOfChar_4cfef 6 (some .int) :: wA) B.pre
  have hown : s.vm.findClass RJ1 = some m.cls := findClass_of_methodNamed B.named
  have hlocks := B.notSynchronized
  have hS : va_S (fun _ => False) s.heap s.heap [] := va_S.rf
  have hl := lv_entry ([.ref (kv 2), .int z1, .int z2, .int z3]) (n := 6) (Nat.le_of_ble_eq_true rfl)
  rw [lg_entry_eq]
  generalize (lg_sl ([.ref (kv 2), .int z1, .int z2, .int z3]) ++ List.replicate (6 - (lg_sl ([.ref (kv 2), .int z1, .int z2, .int z3])).length) Slot.unset).toArray = ls at hl ⊢
  have hl : lv_has ls 6 [(0, .ref (kv 2)), (1, .int z1), (2, .int z2), (3, .int z3)] := hl
  unfold F_J1_indexOfChar_2 at hG
  refine lv_iload_n hx hb dJ1_indexOfChar_4cfef_0 rfl (lv_at hl 1 rfl) ?_
  refine lv_i2b hx hb dJ1_indexOfChar_4cfef_1 rfl ?_
  refine lv_istore (lv' := [(4, .int ((z1 : Int32).toInt8.toInt32)), (0, .ref (kv 2)), (1, .int z1), (2, .int z2), (3, .int z3)]) hx hb dJ1_indexOfChar_4cfef_2 hl (by decide) rfl (fun ls hl => ?_)
  refine lv_iload_n hx hb dJ1_indexOfChar_4cfef_4 rfl (lv_at hl 3 rfl) ?_
  refine lv_istore (lv' := [(5, .int z2), (4, .int ((z1 : Int32).toInt8.toInt32)), (0, .ref (kv 2)), (1, .int z1), (2, .int z2), (3, .int z3)]) hx hb dJ1_indexOfChar_4cfef_5 hl (by decide) rfl (fun ls hl => ?_)
  have L_7 : ∀ (n_7 : Nat) (x4_7 : Int32) (x5_7 : Int32) (H : Heap) (locs : List Loc) (ls : Array Slot), FL_J1_indexOfChar_2_7 z1 z2 z3 n_7 x4_7 x5_7 = some o → va_P (dC, dI) vwCl [] H → va_S (fun _ => False) s.heap H locs → lv_has ls 6 [(5, .int x5_7), (4, .int x4_7), (0, .ref (kv 2)), (1, .int z1), (2, .int z2), (3, .int z3)] → W p l e (headSpec (.code yJ1_indexOfChar_4cfef cJ1_indexOfChar_4cfef 6 (some .int) :: wA) ({ frames := 0, cells := 0, slots := 0, locals := 0 })).room s m #[.ref (kv 2), .int z1, .int z2, .int z3] below meth c H locs 0 0 (MQ below (q_i o) #[.ref (kv 2), .int z1, .int z2, .int z3] s 0 0 (fun _ => False)) (F0 m 7 ls []) := by
    intro n_7
    induction n_7 with
    | zero =>
      intro x4_7 x5_7 H locs ls hG
      exact q_no hG
    | succ n_7 ih_7 =>
      intro x4_7 x5_7 H locs ls hG hP hS hl
      unfold FL_J1_indexOfChar_2_7 at hG
      refine lv_iload hx hb dJ1_indexOfChar_4cfef_7 (lv_at hl 0 rfl) ?_
      refine lv_iload_n hx hb dJ1_indexOfChar_4cfef_9 rfl (lv_at hl 5 rfl) ?_
      refine lv_icmp_ge (tgt := 31) hx hb dJ1_indexOfChar_4cfef_10 (by decide) (fun c_1 => ?_) (fun c_1 => ?_)
      · have hG := q_ifp c_1 hG
        refine lv_iconst (v := (-1)) hx hb dJ1_indexOfChar_4cfef_31 (by decide) ?_
        obtain rfl := Option.some.inj hG
        exact W.iret (v := (-1)) hx hb hr (fun t ht hW => ⟨⟨(-1), (), rfl, rfl, trivial⟩, hS.F ht⟩) hS.2.2 dJ1_indexOfChar_4cfef_32
      · have hG := q_ifn c_1 hG
        refine lv_aload_n hx hb dJ1_indexOfChar_4cfef_13 rfl (lv_at hl 2 rfl) ?_
        refine lv_iload hx hb dJ1_indexOfChar_4cfef_14 (lv_at hl 0 rfl) ?_
        obtain ⟨h_2, hG⟩ := q_ix hG
        refine va_tb hx hb ((q_S_s hE).1 2 (by decide)).2.2.2 hS (i := x5_7) h_2 (v := .int ((q_sb.getD 2 []).getD (x5_7).toNatClampNeg 0)) rfl dJ1_indexOfChar_4cfef_16 ?_
        refine lv_iload hx hb dJ1_indexOfChar_4cfef_17 (lv_at hl 1 rfl) ?_
        refine lv_icmp_ne (tgt := 25) hx hb dJ1_indexOfChar_4cfef_19 (by decide) (fun c_3 => ?_) (fun c_3 => ?_)
        · have hG := q_ifn c_3 hG
          refine lv_iinc (v := (x5_7 + 1)) (lv' := [(5, .int (x5_7 + 1)), (4, .int x4_7), (0, .ref (kv 2)), (1, .int z1), (2, .int z2), (3, .int z3)]) hx hb dJ1_indexOfChar_4cfef_25 hl (k := 0) rfl (rfl) (by decide) rfl (fun ls hl => ?_)
          refine lv_goto (tgt := 7) hx hb dJ1_indexOfChar_4cfef_28 (by decide) ?_
          exact ih_7 x4_7 (x5_7 + 1) H locs ls hG hP hS (lv_sub hl [0, 1, 2, 3, 4, 5] rfl)
        · have hG := q_ifp c_3 hG
          refine lv_iload hx hb dJ1_indexOfChar_4cfef_22 (lv_at hl 0 rfl) ?_
          obtain rfl := Option.some.inj hG
          exact W.iret (v := x5_7) hx hb hr (fun t ht hW => ⟨⟨x5_7, (), rfl, rfl, trivial⟩, hS.F ht⟩) hS.2.2 dJ1_indexOfChar_4cfef_24
  exact L_7 1000 ((z1 : Int32).toInt8.toInt32) z2 s.heap [] ls hG hP hS hl

def F_J1_indexOf_2 (z1 : Int32) (z2 : Int32) (z3 : Int32) : Option (Int32) := ((F_J1_canEncode_9a6ad z1).bind fun o_1 => (if o_1 = 0 then some ((-1)) else (if (if z2 < 0 then 0 else z2) < (if 6 < z3 then 6 else z3) then ((F_J1_indexOfChar_2 z1 (if z2 < 0 then 0 else z2) (if 6 < z3 then 6 else z3)).bind fun o_5 => some (o_5)) else some ((-1)))))
set_option maxHeartbeats 4000000 in
set_option maxRecDepth 100000 in
theorem c_J1_indexOf_2 (l : Launch) (dC : Nat → ClassId) (dI : Nat → Nat → Nat) (ts : Nat → Nat) (ks : Nat → Nat) (kv : Nat → Nat) (z1 : Int32) (z2 : Int32) (z3 : Int32) (o : Int32) (hG : F_J1_indexOf_2 z1 z2 z3 = some o) : Met l yJ1_indexOf_4cfef (.code yJ1_indexOf_4cfef cJ1_indexOf_4cfef 4 (some .int) :: wA) ({ frames := 1, cells := 0, slots := 0, locals := 25 }) (va_Pc [.ref (kv 2), .int z1, .int z2, .int z3] (q_RE (dC, dI) [] [] (q_S ts ks kv (fun _ => False)))) (q_i o) 0 0 (fun _ => False) := by
  refine Met.ofW (cc := cJ1_indexOf_4cfef) (maxL := 4) (ret := (some .int)) (by decide) rfl ?_
  intro p e s m args below meth c s₁ B hml hv
  obtain ⟨rfl, hP, hK, hE⟩ := hv
  have hx := B.exec
  have hb := B.bytes
  have hr := B.returns
  have hts := atoms_spec (ws := .code yJ1_indexOf_4cfef cJ1_indexOf_4cfef 4 (some .int) :: wA) B.pre
  have hown : s.vm.findClass RJ1 = some m.cls := findClass_of_methodNamed B.named
  have hlocks := B.notSynchronized
  have hS : va_S (fun _ => False) s.heap s.heap [] := va_S.rf
  have hl := lv_entry ([.ref (kv 2), .int z1, .int z2, .int z3]) (n := 4) (Nat.le_of_ble_eq_true rfl)
  rw [lg_entry_eq]
  generalize (lg_sl ([.ref (kv 2), .int z1, .int z2, .int z3]) ++ List.replicate (4 - (lg_sl ([.ref (kv 2), .int z1, .int z2, .int z3])).length) Slot.unset).toArray = ls at hl ⊢
  have hl : lv_has ls 4 [(0, .ref (kv 2)), (1, .int z1), (2, .int z2), (3, .int z3)] := hl
  unfold F_J1_indexOf_2 at hG
  refine lv_iload_n hx hb dJ1_indexOf_4cfef_0 rfl (lv_at hl 1 rfl) ?_
  obtain ⟨o_1, r_2, hG⟩ := q_bi hG
  refine q_goi (v := o_1) (va_runS (As := [.int z1]) (rest := []) ⟨hx, hb, hml, hown, hts⟩ (c_J1_canEncode_9a6ad l dC dI z1 o_1 r_2) (va_cwS 1 hts (q_gS m_229 m_230 m_220 m_231) rfl rfl rfl hdS_yJ1_canEncode_9a6ad_1 ⟨Nat.le_of_ble_eq_true rfl, Nat.le_of_ble_eq_true rfl⟩) (q_preS hK hP [] rfl [] rfl) rfl rfl hl.1 rfl (lv_room (Nat.le_of_ble_eq_true rfl)) dJ1_indexOf_4cfef_1 ⟨Nat.le_of_ble_eq_true rfl, Nat.le_of_ble_eq_true rfl⟩) hP hS (fun H locs hP hS => ?_)
  refine lv_if_ne (tgt := 9) hx hb dJ1_indexOf_4cfef_4 (by decide) (fun c_3 => ?_) (fun c_3 => ?_)
  · have hG := q_ifn c_3 hG
    refine lv_iload_n hx hb dJ1_indexOf_4cfef_9 rfl (lv_at hl 2 rfl) ?_
    refine lv_iconst (v := 0) hx hb dJ1_indexOf_4cfef_10 (by decide) ?_
    refine va_mmax hx hb (by rw [hml, hl.1]) hown (hts (.methodLink RJ1 92 Lib.Math.max.name) (List.mem_cons_of_mem _ m_222)) (hts (.static Lib.Math.max.name) (List.mem_cons_of_mem _ m_223)) (hts (.initialized "java/lang/Math") (List.mem_cons_of_mem _ m_224)) (hts (.code Lib.Math.max.name Lib.Math.max.code 2 (some .int)) (List.mem_cons_of_mem _ m_225)) (Nat.le_of_ble_eq_true rfl) (Nat.le_of_ble_eq_true rfl) (Nat.zero_le _) (Nat.zero_le _) dJ1_indexOf_4cfef_11 ?_
    refine lv_istore_n (lv' := [(2, .int (if z2 < 0 then 0 else z2)), (0, .ref (kv 2)), (1, .int z1), (3, .int z3)]) hx hb dJ1_indexOf_4cfef_14 rfl hl (by decide) rfl (fun ls hl => ?_)
    refine lv_iload_n hx hb dJ1_indexOf_4cfef_15 rfl (lv_at hl 3 rfl) ?_
    refine lv_aload_n hx hb dJ1_indexOf_4cfef_16 rfl (lv_at hl 1 rfl) ?_
    refine va_tlen hx hb ((q_S_s hE).1 2 (by decide)).2.2.2 hS (v := 6) rfl dJ1_indexOf_4cfef_17 ?_
    refine va_mmin hx hb (by rw [hml, hl.1]) hown (hts (.methodLink RJ1 38 Lib.Math.min.name) (List.mem_cons_of_mem _ m_226)) (hts (.static Lib.Math.min.name) (List.mem_cons_of_mem _ m_227)) (hts (.initialized "java/lang/Math") (List.mem_cons_of_mem _ m_224)) (hts (.code Lib.Math.min.name Lib.Math.min.code 2 (some .int)) (List.mem_cons_of_mem _ m_228)) (Nat.le_of_ble_eq_true rfl) (Nat.le_of_ble_eq_true rfl) (Nat.zero_le _) (Nat.zero_le _) dJ1_indexOf_4cfef_18 ?_
    refine lv_istore_n (lv' := [(3, .int (if 6 < z3 then 6 else z3)), (2, .int (if z2 < 0 then 0 else z2)), (0, .ref (kv 2)), (1, .int z1)]) hx hb dJ1_indexOf_4cfef_21 rfl hl (by decide) rfl (fun ls hl => ?_)
    refine lv_iload_n hx hb dJ1_indexOf_4cfef_22 rfl (lv_at hl 1 rfl) ?_
    refine lv_iload_n hx hb dJ1_indexOf_4cfef_23 rfl (lv_at hl 0 rfl) ?_
    refine lv_icmp_lt (tgt := 29) hx hb dJ1_indexOf_4cfef_24 (by decide) (fun c_4 => ?_) (fun c_4 => ?_)
    · have hG := q_ifp c_4 hG
      refine lv_aload_n hx hb dJ1_indexOf_4cfef_29 rfl (lv_at hl 2 rfl) ?_
      refine lv_iload_n hx hb dJ1_indexOf_4cfef_30 rfl (lv_at hl 3 rfl) ?_
      refine lv_iload_n hx hb dJ1_indexOf_4cfef_31 rfl (lv_at hl 1 rfl) ?_
      refine lv_iload_n hx hb dJ1_indexOf_4cfef_32 rfl (lv_at hl 0 rfl) ?_
      obtain ⟨o_5, r_6, hG⟩ := q_bi hG
      refine q_goi (v := o_5) (va_runS (As := [.ref (kv 2), .int z1, .int (if z2 < 0 then 0 else z2), .int (if 6 < z3 then 6 else z3)]) (rest := []) ⟨hx, hb, hml, hown, hts⟩ (c_J1_indexOfChar_2 l dC dI ts ks kv z1 (if z2 < 0 then 0 else z2) (if 6 < z3 then 6 else z3) o_5 r_6) (va_cwS 4 hts (q_gS m_232 m_233 m_220 m_234) rfl rfl rfl hdS_yJ1_indexOfChar_4cfef_4 ⟨Nat.le_of_ble_eq_true rfl, Nat.le_of_ble_eq_true rfl⟩) (q_preSE hK hP [] rfl [] rfl q_S_bl (q_S_give hE hS (fun _ h => h.elim))) rfl rfl hl.1 rfl (lv_room (Nat.le_of_ble_eq_true rfl)) dJ1_indexOf_4cfef_33 ⟨Nat.le_of_ble_eq_true rfl, Nat.le_of_ble_eq_true rfl⟩) hP hS (fun H locs hP hS => ?_)
      obtain rfl := Option.some.inj hG
      exact W.iret (v := o_5) hx hb hr (fun t ht hW => ⟨⟨o_5, (), rfl, rfl, trivial⟩, hS.F ht⟩) hS.2.2 dJ1_indexOf_4cfef_36
    · have hG := q_ifn c_4 hG
      refine lv_iconst (v := (-1)) hx hb dJ1_indexOf_4cfef_27 (by decide) ?_
      obtain rfl := Option.some.inj hG
      exact W.iret (v := (-1)) hx hb hr (fun t ht hW => ⟨⟨(-1), (), rfl, rfl, trivial⟩, hS.F ht⟩) hS.2.2 dJ1_indexOf_4cfef_28
  · have hG := q_ifp c_3 hG
    refine lv_iconst (v := (-1)) hx hb dJ1_indexOf_4cfef_7 (by decide) ?_
    obtain rfl := Option.some.inj hG
    exact W.iret (v := (-1)) hx hb hr (fun t ht hW => ⟨⟨(-1), (), rfl, rfl, trivial⟩, hS.F ht⟩) hS.2.2 dJ1_indexOf_4cfef_8

def F_J0_indexOf2_2 (z1 : Int32) (z2 : Int32) : Option (Int32) := ((F_J0_isLatin1_2).bind fun o_1 => (if o_1 = 0 then none else ((F_J0_length_2).bind fun o_4 => ((F_J1_indexOf_2 z1 z2 o_4).bind fun o_6 => some (o_6)))))
set_option maxHeartbeats 4000000 in
set_option maxRecDepth 100000 in
theorem c_J0_indexOf2_2 (l : Launch) (dC : Nat → ClassId) (dI : Nat → Nat → Nat) (ts : Nat → Nat) (ks : Nat → Nat) (kv : Nat → Nat) (z1 : Int32) (z2 : Int32) (o : Int32) (hG : F_J0_indexOf2_2 z1 z2 = some o) : Met l yJ0_indexOf_7cf53 (.code yJ0_indexOf_7cf53 cJ0_indexOf_7cf53 3 (some .int) :: wA) ({ frames := 2, cells := 0, slots := 0, locals := 48 }) (va_Pc [.ref (ks 2), .int z1, .int z2] (q_RE (dC, dI) [] [] (q_S ts ks kv (fun _ => False)))) (q_i o) 0 0 (fun _ => False) := by
  refine Met.ofW (cc := cJ0_indexOf_7cf53) (maxL := 3) (ret := (some .int)) (by decide) rfl ?_
  intro p e s m args below meth c s₁ B hml hv
  obtain ⟨rfl, hP, hK, hE⟩ := hv
  have hx := B.exec
  have hb := B.bytes
  have hr := B.returns
  have hts := atoms_spec (ws := .code yJ0_indexOf_7cf53 cJ0_indexOf_7cf53 3 (some .int) :: wA) B.pre
  have hown : s.vm.findClass RJ0 = some m.cls := findClass_of_methodNamed B.named
  have hlocks := B.notSynchronized
  have hS : va_S (fun _ => False) s.heap s.heap [] := va_S.rf
  have hl := lv_entry ([.ref (ks 2), .int z1, .int z2]) (n := 3) (Nat.le_of_ble_eq_true rfl)
  rw [lg_entry_eq]
  generalize (lg_sl ([.ref (ks 2), .int z1, .int z2]) ++ List.replicate (3 - (lg_sl ([.ref (ks 2), .int z1, .int z2])).length) Slot.unset).toArray = ls at hl ⊢
  have hl : lv_has ls 3 [(0, .ref (ks 2)), (1, .int z1), (2, .int z2)] := hl
  unfold F_J0_indexOf2_2 at hG
  refine lv_aload_n hx hb dJ0_indexOf_7cf53_0 rfl (lv_at hl 0 rfl) ?_
  obtain ⟨o_1, r_2, hG⟩ := q_bi hG
  refine q_goi (v := o_1) (va_runV (As := []) (rest := []) ⟨hx, hb, hml, hown, hts⟩ (c_J0_isLatin1_2 l dC dI ts ks kv o_1 r_2) (cwV 0 hts (q_gV m_213 m_214 m_215 m_196 m_216) rfl rfl rfl hdV_yJ0_isLatin1_aae02_0 ⟨Nat.le_of_ble_eq_true rfl, Nat.le_of_ble_eq_true rfl⟩) (q_preVEs hK hP (vk_recv (i := 2) (q_S_s hE) (by decide) hS) [] rfl [] rfl q_S_bl (q_S_give hE hS (fun _ h => h.elim))) rfl rfl hl.1 rfl (lv_room (Nat.le_of_ble_eq_true rfl)) dJ0_indexOf_7cf53_1 ⟨Nat.le_of_ble_eq_true rfl, Nat.le_of_ble_eq_true rfl⟩) hP hS (fun H locs hP hS => ?_)
  refine lv_if_eq (tgt := 23) hx hb dJ0_indexOf_7cf53_4 (by decide) (fun c_3 => ?_) (fun c_3 => ?_)
  · have hG := q_ifp c_3 hG
    exact q_no hG
  · have hG := q_ifn c_3 hG
    refine lv_aload_n hx hb dJ0_indexOf_7cf53_7 rfl (lv_at hl 0 rfl) ?_
    refine vk_getf hx hb ((q_S_s hE).1 2 (by decide)).2.2.1 hS hown (hts (.fieldLink RJ0 9 "java/lang/String" "value" "[B") (List.mem_cons_of_mem _ m_198)) (fun _ h9 => h9) dJ0_indexOf_7cf53_8 ?_
    refine lv_iload_n hx hb dJ0_indexOf_7cf53_11 rfl (lv_at hl 1 rfl) ?_
    refine lv_iload_n hx hb dJ0_indexOf_7cf53_12 rfl (lv_at hl 2 rfl) ?_
    refine lv_aload_n hx hb dJ0_indexOf_7cf53_13 rfl (lv_at hl 0 rfl) ?_
    obtain ⟨o_4, r_5, hG⟩ := q_bi hG
    refine q_goi (v := o_4) (va_runV (As := []) (rest := [.int z2, .int z1, .ref (kv 2)]) ⟨hx, hb, hml, hown, hts⟩ (c_J0_length_2 l dC dI ts ks kv o_4 r_5) (cwV 0 hts (q_gV m_217 m_194 m_195 m_196 m_197) rfl rfl rfl hdV_yJ0_length_8abf5_0 ⟨Nat.le_of_ble_eq_true rfl, Nat.le_of_ble_eq_true rfl⟩) (q_preVEs hK hP (vk_recv (i := 2) (q_S_s hE) (by decide) hS) [] rfl [] rfl q_S_bl (q_S_give hE hS (fun _ h => h.elim))) rfl rfl hl.1 rfl (lv_room (Nat.le_of_ble_eq_true rfl)) dJ0_indexOf_7cf53_14 ⟨Nat.le_of_ble_eq_true rfl, Nat.le_of_ble_eq_true rfl⟩) hP hS (fun H locs hP hS => ?_)
    obtain ⟨o_6, r_7, hG⟩ := q_bi hG
    refine q_goi (v := o_6) (va_runS (As := [.ref (kv 2), .int z1, .int z2, .int o_4]) (rest := []) ⟨hx, hb, hml, hown, hts⟩ (c_J1_indexOf_2 l dC dI ts ks kv z1 z2 o_4 o_6 r_7) (va_cwS 4 hts (q_gS m_218 m_219 m_220 m_221) rfl rfl rfl hdS_yJ1_indexOf_4cfef_4 ⟨Nat.le_of_ble_eq_true rfl, Nat.le_of_ble_eq_true rfl⟩) (q_preSE hK hP [] rfl [] rfl q_S_bl (q_S_give hE hS (fun _ h => h.elim))) rfl rfl hl.1 rfl (lv_room (Nat.le_of_ble_eq_true rfl)) dJ0_indexOf_7cf53_17 ⟨Nat.le_of_ble_eq_true rfl, Nat.le_of_ble_eq_true rfl⟩) hP hS (fun H locs hP hS => ?_)
    refine lv_goto (tgt := 36) hx hb dJ0_indexOf_7cf53_20 (by decide) ?_
    obtain rfl := Option.some.inj hG
    exact W.iret (v := o_6) hx hb hr (fun t ht hW => ⟨⟨o_6, (), rfl, rfl, trivial⟩, hS.F ht⟩) hS.2.2 dJ0_indexOf_7cf53_36

def F_J0_indexOf_2 (z1 : Int32) : Option (Int32) := ((F_J0_indexOf2_2 z1 0).bind fun o_1 => some (o_1))
set_option maxHeartbeats 4000000 in
set_option maxRecDepth 100000 in
theorem c_J0_indexOf_2 (l : Launch) (dC : Nat → ClassId) (dI : Nat → Nat → Nat) (ts : Nat → Nat) (ks : Nat → Nat) (kv : Nat → Nat) (z1 : Int32) (o : Int32) (hG : F_J0_indexOf_2 z1 = some o) : Met l yJ0_indexOf_0f7a4 (.code yJ0_indexOf_0f7a4 cJ0_indexOf_0f7a4 2 (some .int) :: wA) ({ frames := 3, cells := 0, slots := 0, locals := 70 }) (va_Pc [.ref (ks 2), .int z1] (q_RE (dC, dI) [] [] (q_S ts ks kv (fun _ => False)))) (q_i o) 0 0 (fun _ => False) := by
  refine Met.ofW (cc := cJ0_indexOf_0f7a4) (maxL := 2) (ret := (some .int)) (by decide) rfl ?_
  intro p e s m args below meth c s₁ B hml hv
  obtain ⟨rfl, hP, hK, hE⟩ := hv
  have hx := B.exec
  have hb := B.bytes
  have hr := B.returns
  have hts := atoms_spec (ws := .code yJ0_indexOf_0f7a4 cJ0_indexOf_0f7a4 2 (some .int) :: wA) B.pre
  have hown : s.vm.findClass RJ0 = some m.cls := findClass_of_methodNamed B.named
  have hlocks := B.notSynchronized
  have hS : va_S (fun _ => False) s.heap s.heap [] := va_S.rf
  have hl := lv_entry ([.ref (ks 2), .int z1]) (n := 2) (Nat.le_of_ble_eq_true rfl)
  rw [lg_entry_eq]
  generalize (lg_sl ([.ref (ks 2), .int z1]) ++ List.replicate (2 - (lg_sl ([.ref (ks 2), .int z1])).length) Slot.unset).toArray = ls at hl ⊢
  have hl : lv_has ls 2 [(0, .ref (ks 2)), (1, .int z1)] := hl
  unfold F_J0_indexOf_2 at hG
  refine lv_aload_n hx hb dJ0_indexOf_0f7a4_0 rfl (lv_at hl 0 rfl) ?_
  refine lv_iload_n hx hb dJ0_indexOf_0f7a4_1 rfl (lv_at hl 1 rfl) ?_
  refine lv_iconst (v := 0) hx hb dJ0_indexOf_0f7a4_2 (by decide) ?_
  obtain ⟨o_1, r_2, hG⟩ := q_bi hG
  refine q_goi (v := o_1) (va_runV (As := [.int z1, .int 0]) (rest := []) ⟨hx, hb, hml, hown, hts⟩ (c_J0_indexOf2_2 l dC dI ts ks kv z1 0 o_1 r_2) (cwV 2 hts (q_gV m_209 m_210 m_211 m_196 m_212) rfl rfl rfl hdV_yJ0_indexOf_7cf53_2 ⟨Nat.le_of_ble_eq_true rfl, Nat.le_of_ble_eq_true rfl⟩) (q_preVEs hK hP (vk_recv (i := 2) (q_S_s hE) (by decide) hS) [] rfl [] rfl q_S_bl (q_S_give hE hS (fun _ h => h.elim))) rfl rfl hl.1 rfl (lv_room (Nat.le_of_ble_eq_true rfl)) dJ0_indexOf_0f7a4_3 ⟨Nat.le_of_ble_eq_true rfl, Nat.le_of_ble_eq_true rfl⟩) hP hS (fun H locs hP hS => ?_)
  obtain rfl := Option.some.inj hG
  exact W.iret (v := o_1) hx hb hr (fun t ht hW => ⟨⟨o_1, (), rfl, rfl, trivial⟩, hS.F ht⟩) hS.2.2 dJ0_indexOf_0f7a4_6

def F_X5_clear (fu : Nat → Int32) : Option ((Nat → Int32) × Int32) := some ((va_cpy (q_tab 2) fu 0 0 8), 0)
set_option maxHeartbeats 4000000 in
set_option maxRecDepth 100000 in
theorem c_X5_clear (l : Launch) (dC : Nat → ClassId) (dI : Nat → Nat → Nat) (ts : Nat → Nat) (ks : Nat → Nat) (kv : Nat → Nat) (h : Nat) (r1 : Nat) (r2 : Nat) (dv : Int32) (c1 : ClassId) (fu : Nat → Int32) (A : Nat → Prop) (o : (Nat → Int32) × Int32) (hG : F_X5_clear fu = some o) : Met l yX5_clear (.code yX5_clear cX5_clear 1 none :: wA) ({ frames := 1, cells := 0, slots := 0, locals := 60 }) (va_Pc [.ref h] (q_WE (dC, dI) A [(h, .inr (5, [.ref r1, .ref r2, .int dv])), (r1, .inl (c1, 8, .inl fu))] [(c1, .int)] (q_S ts ks kv A))) (va_Qv (fun _ : Unit => True) (fun (_ : Unit) t => q_B (dC, dI) A [(h, .inr (5, [.ref r1, .ref r2, .int (o.2)])), (r1, .inl (c1, 8, .inl (o.1)))] [(c1, .int)] t) A) 0 0 A := by
  refine Met.ofW (cc := cX5_clear) (maxL := 1) (ret := none) (by decide) rfl ?_
  intro p e s m args below meth c s₁ B hml hv
  obtain ⟨rfl, hP, hK, hD, hA, hE⟩ := hv
  have hx := B.exec
  have hb := B.bytes
  have hr := B.returns
  have hts := atoms_spec (ws := .code yX5_clear cX5_clear 1 none :: wA) B.pre
  have hown : s.vm.findClass RX5 = some m.cls := findClass_of_methodNamed B.named
  have hlocks := B.notSynchronized
  have hS : va_S A s.heap s.heap [] := va_S.rf
  have hl := lv_entry ([.ref h]) (n := 1) (Nat.le_of_ble_eq_true rfl)
  rw [lg_entry_eq]
  generalize (lg_sl ([.ref h]) ++ List.replicate (1 - (lg_sl ([.ref h])).length) Slot.unset).toArray = ls at hl ⊢
  have hl : lv_has ls 1 [(0, .ref h)] := hl
  unfold F_X5_clear at hG
  refine va_getsN hx hb (q_S_t hE 2 (by decide)).1 hS hown (va_Nw.use rfl (q_S_l2 hE)) (fun _ h9 => h9) dX5_clear_0 ?_
  refine lv_iconst (v := 0) hx hb dX5_clear_3 (by decide) ?_
  refine lv_aload_n hx hb dX5_clear_4 rfl (lv_at hl 0 rfl) ?_
  refine va_get (D := (dC, dI)) (ci := 5) (v := .ref r1) (C := RX5) (T := TX5) (N := 3) hx hb hts iA_5 hown hK hP 0 rfl rfl 0 (by decide) (hts (.fieldLink RX5 9 "HubTree$Plan" "rules" "[I") (List.mem_cons_of_mem _ m_73)) (fun _ h9 => h9) rfl dX5_clear_5 ?_
  refine lv_iconst (v := 0) hx hb dX5_clear_8 (by decide) ?_
  refine lv_bipush (v := 8) hx hb dX5_clear_9 (by decide) ?_
  refine q_copyt hx hb (by rw [hml, hl.1]) hown (hts (.methodLink RX5 25 arraycopyName) (List.mem_cons_of_mem _ m_176)) (hts (.native arraycopyName) (List.mem_cons_of_mem _ m_177)) (hts (.static arraycopyName) (List.mem_cons_of_mem _ m_178)) (hts (.initialized "java/lang/System") (List.mem_cons_of_mem _ m_179)) hK hP hD hS (q_S_t hE 2 (by decide)).2 1 0 rfl rfl (by decide) (by decide) (by decide) (by decide) (by decide) (Nat.le_of_ble_eq_true rfl) (Nat.le_of_ble_eq_true rfl) dX5_clear_11 (fun H locs hP hD hS => ?_)
  have hP : va_P (dC, dI) vwCl [(h, .inr (5, [.ref r1, .ref r2, .int dv])), (r1, .inl (c1, 8, .inl (va_cpy (q_tab 2) fu 0 0 8)))] H := hP
  have hD : va_D A [(h, .inr (5, [.ref r1, .ref r2, .int dv])), (r1, .inl (c1, 8, .inl (va_cpy (q_tab 2) fu 0 0 8)))] := hD
  refine lv_aload_n hx hb dX5_clear_14 rfl (lv_at hl 0 rfl) ?_
  refine lv_iconst (v := 0) hx hb dX5_clear_15 (by decide) ?_
  refine va_put (D := (dC, dI)) (ci := 5) (v := .int 0) (ty := .int) (C := RX5) (T := TX5) (N := 3) hx hb hts iA_5 tyX5 tyX5_ok nmX5 hown hK hP hD hS 0 rfl rfl 2 (by decide) (hts (.fieldLink RX5 18 "HubTree$Plan" "devices" "I") (List.mem_cons_of_mem _ m_75)) (fun _ h9 => h9) rfl (by decide +kernel) rfl rfl (Nat.le_of_ble_eq_true rfl) dX5_clear_16 (fun H locs hP hD hS => ?_)
  have hP : va_P (dC, dI) vwCl [(h, .inr (5, [.ref r1, .ref r2, .int 0])), (r1, .inl (c1, 8, .inl (va_cpy (q_tab 2) fu 0 0 8)))] H := hP
  have hD : va_D A [(h, .inr (5, [.ref r1, .ref r2, .int 0])), (r1, .inl (c1, 8, .inl (va_cpy (q_tab 2) fu 0 0 8)))] := hD
  obtain rfl := Option.some.inj hG
  have hP9 := hP.sub (ws' := [(h, .inr (5, [.ref r1, .ref r2, .int 0])), (r1, .inl (c1, 8, .inl (va_cpy (q_tab 2) fu 0 0 8)))]) [0, 1] rfl
  have hD9 := hD.sub (ws' := [(h, .inr (5, [.ref r1, .ref r2, .int 0])), (r1, .inl (c1, 8, .inl (va_cpy (q_tab 2) fu 0 0 8)))]) [0, 1] (by decide) rfl
  have hK9 := hK.sub (tys' := [(c1, .int)]) [0] rfl
  exact W.vret hx hb hr (fun t ht hW => ⟨⟨(), rfl, trivial, by rw [ht]; exact hP9, va_K.moved hW.alike hK9, hD9⟩, hS.F ht⟩) hS.2.2 dX5_clear_19

def FL_X5_addDevice_11 (dv : Int32) (fp : Nat → Int32) : Nat → Int32 → (Int32) → (Nat → Int32) → Option (Int32 × (Nat → Int32))
  | 0, _, _, _ => none
  | n + 1, x1_11, dv_c, fp_c => (if 6 ≤ x1_11 then some ((dv_c + 1), fp_c) else (if x1_11 < 0 ∨ 6 ≤ (x1_11).toNatClampNeg then none else (if ((x1_11 * 8) + dv_c) < 0 ∨ 48 ≤ (((x1_11 * 8) + dv_c)).toNatClampNeg then none else (FL_X5_addDevice_11 dv fp n (x1_11 + 1) dv_c (upd fp_c ((x1_11 * 8) + dv_c).toNatClampNeg (q_tab 5 (x1_11 : Int32).toNatClampNeg))))))

def F_X5_addDevice (dv : Int32) (fp : Nat → Int32) : Option (Int32 × (Nat → Int32)) := (if 8 ≤ dv then some (dv, fp) else (FL_X5_addDevice_11 dv fp 1000 0 dv fp))
set_option maxHeartbeats 4000000 in
set_option maxRecDepth 100000 in
theorem c_X5_addDevice (l : Launch) (dC : Nat → ClassId) (dI : Nat → Nat → Nat) (ts : Nat → Nat) (ks : Nat → Nat) (kv : Nat → Nat) (h : Nat) (r1 : Nat) (r2 : Nat) (dv : Int32) (c1 : ClassId) (c2 : ClassId) (fu : Nat → Int32) (fp : Nat → Int32) (A : Nat → Prop) (o : Int32 × (Nat → Int32)) (hG : F_X5_addDevice dv fp = some o) : Met l yX5_addDevice (.code yX5_addDevice cX5_addDevice 2 none :: wA) ({ frames := 0, cells := 0, slots := 0, locals := 0 }) (va_Pc [.ref h] (q_WE (dC, dI) A [(h, .inr (5, [.ref r1, .ref r2, .int dv])), (r1, .inl (c1, 8, .inl fu)), (r2, .inl (c2, 48, .inl fp))] [(c1, .int), (c2, .int)] (q_S ts ks kv A))) (va_Qv (fun _ : Unit => True) (fun (_ : Unit) t => q_B (dC, dI) A [(h, .inr (5, [.ref r1, .ref r2, .int (o.1)])), (r1, .inl (c1, 8, .inl fu)), (r2, .inl (c2, 48, .inl (o.2)))] [(c1, .int), (c2, .int)] t) A) 0 0 A := by
  refine Met.ofW (cc := cX5_addDevice) (maxL := 2) (ret := none) (by decide) rfl ?_
  intro p e s m args below meth c s₁ B hml hv
  obtain ⟨rfl, hP, hK, hD, hA, hE⟩ := hv
  have hx := B.exec
  have hb := B.bytes
  have hr := B.returns
  have hts := atoms_spec (ws := .code yX5_addDevice cX5_addDevice 2 none :: wA) B.pre
  have hown : s.vm.findClass RX5 = some m.cls := findClass_of_methodNamed B.named
  have hlocks := B.notSynchronized
  have hS : va_S A s.heap s.heap [] := va_S.rf
  have hl := lv_entry ([.ref h]) (n := 2) (Nat.le_of_ble_eq_true rfl)
  rw [lg_entry_eq]
  generalize (lg_sl ([.ref h]) ++ List.replicate (2 - (lg_sl ([.ref h])).length) Slot.unset).toArray = ls at hl ⊢
  have hl : lv_has ls 2 [(0, .ref h)] := hl
  unfold F_X5_addDevice at hG
  refine lv_aload_n hx hb dX5_addDevice_0 rfl (lv_at hl 0 rfl) ?_
  refine va_get (D := (dC, dI)) (ci := 5) (v := .int dv) (C := RX5) (T := TX5) (N := 3) hx hb hts iA_5 hown hK hP 0 rfl rfl 2 (by decide) (hts (.fieldLink RX5 18 "HubTree$Plan" "devices" "I") (List.mem_cons_of_mem _ m_75)) (fun _ h9 => h9) rfl dX5_addDevice_1 ?_
  refine lv_bipush (v := 8) hx hb dX5_addDevice_4 (by decide) ?_
  refine lv_icmp_ge (tgt := 52) hx hb dX5_addDevice_6 (by decide) (fun c_1 => ?_) (fun c_1 => ?_)
  · have hG := q_ifp c_1 hG
    obtain rfl := Option.some.inj hG
    have hP9 := hP.sub (ws' := [(h, .inr (5, [.ref r1, .ref r2, .int dv])), (r1, .inl (c1, 8, .inl fu)), (r2, .inl (c2, 48, .inl fp))]) [0, 1, 2] rfl
    have hD9 := hD.sub (ws' := [(h, .inr (5, [.ref r1, .ref r2, .int dv])), (r1, .inl (c1, 8, .inl fu)), (r2, .inl (c2, 48, .inl fp))]) [0, 1, 2] (by decide) rfl
    have hK9 := hK.sub (tys' := [(c1, .int), (c2, .int)]) [0, 1] rfl
    exact W.vret hx hb hr (fun t ht hW => ⟨⟨(), rfl, trivial, by rw [ht]; exact hP9, va_K.moved hW.alike hK9, hD9⟩, hS.F ht⟩) hS.2.2 dX5_addDevice_52
  · have hG := q_ifn c_1 hG
    refine lv_iconst (v := 0) hx hb dX5_addDevice_9 (by decide) ?_
    refine lv_istore_n (lv' := [(1, .int 0), (0, .ref h)]) hx hb dX5_addDevice_10 rfl hl (by decide) rfl (fun ls hl => ?_)
    have L_11 : ∀ (n_11 : Nat) (x1_11 : Int32) (dv_c : Int32) (fp_c : Nat → Int32) (H : Heap) (locs : List Loc) (ls : Array Slot), FL_X5_addDevice_11 dv fp n_11 x1_11 dv_c fp_c = some o → va_P (dC, dI) vwCl [(h, .inr (5, [.ref r1, .ref r2, .int dv_c])), (r1, .inl (c1, 8, .inl fu)), (r2, .inl (c2, 48, .inl fp_c))] H → va_D A [(h, .inr (5, [.ref r1, .ref r2, .int dv_c])), (r1, .inl (c1, 8, .inl fu)), (r2, .inl (c2, 48, .inl fp_c))] → va_S A s.heap H locs → lv_has ls 2 [(1, .int x1_11), (0, .ref h)] → W p l e (headSpec (.code yX5_addDevice cX5_addDevice 2 none :: wA) ({ frames := 0, cells := 0, slots := 0, locals := 0 })).room s m #[.ref h] below meth c H locs 0 0 (MQ below (va_Qv (fun _ : Unit => True) (fun (_ : Unit) t => q_B (dC, dI) A [(h, .inr (5, [.ref r1, .ref r2, .int (o.1)])), (r1, .inl (c1, 8, .inl fu)), (r2, .inl (c2, 48, .inl (o.2)))] [(c1, .int), (c2, .int)] t) A) #[.ref h] s 0 0 A) (F0 m 11 ls []) := by
      intro n_11
      induction n_11 with
      | zero =>
        intro x1_11 dv_c fp_c H locs ls hG
        exact q_no hG
      | succ n_11 ih_11 =>
        intro x1_11 dv_c fp_c H locs ls hG hP hD hS hl
        unfold FL_X5_addDevice_11 at hG
        refine lv_iload_n hx hb dX5_addDevice_11 rfl (lv_at hl 0 rfl) ?_
        refine lv_bipush (v := 6) hx hb dX5_addDevice_12 (by decide) ?_
        refine lv_icmp_ge (tgt := 42) hx hb dX5_addDevice_14 (by decide) (fun c_2 => ?_) (fun c_2 => ?_)
        · have hG := q_ifp c_2 hG
          refine lv_aload_n hx hb dX5_addDevice_42 rfl (lv_at hl 1 rfl) ?_
          refine lv_dup hx hb dX5_addDevice_43 rfl ?_
          refine va_get (D := (dC, dI)) (ci := 5) (v := .int dv_c) (C := RX5) (T := TX5) (N := 3) hx hb hts iA_5 hown hK hP 0 rfl rfl 2 (by decide) (hts (.fieldLink RX5 18 "HubTree$Plan" "devices" "I") (List.mem_cons_of_mem _ m_75)) (fun _ h9 => h9) rfl dX5_addDevice_44 ?_
          refine lv_iconst (v := 1) hx hb dX5_addDevice_47 (by decide) ?_
          refine lv_iadd hx hb dX5_addDevice_48 ?_
          refine va_put (D := (dC, dI)) (ci := 5) (v := .int (dv_c + 1)) (ty := .int) (C := RX5) (T := TX5) (N := 3) hx hb hts iA_5 tyX5 tyX5_ok nmX5 hown hK hP hD hS 0 rfl rfl 2 (by decide) (hts (.fieldLink RX5 18 "HubTree$Plan" "devices" "I") (List.mem_cons_of_mem _ m_75)) (fun _ h9 => h9) rfl (by decide +kernel) rfl rfl (Nat.le_of_ble_eq_true rfl) dX5_addDevice_49 (fun H locs hP hD hS => ?_)
          have hP : va_P (dC, dI) vwCl [(h, .inr (5, [.ref r1, .ref r2, .int (dv_c + 1)])), (r1, .inl (c1, 8, .inl fu)), (r2, .inl (c2, 48, .inl fp_c))] H := hP
          have hD : va_D A [(h, .inr (5, [.ref r1, .ref r2, .int (dv_c + 1)])), (r1, .inl (c1, 8, .inl fu)), (r2, .inl (c2, 48, .inl fp_c))] := hD
          obtain rfl := Option.some.inj hG
          have hP9 := hP.sub (ws' := [(h, .inr (5, [.ref r1, .ref r2, .int (dv_c + 1)])), (r1, .inl (c1, 8, .inl fu)), (r2, .inl (c2, 48, .inl fp_c))]) [0, 1, 2] rfl
          have hD9 := hD.sub (ws' := [(h, .inr (5, [.ref r1, .ref r2, .int (dv_c + 1)])), (r1, .inl (c1, 8, .inl fu)), (r2, .inl (c2, 48, .inl fp_c))]) [0, 1, 2] (by decide) rfl
          have hK9 := hK.sub (tys' := [(c1, .int), (c2, .int)]) [0, 1] rfl
          exact W.vret hx hb hr (fun t ht hW => ⟨⟨(), rfl, trivial, by rw [ht]; exact hP9, va_K.moved hW.alike hK9, hD9⟩, hS.F ht⟩) hS.2.2 dX5_addDevice_52
        · have hG := q_ifn c_2 hG
          refine lv_aload_n hx hb dX5_addDevice_17 rfl (lv_at hl 1 rfl) ?_
          refine va_get (D := (dC, dI)) (ci := 5) (v := .ref r2) (C := RX5) (T := TX5) (N := 3) hx hb hts iA_5 hown hK hP 0 rfl rfl 1 (by decide) (hts (.fieldLink RX5 15 "HubTree$Plan" "row" "[I") (List.mem_cons_of_mem _ m_74)) (fun _ h9 => h9) rfl dX5_addDevice_18 ?_
          refine lv_iload_n hx hb dX5_addDevice_21 rfl (lv_at hl 0 rfl) ?_
          refine lv_bipush (v := 8) hx hb dX5_addDevice_22 (by decide) ?_
          refine lv_imul hx hb dX5_addDevice_24 ?_
          refine lv_aload_n hx hb dX5_addDevice_25 rfl (lv_at hl 1 rfl) ?_
          refine va_get (D := (dC, dI)) (ci := 5) (v := .int dv_c) (C := RX5) (T := TX5) (N := 3) hx hb hts iA_5 hown hK hP 0 rfl rfl 2 (by decide) (hts (.fieldLink RX5 18 "HubTree$Plan" "devices" "I") (List.mem_cons_of_mem _ m_75)) (fun _ h9 => h9) rfl dX5_addDevice_26 ?_
          refine lv_iadd hx hb dX5_addDevice_29 ?_
          refine va_getsN hx hb (q_S_t hE 5 (by decide)).1 hS hown (va_Nw.use rfl (q_S_l5 hE)) (fun _ h9 => h9) dX5_addDevice_30 ?_
          refine lv_iload_n hx hb dX5_addDevice_33 rfl (lv_at hl 0 rfl) ?_
          obtain ⟨h_3, hG⟩ := q_ix hG
          refine va_ti hx hb (q_S_t hE 5 (by decide)).2 hS (i := x1_11) h_3 (v := .int (q_tab 5 (x1_11 : Int32).toNatClampNeg)) rfl dX5_addDevice_34 ?_
          obtain ⟨h_4, hG⟩ := q_ix hG
          refine va_iast hx hb hK hP hD hS 2 1 rfl rfl (i := ((x1_11 * 8) + dv_c)) (x := (q_tab 5 (x1_11 : Int32).toNatClampNeg)) h_4 dX5_addDevice_35 (fun H locs hP hD hS => ?_)
          have hP : va_P (dC, dI) vwCl [(h, .inr (5, [.ref r1, .ref r2, .int dv_c])), (r1, .inl (c1, 8, .inl fu)), (r2, .inl (c2, 48, .inl (upd fp_c ((x1_11 * 8) + dv_c).toNatClampNeg (q_tab 5 (x1_11 : Int32).toNatClampNeg))))] H := hP
          have hD : va_D A [(h, .inr (5, [.ref r1, .ref r2, .int dv_c])), (r1, .inl (c1, 8, .inl fu)), (r2, .inl (c2, 48, .inl (upd fp_c ((x1_11 * 8) + dv_c).toNatClampNeg (q_tab 5 (x1_11 : Int32).toNatClampNeg))))] := hD
          refine lv_iinc (v := (x1_11 + 1)) (lv' := [(1, .int (x1_11 + 1)), (0, .ref h)]) hx hb dX5_addDevice_36 hl (k := 0) rfl (rfl) (by decide) rfl (fun ls hl => ?_)
          refine lv_goto (tgt := 11) hx hb dX5_addDevice_39 (by decide) ?_
          exact ih_11 (x1_11 + 1) dv_c (upd fp_c ((x1_11 * 8) + dv_c).toNatClampNeg (q_tab 5 (x1_11 : Int32).toNatClampNeg)) H locs ls hG hP hD hS (lv_sub hl [0, 1] rfl)
    exact L_11 1000 0 dv fp s.heap [] ls hG hP hD hS hl

def F_X7_sortOf (f1 : Nat → Int32) (z1 : Int32) (z2 : Int32) : Option (Int32) := ((F_X7_read f1 z1 z2 0).bind fun o_1 => (if o_1 < 0 then some ((-1)) else (if 6 ≤ o_1 then some ((-1)) else (if o_1 < 0 ∨ 6 ≤ (o_1).toNatClampNeg then none else some ((q_tab 7 (o_1 : Int32).toNatClampNeg))))))
set_option maxHeartbeats 4000000 in
set_option maxRecDepth 100000 in
theorem c_X7_sortOf (l : Launch) (dC : Nat → ClassId) (dI : Nat → Nat → Nat) (ts : Nat → Nat) (ks : Nat → Nat) (kv : Nat → Nat) (sc : Nat) (s1 : Nat) (s2 : Nat) (s3 : Nat) (cs1 : ClassId) (cs2 : ClassId) (cs3 : ClassId) (f1 : Nat → Int32) (f2 : Nat → Int32) (f3 : Nat → Int32) (ds : Int32) (sh : Int32) (z1 : Int32) (z2 : Int32) (o : Int32) (hG : F_X7_sortOf f1 z1 z2 = some o) : Met l yX7_sortOf (.code yX7_sortOf cX7_sortOf 4 (some .int) :: wA) ({ frames := 1, cells := 0, slots := 0, locals := 23 }) (va_Pc [.ref sc, .int z1, .int z2] (q_RE (dC, dI) [(sc, .inr (7, [.ref s1, .ref s2, .ref s3, .int ds, .int sh])), (s1, .inl (cs1, 256, .inl f1)), (s2, .inl (cs2, 4, .inl f2)), (s3, .inl (cs3, 64, .inl f3))] [(cs1, .int), (cs2, .int), (cs3, .int)] (q_S ts ks kv (fun _ => False)))) (q_i o) 0 0 (fun _ => False) := by
  refine Met.ofW (cc := cX7_sortOf) (maxL := 4) (ret := (some .int)) (by decide) rfl ?_
  intro p e s m args below meth c s₁ B hml hv
  obtain ⟨rfl, hP, hK, hE⟩ := hv
  have hx := B.exec
  have hb := B.bytes
  have hr := B.returns
  have hts := atoms_spec (ws := .code yX7_sortOf cX7_sortOf 4 (some .int) :: wA) B.pre
  have hown : s.vm.findClass RX7 = some m.cls := findClass_of_methodNamed B.named
  have hlocks := B.notSynchronized
  have hS : va_S (fun _ => False) s.heap s.heap [] := va_S.rf
  have hl := lv_entry ([.ref sc, .int z1, .int z2]) (n := 4) (Nat.le_of_ble_eq_true rfl)
  rw [lg_entry_eq]
  generalize (lg_sl ([.ref sc, .int z1, .int z2]) ++ List.replicate (4 - (lg_sl ([.ref sc, .int z1, .int z2])).length) Slot.unset).toArray = ls at hl ⊢
  have hl : lv_has ls 4 [(0, .ref sc), (1, .int z1), (2, .int z2)] := hl
  unfold F_X7_sortOf at hG
  refine lv_aload_n hx hb dX7_sortOf_0 rfl (lv_at hl 0 rfl) ?_
  refine lv_iload_n hx hb dX7_sortOf_1 rfl (lv_at hl 1 rfl) ?_
  refine lv_iload_n hx hb dX7_sortOf_2 rfl (lv_at hl 2 rfl) ?_
  refine lv_iconst (v := 0) hx hb dX7_sortOf_3 (by decide) ?_
  obtain ⟨o_1, r_2, hG⟩ := q_bi hG
  refine q_goi (v := o_1) (va_runV (As := [.int z1, .int z2, .int 0]) (rest := []) ⟨hx, hb, hml, hown, hts⟩ (c_X7_read l dC dI sc s1 s2 s3 cs1 cs2 cs3 f1 f2 f3 ds sh z1 z2 0 o_1 r_2) (cwV 3 hts (q_gV m_1325 m_1301 m_1302 m_29 m_1303) rfl rfl rfl hdV_yX7_read_3 ⟨Nat.le_of_ble_eq_true rfl, Nat.le_of_ble_eq_true rfl⟩) (q_preV hK hP (q := (RX7, TX7, 5)) (ci := 7) (q0 := 0) rfl rfl [0, 1, 2, 3] rfl [0, 1, 2] rfl) rfl rfl hl.1 rfl (lv_room (Nat.le_of_ble_eq_true rfl)) dX7_sortOf_4 ⟨Nat.le_of_ble_eq_true rfl, Nat.le_of_ble_eq_true rfl⟩) hP hS (fun H locs hP hS => ?_)
  refine lv_istore_n (lv' := [(3, .int o_1), (0, .ref sc), (1, .int z1), (2, .int z2)]) hx hb dX7_sortOf_7 rfl hl (by decide) rfl (fun ls hl => ?_)
  refine lv_iload_n hx hb dX7_sortOf_8 rfl (lv_at hl 0 rfl) ?_
  refine lv_if_lt (tgt := 28) hx hb dX7_sortOf_9 (by decide) (fun c_3 => ?_) (fun c_3 => ?_)
  · have hG := q_ifp c_3 hG
    refine lv_iconst (v := (-1)) hx hb dX7_sortOf_28 (by decide) ?_
    obtain rfl := Option.some.inj hG
    exact W.iret (v := (-1)) hx hb hr (fun t ht hW => ⟨⟨(-1), (), rfl, rfl, trivial⟩, hS.F ht⟩) hS.2.2 dX7_sortOf_29
  · have hG := q_ifn c_3 hG
    refine lv_iload_n hx hb dX7_sortOf_12 rfl (lv_at hl 0 rfl) ?_
    refine va_getsN hx hb (q_S_t hE 7 (by decide)).1 hS hown (va_Nw.use rfl (q_S_l7 hE)) (fun _ h9 => h9) dX7_sortOf_13 ?_
    refine va_tlen hx hb (q_S_t hE 7 (by decide)).2 hS (v := 6) rfl dX7_sortOf_16 ?_
    refine lv_icmp_ge (tgt := 28) hx hb dX7_sortOf_17 (by decide) (fun c_4 => ?_) (fun c_4 => ?_)
    · have hG := q_ifp c_4 hG
      refine lv_iconst (v := (-1)) hx hb dX7_sortOf_28 (by decide) ?_
      obtain rfl := Option.some.inj hG
      exact W.iret (v := (-1)) hx hb hr (fun t ht hW => ⟨⟨(-1), (), rfl, rfl, trivial⟩, hS.F ht⟩) hS.2.2 dX7_sortOf_29
    · have hG := q_ifn c_4 hG
      refine va_getsN hx hb (q_S_t hE 7 (by decide)).1 hS hown (va_Nw.use rfl (q_S_l7 hE)) (fun _ h9 => h9) dX7_sortOf_20 ?_
      refine lv_iload_n hx hb dX7_sortOf_23 rfl (lv_at hl 0 rfl) ?_
      obtain ⟨h_5, hG⟩ := q_ix hG
      refine va_ti hx hb (q_S_t hE 7 (by decide)).2 hS (i := o_1) h_5 (v := .int (q_tab 7 (o_1 : Int32).toNatClampNeg)) rfl dX7_sortOf_24 ?_
      refine lv_goto (tgt := 29) hx hb dX7_sortOf_25 (by decide) ?_
      obtain rfl := Option.some.inj hG
      exact W.iret (v := (q_tab 7 (o_1 : Int32).toNatClampNeg)) hx hb hr (fun t ht hW => ⟨⟨(q_tab 7 (o_1 : Int32).toNatClampNeg), (), rfl, rfl, trivial⟩, hS.F ht⟩) hS.2.2 dX7_sortOf_29

def F_X6_stands (tb : Nat → Int32) (tl : Int32) (ra : Int32) (z : Int32) : Option (Int32) := (if tl ≤ ra then some (0) else (if ra < 0 ∨ 240 ≤ (ra).toNatClampNeg then none else (if (tb (ra).toNatClampNeg) = z then some (1) else some (0))))
set_option maxHeartbeats 4000000 in
set_option maxRecDepth 100000 in
theorem c_X6_stands (l : Launch) (dC : Nat → ClassId) (dI : Nat → Nat → Nat) (rd : Nat) (tp : Nat) (by_ : Nat) (cb : ClassId) (tb : Nat → Int32) (tl : Int32) (ra : Int32) (rv : Int32) (z : Int32) (o : Int32) (hG : F_X6_stands tb tl ra z = some o) : Met l yX6_stands (.code yX6_stands cX6_stands 2 (some .boolean) :: wA) ({ frames := 0, cells := 0, slots := 0, locals := 0 }) (va_Pc [.ref rd, .int z] (q_R (dC, dI) [(rd, .inr (6, [.ref tp, .int ra, .int rv])), (tp, .inr (8, [.ref by_, .int tl])), (by_, .inl (cb, 240, .inl tb))] [(cb, .char)])) (q_i o) 0 0 (fun _ => False) := by
  refine Met.ofW (cc := cX6_stands) (maxL := 2) (ret := (some .boolean)) (by decide) rfl ?_
  intro p e s m args below meth c s₁ B hml hv
  obtain ⟨rfl, hP, hK⟩ := hv
  have hx := B.exec
  have hb := B.bytes
  have hr := B.returns
  have hts := atoms_spec (ws := .code yX6_stands cX6_stands 2 (some .boolean) :: wA) B.pre
  have hown : s.vm.findClass RX6 = some m.cls := findClass_of_methodNamed B.named
  have hlocks := B.notSynchronized
  have hS : va_S (fun _ => False) s.heap s.heap [] := va_S.rf
  have hl := lv_entry ([.ref rd, .int z]) (n := 2) (Nat.le_of_ble_eq_true rfl)
  rw [lg_entry_eq]
  generalize (lg_sl ([.ref rd, .int z]) ++ List.replicate (2 - (lg_sl ([.ref rd, .int z])).length) Slot.unset).toArray = ls at hl ⊢
  have hl : lv_has ls 2 [(0, .ref rd), (1, .int z)] := hl
  unfold F_X6_stands at hG
  refine lv_aload_n hx hb dX6_stands_0 rfl (lv_at hl 0 rfl) ?_
  refine va_get (D := (dC, dI)) (ci := 6) (v := .int ra) (C := RX6) (T := TX6) (N := 3) hx hb hts iA_6 hown hK hP 0 rfl rfl 1 (by decide) (hts (.fieldLink RX6 9 "HubTree$Reader" "at" "I") (List.mem_cons_of_mem _ m_67)) (fun _ h9 => h9) rfl dX6_stands_1 ?_
  refine lv_aload_n hx hb dX6_stands_4 rfl (lv_at hl 0 rfl) ?_
  refine va_get (D := (dC, dI)) (ci := 6) (v := .ref tp) (C := RX6) (T := TX6) (N := 3) hx hb hts iA_6 hown hK hP 0 rfl rfl 0 (by decide) (hts (.fieldLink RX6 18 "HubTree$Reader" "tape" "LHubTree$Tape;") (List.mem_cons_of_mem _ m_69)) (fun _ h9 => h9) rfl dX6_stands_5 ?_
  refine va_get (D := (dC, dI)) (ci := 8) (v := .int tl) (C := RX8) (T := TX8) (N := 2) hx hb hts iA_8 hown hK hP 1 rfl rfl 1 (by decide) (hts (.fieldLink RX6 67 "HubTree$Tape" "length" "I") (List.mem_cons_of_mem _ m_171)) (fun _ h9 => h9) rfl dX6_stands_8 ?_
  refine lv_icmp_ge (tgt := 34) hx hb dX6_stands_11 (by decide) (fun c_1 => ?_) (fun c_1 => ?_)
  · have hG := q_ifp c_1 hG
    refine lv_iconst (v := 0) hx hb dX6_stands_34 (by decide) ?_
    obtain rfl := Option.some.inj hG
    exact W.zret (v := 0) hx hb hr rfl (fun t ht hW => ⟨⟨0, (), rfl, rfl, trivial⟩, hS.F ht⟩) hS.2.2 dX6_stands_35
  · have hG := q_ifn c_1 hG
    refine lv_aload_n hx hb dX6_stands_14 rfl (lv_at hl 0 rfl) ?_
    refine va_get (D := (dC, dI)) (ci := 6) (v := .ref tp) (C := RX6) (T := TX6) (N := 3) hx hb hts iA_6 hown hK hP 0 rfl rfl 0 (by decide) (hts (.fieldLink RX6 18 "HubTree$Reader" "tape" "LHubTree$Tape;") (List.mem_cons_of_mem _ m_69)) (fun _ h9 => h9) rfl dX6_stands_15 ?_
    refine va_get (D := (dC, dI)) (ci := 8) (v := .ref by_) (C := RX8) (T := TX8) (N := 2) hx hb hts iA_8 hown hK hP 1 rfl rfl 0 (by decide) (hts (.fieldLink RX6 81 "HubTree$Tape" "bytes" "[C") (List.mem_cons_of_mem _ m_184)) (fun _ h9 => h9) rfl dX6_stands_18 ?_
    refine lv_aload_n hx hb dX6_stands_21 rfl (lv_at hl 0 rfl) ?_
    refine va_get (D := (dC, dI)) (ci := 6) (v := .int ra) (C := RX6) (T := TX6) (N := 3) hx hb hts iA_6 hown hK hP 0 rfl rfl 1 (by decide) (hts (.fieldLink RX6 9 "HubTree$Reader" "at" "I") (List.mem_cons_of_mem _ m_67)) (fun _ h9 => h9) rfl dX6_stands_22 ?_
    obtain ⟨h_2, hG⟩ := q_ix hG
    refine va_cald hx hb hK hP 2 0 rfl rfl (i := ra) h_2 dX6_stands_25 ?_
    refine q_top (y := (tb (ra).toNatClampNeg)) rfl ?_
    refine lv_iload_n hx hb dX6_stands_26 rfl (lv_at hl 1 rfl) ?_
    refine lv_icmp_ne (tgt := 34) hx hb dX6_stands_27 (by decide) (fun c_3 => ?_) (fun c_3 => ?_)
    · have hG := q_ifn c_3 hG
      refine lv_iconst (v := 0) hx hb dX6_stands_34 (by decide) ?_
      obtain rfl := Option.some.inj hG
      exact W.zret (v := 0) hx hb hr rfl (fun t ht hW => ⟨⟨0, (), rfl, rfl, trivial⟩, hS.F ht⟩) hS.2.2 dX6_stands_35
    · have hG := q_ifp c_3 hG
      refine lv_iconst (v := 1) hx hb dX6_stands_30 (by decide) ?_
      refine lv_goto (tgt := 35) hx hb dX6_stands_31 (by decide) ?_
      obtain rfl := Option.some.inj hG
      exact W.zret (v := 1) hx hb hr rfl (fun t ht hW => ⟨⟨1, (), rfl, rfl, trivial⟩, hS.F ht⟩) hS.2.2 dX6_stands_35

def F_X6_standsDigit (tb : Nat → Int32) (tl : Int32) (ra : Int32) : Option (Int32) := (if tl ≤ ra then some (0) else (if ra < 0 ∨ 240 ≤ (ra).toNatClampNeg then none else (if (tb (ra).toNatClampNeg) < 48 then some (0) else (if ra < 0 ∨ 240 ≤ (ra).toNatClampNeg then none else (if 57 < (tb (ra).toNatClampNeg) then some (0) else some (1))))))
set_option maxHeartbeats 4000000 in
set_option maxRecDepth 100000 in
theorem c_X6_standsDigit (l : Launch) (dC : Nat → ClassId) (dI : Nat → Nat → Nat) (rd : Nat) (tp : Nat) (by_ : Nat) (cb : ClassId) (tb : Nat → Int32) (tl : Int32) (ra : Int32) (rv : Int32) (o : Int32) (hG : F_X6_standsDigit tb tl ra = some o) : Met l yX6_standsDigit (.code yX6_standsDigit cX6_standsDigit 1 (some .boolean) :: wA) ({ frames := 0, cells := 0, slots := 0, locals := 0 }) (va_Pc [.ref rd] (q_R (dC, dI) [(rd, .inr (6, [.ref tp, .int ra, .int rv])), (tp, .inr (8, [.ref by_, .int tl])), (by_, .inl (cb, 240, .inl tb))] [(cb, .char)])) (q_i o) 0 0 (fun _ => False) := by
  refine Met.ofW (cc := cX6_standsDigit) (maxL := 1) (ret := (some .boolean)) (by decide) rfl ?_
  intro p e s m args below meth c s₁ B hml hv
  obtain ⟨rfl, hP, hK⟩ := hv
  have hx := B.exec
  have hb := B.bytes
  have hr := B.returns
  have hts := atoms_spec (ws := .code yX6_standsDigit cX6_standsDigit 1 (some .boolean) :: wA) B.pre
  have hown : s.vm.findClass RX6 = some m.cls := findClass_of_methodNamed B.named
  have hlocks := B.notSynchronized
  have hS : va_S (fun _ => False) s.heap s.heap [] := va_S.rf
  have hl := lv_entry ([.ref rd]) (n := 1) (Nat.le_of_ble_eq_true rfl)
  rw [lg_entry_eq]
  generalize (lg_sl ([.ref rd]) ++ List.replicate (1 - (lg_sl ([.ref rd])).length) Slot.unset).toArray = ls at hl ⊢
  have hl : lv_has ls 1 [(0, .ref rd)] := hl
  unfold F_X6_standsDigit at hG
  refine lv_aload_n hx hb dX6_standsDigit_0 rfl (lv_at hl 0 rfl) ?_
  refine va_get (D := (dC, dI)) (ci := 6) (v := .int ra) (C := RX6) (T := TX6) (N := 3) hx hb hts iA_6 hown hK hP 0 rfl rfl 1 (by decide) (hts (.fieldLink RX6 9 "HubTree$Reader" "at" "I") (List.mem_cons_of_mem _ m_67)) (fun _ h9 => h9) rfl dX6_standsDigit_1 ?_
  refine lv_aload_n hx hb dX6_standsDigit_4 rfl (lv_at hl 0 rfl) ?_
  refine va_get (D := (dC, dI)) (ci := 6) (v := .ref tp) (C := RX6) (T := TX6) (N := 3) hx hb hts iA_6 hown hK hP 0 rfl rfl 0 (by decide) (hts (.fieldLink RX6 18 "HubTree$Reader" "tape" "LHubTree$Tape;") (List.mem_cons_of_mem _ m_69)) (fun _ h9 => h9) rfl dX6_standsDigit_5 ?_
  refine va_get (D := (dC, dI)) (ci := 8) (v := .int tl) (C := RX8) (T := TX8) (N := 2) hx hb hts iA_8 hown hK hP 1 rfl rfl 1 (by decide) (hts (.fieldLink RX6 67 "HubTree$Tape" "length" "I") (List.mem_cons_of_mem _ m_171)) (fun _ h9 => h9) rfl dX6_standsDigit_8 ?_
  refine lv_icmp_ge (tgt := 52) hx hb dX6_standsDigit_11 (by decide) (fun c_1 => ?_) (fun c_1 => ?_)
  · have hG := q_ifp c_1 hG
    refine lv_iconst (v := 0) hx hb dX6_standsDigit_52 (by decide) ?_
    obtain rfl := Option.some.inj hG
    exact W.zret (v := 0) hx hb hr rfl (fun t ht hW => ⟨⟨0, (), rfl, rfl, trivial⟩, hS.F ht⟩) hS.2.2 dX6_standsDigit_53
  · have hG := q_ifn c_1 hG
    refine lv_aload_n hx hb dX6_standsDigit_14 rfl (lv_at hl 0 rfl) ?_
    refine va_get (D := (dC, dI)) (ci := 6) (v := .ref tp) (C := RX6) (T := TX6) (N := 3) hx hb hts iA_6 hown hK hP 0 rfl rfl 0 (by decide) (hts (.fieldLink RX6 18 "HubTree$Reader" "tape" "LHubTree$Tape;") (List.mem_cons_of_mem _ m_69)) (fun _ h9 => h9) rfl dX6_standsDigit_15 ?_
    refine va_get (D := (dC, dI)) (ci := 8) (v := .ref by_) (C := RX8) (T := TX8) (N := 2) hx hb hts iA_8 hown hK hP 1 rfl rfl 0 (by decide) (hts (.fieldLink RX6 81 "HubTree$Tape" "bytes" "[C") (List.mem_cons_of_mem _ m_184)) (fun _ h9 => h9) rfl dX6_standsDigit_18 ?_
    refine lv_aload_n hx hb dX6_standsDigit_21 rfl (lv_at hl 0 rfl) ?_
    refine va_get (D := (dC, dI)) (ci := 6) (v := .int ra) (C := RX6) (T := TX6) (N := 3) hx hb hts iA_6 hown hK hP 0 rfl rfl 1 (by decide) (hts (.fieldLink RX6 9 "HubTree$Reader" "at" "I") (List.mem_cons_of_mem _ m_67)) (fun _ h9 => h9) rfl dX6_standsDigit_22 ?_
    obtain ⟨h_2, hG⟩ := q_ix hG
    refine va_cald hx hb hK hP 2 0 rfl rfl (i := ra) h_2 dX6_standsDigit_25 ?_
    refine q_top (y := (tb (ra).toNatClampNeg)) rfl ?_
    refine lv_bipush (v := 48) hx hb dX6_standsDigit_26 (by decide) ?_
    refine lv_icmp_lt (tgt := 52) hx hb dX6_standsDigit_28 (by decide) (fun c_3 => ?_) (fun c_3 => ?_)
    · have hG := q_ifp c_3 hG
      refine lv_iconst (v := 0) hx hb dX6_standsDigit_52 (by decide) ?_
      obtain rfl := Option.some.inj hG
      exact W.zret (v := 0) hx hb hr rfl (fun t ht hW => ⟨⟨0, (), rfl, rfl, trivial⟩, hS.F ht⟩) hS.2.2 dX6_standsDigit_53
    · have hG := q_ifn c_3 hG
      refine lv_aload_n hx hb dX6_standsDigit_31 rfl (lv_at hl 0 rfl) ?_
      refine va_get (D := (dC, dI)) (ci := 6) (v := .ref tp) (C := RX6) (T := TX6) (N := 3) hx hb hts iA_6 hown hK hP 0 rfl rfl 0 (by decide) (hts (.fieldLink RX6 18 "HubTree$Reader" "tape" "LHubTree$Tape;") (List.mem_cons_of_mem _ m_69)) (fun _ h9 => h9) rfl dX6_standsDigit_32 ?_
      refine va_get (D := (dC, dI)) (ci := 8) (v := .ref by_) (C := RX8) (T := TX8) (N := 2) hx hb hts iA_8 hown hK hP 1 rfl rfl 0 (by decide) (hts (.fieldLink RX6 81 "HubTree$Tape" "bytes" "[C") (List.mem_cons_of_mem _ m_184)) (fun _ h9 => h9) rfl dX6_standsDigit_35 ?_
      refine lv_aload_n hx hb dX6_standsDigit_38 rfl (lv_at hl 0 rfl) ?_
      refine va_get (D := (dC, dI)) (ci := 6) (v := .int ra) (C := RX6) (T := TX6) (N := 3) hx hb hts iA_6 hown hK hP 0 rfl rfl 1 (by decide) (hts (.fieldLink RX6 9 "HubTree$Reader" "at" "I") (List.mem_cons_of_mem _ m_67)) (fun _ h9 => h9) rfl dX6_standsDigit_39 ?_
      obtain ⟨h_4, hG⟩ := q_ix hG
      refine va_cald hx hb hK hP 2 0 rfl rfl (i := ra) h_4 dX6_standsDigit_42 ?_
      refine q_top (y := (tb (ra).toNatClampNeg)) rfl ?_
      refine lv_bipush (v := 57) hx hb dX6_standsDigit_43 (by decide) ?_
      refine lv_icmp_gt (tgt := 52) hx hb dX6_standsDigit_45 (by decide) (fun c_5 => ?_) (fun c_5 => ?_)
      · have hG := q_ifp c_5 hG
        refine lv_iconst (v := 0) hx hb dX6_standsDigit_52 (by decide) ?_
        obtain rfl := Option.some.inj hG
        exact W.zret (v := 0) hx hb hr rfl (fun t ht hW => ⟨⟨0, (), rfl, rfl, trivial⟩, hS.F ht⟩) hS.2.2 dX6_standsDigit_53
      · have hG := q_ifn c_5 hG
        refine lv_iconst (v := 1) hx hb dX6_standsDigit_48 (by decide) ?_
        refine lv_goto (tgt := 53) hx hb dX6_standsDigit_49 (by decide) ?_
        obtain rfl := Option.some.inj hG
        exact W.zret (v := 1) hx hb hr rfl (fun t ht hW => ⟨⟨1, (), rfl, rfl, trivial⟩, hS.F ht⟩) hS.2.2 dX6_standsDigit_53

def FL_X6_skipBlanks_0 (tb : Nat → Int32) (tl : Int32) (ra : Int32) : Nat → (Int32) → Option (Int32)
  | 0, _ => none
  | n + 1, ra_c => (if tl ≤ ra_c then some (ra_c) else (if ra_c < 0 ∨ 240 ≤ (ra_c).toNatClampNeg then none else (if (tb (ra_c).toNatClampNeg) = 32 then (FL_X6_skipBlanks_0 tb tl ra n (ra_c + 1)) else some (ra_c))))

def F_X6_skipBlanks (tb : Nat → Int32) (tl : Int32) (ra : Int32) : Option (Int32) := (FL_X6_skipBlanks_0 tb tl ra 1000 ra)
set_option maxHeartbeats 4000000 in
set_option maxRecDepth 100000 in
theorem c_X6_skipBlanks (l : Launch) (dC : Nat → ClassId) (dI : Nat → Nat → Nat) (rd : Nat) (tp : Nat) (by_ : Nat) (cb : ClassId) (tb : Nat → Int32) (tl : Int32) (ra : Int32) (rv : Int32) (A : Nat → Prop) (o : Int32) (hG : F_X6_skipBlanks tb tl ra = some o) : Met l yX6_skipBlanks (.code yX6_skipBlanks cX6_skipBlanks 1 none :: wA) ({ frames := 0, cells := 0, slots := 0, locals := 0 }) (va_Pc [.ref rd] (q_W (dC, dI) A [(rd, .inr (6, [.ref tp, .int ra, .int rv])), (tp, .inr (8, [.ref by_, .int tl])), (by_, .inl (cb, 240, .inl tb))] [(cb, .char)])) (va_Qv (fun _ : Unit => True) (fun (_ : Unit) t => q_B (dC, dI) A [(rd, .inr (6, [.ref tp, .int (o), .int rv])), (tp, .inr (8, [.ref by_, .int tl])), (by_, .inl (cb, 240, .inl tb))] [(cb, .char)] t) A) 0 0 A := by
  refine Met.ofW (cc := cX6_skipBlanks) (maxL := 1) (ret := none) (by decide) rfl ?_
  intro p e s m args below meth c s₁ B hml hv
  obtain ⟨rfl, hP, hK, hD, hA⟩ := hv
  have hx := B.exec
  have hb := B.bytes
  have hr := B.returns
  have hts := atoms_spec (ws := .code yX6_skipBlanks cX6_skipBlanks 1 none :: wA) B.pre
  have hown : s.vm.findClass RX6 = some m.cls := findClass_of_methodNamed B.named
  have hlocks := B.notSynchronized
  have hS : va_S A s.heap s.heap [] := va_S.rf
  have hl := lv_entry ([.ref rd]) (n := 1) (Nat.le_of_ble_eq_true rfl)
  rw [lg_entry_eq]
  generalize (lg_sl ([.ref rd]) ++ List.replicate (1 - (lg_sl ([.ref rd])).length) Slot.unset).toArray = ls at hl ⊢
  have hl : lv_has ls 1 [(0, .ref rd)] := hl
  unfold F_X6_skipBlanks at hG
  have L_0 : ∀ (n_0 : Nat) (ra_c : Int32) (H : Heap) (locs : List Loc) (ls : Array Slot), FL_X6_skipBlanks_0 tb tl ra n_0 ra_c = some o → va_P (dC, dI) vwCl [(rd, .inr (6, [.ref tp, .int ra_c, .int rv])), (tp, .inr (8, [.ref by_, .int tl])), (by_, .inl (cb, 240, .inl tb))] H → va_D A [(rd, .inr (6, [.ref tp, .int ra_c, .int rv])), (tp, .inr (8, [.ref by_, .int tl])), (by_, .inl (cb, 240, .inl tb))] → va_S A s.heap H locs → lv_has ls 1 [(0, .ref rd)] → W p l e (headSpec (.code yX6_skipBlanks cX6_skipBlanks 1 none :: wA) ({ frames := 0, cells := 0, slots := 0, locals := 0 })).room s m #[.ref rd] below meth c H locs 0 0 (MQ below (va_Qv (fun _ : Unit => True) (fun (_ : Unit) t => q_B (dC, dI) A [(rd, .inr (6, [.ref tp, .int (o), .int rv])), (tp, .inr (8, [.ref by_, .int tl])), (by_, .inl (cb, 240, .inl tb))] [(cb, .char)] t) A) #[.ref rd] s 0 0 A) (F0 m 0 ls []) := by
    intro n_0
    induction n_0 with
    | zero =>
      intro ra_c H locs ls hG
      exact q_no hG
    | succ n_0 ih_0 =>
      intro ra_c H locs ls hG hP hD hS hl
      unfold FL_X6_skipBlanks_0 at hG
      refine lv_aload_n hx hb dX6_skipBlanks_0 rfl (lv_at hl 0 rfl) ?_
      refine va_get (D := (dC, dI)) (ci := 6) (v := .int ra_c) (C := RX6) (T := TX6) (N := 3) hx hb hts iA_6 hown hK hP 0 rfl rfl 1 (by decide) (hts (.fieldLink RX6 9 "HubTree$Reader" "at" "I") (List.mem_cons_of_mem _ m_67)) (fun _ h9 => h9) rfl dX6_skipBlanks_1 ?_
      refine lv_aload_n hx hb dX6_skipBlanks_4 rfl (lv_at hl 0 rfl) ?_
      refine va_get (D := (dC, dI)) (ci := 6) (v := .ref tp) (C := RX6) (T := TX6) (N := 3) hx hb hts iA_6 hown hK hP 0 rfl rfl 0 (by decide) (hts (.fieldLink RX6 18 "HubTree$Reader" "tape" "LHubTree$Tape;") (List.mem_cons_of_mem _ m_69)) (fun _ h9 => h9) rfl dX6_skipBlanks_5 ?_
      refine va_get (D := (dC, dI)) (ci := 8) (v := .int tl) (C := RX8) (T := TX8) (N := 2) hx hb hts iA_8 hown hK hP 1 rfl rfl 1 (by decide) (hts (.fieldLink RX6 67 "HubTree$Tape" "length" "I") (List.mem_cons_of_mem _ m_171)) (fun _ h9 => h9) rfl dX6_skipBlanks_8 ?_
      refine lv_icmp_ge (tgt := 44) hx hb dX6_skipBlanks_11 (by decide) (fun c_1 => ?_) (fun c_1 => ?_)
      · have hG := q_ifp c_1 hG
        obtain rfl := Option.some.inj hG
        have hP9 := hP.sub (ws' := [(rd, .inr (6, [.ref tp, .int ra_c, .int rv])), (tp, .inr (8, [.ref by_, .int tl])), (by_, .inl (cb, 240, .inl tb))]) [0, 1, 2] rfl
        have hD9 := hD.sub (ws' := [(rd, .inr (6, [.ref tp, .int ra_c, .int rv])), (tp, .inr (8, [.ref by_, .int tl])), (by_, .inl (cb, 240, .inl tb))]) [0, 1, 2] (by decide) rfl
        have hK9 := hK.sub (tys' := [(cb, .char)]) [0] rfl
        exact W.vret hx hb hr (fun t ht hW => ⟨⟨(), rfl, trivial, by rw [ht]; exact hP9, va_K.moved hW.alike hK9, hD9⟩, hS.F ht⟩) hS.2.2 dX6_skipBlanks_44
      · have hG := q_ifn c_1 hG
        refine lv_aload_n hx hb dX6_skipBlanks_14 rfl (lv_at hl 0 rfl) ?_
        refine va_get (D := (dC, dI)) (ci := 6) (v := .ref tp) (C := RX6) (T := TX6) (N := 3) hx hb hts iA_6 hown hK hP 0 rfl rfl 0 (by decide) (hts (.fieldLink RX6 18 "HubTree$Reader" "tape" "LHubTree$Tape;") (List.mem_cons_of_mem _ m_69)) (fun _ h9 => h9) rfl dX6_skipBlanks_15 ?_
        refine va_get (D := (dC, dI)) (ci := 8) (v := .ref by_) (C := RX8) (T := TX8) (N := 2) hx hb hts iA_8 hown hK hP 1 rfl rfl 0 (by decide) (hts (.fieldLink RX6 81 "HubTree$Tape" "bytes" "[C") (List.mem_cons_of_mem _ m_184)) (fun _ h9 => h9) rfl dX6_skipBlanks_18 ?_
        refine lv_aload_n hx hb dX6_skipBlanks_21 rfl (lv_at hl 0 rfl) ?_
        refine va_get (D := (dC, dI)) (ci := 6) (v := .int ra_c) (C := RX6) (T := TX6) (N := 3) hx hb hts iA_6 hown hK hP 0 rfl rfl 1 (by decide) (hts (.fieldLink RX6 9 "HubTree$Reader" "at" "I") (List.mem_cons_of_mem _ m_67)) (fun _ h9 => h9) rfl dX6_skipBlanks_22 ?_
        obtain ⟨h_2, hG⟩ := q_ix hG
        refine va_cald hx hb hK hP 2 0 rfl rfl (i := ra_c) h_2 dX6_skipBlanks_25 ?_
        refine q_top (y := (tb (ra_c).toNatClampNeg)) rfl ?_
        refine lv_bipush (v := 32) hx hb dX6_skipBlanks_26 (by decide) ?_
        refine lv_icmp_ne (tgt := 44) hx hb dX6_skipBlanks_28 (by decide) (fun c_3 => ?_) (fun c_3 => ?_)
        · have hG := q_ifn c_3 hG
          obtain rfl := Option.some.inj hG
          have hP9 := hP.sub (ws' := [(rd, .inr (6, [.ref tp, .int ra_c, .int rv])), (tp, .inr (8, [.ref by_, .int tl])), (by_, .inl (cb, 240, .inl tb))]) [0, 1, 2] rfl
          have hD9 := hD.sub (ws' := [(rd, .inr (6, [.ref tp, .int ra_c, .int rv])), (tp, .inr (8, [.ref by_, .int tl])), (by_, .inl (cb, 240, .inl tb))]) [0, 1, 2] (by decide) rfl
          have hK9 := hK.sub (tys' := [(cb, .char)]) [0] rfl
          exact W.vret hx hb hr (fun t ht hW => ⟨⟨(), rfl, trivial, by rw [ht]; exact hP9, va_K.moved hW.alike hK9, hD9⟩, hS.F ht⟩) hS.2.2 dX6_skipBlanks_44
        · have hG := q_ifp c_3 hG
          refine lv_aload_n hx hb dX6_skipBlanks_31 rfl (lv_at hl 0 rfl) ?_
          refine lv_dup hx hb dX6_skipBlanks_32 rfl ?_
          refine va_get (D := (dC, dI)) (ci := 6) (v := .int ra_c) (C := RX6) (T := TX6) (N := 3) hx hb hts iA_6 hown hK hP 0 rfl rfl 1 (by decide) (hts (.fieldLink RX6 9 "HubTree$Reader" "at" "I") (List.mem_cons_of_mem _ m_67)) (fun _ h9 => h9) rfl dX6_skipBlanks_33 ?_
          refine lv_iconst (v := 1) hx hb dX6_skipBlanks_36 (by decide) ?_
          refine lv_iadd hx hb dX6_skipBlanks_37 ?_
          refine va_put (D := (dC, dI)) (ci := 6) (v := .int (ra_c + 1)) (ty := .int) (C := RX6) (T := TX6) (N := 3) hx hb hts iA_6 tyX6 tyX6_ok nmX6 hown hK hP hD hS 0 rfl rfl 1 (by decide) (hts (.fieldLink RX6 9 "HubTree$Reader" "at" "I") (List.mem_cons_of_mem _ m_67)) (fun _ h9 => h9) rfl (by decide +kernel) rfl rfl (Nat.le_of_ble_eq_true rfl) dX6_skipBlanks_38 (fun H locs hP hD hS => ?_)
          have hP : va_P (dC, dI) vwCl [(rd, .inr (6, [.ref tp, .int (ra_c + 1), .int rv])), (tp, .inr (8, [.ref by_, .int tl])), (by_, .inl (cb, 240, .inl tb))] H := hP
          have hD : va_D A [(rd, .inr (6, [.ref tp, .int (ra_c + 1), .int rv])), (tp, .inr (8, [.ref by_, .int tl])), (by_, .inl (cb, 240, .inl tb))] := hD
          refine lv_goto (tgt := 0) hx hb dX6_skipBlanks_41 (by decide) ?_
          exact ih_0 (ra_c + 1) H locs ls hG hP hD hS (lv_sub hl [0] rfl)
  exact L_0 1000 ra s.heap [] ls hG hP hD hS hl

def F_X6_readDigit (tb : Nat → Int32) (tl : Int32) (ra : Int32) (rv : Int32) : Option (Int32 × Int32 × Int32) := ((F_X6_standsDigit tb tl ra).bind fun o_1 => (if o_1 = 0 then some (0, ra, rv) else (if ra < 0 ∨ 240 ≤ (ra).toNatClampNeg then none else some (1, (ra + 1), ((tb (ra).toNatClampNeg) - 48)))))
set_option maxHeartbeats 4000000 in
set_option maxRecDepth 100000 in
theorem c_X6_readDigit (l : Launch) (dC : Nat → ClassId) (dI : Nat → Nat → Nat) (rd : Nat) (tp : Nat) (by_ : Nat) (cb : ClassId) (tb : Nat → Int32) (tl : Int32) (ra : Int32) (rv : Int32) (A : Nat → Prop) (o : Int32 × Int32 × Int32) (hG : F_X6_readDigit tb tl ra rv = some o) : Met l yX6_readDigit (.code yX6_readDigit cX6_readDigit 1 (some .boolean) :: wA) ({ frames := 1, cells := 0, slots := 0, locals := 20 }) (va_Pc [.ref rd] (q_W (dC, dI) A [(rd, .inr (6, [.ref tp, .int ra, .int rv])), (tp, .inr (8, [.ref by_, .int tl])), (by_, .inl (cb, 240, .inl tb))] [(cb, .char)])) (va_Qi (fun (r : Int32) (_ : Unit) => r = o.1 ∧ True) (fun (_ : Unit) t => q_B (dC, dI) A [(rd, .inr (6, [.ref tp, .int (o.2.1), .int (o.2.2)])), (tp, .inr (8, [.ref by_, .int tl])), (by_, .inl (cb, 240, .inl tb))] [(cb, .char)] t) A) 0 0 A := by
  refine Met.ofW (cc := cX6_readDigit) (maxL := 1) (ret := (some .boolean)) (by decide) rfl ?_
  intro p e s m args below meth c s₁ B hml hv
  obtain ⟨rfl, hP, hK, hD, hA⟩ := hv
  have hx := B.exec
  have hb := B.bytes
  have hr := B.returns
  have hts := atoms_spec (ws := .code yX6_readDigit cX6_readDigit 1 (some .boolean) :: wA) B.pre
  have hown : s.vm.findClass RX6 = some m.cls := findClass_of_methodNamed B.named
  have hlocks := B.notSynchronized
  have hS : va_S A s.heap s.heap [] := va_S.rf
  have hl := lv_entry ([.ref rd]) (n := 1) (Nat.le_of_ble_eq_true rfl)
  rw [lg_entry_eq]
  generalize (lg_sl ([.ref rd]) ++ List.replicate (1 - (lg_sl ([.ref rd])).length) Slot.unset).toArray = ls at hl ⊢
  have hl : lv_has ls 1 [(0, .ref rd)] := hl
  unfold F_X6_readDigit at hG
  refine lv_aload_n hx hb dX6_readDigit_0 rfl (lv_at hl 0 rfl) ?_
  obtain ⟨o_1, r_2, hG⟩ := q_bi hG
  refine q_goi (v := o_1) (va_runV (As := []) (rest := []) ⟨hx, hb, hml, hown, hts⟩ (c_X6_standsDigit l dC dI rd tp by_ cb tb tl ra rv o_1 r_2) (cwV 0 hts (q_gV m_291 m_292 m_293 m_20 m_294) rfl rfl rfl hdV_yX6_standsDigit_0 ⟨Nat.le_of_ble_eq_true rfl, Nat.le_of_ble_eq_true rfl⟩) (q_preV hK hP (q := (RX6, TX6, 3)) (ci := 6) (q0 := 0) rfl rfl [0, 1, 2] rfl [0] rfl) rfl rfl hl.1 rfl (lv_room (Nat.le_of_ble_eq_true rfl)) dX6_readDigit_1 ⟨Nat.le_of_ble_eq_true rfl, Nat.le_of_ble_eq_true rfl⟩) hP hS (fun H locs hP hS => ?_)
  refine lv_if_ne (tgt := 9) hx hb dX6_readDigit_4 (by decide) (fun c_3 => ?_) (fun c_3 => ?_)
  · have hG := q_ifn c_3 hG
    refine lv_aload_n hx hb dX6_readDigit_9 rfl (lv_at hl 0 rfl) ?_
    refine lv_aload_n hx hb dX6_readDigit_10 rfl (lv_at hl 0 rfl) ?_
    refine va_get (D := (dC, dI)) (ci := 6) (v := .ref tp) (C := RX6) (T := TX6) (N := 3) hx hb hts iA_6 hown hK hP 0 rfl rfl 0 (by decide) (hts (.fieldLink RX6 18 "HubTree$Reader" "tape" "LHubTree$Tape;") (List.mem_cons_of_mem _ m_69)) (fun _ h9 => h9) rfl dX6_readDigit_11 ?_
    refine va_get (D := (dC, dI)) (ci := 8) (v := .ref by_) (C := RX8) (T := TX8) (N := 2) hx hb hts iA_8 hown hK hP 1 rfl rfl 0 (by decide) (hts (.fieldLink RX6 81 "HubTree$Tape" "bytes" "[C") (List.mem_cons_of_mem _ m_184)) (fun _ h9 => h9) rfl dX6_readDigit_14 ?_
    refine lv_aload_n hx hb dX6_readDigit_17 rfl (lv_at hl 0 rfl) ?_
    refine va_get (D := (dC, dI)) (ci := 6) (v := .int ra) (C := RX6) (T := TX6) (N := 3) hx hb hts iA_6 hown hK hP 0 rfl rfl 1 (by decide) (hts (.fieldLink RX6 9 "HubTree$Reader" "at" "I") (List.mem_cons_of_mem _ m_67)) (fun _ h9 => h9) rfl dX6_readDigit_18 ?_
    obtain ⟨h_4, hG⟩ := q_ix hG
    refine va_cald hx hb hK hP 2 0 rfl rfl (i := ra) h_4 dX6_readDigit_21 ?_
    refine q_top (y := (tb (ra).toNatClampNeg)) rfl ?_
    refine lv_bipush (v := 48) hx hb dX6_readDigit_22 (by decide) ?_
    refine lv_isub hx hb dX6_readDigit_24 ?_
    refine va_put (D := (dC, dI)) (ci := 6) (v := .int ((tb (ra).toNatClampNeg) - 48)) (ty := .int) (C := RX6) (T := TX6) (N := 3) hx hb hts iA_6 tyX6 tyX6_ok nmX6 hown hK hP hD hS 0 rfl rfl 2 (by decide) (hts (.fieldLink RX6 15 "HubTree$Reader" "value" "I") (List.mem_cons_of_mem _ m_68)) (fun _ h9 => h9) rfl (by decide +kernel) rfl rfl (Nat.le_of_ble_eq_true rfl) dX6_readDigit_25 (fun H locs hP hD hS => ?_)
    have hP : va_P (dC, dI) vwCl [(rd, .inr (6, [.ref tp, .int ra, .int ((tb (ra).toNatClampNeg) - 48)])), (tp, .inr (8, [.ref by_, .int tl])), (by_, .inl (cb, 240, .inl tb))] H := hP
    have hD : va_D A [(rd, .inr (6, [.ref tp, .int ra, .int ((tb (ra).toNatClampNeg) - 48)])), (tp, .inr (8, [.ref by_, .int tl])), (by_, .inl (cb, 240, .inl tb))] := hD
    refine lv_aload_n hx hb dX6_readDigit_28 rfl (lv_at hl 0 rfl) ?_
    refine lv_dup hx hb dX6_readDigit_29 rfl ?_
    refine va_get (D := (dC, dI)) (ci := 6) (v := .int ra) (C := RX6) (T := TX6) (N := 3) hx hb hts iA_6 hown hK hP 0 rfl rfl 1 (by decide) (hts (.fieldLink RX6 9 "HubTree$Reader" "at" "I") (List.mem_cons_of_mem _ m_67)) (fun _ h9 => h9) rfl dX6_readDigit_30 ?_
    refine lv_iconst (v := 1) hx hb dX6_readDigit_33 (by decide) ?_
    refine lv_iadd hx hb dX6_readDigit_34 ?_
    refine va_put (D := (dC, dI)) (ci := 6) (v := .int (ra + 1)) (ty := .int) (C := RX6) (T := TX6) (N := 3) hx hb hts iA_6 tyX6 tyX6_ok nmX6 hown hK hP hD hS 0 rfl rfl 1 (by decide) (hts (.fieldLink RX6 9 "HubTree$Reader" "at" "I") (List.mem_cons_of_mem _ m_67)) (fun _ h9 => h9) rfl (by decide +kernel) rfl rfl (Nat.le_of_ble_eq_true rfl) dX6_readDigit_35 (fun H locs hP hD hS => ?_)
    have hP : va_P (dC, dI) vwCl [(rd, .inr (6, [.ref tp, .int (ra + 1), .int ((tb (ra).toNatClampNeg) - 48)])), (tp, .inr (8, [.ref by_, .int tl])), (by_, .inl (cb, 240, .inl tb))] H := hP
    have hD : va_D A [(rd, .inr (6, [.ref tp, .int (ra + 1), .int ((tb (ra).toNatClampNeg) - 48)])), (tp, .inr (8, [.ref by_, .int tl])), (by_, .inl (cb, 240, .inl tb))] := hD
    refine lv_iconst (v := 1) hx hb dX6_readDigit_38 (by decide) ?_
    obtain rfl := Option.some.inj hG
    have hP9 := hP.sub (ws' := [(rd, .inr (6, [.ref tp, .int (ra + 1), .int ((tb (ra).toNatClampNeg) - 48)])), (tp, .inr (8, [.ref by_, .int tl])), (by_, .inl (cb, 240, .inl tb))]) [0, 1, 2] rfl
    have hD9 := hD.sub (ws' := [(rd, .inr (6, [.ref tp, .int (ra + 1), .int ((tb (ra).toNatClampNeg) - 48)])), (tp, .inr (8, [.ref by_, .int tl])), (by_, .inl (cb, 240, .inl tb))]) [0, 1, 2] (by decide) rfl
    have hK9 := hK.sub (tys' := [(cb, .char)]) [0] rfl
    exact W.zret (v := 1) hx hb hr rfl (fun t ht hW => ⟨⟨1, (), rfl, ⟨rfl, trivial⟩, by rw [ht]; exact hP9, va_K.moved hW.alike hK9, hD9⟩, hS.F ht⟩) hS.2.2 dX6_readDigit_39
  · have hG := q_ifp c_3 hG
    refine lv_iconst (v := 0) hx hb dX6_readDigit_7 (by decide) ?_
    obtain rfl := Option.some.inj hG
    have hP9 := hP.sub (ws' := [(rd, .inr (6, [.ref tp, .int ra, .int rv])), (tp, .inr (8, [.ref by_, .int tl])), (by_, .inl (cb, 240, .inl tb))]) [0, 1, 2] rfl
    have hD9 := hD.sub (ws' := [(rd, .inr (6, [.ref tp, .int ra, .int rv])), (tp, .inr (8, [.ref by_, .int tl])), (by_, .inl (cb, 240, .inl tb))]) [0, 1, 2] (by decide) rfl
    have hK9 := hK.sub (tys' := [(cb, .char)]) [0] rfl
    exact W.zret (v := 0) hx hb hr rfl (fun t ht hW => ⟨⟨0, (), rfl, ⟨rfl, trivial⟩, by rw [ht]; exact hP9, va_K.moved hW.alike hK9, hD9⟩, hS.F ht⟩) hS.2.2 dX6_readDigit_8

def FL_X6_readNumber_4 (tb : Nat → Int32) (tl : Int32) (ra : Int32) (rv : Int32) (z : Int32) : Nat → Int32 → Int32 → (Int32) → (Int32) → Option (Int32 × Int32 × Int32)
  | 0, _, _, _, _ => none
  | n + 1, x2_4, x3_4, ra_c, rv_c => (if z ≤ x3_4 then (if x3_4 ≤ 0 then some (0, ra_c, x2_4) else ((F_X6_standsDigit tb tl ra_c).bind fun o_3 => (if o_3 = 0 then some (1, ra_c, x2_4) else some (0, ra_c, x2_4)))) else ((F_X6_readDigit tb tl ra_c rv_c).bind fun o_6 => (if o_6.1 = 0 then (if x3_4 ≤ 0 then some (0, (o_6.2.1), x2_4) else ((F_X6_standsDigit tb tl (o_6.2.1)).bind fun o_10 => (if o_10 = 0 then some (1, (o_6.2.1), x2_4) else some (0, (o_6.2.1), x2_4)))) else (FL_X6_readNumber_4 tb tl ra rv z n ((x2_4 * 10) + (o_6.2.2)) (x3_4 + 1) (o_6.2.1) (o_6.2.2)))))

def F_X6_readNumber (tb : Nat → Int32) (tl : Int32) (ra : Int32) (rv : Int32) (z : Int32) : Option (Int32 × Int32 × Int32) := (FL_X6_readNumber_4 tb tl ra rv z 1000 0 0 ra rv)
set_option maxHeartbeats 4000000 in
set_option maxRecDepth 100000 in
theorem c_X6_readNumber (l : Launch) (dC : Nat → ClassId) (dI : Nat → Nat → Nat) (rd : Nat) (tp : Nat) (by_ : Nat) (cb : ClassId) (tb : Nat → Int32) (tl : Int32) (ra : Int32) (rv : Int32) (z : Int32) (A : Nat → Prop) (o : Int32 × Int32 × Int32) (hG : F_X6_readNumber tb tl ra rv z = some o) : Met l yX6_readNumber (.code yX6_readNumber cX6_readNumber 4 (some .boolean) :: wA) ({ frames := 2, cells := 0, slots := 0, locals := 40 }) (va_Pc [.ref rd, .int z] (q_W (dC, dI) A [(rd, .inr (6, [.ref tp, .int ra, .int rv])), (tp, .inr (8, [.ref by_, .int tl])), (by_, .inl (cb, 240, .inl tb))] [(cb, .char)])) (va_Qi (fun (r : Int32) (_ : Unit) => r = o.1 ∧ True) (fun (_ : Unit) t => q_B (dC, dI) A [(rd, .inr (6, [.ref tp, .int (o.2.1), .int (o.2.2)])), (tp, .inr (8, [.ref by_, .int tl])), (by_, .inl (cb, 240, .inl tb))] [(cb, .char)] t) A) 0 0 A := by
  refine Met.ofW (cc := cX6_readNumber) (maxL := 4) (ret := (some .boolean)) (by decide) rfl ?_
  intro p e s m args below meth c s₁ B hml hv
  obtain ⟨rfl, hP, hK, hD, hA⟩ := hv
  have hx := B.exec
  have hb := B.bytes
  have hr := B.returns
  have hts := atoms_spec (ws := .code yX6_readNumber cX6_readNumber 4 (some .boolean) :: wA) B.pre
  have hown : s.vm.findClass RX6 = some m.cls := findClass_of_methodNamed B.named
  have hlocks := B.notSynchronized
  have hS : va_S A s.heap s.heap [] := va_S.rf
  have hl := lv_entry ([.ref rd, .int z]) (n := 4) (Nat.le_of_ble_eq_true rfl)
  rw [lg_entry_eq]
  generalize (lg_sl ([.ref rd, .int z]) ++ List.replicate (4 - (lg_sl ([.ref rd, .int z])).length) Slot.unset).toArray = ls at hl ⊢
  have hl : lv_has ls 4 [(0, .ref rd), (1, .int z)] := hl
  unfold F_X6_readNumber at hG
  refine lv_iconst (v := 0) hx hb dX6_readNumber_0 (by decide) ?_
  refine lv_istore_n (lv' := [(2, .int 0), (0, .ref rd), (1, .int z)]) hx hb dX6_readNumber_1 rfl hl (by decide) rfl (fun ls hl => ?_)
  refine lv_iconst (v := 0) hx hb dX6_readNumber_2 (by decide) ?_
  refine lv_istore_n (lv' := [(3, .int 0), (2, .int 0), (0, .ref rd), (1, .int z)]) hx hb dX6_readNumber_3 rfl hl (by decide) rfl (fun ls hl => ?_)
  have L_4 : ∀ (n_4 : Nat) (x2_4 : Int32) (x3_4 : Int32) (ra_c : Int32) (rv_c : Int32) (H : Heap) (locs : List Loc) (ls : Array Slot), FL_X6_readNumber_4 tb tl ra rv z n_4 x2_4 x3_4 ra_c rv_c = some o → va_P (dC, dI) vwCl [(rd, .inr (6, [.ref tp, .int ra_c, .int rv_c])), (tp, .inr (8, [.ref by_, .int tl])), (by_, .inl (cb, 240, .inl tb))] H → va_D A [(rd, .inr (6, [.ref tp, .int ra_c, .int rv_c])), (tp, .inr (8, [.ref by_, .int tl])), (by_, .inl (cb, 240, .inl tb))] → va_S A s.heap H locs → lv_has ls 4 [(3, .int x3_4), (2, .int x2_4), (0, .ref rd), (1, .int z)] → W p l e (headSpec (.code yX6_readNumber cX6_readNumber 4 (some .boolean) :: wA) ({ frames := 2, cells := 0, slots := 0, locals := 40 })).room s m #[.ref rd, .int z] below meth c H locs 0 0 (MQ below (va_Qi (fun (r : Int32) (_ : Unit) => r = o.1 ∧ True) (fun (_ : Unit) t => q_B (dC, dI) A [(rd, .inr (6, [.ref tp, .int (o.2.1), .int (o.2.2)])), (tp, .inr (8, [.ref by_, .int tl])), (by_, .inl (cb, 240, .inl tb))] [(cb, .char)] t) A) #[.ref rd, .int z] s 0 0 A) (F0 m 4 ls []) := by
    intro n_4
    induction n_4 with
    | zero =>
      intro x2_4 x3_4 ra_c rv_c H locs ls hG
      exact q_no hG
    | succ n_4 ih_4 =>
      intro x2_4 x3_4 ra_c rv_c H locs ls hG hP hD hS hl
      unfold FL_X6_readNumber_4 at hG
      refine lv_iload_n hx hb dX6_readNumber_4 rfl (lv_at hl 0 rfl) ?_
      refine lv_iload_n hx hb dX6_readNumber_5 rfl (lv_at hl 3 rfl) ?_
      refine lv_icmp_ge (tgt := 32) hx hb dX6_readNumber_6 (by decide) (fun c_1 => ?_) (fun c_1 => ?_)
      · have hG := q_ifp c_1 hG
        refine lv_aload_n hx hb dX6_readNumber_32 rfl (lv_at hl 2 rfl) ?_
        refine lv_iload_n hx hb dX6_readNumber_33 rfl (lv_at hl 1 rfl) ?_
        refine va_put (D := (dC, dI)) (ci := 6) (v := .int x2_4) (ty := .int) (C := RX6) (T := TX6) (N := 3) hx hb hts iA_6 tyX6 tyX6_ok nmX6 hown hK hP hD hS 0 rfl rfl 2 (by decide) (hts (.fieldLink RX6 15 "HubTree$Reader" "value" "I") (List.mem_cons_of_mem _ m_68)) (fun _ h9 => h9) rfl (by decide +kernel) rfl rfl (Nat.le_of_ble_eq_true rfl) dX6_readNumber_34 (fun H locs hP hD hS => ?_)
        have hP : va_P (dC, dI) vwCl [(rd, .inr (6, [.ref tp, .int ra_c, .int x2_4])), (tp, .inr (8, [.ref by_, .int tl])), (by_, .inl (cb, 240, .inl tb))] H := hP
        have hD : va_D A [(rd, .inr (6, [.ref tp, .int ra_c, .int x2_4])), (tp, .inr (8, [.ref by_, .int tl])), (by_, .inl (cb, 240, .inl tb))] := hD
        refine lv_iload_n hx hb dX6_readNumber_37 rfl (lv_at hl 0 rfl) ?_
        refine lv_if_le (tgt := 52) hx hb dX6_readNumber_38 (by decide) (fun c_2 => ?_) (fun c_2 => ?_)
        · have hG := q_ifp c_2 hG
          refine lv_iconst (v := 0) hx hb dX6_readNumber_52 (by decide) ?_
          obtain rfl := Option.some.inj hG
          have hP9 := hP.sub (ws' := [(rd, .inr (6, [.ref tp, .int ra_c, .int x2_4])), (tp, .inr (8, [.ref by_, .int tl])), (by_, .inl (cb, 240, .inl tb))]) [0, 1, 2] rfl
          have hD9 := hD.sub (ws' := [(rd, .inr (6, [.ref tp, .int ra_c, .int x2_4])), (tp, .inr (8, [.ref by_, .int tl])), (by_, .inl (cb, 240, .inl tb))]) [0, 1, 2] (by decide) rfl
          have hK9 := hK.sub (tys' := [(cb, .char)]) [0] rfl
          exact W.zret (v := 0) hx hb hr rfl (fun t ht hW => ⟨⟨0, (), rfl, ⟨rfl, trivial⟩, by rw [ht]; exact hP9, va_K.moved hW.alike hK9, hD9⟩, hS.F ht⟩) hS.2.2 dX6_readNumber_53
        · have hG := q_ifn c_2 hG
          refine lv_aload_n hx hb dX6_readNumber_41 rfl (lv_at hl 2 rfl) ?_
          obtain ⟨o_3, r_4, hG⟩ := q_bi hG
          refine q_goi (v := o_3) (va_runV (As := []) (rest := []) ⟨hx, hb, hml, hown, hts⟩ (c_X6_standsDigit l dC dI rd tp by_ cb tb tl ra_c x2_4 o_3 r_4) (cwV 0 hts (q_gV m_291 m_292 m_293 m_20 m_294) rfl rfl rfl hdV_yX6_standsDigit_0 ⟨Nat.le_of_ble_eq_true rfl, Nat.le_of_ble_eq_true rfl⟩) (q_preV hK hP (q := (RX6, TX6, 3)) (ci := 6) (q0 := 0) rfl rfl [0, 1, 2] rfl [0] rfl) rfl rfl hl.1 rfl (lv_room (Nat.le_of_ble_eq_true rfl)) dX6_readNumber_42 ⟨Nat.le_of_ble_eq_true rfl, Nat.le_of_ble_eq_true rfl⟩) hP hS (fun H locs hP hS => ?_)
          refine lv_if_ne (tgt := 52) hx hb dX6_readNumber_45 (by decide) (fun c_5 => ?_) (fun c_5 => ?_)
          · have hG := q_ifn c_5 hG
            refine lv_iconst (v := 0) hx hb dX6_readNumber_52 (by decide) ?_
            obtain rfl := Option.some.inj hG
            have hP9 := hP.sub (ws' := [(rd, .inr (6, [.ref tp, .int ra_c, .int x2_4])), (tp, .inr (8, [.ref by_, .int tl])), (by_, .inl (cb, 240, .inl tb))]) [0, 1, 2] rfl
            have hD9 := hD.sub (ws' := [(rd, .inr (6, [.ref tp, .int ra_c, .int x2_4])), (tp, .inr (8, [.ref by_, .int tl])), (by_, .inl (cb, 240, .inl tb))]) [0, 1, 2] (by decide) rfl
            have hK9 := hK.sub (tys' := [(cb, .char)]) [0] rfl
            exact W.zret (v := 0) hx hb hr rfl (fun t ht hW => ⟨⟨0, (), rfl, ⟨rfl, trivial⟩, by rw [ht]; exact hP9, va_K.moved hW.alike hK9, hD9⟩, hS.F ht⟩) hS.2.2 dX6_readNumber_53
          · have hG := q_ifp c_5 hG
            refine lv_iconst (v := 1) hx hb dX6_readNumber_48 (by decide) ?_
            refine lv_goto (tgt := 53) hx hb dX6_readNumber_49 (by decide) ?_
            obtain rfl := Option.some.inj hG
            have hP9 := hP.sub (ws' := [(rd, .inr (6, [.ref tp, .int ra_c, .int x2_4])), (tp, .inr (8, [.ref by_, .int tl])), (by_, .inl (cb, 240, .inl tb))]) [0, 1, 2] rfl
            have hD9 := hD.sub (ws' := [(rd, .inr (6, [.ref tp, .int ra_c, .int x2_4])), (tp, .inr (8, [.ref by_, .int tl])), (by_, .inl (cb, 240, .inl tb))]) [0, 1, 2] (by decide) rfl
            have hK9 := hK.sub (tys' := [(cb, .char)]) [0] rfl
            exact W.zret (v := 1) hx hb hr rfl (fun t ht hW => ⟨⟨1, (), rfl, ⟨rfl, trivial⟩, by rw [ht]; exact hP9, va_K.moved hW.alike hK9, hD9⟩, hS.F ht⟩) hS.2.2 dX6_readNumber_53
      · have hG := q_ifn c_1 hG
        refine lv_aload_n hx hb dX6_readNumber_9 rfl (lv_at hl 2 rfl) ?_
        obtain ⟨o_6, r_7, hG⟩ := q_bi hG
        refine q_goi2 (v := o_6.1) (wr := []) (va_runV (As := []) (rest := []) ⟨hx, hb, hml, hown, hts⟩ (c_X6_readDigit l dC dI rd tp by_ cb tb tl ra_c rv_c (va_A [(rd, .inr (6, [.ref tp, .int ra_c, .int rv_c])), (tp, .inr (8, [.ref by_, .int tl])), (by_, .inl (cb, 240, .inl tb))] H.size) o_6 r_7) (cwV 0 hts (q_gV m_287 m_288 m_289 m_20 m_290) rfl rfl rfl hdV_yX6_readDigit_0 ⟨Nat.le_of_ble_eq_true rfl, Nat.le_of_ble_eq_true rfl⟩) (q_preWV hK hP hD (q := (RX6, TX6, 3)) (ci := 6) (q0 := 0) rfl rfl [0, 1, 2] (by decide) rfl rfl [0] rfl) rfl rfl hl.1 rfl (lv_room (Nat.le_of_ble_eq_true rfl)) dX6_readNumber_10 ⟨Nat.le_of_ble_eq_true rfl, Nat.le_of_ble_eq_true rfl⟩) hK hP hD hS hA [0, 1, 2] [] rfl rfl (by decide) (by decide) (fun _ H locs _ hP hD hK9 hS => ?_)
        have hP : va_P (dC, dI) vwCl [(rd, .inr (6, [.ref tp, .int (o_6.2.1), .int (o_6.2.2)])), (tp, .inr (8, [.ref by_, .int tl])), (by_, .inl (cb, 240, .inl tb))] H := hP.sub [0, 1, 2] rfl
        have hD : va_D A [(rd, .inr (6, [.ref tp, .int (o_6.2.1), .int (o_6.2.2)])), (tp, .inr (8, [.ref by_, .int tl])), (by_, .inl (cb, 240, .inl tb))] := hD.sub [0, 1, 2] (by decide) rfl
        refine lv_if_eq (tgt := 32) hx hb dX6_readNumber_13 (by decide) (fun c_8 => ?_) (fun c_8 => ?_)
        · have hG := q_ifp c_8 hG
          refine lv_aload_n hx hb dX6_readNumber_32 rfl (lv_at hl 2 rfl) ?_
          refine lv_iload_n hx hb dX6_readNumber_33 rfl (lv_at hl 1 rfl) ?_
          refine va_put (D := (dC, dI)) (ci := 6) (v := .int x2_4) (ty := .int) (C := RX6) (T := TX6) (N := 3) hx hb hts iA_6 tyX6 tyX6_ok nmX6 hown hK hP hD hS 0 rfl rfl 2 (by decide) (hts (.fieldLink RX6 15 "HubTree$Reader" "value" "I") (List.mem_cons_of_mem _ m_68)) (fun _ h9 => h9) rfl (by decide +kernel) rfl rfl (Nat.le_of_ble_eq_true rfl) dX6_readNumber_34 (fun H locs hP hD hS => ?_)
          have hP : va_P (dC, dI) vwCl [(rd, .inr (6, [.ref tp, .int (o_6.2.1), .int x2_4])), (tp, .inr (8, [.ref by_, .int tl])), (by_, .inl (cb, 240, .inl tb))] H := hP
          have hD : va_D A [(rd, .inr (6, [.ref tp, .int (o_6.2.1), .int x2_4])), (tp, .inr (8, [.ref by_, .int tl])), (by_, .inl (cb, 240, .inl tb))] := hD
          refine lv_iload_n hx hb dX6_readNumber_37 rfl (lv_at hl 0 rfl) ?_
          refine lv_if_le (tgt := 52) hx hb dX6_readNumber_38 (by decide) (fun c_9 => ?_) (fun c_9 => ?_)
          · have hG := q_ifp c_9 hG
            refine lv_iconst (v := 0) hx hb dX6_readNumber_52 (by decide) ?_
            obtain rfl := Option.some.inj hG
            have hP9 := hP.sub (ws' := [(rd, .inr (6, [.ref tp, .int (o_6.2.1), .int x2_4])), (tp, .inr (8, [.ref by_, .int tl])), (by_, .inl (cb, 240, .inl tb))]) [0, 1, 2] rfl
            have hD9 := hD.sub (ws' := [(rd, .inr (6, [.ref tp, .int (o_6.2.1), .int x2_4])), (tp, .inr (8, [.ref by_, .int tl])), (by_, .inl (cb, 240, .inl tb))]) [0, 1, 2] (by decide) rfl
            have hK9 := hK.sub (tys' := [(cb, .char)]) [0] rfl
            exact W.zret (v := 0) hx hb hr rfl (fun t ht hW => ⟨⟨0, (), rfl, ⟨rfl, trivial⟩, by rw [ht]; exact hP9, va_K.moved hW.alike hK9, hD9⟩, hS.F ht⟩) hS.2.2 dX6_readNumber_53
          · have hG := q_ifn c_9 hG
            refine lv_aload_n hx hb dX6_readNumber_41 rfl (lv_at hl 2 rfl) ?_
            obtain ⟨o_10, r_11, hG⟩ := q_bi hG
            refine q_goi (v := o_10) (va_runV (As := []) (rest := []) ⟨hx, hb, hml, hown, hts⟩ (c_X6_standsDigit l dC dI rd tp by_ cb tb tl (o_6.2.1) x2_4 o_10 r_11) (cwV 0 hts (q_gV m_291 m_292 m_293 m_20 m_294) rfl rfl rfl hdV_yX6_standsDigit_0 ⟨Nat.le_of_ble_eq_true rfl, Nat.le_of_ble_eq_true rfl⟩) (q_preV hK hP (q := (RX6, TX6, 3)) (ci := 6) (q0 := 0) rfl rfl [0, 1, 2] rfl [0] rfl) rfl rfl hl.1 rfl (lv_room (Nat.le_of_ble_eq_true rfl)) dX6_readNumber_42 ⟨Nat.le_of_ble_eq_true rfl, Nat.le_of_ble_eq_true rfl⟩) hP hS (fun H locs hP hS => ?_)
            refine lv_if_ne (tgt := 52) hx hb dX6_readNumber_45 (by decide) (fun c_12 => ?_) (fun c_12 => ?_)
            · have hG := q_ifn c_12 hG
              refine lv_iconst (v := 0) hx hb dX6_readNumber_52 (by decide) ?_
              obtain rfl := Option.some.inj hG
              have hP9 := hP.sub (ws' := [(rd, .inr (6, [.ref tp, .int (o_6.2.1), .int x2_4])), (tp, .inr (8, [.ref by_, .int tl])), (by_, .inl (cb, 240, .inl tb))]) [0, 1, 2] rfl
              have hD9 := hD.sub (ws' := [(rd, .inr (6, [.ref tp, .int (o_6.2.1), .int x2_4])), (tp, .inr (8, [.ref by_, .int tl])), (by_, .inl (cb, 240, .inl tb))]) [0, 1, 2] (by decide) rfl
              have hK9 := hK.sub (tys' := [(cb, .char)]) [0] rfl
              exact W.zret (v := 0) hx hb hr rfl (fun t ht hW => ⟨⟨0, (), rfl, ⟨rfl, trivial⟩, by rw [ht]; exact hP9, va_K.moved hW.alike hK9, hD9⟩, hS.F ht⟩) hS.2.2 dX6_readNumber_53
            · have hG := q_ifp c_12 hG
              refine lv_iconst (v := 1) hx hb dX6_readNumber_48 (by decide) ?_
              refine lv_goto (tgt := 53) hx hb dX6_readNumber_49 (by decide) ?_
              obtain rfl := Option.some.inj hG
              have hP9 := hP.sub (ws' := [(rd, .inr (6, [.ref tp, .int (o_6.2.1), .int x2_4])), (tp, .inr (8, [.ref by_, .int tl])), (by_, .inl (cb, 240, .inl tb))]) [0, 1, 2] rfl
              have hD9 := hD.sub (ws' := [(rd, .inr (6, [.ref tp, .int (o_6.2.1), .int x2_4])), (tp, .inr (8, [.ref by_, .int tl])), (by_, .inl (cb, 240, .inl tb))]) [0, 1, 2] (by decide) rfl
              have hK9 := hK.sub (tys' := [(cb, .char)]) [0] rfl
              exact W.zret (v := 1) hx hb hr rfl (fun t ht hW => ⟨⟨1, (), rfl, ⟨rfl, trivial⟩, by rw [ht]; exact hP9, va_K.moved hW.alike hK9, hD9⟩, hS.F ht⟩) hS.2.2 dX6_readNumber_53
        · have hG := q_ifn c_8 hG
          refine lv_iload_n hx hb dX6_readNumber_16 rfl (lv_at hl 1 rfl) ?_
          refine lv_bipush (v := 10) hx hb dX6_readNumber_17 (by decide) ?_
          refine lv_imul hx hb dX6_readNumber_19 ?_
          refine lv_aload_n hx hb dX6_readNumber_20 rfl (lv_at hl 2 rfl) ?_
          refine va_get (D := (dC, dI)) (ci := 6) (v := .int (o_6.2.2)) (C := RX6) (T := TX6) (N := 3) hx hb hts iA_6 hown hK hP 0 rfl rfl 2 (by decide) (hts (.fieldLink RX6 15 "HubTree$Reader" "value" "I") (List.mem_cons_of_mem _ m_68)) (fun _ h9 => h9) rfl dX6_readNumber_21 ?_
          refine lv_iadd hx hb dX6_readNumber_24 ?_
          refine lv_istore_n (lv' := [(2, .int ((x2_4 * 10) + (o_6.2.2))), (3, .int x3_4), (0, .ref rd), (1, .int z)]) hx hb dX6_readNumber_25 rfl hl (by decide) rfl (fun ls hl => ?_)
          refine lv_iinc (v := (x3_4 + 1)) (lv' := [(3, .int (x3_4 + 1)), (2, .int ((x2_4 * 10) + (o_6.2.2))), (0, .ref rd), (1, .int z)]) hx hb dX6_readNumber_26 hl (k := 1) rfl (rfl) (by decide) rfl (fun ls hl => ?_)
          refine lv_goto (tgt := 4) hx hb dX6_readNumber_29 (by decide) ?_
          exact ih_4 ((x2_4 * 10) + (o_6.2.2)) (x3_4 + 1) (o_6.2.1) (o_6.2.2) H locs ls hG hP hD hS (lv_sub hl [0, 1, 2, 3] rfl)
  exact L_4 1000 0 0 ra rv s.heap [] ls hG hP hD hS hl

def FL_X6_readItems_s_16 (tb : Nat → Int32) (tl : Int32) (ra : Int32) (rv : Int32) (fi : Nat → Int32) (z1 : Int32) (z2 : Int32) : Nat → Int32 → Int32 → (Int32) → (Int32) → (Nat → Int32) → Option (Int32 × Int32 × Int32 × (Nat → Int32))
  | 0, _, _, _, _, _ => none
  | n + 1, x7_16, x8_16, ra_c, rv_c, fi_c => ((F_J0_length_0).bind fun o_1 => (if o_1 < x8_16 then some (ra_c, ra_c, rv_c, fi_c) else ((F_X6_skipBlanks tb tl ra_c).bind fun o_4 => (if tl ≤ (o_4) then some ((-1), (o_4), rv_c, fi_c) else ((F_X6_stands tb tl (o_4) 59).bind fun o_7 => (if o_7 = 0 then (if (o_4) < 0 ∨ 240 ≤ ((o_4)).toNatClampNeg then none else ((F_J0_indexOf_0 (tb (o_4).toNatClampNeg)).bind fun o_11 => (if o_11 < 0 then some ((o_4), (o_4), rv_c, fi_c) else (if ((x7_16 >>> (o_11 &&& 31)) &&& 1) = 1 then some ((o_4), (o_4), rv_c, fi_c) else ((F_X6_skipBlanks tb tl ((o_4) + 1)).bind fun o_15 => ((F_X6_readNumber tb tl (o_15) rv_c 3).bind fun o_17 => (if o_17.1 = 0 then some ((o_17.2.1), (o_17.2.1), (o_17.2.2), fi_c) else (if o_11 < 0 ∨ 8 ≤ (o_11).toNatClampNeg then none else (if (o_17.2.2) < (q_tab 0 (o_11 : Int32).toNatClampNeg) then some (((o_17.2.1) - 1), (o_17.2.1), (o_17.2.2), fi_c) else (if o_11 < 0 ∨ 8 ≤ (o_11).toNatClampNeg then none else (if (o_17.2.2) ≤ (q_tab 1 (o_11 : Int32).toNatClampNeg) then (if (z1 + (o_11 * z2)) < 0 ∨ 8 ≤ ((z1 + (o_11 * z2))).toNatClampNeg then none else (FL_X6_readItems_s_16 tb tl ra rv fi z1 z2 n (x7_16 ||| (1 <<< (o_11 &&& 31))) (x8_16 + 1) (o_17.2.1) (o_17.2.2) (upd fi_c (z1 + (o_11 * z2)).toNatClampNeg (o_17.2.2)))) else some (((o_17.2.1) - 1), (o_17.2.1), (o_17.2.2), fi_c)))))))))))) else some ((-1), (o_4), rv_c, fi_c)))))))

def F_X6_readItems_s (tb : Nat → Int32) (tl : Int32) (ra : Int32) (rv : Int32) (fi : Nat → Int32) (z1 : Int32) (z2 : Int32) : Option (Int32 × Int32 × Int32 × (Nat → Int32)) := (FL_X6_readItems_s_16 tb tl ra rv fi z1 z2 1000 0 0 (ra + 1) rv fi)
set_option maxHeartbeats 4000000 in
set_option maxRecDepth 100000 in
theorem c_X6_readItems_s (l : Launch) (dC : Nat → ClassId) (dI : Nat → Nat → Nat) (ts : Nat → Nat) (ks : Nat → Nat) (kv : Nat → Nat) (rd : Nat) (tp : Nat) (by_ : Nat) (cb : ClassId) (tb : Nat → Int32) (tl : Int32) (ra : Int32) (rv : Int32) (iq : Nat) (ci : ClassId) (fi : Nat → Int32) (z1 : Int32) (z2 : Int32) (A : Nat → Prop) (o : Int32 × Int32 × Int32 × (Nat → Int32)) (hG : F_X6_readItems_s tb tl ra rv fi z1 z2 = some o) : Met l yX6_readItems (.code yX6_readItems cX6_readItems 10 (some .int) :: wA) ({ frames := 4, cells := 0, slots := 0, locals := 91 }) (va_Pc [.ref rd, .ref (ks 0), .ref (ts 0), .ref (ts 1), .ref iq, .int z1, .int z2] (q_WE (dC, dI) A [(rd, .inr (6, [.ref tp, .int ra, .int rv])), (tp, .inr (8, [.ref by_, .int tl])), (by_, .inl (cb, 240, .inl tb)), (iq, .inl (ci, 8, .inl fi))] [(cb, .char), (ci, .int)] (q_S ts ks kv A))) (va_Qi (fun (r : Int32) (_ : Unit) => r = o.1 ∧ True) (fun (_ : Unit) t => q_B (dC, dI) A [(rd, .inr (6, [.ref tp, .int (o.2.1), .int (o.2.2.1)])), (tp, .inr (8, [.ref by_, .int tl])), (by_, .inl (cb, 240, .inl tb)), (iq, .inl (ci, 8, .inl (o.2.2.2)))] [(cb, .char), (ci, .int)] t) A) 0 0 A := by
  refine Met.ofW (cc := cX6_readItems) (maxL := 10) (ret := (some .int)) (by decide) rfl ?_
  intro p e s m args below meth c s₁ B hml hv
  obtain ⟨rfl, hP, hK, hD, hA, hE⟩ := hv
  have hx := B.exec
  have hb := B.bytes
  have hr := B.returns
  have hts := atoms_spec (ws := .code yX6_readItems cX6_readItems 10 (some .int) :: wA) B.pre
  have hown : s.vm.findClass RX6 = some m.cls := findClass_of_methodNamed B.named
  have hlocks := B.notSynchronized
  have hS : va_S A s.heap s.heap [] := va_S.rf
  have hl := lv_entry ([.ref rd, .ref (ks 0), .ref (ts 0), .ref (ts 1), .ref iq, .int z1, .int z2]) (n := 10) (Nat.le_of_ble_eq_true rfl)
  rw [lg_entry_eq]
  generalize (lg_sl ([.ref rd, .ref (ks 0), .ref (ts 0), .ref (ts 1), .ref iq, .int z1, .int z2]) ++ List.replicate (10 - (lg_sl ([.ref rd, .ref (ks 0), .ref (ts 0), .ref (ts 1), .ref iq, .int z1, .int z2])).length) Slot.unset).toArray = ls at hl ⊢
  have hl : lv_has ls 10 [(0, .ref rd), (1, .ref (ks 0)), (2, .ref (ts 0)), (3, .ref (ts 1)), (4, .ref iq), (5, .int z1), (6, .int z2)] := hl
  unfold F_X6_readItems_s at hG
  refine lv_iconst (v := 0) hx hb dX6_readItems_0 (by decide) ?_
  refine lv_istore (lv' := [(7, .int 0), (0, .ref rd), (1, .ref (ks 0)), (2, .ref (ts 0)), (3, .ref (ts 1)), (4, .ref iq), (5, .int z1), (6, .int z2)]) hx hb dX6_readItems_1 hl (by decide) rfl (fun ls hl => ?_)
  refine lv_aload_n hx hb dX6_readItems_3 rfl (lv_at hl 1 rfl) ?_
  refine lv_dup hx hb dX6_readItems_4 rfl ?_
  refine va_get (D := (dC, dI)) (ci := 6) (v := .int ra) (C := RX6) (T := TX6) (N := 3) hx hb hts iA_6 hown hK hP 0 rfl rfl 1 (by decide) (hts (.fieldLink RX6 9 "HubTree$Reader" "at" "I") (List.mem_cons_of_mem _ m_67)) (fun _ h9 => h9) rfl dX6_readItems_5 ?_
  refine lv_iconst (v := 1) hx hb dX6_readItems_8 (by decide) ?_
  refine lv_iadd hx hb dX6_readItems_9 ?_
  refine va_put (D := (dC, dI)) (ci := 6) (v := .int (ra + 1)) (ty := .int) (C := RX6) (T := TX6) (N := 3) hx hb hts iA_6 tyX6 tyX6_ok nmX6 hown hK hP hD hS 0 rfl rfl 1 (by decide) (hts (.fieldLink RX6 9 "HubTree$Reader" "at" "I") (List.mem_cons_of_mem _ m_67)) (fun _ h9 => h9) rfl (by decide +kernel) rfl rfl (Nat.le_of_ble_eq_true rfl) dX6_readItems_10 (fun H locs hP hD hS => ?_)
  have hP : va_P (dC, dI) vwCl [(rd, .inr (6, [.ref tp, .int (ra + 1), .int rv])), (tp, .inr (8, [.ref by_, .int tl])), (by_, .inl (cb, 240, .inl tb)), (iq, .inl (ci, 8, .inl fi))] H := hP
  have hD : va_D A [(rd, .inr (6, [.ref tp, .int (ra + 1), .int rv])), (tp, .inr (8, [.ref by_, .int tl])), (by_, .inl (cb, 240, .inl tb)), (iq, .inl (ci, 8, .inl fi))] := hD
  refine lv_iconst (v := 0) hx hb dX6_readItems_13 (by decide) ?_
  refine lv_istore (lv' := [(8, .int 0), (7, .int 0), (0, .ref rd), (1, .ref (ks 0)), (2, .ref (ts 0)), (3, .ref (ts 1)), (4, .ref iq), (5, .int z1), (6, .int z2)]) hx hb dX6_readItems_14 hl (by decide) rfl (fun ls hl => ?_)
  have L_16 : ∀ (n_16 : Nat) (x7_16 : Int32) (x8_16 : Int32) (ra_c : Int32) (rv_c : Int32) (fi_c : Nat → Int32) (H : Heap) (locs : List Loc) (ls : Array Slot), FL_X6_readItems_s_16 tb tl ra rv fi z1 z2 n_16 x7_16 x8_16 ra_c rv_c fi_c = some o → va_P (dC, dI) vwCl [(rd, .inr (6, [.ref tp, .int ra_c, .int rv_c])), (tp, .inr (8, [.ref by_, .int tl])), (by_, .inl (cb, 240, .inl tb)), (iq, .inl (ci, 8, .inl fi_c))] H → va_D A [(rd, .inr (6, [.ref tp, .int ra_c, .int rv_c])), (tp, .inr (8, [.ref by_, .int tl])), (by_, .inl (cb, 240, .inl tb)), (iq, .inl (ci, 8, .inl fi_c))] → va_S A s.heap H locs → lv_has ls 10 [(8, .int x8_16), (7, .int x7_16), (0, .ref rd), (1, .ref (ks 0)), (2, .ref (ts 0)), (3, .ref (ts 1)), (4, .ref iq), (5, .int z1), (6, .int z2)] → W p l e (headSpec (.code yX6_readItems cX6_readItems 10 (some .int) :: wA) ({ frames := 4, cells := 0, slots := 0, locals := 91 })).room s m #[.ref rd, .ref (ks 0), .ref (ts 0), .ref (ts 1), .ref iq, .int z1, .int z2] below meth c H locs 0 0 (MQ below (va_Qi (fun (r : Int32) (_ : Unit) => r = o.1 ∧ True) (fun (_ : Unit) t => q_B (dC, dI) A [(rd, .inr (6, [.ref tp, .int (o.2.1), .int (o.2.2.1)])), (tp, .inr (8, [.ref by_, .int tl])), (by_, .inl (cb, 240, .inl tb)), (iq, .inl (ci, 8, .inl (o.2.2.2)))] [(cb, .char), (ci, .int)] t) A) #[.ref rd, .ref (ks 0), .ref (ts 0), .ref (ts 1), .ref iq, .int z1, .int z2] s 0 0 A) (F0 m 16 ls []) := by
    intro n_16
    induction n_16 with
    | zero =>
      intro x7_16 x8_16 ra_c rv_c fi_c H locs ls hG
      exact q_no hG
    | succ n_16 ih_16 =>
      intro x7_16 x8_16 ra_c rv_c fi_c H locs ls hG hP hD hS hl
      unfold FL_X6_readItems_s_16 at hG
      refine lv_iload hx hb dX6_readItems_16 (lv_at hl 0 rfl) ?_
      refine lv_aload_n hx hb dX6_readItems_18 rfl (lv_at hl 3 rfl) ?_
      obtain ⟨o_1, r_2, hG⟩ := q_bi hG
      refine q_goi (v := o_1) (va_runV (As := []) (rest := [.int x8_16]) ⟨hx, hb, hml, hown, hts⟩ (c_J0_length_0 l dC dI ts ks kv o_1 r_2) (cwV 0 hts (q_gV m_193 m_194 m_195 m_196 m_197) rfl rfl rfl hdV_yJ0_length_8abf5_0 ⟨Nat.le_of_ble_eq_true rfl, Nat.le_of_ble_eq_true rfl⟩) (q_preVEs hK hP (vk_recv (i := 0) (q_S_s hE) (by decide) hS) [] rfl [] rfl q_S_bl (q_S_give hE hS (fun _ h => h.elim))) rfl rfl hl.1 rfl (lv_room (Nat.le_of_ble_eq_true rfl)) dX6_readItems_19 ⟨Nat.le_of_ble_eq_true rfl, Nat.le_of_ble_eq_true rfl⟩) hP hS (fun H locs hP hS => ?_)
      refine lv_icmp_gt (tgt := 179) hx hb dX6_readItems_22 (by decide) (fun c_3 => ?_) (fun c_3 => ?_)
      · have hG := q_ifp c_3 hG
        refine lv_aload_n hx hb dX6_readItems_179 rfl (lv_at hl 2 rfl) ?_
        refine va_get (D := (dC, dI)) (ci := 6) (v := .int ra_c) (C := RX6) (T := TX6) (N := 3) hx hb hts iA_6 hown hK hP 0 rfl rfl 1 (by decide) (hts (.fieldLink RX6 9 "HubTree$Reader" "at" "I") (List.mem_cons_of_mem _ m_67)) (fun _ h9 => h9) rfl dX6_readItems_180 ?_
        obtain rfl := Option.some.inj hG
        have hP9 := hP.sub (ws' := [(rd, .inr (6, [.ref tp, .int ra_c, .int rv_c])), (tp, .inr (8, [.ref by_, .int tl])), (by_, .inl (cb, 240, .inl tb)), (iq, .inl (ci, 8, .inl fi_c))]) [0, 1, 2, 3] rfl
        have hD9 := hD.sub (ws' := [(rd, .inr (6, [.ref tp, .int ra_c, .int rv_c])), (tp, .inr (8, [.ref by_, .int tl])), (by_, .inl (cb, 240, .inl tb)), (iq, .inl (ci, 8, .inl fi_c))]) [0, 1, 2, 3] (by decide) rfl
        have hK9 := hK.sub (tys' := [(cb, .char), (ci, .int)]) [0, 1] rfl
        exact W.iret (v := ra_c) hx hb hr (fun t ht hW => ⟨⟨ra_c, (), rfl, ⟨rfl, trivial⟩, by rw [ht]; exact hP9, va_K.moved hW.alike hK9, hD9⟩, hS.F ht⟩) hS.2.2 dX6_readItems_183
      · have hG := q_ifn c_3 hG
        refine lv_aload_n hx hb dX6_readItems_25 rfl (lv_at hl 2 rfl) ?_
        obtain ⟨o_4, r_5, hG⟩ := q_bi hG
        refine q_gov2 (wr := [(iq, .inl (ci, 8, .inl fi_c))]) (va_runV (As := []) (rest := []) ⟨hx, hb, hml, hown, hts⟩ (c_X6_skipBlanks l dC dI rd tp by_ cb tb tl ra_c rv_c (va_A [(rd, .inr (6, [.ref tp, .int ra_c, .int rv_c])), (tp, .inr (8, [.ref by_, .int tl])), (by_, .inl (cb, 240, .inl tb))] H.size) o_4 r_5) (cwV 0 hts (q_gV m_180 m_181 m_182 m_20 m_183) rfl rfl rfl hdV_yX6_skipBlanks_0 ⟨Nat.le_of_ble_eq_true rfl, Nat.le_of_ble_eq_true rfl⟩) (q_preWV hK hP hD (q := (RX6, TX6, 3)) (ci := 6) (q0 := 0) rfl rfl [0, 1, 2] (by decide) rfl rfl [0] rfl) rfl rfl hl.1 rfl (lv_room (Nat.le_of_ble_eq_true rfl)) dX6_readItems_26 ⟨Nat.le_of_ble_eq_true rfl, Nat.le_of_ble_eq_true rfl⟩) hK hP hD hS hA [0, 1, 2] [3] rfl rfl (by decide) (by decide) (fun _ H locs _ hP hD hK9 hS => ?_)
        have hP : va_P (dC, dI) vwCl [(rd, .inr (6, [.ref tp, .int (o_4), .int rv_c])), (tp, .inr (8, [.ref by_, .int tl])), (by_, .inl (cb, 240, .inl tb)), (iq, .inl (ci, 8, .inl fi_c))] H := hP.sub [1, 2, 3, 0] rfl
        have hD : va_D A [(rd, .inr (6, [.ref tp, .int (o_4), .int rv_c])), (tp, .inr (8, [.ref by_, .int tl])), (by_, .inl (cb, 240, .inl tb)), (iq, .inl (ci, 8, .inl fi_c))] := hD.sub [1, 2, 3, 0] (by decide) rfl
        refine lv_aload_n hx hb dX6_readItems_29 rfl (lv_at hl 2 rfl) ?_
        refine va_get (D := (dC, dI)) (ci := 6) (v := .int (o_4)) (C := RX6) (T := TX6) (N := 3) hx hb hts iA_6 hown hK hP 0 rfl rfl 1 (by decide) (hts (.fieldLink RX6 9 "HubTree$Reader" "at" "I") (List.mem_cons_of_mem _ m_67)) (fun _ h9 => h9) rfl dX6_readItems_30 ?_
        refine lv_aload_n hx hb dX6_readItems_33 rfl (lv_at hl 2 rfl) ?_
        refine va_get (D := (dC, dI)) (ci := 6) (v := .ref tp) (C := RX6) (T := TX6) (N := 3) hx hb hts iA_6 hown hK hP 0 rfl rfl 0 (by decide) (hts (.fieldLink RX6 18 "HubTree$Reader" "tape" "LHubTree$Tape;") (List.mem_cons_of_mem _ m_69)) (fun _ h9 => h9) rfl dX6_readItems_34 ?_
        refine va_get (D := (dC, dI)) (ci := 8) (v := .int tl) (C := RX8) (T := TX8) (N := 2) hx hb hts iA_8 hown hK hP 1 rfl rfl 1 (by decide) (hts (.fieldLink RX6 67 "HubTree$Tape" "length" "I") (List.mem_cons_of_mem _ m_171)) (fun _ h9 => h9) rfl dX6_readItems_37 ?_
        refine lv_icmp_ge (tgt := 52) hx hb dX6_readItems_40 (by decide) (fun c_6 => ?_) (fun c_6 => ?_)
        · have hG := q_ifp c_6 hG
          refine lv_iconst (v := (-1)) hx hb dX6_readItems_52 (by decide) ?_
          obtain rfl := Option.some.inj hG
          have hP9 := hP.sub (ws' := [(rd, .inr (6, [.ref tp, .int (o_4), .int rv_c])), (tp, .inr (8, [.ref by_, .int tl])), (by_, .inl (cb, 240, .inl tb)), (iq, .inl (ci, 8, .inl fi_c))]) [0, 1, 2, 3] rfl
          have hD9 := hD.sub (ws' := [(rd, .inr (6, [.ref tp, .int (o_4), .int rv_c])), (tp, .inr (8, [.ref by_, .int tl])), (by_, .inl (cb, 240, .inl tb)), (iq, .inl (ci, 8, .inl fi_c))]) [0, 1, 2, 3] (by decide) rfl
          have hK9 := hK.sub (tys' := [(cb, .char), (ci, .int)]) [0, 1] rfl
          exact W.iret (v := (-1)) hx hb hr (fun t ht hW => ⟨⟨(-1), (), rfl, ⟨rfl, trivial⟩, by rw [ht]; exact hP9, va_K.moved hW.alike hK9, hD9⟩, hS.F ht⟩) hS.2.2 dX6_readItems_53
        · have hG := q_ifn c_6 hG
          refine lv_aload_n hx hb dX6_readItems_43 rfl (lv_at hl 2 rfl) ?_
          refine lv_bipush (v := 59) hx hb dX6_readItems_44 (by decide) ?_
          obtain ⟨o_7, r_8, hG⟩ := q_bi hG
          refine q_goi (v := o_7) (va_runV (As := [.int 59]) (rest := []) ⟨hx, hb, hml, hown, hts⟩ (c_X6_stands l dC dI rd tp by_ cb tb tl (o_4) rv_c 59 o_7 r_8) (cwV 1 hts (q_gV m_185 m_186 m_187 m_20 m_188) rfl rfl rfl hdV_yX6_stands_1 ⟨Nat.le_of_ble_eq_true rfl, Nat.le_of_ble_eq_true rfl⟩) (q_preV hK hP (q := (RX6, TX6, 3)) (ci := 6) (q0 := 0) rfl rfl [0, 1, 2] rfl [0] rfl) rfl rfl hl.1 rfl (lv_room (Nat.le_of_ble_eq_true rfl)) dX6_readItems_46 ⟨Nat.le_of_ble_eq_true rfl, Nat.le_of_ble_eq_true rfl⟩) hP hS (fun H locs hP hS => ?_)
          refine lv_if_eq (tgt := 54) hx hb dX6_readItems_49 (by decide) (fun c_9 => ?_) (fun c_9 => ?_)
          · have hG := q_ifp c_9 hG
            refine lv_aload_n hx hb dX6_readItems_54 rfl (lv_at hl 3 rfl) ?_
            refine lv_aload_n hx hb dX6_readItems_55 rfl (lv_at hl 2 rfl) ?_
            refine va_get (D := (dC, dI)) (ci := 6) (v := .ref tp) (C := RX6) (T := TX6) (N := 3) hx hb hts iA_6 hown hK hP 0 rfl rfl 0 (by decide) (hts (.fieldLink RX6 18 "HubTree$Reader" "tape" "LHubTree$Tape;") (List.mem_cons_of_mem _ m_69)) (fun _ h9 => h9) rfl dX6_readItems_56 ?_
            refine va_get (D := (dC, dI)) (ci := 8) (v := .ref by_) (C := RX8) (T := TX8) (N := 2) hx hb hts iA_8 hown hK hP 1 rfl rfl 0 (by decide) (hts (.fieldLink RX6 81 "HubTree$Tape" "bytes" "[C") (List.mem_cons_of_mem _ m_184)) (fun _ h9 => h9) rfl dX6_readItems_59 ?_
            refine lv_aload_n hx hb dX6_readItems_62 rfl (lv_at hl 2 rfl) ?_
            refine va_get (D := (dC, dI)) (ci := 6) (v := .int (o_4)) (C := RX6) (T := TX6) (N := 3) hx hb hts iA_6 hown hK hP 0 rfl rfl 1 (by decide) (hts (.fieldLink RX6 9 "HubTree$Reader" "at" "I") (List.mem_cons_of_mem _ m_67)) (fun _ h9 => h9) rfl dX6_readItems_63 ?_
            obtain ⟨h_10, hG⟩ := q_ix hG
            refine va_cald hx hb hK hP 2 0 rfl rfl (i := (o_4)) h_10 dX6_readItems_66 ?_
            refine q_top (y := (tb (o_4).toNatClampNeg)) rfl ?_
            obtain ⟨o_11, r_12, hG⟩ := q_bi hG
            refine q_goi (v := o_11) (va_runV (As := [.int (tb (o_4).toNatClampNeg)]) (rest := []) ⟨hx, hb, hml, hown, hts⟩ (c_J0_indexOf_0 l dC dI ts ks kv (tb (o_4).toNatClampNeg) o_11 r_12) (cwV 1 hts (q_gV m_205 m_206 m_207 m_196 m_208) rfl rfl rfl hdV_yJ0_indexOf_0f7a4_1 ⟨Nat.le_of_ble_eq_true rfl, Nat.le_of_ble_eq_true rfl⟩) (q_preVEs hK hP (vk_recv (i := 0) (q_S_s hE) (by decide) hS) [] rfl [] rfl q_S_bl (q_S_give hE hS (fun _ h => h.elim))) rfl rfl hl.1 rfl (lv_room (Nat.le_of_ble_eq_true rfl)) dX6_readItems_67 ⟨Nat.le_of_ble_eq_true rfl, Nat.le_of_ble_eq_true rfl⟩) hP hS (fun H locs hP hS => ?_)
            refine lv_istore (lv' := [(9, .int o_11), (8, .int x8_16), (7, .int x7_16), (0, .ref rd), (1, .ref (ks 0)), (2, .ref (ts 0)), (3, .ref (ts 1)), (4, .ref iq), (5, .int z1), (6, .int z2)]) hx hb dX6_readItems_70 hl (by decide) rfl (fun ls hl => ?_)
            refine lv_iload hx hb dX6_readItems_72 (lv_at hl 0 rfl) ?_
            refine lv_if_lt (tgt := 88) hx hb dX6_readItems_74 (by decide) (fun c_13 => ?_) (fun c_13 => ?_)
            · have hG := q_ifp c_13 hG
              refine lv_aload_n hx hb dX6_readItems_88 rfl (lv_at hl 3 rfl) ?_
              refine va_get (D := (dC, dI)) (ci := 6) (v := .int (o_4)) (C := RX6) (T := TX6) (N := 3) hx hb hts iA_6 hown hK hP 0 rfl rfl 1 (by decide) (hts (.fieldLink RX6 9 "HubTree$Reader" "at" "I") (List.mem_cons_of_mem _ m_67)) (fun _ h9 => h9) rfl dX6_readItems_89 ?_
              obtain rfl := Option.some.inj hG
              have hP9 := hP.sub (ws' := [(rd, .inr (6, [.ref tp, .int (o_4), .int rv_c])), (tp, .inr (8, [.ref by_, .int tl])), (by_, .inl (cb, 240, .inl tb)), (iq, .inl (ci, 8, .inl fi_c))]) [0, 1, 2, 3] rfl
              have hD9 := hD.sub (ws' := [(rd, .inr (6, [.ref tp, .int (o_4), .int rv_c])), (tp, .inr (8, [.ref by_, .int tl])), (by_, .inl (cb, 240, .inl tb)), (iq, .inl (ci, 8, .inl fi_c))]) [0, 1, 2, 3] (by decide) rfl
              have hK9 := hK.sub (tys' := [(cb, .char), (ci, .int)]) [0, 1] rfl
              exact W.iret (v := (o_4)) hx hb hr (fun t ht hW => ⟨⟨(o_4), (), rfl, ⟨rfl, trivial⟩, by rw [ht]; exact hP9, va_K.moved hW.alike hK9, hD9⟩, hS.F ht⟩) hS.2.2 dX6_readItems_92
            · have hG := q_ifn c_13 hG
              refine lv_iload hx hb dX6_readItems_77 (lv_at hl 2 rfl) ?_
              refine lv_iload hx hb dX6_readItems_79 (lv_at hl 0 rfl) ?_
              refine lv_ishr hx hb dX6_readItems_81 ?_
              refine lv_iconst (v := 1) hx hb dX6_readItems_82 (by decide) ?_
              refine lv_iand hx hb dX6_readItems_83 ?_
              refine lv_iconst (v := 1) hx hb dX6_readItems_84 (by decide) ?_
              refine lv_icmp_ne (tgt := 93) hx hb dX6_readItems_85 (by decide) (fun c_14 => ?_) (fun c_14 => ?_)
              · have hG := q_ifn c_14 hG
                refine lv_iload hx hb dX6_readItems_93 (lv_at hl 2 rfl) ?_
                refine lv_iconst (v := 1) hx hb dX6_readItems_95 (by decide) ?_
                refine lv_iload hx hb dX6_readItems_96 (lv_at hl 0 rfl) ?_
                refine lv_ishl hx hb dX6_readItems_98 ?_
                refine lv_ior hx hb dX6_readItems_99 ?_
                refine lv_istore (lv' := [(7, .int (x7_16 ||| (1 <<< (o_11 &&& 31)))), (9, .int o_11), (8, .int x8_16), (0, .ref rd), (1, .ref (ks 0)), (2, .ref (ts 0)), (3, .ref (ts 1)), (4, .ref iq), (5, .int z1), (6, .int z2)]) hx hb dX6_readItems_100 hl (by decide) rfl (fun ls hl => ?_)
                refine lv_aload_n hx hb dX6_readItems_102 rfl (lv_at hl 3 rfl) ?_
                refine lv_dup hx hb dX6_readItems_103 rfl ?_
                refine va_get (D := (dC, dI)) (ci := 6) (v := .int (o_4)) (C := RX6) (T := TX6) (N := 3) hx hb hts iA_6 hown hK hP 0 rfl rfl 1 (by decide) (hts (.fieldLink RX6 9 "HubTree$Reader" "at" "I") (List.mem_cons_of_mem _ m_67)) (fun _ h9 => h9) rfl dX6_readItems_104 ?_
                refine lv_iconst (v := 1) hx hb dX6_readItems_107 (by decide) ?_
                refine lv_iadd hx hb dX6_readItems_108 ?_
                refine va_put (D := (dC, dI)) (ci := 6) (v := .int ((o_4) + 1)) (ty := .int) (C := RX6) (T := TX6) (N := 3) hx hb hts iA_6 tyX6 tyX6_ok nmX6 hown hK hP hD hS 0 rfl rfl 1 (by decide) (hts (.fieldLink RX6 9 "HubTree$Reader" "at" "I") (List.mem_cons_of_mem _ m_67)) (fun _ h9 => h9) rfl (by decide +kernel) rfl rfl (Nat.le_of_ble_eq_true rfl) dX6_readItems_109 (fun H locs hP hD hS => ?_)
                have hP : va_P (dC, dI) vwCl [(rd, .inr (6, [.ref tp, .int ((o_4) + 1), .int rv_c])), (tp, .inr (8, [.ref by_, .int tl])), (by_, .inl (cb, 240, .inl tb)), (iq, .inl (ci, 8, .inl fi_c))] H := hP
                have hD : va_D A [(rd, .inr (6, [.ref tp, .int ((o_4) + 1), .int rv_c])), (tp, .inr (8, [.ref by_, .int tl])), (by_, .inl (cb, 240, .inl tb)), (iq, .inl (ci, 8, .inl fi_c))] := hD
                refine lv_aload_n hx hb dX6_readItems_112 rfl (lv_at hl 3 rfl) ?_
                obtain ⟨o_15, r_16, hG⟩ := q_bi hG
                refine q_gov2 (wr := [(iq, .inl (ci, 8, .inl fi_c))]) (va_runV (As := []) (rest := []) ⟨hx, hb, hml, hown, hts⟩ (c_X6_skipBlanks l dC dI rd tp by_ cb tb tl ((o_4) + 1) rv_c (va_A [(rd, .inr (6, [.ref tp, .int ((o_4) + 1), .int rv_c])), (tp, .inr (8, [.ref by_, .int tl])), (by_, .inl (cb, 240, .inl tb))] H.size) o_15 r_16) (cwV 0 hts (q_gV m_180 m_181 m_182 m_20 m_183) rfl rfl rfl hdV_yX6_skipBlanks_0 ⟨Nat.le_of_ble_eq_true rfl, Nat.le_of_ble_eq_true rfl⟩) (q_preWV hK hP hD (q := (RX6, TX6, 3)) (ci := 6) (q0 := 0) rfl rfl [0, 1, 2] (by decide) rfl rfl [0] rfl) rfl rfl hl.1 rfl (lv_room (Nat.le_of_ble_eq_true rfl)) dX6_readItems_113 ⟨Nat.le_of_ble_eq_true rfl, Nat.le_of_ble_eq_true rfl⟩) hK hP hD hS hA [0, 1, 2] [3] rfl rfl (by decide) (by decide) (fun _ H locs _ hP hD hK9 hS => ?_)
                have hP : va_P (dC, dI) vwCl [(rd, .inr (6, [.ref tp, .int (o_15), .int rv_c])), (tp, .inr (8, [.ref by_, .int tl])), (by_, .inl (cb, 240, .inl tb)), (iq, .inl (ci, 8, .inl fi_c))] H := hP.sub [1, 2, 3, 0] rfl
                have hD : va_D A [(rd, .inr (6, [.ref tp, .int (o_15), .int rv_c])), (tp, .inr (8, [.ref by_, .int tl])), (by_, .inl (cb, 240, .inl tb)), (iq, .inl (ci, 8, .inl fi_c))] := hD.sub [1, 2, 3, 0] (by decide) rfl
                refine lv_aload_n hx hb dX6_readItems_116 rfl (lv_at hl 3 rfl) ?_
                refine lv_iconst (v := 3) hx hb dX6_readItems_117 (by decide) ?_
                obtain ⟨o_17, r_18, hG⟩ := q_bi hG
                refine q_goi2 (v := o_17.1) (wr := [(iq, .inl (ci, 8, .inl fi_c))]) (va_runV (As := [.int 3]) (rest := []) ⟨hx, hb, hml, hown, hts⟩ (c_X6_readNumber l dC dI rd tp by_ cb tb tl (o_15) rv_c 3 (va_A [(rd, .inr (6, [.ref tp, .int (o_15), .int rv_c])), (tp, .inr (8, [.ref by_, .int tl])), (by_, .inl (cb, 240, .inl tb))] H.size) o_17 r_18) (cwV 1 hts (q_gV m_283 m_284 m_285 m_20 m_286) rfl rfl rfl hdV_yX6_readNumber_1 ⟨Nat.le_of_ble_eq_true rfl, Nat.le_of_ble_eq_true rfl⟩) (q_preWV hK hP hD (q := (RX6, TX6, 3)) (ci := 6) (q0 := 0) rfl rfl [0, 1, 2] (by decide) rfl rfl [0] rfl) rfl rfl hl.1 rfl (lv_room (Nat.le_of_ble_eq_true rfl)) dX6_readItems_118 ⟨Nat.le_of_ble_eq_true rfl, Nat.le_of_ble_eq_true rfl⟩) hK hP hD hS hA [0, 1, 2] [3] rfl rfl (by decide) (by decide) (fun _ H locs _ hP hD hK9 hS => ?_)
                have hP : va_P (dC, dI) vwCl [(rd, .inr (6, [.ref tp, .int (o_17.2.1), .int (o_17.2.2)])), (tp, .inr (8, [.ref by_, .int tl])), (by_, .inl (cb, 240, .inl tb)), (iq, .inl (ci, 8, .inl fi_c))] H := hP.sub [1, 2, 3, 0] rfl
                have hD : va_D A [(rd, .inr (6, [.ref tp, .int (o_17.2.1), .int (o_17.2.2)])), (tp, .inr (8, [.ref by_, .int tl])), (by_, .inl (cb, 240, .inl tb)), (iq, .inl (ci, 8, .inl fi_c))] := hD.sub [1, 2, 3, 0] (by decide) rfl
                refine lv_if_ne (tgt := 129) hx hb dX6_readItems_121 (by decide) (fun c_19 => ?_) (fun c_19 => ?_)
                · have hG := q_ifn c_19 hG
                  refine lv_aload_n hx hb dX6_readItems_129 rfl (lv_at hl 3 rfl) ?_
                  refine va_get (D := (dC, dI)) (ci := 6) (v := .int (o_17.2.2)) (C := RX6) (T := TX6) (N := 3) hx hb hts iA_6 hown hK hP 0 rfl rfl 2 (by decide) (hts (.fieldLink RX6 15 "HubTree$Reader" "value" "I") (List.mem_cons_of_mem _ m_68)) (fun _ h9 => h9) rfl dX6_readItems_130 ?_
                  refine lv_aload_n hx hb dX6_readItems_133 rfl (lv_at hl 5 rfl) ?_
                  refine lv_iload hx hb dX6_readItems_134 (lv_at hl 1 rfl) ?_
                  obtain ⟨h_20, hG⟩ := q_ix hG
                  refine va_ti hx hb (q_S_t hE 0 (by decide)).2 hS (i := o_11) h_20 (v := .int (q_tab 0 (o_11 : Int32).toNatClampNeg)) rfl dX6_readItems_136 ?_
                  refine lv_icmp_lt (tgt := 151) hx hb dX6_readItems_137 (by decide) (fun c_21 => ?_) (fun c_21 => ?_)
                  · have hG := q_ifp c_21 hG
                    refine lv_aload_n hx hb dX6_readItems_151 rfl (lv_at hl 3 rfl) ?_
                    refine va_get (D := (dC, dI)) (ci := 6) (v := .int (o_17.2.1)) (C := RX6) (T := TX6) (N := 3) hx hb hts iA_6 hown hK hP 0 rfl rfl 1 (by decide) (hts (.fieldLink RX6 9 "HubTree$Reader" "at" "I") (List.mem_cons_of_mem _ m_67)) (fun _ h9 => h9) rfl dX6_readItems_152 ?_
                    refine lv_iconst (v := 1) hx hb dX6_readItems_155 (by decide) ?_
                    refine lv_isub hx hb dX6_readItems_156 ?_
                    obtain rfl := Option.some.inj hG
                    have hP9 := hP.sub (ws' := [(rd, .inr (6, [.ref tp, .int (o_17.2.1), .int (o_17.2.2)])), (tp, .inr (8, [.ref by_, .int tl])), (by_, .inl (cb, 240, .inl tb)), (iq, .inl (ci, 8, .inl fi_c))]) [0, 1, 2, 3] rfl
                    have hD9 := hD.sub (ws' := [(rd, .inr (6, [.ref tp, .int (o_17.2.1), .int (o_17.2.2)])), (tp, .inr (8, [.ref by_, .int tl])), (by_, .inl (cb, 240, .inl tb)), (iq, .inl (ci, 8, .inl fi_c))]) [0, 1, 2, 3] (by decide) rfl
                    have hK9 := hK.sub (tys' := [(cb, .char), (ci, .int)]) [0, 1] rfl
                    exact W.iret (v := ((o_17.2.1) - 1)) hx hb hr (fun t ht hW => ⟨⟨((o_17.2.1) - 1), (), rfl, ⟨rfl, trivial⟩, by rw [ht]; exact hP9, va_K.moved hW.alike hK9, hD9⟩, hS.F ht⟩) hS.2.2 dX6_readItems_157
                  · have hG := q_ifn c_21 hG
                    refine lv_aload_n hx hb dX6_readItems_140 rfl (lv_at hl 3 rfl) ?_
                    refine va_get (D := (dC, dI)) (ci := 6) (v := .int (o_17.2.2)) (C := RX6) (T := TX6) (N := 3) hx hb hts iA_6 hown hK hP 0 rfl rfl 2 (by decide) (hts (.fieldLink RX6 15 "HubTree$Reader" "value" "I") (List.mem_cons_of_mem _ m_68)) (fun _ h9 => h9) rfl dX6_readItems_141 ?_
                    refine lv_aload_n hx hb dX6_readItems_144 rfl (lv_at hl 6 rfl) ?_
                    refine lv_iload hx hb dX6_readItems_145 (lv_at hl 1 rfl) ?_
                    obtain ⟨h_22, hG⟩ := q_ix hG
                    refine va_ti hx hb (q_S_t hE 1 (by decide)).2 hS (i := o_11) h_22 (v := .int (q_tab 1 (o_11 : Int32).toNatClampNeg)) rfl dX6_readItems_147 ?_
                    refine lv_icmp_le (tgt := 158) hx hb dX6_readItems_148 (by decide) (fun c_23 => ?_) (fun c_23 => ?_)
                    · have hG := q_ifp c_23 hG
                      refine lv_aload hx hb dX6_readItems_158 (lv_at hl 7 rfl) ?_
                      refine lv_iload hx hb dX6_readItems_160 (lv_at hl 8 rfl) ?_
                      refine lv_iload hx hb dX6_readItems_162 (lv_at hl 1 rfl) ?_
                      refine lv_iload hx hb dX6_readItems_164 (lv_at hl 9 rfl) ?_
                      refine lv_imul hx hb dX6_readItems_166 ?_
                      refine lv_iadd hx hb dX6_readItems_167 ?_
                      refine lv_aload_n hx hb dX6_readItems_168 rfl (lv_at hl 3 rfl) ?_
                      refine va_get (D := (dC, dI)) (ci := 6) (v := .int (o_17.2.2)) (C := RX6) (T := TX6) (N := 3) hx hb hts iA_6 hown hK hP 0 rfl rfl 2 (by decide) (hts (.fieldLink RX6 15 "HubTree$Reader" "value" "I") (List.mem_cons_of_mem _ m_68)) (fun _ h9 => h9) rfl dX6_readItems_169 ?_
                      obtain ⟨h_24, hG⟩ := q_ix hG
                      refine va_iast hx hb hK hP hD hS 3 1 rfl rfl (i := (z1 + (o_11 * z2))) (x := (o_17.2.2)) h_24 dX6_readItems_172 (fun H locs hP hD hS => ?_)
                      have hP : va_P (dC, dI) vwCl [(rd, .inr (6, [.ref tp, .int (o_17.2.1), .int (o_17.2.2)])), (tp, .inr (8, [.ref by_, .int tl])), (by_, .inl (cb, 240, .inl tb)), (iq, .inl (ci, 8, .inl (upd fi_c (z1 + (o_11 * z2)).toNatClampNeg (o_17.2.2))))] H := hP
                      have hD : va_D A [(rd, .inr (6, [.ref tp, .int (o_17.2.1), .int (o_17.2.2)])), (tp, .inr (8, [.ref by_, .int tl])), (by_, .inl (cb, 240, .inl tb)), (iq, .inl (ci, 8, .inl (upd fi_c (z1 + (o_11 * z2)).toNatClampNeg (o_17.2.2))))] := hD
                      refine lv_iinc (v := (x8_16 + 1)) (lv' := [(8, .int (x8_16 + 1)), (7, .int (x7_16 ||| (1 <<< (o_11 &&& 31)))), (9, .int o_11), (0, .ref rd), (1, .ref (ks 0)), (2, .ref (ts 0)), (3, .ref (ts 1)), (4, .ref iq), (5, .int z1), (6, .int z2)]) hx hb dX6_readItems_173 hl (k := 2) rfl (rfl) (by decide) rfl (fun ls hl => ?_)
                      refine lv_goto (tgt := 16) hx hb dX6_readItems_176 (by decide) ?_
                      exact ih_16 (x7_16 ||| (1 <<< (o_11 &&& 31))) (x8_16 + 1) (o_17.2.1) (o_17.2.2) (upd fi_c (z1 + (o_11 * z2)).toNatClampNeg (o_17.2.2)) H locs ls hG hP hD hS (lv_sub hl [0, 1, 3, 4, 5, 6, 7, 8, 9] rfl)
                    · have hG := q_ifn c_23 hG
                      refine lv_aload_n hx hb dX6_readItems_151 rfl (lv_at hl 3 rfl) ?_
                      refine va_get (D := (dC, dI)) (ci := 6) (v := .int (o_17.2.1)) (C := RX6) (T := TX6) (N := 3) hx hb hts iA_6 hown hK hP 0 rfl rfl 1 (by decide) (hts (.fieldLink RX6 9 "HubTree$Reader" "at" "I") (List.mem_cons_of_mem _ m_67)) (fun _ h9 => h9) rfl dX6_readItems_152 ?_
                      refine lv_iconst (v := 1) hx hb dX6_readItems_155 (by decide) ?_
                      refine lv_isub hx hb dX6_readItems_156 ?_
                      obtain rfl := Option.some.inj hG
                      have hP9 := hP.sub (ws' := [(rd, .inr (6, [.ref tp, .int (o_17.2.1), .int (o_17.2.2)])), (tp, .inr (8, [.ref by_, .int tl])), (by_, .inl (cb, 240, .inl tb)), (iq, .inl (ci, 8, .inl fi_c))]) [0, 1, 2, 3] rfl
                      have hD9 := hD.sub (ws' := [(rd, .inr (6, [.ref tp, .int (o_17.2.1), .int (o_17.2.2)])), (tp, .inr (8, [.ref by_, .int tl])), (by_, .inl (cb, 240, .inl tb)), (iq, .inl (ci, 8, .inl fi_c))]) [0, 1, 2, 3] (by decide) rfl
                      have hK9 := hK.sub (tys' := [(cb, .char), (ci, .int)]) [0, 1] rfl
                      exact W.iret (v := ((o_17.2.1) - 1)) hx hb hr (fun t ht hW => ⟨⟨((o_17.2.1) - 1), (), rfl, ⟨rfl, trivial⟩, by rw [ht]; exact hP9, va_K.moved hW.alike hK9, hD9⟩, hS.F ht⟩) hS.2.2 dX6_readItems_157
                · have hG := q_ifp c_19 hG
                  refine lv_aload_n hx hb dX6_readItems_124 rfl (lv_at hl 3 rfl) ?_
                  refine va_get (D := (dC, dI)) (ci := 6) (v := .int (o_17.2.1)) (C := RX6) (T := TX6) (N := 3) hx hb hts iA_6 hown hK hP 0 rfl rfl 1 (by decide) (hts (.fieldLink RX6 9 "HubTree$Reader" "at" "I") (List.mem_cons_of_mem _ m_67)) (fun _ h9 => h9) rfl dX6_readItems_125 ?_
                  obtain rfl := Option.some.inj hG
                  have hP9 := hP.sub (ws' := [(rd, .inr (6, [.ref tp, .int (o_17.2.1), .int (o_17.2.2)])), (tp, .inr (8, [.ref by_, .int tl])), (by_, .inl (cb, 240, .inl tb)), (iq, .inl (ci, 8, .inl fi_c))]) [0, 1, 2, 3] rfl
                  have hD9 := hD.sub (ws' := [(rd, .inr (6, [.ref tp, .int (o_17.2.1), .int (o_17.2.2)])), (tp, .inr (8, [.ref by_, .int tl])), (by_, .inl (cb, 240, .inl tb)), (iq, .inl (ci, 8, .inl fi_c))]) [0, 1, 2, 3] (by decide) rfl
                  have hK9 := hK.sub (tys' := [(cb, .char), (ci, .int)]) [0, 1] rfl
                  exact W.iret (v := (o_17.2.1)) hx hb hr (fun t ht hW => ⟨⟨(o_17.2.1), (), rfl, ⟨rfl, trivial⟩, by rw [ht]; exact hP9, va_K.moved hW.alike hK9, hD9⟩, hS.F ht⟩) hS.2.2 dX6_readItems_128
              · have hG := q_ifp c_14 hG
                refine lv_aload_n hx hb dX6_readItems_88 rfl (lv_at hl 3 rfl) ?_
                refine va_get (D := (dC, dI)) (ci := 6) (v := .int (o_4)) (C := RX6) (T := TX6) (N := 3) hx hb hts iA_6 hown hK hP 0 rfl rfl 1 (by decide) (hts (.fieldLink RX6 9 "HubTree$Reader" "at" "I") (List.mem_cons_of_mem _ m_67)) (fun _ h9 => h9) rfl dX6_readItems_89 ?_
                obtain rfl := Option.some.inj hG
                have hP9 := hP.sub (ws' := [(rd, .inr (6, [.ref tp, .int (o_4), .int rv_c])), (tp, .inr (8, [.ref by_, .int tl])), (by_, .inl (cb, 240, .inl tb)), (iq, .inl (ci, 8, .inl fi_c))]) [0, 1, 2, 3] rfl
                have hD9 := hD.sub (ws' := [(rd, .inr (6, [.ref tp, .int (o_4), .int rv_c])), (tp, .inr (8, [.ref by_, .int tl])), (by_, .inl (cb, 240, .inl tb)), (iq, .inl (ci, 8, .inl fi_c))]) [0, 1, 2, 3] (by decide) rfl
                have hK9 := hK.sub (tys' := [(cb, .char), (ci, .int)]) [0, 1] rfl
                exact W.iret (v := (o_4)) hx hb hr (fun t ht hW => ⟨⟨(o_4), (), rfl, ⟨rfl, trivial⟩, by rw [ht]; exact hP9, va_K.moved hW.alike hK9, hD9⟩, hS.F ht⟩) hS.2.2 dX6_readItems_92
          · have hG := q_ifn c_9 hG
            refine lv_iconst (v := (-1)) hx hb dX6_readItems_52 (by decide) ?_
            obtain rfl := Option.some.inj hG
            have hP9 := hP.sub (ws' := [(rd, .inr (6, [.ref tp, .int (o_4), .int rv_c])), (tp, .inr (8, [.ref by_, .int tl])), (by_, .inl (cb, 240, .inl tb)), (iq, .inl (ci, 8, .inl fi_c))]) [0, 1, 2, 3] rfl
            have hD9 := hD.sub (ws' := [(rd, .inr (6, [.ref tp, .int (o_4), .int rv_c])), (tp, .inr (8, [.ref by_, .int tl])), (by_, .inl (cb, 240, .inl tb)), (iq, .inl (ci, 8, .inl fi_c))]) [0, 1, 2, 3] (by decide) rfl
            have hK9 := hK.sub (tys' := [(cb, .char), (ci, .int)]) [0, 1] rfl
            exact W.iret (v := (-1)) hx hb hr (fun t ht hW => ⟨⟨(-1), (), rfl, ⟨rfl, trivial⟩, by rw [ht]; exact hP9, va_K.moved hW.alike hK9, hD9⟩, hS.F ht⟩) hS.2.2 dX6_readItems_53
  exact L_16 1000 0 0 (ra + 1) rv fi H locs ls hG hP hD hS hl

def FL_X6_readItems_d_16 (tb : Nat → Int32) (tl : Int32) (ra : Int32) (rv : Int32) (fi : Nat → Int32) (z1 : Int32) (z2 : Int32) : Nat → Int32 → Int32 → (Int32) → (Int32) → (Nat → Int32) → Option (Int32 × Int32 × Int32 × (Nat → Int32))
  | 0, _, _, _, _, _ => none
  | n + 1, x7_16, x8_16, ra_c, rv_c, fi_c => ((F_J0_length_1).bind fun o_1 => (if o_1 < x8_16 then some (ra_c, ra_c, rv_c, fi_c) else ((F_X6_skipBlanks tb tl ra_c).bind fun o_4 => (if tl ≤ (o_4) then some ((-1), (o_4), rv_c, fi_c) else ((F_X6_stands tb tl (o_4) 59).bind fun o_7 => (if o_7 = 0 then (if (o_4) < 0 ∨ 240 ≤ ((o_4)).toNatClampNeg then none else ((F_J0_indexOf_1 (tb (o_4).toNatClampNeg)).bind fun o_11 => (if o_11 < 0 then some ((o_4), (o_4), rv_c, fi_c) else (if ((x7_16 >>> (o_11 &&& 31)) &&& 1) = 1 then some ((o_4), (o_4), rv_c, fi_c) else ((F_X6_skipBlanks tb tl ((o_4) + 1)).bind fun o_15 => ((F_X6_readNumber tb tl (o_15) rv_c 3).bind fun o_17 => (if o_17.1 = 0 then some ((o_17.2.1), (o_17.2.1), (o_17.2.2), fi_c) else (if o_11 < 0 ∨ 6 ≤ (o_11).toNatClampNeg then none else (if (o_17.2.2) < (q_tab 3 (o_11 : Int32).toNatClampNeg) then some (((o_17.2.1) - 1), (o_17.2.1), (o_17.2.2), fi_c) else (if o_11 < 0 ∨ 6 ≤ (o_11).toNatClampNeg then none else (if (o_17.2.2) ≤ (q_tab 4 (o_11 : Int32).toNatClampNeg) then (if (z1 + (o_11 * z2)) < 0 ∨ 48 ≤ ((z1 + (o_11 * z2))).toNatClampNeg then none else (FL_X6_readItems_d_16 tb tl ra rv fi z1 z2 n (x7_16 ||| (1 <<< (o_11 &&& 31))) (x8_16 + 1) (o_17.2.1) (o_17.2.2) (upd fi_c (z1 + (o_11 * z2)).toNatClampNeg (o_17.2.2)))) else some (((o_17.2.1) - 1), (o_17.2.1), (o_17.2.2), fi_c)))))))))))) else some ((-1), (o_4), rv_c, fi_c)))))))

def F_X6_readItems_d (tb : Nat → Int32) (tl : Int32) (ra : Int32) (rv : Int32) (fi : Nat → Int32) (z1 : Int32) (z2 : Int32) : Option (Int32 × Int32 × Int32 × (Nat → Int32)) := (FL_X6_readItems_d_16 tb tl ra rv fi z1 z2 1000 0 0 (ra + 1) rv fi)
set_option maxHeartbeats 4000000 in
set_option maxRecDepth 100000 in
theorem c_X6_readItems_d (l : Launch) (dC : Nat → ClassId) (dI : Nat → Nat → Nat) (ts : Nat → Nat) (ks : Nat → Nat) (kv : Nat → Nat) (rd : Nat) (tp : Nat) (by_ : Nat) (cb : ClassId) (tb : Nat → Int32) (tl : Int32) (ra : Int32) (rv : Int32) (iq : Nat) (ci : ClassId) (fi : Nat → Int32) (z1 : Int32) (z2 : Int32) (A : Nat → Prop) (o : Int32 × Int32 × Int32 × (Nat → Int32)) (hG : F_X6_readItems_d tb tl ra rv fi z1 z2 = some o) : Met l yX6_readItems (.code yX6_readItems cX6_readItems 10 (some .int) :: wA) ({ frames := 4, cells := 0, slots := 0, locals := 91 }) (va_Pc [.ref rd, .ref (ks 1), .ref (ts 3), .ref (ts 4), .ref iq, .int z1, .int z2] (q_WE (dC, dI) A [(rd, .inr (6, [.ref tp, .int ra, .int rv])), (tp, .inr (8, [.ref by_, .int tl])), (by_, .inl (cb, 240, .inl tb)), (iq, .inl (ci, 48, .inl fi))] [(cb, .char), (ci, .int)] (q_S ts ks kv A))) (va_Qi (fun (r : Int32) (_ : Unit) => r = o.1 ∧ True) (fun (_ : Unit) t => q_B (dC, dI) A [(rd, .inr (6, [.ref tp, .int (o.2.1), .int (o.2.2.1)])), (tp, .inr (8, [.ref by_, .int tl])), (by_, .inl (cb, 240, .inl tb)), (iq, .inl (ci, 48, .inl (o.2.2.2)))] [(cb, .char), (ci, .int)] t) A) 0 0 A := by
  refine Met.ofW (cc := cX6_readItems) (maxL := 10) (ret := (some .int)) (by decide) rfl ?_
  intro p e s m args below meth c s₁ B hml hv
  obtain ⟨rfl, hP, hK, hD, hA, hE⟩ := hv
  have hx := B.exec
  have hb := B.bytes
  have hr := B.returns
  have hts := atoms_spec (ws := .code yX6_readItems cX6_readItems 10 (some .int) :: wA) B.pre
  have hown : s.vm.findClass RX6 = some m.cls := findClass_of_methodNamed B.named
  have hlocks := B.notSynchronized
  have hS : va_S A s.heap s.heap [] := va_S.rf
  have hl := lv_entry ([.ref rd, .ref (ks 1), .ref (ts 3), .ref (ts 4), .ref iq, .int z1, .int z2]) (n := 10) (Nat.le_of_ble_eq_true rfl)
  rw [lg_entry_eq]
  generalize (lg_sl ([.ref rd, .ref (ks 1), .ref (ts 3), .ref (ts 4), .ref iq, .int z1, .int z2]) ++ List.replicate (10 - (lg_sl ([.ref rd, .ref (ks 1), .ref (ts 3), .ref (ts 4), .ref iq, .int z1, .int z2])).length) Slot.unset).toArray = ls at hl ⊢
  have hl : lv_has ls 10 [(0, .ref rd), (1, .ref (ks 1)), (2, .ref (ts 3)), (3, .ref (ts 4)), (4, .ref iq), (5, .int z1), (6, .int z2)] := hl
  unfold F_X6_readItems_d at hG
  refine lv_iconst (v := 0) hx hb dX6_readItems_0 (by decide) ?_
  refine lv_istore (lv' := [(7, .int 0), (0, .ref rd), (1, .ref (ks 1)), (2, .ref (ts 3)), (3, .ref (ts 4)), (4, .ref iq), (5, .int z1), (6, .int z2)]) hx hb dX6_readItems_1 hl (by decide) rfl (fun ls hl => ?_)
  refine lv_aload_n hx hb dX6_readItems_3 rfl (lv_at hl 1 rfl) ?_
  refine lv_dup hx hb dX6_readItems_4 rfl ?_
  refine va_get (D := (dC, dI)) (ci := 6) (v := .int ra) (C := RX6) (T := TX6) (N := 3) hx hb hts iA_6 hown hK hP 0 rfl rfl 1 (by decide) (hts (.fieldLink RX6 9 "HubTree$Reader" "at" "I") (List.mem_cons_of_mem _ m_67)) (fun _ h9 => h9) rfl dX6_readItems_5 ?_
  refine lv_iconst (v := 1) hx hb dX6_readItems_8 (by decide) ?_
  refine lv_iadd hx hb dX6_readItems_9 ?_
  refine va_put (D := (dC, dI)) (ci := 6) (v := .int (ra + 1)) (ty := .int) (C := RX6) (T := TX6) (N := 3) hx hb hts iA_6 tyX6 tyX6_ok nmX6 hown hK hP hD hS 0 rfl rfl 1 (by decide) (hts (.fieldLink RX6 9 "HubTree$Reader" "at" "I") (List.mem_cons_of_mem _ m_67)) (fun _ h9 => h9) rfl (by decide +kernel) rfl rfl (Nat.le_of_ble_eq_true rfl) dX6_readItems_10 (fun H locs hP hD hS => ?_)
  have hP : va_P (dC, dI) vwCl [(rd, .inr (6, [.ref tp, .int (ra + 1), .int rv])), (tp, .inr (8, [.ref by_, .int tl])), (by_, .inl (cb, 240, .inl tb)), (iq, .inl (ci, 48, .inl fi))] H := hP
  have hD : va_D A [(rd, .inr (6, [.ref tp, .int (ra + 1), .int rv])), (tp, .inr (8, [.ref by_, .int tl])), (by_, .inl (cb, 240, .inl tb)), (iq, .inl (ci, 48, .inl fi))] := hD
  refine lv_iconst (v := 0) hx hb dX6_readItems_13 (by decide) ?_
  refine lv_istore (lv' := [(8, .int 0), (7, .int 0), (0, .ref rd), (1, .ref (ks 1)), (2, .ref (ts 3)), (3, .ref (ts 4)), (4, .ref iq), (5, .int z1), (6, .int z2)]) hx hb dX6_readItems_14 hl (by decide) rfl (fun ls hl => ?_)
  have L_16 : ∀ (n_16 : Nat) (x7_16 : Int32) (x8_16 : Int32) (ra_c : Int32) (rv_c : Int32) (fi_c : Nat → Int32) (H : Heap) (locs : List Loc) (ls : Array Slot), FL_X6_readItems_d_16 tb tl ra rv fi z1 z2 n_16 x7_16 x8_16 ra_c rv_c fi_c = some o → va_P (dC, dI) vwCl [(rd, .inr (6, [.ref tp, .int ra_c, .int rv_c])), (tp, .inr (8, [.ref by_, .int tl])), (by_, .inl (cb, 240, .inl tb)), (iq, .inl (ci, 48, .inl fi_c))] H → va_D A [(rd, .inr (6, [.ref tp, .int ra_c, .int rv_c])), (tp, .inr (8, [.ref by_, .int tl])), (by_, .inl (cb, 240, .inl tb)), (iq, .inl (ci, 48, .inl fi_c))] → va_S A s.heap H locs → lv_has ls 10 [(8, .int x8_16), (7, .int x7_16), (0, .ref rd), (1, .ref (ks 1)), (2, .ref (ts 3)), (3, .ref (ts 4)), (4, .ref iq), (5, .int z1), (6, .int z2)] → W p l e (headSpec (.code yX6_readItems cX6_readItems 10 (some .int) :: wA) ({ frames := 4, cells := 0, slots := 0, locals := 91 })).room s m #[.ref rd, .ref (ks 1), .ref (ts 3), .ref (ts 4), .ref iq, .int z1, .int z2] below meth c H locs 0 0 (MQ below (va_Qi (fun (r : Int32) (_ : Unit) => r = o.1 ∧ True) (fun (_ : Unit) t => q_B (dC, dI) A [(rd, .inr (6, [.ref tp, .int (o.2.1), .int (o.2.2.1)])), (tp, .inr (8, [.ref by_, .int tl])), (by_, .inl (cb, 240, .inl tb)), (iq, .inl (ci, 48, .inl (o.2.2.2)))] [(cb, .char), (ci, .int)] t) A) #[.ref rd, .ref (ks 1), .ref (ts 3), .ref (ts 4), .ref iq, .int z1, .int z2] s 0 0 A) (F0 m 16 ls []) := by
    intro n_16
    induction n_16 with
    | zero =>
      intro x7_16 x8_16 ra_c rv_c fi_c H locs ls hG
      exact q_no hG
    | succ n_16 ih_16 =>
      intro x7_16 x8_16 ra_c rv_c fi_c H locs ls hG hP hD hS hl
      unfold FL_X6_readItems_d_16 at hG
      refine lv_iload hx hb dX6_readItems_16 (lv_at hl 0 rfl) ?_
      refine lv_aload_n hx hb dX6_readItems_18 rfl (lv_at hl 3 rfl) ?_
      obtain ⟨o_1, r_2, hG⟩ := q_bi hG
      refine q_goi (v := o_1) (va_runV (As := []) (rest := [.int x8_16]) ⟨hx, hb, hml, hown, hts⟩ (c_J0_length_1 l dC dI ts ks kv o_1 r_2) (cwV 0 hts (q_gV m_193 m_194 m_195 m_196 m_197) rfl rfl rfl hdV_yJ0_length_8abf5_0 ⟨Nat.le_of_ble_eq_true rfl, Nat.le_of_ble_eq_true rfl⟩) (q_preVEs hK hP (vk_recv (i := 1) (q_S_s hE) (by decide) hS) [] rfl [] rfl q_S_bl (q_S_give hE hS (fun _ h => h.elim))) rfl rfl hl.1 rfl (lv_room (Nat.le_of_ble_eq_true rfl)) dX6_readItems_19 ⟨Nat.le_of_ble_eq_true rfl, Nat.le_of_ble_eq_true rfl⟩) hP hS (fun H locs hP hS => ?_)
      refine lv_icmp_gt (tgt := 179) hx hb dX6_readItems_22 (by decide) (fun c_3 => ?_) (fun c_3 => ?_)
      · have hG := q_ifp c_3 hG
        refine lv_aload_n hx hb dX6_readItems_179 rfl (lv_at hl 2 rfl) ?_
        refine va_get (D := (dC, dI)) (ci := 6) (v := .int ra_c) (C := RX6) (T := TX6) (N := 3) hx hb hts iA_6 hown hK hP 0 rfl rfl 1 (by decide) (hts (.fieldLink RX6 9 "HubTree$Reader" "at" "I") (List.mem_cons_of_mem _ m_67)) (fun _ h9 => h9) rfl dX6_readItems_180 ?_
        obtain rfl := Option.some.inj hG
        have hP9 := hP.sub (ws' := [(rd, .inr (6, [.ref tp, .int ra_c, .int rv_c])), (tp, .inr (8, [.ref by_, .int tl])), (by_, .inl (cb, 240, .inl tb)), (iq, .inl (ci, 48, .inl fi_c))]) [0, 1, 2, 3] rfl
        have hD9 := hD.sub (ws' := [(rd, .inr (6, [.ref tp, .int ra_c, .int rv_c])), (tp, .inr (8, [.ref by_, .int tl])), (by_, .inl (cb, 240, .inl tb)), (iq, .inl (ci, 48, .inl fi_c))]) [0, 1, 2, 3] (by decide) rfl
        have hK9 := hK.sub (tys' := [(cb, .char), (ci, .int)]) [0, 1] rfl
        exact W.iret (v := ra_c) hx hb hr (fun t ht hW => ⟨⟨ra_c, (), rfl, ⟨rfl, trivial⟩, by rw [ht]; exact hP9, va_K.moved hW.alike hK9, hD9⟩, hS.F ht⟩) hS.2.2 dX6_readItems_183
      · have hG := q_ifn c_3 hG
        refine lv_aload_n hx hb dX6_readItems_25 rfl (lv_at hl 2 rfl) ?_
        obtain ⟨o_4, r_5, hG⟩ := q_bi hG
        refine q_gov2 (wr := [(iq, .inl (ci, 48, .inl fi_c))]) (va_runV (As := []) (rest := []) ⟨hx, hb, hml, hown, hts⟩ (c_X6_skipBlanks l dC dI rd tp by_ cb tb tl ra_c rv_c (va_A [(rd, .inr (6, [.ref tp, .int ra_c, .int rv_c])), (tp, .inr (8, [.ref by_, .int tl])), (by_, .inl (cb, 240, .inl tb))] H.size) o_4 r_5) (cwV 0 hts (q_gV m_180 m_181 m_182 m_20 m_183) rfl rfl rfl hdV_yX6_skipBlanks_0 ⟨Nat.le_of_ble_eq_true rfl, Nat.le_of_ble_eq_true rfl⟩) (q_preWV hK hP hD (q := (RX6, TX6, 3)) (ci := 6) (q0 := 0) rfl rfl [0, 1, 2] (by decide) rfl rfl [0] rfl) rfl rfl hl.1 rfl (lv_room (Nat.le_of_ble_eq_true rfl)) dX6_readItems_26 ⟨Nat.le_of_ble_eq_true rfl, Nat.le_of_ble_eq_true rfl⟩) hK hP hD hS hA [0, 1, 2] [3] rfl rfl (by decide) (by decide) (fun _ H locs _ hP hD hK9 hS => ?_)
        have hP : va_P (dC, dI) vwCl [(rd, .inr (6, [.ref tp, .int (o_4), .int rv_c])), (tp, .inr (8, [.ref by_, .int tl])), (by_, .inl (cb, 240, .inl tb)), (iq, .inl (ci, 48, .inl fi_c))] H := hP.sub [1, 2, 3, 0] rfl
        have hD : va_D A [(rd, .inr (6, [.ref tp, .int (o_4), .int rv_c])), (tp, .inr (8, [.ref by_, .int tl])), (by_, .inl (cb, 240, .inl tb)), (iq, .inl (ci, 48, .inl fi_c))] := hD.sub [1, 2, 3, 0] (by decide) rfl
        refine lv_aload_n hx hb dX6_readItems_29 rfl (lv_at hl 2 rfl) ?_
        refine va_get (D := (dC, dI)) (ci := 6) (v := .int (o_4)) (C := RX6) (T := TX6) (N := 3) hx hb hts iA_6 hown hK hP 0 rfl rfl 1 (by decide) (hts (.fieldLink RX6 9 "HubTree$Reader" "at" "I") (List.mem_cons_of_mem _ m_67)) (fun _ h9 => h9) rfl dX6_readItems_30 ?_
        refine lv_aload_n hx hb dX6_readItems_33 rfl (lv_at hl 2 rfl) ?_
        refine va_get (D := (dC, dI)) (ci := 6) (v := .ref tp) (C := RX6) (T := TX6) (N := 3) hx hb hts iA_6 hown hK hP 0 rfl rfl 0 (by decide) (hts (.fieldLink RX6 18 "HubTree$Reader" "tape" "LHubTree$Tape;") (List.mem_cons_of_mem _ m_69)) (fun _ h9 => h9) rfl dX6_readItems_34 ?_
        refine va_get (D := (dC, dI)) (ci := 8) (v := .int tl) (C := RX8) (T := TX8) (N := 2) hx hb hts iA_8 hown hK hP 1 rfl rfl 1 (by decide) (hts (.fieldLink RX6 67 "HubTree$Tape" "length" "I") (List.mem_cons_of_mem _ m_171)) (fun _ h9 => h9) rfl dX6_readItems_37 ?_
        refine lv_icmp_ge (tgt := 52) hx hb dX6_readItems_40 (by decide) (fun c_6 => ?_) (fun c_6 => ?_)
        · have hG := q_ifp c_6 hG
          refine lv_iconst (v := (-1)) hx hb dX6_readItems_52 (by decide) ?_
          obtain rfl := Option.some.inj hG
          have hP9 := hP.sub (ws' := [(rd, .inr (6, [.ref tp, .int (o_4), .int rv_c])), (tp, .inr (8, [.ref by_, .int tl])), (by_, .inl (cb, 240, .inl tb)), (iq, .inl (ci, 48, .inl fi_c))]) [0, 1, 2, 3] rfl
          have hD9 := hD.sub (ws' := [(rd, .inr (6, [.ref tp, .int (o_4), .int rv_c])), (tp, .inr (8, [.ref by_, .int tl])), (by_, .inl (cb, 240, .inl tb)), (iq, .inl (ci, 48, .inl fi_c))]) [0, 1, 2, 3] (by decide) rfl
          have hK9 := hK.sub (tys' := [(cb, .char), (ci, .int)]) [0, 1] rfl
          exact W.iret (v := (-1)) hx hb hr (fun t ht hW => ⟨⟨(-1), (), rfl, ⟨rfl, trivial⟩, by rw [ht]; exact hP9, va_K.moved hW.alike hK9, hD9⟩, hS.F ht⟩) hS.2.2 dX6_readItems_53
        · have hG := q_ifn c_6 hG
          refine lv_aload_n hx hb dX6_readItems_43 rfl (lv_at hl 2 rfl) ?_
          refine lv_bipush (v := 59) hx hb dX6_readItems_44 (by decide) ?_
          obtain ⟨o_7, r_8, hG⟩ := q_bi hG
          refine q_goi (v := o_7) (va_runV (As := [.int 59]) (rest := []) ⟨hx, hb, hml, hown, hts⟩ (c_X6_stands l dC dI rd tp by_ cb tb tl (o_4) rv_c 59 o_7 r_8) (cwV 1 hts (q_gV m_185 m_186 m_187 m_20 m_188) rfl rfl rfl hdV_yX6_stands_1 ⟨Nat.le_of_ble_eq_true rfl, Nat.le_of_ble_eq_true rfl⟩) (q_preV hK hP (q := (RX6, TX6, 3)) (ci := 6) (q0 := 0) rfl rfl [0, 1, 2] rfl [0] rfl) rfl rfl hl.1 rfl (lv_room (Nat.le_of_ble_eq_true rfl)) dX6_readItems_46 ⟨Nat.le_of_ble_eq_true rfl, Nat.le_of_ble_eq_true rfl⟩) hP hS (fun H locs hP hS => ?_)
          refine lv_if_eq (tgt := 54) hx hb dX6_readItems_49 (by decide) (fun c_9 => ?_) (fun c_9 => ?_)
          · have hG := q_ifp c_9 hG
            refine lv_aload_n hx hb dX6_readItems_54 rfl (lv_at hl 3 rfl) ?_
            refine lv_aload_n hx hb dX6_readItems_55 rfl (lv_at hl 2 rfl) ?_
            refine va_get (D := (dC, dI)) (ci := 6) (v := .ref tp) (C := RX6) (T := TX6) (N := 3) hx hb hts iA_6 hown hK hP 0 rfl rfl 0 (by decide) (hts (.fieldLink RX6 18 "HubTree$Reader" "tape" "LHubTree$Tape;") (List.mem_cons_of_mem _ m_69)) (fun _ h9 => h9) rfl dX6_readItems_56 ?_
            refine va_get (D := (dC, dI)) (ci := 8) (v := .ref by_) (C := RX8) (T := TX8) (N := 2) hx hb hts iA_8 hown hK hP 1 rfl rfl 0 (by decide) (hts (.fieldLink RX6 81 "HubTree$Tape" "bytes" "[C") (List.mem_cons_of_mem _ m_184)) (fun _ h9 => h9) rfl dX6_readItems_59 ?_
            refine lv_aload_n hx hb dX6_readItems_62 rfl (lv_at hl 2 rfl) ?_
            refine va_get (D := (dC, dI)) (ci := 6) (v := .int (o_4)) (C := RX6) (T := TX6) (N := 3) hx hb hts iA_6 hown hK hP 0 rfl rfl 1 (by decide) (hts (.fieldLink RX6 9 "HubTree$Reader" "at" "I") (List.mem_cons_of_mem _ m_67)) (fun _ h9 => h9) rfl dX6_readItems_63 ?_
            obtain ⟨h_10, hG⟩ := q_ix hG
            refine va_cald hx hb hK hP 2 0 rfl rfl (i := (o_4)) h_10 dX6_readItems_66 ?_
            refine q_top (y := (tb (o_4).toNatClampNeg)) rfl ?_
            obtain ⟨o_11, r_12, hG⟩ := q_bi hG
            refine q_goi (v := o_11) (va_runV (As := [.int (tb (o_4).toNatClampNeg)]) (rest := []) ⟨hx, hb, hml, hown, hts⟩ (c_J0_indexOf_1 l dC dI ts ks kv (tb (o_4).toNatClampNeg) o_11 r_12) (cwV 1 hts (q_gV m_205 m_206 m_207 m_196 m_208) rfl rfl rfl hdV_yJ0_indexOf_0f7a4_1 ⟨Nat.le_of_ble_eq_true rfl, Nat.le_of_ble_eq_true rfl⟩) (q_preVEs hK hP (vk_recv (i := 1) (q_S_s hE) (by decide) hS) [] rfl [] rfl q_S_bl (q_S_give hE hS (fun _ h => h.elim))) rfl rfl hl.1 rfl (lv_room (Nat.le_of_ble_eq_true rfl)) dX6_readItems_67 ⟨Nat.le_of_ble_eq_true rfl, Nat.le_of_ble_eq_true rfl⟩) hP hS (fun H locs hP hS => ?_)
            refine lv_istore (lv' := [(9, .int o_11), (8, .int x8_16), (7, .int x7_16), (0, .ref rd), (1, .ref (ks 1)), (2, .ref (ts 3)), (3, .ref (ts 4)), (4, .ref iq), (5, .int z1), (6, .int z2)]) hx hb dX6_readItems_70 hl (by decide) rfl (fun ls hl => ?_)
            refine lv_iload hx hb dX6_readItems_72 (lv_at hl 0 rfl) ?_
            refine lv_if_lt (tgt := 88) hx hb dX6_readItems_74 (by decide) (fun c_13 => ?_) (fun c_13 => ?_)
            · have hG := q_ifp c_13 hG
              refine lv_aload_n hx hb dX6_readItems_88 rfl (lv_at hl 3 rfl) ?_
              refine va_get (D := (dC, dI)) (ci := 6) (v := .int (o_4)) (C := RX6) (T := TX6) (N := 3) hx hb hts iA_6 hown hK hP 0 rfl rfl 1 (by decide) (hts (.fieldLink RX6 9 "HubTree$Reader" "at" "I") (List.mem_cons_of_mem _ m_67)) (fun _ h9 => h9) rfl dX6_readItems_89 ?_
              obtain rfl := Option.some.inj hG
              have hP9 := hP.sub (ws' := [(rd, .inr (6, [.ref tp, .int (o_4), .int rv_c])), (tp, .inr (8, [.ref by_, .int tl])), (by_, .inl (cb, 240, .inl tb)), (iq, .inl (ci, 48, .inl fi_c))]) [0, 1, 2, 3] rfl
              have hD9 := hD.sub (ws' := [(rd, .inr (6, [.ref tp, .int (o_4), .int rv_c])), (tp, .inr (8, [.ref by_, .int tl])), (by_, .inl (cb, 240, .inl tb)), (iq, .inl (ci, 48, .inl fi_c))]) [0, 1, 2, 3] (by decide) rfl
              have hK9 := hK.sub (tys' := [(cb, .char), (ci, .int)]) [0, 1] rfl
              exact W.iret (v := (o_4)) hx hb hr (fun t ht hW => ⟨⟨(o_4), (), rfl, ⟨rfl, trivial⟩, by rw [ht]; exact hP9, va_K.moved hW.alike hK9, hD9⟩, hS.F ht⟩) hS.2.2 dX6_readItems_92
            · have hG := q_ifn c_13 hG
              refine lv_iload hx hb dX6_readItems_77 (lv_at hl 2 rfl) ?_
              refine lv_iload hx hb dX6_readItems_79 (lv_at hl 0 rfl) ?_
              refine lv_ishr hx hb dX6_readItems_81 ?_
              refine lv_iconst (v := 1) hx hb dX6_readItems_82 (by decide) ?_
              refine lv_iand hx hb dX6_readItems_83 ?_
              refine lv_iconst (v := 1) hx hb dX6_readItems_84 (by decide) ?_
              refine lv_icmp_ne (tgt := 93) hx hb dX6_readItems_85 (by decide) (fun c_14 => ?_) (fun c_14 => ?_)
              · have hG := q_ifn c_14 hG
                refine lv_iload hx hb dX6_readItems_93 (lv_at hl 2 rfl) ?_
                refine lv_iconst (v := 1) hx hb dX6_readItems_95 (by decide) ?_
                refine lv_iload hx hb dX6_readItems_96 (lv_at hl 0 rfl) ?_
                refine lv_ishl hx hb dX6_readItems_98 ?_
                refine lv_ior hx hb dX6_readItems_99 ?_
                refine lv_istore (lv' := [(7, .int (x7_16 ||| (1 <<< (o_11 &&& 31)))), (9, .int o_11), (8, .int x8_16), (0, .ref rd), (1, .ref (ks 1)), (2, .ref (ts 3)), (3, .ref (ts 4)), (4, .ref iq), (5, .int z1), (6, .int z2)]) hx hb dX6_readItems_100 hl (by decide) rfl (fun ls hl => ?_)
                refine lv_aload_n hx hb dX6_readItems_102 rfl (lv_at hl 3 rfl) ?_
                refine lv_dup hx hb dX6_readItems_103 rfl ?_
                refine va_get (D := (dC, dI)) (ci := 6) (v := .int (o_4)) (C := RX6) (T := TX6) (N := 3) hx hb hts iA_6 hown hK hP 0 rfl rfl 1 (by decide) (hts (.fieldLink RX6 9 "HubTree$Reader" "at" "I") (List.mem_cons_of_mem _ m_67)) (fun _ h9 => h9) rfl dX6_readItems_104 ?_
                refine lv_iconst (v := 1) hx hb dX6_readItems_107 (by decide) ?_
                refine lv_iadd hx hb dX6_readItems_108 ?_
                refine va_put (D := (dC, dI)) (ci := 6) (v := .int ((o_4) + 1)) (ty := .int) (C := RX6) (T := TX6) (N := 3) hx hb hts iA_6 tyX6 tyX6_ok nmX6 hown hK hP hD hS 0 rfl rfl 1 (by decide) (hts (.fieldLink RX6 9 "HubTree$Reader" "at" "I") (List.mem_cons_of_mem _ m_67)) (fun _ h9 => h9) rfl (by decide +kernel) rfl rfl (Nat.le_of_ble_eq_true rfl) dX6_readItems_109 (fun H locs hP hD hS => ?_)
                have hP : va_P (dC, dI) vwCl [(rd, .inr (6, [.ref tp, .int ((o_4) + 1), .int rv_c])), (tp, .inr (8, [.ref by_, .int tl])), (by_, .inl (cb, 240, .inl tb)), (iq, .inl (ci, 48, .inl fi_c))] H := hP
                have hD : va_D A [(rd, .inr (6, [.ref tp, .int ((o_4) + 1), .int rv_c])), (tp, .inr (8, [.ref by_, .int tl])), (by_, .inl (cb, 240, .inl tb)), (iq, .inl (ci, 48, .inl fi_c))] := hD
                refine lv_aload_n hx hb dX6_readItems_112 rfl (lv_at hl 3 rfl) ?_
                obtain ⟨o_15, r_16, hG⟩ := q_bi hG
                refine q_gov2 (wr := [(iq, .inl (ci, 48, .inl fi_c))]) (va_runV (As := []) (rest := []) ⟨hx, hb, hml, hown, hts⟩ (c_X6_skipBlanks l dC dI rd tp by_ cb tb tl ((o_4) + 1) rv_c (va_A [(rd, .inr (6, [.ref tp, .int ((o_4) + 1), .int rv_c])), (tp, .inr (8, [.ref by_, .int tl])), (by_, .inl (cb, 240, .inl tb))] H.size) o_15 r_16) (cwV 0 hts (q_gV m_180 m_181 m_182 m_20 m_183) rfl rfl rfl hdV_yX6_skipBlanks_0 ⟨Nat.le_of_ble_eq_true rfl, Nat.le_of_ble_eq_true rfl⟩) (q_preWV hK hP hD (q := (RX6, TX6, 3)) (ci := 6) (q0 := 0) rfl rfl [0, 1, 2] (by decide) rfl rfl [0] rfl) rfl rfl hl.1 rfl (lv_room (Nat.le_of_ble_eq_true rfl)) dX6_readItems_113 ⟨Nat.le_of_ble_eq_true rfl, Nat.le_of_ble_eq_true rfl⟩) hK hP hD hS hA [0, 1, 2] [3] rfl rfl (by decide) (by decide) (fun _ H locs _ hP hD hK9 hS => ?_)
                have hP : va_P (dC, dI) vwCl [(rd, .inr (6, [.ref tp, .int (o_15), .int rv_c])), (tp, .inr (8, [.ref by_, .int tl])), (by_, .inl (cb, 240, .inl tb)), (iq, .inl (ci, 48, .inl fi_c))] H := hP.sub [1, 2, 3, 0] rfl
                have hD : va_D A [(rd, .inr (6, [.ref tp, .int (o_15), .int rv_c])), (tp, .inr (8, [.ref by_, .int tl])), (by_, .inl (cb, 240, .inl tb)), (iq, .inl (ci, 48, .inl fi_c))] := hD.sub [1, 2, 3, 0] (by decide) rfl
                refine lv_aload_n hx hb dX6_readItems_116 rfl (lv_at hl 3 rfl) ?_
                refine lv_iconst (v := 3) hx hb dX6_readItems_117 (by decide) ?_
                obtain ⟨o_17, r_18, hG⟩ := q_bi hG
                refine q_goi2 (v := o_17.1) (wr := [(iq, .inl (ci, 48, .inl fi_c))]) (va_runV (As := [.int 3]) (rest := []) ⟨hx, hb, hml, hown, hts⟩ (c_X6_readNumber l dC dI rd tp by_ cb tb tl (o_15) rv_c 3 (va_A [(rd, .inr (6, [.ref tp, .int (o_15), .int rv_c])), (tp, .inr (8, [.ref by_, .int tl])), (by_, .inl (cb, 240, .inl tb))] H.size) o_17 r_18) (cwV 1 hts (q_gV m_283 m_284 m_285 m_20 m_286) rfl rfl rfl hdV_yX6_readNumber_1 ⟨Nat.le_of_ble_eq_true rfl, Nat.le_of_ble_eq_true rfl⟩) (q_preWV hK hP hD (q := (RX6, TX6, 3)) (ci := 6) (q0 := 0) rfl rfl [0, 1, 2] (by decide) rfl rfl [0] rfl) rfl rfl hl.1 rfl (lv_room (Nat.le_of_ble_eq_true rfl)) dX6_readItems_118 ⟨Nat.le_of_ble_eq_true rfl, Nat.le_of_ble_eq_true rfl⟩) hK hP hD hS hA [0, 1, 2] [3] rfl rfl (by decide) (by decide) (fun _ H locs _ hP hD hK9 hS => ?_)
                have hP : va_P (dC, dI) vwCl [(rd, .inr (6, [.ref tp, .int (o_17.2.1), .int (o_17.2.2)])), (tp, .inr (8, [.ref by_, .int tl])), (by_, .inl (cb, 240, .inl tb)), (iq, .inl (ci, 48, .inl fi_c))] H := hP.sub [1, 2, 3, 0] rfl
                have hD : va_D A [(rd, .inr (6, [.ref tp, .int (o_17.2.1), .int (o_17.2.2)])), (tp, .inr (8, [.ref by_, .int tl])), (by_, .inl (cb, 240, .inl tb)), (iq, .inl (ci, 48, .inl fi_c))] := hD.sub [1, 2, 3, 0] (by decide) rfl
                refine lv_if_ne (tgt := 129) hx hb dX6_readItems_121 (by decide) (fun c_19 => ?_) (fun c_19 => ?_)
                · have hG := q_ifn c_19 hG
                  refine lv_aload_n hx hb dX6_readItems_129 rfl (lv_at hl 3 rfl) ?_
                  refine va_get (D := (dC, dI)) (ci := 6) (v := .int (o_17.2.2)) (C := RX6) (T := TX6) (N := 3) hx hb hts iA_6 hown hK hP 0 rfl rfl 2 (by decide) (hts (.fieldLink RX6 15 "HubTree$Reader" "value" "I") (List.mem_cons_of_mem _ m_68)) (fun _ h9 => h9) rfl dX6_readItems_130 ?_
                  refine lv_aload_n hx hb dX6_readItems_133 rfl (lv_at hl 5 rfl) ?_
                  refine lv_iload hx hb dX6_readItems_134 (lv_at hl 1 rfl) ?_
                  obtain ⟨h_20, hG⟩ := q_ix hG
                  refine va_ti hx hb (q_S_t hE 3 (by decide)).2 hS (i := o_11) h_20 (v := .int (q_tab 3 (o_11 : Int32).toNatClampNeg)) rfl dX6_readItems_136 ?_
                  refine lv_icmp_lt (tgt := 151) hx hb dX6_readItems_137 (by decide) (fun c_21 => ?_) (fun c_21 => ?_)
                  · have hG := q_ifp c_21 hG
                    refine lv_aload_n hx hb dX6_readItems_151 rfl (lv_at hl 3 rfl) ?_
                    refine va_get (D := (dC, dI)) (ci := 6) (v := .int (o_17.2.1)) (C := RX6) (T := TX6) (N := 3) hx hb hts iA_6 hown hK hP 0 rfl rfl 1 (by decide) (hts (.fieldLink RX6 9 "HubTree$Reader" "at" "I") (List.mem_cons_of_mem _ m_67)) (fun _ h9 => h9) rfl dX6_readItems_152 ?_
                    refine lv_iconst (v := 1) hx hb dX6_readItems_155 (by decide) ?_
                    refine lv_isub hx hb dX6_readItems_156 ?_
                    obtain rfl := Option.some.inj hG
                    have hP9 := hP.sub (ws' := [(rd, .inr (6, [.ref tp, .int (o_17.2.1), .int (o_17.2.2)])), (tp, .inr (8, [.ref by_, .int tl])), (by_, .inl (cb, 240, .inl tb)), (iq, .inl (ci, 48, .inl fi_c))]) [0, 1, 2, 3] rfl
                    have hD9 := hD.sub (ws' := [(rd, .inr (6, [.ref tp, .int (o_17.2.1), .int (o_17.2.2)])), (tp, .inr (8, [.ref by_, .int tl])), (by_, .inl (cb, 240, .inl tb)), (iq, .inl (ci, 48, .inl fi_c))]) [0, 1, 2, 3] (by decide) rfl
                    have hK9 := hK.sub (tys' := [(cb, .char), (ci, .int)]) [0, 1] rfl
                    exact W.iret (v := ((o_17.2.1) - 1)) hx hb hr (fun t ht hW => ⟨⟨((o_17.2.1) - 1), (), rfl, ⟨rfl, trivial⟩, by rw [ht]; exact hP9, va_K.moved hW.alike hK9, hD9⟩, hS.F ht⟩) hS.2.2 dX6_readItems_157
                  · have hG := q_ifn c_21 hG
                    refine lv_aload_n hx hb dX6_readItems_140 rfl (lv_at hl 3 rfl) ?_
                    refine va_get (D := (dC, dI)) (ci := 6) (v := .int (o_17.2.2)) (C := RX6) (T := TX6) (N := 3) hx hb hts iA_6 hown hK hP 0 rfl rfl 2 (by decide) (hts (.fieldLink RX6 15 "HubTree$Reader" "value" "I") (List.mem_cons_of_mem _ m_68)) (fun _ h9 => h9) rfl dX6_readItems_141 ?_
                    refine lv_aload_n hx hb dX6_readItems_144 rfl (lv_at hl 6 rfl) ?_
                    refine lv_iload hx hb dX6_readItems_145 (lv_at hl 1 rfl) ?_
                    obtain ⟨h_22, hG⟩ := q_ix hG
                    refine va_ti hx hb (q_S_t hE 4 (by decide)).2 hS (i := o_11) h_22 (v := .int (q_tab 4 (o_11 : Int32).toNatClampNeg)) rfl dX6_readItems_147 ?_
                    refine lv_icmp_le (tgt := 158) hx hb dX6_readItems_148 (by decide) (fun c_23 => ?_) (fun c_23 => ?_)
                    · have hG := q_ifp c_23 hG
                      refine lv_aload hx hb dX6_readItems_158 (lv_at hl 7 rfl) ?_
                      refine lv_iload hx hb dX6_readItems_160 (lv_at hl 8 rfl) ?_
                      refine lv_iload hx hb dX6_readItems_162 (lv_at hl 1 rfl) ?_
                      refine lv_iload hx hb dX6_readItems_164 (lv_at hl 9 rfl) ?_
                      refine lv_imul hx hb dX6_readItems_166 ?_
                      refine lv_iadd hx hb dX6_readItems_167 ?_
                      refine lv_aload_n hx hb dX6_readItems_168 rfl (lv_at hl 3 rfl) ?_
                      refine va_get (D := (dC, dI)) (ci := 6) (v := .int (o_17.2.2)) (C := RX6) (T := TX6) (N := 3) hx hb hts iA_6 hown hK hP 0 rfl rfl 2 (by decide) (hts (.fieldLink RX6 15 "HubTree$Reader" "value" "I") (List.mem_cons_of_mem _ m_68)) (fun _ h9 => h9) rfl dX6_readItems_169 ?_
                      obtain ⟨h_24, hG⟩ := q_ix hG
                      refine va_iast hx hb hK hP hD hS 3 1 rfl rfl (i := (z1 + (o_11 * z2))) (x := (o_17.2.2)) h_24 dX6_readItems_172 (fun H locs hP hD hS => ?_)
                      have hP : va_P (dC, dI) vwCl [(rd, .inr (6, [.ref tp, .int (o_17.2.1), .int (o_17.2.2)])), (tp, .inr (8, [.ref by_, .int tl])), (by_, .inl (cb, 240, .inl tb)), (iq, .inl (ci, 48, .inl (upd fi_c (z1 + (o_11 * z2)).toNatClampNeg (o_17.2.2))))] H := hP
                      have hD : va_D A [(rd, .inr (6, [.ref tp, .int (o_17.2.1), .int (o_17.2.2)])), (tp, .inr (8, [.ref by_, .int tl])), (by_, .inl (cb, 240, .inl tb)), (iq, .inl (ci, 48, .inl (upd fi_c (z1 + (o_11 * z2)).toNatClampNeg (o_17.2.2))))] := hD
                      refine lv_iinc (v := (x8_16 + 1)) (lv' := [(8, .int (x8_16 + 1)), (7, .int (x7_16 ||| (1 <<< (o_11 &&& 31)))), (9, .int o_11), (0, .ref rd), (1, .ref (ks 1)), (2, .ref (ts 3)), (3, .ref (ts 4)), (4, .ref iq), (5, .int z1), (6, .int z2)]) hx hb dX6_readItems_173 hl (k := 2) rfl (rfl) (by decide) rfl (fun ls hl => ?_)
                      refine lv_goto (tgt := 16) hx hb dX6_readItems_176 (by decide) ?_
                      exact ih_16 (x7_16 ||| (1 <<< (o_11 &&& 31))) (x8_16 + 1) (o_17.2.1) (o_17.2.2) (upd fi_c (z1 + (o_11 * z2)).toNatClampNeg (o_17.2.2)) H locs ls hG hP hD hS (lv_sub hl [0, 1, 3, 4, 5, 6, 7, 8, 9] rfl)
                    · have hG := q_ifn c_23 hG
                      refine lv_aload_n hx hb dX6_readItems_151 rfl (lv_at hl 3 rfl) ?_
                      refine va_get (D := (dC, dI)) (ci := 6) (v := .int (o_17.2.1)) (C := RX6) (T := TX6) (N := 3) hx hb hts iA_6 hown hK hP 0 rfl rfl 1 (by decide) (hts (.fieldLink RX6 9 "HubTree$Reader" "at" "I") (List.mem_cons_of_mem _ m_67)) (fun _ h9 => h9) rfl dX6_readItems_152 ?_
                      refine lv_iconst (v := 1) hx hb dX6_readItems_155 (by decide) ?_
                      refine lv_isub hx hb dX6_readItems_156 ?_
                      obtain rfl := Option.some.inj hG
                      have hP9 := hP.sub (ws' := [(rd, .inr (6, [.ref tp, .int (o_17.2.1), .int (o_17.2.2)])), (tp, .inr (8, [.ref by_, .int tl])), (by_, .inl (cb, 240, .inl tb)), (iq, .inl (ci, 48, .inl fi_c))]) [0, 1, 2, 3] rfl
                      have hD9 := hD.sub (ws' := [(rd, .inr (6, [.ref tp, .int (o_17.2.1), .int (o_17.2.2)])), (tp, .inr (8, [.ref by_, .int tl])), (by_, .inl (cb, 240, .inl tb)), (iq, .inl (ci, 48, .inl fi_c))]) [0, 1, 2, 3] (by decide) rfl
                      have hK9 := hK.sub (tys' := [(cb, .char), (ci, .int)]) [0, 1] rfl
                      exact W.iret (v := ((o_17.2.1) - 1)) hx hb hr (fun t ht hW => ⟨⟨((o_17.2.1) - 1), (), rfl, ⟨rfl, trivial⟩, by rw [ht]; exact hP9, va_K.moved hW.alike hK9, hD9⟩, hS.F ht⟩) hS.2.2 dX6_readItems_157
                · have hG := q_ifp c_19 hG
                  refine lv_aload_n hx hb dX6_readItems_124 rfl (lv_at hl 3 rfl) ?_
                  refine va_get (D := (dC, dI)) (ci := 6) (v := .int (o_17.2.1)) (C := RX6) (T := TX6) (N := 3) hx hb hts iA_6 hown hK hP 0 rfl rfl 1 (by decide) (hts (.fieldLink RX6 9 "HubTree$Reader" "at" "I") (List.mem_cons_of_mem _ m_67)) (fun _ h9 => h9) rfl dX6_readItems_125 ?_
                  obtain rfl := Option.some.inj hG
                  have hP9 := hP.sub (ws' := [(rd, .inr (6, [.ref tp, .int (o_17.2.1), .int (o_17.2.2)])), (tp, .inr (8, [.ref by_, .int tl])), (by_, .inl (cb, 240, .inl tb)), (iq, .inl (ci, 48, .inl fi_c))]) [0, 1, 2, 3] rfl
                  have hD9 := hD.sub (ws' := [(rd, .inr (6, [.ref tp, .int (o_17.2.1), .int (o_17.2.2)])), (tp, .inr (8, [.ref by_, .int tl])), (by_, .inl (cb, 240, .inl tb)), (iq, .inl (ci, 48, .inl fi_c))]) [0, 1, 2, 3] (by decide) rfl
                  have hK9 := hK.sub (tys' := [(cb, .char), (ci, .int)]) [0, 1] rfl
                  exact W.iret (v := (o_17.2.1)) hx hb hr (fun t ht hW => ⟨⟨(o_17.2.1), (), rfl, ⟨rfl, trivial⟩, by rw [ht]; exact hP9, va_K.moved hW.alike hK9, hD9⟩, hS.F ht⟩) hS.2.2 dX6_readItems_128
              · have hG := q_ifp c_14 hG
                refine lv_aload_n hx hb dX6_readItems_88 rfl (lv_at hl 3 rfl) ?_
                refine va_get (D := (dC, dI)) (ci := 6) (v := .int (o_4)) (C := RX6) (T := TX6) (N := 3) hx hb hts iA_6 hown hK hP 0 rfl rfl 1 (by decide) (hts (.fieldLink RX6 9 "HubTree$Reader" "at" "I") (List.mem_cons_of_mem _ m_67)) (fun _ h9 => h9) rfl dX6_readItems_89 ?_
                obtain rfl := Option.some.inj hG
                have hP9 := hP.sub (ws' := [(rd, .inr (6, [.ref tp, .int (o_4), .int rv_c])), (tp, .inr (8, [.ref by_, .int tl])), (by_, .inl (cb, 240, .inl tb)), (iq, .inl (ci, 48, .inl fi_c))]) [0, 1, 2, 3] rfl
                have hD9 := hD.sub (ws' := [(rd, .inr (6, [.ref tp, .int (o_4), .int rv_c])), (tp, .inr (8, [.ref by_, .int tl])), (by_, .inl (cb, 240, .inl tb)), (iq, .inl (ci, 48, .inl fi_c))]) [0, 1, 2, 3] (by decide) rfl
                have hK9 := hK.sub (tys' := [(cb, .char), (ci, .int)]) [0, 1] rfl
                exact W.iret (v := (o_4)) hx hb hr (fun t ht hW => ⟨⟨(o_4), (), rfl, ⟨rfl, trivial⟩, by rw [ht]; exact hP9, va_K.moved hW.alike hK9, hD9⟩, hS.F ht⟩) hS.2.2 dX6_readItems_92
          · have hG := q_ifn c_9 hG
            refine lv_iconst (v := (-1)) hx hb dX6_readItems_52 (by decide) ?_
            obtain rfl := Option.some.inj hG
            have hP9 := hP.sub (ws' := [(rd, .inr (6, [.ref tp, .int (o_4), .int rv_c])), (tp, .inr (8, [.ref by_, .int tl])), (by_, .inl (cb, 240, .inl tb)), (iq, .inl (ci, 48, .inl fi_c))]) [0, 1, 2, 3] rfl
            have hD9 := hD.sub (ws' := [(rd, .inr (6, [.ref tp, .int (o_4), .int rv_c])), (tp, .inr (8, [.ref by_, .int tl])), (by_, .inl (cb, 240, .inl tb)), (iq, .inl (ci, 48, .inl fi_c))]) [0, 1, 2, 3] (by decide) rfl
            have hK9 := hK.sub (tys' := [(cb, .char), (ci, .int)]) [0, 1] rfl
            exact W.iret (v := (-1)) hx hb hr (fun t ht hW => ⟨⟨(-1), (), rfl, ⟨rfl, trivial⟩, by rw [ht]; exact hP9, va_K.moved hW.alike hK9, hD9⟩, hS.F ht⟩) hS.2.2 dX6_readItems_53
  exact L_16 1000 0 0 (ra + 1) rv fi H locs ls hG hP hD hS hl

def FL_X6_readTree_13 (tb : Nat → Int32) (tl : Int32) (ra : Int32) (rv : Int32) (fu : Nat → Int32) (fp : Nat → Int32) : Nat → Int32 → Int32 → (Int32) → (Int32) → (Int32) → (Nat → Int32) → (Nat → Int32) → Option (Int32 × Int32 × Int32 × Int32 × (Nat → Int32) × (Nat → Int32))
  | 0, _, _, _, _, _, _, _ => none
  | n + 1, x2_13, x3_13, ra_c, rv_c, dv_c, fu_c, fp_c => (if 240 ≤ x3_13 then some (ra_c, ra_c, rv_c, dv_c, fu_c, fp_c) else ((F_X6_skipBlanks tb tl ra_c).bind fun o_4 => ((F_X6_stands tb tl (o_4) 115).bind fun o_6 => (if o_6 = 0 then ((F_X6_stands tb tl (o_4) 100).bind fun o_9 => (if o_9 = 0 then some ((o_4), (o_4), rv_c, dv_c, fu_c, fp_c) else (if 8 ≤ dv_c then some ((o_4), (o_4), rv_c, dv_c, fu_c, fp_c) else ((F_X5_addDevice dv_c fp_c).bind fun o_13 => ((F_X6_readItems_d tb tl (o_4) rv_c (o_13.2) ((o_13.1) - 1) 8).bind fun o_15 => (if o_15.1 = (-1) then (if (o_15.2.1) < tl then (FL_X6_readTree_13 tb tl ra rv fu fp n x2_13 (x3_13 + 1) ((o_15.2.1) + 1) (o_15.2.2.1) (o_13.1) fu_c (o_15.2.2.2)) else ((F_X5_isTold (o_13.1)).bind fun o_19 => (if o_19 = 0 then some ((o_15.2.1), (o_15.2.1), (o_15.2.2.1), (o_13.1), fu_c, (o_15.2.2.2)) else some ((-1), (o_15.2.1), (o_15.2.2.1), (o_13.1), fu_c, (o_15.2.2.2))))) else some (o_15.1, (o_15.2.1), (o_15.2.2.1), (o_13.1), fu_c, (o_15.2.2.2)))))))) else (if x2_13 = 0 then ((F_X6_readItems_s tb tl (o_4) rv_c fu_c 0 1).bind fun o_36 => (if o_36.1 = (-1) then (if (o_36.2.1) < tl then (FL_X6_readTree_13 tb tl ra rv fu fp n 1 (x3_13 + 1) ((o_36.2.1) + 1) (o_36.2.2.1) dv_c (o_36.2.2.2) fp_c) else ((F_X5_isTold dv_c).bind fun o_40 => (if o_40 = 0 then some ((o_36.2.1), (o_36.2.1), (o_36.2.2.1), dv_c, (o_36.2.2.2), fp_c) else some ((-1), (o_36.2.1), (o_36.2.2.1), dv_c, (o_36.2.2.2), fp_c)))) else some (o_36.1, (o_36.2.1), (o_36.2.2.1), dv_c, (o_36.2.2.2), fp_c))) else ((F_X6_stands tb tl (o_4) 100).bind fun o_23 => (if o_23 = 0 then some ((o_4), (o_4), rv_c, dv_c, fu_c, fp_c) else (if 8 ≤ dv_c then some ((o_4), (o_4), rv_c, dv_c, fu_c, fp_c) else ((F_X5_addDevice dv_c fp_c).bind fun o_27 => ((F_X6_readItems_d tb tl (o_4) rv_c (o_27.2) ((o_27.1) - 1) 8).bind fun o_29 => (if o_29.1 = (-1) then (if (o_29.2.1) < tl then (FL_X6_readTree_13 tb tl ra rv fu fp n x2_13 (x3_13 + 1) ((o_29.2.1) + 1) (o_29.2.2.1) (o_27.1) fu_c (o_29.2.2.2)) else ((F_X5_isTold (o_27.1)).bind fun o_33 => (if o_33 = 0 then some ((o_29.2.1), (o_29.2.1), (o_29.2.2.1), (o_27.1), fu_c, (o_29.2.2.2)) else some ((-1), (o_29.2.1), (o_29.2.2.1), (o_27.1), fu_c, (o_29.2.2.2))))) else some (o_29.1, (o_29.2.1), (o_29.2.2.1), (o_27.1), fu_c, (o_29.2.2.2)))))))))))))

def F_X6_readTree (tb : Nat → Int32) (tl : Int32) (ra : Int32) (rv : Int32) (fu : Nat → Int32) (fp : Nat → Int32) : Option (Int32 × Int32 × Int32 × Int32 × (Nat → Int32) × (Nat → Int32)) := ((F_X5_clear fu).bind fun o_1 => (FL_X6_readTree_13 tb tl ra rv fu fp 1000 0 0 0 rv (o_1.2) (o_1.1) fp))
set_option maxHeartbeats 4000000 in
set_option maxRecDepth 100000 in
theorem c_X6_readTree (l : Launch) (dC : Nat → ClassId) (dI : Nat → Nat → Nat) (ts : Nat → Nat) (ks : Nat → Nat) (kv : Nat → Nat) (rd : Nat) (tp : Nat) (by_ : Nat) (cb : ClassId) (tb : Nat → Int32) (tl : Int32) (ra : Int32) (rv : Int32) (h : Nat) (r1 : Nat) (r2 : Nat) (dv : Int32) (c1 : ClassId) (c2 : ClassId) (fu : Nat → Int32) (fp : Nat → Int32) (A : Nat → Prop) (o : Int32 × Int32 × Int32 × Int32 × (Nat → Int32) × (Nat → Int32)) (hG : F_X6_readTree tb tl ra rv fu fp = some o) : Met l yX6_readTree (.code yX6_readTree cX6_readTree 6 (some .int) :: wA) ({ frames := 5, cells := 0, slots := 0, locals := 120 }) (va_Pc [.ref rd, .ref h] (q_WE (dC, dI) A [(rd, .inr (6, [.ref tp, .int ra, .int rv])), (tp, .inr (8, [.ref by_, .int tl])), (by_, .inl (cb, 240, .inl tb)), (h, .inr (5, [.ref r1, .ref r2, .int dv])), (r1, .inl (c1, 8, .inl fu)), (r2, .inl (c2, 48, .inl fp))] [(cb, .char), (c1, .int), (c2, .int)] (q_S ts ks kv A))) (va_Qi (fun (r : Int32) (_ : Unit) => r = o.1 ∧ True) (fun (_ : Unit) t => q_B (dC, dI) A [(rd, .inr (6, [.ref tp, .int (o.2.1), .int (o.2.2.1)])), (tp, .inr (8, [.ref by_, .int tl])), (by_, .inl (cb, 240, .inl tb)), (h, .inr (5, [.ref r1, .ref r2, .int (o.2.2.2.1)])), (r1, .inl (c1, 8, .inl (o.2.2.2.2.1))), (r2, .inl (c2, 48, .inl (o.2.2.2.2.2)))] [(cb, .char), (c1, .int), (c2, .int)] t) A) 0 0 A := by
  refine Met.ofW (cc := cX6_readTree) (maxL := 6) (ret := (some .int)) (by decide) rfl ?_
  intro p e s m args below meth c s₁ B hml hv
  obtain ⟨rfl, hP, hK, hD, hA, hE⟩ := hv
  have hx := B.exec
  have hb := B.bytes
  have hr := B.returns
  have hts := atoms_spec (ws := .code yX6_readTree cX6_readTree 6 (some .int) :: wA) B.pre
  have hown : s.vm.findClass RX6 = some m.cls := findClass_of_methodNamed B.named
  have hlocks := B.notSynchronized
  have hS : va_S A s.heap s.heap [] := va_S.rf
  have hl := lv_entry ([.ref rd, .ref h]) (n := 6) (Nat.le_of_ble_eq_true rfl)
  rw [lg_entry_eq]
  generalize (lg_sl ([.ref rd, .ref h]) ++ List.replicate (6 - (lg_sl ([.ref rd, .ref h])).length) Slot.unset).toArray = ls at hl ⊢
  have hl : lv_has ls 6 [(0, .ref rd), (1, .ref h)] := hl
  unfold F_X6_readTree at hG
  refine lv_aload_n hx hb dX6_readTree_0 rfl (lv_at hl 1 rfl) ?_
  obtain ⟨o_1, r_2, hG⟩ := q_bi hG
  refine q_gov2 (wr := [(rd, .inr (6, [.ref tp, .int ra, .int rv])), (tp, .inr (8, [.ref by_, .int tl])), (by_, .inl (cb, 240, .inl tb)), (r2, .inl (c2, 48, .inl fp))]) (va_runV (As := []) (rest := []) ⟨hx, hb, hml, hown, hts⟩ (c_X5_clear l dC dI ts ks kv h r1 r2 dv c1 fu (va_A [(h, .inr (5, [.ref r1, .ref r2, .int dv])), (r1, .inl (c1, 8, .inl fu))] s.heap.size) o_1 r_2) (cwV 0 hts (q_gV m_172 m_173 m_174 m_24 m_175) rfl rfl rfl hdV_yX5_clear_0 ⟨Nat.le_of_ble_eq_true rfl, Nat.le_of_ble_eq_true rfl⟩) (q_preWVE hK hP hD (q := (RX5, TX5, 3)) (ci := 5) (q0 := 3) rfl rfl [3, 4] (by decide) rfl rfl [1] rfl q_S_bl (q_S_give hE hS (va_free (wc := [(h, .inr (5, [.ref r1, .ref r2, .int dv])), (r1, .inl (c1, 8, .inl fu))]) hD hS hA [3, 4] rfl))) rfl rfl hl.1 rfl (lv_room (Nat.le_of_ble_eq_true rfl)) dX6_readTree_1 ⟨Nat.le_of_ble_eq_true rfl, Nat.le_of_ble_eq_true rfl⟩) hK hP hD hS hA [3, 4] [0, 1, 2, 5] rfl rfl (by decide) (by decide) (fun _ H locs _ hP hD hK9 hS => ?_)
  have hP : va_P (dC, dI) vwCl [(rd, .inr (6, [.ref tp, .int ra, .int rv])), (tp, .inr (8, [.ref by_, .int tl])), (by_, .inl (cb, 240, .inl tb)), (h, .inr (5, [.ref r1, .ref r2, .int (o_1.2)])), (r1, .inl (c1, 8, .inl (o_1.1))), (r2, .inl (c2, 48, .inl fp))] H := hP.sub [0, 1, 2, 4, 5, 3] rfl
  have hD : va_D A [(rd, .inr (6, [.ref tp, .int ra, .int rv])), (tp, .inr (8, [.ref by_, .int tl])), (by_, .inl (cb, 240, .inl tb)), (h, .inr (5, [.ref r1, .ref r2, .int (o_1.2)])), (r1, .inl (c1, 8, .inl (o_1.1))), (r2, .inl (c2, 48, .inl fp))] := hD.sub [0, 1, 2, 4, 5, 3] (by decide) rfl
  refine lv_aload_n hx hb dX6_readTree_4 rfl (lv_at hl 0 rfl) ?_
  refine lv_iconst (v := 0) hx hb dX6_readTree_5 (by decide) ?_
  refine va_put (D := (dC, dI)) (ci := 6) (v := .int 0) (ty := .int) (C := RX6) (T := TX6) (N := 3) hx hb hts iA_6 tyX6 tyX6_ok nmX6 hown hK hP hD hS 0 rfl rfl 1 (by decide) (hts (.fieldLink RX6 9 "HubTree$Reader" "at" "I") (List.mem_cons_of_mem _ m_67)) (fun _ h9 => h9) rfl (by decide +kernel) rfl rfl (Nat.le_of_ble_eq_true rfl) dX6_readTree_6 (fun H locs hP hD hS => ?_)
  have hP : va_P (dC, dI) vwCl [(rd, .inr (6, [.ref tp, .int 0, .int rv])), (tp, .inr (8, [.ref by_, .int tl])), (by_, .inl (cb, 240, .inl tb)), (h, .inr (5, [.ref r1, .ref r2, .int (o_1.2)])), (r1, .inl (c1, 8, .inl (o_1.1))), (r2, .inl (c2, 48, .inl fp))] H := hP
  have hD : va_D A [(rd, .inr (6, [.ref tp, .int 0, .int rv])), (tp, .inr (8, [.ref by_, .int tl])), (by_, .inl (cb, 240, .inl tb)), (h, .inr (5, [.ref r1, .ref r2, .int (o_1.2)])), (r1, .inl (c1, 8, .inl (o_1.1))), (r2, .inl (c2, 48, .inl fp))] := hD
  refine lv_iconst (v := 0) hx hb dX6_readTree_9 (by decide) ?_
  refine lv_istore_n (lv' := [(2, .int 0), (0, .ref rd), (1, .ref h)]) hx hb dX6_readTree_10 rfl hl (by decide) rfl (fun ls hl => ?_)
  refine lv_iconst (v := 0) hx hb dX6_readTree_11 (by decide) ?_
  refine lv_istore_n (lv' := [(3, .int 0), (2, .int 0), (0, .ref rd), (1, .ref h)]) hx hb dX6_readTree_12 rfl hl (by decide) rfl (fun ls hl => ?_)
  have L_13 : ∀ (n_13 : Nat) (x2_13 : Int32) (x3_13 : Int32) (ra_c : Int32) (rv_c : Int32) (dv_c : Int32) (fu_c : Nat → Int32) (fp_c : Nat → Int32) (H : Heap) (locs : List Loc) (ls : Array Slot), FL_X6_readTree_13 tb tl ra rv fu fp n_13 x2_13 x3_13 ra_c rv_c dv_c fu_c fp_c = some o → va_P (dC, dI) vwCl [(rd, .inr (6, [.ref tp, .int ra_c, .int rv_c])), (tp, .inr (8, [.ref by_, .int tl])), (by_, .inl (cb, 240, .inl tb)), (h, .inr (5, [.ref r1, .ref r2, .int dv_c])), (r1, .inl (c1, 8, .inl fu_c)), (r2, .inl (c2, 48, .inl fp_c))] H → va_D A [(rd, .inr (6, [.ref tp, .int ra_c, .int rv_c])), (tp, .inr (8, [.ref by_, .int tl])), (by_, .inl (cb, 240, .inl tb)), (h, .inr (5, [.ref r1, .ref r2, .int dv_c])), (r1, .inl (c1, 8, .inl fu_c)), (r2, .inl (c2, 48, .inl fp_c))] → va_S A s.heap H locs → lv_has ls 6 [(3, .int x3_13), (2, .int x2_13), (0, .ref rd), (1, .ref h)] → W p l e (headSpec (.code yX6_readTree cX6_readTree 6 (some .int) :: wA) ({ frames := 5, cells := 0, slots := 0, locals := 120 })).room s m #[.ref rd, .ref h] below meth c H locs 0 0 (MQ below (va_Qi (fun (r : Int32) (_ : Unit) => r = o.1 ∧ True) (fun (_ : Unit) t => q_B (dC, dI) A [(rd, .inr (6, [.ref tp, .int (o.2.1), .int (o.2.2.1)])), (tp, .inr (8, [.ref by_, .int tl])), (by_, .inl (cb, 240, .inl tb)), (h, .inr (5, [.ref r1, .ref r2, .int (o.2.2.2.1)])), (r1, .inl (c1, 8, .inl (o.2.2.2.2.1))), (r2, .inl (c2, 48, .inl (o.2.2.2.2.2)))] [(cb, .char), (c1, .int), (c2, .int)] t) A) #[.ref rd, .ref h] s 0 0 A) (F0 m 13 ls []) := by
    intro n_13
    induction n_13 with
    | zero =>
      intro x2_13 x3_13 ra_c rv_c dv_c fu_c fp_c H locs ls hG
      exact q_no hG
    | succ n_13 ih_13 =>
      intro x2_13 x3_13 ra_c rv_c dv_c fu_c fp_c H locs ls hG hP hD hS hl
      unfold FL_X6_readTree_13 at hG
      refine lv_iload_n hx hb dX6_readTree_13 rfl (lv_at hl 0 rfl) ?_
      refine lv_sipush (v := 240) hx hb dX6_readTree_14 (by decide) ?_
      refine lv_icmp_ge (tgt := 177) hx hb dX6_readTree_17 (by decide) (fun c_3 => ?_) (fun c_3 => ?_)
      · have hG := q_ifp c_3 hG
        refine lv_aload_n hx hb dX6_readTree_177 rfl (lv_at hl 2 rfl) ?_
        refine va_get (D := (dC, dI)) (ci := 6) (v := .int ra_c) (C := RX6) (T := TX6) (N := 3) hx hb hts iA_6 hown hK hP 0 rfl rfl 1 (by decide) (hts (.fieldLink RX6 9 "HubTree$Reader" "at" "I") (List.mem_cons_of_mem _ m_67)) (fun _ h9 => h9) rfl dX6_readTree_178 ?_
        obtain rfl := Option.some.inj hG
        have hP9 := hP.sub (ws' := [(rd, .inr (6, [.ref tp, .int ra_c, .int rv_c])), (tp, .inr (8, [.ref by_, .int tl])), (by_, .inl (cb, 240, .inl tb)), (h, .inr (5, [.ref r1, .ref r2, .int dv_c])), (r1, .inl (c1, 8, .inl fu_c)), (r2, .inl (c2, 48, .inl fp_c))]) [0, 1, 2, 3, 4, 5] rfl
        have hD9 := hD.sub (ws' := [(rd, .inr (6, [.ref tp, .int ra_c, .int rv_c])), (tp, .inr (8, [.ref by_, .int tl])), (by_, .inl (cb, 240, .inl tb)), (h, .inr (5, [.ref r1, .ref r2, .int dv_c])), (r1, .inl (c1, 8, .inl fu_c)), (r2, .inl (c2, 48, .inl fp_c))]) [0, 1, 2, 3, 4, 5] (by decide) rfl
        have hK9 := hK.sub (tys' := [(cb, .char), (c1, .int), (c2, .int)]) [0, 1, 2] rfl
        exact W.iret (v := ra_c) hx hb hr (fun t ht hW => ⟨⟨ra_c, (), rfl, ⟨rfl, trivial⟩, by rw [ht]; exact hP9, va_K.moved hW.alike hK9, hD9⟩, hS.F ht⟩) hS.2.2 dX6_readTree_181
      · have hG := q_ifn c_3 hG
        refine lv_aload_n hx hb dX6_readTree_20 rfl (lv_at hl 2 rfl) ?_
        obtain ⟨o_4, r_5, hG⟩ := q_bi hG
        refine q_gov2 (wr := [(h, .inr (5, [.ref r1, .ref r2, .int dv_c])), (r1, .inl (c1, 8, .inl fu_c)), (r2, .inl (c2, 48, .inl fp_c))]) (va_runV (As := []) (rest := []) ⟨hx, hb, hml, hown, hts⟩ (c_X6_skipBlanks l dC dI rd tp by_ cb tb tl ra_c rv_c (va_A [(rd, .inr (6, [.ref tp, .int ra_c, .int rv_c])), (tp, .inr (8, [.ref by_, .int tl])), (by_, .inl (cb, 240, .inl tb))] H.size) o_4 r_5) (cwV 0 hts (q_gV m_180 m_181 m_182 m_20 m_183) rfl rfl rfl hdV_yX6_skipBlanks_0 ⟨Nat.le_of_ble_eq_true rfl, Nat.le_of_ble_eq_true rfl⟩) (q_preWV hK hP hD (q := (RX6, TX6, 3)) (ci := 6) (q0 := 0) rfl rfl [0, 1, 2] (by decide) rfl rfl [0] rfl) rfl rfl hl.1 rfl (lv_room (Nat.le_of_ble_eq_true rfl)) dX6_readTree_21 ⟨Nat.le_of_ble_eq_true rfl, Nat.le_of_ble_eq_true rfl⟩) hK hP hD hS hA [0, 1, 2] [3, 4, 5] rfl rfl (by decide) (by decide) (fun _ H locs _ hP hD hK9 hS => ?_)
        have hP : va_P (dC, dI) vwCl [(rd, .inr (6, [.ref tp, .int (o_4), .int rv_c])), (tp, .inr (8, [.ref by_, .int tl])), (by_, .inl (cb, 240, .inl tb)), (h, .inr (5, [.ref r1, .ref r2, .int dv_c])), (r1, .inl (c1, 8, .inl fu_c)), (r2, .inl (c2, 48, .inl fp_c))] H := hP.sub [3, 4, 5, 0, 1, 2] rfl
        have hD : va_D A [(rd, .inr (6, [.ref tp, .int (o_4), .int rv_c])), (tp, .inr (8, [.ref by_, .int tl])), (by_, .inl (cb, 240, .inl tb)), (h, .inr (5, [.ref r1, .ref r2, .int dv_c])), (r1, .inl (c1, 8, .inl fu_c)), (r2, .inl (c2, 48, .inl fp_c))] := hD.sub [3, 4, 5, 0, 1, 2] (by decide) rfl
        refine lv_aload_n hx hb dX6_readTree_24 rfl (lv_at hl 2 rfl) ?_
        refine lv_bipush (v := 115) hx hb dX6_readTree_25 (by decide) ?_
        obtain ⟨o_6, r_7, hG⟩ := q_bi hG
        refine q_goi (v := o_6) (va_runV (As := [.int 115]) (rest := []) ⟨hx, hb, hml, hown, hts⟩ (c_X6_stands l dC dI rd tp by_ cb tb tl (o_4) rv_c 115 o_6 r_7) (cwV 1 hts (q_gV m_185 m_186 m_187 m_20 m_188) rfl rfl rfl hdV_yX6_stands_1 ⟨Nat.le_of_ble_eq_true rfl, Nat.le_of_ble_eq_true rfl⟩) (q_preV hK hP (q := (RX6, TX6, 3)) (ci := 6) (q0 := 0) rfl rfl [0, 1, 2] rfl [0] rfl) rfl rfl hl.1 rfl (lv_room (Nat.le_of_ble_eq_true rfl)) dX6_readTree_27 ⟨Nat.le_of_ble_eq_true rfl, Nat.le_of_ble_eq_true rfl⟩) hP hS (fun H locs hP hS => ?_)
        refine lv_if_eq (tgt := 62) hx hb dX6_readTree_30 (by decide) (fun c_8 => ?_) (fun c_8 => ?_)
        · have hG := q_ifp c_8 hG
          refine lv_aload_n hx hb dX6_readTree_62 rfl (lv_at hl 2 rfl) ?_
          refine lv_bipush (v := 100) hx hb dX6_readTree_63 (by decide) ?_
          obtain ⟨o_9, r_10, hG⟩ := q_bi hG
          refine q_goi (v := o_9) (va_runV (As := [.int 100]) (rest := []) ⟨hx, hb, hml, hown, hts⟩ (c_X6_stands l dC dI rd tp by_ cb tb tl (o_4) rv_c 100 o_9 r_10) (cwV 1 hts (q_gV m_185 m_186 m_187 m_20 m_188) rfl rfl rfl hdV_yX6_stands_1 ⟨Nat.le_of_ble_eq_true rfl, Nat.le_of_ble_eq_true rfl⟩) (q_preV hK hP (q := (RX6, TX6, 3)) (ci := 6) (q0 := 0) rfl rfl [0, 1, 2] rfl [0] rfl) rfl rfl hl.1 rfl (lv_room (Nat.le_of_ble_eq_true rfl)) dX6_readTree_65 ⟨Nat.le_of_ble_eq_true rfl, Nat.le_of_ble_eq_true rfl⟩) hP hS (fun H locs hP hS => ?_)
          refine lv_if_eq (tgt := 117) hx hb dX6_readTree_68 (by decide) (fun c_11 => ?_) (fun c_11 => ?_)
          · have hG := q_ifp c_11 hG
            refine lv_aload_n hx hb dX6_readTree_117 rfl (lv_at hl 2 rfl) ?_
            refine va_get (D := (dC, dI)) (ci := 6) (v := .int (o_4)) (C := RX6) (T := TX6) (N := 3) hx hb hts iA_6 hown hK hP 0 rfl rfl 1 (by decide) (hts (.fieldLink RX6 9 "HubTree$Reader" "at" "I") (List.mem_cons_of_mem _ m_67)) (fun _ h9 => h9) rfl dX6_readTree_118 ?_
            obtain rfl := Option.some.inj hG
            have hP9 := hP.sub (ws' := [(rd, .inr (6, [.ref tp, .int (o_4), .int rv_c])), (tp, .inr (8, [.ref by_, .int tl])), (by_, .inl (cb, 240, .inl tb)), (h, .inr (5, [.ref r1, .ref r2, .int dv_c])), (r1, .inl (c1, 8, .inl fu_c)), (r2, .inl (c2, 48, .inl fp_c))]) [0, 1, 2, 3, 4, 5] rfl
            have hD9 := hD.sub (ws' := [(rd, .inr (6, [.ref tp, .int (o_4), .int rv_c])), (tp, .inr (8, [.ref by_, .int tl])), (by_, .inl (cb, 240, .inl tb)), (h, .inr (5, [.ref r1, .ref r2, .int dv_c])), (r1, .inl (c1, 8, .inl fu_c)), (r2, .inl (c2, 48, .inl fp_c))]) [0, 1, 2, 3, 4, 5] (by decide) rfl
            have hK9 := hK.sub (tys' := [(cb, .char), (c1, .int), (c2, .int)]) [0, 1, 2] rfl
            exact W.iret (v := (o_4)) hx hb hr (fun t ht hW => ⟨⟨(o_4), (), rfl, ⟨rfl, trivial⟩, by rw [ht]; exact hP9, va_K.moved hW.alike hK9, hD9⟩, hS.F ht⟩) hS.2.2 dX6_readTree_121
          · have hG := q_ifn c_11 hG
            refine lv_aload_n hx hb dX6_readTree_71 rfl (lv_at hl 3 rfl) ?_
            refine va_get (D := (dC, dI)) (ci := 5) (v := .int dv_c) (C := RX5) (T := TX5) (N := 3) hx hb hts iA_5 hown hK hP 3 rfl rfl 2 (by decide) (hts (.fieldLink RX6 50 "HubTree$Plan" "devices" "I") (List.mem_cons_of_mem _ m_169)) (fun _ h9 => h9) rfl dX6_readTree_72 ?_
            refine lv_bipush (v := 8) hx hb dX6_readTree_75 (by decide) ?_
            refine lv_icmp_ge (tgt := 117) hx hb dX6_readTree_77 (by decide) (fun c_12 => ?_) (fun c_12 => ?_)
            · have hG := q_ifp c_12 hG
              refine lv_aload_n hx hb dX6_readTree_117 rfl (lv_at hl 2 rfl) ?_
              refine va_get (D := (dC, dI)) (ci := 6) (v := .int (o_4)) (C := RX6) (T := TX6) (N := 3) hx hb hts iA_6 hown hK hP 0 rfl rfl 1 (by decide) (hts (.fieldLink RX6 9 "HubTree$Reader" "at" "I") (List.mem_cons_of_mem _ m_67)) (fun _ h9 => h9) rfl dX6_readTree_118 ?_
              obtain rfl := Option.some.inj hG
              have hP9 := hP.sub (ws' := [(rd, .inr (6, [.ref tp, .int (o_4), .int rv_c])), (tp, .inr (8, [.ref by_, .int tl])), (by_, .inl (cb, 240, .inl tb)), (h, .inr (5, [.ref r1, .ref r2, .int dv_c])), (r1, .inl (c1, 8, .inl fu_c)), (r2, .inl (c2, 48, .inl fp_c))]) [0, 1, 2, 3, 4, 5] rfl
              have hD9 := hD.sub (ws' := [(rd, .inr (6, [.ref tp, .int (o_4), .int rv_c])), (tp, .inr (8, [.ref by_, .int tl])), (by_, .inl (cb, 240, .inl tb)), (h, .inr (5, [.ref r1, .ref r2, .int dv_c])), (r1, .inl (c1, 8, .inl fu_c)), (r2, .inl (c2, 48, .inl fp_c))]) [0, 1, 2, 3, 4, 5] (by decide) rfl
              have hK9 := hK.sub (tys' := [(cb, .char), (c1, .int), (c2, .int)]) [0, 1, 2] rfl
              exact W.iret (v := (o_4)) hx hb hr (fun t ht hW => ⟨⟨(o_4), (), rfl, ⟨rfl, trivial⟩, by rw [ht]; exact hP9, va_K.moved hW.alike hK9, hD9⟩, hS.F ht⟩) hS.2.2 dX6_readTree_121
            · have hG := q_ifn c_12 hG
              refine lv_aload_n hx hb dX6_readTree_80 rfl (lv_at hl 3 rfl) ?_
              obtain ⟨o_13, r_14, hG⟩ := q_bi hG
              refine q_gov2 (wr := [(rd, .inr (6, [.ref tp, .int (o_4), .int rv_c])), (tp, .inr (8, [.ref by_, .int tl])), (by_, .inl (cb, 240, .inl tb))]) (va_runV (As := []) (rest := []) ⟨hx, hb, hml, hown, hts⟩ (c_X5_addDevice l dC dI ts ks kv h r1 r2 dv_c c1 c2 fu_c fp_c (va_A [(h, .inr (5, [.ref r1, .ref r2, .int dv_c])), (r1, .inl (c1, 8, .inl fu_c)), (r2, .inl (c2, 48, .inl fp_c))] H.size) o_13 r_14) (cwV 0 hts (q_gV m_295 m_296 m_297 m_24 m_298) rfl rfl rfl hdV_yX5_addDevice_0 ⟨Nat.le_of_ble_eq_true rfl, Nat.le_of_ble_eq_true rfl⟩) (q_preWVE hK hP hD (q := (RX5, TX5, 3)) (ci := 5) (q0 := 3) rfl rfl [3, 4, 5] (by decide) rfl rfl [1, 2] rfl q_S_bl (q_S_give hE hS (va_free (wc := [(h, .inr (5, [.ref r1, .ref r2, .int dv_c])), (r1, .inl (c1, 8, .inl fu_c)), (r2, .inl (c2, 48, .inl fp_c))]) hD hS hA [3, 4, 5] rfl))) rfl rfl hl.1 rfl (lv_room (Nat.le_of_ble_eq_true rfl)) dX6_readTree_81 ⟨Nat.le_of_ble_eq_true rfl, Nat.le_of_ble_eq_true rfl⟩) hK hP hD hS hA [3, 4, 5] [0, 1, 2] rfl rfl (by decide) (by decide) (fun _ H locs _ hP hD hK9 hS => ?_)
              have hP : va_P (dC, dI) vwCl [(rd, .inr (6, [.ref tp, .int (o_4), .int rv_c])), (tp, .inr (8, [.ref by_, .int tl])), (by_, .inl (cb, 240, .inl tb)), (h, .inr (5, [.ref r1, .ref r2, .int (o_13.1)])), (r1, .inl (c1, 8, .inl fu_c)), (r2, .inl (c2, 48, .inl (o_13.2)))] H := hP.sub [0, 1, 2, 3, 4, 5] rfl
              have hD : va_D A [(rd, .inr (6, [.ref tp, .int (o_4), .int rv_c])), (tp, .inr (8, [.ref by_, .int tl])), (by_, .inl (cb, 240, .inl tb)), (h, .inr (5, [.ref r1, .ref r2, .int (o_13.1)])), (r1, .inl (c1, 8, .inl fu_c)), (r2, .inl (c2, 48, .inl (o_13.2)))] := hD.sub [0, 1, 2, 3, 4, 5] (by decide) rfl
              refine lv_aload_n hx hb dX6_readTree_84 rfl (lv_at hl 3 rfl) ?_
              refine va_get (D := (dC, dI)) (ci := 5) (v := .int (o_13.1)) (C := RX5) (T := TX5) (N := 3) hx hb hts iA_5 hown hK hP 3 rfl rfl 2 (by decide) (hts (.fieldLink RX6 50 "HubTree$Plan" "devices" "I") (List.mem_cons_of_mem _ m_169)) (fun _ h9 => h9) rfl dX6_readTree_85 ?_
              refine lv_iconst (v := 1) hx hb dX6_readTree_88 (by decide) ?_
              refine lv_isub hx hb dX6_readTree_89 ?_
              refine lv_istore (lv' := [(5, .int ((o_13.1) - 1)), (3, .int x3_13), (2, .int x2_13), (0, .ref rd), (1, .ref h)]) hx hb dX6_readTree_90 hl (by decide) rfl (fun ls hl => ?_)
              refine lv_aload_n hx hb dX6_readTree_92 rfl (lv_at hl 3 rfl) ?_
              refine va_ldcS hx hb hown (q_S_r1 hE) dX6_readTree_93 ?_
              refine va_getsN hx hb (q_S_t hE 3 (by decide)).1 hS hown (va_Nw.use rfl (q_S_l3 hE)) (fun _ h9 => h9) dX6_readTree_95 ?_
              refine va_getsN hx hb (q_S_t hE 4 (by decide)).1 hS hown (va_Nw.use rfl (q_S_l4 hE)) (fun _ h9 => h9) dX6_readTree_98 ?_
              refine lv_aload_n hx hb dX6_readTree_101 rfl (lv_at hl 4 rfl) ?_
              refine va_get (D := (dC, dI)) (ci := 5) (v := .ref r2) (C := RX5) (T := TX5) (N := 3) hx hb hts iA_5 hown hK hP 3 rfl rfl 1 (by decide) (hts (.fieldLink RX6 64 "HubTree$Plan" "row" "[I") (List.mem_cons_of_mem _ m_170)) (fun _ h9 => h9) rfl dX6_readTree_102 ?_
              refine lv_iload hx hb dX6_readTree_105 (lv_at hl 0 rfl) ?_
              refine lv_bipush (v := 8) hx hb dX6_readTree_107 (by decide) ?_
              obtain ⟨o_15, r_16, hG⟩ := q_bi hG
              refine q_goi2 (v := o_15.1) (wr := [(h, .inr (5, [.ref r1, .ref r2, .int (o_13.1)])), (r1, .inl (c1, 8, .inl fu_c))]) (va_runV (As := [.ref (ks 1), .ref (ts 3), .ref (ts 4), .ref r2, .int ((o_13.1) - 1), .int 8]) (rest := []) ⟨hx, hb, hml, hown, hts⟩ (c_X6_readItems_d l dC dI ts ks kv rd tp by_ cb tb tl (o_4) rv_c r2 c2 (o_13.2) ((o_13.1) - 1) 8 (va_A [(rd, .inr (6, [.ref tp, .int (o_4), .int rv_c])), (tp, .inr (8, [.ref by_, .int tl])), (by_, .inl (cb, 240, .inl tb)), (r2, .inl (c2, 48, .inl (o_13.2)))] H.size) o_15 r_16) (cwV 6 hts (q_gV m_189 m_190 m_191 m_20 m_192) rfl rfl rfl hdV_yX6_readItems_6 ⟨Nat.le_of_ble_eq_true rfl, Nat.le_of_ble_eq_true rfl⟩) (q_preWVE hK hP hD (q := (RX6, TX6, 3)) (ci := 6) (q0 := 0) rfl rfl [0, 1, 2, 5] (by decide) rfl rfl [0, 2] rfl q_S_bl (q_S_give hE hS (va_free (wc := [(rd, .inr (6, [.ref tp, .int (o_4), .int rv_c])), (tp, .inr (8, [.ref by_, .int tl])), (by_, .inl (cb, 240, .inl tb)), (r2, .inl (c2, 48, .inl (o_13.2)))]) hD hS hA [0, 1, 2, 5] rfl))) rfl rfl hl.1 rfl (lv_room (Nat.le_of_ble_eq_true rfl)) dX6_readTree_109 ⟨Nat.le_of_ble_eq_true rfl, Nat.le_of_ble_eq_true rfl⟩) hK hP hD hS hA [0, 1, 2, 5] [3, 4] rfl rfl (by decide) (by decide) (fun _ H locs _ hP hD hK9 hS => ?_)
              have hP : va_P (dC, dI) vwCl [(rd, .inr (6, [.ref tp, .int (o_15.2.1), .int (o_15.2.2.1)])), (tp, .inr (8, [.ref by_, .int tl])), (by_, .inl (cb, 240, .inl tb)), (h, .inr (5, [.ref r1, .ref r2, .int (o_13.1)])), (r1, .inl (c1, 8, .inl fu_c)), (r2, .inl (c2, 48, .inl (o_15.2.2.2)))] H := hP.sub [2, 3, 4, 0, 1, 5] rfl
              have hD : va_D A [(rd, .inr (6, [.ref tp, .int (o_15.2.1), .int (o_15.2.2.1)])), (tp, .inr (8, [.ref by_, .int tl])), (by_, .inl (cb, 240, .inl tb)), (h, .inr (5, [.ref r1, .ref r2, .int (o_13.1)])), (r1, .inl (c1, 8, .inl fu_c)), (r2, .inl (c2, 48, .inl (o_15.2.2.2)))] := hD.sub [2, 3, 4, 0, 1, 5] (by decide) rfl
              refine lv_istore (lv' := [(4, .int o_15.1), (5, .int ((o_13.1) - 1)), (3, .int x3_13), (2, .int x2_13), (0, .ref rd), (1, .ref h)]) hx hb dX6_readTree_112 hl (by decide) rfl (fun ls hl => ?_)
              refine lv_goto (tgt := 122) hx hb dX6_readTree_114 (by decide) ?_
              refine lv_iload hx hb dX6_readTree_122 (lv_at hl 0 rfl) ?_
              refine lv_iconst (v := (-1)) hx hb dX6_readTree_124 (by decide) ?_
              refine lv_icmp_eq (tgt := 131) hx hb dX6_readTree_125 (by decide) (fun c_17 => ?_) (fun c_17 => ?_)
              · have hG := q_ifp c_17 hG
                refine lv_aload_n hx hb dX6_readTree_131 rfl (lv_at hl 4 rfl) ?_
                refine va_get (D := (dC, dI)) (ci := 6) (v := .int (o_15.2.1)) (C := RX6) (T := TX6) (N := 3) hx hb hts iA_6 hown hK hP 0 rfl rfl 1 (by decide) (hts (.fieldLink RX6 9 "HubTree$Reader" "at" "I") (List.mem_cons_of_mem _ m_67)) (fun _ h9 => h9) rfl dX6_readTree_132 ?_
                refine lv_aload_n hx hb dX6_readTree_135 rfl (lv_at hl 4 rfl) ?_
                refine va_get (D := (dC, dI)) (ci := 6) (v := .ref tp) (C := RX6) (T := TX6) (N := 3) hx hb hts iA_6 hown hK hP 0 rfl rfl 0 (by decide) (hts (.fieldLink RX6 18 "HubTree$Reader" "tape" "LHubTree$Tape;") (List.mem_cons_of_mem _ m_69)) (fun _ h9 => h9) rfl dX6_readTree_136 ?_
                refine va_get (D := (dC, dI)) (ci := 8) (v := .int tl) (C := RX8) (T := TX8) (N := 2) hx hb hts iA_8 hown hK hP 1 rfl rfl 1 (by decide) (hts (.fieldLink RX6 67 "HubTree$Tape" "length" "I") (List.mem_cons_of_mem _ m_171)) (fun _ h9 => h9) rfl dX6_readTree_139 ?_
                refine lv_icmp_lt (tgt := 161) hx hb dX6_readTree_142 (by decide) (fun c_18 => ?_) (fun c_18 => ?_)
                · have hG := q_ifp c_18 hG
                  refine lv_aload_n hx hb dX6_readTree_161 rfl (lv_at hl 4 rfl) ?_
                  refine lv_dup hx hb dX6_readTree_162 rfl ?_
                  refine va_get (D := (dC, dI)) (ci := 6) (v := .int (o_15.2.1)) (C := RX6) (T := TX6) (N := 3) hx hb hts iA_6 hown hK hP 0 rfl rfl 1 (by decide) (hts (.fieldLink RX6 9 "HubTree$Reader" "at" "I") (List.mem_cons_of_mem _ m_67)) (fun _ h9 => h9) rfl dX6_readTree_163 ?_
                  refine lv_iconst (v := 1) hx hb dX6_readTree_166 (by decide) ?_
                  refine lv_iadd hx hb dX6_readTree_167 ?_
                  refine va_put (D := (dC, dI)) (ci := 6) (v := .int ((o_15.2.1) + 1)) (ty := .int) (C := RX6) (T := TX6) (N := 3) hx hb hts iA_6 tyX6 tyX6_ok nmX6 hown hK hP hD hS 0 rfl rfl 1 (by decide) (hts (.fieldLink RX6 9 "HubTree$Reader" "at" "I") (List.mem_cons_of_mem _ m_67)) (fun _ h9 => h9) rfl (by decide +kernel) rfl rfl (Nat.le_of_ble_eq_true rfl) dX6_readTree_168 (fun H locs hP hD hS => ?_)
                  have hP : va_P (dC, dI) vwCl [(rd, .inr (6, [.ref tp, .int ((o_15.2.1) + 1), .int (o_15.2.2.1)])), (tp, .inr (8, [.ref by_, .int tl])), (by_, .inl (cb, 240, .inl tb)), (h, .inr (5, [.ref r1, .ref r2, .int (o_13.1)])), (r1, .inl (c1, 8, .inl fu_c)), (r2, .inl (c2, 48, .inl (o_15.2.2.2)))] H := hP
                  have hD : va_D A [(rd, .inr (6, [.ref tp, .int ((o_15.2.1) + 1), .int (o_15.2.2.1)])), (tp, .inr (8, [.ref by_, .int tl])), (by_, .inl (cb, 240, .inl tb)), (h, .inr (5, [.ref r1, .ref r2, .int (o_13.1)])), (r1, .inl (c1, 8, .inl fu_c)), (r2, .inl (c2, 48, .inl (o_15.2.2.2)))] := hD
                  refine lv_iinc (v := (x3_13 + 1)) (lv' := [(3, .int (x3_13 + 1)), (4, .int o_15.1), (5, .int ((o_13.1) - 1)), (2, .int x2_13), (0, .ref rd), (1, .ref h)]) hx hb dX6_readTree_171 hl (k := 2) rfl (rfl) (by decide) rfl (fun ls hl => ?_)
                  refine lv_goto (tgt := 13) hx hb dX6_readTree_174 (by decide) ?_
                  exact ih_13 x2_13 (x3_13 + 1) ((o_15.2.1) + 1) (o_15.2.2.1) (o_13.1) fu_c (o_15.2.2.2) H locs ls hG hP hD hS (lv_sub hl [0, 3, 4, 5] rfl)
                · have hG := q_ifn c_18 hG
                  refine lv_aload_n hx hb dX6_readTree_145 rfl (lv_at hl 5 rfl) ?_
                  obtain ⟨o_19, r_20, hG⟩ := q_bi hG
                  refine q_goi (v := o_19) (va_runV (As := []) (rest := []) ⟨hx, hb, hml, hown, hts⟩ (c_X5_isTold l dC dI h r1 r2 (o_13.1) o_19 r_20) (cwV 0 hts (q_gV m_299 m_300 m_301 m_24 m_302) rfl rfl rfl hdV_yX5_isTold_0 ⟨Nat.le_of_ble_eq_true rfl, Nat.le_of_ble_eq_true rfl⟩) (q_preV hK hP (q := (RX5, TX5, 3)) (ci := 5) (q0 := 3) rfl rfl [3] rfl [] rfl) rfl rfl hl.1 rfl (lv_room (Nat.le_of_ble_eq_true rfl)) dX6_readTree_146 ⟨Nat.le_of_ble_eq_true rfl, Nat.le_of_ble_eq_true rfl⟩) hP hS (fun H locs hP hS => ?_)
                  refine lv_if_eq (tgt := 156) hx hb dX6_readTree_149 (by decide) (fun c_21 => ?_) (fun c_21 => ?_)
                  · have hG := q_ifp c_21 hG
                    refine lv_aload_n hx hb dX6_readTree_156 rfl (lv_at hl 4 rfl) ?_
                    refine va_get (D := (dC, dI)) (ci := 6) (v := .int (o_15.2.1)) (C := RX6) (T := TX6) (N := 3) hx hb hts iA_6 hown hK hP 0 rfl rfl 1 (by decide) (hts (.fieldLink RX6 9 "HubTree$Reader" "at" "I") (List.mem_cons_of_mem _ m_67)) (fun _ h9 => h9) rfl dX6_readTree_157 ?_
                    obtain rfl := Option.some.inj hG
                    have hP9 := hP.sub (ws' := [(rd, .inr (6, [.ref tp, .int (o_15.2.1), .int (o_15.2.2.1)])), (tp, .inr (8, [.ref by_, .int tl])), (by_, .inl (cb, 240, .inl tb)), (h, .inr (5, [.ref r1, .ref r2, .int (o_13.1)])), (r1, .inl (c1, 8, .inl fu_c)), (r2, .inl (c2, 48, .inl (o_15.2.2.2)))]) [0, 1, 2, 3, 4, 5] rfl
                    have hD9 := hD.sub (ws' := [(rd, .inr (6, [.ref tp, .int (o_15.2.1), .int (o_15.2.2.1)])), (tp, .inr (8, [.ref by_, .int tl])), (by_, .inl (cb, 240, .inl tb)), (h, .inr (5, [.ref r1, .ref r2, .int (o_13.1)])), (r1, .inl (c1, 8, .inl fu_c)), (r2, .inl (c2, 48, .inl (o_15.2.2.2)))]) [0, 1, 2, 3, 4, 5] (by decide) rfl
                    have hK9 := hK.sub (tys' := [(cb, .char), (c1, .int), (c2, .int)]) [0, 1, 2] rfl
                    exact W.iret (v := (o_15.2.1)) hx hb hr (fun t ht hW => ⟨⟨(o_15.2.1), (), rfl, ⟨rfl, trivial⟩, by rw [ht]; exact hP9, va_K.moved hW.alike hK9, hD9⟩, hS.F ht⟩) hS.2.2 dX6_readTree_160
                  · have hG := q_ifn c_21 hG
                    refine lv_iconst (v := (-1)) hx hb dX6_readTree_152 (by decide) ?_
                    refine lv_goto (tgt := 160) hx hb dX6_readTree_153 (by decide) ?_
                    obtain rfl := Option.some.inj hG
                    have hP9 := hP.sub (ws' := [(rd, .inr (6, [.ref tp, .int (o_15.2.1), .int (o_15.2.2.1)])), (tp, .inr (8, [.ref by_, .int tl])), (by_, .inl (cb, 240, .inl tb)), (h, .inr (5, [.ref r1, .ref r2, .int (o_13.1)])), (r1, .inl (c1, 8, .inl fu_c)), (r2, .inl (c2, 48, .inl (o_15.2.2.2)))]) [0, 1, 2, 3, 4, 5] rfl
                    have hD9 := hD.sub (ws' := [(rd, .inr (6, [.ref tp, .int (o_15.2.1), .int (o_15.2.2.1)])), (tp, .inr (8, [.ref by_, .int tl])), (by_, .inl (cb, 240, .inl tb)), (h, .inr (5, [.ref r1, .ref r2, .int (o_13.1)])), (r1, .inl (c1, 8, .inl fu_c)), (r2, .inl (c2, 48, .inl (o_15.2.2.2)))]) [0, 1, 2, 3, 4, 5] (by decide) rfl
                    have hK9 := hK.sub (tys' := [(cb, .char), (c1, .int), (c2, .int)]) [0, 1, 2] rfl
                    exact W.iret (v := (-1)) hx hb hr (fun t ht hW => ⟨⟨(-1), (), rfl, ⟨rfl, trivial⟩, by rw [ht]; exact hP9, va_K.moved hW.alike hK9, hD9⟩, hS.F ht⟩) hS.2.2 dX6_readTree_160
              · have hG := q_ifn c_17 hG
                refine lv_iload hx hb dX6_readTree_128 (lv_at hl 0 rfl) ?_
                obtain rfl := Option.some.inj hG
                have hP9 := hP.sub (ws' := [(rd, .inr (6, [.ref tp, .int (o_15.2.1), .int (o_15.2.2.1)])), (tp, .inr (8, [.ref by_, .int tl])), (by_, .inl (cb, 240, .inl tb)), (h, .inr (5, [.ref r1, .ref r2, .int (o_13.1)])), (r1, .inl (c1, 8, .inl fu_c)), (r2, .inl (c2, 48, .inl (o_15.2.2.2)))]) [0, 1, 2, 3, 4, 5] rfl
                have hD9 := hD.sub (ws' := [(rd, .inr (6, [.ref tp, .int (o_15.2.1), .int (o_15.2.2.1)])), (tp, .inr (8, [.ref by_, .int tl])), (by_, .inl (cb, 240, .inl tb)), (h, .inr (5, [.ref r1, .ref r2, .int (o_13.1)])), (r1, .inl (c1, 8, .inl fu_c)), (r2, .inl (c2, 48, .inl (o_15.2.2.2)))]) [0, 1, 2, 3, 4, 5] (by decide) rfl
                have hK9 := hK.sub (tys' := [(cb, .char), (c1, .int), (c2, .int)]) [0, 1, 2] rfl
                exact W.iret (v := o_15.1) hx hb hr (fun t ht hW => ⟨⟨o_15.1, (), rfl, ⟨rfl, trivial⟩, by rw [ht]; exact hP9, va_K.moved hW.alike hK9, hD9⟩, hS.F ht⟩) hS.2.2 dX6_readTree_130
        · have hG := q_ifn c_8 hG
          refine lv_iload_n hx hb dX6_readTree_33 rfl (lv_at hl 1 rfl) ?_
          refine lv_if_ne (tgt := 62) hx hb dX6_readTree_34 (by decide) (fun c_22 => ?_) (fun c_22 => ?_)
          · have hG := q_ifn c_22 hG
            refine lv_aload_n hx hb dX6_readTree_62 rfl (lv_at hl 2 rfl) ?_
            refine lv_bipush (v := 100) hx hb dX6_readTree_63 (by decide) ?_
            obtain ⟨o_23, r_24, hG⟩ := q_bi hG
            refine q_goi (v := o_23) (va_runV (As := [.int 100]) (rest := []) ⟨hx, hb, hml, hown, hts⟩ (c_X6_stands l dC dI rd tp by_ cb tb tl (o_4) rv_c 100 o_23 r_24) (cwV 1 hts (q_gV m_185 m_186 m_187 m_20 m_188) rfl rfl rfl hdV_yX6_stands_1 ⟨Nat.le_of_ble_eq_true rfl, Nat.le_of_ble_eq_true rfl⟩) (q_preV hK hP (q := (RX6, TX6, 3)) (ci := 6) (q0 := 0) rfl rfl [0, 1, 2] rfl [0] rfl) rfl rfl hl.1 rfl (lv_room (Nat.le_of_ble_eq_true rfl)) dX6_readTree_65 ⟨Nat.le_of_ble_eq_true rfl, Nat.le_of_ble_eq_true rfl⟩) hP hS (fun H locs hP hS => ?_)
            refine lv_if_eq (tgt := 117) hx hb dX6_readTree_68 (by decide) (fun c_25 => ?_) (fun c_25 => ?_)
            · have hG := q_ifp c_25 hG
              refine lv_aload_n hx hb dX6_readTree_117 rfl (lv_at hl 2 rfl) ?_
              refine va_get (D := (dC, dI)) (ci := 6) (v := .int (o_4)) (C := RX6) (T := TX6) (N := 3) hx hb hts iA_6 hown hK hP 0 rfl rfl 1 (by decide) (hts (.fieldLink RX6 9 "HubTree$Reader" "at" "I") (List.mem_cons_of_mem _ m_67)) (fun _ h9 => h9) rfl dX6_readTree_118 ?_
              obtain rfl := Option.some.inj hG
              have hP9 := hP.sub (ws' := [(rd, .inr (6, [.ref tp, .int (o_4), .int rv_c])), (tp, .inr (8, [.ref by_, .int tl])), (by_, .inl (cb, 240, .inl tb)), (h, .inr (5, [.ref r1, .ref r2, .int dv_c])), (r1, .inl (c1, 8, .inl fu_c)), (r2, .inl (c2, 48, .inl fp_c))]) [0, 1, 2, 3, 4, 5] rfl
              have hD9 := hD.sub (ws' := [(rd, .inr (6, [.ref tp, .int (o_4), .int rv_c])), (tp, .inr (8, [.ref by_, .int tl])), (by_, .inl (cb, 240, .inl tb)), (h, .inr (5, [.ref r1, .ref r2, .int dv_c])), (r1, .inl (c1, 8, .inl fu_c)), (r2, .inl (c2, 48, .inl fp_c))]) [0, 1, 2, 3, 4, 5] (by decide) rfl
              have hK9 := hK.sub (tys' := [(cb, .char), (c1, .int), (c2, .int)]) [0, 1, 2] rfl
              exact W.iret (v := (o_4)) hx hb hr (fun t ht hW => ⟨⟨(o_4), (), rfl, ⟨rfl, trivial⟩, by rw [ht]; exact hP9, va_K.moved hW.alike hK9, hD9⟩, hS.F ht⟩) hS.2.2 dX6_readTree_121
            · have hG := q_ifn c_25 hG
              refine lv_aload_n hx hb dX6_readTree_71 rfl (lv_at hl 3 rfl) ?_
              refine va_get (D := (dC, dI)) (ci := 5) (v := .int dv_c) (C := RX5) (T := TX5) (N := 3) hx hb hts iA_5 hown hK hP 3 rfl rfl 2 (by decide) (hts (.fieldLink RX6 50 "HubTree$Plan" "devices" "I") (List.mem_cons_of_mem _ m_169)) (fun _ h9 => h9) rfl dX6_readTree_72 ?_
              refine lv_bipush (v := 8) hx hb dX6_readTree_75 (by decide) ?_
              refine lv_icmp_ge (tgt := 117) hx hb dX6_readTree_77 (by decide) (fun c_26 => ?_) (fun c_26 => ?_)
              · have hG := q_ifp c_26 hG
                refine lv_aload_n hx hb dX6_readTree_117 rfl (lv_at hl 2 rfl) ?_
                refine va_get (D := (dC, dI)) (ci := 6) (v := .int (o_4)) (C := RX6) (T := TX6) (N := 3) hx hb hts iA_6 hown hK hP 0 rfl rfl 1 (by decide) (hts (.fieldLink RX6 9 "HubTree$Reader" "at" "I") (List.mem_cons_of_mem _ m_67)) (fun _ h9 => h9) rfl dX6_readTree_118 ?_
                obtain rfl := Option.some.inj hG
                have hP9 := hP.sub (ws' := [(rd, .inr (6, [.ref tp, .int (o_4), .int rv_c])), (tp, .inr (8, [.ref by_, .int tl])), (by_, .inl (cb, 240, .inl tb)), (h, .inr (5, [.ref r1, .ref r2, .int dv_c])), (r1, .inl (c1, 8, .inl fu_c)), (r2, .inl (c2, 48, .inl fp_c))]) [0, 1, 2, 3, 4, 5] rfl
                have hD9 := hD.sub (ws' := [(rd, .inr (6, [.ref tp, .int (o_4), .int rv_c])), (tp, .inr (8, [.ref by_, .int tl])), (by_, .inl (cb, 240, .inl tb)), (h, .inr (5, [.ref r1, .ref r2, .int dv_c])), (r1, .inl (c1, 8, .inl fu_c)), (r2, .inl (c2, 48, .inl fp_c))]) [0, 1, 2, 3, 4, 5] (by decide) rfl
                have hK9 := hK.sub (tys' := [(cb, .char), (c1, .int), (c2, .int)]) [0, 1, 2] rfl
                exact W.iret (v := (o_4)) hx hb hr (fun t ht hW => ⟨⟨(o_4), (), rfl, ⟨rfl, trivial⟩, by rw [ht]; exact hP9, va_K.moved hW.alike hK9, hD9⟩, hS.F ht⟩) hS.2.2 dX6_readTree_121
              · have hG := q_ifn c_26 hG
                refine lv_aload_n hx hb dX6_readTree_80 rfl (lv_at hl 3 rfl) ?_
                obtain ⟨o_27, r_28, hG⟩ := q_bi hG
                refine q_gov2 (wr := [(rd, .inr (6, [.ref tp, .int (o_4), .int rv_c])), (tp, .inr (8, [.ref by_, .int tl])), (by_, .inl (cb, 240, .inl tb))]) (va_runV (As := []) (rest := []) ⟨hx, hb, hml, hown, hts⟩ (c_X5_addDevice l dC dI ts ks kv h r1 r2 dv_c c1 c2 fu_c fp_c (va_A [(h, .inr (5, [.ref r1, .ref r2, .int dv_c])), (r1, .inl (c1, 8, .inl fu_c)), (r2, .inl (c2, 48, .inl fp_c))] H.size) o_27 r_28) (cwV 0 hts (q_gV m_295 m_296 m_297 m_24 m_298) rfl rfl rfl hdV_yX5_addDevice_0 ⟨Nat.le_of_ble_eq_true rfl, Nat.le_of_ble_eq_true rfl⟩) (q_preWVE hK hP hD (q := (RX5, TX5, 3)) (ci := 5) (q0 := 3) rfl rfl [3, 4, 5] (by decide) rfl rfl [1, 2] rfl q_S_bl (q_S_give hE hS (va_free (wc := [(h, .inr (5, [.ref r1, .ref r2, .int dv_c])), (r1, .inl (c1, 8, .inl fu_c)), (r2, .inl (c2, 48, .inl fp_c))]) hD hS hA [3, 4, 5] rfl))) rfl rfl hl.1 rfl (lv_room (Nat.le_of_ble_eq_true rfl)) dX6_readTree_81 ⟨Nat.le_of_ble_eq_true rfl, Nat.le_of_ble_eq_true rfl⟩) hK hP hD hS hA [3, 4, 5] [0, 1, 2] rfl rfl (by decide) (by decide) (fun _ H locs _ hP hD hK9 hS => ?_)
                have hP : va_P (dC, dI) vwCl [(rd, .inr (6, [.ref tp, .int (o_4), .int rv_c])), (tp, .inr (8, [.ref by_, .int tl])), (by_, .inl (cb, 240, .inl tb)), (h, .inr (5, [.ref r1, .ref r2, .int (o_27.1)])), (r1, .inl (c1, 8, .inl fu_c)), (r2, .inl (c2, 48, .inl (o_27.2)))] H := hP.sub [0, 1, 2, 3, 4, 5] rfl
                have hD : va_D A [(rd, .inr (6, [.ref tp, .int (o_4), .int rv_c])), (tp, .inr (8, [.ref by_, .int tl])), (by_, .inl (cb, 240, .inl tb)), (h, .inr (5, [.ref r1, .ref r2, .int (o_27.1)])), (r1, .inl (c1, 8, .inl fu_c)), (r2, .inl (c2, 48, .inl (o_27.2)))] := hD.sub [0, 1, 2, 3, 4, 5] (by decide) rfl
                refine lv_aload_n hx hb dX6_readTree_84 rfl (lv_at hl 3 rfl) ?_
                refine va_get (D := (dC, dI)) (ci := 5) (v := .int (o_27.1)) (C := RX5) (T := TX5) (N := 3) hx hb hts iA_5 hown hK hP 3 rfl rfl 2 (by decide) (hts (.fieldLink RX6 50 "HubTree$Plan" "devices" "I") (List.mem_cons_of_mem _ m_169)) (fun _ h9 => h9) rfl dX6_readTree_85 ?_
                refine lv_iconst (v := 1) hx hb dX6_readTree_88 (by decide) ?_
                refine lv_isub hx hb dX6_readTree_89 ?_
                refine lv_istore (lv' := [(5, .int ((o_27.1) - 1)), (3, .int x3_13), (2, .int x2_13), (0, .ref rd), (1, .ref h)]) hx hb dX6_readTree_90 hl (by decide) rfl (fun ls hl => ?_)
                refine lv_aload_n hx hb dX6_readTree_92 rfl (lv_at hl 3 rfl) ?_
                refine va_ldcS hx hb hown (q_S_r1 hE) dX6_readTree_93 ?_
                refine va_getsN hx hb (q_S_t hE 3 (by decide)).1 hS hown (va_Nw.use rfl (q_S_l3 hE)) (fun _ h9 => h9) dX6_readTree_95 ?_
                refine va_getsN hx hb (q_S_t hE 4 (by decide)).1 hS hown (va_Nw.use rfl (q_S_l4 hE)) (fun _ h9 => h9) dX6_readTree_98 ?_
                refine lv_aload_n hx hb dX6_readTree_101 rfl (lv_at hl 4 rfl) ?_
                refine va_get (D := (dC, dI)) (ci := 5) (v := .ref r2) (C := RX5) (T := TX5) (N := 3) hx hb hts iA_5 hown hK hP 3 rfl rfl 1 (by decide) (hts (.fieldLink RX6 64 "HubTree$Plan" "row" "[I") (List.mem_cons_of_mem _ m_170)) (fun _ h9 => h9) rfl dX6_readTree_102 ?_
                refine lv_iload hx hb dX6_readTree_105 (lv_at hl 0 rfl) ?_
                refine lv_bipush (v := 8) hx hb dX6_readTree_107 (by decide) ?_
                obtain ⟨o_29, r_30, hG⟩ := q_bi hG
                refine q_goi2 (v := o_29.1) (wr := [(h, .inr (5, [.ref r1, .ref r2, .int (o_27.1)])), (r1, .inl (c1, 8, .inl fu_c))]) (va_runV (As := [.ref (ks 1), .ref (ts 3), .ref (ts 4), .ref r2, .int ((o_27.1) - 1), .int 8]) (rest := []) ⟨hx, hb, hml, hown, hts⟩ (c_X6_readItems_d l dC dI ts ks kv rd tp by_ cb tb tl (o_4) rv_c r2 c2 (o_27.2) ((o_27.1) - 1) 8 (va_A [(rd, .inr (6, [.ref tp, .int (o_4), .int rv_c])), (tp, .inr (8, [.ref by_, .int tl])), (by_, .inl (cb, 240, .inl tb)), (r2, .inl (c2, 48, .inl (o_27.2)))] H.size) o_29 r_30) (cwV 6 hts (q_gV m_189 m_190 m_191 m_20 m_192) rfl rfl rfl hdV_yX6_readItems_6 ⟨Nat.le_of_ble_eq_true rfl, Nat.le_of_ble_eq_true rfl⟩) (q_preWVE hK hP hD (q := (RX6, TX6, 3)) (ci := 6) (q0 := 0) rfl rfl [0, 1, 2, 5] (by decide) rfl rfl [0, 2] rfl q_S_bl (q_S_give hE hS (va_free (wc := [(rd, .inr (6, [.ref tp, .int (o_4), .int rv_c])), (tp, .inr (8, [.ref by_, .int tl])), (by_, .inl (cb, 240, .inl tb)), (r2, .inl (c2, 48, .inl (o_27.2)))]) hD hS hA [0, 1, 2, 5] rfl))) rfl rfl hl.1 rfl (lv_room (Nat.le_of_ble_eq_true rfl)) dX6_readTree_109 ⟨Nat.le_of_ble_eq_true rfl, Nat.le_of_ble_eq_true rfl⟩) hK hP hD hS hA [0, 1, 2, 5] [3, 4] rfl rfl (by decide) (by decide) (fun _ H locs _ hP hD hK9 hS => ?_)
                have hP : va_P (dC, dI) vwCl [(rd, .inr (6, [.ref tp, .int (o_29.2.1), .int (o_29.2.2.1)])), (tp, .inr (8, [.ref by_, .int tl])), (by_, .inl (cb, 240, .inl tb)), (h, .inr (5, [.ref r1, .ref r2, .int (o_27.1)])), (r1, .inl (c1, 8, .inl fu_c)), (r2, .inl (c2, 48, .inl (o_29.2.2.2)))] H := hP.sub [2, 3, 4, 0, 1, 5] rfl
                have hD : va_D A [(rd, .inr (6, [.ref tp, .int (o_29.2.1), .int (o_29.2.2.1)])), (tp, .inr (8, [.ref by_, .int tl])), (by_, .inl (cb, 240, .inl tb)), (h, .inr (5, [.ref r1, .ref r2, .int (o_27.1)])), (r1, .inl (c1, 8, .inl fu_c)), (r2, .inl (c2, 48, .inl (o_29.2.2.2)))] := hD.sub [2, 3, 4, 0, 1, 5] (by decide) rfl
                refine lv_istore (lv' := [(4, .int o_29.1), (5, .int ((o_27.1) - 1)), (3, .int x3_13), (2, .int x2_13), (0, .ref rd), (1, .ref h)]) hx hb dX6_readTree_112 hl (by decide) rfl (fun ls hl => ?_)
                refine lv_goto (tgt := 122) hx hb dX6_readTree_114 (by decide) ?_
                refine lv_iload hx hb dX6_readTree_122 (lv_at hl 0 rfl) ?_
                refine lv_iconst (v := (-1)) hx hb dX6_readTree_124 (by decide) ?_
                refine lv_icmp_eq (tgt := 131) hx hb dX6_readTree_125 (by decide) (fun c_31 => ?_) (fun c_31 => ?_)
                · have hG := q_ifp c_31 hG
                  refine lv_aload_n hx hb dX6_readTree_131 rfl (lv_at hl 4 rfl) ?_
                  refine va_get (D := (dC, dI)) (ci := 6) (v := .int (o_29.2.1)) (C := RX6) (T := TX6) (N := 3) hx hb hts iA_6 hown hK hP 0 rfl rfl 1 (by decide) (hts (.fieldLink RX6 9 "HubTree$Reader" "at" "I") (List.mem_cons_of_mem _ m_67)) (fun _ h9 => h9) rfl dX6_readTree_132 ?_
                  refine lv_aload_n hx hb dX6_readTree_135 rfl (lv_at hl 4 rfl) ?_
                  refine va_get (D := (dC, dI)) (ci := 6) (v := .ref tp) (C := RX6) (T := TX6) (N := 3) hx hb hts iA_6 hown hK hP 0 rfl rfl 0 (by decide) (hts (.fieldLink RX6 18 "HubTree$Reader" "tape" "LHubTree$Tape;") (List.mem_cons_of_mem _ m_69)) (fun _ h9 => h9) rfl dX6_readTree_136 ?_
                  refine va_get (D := (dC, dI)) (ci := 8) (v := .int tl) (C := RX8) (T := TX8) (N := 2) hx hb hts iA_8 hown hK hP 1 rfl rfl 1 (by decide) (hts (.fieldLink RX6 67 "HubTree$Tape" "length" "I") (List.mem_cons_of_mem _ m_171)) (fun _ h9 => h9) rfl dX6_readTree_139 ?_
                  refine lv_icmp_lt (tgt := 161) hx hb dX6_readTree_142 (by decide) (fun c_32 => ?_) (fun c_32 => ?_)
                  · have hG := q_ifp c_32 hG
                    refine lv_aload_n hx hb dX6_readTree_161 rfl (lv_at hl 4 rfl) ?_
                    refine lv_dup hx hb dX6_readTree_162 rfl ?_
                    refine va_get (D := (dC, dI)) (ci := 6) (v := .int (o_29.2.1)) (C := RX6) (T := TX6) (N := 3) hx hb hts iA_6 hown hK hP 0 rfl rfl 1 (by decide) (hts (.fieldLink RX6 9 "HubTree$Reader" "at" "I") (List.mem_cons_of_mem _ m_67)) (fun _ h9 => h9) rfl dX6_readTree_163 ?_
                    refine lv_iconst (v := 1) hx hb dX6_readTree_166 (by decide) ?_
                    refine lv_iadd hx hb dX6_readTree_167 ?_
                    refine va_put (D := (dC, dI)) (ci := 6) (v := .int ((o_29.2.1) + 1)) (ty := .int) (C := RX6) (T := TX6) (N := 3) hx hb hts iA_6 tyX6 tyX6_ok nmX6 hown hK hP hD hS 0 rfl rfl 1 (by decide) (hts (.fieldLink RX6 9 "HubTree$Reader" "at" "I") (List.mem_cons_of_mem _ m_67)) (fun _ h9 => h9) rfl (by decide +kernel) rfl rfl (Nat.le_of_ble_eq_true rfl) dX6_readTree_168 (fun H locs hP hD hS => ?_)
                    have hP : va_P (dC, dI) vwCl [(rd, .inr (6, [.ref tp, .int ((o_29.2.1) + 1), .int (o_29.2.2.1)])), (tp, .inr (8, [.ref by_, .int tl])), (by_, .inl (cb, 240, .inl tb)), (h, .inr (5, [.ref r1, .ref r2, .int (o_27.1)])), (r1, .inl (c1, 8, .inl fu_c)), (r2, .inl (c2, 48, .inl (o_29.2.2.2)))] H := hP
                    have hD : va_D A [(rd, .inr (6, [.ref tp, .int ((o_29.2.1) + 1), .int (o_29.2.2.1)])), (tp, .inr (8, [.ref by_, .int tl])), (by_, .inl (cb, 240, .inl tb)), (h, .inr (5, [.ref r1, .ref r2, .int (o_27.1)])), (r1, .inl (c1, 8, .inl fu_c)), (r2, .inl (c2, 48, .inl (o_29.2.2.2)))] := hD
                    refine lv_iinc (v := (x3_13 + 1)) (lv' := [(3, .int (x3_13 + 1)), (4, .int o_29.1), (5, .int ((o_27.1) - 1)), (2, .int x2_13), (0, .ref rd), (1, .ref h)]) hx hb dX6_readTree_171 hl (k := 2) rfl (rfl) (by decide) rfl (fun ls hl => ?_)
                    refine lv_goto (tgt := 13) hx hb dX6_readTree_174 (by decide) ?_
                    exact ih_13 x2_13 (x3_13 + 1) ((o_29.2.1) + 1) (o_29.2.2.1) (o_27.1) fu_c (o_29.2.2.2) H locs ls hG hP hD hS (lv_sub hl [0, 3, 4, 5] rfl)
                  · have hG := q_ifn c_32 hG
                    refine lv_aload_n hx hb dX6_readTree_145 rfl (lv_at hl 5 rfl) ?_
                    obtain ⟨o_33, r_34, hG⟩ := q_bi hG
                    refine q_goi (v := o_33) (va_runV (As := []) (rest := []) ⟨hx, hb, hml, hown, hts⟩ (c_X5_isTold l dC dI h r1 r2 (o_27.1) o_33 r_34) (cwV 0 hts (q_gV m_299 m_300 m_301 m_24 m_302) rfl rfl rfl hdV_yX5_isTold_0 ⟨Nat.le_of_ble_eq_true rfl, Nat.le_of_ble_eq_true rfl⟩) (q_preV hK hP (q := (RX5, TX5, 3)) (ci := 5) (q0 := 3) rfl rfl [3] rfl [] rfl) rfl rfl hl.1 rfl (lv_room (Nat.le_of_ble_eq_true rfl)) dX6_readTree_146 ⟨Nat.le_of_ble_eq_true rfl, Nat.le_of_ble_eq_true rfl⟩) hP hS (fun H locs hP hS => ?_)
                    refine lv_if_eq (tgt := 156) hx hb dX6_readTree_149 (by decide) (fun c_35 => ?_) (fun c_35 => ?_)
                    · have hG := q_ifp c_35 hG
                      refine lv_aload_n hx hb dX6_readTree_156 rfl (lv_at hl 4 rfl) ?_
                      refine va_get (D := (dC, dI)) (ci := 6) (v := .int (o_29.2.1)) (C := RX6) (T := TX6) (N := 3) hx hb hts iA_6 hown hK hP 0 rfl rfl 1 (by decide) (hts (.fieldLink RX6 9 "HubTree$Reader" "at" "I") (List.mem_cons_of_mem _ m_67)) (fun _ h9 => h9) rfl dX6_readTree_157 ?_
                      obtain rfl := Option.some.inj hG
                      have hP9 := hP.sub (ws' := [(rd, .inr (6, [.ref tp, .int (o_29.2.1), .int (o_29.2.2.1)])), (tp, .inr (8, [.ref by_, .int tl])), (by_, .inl (cb, 240, .inl tb)), (h, .inr (5, [.ref r1, .ref r2, .int (o_27.1)])), (r1, .inl (c1, 8, .inl fu_c)), (r2, .inl (c2, 48, .inl (o_29.2.2.2)))]) [0, 1, 2, 3, 4, 5] rfl
                      have hD9 := hD.sub (ws' := [(rd, .inr (6, [.ref tp, .int (o_29.2.1), .int (o_29.2.2.1)])), (tp, .inr (8, [.ref by_, .int tl])), (by_, .inl (cb, 240, .inl tb)), (h, .inr (5, [.ref r1, .ref r2, .int (o_27.1)])), (r1, .inl (c1, 8, .inl fu_c)), (r2, .inl (c2, 48, .inl (o_29.2.2.2)))]) [0, 1, 2, 3, 4, 5] (by decide) rfl
                      have hK9 := hK.sub (tys' := [(cb, .char), (c1, .int), (c2, .int)]) [0, 1, 2] rfl
                      exact W.iret (v := (o_29.2.1)) hx hb hr (fun t ht hW => ⟨⟨(o_29.2.1), (), rfl, ⟨rfl, trivial⟩, by rw [ht]; exact hP9, va_K.moved hW.alike hK9, hD9⟩, hS.F ht⟩) hS.2.2 dX6_readTree_160
                    · have hG := q_ifn c_35 hG
                      refine lv_iconst (v := (-1)) hx hb dX6_readTree_152 (by decide) ?_
                      refine lv_goto (tgt := 160) hx hb dX6_readTree_153 (by decide) ?_
                      obtain rfl := Option.some.inj hG
                      have hP9 := hP.sub (ws' := [(rd, .inr (6, [.ref tp, .int (o_29.2.1), .int (o_29.2.2.1)])), (tp, .inr (8, [.ref by_, .int tl])), (by_, .inl (cb, 240, .inl tb)), (h, .inr (5, [.ref r1, .ref r2, .int (o_27.1)])), (r1, .inl (c1, 8, .inl fu_c)), (r2, .inl (c2, 48, .inl (o_29.2.2.2)))]) [0, 1, 2, 3, 4, 5] rfl
                      have hD9 := hD.sub (ws' := [(rd, .inr (6, [.ref tp, .int (o_29.2.1), .int (o_29.2.2.1)])), (tp, .inr (8, [.ref by_, .int tl])), (by_, .inl (cb, 240, .inl tb)), (h, .inr (5, [.ref r1, .ref r2, .int (o_27.1)])), (r1, .inl (c1, 8, .inl fu_c)), (r2, .inl (c2, 48, .inl (o_29.2.2.2)))]) [0, 1, 2, 3, 4, 5] (by decide) rfl
                      have hK9 := hK.sub (tys' := [(cb, .char), (c1, .int), (c2, .int)]) [0, 1, 2] rfl
                      exact W.iret (v := (-1)) hx hb hr (fun t ht hW => ⟨⟨(-1), (), rfl, ⟨rfl, trivial⟩, by rw [ht]; exact hP9, va_K.moved hW.alike hK9, hD9⟩, hS.F ht⟩) hS.2.2 dX6_readTree_160
                · have hG := q_ifn c_31 hG
                  refine lv_iload hx hb dX6_readTree_128 (lv_at hl 0 rfl) ?_
                  obtain rfl := Option.some.inj hG
                  have hP9 := hP.sub (ws' := [(rd, .inr (6, [.ref tp, .int (o_29.2.1), .int (o_29.2.2.1)])), (tp, .inr (8, [.ref by_, .int tl])), (by_, .inl (cb, 240, .inl tb)), (h, .inr (5, [.ref r1, .ref r2, .int (o_27.1)])), (r1, .inl (c1, 8, .inl fu_c)), (r2, .inl (c2, 48, .inl (o_29.2.2.2)))]) [0, 1, 2, 3, 4, 5] rfl
                  have hD9 := hD.sub (ws' := [(rd, .inr (6, [.ref tp, .int (o_29.2.1), .int (o_29.2.2.1)])), (tp, .inr (8, [.ref by_, .int tl])), (by_, .inl (cb, 240, .inl tb)), (h, .inr (5, [.ref r1, .ref r2, .int (o_27.1)])), (r1, .inl (c1, 8, .inl fu_c)), (r2, .inl (c2, 48, .inl (o_29.2.2.2)))]) [0, 1, 2, 3, 4, 5] (by decide) rfl
                  have hK9 := hK.sub (tys' := [(cb, .char), (c1, .int), (c2, .int)]) [0, 1, 2] rfl
                  exact W.iret (v := o_29.1) hx hb hr (fun t ht hW => ⟨⟨o_29.1, (), rfl, ⟨rfl, trivial⟩, by rw [ht]; exact hP9, va_K.moved hW.alike hK9, hD9⟩, hS.F ht⟩) hS.2.2 dX6_readTree_130
          · have hG := q_ifp c_22 hG
            refine lv_iconst (v := 1) hx hb dX6_readTree_37 (by decide) ?_
            refine lv_istore_n (lv' := [(2, .int 1), (3, .int x3_13), (0, .ref rd), (1, .ref h)]) hx hb dX6_readTree_38 rfl hl (by decide) rfl (fun ls hl => ?_)
            refine lv_aload_n hx hb dX6_readTree_39 rfl (lv_at hl 2 rfl) ?_
            refine va_ldcS hx hb hown (q_S_r0 hE) dX6_readTree_40 ?_
            refine va_getsN hx hb (q_S_t hE 0 (by decide)).1 hS hown (va_Nw.use rfl (q_S_l0 hE)) (fun _ h9 => h9) dX6_readTree_42 ?_
            refine va_getsN hx hb (q_S_t hE 1 (by decide)).1 hS hown (va_Nw.use rfl (q_S_l1 hE)) (fun _ h9 => h9) dX6_readTree_45 ?_
            refine lv_aload_n hx hb dX6_readTree_48 rfl (lv_at hl 3 rfl) ?_
            refine va_get (D := (dC, dI)) (ci := 5) (v := .ref r1) (C := RX5) (T := TX5) (N := 3) hx hb hts iA_5 hown hK hP 3 rfl rfl 0 (by decide) (hts (.fieldLink RX6 43 "HubTree$Plan" "rules" "[I") (List.mem_cons_of_mem _ m_168)) (fun _ h9 => h9) rfl dX6_readTree_49 ?_
            refine lv_iconst (v := 0) hx hb dX6_readTree_52 (by decide) ?_
            refine lv_iconst (v := 1) hx hb dX6_readTree_53 (by decide) ?_
            obtain ⟨o_36, r_37, hG⟩ := q_bi hG
            refine q_goi2 (v := o_36.1) (wr := [(h, .inr (5, [.ref r1, .ref r2, .int dv_c])), (r2, .inl (c2, 48, .inl fp_c))]) (va_runV (As := [.ref (ks 0), .ref (ts 0), .ref (ts 1), .ref r1, .int 0, .int 1]) (rest := []) ⟨hx, hb, hml, hown, hts⟩ (c_X6_readItems_s l dC dI ts ks kv rd tp by_ cb tb tl (o_4) rv_c r1 c1 fu_c 0 1 (va_A [(rd, .inr (6, [.ref tp, .int (o_4), .int rv_c])), (tp, .inr (8, [.ref by_, .int tl])), (by_, .inl (cb, 240, .inl tb)), (r1, .inl (c1, 8, .inl fu_c))] H.size) o_36 r_37) (cwV 6 hts (q_gV m_189 m_190 m_191 m_20 m_192) rfl rfl rfl hdV_yX6_readItems_6 ⟨Nat.le_of_ble_eq_true rfl, Nat.le_of_ble_eq_true rfl⟩) (q_preWVE hK hP hD (q := (RX6, TX6, 3)) (ci := 6) (q0 := 0) rfl rfl [0, 1, 2, 4] (by decide) rfl rfl [0, 1] rfl q_S_bl (q_S_give hE hS (va_free (wc := [(rd, .inr (6, [.ref tp, .int (o_4), .int rv_c])), (tp, .inr (8, [.ref by_, .int tl])), (by_, .inl (cb, 240, .inl tb)), (r1, .inl (c1, 8, .inl fu_c))]) hD hS hA [0, 1, 2, 4] rfl))) rfl rfl hl.1 rfl (lv_room (Nat.le_of_ble_eq_true rfl)) dX6_readTree_54 ⟨Nat.le_of_ble_eq_true rfl, Nat.le_of_ble_eq_true rfl⟩) hK hP hD hS hA [0, 1, 2, 4] [3, 5] rfl rfl (by decide) (by decide) (fun _ H locs _ hP hD hK9 hS => ?_)
            have hP : va_P (dC, dI) vwCl [(rd, .inr (6, [.ref tp, .int (o_36.2.1), .int (o_36.2.2.1)])), (tp, .inr (8, [.ref by_, .int tl])), (by_, .inl (cb, 240, .inl tb)), (h, .inr (5, [.ref r1, .ref r2, .int dv_c])), (r1, .inl (c1, 8, .inl (o_36.2.2.2))), (r2, .inl (c2, 48, .inl fp_c))] H := hP.sub [2, 3, 4, 0, 5, 1] rfl
            have hD : va_D A [(rd, .inr (6, [.ref tp, .int (o_36.2.1), .int (o_36.2.2.1)])), (tp, .inr (8, [.ref by_, .int tl])), (by_, .inl (cb, 240, .inl tb)), (h, .inr (5, [.ref r1, .ref r2, .int dv_c])), (r1, .inl (c1, 8, .inl (o_36.2.2.2))), (r2, .inl (c2, 48, .inl fp_c))] := hD.sub [2, 3, 4, 0, 5, 1] (by decide) rfl
            refine lv_istore (lv' := [(4, .int o_36.1), (2, .int 1), (3, .int x3_13), (0, .ref rd), (1, .ref h)]) hx hb dX6_readTree_57 hl (by decide) rfl (fun ls hl => ?_)
            refine lv_goto (tgt := 122) hx hb dX6_readTree_59 (by decide) ?_
            refine lv_iload hx hb dX6_readTree_122 (lv_at hl 0 rfl) ?_
            refine lv_iconst (v := (-1)) hx hb dX6_readTree_124 (by decide) ?_
            refine lv_icmp_eq (tgt := 131) hx hb dX6_readTree_125 (by decide) (fun c_38 => ?_) (fun c_38 => ?_)
            · have hG := q_ifp c_38 hG
              refine lv_aload_n hx hb dX6_readTree_131 rfl (lv_at hl 3 rfl) ?_
              refine va_get (D := (dC, dI)) (ci := 6) (v := .int (o_36.2.1)) (C := RX6) (T := TX6) (N := 3) hx hb hts iA_6 hown hK hP 0 rfl rfl 1 (by decide) (hts (.fieldLink RX6 9 "HubTree$Reader" "at" "I") (List.mem_cons_of_mem _ m_67)) (fun _ h9 => h9) rfl dX6_readTree_132 ?_
              refine lv_aload_n hx hb dX6_readTree_135 rfl (lv_at hl 3 rfl) ?_
              refine va_get (D := (dC, dI)) (ci := 6) (v := .ref tp) (C := RX6) (T := TX6) (N := 3) hx hb hts iA_6 hown hK hP 0 rfl rfl 0 (by decide) (hts (.fieldLink RX6 18 "HubTree$Reader" "tape" "LHubTree$Tape;") (List.mem_cons_of_mem _ m_69)) (fun _ h9 => h9) rfl dX6_readTree_136 ?_
              refine va_get (D := (dC, dI)) (ci := 8) (v := .int tl) (C := RX8) (T := TX8) (N := 2) hx hb hts iA_8 hown hK hP 1 rfl rfl 1 (by decide) (hts (.fieldLink RX6 67 "HubTree$Tape" "length" "I") (List.mem_cons_of_mem _ m_171)) (fun _ h9 => h9) rfl dX6_readTree_139 ?_
              refine lv_icmp_lt (tgt := 161) hx hb dX6_readTree_142 (by decide) (fun c_39 => ?_) (fun c_39 => ?_)
              · have hG := q_ifp c_39 hG
                refine lv_aload_n hx hb dX6_readTree_161 rfl (lv_at hl 3 rfl) ?_
                refine lv_dup hx hb dX6_readTree_162 rfl ?_
                refine va_get (D := (dC, dI)) (ci := 6) (v := .int (o_36.2.1)) (C := RX6) (T := TX6) (N := 3) hx hb hts iA_6 hown hK hP 0 rfl rfl 1 (by decide) (hts (.fieldLink RX6 9 "HubTree$Reader" "at" "I") (List.mem_cons_of_mem _ m_67)) (fun _ h9 => h9) rfl dX6_readTree_163 ?_
                refine lv_iconst (v := 1) hx hb dX6_readTree_166 (by decide) ?_
                refine lv_iadd hx hb dX6_readTree_167 ?_
                refine va_put (D := (dC, dI)) (ci := 6) (v := .int ((o_36.2.1) + 1)) (ty := .int) (C := RX6) (T := TX6) (N := 3) hx hb hts iA_6 tyX6 tyX6_ok nmX6 hown hK hP hD hS 0 rfl rfl 1 (by decide) (hts (.fieldLink RX6 9 "HubTree$Reader" "at" "I") (List.mem_cons_of_mem _ m_67)) (fun _ h9 => h9) rfl (by decide +kernel) rfl rfl (Nat.le_of_ble_eq_true rfl) dX6_readTree_168 (fun H locs hP hD hS => ?_)
                have hP : va_P (dC, dI) vwCl [(rd, .inr (6, [.ref tp, .int ((o_36.2.1) + 1), .int (o_36.2.2.1)])), (tp, .inr (8, [.ref by_, .int tl])), (by_, .inl (cb, 240, .inl tb)), (h, .inr (5, [.ref r1, .ref r2, .int dv_c])), (r1, .inl (c1, 8, .inl (o_36.2.2.2))), (r2, .inl (c2, 48, .inl fp_c))] H := hP
                have hD : va_D A [(rd, .inr (6, [.ref tp, .int ((o_36.2.1) + 1), .int (o_36.2.2.1)])), (tp, .inr (8, [.ref by_, .int tl])), (by_, .inl (cb, 240, .inl tb)), (h, .inr (5, [.ref r1, .ref r2, .int dv_c])), (r1, .inl (c1, 8, .inl (o_36.2.2.2))), (r2, .inl (c2, 48, .inl fp_c))] := hD
                refine lv_iinc (v := (x3_13 + 1)) (lv' := [(3, .int (x3_13 + 1)), (4, .int o_36.1), (2, .int 1), (0, .ref rd), (1, .ref h)]) hx hb dX6_readTree_171 hl (k := 2) rfl (rfl) (by decide) rfl (fun ls hl => ?_)
                refine lv_goto (tgt := 13) hx hb dX6_readTree_174 (by decide) ?_
                exact ih_13 1 (x3_13 + 1) ((o_36.2.1) + 1) (o_36.2.2.1) dv_c (o_36.2.2.2) fp_c H locs ls hG hP hD hS (lv_sub hl [0, 2, 3, 4] rfl)
              · have hG := q_ifn c_39 hG
                refine lv_aload_n hx hb dX6_readTree_145 rfl (lv_at hl 4 rfl) ?_
                obtain ⟨o_40, r_41, hG⟩ := q_bi hG
                refine q_goi (v := o_40) (va_runV (As := []) (rest := []) ⟨hx, hb, hml, hown, hts⟩ (c_X5_isTold l dC dI h r1 r2 dv_c o_40 r_41) (cwV 0 hts (q_gV m_299 m_300 m_301 m_24 m_302) rfl rfl rfl hdV_yX5_isTold_0 ⟨Nat.le_of_ble_eq_true rfl, Nat.le_of_ble_eq_true rfl⟩) (q_preV hK hP (q := (RX5, TX5, 3)) (ci := 5) (q0 := 3) rfl rfl [3] rfl [] rfl) rfl rfl hl.1 rfl (lv_room (Nat.le_of_ble_eq_true rfl)) dX6_readTree_146 ⟨Nat.le_of_ble_eq_true rfl, Nat.le_of_ble_eq_true rfl⟩) hP hS (fun H locs hP hS => ?_)
                refine lv_if_eq (tgt := 156) hx hb dX6_readTree_149 (by decide) (fun c_42 => ?_) (fun c_42 => ?_)
                · have hG := q_ifp c_42 hG
                  refine lv_aload_n hx hb dX6_readTree_156 rfl (lv_at hl 3 rfl) ?_
                  refine va_get (D := (dC, dI)) (ci := 6) (v := .int (o_36.2.1)) (C := RX6) (T := TX6) (N := 3) hx hb hts iA_6 hown hK hP 0 rfl rfl 1 (by decide) (hts (.fieldLink RX6 9 "HubTree$Reader" "at" "I") (List.mem_cons_of_mem _ m_67)) (fun _ h9 => h9) rfl dX6_readTree_157 ?_
                  obtain rfl := Option.some.inj hG
                  have hP9 := hP.sub (ws' := [(rd, .inr (6, [.ref tp, .int (o_36.2.1), .int (o_36.2.2.1)])), (tp, .inr (8, [.ref by_, .int tl])), (by_, .inl (cb, 240, .inl tb)), (h, .inr (5, [.ref r1, .ref r2, .int dv_c])), (r1, .inl (c1, 8, .inl (o_36.2.2.2))), (r2, .inl (c2, 48, .inl fp_c))]) [0, 1, 2, 3, 4, 5] rfl
                  have hD9 := hD.sub (ws' := [(rd, .inr (6, [.ref tp, .int (o_36.2.1), .int (o_36.2.2.1)])), (tp, .inr (8, [.ref by_, .int tl])), (by_, .inl (cb, 240, .inl tb)), (h, .inr (5, [.ref r1, .ref r2, .int dv_c])), (r1, .inl (c1, 8, .inl (o_36.2.2.2))), (r2, .inl (c2, 48, .inl fp_c))]) [0, 1, 2, 3, 4, 5] (by decide) rfl
                  have hK9 := hK.sub (tys' := [(cb, .char), (c1, .int), (c2, .int)]) [0, 1, 2] rfl
                  exact W.iret (v := (o_36.2.1)) hx hb hr (fun t ht hW => ⟨⟨(o_36.2.1), (), rfl, ⟨rfl, trivial⟩, by rw [ht]; exact hP9, va_K.moved hW.alike hK9, hD9⟩, hS.F ht⟩) hS.2.2 dX6_readTree_160
                · have hG := q_ifn c_42 hG
                  refine lv_iconst (v := (-1)) hx hb dX6_readTree_152 (by decide) ?_
                  refine lv_goto (tgt := 160) hx hb dX6_readTree_153 (by decide) ?_
                  obtain rfl := Option.some.inj hG
                  have hP9 := hP.sub (ws' := [(rd, .inr (6, [.ref tp, .int (o_36.2.1), .int (o_36.2.2.1)])), (tp, .inr (8, [.ref by_, .int tl])), (by_, .inl (cb, 240, .inl tb)), (h, .inr (5, [.ref r1, .ref r2, .int dv_c])), (r1, .inl (c1, 8, .inl (o_36.2.2.2))), (r2, .inl (c2, 48, .inl fp_c))]) [0, 1, 2, 3, 4, 5] rfl
                  have hD9 := hD.sub (ws' := [(rd, .inr (6, [.ref tp, .int (o_36.2.1), .int (o_36.2.2.1)])), (tp, .inr (8, [.ref by_, .int tl])), (by_, .inl (cb, 240, .inl tb)), (h, .inr (5, [.ref r1, .ref r2, .int dv_c])), (r1, .inl (c1, 8, .inl (o_36.2.2.2))), (r2, .inl (c2, 48, .inl fp_c))]) [0, 1, 2, 3, 4, 5] (by decide) rfl
                  have hK9 := hK.sub (tys' := [(cb, .char), (c1, .int), (c2, .int)]) [0, 1, 2] rfl
                  exact W.iret (v := (-1)) hx hb hr (fun t ht hW => ⟨⟨(-1), (), rfl, ⟨rfl, trivial⟩, by rw [ht]; exact hP9, va_K.moved hW.alike hK9, hD9⟩, hS.F ht⟩) hS.2.2 dX6_readTree_160
            · have hG := q_ifn c_38 hG
              refine lv_iload hx hb dX6_readTree_128 (lv_at hl 0 rfl) ?_
              obtain rfl := Option.some.inj hG
              have hP9 := hP.sub (ws' := [(rd, .inr (6, [.ref tp, .int (o_36.2.1), .int (o_36.2.2.1)])), (tp, .inr (8, [.ref by_, .int tl])), (by_, .inl (cb, 240, .inl tb)), (h, .inr (5, [.ref r1, .ref r2, .int dv_c])), (r1, .inl (c1, 8, .inl (o_36.2.2.2))), (r2, .inl (c2, 48, .inl fp_c))]) [0, 1, 2, 3, 4, 5] rfl
              have hD9 := hD.sub (ws' := [(rd, .inr (6, [.ref tp, .int (o_36.2.1), .int (o_36.2.2.1)])), (tp, .inr (8, [.ref by_, .int tl])), (by_, .inl (cb, 240, .inl tb)), (h, .inr (5, [.ref r1, .ref r2, .int dv_c])), (r1, .inl (c1, 8, .inl (o_36.2.2.2))), (r2, .inl (c2, 48, .inl fp_c))]) [0, 1, 2, 3, 4, 5] (by decide) rfl
              have hK9 := hK.sub (tys' := [(cb, .char), (c1, .int), (c2, .int)]) [0, 1, 2] rfl
              exact W.iret (v := o_36.1) hx hb hr (fun t ht hW => ⟨⟨o_36.1, (), rfl, ⟨rfl, trivial⟩, by rw [ht]; exact hP9, va_K.moved hW.alike hK9, hD9⟩, hS.F ht⟩) hS.2.2 dX6_readTree_130
  exact L_13 1000 0 0 0 rv (o_1.2) (o_1.1) fp H locs ls hG hP hD hS hl

def FL_X6_readStep_7 (tb : Nat → Int32) (tl : Int32) (ra : Int32) (rv : Int32) (fi : Nat → Int32) (z1 : Int32) (z2 : Int32) : Nat → Int32 → (Int32) → (Int32) → (Nat → Int32) → Option (Int32 × Int32 × Int32 × (Nat → Int32))
  | 0, _, _, _, _ => none
  | n + 1, x4_7, ra_c, rv_c, fi_c => (if z1 < 0 ∨ 6 ≤ (z1).toNatClampNeg then none else (if (q_tab 6 (z1 : Int32).toNatClampNeg) < x4_7 then some (1, ra_c, rv_c, fi_c) else ((F_X6_skipBlanks tb tl ra_c).bind fun o_4 => (if z1 = 2 then ((F_X6_readNumber tb tl (o_4) rv_c 2).bind fun o_11 => (if o_11.1 = 0 then some (0, (o_11.2.1), (o_11.2.2), fi_c) else (if (z2 + x4_7) < 0 ∨ 64 ≤ ((z2 + x4_7)).toNatClampNeg then none else (FL_X6_readStep_7 tb tl ra rv fi z1 z2 n (x4_7 + 1) (o_11.2.1) (o_11.2.2) (upd fi_c (z2 + x4_7).toNatClampNeg (o_11.2.2)))))) else ((F_X6_readDigit tb tl (o_4) rv_c).bind fun o_7 => (if o_7.1 = 0 then some (0, (o_7.2.1), (o_7.2.2), fi_c) else (if (z2 + x4_7) < 0 ∨ 64 ≤ ((z2 + x4_7)).toNatClampNeg then none else (FL_X6_readStep_7 tb tl ra rv fi z1 z2 n (x4_7 + 1) (o_7.2.1) (o_7.2.2) (upd fi_c (z2 + x4_7).toNatClampNeg (o_7.2.2))))))))))

def F_X6_readStep (tb : Nat → Int32) (tl : Int32) (ra : Int32) (rv : Int32) (fi : Nat → Int32) (z1 : Int32) (z2 : Int32) : Option (Int32 × Int32 × Int32 × (Nat → Int32)) := (if z2 < 0 ∨ 64 ≤ (z2).toNatClampNeg then none else (FL_X6_readStep_7 tb tl ra rv fi z1 z2 1000 1 ra rv (upd fi (z2).toNatClampNeg z1)))
set_option maxHeartbeats 4000000 in
set_option maxRecDepth 100000 in
theorem c_X6_readStep (l : Launch) (dC : Nat → ClassId) (dI : Nat → Nat → Nat) (ts : Nat → Nat) (ks : Nat → Nat) (kv : Nat → Nat) (rd : Nat) (tp : Nat) (by_ : Nat) (cb : ClassId) (tb : Nat → Int32) (tl : Int32) (ra : Int32) (rv : Int32) (iq : Nat) (ci : ClassId) (fi : Nat → Int32) (z1 : Int32) (z2 : Int32) (A : Nat → Prop) (o : Int32 × Int32 × Int32 × (Nat → Int32)) (hG : F_X6_readStep tb tl ra rv fi z1 z2 = some o) : Met l yX6_readStep (.code yX6_readStep cX6_readStep 5 (some .boolean) :: wA) ({ frames := 3, cells := 0, slots := 0, locals := 63 }) (va_Pc [.ref rd, .int z1, .ref iq, .int z2] (q_WE (dC, dI) A [(rd, .inr (6, [.ref tp, .int ra, .int rv])), (tp, .inr (8, [.ref by_, .int tl])), (by_, .inl (cb, 240, .inl tb)), (iq, .inl (ci, 64, .inl fi))] [(cb, .char), (ci, .int)] (q_S ts ks kv A))) (va_Qi (fun (r : Int32) (_ : Unit) => r = o.1 ∧ True) (fun (_ : Unit) t => q_B (dC, dI) A [(rd, .inr (6, [.ref tp, .int (o.2.1), .int (o.2.2.1)])), (tp, .inr (8, [.ref by_, .int tl])), (by_, .inl (cb, 240, .inl tb)), (iq, .inl (ci, 64, .inl (o.2.2.2)))] [(cb, .char), (ci, .int)] t) A) 0 0 A := by
  refine Met.ofW (cc := cX6_readStep) (maxL := 5) (ret := (some .boolean)) (by decide) rfl ?_
  intro p e s m args below meth c s₁ B hml hv
  obtain ⟨rfl, hP, hK, hD, hA, hE⟩ := hv
  have hx := B.exec
  have hb := B.bytes
  have hr := B.returns
  have hts := atoms_spec (ws := .code yX6_readStep cX6_readStep 5 (some .boolean) :: wA) B.pre
  have hown : s.vm.findClass RX6 = some m.cls := findClass_of_methodNamed B.named
  have hlocks := B.notSynchronized
  have hS : va_S A s.heap s.heap [] := va_S.rf
  have hl := lv_entry ([.ref rd, .int z1, .ref iq, .int z2]) (n := 5) (Nat.le_of_ble_eq_true rfl)
  rw [lg_entry_eq]
  generalize (lg_sl ([.ref rd, .int z1, .ref iq, .int z2]) ++ List.replicate (5 - (lg_sl ([.ref rd, .int z1, .ref iq, .int z2])).length) Slot.unset).toArray = ls at hl ⊢
  have hl : lv_has ls 5 [(0, .ref rd), (1, .int z1), (2, .ref iq), (3, .int z2)] := hl
  unfold F_X6_readStep at hG
  refine lv_aload_n hx hb dX6_readStep_0 rfl (lv_at hl 2 rfl) ?_
  refine lv_iload_n hx hb dX6_readStep_1 rfl (lv_at hl 3 rfl) ?_
  refine lv_iload_n hx hb dX6_readStep_2 rfl (lv_at hl 1 rfl) ?_
  obtain ⟨h_1, hG⟩ := q_ix hG
  refine va_iast hx hb hK hP hD hS 3 1 rfl rfl (i := z2) (x := z1) h_1 dX6_readStep_3 (fun H locs hP hD hS => ?_)
  have hP : va_P (dC, dI) vwCl [(rd, .inr (6, [.ref tp, .int ra, .int rv])), (tp, .inr (8, [.ref by_, .int tl])), (by_, .inl (cb, 240, .inl tb)), (iq, .inl (ci, 64, .inl (upd fi (z2).toNatClampNeg z1)))] H := hP
  have hD : va_D A [(rd, .inr (6, [.ref tp, .int ra, .int rv])), (tp, .inr (8, [.ref by_, .int tl])), (by_, .inl (cb, 240, .inl tb)), (iq, .inl (ci, 64, .inl (upd fi (z2).toNatClampNeg z1)))] := hD
  refine lv_iconst (v := 1) hx hb dX6_readStep_4 (by decide) ?_
  refine lv_istore (lv' := [(4, .int 1), (0, .ref rd), (1, .int z1), (2, .ref iq), (3, .int z2)]) hx hb dX6_readStep_5 hl (by decide) rfl (fun ls hl => ?_)
  have L_7 : ∀ (n_7 : Nat) (x4_7 : Int32) (ra_c : Int32) (rv_c : Int32) (fi_c : Nat → Int32) (H : Heap) (locs : List Loc) (ls : Array Slot), FL_X6_readStep_7 tb tl ra rv fi z1 z2 n_7 x4_7 ra_c rv_c fi_c = some o → va_P (dC, dI) vwCl [(rd, .inr (6, [.ref tp, .int ra_c, .int rv_c])), (tp, .inr (8, [.ref by_, .int tl])), (by_, .inl (cb, 240, .inl tb)), (iq, .inl (ci, 64, .inl fi_c))] H → va_D A [(rd, .inr (6, [.ref tp, .int ra_c, .int rv_c])), (tp, .inr (8, [.ref by_, .int tl])), (by_, .inl (cb, 240, .inl tb)), (iq, .inl (ci, 64, .inl fi_c))] → va_S A s.heap H locs → lv_has ls 5 [(4, .int x4_7), (0, .ref rd), (1, .int z1), (2, .ref iq), (3, .int z2)] → W p l e (headSpec (.code yX6_readStep cX6_readStep 5 (some .boolean) :: wA) ({ frames := 3, cells := 0, slots := 0, locals := 63 })).room s m #[.ref rd, .int z1, .ref iq, .int z2] below meth c H locs 0 0 (MQ below (va_Qi (fun (r : Int32) (_ : Unit) => r = o.1 ∧ True) (fun (_ : Unit) t => q_B (dC, dI) A [(rd, .inr (6, [.ref tp, .int (o.2.1), .int (o.2.2.1)])), (tp, .inr (8, [.ref by_, .int tl])), (by_, .inl (cb, 240, .inl tb)), (iq, .inl (ci, 64, .inl (o.2.2.2)))] [(cb, .char), (ci, .int)] t) A) #[.ref rd, .int z1, .ref iq, .int z2] s 0 0 A) (F0 m 7 ls []) := by
    intro n_7
    induction n_7 with
    | zero =>
      intro x4_7 ra_c rv_c fi_c H locs ls hG
      exact q_no hG
    | succ n_7 ih_7 =>
      intro x4_7 ra_c rv_c fi_c H locs ls hG hP hD hS hl
      unfold FL_X6_readStep_7 at hG
      refine lv_iload hx hb dX6_readStep_7 (lv_at hl 0 rfl) ?_
      refine va_getsN hx hb (q_S_t hE 6 (by decide)).1 hS hown (va_Nw.use rfl (q_S_l6 hE)) (fun _ h9 => h9) dX6_readStep_9 ?_
      refine lv_iload_n hx hb dX6_readStep_12 rfl (lv_at hl 2 rfl) ?_
      obtain ⟨h_2, hG⟩ := q_ix hG
      refine va_ti hx hb (q_S_t hE 6 (by decide)).2 hS (i := z1) h_2 (v := .int (q_tab 6 (z1 : Int32).toNatClampNeg)) rfl dX6_readStep_13 ?_
      refine lv_icmp_gt (tgt := 62) hx hb dX6_readStep_14 (by decide) (fun c_3 => ?_) (fun c_3 => ?_)
      · have hG := q_ifp c_3 hG
        refine lv_iconst (v := 1) hx hb dX6_readStep_62 (by decide) ?_
        obtain rfl := Option.some.inj hG
        have hP9 := hP.sub (ws' := [(rd, .inr (6, [.ref tp, .int ra_c, .int rv_c])), (tp, .inr (8, [.ref by_, .int tl])), (by_, .inl (cb, 240, .inl tb)), (iq, .inl (ci, 64, .inl fi_c))]) [0, 1, 2, 3] rfl
        have hD9 := hD.sub (ws' := [(rd, .inr (6, [.ref tp, .int ra_c, .int rv_c])), (tp, .inr (8, [.ref by_, .int tl])), (by_, .inl (cb, 240, .inl tb)), (iq, .inl (ci, 64, .inl fi_c))]) [0, 1, 2, 3] (by decide) rfl
        have hK9 := hK.sub (tys' := [(cb, .char), (ci, .int)]) [0, 1] rfl
        exact W.zret (v := 1) hx hb hr rfl (fun t ht hW => ⟨⟨1, (), rfl, ⟨rfl, trivial⟩, by rw [ht]; exact hP9, va_K.moved hW.alike hK9, hD9⟩, hS.F ht⟩) hS.2.2 dX6_readStep_63
      · have hG := q_ifn c_3 hG
        refine lv_aload_n hx hb dX6_readStep_17 rfl (lv_at hl 1 rfl) ?_
        obtain ⟨o_4, r_5, hG⟩ := q_bi hG
        refine q_gov2 (wr := [(iq, .inl (ci, 64, .inl fi_c))]) (va_runV (As := []) (rest := []) ⟨hx, hb, hml, hown, hts⟩ (c_X6_skipBlanks l dC dI rd tp by_ cb tb tl ra_c rv_c (va_A [(rd, .inr (6, [.ref tp, .int ra_c, .int rv_c])), (tp, .inr (8, [.ref by_, .int tl])), (by_, .inl (cb, 240, .inl tb))] H.size) o_4 r_5) (cwV 0 hts (q_gV m_180 m_181 m_182 m_20 m_183) rfl rfl rfl hdV_yX6_skipBlanks_0 ⟨Nat.le_of_ble_eq_true rfl, Nat.le_of_ble_eq_true rfl⟩) (q_preWV hK hP hD (q := (RX6, TX6, 3)) (ci := 6) (q0 := 0) rfl rfl [0, 1, 2] (by decide) rfl rfl [0] rfl) rfl rfl hl.1 rfl (lv_room (Nat.le_of_ble_eq_true rfl)) dX6_readStep_18 ⟨Nat.le_of_ble_eq_true rfl, Nat.le_of_ble_eq_true rfl⟩) hK hP hD hS hA [0, 1, 2] [3] rfl rfl (by decide) (by decide) (fun _ H locs _ hP hD hK9 hS => ?_)
        have hP : va_P (dC, dI) vwCl [(rd, .inr (6, [.ref tp, .int (o_4), .int rv_c])), (tp, .inr (8, [.ref by_, .int tl])), (by_, .inl (cb, 240, .inl tb)), (iq, .inl (ci, 64, .inl fi_c))] H := hP.sub [1, 2, 3, 0] rfl
        have hD : va_D A [(rd, .inr (6, [.ref tp, .int (o_4), .int rv_c])), (tp, .inr (8, [.ref by_, .int tl])), (by_, .inl (cb, 240, .inl tb)), (iq, .inl (ci, 64, .inl fi_c))] := hD.sub [1, 2, 3, 0] (by decide) rfl
        refine lv_iload_n hx hb dX6_readStep_21 rfl (lv_at hl 2 rfl) ?_
        refine lv_iconst (v := 2) hx hb dX6_readStep_22 (by decide) ?_
        refine lv_icmp_ne (tgt := 37) hx hb dX6_readStep_23 (by decide) (fun c_6 => ?_) (fun c_6 => ?_)
        · have hG := q_ifn c_6 hG
          refine lv_aload_n hx hb dX6_readStep_37 rfl (lv_at hl 1 rfl) ?_
          obtain ⟨o_7, r_8, hG⟩ := q_bi hG
          refine q_goi2 (v := o_7.1) (wr := [(iq, .inl (ci, 64, .inl fi_c))]) (va_runV (As := []) (rest := []) ⟨hx, hb, hml, hown, hts⟩ (c_X6_readDigit l dC dI rd tp by_ cb tb tl (o_4) rv_c (va_A [(rd, .inr (6, [.ref tp, .int (o_4), .int rv_c])), (tp, .inr (8, [.ref by_, .int tl])), (by_, .inl (cb, 240, .inl tb))] H.size) o_7 r_8) (cwV 0 hts (q_gV m_287 m_288 m_289 m_20 m_290) rfl rfl rfl hdV_yX6_readDigit_0 ⟨Nat.le_of_ble_eq_true rfl, Nat.le_of_ble_eq_true rfl⟩) (q_preWV hK hP hD (q := (RX6, TX6, 3)) (ci := 6) (q0 := 0) rfl rfl [0, 1, 2] (by decide) rfl rfl [0] rfl) rfl rfl hl.1 rfl (lv_room (Nat.le_of_ble_eq_true rfl)) dX6_readStep_38 ⟨Nat.le_of_ble_eq_true rfl, Nat.le_of_ble_eq_true rfl⟩) hK hP hD hS hA [0, 1, 2] [3] rfl rfl (by decide) (by decide) (fun _ H locs _ hP hD hK9 hS => ?_)
          have hP : va_P (dC, dI) vwCl [(rd, .inr (6, [.ref tp, .int (o_7.2.1), .int (o_7.2.2)])), (tp, .inr (8, [.ref by_, .int tl])), (by_, .inl (cb, 240, .inl tb)), (iq, .inl (ci, 64, .inl fi_c))] H := hP.sub [1, 2, 3, 0] rfl
          have hD : va_D A [(rd, .inr (6, [.ref tp, .int (o_7.2.1), .int (o_7.2.2)])), (tp, .inr (8, [.ref by_, .int tl])), (by_, .inl (cb, 240, .inl tb)), (iq, .inl (ci, 64, .inl fi_c))] := hD.sub [1, 2, 3, 0] (by decide) rfl
          refine lv_if_ne (tgt := 46) hx hb dX6_readStep_41 (by decide) (fun c_9 => ?_) (fun c_9 => ?_)
          · have hG := q_ifn c_9 hG
            refine lv_aload_n hx hb dX6_readStep_46 rfl (lv_at hl 3 rfl) ?_
            refine lv_iload_n hx hb dX6_readStep_47 rfl (lv_at hl 4 rfl) ?_
            refine lv_iload hx hb dX6_readStep_48 (lv_at hl 0 rfl) ?_
            refine lv_iadd hx hb dX6_readStep_50 ?_
            refine lv_aload_n hx hb dX6_readStep_51 rfl (lv_at hl 1 rfl) ?_
            refine va_get (D := (dC, dI)) (ci := 6) (v := .int (o_7.2.2)) (C := RX6) (T := TX6) (N := 3) hx hb hts iA_6 hown hK hP 0 rfl rfl 2 (by decide) (hts (.fieldLink RX6 15 "HubTree$Reader" "value" "I") (List.mem_cons_of_mem _ m_68)) (fun _ h9 => h9) rfl dX6_readStep_52 ?_
            obtain ⟨h_10, hG⟩ := q_ix hG
            refine va_iast hx hb hK hP hD hS 3 1 rfl rfl (i := (z2 + x4_7)) (x := (o_7.2.2)) h_10 dX6_readStep_55 (fun H locs hP hD hS => ?_)
            have hP : va_P (dC, dI) vwCl [(rd, .inr (6, [.ref tp, .int (o_7.2.1), .int (o_7.2.2)])), (tp, .inr (8, [.ref by_, .int tl])), (by_, .inl (cb, 240, .inl tb)), (iq, .inl (ci, 64, .inl (upd fi_c (z2 + x4_7).toNatClampNeg (o_7.2.2))))] H := hP
            have hD : va_D A [(rd, .inr (6, [.ref tp, .int (o_7.2.1), .int (o_7.2.2)])), (tp, .inr (8, [.ref by_, .int tl])), (by_, .inl (cb, 240, .inl tb)), (iq, .inl (ci, 64, .inl (upd fi_c (z2 + x4_7).toNatClampNeg (o_7.2.2))))] := hD
            refine lv_iinc (v := (x4_7 + 1)) (lv' := [(4, .int (x4_7 + 1)), (0, .ref rd), (1, .int z1), (2, .ref iq), (3, .int z2)]) hx hb dX6_readStep_56 hl (k := 0) rfl (rfl) (by decide) rfl (fun ls hl => ?_)
            refine lv_goto (tgt := 7) hx hb dX6_readStep_59 (by decide) ?_
            exact ih_7 (x4_7 + 1) (o_7.2.1) (o_7.2.2) (upd fi_c (z2 + x4_7).toNatClampNeg (o_7.2.2)) H locs ls hG hP hD hS (lv_sub hl [0, 1, 2, 3, 4] rfl)
          · have hG := q_ifp c_9 hG
            refine lv_iconst (v := 0) hx hb dX6_readStep_44 (by decide) ?_
            obtain rfl := Option.some.inj hG
            have hP9 := hP.sub (ws' := [(rd, .inr (6, [.ref tp, .int (o_7.2.1), .int (o_7.2.2)])), (tp, .inr (8, [.ref by_, .int tl])), (by_, .inl (cb, 240, .inl tb)), (iq, .inl (ci, 64, .inl fi_c))]) [0, 1, 2, 3] rfl
            have hD9 := hD.sub (ws' := [(rd, .inr (6, [.ref tp, .int (o_7.2.1), .int (o_7.2.2)])), (tp, .inr (8, [.ref by_, .int tl])), (by_, .inl (cb, 240, .inl tb)), (iq, .inl (ci, 64, .inl fi_c))]) [0, 1, 2, 3] (by decide) rfl
            have hK9 := hK.sub (tys' := [(cb, .char), (ci, .int)]) [0, 1] rfl
            exact W.zret (v := 0) hx hb hr rfl (fun t ht hW => ⟨⟨0, (), rfl, ⟨rfl, trivial⟩, by rw [ht]; exact hP9, va_K.moved hW.alike hK9, hD9⟩, hS.F ht⟩) hS.2.2 dX6_readStep_45
        · have hG := q_ifp c_6 hG
          refine lv_aload_n hx hb dX6_readStep_26 rfl (lv_at hl 1 rfl) ?_
          refine lv_iconst (v := 2) hx hb dX6_readStep_27 (by decide) ?_
          obtain ⟨o_11, r_12, hG⟩ := q_bi hG
          refine q_goi2 (v := o_11.1) (wr := [(iq, .inl (ci, 64, .inl fi_c))]) (va_runV (As := [.int 2]) (rest := []) ⟨hx, hb, hml, hown, hts⟩ (c_X6_readNumber l dC dI rd tp by_ cb tb tl (o_4) rv_c 2 (va_A [(rd, .inr (6, [.ref tp, .int (o_4), .int rv_c])), (tp, .inr (8, [.ref by_, .int tl])), (by_, .inl (cb, 240, .inl tb))] H.size) o_11 r_12) (cwV 1 hts (q_gV m_283 m_284 m_285 m_20 m_286) rfl rfl rfl hdV_yX6_readNumber_1 ⟨Nat.le_of_ble_eq_true rfl, Nat.le_of_ble_eq_true rfl⟩) (q_preWV hK hP hD (q := (RX6, TX6, 3)) (ci := 6) (q0 := 0) rfl rfl [0, 1, 2] (by decide) rfl rfl [0] rfl) rfl rfl hl.1 rfl (lv_room (Nat.le_of_ble_eq_true rfl)) dX6_readStep_28 ⟨Nat.le_of_ble_eq_true rfl, Nat.le_of_ble_eq_true rfl⟩) hK hP hD hS hA [0, 1, 2] [3] rfl rfl (by decide) (by decide) (fun _ H locs _ hP hD hK9 hS => ?_)
          have hP : va_P (dC, dI) vwCl [(rd, .inr (6, [.ref tp, .int (o_11.2.1), .int (o_11.2.2)])), (tp, .inr (8, [.ref by_, .int tl])), (by_, .inl (cb, 240, .inl tb)), (iq, .inl (ci, 64, .inl fi_c))] H := hP.sub [1, 2, 3, 0] rfl
          have hD : va_D A [(rd, .inr (6, [.ref tp, .int (o_11.2.1), .int (o_11.2.2)])), (tp, .inr (8, [.ref by_, .int tl])), (by_, .inl (cb, 240, .inl tb)), (iq, .inl (ci, 64, .inl fi_c))] := hD.sub [1, 2, 3, 0] (by decide) rfl
          refine lv_if_ne (tgt := 46) hx hb dX6_readStep_31 (by decide) (fun c_13 => ?_) (fun c_13 => ?_)
          · have hG := q_ifn c_13 hG
            refine lv_aload_n hx hb dX6_readStep_46 rfl (lv_at hl 3 rfl) ?_
            refine lv_iload_n hx hb dX6_readStep_47 rfl (lv_at hl 4 rfl) ?_
            refine lv_iload hx hb dX6_readStep_48 (lv_at hl 0 rfl) ?_
            refine lv_iadd hx hb dX6_readStep_50 ?_
            refine lv_aload_n hx hb dX6_readStep_51 rfl (lv_at hl 1 rfl) ?_
            refine va_get (D := (dC, dI)) (ci := 6) (v := .int (o_11.2.2)) (C := RX6) (T := TX6) (N := 3) hx hb hts iA_6 hown hK hP 0 rfl rfl 2 (by decide) (hts (.fieldLink RX6 15 "HubTree$Reader" "value" "I") (List.mem_cons_of_mem _ m_68)) (fun _ h9 => h9) rfl dX6_readStep_52 ?_
            obtain ⟨h_14, hG⟩ := q_ix hG
            refine va_iast hx hb hK hP hD hS 3 1 rfl rfl (i := (z2 + x4_7)) (x := (o_11.2.2)) h_14 dX6_readStep_55 (fun H locs hP hD hS => ?_)
            have hP : va_P (dC, dI) vwCl [(rd, .inr (6, [.ref tp, .int (o_11.2.1), .int (o_11.2.2)])), (tp, .inr (8, [.ref by_, .int tl])), (by_, .inl (cb, 240, .inl tb)), (iq, .inl (ci, 64, .inl (upd fi_c (z2 + x4_7).toNatClampNeg (o_11.2.2))))] H := hP
            have hD : va_D A [(rd, .inr (6, [.ref tp, .int (o_11.2.1), .int (o_11.2.2)])), (tp, .inr (8, [.ref by_, .int tl])), (by_, .inl (cb, 240, .inl tb)), (iq, .inl (ci, 64, .inl (upd fi_c (z2 + x4_7).toNatClampNeg (o_11.2.2))))] := hD
            refine lv_iinc (v := (x4_7 + 1)) (lv' := [(4, .int (x4_7 + 1)), (0, .ref rd), (1, .int z1), (2, .ref iq), (3, .int z2)]) hx hb dX6_readStep_56 hl (k := 0) rfl (rfl) (by decide) rfl (fun ls hl => ?_)
            refine lv_goto (tgt := 7) hx hb dX6_readStep_59 (by decide) ?_
            exact ih_7 (x4_7 + 1) (o_11.2.1) (o_11.2.2) (upd fi_c (z2 + x4_7).toNatClampNeg (o_11.2.2)) H locs ls hG hP hD hS (lv_sub hl [0, 1, 2, 3, 4] rfl)
          · have hG := q_ifp c_13 hG
            refine lv_goto (tgt := 44) hx hb dX6_readStep_34 (by decide) ?_
            refine lv_iconst (v := 0) hx hb dX6_readStep_44 (by decide) ?_
            obtain rfl := Option.some.inj hG
            have hP9 := hP.sub (ws' := [(rd, .inr (6, [.ref tp, .int (o_11.2.1), .int (o_11.2.2)])), (tp, .inr (8, [.ref by_, .int tl])), (by_, .inl (cb, 240, .inl tb)), (iq, .inl (ci, 64, .inl fi_c))]) [0, 1, 2, 3] rfl
            have hD9 := hD.sub (ws' := [(rd, .inr (6, [.ref tp, .int (o_11.2.1), .int (o_11.2.2)])), (tp, .inr (8, [.ref by_, .int tl])), (by_, .inl (cb, 240, .inl tb)), (iq, .inl (ci, 64, .inl fi_c))]) [0, 1, 2, 3] (by decide) rfl
            have hK9 := hK.sub (tys' := [(cb, .char), (ci, .int)]) [0, 1] rfl
            exact W.zret (v := 0) hx hb hr rfl (fun t ht hW => ⟨⟨0, (), rfl, ⟨rfl, trivial⟩, by rw [ht]; exact hP9, va_K.moved hW.alike hK9, hD9⟩, hS.F ht⟩) hS.2.2 dX6_readStep_45
  exact L_7 1000 1 ra rv (upd fi (z2).toNatClampNeg z1) H locs ls hG hP hD hS hl

def FL_X6_readScript_15 (tb : Nat → Int32) (tl : Int32) (ra : Int32) (rv : Int32) (f3 : Nat → Int32) (ds : Int32) : Nat → Int32 → (Int32) → (Int32) → (Nat → Int32) → (Int32) → Option (Int32 × Int32 × Int32 × (Nat → Int32) × Int32)
  | 0, _, _, _, _, _ => none
  | n + 1, x2_15, ra_c, rv_c, f3_c, ds_c => (if 16 ≤ x2_15 then some (ra_c, ra_c, rv_c, f3_c, ds_c) else ((F_X6_skipBlanks tb tl ra_c).bind fun o_4 => (if tl ≤ (o_4) then some ((o_4), (o_4), rv_c, f3_c, ds_c) else (if (o_4) < 0 ∨ 240 ≤ ((o_4)).toNatClampNeg then none else ((F_J0_indexOf_2 (tb (o_4).toNatClampNeg)).bind fun o_9 => (if 0 ≤ o_9 then ((F_X6_readStep tb tl ((o_4) + 1) rv_c f3_c o_9 (x2_15 * 4)).bind fun o_12 => (if o_12.1 = 0 then some ((o_12.2.1), (o_12.2.1), (o_12.2.2.1), (o_12.2.2.2), ds_c) else ((F_X6_skipBlanks tb tl (o_12.2.1)).bind fun o_15 => (if (o_15) < tl then ((F_X6_stands tb tl (o_15) 59).bind fun o_18 => (if o_18 = 0 then some ((o_15), (o_15), (o_12.2.2.1), (o_12.2.2.2), (x2_15 + 1)) else (if x2_15 = 15 then some ((o_15), (o_15), (o_12.2.2.1), (o_12.2.2.2), (x2_15 + 1)) else (FL_X6_readScript_15 tb tl ra rv f3 ds n (x2_15 + 1) ((o_15) + 1) (o_12.2.2.1) (o_12.2.2.2) (x2_15 + 1))))) else some ((-1), (o_15), (o_12.2.2.1), (o_12.2.2.2), (x2_15 + 1)))))) else some ((o_4), (o_4), rv_c, f3_c, ds_c)))))))

def F_X6_readScript (tb : Nat → Int32) (tl : Int32) (ra : Int32) (rv : Int32) (f3 : Nat → Int32) (ds : Int32) : Option (Int32 × Int32 × Int32 × (Nat → Int32) × Int32) := ((F_J7_fill_64 f3 (-1)).bind fun o_1 => (FL_X6_readScript_15 tb tl ra rv f3 ds 1000 0 0 rv (o_1) ds))
set_option maxHeartbeats 4000000 in
set_option maxRecDepth 100000 in
theorem c_X6_readScript (l : Launch) (dC : Nat → ClassId) (dI : Nat → Nat → Nat) (ts : Nat → Nat) (ks : Nat → Nat) (kv : Nat → Nat) (rd : Nat) (tp : Nat) (by_ : Nat) (cb : ClassId) (tb : Nat → Int32) (tl : Int32) (ra : Int32) (rv : Int32) (sc : Nat) (s1 : Nat) (s2 : Nat) (s3 : Nat) (cs1 : ClassId) (cs2 : ClassId) (cs3 : ClassId) (f1 : Nat → Int32) (f2 : Nat → Int32) (f3 : Nat → Int32) (ds : Int32) (sh : Int32) (A : Nat → Prop) (o : Int32 × Int32 × Int32 × (Nat → Int32) × Int32) (hG : F_X6_readScript tb tl ra rv f3 ds = some o) : Met l yX6_readScript (.code yX6_readScript cX6_readScript 4 (some .int) :: wA) ({ frames := 4, cells := 0, slots := 0, locals := 91 }) (va_Pc [.ref rd, .ref sc] (q_WE (dC, dI) A [(rd, .inr (6, [.ref tp, .int ra, .int rv])), (tp, .inr (8, [.ref by_, .int tl])), (by_, .inl (cb, 240, .inl tb)), (sc, .inr (7, [.ref s1, .ref s2, .ref s3, .int ds, .int sh])), (s1, .inl (cs1, 256, .inl f1)), (s2, .inl (cs2, 4, .inl f2)), (s3, .inl (cs3, 64, .inl f3))] [(cb, .char), (cs1, .int), (cs2, .int), (cs3, .int)] (q_S ts ks kv A))) (va_Qi (fun (r : Int32) (_ : Unit) => r = o.1 ∧ True) (fun (_ : Unit) t => q_B (dC, dI) A [(rd, .inr (6, [.ref tp, .int (o.2.1), .int (o.2.2.1)])), (tp, .inr (8, [.ref by_, .int tl])), (by_, .inl (cb, 240, .inl tb)), (sc, .inr (7, [.ref s1, .ref s2, .ref s3, .int (o.2.2.2.2), .int sh])), (s1, .inl (cs1, 256, .inl f1)), (s2, .inl (cs2, 4, .inl f2)), (s3, .inl (cs3, 64, .inl (o.2.2.2.1)))] [(cb, .char), (cs1, .int), (cs2, .int), (cs3, .int)] t) A) 0 0 A := by
  refine Met.ofW (cc := cX6_readScript) (maxL := 4) (ret := (some .int)) (by decide) rfl ?_
  intro p e s m args below meth c s₁ B hml hv
  obtain ⟨rfl, hP, hK, hD, hA, hE⟩ := hv
  have hx := B.exec
  have hb := B.bytes
  have hr := B.returns
  have hts := atoms_spec (ws := .code yX6_readScript cX6_readScript 4 (some .int) :: wA) B.pre
  have hown : s.vm.findClass RX6 = some m.cls := findClass_of_methodNamed B.named
  have hlocks := B.notSynchronized
  have hS : va_S A s.heap s.heap [] := va_S.rf
  have hl := lv_entry ([.ref rd, .ref sc]) (n := 4) (Nat.le_of_ble_eq_true rfl)
  rw [lg_entry_eq]
  generalize (lg_sl ([.ref rd, .ref sc]) ++ List.replicate (4 - (lg_sl ([.ref rd, .ref sc])).length) Slot.unset).toArray = ls at hl ⊢
  have hl : lv_has ls 4 [(0, .ref rd), (1, .ref sc)] := hl
  unfold F_X6_readScript at hG
  refine lv_aload_n hx hb dX6_readScript_0 rfl (lv_at hl 1 rfl) ?_
  refine va_get (D := (dC, dI)) (ci := 7) (v := .ref s3) (C := RX7) (T := TX7) (N := 5) hx hb hts iA_7 hown hK hP 3 rfl rfl 2 (by decide) (hts (.fieldLink RX6 93 "HubTree$Scripts" "draft" "[I") (List.mem_cons_of_mem _ m_307)) (fun _ h9 => h9) rfl dX6_readScript_1 ?_
  refine lv_iconst (v := (-1)) hx hb dX6_readScript_4 (by decide) ?_
  obtain ⟨o_1, r_2, hG⟩ := q_bi hG
  refine q_gov2 (wr := [(rd, .inr (6, [.ref tp, .int ra, .int rv])), (tp, .inr (8, [.ref by_, .int tl])), (by_, .inl (cb, 240, .inl tb)), (sc, .inr (7, [.ref s1, .ref s2, .ref s3, .int ds, .int sh])), (s1, .inl (cs1, 256, .inl f1)), (s2, .inl (cs2, 4, .inl f2))]) (va_runS (As := [.ref s3, .int (-1)]) (rest := []) ⟨hx, hb, hml, hown, hts⟩ (c_J7_fill_64 l dC dI s3 cs3 f3 (-1) (va_A [(s3, .inl (cs3, 64, .inl f3))] s.heap.size) o_1 r_2) (va_cwS 2 hts (q_gS m_309 m_310 m_311 m_312) rfl rfl rfl hdS_yJ7_fill_53178_2 ⟨Nat.le_of_ble_eq_true rfl, Nat.le_of_ble_eq_true rfl⟩) (q_preW hK hP hD [6] (by decide) rfl rfl [3] rfl) rfl rfl hl.1 rfl (lv_room (Nat.le_of_ble_eq_true rfl)) dX6_readScript_5 ⟨Nat.le_of_ble_eq_true rfl, Nat.le_of_ble_eq_true rfl⟩) hK hP hD hS hA [6] [0, 1, 2, 3, 4, 5] rfl rfl (by decide) (by decide) (fun _ H locs _ hP hD hK9 hS => ?_)
  have hP : va_P (dC, dI) vwCl [(rd, .inr (6, [.ref tp, .int ra, .int rv])), (tp, .inr (8, [.ref by_, .int tl])), (by_, .inl (cb, 240, .inl tb)), (sc, .inr (7, [.ref s1, .ref s2, .ref s3, .int ds, .int sh])), (s1, .inl (cs1, 256, .inl f1)), (s2, .inl (cs2, 4, .inl f2)), (s3, .inl (cs3, 64, .inl (o_1)))] H := hP.sub [0, 1, 2, 3, 4, 5, 6] rfl
  have hD : va_D A [(rd, .inr (6, [.ref tp, .int ra, .int rv])), (tp, .inr (8, [.ref by_, .int tl])), (by_, .inl (cb, 240, .inl tb)), (sc, .inr (7, [.ref s1, .ref s2, .ref s3, .int ds, .int sh])), (s1, .inl (cs1, 256, .inl f1)), (s2, .inl (cs2, 4, .inl f2)), (s3, .inl (cs3, 64, .inl (o_1)))] := hD.sub [0, 1, 2, 3, 4, 5, 6] (by decide) rfl
  refine lv_aload_n hx hb dX6_readScript_8 rfl (lv_at hl 0 rfl) ?_
  refine lv_iconst (v := 0) hx hb dX6_readScript_9 (by decide) ?_
  refine va_put (D := (dC, dI)) (ci := 6) (v := .int 0) (ty := .int) (C := RX6) (T := TX6) (N := 3) hx hb hts iA_6 tyX6 tyX6_ok nmX6 hown hK hP hD hS 0 rfl rfl 1 (by decide) (hts (.fieldLink RX6 9 "HubTree$Reader" "at" "I") (List.mem_cons_of_mem _ m_67)) (fun _ h9 => h9) rfl (by decide +kernel) rfl rfl (Nat.le_of_ble_eq_true rfl) dX6_readScript_10 (fun H locs hP hD hS => ?_)
  have hP : va_P (dC, dI) vwCl [(rd, .inr (6, [.ref tp, .int 0, .int rv])), (tp, .inr (8, [.ref by_, .int tl])), (by_, .inl (cb, 240, .inl tb)), (sc, .inr (7, [.ref s1, .ref s2, .ref s3, .int ds, .int sh])), (s1, .inl (cs1, 256, .inl f1)), (s2, .inl (cs2, 4, .inl f2)), (s3, .inl (cs3, 64, .inl (o_1)))] H := hP
  have hD : va_D A [(rd, .inr (6, [.ref tp, .int 0, .int rv])), (tp, .inr (8, [.ref by_, .int tl])), (by_, .inl (cb, 240, .inl tb)), (sc, .inr (7, [.ref s1, .ref s2, .ref s3, .int ds, .int sh])), (s1, .inl (cs1, 256, .inl f1)), (s2, .inl (cs2, 4, .inl f2)), (s3, .inl (cs3, 64, .inl (o_1)))] := hD
  refine lv_iconst (v := 0) hx hb dX6_readScript_13 (by decide) ?_
  refine lv_istore_n (lv' := [(2, .int 0), (0, .ref rd), (1, .ref sc)]) hx hb dX6_readScript_14 rfl hl (by decide) rfl (fun ls hl => ?_)
  have L_15 : ∀ (n_15 : Nat) (x2_15 : Int32) (ra_c : Int32) (rv_c : Int32) (f3_c : Nat → Int32) (ds_c : Int32) (H : Heap) (locs : List Loc) (ls : Array Slot), FL_X6_readScript_15 tb tl ra rv f3 ds n_15 x2_15 ra_c rv_c f3_c ds_c = some o → va_P (dC, dI) vwCl [(rd, .inr (6, [.ref tp, .int ra_c, .int rv_c])), (tp, .inr (8, [.ref by_, .int tl])), (by_, .inl (cb, 240, .inl tb)), (sc, .inr (7, [.ref s1, .ref s2, .ref s3, .int ds_c, .int sh])), (s1, .inl (cs1, 256, .inl f1)), (s2, .inl (cs2, 4, .inl f2)), (s3, .inl (cs3, 64, .inl f3_c))] H → va_D A [(rd, .inr (6, [.ref tp, .int ra_c, .int rv_c])), (tp, .inr (8, [.ref by_, .int tl])), (by_, .inl (cb, 240, .inl tb)), (sc, .inr (7, [.ref s1, .ref s2, .ref s3, .int ds_c, .int sh])), (s1, .inl (cs1, 256, .inl f1)), (s2, .inl (cs2, 4, .inl f2)), (s3, .inl (cs3, 64, .inl f3_c))] → va_S A s.heap H locs → lv_has ls 4 [(2, .int x2_15), (0, .ref rd), (1, .ref sc)] → W p l e (headSpec (.code yX6_readScript cX6_readScript 4 (some .int) :: wA) ({ frames := 4, cells := 0, slots := 0, locals := 91 })).room s m #[.ref rd, .ref sc] below meth c H locs 0 0 (MQ below (va_Qi (fun (r : Int32) (_ : Unit) => r = o.1 ∧ True) (fun (_ : Unit) t => q_B (dC, dI) A [(rd, .inr (6, [.ref tp, .int (o.2.1), .int (o.2.2.1)])), (tp, .inr (8, [.ref by_, .int tl])), (by_, .inl (cb, 240, .inl tb)), (sc, .inr (7, [.ref s1, .ref s2, .ref s3, .int (o.2.2.2.2), .int sh])), (s1, .inl (cs1, 256, .inl f1)), (s2, .inl (cs2, 4, .inl f2)), (s3, .inl (cs3, 64, .inl (o.2.2.2.1)))] [(cb, .char), (cs1, .int), (cs2, .int), (cs3, .int)] t) A) #[.ref rd, .ref sc] s 0 0 A) (F0 m 15 ls []) := by
    intro n_15
    induction n_15 with
    | zero =>
      intro x2_15 ra_c rv_c f3_c ds_c H locs ls hG
      exact q_no hG
    | succ n_15 ih_15 =>
      intro x2_15 ra_c rv_c f3_c ds_c H locs ls hG hP hD hS hl
      unfold FL_X6_readScript_15 at hG
      refine lv_iload_n hx hb dX6_readScript_15 rfl (lv_at hl 0 rfl) ?_
      refine lv_bipush (v := 16) hx hb dX6_readScript_16 (by decide) ?_
      refine lv_icmp_ge (tgt := 163) hx hb dX6_readScript_18 (by decide) (fun c_3 => ?_) (fun c_3 => ?_)
      · have hG := q_ifp c_3 hG
        refine lv_aload_n hx hb dX6_readScript_163 rfl (lv_at hl 1 rfl) ?_
        refine va_get (D := (dC, dI)) (ci := 6) (v := .int ra_c) (C := RX6) (T := TX6) (N := 3) hx hb hts iA_6 hown hK hP 0 rfl rfl 1 (by decide) (hts (.fieldLink RX6 9 "HubTree$Reader" "at" "I") (List.mem_cons_of_mem _ m_67)) (fun _ h9 => h9) rfl dX6_readScript_164 ?_
        obtain rfl := Option.some.inj hG
        have hP9 := hP.sub (ws' := [(rd, .inr (6, [.ref tp, .int ra_c, .int rv_c])), (tp, .inr (8, [.ref by_, .int tl])), (by_, .inl (cb, 240, .inl tb)), (sc, .inr (7, [.ref s1, .ref s2, .ref s3, .int ds_c, .int sh])), (s1, .inl (cs1, 256, .inl f1)), (s2, .inl (cs2, 4, .inl f2)), (s3, .inl (cs3, 64, .inl f3_c))]) [0, 1, 2, 3, 4, 5, 6] rfl
        have hD9 := hD.sub (ws' := [(rd, .inr (6, [.ref tp, .int ra_c, .int rv_c])), (tp, .inr (8, [.ref by_, .int tl])), (by_, .inl (cb, 240, .inl tb)), (sc, .inr (7, [.ref s1, .ref s2, .ref s3, .int ds_c, .int sh])), (s1, .inl (cs1, 256, .inl f1)), (s2, .inl (cs2, 4, .inl f2)), (s3, .inl (cs3, 64, .inl f3_c))]) [0, 1, 2, 3, 4, 5, 6] (by decide) rfl
        have hK9 := hK.sub (tys' := [(cb, .char), (cs1, .int), (cs2, .int), (cs3, .int)]) [0, 1, 2, 3] rfl
        exact W.iret (v := ra_c) hx hb hr (fun t ht hW => ⟨⟨ra_c, (), rfl, ⟨rfl, trivial⟩, by rw [ht]; exact hP9, va_K.moved hW.alike hK9, hD9⟩, hS.F ht⟩) hS.2.2 dX6_readScript_167
      · have hG := q_ifn c_3 hG
        refine lv_aload_n hx hb dX6_readScript_21 rfl (lv_at hl 1 rfl) ?_
        obtain ⟨o_4, r_5, hG⟩ := q_bi hG
        refine q_gov2 (wr := [(sc, .inr (7, [.ref s1, .ref s2, .ref s3, .int ds_c, .int sh])), (s1, .inl (cs1, 256, .inl f1)), (s2, .inl (cs2, 4, .inl f2)), (s3, .inl (cs3, 64, .inl f3_c))]) (va_runV (As := []) (rest := []) ⟨hx, hb, hml, hown, hts⟩ (c_X6_skipBlanks l dC dI rd tp by_ cb tb tl ra_c rv_c (va_A [(rd, .inr (6, [.ref tp, .int ra_c, .int rv_c])), (tp, .inr (8, [.ref by_, .int tl])), (by_, .inl (cb, 240, .inl tb))] H.size) o_4 r_5) (cwV 0 hts (q_gV m_180 m_181 m_182 m_20 m_183) rfl rfl rfl hdV_yX6_skipBlanks_0 ⟨Nat.le_of_ble_eq_true rfl, Nat.le_of_ble_eq_true rfl⟩) (q_preWV hK hP hD (q := (RX6, TX6, 3)) (ci := 6) (q0 := 0) rfl rfl [0, 1, 2] (by decide) rfl rfl [0] rfl) rfl rfl hl.1 rfl (lv_room (Nat.le_of_ble_eq_true rfl)) dX6_readScript_22 ⟨Nat.le_of_ble_eq_true rfl, Nat.le_of_ble_eq_true rfl⟩) hK hP hD hS hA [0, 1, 2] [3, 4, 5, 6] rfl rfl (by decide) (by decide) (fun _ H locs _ hP hD hK9 hS => ?_)
        have hP : va_P (dC, dI) vwCl [(rd, .inr (6, [.ref tp, .int (o_4), .int rv_c])), (tp, .inr (8, [.ref by_, .int tl])), (by_, .inl (cb, 240, .inl tb)), (sc, .inr (7, [.ref s1, .ref s2, .ref s3, .int ds_c, .int sh])), (s1, .inl (cs1, 256, .inl f1)), (s2, .inl (cs2, 4, .inl f2)), (s3, .inl (cs3, 64, .inl f3_c))] H := hP.sub [4, 5, 6, 0, 1, 2, 3] rfl
        have hD : va_D A [(rd, .inr (6, [.ref tp, .int (o_4), .int rv_c])), (tp, .inr (8, [.ref by_, .int tl])), (by_, .inl (cb, 240, .inl tb)), (sc, .inr (7, [.ref s1, .ref s2, .ref s3, .int ds_c, .int sh])), (s1, .inl (cs1, 256, .inl f1)), (s2, .inl (cs2, 4, .inl f2)), (s3, .inl (cs3, 64, .inl f3_c))] := hD.sub [4, 5, 6, 0, 1, 2, 3] (by decide) rfl
        refine lv_aload_n hx hb dX6_readScript_25 rfl (lv_at hl 1 rfl) ?_
        refine va_get (D := (dC, dI)) (ci := 6) (v := .int (o_4)) (C := RX6) (T := TX6) (N := 3) hx hb hts iA_6 hown hK hP 0 rfl rfl 1 (by decide) (hts (.fieldLink RX6 9 "HubTree$Reader" "at" "I") (List.mem_cons_of_mem _ m_67)) (fun _ h9 => h9) rfl dX6_readScript_26 ?_
        refine lv_aload_n hx hb dX6_readScript_29 rfl (lv_at hl 1 rfl) ?_
        refine va_get (D := (dC, dI)) (ci := 6) (v := .ref tp) (C := RX6) (T := TX6) (N := 3) hx hb hts iA_6 hown hK hP 0 rfl rfl 0 (by decide) (hts (.fieldLink RX6 18 "HubTree$Reader" "tape" "LHubTree$Tape;") (List.mem_cons_of_mem _ m_69)) (fun _ h9 => h9) rfl dX6_readScript_30 ?_
        refine va_get (D := (dC, dI)) (ci := 8) (v := .int tl) (C := RX8) (T := TX8) (N := 2) hx hb hts iA_8 hown hK hP 1 rfl rfl 1 (by decide) (hts (.fieldLink RX6 67 "HubTree$Tape" "length" "I") (List.mem_cons_of_mem _ m_171)) (fun _ h9 => h9) rfl dX6_readScript_33 ?_
        refine lv_icmp_ge (tgt := 59) hx hb dX6_readScript_36 (by decide) (fun c_6 => ?_) (fun c_6 => ?_)
        · have hG := q_ifp c_6 hG
          refine lv_iconst (v := (-1)) hx hb dX6_readScript_59 (by decide) ?_
          refine lv_istore_n (lv' := [(3, .int (-1)), (2, .int x2_15), (0, .ref rd), (1, .ref sc)]) hx hb dX6_readScript_60 rfl hl (by decide) rfl (fun ls hl => ?_)
          refine lv_iload_n hx hb dX6_readScript_61 rfl (lv_at hl 0 rfl) ?_
          refine lv_if_ge (tgt := 70) hx hb dX6_readScript_62 (by decide) (fun c_7 => ?_) (fun c_7 => ?_)
          · exact absurd c_7 (by decide)
          refine lv_aload_n hx hb dX6_readScript_65 rfl (lv_at hl 2 rfl) ?_
          refine va_get (D := (dC, dI)) (ci := 6) (v := .int (o_4)) (C := RX6) (T := TX6) (N := 3) hx hb hts iA_6 hown hK hP 0 rfl rfl 1 (by decide) (hts (.fieldLink RX6 9 "HubTree$Reader" "at" "I") (List.mem_cons_of_mem _ m_67)) (fun _ h9 => h9) rfl dX6_readScript_66 ?_
          obtain rfl := Option.some.inj hG
          have hP9 := hP.sub (ws' := [(rd, .inr (6, [.ref tp, .int (o_4), .int rv_c])), (tp, .inr (8, [.ref by_, .int tl])), (by_, .inl (cb, 240, .inl tb)), (sc, .inr (7, [.ref s1, .ref s2, .ref s3, .int ds_c, .int sh])), (s1, .inl (cs1, 256, .inl f1)), (s2, .inl (cs2, 4, .inl f2)), (s3, .inl (cs3, 64, .inl f3_c))]) [0, 1, 2, 3, 4, 5, 6] rfl
          have hD9 := hD.sub (ws' := [(rd, .inr (6, [.ref tp, .int (o_4), .int rv_c])), (tp, .inr (8, [.ref by_, .int tl])), (by_, .inl (cb, 240, .inl tb)), (sc, .inr (7, [.ref s1, .ref s2, .ref s3, .int ds_c, .int sh])), (s1, .inl (cs1, 256, .inl f1)), (s2, .inl (cs2, 4, .inl f2)), (s3, .inl (cs3, 64, .inl f3_c))]) [0, 1, 2, 3, 4, 5, 6] (by decide) rfl
          have hK9 := hK.sub (tys' := [(cb, .char), (cs1, .int), (cs2, .int), (cs3, .int)]) [0, 1, 2, 3] rfl
          exact W.iret (v := (o_4)) hx hb hr (fun t ht hW => ⟨⟨(o_4), (), rfl, ⟨rfl, trivial⟩, by rw [ht]; exact hP9, va_K.moved hW.alike hK9, hD9⟩, hS.F ht⟩) hS.2.2 dX6_readScript_69
        · have hG := q_ifn c_6 hG
          refine va_ldcS hx hb hown (q_S_r2 hE) dX6_readScript_39 ?_
          refine lv_aload_n hx hb dX6_readScript_41 rfl (lv_at hl 1 rfl) ?_
          refine va_get (D := (dC, dI)) (ci := 6) (v := .ref tp) (C := RX6) (T := TX6) (N := 3) hx hb hts iA_6 hown hK hP 0 rfl rfl 0 (by decide) (hts (.fieldLink RX6 18 "HubTree$Reader" "tape" "LHubTree$Tape;") (List.mem_cons_of_mem _ m_69)) (fun _ h9 => h9) rfl dX6_readScript_42 ?_
          refine va_get (D := (dC, dI)) (ci := 8) (v := .ref by_) (C := RX8) (T := TX8) (N := 2) hx hb hts iA_8 hown hK hP 1 rfl rfl 0 (by decide) (hts (.fieldLink RX6 81 "HubTree$Tape" "bytes" "[C") (List.mem_cons_of_mem _ m_184)) (fun _ h9 => h9) rfl dX6_readScript_45 ?_
          refine lv_aload_n hx hb dX6_readScript_48 rfl (lv_at hl 1 rfl) ?_
          refine va_get (D := (dC, dI)) (ci := 6) (v := .int (o_4)) (C := RX6) (T := TX6) (N := 3) hx hb hts iA_6 hown hK hP 0 rfl rfl 1 (by decide) (hts (.fieldLink RX6 9 "HubTree$Reader" "at" "I") (List.mem_cons_of_mem _ m_67)) (fun _ h9 => h9) rfl dX6_readScript_49 ?_
          obtain ⟨h_8, hG⟩ := q_ix hG
          refine va_cald hx hb hK hP 2 0 rfl rfl (i := (o_4)) h_8 dX6_readScript_52 ?_
          refine q_top (y := (tb (o_4).toNatClampNeg)) rfl ?_
          obtain ⟨o_9, r_10, hG⟩ := q_bi hG
          refine q_goi (v := o_9) (va_runV (As := [.int (tb (o_4).toNatClampNeg)]) (rest := []) ⟨hx, hb, hml, hown, hts⟩ (c_J0_indexOf_2 l dC dI ts ks kv (tb (o_4).toNatClampNeg) o_9 r_10) (cwV 1 hts (q_gV m_205 m_206 m_207 m_196 m_208) rfl rfl rfl hdV_yJ0_indexOf_0f7a4_1 ⟨Nat.le_of_ble_eq_true rfl, Nat.le_of_ble_eq_true rfl⟩) (q_preVEs hK hP (vk_recv (i := 2) (q_S_s hE) (by decide) hS) [] rfl [] rfl q_S_bl (q_S_give hE hS (fun _ h => h.elim))) rfl rfl hl.1 rfl (lv_room (Nat.le_of_ble_eq_true rfl)) dX6_readScript_53 ⟨Nat.le_of_ble_eq_true rfl, Nat.le_of_ble_eq_true rfl⟩) hP hS (fun H locs hP hS => ?_)
          refine lv_goto (tgt := 60) hx hb dX6_readScript_56 (by decide) ?_
          refine lv_istore_n (lv' := [(3, .int o_9), (2, .int x2_15), (0, .ref rd), (1, .ref sc)]) hx hb dX6_readScript_60 rfl hl (by decide) rfl (fun ls hl => ?_)
          refine lv_iload_n hx hb dX6_readScript_61 rfl (lv_at hl 0 rfl) ?_
          refine lv_if_ge (tgt := 70) hx hb dX6_readScript_62 (by decide) (fun c_11 => ?_) (fun c_11 => ?_)
          · have hG := q_ifp c_11 hG
            refine lv_aload_n hx hb dX6_readScript_70 rfl (lv_at hl 2 rfl) ?_
            refine lv_dup hx hb dX6_readScript_71 rfl ?_
            refine va_get (D := (dC, dI)) (ci := 6) (v := .int (o_4)) (C := RX6) (T := TX6) (N := 3) hx hb hts iA_6 hown hK hP 0 rfl rfl 1 (by decide) (hts (.fieldLink RX6 9 "HubTree$Reader" "at" "I") (List.mem_cons_of_mem _ m_67)) (fun _ h9 => h9) rfl dX6_readScript_72 ?_
            refine lv_iconst (v := 1) hx hb dX6_readScript_75 (by decide) ?_
            refine lv_iadd hx hb dX6_readScript_76 ?_
            refine va_put (D := (dC, dI)) (ci := 6) (v := .int ((o_4) + 1)) (ty := .int) (C := RX6) (T := TX6) (N := 3) hx hb hts iA_6 tyX6 tyX6_ok nmX6 hown hK hP hD hS 0 rfl rfl 1 (by decide) (hts (.fieldLink RX6 9 "HubTree$Reader" "at" "I") (List.mem_cons_of_mem _ m_67)) (fun _ h9 => h9) rfl (by decide +kernel) rfl rfl (Nat.le_of_ble_eq_true rfl) dX6_readScript_77 (fun H locs hP hD hS => ?_)
            have hP : va_P (dC, dI) vwCl [(rd, .inr (6, [.ref tp, .int ((o_4) + 1), .int rv_c])), (tp, .inr (8, [.ref by_, .int tl])), (by_, .inl (cb, 240, .inl tb)), (sc, .inr (7, [.ref s1, .ref s2, .ref s3, .int ds_c, .int sh])), (s1, .inl (cs1, 256, .inl f1)), (s2, .inl (cs2, 4, .inl f2)), (s3, .inl (cs3, 64, .inl f3_c))] H := hP
            have hD : va_D A [(rd, .inr (6, [.ref tp, .int ((o_4) + 1), .int rv_c])), (tp, .inr (8, [.ref by_, .int tl])), (by_, .inl (cb, 240, .inl tb)), (sc, .inr (7, [.ref s1, .ref s2, .ref s3, .int ds_c, .int sh])), (s1, .inl (cs1, 256, .inl f1)), (s2, .inl (cs2, 4, .inl f2)), (s3, .inl (cs3, 64, .inl f3_c))] := hD
            refine lv_aload_n hx hb dX6_readScript_80 rfl (lv_at hl 2 rfl) ?_
            refine lv_iload_n hx hb dX6_readScript_81 rfl (lv_at hl 0 rfl) ?_
            refine lv_aload_n hx hb dX6_readScript_82 rfl (lv_at hl 3 rfl) ?_
            refine va_get (D := (dC, dI)) (ci := 7) (v := .ref s3) (C := RX7) (T := TX7) (N := 5) hx hb hts iA_7 hown hK hP 3 rfl rfl 2 (by decide) (hts (.fieldLink RX6 93 "HubTree$Scripts" "draft" "[I") (List.mem_cons_of_mem _ m_307)) (fun _ h9 => h9) rfl dX6_readScript_83 ?_
            refine lv_iload_n hx hb dX6_readScript_86 rfl (lv_at hl 1 rfl) ?_
            refine lv_iconst (v := 4) hx hb dX6_readScript_87 (by decide) ?_
            refine lv_imul hx hb dX6_readScript_88 ?_
            obtain ⟨o_12, r_13, hG⟩ := q_bi hG
            refine q_goi2 (v := o_12.1) (wr := [(sc, .inr (7, [.ref s1, .ref s2, .ref s3, .int ds_c, .int sh])), (s1, .inl (cs1, 256, .inl f1)), (s2, .inl (cs2, 4, .inl f2))]) (va_runV (As := [.int o_9, .ref s3, .int (x2_15 * 4)]) (rest := []) ⟨hx, hb, hml, hown, hts⟩ (c_X6_readStep l dC dI ts ks kv rd tp by_ cb tb tl ((o_4) + 1) rv_c s3 cs3 f3_c o_9 (x2_15 * 4) (va_A [(rd, .inr (6, [.ref tp, .int ((o_4) + 1), .int rv_c])), (tp, .inr (8, [.ref by_, .int tl])), (by_, .inl (cb, 240, .inl tb)), (s3, .inl (cs3, 64, .inl f3_c))] H.size) o_12 r_13) (cwV 3 hts (q_gV m_313 m_314 m_315 m_20 m_316) rfl rfl rfl hdV_yX6_readStep_3 ⟨Nat.le_of_ble_eq_true rfl, Nat.le_of_ble_eq_true rfl⟩) (q_preWVE hK hP hD (q := (RX6, TX6, 3)) (ci := 6) (q0 := 0) rfl rfl [0, 1, 2, 6] (by decide) rfl rfl [0, 3] rfl q_S_bl (q_S_give hE hS (va_free (wc := [(rd, .inr (6, [.ref tp, .int ((o_4) + 1), .int rv_c])), (tp, .inr (8, [.ref by_, .int tl])), (by_, .inl (cb, 240, .inl tb)), (s3, .inl (cs3, 64, .inl f3_c))]) hD hS hA [0, 1, 2, 6] rfl))) rfl rfl hl.1 rfl (lv_room (Nat.le_of_ble_eq_true rfl)) dX6_readScript_89 ⟨Nat.le_of_ble_eq_true rfl, Nat.le_of_ble_eq_true rfl⟩) hK hP hD hS hA [0, 1, 2, 6] [3, 4, 5] rfl rfl (by decide) (by decide) (fun _ H locs _ hP hD hK9 hS => ?_)
            have hP : va_P (dC, dI) vwCl [(rd, .inr (6, [.ref tp, .int (o_12.2.1), .int (o_12.2.2.1)])), (tp, .inr (8, [.ref by_, .int tl])), (by_, .inl (cb, 240, .inl tb)), (sc, .inr (7, [.ref s1, .ref s2, .ref s3, .int ds_c, .int sh])), (s1, .inl (cs1, 256, .inl f1)), (s2, .inl (cs2, 4, .inl f2)), (s3, .inl (cs3, 64, .inl (o_12.2.2.2)))] H := hP.sub [3, 4, 5, 0, 1, 2, 6] rfl
            have hD : va_D A [(rd, .inr (6, [.ref tp, .int (o_12.2.1), .int (o_12.2.2.1)])), (tp, .inr (8, [.ref by_, .int tl])), (by_, .inl (cb, 240, .inl tb)), (sc, .inr (7, [.ref s1, .ref s2, .ref s3, .int ds_c, .int sh])), (s1, .inl (cs1, 256, .inl f1)), (s2, .inl (cs2, 4, .inl f2)), (s3, .inl (cs3, 64, .inl (o_12.2.2.2)))] := hD.sub [3, 4, 5, 0, 1, 2, 6] (by decide) rfl
            refine lv_if_ne (tgt := 100) hx hb dX6_readScript_92 (by decide) (fun c_14 => ?_) (fun c_14 => ?_)
            · have hG := q_ifn c_14 hG
              refine lv_aload_n hx hb dX6_readScript_100 rfl (lv_at hl 3 rfl) ?_
              refine lv_iload_n hx hb dX6_readScript_101 rfl (lv_at hl 1 rfl) ?_
              refine lv_iconst (v := 1) hx hb dX6_readScript_102 (by decide) ?_
              refine lv_iadd hx hb dX6_readScript_103 ?_
              refine va_put (D := (dC, dI)) (ci := 7) (v := .int (x2_15 + 1)) (ty := .int) (C := RX7) (T := TX7) (N := 5) hx hb hts iA_7 tyX7 tyX7_ok nmX7 hown hK hP hD hS 3 rfl rfl 3 (by decide) (hts (.fieldLink RX6 110 "HubTree$Scripts" "draftSteps" "I") (List.mem_cons_of_mem _ m_308)) (fun _ h9 => h9) rfl (by decide +kernel) rfl rfl (Nat.le_of_ble_eq_true rfl) dX6_readScript_104 (fun H locs hP hD hS => ?_)
              have hP : va_P (dC, dI) vwCl [(rd, .inr (6, [.ref tp, .int (o_12.2.1), .int (o_12.2.2.1)])), (tp, .inr (8, [.ref by_, .int tl])), (by_, .inl (cb, 240, .inl tb)), (sc, .inr (7, [.ref s1, .ref s2, .ref s3, .int (x2_15 + 1), .int sh])), (s1, .inl (cs1, 256, .inl f1)), (s2, .inl (cs2, 4, .inl f2)), (s3, .inl (cs3, 64, .inl (o_12.2.2.2)))] H := hP
              have hD : va_D A [(rd, .inr (6, [.ref tp, .int (o_12.2.1), .int (o_12.2.2.1)])), (tp, .inr (8, [.ref by_, .int tl])), (by_, .inl (cb, 240, .inl tb)), (sc, .inr (7, [.ref s1, .ref s2, .ref s3, .int (x2_15 + 1), .int sh])), (s1, .inl (cs1, 256, .inl f1)), (s2, .inl (cs2, 4, .inl f2)), (s3, .inl (cs3, 64, .inl (o_12.2.2.2)))] := hD
              refine lv_aload_n hx hb dX6_readScript_107 rfl (lv_at hl 2 rfl) ?_
              obtain ⟨o_15, r_16, hG⟩ := q_bi hG
              refine q_gov2 (wr := [(sc, .inr (7, [.ref s1, .ref s2, .ref s3, .int (x2_15 + 1), .int sh])), (s1, .inl (cs1, 256, .inl f1)), (s2, .inl (cs2, 4, .inl f2)), (s3, .inl (cs3, 64, .inl (o_12.2.2.2)))]) (va_runV (As := []) (rest := []) ⟨hx, hb, hml, hown, hts⟩ (c_X6_skipBlanks l dC dI rd tp by_ cb tb tl (o_12.2.1) (o_12.2.2.1) (va_A [(rd, .inr (6, [.ref tp, .int (o_12.2.1), .int (o_12.2.2.1)])), (tp, .inr (8, [.ref by_, .int tl])), (by_, .inl (cb, 240, .inl tb))] H.size) o_15 r_16) (cwV 0 hts (q_gV m_180 m_181 m_182 m_20 m_183) rfl rfl rfl hdV_yX6_skipBlanks_0 ⟨Nat.le_of_ble_eq_true rfl, Nat.le_of_ble_eq_true rfl⟩) (q_preWV hK hP hD (q := (RX6, TX6, 3)) (ci := 6) (q0 := 0) rfl rfl [0, 1, 2] (by decide) rfl rfl [0] rfl) rfl rfl hl.1 rfl (lv_room (Nat.le_of_ble_eq_true rfl)) dX6_readScript_108 ⟨Nat.le_of_ble_eq_true rfl, Nat.le_of_ble_eq_true rfl⟩) hK hP hD hS hA [0, 1, 2] [3, 4, 5, 6] rfl rfl (by decide) (by decide) (fun _ H locs _ hP hD hK9 hS => ?_)
              have hP : va_P (dC, dI) vwCl [(rd, .inr (6, [.ref tp, .int (o_15), .int (o_12.2.2.1)])), (tp, .inr (8, [.ref by_, .int tl])), (by_, .inl (cb, 240, .inl tb)), (sc, .inr (7, [.ref s1, .ref s2, .ref s3, .int (x2_15 + 1), .int sh])), (s1, .inl (cs1, 256, .inl f1)), (s2, .inl (cs2, 4, .inl f2)), (s3, .inl (cs3, 64, .inl (o_12.2.2.2)))] H := hP.sub [4, 5, 6, 0, 1, 2, 3] rfl
              have hD : va_D A [(rd, .inr (6, [.ref tp, .int (o_15), .int (o_12.2.2.1)])), (tp, .inr (8, [.ref by_, .int tl])), (by_, .inl (cb, 240, .inl tb)), (sc, .inr (7, [.ref s1, .ref s2, .ref s3, .int (x2_15 + 1), .int sh])), (s1, .inl (cs1, 256, .inl f1)), (s2, .inl (cs2, 4, .inl f2)), (s3, .inl (cs3, 64, .inl (o_12.2.2.2)))] := hD.sub [4, 5, 6, 0, 1, 2, 3] (by decide) rfl
              refine lv_aload_n hx hb dX6_readScript_111 rfl (lv_at hl 2 rfl) ?_
              refine va_get (D := (dC, dI)) (ci := 6) (v := .int (o_15)) (C := RX6) (T := TX6) (N := 3) hx hb hts iA_6 hown hK hP 0 rfl rfl 1 (by decide) (hts (.fieldLink RX6 9 "HubTree$Reader" "at" "I") (List.mem_cons_of_mem _ m_67)) (fun _ h9 => h9) rfl dX6_readScript_112 ?_
              refine lv_aload_n hx hb dX6_readScript_115 rfl (lv_at hl 2 rfl) ?_
              refine va_get (D := (dC, dI)) (ci := 6) (v := .ref tp) (C := RX6) (T := TX6) (N := 3) hx hb hts iA_6 hown hK hP 0 rfl rfl 0 (by decide) (hts (.fieldLink RX6 18 "HubTree$Reader" "tape" "LHubTree$Tape;") (List.mem_cons_of_mem _ m_69)) (fun _ h9 => h9) rfl dX6_readScript_116 ?_
              refine va_get (D := (dC, dI)) (ci := 8) (v := .int tl) (C := RX8) (T := TX8) (N := 2) hx hb hts iA_8 hown hK hP 1 rfl rfl 1 (by decide) (hts (.fieldLink RX6 67 "HubTree$Tape" "length" "I") (List.mem_cons_of_mem _ m_171)) (fun _ h9 => h9) rfl dX6_readScript_119 ?_
              refine lv_icmp_lt (tgt := 127) hx hb dX6_readScript_122 (by decide) (fun c_17 => ?_) (fun c_17 => ?_)
              · have hG := q_ifp c_17 hG
                refine lv_aload_n hx hb dX6_readScript_127 rfl (lv_at hl 2 rfl) ?_
                refine lv_bipush (v := 59) hx hb dX6_readScript_128 (by decide) ?_
                obtain ⟨o_18, r_19, hG⟩ := q_bi hG
                refine q_goi (v := o_18) (va_runV (As := [.int 59]) (rest := []) ⟨hx, hb, hml, hown, hts⟩ (c_X6_stands l dC dI rd tp by_ cb tb tl (o_15) (o_12.2.2.1) 59 o_18 r_19) (cwV 1 hts (q_gV m_185 m_186 m_187 m_20 m_188) rfl rfl rfl hdV_yX6_stands_1 ⟨Nat.le_of_ble_eq_true rfl, Nat.le_of_ble_eq_true rfl⟩) (q_preV hK hP (q := (RX6, TX6, 3)) (ci := 6) (q0 := 0) rfl rfl [0, 1, 2] rfl [0] rfl) rfl rfl hl.1 rfl (lv_room (Nat.le_of_ble_eq_true rfl)) dX6_readScript_130 ⟨Nat.le_of_ble_eq_true rfl, Nat.le_of_ble_eq_true rfl⟩) hP hS (fun H locs hP hS => ?_)
                refine lv_if_eq (tgt := 142) hx hb dX6_readScript_133 (by decide) (fun c_20 => ?_) (fun c_20 => ?_)
                · have hG := q_ifp c_20 hG
                  refine lv_aload_n hx hb dX6_readScript_142 rfl (lv_at hl 2 rfl) ?_
                  refine va_get (D := (dC, dI)) (ci := 6) (v := .int (o_15)) (C := RX6) (T := TX6) (N := 3) hx hb hts iA_6 hown hK hP 0 rfl rfl 1 (by decide) (hts (.fieldLink RX6 9 "HubTree$Reader" "at" "I") (List.mem_cons_of_mem _ m_67)) (fun _ h9 => h9) rfl dX6_readScript_143 ?_
                  obtain rfl := Option.some.inj hG
                  have hP9 := hP.sub (ws' := [(rd, .inr (6, [.ref tp, .int (o_15), .int (o_12.2.2.1)])), (tp, .inr (8, [.ref by_, .int tl])), (by_, .inl (cb, 240, .inl tb)), (sc, .inr (7, [.ref s1, .ref s2, .ref s3, .int (x2_15 + 1), .int sh])), (s1, .inl (cs1, 256, .inl f1)), (s2, .inl (cs2, 4, .inl f2)), (s3, .inl (cs3, 64, .inl (o_12.2.2.2)))]) [0, 1, 2, 3, 4, 5, 6] rfl
                  have hD9 := hD.sub (ws' := [(rd, .inr (6, [.ref tp, .int (o_15), .int (o_12.2.2.1)])), (tp, .inr (8, [.ref by_, .int tl])), (by_, .inl (cb, 240, .inl tb)), (sc, .inr (7, [.ref s1, .ref s2, .ref s3, .int (x2_15 + 1), .int sh])), (s1, .inl (cs1, 256, .inl f1)), (s2, .inl (cs2, 4, .inl f2)), (s3, .inl (cs3, 64, .inl (o_12.2.2.2)))]) [0, 1, 2, 3, 4, 5, 6] (by decide) rfl
                  have hK9 := hK.sub (tys' := [(cb, .char), (cs1, .int), (cs2, .int), (cs3, .int)]) [0, 1, 2, 3] rfl
                  exact W.iret (v := (o_15)) hx hb hr (fun t ht hW => ⟨⟨(o_15), (), rfl, ⟨rfl, trivial⟩, by rw [ht]; exact hP9, va_K.moved hW.alike hK9, hD9⟩, hS.F ht⟩) hS.2.2 dX6_readScript_146
                · have hG := q_ifn c_20 hG
                  refine lv_iload_n hx hb dX6_readScript_136 rfl (lv_at hl 1 rfl) ?_
                  refine lv_bipush (v := 15) hx hb dX6_readScript_137 (by decide) ?_
                  refine lv_icmp_ne (tgt := 147) hx hb dX6_readScript_139 (by decide) (fun c_21 => ?_) (fun c_21 => ?_)
                  · have hG := q_ifn c_21 hG
                    refine lv_aload_n hx hb dX6_readScript_147 rfl (lv_at hl 2 rfl) ?_
                    refine lv_dup hx hb dX6_readScript_148 rfl ?_
                    refine va_get (D := (dC, dI)) (ci := 6) (v := .int (o_15)) (C := RX6) (T := TX6) (N := 3) hx hb hts iA_6 hown hK hP 0 rfl rfl 1 (by decide) (hts (.fieldLink RX6 9 "HubTree$Reader" "at" "I") (List.mem_cons_of_mem _ m_67)) (fun _ h9 => h9) rfl dX6_readScript_149 ?_
                    refine lv_iconst (v := 1) hx hb dX6_readScript_152 (by decide) ?_
                    refine lv_iadd hx hb dX6_readScript_153 ?_
                    refine va_put (D := (dC, dI)) (ci := 6) (v := .int ((o_15) + 1)) (ty := .int) (C := RX6) (T := TX6) (N := 3) hx hb hts iA_6 tyX6 tyX6_ok nmX6 hown hK hP hD hS 0 rfl rfl 1 (by decide) (hts (.fieldLink RX6 9 "HubTree$Reader" "at" "I") (List.mem_cons_of_mem _ m_67)) (fun _ h9 => h9) rfl (by decide +kernel) rfl rfl (Nat.le_of_ble_eq_true rfl) dX6_readScript_154 (fun H locs hP hD hS => ?_)
                    have hP : va_P (dC, dI) vwCl [(rd, .inr (6, [.ref tp, .int ((o_15) + 1), .int (o_12.2.2.1)])), (tp, .inr (8, [.ref by_, .int tl])), (by_, .inl (cb, 240, .inl tb)), (sc, .inr (7, [.ref s1, .ref s2, .ref s3, .int (x2_15 + 1), .int sh])), (s1, .inl (cs1, 256, .inl f1)), (s2, .inl (cs2, 4, .inl f2)), (s3, .inl (cs3, 64, .inl (o_12.2.2.2)))] H := hP
                    have hD : va_D A [(rd, .inr (6, [.ref tp, .int ((o_15) + 1), .int (o_12.2.2.1)])), (tp, .inr (8, [.ref by_, .int tl])), (by_, .inl (cb, 240, .inl tb)), (sc, .inr (7, [.ref s1, .ref s2, .ref s3, .int (x2_15 + 1), .int sh])), (s1, .inl (cs1, 256, .inl f1)), (s2, .inl (cs2, 4, .inl f2)), (s3, .inl (cs3, 64, .inl (o_12.2.2.2)))] := hD
                    refine lv_iinc (v := (x2_15 + 1)) (lv' := [(2, .int (x2_15 + 1)), (3, .int o_9), (0, .ref rd), (1, .ref sc)]) hx hb dX6_readScript_157 hl (k := 1) rfl (rfl) (by decide) rfl (fun ls hl => ?_)
                    refine lv_goto (tgt := 15) hx hb dX6_readScript_160 (by decide) ?_
                    exact ih_15 (x2_15 + 1) ((o_15) + 1) (o_12.2.2.1) (o_12.2.2.2) (x2_15 + 1) H locs ls hG hP hD hS (lv_sub hl [0, 2, 3] rfl)
                  · have hG := q_ifp c_21 hG
                    refine lv_aload_n hx hb dX6_readScript_142 rfl (lv_at hl 2 rfl) ?_
                    refine va_get (D := (dC, dI)) (ci := 6) (v := .int (o_15)) (C := RX6) (T := TX6) (N := 3) hx hb hts iA_6 hown hK hP 0 rfl rfl 1 (by decide) (hts (.fieldLink RX6 9 "HubTree$Reader" "at" "I") (List.mem_cons_of_mem _ m_67)) (fun _ h9 => h9) rfl dX6_readScript_143 ?_
                    obtain rfl := Option.some.inj hG
                    have hP9 := hP.sub (ws' := [(rd, .inr (6, [.ref tp, .int (o_15), .int (o_12.2.2.1)])), (tp, .inr (8, [.ref by_, .int tl])), (by_, .inl (cb, 240, .inl tb)), (sc, .inr (7, [.ref s1, .ref s2, .ref s3, .int (x2_15 + 1), .int sh])), (s1, .inl (cs1, 256, .inl f1)), (s2, .inl (cs2, 4, .inl f2)), (s3, .inl (cs3, 64, .inl (o_12.2.2.2)))]) [0, 1, 2, 3, 4, 5, 6] rfl
                    have hD9 := hD.sub (ws' := [(rd, .inr (6, [.ref tp, .int (o_15), .int (o_12.2.2.1)])), (tp, .inr (8, [.ref by_, .int tl])), (by_, .inl (cb, 240, .inl tb)), (sc, .inr (7, [.ref s1, .ref s2, .ref s3, .int (x2_15 + 1), .int sh])), (s1, .inl (cs1, 256, .inl f1)), (s2, .inl (cs2, 4, .inl f2)), (s3, .inl (cs3, 64, .inl (o_12.2.2.2)))]) [0, 1, 2, 3, 4, 5, 6] (by decide) rfl
                    have hK9 := hK.sub (tys' := [(cb, .char), (cs1, .int), (cs2, .int), (cs3, .int)]) [0, 1, 2, 3] rfl
                    exact W.iret (v := (o_15)) hx hb hr (fun t ht hW => ⟨⟨(o_15), (), rfl, ⟨rfl, trivial⟩, by rw [ht]; exact hP9, va_K.moved hW.alike hK9, hD9⟩, hS.F ht⟩) hS.2.2 dX6_readScript_146
              · have hG := q_ifn c_17 hG
                refine lv_iconst (v := (-1)) hx hb dX6_readScript_125 (by decide) ?_
                obtain rfl := Option.some.inj hG
                have hP9 := hP.sub (ws' := [(rd, .inr (6, [.ref tp, .int (o_15), .int (o_12.2.2.1)])), (tp, .inr (8, [.ref by_, .int tl])), (by_, .inl (cb, 240, .inl tb)), (sc, .inr (7, [.ref s1, .ref s2, .ref s3, .int (x2_15 + 1), .int sh])), (s1, .inl (cs1, 256, .inl f1)), (s2, .inl (cs2, 4, .inl f2)), (s3, .inl (cs3, 64, .inl (o_12.2.2.2)))]) [0, 1, 2, 3, 4, 5, 6] rfl
                have hD9 := hD.sub (ws' := [(rd, .inr (6, [.ref tp, .int (o_15), .int (o_12.2.2.1)])), (tp, .inr (8, [.ref by_, .int tl])), (by_, .inl (cb, 240, .inl tb)), (sc, .inr (7, [.ref s1, .ref s2, .ref s3, .int (x2_15 + 1), .int sh])), (s1, .inl (cs1, 256, .inl f1)), (s2, .inl (cs2, 4, .inl f2)), (s3, .inl (cs3, 64, .inl (o_12.2.2.2)))]) [0, 1, 2, 3, 4, 5, 6] (by decide) rfl
                have hK9 := hK.sub (tys' := [(cb, .char), (cs1, .int), (cs2, .int), (cs3, .int)]) [0, 1, 2, 3] rfl
                exact W.iret (v := (-1)) hx hb hr (fun t ht hW => ⟨⟨(-1), (), rfl, ⟨rfl, trivial⟩, by rw [ht]; exact hP9, va_K.moved hW.alike hK9, hD9⟩, hS.F ht⟩) hS.2.2 dX6_readScript_126
            · have hG := q_ifp c_14 hG
              refine lv_aload_n hx hb dX6_readScript_95 rfl (lv_at hl 2 rfl) ?_
              refine va_get (D := (dC, dI)) (ci := 6) (v := .int (o_12.2.1)) (C := RX6) (T := TX6) (N := 3) hx hb hts iA_6 hown hK hP 0 rfl rfl 1 (by decide) (hts (.fieldLink RX6 9 "HubTree$Reader" "at" "I") (List.mem_cons_of_mem _ m_67)) (fun _ h9 => h9) rfl dX6_readScript_96 ?_
              obtain rfl := Option.some.inj hG
              have hP9 := hP.sub (ws' := [(rd, .inr (6, [.ref tp, .int (o_12.2.1), .int (o_12.2.2.1)])), (tp, .inr (8, [.ref by_, .int tl])), (by_, .inl (cb, 240, .inl tb)), (sc, .inr (7, [.ref s1, .ref s2, .ref s3, .int ds_c, .int sh])), (s1, .inl (cs1, 256, .inl f1)), (s2, .inl (cs2, 4, .inl f2)), (s3, .inl (cs3, 64, .inl (o_12.2.2.2)))]) [0, 1, 2, 3, 4, 5, 6] rfl
              have hD9 := hD.sub (ws' := [(rd, .inr (6, [.ref tp, .int (o_12.2.1), .int (o_12.2.2.1)])), (tp, .inr (8, [.ref by_, .int tl])), (by_, .inl (cb, 240, .inl tb)), (sc, .inr (7, [.ref s1, .ref s2, .ref s3, .int ds_c, .int sh])), (s1, .inl (cs1, 256, .inl f1)), (s2, .inl (cs2, 4, .inl f2)), (s3, .inl (cs3, 64, .inl (o_12.2.2.2)))]) [0, 1, 2, 3, 4, 5, 6] (by decide) rfl
              have hK9 := hK.sub (tys' := [(cb, .char), (cs1, .int), (cs2, .int), (cs3, .int)]) [0, 1, 2, 3] rfl
              exact W.iret (v := (o_12.2.1)) hx hb hr (fun t ht hW => ⟨⟨(o_12.2.1), (), rfl, ⟨rfl, trivial⟩, by rw [ht]; exact hP9, va_K.moved hW.alike hK9, hD9⟩, hS.F ht⟩) hS.2.2 dX6_readScript_99
          · have hG := q_ifn c_11 hG
            refine lv_aload_n hx hb dX6_readScript_65 rfl (lv_at hl 2 rfl) ?_
            refine va_get (D := (dC, dI)) (ci := 6) (v := .int (o_4)) (C := RX6) (T := TX6) (N := 3) hx hb hts iA_6 hown hK hP 0 rfl rfl 1 (by decide) (hts (.fieldLink RX6 9 "HubTree$Reader" "at" "I") (List.mem_cons_of_mem _ m_67)) (fun _ h9 => h9) rfl dX6_readScript_66 ?_
            obtain rfl := Option.some.inj hG
            have hP9 := hP.sub (ws' := [(rd, .inr (6, [.ref tp, .int (o_4), .int rv_c])), (tp, .inr (8, [.ref by_, .int tl])), (by_, .inl (cb, 240, .inl tb)), (sc, .inr (7, [.ref s1, .ref s2, .ref s3, .int ds_c, .int sh])), (s1, .inl (cs1, 256, .inl f1)), (s2, .inl (cs2, 4, .inl f2)), (s3, .inl (cs3, 64, .inl f3_c))]) [0, 1, 2, 3, 4, 5, 6] rfl
            have hD9 := hD.sub (ws' := [(rd, .inr (6, [.ref tp, .int (o_4), .int rv_c])), (tp, .inr (8, [.ref by_, .int tl])), (by_, .inl (cb, 240, .inl tb)), (sc, .inr (7, [.ref s1, .ref s2, .ref s3, .int ds_c, .int sh])), (s1, .inl (cs1, 256, .inl f1)), (s2, .inl (cs2, 4, .inl f2)), (s3, .inl (cs3, 64, .inl f3_c))]) [0, 1, 2, 3, 4, 5, 6] (by decide) rfl
            have hK9 := hK.sub (tys' := [(cb, .char), (cs1, .int), (cs2, .int), (cs3, .int)]) [0, 1, 2, 3] rfl
            exact W.iret (v := (o_4)) hx hb hr (fun t ht hW => ⟨⟨(o_4), (), rfl, ⟨rfl, trivial⟩, by rw [ht]; exact hP9, va_K.moved hW.alike hK9, hD9⟩, hS.F ht⟩) hS.2.2 dX6_readScript_69
  exact L_15 1000 0 0 rv (o_1) ds H locs ls hG hP hD hS hl
