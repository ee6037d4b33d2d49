theorem dJ6_bitCount_0f7a4_0 : decode cJ6_bitCount_0f7a4 0 = .ok (.iload_n 0, 1) := q_o26 (by decide +kernel)
theorem dJ6_bitCount_0f7a4_1 : decode cJ6_bitCount_0f7a4 1 = .ok (.iload_n 0, 1) := q_o26 (by decide +kernel)
theorem dJ6_bitCount_0f7a4_2 : decode cJ6_bitCount_0f7a4 2 = .ok (.iconst 1, 1) := q_o4 (by decide +kernel)
theorem dJ6_bitCount_0f7a4_3 : decode cJ6_bitCount_0f7a4 3 = .ok (.iushr, 1) := by decide +kernel
theorem dJ6_bitCount_0f7a4_4 : decode cJ6_bitCount_0f7a4 4 = .ok (.ldc_w 265, 3) := by decide +kernel
theorem dJ6_bitCount_0f7a4_7 : decode cJ6_bitCount_0f7a4 7 = .ok (.iand, 1) := q_o126 (by decide +kernel)
theorem dJ6_bitCount_0f7a4_8 : decode cJ6_bitCount_0f7a4 8 = .ok (.isub, 1) := q_o100 (by decide +kernel)
theorem dJ6_bitCount_0f7a4_9 : decode cJ6_bitCount_0f7a4 9 = .ok (.istore_n 0, 1) := by decide +kernel
theorem dJ6_bitCount_0f7a4_10 : decode cJ6_bitCount_0f7a4 10 = .ok (.iload_n 0, 1) := q_o26 (by decide +kernel)
theorem dJ6_bitCount_0f7a4_11 : decode cJ6_bitCount_0f7a4 11 = .ok (.ldc_w 266, 3) := by decide +kernel
theorem dJ6_bitCount_0f7a4_14 : decode cJ6_bitCount_0f7a4 14 = .ok (.iand, 1) := q_o126 (by decide +kernel)
theorem dJ6_bitCount_0f7a4_15 : decode cJ6_bitCount_0f7a4 15 = .ok (.iload_n 0, 1) := q_o26 (by decide +kernel)
theorem dJ6_bitCount_0f7a4_16 : decode cJ6_bitCount_0f7a4 16 = .ok (.iconst 2, 1) := q_o5 (by decide +kernel)
theorem dJ6_bitCount_0f7a4_17 : decode cJ6_bitCount_0f7a4 17 = .ok (.iushr, 1) := by decide +kernel
theorem dJ6_bitCount_0f7a4_18 : decode cJ6_bitCount_0f7a4 18 = .ok (.ldc_w 266, 3) := by decide +kernel
theorem dJ6_bitCount_0f7a4_21 : decode cJ6_bitCount_0f7a4 21 = .ok (.iand, 1) := q_o126 (by decide +kernel)
theorem dJ6_bitCount_0f7a4_22 : decode cJ6_bitCount_0f7a4 22 = .ok (.iadd, 1) := q_o96 (by decide +kernel)
theorem dJ6_bitCount_0f7a4_23 : decode cJ6_bitCount_0f7a4 23 = .ok (.istore_n 0, 1) := by decide +kernel
theorem dJ6_bitCount_0f7a4_24 : decode cJ6_bitCount_0f7a4 24 = .ok (.iload_n 0, 1) := q_o26 (by decide +kernel)
theorem dJ6_bitCount_0f7a4_25 : decode cJ6_bitCount_0f7a4 25 = .ok (.iload_n 0, 1) := q_o26 (by decide +kernel)
theorem dJ6_bitCount_0f7a4_26 : decode cJ6_bitCount_0f7a4 26 = .ok (.iconst 4, 1) := q_o7 (by decide +kernel)
theorem dJ6_bitCount_0f7a4_27 : decode cJ6_bitCount_0f7a4 27 = .ok (.iushr, 1) := by decide +kernel
theorem dJ6_bitCount_0f7a4_28 : decode cJ6_bitCount_0f7a4 28 = .ok (.iadd, 1) := q_o96 (by decide +kernel)
theorem dJ6_bitCount_0f7a4_29 : decode cJ6_bitCount_0f7a4 29 = .ok (.ldc_w 267, 3) := by decide +kernel
theorem dJ6_bitCount_0f7a4_32 : decode cJ6_bitCount_0f7a4 32 = .ok (.iand, 1) := q_o126 (by decide +kernel)
theorem dJ6_bitCount_0f7a4_33 : decode cJ6_bitCount_0f7a4 33 = .ok (.istore_n 0, 1) := by decide +kernel
theorem dJ6_bitCount_0f7a4_34 : decode cJ6_bitCount_0f7a4 34 = .ok (.iload_n 0, 1) := q_o26 (by decide +kernel)
theorem dJ6_bitCount_0f7a4_35 : decode cJ6_bitCount_0f7a4 35 = .ok (.iload_n 0, 1) := q_o26 (by decide +kernel)
theorem dJ6_bitCount_0f7a4_36 : decode cJ6_bitCount_0f7a4 36 = .ok (.bipush 8, 2) := q_o16 (a := 8) (by decide +kernel) rfl
theorem dJ6_bitCount_0f7a4_38 : decode cJ6_bitCount_0f7a4 38 = .ok (.iushr, 1) := by decide +kernel
theorem dJ6_bitCount_0f7a4_39 : decode cJ6_bitCount_0f7a4 39 = .ok (.iadd, 1) := q_o96 (by decide +kernel)
theorem dJ6_bitCount_0f7a4_40 : decode cJ6_bitCount_0f7a4 40 = .ok (.istore_n 0, 1) := by decide +kernel
theorem dJ6_bitCount_0f7a4_41 : decode cJ6_bitCount_0f7a4 41 = .ok (.iload_n 0, 1) := q_o26 (by decide +kernel)
theorem dJ6_bitCount_0f7a4_42 : decode cJ6_bitCount_0f7a4 42 = .ok (.iload_n 0, 1) := q_o26 (by decide +kernel)
theorem dJ6_bitCount_0f7a4_43 : decode cJ6_bitCount_0f7a4 43 = .ok (.bipush 16, 2) := q_o16 (a := 16) (by decide +kernel) rfl
theorem dJ6_bitCount_0f7a4_45 : decode cJ6_bitCount_0f7a4 45 = .ok (.iushr, 1) := by decide +kernel
theorem dJ6_bitCount_0f7a4_46 : decode cJ6_bitCount_0f7a4 46 = .ok (.iadd, 1) := q_o96 (by decide +kernel)
theorem dJ6_bitCount_0f7a4_47 : decode cJ6_bitCount_0f7a4 47 = .ok (.istore_n 0, 1) := by decide +kernel
theorem dJ6_bitCount_0f7a4_48 : decode cJ6_bitCount_0f7a4 48 = .ok (.iload_n 0, 1) := q_o26 (by decide +kernel)
theorem dJ6_bitCount_0f7a4_49 : decode cJ6_bitCount_0f7a4 49 = .ok (.bipush 63, 2) := q_o16 (a := 63) (by decide +kernel) rfl
theorem dJ6_bitCount_0f7a4_51 : decode cJ6_bitCount_0f7a4 51 = .ok (.iand, 1) := q_o126 (by decide +kernel)
theorem dJ6_bitCount_0f7a4_52 : decode cJ6_bitCount_0f7a4 52 = .ok (.ireturn, 1) := q_o172 (by decide +kernel)
theorem dJ6_numberOfTrailingZeros_0f7a4_0 : decode cJ6_numberOfTrailingZeros_0f7a4 0 = .ok (.iload_n 0, 1) := q_o26 (by decide +kernel)
theorem dJ6_numberOfTrailingZeros_0f7a4_1 : decode cJ6_numberOfTrailingZeros_0f7a4 1 = .ok (.iconst (-1), 1) := q_o2 (by decide +kernel)
theorem dJ6_numberOfTrailingZeros_0f7a4_2 : decode cJ6_numberOfTrailingZeros_0f7a4 2 = .ok (.ixor, 1) := by decide +kernel
theorem dJ6_numberOfTrailingZeros_0f7a4_3 : decode cJ6_numberOfTrailingZeros_0f7a4 3 = .ok (.iload_n 0, 1) := q_o26 (by decide +kernel)
theorem dJ6_numberOfTrailingZeros_0f7a4_4 : decode cJ6_numberOfTrailingZeros_0f7a4 4 = .ok (.iconst 1, 1) := q_o4 (by decide +kernel)
theorem dJ6_numberOfTrailingZeros_0f7a4_5 : decode cJ6_numberOfTrailingZeros_0f7a4 5 = .ok (.isub, 1) := q_o100 (by decide +kernel)
theorem dJ6_numberOfTrailingZeros_0f7a4_6 : decode cJ6_numberOfTrailingZeros_0f7a4 6 = .ok (.iand, 1) := q_o126 (by decide +kernel)
theorem dJ6_numberOfTrailingZeros_0f7a4_7 : decode cJ6_numberOfTrailingZeros_0f7a4 7 = .ok (.istore_n 0, 1) := by decide +kernel
theorem dJ6_numberOfTrailingZeros_0f7a4_8 : decode cJ6_numberOfTrailingZeros_0f7a4 8 = .ok (.iload_n 0, 1) := q_o26 (by decide +kernel)
theorem dJ6_numberOfTrailingZeros_0f7a4_9 : decode cJ6_numberOfTrailingZeros_0f7a4 9 = .ok (.ifCond .gt 8, 3) := q_o157 (a := 0) (b := 8) (by decide +kernel) rfl
theorem dJ6_numberOfTrailingZeros_0f7a4_12 : decode cJ6_numberOfTrailingZeros_0f7a4 12 = .ok (.iload_n 0, 1) := q_o26 (by decide +kernel)
theorem dJ6_numberOfTrailingZeros_0f7a4_13 : decode cJ6_numberOfTrailingZeros_0f7a4 13 = .ok (.bipush 32, 2) := q_o16 (a := 32) (by decide +kernel) rfl
theorem dJ6_numberOfTrailingZeros_0f7a4_15 : decode cJ6_numberOfTrailingZeros_0f7a4 15 = .ok (.iand, 1) := q_o126 (by decide +kernel)
theorem dJ6_numberOfTrailingZeros_0f7a4_16 : decode cJ6_numberOfTrailingZeros_0f7a4 16 = .ok (.ireturn, 1) := q_o172 (by decide +kernel)
theorem dJ6_numberOfTrailingZeros_0f7a4_17 : decode cJ6_numberOfTrailingZeros_0f7a4 17 = .ok (.iconst 1, 1) := q_o4 (by decide +kernel)
theorem dJ6_numberOfTrailingZeros_0f7a4_18 : decode cJ6_numberOfTrailingZeros_0f7a4 18 = .ok (.istore_n 1, 1) := q_o60 (by decide +kernel)
theorem dJ6_numberOfTrailingZeros_0f7a4_19 : decode cJ6_numberOfTrailingZeros_0f7a4 19 = .ok (.iload_n 0, 1) := q_o26 (by decide +kernel)
theorem dJ6_numberOfTrailingZeros_0f7a4_20 : decode cJ6_numberOfTrailingZeros_0f7a4 20 = .ok (.ldc_w 264, 3) := by decide +kernel
theorem dJ6_numberOfTrailingZeros_0f7a4_23 : decode cJ6_numberOfTrailingZeros_0f7a4 23 = .ok (.if_icmp .le 11, 3) := q_o164 (a := 0) (b := 11) (by decide +kernel) rfl
theorem dJ6_numberOfTrailingZeros_0f7a4_26 : decode cJ6_numberOfTrailingZeros_0f7a4 26 = .ok (.iinc 1 16, 3) := q_o132 (a := 1) (b := 16) (by decide +kernel) rfl
theorem dJ6_numberOfTrailingZeros_0f7a4_29 : decode cJ6_numberOfTrailingZeros_0f7a4 29 = .ok (.iload_n 0, 1) := q_o26 (by decide +kernel)
theorem dJ6_numberOfTrailingZeros_0f7a4_30 : decode cJ6_numberOfTrailingZeros_0f7a4 30 = .ok (.bipush 16, 2) := q_o16 (a := 16) (by decide +kernel) rfl
theorem dJ6_numberOfTrailingZeros_0f7a4_32 : decode cJ6_numberOfTrailingZeros_0f7a4 32 = .ok (.iushr, 1) := by decide +kernel
theorem dJ6_numberOfTrailingZeros_0f7a4_33 : decode cJ6_numberOfTrailingZeros_0f7a4 33 = .ok (.istore_n 0, 1) := by decide +kernel
theorem dJ6_numberOfTrailingZeros_0f7a4_34 : decode cJ6_numberOfTrailingZeros_0f7a4 34 = .ok (.iload_n 0, 1) := q_o26 (by decide +kernel)
theorem dJ6_numberOfTrailingZeros_0f7a4_35 : decode cJ6_numberOfTrailingZeros_0f7a4 35 = .ok (.sipush 256, 3) := q_o17 (a := 1) (b := 0) (by decide +kernel) rfl
theorem dJ6_numberOfTrailingZeros_0f7a4_38 : decode cJ6_numberOfTrailingZeros_0f7a4 38 = .ok (.if_icmp .le 11, 3) := q_o164 (a := 0) (b := 11) (by decide +kernel) rfl
theorem dJ6_numberOfTrailingZeros_0f7a4_41 : decode cJ6_numberOfTrailingZeros_0f7a4 41 = .ok (.iinc 1 8, 3) := q_o132 (a := 1) (b := 8) (by decide +kernel) rfl
theorem dJ6_numberOfTrailingZeros_0f7a4_44 : decode cJ6_numberOfTrailingZeros_0f7a4 44 = .ok (.iload_n 0, 1) := q_o26 (by decide +kernel)
theorem dJ6_numberOfTrailingZeros_0f7a4_45 : decode cJ6_numberOfTrailingZeros_0f7a4 45 = .ok (.bipush 8, 2) := q_o16 (a := 8) (by decide +kernel) rfl
theorem dJ6_numberOfTrailingZeros_0f7a4_47 : decode cJ6_numberOfTrailingZeros_0f7a4 47 = .ok (.iushr, 1) := by decide +kernel
theorem dJ6_numberOfTrailingZeros_0f7a4_48 : decode cJ6_numberOfTrailingZeros_0f7a4 48 = .ok (.istore_n 0, 1) := by decide +kernel
theorem dJ6_numberOfTrailingZeros_0f7a4_49 : decode cJ6_numberOfTrailingZeros_0f7a4 49 = .ok (.iload_n 0, 1) := q_o26 (by decide +kernel)
theorem dJ6_numberOfTrailingZeros_0f7a4_50 : decode cJ6_numberOfTrailingZeros_0f7a4 50 = .ok (.bipush 16, 2) := q_o16 (a := 16) (by decide +kernel) rfl
theorem dJ6_numberOfTrailingZeros_0f7a4_52 : decode cJ6_numberOfTrailingZeros_0f7a4 52 = .ok (.if_icmp .le 10, 3) := q_o164 (a := 0) (b := 10) (by decide +kernel) rfl
theorem dJ6_numberOfTrailingZeros_0f7a4_55 : decode cJ6_numberOfTrailingZeros_0f7a4 55 = .ok (.iinc 1 4, 3) := q_o132 (a := 1) (b := 4) (by decide +kernel) rfl
theorem dJ6_numberOfTrailingZeros_0f7a4_58 : decode cJ6_numberOfTrailingZeros_0f7a4 58 = .ok (.iload_n 0, 1) := q_o26 (by decide +kernel)
theorem dJ6_numberOfTrailingZeros_0f7a4_59 : decode cJ6_numberOfTrailingZeros_0f7a4 59 = .ok (.iconst 4, 1) := q_o7 (by decide +kernel)
theorem dJ6_numberOfTrailingZeros_0f7a4_60 : decode cJ6_numberOfTrailingZeros_0f7a4 60 = .ok (.iushr, 1) := by decide +kernel
theorem dJ6_numberOfTrailingZeros_0f7a4_61 : decode cJ6_numberOfTrailingZeros_0f7a4 61 = .ok (.istore_n 0, 1) := by decide +kernel
theorem dJ6_numberOfTrailingZeros_0f7a4_62 : decode cJ6_numberOfTrailingZeros_0f7a4 62 = .ok (.iload_n 0, 1) := q_o26 (by decide +kernel)
theorem dJ6_numberOfTrailingZeros_0f7a4_63 : decode cJ6_numberOfTrailingZeros_0f7a4 63 = .ok (.iconst 4, 1) := q_o7 (by decide +kernel)
theorem dJ6_numberOfTrailingZeros_0f7a4_64 : decode cJ6_numberOfTrailingZeros_0f7a4 64 = .ok (.if_icmp .le 10, 3) := q_o164 (a := 0) (b := 10) (by decide +kernel) rfl
theorem dJ6_numberOfTrailingZeros_0f7a4_67 : decode cJ6_numberOfTrailingZeros_0f7a4 67 = .ok (.iinc 1 2, 3) := q_o132 (a := 1) (b := 2) (by decide +kernel) rfl
theorem dJ6_numberOfTrailingZeros_0f7a4_70 : decode cJ6_numberOfTrailingZeros_0f7a4 70 = .ok (.iload_n 0, 1) := q_o26 (by decide +kernel)
theorem dJ6_numberOfTrailingZeros_0f7a4_71 : decode cJ6_numberOfTrailingZeros_0f7a4 71 = .ok (.iconst 2, 1) := q_o5 (by decide +kernel)
theorem dJ6_numberOfTrailingZeros_0f7a4_72 : decode cJ6_numberOfTrailingZeros_0f7a4 72 = .ok (.iushr, 1) := by decide +kernel
theorem dJ6_numberOfTrailingZeros_0f7a4_73 : decode cJ6_numberOfTrailingZeros_0f7a4 73 = .ok (.istore_n 0, 1) := by decide +kernel
theorem dJ6_numberOfTrailingZeros_0f7a4_74 : decode cJ6_numberOfTrailingZeros_0f7a4 74 = .ok (.iload_n 1, 1) := q_o27 (by decide +kernel)
theorem dJ6_numberOfTrailingZeros_0f7a4_75 : decode cJ6_numberOfTrailingZeros_0f7a4 75 = .ok (.iload_n 0, 1) := q_o26 (by decide +kernel)
theorem dJ6_numberOfTrailingZeros_0f7a4_76 : decode cJ6_numberOfTrailingZeros_0f7a4 76 = .ok (.iconst 1, 1) := q_o4 (by decide +kernel)
theorem dJ6_numberOfTrailingZeros_0f7a4_77 : decode cJ6_numberOfTrailingZeros_0f7a4 77 = .ok (.iushr, 1) := by decide +kernel
theorem dJ6_numberOfTrailingZeros_0f7a4_78 : decode cJ6_numberOfTrailingZeros_0f7a4 78 = .ok (.iadd, 1) := q_o96 (by decide +kernel)
theorem dJ6_numberOfTrailingZeros_0f7a4_79 : decode cJ6_numberOfTrailingZeros_0f7a4 79 = .ok (.ireturn, 1) := q_o172 (by decide +kernel)
theorem dX0_allThatAre_0 : decode cX0_allThatAre 0 = .ok (.iconst 0, 1) := q_o3 (by decide +kernel)
theorem dX0_allThatAre_1 : decode cX0_allThatAre 1 = .ok (.istore_n 2, 1) := q_o61 (by decide +kernel)
theorem dX0_allThatAre_2 : decode cX0_allThatAre 2 = .ok (.iconst 0, 1) := q_o3 (by decide +kernel)
theorem dX0_allThatAre_3 : decode cX0_allThatAre 3 = .ok (.istore_n 3, 1) := q_o62 (by decide +kernel)
theorem dX0_allThatAre_4 : decode cX0_allThatAre 4 = .ok (.iload_n 3, 1) := q_o29 (by decide +kernel)
theorem dX0_allThatAre_5 : decode cX0_allThatAre 5 = .ok (.aload_n 0, 1) := q_o42 (by decide +kernel)
theorem dX0_allThatAre_6 : decode cX0_allThatAre 6 = .ok (.getfield 15, 3) := q_o180 (a := 0) (b := 15) (by decide +kernel)
theorem dX0_allThatAre_9 : decode cX0_allThatAre 9 = .ok (.getfield 25, 3) := q_o180 (a := 0) (b := 25) (by decide +kernel)
theorem dX0_allThatAre_12 : decode cX0_allThatAre 12 = .ok (.if_icmp .ge 31, 3) := q_o162 (a := 0) (b := 31) (by decide +kernel) rfl
theorem dX0_allThatAre_15 : decode cX0_allThatAre 15 = .ok (.iload_n 2, 1) := q_o28 (by decide +kernel)
theorem dX0_allThatAre_16 : decode cX0_allThatAre 16 = .ok (.aload_n 0, 1) := q_o42 (by decide +kernel)
theorem dX0_allThatAre_17 : decode cX0_allThatAre 17 = .ok (.getfield 11, 3) := q_o180 (a := 0) (b := 11) (by decide +kernel)
theorem dX0_allThatAre_20 : decode cX0_allThatAre 20 = .ok (.iconst 0, 1) := q_o3 (by decide +kernel)
theorem dX0_allThatAre_21 : decode cX0_allThatAre 21 = .ok (.iload_n 3, 1) := q_o29 (by decide +kernel)
theorem dX0_allThatAre_22 : decode cX0_allThatAre 22 = .ok (.iadd, 1) := q_o96 (by decide +kernel)
theorem dX0_allThatAre_23 : decode cX0_allThatAre 23 = .ok (.iaload, 1) := q_o46 (by decide +kernel)
theorem dX0_allThatAre_24 : decode cX0_allThatAre 24 = .ok (.iload_n 1, 1) := q_o27 (by decide +kernel)
theorem dX0_allThatAre_25 : decode cX0_allThatAre 25 = .ok (.if_icmp .ne 9, 3) := q_o160 (a := 0) (b := 9) (by decide +kernel) rfl
theorem dX0_allThatAre_28 : decode cX0_allThatAre 28 = .ok (.iconst 1, 1) := q_o4 (by decide +kernel)
theorem dX0_allThatAre_29 : decode cX0_allThatAre 29 = .ok (.iload_n 3, 1) := q_o29 (by decide +kernel)
theorem dX0_allThatAre_30 : decode cX0_allThatAre 30 = .ok (.ishl, 1) := by decide +kernel
theorem dX0_allThatAre_31 : decode cX0_allThatAre 31 = .ok (.goto 4, 3) := q_o167 (a := 0) (b := 4) (by decide +kernel) rfl
theorem dX0_allThatAre_34 : decode cX0_allThatAre 34 = .ok (.iconst 0, 1) := q_o3 (by decide +kernel)
theorem dX0_allThatAre_35 : decode cX0_allThatAre 35 = .ok (.ior, 1) := by decide +kernel
theorem dX0_allThatAre_36 : decode cX0_allThatAre 36 = .ok (.istore_n 2, 1) := q_o61 (by decide +kernel)
theorem dX0_allThatAre_37 : decode cX0_allThatAre 37 = .ok (.iinc 3 1, 3) := q_o132 (a := 3) (b := 1) (by decide +kernel) rfl
theorem dX0_allThatAre_40 : decode cX0_allThatAre 40 = .ok (.goto (-36), 3) := q_o167 (a := 255) (b := 220) (by decide +kernel) rfl
theorem dX0_allThatAre_43 : decode cX0_allThatAre 43 = .ok (.iload_n 2, 1) := q_o28 (by decide +kernel)
theorem dX0_allThatAre_44 : decode cX0_allThatAre 44 = .ok (.ireturn, 1) := q_o172 (by decide +kernel)
theorem dX0_beneath_0 : decode cX0_beneath 0 = .ok (.iconst 0, 1) := q_o3 (by decide +kernel)
theorem dX0_beneath_1 : decode cX0_beneath 1 = .ok (.istore_n 2, 1) := q_o61 (by decide +kernel)
theorem dX0_beneath_2 : decode cX0_beneath 2 = .ok (.iconst 0, 1) := q_o3 (by decide +kernel)
theorem dX0_beneath_3 : decode cX0_beneath 3 = .ok (.istore_n 3, 1) := q_o62 (by decide +kernel)
theorem dX0_beneath_4 : decode cX0_beneath 4 = .ok (.iload_n 3, 1) := q_o29 (by decide +kernel)
theorem dX0_beneath_5 : decode cX0_beneath 5 = .ok (.aload_n 0, 1) := q_o42 (by decide +kernel)
theorem dX0_beneath_6 : decode cX0_beneath 6 = .ok (.getfield 15, 3) := q_o180 (a := 0) (b := 15) (by decide +kernel)
theorem dX0_beneath_9 : decode cX0_beneath 9 = .ok (.getfield 25, 3) := q_o180 (a := 0) (b := 25) (by decide +kernel)
theorem dX0_beneath_12 : decode cX0_beneath 12 = .ok (.if_icmp .ge 28, 3) := q_o162 (a := 0) (b := 28) (by decide +kernel) rfl
theorem dX0_beneath_15 : decode cX0_beneath 15 = .ok (.iload_n 2, 1) := q_o28 (by decide +kernel)
theorem dX0_beneath_16 : decode cX0_beneath 16 = .ok (.aload_n 0, 1) := q_o42 (by decide +kernel)
theorem dX0_beneath_17 : decode cX0_beneath 17 = .ok (.iload_n 3, 1) := q_o29 (by decide +kernel)
theorem dX0_beneath_18 : decode cX0_beneath 18 = .ok (.iload_n 1, 1) := q_o27 (by decide +kernel)
theorem dX0_beneath_19 : decode cX0_beneath 19 = .ok (.invokevirtual 73, 3) := q_o182 (a := 0) (b := 73) (by decide +kernel)
theorem dX0_beneath_22 : decode cX0_beneath 22 = .ok (.ifCond .eq 9, 3) := q_o153 (a := 0) (b := 9) (by decide +kernel) rfl
theorem dX0_beneath_25 : decode cX0_beneath 25 = .ok (.iconst 1, 1) := q_o4 (by decide +kernel)
theorem dX0_beneath_26 : decode cX0_beneath 26 = .ok (.iload_n 3, 1) := q_o29 (by decide +kernel)
theorem dX0_beneath_27 : decode cX0_beneath 27 = .ok (.ishl, 1) := by decide +kernel
theorem dX0_beneath_28 : decode cX0_beneath 28 = .ok (.goto 4, 3) := q_o167 (a := 0) (b := 4) (by decide +kernel) rfl
theorem dX0_beneath_31 : decode cX0_beneath 31 = .ok (.iconst 0, 1) := q_o3 (by decide +kernel)
theorem dX0_beneath_32 : decode cX0_beneath 32 = .ok (.ior, 1) := by decide +kernel
theorem dX0_beneath_33 : decode cX0_beneath 33 = .ok (.istore_n 2, 1) := q_o61 (by decide +kernel)
theorem dX0_beneath_34 : decode cX0_beneath 34 = .ok (.iinc 3 1, 3) := q_o132 (a := 3) (b := 1) (by decide +kernel) rfl
theorem dX0_beneath_37 : decode cX0_beneath 37 = .ok (.goto (-33), 3) := q_o167 (a := 255) (b := 223) (by decide +kernel) rfl
theorem dX0_beneath_40 : decode cX0_beneath 40 = .ok (.iload_n 2, 1) := q_o28 (by decide +kernel)
theorem dX0_beneath_41 : decode cX0_beneath 41 = .ok (.ireturn, 1) := q_o172 (by decide +kernel)
theorem dX0_depthOf_0 : decode cX0_depthOf 0 = .ok (.iconst 0, 1) := q_o3 (by decide +kernel)
theorem dX0_depthOf_1 : decode cX0_depthOf 1 = .ok (.istore_n 2, 1) := q_o61 (by decide +kernel)
theorem dX0_depthOf_2 : decode cX0_depthOf 2 = .ok (.iload_n 1, 1) := q_o27 (by decide +kernel)
theorem dX0_depthOf_3 : decode cX0_depthOf 3 = .ok (.istore_n 3, 1) := q_o62 (by decide +kernel)
theorem dX0_depthOf_4 : decode cX0_depthOf 4 = .ok (.iconst 0, 1) := q_o3 (by decide +kernel)
theorem dX0_depthOf_5 : decode cX0_depthOf 5 = .ok (.istore 4, 2) := q_o54 (a := 4) (by decide +kernel)
theorem dX0_depthOf_7 : decode cX0_depthOf 7 = .ok (.iload 4, 2) := q_o21 (a := 4) (by decide +kernel)
theorem dX0_depthOf_9 : decode cX0_depthOf 9 = .ok (.bipush 8, 2) := q_o16 (a := 8) (by decide +kernel) rfl
theorem dX0_depthOf_11 : decode cX0_depthOf 11 = .ok (.if_icmp .ge 42, 3) := q_o162 (a := 0) (b := 42) (by decide +kernel) rfl
theorem dX0_depthOf_14 : decode cX0_depthOf 14 = .ok (.iload_n 3, 1) := q_o29 (by decide +kernel)
theorem dX0_depthOf_15 : decode cX0_depthOf 15 = .ok (.ifCond .lt 38, 3) := q_o155 (a := 0) (b := 38) (by decide +kernel) rfl
theorem dX0_depthOf_18 : decode cX0_depthOf 18 = .ok (.iload_n 3, 1) := q_o29 (by decide +kernel)
theorem dX0_depthOf_19 : decode cX0_depthOf 19 = .ok (.bipush 8, 2) := q_o16 (a := 8) (by decide +kernel) rfl
theorem dX0_depthOf_21 : decode cX0_depthOf 21 = .ok (.if_icmp .ge 32, 3) := q_o162 (a := 0) (b := 32) (by decide +kernel) rfl
theorem dX0_depthOf_24 : decode cX0_depthOf 24 = .ok (.aload_n 0, 1) := q_o42 (by decide +kernel)
theorem dX0_depthOf_25 : decode cX0_depthOf 25 = .ok (.getfield 11, 3) := q_o180 (a := 0) (b := 11) (by decide +kernel)
theorem dX0_depthOf_28 : decode cX0_depthOf 28 = .ok (.bipush 32, 2) := q_o16 (a := 32) (by decide +kernel) rfl
theorem dX0_depthOf_30 : decode cX0_depthOf 30 = .ok (.iload_n 3, 1) := q_o29 (by decide +kernel)
theorem dX0_depthOf_31 : decode cX0_depthOf 31 = .ok (.iadd, 1) := q_o96 (by decide +kernel)
theorem dX0_depthOf_32 : decode cX0_depthOf 32 = .ok (.iaload, 1) := q_o46 (by decide +kernel)
theorem dX0_depthOf_33 : decode cX0_depthOf 33 = .ok (.istore_n 3, 1) := q_o62 (by decide +kernel)
theorem dX0_depthOf_34 : decode cX0_depthOf 34 = .ok (.iload_n 2, 1) := q_o28 (by decide +kernel)
theorem dX0_depthOf_35 : decode cX0_depthOf 35 = .ok (.iload_n 3, 1) := q_o29 (by decide +kernel)
theorem dX0_depthOf_36 : decode cX0_depthOf 36 = .ok (.iconst (-1), 1) := q_o2 (by decide +kernel)
theorem dX0_depthOf_37 : decode cX0_depthOf 37 = .ok (.if_icmp .ne 7, 3) := q_o160 (a := 0) (b := 7) (by decide +kernel) rfl
theorem dX0_depthOf_40 : decode cX0_depthOf 40 = .ok (.iconst 0, 1) := q_o3 (by decide +kernel)
theorem dX0_depthOf_41 : decode cX0_depthOf 41 = .ok (.goto 4, 3) := q_o167 (a := 0) (b := 4) (by decide +kernel) rfl
theorem dX0_depthOf_44 : decode cX0_depthOf 44 = .ok (.iconst 1, 1) := q_o4 (by decide +kernel)
theorem dX0_depthOf_45 : decode cX0_depthOf 45 = .ok (.iadd, 1) := q_o96 (by decide +kernel)
theorem dX0_depthOf_46 : decode cX0_depthOf 46 = .ok (.istore_n 2, 1) := q_o61 (by decide +kernel)
theorem dX0_depthOf_47 : decode cX0_depthOf 47 = .ok (.iinc 4 1, 3) := q_o132 (a := 4) (b := 1) (by decide +kernel) rfl
theorem dX0_depthOf_50 : decode cX0_depthOf 50 = .ok (.goto (-43), 3) := q_o167 (a := 255) (b := 213) (by decide +kernel) rfl
theorem dX0_depthOf_53 : decode cX0_depthOf 53 = .ok (.iload_n 2, 1) := q_o28 (by decide +kernel)
theorem dX0_depthOf_54 : decode cX0_depthOf 54 = .ok (.ireturn, 1) := q_o172 (by decide +kernel)
theorem dX0_firstFreePort_0 : decode cX0_firstFreePort 0 = .ok (.aload_n 0, 1) := q_o42 (by decide +kernel)
theorem dX0_firstFreePort_1 : decode cX0_firstFreePort 1 = .ok (.iload_n 1, 1) := q_o27 (by decide +kernel)
theorem dX0_firstFreePort_2 : decode cX0_firstFreePort 2 = .ok (.iconst 0, 1) := q_o3 (by decide +kernel)
theorem dX0_firstFreePort_3 : decode cX0_firstFreePort 3 = .ok (.invokevirtual 62, 3) := q_o182 (a := 0) (b := 62) (by decide +kernel)
theorem dX0_firstFreePort_6 : decode cX0_firstFreePort 6 = .ok (.ifCond .eq 5, 3) := q_o153 (a := 0) (b := 5) (by decide +kernel) rfl
theorem dX0_firstFreePort_9 : decode cX0_firstFreePort 9 = .ok (.iconst (-1), 1) := q_o2 (by decide +kernel)
theorem dX0_firstFreePort_10 : decode cX0_firstFreePort 10 = .ok (.ireturn, 1) := q_o172 (by decide +kernel)
theorem dX0_firstFreePort_11 : decode cX0_firstFreePort 11 = .ok (.iconst 0, 1) := q_o3 (by decide +kernel)
theorem dX0_firstFreePort_12 : decode cX0_firstFreePort 12 = .ok (.istore_n 2, 1) := q_o61 (by decide +kernel)
theorem dX0_firstFreePort_13 : decode cX0_firstFreePort 13 = .ok (.iload_n 2, 1) := q_o28 (by decide +kernel)
theorem dX0_firstFreePort_14 : decode cX0_firstFreePort 14 = .ok (.aload_n 0, 1) := q_o42 (by decide +kernel)
theorem dX0_firstFreePort_15 : decode cX0_firstFreePort 15 = .ok (.getfield 15, 3) := q_o180 (a := 0) (b := 15) (by decide +kernel)
theorem dX0_firstFreePort_18 : decode cX0_firstFreePort 18 = .ok (.iload_n 1, 1) := q_o27 (by decide +kernel)
theorem dX0_firstFreePort_19 : decode cX0_firstFreePort 19 = .ok (.invokevirtual 66, 3) := q_o182 (a := 0) (b := 66) (by decide +kernel)
theorem dX0_firstFreePort_22 : decode cX0_firstFreePort 22 = .ok (.if_icmp .ge 21, 3) := q_o162 (a := 0) (b := 21) (by decide +kernel) rfl
theorem dX0_firstFreePort_25 : decode cX0_firstFreePort 25 = .ok (.aload_n 0, 1) := q_o42 (by decide +kernel)
theorem dX0_firstFreePort_26 : decode cX0_firstFreePort 26 = .ok (.iload_n 1, 1) := q_o27 (by decide +kernel)
theorem dX0_firstFreePort_27 : decode cX0_firstFreePort 27 = .ok (.iload_n 2, 1) := q_o28 (by decide +kernel)
theorem dX0_firstFreePort_28 : decode cX0_firstFreePort 28 = .ok (.invokevirtual 69, 3) := q_o182 (a := 0) (b := 69) (by decide +kernel)
theorem dX0_firstFreePort_31 : decode cX0_firstFreePort 31 = .ok (.iconst (-1), 1) := q_o2 (by decide +kernel)
theorem dX0_firstFreePort_32 : decode cX0_firstFreePort 32 = .ok (.if_icmp .ne 5, 3) := q_o160 (a := 0) (b := 5) (by decide +kernel) rfl
theorem dX0_firstFreePort_35 : decode cX0_firstFreePort 35 = .ok (.iload_n 2, 1) := q_o28 (by decide +kernel)
theorem dX0_firstFreePort_36 : decode cX0_firstFreePort 36 = .ok (.ireturn, 1) := q_o172 (by decide +kernel)
theorem dX0_firstFreePort_37 : decode cX0_firstFreePort 37 = .ok (.iinc 2 1, 3) := q_o132 (a := 2) (b := 1) (by decide +kernel) rfl
theorem dX0_firstFreePort_40 : decode cX0_firstFreePort 40 = .ok (.goto (-27), 3) := q_o167 (a := 255) (b := 229) (by decide +kernel) rfl
theorem dX0_firstFreePort_43 : decode cX0_firstFreePort 43 = .ok (.iconst (-1), 1) := q_o2 (by decide +kernel)
theorem dX0_firstFreePort_44 : decode cX0_firstFreePort 44 = .ok (.ireturn, 1) := q_o172 (by decide +kernel)
theorem dX0_greatestDepth_0 : decode cX0_greatestDepth 0 = .ok (.iconst 0, 1) := q_o3 (by decide +kernel)
theorem dX0_greatestDepth_1 : decode cX0_greatestDepth 1 = .ok (.istore_n 1, 1) := q_o60 (by decide +kernel)
theorem dX0_greatestDepth_2 : decode cX0_greatestDepth 2 = .ok (.iconst 0, 1) := q_o3 (by decide +kernel)
theorem dX0_greatestDepth_3 : decode cX0_greatestDepth 3 = .ok (.istore_n 2, 1) := q_o61 (by decide +kernel)
theorem dX0_greatestDepth_4 : decode cX0_greatestDepth 4 = .ok (.iload_n 2, 1) := q_o28 (by decide +kernel)
theorem dX0_greatestDepth_5 : decode cX0_greatestDepth 5 = .ok (.aload_n 0, 1) := q_o42 (by decide +kernel)
theorem dX0_greatestDepth_6 : decode cX0_greatestDepth 6 = .ok (.getfield 15, 3) := q_o180 (a := 0) (b := 15) (by decide +kernel)
theorem dX0_greatestDepth_9 : decode cX0_greatestDepth 9 = .ok (.getfield 25, 3) := q_o180 (a := 0) (b := 25) (by decide +kernel)
theorem dX0_greatestDepth_12 : decode cX0_greatestDepth 12 = .ok (.if_icmp .ge 19, 3) := q_o162 (a := 0) (b := 19) (by decide +kernel) rfl
theorem dX0_greatestDepth_15 : decode cX0_greatestDepth 15 = .ok (.iload_n 1, 1) := q_o27 (by decide +kernel)
theorem dX0_greatestDepth_16 : decode cX0_greatestDepth 16 = .ok (.aload_n 0, 1) := q_o42 (by decide +kernel)
theorem dX0_greatestDepth_17 : decode cX0_greatestDepth 17 = .ok (.iload_n 2, 1) := q_o28 (by decide +kernel)
theorem dX0_greatestDepth_18 : decode cX0_greatestDepth 18 = .ok (.invokevirtual 76, 3) := q_o182 (a := 0) (b := 76) (by decide +kernel)
theorem dX0_greatestDepth_21 : decode cX0_greatestDepth 21 = .ok (.invokestatic 79, 3) := q_o184 (a := 0) (b := 79) (by decide +kernel)
theorem dX0_greatestDepth_24 : decode cX0_greatestDepth 24 = .ok (.istore_n 1, 1) := q_o60 (by decide +kernel)
theorem dX0_greatestDepth_25 : decode cX0_greatestDepth 25 = .ok (.iinc 2 1, 3) := q_o132 (a := 2) (b := 1) (by decide +kernel) rfl
theorem dX0_greatestDepth_28 : decode cX0_greatestDepth 28 = .ok (.goto (-24), 3) := q_o167 (a := 255) (b := 232) (by decide +kernel) rfl
theorem dX0_greatestDepth_31 : decode cX0_greatestDepth 31 = .ok (.iload_n 1, 1) := q_o27 (by decide +kernel)
theorem dX0_greatestDepth_32 : decode cX0_greatestDepth 32 = .ok (.ireturn, 1) := q_o172 (by decide +kernel)
theorem dX0_hangsOn_0 : decode cX0_hangsOn 0 = .ok (.aload_n 0, 1) := q_o42 (by decide +kernel)
theorem dX0_hangsOn_1 : decode cX0_hangsOn 1 = .ok (.getfield 11, 3) := q_o180 (a := 0) (b := 11) (by decide +kernel)
theorem dX0_hangsOn_4 : decode cX0_hangsOn 4 = .ok (.bipush 32, 2) := q_o16 (a := 32) (by decide +kernel) rfl
theorem dX0_hangsOn_6 : decode cX0_hangsOn 6 = .ok (.iload_n 1, 1) := q_o27 (by decide +kernel)
theorem dX0_hangsOn_7 : decode cX0_hangsOn 7 = .ok (.iadd, 1) := q_o96 (by decide +kernel)
theorem dX0_hangsOn_8 : decode cX0_hangsOn 8 = .ok (.iaload, 1) := q_o46 (by decide +kernel)
theorem dX0_hangsOn_9 : decode cX0_hangsOn 9 = .ok (.istore_n 3, 1) := q_o62 (by decide +kernel)
theorem dX0_hangsOn_10 : decode cX0_hangsOn 10 = .ok (.iconst 0, 1) := q_o3 (by decide +kernel)
theorem dX0_hangsOn_11 : decode cX0_hangsOn 11 = .ok (.istore 4, 2) := q_o54 (a := 4) (by decide +kernel)
theorem dX0_hangsOn_13 : decode cX0_hangsOn 13 = .ok (.iload 4, 2) := q_o21 (a := 4) (by decide +kernel)
theorem dX0_hangsOn_15 : decode cX0_hangsOn 15 = .ok (.bipush 8, 2) := q_o16 (a := 8) (by decide +kernel) rfl
theorem dX0_hangsOn_17 : decode cX0_hangsOn 17 = .ok (.if_icmp .ge 34, 3) := q_o162 (a := 0) (b := 34) (by decide +kernel) rfl
theorem dX0_hangsOn_20 : decode cX0_hangsOn 20 = .ok (.iload_n 3, 1) := q_o29 (by decide +kernel)
theorem dX0_hangsOn_21 : decode cX0_hangsOn 21 = .ok (.iload_n 2, 1) := q_o28 (by decide +kernel)
theorem dX0_hangsOn_22 : decode cX0_hangsOn 22 = .ok (.if_icmp .eq 29, 3) := q_o159 (a := 0) (b := 29) (by decide +kernel) rfl
theorem dX0_hangsOn_25 : decode cX0_hangsOn 25 = .ok (.iload_n 3, 1) := q_o29 (by decide +kernel)
theorem dX0_hangsOn_26 : decode cX0_hangsOn 26 = .ok (.ifCond .lt 25, 3) := q_o155 (a := 0) (b := 25) (by decide +kernel) rfl
theorem dX0_hangsOn_29 : decode cX0_hangsOn 29 = .ok (.iload_n 3, 1) := q_o29 (by decide +kernel)
theorem dX0_hangsOn_30 : decode cX0_hangsOn 30 = .ok (.bipush 8, 2) := q_o16 (a := 8) (by decide +kernel) rfl
theorem dX0_hangsOn_32 : decode cX0_hangsOn 32 = .ok (.if_icmp .ge 19, 3) := q_o162 (a := 0) (b := 19) (by decide +kernel) rfl
theorem dX0_hangsOn_35 : decode cX0_hangsOn 35 = .ok (.aload_n 0, 1) := q_o42 (by decide +kernel)
theorem dX0_hangsOn_36 : decode cX0_hangsOn 36 = .ok (.getfield 11, 3) := q_o180 (a := 0) (b := 11) (by decide +kernel)
theorem dX0_hangsOn_39 : decode cX0_hangsOn 39 = .ok (.bipush 32, 2) := q_o16 (a := 32) (by decide +kernel) rfl
theorem dX0_hangsOn_41 : decode cX0_hangsOn 41 = .ok (.iload_n 3, 1) := q_o29 (by decide +kernel)
theorem dX0_hangsOn_42 : decode cX0_hangsOn 42 = .ok (.iadd, 1) := q_o96 (by decide +kernel)
theorem dX0_hangsOn_43 : decode cX0_hangsOn 43 = .ok (.iaload, 1) := q_o46 (by decide +kernel)
theorem dX0_hangsOn_44 : decode cX0_hangsOn 44 = .ok (.istore_n 3, 1) := q_o62 (by decide +kernel)
theorem dX0_hangsOn_45 : decode cX0_hangsOn 45 = .ok (.iinc 4 1, 3) := q_o132 (a := 4) (b := 1) (by decide +kernel) rfl
theorem dX0_hangsOn_48 : decode cX0_hangsOn 48 = .ok (.goto (-35), 3) := q_o167 (a := 255) (b := 221) (by decide +kernel) rfl
theorem dX0_hangsOn_51 : decode cX0_hangsOn 51 = .ok (.iload_n 3, 1) := q_o29 (by decide +kernel)
theorem dX0_hangsOn_52 : decode cX0_hangsOn 52 = .ok (.iload_n 2, 1) := q_o28 (by decide +kernel)
theorem dX0_hangsOn_53 : decode cX0_hangsOn 53 = .ok (.if_icmp .ne 7, 3) := q_o160 (a := 0) (b := 7) (by decide +kernel) rfl
theorem dX0_hangsOn_56 : decode cX0_hangsOn 56 = .ok (.iconst 1, 1) := q_o4 (by decide +kernel)
theorem dX0_hangsOn_57 : decode cX0_hangsOn 57 = .ok (.goto 4, 3) := q_o167 (a := 0) (b := 4) (by decide +kernel) rfl
theorem dX0_hangsOn_60 : decode cX0_hangsOn 60 = .ok (.iconst 0, 1) := q_o3 (by decide +kernel)
theorem dX0_hangsOn_61 : decode cX0_hangsOn 61 = .ok (.ireturn, 1) := q_o172 (by decide +kernel)
theorem dX0_is_0 : decode cX0_is 0 = .ok (.iload_n 1, 1) := q_o27 (by decide +kernel)
theorem dX0_is_1 : decode cX0_is 1 = .ok (.ifCond .lt 25, 3) := q_o155 (a := 0) (b := 25) (by decide +kernel) rfl
theorem dX0_is_4 : decode cX0_is 4 = .ok (.iload_n 1, 1) := q_o27 (by decide +kernel)
theorem dX0_is_5 : decode cX0_is 5 = .ok (.bipush 8, 2) := q_o16 (a := 8) (by decide +kernel) rfl
theorem dX0_is_7 : decode cX0_is 7 = .ok (.if_icmp .ge 19, 3) := q_o162 (a := 0) (b := 19) (by decide +kernel) rfl
theorem dX0_is_10 : decode cX0_is 10 = .ok (.aload_n 0, 1) := q_o42 (by decide +kernel)
theorem dX0_is_11 : decode cX0_is 11 = .ok (.getfield 11, 3) := q_o180 (a := 0) (b := 11) (by decide +kernel)
theorem dX0_is_14 : decode cX0_is 14 = .ok (.iconst 0, 1) := q_o3 (by decide +kernel)
theorem dX0_is_15 : decode cX0_is 15 = .ok (.iload_n 1, 1) := q_o27 (by decide +kernel)
theorem dX0_is_16 : decode cX0_is 16 = .ok (.iadd, 1) := q_o96 (by decide +kernel)
theorem dX0_is_17 : decode cX0_is 17 = .ok (.iaload, 1) := q_o46 (by decide +kernel)
theorem dX0_is_18 : decode cX0_is 18 = .ok (.iload_n 2, 1) := q_o28 (by decide +kernel)
theorem dX0_is_19 : decode cX0_is 19 = .ok (.if_icmp .ne 7, 3) := q_o160 (a := 0) (b := 7) (by decide +kernel) rfl
theorem dX0_is_22 : decode cX0_is 22 = .ok (.iconst 1, 1) := q_o4 (by decide +kernel)
theorem dX0_is_23 : decode cX0_is 23 = .ok (.goto 4, 3) := q_o167 (a := 0) (b := 4) (by decide +kernel) rfl
theorem dX0_is_26 : decode cX0_is 26 = .ok (.iconst 0, 1) := q_o3 (by decide +kernel)
theorem dX0_is_27 : decode cX0_is 27 = .ok (.ireturn, 1) := q_o172 (by decide +kernel)
theorem dX0_isAsleep_0 : decode cX0_isAsleep 0 = .ok (.iload_n 1, 1) := q_o27 (by decide +kernel)
theorem dX0_isAsleep_1 : decode cX0_isAsleep 1 = .ok (.ifCond .lt 26, 3) := q_o155 (a := 0) (b := 26) (by decide +kernel) rfl
theorem dX0_isAsleep_4 : decode cX0_isAsleep 4 = .ok (.iload_n 1, 1) := q_o27 (by decide +kernel)
theorem dX0_isAsleep_5 : decode cX0_isAsleep 5 = .ok (.bipush 8, 2) := q_o16 (a := 8) (by decide +kernel) rfl
theorem dX0_isAsleep_7 : decode cX0_isAsleep 7 = .ok (.if_icmp .ge 20, 3) := q_o162 (a := 0) (b := 20) (by decide +kernel) rfl
theorem dX0_isAsleep_10 : decode cX0_isAsleep 10 = .ok (.aload_n 0, 1) := q_o42 (by decide +kernel)
theorem dX0_isAsleep_11 : decode cX0_isAsleep 11 = .ok (.getfield 11, 3) := q_o180 (a := 0) (b := 11) (by decide +kernel)
theorem dX0_isAsleep_14 : decode cX0_isAsleep 14 = .ok (.bipush 88, 2) := q_o16 (a := 88) (by decide +kernel) rfl
theorem dX0_isAsleep_16 : decode cX0_isAsleep 16 = .ok (.iload_n 1, 1) := q_o27 (by decide +kernel)
theorem dX0_isAsleep_17 : decode cX0_isAsleep 17 = .ok (.iadd, 1) := q_o96 (by decide +kernel)
theorem dX0_isAsleep_18 : decode cX0_isAsleep 18 = .ok (.iaload, 1) := q_o46 (by decide +kernel)
theorem dX0_isAsleep_19 : decode cX0_isAsleep 19 = .ok (.iconst 1, 1) := q_o4 (by decide +kernel)
theorem dX0_isAsleep_20 : decode cX0_isAsleep 20 = .ok (.if_icmp .ne 7, 3) := q_o160 (a := 0) (b := 7) (by decide +kernel) rfl
theorem dX0_isAsleep_23 : decode cX0_isAsleep 23 = .ok (.iconst 1, 1) := q_o4 (by decide +kernel)
theorem dX0_isAsleep_24 : decode cX0_isAsleep 24 = .ok (.goto 4, 3) := q_o167 (a := 0) (b := 4) (by decide +kernel) rfl
theorem dX0_isAsleep_27 : decode cX0_isAsleep 27 = .ok (.iconst 0, 1) := q_o3 (by decide +kernel)
theorem dX0_isAsleep_28 : decode cX0_isAsleep 28 = .ok (.ireturn, 1) := q_o172 (by decide +kernel)
theorem dX0_isAwake_0 : decode cX0_isAwake 0 = .ok (.aload_n 0, 1) := q_o42 (by decide +kernel)
theorem dX0_isAwake_1 : decode cX0_isAwake 1 = .ok (.getfield 11, 3) := q_o180 (a := 0) (b := 11) (by decide +kernel)
theorem dX0_isAwake_4 : decode cX0_isAwake 4 = .ok (.iconst 0, 1) := q_o3 (by decide +kernel)
theorem dX0_isAwake_5 : decode cX0_isAwake 5 = .ok (.iload_n 1, 1) := q_o27 (by decide +kernel)
theorem dX0_isAwake_6 : decode cX0_isAwake 6 = .ok (.iadd, 1) := q_o96 (by decide +kernel)
theorem dX0_isAwake_7 : decode cX0_isAwake 7 = .ok (.iaload, 1) := q_o46 (by decide +kernel)
theorem dX0_isAwake_8 : decode cX0_isAwake 8 = .ok (.bipush 6, 2) := q_o16 (a := 6) (by decide +kernel) rfl
theorem dX0_isAwake_10 : decode cX0_isAwake 10 = .ok (.if_icmp .ne 19, 3) := q_o160 (a := 0) (b := 19) (by decide +kernel) rfl
theorem dX0_isAwake_13 : decode cX0_isAwake 13 = .ok (.aload_n 0, 1) := q_o42 (by decide +kernel)
theorem dX0_isAwake_14 : decode cX0_isAwake 14 = .ok (.getfield 11, 3) := q_o180 (a := 0) (b := 11) (by decide +kernel)
theorem dX0_isAwake_17 : decode cX0_isAwake 17 = .ok (.bipush 88, 2) := q_o16 (a := 88) (by decide +kernel) rfl
theorem dX0_isAwake_19 : decode cX0_isAwake 19 = .ok (.iload_n 1, 1) := q_o27 (by decide +kernel)
theorem dX0_isAwake_20 : decode cX0_isAwake 20 = .ok (.iadd, 1) := q_o96 (by decide +kernel)
theorem dX0_isAwake_21 : decode cX0_isAwake 21 = .ok (.iaload, 1) := q_o46 (by decide +kernel)
theorem dX0_isAwake_22 : decode cX0_isAwake 22 = .ok (.ifCond .ne 7, 3) := q_o154 (a := 0) (b := 7) (by decide +kernel) rfl
theorem dX0_isAwake_25 : decode cX0_isAwake 25 = .ok (.iconst 1, 1) := q_o4 (by decide +kernel)
theorem dX0_isAwake_26 : decode cX0_isAwake 26 = .ok (.goto 4, 3) := q_o167 (a := 0) (b := 4) (by decide +kernel) rfl
theorem dX0_isAwake_29 : decode cX0_isAwake 29 = .ok (.iconst 0, 1) := q_o3 (by decide +kernel)
theorem dX0_isAwake_30 : decode cX0_isAwake 30 = .ok (.ireturn, 1) := q_o172 (by decide +kernel)
theorem dX0_isOver_0 : decode cX0_isOver 0 = .ok (.aload_n 0, 1) := q_o42 (by decide +kernel)
theorem dX0_isOver_1 : decode cX0_isOver 1 = .ok (.getfield 11, 3) := q_o180 (a := 0) (b := 11) (by decide +kernel)
theorem dX0_isOver_4 : decode cX0_isOver 4 = .ok (.bipush 96, 2) := q_o16 (a := 96) (by decide +kernel) rfl
theorem dX0_isOver_6 : decode cX0_isOver 6 = .ok (.iaload, 1) := q_o46 (by decide +kernel)
theorem dX0_isOver_7 : decode cX0_isOver 7 = .ok (.sipush 9999, 3) := q_o17 (a := 39) (b := 15) (by decide +kernel) rfl
theorem dX0_isOver_10 : decode cX0_isOver 10 = .ok (.if_icmp .lt 7, 3) := q_o161 (a := 0) (b := 7) (by decide +kernel) rfl
theorem dX0_isOver_13 : decode cX0_isOver 13 = .ok (.iconst 1, 1) := q_o4 (by decide +kernel)
theorem dX0_isOver_14 : decode cX0_isOver 14 = .ok (.goto 4, 3) := q_o167 (a := 0) (b := 4) (by decide +kernel) rfl
theorem dX0_isOver_17 : decode cX0_isOver 17 = .ok (.iconst 0, 1) := q_o3 (by decide +kernel)
theorem dX0_isOver_18 : decode cX0_isOver 18 = .ok (.ireturn, 1) := q_o172 (by decide +kernel)
theorem dX0_isStanding_0 : decode cX0_isStanding 0 = .ok (.aload_n 0, 1) := q_o42 (by decide +kernel)
theorem dX0_isStanding_1 : decode cX0_isStanding 1 = .ok (.getfield 11, 3) := q_o180 (a := 0) (b := 11) (by decide +kernel)
theorem dX0_isStanding_4 : decode cX0_isStanding 4 = .ok (.iconst 0, 1) := q_o3 (by decide +kernel)
theorem dX0_isStanding_5 : decode cX0_isStanding 5 = .ok (.iload_n 1, 1) := q_o27 (by decide +kernel)
theorem dX0_isStanding_6 : decode cX0_isStanding 6 = .ok (.iadd, 1) := q_o96 (by decide +kernel)
theorem dX0_isStanding_7 : decode cX0_isStanding 7 = .ok (.iaload, 1) := q_o46 (by decide +kernel)
theorem dX0_isStanding_8 : decode cX0_isStanding 8 = .ok (.iconst 3, 1) := q_o6 (by decide +kernel)
theorem dX0_isStanding_9 : decode cX0_isStanding 9 = .ok (.if_icmp .lt 19, 3) := q_o161 (a := 0) (b := 19) (by decide +kernel) rfl
theorem dX0_isStanding_12 : decode cX0_isStanding 12 = .ok (.aload_n 0, 1) := q_o42 (by decide +kernel)
theorem dX0_isStanding_13 : decode cX0_isStanding 13 = .ok (.getfield 11, 3) := q_o180 (a := 0) (b := 11) (by decide +kernel)
theorem dX0_isStanding_16 : decode cX0_isStanding 16 = .ok (.iconst 0, 1) := q_o3 (by decide +kernel)
theorem dX0_isStanding_17 : decode cX0_isStanding 17 = .ok (.iload_n 1, 1) := q_o27 (by decide +kernel)
theorem dX0_isStanding_18 : decode cX0_isStanding 18 = .ok (.iadd, 1) := q_o96 (by decide +kernel)
theorem dX0_isStanding_19 : decode cX0_isStanding 19 = .ok (.iaload, 1) := q_o46 (by decide +kernel)
theorem dX0_isStanding_20 : decode cX0_isStanding 20 = .ok (.iconst 5, 1) := q_o8 (by decide +kernel)
theorem dX0_isStanding_21 : decode cX0_isStanding 21 = .ok (.if_icmp .gt 7, 3) := q_o163 (a := 0) (b := 7) (by decide +kernel) rfl
theorem dX0_isStanding_24 : decode cX0_isStanding 24 = .ok (.iconst 1, 1) := q_o4 (by decide +kernel)
theorem dX0_isStanding_25 : decode cX0_isStanding 25 = .ok (.goto 4, 3) := q_o167 (a := 0) (b := 4) (by decide +kernel) rfl
theorem dX0_isStanding_28 : decode cX0_isStanding 28 = .ok (.iconst 0, 1) := q_o3 (by decide +kernel)
theorem dX0_isStanding_29 : decode cX0_isStanding 29 = .ok (.ireturn, 1) := q_o172 (by decide +kernel)
theorem dX0_pluggedInto_0 : decode cX0_pluggedInto 0 = .ok (.iconst 0, 1) := q_o3 (by decide +kernel)
theorem dX0_pluggedInto_1 : decode cX0_pluggedInto 1 = .ok (.istore_n 3, 1) := q_o62 (by decide +kernel)
theorem dX0_pluggedInto_2 : decode cX0_pluggedInto 2 = .ok (.iload_n 3, 1) := q_o29 (by decide +kernel)
theorem dX0_pluggedInto_3 : decode cX0_pluggedInto 3 = .ok (.aload_n 0, 1) := q_o42 (by decide +kernel)
theorem dX0_pluggedInto_4 : decode cX0_pluggedInto 4 = .ok (.getfield 15, 3) := q_o180 (a := 0) (b := 15) (by decide +kernel)
theorem dX0_pluggedInto_7 : decode cX0_pluggedInto 7 = .ok (.getfield 25, 3) := q_o180 (a := 0) (b := 25) (by decide +kernel)
theorem dX0_pluggedInto_10 : decode cX0_pluggedInto 10 = .ok (.if_icmp .ge 37, 3) := q_o162 (a := 0) (b := 37) (by decide +kernel) rfl
theorem dX0_pluggedInto_13 : decode cX0_pluggedInto 13 = .ok (.aload_n 0, 1) := q_o42 (by decide +kernel)
theorem dX0_pluggedInto_14 : decode cX0_pluggedInto 14 = .ok (.getfield 11, 3) := q_o180 (a := 0) (b := 11) (by decide +kernel)
theorem dX0_pluggedInto_17 : decode cX0_pluggedInto 17 = .ok (.bipush 32, 2) := q_o16 (a := 32) (by decide +kernel) rfl
theorem dX0_pluggedInto_19 : decode cX0_pluggedInto 19 = .ok (.iload_n 3, 1) := q_o29 (by decide +kernel)
theorem dX0_pluggedInto_20 : decode cX0_pluggedInto 20 = .ok (.iadd, 1) := q_o96 (by decide +kernel)
theorem dX0_pluggedInto_21 : decode cX0_pluggedInto 21 = .ok (.iaload, 1) := q_o46 (by decide +kernel)
theorem dX0_pluggedInto_22 : decode cX0_pluggedInto 22 = .ok (.iload_n 1, 1) := q_o27 (by decide +kernel)
theorem dX0_pluggedInto_23 : decode cX0_pluggedInto 23 = .ok (.if_icmp .ne 18, 3) := q_o160 (a := 0) (b := 18) (by decide +kernel) rfl
theorem dX0_pluggedInto_26 : decode cX0_pluggedInto 26 = .ok (.aload_n 0, 1) := q_o42 (by decide +kernel)
theorem dX0_pluggedInto_27 : decode cX0_pluggedInto 27 = .ok (.getfield 11, 3) := q_o180 (a := 0) (b := 11) (by decide +kernel)
theorem dX0_pluggedInto_30 : decode cX0_pluggedInto 30 = .ok (.bipush 40, 2) := q_o16 (a := 40) (by decide +kernel) rfl
theorem dX0_pluggedInto_32 : decode cX0_pluggedInto 32 = .ok (.iload_n 3, 1) := q_o29 (by decide +kernel)
theorem dX0_pluggedInto_33 : decode cX0_pluggedInto 33 = .ok (.iadd, 1) := q_o96 (by decide +kernel)
theorem dX0_pluggedInto_34 : decode cX0_pluggedInto 34 = .ok (.iaload, 1) := q_o46 (by decide +kernel)
theorem dX0_pluggedInto_35 : decode cX0_pluggedInto 35 = .ok (.iload_n 2, 1) := q_o28 (by decide +kernel)
theorem dX0_pluggedInto_36 : decode cX0_pluggedInto 36 = .ok (.if_icmp .ne 5, 3) := q_o160 (a := 0) (b := 5) (by decide +kernel) rfl
theorem dX0_pluggedInto_39 : decode cX0_pluggedInto 39 = .ok (.iload_n 3, 1) := q_o29 (by decide +kernel)
theorem dX0_pluggedInto_40 : decode cX0_pluggedInto 40 = .ok (.ireturn, 1) := q_o172 (by decide +kernel)
theorem dX0_pluggedInto_41 : decode cX0_pluggedInto 41 = .ok (.iinc 3 1, 3) := q_o132 (a := 3) (b := 1) (by decide +kernel) rfl
theorem dX0_pluggedInto_44 : decode cX0_pluggedInto 44 = .ok (.goto (-42), 3) := q_o167 (a := 255) (b := 214) (by decide +kernel) rfl
theorem dX0_pluggedInto_47 : decode cX0_pluggedInto 47 = .ok (.iconst (-1), 1) := q_o2 (by decide +kernel)
theorem dX0_pluggedInto_48 : decode cX0_pluggedInto 48 = .ok (.ireturn, 1) := q_o172 (by decide +kernel)
theorem dX0_rightAt_0 : decode cX0_rightAt 0 = .ok (.iconst 0, 1) := q_o3 (by decide +kernel)
theorem dX0_rightAt_1 : decode cX0_rightAt 1 = .ok (.istore_n 2, 1) := q_o61 (by decide +kernel)
theorem dX0_rightAt_2 : decode cX0_rightAt 2 = .ok (.iconst 0, 1) := q_o3 (by decide +kernel)
theorem dX0_rightAt_3 : decode cX0_rightAt 3 = .ok (.istore_n 3, 1) := q_o62 (by decide +kernel)
theorem dX0_rightAt_4 : decode cX0_rightAt 4 = .ok (.iload_n 3, 1) := q_o29 (by decide +kernel)
theorem dX0_rightAt_5 : decode cX0_rightAt 5 = .ok (.aload_n 0, 1) := q_o42 (by decide +kernel)
theorem dX0_rightAt_6 : decode cX0_rightAt 6 = .ok (.getfield 15, 3) := q_o180 (a := 0) (b := 15) (by decide +kernel)
theorem dX0_rightAt_9 : decode cX0_rightAt 9 = .ok (.getfield 25, 3) := q_o180 (a := 0) (b := 25) (by decide +kernel)
theorem dX0_rightAt_12 : decode cX0_rightAt 12 = .ok (.if_icmp .ge 32, 3) := q_o162 (a := 0) (b := 32) (by decide +kernel) rfl
theorem dX0_rightAt_15 : decode cX0_rightAt 15 = .ok (.iload_n 2, 1) := q_o28 (by decide +kernel)
theorem dX0_rightAt_16 : decode cX0_rightAt 16 = .ok (.aload_n 0, 1) := q_o42 (by decide +kernel)
theorem dX0_rightAt_17 : decode cX0_rightAt 17 = .ok (.getfield 11, 3) := q_o180 (a := 0) (b := 11) (by decide +kernel)
theorem dX0_rightAt_20 : decode cX0_rightAt 20 = .ok (.bipush 32, 2) := q_o16 (a := 32) (by decide +kernel) rfl
theorem dX0_rightAt_22 : decode cX0_rightAt 22 = .ok (.iload_n 3, 1) := q_o29 (by decide +kernel)
theorem dX0_rightAt_23 : decode cX0_rightAt 23 = .ok (.iadd, 1) := q_o96 (by decide +kernel)
theorem dX0_rightAt_24 : decode cX0_rightAt 24 = .ok (.iaload, 1) := q_o46 (by decide +kernel)
theorem dX0_rightAt_25 : decode cX0_rightAt 25 = .ok (.iload_n 1, 1) := q_o27 (by decide +kernel)
theorem dX0_rightAt_26 : decode cX0_rightAt 26 = .ok (.if_icmp .ne 9, 3) := q_o160 (a := 0) (b := 9) (by decide +kernel) rfl
theorem dX0_rightAt_29 : decode cX0_rightAt 29 = .ok (.iconst 1, 1) := q_o4 (by decide +kernel)
theorem dX0_rightAt_30 : decode cX0_rightAt 30 = .ok (.iload_n 3, 1) := q_o29 (by decide +kernel)
theorem dX0_rightAt_31 : decode cX0_rightAt 31 = .ok (.ishl, 1) := by decide +kernel
theorem dX0_rightAt_32 : decode cX0_rightAt 32 = .ok (.goto 4, 3) := q_o167 (a := 0) (b := 4) (by decide +kernel) rfl
theorem dX0_rightAt_35 : decode cX0_rightAt 35 = .ok (.iconst 0, 1) := q_o3 (by decide +kernel)
theorem dX0_rightAt_36 : decode cX0_rightAt 36 = .ok (.ior, 1) := by decide +kernel
theorem dX0_rightAt_37 : decode cX0_rightAt 37 = .ok (.istore_n 2, 1) := q_o61 (by decide +kernel)
theorem dX0_rightAt_38 : decode cX0_rightAt 38 = .ok (.iinc 3 1, 3) := q_o132 (a := 3) (b := 1) (by decide +kernel) rfl
theorem dX0_rightAt_41 : decode cX0_rightAt 41 = .ok (.goto (-37), 3) := q_o167 (a := 255) (b := 219) (by decide +kernel) rfl
theorem dX0_rightAt_44 : decode cX0_rightAt 44 = .ok (.iload_n 2, 1) := q_o28 (by decide +kernel)
theorem dX0_rightAt_45 : decode cX0_rightAt 45 = .ok (.ireturn, 1) := q_o172 (by decide +kernel)
theorem dX0_running_0 : decode cX0_running 0 = .ok (.aload_n 0, 1) := q_o42 (by decide +kernel)
theorem dX0_running_1 : decode cX0_running 1 = .ok (.bipush 6, 2) := q_o16 (a := 6) (by decide +kernel) rfl
theorem dX0_running_3 : decode cX0_running 3 = .ok (.invokevirtual 42, 3) := q_o182 (a := 0) (b := 42) (by decide +kernel)
theorem dX0_running_6 : decode cX0_running 6 = .ok (.invokestatic 53, 3) := q_o184 (a := 0) (b := 53) (by decide +kernel)
theorem dX0_running_9 : decode cX0_running 9 = .ok (.ireturn, 1) := q_o172 (by decide +kernel)
theorem dX0_standing_0 : decode cX0_standing 0 = .ok (.iconst 0, 1) := q_o3 (by decide +kernel)
theorem dX0_standing_1 : decode cX0_standing 1 = .ok (.istore_n 1, 1) := q_o60 (by decide +kernel)
theorem dX0_standing_2 : decode cX0_standing 2 = .ok (.iload_n 1, 1) := q_o27 (by decide +kernel)
theorem dX0_standing_3 : decode cX0_standing 3 = .ok (.aload_n 0, 1) := q_o42 (by decide +kernel)
theorem dX0_standing_4 : decode cX0_standing 4 = .ok (.getfield 15, 3) := q_o180 (a := 0) (b := 15) (by decide +kernel)
theorem dX0_standing_7 : decode cX0_standing 7 = .ok (.getfield 25, 3) := q_o180 (a := 0) (b := 25) (by decide +kernel)
theorem dX0_standing_10 : decode cX0_standing 10 = .ok (.if_icmp .ge 19, 3) := q_o162 (a := 0) (b := 19) (by decide +kernel) rfl
theorem dX0_standing_13 : decode cX0_standing 13 = .ok (.aload_n 0, 1) := q_o42 (by decide +kernel)
theorem dX0_standing_14 : decode cX0_standing 14 = .ok (.iload_n 1, 1) := q_o27 (by decide +kernel)
theorem dX0_standing_15 : decode cX0_standing 15 = .ok (.invokevirtual 58, 3) := q_o182 (a := 0) (b := 58) (by decide +kernel)
theorem dX0_standing_18 : decode cX0_standing 18 = .ok (.ifCond .eq 5, 3) := q_o153 (a := 0) (b := 5) (by decide +kernel) rfl
theorem dX0_standing_21 : decode cX0_standing 21 = .ok (.iload_n 1, 1) := q_o27 (by decide +kernel)
theorem dX0_standing_22 : decode cX0_standing 22 = .ok (.ireturn, 1) := q_o172 (by decide +kernel)
theorem dX0_standing_23 : decode cX0_standing 23 = .ok (.iinc 1 1, 3) := q_o132 (a := 1) (b := 1) (by decide +kernel) rfl
theorem dX0_standing_26 : decode cX0_standing 26 = .ok (.goto (-24), 3) := q_o167 (a := 255) (b := 232) (by decide +kernel) rfl
theorem dX0_standing_29 : decode cX0_standing 29 = .ok (.iconst (-1), 1) := q_o2 (by decide +kernel)
theorem dX0_standing_30 : decode cX0_standing 30 = .ok (.ireturn, 1) := q_o172 (by decide +kernel)
theorem dX0_withAddress_0 : decode cX0_withAddress 0 = .ok (.iconst 0, 1) := q_o3 (by decide +kernel)
theorem dX0_withAddress_1 : decode cX0_withAddress 1 = .ok (.istore_n 2, 1) := q_o61 (by decide +kernel)
theorem dX0_withAddress_2 : decode cX0_withAddress 2 = .ok (.iload_n 2, 1) := q_o28 (by decide +kernel)
theorem dX0_withAddress_3 : decode cX0_withAddress 3 = .ok (.aload_n 0, 1) := q_o42 (by decide +kernel)
theorem dX0_withAddress_4 : decode cX0_withAddress 4 = .ok (.getfield 15, 3) := q_o180 (a := 0) (b := 15) (by decide +kernel)
theorem dX0_withAddress_7 : decode cX0_withAddress 7 = .ok (.getfield 25, 3) := q_o180 (a := 0) (b := 25) (by decide +kernel)
theorem dX0_withAddress_10 : decode cX0_withAddress 10 = .ok (.if_icmp .ge 24, 3) := q_o162 (a := 0) (b := 24) (by decide +kernel) rfl
theorem dX0_withAddress_13 : decode cX0_withAddress 13 = .ok (.aload_n 0, 1) := q_o42 (by decide +kernel)
theorem dX0_withAddress_14 : decode cX0_withAddress 14 = .ok (.getfield 11, 3) := q_o180 (a := 0) (b := 11) (by decide +kernel)
theorem dX0_withAddress_17 : decode cX0_withAddress 17 = .ok (.bipush 56, 2) := q_o16 (a := 56) (by decide +kernel) rfl
theorem dX0_withAddress_19 : decode cX0_withAddress 19 = .ok (.iload_n 2, 1) := q_o28 (by decide +kernel)
theorem dX0_withAddress_20 : decode cX0_withAddress 20 = .ok (.iadd, 1) := q_o96 (by decide +kernel)
theorem dX0_withAddress_21 : decode cX0_withAddress 21 = .ok (.iaload, 1) := q_o46 (by decide +kernel)
theorem dX0_withAddress_22 : decode cX0_withAddress 22 = .ok (.iload_n 1, 1) := q_o27 (by decide +kernel)
theorem dX0_withAddress_23 : decode cX0_withAddress 23 = .ok (.if_icmp .ne 5, 3) := q_o160 (a := 0) (b := 5) (by decide +kernel) rfl
theorem dX0_withAddress_26 : decode cX0_withAddress 26 = .ok (.iload_n 2, 1) := q_o28 (by decide +kernel)
theorem dX0_withAddress_27 : decode cX0_withAddress 27 = .ok (.ireturn, 1) := q_o172 (by decide +kernel)
theorem dX0_withAddress_28 : decode cX0_withAddress 28 = .ok (.iinc 2 1, 3) := q_o132 (a := 2) (b := 1) (by decide +kernel) rfl
theorem dX0_withAddress_31 : decode cX0_withAddress 31 = .ok (.goto (-29), 3) := q_o167 (a := 255) (b := 227) (by decide +kernel) rfl
theorem dX0_withAddress_34 : decode cX0_withAddress 34 = .ok (.iconst (-1), 1) := q_o2 (by decide +kernel)
theorem dX0_withAddress_35 : decode cX0_withAddress 35 = .ok (.ireturn, 1) := q_o172 (by decide +kernel)
theorem dX5_has_0 : decode cX5_has 0 = .ok (.iload_n 1, 1) := q_o27 (by decide +kernel)
theorem dX5_has_1 : decode cX5_has 1 = .ok (.ifCond .lt 15, 3) := q_o155 (a := 0) (b := 15) (by decide +kernel) rfl
theorem dX5_has_4 : decode cX5_has 4 = .ok (.iload_n 1, 1) := q_o27 (by decide +kernel)
theorem dX5_has_5 : decode cX5_has 5 = .ok (.aload_n 0, 1) := q_o42 (by decide +kernel)
theorem dX5_has_6 : decode cX5_has 6 = .ok (.getfield 18, 3) := q_o180 (a := 0) (b := 18) (by decide +kernel)
theorem dX5_has_9 : decode cX5_has 9 = .ok (.if_icmp .ge 7, 3) := q_o162 (a := 0) (b := 7) (by decide +kernel) rfl
theorem dX5_has_12 : decode cX5_has 12 = .ok (.iconst 1, 1) := q_o4 (by decide +kernel)
theorem dX5_has_13 : decode cX5_has 13 = .ok (.goto 4, 3) := q_o167 (a := 0) (b := 4) (by decide +kernel) rfl
theorem dX5_has_16 : decode cX5_has 16 = .ok (.iconst 0, 1) := q_o3 (by decide +kernel)
theorem dX5_has_17 : decode cX5_has 17 = .ok (.ireturn, 1) := q_o172 (by decide +kernel)
theorem dX5_hasPort_0 : decode cX5_hasPort 0 = .ok (.iload_n 2, 1) := q_o28 (by decide +kernel)
theorem dX5_hasPort_1 : decode cX5_hasPort 1 = .ok (.ifCond .lt 16, 3) := q_o155 (a := 0) (b := 16) (by decide +kernel) rfl
theorem dX5_hasPort_4 : decode cX5_hasPort 4 = .ok (.iload_n 2, 1) := q_o28 (by decide +kernel)
theorem dX5_hasPort_5 : decode cX5_hasPort 5 = .ok (.aload_n 0, 1) := q_o42 (by decide +kernel)
theorem dX5_hasPort_6 : decode cX5_hasPort 6 = .ok (.iload_n 1, 1) := q_o27 (by decide +kernel)
theorem dX5_hasPort_7 : decode cX5_hasPort 7 = .ok (.invokevirtual 34, 3) := q_o182 (a := 0) (b := 34) (by decide +kernel)
theorem dX5_hasPort_10 : decode cX5_hasPort 10 = .ok (.if_icmp .ge 7, 3) := q_o162 (a := 0) (b := 7) (by decide +kernel) rfl
theorem dX5_hasPort_13 : decode cX5_hasPort 13 = .ok (.iconst 1, 1) := q_o4 (by decide +kernel)
theorem dX5_hasPort_14 : decode cX5_hasPort 14 = .ok (.goto 4, 3) := q_o167 (a := 0) (b := 4) (by decide +kernel) rfl
theorem dX5_hasPort_17 : decode cX5_hasPort 17 = .ok (.iconst 0, 1) := q_o3 (by decide +kernel)
theorem dX5_hasPort_18 : decode cX5_hasPort 18 = .ok (.ireturn, 1) := q_o172 (by decide +kernel)
theorem dX5_isHub_0 : decode cX5_isHub 0 = .ok (.aload_n 0, 1) := q_o42 (by decide +kernel)
theorem dX5_isHub_1 : decode cX5_isHub 1 = .ok (.iload_n 1, 1) := q_o27 (by decide +kernel)
theorem dX5_isHub_2 : decode cX5_isHub 2 = .ok (.invokevirtual 34, 3) := q_o182 (a := 0) (b := 34) (by decide +kernel)
theorem dX5_isHub_5 : decode cX5_isHub 5 = .ok (.ifCond .le 7, 3) := q_o158 (a := 0) (b := 7) (by decide +kernel) rfl
theorem dX5_isHub_8 : decode cX5_isHub 8 = .ok (.iconst 1, 1) := q_o4 (by decide +kernel)
theorem dX5_isHub_9 : decode cX5_isHub 9 = .ok (.goto 4, 3) := q_o167 (a := 0) (b := 4) (by decide +kernel) rfl
theorem dX5_isHub_12 : decode cX5_isHub 12 = .ok (.iconst 0, 1) := q_o3 (by decide +kernel)
theorem dX5_isHub_13 : decode cX5_isHub 13 = .ok (.ireturn, 1) := q_o172 (by decide +kernel)
theorem dX5_isTold_0 : decode cX5_isTold 0 = .ok (.aload_n 0, 1) := q_o42 (by decide +kernel)
theorem dX5_isTold_1 : decode cX5_isTold 1 = .ok (.getfield 18, 3) := q_o180 (a := 0) (b := 18) (by decide +kernel)
theorem dX5_isTold_4 : decode cX5_isTold 4 = .ok (.ifCond .le 7, 3) := q_o158 (a := 0) (b := 7) (by decide +kernel) rfl
theorem dX5_isTold_7 : decode cX5_isTold 7 = .ok (.iconst 1, 1) := q_o4 (by decide +kernel)
theorem dX5_isTold_8 : decode cX5_isTold 8 = .ok (.goto 4, 3) := q_o167 (a := 0) (b := 4) (by decide +kernel) rfl
theorem dX5_isTold_11 : decode cX5_isTold 11 = .ok (.iconst 0, 1) := q_o3 (by decide +kernel)
theorem dX5_isTold_12 : decode cX5_isTold 12 = .ok (.ireturn, 1) := q_o172 (by decide +kernel)
theorem dX5_lengthOf_0 : decode cX5_lengthOf 0 = .ok (.bipush 8, 2) := q_o16 (a := 8) (by decide +kernel) rfl
theorem dX5_lengthOf_2 : decode cX5_lengthOf 2 = .ok (.aload_n 0, 1) := q_o42 (by decide +kernel)
theorem dX5_lengthOf_3 : decode cX5_lengthOf 3 = .ok (.getfield 15, 3) := q_o180 (a := 0) (b := 15) (by decide +kernel)
theorem dX5_lengthOf_6 : decode cX5_lengthOf 6 = .ok (.iconst 0, 1) := q_o3 (by decide +kernel)
theorem dX5_lengthOf_7 : decode cX5_lengthOf 7 = .ok (.iload_n 1, 1) := q_o27 (by decide +kernel)
theorem dX5_lengthOf_8 : decode cX5_lengthOf 8 = .ok (.iadd, 1) := q_o96 (by decide +kernel)
theorem dX5_lengthOf_9 : decode cX5_lengthOf 9 = .ok (.iaload, 1) := q_o46 (by decide +kernel)
theorem dX5_lengthOf_10 : decode cX5_lengthOf 10 = .ok (.iadd, 1) := q_o96 (by decide +kernel)
theorem dX5_lengthOf_11 : decode cX5_lengthOf 11 = .ok (.ireturn, 1) := q_o172 (by decide +kernel)
theorem dX5_portsOf_0 : decode cX5_portsOf 0 = .ok (.iload_n 1, 1) := q_o27 (by decide +kernel)
theorem dX5_portsOf_1 : decode cX5_portsOf 1 = .ok (.bipush 8, 2) := q_o16 (a := 8) (by decide +kernel) rfl
theorem dX5_portsOf_3 : decode cX5_portsOf 3 = .ok (.if_icmp .ne 17, 3) := q_o160 (a := 0) (b := 17) (by decide +kernel) rfl
theorem dX5_portsOf_6 : decode cX5_portsOf 6 = .ok (.aload_n 0, 1) := q_o42 (by decide +kernel)
theorem dX5_portsOf_7 : decode cX5_portsOf 7 = .ok (.getfield 18, 3) := q_o180 (a := 0) (b := 18) (by decide +kernel)
theorem dX5_portsOf_10 : decode cX5_portsOf 10 = .ok (.ifCond .le 10, 3) := q_o158 (a := 0) (b := 10) (by decide +kernel) rfl
theorem dX5_portsOf_13 : decode cX5_portsOf 13 = .ok (.aload_n 0, 1) := q_o42 (by decide +kernel)
theorem dX5_portsOf_14 : decode cX5_portsOf 14 = .ok (.getfield 9, 3) := q_o180 (a := 0) (b := 9) (by decide +kernel)
theorem dX5_portsOf_17 : decode cX5_portsOf 17 = .ok (.iconst 0, 1) := q_o3 (by decide +kernel)
theorem dX5_portsOf_18 : decode cX5_portsOf 18 = .ok (.iaload, 1) := q_o46 (by decide +kernel)
theorem dX5_portsOf_19 : decode cX5_portsOf 19 = .ok (.ireturn, 1) := q_o172 (by decide +kernel)
theorem dX5_portsOf_20 : decode cX5_portsOf 20 = .ok (.iload_n 1, 1) := q_o27 (by decide +kernel)
theorem dX5_portsOf_21 : decode cX5_portsOf 21 = .ok (.ifCond .lt 22, 3) := q_o155 (a := 0) (b := 22) (by decide +kernel) rfl
theorem dX5_portsOf_24 : decode cX5_portsOf 24 = .ok (.iload_n 1, 1) := q_o27 (by decide +kernel)
theorem dX5_portsOf_25 : decode cX5_portsOf 25 = .ok (.aload_n 0, 1) := q_o42 (by decide +kernel)
theorem dX5_portsOf_26 : decode cX5_portsOf 26 = .ok (.getfield 18, 3) := q_o180 (a := 0) (b := 18) (by decide +kernel)
theorem dX5_portsOf_29 : decode cX5_portsOf 29 = .ok (.if_icmp .ge 14, 3) := q_o162 (a := 0) (b := 14) (by decide +kernel) rfl
theorem dX5_portsOf_32 : decode cX5_portsOf 32 = .ok (.aload_n 0, 1) := q_o42 (by decide +kernel)
theorem dX5_portsOf_33 : decode cX5_portsOf 33 = .ok (.getfield 15, 3) := q_o180 (a := 0) (b := 15) (by decide +kernel)
theorem dX5_portsOf_36 : decode cX5_portsOf 36 = .ok (.iconst 0, 1) := q_o3 (by decide +kernel)
theorem dX5_portsOf_37 : decode cX5_portsOf 37 = .ok (.iload_n 1, 1) := q_o27 (by decide +kernel)
theorem dX5_portsOf_38 : decode cX5_portsOf 38 = .ok (.iadd, 1) := q_o96 (by decide +kernel)
theorem dX5_portsOf_39 : decode cX5_portsOf 39 = .ok (.iaload, 1) := q_o46 (by decide +kernel)
theorem dX5_portsOf_40 : decode cX5_portsOf 40 = .ok (.goto 4, 3) := q_o167 (a := 0) (b := 4) (by decide +kernel) rfl
theorem dX5_portsOf_43 : decode cX5_portsOf 43 = .ok (.iconst 0, 1) := q_o3 (by decide +kernel)
theorem dX5_portsOf_44 : decode cX5_portsOf 44 = .ok (.ireturn, 1) := q_o172 (by decide +kernel)
theorem hdS_yJ6_bitCount_0f7a4_1 : yJ6_bitCount_0f7a4.cls ≠ "java/lang/invoke/MethodHandle" ∧ yJ6_bitCount_0f7a4.cls ≠ "java/lang/invoke/VarHandle" ∧ (parseMethodDescriptor yJ6_bitCount_0f7a4.desc).map (fun d => d.parameters.length) = some 1 := by decide +kernel
theorem hdV_yX0_allThatAre_1 : yX0_allThatAre.cls = RX0 ∧ yX0_allThatAre.cls ≠ "java/lang/invoke/MethodHandle" ∧ yX0_allThatAre.cls ≠ "java/lang/invoke/VarHandle" ∧ (parseMethodDescriptor yX0_allThatAre.desc).map (fun d => d.parameters.length) = some 1 := by decide +kernel
theorem hdV_yX0_depthOf_1 : yX0_depthOf.cls = RX0 ∧ yX0_depthOf.cls ≠ "java/lang/invoke/MethodHandle" ∧ yX0_depthOf.cls ≠ "java/lang/invoke/VarHandle" ∧ (parseMethodDescriptor yX0_depthOf.desc).map (fun d => d.parameters.length) = some 1 := by decide +kernel
theorem hdV_yX0_hangsOn_2 : yX0_hangsOn.cls = RX0 ∧ yX0_hangsOn.cls ≠ "java/lang/invoke/MethodHandle" ∧ yX0_hangsOn.cls ≠ "java/lang/invoke/VarHandle" ∧ (parseMethodDescriptor yX0_hangsOn.desc).map (fun d => d.parameters.length) = some 2 := by decide +kernel
theorem hdV_yX0_isStanding_1 : yX0_isStanding.cls = RX0 ∧ yX0_isStanding.cls ≠ "java/lang/invoke/MethodHandle" ∧ yX0_isStanding.cls ≠ "java/lang/invoke/VarHandle" ∧ (parseMethodDescriptor yX0_isStanding.desc).map (fun d => d.parameters.length) = some 1 := by decide +kernel
theorem hdV_yX0_is_2 : yX0_is.cls = RX0 ∧ yX0_is.cls ≠ "java/lang/invoke/MethodHandle" ∧ yX0_is.cls ≠ "java/lang/invoke/VarHandle" ∧ (parseMethodDescriptor yX0_is.desc).map (fun d => d.parameters.length) = some 2 := by decide +kernel
theorem hdV_yX0_pluggedInto_2 : yX0_pluggedInto.cls = RX0 ∧ yX0_pluggedInto.cls ≠ "java/lang/invoke/MethodHandle" ∧ yX0_pluggedInto.cls ≠ "java/lang/invoke/VarHandle" ∧ (parseMethodDescriptor yX0_pluggedInto.desc).map (fun d => d.parameters.length) = some 2 := by decide +kernel
theorem hdV_yX5_portsOf_1 : yX5_portsOf.cls = RX5 ∧ yX5_portsOf.cls ≠ "java/lang/invoke/MethodHandle" ∧ yX5_portsOf.cls ≠ "java/lang/invoke/VarHandle" ∧ (parseMethodDescriptor yX5_portsOf.desc).map (fun d => d.parameters.length) = some 1 := by decide +kernel
def F_X5_isTold (dv : Int32) : Option (Int32) := (if dv ≤ 0 then some (0) else some (1))
set_option maxHeartbeats 4000000 in
set_option maxRecDepth 100000 in
theorem c_X5_isTold (l : Launch) (dC : Nat → ClassId) (dI : Nat → Nat → Nat) (h : Nat) (r1 : Nat) (r2 : Nat) (dv : Int32) (o : Int32) (hG : F_X5_isTold dv = some o) : Met l yX5_isTold (.code yX5_isTold cX5_isTold 1 (some .boolean) :: wA) ({ frames := 0, cells := 0, slots := 0, locals := 0 }) (va_Pc [.ref h] (q_R (dC, dI) [(h, .inr (5, [.ref r1, .ref r2, .int dv]))] [])) (q_i o) 0 0 (fun _ => False) := by
  refine Met.ofW (cc := cX5_isTold) (maxL := 1) (ret := (some .boolean)) (by decide) rfl ?_
  intro p e s m args below meth c s₁ B hml hv
  obtain ⟨rfl, hP, hK⟩ := hv
  have hx := B.exec
  have hb := B.bytes
  have hr := B.returns
  have hts := atoms_spec (ws := .code yX5_isTold cX5_isTold 1 (some .boolean) :: wA) B.pre
  have hown : s.vm.findClass RX5 = some m.cls := findClass_of_methodNamed B.named
  have hlocks := B.notSynchronized
  have hS : va_S (fun _ => False) s.heap s.heap [] := va_S.rf
  have hl := lv_entry ([.ref h]) (n := 1) (Nat.le_of_ble_eq_true rfl)
  rw [lg_entry_eq]
  generalize (lg_sl ([.ref h]) ++ List.replicate (1 - (lg_sl ([.ref h])).length) Slot.unset).toArray = ls at hl ⊢
  have hl : lv_has ls 1 [(0, .ref h)] := hl
  unfold F_X5_isTold at hG
  refine lv_aload_n hx hb dX5_isTold_0 rfl (lv_at hl 0 rfl) ?_
  refine va_get (D := (dC, dI)) (ci := 5) (v := .int dv) (C := RX5) (T := TX5) (N := 3) hx hb hts iA_5 hown hK hP 0 rfl rfl 2 (by decide) (hts (.fieldLink RX5 18 "HubTree$Plan" "devices" "I") (List.mem_cons_of_mem _ m_75)) (fun _ h9 => h9) rfl dX5_isTold_1 ?_
  refine lv_if_le (tgt := 11) hx hb dX5_isTold_4 (by decide) (fun c_1 => ?_) (fun c_1 => ?_)
  · have hG := q_ifp c_1 hG
    refine lv_iconst (v := 0) hx hb dX5_isTold_11 (by decide) ?_
    obtain rfl := Option.some.inj hG
    exact W.zret (v := 0) hx hb hr rfl (fun t ht hW => ⟨⟨0, (), rfl, rfl, trivial⟩, hS.F ht⟩) hS.2.2 dX5_isTold_12
  · have hG := q_ifn c_1 hG
    refine lv_iconst (v := 1) hx hb dX5_isTold_7 (by decide) ?_
    refine lv_goto (tgt := 12) hx hb dX5_isTold_8 (by decide) ?_
    obtain rfl := Option.some.inj hG
    exact W.zret (v := 1) hx hb hr rfl (fun t ht hW => ⟨⟨1, (), rfl, rfl, trivial⟩, hS.F ht⟩) hS.2.2 dX5_isTold_12

def F_X5_has (dv : Int32) (d : Int32) : Option (Int32) := (if d < 0 then some (0) else (if dv ≤ d then some (0) else some (1)))
set_option maxHeartbeats 4000000 in
set_option maxRecDepth 100000 in
theorem c_X5_has (l : Launch) (dC : Nat → ClassId) (dI : Nat → Nat → Nat) (h : Nat) (r1 : Nat) (r2 : Nat) (dv : Int32) (d : Int32) (o : Int32) (hG : F_X5_has dv d = some o) : Met l yX5_has (.code yX5_has cX5_has 2 (some .boolean) :: wA) ({ frames := 0, cells := 0, slots := 0, locals := 0 }) (va_Pc [.ref h, .int d] (q_R (dC, dI) [(h, .inr (5, [.ref r1, .ref r2, .int dv]))] [])) (q_i o) 0 0 (fun _ => False) := by
  refine Met.ofW (cc := cX5_has) (maxL := 2) (ret := (some .boolean)) (by decide) rfl ?_
  intro p e s m args below meth c s₁ B hml hv
  obtain ⟨rfl, hP, hK⟩ := hv
  have hx := B.exec
  have hb := B.bytes
  have hr := B.returns
  have hts := atoms_spec (ws := .code yX5_has cX5_has 2 (some .boolean) :: wA) B.pre
  have hown : s.vm.findClass RX5 = some m.cls := findClass_of_methodNamed B.named
  have hlocks := B.notSynchronized
  have hS : va_S (fun _ => False) s.heap s.heap [] := va_S.rf
  have hl := lv_entry ([.ref h, .int d]) (n := 2) (Nat.le_of_ble_eq_true rfl)
  rw [lg_entry_eq]
  generalize (lg_sl ([.ref h, .int d]) ++ List.replicate (2 - (lg_sl ([.ref h, .int d])).length) Slot.unset).toArray = ls at hl ⊢
  have hl : lv_has ls 2 [(0, .ref h), (1, .int d)] := hl
  unfold F_X5_has at hG
  refine lv_iload_n hx hb dX5_has_0 rfl (lv_at hl 1 rfl) ?_
  refine lv_if_lt (tgt := 16) hx hb dX5_has_1 (by decide) (fun c_1 => ?_) (fun c_1 => ?_)
  · have hG := q_ifp c_1 hG
    refine lv_iconst (v := 0) hx hb dX5_has_16 (by decide) ?_
    obtain rfl := Option.some.inj hG
    exact W.zret (v := 0) hx hb hr rfl (fun t ht hW => ⟨⟨0, (), rfl, rfl, trivial⟩, hS.F ht⟩) hS.2.2 dX5_has_17
  · have hG := q_ifn c_1 hG
    refine lv_iload_n hx hb dX5_has_4 rfl (lv_at hl 1 rfl) ?_
    refine lv_aload_n hx hb dX5_has_5 rfl (lv_at hl 0 rfl) ?_
    refine va_get (D := (dC, dI)) (ci := 5) (v := .int dv) (C := RX5) (T := TX5) (N := 3) hx hb hts iA_5 hown hK hP 0 rfl rfl 2 (by decide) (hts (.fieldLink RX5 18 "HubTree$Plan" "devices" "I") (List.mem_cons_of_mem _ m_75)) (fun _ h9 => h9) rfl dX5_has_6 ?_
    refine lv_icmp_ge (tgt := 16) hx hb dX5_has_9 (by decide) (fun c_2 => ?_) (fun c_2 => ?_)
    · have hG := q_ifp c_2 hG
      refine lv_iconst (v := 0) hx hb dX5_has_16 (by decide) ?_
      obtain rfl := Option.some.inj hG
      exact W.zret (v := 0) hx hb hr rfl (fun t ht hW => ⟨⟨0, (), rfl, rfl, trivial⟩, hS.F ht⟩) hS.2.2 dX5_has_17
    · have hG := q_ifn c_2 hG
      refine lv_iconst (v := 1) hx hb dX5_has_12 (by decide) ?_
      refine lv_goto (tgt := 17) hx hb dX5_has_13 (by decide) ?_
      obtain rfl := Option.some.inj hG
      exact W.zret (v := 1) hx hb hr rfl (fun t ht hW => ⟨⟨1, (), rfl, rfl, trivial⟩, hS.F ht⟩) hS.2.2 dX5_has_17

def F_X5_portsOf (dv : Int32) (fu : Nat → Int32) (fp : Nat → Int32) (d : Int32) : Option (Int32) := (if d = 8 then (if dv ≤ 0 then (if d < 0 then some (0) else (if dv ≤ d then some (0) else (if (0 + d) < 0 ∨ 48 ≤ ((0 + d)).toNatClampNeg then none else some ((fp (0 + d).toNatClampNeg))))) else some ((fu 0))) else (if d < 0 then some (0) else (if dv ≤ d then some (0) else (if (0 + d) < 0 ∨ 48 ≤ ((0 + d)).toNatClampNeg then none else some ((fp (0 + d).toNatClampNeg))))))
set_option maxHeartbeats 4000000 in
set_option maxRecDepth 100000 in
theorem c_X5_portsOf (l : Launch) (dC : Nat → ClassId) (dI : Nat → Nat → Nat) (h : Nat) (r1 : Nat) (r2 : Nat) (dv : Int32) (c1 : ClassId) (c2 : ClassId) (fu : Nat → Int32) (fp : Nat → Int32) (d : Int32) (o : Int32) (hG : F_X5_portsOf dv fu fp d = some o) : Met l yX5_portsOf (.code yX5_portsOf cX5_portsOf 2 (some .int) :: wA) ({ frames := 0, cells := 0, slots := 0, locals := 0 }) (va_Pc [.ref h, .int d] (q_R (dC, dI) [(h, .inr (5, [.ref r1, .ref r2, .int dv])), (r1, .inl (c1, 8, .inl fu)), (r2, .inl (c2, 48, .inl fp))] [(c1, .int), (c2, .int)])) (q_i o) 0 0 (fun _ => False) := by
  refine Met.ofW (cc := cX5_portsOf) (maxL := 2) (ret := (some .int)) (by decide) rfl ?_
  intro p e s m args below meth c s₁ B hml hv
  obtain ⟨rfl, hP, hK⟩ := hv
  have hx := B.exec
  have hb := B.bytes
  have hr := B.returns
  have hts := atoms_spec (ws := .code yX5_portsOf cX5_portsOf 2 (some .int) :: wA) B.pre
  have hown : s.vm.findClass RX5 = some m.cls := findClass_of_methodNamed B.named
  have hlocks := B.notSynchronized
  have hS : va_S (fun _ => False) s.heap s.heap [] := va_S.rf
  have hl := lv_entry ([.ref h, .int d]) (n := 2) (Nat.le_of_ble_eq_true rfl)
  rw [lg_entry_eq]
  generalize (lg_sl ([.ref h, .int d]) ++ List.replicate (2 - (lg_sl ([.ref h, .int d])).length) Slot.unset).toArray = ls at hl ⊢
  have hl : lv_has ls 2 [(0, .ref h), (1, .int d)] := hl
  unfold F_X5_portsOf at hG
  refine lv_iload_n hx hb dX5_portsOf_0 rfl (lv_at hl 1 rfl) ?_
  refine lv_bipush (v := 8) hx hb dX5_portsOf_1 (by decide) ?_
  refine lv_icmp_ne (tgt := 20) hx hb dX5_portsOf_3 (by decide) (fun c_1 => ?_) (fun c_1 => ?_)
  · have hG := q_ifn c_1 hG
    refine lv_iload_n hx hb dX5_portsOf_20 rfl (lv_at hl 1 rfl) ?_
    refine lv_if_lt (tgt := 43) hx hb dX5_portsOf_21 (by decide) (fun c_2 => ?_) (fun c_2 => ?_)
    · have hG := q_ifp c_2 hG
      refine lv_iconst (v := 0) hx hb dX5_portsOf_43 (by decide) ?_
      obtain rfl := Option.some.inj hG
      exact W.iret (v := 0) hx hb hr (fun t ht hW => ⟨⟨0, (), rfl, rfl, trivial⟩, hS.F ht⟩) hS.2.2 dX5_portsOf_44
    · have hG := q_ifn c_2 hG
      refine lv_iload_n hx hb dX5_portsOf_24 rfl (lv_at hl 1 rfl) ?_
      refine lv_aload_n hx hb dX5_portsOf_25 rfl (lv_at hl 0 rfl) ?_
      refine va_get (D := (dC, dI)) (ci := 5) (v := .int dv) (C := RX5) (T := TX5) (N := 3) hx hb hts iA_5 hown hK hP 0 rfl rfl 2 (by decide) (hts (.fieldLink RX5 18 "HubTree$Plan" "devices" "I") (List.mem_cons_of_mem _ m_75)) (fun _ h9 => h9) rfl dX5_portsOf_26 ?_
      refine lv_icmp_ge (tgt := 43) hx hb dX5_portsOf_29 (by decide) (fun c_3 => ?_) (fun c_3 => ?_)
      · have hG := q_ifp c_3 hG
        refine lv_iconst (v := 0) hx hb dX5_portsOf_43 (by decide) ?_
        obtain rfl := Option.some.inj hG
        exact W.iret (v := 0) hx hb hr (fun t ht hW => ⟨⟨0, (), rfl, rfl, trivial⟩, hS.F ht⟩) hS.2.2 dX5_portsOf_44
      · have hG := q_ifn c_3 hG
        refine lv_aload_n hx hb dX5_portsOf_32 rfl (lv_at hl 0 rfl) ?_
        refine va_get (D := (dC, dI)) (ci := 5) (v := .ref r2) (C := RX5) (T := TX5) (N := 3) hx hb hts iA_5 hown hK hP 0 rfl rfl 1 (by decide) (hts (.fieldLink RX5 15 "HubTree$Plan" "row" "[I") (List.mem_cons_of_mem _ m_74)) (fun _ h9 => h9) rfl dX5_portsOf_33 ?_
        refine lv_iconst (v := 0) hx hb dX5_portsOf_36 (by decide) ?_
        refine lv_iload_n hx hb dX5_portsOf_37 rfl (lv_at hl 1 rfl) ?_
        refine lv_iadd hx hb dX5_portsOf_38 ?_
        obtain ⟨h_4, hG⟩ := q_ix hG
        refine va_iald hx hb hK hP 2 1 rfl rfl (i := (0 + d)) h_4 dX5_portsOf_39 ?_
        refine q_top (y := (fp (0 + d).toNatClampNeg)) rfl ?_
        refine lv_goto (tgt := 44) hx hb dX5_portsOf_40 (by decide) ?_
        obtain rfl := Option.some.inj hG
        exact W.iret (v := (fp (0 + d).toNatClampNeg)) hx hb hr (fun t ht hW => ⟨⟨(fp (0 + d).toNatClampNeg), (), rfl, rfl, trivial⟩, hS.F ht⟩) hS.2.2 dX5_portsOf_44
  · have hG := q_ifp c_1 hG
    refine lv_aload_n hx hb dX5_portsOf_6 rfl (lv_at hl 0 rfl) ?_
    refine va_get (D := (dC, dI)) (ci := 5) (v := .int dv) (C := RX5) (T := TX5) (N := 3) hx hb hts iA_5 hown hK hP 0 rfl rfl 2 (by decide) (hts (.fieldLink RX5 18 "HubTree$Plan" "devices" "I") (List.mem_cons_of_mem _ m_75)) (fun _ h9 => h9) rfl dX5_portsOf_7 ?_
    refine lv_if_le (tgt := 20) hx hb dX5_portsOf_10 (by decide) (fun c_5 => ?_) (fun c_5 => ?_)
    · have hG := q_ifp c_5 hG
      refine lv_iload_n hx hb dX5_portsOf_20 rfl (lv_at hl 1 rfl) ?_
      refine lv_if_lt (tgt := 43) hx hb dX5_portsOf_21 (by decide) (fun c_6 => ?_) (fun c_6 => ?_)
      · have hG := q_ifp c_6 hG
        refine lv_iconst (v := 0) hx hb dX5_portsOf_43 (by decide) ?_
        obtain rfl := Option.some.inj hG
        exact W.iret (v := 0) hx hb hr (fun t ht hW => ⟨⟨0, (), rfl, rfl, trivial⟩, hS.F ht⟩) hS.2.2 dX5_portsOf_44
      · have hG := q_ifn c_6 hG
        refine lv_iload_n hx hb dX5_portsOf_24 rfl (lv_at hl 1 rfl) ?_
        refine lv_aload_n hx hb dX5_portsOf_25 rfl (lv_at hl 0 rfl) ?_
        refine va_get (D := (dC, dI)) (ci := 5) (v := .int dv) (C := RX5) (T := TX5) (N := 3) hx hb hts iA_5 hown hK hP 0 rfl rfl 2 (by decide) (hts (.fieldLink RX5 18 "HubTree$Plan" "devices" "I") (List.mem_cons_of_mem _ m_75)) (fun _ h9 => h9) rfl dX5_portsOf_26 ?_
        refine lv_icmp_ge (tgt := 43) hx hb dX5_portsOf_29 (by decide) (fun c_7 => ?_) (fun c_7 => ?_)
        · have hG := q_ifp c_7 hG
          refine lv_iconst (v := 0) hx hb dX5_portsOf_43 (by decide) ?_
          obtain rfl := Option.some.inj hG
          exact W.iret (v := 0) hx hb hr (fun t ht hW => ⟨⟨0, (), rfl, rfl, trivial⟩, hS.F ht⟩) hS.2.2 dX5_portsOf_44
        · have hG := q_ifn c_7 hG
          refine lv_aload_n hx hb dX5_portsOf_32 rfl (lv_at hl 0 rfl) ?_
          refine va_get (D := (dC, dI)) (ci := 5) (v := .ref r2) (C := RX5) (T := TX5) (N := 3) hx hb hts iA_5 hown hK hP 0 rfl rfl 1 (by decide) (hts (.fieldLink RX5 15 "HubTree$Plan" "row" "[I") (List.mem_cons_of_mem _ m_74)) (fun _ h9 => h9) rfl dX5_portsOf_33 ?_
          refine lv_iconst (v := 0) hx hb dX5_portsOf_36 (by decide) ?_
          refine lv_iload_n hx hb dX5_portsOf_37 rfl (lv_at hl 1 rfl) ?_
          refine lv_iadd hx hb dX5_portsOf_38 ?_
          obtain ⟨h_8, hG⟩ := q_ix hG
          refine va_iald hx hb hK hP 2 1 rfl rfl (i := (0 + d)) h_8 dX5_portsOf_39 ?_
          refine q_top (y := (fp (0 + d).toNatClampNeg)) rfl ?_
          refine lv_goto (tgt := 44) hx hb dX5_portsOf_40 (by decide) ?_
          obtain rfl := Option.some.inj hG
          exact W.iret (v := (fp (0 + d).toNatClampNeg)) hx hb hr (fun t ht hW => ⟨⟨(fp (0 + d).toNatClampNeg), (), rfl, rfl, trivial⟩, hS.F ht⟩) hS.2.2 dX5_portsOf_44
    · have hG := q_ifn c_5 hG
      refine lv_aload_n hx hb dX5_portsOf_13 rfl (lv_at hl 0 rfl) ?_
      refine va_get (D := (dC, dI)) (ci := 5) (v := .ref r1) (C := RX5) (T := TX5) (N := 3) hx hb hts iA_5 hown hK hP 0 rfl rfl 0 (by decide) (hts (.fieldLink RX5 9 "HubTree$Plan" "rules" "[I") (List.mem_cons_of_mem _ m_73)) (fun _ h9 => h9) rfl dX5_portsOf_14 ?_
      refine lv_iconst (v := 0) hx hb dX5_portsOf_17 (by decide) ?_
      refine va_iald hx hb hK hP 1 0 rfl rfl (i := 0) (vp_in_iff.mpr (by decide)) dX5_portsOf_18 ?_
      refine q_top (y := (fu 0)) rfl ?_
      obtain rfl := Option.some.inj hG
      exact W.iret (v := (fu 0)) hx hb hr (fun t ht hW => ⟨⟨(fu 0), (), rfl, rfl, trivial⟩, hS.F ht⟩) hS.2.2 dX5_portsOf_19

def F_X5_isHub (dv : Int32) (fu : Nat → Int32) (fp : Nat → Int32) (d : Int32) : Option (Int32) := ((F_X5_portsOf dv fu fp d).bind fun o_1 => (if o_1 ≤ 0 then some (0) else some (1)))
set_option maxHeartbeats 4000000 in
set_option maxRecDepth 100000 in
theorem c_X5_isHub (l : Launch) (dC : Nat → ClassId) (dI : Nat → Nat → Nat) (h : Nat) (r1 : Nat) (r2 : Nat) (dv : Int32) (c1 : ClassId) (c2 : ClassId) (fu : Nat → Int32) (fp : Nat → Int32) (d : Int32) (o : Int32) (hG : F_X5_isHub dv fu fp d = some o) : Met l yX5_isHub (.code yX5_isHub cX5_isHub 2 (some .boolean) :: wA) ({ frames := 1, cells := 0, slots := 0, locals := 21 }) (va_Pc [.ref h, .int d] (q_R (dC, dI) [(h, .inr (5, [.ref r1, .ref r2, .int dv])), (r1, .inl (c1, 8, .inl fu)), (r2, .inl (c2, 48, .inl fp))] [(c1, .int), (c2, .int)])) (q_i o) 0 0 (fun _ => False) := by
  refine Met.ofW (cc := cX5_isHub) (maxL := 2) (ret := (some .boolean)) (by decide) rfl ?_
  intro p e s m args below meth c s₁ B hml hv
  obtain ⟨rfl, hP, hK⟩ := hv
  have hx := B.exec
  have hb := B.bytes
  have hr := B.returns
  have hts := atoms_spec (ws := .code yX5_isHub cX5_isHub 2 (some .boolean) :: wA) B.pre
  have hown : s.vm.findClass RX5 = some m.cls := findClass_of_methodNamed B.named
  have hlocks := B.notSynchronized
  have hS : va_S (fun _ => False) s.heap s.heap [] := va_S.rf
  have hl := lv_entry ([.ref h, .int d]) (n := 2) (Nat.le_of_ble_eq_true rfl)
  rw [lg_entry_eq]
  generalize (lg_sl ([.ref h, .int d]) ++ List.replicate (2 - (lg_sl ([.ref h, .int d])).length) Slot.unset).toArray = ls at hl ⊢
  have hl : lv_has ls 2 [(0, .ref h), (1, .int d)] := hl
  unfold F_X5_isHub at hG
  refine lv_aload_n hx hb dX5_isHub_0 rfl (lv_at hl 0 rfl) ?_
  refine lv_iload_n hx hb dX5_isHub_1 rfl (lv_at hl 1 rfl) ?_
  obtain ⟨o_1, r_2, hG⟩ := q_bi hG
  refine q_goi (v := o_1) (va_runV (As := [.int d]) (rest := []) ⟨hx, hb, hml, hown, hts⟩ (c_X5_portsOf l dC dI h r1 r2 dv c1 c2 fu fp d o_1 r_2) (cwV 1 hts (q_gV m_528 m_529 m_530 m_24 m_531) rfl rfl rfl hdV_yX5_portsOf_1 ⟨Nat.le_of_ble_eq_true rfl, Nat.le_of_ble_eq_true rfl⟩) (q_preV hK hP (q := (RX5, TX5, 3)) (ci := 5) (q0 := 0) rfl rfl [0, 1, 2] rfl [0, 1] rfl) rfl rfl hl.1 rfl (lv_room (Nat.le_of_ble_eq_true rfl)) dX5_isHub_2 ⟨Nat.le_of_ble_eq_true rfl, Nat.le_of_ble_eq_true rfl⟩) hP hS (fun H locs hP hS => ?_)
  refine lv_if_le (tgt := 12) hx hb dX5_isHub_5 (by decide) (fun c_3 => ?_) (fun c_3 => ?_)
  · have hG := q_ifp c_3 hG
    refine lv_iconst (v := 0) hx hb dX5_isHub_12 (by decide) ?_
    obtain rfl := Option.some.inj hG
    exact W.zret (v := 0) hx hb hr rfl (fun t ht hW => ⟨⟨0, (), rfl, rfl, trivial⟩, hS.F ht⟩) hS.2.2 dX5_isHub_13
  · have hG := q_ifn c_3 hG
    refine lv_iconst (v := 1) hx hb dX5_isHub_8 (by decide) ?_
    refine lv_goto (tgt := 13) hx hb dX5_isHub_9 (by decide) ?_
    obtain rfl := Option.some.inj hG
    exact W.zret (v := 1) hx hb hr rfl (fun t ht hW => ⟨⟨1, (), rfl, rfl, trivial⟩, hS.F ht⟩) hS.2.2 dX5_isHub_13

def F_X5_hasPort (dv : Int32) (fu : Nat → Int32) (fp : Nat → Int32) (d : Int32) (ee : Int32) : Option (Int32) := (if ee < 0 then some (0) else ((F_X5_portsOf dv fu fp d).bind fun o_2 => (if o_2 ≤ ee then some (0) else some (1))))
set_option maxHeartbeats 4000000 in
set_option maxRecDepth 100000 in
theorem c_X5_hasPort (l : Launch) (dC : Nat → ClassId) (dI : Nat → Nat → Nat) (h : Nat) (r1 : Nat) (r2 : Nat) (dv : Int32) (c1 : ClassId) (c2 : ClassId) (fu : Nat → Int32) (fp : Nat → Int32) (d : Int32) (ee : Int32) (o : Int32) (hG : F_X5_hasPort dv fu fp d ee = some o) : Met l yX5_hasPort (.code yX5_hasPort cX5_hasPort 3 (some .boolean) :: wA) ({ frames := 1, cells := 0, slots := 0, locals := 21 }) (va_Pc [.ref h, .int d, .int ee] (q_R (dC, dI) [(h, .inr (5, [.ref r1, .ref r2, .int dv])), (r1, .inl (c1, 8, .inl fu)), (r2, .inl (c2, 48, .inl fp))] [(c1, .int), (c2, .int)])) (q_i o) 0 0 (fun _ => False) := by
  refine Met.ofW (cc := cX5_hasPort) (maxL := 3) (ret := (some .boolean)) (by decide) rfl ?_
  intro p e s m args below meth c s₁ B hml hv
  obtain ⟨rfl, hP, hK⟩ := hv
  have hx := B.exec
  have hb := B.bytes
  have hr := B.returns
  have hts := atoms_spec (ws := .code yX5_hasPort cX5_hasPort 3 (some .boolean) :: wA) B.pre
  have hown : s.vm.findClass RX5 = some m.cls := findClass_of_methodNamed B.named
  have hlocks := B.notSynchronized
  have hS : va_S (fun _ => False) s.heap s.heap [] := va_S.rf
  have hl := lv_entry ([.ref h, .int d, .int ee]) (n := 3) (Nat.le_of_ble_eq_true rfl)
  rw [lg_entry_eq]
  generalize (lg_sl ([.ref h, .int d, .int ee]) ++ List.replicate (3 - (lg_sl ([.ref h, .int d, .int ee])).length) Slot.unset).toArray = ls at hl ⊢
  have hl : lv_has ls 3 [(0, .ref h), (1, .int d), (2, .int ee)] := hl
  unfold F_X5_hasPort at hG
  refine lv_iload_n hx hb dX5_hasPort_0 rfl (lv_at hl 2 rfl) ?_
  refine lv_if_lt (tgt := 17) hx hb dX5_hasPort_1 (by decide) (fun c_1 => ?_) (fun c_1 => ?_)
  · have hG := q_ifp c_1 hG
    refine lv_iconst (v := 0) hx hb dX5_hasPort_17 (by decide) ?_
    obtain rfl := Option.some.inj hG
    exact W.zret (v := 0) hx hb hr rfl (fun t ht hW => ⟨⟨0, (), rfl, rfl, trivial⟩, hS.F ht⟩) hS.2.2 dX5_hasPort_18
  · have hG := q_ifn c_1 hG
    refine lv_iload_n hx hb dX5_hasPort_4 rfl (lv_at hl 2 rfl) ?_
    refine lv_aload_n hx hb dX5_hasPort_5 rfl (lv_at hl 0 rfl) ?_
    refine lv_iload_n hx hb dX5_hasPort_6 rfl (lv_at hl 1 rfl) ?_
    obtain ⟨o_2, r_3, hG⟩ := q_bi hG
    refine q_goi (v := o_2) (va_runV (As := [.int d]) (rest := [.int ee]) ⟨hx, hb, hml, hown, hts⟩ (c_X5_portsOf l dC dI h r1 r2 dv c1 c2 fu fp d o_2 r_3) (cwV 1 hts (q_gV m_528 m_529 m_530 m_24 m_531) rfl rfl rfl hdV_yX5_portsOf_1 ⟨Nat.le_of_ble_eq_true rfl, Nat.le_of_ble_eq_true rfl⟩) (q_preV hK hP (q := (RX5, TX5, 3)) (ci := 5) (q0 := 0) rfl rfl [0, 1, 2] rfl [0, 1] rfl) rfl rfl hl.1 rfl (lv_room (Nat.le_of_ble_eq_true rfl)) dX5_hasPort_7 ⟨Nat.le_of_ble_eq_true rfl, Nat.le_of_ble_eq_true rfl⟩) hP hS (fun H locs hP hS => ?_)
    refine lv_icmp_ge (tgt := 17) hx hb dX5_hasPort_10 (by decide) (fun c_4 => ?_) (fun c_4 => ?_)
    · have hG := q_ifp c_4 hG
      refine lv_iconst (v := 0) hx hb dX5_hasPort_17 (by decide) ?_
      obtain rfl := Option.some.inj hG
      exact W.zret (v := 0) hx hb hr rfl (fun t ht hW => ⟨⟨0, (), rfl, rfl, trivial⟩, hS.F ht⟩) hS.2.2 dX5_hasPort_18
    · have hG := q_ifn c_4 hG
      refine lv_iconst (v := 1) hx hb dX5_hasPort_13 (by decide) ?_
      refine lv_goto (tgt := 18) hx hb dX5_hasPort_14 (by decide) ?_
      obtain rfl := Option.some.inj hG
      exact W.zret (v := 1) hx hb hr rfl (fun t ht hW => ⟨⟨1, (), rfl, rfl, trivial⟩, hS.F ht⟩) hS.2.2 dX5_hasPort_18

def F_X5_lengthOf (fp : Nat → Int32) (d : Int32) : Option (Int32) := (if (0 + d) < 0 ∨ 48 ≤ ((0 + d)).toNatClampNeg then none else some ((8 + (fp (0 + d).toNatClampNeg))))
set_option maxHeartbeats 4000000 in
set_option maxRecDepth 100000 in
theorem c_X5_lengthOf (l : Launch) (dC : Nat → ClassId) (dI : Nat → Nat → Nat) (h : Nat) (r1 : Nat) (r2 : Nat) (dv : Int32) (c1 : ClassId) (c2 : ClassId) (fu : Nat → Int32) (fp : Nat → Int32) (d : Int32) (o : Int32) (hG : F_X5_lengthOf fp d = some o) : Met l yX5_lengthOf (.code yX5_lengthOf cX5_lengthOf 2 (some .int) :: wA) ({ frames := 0, cells := 0, slots := 0, locals := 0 }) (va_Pc [.ref h, .int d] (q_R (dC, dI) [(h, .inr (5, [.ref r1, .ref r2, .int dv])), (r1, .inl (c1, 8, .inl fu)), (r2, .inl (c2, 48, .inl fp))] [(c1, .int), (c2, .int)])) (q_i o) 0 0 (fun _ => False) := by
  refine Met.ofW (cc := cX5_lengthOf) (maxL := 2) (ret := (some .int)) (by decide) rfl ?_
  intro p e s m args below meth c s₁ B hml hv
  obtain ⟨rfl, hP, hK⟩ := hv
  have hx := B.exec
  have hb := B.bytes
  have hr := B.returns
  have hts := atoms_spec (ws := .code yX5_lengthOf cX5_lengthOf 2 (some .int) :: wA) B.pre
  have hown : s.vm.findClass RX5 = some m.cls := findClass_of_methodNamed B.named
  have hlocks := B.notSynchronized
  have hS : va_S (fun _ => False) s.heap s.heap [] := va_S.rf
  have hl := lv_entry ([.ref h, .int d]) (n := 2) (Nat.le_of_ble_eq_true rfl)
  rw [lg_entry_eq]
  generalize (lg_sl ([.ref h, .int d]) ++ List.replicate (2 - (lg_sl ([.ref h, .int d])).length) Slot.unset).toArray = ls at hl ⊢
  have hl : lv_has ls 2 [(0, .ref h), (1, .int d)] := hl
  unfold F_X5_lengthOf at hG
  refine lv_bipush (v := 8) hx hb dX5_lengthOf_0 (by decide) ?_
  refine lv_aload_n hx hb dX5_lengthOf_2 rfl (lv_at hl 0 rfl) ?_
  refine va_get (D := (dC, dI)) (ci := 5) (v := .ref r2) (C := RX5) (T := TX5) (N := 3) hx hb hts iA_5 hown hK hP 0 rfl rfl 1 (by decide) (hts (.fieldLink RX5 15 "HubTree$Plan" "row" "[I") (List.mem_cons_of_mem _ m_74)) (fun _ h9 => h9) rfl dX5_lengthOf_3 ?_
  refine lv_iconst (v := 0) hx hb dX5_lengthOf_6 (by decide) ?_
  refine lv_iload_n hx hb dX5_lengthOf_7 rfl (lv_at hl 1 rfl) ?_
  refine lv_iadd hx hb dX5_lengthOf_8 ?_
  obtain ⟨h_1, hG⟩ := q_ix hG
  refine va_iald hx hb hK hP 2 1 rfl rfl (i := (0 + d)) h_1 dX5_lengthOf_9 ?_
  refine q_top (y := (fp (0 + d).toNatClampNeg)) rfl ?_
  refine lv_iadd hx hb dX5_lengthOf_10 ?_
  obtain rfl := Option.some.inj hG
  exact W.iret (v := (8 + (fp (0 + d).toNatClampNeg))) hx hb hr (fun t ht hW => ⟨⟨(8 + (fp (0 + d).toNatClampNeg)), (), rfl, rfl, trivial⟩, hS.F ht⟩) hS.2.2 dX5_lengthOf_11

def F_J6_bitCount_0f7a4 (z : Int32) : Option (Int32) := ((some ((((z : Int32).toUInt32 >>> ((1 : Int32).toUInt32 &&& Int32.toUInt32 31)).toInt32) &&& 1431655765)).bind fun v_1 => ((some (((((z - v_1) : Int32).toUInt32 >>> ((2 : Int32).toUInt32 &&& Int32.toUInt32 31)).toInt32) &&& 858993459)).bind fun v_3 => ((some ((((z - v_1) &&& 858993459) + v_3) + ((((((z - v_1) &&& 858993459) + v_3) : Int32).toUInt32 >>> ((4 : Int32).toUInt32 &&& Int32.toUInt32 31)).toInt32))).bind fun v_5 => ((some ((v_5 &&& 252645135) + ((((v_5 &&& 252645135) : Int32).toUInt32 >>> ((8 : Int32).toUInt32 &&& Int32.toUInt32 31)).toInt32))).bind fun v_7 => ((some (v_7 + (((v_7 : Int32).toUInt32 >>> ((16 : Int32).toUInt32 &&& Int32.toUInt32 31)).toInt32))).bind fun v_9 => some ((v_9 &&& 63)))))))
set_option maxHeartbeats 4000000 in
set_option maxRecDepth 100000 in
theorem c_J6_bitCount_0f7a4 (l : Launch) (dC : Nat → ClassId) (dI : Nat → Nat → Nat) (z : Int32) (o : Int32) (hG : F_J6_bitCount_0f7a4 z = some o) : Met l yJ6_bitCount_0f7a4 (.code yJ6_bitCount_0f7a4 cJ6_bitCount_0f7a4 1 (some .int) :: wA) ({ frames := 0, cells := 0, slots := 0, locals := 0 }) (va_Pc [.int z] (q_R (dC, dI) [] [])) (q_i o) 0 0 (fun _ => False) := by
  refine Met.ofW (cc := cJ6_bitCount_0f7a4) (maxL := 1) (ret := (some .int)) (by decide) rfl ?_
  intro p e s m args below meth c s₁ B hml hv
  obtain ⟨rfl, hP, hK⟩ := hv
  have hx := B.exec
  have hb := B.bytes
  have hr := B.returns
  have hts := atoms_spec (ws := .code yJ6_bitCount_0f7a4 cJ6_bitCount_0f7a4 1 (some .int) :: wA) B.pre
  have hown : s.vm.findClass RJ6 = some m.cls := findClass_of_methodNamed B.named
  have hlocks := B.notSynchronized
  have hS : va_S (fun _ => False) s.heap s.heap [] := va_S.rf
  have hl := lv_entry ([.int z]) (n := 1) (Nat.le_of_ble_eq_true rfl)
  rw [lg_entry_eq]
  generalize (lg_sl ([.int z]) ++ List.replicate (1 - (lg_sl ([.int z])).length) Slot.unset).toArray = ls at hl ⊢
  have hl : lv_has ls 1 [(0, .int z)] := hl
  unfold F_J6_bitCount_0f7a4 at hG
  refine lv_iload_n hx hb dJ6_bitCount_0f7a4_0 rfl (lv_at hl 0 rfl) ?_
  refine lv_iload_n hx hb dJ6_bitCount_0f7a4_1 rfl (lv_at hl 0 rfl) ?_
  refine lv_iconst (v := 1) hx hb dJ6_bitCount_0f7a4_2 (by decide) ?_
  refine lv_iushr hx hb dJ6_bitCount_0f7a4_3 rfl ?_
  refine lv_ldcw (v := 1431655765) hx hb hown (hts (.constant RJ6 265 (1431655765)) (List.mem_cons_of_mem _ m_613)) dJ6_bitCount_0f7a4_4 ?_
  refine lv_iand hx hb dJ6_bitCount_0f7a4_7 ?_
  obtain ⟨v_1, w_2, hG⟩ := q_bi hG
  refine q_top (y := v_1) (Option.some.inj w_2) ?_
  refine lv_isub hx hb dJ6_bitCount_0f7a4_8 ?_
  refine lv_istore_n (lv' := [(0, .int (z - v_1))]) hx hb dJ6_bitCount_0f7a4_9 rfl hl (by decide) rfl (fun ls hl => ?_)
  refine lv_iload_n hx hb dJ6_bitCount_0f7a4_10 rfl (lv_at hl 0 rfl) ?_
  refine lv_ldcw (v := 858993459) hx hb hown (hts (.constant RJ6 266 (858993459)) (List.mem_cons_of_mem _ m_614)) dJ6_bitCount_0f7a4_11 ?_
  refine lv_iand hx hb dJ6_bitCount_0f7a4_14 ?_
  refine lv_iload_n hx hb dJ6_bitCount_0f7a4_15 rfl (lv_at hl 0 rfl) ?_
  refine lv_iconst (v := 2) hx hb dJ6_bitCount_0f7a4_16 (by decide) ?_
  refine lv_iushr hx hb dJ6_bitCount_0f7a4_17 rfl ?_
  refine lv_ldcw (v := 858993459) hx hb hown (hts (.constant RJ6 266 (858993459)) (List.mem_cons_of_mem _ m_614)) dJ6_bitCount_0f7a4_18 ?_
  refine lv_iand hx hb dJ6_bitCount_0f7a4_21 ?_
  obtain ⟨v_3, w_4, hG⟩ := q_bi hG
  refine q_top (y := v_3) (Option.some.inj w_4) ?_
  refine lv_iadd hx hb dJ6_bitCount_0f7a4_22 ?_
  refine lv_istore_n (lv' := [(0, .int (((z - v_1) &&& 858993459) + v_3))]) hx hb dJ6_bitCount_0f7a4_23 rfl hl (by decide) rfl (fun ls hl => ?_)
  refine lv_iload_n hx hb dJ6_bitCount_0f7a4_24 rfl (lv_at hl 0 rfl) ?_
  refine lv_iload_n hx hb dJ6_bitCount_0f7a4_25 rfl (lv_at hl 0 rfl) ?_
  refine lv_iconst (v := 4) hx hb dJ6_bitCount_0f7a4_26 (by decide) ?_
  refine lv_iushr hx hb dJ6_bitCount_0f7a4_27 rfl ?_
  refine lv_iadd hx hb dJ6_bitCount_0f7a4_28 ?_
  obtain ⟨v_5, w_6, hG⟩ := q_bi hG
  refine q_top (y := v_5) (Option.some.inj w_6) ?_
  refine lv_ldcw (v := 252645135) hx hb hown (hts (.constant RJ6 267 (252645135)) (List.mem_cons_of_mem _ m_615)) dJ6_bitCount_0f7a4_29 ?_
  refine lv_iand hx hb dJ6_bitCount_0f7a4_32 ?_
  refine lv_istore_n (lv' := [(0, .int (v_5 &&& 252645135))]) hx hb dJ6_bitCount_0f7a4_33 rfl hl (by decide) rfl (fun ls hl => ?_)
  refine lv_iload_n hx hb dJ6_bitCount_0f7a4_34 rfl (lv_at hl 0 rfl) ?_
  refine lv_iload_n hx hb dJ6_bitCount_0f7a4_35 rfl (lv_at hl 0 rfl) ?_
  refine lv_bipush (v := 8) hx hb dJ6_bitCount_0f7a4_36 (by decide) ?_
  refine lv_iushr hx hb dJ6_bitCount_0f7a4_38 rfl ?_
  refine lv_iadd hx hb dJ6_bitCount_0f7a4_39 ?_
  obtain ⟨v_7, w_8, hG⟩ := q_bi hG
  refine q_top (y := v_7) (Option.some.inj w_8) ?_
  refine lv_istore_n (lv' := [(0, .int v_7)]) hx hb dJ6_bitCount_0f7a4_40 rfl hl (by decide) rfl (fun ls hl => ?_)
  refine lv_iload_n hx hb dJ6_bitCount_0f7a4_41 rfl (lv_at hl 0 rfl) ?_
  refine lv_iload_n hx hb dJ6_bitCount_0f7a4_42 rfl (lv_at hl 0 rfl) ?_
  refine lv_bipush (v := 16) hx hb dJ6_bitCount_0f7a4_43 (by decide) ?_
  refine lv_iushr hx hb dJ6_bitCount_0f7a4_45 rfl ?_
  refine lv_iadd hx hb dJ6_bitCount_0f7a4_46 ?_
  obtain ⟨v_9, w_10, hG⟩ := q_bi hG
  refine q_top (y := v_9) (Option.some.inj w_10) ?_
  refine lv_istore_n (lv' := [(0, .int v_9)]) hx hb dJ6_bitCount_0f7a4_47 rfl hl (by decide) rfl (fun ls hl => ?_)
  refine lv_iload_n hx hb dJ6_bitCount_0f7a4_48 rfl (lv_at hl 0 rfl) ?_
  refine lv_bipush (v := 63) hx hb dJ6_bitCount_0f7a4_49 (by decide) ?_
  refine lv_iand hx hb dJ6_bitCount_0f7a4_51 ?_
  obtain rfl := Option.some.inj hG
  exact W.iret (v := (v_9 &&& 63)) hx hb hr (fun t ht hW => ⟨⟨(v_9 &&& 63), (), rfl, rfl, trivial⟩, hS.F ht⟩) hS.2.2 dJ6_bitCount_0f7a4_52

def F_J6_numberOfTrailingZeros_0f7a4 (z : Int32) : Option (Int32) := (if 0 < ((z ^^^ (-1)) &&& (z - 1)) then (if ((z ^^^ (-1)) &&& (z - 1)) ≤ 65536 then (if ((z ^^^ (-1)) &&& (z - 1)) ≤ 256 then (if ((z ^^^ (-1)) &&& (z - 1)) ≤ 16 then (if ((z ^^^ (-1)) &&& (z - 1)) ≤ 4 then ((some (1 + (((((z ^^^ (-1)) &&& (z - 1)) : Int32).toUInt32 >>> ((1 : Int32).toUInt32 &&& Int32.toUInt32 31)).toInt32))).bind fun v_6 => some (v_6)) else ((some (3 + ((((((((z ^^^ (-1)) &&& (z - 1)) : Int32).toUInt32 >>> ((2 : Int32).toUInt32 &&& Int32.toUInt32 31)).toInt32) : Int32).toUInt32 >>> ((1 : Int32).toUInt32 &&& Int32.toUInt32 31)).toInt32))).bind fun v_8 => some (v_8))) else (if (((((z ^^^ (-1)) &&& (z - 1)) : Int32).toUInt32 >>> ((4 : Int32).toUInt32 &&& Int32.toUInt32 31)).toInt32) ≤ 4 then ((some (5 + ((((((((z ^^^ (-1)) &&& (z - 1)) : Int32).toUInt32 >>> ((4 : Int32).toUInt32 &&& Int32.toUInt32 31)).toInt32) : Int32).toUInt32 >>> ((1 : Int32).toUInt32 &&& Int32.toUInt32 31)).toInt32))).bind fun v_11 => some (v_11)) else ((some (7 + (((((((((((z ^^^ (-1)) &&& (z - 1)) : Int32).toUInt32 >>> ((4 : Int32).toUInt32 &&& Int32.toUInt32 31)).toInt32) : Int32).toUInt32 >>> ((2 : Int32).toUInt32 &&& Int32.toUInt32 31)).toInt32) : Int32).toUInt32 >>> ((1 : Int32).toUInt32 &&& Int32.toUInt32 31)).toInt32))).bind fun v_13 => some (v_13)))) else (if (((((z ^^^ (-1)) &&& (z - 1)) : Int32).toUInt32 >>> ((8 : Int32).toUInt32 &&& Int32.toUInt32 31)).toInt32) ≤ 16 then (if (((((z ^^^ (-1)) &&& (z - 1)) : Int32).toUInt32 >>> ((8 : Int32).toUInt32 &&& Int32.toUInt32 31)).toInt32) ≤ 4 then ((some (9 + ((((((((z ^^^ (-1)) &&& (z - 1)) : Int32).toUInt32 >>> ((8 : Int32).toUInt32 &&& Int32.toUInt32 31)).toInt32) : Int32).toUInt32 >>> ((1 : Int32).toUInt32 &&& Int32.toUInt32 31)).toInt32))).bind fun v_17 => some (v_17)) else ((some (11 + (((((((((((z ^^^ (-1)) &&& (z - 1)) : Int32).toUInt32 >>> ((8 : Int32).toUInt32 &&& Int32.toUInt32 31)).toInt32) : Int32).toUInt32 >>> ((2 : Int32).toUInt32 &&& Int32.toUInt32 31)).toInt32) : Int32).toUInt32 >>> ((1 : Int32).toUInt32 &&& Int32.toUInt32 31)).toInt32))).bind fun v_19 => some (v_19))) else (if ((((((((z ^^^ (-1)) &&& (z - 1)) : Int32).toUInt32 >>> ((8 : Int32).toUInt32 &&& Int32.toUInt32 31)).toInt32) : Int32).toUInt32 >>> ((4 : Int32).toUInt32 &&& Int32.toUInt32 31)).toInt32) ≤ 4 then ((some (13 + (((((((((((z ^^^ (-1)) &&& (z - 1)) : Int32).toUInt32 >>> ((8 : Int32).toUInt32 &&& Int32.toUInt32 31)).toInt32) : Int32).toUInt32 >>> ((4 : Int32).toUInt32 &&& Int32.toUInt32 31)).toInt32) : Int32).toUInt32 >>> ((1 : Int32).toUInt32 &&& Int32.toUInt32 31)).toInt32))).bind fun v_22 => some (v_22)) else ((some (15 + ((((((((((((((z ^^^ (-1)) &&& (z - 1)) : Int32).toUInt32 >>> ((8 : Int32).toUInt32 &&& Int32.toUInt32 31)).toInt32) : Int32).toUInt32 >>> ((4 : Int32).toUInt32 &&& Int32.toUInt32 31)).toInt32) : Int32).toUInt32 >>> ((2 : Int32).toUInt32 &&& Int32.toUInt32 31)).toInt32) : Int32).toUInt32 >>> ((1 : Int32).toUInt32 &&& Int32.toUInt32 31)).toInt32))).bind fun v_24 => some (v_24))))) else (if (((((z ^^^ (-1)) &&& (z - 1)) : Int32).toUInt32 >>> ((16 : Int32).toUInt32 &&& Int32.toUInt32 31)).toInt32) ≤ 256 then (if (((((z ^^^ (-1)) &&& (z - 1)) : Int32).toUInt32 >>> ((16 : Int32).toUInt32 &&& Int32.toUInt32 31)).toInt32) ≤ 16 then (if (((((z ^^^ (-1)) &&& (z - 1)) : Int32).toUInt32 >>> ((16 : Int32).toUInt32 &&& Int32.toUInt32 31)).toInt32) ≤ 4 then ((some (17 + ((((((((z ^^^ (-1)) &&& (z - 1)) : Int32).toUInt32 >>> ((16 : Int32).toUInt32 &&& Int32.toUInt32 31)).toInt32) : Int32).toUInt32 >>> ((1 : Int32).toUInt32 &&& Int32.toUInt32 31)).toInt32))).bind fun v_29 => some (v_29)) else ((some (19 + (((((((((((z ^^^ (-1)) &&& (z - 1)) : Int32).toUInt32 >>> ((16 : Int32).toUInt32 &&& Int32.toUInt32 31)).toInt32) : Int32).toUInt32 >>> ((2 : Int32).toUInt32 &&& Int32.toUInt32 31)).toInt32) : Int32).toUInt32 >>> ((1 : Int32).toUInt32 &&& Int32.toUInt32 31)).toInt32))).bind fun v_31 => some (v_31))) else (if ((((((((z ^^^ (-1)) &&& (z - 1)) : Int32).toUInt32 >>> ((16 : Int32).toUInt32 &&& Int32.toUInt32 31)).toInt32) : Int32).toUInt32 >>> ((4 : Int32).toUInt32 &&& Int32.toUInt32 31)).toInt32) ≤ 4 then ((some (21 + (((((((((((z ^^^ (-1)) &&& (z - 1)) : Int32).toUInt32 >>> ((16 : Int32).toUInt32 &&& Int32.toUInt32 31)).toInt32) : Int32).toUInt32 >>> ((4 : Int32).toUInt32 &&& Int32.toUInt32 31)).toInt32) : Int32).toUInt32 >>> ((1 : Int32).toUInt32 &&& Int32.toUInt32 31)).toInt32))).bind fun v_34 => some (v_34)) else ((some (23 + ((((((((((((((z ^^^ (-1)) &&& (z - 1)) : Int32).toUInt32 >>> ((16 : Int32).toUInt32 &&& Int32.toUInt32 31)).toInt32) : Int32).toUInt32 >>> ((4 : Int32).toUInt32 &&& Int32.toUInt32 31)).toInt32) : Int32).toUInt32 >>> ((2 : Int32).toUInt32 &&& Int32.toUInt32 31)).toInt32) : Int32).toUInt32 >>> ((1 : Int32).toUInt32 &&& Int32.toUInt32 31)).toInt32))).bind fun v_36 => some (v_36)))) else (if ((((((((z ^^^ (-1)) &&& (z - 1)) : Int32).toUInt32 >>> ((16 : Int32).toUInt32 &&& Int32.toUInt32 31)).toInt32) : Int32).toUInt32 >>> ((8 : Int32).toUInt32 &&& Int32.toUInt32 31)).toInt32) ≤ 16 then (if ((((((((z ^^^ (-1)) &&& (z - 1)) : Int32).toUInt32 >>> ((16 : Int32).toUInt32 &&& Int32.toUInt32 31)).toInt32) : Int32).toUInt32 >>> ((8 : Int32).toUInt32 &&& Int32.toUInt32 31)).toInt32) ≤ 4 then ((some (25 + (((((((((((z ^^^ (-1)) &&& (z - 1)) : Int32).toUInt32 >>> ((16 : Int32).toUInt32 &&& Int32.toUInt32 31)).toInt32) : Int32).toUInt32 >>> ((8 : Int32).toUInt32 &&& Int32.toUInt32 31)).toInt32) : Int32).toUInt32 >>> ((1 : Int32).toUInt32 &&& Int32.toUInt32 31)).toInt32))).bind fun v_40 => some (v_40)) else ((some (27 + ((((((((((((((z ^^^ (-1)) &&& (z - 1)) : Int32).toUInt32 >>> ((16 : Int32).toUInt32 &&& Int32.toUInt32 31)).toInt32) : Int32).toUInt32 >>> ((8 : Int32).toUInt32 &&& Int32.toUInt32 31)).toInt32) : Int32).toUInt32 >>> ((2 : Int32).toUInt32 &&& Int32.toUInt32 31)).toInt32) : Int32).toUInt32 >>> ((1 : Int32).toUInt32 &&& Int32.toUInt32 31)).toInt32))).bind fun v_42 => some (v_42))) else (if (((((((((((z ^^^ (-1)) &&& (z - 1)) : Int32).toUInt32 >>> ((16 : Int32).toUInt32 &&& Int32.toUInt32 31)).toInt32) : Int32).toUInt32 >>> ((8 : Int32).toUInt32 &&& Int32.toUInt32 31)).toInt32) : Int32).toUInt32 >>> ((4 : Int32).toUInt32 &&& Int32.toUInt32 31)).toInt32) ≤ 4 then ((some (29 + ((((((((((((((z ^^^ (-1)) &&& (z - 1)) : Int32).toUInt32 >>> ((16 : Int32).toUInt32 &&& Int32.toUInt32 31)).toInt32) : Int32).toUInt32 >>> ((8 : Int32).toUInt32 &&& Int32.toUInt32 31)).toInt32) : Int32).toUInt32 >>> ((4 : Int32).toUInt32 &&& Int32.toUInt32 31)).toInt32) : Int32).toUInt32 >>> ((1 : Int32).toUInt32 &&& Int32.toUInt32 31)).toInt32))).bind fun v_45 => some (v_45)) else ((some (31 + (((((((((((((((((z ^^^ (-1)) &&& (z - 1)) : Int32).toUInt32 >>> ((16 : Int32).toUInt32 &&& Int32.toUInt32 31)).toInt32) : Int32).toUInt32 >>> ((8 : Int32).toUInt32 &&& Int32.toUInt32 31)).toInt32) : Int32).toUInt32 >>> ((4 : Int32).toUInt32 &&& Int32.toUInt32 31)).toInt32) : Int32).toUInt32 >>> ((2 : Int32).toUInt32 &&& Int32.toUInt32 31)).toInt32) : Int32).toUInt32 >>> ((1 : Int32).toUInt32 &&& Int32.toUInt32 31)).toInt32))).bind fun v_47 => some (v_47)))))) else some ((((z ^^^ (-1)) &&& (z - 1)) &&& 32)))
set_option maxHeartbeats 4000000 in
set_option maxRecDepth 100000 in
theorem c_J6_numberOfTrailingZeros_0f7a4 (l : Launch) (dC : Nat → ClassId) (dI : Nat → Nat → Nat) (z : Int32) (o : Int32) (hG : F_J6_numberOfTrailingZeros_0f7a4 z = some o) : Met l yJ6_numberOfTrailingZeros_0f7a4 (.code yJ6_numberOfTrailingZeros_0f7a4 cJ6_numberOfTrailingZeros_0f7a4 2 (some .int) :: wA) ({ frames := 0, cells := 0, slots := 0, locals := 0 }) (va_Pc [.int z] (q_R (dC, dI) [] [])) (q_i o) 0 0 (fun _ => False) := by
  refine Met.ofW (cc := cJ6_numberOfTrailingZeros_0f7a4) (maxL := 2) (ret := (some .int)) (by decide) rfl ?_
  intro p e s m args below meth c s₁ B hml hv
  obtain ⟨rfl, hP, hK⟩ := hv
  have hx := B.exec
  have hb := B.bytes
  have hr := B.returns
  have hts := atoms_spec (ws := .code yJ6_numberOfTrailingZeros_0f7a4 cJ6_numberOfTrailingZeros_0f7a4 2 (some .int) :: wA) B.pre
  have hown : s.vm.findClass RJ6 = some m.cls := findClass_of_methodNamed B.named
  have hlocks := B.notSynchronized
  have hS : va_S (fun _ => False) s.heap s.heap [] := va_S.rf
  have hl := lv_entry ([.int z]) (n := 2) (Nat.le_of_ble_eq_true rfl)
  rw [lg_entry_eq]
  generalize (lg_sl ([.int z]) ++ List.replicate (2 - (lg_sl ([.int z])).length) Slot.unset).toArray = ls at hl ⊢
  have hl : lv_has ls 2 [(0, .int z)] := hl
  unfold F_J6_numberOfTrailingZeros_0f7a4 at hG
  refine lv_iload_n hx hb dJ6_numberOfTrailingZeros_0f7a4_0 rfl (lv_at hl 0 rfl) ?_
  refine lv_iconst (v := (-1)) hx hb dJ6_numberOfTrailingZeros_0f7a4_1 (by decide) ?_
  refine lv_ixor hx hb dJ6_numberOfTrailingZeros_0f7a4_2 ?_
  refine lv_iload_n hx hb dJ6_numberOfTrailingZeros_0f7a4_3 rfl (lv_at hl 0 rfl) ?_
  refine lv_iconst (v := 1) hx hb dJ6_numberOfTrailingZeros_0f7a4_4 (by decide) ?_
  refine lv_isub hx hb dJ6_numberOfTrailingZeros_0f7a4_5 ?_
  refine lv_iand hx hb dJ6_numberOfTrailingZeros_0f7a4_6 ?_
  refine lv_istore_n (lv' := [(0, .int ((z ^^^ (-1)) &&& (z - 1)))]) hx hb dJ6_numberOfTrailingZeros_0f7a4_7 rfl hl (by decide) rfl (fun ls hl => ?_)
  refine lv_iload_n hx hb dJ6_numberOfTrailingZeros_0f7a4_8 rfl (lv_at hl 0 rfl) ?_
  refine lv_if_gt (tgt := 17) hx hb dJ6_numberOfTrailingZeros_0f7a4_9 (by decide) (fun c_1 => ?_) (fun c_1 => ?_)
  · have hG := q_ifp c_1 hG
    refine lv_iconst (v := 1) hx hb dJ6_numberOfTrailingZeros_0f7a4_17 (by decide) ?_
    refine lv_istore_n (lv' := [(1, .int 1), (0, .int ((z ^^^ (-1)) &&& (z - 1)))]) hx hb dJ6_numberOfTrailingZeros_0f7a4_18 rfl hl (by decide) rfl (fun ls hl => ?_)
    refine lv_iload_n hx hb dJ6_numberOfTrailingZeros_0f7a4_19 rfl (lv_at hl 1 rfl) ?_
    refine lv_ldcw (v := 65536) hx hb hown (hts (.constant RJ6 264 (65536)) (List.mem_cons_of_mem _ m_1265)) dJ6_numberOfTrailingZeros_0f7a4_20 ?_
    refine lv_icmp_le (tgt := 34) hx hb dJ6_numberOfTrailingZeros_0f7a4_23 (by decide) (fun c_2 => ?_) (fun c_2 => ?_)
    · have hG := q_ifp c_2 hG
      refine lv_iload_n hx hb dJ6_numberOfTrailingZeros_0f7a4_34 rfl (lv_at hl 1 rfl) ?_
      refine lv_sipush (v := 256) hx hb dJ6_numberOfTrailingZeros_0f7a4_35 (by decide) ?_
      refine lv_icmp_le (tgt := 49) hx hb dJ6_numberOfTrailingZeros_0f7a4_38 (by decide) (fun c_3 => ?_) (fun c_3 => ?_)
      · have hG := q_ifp c_3 hG
        refine lv_iload_n hx hb dJ6_numberOfTrailingZeros_0f7a4_49 rfl (lv_at hl 1 rfl) ?_
        refine lv_bipush (v := 16) hx hb dJ6_numberOfTrailingZeros_0f7a4_50 (by decide) ?_
        refine lv_icmp_le (tgt := 62) hx hb dJ6_numberOfTrailingZeros_0f7a4_52 (by decide) (fun c_4 => ?_) (fun c_4 => ?_)
        · have hG := q_ifp c_4 hG
          refine lv_iload_n hx hb dJ6_numberOfTrailingZeros_0f7a4_62 rfl (lv_at hl 1 rfl) ?_
          refine lv_iconst (v := 4) hx hb dJ6_numberOfTrailingZeros_0f7a4_63 (by decide) ?_
          refine lv_icmp_le (tgt := 74) hx hb dJ6_numberOfTrailingZeros_0f7a4_64 (by decide) (fun c_5 => ?_) (fun c_5 => ?_)
          · have hG := q_ifp c_5 hG
            refine lv_iload_n hx hb dJ6_numberOfTrailingZeros_0f7a4_74 rfl (lv_at hl 0 rfl) ?_
            refine lv_iload_n hx hb dJ6_numberOfTrailingZeros_0f7a4_75 rfl (lv_at hl 1 rfl) ?_
            refine lv_iconst (v := 1) hx hb dJ6_numberOfTrailingZeros_0f7a4_76 (by decide) ?_
            refine lv_iushr hx hb dJ6_numberOfTrailingZeros_0f7a4_77 rfl ?_
            refine lv_iadd hx hb dJ6_numberOfTrailingZeros_0f7a4_78 ?_
            obtain ⟨v_6, w_7, hG⟩ := q_bi hG
            refine q_top (y := v_6) (Option.some.inj w_7) ?_
            obtain rfl := Option.some.inj hG
            exact W.iret (v := v_6) hx hb hr (fun t ht hW => ⟨⟨v_6, (), rfl, rfl, trivial⟩, hS.F ht⟩) hS.2.2 dJ6_numberOfTrailingZeros_0f7a4_79
          · have hG := q_ifn c_5 hG
            refine lv_iinc (v := 3) (lv' := [(1, .int 3), (0, .int ((z ^^^ (-1)) &&& (z - 1)))]) hx hb dJ6_numberOfTrailingZeros_0f7a4_67 hl (k := 0) rfl (by decide) (by decide) rfl (fun ls hl => ?_)
            refine lv_iload_n hx hb dJ6_numberOfTrailingZeros_0f7a4_70 rfl (lv_at hl 1 rfl) ?_
            refine lv_iconst (v := 2) hx hb dJ6_numberOfTrailingZeros_0f7a4_71 (by decide) ?_
            refine lv_iushr hx hb dJ6_numberOfTrailingZeros_0f7a4_72 rfl ?_
            refine lv_istore_n (lv' := [(0, .int (((((z ^^^ (-1)) &&& (z - 1)) : Int32).toUInt32 >>> ((2 : Int32).toUInt32 &&& Int32.toUInt32 31)).toInt32)), (1, .int 3)]) hx hb dJ6_numberOfTrailingZeros_0f7a4_73 rfl hl (by decide) rfl (fun ls hl => ?_)
            refine lv_iload_n hx hb dJ6_numberOfTrailingZeros_0f7a4_74 rfl (lv_at hl 1 rfl) ?_
            refine lv_iload_n hx hb dJ6_numberOfTrailingZeros_0f7a4_75 rfl (lv_at hl 0 rfl) ?_
            refine lv_iconst (v := 1) hx hb dJ6_numberOfTrailingZeros_0f7a4_76 (by decide) ?_
            refine lv_iushr hx hb dJ6_numberOfTrailingZeros_0f7a4_77 rfl ?_
            refine lv_iadd hx hb dJ6_numberOfTrailingZeros_0f7a4_78 ?_
            obtain ⟨v_8, w_9, hG⟩ := q_bi hG
            refine q_top (y := v_8) (Option.some.inj w_9) ?_
            obtain rfl := Option.some.inj hG
            exact W.iret (v := v_8) hx hb hr (fun t ht hW => ⟨⟨v_8, (), rfl, rfl, trivial⟩, hS.F ht⟩) hS.2.2 dJ6_numberOfTrailingZeros_0f7a4_79
        · have hG := q_ifn c_4 hG
          refine lv_iinc (v := 5) (lv' := [(1, .int 5), (0, .int ((z ^^^ (-1)) &&& (z - 1)))]) hx hb dJ6_numberOfTrailingZeros_0f7a4_55 hl (k := 0) rfl (by decide) (by decide) rfl (fun ls hl => ?_)
          refine lv_iload_n hx hb dJ6_numberOfTrailingZeros_0f7a4_58 rfl (lv_at hl 1 rfl) ?_
          refine lv_iconst (v := 4) hx hb dJ6_numberOfTrailingZeros_0f7a4_59 (by decide) ?_
          refine lv_iushr hx hb dJ6_numberOfTrailingZeros_0f7a4_60 rfl ?_
          refine lv_istore_n (lv' := [(0, .int (((((z ^^^ (-1)) &&& (z - 1)) : Int32).toUInt32 >>> ((4 : Int32).toUInt32 &&& Int32.toUInt32 31)).toInt32)), (1, .int 5)]) hx hb dJ6_numberOfTrailingZeros_0f7a4_61 rfl hl (by decide) rfl (fun ls hl => ?_)
          refine lv_iload_n hx hb dJ6_numberOfTrailingZeros_0f7a4_62 rfl (lv_at hl 0 rfl) ?_
          refine lv_iconst (v := 4) hx hb dJ6_numberOfTrailingZeros_0f7a4_63 (by decide) ?_
          refine lv_icmp_le (tgt := 74) hx hb dJ6_numberOfTrailingZeros_0f7a4_64 (by decide) (fun c_10 => ?_) (fun c_10 => ?_)
          · have hG := q_ifp c_10 hG
            refine lv_iload_n hx hb dJ6_numberOfTrailingZeros_0f7a4_74 rfl (lv_at hl 1 rfl) ?_
            refine lv_iload_n hx hb dJ6_numberOfTrailingZeros_0f7a4_75 rfl (lv_at hl 0 rfl) ?_
            refine lv_iconst (v := 1) hx hb dJ6_numberOfTrailingZeros_0f7a4_76 (by decide) ?_
            refine lv_iushr hx hb dJ6_numberOfTrailingZeros_0f7a4_77 rfl ?_
            refine lv_iadd hx hb dJ6_numberOfTrailingZeros_0f7a4_78 ?_
            obtain ⟨v_11, w_12, hG⟩ := q_bi hG
            refine q_top (y := v_11) (Option.some.inj w_12) ?_
            obtain rfl := Option.some.inj hG
            exact W.iret (v := v_11) hx hb hr (fun t ht hW => ⟨⟨v_11, (), rfl, rfl, trivial⟩, hS.F ht⟩) hS.2.2 dJ6_numberOfTrailingZeros_0f7a4_79
          · have hG := q_ifn c_10 hG
            refine lv_iinc (v := 7) (lv' := [(1, .int 7), (0, .int (((((z ^^^ (-1)) &&& (z - 1)) : Int32).toUInt32 >>> ((4 : Int32).toUInt32 &&& Int32.toUInt32 31)).toInt32))]) hx hb dJ6_numberOfTrailingZeros_0f7a4_67 hl (k := 1) rfl (by decide) (by decide) rfl (fun ls hl => ?_)
            refine lv_iload_n hx hb dJ6_numberOfTrailingZeros_0f7a4_70 rfl (lv_at hl 1 rfl) ?_
            refine lv_iconst (v := 2) hx hb dJ6_numberOfTrailingZeros_0f7a4_71 (by decide) ?_
            refine lv_iushr hx hb dJ6_numberOfTrailingZeros_0f7a4_72 rfl ?_
            refine lv_istore_n (lv' := [(0, .int ((((((((z ^^^ (-1)) &&& (z - 1)) : Int32).toUInt32 >>> ((4 : Int32).toUInt32 &&& Int32.toUInt32 31)).toInt32) : Int32).toUInt32 >>> ((2 : Int32).toUInt32 &&& Int32.toUInt32 31)).toInt32)), (1, .int 7)]) hx hb dJ6_numberOfTrailingZeros_0f7a4_73 rfl hl (by decide) rfl (fun ls hl => ?_)
            refine lv_iload_n hx hb dJ6_numberOfTrailingZeros_0f7a4_74 rfl (lv_at hl 1 rfl) ?_
            refine lv_iload_n hx hb dJ6_numberOfTrailingZeros_0f7a4_75 rfl (lv_at hl 0 rfl) ?_
            refine lv_iconst (v := 1) hx hb dJ6_numberOfTrailingZeros_0f7a4_76 (by decide) ?_
            refine lv_iushr hx hb dJ6_numberOfTrailingZeros_0f7a4_77 rfl ?_
            refine lv_iadd hx hb dJ6_numberOfTrailingZeros_0f7a4_78 ?_
            obtain ⟨v_13, w_14, hG⟩ := q_bi hG
            refine q_top (y := v_13) (Option.some.inj w_14) ?_
            obtain rfl := Option.some.inj hG
            exact W.iret (v := v_13) hx hb hr (fun t ht hW => ⟨⟨v_13, (), rfl, rfl, trivial⟩, hS.F ht⟩) hS.2.2 dJ6_numberOfTrailingZeros_0f7a4_79
      · have hG := q_ifn c_3 hG
        refine lv_iinc (v := 9) (lv' := [(1, .int 9), (0, .int ((z ^^^ (-1)) &&& (z - 1)))]) hx hb dJ6_numberOfTrailingZeros_0f7a4_41 hl (k := 0) rfl (by decide) (by decide) rfl (fun ls hl => ?_)
        refine lv_iload_n hx hb dJ6_numberOfTrailingZeros_0f7a4_44 rfl (lv_at hl 1 rfl) ?_
        refine lv_bipush (v := 8) hx hb dJ6_numberOfTrailingZeros_0f7a4_45 (by decide) ?_
        refine lv_iushr hx hb dJ6_numberOfTrailingZeros_0f7a4_47 rfl ?_
        refine lv_istore_n (lv' := [(0, .int (((((z ^^^ (-1)) &&& (z - 1)) : Int32).toUInt32 >>> ((8 : Int32).toUInt32 &&& Int32.toUInt32 31)).toInt32)), (1, .int 9)]) hx hb dJ6_numberOfTrailingZeros_0f7a4_48 rfl hl (by decide) rfl (fun ls hl => ?_)
        refine lv_iload_n hx hb dJ6_numberOfTrailingZeros_0f7a4_49 rfl (lv_at hl 0 rfl) ?_
        refine lv_bipush (v := 16) hx hb dJ6_numberOfTrailingZeros_0f7a4_50 (by decide) ?_
        refine lv_icmp_le (tgt := 62) hx hb dJ6_numberOfTrailingZeros_0f7a4_52 (by decide) (fun c_15 => ?_) (fun c_15 => ?_)
        · have hG := q_ifp c_15 hG
          refine lv_iload_n hx hb dJ6_numberOfTrailingZeros_0f7a4_62 rfl (lv_at hl 0 rfl) ?_
          refine lv_iconst (v := 4) hx hb dJ6_numberOfTrailingZeros_0f7a4_63 (by decide) ?_
          refine lv_icmp_le (tgt := 74) hx hb dJ6_numberOfTrailingZeros_0f7a4_64 (by decide) (fun c_16 => ?_) (fun c_16 => ?_)
          · have hG := q_ifp c_16 hG
            refine lv_iload_n hx hb dJ6_numberOfTrailingZeros_0f7a4_74 rfl (lv_at hl 1 rfl) ?_
            refine lv_iload_n hx hb dJ6_numberOfTrailingZeros_0f7a4_75 rfl (lv_at hl 0 rfl) ?_
            refine lv_iconst (v := 1) hx hb dJ6_numberOfTrailingZeros_0f7a4_76 (by decide) ?_
            refine lv_iushr hx hb dJ6_numberOfTrailingZeros_0f7a4_77 rfl ?_
            refine lv_iadd hx hb dJ6_numberOfTrailingZeros_0f7a4_78 ?_
            obtain ⟨v_17, w_18, hG⟩ := q_bi hG
            refine q_top (y := v_17) (Option.some.inj w_18) ?_
            obtain rfl := Option.some.inj hG
            exact W.iret (v := v_17) hx hb hr (fun t ht hW => ⟨⟨v_17, (), rfl, rfl, trivial⟩, hS.F ht⟩) hS.2.2 dJ6_numberOfTrailingZeros_0f7a4_79
          · have hG := q_ifn c_16 hG
            refine lv_iinc (v := 11) (lv' := [(1, .int 11), (0, .int (((((z ^^^ (-1)) &&& (z - 1)) : Int32).toUInt32 >>> ((8 : Int32).toUInt32 &&& Int32.toUInt32 31)).toInt32))]) hx hb dJ6_numberOfTrailingZeros_0f7a4_67 hl (k := 1) rfl (by decide) (by decide) rfl (fun ls hl => ?_)
            refine lv_iload_n hx hb dJ6_numberOfTrailingZeros_0f7a4_70 rfl (lv_at hl 1 rfl) ?_
            refine lv_iconst (v := 2) hx hb dJ6_numberOfTrailingZeros_0f7a4_71 (by decide) ?_
            refine lv_iushr hx hb dJ6_numberOfTrailingZeros_0f7a4_72 rfl ?_
            refine lv_istore_n (lv' := [(0, .int ((((((((z ^^^ (-1)) &&& (z - 1)) : Int32).toUInt32 >>> ((8 : Int32).toUInt32 &&& Int32.toUInt32 31)).toInt32) : Int32).toUInt32 >>> ((2 : Int32).toUInt32 &&& Int32.toUInt32 31)).toInt32)), (1, .int 11)]) hx hb dJ6_numberOfTrailingZeros_0f7a4_73 rfl hl (by decide) rfl (fun ls hl => ?_)
            refine lv_iload_n hx hb dJ6_numberOfTrailingZeros_0f7a4_74 rfl (lv_at hl 1 rfl) ?_
            refine lv_iload_n hx hb dJ6_numberOfTrailingZeros_0f7a4_75 rfl (lv_at hl 0 rfl) ?_
            refine lv_iconst (v := 1) hx hb dJ6_numberOfTrailingZeros_0f7a4_76 (by decide) ?_
            refine lv_iushr hx hb dJ6_numberOfTrailingZeros_0f7a4_77 rfl ?_
            refine lv_iadd hx hb dJ6_numberOfTrailingZeros_0f7a4_78 ?_
            obtain ⟨v_19, w_20, hG⟩ := q_bi hG
            refine q_top (y := v_19) (Option.some.inj w_20) ?_
            obtain rfl := Option.some.inj hG
            exact W.iret (v := v_19) hx hb hr (fun t ht hW => ⟨⟨v_19, (), rfl, rfl, trivial⟩, hS.F ht⟩) hS.2.2 dJ6_numberOfTrailingZeros_0f7a4_79
        · have hG := q_ifn c_15 hG
          refine lv_iinc (v := 13) (lv' := [(1, .int 13), (0, .int (((((z ^^^ (-1)) &&& (z - 1)) : Int32).toUInt32 >>> ((8 : Int32).toUInt32 &&& Int32.toUInt32 31)).toInt32))]) hx hb dJ6_numberOfTrailingZeros_0f7a4_55 hl (k := 1) rfl (by decide) (by decide) rfl (fun ls hl => ?_)
          refine lv_iload_n hx hb dJ6_numberOfTrailingZeros_0f7a4_58 rfl (lv_at hl 1 rfl) ?_
          refine lv_iconst (v := 4) hx hb dJ6_numberOfTrailingZeros_0f7a4_59 (by decide) ?_
          refine lv_iushr hx hb dJ6_numberOfTrailingZeros_0f7a4_60 rfl ?_
          refine lv_istore_n (lv' := [(0, .int ((((((((z ^^^ (-1)) &&& (z - 1)) : Int32).toUInt32 >>> ((8 : Int32).toUInt32 &&& Int32.toUInt32 31)).toInt32) : Int32).toUInt32 >>> ((4 : Int32).toUInt32 &&& Int32.toUInt32 31)).toInt32)), (1, .int 13)]) hx hb dJ6_numberOfTrailingZeros_0f7a4_61 rfl hl (by decide) rfl (fun ls hl => ?_)
          refine lv_iload_n hx hb dJ6_numberOfTrailingZeros_0f7a4_62 rfl (lv_at hl 0 rfl) ?_
          refine lv_iconst (v := 4) hx hb dJ6_numberOfTrailingZeros_0f7a4_63 (by decide) ?_
          refine lv_icmp_le (tgt := 74) hx hb dJ6_numberOfTrailingZeros_0f7a4_64 (by decide) (fun c_21 => ?_) (fun c_21 => ?_)
          · have hG := q_ifp c_21 hG
            refine lv_iload_n hx hb dJ6_numberOfTrailingZeros_0f7a4_74 rfl (lv_at hl 1 rfl) ?_
            refine lv_iload_n hx hb dJ6_numberOfTrailingZeros_0f7a4_75 rfl (lv_at hl 0 rfl) ?_
            refine lv_iconst (v := 1) hx hb dJ6_numberOfTrailingZeros_0f7a4_76 (by decide) ?_
            refine lv_iushr hx hb dJ6_numberOfTrailingZeros_0f7a4_77 rfl ?_
            refine lv_iadd hx hb dJ6_numberOfTrailingZeros_0f7a4_78 ?_
            obtain ⟨v_22, w_23, hG⟩ := q_bi hG
            refine q_top (y := v_22) (Option.some.inj w_23) ?_
            obtain rfl := Option.some.inj hG
            exact W.iret (v := v_22) hx hb hr (fun t ht hW => ⟨⟨v_22, (), rfl, rfl, trivial⟩, hS.F ht⟩) hS.2.2 dJ6_numberOfTrailingZeros_0f7a4_79
          · have hG := q_ifn c_21 hG
            refine lv_iinc (v := 15) (lv' := [(1, .int 15), (0, .int ((((((((z ^^^ (-1)) &&& (z - 1)) : Int32).toUInt32 >>> ((8 : Int32).toUInt32 &&& Int32.toUInt32 31)).toInt32) : Int32).toUInt32 >>> ((4 : Int32).toUInt32 &&& Int32.toUInt32 31)).toInt32))]) hx hb dJ6_numberOfTrailingZeros_0f7a4_67 hl (k := 1) rfl (by decide) (by decide) rfl (fun ls hl => ?_)
            refine lv_iload_n hx hb dJ6_numberOfTrailingZeros_0f7a4_70 rfl (lv_at hl 1 rfl) ?_
            refine lv_iconst (v := 2) hx hb dJ6_numberOfTrailingZeros_0f7a4_71 (by decide) ?_
            refine lv_iushr hx hb dJ6_numberOfTrailingZeros_0f7a4_72 rfl ?_
            refine lv_istore_n (lv' := [(0, .int (((((((((((z ^^^ (-1)) &&& (z - 1)) : Int32).toUInt32 >>> ((8 : Int32).toUInt32 &&& Int32.toUInt32 31)).toInt32) : Int32).toUInt32 >>> ((4 : Int32).toUInt32 &&& Int32.toUInt32 31)).toInt32) : Int32).toUInt32 >>> ((2 : Int32).toUInt32 &&& Int32.toUInt32 31)).toInt32)), (1, .int 15)]) hx hb dJ6_numberOfTrailingZeros_0f7a4_73 rfl hl (by decide) rfl (fun ls hl => ?_)
            refine lv_iload_n hx hb dJ6_numberOfTrailingZeros_0f7a4_74 rfl (lv_at hl 1 rfl) ?_
            refine lv_iload_n hx hb dJ6_numberOfTrailingZeros_0f7a4_75 rfl (lv_at hl 0 rfl) ?_
            refine lv_iconst (v := 1) hx hb dJ6_numberOfTrailingZeros_0f7a4_76 (by decide) ?_
            refine lv_iushr hx hb dJ6_numberOfTrailingZeros_0f7a4_77 rfl ?_
            refine lv_iadd hx hb dJ6_numberOfTrailingZeros_0f7a4_78 ?_
            obtain ⟨v_24, w_25, hG⟩ := q_bi hG
            refine q_top (y := v_24) (Option.some.inj w_25) ?_
            obtain rfl := Option.some.inj hG
            exact W.iret (v := v_24) hx hb hr (fun t ht hW => ⟨⟨v_24, (), rfl, rfl, trivial⟩, hS.F ht⟩) hS.2.2 dJ6_numberOfTrailingZeros_0f7a4_79
    · have hG := q_ifn c_2 hG
      refine lv_iinc (v := 17) (lv' := [(1, .int 17), (0, .int ((z ^^^ (-1)) &&& (z - 1)))]) hx hb dJ6_numberOfTrailingZeros_0f7a4_26 hl (k := 0) rfl (by decide) (by decide) rfl (fun ls hl => ?_)
      refine lv_iload_n hx hb dJ6_numberOfTrailingZeros_0f7a4_29 rfl (lv_at hl 1 rfl) ?_
      refine lv_bipush (v := 16) hx hb dJ6_numberOfTrailingZeros_0f7a4_30 (by decide) ?_
      refine lv_iushr hx hb dJ6_numberOfTrailingZeros_0f7a4_32 rfl ?_
      refine lv_istore_n (lv' := [(0, .int (((((z ^^^ (-1)) &&& (z - 1)) : Int32).toUInt32 >>> ((16 : Int32).toUInt32 &&& Int32.toUInt32 31)).toInt32)), (1, .int 17)]) hx hb dJ6_numberOfTrailingZeros_0f7a4_33 rfl hl (by decide) rfl (fun ls hl => ?_)
      refine lv_iload_n hx hb dJ6_numberOfTrailingZeros_0f7a4_34 rfl (lv_at hl 0 rfl) ?_
      refine lv_sipush (v := 256) hx hb dJ6_numberOfTrailingZeros_0f7a4_35 (by decide) ?_
      refine lv_icmp_le (tgt := 49) hx hb dJ6_numberOfTrailingZeros_0f7a4_38 (by decide) (fun c_26 => ?_) (fun c_26 => ?_)
      · have hG := q_ifp c_26 hG
        refine lv_iload_n hx hb dJ6_numberOfTrailingZeros_0f7a4_49 rfl (lv_at hl 0 rfl) ?_
        refine lv_bipush (v := 16) hx hb dJ6_numberOfTrailingZeros_0f7a4_50 (by decide) ?_
        refine lv_icmp_le (tgt := 62) hx hb dJ6_numberOfTrailingZeros_0f7a4_52 (by decide) (fun c_27 => ?_) (fun c_27 => ?_)
        · have hG := q_ifp c_27 hG
          refine lv_iload_n hx hb dJ6_numberOfTrailingZeros_0f7a4_62 rfl (lv_at hl 0 rfl) ?_
          refine lv_iconst (v := 4) hx hb dJ6_numberOfTrailingZeros_0f7a4_63 (by decide) ?_
          refine lv_icmp_le (tgt := 74) hx hb dJ6_numberOfTrailingZeros_0f7a4_64 (by decide) (fun c_28 => ?_) (fun c_28 => ?_)
          · have hG := q_ifp c_28 hG
            refine lv_iload_n hx hb dJ6_numberOfTrailingZeros_0f7a4_74 rfl (lv_at hl 1 rfl) ?_
            refine lv_iload_n hx hb dJ6_numberOfTrailingZeros_0f7a4_75 rfl (lv_at hl 0 rfl) ?_
            refine lv_iconst (v := 1) hx hb dJ6_numberOfTrailingZeros_0f7a4_76 (by decide) ?_
            refine lv_iushr hx hb dJ6_numberOfTrailingZeros_0f7a4_77 rfl ?_
            refine lv_iadd hx hb dJ6_numberOfTrailingZeros_0f7a4_78 ?_
            obtain ⟨v_29, w_30, hG⟩ := q_bi hG
            refine q_top (y := v_29) (Option.some.inj w_30) ?_
            obtain rfl := Option.some.inj hG
            exact W.iret (v := v_29) hx hb hr (fun t ht hW => ⟨⟨v_29, (), rfl, rfl, trivial⟩, hS.F ht⟩) hS.2.2 dJ6_numberOfTrailingZeros_0f7a4_79
          · have hG := q_ifn c_28 hG
            refine lv_iinc (v := 19) (lv' := [(1, .int 19), (0, .int (((((z ^^^ (-1)) &&& (z - 1)) : Int32).toUInt32 >>> ((16 : Int32).toUInt32 &&& Int32.toUInt32 31)).toInt32))]) hx hb dJ6_numberOfTrailingZeros_0f7a4_67 hl (k := 1) rfl (by decide) (by decide) rfl (fun ls hl => ?_)
            refine lv_iload_n hx hb dJ6_numberOfTrailingZeros_0f7a4_70 rfl (lv_at hl 1 rfl) ?_
            refine lv_iconst (v := 2) hx hb dJ6_numberOfTrailingZeros_0f7a4_71 (by decide) ?_
            refine lv_iushr hx hb dJ6_numberOfTrailingZeros_0f7a4_72 rfl ?_
            refine lv_istore_n (lv' := [(0, .int ((((((((z ^^^ (-1)) &&& (z - 1)) : Int32).toUInt32 >>> ((16 : Int32).toUInt32 &&& Int32.toUInt32 31)).toInt32) : Int32).toUInt32 >>> ((2 : Int32).toUInt32 &&& Int32.toUInt32 31)).toInt32)), (1, .int 19)]) hx hb dJ6_numberOfTrailingZeros_0f7a4_73 rfl hl (by decide) rfl (fun ls hl => ?_)
            refine lv_iload_n hx hb dJ6_numberOfTrailingZeros_0f7a4_74 rfl (lv_at hl 1 rfl) ?_
            refine lv_iload_n hx hb dJ6_numberOfTrailingZeros_0f7a4_75 rfl (lv_at hl 0 rfl) ?_
            refine lv_iconst (v := 1) hx hb dJ6_numberOfTrailingZeros_0f7a4_76 (by decide) ?_
            refine lv_iushr hx hb dJ6_numberOfTrailingZeros_0f7a4_77 rfl ?_
            refine lv_iadd hx hb dJ6_numberOfTrailingZeros_0f7a4_78 ?_
            obtain ⟨v_31, w_32, hG⟩ := q_bi hG
            refine q_top (y := v_31) (Option.some.inj w_32) ?_
            obtain rfl := Option.some.inj hG
            exact W.iret (v := v_31) hx hb hr (fun t ht hW => ⟨⟨v_31, (), rfl, rfl, trivial⟩, hS.F ht⟩) hS.2.2 dJ6_numberOfTrailingZeros_0f7a4_79
        · have hG := q_ifn c_27 hG
          refine lv_iinc (v := 21) (lv' := [(1, .int 21), (0, .int (((((z ^^^ (-1)) &&& (z - 1)) : Int32).toUInt32 >>> ((16 : Int32).toUInt32 &&& Int32.toUInt32 31)).toInt32))]) hx hb dJ6_numberOfTrailingZeros_0f7a4_55 hl (k := 1) rfl (by decide) (by decide) rfl (fun ls hl => ?_)
          refine lv_iload_n hx hb dJ6_numberOfTrailingZeros_0f7a4_58 rfl (lv_at hl 1 rfl) ?_
          refine lv_iconst (v := 4) hx hb dJ6_numberOfTrailingZeros_0f7a4_59 (by decide) ?_
          refine lv_iushr hx hb dJ6_numberOfTrailingZeros_0f7a4_60 rfl ?_
          refine lv_istore_n (lv' := [(0, .int ((((((((z ^^^ (-1)) &&& (z - 1)) : Int32).toUInt32 >>> ((16 : Int32).toUInt32 &&& Int32.toUInt32 31)).toInt32) : Int32).toUInt32 >>> ((4 : Int32).toUInt32 &&& Int32.toUInt32 31)).toInt32)), (1, .int 21)]) hx hb dJ6_numberOfTrailingZeros_0f7a4_61 rfl hl (by decide) rfl (fun ls hl => ?_)
          refine lv_iload_n hx hb dJ6_numberOfTrailingZeros_0f7a4_62 rfl (lv_at hl 0 rfl) ?_
          refine lv_iconst (v := 4) hx hb dJ6_numberOfTrailingZeros_0f7a4_63 (by decide) ?_
          refine lv_icmp_le (tgt := 74) hx hb dJ6_numberOfTrailingZeros_0f7a4_64 (by decide) (fun c_33 => ?_) (fun c_33 => ?_)
          · have hG := q_ifp c_33 hG
            refine lv_iload_n hx hb dJ6_numberOfTrailingZeros_0f7a4_74 rfl (lv_at hl 1 rfl) ?_
            refine lv_iload_n hx hb dJ6_numberOfTrailingZeros_0f7a4_75 rfl (lv_at hl 0 rfl) ?_
            refine lv_iconst (v := 1) hx hb dJ6_numberOfTrailingZeros_0f7a4_76 (by decide) ?_
            refine lv_iushr hx hb dJ6_numberOfTrailingZeros_0f7a4_77 rfl ?_
            refine lv_iadd hx hb dJ6_numberOfTrailingZeros_0f7a4_78 ?_
            obtain ⟨v_34, w_35, hG⟩ := q_bi hG
            refine q_top (y := v_34) (Option.some.inj w_35) ?_
            obtain rfl := Option.some.inj hG
            exact W.iret (v := v_34) hx hb hr (fun t ht hW => ⟨⟨v_34, (), rfl, rfl, trivial⟩, hS.F ht⟩) hS.2.2 dJ6_numberOfTrailingZeros_0f7a4_79
          · have hG := q_ifn c_33 hG
            refine lv_iinc (v := 23) (lv' := [(1, .int 23), (0, .int ((((((((z ^^^ (-1)) &&& (z - 1)) : Int32).toUInt32 >>> ((16 : Int32).toUInt32 &&& Int32.toUInt32 31)).toInt32) : Int32).toUInt32 >>> ((4 : Int32).toUInt32 &&& Int32.toUInt32 31)).toInt32))]) hx hb dJ6_numberOfTrailingZeros_0f7a4_67 hl (k := 1) rfl (by decide) (by decide) rfl (fun ls hl => ?_)
            refine lv_iload_n hx hb dJ6_numberOfTrailingZeros_0f7a4_70 rfl (lv_at hl 1 rfl) ?_
            refine lv_iconst (v := 2) hx hb dJ6_numberOfTrailingZeros_0f7a4_71 (by decide) ?_
            refine lv_iushr hx hb dJ6_numberOfTrailingZeros_0f7a4_72 rfl ?_
            refine lv_istore_n (lv' := [(0, .int (((((((((((z ^^^ (-1)) &&& (z - 1)) : Int32).toUInt32 >>> ((16 : Int32).toUInt32 &&& Int32.toUInt32 31)).toInt32) : Int32).toUInt32 >>> ((4 : Int32).toUInt32 &&& Int32.toUInt32 31)).toInt32) : Int32).toUInt32 >>> ((2 : Int32).toUInt32 &&& Int32.toUInt32 31)).toInt32)), (1, .int 23)]) hx hb dJ6_numberOfTrailingZeros_0f7a4_73 rfl hl (by decide) rfl (fun ls hl => ?_)
            refine lv_iload_n hx hb dJ6_numberOfTrailingZeros_0f7a4_74 rfl (lv_at hl 1 rfl) ?_
            refine lv_iload_n hx hb dJ6_numberOfTrailingZeros_0f7a4_75 rfl (lv_at hl 0 rfl) ?_
            refine lv_iconst (v := 1) hx hb dJ6_numberOfTrailingZeros_0f7a4_76 (by decide) ?_
            refine lv_iushr hx hb dJ6_numberOfTrailingZeros_0f7a4_77 rfl ?_
            refine lv_iadd hx hb dJ6_numberOfTrailingZeros_0f7a4_78 ?_
            obtain ⟨v_36, w_37, hG⟩ := q_bi hG
            refine q_top (y := v_36) (Option.some.inj w_37) ?_
            obtain rfl := Option.some.inj hG
            exact W.iret (v := v_36) hx hb hr (fun t ht hW => ⟨⟨v_36, (), rfl, rfl, trivial⟩, hS.F ht⟩) hS.2.2 dJ6_numberOfTrailingZeros_0f7a4_79
      · have hG := q_ifn c_26 hG
        refine lv_iinc (v := 25) (lv' := [(1, .int 25), (0, .int (((((z ^^^ (-1)) &&& (z - 1)) : Int32).toUInt32 >>> ((16 : Int32).toUInt32 &&& Int32.toUInt32 31)).toInt32))]) hx hb dJ6_numberOfTrailingZeros_0f7a4_41 hl (k := 1) rfl (by decide) (by decide) rfl (fun ls hl => ?_)
        refine lv_iload_n hx hb dJ6_numberOfTrailingZeros_0f7a4_44 rfl (lv_at hl 1 rfl) ?_
        refine lv_bipush (v := 8) hx hb dJ6_numberOfTrailingZeros_0f7a4_45 (by decide) ?_
        refine lv_iushr hx hb dJ6_numberOfTrailingZeros_0f7a4_47 rfl ?_
        refine lv_istore_n (lv' := [(0, .int ((((((((z ^^^ (-1)) &&& (z - 1)) : Int32).toUInt32 >>> ((16 : Int32).toUInt32 &&& Int32.toUInt32 31)).toInt32) : Int32).toUInt32 >>> ((8 : Int32).toUInt32 &&& Int32.toUInt32 31)).toInt32)), (1, .int 25)]) hx hb dJ6_numberOfTrailingZeros_0f7a4_48 rfl hl (by decide) rfl (fun ls hl => ?_)
        refine lv_iload_n hx hb dJ6_numberOfTrailingZeros_0f7a4_49 rfl (lv_at hl 0 rfl) ?_
        refine lv_bipush (v := 16) hx hb dJ6_numberOfTrailingZeros_0f7a4_50 (by decide) ?_
        refine lv_icmp_le (tgt := 62) hx hb dJ6_numberOfTrailingZeros_0f7a4_52 (by decide) (fun c_38 => ?_) (fun c_38 => ?_)
        · have hG := q_ifp c_38 hG
          refine lv_iload_n hx hb dJ6_numberOfTrailingZeros_0f7a4_62 rfl (lv_at hl 0 rfl) ?_
          refine lv_iconst (v := 4) hx hb dJ6_numberOfTrailingZeros_0f7a4_63 (by decide) ?_
          refine lv_icmp_le (tgt := 74) hx hb dJ6_numberOfTrailingZeros_0f7a4_64 (by decide) (fun c_39 => ?_) (fun c_39 => ?_)
          · have hG := q_ifp c_39 hG
            refine lv_iload_n hx hb dJ6_numberOfTrailingZeros_0f7a4_74 rfl (lv_at hl 1 rfl) ?_
            refine lv_iload_n hx hb dJ6_numberOfTrailingZeros_0f7a4_75 rfl (lv_at hl 0 rfl) ?_
            refine lv_iconst (v := 1) hx hb dJ6_numberOfTrailingZeros_0f7a4_76 (by decide) ?_
            refine lv_iushr hx hb dJ6_numberOfTrailingZeros_0f7a4_77 rfl ?_
            refine lv_iadd hx hb dJ6_numberOfTrailingZeros_0f7a4_78 ?_
            obtain ⟨v_40, w_41, hG⟩ := q_bi hG
            refine q_top (y := v_40) (Option.some.inj w_41) ?_
            obtain rfl := Option.some.inj hG
            exact W.iret (v := v_40) hx hb hr (fun t ht hW => ⟨⟨v_40, (), rfl, rfl, trivial⟩, hS.F ht⟩) hS.2.2 dJ6_numberOfTrailingZeros_0f7a4_79
          · have hG := q_ifn c_39 hG
            refine lv_iinc (v := 27) (lv' := [(1, .int 27), (0, .int ((((((((z ^^^ (-1)) &&& (z - 1)) : Int32).toUInt32 >>> ((16 : Int32).toUInt32 &&& Int32.toUInt32 31)).toInt32) : Int32).toUInt32 >>> ((8 : Int32).toUInt32 &&& Int32.toUInt32 31)).toInt32))]) hx hb dJ6_numberOfTrailingZeros_0f7a4_67 hl (k := 1) rfl (by decide) (by decide) rfl (fun ls hl => ?_)
            refine lv_iload_n hx hb dJ6_numberOfTrailingZeros_0f7a4_70 rfl (lv_at hl 1 rfl) ?_
            refine lv_iconst (v := 2) hx hb dJ6_numberOfTrailingZeros_0f7a4_71 (by decide) ?_
            refine lv_iushr hx hb dJ6_numberOfTrailingZeros_0f7a4_72 rfl ?_
            refine lv_istore_n (lv' := [(0, .int (((((((((((z ^^^ (-1)) &&& (z - 1)) : Int32).toUInt32 >>> ((16 : Int32).toUInt32 &&& Int32.toUInt32 31)).toInt32) : Int32).toUInt32 >>> ((8 : Int32).toUInt32 &&& Int32.toUInt32 31)).toInt32) : Int32).toUInt32 >>> ((2 : Int32).toUInt32 &&& Int32.toUInt32 31)).toInt32)), (1, .int 27)]) hx hb dJ6_numberOfTrailingZeros_0f7a4_73 rfl hl (by decide) rfl (fun ls hl => ?_)
            refine lv_iload_n hx hb dJ6_numberOfTrailingZeros_0f7a4_74 rfl (lv_at hl 1 rfl) ?_
            refine lv_iload_n hx hb dJ6_numberOfTrailingZeros_0f7a4_75 rfl (lv_at hl 0 rfl) ?_
            refine lv_iconst (v := 1) hx hb dJ6_numberOfTrailingZeros_0f7a4_76 (by decide) ?_
            refine lv_iushr hx hb dJ6_numberOfTrailingZeros_0f7a4_77 rfl ?_
            refine lv_iadd hx hb dJ6_numberOfTrailingZeros_0f7a4_78 ?_
            obtain ⟨v_42, w_43, hG⟩ := q_bi hG
            refine q_top (y := v_42) (Option.some.inj w_43) ?_
            obtain rfl := Option.some.inj hG
            exact W.iret (v := v_42) hx hb hr (fun t ht hW => ⟨⟨v_42, (), rfl, rfl, trivial⟩, hS.F ht⟩) hS.2.2 dJ6_numberOfTrailingZeros_0f7a4_79
        · have hG := q_ifn c_38 hG
          refine lv_iinc (v := 29) (lv' := [(1, .int 29), (0, .int ((((((((z ^^^ (-1)) &&& (z - 1)) : Int32).toUInt32 >>> ((16 : Int32).toUInt32 &&& Int32.toUInt32 31)).toInt32) : Int32).toUInt32 >>> ((8 : Int32).toUInt32 &&& Int32.toUInt32 31)).toInt32))]) hx hb dJ6_numberOfTrailingZeros_0f7a4_55 hl (k := 1) rfl (by decide) (by decide) rfl (fun ls hl => ?_)
          refine lv_iload_n hx hb dJ6_numberOfTrailingZeros_0f7a4_58 rfl (lv_at hl 1 rfl) ?_
          refine lv_iconst (v := 4) hx hb dJ6_numberOfTrailingZeros_0f7a4_59 (by decide) ?_
          refine lv_iushr hx hb dJ6_numberOfTrailingZeros_0f7a4_60 rfl ?_
          refine lv_istore_n (lv' := [(0, .int (((((((((((z ^^^ (-1)) &&& (z - 1)) : Int32).toUInt32 >>> ((16 : Int32).toUInt32 &&& Int32.toUInt32 31)).toInt32) : Int32).toUInt32 >>> ((8 : Int32).toUInt32 &&& Int32.toUInt32 31)).toInt32) : Int32).toUInt32 >>> ((4 : Int32).toUInt32 &&& Int32.toUInt32 31)).toInt32)), (1, .int 29)]) hx hb dJ6_numberOfTrailingZeros_0f7a4_61 rfl hl (by decide) rfl (fun ls hl => ?_)
          refine lv_iload_n hx hb dJ6_numberOfTrailingZeros_0f7a4_62 rfl (lv_at hl 0 rfl) ?_
          refine lv_iconst (v := 4) hx hb dJ6_numberOfTrailingZeros_0f7a4_63 (by decide) ?_
          refine lv_icmp_le (tgt := 74) hx hb dJ6_numberOfTrailingZeros_0f7a4_64 (by decide) (fun c_44 => ?_) (fun c_44 => ?_)
          · have hG := q_ifp c_44 hG
            refine lv_iload_n hx hb dJ6_numberOfTrailingZeros_0f7a4_74 rfl (lv_at hl 1 rfl) ?_
            refine lv_iload_n hx hb dJ6_numberOfTrailingZeros_0f7a4_75 rfl (lv_at hl 0 rfl) ?_
            refine lv_iconst (v := 1) hx hb dJ6_numberOfTrailingZeros_0f7a4_76 (by decide) ?_
            refine lv_iushr hx hb dJ6_numberOfTrailingZeros_0f7a4_77 rfl ?_
            refine lv_iadd hx hb dJ6_numberOfTrailingZeros_0f7a4_78 ?_
            obtain ⟨v_45, w_46, hG⟩ := q_bi hG
            refine q_top (y := v_45) (Option.some.inj w_46) ?_
            obtain rfl := Option.some.inj hG
            exact W.iret (v := v_45) hx hb hr (fun t ht hW => ⟨⟨v_45, (), rfl, rfl, trivial⟩, hS.F ht⟩) hS.2.2 dJ6_numberOfTrailingZeros_0f7a4_79
          · have hG := q_ifn c_44 hG
            refine lv_iinc (v := 31) (lv' := [(1, .int 31), (0, .int (((((((((((z ^^^ (-1)) &&& (z - 1)) : Int32).toUInt32 >>> ((16 : Int32).toUInt32 &&& Int32.toUInt32 31)).toInt32) : Int32).toUInt32 >>> ((8 : Int32).toUInt32 &&& Int32.toUInt32 31)).toInt32) : Int32).toUInt32 >>> ((4 : Int32).toUInt32 &&& Int32.toUInt32 31)).toInt32))]) hx hb dJ6_numberOfTrailingZeros_0f7a4_67 hl (k := 1) rfl (by decide) (by decide) rfl (fun ls hl => ?_)
            refine lv_iload_n hx hb dJ6_numberOfTrailingZeros_0f7a4_70 rfl (lv_at hl 1 rfl) ?_
            refine lv_iconst (v := 2) hx hb dJ6_numberOfTrailingZeros_0f7a4_71 (by decide) ?_
            refine lv_iushr hx hb dJ6_numberOfTrailingZeros_0f7a4_72 rfl ?_
            refine lv_istore_n (lv' := [(0, .int ((((((((((((((z ^^^ (-1)) &&& (z - 1)) : Int32).toUInt32 >>> ((16 : Int32).toUInt32 &&& Int32.toUInt32 31)).toInt32) : Int32).toUInt32 >>> ((8 : Int32).toUInt32 &&& Int32.toUInt32 31)).toInt32) : Int32).toUInt32 >>> ((4 : Int32).toUInt32 &&& Int32.toUInt32 31)).toInt32) : Int32).toUInt32 >>> ((2 : Int32).toUInt32 &&& Int32.toUInt32 31)).toInt32)), (1, .int 31)]) hx hb dJ6_numberOfTrailingZeros_0f7a4_73 rfl hl (by decide) rfl (fun ls hl => ?_)
            refine lv_iload_n hx hb dJ6_numberOfTrailingZeros_0f7a4_74 rfl (lv_at hl 1 rfl) ?_
            refine lv_iload_n hx hb dJ6_numberOfTrailingZeros_0f7a4_75 rfl (lv_at hl 0 rfl) ?_
            refine lv_iconst (v := 1) hx hb dJ6_numberOfTrailingZeros_0f7a4_76 (by decide) ?_
            refine lv_iushr hx hb dJ6_numberOfTrailingZeros_0f7a4_77 rfl ?_
            refine lv_iadd hx hb dJ6_numberOfTrailingZeros_0f7a4_78 ?_
            obtain ⟨v_47, w_48, hG⟩ := q_bi hG
            refine q_top (y := v_47) (Option.some.inj w_48) ?_
            obtain rfl := Option.some.inj hG
            exact W.iret (v := v_47) hx hb hr (fun t ht hW => ⟨⟨v_47, (), rfl, rfl, trivial⟩, hS.F ht⟩) hS.2.2 dJ6_numberOfTrailingZeros_0f7a4_79
  · have hG := q_ifn c_1 hG
    refine lv_iload_n hx hb dJ6_numberOfTrailingZeros_0f7a4_12 rfl (lv_at hl 0 rfl) ?_
    refine lv_bipush (v := 32) hx hb dJ6_numberOfTrailingZeros_0f7a4_13 (by decide) ?_
    refine lv_iand hx hb dJ6_numberOfTrailingZeros_0f7a4_15 ?_
    obtain rfl := Option.some.inj hG
    exact W.iret (v := (((z ^^^ (-1)) &&& (z - 1)) &&& 32)) hx hb hr (fun t ht hW => ⟨⟨(((z ^^^ (-1)) &&& (z - 1)) &&& 32), (), rfl, rfl, trivial⟩, hS.F ht⟩) hS.2.2 dJ6_numberOfTrailingZeros_0f7a4_16

def F_X0_is (fr : Nat → Int32) (dv : Int32) (fu : Nat → Int32) (fp : Nat → Int32) (d : Int32) (ee : Int32) : Option (Int32) := (if d < 0 then some (0) else (if 8 ≤ d then some (0) else (if (0 + d) < 0 ∨ 98 ≤ ((0 + d)).toNatClampNeg then none else (if (fr (0 + d).toNatClampNeg) = ee then some (1) else some (0)))))
set_option maxHeartbeats 4000000 in
set_option maxRecDepth 100000 in
theorem c_X0_is (l : Launch) (dC : Nat → ClassId) (dI : Nat → Nat → Nat) (g : Nat) (r0 : Nat) (h : Nat) (r1 : Nat) (r2 : Nat) (dv : Int32) (c0 : ClassId) (fr : Nat → Int32) (c1 : ClassId) (c2 : ClassId) (fu : Nat → Int32) (fp : Nat → Int32) (d : Int32) (ee : Int32) (o : Int32) (hG : F_X0_is fr dv fu fp d ee = some o) : Met l yX0_is (.code yX0_is cX0_is 3 (some .boolean) :: wA) ({ frames := 0, cells := 0, slots := 0, locals := 0 }) (va_Pc [.ref g, .int d, .int ee] (q_R (dC, dI) [(g, .inr (0, [.ref r0, .ref h])), (r0, .inl (c0, 98, .inl fr)), (h, .inr (5, [.ref r1, .ref r2, .int dv])), (r1, .inl (c1, 8, .inl fu)), (r2, .inl (c2, 48, .inl fp))] [(c0, .int), (c1, .int), (c2, .int)])) (q_i o) 0 0 (fun _ => False) := by
  refine Met.ofW (cc := cX0_is) (maxL := 3) (ret := (some .boolean)) (by decide) rfl ?_
  intro p e s m args below meth c s₁ B hml hv
  obtain ⟨rfl, hP, hK⟩ := hv
  have hx := B.exec
  have hb := B.bytes
  have hr := B.returns
  have hts := atoms_spec (ws := .code yX0_is cX0_is 3 (some .boolean) :: wA) B.pre
  have hown : s.vm.findClass RX0 = some m.cls := findClass_of_methodNamed B.named
  have hlocks := B.notSynchronized
  have hS : va_S (fun _ => False) s.heap s.heap [] := va_S.rf
  have hl := lv_entry ([.ref g, .int d, .int ee]) (n := 3) (Nat.le_of_ble_eq_true rfl)
  rw [lg_entry_eq]
  generalize (lg_sl ([.ref g, .int d, .int ee]) ++ List.replicate (3 - (lg_sl ([.ref g, .int d, .int ee])).length) Slot.unset).toArray = ls at hl ⊢
  have hl : lv_has ls 3 [(0, .ref g), (1, .int d), (2, .int ee)] := hl
  unfold F_X0_is at hG
  refine lv_iload_n hx hb dX0_is_0 rfl (lv_at hl 1 rfl) ?_
  refine lv_if_lt (tgt := 26) hx hb dX0_is_1 (by decide) (fun c_1 => ?_) (fun c_1 => ?_)
  · have hG := q_ifp c_1 hG
    refine lv_iconst (v := 0) hx hb dX0_is_26 (by decide) ?_
    obtain rfl := Option.some.inj hG
    exact W.zret (v := 0) hx hb hr rfl (fun t ht hW => ⟨⟨0, (), rfl, rfl, trivial⟩, hS.F ht⟩) hS.2.2 dX0_is_27
  · have hG := q_ifn c_1 hG
    refine lv_iload_n hx hb dX0_is_4 rfl (lv_at hl 1 rfl) ?_
    refine lv_bipush (v := 8) hx hb dX0_is_5 (by decide) ?_
    refine lv_icmp_ge (tgt := 26) hx hb dX0_is_7 (by decide) (fun c_2 => ?_) (fun c_2 => ?_)
    · have hG := q_ifp c_2 hG
      refine lv_iconst (v := 0) hx hb dX0_is_26 (by decide) ?_
      obtain rfl := Option.some.inj hG
      exact W.zret (v := 0) hx hb hr rfl (fun t ht hW => ⟨⟨0, (), rfl, rfl, trivial⟩, hS.F ht⟩) hS.2.2 dX0_is_27
    · have hG := q_ifn c_2 hG
      refine lv_aload_n hx hb dX0_is_10 rfl (lv_at hl 0 rfl) ?_
      refine va_get (D := (dC, dI)) (ci := 0) (v := .ref r0) (C := RX0) (T := TX0) (N := 2) hx hb hts iA_0 hown hK hP 0 rfl rfl 0 (by decide) (hts (.fieldLink RX0 11 "HubTree$Bus" "row" "[I") (List.mem_cons_of_mem _ m_88)) (fun _ h9 => h9) rfl dX0_is_11 ?_
      refine lv_iconst (v := 0) hx hb dX0_is_14 (by decide) ?_
      refine lv_iload_n hx hb dX0_is_15 rfl (lv_at hl 1 rfl) ?_
      refine lv_iadd hx hb dX0_is_16 ?_
      obtain ⟨h_3, hG⟩ := q_ix hG
      refine va_iald hx hb hK hP 1 0 rfl rfl (i := (0 + d)) h_3 dX0_is_17 ?_
      refine q_top (y := (fr (0 + d).toNatClampNeg)) rfl ?_
      refine lv_iload_n hx hb dX0_is_18 rfl (lv_at hl 2 rfl) ?_
      refine lv_icmp_ne (tgt := 26) hx hb dX0_is_19 (by decide) (fun c_4 => ?_) (fun c_4 => ?_)
      · have hG := q_ifn c_4 hG
        refine lv_iconst (v := 0) hx hb dX0_is_26 (by decide) ?_
        obtain rfl := Option.some.inj hG
        exact W.zret (v := 0) hx hb hr rfl (fun t ht hW => ⟨⟨0, (), rfl, rfl, trivial⟩, hS.F ht⟩) hS.2.2 dX0_is_27
      · have hG := q_ifp c_4 hG
        refine lv_iconst (v := 1) hx hb dX0_is_22 (by decide) ?_
        refine lv_goto (tgt := 27) hx hb dX0_is_23 (by decide) ?_
        obtain rfl := Option.some.inj hG
        exact W.zret (v := 1) hx hb hr rfl (fun t ht hW => ⟨⟨1, (), rfl, rfl, trivial⟩, hS.F ht⟩) hS.2.2 dX0_is_27

def F_X0_isAsleep (fr : Nat → Int32) (dv : Int32) (fu : Nat → Int32) (fp : Nat → Int32) (d : Int32) : Option (Int32) := (if d < 0 then some (0) else (if 8 ≤ d then some (0) else (if (88 + d) < 0 ∨ 98 ≤ ((88 + d)).toNatClampNeg then none else (if (fr (88 + d).toNatClampNeg) = 1 then some (1) else some (0)))))
set_option maxHeartbeats 4000000 in
set_option maxRecDepth 100000 in
theorem c_X0_isAsleep (l : Launch) (dC : Nat → ClassId) (dI : Nat → Nat → Nat) (g : Nat) (r0 : Nat) (h : Nat) (r1 : Nat) (r2 : Nat) (dv : Int32) (c0 : ClassId) (fr : Nat → Int32) (c1 : ClassId) (c2 : ClassId) (fu : Nat → Int32) (fp : Nat → Int32) (d : Int32) (o : Int32) (hG : F_X0_isAsleep fr dv fu fp d = some o) : Met l yX0_isAsleep (.code yX0_isAsleep cX0_isAsleep 2 (some .boolean) :: wA) ({ frames := 0, cells := 0, slots := 0, locals := 0 }) (va_Pc [.ref g, .int d] (q_R (dC, dI) [(g, .inr (0, [.ref r0, .ref h])), (r0, .inl (c0, 98, .inl fr)), (h, .inr (5, [.ref r1, .ref r2, .int dv])), (r1, .inl (c1, 8, .inl fu)), (r2, .inl (c2, 48, .inl fp))] [(c0, .int), (c1, .int), (c2, .int)])) (q_i o) 0 0 (fun _ => False) := by
  refine Met.ofW (cc := cX0_isAsleep) (maxL := 2) (ret := (some .boolean)) (by decide) rfl ?_
  intro p e s m args below meth c s₁ B hml hv
  obtain ⟨rfl, hP, hK⟩ := hv
  have hx := B.exec
  have hb := B.bytes
  have hr := B.returns
  have hts := atoms_spec (ws := .code yX0_isAsleep cX0_isAsleep 2 (some .boolean) :: wA) B.pre
  have hown : s.vm.findClass RX0 = some m.cls := findClass_of_methodNamed B.named
  have hlocks := B.notSynchronized
  have hS : va_S (fun _ => False) s.heap s.heap [] := va_S.rf
  have hl := lv_entry ([.ref g, .int d]) (n := 2) (Nat.le_of_ble_eq_true rfl)
  rw [lg_entry_eq]
  generalize (lg_sl ([.ref g, .int d]) ++ List.replicate (2 - (lg_sl ([.ref g, .int d])).length) Slot.unset).toArray = ls at hl ⊢
  have hl : lv_has ls 2 [(0, .ref g), (1, .int d)] := hl
  unfold F_X0_isAsleep at hG
  refine lv_iload_n hx hb dX0_isAsleep_0 rfl (lv_at hl 1 rfl) ?_
  refine lv_if_lt (tgt := 27) hx hb dX0_isAsleep_1 (by decide) (fun c_1 => ?_) (fun c_1 => ?_)
  · have hG := q_ifp c_1 hG
    refine lv_iconst (v := 0) hx hb dX0_isAsleep_27 (by decide) ?_
    obtain rfl := Option.some.inj hG
    exact W.zret (v := 0) hx hb hr rfl (fun t ht hW => ⟨⟨0, (), rfl, rfl, trivial⟩, hS.F ht⟩) hS.2.2 dX0_isAsleep_28
  · have hG := q_ifn c_1 hG
    refine lv_iload_n hx hb dX0_isAsleep_4 rfl (lv_at hl 1 rfl) ?_
    refine lv_bipush (v := 8) hx hb dX0_isAsleep_5 (by decide) ?_
    refine lv_icmp_ge (tgt := 27) hx hb dX0_isAsleep_7 (by decide) (fun c_2 => ?_) (fun c_2 => ?_)
    · have hG := q_ifp c_2 hG
      refine lv_iconst (v := 0) hx hb dX0_isAsleep_27 (by decide) ?_
      obtain rfl := Option.some.inj hG
      exact W.zret (v := 0) hx hb hr rfl (fun t ht hW => ⟨⟨0, (), rfl, rfl, trivial⟩, hS.F ht⟩) hS.2.2 dX0_isAsleep_28
    · have hG := q_ifn c_2 hG
      refine lv_aload_n hx hb dX0_isAsleep_10 rfl (lv_at hl 0 rfl) ?_
      refine va_get (D := (dC, dI)) (ci := 0) (v := .ref r0) (C := RX0) (T := TX0) (N := 2) hx hb hts iA_0 hown hK hP 0 rfl rfl 0 (by decide) (hts (.fieldLink RX0 11 "HubTree$Bus" "row" "[I") (List.mem_cons_of_mem _ m_88)) (fun _ h9 => h9) rfl dX0_isAsleep_11 ?_
      refine lv_bipush (v := 88) hx hb dX0_isAsleep_14 (by decide) ?_
      refine lv_iload_n hx hb dX0_isAsleep_16 rfl (lv_at hl 1 rfl) ?_
      refine lv_iadd hx hb dX0_isAsleep_17 ?_
      obtain ⟨h_3, hG⟩ := q_ix hG
      refine va_iald hx hb hK hP 1 0 rfl rfl (i := (88 + d)) h_3 dX0_isAsleep_18 ?_
      refine q_top (y := (fr (88 + d).toNatClampNeg)) rfl ?_
      refine lv_iconst (v := 1) hx hb dX0_isAsleep_19 (by decide) ?_
      refine lv_icmp_ne (tgt := 27) hx hb dX0_isAsleep_20 (by decide) (fun c_4 => ?_) (fun c_4 => ?_)
      · have hG := q_ifn c_4 hG
        refine lv_iconst (v := 0) hx hb dX0_isAsleep_27 (by decide) ?_
        obtain rfl := Option.some.inj hG
        exact W.zret (v := 0) hx hb hr rfl (fun t ht hW => ⟨⟨0, (), rfl, rfl, trivial⟩, hS.F ht⟩) hS.2.2 dX0_isAsleep_28
      · have hG := q_ifp c_4 hG
        refine lv_iconst (v := 1) hx hb dX0_isAsleep_23 (by decide) ?_
        refine lv_goto (tgt := 28) hx hb dX0_isAsleep_24 (by decide) ?_
        obtain rfl := Option.some.inj hG
        exact W.zret (v := 1) hx hb hr rfl (fun t ht hW => ⟨⟨1, (), rfl, rfl, trivial⟩, hS.F ht⟩) hS.2.2 dX0_isAsleep_28

def F_X0_isAwake (fr : Nat → Int32) (dv : Int32) (fu : Nat → Int32) (fp : Nat → Int32) (d : Int32) : Option (Int32) := (if (0 + d) < 0 ∨ 98 ≤ ((0 + d)).toNatClampNeg then none else (if (fr (0 + d).toNatClampNeg) = 6 then (if (88 + d) < 0 ∨ 98 ≤ ((88 + d)).toNatClampNeg then none else (if (fr (88 + d).toNatClampNeg) = 0 then some (1) else some (0))) else some (0)))
set_option maxHeartbeats 4000000 in
set_option maxRecDepth 100000 in
theorem c_X0_isAwake (l : Launch) (dC : Nat → ClassId) (dI : Nat → Nat → Nat) (g : Nat) (r0 : Nat) (h : Nat) (r1 : Nat) (r2 : Nat) (dv : Int32) (c0 : ClassId) (fr : Nat → Int32) (c1 : ClassId) (c2 : ClassId) (fu : Nat → Int32) (fp : Nat → Int32) (d : Int32) (o : Int32) (hG : F_X0_isAwake fr dv fu fp d = some o) : Met l yX0_isAwake (.code yX0_isAwake cX0_isAwake 2 (some .boolean) :: wA) ({ frames := 0, cells := 0, slots := 0, locals := 0 }) (va_Pc [.ref g, .int d] (q_R (dC, dI) [(g, .inr (0, [.ref r0, .ref h])), (r0, .inl (c0, 98, .inl fr)), (h, .inr (5, [.ref r1, .ref r2, .int dv])), (r1, .inl (c1, 8, .inl fu)), (r2, .inl (c2, 48, .inl fp))] [(c0, .int), (c1, .int), (c2, .int)])) (q_i o) 0 0 (fun _ => False) := by
  refine Met.ofW (cc := cX0_isAwake) (maxL := 2) (ret := (some .boolean)) (by decide) rfl ?_
  intro p e s m args below meth c s₁ B hml hv
  obtain ⟨rfl, hP, hK⟩ := hv
  have hx := B.exec
  have hb := B.bytes
  have hr := B.returns
  have hts := atoms_spec (ws := .code yX0_isAwake cX0_isAwake 2 (some .boolean) :: wA) B.pre
  have hown : s.vm.findClass RX0 = some m.cls := findClass_of_methodNamed B.named
  have hlocks := B.notSynchronized
  have hS : va_S (fun _ => False) s.heap s.heap [] := va_S.rf
  have hl := lv_entry ([.ref g, .int d]) (n := 2) (Nat.le_of_ble_eq_true rfl)
  rw [lg_entry_eq]
  generalize (lg_sl ([.ref g, .int d]) ++ List.replicate (2 - (lg_sl ([.ref g, .int d])).length) Slot.unset).toArray = ls at hl ⊢
  have hl : lv_has ls 2 [(0, .ref g), (1, .int d)] := hl
  unfold F_X0_isAwake at hG
  refine lv_aload_n hx hb dX0_isAwake_0 rfl (lv_at hl 0 rfl) ?_
  refine va_get (D := (dC, dI)) (ci := 0) (v := .ref r0) (C := RX0) (T := TX0) (N := 2) hx hb hts iA_0 hown hK hP 0 rfl rfl 0 (by decide) (hts (.fieldLink RX0 11 "HubTree$Bus" "row" "[I") (List.mem_cons_of_mem _ m_88)) (fun _ h9 => h9) rfl dX0_isAwake_1 ?_
  refine lv_iconst (v := 0) hx hb dX0_isAwake_4 (by decide) ?_
  refine lv_iload_n hx hb dX0_isAwake_5 rfl (lv_at hl 1 rfl) ?_
  refine lv_iadd hx hb dX0_isAwake_6 ?_
  obtain ⟨h_1, hG⟩ := q_ix hG
  refine va_iald hx hb hK hP 1 0 rfl rfl (i := (0 + d)) h_1 dX0_isAwake_7 ?_
  refine q_top (y := (fr (0 + d).toNatClampNeg)) rfl ?_
  refine lv_bipush (v := 6) hx hb dX0_isAwake_8 (by decide) ?_
  refine lv_icmp_ne (tgt := 29) hx hb dX0_isAwake_10 (by decide) (fun c_2 => ?_) (fun c_2 => ?_)
  · have hG := q_ifn c_2 hG
    refine lv_iconst (v := 0) hx hb dX0_isAwake_29 (by decide) ?_
    obtain rfl := Option.some.inj hG
    exact W.zret (v := 0) hx hb hr rfl (fun t ht hW => ⟨⟨0, (), rfl, rfl, trivial⟩, hS.F ht⟩) hS.2.2 dX0_isAwake_30
  · have hG := q_ifp c_2 hG
    refine lv_aload_n hx hb dX0_isAwake_13 rfl (lv_at hl 0 rfl) ?_
    refine va_get (D := (dC, dI)) (ci := 0) (v := .ref r0) (C := RX0) (T := TX0) (N := 2) hx hb hts iA_0 hown hK hP 0 rfl rfl 0 (by decide) (hts (.fieldLink RX0 11 "HubTree$Bus" "row" "[I") (List.mem_cons_of_mem _ m_88)) (fun _ h9 => h9) rfl dX0_isAwake_14 ?_
    refine lv_bipush (v := 88) hx hb dX0_isAwake_17 (by decide) ?_
    refine lv_iload_n hx hb dX0_isAwake_19 rfl (lv_at hl 1 rfl) ?_
    refine lv_iadd hx hb dX0_isAwake_20 ?_
    obtain ⟨h_3, hG⟩ := q_ix hG
    refine va_iald hx hb hK hP 1 0 rfl rfl (i := (88 + d)) h_3 dX0_isAwake_21 ?_
    refine q_top (y := (fr (88 + d).toNatClampNeg)) rfl ?_
    refine lv_if_ne (tgt := 29) hx hb dX0_isAwake_22 (by decide) (fun c_4 => ?_) (fun c_4 => ?_)
    · have hG := q_ifn c_4 hG
      refine lv_iconst (v := 0) hx hb dX0_isAwake_29 (by decide) ?_
      obtain rfl := Option.some.inj hG
      exact W.zret (v := 0) hx hb hr rfl (fun t ht hW => ⟨⟨0, (), rfl, rfl, trivial⟩, hS.F ht⟩) hS.2.2 dX0_isAwake_30
    · have hG := q_ifp c_4 hG
      refine lv_iconst (v := 1) hx hb dX0_isAwake_25 (by decide) ?_
      refine lv_goto (tgt := 30) hx hb dX0_isAwake_26 (by decide) ?_
      obtain rfl := Option.some.inj hG
      exact W.zret (v := 1) hx hb hr rfl (fun t ht hW => ⟨⟨1, (), rfl, rfl, trivial⟩, hS.F ht⟩) hS.2.2 dX0_isAwake_30

def F_X0_isStanding (fr : Nat → Int32) (dv : Int32) (fu : Nat → Int32) (fp : Nat → Int32) (d : Int32) : Option (Int32) := (if (0 + d) < 0 ∨ 98 ≤ ((0 + d)).toNatClampNeg then none else (if (fr (0 + d).toNatClampNeg) < 3 then some (0) else (if (0 + d) < 0 ∨ 98 ≤ ((0 + d)).toNatClampNeg then none else (if 5 < (fr (0 + d).toNatClampNeg) then some (0) else some (1)))))
set_option maxHeartbeats 4000000 in
set_option maxRecDepth 100000 in
theorem c_X0_isStanding (l : Launch) (dC : Nat → ClassId) (dI : Nat → Nat → Nat) (g : Nat) (r0 : Nat) (h : Nat) (r1 : Nat) (r2 : Nat) (dv : Int32) (c0 : ClassId) (fr : Nat → Int32) (c1 : ClassId) (c2 : ClassId) (fu : Nat → Int32) (fp : Nat → Int32) (d : Int32) (o : Int32) (hG : F_X0_isStanding fr dv fu fp d = some o) : Met l yX0_isStanding (.code yX0_isStanding cX0_isStanding 2 (some .boolean) :: wA) ({ frames := 0, cells := 0, slots := 0, locals := 0 }) (va_Pc [.ref g, .int d] (q_R (dC, dI) [(g, .inr (0, [.ref r0, .ref h])), (r0, .inl (c0, 98, .inl fr)), (h, .inr (5, [.ref r1, .ref r2, .int dv])), (r1, .inl (c1, 8, .inl fu)), (r2, .inl (c2, 48, .inl fp))] [(c0, .int), (c1, .int), (c2, .int)])) (q_i o) 0 0 (fun _ => False) := by
  refine Met.ofW (cc := cX0_isStanding) (maxL := 2) (ret := (some .boolean)) (by decide) rfl ?_
  intro p e s m args below meth c s₁ B hml hv
  obtain ⟨rfl, hP, hK⟩ := hv
  have hx := B.exec
  have hb := B.bytes
  have hr := B.returns
  have hts := atoms_spec (ws := .code yX0_isStanding cX0_isStanding 2 (some .boolean) :: wA) B.pre
  have hown : s.vm.findClass RX0 = some m.cls := findClass_of_methodNamed B.named
  have hlocks := B.notSynchronized
  have hS : va_S (fun _ => False) s.heap s.heap [] := va_S.rf
  have hl := lv_entry ([.ref g, .int d]) (n := 2) (Nat.le_of_ble_eq_true rfl)
  rw [lg_entry_eq]
  generalize (lg_sl ([.ref g, .int d]) ++ List.replicate (2 - (lg_sl ([.ref g, .int d])).length) Slot.unset).toArray = ls at hl ⊢
  have hl : lv_has ls 2 [(0, .ref g), (1, .int d)] := hl
  unfold F_X0_isStanding at hG
  refine lv_aload_n hx hb dX0_isStanding_0 rfl (lv_at hl 0 rfl) ?_
  refine va_get (D := (dC, dI)) (ci := 0) (v := .ref r0) (C := RX0) (T := TX0) (N := 2) hx hb hts iA_0 hown hK hP 0 rfl rfl 0 (by decide) (hts (.fieldLink RX0 11 "HubTree$Bus" "row" "[I") (List.mem_cons_of_mem _ m_88)) (fun _ h9 => h9) rfl dX0_isStanding_1 ?_
  refine lv_iconst (v := 0) hx hb dX0_isStanding_4 (by decide) ?_
  refine lv_iload_n hx hb dX0_isStanding_5 rfl (lv_at hl 1 rfl) ?_
  refine lv_iadd hx hb dX0_isStanding_6 ?_
  obtain ⟨h_1, hG⟩ := q_ix hG
  refine va_iald hx hb hK hP 1 0 rfl rfl (i := (0 + d)) h_1 dX0_isStanding_7 ?_
  refine q_top (y := (fr (0 + d).toNatClampNeg)) rfl ?_
  refine lv_iconst (v := 3) hx hb dX0_isStanding_8 (by decide) ?_
  refine lv_icmp_lt (tgt := 28) hx hb dX0_isStanding_9 (by decide) (fun c_2 => ?_) (fun c_2 => ?_)
  · have hG := q_ifp c_2 hG
    refine lv_iconst (v := 0) hx hb dX0_isStanding_28 (by decide) ?_
    obtain rfl := Option.some.inj hG
    exact W.zret (v := 0) hx hb hr rfl (fun t ht hW => ⟨⟨0, (), rfl, rfl, trivial⟩, hS.F ht⟩) hS.2.2 dX0_isStanding_29
  · have hG := q_ifn c_2 hG
    refine lv_aload_n hx hb dX0_isStanding_12 rfl (lv_at hl 0 rfl) ?_
    refine va_get (D := (dC, dI)) (ci := 0) (v := .ref r0) (C := RX0) (T := TX0) (N := 2) hx hb hts iA_0 hown hK hP 0 rfl rfl 0 (by decide) (hts (.fieldLink RX0 11 "HubTree$Bus" "row" "[I") (List.mem_cons_of_mem _ m_88)) (fun _ h9 => h9) rfl dX0_isStanding_13 ?_
    refine lv_iconst (v := 0) hx hb dX0_isStanding_16 (by decide) ?_
    refine lv_iload_n hx hb dX0_isStanding_17 rfl (lv_at hl 1 rfl) ?_
    refine lv_iadd hx hb dX0_isStanding_18 ?_
    obtain ⟨h_3, hG⟩ := q_ix hG
    refine va_iald hx hb hK hP 1 0 rfl rfl (i := (0 + d)) h_3 dX0_isStanding_19 ?_
    refine q_top (y := (fr (0 + d).toNatClampNeg)) rfl ?_
    refine lv_iconst (v := 5) hx hb dX0_isStanding_20 (by decide) ?_
    refine lv_icmp_gt (tgt := 28) hx hb dX0_isStanding_21 (by decide) (fun c_4 => ?_) (fun c_4 => ?_)
    · have hG := q_ifp c_4 hG
      refine lv_iconst (v := 0) hx hb dX0_isStanding_28 (by decide) ?_
      obtain rfl := Option.some.inj hG
      exact W.zret (v := 0) hx hb hr rfl (fun t ht hW => ⟨⟨0, (), rfl, rfl, trivial⟩, hS.F ht⟩) hS.2.2 dX0_isStanding_29
    · have hG := q_ifn c_4 hG
      refine lv_iconst (v := 1) hx hb dX0_isStanding_24 (by decide) ?_
      refine lv_goto (tgt := 29) hx hb dX0_isStanding_25 (by decide) ?_
      obtain rfl := Option.some.inj hG
      exact W.zret (v := 1) hx hb hr rfl (fun t ht hW => ⟨⟨1, (), rfl, rfl, trivial⟩, hS.F ht⟩) hS.2.2 dX0_isStanding_29

def F_X0_isOver (fr : Nat → Int32) (dv : Int32) (fu : Nat → Int32) (fp : Nat → Int32) : Option (Int32) := (if (fr 96) < 9999 then some (0) else some (1))
set_option maxHeartbeats 4000000 in
set_option maxRecDepth 100000 in
theorem c_X0_isOver (l : Launch) (dC : Nat → ClassId) (dI : Nat → Nat → Nat) (g : Nat) (r0 : Nat) (h : Nat) (r1 : Nat) (r2 : Nat) (dv : Int32) (c0 : ClassId) (fr : Nat → Int32) (c1 : ClassId) (c2 : ClassId) (fu : Nat → Int32) (fp : Nat → Int32) (o : Int32) (hG : F_X0_isOver fr dv fu fp = some o) : Met l yX0_isOver (.code yX0_isOver cX0_isOver 1 (some .boolean) :: wA) ({ frames := 0, cells := 0, slots := 0, locals := 0 }) (va_Pc [.ref g] (q_R (dC, dI) [(g, .inr (0, [.ref r0, .ref h])), (r0, .inl (c0, 98, .inl fr)), (h, .inr (5, [.ref r1, .ref r2, .int dv])), (r1, .inl (c1, 8, .inl fu)), (r2, .inl (c2, 48, .inl fp))] [(c0, .int), (c1, .int), (c2, .int)])) (q_i o) 0 0 (fun _ => False) := by
  refine Met.ofW (cc := cX0_isOver) (maxL := 1) (ret := (some .boolean)) (by decide) rfl ?_
  intro p e s m args below meth c s₁ B hml hv
  obtain ⟨rfl, hP, hK⟩ := hv
  have hx := B.exec
  have hb := B.bytes
  have hr := B.returns
  have hts := atoms_spec (ws := .code yX0_isOver cX0_isOver 1 (some .boolean) :: wA) B.pre
  have hown : s.vm.findClass RX0 = some m.cls := findClass_of_methodNamed B.named
  have hlocks := B.notSynchronized
  have hS : va_S (fun _ => False) s.heap s.heap [] := va_S.rf
  have hl := lv_entry ([.ref g]) (n := 1) (Nat.le_of_ble_eq_true rfl)
  rw [lg_entry_eq]
  generalize (lg_sl ([.ref g]) ++ List.replicate (1 - (lg_sl ([.ref g])).length) Slot.unset).toArray = ls at hl ⊢
  have hl : lv_has ls 1 [(0, .ref g)] := hl
  unfold F_X0_isOver at hG
  refine lv_aload_n hx hb dX0_isOver_0 rfl (lv_at hl 0 rfl) ?_
  refine va_get (D := (dC, dI)) (ci := 0) (v := .ref r0) (C := RX0) (T := TX0) (N := 2) hx hb hts iA_0 hown hK hP 0 rfl rfl 0 (by decide) (hts (.fieldLink RX0 11 "HubTree$Bus" "row" "[I") (List.mem_cons_of_mem _ m_88)) (fun _ h9 => h9) rfl dX0_isOver_1 ?_
  refine lv_bipush (v := 96) hx hb dX0_isOver_4 (by decide) ?_
  refine va_iald hx hb hK hP 1 0 rfl rfl (i := 96) (vp_in_iff.mpr (by decide)) dX0_isOver_6 ?_
  refine q_top (y := (fr 96)) rfl ?_
  refine lv_sipush (v := 9999) hx hb dX0_isOver_7 (by decide) ?_
  refine lv_icmp_lt (tgt := 17) hx hb dX0_isOver_10 (by decide) (fun c_1 => ?_) (fun c_1 => ?_)
  · have hG := q_ifp c_1 hG
    refine lv_iconst (v := 0) hx hb dX0_isOver_17 (by decide) ?_
    obtain rfl := Option.some.inj hG
    exact W.zret (v := 0) hx hb hr rfl (fun t ht hW => ⟨⟨0, (), rfl, rfl, trivial⟩, hS.F ht⟩) hS.2.2 dX0_isOver_18
  · have hG := q_ifn c_1 hG
    refine lv_iconst (v := 1) hx hb dX0_isOver_13 (by decide) ?_
    refine lv_goto (tgt := 18) hx hb dX0_isOver_14 (by decide) ?_
    obtain rfl := Option.some.inj hG
    exact W.zret (v := 1) hx hb hr rfl (fun t ht hW => ⟨⟨1, (), rfl, rfl, trivial⟩, hS.F ht⟩) hS.2.2 dX0_isOver_18

def FL_X0_allThatAre_4 (fr : Nat → Int32) (dv : Int32) (fu : Nat → Int32) (fp : Nat → Int32) (ee : Int32) : Nat → Int32 → Int32 → Option (Int32)
  | 0, _, _ => none
  | n + 1, x2_4, x3_4 => (if dv ≤ x3_4 then some (x2_4) else (if (0 + x3_4) < 0 ∨ 98 ≤ ((0 + x3_4)).toNatClampNeg then none else (if (fr (0 + x3_4).toNatClampNeg) = ee then (FL_X0_allThatAre_4 fr dv fu fp ee n (x2_4 ||| (1 <<< (x3_4 &&& 31))) (x3_4 + 1)) else (FL_X0_allThatAre_4 fr dv fu fp ee n (x2_4 ||| 0) (x3_4 + 1)))))

def F_X0_allThatAre (fr : Nat → Int32) (dv : Int32) (fu : Nat → Int32) (fp : Nat → Int32) (ee : Int32) : Option (Int32) := (FL_X0_allThatAre_4 fr dv fu fp ee 1000 0 0)
set_option maxHeartbeats 4000000 in
set_option maxRecDepth 100000 in
theorem c_X0_allThatAre (l : Launch) (dC : Nat → ClassId) (dI : Nat → Nat → Nat) (g : Nat) (r0 : Nat) (h : Nat) (r1 : Nat) (r2 : Nat) (dv : Int32) (c0 : ClassId) (fr : Nat → Int32) (c1 : ClassId) (c2 : ClassId) (fu : Nat → Int32) (fp : Nat → Int32) (ee : Int32) (o : Int32) (hG : F_X0_allThatAre fr dv fu fp ee = some o) : Met l yX0_allThatAre (.code yX0_allThatAre cX0_allThatAre 4 (some .int) :: wA) ({ frames := 0, cells := 0, slots := 0, locals := 0 }) (va_Pc [.ref g, .int ee] (q_R (dC, dI) [(g, .inr (0, [.ref r0, .ref h])), (r0, .inl (c0, 98, .inl fr)), (h, .inr (5, [.ref r1, .ref r2, .int dv])), (r1, .inl (c1, 8, .inl fu)), (r2, .inl (c2, 48, .inl fp))] [(c0, .int), (c1, .int), (c2, .int)])) (q_i o) 0 0 (fun _ => False) := by
  refine Met.ofW (cc := cX0_allThatAre) (maxL := 4) (ret := (some .int)) (by decide) rfl ?_
  intro p e s m args below meth c s₁ B hml hv
  obtain ⟨rfl, hP, hK⟩ := hv
  have hx := B.exec
  have hb := B.bytes
  have hr := B.returns
  have hts := atoms_spec (ws := .code yX0_allThatAre cX0_allThatAre 4 (some .int) :: wA) B.pre
  have hown : s.vm.findClass RX0 = some m.cls := findClass_of_methodNamed B.named
  have hlocks := B.notSynchronized
  have hS : va_S (fun _ => False) s.heap s.heap [] := va_S.rf
  have hl := lv_entry ([.ref g, .int ee]) (n := 4) (Nat.le_of_ble_eq_true rfl)
  rw [lg_entry_eq]
  generalize (lg_sl ([.ref g, .int ee]) ++ List.replicate (4 - (lg_sl ([.ref g, .int ee])).length) Slot.unset).toArray = ls at hl ⊢
  have hl : lv_has ls 4 [(0, .ref g), (1, .int ee)] := hl
  unfold F_X0_allThatAre at hG
  refine lv_iconst (v := 0) hx hb dX0_allThatAre_0 (by decide) ?_
  refine lv_istore_n (lv' := [(2, .int 0), (0, .ref g), (1, .int ee)]) hx hb dX0_allThatAre_1 rfl hl (by decide) rfl (fun ls hl => ?_)
  refine lv_iconst (v := 0) hx hb dX0_allThatAre_2 (by decide) ?_
  refine lv_istore_n (lv' := [(3, .int 0), (2, .int 0), (0, .ref g), (1, .int ee)]) hx hb dX0_allThatAre_3 rfl hl (by decide) rfl (fun ls hl => ?_)
  have L_4 : ∀ (n_4 : Nat) (x2_4 : Int32) (x3_4 : Int32) (H : Heap) (locs : List Loc) (ls : Array Slot), FL_X0_allThatAre_4 fr dv fu fp ee n_4 x2_4 x3_4 = some o → va_P (dC, dI) vwCl [(g, .inr (0, [.ref r0, .ref h])), (r0, .inl (c0, 98, .inl fr)), (h, .inr (5, [.ref r1, .ref r2, .int dv])), (r1, .inl (c1, 8, .inl fu)), (r2, .inl (c2, 48, .inl fp))] H → va_S (fun _ => False) s.heap H locs → lv_has ls 4 [(3, .int x3_4), (2, .int x2_4), (0, .ref g), (1, .int ee)] → W p l e (headSpec (.code yX0_allThatAre cX0_allThatAre 4 (some .int) :: wA) ({ frames := 0, cells := 0, slots := 0, locals := 0 })).room s m #[.ref g, .int ee] below meth c H locs 0 0 (MQ below (q_i o) #[.ref g, .int ee] s 0 0 (fun _ => False)) (F0 m 4 ls []) := by
    intro n_4
    induction n_4 with
    | zero =>
      intro x2_4 x3_4 H locs ls hG
      exact q_no hG
    | succ n_4 ih_4 =>
      intro x2_4 x3_4 H locs ls hG hP hS hl
      unfold FL_X0_allThatAre_4 at hG
      refine lv_iload_n hx hb dX0_allThatAre_4 rfl (lv_at hl 0 rfl) ?_
      refine lv_aload_n hx hb dX0_allThatAre_5 rfl (lv_at hl 2 rfl) ?_
      refine va_get (D := (dC, dI)) (ci := 0) (v := .ref h) (C := RX0) (T := TX0) (N := 2) hx hb hts iA_0 hown hK hP 0 rfl rfl 1 (by decide) (hts (.fieldLink RX0 15 "HubTree$Bus" "plan" "LHubTree$Plan;") (List.mem_cons_of_mem _ m_89)) (fun _ h9 => h9) rfl dX0_allThatAre_6 ?_
      refine va_get (D := (dC, dI)) (ci := 5) (v := .int dv) (C := RX5) (T := TX5) (N := 3) hx hb hts iA_5 hown hK hP 2 rfl rfl 2 (by decide) (hts (.fieldLink RX0 25 "HubTree$Plan" "devices" "I") (List.mem_cons_of_mem _ m_399)) (fun _ h9 => h9) rfl dX0_allThatAre_9 ?_
      refine lv_icmp_ge (tgt := 43) hx hb dX0_allThatAre_12 (by decide) (fun c_1 => ?_) (fun c_1 => ?_)
      · have hG := q_ifp c_1 hG
        refine lv_iload_n hx hb dX0_allThatAre_43 rfl (lv_at hl 1 rfl) ?_
        obtain rfl := Option.some.inj hG
        exact W.iret (v := x2_4) hx hb hr (fun t ht hW => ⟨⟨x2_4, (), rfl, rfl, trivial⟩, hS.F ht⟩) hS.2.2 dX0_allThatAre_44
      · have hG := q_ifn c_1 hG
        refine lv_iload_n hx hb dX0_allThatAre_15 rfl (lv_at hl 1 rfl) ?_
        refine lv_aload_n hx hb dX0_allThatAre_16 rfl (lv_at hl 2 rfl) ?_
        refine va_get (D := (dC, dI)) (ci := 0) (v := .ref r0) (C := RX0) (T := TX0) (N := 2) hx hb hts iA_0 hown hK hP 0 rfl rfl 0 (by decide) (hts (.fieldLink RX0 11 "HubTree$Bus" "row" "[I") (List.mem_cons_of_mem _ m_88)) (fun _ h9 => h9) rfl dX0_allThatAre_17 ?_
        refine lv_iconst (v := 0) hx hb dX0_allThatAre_20 (by decide) ?_
        refine lv_iload_n hx hb dX0_allThatAre_21 rfl (lv_at hl 0 rfl) ?_
        refine lv_iadd hx hb dX0_allThatAre_22 ?_
        obtain ⟨h_2, hG⟩ := q_ix hG
        refine va_iald hx hb hK hP 1 0 rfl rfl (i := (0 + x3_4)) h_2 dX0_allThatAre_23 ?_
        refine q_top (y := (fr (0 + x3_4).toNatClampNeg)) rfl ?_
        refine lv_iload_n hx hb dX0_allThatAre_24 rfl (lv_at hl 3 rfl) ?_
        refine lv_icmp_ne (tgt := 34) hx hb dX0_allThatAre_25 (by decide) (fun c_3 => ?_) (fun c_3 => ?_)
        · have hG := q_ifn c_3 hG
          refine lv_iconst (v := 0) hx hb dX0_allThatAre_34 (by decide) ?_
          refine lv_ior hx hb dX0_allThatAre_35 ?_
          refine lv_istore_n (lv' := [(2, .int (x2_4 ||| 0)), (3, .int x3_4), (0, .ref g), (1, .int ee)]) hx hb dX0_allThatAre_36 rfl hl (by decide) rfl (fun ls hl => ?_)
          refine lv_iinc (v := (x3_4 + 1)) (lv' := [(3, .int (x3_4 + 1)), (2, .int (x2_4 ||| 0)), (0, .ref g), (1, .int ee)]) hx hb dX0_allThatAre_37 hl (k := 1) rfl (rfl) (by decide) rfl (fun ls hl => ?_)
          refine lv_goto (tgt := 4) hx hb dX0_allThatAre_40 (by decide) ?_
          exact ih_4 (x2_4 ||| 0) (x3_4 + 1) H locs ls hG hP hS (lv_sub hl [0, 1, 2, 3] rfl)
        · have hG := q_ifp c_3 hG
          refine lv_iconst (v := 1) hx hb dX0_allThatAre_28 (by decide) ?_
          refine lv_iload_n hx hb dX0_allThatAre_29 rfl (lv_at hl 0 rfl) ?_
          refine lv_ishl hx hb dX0_allThatAre_30 ?_
          refine lv_goto (tgt := 35) hx hb dX0_allThatAre_31 (by decide) ?_
          refine lv_ior hx hb dX0_allThatAre_35 ?_
          refine lv_istore_n (lv' := [(2, .int (x2_4 ||| (1 <<< (x3_4 &&& 31)))), (3, .int x3_4), (0, .ref g), (1, .int ee)]) hx hb dX0_allThatAre_36 rfl hl (by decide) rfl (fun ls hl => ?_)
          refine lv_iinc (v := (x3_4 + 1)) (lv' := [(3, .int (x3_4 + 1)), (2, .int (x2_4 ||| (1 <<< (x3_4 &&& 31)))), (0, .ref g), (1, .int ee)]) hx hb dX0_allThatAre_37 hl (k := 1) rfl (rfl) (by decide) rfl (fun ls hl => ?_)
          refine lv_goto (tgt := 4) hx hb dX0_allThatAre_40 (by decide) ?_
          exact ih_4 (x2_4 ||| (1 <<< (x3_4 &&& 31))) (x3_4 + 1) H locs ls hG hP hS (lv_sub hl [0, 1, 2, 3] rfl)
  exact L_4 1000 0 0 s.heap [] ls hG hP hS hl

def F_X0_running (fr : Nat → Int32) (dv : Int32) (fu : Nat → Int32) (fp : Nat → Int32) : Option (Int32) := ((F_X0_allThatAre fr dv fu fp 6).bind fun o_1 => ((F_J6_bitCount_0f7a4 o_1).bind fun o_3 => some (o_3)))
set_option maxHeartbeats 4000000 in
set_option maxRecDepth 100000 in
theorem c_X0_running (l : Launch) (dC : Nat → ClassId) (dI : Nat → Nat → Nat) (g : Nat) (r0 : Nat) (h : Nat) (r1 : Nat) (r2 : Nat) (dv : Int32) (c0 : ClassId) (fr : Nat → Int32) (c1 : ClassId) (c2 : ClassId) (fu : Nat → Int32) (fp : Nat → Int32) (o : Int32) (hG : F_X0_running fr dv fu fp = some o) : Met l yX0_running (.code yX0_running cX0_running 1 (some .int) :: wA) ({ frames := 1, cells := 0, slots := 0, locals := 23 }) (va_Pc [.ref g] (q_R (dC, dI) [(g, .inr (0, [.ref r0, .ref h])), (r0, .inl (c0, 98, .inl fr)), (h, .inr (5, [.ref r1, .ref r2, .int dv])), (r1, .inl (c1, 8, .inl fu)), (r2, .inl (c2, 48, .inl fp))] [(c0, .int), (c1, .int), (c2, .int)])) (q_i o) 0 0 (fun _ => False) := by
  refine Met.ofW (cc := cX0_running) (maxL := 1) (ret := (some .int)) (by decide) rfl ?_
  intro p e s m args below meth c s₁ B hml hv
  obtain ⟨rfl, hP, hK⟩ := hv
  have hx := B.exec
  have hb := B.bytes
  have hr := B.returns
  have hts := atoms_spec (ws := .code yX0_running cX0_running 1 (some .int) :: wA) B.pre
  have hown : s.vm.findClass RX0 = some m.cls := findClass_of_methodNamed B.named
  have hlocks := B.notSynchronized
  have hS : va_S (fun _ => False) s.heap s.heap [] := va_S.rf
  have hl := lv_entry ([.ref g]) (n := 1) (Nat.le_of_ble_eq_true rfl)
  rw [lg_entry_eq]
  generalize (lg_sl ([.ref g]) ++ List.replicate (1 - (lg_sl ([.ref g])).length) Slot.unset).toArray = ls at hl ⊢
  have hl : lv_has ls 1 [(0, .ref g)] := hl
  unfold F_X0_running at hG
  refine lv_aload_n hx hb dX0_running_0 rfl (lv_at hl 0 rfl) ?_
  refine lv_bipush (v := 6) hx hb dX0_running_1 (by decide) ?_
  obtain ⟨o_1, r_2, hG⟩ := q_bi hG
  refine q_goi (v := o_1) (va_runV (As := [.int 6]) (rest := []) ⟨hx, hb, hml, hown, hts⟩ (c_X0_allThatAre l dC dI g r0 h r1 r2 dv c0 fr c1 c2 fu fp 6 o_1 r_2) (cwV 1 hts (q_gV m_880 m_881 m_882 m_33 m_883) rfl rfl rfl hdV_yX0_allThatAre_1 ⟨Nat.le_of_ble_eq_true rfl, Nat.le_of_ble_eq_true rfl⟩) (q_preV hK hP (q := (RX0, TX0, 2)) (ci := 0) (q0 := 0) rfl rfl [0, 1, 2, 3, 4] rfl [0, 1, 2] rfl) rfl rfl hl.1 rfl (lv_room (Nat.le_of_ble_eq_true rfl)) dX0_running_3 ⟨Nat.le_of_ble_eq_true rfl, Nat.le_of_ble_eq_true rfl⟩) hP hS (fun H locs hP hS => ?_)
  obtain ⟨o_3, r_4, hG⟩ := q_bi hG
  refine q_goi (v := o_3) (va_runS (As := [.int o_1]) (rest := []) ⟨hx, hb, hml, hown, hts⟩ (c_J6_bitCount_0f7a4 l dC dI o_1 o_3 r_4) (va_cwS 1 hts (q_gS m_884 m_610 m_611 m_612) rfl rfl rfl hdS_yJ6_bitCount_0f7a4_1 ⟨Nat.le_of_ble_eq_true rfl, Nat.le_of_ble_eq_true rfl⟩) (q_preS hK hP [] rfl [] rfl) rfl rfl hl.1 rfl (lv_room (Nat.le_of_ble_eq_true rfl)) dX0_running_6 ⟨Nat.le_of_ble_eq_true rfl, Nat.le_of_ble_eq_true rfl⟩) hP hS (fun H locs hP hS => ?_)
  obtain rfl := Option.some.inj hG
  exact W.iret (v := o_3) hx hb hr (fun t ht hW => ⟨⟨o_3, (), rfl, rfl, trivial⟩, hS.F ht⟩) hS.2.2 dX0_running_9

def FL_X0_standing_2 (fr : Nat → Int32) (dv : Int32) (fu : Nat → Int32) (fp : Nat → Int32) : Nat → Int32 → Option (Int32)
  | 0, _ => none
  | n + 1, x1_2 => (if dv ≤ x1_2 then some ((-1)) else ((F_X0_isStanding fr dv fu fp x1_2).bind fun o_2 => (if o_2 = 0 then (FL_X0_standing_2 fr dv fu fp n (x1_2 + 1)) else some (x1_2))))

def F_X0_standing (fr : Nat → Int32) (dv : Int32) (fu : Nat → Int32) (fp : Nat → Int32) : Option (Int32) := (FL_X0_standing_2 fr dv fu fp 1000 0)
set_option maxHeartbeats 4000000 in
set_option maxRecDepth 100000 in
theorem c_X0_standing (l : Launch) (dC : Nat → ClassId) (dI : Nat → Nat → Nat) (g : Nat) (r0 : Nat) (h : Nat) (r1 : Nat) (r2 : Nat) (dv : Int32) (c0 : ClassId) (fr : Nat → Int32) (c1 : ClassId) (c2 : ClassId) (fu : Nat → Int32) (fp : Nat → Int32) (o : Int32) (hG : F_X0_standing fr dv fu fp = some o) : Met l yX0_standing (.code yX0_standing cX0_standing 2 (some .int) :: wA) ({ frames := 1, cells := 0, slots := 0, locals := 21 }) (va_Pc [.ref g] (q_R (dC, dI) [(g, .inr (0, [.ref r0, .ref h])), (r0, .inl (c0, 98, .inl fr)), (h, .inr (5, [.ref r1, .ref r2, .int dv])), (r1, .inl (c1, 8, .inl fu)), (r2, .inl (c2, 48, .inl fp))] [(c0, .int), (c1, .int), (c2, .int)])) (q_i o) 0 0 (fun _ => False) := by
  refine Met.ofW (cc := cX0_standing) (maxL := 2) (ret := (some .int)) (by decide) rfl ?_
  intro p e s m args below meth c s₁ B hml hv
  obtain ⟨rfl, hP, hK⟩ := hv
  have hx := B.exec
  have hb := B.bytes
  have hr := B.returns
  have hts := atoms_spec (ws := .code yX0_standing cX0_standing 2 (some .int) :: wA) B.pre
  have hown : s.vm.findClass RX0 = some m.cls := findClass_of_methodNamed B.named
  have hlocks := B.notSynchronized
  have hS : va_S (fun _ => False) s.heap s.heap [] := va_S.rf
  have hl := lv_entry ([.ref g]) (n := 2) (Nat.le_of_ble_eq_true rfl)
  rw [lg_entry_eq]
  generalize (lg_sl ([.ref g]) ++ List.replicate (2 - (lg_sl ([.ref g])).length) Slot.unset).toArray = ls at hl ⊢
  have hl : lv_has ls 2 [(0, .ref g)] := hl
  unfold F_X0_standing at hG
  refine lv_iconst (v := 0) hx hb dX0_standing_0 (by decide) ?_
  refine lv_istore_n (lv' := [(1, .int 0), (0, .ref g)]) hx hb dX0_standing_1 rfl hl (by decide) rfl (fun ls hl => ?_)
  have L_2 : ∀ (n_2 : Nat) (x1_2 : Int32) (H : Heap) (locs : List Loc) (ls : Array Slot), FL_X0_standing_2 fr dv fu fp n_2 x1_2 = some o → va_P (dC, dI) vwCl [(g, .inr (0, [.ref r0, .ref h])), (r0, .inl (c0, 98, .inl fr)), (h, .inr (5, [.ref r1, .ref r2, .int dv])), (r1, .inl (c1, 8, .inl fu)), (r2, .inl (c2, 48, .inl fp))] H → va_S (fun _ => False) s.heap H locs → lv_has ls 2 [(1, .int x1_2), (0, .ref g)] → W p l e (headSpec (.code yX0_standing cX0_standing 2 (some .int) :: wA) ({ frames := 1, cells := 0, slots := 0, locals := 21 })).room s m #[.ref g] below meth c H locs 0 0 (MQ below (q_i o) #[.ref g] s 0 0 (fun _ => False)) (F0 m 2 ls []) := by
    intro n_2
    induction n_2 with
    | zero =>
      intro x1_2 H locs ls hG
      exact q_no hG
    | succ n_2 ih_2 =>
      intro x1_2 H locs ls hG hP hS hl
      unfold FL_X0_standing_2 at hG
      refine lv_iload_n hx hb dX0_standing_2 rfl (lv_at hl 0 rfl) ?_
      refine lv_aload_n hx hb dX0_standing_3 rfl (lv_at hl 1 rfl) ?_
      refine va_get (D := (dC, dI)) (ci := 0) (v := .ref h) (C := RX0) (T := TX0) (N := 2) hx hb hts iA_0 hown hK hP 0 rfl rfl 1 (by decide) (hts (.fieldLink RX0 15 "HubTree$Bus" "plan" "LHubTree$Plan;") (List.mem_cons_of_mem _ m_89)) (fun _ h9 => h9) rfl dX0_standing_4 ?_
      refine va_get (D := (dC, dI)) (ci := 5) (v := .int dv) (C := RX5) (T := TX5) (N := 3) hx hb hts iA_5 hown hK hP 2 rfl rfl 2 (by decide) (hts (.fieldLink RX0 25 "HubTree$Plan" "devices" "I") (List.mem_cons_of_mem _ m_399)) (fun _ h9 => h9) rfl dX0_standing_7 ?_
      refine lv_icmp_ge (tgt := 29) hx hb dX0_standing_10 (by decide) (fun c_1 => ?_) (fun c_1 => ?_)
      · have hG := q_ifp c_1 hG
        refine lv_iconst (v := (-1)) hx hb dX0_standing_29 (by decide) ?_
        obtain rfl := Option.some.inj hG
        exact W.iret (v := (-1)) hx hb hr (fun t ht hW => ⟨⟨(-1), (), rfl, rfl, trivial⟩, hS.F ht⟩) hS.2.2 dX0_standing_30
      · have hG := q_ifn c_1 hG
        refine lv_aload_n hx hb dX0_standing_13 rfl (lv_at hl 1 rfl) ?_
        refine lv_iload_n hx hb dX0_standing_14 rfl (lv_at hl 0 rfl) ?_
        obtain ⟨o_2, r_3, hG⟩ := q_bi hG
        refine q_goi (v := o_2) (va_runV (As := [.int x1_2]) (rest := []) ⟨hx, hb, hml, hown, hts⟩ (c_X0_isStanding l dC dI g r0 h r1 r2 dv c0 fr c1 c2 fu fp x1_2 o_2 r_3) (cwV 1 hts (q_gV m_788 m_789 m_790 m_33 m_791) rfl rfl rfl hdV_yX0_isStanding_1 ⟨Nat.le_of_ble_eq_true rfl, Nat.le_of_ble_eq_true rfl⟩) (q_preV hK hP (q := (RX0, TX0, 2)) (ci := 0) (q0 := 0) rfl rfl [0, 1, 2, 3, 4] rfl [0, 1, 2] rfl) rfl rfl hl.1 rfl (lv_room (Nat.le_of_ble_eq_true rfl)) dX0_standing_15 ⟨Nat.le_of_ble_eq_true rfl, Nat.le_of_ble_eq_true rfl⟩) hP hS (fun H locs hP hS => ?_)
        refine lv_if_eq (tgt := 23) hx hb dX0_standing_18 (by decide) (fun c_4 => ?_) (fun c_4 => ?_)
        · have hG := q_ifp c_4 hG
          refine lv_iinc (v := (x1_2 + 1)) (lv' := [(1, .int (x1_2 + 1)), (0, .ref g)]) hx hb dX0_standing_23 hl (k := 0) rfl (rfl) (by decide) rfl (fun ls hl => ?_)
          refine lv_goto (tgt := 2) hx hb dX0_standing_26 (by decide) ?_
          exact ih_2 (x1_2 + 1) H locs ls hG hP hS (lv_sub hl [0, 1] rfl)
        · have hG := q_ifn c_4 hG
          refine lv_iload_n hx hb dX0_standing_21 rfl (lv_at hl 0 rfl) ?_
          obtain rfl := Option.some.inj hG
          exact W.iret (v := x1_2) hx hb hr (fun t ht hW => ⟨⟨x1_2, (), rfl, rfl, trivial⟩, hS.F ht⟩) hS.2.2 dX0_standing_22
  exact L_2 1000 0 s.heap [] ls hG hP hS hl

def FL_X0_pluggedInto_2 (fr : Nat → Int32) (dv : Int32) (fu : Nat → Int32) (fp : Nat → Int32) (d : Int32) (ee : Int32) : Nat → Int32 → Option (Int32)
  | 0, _ => none
  | n + 1, x3_2 => (if dv ≤ x3_2 then some ((-1)) else (if (32 + x3_2) < 0 ∨ 98 ≤ ((32 + x3_2)).toNatClampNeg then none else (if (fr (32 + x3_2).toNatClampNeg) = d then (if (40 + x3_2) < 0 ∨ 98 ≤ ((40 + x3_2)).toNatClampNeg then none else (if (fr (40 + x3_2).toNatClampNeg) = ee then some (x3_2) else (FL_X0_pluggedInto_2 fr dv fu fp d ee n (x3_2 + 1)))) else (FL_X0_pluggedInto_2 fr dv fu fp d ee n (x3_2 + 1)))))

def F_X0_pluggedInto (fr : Nat → Int32) (dv : Int32) (fu : Nat → Int32) (fp : Nat → Int32) (d : Int32) (ee : Int32) : Option (Int32) := (FL_X0_pluggedInto_2 fr dv fu fp d ee 1000 0)
set_option maxHeartbeats 4000000 in
set_option maxRecDepth 100000 in
theorem c_X0_pluggedInto (l : Launch) (dC : Nat → ClassId) (dI : Nat → Nat → Nat) (g : Nat) (r0 : Nat) (h : Nat) (r1 : Nat) (r2 : Nat) (dv : Int32) (c0 : ClassId) (fr : Nat → Int32) (c1 : ClassId) (c2 : ClassId) (fu : Nat → Int32) (fp : Nat → Int32) (d : Int32) (ee : Int32) (o : Int32) (hG : F_X0_pluggedInto fr dv fu fp d ee = some o) : Met l yX0_pluggedInto (.code yX0_pluggedInto cX0_pluggedInto 4 (some .int) :: wA) ({ frames := 0, cells := 0, slots := 0, locals := 0 }) (va_Pc [.ref g, .int d, .int ee] (q_R (dC, dI) [(g, .inr (0, [.ref r0, .ref h])), (r0, .inl (c0, 98, .inl fr)), (h, .inr (5, [.ref r1, .ref r2, .int dv])), (r1, .inl (c1, 8, .inl fu)), (r2, .inl (c2, 48, .inl fp))] [(c0, .int), (c1, .int), (c2, .int)])) (q_i o) 0 0 (fun _ => False) := by
  refine Met.ofW (cc := cX0_pluggedInto) (maxL := 4) (ret := (some .int)) (by decide) rfl ?_
  intro p e s m args below meth c s₁ B hml hv
  obtain ⟨rfl, hP, hK⟩ := hv
  have hx := B.exec
  have hb := B.bytes
  have hr := B.returns
  have hts := atoms_spec (ws := .code yX0_pluggedInto cX0_pluggedInto 4 (some .int) :: wA) B.pre
  have hown : s.vm.findClass RX0 = some m.cls := findClass_of_methodNamed B.named
  have hlocks := B.notSynchronized
  have hS : va_S (fun _ => False) s.heap s.heap [] := va_S.rf
  have hl := lv_entry ([.ref g, .int d, .int ee]) (n := 4) (Nat.le_of_ble_eq_true rfl)
  rw [lg_entry_eq]
  generalize (lg_sl ([.ref g, .int d, .int ee]) ++ List.replicate (4 - (lg_sl ([.ref g, .int d, .int ee])).length) Slot.unset).toArray = ls at hl ⊢
  have hl : lv_has ls 4 [(0, .ref g), (1, .int d), (2, .int ee)] := hl
  unfold F_X0_pluggedInto at hG
  refine lv_iconst (v := 0) hx hb dX0_pluggedInto_0 (by decide) ?_
  refine lv_istore_n (lv' := [(3, .int 0), (0, .ref g), (1, .int d), (2, .int ee)]) hx hb dX0_pluggedInto_1 rfl hl (by decide) rfl (fun ls hl => ?_)
  have L_2 : ∀ (n_2 : Nat) (x3_2 : Int32) (H : Heap) (locs : List Loc) (ls : Array Slot), FL_X0_pluggedInto_2 fr dv fu fp d ee n_2 x3_2 = some o → va_P (dC, dI) vwCl [(g, .inr (0, [.ref r0, .ref h])), (r0, .inl (c0, 98, .inl fr)), (h, .inr (5, [.ref r1, .ref r2, .int dv])), (r1, .inl (c1, 8, .inl fu)), (r2, .inl (c2, 48, .inl fp))] H → va_S (fun _ => False) s.heap H locs → lv_has ls 4 [(3, .int x3_2), (0, .ref g), (1, .int d), (2, .int ee)] → W p l e (headSpec (.code yX0_pluggedInto cX0_pluggedInto 4 (some .int) :: wA) ({ frames := 0, cells := 0, slots := 0, locals := 0 })).room s m #[.ref g, .int d, .int ee] below meth c H locs 0 0 (MQ below (q_i o) #[.ref g, .int d, .int ee] s 0 0 (fun _ => False)) (F0 m 2 ls []) := by
    intro n_2
    induction n_2 with
    | zero =>
      intro x3_2 H locs ls hG
      exact q_no hG
    | succ n_2 ih_2 =>
      intro x3_2 H locs ls hG hP hS hl
      unfold FL_X0_pluggedInto_2 at hG
      refine lv_iload_n hx hb dX0_pluggedInto_2 rfl (lv_at hl 0 rfl) ?_
      refine lv_aload_n hx hb dX0_pluggedInto_3 rfl (lv_at hl 1 rfl) ?_
      refine va_get (D := (dC, dI)) (ci := 0) (v := .ref h) (C := RX0) (T := TX0) (N := 2) hx hb hts iA_0 hown hK hP 0 rfl rfl 1 (by decide) (hts (.fieldLink RX0 15 "HubTree$Bus" "plan" "LHubTree$Plan;") (List.mem_cons_of_mem _ m_89)) (fun _ h9 => h9) rfl dX0_pluggedInto_4 ?_
      refine va_get (D := (dC, dI)) (ci := 5) (v := .int dv) (C := RX5) (T := TX5) (N := 3) hx hb hts iA_5 hown hK hP 2 rfl rfl 2 (by decide) (hts (.fieldLink RX0 25 "HubTree$Plan" "devices" "I") (List.mem_cons_of_mem _ m_399)) (fun _ h9 => h9) rfl dX0_pluggedInto_7 ?_
      refine lv_icmp_ge (tgt := 47) hx hb dX0_pluggedInto_10 (by decide) (fun c_1 => ?_) (fun c_1 => ?_)
      · have hG := q_ifp c_1 hG
        refine lv_iconst (v := (-1)) hx hb dX0_pluggedInto_47 (by decide) ?_
        obtain rfl := Option.some.inj hG
        exact W.iret (v := (-1)) hx hb hr (fun t ht hW => ⟨⟨(-1), (), rfl, rfl, trivial⟩, hS.F ht⟩) hS.2.2 dX0_pluggedInto_48
      · have hG := q_ifn c_1 hG
        refine lv_aload_n hx hb dX0_pluggedInto_13 rfl (lv_at hl 1 rfl) ?_
        refine va_get (D := (dC, dI)) (ci := 0) (v := .ref r0) (C := RX0) (T := TX0) (N := 2) hx hb hts iA_0 hown hK hP 0 rfl rfl 0 (by decide) (hts (.fieldLink RX0 11 "HubTree$Bus" "row" "[I") (List.mem_cons_of_mem _ m_88)) (fun _ h9 => h9) rfl dX0_pluggedInto_14 ?_
        refine lv_bipush (v := 32) hx hb dX0_pluggedInto_17 (by decide) ?_
        refine lv_iload_n hx hb dX0_pluggedInto_19 rfl (lv_at hl 0 rfl) ?_
        refine lv_iadd hx hb dX0_pluggedInto_20 ?_
        obtain ⟨h_2, hG⟩ := q_ix hG
        refine va_iald hx hb hK hP 1 0 rfl rfl (i := (32 + x3_2)) h_2 dX0_pluggedInto_21 ?_
        refine q_top (y := (fr (32 + x3_2).toNatClampNeg)) rfl ?_
        refine lv_iload_n hx hb dX0_pluggedInto_22 rfl (lv_at hl 2 rfl) ?_
        refine lv_icmp_ne (tgt := 41) hx hb dX0_pluggedInto_23 (by decide) (fun c_3 => ?_) (fun c_3 => ?_)
        · have hG := q_ifn c_3 hG
          refine lv_iinc (v := (x3_2 + 1)) (lv' := [(3, .int (x3_2 + 1)), (0, .ref g), (1, .int d), (2, .int ee)]) hx hb dX0_pluggedInto_41 hl (k := 0) rfl (rfl) (by decide) rfl (fun ls hl => ?_)
          refine lv_goto (tgt := 2) hx hb dX0_pluggedInto_44 (by decide) ?_
          exact ih_2 (x3_2 + 1) H locs ls hG hP hS (lv_sub hl [0, 1, 2, 3] rfl)
        · have hG := q_ifp c_3 hG
          refine lv_aload_n hx hb dX0_pluggedInto_26 rfl (lv_at hl 1 rfl) ?_
          refine va_get (D := (dC, dI)) (ci := 0) (v := .ref r0) (C := RX0) (T := TX0) (N := 2) hx hb hts iA_0 hown hK hP 0 rfl rfl 0 (by decide) (hts (.fieldLink RX0 11 "HubTree$Bus" "row" "[I") (List.mem_cons_of_mem _ m_88)) (fun _ h9 => h9) rfl dX0_pluggedInto_27 ?_
          refine lv_bipush (v := 40) hx hb dX0_pluggedInto_30 (by decide) ?_
          refine lv_iload_n hx hb dX0_pluggedInto_32 rfl (lv_at hl 0 rfl) ?_
          refine lv_iadd hx hb dX0_pluggedInto_33 ?_
          obtain ⟨h_4, hG⟩ := q_ix hG
          refine va_iald hx hb hK hP 1 0 rfl rfl (i := (40 + x3_2)) h_4 dX0_pluggedInto_34 ?_
          refine q_top (y := (fr (40 + x3_2).toNatClampNeg)) rfl ?_
          refine lv_iload_n hx hb dX0_pluggedInto_35 rfl (lv_at hl 3 rfl) ?_
          refine lv_icmp_ne (tgt := 41) hx hb dX0_pluggedInto_36 (by decide) (fun c_5 => ?_) (fun c_5 => ?_)
          · have hG := q_ifn c_5 hG
            refine lv_iinc (v := (x3_2 + 1)) (lv' := [(3, .int (x3_2 + 1)), (0, .ref g), (1, .int d), (2, .int ee)]) hx hb dX0_pluggedInto_41 hl (k := 0) rfl (rfl) (by decide) rfl (fun ls hl => ?_)
            refine lv_goto (tgt := 2) hx hb dX0_pluggedInto_44 (by decide) ?_
            exact ih_2 (x3_2 + 1) H locs ls hG hP hS (lv_sub hl [0, 1, 2, 3] rfl)
          · have hG := q_ifp c_5 hG
            refine lv_iload_n hx hb dX0_pluggedInto_39 rfl (lv_at hl 0 rfl) ?_
            obtain rfl := Option.some.inj hG
            exact W.iret (v := x3_2) hx hb hr (fun t ht hW => ⟨⟨x3_2, (), rfl, rfl, trivial⟩, hS.F ht⟩) hS.2.2 dX0_pluggedInto_40
  exact L_2 1000 0 s.heap [] ls hG hP hS hl

def FL_X0_firstFreePort_13 (fr : Nat → Int32) (dv : Int32) (fu : Nat → Int32) (fp : Nat → Int32) (d : Int32) : Nat → Int32 → Option (Int32)
  | 0, _ => none
  | n + 1, x2_13 => ((F_X5_portsOf dv fu fp d).bind fun o_4 => (if o_4 ≤ x2_13 then some ((-1)) else ((F_X0_pluggedInto fr dv fu fp d x2_13).bind fun o_7 => (if o_7 = (-1) then some (x2_13) else (FL_X0_firstFreePort_13 fr dv fu fp d n (x2_13 + 1))))))

def F_X0_firstFreePort (fr : Nat → Int32) (dv : Int32) (fu : Nat → Int32) (fp : Nat → Int32) (d : Int32) : Option (Int32) := ((F_X0_is fr dv fu fp d 0).bind fun o_1 => (if o_1 = 0 then (FL_X0_firstFreePort_13 fr dv fu fp d 1000 0) else some ((-1))))
set_option maxHeartbeats 4000000 in
set_option maxRecDepth 100000 in
theorem c_X0_firstFreePort (l : Launch) (dC : Nat → ClassId) (dI : Nat → Nat → Nat) (g : Nat) (r0 : Nat) (h : Nat) (r1 : Nat) (r2 : Nat) (dv : Int32) (c0 : ClassId) (fr : Nat → Int32) (c1 : ClassId) (c2 : ClassId) (fu : Nat → Int32) (fp : Nat → Int32) (d : Int32) (o : Int32) (hG : F_X0_firstFreePort fr dv fu fp d = some o) : Met l yX0_firstFreePort (.code yX0_firstFreePort cX0_firstFreePort 3 (some .int) :: wA) ({ frames := 1, cells := 0, slots := 0, locals := 23 }) (va_Pc [.ref g, .int d] (q_R (dC, dI) [(g, .inr (0, [.ref r0, .ref h])), (r0, .inl (c0, 98, .inl fr)), (h, .inr (5, [.ref r1, .ref r2, .int dv])), (r1, .inl (c1, 8, .inl fu)), (r2, .inl (c2, 48, .inl fp))] [(c0, .int), (c1, .int), (c2, .int)])) (q_i o) 0 0 (fun _ => False) := by
  refine Met.ofW (cc := cX0_firstFreePort) (maxL := 3) (ret := (some .int)) (by decide) rfl ?_
  intro p e s m args below meth c s₁ B hml hv
  obtain ⟨rfl, hP, hK⟩ := hv
  have hx := B.exec
  have hb := B.bytes
  have hr := B.returns
  have hts := atoms_spec (ws := .code yX0_firstFreePort cX0_firstFreePort 3 (some .int) :: wA) B.pre
  have hown : s.vm.findClass RX0 = some m.cls := findClass_of_methodNamed B.named
  have hlocks := B.notSynchronized
  have hS : va_S (fun _ => False) s.heap s.heap [] := va_S.rf
  have hl := lv_entry ([.ref g, .int d]) (n := 3) (Nat.le_of_ble_eq_true rfl)
  rw [lg_entry_eq]
  generalize (lg_sl ([.ref g, .int d]) ++ List.replicate (3 - (lg_sl ([.ref g, .int d])).length) Slot.unset).toArray = ls at hl ⊢
  have hl : lv_has ls 3 [(0, .ref g), (1, .int d)] := hl
  unfold F_X0_firstFreePort at hG
  refine lv_aload_n hx hb dX0_firstFreePort_0 rfl (lv_at hl 0 rfl) ?_
  refine lv_iload_n hx hb dX0_firstFreePort_1 rfl (lv_at hl 1 rfl) ?_
  refine lv_iconst (v := 0) hx hb dX0_firstFreePort_2 (by decide) ?_
  obtain ⟨o_1, r_2, hG⟩ := q_bi hG
  refine q_goi (v := o_1) (va_runV (As := [.int d, .int 0]) (rest := []) ⟨hx, hb, hml, hown, hts⟩ (c_X0_is l dC dI g r0 h r1 r2 dv c0 fr c1 c2 fu fp d 0 o_1 r_2) (cwV 2 hts (q_gV m_743 m_583 m_584 m_33 m_585) rfl rfl rfl hdV_yX0_is_2 ⟨Nat.le_of_ble_eq_true rfl, Nat.le_of_ble_eq_true rfl⟩) (q_preV hK hP (q := (RX0, TX0, 2)) (ci := 0) (q0 := 0) rfl rfl [0, 1, 2, 3, 4] rfl [0, 1, 2] rfl) rfl rfl hl.1 rfl (lv_room (Nat.le_of_ble_eq_true rfl)) dX0_firstFreePort_3 ⟨Nat.le_of_ble_eq_true rfl, Nat.le_of_ble_eq_true rfl⟩) hP hS (fun H locs hP hS => ?_)
  refine lv_if_eq (tgt := 11) hx hb dX0_firstFreePort_6 (by decide) (fun c_3 => ?_) (fun c_3 => ?_)
  · have hG := q_ifp c_3 hG
    refine lv_iconst (v := 0) hx hb dX0_firstFreePort_11 (by decide) ?_
    refine lv_istore_n (lv' := [(2, .int 0), (0, .ref g), (1, .int d)]) hx hb dX0_firstFreePort_12 rfl hl (by decide) rfl (fun ls hl => ?_)
    have L_13 : ∀ (n_13 : Nat) (x2_13 : Int32) (H : Heap) (locs : List Loc) (ls : Array Slot), FL_X0_firstFreePort_13 fr dv fu fp d n_13 x2_13 = some o → va_P (dC, dI) vwCl [(g, .inr (0, [.ref r0, .ref h])), (r0, .inl (c0, 98, .inl fr)), (h, .inr (5, [.ref r1, .ref r2, .int dv])), (r1, .inl (c1, 8, .inl fu)), (r2, .inl (c2, 48, .inl fp))] H → va_S (fun _ => False) s.heap H locs → lv_has ls 3 [(2, .int x2_13), (0, .ref g), (1, .int d)] → W p l e (headSpec (.code yX0_firstFreePort cX0_firstFreePort 3 (some .int) :: wA) ({ frames := 1, cells := 0, slots := 0, locals := 23 })).room s m #[.ref g, .int d] below meth c H locs 0 0 (MQ below (q_i o) #[.ref g, .int d] s 0 0 (fun _ => False)) (F0 m 13 ls []) := by
      intro n_13
      induction n_13 with
      | zero =>
        intro x2_13 H locs ls hG
        exact q_no hG
      | succ n_13 ih_13 =>
        intro x2_13 H locs ls hG hP hS hl
        unfold FL_X0_firstFreePort_13 at hG
        refine lv_iload_n hx hb dX0_firstFreePort_13 rfl (lv_at hl 0 rfl) ?_
        refine lv_aload_n hx hb dX0_firstFreePort_14 rfl (lv_at hl 1 rfl) ?_
        refine va_get (D := (dC, dI)) (ci := 0) (v := .ref h) (C := RX0) (T := TX0) (N := 2) hx hb hts iA_0 hown hK hP 0 rfl rfl 1 (by decide) (hts (.fieldLink RX0 15 "HubTree$Bus" "plan" "LHubTree$Plan;") (List.mem_cons_of_mem _ m_89)) (fun _ h9 => h9) rfl dX0_firstFreePort_15 ?_
        refine lv_iload_n hx hb dX0_firstFreePort_18 rfl (lv_at hl 2 rfl) ?_
        obtain ⟨o_4, r_5, hG⟩ := q_bi hG
        refine q_goi (v := o_4) (va_runV (As := [.int d]) (rest := [.int x2_13]) ⟨hx, hb, hml, hown, hts⟩ (c_X5_portsOf l dC dI h r1 r2 dv c1 c2 fu fp d o_4 r_5) (cwV 1 hts (q_gV m_1244 m_529 m_530 m_24 m_531) rfl rfl rfl hdV_yX5_portsOf_1 ⟨Nat.le_of_ble_eq_true rfl, Nat.le_of_ble_eq_true rfl⟩) (q_preV hK hP (q := (RX5, TX5, 3)) (ci := 5) (q0 := 2) rfl rfl [2, 3, 4] rfl [1, 2] rfl) rfl rfl hl.1 rfl (lv_room (Nat.le_of_ble_eq_true rfl)) dX0_firstFreePort_19 ⟨Nat.le_of_ble_eq_true rfl, Nat.le_of_ble_eq_true rfl⟩) hP hS (fun H locs hP hS => ?_)
        refine lv_icmp_ge (tgt := 43) hx hb dX0_firstFreePort_22 (by decide) (fun c_6 => ?_) (fun c_6 => ?_)
        · have hG := q_ifp c_6 hG
          refine lv_iconst (v := (-1)) hx hb dX0_firstFreePort_43 (by decide) ?_
          obtain rfl := Option.some.inj hG
          exact W.iret (v := (-1)) hx hb hr (fun t ht hW => ⟨⟨(-1), (), rfl, rfl, trivial⟩, hS.F ht⟩) hS.2.2 dX0_firstFreePort_44
        · have hG := q_ifn c_6 hG
          refine lv_aload_n hx hb dX0_firstFreePort_25 rfl (lv_at hl 1 rfl) ?_
          refine lv_iload_n hx hb dX0_firstFreePort_26 rfl (lv_at hl 2 rfl) ?_
          refine lv_iload_n hx hb dX0_firstFreePort_27 rfl (lv_at hl 0 rfl) ?_
          obtain ⟨o_7, r_8, hG⟩ := q_bi hG
          refine q_goi (v := o_7) (va_runV (As := [.int d, .int x2_13]) (rest := []) ⟨hx, hb, hml, hown, hts⟩ (c_X0_pluggedInto l dC dI g r0 h r1 r2 dv c0 fr c1 c2 fu fp d x2_13 o_7 r_8) (cwV 2 hts (q_gV m_742 m_533 m_534 m_33 m_535) rfl rfl rfl hdV_yX0_pluggedInto_2 ⟨Nat.le_of_ble_eq_true rfl, Nat.le_of_ble_eq_true rfl⟩) (q_preV hK hP (q := (RX0, TX0, 2)) (ci := 0) (q0 := 0) rfl rfl [0, 1, 2, 3, 4] rfl [0, 1, 2] rfl) rfl rfl hl.1 rfl (lv_room (Nat.le_of_ble_eq_true rfl)) dX0_firstFreePort_28 ⟨Nat.le_of_ble_eq_true rfl, Nat.le_of_ble_eq_true rfl⟩) hP hS (fun H locs hP hS => ?_)
          refine lv_iconst (v := (-1)) hx hb dX0_firstFreePort_31 (by decide) ?_
          refine lv_icmp_ne (tgt := 37) hx hb dX0_firstFreePort_32 (by decide) (fun c_9 => ?_) (fun c_9 => ?_)
          · have hG := q_ifn c_9 hG
            refine lv_iinc (v := (x2_13 + 1)) (lv' := [(2, .int (x2_13 + 1)), (0, .ref g), (1, .int d)]) hx hb dX0_firstFreePort_37 hl (k := 0) rfl (rfl) (by decide) rfl (fun ls hl => ?_)
            refine lv_goto (tgt := 13) hx hb dX0_firstFreePort_40 (by decide) ?_
            exact ih_13 (x2_13 + 1) H locs ls hG hP hS (lv_sub hl [0, 1, 2] rfl)
          · have hG := q_ifp c_9 hG
            refine lv_iload_n hx hb dX0_firstFreePort_35 rfl (lv_at hl 0 rfl) ?_
            obtain rfl := Option.some.inj hG
            exact W.iret (v := x2_13) hx hb hr (fun t ht hW => ⟨⟨x2_13, (), rfl, rfl, trivial⟩, hS.F ht⟩) hS.2.2 dX0_firstFreePort_36
    exact L_13 1000 0 H locs ls hG hP hS hl
  · have hG := q_ifn c_3 hG
    refine lv_iconst (v := (-1)) hx hb dX0_firstFreePort_9 (by decide) ?_
    obtain rfl := Option.some.inj hG
    exact W.iret (v := (-1)) hx hb hr (fun t ht hW => ⟨⟨(-1), (), rfl, rfl, trivial⟩, hS.F ht⟩) hS.2.2 dX0_firstFreePort_10

def FL_X0_rightAt_4 (fr : Nat → Int32) (dv : Int32) (fu : Nat → Int32) (fp : Nat → Int32) (d : Int32) : Nat → Int32 → Int32 → Option (Int32)
  | 0, _, _ => none
  | n + 1, x2_4, x3_4 => (if dv ≤ x3_4 then some (x2_4) else (if (32 + x3_4) < 0 ∨ 98 ≤ ((32 + x3_4)).toNatClampNeg then none else (if (fr (32 + x3_4).toNatClampNeg) = d then (FL_X0_rightAt_4 fr dv fu fp d n (x2_4 ||| (1 <<< (x3_4 &&& 31))) (x3_4 + 1)) else (FL_X0_rightAt_4 fr dv fu fp d n (x2_4 ||| 0) (x3_4 + 1)))))

def F_X0_rightAt (fr : Nat → Int32) (dv : Int32) (fu : Nat → Int32) (fp : Nat → Int32) (d : Int32) : Option (Int32) := (FL_X0_rightAt_4 fr dv fu fp d 1000 0 0)
set_option maxHeartbeats 4000000 in
set_option maxRecDepth 100000 in
theorem c_X0_rightAt (l : Launch) (dC : Nat → ClassId) (dI : Nat → Nat → Nat) (g : Nat) (r0 : Nat) (h : Nat) (r1 : Nat) (r2 : Nat) (dv : Int32) (c0 : ClassId) (fr : Nat → Int32) (c1 : ClassId) (c2 : ClassId) (fu : Nat → Int32) (fp : Nat → Int32) (d : Int32) (o : Int32) (hG : F_X0_rightAt fr dv fu fp d = some o) : Met l yX0_rightAt (.code yX0_rightAt cX0_rightAt 4 (some .int) :: wA) ({ frames := 0, cells := 0, slots := 0, locals := 0 }) (va_Pc [.ref g, .int d] (q_R (dC, dI) [(g, .inr (0, [.ref r0, .ref h])), (r0, .inl (c0, 98, .inl fr)), (h, .inr (5, [.ref r1, .ref r2, .int dv])), (r1, .inl (c1, 8, .inl fu)), (r2, .inl (c2, 48, .inl fp))] [(c0, .int), (c1, .int), (c2, .int)])) (q_i o) 0 0 (fun _ => False) := by
  refine Met.ofW (cc := cX0_rightAt) (maxL := 4) (ret := (some .int)) (by decide) rfl ?_
  intro p e s m args below meth c s₁ B hml hv
  obtain ⟨rfl, hP, hK⟩ := hv
  have hx := B.exec
  have hb := B.bytes
  have hr := B.returns
  have hts := atoms_spec (ws := .code yX0_rightAt cX0_rightAt 4 (some .int) :: wA) B.pre
  have hown : s.vm.findClass RX0 = some m.cls := findClass_of_methodNamed B.named
  have hlocks := B.notSynchronized
  have hS : va_S (fun _ => False) s.heap s.heap [] := va_S.rf
  have hl := lv_entry ([.ref g, .int d]) (n := 4) (Nat.le_of_ble_eq_true rfl)
  rw [lg_entry_eq]
  generalize (lg_sl ([.ref g, .int d]) ++ List.replicate (4 - (lg_sl ([.ref g, .int d])).length) Slot.unset).toArray = ls at hl ⊢
  have hl : lv_has ls 4 [(0, .ref g), (1, .int d)] := hl
  unfold F_X0_rightAt at hG
  refine lv_iconst (v := 0) hx hb dX0_rightAt_0 (by decide) ?_
  refine lv_istore_n (lv' := [(2, .int 0), (0, .ref g), (1, .int d)]) hx hb dX0_rightAt_1 rfl hl (by decide) rfl (fun ls hl => ?_)
  refine lv_iconst (v := 0) hx hb dX0_rightAt_2 (by decide) ?_
  refine lv_istore_n (lv' := [(3, .int 0), (2, .int 0), (0, .ref g), (1, .int d)]) hx hb dX0_rightAt_3 rfl hl (by decide) rfl (fun ls hl => ?_)
  have L_4 : ∀ (n_4 : Nat) (x2_4 : Int32) (x3_4 : Int32) (H : Heap) (locs : List Loc) (ls : Array Slot), FL_X0_rightAt_4 fr dv fu fp d n_4 x2_4 x3_4 = some o → va_P (dC, dI) vwCl [(g, .inr (0, [.ref r0, .ref h])), (r0, .inl (c0, 98, .inl fr)), (h, .inr (5, [.ref r1, .ref r2, .int dv])), (r1, .inl (c1, 8, .inl fu)), (r2, .inl (c2, 48, .inl fp))] H → va_S (fun _ => False) s.heap H locs → lv_has ls 4 [(3, .int x3_4), (2, .int x2_4), (0, .ref g), (1, .int d)] → W p l e (headSpec (.code yX0_rightAt cX0_rightAt 4 (some .int) :: wA) ({ frames := 0, cells := 0, slots := 0, locals := 0 })).room s m #[.ref g, .int d] below meth c H locs 0 0 (MQ below (q_i o) #[.ref g, .int d] s 0 0 (fun _ => False)) (F0 m 4 ls []) := by
    intro n_4
    induction n_4 with
    | zero =>
      intro x2_4 x3_4 H locs ls hG
      exact q_no hG
    | succ n_4 ih_4 =>
      intro x2_4 x3_4 H locs ls hG hP hS hl
      unfold FL_X0_rightAt_4 at hG
      refine lv_iload_n hx hb dX0_rightAt_4 rfl (lv_at hl 0 rfl) ?_
      refine lv_aload_n hx hb dX0_rightAt_5 rfl (lv_at hl 2 rfl) ?_
      refine va_get (D := (dC, dI)) (ci := 0) (v := .ref h) (C := RX0) (T := TX0) (N := 2) hx hb hts iA_0 hown hK hP 0 rfl rfl 1 (by decide) (hts (.fieldLink RX0 15 "HubTree$Bus" "plan" "LHubTree$Plan;") (List.mem_cons_of_mem _ m_89)) (fun _ h9 => h9) rfl dX0_rightAt_6 ?_
      refine va_get (D := (dC, dI)) (ci := 5) (v := .int dv) (C := RX5) (T := TX5) (N := 3) hx hb hts iA_5 hown hK hP 2 rfl rfl 2 (by decide) (hts (.fieldLink RX0 25 "HubTree$Plan" "devices" "I") (List.mem_cons_of_mem _ m_399)) (fun _ h9 => h9) rfl dX0_rightAt_9 ?_
      refine lv_icmp_ge (tgt := 44) hx hb dX0_rightAt_12 (by decide) (fun c_1 => ?_) (fun c_1 => ?_)
      · have hG := q_ifp c_1 hG
        refine lv_iload_n hx hb dX0_rightAt_44 rfl (lv_at hl 1 rfl) ?_
        obtain rfl := Option.some.inj hG
        exact W.iret (v := x2_4) hx hb hr (fun t ht hW => ⟨⟨x2_4, (), rfl, rfl, trivial⟩, hS.F ht⟩) hS.2.2 dX0_rightAt_45
      · have hG := q_ifn c_1 hG
        refine lv_iload_n hx hb dX0_rightAt_15 rfl (lv_at hl 1 rfl) ?_
        refine lv_aload_n hx hb dX0_rightAt_16 rfl (lv_at hl 2 rfl) ?_
        refine va_get (D := (dC, dI)) (ci := 0) (v := .ref r0) (C := RX0) (T := TX0) (N := 2) hx hb hts iA_0 hown hK hP 0 rfl rfl 0 (by decide) (hts (.fieldLink RX0 11 "HubTree$Bus" "row" "[I") (List.mem_cons_of_mem _ m_88)) (fun _ h9 => h9) rfl dX0_rightAt_17 ?_
        refine lv_bipush (v := 32) hx hb dX0_rightAt_20 (by decide) ?_
        refine lv_iload_n hx hb dX0_rightAt_22 rfl (lv_at hl 0 rfl) ?_
        refine lv_iadd hx hb dX0_rightAt_23 ?_
        obtain ⟨h_2, hG⟩ := q_ix hG
        refine va_iald hx hb hK hP 1 0 rfl rfl (i := (32 + x3_4)) h_2 dX0_rightAt_24 ?_
        refine q_top (y := (fr (32 + x3_4).toNatClampNeg)) rfl ?_
        refine lv_iload_n hx hb dX0_rightAt_25 rfl (lv_at hl 3 rfl) ?_
        refine lv_icmp_ne (tgt := 35) hx hb dX0_rightAt_26 (by decide) (fun c_3 => ?_) (fun c_3 => ?_)
        · have hG := q_ifn c_3 hG
          refine lv_iconst (v := 0) hx hb dX0_rightAt_35 (by decide) ?_
          refine lv_ior hx hb dX0_rightAt_36 ?_
          refine lv_istore_n (lv' := [(2, .int (x2_4 ||| 0)), (3, .int x3_4), (0, .ref g), (1, .int d)]) hx hb dX0_rightAt_37 rfl hl (by decide) rfl (fun ls hl => ?_)
          refine lv_iinc (v := (x3_4 + 1)) (lv' := [(3, .int (x3_4 + 1)), (2, .int (x2_4 ||| 0)), (0, .ref g), (1, .int d)]) hx hb dX0_rightAt_38 hl (k := 1) rfl (rfl) (by decide) rfl (fun ls hl => ?_)
          refine lv_goto (tgt := 4) hx hb dX0_rightAt_41 (by decide) ?_
          exact ih_4 (x2_4 ||| 0) (x3_4 + 1) H locs ls hG hP hS (lv_sub hl [0, 1, 2, 3] rfl)
        · have hG := q_ifp c_3 hG
          refine lv_iconst (v := 1) hx hb dX0_rightAt_29 (by decide) ?_
          refine lv_iload_n hx hb dX0_rightAt_30 rfl (lv_at hl 0 rfl) ?_
          refine lv_ishl hx hb dX0_rightAt_31 ?_
          refine lv_goto (tgt := 36) hx hb dX0_rightAt_32 (by decide) ?_
          refine lv_ior hx hb dX0_rightAt_36 ?_
          refine lv_istore_n (lv' := [(2, .int (x2_4 ||| (1 <<< (x3_4 &&& 31)))), (3, .int x3_4), (0, .ref g), (1, .int d)]) hx hb dX0_rightAt_37 rfl hl (by decide) rfl (fun ls hl => ?_)
          refine lv_iinc (v := (x3_4 + 1)) (lv' := [(3, .int (x3_4 + 1)), (2, .int (x2_4 ||| (1 <<< (x3_4 &&& 31)))), (0, .ref g), (1, .int d)]) hx hb dX0_rightAt_38 hl (k := 1) rfl (rfl) (by decide) rfl (fun ls hl => ?_)
          refine lv_goto (tgt := 4) hx hb dX0_rightAt_41 (by decide) ?_
          exact ih_4 (x2_4 ||| (1 <<< (x3_4 &&& 31))) (x3_4 + 1) H locs ls hG hP hS (lv_sub hl [0, 1, 2, 3] rfl)
  exact L_4 1000 0 0 s.heap [] ls hG hP hS hl

def FL_X0_hangsOn_13 (fr : Nat → Int32) (dv : Int32) (fu : Nat → Int32) (fp : Nat → Int32) (d : Int32) (ee : Int32) : Nat → Int32 → Int32 → Option (Int32)
  | 0, _, _ => none
  | n + 1, x3_13, x4_13 => (if 8 ≤ x4_13 then (if x3_13 = ee then some (1) else some (0)) else (if x3_13 = ee then (if x3_13 = ee then some (1) else some (0)) else (if x3_13 < 0 then (if x3_13 = ee then some (1) else some (0)) else (if 8 ≤ x3_13 then (if x3_13 = ee then some (1) else some (0)) else (if (32 + x3_13) < 0 ∨ 98 ≤ ((32 + x3_13)).toNatClampNeg then none else (FL_X0_hangsOn_13 fr dv fu fp d ee n (fr (32 + x3_13).toNatClampNeg) (x4_13 + 1)))))))

def F_X0_hangsOn (fr : Nat → Int32) (dv : Int32) (fu : Nat → Int32) (fp : Nat → Int32) (d : Int32) (ee : Int32) : Option (Int32) := (if (32 + d) < 0 ∨ 98 ≤ ((32 + d)).toNatClampNeg then none else (FL_X0_hangsOn_13 fr dv fu fp d ee 1000 (fr (32 + d).toNatClampNeg) 0))
set_option maxHeartbeats 4000000 in
set_option maxRecDepth 100000 in
theorem c_X0_hangsOn (l : Launch) (dC : Nat → ClassId) (dI : Nat → Nat → Nat) (g : Nat) (r0 : Nat) (h : Nat) (r1 : Nat) (r2 : Nat) (dv : Int32) (c0 : ClassId) (fr : Nat → Int32) (c1 : ClassId) (c2 : ClassId) (fu : Nat → Int32) (fp : Nat → Int32) (d : Int32) (ee : Int32) (o : Int32) (hG : F_X0_hangsOn fr dv fu fp d ee = some o) : Met l yX0_hangsOn (.code yX0_hangsOn cX0_hangsOn 5 (some .boolean) :: wA) ({ frames := 0, cells := 0, slots := 0, locals := 0 }) (va_Pc [.ref g, .int d, .int ee] (q_R (dC, dI) [(g, .inr (0, [.ref r0, .ref h])), (r0, .inl (c0, 98, .inl fr)), (h, .inr (5, [.ref r1, .ref r2, .int dv])), (r1, .inl (c1, 8, .inl fu)), (r2, .inl (c2, 48, .inl fp))] [(c0, .int), (c1, .int), (c2, .int)])) (q_i o) 0 0 (fun _ => False) := by
  refine Met.ofW (cc := cX0_hangsOn) (maxL := 5) (ret := (some .boolean)) (by decide) rfl ?_
  intro p e s m args below meth c s₁ B hml hv
  obtain ⟨rfl, hP, hK⟩ := hv
  have hx := B.exec
  have hb := B.bytes
  have hr := B.returns
  have hts := atoms_spec (ws := .code yX0_hangsOn cX0_hangsOn 5 (some .boolean) :: wA) B.pre
  have hown : s.vm.findClass RX0 = some m.cls := findClass_of_methodNamed B.named
  have hlocks := B.notSynchronized
  have hS : va_S (fun _ => False) s.heap s.heap [] := va_S.rf
  have hl := lv_entry ([.ref g, .int d, .int ee]) (n := 5) (Nat.le_of_ble_eq_true rfl)
  rw [lg_entry_eq]
  generalize (lg_sl ([.ref g, .int d, .int ee]) ++ List.replicate (5 - (lg_sl ([.ref g, .int d, .int ee])).length) Slot.unset).toArray = ls at hl ⊢
  have hl : lv_has ls 5 [(0, .ref g), (1, .int d), (2, .int ee)] := hl
  unfold F_X0_hangsOn at hG
  refine lv_aload_n hx hb dX0_hangsOn_0 rfl (lv_at hl 0 rfl) ?_
  refine va_get (D := (dC, dI)) (ci := 0) (v := .ref r0) (C := RX0) (T := TX0) (N := 2) hx hb hts iA_0 hown hK hP 0 rfl rfl 0 (by decide) (hts (.fieldLink RX0 11 "HubTree$Bus" "row" "[I") (List.mem_cons_of_mem _ m_88)) (fun _ h9 => h9) rfl dX0_hangsOn_1 ?_
  refine lv_bipush (v := 32) hx hb dX0_hangsOn_4 (by decide) ?_
  refine lv_iload_n hx hb dX0_hangsOn_6 rfl (lv_at hl 1 rfl) ?_
  refine lv_iadd hx hb dX0_hangsOn_7 ?_
  obtain ⟨h_1, hG⟩ := q_ix hG
  refine va_iald hx hb hK hP 1 0 rfl rfl (i := (32 + d)) h_1 dX0_hangsOn_8 ?_
  refine q_top (y := (fr (32 + d).toNatClampNeg)) rfl ?_
  refine lv_istore_n (lv' := [(3, .int (fr (32 + d).toNatClampNeg)), (0, .ref g), (1, .int d), (2, .int ee)]) hx hb dX0_hangsOn_9 rfl hl (by decide) rfl (fun ls hl => ?_)
  refine lv_iconst (v := 0) hx hb dX0_hangsOn_10 (by decide) ?_
  refine lv_istore (lv' := [(4, .int 0), (3, .int (fr (32 + d).toNatClampNeg)), (0, .ref g), (1, .int d), (2, .int ee)]) hx hb dX0_hangsOn_11 hl (by decide) rfl (fun ls hl => ?_)
  have L_13 : ∀ (n_13 : Nat) (x3_13 : Int32) (x4_13 : Int32) (H : Heap) (locs : List Loc) (ls : Array Slot), FL_X0_hangsOn_13 fr dv fu fp d ee n_13 x3_13 x4_13 = some o → va_P (dC, dI) vwCl [(g, .inr (0, [.ref r0, .ref h])), (r0, .inl (c0, 98, .inl fr)), (h, .inr (5, [.ref r1, .ref r2, .int dv])), (r1, .inl (c1, 8, .inl fu)), (r2, .inl (c2, 48, .inl fp))] H → va_S (fun _ => False) s.heap H locs → lv_has ls 5 [(4, .int x4_13), (3, .int x3_13), (0, .ref g), (1, .int d), (2, .int ee)] → W p l e (headSpec (.code yX0_hangsOn cX0_hangsOn 5 (some .boolean) :: wA) ({ frames := 0, cells := 0, slots := 0, locals := 0 })).room s m #[.ref g, .int d, .int ee] below meth c H locs 0 0 (MQ below (q_i o) #[.ref g, .int d, .int ee] s 0 0 (fun _ => False)) (F0 m 13 ls []) := by
    intro n_13
    induction n_13 with
    | zero =>
      intro x3_13 x4_13 H locs ls hG
      exact q_no hG
    | succ n_13 ih_13 =>
      intro x3_13 x4_13 H locs ls hG hP hS hl
      unfold FL_X0_hangsOn_13 at hG
      refine lv_iload hx hb dX0_hangsOn_13 (lv_at hl 0 rfl) ?_
      refine lv_bipush (v := 8) hx hb dX0_hangsOn_15 (by decide) ?_
      refine lv_icmp_ge (tgt := 51) hx hb dX0_hangsOn_17 (by decide) (fun c_2 => ?_) (fun c_2 => ?_)
      · have hG := q_ifp c_2 hG
        refine lv_iload_n hx hb dX0_hangsOn_51 rfl (lv_at hl 1 rfl) ?_
        refine lv_iload_n hx hb dX0_hangsOn_52 rfl (lv_at hl 4 rfl) ?_
        refine lv_icmp_ne (tgt := 60) hx hb dX0_hangsOn_53 (by decide) (fun c_3 => ?_) (fun c_3 => ?_)
        · have hG := q_ifn c_3 hG
          refine lv_iconst (v := 0) hx hb dX0_hangsOn_60 (by decide) ?_
          obtain rfl := Option.some.inj hG
          exact W.zret (v := 0) hx hb hr rfl (fun t ht hW => ⟨⟨0, (), rfl, rfl, trivial⟩, hS.F ht⟩) hS.2.2 dX0_hangsOn_61
        · have hG := q_ifp c_3 hG
          refine lv_iconst (v := 1) hx hb dX0_hangsOn_56 (by decide) ?_
          refine lv_goto (tgt := 61) hx hb dX0_hangsOn_57 (by decide) ?_
          obtain rfl := Option.some.inj hG
          exact W.zret (v := 1) hx hb hr rfl (fun t ht hW => ⟨⟨1, (), rfl, rfl, trivial⟩, hS.F ht⟩) hS.2.2 dX0_hangsOn_61
      · have hG := q_ifn c_2 hG
        refine lv_iload_n hx hb dX0_hangsOn_20 rfl (lv_at hl 1 rfl) ?_
        refine lv_iload_n hx hb dX0_hangsOn_21 rfl (lv_at hl 4 rfl) ?_
        refine lv_icmp_eq (tgt := 51) hx hb dX0_hangsOn_22 (by decide) (fun c_4 => ?_) (fun c_4 => ?_)
        · have hG := q_ifp c_4 hG
          refine lv_iload_n hx hb dX0_hangsOn_51 rfl (lv_at hl 1 rfl) ?_
          refine lv_iload_n hx hb dX0_hangsOn_52 rfl (lv_at hl 4 rfl) ?_
          refine lv_icmp_ne (tgt := 60) hx hb dX0_hangsOn_53 (by decide) (fun c_5 => ?_) (fun c_5 => ?_)
          · have hG := q_ifn c_5 hG
            refine lv_iconst (v := 0) hx hb dX0_hangsOn_60 (by decide) ?_
            obtain rfl := Option.some.inj hG
            exact W.zret (v := 0) hx hb hr rfl (fun t ht hW => ⟨⟨0, (), rfl, rfl, trivial⟩, hS.F ht⟩) hS.2.2 dX0_hangsOn_61
          · have hG := q_ifp c_5 hG
            refine lv_iconst (v := 1) hx hb dX0_hangsOn_56 (by decide) ?_
            refine lv_goto (tgt := 61) hx hb dX0_hangsOn_57 (by decide) ?_
            obtain rfl := Option.some.inj hG
            exact W.zret (v := 1) hx hb hr rfl (fun t ht hW => ⟨⟨1, (), rfl, rfl, trivial⟩, hS.F ht⟩) hS.2.2 dX0_hangsOn_61
        · have hG := q_ifn c_4 hG
          refine lv_iload_n hx hb dX0_hangsOn_25 rfl (lv_at hl 1 rfl) ?_
          refine lv_if_lt (tgt := 51) hx hb dX0_hangsOn_26 (by decide) (fun c_6 => ?_) (fun c_6 => ?_)
          · have hG := q_ifp c_6 hG
            refine lv_iload_n hx hb dX0_hangsOn_51 rfl (lv_at hl 1 rfl) ?_
            refine lv_iload_n hx hb dX0_hangsOn_52 rfl (lv_at hl 4 rfl) ?_
            refine lv_icmp_ne (tgt := 60) hx hb dX0_hangsOn_53 (by decide) (fun c_7 => ?_) (fun c_7 => ?_)
            · have hG := q_ifn c_7 hG
              refine lv_iconst (v := 0) hx hb dX0_hangsOn_60 (by decide) ?_
              obtain rfl := Option.some.inj hG
              exact W.zret (v := 0) hx hb hr rfl (fun t ht hW => ⟨⟨0, (), rfl, rfl, trivial⟩, hS.F ht⟩) hS.2.2 dX0_hangsOn_61
            · have hG := q_ifp c_7 hG
              refine lv_iconst (v := 1) hx hb dX0_hangsOn_56 (by decide) ?_
              refine lv_goto (tgt := 61) hx hb dX0_hangsOn_57 (by decide) ?_
              obtain rfl := Option.some.inj hG
              exact W.zret (v := 1) hx hb hr rfl (fun t ht hW => ⟨⟨1, (), rfl, rfl, trivial⟩, hS.F ht⟩) hS.2.2 dX0_hangsOn_61
          · have hG := q_ifn c_6 hG
            refine lv_iload_n hx hb dX0_hangsOn_29 rfl (lv_at hl 1 rfl) ?_
            refine lv_bipush (v := 8) hx hb dX0_hangsOn_30 (by decide) ?_
            refine lv_icmp_ge (tgt := 51) hx hb dX0_hangsOn_32 (by decide) (fun c_8 => ?_) (fun c_8 => ?_)
            · have hG := q_ifp c_8 hG
              refine lv_iload_n hx hb dX0_hangsOn_51 rfl (lv_at hl 1 rfl) ?_
              refine lv_iload_n hx hb dX0_hangsOn_52 rfl (lv_at hl 4 rfl) ?_
              refine lv_icmp_ne (tgt := 60) hx hb dX0_hangsOn_53 (by decide) (fun c_9 => ?_) (fun c_9 => ?_)
              · have hG := q_ifn c_9 hG
                refine lv_iconst (v := 0) hx hb dX0_hangsOn_60 (by decide) ?_
                obtain rfl := Option.some.inj hG
                exact W.zret (v := 0) hx hb hr rfl (fun t ht hW => ⟨⟨0, (), rfl, rfl, trivial⟩, hS.F ht⟩) hS.2.2 dX0_hangsOn_61
              · have hG := q_ifp c_9 hG
                refine lv_iconst (v := 1) hx hb dX0_hangsOn_56 (by decide) ?_
                refine lv_goto (tgt := 61) hx hb dX0_hangsOn_57 (by decide) ?_
                obtain rfl := Option.some.inj hG
                exact W.zret (v := 1) hx hb hr rfl (fun t ht hW => ⟨⟨1, (), rfl, rfl, trivial⟩, hS.F ht⟩) hS.2.2 dX0_hangsOn_61
            · have hG := q_ifn c_8 hG
              refine lv_aload_n hx hb dX0_hangsOn_35 rfl (lv_at hl 2 rfl) ?_
              refine va_get (D := (dC, dI)) (ci := 0) (v := .ref r0) (C := RX0) (T := TX0) (N := 2) hx hb hts iA_0 hown hK hP 0 rfl rfl 0 (by decide) (hts (.fieldLink RX0 11 "HubTree$Bus" "row" "[I") (List.mem_cons_of_mem _ m_88)) (fun _ h9 => h9) rfl dX0_hangsOn_36 ?_
              refine lv_bipush (v := 32) hx hb dX0_hangsOn_39 (by decide) ?_
              refine lv_iload_n hx hb dX0_hangsOn_41 rfl (lv_at hl 1 rfl) ?_
              refine lv_iadd hx hb dX0_hangsOn_42 ?_
              obtain ⟨h_10, hG⟩ := q_ix hG
              refine va_iald hx hb hK hP 1 0 rfl rfl (i := (32 + x3_13)) h_10 dX0_hangsOn_43 ?_
              refine q_top (y := (fr (32 + x3_13).toNatClampNeg)) rfl ?_
              refine lv_istore_n (lv' := [(3, .int (fr (32 + x3_13).toNatClampNeg)), (4, .int x4_13), (0, .ref g), (1, .int d), (2, .int ee)]) hx hb dX0_hangsOn_44 rfl hl (by decide) rfl (fun ls hl => ?_)
              refine lv_iinc (v := (x4_13 + 1)) (lv' := [(4, .int (x4_13 + 1)), (3, .int (fr (32 + x3_13).toNatClampNeg)), (0, .ref g), (1, .int d), (2, .int ee)]) hx hb dX0_hangsOn_45 hl (k := 1) rfl (rfl) (by decide) rfl (fun ls hl => ?_)
              refine lv_goto (tgt := 13) hx hb dX0_hangsOn_48 (by decide) ?_
              exact ih_13 (fr (32 + x3_13).toNatClampNeg) (x4_13 + 1) H locs ls hG hP hS (lv_sub hl [0, 1, 2, 3, 4] rfl)
  exact L_13 1000 (fr (32 + d).toNatClampNeg) 0 s.heap [] ls hG hP hS hl

def FL_X0_beneath_4 (fr : Nat → Int32) (dv : Int32) (fu : Nat → Int32) (fp : Nat → Int32) (d : Int32) : Nat → Int32 → Int32 → Option (Int32)
  | 0, _, _ => none
  | n + 1, x2_4, x3_4 => (if dv ≤ x3_4 then some (x2_4) else ((F_X0_hangsOn fr dv fu fp x3_4 d).bind fun o_2 => (if o_2 = 0 then (FL_X0_beneath_4 fr dv fu fp d n (x2_4 ||| 0) (x3_4 + 1)) else (FL_X0_beneath_4 fr dv fu fp d n (x2_4 ||| (1 <<< (x3_4 &&& 31))) (x3_4 + 1)))))

def F_X0_beneath (fr : Nat → Int32) (dv : Int32) (fu : Nat → Int32) (fp : Nat → Int32) (d : Int32) : Option (Int32) := (FL_X0_beneath_4 fr dv fu fp d 1000 0 0)
set_option maxHeartbeats 4000000 in
set_option maxRecDepth 100000 in
theorem c_X0_beneath (l : Launch) (dC : Nat → ClassId) (dI : Nat → Nat → Nat) (g : Nat) (r0 : Nat) (h : Nat) (r1 : Nat) (r2 : Nat) (dv : Int32) (c0 : ClassId) (fr : Nat → Int32) (c1 : ClassId) (c2 : ClassId) (fu : Nat → Int32) (fp : Nat → Int32) (d : Int32) (o : Int32) (hG : F_X0_beneath fr dv fu fp d = some o) : Met l yX0_beneath (.code yX0_beneath cX0_beneath 4 (some .int) :: wA) ({ frames := 1, cells := 0, slots := 0, locals := 24 }) (va_Pc [.ref g, .int d] (q_R (dC, dI) [(g, .inr (0, [.ref r0, .ref h])), (r0, .inl (c0, 98, .inl fr)), (h, .inr (5, [.ref r1, .ref r2, .int dv])), (r1, .inl (c1, 8, .inl fu)), (r2, .inl (c2, 48, .inl fp))] [(c0, .int), (c1, .int), (c2, .int)])) (q_i o) 0 0 (fun _ => False) := by
  refine Met.ofW (cc := cX0_beneath) (maxL := 4) (ret := (some .int)) (by decide) rfl ?_
  intro p e s m args below meth c s₁ B hml hv
  obtain ⟨rfl, hP, hK⟩ := hv
  have hx := B.exec
  have hb := B.bytes
  have hr := B.returns
  have hts := atoms_spec (ws := .code yX0_beneath cX0_beneath 4 (some .int) :: wA) B.pre
  have hown : s.vm.findClass RX0 = some m.cls := findClass_of_methodNamed B.named
  have hlocks := B.notSynchronized
  have hS : va_S (fun _ => False) s.heap s.heap [] := va_S.rf
  have hl := lv_entry ([.ref g, .int d]) (n := 4) (Nat.le_of_ble_eq_true rfl)
  rw [lg_entry_eq]
  generalize (lg_sl ([.ref g, .int d]) ++ List.replicate (4 - (lg_sl ([.ref g, .int d])).length) Slot.unset).toArray = ls at hl ⊢
  have hl : lv_has ls 4 [(0, .ref g), (1, .int d)] := hl
  unfold F_X0_beneath at hG
  refine lv_iconst (v := 0) hx hb dX0_beneath_0 (by decide) ?_
  refine lv_istore_n (lv' := [(2, .int 0), (0, .ref g), (1, .int d)]) hx hb dX0_beneath_1 rfl hl (by decide) rfl (fun ls hl => ?_)
  refine lv_iconst (v := 0) hx hb dX0_beneath_2 (by decide) ?_
  refine lv_istore_n (lv' := [(3, .int 0), (2, .int 0), (0, .ref g), (1, .int d)]) hx hb dX0_beneath_3 rfl hl (by decide) rfl (fun ls hl => ?_)
  have L_4 : ∀ (n_4 : Nat) (x2_4 : Int32) (x3_4 : Int32) (H : Heap) (locs : List Loc) (ls : Array Slot), FL_X0_beneath_4 fr dv fu fp d n_4 x2_4 x3_4 = some o → va_P (dC, dI) vwCl [(g, .inr (0, [.ref r0, .ref h])), (r0, .inl (c0, 98, .inl fr)), (h, .inr (5, [.ref r1, .ref r2, .int dv])), (r1, .inl (c1, 8, .inl fu)), (r2, .inl (c2, 48, .inl fp))] H → va_S (fun _ => False) s.heap H locs → lv_has ls 4 [(3, .int x3_4), (2, .int x2_4), (0, .ref g), (1, .int d)] → W p l e (headSpec (.code yX0_beneath cX0_beneath 4 (some .int) :: wA) ({ frames := 1, cells := 0, slots := 0, locals := 24 })).room s m #[.ref g, .int d] below meth c H locs 0 0 (MQ below (q_i o) #[.ref g, .int d] s 0 0 (fun _ => False)) (F0 m 4 ls []) := by
    intro n_4
    induction n_4 with
    | zero =>
      intro x2_4 x3_4 H locs ls hG
      exact q_no hG
    | succ n_4 ih_4 =>
      intro x2_4 x3_4 H locs ls hG hP hS hl
      unfold FL_X0_beneath_4 at hG
      refine lv_iload_n hx hb dX0_beneath_4 rfl (lv_at hl 0 rfl) ?_
      refine lv_aload_n hx hb dX0_beneath_5 rfl (lv_at hl 2 rfl) ?_
      refine va_get (D := (dC, dI)) (ci := 0) (v := .ref h) (C := RX0) (T := TX0) (N := 2) hx hb hts iA_0 hown hK hP 0 rfl rfl 1 (by decide) (hts (.fieldLink RX0 15 "HubTree$Bus" "plan" "LHubTree$Plan;") (List.mem_cons_of_mem _ m_89)) (fun _ h9 => h9) rfl dX0_beneath_6 ?_
      refine va_get (D := (dC, dI)) (ci := 5) (v := .int dv) (C := RX5) (T := TX5) (N := 3) hx hb hts iA_5 hown hK hP 2 rfl rfl 2 (by decide) (hts (.fieldLink RX0 25 "HubTree$Plan" "devices" "I") (List.mem_cons_of_mem _ m_399)) (fun _ h9 => h9) rfl dX0_beneath_9 ?_
      refine lv_icmp_ge (tgt := 40) hx hb dX0_beneath_12 (by decide) (fun c_1 => ?_) (fun c_1 => ?_)
      · have hG := q_ifp c_1 hG
        refine lv_iload_n hx hb dX0_beneath_40 rfl (lv_at hl 1 rfl) ?_
        obtain rfl := Option.some.inj hG
        exact W.iret (v := x2_4) hx hb hr (fun t ht hW => ⟨⟨x2_4, (), rfl, rfl, trivial⟩, hS.F ht⟩) hS.2.2 dX0_beneath_41
      · have hG := q_ifn c_1 hG
        refine lv_iload_n hx hb dX0_beneath_15 rfl (lv_at hl 1 rfl) ?_
        refine lv_aload_n hx hb dX0_beneath_16 rfl (lv_at hl 2 rfl) ?_
        refine lv_iload_n hx hb dX0_beneath_17 rfl (lv_at hl 0 rfl) ?_
        refine lv_iload_n hx hb dX0_beneath_18 rfl (lv_at hl 3 rfl) ?_
        obtain ⟨o_2, r_3, hG⟩ := q_bi hG
        refine q_goi (v := o_2) (va_runV (As := [.int x3_4, .int d]) (rest := [.int x2_4]) ⟨hx, hb, hml, hown, hts⟩ (c_X0_hangsOn l dC dI g r0 h r1 r2 dv c0 fr c1 c2 fu fp x3_4 d o_2 r_3) (cwV 2 hts (q_gV m_565 m_566 m_567 m_33 m_568) rfl rfl rfl hdV_yX0_hangsOn_2 ⟨Nat.le_of_ble_eq_true rfl, Nat.le_of_ble_eq_true rfl⟩) (q_preV hK hP (q := (RX0, TX0, 2)) (ci := 0) (q0 := 0) rfl rfl [0, 1, 2, 3, 4] rfl [0, 1, 2] rfl) rfl rfl hl.1 rfl (lv_room (Nat.le_of_ble_eq_true rfl)) dX0_beneath_19 ⟨Nat.le_of_ble_eq_true rfl, Nat.le_of_ble_eq_true rfl⟩) hP hS (fun H locs hP hS => ?_)
        refine lv_if_eq (tgt := 31) hx hb dX0_beneath_22 (by decide) (fun c_4 => ?_) (fun c_4 => ?_)
        · have hG := q_ifp c_4 hG
          refine lv_iconst (v := 0) hx hb dX0_beneath_31 (by decide) ?_
          refine lv_ior hx hb dX0_beneath_32 ?_
          refine lv_istore_n (lv' := [(2, .int (x2_4 ||| 0)), (3, .int x3_4), (0, .ref g), (1, .int d)]) hx hb dX0_beneath_33 rfl hl (by decide) rfl (fun ls hl => ?_)
          refine lv_iinc (v := (x3_4 + 1)) (lv' := [(3, .int (x3_4 + 1)), (2, .int (x2_4 ||| 0)), (0, .ref g), (1, .int d)]) hx hb dX0_beneath_34 hl (k := 1) rfl (rfl) (by decide) rfl (fun ls hl => ?_)
          refine lv_goto (tgt := 4) hx hb dX0_beneath_37 (by decide) ?_
          exact ih_4 (x2_4 ||| 0) (x3_4 + 1) H locs ls hG hP hS (lv_sub hl [0, 1, 2, 3] rfl)
        · have hG := q_ifn c_4 hG
          refine lv_iconst (v := 1) hx hb dX0_beneath_25 (by decide) ?_
          refine lv_iload_n hx hb dX0_beneath_26 rfl (lv_at hl 0 rfl) ?_
          refine lv_ishl hx hb dX0_beneath_27 ?_
          refine lv_goto (tgt := 32) hx hb dX0_beneath_28 (by decide) ?_
          refine lv_ior hx hb dX0_beneath_32 ?_
          refine lv_istore_n (lv' := [(2, .int (x2_4 ||| (1 <<< (x3_4 &&& 31)))), (3, .int x3_4), (0, .ref g), (1, .int d)]) hx hb dX0_beneath_33 rfl hl (by decide) rfl (fun ls hl => ?_)
          refine lv_iinc (v := (x3_4 + 1)) (lv' := [(3, .int (x3_4 + 1)), (2, .int (x2_4 ||| (1 <<< (x3_4 &&& 31)))), (0, .ref g), (1, .int d)]) hx hb dX0_beneath_34 hl (k := 1) rfl (rfl) (by decide) rfl (fun ls hl => ?_)
          refine lv_goto (tgt := 4) hx hb dX0_beneath_37 (by decide) ?_
          exact ih_4 (x2_4 ||| (1 <<< (x3_4 &&& 31))) (x3_4 + 1) H locs ls hG hP hS (lv_sub hl [0, 1, 2, 3] rfl)
  exact L_4 1000 0 0 s.heap [] ls hG hP hS hl

def FL_X0_depthOf_7 (fr : Nat → Int32) (dv : Int32) (fu : Nat → Int32) (fp : Nat → Int32) (d : Int32) : Nat → Int32 → Int32 → Int32 → Option (Int32)
  | 0, _, _, _ => none
  | n + 1, x2_7, x3_7, x4_7 => (if 8 ≤ x4_7 then some (x2_7) else (if x3_7 < 0 then some (x2_7) else (if 8 ≤ x3_7 then some (x2_7) else (if (32 + x3_7) < 0 ∨ 98 ≤ ((32 + x3_7)).toNatClampNeg then none else (if (fr (32 + x3_7).toNatClampNeg) = (-1) then (FL_X0_depthOf_7 fr dv fu fp d n (x2_7 + 0) (fr (32 + x3_7).toNatClampNeg) (x4_7 + 1)) else (FL_X0_depthOf_7 fr dv fu fp d n (x2_7 + 1) (fr (32 + x3_7).toNatClampNeg) (x4_7 + 1)))))))

def F_X0_depthOf (fr : Nat → Int32) (dv : Int32) (fu : Nat → Int32) (fp : Nat → Int32) (d : Int32) : Option (Int32) := (FL_X0_depthOf_7 fr dv fu fp d 1000 0 d 0)
set_option maxHeartbeats 4000000 in
set_option maxRecDepth 100000 in
theorem c_X0_depthOf (l : Launch) (dC : Nat → ClassId) (dI : Nat → Nat → Nat) (g : Nat) (r0 : Nat) (h : Nat) (r1 : Nat) (r2 : Nat) (dv : Int32) (c0 : ClassId) (fr : Nat → Int32) (c1 : ClassId) (c2 : ClassId) (fu : Nat → Int32) (fp : Nat → Int32) (d : Int32) (o : Int32) (hG : F_X0_depthOf fr dv fu fp d = some o) : Met l yX0_depthOf (.code yX0_depthOf cX0_depthOf 5 (some .int) :: wA) ({ frames := 0, cells := 0, slots := 0, locals := 0 }) (va_Pc [.ref g, .int d] (q_R (dC, dI) [(g, .inr (0, [.ref r0, .ref h])), (r0, .inl (c0, 98, .inl fr)), (h, .inr (5, [.ref r1, .ref r2, .int dv])), (r1, .inl (c1, 8, .inl fu)), (r2, .inl (c2, 48, .inl fp))] [(c0, .int), (c1, .int), (c2, .int)])) (q_i o) 0 0 (fun _ => False) := by
  refine Met.ofW (cc := cX0_depthOf) (maxL := 5) (ret := (some .int)) (by decide) rfl ?_
  intro p e s m args below meth c s₁ B hml hv
  obtain ⟨rfl, hP, hK⟩ := hv
  have hx := B.exec
  have hb := B.bytes
  have hr := B.returns
  have hts := atoms_spec (ws := .code yX0_depthOf cX0_depthOf 5 (some .int) :: wA) B.pre
  have hown : s.vm.findClass RX0 = some m.cls := findClass_of_methodNamed B.named
  have hlocks := B.notSynchronized
  have hS : va_S (fun _ => False) s.heap s.heap [] := va_S.rf
  have hl := lv_entry ([.ref g, .int d]) (n := 5) (Nat.le_of_ble_eq_true rfl)
  rw [lg_entry_eq]
  generalize (lg_sl ([.ref g, .int d]) ++ List.replicate (5 - (lg_sl ([.ref g, .int d])).length) Slot.unset).toArray = ls at hl ⊢
  have hl : lv_has ls 5 [(0, .ref g), (1, .int d)] := hl
  unfold F_X0_depthOf at hG
  refine lv_iconst (v := 0) hx hb dX0_depthOf_0 (by decide) ?_
  refine lv_istore_n (lv' := [(2, .int 0), (0, .ref g), (1, .int d)]) hx hb dX0_depthOf_1 rfl hl (by decide) rfl (fun ls hl => ?_)
  refine lv_iload_n hx hb dX0_depthOf_2 rfl (lv_at hl 2 rfl) ?_
  refine lv_istore_n (lv' := [(3, .int d), (2, .int 0), (0, .ref g), (1, .int d)]) hx hb dX0_depthOf_3 rfl hl (by decide) rfl (fun ls hl => ?_)
  refine lv_iconst (v := 0) hx hb dX0_depthOf_4 (by decide) ?_
  refine lv_istore (lv' := [(4, .int 0), (3, .int d), (2, .int 0), (0, .ref g), (1, .int d)]) hx hb dX0_depthOf_5 hl (by decide) rfl (fun ls hl => ?_)
  have L_7 : ∀ (n_7 : Nat) (x2_7 : Int32) (x3_7 : Int32) (x4_7 : Int32) (H : Heap) (locs : List Loc) (ls : Array Slot), FL_X0_depthOf_7 fr dv fu fp d n_7 x2_7 x3_7 x4_7 = some o → va_P (dC, dI) vwCl [(g, .inr (0, [.ref r0, .ref h])), (r0, .inl (c0, 98, .inl fr)), (h, .inr (5, [.ref r1, .ref r2, .int dv])), (r1, .inl (c1, 8, .inl fu)), (r2, .inl (c2, 48, .inl fp))] H → va_S (fun _ => False) s.heap H locs → lv_has ls 5 [(4, .int x4_7), (3, .int x3_7), (2, .int x2_7), (0, .ref g), (1, .int d)] → W p l e (headSpec (.code yX0_depthOf cX0_depthOf 5 (some .int) :: wA) ({ frames := 0, cells := 0, slots := 0, locals := 0 })).room s m #[.ref g, .int d] below meth c H locs 0 0 (MQ below (q_i o) #[.ref g, .int d] s 0 0 (fun _ => False)) (F0 m 7 ls []) := by
    intro n_7
    induction n_7 with
    | zero =>
      intro x2_7 x3_7 x4_7 H locs ls hG
      exact q_no hG
    | succ n_7 ih_7 =>
      intro x2_7 x3_7 x4_7 H locs ls hG hP hS hl
      unfold FL_X0_depthOf_7 at hG
      refine lv_iload hx hb dX0_depthOf_7 (lv_at hl 0 rfl) ?_
      refine lv_bipush (v := 8) hx hb dX0_depthOf_9 (by decide) ?_
      refine lv_icmp_ge (tgt := 53) hx hb dX0_depthOf_11 (by decide) (fun c_1 => ?_) (fun c_1 => ?_)
      · have hG := q_ifp c_1 hG
        refine lv_iload_n hx hb dX0_depthOf_53 rfl (lv_at hl 2 rfl) ?_
        obtain rfl := Option.some.inj hG
        exact W.iret (v := x2_7) hx hb hr (fun t ht hW => ⟨⟨x2_7, (), rfl, rfl, trivial⟩, hS.F ht⟩) hS.2.2 dX0_depthOf_54
      · have hG := q_ifn c_1 hG
        refine lv_iload_n hx hb dX0_depthOf_14 rfl (lv_at hl 1 rfl) ?_
        refine lv_if_lt (tgt := 53) hx hb dX0_depthOf_15 (by decide) (fun c_2 => ?_) (fun c_2 => ?_)
        · have hG := q_ifp c_2 hG
          refine lv_iload_n hx hb dX0_depthOf_53 rfl (lv_at hl 2 rfl) ?_
          obtain rfl := Option.some.inj hG
          exact W.iret (v := x2_7) hx hb hr (fun t ht hW => ⟨⟨x2_7, (), rfl, rfl, trivial⟩, hS.F ht⟩) hS.2.2 dX0_depthOf_54
        · have hG := q_ifn c_2 hG
          refine lv_iload_n hx hb dX0_depthOf_18 rfl (lv_at hl 1 rfl) ?_
          refine lv_bipush (v := 8) hx hb dX0_depthOf_19 (by decide) ?_
          refine lv_icmp_ge (tgt := 53) hx hb dX0_depthOf_21 (by decide) (fun c_3 => ?_) (fun c_3 => ?_)
          · have hG := q_ifp c_3 hG
            refine lv_iload_n hx hb dX0_depthOf_53 rfl (lv_at hl 2 rfl) ?_
            obtain rfl := Option.some.inj hG
            exact W.iret (v := x2_7) hx hb hr (fun t ht hW => ⟨⟨x2_7, (), rfl, rfl, trivial⟩, hS.F ht⟩) hS.2.2 dX0_depthOf_54
          · have hG := q_ifn c_3 hG
            refine lv_aload_n hx hb dX0_depthOf_24 rfl (lv_at hl 3 rfl) ?_
            refine va_get (D := (dC, dI)) (ci := 0) (v := .ref r0) (C := RX0) (T := TX0) (N := 2) hx hb hts iA_0 hown hK hP 0 rfl rfl 0 (by decide) (hts (.fieldLink RX0 11 "HubTree$Bus" "row" "[I") (List.mem_cons_of_mem _ m_88)) (fun _ h9 => h9) rfl dX0_depthOf_25 ?_
            refine lv_bipush (v := 32) hx hb dX0_depthOf_28 (by decide) ?_
            refine lv_iload_n hx hb dX0_depthOf_30 rfl (lv_at hl 1 rfl) ?_
            refine lv_iadd hx hb dX0_depthOf_31 ?_
            obtain ⟨h_4, hG⟩ := q_ix hG
            refine va_iald hx hb hK hP 1 0 rfl rfl (i := (32 + x3_7)) h_4 dX0_depthOf_32 ?_
            refine q_top (y := (fr (32 + x3_7).toNatClampNeg)) rfl ?_
            refine lv_istore_n (lv' := [(3, .int (fr (32 + x3_7).toNatClampNeg)), (4, .int x4_7), (2, .int x2_7), (0, .ref g), (1, .int d)]) hx hb dX0_depthOf_33 rfl hl (by decide) rfl (fun ls hl => ?_)
            refine lv_iload_n hx hb dX0_depthOf_34 rfl (lv_at hl 2 rfl) ?_
            refine lv_iload_n hx hb dX0_depthOf_35 rfl (lv_at hl 0 rfl) ?_
            refine lv_iconst (v := (-1)) hx hb dX0_depthOf_36 (by decide) ?_
            refine lv_icmp_ne (tgt := 44) hx hb dX0_depthOf_37 (by decide) (fun c_5 => ?_) (fun c_5 => ?_)
            · have hG := q_ifn c_5 hG
              refine lv_iconst (v := 1) hx hb dX0_depthOf_44 (by decide) ?_
              refine lv_iadd hx hb dX0_depthOf_45 ?_
              refine lv_istore_n (lv' := [(2, .int (x2_7 + 1)), (3, .int (fr (32 + x3_7).toNatClampNeg)), (4, .int x4_7), (0, .ref g), (1, .int d)]) hx hb dX0_depthOf_46 rfl hl (by decide) rfl (fun ls hl => ?_)
              refine lv_iinc (v := (x4_7 + 1)) (lv' := [(4, .int (x4_7 + 1)), (2, .int (x2_7 + 1)), (3, .int (fr (32 + x3_7).toNatClampNeg)), (0, .ref g), (1, .int d)]) hx hb dX0_depthOf_47 hl (k := 2) rfl (rfl) (by decide) rfl (fun ls hl => ?_)
              refine lv_goto (tgt := 7) hx hb dX0_depthOf_50 (by decide) ?_
              exact ih_7 (x2_7 + 1) (fr (32 + x3_7).toNatClampNeg) (x4_7 + 1) H locs ls hG hP hS (lv_sub hl [0, 2, 1, 3, 4] rfl)
            · have hG := q_ifp c_5 hG
              refine lv_iconst (v := 0) hx hb dX0_depthOf_40 (by decide) ?_
              refine lv_goto (tgt := 45) hx hb dX0_depthOf_41 (by decide) ?_
              refine lv_iadd hx hb dX0_depthOf_45 ?_
              refine lv_istore_n (lv' := [(2, .int (x2_7 + 0)), (3, .int (fr (32 + x3_7).toNatClampNeg)), (4, .int x4_7), (0, .ref g), (1, .int d)]) hx hb dX0_depthOf_46 rfl hl (by decide) rfl (fun ls hl => ?_)
              refine lv_iinc (v := (x4_7 + 1)) (lv' := [(4, .int (x4_7 + 1)), (2, .int (x2_7 + 0)), (3, .int (fr (32 + x3_7).toNatClampNeg)), (0, .ref g), (1, .int d)]) hx hb dX0_depthOf_47 hl (k := 2) rfl (rfl) (by decide) rfl (fun ls hl => ?_)
              refine lv_goto (tgt := 7) hx hb dX0_depthOf_50 (by decide) ?_
              exact ih_7 (x2_7 + 0) (fr (32 + x3_7).toNatClampNeg) (x4_7 + 1) H locs ls hG hP hS (lv_sub hl [0, 2, 1, 3, 4] rfl)
  exact L_7 1000 0 d 0 s.heap [] ls hG hP hS hl

def FL_X0_greatestDepth_4 (fr : Nat → Int32) (dv : Int32) (fu : Nat → Int32) (fp : Nat → Int32) : Nat → Int32 → Int32 → Option (Int32)
  | 0, _, _ => none
  | n + 1, x1_4, x2_4 => (if dv ≤ x2_4 then some (x1_4) else ((F_X0_depthOf fr dv fu fp x2_4).bind fun o_2 => (FL_X0_greatestDepth_4 fr dv fu fp n (if x1_4 < o_2 then o_2 else x1_4) (x2_4 + 1))))

def F_X0_greatestDepth (fr : Nat → Int32) (dv : Int32) (fu : Nat → Int32) (fp : Nat → Int32) : Option (Int32) := (FL_X0_greatestDepth_4 fr dv fu fp 1000 0 0)
set_option maxHeartbeats 4000000 in
set_option maxRecDepth 100000 in
theorem c_X0_greatestDepth (l : Launch) (dC : Nat → ClassId) (dI : Nat → Nat → Nat) (g : Nat) (r0 : Nat) (h : Nat) (r1 : Nat) (r2 : Nat) (dv : Int32) (c0 : ClassId) (fr : Nat → Int32) (c1 : ClassId) (c2 : ClassId) (fu : Nat → Int32) (fp : Nat → Int32) (o : Int32) (hG : F_X0_greatestDepth fr dv fu fp = some o) : Met l yX0_greatestDepth (.code yX0_greatestDepth cX0_greatestDepth 3 (some .int) :: wA) ({ frames := 1, cells := 0, slots := 0, locals := 24 }) (va_Pc [.ref g] (q_R (dC, dI) [(g, .inr (0, [.ref r0, .ref h])), (r0, .inl (c0, 98, .inl fr)), (h, .inr (5, [.ref r1, .ref r2, .int dv])), (r1, .inl (c1, 8, .inl fu)), (r2, .inl (c2, 48, .inl fp))] [(c0, .int), (c1, .int), (c2, .int)])) (q_i o) 0 0 (fun _ => False) := by
  refine Met.ofW (cc := cX0_greatestDepth) (maxL := 3) (ret := (some .int)) (by decide) rfl ?_
  intro p e s m args below meth c s₁ B hml hv
  obtain ⟨rfl, hP, hK⟩ := hv
  have hx := B.exec
  have hb := B.bytes
  have hr := B.returns
  have hts := atoms_spec (ws := .code yX0_greatestDepth cX0_greatestDepth 3 (some .int) :: wA) B.pre
  have hown : s.vm.findClass RX0 = some m.cls := findClass_of_methodNamed B.named
  have hlocks := B.notSynchronized
  have hS : va_S (fun _ => False) s.heap s.heap [] := va_S.rf
  have hl := lv_entry ([.ref g]) (n := 3) (Nat.le_of_ble_eq_true rfl)
  rw [lg_entry_eq]
  generalize (lg_sl ([.ref g]) ++ List.replicate (3 - (lg_sl ([.ref g])).length) Slot.unset).toArray = ls at hl ⊢
  have hl : lv_has ls 3 [(0, .ref g)] := hl
  unfold F_X0_greatestDepth at hG
  refine lv_iconst (v := 0) hx hb dX0_greatestDepth_0 (by decide) ?_
  refine lv_istore_n (lv' := [(1, .int 0), (0, .ref g)]) hx hb dX0_greatestDepth_1 rfl hl (by decide) rfl (fun ls hl => ?_)
  refine lv_iconst (v := 0) hx hb dX0_greatestDepth_2 (by decide) ?_
  refine lv_istore_n (lv' := [(2, .int 0), (1, .int 0), (0, .ref g)]) hx hb dX0_greatestDepth_3 rfl hl (by decide) rfl (fun ls hl => ?_)
  have L_4 : ∀ (n_4 : Nat) (x1_4 : Int32) (x2_4 : Int32) (H : Heap) (locs : List Loc) (ls : Array Slot), FL_X0_greatestDepth_4 fr dv fu fp n_4 x1_4 x2_4 = some o → va_P (dC, dI) vwCl [(g, .inr (0, [.ref r0, .ref h])), (r0, .inl (c0, 98, .inl fr)), (h, .inr (5, [.ref r1, .ref r2, .int dv])), (r1, .inl (c1, 8, .inl fu)), (r2, .inl (c2, 48, .inl fp))] H → va_S (fun _ => False) s.heap H locs → lv_has ls 3 [(2, .int x2_4), (1, .int x1_4), (0, .ref g)] → W p l e (headSpec (.code yX0_greatestDepth cX0_greatestDepth 3 (some .int) :: wA) ({ frames := 1, cells := 0, slots := 0, locals := 24 })).room s m #[.ref g] below meth c H locs 0 0 (MQ below (q_i o) #[.ref g] s 0 0 (fun _ => False)) (F0 m 4 ls []) := by
    intro n_4
    induction n_4 with
    | zero =>
      intro x1_4 x2_4 H locs ls hG
      exact q_no hG
    | succ n_4 ih_4 =>
      intro x1_4 x2_4 H locs ls hG hP hS hl
      unfold FL_X0_greatestDepth_4 at hG
      refine lv_iload_n hx hb dX0_greatestDepth_4 rfl (lv_at hl 0 rfl) ?_
      refine lv_aload_n hx hb dX0_greatestDepth_5 rfl (lv_at hl 2 rfl) ?_
      refine va_get (D := (dC, dI)) (ci := 0) (v := .ref h) (C := RX0) (T := TX0) (N := 2) hx hb hts iA_0 hown hK hP 0 rfl rfl 1 (by decide) (hts (.fieldLink RX0 15 "HubTree$Bus" "plan" "LHubTree$Plan;") (List.mem_cons_of_mem _ m_89)) (fun _ h9 => h9) rfl dX0_greatestDepth_6 ?_
      refine va_get (D := (dC, dI)) (ci := 5) (v := .int dv) (C := RX5) (T := TX5) (N := 3) hx hb hts iA_5 hown hK hP 2 rfl rfl 2 (by decide) (hts (.fieldLink RX0 25 "HubTree$Plan" "devices" "I") (List.mem_cons_of_mem _ m_399)) (fun _ h9 => h9) rfl dX0_greatestDepth_9 ?_
      refine lv_icmp_ge (tgt := 31) hx hb dX0_greatestDepth_12 (by decide) (fun c_1 => ?_) (fun c_1 => ?_)
      · have hG := q_ifp c_1 hG
        refine lv_iload_n hx hb dX0_greatestDepth_31 rfl (lv_at hl 1 rfl) ?_
        obtain rfl := Option.some.inj hG
        exact W.iret (v := x1_4) hx hb hr (fun t ht hW => ⟨⟨x1_4, (), rfl, rfl, trivial⟩, hS.F ht⟩) hS.2.2 dX0_greatestDepth_32
      · have hG := q_ifn c_1 hG
        refine lv_iload_n hx hb dX0_greatestDepth_15 rfl (lv_at hl 1 rfl) ?_
        refine lv_aload_n hx hb dX0_greatestDepth_16 rfl (lv_at hl 2 rfl) ?_
        refine lv_iload_n hx hb dX0_greatestDepth_17 rfl (lv_at hl 0 rfl) ?_
        obtain ⟨o_2, r_3, hG⟩ := q_bi hG
        refine q_goi (v := o_2) (va_runV (As := [.int x2_4]) (rest := [.int x1_4]) ⟨hx, hb, hml, hown, hts⟩ (c_X0_depthOf l dC dI g r0 h r1 r2 dv c0 fr c1 c2 fu fp x2_4 o_2 r_3) (cwV 1 hts (q_gV m_846 m_488 m_489 m_33 m_490) rfl rfl rfl hdV_yX0_depthOf_1 ⟨Nat.le_of_ble_eq_true rfl, Nat.le_of_ble_eq_true rfl⟩) (q_preV hK hP (q := (RX0, TX0, 2)) (ci := 0) (q0 := 0) rfl rfl [0, 1, 2, 3, 4] rfl [0, 1, 2] rfl) rfl rfl hl.1 rfl (lv_room (Nat.le_of_ble_eq_true rfl)) dX0_greatestDepth_18 ⟨Nat.le_of_ble_eq_true rfl, Nat.le_of_ble_eq_true rfl⟩) hP hS (fun H locs hP hS => ?_)
        refine va_mmax hx hb (by rw [hml, hl.1]) hown (hts (.methodLink RX0 79 Lib.Math.max.name) (List.mem_cons_of_mem _ m_1355)) (hts (.static Lib.Math.max.name) (List.mem_cons_of_mem _ m_223)) (hts (.initialized "java/lang/Math") (List.mem_cons_of_mem _ m_224)) (hts (.code Lib.Math.max.name Lib.Math.max.code 2 (some .int)) (List.mem_cons_of_mem _ m_225)) (Nat.le_of_ble_eq_true rfl) (Nat.le_of_ble_eq_true rfl) (Nat.zero_le _) (Nat.zero_le _) dX0_greatestDepth_21 ?_
        refine lv_istore_n (lv' := [(1, .int (if x1_4 < o_2 then o_2 else x1_4)), (2, .int x2_4), (0, .ref g)]) hx hb dX0_greatestDepth_24 rfl hl (by decide) rfl (fun ls hl => ?_)
        refine lv_iinc (v := (x2_4 + 1)) (lv' := [(2, .int (x2_4 + 1)), (1, .int (if x1_4 < o_2 then o_2 else x1_4)), (0, .ref g)]) hx hb dX0_greatestDepth_25 hl (k := 1) rfl (rfl) (by decide) rfl (fun ls hl => ?_)
        refine lv_goto (tgt := 4) hx hb dX0_greatestDepth_28 (by decide) ?_
        exact ih_4 (if x1_4 < o_2 then o_2 else x1_4) (x2_4 + 1) H locs ls hG hP hS (lv_sub hl [0, 1, 2] rfl)
  exact L_4 1000 0 0 s.heap [] ls hG hP hS hl

def FL_X0_withAddress_2 (fr : Nat → Int32) (dv : Int32) (fu : Nat → Int32) (fp : Nat → Int32) (d : Int32) : Nat → Int32 → Option (Int32)
  | 0, _ => none
  | n + 1, x2_2 => (if dv ≤ x2_2 then some ((-1)) else (if (56 + x2_2) < 0 ∨ 98 ≤ ((56 + x2_2)).toNatClampNeg then none else (if (fr (56 + x2_2).toNatClampNeg) = d then some (x2_2) else (FL_X0_withAddress_2 fr dv fu fp d n (x2_2 + 1)))))

def F_X0_withAddress (fr : Nat → Int32) (dv : Int32) (fu : Nat → Int32) (fp : Nat → Int32) (d : Int32) : Option (Int32) := (FL_X0_withAddress_2 fr dv fu fp d 1000 0)
set_option maxHeartbeats 4000000 in
set_option maxRecDepth 100000 in
theorem c_X0_withAddress (l : Launch) (dC : Nat → ClassId) (dI : Nat → Nat → Nat) (g : Nat) (r0 : Nat) (h : Nat) (r1 : Nat) (r2 : Nat) (dv : Int32) (c0 : ClassId) (fr : Nat → Int32) (c1 : ClassId) (c2 : ClassId) (fu : Nat → Int32) (fp : Nat → Int32) (d : Int32) (o : Int32) (hG : F_X0_withAddress fr dv fu fp d = some o) : Met l yX0_withAddress (.code yX0_withAddress cX0_withAddress 3 (some .int) :: wA) ({ frames := 0, cells := 0, slots := 0, locals := 0 }) (va_Pc [.ref g, .int d] (q_R (dC, dI) [(g, .inr (0, [.ref r0, .ref h])), (r0, .inl (c0, 98, .inl fr)), (h, .inr (5, [.ref r1, .ref r2, .int dv])), (r1, .inl (c1, 8, .inl fu)), (r2, .inl (c2, 48, .inl fp))] [(c0, .int), (c1, .int), (c2, .int)])) (q_i o) 0 0 (fun _ => False) := by
  refine Met.ofW (cc := cX0_withAddress) (maxL := 3) (ret := (some .int)) (by decide) rfl ?_
  intro p e s m args below meth c s₁ B hml hv
  obtain ⟨rfl, hP, hK⟩ := hv
  have hx := B.exec
  have hb := B.bytes
  have hr := B.returns
  have hts := atoms_spec (ws := .code yX0_withAddress cX0_withAddress 3 (some .int) :: wA) B.pre
  have hown : s.vm.findClass RX0 = some m.cls := findClass_of_methodNamed B.named
  have hlocks := B.notSynchronized
  have hS : va_S (fun _ => False) s.heap s.heap [] := va_S.rf
  have hl := lv_entry ([.ref g, .int d]) (n := 3) (Nat.le_of_ble_eq_true rfl)
  rw [lg_entry_eq]
  generalize (lg_sl ([.ref g, .int d]) ++ List.replicate (3 - (lg_sl ([.ref g, .int d])).length) Slot.unset).toArray = ls at hl ⊢
  have hl : lv_has ls 3 [(0, .ref g), (1, .int d)] := hl
  unfold F_X0_withAddress at hG
  refine lv_iconst (v := 0) hx hb dX0_withAddress_0 (by decide) ?_
  refine lv_istore_n (lv' := [(2, .int 0), (0, .ref g), (1, .int d)]) hx hb dX0_withAddress_1 rfl hl (by decide) rfl (fun ls hl => ?_)
  have L_2 : ∀ (n_2 : Nat) (x2_2 : Int32) (H : Heap) (locs : List Loc) (ls : Array Slot), FL_X0_withAddress_2 fr dv fu fp d n_2 x2_2 = some o → va_P (dC, dI) vwCl [(g, .inr (0, [.ref r0, .ref h])), (r0, .inl (c0, 98, .inl fr)), (h, .inr (5, [.ref r1, .ref r2, .int dv])), (r1, .inl (c1, 8, .inl fu)), (r2, .inl (c2, 48, .inl fp))] H → va_S (fun _ => False) s.heap H locs → lv_has ls 3 [(2, .int x2_2), (0, .ref g), (1, .int d)] → W p l e (headSpec (.code yX0_withAddress cX0_withAddress 3 (some .int) :: wA) ({ frames := 0, cells := 0, slots := 0, locals := 0 })).room s m #[.ref g, .int d] below meth c H locs 0 0 (MQ below (q_i o) #[.ref g, .int d] s 0 0 (fun _ => False)) (F0 m 2 ls []) := by
    intro n_2
    induction n_2 with
    | zero =>
      intro x2_2 H locs ls hG
      exact q_no hG
    | succ n_2 ih_2 =>
      intro x2_2 H locs ls hG hP hS hl
      unfold FL_X0_withAddress_2 at hG
      refine lv_iload_n hx hb dX0_withAddress_2 rfl (lv_at hl 0 rfl) ?_
      refine lv_aload_n hx hb dX0_withAddress_3 rfl (lv_at hl 1 rfl) ?_
      refine va_get (D := (dC, dI)) (ci := 0) (v := .ref h) (C := RX0) (T := TX0) (N := 2) hx hb hts iA_0 hown hK hP 0 rfl rfl 1 (by decide) (hts (.fieldLink RX0 15 "HubTree$Bus" "plan" "LHubTree$Plan;") (List.mem_cons_of_mem _ m_89)) (fun _ h9 => h9) rfl dX0_withAddress_4 ?_
      refine va_get (D := (dC, dI)) (ci := 5) (v := .int dv) (C := RX5) (T := TX5) (N := 3) hx hb hts iA_5 hown hK hP 2 rfl rfl 2 (by decide) (hts (.fieldLink RX0 25 "HubTree$Plan" "devices" "I") (List.mem_cons_of_mem _ m_399)) (fun _ h9 => h9) rfl dX0_withAddress_7 ?_
      refine lv_icmp_ge (tgt := 34) hx hb dX0_withAddress_10 (by decide) (fun c_1 => ?_) (fun c_1 => ?_)
      · have hG := q_ifp c_1 hG
        refine lv_iconst (v := (-1)) hx hb dX0_withAddress_34 (by decide) ?_
        obtain rfl := Option.some.inj hG
        exact W.iret (v := (-1)) hx hb hr (fun t ht hW => ⟨⟨(-1), (), rfl, rfl, trivial⟩, hS.F ht⟩) hS.2.2 dX0_withAddress_35
      · have hG := q_ifn c_1 hG
        refine lv_aload_n hx hb dX0_withAddress_13 rfl (lv_at hl 1 rfl) ?_
        refine va_get (D := (dC, dI)) (ci := 0) (v := .ref r0) (C := RX0) (T := TX0) (N := 2) hx hb hts iA_0 hown hK hP 0 rfl rfl 0 (by decide) (hts (.fieldLink RX0 11 "HubTree$Bus" "row" "[I") (List.mem_cons_of_mem _ m_88)) (fun _ h9 => h9) rfl dX0_withAddress_14 ?_
        refine lv_bipush (v := 56) hx hb dX0_withAddress_17 (by decide) ?_
        refine lv_iload_n hx hb dX0_withAddress_19 rfl (lv_at hl 0 rfl) ?_
        refine lv_iadd hx hb dX0_withAddress_20 ?_
        obtain ⟨h_2, hG⟩ := q_ix hG
        refine va_iald hx hb hK hP 1 0 rfl rfl (i := (56 + x2_2)) h_2 dX0_withAddress_21 ?_
        refine q_top (y := (fr (56 + x2_2).toNatClampNeg)) rfl ?_
        refine lv_iload_n hx hb dX0_withAddress_22 rfl (lv_at hl 2 rfl) ?_
        refine lv_icmp_ne (tgt := 28) hx hb dX0_withAddress_23 (by decide) (fun c_3 => ?_) (fun c_3 => ?_)
        · have hG := q_ifn c_3 hG
          refine lv_iinc (v := (x2_2 + 1)) (lv' := [(2, .int (x2_2 + 1)), (0, .ref g), (1, .int d)]) hx hb dX0_withAddress_28 hl (k := 0) rfl (rfl) (by decide) rfl (fun ls hl => ?_)
          refine lv_goto (tgt := 2) hx hb dX0_withAddress_31 (by decide) ?_
          exact ih_2 (x2_2 + 1) H locs ls hG hP hS (lv_sub hl [0, 1, 2] rfl)
        · have hG := q_ifp c_3 hG
          refine lv_iload_n hx hb dX0_withAddress_26 rfl (lv_at hl 0 rfl) ?_
          obtain rfl := Option.some.inj hG
          exact W.iret (v := x2_2) hx hb hr (fun t ht hW => ⟨⟨x2_2, (), rfl, rfl, trivial⟩, hS.F ht⟩) hS.2.2 dX0_withAddress_27
  exact L_2 1000 0 s.heap [] ls hG hP hS hl
