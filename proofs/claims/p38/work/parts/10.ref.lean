theorem dX10_actOf_0 : decode cX10_actOf 0 = .ok (.iload_n 0, 1) := q_o26 (by decide +kernel)
theorem dX10_actOf_1 : decode cX10_actOf 1 = .ok (.tableswitch 45 0 4 #[35, 37, 39, 41, 43], 35) := by decide +kernel
theorem dX10_actOf_36 : decode cX10_actOf 36 = .ok (.iconst 0, 1) := q_o3 (by decide +kernel)
theorem dX10_actOf_37 : decode cX10_actOf 37 = .ok (.ireturn, 1) := q_o172 (by decide +kernel)
theorem dX10_actOf_38 : decode cX10_actOf 38 = .ok (.iconst 1, 1) := q_o4 (by decide +kernel)
theorem dX10_actOf_39 : decode cX10_actOf 39 = .ok (.ireturn, 1) := q_o172 (by decide +kernel)
theorem dX10_actOf_40 : decode cX10_actOf 40 = .ok (.iconst 2, 1) := q_o5 (by decide +kernel)
theorem dX10_actOf_41 : decode cX10_actOf 41 = .ok (.ireturn, 1) := q_o172 (by decide +kernel)
theorem dX10_actOf_42 : decode cX10_actOf 42 = .ok (.iconst 3, 1) := q_o6 (by decide +kernel)
theorem dX10_actOf_43 : decode cX10_actOf 43 = .ok (.ireturn, 1) := q_o172 (by decide +kernel)
theorem dX10_actOf_44 : decode cX10_actOf 44 = .ok (.iconst 4, 1) := q_o7 (by decide +kernel)
theorem dX10_actOf_45 : decode cX10_actOf 45 = .ok (.ireturn, 1) := q_o172 (by decide +kernel)
theorem dX10_actOf_46 : decode cX10_actOf 46 = .ok (.bipush 6, 2) := q_o16 (a := 6) (by decide +kernel) rfl
theorem dX10_actOf_48 : decode cX10_actOf 48 = .ok (.ireturn, 1) := q_o172 (by decide +kernel)
theorem dX10_ahead_0 : decode cX10_ahead 0 = .ok (.aload_n 0, 1) := q_o42 (by decide +kernel)
theorem dX10_ahead_1 : decode cX10_ahead 1 = .ok (.invokevirtual 70, 3) := q_o182 (a := 0) (b := 70) (by decide +kernel)
theorem dX10_ahead_4 : decode cX10_ahead 4 = .ok (.bipush 32, 2) := q_o16 (a := 32) (by decide +kernel) rfl
theorem dX10_ahead_6 : decode cX10_ahead 6 = .ok (.if_icmp .ne 16, 3) := q_o160 (a := 0) (b := 16) (by decide +kernel) rfl
theorem dX10_ahead_9 : decode cX10_ahead 9 = .ok (.aload_n 0, 1) := q_o42 (by decide +kernel)
theorem dX10_ahead_10 : decode cX10_ahead 10 = .ok (.dup, 1) := q_o89 (by decide +kernel)
theorem dX10_ahead_11 : decode cX10_ahead 11 = .ok (.getfield 67, 3) := q_o180 (a := 0) (b := 67) (by decide +kernel)
theorem dX10_ahead_14 : decode cX10_ahead 14 = .ok (.iconst 1, 1) := q_o4 (by decide +kernel)
theorem dX10_ahead_15 : decode cX10_ahead 15 = .ok (.iadd, 1) := q_o96 (by decide +kernel)
theorem dX10_ahead_16 : decode cX10_ahead 16 = .ok (.putfield 67, 3) := q_o181 (a := 0) (b := 67) (by decide +kernel)
theorem dX10_ahead_19 : decode cX10_ahead 19 = .ok (.goto (-19), 3) := q_o167 (a := 255) (b := 237) (by decide +kernel) rfl
theorem dX10_ahead_22 : decode cX10_ahead 22 = .ok (.aload_n 0, 1) := q_o42 (by decide +kernel)
theorem dX10_ahead_23 : decode cX10_ahead 23 = .ok (.invokevirtual 70, 3) := q_o182 (a := 0) (b := 70) (by decide +kernel)
theorem dX10_ahead_26 : decode cX10_ahead 26 = .ok (.ireturn, 1) := q_o172 (by decide +kernel)
theorem dX10_bad_0 : decode cX10_bad 0 = .ok (.aload_n 0, 1) := q_o42 (by decide +kernel)
theorem dX10_bad_1 : decode cX10_bad 1 = .ok (.aload_n 0, 1) := q_o42 (by decide +kernel)
theorem dX10_bad_2 : decode cX10_bad 2 = .ok (.getfield 74, 3) := q_o180 (a := 0) (b := 74) (by decide +kernel)
theorem dX10_bad_5 : decode cX10_bad 5 = .ok (.iconst (-1), 1) := q_o2 (by decide +kernel)
theorem dX10_bad_6 : decode cX10_bad 6 = .ok (.if_icmp .ne 10, 3) := q_o160 (a := 0) (b := 10) (by decide +kernel) rfl
theorem dX10_bad_9 : decode cX10_bad 9 = .ok (.aload_n 0, 1) := q_o42 (by decide +kernel)
theorem dX10_bad_10 : decode cX10_bad 10 = .ok (.getfield 67, 3) := q_o180 (a := 0) (b := 67) (by decide +kernel)
theorem dX10_bad_13 : decode cX10_bad 13 = .ok (.goto 7, 3) := q_o167 (a := 0) (b := 7) (by decide +kernel) rfl
theorem dX10_bad_16 : decode cX10_bad 16 = .ok (.aload_n 0, 1) := q_o42 (by decide +kernel)
theorem dX10_bad_17 : decode cX10_bad 17 = .ok (.getfield 74, 3) := q_o180 (a := 0) (b := 74) (by decide +kernel)
theorem dX10_bad_20 : decode cX10_bad 20 = .ok (.putfield 74, 3) := q_o181 (a := 0) (b := 74) (by decide +kernel)
theorem dX10_bad_23 : decode cX10_bad 23 = .ok (.return_, 1) := q_o177 (by decide +kernel)
theorem dX10_bits_0 : decode cX10_bits 0 = .ok (.iconst 0, 1) := q_o3 (by decide +kernel)
theorem dX10_bits_1 : decode cX10_bits 1 = .ok (.istore_n 1, 1) := q_o60 (by decide +kernel)
theorem dX10_bits_2 : decode cX10_bits 2 = .ok (.iconst 0, 1) := q_o3 (by decide +kernel)
theorem dX10_bits_3 : decode cX10_bits 3 = .ok (.istore_n 2, 1) := q_o61 (by decide +kernel)
theorem dX10_bits_4 : decode cX10_bits 4 = .ok (.iload_n 2, 1) := q_o28 (by decide +kernel)
theorem dX10_bits_5 : decode cX10_bits 5 = .ok (.bipush 8, 2) := q_o16 (a := 8) (by decide +kernel) rfl
theorem dX10_bits_7 : decode cX10_bits 7 = .ok (.if_icmp .ge 17, 3) := q_o162 (a := 0) (b := 17) (by decide +kernel) rfl
theorem dX10_bits_10 : decode cX10_bits 10 = .ok (.iload_n 1, 1) := q_o27 (by decide +kernel)
theorem dX10_bits_11 : decode cX10_bits 11 = .ok (.iload_n 0, 1) := q_o26 (by decide +kernel)
theorem dX10_bits_12 : decode cX10_bits 12 = .ok (.iload_n 2, 1) := q_o28 (by decide +kernel)
theorem dX10_bits_13 : decode cX10_bits 13 = .ok (.ishr, 1) := by decide +kernel
theorem dX10_bits_14 : decode cX10_bits 14 = .ok (.iconst 1, 1) := q_o4 (by decide +kernel)
theorem dX10_bits_15 : decode cX10_bits 15 = .ok (.iand, 1) := q_o126 (by decide +kernel)
theorem dX10_bits_16 : decode cX10_bits 16 = .ok (.iadd, 1) := q_o96 (by decide +kernel)
theorem dX10_bits_17 : decode cX10_bits 17 = .ok (.istore_n 1, 1) := q_o60 (by decide +kernel)
theorem dX10_bits_18 : decode cX10_bits 18 = .ok (.iinc 2 1, 3) := q_o132 (a := 2) (b := 1) (by decide +kernel) rfl
theorem dX10_bits_21 : decode cX10_bits 21 = .ok (.goto (-17), 3) := q_o167 (a := 255) (b := 239) (by decide +kernel) rfl
theorem dX10_bits_24 : decode cX10_bits 24 = .ok (.iload_n 1, 1) := q_o27 (by decide +kernel)
theorem dX10_bits_25 : decode cX10_bits 25 = .ok (.ireturn, 1) := q_o172 (by decide +kernel)
theorem dX10_byteOf_0 : decode cX10_byteOf 0 = .ok (.iload 5, 2) := q_o21 (a := 5) (by decide +kernel)
theorem dX10_byteOf_2 : decode cX10_byteOf 2 = .ok (.iconst 4, 1) := q_o7 (by decide +kernel)
theorem dX10_byteOf_3 : decode cX10_byteOf 3 = .ok (.if_icmp .ge 7, 3) := q_o162 (a := 0) (b := 7) (by decide +kernel) rfl
theorem dX10_byteOf_6 : decode cX10_byteOf 6 = .ok (.iload_n 0, 1) := q_o26 (by decide +kernel)
theorem dX10_byteOf_7 : decode cX10_byteOf 7 = .ok (.goto 38, 3) := q_o167 (a := 0) (b := 38) (by decide +kernel) rfl
theorem dX10_byteOf_10 : decode cX10_byteOf 10 = .ok (.iload 5, 2) := q_o21 (a := 5) (by decide +kernel)
theorem dX10_byteOf_12 : decode cX10_byteOf 12 = .ok (.bipush 8, 2) := q_o16 (a := 8) (by decide +kernel) rfl
theorem dX10_byteOf_14 : decode cX10_byteOf 14 = .ok (.if_icmp .ge 7, 3) := q_o162 (a := 0) (b := 7) (by decide +kernel) rfl
theorem dX10_byteOf_17 : decode cX10_byteOf 17 = .ok (.iload_n 1, 1) := q_o27 (by decide +kernel)
theorem dX10_byteOf_18 : decode cX10_byteOf 18 = .ok (.goto 27, 3) := q_o167 (a := 0) (b := 27) (by decide +kernel) rfl
theorem dX10_byteOf_21 : decode cX10_byteOf 21 = .ok (.iload 5, 2) := q_o21 (a := 5) (by decide +kernel)
theorem dX10_byteOf_23 : decode cX10_byteOf 23 = .ok (.bipush 12, 2) := q_o16 (a := 12) (by decide +kernel) rfl
theorem dX10_byteOf_25 : decode cX10_byteOf 25 = .ok (.if_icmp .ge 7, 3) := q_o162 (a := 0) (b := 7) (by decide +kernel) rfl
theorem dX10_byteOf_28 : decode cX10_byteOf 28 = .ok (.iload_n 2, 1) := q_o28 (by decide +kernel)
theorem dX10_byteOf_29 : decode cX10_byteOf 29 = .ok (.goto 16, 3) := q_o167 (a := 0) (b := 16) (by decide +kernel) rfl
theorem dX10_byteOf_32 : decode cX10_byteOf 32 = .ok (.iload 5, 2) := q_o21 (a := 5) (by decide +kernel)
theorem dX10_byteOf_34 : decode cX10_byteOf 34 = .ok (.bipush 16, 2) := q_o16 (a := 16) (by decide +kernel) rfl
theorem dX10_byteOf_36 : decode cX10_byteOf 36 = .ok (.if_icmp .ge 7, 3) := q_o162 (a := 0) (b := 7) (by decide +kernel) rfl
theorem dX10_byteOf_39 : decode cX10_byteOf 39 = .ok (.iload_n 3, 1) := q_o29 (by decide +kernel)
theorem dX10_byteOf_40 : decode cX10_byteOf 40 = .ok (.goto 5, 3) := q_o167 (a := 0) (b := 5) (by decide +kernel) rfl
theorem dX10_byteOf_43 : decode cX10_byteOf 43 = .ok (.iload 4, 2) := q_o21 (a := 4) (by decide +kernel)
theorem dX10_byteOf_45 : decode cX10_byteOf 45 = .ok (.istore 6, 2) := q_o54 (a := 6) (by decide +kernel)
theorem dX10_byteOf_47 : decode cX10_byteOf 47 = .ok (.iload 6, 2) := q_o21 (a := 6) (by decide +kernel)
theorem dX10_byteOf_49 : decode cX10_byteOf 49 = .ok (.bipush 24, 2) := q_o16 (a := 24) (by decide +kernel) rfl
theorem dX10_byteOf_51 : decode cX10_byteOf 51 = .ok (.bipush 8, 2) := q_o16 (a := 8) (by decide +kernel) rfl
theorem dX10_byteOf_53 : decode cX10_byteOf 53 = .ok (.iload 5, 2) := q_o21 (a := 5) (by decide +kernel)
theorem dX10_byteOf_55 : decode cX10_byteOf 55 = .ok (.iconst 4, 1) := q_o7 (by decide +kernel)
theorem dX10_byteOf_56 : decode cX10_byteOf 56 = .ok (.irem, 1) := by decide +kernel
theorem dX10_byteOf_57 : decode cX10_byteOf 57 = .ok (.imul, 1) := q_o104 (by decide +kernel)
theorem dX10_byteOf_58 : decode cX10_byteOf 58 = .ok (.isub, 1) := q_o100 (by decide +kernel)
theorem dX10_byteOf_59 : decode cX10_byteOf 59 = .ok (.ishr, 1) := by decide +kernel
theorem dX10_byteOf_60 : decode cX10_byteOf 60 = .ok (.sipush 255, 3) := q_o17 (a := 0) (b := 255) (by decide +kernel) rfl
theorem dX10_byteOf_63 : decode cX10_byteOf 63 = .ok (.iand, 1) := q_o126 (by decide +kernel)
theorem dX10_byteOf_64 : decode cX10_byteOf 64 = .ok (.ireturn, 1) := q_o172 (by decide +kernel)
theorem dX10_clear_0 : decode cX10_clear 0 = .ok (.aload_n 0, 1) := q_o42 (by decide +kernel)
theorem dX10_clear_1 : decode cX10_clear 1 = .ok (.getfield 31, 3) := q_o180 (a := 0) (b := 31) (by decide +kernel)
theorem dX10_clear_4 : decode cX10_clear 4 = .ok (.iconst 0, 1) := q_o3 (by decide +kernel)
theorem dX10_clear_5 : decode cX10_clear 5 = .ok (.iload_n 1, 1) := q_o27 (by decide +kernel)
theorem dX10_clear_6 : decode cX10_clear 6 = .ok (.iadd, 1) := q_o96 (by decide +kernel)
theorem dX10_clear_7 : decode cX10_clear 7 = .ok (.iconst 0, 1) := q_o3 (by decide +kernel)
theorem dX10_clear_8 : decode cX10_clear 8 = .ok (.iastore, 1) := q_o79 (by decide +kernel)
theorem dX10_clear_9 : decode cX10_clear 9 = .ok (.aload_n 0, 1) := q_o42 (by decide +kernel)
theorem dX10_clear_10 : decode cX10_clear 10 = .ok (.getfield 31, 3) := q_o180 (a := 0) (b := 31) (by decide +kernel)
theorem dX10_clear_13 : decode cX10_clear 13 = .ok (.bipush 8, 2) := q_o16 (a := 8) (by decide +kernel) rfl
theorem dX10_clear_15 : decode cX10_clear 15 = .ok (.iload_n 1, 1) := q_o27 (by decide +kernel)
theorem dX10_clear_16 : decode cX10_clear 16 = .ok (.iadd, 1) := q_o96 (by decide +kernel)
theorem dX10_clear_17 : decode cX10_clear 17 = .ok (.iconst 0, 1) := q_o3 (by decide +kernel)
theorem dX10_clear_18 : decode cX10_clear 18 = .ok (.iastore, 1) := q_o79 (by decide +kernel)
theorem dX10_clear_19 : decode cX10_clear 19 = .ok (.aload_n 0, 1) := q_o42 (by decide +kernel)
theorem dX10_clear_20 : decode cX10_clear 20 = .ok (.getfield 31, 3) := q_o180 (a := 0) (b := 31) (by decide +kernel)
theorem dX10_clear_23 : decode cX10_clear 23 = .ok (.bipush 16, 2) := q_o16 (a := 16) (by decide +kernel) rfl
theorem dX10_clear_25 : decode cX10_clear 25 = .ok (.iload_n 1, 1) := q_o27 (by decide +kernel)
theorem dX10_clear_26 : decode cX10_clear 26 = .ok (.iadd, 1) := q_o96 (by decide +kernel)
theorem dX10_clear_27 : decode cX10_clear 27 = .ok (.iconst 0, 1) := q_o3 (by decide +kernel)
theorem dX10_clear_28 : decode cX10_clear 28 = .ok (.iastore, 1) := q_o79 (by decide +kernel)
theorem dX10_clear_29 : decode cX10_clear 29 = .ok (.aload_n 0, 1) := q_o42 (by decide +kernel)
theorem dX10_clear_30 : decode cX10_clear 30 = .ok (.getfield 31, 3) := q_o180 (a := 0) (b := 31) (by decide +kernel)
theorem dX10_clear_33 : decode cX10_clear 33 = .ok (.bipush 24, 2) := q_o16 (a := 24) (by decide +kernel) rfl
theorem dX10_clear_35 : decode cX10_clear 35 = .ok (.iload_n 1, 1) := q_o27 (by decide +kernel)
theorem dX10_clear_36 : decode cX10_clear 36 = .ok (.iadd, 1) := q_o96 (by decide +kernel)
theorem dX10_clear_37 : decode cX10_clear 37 = .ok (.iconst 0, 1) := q_o3 (by decide +kernel)
theorem dX10_clear_38 : decode cX10_clear 38 = .ok (.iastore, 1) := q_o79 (by decide +kernel)
theorem dX10_clear_39 : decode cX10_clear 39 = .ok (.aload_n 0, 1) := q_o42 (by decide +kernel)
theorem dX10_clear_40 : decode cX10_clear 40 = .ok (.getfield 31, 3) := q_o180 (a := 0) (b := 31) (by decide +kernel)
theorem dX10_clear_43 : decode cX10_clear 43 = .ok (.bipush 32, 2) := q_o16 (a := 32) (by decide +kernel) rfl
theorem dX10_clear_45 : decode cX10_clear 45 = .ok (.iload_n 1, 1) := q_o27 (by decide +kernel)
theorem dX10_clear_46 : decode cX10_clear 46 = .ok (.iadd, 1) := q_o96 (by decide +kernel)
theorem dX10_clear_47 : decode cX10_clear 47 = .ok (.iconst (-1), 1) := q_o2 (by decide +kernel)
theorem dX10_clear_48 : decode cX10_clear 48 = .ok (.iastore, 1) := q_o79 (by decide +kernel)
theorem dX10_clear_49 : decode cX10_clear 49 = .ok (.aload_n 0, 1) := q_o42 (by decide +kernel)
theorem dX10_clear_50 : decode cX10_clear 50 = .ok (.getfield 31, 3) := q_o180 (a := 0) (b := 31) (by decide +kernel)
theorem dX10_clear_53 : decode cX10_clear 53 = .ok (.bipush 40, 2) := q_o16 (a := 40) (by decide +kernel) rfl
theorem dX10_clear_55 : decode cX10_clear 55 = .ok (.iload_n 1, 1) := q_o27 (by decide +kernel)
theorem dX10_clear_56 : decode cX10_clear 56 = .ok (.iadd, 1) := q_o96 (by decide +kernel)
theorem dX10_clear_57 : decode cX10_clear 57 = .ok (.iconst (-1), 1) := q_o2 (by decide +kernel)
theorem dX10_clear_58 : decode cX10_clear 58 = .ok (.iastore, 1) := q_o79 (by decide +kernel)
theorem dX10_clear_59 : decode cX10_clear 59 = .ok (.aload_n 0, 1) := q_o42 (by decide +kernel)
theorem dX10_clear_60 : decode cX10_clear 60 = .ok (.getfield 31, 3) := q_o180 (a := 0) (b := 31) (by decide +kernel)
theorem dX10_clear_63 : decode cX10_clear 63 = .ok (.bipush 48, 2) := q_o16 (a := 48) (by decide +kernel) rfl
theorem dX10_clear_65 : decode cX10_clear 65 = .ok (.iload_n 1, 1) := q_o27 (by decide +kernel)
theorem dX10_clear_66 : decode cX10_clear 66 = .ok (.iadd, 1) := q_o96 (by decide +kernel)
theorem dX10_clear_67 : decode cX10_clear 67 = .ok (.iconst (-1), 1) := q_o2 (by decide +kernel)
theorem dX10_clear_68 : decode cX10_clear 68 = .ok (.iastore, 1) := q_o79 (by decide +kernel)
theorem dX10_clear_69 : decode cX10_clear 69 = .ok (.aload_n 0, 1) := q_o42 (by decide +kernel)
theorem dX10_clear_70 : decode cX10_clear 70 = .ok (.getfield 31, 3) := q_o180 (a := 0) (b := 31) (by decide +kernel)
theorem dX10_clear_73 : decode cX10_clear 73 = .ok (.bipush 56, 2) := q_o16 (a := 56) (by decide +kernel) rfl
theorem dX10_clear_75 : decode cX10_clear 75 = .ok (.iload_n 1, 1) := q_o27 (by decide +kernel)
theorem dX10_clear_76 : decode cX10_clear 76 = .ok (.iadd, 1) := q_o96 (by decide +kernel)
theorem dX10_clear_77 : decode cX10_clear 77 = .ok (.iconst 0, 1) := q_o3 (by decide +kernel)
theorem dX10_clear_78 : decode cX10_clear 78 = .ok (.iastore, 1) := q_o79 (by decide +kernel)
theorem dX10_clear_79 : decode cX10_clear 79 = .ok (.aload_n 0, 1) := q_o42 (by decide +kernel)
theorem dX10_clear_80 : decode cX10_clear 80 = .ok (.getfield 31, 3) := q_o180 (a := 0) (b := 31) (by decide +kernel)
theorem dX10_clear_83 : decode cX10_clear 83 = .ok (.bipush 64, 2) := q_o16 (a := 64) (by decide +kernel) rfl
theorem dX10_clear_85 : decode cX10_clear 85 = .ok (.iload_n 1, 1) := q_o27 (by decide +kernel)
theorem dX10_clear_86 : decode cX10_clear 86 = .ok (.iadd, 1) := q_o96 (by decide +kernel)
theorem dX10_clear_87 : decode cX10_clear 87 = .ok (.iconst 0, 1) := q_o3 (by decide +kernel)
theorem dX10_clear_88 : decode cX10_clear 88 = .ok (.iastore, 1) := q_o79 (by decide +kernel)
theorem dX10_clear_89 : decode cX10_clear 89 = .ok (.aload_n 0, 1) := q_o42 (by decide +kernel)
theorem dX10_clear_90 : decode cX10_clear 90 = .ok (.getfield 31, 3) := q_o180 (a := 0) (b := 31) (by decide +kernel)
theorem dX10_clear_93 : decode cX10_clear 93 = .ok (.bipush 88, 2) := q_o16 (a := 88) (by decide +kernel) rfl
theorem dX10_clear_95 : decode cX10_clear 95 = .ok (.iload_n 1, 1) := q_o27 (by decide +kernel)
theorem dX10_clear_96 : decode cX10_clear 96 = .ok (.iadd, 1) := q_o96 (by decide +kernel)
theorem dX10_clear_97 : decode cX10_clear 97 = .ok (.iconst 0, 1) := q_o3 (by decide +kernel)
theorem dX10_clear_98 : decode cX10_clear 98 = .ok (.iastore, 1) := q_o79 (by decide +kernel)
theorem dX10_clear_99 : decode cX10_clear 99 = .ok (.return_, 1) := q_o177 (by decide +kernel)
theorem dX10_digit_0 : decode cX10_digit 0 = .ok (.aload_n 0, 1) := q_o42 (by decide +kernel)
theorem dX10_digit_1 : decode cX10_digit 1 = .ok (.getfield 74, 3) := q_o180 (a := 0) (b := 74) (by decide +kernel)
theorem dX10_digit_4 : decode cX10_digit 4 = .ok (.iconst (-1), 1) := q_o2 (by decide +kernel)
theorem dX10_digit_5 : decode cX10_digit 5 = .ok (.if_icmp .ne 13, 3) := q_o160 (a := 0) (b := 13) (by decide +kernel) rfl
theorem dX10_digit_8 : decode cX10_digit 8 = .ok (.aload_n 0, 1) := q_o42 (by decide +kernel)
theorem dX10_digit_9 : decode cX10_digit 9 = .ok (.invokevirtual 77, 3) := q_o182 (a := 0) (b := 77) (by decide +kernel)
theorem dX10_digit_12 : decode cX10_digit 12 = .ok (.invokestatic 80, 3) := q_o184 (a := 0) (b := 80) (by decide +kernel)
theorem dX10_digit_15 : decode cX10_digit 15 = .ok (.ifCond .ne 9, 3) := q_o154 (a := 0) (b := 9) (by decide +kernel) rfl
theorem dX10_digit_18 : decode cX10_digit 18 = .ok (.aload_n 0, 1) := q_o42 (by decide +kernel)
theorem dX10_digit_19 : decode cX10_digit 19 = .ok (.invokevirtual 84, 3) := q_o182 (a := 0) (b := 84) (by decide +kernel)
theorem dX10_digit_22 : decode cX10_digit 22 = .ok (.iconst 0, 1) := q_o3 (by decide +kernel)
theorem dX10_digit_23 : decode cX10_digit 23 = .ok (.ireturn, 1) := q_o172 (by decide +kernel)
theorem dX10_digit_24 : decode cX10_digit 24 = .ok (.aload_n 0, 1) := q_o42 (by decide +kernel)
theorem dX10_digit_25 : decode cX10_digit 25 = .ok (.invokevirtual 70, 3) := q_o182 (a := 0) (b := 70) (by decide +kernel)
theorem dX10_digit_28 : decode cX10_digit 28 = .ok (.bipush 48, 2) := q_o16 (a := 48) (by decide +kernel) rfl
theorem dX10_digit_30 : decode cX10_digit 30 = .ok (.isub, 1) := q_o100 (by decide +kernel)
theorem dX10_digit_31 : decode cX10_digit 31 = .ok (.istore_n 1, 1) := q_o60 (by decide +kernel)
theorem dX10_digit_32 : decode cX10_digit 32 = .ok (.aload_n 0, 1) := q_o42 (by decide +kernel)
theorem dX10_digit_33 : decode cX10_digit 33 = .ok (.dup, 1) := q_o89 (by decide +kernel)
theorem dX10_digit_34 : decode cX10_digit 34 = .ok (.getfield 67, 3) := q_o180 (a := 0) (b := 67) (by decide +kernel)
theorem dX10_digit_37 : decode cX10_digit 37 = .ok (.iconst 1, 1) := q_o4 (by decide +kernel)
theorem dX10_digit_38 : decode cX10_digit 38 = .ok (.iadd, 1) := q_o96 (by decide +kernel)
theorem dX10_digit_39 : decode cX10_digit 39 = .ok (.putfield 67, 3) := q_o181 (a := 0) (b := 67) (by decide +kernel)
theorem dX10_digit_42 : decode cX10_digit 42 = .ok (.iload_n 1, 1) := q_o27 (by decide +kernel)
theorem dX10_digit_43 : decode cX10_digit 43 = .ok (.ireturn, 1) := q_o172 (by decide +kernel)
theorem dX10_end_0 : decode cX10_end 0 = .ok (.iload_n 1, 1) := q_o27 (by decide +kernel)
theorem dX10_end_1 : decode cX10_end 1 = .ok (.iconst 0, 1) := q_o3 (by decide +kernel)
theorem dX10_end_2 : decode cX10_end 2 = .ok (.aload_n 0, 1) := q_o42 (by decide +kernel)
theorem dX10_end_3 : decode cX10_end 3 = .ok (.getfield 60, 3) := q_o180 (a := 0) (b := 60) (by decide +kernel)
theorem dX10_end_6 : decode cX10_end 6 = .ok (.invokestatic 63, 3) := q_o184 (a := 0) (b := 63) (by decide +kernel)
theorem dX10_end_9 : decode cX10_end 9 = .ok (.ifCond .ne 5, 3) := q_o154 (a := 0) (b := 5) (by decide +kernel) rfl
theorem dX10_end_12 : decode cX10_end 12 = .ok (.iconst 0, 1) := q_o3 (by decide +kernel)
theorem dX10_end_13 : decode cX10_end 13 = .ok (.ireturn, 1) := q_o172 (by decide +kernel)
theorem dX10_end_14 : decode cX10_end 14 = .ok (.aload_n 0, 1) := q_o42 (by decide +kernel)
theorem dX10_end_15 : decode cX10_end 15 = .ok (.iload_n 1, 1) := q_o27 (by decide +kernel)
theorem dX10_end_16 : decode cX10_end 16 = .ok (.putfield 60, 3) := q_o181 (a := 0) (b := 60) (by decide +kernel)
theorem dX10_end_19 : decode cX10_end 19 = .ok (.iconst 1, 1) := q_o4 (by decide +kernel)
theorem dX10_end_20 : decode cX10_end 20 = .ok (.ireturn, 1) := q_o172 (by decide +kernel)
theorem dX10_fault_0 : decode cX10_fault 0 = .ok (.iload_n 1, 1) := q_o27 (by decide +kernel)
theorem dX10_fault_1 : decode cX10_fault 1 = .ok (.ifCond .ne 10, 3) := q_o154 (a := 0) (b := 10) (by decide +kernel) rfl
theorem dX10_fault_4 : decode cX10_fault 4 = .ok (.aload_n 0, 1) := q_o42 (by decide +kernel)
theorem dX10_fault_5 : decode cX10_fault 5 = .ok (.invokevirtual 126, 3) := q_o182 (a := 0) (b := 126) (by decide +kernel)
theorem dX10_fault_8 : decode cX10_fault 8 = .ok (.goto 18, 3) := q_o167 (a := 0) (b := 18) (by decide +kernel) rfl
theorem dX10_fault_11 : decode cX10_fault 11 = .ok (.iload_n 1, 1) := q_o27 (by decide +kernel)
theorem dX10_fault_12 : decode cX10_fault 12 = .ok (.iconst 1, 1) := q_o4 (by decide +kernel)
theorem dX10_fault_13 : decode cX10_fault 13 = .ok (.if_icmp .ne 11, 3) := q_o160 (a := 0) (b := 11) (by decide +kernel) rfl
theorem dX10_fault_16 : decode cX10_fault 16 = .ok (.aload_n 0, 1) := q_o42 (by decide +kernel)
theorem dX10_fault_17 : decode cX10_fault 17 = .ok (.iconst 4, 1) := q_o7 (by decide +kernel)
theorem dX10_fault_18 : decode cX10_fault 18 = .ok (.invokevirtual 129, 3) := q_o182 (a := 0) (b := 129) (by decide +kernel)
theorem dX10_fault_21 : decode cX10_fault 21 = .ok (.goto 5, 3) := q_o167 (a := 0) (b := 5) (by decide +kernel) rfl
theorem dX10_fault_24 : decode cX10_fault 24 = .ok (.bipush (-2), 2) := q_o16 (a := 254) (by decide +kernel) rfl
theorem dX10_fault_26 : decode cX10_fault 26 = .ok (.ireturn, 1) := q_o172 (by decide +kernel)
theorem dX10_feed_0 : decode cX10_feed 0 = .ok (.iconst 0, 1) := q_o3 (by decide +kernel)
theorem dX10_feed_1 : decode cX10_feed 1 = .ok (.istore 6, 2) := q_o54 (a := 6) (by decide +kernel)
theorem dX10_feed_3 : decode cX10_feed 3 = .ok (.iconst 0, 1) := q_o3 (by decide +kernel)
theorem dX10_feed_4 : decode cX10_feed 4 = .ok (.istore 7, 2) := q_o54 (a := 7) (by decide +kernel)
theorem dX10_feed_6 : decode cX10_feed 6 = .ok (.iload 7, 2) := q_o21 (a := 7) (by decide +kernel)
theorem dX10_feed_8 : decode cX10_feed 8 = .ok (.bipush 20, 2) := q_o16 (a := 20) (by decide +kernel) rfl
theorem dX10_feed_10 : decode cX10_feed 10 = .ok (.if_icmp .ge 34, 3) := q_o162 (a := 0) (b := 34) (by decide +kernel) rfl
theorem dX10_feed_13 : decode cX10_feed 13 = .ok (.iload 6, 2) := q_o21 (a := 6) (by decide +kernel)
theorem dX10_feed_15 : decode cX10_feed 15 = .ok (.iload_n 1, 1) := q_o27 (by decide +kernel)
theorem dX10_feed_16 : decode cX10_feed 16 = .ok (.iload_n 2, 1) := q_o28 (by decide +kernel)
theorem dX10_feed_17 : decode cX10_feed 17 = .ok (.iload_n 3, 1) := q_o29 (by decide +kernel)
theorem dX10_feed_18 : decode cX10_feed 18 = .ok (.iload 4, 2) := q_o21 (a := 4) (by decide +kernel)
theorem dX10_feed_20 : decode cX10_feed 20 = .ok (.iload 5, 2) := q_o21 (a := 5) (by decide +kernel)
theorem dX10_feed_22 : decode cX10_feed 22 = .ok (.iload 7, 2) := q_o21 (a := 7) (by decide +kernel)
theorem dX10_feed_24 : decode cX10_feed 24 = .ok (.invokestatic 56, 3) := q_o184 (a := 0) (b := 56) (by decide +kernel)
theorem dX10_feed_27 : decode cX10_feed 27 = .ok (.ifCond .eq 7, 3) := q_o153 (a := 0) (b := 7) (by decide +kernel) rfl
theorem dX10_feed_30 : decode cX10_feed 30 = .ok (.iconst 1, 1) := q_o4 (by decide +kernel)
theorem dX10_feed_31 : decode cX10_feed 31 = .ok (.goto 4, 3) := q_o167 (a := 0) (b := 4) (by decide +kernel) rfl
theorem dX10_feed_34 : decode cX10_feed 34 = .ok (.iconst 0, 1) := q_o3 (by decide +kernel)
theorem dX10_feed_35 : decode cX10_feed 35 = .ok (.iadd, 1) := q_o96 (by decide +kernel)
theorem dX10_feed_36 : decode cX10_feed 36 = .ok (.istore 6, 2) := q_o54 (a := 6) (by decide +kernel)
theorem dX10_feed_38 : decode cX10_feed 38 = .ok (.iinc 7 1, 3) := q_o132 (a := 7) (b := 1) (by decide +kernel) rfl
theorem dX10_feed_41 : decode cX10_feed 41 = .ok (.goto (-35), 3) := q_o167 (a := 255) (b := 221) (by decide +kernel) rfl
theorem dX10_feed_44 : decode cX10_feed 44 = .ok (.aload_n 0, 1) := q_o42 (by decide +kernel)
theorem dX10_feed_45 : decode cX10_feed 45 = .ok (.getfield 60, 3) := q_o180 (a := 0) (b := 60) (by decide +kernel)
theorem dX10_feed_48 : decode cX10_feed 48 = .ok (.iload 6, 2) := q_o21 (a := 6) (by decide +kernel)
theorem dX10_feed_50 : decode cX10_feed 50 = .ok (.iadd, 1) := q_o96 (by decide +kernel)
theorem dX10_feed_51 : decode cX10_feed 51 = .ok (.sipush 240, 3) := q_o17 (a := 0) (b := 240) (by decide +kernel) rfl
theorem dX10_feed_54 : decode cX10_feed 54 = .ok (.if_icmp .le 5, 3) := q_o164 (a := 0) (b := 5) (by decide +kernel) rfl
theorem dX10_feed_57 : decode cX10_feed 57 = .ok (.iconst (-1), 1) := q_o2 (by decide +kernel)
theorem dX10_feed_58 : decode cX10_feed 58 = .ok (.ireturn, 1) := q_o172 (by decide +kernel)
theorem dX10_feed_59 : decode cX10_feed 59 = .ok (.iconst 0, 1) := q_o3 (by decide +kernel)
theorem dX10_feed_60 : decode cX10_feed 60 = .ok (.istore 7, 2) := q_o54 (a := 7) (by decide +kernel)
theorem dX10_feed_62 : decode cX10_feed 62 = .ok (.iload 7, 2) := q_o21 (a := 7) (by decide +kernel)
theorem dX10_feed_64 : decode cX10_feed 64 = .ok (.bipush 20, 2) := q_o16 (a := 20) (by decide +kernel) rfl
theorem dX10_feed_66 : decode cX10_feed 66 = .ok (.if_icmp .ge 49, 3) := q_o162 (a := 0) (b := 49) (by decide +kernel) rfl
theorem dX10_feed_69 : decode cX10_feed 69 = .ok (.iload_n 1, 1) := q_o27 (by decide +kernel)
theorem dX10_feed_70 : decode cX10_feed 70 = .ok (.iload_n 2, 1) := q_o28 (by decide +kernel)
theorem dX10_feed_71 : decode cX10_feed 71 = .ok (.iload_n 3, 1) := q_o29 (by decide +kernel)
theorem dX10_feed_72 : decode cX10_feed 72 = .ok (.iload 4, 2) := q_o21 (a := 4) (by decide +kernel)
theorem dX10_feed_74 : decode cX10_feed 74 = .ok (.iload 5, 2) := q_o21 (a := 5) (by decide +kernel)
theorem dX10_feed_76 : decode cX10_feed 76 = .ok (.iload 7, 2) := q_o21 (a := 7) (by decide +kernel)
theorem dX10_feed_78 : decode cX10_feed 78 = .ok (.invokestatic 56, 3) := q_o184 (a := 0) (b := 56) (by decide +kernel)
theorem dX10_feed_81 : decode cX10_feed 81 = .ok (.istore 8, 2) := q_o54 (a := 8) (by decide +kernel)
theorem dX10_feed_83 : decode cX10_feed 83 = .ok (.iload 8, 2) := q_o21 (a := 8) (by decide +kernel)
theorem dX10_feed_85 : decode cX10_feed 85 = .ok (.ifCond .eq 24, 3) := q_o153 (a := 0) (b := 24) (by decide +kernel) rfl
theorem dX10_feed_88 : decode cX10_feed 88 = .ok (.aload_n 0, 1) := q_o42 (by decide +kernel)
theorem dX10_feed_89 : decode cX10_feed 89 = .ok (.getfield 9, 3) := q_o180 (a := 0) (b := 9) (by decide +kernel)
theorem dX10_feed_92 : decode cX10_feed 92 = .ok (.aload_n 0, 1) := q_o42 (by decide +kernel)
theorem dX10_feed_93 : decode cX10_feed 93 = .ok (.getfield 60, 3) := q_o180 (a := 0) (b := 60) (by decide +kernel)
theorem dX10_feed_96 : decode cX10_feed 96 = .ok (.iload 8, 2) := q_o21 (a := 8) (by decide +kernel)
theorem dX10_feed_98 : decode cX10_feed 98 = .ok (.iastore, 1) := q_o79 (by decide +kernel)
theorem dX10_feed_99 : decode cX10_feed 99 = .ok (.aload_n 0, 1) := q_o42 (by decide +kernel)
theorem dX10_feed_100 : decode cX10_feed 100 = .ok (.dup, 1) := q_o89 (by decide +kernel)
theorem dX10_feed_101 : decode cX10_feed 101 = .ok (.getfield 60, 3) := q_o180 (a := 0) (b := 60) (by decide +kernel)
theorem dX10_feed_104 : decode cX10_feed 104 = .ok (.iconst 1, 1) := q_o4 (by decide +kernel)
theorem dX10_feed_105 : decode cX10_feed 105 = .ok (.iadd, 1) := q_o96 (by decide +kernel)
theorem dX10_feed_106 : decode cX10_feed 106 = .ok (.putfield 60, 3) := q_o181 (a := 0) (b := 60) (by decide +kernel)
theorem dX10_feed_109 : decode cX10_feed 109 = .ok (.iinc 7 1, 3) := q_o132 (a := 7) (b := 1) (by decide +kernel) rfl
theorem dX10_feed_112 : decode cX10_feed 112 = .ok (.goto (-50), 3) := q_o167 (a := 255) (b := 206) (by decide +kernel) rfl
theorem dX10_feed_115 : decode cX10_feed 115 = .ok (.aload_n 0, 1) := q_o42 (by decide +kernel)
theorem dX10_feed_116 : decode cX10_feed 116 = .ok (.getfield 60, 3) := q_o180 (a := 0) (b := 60) (by decide +kernel)
theorem dX10_feed_119 : decode cX10_feed 119 = .ok (.ireturn, 1) := q_o172 (by decide +kernel)
theorem dX10_has_0 : decode cX10_has 0 = .ok (.iload_n 0, 1) := q_o26 (by decide +kernel)
theorem dX10_has_1 : decode cX10_has 1 = .ok (.iload_n 1, 1) := q_o27 (by decide +kernel)
theorem dX10_has_2 : decode cX10_has 2 = .ok (.ishr, 1) := by decide +kernel
theorem dX10_has_3 : decode cX10_has 3 = .ok (.iconst 1, 1) := q_o4 (by decide +kernel)
theorem dX10_has_4 : decode cX10_has 4 = .ok (.iand, 1) := q_o126 (by decide +kernel)
theorem dX10_has_5 : decode cX10_has 5 = .ok (.iconst 1, 1) := q_o4 (by decide +kernel)
theorem dX10_has_6 : decode cX10_has 6 = .ok (.if_icmp .ne 7, 3) := q_o160 (a := 0) (b := 7) (by decide +kernel) rfl
theorem dX10_has_9 : decode cX10_has 9 = .ok (.iconst 1, 1) := q_o4 (by decide +kernel)
theorem dX10_has_10 : decode cX10_has 10 = .ok (.goto 4, 3) := q_o167 (a := 0) (b := 4) (by decide +kernel) rfl
theorem dX10_has_13 : decode cX10_has 13 = .ok (.iconst 0, 1) := q_o3 (by decide +kernel)
theorem dX10_has_14 : decode cX10_has 14 = .ok (.ireturn, 1) := q_o172 (by decide +kernel)
theorem dX10_here_0 : decode cX10_here 0 = .ok (.aload_n 0, 1) := q_o42 (by decide +kernel)
theorem dX10_here_1 : decode cX10_here 1 = .ok (.getfield 67, 3) := q_o180 (a := 0) (b := 67) (by decide +kernel)
theorem dX10_here_4 : decode cX10_here 4 = .ok (.aload_n 0, 1) := q_o42 (by decide +kernel)
theorem dX10_here_5 : decode cX10_here 5 = .ok (.getfield 60, 3) := q_o180 (a := 0) (b := 60) (by decide +kernel)
theorem dX10_here_8 : decode cX10_here 8 = .ok (.if_icmp .ge 15, 3) := q_o162 (a := 0) (b := 15) (by decide +kernel) rfl
theorem dX10_here_11 : decode cX10_here 11 = .ok (.aload_n 0, 1) := q_o42 (by decide +kernel)
theorem dX10_here_12 : decode cX10_here 12 = .ok (.getfield 9, 3) := q_o180 (a := 0) (b := 9) (by decide +kernel)
theorem dX10_here_15 : decode cX10_here 15 = .ok (.aload_n 0, 1) := q_o42 (by decide +kernel)
theorem dX10_here_16 : decode cX10_here 16 = .ok (.getfield 67, 3) := q_o180 (a := 0) (b := 67) (by decide +kernel)
theorem dX10_here_19 : decode cX10_here 19 = .ok (.iaload, 1) := q_o46 (by decide +kernel)
theorem dX10_here_20 : decode cX10_here 20 = .ok (.goto 4, 3) := q_o167 (a := 0) (b := 4) (by decide +kernel) rfl
theorem dX10_here_23 : decode cX10_here 23 = .ok (.iconst (-1), 1) := q_o2 (by decide +kernel)
theorem dX10_here_24 : decode cX10_here 24 = .ok (.ireturn, 1) := q_o172 (by decide +kernel)
theorem dX10_highest_0 : decode cX10_highest 0 = .ok (.iload_n 0, 1) := q_o26 (by decide +kernel)
theorem dX10_highest_1 : decode cX10_highest 1 = .ok (.bipush 115, 2) := q_o16 (a := 115) (by decide +kernel) rfl
theorem dX10_highest_3 : decode cX10_highest 3 = .ok (.if_icmp .ne 59, 3) := q_o160 (a := 0) (b := 59) (by decide +kernel) rfl
theorem dX10_highest_6 : decode cX10_highest 6 = .ok (.iload_n 1, 1) := q_o27 (by decide +kernel)
theorem dX10_highest_7 : decode cX10_highest 7 = .ok (.tableswitch 52 0 6 #[41, 52, 52, 43, 52, 45, 49], 41) := by decide +kernel
theorem dX10_highest_48 : decode cX10_highest 48 = .ok (.iconst 4, 1) := q_o7 (by decide +kernel)
theorem dX10_highest_49 : decode cX10_highest 49 = .ok (.ireturn, 1) := q_o172 (by decide +kernel)
theorem dX10_highest_50 : decode cX10_highest 50 = .ok (.iconst 5, 1) := q_o8 (by decide +kernel)
theorem dX10_highest_51 : decode cX10_highest 51 = .ok (.ireturn, 1) := q_o172 (by decide +kernel)
theorem dX10_highest_52 : decode cX10_highest 52 = .ok (.sipush 200, 3) := q_o17 (a := 0) (b := 200) (by decide +kernel) rfl
theorem dX10_highest_55 : decode cX10_highest 55 = .ok (.ireturn, 1) := q_o172 (by decide +kernel)
theorem dX10_highest_56 : decode cX10_highest 56 = .ok (.bipush 99, 2) := q_o16 (a := 99) (by decide +kernel) rfl
theorem dX10_highest_58 : decode cX10_highest 58 = .ok (.ireturn, 1) := q_o172 (by decide +kernel)
theorem dX10_highest_59 : decode cX10_highest 59 = .ok (.bipush 9, 2) := q_o16 (a := 9) (by decide +kernel) rfl
theorem dX10_highest_61 : decode cX10_highest 61 = .ok (.ireturn, 1) := q_o172 (by decide +kernel)
theorem dX10_highest_62 : decode cX10_highest 62 = .ok (.iload_n 1, 1) := q_o27 (by decide +kernel)
theorem dX10_highest_63 : decode cX10_highest 63 = .ok (.tableswitch 45 0 4 #[33, 35, 37, 40, 42], 33) := by decide +kernel
theorem dX10_highest_96 : decode cX10_highest 96 = .ok (.iconst 4, 1) := q_o7 (by decide +kernel)
theorem dX10_highest_97 : decode cX10_highest 97 = .ok (.ireturn, 1) := q_o172 (by decide +kernel)
theorem dX10_highest_98 : decode cX10_highest 98 = .ok (.iconst 2, 1) := q_o5 (by decide +kernel)
theorem dX10_highest_99 : decode cX10_highest 99 = .ok (.ireturn, 1) := q_o172 (by decide +kernel)
theorem dX10_highest_100 : decode cX10_highest 100 = .ok (.bipush 9, 2) := q_o16 (a := 9) (by decide +kernel) rfl
theorem dX10_highest_102 : decode cX10_highest 102 = .ok (.ireturn, 1) := q_o172 (by decide +kernel)
theorem dX10_highest_103 : decode cX10_highest 103 = .ok (.iconst 1, 1) := q_o4 (by decide +kernel)
theorem dX10_highest_104 : decode cX10_highest 104 = .ok (.ireturn, 1) := q_o172 (by decide +kernel)
theorem dX10_highest_105 : decode cX10_highest 105 = .ok (.bipush 99, 2) := q_o16 (a := 99) (by decide +kernel) rfl
theorem dX10_highest_107 : decode cX10_highest 107 = .ok (.ireturn, 1) := q_o172 (by decide +kernel)
theorem dX10_highest_108 : decode cX10_highest 108 = .ok (.iconst 3, 1) := q_o6 (by decide +kernel)
theorem dX10_highest_109 : decode cX10_highest 109 = .ok (.ireturn, 1) := q_o172 (by decide +kernel)
theorem dX10_in_0 : decode cX10_in 0 = .ok (.iload_n 0, 1) := q_o26 (by decide +kernel)
theorem dX10_in_1 : decode cX10_in 1 = .ok (.iload_n 1, 1) := q_o27 (by decide +kernel)
theorem dX10_in_2 : decode cX10_in 2 = .ok (.if_icmp .lt 12, 3) := q_o161 (a := 0) (b := 12) (by decide +kernel) rfl
theorem dX10_in_5 : decode cX10_in 5 = .ok (.iload_n 0, 1) := q_o26 (by decide +kernel)
theorem dX10_in_6 : decode cX10_in 6 = .ok (.iload_n 2, 1) := q_o28 (by decide +kernel)
theorem dX10_in_7 : decode cX10_in 7 = .ok (.if_icmp .gt 7, 3) := q_o163 (a := 0) (b := 7) (by decide +kernel) rfl
theorem dX10_in_10 : decode cX10_in 10 = .ok (.iconst 1, 1) := q_o4 (by decide +kernel)
theorem dX10_in_11 : decode cX10_in 11 = .ok (.goto 4, 3) := q_o167 (a := 0) (b := 4) (by decide +kernel) rfl
theorem dX10_in_14 : decode cX10_in 14 = .ok (.iconst 0, 1) := q_o3 (by decide +kernel)
theorem dX10_in_15 : decode cX10_in 15 = .ok (.ireturn, 1) := q_o172 (by decide +kernel)
theorem dX10_isAsleep_0 : decode cX10_isAsleep 0 = .ok (.iload_n 1, 1) := q_o27 (by decide +kernel)
theorem dX10_isAsleep_1 : decode cX10_isAsleep 1 = .ok (.bipush 8, 2) := q_o16 (a := 8) (by decide +kernel) rfl
theorem dX10_isAsleep_3 : decode cX10_isAsleep 3 = .ok (.if_icmp .eq 20, 3) := q_o159 (a := 0) (b := 20) (by decide +kernel) rfl
theorem dX10_isAsleep_6 : decode cX10_isAsleep 6 = .ok (.aload_n 0, 1) := q_o42 (by decide +kernel)
theorem dX10_isAsleep_7 : decode cX10_isAsleep 7 = .ok (.getfield 31, 3) := q_o180 (a := 0) (b := 31) (by decide +kernel)
theorem dX10_isAsleep_10 : decode cX10_isAsleep 10 = .ok (.bipush 88, 2) := q_o16 (a := 88) (by decide +kernel) rfl
theorem dX10_isAsleep_12 : decode cX10_isAsleep 12 = .ok (.iload_n 1, 1) := q_o27 (by decide +kernel)
theorem dX10_isAsleep_13 : decode cX10_isAsleep 13 = .ok (.iadd, 1) := q_o96 (by decide +kernel)
theorem dX10_isAsleep_14 : decode cX10_isAsleep 14 = .ok (.iaload, 1) := q_o46 (by decide +kernel)
theorem dX10_isAsleep_15 : decode cX10_isAsleep 15 = .ok (.iconst 1, 1) := q_o4 (by decide +kernel)
theorem dX10_isAsleep_16 : decode cX10_isAsleep 16 = .ok (.if_icmp .ne 7, 3) := q_o160 (a := 0) (b := 7) (by decide +kernel) rfl
theorem dX10_isAsleep_19 : decode cX10_isAsleep 19 = .ok (.iconst 1, 1) := q_o4 (by decide +kernel)
theorem dX10_isAsleep_20 : decode cX10_isAsleep 20 = .ok (.goto 4, 3) := q_o167 (a := 0) (b := 4) (by decide +kernel) rfl
theorem dX10_isAsleep_23 : decode cX10_isAsleep 23 = .ok (.iconst 0, 1) := q_o3 (by decide +kernel)
theorem dX10_isAsleep_24 : decode cX10_isAsleep 24 = .ok (.ireturn, 1) := q_o172 (by decide +kernel)
theorem dX10_isDevice_0 : decode cX10_isDevice 0 = .ok (.iload_n 1, 1) := q_o27 (by decide +kernel)
theorem dX10_isDevice_1 : decode cX10_isDevice 1 = .ok (.iconst 0, 1) := q_o3 (by decide +kernel)
theorem dX10_isDevice_2 : decode cX10_isDevice 2 = .ok (.aload_n 0, 1) := q_o42 (by decide +kernel)
theorem dX10_isDevice_3 : decode cX10_isDevice 3 = .ok (.getfield 132, 3) := q_o180 (a := 0) (b := 132) (by decide +kernel)
theorem dX10_isDevice_6 : decode cX10_isDevice 6 = .ok (.iconst 1, 1) := q_o4 (by decide +kernel)
theorem dX10_isDevice_7 : decode cX10_isDevice 7 = .ok (.isub, 1) := q_o100 (by decide +kernel)
theorem dX10_isDevice_8 : decode cX10_isDevice 8 = .ok (.invokestatic 63, 3) := q_o184 (a := 0) (b := 63) (by decide +kernel)
theorem dX10_isDevice_11 : decode cX10_isDevice 11 = .ok (.ireturn, 1) := q_o172 (by decide +kernel)
theorem dX10_isDigit_0 : decode cX10_isDigit 0 = .ok (.iload_n 0, 1) := q_o26 (by decide +kernel)
theorem dX10_isDigit_1 : decode cX10_isDigit 1 = .ok (.bipush 48, 2) := q_o16 (a := 48) (by decide +kernel) rfl
theorem dX10_isDigit_3 : decode cX10_isDigit 3 = .ok (.if_icmp .lt 13, 3) := q_o161 (a := 0) (b := 13) (by decide +kernel) rfl
theorem dX10_isDigit_6 : decode cX10_isDigit 6 = .ok (.iload_n 0, 1) := q_o26 (by decide +kernel)
theorem dX10_isDigit_7 : decode cX10_isDigit 7 = .ok (.bipush 57, 2) := q_o16 (a := 57) (by decide +kernel) rfl
theorem dX10_isDigit_9 : decode cX10_isDigit 9 = .ok (.if_icmp .gt 7, 3) := q_o163 (a := 0) (b := 7) (by decide +kernel) rfl
theorem dX10_isDigit_12 : decode cX10_isDigit 12 = .ok (.iconst 1, 1) := q_o4 (by decide +kernel)
theorem dX10_isDigit_13 : decode cX10_isDigit 13 = .ok (.goto 4, 3) := q_o167 (a := 0) (b := 4) (by decide +kernel) rfl
theorem dX10_isDigit_16 : decode cX10_isDigit 16 = .ok (.iconst 0, 1) := q_o3 (by decide +kernel)
theorem dX10_isDigit_17 : decode cX10_isDigit 17 = .ok (.ireturn, 1) := q_o172 (by decide +kernel)
theorem dX10_isHub_0 : decode cX10_isHub 0 = .ok (.aload_n 0, 1) := q_o42 (by decide +kernel)
theorem dX10_isHub_1 : decode cX10_isHub 1 = .ok (.invokevirtual 135, 3) := q_o182 (a := 0) (b := 135) (by decide +kernel)
theorem dX10_isHub_4 : decode cX10_isHub 4 = .ok (.ifCond .eq 9, 3) := q_o153 (a := 0) (b := 9) (by decide +kernel) rfl
theorem dX10_isHub_7 : decode cX10_isHub 7 = .ok (.iload_n 1, 1) := q_o27 (by decide +kernel)
theorem dX10_isHub_8 : decode cX10_isHub 8 = .ok (.bipush 8, 2) := q_o16 (a := 8) (by decide +kernel) rfl
theorem dX10_isHub_10 : decode cX10_isHub 10 = .ok (.if_icmp .eq 20, 3) := q_o159 (a := 0) (b := 20) (by decide +kernel) rfl
theorem dX10_isHub_13 : decode cX10_isHub 13 = .ok (.aload_n 0, 1) := q_o42 (by decide +kernel)
theorem dX10_isHub_14 : decode cX10_isHub 14 = .ok (.iload_n 1, 1) := q_o27 (by decide +kernel)
theorem dX10_isHub_15 : decode cX10_isHub 15 = .ok (.invokevirtual 139, 3) := q_o182 (a := 0) (b := 139) (by decide +kernel)
theorem dX10_isHub_18 : decode cX10_isHub 18 = .ok (.ifCond .eq 16, 3) := q_o153 (a := 0) (b := 16) (by decide +kernel) rfl
theorem dX10_isHub_21 : decode cX10_isHub 21 = .ok (.aload_n 0, 1) := q_o42 (by decide +kernel)
theorem dX10_isHub_22 : decode cX10_isHub 22 = .ok (.iload_n 1, 1) := q_o27 (by decide +kernel)
theorem dX10_isHub_23 : decode cX10_isHub 23 = .ok (.iconst 0, 1) := q_o3 (by decide +kernel)
theorem dX10_isHub_24 : decode cX10_isHub 24 = .ok (.invokevirtual 142, 3) := q_o182 (a := 0) (b := 142) (by decide +kernel)
theorem dX10_isHub_27 : decode cX10_isHub 27 = .ok (.ifCond .le 7, 3) := q_o158 (a := 0) (b := 7) (by decide +kernel) rfl
theorem dX10_isHub_30 : decode cX10_isHub 30 = .ok (.iconst 1, 1) := q_o4 (by decide +kernel)
theorem dX10_isHub_31 : decode cX10_isHub 31 = .ok (.goto 4, 3) := q_o167 (a := 0) (b := 4) (by decide +kernel) rfl
theorem dX10_isHub_34 : decode cX10_isHub 34 = .ok (.iconst 0, 1) := q_o3 (by decide +kernel)
theorem dX10_isHub_35 : decode cX10_isHub 35 = .ok (.ireturn, 1) := q_o172 (by decide +kernel)
theorem dX10_isRunning_0 : decode cX10_isRunning 0 = .ok (.iload_n 1, 1) := q_o27 (by decide +kernel)
theorem dX10_isRunning_1 : decode cX10_isRunning 1 = .ok (.bipush 8, 2) := q_o16 (a := 8) (by decide +kernel) rfl
theorem dX10_isRunning_3 : decode cX10_isRunning 3 = .ok (.if_icmp .eq 13, 3) := q_o159 (a := 0) (b := 13) (by decide +kernel) rfl
theorem dX10_isRunning_6 : decode cX10_isRunning 6 = .ok (.aload_n 0, 1) := q_o42 (by decide +kernel)
theorem dX10_isRunning_7 : decode cX10_isRunning 7 = .ok (.iload_n 1, 1) := q_o27 (by decide +kernel)
theorem dX10_isRunning_8 : decode cX10_isRunning 8 = .ok (.invokevirtual 145, 3) := q_o182 (a := 0) (b := 145) (by decide +kernel)
theorem dX10_isRunning_11 : decode cX10_isRunning 11 = .ok (.bipush 6, 2) := q_o16 (a := 6) (by decide +kernel) rfl
theorem dX10_isRunning_13 : decode cX10_isRunning 13 = .ok (.if_icmp .ne 7, 3) := q_o160 (a := 0) (b := 7) (by decide +kernel) rfl
theorem dX10_isRunning_16 : decode cX10_isRunning 16 = .ok (.iconst 1, 1) := q_o4 (by decide +kernel)
theorem dX10_isRunning_17 : decode cX10_isRunning 17 = .ok (.goto 4, 3) := q_o167 (a := 0) (b := 4) (by decide +kernel) rfl
theorem dX10_isRunning_20 : decode cX10_isRunning 20 = .ok (.iconst 0, 1) := q_o3 (by decide +kernel)
theorem dX10_isRunning_21 : decode cX10_isRunning 21 = .ok (.ireturn, 1) := q_o172 (by decide +kernel)
theorem dX10_isTree_0 : decode cX10_isTree 0 = .ok (.aload_n 0, 1) := q_o42 (by decide +kernel)
theorem dX10_isTree_1 : decode cX10_isTree 1 = .ok (.getfield 132, 3) := q_o180 (a := 0) (b := 132) (by decide +kernel)
theorem dX10_isTree_4 : decode cX10_isTree 4 = .ok (.ifCond .le 7, 3) := q_o158 (a := 0) (b := 7) (by decide +kernel) rfl
theorem dX10_isTree_7 : decode cX10_isTree 7 = .ok (.iconst 1, 1) := q_o4 (by decide +kernel)
theorem dX10_isTree_8 : decode cX10_isTree 8 = .ok (.goto 4, 3) := q_o167 (a := 0) (b := 4) (by decide +kernel) rfl
theorem dX10_isTree_11 : decode cX10_isTree 11 = .ok (.iconst 0, 1) := q_o3 (by decide +kernel)
theorem dX10_isTree_12 : decode cX10_isTree 12 = .ok (.ireturn, 1) := q_o172 (by decide +kernel)
theorem dX10_itemOf_0 : decode cX10_itemOf 0 = .ok (.iload_n 0, 1) := q_o26 (by decide +kernel)
theorem dX10_itemOf_1 : decode cX10_itemOf 1 = .ok (.bipush 115, 2) := q_o16 (a := 115) (by decide +kernel) rfl
theorem dX10_itemOf_3 : decode cX10_itemOf 3 = .ok (.if_icmp .ne 137, 3) := q_o160 (a := 0) (b := 137) (by decide +kernel) rfl
theorem dX10_itemOf_6 : decode cX10_itemOf 6 = .ok (.iload_n 1, 1) := q_o27 (by decide +kernel)
theorem dX10_itemOf_7 : decode cX10_itemOf 7 = .ok (.tableswitch 131 97 121 #[128, 131, 131, 115, 131, 131, 131, 125, 131, 131, 131, 131, 123, 113, 131, 121, 131, 117, 131, 131, 131, 131, 131, 131, 119], 113) := by decide +kernel
theorem dX10_itemOf_120 : decode cX10_itemOf 120 = .ok (.iconst 0, 1) := q_o3 (by decide +kernel)
theorem dX10_itemOf_121 : decode cX10_itemOf 121 = .ok (.ireturn, 1) := q_o172 (by decide +kernel)
theorem dX10_itemOf_122 : decode cX10_itemOf 122 = .ok (.iconst 1, 1) := q_o4 (by decide +kernel)
theorem dX10_itemOf_123 : decode cX10_itemOf 123 = .ok (.ireturn, 1) := q_o172 (by decide +kernel)
theorem dX10_itemOf_124 : decode cX10_itemOf 124 = .ok (.iconst 2, 1) := q_o5 (by decide +kernel)
theorem dX10_itemOf_125 : decode cX10_itemOf 125 = .ok (.ireturn, 1) := q_o172 (by decide +kernel)
theorem dX10_itemOf_126 : decode cX10_itemOf 126 = .ok (.iconst 3, 1) := q_o6 (by decide +kernel)
theorem dX10_itemOf_127 : decode cX10_itemOf 127 = .ok (.ireturn, 1) := q_o172 (by decide +kernel)
theorem dX10_itemOf_128 : decode cX10_itemOf 128 = .ok (.iconst 4, 1) := q_o7 (by decide +kernel)
theorem dX10_itemOf_129 : decode cX10_itemOf 129 = .ok (.ireturn, 1) := q_o172 (by decide +kernel)
theorem dX10_itemOf_130 : decode cX10_itemOf 130 = .ok (.iconst 5, 1) := q_o8 (by decide +kernel)
theorem dX10_itemOf_131 : decode cX10_itemOf 131 = .ok (.ireturn, 1) := q_o172 (by decide +kernel)
theorem dX10_itemOf_132 : decode cX10_itemOf 132 = .ok (.bipush 6, 2) := q_o16 (a := 6) (by decide +kernel) rfl
theorem dX10_itemOf_134 : decode cX10_itemOf 134 = .ok (.ireturn, 1) := q_o172 (by decide +kernel)
theorem dX10_itemOf_135 : decode cX10_itemOf 135 = .ok (.bipush 7, 2) := q_o16 (a := 7) (by decide +kernel) rfl
theorem dX10_itemOf_137 : decode cX10_itemOf 137 = .ok (.ireturn, 1) := q_o172 (by decide +kernel)
theorem dX10_itemOf_138 : decode cX10_itemOf 138 = .ok (.iconst (-1), 1) := q_o2 (by decide +kernel)
theorem dX10_itemOf_139 : decode cX10_itemOf 139 = .ok (.ireturn, 1) := q_o172 (by decide +kernel)
theorem dX10_itemOf_140 : decode cX10_itemOf 140 = .ok (.iload_n 1, 1) := q_o27 (by decide +kernel)
theorem dX10_itemOf_141 : decode cX10_itemOf 141 = .ok (.tableswitch 107 98 117 #[103, 107, 107, 105, 107, 107, 107, 107, 107, 107, 107, 107, 95, 101, 107, 107, 107, 97, 107, 99], 95) := by decide +kernel
theorem dX10_itemOf_236 : decode cX10_itemOf 236 = .ok (.iconst 0, 1) := q_o3 (by decide +kernel)
theorem dX10_itemOf_237 : decode cX10_itemOf 237 = .ok (.ireturn, 1) := q_o172 (by decide +kernel)
theorem dX10_itemOf_238 : decode cX10_itemOf 238 = .ok (.iconst 1, 1) := q_o4 (by decide +kernel)
theorem dX10_itemOf_239 : decode cX10_itemOf 239 = .ok (.ireturn, 1) := q_o172 (by decide +kernel)
theorem dX10_itemOf_240 : decode cX10_itemOf 240 = .ok (.iconst 2, 1) := q_o5 (by decide +kernel)
theorem dX10_itemOf_241 : decode cX10_itemOf 241 = .ok (.ireturn, 1) := q_o172 (by decide +kernel)
theorem dX10_itemOf_242 : decode cX10_itemOf 242 = .ok (.iconst 3, 1) := q_o6 (by decide +kernel)
theorem dX10_itemOf_243 : decode cX10_itemOf 243 = .ok (.ireturn, 1) := q_o172 (by decide +kernel)
theorem dX10_itemOf_244 : decode cX10_itemOf 244 = .ok (.iconst 4, 1) := q_o7 (by decide +kernel)
theorem dX10_itemOf_245 : decode cX10_itemOf 245 = .ok (.ireturn, 1) := q_o172 (by decide +kernel)
theorem dX10_itemOf_246 : decode cX10_itemOf 246 = .ok (.iconst 5, 1) := q_o8 (by decide +kernel)
theorem dX10_itemOf_247 : decode cX10_itemOf 247 = .ok (.ireturn, 1) := q_o172 (by decide +kernel)
theorem dX10_itemOf_248 : decode cX10_itemOf 248 = .ok (.iconst (-1), 1) := q_o2 (by decide +kernel)
theorem dX10_itemOf_249 : decode cX10_itemOf 249 = .ok (.ireturn, 1) := q_o172 (by decide +kernel)
theorem dX10_items_0 : decode cX10_items 0 = .ok (.iconst 0, 1) := q_o3 (by decide +kernel)
theorem dX10_items_1 : decode cX10_items 1 = .ok (.istore 5, 2) := q_o54 (a := 5) (by decide +kernel)
theorem dX10_items_3 : decode cX10_items 3 = .ok (.iload 5, 2) := q_o21 (a := 5) (by decide +kernel)
theorem dX10_items_5 : decode cX10_items 5 = .ok (.iload 4, 2) := q_o21 (a := 4) (by decide +kernel)
theorem dX10_items_7 : decode cX10_items 7 = .ok (.if_icmp .ge 21, 3) := q_o162 (a := 0) (b := 21) (by decide +kernel) rfl
theorem dX10_items_10 : decode cX10_items 10 = .ok (.aload_n 2, 1) := q_o44 (by decide +kernel)
theorem dX10_items_11 : decode cX10_items 11 = .ok (.iload_n 3, 1) := q_o29 (by decide +kernel)
theorem dX10_items_12 : decode cX10_items 12 = .ok (.iload 5, 2) := q_o21 (a := 5) (by decide +kernel)
theorem dX10_items_14 : decode cX10_items 14 = .ok (.iadd, 1) := q_o96 (by decide +kernel)
theorem dX10_items_15 : decode cX10_items 15 = .ok (.iload_n 1, 1) := q_o27 (by decide +kernel)
theorem dX10_items_16 : decode cX10_items 16 = .ok (.iload 5, 2) := q_o21 (a := 5) (by decide +kernel)
theorem dX10_items_18 : decode cX10_items 18 = .ok (.invokestatic 87, 3) := q_o184 (a := 0) (b := 87) (by decide +kernel)
theorem dX10_items_21 : decode cX10_items 21 = .ok (.iastore, 1) := q_o79 (by decide +kernel)
theorem dX10_items_22 : decode cX10_items 22 = .ok (.iinc 5 1, 3) := q_o132 (a := 5) (b := 1) (by decide +kernel) rfl
theorem dX10_items_25 : decode cX10_items 25 = .ok (.goto (-22), 3) := q_o167 (a := 255) (b := 234) (by decide +kernel) rfl
theorem dX10_items_28 : decode cX10_items 28 = .ok (.iconst 0, 1) := q_o3 (by decide +kernel)
theorem dX10_items_29 : decode cX10_items 29 = .ok (.istore 5, 2) := q_o54 (a := 5) (by decide +kernel)
theorem dX10_items_31 : decode cX10_items 31 = .ok (.iload_n 1, 1) := q_o27 (by decide +kernel)
theorem dX10_items_32 : decode cX10_items 32 = .ok (.aload_n 0, 1) := q_o42 (by decide +kernel)
theorem dX10_items_33 : decode cX10_items 33 = .ok (.invokevirtual 77, 3) := q_o182 (a := 0) (b := 77) (by decide +kernel)
theorem dX10_items_36 : decode cX10_items 36 = .ok (.invokestatic 91, 3) := q_o184 (a := 0) (b := 91) (by decide +kernel)
theorem dX10_items_39 : decode cX10_items 39 = .ok (.istore 6, 2) := q_o54 (a := 6) (by decide +kernel)
theorem dX10_items_41 : decode cX10_items 41 = .ok (.aload_n 0, 1) := q_o42 (by decide +kernel)
theorem dX10_items_42 : decode cX10_items 42 = .ok (.getfield 74, 3) := q_o180 (a := 0) (b := 74) (by decide +kernel)
theorem dX10_items_45 : decode cX10_items 45 = .ok (.iconst (-1), 1) := q_o2 (by decide +kernel)
theorem dX10_items_46 : decode cX10_items 46 = .ok (.if_icmp .ne 86, 3) := q_o160 (a := 0) (b := 86) (by decide +kernel) rfl
theorem dX10_items_49 : decode cX10_items 49 = .ok (.iload 6, 2) := q_o21 (a := 6) (by decide +kernel)
theorem dX10_items_51 : decode cX10_items 51 = .ok (.iconst (-1), 1) := q_o2 (by decide +kernel)
theorem dX10_items_52 : decode cX10_items 52 = .ok (.if_icmp .eq 80, 3) := q_o159 (a := 0) (b := 80) (by decide +kernel) rfl
theorem dX10_items_55 : decode cX10_items 55 = .ok (.iload 5, 2) := q_o21 (a := 5) (by decide +kernel)
theorem dX10_items_57 : decode cX10_items 57 = .ok (.iload 6, 2) := q_o21 (a := 6) (by decide +kernel)
theorem dX10_items_59 : decode cX10_items 59 = .ok (.invokestatic 94, 3) := q_o184 (a := 0) (b := 94) (by decide +kernel)
theorem dX10_items_62 : decode cX10_items 62 = .ok (.ifCond .ne 70, 3) := q_o154 (a := 0) (b := 70) (by decide +kernel) rfl
theorem dX10_items_65 : decode cX10_items 65 = .ok (.iload 5, 2) := q_o21 (a := 5) (by decide +kernel)
theorem dX10_items_67 : decode cX10_items 67 = .ok (.iconst 1, 1) := q_o4 (by decide +kernel)
theorem dX10_items_68 : decode cX10_items 68 = .ok (.iload 6, 2) := q_o21 (a := 6) (by decide +kernel)
theorem dX10_items_70 : decode cX10_items 70 = .ok (.ishl, 1) := by decide +kernel
theorem dX10_items_71 : decode cX10_items 71 = .ok (.ior, 1) := by decide +kernel
theorem dX10_items_72 : decode cX10_items 72 = .ok (.istore 5, 2) := q_o54 (a := 5) (by decide +kernel)
theorem dX10_items_74 : decode cX10_items 74 = .ok (.aload_n 0, 1) := q_o42 (by decide +kernel)
theorem dX10_items_75 : decode cX10_items 75 = .ok (.dup, 1) := q_o89 (by decide +kernel)
theorem dX10_items_76 : decode cX10_items 76 = .ok (.getfield 67, 3) := q_o180 (a := 0) (b := 67) (by decide +kernel)
theorem dX10_items_79 : decode cX10_items 79 = .ok (.iconst 1, 1) := q_o4 (by decide +kernel)
theorem dX10_items_80 : decode cX10_items 80 = .ok (.iadd, 1) := q_o96 (by decide +kernel)
theorem dX10_items_81 : decode cX10_items 81 = .ok (.putfield 67, 3) := q_o181 (a := 0) (b := 67) (by decide +kernel)
theorem dX10_items_84 : decode cX10_items 84 = .ok (.aload_n 2, 1) := q_o44 (by decide +kernel)
theorem dX10_items_85 : decode cX10_items 85 = .ok (.iload_n 3, 1) := q_o29 (by decide +kernel)
theorem dX10_items_86 : decode cX10_items 86 = .ok (.iload 6, 2) := q_o21 (a := 6) (by decide +kernel)
theorem dX10_items_88 : decode cX10_items 88 = .ok (.iadd, 1) := q_o96 (by decide +kernel)
theorem dX10_items_89 : decode cX10_items 89 = .ok (.aload_n 0, 1) := q_o42 (by decide +kernel)
theorem dX10_items_90 : decode cX10_items 90 = .ok (.iconst 3, 1) := q_o6 (by decide +kernel)
theorem dX10_items_91 : decode cX10_items 91 = .ok (.iload_n 1, 1) := q_o27 (by decide +kernel)
theorem dX10_items_92 : decode cX10_items 92 = .ok (.iload 6, 2) := q_o21 (a := 6) (by decide +kernel)
theorem dX10_items_94 : decode cX10_items 94 = .ok (.invokestatic 98, 3) := q_o184 (a := 0) (b := 98) (by decide +kernel)
theorem dX10_items_97 : decode cX10_items 97 = .ok (.iload_n 1, 1) := q_o27 (by decide +kernel)
theorem dX10_items_98 : decode cX10_items 98 = .ok (.iload 6, 2) := q_o21 (a := 6) (by decide +kernel)
theorem dX10_items_100 : decode cX10_items 100 = .ok (.invokestatic 101, 3) := q_o184 (a := 0) (b := 101) (by decide +kernel)
theorem dX10_items_103 : decode cX10_items 103 = .ok (.invokevirtual 104, 3) := q_o182 (a := 0) (b := 104) (by decide +kernel)
theorem dX10_items_106 : decode cX10_items 106 = .ok (.iastore, 1) := q_o79 (by decide +kernel)
theorem dX10_items_107 : decode cX10_items 107 = .ok (.aload_n 0, 1) := q_o42 (by decide +kernel)
theorem dX10_items_108 : decode cX10_items 108 = .ok (.getfield 74, 3) := q_o180 (a := 0) (b := 74) (by decide +kernel)
theorem dX10_items_111 : decode cX10_items 111 = .ok (.iconst (-1), 1) := q_o2 (by decide +kernel)
theorem dX10_items_112 : decode cX10_items 112 = .ok (.if_icmp .ne 14, 3) := q_o160 (a := 0) (b := 14) (by decide +kernel) rfl
theorem dX10_items_115 : decode cX10_items 115 = .ok (.iload_n 1, 1) := q_o27 (by decide +kernel)
theorem dX10_items_116 : decode cX10_items 116 = .ok (.aload_n 0, 1) := q_o42 (by decide +kernel)
theorem dX10_items_117 : decode cX10_items 117 = .ok (.invokevirtual 77, 3) := q_o182 (a := 0) (b := 77) (by decide +kernel)
theorem dX10_items_120 : decode cX10_items 120 = .ok (.invokestatic 91, 3) := q_o184 (a := 0) (b := 91) (by decide +kernel)
theorem dX10_items_123 : decode cX10_items 123 = .ok (.goto 4, 3) := q_o167 (a := 0) (b := 4) (by decide +kernel) rfl
theorem dX10_items_126 : decode cX10_items 126 = .ok (.iconst (-1), 1) := q_o2 (by decide +kernel)
theorem dX10_items_127 : decode cX10_items 127 = .ok (.istore 6, 2) := q_o54 (a := 6) (by decide +kernel)
theorem dX10_items_129 : decode cX10_items 129 = .ok (.goto (-88), 3) := q_o167 (a := 255) (b := 168) (by decide +kernel) rfl
theorem dX10_items_132 : decode cX10_items 132 = .ok (.return_, 1) := q_o177 (by decide +kernel)
theorem dX10_lowest_0 : decode cX10_lowest 0 = .ok (.iload_n 0, 1) := q_o26 (by decide +kernel)
theorem dX10_lowest_1 : decode cX10_lowest 1 = .ok (.bipush 100, 2) := q_o16 (a := 100) (by decide +kernel) rfl
theorem dX10_lowest_3 : decode cX10_lowest 3 = .ok (.if_icmp .ne 7, 3) := q_o160 (a := 0) (b := 7) (by decide +kernel) rfl
theorem dX10_lowest_6 : decode cX10_lowest 6 = .ok (.iconst 0, 1) := q_o3 (by decide +kernel)
theorem dX10_lowest_7 : decode cX10_lowest 7 = .ok (.goto 25, 3) := q_o167 (a := 0) (b := 25) (by decide +kernel) rfl
theorem dX10_lowest_10 : decode cX10_lowest 10 = .ok (.iload_n 1, 1) := q_o27 (by decide +kernel)
theorem dX10_lowest_11 : decode cX10_lowest 11 = .ok (.iconst 5, 1) := q_o8 (by decide +kernel)
theorem dX10_lowest_12 : decode cX10_lowest 12 = .ok (.if_icmp .ne 8, 3) := q_o160 (a := 0) (b := 8) (by decide +kernel) rfl
theorem dX10_lowest_15 : decode cX10_lowest 15 = .ok (.bipush 20, 2) := q_o16 (a := 20) (by decide +kernel) rfl
theorem dX10_lowest_17 : decode cX10_lowest 17 = .ok (.goto 15, 3) := q_o167 (a := 0) (b := 15) (by decide +kernel) rfl
theorem dX10_lowest_20 : decode cX10_lowest 20 = .ok (.iload_n 1, 1) := q_o27 (by decide +kernel)
theorem dX10_lowest_21 : decode cX10_lowest 21 = .ok (.bipush 6, 2) := q_o16 (a := 6) (by decide +kernel) rfl
theorem dX10_lowest_23 : decode cX10_lowest 23 = .ok (.if_icmp .ne 8, 3) := q_o160 (a := 0) (b := 8) (by decide +kernel) rfl
theorem dX10_lowest_26 : decode cX10_lowest 26 = .ok (.bipush 10, 2) := q_o16 (a := 10) (by decide +kernel) rfl
theorem dX10_lowest_28 : decode cX10_lowest 28 = .ok (.goto 4, 3) := q_o167 (a := 0) (b := 4) (by decide +kernel) rfl
theorem dX10_lowest_31 : decode cX10_lowest 31 = .ok (.iconst 1, 1) := q_o4 (by decide +kernel)
theorem dX10_lowest_32 : decode cX10_lowest 32 = .ok (.ireturn, 1) := q_o172 (by decide +kernel)
theorem dX10_number_0 : decode cX10_number 0 = .ok (.aload_n 0, 1) := q_o42 (by decide +kernel)
theorem dX10_number_1 : decode cX10_number 1 = .ok (.invokevirtual 77, 3) := q_o182 (a := 0) (b := 77) (by decide +kernel)
theorem dX10_number_4 : decode cX10_number 4 = .ok (.invokestatic 80, 3) := q_o184 (a := 0) (b := 80) (by decide +kernel)
theorem dX10_number_7 : decode cX10_number 7 = .ok (.ifCond .ne 9, 3) := q_o154 (a := 0) (b := 9) (by decide +kernel) rfl
theorem dX10_number_10 : decode cX10_number 10 = .ok (.aload_n 0, 1) := q_o42 (by decide +kernel)
theorem dX10_number_11 : decode cX10_number 11 = .ok (.invokevirtual 84, 3) := q_o182 (a := 0) (b := 84) (by decide +kernel)
theorem dX10_number_14 : decode cX10_number 14 = .ok (.iload_n 2, 1) := q_o28 (by decide +kernel)
theorem dX10_number_15 : decode cX10_number 15 = .ok (.ireturn, 1) := q_o172 (by decide +kernel)
theorem dX10_number_16 : decode cX10_number 16 = .ok (.iconst 0, 1) := q_o3 (by decide +kernel)
theorem dX10_number_17 : decode cX10_number 17 = .ok (.istore 4, 2) := q_o54 (a := 4) (by decide +kernel)
theorem dX10_number_19 : decode cX10_number 19 = .ok (.iconst 0, 1) := q_o3 (by decide +kernel)
theorem dX10_number_20 : decode cX10_number 20 = .ok (.istore 5, 2) := q_o54 (a := 5) (by decide +kernel)
theorem dX10_number_22 : decode cX10_number 22 = .ok (.iload 5, 2) := q_o21 (a := 5) (by decide +kernel)
theorem dX10_number_24 : decode cX10_number 24 = .ok (.iload_n 1, 1) := q_o27 (by decide +kernel)
theorem dX10_number_25 : decode cX10_number 25 = .ok (.if_icmp .ge 44, 3) := q_o162 (a := 0) (b := 44) (by decide +kernel) rfl
theorem dX10_number_28 : decode cX10_number 28 = .ok (.aload_n 0, 1) := q_o42 (by decide +kernel)
theorem dX10_number_29 : decode cX10_number 29 = .ok (.invokevirtual 70, 3) := q_o182 (a := 0) (b := 70) (by decide +kernel)
theorem dX10_number_32 : decode cX10_number 32 = .ok (.invokestatic 80, 3) := q_o184 (a := 0) (b := 80) (by decide +kernel)
theorem dX10_number_35 : decode cX10_number 35 = .ok (.ifCond .eq 34, 3) := q_o153 (a := 0) (b := 34) (by decide +kernel) rfl
theorem dX10_number_38 : decode cX10_number 38 = .ok (.bipush 10, 2) := q_o16 (a := 10) (by decide +kernel) rfl
theorem dX10_number_40 : decode cX10_number 40 = .ok (.iload 4, 2) := q_o21 (a := 4) (by decide +kernel)
theorem dX10_number_42 : decode cX10_number 42 = .ok (.imul, 1) := q_o104 (by decide +kernel)
theorem dX10_number_43 : decode cX10_number 43 = .ok (.aload_n 0, 1) := q_o42 (by decide +kernel)
theorem dX10_number_44 : decode cX10_number 44 = .ok (.invokevirtual 70, 3) := q_o182 (a := 0) (b := 70) (by decide +kernel)
theorem dX10_number_47 : decode cX10_number 47 = .ok (.iadd, 1) := q_o96 (by decide +kernel)
theorem dX10_number_48 : decode cX10_number 48 = .ok (.bipush 48, 2) := q_o16 (a := 48) (by decide +kernel) rfl
theorem dX10_number_50 : decode cX10_number 50 = .ok (.isub, 1) := q_o100 (by decide +kernel)
theorem dX10_number_51 : decode cX10_number 51 = .ok (.istore 4, 2) := q_o54 (a := 4) (by decide +kernel)
theorem dX10_number_53 : decode cX10_number 53 = .ok (.aload_n 0, 1) := q_o42 (by decide +kernel)
theorem dX10_number_54 : decode cX10_number 54 = .ok (.dup, 1) := q_o89 (by decide +kernel)
theorem dX10_number_55 : decode cX10_number 55 = .ok (.getfield 67, 3) := q_o180 (a := 0) (b := 67) (by decide +kernel)
theorem dX10_number_58 : decode cX10_number 58 = .ok (.iconst 1, 1) := q_o4 (by decide +kernel)
theorem dX10_number_59 : decode cX10_number 59 = .ok (.iadd, 1) := q_o96 (by decide +kernel)
theorem dX10_number_60 : decode cX10_number 60 = .ok (.putfield 67, 3) := q_o181 (a := 0) (b := 67) (by decide +kernel)
theorem dX10_number_63 : decode cX10_number 63 = .ok (.iinc 5 1, 3) := q_o132 (a := 5) (b := 1) (by decide +kernel) rfl
theorem dX10_number_66 : decode cX10_number 66 = .ok (.goto (-44), 3) := q_o167 (a := 255) (b := 212) (by decide +kernel) rfl
theorem dX10_number_69 : decode cX10_number 69 = .ok (.aload_n 0, 1) := q_o42 (by decide +kernel)
theorem dX10_number_70 : decode cX10_number 70 = .ok (.invokevirtual 70, 3) := q_o182 (a := 0) (b := 70) (by decide +kernel)
theorem dX10_number_73 : decode cX10_number 73 = .ok (.invokestatic 80, 3) := q_o184 (a := 0) (b := 80) (by decide +kernel)
theorem dX10_number_76 : decode cX10_number 76 = .ok (.ifCond .eq 10, 3) := q_o153 (a := 0) (b := 10) (by decide +kernel) rfl
theorem dX10_number_79 : decode cX10_number 79 = .ok (.aload_n 0, 1) := q_o42 (by decide +kernel)
theorem dX10_number_80 : decode cX10_number 80 = .ok (.invokevirtual 84, 3) := q_o182 (a := 0) (b := 84) (by decide +kernel)
theorem dX10_number_83 : decode cX10_number 83 = .ok (.goto 27, 3) := q_o167 (a := 0) (b := 27) (by decide +kernel) rfl
theorem dX10_number_86 : decode cX10_number 86 = .ok (.iload 4, 2) := q_o21 (a := 4) (by decide +kernel)
theorem dX10_number_88 : decode cX10_number 88 = .ok (.iload_n 2, 1) := q_o28 (by decide +kernel)
theorem dX10_number_89 : decode cX10_number 89 = .ok (.iload_n 3, 1) := q_o29 (by decide +kernel)
theorem dX10_number_90 : decode cX10_number 90 = .ok (.invokestatic 63, 3) := q_o184 (a := 0) (b := 63) (by decide +kernel)
theorem dX10_number_93 : decode cX10_number 93 = .ok (.ifCond .ne 17, 3) := q_o154 (a := 0) (b := 17) (by decide +kernel) rfl
theorem dX10_number_96 : decode cX10_number 96 = .ok (.aload_n 0, 1) := q_o42 (by decide +kernel)
theorem dX10_number_97 : decode cX10_number 97 = .ok (.dup, 1) := q_o89 (by decide +kernel)
theorem dX10_number_98 : decode cX10_number 98 = .ok (.getfield 67, 3) := q_o180 (a := 0) (b := 67) (by decide +kernel)
theorem dX10_number_101 : decode cX10_number 101 = .ok (.iconst 1, 1) := q_o4 (by decide +kernel)
theorem dX10_number_102 : decode cX10_number 102 = .ok (.isub, 1) := q_o100 (by decide +kernel)
theorem dX10_number_103 : decode cX10_number 103 = .ok (.putfield 67, 3) := q_o181 (a := 0) (b := 67) (by decide +kernel)
theorem dX10_number_106 : decode cX10_number 106 = .ok (.aload_n 0, 1) := q_o42 (by decide +kernel)
theorem dX10_number_107 : decode cX10_number 107 = .ok (.invokevirtual 84, 3) := q_o182 (a := 0) (b := 84) (by decide +kernel)
theorem dX10_number_110 : decode cX10_number 110 = .ok (.iload 4, 2) := q_o21 (a := 4) (by decide +kernel)
theorem dX10_number_112 : decode cX10_number 112 = .ok (.ireturn, 1) := q_o172 (by decide +kernel)
theorem dX10_portsOf_0 : decode cX10_portsOf 0 = .ok (.iload_n 1, 1) := q_o27 (by decide +kernel)
theorem dX10_portsOf_1 : decode cX10_portsOf 1 = .ok (.bipush 8, 2) := q_o16 (a := 8) (by decide +kernel) rfl
theorem dX10_portsOf_3 : decode cX10_portsOf 3 = .ok (.if_icmp .ne 12, 3) := q_o160 (a := 0) (b := 12) (by decide +kernel) rfl
theorem dX10_portsOf_6 : decode cX10_portsOf 6 = .ok (.aload_n 0, 1) := q_o42 (by decide +kernel)
theorem dX10_portsOf_7 : decode cX10_portsOf 7 = .ok (.getfield 19, 3) := q_o180 (a := 0) (b := 19) (by decide +kernel)
theorem dX10_portsOf_10 : decode cX10_portsOf 10 = .ok (.iconst 0, 1) := q_o3 (by decide +kernel)
theorem dX10_portsOf_11 : decode cX10_portsOf 11 = .ok (.iaload, 1) := q_o46 (by decide +kernel)
theorem dX10_portsOf_12 : decode cX10_portsOf 12 = .ok (.goto 9, 3) := q_o167 (a := 0) (b := 9) (by decide +kernel) rfl
theorem dX10_portsOf_15 : decode cX10_portsOf 15 = .ok (.aload_n 0, 1) := q_o42 (by decide +kernel)
theorem dX10_portsOf_16 : decode cX10_portsOf 16 = .ok (.iload_n 1, 1) := q_o27 (by decide +kernel)
theorem dX10_portsOf_17 : decode cX10_portsOf 17 = .ok (.iconst 0, 1) := q_o3 (by decide +kernel)
theorem dX10_portsOf_18 : decode cX10_portsOf 18 = .ok (.invokevirtual 142, 3) := q_o182 (a := 0) (b := 142) (by decide +kernel)
theorem dX10_portsOf_21 : decode cX10_portsOf 21 = .ok (.ireturn, 1) := q_o172 (by decide +kernel)
theorem dX10_readScript_0 : decode cX10_readScript 0 = .ok (.aload_n 0, 1) := q_o42 (by decide +kernel)
theorem dX10_readScript_1 : decode cX10_readScript 1 = .ok (.iconst 0, 1) := q_o3 (by decide +kernel)
theorem dX10_readScript_2 : decode cX10_readScript 2 = .ok (.putfield 67, 3) := q_o181 (a := 0) (b := 67) (by decide +kernel)
theorem dX10_readScript_5 : decode cX10_readScript 5 = .ok (.aload_n 0, 1) := q_o42 (by decide +kernel)
theorem dX10_readScript_6 : decode cX10_readScript 6 = .ok (.iconst (-1), 1) := q_o2 (by decide +kernel)
theorem dX10_readScript_7 : decode cX10_readScript 7 = .ok (.putfield 74, 3) := q_o181 (a := 0) (b := 74) (by decide +kernel)
theorem dX10_readScript_10 : decode cX10_readScript 10 = .ok (.aload_n 0, 1) := q_o42 (by decide +kernel)
theorem dX10_readScript_11 : decode cX10_readScript 11 = .ok (.getfield 28, 3) := q_o180 (a := 0) (b := 28) (by decide +kernel)
theorem dX10_readScript_14 : decode cX10_readScript 14 = .ok (.iload_n 1, 1) := q_o27 (by decide +kernel)
theorem dX10_readScript_15 : decode cX10_readScript 15 = .ok (.iconst 0, 1) := q_o3 (by decide +kernel)
theorem dX10_readScript_16 : decode cX10_readScript 16 = .ok (.iastore, 1) := q_o79 (by decide +kernel)
theorem dX10_readScript_17 : decode cX10_readScript 17 = .ok (.iconst 1, 1) := q_o4 (by decide +kernel)
theorem dX10_readScript_18 : decode cX10_readScript 18 = .ok (.istore_n 2, 1) := q_o61 (by decide +kernel)
theorem dX10_readScript_19 : decode cX10_readScript 19 = .ok (.iload_n 2, 1) := q_o28 (by decide +kernel)
theorem dX10_readScript_20 : decode cX10_readScript 20 = .ok (.ifCond .eq 85, 3) := q_o153 (a := 0) (b := 85) (by decide +kernel) rfl
theorem dX10_readScript_23 : decode cX10_readScript 23 = .ok (.aload_n 0, 1) := q_o42 (by decide +kernel)
theorem dX10_readScript_24 : decode cX10_readScript 24 = .ok (.iconst 4, 1) := q_o7 (by decide +kernel)
theorem dX10_readScript_25 : decode cX10_readScript 25 = .ok (.bipush 16, 2) := q_o16 (a := 16) (by decide +kernel) rfl
theorem dX10_readScript_27 : decode cX10_readScript 27 = .ok (.iload_n 1, 1) := q_o27 (by decide +kernel)
theorem dX10_readScript_28 : decode cX10_readScript 28 = .ok (.imul, 1) := q_o104 (by decide +kernel)
theorem dX10_readScript_29 : decode cX10_readScript 29 = .ok (.aload_n 0, 1) := q_o42 (by decide +kernel)
theorem dX10_readScript_30 : decode cX10_readScript 30 = .ok (.getfield 28, 3) := q_o180 (a := 0) (b := 28) (by decide +kernel)
theorem dX10_readScript_33 : decode cX10_readScript 33 = .ok (.iload_n 1, 1) := q_o27 (by decide +kernel)
theorem dX10_readScript_34 : decode cX10_readScript 34 = .ok (.iaload, 1) := q_o46 (by decide +kernel)
theorem dX10_readScript_35 : decode cX10_readScript 35 = .ok (.iadd, 1) := q_o96 (by decide +kernel)
theorem dX10_readScript_36 : decode cX10_readScript 36 = .ok (.imul, 1) := q_o104 (by decide +kernel)
theorem dX10_readScript_37 : decode cX10_readScript 37 = .ok (.invokevirtual 122, 3) := q_o182 (a := 0) (b := 122) (by decide +kernel)
theorem dX10_readScript_40 : decode cX10_readScript 40 = .ok (.aload_n 0, 1) := q_o42 (by decide +kernel)
theorem dX10_readScript_41 : decode cX10_readScript 41 = .ok (.getfield 28, 3) := q_o180 (a := 0) (b := 28) (by decide +kernel)
theorem dX10_readScript_44 : decode cX10_readScript 44 = .ok (.iload_n 1, 1) := q_o27 (by decide +kernel)
theorem dX10_readScript_45 : decode cX10_readScript 45 = .ok (.dup2, 1) := by decide +kernel
theorem dX10_readScript_46 : decode cX10_readScript 46 = .ok (.iaload, 1) := q_o46 (by decide +kernel)
theorem dX10_readScript_47 : decode cX10_readScript 47 = .ok (.iconst 1, 1) := q_o4 (by decide +kernel)
theorem dX10_readScript_48 : decode cX10_readScript 48 = .ok (.iadd, 1) := q_o96 (by decide +kernel)
theorem dX10_readScript_49 : decode cX10_readScript 49 = .ok (.iastore, 1) := q_o79 (by decide +kernel)
theorem dX10_readScript_50 : decode cX10_readScript 50 = .ok (.aload_n 0, 1) := q_o42 (by decide +kernel)
theorem dX10_readScript_51 : decode cX10_readScript 51 = .ok (.getfield 74, 3) := q_o180 (a := 0) (b := 74) (by decide +kernel)
theorem dX10_readScript_54 : decode cX10_readScript 54 = .ok (.iconst (-1), 1) := q_o2 (by decide +kernel)
theorem dX10_readScript_55 : decode cX10_readScript 55 = .ok (.if_icmp .ne 27, 3) := q_o160 (a := 0) (b := 27) (by decide +kernel) rfl
theorem dX10_readScript_58 : decode cX10_readScript 58 = .ok (.aload_n 0, 1) := q_o42 (by decide +kernel)
theorem dX10_readScript_59 : decode cX10_readScript 59 = .ok (.invokevirtual 77, 3) := q_o182 (a := 0) (b := 77) (by decide +kernel)
theorem dX10_readScript_62 : decode cX10_readScript 62 = .ok (.bipush 59, 2) := q_o16 (a := 59) (by decide +kernel) rfl
theorem dX10_readScript_64 : decode cX10_readScript 64 = .ok (.if_icmp .ne 18, 3) := q_o160 (a := 0) (b := 18) (by decide +kernel) rfl
theorem dX10_readScript_67 : decode cX10_readScript 67 = .ok (.aload_n 0, 1) := q_o42 (by decide +kernel)
theorem dX10_readScript_68 : decode cX10_readScript 68 = .ok (.getfield 28, 3) := q_o180 (a := 0) (b := 28) (by decide +kernel)
theorem dX10_readScript_71 : decode cX10_readScript 71 = .ok (.iload_n 1, 1) := q_o27 (by decide +kernel)
theorem dX10_readScript_72 : decode cX10_readScript 72 = .ok (.iaload, 1) := q_o46 (by decide +kernel)
theorem dX10_readScript_73 : decode cX10_readScript 73 = .ok (.bipush 16, 2) := q_o16 (a := 16) (by decide +kernel) rfl
theorem dX10_readScript_75 : decode cX10_readScript 75 = .ok (.if_icmp .ge 7, 3) := q_o162 (a := 0) (b := 7) (by decide +kernel) rfl
theorem dX10_readScript_78 : decode cX10_readScript 78 = .ok (.iconst 1, 1) := q_o4 (by decide +kernel)
theorem dX10_readScript_79 : decode cX10_readScript 79 = .ok (.goto 4, 3) := q_o167 (a := 0) (b := 4) (by decide +kernel) rfl
theorem dX10_readScript_82 : decode cX10_readScript 82 = .ok (.iconst 0, 1) := q_o3 (by decide +kernel)
theorem dX10_readScript_83 : decode cX10_readScript 83 = .ok (.istore_n 2, 1) := q_o61 (by decide +kernel)
theorem dX10_readScript_84 : decode cX10_readScript 84 = .ok (.aload_n 0, 1) := q_o42 (by decide +kernel)
theorem dX10_readScript_85 : decode cX10_readScript 85 = .ok (.dup, 1) := q_o89 (by decide +kernel)
theorem dX10_readScript_86 : decode cX10_readScript 86 = .ok (.getfield 67, 3) := q_o180 (a := 0) (b := 67) (by decide +kernel)
theorem dX10_readScript_89 : decode cX10_readScript 89 = .ok (.iload_n 2, 1) := q_o28 (by decide +kernel)
theorem dX10_readScript_90 : decode cX10_readScript 90 = .ok (.ifCond .eq 7, 3) := q_o153 (a := 0) (b := 7) (by decide +kernel) rfl
theorem dX10_readScript_93 : decode cX10_readScript 93 = .ok (.iconst 1, 1) := q_o4 (by decide +kernel)
theorem dX10_readScript_94 : decode cX10_readScript 94 = .ok (.goto 4, 3) := q_o167 (a := 0) (b := 4) (by decide +kernel) rfl
theorem dX10_readScript_97 : decode cX10_readScript 97 = .ok (.iconst 0, 1) := q_o3 (by decide +kernel)
theorem dX10_readScript_98 : decode cX10_readScript 98 = .ok (.iadd, 1) := q_o96 (by decide +kernel)
theorem dX10_readScript_99 : decode cX10_readScript 99 = .ok (.putfield 67, 3) := q_o181 (a := 0) (b := 67) (by decide +kernel)
theorem dX10_readScript_102 : decode cX10_readScript 102 = .ok (.goto (-83), 3) := q_o167 (a := 255) (b := 173) (by decide +kernel) rfl
theorem dX10_readScript_105 : decode cX10_readScript 105 = .ok (.aload_n 0, 1) := q_o42 (by decide +kernel)
theorem dX10_readScript_106 : decode cX10_readScript 106 = .ok (.getfield 74, 3) := q_o180 (a := 0) (b := 74) (by decide +kernel)
theorem dX10_readScript_109 : decode cX10_readScript 109 = .ok (.iconst (-1), 1) := q_o2 (by decide +kernel)
theorem dX10_readScript_110 : decode cX10_readScript 110 = .ok (.if_icmp .ne 15, 3) := q_o160 (a := 0) (b := 15) (by decide +kernel) rfl
theorem dX10_readScript_113 : decode cX10_readScript 113 = .ok (.aload_n 0, 1) := q_o42 (by decide +kernel)
theorem dX10_readScript_114 : decode cX10_readScript 114 = .ok (.invokevirtual 77, 3) := q_o182 (a := 0) (b := 77) (by decide +kernel)
theorem dX10_readScript_117 : decode cX10_readScript 117 = .ok (.iconst (-1), 1) := q_o2 (by decide +kernel)
theorem dX10_readScript_118 : decode cX10_readScript 118 = .ok (.if_icmp .eq 7, 3) := q_o159 (a := 0) (b := 7) (by decide +kernel) rfl
theorem dX10_readScript_121 : decode cX10_readScript 121 = .ok (.aload_n 0, 1) := q_o42 (by decide +kernel)
theorem dX10_readScript_122 : decode cX10_readScript 122 = .ok (.invokevirtual 84, 3) := q_o182 (a := 0) (b := 84) (by decide +kernel)
theorem dX10_readScript_125 : decode cX10_readScript 125 = .ok (.aload_n 0, 1) := q_o42 (by decide +kernel)
theorem dX10_readScript_126 : decode cX10_readScript 126 = .ok (.getfield 74, 3) := q_o180 (a := 0) (b := 74) (by decide +kernel)
theorem dX10_readScript_129 : decode cX10_readScript 129 = .ok (.ireturn, 1) := q_o172 (by decide +kernel)
theorem dX10_readStep_0 : decode cX10_readStep 0 = .ok (.aload_n 0, 1) := q_o42 (by decide +kernel)
theorem dX10_readStep_1 : decode cX10_readStep 1 = .ok (.invokevirtual 77, 3) := q_o182 (a := 0) (b := 77) (by decide +kernel)
theorem dX10_readStep_4 : decode cX10_readStep 4 = .ok (.invokestatic 115, 3) := q_o184 (a := 0) (b := 115) (by decide +kernel)
theorem dX10_readStep_7 : decode cX10_readStep 7 = .ok (.istore_n 2, 1) := q_o61 (by decide +kernel)
theorem dX10_readStep_8 : decode cX10_readStep 8 = .ok (.iload_n 2, 1) := q_o28 (by decide +kernel)
theorem dX10_readStep_9 : decode cX10_readStep 9 = .ok (.iconst (-1), 1) := q_o2 (by decide +kernel)
theorem dX10_readStep_10 : decode cX10_readStep 10 = .ok (.if_icmp .ne 8, 3) := q_o160 (a := 0) (b := 8) (by decide +kernel) rfl
theorem dX10_readStep_13 : decode cX10_readStep 13 = .ok (.aload_n 0, 1) := q_o42 (by decide +kernel)
theorem dX10_readStep_14 : decode cX10_readStep 14 = .ok (.invokevirtual 84, 3) := q_o182 (a := 0) (b := 84) (by decide +kernel)
theorem dX10_readStep_17 : decode cX10_readStep 17 = .ok (.return_, 1) := q_o177 (by decide +kernel)
theorem dX10_readStep_18 : decode cX10_readStep 18 = .ok (.aload_n 0, 1) := q_o42 (by decide +kernel)
theorem dX10_readStep_19 : decode cX10_readStep 19 = .ok (.dup, 1) := q_o89 (by decide +kernel)
theorem dX10_readStep_20 : decode cX10_readStep 20 = .ok (.getfield 67, 3) := q_o180 (a := 0) (b := 67) (by decide +kernel)
theorem dX10_readStep_23 : decode cX10_readStep 23 = .ok (.iconst 1, 1) := q_o4 (by decide +kernel)
theorem dX10_readStep_24 : decode cX10_readStep 24 = .ok (.iadd, 1) := q_o96 (by decide +kernel)
theorem dX10_readStep_25 : decode cX10_readStep 25 = .ok (.putfield 67, 3) := q_o181 (a := 0) (b := 67) (by decide +kernel)
theorem dX10_readStep_28 : decode cX10_readStep 28 = .ok (.aload_n 0, 1) := q_o42 (by decide +kernel)
theorem dX10_readStep_29 : decode cX10_readStep 29 = .ok (.getfield 25, 3) := q_o180 (a := 0) (b := 25) (by decide +kernel)
theorem dX10_readStep_32 : decode cX10_readStep 32 = .ok (.iload_n 1, 1) := q_o27 (by decide +kernel)
theorem dX10_readStep_33 : decode cX10_readStep 33 = .ok (.iload_n 2, 1) := q_o28 (by decide +kernel)
theorem dX10_readStep_34 : decode cX10_readStep 34 = .ok (.iastore, 1) := q_o79 (by decide +kernel)
theorem dX10_readStep_35 : decode cX10_readStep 35 = .ok (.aload_n 0, 1) := q_o42 (by decide +kernel)
theorem dX10_readStep_36 : decode cX10_readStep 36 = .ok (.getfield 25, 3) := q_o180 (a := 0) (b := 25) (by decide +kernel)
theorem dX10_readStep_39 : decode cX10_readStep 39 = .ok (.iload_n 1, 1) := q_o27 (by decide +kernel)
theorem dX10_readStep_40 : decode cX10_readStep 40 = .ok (.iconst 2, 1) := q_o5 (by decide +kernel)
theorem dX10_readStep_41 : decode cX10_readStep 41 = .ok (.iadd, 1) := q_o96 (by decide +kernel)
theorem dX10_readStep_42 : decode cX10_readStep 42 = .ok (.iconst (-1), 1) := q_o2 (by decide +kernel)
theorem dX10_readStep_43 : decode cX10_readStep 43 = .ok (.iastore, 1) := q_o79 (by decide +kernel)
theorem dX10_readStep_44 : decode cX10_readStep 44 = .ok (.aload_n 0, 1) := q_o42 (by decide +kernel)
theorem dX10_readStep_45 : decode cX10_readStep 45 = .ok (.getfield 25, 3) := q_o180 (a := 0) (b := 25) (by decide +kernel)
theorem dX10_readStep_48 : decode cX10_readStep 48 = .ok (.iload_n 1, 1) := q_o27 (by decide +kernel)
theorem dX10_readStep_49 : decode cX10_readStep 49 = .ok (.iconst 3, 1) := q_o6 (by decide +kernel)
theorem dX10_readStep_50 : decode cX10_readStep 50 = .ok (.iadd, 1) := q_o96 (by decide +kernel)
theorem dX10_readStep_51 : decode cX10_readStep 51 = .ok (.iconst (-1), 1) := q_o2 (by decide +kernel)
theorem dX10_readStep_52 : decode cX10_readStep 52 = .ok (.iastore, 1) := q_o79 (by decide +kernel)
theorem dX10_readStep_53 : decode cX10_readStep 53 = .ok (.aload_n 0, 1) := q_o42 (by decide +kernel)
theorem dX10_readStep_54 : decode cX10_readStep 54 = .ok (.getfield 25, 3) := q_o180 (a := 0) (b := 25) (by decide +kernel)
theorem dX10_readStep_57 : decode cX10_readStep 57 = .ok (.iload_n 1, 1) := q_o27 (by decide +kernel)
theorem dX10_readStep_58 : decode cX10_readStep 58 = .ok (.iconst 1, 1) := q_o4 (by decide +kernel)
theorem dX10_readStep_59 : decode cX10_readStep 59 = .ok (.iadd, 1) := q_o96 (by decide +kernel)
theorem dX10_readStep_60 : decode cX10_readStep 60 = .ok (.iload_n 2, 1) := q_o28 (by decide +kernel)
theorem dX10_readStep_61 : decode cX10_readStep 61 = .ok (.iconst 2, 1) := q_o5 (by decide +kernel)
theorem dX10_readStep_62 : decode cX10_readStep 62 = .ok (.if_icmp .ne 14, 3) := q_o160 (a := 0) (b := 14) (by decide +kernel) rfl
theorem dX10_readStep_65 : decode cX10_readStep 65 = .ok (.aload_n 0, 1) := q_o42 (by decide +kernel)
theorem dX10_readStep_66 : decode cX10_readStep 66 = .ok (.iconst 2, 1) := q_o5 (by decide +kernel)
theorem dX10_readStep_67 : decode cX10_readStep 67 = .ok (.iconst 0, 1) := q_o3 (by decide +kernel)
theorem dX10_readStep_68 : decode cX10_readStep 68 = .ok (.bipush 99, 2) := q_o16 (a := 99) (by decide +kernel) rfl
theorem dX10_readStep_70 : decode cX10_readStep 70 = .ok (.invokevirtual 104, 3) := q_o182 (a := 0) (b := 104) (by decide +kernel)
theorem dX10_readStep_73 : decode cX10_readStep 73 = .ok (.goto 7, 3) := q_o167 (a := 0) (b := 7) (by decide +kernel) rfl
theorem dX10_readStep_76 : decode cX10_readStep 76 = .ok (.aload_n 0, 1) := q_o42 (by decide +kernel)
theorem dX10_readStep_77 : decode cX10_readStep 77 = .ok (.invokevirtual 119, 3) := q_o182 (a := 0) (b := 119) (by decide +kernel)
theorem dX10_readStep_80 : decode cX10_readStep 80 = .ok (.iastore, 1) := q_o79 (by decide +kernel)
theorem dX10_readStep_81 : decode cX10_readStep 81 = .ok (.iload_n 2, 1) := q_o28 (by decide +kernel)
theorem dX10_readStep_82 : decode cX10_readStep 82 = .ok (.iconst 4, 1) := q_o7 (by decide +kernel)
theorem dX10_readStep_83 : decode cX10_readStep 83 = .ok (.if_icmp .ne 15, 3) := q_o160 (a := 0) (b := 15) (by decide +kernel) rfl
theorem dX10_readStep_86 : decode cX10_readStep 86 = .ok (.aload_n 0, 1) := q_o42 (by decide +kernel)
theorem dX10_readStep_87 : decode cX10_readStep 87 = .ok (.getfield 25, 3) := q_o180 (a := 0) (b := 25) (by decide +kernel)
theorem dX10_readStep_90 : decode cX10_readStep 90 = .ok (.iload_n 1, 1) := q_o27 (by decide +kernel)
theorem dX10_readStep_91 : decode cX10_readStep 91 = .ok (.iconst 2, 1) := q_o5 (by decide +kernel)
theorem dX10_readStep_92 : decode cX10_readStep 92 = .ok (.iadd, 1) := q_o96 (by decide +kernel)
theorem dX10_readStep_93 : decode cX10_readStep 93 = .ok (.aload_n 0, 1) := q_o42 (by decide +kernel)
theorem dX10_readStep_94 : decode cX10_readStep 94 = .ok (.invokevirtual 119, 3) := q_o182 (a := 0) (b := 119) (by decide +kernel)
theorem dX10_readStep_97 : decode cX10_readStep 97 = .ok (.iastore, 1) := q_o79 (by decide +kernel)
theorem dX10_readStep_98 : decode cX10_readStep 98 = .ok (.iload_n 2, 1) := q_o28 (by decide +kernel)
theorem dX10_readStep_99 : decode cX10_readStep 99 = .ok (.ifCond .ne 27, 3) := q_o154 (a := 0) (b := 27) (by decide +kernel) rfl
theorem dX10_readStep_102 : decode cX10_readStep 102 = .ok (.aload_n 0, 1) := q_o42 (by decide +kernel)
theorem dX10_readStep_103 : decode cX10_readStep 103 = .ok (.getfield 25, 3) := q_o180 (a := 0) (b := 25) (by decide +kernel)
theorem dX10_readStep_106 : decode cX10_readStep 106 = .ok (.iload_n 1, 1) := q_o27 (by decide +kernel)
theorem dX10_readStep_107 : decode cX10_readStep 107 = .ok (.iconst 2, 1) := q_o5 (by decide +kernel)
theorem dX10_readStep_108 : decode cX10_readStep 108 = .ok (.iadd, 1) := q_o96 (by decide +kernel)
theorem dX10_readStep_109 : decode cX10_readStep 109 = .ok (.aload_n 0, 1) := q_o42 (by decide +kernel)
theorem dX10_readStep_110 : decode cX10_readStep 110 = .ok (.invokevirtual 119, 3) := q_o182 (a := 0) (b := 119) (by decide +kernel)
theorem dX10_readStep_113 : decode cX10_readStep 113 = .ok (.iastore, 1) := q_o79 (by decide +kernel)
theorem dX10_readStep_114 : decode cX10_readStep 114 = .ok (.aload_n 0, 1) := q_o42 (by decide +kernel)
theorem dX10_readStep_115 : decode cX10_readStep 115 = .ok (.getfield 25, 3) := q_o180 (a := 0) (b := 25) (by decide +kernel)
theorem dX10_readStep_118 : decode cX10_readStep 118 = .ok (.iload_n 1, 1) := q_o27 (by decide +kernel)
theorem dX10_readStep_119 : decode cX10_readStep 119 = .ok (.iconst 3, 1) := q_o6 (by decide +kernel)
theorem dX10_readStep_120 : decode cX10_readStep 120 = .ok (.iadd, 1) := q_o96 (by decide +kernel)
theorem dX10_readStep_121 : decode cX10_readStep 121 = .ok (.aload_n 0, 1) := q_o42 (by decide +kernel)
theorem dX10_readStep_122 : decode cX10_readStep 122 = .ok (.invokevirtual 119, 3) := q_o182 (a := 0) (b := 119) (by decide +kernel)
theorem dX10_readStep_125 : decode cX10_readStep 125 = .ok (.iastore, 1) := q_o79 (by decide +kernel)
theorem dX10_readStep_126 : decode cX10_readStep 126 = .ok (.return_, 1) := q_o177 (by decide +kernel)
theorem dX10_readTree_0 : decode cX10_readTree 0 = .ok (.aload_n 0, 1) := q_o42 (by decide +kernel)
theorem dX10_readTree_1 : decode cX10_readTree 1 = .ok (.iconst 0, 1) := q_o3 (by decide +kernel)
theorem dX10_readTree_2 : decode cX10_readTree 2 = .ok (.putfield 67, 3) := q_o181 (a := 0) (b := 67) (by decide +kernel)
theorem dX10_readTree_5 : decode cX10_readTree 5 = .ok (.aload_n 0, 1) := q_o42 (by decide +kernel)
theorem dX10_readTree_6 : decode cX10_readTree 6 = .ok (.iconst (-1), 1) := q_o2 (by decide +kernel)
theorem dX10_readTree_7 : decode cX10_readTree 7 = .ok (.putfield 74, 3) := q_o181 (a := 0) (b := 74) (by decide +kernel)
theorem dX10_readTree_10 : decode cX10_readTree 10 = .ok (.aload_n 0, 1) := q_o42 (by decide +kernel)
theorem dX10_readTree_11 : decode cX10_readTree 11 = .ok (.iconst 0, 1) := q_o3 (by decide +kernel)
theorem dX10_readTree_12 : decode cX10_readTree 12 = .ok (.putfield 108, 3) := q_o181 (a := 0) (b := 108) (by decide +kernel)
theorem dX10_readTree_15 : decode cX10_readTree 15 = .ok (.iconst 0, 1) := q_o3 (by decide +kernel)
theorem dX10_readTree_16 : decode cX10_readTree 16 = .ok (.istore_n 1, 1) := q_o60 (by decide +kernel)
theorem dX10_readTree_17 : decode cX10_readTree 17 = .ok (.iconst 0, 1) := q_o3 (by decide +kernel)
theorem dX10_readTree_18 : decode cX10_readTree 18 = .ok (.istore_n 2, 1) := q_o61 (by decide +kernel)
theorem dX10_readTree_19 : decode cX10_readTree 19 = .ok (.iload_n 2, 1) := q_o28 (by decide +kernel)
theorem dX10_readTree_20 : decode cX10_readTree 20 = .ok (.bipush 8, 2) := q_o16 (a := 8) (by decide +kernel) rfl
theorem dX10_readTree_22 : decode cX10_readTree 22 = .ok (.if_icmp .ge 21, 3) := q_o162 (a := 0) (b := 21) (by decide +kernel) rfl
theorem dX10_readTree_25 : decode cX10_readTree 25 = .ok (.aload_n 0, 1) := q_o42 (by decide +kernel)
theorem dX10_readTree_26 : decode cX10_readTree 26 = .ok (.getfield 13, 3) := q_o180 (a := 0) (b := 13) (by decide +kernel)
theorem dX10_readTree_29 : decode cX10_readTree 29 = .ok (.iload_n 2, 1) := q_o28 (by decide +kernel)
theorem dX10_readTree_30 : decode cX10_readTree 30 = .ok (.bipush 115, 2) := q_o16 (a := 115) (by decide +kernel) rfl
theorem dX10_readTree_32 : decode cX10_readTree 32 = .ok (.iload_n 2, 1) := q_o28 (by decide +kernel)
theorem dX10_readTree_33 : decode cX10_readTree 33 = .ok (.invokestatic 87, 3) := q_o184 (a := 0) (b := 87) (by decide +kernel)
theorem dX10_readTree_36 : decode cX10_readTree 36 = .ok (.iastore, 1) := q_o79 (by decide +kernel)
theorem dX10_readTree_37 : decode cX10_readTree 37 = .ok (.iinc 2 1, 3) := q_o132 (a := 2) (b := 1) (by decide +kernel) rfl
theorem dX10_readTree_40 : decode cX10_readTree 40 = .ok (.goto (-21), 3) := q_o167 (a := 255) (b := 235) (by decide +kernel) rfl
theorem dX10_readTree_43 : decode cX10_readTree 43 = .ok (.iconst 1, 1) := q_o4 (by decide +kernel)
theorem dX10_readTree_44 : decode cX10_readTree 44 = .ok (.istore_n 2, 1) := q_o61 (by decide +kernel)
theorem dX10_readTree_45 : decode cX10_readTree 45 = .ok (.iload_n 2, 1) := q_o28 (by decide +kernel)
theorem dX10_readTree_46 : decode cX10_readTree 46 = .ok (.ifCond .eq 157, 3) := q_o153 (a := 0) (b := 157) (by decide +kernel) rfl
theorem dX10_readTree_49 : decode cX10_readTree 49 = .ok (.aload_n 0, 1) := q_o42 (by decide +kernel)
theorem dX10_readTree_50 : decode cX10_readTree 50 = .ok (.getfield 74, 3) := q_o180 (a := 0) (b := 74) (by decide +kernel)
theorem dX10_readTree_53 : decode cX10_readTree 53 = .ok (.iconst (-1), 1) := q_o2 (by decide +kernel)
theorem dX10_readTree_54 : decode cX10_readTree 54 = .ok (.if_icmp .ne 149, 3) := q_o160 (a := 0) (b := 149) (by decide +kernel) rfl
theorem dX10_readTree_57 : decode cX10_readTree 57 = .ok (.aload_n 0, 1) := q_o42 (by decide +kernel)
theorem dX10_readTree_58 : decode cX10_readTree 58 = .ok (.invokevirtual 77, 3) := q_o182 (a := 0) (b := 77) (by decide +kernel)
theorem dX10_readTree_61 : decode cX10_readTree 61 = .ok (.istore_n 3, 1) := q_o62 (by decide +kernel)
theorem dX10_readTree_62 : decode cX10_readTree 62 = .ok (.iload_n 3, 1) := q_o29 (by decide +kernel)
theorem dX10_readTree_63 : decode cX10_readTree 63 = .ok (.bipush 115, 2) := q_o16 (a := 115) (by decide +kernel) rfl
theorem dX10_readTree_65 : decode cX10_readTree 65 = .ok (.if_icmp .ne 34, 3) := q_o160 (a := 0) (b := 34) (by decide +kernel) rfl
theorem dX10_readTree_68 : decode cX10_readTree 68 = .ok (.iload_n 1, 1) := q_o27 (by decide +kernel)
theorem dX10_readTree_69 : decode cX10_readTree 69 = .ok (.ifCond .ne 30, 3) := q_o154 (a := 0) (b := 30) (by decide +kernel) rfl
theorem dX10_readTree_72 : decode cX10_readTree 72 = .ok (.iconst 1, 1) := q_o4 (by decide +kernel)
theorem dX10_readTree_73 : decode cX10_readTree 73 = .ok (.istore_n 1, 1) := q_o60 (by decide +kernel)
theorem dX10_readTree_74 : decode cX10_readTree 74 = .ok (.aload_n 0, 1) := q_o42 (by decide +kernel)
theorem dX10_readTree_75 : decode cX10_readTree 75 = .ok (.dup, 1) := q_o89 (by decide +kernel)
theorem dX10_readTree_76 : decode cX10_readTree 76 = .ok (.getfield 67, 3) := q_o180 (a := 0) (b := 67) (by decide +kernel)
theorem dX10_readTree_79 : decode cX10_readTree 79 = .ok (.iconst 1, 1) := q_o4 (by decide +kernel)
theorem dX10_readTree_80 : decode cX10_readTree 80 = .ok (.iadd, 1) := q_o96 (by decide +kernel)
theorem dX10_readTree_81 : decode cX10_readTree 81 = .ok (.putfield 67, 3) := q_o181 (a := 0) (b := 67) (by decide +kernel)
theorem dX10_readTree_84 : decode cX10_readTree 84 = .ok (.aload_n 0, 1) := q_o42 (by decide +kernel)
theorem dX10_readTree_85 : decode cX10_readTree 85 = .ok (.iload_n 3, 1) := q_o29 (by decide +kernel)
theorem dX10_readTree_86 : decode cX10_readTree 86 = .ok (.aload_n 0, 1) := q_o42 (by decide +kernel)
theorem dX10_readTree_87 : decode cX10_readTree 87 = .ok (.getfield 13, 3) := q_o180 (a := 0) (b := 13) (by decide +kernel)
theorem dX10_readTree_90 : decode cX10_readTree 90 = .ok (.iconst 0, 1) := q_o3 (by decide +kernel)
theorem dX10_readTree_91 : decode cX10_readTree 91 = .ok (.bipush 8, 2) := q_o16 (a := 8) (by decide +kernel) rfl
theorem dX10_readTree_93 : decode cX10_readTree 93 = .ok (.invokevirtual 111, 3) := q_o182 (a := 0) (b := 111) (by decide +kernel)
theorem dX10_readTree_96 : decode cX10_readTree 96 = .ok (.goto 63, 3) := q_o167 (a := 0) (b := 63) (by decide +kernel) rfl
theorem dX10_readTree_99 : decode cX10_readTree 99 = .ok (.iload_n 3, 1) := q_o29 (by decide +kernel)
theorem dX10_readTree_100 : decode cX10_readTree 100 = .ok (.bipush 100, 2) := q_o16 (a := 100) (by decide +kernel) rfl
theorem dX10_readTree_102 : decode cX10_readTree 102 = .ok (.if_icmp .ne 53, 3) := q_o160 (a := 0) (b := 53) (by decide +kernel) rfl
theorem dX10_readTree_105 : decode cX10_readTree 105 = .ok (.aload_n 0, 1) := q_o42 (by decide +kernel)
theorem dX10_readTree_106 : decode cX10_readTree 106 = .ok (.getfield 108, 3) := q_o180 (a := 0) (b := 108) (by decide +kernel)
theorem dX10_readTree_109 : decode cX10_readTree 109 = .ok (.bipush 8, 2) := q_o16 (a := 8) (by decide +kernel) rfl
theorem dX10_readTree_111 : decode cX10_readTree 111 = .ok (.if_icmp .ge 44, 3) := q_o162 (a := 0) (b := 44) (by decide +kernel) rfl
theorem dX10_readTree_114 : decode cX10_readTree 114 = .ok (.aload_n 0, 1) := q_o42 (by decide +kernel)
theorem dX10_readTree_115 : decode cX10_readTree 115 = .ok (.dup, 1) := q_o89 (by decide +kernel)
theorem dX10_readTree_116 : decode cX10_readTree 116 = .ok (.getfield 67, 3) := q_o180 (a := 0) (b := 67) (by decide +kernel)
theorem dX10_readTree_119 : decode cX10_readTree 119 = .ok (.iconst 1, 1) := q_o4 (by decide +kernel)
theorem dX10_readTree_120 : decode cX10_readTree 120 = .ok (.iadd, 1) := q_o96 (by decide +kernel)
theorem dX10_readTree_121 : decode cX10_readTree 121 = .ok (.putfield 67, 3) := q_o181 (a := 0) (b := 67) (by decide +kernel)
theorem dX10_readTree_124 : decode cX10_readTree 124 = .ok (.aload_n 0, 1) := q_o42 (by decide +kernel)
theorem dX10_readTree_125 : decode cX10_readTree 125 = .ok (.iload_n 3, 1) := q_o29 (by decide +kernel)
theorem dX10_readTree_126 : decode cX10_readTree 126 = .ok (.aload_n 0, 1) := q_o42 (by decide +kernel)
theorem dX10_readTree_127 : decode cX10_readTree 127 = .ok (.getfield 16, 3) := q_o180 (a := 0) (b := 16) (by decide +kernel)
theorem dX10_readTree_130 : decode cX10_readTree 130 = .ok (.bipush 6, 2) := q_o16 (a := 6) (by decide +kernel) rfl
theorem dX10_readTree_132 : decode cX10_readTree 132 = .ok (.aload_n 0, 1) := q_o42 (by decide +kernel)
theorem dX10_readTree_133 : decode cX10_readTree 133 = .ok (.getfield 108, 3) := q_o180 (a := 0) (b := 108) (by decide +kernel)
theorem dX10_readTree_136 : decode cX10_readTree 136 = .ok (.imul, 1) := q_o104 (by decide +kernel)
theorem dX10_readTree_137 : decode cX10_readTree 137 = .ok (.bipush 6, 2) := q_o16 (a := 6) (by decide +kernel) rfl
theorem dX10_readTree_139 : decode cX10_readTree 139 = .ok (.invokevirtual 111, 3) := q_o182 (a := 0) (b := 111) (by decide +kernel)
theorem dX10_readTree_142 : decode cX10_readTree 142 = .ok (.aload_n 0, 1) := q_o42 (by decide +kernel)
theorem dX10_readTree_143 : decode cX10_readTree 143 = .ok (.dup, 1) := q_o89 (by decide +kernel)
theorem dX10_readTree_144 : decode cX10_readTree 144 = .ok (.getfield 108, 3) := q_o180 (a := 0) (b := 108) (by decide +kernel)
theorem dX10_readTree_147 : decode cX10_readTree 147 = .ok (.iconst 1, 1) := q_o4 (by decide +kernel)
theorem dX10_readTree_148 : decode cX10_readTree 148 = .ok (.iadd, 1) := q_o96 (by decide +kernel)
theorem dX10_readTree_149 : decode cX10_readTree 149 = .ok (.putfield 108, 3) := q_o181 (a := 0) (b := 108) (by decide +kernel)
theorem dX10_readTree_152 : decode cX10_readTree 152 = .ok (.goto 7, 3) := q_o167 (a := 0) (b := 7) (by decide +kernel) rfl
theorem dX10_readTree_155 : decode cX10_readTree 155 = .ok (.aload_n 0, 1) := q_o42 (by decide +kernel)
theorem dX10_readTree_156 : decode cX10_readTree 156 = .ok (.invokevirtual 84, 3) := q_o182 (a := 0) (b := 84) (by decide +kernel)
theorem dX10_readTree_159 : decode cX10_readTree 159 = .ok (.aload_n 0, 1) := q_o42 (by decide +kernel)
theorem dX10_readTree_160 : decode cX10_readTree 160 = .ok (.getfield 74, 3) := q_o180 (a := 0) (b := 74) (by decide +kernel)
theorem dX10_readTree_163 : decode cX10_readTree 163 = .ok (.iconst (-1), 1) := q_o2 (by decide +kernel)
theorem dX10_readTree_164 : decode cX10_readTree 164 = .ok (.if_icmp .ne 16, 3) := q_o160 (a := 0) (b := 16) (by decide +kernel) rfl
theorem dX10_readTree_167 : decode cX10_readTree 167 = .ok (.aload_n 0, 1) := q_o42 (by decide +kernel)
theorem dX10_readTree_168 : decode cX10_readTree 168 = .ok (.invokevirtual 77, 3) := q_o182 (a := 0) (b := 77) (by decide +kernel)
theorem dX10_readTree_171 : decode cX10_readTree 171 = .ok (.bipush 59, 2) := q_o16 (a := 59) (by decide +kernel) rfl
theorem dX10_readTree_173 : decode cX10_readTree 173 = .ok (.if_icmp .ne 7, 3) := q_o160 (a := 0) (b := 7) (by decide +kernel) rfl
theorem dX10_readTree_176 : decode cX10_readTree 176 = .ok (.iconst 1, 1) := q_o4 (by decide +kernel)
theorem dX10_readTree_177 : decode cX10_readTree 177 = .ok (.goto 4, 3) := q_o167 (a := 0) (b := 4) (by decide +kernel) rfl
theorem dX10_readTree_180 : decode cX10_readTree 180 = .ok (.iconst 0, 1) := q_o3 (by decide +kernel)
theorem dX10_readTree_181 : decode cX10_readTree 181 = .ok (.istore_n 2, 1) := q_o61 (by decide +kernel)
theorem dX10_readTree_182 : decode cX10_readTree 182 = .ok (.aload_n 0, 1) := q_o42 (by decide +kernel)
theorem dX10_readTree_183 : decode cX10_readTree 183 = .ok (.dup, 1) := q_o89 (by decide +kernel)
theorem dX10_readTree_184 : decode cX10_readTree 184 = .ok (.getfield 67, 3) := q_o180 (a := 0) (b := 67) (by decide +kernel)
theorem dX10_readTree_187 : decode cX10_readTree 187 = .ok (.iload_n 2, 1) := q_o28 (by decide +kernel)
theorem dX10_readTree_188 : decode cX10_readTree 188 = .ok (.ifCond .eq 7, 3) := q_o153 (a := 0) (b := 7) (by decide +kernel) rfl
theorem dX10_readTree_191 : decode cX10_readTree 191 = .ok (.iconst 1, 1) := q_o4 (by decide +kernel)
theorem dX10_readTree_192 : decode cX10_readTree 192 = .ok (.goto 4, 3) := q_o167 (a := 0) (b := 4) (by decide +kernel) rfl
theorem dX10_readTree_195 : decode cX10_readTree 195 = .ok (.iconst 0, 1) := q_o3 (by decide +kernel)
theorem dX10_readTree_196 : decode cX10_readTree 196 = .ok (.iadd, 1) := q_o96 (by decide +kernel)
theorem dX10_readTree_197 : decode cX10_readTree 197 = .ok (.putfield 67, 3) := q_o181 (a := 0) (b := 67) (by decide +kernel)
theorem dX10_readTree_200 : decode cX10_readTree 200 = .ok (.goto (-155), 3) := q_o167 (a := 255) (b := 101) (by decide +kernel) rfl
theorem dX10_readTree_203 : decode cX10_readTree 203 = .ok (.aload_n 0, 1) := q_o42 (by decide +kernel)
theorem dX10_readTree_204 : decode cX10_readTree 204 = .ok (.getfield 74, 3) := q_o180 (a := 0) (b := 74) (by decide +kernel)
theorem dX10_readTree_207 : decode cX10_readTree 207 = .ok (.iconst (-1), 1) := q_o2 (by decide +kernel)
theorem dX10_readTree_208 : decode cX10_readTree 208 = .ok (.if_icmp .ne 22, 3) := q_o160 (a := 0) (b := 22) (by decide +kernel) rfl
theorem dX10_readTree_211 : decode cX10_readTree 211 = .ok (.aload_n 0, 1) := q_o42 (by decide +kernel)
theorem dX10_readTree_212 : decode cX10_readTree 212 = .ok (.invokevirtual 77, 3) := q_o182 (a := 0) (b := 77) (by decide +kernel)
theorem dX10_readTree_215 : decode cX10_readTree 215 = .ok (.iconst (-1), 1) := q_o2 (by decide +kernel)
theorem dX10_readTree_216 : decode cX10_readTree 216 = .ok (.if_icmp .ne 10, 3) := q_o160 (a := 0) (b := 10) (by decide +kernel) rfl
theorem dX10_readTree_219 : decode cX10_readTree 219 = .ok (.aload_n 0, 1) := q_o42 (by decide +kernel)
theorem dX10_readTree_220 : decode cX10_readTree 220 = .ok (.getfield 108, 3) := q_o180 (a := 0) (b := 108) (by decide +kernel)
theorem dX10_readTree_223 : decode cX10_readTree 223 = .ok (.ifCond .ne 7, 3) := q_o154 (a := 0) (b := 7) (by decide +kernel) rfl
theorem dX10_readTree_226 : decode cX10_readTree 226 = .ok (.aload_n 0, 1) := q_o42 (by decide +kernel)
theorem dX10_readTree_227 : decode cX10_readTree 227 = .ok (.invokevirtual 84, 3) := q_o182 (a := 0) (b := 84) (by decide +kernel)
theorem dX10_readTree_230 : decode cX10_readTree 230 = .ok (.aload_n 0, 1) := q_o42 (by decide +kernel)
theorem dX10_readTree_231 : decode cX10_readTree 231 = .ok (.getfield 74, 3) := q_o180 (a := 0) (b := 74) (by decide +kernel)
theorem dX10_readTree_234 : decode cX10_readTree 234 = .ok (.ireturn, 1) := q_o172 (by decide +kernel)
theorem dX10_sortOf_0 : decode cX10_sortOf 0 = .ok (.iload_n 0, 1) := q_o26 (by decide +kernel)
theorem dX10_sortOf_1 : decode cX10_sortOf 1 = .ok (.lookupswitch 71 #[(101, 67), (111, 65), (112, 59), (116, 63), (117, 61), (122, 69)], 59) := by decide +kernel
theorem dX10_sortOf_60 : decode cX10_sortOf 60 = .ok (.iconst 0, 1) := q_o3 (by decide +kernel)
theorem dX10_sortOf_61 : decode cX10_sortOf 61 = .ok (.ireturn, 1) := q_o172 (by decide +kernel)
theorem dX10_sortOf_62 : decode cX10_sortOf 62 = .ok (.iconst 1, 1) := q_o4 (by decide +kernel)
theorem dX10_sortOf_63 : decode cX10_sortOf 63 = .ok (.ireturn, 1) := q_o172 (by decide +kernel)
theorem dX10_sortOf_64 : decode cX10_sortOf 64 = .ok (.iconst 2, 1) := q_o5 (by decide +kernel)
theorem dX10_sortOf_65 : decode cX10_sortOf 65 = .ok (.ireturn, 1) := q_o172 (by decide +kernel)
theorem dX10_sortOf_66 : decode cX10_sortOf 66 = .ok (.iconst 3, 1) := q_o6 (by decide +kernel)
theorem dX10_sortOf_67 : decode cX10_sortOf 67 = .ok (.ireturn, 1) := q_o172 (by decide +kernel)
theorem dX10_sortOf_68 : decode cX10_sortOf 68 = .ok (.iconst 4, 1) := q_o7 (by decide +kernel)
theorem dX10_sortOf_69 : decode cX10_sortOf 69 = .ok (.ireturn, 1) := q_o172 (by decide +kernel)
theorem dX10_sortOf_70 : decode cX10_sortOf 70 = .ok (.iconst 5, 1) := q_o8 (by decide +kernel)
theorem dX10_sortOf_71 : decode cX10_sortOf 71 = .ok (.ireturn, 1) := q_o172 (by decide +kernel)
theorem dX10_sortOf_72 : decode cX10_sortOf 72 = .ok (.iconst (-1), 1) := q_o2 (by decide +kernel)
theorem dX10_sortOf_73 : decode cX10_sortOf 73 = .ok (.ireturn, 1) := q_o172 (by decide +kernel)
theorem dX10_speedOf_0 : decode cX10_speedOf 0 = .ok (.iload_n 1, 1) := q_o27 (by decide +kernel)
theorem dX10_speedOf_1 : decode cX10_speedOf 1 = .ok (.bipush 8, 2) := q_o16 (a := 8) (by decide +kernel) rfl
theorem dX10_speedOf_3 : decode cX10_speedOf 3 = .ok (.if_icmp .ne 7, 3) := q_o160 (a := 0) (b := 7) (by decide +kernel) rfl
theorem dX10_speedOf_6 : decode cX10_speedOf 6 = .ok (.iconst 2, 1) := q_o5 (by decide +kernel)
theorem dX10_speedOf_7 : decode cX10_speedOf 7 = .ok (.goto 12, 3) := q_o167 (a := 0) (b := 12) (by decide +kernel) rfl
theorem dX10_speedOf_10 : decode cX10_speedOf 10 = .ok (.aload_n 0, 1) := q_o42 (by decide +kernel)
theorem dX10_speedOf_11 : decode cX10_speedOf 11 = .ok (.getfield 31, 3) := q_o180 (a := 0) (b := 31) (by decide +kernel)
theorem dX10_speedOf_14 : decode cX10_speedOf 14 = .ok (.bipush 48, 2) := q_o16 (a := 48) (by decide +kernel) rfl
theorem dX10_speedOf_16 : decode cX10_speedOf 16 = .ok (.iload_n 1, 1) := q_o27 (by decide +kernel)
theorem dX10_speedOf_17 : decode cX10_speedOf 17 = .ok (.iadd, 1) := q_o96 (by decide +kernel)
theorem dX10_speedOf_18 : decode cX10_speedOf 18 = .ok (.iaload, 1) := q_o46 (by decide +kernel)
theorem dX10_speedOf_19 : decode cX10_speedOf 19 = .ok (.ireturn, 1) := q_o172 (by decide +kernel)
theorem dX10_state_0 : decode cX10_state 0 = .ok (.aload_n 0, 1) := q_o42 (by decide +kernel)
theorem dX10_state_1 : decode cX10_state 1 = .ok (.getfield 31, 3) := q_o180 (a := 0) (b := 31) (by decide +kernel)
theorem dX10_state_4 : decode cX10_state 4 = .ok (.iconst 0, 1) := q_o3 (by decide +kernel)
theorem dX10_state_5 : decode cX10_state 5 = .ok (.iload_n 1, 1) := q_o27 (by decide +kernel)
theorem dX10_state_6 : decode cX10_state 6 = .ok (.iadd, 1) := q_o96 (by decide +kernel)
theorem dX10_state_7 : decode cX10_state 7 = .ok (.iaload, 1) := q_o46 (by decide +kernel)
theorem dX10_state_8 : decode cX10_state 8 = .ok (.ireturn, 1) := q_o172 (by decide +kernel)
theorem dX10_takeTree_0 : decode cX10_takeTree 0 = .ok (.aload_n 0, 1) := q_o42 (by decide +kernel)
theorem dX10_takeTree_1 : decode cX10_takeTree 1 = .ok (.aload_n 0, 1) := q_o42 (by decide +kernel)
theorem dX10_takeTree_2 : decode cX10_takeTree 2 = .ok (.getfield 108, 3) := q_o180 (a := 0) (b := 108) (by decide +kernel)
theorem dX10_takeTree_5 : decode cX10_takeTree 5 = .ok (.putfield 132, 3) := q_o181 (a := 0) (b := 132) (by decide +kernel)
theorem dX10_takeTree_8 : decode cX10_takeTree 8 = .ok (.iconst 0, 1) := q_o3 (by decide +kernel)
theorem dX10_takeTree_9 : decode cX10_takeTree 9 = .ok (.istore_n 1, 1) := q_o60 (by decide +kernel)
theorem dX10_takeTree_10 : decode cX10_takeTree 10 = .ok (.iload_n 1, 1) := q_o27 (by decide +kernel)
theorem dX10_takeTree_11 : decode cX10_takeTree 11 = .ok (.bipush 8, 2) := q_o16 (a := 8) (by decide +kernel) rfl
theorem dX10_takeTree_13 : decode cX10_takeTree 13 = .ok (.if_icmp .ge 21, 3) := q_o162 (a := 0) (b := 21) (by decide +kernel) rfl
theorem dX10_takeTree_16 : decode cX10_takeTree 16 = .ok (.aload_n 0, 1) := q_o42 (by decide +kernel)
theorem dX10_takeTree_17 : decode cX10_takeTree 17 = .ok (.getfield 19, 3) := q_o180 (a := 0) (b := 19) (by decide +kernel)
theorem dX10_takeTree_20 : decode cX10_takeTree 20 = .ok (.iload_n 1, 1) := q_o27 (by decide +kernel)
theorem dX10_takeTree_21 : decode cX10_takeTree 21 = .ok (.aload_n 0, 1) := q_o42 (by decide +kernel)
theorem dX10_takeTree_22 : decode cX10_takeTree 22 = .ok (.getfield 13, 3) := q_o180 (a := 0) (b := 13) (by decide +kernel)
theorem dX10_takeTree_25 : decode cX10_takeTree 25 = .ok (.iload_n 1, 1) := q_o27 (by decide +kernel)
theorem dX10_takeTree_26 : decode cX10_takeTree 26 = .ok (.iaload, 1) := q_o46 (by decide +kernel)
theorem dX10_takeTree_27 : decode cX10_takeTree 27 = .ok (.iastore, 1) := q_o79 (by decide +kernel)
theorem dX10_takeTree_28 : decode cX10_takeTree 28 = .ok (.iinc 1 1, 3) := q_o132 (a := 1) (b := 1) (by decide +kernel) rfl
theorem dX10_takeTree_31 : decode cX10_takeTree 31 = .ok (.goto (-21), 3) := q_o167 (a := 255) (b := 235) (by decide +kernel) rfl
theorem dX10_takeTree_34 : decode cX10_takeTree 34 = .ok (.iconst 0, 1) := q_o3 (by decide +kernel)
theorem dX10_takeTree_35 : decode cX10_takeTree 35 = .ok (.istore_n 1, 1) := q_o60 (by decide +kernel)
theorem dX10_takeTree_36 : decode cX10_takeTree 36 = .ok (.iload_n 1, 1) := q_o27 (by decide +kernel)
theorem dX10_takeTree_37 : decode cX10_takeTree 37 = .ok (.bipush 6, 2) := q_o16 (a := 6) (by decide +kernel) rfl
theorem dX10_takeTree_39 : decode cX10_takeTree 39 = .ok (.aload_n 0, 1) := q_o42 (by decide +kernel)
theorem dX10_takeTree_40 : decode cX10_takeTree 40 = .ok (.getfield 132, 3) := q_o180 (a := 0) (b := 132) (by decide +kernel)
theorem dX10_takeTree_43 : decode cX10_takeTree 43 = .ok (.imul, 1) := q_o104 (by decide +kernel)
theorem dX10_takeTree_44 : decode cX10_takeTree 44 = .ok (.if_icmp .ge 21, 3) := q_o162 (a := 0) (b := 21) (by decide +kernel) rfl
theorem dX10_takeTree_47 : decode cX10_takeTree 47 = .ok (.aload_n 0, 1) := q_o42 (by decide +kernel)
theorem dX10_takeTree_48 : decode cX10_takeTree 48 = .ok (.getfield 22, 3) := q_o180 (a := 0) (b := 22) (by decide +kernel)
theorem dX10_takeTree_51 : decode cX10_takeTree 51 = .ok (.iload_n 1, 1) := q_o27 (by decide +kernel)
theorem dX10_takeTree_52 : decode cX10_takeTree 52 = .ok (.aload_n 0, 1) := q_o42 (by decide +kernel)
theorem dX10_takeTree_53 : decode cX10_takeTree 53 = .ok (.getfield 16, 3) := q_o180 (a := 0) (b := 16) (by decide +kernel)
theorem dX10_takeTree_56 : decode cX10_takeTree 56 = .ok (.iload_n 1, 1) := q_o27 (by decide +kernel)
theorem dX10_takeTree_57 : decode cX10_takeTree 57 = .ok (.iaload, 1) := q_o46 (by decide +kernel)
theorem dX10_takeTree_58 : decode cX10_takeTree 58 = .ok (.iastore, 1) := q_o79 (by decide +kernel)
theorem dX10_takeTree_59 : decode cX10_takeTree 59 = .ok (.iinc 1 1, 3) := q_o132 (a := 1) (b := 1) (by decide +kernel) rfl
theorem dX10_takeTree_62 : decode cX10_takeTree 62 = .ok (.goto (-26), 3) := q_o167 (a := 255) (b := 230) (by decide +kernel) rfl
theorem dX10_takeTree_65 : decode cX10_takeTree 65 = .ok (.iconst 0, 1) := q_o3 (by decide +kernel)
theorem dX10_takeTree_66 : decode cX10_takeTree 66 = .ok (.istore_n 1, 1) := q_o60 (by decide +kernel)
theorem dX10_takeTree_67 : decode cX10_takeTree 67 = .ok (.iload_n 1, 1) := q_o27 (by decide +kernel)
theorem dX10_takeTree_68 : decode cX10_takeTree 68 = .ok (.sipush 279, 3) := q_o17 (a := 1) (b := 23) (by decide +kernel) rfl
theorem dX10_takeTree_71 : decode cX10_takeTree 71 = .ok (.if_icmp .ge 16, 3) := q_o162 (a := 0) (b := 16) (by decide +kernel) rfl
theorem dX10_takeTree_74 : decode cX10_takeTree 74 = .ok (.aload_n 0, 1) := q_o42 (by decide +kernel)
theorem dX10_takeTree_75 : decode cX10_takeTree 75 = .ok (.getfield 31, 3) := q_o180 (a := 0) (b := 31) (by decide +kernel)
theorem dX10_takeTree_78 : decode cX10_takeTree 78 = .ok (.iload_n 1, 1) := q_o27 (by decide +kernel)
theorem dX10_takeTree_79 : decode cX10_takeTree 79 = .ok (.iconst 0, 1) := q_o3 (by decide +kernel)
theorem dX10_takeTree_80 : decode cX10_takeTree 80 = .ok (.iastore, 1) := q_o79 (by decide +kernel)
theorem dX10_takeTree_81 : decode cX10_takeTree 81 = .ok (.iinc 1 1, 3) := q_o132 (a := 1) (b := 1) (by decide +kernel) rfl
theorem dX10_takeTree_84 : decode cX10_takeTree 84 = .ok (.goto (-17), 3) := q_o167 (a := 255) (b := 239) (by decide +kernel) rfl
theorem dX10_takeTree_87 : decode cX10_takeTree 87 = .ok (.iconst 0, 1) := q_o3 (by decide +kernel)
theorem dX10_takeTree_88 : decode cX10_takeTree 88 = .ok (.istore_n 1, 1) := q_o60 (by decide +kernel)
theorem dX10_takeTree_89 : decode cX10_takeTree 89 = .ok (.iload_n 1, 1) := q_o27 (by decide +kernel)
theorem dX10_takeTree_90 : decode cX10_takeTree 90 = .ok (.aload_n 0, 1) := q_o42 (by decide +kernel)
theorem dX10_takeTree_91 : decode cX10_takeTree 91 = .ok (.getfield 132, 3) := q_o180 (a := 0) (b := 132) (by decide +kernel)
theorem dX10_takeTree_94 : decode cX10_takeTree 94 = .ok (.if_icmp .ge 44, 3) := q_o162 (a := 0) (b := 44) (by decide +kernel) rfl
theorem dX10_takeTree_97 : decode cX10_takeTree 97 = .ok (.aload_n 0, 1) := q_o42 (by decide +kernel)
theorem dX10_takeTree_98 : decode cX10_takeTree 98 = .ok (.iload_n 1, 1) := q_o27 (by decide +kernel)
theorem dX10_takeTree_99 : decode cX10_takeTree 99 = .ok (.invokevirtual 148, 3) := q_o182 (a := 0) (b := 148) (by decide +kernel)
theorem dX10_takeTree_102 : decode cX10_takeTree 102 = .ok (.aload_n 0, 1) := q_o42 (by decide +kernel)
theorem dX10_takeTree_103 : decode cX10_takeTree 103 = .ok (.getfield 31, 3) := q_o180 (a := 0) (b := 31) (by decide +kernel)
theorem dX10_takeTree_106 : decode cX10_takeTree 106 = .ok (.bipush 72, 2) := q_o16 (a := 72) (by decide +kernel) rfl
theorem dX10_takeTree_108 : decode cX10_takeTree 108 = .ok (.iload_n 1, 1) := q_o27 (by decide +kernel)
theorem dX10_takeTree_109 : decode cX10_takeTree 109 = .ok (.iadd, 1) := q_o96 (by decide +kernel)
theorem dX10_takeTree_110 : decode cX10_takeTree 110 = .ok (.aload_n 0, 1) := q_o42 (by decide +kernel)
theorem dX10_takeTree_111 : decode cX10_takeTree 111 = .ok (.iload_n 1, 1) := q_o27 (by decide +kernel)
theorem dX10_takeTree_112 : decode cX10_takeTree 112 = .ok (.iconst 3, 1) := q_o6 (by decide +kernel)
theorem dX10_takeTree_113 : decode cX10_takeTree 113 = .ok (.invokevirtual 142, 3) := q_o182 (a := 0) (b := 142) (by decide +kernel)
theorem dX10_takeTree_116 : decode cX10_takeTree 116 = .ok (.iastore, 1) := q_o79 (by decide +kernel)
theorem dX10_takeTree_117 : decode cX10_takeTree 117 = .ok (.aload_n 0, 1) := q_o42 (by decide +kernel)
theorem dX10_takeTree_118 : decode cX10_takeTree 118 = .ok (.getfield 31, 3) := q_o180 (a := 0) (b := 31) (by decide +kernel)
theorem dX10_takeTree_121 : decode cX10_takeTree 121 = .ok (.bipush 80, 2) := q_o16 (a := 80) (by decide +kernel) rfl
theorem dX10_takeTree_123 : decode cX10_takeTree 123 = .ok (.iload_n 1, 1) := q_o27 (by decide +kernel)
theorem dX10_takeTree_124 : decode cX10_takeTree 124 = .ok (.iadd, 1) := q_o96 (by decide +kernel)
theorem dX10_takeTree_125 : decode cX10_takeTree 125 = .ok (.aload_n 0, 1) := q_o42 (by decide +kernel)
theorem dX10_takeTree_126 : decode cX10_takeTree 126 = .ok (.iload_n 1, 1) := q_o27 (by decide +kernel)
theorem dX10_takeTree_127 : decode cX10_takeTree 127 = .ok (.iconst 5, 1) := q_o8 (by decide +kernel)
theorem dX10_takeTree_128 : decode cX10_takeTree 128 = .ok (.invokevirtual 142, 3) := q_o182 (a := 0) (b := 142) (by decide +kernel)
theorem dX10_takeTree_131 : decode cX10_takeTree 131 = .ok (.iastore, 1) := q_o79 (by decide +kernel)
theorem dX10_takeTree_132 : decode cX10_takeTree 132 = .ok (.iinc 1 1, 3) := q_o132 (a := 1) (b := 1) (by decide +kernel) rfl
theorem dX10_takeTree_135 : decode cX10_takeTree 135 = .ok (.goto (-46), 3) := q_o167 (a := 255) (b := 210) (by decide +kernel) rfl
theorem dX10_takeTree_138 : decode cX10_takeTree 138 = .ok (.aload_n 0, 1) := q_o42 (by decide +kernel)
theorem dX10_takeTree_139 : decode cX10_takeTree 139 = .ok (.iconst 0, 1) := q_o3 (by decide +kernel)
theorem dX10_takeTree_140 : decode cX10_takeTree 140 = .ok (.putfield 151, 3) := q_o181 (a := 0) (b := 151) (by decide +kernel)
theorem dX10_takeTree_143 : decode cX10_takeTree 143 = .ok (.aload_n 0, 1) := q_o42 (by decide +kernel)
theorem dX10_takeTree_144 : decode cX10_takeTree 144 = .ok (.iconst 0, 1) := q_o3 (by decide +kernel)
theorem dX10_takeTree_145 : decode cX10_takeTree 145 = .ok (.putfield 154, 3) := q_o181 (a := 0) (b := 154) (by decide +kernel)
theorem dX10_takeTree_148 : decode cX10_takeTree 148 = .ok (.aload_n 0, 1) := q_o42 (by decide +kernel)
theorem dX10_takeTree_149 : decode cX10_takeTree 149 = .ok (.getfield 132, 3) := q_o180 (a := 0) (b := 132) (by decide +kernel)
theorem dX10_takeTree_152 : decode cX10_takeTree 152 = .ok (.ireturn, 1) := q_o172 (by decide +kernel)
theorem dX10_text_0 : decode cX10_text 0 = .ok (.iload_n 1, 1) := q_o27 (by decide +kernel)
theorem dX10_text_1 : decode cX10_text 1 = .ok (.ifCond .ne 21, 3) := q_o154 (a := 0) (b := 21) (by decide +kernel) rfl
theorem dX10_text_4 : decode cX10_text 4 = .ok (.aload_n 0, 1) := q_o42 (by decide +kernel)
theorem dX10_text_5 : decode cX10_text 5 = .ok (.invokevirtual 126, 3) := q_o182 (a := 0) (b := 126) (by decide +kernel)
theorem dX10_text_8 : decode cX10_text 8 = .ok (.iconst (-1), 1) := q_o2 (by decide +kernel)
theorem dX10_text_9 : decode cX10_text 9 = .ok (.if_icmp .ne 13, 3) := q_o160 (a := 0) (b := 13) (by decide +kernel) rfl
theorem dX10_text_12 : decode cX10_text 12 = .ok (.aload_n 0, 1) := q_o42 (by decide +kernel)
theorem dX10_text_13 : decode cX10_text 13 = .ok (.iconst 0, 1) := q_o3 (by decide +kernel)
theorem dX10_text_14 : decode cX10_text 14 = .ok (.putfield 60, 3) := q_o181 (a := 0) (b := 60) (by decide +kernel)
theorem dX10_text_17 : decode cX10_text 17 = .ok (.aload_n 0, 1) := q_o42 (by decide +kernel)
theorem dX10_text_18 : decode cX10_text 18 = .ok (.invokevirtual 158, 3) := q_o182 (a := 0) (b := 158) (by decide +kernel)
theorem dX10_text_21 : decode cX10_text 21 = .ok (.ireturn, 1) := q_o172 (by decide +kernel)
theorem dX10_text_22 : decode cX10_text 22 = .ok (.iload_n 1, 1) := q_o27 (by decide +kernel)
theorem dX10_text_23 : decode cX10_text 23 = .ok (.iconst 1, 1) := q_o4 (by decide +kernel)
theorem dX10_text_24 : decode cX10_text 24 = .ok (.if_icmp .ne 45, 3) := q_o160 (a := 0) (b := 45) (by decide +kernel) rfl
theorem dX10_text_27 : decode cX10_text 27 = .ok (.aload_n 0, 1) := q_o42 (by decide +kernel)
theorem dX10_text_28 : decode cX10_text 28 = .ok (.getfield 161, 3) := q_o180 (a := 0) (b := 161) (by decide +kernel)
theorem dX10_text_31 : decode cX10_text 31 = .ok (.iconst 4, 1) := q_o7 (by decide +kernel)
theorem dX10_text_32 : decode cX10_text 32 = .ok (.if_icmp .ge 37, 3) := q_o162 (a := 0) (b := 37) (by decide +kernel) rfl
theorem dX10_text_35 : decode cX10_text 35 = .ok (.aload_n 0, 1) := q_o42 (by decide +kernel)
theorem dX10_text_36 : decode cX10_text 36 = .ok (.aload_n 0, 1) := q_o42 (by decide +kernel)
theorem dX10_text_37 : decode cX10_text 37 = .ok (.getfield 161, 3) := q_o180 (a := 0) (b := 161) (by decide +kernel)
theorem dX10_text_40 : decode cX10_text 40 = .ok (.invokevirtual 129, 3) := q_o182 (a := 0) (b := 129) (by decide +kernel)
theorem dX10_text_43 : decode cX10_text 43 = .ok (.iconst (-1), 1) := q_o2 (by decide +kernel)
theorem dX10_text_44 : decode cX10_text 44 = .ok (.if_icmp .ne 25, 3) := q_o160 (a := 0) (b := 25) (by decide +kernel) rfl
theorem dX10_text_47 : decode cX10_text 47 = .ok (.aload_n 0, 1) := q_o42 (by decide +kernel)
theorem dX10_text_48 : decode cX10_text 48 = .ok (.iconst 0, 1) := q_o3 (by decide +kernel)
theorem dX10_text_49 : decode cX10_text 49 = .ok (.putfield 60, 3) := q_o181 (a := 0) (b := 60) (by decide +kernel)
theorem dX10_text_52 : decode cX10_text 52 = .ok (.aload_n 0, 1) := q_o42 (by decide +kernel)
theorem dX10_text_53 : decode cX10_text 53 = .ok (.dup, 1) := q_o89 (by decide +kernel)
theorem dX10_text_54 : decode cX10_text 54 = .ok (.getfield 161, 3) := q_o180 (a := 0) (b := 161) (by decide +kernel)
theorem dX10_text_57 : decode cX10_text 57 = .ok (.iconst 1, 1) := q_o4 (by decide +kernel)
theorem dX10_text_58 : decode cX10_text 58 = .ok (.iadd, 1) := q_o96 (by decide +kernel)
theorem dX10_text_59 : decode cX10_text 59 = .ok (.putfield 161, 3) := q_o181 (a := 0) (b := 161) (by decide +kernel)
theorem dX10_text_62 : decode cX10_text 62 = .ok (.aload_n 0, 1) := q_o42 (by decide +kernel)
theorem dX10_text_63 : decode cX10_text 63 = .ok (.getfield 161, 3) := q_o180 (a := 0) (b := 161) (by decide +kernel)
theorem dX10_text_66 : decode cX10_text 66 = .ok (.iconst 1, 1) := q_o4 (by decide +kernel)
theorem dX10_text_67 : decode cX10_text 67 = .ok (.isub, 1) := q_o100 (by decide +kernel)
theorem dX10_text_68 : decode cX10_text 68 = .ok (.ireturn, 1) := q_o172 (by decide +kernel)
theorem dX10_text_69 : decode cX10_text 69 = .ok (.iconst (-1), 1) := q_o2 (by decide +kernel)
theorem dX10_text_70 : decode cX10_text 70 = .ok (.ireturn, 1) := q_o172 (by decide +kernel)
theorem dX10_toldOf_0 : decode cX10_toldOf 0 = .ok (.aload_n 0, 1) := q_o42 (by decide +kernel)
theorem dX10_toldOf_1 : decode cX10_toldOf 1 = .ok (.getfield 22, 3) := q_o180 (a := 0) (b := 22) (by decide +kernel)
theorem dX10_toldOf_4 : decode cX10_toldOf 4 = .ok (.bipush 6, 2) := q_o16 (a := 6) (by decide +kernel) rfl
theorem dX10_toldOf_6 : decode cX10_toldOf 6 = .ok (.iload_n 1, 1) := q_o27 (by decide +kernel)
theorem dX10_toldOf_7 : decode cX10_toldOf 7 = .ok (.imul, 1) := q_o104 (by decide +kernel)
theorem dX10_toldOf_8 : decode cX10_toldOf 8 = .ok (.iload_n 2, 1) := q_o28 (by decide +kernel)
theorem dX10_toldOf_9 : decode cX10_toldOf 9 = .ok (.iadd, 1) := q_o96 (by decide +kernel)
theorem dX10_toldOf_10 : decode cX10_toldOf 10 = .ok (.iaload, 1) := q_o46 (by decide +kernel)
theorem dX10_toldOf_11 : decode cX10_toldOf 11 = .ok (.ireturn, 1) := q_o172 (by decide +kernel)
theorem dX10_usual_0 : decode cX10_usual 0 = .ok (.iload_n 0, 1) := q_o26 (by decide +kernel)
theorem dX10_usual_1 : decode cX10_usual 1 = .ok (.bipush 115, 2) := q_o16 (a := 115) (by decide +kernel) rfl
theorem dX10_usual_3 : decode cX10_usual 3 = .ok (.if_icmp .ne 62, 3) := q_o160 (a := 0) (b := 62) (by decide +kernel) rfl
theorem dX10_usual_6 : decode cX10_usual 6 = .ok (.iload_n 1, 1) := q_o27 (by decide +kernel)
theorem dX10_usual_7 : decode cX10_usual 7 = .ok (.tableswitch 55 0 6 #[41, 43, 45, 45, 47, 49, 52], 41) := by decide +kernel
theorem dX10_usual_48 : decode cX10_usual 48 = .ok (.iconst 4, 1) := q_o7 (by decide +kernel)
theorem dX10_usual_49 : decode cX10_usual 49 = .ok (.ireturn, 1) := q_o172 (by decide +kernel)
theorem dX10_usual_50 : decode cX10_usual 50 = .ok (.iconst 3, 1) := q_o6 (by decide +kernel)
theorem dX10_usual_51 : decode cX10_usual 51 = .ok (.ireturn, 1) := q_o172 (by decide +kernel)
theorem dX10_usual_52 : decode cX10_usual 52 = .ok (.iconst 2, 1) := q_o5 (by decide +kernel)
theorem dX10_usual_53 : decode cX10_usual 53 = .ok (.ireturn, 1) := q_o172 (by decide +kernel)
theorem dX10_usual_54 : decode cX10_usual 54 = .ok (.iconst 5, 1) := q_o8 (by decide +kernel)
theorem dX10_usual_55 : decode cX10_usual 55 = .ok (.ireturn, 1) := q_o172 (by decide +kernel)
theorem dX10_usual_56 : decode cX10_usual 56 = .ok (.bipush 99, 2) := q_o16 (a := 99) (by decide +kernel) rfl
theorem dX10_usual_58 : decode cX10_usual 58 = .ok (.ireturn, 1) := q_o172 (by decide +kernel)
theorem dX10_usual_59 : decode cX10_usual 59 = .ok (.bipush 60, 2) := q_o16 (a := 60) (by decide +kernel) rfl
theorem dX10_usual_61 : decode cX10_usual 61 = .ok (.ireturn, 1) := q_o172 (by decide +kernel)
theorem dX10_usual_62 : decode cX10_usual 62 = .ok (.bipush 9, 2) := q_o16 (a := 9) (by decide +kernel) rfl
theorem dX10_usual_64 : decode cX10_usual 64 = .ok (.ireturn, 1) := q_o172 (by decide +kernel)
theorem dX10_usual_65 : decode cX10_usual 65 = .ok (.iload_n 1, 1) := q_o27 (by decide +kernel)
theorem dX10_usual_66 : decode cX10_usual 66 = .ok (.iconst 1, 1) := q_o4 (by decide +kernel)
theorem dX10_usual_67 : decode cX10_usual 67 = .ok (.if_icmp .eq 8, 3) := q_o159 (a := 0) (b := 8) (by decide +kernel) rfl
theorem dX10_usual_70 : decode cX10_usual 70 = .ok (.iload_n 1, 1) := q_o27 (by decide +kernel)
theorem dX10_usual_71 : decode cX10_usual 71 = .ok (.iconst 2, 1) := q_o5 (by decide +kernel)
theorem dX10_usual_72 : decode cX10_usual 72 = .ok (.if_icmp .ne 7, 3) := q_o160 (a := 0) (b := 7) (by decide +kernel) rfl
theorem dX10_usual_75 : decode cX10_usual 75 = .ok (.iconst 1, 1) := q_o4 (by decide +kernel)
theorem dX10_usual_76 : decode cX10_usual 76 = .ok (.goto 13, 3) := q_o167 (a := 0) (b := 13) (by decide +kernel) rfl
theorem dX10_usual_79 : decode cX10_usual 79 = .ok (.iload_n 1, 1) := q_o27 (by decide +kernel)
theorem dX10_usual_80 : decode cX10_usual 80 = .ok (.iconst 4, 1) := q_o7 (by decide +kernel)
theorem dX10_usual_81 : decode cX10_usual 81 = .ok (.if_icmp .ne 7, 3) := q_o160 (a := 0) (b := 7) (by decide +kernel) rfl
theorem dX10_usual_84 : decode cX10_usual 84 = .ok (.iconst 4, 1) := q_o7 (by decide +kernel)
theorem dX10_usual_85 : decode cX10_usual 85 = .ok (.goto 4, 3) := q_o167 (a := 0) (b := 4) (by decide +kernel) rfl
theorem dX10_usual_88 : decode cX10_usual 88 = .ok (.iconst 0, 1) := q_o3 (by decide +kernel)
theorem dX10_usual_89 : decode cX10_usual 89 = .ok (.ireturn, 1) := q_o172 (by decide +kernel)
theorem hdS_yX10_byteOf_6 : yX10_byteOf.cls ≠ "java/lang/invoke/MethodHandle" ∧ yX10_byteOf.cls ≠ "java/lang/invoke/VarHandle" ∧ (parseMethodDescriptor yX10_byteOf.desc).map (fun d => d.parameters.length) = some 6 := by decide +kernel
theorem hdS_yX10_has_2 : yX10_has.cls ≠ "java/lang/invoke/MethodHandle" ∧ yX10_has.cls ≠ "java/lang/invoke/VarHandle" ∧ (parseMethodDescriptor yX10_has.desc).map (fun d => d.parameters.length) = some 2 := by decide +kernel
theorem hdS_yX10_highest_2 : yX10_highest.cls ≠ "java/lang/invoke/MethodHandle" ∧ yX10_highest.cls ≠ "java/lang/invoke/VarHandle" ∧ (parseMethodDescriptor yX10_highest.desc).map (fun d => d.parameters.length) = some 2 := by decide +kernel
theorem hdS_yX10_in_3 : yX10_in.cls ≠ "java/lang/invoke/MethodHandle" ∧ yX10_in.cls ≠ "java/lang/invoke/VarHandle" ∧ (parseMethodDescriptor yX10_in.desc).map (fun d => d.parameters.length) = some 3 := by decide +kernel
theorem hdS_yX10_isDigit_1 : yX10_isDigit.cls ≠ "java/lang/invoke/MethodHandle" ∧ yX10_isDigit.cls ≠ "java/lang/invoke/VarHandle" ∧ (parseMethodDescriptor yX10_isDigit.desc).map (fun d => d.parameters.length) = some 1 := by decide +kernel
theorem hdS_yX10_itemOf_2 : yX10_itemOf.cls ≠ "java/lang/invoke/MethodHandle" ∧ yX10_itemOf.cls ≠ "java/lang/invoke/VarHandle" ∧ (parseMethodDescriptor yX10_itemOf.desc).map (fun d => d.parameters.length) = some 2 := by decide +kernel
theorem hdS_yX10_lowest_2 : yX10_lowest.cls ≠ "java/lang/invoke/MethodHandle" ∧ yX10_lowest.cls ≠ "java/lang/invoke/VarHandle" ∧ (parseMethodDescriptor yX10_lowest.desc).map (fun d => d.parameters.length) = some 2 := by decide +kernel
theorem hdS_yX10_sortOf_1 : yX10_sortOf.cls ≠ "java/lang/invoke/MethodHandle" ∧ yX10_sortOf.cls ≠ "java/lang/invoke/VarHandle" ∧ (parseMethodDescriptor yX10_sortOf.desc).map (fun d => d.parameters.length) = some 1 := by decide +kernel
theorem hdS_yX10_usual_2 : yX10_usual.cls ≠ "java/lang/invoke/MethodHandle" ∧ yX10_usual.cls ≠ "java/lang/invoke/VarHandle" ∧ (parseMethodDescriptor yX10_usual.desc).map (fun d => d.parameters.length) = some 2 := by decide +kernel
theorem hdV_yX10_ahead_0 : yX10_ahead.cls = RX10 ∧ yX10_ahead.cls ≠ "java/lang/invoke/MethodHandle" ∧ yX10_ahead.cls ≠ "java/lang/invoke/VarHandle" ∧ (parseMethodDescriptor yX10_ahead.desc).map (fun d => d.parameters.length) = some 0 := by decide +kernel
theorem hdV_yX10_bad_0 : yX10_bad.cls = RX10 ∧ yX10_bad.cls ≠ "java/lang/invoke/MethodHandle" ∧ yX10_bad.cls ≠ "java/lang/invoke/VarHandle" ∧ (parseMethodDescriptor yX10_bad.desc).map (fun d => d.parameters.length) = some 0 := by decide +kernel
theorem hdV_yX10_clear_1 : yX10_clear.cls = RX10 ∧ yX10_clear.cls ≠ "java/lang/invoke/MethodHandle" ∧ yX10_clear.cls ≠ "java/lang/invoke/VarHandle" ∧ (parseMethodDescriptor yX10_clear.desc).map (fun d => d.parameters.length) = some 1 := by decide +kernel
theorem hdV_yX10_digit_0 : yX10_digit.cls = RX10 ∧ yX10_digit.cls ≠ "java/lang/invoke/MethodHandle" ∧ yX10_digit.cls ≠ "java/lang/invoke/VarHandle" ∧ (parseMethodDescriptor yX10_digit.desc).map (fun d => d.parameters.length) = some 0 := by decide +kernel
theorem hdV_yX10_here_0 : yX10_here.cls = RX10 ∧ yX10_here.cls ≠ "java/lang/invoke/MethodHandle" ∧ yX10_here.cls ≠ "java/lang/invoke/VarHandle" ∧ (parseMethodDescriptor yX10_here.desc).map (fun d => d.parameters.length) = some 0 := by decide +kernel
theorem hdV_yX10_isDevice_1 : yX10_isDevice.cls = RX10 ∧ yX10_isDevice.cls ≠ "java/lang/invoke/MethodHandle" ∧ yX10_isDevice.cls ≠ "java/lang/invoke/VarHandle" ∧ (parseMethodDescriptor yX10_isDevice.desc).map (fun d => d.parameters.length) = some 1 := by decide +kernel
theorem hdV_yX10_isTree_0 : yX10_isTree.cls = RX10 ∧ yX10_isTree.cls ≠ "java/lang/invoke/MethodHandle" ∧ yX10_isTree.cls ≠ "java/lang/invoke/VarHandle" ∧ (parseMethodDescriptor yX10_isTree.desc).map (fun d => d.parameters.length) = some 0 := by decide +kernel
theorem hdV_yX10_items_4 : yX10_items.cls = RX10 ∧ yX10_items.cls ≠ "java/lang/invoke/MethodHandle" ∧ yX10_items.cls ≠ "java/lang/invoke/VarHandle" ∧ (parseMethodDescriptor yX10_items.desc).map (fun d => d.parameters.length) = some 4 := by decide +kernel
theorem hdV_yX10_number_3 : yX10_number.cls = RX10 ∧ yX10_number.cls ≠ "java/lang/invoke/MethodHandle" ∧ yX10_number.cls ≠ "java/lang/invoke/VarHandle" ∧ (parseMethodDescriptor yX10_number.desc).map (fun d => d.parameters.length) = some 3 := by decide +kernel
theorem hdV_yX10_readScript_1 : yX10_readScript.cls = RX10 ∧ yX10_readScript.cls ≠ "java/lang/invoke/MethodHandle" ∧ yX10_readScript.cls ≠ "java/lang/invoke/VarHandle" ∧ (parseMethodDescriptor yX10_readScript.desc).map (fun d => d.parameters.length) = some 1 := by decide +kernel
theorem hdV_yX10_readStep_1 : yX10_readStep.cls = RX10 ∧ yX10_readStep.cls ≠ "java/lang/invoke/MethodHandle" ∧ yX10_readStep.cls ≠ "java/lang/invoke/VarHandle" ∧ (parseMethodDescriptor yX10_readStep.desc).map (fun d => d.parameters.length) = some 1 := by decide +kernel
theorem hdV_yX10_readTree_0 : yX10_readTree.cls = RX10 ∧ yX10_readTree.cls ≠ "java/lang/invoke/MethodHandle" ∧ yX10_readTree.cls ≠ "java/lang/invoke/VarHandle" ∧ (parseMethodDescriptor yX10_readTree.desc).map (fun d => d.parameters.length) = some 0 := by decide +kernel
theorem hdV_yX10_state_1 : yX10_state.cls = RX10 ∧ yX10_state.cls ≠ "java/lang/invoke/MethodHandle" ∧ yX10_state.cls ≠ "java/lang/invoke/VarHandle" ∧ (parseMethodDescriptor yX10_state.desc).map (fun d => d.parameters.length) = some 1 := by decide +kernel
theorem hdV_yX10_takeTree_0 : yX10_takeTree.cls = RX10 ∧ yX10_takeTree.cls ≠ "java/lang/invoke/MethodHandle" ∧ yX10_takeTree.cls ≠ "java/lang/invoke/VarHandle" ∧ (parseMethodDescriptor yX10_takeTree.desc).map (fun d => d.parameters.length) = some 0 := by decide +kernel
theorem hdV_yX10_toldOf_2 : yX10_toldOf.cls = RX10 ∧ yX10_toldOf.cls ≠ "java/lang/invoke/MethodHandle" ∧ yX10_toldOf.cls ≠ "java/lang/invoke/VarHandle" ∧ (parseMethodDescriptor yX10_toldOf.desc).map (fun d => d.parameters.length) = some 2 := by decide +kernel
def F_X10_in (v : Int32) (lo : Int32) (hi2 : Int32) : Option (Int32) := (if v < lo then some (0) else (if hi2 < v then some (0) else some (1)))
set_option maxHeartbeats 4000000 in
set_option maxRecDepth 100000 in
theorem c_X10_in (l : Launch) (dC : Nat → ClassId) (dI : Nat → Nat → Nat) (v : Int32) (lo : Int32) (hi2 : Int32) (o : Int32) (hG : F_X10_in v lo hi2 = some o) : Met l yX10_in (.code yX10_in cX10_in 3 (some .boolean) :: wA) ({ frames := 0, cells := 0, slots := 0, locals := 0 }) (va_Pc [.int v, .int lo, .int hi2] (q_R (dC, dI) [] [])) (q_i o) 0 0 (fun _ => False) := by
  refine Met.ofW (cc := cX10_in) (maxL := 3) (ret := (some .boolean)) (by decide) rfl ?_
  intro p e s m args below meth c s₁ B hml hv
  obtain ⟨rfl, hP, hK⟩ := hv
  have hx := B.exec
  have hb := B.bytes
  have hr := B.returns
  have hts := atoms_spec (ws := .code yX10_in cX10_in 3 (some .boolean) :: wA) B.pre
  have hown : s.vm.findClass RX10 = some m.cls := findClass_of_methodNamed B.named
  have hlocks := B.notSynchronized
  have hS : va_S (fun _ => False) s.heap s.heap [] := va_S.rf
  have hl := lv_entry ([.int v, .int lo, .int hi2]) (n := 3) (Nat.le_of_ble_eq_true rfl)
  rw [lg_entry_eq]
  generalize (lg_sl ([.int v, .int lo, .int hi2]) ++ List.replicate (3 - (lg_sl ([.int v, .int lo, .int hi2])).length) Slot.unset).toArray = ls at hl ⊢
  have hl : lv_has ls 3 [(0, .int v), (1, .int lo), (2, .int hi2)] := hl
  unfold F_X10_in at hG
  refine lv_iload_n hx hb dX10_in_0 rfl (lv_at hl 0 rfl) ?_
  refine lv_iload_n hx hb dX10_in_1 rfl (lv_at hl 1 rfl) ?_
  refine lv_icmp_lt (tgt := 14) hx hb dX10_in_2 (by decide) (fun c_1 => ?_) (fun c_1 => ?_)
  · have hG := q_ifp c_1 hG
    refine lv_iconst (v := 0) hx hb dX10_in_14 (by decide) ?_
    obtain rfl := Option.some.inj hG
    exact W.zret (v := 0) hx hb hr rfl (fun t ht hW => ⟨⟨0, (), rfl, rfl, trivial⟩, hS.F ht⟩) hS.2.2 dX10_in_15
  · have hG := q_ifn c_1 hG
    refine lv_iload_n hx hb dX10_in_5 rfl (lv_at hl 0 rfl) ?_
    refine lv_iload_n hx hb dX10_in_6 rfl (lv_at hl 2 rfl) ?_
    refine lv_icmp_gt (tgt := 14) hx hb dX10_in_7 (by decide) (fun c_2 => ?_) (fun c_2 => ?_)
    · have hG := q_ifp c_2 hG
      refine lv_iconst (v := 0) hx hb dX10_in_14 (by decide) ?_
      obtain rfl := Option.some.inj hG
      exact W.zret (v := 0) hx hb hr rfl (fun t ht hW => ⟨⟨0, (), rfl, rfl, trivial⟩, hS.F ht⟩) hS.2.2 dX10_in_15
    · have hG := q_ifn c_2 hG
      refine lv_iconst (v := 1) hx hb dX10_in_10 (by decide) ?_
      refine lv_goto (tgt := 15) hx hb dX10_in_11 (by decide) ?_
      obtain rfl := Option.some.inj hG
      exact W.zret (v := 1) hx hb hr rfl (fun t ht hW => ⟨⟨1, (), rfl, rfl, trivial⟩, hS.F ht⟩) hS.2.2 dX10_in_15

def F_X10_has (v : Int32) (k2 : Int32) : Option (Int32) := (if ((v >>> (k2 &&& 31)) &&& 1) = 1 then some (1) else some (0))
set_option maxHeartbeats 4000000 in
set_option maxRecDepth 100000 in
theorem c_X10_has (l : Launch) (dC : Nat → ClassId) (dI : Nat → Nat → Nat) (v : Int32) (k2 : Int32) (o : Int32) (hG : F_X10_has v k2 = some o) : Met l yX10_has (.code yX10_has cX10_has 2 (some .boolean) :: wA) ({ frames := 0, cells := 0, slots := 0, locals := 0 }) (va_Pc [.int v, .int k2] (q_R (dC, dI) [] [])) (q_i o) 0 0 (fun _ => False) := by
  refine Met.ofW (cc := cX10_has) (maxL := 2) (ret := (some .boolean)) (by decide) rfl ?_
  intro p e s m args below meth c s₁ B hml hv
  obtain ⟨rfl, hP, hK⟩ := hv
  have hx := B.exec
  have hb := B.bytes
  have hr := B.returns
  have hts := atoms_spec (ws := .code yX10_has cX10_has 2 (some .boolean) :: wA) B.pre
  have hown : s.vm.findClass RX10 = some m.cls := findClass_of_methodNamed B.named
  have hlocks := B.notSynchronized
  have hS : va_S (fun _ => False) s.heap s.heap [] := va_S.rf
  have hl := lv_entry ([.int v, .int k2]) (n := 2) (Nat.le_of_ble_eq_true rfl)
  rw [lg_entry_eq]
  generalize (lg_sl ([.int v, .int k2]) ++ List.replicate (2 - (lg_sl ([.int v, .int k2])).length) Slot.unset).toArray = ls at hl ⊢
  have hl : lv_has ls 2 [(0, .int v), (1, .int k2)] := hl
  unfold F_X10_has at hG
  refine lv_iload_n hx hb dX10_has_0 rfl (lv_at hl 0 rfl) ?_
  refine lv_iload_n hx hb dX10_has_1 rfl (lv_at hl 1 rfl) ?_
  refine lv_ishr hx hb dX10_has_2 ?_
  refine lv_iconst (v := 1) hx hb dX10_has_3 (by decide) ?_
  refine lv_iand hx hb dX10_has_4 ?_
  refine lv_iconst (v := 1) hx hb dX10_has_5 (by decide) ?_
  refine lv_icmp_ne (tgt := 13) hx hb dX10_has_6 (by decide) (fun c_1 => ?_) (fun c_1 => ?_)
  · have hG := q_ifn c_1 hG
    refine lv_iconst (v := 0) hx hb dX10_has_13 (by decide) ?_
    obtain rfl := Option.some.inj hG
    exact W.zret (v := 0) hx hb hr rfl (fun t ht hW => ⟨⟨0, (), rfl, rfl, trivial⟩, hS.F ht⟩) hS.2.2 dX10_has_14
  · have hG := q_ifp c_1 hG
    refine lv_iconst (v := 1) hx hb dX10_has_9 (by decide) ?_
    refine lv_goto (tgt := 14) hx hb dX10_has_10 (by decide) ?_
    obtain rfl := Option.some.inj hG
    exact W.zret (v := 1) hx hb hr rfl (fun t ht hW => ⟨⟨1, (), rfl, rfl, trivial⟩, hS.F ht⟩) hS.2.2 dX10_has_14

def FL_X10_bits_4 (v : Int32) : Nat → Int32 → Int32 → Option (Int32)
  | 0, _, _ => none
  | n + 1, x1_4, x2_4 => (if 8 ≤ x2_4 then some (x1_4) else (FL_X10_bits_4 v n (x1_4 + ((v >>> (x2_4 &&& 31)) &&& 1)) (x2_4 + 1)))

def F_X10_bits (v : Int32) : Option (Int32) := (FL_X10_bits_4 v 1000 0 0)
set_option maxHeartbeats 4000000 in
set_option maxRecDepth 100000 in
theorem c_X10_bits (l : Launch) (dC : Nat → ClassId) (dI : Nat → Nat → Nat) (v : Int32) (o : Int32) (hG : F_X10_bits v = some o) : Met l yX10_bits (.code yX10_bits cX10_bits 3 (some .int) :: wA) ({ frames := 0, cells := 0, slots := 0, locals := 0 }) (va_Pc [.int v] (q_R (dC, dI) [] [])) (q_i o) 0 0 (fun _ => False) := by
  refine Met.ofW (cc := cX10_bits) (maxL := 3) (ret := (some .int)) (by decide) rfl ?_
  intro p e s m args below meth c s₁ B hml hv
  obtain ⟨rfl, hP, hK⟩ := hv
  have hx := B.exec
  have hb := B.bytes
  have hr := B.returns
  have hts := atoms_spec (ws := .code yX10_bits cX10_bits 3 (some .int) :: wA) B.pre
  have hown : s.vm.findClass RX10 = some m.cls := findClass_of_methodNamed B.named
  have hlocks := B.notSynchronized
  have hS : va_S (fun _ => False) s.heap s.heap [] := va_S.rf
  have hl := lv_entry ([.int v]) (n := 3) (Nat.le_of_ble_eq_true rfl)
  rw [lg_entry_eq]
  generalize (lg_sl ([.int v]) ++ List.replicate (3 - (lg_sl ([.int v])).length) Slot.unset).toArray = ls at hl ⊢
  have hl : lv_has ls 3 [(0, .int v)] := hl
  unfold F_X10_bits at hG
  refine lv_iconst (v := 0) hx hb dX10_bits_0 (by decide) ?_
  refine lv_istore_n (lv' := [(1, .int 0), (0, .int v)]) hx hb dX10_bits_1 rfl hl (by decide) rfl (fun ls hl => ?_)
  refine lv_iconst (v := 0) hx hb dX10_bits_2 (by decide) ?_
  refine lv_istore_n (lv' := [(2, .int 0), (1, .int 0), (0, .int v)]) hx hb dX10_bits_3 rfl hl (by decide) rfl (fun ls hl => ?_)
  have L_4 : ∀ (n_4 : Nat) (x1_4 : Int32) (x2_4 : Int32) (H : Heap) (locs : List Loc) (ls : Array Slot), FL_X10_bits_4 v n_4 x1_4 x2_4 = some o → va_P (dC, dI) vwCl [] H → va_S (fun _ => False) s.heap H locs → lv_has ls 3 [(2, .int x2_4), (1, .int x1_4), (0, .int v)] → W p l e (headSpec (.code yX10_bits cX10_bits 3 (some .int) :: wA) ({ frames := 0, cells := 0, slots := 0, locals := 0 })).room s m #[.int v] below meth c H locs 0 0 (MQ below (q_i o) #[.int v] s 0 0 (fun _ => False)) (F0 m 4 ls []) := by
    intro n_4
    induction n_4 with
    | zero =>
      intro x1_4 x2_4 H locs ls hG
      exact q_no hG
    | succ n_4 ih_4 =>
      intro x1_4 x2_4 H locs ls hG hP hS hl
      unfold FL_X10_bits_4 at hG
      refine lv_iload_n hx hb dX10_bits_4 rfl (lv_at hl 0 rfl) ?_
      refine lv_bipush (v := 8) hx hb dX10_bits_5 (by decide) ?_
      refine lv_icmp_ge (tgt := 24) hx hb dX10_bits_7 (by decide) (fun c_1 => ?_) (fun c_1 => ?_)
      · have hG := q_ifp c_1 hG
        refine lv_iload_n hx hb dX10_bits_24 rfl (lv_at hl 1 rfl) ?_
        obtain rfl := Option.some.inj hG
        exact W.iret (v := x1_4) hx hb hr (fun t ht hW => ⟨⟨x1_4, (), rfl, rfl, trivial⟩, hS.F ht⟩) hS.2.2 dX10_bits_25
      · have hG := q_ifn c_1 hG
        refine lv_iload_n hx hb dX10_bits_10 rfl (lv_at hl 1 rfl) ?_
        refine lv_iload_n hx hb dX10_bits_11 rfl (lv_at hl 2 rfl) ?_
        refine lv_iload_n hx hb dX10_bits_12 rfl (lv_at hl 0 rfl) ?_
        refine lv_ishr hx hb dX10_bits_13 ?_
        refine lv_iconst (v := 1) hx hb dX10_bits_14 (by decide) ?_
        refine lv_iand hx hb dX10_bits_15 ?_
        refine lv_iadd hx hb dX10_bits_16 ?_
        refine lv_istore_n (lv' := [(1, .int (x1_4 + ((v >>> (x2_4 &&& 31)) &&& 1))), (2, .int x2_4), (0, .int v)]) hx hb dX10_bits_17 rfl hl (by decide) rfl (fun ls hl => ?_)
        refine lv_iinc (v := (x2_4 + 1)) (lv' := [(2, .int (x2_4 + 1)), (1, .int (x1_4 + ((v >>> (x2_4 &&& 31)) &&& 1))), (0, .int v)]) hx hb dX10_bits_18 hl (k := 1) rfl (rfl) (by decide) rfl (fun ls hl => ?_)
        refine lv_goto (tgt := 4) hx hb dX10_bits_21 (by decide) ?_
        exact ih_4 (x1_4 + ((v >>> (x2_4 &&& 31)) &&& 1)) (x2_4 + 1) H locs ls hG hP hS (lv_sub hl [0, 1, 2] rfl)
  exact L_4 1000 0 0 s.heap [] ls hG hP hS hl

def F_X10_byteOf (a1 : Int32) (a2 : Int32) (a3 : Int32) (a4 : Int32) (a5 : Int32) (k2 : Int32) : Option (Int32) := (if 4 ≤ k2 then (if 8 ≤ k2 then (if 12 ≤ k2 then (if 16 ≤ k2 then some (((a5 >>> ((24 - (8 * (k2 - k2 / 4 * 4))) &&& 31)) &&& 255)) else some (((a4 >>> ((24 - (8 * (k2 - k2 / 4 * 4))) &&& 31)) &&& 255))) else some (((a3 >>> ((24 - (8 * (k2 - k2 / 4 * 4))) &&& 31)) &&& 255))) else some (((a2 >>> ((24 - (8 * (k2 - k2 / 4 * 4))) &&& 31)) &&& 255))) else some (((a1 >>> ((24 - (8 * (k2 - k2 / 4 * 4))) &&& 31)) &&& 255)))
set_option maxHeartbeats 4000000 in
set_option maxRecDepth 100000 in
theorem c_X10_byteOf (l : Launch) (dC : Nat → ClassId) (dI : Nat → Nat → Nat) (a1 : Int32) (a2 : Int32) (a3 : Int32) (a4 : Int32) (a5 : Int32) (k2 : Int32) (o : Int32) (hG : F_X10_byteOf a1 a2 a3 a4 a5 k2 = some o) : Met l yX10_byteOf (.code yX10_byteOf cX10_byteOf 7 (some .int) :: wA) ({ frames := 0, cells := 0, slots := 0, locals := 0 }) (va_Pc [.int a1, .int a2, .int a3, .int a4, .int a5, .int k2] (q_R (dC, dI) [] [])) (q_i o) 0 0 (fun _ => False) := by
  refine Met.ofW (cc := cX10_byteOf) (maxL := 7) (ret := (some .int)) (by decide) rfl ?_
  intro p e s m args below meth c s₁ B hml hv
  obtain ⟨rfl, hP, hK⟩ := hv
  have hx := B.exec
  have hb := B.bytes
  have hr := B.returns
  have hts := atoms_spec (ws := .code yX10_byteOf cX10_byteOf 7 (some .int) :: wA) B.pre
  have hown : s.vm.findClass RX10 = some m.cls := findClass_of_methodNamed B.named
  have hlocks := B.notSynchronized
  have hS : va_S (fun _ => False) s.heap s.heap [] := va_S.rf
  have hl := lv_entry ([.int a1, .int a2, .int a3, .int a4, .int a5, .int k2]) (n := 7) (Nat.le_of_ble_eq_true rfl)
  rw [lg_entry_eq]
  generalize (lg_sl ([.int a1, .int a2, .int a3, .int a4, .int a5, .int k2]) ++ List.replicate (7 - (lg_sl ([.int a1, .int a2, .int a3, .int a4, .int a5, .int k2])).length) Slot.unset).toArray = ls at hl ⊢
  have hl : lv_has ls 7 [(0, .int a1), (1, .int a2), (2, .int a3), (3, .int a4), (4, .int a5), (5, .int k2)] := hl
  unfold F_X10_byteOf at hG
  refine lv_iload hx hb dX10_byteOf_0 (lv_at hl 5 rfl) ?_
  refine lv_iconst (v := 4) hx hb dX10_byteOf_2 (by decide) ?_
  refine lv_icmp_ge (tgt := 10) hx hb dX10_byteOf_3 (by decide) (fun c_1 => ?_) (fun c_1 => ?_)
  · have hG := q_ifp c_1 hG
    refine lv_iload hx hb dX10_byteOf_10 (lv_at hl 5 rfl) ?_
    refine lv_bipush (v := 8) hx hb dX10_byteOf_12 (by decide) ?_
    refine lv_icmp_ge (tgt := 21) hx hb dX10_byteOf_14 (by decide) (fun c_2 => ?_) (fun c_2 => ?_)
    · have hG := q_ifp c_2 hG
      refine lv_iload hx hb dX10_byteOf_21 (lv_at hl 5 rfl) ?_
      refine lv_bipush (v := 12) hx hb dX10_byteOf_23 (by decide) ?_
      refine lv_icmp_ge (tgt := 32) hx hb dX10_byteOf_25 (by decide) (fun c_3 => ?_) (fun c_3 => ?_)
      · have hG := q_ifp c_3 hG
        refine lv_iload hx hb dX10_byteOf_32 (lv_at hl 5 rfl) ?_
        refine lv_bipush (v := 16) hx hb dX10_byteOf_34 (by decide) ?_
        refine lv_icmp_ge (tgt := 43) hx hb dX10_byteOf_36 (by decide) (fun c_4 => ?_) (fun c_4 => ?_)
        · have hG := q_ifp c_4 hG
          refine lv_iload hx hb dX10_byteOf_43 (lv_at hl 4 rfl) ?_
          refine lv_istore (lv' := [(6, .int a5), (0, .int a1), (1, .int a2), (2, .int a3), (3, .int a4), (4, .int a5), (5, .int k2)]) hx hb dX10_byteOf_45 hl (by decide) rfl (fun ls hl => ?_)
          refine lv_iload hx hb dX10_byteOf_47 (lv_at hl 0 rfl) ?_
          refine lv_bipush (v := 24) hx hb dX10_byteOf_49 (by decide) ?_
          refine lv_bipush (v := 8) hx hb dX10_byteOf_51 (by decide) ?_
          refine lv_iload hx hb dX10_byteOf_53 (lv_at hl 6 rfl) ?_
          refine lv_iconst (v := 4) hx hb dX10_byteOf_55 (by decide) ?_
          refine lv_irem hx hb dX10_byteOf_56 (by decide) ?_
          refine lv_imul hx hb dX10_byteOf_57 ?_
          refine lv_isub hx hb dX10_byteOf_58 ?_
          refine lv_ishr hx hb dX10_byteOf_59 ?_
          refine lv_sipush (v := 255) hx hb dX10_byteOf_60 (by decide) ?_
          refine lv_iand hx hb dX10_byteOf_63 ?_
          obtain rfl := Option.some.inj hG
          exact W.iret (v := ((a5 >>> ((24 - (8 * (k2 - k2 / 4 * 4))) &&& 31)) &&& 255)) hx hb hr (fun t ht hW => ⟨⟨((a5 >>> ((24 - (8 * (k2 - k2 / 4 * 4))) &&& 31)) &&& 255), (), rfl, rfl, trivial⟩, hS.F ht⟩) hS.2.2 dX10_byteOf_64
        · have hG := q_ifn c_4 hG
          refine lv_iload_n hx hb dX10_byteOf_39 rfl (lv_at hl 3 rfl) ?_
          refine lv_goto (tgt := 45) hx hb dX10_byteOf_40 (by decide) ?_
          refine lv_istore (lv' := [(6, .int a4), (0, .int a1), (1, .int a2), (2, .int a3), (3, .int a4), (4, .int a5), (5, .int k2)]) hx hb dX10_byteOf_45 hl (by decide) rfl (fun ls hl => ?_)
          refine lv_iload hx hb dX10_byteOf_47 (lv_at hl 0 rfl) ?_
          refine lv_bipush (v := 24) hx hb dX10_byteOf_49 (by decide) ?_
          refine lv_bipush (v := 8) hx hb dX10_byteOf_51 (by decide) ?_
          refine lv_iload hx hb dX10_byteOf_53 (lv_at hl 6 rfl) ?_
          refine lv_iconst (v := 4) hx hb dX10_byteOf_55 (by decide) ?_
          refine lv_irem hx hb dX10_byteOf_56 (by decide) ?_
          refine lv_imul hx hb dX10_byteOf_57 ?_
          refine lv_isub hx hb dX10_byteOf_58 ?_
          refine lv_ishr hx hb dX10_byteOf_59 ?_
          refine lv_sipush (v := 255) hx hb dX10_byteOf_60 (by decide) ?_
          refine lv_iand hx hb dX10_byteOf_63 ?_
          obtain rfl := Option.some.inj hG
          exact W.iret (v := ((a4 >>> ((24 - (8 * (k2 - k2 / 4 * 4))) &&& 31)) &&& 255)) hx hb hr (fun t ht hW => ⟨⟨((a4 >>> ((24 - (8 * (k2 - k2 / 4 * 4))) &&& 31)) &&& 255), (), rfl, rfl, trivial⟩, hS.F ht⟩) hS.2.2 dX10_byteOf_64
      · have hG := q_ifn c_3 hG
        refine lv_iload_n hx hb dX10_byteOf_28 rfl (lv_at hl 2 rfl) ?_
        refine lv_goto (tgt := 45) hx hb dX10_byteOf_29 (by decide) ?_
        refine lv_istore (lv' := [(6, .int a3), (0, .int a1), (1, .int a2), (2, .int a3), (3, .int a4), (4, .int a5), (5, .int k2)]) hx hb dX10_byteOf_45 hl (by decide) rfl (fun ls hl => ?_)
        refine lv_iload hx hb dX10_byteOf_47 (lv_at hl 0 rfl) ?_
        refine lv_bipush (v := 24) hx hb dX10_byteOf_49 (by decide) ?_
        refine lv_bipush (v := 8) hx hb dX10_byteOf_51 (by decide) ?_
        refine lv_iload hx hb dX10_byteOf_53 (lv_at hl 6 rfl) ?_
        refine lv_iconst (v := 4) hx hb dX10_byteOf_55 (by decide) ?_
        refine lv_irem hx hb dX10_byteOf_56 (by decide) ?_
        refine lv_imul hx hb dX10_byteOf_57 ?_
        refine lv_isub hx hb dX10_byteOf_58 ?_
        refine lv_ishr hx hb dX10_byteOf_59 ?_
        refine lv_sipush (v := 255) hx hb dX10_byteOf_60 (by decide) ?_
        refine lv_iand hx hb dX10_byteOf_63 ?_
        obtain rfl := Option.some.inj hG
        exact W.iret (v := ((a3 >>> ((24 - (8 * (k2 - k2 / 4 * 4))) &&& 31)) &&& 255)) hx hb hr (fun t ht hW => ⟨⟨((a3 >>> ((24 - (8 * (k2 - k2 / 4 * 4))) &&& 31)) &&& 255), (), rfl, rfl, trivial⟩, hS.F ht⟩) hS.2.2 dX10_byteOf_64
    · have hG := q_ifn c_2 hG
      refine lv_iload_n hx hb dX10_byteOf_17 rfl (lv_at hl 1 rfl) ?_
      refine lv_goto (tgt := 45) hx hb dX10_byteOf_18 (by decide) ?_
      refine lv_istore (lv' := [(6, .int a2), (0, .int a1), (1, .int a2), (2, .int a3), (3, .int a4), (4, .int a5), (5, .int k2)]) hx hb dX10_byteOf_45 hl (by decide) rfl (fun ls hl => ?_)
      refine lv_iload hx hb dX10_byteOf_47 (lv_at hl 0 rfl) ?_
      refine lv_bipush (v := 24) hx hb dX10_byteOf_49 (by decide) ?_
      refine lv_bipush (v := 8) hx hb dX10_byteOf_51 (by decide) ?_
      refine lv_iload hx hb dX10_byteOf_53 (lv_at hl 6 rfl) ?_
      refine lv_iconst (v := 4) hx hb dX10_byteOf_55 (by decide) ?_
      refine lv_irem hx hb dX10_byteOf_56 (by decide) ?_
      refine lv_imul hx hb dX10_byteOf_57 ?_
      refine lv_isub hx hb dX10_byteOf_58 ?_
      refine lv_ishr hx hb dX10_byteOf_59 ?_
      refine lv_sipush (v := 255) hx hb dX10_byteOf_60 (by decide) ?_
      refine lv_iand hx hb dX10_byteOf_63 ?_
      obtain rfl := Option.some.inj hG
      exact W.iret (v := ((a2 >>> ((24 - (8 * (k2 - k2 / 4 * 4))) &&& 31)) &&& 255)) hx hb hr (fun t ht hW => ⟨⟨((a2 >>> ((24 - (8 * (k2 - k2 / 4 * 4))) &&& 31)) &&& 255), (), rfl, rfl, trivial⟩, hS.F ht⟩) hS.2.2 dX10_byteOf_64
  · have hG := q_ifn c_1 hG
    refine lv_iload_n hx hb dX10_byteOf_6 rfl (lv_at hl 0 rfl) ?_
    refine lv_goto (tgt := 45) hx hb dX10_byteOf_7 (by decide) ?_
    refine lv_istore (lv' := [(6, .int a1), (0, .int a1), (1, .int a2), (2, .int a3), (3, .int a4), (4, .int a5), (5, .int k2)]) hx hb dX10_byteOf_45 hl (by decide) rfl (fun ls hl => ?_)
    refine lv_iload hx hb dX10_byteOf_47 (lv_at hl 0 rfl) ?_
    refine lv_bipush (v := 24) hx hb dX10_byteOf_49 (by decide) ?_
    refine lv_bipush (v := 8) hx hb dX10_byteOf_51 (by decide) ?_
    refine lv_iload hx hb dX10_byteOf_53 (lv_at hl 6 rfl) ?_
    refine lv_iconst (v := 4) hx hb dX10_byteOf_55 (by decide) ?_
    refine lv_irem hx hb dX10_byteOf_56 (by decide) ?_
    refine lv_imul hx hb dX10_byteOf_57 ?_
    refine lv_isub hx hb dX10_byteOf_58 ?_
    refine lv_ishr hx hb dX10_byteOf_59 ?_
    refine lv_sipush (v := 255) hx hb dX10_byteOf_60 (by decide) ?_
    refine lv_iand hx hb dX10_byteOf_63 ?_
    obtain rfl := Option.some.inj hG
    exact W.iret (v := ((a1 >>> ((24 - (8 * (k2 - k2 / 4 * 4))) &&& 31)) &&& 255)) hx hb hr (fun t ht hW => ⟨⟨((a1 >>> ((24 - (8 * (k2 - k2 / 4 * 4))) &&& 31)) &&& 255), (), rfl, rfl, trivial⟩, hS.F ht⟩) hS.2.2 dX10_byteOf_64

def F_X10_isDigit (v : Int32) : Option (Int32) := (if v < 48 then some (0) else (if 57 < v then some (0) else some (1)))
set_option maxHeartbeats 4000000 in
set_option maxRecDepth 100000 in
theorem c_X10_isDigit (l : Launch) (dC : Nat → ClassId) (dI : Nat → Nat → Nat) (v : Int32) (o : Int32) (hG : F_X10_isDigit v = some o) : Met l yX10_isDigit (.code yX10_isDigit cX10_isDigit 1 (some .boolean) :: wA) ({ frames := 0, cells := 0, slots := 0, locals := 0 }) (va_Pc [.int v] (q_R (dC, dI) [] [])) (q_i o) 0 0 (fun _ => False) := by
  refine Met.ofW (cc := cX10_isDigit) (maxL := 1) (ret := (some .boolean)) (by decide) rfl ?_
  intro p e s m args below meth c s₁ B hml hv
  obtain ⟨rfl, hP, hK⟩ := hv
  have hx := B.exec
  have hb := B.bytes
  have hr := B.returns
  have hts := atoms_spec (ws := .code yX10_isDigit cX10_isDigit 1 (some .boolean) :: wA) B.pre
  have hown : s.vm.findClass RX10 = some m.cls := findClass_of_methodNamed B.named
  have hlocks := B.notSynchronized
  have hS : va_S (fun _ => False) s.heap s.heap [] := va_S.rf
  have hl := lv_entry ([.int v]) (n := 1) (Nat.le_of_ble_eq_true rfl)
  rw [lg_entry_eq]
  generalize (lg_sl ([.int v]) ++ List.replicate (1 - (lg_sl ([.int v])).length) Slot.unset).toArray = ls at hl ⊢
  have hl : lv_has ls 1 [(0, .int v)] := hl
  unfold F_X10_isDigit at hG
  refine lv_iload_n hx hb dX10_isDigit_0 rfl (lv_at hl 0 rfl) ?_
  refine lv_bipush (v := 48) hx hb dX10_isDigit_1 (by decide) ?_
  refine lv_icmp_lt (tgt := 16) hx hb dX10_isDigit_3 (by decide) (fun c_1 => ?_) (fun c_1 => ?_)
  · have hG := q_ifp c_1 hG
    refine lv_iconst (v := 0) hx hb dX10_isDigit_16 (by decide) ?_
    obtain rfl := Option.some.inj hG
    exact W.zret (v := 0) hx hb hr rfl (fun t ht hW => ⟨⟨0, (), rfl, rfl, trivial⟩, hS.F ht⟩) hS.2.2 dX10_isDigit_17
  · have hG := q_ifn c_1 hG
    refine lv_iload_n hx hb dX10_isDigit_6 rfl (lv_at hl 0 rfl) ?_
    refine lv_bipush (v := 57) hx hb dX10_isDigit_7 (by decide) ?_
    refine lv_icmp_gt (tgt := 16) hx hb dX10_isDigit_9 (by decide) (fun c_2 => ?_) (fun c_2 => ?_)
    · have hG := q_ifp c_2 hG
      refine lv_iconst (v := 0) hx hb dX10_isDigit_16 (by decide) ?_
      obtain rfl := Option.some.inj hG
      exact W.zret (v := 0) hx hb hr rfl (fun t ht hW => ⟨⟨0, (), rfl, rfl, trivial⟩, hS.F ht⟩) hS.2.2 dX10_isDigit_17
    · have hG := q_ifn c_2 hG
      refine lv_iconst (v := 1) hx hb dX10_isDigit_12 (by decide) ?_
      refine lv_goto (tgt := 17) hx hb dX10_isDigit_13 (by decide) ?_
      obtain rfl := Option.some.inj hG
      exact W.zret (v := 1) hx hb hr rfl (fun t ht hW => ⟨⟨1, (), rfl, rfl, trivial⟩, hS.F ht⟩) hS.2.2 dX10_isDigit_17

def F_X10_itemOf (v : Int32) (k2 : Int32) : Option (Int32) := (if v = 115 then (if k2 = 97 then some (7) else (if k2 = 98 then some ((-1)) else (if k2 = 99 then some ((-1)) else (if k2 = 100 then some (1) else (if k2 = 101 then some ((-1)) else (if k2 = 102 then some ((-1)) else (if k2 = 103 then some ((-1)) else (if k2 = 104 then some (6) else (if k2 = 105 then some ((-1)) else (if k2 = 106 then some ((-1)) else (if k2 = 107 then some ((-1)) else (if k2 = 108 then some ((-1)) else (if k2 = 109 then some (5) else (if k2 = 110 then some (0) else (if k2 = 111 then some ((-1)) else (if k2 = 112 then some (4) else (if k2 = 113 then some ((-1)) else (if k2 = 114 then some (2) else (if k2 = 115 then some ((-1)) else (if k2 = 116 then some ((-1)) else (if k2 = 117 then some ((-1)) else (if k2 = 118 then some ((-1)) else (if k2 = 119 then some ((-1)) else (if k2 = 120 then some ((-1)) else (if k2 = 121 then some (3) else some ((-1))))))))))))))))))))))))))) else (if k2 = 98 then some (4) else (if k2 = 99 then some ((-1)) else (if k2 = 100 then some ((-1)) else (if k2 = 101 then some (5) else (if k2 = 102 then some ((-1)) else (if k2 = 103 then some ((-1)) else (if k2 = 104 then some ((-1)) else (if k2 = 105 then some ((-1)) else (if k2 = 106 then some ((-1)) else (if k2 = 107 then some ((-1)) else (if k2 = 108 then some ((-1)) else (if k2 = 109 then some ((-1)) else (if k2 = 110 then some (0) else (if k2 = 111 then some (3) else (if k2 = 112 then some ((-1)) else (if k2 = 113 then some ((-1)) else (if k2 = 114 then some ((-1)) else (if k2 = 115 then some (1) else (if k2 = 116 then some ((-1)) else (if k2 = 117 then some (2) else some ((-1)))))))))))))))))))))))
set_option maxHeartbeats 4000000 in
set_option maxRecDepth 100000 in
theorem c_X10_itemOf (l : Launch) (dC : Nat → ClassId) (dI : Nat → Nat → Nat) (v : Int32) (k2 : Int32) (o : Int32) (hG : F_X10_itemOf v k2 = some o) : Met l yX10_itemOf (.code yX10_itemOf cX10_itemOf 2 (some .int) :: wA) ({ frames := 0, cells := 0, slots := 0, locals := 0 }) (va_Pc [.int v, .int k2] (q_R (dC, dI) [] [])) (q_i o) 0 0 (fun _ => False) := by
  refine Met.ofW (cc := cX10_itemOf) (maxL := 2) (ret := (some .int)) (by decide) rfl ?_
  intro p e s m args below meth c s₁ B hml hv
  obtain ⟨rfl, hP, hK⟩ := hv
  have hx := B.exec
  have hb := B.bytes
  have hr := B.returns
  have hts := atoms_spec (ws := .code yX10_itemOf cX10_itemOf 2 (some .int) :: wA) B.pre
  have hown : s.vm.findClass RX10 = some m.cls := findClass_of_methodNamed B.named
  have hlocks := B.notSynchronized
  have hS : va_S (fun _ => False) s.heap s.heap [] := va_S.rf
  have hl := lv_entry ([.int v, .int k2]) (n := 2) (Nat.le_of_ble_eq_true rfl)
  rw [lg_entry_eq]
  generalize (lg_sl ([.int v, .int k2]) ++ List.replicate (2 - (lg_sl ([.int v, .int k2])).length) Slot.unset).toArray = ls at hl ⊢
  have hl : lv_has ls 2 [(0, .int v), (1, .int k2)] := hl
  unfold F_X10_itemOf at hG
  refine lv_iload_n hx hb dX10_itemOf_0 rfl (lv_at hl 0 rfl) ?_
  refine lv_bipush (v := 115) hx hb dX10_itemOf_1 (by decide) ?_
  refine lv_icmp_ne (tgt := 140) hx hb dX10_itemOf_3 (by decide) (fun c_1 => ?_) (fun c_1 => ?_)
  · have hG := q_ifn c_1 hG
    refine lv_iload_n hx hb dX10_itemOf_140 rfl (lv_at hl 1 rfl) ?_
    by_cases e_2 : k2 = 98
    · have hG := q_ifp e_2 hG
      refine lv_tableIn (off := 103) (tgt := 244) hx hb dX10_itemOf_141 (by rw [e_2]; decide) (by rw [e_2]; decide) (by rw [e_2]; decide) (by decide) ?_
      refine lv_iconst (v := 4) hx hb dX10_itemOf_244 (by decide) ?_
      obtain rfl := Option.some.inj hG
      exact W.iret (v := 4) hx hb hr (fun t ht hW => ⟨⟨4, (), rfl, rfl, trivial⟩, hS.F ht⟩) hS.2.2 dX10_itemOf_245
    have hG := q_ifn e_2 hG
    by_cases e_3 : k2 = 99
    · have hG := q_ifp e_3 hG
      refine lv_tableIn (off := 107) (tgt := 248) hx hb dX10_itemOf_141 (by rw [e_3]; decide) (by rw [e_3]; decide) (by rw [e_3]; decide) (by decide) ?_
      refine lv_iconst (v := (-1)) hx hb dX10_itemOf_248 (by decide) ?_
      obtain rfl := Option.some.inj hG
      exact W.iret (v := (-1)) hx hb hr (fun t ht hW => ⟨⟨(-1), (), rfl, rfl, trivial⟩, hS.F ht⟩) hS.2.2 dX10_itemOf_249
    have hG := q_ifn e_3 hG
    by_cases e_4 : k2 = 100
    · have hG := q_ifp e_4 hG
      refine lv_tableIn (off := 107) (tgt := 248) hx hb dX10_itemOf_141 (by rw [e_4]; decide) (by rw [e_4]; decide) (by rw [e_4]; decide) (by decide) ?_
      refine lv_iconst (v := (-1)) hx hb dX10_itemOf_248 (by decide) ?_
      obtain rfl := Option.some.inj hG
      exact W.iret (v := (-1)) hx hb hr (fun t ht hW => ⟨⟨(-1), (), rfl, rfl, trivial⟩, hS.F ht⟩) hS.2.2 dX10_itemOf_249
    have hG := q_ifn e_4 hG
    by_cases e_5 : k2 = 101
    · have hG := q_ifp e_5 hG
      refine lv_tableIn (off := 105) (tgt := 246) hx hb dX10_itemOf_141 (by rw [e_5]; decide) (by rw [e_5]; decide) (by rw [e_5]; decide) (by decide) ?_
      refine lv_iconst (v := 5) hx hb dX10_itemOf_246 (by decide) ?_
      obtain rfl := Option.some.inj hG
      exact W.iret (v := 5) hx hb hr (fun t ht hW => ⟨⟨5, (), rfl, rfl, trivial⟩, hS.F ht⟩) hS.2.2 dX10_itemOf_247
    have hG := q_ifn e_5 hG
    by_cases e_6 : k2 = 102
    · have hG := q_ifp e_6 hG
      refine lv_tableIn (off := 107) (tgt := 248) hx hb dX10_itemOf_141 (by rw [e_6]; decide) (by rw [e_6]; decide) (by rw [e_6]; decide) (by decide) ?_
      refine lv_iconst (v := (-1)) hx hb dX10_itemOf_248 (by decide) ?_
      obtain rfl := Option.some.inj hG
      exact W.iret (v := (-1)) hx hb hr (fun t ht hW => ⟨⟨(-1), (), rfl, rfl, trivial⟩, hS.F ht⟩) hS.2.2 dX10_itemOf_249
    have hG := q_ifn e_6 hG
    by_cases e_7 : k2 = 103
    · have hG := q_ifp e_7 hG
      refine lv_tableIn (off := 107) (tgt := 248) hx hb dX10_itemOf_141 (by rw [e_7]; decide) (by rw [e_7]; decide) (by rw [e_7]; decide) (by decide) ?_
      refine lv_iconst (v := (-1)) hx hb dX10_itemOf_248 (by decide) ?_
      obtain rfl := Option.some.inj hG
      exact W.iret (v := (-1)) hx hb hr (fun t ht hW => ⟨⟨(-1), (), rfl, rfl, trivial⟩, hS.F ht⟩) hS.2.2 dX10_itemOf_249
    have hG := q_ifn e_7 hG
    by_cases e_8 : k2 = 104
    · have hG := q_ifp e_8 hG
      refine lv_tableIn (off := 107) (tgt := 248) hx hb dX10_itemOf_141 (by rw [e_8]; decide) (by rw [e_8]; decide) (by rw [e_8]; decide) (by decide) ?_
      refine lv_iconst (v := (-1)) hx hb dX10_itemOf_248 (by decide) ?_
      obtain rfl := Option.some.inj hG
      exact W.iret (v := (-1)) hx hb hr (fun t ht hW => ⟨⟨(-1), (), rfl, rfl, trivial⟩, hS.F ht⟩) hS.2.2 dX10_itemOf_249
    have hG := q_ifn e_8 hG
    by_cases e_9 : k2 = 105
    · have hG := q_ifp e_9 hG
      refine lv_tableIn (off := 107) (tgt := 248) hx hb dX10_itemOf_141 (by rw [e_9]; decide) (by rw [e_9]; decide) (by rw [e_9]; decide) (by decide) ?_
      refine lv_iconst (v := (-1)) hx hb dX10_itemOf_248 (by decide) ?_
      obtain rfl := Option.some.inj hG
      exact W.iret (v := (-1)) hx hb hr (fun t ht hW => ⟨⟨(-1), (), rfl, rfl, trivial⟩, hS.F ht⟩) hS.2.2 dX10_itemOf_249
    have hG := q_ifn e_9 hG
    by_cases e_10 : k2 = 106
    · have hG := q_ifp e_10 hG
      refine lv_tableIn (off := 107) (tgt := 248) hx hb dX10_itemOf_141 (by rw [e_10]; decide) (by rw [e_10]; decide) (by rw [e_10]; decide) (by decide) ?_
      refine lv_iconst (v := (-1)) hx hb dX10_itemOf_248 (by decide) ?_
      obtain rfl := Option.some.inj hG
      exact W.iret (v := (-1)) hx hb hr (fun t ht hW => ⟨⟨(-1), (), rfl, rfl, trivial⟩, hS.F ht⟩) hS.2.2 dX10_itemOf_249
    have hG := q_ifn e_10 hG
    by_cases e_11 : k2 = 107
    · have hG := q_ifp e_11 hG
      refine lv_tableIn (off := 107) (tgt := 248) hx hb dX10_itemOf_141 (by rw [e_11]; decide) (by rw [e_11]; decide) (by rw [e_11]; decide) (by decide) ?_
      refine lv_iconst (v := (-1)) hx hb dX10_itemOf_248 (by decide) ?_
      obtain rfl := Option.some.inj hG
      exact W.iret (v := (-1)) hx hb hr (fun t ht hW => ⟨⟨(-1), (), rfl, rfl, trivial⟩, hS.F ht⟩) hS.2.2 dX10_itemOf_249
    have hG := q_ifn e_11 hG
    by_cases e_12 : k2 = 108
    · have hG := q_ifp e_12 hG
      refine lv_tableIn (off := 107) (tgt := 248) hx hb dX10_itemOf_141 (by rw [e_12]; decide) (by rw [e_12]; decide) (by rw [e_12]; decide) (by decide) ?_
      refine lv_iconst (v := (-1)) hx hb dX10_itemOf_248 (by decide) ?_
      obtain rfl := Option.some.inj hG
      exact W.iret (v := (-1)) hx hb hr (fun t ht hW => ⟨⟨(-1), (), rfl, rfl, trivial⟩, hS.F ht⟩) hS.2.2 dX10_itemOf_249
    have hG := q_ifn e_12 hG
    by_cases e_13 : k2 = 109
    · have hG := q_ifp e_13 hG
      refine lv_tableIn (off := 107) (tgt := 248) hx hb dX10_itemOf_141 (by rw [e_13]; decide) (by rw [e_13]; decide) (by rw [e_13]; decide) (by decide) ?_
      refine lv_iconst (v := (-1)) hx hb dX10_itemOf_248 (by decide) ?_
      obtain rfl := Option.some.inj hG
      exact W.iret (v := (-1)) hx hb hr (fun t ht hW => ⟨⟨(-1), (), rfl, rfl, trivial⟩, hS.F ht⟩) hS.2.2 dX10_itemOf_249
    have hG := q_ifn e_13 hG
    by_cases e_14 : k2 = 110
    · have hG := q_ifp e_14 hG
      refine lv_tableIn (off := 95) (tgt := 236) hx hb dX10_itemOf_141 (by rw [e_14]; decide) (by rw [e_14]; decide) (by rw [e_14]; decide) (by decide) ?_
      refine lv_iconst (v := 0) hx hb dX10_itemOf_236 (by decide) ?_
      obtain rfl := Option.some.inj hG
      exact W.iret (v := 0) hx hb hr (fun t ht hW => ⟨⟨0, (), rfl, rfl, trivial⟩, hS.F ht⟩) hS.2.2 dX10_itemOf_237
    have hG := q_ifn e_14 hG
    by_cases e_15 : k2 = 111
    · have hG := q_ifp e_15 hG
      refine lv_tableIn (off := 101) (tgt := 242) hx hb dX10_itemOf_141 (by rw [e_15]; decide) (by rw [e_15]; decide) (by rw [e_15]; decide) (by decide) ?_
      refine lv_iconst (v := 3) hx hb dX10_itemOf_242 (by decide) ?_
      obtain rfl := Option.some.inj hG
      exact W.iret (v := 3) hx hb hr (fun t ht hW => ⟨⟨3, (), rfl, rfl, trivial⟩, hS.F ht⟩) hS.2.2 dX10_itemOf_243
    have hG := q_ifn e_15 hG
    by_cases e_16 : k2 = 112
    · have hG := q_ifp e_16 hG
      refine lv_tableIn (off := 107) (tgt := 248) hx hb dX10_itemOf_141 (by rw [e_16]; decide) (by rw [e_16]; decide) (by rw [e_16]; decide) (by decide) ?_
      refine lv_iconst (v := (-1)) hx hb dX10_itemOf_248 (by decide) ?_
      obtain rfl := Option.some.inj hG
      exact W.iret (v := (-1)) hx hb hr (fun t ht hW => ⟨⟨(-1), (), rfl, rfl, trivial⟩, hS.F ht⟩) hS.2.2 dX10_itemOf_249
    have hG := q_ifn e_16 hG
    by_cases e_17 : k2 = 113
    · have hG := q_ifp e_17 hG
      refine lv_tableIn (off := 107) (tgt := 248) hx hb dX10_itemOf_141 (by rw [e_17]; decide) (by rw [e_17]; decide) (by rw [e_17]; decide) (by decide) ?_
      refine lv_iconst (v := (-1)) hx hb dX10_itemOf_248 (by decide) ?_
      obtain rfl := Option.some.inj hG
      exact W.iret (v := (-1)) hx hb hr (fun t ht hW => ⟨⟨(-1), (), rfl, rfl, trivial⟩, hS.F ht⟩) hS.2.2 dX10_itemOf_249
    have hG := q_ifn e_17 hG
    by_cases e_18 : k2 = 114
    · have hG := q_ifp e_18 hG
      refine lv_tableIn (off := 107) (tgt := 248) hx hb dX10_itemOf_141 (by rw [e_18]; decide) (by rw [e_18]; decide) (by rw [e_18]; decide) (by decide) ?_
      refine lv_iconst (v := (-1)) hx hb dX10_itemOf_248 (by decide) ?_
      obtain rfl := Option.some.inj hG
      exact W.iret (v := (-1)) hx hb hr (fun t ht hW => ⟨⟨(-1), (), rfl, rfl, trivial⟩, hS.F ht⟩) hS.2.2 dX10_itemOf_249
    have hG := q_ifn e_18 hG
    by_cases e_19 : k2 = 115
    · have hG := q_ifp e_19 hG
      refine lv_tableIn (off := 97) (tgt := 238) hx hb dX10_itemOf_141 (by rw [e_19]; decide) (by rw [e_19]; decide) (by rw [e_19]; decide) (by decide) ?_
      refine lv_iconst (v := 1) hx hb dX10_itemOf_238 (by decide) ?_
      obtain rfl := Option.some.inj hG
      exact W.iret (v := 1) hx hb hr (fun t ht hW => ⟨⟨1, (), rfl, rfl, trivial⟩, hS.F ht⟩) hS.2.2 dX10_itemOf_239
    have hG := q_ifn e_19 hG
    by_cases e_20 : k2 = 116
    · have hG := q_ifp e_20 hG
      refine lv_tableIn (off := 107) (tgt := 248) hx hb dX10_itemOf_141 (by rw [e_20]; decide) (by rw [e_20]; decide) (by rw [e_20]; decide) (by decide) ?_
      refine lv_iconst (v := (-1)) hx hb dX10_itemOf_248 (by decide) ?_
      obtain rfl := Option.some.inj hG
      exact W.iret (v := (-1)) hx hb hr (fun t ht hW => ⟨⟨(-1), (), rfl, rfl, trivial⟩, hS.F ht⟩) hS.2.2 dX10_itemOf_249
    have hG := q_ifn e_20 hG
    by_cases e_21 : k2 = 117
    · have hG := q_ifp e_21 hG
      refine lv_tableIn (off := 99) (tgt := 240) hx hb dX10_itemOf_141 (by rw [e_21]; decide) (by rw [e_21]; decide) (by rw [e_21]; decide) (by decide) ?_
      refine lv_iconst (v := 2) hx hb dX10_itemOf_240 (by decide) ?_
      obtain rfl := Option.some.inj hG
      exact W.iret (v := 2) hx hb hr (fun t ht hW => ⟨⟨2, (), rfl, rfl, trivial⟩, hS.F ht⟩) hS.2.2 dX10_itemOf_241
    have hG := q_ifn e_21 hG
    have hsw : (k2).toInt < 98 ∨ 117 < (k2).toInt := by
      have := lv_neT (a := 98) e_2 (by decide)
      have := lv_neT (a := 99) e_3 (by decide)
      have := lv_neT (a := 100) e_4 (by decide)
      have := lv_neT (a := 101) e_5 (by decide)
      have := lv_neT (a := 102) e_6 (by decide)
      have := lv_neT (a := 103) e_7 (by decide)
      have := lv_neT (a := 104) e_8 (by decide)
      have := lv_neT (a := 105) e_9 (by decide)
      have := lv_neT (a := 106) e_10 (by decide)
      have := lv_neT (a := 107) e_11 (by decide)
      have := lv_neT (a := 108) e_12 (by decide)
      have := lv_neT (a := 109) e_13 (by decide)
      have := lv_neT (a := 110) e_14 (by decide)
      have := lv_neT (a := 111) e_15 (by decide)
      have := lv_neT (a := 112) e_16 (by decide)
      have := lv_neT (a := 113) e_17 (by decide)
      have := lv_neT (a := 114) e_18 (by decide)
      have := lv_neT (a := 115) e_19 (by decide)
      have := lv_neT (a := 116) e_20 (by decide)
      have := lv_neT (a := 117) e_21 (by decide)
      omega
    refine lv_tableOut (tgt := 248) hx hb dX10_itemOf_141 hsw (by decide) ?_
    refine lv_iconst (v := (-1)) hx hb dX10_itemOf_248 (by decide) ?_
    obtain rfl := Option.some.inj hG
    exact W.iret (v := (-1)) hx hb hr (fun t ht hW => ⟨⟨(-1), (), rfl, rfl, trivial⟩, hS.F ht⟩) hS.2.2 dX10_itemOf_249
  · have hG := q_ifp c_1 hG
    refine lv_iload_n hx hb dX10_itemOf_6 rfl (lv_at hl 1 rfl) ?_
    by_cases e_22 : k2 = 97
    · have hG := q_ifp e_22 hG
      refine lv_tableIn (off := 128) (tgt := 135) hx hb dX10_itemOf_7 (by rw [e_22]; decide) (by rw [e_22]; decide) (by rw [e_22]; decide) (by decide) ?_
      refine lv_bipush (v := 7) hx hb dX10_itemOf_135 (by decide) ?_
      obtain rfl := Option.some.inj hG
      exact W.iret (v := 7) hx hb hr (fun t ht hW => ⟨⟨7, (), rfl, rfl, trivial⟩, hS.F ht⟩) hS.2.2 dX10_itemOf_137
    have hG := q_ifn e_22 hG
    by_cases e_23 : k2 = 98
    · have hG := q_ifp e_23 hG
      refine lv_tableIn (off := 131) (tgt := 138) hx hb dX10_itemOf_7 (by rw [e_23]; decide) (by rw [e_23]; decide) (by rw [e_23]; decide) (by decide) ?_
      refine lv_iconst (v := (-1)) hx hb dX10_itemOf_138 (by decide) ?_
      obtain rfl := Option.some.inj hG
      exact W.iret (v := (-1)) hx hb hr (fun t ht hW => ⟨⟨(-1), (), rfl, rfl, trivial⟩, hS.F ht⟩) hS.2.2 dX10_itemOf_139
    have hG := q_ifn e_23 hG
    by_cases e_24 : k2 = 99
    · have hG := q_ifp e_24 hG
      refine lv_tableIn (off := 131) (tgt := 138) hx hb dX10_itemOf_7 (by rw [e_24]; decide) (by rw [e_24]; decide) (by rw [e_24]; decide) (by decide) ?_
      refine lv_iconst (v := (-1)) hx hb dX10_itemOf_138 (by decide) ?_
      obtain rfl := Option.some.inj hG
      exact W.iret (v := (-1)) hx hb hr (fun t ht hW => ⟨⟨(-1), (), rfl, rfl, trivial⟩, hS.F ht⟩) hS.2.2 dX10_itemOf_139
    have hG := q_ifn e_24 hG
    by_cases e_25 : k2 = 100
    · have hG := q_ifp e_25 hG
      refine lv_tableIn (off := 115) (tgt := 122) hx hb dX10_itemOf_7 (by rw [e_25]; decide) (by rw [e_25]; decide) (by rw [e_25]; decide) (by decide) ?_
      refine lv_iconst (v := 1) hx hb dX10_itemOf_122 (by decide) ?_
      obtain rfl := Option.some.inj hG
      exact W.iret (v := 1) hx hb hr (fun t ht hW => ⟨⟨1, (), rfl, rfl, trivial⟩, hS.F ht⟩) hS.2.2 dX10_itemOf_123
    have hG := q_ifn e_25 hG
    by_cases e_26 : k2 = 101
    · have hG := q_ifp e_26 hG
      refine lv_tableIn (off := 131) (tgt := 138) hx hb dX10_itemOf_7 (by rw [e_26]; decide) (by rw [e_26]; decide) (by rw [e_26]; decide) (by decide) ?_
      refine lv_iconst (v := (-1)) hx hb dX10_itemOf_138 (by decide) ?_
      obtain rfl := Option.some.inj hG
      exact W.iret (v := (-1)) hx hb hr (fun t ht hW => ⟨⟨(-1), (), rfl, rfl, trivial⟩, hS.F ht⟩) hS.2.2 dX10_itemOf_139
    have hG := q_ifn e_26 hG
    by_cases e_27 : k2 = 102
    · have hG := q_ifp e_27 hG
      refine lv_tableIn (off := 131) (tgt := 138) hx hb dX10_itemOf_7 (by rw [e_27]; decide) (by rw [e_27]; decide) (by rw [e_27]; decide) (by decide) ?_
      refine lv_iconst (v := (-1)) hx hb dX10_itemOf_138 (by decide) ?_
      obtain rfl := Option.some.inj hG
      exact W.iret (v := (-1)) hx hb hr (fun t ht hW => ⟨⟨(-1), (), rfl, rfl, trivial⟩, hS.F ht⟩) hS.2.2 dX10_itemOf_139
    have hG := q_ifn e_27 hG
    by_cases e_28 : k2 = 103
    · have hG := q_ifp e_28 hG
      refine lv_tableIn (off := 131) (tgt := 138) hx hb dX10_itemOf_7 (by rw [e_28]; decide) (by rw [e_28]; decide) (by rw [e_28]; decide) (by decide) ?_
      refine lv_iconst (v := (-1)) hx hb dX10_itemOf_138 (by decide) ?_
      obtain rfl := Option.some.inj hG
      exact W.iret (v := (-1)) hx hb hr (fun t ht hW => ⟨⟨(-1), (), rfl, rfl, trivial⟩, hS.F ht⟩) hS.2.2 dX10_itemOf_139
    have hG := q_ifn e_28 hG
    by_cases e_29 : k2 = 104
    · have hG := q_ifp e_29 hG
      refine lv_tableIn (off := 125) (tgt := 132) hx hb dX10_itemOf_7 (by rw [e_29]; decide) (by rw [e_29]; decide) (by rw [e_29]; decide) (by decide) ?_
      refine lv_bipush (v := 6) hx hb dX10_itemOf_132 (by decide) ?_
      obtain rfl := Option.some.inj hG
      exact W.iret (v := 6) hx hb hr (fun t ht hW => ⟨⟨6, (), rfl, rfl, trivial⟩, hS.F ht⟩) hS.2.2 dX10_itemOf_134
    have hG := q_ifn e_29 hG
    by_cases e_30 : k2 = 105
    · have hG := q_ifp e_30 hG
      refine lv_tableIn (off := 131) (tgt := 138) hx hb dX10_itemOf_7 (by rw [e_30]; decide) (by rw [e_30]; decide) (by rw [e_30]; decide) (by decide) ?_
      refine lv_iconst (v := (-1)) hx hb dX10_itemOf_138 (by decide) ?_
      obtain rfl := Option.some.inj hG
      exact W.iret (v := (-1)) hx hb hr (fun t ht hW => ⟨⟨(-1), (), rfl, rfl, trivial⟩, hS.F ht⟩) hS.2.2 dX10_itemOf_139
    have hG := q_ifn e_30 hG
    by_cases e_31 : k2 = 106
    · have hG := q_ifp e_31 hG
      refine lv_tableIn (off := 131) (tgt := 138) hx hb dX10_itemOf_7 (by rw [e_31]; decide) (by rw [e_31]; decide) (by rw [e_31]; decide) (by decide) ?_
      refine lv_iconst (v := (-1)) hx hb dX10_itemOf_138 (by decide) ?_
      obtain rfl := Option.some.inj hG
      exact W.iret (v := (-1)) hx hb hr (fun t ht hW => ⟨⟨(-1), (), rfl, rfl, trivial⟩, hS.F ht⟩) hS.2.2 dX10_itemOf_139
    have hG := q_ifn e_31 hG
    by_cases e_32 : k2 = 107
    · have hG := q_ifp e_32 hG
      refine lv_tableIn (off := 131) (tgt := 138) hx hb dX10_itemOf_7 (by rw [e_32]; decide) (by rw [e_32]; decide) (by rw [e_32]; decide) (by decide) ?_
      refine lv_iconst (v := (-1)) hx hb dX10_itemOf_138 (by decide) ?_
      obtain rfl := Option.some.inj hG
      exact W.iret (v := (-1)) hx hb hr (fun t ht hW => ⟨⟨(-1), (), rfl, rfl, trivial⟩, hS.F ht⟩) hS.2.2 dX10_itemOf_139
    have hG := q_ifn e_32 hG
    by_cases e_33 : k2 = 108
    · have hG := q_ifp e_33 hG
      refine lv_tableIn (off := 131) (tgt := 138) hx hb dX10_itemOf_7 (by rw [e_33]; decide) (by rw [e_33]; decide) (by rw [e_33]; decide) (by decide) ?_
      refine lv_iconst (v := (-1)) hx hb dX10_itemOf_138 (by decide) ?_
      obtain rfl := Option.some.inj hG
      exact W.iret (v := (-1)) hx hb hr (fun t ht hW => ⟨⟨(-1), (), rfl, rfl, trivial⟩, hS.F ht⟩) hS.2.2 dX10_itemOf_139
    have hG := q_ifn e_33 hG
    by_cases e_34 : k2 = 109
    · have hG := q_ifp e_34 hG
      refine lv_tableIn (off := 123) (tgt := 130) hx hb dX10_itemOf_7 (by rw [e_34]; decide) (by rw [e_34]; decide) (by rw [e_34]; decide) (by decide) ?_
      refine lv_iconst (v := 5) hx hb dX10_itemOf_130 (by decide) ?_
      obtain rfl := Option.some.inj hG
      exact W.iret (v := 5) hx hb hr (fun t ht hW => ⟨⟨5, (), rfl, rfl, trivial⟩, hS.F ht⟩) hS.2.2 dX10_itemOf_131
    have hG := q_ifn e_34 hG
    by_cases e_35 : k2 = 110
    · have hG := q_ifp e_35 hG
      refine lv_tableIn (off := 113) (tgt := 120) hx hb dX10_itemOf_7 (by rw [e_35]; decide) (by rw [e_35]; decide) (by rw [e_35]; decide) (by decide) ?_
      refine lv_iconst (v := 0) hx hb dX10_itemOf_120 (by decide) ?_
      obtain rfl := Option.some.inj hG
      exact W.iret (v := 0) hx hb hr (fun t ht hW => ⟨⟨0, (), rfl, rfl, trivial⟩, hS.F ht⟩) hS.2.2 dX10_itemOf_121
    have hG := q_ifn e_35 hG
    by_cases e_36 : k2 = 111
    · have hG := q_ifp e_36 hG
      refine lv_tableIn (off := 131) (tgt := 138) hx hb dX10_itemOf_7 (by rw [e_36]; decide) (by rw [e_36]; decide) (by rw [e_36]; decide) (by decide) ?_
      refine lv_iconst (v := (-1)) hx hb dX10_itemOf_138 (by decide) ?_
      obtain rfl := Option.some.inj hG
      exact W.iret (v := (-1)) hx hb hr (fun t ht hW => ⟨⟨(-1), (), rfl, rfl, trivial⟩, hS.F ht⟩) hS.2.2 dX10_itemOf_139
    have hG := q_ifn e_36 hG
    by_cases e_37 : k2 = 112
    · have hG := q_ifp e_37 hG
      refine lv_tableIn (off := 121) (tgt := 128) hx hb dX10_itemOf_7 (by rw [e_37]; decide) (by rw [e_37]; decide) (by rw [e_37]; decide) (by decide) ?_
      refine lv_iconst (v := 4) hx hb dX10_itemOf_128 (by decide) ?_
      obtain rfl := Option.some.inj hG
      exact W.iret (v := 4) hx hb hr (fun t ht hW => ⟨⟨4, (), rfl, rfl, trivial⟩, hS.F ht⟩) hS.2.2 dX10_itemOf_129
    have hG := q_ifn e_37 hG
    by_cases e_38 : k2 = 113
    · have hG := q_ifp e_38 hG
      refine lv_tableIn (off := 131) (tgt := 138) hx hb dX10_itemOf_7 (by rw [e_38]; decide) (by rw [e_38]; decide) (by rw [e_38]; decide) (by decide) ?_
      refine lv_iconst (v := (-1)) hx hb dX10_itemOf_138 (by decide) ?_
      obtain rfl := Option.some.inj hG
      exact W.iret (v := (-1)) hx hb hr (fun t ht hW => ⟨⟨(-1), (), rfl, rfl, trivial⟩, hS.F ht⟩) hS.2.2 dX10_itemOf_139
    have hG := q_ifn e_38 hG
    by_cases e_39 : k2 = 114
    · have hG := q_ifp e_39 hG
      refine lv_tableIn (off := 117) (tgt := 124) hx hb dX10_itemOf_7 (by rw [e_39]; decide) (by rw [e_39]; decide) (by rw [e_39]; decide) (by decide) ?_
      refine lv_iconst (v := 2) hx hb dX10_itemOf_124 (by decide) ?_
      obtain rfl := Option.some.inj hG
      exact W.iret (v := 2) hx hb hr (fun t ht hW => ⟨⟨2, (), rfl, rfl, trivial⟩, hS.F ht⟩) hS.2.2 dX10_itemOf_125
    have hG := q_ifn e_39 hG
    by_cases e_40 : k2 = 115
    · have hG := q_ifp e_40 hG
      refine lv_tableIn (off := 131) (tgt := 138) hx hb dX10_itemOf_7 (by rw [e_40]; decide) (by rw [e_40]; decide) (by rw [e_40]; decide) (by decide) ?_
      refine lv_iconst (v := (-1)) hx hb dX10_itemOf_138 (by decide) ?_
      obtain rfl := Option.some.inj hG
      exact W.iret (v := (-1)) hx hb hr (fun t ht hW => ⟨⟨(-1), (), rfl, rfl, trivial⟩, hS.F ht⟩) hS.2.2 dX10_itemOf_139
    have hG := q_ifn e_40 hG
    by_cases e_41 : k2 = 116
    · have hG := q_ifp e_41 hG
      refine lv_tableIn (off := 131) (tgt := 138) hx hb dX10_itemOf_7 (by rw [e_41]; decide) (by rw [e_41]; decide) (by rw [e_41]; decide) (by decide) ?_
      refine lv_iconst (v := (-1)) hx hb dX10_itemOf_138 (by decide) ?_
      obtain rfl := Option.some.inj hG
      exact W.iret (v := (-1)) hx hb hr (fun t ht hW => ⟨⟨(-1), (), rfl, rfl, trivial⟩, hS.F ht⟩) hS.2.2 dX10_itemOf_139
    have hG := q_ifn e_41 hG
    by_cases e_42 : k2 = 117
    · have hG := q_ifp e_42 hG
      refine lv_tableIn (off := 131) (tgt := 138) hx hb dX10_itemOf_7 (by rw [e_42]; decide) (by rw [e_42]; decide) (by rw [e_42]; decide) (by decide) ?_
      refine lv_iconst (v := (-1)) hx hb dX10_itemOf_138 (by decide) ?_
      obtain rfl := Option.some.inj hG
      exact W.iret (v := (-1)) hx hb hr (fun t ht hW => ⟨⟨(-1), (), rfl, rfl, trivial⟩, hS.F ht⟩) hS.2.2 dX10_itemOf_139
    have hG := q_ifn e_42 hG
    by_cases e_43 : k2 = 118
    · have hG := q_ifp e_43 hG
      refine lv_tableIn (off := 131) (tgt := 138) hx hb dX10_itemOf_7 (by rw [e_43]; decide) (by rw [e_43]; decide) (by rw [e_43]; decide) (by decide) ?_
      refine lv_iconst (v := (-1)) hx hb dX10_itemOf_138 (by decide) ?_
      obtain rfl := Option.some.inj hG
      exact W.iret (v := (-1)) hx hb hr (fun t ht hW => ⟨⟨(-1), (), rfl, rfl, trivial⟩, hS.F ht⟩) hS.2.2 dX10_itemOf_139
    have hG := q_ifn e_43 hG
    by_cases e_44 : k2 = 119
    · have hG := q_ifp e_44 hG
      refine lv_tableIn (off := 131) (tgt := 138) hx hb dX10_itemOf_7 (by rw [e_44]; decide) (by rw [e_44]; decide) (by rw [e_44]; decide) (by decide) ?_
      refine lv_iconst (v := (-1)) hx hb dX10_itemOf_138 (by decide) ?_
      obtain rfl := Option.some.inj hG
      exact W.iret (v := (-1)) hx hb hr (fun t ht hW => ⟨⟨(-1), (), rfl, rfl, trivial⟩, hS.F ht⟩) hS.2.2 dX10_itemOf_139
    have hG := q_ifn e_44 hG
    by_cases e_45 : k2 = 120
    · have hG := q_ifp e_45 hG
      refine lv_tableIn (off := 131) (tgt := 138) hx hb dX10_itemOf_7 (by rw [e_45]; decide) (by rw [e_45]; decide) (by rw [e_45]; decide) (by decide) ?_
      refine lv_iconst (v := (-1)) hx hb dX10_itemOf_138 (by decide) ?_
      obtain rfl := Option.some.inj hG
      exact W.iret (v := (-1)) hx hb hr (fun t ht hW => ⟨⟨(-1), (), rfl, rfl, trivial⟩, hS.F ht⟩) hS.2.2 dX10_itemOf_139
    have hG := q_ifn e_45 hG
    by_cases e_46 : k2 = 121
    · have hG := q_ifp e_46 hG
      refine lv_tableIn (off := 119) (tgt := 126) hx hb dX10_itemOf_7 (by rw [e_46]; decide) (by rw [e_46]; decide) (by rw [e_46]; decide) (by decide) ?_
      refine lv_iconst (v := 3) hx hb dX10_itemOf_126 (by decide) ?_
      obtain rfl := Option.some.inj hG
      exact W.iret (v := 3) hx hb hr (fun t ht hW => ⟨⟨3, (), rfl, rfl, trivial⟩, hS.F ht⟩) hS.2.2 dX10_itemOf_127
    have hG := q_ifn e_46 hG
    have hsw : (k2).toInt < 97 ∨ 121 < (k2).toInt := by
      have := lv_neT (a := 97) e_22 (by decide)
      have := lv_neT (a := 98) e_23 (by decide)
      have := lv_neT (a := 99) e_24 (by decide)
      have := lv_neT (a := 100) e_25 (by decide)
      have := lv_neT (a := 101) e_26 (by decide)
      have := lv_neT (a := 102) e_27 (by decide)
      have := lv_neT (a := 103) e_28 (by decide)
      have := lv_neT (a := 104) e_29 (by decide)
      have := lv_neT (a := 105) e_30 (by decide)
      have := lv_neT (a := 106) e_31 (by decide)
      have := lv_neT (a := 107) e_32 (by decide)
      have := lv_neT (a := 108) e_33 (by decide)
      have := lv_neT (a := 109) e_34 (by decide)
      have := lv_neT (a := 110) e_35 (by decide)
      have := lv_neT (a := 111) e_36 (by decide)
      have := lv_neT (a := 112) e_37 (by decide)
      have := lv_neT (a := 113) e_38 (by decide)
      have := lv_neT (a := 114) e_39 (by decide)
      have := lv_neT (a := 115) e_40 (by decide)
      have := lv_neT (a := 116) e_41 (by decide)
      have := lv_neT (a := 117) e_42 (by decide)
      have := lv_neT (a := 118) e_43 (by decide)
      have := lv_neT (a := 119) e_44 (by decide)
      have := lv_neT (a := 120) e_45 (by decide)
      have := lv_neT (a := 121) e_46 (by decide)
      omega
    refine lv_tableOut (tgt := 138) hx hb dX10_itemOf_7 hsw (by decide) ?_
    refine lv_iconst (v := (-1)) hx hb dX10_itemOf_138 (by decide) ?_
    obtain rfl := Option.some.inj hG
    exact W.iret (v := (-1)) hx hb hr (fun t ht hW => ⟨⟨(-1), (), rfl, rfl, trivial⟩, hS.F ht⟩) hS.2.2 dX10_itemOf_139

def F_X10_lowest (v : Int32) (k2 : Int32) : Option (Int32) := (if v = 100 then some (0) else (if k2 = 5 then some (20) else (if k2 = 6 then some (10) else some (1))))
set_option maxHeartbeats 4000000 in
set_option maxRecDepth 100000 in
theorem c_X10_lowest (l : Launch) (dC : Nat → ClassId) (dI : Nat → Nat → Nat) (v : Int32) (k2 : Int32) (o : Int32) (hG : F_X10_lowest v k2 = some o) : Met l yX10_lowest (.code yX10_lowest cX10_lowest 2 (some .int) :: wA) ({ frames := 0, cells := 0, slots := 0, locals := 0 }) (va_Pc [.int v, .int k2] (q_R (dC, dI) [] [])) (q_i o) 0 0 (fun _ => False) := by
  refine Met.ofW (cc := cX10_lowest) (maxL := 2) (ret := (some .int)) (by decide) rfl ?_
  intro p e s m args below meth c s₁ B hml hv
  obtain ⟨rfl, hP, hK⟩ := hv
  have hx := B.exec
  have hb := B.bytes
  have hr := B.returns
  have hts := atoms_spec (ws := .code yX10_lowest cX10_lowest 2 (some .int) :: wA) B.pre
  have hown : s.vm.findClass RX10 = some m.cls := findClass_of_methodNamed B.named
  have hlocks := B.notSynchronized
  have hS : va_S (fun _ => False) s.heap s.heap [] := va_S.rf
  have hl := lv_entry ([.int v, .int k2]) (n := 2) (Nat.le_of_ble_eq_true rfl)
  rw [lg_entry_eq]
  generalize (lg_sl ([.int v, .int k2]) ++ List.replicate (2 - (lg_sl ([.int v, .int k2])).length) Slot.unset).toArray = ls at hl ⊢
  have hl : lv_has ls 2 [(0, .int v), (1, .int k2)] := hl
  unfold F_X10_lowest at hG
  refine lv_iload_n hx hb dX10_lowest_0 rfl (lv_at hl 0 rfl) ?_
  refine lv_bipush (v := 100) hx hb dX10_lowest_1 (by decide) ?_
  refine lv_icmp_ne (tgt := 10) hx hb dX10_lowest_3 (by decide) (fun c_1 => ?_) (fun c_1 => ?_)
  · have hG := q_ifn c_1 hG
    refine lv_iload_n hx hb dX10_lowest_10 rfl (lv_at hl 1 rfl) ?_
    refine lv_iconst (v := 5) hx hb dX10_lowest_11 (by decide) ?_
    refine lv_icmp_ne (tgt := 20) hx hb dX10_lowest_12 (by decide) (fun c_2 => ?_) (fun c_2 => ?_)
    · have hG := q_ifn c_2 hG
      refine lv_iload_n hx hb dX10_lowest_20 rfl (lv_at hl 1 rfl) ?_
      refine lv_bipush (v := 6) hx hb dX10_lowest_21 (by decide) ?_
      refine lv_icmp_ne (tgt := 31) hx hb dX10_lowest_23 (by decide) (fun c_3 => ?_) (fun c_3 => ?_)
      · have hG := q_ifn c_3 hG
        refine lv_iconst (v := 1) hx hb dX10_lowest_31 (by decide) ?_
        obtain rfl := Option.some.inj hG
        exact W.iret (v := 1) hx hb hr (fun t ht hW => ⟨⟨1, (), rfl, rfl, trivial⟩, hS.F ht⟩) hS.2.2 dX10_lowest_32
      · have hG := q_ifp c_3 hG
        refine lv_bipush (v := 10) hx hb dX10_lowest_26 (by decide) ?_
        refine lv_goto (tgt := 32) hx hb dX10_lowest_28 (by decide) ?_
        obtain rfl := Option.some.inj hG
        exact W.iret (v := 10) hx hb hr (fun t ht hW => ⟨⟨10, (), rfl, rfl, trivial⟩, hS.F ht⟩) hS.2.2 dX10_lowest_32
    · have hG := q_ifp c_2 hG
      refine lv_bipush (v := 20) hx hb dX10_lowest_15 (by decide) ?_
      refine lv_goto (tgt := 32) hx hb dX10_lowest_17 (by decide) ?_
      obtain rfl := Option.some.inj hG
      exact W.iret (v := 20) hx hb hr (fun t ht hW => ⟨⟨20, (), rfl, rfl, trivial⟩, hS.F ht⟩) hS.2.2 dX10_lowest_32
  · have hG := q_ifp c_1 hG
    refine lv_iconst (v := 0) hx hb dX10_lowest_6 (by decide) ?_
    refine lv_goto (tgt := 32) hx hb dX10_lowest_7 (by decide) ?_
    obtain rfl := Option.some.inj hG
    exact W.iret (v := 0) hx hb hr (fun t ht hW => ⟨⟨0, (), rfl, rfl, trivial⟩, hS.F ht⟩) hS.2.2 dX10_lowest_32

def F_X10_highest (v : Int32) (k2 : Int32) : Option (Int32) := (if v = 115 then (if k2 = 0 then some (4) else (if k2 = 1 then some (9) else (if k2 = 2 then some (9) else (if k2 = 3 then some (5) else (if k2 = 4 then some (9) else (if k2 = 5 then some (200) else (if k2 = 6 then some (99) else some (9)))))))) else (if k2 = 0 then some (4) else (if k2 = 1 then some (2) else (if k2 = 2 then some (9) else (if k2 = 3 then some (1) else (if k2 = 4 then some (99) else some (3)))))))
set_option maxHeartbeats 4000000 in
set_option maxRecDepth 100000 in
theorem c_X10_highest (l : Launch) (dC : Nat → ClassId) (dI : Nat → Nat → Nat) (v : Int32) (k2 : Int32) (o : Int32) (hG : F_X10_highest v k2 = some o) : Met l yX10_highest (.code yX10_highest cX10_highest 2 (some .int) :: wA) ({ frames := 0, cells := 0, slots := 0, locals := 0 }) (va_Pc [.int v, .int k2] (q_R (dC, dI) [] [])) (q_i o) 0 0 (fun _ => False) := by
  refine Met.ofW (cc := cX10_highest) (maxL := 2) (ret := (some .int)) (by decide) rfl ?_
  intro p e s m args below meth c s₁ B hml hv
  obtain ⟨rfl, hP, hK⟩ := hv
  have hx := B.exec
  have hb := B.bytes
  have hr := B.returns
  have hts := atoms_spec (ws := .code yX10_highest cX10_highest 2 (some .int) :: wA) B.pre
  have hown : s.vm.findClass RX10 = some m.cls := findClass_of_methodNamed B.named
  have hlocks := B.notSynchronized
  have hS : va_S (fun _ => False) s.heap s.heap [] := va_S.rf
  have hl := lv_entry ([.int v, .int k2]) (n := 2) (Nat.le_of_ble_eq_true rfl)
  rw [lg_entry_eq]
  generalize (lg_sl ([.int v, .int k2]) ++ List.replicate (2 - (lg_sl ([.int v, .int k2])).length) Slot.unset).toArray = ls at hl ⊢
  have hl : lv_has ls 2 [(0, .int v), (1, .int k2)] := hl
  unfold F_X10_highest at hG
  refine lv_iload_n hx hb dX10_highest_0 rfl (lv_at hl 0 rfl) ?_
  refine lv_bipush (v := 115) hx hb dX10_highest_1 (by decide) ?_
  refine lv_icmp_ne (tgt := 62) hx hb dX10_highest_3 (by decide) (fun c_1 => ?_) (fun c_1 => ?_)
  · have hG := q_ifn c_1 hG
    refine lv_iload_n hx hb dX10_highest_62 rfl (lv_at hl 1 rfl) ?_
    by_cases e_2 : k2 = 0
    · have hG := q_ifp e_2 hG
      refine lv_tableIn (off := 33) (tgt := 96) hx hb dX10_highest_63 (by rw [e_2]; decide) (by rw [e_2]; decide) (by rw [e_2]; decide) (by decide) ?_
      refine lv_iconst (v := 4) hx hb dX10_highest_96 (by decide) ?_
      obtain rfl := Option.some.inj hG
      exact W.iret (v := 4) hx hb hr (fun t ht hW => ⟨⟨4, (), rfl, rfl, trivial⟩, hS.F ht⟩) hS.2.2 dX10_highest_97
    have hG := q_ifn e_2 hG
    by_cases e_3 : k2 = 1
    · have hG := q_ifp e_3 hG
      refine lv_tableIn (off := 35) (tgt := 98) hx hb dX10_highest_63 (by rw [e_3]; decide) (by rw [e_3]; decide) (by rw [e_3]; decide) (by decide) ?_
      refine lv_iconst (v := 2) hx hb dX10_highest_98 (by decide) ?_
      obtain rfl := Option.some.inj hG
      exact W.iret (v := 2) hx hb hr (fun t ht hW => ⟨⟨2, (), rfl, rfl, trivial⟩, hS.F ht⟩) hS.2.2 dX10_highest_99
    have hG := q_ifn e_3 hG
    by_cases e_4 : k2 = 2
    · have hG := q_ifp e_4 hG
      refine lv_tableIn (off := 37) (tgt := 100) hx hb dX10_highest_63 (by rw [e_4]; decide) (by rw [e_4]; decide) (by rw [e_4]; decide) (by decide) ?_
      refine lv_bipush (v := 9) hx hb dX10_highest_100 (by decide) ?_
      obtain rfl := Option.some.inj hG
      exact W.iret (v := 9) hx hb hr (fun t ht hW => ⟨⟨9, (), rfl, rfl, trivial⟩, hS.F ht⟩) hS.2.2 dX10_highest_102
    have hG := q_ifn e_4 hG
    by_cases e_5 : k2 = 3
    · have hG := q_ifp e_5 hG
      refine lv_tableIn (off := 40) (tgt := 103) hx hb dX10_highest_63 (by rw [e_5]; decide) (by rw [e_5]; decide) (by rw [e_5]; decide) (by decide) ?_
      refine lv_iconst (v := 1) hx hb dX10_highest_103 (by decide) ?_
      obtain rfl := Option.some.inj hG
      exact W.iret (v := 1) hx hb hr (fun t ht hW => ⟨⟨1, (), rfl, rfl, trivial⟩, hS.F ht⟩) hS.2.2 dX10_highest_104
    have hG := q_ifn e_5 hG
    by_cases e_6 : k2 = 4
    · have hG := q_ifp e_6 hG
      refine lv_tableIn (off := 42) (tgt := 105) hx hb dX10_highest_63 (by rw [e_6]; decide) (by rw [e_6]; decide) (by rw [e_6]; decide) (by decide) ?_
      refine lv_bipush (v := 99) hx hb dX10_highest_105 (by decide) ?_
      obtain rfl := Option.some.inj hG
      exact W.iret (v := 99) hx hb hr (fun t ht hW => ⟨⟨99, (), rfl, rfl, trivial⟩, hS.F ht⟩) hS.2.2 dX10_highest_107
    have hG := q_ifn e_6 hG
    have hsw : (k2).toInt < 0 ∨ 4 < (k2).toInt := by
      have := lv_neT (a := 0) e_2 (by decide)
      have := lv_neT (a := 1) e_3 (by decide)
      have := lv_neT (a := 2) e_4 (by decide)
      have := lv_neT (a := 3) e_5 (by decide)
      have := lv_neT (a := 4) e_6 (by decide)
      omega
    refine lv_tableOut (tgt := 108) hx hb dX10_highest_63 hsw (by decide) ?_
    refine lv_iconst (v := 3) hx hb dX10_highest_108 (by decide) ?_
    obtain rfl := Option.some.inj hG
    exact W.iret (v := 3) hx hb hr (fun t ht hW => ⟨⟨3, (), rfl, rfl, trivial⟩, hS.F ht⟩) hS.2.2 dX10_highest_109
  · have hG := q_ifp c_1 hG
    refine lv_iload_n hx hb dX10_highest_6 rfl (lv_at hl 1 rfl) ?_
    by_cases e_7 : k2 = 0
    · have hG := q_ifp e_7 hG
      refine lv_tableIn (off := 41) (tgt := 48) hx hb dX10_highest_7 (by rw [e_7]; decide) (by rw [e_7]; decide) (by rw [e_7]; decide) (by decide) ?_
      refine lv_iconst (v := 4) hx hb dX10_highest_48 (by decide) ?_
      obtain rfl := Option.some.inj hG
      exact W.iret (v := 4) hx hb hr (fun t ht hW => ⟨⟨4, (), rfl, rfl, trivial⟩, hS.F ht⟩) hS.2.2 dX10_highest_49
    have hG := q_ifn e_7 hG
    by_cases e_8 : k2 = 1
    · have hG := q_ifp e_8 hG
      refine lv_tableIn (off := 52) (tgt := 59) hx hb dX10_highest_7 (by rw [e_8]; decide) (by rw [e_8]; decide) (by rw [e_8]; decide) (by decide) ?_
      refine lv_bipush (v := 9) hx hb dX10_highest_59 (by decide) ?_
      obtain rfl := Option.some.inj hG
      exact W.iret (v := 9) hx hb hr (fun t ht hW => ⟨⟨9, (), rfl, rfl, trivial⟩, hS.F ht⟩) hS.2.2 dX10_highest_61
    have hG := q_ifn e_8 hG
    by_cases e_9 : k2 = 2
    · have hG := q_ifp e_9 hG
      refine lv_tableIn (off := 52) (tgt := 59) hx hb dX10_highest_7 (by rw [e_9]; decide) (by rw [e_9]; decide) (by rw [e_9]; decide) (by decide) ?_
      refine lv_bipush (v := 9) hx hb dX10_highest_59 (by decide) ?_
      obtain rfl := Option.some.inj hG
      exact W.iret (v := 9) hx hb hr (fun t ht hW => ⟨⟨9, (), rfl, rfl, trivial⟩, hS.F ht⟩) hS.2.2 dX10_highest_61
    have hG := q_ifn e_9 hG
    by_cases e_10 : k2 = 3
    · have hG := q_ifp e_10 hG
      refine lv_tableIn (off := 43) (tgt := 50) hx hb dX10_highest_7 (by rw [e_10]; decide) (by rw [e_10]; decide) (by rw [e_10]; decide) (by decide) ?_
      refine lv_iconst (v := 5) hx hb dX10_highest_50 (by decide) ?_
      obtain rfl := Option.some.inj hG
      exact W.iret (v := 5) hx hb hr (fun t ht hW => ⟨⟨5, (), rfl, rfl, trivial⟩, hS.F ht⟩) hS.2.2 dX10_highest_51
    have hG := q_ifn e_10 hG
    by_cases e_11 : k2 = 4
    · have hG := q_ifp e_11 hG
      refine lv_tableIn (off := 52) (tgt := 59) hx hb dX10_highest_7 (by rw [e_11]; decide) (by rw [e_11]; decide) (by rw [e_11]; decide) (by decide) ?_
      refine lv_bipush (v := 9) hx hb dX10_highest_59 (by decide) ?_
      obtain rfl := Option.some.inj hG
      exact W.iret (v := 9) hx hb hr (fun t ht hW => ⟨⟨9, (), rfl, rfl, trivial⟩, hS.F ht⟩) hS.2.2 dX10_highest_61
    have hG := q_ifn e_11 hG
    by_cases e_12 : k2 = 5
    · have hG := q_ifp e_12 hG
      refine lv_tableIn (off := 45) (tgt := 52) hx hb dX10_highest_7 (by rw [e_12]; decide) (by rw [e_12]; decide) (by rw [e_12]; decide) (by decide) ?_
      refine lv_sipush (v := 200) hx hb dX10_highest_52 (by decide) ?_
      obtain rfl := Option.some.inj hG
      exact W.iret (v := 200) hx hb hr (fun t ht hW => ⟨⟨200, (), rfl, rfl, trivial⟩, hS.F ht⟩) hS.2.2 dX10_highest_55
    have hG := q_ifn e_12 hG
    by_cases e_13 : k2 = 6
    · have hG := q_ifp e_13 hG
      refine lv_tableIn (off := 49) (tgt := 56) hx hb dX10_highest_7 (by rw [e_13]; decide) (by rw [e_13]; decide) (by rw [e_13]; decide) (by decide) ?_
      refine lv_bipush (v := 99) hx hb dX10_highest_56 (by decide) ?_
      obtain rfl := Option.some.inj hG
      exact W.iret (v := 99) hx hb hr (fun t ht hW => ⟨⟨99, (), rfl, rfl, trivial⟩, hS.F ht⟩) hS.2.2 dX10_highest_58
    have hG := q_ifn e_13 hG
    have hsw : (k2).toInt < 0 ∨ 6 < (k2).toInt := by
      have := lv_neT (a := 0) e_7 (by decide)
      have := lv_neT (a := 1) e_8 (by decide)
      have := lv_neT (a := 2) e_9 (by decide)
      have := lv_neT (a := 3) e_10 (by decide)
      have := lv_neT (a := 4) e_11 (by decide)
      have := lv_neT (a := 5) e_12 (by decide)
      have := lv_neT (a := 6) e_13 (by decide)
      omega
    refine lv_tableOut (tgt := 59) hx hb dX10_highest_7 hsw (by decide) ?_
    refine lv_bipush (v := 9) hx hb dX10_highest_59 (by decide) ?_
    obtain rfl := Option.some.inj hG
    exact W.iret (v := 9) hx hb hr (fun t ht hW => ⟨⟨9, (), rfl, rfl, trivial⟩, hS.F ht⟩) hS.2.2 dX10_highest_61

def F_X10_usual (v : Int32) (k2 : Int32) : Option (Int32) := (if v = 115 then (if k2 = 0 then some (4) else (if k2 = 1 then some (3) else (if k2 = 2 then some (2) else (if k2 = 3 then some (2) else (if k2 = 4 then some (5) else (if k2 = 5 then some (99) else (if k2 = 6 then some (60) else some (9)))))))) else (if k2 = 1 then some (1) else (if k2 = 2 then some (1) else (if k2 = 4 then some (4) else some (0)))))
set_option maxHeartbeats 4000000 in
set_option maxRecDepth 100000 in
theorem c_X10_usual (l : Launch) (dC : Nat → ClassId) (dI : Nat → Nat → Nat) (v : Int32) (k2 : Int32) (o : Int32) (hG : F_X10_usual v k2 = some o) : Met l yX10_usual (.code yX10_usual cX10_usual 2 (some .int) :: wA) ({ frames := 0, cells := 0, slots := 0, locals := 0 }) (va_Pc [.int v, .int k2] (q_R (dC, dI) [] [])) (q_i o) 0 0 (fun _ => False) := by
  refine Met.ofW (cc := cX10_usual) (maxL := 2) (ret := (some .int)) (by decide) rfl ?_
  intro p e s m args below meth c s₁ B hml hv
  obtain ⟨rfl, hP, hK⟩ := hv
  have hx := B.exec
  have hb := B.bytes
  have hr := B.returns
  have hts := atoms_spec (ws := .code yX10_usual cX10_usual 2 (some .int) :: wA) B.pre
  have hown : s.vm.findClass RX10 = some m.cls := findClass_of_methodNamed B.named
  have hlocks := B.notSynchronized
  have hS : va_S (fun _ => False) s.heap s.heap [] := va_S.rf
  have hl := lv_entry ([.int v, .int k2]) (n := 2) (Nat.le_of_ble_eq_true rfl)
  rw [lg_entry_eq]
  generalize (lg_sl ([.int v, .int k2]) ++ List.replicate (2 - (lg_sl ([.int v, .int k2])).length) Slot.unset).toArray = ls at hl ⊢
  have hl : lv_has ls 2 [(0, .int v), (1, .int k2)] := hl
  unfold F_X10_usual at hG
  refine lv_iload_n hx hb dX10_usual_0 rfl (lv_at hl 0 rfl) ?_
  refine lv_bipush (v := 115) hx hb dX10_usual_1 (by decide) ?_
  refine lv_icmp_ne (tgt := 65) hx hb dX10_usual_3 (by decide) (fun c_1 => ?_) (fun c_1 => ?_)
  · have hG := q_ifn c_1 hG
    refine lv_iload_n hx hb dX10_usual_65 rfl (lv_at hl 1 rfl) ?_
    refine lv_iconst (v := 1) hx hb dX10_usual_66 (by decide) ?_
    refine lv_icmp_eq (tgt := 75) hx hb dX10_usual_67 (by decide) (fun c_2 => ?_) (fun c_2 => ?_)
    · have hG := q_ifp c_2 hG
      refine lv_iconst (v := 1) hx hb dX10_usual_75 (by decide) ?_
      refine lv_goto (tgt := 89) hx hb dX10_usual_76 (by decide) ?_
      obtain rfl := Option.some.inj hG
      exact W.iret (v := 1) hx hb hr (fun t ht hW => ⟨⟨1, (), rfl, rfl, trivial⟩, hS.F ht⟩) hS.2.2 dX10_usual_89
    · have hG := q_ifn c_2 hG
      refine lv_iload_n hx hb dX10_usual_70 rfl (lv_at hl 1 rfl) ?_
      refine lv_iconst (v := 2) hx hb dX10_usual_71 (by decide) ?_
      refine lv_icmp_ne (tgt := 79) hx hb dX10_usual_72 (by decide) (fun c_3 => ?_) (fun c_3 => ?_)
      · have hG := q_ifn c_3 hG
        refine lv_iload_n hx hb dX10_usual_79 rfl (lv_at hl 1 rfl) ?_
        refine lv_iconst (v := 4) hx hb dX10_usual_80 (by decide) ?_
        refine lv_icmp_ne (tgt := 88) hx hb dX10_usual_81 (by decide) (fun c_4 => ?_) (fun c_4 => ?_)
        · have hG := q_ifn c_4 hG
          refine lv_iconst (v := 0) hx hb dX10_usual_88 (by decide) ?_
          obtain rfl := Option.some.inj hG
          exact W.iret (v := 0) hx hb hr (fun t ht hW => ⟨⟨0, (), rfl, rfl, trivial⟩, hS.F ht⟩) hS.2.2 dX10_usual_89
        · have hG := q_ifp c_4 hG
          refine lv_iconst (v := 4) hx hb dX10_usual_84 (by decide) ?_
          refine lv_goto (tgt := 89) hx hb dX10_usual_85 (by decide) ?_
          obtain rfl := Option.some.inj hG
          exact W.iret (v := 4) hx hb hr (fun t ht hW => ⟨⟨4, (), rfl, rfl, trivial⟩, hS.F ht⟩) hS.2.2 dX10_usual_89
      · have hG := q_ifp c_3 hG
        refine lv_iconst (v := 1) hx hb dX10_usual_75 (by decide) ?_
        refine lv_goto (tgt := 89) hx hb dX10_usual_76 (by decide) ?_
        obtain rfl := Option.some.inj hG
        exact W.iret (v := 1) hx hb hr (fun t ht hW => ⟨⟨1, (), rfl, rfl, trivial⟩, hS.F ht⟩) hS.2.2 dX10_usual_89
  · have hG := q_ifp c_1 hG
    refine lv_iload_n hx hb dX10_usual_6 rfl (lv_at hl 1 rfl) ?_
    by_cases e_5 : k2 = 0
    · have hG := q_ifp e_5 hG
      refine lv_tableIn (off := 41) (tgt := 48) hx hb dX10_usual_7 (by rw [e_5]; decide) (by rw [e_5]; decide) (by rw [e_5]; decide) (by decide) ?_
      refine lv_iconst (v := 4) hx hb dX10_usual_48 (by decide) ?_
      obtain rfl := Option.some.inj hG
      exact W.iret (v := 4) hx hb hr (fun t ht hW => ⟨⟨4, (), rfl, rfl, trivial⟩, hS.F ht⟩) hS.2.2 dX10_usual_49
    have hG := q_ifn e_5 hG
    by_cases e_6 : k2 = 1
    · have hG := q_ifp e_6 hG
      refine lv_tableIn (off := 43) (tgt := 50) hx hb dX10_usual_7 (by rw [e_6]; decide) (by rw [e_6]; decide) (by rw [e_6]; decide) (by decide) ?_
      refine lv_iconst (v := 3) hx hb dX10_usual_50 (by decide) ?_
      obtain rfl := Option.some.inj hG
      exact W.iret (v := 3) hx hb hr (fun t ht hW => ⟨⟨3, (), rfl, rfl, trivial⟩, hS.F ht⟩) hS.2.2 dX10_usual_51
    have hG := q_ifn e_6 hG
    by_cases e_7 : k2 = 2
    · have hG := q_ifp e_7 hG
      refine lv_tableIn (off := 45) (tgt := 52) hx hb dX10_usual_7 (by rw [e_7]; decide) (by rw [e_7]; decide) (by rw [e_7]; decide) (by decide) ?_
      refine lv_iconst (v := 2) hx hb dX10_usual_52 (by decide) ?_
      obtain rfl := Option.some.inj hG
      exact W.iret (v := 2) hx hb hr (fun t ht hW => ⟨⟨2, (), rfl, rfl, trivial⟩, hS.F ht⟩) hS.2.2 dX10_usual_53
    have hG := q_ifn e_7 hG
    by_cases e_8 : k2 = 3
    · have hG := q_ifp e_8 hG
      refine lv_tableIn (off := 45) (tgt := 52) hx hb dX10_usual_7 (by rw [e_8]; decide) (by rw [e_8]; decide) (by rw [e_8]; decide) (by decide) ?_
      refine lv_iconst (v := 2) hx hb dX10_usual_52 (by decide) ?_
      obtain rfl := Option.some.inj hG
      exact W.iret (v := 2) hx hb hr (fun t ht hW => ⟨⟨2, (), rfl, rfl, trivial⟩, hS.F ht⟩) hS.2.2 dX10_usual_53
    have hG := q_ifn e_8 hG
    by_cases e_9 : k2 = 4
    · have hG := q_ifp e_9 hG
      refine lv_tableIn (off := 47) (tgt := 54) hx hb dX10_usual_7 (by rw [e_9]; decide) (by rw [e_9]; decide) (by rw [e_9]; decide) (by decide) ?_
      refine lv_iconst (v := 5) hx hb dX10_usual_54 (by decide) ?_
      obtain rfl := Option.some.inj hG
      exact W.iret (v := 5) hx hb hr (fun t ht hW => ⟨⟨5, (), rfl, rfl, trivial⟩, hS.F ht⟩) hS.2.2 dX10_usual_55
    have hG := q_ifn e_9 hG
    by_cases e_10 : k2 = 5
    · have hG := q_ifp e_10 hG
      refine lv_tableIn (off := 49) (tgt := 56) hx hb dX10_usual_7 (by rw [e_10]; decide) (by rw [e_10]; decide) (by rw [e_10]; decide) (by decide) ?_
      refine lv_bipush (v := 99) hx hb dX10_usual_56 (by decide) ?_
      obtain rfl := Option.some.inj hG
      exact W.iret (v := 99) hx hb hr (fun t ht hW => ⟨⟨99, (), rfl, rfl, trivial⟩, hS.F ht⟩) hS.2.2 dX10_usual_58
    have hG := q_ifn e_10 hG
    by_cases e_11 : k2 = 6
    · have hG := q_ifp e_11 hG
      refine lv_tableIn (off := 52) (tgt := 59) hx hb dX10_usual_7 (by rw [e_11]; decide) (by rw [e_11]; decide) (by rw [e_11]; decide) (by decide) ?_
      refine lv_bipush (v := 60) hx hb dX10_usual_59 (by decide) ?_
      obtain rfl := Option.some.inj hG
      exact W.iret (v := 60) hx hb hr (fun t ht hW => ⟨⟨60, (), rfl, rfl, trivial⟩, hS.F ht⟩) hS.2.2 dX10_usual_61
    have hG := q_ifn e_11 hG
    have hsw : (k2).toInt < 0 ∨ 6 < (k2).toInt := by
      have := lv_neT (a := 0) e_5 (by decide)
      have := lv_neT (a := 1) e_6 (by decide)
      have := lv_neT (a := 2) e_7 (by decide)
      have := lv_neT (a := 3) e_8 (by decide)
      have := lv_neT (a := 4) e_9 (by decide)
      have := lv_neT (a := 5) e_10 (by decide)
      have := lv_neT (a := 6) e_11 (by decide)
      omega
    refine lv_tableOut (tgt := 62) hx hb dX10_usual_7 hsw (by decide) ?_
    refine lv_bipush (v := 9) hx hb dX10_usual_62 (by decide) ?_
    obtain rfl := Option.some.inj hG
    exact W.iret (v := 9) hx hb hr (fun t ht hW => ⟨⟨9, (), rfl, rfl, trivial⟩, hS.F ht⟩) hS.2.2 dX10_usual_64

def F_X10_sortOf (v : Int32) : Option (Int32) := (if v = 101 then some (4) else (if v = 111 then some (3) else (if v = 112 then some (0) else (if v = 116 then some (2) else (if v = 117 then some (1) else (if v = 122 then some (5) else some ((-1))))))))
set_option maxHeartbeats 4000000 in
set_option maxRecDepth 100000 in
theorem c_X10_sortOf (l : Launch) (dC : Nat → ClassId) (dI : Nat → Nat → Nat) (v : Int32) (o : Int32) (hG : F_X10_sortOf v = some o) : Met l yX10_sortOf (.code yX10_sortOf cX10_sortOf 1 (some .int) :: wA) ({ frames := 0, cells := 0, slots := 0, locals := 0 }) (va_Pc [.int v] (q_R (dC, dI) [] [])) (q_i o) 0 0 (fun _ => False) := by
  refine Met.ofW (cc := cX10_sortOf) (maxL := 1) (ret := (some .int)) (by decide) rfl ?_
  intro p e s m args below meth c s₁ B hml hv
  obtain ⟨rfl, hP, hK⟩ := hv
  have hx := B.exec
  have hb := B.bytes
  have hr := B.returns
  have hts := atoms_spec (ws := .code yX10_sortOf cX10_sortOf 1 (some .int) :: wA) B.pre
  have hown : s.vm.findClass RX10 = some m.cls := findClass_of_methodNamed B.named
  have hlocks := B.notSynchronized
  have hS : va_S (fun _ => False) s.heap s.heap [] := va_S.rf
  have hl := lv_entry ([.int v]) (n := 1) (Nat.le_of_ble_eq_true rfl)
  rw [lg_entry_eq]
  generalize (lg_sl ([.int v]) ++ List.replicate (1 - (lg_sl ([.int v])).length) Slot.unset).toArray = ls at hl ⊢
  have hl : lv_has ls 1 [(0, .int v)] := hl
  unfold F_X10_sortOf at hG
  refine lv_iload_n hx hb dX10_sortOf_0 rfl (lv_at hl 0 rfl) ?_
  by_cases e_1 : v = 101
  · have hG := q_ifp e_1 hG
    refine lv_lookup (off := 67) (tgt := 68) hx hb dX10_sortOf_1 (by decide) (by rw [e_1]; decide) (by decide) ?_
    refine lv_iconst (v := 4) hx hb dX10_sortOf_68 (by decide) ?_
    obtain rfl := Option.some.inj hG
    exact W.iret (v := 4) hx hb hr (fun t ht hW => ⟨⟨4, (), rfl, rfl, trivial⟩, hS.F ht⟩) hS.2.2 dX10_sortOf_69
  have hG := q_ifn e_1 hG
  by_cases e_2 : v = 111
  · have hG := q_ifp e_2 hG
    refine lv_lookup (off := 65) (tgt := 66) hx hb dX10_sortOf_1 (by decide) (by rw [e_2]; decide) (by decide) ?_
    refine lv_iconst (v := 3) hx hb dX10_sortOf_66 (by decide) ?_
    obtain rfl := Option.some.inj hG
    exact W.iret (v := 3) hx hb hr (fun t ht hW => ⟨⟨3, (), rfl, rfl, trivial⟩, hS.F ht⟩) hS.2.2 dX10_sortOf_67
  have hG := q_ifn e_2 hG
  by_cases e_3 : v = 112
  · have hG := q_ifp e_3 hG
    refine lv_lookup (off := 59) (tgt := 60) hx hb dX10_sortOf_1 (by decide) (by rw [e_3]; decide) (by decide) ?_
    refine lv_iconst (v := 0) hx hb dX10_sortOf_60 (by decide) ?_
    obtain rfl := Option.some.inj hG
    exact W.iret (v := 0) hx hb hr (fun t ht hW => ⟨⟨0, (), rfl, rfl, trivial⟩, hS.F ht⟩) hS.2.2 dX10_sortOf_61
  have hG := q_ifn e_3 hG
  by_cases e_4 : v = 116
  · have hG := q_ifp e_4 hG
    refine lv_lookup (off := 63) (tgt := 64) hx hb dX10_sortOf_1 (by decide) (by rw [e_4]; decide) (by decide) ?_
    refine lv_iconst (v := 2) hx hb dX10_sortOf_64 (by decide) ?_
    obtain rfl := Option.some.inj hG
    exact W.iret (v := 2) hx hb hr (fun t ht hW => ⟨⟨2, (), rfl, rfl, trivial⟩, hS.F ht⟩) hS.2.2 dX10_sortOf_65
  have hG := q_ifn e_4 hG
  by_cases e_5 : v = 117
  · have hG := q_ifp e_5 hG
    refine lv_lookup (off := 61) (tgt := 62) hx hb dX10_sortOf_1 (by decide) (by rw [e_5]; decide) (by decide) ?_
    refine lv_iconst (v := 1) hx hb dX10_sortOf_62 (by decide) ?_
    obtain rfl := Option.some.inj hG
    exact W.iret (v := 1) hx hb hr (fun t ht hW => ⟨⟨1, (), rfl, rfl, trivial⟩, hS.F ht⟩) hS.2.2 dX10_sortOf_63
  have hG := q_ifn e_5 hG
  by_cases e_6 : v = 122
  · have hG := q_ifp e_6 hG
    refine lv_lookup (off := 69) (tgt := 70) hx hb dX10_sortOf_1 (by decide) (by rw [e_6]; decide) (by decide) ?_
    refine lv_iconst (v := 5) hx hb dX10_sortOf_70 (by decide) ?_
    obtain rfl := Option.some.inj hG
    exact W.iret (v := 5) hx hb hr (fun t ht hW => ⟨⟨5, (), rfl, rfl, trivial⟩, hS.F ht⟩) hS.2.2 dX10_sortOf_71
  have hG := q_ifn e_6 hG
  refine lv_lookup (off := 71) (tgt := 72) hx hb dX10_sortOf_1 (by decide) ((lv_osw e_1 (by decide)).trans ((lv_osw e_2 (by decide)).trans ((lv_osw e_3 (by decide)).trans ((lv_osw e_4 (by decide)).trans ((lv_osw e_5 (by decide)).trans ((lv_osw e_6 (by decide)).trans (rfl))))))) (by decide) ?_
  refine lv_iconst (v := (-1)) hx hb dX10_sortOf_72 (by decide) ?_
  obtain rfl := Option.some.inj hG
  exact W.iret (v := (-1)) hx hb hr (fun t ht hW => ⟨⟨(-1), (), rfl, rfl, trivial⟩, hS.F ht⟩) hS.2.2 dX10_sortOf_73

def F_X10_actOf (v : Int32) : Option (Int32) := (if v = 0 then some (0) else (if v = 1 then some (1) else (if v = 2 then some (2) else (if v = 3 then some (3) else (if v = 4 then some (4) else some (6))))))
set_option maxHeartbeats 4000000 in
set_option maxRecDepth 100000 in
theorem c_X10_actOf (l : Launch) (dC : Nat → ClassId) (dI : Nat → Nat → Nat) (v : Int32) (o : Int32) (hG : F_X10_actOf v = some o) : Met l yX10_actOf (.code yX10_actOf cX10_actOf 1 (some .int) :: wA) ({ frames := 0, cells := 0, slots := 0, locals := 0 }) (va_Pc [.int v] (q_R (dC, dI) [] [])) (q_i o) 0 0 (fun _ => False) := by
  refine Met.ofW (cc := cX10_actOf) (maxL := 1) (ret := (some .int)) (by decide) rfl ?_
  intro p e s m args below meth c s₁ B hml hv
  obtain ⟨rfl, hP, hK⟩ := hv
  have hx := B.exec
  have hb := B.bytes
  have hr := B.returns
  have hts := atoms_spec (ws := .code yX10_actOf cX10_actOf 1 (some .int) :: wA) B.pre
  have hown : s.vm.findClass RX10 = some m.cls := findClass_of_methodNamed B.named
  have hlocks := B.notSynchronized
  have hS : va_S (fun _ => False) s.heap s.heap [] := va_S.rf
  have hl := lv_entry ([.int v]) (n := 1) (Nat.le_of_ble_eq_true rfl)
  rw [lg_entry_eq]
  generalize (lg_sl ([.int v]) ++ List.replicate (1 - (lg_sl ([.int v])).length) Slot.unset).toArray = ls at hl ⊢
  have hl : lv_has ls 1 [(0, .int v)] := hl
  unfold F_X10_actOf at hG
  refine lv_iload_n hx hb dX10_actOf_0 rfl (lv_at hl 0 rfl) ?_
  by_cases e_1 : v = 0
  · have hG := q_ifp e_1 hG
    refine lv_tableIn (off := 35) (tgt := 36) hx hb dX10_actOf_1 (by rw [e_1]; decide) (by rw [e_1]; decide) (by rw [e_1]; decide) (by decide) ?_
    refine lv_iconst (v := 0) hx hb dX10_actOf_36 (by decide) ?_
    obtain rfl := Option.some.inj hG
    exact W.iret (v := 0) hx hb hr (fun t ht hW => ⟨⟨0, (), rfl, rfl, trivial⟩, hS.F ht⟩) hS.2.2 dX10_actOf_37
  have hG := q_ifn e_1 hG
  by_cases e_2 : v = 1
  · have hG := q_ifp e_2 hG
    refine lv_tableIn (off := 37) (tgt := 38) hx hb dX10_actOf_1 (by rw [e_2]; decide) (by rw [e_2]; decide) (by rw [e_2]; decide) (by decide) ?_
    refine lv_iconst (v := 1) hx hb dX10_actOf_38 (by decide) ?_
    obtain rfl := Option.some.inj hG
    exact W.iret (v := 1) hx hb hr (fun t ht hW => ⟨⟨1, (), rfl, rfl, trivial⟩, hS.F ht⟩) hS.2.2 dX10_actOf_39
  have hG := q_ifn e_2 hG
  by_cases e_3 : v = 2
  · have hG := q_ifp e_3 hG
    refine lv_tableIn (off := 39) (tgt := 40) hx hb dX10_actOf_1 (by rw [e_3]; decide) (by rw [e_3]; decide) (by rw [e_3]; decide) (by decide) ?_
    refine lv_iconst (v := 2) hx hb dX10_actOf_40 (by decide) ?_
    obtain rfl := Option.some.inj hG
    exact W.iret (v := 2) hx hb hr (fun t ht hW => ⟨⟨2, (), rfl, rfl, trivial⟩, hS.F ht⟩) hS.2.2 dX10_actOf_41
  have hG := q_ifn e_3 hG
  by_cases e_4 : v = 3
  · have hG := q_ifp e_4 hG
    refine lv_tableIn (off := 41) (tgt := 42) hx hb dX10_actOf_1 (by rw [e_4]; decide) (by rw [e_4]; decide) (by rw [e_4]; decide) (by decide) ?_
    refine lv_iconst (v := 3) hx hb dX10_actOf_42 (by decide) ?_
    obtain rfl := Option.some.inj hG
    exact W.iret (v := 3) hx hb hr (fun t ht hW => ⟨⟨3, (), rfl, rfl, trivial⟩, hS.F ht⟩) hS.2.2 dX10_actOf_43
  have hG := q_ifn e_4 hG
  by_cases e_5 : v = 4
  · have hG := q_ifp e_5 hG
    refine lv_tableIn (off := 43) (tgt := 44) hx hb dX10_actOf_1 (by rw [e_5]; decide) (by rw [e_5]; decide) (by rw [e_5]; decide) (by decide) ?_
    refine lv_iconst (v := 4) hx hb dX10_actOf_44 (by decide) ?_
    obtain rfl := Option.some.inj hG
    exact W.iret (v := 4) hx hb hr (fun t ht hW => ⟨⟨4, (), rfl, rfl, trivial⟩, hS.F ht⟩) hS.2.2 dX10_actOf_45
  have hG := q_ifn e_5 hG
  have hsw : (v).toInt < 0 ∨ 4 < (v).toInt := by
    have := lv_neT (a := 0) e_1 (by decide)
    have := lv_neT (a := 1) e_2 (by decide)
    have := lv_neT (a := 2) e_3 (by decide)
    have := lv_neT (a := 3) e_4 (by decide)
    have := lv_neT (a := 4) e_5 (by decide)
    omega
  refine lv_tableOut (tgt := 46) hx hb dX10_actOf_1 hsw (by decide) ?_
  refine lv_bipush (v := 6) hx hb dX10_actOf_46 (by decide) ?_
  obtain rfl := Option.some.inj hG
  exact W.iret (v := 6) hx hb hr (fun t ht hW => ⟨⟨6, (), rfl, rfl, trivial⟩, hS.F ht⟩) hS.2.2 dX10_actOf_48

def FL_X10_feed_62 (tn : Int32) (tp : Nat → Int32) (a1 : Int32) (a2 : Int32) (a3 : Int32) (a4 : Int32) (a5 : Int32) : Nat → Int32 → Int32 → (Int32) → (Nat → Int32) → Option (Int32 × Int32 × (Nat → Int32))
  | 0, _, _, _, _ => none
  | n + 1, x6_62, x7_62, tn_c, tp_c => (if 20 ≤ x7_62 then some (tn_c, tn_c, tp_c) else ((F_X10_byteOf a1 a2 a3 a4 a5 x7_62).bind fun o_4 => (if o_4 = 0 then (FL_X10_feed_62 tn tp a1 a2 a3 a4 a5 n x6_62 (x7_62 + 1) tn_c tp_c) else (if tn_c < 0 ∨ 240 ≤ (tn_c).toNatClampNeg then none else (FL_X10_feed_62 tn tp a1 a2 a3 a4 a5 n x6_62 (x7_62 + 1) (tn_c + 1) (upd tp_c (tn_c).toNatClampNeg o_4))))))

def FL_X10_feed_6 (tn : Int32) (tp : Nat → Int32) (a1 : Int32) (a2 : Int32) (a3 : Int32) (a4 : Int32) (a5 : Int32) : Nat → Int32 → Int32 → (Int32) → (Nat → Int32) → Option (Int32 × Int32 × (Nat → Int32))
  | 0, _, _, _, _ => none
  | n + 1, x6_6, x7_6, tn_c, tp_c => (if 20 ≤ x7_6 then (if (tn_c + x6_6) ≤ 240 then (FL_X10_feed_62 tn tp a1 a2 a3 a4 a5 1000 x6_6 0 tn_c tp_c) else some ((-1), tn_c, tp_c)) else ((F_X10_byteOf a1 a2 a3 a4 a5 x7_6).bind fun o_8 => (if o_8 = 0 then (FL_X10_feed_6 tn tp a1 a2 a3 a4 a5 n (x6_6 + 0) (x7_6 + 1) tn_c tp_c) else (FL_X10_feed_6 tn tp a1 a2 a3 a4 a5 n (x6_6 + 1) (x7_6 + 1) tn_c tp_c))))

def F_X10_feed (tn : Int32) (tp : Nat → Int32) (a1 : Int32) (a2 : Int32) (a3 : Int32) (a4 : Int32) (a5 : Int32) : Option (Int32 × Int32 × (Nat → Int32)) := (FL_X10_feed_6 tn tp a1 a2 a3 a4 a5 1000 0 0 tn tp)
set_option maxHeartbeats 4000000 in
set_option maxRecDepth 100000 in
theorem c_X10_feed (l : Launch) (dC : Nat → ClassId) (dI : Nat → Nat → Nat) (bm : Nat → Nat) (km : Nat → ClassId) (th : Int32) (tn : Int32) (at_ : Int32) (wr : Int32) (rm_ : Int32) (mn : Int32) (sn : Int32) (ac : Int32) (hi : Int32) (dn : Int64) (tp : Nat → Int32) (a1 : Int32) (a2 : Int32) (a3 : Int32) (a4 : Int32) (a5 : Int32) (A : Nat → Prop) (o : Int32 × Int32 × (Nat → Int32)) (hG : F_X10_feed tn tp a1 a2 a3 a4 a5 = some o) : Met l yX10_feed (.code yX10_feed cX10_feed 9 (some .int) :: wA) ({ frames := 1, cells := 0, slots := 0, locals := 26 }) (va_Pc [.ref (bm 0), .int a1, .int a2, .int a3, .int a4, .int a5] (q_W (dC, dI) A [((bm 0), .inr (10, [.int th, .ref (bm 1), .int tn, .int at_, .int wr, .ref (bm 2), .ref (bm 3), .int rm_, .ref (bm 4), .ref (bm 5), .int mn, .ref (bm 6), .ref (bm 7), .int sn, .ref (bm 8), .ref (bm 9), .ref (bm 10), .int ac, .long dn, .ref (bm 11), .ref (bm 12), .ref (bm 13), .ref (bm 14), .int hi])), ((bm 1), .inl ((km 1), 240, .inl tp))] [((km 1), .int)])) (va_Qi (fun (r : Int32) (_ : Unit) => r = o.1 ∧ True) (fun (_ : Unit) t => q_B (dC, dI) A [((bm 0), .inr (10, [.int th, .ref (bm 1), .int (o.2.1), .int at_, .int wr, .ref (bm 2), .ref (bm 3), .int rm_, .ref (bm 4), .ref (bm 5), .int mn, .ref (bm 6), .ref (bm 7), .int sn, .ref (bm 8), .ref (bm 9), .ref (bm 10), .int ac, .long dn, .ref (bm 11), .ref (bm 12), .ref (bm 13), .ref (bm 14), .int hi])), ((bm 1), .inl ((km 1), 240, .inl (o.2.2)))] [((km 1), .int)] t) A) 0 0 A := by
  refine Met.ofW (cc := cX10_feed) (maxL := 9) (ret := (some .int)) (by decide) rfl ?_
  intro p e s m args below meth c s₁ B hml hv
  obtain ⟨rfl, hP, hK, hD, hA⟩ := hv
  have hx := B.exec
  have hb := B.bytes
  have hr := B.returns
  have hts := atoms_spec (ws := .code yX10_feed cX10_feed 9 (some .int) :: wA) B.pre
  have hown : s.vm.findClass RX10 = some m.cls := findClass_of_methodNamed B.named
  have hlocks := B.notSynchronized
  have hS : va_S A s.heap s.heap [] := va_S.rf
  have hl := lv_entry ([.ref (bm 0), .int a1, .int a2, .int a3, .int a4, .int a5]) (n := 9) (Nat.le_of_ble_eq_true rfl)
  rw [lg_entry_eq]
  generalize (lg_sl ([.ref (bm 0), .int a1, .int a2, .int a3, .int a4, .int a5]) ++ List.replicate (9 - (lg_sl ([.ref (bm 0), .int a1, .int a2, .int a3, .int a4, .int a5])).length) Slot.unset).toArray = ls at hl ⊢
  have hl : lv_has ls 9 [(0, .ref (bm 0)), (1, .int a1), (2, .int a2), (3, .int a3), (4, .int a4), (5, .int a5)] := hl
  unfold F_X10_feed at hG
  refine lv_iconst (v := 0) hx hb dX10_feed_0 (by decide) ?_
  refine lv_istore (lv' := [(6, .int 0), (0, .ref (bm 0)), (1, .int a1), (2, .int a2), (3, .int a3), (4, .int a4), (5, .int a5)]) hx hb dX10_feed_1 hl (by decide) rfl (fun ls hl => ?_)
  refine lv_iconst (v := 0) hx hb dX10_feed_3 (by decide) ?_
  refine lv_istore (lv' := [(7, .int 0), (6, .int 0), (0, .ref (bm 0)), (1, .int a1), (2, .int a2), (3, .int a3), (4, .int a4), (5, .int a5)]) hx hb dX10_feed_4 hl (by decide) rfl (fun ls hl => ?_)
  have L_6 : ∀ (n_6 : Nat) (x6_6 : Int32) (x7_6 : Int32) (tn_c : Int32) (tp_c : Nat → Int32) (H : Heap) (locs : List Loc) (ls : Array Slot), FL_X10_feed_6 tn tp a1 a2 a3 a4 a5 n_6 x6_6 x7_6 tn_c tp_c = some o → va_P (dC, dI) vwCl [((bm 0), .inr (10, [.int th, .ref (bm 1), .int tn_c, .int at_, .int wr, .ref (bm 2), .ref (bm 3), .int rm_, .ref (bm 4), .ref (bm 5), .int mn, .ref (bm 6), .ref (bm 7), .int sn, .ref (bm 8), .ref (bm 9), .ref (bm 10), .int ac, .long dn, .ref (bm 11), .ref (bm 12), .ref (bm 13), .ref (bm 14), .int hi])), ((bm 1), .inl ((km 1), 240, .inl tp_c))] H → va_D A [((bm 0), .inr (10, [.int th, .ref (bm 1), .int tn_c, .int at_, .int wr, .ref (bm 2), .ref (bm 3), .int rm_, .ref (bm 4), .ref (bm 5), .int mn, .ref (bm 6), .ref (bm 7), .int sn, .ref (bm 8), .ref (bm 9), .ref (bm 10), .int ac, .long dn, .ref (bm 11), .ref (bm 12), .ref (bm 13), .ref (bm 14), .int hi])), ((bm 1), .inl ((km 1), 240, .inl tp_c))] → va_S A s.heap H locs → lv_has ls 9 [(7, .int x7_6), (6, .int x6_6), (0, .ref (bm 0)), (1, .int a1), (2, .int a2), (3, .int a3), (4, .int a4), (5, .int a5)] → W p l e (headSpec (.code yX10_feed cX10_feed 9 (some .int) :: wA) ({ frames := 1, cells := 0, slots := 0, locals := 26 })).room s m #[.ref (bm 0), .int a1, .int a2, .int a3, .int a4, .int a5] below meth c H locs 0 0 (MQ below (va_Qi (fun (r : Int32) (_ : Unit) => r = o.1 ∧ True) (fun (_ : Unit) t => q_B (dC, dI) A [((bm 0), .inr (10, [.int th, .ref (bm 1), .int (o.2.1), .int at_, .int wr, .ref (bm 2), .ref (bm 3), .int rm_, .ref (bm 4), .ref (bm 5), .int mn, .ref (bm 6), .ref (bm 7), .int sn, .ref (bm 8), .ref (bm 9), .ref (bm 10), .int ac, .long dn, .ref (bm 11), .ref (bm 12), .ref (bm 13), .ref (bm 14), .int hi])), ((bm 1), .inl ((km 1), 240, .inl (o.2.2)))] [((km 1), .int)] t) A) #[.ref (bm 0), .int a1, .int a2, .int a3, .int a4, .int a5] s 0 0 A) (F0 m 6 ls []) := by
    intro n_6
    induction n_6 with
    | zero =>
      intro x6_6 x7_6 tn_c tp_c H locs ls hG
      exact q_no hG
    | succ n_6 ih_6 =>
      intro x6_6 x7_6 tn_c tp_c H locs ls hG hP hD hS hl
      unfold FL_X10_feed_6 at hG
      refine lv_iload hx hb dX10_feed_6 (lv_at hl 0 rfl) ?_
      refine lv_bipush (v := 20) hx hb dX10_feed_8 (by decide) ?_
      refine lv_icmp_ge (tgt := 44) hx hb dX10_feed_10 (by decide) (fun c_1 => ?_) (fun c_1 => ?_)
      · have hG := q_ifp c_1 hG
        refine lv_aload_n hx hb dX10_feed_44 rfl (lv_at hl 2 rfl) ?_
        refine va_get (D := (dC, dI)) (ci := 10) (v := .int tn_c) (C := RX10) (T := TX10) (N := 24) hx hb hts iA_10 hown hK hP 0 rfl rfl 2 (by decide) (hts (.fieldLink RX10 60 "HubTreeModel" "taped" "I") (List.mem_cons_of_mem _ m_145)) (fun _ h9 => h9) rfl dX10_feed_45 ?_
        refine lv_iload hx hb dX10_feed_48 (lv_at hl 1 rfl) ?_
        refine lv_iadd hx hb dX10_feed_50 ?_
        refine lv_sipush (v := 240) hx hb dX10_feed_51 (by decide) ?_
        refine lv_icmp_le (tgt := 59) hx hb dX10_feed_54 (by decide) (fun c_2 => ?_) (fun c_2 => ?_)
        · have hG := q_ifp c_2 hG
          refine lv_iconst (v := 0) hx hb dX10_feed_59 (by decide) ?_
          refine lv_istore (lv' := [(7, .int 0), (6, .int x6_6), (0, .ref (bm 0)), (1, .int a1), (2, .int a2), (3, .int a3), (4, .int a4), (5, .int a5)]) hx hb dX10_feed_60 hl (by decide) rfl (fun ls hl => ?_)
          have L_62 : ∀ (n_62 : Nat) (x6_62 : Int32) (x7_62 : Int32) (tn_c : Int32) (tp_c : Nat → Int32) (H : Heap) (locs : List Loc) (ls : Array Slot), FL_X10_feed_62 tn tp a1 a2 a3 a4 a5 n_62 x6_62 x7_62 tn_c tp_c = some o → va_P (dC, dI) vwCl [((bm 0), .inr (10, [.int th, .ref (bm 1), .int tn_c, .int at_, .int wr, .ref (bm 2), .ref (bm 3), .int rm_, .ref (bm 4), .ref (bm 5), .int mn, .ref (bm 6), .ref (bm 7), .int sn, .ref (bm 8), .ref (bm 9), .ref (bm 10), .int ac, .long dn, .ref (bm 11), .ref (bm 12), .ref (bm 13), .ref (bm 14), .int hi])), ((bm 1), .inl ((km 1), 240, .inl tp_c))] H → va_D A [((bm 0), .inr (10, [.int th, .ref (bm 1), .int tn_c, .int at_, .int wr, .ref (bm 2), .ref (bm 3), .int rm_, .ref (bm 4), .ref (bm 5), .int mn, .ref (bm 6), .ref (bm 7), .int sn, .ref (bm 8), .ref (bm 9), .ref (bm 10), .int ac, .long dn, .ref (bm 11), .ref (bm 12), .ref (bm 13), .ref (bm 14), .int hi])), ((bm 1), .inl ((km 1), 240, .inl tp_c))] → va_S A s.heap H locs → lv_has ls 9 [(7, .int x7_62), (6, .int x6_62), (0, .ref (bm 0)), (1, .int a1), (2, .int a2), (3, .int a3), (4, .int a4), (5, .int a5)] → W p l e (headSpec (.code yX10_feed cX10_feed 9 (some .int) :: wA) ({ frames := 1, cells := 0, slots := 0, locals := 26 })).room s m #[.ref (bm 0), .int a1, .int a2, .int a3, .int a4, .int a5] below meth c H locs 0 0 (MQ below (va_Qi (fun (r : Int32) (_ : Unit) => r = o.1 ∧ True) (fun (_ : Unit) t => q_B (dC, dI) A [((bm 0), .inr (10, [.int th, .ref (bm 1), .int (o.2.1), .int at_, .int wr, .ref (bm 2), .ref (bm 3), .int rm_, .ref (bm 4), .ref (bm 5), .int mn, .ref (bm 6), .ref (bm 7), .int sn, .ref (bm 8), .ref (bm 9), .ref (bm 10), .int ac, .long dn, .ref (bm 11), .ref (bm 12), .ref (bm 13), .ref (bm 14), .int hi])), ((bm 1), .inl ((km 1), 240, .inl (o.2.2)))] [((km 1), .int)] t) A) #[.ref (bm 0), .int a1, .int a2, .int a3, .int a4, .int a5] s 0 0 A) (F0 m 62 ls []) := by
            intro n_62
            induction n_62 with
            | zero =>
              intro x6_62 x7_62 tn_c tp_c H locs ls hG
              exact q_no hG
            | succ n_62 ih_62 =>
              intro x6_62 x7_62 tn_c tp_c H locs ls hG hP hD hS hl
              unfold FL_X10_feed_62 at hG
              refine lv_iload hx hb dX10_feed_62 (lv_at hl 0 rfl) ?_
              refine lv_bipush (v := 20) hx hb dX10_feed_64 (by decide) ?_
              refine lv_icmp_ge (tgt := 115) hx hb dX10_feed_66 (by decide) (fun c_3 => ?_) (fun c_3 => ?_)
              · have hG := q_ifp c_3 hG
                refine lv_aload_n hx hb dX10_feed_115 rfl (lv_at hl 2 rfl) ?_
                refine va_get (D := (dC, dI)) (ci := 10) (v := .int tn_c) (C := RX10) (T := TX10) (N := 24) hx hb hts iA_10 hown hK hP 0 rfl rfl 2 (by decide) (hts (.fieldLink RX10 60 "HubTreeModel" "taped" "I") (List.mem_cons_of_mem _ m_145)) (fun _ h9 => h9) rfl dX10_feed_116 ?_
                obtain rfl := Option.some.inj hG
                have hP9 := hP.sub (ws' := [((bm 0), .inr (10, [.int th, .ref (bm 1), .int tn_c, .int at_, .int wr, .ref (bm 2), .ref (bm 3), .int rm_, .ref (bm 4), .ref (bm 5), .int mn, .ref (bm 6), .ref (bm 7), .int sn, .ref (bm 8), .ref (bm 9), .ref (bm 10), .int ac, .long dn, .ref (bm 11), .ref (bm 12), .ref (bm 13), .ref (bm 14), .int hi])), ((bm 1), .inl ((km 1), 240, .inl tp_c))]) [0, 1] rfl
                have hD9 := hD.sub (ws' := [((bm 0), .inr (10, [.int th, .ref (bm 1), .int tn_c, .int at_, .int wr, .ref (bm 2), .ref (bm 3), .int rm_, .ref (bm 4), .ref (bm 5), .int mn, .ref (bm 6), .ref (bm 7), .int sn, .ref (bm 8), .ref (bm 9), .ref (bm 10), .int ac, .long dn, .ref (bm 11), .ref (bm 12), .ref (bm 13), .ref (bm 14), .int hi])), ((bm 1), .inl ((km 1), 240, .inl tp_c))]) [0, 1] (by decide) rfl
                have hK9 := hK.sub (tys' := [((km 1), .int)]) [0] rfl
                exact W.iret (v := tn_c) hx hb hr (fun t ht hW => ⟨⟨tn_c, (), rfl, ⟨rfl, trivial⟩, by rw [ht]; exact hP9, va_K.moved hW.alike hK9, hD9⟩, hS.F ht⟩) hS.2.2 dX10_feed_119
              · have hG := q_ifn c_3 hG
                refine lv_iload_n hx hb dX10_feed_69 rfl (lv_at hl 3 rfl) ?_
                refine lv_iload_n hx hb dX10_feed_70 rfl (lv_at hl 4 rfl) ?_
                refine lv_iload_n hx hb dX10_feed_71 rfl (lv_at hl 5 rfl) ?_
                refine lv_iload hx hb dX10_feed_72 (lv_at hl 6 rfl) ?_
                refine lv_iload hx hb dX10_feed_74 (lv_at hl 7 rfl) ?_
                refine lv_iload hx hb dX10_feed_76 (lv_at hl 0 rfl) ?_
                obtain ⟨o_4, r_5, hG⟩ := q_bi hG
                refine q_goi (v := o_4) (va_runS (As := [.int a1, .int a2, .int a3, .int a4, .int a5, .int x7_62]) (rest := []) ⟨hx, hb, hml, hown, hts⟩ (c_X10_byteOf l dC dI a1 a2 a3 a4 a5 x7_62 o_4 r_5) (va_cwS 6 hts (q_gS m_146 m_147 m_5 m_148) rfl rfl rfl hdS_yX10_byteOf_6 ⟨Nat.le_of_ble_eq_true rfl, Nat.le_of_ble_eq_true rfl⟩) (q_preS hK hP [] rfl [] rfl) rfl rfl hl.1 rfl (lv_room (Nat.le_of_ble_eq_true rfl)) dX10_feed_78 ⟨Nat.le_of_ble_eq_true rfl, Nat.le_of_ble_eq_true rfl⟩) hP hS (fun H locs hP hS => ?_)
                refine lv_istore (lv' := [(8, .int o_4), (7, .int x7_62), (6, .int x6_62), (0, .ref (bm 0)), (1, .int a1), (2, .int a2), (3, .int a3), (4, .int a4), (5, .int a5)]) hx hb dX10_feed_81 hl (by decide) rfl (fun ls hl => ?_)
                refine lv_iload hx hb dX10_feed_83 (lv_at hl 0 rfl) ?_
                refine lv_if_eq (tgt := 109) hx hb dX10_feed_85 (by decide) (fun c_6 => ?_) (fun c_6 => ?_)
                · have hG := q_ifp c_6 hG
                  refine lv_iinc (v := (x7_62 + 1)) (lv' := [(7, .int (x7_62 + 1)), (8, .int o_4), (6, .int x6_62), (0, .ref (bm 0)), (1, .int a1), (2, .int a2), (3, .int a3), (4, .int a4), (5, .int a5)]) hx hb dX10_feed_109 hl (k := 1) rfl (rfl) (by decide) rfl (fun ls hl => ?_)
                  refine lv_goto (tgt := 62) hx hb dX10_feed_112 (by decide) ?_
                  exact ih_62 x6_62 (x7_62 + 1) tn_c tp_c H locs ls hG hP hD hS (lv_sub hl [0, 2, 3, 4, 5, 6, 7, 8] rfl)
                · have hG := q_ifn c_6 hG
                  refine lv_aload_n hx hb dX10_feed_88 rfl (lv_at hl 3 rfl) ?_
                  refine va_get (D := (dC, dI)) (ci := 10) (v := .ref (bm 1)) (C := RX10) (T := TX10) (N := 24) hx hb hts iA_10 hown hK hP 0 rfl rfl 1 (by decide) (hts (.fieldLink RX10 9 "HubTreeModel" "tape" "[I") (List.mem_cons_of_mem _ m_115)) (fun _ h9 => h9) rfl dX10_feed_89 ?_
                  refine lv_aload_n hx hb dX10_feed_92 rfl (lv_at hl 3 rfl) ?_
                  refine va_get (D := (dC, dI)) (ci := 10) (v := .int tn_c) (C := RX10) (T := TX10) (N := 24) hx hb hts iA_10 hown hK hP 0 rfl rfl 2 (by decide) (hts (.fieldLink RX10 60 "HubTreeModel" "taped" "I") (List.mem_cons_of_mem _ m_145)) (fun _ h9 => h9) rfl dX10_feed_93 ?_
                  refine lv_iload hx hb dX10_feed_96 (lv_at hl 0 rfl) ?_
                  obtain ⟨h_7, hG⟩ := q_ix hG
                  refine va_iast hx hb hK hP hD hS 1 0 rfl rfl (i := tn_c) (x := o_4) h_7 dX10_feed_98 (fun H locs hP hD hS => ?_)
                  have hP : va_P (dC, dI) vwCl [((bm 0), .inr (10, [.int th, .ref (bm 1), .int tn_c, .int at_, .int wr, .ref (bm 2), .ref (bm 3), .int rm_, .ref (bm 4), .ref (bm 5), .int mn, .ref (bm 6), .ref (bm 7), .int sn, .ref (bm 8), .ref (bm 9), .ref (bm 10), .int ac, .long dn, .ref (bm 11), .ref (bm 12), .ref (bm 13), .ref (bm 14), .int hi])), ((bm 1), .inl ((km 1), 240, .inl (upd tp_c (tn_c).toNatClampNeg o_4)))] H := hP
                  have hD : va_D A [((bm 0), .inr (10, [.int th, .ref (bm 1), .int tn_c, .int at_, .int wr, .ref (bm 2), .ref (bm 3), .int rm_, .ref (bm 4), .ref (bm 5), .int mn, .ref (bm 6), .ref (bm 7), .int sn, .ref (bm 8), .ref (bm 9), .ref (bm 10), .int ac, .long dn, .ref (bm 11), .ref (bm 12), .ref (bm 13), .ref (bm 14), .int hi])), ((bm 1), .inl ((km 1), 240, .inl (upd tp_c (tn_c).toNatClampNeg o_4)))] := hD
                  refine lv_aload_n hx hb dX10_feed_99 rfl (lv_at hl 3 rfl) ?_
                  refine lv_dup hx hb dX10_feed_100 rfl ?_
                  refine va_get (D := (dC, dI)) (ci := 10) (v := .int tn_c) (C := RX10) (T := TX10) (N := 24) hx hb hts iA_10 hown hK hP 0 rfl rfl 2 (by decide) (hts (.fieldLink RX10 60 "HubTreeModel" "taped" "I") (List.mem_cons_of_mem _ m_145)) (fun _ h9 => h9) rfl dX10_feed_101 ?_
                  refine lv_iconst (v := 1) hx hb dX10_feed_104 (by decide) ?_
                  refine lv_iadd hx hb dX10_feed_105 ?_
                  refine va_put (D := (dC, dI)) (ci := 10) (v := .int (tn_c + 1)) (ty := .int) (C := RX10) (T := TX10) (N := 24) hx hb hts iA_10 tyX10 tyX10_ok nmX10 hown hK hP hD hS 0 rfl rfl 2 (by decide) (hts (.fieldLink RX10 60 "HubTreeModel" "taped" "I") (List.mem_cons_of_mem _ m_145)) (fun _ h9 => h9) rfl (by decide +kernel) rfl rfl (Nat.le_of_ble_eq_true rfl) dX10_feed_106 (fun H locs hP hD hS => ?_)
                  have hP : va_P (dC, dI) vwCl [((bm 0), .inr (10, [.int th, .ref (bm 1), .int (tn_c + 1), .int at_, .int wr, .ref (bm 2), .ref (bm 3), .int rm_, .ref (bm 4), .ref (bm 5), .int mn, .ref (bm 6), .ref (bm 7), .int sn, .ref (bm 8), .ref (bm 9), .ref (bm 10), .int ac, .long dn, .ref (bm 11), .ref (bm 12), .ref (bm 13), .ref (bm 14), .int hi])), ((bm 1), .inl ((km 1), 240, .inl (upd tp_c (tn_c).toNatClampNeg o_4)))] H := hP
                  have hD : va_D A [((bm 0), .inr (10, [.int th, .ref (bm 1), .int (tn_c + 1), .int at_, .int wr, .ref (bm 2), .ref (bm 3), .int rm_, .ref (bm 4), .ref (bm 5), .int mn, .ref (bm 6), .ref (bm 7), .int sn, .ref (bm 8), .ref (bm 9), .ref (bm 10), .int ac, .long dn, .ref (bm 11), .ref (bm 12), .ref (bm 13), .ref (bm 14), .int hi])), ((bm 1), .inl ((km 1), 240, .inl (upd tp_c (tn_c).toNatClampNeg o_4)))] := hD
                  refine lv_iinc (v := (x7_62 + 1)) (lv' := [(7, .int (x7_62 + 1)), (8, .int o_4), (6, .int x6_62), (0, .ref (bm 0)), (1, .int a1), (2, .int a2), (3, .int a3), (4, .int a4), (5, .int a5)]) hx hb dX10_feed_109 hl (k := 1) rfl (rfl) (by decide) rfl (fun ls hl => ?_)
                  refine lv_goto (tgt := 62) hx hb dX10_feed_112 (by decide) ?_
                  exact ih_62 x6_62 (x7_62 + 1) (tn_c + 1) (upd tp_c (tn_c).toNatClampNeg o_4) H locs ls hG hP hD hS (lv_sub hl [0, 2, 3, 4, 5, 6, 7, 8] rfl)
          exact L_62 1000 x6_6 0 tn_c tp_c H locs ls hG hP hD hS hl
        · have hG := q_ifn c_2 hG
          refine lv_iconst (v := (-1)) hx hb dX10_feed_57 (by decide) ?_
          obtain rfl := Option.some.inj hG
          have hP9 := hP.sub (ws' := [((bm 0), .inr (10, [.int th, .ref (bm 1), .int tn_c, .int at_, .int wr, .ref (bm 2), .ref (bm 3), .int rm_, .ref (bm 4), .ref (bm 5), .int mn, .ref (bm 6), .ref (bm 7), .int sn, .ref (bm 8), .ref (bm 9), .ref (bm 10), .int ac, .long dn, .ref (bm 11), .ref (bm 12), .ref (bm 13), .ref (bm 14), .int hi])), ((bm 1), .inl ((km 1), 240, .inl tp_c))]) [0, 1] rfl
          have hD9 := hD.sub (ws' := [((bm 0), .inr (10, [.int th, .ref (bm 1), .int tn_c, .int at_, .int wr, .ref (bm 2), .ref (bm 3), .int rm_, .ref (bm 4), .ref (bm 5), .int mn, .ref (bm 6), .ref (bm 7), .int sn, .ref (bm 8), .ref (bm 9), .ref (bm 10), .int ac, .long dn, .ref (bm 11), .ref (bm 12), .ref (bm 13), .ref (bm 14), .int hi])), ((bm 1), .inl ((km 1), 240, .inl tp_c))]) [0, 1] (by decide) rfl
          have hK9 := hK.sub (tys' := [((km 1), .int)]) [0] rfl
          exact W.iret (v := (-1)) hx hb hr (fun t ht hW => ⟨⟨(-1), (), rfl, ⟨rfl, trivial⟩, by rw [ht]; exact hP9, va_K.moved hW.alike hK9, hD9⟩, hS.F ht⟩) hS.2.2 dX10_feed_58
      · have hG := q_ifn c_1 hG
        refine lv_iload hx hb dX10_feed_13 (lv_at hl 1 rfl) ?_
        refine lv_iload_n hx hb dX10_feed_15 rfl (lv_at hl 3 rfl) ?_
        refine lv_iload_n hx hb dX10_feed_16 rfl (lv_at hl 4 rfl) ?_
        refine lv_iload_n hx hb dX10_feed_17 rfl (lv_at hl 5 rfl) ?_
        refine lv_iload hx hb dX10_feed_18 (lv_at hl 6 rfl) ?_
        refine lv_iload hx hb dX10_feed_20 (lv_at hl 7 rfl) ?_
        refine lv_iload hx hb dX10_feed_22 (lv_at hl 0 rfl) ?_
        obtain ⟨o_8, r_9, hG⟩ := q_bi hG
        refine q_goi (v := o_8) (va_runS (As := [.int a1, .int a2, .int a3, .int a4, .int a5, .int x7_6]) (rest := [.int x6_6]) ⟨hx, hb, hml, hown, hts⟩ (c_X10_byteOf l dC dI a1 a2 a3 a4 a5 x7_6 o_8 r_9) (va_cwS 6 hts (q_gS m_146 m_147 m_5 m_148) rfl rfl rfl hdS_yX10_byteOf_6 ⟨Nat.le_of_ble_eq_true rfl, Nat.le_of_ble_eq_true rfl⟩) (q_preS hK hP [] rfl [] rfl) rfl rfl hl.1 rfl (lv_room (Nat.le_of_ble_eq_true rfl)) dX10_feed_24 ⟨Nat.le_of_ble_eq_true rfl, Nat.le_of_ble_eq_true rfl⟩) hP hS (fun H locs hP hS => ?_)
        refine lv_if_eq (tgt := 34) hx hb dX10_feed_27 (by decide) (fun c_10 => ?_) (fun c_10 => ?_)
        · have hG := q_ifp c_10 hG
          refine lv_iconst (v := 0) hx hb dX10_feed_34 (by decide) ?_
          refine lv_iadd hx hb dX10_feed_35 ?_
          refine lv_istore (lv' := [(6, .int (x6_6 + 0)), (7, .int x7_6), (0, .ref (bm 0)), (1, .int a1), (2, .int a2), (3, .int a3), (4, .int a4), (5, .int a5)]) hx hb dX10_feed_36 hl (by decide) rfl (fun ls hl => ?_)
          refine lv_iinc (v := (x7_6 + 1)) (lv' := [(7, .int (x7_6 + 1)), (6, .int (x6_6 + 0)), (0, .ref (bm 0)), (1, .int a1), (2, .int a2), (3, .int a3), (4, .int a4), (5, .int a5)]) hx hb dX10_feed_38 hl (k := 1) rfl (rfl) (by decide) rfl (fun ls hl => ?_)
          refine lv_goto (tgt := 6) hx hb dX10_feed_41 (by decide) ?_
          exact ih_6 (x6_6 + 0) (x7_6 + 1) tn_c tp_c H locs ls hG hP hD hS (lv_sub hl [0, 1, 2, 3, 4, 5, 6, 7] rfl)
        · have hG := q_ifn c_10 hG
          refine lv_iconst (v := 1) hx hb dX10_feed_30 (by decide) ?_
          refine lv_goto (tgt := 35) hx hb dX10_feed_31 (by decide) ?_
          refine lv_iadd hx hb dX10_feed_35 ?_
          refine lv_istore (lv' := [(6, .int (x6_6 + 1)), (7, .int x7_6), (0, .ref (bm 0)), (1, .int a1), (2, .int a2), (3, .int a3), (4, .int a4), (5, .int a5)]) hx hb dX10_feed_36 hl (by decide) rfl (fun ls hl => ?_)
          refine lv_iinc (v := (x7_6 + 1)) (lv' := [(7, .int (x7_6 + 1)), (6, .int (x6_6 + 1)), (0, .ref (bm 0)), (1, .int a1), (2, .int a2), (3, .int a3), (4, .int a4), (5, .int a5)]) hx hb dX10_feed_38 hl (k := 1) rfl (rfl) (by decide) rfl (fun ls hl => ?_)
          refine lv_goto (tgt := 6) hx hb dX10_feed_41 (by decide) ?_
          exact ih_6 (x6_6 + 1) (x7_6 + 1) tn_c tp_c H locs ls hG hP hD hS (lv_sub hl [0, 1, 2, 3, 4, 5, 6, 7] rfl)
  exact L_6 1000 0 0 tn tp s.heap [] ls hG hP hD hS hl

def F_X10_end (tn : Int32) (z1 : Int32) : Option (Int32 × Int32) := ((F_X10_in z1 0 tn).bind fun o_1 => (if o_1 = 0 then some (0, tn) else some (1, z1)))
set_option maxHeartbeats 4000000 in
set_option maxRecDepth 100000 in
theorem c_X10_end (l : Launch) (dC : Nat → ClassId) (dI : Nat → Nat → Nat) (bm : Nat → Nat) (km : Nat → ClassId) (th : Int32) (tn : Int32) (at_ : Int32) (wr : Int32) (rm_ : Int32) (mn : Int32) (sn : Int32) (ac : Int32) (hi : Int32) (dn : Int64) (z1 : Int32) (A : Nat → Prop) (o : Int32 × Int32) (hG : F_X10_end tn z1 = some o) : Met l yX10_end (.code yX10_end cX10_end 2 (some .boolean) :: wA) ({ frames := 1, cells := 0, slots := 0, locals := 22 }) (va_Pc [.ref (bm 0), .int z1] (q_W (dC, dI) A [((bm 0), .inr (10, [.int th, .ref (bm 1), .int tn, .int at_, .int wr, .ref (bm 2), .ref (bm 3), .int rm_, .ref (bm 4), .ref (bm 5), .int mn, .ref (bm 6), .ref (bm 7), .int sn, .ref (bm 8), .ref (bm 9), .ref (bm 10), .int ac, .long dn, .ref (bm 11), .ref (bm 12), .ref (bm 13), .ref (bm 14), .int hi]))] [])) (va_Qi (fun (r : Int32) (_ : Unit) => r = o.1 ∧ True) (fun (_ : Unit) t => q_B (dC, dI) A [((bm 0), .inr (10, [.int th, .ref (bm 1), .int (o.2), .int at_, .int wr, .ref (bm 2), .ref (bm 3), .int rm_, .ref (bm 4), .ref (bm 5), .int mn, .ref (bm 6), .ref (bm 7), .int sn, .ref (bm 8), .ref (bm 9), .ref (bm 10), .int ac, .long dn, .ref (bm 11), .ref (bm 12), .ref (bm 13), .ref (bm 14), .int hi]))] [] t) A) 0 0 A := by
  refine Met.ofW (cc := cX10_end) (maxL := 2) (ret := (some .boolean)) (by decide) rfl ?_
  intro p e s m args below meth c s₁ B hml hv
  obtain ⟨rfl, hP, hK, hD, hA⟩ := hv
  have hx := B.exec
  have hb := B.bytes
  have hr := B.returns
  have hts := atoms_spec (ws := .code yX10_end cX10_end 2 (some .boolean) :: wA) B.pre
  have hown : s.vm.findClass RX10 = some m.cls := findClass_of_methodNamed B.named
  have hlocks := B.notSynchronized
  have hS : va_S A s.heap s.heap [] := va_S.rf
  have hl := lv_entry ([.ref (bm 0), .int z1]) (n := 2) (Nat.le_of_ble_eq_true rfl)
  rw [lg_entry_eq]
  generalize (lg_sl ([.ref (bm 0), .int z1]) ++ List.replicate (2 - (lg_sl ([.ref (bm 0), .int z1])).length) Slot.unset).toArray = ls at hl ⊢
  have hl : lv_has ls 2 [(0, .ref (bm 0)), (1, .int z1)] := hl
  unfold F_X10_end at hG
  refine lv_iload_n hx hb dX10_end_0 rfl (lv_at hl 1 rfl) ?_
  refine lv_iconst (v := 0) hx hb dX10_end_1 (by decide) ?_
  refine lv_aload_n hx hb dX10_end_2 rfl (lv_at hl 0 rfl) ?_
  refine va_get (D := (dC, dI)) (ci := 10) (v := .int tn) (C := RX10) (T := TX10) (N := 24) hx hb hts iA_10 hown hK hP 0 rfl rfl 2 (by decide) (hts (.fieldLink RX10 60 "HubTreeModel" "taped" "I") (List.mem_cons_of_mem _ m_145)) (fun _ h9 => h9) rfl dX10_end_3 ?_
  obtain ⟨o_1, r_2, hG⟩ := q_bi hG
  refine q_goi (v := o_1) (va_runS (As := [.int z1, .int 0, .int tn]) (rest := []) ⟨hx, hb, hml, hown, hts⟩ (c_X10_in l dC dI z1 0 tn o_1 r_2) (va_cwS 3 hts (q_gS m_157 m_158 m_5 m_159) rfl rfl rfl hdS_yX10_in_3 ⟨Nat.le_of_ble_eq_true rfl, Nat.le_of_ble_eq_true rfl⟩) (q_preS hK hP [] rfl [] rfl) rfl rfl hl.1 rfl (lv_room (Nat.le_of_ble_eq_true rfl)) dX10_end_6 ⟨Nat.le_of_ble_eq_true rfl, Nat.le_of_ble_eq_true rfl⟩) hP hS (fun H locs hP hS => ?_)
  refine lv_if_ne (tgt := 14) hx hb dX10_end_9 (by decide) (fun c_3 => ?_) (fun c_3 => ?_)
  · have hG := q_ifn c_3 hG
    refine lv_aload_n hx hb dX10_end_14 rfl (lv_at hl 0 rfl) ?_
    refine lv_iload_n hx hb dX10_end_15 rfl (lv_at hl 1 rfl) ?_
    refine va_put (D := (dC, dI)) (ci := 10) (v := .int z1) (ty := .int) (C := RX10) (T := TX10) (N := 24) hx hb hts iA_10 tyX10 tyX10_ok nmX10 hown hK hP hD hS 0 rfl rfl 2 (by decide) (hts (.fieldLink RX10 60 "HubTreeModel" "taped" "I") (List.mem_cons_of_mem _ m_145)) (fun _ h9 => h9) rfl (by decide +kernel) rfl rfl (Nat.le_of_ble_eq_true rfl) dX10_end_16 (fun H locs hP hD hS => ?_)
    have hP : va_P (dC, dI) vwCl [((bm 0), .inr (10, [.int th, .ref (bm 1), .int z1, .int at_, .int wr, .ref (bm 2), .ref (bm 3), .int rm_, .ref (bm 4), .ref (bm 5), .int mn, .ref (bm 6), .ref (bm 7), .int sn, .ref (bm 8), .ref (bm 9), .ref (bm 10), .int ac, .long dn, .ref (bm 11), .ref (bm 12), .ref (bm 13), .ref (bm 14), .int hi]))] H := hP
    have hD : va_D A [((bm 0), .inr (10, [.int th, .ref (bm 1), .int z1, .int at_, .int wr, .ref (bm 2), .ref (bm 3), .int rm_, .ref (bm 4), .ref (bm 5), .int mn, .ref (bm 6), .ref (bm 7), .int sn, .ref (bm 8), .ref (bm 9), .ref (bm 10), .int ac, .long dn, .ref (bm 11), .ref (bm 12), .ref (bm 13), .ref (bm 14), .int hi]))] := hD
    refine lv_iconst (v := 1) hx hb dX10_end_19 (by decide) ?_
    obtain rfl := Option.some.inj hG
    have hP9 := hP.sub (ws' := [((bm 0), .inr (10, [.int th, .ref (bm 1), .int z1, .int at_, .int wr, .ref (bm 2), .ref (bm 3), .int rm_, .ref (bm 4), .ref (bm 5), .int mn, .ref (bm 6), .ref (bm 7), .int sn, .ref (bm 8), .ref (bm 9), .ref (bm 10), .int ac, .long dn, .ref (bm 11), .ref (bm 12), .ref (bm 13), .ref (bm 14), .int hi]))]) [0] rfl
    have hD9 := hD.sub (ws' := [((bm 0), .inr (10, [.int th, .ref (bm 1), .int z1, .int at_, .int wr, .ref (bm 2), .ref (bm 3), .int rm_, .ref (bm 4), .ref (bm 5), .int mn, .ref (bm 6), .ref (bm 7), .int sn, .ref (bm 8), .ref (bm 9), .ref (bm 10), .int ac, .long dn, .ref (bm 11), .ref (bm 12), .ref (bm 13), .ref (bm 14), .int hi]))]) [0] (by decide) rfl
    have hK9 := hK.sub (tys' := []) [] rfl
    exact W.zret (v := 1) hx hb hr rfl (fun t ht hW => ⟨⟨1, (), rfl, ⟨rfl, trivial⟩, by rw [ht]; exact hP9, va_K.moved hW.alike hK9, hD9⟩, hS.F ht⟩) hS.2.2 dX10_end_20
  · have hG := q_ifp c_3 hG
    refine lv_iconst (v := 0) hx hb dX10_end_12 (by decide) ?_
    obtain rfl := Option.some.inj hG
    have hP9 := hP.sub (ws' := [((bm 0), .inr (10, [.int th, .ref (bm 1), .int tn, .int at_, .int wr, .ref (bm 2), .ref (bm 3), .int rm_, .ref (bm 4), .ref (bm 5), .int mn, .ref (bm 6), .ref (bm 7), .int sn, .ref (bm 8), .ref (bm 9), .ref (bm 10), .int ac, .long dn, .ref (bm 11), .ref (bm 12), .ref (bm 13), .ref (bm 14), .int hi]))]) [0] rfl
    have hD9 := hD.sub (ws' := [((bm 0), .inr (10, [.int th, .ref (bm 1), .int tn, .int at_, .int wr, .ref (bm 2), .ref (bm 3), .int rm_, .ref (bm 4), .ref (bm 5), .int mn, .ref (bm 6), .ref (bm 7), .int sn, .ref (bm 8), .ref (bm 9), .ref (bm 10), .int ac, .long dn, .ref (bm 11), .ref (bm 12), .ref (bm 13), .ref (bm 14), .int hi]))]) [0] (by decide) rfl
    have hK9 := hK.sub (tys' := []) [] rfl
    exact W.zret (v := 0) hx hb hr rfl (fun t ht hW => ⟨⟨0, (), rfl, ⟨rfl, trivial⟩, by rw [ht]; exact hP9, va_K.moved hW.alike hK9, hD9⟩, hS.F ht⟩) hS.2.2 dX10_end_13

def F_X10_here (tn : Int32) (at_ : Int32) (tp : Nat → Int32) : Option (Int32) := (if tn ≤ at_ then some ((-1)) else (if at_ < 0 ∨ 240 ≤ (at_).toNatClampNeg then none else some ((tp (at_).toNatClampNeg))))
set_option maxHeartbeats 4000000 in
set_option maxRecDepth 100000 in
theorem c_X10_here (l : Launch) (dC : Nat → ClassId) (dI : Nat → Nat → Nat) (bm : Nat → Nat) (km : Nat → ClassId) (th : Int32) (tn : Int32) (at_ : Int32) (wr : Int32) (rm_ : Int32) (mn : Int32) (sn : Int32) (ac : Int32) (hi : Int32) (dn : Int64) (tp : Nat → Int32) (o : Int32) (hG : F_X10_here tn at_ tp = some o) : Met l yX10_here (.code yX10_here cX10_here 1 (some .int) :: wA) ({ frames := 0, cells := 0, slots := 0, locals := 0 }) (va_Pc [.ref (bm 0)] (q_R (dC, dI) [((bm 0), .inr (10, [.int th, .ref (bm 1), .int tn, .int at_, .int wr, .ref (bm 2), .ref (bm 3), .int rm_, .ref (bm 4), .ref (bm 5), .int mn, .ref (bm 6), .ref (bm 7), .int sn, .ref (bm 8), .ref (bm 9), .ref (bm 10), .int ac, .long dn, .ref (bm 11), .ref (bm 12), .ref (bm 13), .ref (bm 14), .int hi])), ((bm 1), .inl ((km 1), 240, .inl tp))] [((km 1), .int)])) (q_i o) 0 0 (fun _ => False) := by
  refine Met.ofW (cc := cX10_here) (maxL := 1) (ret := (some .int)) (by decide) rfl ?_
  intro p e s m args below meth c s₁ B hml hv
  obtain ⟨rfl, hP, hK⟩ := hv
  have hx := B.exec
  have hb := B.bytes
  have hr := B.returns
  have hts := atoms_spec (ws := .code yX10_here cX10_here 1 (some .int) :: wA) B.pre
  have hown : s.vm.findClass RX10 = some m.cls := findClass_of_methodNamed B.named
  have hlocks := B.notSynchronized
  have hS : va_S (fun _ => False) s.heap s.heap [] := va_S.rf
  have hl := lv_entry ([.ref (bm 0)]) (n := 1) (Nat.le_of_ble_eq_true rfl)
  rw [lg_entry_eq]
  generalize (lg_sl ([.ref (bm 0)]) ++ List.replicate (1 - (lg_sl ([.ref (bm 0)])).length) Slot.unset).toArray = ls at hl ⊢
  have hl : lv_has ls 1 [(0, .ref (bm 0))] := hl
  unfold F_X10_here at hG
  refine lv_aload_n hx hb dX10_here_0 rfl (lv_at hl 0 rfl) ?_
  refine va_get (D := (dC, dI)) (ci := 10) (v := .int at_) (C := RX10) (T := TX10) (N := 24) hx hb hts iA_10 hown hK hP 0 rfl rfl 3 (by decide) (hts (.fieldLink RX10 67 "HubTreeModel" "at" "I") (List.mem_cons_of_mem _ m_325)) (fun _ h9 => h9) rfl dX10_here_1 ?_
  refine lv_aload_n hx hb dX10_here_4 rfl (lv_at hl 0 rfl) ?_
  refine va_get (D := (dC, dI)) (ci := 10) (v := .int tn) (C := RX10) (T := TX10) (N := 24) hx hb hts iA_10 hown hK hP 0 rfl rfl 2 (by decide) (hts (.fieldLink RX10 60 "HubTreeModel" "taped" "I") (List.mem_cons_of_mem _ m_145)) (fun _ h9 => h9) rfl dX10_here_5 ?_
  refine lv_icmp_ge (tgt := 23) hx hb dX10_here_8 (by decide) (fun c_1 => ?_) (fun c_1 => ?_)
  · have hG := q_ifp c_1 hG
    refine lv_iconst (v := (-1)) hx hb dX10_here_23 (by decide) ?_
    obtain rfl := Option.some.inj hG
    exact W.iret (v := (-1)) hx hb hr (fun t ht hW => ⟨⟨(-1), (), rfl, rfl, trivial⟩, hS.F ht⟩) hS.2.2 dX10_here_24
  · have hG := q_ifn c_1 hG
    refine lv_aload_n hx hb dX10_here_11 rfl (lv_at hl 0 rfl) ?_
    refine va_get (D := (dC, dI)) (ci := 10) (v := .ref (bm 1)) (C := RX10) (T := TX10) (N := 24) hx hb hts iA_10 hown hK hP 0 rfl rfl 1 (by decide) (hts (.fieldLink RX10 9 "HubTreeModel" "tape" "[I") (List.mem_cons_of_mem _ m_115)) (fun _ h9 => h9) rfl dX10_here_12 ?_
    refine lv_aload_n hx hb dX10_here_15 rfl (lv_at hl 0 rfl) ?_
    refine va_get (D := (dC, dI)) (ci := 10) (v := .int at_) (C := RX10) (T := TX10) (N := 24) hx hb hts iA_10 hown hK hP 0 rfl rfl 3 (by decide) (hts (.fieldLink RX10 67 "HubTreeModel" "at" "I") (List.mem_cons_of_mem _ m_325)) (fun _ h9 => h9) rfl dX10_here_16 ?_
    obtain ⟨h_2, hG⟩ := q_ix hG
    refine va_iald hx hb hK hP 1 0 rfl rfl (i := at_) h_2 dX10_here_19 ?_
    refine q_top (y := (tp (at_).toNatClampNeg)) rfl ?_
    refine lv_goto (tgt := 24) hx hb dX10_here_20 (by decide) ?_
    obtain rfl := Option.some.inj hG
    exact W.iret (v := (tp (at_).toNatClampNeg)) hx hb hr (fun t ht hW => ⟨⟨(tp (at_).toNatClampNeg), (), rfl, rfl, trivial⟩, hS.F ht⟩) hS.2.2 dX10_here_24

def FL_X10_ahead_0 (tn : Int32) (at_ : Int32) (tp : Nat → Int32) : Nat → (Int32) → Option (Int32 × Int32)
  | 0, _ => none
  | n + 1, at__c => ((F_X10_here tn at__c tp).bind fun o_1 => (if o_1 = 32 then (FL_X10_ahead_0 tn at_ tp n (at__c + 1)) else ((F_X10_here tn at__c tp).bind fun o_4 => some (o_4, at__c))))

def F_X10_ahead (tn : Int32) (at_ : Int32) (tp : Nat → Int32) : Option (Int32 × Int32) := (FL_X10_ahead_0 tn at_ tp 1000 at_)
set_option maxHeartbeats 4000000 in
set_option maxRecDepth 100000 in
theorem c_X10_ahead (l : Launch) (dC : Nat → ClassId) (dI : Nat → Nat → Nat) (bm : Nat → Nat) (km : Nat → ClassId) (th : Int32) (tn : Int32) (at_ : Int32) (wr : Int32) (rm_ : Int32) (mn : Int32) (sn : Int32) (ac : Int32) (hi : Int32) (dn : Int64) (tp : Nat → Int32) (A : Nat → Prop) (o : Int32 × Int32) (hG : F_X10_ahead tn at_ tp = some o) : Met l yX10_ahead (.code yX10_ahead cX10_ahead 1 (some .int) :: wA) ({ frames := 1, cells := 0, slots := 0, locals := 20 }) (va_Pc [.ref (bm 0)] (q_W (dC, dI) A [((bm 0), .inr (10, [.int th, .ref (bm 1), .int tn, .int at_, .int wr, .ref (bm 2), .ref (bm 3), .int rm_, .ref (bm 4), .ref (bm 5), .int mn, .ref (bm 6), .ref (bm 7), .int sn, .ref (bm 8), .ref (bm 9), .ref (bm 10), .int ac, .long dn, .ref (bm 11), .ref (bm 12), .ref (bm 13), .ref (bm 14), .int hi])), ((bm 1), .inl ((km 1), 240, .inl tp))] [((km 1), .int)])) (va_Qi (fun (r : Int32) (_ : Unit) => r = o.1 ∧ True) (fun (_ : Unit) t => q_B (dC, dI) A [((bm 0), .inr (10, [.int th, .ref (bm 1), .int tn, .int (o.2), .int wr, .ref (bm 2), .ref (bm 3), .int rm_, .ref (bm 4), .ref (bm 5), .int mn, .ref (bm 6), .ref (bm 7), .int sn, .ref (bm 8), .ref (bm 9), .ref (bm 10), .int ac, .long dn, .ref (bm 11), .ref (bm 12), .ref (bm 13), .ref (bm 14), .int hi])), ((bm 1), .inl ((km 1), 240, .inl tp))] [((km 1), .int)] t) A) 0 0 A := by
  refine Met.ofW (cc := cX10_ahead) (maxL := 1) (ret := (some .int)) (by decide) rfl ?_
  intro p e s m args below meth c s₁ B hml hv
  obtain ⟨rfl, hP, hK, hD, hA⟩ := hv
  have hx := B.exec
  have hb := B.bytes
  have hr := B.returns
  have hts := atoms_spec (ws := .code yX10_ahead cX10_ahead 1 (some .int) :: wA) B.pre
  have hown : s.vm.findClass RX10 = some m.cls := findClass_of_methodNamed B.named
  have hlocks := B.notSynchronized
  have hS : va_S A s.heap s.heap [] := va_S.rf
  have hl := lv_entry ([.ref (bm 0)]) (n := 1) (Nat.le_of_ble_eq_true rfl)
  rw [lg_entry_eq]
  generalize (lg_sl ([.ref (bm 0)]) ++ List.replicate (1 - (lg_sl ([.ref (bm 0)])).length) Slot.unset).toArray = ls at hl ⊢
  have hl : lv_has ls 1 [(0, .ref (bm 0))] := hl
  unfold F_X10_ahead at hG
  have L_0 : ∀ (n_0 : Nat) (at__c : Int32) (H : Heap) (locs : List Loc) (ls : Array Slot), FL_X10_ahead_0 tn at_ tp n_0 at__c = some o → va_P (dC, dI) vwCl [((bm 0), .inr (10, [.int th, .ref (bm 1), .int tn, .int at__c, .int wr, .ref (bm 2), .ref (bm 3), .int rm_, .ref (bm 4), .ref (bm 5), .int mn, .ref (bm 6), .ref (bm 7), .int sn, .ref (bm 8), .ref (bm 9), .ref (bm 10), .int ac, .long dn, .ref (bm 11), .ref (bm 12), .ref (bm 13), .ref (bm 14), .int hi])), ((bm 1), .inl ((km 1), 240, .inl tp))] H → va_D A [((bm 0), .inr (10, [.int th, .ref (bm 1), .int tn, .int at__c, .int wr, .ref (bm 2), .ref (bm 3), .int rm_, .ref (bm 4), .ref (bm 5), .int mn, .ref (bm 6), .ref (bm 7), .int sn, .ref (bm 8), .ref (bm 9), .ref (bm 10), .int ac, .long dn, .ref (bm 11), .ref (bm 12), .ref (bm 13), .ref (bm 14), .int hi])), ((bm 1), .inl ((km 1), 240, .inl tp))] → va_S A s.heap H locs → lv_has ls 1 [(0, .ref (bm 0))] → W p l e (headSpec (.code yX10_ahead cX10_ahead 1 (some .int) :: wA) ({ frames := 1, cells := 0, slots := 0, locals := 20 })).room s m #[.ref (bm 0)] below meth c H locs 0 0 (MQ below (va_Qi (fun (r : Int32) (_ : Unit) => r = o.1 ∧ True) (fun (_ : Unit) t => q_B (dC, dI) A [((bm 0), .inr (10, [.int th, .ref (bm 1), .int tn, .int (o.2), .int wr, .ref (bm 2), .ref (bm 3), .int rm_, .ref (bm 4), .ref (bm 5), .int mn, .ref (bm 6), .ref (bm 7), .int sn, .ref (bm 8), .ref (bm 9), .ref (bm 10), .int ac, .long dn, .ref (bm 11), .ref (bm 12), .ref (bm 13), .ref (bm 14), .int hi])), ((bm 1), .inl ((km 1), 240, .inl tp))] [((km 1), .int)] t) A) #[.ref (bm 0)] s 0 0 A) (F0 m 0 ls []) := by
    intro n_0
    induction n_0 with
    | zero =>
      intro at__c H locs ls hG
      exact q_no hG
    | succ n_0 ih_0 =>
      intro at__c H locs ls hG hP hD hS hl
      unfold FL_X10_ahead_0 at hG
      refine lv_aload_n hx hb dX10_ahead_0 rfl (lv_at hl 0 rfl) ?_
      obtain ⟨o_1, r_2, hG⟩ := q_bi hG
      refine q_goi (v := o_1) (va_runV (As := []) (rest := []) ⟨hx, hb, hml, hown, hts⟩ (c_X10_here l dC dI bm km th tn at__c wr rm_ mn sn ac hi dn tp o_1 r_2) (cwV 0 hts (q_gV m_335 m_336 m_337 m_5 m_338) rfl rfl rfl hdV_yX10_here_0 ⟨Nat.le_of_ble_eq_true rfl, Nat.le_of_ble_eq_true rfl⟩) (q_preV hK hP (q := (RX10, TX10, 24)) (ci := 10) (q0 := 0) rfl rfl [0, 1] rfl [0] rfl) rfl rfl hl.1 rfl (lv_room (Nat.le_of_ble_eq_true rfl)) dX10_ahead_1 ⟨Nat.le_of_ble_eq_true rfl, Nat.le_of_ble_eq_true rfl⟩) hP hS (fun H locs hP hS => ?_)
      refine lv_bipush (v := 32) hx hb dX10_ahead_4 (by decide) ?_
      refine lv_icmp_ne (tgt := 22) hx hb dX10_ahead_6 (by decide) (fun c_3 => ?_) (fun c_3 => ?_)
      · have hG := q_ifn c_3 hG
        refine lv_aload_n hx hb dX10_ahead_22 rfl (lv_at hl 0 rfl) ?_
        obtain ⟨o_4, r_5, hG⟩ := q_bi hG
        refine q_goi (v := o_4) (va_runV (As := []) (rest := []) ⟨hx, hb, hml, hown, hts⟩ (c_X10_here l dC dI bm km th tn at__c wr rm_ mn sn ac hi dn tp o_4 r_5) (cwV 0 hts (q_gV m_335 m_336 m_337 m_5 m_338) rfl rfl rfl hdV_yX10_here_0 ⟨Nat.le_of_ble_eq_true rfl, Nat.le_of_ble_eq_true rfl⟩) (q_preV hK hP (q := (RX10, TX10, 24)) (ci := 10) (q0 := 0) rfl rfl [0, 1] rfl [0] rfl) rfl rfl hl.1 rfl (lv_room (Nat.le_of_ble_eq_true rfl)) dX10_ahead_23 ⟨Nat.le_of_ble_eq_true rfl, Nat.le_of_ble_eq_true rfl⟩) hP hS (fun H locs hP hS => ?_)
        obtain rfl := Option.some.inj hG
        have hP9 := hP.sub (ws' := [((bm 0), .inr (10, [.int th, .ref (bm 1), .int tn, .int at__c, .int wr, .ref (bm 2), .ref (bm 3), .int rm_, .ref (bm 4), .ref (bm 5), .int mn, .ref (bm 6), .ref (bm 7), .int sn, .ref (bm 8), .ref (bm 9), .ref (bm 10), .int ac, .long dn, .ref (bm 11), .ref (bm 12), .ref (bm 13), .ref (bm 14), .int hi])), ((bm 1), .inl ((km 1), 240, .inl tp))]) [0, 1] rfl
        have hD9 := hD.sub (ws' := [((bm 0), .inr (10, [.int th, .ref (bm 1), .int tn, .int at__c, .int wr, .ref (bm 2), .ref (bm 3), .int rm_, .ref (bm 4), .ref (bm 5), .int mn, .ref (bm 6), .ref (bm 7), .int sn, .ref (bm 8), .ref (bm 9), .ref (bm 10), .int ac, .long dn, .ref (bm 11), .ref (bm 12), .ref (bm 13), .ref (bm 14), .int hi])), ((bm 1), .inl ((km 1), 240, .inl tp))]) [0, 1] (by decide) rfl
        have hK9 := hK.sub (tys' := [((km 1), .int)]) [0] rfl
        exact W.iret (v := o_4) hx hb hr (fun t ht hW => ⟨⟨o_4, (), rfl, ⟨rfl, trivial⟩, by rw [ht]; exact hP9, va_K.moved hW.alike hK9, hD9⟩, hS.F ht⟩) hS.2.2 dX10_ahead_26
      · have hG := q_ifp c_3 hG
        refine lv_aload_n hx hb dX10_ahead_9 rfl (lv_at hl 0 rfl) ?_
        refine lv_dup hx hb dX10_ahead_10 rfl ?_
        refine va_get (D := (dC, dI)) (ci := 10) (v := .int at__c) (C := RX10) (T := TX10) (N := 24) hx hb hts iA_10 hown hK hP 0 rfl rfl 3 (by decide) (hts (.fieldLink RX10 67 "HubTreeModel" "at" "I") (List.mem_cons_of_mem _ m_325)) (fun _ h9 => h9) rfl dX10_ahead_11 ?_
        refine lv_iconst (v := 1) hx hb dX10_ahead_14 (by decide) ?_
        refine lv_iadd hx hb dX10_ahead_15 ?_
        refine va_put (D := (dC, dI)) (ci := 10) (v := .int (at__c + 1)) (ty := .int) (C := RX10) (T := TX10) (N := 24) hx hb hts iA_10 tyX10 tyX10_ok nmX10 hown hK hP hD hS 0 rfl rfl 3 (by decide) (hts (.fieldLink RX10 67 "HubTreeModel" "at" "I") (List.mem_cons_of_mem _ m_325)) (fun _ h9 => h9) rfl (by decide +kernel) rfl rfl (Nat.le_of_ble_eq_true rfl) dX10_ahead_16 (fun H locs hP hD hS => ?_)
        have hP : va_P (dC, dI) vwCl [((bm 0), .inr (10, [.int th, .ref (bm 1), .int tn, .int (at__c + 1), .int wr, .ref (bm 2), .ref (bm 3), .int rm_, .ref (bm 4), .ref (bm 5), .int mn, .ref (bm 6), .ref (bm 7), .int sn, .ref (bm 8), .ref (bm 9), .ref (bm 10), .int ac, .long dn, .ref (bm 11), .ref (bm 12), .ref (bm 13), .ref (bm 14), .int hi])), ((bm 1), .inl ((km 1), 240, .inl tp))] H := hP
        have hD : va_D A [((bm 0), .inr (10, [.int th, .ref (bm 1), .int tn, .int (at__c + 1), .int wr, .ref (bm 2), .ref (bm 3), .int rm_, .ref (bm 4), .ref (bm 5), .int mn, .ref (bm 6), .ref (bm 7), .int sn, .ref (bm 8), .ref (bm 9), .ref (bm 10), .int ac, .long dn, .ref (bm 11), .ref (bm 12), .ref (bm 13), .ref (bm 14), .int hi])), ((bm 1), .inl ((km 1), 240, .inl tp))] := hD
        refine lv_goto (tgt := 0) hx hb dX10_ahead_19 (by decide) ?_
        exact ih_0 (at__c + 1) H locs ls hG hP hD hS (lv_sub hl [0] rfl)
  exact L_0 1000 at_ s.heap [] ls hG hP hD hS hl

def F_X10_bad (at_ : Int32) (wr : Int32) : Option (Int32) := (if wr = (-1) then some (at_) else some (wr))
set_option maxHeartbeats 4000000 in
set_option maxRecDepth 100000 in
theorem c_X10_bad (l : Launch) (dC : Nat → ClassId) (dI : Nat → Nat → Nat) (bm : Nat → Nat) (km : Nat → ClassId) (th : Int32) (tn : Int32) (at_ : Int32) (wr : Int32) (rm_ : Int32) (mn : Int32) (sn : Int32) (ac : Int32) (hi : Int32) (dn : Int64) (A : Nat → Prop) (o : Int32) (hG : F_X10_bad at_ wr = some o) : Met l yX10_bad (.code yX10_bad cX10_bad 1 none :: wA) ({ frames := 0, cells := 0, slots := 0, locals := 0 }) (va_Pc [.ref (bm 0)] (q_W (dC, dI) A [((bm 0), .inr (10, [.int th, .ref (bm 1), .int tn, .int at_, .int wr, .ref (bm 2), .ref (bm 3), .int rm_, .ref (bm 4), .ref (bm 5), .int mn, .ref (bm 6), .ref (bm 7), .int sn, .ref (bm 8), .ref (bm 9), .ref (bm 10), .int ac, .long dn, .ref (bm 11), .ref (bm 12), .ref (bm 13), .ref (bm 14), .int hi]))] [])) (va_Qv (fun _ : Unit => True) (fun (_ : Unit) t => q_B (dC, dI) A [((bm 0), .inr (10, [.int th, .ref (bm 1), .int tn, .int at_, .int (o), .ref (bm 2), .ref (bm 3), .int rm_, .ref (bm 4), .ref (bm 5), .int mn, .ref (bm 6), .ref (bm 7), .int sn, .ref (bm 8), .ref (bm 9), .ref (bm 10), .int ac, .long dn, .ref (bm 11), .ref (bm 12), .ref (bm 13), .ref (bm 14), .int hi]))] [] t) A) 0 0 A := by
  refine Met.ofW (cc := cX10_bad) (maxL := 1) (ret := none) (by decide) rfl ?_
  intro p e s m args below meth c s₁ B hml hv
  obtain ⟨rfl, hP, hK, hD, hA⟩ := hv
  have hx := B.exec
  have hb := B.bytes
  have hr := B.returns
  have hts := atoms_spec (ws := .code yX10_bad cX10_bad 1 none :: wA) B.pre
  have hown : s.vm.findClass RX10 = some m.cls := findClass_of_methodNamed B.named
  have hlocks := B.notSynchronized
  have hS : va_S A s.heap s.heap [] := va_S.rf
  have hl := lv_entry ([.ref (bm 0)]) (n := 1) (Nat.le_of_ble_eq_true rfl)
  rw [lg_entry_eq]
  generalize (lg_sl ([.ref (bm 0)]) ++ List.replicate (1 - (lg_sl ([.ref (bm 0)])).length) Slot.unset).toArray = ls at hl ⊢
  have hl : lv_has ls 1 [(0, .ref (bm 0))] := hl
  unfold F_X10_bad at hG
  refine lv_aload_n hx hb dX10_bad_0 rfl (lv_at hl 0 rfl) ?_
  refine lv_aload_n hx hb dX10_bad_1 rfl (lv_at hl 0 rfl) ?_
  refine va_get (D := (dC, dI)) (ci := 10) (v := .int wr) (C := RX10) (T := TX10) (N := 24) hx hb hts iA_10 hown hK hP 0 rfl rfl 4 (by decide) (hts (.fieldLink RX10 74 "HubTreeModel" "wrong" "I") (List.mem_cons_of_mem _ m_326)) (fun _ h9 => h9) rfl dX10_bad_2 ?_
  refine lv_iconst (v := (-1)) hx hb dX10_bad_5 (by decide) ?_
  refine lv_icmp_ne (tgt := 16) hx hb dX10_bad_6 (by decide) (fun c_1 => ?_) (fun c_1 => ?_)
  · have hG := q_ifn c_1 hG
    refine lv_aload_n hx hb dX10_bad_16 rfl (lv_at hl 0 rfl) ?_
    refine va_get (D := (dC, dI)) (ci := 10) (v := .int wr) (C := RX10) (T := TX10) (N := 24) hx hb hts iA_10 hown hK hP 0 rfl rfl 4 (by decide) (hts (.fieldLink RX10 74 "HubTreeModel" "wrong" "I") (List.mem_cons_of_mem _ m_326)) (fun _ h9 => h9) rfl dX10_bad_17 ?_
    refine va_put (D := (dC, dI)) (ci := 10) (v := .int wr) (ty := .int) (C := RX10) (T := TX10) (N := 24) hx hb hts iA_10 tyX10 tyX10_ok nmX10 hown hK hP hD hS 0 rfl rfl 4 (by decide) (hts (.fieldLink RX10 74 "HubTreeModel" "wrong" "I") (List.mem_cons_of_mem _ m_326)) (fun _ h9 => h9) rfl (by decide +kernel) rfl rfl (Nat.le_of_ble_eq_true rfl) dX10_bad_20 (fun H locs hP hD hS => ?_)
    have hP : va_P (dC, dI) vwCl [((bm 0), .inr (10, [.int th, .ref (bm 1), .int tn, .int at_, .int wr, .ref (bm 2), .ref (bm 3), .int rm_, .ref (bm 4), .ref (bm 5), .int mn, .ref (bm 6), .ref (bm 7), .int sn, .ref (bm 8), .ref (bm 9), .ref (bm 10), .int ac, .long dn, .ref (bm 11), .ref (bm 12), .ref (bm 13), .ref (bm 14), .int hi]))] H := hP
    have hD : va_D A [((bm 0), .inr (10, [.int th, .ref (bm 1), .int tn, .int at_, .int wr, .ref (bm 2), .ref (bm 3), .int rm_, .ref (bm 4), .ref (bm 5), .int mn, .ref (bm 6), .ref (bm 7), .int sn, .ref (bm 8), .ref (bm 9), .ref (bm 10), .int ac, .long dn, .ref (bm 11), .ref (bm 12), .ref (bm 13), .ref (bm 14), .int hi]))] := hD
    obtain rfl := Option.some.inj hG
    have hP9 := hP.sub (ws' := [((bm 0), .inr (10, [.int th, .ref (bm 1), .int tn, .int at_, .int wr, .ref (bm 2), .ref (bm 3), .int rm_, .ref (bm 4), .ref (bm 5), .int mn, .ref (bm 6), .ref (bm 7), .int sn, .ref (bm 8), .ref (bm 9), .ref (bm 10), .int ac, .long dn, .ref (bm 11), .ref (bm 12), .ref (bm 13), .ref (bm 14), .int hi]))]) [0] rfl
    have hD9 := hD.sub (ws' := [((bm 0), .inr (10, [.int th, .ref (bm 1), .int tn, .int at_, .int wr, .ref (bm 2), .ref (bm 3), .int rm_, .ref (bm 4), .ref (bm 5), .int mn, .ref (bm 6), .ref (bm 7), .int sn, .ref (bm 8), .ref (bm 9), .ref (bm 10), .int ac, .long dn, .ref (bm 11), .ref (bm 12), .ref (bm 13), .ref (bm 14), .int hi]))]) [0] (by decide) rfl
    have hK9 := hK.sub (tys' := []) [] rfl
    exact W.vret hx hb hr (fun t ht hW => ⟨⟨(), rfl, trivial, by rw [ht]; exact hP9, va_K.moved hW.alike hK9, hD9⟩, hS.F ht⟩) hS.2.2 dX10_bad_23
  · have hG := q_ifp c_1 hG
    refine lv_aload_n hx hb dX10_bad_9 rfl (lv_at hl 0 rfl) ?_
    refine va_get (D := (dC, dI)) (ci := 10) (v := .int at_) (C := RX10) (T := TX10) (N := 24) hx hb hts iA_10 hown hK hP 0 rfl rfl 3 (by decide) (hts (.fieldLink RX10 67 "HubTreeModel" "at" "I") (List.mem_cons_of_mem _ m_325)) (fun _ h9 => h9) rfl dX10_bad_10 ?_
    refine lv_goto (tgt := 20) hx hb dX10_bad_13 (by decide) ?_
    refine va_put (D := (dC, dI)) (ci := 10) (v := .int at_) (ty := .int) (C := RX10) (T := TX10) (N := 24) hx hb hts iA_10 tyX10 tyX10_ok nmX10 hown hK hP hD hS 0 rfl rfl 4 (by decide) (hts (.fieldLink RX10 74 "HubTreeModel" "wrong" "I") (List.mem_cons_of_mem _ m_326)) (fun _ h9 => h9) rfl (by decide +kernel) rfl rfl (Nat.le_of_ble_eq_true rfl) dX10_bad_20 (fun H locs hP hD hS => ?_)
    have hP : va_P (dC, dI) vwCl [((bm 0), .inr (10, [.int th, .ref (bm 1), .int tn, .int at_, .int at_, .ref (bm 2), .ref (bm 3), .int rm_, .ref (bm 4), .ref (bm 5), .int mn, .ref (bm 6), .ref (bm 7), .int sn, .ref (bm 8), .ref (bm 9), .ref (bm 10), .int ac, .long dn, .ref (bm 11), .ref (bm 12), .ref (bm 13), .ref (bm 14), .int hi]))] H := hP
    have hD : va_D A [((bm 0), .inr (10, [.int th, .ref (bm 1), .int tn, .int at_, .int at_, .ref (bm 2), .ref (bm 3), .int rm_, .ref (bm 4), .ref (bm 5), .int mn, .ref (bm 6), .ref (bm 7), .int sn, .ref (bm 8), .ref (bm 9), .ref (bm 10), .int ac, .long dn, .ref (bm 11), .ref (bm 12), .ref (bm 13), .ref (bm 14), .int hi]))] := hD
    obtain rfl := Option.some.inj hG
    have hP9 := hP.sub (ws' := [((bm 0), .inr (10, [.int th, .ref (bm 1), .int tn, .int at_, .int at_, .ref (bm 2), .ref (bm 3), .int rm_, .ref (bm 4), .ref (bm 5), .int mn, .ref (bm 6), .ref (bm 7), .int sn, .ref (bm 8), .ref (bm 9), .ref (bm 10), .int ac, .long dn, .ref (bm 11), .ref (bm 12), .ref (bm 13), .ref (bm 14), .int hi]))]) [0] rfl
    have hD9 := hD.sub (ws' := [((bm 0), .inr (10, [.int th, .ref (bm 1), .int tn, .int at_, .int at_, .ref (bm 2), .ref (bm 3), .int rm_, .ref (bm 4), .ref (bm 5), .int mn, .ref (bm 6), .ref (bm 7), .int sn, .ref (bm 8), .ref (bm 9), .ref (bm 10), .int ac, .long dn, .ref (bm 11), .ref (bm 12), .ref (bm 13), .ref (bm 14), .int hi]))]) [0] (by decide) rfl
    have hK9 := hK.sub (tys' := []) [] rfl
    exact W.vret hx hb hr (fun t ht hW => ⟨⟨(), rfl, trivial, by rw [ht]; exact hP9, va_K.moved hW.alike hK9, hD9⟩, hS.F ht⟩) hS.2.2 dX10_bad_23

def FL_X10_number_22 (tn : Int32) (at_ : Int32) (wr : Int32) (tp : Nat → Int32) (z1 : Int32) (z2 : Int32) (z3 : Int32) : Nat → Int32 → Int32 → (Int32) → (Int32) → Option (Int32 × Int32 × Int32)
  | 0, _, _, _, _ => none
  | n + 1, x4_22, x5_22, at__c, wr_c => (if z1 ≤ x5_22 then ((F_X10_here tn at__c tp).bind fun o_7 => ((F_X10_isDigit o_7).bind fun o_9 => (if o_9 = 0 then ((F_X10_in x4_22 z2 z3).bind fun o_12 => (if o_12 = 0 then ((F_X10_bad (at__c - 1) wr_c).bind fun o_15 => some (x4_22, (at__c - 1), (o_15))) else some (x4_22, at__c, wr_c))) else ((F_X10_bad at__c wr_c).bind fun o_17 => some (x4_22, at__c, (o_17)))))) else ((F_X10_here tn at__c tp).bind fun o_19 => ((F_X10_isDigit o_19).bind fun o_21 => (if o_21 = 0 then ((F_X10_here tn at__c tp).bind fun o_24 => ((F_X10_isDigit o_24).bind fun o_26 => (if o_26 = 0 then ((F_X10_in x4_22 z2 z3).bind fun o_29 => (if o_29 = 0 then ((F_X10_bad (at__c - 1) wr_c).bind fun o_32 => some (x4_22, (at__c - 1), (o_32))) else some (x4_22, at__c, wr_c))) else ((F_X10_bad at__c wr_c).bind fun o_34 => some (x4_22, at__c, (o_34)))))) else ((F_X10_here tn at__c tp).bind fun o_36 => (FL_X10_number_22 tn at_ wr tp z1 z2 z3 n (((10 * x4_22) + o_36) - 48) (x5_22 + 1) (at__c + 1) wr_c))))))

def F_X10_number (tn : Int32) (at_ : Int32) (wr : Int32) (tp : Nat → Int32) (z1 : Int32) (z2 : Int32) (z3 : Int32) : Option (Int32 × Int32 × Int32) := ((F_X10_ahead tn at_ tp).bind fun o_1 => ((F_X10_isDigit o_1.1).bind fun o_3 => (if o_3 = 0 then ((F_X10_bad (o_1.2) wr).bind fun o_38 => some (z2, (o_1.2), (o_38))) else (FL_X10_number_22 tn at_ wr tp z1 z2 z3 1000 0 0 (o_1.2) wr))))
set_option maxHeartbeats 4000000 in
set_option maxRecDepth 100000 in
theorem c_X10_number (l : Launch) (dC : Nat → ClassId) (dI : Nat → Nat → Nat) (bm : Nat → Nat) (km : Nat → ClassId) (th : Int32) (tn : Int32) (at_ : Int32) (wr : Int32) (rm_ : Int32) (mn : Int32) (sn : Int32) (ac : Int32) (hi : Int32) (dn : Int64) (tp : Nat → Int32) (z1 : Int32) (z2 : Int32) (z3 : Int32) (A : Nat → Prop) (o : Int32 × Int32 × Int32) (hG : F_X10_number tn at_ wr tp z1 z2 z3 = some o) : Met l yX10_number (.code yX10_number cX10_number 6 (some .int) :: wA) ({ frames := 2, cells := 0, slots := 0, locals := 40 }) (va_Pc [.ref (bm 0), .int z1, .int z2, .int z3] (q_W (dC, dI) A [((bm 0), .inr (10, [.int th, .ref (bm 1), .int tn, .int at_, .int wr, .ref (bm 2), .ref (bm 3), .int rm_, .ref (bm 4), .ref (bm 5), .int mn, .ref (bm 6), .ref (bm 7), .int sn, .ref (bm 8), .ref (bm 9), .ref (bm 10), .int ac, .long dn, .ref (bm 11), .ref (bm 12), .ref (bm 13), .ref (bm 14), .int hi])), ((bm 1), .inl ((km 1), 240, .inl tp))] [((km 1), .int)])) (va_Qi (fun (r : Int32) (_ : Unit) => r = o.1 ∧ True) (fun (_ : Unit) t => q_B (dC, dI) A [((bm 0), .inr (10, [.int th, .ref (bm 1), .int tn, .int (o.2.1), .int (o.2.2), .ref (bm 2), .ref (bm 3), .int rm_, .ref (bm 4), .ref (bm 5), .int mn, .ref (bm 6), .ref (bm 7), .int sn, .ref (bm 8), .ref (bm 9), .ref (bm 10), .int ac, .long dn, .ref (bm 11), .ref (bm 12), .ref (bm 13), .ref (bm 14), .int hi])), ((bm 1), .inl ((km 1), 240, .inl tp))] [((km 1), .int)] t) A) 0 0 A := by
  refine Met.ofW (cc := cX10_number) (maxL := 6) (ret := (some .int)) (by decide) rfl ?_
  intro p e s m args below meth c s₁ B hml hv
  obtain ⟨rfl, hP, hK, hD, hA⟩ := hv
  have hx := B.exec
  have hb := B.bytes
  have hr := B.returns
  have hts := atoms_spec (ws := .code yX10_number cX10_number 6 (some .int) :: wA) B.pre
  have hown : s.vm.findClass RX10 = some m.cls := findClass_of_methodNamed B.named
  have hlocks := B.notSynchronized
  have hS : va_S A s.heap s.heap [] := va_S.rf
  have hl := lv_entry ([.ref (bm 0), .int z1, .int z2, .int z3]) (n := 6) (Nat.le_of_ble_eq_true rfl)
  rw [lg_entry_eq]
  generalize (lg_sl ([.ref (bm 0), .int z1, .int z2, .int z3]) ++ List.replicate (6 - (lg_sl ([.ref (bm 0), .int z1, .int z2, .int z3])).length) Slot.unset).toArray = ls at hl ⊢
  have hl : lv_has ls 6 [(0, .ref (bm 0)), (1, .int z1), (2, .int z2), (3, .int z3)] := hl
  unfold F_X10_number at hG
  refine lv_aload_n hx hb dX10_number_0 rfl (lv_at hl 0 rfl) ?_
  obtain ⟨o_1, r_2, hG⟩ := q_bi hG
  refine q_goi2 (v := o_1.1) (wr := []) (va_runV (As := []) (rest := []) ⟨hx, hb, hml, hown, hts⟩ (c_X10_ahead l dC dI bm km th tn at_ wr rm_ mn sn ac hi dn tp (va_A [((bm 0), .inr (10, [.int th, .ref (bm 1), .int tn, .int at_, .int wr, .ref (bm 2), .ref (bm 3), .int rm_, .ref (bm 4), .ref (bm 5), .int mn, .ref (bm 6), .ref (bm 7), .int sn, .ref (bm 8), .ref (bm 9), .ref (bm 10), .int ac, .long dn, .ref (bm 11), .ref (bm 12), .ref (bm 13), .ref (bm 14), .int hi])), ((bm 1), .inl ((km 1), 240, .inl tp))] s.heap.size) o_1 r_2) (cwV 0 hts (q_gV m_331 m_332 m_333 m_5 m_334) rfl rfl rfl hdV_yX10_ahead_0 ⟨Nat.le_of_ble_eq_true rfl, Nat.le_of_ble_eq_true rfl⟩) (q_preWV hK hP hD (q := (RX10, TX10, 24)) (ci := 10) (q0 := 0) rfl rfl [0, 1] (by decide) rfl rfl [0] rfl) rfl rfl hl.1 rfl (lv_room (Nat.le_of_ble_eq_true rfl)) dX10_number_1 ⟨Nat.le_of_ble_eq_true rfl, Nat.le_of_ble_eq_true rfl⟩) hK hP hD hS hA [0, 1] [] rfl rfl (by decide) (by decide) (fun _ H locs _ hP hD hK9 hS => ?_)
  have hP : va_P (dC, dI) vwCl [((bm 0), .inr (10, [.int th, .ref (bm 1), .int tn, .int (o_1.2), .int wr, .ref (bm 2), .ref (bm 3), .int rm_, .ref (bm 4), .ref (bm 5), .int mn, .ref (bm 6), .ref (bm 7), .int sn, .ref (bm 8), .ref (bm 9), .ref (bm 10), .int ac, .long dn, .ref (bm 11), .ref (bm 12), .ref (bm 13), .ref (bm 14), .int hi])), ((bm 1), .inl ((km 1), 240, .inl tp))] H := hP.sub [0, 1] rfl
  have hD : va_D A [((bm 0), .inr (10, [.int th, .ref (bm 1), .int tn, .int (o_1.2), .int wr, .ref (bm 2), .ref (bm 3), .int rm_, .ref (bm 4), .ref (bm 5), .int mn, .ref (bm 6), .ref (bm 7), .int sn, .ref (bm 8), .ref (bm 9), .ref (bm 10), .int ac, .long dn, .ref (bm 11), .ref (bm 12), .ref (bm 13), .ref (bm 14), .int hi])), ((bm 1), .inl ((km 1), 240, .inl tp))] := hD.sub [0, 1] (by decide) rfl
  obtain ⟨o_3, r_4, hG⟩ := q_bi hG
  refine q_goi (v := o_3) (va_runS (As := [.int o_1.1]) (rest := []) ⟨hx, hb, hml, hown, hts⟩ (c_X10_isDigit l dC dI o_1.1 o_3 r_4) (va_cwS 1 hts (q_gS m_359 m_360 m_5 m_361) rfl rfl rfl hdS_yX10_isDigit_1 ⟨Nat.le_of_ble_eq_true rfl, Nat.le_of_ble_eq_true rfl⟩) (q_preS hK hP [] rfl [] rfl) rfl rfl hl.1 rfl (lv_room (Nat.le_of_ble_eq_true rfl)) dX10_number_4 ⟨Nat.le_of_ble_eq_true rfl, Nat.le_of_ble_eq_true rfl⟩) hP hS (fun H locs hP hS => ?_)
  refine lv_if_ne (tgt := 16) hx hb dX10_number_7 (by decide) (fun c_5 => ?_) (fun c_5 => ?_)
  · have hG := q_ifn c_5 hG
    refine lv_iconst (v := 0) hx hb dX10_number_16 (by decide) ?_
    refine lv_istore (lv' := [(4, .int 0), (0, .ref (bm 0)), (1, .int z1), (2, .int z2), (3, .int z3)]) hx hb dX10_number_17 hl (by decide) rfl (fun ls hl => ?_)
    refine lv_iconst (v := 0) hx hb dX10_number_19 (by decide) ?_
    refine lv_istore (lv' := [(5, .int 0), (4, .int 0), (0, .ref (bm 0)), (1, .int z1), (2, .int z2), (3, .int z3)]) hx hb dX10_number_20 hl (by decide) rfl (fun ls hl => ?_)
    have L_22 : ∀ (n_22 : Nat) (x4_22 : Int32) (x5_22 : Int32) (at__c : Int32) (wr_c : Int32) (H : Heap) (locs : List Loc) (ls : Array Slot), FL_X10_number_22 tn at_ wr tp z1 z2 z3 n_22 x4_22 x5_22 at__c wr_c = some o → va_P (dC, dI) vwCl [((bm 0), .inr (10, [.int th, .ref (bm 1), .int tn, .int at__c, .int wr_c, .ref (bm 2), .ref (bm 3), .int rm_, .ref (bm 4), .ref (bm 5), .int mn, .ref (bm 6), .ref (bm 7), .int sn, .ref (bm 8), .ref (bm 9), .ref (bm 10), .int ac, .long dn, .ref (bm 11), .ref (bm 12), .ref (bm 13), .ref (bm 14), .int hi])), ((bm 1), .inl ((km 1), 240, .inl tp))] H → va_D A [((bm 0), .inr (10, [.int th, .ref (bm 1), .int tn, .int at__c, .int wr_c, .ref (bm 2), .ref (bm 3), .int rm_, .ref (bm 4), .ref (bm 5), .int mn, .ref (bm 6), .ref (bm 7), .int sn, .ref (bm 8), .ref (bm 9), .ref (bm 10), .int ac, .long dn, .ref (bm 11), .ref (bm 12), .ref (bm 13), .ref (bm 14), .int hi])), ((bm 1), .inl ((km 1), 240, .inl tp))] → va_S A s.heap H locs → lv_has ls 6 [(5, .int x5_22), (4, .int x4_22), (0, .ref (bm 0)), (1, .int z1), (2, .int z2), (3, .int z3)] → W p l e (headSpec (.code yX10_number cX10_number 6 (some .int) :: wA) ({ frames := 2, cells := 0, slots := 0, locals := 40 })).room s m #[.ref (bm 0), .int z1, .int z2, .int z3] below meth c H locs 0 0 (MQ below (va_Qi (fun (r : Int32) (_ : Unit) => r = o.1 ∧ True) (fun (_ : Unit) t => q_B (dC, dI) A [((bm 0), .inr (10, [.int th, .ref (bm 1), .int tn, .int (o.2.1), .int (o.2.2), .ref (bm 2), .ref (bm 3), .int rm_, .ref (bm 4), .ref (bm 5), .int mn, .ref (bm 6), .ref (bm 7), .int sn, .ref (bm 8), .ref (bm 9), .ref (bm 10), .int ac, .long dn, .ref (bm 11), .ref (bm 12), .ref (bm 13), .ref (bm 14), .int hi])), ((bm 1), .inl ((km 1), 240, .inl tp))] [((km 1), .int)] t) A) #[.ref (bm 0), .int z1, .int z2, .int z3] s 0 0 A) (F0 m 22 ls []) := by
      intro n_22
      induction n_22 with
      | zero =>
        intro x4_22 x5_22 at__c wr_c H locs ls hG
        exact q_no hG
      | succ n_22 ih_22 =>
        intro x4_22 x5_22 at__c wr_c H locs ls hG hP hD hS hl
        unfold FL_X10_number_22 at hG
        refine lv_iload hx hb dX10_number_22 (lv_at hl 0 rfl) ?_
        refine lv_iload_n hx hb dX10_number_24 rfl (lv_at hl 3 rfl) ?_
        refine lv_icmp_ge (tgt := 69) hx hb dX10_number_25 (by decide) (fun c_6 => ?_) (fun c_6 => ?_)
        · have hG := q_ifp c_6 hG
          refine lv_aload_n hx hb dX10_number_69 rfl (lv_at hl 2 rfl) ?_
          obtain ⟨o_7, r_8, hG⟩ := q_bi hG
          refine q_goi (v := o_7) (va_runV (As := []) (rest := []) ⟨hx, hb, hml, hown, hts⟩ (c_X10_here l dC dI bm km th tn at__c wr_c rm_ mn sn ac hi dn tp o_7 r_8) (cwV 0 hts (q_gV m_335 m_336 m_337 m_5 m_338) rfl rfl rfl hdV_yX10_here_0 ⟨Nat.le_of_ble_eq_true rfl, Nat.le_of_ble_eq_true rfl⟩) (q_preV hK hP (q := (RX10, TX10, 24)) (ci := 10) (q0 := 0) rfl rfl [0, 1] rfl [0] rfl) rfl rfl hl.1 rfl (lv_room (Nat.le_of_ble_eq_true rfl)) dX10_number_70 ⟨Nat.le_of_ble_eq_true rfl, Nat.le_of_ble_eq_true rfl⟩) hP hS (fun H locs hP hS => ?_)
          obtain ⟨o_9, r_10, hG⟩ := q_bi hG
          refine q_goi (v := o_9) (va_runS (As := [.int o_7]) (rest := []) ⟨hx, hb, hml, hown, hts⟩ (c_X10_isDigit l dC dI o_7 o_9 r_10) (va_cwS 1 hts (q_gS m_359 m_360 m_5 m_361) rfl rfl rfl hdS_yX10_isDigit_1 ⟨Nat.le_of_ble_eq_true rfl, Nat.le_of_ble_eq_true rfl⟩) (q_preS hK hP [] rfl [] rfl) rfl rfl hl.1 rfl (lv_room (Nat.le_of_ble_eq_true rfl)) dX10_number_73 ⟨Nat.le_of_ble_eq_true rfl, Nat.le_of_ble_eq_true rfl⟩) hP hS (fun H locs hP hS => ?_)
          refine lv_if_eq (tgt := 86) hx hb dX10_number_76 (by decide) (fun c_11 => ?_) (fun c_11 => ?_)
          · have hG := q_ifp c_11 hG
            refine lv_iload hx hb dX10_number_86 (lv_at hl 1 rfl) ?_
            refine lv_iload_n hx hb dX10_number_88 rfl (lv_at hl 4 rfl) ?_
            refine lv_iload_n hx hb dX10_number_89 rfl (lv_at hl 5 rfl) ?_
            obtain ⟨o_12, r_13, hG⟩ := q_bi hG
            refine q_goi (v := o_12) (va_runS (As := [.int x4_22, .int z2, .int z3]) (rest := []) ⟨hx, hb, hml, hown, hts⟩ (c_X10_in l dC dI x4_22 z2 z3 o_12 r_13) (va_cwS 3 hts (q_gS m_157 m_158 m_5 m_159) rfl rfl rfl hdS_yX10_in_3 ⟨Nat.le_of_ble_eq_true rfl, Nat.le_of_ble_eq_true rfl⟩) (q_preS hK hP [] rfl [] rfl) rfl rfl hl.1 rfl (lv_room (Nat.le_of_ble_eq_true rfl)) dX10_number_90 ⟨Nat.le_of_ble_eq_true rfl, Nat.le_of_ble_eq_true rfl⟩) hP hS (fun H locs hP hS => ?_)
            refine lv_if_ne (tgt := 110) hx hb dX10_number_93 (by decide) (fun c_14 => ?_) (fun c_14 => ?_)
            · have hG := q_ifn c_14 hG
              refine lv_iload hx hb dX10_number_110 (lv_at hl 1 rfl) ?_
              obtain rfl := Option.some.inj hG
              have hP9 := hP.sub (ws' := [((bm 0), .inr (10, [.int th, .ref (bm 1), .int tn, .int at__c, .int wr_c, .ref (bm 2), .ref (bm 3), .int rm_, .ref (bm 4), .ref (bm 5), .int mn, .ref (bm 6), .ref (bm 7), .int sn, .ref (bm 8), .ref (bm 9), .ref (bm 10), .int ac, .long dn, .ref (bm 11), .ref (bm 12), .ref (bm 13), .ref (bm 14), .int hi])), ((bm 1), .inl ((km 1), 240, .inl tp))]) [0, 1] rfl
              have hD9 := hD.sub (ws' := [((bm 0), .inr (10, [.int th, .ref (bm 1), .int tn, .int at__c, .int wr_c, .ref (bm 2), .ref (bm 3), .int rm_, .ref (bm 4), .ref (bm 5), .int mn, .ref (bm 6), .ref (bm 7), .int sn, .ref (bm 8), .ref (bm 9), .ref (bm 10), .int ac, .long dn, .ref (bm 11), .ref (bm 12), .ref (bm 13), .ref (bm 14), .int hi])), ((bm 1), .inl ((km 1), 240, .inl tp))]) [0, 1] (by decide) rfl
              have hK9 := hK.sub (tys' := [((km 1), .int)]) [0] rfl
              exact W.iret (v := x4_22) hx hb hr (fun t ht hW => ⟨⟨x4_22, (), rfl, ⟨rfl, trivial⟩, by rw [ht]; exact hP9, va_K.moved hW.alike hK9, hD9⟩, hS.F ht⟩) hS.2.2 dX10_number_112
            · have hG := q_ifp c_14 hG
              refine lv_aload_n hx hb dX10_number_96 rfl (lv_at hl 2 rfl) ?_
              refine lv_dup hx hb dX10_number_97 rfl ?_
              refine va_get (D := (dC, dI)) (ci := 10) (v := .int at__c) (C := RX10) (T := TX10) (N := 24) hx hb hts iA_10 hown hK hP 0 rfl rfl 3 (by decide) (hts (.fieldLink RX10 67 "HubTreeModel" "at" "I") (List.mem_cons_of_mem _ m_325)) (fun _ h9 => h9) rfl dX10_number_98 ?_
              refine lv_iconst (v := 1) hx hb dX10_number_101 (by decide) ?_
              refine lv_isub hx hb dX10_number_102 ?_
              refine va_put (D := (dC, dI)) (ci := 10) (v := .int (at__c - 1)) (ty := .int) (C := RX10) (T := TX10) (N := 24) hx hb hts iA_10 tyX10 tyX10_ok nmX10 hown hK hP hD hS 0 rfl rfl 3 (by decide) (hts (.fieldLink RX10 67 "HubTreeModel" "at" "I") (List.mem_cons_of_mem _ m_325)) (fun _ h9 => h9) rfl (by decide +kernel) rfl rfl (Nat.le_of_ble_eq_true rfl) dX10_number_103 (fun H locs hP hD hS => ?_)
              have hP : va_P (dC, dI) vwCl [((bm 0), .inr (10, [.int th, .ref (bm 1), .int tn, .int (at__c - 1), .int wr_c, .ref (bm 2), .ref (bm 3), .int rm_, .ref (bm 4), .ref (bm 5), .int mn, .ref (bm 6), .ref (bm 7), .int sn, .ref (bm 8), .ref (bm 9), .ref (bm 10), .int ac, .long dn, .ref (bm 11), .ref (bm 12), .ref (bm 13), .ref (bm 14), .int hi])), ((bm 1), .inl ((km 1), 240, .inl tp))] H := hP
              have hD : va_D A [((bm 0), .inr (10, [.int th, .ref (bm 1), .int tn, .int (at__c - 1), .int wr_c, .ref (bm 2), .ref (bm 3), .int rm_, .ref (bm 4), .ref (bm 5), .int mn, .ref (bm 6), .ref (bm 7), .int sn, .ref (bm 8), .ref (bm 9), .ref (bm 10), .int ac, .long dn, .ref (bm 11), .ref (bm 12), .ref (bm 13), .ref (bm 14), .int hi])), ((bm 1), .inl ((km 1), 240, .inl tp))] := hD
              refine lv_aload_n hx hb dX10_number_106 rfl (lv_at hl 2 rfl) ?_
              obtain ⟨o_15, r_16, hG⟩ := q_bi hG
              refine q_gov2 (wr := [((bm 1), .inl ((km 1), 240, .inl tp))]) (va_runV (As := []) (rest := []) ⟨hx, hb, hml, hown, hts⟩ (c_X10_bad l dC dI bm km th tn (at__c - 1) wr_c rm_ mn sn ac hi dn (va_A [((bm 0), .inr (10, [.int th, .ref (bm 1), .int tn, .int (at__c - 1), .int wr_c, .ref (bm 2), .ref (bm 3), .int rm_, .ref (bm 4), .ref (bm 5), .int mn, .ref (bm 6), .ref (bm 7), .int sn, .ref (bm 8), .ref (bm 9), .ref (bm 10), .int ac, .long dn, .ref (bm 11), .ref (bm 12), .ref (bm 13), .ref (bm 14), .int hi]))] H.size) o_15 r_16) (cwV 0 hts (q_gV m_362 m_363 m_364 m_5 m_365) rfl rfl rfl hdV_yX10_bad_0 ⟨Nat.le_of_ble_eq_true rfl, Nat.le_of_ble_eq_true rfl⟩) (q_preWV hK hP hD (q := (RX10, TX10, 24)) (ci := 10) (q0 := 0) rfl rfl [0] (by decide) rfl rfl [] rfl) rfl rfl hl.1 rfl (lv_room (Nat.le_of_ble_eq_true rfl)) dX10_number_107 ⟨Nat.le_of_ble_eq_true rfl, Nat.le_of_ble_eq_true rfl⟩) hK hP hD hS hA [0] [1] rfl rfl (by decide) (by decide) (fun _ H locs _ hP hD hK9 hS => ?_)
              have hP : va_P (dC, dI) vwCl [((bm 0), .inr (10, [.int th, .ref (bm 1), .int tn, .int (at__c - 1), .int (o_15), .ref (bm 2), .ref (bm 3), .int rm_, .ref (bm 4), .ref (bm 5), .int mn, .ref (bm 6), .ref (bm 7), .int sn, .ref (bm 8), .ref (bm 9), .ref (bm 10), .int ac, .long dn, .ref (bm 11), .ref (bm 12), .ref (bm 13), .ref (bm 14), .int hi])), ((bm 1), .inl ((km 1), 240, .inl tp))] H := hP.sub [1, 0] rfl
              have hD : va_D A [((bm 0), .inr (10, [.int th, .ref (bm 1), .int tn, .int (at__c - 1), .int (o_15), .ref (bm 2), .ref (bm 3), .int rm_, .ref (bm 4), .ref (bm 5), .int mn, .ref (bm 6), .ref (bm 7), .int sn, .ref (bm 8), .ref (bm 9), .ref (bm 10), .int ac, .long dn, .ref (bm 11), .ref (bm 12), .ref (bm 13), .ref (bm 14), .int hi])), ((bm 1), .inl ((km 1), 240, .inl tp))] := hD.sub [1, 0] (by decide) rfl
              refine lv_iload hx hb dX10_number_110 (lv_at hl 1 rfl) ?_
              obtain rfl := Option.some.inj hG
              have hP9 := hP.sub (ws' := [((bm 0), .inr (10, [.int th, .ref (bm 1), .int tn, .int (at__c - 1), .int (o_15), .ref (bm 2), .ref (bm 3), .int rm_, .ref (bm 4), .ref (bm 5), .int mn, .ref (bm 6), .ref (bm 7), .int sn, .ref (bm 8), .ref (bm 9), .ref (bm 10), .int ac, .long dn, .ref (bm 11), .ref (bm 12), .ref (bm 13), .ref (bm 14), .int hi])), ((bm 1), .inl ((km 1), 240, .inl tp))]) [0, 1] rfl
              have hD9 := hD.sub (ws' := [((bm 0), .inr (10, [.int th, .ref (bm 1), .int tn, .int (at__c - 1), .int (o_15), .ref (bm 2), .ref (bm 3), .int rm_, .ref (bm 4), .ref (bm 5), .int mn, .ref (bm 6), .ref (bm 7), .int sn, .ref (bm 8), .ref (bm 9), .ref (bm 10), .int ac, .long dn, .ref (bm 11), .ref (bm 12), .ref (bm 13), .ref (bm 14), .int hi])), ((bm 1), .inl ((km 1), 240, .inl tp))]) [0, 1] (by decide) rfl
              have hK9 := hK.sub (tys' := [((km 1), .int)]) [0] rfl
              exact W.iret (v := x4_22) hx hb hr (fun t ht hW => ⟨⟨x4_22, (), rfl, ⟨rfl, trivial⟩, by rw [ht]; exact hP9, va_K.moved hW.alike hK9, hD9⟩, hS.F ht⟩) hS.2.2 dX10_number_112
          · have hG := q_ifn c_11 hG
            refine lv_aload_n hx hb dX10_number_79 rfl (lv_at hl 2 rfl) ?_
            obtain ⟨o_17, r_18, hG⟩ := q_bi hG
            refine q_gov2 (wr := [((bm 1), .inl ((km 1), 240, .inl tp))]) (va_runV (As := []) (rest := []) ⟨hx, hb, hml, hown, hts⟩ (c_X10_bad l dC dI bm km th tn at__c wr_c rm_ mn sn ac hi dn (va_A [((bm 0), .inr (10, [.int th, .ref (bm 1), .int tn, .int at__c, .int wr_c, .ref (bm 2), .ref (bm 3), .int rm_, .ref (bm 4), .ref (bm 5), .int mn, .ref (bm 6), .ref (bm 7), .int sn, .ref (bm 8), .ref (bm 9), .ref (bm 10), .int ac, .long dn, .ref (bm 11), .ref (bm 12), .ref (bm 13), .ref (bm 14), .int hi]))] H.size) o_17 r_18) (cwV 0 hts (q_gV m_362 m_363 m_364 m_5 m_365) rfl rfl rfl hdV_yX10_bad_0 ⟨Nat.le_of_ble_eq_true rfl, Nat.le_of_ble_eq_true rfl⟩) (q_preWV hK hP hD (q := (RX10, TX10, 24)) (ci := 10) (q0 := 0) rfl rfl [0] (by decide) rfl rfl [] rfl) rfl rfl hl.1 rfl (lv_room (Nat.le_of_ble_eq_true rfl)) dX10_number_80 ⟨Nat.le_of_ble_eq_true rfl, Nat.le_of_ble_eq_true rfl⟩) hK hP hD hS hA [0] [1] rfl rfl (by decide) (by decide) (fun _ H locs _ hP hD hK9 hS => ?_)
            have hP : va_P (dC, dI) vwCl [((bm 0), .inr (10, [.int th, .ref (bm 1), .int tn, .int at__c, .int (o_17), .ref (bm 2), .ref (bm 3), .int rm_, .ref (bm 4), .ref (bm 5), .int mn, .ref (bm 6), .ref (bm 7), .int sn, .ref (bm 8), .ref (bm 9), .ref (bm 10), .int ac, .long dn, .ref (bm 11), .ref (bm 12), .ref (bm 13), .ref (bm 14), .int hi])), ((bm 1), .inl ((km 1), 240, .inl tp))] H := hP.sub [1, 0] rfl
            have hD : va_D A [((bm 0), .inr (10, [.int th, .ref (bm 1), .int tn, .int at__c, .int (o_17), .ref (bm 2), .ref (bm 3), .int rm_, .ref (bm 4), .ref (bm 5), .int mn, .ref (bm 6), .ref (bm 7), .int sn, .ref (bm 8), .ref (bm 9), .ref (bm 10), .int ac, .long dn, .ref (bm 11), .ref (bm 12), .ref (bm 13), .ref (bm 14), .int hi])), ((bm 1), .inl ((km 1), 240, .inl tp))] := hD.sub [1, 0] (by decide) rfl
            refine lv_goto (tgt := 110) hx hb dX10_number_83 (by decide) ?_
            refine lv_iload hx hb dX10_number_110 (lv_at hl 1 rfl) ?_
            obtain rfl := Option.some.inj hG
            have hP9 := hP.sub (ws' := [((bm 0), .inr (10, [.int th, .ref (bm 1), .int tn, .int at__c, .int (o_17), .ref (bm 2), .ref (bm 3), .int rm_, .ref (bm 4), .ref (bm 5), .int mn, .ref (bm 6), .ref (bm 7), .int sn, .ref (bm 8), .ref (bm 9), .ref (bm 10), .int ac, .long dn, .ref (bm 11), .ref (bm 12), .ref (bm 13), .ref (bm 14), .int hi])), ((bm 1), .inl ((km 1), 240, .inl tp))]) [0, 1] rfl
            have hD9 := hD.sub (ws' := [((bm 0), .inr (10, [.int th, .ref (bm 1), .int tn, .int at__c, .int (o_17), .ref (bm 2), .ref (bm 3), .int rm_, .ref (bm 4), .ref (bm 5), .int mn, .ref (bm 6), .ref (bm 7), .int sn, .ref (bm 8), .ref (bm 9), .ref (bm 10), .int ac, .long dn, .ref (bm 11), .ref (bm 12), .ref (bm 13), .ref (bm 14), .int hi])), ((bm 1), .inl ((km 1), 240, .inl tp))]) [0, 1] (by decide) rfl
            have hK9 := hK.sub (tys' := [((km 1), .int)]) [0] rfl
            exact W.iret (v := x4_22) hx hb hr (fun t ht hW => ⟨⟨x4_22, (), rfl, ⟨rfl, trivial⟩, by rw [ht]; exact hP9, va_K.moved hW.alike hK9, hD9⟩, hS.F ht⟩) hS.2.2 dX10_number_112
        · have hG := q_ifn c_6 hG
          refine lv_aload_n hx hb dX10_number_28 rfl (lv_at hl 2 rfl) ?_
          obtain ⟨o_19, r_20, hG⟩ := q_bi hG
          refine q_goi (v := o_19) (va_runV (As := []) (rest := []) ⟨hx, hb, hml, hown, hts⟩ (c_X10_here l dC dI bm km th tn at__c wr_c rm_ mn sn ac hi dn tp o_19 r_20) (cwV 0 hts (q_gV m_335 m_336 m_337 m_5 m_338) rfl rfl rfl hdV_yX10_here_0 ⟨Nat.le_of_ble_eq_true rfl, Nat.le_of_ble_eq_true rfl⟩) (q_preV hK hP (q := (RX10, TX10, 24)) (ci := 10) (q0 := 0) rfl rfl [0, 1] rfl [0] rfl) rfl rfl hl.1 rfl (lv_room (Nat.le_of_ble_eq_true rfl)) dX10_number_29 ⟨Nat.le_of_ble_eq_true rfl, Nat.le_of_ble_eq_true rfl⟩) hP hS (fun H locs hP hS => ?_)
          obtain ⟨o_21, r_22, hG⟩ := q_bi hG
          refine q_goi (v := o_21) (va_runS (As := [.int o_19]) (rest := []) ⟨hx, hb, hml, hown, hts⟩ (c_X10_isDigit l dC dI o_19 o_21 r_22) (va_cwS 1 hts (q_gS m_359 m_360 m_5 m_361) rfl rfl rfl hdS_yX10_isDigit_1 ⟨Nat.le_of_ble_eq_true rfl, Nat.le_of_ble_eq_true rfl⟩) (q_preS hK hP [] rfl [] rfl) rfl rfl hl.1 rfl (lv_room (Nat.le_of_ble_eq_true rfl)) dX10_number_32 ⟨Nat.le_of_ble_eq_true rfl, Nat.le_of_ble_eq_true rfl⟩) hP hS (fun H locs hP hS => ?_)
          refine lv_if_eq (tgt := 69) hx hb dX10_number_35 (by decide) (fun c_23 => ?_) (fun c_23 => ?_)
          · have hG := q_ifp c_23 hG
            refine lv_aload_n hx hb dX10_number_69 rfl (lv_at hl 2 rfl) ?_
            obtain ⟨o_24, r_25, hG⟩ := q_bi hG
            refine q_goi (v := o_24) (va_runV (As := []) (rest := []) ⟨hx, hb, hml, hown, hts⟩ (c_X10_here l dC dI bm km th tn at__c wr_c rm_ mn sn ac hi dn tp o_24 r_25) (cwV 0 hts (q_gV m_335 m_336 m_337 m_5 m_338) rfl rfl rfl hdV_yX10_here_0 ⟨Nat.le_of_ble_eq_true rfl, Nat.le_of_ble_eq_true rfl⟩) (q_preV hK hP (q := (RX10, TX10, 24)) (ci := 10) (q0 := 0) rfl rfl [0, 1] rfl [0] rfl) rfl rfl hl.1 rfl (lv_room (Nat.le_of_ble_eq_true rfl)) dX10_number_70 ⟨Nat.le_of_ble_eq_true rfl, Nat.le_of_ble_eq_true rfl⟩) hP hS (fun H locs hP hS => ?_)
            obtain ⟨o_26, r_27, hG⟩ := q_bi hG
            refine q_goi (v := o_26) (va_runS (As := [.int o_24]) (rest := []) ⟨hx, hb, hml, hown, hts⟩ (c_X10_isDigit l dC dI o_24 o_26 r_27) (va_cwS 1 hts (q_gS m_359 m_360 m_5 m_361) rfl rfl rfl hdS_yX10_isDigit_1 ⟨Nat.le_of_ble_eq_true rfl, Nat.le_of_ble_eq_true rfl⟩) (q_preS hK hP [] rfl [] rfl) rfl rfl hl.1 rfl (lv_room (Nat.le_of_ble_eq_true rfl)) dX10_number_73 ⟨Nat.le_of_ble_eq_true rfl, Nat.le_of_ble_eq_true rfl⟩) hP hS (fun H locs hP hS => ?_)
            refine lv_if_eq (tgt := 86) hx hb dX10_number_76 (by decide) (fun c_28 => ?_) (fun c_28 => ?_)
            · have hG := q_ifp c_28 hG
              refine lv_iload hx hb dX10_number_86 (lv_at hl 1 rfl) ?_
              refine lv_iload_n hx hb dX10_number_88 rfl (lv_at hl 4 rfl) ?_
              refine lv_iload_n hx hb dX10_number_89 rfl (lv_at hl 5 rfl) ?_
              obtain ⟨o_29, r_30, hG⟩ := q_bi hG
              refine q_goi (v := o_29) (va_runS (As := [.int x4_22, .int z2, .int z3]) (rest := []) ⟨hx, hb, hml, hown, hts⟩ (c_X10_in l dC dI x4_22 z2 z3 o_29 r_30) (va_cwS 3 hts (q_gS m_157 m_158 m_5 m_159) rfl rfl rfl hdS_yX10_in_3 ⟨Nat.le_of_ble_eq_true rfl, Nat.le_of_ble_eq_true rfl⟩) (q_preS hK hP [] rfl [] rfl) rfl rfl hl.1 rfl (lv_room (Nat.le_of_ble_eq_true rfl)) dX10_number_90 ⟨Nat.le_of_ble_eq_true rfl, Nat.le_of_ble_eq_true rfl⟩) hP hS (fun H locs hP hS => ?_)
              refine lv_if_ne (tgt := 110) hx hb dX10_number_93 (by decide) (fun c_31 => ?_) (fun c_31 => ?_)
              · have hG := q_ifn c_31 hG
                refine lv_iload hx hb dX10_number_110 (lv_at hl 1 rfl) ?_
                obtain rfl := Option.some.inj hG
                have hP9 := hP.sub (ws' := [((bm 0), .inr (10, [.int th, .ref (bm 1), .int tn, .int at__c, .int wr_c, .ref (bm 2), .ref (bm 3), .int rm_, .ref (bm 4), .ref (bm 5), .int mn, .ref (bm 6), .ref (bm 7), .int sn, .ref (bm 8), .ref (bm 9), .ref (bm 10), .int ac, .long dn, .ref (bm 11), .ref (bm 12), .ref (bm 13), .ref (bm 14), .int hi])), ((bm 1), .inl ((km 1), 240, .inl tp))]) [0, 1] rfl
                have hD9 := hD.sub (ws' := [((bm 0), .inr (10, [.int th, .ref (bm 1), .int tn, .int at__c, .int wr_c, .ref (bm 2), .ref (bm 3), .int rm_, .ref (bm 4), .ref (bm 5), .int mn, .ref (bm 6), .ref (bm 7), .int sn, .ref (bm 8), .ref (bm 9), .ref (bm 10), .int ac, .long dn, .ref (bm 11), .ref (bm 12), .ref (bm 13), .ref (bm 14), .int hi])), ((bm 1), .inl ((km 1), 240, .inl tp))]) [0, 1] (by decide) rfl
                have hK9 := hK.sub (tys' := [((km 1), .int)]) [0] rfl
                exact W.iret (v := x4_22) hx hb hr (fun t ht hW => ⟨⟨x4_22, (), rfl, ⟨rfl, trivial⟩, by rw [ht]; exact hP9, va_K.moved hW.alike hK9, hD9⟩, hS.F ht⟩) hS.2.2 dX10_number_112
              · have hG := q_ifp c_31 hG
                refine lv_aload_n hx hb dX10_number_96 rfl (lv_at hl 2 rfl) ?_
                refine lv_dup hx hb dX10_number_97 rfl ?_
                refine va_get (D := (dC, dI)) (ci := 10) (v := .int at__c) (C := RX10) (T := TX10) (N := 24) hx hb hts iA_10 hown hK hP 0 rfl rfl 3 (by decide) (hts (.fieldLink RX10 67 "HubTreeModel" "at" "I") (List.mem_cons_of_mem _ m_325)) (fun _ h9 => h9) rfl dX10_number_98 ?_
                refine lv_iconst (v := 1) hx hb dX10_number_101 (by decide) ?_
                refine lv_isub hx hb dX10_number_102 ?_
                refine va_put (D := (dC, dI)) (ci := 10) (v := .int (at__c - 1)) (ty := .int) (C := RX10) (T := TX10) (N := 24) hx hb hts iA_10 tyX10 tyX10_ok nmX10 hown hK hP hD hS 0 rfl rfl 3 (by decide) (hts (.fieldLink RX10 67 "HubTreeModel" "at" "I") (List.mem_cons_of_mem _ m_325)) (fun _ h9 => h9) rfl (by decide +kernel) rfl rfl (Nat.le_of_ble_eq_true rfl) dX10_number_103 (fun H locs hP hD hS => ?_)
                have hP : va_P (dC, dI) vwCl [((bm 0), .inr (10, [.int th, .ref (bm 1), .int tn, .int (at__c - 1), .int wr_c, .ref (bm 2), .ref (bm 3), .int rm_, .ref (bm 4), .ref (bm 5), .int mn, .ref (bm 6), .ref (bm 7), .int sn, .ref (bm 8), .ref (bm 9), .ref (bm 10), .int ac, .long dn, .ref (bm 11), .ref (bm 12), .ref (bm 13), .ref (bm 14), .int hi])), ((bm 1), .inl ((km 1), 240, .inl tp))] H := hP
                have hD : va_D A [((bm 0), .inr (10, [.int th, .ref (bm 1), .int tn, .int (at__c - 1), .int wr_c, .ref (bm 2), .ref (bm 3), .int rm_, .ref (bm 4), .ref (bm 5), .int mn, .ref (bm 6), .ref (bm 7), .int sn, .ref (bm 8), .ref (bm 9), .ref (bm 10), .int ac, .long dn, .ref (bm 11), .ref (bm 12), .ref (bm 13), .ref (bm 14), .int hi])), ((bm 1), .inl ((km 1), 240, .inl tp))] := hD
                refine lv_aload_n hx hb dX10_number_106 rfl (lv_at hl 2 rfl) ?_
                obtain ⟨o_32, r_33, hG⟩ := q_bi hG
                refine q_gov2 (wr := [((bm 1), .inl ((km 1), 240, .inl tp))]) (va_runV (As := []) (rest := []) ⟨hx, hb, hml, hown, hts⟩ (c_X10_bad l dC dI bm km th tn (at__c - 1) wr_c rm_ mn sn ac hi dn (va_A [((bm 0), .inr (10, [.int th, .ref (bm 1), .int tn, .int (at__c - 1), .int wr_c, .ref (bm 2), .ref (bm 3), .int rm_, .ref (bm 4), .ref (bm 5), .int mn, .ref (bm 6), .ref (bm 7), .int sn, .ref (bm 8), .ref (bm 9), .ref (bm 10), .int ac, .long dn, .ref (bm 11), .ref (bm 12), .ref (bm 13), .ref (bm 14), .int hi]))] H.size) o_32 r_33) (cwV 0 hts (q_gV m_362 m_363 m_364 m_5 m_365) rfl rfl rfl hdV_yX10_bad_0 ⟨Nat.le_of_ble_eq_true rfl, Nat.le_of_ble_eq_true rfl⟩) (q_preWV hK hP hD (q := (RX10, TX10, 24)) (ci := 10) (q0 := 0) rfl rfl [0] (by decide) rfl rfl [] rfl) rfl rfl hl.1 rfl (lv_room (Nat.le_of_ble_eq_true rfl)) dX10_number_107 ⟨Nat.le_of_ble_eq_true rfl, Nat.le_of_ble_eq_true rfl⟩) hK hP hD hS hA [0] [1] rfl rfl (by decide) (by decide) (fun _ H locs _ hP hD hK9 hS => ?_)
                have hP : va_P (dC, dI) vwCl [((bm 0), .inr (10, [.int th, .ref (bm 1), .int tn, .int (at__c - 1), .int (o_32), .ref (bm 2), .ref (bm 3), .int rm_, .ref (bm 4), .ref (bm 5), .int mn, .ref (bm 6), .ref (bm 7), .int sn, .ref (bm 8), .ref (bm 9), .ref (bm 10), .int ac, .long dn, .ref (bm 11), .ref (bm 12), .ref (bm 13), .ref (bm 14), .int hi])), ((bm 1), .inl ((km 1), 240, .inl tp))] H := hP.sub [1, 0] rfl
                have hD : va_D A [((bm 0), .inr (10, [.int th, .ref (bm 1), .int tn, .int (at__c - 1), .int (o_32), .ref (bm 2), .ref (bm 3), .int rm_, .ref (bm 4), .ref (bm 5), .int mn, .ref (bm 6), .ref (bm 7), .int sn, .ref (bm 8), .ref (bm 9), .ref (bm 10), .int ac, .long dn, .ref (bm 11), .ref (bm 12), .ref (bm 13), .ref (bm 14), .int hi])), ((bm 1), .inl ((km 1), 240, .inl tp))] := hD.sub [1, 0] (by decide) rfl
                refine lv_iload hx hb dX10_number_110 (lv_at hl 1 rfl) ?_
                obtain rfl := Option.some.inj hG
                have hP9 := hP.sub (ws' := [((bm 0), .inr (10, [.int th, .ref (bm 1), .int tn, .int (at__c - 1), .int (o_32), .ref (bm 2), .ref (bm 3), .int rm_, .ref (bm 4), .ref (bm 5), .int mn, .ref (bm 6), .ref (bm 7), .int sn, .ref (bm 8), .ref (bm 9), .ref (bm 10), .int ac, .long dn, .ref (bm 11), .ref (bm 12), .ref (bm 13), .ref (bm 14), .int hi])), ((bm 1), .inl ((km 1), 240, .inl tp))]) [0, 1] rfl
                have hD9 := hD.sub (ws' := [((bm 0), .inr (10, [.int th, .ref (bm 1), .int tn, .int (at__c - 1), .int (o_32), .ref (bm 2), .ref (bm 3), .int rm_, .ref (bm 4), .ref (bm 5), .int mn, .ref (bm 6), .ref (bm 7), .int sn, .ref (bm 8), .ref (bm 9), .ref (bm 10), .int ac, .long dn, .ref (bm 11), .ref (bm 12), .ref (bm 13), .ref (bm 14), .int hi])), ((bm 1), .inl ((km 1), 240, .inl tp))]) [0, 1] (by decide) rfl
                have hK9 := hK.sub (tys' := [((km 1), .int)]) [0] rfl
                exact W.iret (v := x4_22) hx hb hr (fun t ht hW => ⟨⟨x4_22, (), rfl, ⟨rfl, trivial⟩, by rw [ht]; exact hP9, va_K.moved hW.alike hK9, hD9⟩, hS.F ht⟩) hS.2.2 dX10_number_112
            · have hG := q_ifn c_28 hG
              refine lv_aload_n hx hb dX10_number_79 rfl (lv_at hl 2 rfl) ?_
              obtain ⟨o_34, r_35, hG⟩ := q_bi hG
              refine q_gov2 (wr := [((bm 1), .inl ((km 1), 240, .inl tp))]) (va_runV (As := []) (rest := []) ⟨hx, hb, hml, hown, hts⟩ (c_X10_bad l dC dI bm km th tn at__c wr_c rm_ mn sn ac hi dn (va_A [((bm 0), .inr (10, [.int th, .ref (bm 1), .int tn, .int at__c, .int wr_c, .ref (bm 2), .ref (bm 3), .int rm_, .ref (bm 4), .ref (bm 5), .int mn, .ref (bm 6), .ref (bm 7), .int sn, .ref (bm 8), .ref (bm 9), .ref (bm 10), .int ac, .long dn, .ref (bm 11), .ref (bm 12), .ref (bm 13), .ref (bm 14), .int hi]))] H.size) o_34 r_35) (cwV 0 hts (q_gV m_362 m_363 m_364 m_5 m_365) rfl rfl rfl hdV_yX10_bad_0 ⟨Nat.le_of_ble_eq_true rfl, Nat.le_of_ble_eq_true rfl⟩) (q_preWV hK hP hD (q := (RX10, TX10, 24)) (ci := 10) (q0 := 0) rfl rfl [0] (by decide) rfl rfl [] rfl) rfl rfl hl.1 rfl (lv_room (Nat.le_of_ble_eq_true rfl)) dX10_number_80 ⟨Nat.le_of_ble_eq_true rfl, Nat.le_of_ble_eq_true rfl⟩) hK hP hD hS hA [0] [1] rfl rfl (by decide) (by decide) (fun _ H locs _ hP hD hK9 hS => ?_)
              have hP : va_P (dC, dI) vwCl [((bm 0), .inr (10, [.int th, .ref (bm 1), .int tn, .int at__c, .int (o_34), .ref (bm 2), .ref (bm 3), .int rm_, .ref (bm 4), .ref (bm 5), .int mn, .ref (bm 6), .ref (bm 7), .int sn, .ref (bm 8), .ref (bm 9), .ref (bm 10), .int ac, .long dn, .ref (bm 11), .ref (bm 12), .ref (bm 13), .ref (bm 14), .int hi])), ((bm 1), .inl ((km 1), 240, .inl tp))] H := hP.sub [1, 0] rfl
              have hD : va_D A [((bm 0), .inr (10, [.int th, .ref (bm 1), .int tn, .int at__c, .int (o_34), .ref (bm 2), .ref (bm 3), .int rm_, .ref (bm 4), .ref (bm 5), .int mn, .ref (bm 6), .ref (bm 7), .int sn, .ref (bm 8), .ref (bm 9), .ref (bm 10), .int ac, .long dn, .ref (bm 11), .ref (bm 12), .ref (bm 13), .ref (bm 14), .int hi])), ((bm 1), .inl ((km 1), 240, .inl tp))] := hD.sub [1, 0] (by decide) rfl
              refine lv_goto (tgt := 110) hx hb dX10_number_83 (by decide) ?_
              refine lv_iload hx hb dX10_number_110 (lv_at hl 1 rfl) ?_
              obtain rfl := Option.some.inj hG
              have hP9 := hP.sub (ws' := [((bm 0), .inr (10, [.int th, .ref (bm 1), .int tn, .int at__c, .int (o_34), .ref (bm 2), .ref (bm 3), .int rm_, .ref (bm 4), .ref (bm 5), .int mn, .ref (bm 6), .ref (bm 7), .int sn, .ref (bm 8), .ref (bm 9), .ref (bm 10), .int ac, .long dn, .ref (bm 11), .ref (bm 12), .ref (bm 13), .ref (bm 14), .int hi])), ((bm 1), .inl ((km 1), 240, .inl tp))]) [0, 1] rfl
              have hD9 := hD.sub (ws' := [((bm 0), .inr (10, [.int th, .ref (bm 1), .int tn, .int at__c, .int (o_34), .ref (bm 2), .ref (bm 3), .int rm_, .ref (bm 4), .ref (bm 5), .int mn, .ref (bm 6), .ref (bm 7), .int sn, .ref (bm 8), .ref (bm 9), .ref (bm 10), .int ac, .long dn, .ref (bm 11), .ref (bm 12), .ref (bm 13), .ref (bm 14), .int hi])), ((bm 1), .inl ((km 1), 240, .inl tp))]) [0, 1] (by decide) rfl
              have hK9 := hK.sub (tys' := [((km 1), .int)]) [0] rfl
              exact W.iret (v := x4_22) hx hb hr (fun t ht hW => ⟨⟨x4_22, (), rfl, ⟨rfl, trivial⟩, by rw [ht]; exact hP9, va_K.moved hW.alike hK9, hD9⟩, hS.F ht⟩) hS.2.2 dX10_number_112
          · have hG := q_ifn c_23 hG
            refine lv_bipush (v := 10) hx hb dX10_number_38 (by decide) ?_
            refine lv_iload hx hb dX10_number_40 (lv_at hl 1 rfl) ?_
            refine lv_imul hx hb dX10_number_42 ?_
            refine lv_aload_n hx hb dX10_number_43 rfl (lv_at hl 2 rfl) ?_
            obtain ⟨o_36, r_37, hG⟩ := q_bi hG
            refine q_goi (v := o_36) (va_runV (As := []) (rest := [.int (10 * x4_22)]) ⟨hx, hb, hml, hown, hts⟩ (c_X10_here l dC dI bm km th tn at__c wr_c rm_ mn sn ac hi dn tp o_36 r_37) (cwV 0 hts (q_gV m_335 m_336 m_337 m_5 m_338) rfl rfl rfl hdV_yX10_here_0 ⟨Nat.le_of_ble_eq_true rfl, Nat.le_of_ble_eq_true rfl⟩) (q_preV hK hP (q := (RX10, TX10, 24)) (ci := 10) (q0 := 0) rfl rfl [0, 1] rfl [0] rfl) rfl rfl hl.1 rfl (lv_room (Nat.le_of_ble_eq_true rfl)) dX10_number_44 ⟨Nat.le_of_ble_eq_true rfl, Nat.le_of_ble_eq_true rfl⟩) hP hS (fun H locs hP hS => ?_)
            refine lv_iadd hx hb dX10_number_47 ?_
            refine lv_bipush (v := 48) hx hb dX10_number_48 (by decide) ?_
            refine lv_isub hx hb dX10_number_50 ?_
            refine lv_istore (lv' := [(4, .int (((10 * x4_22) + o_36) - 48)), (5, .int x5_22), (0, .ref (bm 0)), (1, .int z1), (2, .int z2), (3, .int z3)]) hx hb dX10_number_51 hl (by decide) rfl (fun ls hl => ?_)
            refine lv_aload_n hx hb dX10_number_53 rfl (lv_at hl 2 rfl) ?_
            refine lv_dup hx hb dX10_number_54 rfl ?_
            refine va_get (D := (dC, dI)) (ci := 10) (v := .int at__c) (C := RX10) (T := TX10) (N := 24) hx hb hts iA_10 hown hK hP 0 rfl rfl 3 (by decide) (hts (.fieldLink RX10 67 "HubTreeModel" "at" "I") (List.mem_cons_of_mem _ m_325)) (fun _ h9 => h9) rfl dX10_number_55 ?_
            refine lv_iconst (v := 1) hx hb dX10_number_58 (by decide) ?_
            refine lv_iadd hx hb dX10_number_59 ?_
            refine va_put (D := (dC, dI)) (ci := 10) (v := .int (at__c + 1)) (ty := .int) (C := RX10) (T := TX10) (N := 24) hx hb hts iA_10 tyX10 tyX10_ok nmX10 hown hK hP hD hS 0 rfl rfl 3 (by decide) (hts (.fieldLink RX10 67 "HubTreeModel" "at" "I") (List.mem_cons_of_mem _ m_325)) (fun _ h9 => h9) rfl (by decide +kernel) rfl rfl (Nat.le_of_ble_eq_true rfl) dX10_number_60 (fun H locs hP hD hS => ?_)
            have hP : va_P (dC, dI) vwCl [((bm 0), .inr (10, [.int th, .ref (bm 1), .int tn, .int (at__c + 1), .int wr_c, .ref (bm 2), .ref (bm 3), .int rm_, .ref (bm 4), .ref (bm 5), .int mn, .ref (bm 6), .ref (bm 7), .int sn, .ref (bm 8), .ref (bm 9), .ref (bm 10), .int ac, .long dn, .ref (bm 11), .ref (bm 12), .ref (bm 13), .ref (bm 14), .int hi])), ((bm 1), .inl ((km 1), 240, .inl tp))] H := hP
            have hD : va_D A [((bm 0), .inr (10, [.int th, .ref (bm 1), .int tn, .int (at__c + 1), .int wr_c, .ref (bm 2), .ref (bm 3), .int rm_, .ref (bm 4), .ref (bm 5), .int mn, .ref (bm 6), .ref (bm 7), .int sn, .ref (bm 8), .ref (bm 9), .ref (bm 10), .int ac, .long dn, .ref (bm 11), .ref (bm 12), .ref (bm 13), .ref (bm 14), .int hi])), ((bm 1), .inl ((km 1), 240, .inl tp))] := hD
            refine lv_iinc (v := (x5_22 + 1)) (lv' := [(5, .int (x5_22 + 1)), (4, .int (((10 * x4_22) + o_36) - 48)), (0, .ref (bm 0)), (1, .int z1), (2, .int z2), (3, .int z3)]) hx hb dX10_number_63 hl (k := 1) rfl (rfl) (by decide) rfl (fun ls hl => ?_)
            refine lv_goto (tgt := 22) hx hb dX10_number_66 (by decide) ?_
            exact ih_22 (((10 * x4_22) + o_36) - 48) (x5_22 + 1) (at__c + 1) wr_c H locs ls hG hP hD hS (lv_sub hl [0, 1, 2, 3, 4, 5] rfl)
    exact L_22 1000 0 0 (o_1.2) wr H locs ls hG hP hD hS hl
  · have hG := q_ifp c_5 hG
    refine lv_aload_n hx hb dX10_number_10 rfl (lv_at hl 0 rfl) ?_
    obtain ⟨o_38, r_39, hG⟩ := q_bi hG
    refine q_gov2 (wr := [((bm 1), .inl ((km 1), 240, .inl tp))]) (va_runV (As := []) (rest := []) ⟨hx, hb, hml, hown, hts⟩ (c_X10_bad l dC dI bm km th tn (o_1.2) wr rm_ mn sn ac hi dn (va_A [((bm 0), .inr (10, [.int th, .ref (bm 1), .int tn, .int (o_1.2), .int wr, .ref (bm 2), .ref (bm 3), .int rm_, .ref (bm 4), .ref (bm 5), .int mn, .ref (bm 6), .ref (bm 7), .int sn, .ref (bm 8), .ref (bm 9), .ref (bm 10), .int ac, .long dn, .ref (bm 11), .ref (bm 12), .ref (bm 13), .ref (bm 14), .int hi]))] H.size) o_38 r_39) (cwV 0 hts (q_gV m_362 m_363 m_364 m_5 m_365) rfl rfl rfl hdV_yX10_bad_0 ⟨Nat.le_of_ble_eq_true rfl, Nat.le_of_ble_eq_true rfl⟩) (q_preWV hK hP hD (q := (RX10, TX10, 24)) (ci := 10) (q0 := 0) rfl rfl [0] (by decide) rfl rfl [] rfl) rfl rfl hl.1 rfl (lv_room (Nat.le_of_ble_eq_true rfl)) dX10_number_11 ⟨Nat.le_of_ble_eq_true rfl, Nat.le_of_ble_eq_true rfl⟩) hK hP hD hS hA [0] [1] rfl rfl (by decide) (by decide) (fun _ H locs _ hP hD hK9 hS => ?_)
    have hP : va_P (dC, dI) vwCl [((bm 0), .inr (10, [.int th, .ref (bm 1), .int tn, .int (o_1.2), .int (o_38), .ref (bm 2), .ref (bm 3), .int rm_, .ref (bm 4), .ref (bm 5), .int mn, .ref (bm 6), .ref (bm 7), .int sn, .ref (bm 8), .ref (bm 9), .ref (bm 10), .int ac, .long dn, .ref (bm 11), .ref (bm 12), .ref (bm 13), .ref (bm 14), .int hi])), ((bm 1), .inl ((km 1), 240, .inl tp))] H := hP.sub [1, 0] rfl
    have hD : va_D A [((bm 0), .inr (10, [.int th, .ref (bm 1), .int tn, .int (o_1.2), .int (o_38), .ref (bm 2), .ref (bm 3), .int rm_, .ref (bm 4), .ref (bm 5), .int mn, .ref (bm 6), .ref (bm 7), .int sn, .ref (bm 8), .ref (bm 9), .ref (bm 10), .int ac, .long dn, .ref (bm 11), .ref (bm 12), .ref (bm 13), .ref (bm 14), .int hi])), ((bm 1), .inl ((km 1), 240, .inl tp))] := hD.sub [1, 0] (by decide) rfl
    refine lv_iload_n hx hb dX10_number_14 rfl (lv_at hl 2 rfl) ?_
    obtain rfl := Option.some.inj hG
    have hP9 := hP.sub (ws' := [((bm 0), .inr (10, [.int th, .ref (bm 1), .int tn, .int (o_1.2), .int (o_38), .ref (bm 2), .ref (bm 3), .int rm_, .ref (bm 4), .ref (bm 5), .int mn, .ref (bm 6), .ref (bm 7), .int sn, .ref (bm 8), .ref (bm 9), .ref (bm 10), .int ac, .long dn, .ref (bm 11), .ref (bm 12), .ref (bm 13), .ref (bm 14), .int hi])), ((bm 1), .inl ((km 1), 240, .inl tp))]) [0, 1] rfl
    have hD9 := hD.sub (ws' := [((bm 0), .inr (10, [.int th, .ref (bm 1), .int tn, .int (o_1.2), .int (o_38), .ref (bm 2), .ref (bm 3), .int rm_, .ref (bm 4), .ref (bm 5), .int mn, .ref (bm 6), .ref (bm 7), .int sn, .ref (bm 8), .ref (bm 9), .ref (bm 10), .int ac, .long dn, .ref (bm 11), .ref (bm 12), .ref (bm 13), .ref (bm 14), .int hi])), ((bm 1), .inl ((km 1), 240, .inl tp))]) [0, 1] (by decide) rfl
    have hK9 := hK.sub (tys' := [((km 1), .int)]) [0] rfl
    exact W.iret (v := z2) hx hb hr (fun t ht hW => ⟨⟨z2, (), rfl, ⟨rfl, trivial⟩, by rw [ht]; exact hP9, va_K.moved hW.alike hK9, hD9⟩, hS.F ht⟩) hS.2.2 dX10_number_15

def FL_X10_items_s_41 (tn : Int32) (at_ : Int32) (wr : Int32) (tp : Nat → Int32) (rr : Nat → Int32) (z1 : Int32) (z3 : Int32) (z4 : Int32) : Nat → Int32 → Int32 → (Int32) → (Int32) → (Nat → Int32) → Option (Int32 × Int32 × (Nat → Int32))
  | 0, _, _, _, _, _ => none
  | n + 1, x5_41, x6_41, at__c, wr_c, rr_c => (if wr_c = (-1) then (if x6_41 = (-1) then some (at__c, wr_c, rr_c) else ((F_X10_has x5_41 x6_41).bind fun o_8 => (if o_8 = 0 then ((F_X10_lowest z1 x6_41).bind fun o_11 => ((F_X10_highest z1 x6_41).bind fun o_13 => ((F_X10_number tn (at__c + 1) wr_c tp 3 o_11 o_13).bind fun o_15 => (if (z3 + x6_41) < 0 ∨ 8 ≤ ((z3 + x6_41)).toNatClampNeg then none else (if (o_15.2.2) = (-1) then ((F_X10_ahead tn (o_15.2.1) tp).bind fun o_19 => ((F_X10_itemOf z1 o_19.1).bind fun o_21 => (FL_X10_items_s_41 tn at_ wr tp rr z1 z3 z4 n (x5_41 ||| (1 <<< (x6_41 &&& 31))) o_21 (o_19.2) (o_15.2.2) (upd rr_c (z3 + x6_41).toNatClampNeg o_15.1)))) else (FL_X10_items_s_41 tn at_ wr tp rr z1 z3 z4 n (x5_41 ||| (1 <<< (x6_41 &&& 31))) (-1) (o_15.2.1) (o_15.2.2) (upd rr_c (z3 + x6_41).toNatClampNeg o_15.1))))))) else some (at__c, wr_c, rr_c)))) else some (at__c, wr_c, rr_c))

def FL_X10_items_s_3 (tn : Int32) (at_ : Int32) (wr : Int32) (tp : Nat → Int32) (rr : Nat → Int32) (z1 : Int32) (z3 : Int32) (z4 : Int32) : Nat → Int32 → (Int32) → (Int32) → (Nat → Int32) → Option (Int32 × Int32 × (Nat → Int32))
  | 0, _, _, _, _ => none
  | n + 1, x5_3, at__c, wr_c, rr_c => (if z4 ≤ x5_3 then ((F_X10_ahead tn at__c tp).bind fun o_2 => ((F_X10_itemOf z1 o_2.1).bind fun o_4 => (FL_X10_items_s_41 tn at_ wr tp rr z1 z3 z4 1000 0 o_4 (o_2.2) wr_c rr_c))) else ((F_X10_usual z1 x5_3).bind fun o_23 => (if (z3 + x5_3) < 0 ∨ 8 ≤ ((z3 + x5_3)).toNatClampNeg then none else (FL_X10_items_s_3 tn at_ wr tp rr z1 z3 z4 n (x5_3 + 1) at__c wr_c (upd rr_c (z3 + x5_3).toNatClampNeg o_23)))))

def F_X10_items_s (tn : Int32) (at_ : Int32) (wr : Int32) (tp : Nat → Int32) (rr : Nat → Int32) (z1 : Int32) (z3 : Int32) (z4 : Int32) : Option (Int32 × Int32 × (Nat → Int32)) := (FL_X10_items_s_3 tn at_ wr tp rr z1 z3 z4 1000 0 at_ wr rr)
set_option maxHeartbeats 4000000 in
set_option maxRecDepth 100000 in
theorem c_X10_items_s (l : Launch) (dC : Nat → ClassId) (dI : Nat → Nat → Nat) (bm : Nat → Nat) (km : Nat → ClassId) (th : Int32) (tn : Int32) (at_ : Int32) (wr : Int32) (rm_ : Int32) (mn : Int32) (sn : Int32) (ac : Int32) (hi : Int32) (dn : Int64) (tp : Nat → Int32) (rr : Nat → Int32) (z1 : Int32) (z3 : Int32) (z4 : Int32) (A : Nat → Prop) (o : Int32 × Int32 × (Nat → Int32)) (hG : F_X10_items_s tn at_ wr tp rr z1 z3 z4 = some o) : Met l yX10_items (.code yX10_items cX10_items 7 none :: wA) ({ frames := 3, cells := 0, slots := 0, locals := 65 }) (va_Pc [.ref (bm 0), .int z1, .ref (bm 2), .int z3, .int z4] (q_W (dC, dI) A [((bm 0), .inr (10, [.int th, .ref (bm 1), .int tn, .int at_, .int wr, .ref (bm 2), .ref (bm 3), .int rm_, .ref (bm 4), .ref (bm 5), .int mn, .ref (bm 6), .ref (bm 7), .int sn, .ref (bm 8), .ref (bm 9), .ref (bm 10), .int ac, .long dn, .ref (bm 11), .ref (bm 12), .ref (bm 13), .ref (bm 14), .int hi])), ((bm 1), .inl ((km 1), 240, .inl tp)), ((bm 2), .inl ((km 2), 8, .inl rr))] [((km 1), .int), ((km 2), .int)])) (va_Qv (fun _ : Unit => True) (fun (_ : Unit) t => q_B (dC, dI) A [((bm 0), .inr (10, [.int th, .ref (bm 1), .int tn, .int (o.1), .int (o.2.1), .ref (bm 2), .ref (bm 3), .int rm_, .ref (bm 4), .ref (bm 5), .int mn, .ref (bm 6), .ref (bm 7), .int sn, .ref (bm 8), .ref (bm 9), .ref (bm 10), .int ac, .long dn, .ref (bm 11), .ref (bm 12), .ref (bm 13), .ref (bm 14), .int hi])), ((bm 1), .inl ((km 1), 240, .inl tp)), ((bm 2), .inl ((km 2), 8, .inl (o.2.2)))] [((km 1), .int), ((km 2), .int)] t) A) 0 0 A := by
  refine Met.ofW (cc := cX10_items) (maxL := 7) (ret := none) (by decide) rfl ?_
  intro p e s m args below meth c s₁ B hml hv
  obtain ⟨rfl, hP, hK, hD, hA⟩ := hv
  have hx := B.exec
  have hb := B.bytes
  have hr := B.returns
  have hts := atoms_spec (ws := .code yX10_items cX10_items 7 none :: wA) B.pre
  have hown : s.vm.findClass RX10 = some m.cls := findClass_of_methodNamed B.named
  have hlocks := B.notSynchronized
  have hS : va_S A s.heap s.heap [] := va_S.rf
  have hl := lv_entry ([.ref (bm 0), .int z1, .ref (bm 2), .int z3, .int z4]) (n := 7) (Nat.le_of_ble_eq_true rfl)
  rw [lg_entry_eq]
  generalize (lg_sl ([.ref (bm 0), .int z1, .ref (bm 2), .int z3, .int z4]) ++ List.replicate (7 - (lg_sl ([.ref (bm 0), .int z1, .ref (bm 2), .int z3, .int z4])).length) Slot.unset).toArray = ls at hl ⊢
  have hl : lv_has ls 7 [(0, .ref (bm 0)), (1, .int z1), (2, .ref (bm 2)), (3, .int z3), (4, .int z4)] := hl
  unfold F_X10_items_s at hG
  refine lv_iconst (v := 0) hx hb dX10_items_0 (by decide) ?_
  refine lv_istore (lv' := [(5, .int 0), (0, .ref (bm 0)), (1, .int z1), (2, .ref (bm 2)), (3, .int z3), (4, .int z4)]) hx hb dX10_items_1 hl (by decide) rfl (fun ls hl => ?_)
  have L_3 : ∀ (n_3 : Nat) (x5_3 : Int32) (at__c : Int32) (wr_c : Int32) (rr_c : Nat → Int32) (H : Heap) (locs : List Loc) (ls : Array Slot), FL_X10_items_s_3 tn at_ wr tp rr z1 z3 z4 n_3 x5_3 at__c wr_c rr_c = some o → va_P (dC, dI) vwCl [((bm 0), .inr (10, [.int th, .ref (bm 1), .int tn, .int at__c, .int wr_c, .ref (bm 2), .ref (bm 3), .int rm_, .ref (bm 4), .ref (bm 5), .int mn, .ref (bm 6), .ref (bm 7), .int sn, .ref (bm 8), .ref (bm 9), .ref (bm 10), .int ac, .long dn, .ref (bm 11), .ref (bm 12), .ref (bm 13), .ref (bm 14), .int hi])), ((bm 1), .inl ((km 1), 240, .inl tp)), ((bm 2), .inl ((km 2), 8, .inl rr_c))] H → va_D A [((bm 0), .inr (10, [.int th, .ref (bm 1), .int tn, .int at__c, .int wr_c, .ref (bm 2), .ref (bm 3), .int rm_, .ref (bm 4), .ref (bm 5), .int mn, .ref (bm 6), .ref (bm 7), .int sn, .ref (bm 8), .ref (bm 9), .ref (bm 10), .int ac, .long dn, .ref (bm 11), .ref (bm 12), .ref (bm 13), .ref (bm 14), .int hi])), ((bm 1), .inl ((km 1), 240, .inl tp)), ((bm 2), .inl ((km 2), 8, .inl rr_c))] → va_S A s.heap H locs → lv_has ls 7 [(5, .int x5_3), (0, .ref (bm 0)), (1, .int z1), (2, .ref (bm 2)), (3, .int z3), (4, .int z4)] → W p l e (headSpec (.code yX10_items cX10_items 7 none :: wA) ({ frames := 3, cells := 0, slots := 0, locals := 65 })).room s m #[.ref (bm 0), .int z1, .ref (bm 2), .int z3, .int z4] below meth c H locs 0 0 (MQ below (va_Qv (fun _ : Unit => True) (fun (_ : Unit) t => q_B (dC, dI) A [((bm 0), .inr (10, [.int th, .ref (bm 1), .int tn, .int (o.1), .int (o.2.1), .ref (bm 2), .ref (bm 3), .int rm_, .ref (bm 4), .ref (bm 5), .int mn, .ref (bm 6), .ref (bm 7), .int sn, .ref (bm 8), .ref (bm 9), .ref (bm 10), .int ac, .long dn, .ref (bm 11), .ref (bm 12), .ref (bm 13), .ref (bm 14), .int hi])), ((bm 1), .inl ((km 1), 240, .inl tp)), ((bm 2), .inl ((km 2), 8, .inl (o.2.2)))] [((km 1), .int), ((km 2), .int)] t) A) #[.ref (bm 0), .int z1, .ref (bm 2), .int z3, .int z4] s 0 0 A) (F0 m 3 ls []) := by
    intro n_3
    induction n_3 with
    | zero =>
      intro x5_3 at__c wr_c rr_c H locs ls hG
      exact q_no hG
    | succ n_3 ih_3 =>
      intro x5_3 at__c wr_c rr_c H locs ls hG hP hD hS hl
      unfold FL_X10_items_s_3 at hG
      refine lv_iload hx hb dX10_items_3 (lv_at hl 0 rfl) ?_
      refine lv_iload hx hb dX10_items_5 (lv_at hl 5 rfl) ?_
      refine lv_icmp_ge (tgt := 28) hx hb dX10_items_7 (by decide) (fun c_1 => ?_) (fun c_1 => ?_)
      · have hG := q_ifp c_1 hG
        refine lv_iconst (v := 0) hx hb dX10_items_28 (by decide) ?_
        refine lv_istore (lv' := [(5, .int 0), (0, .ref (bm 0)), (1, .int z1), (2, .ref (bm 2)), (3, .int z3), (4, .int z4)]) hx hb dX10_items_29 hl (by decide) rfl (fun ls hl => ?_)
        refine lv_iload_n hx hb dX10_items_31 rfl (lv_at hl 2 rfl) ?_
        refine lv_aload_n hx hb dX10_items_32 rfl (lv_at hl 1 rfl) ?_
        obtain ⟨o_2, r_3, hG⟩ := q_bi hG
        refine q_goi2 (v := o_2.1) (wr := [((bm 2), .inl ((km 2), 8, .inl rr_c))]) (va_runV (As := []) (rest := [.int z1]) ⟨hx, hb, hml, hown, hts⟩ (c_X10_ahead l dC dI bm km th tn at__c wr_c rm_ mn sn ac hi dn tp (va_A [((bm 0), .inr (10, [.int th, .ref (bm 1), .int tn, .int at__c, .int wr_c, .ref (bm 2), .ref (bm 3), .int rm_, .ref (bm 4), .ref (bm 5), .int mn, .ref (bm 6), .ref (bm 7), .int sn, .ref (bm 8), .ref (bm 9), .ref (bm 10), .int ac, .long dn, .ref (bm 11), .ref (bm 12), .ref (bm 13), .ref (bm 14), .int hi])), ((bm 1), .inl ((km 1), 240, .inl tp))] H.size) o_2 r_3) (cwV 0 hts (q_gV m_331 m_332 m_333 m_5 m_334) rfl rfl rfl hdV_yX10_ahead_0 ⟨Nat.le_of_ble_eq_true rfl, Nat.le_of_ble_eq_true rfl⟩) (q_preWV hK hP hD (q := (RX10, TX10, 24)) (ci := 10) (q0 := 0) rfl rfl [0, 1] (by decide) rfl rfl [0] rfl) rfl rfl hl.1 rfl (lv_room (Nat.le_of_ble_eq_true rfl)) dX10_items_33 ⟨Nat.le_of_ble_eq_true rfl, Nat.le_of_ble_eq_true rfl⟩) hK hP hD hS hA [0, 1] [2] rfl rfl (by decide) (by decide) (fun _ H locs _ hP hD hK9 hS => ?_)
        have hP : va_P (dC, dI) vwCl [((bm 0), .inr (10, [.int th, .ref (bm 1), .int tn, .int (o_2.2), .int wr_c, .ref (bm 2), .ref (bm 3), .int rm_, .ref (bm 4), .ref (bm 5), .int mn, .ref (bm 6), .ref (bm 7), .int sn, .ref (bm 8), .ref (bm 9), .ref (bm 10), .int ac, .long dn, .ref (bm 11), .ref (bm 12), .ref (bm 13), .ref (bm 14), .int hi])), ((bm 1), .inl ((km 1), 240, .inl tp)), ((bm 2), .inl ((km 2), 8, .inl rr_c))] H := hP.sub [1, 2, 0] rfl
        have hD : va_D A [((bm 0), .inr (10, [.int th, .ref (bm 1), .int tn, .int (o_2.2), .int wr_c, .ref (bm 2), .ref (bm 3), .int rm_, .ref (bm 4), .ref (bm 5), .int mn, .ref (bm 6), .ref (bm 7), .int sn, .ref (bm 8), .ref (bm 9), .ref (bm 10), .int ac, .long dn, .ref (bm 11), .ref (bm 12), .ref (bm 13), .ref (bm 14), .int hi])), ((bm 1), .inl ((km 1), 240, .inl tp)), ((bm 2), .inl ((km 2), 8, .inl rr_c))] := hD.sub [1, 2, 0] (by decide) rfl
        obtain ⟨o_4, r_5, hG⟩ := q_bi hG
        refine q_goi (v := o_4) (va_runS (As := [.int z1, .int o_2.1]) (rest := []) ⟨hx, hb, hml, hown, hts⟩ (c_X10_itemOf l dC dI z1 o_2.1 o_4 r_5) (va_cwS 2 hts (q_gS m_343 m_344 m_5 m_345) rfl rfl rfl hdS_yX10_itemOf_2 ⟨Nat.le_of_ble_eq_true rfl, Nat.le_of_ble_eq_true rfl⟩) (q_preS hK hP [] rfl [] rfl) rfl rfl hl.1 rfl (lv_room (Nat.le_of_ble_eq_true rfl)) dX10_items_36 ⟨Nat.le_of_ble_eq_true rfl, Nat.le_of_ble_eq_true rfl⟩) hP hS (fun H locs hP hS => ?_)
        refine lv_istore (lv' := [(6, .int o_4), (5, .int 0), (0, .ref (bm 0)), (1, .int z1), (2, .ref (bm 2)), (3, .int z3), (4, .int z4)]) hx hb dX10_items_39 hl (by decide) rfl (fun ls hl => ?_)
        have L_41 : ∀ (n_41 : Nat) (x5_41 : Int32) (x6_41 : Int32) (at__c : Int32) (wr_c : Int32) (rr_c : Nat → Int32) (H : Heap) (locs : List Loc) (ls : Array Slot), FL_X10_items_s_41 tn at_ wr tp rr z1 z3 z4 n_41 x5_41 x6_41 at__c wr_c rr_c = some o → va_P (dC, dI) vwCl [((bm 0), .inr (10, [.int th, .ref (bm 1), .int tn, .int at__c, .int wr_c, .ref (bm 2), .ref (bm 3), .int rm_, .ref (bm 4), .ref (bm 5), .int mn, .ref (bm 6), .ref (bm 7), .int sn, .ref (bm 8), .ref (bm 9), .ref (bm 10), .int ac, .long dn, .ref (bm 11), .ref (bm 12), .ref (bm 13), .ref (bm 14), .int hi])), ((bm 1), .inl ((km 1), 240, .inl tp)), ((bm 2), .inl ((km 2), 8, .inl rr_c))] H → va_D A [((bm 0), .inr (10, [.int th, .ref (bm 1), .int tn, .int at__c, .int wr_c, .ref (bm 2), .ref (bm 3), .int rm_, .ref (bm 4), .ref (bm 5), .int mn, .ref (bm 6), .ref (bm 7), .int sn, .ref (bm 8), .ref (bm 9), .ref (bm 10), .int ac, .long dn, .ref (bm 11), .ref (bm 12), .ref (bm 13), .ref (bm 14), .int hi])), ((bm 1), .inl ((km 1), 240, .inl tp)), ((bm 2), .inl ((km 2), 8, .inl rr_c))] → va_S A s.heap H locs → lv_has ls 7 [(6, .int x6_41), (5, .int x5_41), (0, .ref (bm 0)), (1, .int z1), (2, .ref (bm 2)), (3, .int z3), (4, .int z4)] → W p l e (headSpec (.code yX10_items cX10_items 7 none :: wA) ({ frames := 3, cells := 0, slots := 0, locals := 65 })).room s m #[.ref (bm 0), .int z1, .ref (bm 2), .int z3, .int z4] below meth c H locs 0 0 (MQ below (va_Qv (fun _ : Unit => True) (fun (_ : Unit) t => q_B (dC, dI) A [((bm 0), .inr (10, [.int th, .ref (bm 1), .int tn, .int (o.1), .int (o.2.1), .ref (bm 2), .ref (bm 3), .int rm_, .ref (bm 4), .ref (bm 5), .int mn, .ref (bm 6), .ref (bm 7), .int sn, .ref (bm 8), .ref (bm 9), .ref (bm 10), .int ac, .long dn, .ref (bm 11), .ref (bm 12), .ref (bm 13), .ref (bm 14), .int hi])), ((bm 1), .inl ((km 1), 240, .inl tp)), ((bm 2), .inl ((km 2), 8, .inl (o.2.2)))] [((km 1), .int), ((km 2), .int)] t) A) #[.ref (bm 0), .int z1, .ref (bm 2), .int z3, .int z4] s 0 0 A) (F0 m 41 ls []) := by
          intro n_41
          induction n_41 with
          | zero =>
            intro x5_41 x6_41 at__c wr_c rr_c H locs ls hG
            exact q_no hG
          | succ n_41 ih_41 =>
            intro x5_41 x6_41 at__c wr_c rr_c H locs ls hG hP hD hS hl
            unfold FL_X10_items_s_41 at hG
            refine lv_aload_n hx hb dX10_items_41 rfl (lv_at hl 2 rfl) ?_
            refine va_get (D := (dC, dI)) (ci := 10) (v := .int wr_c) (C := RX10) (T := TX10) (N := 24) hx hb hts iA_10 hown hK hP 0 rfl rfl 4 (by decide) (hts (.fieldLink RX10 74 "HubTreeModel" "wrong" "I") (List.mem_cons_of_mem _ m_326)) (fun _ h9 => h9) rfl dX10_items_42 ?_
            refine lv_iconst (v := (-1)) hx hb dX10_items_45 (by decide) ?_
            refine lv_icmp_ne (tgt := 132) hx hb dX10_items_46 (by decide) (fun c_6 => ?_) (fun c_6 => ?_)
            · have hG := q_ifn c_6 hG
              obtain rfl := Option.some.inj hG
              have hP9 := hP.sub (ws' := [((bm 0), .inr (10, [.int th, .ref (bm 1), .int tn, .int at__c, .int wr_c, .ref (bm 2), .ref (bm 3), .int rm_, .ref (bm 4), .ref (bm 5), .int mn, .ref (bm 6), .ref (bm 7), .int sn, .ref (bm 8), .ref (bm 9), .ref (bm 10), .int ac, .long dn, .ref (bm 11), .ref (bm 12), .ref (bm 13), .ref (bm 14), .int hi])), ((bm 1), .inl ((km 1), 240, .inl tp)), ((bm 2), .inl ((km 2), 8, .inl rr_c))]) [0, 1, 2] rfl
              have hD9 := hD.sub (ws' := [((bm 0), .inr (10, [.int th, .ref (bm 1), .int tn, .int at__c, .int wr_c, .ref (bm 2), .ref (bm 3), .int rm_, .ref (bm 4), .ref (bm 5), .int mn, .ref (bm 6), .ref (bm 7), .int sn, .ref (bm 8), .ref (bm 9), .ref (bm 10), .int ac, .long dn, .ref (bm 11), .ref (bm 12), .ref (bm 13), .ref (bm 14), .int hi])), ((bm 1), .inl ((km 1), 240, .inl tp)), ((bm 2), .inl ((km 2), 8, .inl rr_c))]) [0, 1, 2] (by decide) rfl
              have hK9 := hK.sub (tys' := [((km 1), .int), ((km 2), .int)]) [0, 1] rfl
              exact W.vret hx hb hr (fun t ht hW => ⟨⟨(), rfl, trivial, by rw [ht]; exact hP9, va_K.moved hW.alike hK9, hD9⟩, hS.F ht⟩) hS.2.2 dX10_items_132
            · have hG := q_ifp c_6 hG
              refine lv_iload hx hb dX10_items_49 (lv_at hl 0 rfl) ?_
              refine lv_iconst (v := (-1)) hx hb dX10_items_51 (by decide) ?_
              refine lv_icmp_eq (tgt := 132) hx hb dX10_items_52 (by decide) (fun c_7 => ?_) (fun c_7 => ?_)
              · have hG := q_ifp c_7 hG
                obtain rfl := Option.some.inj hG
                have hP9 := hP.sub (ws' := [((bm 0), .inr (10, [.int th, .ref (bm 1), .int tn, .int at__c, .int wr_c, .ref (bm 2), .ref (bm 3), .int rm_, .ref (bm 4), .ref (bm 5), .int mn, .ref (bm 6), .ref (bm 7), .int sn, .ref (bm 8), .ref (bm 9), .ref (bm 10), .int ac, .long dn, .ref (bm 11), .ref (bm 12), .ref (bm 13), .ref (bm 14), .int hi])), ((bm 1), .inl ((km 1), 240, .inl tp)), ((bm 2), .inl ((km 2), 8, .inl rr_c))]) [0, 1, 2] rfl
                have hD9 := hD.sub (ws' := [((bm 0), .inr (10, [.int th, .ref (bm 1), .int tn, .int at__c, .int wr_c, .ref (bm 2), .ref (bm 3), .int rm_, .ref (bm 4), .ref (bm 5), .int mn, .ref (bm 6), .ref (bm 7), .int sn, .ref (bm 8), .ref (bm 9), .ref (bm 10), .int ac, .long dn, .ref (bm 11), .ref (bm 12), .ref (bm 13), .ref (bm 14), .int hi])), ((bm 1), .inl ((km 1), 240, .inl tp)), ((bm 2), .inl ((km 2), 8, .inl rr_c))]) [0, 1, 2] (by decide) rfl
                have hK9 := hK.sub (tys' := [((km 1), .int), ((km 2), .int)]) [0, 1] rfl
                exact W.vret hx hb hr (fun t ht hW => ⟨⟨(), rfl, trivial, by rw [ht]; exact hP9, va_K.moved hW.alike hK9, hD9⟩, hS.F ht⟩) hS.2.2 dX10_items_132
              · have hG := q_ifn c_7 hG
                refine lv_iload hx hb dX10_items_55 (lv_at hl 1 rfl) ?_
                refine lv_iload hx hb dX10_items_57 (lv_at hl 0 rfl) ?_
                obtain ⟨o_8, r_9, hG⟩ := q_bi hG
                refine q_goi (v := o_8) (va_runS (As := [.int x5_41, .int x6_41]) (rest := []) ⟨hx, hb, hml, hown, hts⟩ (c_X10_has l dC dI x5_41 x6_41 o_8 r_9) (va_cwS 2 hts (q_gS m_346 m_347 m_5 m_348) rfl rfl rfl hdS_yX10_has_2 ⟨Nat.le_of_ble_eq_true rfl, Nat.le_of_ble_eq_true rfl⟩) (q_preS hK hP [] rfl [] rfl) rfl rfl hl.1 rfl (lv_room (Nat.le_of_ble_eq_true rfl)) dX10_items_59 ⟨Nat.le_of_ble_eq_true rfl, Nat.le_of_ble_eq_true rfl⟩) hP hS (fun H locs hP hS => ?_)
                refine lv_if_ne (tgt := 132) hx hb dX10_items_62 (by decide) (fun c_10 => ?_) (fun c_10 => ?_)
                · have hG := q_ifn c_10 hG
                  obtain rfl := Option.some.inj hG
                  have hP9 := hP.sub (ws' := [((bm 0), .inr (10, [.int th, .ref (bm 1), .int tn, .int at__c, .int wr_c, .ref (bm 2), .ref (bm 3), .int rm_, .ref (bm 4), .ref (bm 5), .int mn, .ref (bm 6), .ref (bm 7), .int sn, .ref (bm 8), .ref (bm 9), .ref (bm 10), .int ac, .long dn, .ref (bm 11), .ref (bm 12), .ref (bm 13), .ref (bm 14), .int hi])), ((bm 1), .inl ((km 1), 240, .inl tp)), ((bm 2), .inl ((km 2), 8, .inl rr_c))]) [0, 1, 2] rfl
                  have hD9 := hD.sub (ws' := [((bm 0), .inr (10, [.int th, .ref (bm 1), .int tn, .int at__c, .int wr_c, .ref (bm 2), .ref (bm 3), .int rm_, .ref (bm 4), .ref (bm 5), .int mn, .ref (bm 6), .ref (bm 7), .int sn, .ref (bm 8), .ref (bm 9), .ref (bm 10), .int ac, .long dn, .ref (bm 11), .ref (bm 12), .ref (bm 13), .ref (bm 14), .int hi])), ((bm 1), .inl ((km 1), 240, .inl tp)), ((bm 2), .inl ((km 2), 8, .inl rr_c))]) [0, 1, 2] (by decide) rfl
                  have hK9 := hK.sub (tys' := [((km 1), .int), ((km 2), .int)]) [0, 1] rfl
                  exact W.vret hx hb hr (fun t ht hW => ⟨⟨(), rfl, trivial, by rw [ht]; exact hP9, va_K.moved hW.alike hK9, hD9⟩, hS.F ht⟩) hS.2.2 dX10_items_132
                · have hG := q_ifp c_10 hG
                  refine lv_iload hx hb dX10_items_65 (lv_at hl 1 rfl) ?_
                  refine lv_iconst (v := 1) hx hb dX10_items_67 (by decide) ?_
                  refine lv_iload hx hb dX10_items_68 (lv_at hl 0 rfl) ?_
                  refine lv_ishl hx hb dX10_items_70 ?_
                  refine lv_ior hx hb dX10_items_71 ?_
                  refine lv_istore (lv' := [(5, .int (x5_41 ||| (1 <<< (x6_41 &&& 31)))), (6, .int x6_41), (0, .ref (bm 0)), (1, .int z1), (2, .ref (bm 2)), (3, .int z3), (4, .int z4)]) hx hb dX10_items_72 hl (by decide) rfl (fun ls hl => ?_)
                  refine lv_aload_n hx hb dX10_items_74 rfl (lv_at hl 2 rfl) ?_
                  refine lv_dup hx hb dX10_items_75 rfl ?_
                  refine va_get (D := (dC, dI)) (ci := 10) (v := .int at__c) (C := RX10) (T := TX10) (N := 24) hx hb hts iA_10 hown hK hP 0 rfl rfl 3 (by decide) (hts (.fieldLink RX10 67 "HubTreeModel" "at" "I") (List.mem_cons_of_mem _ m_325)) (fun _ h9 => h9) rfl dX10_items_76 ?_
                  refine lv_iconst (v := 1) hx hb dX10_items_79 (by decide) ?_
                  refine lv_iadd hx hb dX10_items_80 ?_
                  refine va_put (D := (dC, dI)) (ci := 10) (v := .int (at__c + 1)) (ty := .int) (C := RX10) (T := TX10) (N := 24) hx hb hts iA_10 tyX10 tyX10_ok nmX10 hown hK hP hD hS 0 rfl rfl 3 (by decide) (hts (.fieldLink RX10 67 "HubTreeModel" "at" "I") (List.mem_cons_of_mem _ m_325)) (fun _ h9 => h9) rfl (by decide +kernel) rfl rfl (Nat.le_of_ble_eq_true rfl) dX10_items_81 (fun H locs hP hD hS => ?_)
                  have hP : va_P (dC, dI) vwCl [((bm 0), .inr (10, [.int th, .ref (bm 1), .int tn, .int (at__c + 1), .int wr_c, .ref (bm 2), .ref (bm 3), .int rm_, .ref (bm 4), .ref (bm 5), .int mn, .ref (bm 6), .ref (bm 7), .int sn, .ref (bm 8), .ref (bm 9), .ref (bm 10), .int ac, .long dn, .ref (bm 11), .ref (bm 12), .ref (bm 13), .ref (bm 14), .int hi])), ((bm 1), .inl ((km 1), 240, .inl tp)), ((bm 2), .inl ((km 2), 8, .inl rr_c))] H := hP
                  have hD : va_D A [((bm 0), .inr (10, [.int th, .ref (bm 1), .int tn, .int (at__c + 1), .int wr_c, .ref (bm 2), .ref (bm 3), .int rm_, .ref (bm 4), .ref (bm 5), .int mn, .ref (bm 6), .ref (bm 7), .int sn, .ref (bm 8), .ref (bm 9), .ref (bm 10), .int ac, .long dn, .ref (bm 11), .ref (bm 12), .ref (bm 13), .ref (bm 14), .int hi])), ((bm 1), .inl ((km 1), 240, .inl tp)), ((bm 2), .inl ((km 2), 8, .inl rr_c))] := hD
                  refine lv_aload_n hx hb dX10_items_84 rfl (lv_at hl 4 rfl) ?_
                  refine lv_iload_n hx hb dX10_items_85 rfl (lv_at hl 5 rfl) ?_
                  refine lv_iload hx hb dX10_items_86 (lv_at hl 1 rfl) ?_
                  refine lv_iadd hx hb dX10_items_88 ?_
                  refine lv_aload_n hx hb dX10_items_89 rfl (lv_at hl 2 rfl) ?_
                  refine lv_iconst (v := 3) hx hb dX10_items_90 (by decide) ?_
                  refine lv_iload_n hx hb dX10_items_91 rfl (lv_at hl 3 rfl) ?_
                  refine lv_iload hx hb dX10_items_92 (lv_at hl 1 rfl) ?_
                  obtain ⟨o_11, r_12, hG⟩ := q_bi hG
                  refine q_goi (v := o_11) (va_runS (As := [.int z1, .int x6_41]) (rest := [.int 3, .ref (bm 0), .int (z3 + x6_41), .ref (bm 2)]) ⟨hx, hb, hml, hown, hts⟩ (c_X10_lowest l dC dI z1 x6_41 o_11 r_12) (va_cwS 2 hts (q_gS m_349 m_350 m_5 m_351) rfl rfl rfl hdS_yX10_lowest_2 ⟨Nat.le_of_ble_eq_true rfl, Nat.le_of_ble_eq_true rfl⟩) (q_preS hK hP [] rfl [] rfl) rfl rfl hl.1 rfl (lv_room (Nat.le_of_ble_eq_true rfl)) dX10_items_94 ⟨Nat.le_of_ble_eq_true rfl, Nat.le_of_ble_eq_true rfl⟩) hP hS (fun H locs hP hS => ?_)
                  refine lv_iload_n hx hb dX10_items_97 rfl (lv_at hl 3 rfl) ?_
                  refine lv_iload hx hb dX10_items_98 (lv_at hl 1 rfl) ?_
                  obtain ⟨o_13, r_14, hG⟩ := q_bi hG
                  refine q_goi (v := o_13) (va_runS (As := [.int z1, .int x6_41]) (rest := [.int o_11, .int 3, .ref (bm 0), .int (z3 + x6_41), .ref (bm 2)]) ⟨hx, hb, hml, hown, hts⟩ (c_X10_highest l dC dI z1 x6_41 o_13 r_14) (va_cwS 2 hts (q_gS m_352 m_353 m_5 m_354) rfl rfl rfl hdS_yX10_highest_2 ⟨Nat.le_of_ble_eq_true rfl, Nat.le_of_ble_eq_true rfl⟩) (q_preS hK hP [] rfl [] rfl) rfl rfl hl.1 rfl (lv_room (Nat.le_of_ble_eq_true rfl)) dX10_items_100 ⟨Nat.le_of_ble_eq_true rfl, Nat.le_of_ble_eq_true rfl⟩) hP hS (fun H locs hP hS => ?_)
                  obtain ⟨o_15, r_16, hG⟩ := q_bi hG
                  refine q_goi2 (v := o_15.1) (wr := [((bm 2), .inl ((km 2), 8, .inl rr_c))]) (va_runV (As := [.int 3, .int o_11, .int o_13]) (rest := [.int (z3 + x6_41), .ref (bm 2)]) ⟨hx, hb, hml, hown, hts⟩ (c_X10_number l dC dI bm km th tn (at__c + 1) wr_c rm_ mn sn ac hi dn tp 3 o_11 o_13 (va_A [((bm 0), .inr (10, [.int th, .ref (bm 1), .int tn, .int (at__c + 1), .int wr_c, .ref (bm 2), .ref (bm 3), .int rm_, .ref (bm 4), .ref (bm 5), .int mn, .ref (bm 6), .ref (bm 7), .int sn, .ref (bm 8), .ref (bm 9), .ref (bm 10), .int ac, .long dn, .ref (bm 11), .ref (bm 12), .ref (bm 13), .ref (bm 14), .int hi])), ((bm 1), .inl ((km 1), 240, .inl tp))] H.size) o_15 r_16) (cwV 3 hts (q_gV m_355 m_356 m_357 m_5 m_358) rfl rfl rfl hdV_yX10_number_3 ⟨Nat.le_of_ble_eq_true rfl, Nat.le_of_ble_eq_true rfl⟩) (q_preWV hK hP hD (q := (RX10, TX10, 24)) (ci := 10) (q0 := 0) rfl rfl [0, 1] (by decide) rfl rfl [0] rfl) rfl rfl hl.1 rfl (lv_room (Nat.le_of_ble_eq_true rfl)) dX10_items_103 ⟨Nat.le_of_ble_eq_true rfl, Nat.le_of_ble_eq_true rfl⟩) hK hP hD hS hA [0, 1] [2] rfl rfl (by decide) (by decide) (fun _ H locs _ hP hD hK9 hS => ?_)
                  have hP : va_P (dC, dI) vwCl [((bm 0), .inr (10, [.int th, .ref (bm 1), .int tn, .int (o_15.2.1), .int (o_15.2.2), .ref (bm 2), .ref (bm 3), .int rm_, .ref (bm 4), .ref (bm 5), .int mn, .ref (bm 6), .ref (bm 7), .int sn, .ref (bm 8), .ref (bm 9), .ref (bm 10), .int ac, .long dn, .ref (bm 11), .ref (bm 12), .ref (bm 13), .ref (bm 14), .int hi])), ((bm 1), .inl ((km 1), 240, .inl tp)), ((bm 2), .inl ((km 2), 8, .inl rr_c))] H := hP.sub [1, 2, 0] rfl
                  have hD : va_D A [((bm 0), .inr (10, [.int th, .ref (bm 1), .int tn, .int (o_15.2.1), .int (o_15.2.2), .ref (bm 2), .ref (bm 3), .int rm_, .ref (bm 4), .ref (bm 5), .int mn, .ref (bm 6), .ref (bm 7), .int sn, .ref (bm 8), .ref (bm 9), .ref (bm 10), .int ac, .long dn, .ref (bm 11), .ref (bm 12), .ref (bm 13), .ref (bm 14), .int hi])), ((bm 1), .inl ((km 1), 240, .inl tp)), ((bm 2), .inl ((km 2), 8, .inl rr_c))] := hD.sub [1, 2, 0] (by decide) rfl
                  obtain ⟨h_17, hG⟩ := q_ix hG
                  refine va_iast hx hb hK hP hD hS 2 1 rfl rfl (i := (z3 + x6_41)) (x := o_15.1) h_17 dX10_items_106 (fun H locs hP hD hS => ?_)
                  have hP : va_P (dC, dI) vwCl [((bm 0), .inr (10, [.int th, .ref (bm 1), .int tn, .int (o_15.2.1), .int (o_15.2.2), .ref (bm 2), .ref (bm 3), .int rm_, .ref (bm 4), .ref (bm 5), .int mn, .ref (bm 6), .ref (bm 7), .int sn, .ref (bm 8), .ref (bm 9), .ref (bm 10), .int ac, .long dn, .ref (bm 11), .ref (bm 12), .ref (bm 13), .ref (bm 14), .int hi])), ((bm 1), .inl ((km 1), 240, .inl tp)), ((bm 2), .inl ((km 2), 8, .inl (upd rr_c (z3 + x6_41).toNatClampNeg o_15.1)))] H := hP
                  have hD : va_D A [((bm 0), .inr (10, [.int th, .ref (bm 1), .int tn, .int (o_15.2.1), .int (o_15.2.2), .ref (bm 2), .ref (bm 3), .int rm_, .ref (bm 4), .ref (bm 5), .int mn, .ref (bm 6), .ref (bm 7), .int sn, .ref (bm 8), .ref (bm 9), .ref (bm 10), .int ac, .long dn, .ref (bm 11), .ref (bm 12), .ref (bm 13), .ref (bm 14), .int hi])), ((bm 1), .inl ((km 1), 240, .inl tp)), ((bm 2), .inl ((km 2), 8, .inl (upd rr_c (z3 + x6_41).toNatClampNeg o_15.1)))] := hD
                  refine lv_aload_n hx hb dX10_items_107 rfl (lv_at hl 2 rfl) ?_
                  refine va_get (D := (dC, dI)) (ci := 10) (v := .int (o_15.2.2)) (C := RX10) (T := TX10) (N := 24) hx hb hts iA_10 hown hK hP 0 rfl rfl 4 (by decide) (hts (.fieldLink RX10 74 "HubTreeModel" "wrong" "I") (List.mem_cons_of_mem _ m_326)) (fun _ h9 => h9) rfl dX10_items_108 ?_
                  refine lv_iconst (v := (-1)) hx hb dX10_items_111 (by decide) ?_
                  refine lv_icmp_ne (tgt := 126) hx hb dX10_items_112 (by decide) (fun c_18 => ?_) (fun c_18 => ?_)
                  · have hG := q_ifn c_18 hG
                    refine lv_iconst (v := (-1)) hx hb dX10_items_126 (by decide) ?_
                    refine lv_istore (lv' := [(6, .int (-1)), (5, .int (x5_41 ||| (1 <<< (x6_41 &&& 31)))), (0, .ref (bm 0)), (1, .int z1), (2, .ref (bm 2)), (3, .int z3), (4, .int z4)]) hx hb dX10_items_127 hl (by decide) rfl (fun ls hl => ?_)
                    refine lv_goto (tgt := 41) hx hb dX10_items_129 (by decide) ?_
                    exact ih_41 (x5_41 ||| (1 <<< (x6_41 &&& 31))) (-1) (o_15.2.1) (o_15.2.2) (upd rr_c (z3 + x6_41).toNatClampNeg o_15.1) H locs ls hG hP hD hS (lv_sub hl [0, 1, 2, 3, 4, 5, 6] rfl)
                  · have hG := q_ifp c_18 hG
                    refine lv_iload_n hx hb dX10_items_115 rfl (lv_at hl 3 rfl) ?_
                    refine lv_aload_n hx hb dX10_items_116 rfl (lv_at hl 2 rfl) ?_
                    obtain ⟨o_19, r_20, hG⟩ := q_bi hG
                    refine q_goi2 (v := o_19.1) (wr := [((bm 2), .inl ((km 2), 8, .inl (upd rr_c (z3 + x6_41).toNatClampNeg o_15.1)))]) (va_runV (As := []) (rest := [.int z1]) ⟨hx, hb, hml, hown, hts⟩ (c_X10_ahead l dC dI bm km th tn (o_15.2.1) (o_15.2.2) rm_ mn sn ac hi dn tp (va_A [((bm 0), .inr (10, [.int th, .ref (bm 1), .int tn, .int (o_15.2.1), .int (o_15.2.2), .ref (bm 2), .ref (bm 3), .int rm_, .ref (bm 4), .ref (bm 5), .int mn, .ref (bm 6), .ref (bm 7), .int sn, .ref (bm 8), .ref (bm 9), .ref (bm 10), .int ac, .long dn, .ref (bm 11), .ref (bm 12), .ref (bm 13), .ref (bm 14), .int hi])), ((bm 1), .inl ((km 1), 240, .inl tp))] H.size) o_19 r_20) (cwV 0 hts (q_gV m_331 m_332 m_333 m_5 m_334) rfl rfl rfl hdV_yX10_ahead_0 ⟨Nat.le_of_ble_eq_true rfl, Nat.le_of_ble_eq_true rfl⟩) (q_preWV hK hP hD (q := (RX10, TX10, 24)) (ci := 10) (q0 := 0) rfl rfl [0, 1] (by decide) rfl rfl [0] rfl) rfl rfl hl.1 rfl (lv_room (Nat.le_of_ble_eq_true rfl)) dX10_items_117 ⟨Nat.le_of_ble_eq_true rfl, Nat.le_of_ble_eq_true rfl⟩) hK hP hD hS hA [0, 1] [2] rfl rfl (by decide) (by decide) (fun _ H locs _ hP hD hK9 hS => ?_)
                    have hP : va_P (dC, dI) vwCl [((bm 0), .inr (10, [.int th, .ref (bm 1), .int tn, .int (o_19.2), .int (o_15.2.2), .ref (bm 2), .ref (bm 3), .int rm_, .ref (bm 4), .ref (bm 5), .int mn, .ref (bm 6), .ref (bm 7), .int sn, .ref (bm 8), .ref (bm 9), .ref (bm 10), .int ac, .long dn, .ref (bm 11), .ref (bm 12), .ref (bm 13), .ref (bm 14), .int hi])), ((bm 1), .inl ((km 1), 240, .inl tp)), ((bm 2), .inl ((km 2), 8, .inl (upd rr_c (z3 + x6_41).toNatClampNeg o_15.1)))] H := hP.sub [1, 2, 0] rfl
                    have hD : va_D A [((bm 0), .inr (10, [.int th, .ref (bm 1), .int tn, .int (o_19.2), .int (o_15.2.2), .ref (bm 2), .ref (bm 3), .int rm_, .ref (bm 4), .ref (bm 5), .int mn, .ref (bm 6), .ref (bm 7), .int sn, .ref (bm 8), .ref (bm 9), .ref (bm 10), .int ac, .long dn, .ref (bm 11), .ref (bm 12), .ref (bm 13), .ref (bm 14), .int hi])), ((bm 1), .inl ((km 1), 240, .inl tp)), ((bm 2), .inl ((km 2), 8, .inl (upd rr_c (z3 + x6_41).toNatClampNeg o_15.1)))] := hD.sub [1, 2, 0] (by decide) rfl
                    obtain ⟨o_21, r_22, hG⟩ := q_bi hG
                    refine q_goi (v := o_21) (va_runS (As := [.int z1, .int o_19.1]) (rest := []) ⟨hx, hb, hml, hown, hts⟩ (c_X10_itemOf l dC dI z1 o_19.1 o_21 r_22) (va_cwS 2 hts (q_gS m_343 m_344 m_5 m_345) rfl rfl rfl hdS_yX10_itemOf_2 ⟨Nat.le_of_ble_eq_true rfl, Nat.le_of_ble_eq_true rfl⟩) (q_preS hK hP [] rfl [] rfl) rfl rfl hl.1 rfl (lv_room (Nat.le_of_ble_eq_true rfl)) dX10_items_120 ⟨Nat.le_of_ble_eq_true rfl, Nat.le_of_ble_eq_true rfl⟩) hP hS (fun H locs hP hS => ?_)
                    refine lv_goto (tgt := 127) hx hb dX10_items_123 (by decide) ?_
                    refine lv_istore (lv' := [(6, .int o_21), (5, .int (x5_41 ||| (1 <<< (x6_41 &&& 31)))), (0, .ref (bm 0)), (1, .int z1), (2, .ref (bm 2)), (3, .int z3), (4, .int z4)]) hx hb dX10_items_127 hl (by decide) rfl (fun ls hl => ?_)
                    refine lv_goto (tgt := 41) hx hb dX10_items_129 (by decide) ?_
                    exact ih_41 (x5_41 ||| (1 <<< (x6_41 &&& 31))) o_21 (o_19.2) (o_15.2.2) (upd rr_c (z3 + x6_41).toNatClampNeg o_15.1) H locs ls hG hP hD hS (lv_sub hl [0, 1, 2, 3, 4, 5, 6] rfl)
        exact L_41 1000 0 o_4 (o_2.2) wr_c rr_c H locs ls hG hP hD hS hl
      · have hG := q_ifn c_1 hG
        refine lv_aload_n hx hb dX10_items_10 rfl (lv_at hl 3 rfl) ?_
        refine lv_iload_n hx hb dX10_items_11 rfl (lv_at hl 4 rfl) ?_
        refine lv_iload hx hb dX10_items_12 (lv_at hl 0 rfl) ?_
        refine lv_iadd hx hb dX10_items_14 ?_
        refine lv_iload_n hx hb dX10_items_15 rfl (lv_at hl 2 rfl) ?_
        refine lv_iload hx hb dX10_items_16 (lv_at hl 0 rfl) ?_
        obtain ⟨o_23, r_24, hG⟩ := q_bi hG
        refine q_goi (v := o_23) (va_runS (As := [.int z1, .int x5_3]) (rest := [.int (z3 + x5_3), .ref (bm 2)]) ⟨hx, hb, hml, hown, hts⟩ (c_X10_usual l dC dI z1 x5_3 o_23 r_24) (va_cwS 2 hts (q_gS m_328 m_329 m_5 m_330) rfl rfl rfl hdS_yX10_usual_2 ⟨Nat.le_of_ble_eq_true rfl, Nat.le_of_ble_eq_true rfl⟩) (q_preS hK hP [] rfl [] rfl) rfl rfl hl.1 rfl (lv_room (Nat.le_of_ble_eq_true rfl)) dX10_items_18 ⟨Nat.le_of_ble_eq_true rfl, Nat.le_of_ble_eq_true rfl⟩) hP hS (fun H locs hP hS => ?_)
        obtain ⟨h_25, hG⟩ := q_ix hG
        refine va_iast hx hb hK hP hD hS 2 1 rfl rfl (i := (z3 + x5_3)) (x := o_23) h_25 dX10_items_21 (fun H locs hP hD hS => ?_)
        have hP : va_P (dC, dI) vwCl [((bm 0), .inr (10, [.int th, .ref (bm 1), .int tn, .int at__c, .int wr_c, .ref (bm 2), .ref (bm 3), .int rm_, .ref (bm 4), .ref (bm 5), .int mn, .ref (bm 6), .ref (bm 7), .int sn, .ref (bm 8), .ref (bm 9), .ref (bm 10), .int ac, .long dn, .ref (bm 11), .ref (bm 12), .ref (bm 13), .ref (bm 14), .int hi])), ((bm 1), .inl ((km 1), 240, .inl tp)), ((bm 2), .inl ((km 2), 8, .inl (upd rr_c (z3 + x5_3).toNatClampNeg o_23)))] H := hP
        have hD : va_D A [((bm 0), .inr (10, [.int th, .ref (bm 1), .int tn, .int at__c, .int wr_c, .ref (bm 2), .ref (bm 3), .int rm_, .ref (bm 4), .ref (bm 5), .int mn, .ref (bm 6), .ref (bm 7), .int sn, .ref (bm 8), .ref (bm 9), .ref (bm 10), .int ac, .long dn, .ref (bm 11), .ref (bm 12), .ref (bm 13), .ref (bm 14), .int hi])), ((bm 1), .inl ((km 1), 240, .inl tp)), ((bm 2), .inl ((km 2), 8, .inl (upd rr_c (z3 + x5_3).toNatClampNeg o_23)))] := hD
        refine lv_iinc (v := (x5_3 + 1)) (lv' := [(5, .int (x5_3 + 1)), (0, .ref (bm 0)), (1, .int z1), (2, .ref (bm 2)), (3, .int z3), (4, .int z4)]) hx hb dX10_items_22 hl (k := 0) rfl (rfl) (by decide) rfl (fun ls hl => ?_)
        refine lv_goto (tgt := 3) hx hb dX10_items_25 (by decide) ?_
        exact ih_3 (x5_3 + 1) at__c wr_c (upd rr_c (z3 + x5_3).toNatClampNeg o_23) H locs ls hG hP hD hS (lv_sub hl [0, 1, 2, 3, 4, 5] rfl)
  exact L_3 1000 0 at_ wr rr s.heap [] ls hG hP hD hS hl

def FL_X10_items_d_41 (tn : Int32) (at_ : Int32) (wr : Int32) (tp : Nat → Int32) (rd : Nat → Int32) (z1 : Int32) (z3 : Int32) (z4 : Int32) : Nat → Int32 → Int32 → (Int32) → (Int32) → (Nat → Int32) → Option (Int32 × Int32 × (Nat → Int32))
  | 0, _, _, _, _, _ => none
  | n + 1, x5_41, x6_41, at__c, wr_c, rd_c => (if wr_c = (-1) then (if x6_41 = (-1) then some (at__c, wr_c, rd_c) else ((F_X10_has x5_41 x6_41).bind fun o_8 => (if o_8 = 0 then ((F_X10_lowest z1 x6_41).bind fun o_11 => ((F_X10_highest z1 x6_41).bind fun o_13 => ((F_X10_number tn (at__c + 1) wr_c tp 3 o_11 o_13).bind fun o_15 => (if (z3 + x6_41) < 0 ∨ 48 ≤ ((z3 + x6_41)).toNatClampNeg then none else (if (o_15.2.2) = (-1) then ((F_X10_ahead tn (o_15.2.1) tp).bind fun o_19 => ((F_X10_itemOf z1 o_19.1).bind fun o_21 => (FL_X10_items_d_41 tn at_ wr tp rd z1 z3 z4 n (x5_41 ||| (1 <<< (x6_41 &&& 31))) o_21 (o_19.2) (o_15.2.2) (upd rd_c (z3 + x6_41).toNatClampNeg o_15.1)))) else (FL_X10_items_d_41 tn at_ wr tp rd z1 z3 z4 n (x5_41 ||| (1 <<< (x6_41 &&& 31))) (-1) (o_15.2.1) (o_15.2.2) (upd rd_c (z3 + x6_41).toNatClampNeg o_15.1))))))) else some (at__c, wr_c, rd_c)))) else some (at__c, wr_c, rd_c))

def FL_X10_items_d_3 (tn : Int32) (at_ : Int32) (wr : Int32) (tp : Nat → Int32) (rd : Nat → Int32) (z1 : Int32) (z3 : Int32) (z4 : Int32) : Nat → Int32 → (Int32) → (Int32) → (Nat → Int32) → Option (Int32 × Int32 × (Nat → Int32))
  | 0, _, _, _, _ => none
  | n + 1, x5_3, at__c, wr_c, rd_c => (if z4 ≤ x5_3 then ((F_X10_ahead tn at__c tp).bind fun o_2 => ((F_X10_itemOf z1 o_2.1).bind fun o_4 => (FL_X10_items_d_41 tn at_ wr tp rd z1 z3 z4 1000 0 o_4 (o_2.2) wr_c rd_c))) else ((F_X10_usual z1 x5_3).bind fun o_23 => (if (z3 + x5_3) < 0 ∨ 48 ≤ ((z3 + x5_3)).toNatClampNeg then none else (FL_X10_items_d_3 tn at_ wr tp rd z1 z3 z4 n (x5_3 + 1) at__c wr_c (upd rd_c (z3 + x5_3).toNatClampNeg o_23)))))

def F_X10_items_d (tn : Int32) (at_ : Int32) (wr : Int32) (tp : Nat → Int32) (rd : Nat → Int32) (z1 : Int32) (z3 : Int32) (z4 : Int32) : Option (Int32 × Int32 × (Nat → Int32)) := (FL_X10_items_d_3 tn at_ wr tp rd z1 z3 z4 1000 0 at_ wr rd)
set_option maxHeartbeats 4000000 in
set_option maxRecDepth 100000 in
theorem c_X10_items_d (l : Launch) (dC : Nat → ClassId) (dI : Nat → Nat → Nat) (bm : Nat → Nat) (km : Nat → ClassId) (th : Int32) (tn : Int32) (at_ : Int32) (wr : Int32) (rm_ : Int32) (mn : Int32) (sn : Int32) (ac : Int32) (hi : Int32) (dn : Int64) (tp : Nat → Int32) (rd : Nat → Int32) (z1 : Int32) (z3 : Int32) (z4 : Int32) (A : Nat → Prop) (o : Int32 × Int32 × (Nat → Int32)) (hG : F_X10_items_d tn at_ wr tp rd z1 z3 z4 = some o) : Met l yX10_items (.code yX10_items cX10_items 7 none :: wA) ({ frames := 3, cells := 0, slots := 0, locals := 65 }) (va_Pc [.ref (bm 0), .int z1, .ref (bm 3), .int z3, .int z4] (q_W (dC, dI) A [((bm 0), .inr (10, [.int th, .ref (bm 1), .int tn, .int at_, .int wr, .ref (bm 2), .ref (bm 3), .int rm_, .ref (bm 4), .ref (bm 5), .int mn, .ref (bm 6), .ref (bm 7), .int sn, .ref (bm 8), .ref (bm 9), .ref (bm 10), .int ac, .long dn, .ref (bm 11), .ref (bm 12), .ref (bm 13), .ref (bm 14), .int hi])), ((bm 1), .inl ((km 1), 240, .inl tp)), ((bm 3), .inl ((km 3), 48, .inl rd))] [((km 1), .int), ((km 3), .int)])) (va_Qv (fun _ : Unit => True) (fun (_ : Unit) t => q_B (dC, dI) A [((bm 0), .inr (10, [.int th, .ref (bm 1), .int tn, .int (o.1), .int (o.2.1), .ref (bm 2), .ref (bm 3), .int rm_, .ref (bm 4), .ref (bm 5), .int mn, .ref (bm 6), .ref (bm 7), .int sn, .ref (bm 8), .ref (bm 9), .ref (bm 10), .int ac, .long dn, .ref (bm 11), .ref (bm 12), .ref (bm 13), .ref (bm 14), .int hi])), ((bm 1), .inl ((km 1), 240, .inl tp)), ((bm 3), .inl ((km 3), 48, .inl (o.2.2)))] [((km 1), .int), ((km 3), .int)] t) A) 0 0 A := by
  refine Met.ofW (cc := cX10_items) (maxL := 7) (ret := none) (by decide) rfl ?_
  intro p e s m args below meth c s₁ B hml hv
  obtain ⟨rfl, hP, hK, hD, hA⟩ := hv
  have hx := B.exec
  have hb := B.bytes
  have hr := B.returns
  have hts := atoms_spec (ws := .code yX10_items cX10_items 7 none :: wA) B.pre
  have hown : s.vm.findClass RX10 = some m.cls := findClass_of_methodNamed B.named
  have hlocks := B.notSynchronized
  have hS : va_S A s.heap s.heap [] := va_S.rf
  have hl := lv_entry ([.ref (bm 0), .int z1, .ref (bm 3), .int z3, .int z4]) (n := 7) (Nat.le_of_ble_eq_true rfl)
  rw [lg_entry_eq]
  generalize (lg_sl ([.ref (bm 0), .int z1, .ref (bm 3), .int z3, .int z4]) ++ List.replicate (7 - (lg_sl ([.ref (bm 0), .int z1, .ref (bm 3), .int z3, .int z4])).length) Slot.unset).toArray = ls at hl ⊢
  have hl : lv_has ls 7 [(0, .ref (bm 0)), (1, .int z1), (2, .ref (bm 3)), (3, .int z3), (4, .int z4)] := hl
  unfold F_X10_items_d at hG
  refine lv_iconst (v := 0) hx hb dX10_items_0 (by decide) ?_
  refine lv_istore (lv' := [(5, .int 0), (0, .ref (bm 0)), (1, .int z1), (2, .ref (bm 3)), (3, .int z3), (4, .int z4)]) hx hb dX10_items_1 hl (by decide) rfl (fun ls hl => ?_)
  have L_3 : ∀ (n_3 : Nat) (x5_3 : Int32) (at__c : Int32) (wr_c : Int32) (rd_c : Nat → Int32) (H : Heap) (locs : List Loc) (ls : Array Slot), FL_X10_items_d_3 tn at_ wr tp rd z1 z3 z4 n_3 x5_3 at__c wr_c rd_c = some o → va_P (dC, dI) vwCl [((bm 0), .inr (10, [.int th, .ref (bm 1), .int tn, .int at__c, .int wr_c, .ref (bm 2), .ref (bm 3), .int rm_, .ref (bm 4), .ref (bm 5), .int mn, .ref (bm 6), .ref (bm 7), .int sn, .ref (bm 8), .ref (bm 9), .ref (bm 10), .int ac, .long dn, .ref (bm 11), .ref (bm 12), .ref (bm 13), .ref (bm 14), .int hi])), ((bm 1), .inl ((km 1), 240, .inl tp)), ((bm 3), .inl ((km 3), 48, .inl rd_c))] H → va_D A [((bm 0), .inr (10, [.int th, .ref (bm 1), .int tn, .int at__c, .int wr_c, .ref (bm 2), .ref (bm 3), .int rm_, .ref (bm 4), .ref (bm 5), .int mn, .ref (bm 6), .ref (bm 7), .int sn, .ref (bm 8), .ref (bm 9), .ref (bm 10), .int ac, .long dn, .ref (bm 11), .ref (bm 12), .ref (bm 13), .ref (bm 14), .int hi])), ((bm 1), .inl ((km 1), 240, .inl tp)), ((bm 3), .inl ((km 3), 48, .inl rd_c))] → va_S A s.heap H locs → lv_has ls 7 [(5, .int x5_3), (0, .ref (bm 0)), (1, .int z1), (2, .ref (bm 3)), (3, .int z3), (4, .int z4)] → W p l e (headSpec (.code yX10_items cX10_items 7 none :: wA) ({ frames := 3, cells := 0, slots := 0, locals := 65 })).room s m #[.ref (bm 0), .int z1, .ref (bm 3), .int z3, .int z4] below meth c H locs 0 0 (MQ below (va_Qv (fun _ : Unit => True) (fun (_ : Unit) t => q_B (dC, dI) A [((bm 0), .inr (10, [.int th, .ref (bm 1), .int tn, .int (o.1), .int (o.2.1), .ref (bm 2), .ref (bm 3), .int rm_, .ref (bm 4), .ref (bm 5), .int mn, .ref (bm 6), .ref (bm 7), .int sn, .ref (bm 8), .ref (bm 9), .ref (bm 10), .int ac, .long dn, .ref (bm 11), .ref (bm 12), .ref (bm 13), .ref (bm 14), .int hi])), ((bm 1), .inl ((km 1), 240, .inl tp)), ((bm 3), .inl ((km 3), 48, .inl (o.2.2)))] [((km 1), .int), ((km 3), .int)] t) A) #[.ref (bm 0), .int z1, .ref (bm 3), .int z3, .int z4] s 0 0 A) (F0 m 3 ls []) := by
    intro n_3
    induction n_3 with
    | zero =>
      intro x5_3 at__c wr_c rd_c H locs ls hG
      exact q_no hG
    | succ n_3 ih_3 =>
      intro x5_3 at__c wr_c rd_c H locs ls hG hP hD hS hl
      unfold FL_X10_items_d_3 at hG
      refine lv_iload hx hb dX10_items_3 (lv_at hl 0 rfl) ?_
      refine lv_iload hx hb dX10_items_5 (lv_at hl 5 rfl) ?_
      refine lv_icmp_ge (tgt := 28) hx hb dX10_items_7 (by decide) (fun c_1 => ?_) (fun c_1 => ?_)
      · have hG := q_ifp c_1 hG
        refine lv_iconst (v := 0) hx hb dX10_items_28 (by decide) ?_
        refine lv_istore (lv' := [(5, .int 0), (0, .ref (bm 0)), (1, .int z1), (2, .ref (bm 3)), (3, .int z3), (4, .int z4)]) hx hb dX10_items_29 hl (by decide) rfl (fun ls hl => ?_)
        refine lv_iload_n hx hb dX10_items_31 rfl (lv_at hl 2 rfl) ?_
        refine lv_aload_n hx hb dX10_items_32 rfl (lv_at hl 1 rfl) ?_
        obtain ⟨o_2, r_3, hG⟩ := q_bi hG
        refine q_goi2 (v := o_2.1) (wr := [((bm 3), .inl ((km 3), 48, .inl rd_c))]) (va_runV (As := []) (rest := [.int z1]) ⟨hx, hb, hml, hown, hts⟩ (c_X10_ahead l dC dI bm km th tn at__c wr_c rm_ mn sn ac hi dn tp (va_A [((bm 0), .inr (10, [.int th, .ref (bm 1), .int tn, .int at__c, .int wr_c, .ref (bm 2), .ref (bm 3), .int rm_, .ref (bm 4), .ref (bm 5), .int mn, .ref (bm 6), .ref (bm 7), .int sn, .ref (bm 8), .ref (bm 9), .ref (bm 10), .int ac, .long dn, .ref (bm 11), .ref (bm 12), .ref (bm 13), .ref (bm 14), .int hi])), ((bm 1), .inl ((km 1), 240, .inl tp))] H.size) o_2 r_3) (cwV 0 hts (q_gV m_331 m_332 m_333 m_5 m_334) rfl rfl rfl hdV_yX10_ahead_0 ⟨Nat.le_of_ble_eq_true rfl, Nat.le_of_ble_eq_true rfl⟩) (q_preWV hK hP hD (q := (RX10, TX10, 24)) (ci := 10) (q0 := 0) rfl rfl [0, 1] (by decide) rfl rfl [0] rfl) rfl rfl hl.1 rfl (lv_room (Nat.le_of_ble_eq_true rfl)) dX10_items_33 ⟨Nat.le_of_ble_eq_true rfl, Nat.le_of_ble_eq_true rfl⟩) hK hP hD hS hA [0, 1] [2] rfl rfl (by decide) (by decide) (fun _ H locs _ hP hD hK9 hS => ?_)
        have hP : va_P (dC, dI) vwCl [((bm 0), .inr (10, [.int th, .ref (bm 1), .int tn, .int (o_2.2), .int wr_c, .ref (bm 2), .ref (bm 3), .int rm_, .ref (bm 4), .ref (bm 5), .int mn, .ref (bm 6), .ref (bm 7), .int sn, .ref (bm 8), .ref (bm 9), .ref (bm 10), .int ac, .long dn, .ref (bm 11), .ref (bm 12), .ref (bm 13), .ref (bm 14), .int hi])), ((bm 1), .inl ((km 1), 240, .inl tp)), ((bm 3), .inl ((km 3), 48, .inl rd_c))] H := hP.sub [1, 2, 0] rfl
        have hD : va_D A [((bm 0), .inr (10, [.int th, .ref (bm 1), .int tn, .int (o_2.2), .int wr_c, .ref (bm 2), .ref (bm 3), .int rm_, .ref (bm 4), .ref (bm 5), .int mn, .ref (bm 6), .ref (bm 7), .int sn, .ref (bm 8), .ref (bm 9), .ref (bm 10), .int ac, .long dn, .ref (bm 11), .ref (bm 12), .ref (bm 13), .ref (bm 14), .int hi])), ((bm 1), .inl ((km 1), 240, .inl tp)), ((bm 3), .inl ((km 3), 48, .inl rd_c))] := hD.sub [1, 2, 0] (by decide) rfl
        obtain ⟨o_4, r_5, hG⟩ := q_bi hG
        refine q_goi (v := o_4) (va_runS (As := [.int z1, .int o_2.1]) (rest := []) ⟨hx, hb, hml, hown, hts⟩ (c_X10_itemOf l dC dI z1 o_2.1 o_4 r_5) (va_cwS 2 hts (q_gS m_343 m_344 m_5 m_345) rfl rfl rfl hdS_yX10_itemOf_2 ⟨Nat.le_of_ble_eq_true rfl, Nat.le_of_ble_eq_true rfl⟩) (q_preS hK hP [] rfl [] rfl) rfl rfl hl.1 rfl (lv_room (Nat.le_of_ble_eq_true rfl)) dX10_items_36 ⟨Nat.le_of_ble_eq_true rfl, Nat.le_of_ble_eq_true rfl⟩) hP hS (fun H locs hP hS => ?_)
        refine lv_istore (lv' := [(6, .int o_4), (5, .int 0), (0, .ref (bm 0)), (1, .int z1), (2, .ref (bm 3)), (3, .int z3), (4, .int z4)]) hx hb dX10_items_39 hl (by decide) rfl (fun ls hl => ?_)
        have L_41 : ∀ (n_41 : Nat) (x5_41 : Int32) (x6_41 : Int32) (at__c : Int32) (wr_c : Int32) (rd_c : Nat → Int32) (H : Heap) (locs : List Loc) (ls : Array Slot), FL_X10_items_d_41 tn at_ wr tp rd z1 z3 z4 n_41 x5_41 x6_41 at__c wr_c rd_c = some o → va_P (dC, dI) vwCl [((bm 0), .inr (10, [.int th, .ref (bm 1), .int tn, .int at__c, .int wr_c, .ref (bm 2), .ref (bm 3), .int rm_, .ref (bm 4), .ref (bm 5), .int mn, .ref (bm 6), .ref (bm 7), .int sn, .ref (bm 8), .ref (bm 9), .ref (bm 10), .int ac, .long dn, .ref (bm 11), .ref (bm 12), .ref (bm 13), .ref (bm 14), .int hi])), ((bm 1), .inl ((km 1), 240, .inl tp)), ((bm 3), .inl ((km 3), 48, .inl rd_c))] H → va_D A [((bm 0), .inr (10, [.int th, .ref (bm 1), .int tn, .int at__c, .int wr_c, .ref (bm 2), .ref (bm 3), .int rm_, .ref (bm 4), .ref (bm 5), .int mn, .ref (bm 6), .ref (bm 7), .int sn, .ref (bm 8), .ref (bm 9), .ref (bm 10), .int ac, .long dn, .ref (bm 11), .ref (bm 12), .ref (bm 13), .ref (bm 14), .int hi])), ((bm 1), .inl ((km 1), 240, .inl tp)), ((bm 3), .inl ((km 3), 48, .inl rd_c))] → va_S A s.heap H locs → lv_has ls 7 [(6, .int x6_41), (5, .int x5_41), (0, .ref (bm 0)), (1, .int z1), (2, .ref (bm 3)), (3, .int z3), (4, .int z4)] → W p l e (headSpec (.code yX10_items cX10_items 7 none :: wA) ({ frames := 3, cells := 0, slots := 0, locals := 65 })).room s m #[.ref (bm 0), .int z1, .ref (bm 3), .int z3, .int z4] below meth c H locs 0 0 (MQ below (va_Qv (fun _ : Unit => True) (fun (_ : Unit) t => q_B (dC, dI) A [((bm 0), .inr (10, [.int th, .ref (bm 1), .int tn, .int (o.1), .int (o.2.1), .ref (bm 2), .ref (bm 3), .int rm_, .ref (bm 4), .ref (bm 5), .int mn, .ref (bm 6), .ref (bm 7), .int sn, .ref (bm 8), .ref (bm 9), .ref (bm 10), .int ac, .long dn, .ref (bm 11), .ref (bm 12), .ref (bm 13), .ref (bm 14), .int hi])), ((bm 1), .inl ((km 1), 240, .inl tp)), ((bm 3), .inl ((km 3), 48, .inl (o.2.2)))] [((km 1), .int), ((km 3), .int)] t) A) #[.ref (bm 0), .int z1, .ref (bm 3), .int z3, .int z4] s 0 0 A) (F0 m 41 ls []) := by
          intro n_41
          induction n_41 with
          | zero =>
            intro x5_41 x6_41 at__c wr_c rd_c H locs ls hG
            exact q_no hG
          | succ n_41 ih_41 =>
            intro x5_41 x6_41 at__c wr_c rd_c H locs ls hG hP hD hS hl
            unfold FL_X10_items_d_41 at hG
            refine lv_aload_n hx hb dX10_items_41 rfl (lv_at hl 2 rfl) ?_
            refine va_get (D := (dC, dI)) (ci := 10) (v := .int wr_c) (C := RX10) (T := TX10) (N := 24) hx hb hts iA_10 hown hK hP 0 rfl rfl 4 (by decide) (hts (.fieldLink RX10 74 "HubTreeModel" "wrong" "I") (List.mem_cons_of_mem _ m_326)) (fun _ h9 => h9) rfl dX10_items_42 ?_
            refine lv_iconst (v := (-1)) hx hb dX10_items_45 (by decide) ?_
            refine lv_icmp_ne (tgt := 132) hx hb dX10_items_46 (by decide) (fun c_6 => ?_) (fun c_6 => ?_)
            · have hG := q_ifn c_6 hG
              obtain rfl := Option.some.inj hG
              have hP9 := hP.sub (ws' := [((bm 0), .inr (10, [.int th, .ref (bm 1), .int tn, .int at__c, .int wr_c, .ref (bm 2), .ref (bm 3), .int rm_, .ref (bm 4), .ref (bm 5), .int mn, .ref (bm 6), .ref (bm 7), .int sn, .ref (bm 8), .ref (bm 9), .ref (bm 10), .int ac, .long dn, .ref (bm 11), .ref (bm 12), .ref (bm 13), .ref (bm 14), .int hi])), ((bm 1), .inl ((km 1), 240, .inl tp)), ((bm 3), .inl ((km 3), 48, .inl rd_c))]) [0, 1, 2] rfl
              have hD9 := hD.sub (ws' := [((bm 0), .inr (10, [.int th, .ref (bm 1), .int tn, .int at__c, .int wr_c, .ref (bm 2), .ref (bm 3), .int rm_, .ref (bm 4), .ref (bm 5), .int mn, .ref (bm 6), .ref (bm 7), .int sn, .ref (bm 8), .ref (bm 9), .ref (bm 10), .int ac, .long dn, .ref (bm 11), .ref (bm 12), .ref (bm 13), .ref (bm 14), .int hi])), ((bm 1), .inl ((km 1), 240, .inl tp)), ((bm 3), .inl ((km 3), 48, .inl rd_c))]) [0, 1, 2] (by decide) rfl
              have hK9 := hK.sub (tys' := [((km 1), .int), ((km 3), .int)]) [0, 1] rfl
              exact W.vret hx hb hr (fun t ht hW => ⟨⟨(), rfl, trivial, by rw [ht]; exact hP9, va_K.moved hW.alike hK9, hD9⟩, hS.F ht⟩) hS.2.2 dX10_items_132
            · have hG := q_ifp c_6 hG
              refine lv_iload hx hb dX10_items_49 (lv_at hl 0 rfl) ?_
              refine lv_iconst (v := (-1)) hx hb dX10_items_51 (by decide) ?_
              refine lv_icmp_eq (tgt := 132) hx hb dX10_items_52 (by decide) (fun c_7 => ?_) (fun c_7 => ?_)
              · have hG := q_ifp c_7 hG
                obtain rfl := Option.some.inj hG
                have hP9 := hP.sub (ws' := [((bm 0), .inr (10, [.int th, .ref (bm 1), .int tn, .int at__c, .int wr_c, .ref (bm 2), .ref (bm 3), .int rm_, .ref (bm 4), .ref (bm 5), .int mn, .ref (bm 6), .ref (bm 7), .int sn, .ref (bm 8), .ref (bm 9), .ref (bm 10), .int ac, .long dn, .ref (bm 11), .ref (bm 12), .ref (bm 13), .ref (bm 14), .int hi])), ((bm 1), .inl ((km 1), 240, .inl tp)), ((bm 3), .inl ((km 3), 48, .inl rd_c))]) [0, 1, 2] rfl
                have hD9 := hD.sub (ws' := [((bm 0), .inr (10, [.int th, .ref (bm 1), .int tn, .int at__c, .int wr_c, .ref (bm 2), .ref (bm 3), .int rm_, .ref (bm 4), .ref (bm 5), .int mn, .ref (bm 6), .ref (bm 7), .int sn, .ref (bm 8), .ref (bm 9), .ref (bm 10), .int ac, .long dn, .ref (bm 11), .ref (bm 12), .ref (bm 13), .ref (bm 14), .int hi])), ((bm 1), .inl ((km 1), 240, .inl tp)), ((bm 3), .inl ((km 3), 48, .inl rd_c))]) [0, 1, 2] (by decide) rfl
                have hK9 := hK.sub (tys' := [((km 1), .int), ((km 3), .int)]) [0, 1] rfl
                exact W.vret hx hb hr (fun t ht hW => ⟨⟨(), rfl, trivial, by rw [ht]; exact hP9, va_K.moved hW.alike hK9, hD9⟩, hS.F ht⟩) hS.2.2 dX10_items_132
              · have hG := q_ifn c_7 hG
                refine lv_iload hx hb dX10_items_55 (lv_at hl 1 rfl) ?_
                refine lv_iload hx hb dX10_items_57 (lv_at hl 0 rfl) ?_
                obtain ⟨o_8, r_9, hG⟩ := q_bi hG
                refine q_goi (v := o_8) (va_runS (As := [.int x5_41, .int x6_41]) (rest := []) ⟨hx, hb, hml, hown, hts⟩ (c_X10_has l dC dI x5_41 x6_41 o_8 r_9) (va_cwS 2 hts (q_gS m_346 m_347 m_5 m_348) rfl rfl rfl hdS_yX10_has_2 ⟨Nat.le_of_ble_eq_true rfl, Nat.le_of_ble_eq_true rfl⟩) (q_preS hK hP [] rfl [] rfl) rfl rfl hl.1 rfl (lv_room (Nat.le_of_ble_eq_true rfl)) dX10_items_59 ⟨Nat.le_of_ble_eq_true rfl, Nat.le_of_ble_eq_true rfl⟩) hP hS (fun H locs hP hS => ?_)
                refine lv_if_ne (tgt := 132) hx hb dX10_items_62 (by decide) (fun c_10 => ?_) (fun c_10 => ?_)
                · have hG := q_ifn c_10 hG
                  obtain rfl := Option.some.inj hG
                  have hP9 := hP.sub (ws' := [((bm 0), .inr (10, [.int th, .ref (bm 1), .int tn, .int at__c, .int wr_c, .ref (bm 2), .ref (bm 3), .int rm_, .ref (bm 4), .ref (bm 5), .int mn, .ref (bm 6), .ref (bm 7), .int sn, .ref (bm 8), .ref (bm 9), .ref (bm 10), .int ac, .long dn, .ref (bm 11), .ref (bm 12), .ref (bm 13), .ref (bm 14), .int hi])), ((bm 1), .inl ((km 1), 240, .inl tp)), ((bm 3), .inl ((km 3), 48, .inl rd_c))]) [0, 1, 2] rfl
                  have hD9 := hD.sub (ws' := [((bm 0), .inr (10, [.int th, .ref (bm 1), .int tn, .int at__c, .int wr_c, .ref (bm 2), .ref (bm 3), .int rm_, .ref (bm 4), .ref (bm 5), .int mn, .ref (bm 6), .ref (bm 7), .int sn, .ref (bm 8), .ref (bm 9), .ref (bm 10), .int ac, .long dn, .ref (bm 11), .ref (bm 12), .ref (bm 13), .ref (bm 14), .int hi])), ((bm 1), .inl ((km 1), 240, .inl tp)), ((bm 3), .inl ((km 3), 48, .inl rd_c))]) [0, 1, 2] (by decide) rfl
                  have hK9 := hK.sub (tys' := [((km 1), .int), ((km 3), .int)]) [0, 1] rfl
                  exact W.vret hx hb hr (fun t ht hW => ⟨⟨(), rfl, trivial, by rw [ht]; exact hP9, va_K.moved hW.alike hK9, hD9⟩, hS.F ht⟩) hS.2.2 dX10_items_132
                · have hG := q_ifp c_10 hG
                  refine lv_iload hx hb dX10_items_65 (lv_at hl 1 rfl) ?_
                  refine lv_iconst (v := 1) hx hb dX10_items_67 (by decide) ?_
                  refine lv_iload hx hb dX10_items_68 (lv_at hl 0 rfl) ?_
                  refine lv_ishl hx hb dX10_items_70 ?_
                  refine lv_ior hx hb dX10_items_71 ?_
                  refine lv_istore (lv' := [(5, .int (x5_41 ||| (1 <<< (x6_41 &&& 31)))), (6, .int x6_41), (0, .ref (bm 0)), (1, .int z1), (2, .ref (bm 3)), (3, .int z3), (4, .int z4)]) hx hb dX10_items_72 hl (by decide) rfl (fun ls hl => ?_)
                  refine lv_aload_n hx hb dX10_items_74 rfl (lv_at hl 2 rfl) ?_
                  refine lv_dup hx hb dX10_items_75 rfl ?_
                  refine va_get (D := (dC, dI)) (ci := 10) (v := .int at__c) (C := RX10) (T := TX10) (N := 24) hx hb hts iA_10 hown hK hP 0 rfl rfl 3 (by decide) (hts (.fieldLink RX10 67 "HubTreeModel" "at" "I") (List.mem_cons_of_mem _ m_325)) (fun _ h9 => h9) rfl dX10_items_76 ?_
                  refine lv_iconst (v := 1) hx hb dX10_items_79 (by decide) ?_
                  refine lv_iadd hx hb dX10_items_80 ?_
                  refine va_put (D := (dC, dI)) (ci := 10) (v := .int (at__c + 1)) (ty := .int) (C := RX10) (T := TX10) (N := 24) hx hb hts iA_10 tyX10 tyX10_ok nmX10 hown hK hP hD hS 0 rfl rfl 3 (by decide) (hts (.fieldLink RX10 67 "HubTreeModel" "at" "I") (List.mem_cons_of_mem _ m_325)) (fun _ h9 => h9) rfl (by decide +kernel) rfl rfl (Nat.le_of_ble_eq_true rfl) dX10_items_81 (fun H locs hP hD hS => ?_)
                  have hP : va_P (dC, dI) vwCl [((bm 0), .inr (10, [.int th, .ref (bm 1), .int tn, .int (at__c + 1), .int wr_c, .ref (bm 2), .ref (bm 3), .int rm_, .ref (bm 4), .ref (bm 5), .int mn, .ref (bm 6), .ref (bm 7), .int sn, .ref (bm 8), .ref (bm 9), .ref (bm 10), .int ac, .long dn, .ref (bm 11), .ref (bm 12), .ref (bm 13), .ref (bm 14), .int hi])), ((bm 1), .inl ((km 1), 240, .inl tp)), ((bm 3), .inl ((km 3), 48, .inl rd_c))] H := hP
                  have hD : va_D A [((bm 0), .inr (10, [.int th, .ref (bm 1), .int tn, .int (at__c + 1), .int wr_c, .ref (bm 2), .ref (bm 3), .int rm_, .ref (bm 4), .ref (bm 5), .int mn, .ref (bm 6), .ref (bm 7), .int sn, .ref (bm 8), .ref (bm 9), .ref (bm 10), .int ac, .long dn, .ref (bm 11), .ref (bm 12), .ref (bm 13), .ref (bm 14), .int hi])), ((bm 1), .inl ((km 1), 240, .inl tp)), ((bm 3), .inl ((km 3), 48, .inl rd_c))] := hD
                  refine lv_aload_n hx hb dX10_items_84 rfl (lv_at hl 4 rfl) ?_
                  refine lv_iload_n hx hb dX10_items_85 rfl (lv_at hl 5 rfl) ?_
                  refine lv_iload hx hb dX10_items_86 (lv_at hl 1 rfl) ?_
                  refine lv_iadd hx hb dX10_items_88 ?_
                  refine lv_aload_n hx hb dX10_items_89 rfl (lv_at hl 2 rfl) ?_
                  refine lv_iconst (v := 3) hx hb dX10_items_90 (by decide) ?_
                  refine lv_iload_n hx hb dX10_items_91 rfl (lv_at hl 3 rfl) ?_
                  refine lv_iload hx hb dX10_items_92 (lv_at hl 1 rfl) ?_
                  obtain ⟨o_11, r_12, hG⟩ := q_bi hG
                  refine q_goi (v := o_11) (va_runS (As := [.int z1, .int x6_41]) (rest := [.int 3, .ref (bm 0), .int (z3 + x6_41), .ref (bm 3)]) ⟨hx, hb, hml, hown, hts⟩ (c_X10_lowest l dC dI z1 x6_41 o_11 r_12) (va_cwS 2 hts (q_gS m_349 m_350 m_5 m_351) rfl rfl rfl hdS_yX10_lowest_2 ⟨Nat.le_of_ble_eq_true rfl, Nat.le_of_ble_eq_true rfl⟩) (q_preS hK hP [] rfl [] rfl) rfl rfl hl.1 rfl (lv_room (Nat.le_of_ble_eq_true rfl)) dX10_items_94 ⟨Nat.le_of_ble_eq_true rfl, Nat.le_of_ble_eq_true rfl⟩) hP hS (fun H locs hP hS => ?_)
                  refine lv_iload_n hx hb dX10_items_97 rfl (lv_at hl 3 rfl) ?_
                  refine lv_iload hx hb dX10_items_98 (lv_at hl 1 rfl) ?_
                  obtain ⟨o_13, r_14, hG⟩ := q_bi hG
                  refine q_goi (v := o_13) (va_runS (As := [.int z1, .int x6_41]) (rest := [.int o_11, .int 3, .ref (bm 0), .int (z3 + x6_41), .ref (bm 3)]) ⟨hx, hb, hml, hown, hts⟩ (c_X10_highest l dC dI z1 x6_41 o_13 r_14) (va_cwS 2 hts (q_gS m_352 m_353 m_5 m_354) rfl rfl rfl hdS_yX10_highest_2 ⟨Nat.le_of_ble_eq_true rfl, Nat.le_of_ble_eq_true rfl⟩) (q_preS hK hP [] rfl [] rfl) rfl rfl hl.1 rfl (lv_room (Nat.le_of_ble_eq_true rfl)) dX10_items_100 ⟨Nat.le_of_ble_eq_true rfl, Nat.le_of_ble_eq_true rfl⟩) hP hS (fun H locs hP hS => ?_)
                  obtain ⟨o_15, r_16, hG⟩ := q_bi hG
                  refine q_goi2 (v := o_15.1) (wr := [((bm 3), .inl ((km 3), 48, .inl rd_c))]) (va_runV (As := [.int 3, .int o_11, .int o_13]) (rest := [.int (z3 + x6_41), .ref (bm 3)]) ⟨hx, hb, hml, hown, hts⟩ (c_X10_number l dC dI bm km th tn (at__c + 1) wr_c rm_ mn sn ac hi dn tp 3 o_11 o_13 (va_A [((bm 0), .inr (10, [.int th, .ref (bm 1), .int tn, .int (at__c + 1), .int wr_c, .ref (bm 2), .ref (bm 3), .int rm_, .ref (bm 4), .ref (bm 5), .int mn, .ref (bm 6), .ref (bm 7), .int sn, .ref (bm 8), .ref (bm 9), .ref (bm 10), .int ac, .long dn, .ref (bm 11), .ref (bm 12), .ref (bm 13), .ref (bm 14), .int hi])), ((bm 1), .inl ((km 1), 240, .inl tp))] H.size) o_15 r_16) (cwV 3 hts (q_gV m_355 m_356 m_357 m_5 m_358) rfl rfl rfl hdV_yX10_number_3 ⟨Nat.le_of_ble_eq_true rfl, Nat.le_of_ble_eq_true rfl⟩) (q_preWV hK hP hD (q := (RX10, TX10, 24)) (ci := 10) (q0 := 0) rfl rfl [0, 1] (by decide) rfl rfl [0] rfl) rfl rfl hl.1 rfl (lv_room (Nat.le_of_ble_eq_true rfl)) dX10_items_103 ⟨Nat.le_of_ble_eq_true rfl, Nat.le_of_ble_eq_true rfl⟩) hK hP hD hS hA [0, 1] [2] rfl rfl (by decide) (by decide) (fun _ H locs _ hP hD hK9 hS => ?_)
                  have hP : va_P (dC, dI) vwCl [((bm 0), .inr (10, [.int th, .ref (bm 1), .int tn, .int (o_15.2.1), .int (o_15.2.2), .ref (bm 2), .ref (bm 3), .int rm_, .ref (bm 4), .ref (bm 5), .int mn, .ref (bm 6), .ref (bm 7), .int sn, .ref (bm 8), .ref (bm 9), .ref (bm 10), .int ac, .long dn, .ref (bm 11), .ref (bm 12), .ref (bm 13), .ref (bm 14), .int hi])), ((bm 1), .inl ((km 1), 240, .inl tp)), ((bm 3), .inl ((km 3), 48, .inl rd_c))] H := hP.sub [1, 2, 0] rfl
                  have hD : va_D A [((bm 0), .inr (10, [.int th, .ref (bm 1), .int tn, .int (o_15.2.1), .int (o_15.2.2), .ref (bm 2), .ref (bm 3), .int rm_, .ref (bm 4), .ref (bm 5), .int mn, .ref (bm 6), .ref (bm 7), .int sn, .ref (bm 8), .ref (bm 9), .ref (bm 10), .int ac, .long dn, .ref (bm 11), .ref (bm 12), .ref (bm 13), .ref (bm 14), .int hi])), ((bm 1), .inl ((km 1), 240, .inl tp)), ((bm 3), .inl ((km 3), 48, .inl rd_c))] := hD.sub [1, 2, 0] (by decide) rfl
                  obtain ⟨h_17, hG⟩ := q_ix hG
                  refine va_iast hx hb hK hP hD hS 2 1 rfl rfl (i := (z3 + x6_41)) (x := o_15.1) h_17 dX10_items_106 (fun H locs hP hD hS => ?_)
                  have hP : va_P (dC, dI) vwCl [((bm 0), .inr (10, [.int th, .ref (bm 1), .int tn, .int (o_15.2.1), .int (o_15.2.2), .ref (bm 2), .ref (bm 3), .int rm_, .ref (bm 4), .ref (bm 5), .int mn, .ref (bm 6), .ref (bm 7), .int sn, .ref (bm 8), .ref (bm 9), .ref (bm 10), .int ac, .long dn, .ref (bm 11), .ref (bm 12), .ref (bm 13), .ref (bm 14), .int hi])), ((bm 1), .inl ((km 1), 240, .inl tp)), ((bm 3), .inl ((km 3), 48, .inl (upd rd_c (z3 + x6_41).toNatClampNeg o_15.1)))] H := hP
                  have hD : va_D A [((bm 0), .inr (10, [.int th, .ref (bm 1), .int tn, .int (o_15.2.1), .int (o_15.2.2), .ref (bm 2), .ref (bm 3), .int rm_, .ref (bm 4), .ref (bm 5), .int mn, .ref (bm 6), .ref (bm 7), .int sn, .ref (bm 8), .ref (bm 9), .ref (bm 10), .int ac, .long dn, .ref (bm 11), .ref (bm 12), .ref (bm 13), .ref (bm 14), .int hi])), ((bm 1), .inl ((km 1), 240, .inl tp)), ((bm 3), .inl ((km 3), 48, .inl (upd rd_c (z3 + x6_41).toNatClampNeg o_15.1)))] := hD
                  refine lv_aload_n hx hb dX10_items_107 rfl (lv_at hl 2 rfl) ?_
                  refine va_get (D := (dC, dI)) (ci := 10) (v := .int (o_15.2.2)) (C := RX10) (T := TX10) (N := 24) hx hb hts iA_10 hown hK hP 0 rfl rfl 4 (by decide) (hts (.fieldLink RX10 74 "HubTreeModel" "wrong" "I") (List.mem_cons_of_mem _ m_326)) (fun _ h9 => h9) rfl dX10_items_108 ?_
                  refine lv_iconst (v := (-1)) hx hb dX10_items_111 (by decide) ?_
                  refine lv_icmp_ne (tgt := 126) hx hb dX10_items_112 (by decide) (fun c_18 => ?_) (fun c_18 => ?_)
                  · have hG := q_ifn c_18 hG
                    refine lv_iconst (v := (-1)) hx hb dX10_items_126 (by decide) ?_
                    refine lv_istore (lv' := [(6, .int (-1)), (5, .int (x5_41 ||| (1 <<< (x6_41 &&& 31)))), (0, .ref (bm 0)), (1, .int z1), (2, .ref (bm 3)), (3, .int z3), (4, .int z4)]) hx hb dX10_items_127 hl (by decide) rfl (fun ls hl => ?_)
                    refine lv_goto (tgt := 41) hx hb dX10_items_129 (by decide) ?_
                    exact ih_41 (x5_41 ||| (1 <<< (x6_41 &&& 31))) (-1) (o_15.2.1) (o_15.2.2) (upd rd_c (z3 + x6_41).toNatClampNeg o_15.1) H locs ls hG hP hD hS (lv_sub hl [0, 1, 2, 3, 4, 5, 6] rfl)
                  · have hG := q_ifp c_18 hG
                    refine lv_iload_n hx hb dX10_items_115 rfl (lv_at hl 3 rfl) ?_
                    refine lv_aload_n hx hb dX10_items_116 rfl (lv_at hl 2 rfl) ?_
                    obtain ⟨o_19, r_20, hG⟩ := q_bi hG
                    refine q_goi2 (v := o_19.1) (wr := [((bm 3), .inl ((km 3), 48, .inl (upd rd_c (z3 + x6_41).toNatClampNeg o_15.1)))]) (va_runV (As := []) (rest := [.int z1]) ⟨hx, hb, hml, hown, hts⟩ (c_X10_ahead l dC dI bm km th tn (o_15.2.1) (o_15.2.2) rm_ mn sn ac hi dn tp (va_A [((bm 0), .inr (10, [.int th, .ref (bm 1), .int tn, .int (o_15.2.1), .int (o_15.2.2), .ref (bm 2), .ref (bm 3), .int rm_, .ref (bm 4), .ref (bm 5), .int mn, .ref (bm 6), .ref (bm 7), .int sn, .ref (bm 8), .ref (bm 9), .ref (bm 10), .int ac, .long dn, .ref (bm 11), .ref (bm 12), .ref (bm 13), .ref (bm 14), .int hi])), ((bm 1), .inl ((km 1), 240, .inl tp))] H.size) o_19 r_20) (cwV 0 hts (q_gV m_331 m_332 m_333 m_5 m_334) rfl rfl rfl hdV_yX10_ahead_0 ⟨Nat.le_of_ble_eq_true rfl, Nat.le_of_ble_eq_true rfl⟩) (q_preWV hK hP hD (q := (RX10, TX10, 24)) (ci := 10) (q0 := 0) rfl rfl [0, 1] (by decide) rfl rfl [0] rfl) rfl rfl hl.1 rfl (lv_room (Nat.le_of_ble_eq_true rfl)) dX10_items_117 ⟨Nat.le_of_ble_eq_true rfl, Nat.le_of_ble_eq_true rfl⟩) hK hP hD hS hA [0, 1] [2] rfl rfl (by decide) (by decide) (fun _ H locs _ hP hD hK9 hS => ?_)
                    have hP : va_P (dC, dI) vwCl [((bm 0), .inr (10, [.int th, .ref (bm 1), .int tn, .int (o_19.2), .int (o_15.2.2), .ref (bm 2), .ref (bm 3), .int rm_, .ref (bm 4), .ref (bm 5), .int mn, .ref (bm 6), .ref (bm 7), .int sn, .ref (bm 8), .ref (bm 9), .ref (bm 10), .int ac, .long dn, .ref (bm 11), .ref (bm 12), .ref (bm 13), .ref (bm 14), .int hi])), ((bm 1), .inl ((km 1), 240, .inl tp)), ((bm 3), .inl ((km 3), 48, .inl (upd rd_c (z3 + x6_41).toNatClampNeg o_15.1)))] H := hP.sub [1, 2, 0] rfl
                    have hD : va_D A [((bm 0), .inr (10, [.int th, .ref (bm 1), .int tn, .int (o_19.2), .int (o_15.2.2), .ref (bm 2), .ref (bm 3), .int rm_, .ref (bm 4), .ref (bm 5), .int mn, .ref (bm 6), .ref (bm 7), .int sn, .ref (bm 8), .ref (bm 9), .ref (bm 10), .int ac, .long dn, .ref (bm 11), .ref (bm 12), .ref (bm 13), .ref (bm 14), .int hi])), ((bm 1), .inl ((km 1), 240, .inl tp)), ((bm 3), .inl ((km 3), 48, .inl (upd rd_c (z3 + x6_41).toNatClampNeg o_15.1)))] := hD.sub [1, 2, 0] (by decide) rfl
                    obtain ⟨o_21, r_22, hG⟩ := q_bi hG
                    refine q_goi (v := o_21) (va_runS (As := [.int z1, .int o_19.1]) (rest := []) ⟨hx, hb, hml, hown, hts⟩ (c_X10_itemOf l dC dI z1 o_19.1 o_21 r_22) (va_cwS 2 hts (q_gS m_343 m_344 m_5 m_345) rfl rfl rfl hdS_yX10_itemOf_2 ⟨Nat.le_of_ble_eq_true rfl, Nat.le_of_ble_eq_true rfl⟩) (q_preS hK hP [] rfl [] rfl) rfl rfl hl.1 rfl (lv_room (Nat.le_of_ble_eq_true rfl)) dX10_items_120 ⟨Nat.le_of_ble_eq_true rfl, Nat.le_of_ble_eq_true rfl⟩) hP hS (fun H locs hP hS => ?_)
                    refine lv_goto (tgt := 127) hx hb dX10_items_123 (by decide) ?_
                    refine lv_istore (lv' := [(6, .int o_21), (5, .int (x5_41 ||| (1 <<< (x6_41 &&& 31)))), (0, .ref (bm 0)), (1, .int z1), (2, .ref (bm 3)), (3, .int z3), (4, .int z4)]) hx hb dX10_items_127 hl (by decide) rfl (fun ls hl => ?_)
                    refine lv_goto (tgt := 41) hx hb dX10_items_129 (by decide) ?_
                    exact ih_41 (x5_41 ||| (1 <<< (x6_41 &&& 31))) o_21 (o_19.2) (o_15.2.2) (upd rd_c (z3 + x6_41).toNatClampNeg o_15.1) H locs ls hG hP hD hS (lv_sub hl [0, 1, 2, 3, 4, 5, 6] rfl)
        exact L_41 1000 0 o_4 (o_2.2) wr_c rd_c H locs ls hG hP hD hS hl
      · have hG := q_ifn c_1 hG
        refine lv_aload_n hx hb dX10_items_10 rfl (lv_at hl 3 rfl) ?_
        refine lv_iload_n hx hb dX10_items_11 rfl (lv_at hl 4 rfl) ?_
        refine lv_iload hx hb dX10_items_12 (lv_at hl 0 rfl) ?_
        refine lv_iadd hx hb dX10_items_14 ?_
        refine lv_iload_n hx hb dX10_items_15 rfl (lv_at hl 2 rfl) ?_
        refine lv_iload hx hb dX10_items_16 (lv_at hl 0 rfl) ?_
        obtain ⟨o_23, r_24, hG⟩ := q_bi hG
        refine q_goi (v := o_23) (va_runS (As := [.int z1, .int x5_3]) (rest := [.int (z3 + x5_3), .ref (bm 3)]) ⟨hx, hb, hml, hown, hts⟩ (c_X10_usual l dC dI z1 x5_3 o_23 r_24) (va_cwS 2 hts (q_gS m_328 m_329 m_5 m_330) rfl rfl rfl hdS_yX10_usual_2 ⟨Nat.le_of_ble_eq_true rfl, Nat.le_of_ble_eq_true rfl⟩) (q_preS hK hP [] rfl [] rfl) rfl rfl hl.1 rfl (lv_room (Nat.le_of_ble_eq_true rfl)) dX10_items_18 ⟨Nat.le_of_ble_eq_true rfl, Nat.le_of_ble_eq_true rfl⟩) hP hS (fun H locs hP hS => ?_)
        obtain ⟨h_25, hG⟩ := q_ix hG
        refine va_iast hx hb hK hP hD hS 2 1 rfl rfl (i := (z3 + x5_3)) (x := o_23) h_25 dX10_items_21 (fun H locs hP hD hS => ?_)
        have hP : va_P (dC, dI) vwCl [((bm 0), .inr (10, [.int th, .ref (bm 1), .int tn, .int at__c, .int wr_c, .ref (bm 2), .ref (bm 3), .int rm_, .ref (bm 4), .ref (bm 5), .int mn, .ref (bm 6), .ref (bm 7), .int sn, .ref (bm 8), .ref (bm 9), .ref (bm 10), .int ac, .long dn, .ref (bm 11), .ref (bm 12), .ref (bm 13), .ref (bm 14), .int hi])), ((bm 1), .inl ((km 1), 240, .inl tp)), ((bm 3), .inl ((km 3), 48, .inl (upd rd_c (z3 + x5_3).toNatClampNeg o_23)))] H := hP
        have hD : va_D A [((bm 0), .inr (10, [.int th, .ref (bm 1), .int tn, .int at__c, .int wr_c, .ref (bm 2), .ref (bm 3), .int rm_, .ref (bm 4), .ref (bm 5), .int mn, .ref (bm 6), .ref (bm 7), .int sn, .ref (bm 8), .ref (bm 9), .ref (bm 10), .int ac, .long dn, .ref (bm 11), .ref (bm 12), .ref (bm 13), .ref (bm 14), .int hi])), ((bm 1), .inl ((km 1), 240, .inl tp)), ((bm 3), .inl ((km 3), 48, .inl (upd rd_c (z3 + x5_3).toNatClampNeg o_23)))] := hD
        refine lv_iinc (v := (x5_3 + 1)) (lv' := [(5, .int (x5_3 + 1)), (0, .ref (bm 0)), (1, .int z1), (2, .ref (bm 3)), (3, .int z3), (4, .int z4)]) hx hb dX10_items_22 hl (k := 0) rfl (rfl) (by decide) rfl (fun ls hl => ?_)
        refine lv_goto (tgt := 3) hx hb dX10_items_25 (by decide) ?_
        exact ih_3 (x5_3 + 1) at__c wr_c (upd rd_c (z3 + x5_3).toNatClampNeg o_23) H locs ls hG hP hD hS (lv_sub hl [0, 1, 2, 3, 4, 5] rfl)
  exact L_3 1000 0 at_ wr rd s.heap [] ls hG hP hD hS hl

def FL_X10_readTree_45 (tn : Int32) (at_ : Int32) (wr : Int32) (rm_ : Int32) (tp : Nat → Int32) (rr : Nat → Int32) (rd : Nat → Int32) : Nat → Int32 → Int32 → (Int32) → (Int32) → (Int32) → (Nat → Int32) → (Nat → Int32) → Option (Int32 × Int32 × Int32 × Int32 × (Nat → Int32) × (Nat → Int32))
  | 0, _, _, _, _, _, _, _ => none
  | n + 1, x1_45, x2_45, at__c, wr_c, rm__c, rr_c, rd_c => (if x2_45 = 0 then (if wr_c = (-1) then ((F_X10_ahead tn at__c tp).bind fun o_4 => (if o_4.1 = (-1) then (if rm__c = 0 then ((F_X10_bad (o_4.2) wr_c).bind fun o_10 => some ((o_10), (o_4.2), (o_10), rm__c, rr_c, rd_c)) else some (wr_c, (o_4.2), wr_c, rm__c, rr_c, rd_c)) else ((F_X10_bad (o_4.2) wr_c).bind fun o_7 => some ((o_7), (o_4.2), (o_7), rm__c, rr_c, rd_c)))) else some (wr_c, at__c, wr_c, rm__c, rr_c, rd_c)) else (if wr_c = (-1) then ((F_X10_ahead tn at__c tp).bind fun o_22 => (if o_22.1 = 115 then (if x1_45 = 0 then ((F_X10_items_s tn ((o_22.2) + 1) wr_c tp rr_c o_22.1 0 8).bind fun o_84 => (if (o_84.2.1) = (-1) then ((F_X10_ahead tn (o_84.1) tp).bind fun o_88 => (if o_88.1 = 59 then (FL_X10_readTree_45 tn at_ wr rm_ tp rr rd n 1 1 ((o_88.2) + 1) (o_84.2.1) rm__c (o_84.2.2) rd_c) else (FL_X10_readTree_45 tn at_ wr rm_ tp rr rd n 1 0 ((o_88.2) + 0) (o_84.2.1) rm__c (o_84.2.2) rd_c))) else (FL_X10_readTree_45 tn at_ wr rm_ tp rr rd n 1 0 ((o_84.1) + 0) (o_84.2.1) rm__c (o_84.2.2) rd_c))) else (if o_22.1 = 100 then (if 8 ≤ rm__c then ((F_X10_bad (o_22.2) wr_c).bind fun o_66 => (if (o_66) = (-1) then ((F_X10_ahead tn (o_22.2) tp).bind fun o_70 => (if o_70.1 = 59 then (FL_X10_readTree_45 tn at_ wr rm_ tp rr rd n x1_45 1 ((o_70.2) + 1) (o_66) rm__c rr_c rd_c) else (FL_X10_readTree_45 tn at_ wr rm_ tp rr rd n x1_45 0 ((o_70.2) + 0) (o_66) rm__c rr_c rd_c))) else (FL_X10_readTree_45 tn at_ wr rm_ tp rr rd n x1_45 0 ((o_22.2) + 0) (o_66) rm__c rr_c rd_c))) else ((F_X10_items_d tn ((o_22.2) + 1) wr_c tp rd_c o_22.1 (6 * rm__c) 6).bind fun o_75 => (if (o_75.2.1) = (-1) then ((F_X10_ahead tn (o_75.1) tp).bind fun o_79 => (if o_79.1 = 59 then (FL_X10_readTree_45 tn at_ wr rm_ tp rr rd n x1_45 1 ((o_79.2) + 1) (o_75.2.1) (rm__c + 1) rr_c (o_75.2.2)) else (FL_X10_readTree_45 tn at_ wr rm_ tp rr rd n x1_45 0 ((o_79.2) + 0) (o_75.2.1) (rm__c + 1) rr_c (o_75.2.2)))) else (FL_X10_readTree_45 tn at_ wr rm_ tp rr rd n x1_45 0 ((o_75.1) + 0) (o_75.2.1) (rm__c + 1) rr_c (o_75.2.2))))) else ((F_X10_bad (o_22.2) wr_c).bind fun o_56 => (if (o_56) = (-1) then ((F_X10_ahead tn (o_22.2) tp).bind fun o_60 => (if o_60.1 = 59 then (FL_X10_readTree_45 tn at_ wr rm_ tp rr rd n x1_45 1 ((o_60.2) + 1) (o_56) rm__c rr_c rd_c) else (FL_X10_readTree_45 tn at_ wr rm_ tp rr rd n x1_45 0 ((o_60.2) + 0) (o_56) rm__c rr_c rd_c))) else (FL_X10_readTree_45 tn at_ wr rm_ tp rr rd n x1_45 0 ((o_22.2) + 0) (o_56) rm__c rr_c rd_c))))) else (if o_22.1 = 100 then (if 8 ≤ rm__c then ((F_X10_bad (o_22.2) wr_c).bind fun o_36 => (if (o_36) = (-1) then ((F_X10_ahead tn (o_22.2) tp).bind fun o_40 => (if o_40.1 = 59 then (FL_X10_readTree_45 tn at_ wr rm_ tp rr rd n x1_45 1 ((o_40.2) + 1) (o_36) rm__c rr_c rd_c) else (FL_X10_readTree_45 tn at_ wr rm_ tp rr rd n x1_45 0 ((o_40.2) + 0) (o_36) rm__c rr_c rd_c))) else (FL_X10_readTree_45 tn at_ wr rm_ tp rr rd n x1_45 0 ((o_22.2) + 0) (o_36) rm__c rr_c rd_c))) else ((F_X10_items_d tn ((o_22.2) + 1) wr_c tp rd_c o_22.1 (6 * rm__c) 6).bind fun o_45 => (if (o_45.2.1) = (-1) then ((F_X10_ahead tn (o_45.1) tp).bind fun o_49 => (if o_49.1 = 59 then (FL_X10_readTree_45 tn at_ wr rm_ tp rr rd n x1_45 1 ((o_49.2) + 1) (o_45.2.1) (rm__c + 1) rr_c (o_45.2.2)) else (FL_X10_readTree_45 tn at_ wr rm_ tp rr rd n x1_45 0 ((o_49.2) + 0) (o_45.2.1) (rm__c + 1) rr_c (o_45.2.2)))) else (FL_X10_readTree_45 tn at_ wr rm_ tp rr rd n x1_45 0 ((o_45.1) + 0) (o_45.2.1) (rm__c + 1) rr_c (o_45.2.2))))) else ((F_X10_bad (o_22.2) wr_c).bind fun o_26 => (if (o_26) = (-1) then ((F_X10_ahead tn (o_22.2) tp).bind fun o_30 => (if o_30.1 = 59 then (FL_X10_readTree_45 tn at_ wr rm_ tp rr rd n x1_45 1 ((o_30.2) + 1) (o_26) rm__c rr_c rd_c) else (FL_X10_readTree_45 tn at_ wr rm_ tp rr rd n x1_45 0 ((o_30.2) + 0) (o_26) rm__c rr_c rd_c))) else (FL_X10_readTree_45 tn at_ wr rm_ tp rr rd n x1_45 0 ((o_22.2) + 0) (o_26) rm__c rr_c rd_c)))))) else (if wr_c = (-1) then ((F_X10_ahead tn at__c tp).bind fun o_14 => (if o_14.1 = (-1) then (if rm__c = 0 then ((F_X10_bad (o_14.2) wr_c).bind fun o_20 => some ((o_20), (o_14.2), (o_20), rm__c, rr_c, rd_c)) else some (wr_c, (o_14.2), wr_c, rm__c, rr_c, rd_c)) else ((F_X10_bad (o_14.2) wr_c).bind fun o_17 => some ((o_17), (o_14.2), (o_17), rm__c, rr_c, rd_c)))) else some (wr_c, at__c, wr_c, rm__c, rr_c, rd_c))))

def FL_X10_readTree_19 (tn : Int32) (at_ : Int32) (wr : Int32) (rm_ : Int32) (tp : Nat → Int32) (rr : Nat → Int32) (rd : Nat → Int32) : Nat → Int32 → (Int32) → (Int32) → (Int32) → (Nat → Int32) → (Nat → Int32) → Option (Int32 × Int32 × Int32 × Int32 × (Nat → Int32) × (Nat → Int32))
  | 0, _, _, _, _, _, _ => none
  | n + 1, x2_19, at__c, wr_c, rm__c, rr_c, rd_c => (if 8 ≤ x2_19 then (FL_X10_readTree_45 tn at_ wr rm_ tp rr rd 1000 0 1 at__c wr_c rm__c rr_c rd_c) else ((F_X10_usual 115 x2_19).bind fun o_93 => (if x2_19 < 0 ∨ 8 ≤ (x2_19).toNatClampNeg then none else (FL_X10_readTree_19 tn at_ wr rm_ tp rr rd n (x2_19 + 1) at__c wr_c rm__c (upd rr_c (x2_19).toNatClampNeg o_93) rd_c))))

def F_X10_readTree (tn : Int32) (at_ : Int32) (wr : Int32) (rm_ : Int32) (tp : Nat → Int32) (rr : Nat → Int32) (rd : Nat → Int32) : Option (Int32 × Int32 × Int32 × Int32 × (Nat → Int32) × (Nat → Int32)) := (FL_X10_readTree_19 tn at_ wr rm_ tp rr rd 1000 0 0 (-1) 0 rr rd)
set_option maxHeartbeats 4000000 in
set_option maxRecDepth 100000 in
theorem c_X10_readTree (l : Launch) (dC : Nat → ClassId) (dI : Nat → Nat → Nat) (bm : Nat → Nat) (km : Nat → ClassId) (th : Int32) (tn : Int32) (at_ : Int32) (wr : Int32) (rm_ : Int32) (mn : Int32) (sn : Int32) (ac : Int32) (hi : Int32) (dn : Int64) (tp : Nat → Int32) (rr : Nat → Int32) (rd : Nat → Int32) (A : Nat → Prop) (o : Int32 × Int32 × Int32 × Int32 × (Nat → Int32) × (Nat → Int32)) (hG : F_X10_readTree tn at_ wr rm_ tp rr rd = some o) : Met l yX10_readTree (.code yX10_readTree cX10_readTree 4 (some .int) :: wA) ({ frames := 4, cells := 0, slots := 0, locals := 91 }) (va_Pc [.ref (bm 0)] (q_W (dC, dI) A [((bm 0), .inr (10, [.int th, .ref (bm 1), .int tn, .int at_, .int wr, .ref (bm 2), .ref (bm 3), .int rm_, .ref (bm 4), .ref (bm 5), .int mn, .ref (bm 6), .ref (bm 7), .int sn, .ref (bm 8), .ref (bm 9), .ref (bm 10), .int ac, .long dn, .ref (bm 11), .ref (bm 12), .ref (bm 13), .ref (bm 14), .int hi])), ((bm 1), .inl ((km 1), 240, .inl tp)), ((bm 2), .inl ((km 2), 8, .inl rr)), ((bm 3), .inl ((km 3), 48, .inl rd))] [((km 1), .int), ((km 2), .int), ((km 3), .int)])) (va_Qi (fun (r : Int32) (_ : Unit) => r = o.1 ∧ True) (fun (_ : Unit) t => q_B (dC, dI) A [((bm 0), .inr (10, [.int th, .ref (bm 1), .int tn, .int (o.2.1), .int (o.2.2.1), .ref (bm 2), .ref (bm 3), .int (o.2.2.2.1), .ref (bm 4), .ref (bm 5), .int mn, .ref (bm 6), .ref (bm 7), .int sn, .ref (bm 8), .ref (bm 9), .ref (bm 10), .int ac, .long dn, .ref (bm 11), .ref (bm 12), .ref (bm 13), .ref (bm 14), .int hi])), ((bm 1), .inl ((km 1), 240, .inl tp)), ((bm 2), .inl ((km 2), 8, .inl (o.2.2.2.2.1))), ((bm 3), .inl ((km 3), 48, .inl (o.2.2.2.2.2)))] [((km 1), .int), ((km 2), .int), ((km 3), .int)] t) A) 0 0 A := by
  refine Met.ofW (cc := cX10_readTree) (maxL := 4) (ret := (some .int)) (by decide) rfl ?_
  intro p e s m args below meth c s₁ B hml hv
  obtain ⟨rfl, hP, hK, hD, hA⟩ := hv
  have hx := B.exec
  have hb := B.bytes
  have hr := B.returns
  have hts := atoms_spec (ws := .code yX10_readTree cX10_readTree 4 (some .int) :: wA) B.pre
  have hown : s.vm.findClass RX10 = some m.cls := findClass_of_methodNamed B.named
  have hlocks := B.notSynchronized
  have hS : va_S A s.heap s.heap [] := va_S.rf
  have hl := lv_entry ([.ref (bm 0)]) (n := 4) (Nat.le_of_ble_eq_true rfl)
  rw [lg_entry_eq]
  generalize (lg_sl ([.ref (bm 0)]) ++ List.replicate (4 - (lg_sl ([.ref (bm 0)])).length) Slot.unset).toArray = ls at hl ⊢
  have hl : lv_has ls 4 [(0, .ref (bm 0))] := hl
  unfold F_X10_readTree at hG
  refine lv_aload_n hx hb dX10_readTree_0 rfl (lv_at hl 0 rfl) ?_
  refine lv_iconst (v := 0) hx hb dX10_readTree_1 (by decide) ?_
  refine va_put (D := (dC, dI)) (ci := 10) (v := .int 0) (ty := .int) (C := RX10) (T := TX10) (N := 24) hx hb hts iA_10 tyX10 tyX10_ok nmX10 hown hK hP hD hS 0 rfl rfl 3 (by decide) (hts (.fieldLink RX10 67 "HubTreeModel" "at" "I") (List.mem_cons_of_mem _ m_325)) (fun _ h9 => h9) rfl (by decide +kernel) rfl rfl (Nat.le_of_ble_eq_true rfl) dX10_readTree_2 (fun H locs hP hD hS => ?_)
  have hP : va_P (dC, dI) vwCl [((bm 0), .inr (10, [.int th, .ref (bm 1), .int tn, .int 0, .int wr, .ref (bm 2), .ref (bm 3), .int rm_, .ref (bm 4), .ref (bm 5), .int mn, .ref (bm 6), .ref (bm 7), .int sn, .ref (bm 8), .ref (bm 9), .ref (bm 10), .int ac, .long dn, .ref (bm 11), .ref (bm 12), .ref (bm 13), .ref (bm 14), .int hi])), ((bm 1), .inl ((km 1), 240, .inl tp)), ((bm 2), .inl ((km 2), 8, .inl rr)), ((bm 3), .inl ((km 3), 48, .inl rd))] H := hP
  have hD : va_D A [((bm 0), .inr (10, [.int th, .ref (bm 1), .int tn, .int 0, .int wr, .ref (bm 2), .ref (bm 3), .int rm_, .ref (bm 4), .ref (bm 5), .int mn, .ref (bm 6), .ref (bm 7), .int sn, .ref (bm 8), .ref (bm 9), .ref (bm 10), .int ac, .long dn, .ref (bm 11), .ref (bm 12), .ref (bm 13), .ref (bm 14), .int hi])), ((bm 1), .inl ((km 1), 240, .inl tp)), ((bm 2), .inl ((km 2), 8, .inl rr)), ((bm 3), .inl ((km 3), 48, .inl rd))] := hD
  refine lv_aload_n hx hb dX10_readTree_5 rfl (lv_at hl 0 rfl) ?_
  refine lv_iconst (v := (-1)) hx hb dX10_readTree_6 (by decide) ?_
  refine va_put (D := (dC, dI)) (ci := 10) (v := .int (-1)) (ty := .int) (C := RX10) (T := TX10) (N := 24) hx hb hts iA_10 tyX10 tyX10_ok nmX10 hown hK hP hD hS 0 rfl rfl 4 (by decide) (hts (.fieldLink RX10 74 "HubTreeModel" "wrong" "I") (List.mem_cons_of_mem _ m_326)) (fun _ h9 => h9) rfl (by decide +kernel) rfl rfl (Nat.le_of_ble_eq_true rfl) dX10_readTree_7 (fun H locs hP hD hS => ?_)
  have hP : va_P (dC, dI) vwCl [((bm 0), .inr (10, [.int th, .ref (bm 1), .int tn, .int 0, .int (-1), .ref (bm 2), .ref (bm 3), .int rm_, .ref (bm 4), .ref (bm 5), .int mn, .ref (bm 6), .ref (bm 7), .int sn, .ref (bm 8), .ref (bm 9), .ref (bm 10), .int ac, .long dn, .ref (bm 11), .ref (bm 12), .ref (bm 13), .ref (bm 14), .int hi])), ((bm 1), .inl ((km 1), 240, .inl tp)), ((bm 2), .inl ((km 2), 8, .inl rr)), ((bm 3), .inl ((km 3), 48, .inl rd))] H := hP
  have hD : va_D A [((bm 0), .inr (10, [.int th, .ref (bm 1), .int tn, .int 0, .int (-1), .ref (bm 2), .ref (bm 3), .int rm_, .ref (bm 4), .ref (bm 5), .int mn, .ref (bm 6), .ref (bm 7), .int sn, .ref (bm 8), .ref (bm 9), .ref (bm 10), .int ac, .long dn, .ref (bm 11), .ref (bm 12), .ref (bm 13), .ref (bm 14), .int hi])), ((bm 1), .inl ((km 1), 240, .inl tp)), ((bm 2), .inl ((km 2), 8, .inl rr)), ((bm 3), .inl ((km 3), 48, .inl rd))] := hD
  refine lv_aload_n hx hb dX10_readTree_10 rfl (lv_at hl 0 rfl) ?_
  refine lv_iconst (v := 0) hx hb dX10_readTree_11 (by decide) ?_
  refine va_put (D := (dC, dI)) (ci := 10) (v := .int 0) (ty := .int) (C := RX10) (T := TX10) (N := 24) hx hb hts iA_10 tyX10 tyX10_ok nmX10 hown hK hP hD hS 0 rfl rfl 7 (by decide) (hts (.fieldLink RX10 108 "HubTreeModel" "readMany" "I") (List.mem_cons_of_mem _ m_327)) (fun _ h9 => h9) rfl (by decide +kernel) rfl rfl (Nat.le_of_ble_eq_true rfl) dX10_readTree_12 (fun H locs hP hD hS => ?_)
  have hP : va_P (dC, dI) vwCl [((bm 0), .inr (10, [.int th, .ref (bm 1), .int tn, .int 0, .int (-1), .ref (bm 2), .ref (bm 3), .int 0, .ref (bm 4), .ref (bm 5), .int mn, .ref (bm 6), .ref (bm 7), .int sn, .ref (bm 8), .ref (bm 9), .ref (bm 10), .int ac, .long dn, .ref (bm 11), .ref (bm 12), .ref (bm 13), .ref (bm 14), .int hi])), ((bm 1), .inl ((km 1), 240, .inl tp)), ((bm 2), .inl ((km 2), 8, .inl rr)), ((bm 3), .inl ((km 3), 48, .inl rd))] H := hP
  have hD : va_D A [((bm 0), .inr (10, [.int th, .ref (bm 1), .int tn, .int 0, .int (-1), .ref (bm 2), .ref (bm 3), .int 0, .ref (bm 4), .ref (bm 5), .int mn, .ref (bm 6), .ref (bm 7), .int sn, .ref (bm 8), .ref (bm 9), .ref (bm 10), .int ac, .long dn, .ref (bm 11), .ref (bm 12), .ref (bm 13), .ref (bm 14), .int hi])), ((bm 1), .inl ((km 1), 240, .inl tp)), ((bm 2), .inl ((km 2), 8, .inl rr)), ((bm 3), .inl ((km 3), 48, .inl rd))] := hD
  refine lv_iconst (v := 0) hx hb dX10_readTree_15 (by decide) ?_
  refine lv_istore_n (lv' := [(1, .int 0), (0, .ref (bm 0))]) hx hb dX10_readTree_16 rfl hl (by decide) rfl (fun ls hl => ?_)
  refine lv_iconst (v := 0) hx hb dX10_readTree_17 (by decide) ?_
  refine lv_istore_n (lv' := [(2, .int 0), (1, .int 0), (0, .ref (bm 0))]) hx hb dX10_readTree_18 rfl hl (by decide) rfl (fun ls hl => ?_)
  have L_19 : ∀ (n_19 : Nat) (x2_19 : Int32) (at__c : Int32) (wr_c : Int32) (rm__c : Int32) (rr_c : Nat → Int32) (rd_c : Nat → Int32) (H : Heap) (locs : List Loc) (ls : Array Slot), FL_X10_readTree_19 tn at_ wr rm_ tp rr rd n_19 x2_19 at__c wr_c rm__c rr_c rd_c = some o → va_P (dC, dI) vwCl [((bm 0), .inr (10, [.int th, .ref (bm 1), .int tn, .int at__c, .int wr_c, .ref (bm 2), .ref (bm 3), .int rm__c, .ref (bm 4), .ref (bm 5), .int mn, .ref (bm 6), .ref (bm 7), .int sn, .ref (bm 8), .ref (bm 9), .ref (bm 10), .int ac, .long dn, .ref (bm 11), .ref (bm 12), .ref (bm 13), .ref (bm 14), .int hi])), ((bm 1), .inl ((km 1), 240, .inl tp)), ((bm 2), .inl ((km 2), 8, .inl rr_c)), ((bm 3), .inl ((km 3), 48, .inl rd_c))] H → va_D A [((bm 0), .inr (10, [.int th, .ref (bm 1), .int tn, .int at__c, .int wr_c, .ref (bm 2), .ref (bm 3), .int rm__c, .ref (bm 4), .ref (bm 5), .int mn, .ref (bm 6), .ref (bm 7), .int sn, .ref (bm 8), .ref (bm 9), .ref (bm 10), .int ac, .long dn, .ref (bm 11), .ref (bm 12), .ref (bm 13), .ref (bm 14), .int hi])), ((bm 1), .inl ((km 1), 240, .inl tp)), ((bm 2), .inl ((km 2), 8, .inl rr_c)), ((bm 3), .inl ((km 3), 48, .inl rd_c))] → va_S A s.heap H locs → lv_has ls 4 [(2, .int x2_19), (1, .int 0), (0, .ref (bm 0))] → W p l e (headSpec (.code yX10_readTree cX10_readTree 4 (some .int) :: wA) ({ frames := 4, cells := 0, slots := 0, locals := 91 })).room s m #[.ref (bm 0)] below meth c H locs 0 0 (MQ below (va_Qi (fun (r : Int32) (_ : Unit) => r = o.1 ∧ True) (fun (_ : Unit) t => q_B (dC, dI) A [((bm 0), .inr (10, [.int th, .ref (bm 1), .int tn, .int (o.2.1), .int (o.2.2.1), .ref (bm 2), .ref (bm 3), .int (o.2.2.2.1), .ref (bm 4), .ref (bm 5), .int mn, .ref (bm 6), .ref (bm 7), .int sn, .ref (bm 8), .ref (bm 9), .ref (bm 10), .int ac, .long dn, .ref (bm 11), .ref (bm 12), .ref (bm 13), .ref (bm 14), .int hi])), ((bm 1), .inl ((km 1), 240, .inl tp)), ((bm 2), .inl ((km 2), 8, .inl (o.2.2.2.2.1))), ((bm 3), .inl ((km 3), 48, .inl (o.2.2.2.2.2)))] [((km 1), .int), ((km 2), .int), ((km 3), .int)] t) A) #[.ref (bm 0)] s 0 0 A) (F0 m 19 ls []) := by
    intro n_19
    induction n_19 with
    | zero =>
      intro x2_19 at__c wr_c rm__c rr_c rd_c H locs ls hG
      exact q_no hG
    | succ n_19 ih_19 =>
      intro x2_19 at__c wr_c rm__c rr_c rd_c H locs ls hG hP hD hS hl
      unfold FL_X10_readTree_19 at hG
      refine lv_iload_n hx hb dX10_readTree_19 rfl (lv_at hl 0 rfl) ?_
      refine lv_bipush (v := 8) hx hb dX10_readTree_20 (by decide) ?_
      refine lv_icmp_ge (tgt := 43) hx hb dX10_readTree_22 (by decide) (fun c_1 => ?_) (fun c_1 => ?_)
      · have hG := q_ifp c_1 hG
        refine lv_iconst (v := 1) hx hb dX10_readTree_43 (by decide) ?_
        refine lv_istore_n (lv' := [(2, .int 1), (1, .int 0), (0, .ref (bm 0))]) hx hb dX10_readTree_44 rfl hl (by decide) rfl (fun ls hl => ?_)
        have L_45 : ∀ (n_45 : Nat) (x1_45 : Int32) (x2_45 : Int32) (at__c : Int32) (wr_c : Int32) (rm__c : Int32) (rr_c : Nat → Int32) (rd_c : Nat → Int32) (H : Heap) (locs : List Loc) (ls : Array Slot), FL_X10_readTree_45 tn at_ wr rm_ tp rr rd n_45 x1_45 x2_45 at__c wr_c rm__c rr_c rd_c = some o → va_P (dC, dI) vwCl [((bm 0), .inr (10, [.int th, .ref (bm 1), .int tn, .int at__c, .int wr_c, .ref (bm 2), .ref (bm 3), .int rm__c, .ref (bm 4), .ref (bm 5), .int mn, .ref (bm 6), .ref (bm 7), .int sn, .ref (bm 8), .ref (bm 9), .ref (bm 10), .int ac, .long dn, .ref (bm 11), .ref (bm 12), .ref (bm 13), .ref (bm 14), .int hi])), ((bm 1), .inl ((km 1), 240, .inl tp)), ((bm 2), .inl ((km 2), 8, .inl rr_c)), ((bm 3), .inl ((km 3), 48, .inl rd_c))] H → va_D A [((bm 0), .inr (10, [.int th, .ref (bm 1), .int tn, .int at__c, .int wr_c, .ref (bm 2), .ref (bm 3), .int rm__c, .ref (bm 4), .ref (bm 5), .int mn, .ref (bm 6), .ref (bm 7), .int sn, .ref (bm 8), .ref (bm 9), .ref (bm 10), .int ac, .long dn, .ref (bm 11), .ref (bm 12), .ref (bm 13), .ref (bm 14), .int hi])), ((bm 1), .inl ((km 1), 240, .inl tp)), ((bm 2), .inl ((km 2), 8, .inl rr_c)), ((bm 3), .inl ((km 3), 48, .inl rd_c))] → va_S A s.heap H locs → lv_has ls 4 [(2, .int x2_45), (1, .int x1_45), (0, .ref (bm 0))] → W p l e (headSpec (.code yX10_readTree cX10_readTree 4 (some .int) :: wA) ({ frames := 4, cells := 0, slots := 0, locals := 91 })).room s m #[.ref (bm 0)] below meth c H locs 0 0 (MQ below (va_Qi (fun (r : Int32) (_ : Unit) => r = o.1 ∧ True) (fun (_ : Unit) t => q_B (dC, dI) A [((bm 0), .inr (10, [.int th, .ref (bm 1), .int tn, .int (o.2.1), .int (o.2.2.1), .ref (bm 2), .ref (bm 3), .int (o.2.2.2.1), .ref (bm 4), .ref (bm 5), .int mn, .ref (bm 6), .ref (bm 7), .int sn, .ref (bm 8), .ref (bm 9), .ref (bm 10), .int ac, .long dn, .ref (bm 11), .ref (bm 12), .ref (bm 13), .ref (bm 14), .int hi])), ((bm 1), .inl ((km 1), 240, .inl tp)), ((bm 2), .inl ((km 2), 8, .inl (o.2.2.2.2.1))), ((bm 3), .inl ((km 3), 48, .inl (o.2.2.2.2.2)))] [((km 1), .int), ((km 2), .int), ((km 3), .int)] t) A) #[.ref (bm 0)] s 0 0 A) (F0 m 45 ls []) := by
          intro n_45
          induction n_45 with
          | zero =>
            intro x1_45 x2_45 at__c wr_c rm__c rr_c rd_c H locs ls hG
            exact q_no hG
          | succ n_45 ih_45 =>
            intro x1_45 x2_45 at__c wr_c rm__c rr_c rd_c H locs ls hG hP hD hS hl
            unfold FL_X10_readTree_45 at hG
            refine lv_iload_n hx hb dX10_readTree_45 rfl (lv_at hl 0 rfl) ?_
            refine lv_if_eq (tgt := 203) hx hb dX10_readTree_46 (by decide) (fun c_2 => ?_) (fun c_2 => ?_)
            · have hG := q_ifp c_2 hG
              refine lv_aload_n hx hb dX10_readTree_203 rfl (lv_at hl 2 rfl) ?_
              refine va_get (D := (dC, dI)) (ci := 10) (v := .int wr_c) (C := RX10) (T := TX10) (N := 24) hx hb hts iA_10 hown hK hP 0 rfl rfl 4 (by decide) (hts (.fieldLink RX10 74 "HubTreeModel" "wrong" "I") (List.mem_cons_of_mem _ m_326)) (fun _ h9 => h9) rfl dX10_readTree_204 ?_
              refine lv_iconst (v := (-1)) hx hb dX10_readTree_207 (by decide) ?_
              refine lv_icmp_ne (tgt := 230) hx hb dX10_readTree_208 (by decide) (fun c_3 => ?_) (fun c_3 => ?_)
              · have hG := q_ifn c_3 hG
                refine lv_aload_n hx hb dX10_readTree_230 rfl (lv_at hl 2 rfl) ?_
                refine va_get (D := (dC, dI)) (ci := 10) (v := .int wr_c) (C := RX10) (T := TX10) (N := 24) hx hb hts iA_10 hown hK hP 0 rfl rfl 4 (by decide) (hts (.fieldLink RX10 74 "HubTreeModel" "wrong" "I") (List.mem_cons_of_mem _ m_326)) (fun _ h9 => h9) rfl dX10_readTree_231 ?_
                obtain rfl := Option.some.inj hG
                have hP9 := hP.sub (ws' := [((bm 0), .inr (10, [.int th, .ref (bm 1), .int tn, .int at__c, .int wr_c, .ref (bm 2), .ref (bm 3), .int rm__c, .ref (bm 4), .ref (bm 5), .int mn, .ref (bm 6), .ref (bm 7), .int sn, .ref (bm 8), .ref (bm 9), .ref (bm 10), .int ac, .long dn, .ref (bm 11), .ref (bm 12), .ref (bm 13), .ref (bm 14), .int hi])), ((bm 1), .inl ((km 1), 240, .inl tp)), ((bm 2), .inl ((km 2), 8, .inl rr_c)), ((bm 3), .inl ((km 3), 48, .inl rd_c))]) [0, 1, 2, 3] rfl
                have hD9 := hD.sub (ws' := [((bm 0), .inr (10, [.int th, .ref (bm 1), .int tn, .int at__c, .int wr_c, .ref (bm 2), .ref (bm 3), .int rm__c, .ref (bm 4), .ref (bm 5), .int mn, .ref (bm 6), .ref (bm 7), .int sn, .ref (bm 8), .ref (bm 9), .ref (bm 10), .int ac, .long dn, .ref (bm 11), .ref (bm 12), .ref (bm 13), .ref (bm 14), .int hi])), ((bm 1), .inl ((km 1), 240, .inl tp)), ((bm 2), .inl ((km 2), 8, .inl rr_c)), ((bm 3), .inl ((km 3), 48, .inl rd_c))]) [0, 1, 2, 3] (by decide) rfl
                have hK9 := hK.sub (tys' := [((km 1), .int), ((km 2), .int), ((km 3), .int)]) [0, 1, 2] rfl
                exact W.iret (v := wr_c) hx hb hr (fun t ht hW => ⟨⟨wr_c, (), rfl, ⟨rfl, trivial⟩, by rw [ht]; exact hP9, va_K.moved hW.alike hK9, hD9⟩, hS.F ht⟩) hS.2.2 dX10_readTree_234
              · have hG := q_ifp c_3 hG
                refine lv_aload_n hx hb dX10_readTree_211 rfl (lv_at hl 2 rfl) ?_
                obtain ⟨o_4, r_5, hG⟩ := q_bi hG
                refine q_goi2 (v := o_4.1) (wr := [((bm 2), .inl ((km 2), 8, .inl rr_c)), ((bm 3), .inl ((km 3), 48, .inl rd_c))]) (va_runV (As := []) (rest := []) ⟨hx, hb, hml, hown, hts⟩ (c_X10_ahead l dC dI bm km th tn at__c wr_c rm__c mn sn ac hi dn tp (va_A [((bm 0), .inr (10, [.int th, .ref (bm 1), .int tn, .int at__c, .int wr_c, .ref (bm 2), .ref (bm 3), .int rm__c, .ref (bm 4), .ref (bm 5), .int mn, .ref (bm 6), .ref (bm 7), .int sn, .ref (bm 8), .ref (bm 9), .ref (bm 10), .int ac, .long dn, .ref (bm 11), .ref (bm 12), .ref (bm 13), .ref (bm 14), .int hi])), ((bm 1), .inl ((km 1), 240, .inl tp))] H.size) o_4 r_5) (cwV 0 hts (q_gV m_331 m_332 m_333 m_5 m_334) rfl rfl rfl hdV_yX10_ahead_0 ⟨Nat.le_of_ble_eq_true rfl, Nat.le_of_ble_eq_true rfl⟩) (q_preWV hK hP hD (q := (RX10, TX10, 24)) (ci := 10) (q0 := 0) rfl rfl [0, 1] (by decide) rfl rfl [0] rfl) rfl rfl hl.1 rfl (lv_room (Nat.le_of_ble_eq_true rfl)) dX10_readTree_212 ⟨Nat.le_of_ble_eq_true rfl, Nat.le_of_ble_eq_true rfl⟩) hK hP hD hS hA [0, 1] [2, 3] rfl rfl (by decide) (by decide) (fun _ H locs _ hP hD hK9 hS => ?_)
                have hP : va_P (dC, dI) vwCl [((bm 0), .inr (10, [.int th, .ref (bm 1), .int tn, .int (o_4.2), .int wr_c, .ref (bm 2), .ref (bm 3), .int rm__c, .ref (bm 4), .ref (bm 5), .int mn, .ref (bm 6), .ref (bm 7), .int sn, .ref (bm 8), .ref (bm 9), .ref (bm 10), .int ac, .long dn, .ref (bm 11), .ref (bm 12), .ref (bm 13), .ref (bm 14), .int hi])), ((bm 1), .inl ((km 1), 240, .inl tp)), ((bm 2), .inl ((km 2), 8, .inl rr_c)), ((bm 3), .inl ((km 3), 48, .inl rd_c))] H := hP.sub [2, 3, 0, 1] rfl
                have hD : va_D A [((bm 0), .inr (10, [.int th, .ref (bm 1), .int tn, .int (o_4.2), .int wr_c, .ref (bm 2), .ref (bm 3), .int rm__c, .ref (bm 4), .ref (bm 5), .int mn, .ref (bm 6), .ref (bm 7), .int sn, .ref (bm 8), .ref (bm 9), .ref (bm 10), .int ac, .long dn, .ref (bm 11), .ref (bm 12), .ref (bm 13), .ref (bm 14), .int hi])), ((bm 1), .inl ((km 1), 240, .inl tp)), ((bm 2), .inl ((km 2), 8, .inl rr_c)), ((bm 3), .inl ((km 3), 48, .inl rd_c))] := hD.sub [2, 3, 0, 1] (by decide) rfl
                refine lv_iconst (v := (-1)) hx hb dX10_readTree_215 (by decide) ?_
                refine lv_icmp_ne (tgt := 226) hx hb dX10_readTree_216 (by decide) (fun c_6 => ?_) (fun c_6 => ?_)
                · have hG := q_ifn c_6 hG
                  refine lv_aload_n hx hb dX10_readTree_226 rfl (lv_at hl 2 rfl) ?_
                  obtain ⟨o_7, r_8, hG⟩ := q_bi hG
                  refine q_gov2 (wr := [((bm 1), .inl ((km 1), 240, .inl tp)), ((bm 2), .inl ((km 2), 8, .inl rr_c)), ((bm 3), .inl ((km 3), 48, .inl rd_c))]) (va_runV (As := []) (rest := []) ⟨hx, hb, hml, hown, hts⟩ (c_X10_bad l dC dI bm km th tn (o_4.2) wr_c rm__c mn sn ac hi dn (va_A [((bm 0), .inr (10, [.int th, .ref (bm 1), .int tn, .int (o_4.2), .int wr_c, .ref (bm 2), .ref (bm 3), .int rm__c, .ref (bm 4), .ref (bm 5), .int mn, .ref (bm 6), .ref (bm 7), .int sn, .ref (bm 8), .ref (bm 9), .ref (bm 10), .int ac, .long dn, .ref (bm 11), .ref (bm 12), .ref (bm 13), .ref (bm 14), .int hi]))] H.size) o_7 r_8) (cwV 0 hts (q_gV m_362 m_363 m_364 m_5 m_365) rfl rfl rfl hdV_yX10_bad_0 ⟨Nat.le_of_ble_eq_true rfl, Nat.le_of_ble_eq_true rfl⟩) (q_preWV hK hP hD (q := (RX10, TX10, 24)) (ci := 10) (q0 := 0) rfl rfl [0] (by decide) rfl rfl [] rfl) rfl rfl hl.1 rfl (lv_room (Nat.le_of_ble_eq_true rfl)) dX10_readTree_227 ⟨Nat.le_of_ble_eq_true rfl, Nat.le_of_ble_eq_true rfl⟩) hK hP hD hS hA [0] [1, 2, 3] rfl rfl (by decide) (by decide) (fun _ H locs _ hP hD hK9 hS => ?_)
                  have hP : va_P (dC, dI) vwCl [((bm 0), .inr (10, [.int th, .ref (bm 1), .int tn, .int (o_4.2), .int (o_7), .ref (bm 2), .ref (bm 3), .int rm__c, .ref (bm 4), .ref (bm 5), .int mn, .ref (bm 6), .ref (bm 7), .int sn, .ref (bm 8), .ref (bm 9), .ref (bm 10), .int ac, .long dn, .ref (bm 11), .ref (bm 12), .ref (bm 13), .ref (bm 14), .int hi])), ((bm 1), .inl ((km 1), 240, .inl tp)), ((bm 2), .inl ((km 2), 8, .inl rr_c)), ((bm 3), .inl ((km 3), 48, .inl rd_c))] H := hP.sub [3, 0, 1, 2] rfl
                  have hD : va_D A [((bm 0), .inr (10, [.int th, .ref (bm 1), .int tn, .int (o_4.2), .int (o_7), .ref (bm 2), .ref (bm 3), .int rm__c, .ref (bm 4), .ref (bm 5), .int mn, .ref (bm 6), .ref (bm 7), .int sn, .ref (bm 8), .ref (bm 9), .ref (bm 10), .int ac, .long dn, .ref (bm 11), .ref (bm 12), .ref (bm 13), .ref (bm 14), .int hi])), ((bm 1), .inl ((km 1), 240, .inl tp)), ((bm 2), .inl ((km 2), 8, .inl rr_c)), ((bm 3), .inl ((km 3), 48, .inl rd_c))] := hD.sub [3, 0, 1, 2] (by decide) rfl
                  refine lv_aload_n hx hb dX10_readTree_230 rfl (lv_at hl 2 rfl) ?_
                  refine va_get (D := (dC, dI)) (ci := 10) (v := .int (o_7)) (C := RX10) (T := TX10) (N := 24) hx hb hts iA_10 hown hK hP 0 rfl rfl 4 (by decide) (hts (.fieldLink RX10 74 "HubTreeModel" "wrong" "I") (List.mem_cons_of_mem _ m_326)) (fun _ h9 => h9) rfl dX10_readTree_231 ?_
                  obtain rfl := Option.some.inj hG
                  have hP9 := hP.sub (ws' := [((bm 0), .inr (10, [.int th, .ref (bm 1), .int tn, .int (o_4.2), .int (o_7), .ref (bm 2), .ref (bm 3), .int rm__c, .ref (bm 4), .ref (bm 5), .int mn, .ref (bm 6), .ref (bm 7), .int sn, .ref (bm 8), .ref (bm 9), .ref (bm 10), .int ac, .long dn, .ref (bm 11), .ref (bm 12), .ref (bm 13), .ref (bm 14), .int hi])), ((bm 1), .inl ((km 1), 240, .inl tp)), ((bm 2), .inl ((km 2), 8, .inl rr_c)), ((bm 3), .inl ((km 3), 48, .inl rd_c))]) [0, 1, 2, 3] rfl
                  have hD9 := hD.sub (ws' := [((bm 0), .inr (10, [.int th, .ref (bm 1), .int tn, .int (o_4.2), .int (o_7), .ref (bm 2), .ref (bm 3), .int rm__c, .ref (bm 4), .ref (bm 5), .int mn, .ref (bm 6), .ref (bm 7), .int sn, .ref (bm 8), .ref (bm 9), .ref (bm 10), .int ac, .long dn, .ref (bm 11), .ref (bm 12), .ref (bm 13), .ref (bm 14), .int hi])), ((bm 1), .inl ((km 1), 240, .inl tp)), ((bm 2), .inl ((km 2), 8, .inl rr_c)), ((bm 3), .inl ((km 3), 48, .inl rd_c))]) [0, 1, 2, 3] (by decide) rfl
                  have hK9 := hK.sub (tys' := [((km 1), .int), ((km 2), .int), ((km 3), .int)]) [0, 1, 2] rfl
                  exact W.iret (v := (o_7)) hx hb hr (fun t ht hW => ⟨⟨(o_7), (), rfl, ⟨rfl, trivial⟩, by rw [ht]; exact hP9, va_K.moved hW.alike hK9, hD9⟩, hS.F ht⟩) hS.2.2 dX10_readTree_234
                · have hG := q_ifp c_6 hG
                  refine lv_aload_n hx hb dX10_readTree_219 rfl (lv_at hl 2 rfl) ?_
                  refine va_get (D := (dC, dI)) (ci := 10) (v := .int rm__c) (C := RX10) (T := TX10) (N := 24) hx hb hts iA_10 hown hK hP 0 rfl rfl 7 (by decide) (hts (.fieldLink RX10 108 "HubTreeModel" "readMany" "I") (List.mem_cons_of_mem _ m_327)) (fun _ h9 => h9) rfl dX10_readTree_220 ?_
                  refine lv_if_ne (tgt := 230) hx hb dX10_readTree_223 (by decide) (fun c_9 => ?_) (fun c_9 => ?_)
                  · have hG := q_ifn c_9 hG
                    refine lv_aload_n hx hb dX10_readTree_230 rfl (lv_at hl 2 rfl) ?_
                    refine va_get (D := (dC, dI)) (ci := 10) (v := .int wr_c) (C := RX10) (T := TX10) (N := 24) hx hb hts iA_10 hown hK hP 0 rfl rfl 4 (by decide) (hts (.fieldLink RX10 74 "HubTreeModel" "wrong" "I") (List.mem_cons_of_mem _ m_326)) (fun _ h9 => h9) rfl dX10_readTree_231 ?_
                    obtain rfl := Option.some.inj hG
                    have hP9 := hP.sub (ws' := [((bm 0), .inr (10, [.int th, .ref (bm 1), .int tn, .int (o_4.2), .int wr_c, .ref (bm 2), .ref (bm 3), .int rm__c, .ref (bm 4), .ref (bm 5), .int mn, .ref (bm 6), .ref (bm 7), .int sn, .ref (bm 8), .ref (bm 9), .ref (bm 10), .int ac, .long dn, .ref (bm 11), .ref (bm 12), .ref (bm 13), .ref (bm 14), .int hi])), ((bm 1), .inl ((km 1), 240, .inl tp)), ((bm 2), .inl ((km 2), 8, .inl rr_c)), ((bm 3), .inl ((km 3), 48, .inl rd_c))]) [0, 1, 2, 3] rfl
                    have hD9 := hD.sub (ws' := [((bm 0), .inr (10, [.int th, .ref (bm 1), .int tn, .int (o_4.2), .int wr_c, .ref (bm 2), .ref (bm 3), .int rm__c, .ref (bm 4), .ref (bm 5), .int mn, .ref (bm 6), .ref (bm 7), .int sn, .ref (bm 8), .ref (bm 9), .ref (bm 10), .int ac, .long dn, .ref (bm 11), .ref (bm 12), .ref (bm 13), .ref (bm 14), .int hi])), ((bm 1), .inl ((km 1), 240, .inl tp)), ((bm 2), .inl ((km 2), 8, .inl rr_c)), ((bm 3), .inl ((km 3), 48, .inl rd_c))]) [0, 1, 2, 3] (by decide) rfl
                    have hK9 := hK.sub (tys' := [((km 1), .int), ((km 2), .int), ((km 3), .int)]) [0, 1, 2] rfl
                    exact W.iret (v := wr_c) hx hb hr (fun t ht hW => ⟨⟨wr_c, (), rfl, ⟨rfl, trivial⟩, by rw [ht]; exact hP9, va_K.moved hW.alike hK9, hD9⟩, hS.F ht⟩) hS.2.2 dX10_readTree_234
                  · have hG := q_ifp c_9 hG
                    refine lv_aload_n hx hb dX10_readTree_226 rfl (lv_at hl 2 rfl) ?_
                    obtain ⟨o_10, r_11, hG⟩ := q_bi hG
                    refine q_gov2 (wr := [((bm 1), .inl ((km 1), 240, .inl tp)), ((bm 2), .inl ((km 2), 8, .inl rr_c)), ((bm 3), .inl ((km 3), 48, .inl rd_c))]) (va_runV (As := []) (rest := []) ⟨hx, hb, hml, hown, hts⟩ (c_X10_bad l dC dI bm km th tn (o_4.2) wr_c rm__c mn sn ac hi dn (va_A [((bm 0), .inr (10, [.int th, .ref (bm 1), .int tn, .int (o_4.2), .int wr_c, .ref (bm 2), .ref (bm 3), .int rm__c, .ref (bm 4), .ref (bm 5), .int mn, .ref (bm 6), .ref (bm 7), .int sn, .ref (bm 8), .ref (bm 9), .ref (bm 10), .int ac, .long dn, .ref (bm 11), .ref (bm 12), .ref (bm 13), .ref (bm 14), .int hi]))] H.size) o_10 r_11) (cwV 0 hts (q_gV m_362 m_363 m_364 m_5 m_365) rfl rfl rfl hdV_yX10_bad_0 ⟨Nat.le_of_ble_eq_true rfl, Nat.le_of_ble_eq_true rfl⟩) (q_preWV hK hP hD (q := (RX10, TX10, 24)) (ci := 10) (q0 := 0) rfl rfl [0] (by decide) rfl rfl [] rfl) rfl rfl hl.1 rfl (lv_room (Nat.le_of_ble_eq_true rfl)) dX10_readTree_227 ⟨Nat.le_of_ble_eq_true rfl, Nat.le_of_ble_eq_true rfl⟩) hK hP hD hS hA [0] [1, 2, 3] rfl rfl (by decide) (by decide) (fun _ H locs _ hP hD hK9 hS => ?_)
                    have hP : va_P (dC, dI) vwCl [((bm 0), .inr (10, [.int th, .ref (bm 1), .int tn, .int (o_4.2), .int (o_10), .ref (bm 2), .ref (bm 3), .int rm__c, .ref (bm 4), .ref (bm 5), .int mn, .ref (bm 6), .ref (bm 7), .int sn, .ref (bm 8), .ref (bm 9), .ref (bm 10), .int ac, .long dn, .ref (bm 11), .ref (bm 12), .ref (bm 13), .ref (bm 14), .int hi])), ((bm 1), .inl ((km 1), 240, .inl tp)), ((bm 2), .inl ((km 2), 8, .inl rr_c)), ((bm 3), .inl ((km 3), 48, .inl rd_c))] H := hP.sub [3, 0, 1, 2] rfl
                    have hD : va_D A [((bm 0), .inr (10, [.int th, .ref (bm 1), .int tn, .int (o_4.2), .int (o_10), .ref (bm 2), .ref (bm 3), .int rm__c, .ref (bm 4), .ref (bm 5), .int mn, .ref (bm 6), .ref (bm 7), .int sn, .ref (bm 8), .ref (bm 9), .ref (bm 10), .int ac, .long dn, .ref (bm 11), .ref (bm 12), .ref (bm 13), .ref (bm 14), .int hi])), ((bm 1), .inl ((km 1), 240, .inl tp)), ((bm 2), .inl ((km 2), 8, .inl rr_c)), ((bm 3), .inl ((km 3), 48, .inl rd_c))] := hD.sub [3, 0, 1, 2] (by decide) rfl
                    refine lv_aload_n hx hb dX10_readTree_230 rfl (lv_at hl 2 rfl) ?_
                    refine va_get (D := (dC, dI)) (ci := 10) (v := .int (o_10)) (C := RX10) (T := TX10) (N := 24) hx hb hts iA_10 hown hK hP 0 rfl rfl 4 (by decide) (hts (.fieldLink RX10 74 "HubTreeModel" "wrong" "I") (List.mem_cons_of_mem _ m_326)) (fun _ h9 => h9) rfl dX10_readTree_231 ?_
                    obtain rfl := Option.some.inj hG
                    have hP9 := hP.sub (ws' := [((bm 0), .inr (10, [.int th, .ref (bm 1), .int tn, .int (o_4.2), .int (o_10), .ref (bm 2), .ref (bm 3), .int rm__c, .ref (bm 4), .ref (bm 5), .int mn, .ref (bm 6), .ref (bm 7), .int sn, .ref (bm 8), .ref (bm 9), .ref (bm 10), .int ac, .long dn, .ref (bm 11), .ref (bm 12), .ref (bm 13), .ref (bm 14), .int hi])), ((bm 1), .inl ((km 1), 240, .inl tp)), ((bm 2), .inl ((km 2), 8, .inl rr_c)), ((bm 3), .inl ((km 3), 48, .inl rd_c))]) [0, 1, 2, 3] rfl
                    have hD9 := hD.sub (ws' := [((bm 0), .inr (10, [.int th, .ref (bm 1), .int tn, .int (o_4.2), .int (o_10), .ref (bm 2), .ref (bm 3), .int rm__c, .ref (bm 4), .ref (bm 5), .int mn, .ref (bm 6), .ref (bm 7), .int sn, .ref (bm 8), .ref (bm 9), .ref (bm 10), .int ac, .long dn, .ref (bm 11), .ref (bm 12), .ref (bm 13), .ref (bm 14), .int hi])), ((bm 1), .inl ((km 1), 240, .inl tp)), ((bm 2), .inl ((km 2), 8, .inl rr_c)), ((bm 3), .inl ((km 3), 48, .inl rd_c))]) [0, 1, 2, 3] (by decide) rfl
                    have hK9 := hK.sub (tys' := [((km 1), .int), ((km 2), .int), ((km 3), .int)]) [0, 1, 2] rfl
                    exact W.iret (v := (o_10)) hx hb hr (fun t ht hW => ⟨⟨(o_10), (), rfl, ⟨rfl, trivial⟩, by rw [ht]; exact hP9, va_K.moved hW.alike hK9, hD9⟩, hS.F ht⟩) hS.2.2 dX10_readTree_234
            · have hG := q_ifn c_2 hG
              refine lv_aload_n hx hb dX10_readTree_49 rfl (lv_at hl 2 rfl) ?_
              refine va_get (D := (dC, dI)) (ci := 10) (v := .int wr_c) (C := RX10) (T := TX10) (N := 24) hx hb hts iA_10 hown hK hP 0 rfl rfl 4 (by decide) (hts (.fieldLink RX10 74 "HubTreeModel" "wrong" "I") (List.mem_cons_of_mem _ m_326)) (fun _ h9 => h9) rfl dX10_readTree_50 ?_
              refine lv_iconst (v := (-1)) hx hb dX10_readTree_53 (by decide) ?_
              refine lv_icmp_ne (tgt := 203) hx hb dX10_readTree_54 (by decide) (fun c_12 => ?_) (fun c_12 => ?_)
              · have hG := q_ifn c_12 hG
                refine lv_aload_n hx hb dX10_readTree_203 rfl (lv_at hl 2 rfl) ?_
                refine va_get (D := (dC, dI)) (ci := 10) (v := .int wr_c) (C := RX10) (T := TX10) (N := 24) hx hb hts iA_10 hown hK hP 0 rfl rfl 4 (by decide) (hts (.fieldLink RX10 74 "HubTreeModel" "wrong" "I") (List.mem_cons_of_mem _ m_326)) (fun _ h9 => h9) rfl dX10_readTree_204 ?_
                refine lv_iconst (v := (-1)) hx hb dX10_readTree_207 (by decide) ?_
                refine lv_icmp_ne (tgt := 230) hx hb dX10_readTree_208 (by decide) (fun c_13 => ?_) (fun c_13 => ?_)
                · have hG := q_ifn c_13 hG
                  refine lv_aload_n hx hb dX10_readTree_230 rfl (lv_at hl 2 rfl) ?_
                  refine va_get (D := (dC, dI)) (ci := 10) (v := .int wr_c) (C := RX10) (T := TX10) (N := 24) hx hb hts iA_10 hown hK hP 0 rfl rfl 4 (by decide) (hts (.fieldLink RX10 74 "HubTreeModel" "wrong" "I") (List.mem_cons_of_mem _ m_326)) (fun _ h9 => h9) rfl dX10_readTree_231 ?_
                  obtain rfl := Option.some.inj hG
                  have hP9 := hP.sub (ws' := [((bm 0), .inr (10, [.int th, .ref (bm 1), .int tn, .int at__c, .int wr_c, .ref (bm 2), .ref (bm 3), .int rm__c, .ref (bm 4), .ref (bm 5), .int mn, .ref (bm 6), .ref (bm 7), .int sn, .ref (bm 8), .ref (bm 9), .ref (bm 10), .int ac, .long dn, .ref (bm 11), .ref (bm 12), .ref (bm 13), .ref (bm 14), .int hi])), ((bm 1), .inl ((km 1), 240, .inl tp)), ((bm 2), .inl ((km 2), 8, .inl rr_c)), ((bm 3), .inl ((km 3), 48, .inl rd_c))]) [0, 1, 2, 3] rfl
                  have hD9 := hD.sub (ws' := [((bm 0), .inr (10, [.int th, .ref (bm 1), .int tn, .int at__c, .int wr_c, .ref (bm 2), .ref (bm 3), .int rm__c, .ref (bm 4), .ref (bm 5), .int mn, .ref (bm 6), .ref (bm 7), .int sn, .ref (bm 8), .ref (bm 9), .ref (bm 10), .int ac, .long dn, .ref (bm 11), .ref (bm 12), .ref (bm 13), .ref (bm 14), .int hi])), ((bm 1), .inl ((km 1), 240, .inl tp)), ((bm 2), .inl ((km 2), 8, .inl rr_c)), ((bm 3), .inl ((km 3), 48, .inl rd_c))]) [0, 1, 2, 3] (by decide) rfl
                  have hK9 := hK.sub (tys' := [((km 1), .int), ((km 2), .int), ((km 3), .int)]) [0, 1, 2] rfl
                  exact W.iret (v := wr_c) hx hb hr (fun t ht hW => ⟨⟨wr_c, (), rfl, ⟨rfl, trivial⟩, by rw [ht]; exact hP9, va_K.moved hW.alike hK9, hD9⟩, hS.F ht⟩) hS.2.2 dX10_readTree_234
                · have hG := q_ifp c_13 hG
                  refine lv_aload_n hx hb dX10_readTree_211 rfl (lv_at hl 2 rfl) ?_
                  obtain ⟨o_14, r_15, hG⟩ := q_bi hG
                  refine q_goi2 (v := o_14.1) (wr := [((bm 2), .inl ((km 2), 8, .inl rr_c)), ((bm 3), .inl ((km 3), 48, .inl rd_c))]) (va_runV (As := []) (rest := []) ⟨hx, hb, hml, hown, hts⟩ (c_X10_ahead l dC dI bm km th tn at__c wr_c rm__c mn sn ac hi dn tp (va_A [((bm 0), .inr (10, [.int th, .ref (bm 1), .int tn, .int at__c, .int wr_c, .ref (bm 2), .ref (bm 3), .int rm__c, .ref (bm 4), .ref (bm 5), .int mn, .ref (bm 6), .ref (bm 7), .int sn, .ref (bm 8), .ref (bm 9), .ref (bm 10), .int ac, .long dn, .ref (bm 11), .ref (bm 12), .ref (bm 13), .ref (bm 14), .int hi])), ((bm 1), .inl ((km 1), 240, .inl tp))] H.size) o_14 r_15) (cwV 0 hts (q_gV m_331 m_332 m_333 m_5 m_334) rfl rfl rfl hdV_yX10_ahead_0 ⟨Nat.le_of_ble_eq_true rfl, Nat.le_of_ble_eq_true rfl⟩) (q_preWV hK hP hD (q := (RX10, TX10, 24)) (ci := 10) (q0 := 0) rfl rfl [0, 1] (by decide) rfl rfl [0] rfl) rfl rfl hl.1 rfl (lv_room (Nat.le_of_ble_eq_true rfl)) dX10_readTree_212 ⟨Nat.le_of_ble_eq_true rfl, Nat.le_of_ble_eq_true rfl⟩) hK hP hD hS hA [0, 1] [2, 3] rfl rfl (by decide) (by decide) (fun _ H locs _ hP hD hK9 hS => ?_)
                  have hP : va_P (dC, dI) vwCl [((bm 0), .inr (10, [.int th, .ref (bm 1), .int tn, .int (o_14.2), .int wr_c, .ref (bm 2), .ref (bm 3), .int rm__c, .ref (bm 4), .ref (bm 5), .int mn, .ref (bm 6), .ref (bm 7), .int sn, .ref (bm 8), .ref (bm 9), .ref (bm 10), .int ac, .long dn, .ref (bm 11), .ref (bm 12), .ref (bm 13), .ref (bm 14), .int hi])), ((bm 1), .inl ((km 1), 240, .inl tp)), ((bm 2), .inl ((km 2), 8, .inl rr_c)), ((bm 3), .inl ((km 3), 48, .inl rd_c))] H := hP.sub [2, 3, 0, 1] rfl
                  have hD : va_D A [((bm 0), .inr (10, [.int th, .ref (bm 1), .int tn, .int (o_14.2), .int wr_c, .ref (bm 2), .ref (bm 3), .int rm__c, .ref (bm 4), .ref (bm 5), .int mn, .ref (bm 6), .ref (bm 7), .int sn, .ref (bm 8), .ref (bm 9), .ref (bm 10), .int ac, .long dn, .ref (bm 11), .ref (bm 12), .ref (bm 13), .ref (bm 14), .int hi])), ((bm 1), .inl ((km 1), 240, .inl tp)), ((bm 2), .inl ((km 2), 8, .inl rr_c)), ((bm 3), .inl ((km 3), 48, .inl rd_c))] := hD.sub [2, 3, 0, 1] (by decide) rfl
                  refine lv_iconst (v := (-1)) hx hb dX10_readTree_215 (by decide) ?_
                  refine lv_icmp_ne (tgt := 226) hx hb dX10_readTree_216 (by decide) (fun c_16 => ?_) (fun c_16 => ?_)
                  · have hG := q_ifn c_16 hG
                    refine lv_aload_n hx hb dX10_readTree_226 rfl (lv_at hl 2 rfl) ?_
                    obtain ⟨o_17, r_18, hG⟩ := q_bi hG
                    refine q_gov2 (wr := [((bm 1), .inl ((km 1), 240, .inl tp)), ((bm 2), .inl ((km 2), 8, .inl rr_c)), ((bm 3), .inl ((km 3), 48, .inl rd_c))]) (va_runV (As := []) (rest := []) ⟨hx, hb, hml, hown, hts⟩ (c_X10_bad l dC dI bm km th tn (o_14.2) wr_c rm__c mn sn ac hi dn (va_A [((bm 0), .inr (10, [.int th, .ref (bm 1), .int tn, .int (o_14.2), .int wr_c, .ref (bm 2), .ref (bm 3), .int rm__c, .ref (bm 4), .ref (bm 5), .int mn, .ref (bm 6), .ref (bm 7), .int sn, .ref (bm 8), .ref (bm 9), .ref (bm 10), .int ac, .long dn, .ref (bm 11), .ref (bm 12), .ref (bm 13), .ref (bm 14), .int hi]))] H.size) o_17 r_18) (cwV 0 hts (q_gV m_362 m_363 m_364 m_5 m_365) rfl rfl rfl hdV_yX10_bad_0 ⟨Nat.le_of_ble_eq_true rfl, Nat.le_of_ble_eq_true rfl⟩) (q_preWV hK hP hD (q := (RX10, TX10, 24)) (ci := 10) (q0 := 0) rfl rfl [0] (by decide) rfl rfl [] rfl) rfl rfl hl.1 rfl (lv_room (Nat.le_of_ble_eq_true rfl)) dX10_readTree_227 ⟨Nat.le_of_ble_eq_true rfl, Nat.le_of_ble_eq_true rfl⟩) hK hP hD hS hA [0] [1, 2, 3] rfl rfl (by decide) (by decide) (fun _ H locs _ hP hD hK9 hS => ?_)
                    have hP : va_P (dC, dI) vwCl [((bm 0), .inr (10, [.int th, .ref (bm 1), .int tn, .int (o_14.2), .int (o_17), .ref (bm 2), .ref (bm 3), .int rm__c, .ref (bm 4), .ref (bm 5), .int mn, .ref (bm 6), .ref (bm 7), .int sn, .ref (bm 8), .ref (bm 9), .ref (bm 10), .int ac, .long dn, .ref (bm 11), .ref (bm 12), .ref (bm 13), .ref (bm 14), .int hi])), ((bm 1), .inl ((km 1), 240, .inl tp)), ((bm 2), .inl ((km 2), 8, .inl rr_c)), ((bm 3), .inl ((km 3), 48, .inl rd_c))] H := hP.sub [3, 0, 1, 2] rfl
                    have hD : va_D A [((bm 0), .inr (10, [.int th, .ref (bm 1), .int tn, .int (o_14.2), .int (o_17), .ref (bm 2), .ref (bm 3), .int rm__c, .ref (bm 4), .ref (bm 5), .int mn, .ref (bm 6), .ref (bm 7), .int sn, .ref (bm 8), .ref (bm 9), .ref (bm 10), .int ac, .long dn, .ref (bm 11), .ref (bm 12), .ref (bm 13), .ref (bm 14), .int hi])), ((bm 1), .inl ((km 1), 240, .inl tp)), ((bm 2), .inl ((km 2), 8, .inl rr_c)), ((bm 3), .inl ((km 3), 48, .inl rd_c))] := hD.sub [3, 0, 1, 2] (by decide) rfl
                    refine lv_aload_n hx hb dX10_readTree_230 rfl (lv_at hl 2 rfl) ?_
                    refine va_get (D := (dC, dI)) (ci := 10) (v := .int (o_17)) (C := RX10) (T := TX10) (N := 24) hx hb hts iA_10 hown hK hP 0 rfl rfl 4 (by decide) (hts (.fieldLink RX10 74 "HubTreeModel" "wrong" "I") (List.mem_cons_of_mem _ m_326)) (fun _ h9 => h9) rfl dX10_readTree_231 ?_
                    obtain rfl := Option.some.inj hG
                    have hP9 := hP.sub (ws' := [((bm 0), .inr (10, [.int th, .ref (bm 1), .int tn, .int (o_14.2), .int (o_17), .ref (bm 2), .ref (bm 3), .int rm__c, .ref (bm 4), .ref (bm 5), .int mn, .ref (bm 6), .ref (bm 7), .int sn, .ref (bm 8), .ref (bm 9), .ref (bm 10), .int ac, .long dn, .ref (bm 11), .ref (bm 12), .ref (bm 13), .ref (bm 14), .int hi])), ((bm 1), .inl ((km 1), 240, .inl tp)), ((bm 2), .inl ((km 2), 8, .inl rr_c)), ((bm 3), .inl ((km 3), 48, .inl rd_c))]) [0, 1, 2, 3] rfl
                    have hD9 := hD.sub (ws' := [((bm 0), .inr (10, [.int th, .ref (bm 1), .int tn, .int (o_14.2), .int (o_17), .ref (bm 2), .ref (bm 3), .int rm__c, .ref (bm 4), .ref (bm 5), .int mn, .ref (bm 6), .ref (bm 7), .int sn, .ref (bm 8), .ref (bm 9), .ref (bm 10), .int ac, .long dn, .ref (bm 11), .ref (bm 12), .ref (bm 13), .ref (bm 14), .int hi])), ((bm 1), .inl ((km 1), 240, .inl tp)), ((bm 2), .inl ((km 2), 8, .inl rr_c)), ((bm 3), .inl ((km 3), 48, .inl rd_c))]) [0, 1, 2, 3] (by decide) rfl
                    have hK9 := hK.sub (tys' := [((km 1), .int), ((km 2), .int), ((km 3), .int)]) [0, 1, 2] rfl
                    exact W.iret (v := (o_17)) hx hb hr (fun t ht hW => ⟨⟨(o_17), (), rfl, ⟨rfl, trivial⟩, by rw [ht]; exact hP9, va_K.moved hW.alike hK9, hD9⟩, hS.F ht⟩) hS.2.2 dX10_readTree_234
                  · have hG := q_ifp c_16 hG
                    refine lv_aload_n hx hb dX10_readTree_219 rfl (lv_at hl 2 rfl) ?_
                    refine va_get (D := (dC, dI)) (ci := 10) (v := .int rm__c) (C := RX10) (T := TX10) (N := 24) hx hb hts iA_10 hown hK hP 0 rfl rfl 7 (by decide) (hts (.fieldLink RX10 108 "HubTreeModel" "readMany" "I") (List.mem_cons_of_mem _ m_327)) (fun _ h9 => h9) rfl dX10_readTree_220 ?_
                    refine lv_if_ne (tgt := 230) hx hb dX10_readTree_223 (by decide) (fun c_19 => ?_) (fun c_19 => ?_)
                    · have hG := q_ifn c_19 hG
                      refine lv_aload_n hx hb dX10_readTree_230 rfl (lv_at hl 2 rfl) ?_
                      refine va_get (D := (dC, dI)) (ci := 10) (v := .int wr_c) (C := RX10) (T := TX10) (N := 24) hx hb hts iA_10 hown hK hP 0 rfl rfl 4 (by decide) (hts (.fieldLink RX10 74 "HubTreeModel" "wrong" "I") (List.mem_cons_of_mem _ m_326)) (fun _ h9 => h9) rfl dX10_readTree_231 ?_
                      obtain rfl := Option.some.inj hG
                      have hP9 := hP.sub (ws' := [((bm 0), .inr (10, [.int th, .ref (bm 1), .int tn, .int (o_14.2), .int wr_c, .ref (bm 2), .ref (bm 3), .int rm__c, .ref (bm 4), .ref (bm 5), .int mn, .ref (bm 6), .ref (bm 7), .int sn, .ref (bm 8), .ref (bm 9), .ref (bm 10), .int ac, .long dn, .ref (bm 11), .ref (bm 12), .ref (bm 13), .ref (bm 14), .int hi])), ((bm 1), .inl ((km 1), 240, .inl tp)), ((bm 2), .inl ((km 2), 8, .inl rr_c)), ((bm 3), .inl ((km 3), 48, .inl rd_c))]) [0, 1, 2, 3] rfl
                      have hD9 := hD.sub (ws' := [((bm 0), .inr (10, [.int th, .ref (bm 1), .int tn, .int (o_14.2), .int wr_c, .ref (bm 2), .ref (bm 3), .int rm__c, .ref (bm 4), .ref (bm 5), .int mn, .ref (bm 6), .ref (bm 7), .int sn, .ref (bm 8), .ref (bm 9), .ref (bm 10), .int ac, .long dn, .ref (bm 11), .ref (bm 12), .ref (bm 13), .ref (bm 14), .int hi])), ((bm 1), .inl ((km 1), 240, .inl tp)), ((bm 2), .inl ((km 2), 8, .inl rr_c)), ((bm 3), .inl ((km 3), 48, .inl rd_c))]) [0, 1, 2, 3] (by decide) rfl
                      have hK9 := hK.sub (tys' := [((km 1), .int), ((km 2), .int), ((km 3), .int)]) [0, 1, 2] rfl
                      exact W.iret (v := wr_c) hx hb hr (fun t ht hW => ⟨⟨wr_c, (), rfl, ⟨rfl, trivial⟩, by rw [ht]; exact hP9, va_K.moved hW.alike hK9, hD9⟩, hS.F ht⟩) hS.2.2 dX10_readTree_234
                    · have hG := q_ifp c_19 hG
                      refine lv_aload_n hx hb dX10_readTree_226 rfl (lv_at hl 2 rfl) ?_
                      obtain ⟨o_20, r_21, hG⟩ := q_bi hG
                      refine q_gov2 (wr := [((bm 1), .inl ((km 1), 240, .inl tp)), ((bm 2), .inl ((km 2), 8, .inl rr_c)), ((bm 3), .inl ((km 3), 48, .inl rd_c))]) (va_runV (As := []) (rest := []) ⟨hx, hb, hml, hown, hts⟩ (c_X10_bad l dC dI bm km th tn (o_14.2) wr_c rm__c mn sn ac hi dn (va_A [((bm 0), .inr (10, [.int th, .ref (bm 1), .int tn, .int (o_14.2), .int wr_c, .ref (bm 2), .ref (bm 3), .int rm__c, .ref (bm 4), .ref (bm 5), .int mn, .ref (bm 6), .ref (bm 7), .int sn, .ref (bm 8), .ref (bm 9), .ref (bm 10), .int ac, .long dn, .ref (bm 11), .ref (bm 12), .ref (bm 13), .ref (bm 14), .int hi]))] H.size) o_20 r_21) (cwV 0 hts (q_gV m_362 m_363 m_364 m_5 m_365) rfl rfl rfl hdV_yX10_bad_0 ⟨Nat.le_of_ble_eq_true rfl, Nat.le_of_ble_eq_true rfl⟩) (q_preWV hK hP hD (q := (RX10, TX10, 24)) (ci := 10) (q0 := 0) rfl rfl [0] (by decide) rfl rfl [] rfl) rfl rfl hl.1 rfl (lv_room (Nat.le_of_ble_eq_true rfl)) dX10_readTree_227 ⟨Nat.le_of_ble_eq_true rfl, Nat.le_of_ble_eq_true rfl⟩) hK hP hD hS hA [0] [1, 2, 3] rfl rfl (by decide) (by decide) (fun _ H locs _ hP hD hK9 hS => ?_)
                      have hP : va_P (dC, dI) vwCl [((bm 0), .inr (10, [.int th, .ref (bm 1), .int tn, .int (o_14.2), .int (o_20), .ref (bm 2), .ref (bm 3), .int rm__c, .ref (bm 4), .ref (bm 5), .int mn, .ref (bm 6), .ref (bm 7), .int sn, .ref (bm 8), .ref (bm 9), .ref (bm 10), .int ac, .long dn, .ref (bm 11), .ref (bm 12), .ref (bm 13), .ref (bm 14), .int hi])), ((bm 1), .inl ((km 1), 240, .inl tp)), ((bm 2), .inl ((km 2), 8, .inl rr_c)), ((bm 3), .inl ((km 3), 48, .inl rd_c))] H := hP.sub [3, 0, 1, 2] rfl
                      have hD : va_D A [((bm 0), .inr (10, [.int th, .ref (bm 1), .int tn, .int (o_14.2), .int (o_20), .ref (bm 2), .ref (bm 3), .int rm__c, .ref (bm 4), .ref (bm 5), .int mn, .ref (bm 6), .ref (bm 7), .int sn, .ref (bm 8), .ref (bm 9), .ref (bm 10), .int ac, .long dn, .ref (bm 11), .ref (bm 12), .ref (bm 13), .ref (bm 14), .int hi])), ((bm 1), .inl ((km 1), 240, .inl tp)), ((bm 2), .inl ((km 2), 8, .inl rr_c)), ((bm 3), .inl ((km 3), 48, .inl rd_c))] := hD.sub [3, 0, 1, 2] (by decide) rfl
                      refine lv_aload_n hx hb dX10_readTree_230 rfl (lv_at hl 2 rfl) ?_
                      refine va_get (D := (dC, dI)) (ci := 10) (v := .int (o_20)) (C := RX10) (T := TX10) (N := 24) hx hb hts iA_10 hown hK hP 0 rfl rfl 4 (by decide) (hts (.fieldLink RX10 74 "HubTreeModel" "wrong" "I") (List.mem_cons_of_mem _ m_326)) (fun _ h9 => h9) rfl dX10_readTree_231 ?_
                      obtain rfl := Option.some.inj hG
                      have hP9 := hP.sub (ws' := [((bm 0), .inr (10, [.int th, .ref (bm 1), .int tn, .int (o_14.2), .int (o_20), .ref (bm 2), .ref (bm 3), .int rm__c, .ref (bm 4), .ref (bm 5), .int mn, .ref (bm 6), .ref (bm 7), .int sn, .ref (bm 8), .ref (bm 9), .ref (bm 10), .int ac, .long dn, .ref (bm 11), .ref (bm 12), .ref (bm 13), .ref (bm 14), .int hi])), ((bm 1), .inl ((km 1), 240, .inl tp)), ((bm 2), .inl ((km 2), 8, .inl rr_c)), ((bm 3), .inl ((km 3), 48, .inl rd_c))]) [0, 1, 2, 3] rfl
                      have hD9 := hD.sub (ws' := [((bm 0), .inr (10, [.int th, .ref (bm 1), .int tn, .int (o_14.2), .int (o_20), .ref (bm 2), .ref (bm 3), .int rm__c, .ref (bm 4), .ref (bm 5), .int mn, .ref (bm 6), .ref (bm 7), .int sn, .ref (bm 8), .ref (bm 9), .ref (bm 10), .int ac, .long dn, .ref (bm 11), .ref (bm 12), .ref (bm 13), .ref (bm 14), .int hi])), ((bm 1), .inl ((km 1), 240, .inl tp)), ((bm 2), .inl ((km 2), 8, .inl rr_c)), ((bm 3), .inl ((km 3), 48, .inl rd_c))]) [0, 1, 2, 3] (by decide) rfl
                      have hK9 := hK.sub (tys' := [((km 1), .int), ((km 2), .int), ((km 3), .int)]) [0, 1, 2] rfl
                      exact W.iret (v := (o_20)) hx hb hr (fun t ht hW => ⟨⟨(o_20), (), rfl, ⟨rfl, trivial⟩, by rw [ht]; exact hP9, va_K.moved hW.alike hK9, hD9⟩, hS.F ht⟩) hS.2.2 dX10_readTree_234
              · have hG := q_ifp c_12 hG
                refine lv_aload_n hx hb dX10_readTree_57 rfl (lv_at hl 2 rfl) ?_
                obtain ⟨o_22, r_23, hG⟩ := q_bi hG
                refine q_goi2 (v := o_22.1) (wr := [((bm 2), .inl ((km 2), 8, .inl rr_c)), ((bm 3), .inl ((km 3), 48, .inl rd_c))]) (va_runV (As := []) (rest := []) ⟨hx, hb, hml, hown, hts⟩ (c_X10_ahead l dC dI bm km th tn at__c wr_c rm__c mn sn ac hi dn tp (va_A [((bm 0), .inr (10, [.int th, .ref (bm 1), .int tn, .int at__c, .int wr_c, .ref (bm 2), .ref (bm 3), .int rm__c, .ref (bm 4), .ref (bm 5), .int mn, .ref (bm 6), .ref (bm 7), .int sn, .ref (bm 8), .ref (bm 9), .ref (bm 10), .int ac, .long dn, .ref (bm 11), .ref (bm 12), .ref (bm 13), .ref (bm 14), .int hi])), ((bm 1), .inl ((km 1), 240, .inl tp))] H.size) o_22 r_23) (cwV 0 hts (q_gV m_331 m_332 m_333 m_5 m_334) rfl rfl rfl hdV_yX10_ahead_0 ⟨Nat.le_of_ble_eq_true rfl, Nat.le_of_ble_eq_true rfl⟩) (q_preWV hK hP hD (q := (RX10, TX10, 24)) (ci := 10) (q0 := 0) rfl rfl [0, 1] (by decide) rfl rfl [0] rfl) rfl rfl hl.1 rfl (lv_room (Nat.le_of_ble_eq_true rfl)) dX10_readTree_58 ⟨Nat.le_of_ble_eq_true rfl, Nat.le_of_ble_eq_true rfl⟩) hK hP hD hS hA [0, 1] [2, 3] rfl rfl (by decide) (by decide) (fun _ H locs _ hP hD hK9 hS => ?_)
                have hP : va_P (dC, dI) vwCl [((bm 0), .inr (10, [.int th, .ref (bm 1), .int tn, .int (o_22.2), .int wr_c, .ref (bm 2), .ref (bm 3), .int rm__c, .ref (bm 4), .ref (bm 5), .int mn, .ref (bm 6), .ref (bm 7), .int sn, .ref (bm 8), .ref (bm 9), .ref (bm 10), .int ac, .long dn, .ref (bm 11), .ref (bm 12), .ref (bm 13), .ref (bm 14), .int hi])), ((bm 1), .inl ((km 1), 240, .inl tp)), ((bm 2), .inl ((km 2), 8, .inl rr_c)), ((bm 3), .inl ((km 3), 48, .inl rd_c))] H := hP.sub [2, 3, 0, 1] rfl
                have hD : va_D A [((bm 0), .inr (10, [.int th, .ref (bm 1), .int tn, .int (o_22.2), .int wr_c, .ref (bm 2), .ref (bm 3), .int rm__c, .ref (bm 4), .ref (bm 5), .int mn, .ref (bm 6), .ref (bm 7), .int sn, .ref (bm 8), .ref (bm 9), .ref (bm 10), .int ac, .long dn, .ref (bm 11), .ref (bm 12), .ref (bm 13), .ref (bm 14), .int hi])), ((bm 1), .inl ((km 1), 240, .inl tp)), ((bm 2), .inl ((km 2), 8, .inl rr_c)), ((bm 3), .inl ((km 3), 48, .inl rd_c))] := hD.sub [2, 3, 0, 1] (by decide) rfl
                refine lv_istore_n (lv' := [(3, .int o_22.1), (2, .int x2_45), (1, .int x1_45), (0, .ref (bm 0))]) hx hb dX10_readTree_61 rfl hl (by decide) rfl (fun ls hl => ?_)
                refine lv_iload_n hx hb dX10_readTree_62 rfl (lv_at hl 0 rfl) ?_
                refine lv_bipush (v := 115) hx hb dX10_readTree_63 (by decide) ?_
                refine lv_icmp_ne (tgt := 99) hx hb dX10_readTree_65 (by decide) (fun c_24 => ?_) (fun c_24 => ?_)
                · have hG := q_ifn c_24 hG
                  refine lv_iload_n hx hb dX10_readTree_99 rfl (lv_at hl 0 rfl) ?_
                  refine lv_bipush (v := 100) hx hb dX10_readTree_100 (by decide) ?_
                  refine lv_icmp_ne (tgt := 155) hx hb dX10_readTree_102 (by decide) (fun c_25 => ?_) (fun c_25 => ?_)
                  · have hG := q_ifn c_25 hG
                    refine lv_aload_n hx hb dX10_readTree_155 rfl (lv_at hl 3 rfl) ?_
                    obtain ⟨o_26, r_27, hG⟩ := q_bi hG
                    refine q_gov2 (wr := [((bm 1), .inl ((km 1), 240, .inl tp)), ((bm 2), .inl ((km 2), 8, .inl rr_c)), ((bm 3), .inl ((km 3), 48, .inl rd_c))]) (va_runV (As := []) (rest := []) ⟨hx, hb, hml, hown, hts⟩ (c_X10_bad l dC dI bm km th tn (o_22.2) wr_c rm__c mn sn ac hi dn (va_A [((bm 0), .inr (10, [.int th, .ref (bm 1), .int tn, .int (o_22.2), .int wr_c, .ref (bm 2), .ref (bm 3), .int rm__c, .ref (bm 4), .ref (bm 5), .int mn, .ref (bm 6), .ref (bm 7), .int sn, .ref (bm 8), .ref (bm 9), .ref (bm 10), .int ac, .long dn, .ref (bm 11), .ref (bm 12), .ref (bm 13), .ref (bm 14), .int hi]))] H.size) o_26 r_27) (cwV 0 hts (q_gV m_362 m_363 m_364 m_5 m_365) rfl rfl rfl hdV_yX10_bad_0 ⟨Nat.le_of_ble_eq_true rfl, Nat.le_of_ble_eq_true rfl⟩) (q_preWV hK hP hD (q := (RX10, TX10, 24)) (ci := 10) (q0 := 0) rfl rfl [0] (by decide) rfl rfl [] rfl) rfl rfl hl.1 rfl (lv_room (Nat.le_of_ble_eq_true rfl)) dX10_readTree_156 ⟨Nat.le_of_ble_eq_true rfl, Nat.le_of_ble_eq_true rfl⟩) hK hP hD hS hA [0] [1, 2, 3] rfl rfl (by decide) (by decide) (fun _ H locs _ hP hD hK9 hS => ?_)
                    have hP : va_P (dC, dI) vwCl [((bm 0), .inr (10, [.int th, .ref (bm 1), .int tn, .int (o_22.2), .int (o_26), .ref (bm 2), .ref (bm 3), .int rm__c, .ref (bm 4), .ref (bm 5), .int mn, .ref (bm 6), .ref (bm 7), .int sn, .ref (bm 8), .ref (bm 9), .ref (bm 10), .int ac, .long dn, .ref (bm 11), .ref (bm 12), .ref (bm 13), .ref (bm 14), .int hi])), ((bm 1), .inl ((km 1), 240, .inl tp)), ((bm 2), .inl ((km 2), 8, .inl rr_c)), ((bm 3), .inl ((km 3), 48, .inl rd_c))] H := hP.sub [3, 0, 1, 2] rfl
                    have hD : va_D A [((bm 0), .inr (10, [.int th, .ref (bm 1), .int tn, .int (o_22.2), .int (o_26), .ref (bm 2), .ref (bm 3), .int rm__c, .ref (bm 4), .ref (bm 5), .int mn, .ref (bm 6), .ref (bm 7), .int sn, .ref (bm 8), .ref (bm 9), .ref (bm 10), .int ac, .long dn, .ref (bm 11), .ref (bm 12), .ref (bm 13), .ref (bm 14), .int hi])), ((bm 1), .inl ((km 1), 240, .inl tp)), ((bm 2), .inl ((km 2), 8, .inl rr_c)), ((bm 3), .inl ((km 3), 48, .inl rd_c))] := hD.sub [3, 0, 1, 2] (by decide) rfl
                    refine lv_aload_n hx hb dX10_readTree_159 rfl (lv_at hl 3 rfl) ?_
                    refine va_get (D := (dC, dI)) (ci := 10) (v := .int (o_26)) (C := RX10) (T := TX10) (N := 24) hx hb hts iA_10 hown hK hP 0 rfl rfl 4 (by decide) (hts (.fieldLink RX10 74 "HubTreeModel" "wrong" "I") (List.mem_cons_of_mem _ m_326)) (fun _ h9 => h9) rfl dX10_readTree_160 ?_
                    refine lv_iconst (v := (-1)) hx hb dX10_readTree_163 (by decide) ?_
                    refine lv_icmp_ne (tgt := 180) hx hb dX10_readTree_164 (by decide) (fun c_28 => ?_) (fun c_28 => ?_)
                    · have hG := q_ifn c_28 hG
                      refine lv_iconst (v := 0) hx hb dX10_readTree_180 (by decide) ?_
                      refine lv_istore_n (lv' := [(2, .int 0), (3, .int o_22.1), (1, .int x1_45), (0, .ref (bm 0))]) hx hb dX10_readTree_181 rfl hl (by decide) rfl (fun ls hl => ?_)
                      refine lv_aload_n hx hb dX10_readTree_182 rfl (lv_at hl 3 rfl) ?_
                      refine lv_dup hx hb dX10_readTree_183 rfl ?_
                      refine va_get (D := (dC, dI)) (ci := 10) (v := .int (o_22.2)) (C := RX10) (T := TX10) (N := 24) hx hb hts iA_10 hown hK hP 0 rfl rfl 3 (by decide) (hts (.fieldLink RX10 67 "HubTreeModel" "at" "I") (List.mem_cons_of_mem _ m_325)) (fun _ h9 => h9) rfl dX10_readTree_184 ?_
                      refine lv_iload_n hx hb dX10_readTree_187 rfl (lv_at hl 0 rfl) ?_
                      refine lv_if_eq (tgt := 195) hx hb dX10_readTree_188 (by decide) (fun c_29 => ?_) (fun c_29 => ?_)
                      rotate_left
                      · exact absurd (by decide) c_29
                      refine lv_iconst (v := 0) hx hb dX10_readTree_195 (by decide) ?_
                      refine lv_iadd hx hb dX10_readTree_196 ?_
                      refine va_put (D := (dC, dI)) (ci := 10) (v := .int ((o_22.2) + 0)) (ty := .int) (C := RX10) (T := TX10) (N := 24) hx hb hts iA_10 tyX10 tyX10_ok nmX10 hown hK hP hD hS 0 rfl rfl 3 (by decide) (hts (.fieldLink RX10 67 "HubTreeModel" "at" "I") (List.mem_cons_of_mem _ m_325)) (fun _ h9 => h9) rfl (by decide +kernel) rfl rfl (Nat.le_of_ble_eq_true rfl) dX10_readTree_197 (fun H locs hP hD hS => ?_)
                      have hP : va_P (dC, dI) vwCl [((bm 0), .inr (10, [.int th, .ref (bm 1), .int tn, .int ((o_22.2) + 0), .int (o_26), .ref (bm 2), .ref (bm 3), .int rm__c, .ref (bm 4), .ref (bm 5), .int mn, .ref (bm 6), .ref (bm 7), .int sn, .ref (bm 8), .ref (bm 9), .ref (bm 10), .int ac, .long dn, .ref (bm 11), .ref (bm 12), .ref (bm 13), .ref (bm 14), .int hi])), ((bm 1), .inl ((km 1), 240, .inl tp)), ((bm 2), .inl ((km 2), 8, .inl rr_c)), ((bm 3), .inl ((km 3), 48, .inl rd_c))] H := hP
                      have hD : va_D A [((bm 0), .inr (10, [.int th, .ref (bm 1), .int tn, .int ((o_22.2) + 0), .int (o_26), .ref (bm 2), .ref (bm 3), .int rm__c, .ref (bm 4), .ref (bm 5), .int mn, .ref (bm 6), .ref (bm 7), .int sn, .ref (bm 8), .ref (bm 9), .ref (bm 10), .int ac, .long dn, .ref (bm 11), .ref (bm 12), .ref (bm 13), .ref (bm 14), .int hi])), ((bm 1), .inl ((km 1), 240, .inl tp)), ((bm 2), .inl ((km 2), 8, .inl rr_c)), ((bm 3), .inl ((km 3), 48, .inl rd_c))] := hD
                      refine lv_goto (tgt := 45) hx hb dX10_readTree_200 (by decide) ?_
                      exact ih_45 x1_45 0 ((o_22.2) + 0) (o_26) rm__c rr_c rd_c H locs ls hG hP hD hS (lv_sub hl [0, 2, 3] rfl)
                    · have hG := q_ifp c_28 hG
                      refine lv_aload_n hx hb dX10_readTree_167 rfl (lv_at hl 3 rfl) ?_
                      obtain ⟨o_30, r_31, hG⟩ := q_bi hG
                      refine q_goi2 (v := o_30.1) (wr := [((bm 2), .inl ((km 2), 8, .inl rr_c)), ((bm 3), .inl ((km 3), 48, .inl rd_c))]) (va_runV (As := []) (rest := []) ⟨hx, hb, hml, hown, hts⟩ (c_X10_ahead l dC dI bm km th tn (o_22.2) (o_26) rm__c mn sn ac hi dn tp (va_A [((bm 0), .inr (10, [.int th, .ref (bm 1), .int tn, .int (o_22.2), .int (o_26), .ref (bm 2), .ref (bm 3), .int rm__c, .ref (bm 4), .ref (bm 5), .int mn, .ref (bm 6), .ref (bm 7), .int sn, .ref (bm 8), .ref (bm 9), .ref (bm 10), .int ac, .long dn, .ref (bm 11), .ref (bm 12), .ref (bm 13), .ref (bm 14), .int hi])), ((bm 1), .inl ((km 1), 240, .inl tp))] H.size) o_30 r_31) (cwV 0 hts (q_gV m_331 m_332 m_333 m_5 m_334) rfl rfl rfl hdV_yX10_ahead_0 ⟨Nat.le_of_ble_eq_true rfl, Nat.le_of_ble_eq_true rfl⟩) (q_preWV hK hP hD (q := (RX10, TX10, 24)) (ci := 10) (q0 := 0) rfl rfl [0, 1] (by decide) rfl rfl [0] rfl) rfl rfl hl.1 rfl (lv_room (Nat.le_of_ble_eq_true rfl)) dX10_readTree_168 ⟨Nat.le_of_ble_eq_true rfl, Nat.le_of_ble_eq_true rfl⟩) hK hP hD hS hA [0, 1] [2, 3] rfl rfl (by decide) (by decide) (fun _ H locs _ hP hD hK9 hS => ?_)
                      have hP : va_P (dC, dI) vwCl [((bm 0), .inr (10, [.int th, .ref (bm 1), .int tn, .int (o_30.2), .int (o_26), .ref (bm 2), .ref (bm 3), .int rm__c, .ref (bm 4), .ref (bm 5), .int mn, .ref (bm 6), .ref (bm 7), .int sn, .ref (bm 8), .ref (bm 9), .ref (bm 10), .int ac, .long dn, .ref (bm 11), .ref (bm 12), .ref (bm 13), .ref (bm 14), .int hi])), ((bm 1), .inl ((km 1), 240, .inl tp)), ((bm 2), .inl ((km 2), 8, .inl rr_c)), ((bm 3), .inl ((km 3), 48, .inl rd_c))] H := hP.sub [2, 3, 0, 1] rfl
                      have hD : va_D A [((bm 0), .inr (10, [.int th, .ref (bm 1), .int tn, .int (o_30.2), .int (o_26), .ref (bm 2), .ref (bm 3), .int rm__c, .ref (bm 4), .ref (bm 5), .int mn, .ref (bm 6), .ref (bm 7), .int sn, .ref (bm 8), .ref (bm 9), .ref (bm 10), .int ac, .long dn, .ref (bm 11), .ref (bm 12), .ref (bm 13), .ref (bm 14), .int hi])), ((bm 1), .inl ((km 1), 240, .inl tp)), ((bm 2), .inl ((km 2), 8, .inl rr_c)), ((bm 3), .inl ((km 3), 48, .inl rd_c))] := hD.sub [2, 3, 0, 1] (by decide) rfl
                      refine lv_bipush (v := 59) hx hb dX10_readTree_171 (by decide) ?_
                      refine lv_icmp_ne (tgt := 180) hx hb dX10_readTree_173 (by decide) (fun c_32 => ?_) (fun c_32 => ?_)
                      · have hG := q_ifn c_32 hG
                        refine lv_iconst (v := 0) hx hb dX10_readTree_180 (by decide) ?_
                        refine lv_istore_n (lv' := [(2, .int 0), (3, .int o_22.1), (1, .int x1_45), (0, .ref (bm 0))]) hx hb dX10_readTree_181 rfl hl (by decide) rfl (fun ls hl => ?_)
                        refine lv_aload_n hx hb dX10_readTree_182 rfl (lv_at hl 3 rfl) ?_
                        refine lv_dup hx hb dX10_readTree_183 rfl ?_
                        refine va_get (D := (dC, dI)) (ci := 10) (v := .int (o_30.2)) (C := RX10) (T := TX10) (N := 24) hx hb hts iA_10 hown hK hP 0 rfl rfl 3 (by decide) (hts (.fieldLink RX10 67 "HubTreeModel" "at" "I") (List.mem_cons_of_mem _ m_325)) (fun _ h9 => h9) rfl dX10_readTree_184 ?_
                        refine lv_iload_n hx hb dX10_readTree_187 rfl (lv_at hl 0 rfl) ?_
                        refine lv_if_eq (tgt := 195) hx hb dX10_readTree_188 (by decide) (fun c_33 => ?_) (fun c_33 => ?_)
                        rotate_left
                        · exact absurd (by decide) c_33
                        refine lv_iconst (v := 0) hx hb dX10_readTree_195 (by decide) ?_
                        refine lv_iadd hx hb dX10_readTree_196 ?_
                        refine va_put (D := (dC, dI)) (ci := 10) (v := .int ((o_30.2) + 0)) (ty := .int) (C := RX10) (T := TX10) (N := 24) hx hb hts iA_10 tyX10 tyX10_ok nmX10 hown hK hP hD hS 0 rfl rfl 3 (by decide) (hts (.fieldLink RX10 67 "HubTreeModel" "at" "I") (List.mem_cons_of_mem _ m_325)) (fun _ h9 => h9) rfl (by decide +kernel) rfl rfl (Nat.le_of_ble_eq_true rfl) dX10_readTree_197 (fun H locs hP hD hS => ?_)
                        have hP : va_P (dC, dI) vwCl [((bm 0), .inr (10, [.int th, .ref (bm 1), .int tn, .int ((o_30.2) + 0), .int (o_26), .ref (bm 2), .ref (bm 3), .int rm__c, .ref (bm 4), .ref (bm 5), .int mn, .ref (bm 6), .ref (bm 7), .int sn, .ref (bm 8), .ref (bm 9), .ref (bm 10), .int ac, .long dn, .ref (bm 11), .ref (bm 12), .ref (bm 13), .ref (bm 14), .int hi])), ((bm 1), .inl ((km 1), 240, .inl tp)), ((bm 2), .inl ((km 2), 8, .inl rr_c)), ((bm 3), .inl ((km 3), 48, .inl rd_c))] H := hP
                        have hD : va_D A [((bm 0), .inr (10, [.int th, .ref (bm 1), .int tn, .int ((o_30.2) + 0), .int (o_26), .ref (bm 2), .ref (bm 3), .int rm__c, .ref (bm 4), .ref (bm 5), .int mn, .ref (bm 6), .ref (bm 7), .int sn, .ref (bm 8), .ref (bm 9), .ref (bm 10), .int ac, .long dn, .ref (bm 11), .ref (bm 12), .ref (bm 13), .ref (bm 14), .int hi])), ((bm 1), .inl ((km 1), 240, .inl tp)), ((bm 2), .inl ((km 2), 8, .inl rr_c)), ((bm 3), .inl ((km 3), 48, .inl rd_c))] := hD
                        refine lv_goto (tgt := 45) hx hb dX10_readTree_200 (by decide) ?_
                        exact ih_45 x1_45 0 ((o_30.2) + 0) (o_26) rm__c rr_c rd_c H locs ls hG hP hD hS (lv_sub hl [0, 2, 3] rfl)
                      · have hG := q_ifp c_32 hG
                        refine lv_iconst (v := 1) hx hb dX10_readTree_176 (by decide) ?_
                        refine lv_goto (tgt := 181) hx hb dX10_readTree_177 (by decide) ?_
                        refine lv_istore_n (lv' := [(2, .int 1), (3, .int o_22.1), (1, .int x1_45), (0, .ref (bm 0))]) hx hb dX10_readTree_181 rfl hl (by decide) rfl (fun ls hl => ?_)
                        refine lv_aload_n hx hb dX10_readTree_182 rfl (lv_at hl 3 rfl) ?_
                        refine lv_dup hx hb dX10_readTree_183 rfl ?_
                        refine va_get (D := (dC, dI)) (ci := 10) (v := .int (o_30.2)) (C := RX10) (T := TX10) (N := 24) hx hb hts iA_10 hown hK hP 0 rfl rfl 3 (by decide) (hts (.fieldLink RX10 67 "HubTreeModel" "at" "I") (List.mem_cons_of_mem _ m_325)) (fun _ h9 => h9) rfl dX10_readTree_184 ?_
                        refine lv_iload_n hx hb dX10_readTree_187 rfl (lv_at hl 0 rfl) ?_
                        refine lv_if_eq (tgt := 195) hx hb dX10_readTree_188 (by decide) (fun c_34 => ?_) (fun c_34 => ?_)
                        · exact absurd c_34 (by decide)
                        refine lv_iconst (v := 1) hx hb dX10_readTree_191 (by decide) ?_
                        refine lv_goto (tgt := 196) hx hb dX10_readTree_192 (by decide) ?_
                        refine lv_iadd hx hb dX10_readTree_196 ?_
                        refine va_put (D := (dC, dI)) (ci := 10) (v := .int ((o_30.2) + 1)) (ty := .int) (C := RX10) (T := TX10) (N := 24) hx hb hts iA_10 tyX10 tyX10_ok nmX10 hown hK hP hD hS 0 rfl rfl 3 (by decide) (hts (.fieldLink RX10 67 "HubTreeModel" "at" "I") (List.mem_cons_of_mem _ m_325)) (fun _ h9 => h9) rfl (by decide +kernel) rfl rfl (Nat.le_of_ble_eq_true rfl) dX10_readTree_197 (fun H locs hP hD hS => ?_)
                        have hP : va_P (dC, dI) vwCl [((bm 0), .inr (10, [.int th, .ref (bm 1), .int tn, .int ((o_30.2) + 1), .int (o_26), .ref (bm 2), .ref (bm 3), .int rm__c, .ref (bm 4), .ref (bm 5), .int mn, .ref (bm 6), .ref (bm 7), .int sn, .ref (bm 8), .ref (bm 9), .ref (bm 10), .int ac, .long dn, .ref (bm 11), .ref (bm 12), .ref (bm 13), .ref (bm 14), .int hi])), ((bm 1), .inl ((km 1), 240, .inl tp)), ((bm 2), .inl ((km 2), 8, .inl rr_c)), ((bm 3), .inl ((km 3), 48, .inl rd_c))] H := hP
                        have hD : va_D A [((bm 0), .inr (10, [.int th, .ref (bm 1), .int tn, .int ((o_30.2) + 1), .int (o_26), .ref (bm 2), .ref (bm 3), .int rm__c, .ref (bm 4), .ref (bm 5), .int mn, .ref (bm 6), .ref (bm 7), .int sn, .ref (bm 8), .ref (bm 9), .ref (bm 10), .int ac, .long dn, .ref (bm 11), .ref (bm 12), .ref (bm 13), .ref (bm 14), .int hi])), ((bm 1), .inl ((km 1), 240, .inl tp)), ((bm 2), .inl ((km 2), 8, .inl rr_c)), ((bm 3), .inl ((km 3), 48, .inl rd_c))] := hD
                        refine lv_goto (tgt := 45) hx hb dX10_readTree_200 (by decide) ?_
                        exact ih_45 x1_45 1 ((o_30.2) + 1) (o_26) rm__c rr_c rd_c H locs ls hG hP hD hS (lv_sub hl [0, 2, 3] rfl)
                  · have hG := q_ifp c_25 hG
                    refine lv_aload_n hx hb dX10_readTree_105 rfl (lv_at hl 3 rfl) ?_
                    refine va_get (D := (dC, dI)) (ci := 10) (v := .int rm__c) (C := RX10) (T := TX10) (N := 24) hx hb hts iA_10 hown hK hP 0 rfl rfl 7 (by decide) (hts (.fieldLink RX10 108 "HubTreeModel" "readMany" "I") (List.mem_cons_of_mem _ m_327)) (fun _ h9 => h9) rfl dX10_readTree_106 ?_
                    refine lv_bipush (v := 8) hx hb dX10_readTree_109 (by decide) ?_
                    refine lv_icmp_ge (tgt := 155) hx hb dX10_readTree_111 (by decide) (fun c_35 => ?_) (fun c_35 => ?_)
                    · have hG := q_ifp c_35 hG
                      refine lv_aload_n hx hb dX10_readTree_155 rfl (lv_at hl 3 rfl) ?_
                      obtain ⟨o_36, r_37, hG⟩ := q_bi hG
                      refine q_gov2 (wr := [((bm 1), .inl ((km 1), 240, .inl tp)), ((bm 2), .inl ((km 2), 8, .inl rr_c)), ((bm 3), .inl ((km 3), 48, .inl rd_c))]) (va_runV (As := []) (rest := []) ⟨hx, hb, hml, hown, hts⟩ (c_X10_bad l dC dI bm km th tn (o_22.2) wr_c rm__c mn sn ac hi dn (va_A [((bm 0), .inr (10, [.int th, .ref (bm 1), .int tn, .int (o_22.2), .int wr_c, .ref (bm 2), .ref (bm 3), .int rm__c, .ref (bm 4), .ref (bm 5), .int mn, .ref (bm 6), .ref (bm 7), .int sn, .ref (bm 8), .ref (bm 9), .ref (bm 10), .int ac, .long dn, .ref (bm 11), .ref (bm 12), .ref (bm 13), .ref (bm 14), .int hi]))] H.size) o_36 r_37) (cwV 0 hts (q_gV m_362 m_363 m_364 m_5 m_365) rfl rfl rfl hdV_yX10_bad_0 ⟨Nat.le_of_ble_eq_true rfl, Nat.le_of_ble_eq_true rfl⟩) (q_preWV hK hP hD (q := (RX10, TX10, 24)) (ci := 10) (q0 := 0) rfl rfl [0] (by decide) rfl rfl [] rfl) rfl rfl hl.1 rfl (lv_room (Nat.le_of_ble_eq_true rfl)) dX10_readTree_156 ⟨Nat.le_of_ble_eq_true rfl, Nat.le_of_ble_eq_true rfl⟩) hK hP hD hS hA [0] [1, 2, 3] rfl rfl (by decide) (by decide) (fun _ H locs _ hP hD hK9 hS => ?_)
                      have hP : va_P (dC, dI) vwCl [((bm 0), .inr (10, [.int th, .ref (bm 1), .int tn, .int (o_22.2), .int (o_36), .ref (bm 2), .ref (bm 3), .int rm__c, .ref (bm 4), .ref (bm 5), .int mn, .ref (bm 6), .ref (bm 7), .int sn, .ref (bm 8), .ref (bm 9), .ref (bm 10), .int ac, .long dn, .ref (bm 11), .ref (bm 12), .ref (bm 13), .ref (bm 14), .int hi])), ((bm 1), .inl ((km 1), 240, .inl tp)), ((bm 2), .inl ((km 2), 8, .inl rr_c)), ((bm 3), .inl ((km 3), 48, .inl rd_c))] H := hP.sub [3, 0, 1, 2] rfl
                      have hD : va_D A [((bm 0), .inr (10, [.int th, .ref (bm 1), .int tn, .int (o_22.2), .int (o_36), .ref (bm 2), .ref (bm 3), .int rm__c, .ref (bm 4), .ref (bm 5), .int mn, .ref (bm 6), .ref (bm 7), .int sn, .ref (bm 8), .ref (bm 9), .ref (bm 10), .int ac, .long dn, .ref (bm 11), .ref (bm 12), .ref (bm 13), .ref (bm 14), .int hi])), ((bm 1), .inl ((km 1), 240, .inl tp)), ((bm 2), .inl ((km 2), 8, .inl rr_c)), ((bm 3), .inl ((km 3), 48, .inl rd_c))] := hD.sub [3, 0, 1, 2] (by decide) rfl
                      refine lv_aload_n hx hb dX10_readTree_159 rfl (lv_at hl 3 rfl) ?_
                      refine va_get (D := (dC, dI)) (ci := 10) (v := .int (o_36)) (C := RX10) (T := TX10) (N := 24) hx hb hts iA_10 hown hK hP 0 rfl rfl 4 (by decide) (hts (.fieldLink RX10 74 "HubTreeModel" "wrong" "I") (List.mem_cons_of_mem _ m_326)) (fun _ h9 => h9) rfl dX10_readTree_160 ?_
                      refine lv_iconst (v := (-1)) hx hb dX10_readTree_163 (by decide) ?_
                      refine lv_icmp_ne (tgt := 180) hx hb dX10_readTree_164 (by decide) (fun c_38 => ?_) (fun c_38 => ?_)
                      · have hG := q_ifn c_38 hG
                        refine lv_iconst (v := 0) hx hb dX10_readTree_180 (by decide) ?_
                        refine lv_istore_n (lv' := [(2, .int 0), (3, .int o_22.1), (1, .int x1_45), (0, .ref (bm 0))]) hx hb dX10_readTree_181 rfl hl (by decide) rfl (fun ls hl => ?_)
                        refine lv_aload_n hx hb dX10_readTree_182 rfl (lv_at hl 3 rfl) ?_
                        refine lv_dup hx hb dX10_readTree_183 rfl ?_
                        refine va_get (D := (dC, dI)) (ci := 10) (v := .int (o_22.2)) (C := RX10) (T := TX10) (N := 24) hx hb hts iA_10 hown hK hP 0 rfl rfl 3 (by decide) (hts (.fieldLink RX10 67 "HubTreeModel" "at" "I") (List.mem_cons_of_mem _ m_325)) (fun _ h9 => h9) rfl dX10_readTree_184 ?_
                        refine lv_iload_n hx hb dX10_readTree_187 rfl (lv_at hl 0 rfl) ?_
                        refine lv_if_eq (tgt := 195) hx hb dX10_readTree_188 (by decide) (fun c_39 => ?_) (fun c_39 => ?_)
                        rotate_left
                        · exact absurd (by decide) c_39
                        refine lv_iconst (v := 0) hx hb dX10_readTree_195 (by decide) ?_
                        refine lv_iadd hx hb dX10_readTree_196 ?_
                        refine va_put (D := (dC, dI)) (ci := 10) (v := .int ((o_22.2) + 0)) (ty := .int) (C := RX10) (T := TX10) (N := 24) hx hb hts iA_10 tyX10 tyX10_ok nmX10 hown hK hP hD hS 0 rfl rfl 3 (by decide) (hts (.fieldLink RX10 67 "HubTreeModel" "at" "I") (List.mem_cons_of_mem _ m_325)) (fun _ h9 => h9) rfl (by decide +kernel) rfl rfl (Nat.le_of_ble_eq_true rfl) dX10_readTree_197 (fun H locs hP hD hS => ?_)
                        have hP : va_P (dC, dI) vwCl [((bm 0), .inr (10, [.int th, .ref (bm 1), .int tn, .int ((o_22.2) + 0), .int (o_36), .ref (bm 2), .ref (bm 3), .int rm__c, .ref (bm 4), .ref (bm 5), .int mn, .ref (bm 6), .ref (bm 7), .int sn, .ref (bm 8), .ref (bm 9), .ref (bm 10), .int ac, .long dn, .ref (bm 11), .ref (bm 12), .ref (bm 13), .ref (bm 14), .int hi])), ((bm 1), .inl ((km 1), 240, .inl tp)), ((bm 2), .inl ((km 2), 8, .inl rr_c)), ((bm 3), .inl ((km 3), 48, .inl rd_c))] H := hP
                        have hD : va_D A [((bm 0), .inr (10, [.int th, .ref (bm 1), .int tn, .int ((o_22.2) + 0), .int (o_36), .ref (bm 2), .ref (bm 3), .int rm__c, .ref (bm 4), .ref (bm 5), .int mn, .ref (bm 6), .ref (bm 7), .int sn, .ref (bm 8), .ref (bm 9), .ref (bm 10), .int ac, .long dn, .ref (bm 11), .ref (bm 12), .ref (bm 13), .ref (bm 14), .int hi])), ((bm 1), .inl ((km 1), 240, .inl tp)), ((bm 2), .inl ((km 2), 8, .inl rr_c)), ((bm 3), .inl ((km 3), 48, .inl rd_c))] := hD
                        refine lv_goto (tgt := 45) hx hb dX10_readTree_200 (by decide) ?_
                        exact ih_45 x1_45 0 ((o_22.2) + 0) (o_36) rm__c rr_c rd_c H locs ls hG hP hD hS (lv_sub hl [0, 2, 3] rfl)
                      · have hG := q_ifp c_38 hG
                        refine lv_aload_n hx hb dX10_readTree_167 rfl (lv_at hl 3 rfl) ?_
                        obtain ⟨o_40, r_41, hG⟩ := q_bi hG
                        refine q_goi2 (v := o_40.1) (wr := [((bm 2), .inl ((km 2), 8, .inl rr_c)), ((bm 3), .inl ((km 3), 48, .inl rd_c))]) (va_runV (As := []) (rest := []) ⟨hx, hb, hml, hown, hts⟩ (c_X10_ahead l dC dI bm km th tn (o_22.2) (o_36) rm__c mn sn ac hi dn tp (va_A [((bm 0), .inr (10, [.int th, .ref (bm 1), .int tn, .int (o_22.2), .int (o_36), .ref (bm 2), .ref (bm 3), .int rm__c, .ref (bm 4), .ref (bm 5), .int mn, .ref (bm 6), .ref (bm 7), .int sn, .ref (bm 8), .ref (bm 9), .ref (bm 10), .int ac, .long dn, .ref (bm 11), .ref (bm 12), .ref (bm 13), .ref (bm 14), .int hi])), ((bm 1), .inl ((km 1), 240, .inl tp))] H.size) o_40 r_41) (cwV 0 hts (q_gV m_331 m_332 m_333 m_5 m_334) rfl rfl rfl hdV_yX10_ahead_0 ⟨Nat.le_of_ble_eq_true rfl, Nat.le_of_ble_eq_true rfl⟩) (q_preWV hK hP hD (q := (RX10, TX10, 24)) (ci := 10) (q0 := 0) rfl rfl [0, 1] (by decide) rfl rfl [0] rfl) rfl rfl hl.1 rfl (lv_room (Nat.le_of_ble_eq_true rfl)) dX10_readTree_168 ⟨Nat.le_of_ble_eq_true rfl, Nat.le_of_ble_eq_true rfl⟩) hK hP hD hS hA [0, 1] [2, 3] rfl rfl (by decide) (by decide) (fun _ H locs _ hP hD hK9 hS => ?_)
                        have hP : va_P (dC, dI) vwCl [((bm 0), .inr (10, [.int th, .ref (bm 1), .int tn, .int (o_40.2), .int (o_36), .ref (bm 2), .ref (bm 3), .int rm__c, .ref (bm 4), .ref (bm 5), .int mn, .ref (bm 6), .ref (bm 7), .int sn, .ref (bm 8), .ref (bm 9), .ref (bm 10), .int ac, .long dn, .ref (bm 11), .ref (bm 12), .ref (bm 13), .ref (bm 14), .int hi])), ((bm 1), .inl ((km 1), 240, .inl tp)), ((bm 2), .inl ((km 2), 8, .inl rr_c)), ((bm 3), .inl ((km 3), 48, .inl rd_c))] H := hP.sub [2, 3, 0, 1] rfl
                        have hD : va_D A [((bm 0), .inr (10, [.int th, .ref (bm 1), .int tn, .int (o_40.2), .int (o_36), .ref (bm 2), .ref (bm 3), .int rm__c, .ref (bm 4), .ref (bm 5), .int mn, .ref (bm 6), .ref (bm 7), .int sn, .ref (bm 8), .ref (bm 9), .ref (bm 10), .int ac, .long dn, .ref (bm 11), .ref (bm 12), .ref (bm 13), .ref (bm 14), .int hi])), ((bm 1), .inl ((km 1), 240, .inl tp)), ((bm 2), .inl ((km 2), 8, .inl rr_c)), ((bm 3), .inl ((km 3), 48, .inl rd_c))] := hD.sub [2, 3, 0, 1] (by decide) rfl
                        refine lv_bipush (v := 59) hx hb dX10_readTree_171 (by decide) ?_
                        refine lv_icmp_ne (tgt := 180) hx hb dX10_readTree_173 (by decide) (fun c_42 => ?_) (fun c_42 => ?_)
                        · have hG := q_ifn c_42 hG
                          refine lv_iconst (v := 0) hx hb dX10_readTree_180 (by decide) ?_
                          refine lv_istore_n (lv' := [(2, .int 0), (3, .int o_22.1), (1, .int x1_45), (0, .ref (bm 0))]) hx hb dX10_readTree_181 rfl hl (by decide) rfl (fun ls hl => ?_)
                          refine lv_aload_n hx hb dX10_readTree_182 rfl (lv_at hl 3 rfl) ?_
                          refine lv_dup hx hb dX10_readTree_183 rfl ?_
                          refine va_get (D := (dC, dI)) (ci := 10) (v := .int (o_40.2)) (C := RX10) (T := TX10) (N := 24) hx hb hts iA_10 hown hK hP 0 rfl rfl 3 (by decide) (hts (.fieldLink RX10 67 "HubTreeModel" "at" "I") (List.mem_cons_of_mem _ m_325)) (fun _ h9 => h9) rfl dX10_readTree_184 ?_
                          refine lv_iload_n hx hb dX10_readTree_187 rfl (lv_at hl 0 rfl) ?_
                          refine lv_if_eq (tgt := 195) hx hb dX10_readTree_188 (by decide) (fun c_43 => ?_) (fun c_43 => ?_)
                          rotate_left
                          · exact absurd (by decide) c_43
                          refine lv_iconst (v := 0) hx hb dX10_readTree_195 (by decide) ?_
                          refine lv_iadd hx hb dX10_readTree_196 ?_
                          refine va_put (D := (dC, dI)) (ci := 10) (v := .int ((o_40.2) + 0)) (ty := .int) (C := RX10) (T := TX10) (N := 24) hx hb hts iA_10 tyX10 tyX10_ok nmX10 hown hK hP hD hS 0 rfl rfl 3 (by decide) (hts (.fieldLink RX10 67 "HubTreeModel" "at" "I") (List.mem_cons_of_mem _ m_325)) (fun _ h9 => h9) rfl (by decide +kernel) rfl rfl (Nat.le_of_ble_eq_true rfl) dX10_readTree_197 (fun H locs hP hD hS => ?_)
                          have hP : va_P (dC, dI) vwCl [((bm 0), .inr (10, [.int th, .ref (bm 1), .int tn, .int ((o_40.2) + 0), .int (o_36), .ref (bm 2), .ref (bm 3), .int rm__c, .ref (bm 4), .ref (bm 5), .int mn, .ref (bm 6), .ref (bm 7), .int sn, .ref (bm 8), .ref (bm 9), .ref (bm 10), .int ac, .long dn, .ref (bm 11), .ref (bm 12), .ref (bm 13), .ref (bm 14), .int hi])), ((bm 1), .inl ((km 1), 240, .inl tp)), ((bm 2), .inl ((km 2), 8, .inl rr_c)), ((bm 3), .inl ((km 3), 48, .inl rd_c))] H := hP
                          have hD : va_D A [((bm 0), .inr (10, [.int th, .ref (bm 1), .int tn, .int ((o_40.2) + 0), .int (o_36), .ref (bm 2), .ref (bm 3), .int rm__c, .ref (bm 4), .ref (bm 5), .int mn, .ref (bm 6), .ref (bm 7), .int sn, .ref (bm 8), .ref (bm 9), .ref (bm 10), .int ac, .long dn, .ref (bm 11), .ref (bm 12), .ref (bm 13), .ref (bm 14), .int hi])), ((bm 1), .inl ((km 1), 240, .inl tp)), ((bm 2), .inl ((km 2), 8, .inl rr_c)), ((bm 3), .inl ((km 3), 48, .inl rd_c))] := hD
                          refine lv_goto (tgt := 45) hx hb dX10_readTree_200 (by decide) ?_
                          exact ih_45 x1_45 0 ((o_40.2) + 0) (o_36) rm__c rr_c rd_c H locs ls hG hP hD hS (lv_sub hl [0, 2, 3] rfl)
                        · have hG := q_ifp c_42 hG
                          refine lv_iconst (v := 1) hx hb dX10_readTree_176 (by decide) ?_
                          refine lv_goto (tgt := 181) hx hb dX10_readTree_177 (by decide) ?_
                          refine lv_istore_n (lv' := [(2, .int 1), (3, .int o_22.1), (1, .int x1_45), (0, .ref (bm 0))]) hx hb dX10_readTree_181 rfl hl (by decide) rfl (fun ls hl => ?_)
                          refine lv_aload_n hx hb dX10_readTree_182 rfl (lv_at hl 3 rfl) ?_
                          refine lv_dup hx hb dX10_readTree_183 rfl ?_
                          refine va_get (D := (dC, dI)) (ci := 10) (v := .int (o_40.2)) (C := RX10) (T := TX10) (N := 24) hx hb hts iA_10 hown hK hP 0 rfl rfl 3 (by decide) (hts (.fieldLink RX10 67 "HubTreeModel" "at" "I") (List.mem_cons_of_mem _ m_325)) (fun _ h9 => h9) rfl dX10_readTree_184 ?_
                          refine lv_iload_n hx hb dX10_readTree_187 rfl (lv_at hl 0 rfl) ?_
                          refine lv_if_eq (tgt := 195) hx hb dX10_readTree_188 (by decide) (fun c_44 => ?_) (fun c_44 => ?_)
                          · exact absurd c_44 (by decide)
                          refine lv_iconst (v := 1) hx hb dX10_readTree_191 (by decide) ?_
                          refine lv_goto (tgt := 196) hx hb dX10_readTree_192 (by decide) ?_
                          refine lv_iadd hx hb dX10_readTree_196 ?_
                          refine va_put (D := (dC, dI)) (ci := 10) (v := .int ((o_40.2) + 1)) (ty := .int) (C := RX10) (T := TX10) (N := 24) hx hb hts iA_10 tyX10 tyX10_ok nmX10 hown hK hP hD hS 0 rfl rfl 3 (by decide) (hts (.fieldLink RX10 67 "HubTreeModel" "at" "I") (List.mem_cons_of_mem _ m_325)) (fun _ h9 => h9) rfl (by decide +kernel) rfl rfl (Nat.le_of_ble_eq_true rfl) dX10_readTree_197 (fun H locs hP hD hS => ?_)
                          have hP : va_P (dC, dI) vwCl [((bm 0), .inr (10, [.int th, .ref (bm 1), .int tn, .int ((o_40.2) + 1), .int (o_36), .ref (bm 2), .ref (bm 3), .int rm__c, .ref (bm 4), .ref (bm 5), .int mn, .ref (bm 6), .ref (bm 7), .int sn, .ref (bm 8), .ref (bm 9), .ref (bm 10), .int ac, .long dn, .ref (bm 11), .ref (bm 12), .ref (bm 13), .ref (bm 14), .int hi])), ((bm 1), .inl ((km 1), 240, .inl tp)), ((bm 2), .inl ((km 2), 8, .inl rr_c)), ((bm 3), .inl ((km 3), 48, .inl rd_c))] H := hP
                          have hD : va_D A [((bm 0), .inr (10, [.int th, .ref (bm 1), .int tn, .int ((o_40.2) + 1), .int (o_36), .ref (bm 2), .ref (bm 3), .int rm__c, .ref (bm 4), .ref (bm 5), .int mn, .ref (bm 6), .ref (bm 7), .int sn, .ref (bm 8), .ref (bm 9), .ref (bm 10), .int ac, .long dn, .ref (bm 11), .ref (bm 12), .ref (bm 13), .ref (bm 14), .int hi])), ((bm 1), .inl ((km 1), 240, .inl tp)), ((bm 2), .inl ((km 2), 8, .inl rr_c)), ((bm 3), .inl ((km 3), 48, .inl rd_c))] := hD
                          refine lv_goto (tgt := 45) hx hb dX10_readTree_200 (by decide) ?_
                          exact ih_45 x1_45 1 ((o_40.2) + 1) (o_36) rm__c rr_c rd_c H locs ls hG hP hD hS (lv_sub hl [0, 2, 3] rfl)
                    · have hG := q_ifn c_35 hG
                      refine lv_aload_n hx hb dX10_readTree_114 rfl (lv_at hl 3 rfl) ?_
                      refine lv_dup hx hb dX10_readTree_115 rfl ?_
                      refine va_get (D := (dC, dI)) (ci := 10) (v := .int (o_22.2)) (C := RX10) (T := TX10) (N := 24) hx hb hts iA_10 hown hK hP 0 rfl rfl 3 (by decide) (hts (.fieldLink RX10 67 "HubTreeModel" "at" "I") (List.mem_cons_of_mem _ m_325)) (fun _ h9 => h9) rfl dX10_readTree_116 ?_
                      refine lv_iconst (v := 1) hx hb dX10_readTree_119 (by decide) ?_
                      refine lv_iadd hx hb dX10_readTree_120 ?_
                      refine va_put (D := (dC, dI)) (ci := 10) (v := .int ((o_22.2) + 1)) (ty := .int) (C := RX10) (T := TX10) (N := 24) hx hb hts iA_10 tyX10 tyX10_ok nmX10 hown hK hP hD hS 0 rfl rfl 3 (by decide) (hts (.fieldLink RX10 67 "HubTreeModel" "at" "I") (List.mem_cons_of_mem _ m_325)) (fun _ h9 => h9) rfl (by decide +kernel) rfl rfl (Nat.le_of_ble_eq_true rfl) dX10_readTree_121 (fun H locs hP hD hS => ?_)
                      have hP : va_P (dC, dI) vwCl [((bm 0), .inr (10, [.int th, .ref (bm 1), .int tn, .int ((o_22.2) + 1), .int wr_c, .ref (bm 2), .ref (bm 3), .int rm__c, .ref (bm 4), .ref (bm 5), .int mn, .ref (bm 6), .ref (bm 7), .int sn, .ref (bm 8), .ref (bm 9), .ref (bm 10), .int ac, .long dn, .ref (bm 11), .ref (bm 12), .ref (bm 13), .ref (bm 14), .int hi])), ((bm 1), .inl ((km 1), 240, .inl tp)), ((bm 2), .inl ((km 2), 8, .inl rr_c)), ((bm 3), .inl ((km 3), 48, .inl rd_c))] H := hP
                      have hD : va_D A [((bm 0), .inr (10, [.int th, .ref (bm 1), .int tn, .int ((o_22.2) + 1), .int wr_c, .ref (bm 2), .ref (bm 3), .int rm__c, .ref (bm 4), .ref (bm 5), .int mn, .ref (bm 6), .ref (bm 7), .int sn, .ref (bm 8), .ref (bm 9), .ref (bm 10), .int ac, .long dn, .ref (bm 11), .ref (bm 12), .ref (bm 13), .ref (bm 14), .int hi])), ((bm 1), .inl ((km 1), 240, .inl tp)), ((bm 2), .inl ((km 2), 8, .inl rr_c)), ((bm 3), .inl ((km 3), 48, .inl rd_c))] := hD
                      refine lv_aload_n hx hb dX10_readTree_124 rfl (lv_at hl 3 rfl) ?_
                      refine lv_iload_n hx hb dX10_readTree_125 rfl (lv_at hl 0 rfl) ?_
                      refine lv_aload_n hx hb dX10_readTree_126 rfl (lv_at hl 3 rfl) ?_
                      refine va_get (D := (dC, dI)) (ci := 10) (v := .ref (bm 3)) (C := RX10) (T := TX10) (N := 24) hx hb hts iA_10 hown hK hP 0 rfl rfl 6 (by decide) (hts (.fieldLink RX10 16 "HubTreeModel" "readDevice" "[I") (List.mem_cons_of_mem _ m_117)) (fun _ h9 => h9) rfl dX10_readTree_127 ?_
                      refine lv_bipush (v := 6) hx hb dX10_readTree_130 (by decide) ?_
                      refine lv_aload_n hx hb dX10_readTree_132 rfl (lv_at hl 3 rfl) ?_
                      refine va_get (D := (dC, dI)) (ci := 10) (v := .int rm__c) (C := RX10) (T := TX10) (N := 24) hx hb hts iA_10 hown hK hP 0 rfl rfl 7 (by decide) (hts (.fieldLink RX10 108 "HubTreeModel" "readMany" "I") (List.mem_cons_of_mem _ m_327)) (fun _ h9 => h9) rfl dX10_readTree_133 ?_
                      refine lv_imul hx hb dX10_readTree_136 ?_
                      refine lv_bipush (v := 6) hx hb dX10_readTree_137 (by decide) ?_
                      obtain ⟨o_45, r_46, hG⟩ := q_bi hG
                      refine q_gov2 (wr := [((bm 2), .inl ((km 2), 8, .inl rr_c))]) (va_runV (As := [.int o_22.1, .ref (bm 3), .int (6 * rm__c), .int 6]) (rest := []) ⟨hx, hb, hml, hown, hts⟩ (c_X10_items_d l dC dI bm km th tn ((o_22.2) + 1) wr_c rm__c mn sn ac hi dn tp rd_c o_22.1 (6 * rm__c) 6 (va_A [((bm 0), .inr (10, [.int th, .ref (bm 1), .int tn, .int ((o_22.2) + 1), .int wr_c, .ref (bm 2), .ref (bm 3), .int rm__c, .ref (bm 4), .ref (bm 5), .int mn, .ref (bm 6), .ref (bm 7), .int sn, .ref (bm 8), .ref (bm 9), .ref (bm 10), .int ac, .long dn, .ref (bm 11), .ref (bm 12), .ref (bm 13), .ref (bm 14), .int hi])), ((bm 1), .inl ((km 1), 240, .inl tp)), ((bm 3), .inl ((km 3), 48, .inl rd_c))] H.size) o_45 r_46) (cwV 4 hts (q_gV m_339 m_340 m_341 m_5 m_342) rfl rfl rfl hdV_yX10_items_4 ⟨Nat.le_of_ble_eq_true rfl, Nat.le_of_ble_eq_true rfl⟩) (q_preWV hK hP hD (q := (RX10, TX10, 24)) (ci := 10) (q0 := 0) rfl rfl [0, 1, 3] (by decide) rfl rfl [0, 2] rfl) rfl rfl hl.1 rfl (lv_room (Nat.le_of_ble_eq_true rfl)) dX10_readTree_139 ⟨Nat.le_of_ble_eq_true rfl, Nat.le_of_ble_eq_true rfl⟩) hK hP hD hS hA [0, 1, 3] [2] rfl rfl (by decide) (by decide) (fun _ H locs _ hP hD hK9 hS => ?_)
                      have hP : va_P (dC, dI) vwCl [((bm 0), .inr (10, [.int th, .ref (bm 1), .int tn, .int (o_45.1), .int (o_45.2.1), .ref (bm 2), .ref (bm 3), .int rm__c, .ref (bm 4), .ref (bm 5), .int mn, .ref (bm 6), .ref (bm 7), .int sn, .ref (bm 8), .ref (bm 9), .ref (bm 10), .int ac, .long dn, .ref (bm 11), .ref (bm 12), .ref (bm 13), .ref (bm 14), .int hi])), ((bm 1), .inl ((km 1), 240, .inl tp)), ((bm 2), .inl ((km 2), 8, .inl rr_c)), ((bm 3), .inl ((km 3), 48, .inl (o_45.2.2)))] H := hP.sub [1, 2, 0, 3] rfl
                      have hD : va_D A [((bm 0), .inr (10, [.int th, .ref (bm 1), .int tn, .int (o_45.1), .int (o_45.2.1), .ref (bm 2), .ref (bm 3), .int rm__c, .ref (bm 4), .ref (bm 5), .int mn, .ref (bm 6), .ref (bm 7), .int sn, .ref (bm 8), .ref (bm 9), .ref (bm 10), .int ac, .long dn, .ref (bm 11), .ref (bm 12), .ref (bm 13), .ref (bm 14), .int hi])), ((bm 1), .inl ((km 1), 240, .inl tp)), ((bm 2), .inl ((km 2), 8, .inl rr_c)), ((bm 3), .inl ((km 3), 48, .inl (o_45.2.2)))] := hD.sub [1, 2, 0, 3] (by decide) rfl
                      refine lv_aload_n hx hb dX10_readTree_142 rfl (lv_at hl 3 rfl) ?_
                      refine lv_dup hx hb dX10_readTree_143 rfl ?_
                      refine va_get (D := (dC, dI)) (ci := 10) (v := .int rm__c) (C := RX10) (T := TX10) (N := 24) hx hb hts iA_10 hown hK hP 0 rfl rfl 7 (by decide) (hts (.fieldLink RX10 108 "HubTreeModel" "readMany" "I") (List.mem_cons_of_mem _ m_327)) (fun _ h9 => h9) rfl dX10_readTree_144 ?_
                      refine lv_iconst (v := 1) hx hb dX10_readTree_147 (by decide) ?_
                      refine lv_iadd hx hb dX10_readTree_148 ?_
                      refine va_put (D := (dC, dI)) (ci := 10) (v := .int (rm__c + 1)) (ty := .int) (C := RX10) (T := TX10) (N := 24) hx hb hts iA_10 tyX10 tyX10_ok nmX10 hown hK hP hD hS 0 rfl rfl 7 (by decide) (hts (.fieldLink RX10 108 "HubTreeModel" "readMany" "I") (List.mem_cons_of_mem _ m_327)) (fun _ h9 => h9) rfl (by decide +kernel) rfl rfl (Nat.le_of_ble_eq_true rfl) dX10_readTree_149 (fun H locs hP hD hS => ?_)
                      have hP : va_P (dC, dI) vwCl [((bm 0), .inr (10, [.int th, .ref (bm 1), .int tn, .int (o_45.1), .int (o_45.2.1), .ref (bm 2), .ref (bm 3), .int (rm__c + 1), .ref (bm 4), .ref (bm 5), .int mn, .ref (bm 6), .ref (bm 7), .int sn, .ref (bm 8), .ref (bm 9), .ref (bm 10), .int ac, .long dn, .ref (bm 11), .ref (bm 12), .ref (bm 13), .ref (bm 14), .int hi])), ((bm 1), .inl ((km 1), 240, .inl tp)), ((bm 2), .inl ((km 2), 8, .inl rr_c)), ((bm 3), .inl ((km 3), 48, .inl (o_45.2.2)))] H := hP
                      have hD : va_D A [((bm 0), .inr (10, [.int th, .ref (bm 1), .int tn, .int (o_45.1), .int (o_45.2.1), .ref (bm 2), .ref (bm 3), .int (rm__c + 1), .ref (bm 4), .ref (bm 5), .int mn, .ref (bm 6), .ref (bm 7), .int sn, .ref (bm 8), .ref (bm 9), .ref (bm 10), .int ac, .long dn, .ref (bm 11), .ref (bm 12), .ref (bm 13), .ref (bm 14), .int hi])), ((bm 1), .inl ((km 1), 240, .inl tp)), ((bm 2), .inl ((km 2), 8, .inl rr_c)), ((bm 3), .inl ((km 3), 48, .inl (o_45.2.2)))] := hD
                      refine lv_goto (tgt := 159) hx hb dX10_readTree_152 (by decide) ?_
                      refine lv_aload_n hx hb dX10_readTree_159 rfl (lv_at hl 3 rfl) ?_
                      refine va_get (D := (dC, dI)) (ci := 10) (v := .int (o_45.2.1)) (C := RX10) (T := TX10) (N := 24) hx hb hts iA_10 hown hK hP 0 rfl rfl 4 (by decide) (hts (.fieldLink RX10 74 "HubTreeModel" "wrong" "I") (List.mem_cons_of_mem _ m_326)) (fun _ h9 => h9) rfl dX10_readTree_160 ?_
                      refine lv_iconst (v := (-1)) hx hb dX10_readTree_163 (by decide) ?_
                      refine lv_icmp_ne (tgt := 180) hx hb dX10_readTree_164 (by decide) (fun c_47 => ?_) (fun c_47 => ?_)
                      · have hG := q_ifn c_47 hG
                        refine lv_iconst (v := 0) hx hb dX10_readTree_180 (by decide) ?_
                        refine lv_istore_n (lv' := [(2, .int 0), (3, .int o_22.1), (1, .int x1_45), (0, .ref (bm 0))]) hx hb dX10_readTree_181 rfl hl (by decide) rfl (fun ls hl => ?_)
                        refine lv_aload_n hx hb dX10_readTree_182 rfl (lv_at hl 3 rfl) ?_
                        refine lv_dup hx hb dX10_readTree_183 rfl ?_
                        refine va_get (D := (dC, dI)) (ci := 10) (v := .int (o_45.1)) (C := RX10) (T := TX10) (N := 24) hx hb hts iA_10 hown hK hP 0 rfl rfl 3 (by decide) (hts (.fieldLink RX10 67 "HubTreeModel" "at" "I") (List.mem_cons_of_mem _ m_325)) (fun _ h9 => h9) rfl dX10_readTree_184 ?_
                        refine lv_iload_n hx hb dX10_readTree_187 rfl (lv_at hl 0 rfl) ?_
                        refine lv_if_eq (tgt := 195) hx hb dX10_readTree_188 (by decide) (fun c_48 => ?_) (fun c_48 => ?_)
                        rotate_left
                        · exact absurd (by decide) c_48
                        refine lv_iconst (v := 0) hx hb dX10_readTree_195 (by decide) ?_
                        refine lv_iadd hx hb dX10_readTree_196 ?_
                        refine va_put (D := (dC, dI)) (ci := 10) (v := .int ((o_45.1) + 0)) (ty := .int) (C := RX10) (T := TX10) (N := 24) hx hb hts iA_10 tyX10 tyX10_ok nmX10 hown hK hP hD hS 0 rfl rfl 3 (by decide) (hts (.fieldLink RX10 67 "HubTreeModel" "at" "I") (List.mem_cons_of_mem _ m_325)) (fun _ h9 => h9) rfl (by decide +kernel) rfl rfl (Nat.le_of_ble_eq_true rfl) dX10_readTree_197 (fun H locs hP hD hS => ?_)
                        have hP : va_P (dC, dI) vwCl [((bm 0), .inr (10, [.int th, .ref (bm 1), .int tn, .int ((o_45.1) + 0), .int (o_45.2.1), .ref (bm 2), .ref (bm 3), .int (rm__c + 1), .ref (bm 4), .ref (bm 5), .int mn, .ref (bm 6), .ref (bm 7), .int sn, .ref (bm 8), .ref (bm 9), .ref (bm 10), .int ac, .long dn, .ref (bm 11), .ref (bm 12), .ref (bm 13), .ref (bm 14), .int hi])), ((bm 1), .inl ((km 1), 240, .inl tp)), ((bm 2), .inl ((km 2), 8, .inl rr_c)), ((bm 3), .inl ((km 3), 48, .inl (o_45.2.2)))] H := hP
                        have hD : va_D A [((bm 0), .inr (10, [.int th, .ref (bm 1), .int tn, .int ((o_45.1) + 0), .int (o_45.2.1), .ref (bm 2), .ref (bm 3), .int (rm__c + 1), .ref (bm 4), .ref (bm 5), .int mn, .ref (bm 6), .ref (bm 7), .int sn, .ref (bm 8), .ref (bm 9), .ref (bm 10), .int ac, .long dn, .ref (bm 11), .ref (bm 12), .ref (bm 13), .ref (bm 14), .int hi])), ((bm 1), .inl ((km 1), 240, .inl tp)), ((bm 2), .inl ((km 2), 8, .inl rr_c)), ((bm 3), .inl ((km 3), 48, .inl (o_45.2.2)))] := hD
                        refine lv_goto (tgt := 45) hx hb dX10_readTree_200 (by decide) ?_
                        exact ih_45 x1_45 0 ((o_45.1) + 0) (o_45.2.1) (rm__c + 1) rr_c (o_45.2.2) H locs ls hG hP hD hS (lv_sub hl [0, 2, 3] rfl)
                      · have hG := q_ifp c_47 hG
                        refine lv_aload_n hx hb dX10_readTree_167 rfl (lv_at hl 3 rfl) ?_
                        obtain ⟨o_49, r_50, hG⟩ := q_bi hG
                        refine q_goi2 (v := o_49.1) (wr := [((bm 2), .inl ((km 2), 8, .inl rr_c)), ((bm 3), .inl ((km 3), 48, .inl (o_45.2.2)))]) (va_runV (As := []) (rest := []) ⟨hx, hb, hml, hown, hts⟩ (c_X10_ahead l dC dI bm km th tn (o_45.1) (o_45.2.1) (rm__c + 1) mn sn ac hi dn tp (va_A [((bm 0), .inr (10, [.int th, .ref (bm 1), .int tn, .int (o_45.1), .int (o_45.2.1), .ref (bm 2), .ref (bm 3), .int (rm__c + 1), .ref (bm 4), .ref (bm 5), .int mn, .ref (bm 6), .ref (bm 7), .int sn, .ref (bm 8), .ref (bm 9), .ref (bm 10), .int ac, .long dn, .ref (bm 11), .ref (bm 12), .ref (bm 13), .ref (bm 14), .int hi])), ((bm 1), .inl ((km 1), 240, .inl tp))] H.size) o_49 r_50) (cwV 0 hts (q_gV m_331 m_332 m_333 m_5 m_334) rfl rfl rfl hdV_yX10_ahead_0 ⟨Nat.le_of_ble_eq_true rfl, Nat.le_of_ble_eq_true rfl⟩) (q_preWV hK hP hD (q := (RX10, TX10, 24)) (ci := 10) (q0 := 0) rfl rfl [0, 1] (by decide) rfl rfl [0] rfl) rfl rfl hl.1 rfl (lv_room (Nat.le_of_ble_eq_true rfl)) dX10_readTree_168 ⟨Nat.le_of_ble_eq_true rfl, Nat.le_of_ble_eq_true rfl⟩) hK hP hD hS hA [0, 1] [2, 3] rfl rfl (by decide) (by decide) (fun _ H locs _ hP hD hK9 hS => ?_)
                        have hP : va_P (dC, dI) vwCl [((bm 0), .inr (10, [.int th, .ref (bm 1), .int tn, .int (o_49.2), .int (o_45.2.1), .ref (bm 2), .ref (bm 3), .int (rm__c + 1), .ref (bm 4), .ref (bm 5), .int mn, .ref (bm 6), .ref (bm 7), .int sn, .ref (bm 8), .ref (bm 9), .ref (bm 10), .int ac, .long dn, .ref (bm 11), .ref (bm 12), .ref (bm 13), .ref (bm 14), .int hi])), ((bm 1), .inl ((km 1), 240, .inl tp)), ((bm 2), .inl ((km 2), 8, .inl rr_c)), ((bm 3), .inl ((km 3), 48, .inl (o_45.2.2)))] H := hP.sub [2, 3, 0, 1] rfl
                        have hD : va_D A [((bm 0), .inr (10, [.int th, .ref (bm 1), .int tn, .int (o_49.2), .int (o_45.2.1), .ref (bm 2), .ref (bm 3), .int (rm__c + 1), .ref (bm 4), .ref (bm 5), .int mn, .ref (bm 6), .ref (bm 7), .int sn, .ref (bm 8), .ref (bm 9), .ref (bm 10), .int ac, .long dn, .ref (bm 11), .ref (bm 12), .ref (bm 13), .ref (bm 14), .int hi])), ((bm 1), .inl ((km 1), 240, .inl tp)), ((bm 2), .inl ((km 2), 8, .inl rr_c)), ((bm 3), .inl ((km 3), 48, .inl (o_45.2.2)))] := hD.sub [2, 3, 0, 1] (by decide) rfl
                        refine lv_bipush (v := 59) hx hb dX10_readTree_171 (by decide) ?_
                        refine lv_icmp_ne (tgt := 180) hx hb dX10_readTree_173 (by decide) (fun c_51 => ?_) (fun c_51 => ?_)
                        · have hG := q_ifn c_51 hG
                          refine lv_iconst (v := 0) hx hb dX10_readTree_180 (by decide) ?_
                          refine lv_istore_n (lv' := [(2, .int 0), (3, .int o_22.1), (1, .int x1_45), (0, .ref (bm 0))]) hx hb dX10_readTree_181 rfl hl (by decide) rfl (fun ls hl => ?_)
                          refine lv_aload_n hx hb dX10_readTree_182 rfl (lv_at hl 3 rfl) ?_
                          refine lv_dup hx hb dX10_readTree_183 rfl ?_
                          refine va_get (D := (dC, dI)) (ci := 10) (v := .int (o_49.2)) (C := RX10) (T := TX10) (N := 24) hx hb hts iA_10 hown hK hP 0 rfl rfl 3 (by decide) (hts (.fieldLink RX10 67 "HubTreeModel" "at" "I") (List.mem_cons_of_mem _ m_325)) (fun _ h9 => h9) rfl dX10_readTree_184 ?_
                          refine lv_iload_n hx hb dX10_readTree_187 rfl (lv_at hl 0 rfl) ?_
                          refine lv_if_eq (tgt := 195) hx hb dX10_readTree_188 (by decide) (fun c_52 => ?_) (fun c_52 => ?_)
                          rotate_left
                          · exact absurd (by decide) c_52
                          refine lv_iconst (v := 0) hx hb dX10_readTree_195 (by decide) ?_
                          refine lv_iadd hx hb dX10_readTree_196 ?_
                          refine va_put (D := (dC, dI)) (ci := 10) (v := .int ((o_49.2) + 0)) (ty := .int) (C := RX10) (T := TX10) (N := 24) hx hb hts iA_10 tyX10 tyX10_ok nmX10 hown hK hP hD hS 0 rfl rfl 3 (by decide) (hts (.fieldLink RX10 67 "HubTreeModel" "at" "I") (List.mem_cons_of_mem _ m_325)) (fun _ h9 => h9) rfl (by decide +kernel) rfl rfl (Nat.le_of_ble_eq_true rfl) dX10_readTree_197 (fun H locs hP hD hS => ?_)
                          have hP : va_P (dC, dI) vwCl [((bm 0), .inr (10, [.int th, .ref (bm 1), .int tn, .int ((o_49.2) + 0), .int (o_45.2.1), .ref (bm 2), .ref (bm 3), .int (rm__c + 1), .ref (bm 4), .ref (bm 5), .int mn, .ref (bm 6), .ref (bm 7), .int sn, .ref (bm 8), .ref (bm 9), .ref (bm 10), .int ac, .long dn, .ref (bm 11), .ref (bm 12), .ref (bm 13), .ref (bm 14), .int hi])), ((bm 1), .inl ((km 1), 240, .inl tp)), ((bm 2), .inl ((km 2), 8, .inl rr_c)), ((bm 3), .inl ((km 3), 48, .inl (o_45.2.2)))] H := hP
                          have hD : va_D A [((bm 0), .inr (10, [.int th, .ref (bm 1), .int tn, .int ((o_49.2) + 0), .int (o_45.2.1), .ref (bm 2), .ref (bm 3), .int (rm__c + 1), .ref (bm 4), .ref (bm 5), .int mn, .ref (bm 6), .ref (bm 7), .int sn, .ref (bm 8), .ref (bm 9), .ref (bm 10), .int ac, .long dn, .ref (bm 11), .ref (bm 12), .ref (bm 13), .ref (bm 14), .int hi])), ((bm 1), .inl ((km 1), 240, .inl tp)), ((bm 2), .inl ((km 2), 8, .inl rr_c)), ((bm 3), .inl ((km 3), 48, .inl (o_45.2.2)))] := hD
                          refine lv_goto (tgt := 45) hx hb dX10_readTree_200 (by decide) ?_
                          exact ih_45 x1_45 0 ((o_49.2) + 0) (o_45.2.1) (rm__c + 1) rr_c (o_45.2.2) H locs ls hG hP hD hS (lv_sub hl [0, 2, 3] rfl)
                        · have hG := q_ifp c_51 hG
                          refine lv_iconst (v := 1) hx hb dX10_readTree_176 (by decide) ?_
                          refine lv_goto (tgt := 181) hx hb dX10_readTree_177 (by decide) ?_
                          refine lv_istore_n (lv' := [(2, .int 1), (3, .int o_22.1), (1, .int x1_45), (0, .ref (bm 0))]) hx hb dX10_readTree_181 rfl hl (by decide) rfl (fun ls hl => ?_)
                          refine lv_aload_n hx hb dX10_readTree_182 rfl (lv_at hl 3 rfl) ?_
                          refine lv_dup hx hb dX10_readTree_183 rfl ?_
                          refine va_get (D := (dC, dI)) (ci := 10) (v := .int (o_49.2)) (C := RX10) (T := TX10) (N := 24) hx hb hts iA_10 hown hK hP 0 rfl rfl 3 (by decide) (hts (.fieldLink RX10 67 "HubTreeModel" "at" "I") (List.mem_cons_of_mem _ m_325)) (fun _ h9 => h9) rfl dX10_readTree_184 ?_
                          refine lv_iload_n hx hb dX10_readTree_187 rfl (lv_at hl 0 rfl) ?_
                          refine lv_if_eq (tgt := 195) hx hb dX10_readTree_188 (by decide) (fun c_53 => ?_) (fun c_53 => ?_)
                          · exact absurd c_53 (by decide)
                          refine lv_iconst (v := 1) hx hb dX10_readTree_191 (by decide) ?_
                          refine lv_goto (tgt := 196) hx hb dX10_readTree_192 (by decide) ?_
                          refine lv_iadd hx hb dX10_readTree_196 ?_
                          refine va_put (D := (dC, dI)) (ci := 10) (v := .int ((o_49.2) + 1)) (ty := .int) (C := RX10) (T := TX10) (N := 24) hx hb hts iA_10 tyX10 tyX10_ok nmX10 hown hK hP hD hS 0 rfl rfl 3 (by decide) (hts (.fieldLink RX10 67 "HubTreeModel" "at" "I") (List.mem_cons_of_mem _ m_325)) (fun _ h9 => h9) rfl (by decide +kernel) rfl rfl (Nat.le_of_ble_eq_true rfl) dX10_readTree_197 (fun H locs hP hD hS => ?_)
                          have hP : va_P (dC, dI) vwCl [((bm 0), .inr (10, [.int th, .ref (bm 1), .int tn, .int ((o_49.2) + 1), .int (o_45.2.1), .ref (bm 2), .ref (bm 3), .int (rm__c + 1), .ref (bm 4), .ref (bm 5), .int mn, .ref (bm 6), .ref (bm 7), .int sn, .ref (bm 8), .ref (bm 9), .ref (bm 10), .int ac, .long dn, .ref (bm 11), .ref (bm 12), .ref (bm 13), .ref (bm 14), .int hi])), ((bm 1), .inl ((km 1), 240, .inl tp)), ((bm 2), .inl ((km 2), 8, .inl rr_c)), ((bm 3), .inl ((km 3), 48, .inl (o_45.2.2)))] H := hP
                          have hD : va_D A [((bm 0), .inr (10, [.int th, .ref (bm 1), .int tn, .int ((o_49.2) + 1), .int (o_45.2.1), .ref (bm 2), .ref (bm 3), .int (rm__c + 1), .ref (bm 4), .ref (bm 5), .int mn, .ref (bm 6), .ref (bm 7), .int sn, .ref (bm 8), .ref (bm 9), .ref (bm 10), .int ac, .long dn, .ref (bm 11), .ref (bm 12), .ref (bm 13), .ref (bm 14), .int hi])), ((bm 1), .inl ((km 1), 240, .inl tp)), ((bm 2), .inl ((km 2), 8, .inl rr_c)), ((bm 3), .inl ((km 3), 48, .inl (o_45.2.2)))] := hD
                          refine lv_goto (tgt := 45) hx hb dX10_readTree_200 (by decide) ?_
                          exact ih_45 x1_45 1 ((o_49.2) + 1) (o_45.2.1) (rm__c + 1) rr_c (o_45.2.2) H locs ls hG hP hD hS (lv_sub hl [0, 2, 3] rfl)
                · have hG := q_ifp c_24 hG
                  refine lv_iload_n hx hb dX10_readTree_68 rfl (lv_at hl 2 rfl) ?_
                  refine lv_if_ne (tgt := 99) hx hb dX10_readTree_69 (by decide) (fun c_54 => ?_) (fun c_54 => ?_)
                  · have hG := q_ifn c_54 hG
                    refine lv_iload_n hx hb dX10_readTree_99 rfl (lv_at hl 0 rfl) ?_
                    refine lv_bipush (v := 100) hx hb dX10_readTree_100 (by decide) ?_
                    refine lv_icmp_ne (tgt := 155) hx hb dX10_readTree_102 (by decide) (fun c_55 => ?_) (fun c_55 => ?_)
                    · have hG := q_ifn c_55 hG
                      refine lv_aload_n hx hb dX10_readTree_155 rfl (lv_at hl 3 rfl) ?_
                      obtain ⟨o_56, r_57, hG⟩ := q_bi hG
                      refine q_gov2 (wr := [((bm 1), .inl ((km 1), 240, .inl tp)), ((bm 2), .inl ((km 2), 8, .inl rr_c)), ((bm 3), .inl ((km 3), 48, .inl rd_c))]) (va_runV (As := []) (rest := []) ⟨hx, hb, hml, hown, hts⟩ (c_X10_bad l dC dI bm km th tn (o_22.2) wr_c rm__c mn sn ac hi dn (va_A [((bm 0), .inr (10, [.int th, .ref (bm 1), .int tn, .int (o_22.2), .int wr_c, .ref (bm 2), .ref (bm 3), .int rm__c, .ref (bm 4), .ref (bm 5), .int mn, .ref (bm 6), .ref (bm 7), .int sn, .ref (bm 8), .ref (bm 9), .ref (bm 10), .int ac, .long dn, .ref (bm 11), .ref (bm 12), .ref (bm 13), .ref (bm 14), .int hi]))] H.size) o_56 r_57) (cwV 0 hts (q_gV m_362 m_363 m_364 m_5 m_365) rfl rfl rfl hdV_yX10_bad_0 ⟨Nat.le_of_ble_eq_true rfl, Nat.le_of_ble_eq_true rfl⟩) (q_preWV hK hP hD (q := (RX10, TX10, 24)) (ci := 10) (q0 := 0) rfl rfl [0] (by decide) rfl rfl [] rfl) rfl rfl hl.1 rfl (lv_room (Nat.le_of_ble_eq_true rfl)) dX10_readTree_156 ⟨Nat.le_of_ble_eq_true rfl, Nat.le_of_ble_eq_true rfl⟩) hK hP hD hS hA [0] [1, 2, 3] rfl rfl (by decide) (by decide) (fun _ H locs _ hP hD hK9 hS => ?_)
                      have hP : va_P (dC, dI) vwCl [((bm 0), .inr (10, [.int th, .ref (bm 1), .int tn, .int (o_22.2), .int (o_56), .ref (bm 2), .ref (bm 3), .int rm__c, .ref (bm 4), .ref (bm 5), .int mn, .ref (bm 6), .ref (bm 7), .int sn, .ref (bm 8), .ref (bm 9), .ref (bm 10), .int ac, .long dn, .ref (bm 11), .ref (bm 12), .ref (bm 13), .ref (bm 14), .int hi])), ((bm 1), .inl ((km 1), 240, .inl tp)), ((bm 2), .inl ((km 2), 8, .inl rr_c)), ((bm 3), .inl ((km 3), 48, .inl rd_c))] H := hP.sub [3, 0, 1, 2] rfl
                      have hD : va_D A [((bm 0), .inr (10, [.int th, .ref (bm 1), .int tn, .int (o_22.2), .int (o_56), .ref (bm 2), .ref (bm 3), .int rm__c, .ref (bm 4), .ref (bm 5), .int mn, .ref (bm 6), .ref (bm 7), .int sn, .ref (bm 8), .ref (bm 9), .ref (bm 10), .int ac, .long dn, .ref (bm 11), .ref (bm 12), .ref (bm 13), .ref (bm 14), .int hi])), ((bm 1), .inl ((km 1), 240, .inl tp)), ((bm 2), .inl ((km 2), 8, .inl rr_c)), ((bm 3), .inl ((km 3), 48, .inl rd_c))] := hD.sub [3, 0, 1, 2] (by decide) rfl
                      refine lv_aload_n hx hb dX10_readTree_159 rfl (lv_at hl 3 rfl) ?_
                      refine va_get (D := (dC, dI)) (ci := 10) (v := .int (o_56)) (C := RX10) (T := TX10) (N := 24) hx hb hts iA_10 hown hK hP 0 rfl rfl 4 (by decide) (hts (.fieldLink RX10 74 "HubTreeModel" "wrong" "I") (List.mem_cons_of_mem _ m_326)) (fun _ h9 => h9) rfl dX10_readTree_160 ?_
                      refine lv_iconst (v := (-1)) hx hb dX10_readTree_163 (by decide) ?_
                      refine lv_icmp_ne (tgt := 180) hx hb dX10_readTree_164 (by decide) (fun c_58 => ?_) (fun c_58 => ?_)
                      · have hG := q_ifn c_58 hG
                        refine lv_iconst (v := 0) hx hb dX10_readTree_180 (by decide) ?_
                        refine lv_istore_n (lv' := [(2, .int 0), (3, .int o_22.1), (1, .int x1_45), (0, .ref (bm 0))]) hx hb dX10_readTree_181 rfl hl (by decide) rfl (fun ls hl => ?_)
                        refine lv_aload_n hx hb dX10_readTree_182 rfl (lv_at hl 3 rfl) ?_
                        refine lv_dup hx hb dX10_readTree_183 rfl ?_
                        refine va_get (D := (dC, dI)) (ci := 10) (v := .int (o_22.2)) (C := RX10) (T := TX10) (N := 24) hx hb hts iA_10 hown hK hP 0 rfl rfl 3 (by decide) (hts (.fieldLink RX10 67 "HubTreeModel" "at" "I") (List.mem_cons_of_mem _ m_325)) (fun _ h9 => h9) rfl dX10_readTree_184 ?_
                        refine lv_iload_n hx hb dX10_readTree_187 rfl (lv_at hl 0 rfl) ?_
                        refine lv_if_eq (tgt := 195) hx hb dX10_readTree_188 (by decide) (fun c_59 => ?_) (fun c_59 => ?_)
                        rotate_left
                        · exact absurd (by decide) c_59
                        refine lv_iconst (v := 0) hx hb dX10_readTree_195 (by decide) ?_
                        refine lv_iadd hx hb dX10_readTree_196 ?_
                        refine va_put (D := (dC, dI)) (ci := 10) (v := .int ((o_22.2) + 0)) (ty := .int) (C := RX10) (T := TX10) (N := 24) hx hb hts iA_10 tyX10 tyX10_ok nmX10 hown hK hP hD hS 0 rfl rfl 3 (by decide) (hts (.fieldLink RX10 67 "HubTreeModel" "at" "I") (List.mem_cons_of_mem _ m_325)) (fun _ h9 => h9) rfl (by decide +kernel) rfl rfl (Nat.le_of_ble_eq_true rfl) dX10_readTree_197 (fun H locs hP hD hS => ?_)
                        have hP : va_P (dC, dI) vwCl [((bm 0), .inr (10, [.int th, .ref (bm 1), .int tn, .int ((o_22.2) + 0), .int (o_56), .ref (bm 2), .ref (bm 3), .int rm__c, .ref (bm 4), .ref (bm 5), .int mn, .ref (bm 6), .ref (bm 7), .int sn, .ref (bm 8), .ref (bm 9), .ref (bm 10), .int ac, .long dn, .ref (bm 11), .ref (bm 12), .ref (bm 13), .ref (bm 14), .int hi])), ((bm 1), .inl ((km 1), 240, .inl tp)), ((bm 2), .inl ((km 2), 8, .inl rr_c)), ((bm 3), .inl ((km 3), 48, .inl rd_c))] H := hP
                        have hD : va_D A [((bm 0), .inr (10, [.int th, .ref (bm 1), .int tn, .int ((o_22.2) + 0), .int (o_56), .ref (bm 2), .ref (bm 3), .int rm__c, .ref (bm 4), .ref (bm 5), .int mn, .ref (bm 6), .ref (bm 7), .int sn, .ref (bm 8), .ref (bm 9), .ref (bm 10), .int ac, .long dn, .ref (bm 11), .ref (bm 12), .ref (bm 13), .ref (bm 14), .int hi])), ((bm 1), .inl ((km 1), 240, .inl tp)), ((bm 2), .inl ((km 2), 8, .inl rr_c)), ((bm 3), .inl ((km 3), 48, .inl rd_c))] := hD
                        refine lv_goto (tgt := 45) hx hb dX10_readTree_200 (by decide) ?_
                        exact ih_45 x1_45 0 ((o_22.2) + 0) (o_56) rm__c rr_c rd_c H locs ls hG hP hD hS (lv_sub hl [0, 2, 3] rfl)
                      · have hG := q_ifp c_58 hG
                        refine lv_aload_n hx hb dX10_readTree_167 rfl (lv_at hl 3 rfl) ?_
                        obtain ⟨o_60, r_61, hG⟩ := q_bi hG
                        refine q_goi2 (v := o_60.1) (wr := [((bm 2), .inl ((km 2), 8, .inl rr_c)), ((bm 3), .inl ((km 3), 48, .inl rd_c))]) (va_runV (As := []) (rest := []) ⟨hx, hb, hml, hown, hts⟩ (c_X10_ahead l dC dI bm km th tn (o_22.2) (o_56) rm__c mn sn ac hi dn tp (va_A [((bm 0), .inr (10, [.int th, .ref (bm 1), .int tn, .int (o_22.2), .int (o_56), .ref (bm 2), .ref (bm 3), .int rm__c, .ref (bm 4), .ref (bm 5), .int mn, .ref (bm 6), .ref (bm 7), .int sn, .ref (bm 8), .ref (bm 9), .ref (bm 10), .int ac, .long dn, .ref (bm 11), .ref (bm 12), .ref (bm 13), .ref (bm 14), .int hi])), ((bm 1), .inl ((km 1), 240, .inl tp))] H.size) o_60 r_61) (cwV 0 hts (q_gV m_331 m_332 m_333 m_5 m_334) rfl rfl rfl hdV_yX10_ahead_0 ⟨Nat.le_of_ble_eq_true rfl, Nat.le_of_ble_eq_true rfl⟩) (q_preWV hK hP hD (q := (RX10, TX10, 24)) (ci := 10) (q0 := 0) rfl rfl [0, 1] (by decide) rfl rfl [0] rfl) rfl rfl hl.1 rfl (lv_room (Nat.le_of_ble_eq_true rfl)) dX10_readTree_168 ⟨Nat.le_of_ble_eq_true rfl, Nat.le_of_ble_eq_true rfl⟩) hK hP hD hS hA [0, 1] [2, 3] rfl rfl (by decide) (by decide) (fun _ H locs _ hP hD hK9 hS => ?_)
                        have hP : va_P (dC, dI) vwCl [((bm 0), .inr (10, [.int th, .ref (bm 1), .int tn, .int (o_60.2), .int (o_56), .ref (bm 2), .ref (bm 3), .int rm__c, .ref (bm 4), .ref (bm 5), .int mn, .ref (bm 6), .ref (bm 7), .int sn, .ref (bm 8), .ref (bm 9), .ref (bm 10), .int ac, .long dn, .ref (bm 11), .ref (bm 12), .ref (bm 13), .ref (bm 14), .int hi])), ((bm 1), .inl ((km 1), 240, .inl tp)), ((bm 2), .inl ((km 2), 8, .inl rr_c)), ((bm 3), .inl ((km 3), 48, .inl rd_c))] H := hP.sub [2, 3, 0, 1] rfl
                        have hD : va_D A [((bm 0), .inr (10, [.int th, .ref (bm 1), .int tn, .int (o_60.2), .int (o_56), .ref (bm 2), .ref (bm 3), .int rm__c, .ref (bm 4), .ref (bm 5), .int mn, .ref (bm 6), .ref (bm 7), .int sn, .ref (bm 8), .ref (bm 9), .ref (bm 10), .int ac, .long dn, .ref (bm 11), .ref (bm 12), .ref (bm 13), .ref (bm 14), .int hi])), ((bm 1), .inl ((km 1), 240, .inl tp)), ((bm 2), .inl ((km 2), 8, .inl rr_c)), ((bm 3), .inl ((km 3), 48, .inl rd_c))] := hD.sub [2, 3, 0, 1] (by decide) rfl
                        refine lv_bipush (v := 59) hx hb dX10_readTree_171 (by decide) ?_
                        refine lv_icmp_ne (tgt := 180) hx hb dX10_readTree_173 (by decide) (fun c_62 => ?_) (fun c_62 => ?_)
                        · have hG := q_ifn c_62 hG
                          refine lv_iconst (v := 0) hx hb dX10_readTree_180 (by decide) ?_
                          refine lv_istore_n (lv' := [(2, .int 0), (3, .int o_22.1), (1, .int x1_45), (0, .ref (bm 0))]) hx hb dX10_readTree_181 rfl hl (by decide) rfl (fun ls hl => ?_)
                          refine lv_aload_n hx hb dX10_readTree_182 rfl (lv_at hl 3 rfl) ?_
                          refine lv_dup hx hb dX10_readTree_183 rfl ?_
                          refine va_get (D := (dC, dI)) (ci := 10) (v := .int (o_60.2)) (C := RX10) (T := TX10) (N := 24) hx hb hts iA_10 hown hK hP 0 rfl rfl 3 (by decide) (hts (.fieldLink RX10 67 "HubTreeModel" "at" "I") (List.mem_cons_of_mem _ m_325)) (fun _ h9 => h9) rfl dX10_readTree_184 ?_
                          refine lv_iload_n hx hb dX10_readTree_187 rfl (lv_at hl 0 rfl) ?_
                          refine lv_if_eq (tgt := 195) hx hb dX10_readTree_188 (by decide) (fun c_63 => ?_) (fun c_63 => ?_)
                          rotate_left
                          · exact absurd (by decide) c_63
                          refine lv_iconst (v := 0) hx hb dX10_readTree_195 (by decide) ?_
                          refine lv_iadd hx hb dX10_readTree_196 ?_
                          refine va_put (D := (dC, dI)) (ci := 10) (v := .int ((o_60.2) + 0)) (ty := .int) (C := RX10) (T := TX10) (N := 24) hx hb hts iA_10 tyX10 tyX10_ok nmX10 hown hK hP hD hS 0 rfl rfl 3 (by decide) (hts (.fieldLink RX10 67 "HubTreeModel" "at" "I") (List.mem_cons_of_mem _ m_325)) (fun _ h9 => h9) rfl (by decide +kernel) rfl rfl (Nat.le_of_ble_eq_true rfl) dX10_readTree_197 (fun H locs hP hD hS => ?_)
                          have hP : va_P (dC, dI) vwCl [((bm 0), .inr (10, [.int th, .ref (bm 1), .int tn, .int ((o_60.2) + 0), .int (o_56), .ref (bm 2), .ref (bm 3), .int rm__c, .ref (bm 4), .ref (bm 5), .int mn, .ref (bm 6), .ref (bm 7), .int sn, .ref (bm 8), .ref (bm 9), .ref (bm 10), .int ac, .long dn, .ref (bm 11), .ref (bm 12), .ref (bm 13), .ref (bm 14), .int hi])), ((bm 1), .inl ((km 1), 240, .inl tp)), ((bm 2), .inl ((km 2), 8, .inl rr_c)), ((bm 3), .inl ((km 3), 48, .inl rd_c))] H := hP
                          have hD : va_D A [((bm 0), .inr (10, [.int th, .ref (bm 1), .int tn, .int ((o_60.2) + 0), .int (o_56), .ref (bm 2), .ref (bm 3), .int rm__c, .ref (bm 4), .ref (bm 5), .int mn, .ref (bm 6), .ref (bm 7), .int sn, .ref (bm 8), .ref (bm 9), .ref (bm 10), .int ac, .long dn, .ref (bm 11), .ref (bm 12), .ref (bm 13), .ref (bm 14), .int hi])), ((bm 1), .inl ((km 1), 240, .inl tp)), ((bm 2), .inl ((km 2), 8, .inl rr_c)), ((bm 3), .inl ((km 3), 48, .inl rd_c))] := hD
                          refine lv_goto (tgt := 45) hx hb dX10_readTree_200 (by decide) ?_
                          exact ih_45 x1_45 0 ((o_60.2) + 0) (o_56) rm__c rr_c rd_c H locs ls hG hP hD hS (lv_sub hl [0, 2, 3] rfl)
                        · have hG := q_ifp c_62 hG
                          refine lv_iconst (v := 1) hx hb dX10_readTree_176 (by decide) ?_
                          refine lv_goto (tgt := 181) hx hb dX10_readTree_177 (by decide) ?_
                          refine lv_istore_n (lv' := [(2, .int 1), (3, .int o_22.1), (1, .int x1_45), (0, .ref (bm 0))]) hx hb dX10_readTree_181 rfl hl (by decide) rfl (fun ls hl => ?_)
                          refine lv_aload_n hx hb dX10_readTree_182 rfl (lv_at hl 3 rfl) ?_
                          refine lv_dup hx hb dX10_readTree_183 rfl ?_
                          refine va_get (D := (dC, dI)) (ci := 10) (v := .int (o_60.2)) (C := RX10) (T := TX10) (N := 24) hx hb hts iA_10 hown hK hP 0 rfl rfl 3 (by decide) (hts (.fieldLink RX10 67 "HubTreeModel" "at" "I") (List.mem_cons_of_mem _ m_325)) (fun _ h9 => h9) rfl dX10_readTree_184 ?_
                          refine lv_iload_n hx hb dX10_readTree_187 rfl (lv_at hl 0 rfl) ?_
                          refine lv_if_eq (tgt := 195) hx hb dX10_readTree_188 (by decide) (fun c_64 => ?_) (fun c_64 => ?_)
                          · exact absurd c_64 (by decide)
                          refine lv_iconst (v := 1) hx hb dX10_readTree_191 (by decide) ?_
                          refine lv_goto (tgt := 196) hx hb dX10_readTree_192 (by decide) ?_
                          refine lv_iadd hx hb dX10_readTree_196 ?_
                          refine va_put (D := (dC, dI)) (ci := 10) (v := .int ((o_60.2) + 1)) (ty := .int) (C := RX10) (T := TX10) (N := 24) hx hb hts iA_10 tyX10 tyX10_ok nmX10 hown hK hP hD hS 0 rfl rfl 3 (by decide) (hts (.fieldLink RX10 67 "HubTreeModel" "at" "I") (List.mem_cons_of_mem _ m_325)) (fun _ h9 => h9) rfl (by decide +kernel) rfl rfl (Nat.le_of_ble_eq_true rfl) dX10_readTree_197 (fun H locs hP hD hS => ?_)
                          have hP : va_P (dC, dI) vwCl [((bm 0), .inr (10, [.int th, .ref (bm 1), .int tn, .int ((o_60.2) + 1), .int (o_56), .ref (bm 2), .ref (bm 3), .int rm__c, .ref (bm 4), .ref (bm 5), .int mn, .ref (bm 6), .ref (bm 7), .int sn, .ref (bm 8), .ref (bm 9), .ref (bm 10), .int ac, .long dn, .ref (bm 11), .ref (bm 12), .ref (bm 13), .ref (bm 14), .int hi])), ((bm 1), .inl ((km 1), 240, .inl tp)), ((bm 2), .inl ((km 2), 8, .inl rr_c)), ((bm 3), .inl ((km 3), 48, .inl rd_c))] H := hP
                          have hD : va_D A [((bm 0), .inr (10, [.int th, .ref (bm 1), .int tn, .int ((o_60.2) + 1), .int (o_56), .ref (bm 2), .ref (bm 3), .int rm__c, .ref (bm 4), .ref (bm 5), .int mn, .ref (bm 6), .ref (bm 7), .int sn, .ref (bm 8), .ref (bm 9), .ref (bm 10), .int ac, .long dn, .ref (bm 11), .ref (bm 12), .ref (bm 13), .ref (bm 14), .int hi])), ((bm 1), .inl ((km 1), 240, .inl tp)), ((bm 2), .inl ((km 2), 8, .inl rr_c)), ((bm 3), .inl ((km 3), 48, .inl rd_c))] := hD
                          refine lv_goto (tgt := 45) hx hb dX10_readTree_200 (by decide) ?_
                          exact ih_45 x1_45 1 ((o_60.2) + 1) (o_56) rm__c rr_c rd_c H locs ls hG hP hD hS (lv_sub hl [0, 2, 3] rfl)
                    · have hG := q_ifp c_55 hG
                      refine lv_aload_n hx hb dX10_readTree_105 rfl (lv_at hl 3 rfl) ?_
                      refine va_get (D := (dC, dI)) (ci := 10) (v := .int rm__c) (C := RX10) (T := TX10) (N := 24) hx hb hts iA_10 hown hK hP 0 rfl rfl 7 (by decide) (hts (.fieldLink RX10 108 "HubTreeModel" "readMany" "I") (List.mem_cons_of_mem _ m_327)) (fun _ h9 => h9) rfl dX10_readTree_106 ?_
                      refine lv_bipush (v := 8) hx hb dX10_readTree_109 (by decide) ?_
                      refine lv_icmp_ge (tgt := 155) hx hb dX10_readTree_111 (by decide) (fun c_65 => ?_) (fun c_65 => ?_)
                      · have hG := q_ifp c_65 hG
                        refine lv_aload_n hx hb dX10_readTree_155 rfl (lv_at hl 3 rfl) ?_
                        obtain ⟨o_66, r_67, hG⟩ := q_bi hG
                        refine q_gov2 (wr := [((bm 1), .inl ((km 1), 240, .inl tp)), ((bm 2), .inl ((km 2), 8, .inl rr_c)), ((bm 3), .inl ((km 3), 48, .inl rd_c))]) (va_runV (As := []) (rest := []) ⟨hx, hb, hml, hown, hts⟩ (c_X10_bad l dC dI bm km th tn (o_22.2) wr_c rm__c mn sn ac hi dn (va_A [((bm 0), .inr (10, [.int th, .ref (bm 1), .int tn, .int (o_22.2), .int wr_c, .ref (bm 2), .ref (bm 3), .int rm__c, .ref (bm 4), .ref (bm 5), .int mn, .ref (bm 6), .ref (bm 7), .int sn, .ref (bm 8), .ref (bm 9), .ref (bm 10), .int ac, .long dn, .ref (bm 11), .ref (bm 12), .ref (bm 13), .ref (bm 14), .int hi]))] H.size) o_66 r_67) (cwV 0 hts (q_gV m_362 m_363 m_364 m_5 m_365) rfl rfl rfl hdV_yX10_bad_0 ⟨Nat.le_of_ble_eq_true rfl, Nat.le_of_ble_eq_true rfl⟩) (q_preWV hK hP hD (q := (RX10, TX10, 24)) (ci := 10) (q0 := 0) rfl rfl [0] (by decide) rfl rfl [] rfl) rfl rfl hl.1 rfl (lv_room (Nat.le_of_ble_eq_true rfl)) dX10_readTree_156 ⟨Nat.le_of_ble_eq_true rfl, Nat.le_of_ble_eq_true rfl⟩) hK hP hD hS hA [0] [1, 2, 3] rfl rfl (by decide) (by decide) (fun _ H locs _ hP hD hK9 hS => ?_)
                        have hP : va_P (dC, dI) vwCl [((bm 0), .inr (10, [.int th, .ref (bm 1), .int tn, .int (o_22.2), .int (o_66), .ref (bm 2), .ref (bm 3), .int rm__c, .ref (bm 4), .ref (bm 5), .int mn, .ref (bm 6), .ref (bm 7), .int sn, .ref (bm 8), .ref (bm 9), .ref (bm 10), .int ac, .long dn, .ref (bm 11), .ref (bm 12), .ref (bm 13), .ref (bm 14), .int hi])), ((bm 1), .inl ((km 1), 240, .inl tp)), ((bm 2), .inl ((km 2), 8, .inl rr_c)), ((bm 3), .inl ((km 3), 48, .inl rd_c))] H := hP.sub [3, 0, 1, 2] rfl
                        have hD : va_D A [((bm 0), .inr (10, [.int th, .ref (bm 1), .int tn, .int (o_22.2), .int (o_66), .ref (bm 2), .ref (bm 3), .int rm__c, .ref (bm 4), .ref (bm 5), .int mn, .ref (bm 6), .ref (bm 7), .int sn, .ref (bm 8), .ref (bm 9), .ref (bm 10), .int ac, .long dn, .ref (bm 11), .ref (bm 12), .ref (bm 13), .ref (bm 14), .int hi])), ((bm 1), .inl ((km 1), 240, .inl tp)), ((bm 2), .inl ((km 2), 8, .inl rr_c)), ((bm 3), .inl ((km 3), 48, .inl rd_c))] := hD.sub [3, 0, 1, 2] (by decide) rfl
                        refine lv_aload_n hx hb dX10_readTree_159 rfl (lv_at hl 3 rfl) ?_
                        refine va_get (D := (dC, dI)) (ci := 10) (v := .int (o_66)) (C := RX10) (T := TX10) (N := 24) hx hb hts iA_10 hown hK hP 0 rfl rfl 4 (by decide) (hts (.fieldLink RX10 74 "HubTreeModel" "wrong" "I") (List.mem_cons_of_mem _ m_326)) (fun _ h9 => h9) rfl dX10_readTree_160 ?_
                        refine lv_iconst (v := (-1)) hx hb dX10_readTree_163 (by decide) ?_
                        refine lv_icmp_ne (tgt := 180) hx hb dX10_readTree_164 (by decide) (fun c_68 => ?_) (fun c_68 => ?_)
                        · have hG := q_ifn c_68 hG
                          refine lv_iconst (v := 0) hx hb dX10_readTree_180 (by decide) ?_
                          refine lv_istore_n (lv' := [(2, .int 0), (3, .int o_22.1), (1, .int x1_45), (0, .ref (bm 0))]) hx hb dX10_readTree_181 rfl hl (by decide) rfl (fun ls hl => ?_)
                          refine lv_aload_n hx hb dX10_readTree_182 rfl (lv_at hl 3 rfl) ?_
                          refine lv_dup hx hb dX10_readTree_183 rfl ?_
                          refine va_get (D := (dC, dI)) (ci := 10) (v := .int (o_22.2)) (C := RX10) (T := TX10) (N := 24) hx hb hts iA_10 hown hK hP 0 rfl rfl 3 (by decide) (hts (.fieldLink RX10 67 "HubTreeModel" "at" "I") (List.mem_cons_of_mem _ m_325)) (fun _ h9 => h9) rfl dX10_readTree_184 ?_
                          refine lv_iload_n hx hb dX10_readTree_187 rfl (lv_at hl 0 rfl) ?_
                          refine lv_if_eq (tgt := 195) hx hb dX10_readTree_188 (by decide) (fun c_69 => ?_) (fun c_69 => ?_)
                          rotate_left
                          · exact absurd (by decide) c_69
                          refine lv_iconst (v := 0) hx hb dX10_readTree_195 (by decide) ?_
                          refine lv_iadd hx hb dX10_readTree_196 ?_
                          refine va_put (D := (dC, dI)) (ci := 10) (v := .int ((o_22.2) + 0)) (ty := .int) (C := RX10) (T := TX10) (N := 24) hx hb hts iA_10 tyX10 tyX10_ok nmX10 hown hK hP hD hS 0 rfl rfl 3 (by decide) (hts (.fieldLink RX10 67 "HubTreeModel" "at" "I") (List.mem_cons_of_mem _ m_325)) (fun _ h9 => h9) rfl (by decide +kernel) rfl rfl (Nat.le_of_ble_eq_true rfl) dX10_readTree_197 (fun H locs hP hD hS => ?_)
                          have hP : va_P (dC, dI) vwCl [((bm 0), .inr (10, [.int th, .ref (bm 1), .int tn, .int ((o_22.2) + 0), .int (o_66), .ref (bm 2), .ref (bm 3), .int rm__c, .ref (bm 4), .ref (bm 5), .int mn, .ref (bm 6), .ref (bm 7), .int sn, .ref (bm 8), .ref (bm 9), .ref (bm 10), .int ac, .long dn, .ref (bm 11), .ref (bm 12), .ref (bm 13), .ref (bm 14), .int hi])), ((bm 1), .inl ((km 1), 240, .inl tp)), ((bm 2), .inl ((km 2), 8, .inl rr_c)), ((bm 3), .inl ((km 3), 48, .inl rd_c))] H := hP
                          have hD : va_D A [((bm 0), .inr (10, [.int th, .ref (bm 1), .int tn, .int ((o_22.2) + 0), .int (o_66), .ref (bm 2), .ref (bm 3), .int rm__c, .ref (bm 4), .ref (bm 5), .int mn, .ref (bm 6), .ref (bm 7), .int sn, .ref (bm 8), .ref (bm 9), .ref (bm 10), .int ac, .long dn, .ref (bm 11), .ref (bm 12), .ref (bm 13), .ref (bm 14), .int hi])), ((bm 1), .inl ((km 1), 240, .inl tp)), ((bm 2), .inl ((km 2), 8, .inl rr_c)), ((bm 3), .inl ((km 3), 48, .inl rd_c))] := hD
                          refine lv_goto (tgt := 45) hx hb dX10_readTree_200 (by decide) ?_
                          exact ih_45 x1_45 0 ((o_22.2) + 0) (o_66) rm__c rr_c rd_c H locs ls hG hP hD hS (lv_sub hl [0, 2, 3] rfl)
                        · have hG := q_ifp c_68 hG
                          refine lv_aload_n hx hb dX10_readTree_167 rfl (lv_at hl 3 rfl) ?_
                          obtain ⟨o_70, r_71, hG⟩ := q_bi hG
                          refine q_goi2 (v := o_70.1) (wr := [((bm 2), .inl ((km 2), 8, .inl rr_c)), ((bm 3), .inl ((km 3), 48, .inl rd_c))]) (va_runV (As := []) (rest := []) ⟨hx, hb, hml, hown, hts⟩ (c_X10_ahead l dC dI bm km th tn (o_22.2) (o_66) rm__c mn sn ac hi dn tp (va_A [((bm 0), .inr (10, [.int th, .ref (bm 1), .int tn, .int (o_22.2), .int (o_66), .ref (bm 2), .ref (bm 3), .int rm__c, .ref (bm 4), .ref (bm 5), .int mn, .ref (bm 6), .ref (bm 7), .int sn, .ref (bm 8), .ref (bm 9), .ref (bm 10), .int ac, .long dn, .ref (bm 11), .ref (bm 12), .ref (bm 13), .ref (bm 14), .int hi])), ((bm 1), .inl ((km 1), 240, .inl tp))] H.size) o_70 r_71) (cwV 0 hts (q_gV m_331 m_332 m_333 m_5 m_334) rfl rfl rfl hdV_yX10_ahead_0 ⟨Nat.le_of_ble_eq_true rfl, Nat.le_of_ble_eq_true rfl⟩) (q_preWV hK hP hD (q := (RX10, TX10, 24)) (ci := 10) (q0 := 0) rfl rfl [0, 1] (by decide) rfl rfl [0] rfl) rfl rfl hl.1 rfl (lv_room (Nat.le_of_ble_eq_true rfl)) dX10_readTree_168 ⟨Nat.le_of_ble_eq_true rfl, Nat.le_of_ble_eq_true rfl⟩) hK hP hD hS hA [0, 1] [2, 3] rfl rfl (by decide) (by decide) (fun _ H locs _ hP hD hK9 hS => ?_)
                          have hP : va_P (dC, dI) vwCl [((bm 0), .inr (10, [.int th, .ref (bm 1), .int tn, .int (o_70.2), .int (o_66), .ref (bm 2), .ref (bm 3), .int rm__c, .ref (bm 4), .ref (bm 5), .int mn, .ref (bm 6), .ref (bm 7), .int sn, .ref (bm 8), .ref (bm 9), .ref (bm 10), .int ac, .long dn, .ref (bm 11), .ref (bm 12), .ref (bm 13), .ref (bm 14), .int hi])), ((bm 1), .inl ((km 1), 240, .inl tp)), ((bm 2), .inl ((km 2), 8, .inl rr_c)), ((bm 3), .inl ((km 3), 48, .inl rd_c))] H := hP.sub [2, 3, 0, 1] rfl
                          have hD : va_D A [((bm 0), .inr (10, [.int th, .ref (bm 1), .int tn, .int (o_70.2), .int (o_66), .ref (bm 2), .ref (bm 3), .int rm__c, .ref (bm 4), .ref (bm 5), .int mn, .ref (bm 6), .ref (bm 7), .int sn, .ref (bm 8), .ref (bm 9), .ref (bm 10), .int ac, .long dn, .ref (bm 11), .ref (bm 12), .ref (bm 13), .ref (bm 14), .int hi])), ((bm 1), .inl ((km 1), 240, .inl tp)), ((bm 2), .inl ((km 2), 8, .inl rr_c)), ((bm 3), .inl ((km 3), 48, .inl rd_c))] := hD.sub [2, 3, 0, 1] (by decide) rfl
                          refine lv_bipush (v := 59) hx hb dX10_readTree_171 (by decide) ?_
                          refine lv_icmp_ne (tgt := 180) hx hb dX10_readTree_173 (by decide) (fun c_72 => ?_) (fun c_72 => ?_)
                          · have hG := q_ifn c_72 hG
                            refine lv_iconst (v := 0) hx hb dX10_readTree_180 (by decide) ?_
                            refine lv_istore_n (lv' := [(2, .int 0), (3, .int o_22.1), (1, .int x1_45), (0, .ref (bm 0))]) hx hb dX10_readTree_181 rfl hl (by decide) rfl (fun ls hl => ?_)
                            refine lv_aload_n hx hb dX10_readTree_182 rfl (lv_at hl 3 rfl) ?_
                            refine lv_dup hx hb dX10_readTree_183 rfl ?_
                            refine va_get (D := (dC, dI)) (ci := 10) (v := .int (o_70.2)) (C := RX10) (T := TX10) (N := 24) hx hb hts iA_10 hown hK hP 0 rfl rfl 3 (by decide) (hts (.fieldLink RX10 67 "HubTreeModel" "at" "I") (List.mem_cons_of_mem _ m_325)) (fun _ h9 => h9) rfl dX10_readTree_184 ?_
                            refine lv_iload_n hx hb dX10_readTree_187 rfl (lv_at hl 0 rfl) ?_
                            refine lv_if_eq (tgt := 195) hx hb dX10_readTree_188 (by decide) (fun c_73 => ?_) (fun c_73 => ?_)
                            rotate_left
                            · exact absurd (by decide) c_73
                            refine lv_iconst (v := 0) hx hb dX10_readTree_195 (by decide) ?_
                            refine lv_iadd hx hb dX10_readTree_196 ?_
                            refine va_put (D := (dC, dI)) (ci := 10) (v := .int ((o_70.2) + 0)) (ty := .int) (C := RX10) (T := TX10) (N := 24) hx hb hts iA_10 tyX10 tyX10_ok nmX10 hown hK hP hD hS 0 rfl rfl 3 (by decide) (hts (.fieldLink RX10 67 "HubTreeModel" "at" "I") (List.mem_cons_of_mem _ m_325)) (fun _ h9 => h9) rfl (by decide +kernel) rfl rfl (Nat.le_of_ble_eq_true rfl) dX10_readTree_197 (fun H locs hP hD hS => ?_)
                            have hP : va_P (dC, dI) vwCl [((bm 0), .inr (10, [.int th, .ref (bm 1), .int tn, .int ((o_70.2) + 0), .int (o_66), .ref (bm 2), .ref (bm 3), .int rm__c, .ref (bm 4), .ref (bm 5), .int mn, .ref (bm 6), .ref (bm 7), .int sn, .ref (bm 8), .ref (bm 9), .ref (bm 10), .int ac, .long dn, .ref (bm 11), .ref (bm 12), .ref (bm 13), .ref (bm 14), .int hi])), ((bm 1), .inl ((km 1), 240, .inl tp)), ((bm 2), .inl ((km 2), 8, .inl rr_c)), ((bm 3), .inl ((km 3), 48, .inl rd_c))] H := hP
                            have hD : va_D A [((bm 0), .inr (10, [.int th, .ref (bm 1), .int tn, .int ((o_70.2) + 0), .int (o_66), .ref (bm 2), .ref (bm 3), .int rm__c, .ref (bm 4), .ref (bm 5), .int mn, .ref (bm 6), .ref (bm 7), .int sn, .ref (bm 8), .ref (bm 9), .ref (bm 10), .int ac, .long dn, .ref (bm 11), .ref (bm 12), .ref (bm 13), .ref (bm 14), .int hi])), ((bm 1), .inl ((km 1), 240, .inl tp)), ((bm 2), .inl ((km 2), 8, .inl rr_c)), ((bm 3), .inl ((km 3), 48, .inl rd_c))] := hD
                            refine lv_goto (tgt := 45) hx hb dX10_readTree_200 (by decide) ?_
                            exact ih_45 x1_45 0 ((o_70.2) + 0) (o_66) rm__c rr_c rd_c H locs ls hG hP hD hS (lv_sub hl [0, 2, 3] rfl)
                          · have hG := q_ifp c_72 hG
                            refine lv_iconst (v := 1) hx hb dX10_readTree_176 (by decide) ?_
                            refine lv_goto (tgt := 181) hx hb dX10_readTree_177 (by decide) ?_
                            refine lv_istore_n (lv' := [(2, .int 1), (3, .int o_22.1), (1, .int x1_45), (0, .ref (bm 0))]) hx hb dX10_readTree_181 rfl hl (by decide) rfl (fun ls hl => ?_)
                            refine lv_aload_n hx hb dX10_readTree_182 rfl (lv_at hl 3 rfl) ?_
                            refine lv_dup hx hb dX10_readTree_183 rfl ?_
                            refine va_get (D := (dC, dI)) (ci := 10) (v := .int (o_70.2)) (C := RX10) (T := TX10) (N := 24) hx hb hts iA_10 hown hK hP 0 rfl rfl 3 (by decide) (hts (.fieldLink RX10 67 "HubTreeModel" "at" "I") (List.mem_cons_of_mem _ m_325)) (fun _ h9 => h9) rfl dX10_readTree_184 ?_
                            refine lv_iload_n hx hb dX10_readTree_187 rfl (lv_at hl 0 rfl) ?_
                            refine lv_if_eq (tgt := 195) hx hb dX10_readTree_188 (by decide) (fun c_74 => ?_) (fun c_74 => ?_)
                            · exact absurd c_74 (by decide)
                            refine lv_iconst (v := 1) hx hb dX10_readTree_191 (by decide) ?_
                            refine lv_goto (tgt := 196) hx hb dX10_readTree_192 (by decide) ?_
                            refine lv_iadd hx hb dX10_readTree_196 ?_
                            refine va_put (D := (dC, dI)) (ci := 10) (v := .int ((o_70.2) + 1)) (ty := .int) (C := RX10) (T := TX10) (N := 24) hx hb hts iA_10 tyX10 tyX10_ok nmX10 hown hK hP hD hS 0 rfl rfl 3 (by decide) (hts (.fieldLink RX10 67 "HubTreeModel" "at" "I") (List.mem_cons_of_mem _ m_325)) (fun _ h9 => h9) rfl (by decide +kernel) rfl rfl (Nat.le_of_ble_eq_true rfl) dX10_readTree_197 (fun H locs hP hD hS => ?_)
                            have hP : va_P (dC, dI) vwCl [((bm 0), .inr (10, [.int th, .ref (bm 1), .int tn, .int ((o_70.2) + 1), .int (o_66), .ref (bm 2), .ref (bm 3), .int rm__c, .ref (bm 4), .ref (bm 5), .int mn, .ref (bm 6), .ref (bm 7), .int sn, .ref (bm 8), .ref (bm 9), .ref (bm 10), .int ac, .long dn, .ref (bm 11), .ref (bm 12), .ref (bm 13), .ref (bm 14), .int hi])), ((bm 1), .inl ((km 1), 240, .inl tp)), ((bm 2), .inl ((km 2), 8, .inl rr_c)), ((bm 3), .inl ((km 3), 48, .inl rd_c))] H := hP
                            have hD : va_D A [((bm 0), .inr (10, [.int th, .ref (bm 1), .int tn, .int ((o_70.2) + 1), .int (o_66), .ref (bm 2), .ref (bm 3), .int rm__c, .ref (bm 4), .ref (bm 5), .int mn, .ref (bm 6), .ref (bm 7), .int sn, .ref (bm 8), .ref (bm 9), .ref (bm 10), .int ac, .long dn, .ref (bm 11), .ref (bm 12), .ref (bm 13), .ref (bm 14), .int hi])), ((bm 1), .inl ((km 1), 240, .inl tp)), ((bm 2), .inl ((km 2), 8, .inl rr_c)), ((bm 3), .inl ((km 3), 48, .inl rd_c))] := hD
                            refine lv_goto (tgt := 45) hx hb dX10_readTree_200 (by decide) ?_
                            exact ih_45 x1_45 1 ((o_70.2) + 1) (o_66) rm__c rr_c rd_c H locs ls hG hP hD hS (lv_sub hl [0, 2, 3] rfl)
                      · have hG := q_ifn c_65 hG
                        refine lv_aload_n hx hb dX10_readTree_114 rfl (lv_at hl 3 rfl) ?_
                        refine lv_dup hx hb dX10_readTree_115 rfl ?_
                        refine va_get (D := (dC, dI)) (ci := 10) (v := .int (o_22.2)) (C := RX10) (T := TX10) (N := 24) hx hb hts iA_10 hown hK hP 0 rfl rfl 3 (by decide) (hts (.fieldLink RX10 67 "HubTreeModel" "at" "I") (List.mem_cons_of_mem _ m_325)) (fun _ h9 => h9) rfl dX10_readTree_116 ?_
                        refine lv_iconst (v := 1) hx hb dX10_readTree_119 (by decide) ?_
                        refine lv_iadd hx hb dX10_readTree_120 ?_
                        refine va_put (D := (dC, dI)) (ci := 10) (v := .int ((o_22.2) + 1)) (ty := .int) (C := RX10) (T := TX10) (N := 24) hx hb hts iA_10 tyX10 tyX10_ok nmX10 hown hK hP hD hS 0 rfl rfl 3 (by decide) (hts (.fieldLink RX10 67 "HubTreeModel" "at" "I") (List.mem_cons_of_mem _ m_325)) (fun _ h9 => h9) rfl (by decide +kernel) rfl rfl (Nat.le_of_ble_eq_true rfl) dX10_readTree_121 (fun H locs hP hD hS => ?_)
                        have hP : va_P (dC, dI) vwCl [((bm 0), .inr (10, [.int th, .ref (bm 1), .int tn, .int ((o_22.2) + 1), .int wr_c, .ref (bm 2), .ref (bm 3), .int rm__c, .ref (bm 4), .ref (bm 5), .int mn, .ref (bm 6), .ref (bm 7), .int sn, .ref (bm 8), .ref (bm 9), .ref (bm 10), .int ac, .long dn, .ref (bm 11), .ref (bm 12), .ref (bm 13), .ref (bm 14), .int hi])), ((bm 1), .inl ((km 1), 240, .inl tp)), ((bm 2), .inl ((km 2), 8, .inl rr_c)), ((bm 3), .inl ((km 3), 48, .inl rd_c))] H := hP
                        have hD : va_D A [((bm 0), .inr (10, [.int th, .ref (bm 1), .int tn, .int ((o_22.2) + 1), .int wr_c, .ref (bm 2), .ref (bm 3), .int rm__c, .ref (bm 4), .ref (bm 5), .int mn, .ref (bm 6), .ref (bm 7), .int sn, .ref (bm 8), .ref (bm 9), .ref (bm 10), .int ac, .long dn, .ref (bm 11), .ref (bm 12), .ref (bm 13), .ref (bm 14), .int hi])), ((bm 1), .inl ((km 1), 240, .inl tp)), ((bm 2), .inl ((km 2), 8, .inl rr_c)), ((bm 3), .inl ((km 3), 48, .inl rd_c))] := hD
                        refine lv_aload_n hx hb dX10_readTree_124 rfl (lv_at hl 3 rfl) ?_
                        refine lv_iload_n hx hb dX10_readTree_125 rfl (lv_at hl 0 rfl) ?_
                        refine lv_aload_n hx hb dX10_readTree_126 rfl (lv_at hl 3 rfl) ?_
                        refine va_get (D := (dC, dI)) (ci := 10) (v := .ref (bm 3)) (C := RX10) (T := TX10) (N := 24) hx hb hts iA_10 hown hK hP 0 rfl rfl 6 (by decide) (hts (.fieldLink RX10 16 "HubTreeModel" "readDevice" "[I") (List.mem_cons_of_mem _ m_117)) (fun _ h9 => h9) rfl dX10_readTree_127 ?_
                        refine lv_bipush (v := 6) hx hb dX10_readTree_130 (by decide) ?_
                        refine lv_aload_n hx hb dX10_readTree_132 rfl (lv_at hl 3 rfl) ?_
                        refine va_get (D := (dC, dI)) (ci := 10) (v := .int rm__c) (C := RX10) (T := TX10) (N := 24) hx hb hts iA_10 hown hK hP 0 rfl rfl 7 (by decide) (hts (.fieldLink RX10 108 "HubTreeModel" "readMany" "I") (List.mem_cons_of_mem _ m_327)) (fun _ h9 => h9) rfl dX10_readTree_133 ?_
                        refine lv_imul hx hb dX10_readTree_136 ?_
                        refine lv_bipush (v := 6) hx hb dX10_readTree_137 (by decide) ?_
                        obtain ⟨o_75, r_76, hG⟩ := q_bi hG
                        refine q_gov2 (wr := [((bm 2), .inl ((km 2), 8, .inl rr_c))]) (va_runV (As := [.int o_22.1, .ref (bm 3), .int (6 * rm__c), .int 6]) (rest := []) ⟨hx, hb, hml, hown, hts⟩ (c_X10_items_d l dC dI bm km th tn ((o_22.2) + 1) wr_c rm__c mn sn ac hi dn tp rd_c o_22.1 (6 * rm__c) 6 (va_A [((bm 0), .inr (10, [.int th, .ref (bm 1), .int tn, .int ((o_22.2) + 1), .int wr_c, .ref (bm 2), .ref (bm 3), .int rm__c, .ref (bm 4), .ref (bm 5), .int mn, .ref (bm 6), .ref (bm 7), .int sn, .ref (bm 8), .ref (bm 9), .ref (bm 10), .int ac, .long dn, .ref (bm 11), .ref (bm 12), .ref (bm 13), .ref (bm 14), .int hi])), ((bm 1), .inl ((km 1), 240, .inl tp)), ((bm 3), .inl ((km 3), 48, .inl rd_c))] H.size) o_75 r_76) (cwV 4 hts (q_gV m_339 m_340 m_341 m_5 m_342) rfl rfl rfl hdV_yX10_items_4 ⟨Nat.le_of_ble_eq_true rfl, Nat.le_of_ble_eq_true rfl⟩) (q_preWV hK hP hD (q := (RX10, TX10, 24)) (ci := 10) (q0 := 0) rfl rfl [0, 1, 3] (by decide) rfl rfl [0, 2] rfl) rfl rfl hl.1 rfl (lv_room (Nat.le_of_ble_eq_true rfl)) dX10_readTree_139 ⟨Nat.le_of_ble_eq_true rfl, Nat.le_of_ble_eq_true rfl⟩) hK hP hD hS hA [0, 1, 3] [2] rfl rfl (by decide) (by decide) (fun _ H locs _ hP hD hK9 hS => ?_)
                        have hP : va_P (dC, dI) vwCl [((bm 0), .inr (10, [.int th, .ref (bm 1), .int tn, .int (o_75.1), .int (o_75.2.1), .ref (bm 2), .ref (bm 3), .int rm__c, .ref (bm 4), .ref (bm 5), .int mn, .ref (bm 6), .ref (bm 7), .int sn, .ref (bm 8), .ref (bm 9), .ref (bm 10), .int ac, .long dn, .ref (bm 11), .ref (bm 12), .ref (bm 13), .ref (bm 14), .int hi])), ((bm 1), .inl ((km 1), 240, .inl tp)), ((bm 2), .inl ((km 2), 8, .inl rr_c)), ((bm 3), .inl ((km 3), 48, .inl (o_75.2.2)))] H := hP.sub [1, 2, 0, 3] rfl
                        have hD : va_D A [((bm 0), .inr (10, [.int th, .ref (bm 1), .int tn, .int (o_75.1), .int (o_75.2.1), .ref (bm 2), .ref (bm 3), .int rm__c, .ref (bm 4), .ref (bm 5), .int mn, .ref (bm 6), .ref (bm 7), .int sn, .ref (bm 8), .ref (bm 9), .ref (bm 10), .int ac, .long dn, .ref (bm 11), .ref (bm 12), .ref (bm 13), .ref (bm 14), .int hi])), ((bm 1), .inl ((km 1), 240, .inl tp)), ((bm 2), .inl ((km 2), 8, .inl rr_c)), ((bm 3), .inl ((km 3), 48, .inl (o_75.2.2)))] := hD.sub [1, 2, 0, 3] (by decide) rfl
                        refine lv_aload_n hx hb dX10_readTree_142 rfl (lv_at hl 3 rfl) ?_
                        refine lv_dup hx hb dX10_readTree_143 rfl ?_
                        refine va_get (D := (dC, dI)) (ci := 10) (v := .int rm__c) (C := RX10) (T := TX10) (N := 24) hx hb hts iA_10 hown hK hP 0 rfl rfl 7 (by decide) (hts (.fieldLink RX10 108 "HubTreeModel" "readMany" "I") (List.mem_cons_of_mem _ m_327)) (fun _ h9 => h9) rfl dX10_readTree_144 ?_
                        refine lv_iconst (v := 1) hx hb dX10_readTree_147 (by decide) ?_
                        refine lv_iadd hx hb dX10_readTree_148 ?_
                        refine va_put (D := (dC, dI)) (ci := 10) (v := .int (rm__c + 1)) (ty := .int) (C := RX10) (T := TX10) (N := 24) hx hb hts iA_10 tyX10 tyX10_ok nmX10 hown hK hP hD hS 0 rfl rfl 7 (by decide) (hts (.fieldLink RX10 108 "HubTreeModel" "readMany" "I") (List.mem_cons_of_mem _ m_327)) (fun _ h9 => h9) rfl (by decide +kernel) rfl rfl (Nat.le_of_ble_eq_true rfl) dX10_readTree_149 (fun H locs hP hD hS => ?_)
                        have hP : va_P (dC, dI) vwCl [((bm 0), .inr (10, [.int th, .ref (bm 1), .int tn, .int (o_75.1), .int (o_75.2.1), .ref (bm 2), .ref (bm 3), .int (rm__c + 1), .ref (bm 4), .ref (bm 5), .int mn, .ref (bm 6), .ref (bm 7), .int sn, .ref (bm 8), .ref (bm 9), .ref (bm 10), .int ac, .long dn, .ref (bm 11), .ref (bm 12), .ref (bm 13), .ref (bm 14), .int hi])), ((bm 1), .inl ((km 1), 240, .inl tp)), ((bm 2), .inl ((km 2), 8, .inl rr_c)), ((bm 3), .inl ((km 3), 48, .inl (o_75.2.2)))] H := hP
                        have hD : va_D A [((bm 0), .inr (10, [.int th, .ref (bm 1), .int tn, .int (o_75.1), .int (o_75.2.1), .ref (bm 2), .ref (bm 3), .int (rm__c + 1), .ref (bm 4), .ref (bm 5), .int mn, .ref (bm 6), .ref (bm 7), .int sn, .ref (bm 8), .ref (bm 9), .ref (bm 10), .int ac, .long dn, .ref (bm 11), .ref (bm 12), .ref (bm 13), .ref (bm 14), .int hi])), ((bm 1), .inl ((km 1), 240, .inl tp)), ((bm 2), .inl ((km 2), 8, .inl rr_c)), ((bm 3), .inl ((km 3), 48, .inl (o_75.2.2)))] := hD
                        refine lv_goto (tgt := 159) hx hb dX10_readTree_152 (by decide) ?_
                        refine lv_aload_n hx hb dX10_readTree_159 rfl (lv_at hl 3 rfl) ?_
                        refine va_get (D := (dC, dI)) (ci := 10) (v := .int (o_75.2.1)) (C := RX10) (T := TX10) (N := 24) hx hb hts iA_10 hown hK hP 0 rfl rfl 4 (by decide) (hts (.fieldLink RX10 74 "HubTreeModel" "wrong" "I") (List.mem_cons_of_mem _ m_326)) (fun _ h9 => h9) rfl dX10_readTree_160 ?_
                        refine lv_iconst (v := (-1)) hx hb dX10_readTree_163 (by decide) ?_
                        refine lv_icmp_ne (tgt := 180) hx hb dX10_readTree_164 (by decide) (fun c_77 => ?_) (fun c_77 => ?_)
                        · have hG := q_ifn c_77 hG
                          refine lv_iconst (v := 0) hx hb dX10_readTree_180 (by decide) ?_
                          refine lv_istore_n (lv' := [(2, .int 0), (3, .int o_22.1), (1, .int x1_45), (0, .ref (bm 0))]) hx hb dX10_readTree_181 rfl hl (by decide) rfl (fun ls hl => ?_)
                          refine lv_aload_n hx hb dX10_readTree_182 rfl (lv_at hl 3 rfl) ?_
                          refine lv_dup hx hb dX10_readTree_183 rfl ?_
                          refine va_get (D := (dC, dI)) (ci := 10) (v := .int (o_75.1)) (C := RX10) (T := TX10) (N := 24) hx hb hts iA_10 hown hK hP 0 rfl rfl 3 (by decide) (hts (.fieldLink RX10 67 "HubTreeModel" "at" "I") (List.mem_cons_of_mem _ m_325)) (fun _ h9 => h9) rfl dX10_readTree_184 ?_
                          refine lv_iload_n hx hb dX10_readTree_187 rfl (lv_at hl 0 rfl) ?_
                          refine lv_if_eq (tgt := 195) hx hb dX10_readTree_188 (by decide) (fun c_78 => ?_) (fun c_78 => ?_)
                          rotate_left
                          · exact absurd (by decide) c_78
                          refine lv_iconst (v := 0) hx hb dX10_readTree_195 (by decide) ?_
                          refine lv_iadd hx hb dX10_readTree_196 ?_
                          refine va_put (D := (dC, dI)) (ci := 10) (v := .int ((o_75.1) + 0)) (ty := .int) (C := RX10) (T := TX10) (N := 24) hx hb hts iA_10 tyX10 tyX10_ok nmX10 hown hK hP hD hS 0 rfl rfl 3 (by decide) (hts (.fieldLink RX10 67 "HubTreeModel" "at" "I") (List.mem_cons_of_mem _ m_325)) (fun _ h9 => h9) rfl (by decide +kernel) rfl rfl (Nat.le_of_ble_eq_true rfl) dX10_readTree_197 (fun H locs hP hD hS => ?_)
                          have hP : va_P (dC, dI) vwCl [((bm 0), .inr (10, [.int th, .ref (bm 1), .int tn, .int ((o_75.1) + 0), .int (o_75.2.1), .ref (bm 2), .ref (bm 3), .int (rm__c + 1), .ref (bm 4), .ref (bm 5), .int mn, .ref (bm 6), .ref (bm 7), .int sn, .ref (bm 8), .ref (bm 9), .ref (bm 10), .int ac, .long dn, .ref (bm 11), .ref (bm 12), .ref (bm 13), .ref (bm 14), .int hi])), ((bm 1), .inl ((km 1), 240, .inl tp)), ((bm 2), .inl ((km 2), 8, .inl rr_c)), ((bm 3), .inl ((km 3), 48, .inl (o_75.2.2)))] H := hP
                          have hD : va_D A [((bm 0), .inr (10, [.int th, .ref (bm 1), .int tn, .int ((o_75.1) + 0), .int (o_75.2.1), .ref (bm 2), .ref (bm 3), .int (rm__c + 1), .ref (bm 4), .ref (bm 5), .int mn, .ref (bm 6), .ref (bm 7), .int sn, .ref (bm 8), .ref (bm 9), .ref (bm 10), .int ac, .long dn, .ref (bm 11), .ref (bm 12), .ref (bm 13), .ref (bm 14), .int hi])), ((bm 1), .inl ((km 1), 240, .inl tp)), ((bm 2), .inl ((km 2), 8, .inl rr_c)), ((bm 3), .inl ((km 3), 48, .inl (o_75.2.2)))] := hD
                          refine lv_goto (tgt := 45) hx hb dX10_readTree_200 (by decide) ?_
                          exact ih_45 x1_45 0 ((o_75.1) + 0) (o_75.2.1) (rm__c + 1) rr_c (o_75.2.2) H locs ls hG hP hD hS (lv_sub hl [0, 2, 3] rfl)
                        · have hG := q_ifp c_77 hG
                          refine lv_aload_n hx hb dX10_readTree_167 rfl (lv_at hl 3 rfl) ?_
                          obtain ⟨o_79, r_80, hG⟩ := q_bi hG
                          refine q_goi2 (v := o_79.1) (wr := [((bm 2), .inl ((km 2), 8, .inl rr_c)), ((bm 3), .inl ((km 3), 48, .inl (o_75.2.2)))]) (va_runV (As := []) (rest := []) ⟨hx, hb, hml, hown, hts⟩ (c_X10_ahead l dC dI bm km th tn (o_75.1) (o_75.2.1) (rm__c + 1) mn sn ac hi dn tp (va_A [((bm 0), .inr (10, [.int th, .ref (bm 1), .int tn, .int (o_75.1), .int (o_75.2.1), .ref (bm 2), .ref (bm 3), .int (rm__c + 1), .ref (bm 4), .ref (bm 5), .int mn, .ref (bm 6), .ref (bm 7), .int sn, .ref (bm 8), .ref (bm 9), .ref (bm 10), .int ac, .long dn, .ref (bm 11), .ref (bm 12), .ref (bm 13), .ref (bm 14), .int hi])), ((bm 1), .inl ((km 1), 240, .inl tp))] H.size) o_79 r_80) (cwV 0 hts (q_gV m_331 m_332 m_333 m_5 m_334) rfl rfl rfl hdV_yX10_ahead_0 ⟨Nat.le_of_ble_eq_true rfl, Nat.le_of_ble_eq_true rfl⟩) (q_preWV hK hP hD (q := (RX10, TX10, 24)) (ci := 10) (q0 := 0) rfl rfl [0, 1] (by decide) rfl rfl [0] rfl) rfl rfl hl.1 rfl (lv_room (Nat.le_of_ble_eq_true rfl)) dX10_readTree_168 ⟨Nat.le_of_ble_eq_true rfl, Nat.le_of_ble_eq_true rfl⟩) hK hP hD hS hA [0, 1] [2, 3] rfl rfl (by decide) (by decide) (fun _ H locs _ hP hD hK9 hS => ?_)
                          have hP : va_P (dC, dI) vwCl [((bm 0), .inr (10, [.int th, .ref (bm 1), .int tn, .int (o_79.2), .int (o_75.2.1), .ref (bm 2), .ref (bm 3), .int (rm__c + 1), .ref (bm 4), .ref (bm 5), .int mn, .ref (bm 6), .ref (bm 7), .int sn, .ref (bm 8), .ref (bm 9), .ref (bm 10), .int ac, .long dn, .ref (bm 11), .ref (bm 12), .ref (bm 13), .ref (bm 14), .int hi])), ((bm 1), .inl ((km 1), 240, .inl tp)), ((bm 2), .inl ((km 2), 8, .inl rr_c)), ((bm 3), .inl ((km 3), 48, .inl (o_75.2.2)))] H := hP.sub [2, 3, 0, 1] rfl
                          have hD : va_D A [((bm 0), .inr (10, [.int th, .ref (bm 1), .int tn, .int (o_79.2), .int (o_75.2.1), .ref (bm 2), .ref (bm 3), .int (rm__c + 1), .ref (bm 4), .ref (bm 5), .int mn, .ref (bm 6), .ref (bm 7), .int sn, .ref (bm 8), .ref (bm 9), .ref (bm 10), .int ac, .long dn, .ref (bm 11), .ref (bm 12), .ref (bm 13), .ref (bm 14), .int hi])), ((bm 1), .inl ((km 1), 240, .inl tp)), ((bm 2), .inl ((km 2), 8, .inl rr_c)), ((bm 3), .inl ((km 3), 48, .inl (o_75.2.2)))] := hD.sub [2, 3, 0, 1] (by decide) rfl
                          refine lv_bipush (v := 59) hx hb dX10_readTree_171 (by decide) ?_
                          refine lv_icmp_ne (tgt := 180) hx hb dX10_readTree_173 (by decide) (fun c_81 => ?_) (fun c_81 => ?_)
                          · have hG := q_ifn c_81 hG
                            refine lv_iconst (v := 0) hx hb dX10_readTree_180 (by decide) ?_
                            refine lv_istore_n (lv' := [(2, .int 0), (3, .int o_22.1), (1, .int x1_45), (0, .ref (bm 0))]) hx hb dX10_readTree_181 rfl hl (by decide) rfl (fun ls hl => ?_)
                            refine lv_aload_n hx hb dX10_readTree_182 rfl (lv_at hl 3 rfl) ?_
                            refine lv_dup hx hb dX10_readTree_183 rfl ?_
                            refine va_get (D := (dC, dI)) (ci := 10) (v := .int (o_79.2)) (C := RX10) (T := TX10) (N := 24) hx hb hts iA_10 hown hK hP 0 rfl rfl 3 (by decide) (hts (.fieldLink RX10 67 "HubTreeModel" "at" "I") (List.mem_cons_of_mem _ m_325)) (fun _ h9 => h9) rfl dX10_readTree_184 ?_
                            refine lv_iload_n hx hb dX10_readTree_187 rfl (lv_at hl 0 rfl) ?_
                            refine lv_if_eq (tgt := 195) hx hb dX10_readTree_188 (by decide) (fun c_82 => ?_) (fun c_82 => ?_)
                            rotate_left
                            · exact absurd (by decide) c_82
                            refine lv_iconst (v := 0) hx hb dX10_readTree_195 (by decide) ?_
                            refine lv_iadd hx hb dX10_readTree_196 ?_
                            refine va_put (D := (dC, dI)) (ci := 10) (v := .int ((o_79.2) + 0)) (ty := .int) (C := RX10) (T := TX10) (N := 24) hx hb hts iA_10 tyX10 tyX10_ok nmX10 hown hK hP hD hS 0 rfl rfl 3 (by decide) (hts (.fieldLink RX10 67 "HubTreeModel" "at" "I") (List.mem_cons_of_mem _ m_325)) (fun _ h9 => h9) rfl (by decide +kernel) rfl rfl (Nat.le_of_ble_eq_true rfl) dX10_readTree_197 (fun H locs hP hD hS => ?_)
                            have hP : va_P (dC, dI) vwCl [((bm 0), .inr (10, [.int th, .ref (bm 1), .int tn, .int ((o_79.2) + 0), .int (o_75.2.1), .ref (bm 2), .ref (bm 3), .int (rm__c + 1), .ref (bm 4), .ref (bm 5), .int mn, .ref (bm 6), .ref (bm 7), .int sn, .ref (bm 8), .ref (bm 9), .ref (bm 10), .int ac, .long dn, .ref (bm 11), .ref (bm 12), .ref (bm 13), .ref (bm 14), .int hi])), ((bm 1), .inl ((km 1), 240, .inl tp)), ((bm 2), .inl ((km 2), 8, .inl rr_c)), ((bm 3), .inl ((km 3), 48, .inl (o_75.2.2)))] H := hP
                            have hD : va_D A [((bm 0), .inr (10, [.int th, .ref (bm 1), .int tn, .int ((o_79.2) + 0), .int (o_75.2.1), .ref (bm 2), .ref (bm 3), .int (rm__c + 1), .ref (bm 4), .ref (bm 5), .int mn, .ref (bm 6), .ref (bm 7), .int sn, .ref (bm 8), .ref (bm 9), .ref (bm 10), .int ac, .long dn, .ref (bm 11), .ref (bm 12), .ref (bm 13), .ref (bm 14), .int hi])), ((bm 1), .inl ((km 1), 240, .inl tp)), ((bm 2), .inl ((km 2), 8, .inl rr_c)), ((bm 3), .inl ((km 3), 48, .inl (o_75.2.2)))] := hD
                            refine lv_goto (tgt := 45) hx hb dX10_readTree_200 (by decide) ?_
                            exact ih_45 x1_45 0 ((o_79.2) + 0) (o_75.2.1) (rm__c + 1) rr_c (o_75.2.2) H locs ls hG hP hD hS (lv_sub hl [0, 2, 3] rfl)
                          · have hG := q_ifp c_81 hG
                            refine lv_iconst (v := 1) hx hb dX10_readTree_176 (by decide) ?_
                            refine lv_goto (tgt := 181) hx hb dX10_readTree_177 (by decide) ?_
                            refine lv_istore_n (lv' := [(2, .int 1), (3, .int o_22.1), (1, .int x1_45), (0, .ref (bm 0))]) hx hb dX10_readTree_181 rfl hl (by decide) rfl (fun ls hl => ?_)
                            refine lv_aload_n hx hb dX10_readTree_182 rfl (lv_at hl 3 rfl) ?_
                            refine lv_dup hx hb dX10_readTree_183 rfl ?_
                            refine va_get (D := (dC, dI)) (ci := 10) (v := .int (o_79.2)) (C := RX10) (T := TX10) (N := 24) hx hb hts iA_10 hown hK hP 0 rfl rfl 3 (by decide) (hts (.fieldLink RX10 67 "HubTreeModel" "at" "I") (List.mem_cons_of_mem _ m_325)) (fun _ h9 => h9) rfl dX10_readTree_184 ?_
                            refine lv_iload_n hx hb dX10_readTree_187 rfl (lv_at hl 0 rfl) ?_
                            refine lv_if_eq (tgt := 195) hx hb dX10_readTree_188 (by decide) (fun c_83 => ?_) (fun c_83 => ?_)
                            · exact absurd c_83 (by decide)
                            refine lv_iconst (v := 1) hx hb dX10_readTree_191 (by decide) ?_
                            refine lv_goto (tgt := 196) hx hb dX10_readTree_192 (by decide) ?_
                            refine lv_iadd hx hb dX10_readTree_196 ?_
                            refine va_put (D := (dC, dI)) (ci := 10) (v := .int ((o_79.2) + 1)) (ty := .int) (C := RX10) (T := TX10) (N := 24) hx hb hts iA_10 tyX10 tyX10_ok nmX10 hown hK hP hD hS 0 rfl rfl 3 (by decide) (hts (.fieldLink RX10 67 "HubTreeModel" "at" "I") (List.mem_cons_of_mem _ m_325)) (fun _ h9 => h9) rfl (by decide +kernel) rfl rfl (Nat.le_of_ble_eq_true rfl) dX10_readTree_197 (fun H locs hP hD hS => ?_)
                            have hP : va_P (dC, dI) vwCl [((bm 0), .inr (10, [.int th, .ref (bm 1), .int tn, .int ((o_79.2) + 1), .int (o_75.2.1), .ref (bm 2), .ref (bm 3), .int (rm__c + 1), .ref (bm 4), .ref (bm 5), .int mn, .ref (bm 6), .ref (bm 7), .int sn, .ref (bm 8), .ref (bm 9), .ref (bm 10), .int ac, .long dn, .ref (bm 11), .ref (bm 12), .ref (bm 13), .ref (bm 14), .int hi])), ((bm 1), .inl ((km 1), 240, .inl tp)), ((bm 2), .inl ((km 2), 8, .inl rr_c)), ((bm 3), .inl ((km 3), 48, .inl (o_75.2.2)))] H := hP
                            have hD : va_D A [((bm 0), .inr (10, [.int th, .ref (bm 1), .int tn, .int ((o_79.2) + 1), .int (o_75.2.1), .ref (bm 2), .ref (bm 3), .int (rm__c + 1), .ref (bm 4), .ref (bm 5), .int mn, .ref (bm 6), .ref (bm 7), .int sn, .ref (bm 8), .ref (bm 9), .ref (bm 10), .int ac, .long dn, .ref (bm 11), .ref (bm 12), .ref (bm 13), .ref (bm 14), .int hi])), ((bm 1), .inl ((km 1), 240, .inl tp)), ((bm 2), .inl ((km 2), 8, .inl rr_c)), ((bm 3), .inl ((km 3), 48, .inl (o_75.2.2)))] := hD
                            refine lv_goto (tgt := 45) hx hb dX10_readTree_200 (by decide) ?_
                            exact ih_45 x1_45 1 ((o_79.2) + 1) (o_75.2.1) (rm__c + 1) rr_c (o_75.2.2) H locs ls hG hP hD hS (lv_sub hl [0, 2, 3] rfl)
                  · have hG := q_ifp c_54 hG
                    refine lv_iconst (v := 1) hx hb dX10_readTree_72 (by decide) ?_
                    refine lv_istore_n (lv' := [(1, .int 1), (3, .int o_22.1), (2, .int x2_45), (0, .ref (bm 0))]) hx hb dX10_readTree_73 rfl hl (by decide) rfl (fun ls hl => ?_)
                    refine lv_aload_n hx hb dX10_readTree_74 rfl (lv_at hl 3 rfl) ?_
                    refine lv_dup hx hb dX10_readTree_75 rfl ?_
                    refine va_get (D := (dC, dI)) (ci := 10) (v := .int (o_22.2)) (C := RX10) (T := TX10) (N := 24) hx hb hts iA_10 hown hK hP 0 rfl rfl 3 (by decide) (hts (.fieldLink RX10 67 "HubTreeModel" "at" "I") (List.mem_cons_of_mem _ m_325)) (fun _ h9 => h9) rfl dX10_readTree_76 ?_
                    refine lv_iconst (v := 1) hx hb dX10_readTree_79 (by decide) ?_
                    refine lv_iadd hx hb dX10_readTree_80 ?_
                    refine va_put (D := (dC, dI)) (ci := 10) (v := .int ((o_22.2) + 1)) (ty := .int) (C := RX10) (T := TX10) (N := 24) hx hb hts iA_10 tyX10 tyX10_ok nmX10 hown hK hP hD hS 0 rfl rfl 3 (by decide) (hts (.fieldLink RX10 67 "HubTreeModel" "at" "I") (List.mem_cons_of_mem _ m_325)) (fun _ h9 => h9) rfl (by decide +kernel) rfl rfl (Nat.le_of_ble_eq_true rfl) dX10_readTree_81 (fun H locs hP hD hS => ?_)
                    have hP : va_P (dC, dI) vwCl [((bm 0), .inr (10, [.int th, .ref (bm 1), .int tn, .int ((o_22.2) + 1), .int wr_c, .ref (bm 2), .ref (bm 3), .int rm__c, .ref (bm 4), .ref (bm 5), .int mn, .ref (bm 6), .ref (bm 7), .int sn, .ref (bm 8), .ref (bm 9), .ref (bm 10), .int ac, .long dn, .ref (bm 11), .ref (bm 12), .ref (bm 13), .ref (bm 14), .int hi])), ((bm 1), .inl ((km 1), 240, .inl tp)), ((bm 2), .inl ((km 2), 8, .inl rr_c)), ((bm 3), .inl ((km 3), 48, .inl rd_c))] H := hP
                    have hD : va_D A [((bm 0), .inr (10, [.int th, .ref (bm 1), .int tn, .int ((o_22.2) + 1), .int wr_c, .ref (bm 2), .ref (bm 3), .int rm__c, .ref (bm 4), .ref (bm 5), .int mn, .ref (bm 6), .ref (bm 7), .int sn, .ref (bm 8), .ref (bm 9), .ref (bm 10), .int ac, .long dn, .ref (bm 11), .ref (bm 12), .ref (bm 13), .ref (bm 14), .int hi])), ((bm 1), .inl ((km 1), 240, .inl tp)), ((bm 2), .inl ((km 2), 8, .inl rr_c)), ((bm 3), .inl ((km 3), 48, .inl rd_c))] := hD
                    refine lv_aload_n hx hb dX10_readTree_84 rfl (lv_at hl 3 rfl) ?_
                    refine lv_iload_n hx hb dX10_readTree_85 rfl (lv_at hl 1 rfl) ?_
                    refine lv_aload_n hx hb dX10_readTree_86 rfl (lv_at hl 3 rfl) ?_
                    refine va_get (D := (dC, dI)) (ci := 10) (v := .ref (bm 2)) (C := RX10) (T := TX10) (N := 24) hx hb hts iA_10 hown hK hP 0 rfl rfl 5 (by decide) (hts (.fieldLink RX10 13 "HubTreeModel" "readRule" "[I") (List.mem_cons_of_mem _ m_116)) (fun _ h9 => h9) rfl dX10_readTree_87 ?_
                    refine lv_iconst (v := 0) hx hb dX10_readTree_90 (by decide) ?_
                    refine lv_bipush (v := 8) hx hb dX10_readTree_91 (by decide) ?_
                    obtain ⟨o_84, r_85, hG⟩ := q_bi hG
                    refine q_gov2 (wr := [((bm 3), .inl ((km 3), 48, .inl rd_c))]) (va_runV (As := [.int o_22.1, .ref (bm 2), .int 0, .int 8]) (rest := []) ⟨hx, hb, hml, hown, hts⟩ (c_X10_items_s l dC dI bm km th tn ((o_22.2) + 1) wr_c rm__c mn sn ac hi dn tp rr_c o_22.1 0 8 (va_A [((bm 0), .inr (10, [.int th, .ref (bm 1), .int tn, .int ((o_22.2) + 1), .int wr_c, .ref (bm 2), .ref (bm 3), .int rm__c, .ref (bm 4), .ref (bm 5), .int mn, .ref (bm 6), .ref (bm 7), .int sn, .ref (bm 8), .ref (bm 9), .ref (bm 10), .int ac, .long dn, .ref (bm 11), .ref (bm 12), .ref (bm 13), .ref (bm 14), .int hi])), ((bm 1), .inl ((km 1), 240, .inl tp)), ((bm 2), .inl ((km 2), 8, .inl rr_c))] H.size) o_84 r_85) (cwV 4 hts (q_gV m_339 m_340 m_341 m_5 m_342) rfl rfl rfl hdV_yX10_items_4 ⟨Nat.le_of_ble_eq_true rfl, Nat.le_of_ble_eq_true rfl⟩) (q_preWV hK hP hD (q := (RX10, TX10, 24)) (ci := 10) (q0 := 0) rfl rfl [0, 1, 2] (by decide) rfl rfl [0, 1] rfl) rfl rfl hl.1 rfl (lv_room (Nat.le_of_ble_eq_true rfl)) dX10_readTree_93 ⟨Nat.le_of_ble_eq_true rfl, Nat.le_of_ble_eq_true rfl⟩) hK hP hD hS hA [0, 1, 2] [3] rfl rfl (by decide) (by decide) (fun _ H locs _ hP hD hK9 hS => ?_)
                    have hP : va_P (dC, dI) vwCl [((bm 0), .inr (10, [.int th, .ref (bm 1), .int tn, .int (o_84.1), .int (o_84.2.1), .ref (bm 2), .ref (bm 3), .int rm__c, .ref (bm 4), .ref (bm 5), .int mn, .ref (bm 6), .ref (bm 7), .int sn, .ref (bm 8), .ref (bm 9), .ref (bm 10), .int ac, .long dn, .ref (bm 11), .ref (bm 12), .ref (bm 13), .ref (bm 14), .int hi])), ((bm 1), .inl ((km 1), 240, .inl tp)), ((bm 2), .inl ((km 2), 8, .inl (o_84.2.2))), ((bm 3), .inl ((km 3), 48, .inl rd_c))] H := hP.sub [1, 2, 3, 0] rfl
                    have hD : va_D A [((bm 0), .inr (10, [.int th, .ref (bm 1), .int tn, .int (o_84.1), .int (o_84.2.1), .ref (bm 2), .ref (bm 3), .int rm__c, .ref (bm 4), .ref (bm 5), .int mn, .ref (bm 6), .ref (bm 7), .int sn, .ref (bm 8), .ref (bm 9), .ref (bm 10), .int ac, .long dn, .ref (bm 11), .ref (bm 12), .ref (bm 13), .ref (bm 14), .int hi])), ((bm 1), .inl ((km 1), 240, .inl tp)), ((bm 2), .inl ((km 2), 8, .inl (o_84.2.2))), ((bm 3), .inl ((km 3), 48, .inl rd_c))] := hD.sub [1, 2, 3, 0] (by decide) rfl
                    refine lv_goto (tgt := 159) hx hb dX10_readTree_96 (by decide) ?_
                    refine lv_aload_n hx hb dX10_readTree_159 rfl (lv_at hl 3 rfl) ?_
                    refine va_get (D := (dC, dI)) (ci := 10) (v := .int (o_84.2.1)) (C := RX10) (T := TX10) (N := 24) hx hb hts iA_10 hown hK hP 0 rfl rfl 4 (by decide) (hts (.fieldLink RX10 74 "HubTreeModel" "wrong" "I") (List.mem_cons_of_mem _ m_326)) (fun _ h9 => h9) rfl dX10_readTree_160 ?_
                    refine lv_iconst (v := (-1)) hx hb dX10_readTree_163 (by decide) ?_
                    refine lv_icmp_ne (tgt := 180) hx hb dX10_readTree_164 (by decide) (fun c_86 => ?_) (fun c_86 => ?_)
                    · have hG := q_ifn c_86 hG
                      refine lv_iconst (v := 0) hx hb dX10_readTree_180 (by decide) ?_
                      refine lv_istore_n (lv' := [(2, .int 0), (1, .int 1), (3, .int o_22.1), (0, .ref (bm 0))]) hx hb dX10_readTree_181 rfl hl (by decide) rfl (fun ls hl => ?_)
                      refine lv_aload_n hx hb dX10_readTree_182 rfl (lv_at hl 3 rfl) ?_
                      refine lv_dup hx hb dX10_readTree_183 rfl ?_
                      refine va_get (D := (dC, dI)) (ci := 10) (v := .int (o_84.1)) (C := RX10) (T := TX10) (N := 24) hx hb hts iA_10 hown hK hP 0 rfl rfl 3 (by decide) (hts (.fieldLink RX10 67 "HubTreeModel" "at" "I") (List.mem_cons_of_mem _ m_325)) (fun _ h9 => h9) rfl dX10_readTree_184 ?_
                      refine lv_iload_n hx hb dX10_readTree_187 rfl (lv_at hl 0 rfl) ?_
                      refine lv_if_eq (tgt := 195) hx hb dX10_readTree_188 (by decide) (fun c_87 => ?_) (fun c_87 => ?_)
                      rotate_left
                      · exact absurd (by decide) c_87
                      refine lv_iconst (v := 0) hx hb dX10_readTree_195 (by decide) ?_
                      refine lv_iadd hx hb dX10_readTree_196 ?_
                      refine va_put (D := (dC, dI)) (ci := 10) (v := .int ((o_84.1) + 0)) (ty := .int) (C := RX10) (T := TX10) (N := 24) hx hb hts iA_10 tyX10 tyX10_ok nmX10 hown hK hP hD hS 0 rfl rfl 3 (by decide) (hts (.fieldLink RX10 67 "HubTreeModel" "at" "I") (List.mem_cons_of_mem _ m_325)) (fun _ h9 => h9) rfl (by decide +kernel) rfl rfl (Nat.le_of_ble_eq_true rfl) dX10_readTree_197 (fun H locs hP hD hS => ?_)
                      have hP : va_P (dC, dI) vwCl [((bm 0), .inr (10, [.int th, .ref (bm 1), .int tn, .int ((o_84.1) + 0), .int (o_84.2.1), .ref (bm 2), .ref (bm 3), .int rm__c, .ref (bm 4), .ref (bm 5), .int mn, .ref (bm 6), .ref (bm 7), .int sn, .ref (bm 8), .ref (bm 9), .ref (bm 10), .int ac, .long dn, .ref (bm 11), .ref (bm 12), .ref (bm 13), .ref (bm 14), .int hi])), ((bm 1), .inl ((km 1), 240, .inl tp)), ((bm 2), .inl ((km 2), 8, .inl (o_84.2.2))), ((bm 3), .inl ((km 3), 48, .inl rd_c))] H := hP
                      have hD : va_D A [((bm 0), .inr (10, [.int th, .ref (bm 1), .int tn, .int ((o_84.1) + 0), .int (o_84.2.1), .ref (bm 2), .ref (bm 3), .int rm__c, .ref (bm 4), .ref (bm 5), .int mn, .ref (bm 6), .ref (bm 7), .int sn, .ref (bm 8), .ref (bm 9), .ref (bm 10), .int ac, .long dn, .ref (bm 11), .ref (bm 12), .ref (bm 13), .ref (bm 14), .int hi])), ((bm 1), .inl ((km 1), 240, .inl tp)), ((bm 2), .inl ((km 2), 8, .inl (o_84.2.2))), ((bm 3), .inl ((km 3), 48, .inl rd_c))] := hD
                      refine lv_goto (tgt := 45) hx hb dX10_readTree_200 (by decide) ?_
                      exact ih_45 1 0 ((o_84.1) + 0) (o_84.2.1) rm__c (o_84.2.2) rd_c H locs ls hG hP hD hS (lv_sub hl [0, 1, 3] rfl)
                    · have hG := q_ifp c_86 hG
                      refine lv_aload_n hx hb dX10_readTree_167 rfl (lv_at hl 3 rfl) ?_
                      obtain ⟨o_88, r_89, hG⟩ := q_bi hG
                      refine q_goi2 (v := o_88.1) (wr := [((bm 2), .inl ((km 2), 8, .inl (o_84.2.2))), ((bm 3), .inl ((km 3), 48, .inl rd_c))]) (va_runV (As := []) (rest := []) ⟨hx, hb, hml, hown, hts⟩ (c_X10_ahead l dC dI bm km th tn (o_84.1) (o_84.2.1) rm__c mn sn ac hi dn tp (va_A [((bm 0), .inr (10, [.int th, .ref (bm 1), .int tn, .int (o_84.1), .int (o_84.2.1), .ref (bm 2), .ref (bm 3), .int rm__c, .ref (bm 4), .ref (bm 5), .int mn, .ref (bm 6), .ref (bm 7), .int sn, .ref (bm 8), .ref (bm 9), .ref (bm 10), .int ac, .long dn, .ref (bm 11), .ref (bm 12), .ref (bm 13), .ref (bm 14), .int hi])), ((bm 1), .inl ((km 1), 240, .inl tp))] H.size) o_88 r_89) (cwV 0 hts (q_gV m_331 m_332 m_333 m_5 m_334) rfl rfl rfl hdV_yX10_ahead_0 ⟨Nat.le_of_ble_eq_true rfl, Nat.le_of_ble_eq_true rfl⟩) (q_preWV hK hP hD (q := (RX10, TX10, 24)) (ci := 10) (q0 := 0) rfl rfl [0, 1] (by decide) rfl rfl [0] rfl) rfl rfl hl.1 rfl (lv_room (Nat.le_of_ble_eq_true rfl)) dX10_readTree_168 ⟨Nat.le_of_ble_eq_true rfl, Nat.le_of_ble_eq_true rfl⟩) hK hP hD hS hA [0, 1] [2, 3] rfl rfl (by decide) (by decide) (fun _ H locs _ hP hD hK9 hS => ?_)
                      have hP : va_P (dC, dI) vwCl [((bm 0), .inr (10, [.int th, .ref (bm 1), .int tn, .int (o_88.2), .int (o_84.2.1), .ref (bm 2), .ref (bm 3), .int rm__c, .ref (bm 4), .ref (bm 5), .int mn, .ref (bm 6), .ref (bm 7), .int sn, .ref (bm 8), .ref (bm 9), .ref (bm 10), .int ac, .long dn, .ref (bm 11), .ref (bm 12), .ref (bm 13), .ref (bm 14), .int hi])), ((bm 1), .inl ((km 1), 240, .inl tp)), ((bm 2), .inl ((km 2), 8, .inl (o_84.2.2))), ((bm 3), .inl ((km 3), 48, .inl rd_c))] H := hP.sub [2, 3, 0, 1] rfl
                      have hD : va_D A [((bm 0), .inr (10, [.int th, .ref (bm 1), .int tn, .int (o_88.2), .int (o_84.2.1), .ref (bm 2), .ref (bm 3), .int rm__c, .ref (bm 4), .ref (bm 5), .int mn, .ref (bm 6), .ref (bm 7), .int sn, .ref (bm 8), .ref (bm 9), .ref (bm 10), .int ac, .long dn, .ref (bm 11), .ref (bm 12), .ref (bm 13), .ref (bm 14), .int hi])), ((bm 1), .inl ((km 1), 240, .inl tp)), ((bm 2), .inl ((km 2), 8, .inl (o_84.2.2))), ((bm 3), .inl ((km 3), 48, .inl rd_c))] := hD.sub [2, 3, 0, 1] (by decide) rfl
                      refine lv_bipush (v := 59) hx hb dX10_readTree_171 (by decide) ?_
                      refine lv_icmp_ne (tgt := 180) hx hb dX10_readTree_173 (by decide) (fun c_90 => ?_) (fun c_90 => ?_)
                      · have hG := q_ifn c_90 hG
                        refine lv_iconst (v := 0) hx hb dX10_readTree_180 (by decide) ?_
                        refine lv_istore_n (lv' := [(2, .int 0), (1, .int 1), (3, .int o_22.1), (0, .ref (bm 0))]) hx hb dX10_readTree_181 rfl hl (by decide) rfl (fun ls hl => ?_)
                        refine lv_aload_n hx hb dX10_readTree_182 rfl (lv_at hl 3 rfl) ?_
                        refine lv_dup hx hb dX10_readTree_183 rfl ?_
                        refine va_get (D := (dC, dI)) (ci := 10) (v := .int (o_88.2)) (C := RX10) (T := TX10) (N := 24) hx hb hts iA_10 hown hK hP 0 rfl rfl 3 (by decide) (hts (.fieldLink RX10 67 "HubTreeModel" "at" "I") (List.mem_cons_of_mem _ m_325)) (fun _ h9 => h9) rfl dX10_readTree_184 ?_
                        refine lv_iload_n hx hb dX10_readTree_187 rfl (lv_at hl 0 rfl) ?_
                        refine lv_if_eq (tgt := 195) hx hb dX10_readTree_188 (by decide) (fun c_91 => ?_) (fun c_91 => ?_)
                        rotate_left
                        · exact absurd (by decide) c_91
                        refine lv_iconst (v := 0) hx hb dX10_readTree_195 (by decide) ?_
                        refine lv_iadd hx hb dX10_readTree_196 ?_
                        refine va_put (D := (dC, dI)) (ci := 10) (v := .int ((o_88.2) + 0)) (ty := .int) (C := RX10) (T := TX10) (N := 24) hx hb hts iA_10 tyX10 tyX10_ok nmX10 hown hK hP hD hS 0 rfl rfl 3 (by decide) (hts (.fieldLink RX10 67 "HubTreeModel" "at" "I") (List.mem_cons_of_mem _ m_325)) (fun _ h9 => h9) rfl (by decide +kernel) rfl rfl (Nat.le_of_ble_eq_true rfl) dX10_readTree_197 (fun H locs hP hD hS => ?_)
                        have hP : va_P (dC, dI) vwCl [((bm 0), .inr (10, [.int th, .ref (bm 1), .int tn, .int ((o_88.2) + 0), .int (o_84.2.1), .ref (bm 2), .ref (bm 3), .int rm__c, .ref (bm 4), .ref (bm 5), .int mn, .ref (bm 6), .ref (bm 7), .int sn, .ref (bm 8), .ref (bm 9), .ref (bm 10), .int ac, .long dn, .ref (bm 11), .ref (bm 12), .ref (bm 13), .ref (bm 14), .int hi])), ((bm 1), .inl ((km 1), 240, .inl tp)), ((bm 2), .inl ((km 2), 8, .inl (o_84.2.2))), ((bm 3), .inl ((km 3), 48, .inl rd_c))] H := hP
                        have hD : va_D A [((bm 0), .inr (10, [.int th, .ref (bm 1), .int tn, .int ((o_88.2) + 0), .int (o_84.2.1), .ref (bm 2), .ref (bm 3), .int rm__c, .ref (bm 4), .ref (bm 5), .int mn, .ref (bm 6), .ref (bm 7), .int sn, .ref (bm 8), .ref (bm 9), .ref (bm 10), .int ac, .long dn, .ref (bm 11), .ref (bm 12), .ref (bm 13), .ref (bm 14), .int hi])), ((bm 1), .inl ((km 1), 240, .inl tp)), ((bm 2), .inl ((km 2), 8, .inl (o_84.2.2))), ((bm 3), .inl ((km 3), 48, .inl rd_c))] := hD
                        refine lv_goto (tgt := 45) hx hb dX10_readTree_200 (by decide) ?_
                        exact ih_45 1 0 ((o_88.2) + 0) (o_84.2.1) rm__c (o_84.2.2) rd_c H locs ls hG hP hD hS (lv_sub hl [0, 1, 3] rfl)
                      · have hG := q_ifp c_90 hG
                        refine lv_iconst (v := 1) hx hb dX10_readTree_176 (by decide) ?_
                        refine lv_goto (tgt := 181) hx hb dX10_readTree_177 (by decide) ?_
                        refine lv_istore_n (lv' := [(2, .int 1), (1, .int 1), (3, .int o_22.1), (0, .ref (bm 0))]) hx hb dX10_readTree_181 rfl hl (by decide) rfl (fun ls hl => ?_)
                        refine lv_aload_n hx hb dX10_readTree_182 rfl (lv_at hl 3 rfl) ?_
                        refine lv_dup hx hb dX10_readTree_183 rfl ?_
                        refine va_get (D := (dC, dI)) (ci := 10) (v := .int (o_88.2)) (C := RX10) (T := TX10) (N := 24) hx hb hts iA_10 hown hK hP 0 rfl rfl 3 (by decide) (hts (.fieldLink RX10 67 "HubTreeModel" "at" "I") (List.mem_cons_of_mem _ m_325)) (fun _ h9 => h9) rfl dX10_readTree_184 ?_
                        refine lv_iload_n hx hb dX10_readTree_187 rfl (lv_at hl 0 rfl) ?_
                        refine lv_if_eq (tgt := 195) hx hb dX10_readTree_188 (by decide) (fun c_92 => ?_) (fun c_92 => ?_)
                        · exact absurd c_92 (by decide)
                        refine lv_iconst (v := 1) hx hb dX10_readTree_191 (by decide) ?_
                        refine lv_goto (tgt := 196) hx hb dX10_readTree_192 (by decide) ?_
                        refine lv_iadd hx hb dX10_readTree_196 ?_
                        refine va_put (D := (dC, dI)) (ci := 10) (v := .int ((o_88.2) + 1)) (ty := .int) (C := RX10) (T := TX10) (N := 24) hx hb hts iA_10 tyX10 tyX10_ok nmX10 hown hK hP hD hS 0 rfl rfl 3 (by decide) (hts (.fieldLink RX10 67 "HubTreeModel" "at" "I") (List.mem_cons_of_mem _ m_325)) (fun _ h9 => h9) rfl (by decide +kernel) rfl rfl (Nat.le_of_ble_eq_true rfl) dX10_readTree_197 (fun H locs hP hD hS => ?_)
                        have hP : va_P (dC, dI) vwCl [((bm 0), .inr (10, [.int th, .ref (bm 1), .int tn, .int ((o_88.2) + 1), .int (o_84.2.1), .ref (bm 2), .ref (bm 3), .int rm__c, .ref (bm 4), .ref (bm 5), .int mn, .ref (bm 6), .ref (bm 7), .int sn, .ref (bm 8), .ref (bm 9), .ref (bm 10), .int ac, .long dn, .ref (bm 11), .ref (bm 12), .ref (bm 13), .ref (bm 14), .int hi])), ((bm 1), .inl ((km 1), 240, .inl tp)), ((bm 2), .inl ((km 2), 8, .inl (o_84.2.2))), ((bm 3), .inl ((km 3), 48, .inl rd_c))] H := hP
                        have hD : va_D A [((bm 0), .inr (10, [.int th, .ref (bm 1), .int tn, .int ((o_88.2) + 1), .int (o_84.2.1), .ref (bm 2), .ref (bm 3), .int rm__c, .ref (bm 4), .ref (bm 5), .int mn, .ref (bm 6), .ref (bm 7), .int sn, .ref (bm 8), .ref (bm 9), .ref (bm 10), .int ac, .long dn, .ref (bm 11), .ref (bm 12), .ref (bm 13), .ref (bm 14), .int hi])), ((bm 1), .inl ((km 1), 240, .inl tp)), ((bm 2), .inl ((km 2), 8, .inl (o_84.2.2))), ((bm 3), .inl ((km 3), 48, .inl rd_c))] := hD
                        refine lv_goto (tgt := 45) hx hb dX10_readTree_200 (by decide) ?_
                        exact ih_45 1 1 ((o_88.2) + 1) (o_84.2.1) rm__c (o_84.2.2) rd_c H locs ls hG hP hD hS (lv_sub hl [0, 1, 3] rfl)
        exact L_45 1000 0 1 at__c wr_c rm__c rr_c rd_c H locs ls hG hP hD hS hl
      · have hG := q_ifn c_1 hG
        refine lv_aload_n hx hb dX10_readTree_25 rfl (lv_at hl 2 rfl) ?_
        refine va_get (D := (dC, dI)) (ci := 10) (v := .ref (bm 2)) (C := RX10) (T := TX10) (N := 24) hx hb hts iA_10 hown hK hP 0 rfl rfl 5 (by decide) (hts (.fieldLink RX10 13 "HubTreeModel" "readRule" "[I") (List.mem_cons_of_mem _ m_116)) (fun _ h9 => h9) rfl dX10_readTree_26 ?_
        refine lv_iload_n hx hb dX10_readTree_29 rfl (lv_at hl 0 rfl) ?_
        refine lv_bipush (v := 115) hx hb dX10_readTree_30 (by decide) ?_
        refine lv_iload_n hx hb dX10_readTree_32 rfl (lv_at hl 0 rfl) ?_
        obtain ⟨o_93, r_94, hG⟩ := q_bi hG
        refine q_goi (v := o_93) (va_runS (As := [.int 115, .int x2_19]) (rest := [.int x2_19, .ref (bm 2)]) ⟨hx, hb, hml, hown, hts⟩ (c_X10_usual l dC dI 115 x2_19 o_93 r_94) (va_cwS 2 hts (q_gS m_328 m_329 m_5 m_330) rfl rfl rfl hdS_yX10_usual_2 ⟨Nat.le_of_ble_eq_true rfl, Nat.le_of_ble_eq_true rfl⟩) (q_preS hK hP [] rfl [] rfl) rfl rfl hl.1 rfl (lv_room (Nat.le_of_ble_eq_true rfl)) dX10_readTree_33 ⟨Nat.le_of_ble_eq_true rfl, Nat.le_of_ble_eq_true rfl⟩) hP hS (fun H locs hP hS => ?_)
        obtain ⟨h_95, hG⟩ := q_ix hG
        refine va_iast hx hb hK hP hD hS 2 1 rfl rfl (i := x2_19) (x := o_93) h_95 dX10_readTree_36 (fun H locs hP hD hS => ?_)
        have hP : va_P (dC, dI) vwCl [((bm 0), .inr (10, [.int th, .ref (bm 1), .int tn, .int at__c, .int wr_c, .ref (bm 2), .ref (bm 3), .int rm__c, .ref (bm 4), .ref (bm 5), .int mn, .ref (bm 6), .ref (bm 7), .int sn, .ref (bm 8), .ref (bm 9), .ref (bm 10), .int ac, .long dn, .ref (bm 11), .ref (bm 12), .ref (bm 13), .ref (bm 14), .int hi])), ((bm 1), .inl ((km 1), 240, .inl tp)), ((bm 2), .inl ((km 2), 8, .inl (upd rr_c (x2_19).toNatClampNeg o_93))), ((bm 3), .inl ((km 3), 48, .inl rd_c))] H := hP
        have hD : va_D A [((bm 0), .inr (10, [.int th, .ref (bm 1), .int tn, .int at__c, .int wr_c, .ref (bm 2), .ref (bm 3), .int rm__c, .ref (bm 4), .ref (bm 5), .int mn, .ref (bm 6), .ref (bm 7), .int sn, .ref (bm 8), .ref (bm 9), .ref (bm 10), .int ac, .long dn, .ref (bm 11), .ref (bm 12), .ref (bm 13), .ref (bm 14), .int hi])), ((bm 1), .inl ((km 1), 240, .inl tp)), ((bm 2), .inl ((km 2), 8, .inl (upd rr_c (x2_19).toNatClampNeg o_93))), ((bm 3), .inl ((km 3), 48, .inl rd_c))] := hD
        refine lv_iinc (v := (x2_19 + 1)) (lv' := [(2, .int (x2_19 + 1)), (1, .int 0), (0, .ref (bm 0))]) hx hb dX10_readTree_37 hl (k := 0) rfl (rfl) (by decide) rfl (fun ls hl => ?_)
        refine lv_goto (tgt := 19) hx hb dX10_readTree_40 (by decide) ?_
        exact ih_19 (x2_19 + 1) at__c wr_c rm__c (upd rr_c (x2_19).toNatClampNeg o_93) rd_c H locs ls hG hP hD hS (lv_sub hl [0, 1, 2] rfl)
  exact L_19 1000 0 0 (-1) 0 rr rd H locs ls hG hP hD hS hl

def F_X10_digit (tn : Int32) (at_ : Int32) (wr : Int32) (tp : Nat → Int32) : Option (Int32 × Int32 × Int32) := (if wr = (-1) then ((F_X10_ahead tn at_ tp).bind fun o_4 => ((F_X10_isDigit o_4.1).bind fun o_6 => (if o_6 = 0 then ((F_X10_bad (o_4.2) wr).bind fun o_11 => some (0, (o_4.2), (o_11))) else ((F_X10_here tn (o_4.2) tp).bind fun o_9 => some ((o_9 - 48), ((o_4.2) + 1), wr))))) else ((F_X10_bad at_ wr).bind fun o_2 => some (0, at_, (o_2))))
set_option maxHeartbeats 4000000 in
set_option maxRecDepth 100000 in
theorem c_X10_digit (l : Launch) (dC : Nat → ClassId) (dI : Nat → Nat → Nat) (bm : Nat → Nat) (km : Nat → ClassId) (th : Int32) (tn : Int32) (at_ : Int32) (wr : Int32) (rm_ : Int32) (mn : Int32) (sn : Int32) (ac : Int32) (hi : Int32) (dn : Int64) (tp : Nat → Int32) (A : Nat → Prop) (o : Int32 × Int32 × Int32) (hG : F_X10_digit tn at_ wr tp = some o) : Met l yX10_digit (.code yX10_digit cX10_digit 2 (some .int) :: wA) ({ frames := 2, cells := 0, slots := 0, locals := 40 }) (va_Pc [.ref (bm 0)] (q_W (dC, dI) A [((bm 0), .inr (10, [.int th, .ref (bm 1), .int tn, .int at_, .int wr, .ref (bm 2), .ref (bm 3), .int rm_, .ref (bm 4), .ref (bm 5), .int mn, .ref (bm 6), .ref (bm 7), .int sn, .ref (bm 8), .ref (bm 9), .ref (bm 10), .int ac, .long dn, .ref (bm 11), .ref (bm 12), .ref (bm 13), .ref (bm 14), .int hi])), ((bm 1), .inl ((km 1), 240, .inl tp))] [((km 1), .int)])) (va_Qi (fun (r : Int32) (_ : Unit) => r = o.1 ∧ True) (fun (_ : Unit) t => q_B (dC, dI) A [((bm 0), .inr (10, [.int th, .ref (bm 1), .int tn, .int (o.2.1), .int (o.2.2), .ref (bm 2), .ref (bm 3), .int rm_, .ref (bm 4), .ref (bm 5), .int mn, .ref (bm 6), .ref (bm 7), .int sn, .ref (bm 8), .ref (bm 9), .ref (bm 10), .int ac, .long dn, .ref (bm 11), .ref (bm 12), .ref (bm 13), .ref (bm 14), .int hi])), ((bm 1), .inl ((km 1), 240, .inl tp))] [((km 1), .int)] t) A) 0 0 A := by
  refine Met.ofW (cc := cX10_digit) (maxL := 2) (ret := (some .int)) (by decide) rfl ?_
  intro p e s m args below meth c s₁ B hml hv
  obtain ⟨rfl, hP, hK, hD, hA⟩ := hv
  have hx := B.exec
  have hb := B.bytes
  have hr := B.returns
  have hts := atoms_spec (ws := .code yX10_digit cX10_digit 2 (some .int) :: wA) B.pre
  have hown : s.vm.findClass RX10 = some m.cls := findClass_of_methodNamed B.named
  have hlocks := B.notSynchronized
  have hS : va_S A s.heap s.heap [] := va_S.rf
  have hl := lv_entry ([.ref (bm 0)]) (n := 2) (Nat.le_of_ble_eq_true rfl)
  rw [lg_entry_eq]
  generalize (lg_sl ([.ref (bm 0)]) ++ List.replicate (2 - (lg_sl ([.ref (bm 0)])).length) Slot.unset).toArray = ls at hl ⊢
  have hl : lv_has ls 2 [(0, .ref (bm 0))] := hl
  unfold F_X10_digit at hG
  refine lv_aload_n hx hb dX10_digit_0 rfl (lv_at hl 0 rfl) ?_
  refine va_get (D := (dC, dI)) (ci := 10) (v := .int wr) (C := RX10) (T := TX10) (N := 24) hx hb hts iA_10 hown hK hP 0 rfl rfl 4 (by decide) (hts (.fieldLink RX10 74 "HubTreeModel" "wrong" "I") (List.mem_cons_of_mem _ m_326)) (fun _ h9 => h9) rfl dX10_digit_1 ?_
  refine lv_iconst (v := (-1)) hx hb dX10_digit_4 (by decide) ?_
  refine lv_icmp_ne (tgt := 18) hx hb dX10_digit_5 (by decide) (fun c_1 => ?_) (fun c_1 => ?_)
  · have hG := q_ifn c_1 hG
    refine lv_aload_n hx hb dX10_digit_18 rfl (lv_at hl 0 rfl) ?_
    obtain ⟨o_2, r_3, hG⟩ := q_bi hG
    refine q_gov2 (wr := [((bm 1), .inl ((km 1), 240, .inl tp))]) (va_runV (As := []) (rest := []) ⟨hx, hb, hml, hown, hts⟩ (c_X10_bad l dC dI bm km th tn at_ wr rm_ mn sn ac hi dn (va_A [((bm 0), .inr (10, [.int th, .ref (bm 1), .int tn, .int at_, .int wr, .ref (bm 2), .ref (bm 3), .int rm_, .ref (bm 4), .ref (bm 5), .int mn, .ref (bm 6), .ref (bm 7), .int sn, .ref (bm 8), .ref (bm 9), .ref (bm 10), .int ac, .long dn, .ref (bm 11), .ref (bm 12), .ref (bm 13), .ref (bm 14), .int hi]))] s.heap.size) o_2 r_3) (cwV 0 hts (q_gV m_362 m_363 m_364 m_5 m_365) rfl rfl rfl hdV_yX10_bad_0 ⟨Nat.le_of_ble_eq_true rfl, Nat.le_of_ble_eq_true rfl⟩) (q_preWV hK hP hD (q := (RX10, TX10, 24)) (ci := 10) (q0 := 0) rfl rfl [0] (by decide) rfl rfl [] rfl) rfl rfl hl.1 rfl (lv_room (Nat.le_of_ble_eq_true rfl)) dX10_digit_19 ⟨Nat.le_of_ble_eq_true rfl, Nat.le_of_ble_eq_true rfl⟩) hK hP hD hS hA [0] [1] rfl rfl (by decide) (by decide) (fun _ H locs _ hP hD hK9 hS => ?_)
    have hP : va_P (dC, dI) vwCl [((bm 0), .inr (10, [.int th, .ref (bm 1), .int tn, .int at_, .int (o_2), .ref (bm 2), .ref (bm 3), .int rm_, .ref (bm 4), .ref (bm 5), .int mn, .ref (bm 6), .ref (bm 7), .int sn, .ref (bm 8), .ref (bm 9), .ref (bm 10), .int ac, .long dn, .ref (bm 11), .ref (bm 12), .ref (bm 13), .ref (bm 14), .int hi])), ((bm 1), .inl ((km 1), 240, .inl tp))] H := hP.sub [1, 0] rfl
    have hD : va_D A [((bm 0), .inr (10, [.int th, .ref (bm 1), .int tn, .int at_, .int (o_2), .ref (bm 2), .ref (bm 3), .int rm_, .ref (bm 4), .ref (bm 5), .int mn, .ref (bm 6), .ref (bm 7), .int sn, .ref (bm 8), .ref (bm 9), .ref (bm 10), .int ac, .long dn, .ref (bm 11), .ref (bm 12), .ref (bm 13), .ref (bm 14), .int hi])), ((bm 1), .inl ((km 1), 240, .inl tp))] := hD.sub [1, 0] (by decide) rfl
    refine lv_iconst (v := 0) hx hb dX10_digit_22 (by decide) ?_
    obtain rfl := Option.some.inj hG
    have hP9 := hP.sub (ws' := [((bm 0), .inr (10, [.int th, .ref (bm 1), .int tn, .int at_, .int (o_2), .ref (bm 2), .ref (bm 3), .int rm_, .ref (bm 4), .ref (bm 5), .int mn, .ref (bm 6), .ref (bm 7), .int sn, .ref (bm 8), .ref (bm 9), .ref (bm 10), .int ac, .long dn, .ref (bm 11), .ref (bm 12), .ref (bm 13), .ref (bm 14), .int hi])), ((bm 1), .inl ((km 1), 240, .inl tp))]) [0, 1] rfl
    have hD9 := hD.sub (ws' := [((bm 0), .inr (10, [.int th, .ref (bm 1), .int tn, .int at_, .int (o_2), .ref (bm 2), .ref (bm 3), .int rm_, .ref (bm 4), .ref (bm 5), .int mn, .ref (bm 6), .ref (bm 7), .int sn, .ref (bm 8), .ref (bm 9), .ref (bm 10), .int ac, .long dn, .ref (bm 11), .ref (bm 12), .ref (bm 13), .ref (bm 14), .int hi])), ((bm 1), .inl ((km 1), 240, .inl tp))]) [0, 1] (by decide) rfl
    have hK9 := hK.sub (tys' := [((km 1), .int)]) [0] rfl
    exact W.iret (v := 0) hx hb hr (fun t ht hW => ⟨⟨0, (), rfl, ⟨rfl, trivial⟩, by rw [ht]; exact hP9, va_K.moved hW.alike hK9, hD9⟩, hS.F ht⟩) hS.2.2 dX10_digit_23
  · have hG := q_ifp c_1 hG
    refine lv_aload_n hx hb dX10_digit_8 rfl (lv_at hl 0 rfl) ?_
    obtain ⟨o_4, r_5, hG⟩ := q_bi hG
    refine q_goi2 (v := o_4.1) (wr := []) (va_runV (As := []) (rest := []) ⟨hx, hb, hml, hown, hts⟩ (c_X10_ahead l dC dI bm km th tn at_ wr rm_ mn sn ac hi dn tp (va_A [((bm 0), .inr (10, [.int th, .ref (bm 1), .int tn, .int at_, .int wr, .ref (bm 2), .ref (bm 3), .int rm_, .ref (bm 4), .ref (bm 5), .int mn, .ref (bm 6), .ref (bm 7), .int sn, .ref (bm 8), .ref (bm 9), .ref (bm 10), .int ac, .long dn, .ref (bm 11), .ref (bm 12), .ref (bm 13), .ref (bm 14), .int hi])), ((bm 1), .inl ((km 1), 240, .inl tp))] s.heap.size) o_4 r_5) (cwV 0 hts (q_gV m_331 m_332 m_333 m_5 m_334) rfl rfl rfl hdV_yX10_ahead_0 ⟨Nat.le_of_ble_eq_true rfl, Nat.le_of_ble_eq_true rfl⟩) (q_preWV hK hP hD (q := (RX10, TX10, 24)) (ci := 10) (q0 := 0) rfl rfl [0, 1] (by decide) rfl rfl [0] rfl) rfl rfl hl.1 rfl (lv_room (Nat.le_of_ble_eq_true rfl)) dX10_digit_9 ⟨Nat.le_of_ble_eq_true rfl, Nat.le_of_ble_eq_true rfl⟩) hK hP hD hS hA [0, 1] [] rfl rfl (by decide) (by decide) (fun _ H locs _ hP hD hK9 hS => ?_)
    have hP : va_P (dC, dI) vwCl [((bm 0), .inr (10, [.int th, .ref (bm 1), .int tn, .int (o_4.2), .int wr, .ref (bm 2), .ref (bm 3), .int rm_, .ref (bm 4), .ref (bm 5), .int mn, .ref (bm 6), .ref (bm 7), .int sn, .ref (bm 8), .ref (bm 9), .ref (bm 10), .int ac, .long dn, .ref (bm 11), .ref (bm 12), .ref (bm 13), .ref (bm 14), .int hi])), ((bm 1), .inl ((km 1), 240, .inl tp))] H := hP.sub [0, 1] rfl
    have hD : va_D A [((bm 0), .inr (10, [.int th, .ref (bm 1), .int tn, .int (o_4.2), .int wr, .ref (bm 2), .ref (bm 3), .int rm_, .ref (bm 4), .ref (bm 5), .int mn, .ref (bm 6), .ref (bm 7), .int sn, .ref (bm 8), .ref (bm 9), .ref (bm 10), .int ac, .long dn, .ref (bm 11), .ref (bm 12), .ref (bm 13), .ref (bm 14), .int hi])), ((bm 1), .inl ((km 1), 240, .inl tp))] := hD.sub [0, 1] (by decide) rfl
    obtain ⟨o_6, r_7, hG⟩ := q_bi hG
    refine q_goi (v := o_6) (va_runS (As := [.int o_4.1]) (rest := []) ⟨hx, hb, hml, hown, hts⟩ (c_X10_isDigit l dC dI o_4.1 o_6 r_7) (va_cwS 1 hts (q_gS m_359 m_360 m_5 m_361) rfl rfl rfl hdS_yX10_isDigit_1 ⟨Nat.le_of_ble_eq_true rfl, Nat.le_of_ble_eq_true rfl⟩) (q_preS hK hP [] rfl [] rfl) rfl rfl hl.1 rfl (lv_room (Nat.le_of_ble_eq_true rfl)) dX10_digit_12 ⟨Nat.le_of_ble_eq_true rfl, Nat.le_of_ble_eq_true rfl⟩) hP hS (fun H locs hP hS => ?_)
    refine lv_if_ne (tgt := 24) hx hb dX10_digit_15 (by decide) (fun c_8 => ?_) (fun c_8 => ?_)
    · have hG := q_ifn c_8 hG
      refine lv_aload_n hx hb dX10_digit_24 rfl (lv_at hl 0 rfl) ?_
      obtain ⟨o_9, r_10, hG⟩ := q_bi hG
      refine q_goi (v := o_9) (va_runV (As := []) (rest := []) ⟨hx, hb, hml, hown, hts⟩ (c_X10_here l dC dI bm km th tn (o_4.2) wr rm_ mn sn ac hi dn tp o_9 r_10) (cwV 0 hts (q_gV m_335 m_336 m_337 m_5 m_338) rfl rfl rfl hdV_yX10_here_0 ⟨Nat.le_of_ble_eq_true rfl, Nat.le_of_ble_eq_true rfl⟩) (q_preV hK hP (q := (RX10, TX10, 24)) (ci := 10) (q0 := 0) rfl rfl [0, 1] rfl [0] rfl) rfl rfl hl.1 rfl (lv_room (Nat.le_of_ble_eq_true rfl)) dX10_digit_25 ⟨Nat.le_of_ble_eq_true rfl, Nat.le_of_ble_eq_true rfl⟩) hP hS (fun H locs hP hS => ?_)
      refine lv_bipush (v := 48) hx hb dX10_digit_28 (by decide) ?_
      refine lv_isub hx hb dX10_digit_30 ?_
      refine lv_istore_n (lv' := [(1, .int (o_9 - 48)), (0, .ref (bm 0))]) hx hb dX10_digit_31 rfl hl (by decide) rfl (fun ls hl => ?_)
      refine lv_aload_n hx hb dX10_digit_32 rfl (lv_at hl 1 rfl) ?_
      refine lv_dup hx hb dX10_digit_33 rfl ?_
      refine va_get (D := (dC, dI)) (ci := 10) (v := .int (o_4.2)) (C := RX10) (T := TX10) (N := 24) hx hb hts iA_10 hown hK hP 0 rfl rfl 3 (by decide) (hts (.fieldLink RX10 67 "HubTreeModel" "at" "I") (List.mem_cons_of_mem _ m_325)) (fun _ h9 => h9) rfl dX10_digit_34 ?_
      refine lv_iconst (v := 1) hx hb dX10_digit_37 (by decide) ?_
      refine lv_iadd hx hb dX10_digit_38 ?_
      refine va_put (D := (dC, dI)) (ci := 10) (v := .int ((o_4.2) + 1)) (ty := .int) (C := RX10) (T := TX10) (N := 24) hx hb hts iA_10 tyX10 tyX10_ok nmX10 hown hK hP hD hS 0 rfl rfl 3 (by decide) (hts (.fieldLink RX10 67 "HubTreeModel" "at" "I") (List.mem_cons_of_mem _ m_325)) (fun _ h9 => h9) rfl (by decide +kernel) rfl rfl (Nat.le_of_ble_eq_true rfl) dX10_digit_39 (fun H locs hP hD hS => ?_)
      have hP : va_P (dC, dI) vwCl [((bm 0), .inr (10, [.int th, .ref (bm 1), .int tn, .int ((o_4.2) + 1), .int wr, .ref (bm 2), .ref (bm 3), .int rm_, .ref (bm 4), .ref (bm 5), .int mn, .ref (bm 6), .ref (bm 7), .int sn, .ref (bm 8), .ref (bm 9), .ref (bm 10), .int ac, .long dn, .ref (bm 11), .ref (bm 12), .ref (bm 13), .ref (bm 14), .int hi])), ((bm 1), .inl ((km 1), 240, .inl tp))] H := hP
      have hD : va_D A [((bm 0), .inr (10, [.int th, .ref (bm 1), .int tn, .int ((o_4.2) + 1), .int wr, .ref (bm 2), .ref (bm 3), .int rm_, .ref (bm 4), .ref (bm 5), .int mn, .ref (bm 6), .ref (bm 7), .int sn, .ref (bm 8), .ref (bm 9), .ref (bm 10), .int ac, .long dn, .ref (bm 11), .ref (bm 12), .ref (bm 13), .ref (bm 14), .int hi])), ((bm 1), .inl ((km 1), 240, .inl tp))] := hD
      refine lv_iload_n hx hb dX10_digit_42 rfl (lv_at hl 0 rfl) ?_
      obtain rfl := Option.some.inj hG
      have hP9 := hP.sub (ws' := [((bm 0), .inr (10, [.int th, .ref (bm 1), .int tn, .int ((o_4.2) + 1), .int wr, .ref (bm 2), .ref (bm 3), .int rm_, .ref (bm 4), .ref (bm 5), .int mn, .ref (bm 6), .ref (bm 7), .int sn, .ref (bm 8), .ref (bm 9), .ref (bm 10), .int ac, .long dn, .ref (bm 11), .ref (bm 12), .ref (bm 13), .ref (bm 14), .int hi])), ((bm 1), .inl ((km 1), 240, .inl tp))]) [0, 1] rfl
      have hD9 := hD.sub (ws' := [((bm 0), .inr (10, [.int th, .ref (bm 1), .int tn, .int ((o_4.2) + 1), .int wr, .ref (bm 2), .ref (bm 3), .int rm_, .ref (bm 4), .ref (bm 5), .int mn, .ref (bm 6), .ref (bm 7), .int sn, .ref (bm 8), .ref (bm 9), .ref (bm 10), .int ac, .long dn, .ref (bm 11), .ref (bm 12), .ref (bm 13), .ref (bm 14), .int hi])), ((bm 1), .inl ((km 1), 240, .inl tp))]) [0, 1] (by decide) rfl
      have hK9 := hK.sub (tys' := [((km 1), .int)]) [0] rfl
      exact W.iret (v := (o_9 - 48)) hx hb hr (fun t ht hW => ⟨⟨(o_9 - 48), (), rfl, ⟨rfl, trivial⟩, by rw [ht]; exact hP9, va_K.moved hW.alike hK9, hD9⟩, hS.F ht⟩) hS.2.2 dX10_digit_43
    · have hG := q_ifp c_8 hG
      refine lv_aload_n hx hb dX10_digit_18 rfl (lv_at hl 0 rfl) ?_
      obtain ⟨o_11, r_12, hG⟩ := q_bi hG
      refine q_gov2 (wr := [((bm 1), .inl ((km 1), 240, .inl tp))]) (va_runV (As := []) (rest := []) ⟨hx, hb, hml, hown, hts⟩ (c_X10_bad l dC dI bm km th tn (o_4.2) wr rm_ mn sn ac hi dn (va_A [((bm 0), .inr (10, [.int th, .ref (bm 1), .int tn, .int (o_4.2), .int wr, .ref (bm 2), .ref (bm 3), .int rm_, .ref (bm 4), .ref (bm 5), .int mn, .ref (bm 6), .ref (bm 7), .int sn, .ref (bm 8), .ref (bm 9), .ref (bm 10), .int ac, .long dn, .ref (bm 11), .ref (bm 12), .ref (bm 13), .ref (bm 14), .int hi]))] H.size) o_11 r_12) (cwV 0 hts (q_gV m_362 m_363 m_364 m_5 m_365) rfl rfl rfl hdV_yX10_bad_0 ⟨Nat.le_of_ble_eq_true rfl, Nat.le_of_ble_eq_true rfl⟩) (q_preWV hK hP hD (q := (RX10, TX10, 24)) (ci := 10) (q0 := 0) rfl rfl [0] (by decide) rfl rfl [] rfl) rfl rfl hl.1 rfl (lv_room (Nat.le_of_ble_eq_true rfl)) dX10_digit_19 ⟨Nat.le_of_ble_eq_true rfl, Nat.le_of_ble_eq_true rfl⟩) hK hP hD hS hA [0] [1] rfl rfl (by decide) (by decide) (fun _ H locs _ hP hD hK9 hS => ?_)
      have hP : va_P (dC, dI) vwCl [((bm 0), .inr (10, [.int th, .ref (bm 1), .int tn, .int (o_4.2), .int (o_11), .ref (bm 2), .ref (bm 3), .int rm_, .ref (bm 4), .ref (bm 5), .int mn, .ref (bm 6), .ref (bm 7), .int sn, .ref (bm 8), .ref (bm 9), .ref (bm 10), .int ac, .long dn, .ref (bm 11), .ref (bm 12), .ref (bm 13), .ref (bm 14), .int hi])), ((bm 1), .inl ((km 1), 240, .inl tp))] H := hP.sub [1, 0] rfl
      have hD : va_D A [((bm 0), .inr (10, [.int th, .ref (bm 1), .int tn, .int (o_4.2), .int (o_11), .ref (bm 2), .ref (bm 3), .int rm_, .ref (bm 4), .ref (bm 5), .int mn, .ref (bm 6), .ref (bm 7), .int sn, .ref (bm 8), .ref (bm 9), .ref (bm 10), .int ac, .long dn, .ref (bm 11), .ref (bm 12), .ref (bm 13), .ref (bm 14), .int hi])), ((bm 1), .inl ((km 1), 240, .inl tp))] := hD.sub [1, 0] (by decide) rfl
      refine lv_iconst (v := 0) hx hb dX10_digit_22 (by decide) ?_
      obtain rfl := Option.some.inj hG
      have hP9 := hP.sub (ws' := [((bm 0), .inr (10, [.int th, .ref (bm 1), .int tn, .int (o_4.2), .int (o_11), .ref (bm 2), .ref (bm 3), .int rm_, .ref (bm 4), .ref (bm 5), .int mn, .ref (bm 6), .ref (bm 7), .int sn, .ref (bm 8), .ref (bm 9), .ref (bm 10), .int ac, .long dn, .ref (bm 11), .ref (bm 12), .ref (bm 13), .ref (bm 14), .int hi])), ((bm 1), .inl ((km 1), 240, .inl tp))]) [0, 1] rfl
      have hD9 := hD.sub (ws' := [((bm 0), .inr (10, [.int th, .ref (bm 1), .int tn, .int (o_4.2), .int (o_11), .ref (bm 2), .ref (bm 3), .int rm_, .ref (bm 4), .ref (bm 5), .int mn, .ref (bm 6), .ref (bm 7), .int sn, .ref (bm 8), .ref (bm 9), .ref (bm 10), .int ac, .long dn, .ref (bm 11), .ref (bm 12), .ref (bm 13), .ref (bm 14), .int hi])), ((bm 1), .inl ((km 1), 240, .inl tp))]) [0, 1] (by decide) rfl
      have hK9 := hK.sub (tys' := [((km 1), .int)]) [0] rfl
      exact W.iret (v := 0) hx hb hr (fun t ht hW => ⟨⟨0, (), rfl, ⟨rfl, trivial⟩, by rw [ht]; exact hP9, va_K.moved hW.alike hK9, hD9⟩, hS.F ht⟩) hS.2.2 dX10_digit_23

def F_X10_readStep (tn : Int32) (at_ : Int32) (wr : Int32) (tp : Nat → Int32) (sq : Nat → Int32) (z1 : Int32) : Option (Int32 × Int32 × (Nat → Int32)) := ((F_X10_ahead tn at_ tp).bind fun o_1 => ((F_X10_sortOf o_1.1).bind fun o_3 => (if o_3 = (-1) then ((F_X10_bad (o_1.2) wr).bind fun o_52 => some ((o_1.2), (o_52), sq)) else (if z1 < 0 ∨ 320 ≤ (z1).toNatClampNeg then none else (if (z1 + 2) < 0 ∨ 320 ≤ ((z1 + 2)).toNatClampNeg then none else (if (z1 + 3) < 0 ∨ 320 ≤ ((z1 + 3)).toNatClampNeg then none else (if o_3 = 2 then ((F_X10_number tn ((o_1.2) + 1) wr tp 2 0 99).bind fun o_31 => (if (z1 + 1) < 0 ∨ 320 ≤ ((z1 + 1)).toNatClampNeg then none else (if o_3 = 4 then ((F_X10_digit tn (o_31.2.1) (o_31.2.2) tp).bind fun o_42 => (if (z1 + 2) < 0 ∨ 320 ≤ ((z1 + 2)).toNatClampNeg then none else (if o_3 = 0 then ((F_X10_digit tn (o_42.2.1) (o_42.2.2) tp).bind fun o_46 => (if (z1 + 2) < 0 ∨ 320 ≤ ((z1 + 2)).toNatClampNeg then none else ((F_X10_digit tn (o_46.2.1) (o_46.2.2) tp).bind fun o_49 => (if (z1 + 3) < 0 ∨ 320 ≤ ((z1 + 3)).toNatClampNeg then none else some ((o_49.2.1), (o_49.2.2), (upd (upd (upd (upd (upd (upd (upd sq (z1).toNatClampNeg o_3) (z1 + 2).toNatClampNeg (-1)) (z1 + 3).toNatClampNeg (-1)) (z1 + 1).toNatClampNeg o_31.1) (z1 + 2).toNatClampNeg o_42.1) (z1 + 2).toNatClampNeg o_46.1) (z1 + 3).toNatClampNeg o_49.1)))))) else some ((o_42.2.1), (o_42.2.2), (upd (upd (upd (upd (upd sq (z1).toNatClampNeg o_3) (z1 + 2).toNatClampNeg (-1)) (z1 + 3).toNatClampNeg (-1)) (z1 + 1).toNatClampNeg o_31.1) (z1 + 2).toNatClampNeg o_42.1))))) else (if o_3 = 0 then ((F_X10_digit tn (o_31.2.1) (o_31.2.2) tp).bind fun o_36 => (if (z1 + 2) < 0 ∨ 320 ≤ ((z1 + 2)).toNatClampNeg then none else ((F_X10_digit tn (o_36.2.1) (o_36.2.2) tp).bind fun o_39 => (if (z1 + 3) < 0 ∨ 320 ≤ ((z1 + 3)).toNatClampNeg then none else some ((o_39.2.1), (o_39.2.2), (upd (upd (upd (upd (upd (upd sq (z1).toNatClampNeg o_3) (z1 + 2).toNatClampNeg (-1)) (z1 + 3).toNatClampNeg (-1)) (z1 + 1).toNatClampNeg o_31.1) (z1 + 2).toNatClampNeg o_36.1) (z1 + 3).toNatClampNeg o_39.1)))))) else some ((o_31.2.1), (o_31.2.2), (upd (upd (upd (upd sq (z1).toNatClampNeg o_3) (z1 + 2).toNatClampNeg (-1)) (z1 + 3).toNatClampNeg (-1)) (z1 + 1).toNatClampNeg o_31.1)))))) else ((F_X10_digit tn ((o_1.2) + 1) wr tp).bind fun o_10 => (if (z1 + 1) < 0 ∨ 320 ≤ ((z1 + 1)).toNatClampNeg then none else (if o_3 = 4 then ((F_X10_digit tn (o_10.2.1) (o_10.2.2) tp).bind fun o_21 => (if (z1 + 2) < 0 ∨ 320 ≤ ((z1 + 2)).toNatClampNeg then none else (if o_3 = 0 then ((F_X10_digit tn (o_21.2.1) (o_21.2.2) tp).bind fun o_25 => (if (z1 + 2) < 0 ∨ 320 ≤ ((z1 + 2)).toNatClampNeg then none else ((F_X10_digit tn (o_25.2.1) (o_25.2.2) tp).bind fun o_28 => (if (z1 + 3) < 0 ∨ 320 ≤ ((z1 + 3)).toNatClampNeg then none else some ((o_28.2.1), (o_28.2.2), (upd (upd (upd (upd (upd (upd (upd sq (z1).toNatClampNeg o_3) (z1 + 2).toNatClampNeg (-1)) (z1 + 3).toNatClampNeg (-1)) (z1 + 1).toNatClampNeg o_10.1) (z1 + 2).toNatClampNeg o_21.1) (z1 + 2).toNatClampNeg o_25.1) (z1 + 3).toNatClampNeg o_28.1)))))) else some ((o_21.2.1), (o_21.2.2), (upd (upd (upd (upd (upd sq (z1).toNatClampNeg o_3) (z1 + 2).toNatClampNeg (-1)) (z1 + 3).toNatClampNeg (-1)) (z1 + 1).toNatClampNeg o_10.1) (z1 + 2).toNatClampNeg o_21.1))))) else (if o_3 = 0 then ((F_X10_digit tn (o_10.2.1) (o_10.2.2) tp).bind fun o_15 => (if (z1 + 2) < 0 ∨ 320 ≤ ((z1 + 2)).toNatClampNeg then none else ((F_X10_digit tn (o_15.2.1) (o_15.2.2) tp).bind fun o_18 => (if (z1 + 3) < 0 ∨ 320 ≤ ((z1 + 3)).toNatClampNeg then none else some ((o_18.2.1), (o_18.2.2), (upd (upd (upd (upd (upd (upd sq (z1).toNatClampNeg o_3) (z1 + 2).toNatClampNeg (-1)) (z1 + 3).toNatClampNeg (-1)) (z1 + 1).toNatClampNeg o_10.1) (z1 + 2).toNatClampNeg o_15.1) (z1 + 3).toNatClampNeg o_18.1)))))) else some ((o_10.2.1), (o_10.2.2), (upd (upd (upd (upd sq (z1).toNatClampNeg o_3) (z1 + 2).toNatClampNeg (-1)) (z1 + 3).toNatClampNeg (-1)) (z1 + 1).toNatClampNeg o_10.1)))))))))))))
set_option maxHeartbeats 4000000 in
set_option maxRecDepth 100000 in
theorem c_X10_readStep (l : Launch) (dC : Nat → ClassId) (dI : Nat → Nat → Nat) (bm : Nat → Nat) (km : Nat → ClassId) (th : Int32) (tn : Int32) (at_ : Int32) (wr : Int32) (rm_ : Int32) (mn : Int32) (sn : Int32) (ac : Int32) (hi : Int32) (dn : Int64) (tp : Nat → Int32) (sq : Nat → Int32) (z1 : Int32) (A : Nat → Prop) (o : Int32 × Int32 × (Nat → Int32)) (hG : F_X10_readStep tn at_ wr tp sq z1 = some o) : Met l yX10_readStep (.code yX10_readStep cX10_readStep 3 none :: wA) ({ frames := 3, cells := 0, slots := 0, locals := 65 }) (va_Pc [.ref (bm 0), .int z1] (q_W (dC, dI) A [((bm 0), .inr (10, [.int th, .ref (bm 1), .int tn, .int at_, .int wr, .ref (bm 2), .ref (bm 3), .int rm_, .ref (bm 4), .ref (bm 5), .int mn, .ref (bm 6), .ref (bm 7), .int sn, .ref (bm 8), .ref (bm 9), .ref (bm 10), .int ac, .long dn, .ref (bm 11), .ref (bm 12), .ref (bm 13), .ref (bm 14), .int hi])), ((bm 1), .inl ((km 1), 240, .inl tp)), ((bm 6), .inl ((km 6), 320, .inl sq))] [((km 1), .int), ((km 6), .int)])) (va_Qv (fun _ : Unit => True) (fun (_ : Unit) t => q_B (dC, dI) A [((bm 0), .inr (10, [.int th, .ref (bm 1), .int tn, .int (o.1), .int (o.2.1), .ref (bm 2), .ref (bm 3), .int rm_, .ref (bm 4), .ref (bm 5), .int mn, .ref (bm 6), .ref (bm 7), .int sn, .ref (bm 8), .ref (bm 9), .ref (bm 10), .int ac, .long dn, .ref (bm 11), .ref (bm 12), .ref (bm 13), .ref (bm 14), .int hi])), ((bm 1), .inl ((km 1), 240, .inl tp)), ((bm 6), .inl ((km 6), 320, .inl (o.2.2)))] [((km 1), .int), ((km 6), .int)] t) A) 0 0 A := by
  refine Met.ofW (cc := cX10_readStep) (maxL := 3) (ret := none) (by decide) rfl ?_
  intro p e s m args below meth c s₁ B hml hv
  obtain ⟨rfl, hP, hK, hD, hA⟩ := hv
  have hx := B.exec
  have hb := B.bytes
  have hr := B.returns
  have hts := atoms_spec (ws := .code yX10_readStep cX10_readStep 3 none :: wA) B.pre
  have hown : s.vm.findClass RX10 = some m.cls := findClass_of_methodNamed B.named
  have hlocks := B.notSynchronized
  have hS : va_S A s.heap s.heap [] := va_S.rf
  have hl := lv_entry ([.ref (bm 0), .int z1]) (n := 3) (Nat.le_of_ble_eq_true rfl)
  rw [lg_entry_eq]
  generalize (lg_sl ([.ref (bm 0), .int z1]) ++ List.replicate (3 - (lg_sl ([.ref (bm 0), .int z1])).length) Slot.unset).toArray = ls at hl ⊢
  have hl : lv_has ls 3 [(0, .ref (bm 0)), (1, .int z1)] := hl
  unfold F_X10_readStep at hG
  refine lv_aload_n hx hb dX10_readStep_0 rfl (lv_at hl 0 rfl) ?_
  obtain ⟨o_1, r_2, hG⟩ := q_bi hG
  refine q_goi2 (v := o_1.1) (wr := [((bm 6), .inl ((km 6), 320, .inl sq))]) (va_runV (As := []) (rest := []) ⟨hx, hb, hml, hown, hts⟩ (c_X10_ahead l dC dI bm km th tn at_ wr rm_ mn sn ac hi dn tp (va_A [((bm 0), .inr (10, [.int th, .ref (bm 1), .int tn, .int at_, .int wr, .ref (bm 2), .ref (bm 3), .int rm_, .ref (bm 4), .ref (bm 5), .int mn, .ref (bm 6), .ref (bm 7), .int sn, .ref (bm 8), .ref (bm 9), .ref (bm 10), .int ac, .long dn, .ref (bm 11), .ref (bm 12), .ref (bm 13), .ref (bm 14), .int hi])), ((bm 1), .inl ((km 1), 240, .inl tp))] s.heap.size) o_1 r_2) (cwV 0 hts (q_gV m_331 m_332 m_333 m_5 m_334) rfl rfl rfl hdV_yX10_ahead_0 ⟨Nat.le_of_ble_eq_true rfl, Nat.le_of_ble_eq_true rfl⟩) (q_preWV hK hP hD (q := (RX10, TX10, 24)) (ci := 10) (q0 := 0) rfl rfl [0, 1] (by decide) rfl rfl [0] rfl) rfl rfl hl.1 rfl (lv_room (Nat.le_of_ble_eq_true rfl)) dX10_readStep_1 ⟨Nat.le_of_ble_eq_true rfl, Nat.le_of_ble_eq_true rfl⟩) hK hP hD hS hA [0, 1] [2] rfl rfl (by decide) (by decide) (fun _ H locs _ hP hD hK9 hS => ?_)
  have hP : va_P (dC, dI) vwCl [((bm 0), .inr (10, [.int th, .ref (bm 1), .int tn, .int (o_1.2), .int wr, .ref (bm 2), .ref (bm 3), .int rm_, .ref (bm 4), .ref (bm 5), .int mn, .ref (bm 6), .ref (bm 7), .int sn, .ref (bm 8), .ref (bm 9), .ref (bm 10), .int ac, .long dn, .ref (bm 11), .ref (bm 12), .ref (bm 13), .ref (bm 14), .int hi])), ((bm 1), .inl ((km 1), 240, .inl tp)), ((bm 6), .inl ((km 6), 320, .inl sq))] H := hP.sub [1, 2, 0] rfl
  have hD : va_D A [((bm 0), .inr (10, [.int th, .ref (bm 1), .int tn, .int (o_1.2), .int wr, .ref (bm 2), .ref (bm 3), .int rm_, .ref (bm 4), .ref (bm 5), .int mn, .ref (bm 6), .ref (bm 7), .int sn, .ref (bm 8), .ref (bm 9), .ref (bm 10), .int ac, .long dn, .ref (bm 11), .ref (bm 12), .ref (bm 13), .ref (bm 14), .int hi])), ((bm 1), .inl ((km 1), 240, .inl tp)), ((bm 6), .inl ((km 6), 320, .inl sq))] := hD.sub [1, 2, 0] (by decide) rfl
  obtain ⟨o_3, r_4, hG⟩ := q_bi hG
  refine q_goi (v := o_3) (va_runS (As := [.int o_1.1]) (rest := []) ⟨hx, hb, hml, hown, hts⟩ (c_X10_sortOf l dC dI o_1.1 o_3 r_4) (va_cwS 1 hts (q_gS m_374 m_375 m_5 m_376) rfl rfl rfl hdS_yX10_sortOf_1 ⟨Nat.le_of_ble_eq_true rfl, Nat.le_of_ble_eq_true rfl⟩) (q_preS hK hP [] rfl [] rfl) rfl rfl hl.1 rfl (lv_room (Nat.le_of_ble_eq_true rfl)) dX10_readStep_4 ⟨Nat.le_of_ble_eq_true rfl, Nat.le_of_ble_eq_true rfl⟩) hP hS (fun H locs hP hS => ?_)
  refine lv_istore_n (lv' := [(2, .int o_3), (0, .ref (bm 0)), (1, .int z1)]) hx hb dX10_readStep_7 rfl hl (by decide) rfl (fun ls hl => ?_)
  refine lv_iload_n hx hb dX10_readStep_8 rfl (lv_at hl 0 rfl) ?_
  refine lv_iconst (v := (-1)) hx hb dX10_readStep_9 (by decide) ?_
  refine lv_icmp_ne (tgt := 18) hx hb dX10_readStep_10 (by decide) (fun c_5 => ?_) (fun c_5 => ?_)
  · have hG := q_ifn c_5 hG
    refine lv_aload_n hx hb dX10_readStep_18 rfl (lv_at hl 1 rfl) ?_
    refine lv_dup hx hb dX10_readStep_19 rfl ?_
    refine va_get (D := (dC, dI)) (ci := 10) (v := .int (o_1.2)) (C := RX10) (T := TX10) (N := 24) hx hb hts iA_10 hown hK hP 0 rfl rfl 3 (by decide) (hts (.fieldLink RX10 67 "HubTreeModel" "at" "I") (List.mem_cons_of_mem _ m_325)) (fun _ h9 => h9) rfl dX10_readStep_20 ?_
    refine lv_iconst (v := 1) hx hb dX10_readStep_23 (by decide) ?_
    refine lv_iadd hx hb dX10_readStep_24 ?_
    refine va_put (D := (dC, dI)) (ci := 10) (v := .int ((o_1.2) + 1)) (ty := .int) (C := RX10) (T := TX10) (N := 24) hx hb hts iA_10 tyX10 tyX10_ok nmX10 hown hK hP hD hS 0 rfl rfl 3 (by decide) (hts (.fieldLink RX10 67 "HubTreeModel" "at" "I") (List.mem_cons_of_mem _ m_325)) (fun _ h9 => h9) rfl (by decide +kernel) rfl rfl (Nat.le_of_ble_eq_true rfl) dX10_readStep_25 (fun H locs hP hD hS => ?_)
    have hP : va_P (dC, dI) vwCl [((bm 0), .inr (10, [.int th, .ref (bm 1), .int tn, .int ((o_1.2) + 1), .int wr, .ref (bm 2), .ref (bm 3), .int rm_, .ref (bm 4), .ref (bm 5), .int mn, .ref (bm 6), .ref (bm 7), .int sn, .ref (bm 8), .ref (bm 9), .ref (bm 10), .int ac, .long dn, .ref (bm 11), .ref (bm 12), .ref (bm 13), .ref (bm 14), .int hi])), ((bm 1), .inl ((km 1), 240, .inl tp)), ((bm 6), .inl ((km 6), 320, .inl sq))] H := hP
    have hD : va_D A [((bm 0), .inr (10, [.int th, .ref (bm 1), .int tn, .int ((o_1.2) + 1), .int wr, .ref (bm 2), .ref (bm 3), .int rm_, .ref (bm 4), .ref (bm 5), .int mn, .ref (bm 6), .ref (bm 7), .int sn, .ref (bm 8), .ref (bm 9), .ref (bm 10), .int ac, .long dn, .ref (bm 11), .ref (bm 12), .ref (bm 13), .ref (bm 14), .int hi])), ((bm 1), .inl ((km 1), 240, .inl tp)), ((bm 6), .inl ((km 6), 320, .inl sq))] := hD
    refine lv_aload_n hx hb dX10_readStep_28 rfl (lv_at hl 1 rfl) ?_
    refine va_get (D := (dC, dI)) (ci := 10) (v := .ref (bm 6)) (C := RX10) (T := TX10) (N := 24) hx hb hts iA_10 hown hK hP 0 rfl rfl 11 (by decide) (hts (.fieldLink RX10 25 "HubTreeModel" "script" "[I") (List.mem_cons_of_mem _ m_120)) (fun _ h9 => h9) rfl dX10_readStep_29 ?_
    refine lv_iload_n hx hb dX10_readStep_32 rfl (lv_at hl 2 rfl) ?_
    refine lv_iload_n hx hb dX10_readStep_33 rfl (lv_at hl 0 rfl) ?_
    obtain ⟨h_6, hG⟩ := q_ix hG
    refine va_iast hx hb hK hP hD hS 2 1 rfl rfl (i := z1) (x := o_3) h_6 dX10_readStep_34 (fun H locs hP hD hS => ?_)
    have hP : va_P (dC, dI) vwCl [((bm 0), .inr (10, [.int th, .ref (bm 1), .int tn, .int ((o_1.2) + 1), .int wr, .ref (bm 2), .ref (bm 3), .int rm_, .ref (bm 4), .ref (bm 5), .int mn, .ref (bm 6), .ref (bm 7), .int sn, .ref (bm 8), .ref (bm 9), .ref (bm 10), .int ac, .long dn, .ref (bm 11), .ref (bm 12), .ref (bm 13), .ref (bm 14), .int hi])), ((bm 1), .inl ((km 1), 240, .inl tp)), ((bm 6), .inl ((km 6), 320, .inl (upd sq (z1).toNatClampNeg o_3)))] H := hP
    have hD : va_D A [((bm 0), .inr (10, [.int th, .ref (bm 1), .int tn, .int ((o_1.2) + 1), .int wr, .ref (bm 2), .ref (bm 3), .int rm_, .ref (bm 4), .ref (bm 5), .int mn, .ref (bm 6), .ref (bm 7), .int sn, .ref (bm 8), .ref (bm 9), .ref (bm 10), .int ac, .long dn, .ref (bm 11), .ref (bm 12), .ref (bm 13), .ref (bm 14), .int hi])), ((bm 1), .inl ((km 1), 240, .inl tp)), ((bm 6), .inl ((km 6), 320, .inl (upd sq (z1).toNatClampNeg o_3)))] := hD
    refine lv_aload_n hx hb dX10_readStep_35 rfl (lv_at hl 1 rfl) ?_
    refine va_get (D := (dC, dI)) (ci := 10) (v := .ref (bm 6)) (C := RX10) (T := TX10) (N := 24) hx hb hts iA_10 hown hK hP 0 rfl rfl 11 (by decide) (hts (.fieldLink RX10 25 "HubTreeModel" "script" "[I") (List.mem_cons_of_mem _ m_120)) (fun _ h9 => h9) rfl dX10_readStep_36 ?_
    refine lv_iload_n hx hb dX10_readStep_39 rfl (lv_at hl 2 rfl) ?_
    refine lv_iconst (v := 2) hx hb dX10_readStep_40 (by decide) ?_
    refine lv_iadd hx hb dX10_readStep_41 ?_
    refine lv_iconst (v := (-1)) hx hb dX10_readStep_42 (by decide) ?_
    obtain ⟨h_7, hG⟩ := q_ix hG
    refine va_iast hx hb hK hP hD hS 2 1 rfl rfl (i := (z1 + 2)) (x := (-1)) h_7 dX10_readStep_43 (fun H locs hP hD hS => ?_)
    have hP : va_P (dC, dI) vwCl [((bm 0), .inr (10, [.int th, .ref (bm 1), .int tn, .int ((o_1.2) + 1), .int wr, .ref (bm 2), .ref (bm 3), .int rm_, .ref (bm 4), .ref (bm 5), .int mn, .ref (bm 6), .ref (bm 7), .int sn, .ref (bm 8), .ref (bm 9), .ref (bm 10), .int ac, .long dn, .ref (bm 11), .ref (bm 12), .ref (bm 13), .ref (bm 14), .int hi])), ((bm 1), .inl ((km 1), 240, .inl tp)), ((bm 6), .inl ((km 6), 320, .inl (upd (upd sq (z1).toNatClampNeg o_3) (z1 + 2).toNatClampNeg (-1))))] H := hP
    have hD : va_D A [((bm 0), .inr (10, [.int th, .ref (bm 1), .int tn, .int ((o_1.2) + 1), .int wr, .ref (bm 2), .ref (bm 3), .int rm_, .ref (bm 4), .ref (bm 5), .int mn, .ref (bm 6), .ref (bm 7), .int sn, .ref (bm 8), .ref (bm 9), .ref (bm 10), .int ac, .long dn, .ref (bm 11), .ref (bm 12), .ref (bm 13), .ref (bm 14), .int hi])), ((bm 1), .inl ((km 1), 240, .inl tp)), ((bm 6), .inl ((km 6), 320, .inl (upd (upd sq (z1).toNatClampNeg o_3) (z1 + 2).toNatClampNeg (-1))))] := hD
    refine lv_aload_n hx hb dX10_readStep_44 rfl (lv_at hl 1 rfl) ?_
    refine va_get (D := (dC, dI)) (ci := 10) (v := .ref (bm 6)) (C := RX10) (T := TX10) (N := 24) hx hb hts iA_10 hown hK hP 0 rfl rfl 11 (by decide) (hts (.fieldLink RX10 25 "HubTreeModel" "script" "[I") (List.mem_cons_of_mem _ m_120)) (fun _ h9 => h9) rfl dX10_readStep_45 ?_
    refine lv_iload_n hx hb dX10_readStep_48 rfl (lv_at hl 2 rfl) ?_
    refine lv_iconst (v := 3) hx hb dX10_readStep_49 (by decide) ?_
    refine lv_iadd hx hb dX10_readStep_50 ?_
    refine lv_iconst (v := (-1)) hx hb dX10_readStep_51 (by decide) ?_
    obtain ⟨h_8, hG⟩ := q_ix hG
    refine va_iast hx hb hK hP hD hS 2 1 rfl rfl (i := (z1 + 3)) (x := (-1)) h_8 dX10_readStep_52 (fun H locs hP hD hS => ?_)
    have hP : va_P (dC, dI) vwCl [((bm 0), .inr (10, [.int th, .ref (bm 1), .int tn, .int ((o_1.2) + 1), .int wr, .ref (bm 2), .ref (bm 3), .int rm_, .ref (bm 4), .ref (bm 5), .int mn, .ref (bm 6), .ref (bm 7), .int sn, .ref (bm 8), .ref (bm 9), .ref (bm 10), .int ac, .long dn, .ref (bm 11), .ref (bm 12), .ref (bm 13), .ref (bm 14), .int hi])), ((bm 1), .inl ((km 1), 240, .inl tp)), ((bm 6), .inl ((km 6), 320, .inl (upd (upd (upd sq (z1).toNatClampNeg o_3) (z1 + 2).toNatClampNeg (-1)) (z1 + 3).toNatClampNeg (-1))))] H := hP
    have hD : va_D A [((bm 0), .inr (10, [.int th, .ref (bm 1), .int tn, .int ((o_1.2) + 1), .int wr, .ref (bm 2), .ref (bm 3), .int rm_, .ref (bm 4), .ref (bm 5), .int mn, .ref (bm 6), .ref (bm 7), .int sn, .ref (bm 8), .ref (bm 9), .ref (bm 10), .int ac, .long dn, .ref (bm 11), .ref (bm 12), .ref (bm 13), .ref (bm 14), .int hi])), ((bm 1), .inl ((km 1), 240, .inl tp)), ((bm 6), .inl ((km 6), 320, .inl (upd (upd (upd sq (z1).toNatClampNeg o_3) (z1 + 2).toNatClampNeg (-1)) (z1 + 3).toNatClampNeg (-1))))] := hD
    refine lv_aload_n hx hb dX10_readStep_53 rfl (lv_at hl 1 rfl) ?_
    refine va_get (D := (dC, dI)) (ci := 10) (v := .ref (bm 6)) (C := RX10) (T := TX10) (N := 24) hx hb hts iA_10 hown hK hP 0 rfl rfl 11 (by decide) (hts (.fieldLink RX10 25 "HubTreeModel" "script" "[I") (List.mem_cons_of_mem _ m_120)) (fun _ h9 => h9) rfl dX10_readStep_54 ?_
    refine lv_iload_n hx hb dX10_readStep_57 rfl (lv_at hl 2 rfl) ?_
    refine lv_iconst (v := 1) hx hb dX10_readStep_58 (by decide) ?_
    refine lv_iadd hx hb dX10_readStep_59 ?_
    refine lv_iload_n hx hb dX10_readStep_60 rfl (lv_at hl 0 rfl) ?_
    refine lv_iconst (v := 2) hx hb dX10_readStep_61 (by decide) ?_
    refine lv_icmp_ne (tgt := 76) hx hb dX10_readStep_62 (by decide) (fun c_9 => ?_) (fun c_9 => ?_)
    · have hG := q_ifn c_9 hG
      refine lv_aload_n hx hb dX10_readStep_76 rfl (lv_at hl 1 rfl) ?_
      obtain ⟨o_10, r_11, hG⟩ := q_bi hG
      refine q_goi2 (v := o_10.1) (wr := [((bm 6), .inl ((km 6), 320, .inl (upd (upd (upd sq (z1).toNatClampNeg o_3) (z1 + 2).toNatClampNeg (-1)) (z1 + 3).toNatClampNeg (-1))))]) (va_runV (As := []) (rest := [.int (z1 + 1), .ref (bm 6)]) ⟨hx, hb, hml, hown, hts⟩ (c_X10_digit l dC dI bm km th tn ((o_1.2) + 1) wr rm_ mn sn ac hi dn tp (va_A [((bm 0), .inr (10, [.int th, .ref (bm 1), .int tn, .int ((o_1.2) + 1), .int wr, .ref (bm 2), .ref (bm 3), .int rm_, .ref (bm 4), .ref (bm 5), .int mn, .ref (bm 6), .ref (bm 7), .int sn, .ref (bm 8), .ref (bm 9), .ref (bm 10), .int ac, .long dn, .ref (bm 11), .ref (bm 12), .ref (bm 13), .ref (bm 14), .int hi])), ((bm 1), .inl ((km 1), 240, .inl tp))] H.size) o_10 r_11) (cwV 0 hts (q_gV m_377 m_378 m_379 m_5 m_380) rfl rfl rfl hdV_yX10_digit_0 ⟨Nat.le_of_ble_eq_true rfl, Nat.le_of_ble_eq_true rfl⟩) (q_preWV hK hP hD (q := (RX10, TX10, 24)) (ci := 10) (q0 := 0) rfl rfl [0, 1] (by decide) rfl rfl [0] rfl) rfl rfl hl.1 rfl (lv_room (Nat.le_of_ble_eq_true rfl)) dX10_readStep_77 ⟨Nat.le_of_ble_eq_true rfl, Nat.le_of_ble_eq_true rfl⟩) hK hP hD hS hA [0, 1] [2] rfl rfl (by decide) (by decide) (fun _ H locs _ hP hD hK9 hS => ?_)
      have hP : va_P (dC, dI) vwCl [((bm 0), .inr (10, [.int th, .ref (bm 1), .int tn, .int (o_10.2.1), .int (o_10.2.2), .ref (bm 2), .ref (bm 3), .int rm_, .ref (bm 4), .ref (bm 5), .int mn, .ref (bm 6), .ref (bm 7), .int sn, .ref (bm 8), .ref (bm 9), .ref (bm 10), .int ac, .long dn, .ref (bm 11), .ref (bm 12), .ref (bm 13), .ref (bm 14), .int hi])), ((bm 1), .inl ((km 1), 240, .inl tp)), ((bm 6), .inl ((km 6), 320, .inl (upd (upd (upd sq (z1).toNatClampNeg o_3) (z1 + 2).toNatClampNeg (-1)) (z1 + 3).toNatClampNeg (-1))))] H := hP.sub [1, 2, 0] rfl
      have hD : va_D A [((bm 0), .inr (10, [.int th, .ref (bm 1), .int tn, .int (o_10.2.1), .int (o_10.2.2), .ref (bm 2), .ref (bm 3), .int rm_, .ref (bm 4), .ref (bm 5), .int mn, .ref (bm 6), .ref (bm 7), .int sn, .ref (bm 8), .ref (bm 9), .ref (bm 10), .int ac, .long dn, .ref (bm 11), .ref (bm 12), .ref (bm 13), .ref (bm 14), .int hi])), ((bm 1), .inl ((km 1), 240, .inl tp)), ((bm 6), .inl ((km 6), 320, .inl (upd (upd (upd sq (z1).toNatClampNeg o_3) (z1 + 2).toNatClampNeg (-1)) (z1 + 3).toNatClampNeg (-1))))] := hD.sub [1, 2, 0] (by decide) rfl
      obtain ⟨h_12, hG⟩ := q_ix hG
      refine va_iast hx hb hK hP hD hS 2 1 rfl rfl (i := (z1 + 1)) (x := o_10.1) h_12 dX10_readStep_80 (fun H locs hP hD hS => ?_)
      have hP : va_P (dC, dI) vwCl [((bm 0), .inr (10, [.int th, .ref (bm 1), .int tn, .int (o_10.2.1), .int (o_10.2.2), .ref (bm 2), .ref (bm 3), .int rm_, .ref (bm 4), .ref (bm 5), .int mn, .ref (bm 6), .ref (bm 7), .int sn, .ref (bm 8), .ref (bm 9), .ref (bm 10), .int ac, .long dn, .ref (bm 11), .ref (bm 12), .ref (bm 13), .ref (bm 14), .int hi])), ((bm 1), .inl ((km 1), 240, .inl tp)), ((bm 6), .inl ((km 6), 320, .inl (upd (upd (upd (upd sq (z1).toNatClampNeg o_3) (z1 + 2).toNatClampNeg (-1)) (z1 + 3).toNatClampNeg (-1)) (z1 + 1).toNatClampNeg o_10.1)))] H := hP
      have hD : va_D A [((bm 0), .inr (10, [.int th, .ref (bm 1), .int tn, .int (o_10.2.1), .int (o_10.2.2), .ref (bm 2), .ref (bm 3), .int rm_, .ref (bm 4), .ref (bm 5), .int mn, .ref (bm 6), .ref (bm 7), .int sn, .ref (bm 8), .ref (bm 9), .ref (bm 10), .int ac, .long dn, .ref (bm 11), .ref (bm 12), .ref (bm 13), .ref (bm 14), .int hi])), ((bm 1), .inl ((km 1), 240, .inl tp)), ((bm 6), .inl ((km 6), 320, .inl (upd (upd (upd (upd sq (z1).toNatClampNeg o_3) (z1 + 2).toNatClampNeg (-1)) (z1 + 3).toNatClampNeg (-1)) (z1 + 1).toNatClampNeg o_10.1)))] := hD
      refine lv_iload_n hx hb dX10_readStep_81 rfl (lv_at hl 0 rfl) ?_
      refine lv_iconst (v := 4) hx hb dX10_readStep_82 (by decide) ?_
      refine lv_icmp_ne (tgt := 98) hx hb dX10_readStep_83 (by decide) (fun c_13 => ?_) (fun c_13 => ?_)
      · have hG := q_ifn c_13 hG
        refine lv_iload_n hx hb dX10_readStep_98 rfl (lv_at hl 0 rfl) ?_
        refine lv_if_ne (tgt := 126) hx hb dX10_readStep_99 (by decide) (fun c_14 => ?_) (fun c_14 => ?_)
        · have hG := q_ifn c_14 hG
          obtain rfl := Option.some.inj hG
          have hP9 := hP.sub (ws' := [((bm 0), .inr (10, [.int th, .ref (bm 1), .int tn, .int (o_10.2.1), .int (o_10.2.2), .ref (bm 2), .ref (bm 3), .int rm_, .ref (bm 4), .ref (bm 5), .int mn, .ref (bm 6), .ref (bm 7), .int sn, .ref (bm 8), .ref (bm 9), .ref (bm 10), .int ac, .long dn, .ref (bm 11), .ref (bm 12), .ref (bm 13), .ref (bm 14), .int hi])), ((bm 1), .inl ((km 1), 240, .inl tp)), ((bm 6), .inl ((km 6), 320, .inl (upd (upd (upd (upd sq (z1).toNatClampNeg o_3) (z1 + 2).toNatClampNeg (-1)) (z1 + 3).toNatClampNeg (-1)) (z1 + 1).toNatClampNeg o_10.1)))]) [0, 1, 2] rfl
          have hD9 := hD.sub (ws' := [((bm 0), .inr (10, [.int th, .ref (bm 1), .int tn, .int (o_10.2.1), .int (o_10.2.2), .ref (bm 2), .ref (bm 3), .int rm_, .ref (bm 4), .ref (bm 5), .int mn, .ref (bm 6), .ref (bm 7), .int sn, .ref (bm 8), .ref (bm 9), .ref (bm 10), .int ac, .long dn, .ref (bm 11), .ref (bm 12), .ref (bm 13), .ref (bm 14), .int hi])), ((bm 1), .inl ((km 1), 240, .inl tp)), ((bm 6), .inl ((km 6), 320, .inl (upd (upd (upd (upd sq (z1).toNatClampNeg o_3) (z1 + 2).toNatClampNeg (-1)) (z1 + 3).toNatClampNeg (-1)) (z1 + 1).toNatClampNeg o_10.1)))]) [0, 1, 2] (by decide) rfl
          have hK9 := hK.sub (tys' := [((km 1), .int), ((km 6), .int)]) [0, 1] rfl
          exact W.vret hx hb hr (fun t ht hW => ⟨⟨(), rfl, trivial, by rw [ht]; exact hP9, va_K.moved hW.alike hK9, hD9⟩, hS.F ht⟩) hS.2.2 dX10_readStep_126
        · have hG := q_ifp c_14 hG
          refine lv_aload_n hx hb dX10_readStep_102 rfl (lv_at hl 1 rfl) ?_
          refine va_get (D := (dC, dI)) (ci := 10) (v := .ref (bm 6)) (C := RX10) (T := TX10) (N := 24) hx hb hts iA_10 hown hK hP 0 rfl rfl 11 (by decide) (hts (.fieldLink RX10 25 "HubTreeModel" "script" "[I") (List.mem_cons_of_mem _ m_120)) (fun _ h9 => h9) rfl dX10_readStep_103 ?_
          refine lv_iload_n hx hb dX10_readStep_106 rfl (lv_at hl 2 rfl) ?_
          refine lv_iconst (v := 2) hx hb dX10_readStep_107 (by decide) ?_
          refine lv_iadd hx hb dX10_readStep_108 ?_
          refine lv_aload_n hx hb dX10_readStep_109 rfl (lv_at hl 1 rfl) ?_
          obtain ⟨o_15, r_16, hG⟩ := q_bi hG
          refine q_goi2 (v := o_15.1) (wr := [((bm 6), .inl ((km 6), 320, .inl (upd (upd (upd (upd sq (z1).toNatClampNeg o_3) (z1 + 2).toNatClampNeg (-1)) (z1 + 3).toNatClampNeg (-1)) (z1 + 1).toNatClampNeg o_10.1)))]) (va_runV (As := []) (rest := [.int (z1 + 2), .ref (bm 6)]) ⟨hx, hb, hml, hown, hts⟩ (c_X10_digit l dC dI bm km th tn (o_10.2.1) (o_10.2.2) rm_ mn sn ac hi dn tp (va_A [((bm 0), .inr (10, [.int th, .ref (bm 1), .int tn, .int (o_10.2.1), .int (o_10.2.2), .ref (bm 2), .ref (bm 3), .int rm_, .ref (bm 4), .ref (bm 5), .int mn, .ref (bm 6), .ref (bm 7), .int sn, .ref (bm 8), .ref (bm 9), .ref (bm 10), .int ac, .long dn, .ref (bm 11), .ref (bm 12), .ref (bm 13), .ref (bm 14), .int hi])), ((bm 1), .inl ((km 1), 240, .inl tp))] H.size) o_15 r_16) (cwV 0 hts (q_gV m_377 m_378 m_379 m_5 m_380) rfl rfl rfl hdV_yX10_digit_0 ⟨Nat.le_of_ble_eq_true rfl, Nat.le_of_ble_eq_true rfl⟩) (q_preWV hK hP hD (q := (RX10, TX10, 24)) (ci := 10) (q0 := 0) rfl rfl [0, 1] (by decide) rfl rfl [0] rfl) rfl rfl hl.1 rfl (lv_room (Nat.le_of_ble_eq_true rfl)) dX10_readStep_110 ⟨Nat.le_of_ble_eq_true rfl, Nat.le_of_ble_eq_true rfl⟩) hK hP hD hS hA [0, 1] [2] rfl rfl (by decide) (by decide) (fun _ H locs _ hP hD hK9 hS => ?_)
          have hP : va_P (dC, dI) vwCl [((bm 0), .inr (10, [.int th, .ref (bm 1), .int tn, .int (o_15.2.1), .int (o_15.2.2), .ref (bm 2), .ref (bm 3), .int rm_, .ref (bm 4), .ref (bm 5), .int mn, .ref (bm 6), .ref (bm 7), .int sn, .ref (bm 8), .ref (bm 9), .ref (bm 10), .int ac, .long dn, .ref (bm 11), .ref (bm 12), .ref (bm 13), .ref (bm 14), .int hi])), ((bm 1), .inl ((km 1), 240, .inl tp)), ((bm 6), .inl ((km 6), 320, .inl (upd (upd (upd (upd sq (z1).toNatClampNeg o_3) (z1 + 2).toNatClampNeg (-1)) (z1 + 3).toNatClampNeg (-1)) (z1 + 1).toNatClampNeg o_10.1)))] H := hP.sub [1, 2, 0] rfl
          have hD : va_D A [((bm 0), .inr (10, [.int th, .ref (bm 1), .int tn, .int (o_15.2.1), .int (o_15.2.2), .ref (bm 2), .ref (bm 3), .int rm_, .ref (bm 4), .ref (bm 5), .int mn, .ref (bm 6), .ref (bm 7), .int sn, .ref (bm 8), .ref (bm 9), .ref (bm 10), .int ac, .long dn, .ref (bm 11), .ref (bm 12), .ref (bm 13), .ref (bm 14), .int hi])), ((bm 1), .inl ((km 1), 240, .inl tp)), ((bm 6), .inl ((km 6), 320, .inl (upd (upd (upd (upd sq (z1).toNatClampNeg o_3) (z1 + 2).toNatClampNeg (-1)) (z1 + 3).toNatClampNeg (-1)) (z1 + 1).toNatClampNeg o_10.1)))] := hD.sub [1, 2, 0] (by decide) rfl
          obtain ⟨h_17, hG⟩ := q_ix hG
          refine va_iast hx hb hK hP hD hS 2 1 rfl rfl (i := (z1 + 2)) (x := o_15.1) h_17 dX10_readStep_113 (fun H locs hP hD hS => ?_)
          have hP : va_P (dC, dI) vwCl [((bm 0), .inr (10, [.int th, .ref (bm 1), .int tn, .int (o_15.2.1), .int (o_15.2.2), .ref (bm 2), .ref (bm 3), .int rm_, .ref (bm 4), .ref (bm 5), .int mn, .ref (bm 6), .ref (bm 7), .int sn, .ref (bm 8), .ref (bm 9), .ref (bm 10), .int ac, .long dn, .ref (bm 11), .ref (bm 12), .ref (bm 13), .ref (bm 14), .int hi])), ((bm 1), .inl ((km 1), 240, .inl tp)), ((bm 6), .inl ((km 6), 320, .inl (upd (upd (upd (upd (upd sq (z1).toNatClampNeg o_3) (z1 + 2).toNatClampNeg (-1)) (z1 + 3).toNatClampNeg (-1)) (z1 + 1).toNatClampNeg o_10.1) (z1 + 2).toNatClampNeg o_15.1)))] H := hP
          have hD : va_D A [((bm 0), .inr (10, [.int th, .ref (bm 1), .int tn, .int (o_15.2.1), .int (o_15.2.2), .ref (bm 2), .ref (bm 3), .int rm_, .ref (bm 4), .ref (bm 5), .int mn, .ref (bm 6), .ref (bm 7), .int sn, .ref (bm 8), .ref (bm 9), .ref (bm 10), .int ac, .long dn, .ref (bm 11), .ref (bm 12), .ref (bm 13), .ref (bm 14), .int hi])), ((bm 1), .inl ((km 1), 240, .inl tp)), ((bm 6), .inl ((km 6), 320, .inl (upd (upd (upd (upd (upd sq (z1).toNatClampNeg o_3) (z1 + 2).toNatClampNeg (-1)) (z1 + 3).toNatClampNeg (-1)) (z1 + 1).toNatClampNeg o_10.1) (z1 + 2).toNatClampNeg o_15.1)))] := hD
          refine lv_aload_n hx hb dX10_readStep_114 rfl (lv_at hl 1 rfl) ?_
          refine va_get (D := (dC, dI)) (ci := 10) (v := .ref (bm 6)) (C := RX10) (T := TX10) (N := 24) hx hb hts iA_10 hown hK hP 0 rfl rfl 11 (by decide) (hts (.fieldLink RX10 25 "HubTreeModel" "script" "[I") (List.mem_cons_of_mem _ m_120)) (fun _ h9 => h9) rfl dX10_readStep_115 ?_
          refine lv_iload_n hx hb dX10_readStep_118 rfl (lv_at hl 2 rfl) ?_
          refine lv_iconst (v := 3) hx hb dX10_readStep_119 (by decide) ?_
          refine lv_iadd hx hb dX10_readStep_120 ?_
          refine lv_aload_n hx hb dX10_readStep_121 rfl (lv_at hl 1 rfl) ?_
          obtain ⟨o_18, r_19, hG⟩ := q_bi hG
          refine q_goi2 (v := o_18.1) (wr := [((bm 6), .inl ((km 6), 320, .inl (upd (upd (upd (upd (upd sq (z1).toNatClampNeg o_3) (z1 + 2).toNatClampNeg (-1)) (z1 + 3).toNatClampNeg (-1)) (z1 + 1).toNatClampNeg o_10.1) (z1 + 2).toNatClampNeg o_15.1)))]) (va_runV (As := []) (rest := [.int (z1 + 3), .ref (bm 6)]) ⟨hx, hb, hml, hown, hts⟩ (c_X10_digit l dC dI bm km th tn (o_15.2.1) (o_15.2.2) rm_ mn sn ac hi dn tp (va_A [((bm 0), .inr (10, [.int th, .ref (bm 1), .int tn, .int (o_15.2.1), .int (o_15.2.2), .ref (bm 2), .ref (bm 3), .int rm_, .ref (bm 4), .ref (bm 5), .int mn, .ref (bm 6), .ref (bm 7), .int sn, .ref (bm 8), .ref (bm 9), .ref (bm 10), .int ac, .long dn, .ref (bm 11), .ref (bm 12), .ref (bm 13), .ref (bm 14), .int hi])), ((bm 1), .inl ((km 1), 240, .inl tp))] H.size) o_18 r_19) (cwV 0 hts (q_gV m_377 m_378 m_379 m_5 m_380) rfl rfl rfl hdV_yX10_digit_0 ⟨Nat.le_of_ble_eq_true rfl, Nat.le_of_ble_eq_true rfl⟩) (q_preWV hK hP hD (q := (RX10, TX10, 24)) (ci := 10) (q0 := 0) rfl rfl [0, 1] (by decide) rfl rfl [0] rfl) rfl rfl hl.1 rfl (lv_room (Nat.le_of_ble_eq_true rfl)) dX10_readStep_122 ⟨Nat.le_of_ble_eq_true rfl, Nat.le_of_ble_eq_true rfl⟩) hK hP hD hS hA [0, 1] [2] rfl rfl (by decide) (by decide) (fun _ H locs _ hP hD hK9 hS => ?_)
          have hP : va_P (dC, dI) vwCl [((bm 0), .inr (10, [.int th, .ref (bm 1), .int tn, .int (o_18.2.1), .int (o_18.2.2), .ref (bm 2), .ref (bm 3), .int rm_, .ref (bm 4), .ref (bm 5), .int mn, .ref (bm 6), .ref (bm 7), .int sn, .ref (bm 8), .ref (bm 9), .ref (bm 10), .int ac, .long dn, .ref (bm 11), .ref (bm 12), .ref (bm 13), .ref (bm 14), .int hi])), ((bm 1), .inl ((km 1), 240, .inl tp)), ((bm 6), .inl ((km 6), 320, .inl (upd (upd (upd (upd (upd sq (z1).toNatClampNeg o_3) (z1 + 2).toNatClampNeg (-1)) (z1 + 3).toNatClampNeg (-1)) (z1 + 1).toNatClampNeg o_10.1) (z1 + 2).toNatClampNeg o_15.1)))] H := hP.sub [1, 2, 0] rfl
          have hD : va_D A [((bm 0), .inr (10, [.int th, .ref (bm 1), .int tn, .int (o_18.2.1), .int (o_18.2.2), .ref (bm 2), .ref (bm 3), .int rm_, .ref (bm 4), .ref (bm 5), .int mn, .ref (bm 6), .ref (bm 7), .int sn, .ref (bm 8), .ref (bm 9), .ref (bm 10), .int ac, .long dn, .ref (bm 11), .ref (bm 12), .ref (bm 13), .ref (bm 14), .int hi])), ((bm 1), .inl ((km 1), 240, .inl tp)), ((bm 6), .inl ((km 6), 320, .inl (upd (upd (upd (upd (upd sq (z1).toNatClampNeg o_3) (z1 + 2).toNatClampNeg (-1)) (z1 + 3).toNatClampNeg (-1)) (z1 + 1).toNatClampNeg o_10.1) (z1 + 2).toNatClampNeg o_15.1)))] := hD.sub [1, 2, 0] (by decide) rfl
          obtain ⟨h_20, hG⟩ := q_ix hG
          refine va_iast hx hb hK hP hD hS 2 1 rfl rfl (i := (z1 + 3)) (x := o_18.1) h_20 dX10_readStep_125 (fun H locs hP hD hS => ?_)
          have hP : va_P (dC, dI) vwCl [((bm 0), .inr (10, [.int th, .ref (bm 1), .int tn, .int (o_18.2.1), .int (o_18.2.2), .ref (bm 2), .ref (bm 3), .int rm_, .ref (bm 4), .ref (bm 5), .int mn, .ref (bm 6), .ref (bm 7), .int sn, .ref (bm 8), .ref (bm 9), .ref (bm 10), .int ac, .long dn, .ref (bm 11), .ref (bm 12), .ref (bm 13), .ref (bm 14), .int hi])), ((bm 1), .inl ((km 1), 240, .inl tp)), ((bm 6), .inl ((km 6), 320, .inl (upd (upd (upd (upd (upd (upd sq (z1).toNatClampNeg o_3) (z1 + 2).toNatClampNeg (-1)) (z1 + 3).toNatClampNeg (-1)) (z1 + 1).toNatClampNeg o_10.1) (z1 + 2).toNatClampNeg o_15.1) (z1 + 3).toNatClampNeg o_18.1)))] H := hP
          have hD : va_D A [((bm 0), .inr (10, [.int th, .ref (bm 1), .int tn, .int (o_18.2.1), .int (o_18.2.2), .ref (bm 2), .ref (bm 3), .int rm_, .ref (bm 4), .ref (bm 5), .int mn, .ref (bm 6), .ref (bm 7), .int sn, .ref (bm 8), .ref (bm 9), .ref (bm 10), .int ac, .long dn, .ref (bm 11), .ref (bm 12), .ref (bm 13), .ref (bm 14), .int hi])), ((bm 1), .inl ((km 1), 240, .inl tp)), ((bm 6), .inl ((km 6), 320, .inl (upd (upd (upd (upd (upd (upd sq (z1).toNatClampNeg o_3) (z1 + 2).toNatClampNeg (-1)) (z1 + 3).toNatClampNeg (-1)) (z1 + 1).toNatClampNeg o_10.1) (z1 + 2).toNatClampNeg o_15.1) (z1 + 3).toNatClampNeg o_18.1)))] := hD
          obtain rfl := Option.some.inj hG
          have hP9 := hP.sub (ws' := [((bm 0), .inr (10, [.int th, .ref (bm 1), .int tn, .int (o_18.2.1), .int (o_18.2.2), .ref (bm 2), .ref (bm 3), .int rm_, .ref (bm 4), .ref (bm 5), .int mn, .ref (bm 6), .ref (bm 7), .int sn, .ref (bm 8), .ref (bm 9), .ref (bm 10), .int ac, .long dn, .ref (bm 11), .ref (bm 12), .ref (bm 13), .ref (bm 14), .int hi])), ((bm 1), .inl ((km 1), 240, .inl tp)), ((bm 6), .inl ((km 6), 320, .inl (upd (upd (upd (upd (upd (upd sq (z1).toNatClampNeg o_3) (z1 + 2).toNatClampNeg (-1)) (z1 + 3).toNatClampNeg (-1)) (z1 + 1).toNatClampNeg o_10.1) (z1 + 2).toNatClampNeg o_15.1) (z1 + 3).toNatClampNeg o_18.1)))]) [0, 1, 2] rfl
          have hD9 := hD.sub (ws' := [((bm 0), .inr (10, [.int th, .ref (bm 1), .int tn, .int (o_18.2.1), .int (o_18.2.2), .ref (bm 2), .ref (bm 3), .int rm_, .ref (bm 4), .ref (bm 5), .int mn, .ref (bm 6), .ref (bm 7), .int sn, .ref (bm 8), .ref (bm 9), .ref (bm 10), .int ac, .long dn, .ref (bm 11), .ref (bm 12), .ref (bm 13), .ref (bm 14), .int hi])), ((bm 1), .inl ((km 1), 240, .inl tp)), ((bm 6), .inl ((km 6), 320, .inl (upd (upd (upd (upd (upd (upd sq (z1).toNatClampNeg o_3) (z1 + 2).toNatClampNeg (-1)) (z1 + 3).toNatClampNeg (-1)) (z1 + 1).toNatClampNeg o_10.1) (z1 + 2).toNatClampNeg o_15.1) (z1 + 3).toNatClampNeg o_18.1)))]) [0, 1, 2] (by decide) rfl
          have hK9 := hK.sub (tys' := [((km 1), .int), ((km 6), .int)]) [0, 1] rfl
          exact W.vret hx hb hr (fun t ht hW => ⟨⟨(), rfl, trivial, by rw [ht]; exact hP9, va_K.moved hW.alike hK9, hD9⟩, hS.F ht⟩) hS.2.2 dX10_readStep_126
      · have hG := q_ifp c_13 hG
        refine lv_aload_n hx hb dX10_readStep_86 rfl (lv_at hl 1 rfl) ?_
        refine va_get (D := (dC, dI)) (ci := 10) (v := .ref (bm 6)) (C := RX10) (T := TX10) (N := 24) hx hb hts iA_10 hown hK hP 0 rfl rfl 11 (by decide) (hts (.fieldLink RX10 25 "HubTreeModel" "script" "[I") (List.mem_cons_of_mem _ m_120)) (fun _ h9 => h9) rfl dX10_readStep_87 ?_
        refine lv_iload_n hx hb dX10_readStep_90 rfl (lv_at hl 2 rfl) ?_
        refine lv_iconst (v := 2) hx hb dX10_readStep_91 (by decide) ?_
        refine lv_iadd hx hb dX10_readStep_92 ?_
        refine lv_aload_n hx hb dX10_readStep_93 rfl (lv_at hl 1 rfl) ?_
        obtain ⟨o_21, r_22, hG⟩ := q_bi hG
        refine q_goi2 (v := o_21.1) (wr := [((bm 6), .inl ((km 6), 320, .inl (upd (upd (upd (upd sq (z1).toNatClampNeg o_3) (z1 + 2).toNatClampNeg (-1)) (z1 + 3).toNatClampNeg (-1)) (z1 + 1).toNatClampNeg o_10.1)))]) (va_runV (As := []) (rest := [.int (z1 + 2), .ref (bm 6)]) ⟨hx, hb, hml, hown, hts⟩ (c_X10_digit l dC dI bm km th tn (o_10.2.1) (o_10.2.2) rm_ mn sn ac hi dn tp (va_A [((bm 0), .inr (10, [.int th, .ref (bm 1), .int tn, .int (o_10.2.1), .int (o_10.2.2), .ref (bm 2), .ref (bm 3), .int rm_, .ref (bm 4), .ref (bm 5), .int mn, .ref (bm 6), .ref (bm 7), .int sn, .ref (bm 8), .ref (bm 9), .ref (bm 10), .int ac, .long dn, .ref (bm 11), .ref (bm 12), .ref (bm 13), .ref (bm 14), .int hi])), ((bm 1), .inl ((km 1), 240, .inl tp))] H.size) o_21 r_22) (cwV 0 hts (q_gV m_377 m_378 m_379 m_5 m_380) rfl rfl rfl hdV_yX10_digit_0 ⟨Nat.le_of_ble_eq_true rfl, Nat.le_of_ble_eq_true rfl⟩) (q_preWV hK hP hD (q := (RX10, TX10, 24)) (ci := 10) (q0 := 0) rfl rfl [0, 1] (by decide) rfl rfl [0] rfl) rfl rfl hl.1 rfl (lv_room (Nat.le_of_ble_eq_true rfl)) dX10_readStep_94 ⟨Nat.le_of_ble_eq_true rfl, Nat.le_of_ble_eq_true rfl⟩) hK hP hD hS hA [0, 1] [2] rfl rfl (by decide) (by decide) (fun _ H locs _ hP hD hK9 hS => ?_)
        have hP : va_P (dC, dI) vwCl [((bm 0), .inr (10, [.int th, .ref (bm 1), .int tn, .int (o_21.2.1), .int (o_21.2.2), .ref (bm 2), .ref (bm 3), .int rm_, .ref (bm 4), .ref (bm 5), .int mn, .ref (bm 6), .ref (bm 7), .int sn, .ref (bm 8), .ref (bm 9), .ref (bm 10), .int ac, .long dn, .ref (bm 11), .ref (bm 12), .ref (bm 13), .ref (bm 14), .int hi])), ((bm 1), .inl ((km 1), 240, .inl tp)), ((bm 6), .inl ((km 6), 320, .inl (upd (upd (upd (upd sq (z1).toNatClampNeg o_3) (z1 + 2).toNatClampNeg (-1)) (z1 + 3).toNatClampNeg (-1)) (z1 + 1).toNatClampNeg o_10.1)))] H := hP.sub [1, 2, 0] rfl
        have hD : va_D A [((bm 0), .inr (10, [.int th, .ref (bm 1), .int tn, .int (o_21.2.1), .int (o_21.2.2), .ref (bm 2), .ref (bm 3), .int rm_, .ref (bm 4), .ref (bm 5), .int mn, .ref (bm 6), .ref (bm 7), .int sn, .ref (bm 8), .ref (bm 9), .ref (bm 10), .int ac, .long dn, .ref (bm 11), .ref (bm 12), .ref (bm 13), .ref (bm 14), .int hi])), ((bm 1), .inl ((km 1), 240, .inl tp)), ((bm 6), .inl ((km 6), 320, .inl (upd (upd (upd (upd sq (z1).toNatClampNeg o_3) (z1 + 2).toNatClampNeg (-1)) (z1 + 3).toNatClampNeg (-1)) (z1 + 1).toNatClampNeg o_10.1)))] := hD.sub [1, 2, 0] (by decide) rfl
        obtain ⟨h_23, hG⟩ := q_ix hG
        refine va_iast hx hb hK hP hD hS 2 1 rfl rfl (i := (z1 + 2)) (x := o_21.1) h_23 dX10_readStep_97 (fun H locs hP hD hS => ?_)
        have hP : va_P (dC, dI) vwCl [((bm 0), .inr (10, [.int th, .ref (bm 1), .int tn, .int (o_21.2.1), .int (o_21.2.2), .ref (bm 2), .ref (bm 3), .int rm_, .ref (bm 4), .ref (bm 5), .int mn, .ref (bm 6), .ref (bm 7), .int sn, .ref (bm 8), .ref (bm 9), .ref (bm 10), .int ac, .long dn, .ref (bm 11), .ref (bm 12), .ref (bm 13), .ref (bm 14), .int hi])), ((bm 1), .inl ((km 1), 240, .inl tp)), ((bm 6), .inl ((km 6), 320, .inl (upd (upd (upd (upd (upd sq (z1).toNatClampNeg o_3) (z1 + 2).toNatClampNeg (-1)) (z1 + 3).toNatClampNeg (-1)) (z1 + 1).toNatClampNeg o_10.1) (z1 + 2).toNatClampNeg o_21.1)))] H := hP
        have hD : va_D A [((bm 0), .inr (10, [.int th, .ref (bm 1), .int tn, .int (o_21.2.1), .int (o_21.2.2), .ref (bm 2), .ref (bm 3), .int rm_, .ref (bm 4), .ref (bm 5), .int mn, .ref (bm 6), .ref (bm 7), .int sn, .ref (bm 8), .ref (bm 9), .ref (bm 10), .int ac, .long dn, .ref (bm 11), .ref (bm 12), .ref (bm 13), .ref (bm 14), .int hi])), ((bm 1), .inl ((km 1), 240, .inl tp)), ((bm 6), .inl ((km 6), 320, .inl (upd (upd (upd (upd (upd sq (z1).toNatClampNeg o_3) (z1 + 2).toNatClampNeg (-1)) (z1 + 3).toNatClampNeg (-1)) (z1 + 1).toNatClampNeg o_10.1) (z1 + 2).toNatClampNeg o_21.1)))] := hD
        refine lv_iload_n hx hb dX10_readStep_98 rfl (lv_at hl 0 rfl) ?_
        refine lv_if_ne (tgt := 126) hx hb dX10_readStep_99 (by decide) (fun c_24 => ?_) (fun c_24 => ?_)
        · have hG := q_ifn c_24 hG
          obtain rfl := Option.some.inj hG
          have hP9 := hP.sub (ws' := [((bm 0), .inr (10, [.int th, .ref (bm 1), .int tn, .int (o_21.2.1), .int (o_21.2.2), .ref (bm 2), .ref (bm 3), .int rm_, .ref (bm 4), .ref (bm 5), .int mn, .ref (bm 6), .ref (bm 7), .int sn, .ref (bm 8), .ref (bm 9), .ref (bm 10), .int ac, .long dn, .ref (bm 11), .ref (bm 12), .ref (bm 13), .ref (bm 14), .int hi])), ((bm 1), .inl ((km 1), 240, .inl tp)), ((bm 6), .inl ((km 6), 320, .inl (upd (upd (upd (upd (upd sq (z1).toNatClampNeg o_3) (z1 + 2).toNatClampNeg (-1)) (z1 + 3).toNatClampNeg (-1)) (z1 + 1).toNatClampNeg o_10.1) (z1 + 2).toNatClampNeg o_21.1)))]) [0, 1, 2] rfl
          have hD9 := hD.sub (ws' := [((bm 0), .inr (10, [.int th, .ref (bm 1), .int tn, .int (o_21.2.1), .int (o_21.2.2), .ref (bm 2), .ref (bm 3), .int rm_, .ref (bm 4), .ref (bm 5), .int mn, .ref (bm 6), .ref (bm 7), .int sn, .ref (bm 8), .ref (bm 9), .ref (bm 10), .int ac, .long dn, .ref (bm 11), .ref (bm 12), .ref (bm 13), .ref (bm 14), .int hi])), ((bm 1), .inl ((km 1), 240, .inl tp)), ((bm 6), .inl ((km 6), 320, .inl (upd (upd (upd (upd (upd sq (z1).toNatClampNeg o_3) (z1 + 2).toNatClampNeg (-1)) (z1 + 3).toNatClampNeg (-1)) (z1 + 1).toNatClampNeg o_10.1) (z1 + 2).toNatClampNeg o_21.1)))]) [0, 1, 2] (by decide) rfl
          have hK9 := hK.sub (tys' := [((km 1), .int), ((km 6), .int)]) [0, 1] rfl
          exact W.vret hx hb hr (fun t ht hW => ⟨⟨(), rfl, trivial, by rw [ht]; exact hP9, va_K.moved hW.alike hK9, hD9⟩, hS.F ht⟩) hS.2.2 dX10_readStep_126
        · have hG := q_ifp c_24 hG
          refine lv_aload_n hx hb dX10_readStep_102 rfl (lv_at hl 1 rfl) ?_
          refine va_get (D := (dC, dI)) (ci := 10) (v := .ref (bm 6)) (C := RX10) (T := TX10) (N := 24) hx hb hts iA_10 hown hK hP 0 rfl rfl 11 (by decide) (hts (.fieldLink RX10 25 "HubTreeModel" "script" "[I") (List.mem_cons_of_mem _ m_120)) (fun _ h9 => h9) rfl dX10_readStep_103 ?_
          refine lv_iload_n hx hb dX10_readStep_106 rfl (lv_at hl 2 rfl) ?_
          refine lv_iconst (v := 2) hx hb dX10_readStep_107 (by decide) ?_
          refine lv_iadd hx hb dX10_readStep_108 ?_
          refine lv_aload_n hx hb dX10_readStep_109 rfl (lv_at hl 1 rfl) ?_
          obtain ⟨o_25, r_26, hG⟩ := q_bi hG
          refine q_goi2 (v := o_25.1) (wr := [((bm 6), .inl ((km 6), 320, .inl (upd (upd (upd (upd (upd sq (z1).toNatClampNeg o_3) (z1 + 2).toNatClampNeg (-1)) (z1 + 3).toNatClampNeg (-1)) (z1 + 1).toNatClampNeg o_10.1) (z1 + 2).toNatClampNeg o_21.1)))]) (va_runV (As := []) (rest := [.int (z1 + 2), .ref (bm 6)]) ⟨hx, hb, hml, hown, hts⟩ (c_X10_digit l dC dI bm km th tn (o_21.2.1) (o_21.2.2) rm_ mn sn ac hi dn tp (va_A [((bm 0), .inr (10, [.int th, .ref (bm 1), .int tn, .int (o_21.2.1), .int (o_21.2.2), .ref (bm 2), .ref (bm 3), .int rm_, .ref (bm 4), .ref (bm 5), .int mn, .ref (bm 6), .ref (bm 7), .int sn, .ref (bm 8), .ref (bm 9), .ref (bm 10), .int ac, .long dn, .ref (bm 11), .ref (bm 12), .ref (bm 13), .ref (bm 14), .int hi])), ((bm 1), .inl ((km 1), 240, .inl tp))] H.size) o_25 r_26) (cwV 0 hts (q_gV m_377 m_378 m_379 m_5 m_380) rfl rfl rfl hdV_yX10_digit_0 ⟨Nat.le_of_ble_eq_true rfl, Nat.le_of_ble_eq_true rfl⟩) (q_preWV hK hP hD (q := (RX10, TX10, 24)) (ci := 10) (q0 := 0) rfl rfl [0, 1] (by decide) rfl rfl [0] rfl) rfl rfl hl.1 rfl (lv_room (Nat.le_of_ble_eq_true rfl)) dX10_readStep_110 ⟨Nat.le_of_ble_eq_true rfl, Nat.le_of_ble_eq_true rfl⟩) hK hP hD hS hA [0, 1] [2] rfl rfl (by decide) (by decide) (fun _ H locs _ hP hD hK9 hS => ?_)
          have hP : va_P (dC, dI) vwCl [((bm 0), .inr (10, [.int th, .ref (bm 1), .int tn, .int (o_25.2.1), .int (o_25.2.2), .ref (bm 2), .ref (bm 3), .int rm_, .ref (bm 4), .ref (bm 5), .int mn, .ref (bm 6), .ref (bm 7), .int sn, .ref (bm 8), .ref (bm 9), .ref (bm 10), .int ac, .long dn, .ref (bm 11), .ref (bm 12), .ref (bm 13), .ref (bm 14), .int hi])), ((bm 1), .inl ((km 1), 240, .inl tp)), ((bm 6), .inl ((km 6), 320, .inl (upd (upd (upd (upd (upd sq (z1).toNatClampNeg o_3) (z1 + 2).toNatClampNeg (-1)) (z1 + 3).toNatClampNeg (-1)) (z1 + 1).toNatClampNeg o_10.1) (z1 + 2).toNatClampNeg o_21.1)))] H := hP.sub [1, 2, 0] rfl
          have hD : va_D A [((bm 0), .inr (10, [.int th, .ref (bm 1), .int tn, .int (o_25.2.1), .int (o_25.2.2), .ref (bm 2), .ref (bm 3), .int rm_, .ref (bm 4), .ref (bm 5), .int mn, .ref (bm 6), .ref (bm 7), .int sn, .ref (bm 8), .ref (bm 9), .ref (bm 10), .int ac, .long dn, .ref (bm 11), .ref (bm 12), .ref (bm 13), .ref (bm 14), .int hi])), ((bm 1), .inl ((km 1), 240, .inl tp)), ((bm 6), .inl ((km 6), 320, .inl (upd (upd (upd (upd (upd sq (z1).toNatClampNeg o_3) (z1 + 2).toNatClampNeg (-1)) (z1 + 3).toNatClampNeg (-1)) (z1 + 1).toNatClampNeg o_10.1) (z1 + 2).toNatClampNeg o_21.1)))] := hD.sub [1, 2, 0] (by decide) rfl
          obtain ⟨h_27, hG⟩ := q_ix hG
          refine va_iast hx hb hK hP hD hS 2 1 rfl rfl (i := (z1 + 2)) (x := o_25.1) h_27 dX10_readStep_113 (fun H locs hP hD hS => ?_)
          have hP : va_P (dC, dI) vwCl [((bm 0), .inr (10, [.int th, .ref (bm 1), .int tn, .int (o_25.2.1), .int (o_25.2.2), .ref (bm 2), .ref (bm 3), .int rm_, .ref (bm 4), .ref (bm 5), .int mn, .ref (bm 6), .ref (bm 7), .int sn, .ref (bm 8), .ref (bm 9), .ref (bm 10), .int ac, .long dn, .ref (bm 11), .ref (bm 12), .ref (bm 13), .ref (bm 14), .int hi])), ((bm 1), .inl ((km 1), 240, .inl tp)), ((bm 6), .inl ((km 6), 320, .inl (upd (upd (upd (upd (upd (upd sq (z1).toNatClampNeg o_3) (z1 + 2).toNatClampNeg (-1)) (z1 + 3).toNatClampNeg (-1)) (z1 + 1).toNatClampNeg o_10.1) (z1 + 2).toNatClampNeg o_21.1) (z1 + 2).toNatClampNeg o_25.1)))] H := hP
          have hD : va_D A [((bm 0), .inr (10, [.int th, .ref (bm 1), .int tn, .int (o_25.2.1), .int (o_25.2.2), .ref (bm 2), .ref (bm 3), .int rm_, .ref (bm 4), .ref (bm 5), .int mn, .ref (bm 6), .ref (bm 7), .int sn, .ref (bm 8), .ref (bm 9), .ref (bm 10), .int ac, .long dn, .ref (bm 11), .ref (bm 12), .ref (bm 13), .ref (bm 14), .int hi])), ((bm 1), .inl ((km 1), 240, .inl tp)), ((bm 6), .inl ((km 6), 320, .inl (upd (upd (upd (upd (upd (upd sq (z1).toNatClampNeg o_3) (z1 + 2).toNatClampNeg (-1)) (z1 + 3).toNatClampNeg (-1)) (z1 + 1).toNatClampNeg o_10.1) (z1 + 2).toNatClampNeg o_21.1) (z1 + 2).toNatClampNeg o_25.1)))] := hD
          refine lv_aload_n hx hb dX10_readStep_114 rfl (lv_at hl 1 rfl) ?_
          refine va_get (D := (dC, dI)) (ci := 10) (v := .ref (bm 6)) (C := RX10) (T := TX10) (N := 24) hx hb hts iA_10 hown hK hP 0 rfl rfl 11 (by decide) (hts (.fieldLink RX10 25 "HubTreeModel" "script" "[I") (List.mem_cons_of_mem _ m_120)) (fun _ h9 => h9) rfl dX10_readStep_115 ?_
          refine lv_iload_n hx hb dX10_readStep_118 rfl (lv_at hl 2 rfl) ?_
          refine lv_iconst (v := 3) hx hb dX10_readStep_119 (by decide) ?_
          refine lv_iadd hx hb dX10_readStep_120 ?_
          refine lv_aload_n hx hb dX10_readStep_121 rfl (lv_at hl 1 rfl) ?_
          obtain ⟨o_28, r_29, hG⟩ := q_bi hG
          refine q_goi2 (v := o_28.1) (wr := [((bm 6), .inl ((km 6), 320, .inl (upd (upd (upd (upd (upd (upd sq (z1).toNatClampNeg o_3) (z1 + 2).toNatClampNeg (-1)) (z1 + 3).toNatClampNeg (-1)) (z1 + 1).toNatClampNeg o_10.1) (z1 + 2).toNatClampNeg o_21.1) (z1 + 2).toNatClampNeg o_25.1)))]) (va_runV (As := []) (rest := [.int (z1 + 3), .ref (bm 6)]) ⟨hx, hb, hml, hown, hts⟩ (c_X10_digit l dC dI bm km th tn (o_25.2.1) (o_25.2.2) rm_ mn sn ac hi dn tp (va_A [((bm 0), .inr (10, [.int th, .ref (bm 1), .int tn, .int (o_25.2.1), .int (o_25.2.2), .ref (bm 2), .ref (bm 3), .int rm_, .ref (bm 4), .ref (bm 5), .int mn, .ref (bm 6), .ref (bm 7), .int sn, .ref (bm 8), .ref (bm 9), .ref (bm 10), .int ac, .long dn, .ref (bm 11), .ref (bm 12), .ref (bm 13), .ref (bm 14), .int hi])), ((bm 1), .inl ((km 1), 240, .inl tp))] H.size) o_28 r_29) (cwV 0 hts (q_gV m_377 m_378 m_379 m_5 m_380) rfl rfl rfl hdV_yX10_digit_0 ⟨Nat.le_of_ble_eq_true rfl, Nat.le_of_ble_eq_true rfl⟩) (q_preWV hK hP hD (q := (RX10, TX10, 24)) (ci := 10) (q0 := 0) rfl rfl [0, 1] (by decide) rfl rfl [0] rfl) rfl rfl hl.1 rfl (lv_room (Nat.le_of_ble_eq_true rfl)) dX10_readStep_122 ⟨Nat.le_of_ble_eq_true rfl, Nat.le_of_ble_eq_true rfl⟩) hK hP hD hS hA [0, 1] [2] rfl rfl (by decide) (by decide) (fun _ H locs _ hP hD hK9 hS => ?_)
          have hP : va_P (dC, dI) vwCl [((bm 0), .inr (10, [.int th, .ref (bm 1), .int tn, .int (o_28.2.1), .int (o_28.2.2), .ref (bm 2), .ref (bm 3), .int rm_, .ref (bm 4), .ref (bm 5), .int mn, .ref (bm 6), .ref (bm 7), .int sn, .ref (bm 8), .ref (bm 9), .ref (bm 10), .int ac, .long dn, .ref (bm 11), .ref (bm 12), .ref (bm 13), .ref (bm 14), .int hi])), ((bm 1), .inl ((km 1), 240, .inl tp)), ((bm 6), .inl ((km 6), 320, .inl (upd (upd (upd (upd (upd (upd sq (z1).toNatClampNeg o_3) (z1 + 2).toNatClampNeg (-1)) (z1 + 3).toNatClampNeg (-1)) (z1 + 1).toNatClampNeg o_10.1) (z1 + 2).toNatClampNeg o_21.1) (z1 + 2).toNatClampNeg o_25.1)))] H := hP.sub [1, 2, 0] rfl
          have hD : va_D A [((bm 0), .inr (10, [.int th, .ref (bm 1), .int tn, .int (o_28.2.1), .int (o_28.2.2), .ref (bm 2), .ref (bm 3), .int rm_, .ref (bm 4), .ref (bm 5), .int mn, .ref (bm 6), .ref (bm 7), .int sn, .ref (bm 8), .ref (bm 9), .ref (bm 10), .int ac, .long dn, .ref (bm 11), .ref (bm 12), .ref (bm 13), .ref (bm 14), .int hi])), ((bm 1), .inl ((km 1), 240, .inl tp)), ((bm 6), .inl ((km 6), 320, .inl (upd (upd (upd (upd (upd (upd sq (z1).toNatClampNeg o_3) (z1 + 2).toNatClampNeg (-1)) (z1 + 3).toNatClampNeg (-1)) (z1 + 1).toNatClampNeg o_10.1) (z1 + 2).toNatClampNeg o_21.1) (z1 + 2).toNatClampNeg o_25.1)))] := hD.sub [1, 2, 0] (by decide) rfl
          obtain ⟨h_30, hG⟩ := q_ix hG
          refine va_iast hx hb hK hP hD hS 2 1 rfl rfl (i := (z1 + 3)) (x := o_28.1) h_30 dX10_readStep_125 (fun H locs hP hD hS => ?_)
          have hP : va_P (dC, dI) vwCl [((bm 0), .inr (10, [.int th, .ref (bm 1), .int tn, .int (o_28.2.1), .int (o_28.2.2), .ref (bm 2), .ref (bm 3), .int rm_, .ref (bm 4), .ref (bm 5), .int mn, .ref (bm 6), .ref (bm 7), .int sn, .ref (bm 8), .ref (bm 9), .ref (bm 10), .int ac, .long dn, .ref (bm 11), .ref (bm 12), .ref (bm 13), .ref (bm 14), .int hi])), ((bm 1), .inl ((km 1), 240, .inl tp)), ((bm 6), .inl ((km 6), 320, .inl (upd (upd (upd (upd (upd (upd (upd sq (z1).toNatClampNeg o_3) (z1 + 2).toNatClampNeg (-1)) (z1 + 3).toNatClampNeg (-1)) (z1 + 1).toNatClampNeg o_10.1) (z1 + 2).toNatClampNeg o_21.1) (z1 + 2).toNatClampNeg o_25.1) (z1 + 3).toNatClampNeg o_28.1)))] H := hP
          have hD : va_D A [((bm 0), .inr (10, [.int th, .ref (bm 1), .int tn, .int (o_28.2.1), .int (o_28.2.2), .ref (bm 2), .ref (bm 3), .int rm_, .ref (bm 4), .ref (bm 5), .int mn, .ref (bm 6), .ref (bm 7), .int sn, .ref (bm 8), .ref (bm 9), .ref (bm 10), .int ac, .long dn, .ref (bm 11), .ref (bm 12), .ref (bm 13), .ref (bm 14), .int hi])), ((bm 1), .inl ((km 1), 240, .inl tp)), ((bm 6), .inl ((km 6), 320, .inl (upd (upd (upd (upd (upd (upd (upd sq (z1).toNatClampNeg o_3) (z1 + 2).toNatClampNeg (-1)) (z1 + 3).toNatClampNeg (-1)) (z1 + 1).toNatClampNeg o_10.1) (z1 + 2).toNatClampNeg o_21.1) (z1 + 2).toNatClampNeg o_25.1) (z1 + 3).toNatClampNeg o_28.1)))] := hD
          obtain rfl := Option.some.inj hG
          have hP9 := hP.sub (ws' := [((bm 0), .inr (10, [.int th, .ref (bm 1), .int tn, .int (o_28.2.1), .int (o_28.2.2), .ref (bm 2), .ref (bm 3), .int rm_, .ref (bm 4), .ref (bm 5), .int mn, .ref (bm 6), .ref (bm 7), .int sn, .ref (bm 8), .ref (bm 9), .ref (bm 10), .int ac, .long dn, .ref (bm 11), .ref (bm 12), .ref (bm 13), .ref (bm 14), .int hi])), ((bm 1), .inl ((km 1), 240, .inl tp)), ((bm 6), .inl ((km 6), 320, .inl (upd (upd (upd (upd (upd (upd (upd sq (z1).toNatClampNeg o_3) (z1 + 2).toNatClampNeg (-1)) (z1 + 3).toNatClampNeg (-1)) (z1 + 1).toNatClampNeg o_10.1) (z1 + 2).toNatClampNeg o_21.1) (z1 + 2).toNatClampNeg o_25.1) (z1 + 3).toNatClampNeg o_28.1)))]) [0, 1, 2] rfl
          have hD9 := hD.sub (ws' := [((bm 0), .inr (10, [.int th, .ref (bm 1), .int tn, .int (o_28.2.1), .int (o_28.2.2), .ref (bm 2), .ref (bm 3), .int rm_, .ref (bm 4), .ref (bm 5), .int mn, .ref (bm 6), .ref (bm 7), .int sn, .ref (bm 8), .ref (bm 9), .ref (bm 10), .int ac, .long dn, .ref (bm 11), .ref (bm 12), .ref (bm 13), .ref (bm 14), .int hi])), ((bm 1), .inl ((km 1), 240, .inl tp)), ((bm 6), .inl ((km 6), 320, .inl (upd (upd (upd (upd (upd (upd (upd sq (z1).toNatClampNeg o_3) (z1 + 2).toNatClampNeg (-1)) (z1 + 3).toNatClampNeg (-1)) (z1 + 1).toNatClampNeg o_10.1) (z1 + 2).toNatClampNeg o_21.1) (z1 + 2).toNatClampNeg o_25.1) (z1 + 3).toNatClampNeg o_28.1)))]) [0, 1, 2] (by decide) rfl
          have hK9 := hK.sub (tys' := [((km 1), .int), ((km 6), .int)]) [0, 1] rfl
          exact W.vret hx hb hr (fun t ht hW => ⟨⟨(), rfl, trivial, by rw [ht]; exact hP9, va_K.moved hW.alike hK9, hD9⟩, hS.F ht⟩) hS.2.2 dX10_readStep_126
    · have hG := q_ifp c_9 hG
      refine lv_aload_n hx hb dX10_readStep_65 rfl (lv_at hl 1 rfl) ?_
      refine lv_iconst (v := 2) hx hb dX10_readStep_66 (by decide) ?_
      refine lv_iconst (v := 0) hx hb dX10_readStep_67 (by decide) ?_
      refine lv_bipush (v := 99) hx hb dX10_readStep_68 (by decide) ?_
      obtain ⟨o_31, r_32, hG⟩ := q_bi hG
      refine q_goi2 (v := o_31.1) (wr := [((bm 6), .inl ((km 6), 320, .inl (upd (upd (upd sq (z1).toNatClampNeg o_3) (z1 + 2).toNatClampNeg (-1)) (z1 + 3).toNatClampNeg (-1))))]) (va_runV (As := [.int 2, .int 0, .int 99]) (rest := [.int (z1 + 1), .ref (bm 6)]) ⟨hx, hb, hml, hown, hts⟩ (c_X10_number l dC dI bm km th tn ((o_1.2) + 1) wr rm_ mn sn ac hi dn tp 2 0 99 (va_A [((bm 0), .inr (10, [.int th, .ref (bm 1), .int tn, .int ((o_1.2) + 1), .int wr, .ref (bm 2), .ref (bm 3), .int rm_, .ref (bm 4), .ref (bm 5), .int mn, .ref (bm 6), .ref (bm 7), .int sn, .ref (bm 8), .ref (bm 9), .ref (bm 10), .int ac, .long dn, .ref (bm 11), .ref (bm 12), .ref (bm 13), .ref (bm 14), .int hi])), ((bm 1), .inl ((km 1), 240, .inl tp))] H.size) o_31 r_32) (cwV 3 hts (q_gV m_355 m_356 m_357 m_5 m_358) rfl rfl rfl hdV_yX10_number_3 ⟨Nat.le_of_ble_eq_true rfl, Nat.le_of_ble_eq_true rfl⟩) (q_preWV hK hP hD (q := (RX10, TX10, 24)) (ci := 10) (q0 := 0) rfl rfl [0, 1] (by decide) rfl rfl [0] rfl) rfl rfl hl.1 rfl (lv_room (Nat.le_of_ble_eq_true rfl)) dX10_readStep_70 ⟨Nat.le_of_ble_eq_true rfl, Nat.le_of_ble_eq_true rfl⟩) hK hP hD hS hA [0, 1] [2] rfl rfl (by decide) (by decide) (fun _ H locs _ hP hD hK9 hS => ?_)
      have hP : va_P (dC, dI) vwCl [((bm 0), .inr (10, [.int th, .ref (bm 1), .int tn, .int (o_31.2.1), .int (o_31.2.2), .ref (bm 2), .ref (bm 3), .int rm_, .ref (bm 4), .ref (bm 5), .int mn, .ref (bm 6), .ref (bm 7), .int sn, .ref (bm 8), .ref (bm 9), .ref (bm 10), .int ac, .long dn, .ref (bm 11), .ref (bm 12), .ref (bm 13), .ref (bm 14), .int hi])), ((bm 1), .inl ((km 1), 240, .inl tp)), ((bm 6), .inl ((km 6), 320, .inl (upd (upd (upd sq (z1).toNatClampNeg o_3) (z1 + 2).toNatClampNeg (-1)) (z1 + 3).toNatClampNeg (-1))))] H := hP.sub [1, 2, 0] rfl
      have hD : va_D A [((bm 0), .inr (10, [.int th, .ref (bm 1), .int tn, .int (o_31.2.1), .int (o_31.2.2), .ref (bm 2), .ref (bm 3), .int rm_, .ref (bm 4), .ref (bm 5), .int mn, .ref (bm 6), .ref (bm 7), .int sn, .ref (bm 8), .ref (bm 9), .ref (bm 10), .int ac, .long dn, .ref (bm 11), .ref (bm 12), .ref (bm 13), .ref (bm 14), .int hi])), ((bm 1), .inl ((km 1), 240, .inl tp)), ((bm 6), .inl ((km 6), 320, .inl (upd (upd (upd sq (z1).toNatClampNeg o_3) (z1 + 2).toNatClampNeg (-1)) (z1 + 3).toNatClampNeg (-1))))] := hD.sub [1, 2, 0] (by decide) rfl
      refine lv_goto (tgt := 80) hx hb dX10_readStep_73 (by decide) ?_
      obtain ⟨h_33, hG⟩ := q_ix hG
      refine va_iast hx hb hK hP hD hS 2 1 rfl rfl (i := (z1 + 1)) (x := o_31.1) h_33 dX10_readStep_80 (fun H locs hP hD hS => ?_)
      have hP : va_P (dC, dI) vwCl [((bm 0), .inr (10, [.int th, .ref (bm 1), .int tn, .int (o_31.2.1), .int (o_31.2.2), .ref (bm 2), .ref (bm 3), .int rm_, .ref (bm 4), .ref (bm 5), .int mn, .ref (bm 6), .ref (bm 7), .int sn, .ref (bm 8), .ref (bm 9), .ref (bm 10), .int ac, .long dn, .ref (bm 11), .ref (bm 12), .ref (bm 13), .ref (bm 14), .int hi])), ((bm 1), .inl ((km 1), 240, .inl tp)), ((bm 6), .inl ((km 6), 320, .inl (upd (upd (upd (upd sq (z1).toNatClampNeg o_3) (z1 + 2).toNatClampNeg (-1)) (z1 + 3).toNatClampNeg (-1)) (z1 + 1).toNatClampNeg o_31.1)))] H := hP
      have hD : va_D A [((bm 0), .inr (10, [.int th, .ref (bm 1), .int tn, .int (o_31.2.1), .int (o_31.2.2), .ref (bm 2), .ref (bm 3), .int rm_, .ref (bm 4), .ref (bm 5), .int mn, .ref (bm 6), .ref (bm 7), .int sn, .ref (bm 8), .ref (bm 9), .ref (bm 10), .int ac, .long dn, .ref (bm 11), .ref (bm 12), .ref (bm 13), .ref (bm 14), .int hi])), ((bm 1), .inl ((km 1), 240, .inl tp)), ((bm 6), .inl ((km 6), 320, .inl (upd (upd (upd (upd sq (z1).toNatClampNeg o_3) (z1 + 2).toNatClampNeg (-1)) (z1 + 3).toNatClampNeg (-1)) (z1 + 1).toNatClampNeg o_31.1)))] := hD
      refine lv_iload_n hx hb dX10_readStep_81 rfl (lv_at hl 0 rfl) ?_
      refine lv_iconst (v := 4) hx hb dX10_readStep_82 (by decide) ?_
      refine lv_icmp_ne (tgt := 98) hx hb dX10_readStep_83 (by decide) (fun c_34 => ?_) (fun c_34 => ?_)
      · have hG := q_ifn c_34 hG
        refine lv_iload_n hx hb dX10_readStep_98 rfl (lv_at hl 0 rfl) ?_
        refine lv_if_ne (tgt := 126) hx hb dX10_readStep_99 (by decide) (fun c_35 => ?_) (fun c_35 => ?_)
        · have hG := q_ifn c_35 hG
          obtain rfl := Option.some.inj hG
          have hP9 := hP.sub (ws' := [((bm 0), .inr (10, [.int th, .ref (bm 1), .int tn, .int (o_31.2.1), .int (o_31.2.2), .ref (bm 2), .ref (bm 3), .int rm_, .ref (bm 4), .ref (bm 5), .int mn, .ref (bm 6), .ref (bm 7), .int sn, .ref (bm 8), .ref (bm 9), .ref (bm 10), .int ac, .long dn, .ref (bm 11), .ref (bm 12), .ref (bm 13), .ref (bm 14), .int hi])), ((bm 1), .inl ((km 1), 240, .inl tp)), ((bm 6), .inl ((km 6), 320, .inl (upd (upd (upd (upd sq (z1).toNatClampNeg o_3) (z1 + 2).toNatClampNeg (-1)) (z1 + 3).toNatClampNeg (-1)) (z1 + 1).toNatClampNeg o_31.1)))]) [0, 1, 2] rfl
          have hD9 := hD.sub (ws' := [((bm 0), .inr (10, [.int th, .ref (bm 1), .int tn, .int (o_31.2.1), .int (o_31.2.2), .ref (bm 2), .ref (bm 3), .int rm_, .ref (bm 4), .ref (bm 5), .int mn, .ref (bm 6), .ref (bm 7), .int sn, .ref (bm 8), .ref (bm 9), .ref (bm 10), .int ac, .long dn, .ref (bm 11), .ref (bm 12), .ref (bm 13), .ref (bm 14), .int hi])), ((bm 1), .inl ((km 1), 240, .inl tp)), ((bm 6), .inl ((km 6), 320, .inl (upd (upd (upd (upd sq (z1).toNatClampNeg o_3) (z1 + 2).toNatClampNeg (-1)) (z1 + 3).toNatClampNeg (-1)) (z1 + 1).toNatClampNeg o_31.1)))]) [0, 1, 2] (by decide) rfl
          have hK9 := hK.sub (tys' := [((km 1), .int), ((km 6), .int)]) [0, 1] rfl
          exact W.vret hx hb hr (fun t ht hW => ⟨⟨(), rfl, trivial, by rw [ht]; exact hP9, va_K.moved hW.alike hK9, hD9⟩, hS.F ht⟩) hS.2.2 dX10_readStep_126
        · have hG := q_ifp c_35 hG
          refine lv_aload_n hx hb dX10_readStep_102 rfl (lv_at hl 1 rfl) ?_
          refine va_get (D := (dC, dI)) (ci := 10) (v := .ref (bm 6)) (C := RX10) (T := TX10) (N := 24) hx hb hts iA_10 hown hK hP 0 rfl rfl 11 (by decide) (hts (.fieldLink RX10 25 "HubTreeModel" "script" "[I") (List.mem_cons_of_mem _ m_120)) (fun _ h9 => h9) rfl dX10_readStep_103 ?_
          refine lv_iload_n hx hb dX10_readStep_106 rfl (lv_at hl 2 rfl) ?_
          refine lv_iconst (v := 2) hx hb dX10_readStep_107 (by decide) ?_
          refine lv_iadd hx hb dX10_readStep_108 ?_
          refine lv_aload_n hx hb dX10_readStep_109 rfl (lv_at hl 1 rfl) ?_
          obtain ⟨o_36, r_37, hG⟩ := q_bi hG
          refine q_goi2 (v := o_36.1) (wr := [((bm 6), .inl ((km 6), 320, .inl (upd (upd (upd (upd sq (z1).toNatClampNeg o_3) (z1 + 2).toNatClampNeg (-1)) (z1 + 3).toNatClampNeg (-1)) (z1 + 1).toNatClampNeg o_31.1)))]) (va_runV (As := []) (rest := [.int (z1 + 2), .ref (bm 6)]) ⟨hx, hb, hml, hown, hts⟩ (c_X10_digit l dC dI bm km th tn (o_31.2.1) (o_31.2.2) rm_ mn sn ac hi dn tp (va_A [((bm 0), .inr (10, [.int th, .ref (bm 1), .int tn, .int (o_31.2.1), .int (o_31.2.2), .ref (bm 2), .ref (bm 3), .int rm_, .ref (bm 4), .ref (bm 5), .int mn, .ref (bm 6), .ref (bm 7), .int sn, .ref (bm 8), .ref (bm 9), .ref (bm 10), .int ac, .long dn, .ref (bm 11), .ref (bm 12), .ref (bm 13), .ref (bm 14), .int hi])), ((bm 1), .inl ((km 1), 240, .inl tp))] H.size) o_36 r_37) (cwV 0 hts (q_gV m_377 m_378 m_379 m_5 m_380) rfl rfl rfl hdV_yX10_digit_0 ⟨Nat.le_of_ble_eq_true rfl, Nat.le_of_ble_eq_true rfl⟩) (q_preWV hK hP hD (q := (RX10, TX10, 24)) (ci := 10) (q0 := 0) rfl rfl [0, 1] (by decide) rfl rfl [0] rfl) rfl rfl hl.1 rfl (lv_room (Nat.le_of_ble_eq_true rfl)) dX10_readStep_110 ⟨Nat.le_of_ble_eq_true rfl, Nat.le_of_ble_eq_true rfl⟩) hK hP hD hS hA [0, 1] [2] rfl rfl (by decide) (by decide) (fun _ H locs _ hP hD hK9 hS => ?_)
          have hP : va_P (dC, dI) vwCl [((bm 0), .inr (10, [.int th, .ref (bm 1), .int tn, .int (o_36.2.1), .int (o_36.2.2), .ref (bm 2), .ref (bm 3), .int rm_, .ref (bm 4), .ref (bm 5), .int mn, .ref (bm 6), .ref (bm 7), .int sn, .ref (bm 8), .ref (bm 9), .ref (bm 10), .int ac, .long dn, .ref (bm 11), .ref (bm 12), .ref (bm 13), .ref (bm 14), .int hi])), ((bm 1), .inl ((km 1), 240, .inl tp)), ((bm 6), .inl ((km 6), 320, .inl (upd (upd (upd (upd sq (z1).toNatClampNeg o_3) (z1 + 2).toNatClampNeg (-1)) (z1 + 3).toNatClampNeg (-1)) (z1 + 1).toNatClampNeg o_31.1)))] H := hP.sub [1, 2, 0] rfl
          have hD : va_D A [((bm 0), .inr (10, [.int th, .ref (bm 1), .int tn, .int (o_36.2.1), .int (o_36.2.2), .ref (bm 2), .ref (bm 3), .int rm_, .ref (bm 4), .ref (bm 5), .int mn, .ref (bm 6), .ref (bm 7), .int sn, .ref (bm 8), .ref (bm 9), .ref (bm 10), .int ac, .long dn, .ref (bm 11), .ref (bm 12), .ref (bm 13), .ref (bm 14), .int hi])), ((bm 1), .inl ((km 1), 240, .inl tp)), ((bm 6), .inl ((km 6), 320, .inl (upd (upd (upd (upd sq (z1).toNatClampNeg o_3) (z1 + 2).toNatClampNeg (-1)) (z1 + 3).toNatClampNeg (-1)) (z1 + 1).toNatClampNeg o_31.1)))] := hD.sub [1, 2, 0] (by decide) rfl
          obtain ⟨h_38, hG⟩ := q_ix hG
          refine va_iast hx hb hK hP hD hS 2 1 rfl rfl (i := (z1 + 2)) (x := o_36.1) h_38 dX10_readStep_113 (fun H locs hP hD hS => ?_)
          have hP : va_P (dC, dI) vwCl [((bm 0), .inr (10, [.int th, .ref (bm 1), .int tn, .int (o_36.2.1), .int (o_36.2.2), .ref (bm 2), .ref (bm 3), .int rm_, .ref (bm 4), .ref (bm 5), .int mn, .ref (bm 6), .ref (bm 7), .int sn, .ref (bm 8), .ref (bm 9), .ref (bm 10), .int ac, .long dn, .ref (bm 11), .ref (bm 12), .ref (bm 13), .ref (bm 14), .int hi])), ((bm 1), .inl ((km 1), 240, .inl tp)), ((bm 6), .inl ((km 6), 320, .inl (upd (upd (upd (upd (upd sq (z1).toNatClampNeg o_3) (z1 + 2).toNatClampNeg (-1)) (z1 + 3).toNatClampNeg (-1)) (z1 + 1).toNatClampNeg o_31.1) (z1 + 2).toNatClampNeg o_36.1)))] H := hP
          have hD : va_D A [((bm 0), .inr (10, [.int th, .ref (bm 1), .int tn, .int (o_36.2.1), .int (o_36.2.2), .ref (bm 2), .ref (bm 3), .int rm_, .ref (bm 4), .ref (bm 5), .int mn, .ref (bm 6), .ref (bm 7), .int sn, .ref (bm 8), .ref (bm 9), .ref (bm 10), .int ac, .long dn, .ref (bm 11), .ref (bm 12), .ref (bm 13), .ref (bm 14), .int hi])), ((bm 1), .inl ((km 1), 240, .inl tp)), ((bm 6), .inl ((km 6), 320, .inl (upd (upd (upd (upd (upd sq (z1).toNatClampNeg o_3) (z1 + 2).toNatClampNeg (-1)) (z1 + 3).toNatClampNeg (-1)) (z1 + 1).toNatClampNeg o_31.1) (z1 + 2).toNatClampNeg o_36.1)))] := hD
          refine lv_aload_n hx hb dX10_readStep_114 rfl (lv_at hl 1 rfl) ?_
          refine va_get (D := (dC, dI)) (ci := 10) (v := .ref (bm 6)) (C := RX10) (T := TX10) (N := 24) hx hb hts iA_10 hown hK hP 0 rfl rfl 11 (by decide) (hts (.fieldLink RX10 25 "HubTreeModel" "script" "[I") (List.mem_cons_of_mem _ m_120)) (fun _ h9 => h9) rfl dX10_readStep_115 ?_
          refine lv_iload_n hx hb dX10_readStep_118 rfl (lv_at hl 2 rfl) ?_
          refine lv_iconst (v := 3) hx hb dX10_readStep_119 (by decide) ?_
          refine lv_iadd hx hb dX10_readStep_120 ?_
          refine lv_aload_n hx hb dX10_readStep_121 rfl (lv_at hl 1 rfl) ?_
          obtain ⟨o_39, r_40, hG⟩ := q_bi hG
          refine q_goi2 (v := o_39.1) (wr := [((bm 6), .inl ((km 6), 320, .inl (upd (upd (upd (upd (upd sq (z1).toNatClampNeg o_3) (z1 + 2).toNatClampNeg (-1)) (z1 + 3).toNatClampNeg (-1)) (z1 + 1).toNatClampNeg o_31.1) (z1 + 2).toNatClampNeg o_36.1)))]) (va_runV (As := []) (rest := [.int (z1 + 3), .ref (bm 6)]) ⟨hx, hb, hml, hown, hts⟩ (c_X10_digit l dC dI bm km th tn (o_36.2.1) (o_36.2.2) rm_ mn sn ac hi dn tp (va_A [((bm 0), .inr (10, [.int th, .ref (bm 1), .int tn, .int (o_36.2.1), .int (o_36.2.2), .ref (bm 2), .ref (bm 3), .int rm_, .ref (bm 4), .ref (bm 5), .int mn, .ref (bm 6), .ref (bm 7), .int sn, .ref (bm 8), .ref (bm 9), .ref (bm 10), .int ac, .long dn, .ref (bm 11), .ref (bm 12), .ref (bm 13), .ref (bm 14), .int hi])), ((bm 1), .inl ((km 1), 240, .inl tp))] H.size) o_39 r_40) (cwV 0 hts (q_gV m_377 m_378 m_379 m_5 m_380) rfl rfl rfl hdV_yX10_digit_0 ⟨Nat.le_of_ble_eq_true rfl, Nat.le_of_ble_eq_true rfl⟩) (q_preWV hK hP hD (q := (RX10, TX10, 24)) (ci := 10) (q0 := 0) rfl rfl [0, 1] (by decide) rfl rfl [0] rfl) rfl rfl hl.1 rfl (lv_room (Nat.le_of_ble_eq_true rfl)) dX10_readStep_122 ⟨Nat.le_of_ble_eq_true rfl, Nat.le_of_ble_eq_true rfl⟩) hK hP hD hS hA [0, 1] [2] rfl rfl (by decide) (by decide) (fun _ H locs _ hP hD hK9 hS => ?_)
          have hP : va_P (dC, dI) vwCl [((bm 0), .inr (10, [.int th, .ref (bm 1), .int tn, .int (o_39.2.1), .int (o_39.2.2), .ref (bm 2), .ref (bm 3), .int rm_, .ref (bm 4), .ref (bm 5), .int mn, .ref (bm 6), .ref (bm 7), .int sn, .ref (bm 8), .ref (bm 9), .ref (bm 10), .int ac, .long dn, .ref (bm 11), .ref (bm 12), .ref (bm 13), .ref (bm 14), .int hi])), ((bm 1), .inl ((km 1), 240, .inl tp)), ((bm 6), .inl ((km 6), 320, .inl (upd (upd (upd (upd (upd sq (z1).toNatClampNeg o_3) (z1 + 2).toNatClampNeg (-1)) (z1 + 3).toNatClampNeg (-1)) (z1 + 1).toNatClampNeg o_31.1) (z1 + 2).toNatClampNeg o_36.1)))] H := hP.sub [1, 2, 0] rfl
          have hD : va_D A [((bm 0), .inr (10, [.int th, .ref (bm 1), .int tn, .int (o_39.2.1), .int (o_39.2.2), .ref (bm 2), .ref (bm 3), .int rm_, .ref (bm 4), .ref (bm 5), .int mn, .ref (bm 6), .ref (bm 7), .int sn, .ref (bm 8), .ref (bm 9), .ref (bm 10), .int ac, .long dn, .ref (bm 11), .ref (bm 12), .ref (bm 13), .ref (bm 14), .int hi])), ((bm 1), .inl ((km 1), 240, .inl tp)), ((bm 6), .inl ((km 6), 320, .inl (upd (upd (upd (upd (upd sq (z1).toNatClampNeg o_3) (z1 + 2).toNatClampNeg (-1)) (z1 + 3).toNatClampNeg (-1)) (z1 + 1).toNatClampNeg o_31.1) (z1 + 2).toNatClampNeg o_36.1)))] := hD.sub [1, 2, 0] (by decide) rfl
          obtain ⟨h_41, hG⟩ := q_ix hG
          refine va_iast hx hb hK hP hD hS 2 1 rfl rfl (i := (z1 + 3)) (x := o_39.1) h_41 dX10_readStep_125 (fun H locs hP hD hS => ?_)
          have hP : va_P (dC, dI) vwCl [((bm 0), .inr (10, [.int th, .ref (bm 1), .int tn, .int (o_39.2.1), .int (o_39.2.2), .ref (bm 2), .ref (bm 3), .int rm_, .ref (bm 4), .ref (bm 5), .int mn, .ref (bm 6), .ref (bm 7), .int sn, .ref (bm 8), .ref (bm 9), .ref (bm 10), .int ac, .long dn, .ref (bm 11), .ref (bm 12), .ref (bm 13), .ref (bm 14), .int hi])), ((bm 1), .inl ((km 1), 240, .inl tp)), ((bm 6), .inl ((km 6), 320, .inl (upd (upd (upd (upd (upd (upd sq (z1).toNatClampNeg o_3) (z1 + 2).toNatClampNeg (-1)) (z1 + 3).toNatClampNeg (-1)) (z1 + 1).toNatClampNeg o_31.1) (z1 + 2).toNatClampNeg o_36.1) (z1 + 3).toNatClampNeg o_39.1)))] H := hP
          have hD : va_D A [((bm 0), .inr (10, [.int th, .ref (bm 1), .int tn, .int (o_39.2.1), .int (o_39.2.2), .ref (bm 2), .ref (bm 3), .int rm_, .ref (bm 4), .ref (bm 5), .int mn, .ref (bm 6), .ref (bm 7), .int sn, .ref (bm 8), .ref (bm 9), .ref (bm 10), .int ac, .long dn, .ref (bm 11), .ref (bm 12), .ref (bm 13), .ref (bm 14), .int hi])), ((bm 1), .inl ((km 1), 240, .inl tp)), ((bm 6), .inl ((km 6), 320, .inl (upd (upd (upd (upd (upd (upd sq (z1).toNatClampNeg o_3) (z1 + 2).toNatClampNeg (-1)) (z1 + 3).toNatClampNeg (-1)) (z1 + 1).toNatClampNeg o_31.1) (z1 + 2).toNatClampNeg o_36.1) (z1 + 3).toNatClampNeg o_39.1)))] := hD
          obtain rfl := Option.some.inj hG
          have hP9 := hP.sub (ws' := [((bm 0), .inr (10, [.int th, .ref (bm 1), .int tn, .int (o_39.2.1), .int (o_39.2.2), .ref (bm 2), .ref (bm 3), .int rm_, .ref (bm 4), .ref (bm 5), .int mn, .ref (bm 6), .ref (bm 7), .int sn, .ref (bm 8), .ref (bm 9), .ref (bm 10), .int ac, .long dn, .ref (bm 11), .ref (bm 12), .ref (bm 13), .ref (bm 14), .int hi])), ((bm 1), .inl ((km 1), 240, .inl tp)), ((bm 6), .inl ((km 6), 320, .inl (upd (upd (upd (upd (upd (upd sq (z1).toNatClampNeg o_3) (z1 + 2).toNatClampNeg (-1)) (z1 + 3).toNatClampNeg (-1)) (z1 + 1).toNatClampNeg o_31.1) (z1 + 2).toNatClampNeg o_36.1) (z1 + 3).toNatClampNeg o_39.1)))]) [0, 1, 2] rfl
          have hD9 := hD.sub (ws' := [((bm 0), .inr (10, [.int th, .ref (bm 1), .int tn, .int (o_39.2.1), .int (o_39.2.2), .ref (bm 2), .ref (bm 3), .int rm_, .ref (bm 4), .ref (bm 5), .int mn, .ref (bm 6), .ref (bm 7), .int sn, .ref (bm 8), .ref (bm 9), .ref (bm 10), .int ac, .long dn, .ref (bm 11), .ref (bm 12), .ref (bm 13), .ref (bm 14), .int hi])), ((bm 1), .inl ((km 1), 240, .inl tp)), ((bm 6), .inl ((km 6), 320, .inl (upd (upd (upd (upd (upd (upd sq (z1).toNatClampNeg o_3) (z1 + 2).toNatClampNeg (-1)) (z1 + 3).toNatClampNeg (-1)) (z1 + 1).toNatClampNeg o_31.1) (z1 + 2).toNatClampNeg o_36.1) (z1 + 3).toNatClampNeg o_39.1)))]) [0, 1, 2] (by decide) rfl
          have hK9 := hK.sub (tys' := [((km 1), .int), ((km 6), .int)]) [0, 1] rfl
          exact W.vret hx hb hr (fun t ht hW => ⟨⟨(), rfl, trivial, by rw [ht]; exact hP9, va_K.moved hW.alike hK9, hD9⟩, hS.F ht⟩) hS.2.2 dX10_readStep_126
      · have hG := q_ifp c_34 hG
        refine lv_aload_n hx hb dX10_readStep_86 rfl (lv_at hl 1 rfl) ?_
        refine va_get (D := (dC, dI)) (ci := 10) (v := .ref (bm 6)) (C := RX10) (T := TX10) (N := 24) hx hb hts iA_10 hown hK hP 0 rfl rfl 11 (by decide) (hts (.fieldLink RX10 25 "HubTreeModel" "script" "[I") (List.mem_cons_of_mem _ m_120)) (fun _ h9 => h9) rfl dX10_readStep_87 ?_
        refine lv_iload_n hx hb dX10_readStep_90 rfl (lv_at hl 2 rfl) ?_
        refine lv_iconst (v := 2) hx hb dX10_readStep_91 (by decide) ?_
        refine lv_iadd hx hb dX10_readStep_92 ?_
        refine lv_aload_n hx hb dX10_readStep_93 rfl (lv_at hl 1 rfl) ?_
        obtain ⟨o_42, r_43, hG⟩ := q_bi hG
        refine q_goi2 (v := o_42.1) (wr := [((bm 6), .inl ((km 6), 320, .inl (upd (upd (upd (upd sq (z1).toNatClampNeg o_3) (z1 + 2).toNatClampNeg (-1)) (z1 + 3).toNatClampNeg (-1)) (z1 + 1).toNatClampNeg o_31.1)))]) (va_runV (As := []) (rest := [.int (z1 + 2), .ref (bm 6)]) ⟨hx, hb, hml, hown, hts⟩ (c_X10_digit l dC dI bm km th tn (o_31.2.1) (o_31.2.2) rm_ mn sn ac hi dn tp (va_A [((bm 0), .inr (10, [.int th, .ref (bm 1), .int tn, .int (o_31.2.1), .int (o_31.2.2), .ref (bm 2), .ref (bm 3), .int rm_, .ref (bm 4), .ref (bm 5), .int mn, .ref (bm 6), .ref (bm 7), .int sn, .ref (bm 8), .ref (bm 9), .ref (bm 10), .int ac, .long dn, .ref (bm 11), .ref (bm 12), .ref (bm 13), .ref (bm 14), .int hi])), ((bm 1), .inl ((km 1), 240, .inl tp))] H.size) o_42 r_43) (cwV 0 hts (q_gV m_377 m_378 m_379 m_5 m_380) rfl rfl rfl hdV_yX10_digit_0 ⟨Nat.le_of_ble_eq_true rfl, Nat.le_of_ble_eq_true rfl⟩) (q_preWV hK hP hD (q := (RX10, TX10, 24)) (ci := 10) (q0 := 0) rfl rfl [0, 1] (by decide) rfl rfl [0] rfl) rfl rfl hl.1 rfl (lv_room (Nat.le_of_ble_eq_true rfl)) dX10_readStep_94 ⟨Nat.le_of_ble_eq_true rfl, Nat.le_of_ble_eq_true rfl⟩) hK hP hD hS hA [0, 1] [2] rfl rfl (by decide) (by decide) (fun _ H locs _ hP hD hK9 hS => ?_)
        have hP : va_P (dC, dI) vwCl [((bm 0), .inr (10, [.int th, .ref (bm 1), .int tn, .int (o_42.2.1), .int (o_42.2.2), .ref (bm 2), .ref (bm 3), .int rm_, .ref (bm 4), .ref (bm 5), .int mn, .ref (bm 6), .ref (bm 7), .int sn, .ref (bm 8), .ref (bm 9), .ref (bm 10), .int ac, .long dn, .ref (bm 11), .ref (bm 12), .ref (bm 13), .ref (bm 14), .int hi])), ((bm 1), .inl ((km 1), 240, .inl tp)), ((bm 6), .inl ((km 6), 320, .inl (upd (upd (upd (upd sq (z1).toNatClampNeg o_3) (z1 + 2).toNatClampNeg (-1)) (z1 + 3).toNatClampNeg (-1)) (z1 + 1).toNatClampNeg o_31.1)))] H := hP.sub [1, 2, 0] rfl
        have hD : va_D A [((bm 0), .inr (10, [.int th, .ref (bm 1), .int tn, .int (o_42.2.1), .int (o_42.2.2), .ref (bm 2), .ref (bm 3), .int rm_, .ref (bm 4), .ref (bm 5), .int mn, .ref (bm 6), .ref (bm 7), .int sn, .ref (bm 8), .ref (bm 9), .ref (bm 10), .int ac, .long dn, .ref (bm 11), .ref (bm 12), .ref (bm 13), .ref (bm 14), .int hi])), ((bm 1), .inl ((km 1), 240, .inl tp)), ((bm 6), .inl ((km 6), 320, .inl (upd (upd (upd (upd sq (z1).toNatClampNeg o_3) (z1 + 2).toNatClampNeg (-1)) (z1 + 3).toNatClampNeg (-1)) (z1 + 1).toNatClampNeg o_31.1)))] := hD.sub [1, 2, 0] (by decide) rfl
        obtain ⟨h_44, hG⟩ := q_ix hG
        refine va_iast hx hb hK hP hD hS 2 1 rfl rfl (i := (z1 + 2)) (x := o_42.1) h_44 dX10_readStep_97 (fun H locs hP hD hS => ?_)
        have hP : va_P (dC, dI) vwCl [((bm 0), .inr (10, [.int th, .ref (bm 1), .int tn, .int (o_42.2.1), .int (o_42.2.2), .ref (bm 2), .ref (bm 3), .int rm_, .ref (bm 4), .ref (bm 5), .int mn, .ref (bm 6), .ref (bm 7), .int sn, .ref (bm 8), .ref (bm 9), .ref (bm 10), .int ac, .long dn, .ref (bm 11), .ref (bm 12), .ref (bm 13), .ref (bm 14), .int hi])), ((bm 1), .inl ((km 1), 240, .inl tp)), ((bm 6), .inl ((km 6), 320, .inl (upd (upd (upd (upd (upd sq (z1).toNatClampNeg o_3) (z1 + 2).toNatClampNeg (-1)) (z1 + 3).toNatClampNeg (-1)) (z1 + 1).toNatClampNeg o_31.1) (z1 + 2).toNatClampNeg o_42.1)))] H := hP
        have hD : va_D A [((bm 0), .inr (10, [.int th, .ref (bm 1), .int tn, .int (o_42.2.1), .int (o_42.2.2), .ref (bm 2), .ref (bm 3), .int rm_, .ref (bm 4), .ref (bm 5), .int mn, .ref (bm 6), .ref (bm 7), .int sn, .ref (bm 8), .ref (bm 9), .ref (bm 10), .int ac, .long dn, .ref (bm 11), .ref (bm 12), .ref (bm 13), .ref (bm 14), .int hi])), ((bm 1), .inl ((km 1), 240, .inl tp)), ((bm 6), .inl ((km 6), 320, .inl (upd (upd (upd (upd (upd sq (z1).toNatClampNeg o_3) (z1 + 2).toNatClampNeg (-1)) (z1 + 3).toNatClampNeg (-1)) (z1 + 1).toNatClampNeg o_31.1) (z1 + 2).toNatClampNeg o_42.1)))] := hD
        refine lv_iload_n hx hb dX10_readStep_98 rfl (lv_at hl 0 rfl) ?_
        refine lv_if_ne (tgt := 126) hx hb dX10_readStep_99 (by decide) (fun c_45 => ?_) (fun c_45 => ?_)
        · have hG := q_ifn c_45 hG
          obtain rfl := Option.some.inj hG
          have hP9 := hP.sub (ws' := [((bm 0), .inr (10, [.int th, .ref (bm 1), .int tn, .int (o_42.2.1), .int (o_42.2.2), .ref (bm 2), .ref (bm 3), .int rm_, .ref (bm 4), .ref (bm 5), .int mn, .ref (bm 6), .ref (bm 7), .int sn, .ref (bm 8), .ref (bm 9), .ref (bm 10), .int ac, .long dn, .ref (bm 11), .ref (bm 12), .ref (bm 13), .ref (bm 14), .int hi])), ((bm 1), .inl ((km 1), 240, .inl tp)), ((bm 6), .inl ((km 6), 320, .inl (upd (upd (upd (upd (upd sq (z1).toNatClampNeg o_3) (z1 + 2).toNatClampNeg (-1)) (z1 + 3).toNatClampNeg (-1)) (z1 + 1).toNatClampNeg o_31.1) (z1 + 2).toNatClampNeg o_42.1)))]) [0, 1, 2] rfl
          have hD9 := hD.sub (ws' := [((bm 0), .inr (10, [.int th, .ref (bm 1), .int tn, .int (o_42.2.1), .int (o_42.2.2), .ref (bm 2), .ref (bm 3), .int rm_, .ref (bm 4), .ref (bm 5), .int mn, .ref (bm 6), .ref (bm 7), .int sn, .ref (bm 8), .ref (bm 9), .ref (bm 10), .int ac, .long dn, .ref (bm 11), .ref (bm 12), .ref (bm 13), .ref (bm 14), .int hi])), ((bm 1), .inl ((km 1), 240, .inl tp)), ((bm 6), .inl ((km 6), 320, .inl (upd (upd (upd (upd (upd sq (z1).toNatClampNeg o_3) (z1 + 2).toNatClampNeg (-1)) (z1 + 3).toNatClampNeg (-1)) (z1 + 1).toNatClampNeg o_31.1) (z1 + 2).toNatClampNeg o_42.1)))]) [0, 1, 2] (by decide) rfl
          have hK9 := hK.sub (tys' := [((km 1), .int), ((km 6), .int)]) [0, 1] rfl
          exact W.vret hx hb hr (fun t ht hW => ⟨⟨(), rfl, trivial, by rw [ht]; exact hP9, va_K.moved hW.alike hK9, hD9⟩, hS.F ht⟩) hS.2.2 dX10_readStep_126
        · have hG := q_ifp c_45 hG
          refine lv_aload_n hx hb dX10_readStep_102 rfl (lv_at hl 1 rfl) ?_
          refine va_get (D := (dC, dI)) (ci := 10) (v := .ref (bm 6)) (C := RX10) (T := TX10) (N := 24) hx hb hts iA_10 hown hK hP 0 rfl rfl 11 (by decide) (hts (.fieldLink RX10 25 "HubTreeModel" "script" "[I") (List.mem_cons_of_mem _ m_120)) (fun _ h9 => h9) rfl dX10_readStep_103 ?_
          refine lv_iload_n hx hb dX10_readStep_106 rfl (lv_at hl 2 rfl) ?_
          refine lv_iconst (v := 2) hx hb dX10_readStep_107 (by decide) ?_
          refine lv_iadd hx hb dX10_readStep_108 ?_
          refine lv_aload_n hx hb dX10_readStep_109 rfl (lv_at hl 1 rfl) ?_
          obtain ⟨o_46, r_47, hG⟩ := q_bi hG
          refine q_goi2 (v := o_46.1) (wr := [((bm 6), .inl ((km 6), 320, .inl (upd (upd (upd (upd (upd sq (z1).toNatClampNeg o_3) (z1 + 2).toNatClampNeg (-1)) (z1 + 3).toNatClampNeg (-1)) (z1 + 1).toNatClampNeg o_31.1) (z1 + 2).toNatClampNeg o_42.1)))]) (va_runV (As := []) (rest := [.int (z1 + 2), .ref (bm 6)]) ⟨hx, hb, hml, hown, hts⟩ (c_X10_digit l dC dI bm km th tn (o_42.2.1) (o_42.2.2) rm_ mn sn ac hi dn tp (va_A [((bm 0), .inr (10, [.int th, .ref (bm 1), .int tn, .int (o_42.2.1), .int (o_42.2.2), .ref (bm 2), .ref (bm 3), .int rm_, .ref (bm 4), .ref (bm 5), .int mn, .ref (bm 6), .ref (bm 7), .int sn, .ref (bm 8), .ref (bm 9), .ref (bm 10), .int ac, .long dn, .ref (bm 11), .ref (bm 12), .ref (bm 13), .ref (bm 14), .int hi])), ((bm 1), .inl ((km 1), 240, .inl tp))] H.size) o_46 r_47) (cwV 0 hts (q_gV m_377 m_378 m_379 m_5 m_380) rfl rfl rfl hdV_yX10_digit_0 ⟨Nat.le_of_ble_eq_true rfl, Nat.le_of_ble_eq_true rfl⟩) (q_preWV hK hP hD (q := (RX10, TX10, 24)) (ci := 10) (q0 := 0) rfl rfl [0, 1] (by decide) rfl rfl [0] rfl) rfl rfl hl.1 rfl (lv_room (Nat.le_of_ble_eq_true rfl)) dX10_readStep_110 ⟨Nat.le_of_ble_eq_true rfl, Nat.le_of_ble_eq_true rfl⟩) hK hP hD hS hA [0, 1] [2] rfl rfl (by decide) (by decide) (fun _ H locs _ hP hD hK9 hS => ?_)
          have hP : va_P (dC, dI) vwCl [((bm 0), .inr (10, [.int th, .ref (bm 1), .int tn, .int (o_46.2.1), .int (o_46.2.2), .ref (bm 2), .ref (bm 3), .int rm_, .ref (bm 4), .ref (bm 5), .int mn, .ref (bm 6), .ref (bm 7), .int sn, .ref (bm 8), .ref (bm 9), .ref (bm 10), .int ac, .long dn, .ref (bm 11), .ref (bm 12), .ref (bm 13), .ref (bm 14), .int hi])), ((bm 1), .inl ((km 1), 240, .inl tp)), ((bm 6), .inl ((km 6), 320, .inl (upd (upd (upd (upd (upd sq (z1).toNatClampNeg o_3) (z1 + 2).toNatClampNeg (-1)) (z1 + 3).toNatClampNeg (-1)) (z1 + 1).toNatClampNeg o_31.1) (z1 + 2).toNatClampNeg o_42.1)))] H := hP.sub [1, 2, 0] rfl
          have hD : va_D A [((bm 0), .inr (10, [.int th, .ref (bm 1), .int tn, .int (o_46.2.1), .int (o_46.2.2), .ref (bm 2), .ref (bm 3), .int rm_, .ref (bm 4), .ref (bm 5), .int mn, .ref (bm 6), .ref (bm 7), .int sn, .ref (bm 8), .ref (bm 9), .ref (bm 10), .int ac, .long dn, .ref (bm 11), .ref (bm 12), .ref (bm 13), .ref (bm 14), .int hi])), ((bm 1), .inl ((km 1), 240, .inl tp)), ((bm 6), .inl ((km 6), 320, .inl (upd (upd (upd (upd (upd sq (z1).toNatClampNeg o_3) (z1 + 2).toNatClampNeg (-1)) (z1 + 3).toNatClampNeg (-1)) (z1 + 1).toNatClampNeg o_31.1) (z1 + 2).toNatClampNeg o_42.1)))] := hD.sub [1, 2, 0] (by decide) rfl
          obtain ⟨h_48, hG⟩ := q_ix hG
          refine va_iast hx hb hK hP hD hS 2 1 rfl rfl (i := (z1 + 2)) (x := o_46.1) h_48 dX10_readStep_113 (fun H locs hP hD hS => ?_)
          have hP : va_P (dC, dI) vwCl [((bm 0), .inr (10, [.int th, .ref (bm 1), .int tn, .int (o_46.2.1), .int (o_46.2.2), .ref (bm 2), .ref (bm 3), .int rm_, .ref (bm 4), .ref (bm 5), .int mn, .ref (bm 6), .ref (bm 7), .int sn, .ref (bm 8), .ref (bm 9), .ref (bm 10), .int ac, .long dn, .ref (bm 11), .ref (bm 12), .ref (bm 13), .ref (bm 14), .int hi])), ((bm 1), .inl ((km 1), 240, .inl tp)), ((bm 6), .inl ((km 6), 320, .inl (upd (upd (upd (upd (upd (upd sq (z1).toNatClampNeg o_3) (z1 + 2).toNatClampNeg (-1)) (z1 + 3).toNatClampNeg (-1)) (z1 + 1).toNatClampNeg o_31.1) (z1 + 2).toNatClampNeg o_42.1) (z1 + 2).toNatClampNeg o_46.1)))] H := hP
          have hD : va_D A [((bm 0), .inr (10, [.int th, .ref (bm 1), .int tn, .int (o_46.2.1), .int (o_46.2.2), .ref (bm 2), .ref (bm 3), .int rm_, .ref (bm 4), .ref (bm 5), .int mn, .ref (bm 6), .ref (bm 7), .int sn, .ref (bm 8), .ref (bm 9), .ref (bm 10), .int ac, .long dn, .ref (bm 11), .ref (bm 12), .ref (bm 13), .ref (bm 14), .int hi])), ((bm 1), .inl ((km 1), 240, .inl tp)), ((bm 6), .inl ((km 6), 320, .inl (upd (upd (upd (upd (upd (upd sq (z1).toNatClampNeg o_3) (z1 + 2).toNatClampNeg (-1)) (z1 + 3).toNatClampNeg (-1)) (z1 + 1).toNatClampNeg o_31.1) (z1 + 2).toNatClampNeg o_42.1) (z1 + 2).toNatClampNeg o_46.1)))] := hD
          refine lv_aload_n hx hb dX10_readStep_114 rfl (lv_at hl 1 rfl) ?_
          refine va_get (D := (dC, dI)) (ci := 10) (v := .ref (bm 6)) (C := RX10) (T := TX10) (N := 24) hx hb hts iA_10 hown hK hP 0 rfl rfl 11 (by decide) (hts (.fieldLink RX10 25 "HubTreeModel" "script" "[I") (List.mem_cons_of_mem _ m_120)) (fun _ h9 => h9) rfl dX10_readStep_115 ?_
          refine lv_iload_n hx hb dX10_readStep_118 rfl (lv_at hl 2 rfl) ?_
          refine lv_iconst (v := 3) hx hb dX10_readStep_119 (by decide) ?_
          refine lv_iadd hx hb dX10_readStep_120 ?_
          refine lv_aload_n hx hb dX10_readStep_121 rfl (lv_at hl 1 rfl) ?_
          obtain ⟨o_49, r_50, hG⟩ := q_bi hG
          refine q_goi2 (v := o_49.1) (wr := [((bm 6), .inl ((km 6), 320, .inl (upd (upd (upd (upd (upd (upd sq (z1).toNatClampNeg o_3) (z1 + 2).toNatClampNeg (-1)) (z1 + 3).toNatClampNeg (-1)) (z1 + 1).toNatClampNeg o_31.1) (z1 + 2).toNatClampNeg o_42.1) (z1 + 2).toNatClampNeg o_46.1)))]) (va_runV (As := []) (rest := [.int (z1 + 3), .ref (bm 6)]) ⟨hx, hb, hml, hown, hts⟩ (c_X10_digit l dC dI bm km th tn (o_46.2.1) (o_46.2.2) rm_ mn sn ac hi dn tp (va_A [((bm 0), .inr (10, [.int th, .ref (bm 1), .int tn, .int (o_46.2.1), .int (o_46.2.2), .ref (bm 2), .ref (bm 3), .int rm_, .ref (bm 4), .ref (bm 5), .int mn, .ref (bm 6), .ref (bm 7), .int sn, .ref (bm 8), .ref (bm 9), .ref (bm 10), .int ac, .long dn, .ref (bm 11), .ref (bm 12), .ref (bm 13), .ref (bm 14), .int hi])), ((bm 1), .inl ((km 1), 240, .inl tp))] H.size) o_49 r_50) (cwV 0 hts (q_gV m_377 m_378 m_379 m_5 m_380) rfl rfl rfl hdV_yX10_digit_0 ⟨Nat.le_of_ble_eq_true rfl, Nat.le_of_ble_eq_true rfl⟩) (q_preWV hK hP hD (q := (RX10, TX10, 24)) (ci := 10) (q0 := 0) rfl rfl [0, 1] (by decide) rfl rfl [0] rfl) rfl rfl hl.1 rfl (lv_room (Nat.le_of_ble_eq_true rfl)) dX10_readStep_122 ⟨Nat.le_of_ble_eq_true rfl, Nat.le_of_ble_eq_true rfl⟩) hK hP hD hS hA [0, 1] [2] rfl rfl (by decide) (by decide) (fun _ H locs _ hP hD hK9 hS => ?_)
          have hP : va_P (dC, dI) vwCl [((bm 0), .inr (10, [.int th, .ref (bm 1), .int tn, .int (o_49.2.1), .int (o_49.2.2), .ref (bm 2), .ref (bm 3), .int rm_, .ref (bm 4), .ref (bm 5), .int mn, .ref (bm 6), .ref (bm 7), .int sn, .ref (bm 8), .ref (bm 9), .ref (bm 10), .int ac, .long dn, .ref (bm 11), .ref (bm 12), .ref (bm 13), .ref (bm 14), .int hi])), ((bm 1), .inl ((km 1), 240, .inl tp)), ((bm 6), .inl ((km 6), 320, .inl (upd (upd (upd (upd (upd (upd sq (z1).toNatClampNeg o_3) (z1 + 2).toNatClampNeg (-1)) (z1 + 3).toNatClampNeg (-1)) (z1 + 1).toNatClampNeg o_31.1) (z1 + 2).toNatClampNeg o_42.1) (z1 + 2).toNatClampNeg o_46.1)))] H := hP.sub [1, 2, 0] rfl
          have hD : va_D A [((bm 0), .inr (10, [.int th, .ref (bm 1), .int tn, .int (o_49.2.1), .int (o_49.2.2), .ref (bm 2), .ref (bm 3), .int rm_, .ref (bm 4), .ref (bm 5), .int mn, .ref (bm 6), .ref (bm 7), .int sn, .ref (bm 8), .ref (bm 9), .ref (bm 10), .int ac, .long dn, .ref (bm 11), .ref (bm 12), .ref (bm 13), .ref (bm 14), .int hi])), ((bm 1), .inl ((km 1), 240, .inl tp)), ((bm 6), .inl ((km 6), 320, .inl (upd (upd (upd (upd (upd (upd sq (z1).toNatClampNeg o_3) (z1 + 2).toNatClampNeg (-1)) (z1 + 3).toNatClampNeg (-1)) (z1 + 1).toNatClampNeg o_31.1) (z1 + 2).toNatClampNeg o_42.1) (z1 + 2).toNatClampNeg o_46.1)))] := hD.sub [1, 2, 0] (by decide) rfl
          obtain ⟨h_51, hG⟩ := q_ix hG
          refine va_iast hx hb hK hP hD hS 2 1 rfl rfl (i := (z1 + 3)) (x := o_49.1) h_51 dX10_readStep_125 (fun H locs hP hD hS => ?_)
          have hP : va_P (dC, dI) vwCl [((bm 0), .inr (10, [.int th, .ref (bm 1), .int tn, .int (o_49.2.1), .int (o_49.2.2), .ref (bm 2), .ref (bm 3), .int rm_, .ref (bm 4), .ref (bm 5), .int mn, .ref (bm 6), .ref (bm 7), .int sn, .ref (bm 8), .ref (bm 9), .ref (bm 10), .int ac, .long dn, .ref (bm 11), .ref (bm 12), .ref (bm 13), .ref (bm 14), .int hi])), ((bm 1), .inl ((km 1), 240, .inl tp)), ((bm 6), .inl ((km 6), 320, .inl (upd (upd (upd (upd (upd (upd (upd sq (z1).toNatClampNeg o_3) (z1 + 2).toNatClampNeg (-1)) (z1 + 3).toNatClampNeg (-1)) (z1 + 1).toNatClampNeg o_31.1) (z1 + 2).toNatClampNeg o_42.1) (z1 + 2).toNatClampNeg o_46.1) (z1 + 3).toNatClampNeg o_49.1)))] H := hP
          have hD : va_D A [((bm 0), .inr (10, [.int th, .ref (bm 1), .int tn, .int (o_49.2.1), .int (o_49.2.2), .ref (bm 2), .ref (bm 3), .int rm_, .ref (bm 4), .ref (bm 5), .int mn, .ref (bm 6), .ref (bm 7), .int sn, .ref (bm 8), .ref (bm 9), .ref (bm 10), .int ac, .long dn, .ref (bm 11), .ref (bm 12), .ref (bm 13), .ref (bm 14), .int hi])), ((bm 1), .inl ((km 1), 240, .inl tp)), ((bm 6), .inl ((km 6), 320, .inl (upd (upd (upd (upd (upd (upd (upd sq (z1).toNatClampNeg o_3) (z1 + 2).toNatClampNeg (-1)) (z1 + 3).toNatClampNeg (-1)) (z1 + 1).toNatClampNeg o_31.1) (z1 + 2).toNatClampNeg o_42.1) (z1 + 2).toNatClampNeg o_46.1) (z1 + 3).toNatClampNeg o_49.1)))] := hD
          obtain rfl := Option.some.inj hG
          have hP9 := hP.sub (ws' := [((bm 0), .inr (10, [.int th, .ref (bm 1), .int tn, .int (o_49.2.1), .int (o_49.2.2), .ref (bm 2), .ref (bm 3), .int rm_, .ref (bm 4), .ref (bm 5), .int mn, .ref (bm 6), .ref (bm 7), .int sn, .ref (bm 8), .ref (bm 9), .ref (bm 10), .int ac, .long dn, .ref (bm 11), .ref (bm 12), .ref (bm 13), .ref (bm 14), .int hi])), ((bm 1), .inl ((km 1), 240, .inl tp)), ((bm 6), .inl ((km 6), 320, .inl (upd (upd (upd (upd (upd (upd (upd sq (z1).toNatClampNeg o_3) (z1 + 2).toNatClampNeg (-1)) (z1 + 3).toNatClampNeg (-1)) (z1 + 1).toNatClampNeg o_31.1) (z1 + 2).toNatClampNeg o_42.1) (z1 + 2).toNatClampNeg o_46.1) (z1 + 3).toNatClampNeg o_49.1)))]) [0, 1, 2] rfl
          have hD9 := hD.sub (ws' := [((bm 0), .inr (10, [.int th, .ref (bm 1), .int tn, .int (o_49.2.1), .int (o_49.2.2), .ref (bm 2), .ref (bm 3), .int rm_, .ref (bm 4), .ref (bm 5), .int mn, .ref (bm 6), .ref (bm 7), .int sn, .ref (bm 8), .ref (bm 9), .ref (bm 10), .int ac, .long dn, .ref (bm 11), .ref (bm 12), .ref (bm 13), .ref (bm 14), .int hi])), ((bm 1), .inl ((km 1), 240, .inl tp)), ((bm 6), .inl ((km 6), 320, .inl (upd (upd (upd (upd (upd (upd (upd sq (z1).toNatClampNeg o_3) (z1 + 2).toNatClampNeg (-1)) (z1 + 3).toNatClampNeg (-1)) (z1 + 1).toNatClampNeg o_31.1) (z1 + 2).toNatClampNeg o_42.1) (z1 + 2).toNatClampNeg o_46.1) (z1 + 3).toNatClampNeg o_49.1)))]) [0, 1, 2] (by decide) rfl
          have hK9 := hK.sub (tys' := [((km 1), .int), ((km 6), .int)]) [0, 1] rfl
          exact W.vret hx hb hr (fun t ht hW => ⟨⟨(), rfl, trivial, by rw [ht]; exact hP9, va_K.moved hW.alike hK9, hD9⟩, hS.F ht⟩) hS.2.2 dX10_readStep_126
  · have hG := q_ifp c_5 hG
    refine lv_aload_n hx hb dX10_readStep_13 rfl (lv_at hl 1 rfl) ?_
    obtain ⟨o_52, r_53, hG⟩ := q_bi hG
    refine q_gov2 (wr := [((bm 1), .inl ((km 1), 240, .inl tp)), ((bm 6), .inl ((km 6), 320, .inl sq))]) (va_runV (As := []) (rest := []) ⟨hx, hb, hml, hown, hts⟩ (c_X10_bad l dC dI bm km th tn (o_1.2) wr rm_ mn sn ac hi dn (va_A [((bm 0), .inr (10, [.int th, .ref (bm 1), .int tn, .int (o_1.2), .int wr, .ref (bm 2), .ref (bm 3), .int rm_, .ref (bm 4), .ref (bm 5), .int mn, .ref (bm 6), .ref (bm 7), .int sn, .ref (bm 8), .ref (bm 9), .ref (bm 10), .int ac, .long dn, .ref (bm 11), .ref (bm 12), .ref (bm 13), .ref (bm 14), .int hi]))] H.size) o_52 r_53) (cwV 0 hts (q_gV m_362 m_363 m_364 m_5 m_365) rfl rfl rfl hdV_yX10_bad_0 ⟨Nat.le_of_ble_eq_true rfl, Nat.le_of_ble_eq_true rfl⟩) (q_preWV hK hP hD (q := (RX10, TX10, 24)) (ci := 10) (q0 := 0) rfl rfl [0] (by decide) rfl rfl [] rfl) rfl rfl hl.1 rfl (lv_room (Nat.le_of_ble_eq_true rfl)) dX10_readStep_14 ⟨Nat.le_of_ble_eq_true rfl, Nat.le_of_ble_eq_true rfl⟩) hK hP hD hS hA [0] [1, 2] rfl rfl (by decide) (by decide) (fun _ H locs _ hP hD hK9 hS => ?_)
    have hP : va_P (dC, dI) vwCl [((bm 0), .inr (10, [.int th, .ref (bm 1), .int tn, .int (o_1.2), .int (o_52), .ref (bm 2), .ref (bm 3), .int rm_, .ref (bm 4), .ref (bm 5), .int mn, .ref (bm 6), .ref (bm 7), .int sn, .ref (bm 8), .ref (bm 9), .ref (bm 10), .int ac, .long dn, .ref (bm 11), .ref (bm 12), .ref (bm 13), .ref (bm 14), .int hi])), ((bm 1), .inl ((km 1), 240, .inl tp)), ((bm 6), .inl ((km 6), 320, .inl sq))] H := hP.sub [2, 0, 1] rfl
    have hD : va_D A [((bm 0), .inr (10, [.int th, .ref (bm 1), .int tn, .int (o_1.2), .int (o_52), .ref (bm 2), .ref (bm 3), .int rm_, .ref (bm 4), .ref (bm 5), .int mn, .ref (bm 6), .ref (bm 7), .int sn, .ref (bm 8), .ref (bm 9), .ref (bm 10), .int ac, .long dn, .ref (bm 11), .ref (bm 12), .ref (bm 13), .ref (bm 14), .int hi])), ((bm 1), .inl ((km 1), 240, .inl tp)), ((bm 6), .inl ((km 6), 320, .inl sq))] := hD.sub [2, 0, 1] (by decide) rfl
    obtain rfl := Option.some.inj hG
    have hP9 := hP.sub (ws' := [((bm 0), .inr (10, [.int th, .ref (bm 1), .int tn, .int (o_1.2), .int (o_52), .ref (bm 2), .ref (bm 3), .int rm_, .ref (bm 4), .ref (bm 5), .int mn, .ref (bm 6), .ref (bm 7), .int sn, .ref (bm 8), .ref (bm 9), .ref (bm 10), .int ac, .long dn, .ref (bm 11), .ref (bm 12), .ref (bm 13), .ref (bm 14), .int hi])), ((bm 1), .inl ((km 1), 240, .inl tp)), ((bm 6), .inl ((km 6), 320, .inl sq))]) [0, 1, 2] rfl
    have hD9 := hD.sub (ws' := [((bm 0), .inr (10, [.int th, .ref (bm 1), .int tn, .int (o_1.2), .int (o_52), .ref (bm 2), .ref (bm 3), .int rm_, .ref (bm 4), .ref (bm 5), .int mn, .ref (bm 6), .ref (bm 7), .int sn, .ref (bm 8), .ref (bm 9), .ref (bm 10), .int ac, .long dn, .ref (bm 11), .ref (bm 12), .ref (bm 13), .ref (bm 14), .int hi])), ((bm 1), .inl ((km 1), 240, .inl tp)), ((bm 6), .inl ((km 6), 320, .inl sq))]) [0, 1, 2] (by decide) rfl
    have hK9 := hK.sub (tys' := [((km 1), .int), ((km 6), .int)]) [0, 1] rfl
    exact W.vret hx hb hr (fun t ht hW => ⟨⟨(), rfl, trivial, by rw [ht]; exact hP9, va_K.moved hW.alike hK9, hD9⟩, hS.F ht⟩) hS.2.2 dX10_readStep_17

def FL_X10_readScript_19 (tn : Int32) (at_ : Int32) (wr : Int32) (tp : Nat → Int32) (sq : Nat → Int32) (sl : Nat → Int32) (z1 : Int32) : Nat → Int32 → (Int32) → (Int32) → (Nat → Int32) → (Nat → Int32) → Option (Int32 × Int32 × Int32 × (Nat → Int32) × (Nat → Int32))
  | 0, _, _, _, _, _ => none
  | n + 1, x2_19, at__c, wr_c, sq_c, sl_c => (if x2_19 = 0 then (if wr_c = (-1) then ((F_X10_ahead tn at__c tp).bind fun o_4 => (if o_4.1 = (-1) then some (wr_c, (o_4.2), wr_c, sq_c, sl_c) else ((F_X10_bad (o_4.2) wr_c).bind fun o_7 => some ((o_7), (o_4.2), (o_7), sq_c, sl_c)))) else some (wr_c, at__c, wr_c, sq_c, sl_c)) else (if z1 < 0 ∨ 5 ≤ (z1).toNatClampNeg then none else ((F_X10_readStep tn at__c wr_c tp sq_c (4 * ((16 * z1) + (sl_c (z1).toNatClampNeg)))).bind fun o_10 => (if z1 < 0 ∨ 5 ≤ (z1).toNatClampNeg then none else (if z1 < 0 ∨ 5 ≤ (z1).toNatClampNeg then none else (if (o_10.2.1) = (-1) then ((F_X10_ahead tn (o_10.1) tp).bind fun o_16 => (if o_16.1 = 59 then (if z1 < 0 ∨ 5 ≤ (z1).toNatClampNeg then none else (if 16 ≤ ((upd sl_c (z1).toNatClampNeg ((sl_c (z1).toNatClampNeg) + 1)) (z1).toNatClampNeg) then (FL_X10_readScript_19 tn at_ wr tp sq sl z1 n 0 ((o_16.2) + 0) (o_10.2.1) (o_10.2.2) (upd sl_c (z1).toNatClampNeg ((sl_c (z1).toNatClampNeg) + 1))) else (FL_X10_readScript_19 tn at_ wr tp sq sl z1 n 1 ((o_16.2) + 1) (o_10.2.1) (o_10.2.2) (upd sl_c (z1).toNatClampNeg ((sl_c (z1).toNatClampNeg) + 1))))) else (FL_X10_readScript_19 tn at_ wr tp sq sl z1 n 0 ((o_16.2) + 0) (o_10.2.1) (o_10.2.2) (upd sl_c (z1).toNatClampNeg ((sl_c (z1).toNatClampNeg) + 1))))) else (FL_X10_readScript_19 tn at_ wr tp sq sl z1 n 0 ((o_10.1) + 0) (o_10.2.1) (o_10.2.2) (upd sl_c (z1).toNatClampNeg ((sl_c (z1).toNatClampNeg) + 1)))))))))

def F_X10_readScript (tn : Int32) (at_ : Int32) (wr : Int32) (tp : Nat → Int32) (sq : Nat → Int32) (sl : Nat → Int32) (z1 : Int32) : Option (Int32 × Int32 × Int32 × (Nat → Int32) × (Nat → Int32)) := (if z1 < 0 ∨ 5 ≤ (z1).toNatClampNeg then none else (FL_X10_readScript_19 tn at_ wr tp sq sl z1 1000 1 0 (-1) sq (upd sl (z1).toNatClampNeg 0)))
set_option maxHeartbeats 4000000 in
set_option maxRecDepth 100000 in
theorem c_X10_readScript (l : Launch) (dC : Nat → ClassId) (dI : Nat → Nat → Nat) (bm : Nat → Nat) (km : Nat → ClassId) (th : Int32) (tn : Int32) (at_ : Int32) (wr : Int32) (rm_ : Int32) (mn : Int32) (sn : Int32) (ac : Int32) (hi : Int32) (dn : Int64) (tp : Nat → Int32) (sq : Nat → Int32) (sl : Nat → Int32) (z1 : Int32) (A : Nat → Prop) (o : Int32 × Int32 × Int32 × (Nat → Int32) × (Nat → Int32)) (hG : F_X10_readScript tn at_ wr tp sq sl z1 = some o) : Met l yX10_readScript (.code yX10_readScript cX10_readScript 3 (some .int) :: wA) ({ frames := 4, cells := 0, slots := 0, locals := 87 }) (va_Pc [.ref (bm 0), .int z1] (q_W (dC, dI) A [((bm 0), .inr (10, [.int th, .ref (bm 1), .int tn, .int at_, .int wr, .ref (bm 2), .ref (bm 3), .int rm_, .ref (bm 4), .ref (bm 5), .int mn, .ref (bm 6), .ref (bm 7), .int sn, .ref (bm 8), .ref (bm 9), .ref (bm 10), .int ac, .long dn, .ref (bm 11), .ref (bm 12), .ref (bm 13), .ref (bm 14), .int hi])), ((bm 1), .inl ((km 1), 240, .inl tp)), ((bm 6), .inl ((km 6), 320, .inl sq)), ((bm 7), .inl ((km 7), 5, .inl sl))] [((km 1), .int), ((km 6), .int), ((km 7), .int)])) (va_Qi (fun (r : Int32) (_ : Unit) => r = o.1 ∧ True) (fun (_ : Unit) t => q_B (dC, dI) A [((bm 0), .inr (10, [.int th, .ref (bm 1), .int tn, .int (o.2.1), .int (o.2.2.1), .ref (bm 2), .ref (bm 3), .int rm_, .ref (bm 4), .ref (bm 5), .int mn, .ref (bm 6), .ref (bm 7), .int sn, .ref (bm 8), .ref (bm 9), .ref (bm 10), .int ac, .long dn, .ref (bm 11), .ref (bm 12), .ref (bm 13), .ref (bm 14), .int hi])), ((bm 1), .inl ((km 1), 240, .inl tp)), ((bm 6), .inl ((km 6), 320, .inl (o.2.2.2.1))), ((bm 7), .inl ((km 7), 5, .inl (o.2.2.2.2)))] [((km 1), .int), ((km 6), .int), ((km 7), .int)] t) A) 0 0 A := by
  refine Met.ofW (cc := cX10_readScript) (maxL := 3) (ret := (some .int)) (by decide) rfl ?_
  intro p e s m args below meth c s₁ B hml hv
  obtain ⟨rfl, hP, hK, hD, hA⟩ := hv
  have hx := B.exec
  have hb := B.bytes
  have hr := B.returns
  have hts := atoms_spec (ws := .code yX10_readScript cX10_readScript 3 (some .int) :: wA) B.pre
  have hown : s.vm.findClass RX10 = some m.cls := findClass_of_methodNamed B.named
  have hlocks := B.notSynchronized
  have hS : va_S A s.heap s.heap [] := va_S.rf
  have hl := lv_entry ([.ref (bm 0), .int z1]) (n := 3) (Nat.le_of_ble_eq_true rfl)
  rw [lg_entry_eq]
  generalize (lg_sl ([.ref (bm 0), .int z1]) ++ List.replicate (3 - (lg_sl ([.ref (bm 0), .int z1])).length) Slot.unset).toArray = ls at hl ⊢
  have hl : lv_has ls 3 [(0, .ref (bm 0)), (1, .int z1)] := hl
  unfold F_X10_readScript at hG
  refine lv_aload_n hx hb dX10_readScript_0 rfl (lv_at hl 0 rfl) ?_
  refine lv_iconst (v := 0) hx hb dX10_readScript_1 (by decide) ?_
  refine va_put (D := (dC, dI)) (ci := 10) (v := .int 0) (ty := .int) (C := RX10) (T := TX10) (N := 24) hx hb hts iA_10 tyX10 tyX10_ok nmX10 hown hK hP hD hS 0 rfl rfl 3 (by decide) (hts (.fieldLink RX10 67 "HubTreeModel" "at" "I") (List.mem_cons_of_mem _ m_325)) (fun _ h9 => h9) rfl (by decide +kernel) rfl rfl (Nat.le_of_ble_eq_true rfl) dX10_readScript_2 (fun H locs hP hD hS => ?_)
  have hP : va_P (dC, dI) vwCl [((bm 0), .inr (10, [.int th, .ref (bm 1), .int tn, .int 0, .int wr, .ref (bm 2), .ref (bm 3), .int rm_, .ref (bm 4), .ref (bm 5), .int mn, .ref (bm 6), .ref (bm 7), .int sn, .ref (bm 8), .ref (bm 9), .ref (bm 10), .int ac, .long dn, .ref (bm 11), .ref (bm 12), .ref (bm 13), .ref (bm 14), .int hi])), ((bm 1), .inl ((km 1), 240, .inl tp)), ((bm 6), .inl ((km 6), 320, .inl sq)), ((bm 7), .inl ((km 7), 5, .inl sl))] H := hP
  have hD : va_D A [((bm 0), .inr (10, [.int th, .ref (bm 1), .int tn, .int 0, .int wr, .ref (bm 2), .ref (bm 3), .int rm_, .ref (bm 4), .ref (bm 5), .int mn, .ref (bm 6), .ref (bm 7), .int sn, .ref (bm 8), .ref (bm 9), .ref (bm 10), .int ac, .long dn, .ref (bm 11), .ref (bm 12), .ref (bm 13), .ref (bm 14), .int hi])), ((bm 1), .inl ((km 1), 240, .inl tp)), ((bm 6), .inl ((km 6), 320, .inl sq)), ((bm 7), .inl ((km 7), 5, .inl sl))] := hD
  refine lv_aload_n hx hb dX10_readScript_5 rfl (lv_at hl 0 rfl) ?_
  refine lv_iconst (v := (-1)) hx hb dX10_readScript_6 (by decide) ?_
  refine va_put (D := (dC, dI)) (ci := 10) (v := .int (-1)) (ty := .int) (C := RX10) (T := TX10) (N := 24) hx hb hts iA_10 tyX10 tyX10_ok nmX10 hown hK hP hD hS 0 rfl rfl 4 (by decide) (hts (.fieldLink RX10 74 "HubTreeModel" "wrong" "I") (List.mem_cons_of_mem _ m_326)) (fun _ h9 => h9) rfl (by decide +kernel) rfl rfl (Nat.le_of_ble_eq_true rfl) dX10_readScript_7 (fun H locs hP hD hS => ?_)
  have hP : va_P (dC, dI) vwCl [((bm 0), .inr (10, [.int th, .ref (bm 1), .int tn, .int 0, .int (-1), .ref (bm 2), .ref (bm 3), .int rm_, .ref (bm 4), .ref (bm 5), .int mn, .ref (bm 6), .ref (bm 7), .int sn, .ref (bm 8), .ref (bm 9), .ref (bm 10), .int ac, .long dn, .ref (bm 11), .ref (bm 12), .ref (bm 13), .ref (bm 14), .int hi])), ((bm 1), .inl ((km 1), 240, .inl tp)), ((bm 6), .inl ((km 6), 320, .inl sq)), ((bm 7), .inl ((km 7), 5, .inl sl))] H := hP
  have hD : va_D A [((bm 0), .inr (10, [.int th, .ref (bm 1), .int tn, .int 0, .int (-1), .ref (bm 2), .ref (bm 3), .int rm_, .ref (bm 4), .ref (bm 5), .int mn, .ref (bm 6), .ref (bm 7), .int sn, .ref (bm 8), .ref (bm 9), .ref (bm 10), .int ac, .long dn, .ref (bm 11), .ref (bm 12), .ref (bm 13), .ref (bm 14), .int hi])), ((bm 1), .inl ((km 1), 240, .inl tp)), ((bm 6), .inl ((km 6), 320, .inl sq)), ((bm 7), .inl ((km 7), 5, .inl sl))] := hD
  refine lv_aload_n hx hb dX10_readScript_10 rfl (lv_at hl 0 rfl) ?_
  refine va_get (D := (dC, dI)) (ci := 10) (v := .ref (bm 7)) (C := RX10) (T := TX10) (N := 24) hx hb hts iA_10 hown hK hP 0 rfl rfl 12 (by decide) (hts (.fieldLink RX10 28 "HubTreeModel" "scriptLong" "[I") (List.mem_cons_of_mem _ m_121)) (fun _ h9 => h9) rfl dX10_readScript_11 ?_
  refine lv_iload_n hx hb dX10_readScript_14 rfl (lv_at hl 1 rfl) ?_
  refine lv_iconst (v := 0) hx hb dX10_readScript_15 (by decide) ?_
  obtain ⟨h_1, hG⟩ := q_ix hG
  refine va_iast hx hb hK hP hD hS 3 2 rfl rfl (i := z1) (x := 0) h_1 dX10_readScript_16 (fun H locs hP hD hS => ?_)
  have hP : va_P (dC, dI) vwCl [((bm 0), .inr (10, [.int th, .ref (bm 1), .int tn, .int 0, .int (-1), .ref (bm 2), .ref (bm 3), .int rm_, .ref (bm 4), .ref (bm 5), .int mn, .ref (bm 6), .ref (bm 7), .int sn, .ref (bm 8), .ref (bm 9), .ref (bm 10), .int ac, .long dn, .ref (bm 11), .ref (bm 12), .ref (bm 13), .ref (bm 14), .int hi])), ((bm 1), .inl ((km 1), 240, .inl tp)), ((bm 6), .inl ((km 6), 320, .inl sq)), ((bm 7), .inl ((km 7), 5, .inl (upd sl (z1).toNatClampNeg 0)))] H := hP
  have hD : va_D A [((bm 0), .inr (10, [.int th, .ref (bm 1), .int tn, .int 0, .int (-1), .ref (bm 2), .ref (bm 3), .int rm_, .ref (bm 4), .ref (bm 5), .int mn, .ref (bm 6), .ref (bm 7), .int sn, .ref (bm 8), .ref (bm 9), .ref (bm 10), .int ac, .long dn, .ref (bm 11), .ref (bm 12), .ref (bm 13), .ref (bm 14), .int hi])), ((bm 1), .inl ((km 1), 240, .inl tp)), ((bm 6), .inl ((km 6), 320, .inl sq)), ((bm 7), .inl ((km 7), 5, .inl (upd sl (z1).toNatClampNeg 0)))] := hD
  refine lv_iconst (v := 1) hx hb dX10_readScript_17 (by decide) ?_
  refine lv_istore_n (lv' := [(2, .int 1), (0, .ref (bm 0)), (1, .int z1)]) hx hb dX10_readScript_18 rfl hl (by decide) rfl (fun ls hl => ?_)
  have L_19 : ∀ (n_19 : Nat) (x2_19 : Int32) (at__c : Int32) (wr_c : Int32) (sq_c : Nat → Int32) (sl_c : Nat → Int32) (H : Heap) (locs : List Loc) (ls : Array Slot), FL_X10_readScript_19 tn at_ wr tp sq sl z1 n_19 x2_19 at__c wr_c sq_c sl_c = some o → va_P (dC, dI) vwCl [((bm 0), .inr (10, [.int th, .ref (bm 1), .int tn, .int at__c, .int wr_c, .ref (bm 2), .ref (bm 3), .int rm_, .ref (bm 4), .ref (bm 5), .int mn, .ref (bm 6), .ref (bm 7), .int sn, .ref (bm 8), .ref (bm 9), .ref (bm 10), .int ac, .long dn, .ref (bm 11), .ref (bm 12), .ref (bm 13), .ref (bm 14), .int hi])), ((bm 1), .inl ((km 1), 240, .inl tp)), ((bm 6), .inl ((km 6), 320, .inl sq_c)), ((bm 7), .inl ((km 7), 5, .inl sl_c))] H → va_D A [((bm 0), .inr (10, [.int th, .ref (bm 1), .int tn, .int at__c, .int wr_c, .ref (bm 2), .ref (bm 3), .int rm_, .ref (bm 4), .ref (bm 5), .int mn, .ref (bm 6), .ref (bm 7), .int sn, .ref (bm 8), .ref (bm 9), .ref (bm 10), .int ac, .long dn, .ref (bm 11), .ref (bm 12), .ref (bm 13), .ref (bm 14), .int hi])), ((bm 1), .inl ((km 1), 240, .inl tp)), ((bm 6), .inl ((km 6), 320, .inl sq_c)), ((bm 7), .inl ((km 7), 5, .inl sl_c))] → va_S A s.heap H locs → lv_has ls 3 [(2, .int x2_19), (0, .ref (bm 0)), (1, .int z1)] → W p l e (headSpec (.code yX10_readScript cX10_readScript 3 (some .int) :: wA) ({ frames := 4, cells := 0, slots := 0, locals := 87 })).room s m #[.ref (bm 0), .int z1] below meth c H locs 0 0 (MQ below (va_Qi (fun (r : Int32) (_ : Unit) => r = o.1 ∧ True) (fun (_ : Unit) t => q_B (dC, dI) A [((bm 0), .inr (10, [.int th, .ref (bm 1), .int tn, .int (o.2.1), .int (o.2.2.1), .ref (bm 2), .ref (bm 3), .int rm_, .ref (bm 4), .ref (bm 5), .int mn, .ref (bm 6), .ref (bm 7), .int sn, .ref (bm 8), .ref (bm 9), .ref (bm 10), .int ac, .long dn, .ref (bm 11), .ref (bm 12), .ref (bm 13), .ref (bm 14), .int hi])), ((bm 1), .inl ((km 1), 240, .inl tp)), ((bm 6), .inl ((km 6), 320, .inl (o.2.2.2.1))), ((bm 7), .inl ((km 7), 5, .inl (o.2.2.2.2)))] [((km 1), .int), ((km 6), .int), ((km 7), .int)] t) A) #[.ref (bm 0), .int z1] s 0 0 A) (F0 m 19 ls []) := by
    intro n_19
    induction n_19 with
    | zero =>
      intro x2_19 at__c wr_c sq_c sl_c H locs ls hG
      exact q_no hG
    | succ n_19 ih_19 =>
      intro x2_19 at__c wr_c sq_c sl_c H locs ls hG hP hD hS hl
      unfold FL_X10_readScript_19 at hG
      refine lv_iload_n hx hb dX10_readScript_19 rfl (lv_at hl 0 rfl) ?_
      refine lv_if_eq (tgt := 105) hx hb dX10_readScript_20 (by decide) (fun c_2 => ?_) (fun c_2 => ?_)
      · have hG := q_ifp c_2 hG
        refine lv_aload_n hx hb dX10_readScript_105 rfl (lv_at hl 1 rfl) ?_
        refine va_get (D := (dC, dI)) (ci := 10) (v := .int wr_c) (C := RX10) (T := TX10) (N := 24) hx hb hts iA_10 hown hK hP 0 rfl rfl 4 (by decide) (hts (.fieldLink RX10 74 "HubTreeModel" "wrong" "I") (List.mem_cons_of_mem _ m_326)) (fun _ h9 => h9) rfl dX10_readScript_106 ?_
        refine lv_iconst (v := (-1)) hx hb dX10_readScript_109 (by decide) ?_
        refine lv_icmp_ne (tgt := 125) hx hb dX10_readScript_110 (by decide) (fun c_3 => ?_) (fun c_3 => ?_)
        · have hG := q_ifn c_3 hG
          refine lv_aload_n hx hb dX10_readScript_125 rfl (lv_at hl 1 rfl) ?_
          refine va_get (D := (dC, dI)) (ci := 10) (v := .int wr_c) (C := RX10) (T := TX10) (N := 24) hx hb hts iA_10 hown hK hP 0 rfl rfl 4 (by decide) (hts (.fieldLink RX10 74 "HubTreeModel" "wrong" "I") (List.mem_cons_of_mem _ m_326)) (fun _ h9 => h9) rfl dX10_readScript_126 ?_
          obtain rfl := Option.some.inj hG
          have hP9 := hP.sub (ws' := [((bm 0), .inr (10, [.int th, .ref (bm 1), .int tn, .int at__c, .int wr_c, .ref (bm 2), .ref (bm 3), .int rm_, .ref (bm 4), .ref (bm 5), .int mn, .ref (bm 6), .ref (bm 7), .int sn, .ref (bm 8), .ref (bm 9), .ref (bm 10), .int ac, .long dn, .ref (bm 11), .ref (bm 12), .ref (bm 13), .ref (bm 14), .int hi])), ((bm 1), .inl ((km 1), 240, .inl tp)), ((bm 6), .inl ((km 6), 320, .inl sq_c)), ((bm 7), .inl ((km 7), 5, .inl sl_c))]) [0, 1, 2, 3] rfl
          have hD9 := hD.sub (ws' := [((bm 0), .inr (10, [.int th, .ref (bm 1), .int tn, .int at__c, .int wr_c, .ref (bm 2), .ref (bm 3), .int rm_, .ref (bm 4), .ref (bm 5), .int mn, .ref (bm 6), .ref (bm 7), .int sn, .ref (bm 8), .ref (bm 9), .ref (bm 10), .int ac, .long dn, .ref (bm 11), .ref (bm 12), .ref (bm 13), .ref (bm 14), .int hi])), ((bm 1), .inl ((km 1), 240, .inl tp)), ((bm 6), .inl ((km 6), 320, .inl sq_c)), ((bm 7), .inl ((km 7), 5, .inl sl_c))]) [0, 1, 2, 3] (by decide) rfl
          have hK9 := hK.sub (tys' := [((km 1), .int), ((km 6), .int), ((km 7), .int)]) [0, 1, 2] rfl
          exact W.iret (v := wr_c) hx hb hr (fun t ht hW => ⟨⟨wr_c, (), rfl, ⟨rfl, trivial⟩, by rw [ht]; exact hP9, va_K.moved hW.alike hK9, hD9⟩, hS.F ht⟩) hS.2.2 dX10_readScript_129
        · have hG := q_ifp c_3 hG
          refine lv_aload_n hx hb dX10_readScript_113 rfl (lv_at hl 1 rfl) ?_
          obtain ⟨o_4, r_5, hG⟩ := q_bi hG
          refine q_goi2 (v := o_4.1) (wr := [((bm 6), .inl ((km 6), 320, .inl sq_c)), ((bm 7), .inl ((km 7), 5, .inl sl_c))]) (va_runV (As := []) (rest := []) ⟨hx, hb, hml, hown, hts⟩ (c_X10_ahead l dC dI bm km th tn at__c wr_c rm_ mn sn ac hi dn tp (va_A [((bm 0), .inr (10, [.int th, .ref (bm 1), .int tn, .int at__c, .int wr_c, .ref (bm 2), .ref (bm 3), .int rm_, .ref (bm 4), .ref (bm 5), .int mn, .ref (bm 6), .ref (bm 7), .int sn, .ref (bm 8), .ref (bm 9), .ref (bm 10), .int ac, .long dn, .ref (bm 11), .ref (bm 12), .ref (bm 13), .ref (bm 14), .int hi])), ((bm 1), .inl ((km 1), 240, .inl tp))] H.size) o_4 r_5) (cwV 0 hts (q_gV m_331 m_332 m_333 m_5 m_334) rfl rfl rfl hdV_yX10_ahead_0 ⟨Nat.le_of_ble_eq_true rfl, Nat.le_of_ble_eq_true rfl⟩) (q_preWV hK hP hD (q := (RX10, TX10, 24)) (ci := 10) (q0 := 0) rfl rfl [0, 1] (by decide) rfl rfl [0] rfl) rfl rfl hl.1 rfl (lv_room (Nat.le_of_ble_eq_true rfl)) dX10_readScript_114 ⟨Nat.le_of_ble_eq_true rfl, Nat.le_of_ble_eq_true rfl⟩) hK hP hD hS hA [0, 1] [2, 3] rfl rfl (by decide) (by decide) (fun _ H locs _ hP hD hK9 hS => ?_)
          have hP : va_P (dC, dI) vwCl [((bm 0), .inr (10, [.int th, .ref (bm 1), .int tn, .int (o_4.2), .int wr_c, .ref (bm 2), .ref (bm 3), .int rm_, .ref (bm 4), .ref (bm 5), .int mn, .ref (bm 6), .ref (bm 7), .int sn, .ref (bm 8), .ref (bm 9), .ref (bm 10), .int ac, .long dn, .ref (bm 11), .ref (bm 12), .ref (bm 13), .ref (bm 14), .int hi])), ((bm 1), .inl ((km 1), 240, .inl tp)), ((bm 6), .inl ((km 6), 320, .inl sq_c)), ((bm 7), .inl ((km 7), 5, .inl sl_c))] H := hP.sub [2, 3, 0, 1] rfl
          have hD : va_D A [((bm 0), .inr (10, [.int th, .ref (bm 1), .int tn, .int (o_4.2), .int wr_c, .ref (bm 2), .ref (bm 3), .int rm_, .ref (bm 4), .ref (bm 5), .int mn, .ref (bm 6), .ref (bm 7), .int sn, .ref (bm 8), .ref (bm 9), .ref (bm 10), .int ac, .long dn, .ref (bm 11), .ref (bm 12), .ref (bm 13), .ref (bm 14), .int hi])), ((bm 1), .inl ((km 1), 240, .inl tp)), ((bm 6), .inl ((km 6), 320, .inl sq_c)), ((bm 7), .inl ((km 7), 5, .inl sl_c))] := hD.sub [2, 3, 0, 1] (by decide) rfl
          refine lv_iconst (v := (-1)) hx hb dX10_readScript_117 (by decide) ?_
          refine lv_icmp_eq (tgt := 125) hx hb dX10_readScript_118 (by decide) (fun c_6 => ?_) (fun c_6 => ?_)
          · have hG := q_ifp c_6 hG
            refine lv_aload_n hx hb dX10_readScript_125 rfl (lv_at hl 1 rfl) ?_
            refine va_get (D := (dC, dI)) (ci := 10) (v := .int wr_c) (C := RX10) (T := TX10) (N := 24) hx hb hts iA_10 hown hK hP 0 rfl rfl 4 (by decide) (hts (.fieldLink RX10 74 "HubTreeModel" "wrong" "I") (List.mem_cons_of_mem _ m_326)) (fun _ h9 => h9) rfl dX10_readScript_126 ?_
            obtain rfl := Option.some.inj hG
            have hP9 := hP.sub (ws' := [((bm 0), .inr (10, [.int th, .ref (bm 1), .int tn, .int (o_4.2), .int wr_c, .ref (bm 2), .ref (bm 3), .int rm_, .ref (bm 4), .ref (bm 5), .int mn, .ref (bm 6), .ref (bm 7), .int sn, .ref (bm 8), .ref (bm 9), .ref (bm 10), .int ac, .long dn, .ref (bm 11), .ref (bm 12), .ref (bm 13), .ref (bm 14), .int hi])), ((bm 1), .inl ((km 1), 240, .inl tp)), ((bm 6), .inl ((km 6), 320, .inl sq_c)), ((bm 7), .inl ((km 7), 5, .inl sl_c))]) [0, 1, 2, 3] rfl
            have hD9 := hD.sub (ws' := [((bm 0), .inr (10, [.int th, .ref (bm 1), .int tn, .int (o_4.2), .int wr_c, .ref (bm 2), .ref (bm 3), .int rm_, .ref (bm 4), .ref (bm 5), .int mn, .ref (bm 6), .ref (bm 7), .int sn, .ref (bm 8), .ref (bm 9), .ref (bm 10), .int ac, .long dn, .ref (bm 11), .ref (bm 12), .ref (bm 13), .ref (bm 14), .int hi])), ((bm 1), .inl ((km 1), 240, .inl tp)), ((bm 6), .inl ((km 6), 320, .inl sq_c)), ((bm 7), .inl ((km 7), 5, .inl sl_c))]) [0, 1, 2, 3] (by decide) rfl
            have hK9 := hK.sub (tys' := [((km 1), .int), ((km 6), .int), ((km 7), .int)]) [0, 1, 2] rfl
            exact W.iret (v := wr_c) hx hb hr (fun t ht hW => ⟨⟨wr_c, (), rfl, ⟨rfl, trivial⟩, by rw [ht]; exact hP9, va_K.moved hW.alike hK9, hD9⟩, hS.F ht⟩) hS.2.2 dX10_readScript_129
          · have hG := q_ifn c_6 hG
            refine lv_aload_n hx hb dX10_readScript_121 rfl (lv_at hl 1 rfl) ?_
            obtain ⟨o_7, r_8, hG⟩ := q_bi hG
            refine q_gov2 (wr := [((bm 1), .inl ((km 1), 240, .inl tp)), ((bm 6), .inl ((km 6), 320, .inl sq_c)), ((bm 7), .inl ((km 7), 5, .inl sl_c))]) (va_runV (As := []) (rest := []) ⟨hx, hb, hml, hown, hts⟩ (c_X10_bad l dC dI bm km th tn (o_4.2) wr_c rm_ mn sn ac hi dn (va_A [((bm 0), .inr (10, [.int th, .ref (bm 1), .int tn, .int (o_4.2), .int wr_c, .ref (bm 2), .ref (bm 3), .int rm_, .ref (bm 4), .ref (bm 5), .int mn, .ref (bm 6), .ref (bm 7), .int sn, .ref (bm 8), .ref (bm 9), .ref (bm 10), .int ac, .long dn, .ref (bm 11), .ref (bm 12), .ref (bm 13), .ref (bm 14), .int hi]))] H.size) o_7 r_8) (cwV 0 hts (q_gV m_362 m_363 m_364 m_5 m_365) rfl rfl rfl hdV_yX10_bad_0 ⟨Nat.le_of_ble_eq_true rfl, Nat.le_of_ble_eq_true rfl⟩) (q_preWV hK hP hD (q := (RX10, TX10, 24)) (ci := 10) (q0 := 0) rfl rfl [0] (by decide) rfl rfl [] rfl) rfl rfl hl.1 rfl (lv_room (Nat.le_of_ble_eq_true rfl)) dX10_readScript_122 ⟨Nat.le_of_ble_eq_true rfl, Nat.le_of_ble_eq_true rfl⟩) hK hP hD hS hA [0] [1, 2, 3] rfl rfl (by decide) (by decide) (fun _ H locs _ hP hD hK9 hS => ?_)
            have hP : va_P (dC, dI) vwCl [((bm 0), .inr (10, [.int th, .ref (bm 1), .int tn, .int (o_4.2), .int (o_7), .ref (bm 2), .ref (bm 3), .int rm_, .ref (bm 4), .ref (bm 5), .int mn, .ref (bm 6), .ref (bm 7), .int sn, .ref (bm 8), .ref (bm 9), .ref (bm 10), .int ac, .long dn, .ref (bm 11), .ref (bm 12), .ref (bm 13), .ref (bm 14), .int hi])), ((bm 1), .inl ((km 1), 240, .inl tp)), ((bm 6), .inl ((km 6), 320, .inl sq_c)), ((bm 7), .inl ((km 7), 5, .inl sl_c))] H := hP.sub [3, 0, 1, 2] rfl
            have hD : va_D A [((bm 0), .inr (10, [.int th, .ref (bm 1), .int tn, .int (o_4.2), .int (o_7), .ref (bm 2), .ref (bm 3), .int rm_, .ref (bm 4), .ref (bm 5), .int mn, .ref (bm 6), .ref (bm 7), .int sn, .ref (bm 8), .ref (bm 9), .ref (bm 10), .int ac, .long dn, .ref (bm 11), .ref (bm 12), .ref (bm 13), .ref (bm 14), .int hi])), ((bm 1), .inl ((km 1), 240, .inl tp)), ((bm 6), .inl ((km 6), 320, .inl sq_c)), ((bm 7), .inl ((km 7), 5, .inl sl_c))] := hD.sub [3, 0, 1, 2] (by decide) rfl
            refine lv_aload_n hx hb dX10_readScript_125 rfl (lv_at hl 1 rfl) ?_
            refine va_get (D := (dC, dI)) (ci := 10) (v := .int (o_7)) (C := RX10) (T := TX10) (N := 24) hx hb hts iA_10 hown hK hP 0 rfl rfl 4 (by decide) (hts (.fieldLink RX10 74 "HubTreeModel" "wrong" "I") (List.mem_cons_of_mem _ m_326)) (fun _ h9 => h9) rfl dX10_readScript_126 ?_
            obtain rfl := Option.some.inj hG
            have hP9 := hP.sub (ws' := [((bm 0), .inr (10, [.int th, .ref (bm 1), .int tn, .int (o_4.2), .int (o_7), .ref (bm 2), .ref (bm 3), .int rm_, .ref (bm 4), .ref (bm 5), .int mn, .ref (bm 6), .ref (bm 7), .int sn, .ref (bm 8), .ref (bm 9), .ref (bm 10), .int ac, .long dn, .ref (bm 11), .ref (bm 12), .ref (bm 13), .ref (bm 14), .int hi])), ((bm 1), .inl ((km 1), 240, .inl tp)), ((bm 6), .inl ((km 6), 320, .inl sq_c)), ((bm 7), .inl ((km 7), 5, .inl sl_c))]) [0, 1, 2, 3] rfl
            have hD9 := hD.sub (ws' := [((bm 0), .inr (10, [.int th, .ref (bm 1), .int tn, .int (o_4.2), .int (o_7), .ref (bm 2), .ref (bm 3), .int rm_, .ref (bm 4), .ref (bm 5), .int mn, .ref (bm 6), .ref (bm 7), .int sn, .ref (bm 8), .ref (bm 9), .ref (bm 10), .int ac, .long dn, .ref (bm 11), .ref (bm 12), .ref (bm 13), .ref (bm 14), .int hi])), ((bm 1), .inl ((km 1), 240, .inl tp)), ((bm 6), .inl ((km 6), 320, .inl sq_c)), ((bm 7), .inl ((km 7), 5, .inl sl_c))]) [0, 1, 2, 3] (by decide) rfl
            have hK9 := hK.sub (tys' := [((km 1), .int), ((km 6), .int), ((km 7), .int)]) [0, 1, 2] rfl
            exact W.iret (v := (o_7)) hx hb hr (fun t ht hW => ⟨⟨(o_7), (), rfl, ⟨rfl, trivial⟩, by rw [ht]; exact hP9, va_K.moved hW.alike hK9, hD9⟩, hS.F ht⟩) hS.2.2 dX10_readScript_129
      · have hG := q_ifn c_2 hG
        refine lv_aload_n hx hb dX10_readScript_23 rfl (lv_at hl 1 rfl) ?_
        refine lv_iconst (v := 4) hx hb dX10_readScript_24 (by decide) ?_
        refine lv_bipush (v := 16) hx hb dX10_readScript_25 (by decide) ?_
        refine lv_iload_n hx hb dX10_readScript_27 rfl (lv_at hl 2 rfl) ?_
        refine lv_imul hx hb dX10_readScript_28 ?_
        refine lv_aload_n hx hb dX10_readScript_29 rfl (lv_at hl 1 rfl) ?_
        refine va_get (D := (dC, dI)) (ci := 10) (v := .ref (bm 7)) (C := RX10) (T := TX10) (N := 24) hx hb hts iA_10 hown hK hP 0 rfl rfl 12 (by decide) (hts (.fieldLink RX10 28 "HubTreeModel" "scriptLong" "[I") (List.mem_cons_of_mem _ m_121)) (fun _ h9 => h9) rfl dX10_readScript_30 ?_
        refine lv_iload_n hx hb dX10_readScript_33 rfl (lv_at hl 2 rfl) ?_
        obtain ⟨h_9, hG⟩ := q_ix hG
        refine va_iald hx hb hK hP 3 2 rfl rfl (i := z1) h_9 dX10_readScript_34 ?_
        refine q_top (y := (sl_c (z1).toNatClampNeg)) rfl ?_
        refine lv_iadd hx hb dX10_readScript_35 ?_
        refine lv_imul hx hb dX10_readScript_36 ?_
        obtain ⟨o_10, r_11, hG⟩ := q_bi hG
        refine q_gov2 (wr := [((bm 7), .inl ((km 7), 5, .inl sl_c))]) (va_runV (As := [.int (4 * ((16 * z1) + (sl_c (z1).toNatClampNeg)))]) (rest := []) ⟨hx, hb, hml, hown, hts⟩ (c_X10_readStep l dC dI bm km th tn at__c wr_c rm_ mn sn ac hi dn tp sq_c (4 * ((16 * z1) + (sl_c (z1).toNatClampNeg))) (va_A [((bm 0), .inr (10, [.int th, .ref (bm 1), .int tn, .int at__c, .int wr_c, .ref (bm 2), .ref (bm 3), .int rm_, .ref (bm 4), .ref (bm 5), .int mn, .ref (bm 6), .ref (bm 7), .int sn, .ref (bm 8), .ref (bm 9), .ref (bm 10), .int ac, .long dn, .ref (bm 11), .ref (bm 12), .ref (bm 13), .ref (bm 14), .int hi])), ((bm 1), .inl ((km 1), 240, .inl tp)), ((bm 6), .inl ((km 6), 320, .inl sq_c))] H.size) o_10 r_11) (cwV 1 hts (q_gV m_370 m_371 m_372 m_5 m_373) rfl rfl rfl hdV_yX10_readStep_1 ⟨Nat.le_of_ble_eq_true rfl, Nat.le_of_ble_eq_true rfl⟩) (q_preWV hK hP hD (q := (RX10, TX10, 24)) (ci := 10) (q0 := 0) rfl rfl [0, 1, 2] (by decide) rfl rfl [0, 1] rfl) rfl rfl hl.1 rfl (lv_room (Nat.le_of_ble_eq_true rfl)) dX10_readScript_37 ⟨Nat.le_of_ble_eq_true rfl, Nat.le_of_ble_eq_true rfl⟩) hK hP hD hS hA [0, 1, 2] [3] rfl rfl (by decide) (by decide) (fun _ H locs _ hP hD hK9 hS => ?_)
        have hP : va_P (dC, dI) vwCl [((bm 0), .inr (10, [.int th, .ref (bm 1), .int tn, .int (o_10.1), .int (o_10.2.1), .ref (bm 2), .ref (bm 3), .int rm_, .ref (bm 4), .ref (bm 5), .int mn, .ref (bm 6), .ref (bm 7), .int sn, .ref (bm 8), .ref (bm 9), .ref (bm 10), .int ac, .long dn, .ref (bm 11), .ref (bm 12), .ref (bm 13), .ref (bm 14), .int hi])), ((bm 1), .inl ((km 1), 240, .inl tp)), ((bm 6), .inl ((km 6), 320, .inl (o_10.2.2))), ((bm 7), .inl ((km 7), 5, .inl sl_c))] H := hP.sub [1, 2, 3, 0] rfl
        have hD : va_D A [((bm 0), .inr (10, [.int th, .ref (bm 1), .int tn, .int (o_10.1), .int (o_10.2.1), .ref (bm 2), .ref (bm 3), .int rm_, .ref (bm 4), .ref (bm 5), .int mn, .ref (bm 6), .ref (bm 7), .int sn, .ref (bm 8), .ref (bm 9), .ref (bm 10), .int ac, .long dn, .ref (bm 11), .ref (bm 12), .ref (bm 13), .ref (bm 14), .int hi])), ((bm 1), .inl ((km 1), 240, .inl tp)), ((bm 6), .inl ((km 6), 320, .inl (o_10.2.2))), ((bm 7), .inl ((km 7), 5, .inl sl_c))] := hD.sub [1, 2, 3, 0] (by decide) rfl
        refine lv_aload_n hx hb dX10_readScript_40 rfl (lv_at hl 1 rfl) ?_
        refine va_get (D := (dC, dI)) (ci := 10) (v := .ref (bm 7)) (C := RX10) (T := TX10) (N := 24) hx hb hts iA_10 hown hK hP 0 rfl rfl 12 (by decide) (hts (.fieldLink RX10 28 "HubTreeModel" "scriptLong" "[I") (List.mem_cons_of_mem _ m_121)) (fun _ h9 => h9) rfl dX10_readScript_41 ?_
        refine lv_iload_n hx hb dX10_readScript_44 rfl (lv_at hl 2 rfl) ?_
        refine lv_dup2_11 hx hb dX10_readScript_45 rfl rfl ?_
        obtain ⟨h_12, hG⟩ := q_ix hG
        refine va_iald hx hb hK hP 3 2 rfl rfl (i := z1) h_12 dX10_readScript_46 ?_
        refine q_top (y := (sl_c (z1).toNatClampNeg)) rfl ?_
        refine lv_iconst (v := 1) hx hb dX10_readScript_47 (by decide) ?_
        refine lv_iadd hx hb dX10_readScript_48 ?_
        obtain ⟨h_13, hG⟩ := q_ix hG
        refine va_iast hx hb hK hP hD hS 3 2 rfl rfl (i := z1) (x := ((sl_c (z1).toNatClampNeg) + 1)) h_13 dX10_readScript_49 (fun H locs hP hD hS => ?_)
        have hP : va_P (dC, dI) vwCl [((bm 0), .inr (10, [.int th, .ref (bm 1), .int tn, .int (o_10.1), .int (o_10.2.1), .ref (bm 2), .ref (bm 3), .int rm_, .ref (bm 4), .ref (bm 5), .int mn, .ref (bm 6), .ref (bm 7), .int sn, .ref (bm 8), .ref (bm 9), .ref (bm 10), .int ac, .long dn, .ref (bm 11), .ref (bm 12), .ref (bm 13), .ref (bm 14), .int hi])), ((bm 1), .inl ((km 1), 240, .inl tp)), ((bm 6), .inl ((km 6), 320, .inl (o_10.2.2))), ((bm 7), .inl ((km 7), 5, .inl (upd sl_c (z1).toNatClampNeg ((sl_c (z1).toNatClampNeg) + 1))))] H := hP
        have hD : va_D A [((bm 0), .inr (10, [.int th, .ref (bm 1), .int tn, .int (o_10.1), .int (o_10.2.1), .ref (bm 2), .ref (bm 3), .int rm_, .ref (bm 4), .ref (bm 5), .int mn, .ref (bm 6), .ref (bm 7), .int sn, .ref (bm 8), .ref (bm 9), .ref (bm 10), .int ac, .long dn, .ref (bm 11), .ref (bm 12), .ref (bm 13), .ref (bm 14), .int hi])), ((bm 1), .inl ((km 1), 240, .inl tp)), ((bm 6), .inl ((km 6), 320, .inl (o_10.2.2))), ((bm 7), .inl ((km 7), 5, .inl (upd sl_c (z1).toNatClampNeg ((sl_c (z1).toNatClampNeg) + 1))))] := hD
        refine lv_aload_n hx hb dX10_readScript_50 rfl (lv_at hl 1 rfl) ?_
        refine va_get (D := (dC, dI)) (ci := 10) (v := .int (o_10.2.1)) (C := RX10) (T := TX10) (N := 24) hx hb hts iA_10 hown hK hP 0 rfl rfl 4 (by decide) (hts (.fieldLink RX10 74 "HubTreeModel" "wrong" "I") (List.mem_cons_of_mem _ m_326)) (fun _ h9 => h9) rfl dX10_readScript_51 ?_
        refine lv_iconst (v := (-1)) hx hb dX10_readScript_54 (by decide) ?_
        refine lv_icmp_ne (tgt := 82) hx hb dX10_readScript_55 (by decide) (fun c_14 => ?_) (fun c_14 => ?_)
        · have hG := q_ifn c_14 hG
          refine lv_iconst (v := 0) hx hb dX10_readScript_82 (by decide) ?_
          refine lv_istore_n (lv' := [(2, .int 0), (0, .ref (bm 0)), (1, .int z1)]) hx hb dX10_readScript_83 rfl hl (by decide) rfl (fun ls hl => ?_)
          refine lv_aload_n hx hb dX10_readScript_84 rfl (lv_at hl 1 rfl) ?_
          refine lv_dup hx hb dX10_readScript_85 rfl ?_
          refine va_get (D := (dC, dI)) (ci := 10) (v := .int (o_10.1)) (C := RX10) (T := TX10) (N := 24) hx hb hts iA_10 hown hK hP 0 rfl rfl 3 (by decide) (hts (.fieldLink RX10 67 "HubTreeModel" "at" "I") (List.mem_cons_of_mem _ m_325)) (fun _ h9 => h9) rfl dX10_readScript_86 ?_
          refine lv_iload_n hx hb dX10_readScript_89 rfl (lv_at hl 0 rfl) ?_
          refine lv_if_eq (tgt := 97) hx hb dX10_readScript_90 (by decide) (fun c_15 => ?_) (fun c_15 => ?_)
          rotate_left
          · exact absurd (by decide) c_15
          refine lv_iconst (v := 0) hx hb dX10_readScript_97 (by decide) ?_
          refine lv_iadd hx hb dX10_readScript_98 ?_
          refine va_put (D := (dC, dI)) (ci := 10) (v := .int ((o_10.1) + 0)) (ty := .int) (C := RX10) (T := TX10) (N := 24) hx hb hts iA_10 tyX10 tyX10_ok nmX10 hown hK hP hD hS 0 rfl rfl 3 (by decide) (hts (.fieldLink RX10 67 "HubTreeModel" "at" "I") (List.mem_cons_of_mem _ m_325)) (fun _ h9 => h9) rfl (by decide +kernel) rfl rfl (Nat.le_of_ble_eq_true rfl) dX10_readScript_99 (fun H locs hP hD hS => ?_)
          have hP : va_P (dC, dI) vwCl [((bm 0), .inr (10, [.int th, .ref (bm 1), .int tn, .int ((o_10.1) + 0), .int (o_10.2.1), .ref (bm 2), .ref (bm 3), .int rm_, .ref (bm 4), .ref (bm 5), .int mn, .ref (bm 6), .ref (bm 7), .int sn, .ref (bm 8), .ref (bm 9), .ref (bm 10), .int ac, .long dn, .ref (bm 11), .ref (bm 12), .ref (bm 13), .ref (bm 14), .int hi])), ((bm 1), .inl ((km 1), 240, .inl tp)), ((bm 6), .inl ((km 6), 320, .inl (o_10.2.2))), ((bm 7), .inl ((km 7), 5, .inl (upd sl_c (z1).toNatClampNeg ((sl_c (z1).toNatClampNeg) + 1))))] H := hP
          have hD : va_D A [((bm 0), .inr (10, [.int th, .ref (bm 1), .int tn, .int ((o_10.1) + 0), .int (o_10.2.1), .ref (bm 2), .ref (bm 3), .int rm_, .ref (bm 4), .ref (bm 5), .int mn, .ref (bm 6), .ref (bm 7), .int sn, .ref (bm 8), .ref (bm 9), .ref (bm 10), .int ac, .long dn, .ref (bm 11), .ref (bm 12), .ref (bm 13), .ref (bm 14), .int hi])), ((bm 1), .inl ((km 1), 240, .inl tp)), ((bm 6), .inl ((km 6), 320, .inl (o_10.2.2))), ((bm 7), .inl ((km 7), 5, .inl (upd sl_c (z1).toNatClampNeg ((sl_c (z1).toNatClampNeg) + 1))))] := hD
          refine lv_goto (tgt := 19) hx hb dX10_readScript_102 (by decide) ?_
          exact ih_19 0 ((o_10.1) + 0) (o_10.2.1) (o_10.2.2) (upd sl_c (z1).toNatClampNeg ((sl_c (z1).toNatClampNeg) + 1)) H locs ls hG hP hD hS (lv_sub hl [0, 1, 2] rfl)
        · have hG := q_ifp c_14 hG
          refine lv_aload_n hx hb dX10_readScript_58 rfl (lv_at hl 1 rfl) ?_
          obtain ⟨o_16, r_17, hG⟩ := q_bi hG
          refine q_goi2 (v := o_16.1) (wr := [((bm 6), .inl ((km 6), 320, .inl (o_10.2.2))), ((bm 7), .inl ((km 7), 5, .inl (upd sl_c (z1).toNatClampNeg ((sl_c (z1).toNatClampNeg) + 1))))]) (va_runV (As := []) (rest := []) ⟨hx, hb, hml, hown, hts⟩ (c_X10_ahead l dC dI bm km th tn (o_10.1) (o_10.2.1) rm_ mn sn ac hi dn tp (va_A [((bm 0), .inr (10, [.int th, .ref (bm 1), .int tn, .int (o_10.1), .int (o_10.2.1), .ref (bm 2), .ref (bm 3), .int rm_, .ref (bm 4), .ref (bm 5), .int mn, .ref (bm 6), .ref (bm 7), .int sn, .ref (bm 8), .ref (bm 9), .ref (bm 10), .int ac, .long dn, .ref (bm 11), .ref (bm 12), .ref (bm 13), .ref (bm 14), .int hi])), ((bm 1), .inl ((km 1), 240, .inl tp))] H.size) o_16 r_17) (cwV 0 hts (q_gV m_331 m_332 m_333 m_5 m_334) rfl rfl rfl hdV_yX10_ahead_0 ⟨Nat.le_of_ble_eq_true rfl, Nat.le_of_ble_eq_true rfl⟩) (q_preWV hK hP hD (q := (RX10, TX10, 24)) (ci := 10) (q0 := 0) rfl rfl [0, 1] (by decide) rfl rfl [0] rfl) rfl rfl hl.1 rfl (lv_room (Nat.le_of_ble_eq_true rfl)) dX10_readScript_59 ⟨Nat.le_of_ble_eq_true rfl, Nat.le_of_ble_eq_true rfl⟩) hK hP hD hS hA [0, 1] [2, 3] rfl rfl (by decide) (by decide) (fun _ H locs _ hP hD hK9 hS => ?_)
          have hP : va_P (dC, dI) vwCl [((bm 0), .inr (10, [.int th, .ref (bm 1), .int tn, .int (o_16.2), .int (o_10.2.1), .ref (bm 2), .ref (bm 3), .int rm_, .ref (bm 4), .ref (bm 5), .int mn, .ref (bm 6), .ref (bm 7), .int sn, .ref (bm 8), .ref (bm 9), .ref (bm 10), .int ac, .long dn, .ref (bm 11), .ref (bm 12), .ref (bm 13), .ref (bm 14), .int hi])), ((bm 1), .inl ((km 1), 240, .inl tp)), ((bm 6), .inl ((km 6), 320, .inl (o_10.2.2))), ((bm 7), .inl ((km 7), 5, .inl (upd sl_c (z1).toNatClampNeg ((sl_c (z1).toNatClampNeg) + 1))))] H := hP.sub [2, 3, 0, 1] rfl
          have hD : va_D A [((bm 0), .inr (10, [.int th, .ref (bm 1), .int tn, .int (o_16.2), .int (o_10.2.1), .ref (bm 2), .ref (bm 3), .int rm_, .ref (bm 4), .ref (bm 5), .int mn, .ref (bm 6), .ref (bm 7), .int sn, .ref (bm 8), .ref (bm 9), .ref (bm 10), .int ac, .long dn, .ref (bm 11), .ref (bm 12), .ref (bm 13), .ref (bm 14), .int hi])), ((bm 1), .inl ((km 1), 240, .inl tp)), ((bm 6), .inl ((km 6), 320, .inl (o_10.2.2))), ((bm 7), .inl ((km 7), 5, .inl (upd sl_c (z1).toNatClampNeg ((sl_c (z1).toNatClampNeg) + 1))))] := hD.sub [2, 3, 0, 1] (by decide) rfl
          refine lv_bipush (v := 59) hx hb dX10_readScript_62 (by decide) ?_
          refine lv_icmp_ne (tgt := 82) hx hb dX10_readScript_64 (by decide) (fun c_18 => ?_) (fun c_18 => ?_)
          · have hG := q_ifn c_18 hG
            refine lv_iconst (v := 0) hx hb dX10_readScript_82 (by decide) ?_
            refine lv_istore_n (lv' := [(2, .int 0), (0, .ref (bm 0)), (1, .int z1)]) hx hb dX10_readScript_83 rfl hl (by decide) rfl (fun ls hl => ?_)
            refine lv_aload_n hx hb dX10_readScript_84 rfl (lv_at hl 1 rfl) ?_
            refine lv_dup hx hb dX10_readScript_85 rfl ?_
            refine va_get (D := (dC, dI)) (ci := 10) (v := .int (o_16.2)) (C := RX10) (T := TX10) (N := 24) hx hb hts iA_10 hown hK hP 0 rfl rfl 3 (by decide) (hts (.fieldLink RX10 67 "HubTreeModel" "at" "I") (List.mem_cons_of_mem _ m_325)) (fun _ h9 => h9) rfl dX10_readScript_86 ?_
            refine lv_iload_n hx hb dX10_readScript_89 rfl (lv_at hl 0 rfl) ?_
            refine lv_if_eq (tgt := 97) hx hb dX10_readScript_90 (by decide) (fun c_19 => ?_) (fun c_19 => ?_)
            rotate_left
            · exact absurd (by decide) c_19
            refine lv_iconst (v := 0) hx hb dX10_readScript_97 (by decide) ?_
            refine lv_iadd hx hb dX10_readScript_98 ?_
            refine va_put (D := (dC, dI)) (ci := 10) (v := .int ((o_16.2) + 0)) (ty := .int) (C := RX10) (T := TX10) (N := 24) hx hb hts iA_10 tyX10 tyX10_ok nmX10 hown hK hP hD hS 0 rfl rfl 3 (by decide) (hts (.fieldLink RX10 67 "HubTreeModel" "at" "I") (List.mem_cons_of_mem _ m_325)) (fun _ h9 => h9) rfl (by decide +kernel) rfl rfl (Nat.le_of_ble_eq_true rfl) dX10_readScript_99 (fun H locs hP hD hS => ?_)
            have hP : va_P (dC, dI) vwCl [((bm 0), .inr (10, [.int th, .ref (bm 1), .int tn, .int ((o_16.2) + 0), .int (o_10.2.1), .ref (bm 2), .ref (bm 3), .int rm_, .ref (bm 4), .ref (bm 5), .int mn, .ref (bm 6), .ref (bm 7), .int sn, .ref (bm 8), .ref (bm 9), .ref (bm 10), .int ac, .long dn, .ref (bm 11), .ref (bm 12), .ref (bm 13), .ref (bm 14), .int hi])), ((bm 1), .inl ((km 1), 240, .inl tp)), ((bm 6), .inl ((km 6), 320, .inl (o_10.2.2))), ((bm 7), .inl ((km 7), 5, .inl (upd sl_c (z1).toNatClampNeg ((sl_c (z1).toNatClampNeg) + 1))))] H := hP
            have hD : va_D A [((bm 0), .inr (10, [.int th, .ref (bm 1), .int tn, .int ((o_16.2) + 0), .int (o_10.2.1), .ref (bm 2), .ref (bm 3), .int rm_, .ref (bm 4), .ref (bm 5), .int mn, .ref (bm 6), .ref (bm 7), .int sn, .ref (bm 8), .ref (bm 9), .ref (bm 10), .int ac, .long dn, .ref (bm 11), .ref (bm 12), .ref (bm 13), .ref (bm 14), .int hi])), ((bm 1), .inl ((km 1), 240, .inl tp)), ((bm 6), .inl ((km 6), 320, .inl (o_10.2.2))), ((bm 7), .inl ((km 7), 5, .inl (upd sl_c (z1).toNatClampNeg ((sl_c (z1).toNatClampNeg) + 1))))] := hD
            refine lv_goto (tgt := 19) hx hb dX10_readScript_102 (by decide) ?_
            exact ih_19 0 ((o_16.2) + 0) (o_10.2.1) (o_10.2.2) (upd sl_c (z1).toNatClampNeg ((sl_c (z1).toNatClampNeg) + 1)) H locs ls hG hP hD hS (lv_sub hl [0, 1, 2] rfl)
          · have hG := q_ifp c_18 hG
            refine lv_aload_n hx hb dX10_readScript_67 rfl (lv_at hl 1 rfl) ?_
            refine va_get (D := (dC, dI)) (ci := 10) (v := .ref (bm 7)) (C := RX10) (T := TX10) (N := 24) hx hb hts iA_10 hown hK hP 0 rfl rfl 12 (by decide) (hts (.fieldLink RX10 28 "HubTreeModel" "scriptLong" "[I") (List.mem_cons_of_mem _ m_121)) (fun _ h9 => h9) rfl dX10_readScript_68 ?_
            refine lv_iload_n hx hb dX10_readScript_71 rfl (lv_at hl 2 rfl) ?_
            obtain ⟨h_20, hG⟩ := q_ix hG
            refine va_iald hx hb hK hP 3 2 rfl rfl (i := z1) h_20 dX10_readScript_72 ?_
            refine q_top (y := ((upd sl_c (z1).toNatClampNeg ((sl_c (z1).toNatClampNeg) + 1)) (z1).toNatClampNeg)) rfl ?_
            refine lv_bipush (v := 16) hx hb dX10_readScript_73 (by decide) ?_
            refine lv_icmp_ge (tgt := 82) hx hb dX10_readScript_75 (by decide) (fun c_21 => ?_) (fun c_21 => ?_)
            · have hG := q_ifp c_21 hG
              refine lv_iconst (v := 0) hx hb dX10_readScript_82 (by decide) ?_
              refine lv_istore_n (lv' := [(2, .int 0), (0, .ref (bm 0)), (1, .int z1)]) hx hb dX10_readScript_83 rfl hl (by decide) rfl (fun ls hl => ?_)
              refine lv_aload_n hx hb dX10_readScript_84 rfl (lv_at hl 1 rfl) ?_
              refine lv_dup hx hb dX10_readScript_85 rfl ?_
              refine va_get (D := (dC, dI)) (ci := 10) (v := .int (o_16.2)) (C := RX10) (T := TX10) (N := 24) hx hb hts iA_10 hown hK hP 0 rfl rfl 3 (by decide) (hts (.fieldLink RX10 67 "HubTreeModel" "at" "I") (List.mem_cons_of_mem _ m_325)) (fun _ h9 => h9) rfl dX10_readScript_86 ?_
              refine lv_iload_n hx hb dX10_readScript_89 rfl (lv_at hl 0 rfl) ?_
              refine lv_if_eq (tgt := 97) hx hb dX10_readScript_90 (by decide) (fun c_22 => ?_) (fun c_22 => ?_)
              rotate_left
              · exact absurd (by decide) c_22
              refine lv_iconst (v := 0) hx hb dX10_readScript_97 (by decide) ?_
              refine lv_iadd hx hb dX10_readScript_98 ?_
              refine va_put (D := (dC, dI)) (ci := 10) (v := .int ((o_16.2) + 0)) (ty := .int) (C := RX10) (T := TX10) (N := 24) hx hb hts iA_10 tyX10 tyX10_ok nmX10 hown hK hP hD hS 0 rfl rfl 3 (by decide) (hts (.fieldLink RX10 67 "HubTreeModel" "at" "I") (List.mem_cons_of_mem _ m_325)) (fun _ h9 => h9) rfl (by decide +kernel) rfl rfl (Nat.le_of_ble_eq_true rfl) dX10_readScript_99 (fun H locs hP hD hS => ?_)
              have hP : va_P (dC, dI) vwCl [((bm 0), .inr (10, [.int th, .ref (bm 1), .int tn, .int ((o_16.2) + 0), .int (o_10.2.1), .ref (bm 2), .ref (bm 3), .int rm_, .ref (bm 4), .ref (bm 5), .int mn, .ref (bm 6), .ref (bm 7), .int sn, .ref (bm 8), .ref (bm 9), .ref (bm 10), .int ac, .long dn, .ref (bm 11), .ref (bm 12), .ref (bm 13), .ref (bm 14), .int hi])), ((bm 1), .inl ((km 1), 240, .inl tp)), ((bm 6), .inl ((km 6), 320, .inl (o_10.2.2))), ((bm 7), .inl ((km 7), 5, .inl (upd sl_c (z1).toNatClampNeg ((sl_c (z1).toNatClampNeg) + 1))))] H := hP
              have hD : va_D A [((bm 0), .inr (10, [.int th, .ref (bm 1), .int tn, .int ((o_16.2) + 0), .int (o_10.2.1), .ref (bm 2), .ref (bm 3), .int rm_, .ref (bm 4), .ref (bm 5), .int mn, .ref (bm 6), .ref (bm 7), .int sn, .ref (bm 8), .ref (bm 9), .ref (bm 10), .int ac, .long dn, .ref (bm 11), .ref (bm 12), .ref (bm 13), .ref (bm 14), .int hi])), ((bm 1), .inl ((km 1), 240, .inl tp)), ((bm 6), .inl ((km 6), 320, .inl (o_10.2.2))), ((bm 7), .inl ((km 7), 5, .inl (upd sl_c (z1).toNatClampNeg ((sl_c (z1).toNatClampNeg) + 1))))] := hD
              refine lv_goto (tgt := 19) hx hb dX10_readScript_102 (by decide) ?_
              exact ih_19 0 ((o_16.2) + 0) (o_10.2.1) (o_10.2.2) (upd sl_c (z1).toNatClampNeg ((sl_c (z1).toNatClampNeg) + 1)) H locs ls hG hP hD hS (lv_sub hl [0, 1, 2] rfl)
            · have hG := q_ifn c_21 hG
              refine lv_iconst (v := 1) hx hb dX10_readScript_78 (by decide) ?_
              refine lv_goto (tgt := 83) hx hb dX10_readScript_79 (by decide) ?_
              refine lv_istore_n (lv' := [(2, .int 1), (0, .ref (bm 0)), (1, .int z1)]) hx hb dX10_readScript_83 rfl hl (by decide) rfl (fun ls hl => ?_)
              refine lv_aload_n hx hb dX10_readScript_84 rfl (lv_at hl 1 rfl) ?_
              refine lv_dup hx hb dX10_readScript_85 rfl ?_
              refine va_get (D := (dC, dI)) (ci := 10) (v := .int (o_16.2)) (C := RX10) (T := TX10) (N := 24) hx hb hts iA_10 hown hK hP 0 rfl rfl 3 (by decide) (hts (.fieldLink RX10 67 "HubTreeModel" "at" "I") (List.mem_cons_of_mem _ m_325)) (fun _ h9 => h9) rfl dX10_readScript_86 ?_
              refine lv_iload_n hx hb dX10_readScript_89 rfl (lv_at hl 0 rfl) ?_
              refine lv_if_eq (tgt := 97) hx hb dX10_readScript_90 (by decide) (fun c_23 => ?_) (fun c_23 => ?_)
              · exact absurd c_23 (by decide)
              refine lv_iconst (v := 1) hx hb dX10_readScript_93 (by decide) ?_
              refine lv_goto (tgt := 98) hx hb dX10_readScript_94 (by decide) ?_
              refine lv_iadd hx hb dX10_readScript_98 ?_
              refine va_put (D := (dC, dI)) (ci := 10) (v := .int ((o_16.2) + 1)) (ty := .int) (C := RX10) (T := TX10) (N := 24) hx hb hts iA_10 tyX10 tyX10_ok nmX10 hown hK hP hD hS 0 rfl rfl 3 (by decide) (hts (.fieldLink RX10 67 "HubTreeModel" "at" "I") (List.mem_cons_of_mem _ m_325)) (fun _ h9 => h9) rfl (by decide +kernel) rfl rfl (Nat.le_of_ble_eq_true rfl) dX10_readScript_99 (fun H locs hP hD hS => ?_)
              have hP : va_P (dC, dI) vwCl [((bm 0), .inr (10, [.int th, .ref (bm 1), .int tn, .int ((o_16.2) + 1), .int (o_10.2.1), .ref (bm 2), .ref (bm 3), .int rm_, .ref (bm 4), .ref (bm 5), .int mn, .ref (bm 6), .ref (bm 7), .int sn, .ref (bm 8), .ref (bm 9), .ref (bm 10), .int ac, .long dn, .ref (bm 11), .ref (bm 12), .ref (bm 13), .ref (bm 14), .int hi])), ((bm 1), .inl ((km 1), 240, .inl tp)), ((bm 6), .inl ((km 6), 320, .inl (o_10.2.2))), ((bm 7), .inl ((km 7), 5, .inl (upd sl_c (z1).toNatClampNeg ((sl_c (z1).toNatClampNeg) + 1))))] H := hP
              have hD : va_D A [((bm 0), .inr (10, [.int th, .ref (bm 1), .int tn, .int ((o_16.2) + 1), .int (o_10.2.1), .ref (bm 2), .ref (bm 3), .int rm_, .ref (bm 4), .ref (bm 5), .int mn, .ref (bm 6), .ref (bm 7), .int sn, .ref (bm 8), .ref (bm 9), .ref (bm 10), .int ac, .long dn, .ref (bm 11), .ref (bm 12), .ref (bm 13), .ref (bm 14), .int hi])), ((bm 1), .inl ((km 1), 240, .inl tp)), ((bm 6), .inl ((km 6), 320, .inl (o_10.2.2))), ((bm 7), .inl ((km 7), 5, .inl (upd sl_c (z1).toNatClampNeg ((sl_c (z1).toNatClampNeg) + 1))))] := hD
              refine lv_goto (tgt := 19) hx hb dX10_readScript_102 (by decide) ?_
              exact ih_19 1 ((o_16.2) + 1) (o_10.2.1) (o_10.2.2) (upd sl_c (z1).toNatClampNeg ((sl_c (z1).toNatClampNeg) + 1)) H locs ls hG hP hD hS (lv_sub hl [0, 1, 2] rfl)
  exact L_19 1000 1 0 (-1) sq (upd sl (z1).toNatClampNeg 0) H locs ls hG hP hD hS hl

def F_X10_fault (tn : Int32) (at_ : Int32) (wr : Int32) (rm_ : Int32) (tp : Nat → Int32) (rr : Nat → Int32) (rd : Nat → Int32) (sq : Nat → Int32) (sl : Nat → Int32) (z1 : Int32) : Option (Int32 × Int32 × Int32 × Int32 × (Nat → Int32) × (Nat → Int32) × (Nat → Int32) × (Nat → Int32)) := (if z1 = 0 then ((F_X10_readTree tn at_ wr rm_ tp rr rd).bind fun o_5 => some (o_5.1, (o_5.2.1), (o_5.2.2.1), (o_5.2.2.2.1), (o_5.2.2.2.2.1), (o_5.2.2.2.2.2), sq, sl)) else (if z1 = 1 then ((F_X10_readScript tn at_ wr tp sq sl 4).bind fun o_3 => some (o_3.1, (o_3.2.1), (o_3.2.2.1), rm_, rr, rd, (o_3.2.2.2.1), (o_3.2.2.2.2))) else some ((-2), at_, wr, rm_, rr, rd, sq, sl)))
set_option maxHeartbeats 4000000 in
set_option maxRecDepth 100000 in
theorem c_X10_fault (l : Launch) (dC : Nat → ClassId) (dI : Nat → Nat → Nat) (bm : Nat → Nat) (km : Nat → ClassId) (th : Int32) (tn : Int32) (at_ : Int32) (wr : Int32) (rm_ : Int32) (mn : Int32) (sn : Int32) (ac : Int32) (hi : Int32) (dn : Int64) (tp : Nat → Int32) (rr : Nat → Int32) (rd : Nat → Int32) (sq : Nat → Int32) (sl : Nat → Int32) (z1 : Int32) (A : Nat → Prop) (o : Int32 × Int32 × Int32 × Int32 × (Nat → Int32) × (Nat → Int32) × (Nat → Int32) × (Nat → Int32)) (hG : F_X10_fault tn at_ wr rm_ tp rr rd sq sl z1 = some o) : Met l yX10_fault (.code yX10_fault cX10_fault 2 (some .int) :: wA) ({ frames := 5, cells := 0, slots := 0, locals := 114 }) (va_Pc [.ref (bm 0), .int z1] (q_W (dC, dI) A [((bm 0), .inr (10, [.int th, .ref (bm 1), .int tn, .int at_, .int wr, .ref (bm 2), .ref (bm 3), .int rm_, .ref (bm 4), .ref (bm 5), .int mn, .ref (bm 6), .ref (bm 7), .int sn, .ref (bm 8), .ref (bm 9), .ref (bm 10), .int ac, .long dn, .ref (bm 11), .ref (bm 12), .ref (bm 13), .ref (bm 14), .int hi])), ((bm 1), .inl ((km 1), 240, .inl tp)), ((bm 2), .inl ((km 2), 8, .inl rr)), ((bm 3), .inl ((km 3), 48, .inl rd)), ((bm 6), .inl ((km 6), 320, .inl sq)), ((bm 7), .inl ((km 7), 5, .inl sl))] [((km 1), .int), ((km 2), .int), ((km 3), .int), ((km 6), .int), ((km 7), .int)])) (va_Qi (fun (r : Int32) (_ : Unit) => r = o.1 ∧ True) (fun (_ : Unit) t => q_B (dC, dI) A [((bm 0), .inr (10, [.int th, .ref (bm 1), .int tn, .int (o.2.1), .int (o.2.2.1), .ref (bm 2), .ref (bm 3), .int (o.2.2.2.1), .ref (bm 4), .ref (bm 5), .int mn, .ref (bm 6), .ref (bm 7), .int sn, .ref (bm 8), .ref (bm 9), .ref (bm 10), .int ac, .long dn, .ref (bm 11), .ref (bm 12), .ref (bm 13), .ref (bm 14), .int hi])), ((bm 1), .inl ((km 1), 240, .inl tp)), ((bm 2), .inl ((km 2), 8, .inl (o.2.2.2.2.1))), ((bm 3), .inl ((km 3), 48, .inl (o.2.2.2.2.2.1))), ((bm 6), .inl ((km 6), 320, .inl (o.2.2.2.2.2.2.1))), ((bm 7), .inl ((km 7), 5, .inl (o.2.2.2.2.2.2.2)))] [((km 1), .int), ((km 2), .int), ((km 3), .int), ((km 6), .int), ((km 7), .int)] t) A) 0 0 A := by
  refine Met.ofW (cc := cX10_fault) (maxL := 2) (ret := (some .int)) (by decide) rfl ?_
  intro p e s m args below meth c s₁ B hml hv
  obtain ⟨rfl, hP, hK, hD, hA⟩ := hv
  have hx := B.exec
  have hb := B.bytes
  have hr := B.returns
  have hts := atoms_spec (ws := .code yX10_fault cX10_fault 2 (some .int) :: wA) B.pre
  have hown : s.vm.findClass RX10 = some m.cls := findClass_of_methodNamed B.named
  have hlocks := B.notSynchronized
  have hS : va_S A s.heap s.heap [] := va_S.rf
  have hl := lv_entry ([.ref (bm 0), .int z1]) (n := 2) (Nat.le_of_ble_eq_true rfl)
  rw [lg_entry_eq]
  generalize (lg_sl ([.ref (bm 0), .int z1]) ++ List.replicate (2 - (lg_sl ([.ref (bm 0), .int z1])).length) Slot.unset).toArray = ls at hl ⊢
  have hl : lv_has ls 2 [(0, .ref (bm 0)), (1, .int z1)] := hl
  unfold F_X10_fault at hG
  refine lv_iload_n hx hb dX10_fault_0 rfl (lv_at hl 1 rfl) ?_
  refine lv_if_ne (tgt := 11) hx hb dX10_fault_1 (by decide) (fun c_1 => ?_) (fun c_1 => ?_)
  · have hG := q_ifn c_1 hG
    refine lv_iload_n hx hb dX10_fault_11 rfl (lv_at hl 1 rfl) ?_
    refine lv_iconst (v := 1) hx hb dX10_fault_12 (by decide) ?_
    refine lv_icmp_ne (tgt := 24) hx hb dX10_fault_13 (by decide) (fun c_2 => ?_) (fun c_2 => ?_)
    · have hG := q_ifn c_2 hG
      refine lv_bipush (v := (-2)) hx hb dX10_fault_24 (by decide) ?_
      obtain rfl := Option.some.inj hG
      have hP9 := hP.sub (ws' := [((bm 0), .inr (10, [.int th, .ref (bm 1), .int tn, .int at_, .int wr, .ref (bm 2), .ref (bm 3), .int rm_, .ref (bm 4), .ref (bm 5), .int mn, .ref (bm 6), .ref (bm 7), .int sn, .ref (bm 8), .ref (bm 9), .ref (bm 10), .int ac, .long dn, .ref (bm 11), .ref (bm 12), .ref (bm 13), .ref (bm 14), .int hi])), ((bm 1), .inl ((km 1), 240, .inl tp)), ((bm 2), .inl ((km 2), 8, .inl rr)), ((bm 3), .inl ((km 3), 48, .inl rd)), ((bm 6), .inl ((km 6), 320, .inl sq)), ((bm 7), .inl ((km 7), 5, .inl sl))]) [0, 1, 2, 3, 4, 5] rfl
      have hD9 := hD.sub (ws' := [((bm 0), .inr (10, [.int th, .ref (bm 1), .int tn, .int at_, .int wr, .ref (bm 2), .ref (bm 3), .int rm_, .ref (bm 4), .ref (bm 5), .int mn, .ref (bm 6), .ref (bm 7), .int sn, .ref (bm 8), .ref (bm 9), .ref (bm 10), .int ac, .long dn, .ref (bm 11), .ref (bm 12), .ref (bm 13), .ref (bm 14), .int hi])), ((bm 1), .inl ((km 1), 240, .inl tp)), ((bm 2), .inl ((km 2), 8, .inl rr)), ((bm 3), .inl ((km 3), 48, .inl rd)), ((bm 6), .inl ((km 6), 320, .inl sq)), ((bm 7), .inl ((km 7), 5, .inl sl))]) [0, 1, 2, 3, 4, 5] (by decide) rfl
      have hK9 := hK.sub (tys' := [((km 1), .int), ((km 2), .int), ((km 3), .int), ((km 6), .int), ((km 7), .int)]) [0, 1, 2, 3, 4] rfl
      exact W.iret (v := (-2)) hx hb hr (fun t ht hW => ⟨⟨(-2), (), rfl, ⟨rfl, trivial⟩, by rw [ht]; exact hP9, va_K.moved hW.alike hK9, hD9⟩, hS.F ht⟩) hS.2.2 dX10_fault_26
    · have hG := q_ifp c_2 hG
      refine lv_aload_n hx hb dX10_fault_16 rfl (lv_at hl 0 rfl) ?_
      refine lv_iconst (v := 4) hx hb dX10_fault_17 (by decide) ?_
      obtain ⟨o_3, r_4, hG⟩ := q_bi hG
      refine q_goi2 (v := o_3.1) (wr := [((bm 2), .inl ((km 2), 8, .inl rr)), ((bm 3), .inl ((km 3), 48, .inl rd))]) (va_runV (As := [.int 4]) (rest := []) ⟨hx, hb, hml, hown, hts⟩ (c_X10_readScript l dC dI bm km th tn at_ wr rm_ mn sn ac hi dn tp sq sl 4 (va_A [((bm 0), .inr (10, [.int th, .ref (bm 1), .int tn, .int at_, .int wr, .ref (bm 2), .ref (bm 3), .int rm_, .ref (bm 4), .ref (bm 5), .int mn, .ref (bm 6), .ref (bm 7), .int sn, .ref (bm 8), .ref (bm 9), .ref (bm 10), .int ac, .long dn, .ref (bm 11), .ref (bm 12), .ref (bm 13), .ref (bm 14), .int hi])), ((bm 1), .inl ((km 1), 240, .inl tp)), ((bm 6), .inl ((km 6), 320, .inl sq)), ((bm 7), .inl ((km 7), 5, .inl sl))] s.heap.size) o_3 r_4) (cwV 1 hts (q_gV m_366 m_367 m_368 m_5 m_369) rfl rfl rfl hdV_yX10_readScript_1 ⟨Nat.le_of_ble_eq_true rfl, Nat.le_of_ble_eq_true rfl⟩) (q_preWV hK hP hD (q := (RX10, TX10, 24)) (ci := 10) (q0 := 0) rfl rfl [0, 1, 4, 5] (by decide) rfl rfl [0, 3, 4] rfl) rfl rfl hl.1 rfl (lv_room (Nat.le_of_ble_eq_true rfl)) dX10_fault_18 ⟨Nat.le_of_ble_eq_true rfl, Nat.le_of_ble_eq_true rfl⟩) hK hP hD hS hA [0, 1, 4, 5] [2, 3] rfl rfl (by decide) (by decide) (fun _ H locs _ hP hD hK9 hS => ?_)
      have hP : va_P (dC, dI) vwCl [((bm 0), .inr (10, [.int th, .ref (bm 1), .int tn, .int (o_3.2.1), .int (o_3.2.2.1), .ref (bm 2), .ref (bm 3), .int rm_, .ref (bm 4), .ref (bm 5), .int mn, .ref (bm 6), .ref (bm 7), .int sn, .ref (bm 8), .ref (bm 9), .ref (bm 10), .int ac, .long dn, .ref (bm 11), .ref (bm 12), .ref (bm 13), .ref (bm 14), .int hi])), ((bm 1), .inl ((km 1), 240, .inl tp)), ((bm 2), .inl ((km 2), 8, .inl rr)), ((bm 3), .inl ((km 3), 48, .inl rd)), ((bm 6), .inl ((km 6), 320, .inl (o_3.2.2.2.1))), ((bm 7), .inl ((km 7), 5, .inl (o_3.2.2.2.2)))] H := hP.sub [2, 3, 0, 1, 4, 5] rfl
      have hD : va_D A [((bm 0), .inr (10, [.int th, .ref (bm 1), .int tn, .int (o_3.2.1), .int (o_3.2.2.1), .ref (bm 2), .ref (bm 3), .int rm_, .ref (bm 4), .ref (bm 5), .int mn, .ref (bm 6), .ref (bm 7), .int sn, .ref (bm 8), .ref (bm 9), .ref (bm 10), .int ac, .long dn, .ref (bm 11), .ref (bm 12), .ref (bm 13), .ref (bm 14), .int hi])), ((bm 1), .inl ((km 1), 240, .inl tp)), ((bm 2), .inl ((km 2), 8, .inl rr)), ((bm 3), .inl ((km 3), 48, .inl rd)), ((bm 6), .inl ((km 6), 320, .inl (o_3.2.2.2.1))), ((bm 7), .inl ((km 7), 5, .inl (o_3.2.2.2.2)))] := hD.sub [2, 3, 0, 1, 4, 5] (by decide) rfl
      refine lv_goto (tgt := 26) hx hb dX10_fault_21 (by decide) ?_
      obtain rfl := Option.some.inj hG
      have hP9 := hP.sub (ws' := [((bm 0), .inr (10, [.int th, .ref (bm 1), .int tn, .int (o_3.2.1), .int (o_3.2.2.1), .ref (bm 2), .ref (bm 3), .int rm_, .ref (bm 4), .ref (bm 5), .int mn, .ref (bm 6), .ref (bm 7), .int sn, .ref (bm 8), .ref (bm 9), .ref (bm 10), .int ac, .long dn, .ref (bm 11), .ref (bm 12), .ref (bm 13), .ref (bm 14), .int hi])), ((bm 1), .inl ((km 1), 240, .inl tp)), ((bm 2), .inl ((km 2), 8, .inl rr)), ((bm 3), .inl ((km 3), 48, .inl rd)), ((bm 6), .inl ((km 6), 320, .inl (o_3.2.2.2.1))), ((bm 7), .inl ((km 7), 5, .inl (o_3.2.2.2.2)))]) [0, 1, 2, 3, 4, 5] rfl
      have hD9 := hD.sub (ws' := [((bm 0), .inr (10, [.int th, .ref (bm 1), .int tn, .int (o_3.2.1), .int (o_3.2.2.1), .ref (bm 2), .ref (bm 3), .int rm_, .ref (bm 4), .ref (bm 5), .int mn, .ref (bm 6), .ref (bm 7), .int sn, .ref (bm 8), .ref (bm 9), .ref (bm 10), .int ac, .long dn, .ref (bm 11), .ref (bm 12), .ref (bm 13), .ref (bm 14), .int hi])), ((bm 1), .inl ((km 1), 240, .inl tp)), ((bm 2), .inl ((km 2), 8, .inl rr)), ((bm 3), .inl ((km 3), 48, .inl rd)), ((bm 6), .inl ((km 6), 320, .inl (o_3.2.2.2.1))), ((bm 7), .inl ((km 7), 5, .inl (o_3.2.2.2.2)))]) [0, 1, 2, 3, 4, 5] (by decide) rfl
      have hK9 := hK.sub (tys' := [((km 1), .int), ((km 2), .int), ((km 3), .int), ((km 6), .int), ((km 7), .int)]) [0, 1, 2, 3, 4] rfl
      exact W.iret (v := o_3.1) hx hb hr (fun t ht hW => ⟨⟨o_3.1, (), rfl, ⟨rfl, trivial⟩, by rw [ht]; exact hP9, va_K.moved hW.alike hK9, hD9⟩, hS.F ht⟩) hS.2.2 dX10_fault_26
  · have hG := q_ifp c_1 hG
    refine lv_aload_n hx hb dX10_fault_4 rfl (lv_at hl 0 rfl) ?_
    obtain ⟨o_5, r_6, hG⟩ := q_bi hG
    refine q_goi2 (v := o_5.1) (wr := [((bm 6), .inl ((km 6), 320, .inl sq)), ((bm 7), .inl ((km 7), 5, .inl sl))]) (va_runV (As := []) (rest := []) ⟨hx, hb, hml, hown, hts⟩ (c_X10_readTree l dC dI bm km th tn at_ wr rm_ mn sn ac hi dn tp rr rd (va_A [((bm 0), .inr (10, [.int th, .ref (bm 1), .int tn, .int at_, .int wr, .ref (bm 2), .ref (bm 3), .int rm_, .ref (bm 4), .ref (bm 5), .int mn, .ref (bm 6), .ref (bm 7), .int sn, .ref (bm 8), .ref (bm 9), .ref (bm 10), .int ac, .long dn, .ref (bm 11), .ref (bm 12), .ref (bm 13), .ref (bm 14), .int hi])), ((bm 1), .inl ((km 1), 240, .inl tp)), ((bm 2), .inl ((km 2), 8, .inl rr)), ((bm 3), .inl ((km 3), 48, .inl rd))] s.heap.size) o_5 r_6) (cwV 0 hts (q_gV m_321 m_322 m_323 m_5 m_324) rfl rfl rfl hdV_yX10_readTree_0 ⟨Nat.le_of_ble_eq_true rfl, Nat.le_of_ble_eq_true rfl⟩) (q_preWV hK hP hD (q := (RX10, TX10, 24)) (ci := 10) (q0 := 0) rfl rfl [0, 1, 2, 3] (by decide) rfl rfl [0, 1, 2] rfl) rfl rfl hl.1 rfl (lv_room (Nat.le_of_ble_eq_true rfl)) dX10_fault_5 ⟨Nat.le_of_ble_eq_true rfl, Nat.le_of_ble_eq_true rfl⟩) hK hP hD hS hA [0, 1, 2, 3] [4, 5] rfl rfl (by decide) (by decide) (fun _ H locs _ hP hD hK9 hS => ?_)
    have hP : va_P (dC, dI) vwCl [((bm 0), .inr (10, [.int th, .ref (bm 1), .int tn, .int (o_5.2.1), .int (o_5.2.2.1), .ref (bm 2), .ref (bm 3), .int (o_5.2.2.2.1), .ref (bm 4), .ref (bm 5), .int mn, .ref (bm 6), .ref (bm 7), .int sn, .ref (bm 8), .ref (bm 9), .ref (bm 10), .int ac, .long dn, .ref (bm 11), .ref (bm 12), .ref (bm 13), .ref (bm 14), .int hi])), ((bm 1), .inl ((km 1), 240, .inl tp)), ((bm 2), .inl ((km 2), 8, .inl (o_5.2.2.2.2.1))), ((bm 3), .inl ((km 3), 48, .inl (o_5.2.2.2.2.2))), ((bm 6), .inl ((km 6), 320, .inl sq)), ((bm 7), .inl ((km 7), 5, .inl sl))] H := hP.sub [2, 3, 4, 5, 0, 1] rfl
    have hD : va_D A [((bm 0), .inr (10, [.int th, .ref (bm 1), .int tn, .int (o_5.2.1), .int (o_5.2.2.1), .ref (bm 2), .ref (bm 3), .int (o_5.2.2.2.1), .ref (bm 4), .ref (bm 5), .int mn, .ref (bm 6), .ref (bm 7), .int sn, .ref (bm 8), .ref (bm 9), .ref (bm 10), .int ac, .long dn, .ref (bm 11), .ref (bm 12), .ref (bm 13), .ref (bm 14), .int hi])), ((bm 1), .inl ((km 1), 240, .inl tp)), ((bm 2), .inl ((km 2), 8, .inl (o_5.2.2.2.2.1))), ((bm 3), .inl ((km 3), 48, .inl (o_5.2.2.2.2.2))), ((bm 6), .inl ((km 6), 320, .inl sq)), ((bm 7), .inl ((km 7), 5, .inl sl))] := hD.sub [2, 3, 4, 5, 0, 1] (by decide) rfl
    refine lv_goto (tgt := 26) hx hb dX10_fault_8 (by decide) ?_
    obtain rfl := Option.some.inj hG
    have hP9 := hP.sub (ws' := [((bm 0), .inr (10, [.int th, .ref (bm 1), .int tn, .int (o_5.2.1), .int (o_5.2.2.1), .ref (bm 2), .ref (bm 3), .int (o_5.2.2.2.1), .ref (bm 4), .ref (bm 5), .int mn, .ref (bm 6), .ref (bm 7), .int sn, .ref (bm 8), .ref (bm 9), .ref (bm 10), .int ac, .long dn, .ref (bm 11), .ref (bm 12), .ref (bm 13), .ref (bm 14), .int hi])), ((bm 1), .inl ((km 1), 240, .inl tp)), ((bm 2), .inl ((km 2), 8, .inl (o_5.2.2.2.2.1))), ((bm 3), .inl ((km 3), 48, .inl (o_5.2.2.2.2.2))), ((bm 6), .inl ((km 6), 320, .inl sq)), ((bm 7), .inl ((km 7), 5, .inl sl))]) [0, 1, 2, 3, 4, 5] rfl
    have hD9 := hD.sub (ws' := [((bm 0), .inr (10, [.int th, .ref (bm 1), .int tn, .int (o_5.2.1), .int (o_5.2.2.1), .ref (bm 2), .ref (bm 3), .int (o_5.2.2.2.1), .ref (bm 4), .ref (bm 5), .int mn, .ref (bm 6), .ref (bm 7), .int sn, .ref (bm 8), .ref (bm 9), .ref (bm 10), .int ac, .long dn, .ref (bm 11), .ref (bm 12), .ref (bm 13), .ref (bm 14), .int hi])), ((bm 1), .inl ((km 1), 240, .inl tp)), ((bm 2), .inl ((km 2), 8, .inl (o_5.2.2.2.2.1))), ((bm 3), .inl ((km 3), 48, .inl (o_5.2.2.2.2.2))), ((bm 6), .inl ((km 6), 320, .inl sq)), ((bm 7), .inl ((km 7), 5, .inl sl))]) [0, 1, 2, 3, 4, 5] (by decide) rfl
    have hK9 := hK.sub (tys' := [((km 1), .int), ((km 2), .int), ((km 3), .int), ((km 6), .int), ((km 7), .int)]) [0, 1, 2, 3, 4] rfl
    exact W.iret (v := o_5.1) hx hb hr (fun t ht hW => ⟨⟨o_5.1, (), rfl, ⟨rfl, trivial⟩, by rw [ht]; exact hP9, va_K.moved hW.alike hK9, hD9⟩, hS.F ht⟩) hS.2.2 dX10_fault_26

def F_X10_isTree (mn : Int32) : Option (Int32) := (if mn ≤ 0 then some (0) else some (1))
set_option maxHeartbeats 4000000 in
set_option maxRecDepth 100000 in
theorem c_X10_isTree (l : Launch) (dC : Nat → ClassId) (dI : Nat → Nat → Nat) (bm : Nat → Nat) (km : Nat → ClassId) (th : Int32) (tn : Int32) (at_ : Int32) (wr : Int32) (rm_ : Int32) (mn : Int32) (sn : Int32) (ac : Int32) (hi : Int32) (dn : Int64) (o : Int32) (hG : F_X10_isTree mn = some o) : Met l yX10_isTree (.code yX10_isTree cX10_isTree 1 (some .boolean) :: wA) ({ frames := 0, cells := 0, slots := 0, locals := 0 }) (va_Pc [.ref (bm 0)] (q_R (dC, dI) [((bm 0), .inr (10, [.int th, .ref (bm 1), .int tn, .int at_, .int wr, .ref (bm 2), .ref (bm 3), .int rm_, .ref (bm 4), .ref (bm 5), .int mn, .ref (bm 6), .ref (bm 7), .int sn, .ref (bm 8), .ref (bm 9), .ref (bm 10), .int ac, .long dn, .ref (bm 11), .ref (bm 12), .ref (bm 13), .ref (bm 14), .int hi]))] [])) (q_i o) 0 0 (fun _ => False) := by
  refine Met.ofW (cc := cX10_isTree) (maxL := 1) (ret := (some .boolean)) (by decide) rfl ?_
  intro p e s m args below meth c s₁ B hml hv
  obtain ⟨rfl, hP, hK⟩ := hv
  have hx := B.exec
  have hb := B.bytes
  have hr := B.returns
  have hts := atoms_spec (ws := .code yX10_isTree cX10_isTree 1 (some .boolean) :: wA) B.pre
  have hown : s.vm.findClass RX10 = some m.cls := findClass_of_methodNamed B.named
  have hlocks := B.notSynchronized
  have hS : va_S (fun _ => False) s.heap s.heap [] := va_S.rf
  have hl := lv_entry ([.ref (bm 0)]) (n := 1) (Nat.le_of_ble_eq_true rfl)
  rw [lg_entry_eq]
  generalize (lg_sl ([.ref (bm 0)]) ++ List.replicate (1 - (lg_sl ([.ref (bm 0)])).length) Slot.unset).toArray = ls at hl ⊢
  have hl : lv_has ls 1 [(0, .ref (bm 0))] := hl
  unfold F_X10_isTree at hG
  refine lv_aload_n hx hb dX10_isTree_0 rfl (lv_at hl 0 rfl) ?_
  refine va_get (D := (dC, dI)) (ci := 10) (v := .int mn) (C := RX10) (T := TX10) (N := 24) hx hb hts iA_10 hown hK hP 0 rfl rfl 10 (by decide) (hts (.fieldLink RX10 132 "HubTreeModel" "many" "I") (List.mem_cons_of_mem _ m_433)) (fun _ h9 => h9) rfl dX10_isTree_1 ?_
  refine lv_if_le (tgt := 11) hx hb dX10_isTree_4 (by decide) (fun c_1 => ?_) (fun c_1 => ?_)
  · have hG := q_ifp c_1 hG
    refine lv_iconst (v := 0) hx hb dX10_isTree_11 (by decide) ?_
    obtain rfl := Option.some.inj hG
    exact W.zret (v := 0) hx hb hr rfl (fun t ht hW => ⟨⟨0, (), rfl, rfl, trivial⟩, hS.F ht⟩) hS.2.2 dX10_isTree_12
  · have hG := q_ifn c_1 hG
    refine lv_iconst (v := 1) hx hb dX10_isTree_7 (by decide) ?_
    refine lv_goto (tgt := 12) hx hb dX10_isTree_8 (by decide) ?_
    obtain rfl := Option.some.inj hG
    exact W.zret (v := 1) hx hb hr rfl (fun t ht hW => ⟨⟨1, (), rfl, rfl, trivial⟩, hS.F ht⟩) hS.2.2 dX10_isTree_12

def F_X10_isDevice (mn : Int32) (z1 : Int32) : Option (Int32) := ((F_X10_in z1 0 (mn - 1)).bind fun o_1 => (if o_1 = 0 ∨ o_1 = 1 then some (o_1) else none))
set_option maxHeartbeats 4000000 in
set_option maxRecDepth 100000 in
theorem c_X10_isDevice (l : Launch) (dC : Nat → ClassId) (dI : Nat → Nat → Nat) (bm : Nat → Nat) (km : Nat → ClassId) (th : Int32) (tn : Int32) (at_ : Int32) (wr : Int32) (rm_ : Int32) (mn : Int32) (sn : Int32) (ac : Int32) (hi : Int32) (dn : Int64) (z1 : Int32) (o : Int32) (hG : F_X10_isDevice mn z1 = some o) : Met l yX10_isDevice (.code yX10_isDevice cX10_isDevice 2 (some .boolean) :: wA) ({ frames := 1, cells := 0, slots := 0, locals := 22 }) (va_Pc [.ref (bm 0), .int z1] (q_R (dC, dI) [((bm 0), .inr (10, [.int th, .ref (bm 1), .int tn, .int at_, .int wr, .ref (bm 2), .ref (bm 3), .int rm_, .ref (bm 4), .ref (bm 5), .int mn, .ref (bm 6), .ref (bm 7), .int sn, .ref (bm 8), .ref (bm 9), .ref (bm 10), .int ac, .long dn, .ref (bm 11), .ref (bm 12), .ref (bm 13), .ref (bm 14), .int hi]))] [])) (q_i o) 0 0 (fun _ => False) := by
  refine Met.ofW (cc := cX10_isDevice) (maxL := 2) (ret := (some .boolean)) (by decide) rfl ?_
  intro p e s m args below meth c s₁ B hml hv
  obtain ⟨rfl, hP, hK⟩ := hv
  have hx := B.exec
  have hb := B.bytes
  have hr := B.returns
  have hts := atoms_spec (ws := .code yX10_isDevice cX10_isDevice 2 (some .boolean) :: wA) B.pre
  have hown : s.vm.findClass RX10 = some m.cls := findClass_of_methodNamed B.named
  have hlocks := B.notSynchronized
  have hS : va_S (fun _ => False) s.heap s.heap [] := va_S.rf
  have hl := lv_entry ([.ref (bm 0), .int z1]) (n := 2) (Nat.le_of_ble_eq_true rfl)
  rw [lg_entry_eq]
  generalize (lg_sl ([.ref (bm 0), .int z1]) ++ List.replicate (2 - (lg_sl ([.ref (bm 0), .int z1])).length) Slot.unset).toArray = ls at hl ⊢
  have hl : lv_has ls 2 [(0, .ref (bm 0)), (1, .int z1)] := hl
  unfold F_X10_isDevice at hG
  refine lv_iload_n hx hb dX10_isDevice_0 rfl (lv_at hl 1 rfl) ?_
  refine lv_iconst (v := 0) hx hb dX10_isDevice_1 (by decide) ?_
  refine lv_aload_n hx hb dX10_isDevice_2 rfl (lv_at hl 0 rfl) ?_
  refine va_get (D := (dC, dI)) (ci := 10) (v := .int mn) (C := RX10) (T := TX10) (N := 24) hx hb hts iA_10 hown hK hP 0 rfl rfl 10 (by decide) (hts (.fieldLink RX10 132 "HubTreeModel" "many" "I") (List.mem_cons_of_mem _ m_433)) (fun _ h9 => h9) rfl dX10_isDevice_3 ?_
  refine lv_iconst (v := 1) hx hb dX10_isDevice_6 (by decide) ?_
  refine lv_isub hx hb dX10_isDevice_7 ?_
  obtain ⟨o_1, r_2, hG⟩ := q_bi hG
  refine q_goi (v := o_1) (va_runS (As := [.int z1, .int 0, .int (mn - 1)]) (rest := []) ⟨hx, hb, hml, hown, hts⟩ (c_X10_in l dC dI z1 0 (mn - 1) o_1 r_2) (va_cwS 3 hts (q_gS m_157 m_158 m_5 m_159) rfl rfl rfl hdS_yX10_in_3 ⟨Nat.le_of_ble_eq_true rfl, Nat.le_of_ble_eq_true rfl⟩) (q_preS hK hP [] rfl [] rfl) rfl rfl hl.1 rfl (lv_room (Nat.le_of_ble_eq_true rfl)) dX10_isDevice_8 ⟨Nat.le_of_ble_eq_true rfl, Nat.le_of_ble_eq_true rfl⟩) hP hS (fun H locs hP hS => ?_)
  obtain ⟨g_3, hG⟩ := q_gu hG
  obtain rfl := Option.some.inj hG
  exact W.zret (v := o_1) hx hb hr (q_nbo g_3) (fun t ht hW => ⟨⟨o_1, (), rfl, rfl, trivial⟩, hS.F ht⟩) hS.2.2 dX10_isDevice_11

def F_X10_toldOf (td : Nat → Int32) (z1 : Int32) (z2 : Int32) : Option (Int32) := (if ((6 * z1) + z2) < 0 ∨ 48 ≤ (((6 * z1) + z2)).toNatClampNeg then none else some ((td ((6 * z1) + z2).toNatClampNeg)))
set_option maxHeartbeats 4000000 in
set_option maxRecDepth 100000 in
theorem c_X10_toldOf (l : Launch) (dC : Nat → ClassId) (dI : Nat → Nat → Nat) (bm : Nat → Nat) (km : Nat → ClassId) (th : Int32) (tn : Int32) (at_ : Int32) (wr : Int32) (rm_ : Int32) (mn : Int32) (sn : Int32) (ac : Int32) (hi : Int32) (dn : Int64) (td : Nat → Int32) (z1 : Int32) (z2 : Int32) (o : Int32) (hG : F_X10_toldOf td z1 z2 = some o) : Met l yX10_toldOf (.code yX10_toldOf cX10_toldOf 3 (some .int) :: wA) ({ frames := 0, cells := 0, slots := 0, locals := 0 }) (va_Pc [.ref (bm 0), .int z1, .int z2] (q_R (dC, dI) [((bm 0), .inr (10, [.int th, .ref (bm 1), .int tn, .int at_, .int wr, .ref (bm 2), .ref (bm 3), .int rm_, .ref (bm 4), .ref (bm 5), .int mn, .ref (bm 6), .ref (bm 7), .int sn, .ref (bm 8), .ref (bm 9), .ref (bm 10), .int ac, .long dn, .ref (bm 11), .ref (bm 12), .ref (bm 13), .ref (bm 14), .int hi])), ((bm 5), .inl ((km 5), 48, .inl td))] [((km 5), .int)])) (q_i o) 0 0 (fun _ => False) := by
  refine Met.ofW (cc := cX10_toldOf) (maxL := 3) (ret := (some .int)) (by decide) rfl ?_
  intro p e s m args below meth c s₁ B hml hv
  obtain ⟨rfl, hP, hK⟩ := hv
  have hx := B.exec
  have hb := B.bytes
  have hr := B.returns
  have hts := atoms_spec (ws := .code yX10_toldOf cX10_toldOf 3 (some .int) :: wA) B.pre
  have hown : s.vm.findClass RX10 = some m.cls := findClass_of_methodNamed B.named
  have hlocks := B.notSynchronized
  have hS : va_S (fun _ => False) s.heap s.heap [] := va_S.rf
  have hl := lv_entry ([.ref (bm 0), .int z1, .int z2]) (n := 3) (Nat.le_of_ble_eq_true rfl)
  rw [lg_entry_eq]
  generalize (lg_sl ([.ref (bm 0), .int z1, .int z2]) ++ List.replicate (3 - (lg_sl ([.ref (bm 0), .int z1, .int z2])).length) Slot.unset).toArray = ls at hl ⊢
  have hl : lv_has ls 3 [(0, .ref (bm 0)), (1, .int z1), (2, .int z2)] := hl
  unfold F_X10_toldOf at hG
  refine lv_aload_n hx hb dX10_toldOf_0 rfl (lv_at hl 0 rfl) ?_
  refine va_get (D := (dC, dI)) (ci := 10) (v := .ref (bm 5)) (C := RX10) (T := TX10) (N := 24) hx hb hts iA_10 hown hK hP 0 rfl rfl 9 (by decide) (hts (.fieldLink RX10 22 "HubTreeModel" "told" "[I") (List.mem_cons_of_mem _ m_119)) (fun _ h9 => h9) rfl dX10_toldOf_1 ?_
  refine lv_bipush (v := 6) hx hb dX10_toldOf_4 (by decide) ?_
  refine lv_iload_n hx hb dX10_toldOf_6 rfl (lv_at hl 1 rfl) ?_
  refine lv_imul hx hb dX10_toldOf_7 ?_
  refine lv_iload_n hx hb dX10_toldOf_8 rfl (lv_at hl 2 rfl) ?_
  refine lv_iadd hx hb dX10_toldOf_9 ?_
  obtain ⟨h_1, hG⟩ := q_ix hG
  refine va_iald hx hb hK hP 1 0 rfl rfl (i := ((6 * z1) + z2)) h_1 dX10_toldOf_10 ?_
  refine q_top (y := (td ((6 * z1) + z2).toNatClampNeg)) rfl ?_
  obtain rfl := Option.some.inj hG
  exact W.iret (v := (td ((6 * z1) + z2).toNatClampNeg)) hx hb hr (fun t ht hW => ⟨⟨(td ((6 * z1) + z2).toNatClampNeg), (), rfl, rfl, trivial⟩, hS.F ht⟩) hS.2.2 dX10_toldOf_11

def F_X10_isHub (mn : Int32) (td : Nat → Int32) (z1 : Int32) : Option (Int32) := ((F_X10_isTree mn).bind fun o_1 => (if o_1 = 0 then ((F_X10_isDevice mn z1).bind fun o_4 => (if o_4 = 0 then some (0) else ((F_X10_toldOf td z1 0).bind fun o_7 => (if o_7 ≤ 0 then some (0) else some (1))))) else (if z1 = 8 then some (1) else ((F_X10_isDevice mn z1).bind fun o_11 => (if o_11 = 0 then some (0) else ((F_X10_toldOf td z1 0).bind fun o_14 => (if o_14 ≤ 0 then some (0) else some (1))))))))
set_option maxHeartbeats 4000000 in
set_option maxRecDepth 100000 in
theorem c_X10_isHub (l : Launch) (dC : Nat → ClassId) (dI : Nat → Nat → Nat) (bm : Nat → Nat) (km : Nat → ClassId) (th : Int32) (tn : Int32) (at_ : Int32) (wr : Int32) (rm_ : Int32) (mn : Int32) (sn : Int32) (ac : Int32) (hi : Int32) (dn : Int64) (td : Nat → Int32) (z1 : Int32) (o : Int32) (hG : F_X10_isHub mn td z1 = some o) : Met l yX10_isHub (.code yX10_isHub cX10_isHub 2 (some .boolean) :: wA) ({ frames := 2, cells := 0, slots := 0, locals := 43 }) (va_Pc [.ref (bm 0), .int z1] (q_R (dC, dI) [((bm 0), .inr (10, [.int th, .ref (bm 1), .int tn, .int at_, .int wr, .ref (bm 2), .ref (bm 3), .int rm_, .ref (bm 4), .ref (bm 5), .int mn, .ref (bm 6), .ref (bm 7), .int sn, .ref (bm 8), .ref (bm 9), .ref (bm 10), .int ac, .long dn, .ref (bm 11), .ref (bm 12), .ref (bm 13), .ref (bm 14), .int hi])), ((bm 5), .inl ((km 5), 48, .inl td))] [((km 5), .int)])) (q_i o) 0 0 (fun _ => False) := by
  refine Met.ofW (cc := cX10_isHub) (maxL := 2) (ret := (some .boolean)) (by decide) rfl ?_
  intro p e s m args below meth c s₁ B hml hv
  obtain ⟨rfl, hP, hK⟩ := hv
  have hx := B.exec
  have hb := B.bytes
  have hr := B.returns
  have hts := atoms_spec (ws := .code yX10_isHub cX10_isHub 2 (some .boolean) :: wA) B.pre
  have hown : s.vm.findClass RX10 = some m.cls := findClass_of_methodNamed B.named
  have hlocks := B.notSynchronized
  have hS : va_S (fun _ => False) s.heap s.heap [] := va_S.rf
  have hl := lv_entry ([.ref (bm 0), .int z1]) (n := 2) (Nat.le_of_ble_eq_true rfl)
  rw [lg_entry_eq]
  generalize (lg_sl ([.ref (bm 0), .int z1]) ++ List.replicate (2 - (lg_sl ([.ref (bm 0), .int z1])).length) Slot.unset).toArray = ls at hl ⊢
  have hl : lv_has ls 2 [(0, .ref (bm 0)), (1, .int z1)] := hl
  unfold F_X10_isHub at hG
  refine lv_aload_n hx hb dX10_isHub_0 rfl (lv_at hl 0 rfl) ?_
  obtain ⟨o_1, r_2, hG⟩ := q_bi hG
  refine q_goi (v := o_1) (va_runV (As := []) (rest := []) ⟨hx, hb, hml, hown, hts⟩ (c_X10_isTree l dC dI bm km th tn at_ wr rm_ mn sn ac hi dn o_1 r_2) (cwV 0 hts (q_gV m_454 m_455 m_456 m_5 m_457) rfl rfl rfl hdV_yX10_isTree_0 ⟨Nat.le_of_ble_eq_true rfl, Nat.le_of_ble_eq_true rfl⟩) (q_preV hK hP (q := (RX10, TX10, 24)) (ci := 10) (q0 := 0) rfl rfl [0] rfl [] rfl) rfl rfl hl.1 rfl (lv_room (Nat.le_of_ble_eq_true rfl)) dX10_isHub_1 ⟨Nat.le_of_ble_eq_true rfl, Nat.le_of_ble_eq_true rfl⟩) hP hS (fun H locs hP hS => ?_)
  refine lv_if_eq (tgt := 13) hx hb dX10_isHub_4 (by decide) (fun c_3 => ?_) (fun c_3 => ?_)
  · have hG := q_ifp c_3 hG
    refine lv_aload_n hx hb dX10_isHub_13 rfl (lv_at hl 0 rfl) ?_
    refine lv_iload_n hx hb dX10_isHub_14 rfl (lv_at hl 1 rfl) ?_
    obtain ⟨o_4, r_5, hG⟩ := q_bi hG
    refine q_goi (v := o_4) (va_runV (As := [.int z1]) (rest := []) ⟨hx, hb, hml, hown, hts⟩ (c_X10_isDevice l dC dI bm km th tn at_ wr rm_ mn sn ac hi dn z1 o_4 r_5) (cwV 1 hts (q_gV m_472 m_473 m_474 m_5 m_475) rfl rfl rfl hdV_yX10_isDevice_1 ⟨Nat.le_of_ble_eq_true rfl, Nat.le_of_ble_eq_true rfl⟩) (q_preV hK hP (q := (RX10, TX10, 24)) (ci := 10) (q0 := 0) rfl rfl [0] rfl [] rfl) rfl rfl hl.1 rfl (lv_room (Nat.le_of_ble_eq_true rfl)) dX10_isHub_15 ⟨Nat.le_of_ble_eq_true rfl, Nat.le_of_ble_eq_true rfl⟩) hP hS (fun H locs hP hS => ?_)
    refine lv_if_eq (tgt := 34) hx hb dX10_isHub_18 (by decide) (fun c_6 => ?_) (fun c_6 => ?_)
    · have hG := q_ifp c_6 hG
      refine lv_iconst (v := 0) hx hb dX10_isHub_34 (by decide) ?_
      obtain rfl := Option.some.inj hG
      exact W.zret (v := 0) hx hb hr rfl (fun t ht hW => ⟨⟨0, (), rfl, rfl, trivial⟩, hS.F ht⟩) hS.2.2 dX10_isHub_35
    · have hG := q_ifn c_6 hG
      refine lv_aload_n hx hb dX10_isHub_21 rfl (lv_at hl 0 rfl) ?_
      refine lv_iload_n hx hb dX10_isHub_22 rfl (lv_at hl 1 rfl) ?_
      refine lv_iconst (v := 0) hx hb dX10_isHub_23 (by decide) ?_
      obtain ⟨o_7, r_8, hG⟩ := q_bi hG
      refine q_goi (v := o_7) (va_runV (As := [.int z1, .int 0]) (rest := []) ⟨hx, hb, hml, hown, hts⟩ (c_X10_toldOf l dC dI bm km th tn at_ wr rm_ mn sn ac hi dn td z1 0 o_7 r_8) (cwV 2 hts (q_gV m_440 m_441 m_442 m_5 m_443) rfl rfl rfl hdV_yX10_toldOf_2 ⟨Nat.le_of_ble_eq_true rfl, Nat.le_of_ble_eq_true rfl⟩) (q_preV hK hP (q := (RX10, TX10, 24)) (ci := 10) (q0 := 0) rfl rfl [0, 1] rfl [0] rfl) rfl rfl hl.1 rfl (lv_room (Nat.le_of_ble_eq_true rfl)) dX10_isHub_24 ⟨Nat.le_of_ble_eq_true rfl, Nat.le_of_ble_eq_true rfl⟩) hP hS (fun H locs hP hS => ?_)
      refine lv_if_le (tgt := 34) hx hb dX10_isHub_27 (by decide) (fun c_9 => ?_) (fun c_9 => ?_)
      · have hG := q_ifp c_9 hG
        refine lv_iconst (v := 0) hx hb dX10_isHub_34 (by decide) ?_
        obtain rfl := Option.some.inj hG
        exact W.zret (v := 0) hx hb hr rfl (fun t ht hW => ⟨⟨0, (), rfl, rfl, trivial⟩, hS.F ht⟩) hS.2.2 dX10_isHub_35
      · have hG := q_ifn c_9 hG
        refine lv_iconst (v := 1) hx hb dX10_isHub_30 (by decide) ?_
        refine lv_goto (tgt := 35) hx hb dX10_isHub_31 (by decide) ?_
        obtain rfl := Option.some.inj hG
        exact W.zret (v := 1) hx hb hr rfl (fun t ht hW => ⟨⟨1, (), rfl, rfl, trivial⟩, hS.F ht⟩) hS.2.2 dX10_isHub_35
  · have hG := q_ifn c_3 hG
    refine lv_iload_n hx hb dX10_isHub_7 rfl (lv_at hl 1 rfl) ?_
    refine lv_bipush (v := 8) hx hb dX10_isHub_8 (by decide) ?_
    refine lv_icmp_eq (tgt := 30) hx hb dX10_isHub_10 (by decide) (fun c_10 => ?_) (fun c_10 => ?_)
    · have hG := q_ifp c_10 hG
      refine lv_iconst (v := 1) hx hb dX10_isHub_30 (by decide) ?_
      refine lv_goto (tgt := 35) hx hb dX10_isHub_31 (by decide) ?_
      obtain rfl := Option.some.inj hG
      exact W.zret (v := 1) hx hb hr rfl (fun t ht hW => ⟨⟨1, (), rfl, rfl, trivial⟩, hS.F ht⟩) hS.2.2 dX10_isHub_35
    · have hG := q_ifn c_10 hG
      refine lv_aload_n hx hb dX10_isHub_13 rfl (lv_at hl 0 rfl) ?_
      refine lv_iload_n hx hb dX10_isHub_14 rfl (lv_at hl 1 rfl) ?_
      obtain ⟨o_11, r_12, hG⟩ := q_bi hG
      refine q_goi (v := o_11) (va_runV (As := [.int z1]) (rest := []) ⟨hx, hb, hml, hown, hts⟩ (c_X10_isDevice l dC dI bm km th tn at_ wr rm_ mn sn ac hi dn z1 o_11 r_12) (cwV 1 hts (q_gV m_472 m_473 m_474 m_5 m_475) rfl rfl rfl hdV_yX10_isDevice_1 ⟨Nat.le_of_ble_eq_true rfl, Nat.le_of_ble_eq_true rfl⟩) (q_preV hK hP (q := (RX10, TX10, 24)) (ci := 10) (q0 := 0) rfl rfl [0] rfl [] rfl) rfl rfl hl.1 rfl (lv_room (Nat.le_of_ble_eq_true rfl)) dX10_isHub_15 ⟨Nat.le_of_ble_eq_true rfl, Nat.le_of_ble_eq_true rfl⟩) hP hS (fun H locs hP hS => ?_)
      refine lv_if_eq (tgt := 34) hx hb dX10_isHub_18 (by decide) (fun c_13 => ?_) (fun c_13 => ?_)
      · have hG := q_ifp c_13 hG
        refine lv_iconst (v := 0) hx hb dX10_isHub_34 (by decide) ?_
        obtain rfl := Option.some.inj hG
        exact W.zret (v := 0) hx hb hr rfl (fun t ht hW => ⟨⟨0, (), rfl, rfl, trivial⟩, hS.F ht⟩) hS.2.2 dX10_isHub_35
      · have hG := q_ifn c_13 hG
        refine lv_aload_n hx hb dX10_isHub_21 rfl (lv_at hl 0 rfl) ?_
        refine lv_iload_n hx hb dX10_isHub_22 rfl (lv_at hl 1 rfl) ?_
        refine lv_iconst (v := 0) hx hb dX10_isHub_23 (by decide) ?_
        obtain ⟨o_14, r_15, hG⟩ := q_bi hG
        refine q_goi (v := o_14) (va_runV (As := [.int z1, .int 0]) (rest := []) ⟨hx, hb, hml, hown, hts⟩ (c_X10_toldOf l dC dI bm km th tn at_ wr rm_ mn sn ac hi dn td z1 0 o_14 r_15) (cwV 2 hts (q_gV m_440 m_441 m_442 m_5 m_443) rfl rfl rfl hdV_yX10_toldOf_2 ⟨Nat.le_of_ble_eq_true rfl, Nat.le_of_ble_eq_true rfl⟩) (q_preV hK hP (q := (RX10, TX10, 24)) (ci := 10) (q0 := 0) rfl rfl [0, 1] rfl [0] rfl) rfl rfl hl.1 rfl (lv_room (Nat.le_of_ble_eq_true rfl)) dX10_isHub_24 ⟨Nat.le_of_ble_eq_true rfl, Nat.le_of_ble_eq_true rfl⟩) hP hS (fun H locs hP hS => ?_)
        refine lv_if_le (tgt := 34) hx hb dX10_isHub_27 (by decide) (fun c_16 => ?_) (fun c_16 => ?_)
        · have hG := q_ifp c_16 hG
          refine lv_iconst (v := 0) hx hb dX10_isHub_34 (by decide) ?_
          obtain rfl := Option.some.inj hG
          exact W.zret (v := 0) hx hb hr rfl (fun t ht hW => ⟨⟨0, (), rfl, rfl, trivial⟩, hS.F ht⟩) hS.2.2 dX10_isHub_35
        · have hG := q_ifn c_16 hG
          refine lv_iconst (v := 1) hx hb dX10_isHub_30 (by decide) ?_
          refine lv_goto (tgt := 35) hx hb dX10_isHub_31 (by decide) ?_
          obtain rfl := Option.some.inj hG
          exact W.zret (v := 1) hx hb hr rfl (fun t ht hW => ⟨⟨1, (), rfl, rfl, trivial⟩, hS.F ht⟩) hS.2.2 dX10_isHub_35

def F_X10_portsOf (ru : Nat → Int32) (td : Nat → Int32) (z1 : Int32) : Option (Int32) := (if z1 = 8 then some ((ru 0)) else ((F_X10_toldOf td z1 0).bind fun o_2 => some (o_2)))
set_option maxHeartbeats 4000000 in
set_option maxRecDepth 100000 in
theorem c_X10_portsOf (l : Launch) (dC : Nat → ClassId) (dI : Nat → Nat → Nat) (bm : Nat → Nat) (km : Nat → ClassId) (th : Int32) (tn : Int32) (at_ : Int32) (wr : Int32) (rm_ : Int32) (mn : Int32) (sn : Int32) (ac : Int32) (hi : Int32) (dn : Int64) (ru : Nat → Int32) (td : Nat → Int32) (z1 : Int32) (o : Int32) (hG : F_X10_portsOf ru td z1 = some o) : Met l yX10_portsOf (.code yX10_portsOf cX10_portsOf 2 (some .int) :: wA) ({ frames := 1, cells := 0, slots := 0, locals := 22 }) (va_Pc [.ref (bm 0), .int z1] (q_R (dC, dI) [((bm 0), .inr (10, [.int th, .ref (bm 1), .int tn, .int at_, .int wr, .ref (bm 2), .ref (bm 3), .int rm_, .ref (bm 4), .ref (bm 5), .int mn, .ref (bm 6), .ref (bm 7), .int sn, .ref (bm 8), .ref (bm 9), .ref (bm 10), .int ac, .long dn, .ref (bm 11), .ref (bm 12), .ref (bm 13), .ref (bm 14), .int hi])), ((bm 4), .inl ((km 4), 8, .inl ru)), ((bm 5), .inl ((km 5), 48, .inl td))] [((km 4), .int), ((km 5), .int)])) (q_i o) 0 0 (fun _ => False) := by
  refine Met.ofW (cc := cX10_portsOf) (maxL := 2) (ret := (some .int)) (by decide) rfl ?_
  intro p e s m args below meth c s₁ B hml hv
  obtain ⟨rfl, hP, hK⟩ := hv
  have hx := B.exec
  have hb := B.bytes
  have hr := B.returns
  have hts := atoms_spec (ws := .code yX10_portsOf cX10_portsOf 2 (some .int) :: wA) B.pre
  have hown : s.vm.findClass RX10 = some m.cls := findClass_of_methodNamed B.named
  have hlocks := B.notSynchronized
  have hS : va_S (fun _ => False) s.heap s.heap [] := va_S.rf
  have hl := lv_entry ([.ref (bm 0), .int z1]) (n := 2) (Nat.le_of_ble_eq_true rfl)
  rw [lg_entry_eq]
  generalize (lg_sl ([.ref (bm 0), .int z1]) ++ List.replicate (2 - (lg_sl ([.ref (bm 0), .int z1])).length) Slot.unset).toArray = ls at hl ⊢
  have hl : lv_has ls 2 [(0, .ref (bm 0)), (1, .int z1)] := hl
  unfold F_X10_portsOf at hG
  refine lv_iload_n hx hb dX10_portsOf_0 rfl (lv_at hl 1 rfl) ?_
  refine lv_bipush (v := 8) hx hb dX10_portsOf_1 (by decide) ?_
  refine lv_icmp_ne (tgt := 15) hx hb dX10_portsOf_3 (by decide) (fun c_1 => ?_) (fun c_1 => ?_)
  · have hG := q_ifn c_1 hG
    refine lv_aload_n hx hb dX10_portsOf_15 rfl (lv_at hl 0 rfl) ?_
    refine lv_iload_n hx hb dX10_portsOf_16 rfl (lv_at hl 1 rfl) ?_
    refine lv_iconst (v := 0) hx hb dX10_portsOf_17 (by decide) ?_
    obtain ⟨o_2, r_3, hG⟩ := q_bi hG
    refine q_goi (v := o_2) (va_runV (As := [.int z1, .int 0]) (rest := []) ⟨hx, hb, hml, hown, hts⟩ (c_X10_toldOf l dC dI bm km th tn at_ wr rm_ mn sn ac hi dn td z1 0 o_2 r_3) (cwV 2 hts (q_gV m_440 m_441 m_442 m_5 m_443) rfl rfl rfl hdV_yX10_toldOf_2 ⟨Nat.le_of_ble_eq_true rfl, Nat.le_of_ble_eq_true rfl⟩) (q_preV hK hP (q := (RX10, TX10, 24)) (ci := 10) (q0 := 0) rfl rfl [0, 2] rfl [1] rfl) rfl rfl hl.1 rfl (lv_room (Nat.le_of_ble_eq_true rfl)) dX10_portsOf_18 ⟨Nat.le_of_ble_eq_true rfl, Nat.le_of_ble_eq_true rfl⟩) hP hS (fun H locs hP hS => ?_)
    obtain rfl := Option.some.inj hG
    exact W.iret (v := o_2) hx hb hr (fun t ht hW => ⟨⟨o_2, (), rfl, rfl, trivial⟩, hS.F ht⟩) hS.2.2 dX10_portsOf_21
  · have hG := q_ifp c_1 hG
    refine lv_aload_n hx hb dX10_portsOf_6 rfl (lv_at hl 0 rfl) ?_
    refine va_get (D := (dC, dI)) (ci := 10) (v := .ref (bm 4)) (C := RX10) (T := TX10) (N := 24) hx hb hts iA_10 hown hK hP 0 rfl rfl 8 (by decide) (hts (.fieldLink RX10 19 "HubTreeModel" "rule" "[I") (List.mem_cons_of_mem _ m_118)) (fun _ h9 => h9) rfl dX10_portsOf_7 ?_
    refine lv_iconst (v := 0) hx hb dX10_portsOf_10 (by decide) ?_
    refine va_iald hx hb hK hP 1 0 rfl rfl (i := 0) (vp_in_iff.mpr (by decide)) dX10_portsOf_11 ?_
    refine q_top (y := (ru 0)) rfl ?_
    refine lv_goto (tgt := 21) hx hb dX10_portsOf_12 (by decide) ?_
    obtain rfl := Option.some.inj hG
    exact W.iret (v := (ru 0)) hx hb hr (fun t ht hW => ⟨⟨(ru 0), (), rfl, rfl, trivial⟩, hS.F ht⟩) hS.2.2 dX10_portsOf_21

def F_X10_state (nw : Nat → Int32) (z1 : Int32) : Option (Int32) := (if (0 + z1) < 0 ∨ 279 ≤ ((0 + z1)).toNatClampNeg then none else some ((nw (0 + z1).toNatClampNeg)))
set_option maxHeartbeats 4000000 in
set_option maxRecDepth 100000 in
theorem c_X10_state (l : Launch) (dC : Nat → ClassId) (dI : Nat → Nat → Nat) (bm : Nat → Nat) (km : Nat → ClassId) (th : Int32) (tn : Int32) (at_ : Int32) (wr : Int32) (rm_ : Int32) (mn : Int32) (sn : Int32) (ac : Int32) (hi : Int32) (dn : Int64) (nw : Nat → Int32) (z1 : Int32) (o : Int32) (hG : F_X10_state nw z1 = some o) : Met l yX10_state (.code yX10_state cX10_state 2 (some .int) :: wA) ({ frames := 0, cells := 0, slots := 0, locals := 0 }) (va_Pc [.ref (bm 0), .int z1] (q_R (dC, dI) [((bm 0), .inr (10, [.int th, .ref (bm 1), .int tn, .int at_, .int wr, .ref (bm 2), .ref (bm 3), .int rm_, .ref (bm 4), .ref (bm 5), .int mn, .ref (bm 6), .ref (bm 7), .int sn, .ref (bm 8), .ref (bm 9), .ref (bm 10), .int ac, .long dn, .ref (bm 11), .ref (bm 12), .ref (bm 13), .ref (bm 14), .int hi])), ((bm 8), .inl ((km 8), 279, .inl nw))] [((km 8), .int)])) (q_i o) 0 0 (fun _ => False) := by
  refine Met.ofW (cc := cX10_state) (maxL := 2) (ret := (some .int)) (by decide) rfl ?_
  intro p e s m args below meth c s₁ B hml hv
  obtain ⟨rfl, hP, hK⟩ := hv
  have hx := B.exec
  have hb := B.bytes
  have hr := B.returns
  have hts := atoms_spec (ws := .code yX10_state cX10_state 2 (some .int) :: wA) B.pre
  have hown : s.vm.findClass RX10 = some m.cls := findClass_of_methodNamed B.named
  have hlocks := B.notSynchronized
  have hS : va_S (fun _ => False) s.heap s.heap [] := va_S.rf
  have hl := lv_entry ([.ref (bm 0), .int z1]) (n := 2) (Nat.le_of_ble_eq_true rfl)
  rw [lg_entry_eq]
  generalize (lg_sl ([.ref (bm 0), .int z1]) ++ List.replicate (2 - (lg_sl ([.ref (bm 0), .int z1])).length) Slot.unset).toArray = ls at hl ⊢
  have hl : lv_has ls 2 [(0, .ref (bm 0)), (1, .int z1)] := hl
  unfold F_X10_state at hG
  refine lv_aload_n hx hb dX10_state_0 rfl (lv_at hl 0 rfl) ?_
  refine va_get (D := (dC, dI)) (ci := 10) (v := .ref (bm 8)) (C := RX10) (T := TX10) (N := 24) hx hb hts iA_10 hown hK hP 0 rfl rfl 14 (by decide) (hts (.fieldLink RX10 31 "HubTreeModel" "now" "[I") (List.mem_cons_of_mem _ m_122)) (fun _ h9 => h9) rfl dX10_state_1 ?_
  refine lv_iconst (v := 0) hx hb dX10_state_4 (by decide) ?_
  refine lv_iload_n hx hb dX10_state_5 rfl (lv_at hl 1 rfl) ?_
  refine lv_iadd hx hb dX10_state_6 ?_
  obtain ⟨h_1, hG⟩ := q_ix hG
  refine va_iald hx hb hK hP 1 0 rfl rfl (i := (0 + z1)) h_1 dX10_state_7 ?_
  refine q_top (y := (nw (0 + z1).toNatClampNeg)) rfl ?_
  obtain rfl := Option.some.inj hG
  exact W.iret (v := (nw (0 + z1).toNatClampNeg)) hx hb hr (fun t ht hW => ⟨⟨(nw (0 + z1).toNatClampNeg), (), rfl, rfl, trivial⟩, hS.F ht⟩) hS.2.2 dX10_state_8

def F_X10_isAsleep (nw : Nat → Int32) (z1 : Int32) : Option (Int32) := (if z1 = 8 then some (0) else (if (88 + z1) < 0 ∨ 279 ≤ ((88 + z1)).toNatClampNeg then none else (if (nw (88 + z1).toNatClampNeg) = 1 then some (1) else some (0))))
set_option maxHeartbeats 4000000 in
set_option maxRecDepth 100000 in
theorem c_X10_isAsleep (l : Launch) (dC : Nat → ClassId) (dI : Nat → Nat → Nat) (bm : Nat → Nat) (km : Nat → ClassId) (th : Int32) (tn : Int32) (at_ : Int32) (wr : Int32) (rm_ : Int32) (mn : Int32) (sn : Int32) (ac : Int32) (hi : Int32) (dn : Int64) (nw : Nat → Int32) (z1 : Int32) (o : Int32) (hG : F_X10_isAsleep nw z1 = some o) : Met l yX10_isAsleep (.code yX10_isAsleep cX10_isAsleep 2 (some .boolean) :: wA) ({ frames := 0, cells := 0, slots := 0, locals := 0 }) (va_Pc [.ref (bm 0), .int z1] (q_R (dC, dI) [((bm 0), .inr (10, [.int th, .ref (bm 1), .int tn, .int at_, .int wr, .ref (bm 2), .ref (bm 3), .int rm_, .ref (bm 4), .ref (bm 5), .int mn, .ref (bm 6), .ref (bm 7), .int sn, .ref (bm 8), .ref (bm 9), .ref (bm 10), .int ac, .long dn, .ref (bm 11), .ref (bm 12), .ref (bm 13), .ref (bm 14), .int hi])), ((bm 8), .inl ((km 8), 279, .inl nw))] [((km 8), .int)])) (q_i o) 0 0 (fun _ => False) := by
  refine Met.ofW (cc := cX10_isAsleep) (maxL := 2) (ret := (some .boolean)) (by decide) rfl ?_
  intro p e s m args below meth c s₁ B hml hv
  obtain ⟨rfl, hP, hK⟩ := hv
  have hx := B.exec
  have hb := B.bytes
  have hr := B.returns
  have hts := atoms_spec (ws := .code yX10_isAsleep cX10_isAsleep 2 (some .boolean) :: wA) B.pre
  have hown : s.vm.findClass RX10 = some m.cls := findClass_of_methodNamed B.named
  have hlocks := B.notSynchronized
  have hS : va_S (fun _ => False) s.heap s.heap [] := va_S.rf
  have hl := lv_entry ([.ref (bm 0), .int z1]) (n := 2) (Nat.le_of_ble_eq_true rfl)
  rw [lg_entry_eq]
  generalize (lg_sl ([.ref (bm 0), .int z1]) ++ List.replicate (2 - (lg_sl ([.ref (bm 0), .int z1])).length) Slot.unset).toArray = ls at hl ⊢
  have hl : lv_has ls 2 [(0, .ref (bm 0)), (1, .int z1)] := hl
  unfold F_X10_isAsleep at hG
  refine lv_iload_n hx hb dX10_isAsleep_0 rfl (lv_at hl 1 rfl) ?_
  refine lv_bipush (v := 8) hx hb dX10_isAsleep_1 (by decide) ?_
  refine lv_icmp_eq (tgt := 23) hx hb dX10_isAsleep_3 (by decide) (fun c_1 => ?_) (fun c_1 => ?_)
  · have hG := q_ifp c_1 hG
    refine lv_iconst (v := 0) hx hb dX10_isAsleep_23 (by decide) ?_
    obtain rfl := Option.some.inj hG
    exact W.zret (v := 0) hx hb hr rfl (fun t ht hW => ⟨⟨0, (), rfl, rfl, trivial⟩, hS.F ht⟩) hS.2.2 dX10_isAsleep_24
  · have hG := q_ifn c_1 hG
    refine lv_aload_n hx hb dX10_isAsleep_6 rfl (lv_at hl 0 rfl) ?_
    refine va_get (D := (dC, dI)) (ci := 10) (v := .ref (bm 8)) (C := RX10) (T := TX10) (N := 24) hx hb hts iA_10 hown hK hP 0 rfl rfl 14 (by decide) (hts (.fieldLink RX10 31 "HubTreeModel" "now" "[I") (List.mem_cons_of_mem _ m_122)) (fun _ h9 => h9) rfl dX10_isAsleep_7 ?_
    refine lv_bipush (v := 88) hx hb dX10_isAsleep_10 (by decide) ?_
    refine lv_iload_n hx hb dX10_isAsleep_12 rfl (lv_at hl 1 rfl) ?_
    refine lv_iadd hx hb dX10_isAsleep_13 ?_
    obtain ⟨h_2, hG⟩ := q_ix hG
    refine va_iald hx hb hK hP 1 0 rfl rfl (i := (88 + z1)) h_2 dX10_isAsleep_14 ?_
    refine q_top (y := (nw (88 + z1).toNatClampNeg)) rfl ?_
    refine lv_iconst (v := 1) hx hb dX10_isAsleep_15 (by decide) ?_
    refine lv_icmp_ne (tgt := 23) hx hb dX10_isAsleep_16 (by decide) (fun c_3 => ?_) (fun c_3 => ?_)
    · have hG := q_ifn c_3 hG
      refine lv_iconst (v := 0) hx hb dX10_isAsleep_23 (by decide) ?_
      obtain rfl := Option.some.inj hG
      exact W.zret (v := 0) hx hb hr rfl (fun t ht hW => ⟨⟨0, (), rfl, rfl, trivial⟩, hS.F ht⟩) hS.2.2 dX10_isAsleep_24
    · have hG := q_ifp c_3 hG
      refine lv_iconst (v := 1) hx hb dX10_isAsleep_19 (by decide) ?_
      refine lv_goto (tgt := 24) hx hb dX10_isAsleep_20 (by decide) ?_
      obtain rfl := Option.some.inj hG
      exact W.zret (v := 1) hx hb hr rfl (fun t ht hW => ⟨⟨1, (), rfl, rfl, trivial⟩, hS.F ht⟩) hS.2.2 dX10_isAsleep_24

def F_X10_isRunning (nw : Nat → Int32) (z1 : Int32) : Option (Int32) := (if z1 = 8 then some (1) else ((F_X10_state nw z1).bind fun o_2 => (if o_2 = 6 then some (1) else some (0))))
set_option maxHeartbeats 4000000 in
set_option maxRecDepth 100000 in
theorem c_X10_isRunning (l : Launch) (dC : Nat → ClassId) (dI : Nat → Nat → Nat) (bm : Nat → Nat) (km : Nat → ClassId) (th : Int32) (tn : Int32) (at_ : Int32) (wr : Int32) (rm_ : Int32) (mn : Int32) (sn : Int32) (ac : Int32) (hi : Int32) (dn : Int64) (nw : Nat → Int32) (z1 : Int32) (o : Int32) (hG : F_X10_isRunning nw z1 = some o) : Met l yX10_isRunning (.code yX10_isRunning cX10_isRunning 2 (some .boolean) :: wA) ({ frames := 1, cells := 0, slots := 0, locals := 21 }) (va_Pc [.ref (bm 0), .int z1] (q_R (dC, dI) [((bm 0), .inr (10, [.int th, .ref (bm 1), .int tn, .int at_, .int wr, .ref (bm 2), .ref (bm 3), .int rm_, .ref (bm 4), .ref (bm 5), .int mn, .ref (bm 6), .ref (bm 7), .int sn, .ref (bm 8), .ref (bm 9), .ref (bm 10), .int ac, .long dn, .ref (bm 11), .ref (bm 12), .ref (bm 13), .ref (bm 14), .int hi])), ((bm 8), .inl ((km 8), 279, .inl nw))] [((km 8), .int)])) (q_i o) 0 0 (fun _ => False) := by
  refine Met.ofW (cc := cX10_isRunning) (maxL := 2) (ret := (some .boolean)) (by decide) rfl ?_
  intro p e s m args below meth c s₁ B hml hv
  obtain ⟨rfl, hP, hK⟩ := hv
  have hx := B.exec
  have hb := B.bytes
  have hr := B.returns
  have hts := atoms_spec (ws := .code yX10_isRunning cX10_isRunning 2 (some .boolean) :: wA) B.pre
  have hown : s.vm.findClass RX10 = some m.cls := findClass_of_methodNamed B.named
  have hlocks := B.notSynchronized
  have hS : va_S (fun _ => False) s.heap s.heap [] := va_S.rf
  have hl := lv_entry ([.ref (bm 0), .int z1]) (n := 2) (Nat.le_of_ble_eq_true rfl)
  rw [lg_entry_eq]
  generalize (lg_sl ([.ref (bm 0), .int z1]) ++ List.replicate (2 - (lg_sl ([.ref (bm 0), .int z1])).length) Slot.unset).toArray = ls at hl ⊢
  have hl : lv_has ls 2 [(0, .ref (bm 0)), (1, .int z1)] := hl
  unfold F_X10_isRunning at hG
  refine lv_iload_n hx hb dX10_isRunning_0 rfl (lv_at hl 1 rfl) ?_
  refine lv_bipush (v := 8) hx hb dX10_isRunning_1 (by decide) ?_
  refine lv_icmp_eq (tgt := 16) hx hb dX10_isRunning_3 (by decide) (fun c_1 => ?_) (fun c_1 => ?_)
  · have hG := q_ifp c_1 hG
    refine lv_iconst (v := 1) hx hb dX10_isRunning_16 (by decide) ?_
    refine lv_goto (tgt := 21) hx hb dX10_isRunning_17 (by decide) ?_
    obtain rfl := Option.some.inj hG
    exact W.zret (v := 1) hx hb hr rfl (fun t ht hW => ⟨⟨1, (), rfl, rfl, trivial⟩, hS.F ht⟩) hS.2.2 dX10_isRunning_21
  · have hG := q_ifn c_1 hG
    refine lv_aload_n hx hb dX10_isRunning_6 rfl (lv_at hl 0 rfl) ?_
    refine lv_iload_n hx hb dX10_isRunning_7 rfl (lv_at hl 1 rfl) ?_
    obtain ⟨o_2, r_3, hG⟩ := q_bi hG
    refine q_goi (v := o_2) (va_runV (As := [.int z1]) (rest := []) ⟨hx, hb, hml, hown, hts⟩ (c_X10_state l dC dI bm km th tn at_ wr rm_ mn sn ac hi dn nw z1 o_2 r_3) (cwV 1 hts (q_gV m_504 m_505 m_506 m_5 m_507) rfl rfl rfl hdV_yX10_state_1 ⟨Nat.le_of_ble_eq_true rfl, Nat.le_of_ble_eq_true rfl⟩) (q_preV hK hP (q := (RX10, TX10, 24)) (ci := 10) (q0 := 0) rfl rfl [0, 1] rfl [0] rfl) rfl rfl hl.1 rfl (lv_room (Nat.le_of_ble_eq_true rfl)) dX10_isRunning_8 ⟨Nat.le_of_ble_eq_true rfl, Nat.le_of_ble_eq_true rfl⟩) hP hS (fun H locs hP hS => ?_)
    refine lv_bipush (v := 6) hx hb dX10_isRunning_11 (by decide) ?_
    refine lv_icmp_ne (tgt := 20) hx hb dX10_isRunning_13 (by decide) (fun c_4 => ?_) (fun c_4 => ?_)
    · have hG := q_ifn c_4 hG
      refine lv_iconst (v := 0) hx hb dX10_isRunning_20 (by decide) ?_
      obtain rfl := Option.some.inj hG
      exact W.zret (v := 0) hx hb hr rfl (fun t ht hW => ⟨⟨0, (), rfl, rfl, trivial⟩, hS.F ht⟩) hS.2.2 dX10_isRunning_21
    · have hG := q_ifp c_4 hG
      refine lv_iconst (v := 1) hx hb dX10_isRunning_16 (by decide) ?_
      refine lv_goto (tgt := 21) hx hb dX10_isRunning_17 (by decide) ?_
      obtain rfl := Option.some.inj hG
      exact W.zret (v := 1) hx hb hr rfl (fun t ht hW => ⟨⟨1, (), rfl, rfl, trivial⟩, hS.F ht⟩) hS.2.2 dX10_isRunning_21

def F_X10_speedOf (nw : Nat → Int32) (z1 : Int32) : Option (Int32) := (if z1 = 8 then some (2) else (if (48 + z1) < 0 ∨ 279 ≤ ((48 + z1)).toNatClampNeg then none else some ((nw (48 + z1).toNatClampNeg))))
set_option maxHeartbeats 4000000 in
set_option maxRecDepth 100000 in
theorem c_X10_speedOf (l : Launch) (dC : Nat → ClassId) (dI : Nat → Nat → Nat) (bm : Nat → Nat) (km : Nat → ClassId) (th : Int32) (tn : Int32) (at_ : Int32) (wr : Int32) (rm_ : Int32) (mn : Int32) (sn : Int32) (ac : Int32) (hi : Int32) (dn : Int64) (nw : Nat → Int32) (z1 : Int32) (o : Int32) (hG : F_X10_speedOf nw z1 = some o) : Met l yX10_speedOf (.code yX10_speedOf cX10_speedOf 2 (some .int) :: wA) ({ frames := 0, cells := 0, slots := 0, locals := 0 }) (va_Pc [.ref (bm 0), .int z1] (q_R (dC, dI) [((bm 0), .inr (10, [.int th, .ref (bm 1), .int tn, .int at_, .int wr, .ref (bm 2), .ref (bm 3), .int rm_, .ref (bm 4), .ref (bm 5), .int mn, .ref (bm 6), .ref (bm 7), .int sn, .ref (bm 8), .ref (bm 9), .ref (bm 10), .int ac, .long dn, .ref (bm 11), .ref (bm 12), .ref (bm 13), .ref (bm 14), .int hi])), ((bm 8), .inl ((km 8), 279, .inl nw))] [((km 8), .int)])) (q_i o) 0 0 (fun _ => False) := by
  refine Met.ofW (cc := cX10_speedOf) (maxL := 2) (ret := (some .int)) (by decide) rfl ?_
  intro p e s m args below meth c s₁ B hml hv
  obtain ⟨rfl, hP, hK⟩ := hv
  have hx := B.exec
  have hb := B.bytes
  have hr := B.returns
  have hts := atoms_spec (ws := .code yX10_speedOf cX10_speedOf 2 (some .int) :: wA) B.pre
  have hown : s.vm.findClass RX10 = some m.cls := findClass_of_methodNamed B.named
  have hlocks := B.notSynchronized
  have hS : va_S (fun _ => False) s.heap s.heap [] := va_S.rf
  have hl := lv_entry ([.ref (bm 0), .int z1]) (n := 2) (Nat.le_of_ble_eq_true rfl)
  rw [lg_entry_eq]
  generalize (lg_sl ([.ref (bm 0), .int z1]) ++ List.replicate (2 - (lg_sl ([.ref (bm 0), .int z1])).length) Slot.unset).toArray = ls at hl ⊢
  have hl : lv_has ls 2 [(0, .ref (bm 0)), (1, .int z1)] := hl
  unfold F_X10_speedOf at hG
  refine lv_iload_n hx hb dX10_speedOf_0 rfl (lv_at hl 1 rfl) ?_
  refine lv_bipush (v := 8) hx hb dX10_speedOf_1 (by decide) ?_
  refine lv_icmp_ne (tgt := 10) hx hb dX10_speedOf_3 (by decide) (fun c_1 => ?_) (fun c_1 => ?_)
  · have hG := q_ifn c_1 hG
    refine lv_aload_n hx hb dX10_speedOf_10 rfl (lv_at hl 0 rfl) ?_
    refine va_get (D := (dC, dI)) (ci := 10) (v := .ref (bm 8)) (C := RX10) (T := TX10) (N := 24) hx hb hts iA_10 hown hK hP 0 rfl rfl 14 (by decide) (hts (.fieldLink RX10 31 "HubTreeModel" "now" "[I") (List.mem_cons_of_mem _ m_122)) (fun _ h9 => h9) rfl dX10_speedOf_11 ?_
    refine lv_bipush (v := 48) hx hb dX10_speedOf_14 (by decide) ?_
    refine lv_iload_n hx hb dX10_speedOf_16 rfl (lv_at hl 1 rfl) ?_
    refine lv_iadd hx hb dX10_speedOf_17 ?_
    obtain ⟨h_2, hG⟩ := q_ix hG
    refine va_iald hx hb hK hP 1 0 rfl rfl (i := (48 + z1)) h_2 dX10_speedOf_18 ?_
    refine q_top (y := (nw (48 + z1).toNatClampNeg)) rfl ?_
    obtain rfl := Option.some.inj hG
    exact W.iret (v := (nw (48 + z1).toNatClampNeg)) hx hb hr (fun t ht hW => ⟨⟨(nw (48 + z1).toNatClampNeg), (), rfl, rfl, trivial⟩, hS.F ht⟩) hS.2.2 dX10_speedOf_19
  · have hG := q_ifp c_1 hG
    refine lv_iconst (v := 2) hx hb dX10_speedOf_6 (by decide) ?_
    refine lv_goto (tgt := 19) hx hb dX10_speedOf_7 (by decide) ?_
    obtain rfl := Option.some.inj hG
    exact W.iret (v := 2) hx hb hr (fun t ht hW => ⟨⟨2, (), rfl, rfl, trivial⟩, hS.F ht⟩) hS.2.2 dX10_speedOf_19

def F_X10_clear (nw : Nat → Int32) (z1 : Int32) : Option ((Nat → Int32)) := (if (0 + z1) < 0 ∨ 279 ≤ ((0 + z1)).toNatClampNeg then none else (if (8 + z1) < 0 ∨ 279 ≤ ((8 + z1)).toNatClampNeg then none else (if (16 + z1) < 0 ∨ 279 ≤ ((16 + z1)).toNatClampNeg then none else (if (24 + z1) < 0 ∨ 279 ≤ ((24 + z1)).toNatClampNeg then none else (if (32 + z1) < 0 ∨ 279 ≤ ((32 + z1)).toNatClampNeg then none else (if (40 + z1) < 0 ∨ 279 ≤ ((40 + z1)).toNatClampNeg then none else (if (48 + z1) < 0 ∨ 279 ≤ ((48 + z1)).toNatClampNeg then none else (if (56 + z1) < 0 ∨ 279 ≤ ((56 + z1)).toNatClampNeg then none else (if (64 + z1) < 0 ∨ 279 ≤ ((64 + z1)).toNatClampNeg then none else (if (88 + z1) < 0 ∨ 279 ≤ ((88 + z1)).toNatClampNeg then none else some ((upd (upd (upd (upd (upd (upd (upd (upd (upd (upd nw (0 + z1).toNatClampNeg 0) (8 + z1).toNatClampNeg 0) (16 + z1).toNatClampNeg 0) (24 + z1).toNatClampNeg 0) (32 + z1).toNatClampNeg (-1)) (40 + z1).toNatClampNeg (-1)) (48 + z1).toNatClampNeg (-1)) (56 + z1).toNatClampNeg 0) (64 + z1).toNatClampNeg 0) (88 + z1).toNatClampNeg 0))))))))))))
set_option maxHeartbeats 4000000 in
set_option maxRecDepth 100000 in
theorem c_X10_clear (l : Launch) (dC : Nat → ClassId) (dI : Nat → Nat → Nat) (bm : Nat → Nat) (km : Nat → ClassId) (th : Int32) (tn : Int32) (at_ : Int32) (wr : Int32) (rm_ : Int32) (mn : Int32) (sn : Int32) (ac : Int32) (hi : Int32) (dn : Int64) (nw : Nat → Int32) (z1 : Int32) (A : Nat → Prop) (o : (Nat → Int32)) (hG : F_X10_clear nw z1 = some o) : Met l yX10_clear (.code yX10_clear cX10_clear 2 none :: wA) ({ frames := 0, cells := 0, slots := 0, locals := 0 }) (va_Pc [.ref (bm 0), .int z1] (q_W (dC, dI) A [((bm 0), .inr (10, [.int th, .ref (bm 1), .int tn, .int at_, .int wr, .ref (bm 2), .ref (bm 3), .int rm_, .ref (bm 4), .ref (bm 5), .int mn, .ref (bm 6), .ref (bm 7), .int sn, .ref (bm 8), .ref (bm 9), .ref (bm 10), .int ac, .long dn, .ref (bm 11), .ref (bm 12), .ref (bm 13), .ref (bm 14), .int hi])), ((bm 8), .inl ((km 8), 279, .inl nw))] [((km 8), .int)])) (va_Qv (fun _ : Unit => True) (fun (_ : Unit) t => q_B (dC, dI) A [((bm 0), .inr (10, [.int th, .ref (bm 1), .int tn, .int at_, .int wr, .ref (bm 2), .ref (bm 3), .int rm_, .ref (bm 4), .ref (bm 5), .int mn, .ref (bm 6), .ref (bm 7), .int sn, .ref (bm 8), .ref (bm 9), .ref (bm 10), .int ac, .long dn, .ref (bm 11), .ref (bm 12), .ref (bm 13), .ref (bm 14), .int hi])), ((bm 8), .inl ((km 8), 279, .inl (o)))] [((km 8), .int)] t) A) 0 0 A := by
  refine Met.ofW (cc := cX10_clear) (maxL := 2) (ret := none) (by decide) rfl ?_
  intro p e s m args below meth c s₁ B hml hv
  obtain ⟨rfl, hP, hK, hD, hA⟩ := hv
  have hx := B.exec
  have hb := B.bytes
  have hr := B.returns
  have hts := atoms_spec (ws := .code yX10_clear cX10_clear 2 none :: wA) B.pre
  have hown : s.vm.findClass RX10 = some m.cls := findClass_of_methodNamed B.named
  have hlocks := B.notSynchronized
  have hS : va_S A s.heap s.heap [] := va_S.rf
  have hl := lv_entry ([.ref (bm 0), .int z1]) (n := 2) (Nat.le_of_ble_eq_true rfl)
  rw [lg_entry_eq]
  generalize (lg_sl ([.ref (bm 0), .int z1]) ++ List.replicate (2 - (lg_sl ([.ref (bm 0), .int z1])).length) Slot.unset).toArray = ls at hl ⊢
  have hl : lv_has ls 2 [(0, .ref (bm 0)), (1, .int z1)] := hl
  unfold F_X10_clear at hG
  refine lv_aload_n hx hb dX10_clear_0 rfl (lv_at hl 0 rfl) ?_
  refine va_get (D := (dC, dI)) (ci := 10) (v := .ref (bm 8)) (C := RX10) (T := TX10) (N := 24) hx hb hts iA_10 hown hK hP 0 rfl rfl 14 (by decide) (hts (.fieldLink RX10 31 "HubTreeModel" "now" "[I") (List.mem_cons_of_mem _ m_122)) (fun _ h9 => h9) rfl dX10_clear_1 ?_
  refine lv_iconst (v := 0) hx hb dX10_clear_4 (by decide) ?_
  refine lv_iload_n hx hb dX10_clear_5 rfl (lv_at hl 1 rfl) ?_
  refine lv_iadd hx hb dX10_clear_6 ?_
  refine lv_iconst (v := 0) hx hb dX10_clear_7 (by decide) ?_
  obtain ⟨h_1, hG⟩ := q_ix hG
  refine va_iast hx hb hK hP hD hS 1 0 rfl rfl (i := (0 + z1)) (x := 0) h_1 dX10_clear_8 (fun H locs hP hD hS => ?_)
  have hP : va_P (dC, dI) vwCl [((bm 0), .inr (10, [.int th, .ref (bm 1), .int tn, .int at_, .int wr, .ref (bm 2), .ref (bm 3), .int rm_, .ref (bm 4), .ref (bm 5), .int mn, .ref (bm 6), .ref (bm 7), .int sn, .ref (bm 8), .ref (bm 9), .ref (bm 10), .int ac, .long dn, .ref (bm 11), .ref (bm 12), .ref (bm 13), .ref (bm 14), .int hi])), ((bm 8), .inl ((km 8), 279, .inl (upd nw (0 + z1).toNatClampNeg 0)))] H := hP
  have hD : va_D A [((bm 0), .inr (10, [.int th, .ref (bm 1), .int tn, .int at_, .int wr, .ref (bm 2), .ref (bm 3), .int rm_, .ref (bm 4), .ref (bm 5), .int mn, .ref (bm 6), .ref (bm 7), .int sn, .ref (bm 8), .ref (bm 9), .ref (bm 10), .int ac, .long dn, .ref (bm 11), .ref (bm 12), .ref (bm 13), .ref (bm 14), .int hi])), ((bm 8), .inl ((km 8), 279, .inl (upd nw (0 + z1).toNatClampNeg 0)))] := hD
  refine lv_aload_n hx hb dX10_clear_9 rfl (lv_at hl 0 rfl) ?_
  refine va_get (D := (dC, dI)) (ci := 10) (v := .ref (bm 8)) (C := RX10) (T := TX10) (N := 24) hx hb hts iA_10 hown hK hP 0 rfl rfl 14 (by decide) (hts (.fieldLink RX10 31 "HubTreeModel" "now" "[I") (List.mem_cons_of_mem _ m_122)) (fun _ h9 => h9) rfl dX10_clear_10 ?_
  refine lv_bipush (v := 8) hx hb dX10_clear_13 (by decide) ?_
  refine lv_iload_n hx hb dX10_clear_15 rfl (lv_at hl 1 rfl) ?_
  refine lv_iadd hx hb dX10_clear_16 ?_
  refine lv_iconst (v := 0) hx hb dX10_clear_17 (by decide) ?_
  obtain ⟨h_2, hG⟩ := q_ix hG
  refine va_iast hx hb hK hP hD hS 1 0 rfl rfl (i := (8 + z1)) (x := 0) h_2 dX10_clear_18 (fun H locs hP hD hS => ?_)
  have hP : va_P (dC, dI) vwCl [((bm 0), .inr (10, [.int th, .ref (bm 1), .int tn, .int at_, .int wr, .ref (bm 2), .ref (bm 3), .int rm_, .ref (bm 4), .ref (bm 5), .int mn, .ref (bm 6), .ref (bm 7), .int sn, .ref (bm 8), .ref (bm 9), .ref (bm 10), .int ac, .long dn, .ref (bm 11), .ref (bm 12), .ref (bm 13), .ref (bm 14), .int hi])), ((bm 8), .inl ((km 8), 279, .inl (upd (upd nw (0 + z1).toNatClampNeg 0) (8 + z1).toNatClampNeg 0)))] H := hP
  have hD : va_D A [((bm 0), .inr (10, [.int th, .ref (bm 1), .int tn, .int at_, .int wr, .ref (bm 2), .ref (bm 3), .int rm_, .ref (bm 4), .ref (bm 5), .int mn, .ref (bm 6), .ref (bm 7), .int sn, .ref (bm 8), .ref (bm 9), .ref (bm 10), .int ac, .long dn, .ref (bm 11), .ref (bm 12), .ref (bm 13), .ref (bm 14), .int hi])), ((bm 8), .inl ((km 8), 279, .inl (upd (upd nw (0 + z1).toNatClampNeg 0) (8 + z1).toNatClampNeg 0)))] := hD
  refine lv_aload_n hx hb dX10_clear_19 rfl (lv_at hl 0 rfl) ?_
  refine va_get (D := (dC, dI)) (ci := 10) (v := .ref (bm 8)) (C := RX10) (T := TX10) (N := 24) hx hb hts iA_10 hown hK hP 0 rfl rfl 14 (by decide) (hts (.fieldLink RX10 31 "HubTreeModel" "now" "[I") (List.mem_cons_of_mem _ m_122)) (fun _ h9 => h9) rfl dX10_clear_20 ?_
  refine lv_bipush (v := 16) hx hb dX10_clear_23 (by decide) ?_
  refine lv_iload_n hx hb dX10_clear_25 rfl (lv_at hl 1 rfl) ?_
  refine lv_iadd hx hb dX10_clear_26 ?_
  refine lv_iconst (v := 0) hx hb dX10_clear_27 (by decide) ?_
  obtain ⟨h_3, hG⟩ := q_ix hG
  refine va_iast hx hb hK hP hD hS 1 0 rfl rfl (i := (16 + z1)) (x := 0) h_3 dX10_clear_28 (fun H locs hP hD hS => ?_)
  have hP : va_P (dC, dI) vwCl [((bm 0), .inr (10, [.int th, .ref (bm 1), .int tn, .int at_, .int wr, .ref (bm 2), .ref (bm 3), .int rm_, .ref (bm 4), .ref (bm 5), .int mn, .ref (bm 6), .ref (bm 7), .int sn, .ref (bm 8), .ref (bm 9), .ref (bm 10), .int ac, .long dn, .ref (bm 11), .ref (bm 12), .ref (bm 13), .ref (bm 14), .int hi])), ((bm 8), .inl ((km 8), 279, .inl (upd (upd (upd nw (0 + z1).toNatClampNeg 0) (8 + z1).toNatClampNeg 0) (16 + z1).toNatClampNeg 0)))] H := hP
  have hD : va_D A [((bm 0), .inr (10, [.int th, .ref (bm 1), .int tn, .int at_, .int wr, .ref (bm 2), .ref (bm 3), .int rm_, .ref (bm 4), .ref (bm 5), .int mn, .ref (bm 6), .ref (bm 7), .int sn, .ref (bm 8), .ref (bm 9), .ref (bm 10), .int ac, .long dn, .ref (bm 11), .ref (bm 12), .ref (bm 13), .ref (bm 14), .int hi])), ((bm 8), .inl ((km 8), 279, .inl (upd (upd (upd nw (0 + z1).toNatClampNeg 0) (8 + z1).toNatClampNeg 0) (16 + z1).toNatClampNeg 0)))] := hD
  refine lv_aload_n hx hb dX10_clear_29 rfl (lv_at hl 0 rfl) ?_
  refine va_get (D := (dC, dI)) (ci := 10) (v := .ref (bm 8)) (C := RX10) (T := TX10) (N := 24) hx hb hts iA_10 hown hK hP 0 rfl rfl 14 (by decide) (hts (.fieldLink RX10 31 "HubTreeModel" "now" "[I") (List.mem_cons_of_mem _ m_122)) (fun _ h9 => h9) rfl dX10_clear_30 ?_
  refine lv_bipush (v := 24) hx hb dX10_clear_33 (by decide) ?_
  refine lv_iload_n hx hb dX10_clear_35 rfl (lv_at hl 1 rfl) ?_
  refine lv_iadd hx hb dX10_clear_36 ?_
  refine lv_iconst (v := 0) hx hb dX10_clear_37 (by decide) ?_
  obtain ⟨h_4, hG⟩ := q_ix hG
  refine va_iast hx hb hK hP hD hS 1 0 rfl rfl (i := (24 + z1)) (x := 0) h_4 dX10_clear_38 (fun H locs hP hD hS => ?_)
  have hP : va_P (dC, dI) vwCl [((bm 0), .inr (10, [.int th, .ref (bm 1), .int tn, .int at_, .int wr, .ref (bm 2), .ref (bm 3), .int rm_, .ref (bm 4), .ref (bm 5), .int mn, .ref (bm 6), .ref (bm 7), .int sn, .ref (bm 8), .ref (bm 9), .ref (bm 10), .int ac, .long dn, .ref (bm 11), .ref (bm 12), .ref (bm 13), .ref (bm 14), .int hi])), ((bm 8), .inl ((km 8), 279, .inl (upd (upd (upd (upd nw (0 + z1).toNatClampNeg 0) (8 + z1).toNatClampNeg 0) (16 + z1).toNatClampNeg 0) (24 + z1).toNatClampNeg 0)))] H := hP
  have hD : va_D A [((bm 0), .inr (10, [.int th, .ref (bm 1), .int tn, .int at_, .int wr, .ref (bm 2), .ref (bm 3), .int rm_, .ref (bm 4), .ref (bm 5), .int mn, .ref (bm 6), .ref (bm 7), .int sn, .ref (bm 8), .ref (bm 9), .ref (bm 10), .int ac, .long dn, .ref (bm 11), .ref (bm 12), .ref (bm 13), .ref (bm 14), .int hi])), ((bm 8), .inl ((km 8), 279, .inl (upd (upd (upd (upd nw (0 + z1).toNatClampNeg 0) (8 + z1).toNatClampNeg 0) (16 + z1).toNatClampNeg 0) (24 + z1).toNatClampNeg 0)))] := hD
  refine lv_aload_n hx hb dX10_clear_39 rfl (lv_at hl 0 rfl) ?_
  refine va_get (D := (dC, dI)) (ci := 10) (v := .ref (bm 8)) (C := RX10) (T := TX10) (N := 24) hx hb hts iA_10 hown hK hP 0 rfl rfl 14 (by decide) (hts (.fieldLink RX10 31 "HubTreeModel" "now" "[I") (List.mem_cons_of_mem _ m_122)) (fun _ h9 => h9) rfl dX10_clear_40 ?_
  refine lv_bipush (v := 32) hx hb dX10_clear_43 (by decide) ?_
  refine lv_iload_n hx hb dX10_clear_45 rfl (lv_at hl 1 rfl) ?_
  refine lv_iadd hx hb dX10_clear_46 ?_
  refine lv_iconst (v := (-1)) hx hb dX10_clear_47 (by decide) ?_
  obtain ⟨h_5, hG⟩ := q_ix hG
  refine va_iast hx hb hK hP hD hS 1 0 rfl rfl (i := (32 + z1)) (x := (-1)) h_5 dX10_clear_48 (fun H locs hP hD hS => ?_)
  have hP : va_P (dC, dI) vwCl [((bm 0), .inr (10, [.int th, .ref (bm 1), .int tn, .int at_, .int wr, .ref (bm 2), .ref (bm 3), .int rm_, .ref (bm 4), .ref (bm 5), .int mn, .ref (bm 6), .ref (bm 7), .int sn, .ref (bm 8), .ref (bm 9), .ref (bm 10), .int ac, .long dn, .ref (bm 11), .ref (bm 12), .ref (bm 13), .ref (bm 14), .int hi])), ((bm 8), .inl ((km 8), 279, .inl (upd (upd (upd (upd (upd nw (0 + z1).toNatClampNeg 0) (8 + z1).toNatClampNeg 0) (16 + z1).toNatClampNeg 0) (24 + z1).toNatClampNeg 0) (32 + z1).toNatClampNeg (-1))))] H := hP
  have hD : va_D A [((bm 0), .inr (10, [.int th, .ref (bm 1), .int tn, .int at_, .int wr, .ref (bm 2), .ref (bm 3), .int rm_, .ref (bm 4), .ref (bm 5), .int mn, .ref (bm 6), .ref (bm 7), .int sn, .ref (bm 8), .ref (bm 9), .ref (bm 10), .int ac, .long dn, .ref (bm 11), .ref (bm 12), .ref (bm 13), .ref (bm 14), .int hi])), ((bm 8), .inl ((km 8), 279, .inl (upd (upd (upd (upd (upd nw (0 + z1).toNatClampNeg 0) (8 + z1).toNatClampNeg 0) (16 + z1).toNatClampNeg 0) (24 + z1).toNatClampNeg 0) (32 + z1).toNatClampNeg (-1))))] := hD
  refine lv_aload_n hx hb dX10_clear_49 rfl (lv_at hl 0 rfl) ?_
  refine va_get (D := (dC, dI)) (ci := 10) (v := .ref (bm 8)) (C := RX10) (T := TX10) (N := 24) hx hb hts iA_10 hown hK hP 0 rfl rfl 14 (by decide) (hts (.fieldLink RX10 31 "HubTreeModel" "now" "[I") (List.mem_cons_of_mem _ m_122)) (fun _ h9 => h9) rfl dX10_clear_50 ?_
  refine lv_bipush (v := 40) hx hb dX10_clear_53 (by decide) ?_
  refine lv_iload_n hx hb dX10_clear_55 rfl (lv_at hl 1 rfl) ?_
  refine lv_iadd hx hb dX10_clear_56 ?_
  refine lv_iconst (v := (-1)) hx hb dX10_clear_57 (by decide) ?_
  obtain ⟨h_6, hG⟩ := q_ix hG
  refine va_iast hx hb hK hP hD hS 1 0 rfl rfl (i := (40 + z1)) (x := (-1)) h_6 dX10_clear_58 (fun H locs hP hD hS => ?_)
  have hP : va_P (dC, dI) vwCl [((bm 0), .inr (10, [.int th, .ref (bm 1), .int tn, .int at_, .int wr, .ref (bm 2), .ref (bm 3), .int rm_, .ref (bm 4), .ref (bm 5), .int mn, .ref (bm 6), .ref (bm 7), .int sn, .ref (bm 8), .ref (bm 9), .ref (bm 10), .int ac, .long dn, .ref (bm 11), .ref (bm 12), .ref (bm 13), .ref (bm 14), .int hi])), ((bm 8), .inl ((km 8), 279, .inl (upd (upd (upd (upd (upd (upd nw (0 + z1).toNatClampNeg 0) (8 + z1).toNatClampNeg 0) (16 + z1).toNatClampNeg 0) (24 + z1).toNatClampNeg 0) (32 + z1).toNatClampNeg (-1)) (40 + z1).toNatClampNeg (-1))))] H := hP
  have hD : va_D A [((bm 0), .inr (10, [.int th, .ref (bm 1), .int tn, .int at_, .int wr, .ref (bm 2), .ref (bm 3), .int rm_, .ref (bm 4), .ref (bm 5), .int mn, .ref (bm 6), .ref (bm 7), .int sn, .ref (bm 8), .ref (bm 9), .ref (bm 10), .int ac, .long dn, .ref (bm 11), .ref (bm 12), .ref (bm 13), .ref (bm 14), .int hi])), ((bm 8), .inl ((km 8), 279, .inl (upd (upd (upd (upd (upd (upd nw (0 + z1).toNatClampNeg 0) (8 + z1).toNatClampNeg 0) (16 + z1).toNatClampNeg 0) (24 + z1).toNatClampNeg 0) (32 + z1).toNatClampNeg (-1)) (40 + z1).toNatClampNeg (-1))))] := hD
  refine lv_aload_n hx hb dX10_clear_59 rfl (lv_at hl 0 rfl) ?_
  refine va_get (D := (dC, dI)) (ci := 10) (v := .ref (bm 8)) (C := RX10) (T := TX10) (N := 24) hx hb hts iA_10 hown hK hP 0 rfl rfl 14 (by decide) (hts (.fieldLink RX10 31 "HubTreeModel" "now" "[I") (List.mem_cons_of_mem _ m_122)) (fun _ h9 => h9) rfl dX10_clear_60 ?_
  refine lv_bipush (v := 48) hx hb dX10_clear_63 (by decide) ?_
  refine lv_iload_n hx hb dX10_clear_65 rfl (lv_at hl 1 rfl) ?_
  refine lv_iadd hx hb dX10_clear_66 ?_
  refine lv_iconst (v := (-1)) hx hb dX10_clear_67 (by decide) ?_
  obtain ⟨h_7, hG⟩ := q_ix hG
  refine va_iast hx hb hK hP hD hS 1 0 rfl rfl (i := (48 + z1)) (x := (-1)) h_7 dX10_clear_68 (fun H locs hP hD hS => ?_)
  have hP : va_P (dC, dI) vwCl [((bm 0), .inr (10, [.int th, .ref (bm 1), .int tn, .int at_, .int wr, .ref (bm 2), .ref (bm 3), .int rm_, .ref (bm 4), .ref (bm 5), .int mn, .ref (bm 6), .ref (bm 7), .int sn, .ref (bm 8), .ref (bm 9), .ref (bm 10), .int ac, .long dn, .ref (bm 11), .ref (bm 12), .ref (bm 13), .ref (bm 14), .int hi])), ((bm 8), .inl ((km 8), 279, .inl (upd (upd (upd (upd (upd (upd (upd nw (0 + z1).toNatClampNeg 0) (8 + z1).toNatClampNeg 0) (16 + z1).toNatClampNeg 0) (24 + z1).toNatClampNeg 0) (32 + z1).toNatClampNeg (-1)) (40 + z1).toNatClampNeg (-1)) (48 + z1).toNatClampNeg (-1))))] H := hP
  have hD : va_D A [((bm 0), .inr (10, [.int th, .ref (bm 1), .int tn, .int at_, .int wr, .ref (bm 2), .ref (bm 3), .int rm_, .ref (bm 4), .ref (bm 5), .int mn, .ref (bm 6), .ref (bm 7), .int sn, .ref (bm 8), .ref (bm 9), .ref (bm 10), .int ac, .long dn, .ref (bm 11), .ref (bm 12), .ref (bm 13), .ref (bm 14), .int hi])), ((bm 8), .inl ((km 8), 279, .inl (upd (upd (upd (upd (upd (upd (upd nw (0 + z1).toNatClampNeg 0) (8 + z1).toNatClampNeg 0) (16 + z1).toNatClampNeg 0) (24 + z1).toNatClampNeg 0) (32 + z1).toNatClampNeg (-1)) (40 + z1).toNatClampNeg (-1)) (48 + z1).toNatClampNeg (-1))))] := hD
  refine lv_aload_n hx hb dX10_clear_69 rfl (lv_at hl 0 rfl) ?_
  refine va_get (D := (dC, dI)) (ci := 10) (v := .ref (bm 8)) (C := RX10) (T := TX10) (N := 24) hx hb hts iA_10 hown hK hP 0 rfl rfl 14 (by decide) (hts (.fieldLink RX10 31 "HubTreeModel" "now" "[I") (List.mem_cons_of_mem _ m_122)) (fun _ h9 => h9) rfl dX10_clear_70 ?_
  refine lv_bipush (v := 56) hx hb dX10_clear_73 (by decide) ?_
  refine lv_iload_n hx hb dX10_clear_75 rfl (lv_at hl 1 rfl) ?_
  refine lv_iadd hx hb dX10_clear_76 ?_
  refine lv_iconst (v := 0) hx hb dX10_clear_77 (by decide) ?_
  obtain ⟨h_8, hG⟩ := q_ix hG
  refine va_iast hx hb hK hP hD hS 1 0 rfl rfl (i := (56 + z1)) (x := 0) h_8 dX10_clear_78 (fun H locs hP hD hS => ?_)
  have hP : va_P (dC, dI) vwCl [((bm 0), .inr (10, [.int th, .ref (bm 1), .int tn, .int at_, .int wr, .ref (bm 2), .ref (bm 3), .int rm_, .ref (bm 4), .ref (bm 5), .int mn, .ref (bm 6), .ref (bm 7), .int sn, .ref (bm 8), .ref (bm 9), .ref (bm 10), .int ac, .long dn, .ref (bm 11), .ref (bm 12), .ref (bm 13), .ref (bm 14), .int hi])), ((bm 8), .inl ((km 8), 279, .inl (upd (upd (upd (upd (upd (upd (upd (upd nw (0 + z1).toNatClampNeg 0) (8 + z1).toNatClampNeg 0) (16 + z1).toNatClampNeg 0) (24 + z1).toNatClampNeg 0) (32 + z1).toNatClampNeg (-1)) (40 + z1).toNatClampNeg (-1)) (48 + z1).toNatClampNeg (-1)) (56 + z1).toNatClampNeg 0)))] H := hP
  have hD : va_D A [((bm 0), .inr (10, [.int th, .ref (bm 1), .int tn, .int at_, .int wr, .ref (bm 2), .ref (bm 3), .int rm_, .ref (bm 4), .ref (bm 5), .int mn, .ref (bm 6), .ref (bm 7), .int sn, .ref (bm 8), .ref (bm 9), .ref (bm 10), .int ac, .long dn, .ref (bm 11), .ref (bm 12), .ref (bm 13), .ref (bm 14), .int hi])), ((bm 8), .inl ((km 8), 279, .inl (upd (upd (upd (upd (upd (upd (upd (upd nw (0 + z1).toNatClampNeg 0) (8 + z1).toNatClampNeg 0) (16 + z1).toNatClampNeg 0) (24 + z1).toNatClampNeg 0) (32 + z1).toNatClampNeg (-1)) (40 + z1).toNatClampNeg (-1)) (48 + z1).toNatClampNeg (-1)) (56 + z1).toNatClampNeg 0)))] := hD
  refine lv_aload_n hx hb dX10_clear_79 rfl (lv_at hl 0 rfl) ?_
  refine va_get (D := (dC, dI)) (ci := 10) (v := .ref (bm 8)) (C := RX10) (T := TX10) (N := 24) hx hb hts iA_10 hown hK hP 0 rfl rfl 14 (by decide) (hts (.fieldLink RX10 31 "HubTreeModel" "now" "[I") (List.mem_cons_of_mem _ m_122)) (fun _ h9 => h9) rfl dX10_clear_80 ?_
  refine lv_bipush (v := 64) hx hb dX10_clear_83 (by decide) ?_
  refine lv_iload_n hx hb dX10_clear_85 rfl (lv_at hl 1 rfl) ?_
  refine lv_iadd hx hb dX10_clear_86 ?_
  refine lv_iconst (v := 0) hx hb dX10_clear_87 (by decide) ?_
  obtain ⟨h_9, hG⟩ := q_ix hG
  refine va_iast hx hb hK hP hD hS 1 0 rfl rfl (i := (64 + z1)) (x := 0) h_9 dX10_clear_88 (fun H locs hP hD hS => ?_)
  have hP : va_P (dC, dI) vwCl [((bm 0), .inr (10, [.int th, .ref (bm 1), .int tn, .int at_, .int wr, .ref (bm 2), .ref (bm 3), .int rm_, .ref (bm 4), .ref (bm 5), .int mn, .ref (bm 6), .ref (bm 7), .int sn, .ref (bm 8), .ref (bm 9), .ref (bm 10), .int ac, .long dn, .ref (bm 11), .ref (bm 12), .ref (bm 13), .ref (bm 14), .int hi])), ((bm 8), .inl ((km 8), 279, .inl (upd (upd (upd (upd (upd (upd (upd (upd (upd nw (0 + z1).toNatClampNeg 0) (8 + z1).toNatClampNeg 0) (16 + z1).toNatClampNeg 0) (24 + z1).toNatClampNeg 0) (32 + z1).toNatClampNeg (-1)) (40 + z1).toNatClampNeg (-1)) (48 + z1).toNatClampNeg (-1)) (56 + z1).toNatClampNeg 0) (64 + z1).toNatClampNeg 0)))] H := hP
  have hD : va_D A [((bm 0), .inr (10, [.int th, .ref (bm 1), .int tn, .int at_, .int wr, .ref (bm 2), .ref (bm 3), .int rm_, .ref (bm 4), .ref (bm 5), .int mn, .ref (bm 6), .ref (bm 7), .int sn, .ref (bm 8), .ref (bm 9), .ref (bm 10), .int ac, .long dn, .ref (bm 11), .ref (bm 12), .ref (bm 13), .ref (bm 14), .int hi])), ((bm 8), .inl ((km 8), 279, .inl (upd (upd (upd (upd (upd (upd (upd (upd (upd nw (0 + z1).toNatClampNeg 0) (8 + z1).toNatClampNeg 0) (16 + z1).toNatClampNeg 0) (24 + z1).toNatClampNeg 0) (32 + z1).toNatClampNeg (-1)) (40 + z1).toNatClampNeg (-1)) (48 + z1).toNatClampNeg (-1)) (56 + z1).toNatClampNeg 0) (64 + z1).toNatClampNeg 0)))] := hD
  refine lv_aload_n hx hb dX10_clear_89 rfl (lv_at hl 0 rfl) ?_
  refine va_get (D := (dC, dI)) (ci := 10) (v := .ref (bm 8)) (C := RX10) (T := TX10) (N := 24) hx hb hts iA_10 hown hK hP 0 rfl rfl 14 (by decide) (hts (.fieldLink RX10 31 "HubTreeModel" "now" "[I") (List.mem_cons_of_mem _ m_122)) (fun _ h9 => h9) rfl dX10_clear_90 ?_
  refine lv_bipush (v := 88) hx hb dX10_clear_93 (by decide) ?_
  refine lv_iload_n hx hb dX10_clear_95 rfl (lv_at hl 1 rfl) ?_
  refine lv_iadd hx hb dX10_clear_96 ?_
  refine lv_iconst (v := 0) hx hb dX10_clear_97 (by decide) ?_
  obtain ⟨h_10, hG⟩ := q_ix hG
  refine va_iast hx hb hK hP hD hS 1 0 rfl rfl (i := (88 + z1)) (x := 0) h_10 dX10_clear_98 (fun H locs hP hD hS => ?_)
  have hP : va_P (dC, dI) vwCl [((bm 0), .inr (10, [.int th, .ref (bm 1), .int tn, .int at_, .int wr, .ref (bm 2), .ref (bm 3), .int rm_, .ref (bm 4), .ref (bm 5), .int mn, .ref (bm 6), .ref (bm 7), .int sn, .ref (bm 8), .ref (bm 9), .ref (bm 10), .int ac, .long dn, .ref (bm 11), .ref (bm 12), .ref (bm 13), .ref (bm 14), .int hi])), ((bm 8), .inl ((km 8), 279, .inl (upd (upd (upd (upd (upd (upd (upd (upd (upd (upd nw (0 + z1).toNatClampNeg 0) (8 + z1).toNatClampNeg 0) (16 + z1).toNatClampNeg 0) (24 + z1).toNatClampNeg 0) (32 + z1).toNatClampNeg (-1)) (40 + z1).toNatClampNeg (-1)) (48 + z1).toNatClampNeg (-1)) (56 + z1).toNatClampNeg 0) (64 + z1).toNatClampNeg 0) (88 + z1).toNatClampNeg 0)))] H := hP
  have hD : va_D A [((bm 0), .inr (10, [.int th, .ref (bm 1), .int tn, .int at_, .int wr, .ref (bm 2), .ref (bm 3), .int rm_, .ref (bm 4), .ref (bm 5), .int mn, .ref (bm 6), .ref (bm 7), .int sn, .ref (bm 8), .ref (bm 9), .ref (bm 10), .int ac, .long dn, .ref (bm 11), .ref (bm 12), .ref (bm 13), .ref (bm 14), .int hi])), ((bm 8), .inl ((km 8), 279, .inl (upd (upd (upd (upd (upd (upd (upd (upd (upd (upd nw (0 + z1).toNatClampNeg 0) (8 + z1).toNatClampNeg 0) (16 + z1).toNatClampNeg 0) (24 + z1).toNatClampNeg 0) (32 + z1).toNatClampNeg (-1)) (40 + z1).toNatClampNeg (-1)) (48 + z1).toNatClampNeg (-1)) (56 + z1).toNatClampNeg 0) (64 + z1).toNatClampNeg 0) (88 + z1).toNatClampNeg 0)))] := hD
  obtain rfl := Option.some.inj hG
  have hP9 := hP.sub (ws' := [((bm 0), .inr (10, [.int th, .ref (bm 1), .int tn, .int at_, .int wr, .ref (bm 2), .ref (bm 3), .int rm_, .ref (bm 4), .ref (bm 5), .int mn, .ref (bm 6), .ref (bm 7), .int sn, .ref (bm 8), .ref (bm 9), .ref (bm 10), .int ac, .long dn, .ref (bm 11), .ref (bm 12), .ref (bm 13), .ref (bm 14), .int hi])), ((bm 8), .inl ((km 8), 279, .inl (upd (upd (upd (upd (upd (upd (upd (upd (upd (upd nw (0 + z1).toNatClampNeg 0) (8 + z1).toNatClampNeg 0) (16 + z1).toNatClampNeg 0) (24 + z1).toNatClampNeg 0) (32 + z1).toNatClampNeg (-1)) (40 + z1).toNatClampNeg (-1)) (48 + z1).toNatClampNeg (-1)) (56 + z1).toNatClampNeg 0) (64 + z1).toNatClampNeg 0) (88 + z1).toNatClampNeg 0)))]) [0, 1] rfl
  have hD9 := hD.sub (ws' := [((bm 0), .inr (10, [.int th, .ref (bm 1), .int tn, .int at_, .int wr, .ref (bm 2), .ref (bm 3), .int rm_, .ref (bm 4), .ref (bm 5), .int mn, .ref (bm 6), .ref (bm 7), .int sn, .ref (bm 8), .ref (bm 9), .ref (bm 10), .int ac, .long dn, .ref (bm 11), .ref (bm 12), .ref (bm 13), .ref (bm 14), .int hi])), ((bm 8), .inl ((km 8), 279, .inl (upd (upd (upd (upd (upd (upd (upd (upd (upd (upd nw (0 + z1).toNatClampNeg 0) (8 + z1).toNatClampNeg 0) (16 + z1).toNatClampNeg 0) (24 + z1).toNatClampNeg 0) (32 + z1).toNatClampNeg (-1)) (40 + z1).toNatClampNeg (-1)) (48 + z1).toNatClampNeg (-1)) (56 + z1).toNatClampNeg 0) (64 + z1).toNatClampNeg 0) (88 + z1).toNatClampNeg 0)))]) [0, 1] (by decide) rfl
  have hK9 := hK.sub (tys' := [((km 8), .int)]) [0] rfl
  exact W.vret hx hb hr (fun t ht hW => ⟨⟨(), rfl, trivial, by rw [ht]; exact hP9, va_K.moved hW.alike hK9, hD9⟩, hS.F ht⟩) hS.2.2 dX10_clear_99

def FL_X10_takeTree_89 (rm_ : Int32) (mn : Int32) (ac : Int32) (hi : Int32) (rr : Nat → Int32) (rd : Nat → Int32) (ru : Nat → Int32) (td : Nat → Int32) (nw : Nat → Int32) : Nat → Int32 → (Int32) → (Int32) → (Int32) → (Nat → Int32) → (Nat → Int32) → (Nat → Int32) → Option (Int32 × Int32 × Int32 × Int32 × (Nat → Int32) × (Nat → Int32) × (Nat → Int32))
  | 0, _, _, _, _, _, _, _ => none
  | n + 1, x1_89, mn_c, ac_c, hi_c, ru_c, td_c, nw_c => (if mn_c ≤ x1_89 then some (mn_c, mn_c, 0, 0, ru_c, td_c, nw_c) else ((F_X10_clear nw_c x1_89).bind fun o_5 => ((F_X10_toldOf td_c x1_89 3).bind fun o_7 => (if (72 + x1_89) < 0 ∨ 279 ≤ ((72 + x1_89)).toNatClampNeg then none else ((F_X10_toldOf td_c x1_89 5).bind fun o_10 => (if (80 + x1_89) < 0 ∨ 279 ≤ ((80 + x1_89)).toNatClampNeg then none else (FL_X10_takeTree_89 rm_ mn ac hi rr rd ru td nw n (x1_89 + 1) mn_c ac_c hi_c ru_c td_c (upd (upd (o_5) (72 + x1_89).toNatClampNeg o_7) (80 + x1_89).toNatClampNeg o_10))))))))

def FL_X10_takeTree_67 (rm_ : Int32) (mn : Int32) (ac : Int32) (hi : Int32) (rr : Nat → Int32) (rd : Nat → Int32) (ru : Nat → Int32) (td : Nat → Int32) (nw : Nat → Int32) : Nat → Int32 → (Int32) → (Int32) → (Int32) → (Nat → Int32) → (Nat → Int32) → (Nat → Int32) → Option (Int32 × Int32 × Int32 × Int32 × (Nat → Int32) × (Nat → Int32) × (Nat → Int32))
  | 0, _, _, _, _, _, _, _ => none
  | n + 1, x1_67, mn_c, ac_c, hi_c, ru_c, td_c, nw_c => (if 279 ≤ x1_67 then (FL_X10_takeTree_89 rm_ mn ac hi rr rd ru td nw 1000 0 mn_c ac_c hi_c ru_c td_c nw_c) else (if x1_67 < 0 ∨ 279 ≤ (x1_67).toNatClampNeg then none else (FL_X10_takeTree_67 rm_ mn ac hi rr rd ru td nw n (x1_67 + 1) mn_c ac_c hi_c ru_c td_c (upd nw_c (x1_67).toNatClampNeg 0))))

def FL_X10_takeTree_36 (rm_ : Int32) (mn : Int32) (ac : Int32) (hi : Int32) (rr : Nat → Int32) (rd : Nat → Int32) (ru : Nat → Int32) (td : Nat → Int32) (nw : Nat → Int32) : Nat → Int32 → (Int32) → (Int32) → (Int32) → (Nat → Int32) → (Nat → Int32) → (Nat → Int32) → Option (Int32 × Int32 × Int32 × Int32 × (Nat → Int32) × (Nat → Int32) × (Nat → Int32))
  | 0, _, _, _, _, _, _, _ => none
  | n + 1, x1_36, mn_c, ac_c, hi_c, ru_c, td_c, nw_c => (if (6 * mn_c) ≤ x1_36 then (FL_X10_takeTree_67 rm_ mn ac hi rr rd ru td nw 1000 0 mn_c ac_c hi_c ru_c td_c nw_c) else (if x1_36 < 0 ∨ 48 ≤ (x1_36).toNatClampNeg then none else (if x1_36 < 0 ∨ 48 ≤ (x1_36).toNatClampNeg then none else (FL_X10_takeTree_36 rm_ mn ac hi rr rd ru td nw n (x1_36 + 1) mn_c ac_c hi_c ru_c (upd td_c (x1_36).toNatClampNeg (rd (x1_36).toNatClampNeg)) nw_c))))

def FL_X10_takeTree_10 (rm_ : Int32) (mn : Int32) (ac : Int32) (hi : Int32) (rr : Nat → Int32) (rd : Nat → Int32) (ru : Nat → Int32) (td : Nat → Int32) (nw : Nat → Int32) : Nat → Int32 → (Int32) → (Int32) → (Int32) → (Nat → Int32) → (Nat → Int32) → (Nat → Int32) → Option (Int32 × Int32 × Int32 × Int32 × (Nat → Int32) × (Nat → Int32) × (Nat → Int32))
  | 0, _, _, _, _, _, _, _ => none
  | n + 1, x1_10, mn_c, ac_c, hi_c, ru_c, td_c, nw_c => (if 8 ≤ x1_10 then (FL_X10_takeTree_36 rm_ mn ac hi rr rd ru td nw 1000 0 mn_c ac_c hi_c ru_c td_c nw_c) else (if x1_10 < 0 ∨ 8 ≤ (x1_10).toNatClampNeg then none else (if x1_10 < 0 ∨ 8 ≤ (x1_10).toNatClampNeg then none else (FL_X10_takeTree_10 rm_ mn ac hi rr rd ru td nw n (x1_10 + 1) mn_c ac_c hi_c (upd ru_c (x1_10).toNatClampNeg (rr (x1_10).toNatClampNeg)) td_c nw_c))))

def F_X10_takeTree (rm_ : Int32) (mn : Int32) (ac : Int32) (hi : Int32) (rr : Nat → Int32) (rd : Nat → Int32) (ru : Nat → Int32) (td : Nat → Int32) (nw : Nat → Int32) : Option (Int32 × Int32 × Int32 × Int32 × (Nat → Int32) × (Nat → Int32) × (Nat → Int32)) := (FL_X10_takeTree_10 rm_ mn ac hi rr rd ru td nw 1000 0 rm_ ac hi ru td nw)
set_option maxHeartbeats 4000000 in
set_option maxRecDepth 100000 in
theorem c_X10_takeTree (l : Launch) (dC : Nat → ClassId) (dI : Nat → Nat → Nat) (bm : Nat → Nat) (km : Nat → ClassId) (th : Int32) (tn : Int32) (at_ : Int32) (wr : Int32) (rm_ : Int32) (mn : Int32) (sn : Int32) (ac : Int32) (hi : Int32) (dn : Int64) (rr : Nat → Int32) (rd : Nat → Int32) (ru : Nat → Int32) (td : Nat → Int32) (nw : Nat → Int32) (A : Nat → Prop) (o : Int32 × Int32 × Int32 × Int32 × (Nat → Int32) × (Nat → Int32) × (Nat → Int32)) (hG : F_X10_takeTree rm_ mn ac hi rr rd ru td nw = some o) : Met l yX10_takeTree (.code yX10_takeTree cX10_takeTree 2 (some .int) :: wA) ({ frames := 1, cells := 0, slots := 0, locals := 22 }) (va_Pc [.ref (bm 0)] (q_W (dC, dI) A [((bm 0), .inr (10, [.int th, .ref (bm 1), .int tn, .int at_, .int wr, .ref (bm 2), .ref (bm 3), .int rm_, .ref (bm 4), .ref (bm 5), .int mn, .ref (bm 6), .ref (bm 7), .int sn, .ref (bm 8), .ref (bm 9), .ref (bm 10), .int ac, .long dn, .ref (bm 11), .ref (bm 12), .ref (bm 13), .ref (bm 14), .int hi])), ((bm 2), .inl ((km 2), 8, .inl rr)), ((bm 3), .inl ((km 3), 48, .inl rd)), ((bm 4), .inl ((km 4), 8, .inl ru)), ((bm 5), .inl ((km 5), 48, .inl td)), ((bm 8), .inl ((km 8), 279, .inl nw))] [((km 2), .int), ((km 3), .int), ((km 4), .int), ((km 5), .int), ((km 8), .int)])) (va_Qi (fun (r : Int32) (_ : Unit) => r = o.1 ∧ True) (fun (_ : Unit) t => q_B (dC, dI) A [((bm 0), .inr (10, [.int th, .ref (bm 1), .int tn, .int at_, .int wr, .ref (bm 2), .ref (bm 3), .int rm_, .ref (bm 4), .ref (bm 5), .int (o.2.1), .ref (bm 6), .ref (bm 7), .int sn, .ref (bm 8), .ref (bm 9), .ref (bm 10), .int (o.2.2.1), .long dn, .ref (bm 11), .ref (bm 12), .ref (bm 13), .ref (bm 14), .int (o.2.2.2.1)])), ((bm 2), .inl ((km 2), 8, .inl rr)), ((bm 3), .inl ((km 3), 48, .inl rd)), ((bm 4), .inl ((km 4), 8, .inl (o.2.2.2.2.1))), ((bm 5), .inl ((km 5), 48, .inl (o.2.2.2.2.2.1))), ((bm 8), .inl ((km 8), 279, .inl (o.2.2.2.2.2.2)))] [((km 2), .int), ((km 3), .int), ((km 4), .int), ((km 5), .int), ((km 8), .int)] t) A) 0 0 A := by
  refine Met.ofW (cc := cX10_takeTree) (maxL := 2) (ret := (some .int)) (by decide) rfl ?_
  intro p e s m args below meth c s₁ B hml hv
  obtain ⟨rfl, hP, hK, hD, hA⟩ := hv
  have hx := B.exec
  have hb := B.bytes
  have hr := B.returns
  have hts := atoms_spec (ws := .code yX10_takeTree cX10_takeTree 2 (some .int) :: wA) B.pre
  have hown : s.vm.findClass RX10 = some m.cls := findClass_of_methodNamed B.named
  have hlocks := B.notSynchronized
  have hS : va_S A s.heap s.heap [] := va_S.rf
  have hl := lv_entry ([.ref (bm 0)]) (n := 2) (Nat.le_of_ble_eq_true rfl)
  rw [lg_entry_eq]
  generalize (lg_sl ([.ref (bm 0)]) ++ List.replicate (2 - (lg_sl ([.ref (bm 0)])).length) Slot.unset).toArray = ls at hl ⊢
  have hl : lv_has ls 2 [(0, .ref (bm 0))] := hl
  unfold F_X10_takeTree at hG
  refine lv_aload_n hx hb dX10_takeTree_0 rfl (lv_at hl 0 rfl) ?_
  refine lv_aload_n hx hb dX10_takeTree_1 rfl (lv_at hl 0 rfl) ?_
  refine va_get (D := (dC, dI)) (ci := 10) (v := .int rm_) (C := RX10) (T := TX10) (N := 24) hx hb hts iA_10 hown hK hP 0 rfl rfl 7 (by decide) (hts (.fieldLink RX10 108 "HubTreeModel" "readMany" "I") (List.mem_cons_of_mem _ m_327)) (fun _ h9 => h9) rfl dX10_takeTree_2 ?_
  refine va_put (D := (dC, dI)) (ci := 10) (v := .int rm_) (ty := .int) (C := RX10) (T := TX10) (N := 24) hx hb hts iA_10 tyX10 tyX10_ok nmX10 hown hK hP hD hS 0 rfl rfl 10 (by decide) (hts (.fieldLink RX10 132 "HubTreeModel" "many" "I") (List.mem_cons_of_mem _ m_433)) (fun _ h9 => h9) rfl (by decide +kernel) rfl rfl (Nat.le_of_ble_eq_true rfl) dX10_takeTree_5 (fun H locs hP hD hS => ?_)
  have hP : va_P (dC, dI) vwCl [((bm 0), .inr (10, [.int th, .ref (bm 1), .int tn, .int at_, .int wr, .ref (bm 2), .ref (bm 3), .int rm_, .ref (bm 4), .ref (bm 5), .int rm_, .ref (bm 6), .ref (bm 7), .int sn, .ref (bm 8), .ref (bm 9), .ref (bm 10), .int ac, .long dn, .ref (bm 11), .ref (bm 12), .ref (bm 13), .ref (bm 14), .int hi])), ((bm 2), .inl ((km 2), 8, .inl rr)), ((bm 3), .inl ((km 3), 48, .inl rd)), ((bm 4), .inl ((km 4), 8, .inl ru)), ((bm 5), .inl ((km 5), 48, .inl td)), ((bm 8), .inl ((km 8), 279, .inl nw))] H := hP
  have hD : va_D A [((bm 0), .inr (10, [.int th, .ref (bm 1), .int tn, .int at_, .int wr, .ref (bm 2), .ref (bm 3), .int rm_, .ref (bm 4), .ref (bm 5), .int rm_, .ref (bm 6), .ref (bm 7), .int sn, .ref (bm 8), .ref (bm 9), .ref (bm 10), .int ac, .long dn, .ref (bm 11), .ref (bm 12), .ref (bm 13), .ref (bm 14), .int hi])), ((bm 2), .inl ((km 2), 8, .inl rr)), ((bm 3), .inl ((km 3), 48, .inl rd)), ((bm 4), .inl ((km 4), 8, .inl ru)), ((bm 5), .inl ((km 5), 48, .inl td)), ((bm 8), .inl ((km 8), 279, .inl nw))] := hD
  refine lv_iconst (v := 0) hx hb dX10_takeTree_8 (by decide) ?_
  refine lv_istore_n (lv' := [(1, .int 0), (0, .ref (bm 0))]) hx hb dX10_takeTree_9 rfl hl (by decide) rfl (fun ls hl => ?_)
  have L_10 : ∀ (n_10 : Nat) (x1_10 : Int32) (mn_c : Int32) (ac_c : Int32) (hi_c : Int32) (ru_c : Nat → Int32) (td_c : Nat → Int32) (nw_c : Nat → Int32) (H : Heap) (locs : List Loc) (ls : Array Slot), FL_X10_takeTree_10 rm_ mn ac hi rr rd ru td nw n_10 x1_10 mn_c ac_c hi_c ru_c td_c nw_c = some o → va_P (dC, dI) vwCl [((bm 0), .inr (10, [.int th, .ref (bm 1), .int tn, .int at_, .int wr, .ref (bm 2), .ref (bm 3), .int rm_, .ref (bm 4), .ref (bm 5), .int mn_c, .ref (bm 6), .ref (bm 7), .int sn, .ref (bm 8), .ref (bm 9), .ref (bm 10), .int ac_c, .long dn, .ref (bm 11), .ref (bm 12), .ref (bm 13), .ref (bm 14), .int hi_c])), ((bm 2), .inl ((km 2), 8, .inl rr)), ((bm 3), .inl ((km 3), 48, .inl rd)), ((bm 4), .inl ((km 4), 8, .inl ru_c)), ((bm 5), .inl ((km 5), 48, .inl td_c)), ((bm 8), .inl ((km 8), 279, .inl nw_c))] H → va_D A [((bm 0), .inr (10, [.int th, .ref (bm 1), .int tn, .int at_, .int wr, .ref (bm 2), .ref (bm 3), .int rm_, .ref (bm 4), .ref (bm 5), .int mn_c, .ref (bm 6), .ref (bm 7), .int sn, .ref (bm 8), .ref (bm 9), .ref (bm 10), .int ac_c, .long dn, .ref (bm 11), .ref (bm 12), .ref (bm 13), .ref (bm 14), .int hi_c])), ((bm 2), .inl ((km 2), 8, .inl rr)), ((bm 3), .inl ((km 3), 48, .inl rd)), ((bm 4), .inl ((km 4), 8, .inl ru_c)), ((bm 5), .inl ((km 5), 48, .inl td_c)), ((bm 8), .inl ((km 8), 279, .inl nw_c))] → va_S A s.heap H locs → lv_has ls 2 [(1, .int x1_10), (0, .ref (bm 0))] → W p l e (headSpec (.code yX10_takeTree cX10_takeTree 2 (some .int) :: wA) ({ frames := 1, cells := 0, slots := 0, locals := 22 })).room s m #[.ref (bm 0)] below meth c H locs 0 0 (MQ below (va_Qi (fun (r : Int32) (_ : Unit) => r = o.1 ∧ True) (fun (_ : Unit) t => q_B (dC, dI) A [((bm 0), .inr (10, [.int th, .ref (bm 1), .int tn, .int at_, .int wr, .ref (bm 2), .ref (bm 3), .int rm_, .ref (bm 4), .ref (bm 5), .int (o.2.1), .ref (bm 6), .ref (bm 7), .int sn, .ref (bm 8), .ref (bm 9), .ref (bm 10), .int (o.2.2.1), .long dn, .ref (bm 11), .ref (bm 12), .ref (bm 13), .ref (bm 14), .int (o.2.2.2.1)])), ((bm 2), .inl ((km 2), 8, .inl rr)), ((bm 3), .inl ((km 3), 48, .inl rd)), ((bm 4), .inl ((km 4), 8, .inl (o.2.2.2.2.1))), ((bm 5), .inl ((km 5), 48, .inl (o.2.2.2.2.2.1))), ((bm 8), .inl ((km 8), 279, .inl (o.2.2.2.2.2.2)))] [((km 2), .int), ((km 3), .int), ((km 4), .int), ((km 5), .int), ((km 8), .int)] t) A) #[.ref (bm 0)] s 0 0 A) (F0 m 10 ls []) := by
    intro n_10
    induction n_10 with
    | zero =>
      intro x1_10 mn_c ac_c hi_c ru_c td_c nw_c H locs ls hG
      exact q_no hG
    | succ n_10 ih_10 =>
      intro x1_10 mn_c ac_c hi_c ru_c td_c nw_c H locs ls hG hP hD hS hl
      unfold FL_X10_takeTree_10 at hG
      refine lv_iload_n hx hb dX10_takeTree_10 rfl (lv_at hl 0 rfl) ?_
      refine lv_bipush (v := 8) hx hb dX10_takeTree_11 (by decide) ?_
      refine lv_icmp_ge (tgt := 34) hx hb dX10_takeTree_13 (by decide) (fun c_1 => ?_) (fun c_1 => ?_)
      · have hG := q_ifp c_1 hG
        refine lv_iconst (v := 0) hx hb dX10_takeTree_34 (by decide) ?_
        refine lv_istore_n (lv' := [(1, .int 0), (0, .ref (bm 0))]) hx hb dX10_takeTree_35 rfl hl (by decide) rfl (fun ls hl => ?_)
        have L_36 : ∀ (n_36 : Nat) (x1_36 : Int32) (mn_c : Int32) (ac_c : Int32) (hi_c : Int32) (ru_c : Nat → Int32) (td_c : Nat → Int32) (nw_c : Nat → Int32) (H : Heap) (locs : List Loc) (ls : Array Slot), FL_X10_takeTree_36 rm_ mn ac hi rr rd ru td nw n_36 x1_36 mn_c ac_c hi_c ru_c td_c nw_c = some o → va_P (dC, dI) vwCl [((bm 0), .inr (10, [.int th, .ref (bm 1), .int tn, .int at_, .int wr, .ref (bm 2), .ref (bm 3), .int rm_, .ref (bm 4), .ref (bm 5), .int mn_c, .ref (bm 6), .ref (bm 7), .int sn, .ref (bm 8), .ref (bm 9), .ref (bm 10), .int ac_c, .long dn, .ref (bm 11), .ref (bm 12), .ref (bm 13), .ref (bm 14), .int hi_c])), ((bm 2), .inl ((km 2), 8, .inl rr)), ((bm 3), .inl ((km 3), 48, .inl rd)), ((bm 4), .inl ((km 4), 8, .inl ru_c)), ((bm 5), .inl ((km 5), 48, .inl td_c)), ((bm 8), .inl ((km 8), 279, .inl nw_c))] H → va_D A [((bm 0), .inr (10, [.int th, .ref (bm 1), .int tn, .int at_, .int wr, .ref (bm 2), .ref (bm 3), .int rm_, .ref (bm 4), .ref (bm 5), .int mn_c, .ref (bm 6), .ref (bm 7), .int sn, .ref (bm 8), .ref (bm 9), .ref (bm 10), .int ac_c, .long dn, .ref (bm 11), .ref (bm 12), .ref (bm 13), .ref (bm 14), .int hi_c])), ((bm 2), .inl ((km 2), 8, .inl rr)), ((bm 3), .inl ((km 3), 48, .inl rd)), ((bm 4), .inl ((km 4), 8, .inl ru_c)), ((bm 5), .inl ((km 5), 48, .inl td_c)), ((bm 8), .inl ((km 8), 279, .inl nw_c))] → va_S A s.heap H locs → lv_has ls 2 [(1, .int x1_36), (0, .ref (bm 0))] → W p l e (headSpec (.code yX10_takeTree cX10_takeTree 2 (some .int) :: wA) ({ frames := 1, cells := 0, slots := 0, locals := 22 })).room s m #[.ref (bm 0)] below meth c H locs 0 0 (MQ below (va_Qi (fun (r : Int32) (_ : Unit) => r = o.1 ∧ True) (fun (_ : Unit) t => q_B (dC, dI) A [((bm 0), .inr (10, [.int th, .ref (bm 1), .int tn, .int at_, .int wr, .ref (bm 2), .ref (bm 3), .int rm_, .ref (bm 4), .ref (bm 5), .int (o.2.1), .ref (bm 6), .ref (bm 7), .int sn, .ref (bm 8), .ref (bm 9), .ref (bm 10), .int (o.2.2.1), .long dn, .ref (bm 11), .ref (bm 12), .ref (bm 13), .ref (bm 14), .int (o.2.2.2.1)])), ((bm 2), .inl ((km 2), 8, .inl rr)), ((bm 3), .inl ((km 3), 48, .inl rd)), ((bm 4), .inl ((km 4), 8, .inl (o.2.2.2.2.1))), ((bm 5), .inl ((km 5), 48, .inl (o.2.2.2.2.2.1))), ((bm 8), .inl ((km 8), 279, .inl (o.2.2.2.2.2.2)))] [((km 2), .int), ((km 3), .int), ((km 4), .int), ((km 5), .int), ((km 8), .int)] t) A) #[.ref (bm 0)] s 0 0 A) (F0 m 36 ls []) := by
          intro n_36
          induction n_36 with
          | zero =>
            intro x1_36 mn_c ac_c hi_c ru_c td_c nw_c H locs ls hG
            exact q_no hG
          | succ n_36 ih_36 =>
            intro x1_36 mn_c ac_c hi_c ru_c td_c nw_c H locs ls hG hP hD hS hl
            unfold FL_X10_takeTree_36 at hG
            refine lv_iload_n hx hb dX10_takeTree_36 rfl (lv_at hl 0 rfl) ?_
            refine lv_bipush (v := 6) hx hb dX10_takeTree_37 (by decide) ?_
            refine lv_aload_n hx hb dX10_takeTree_39 rfl (lv_at hl 1 rfl) ?_
            refine va_get (D := (dC, dI)) (ci := 10) (v := .int mn_c) (C := RX10) (T := TX10) (N := 24) hx hb hts iA_10 hown hK hP 0 rfl rfl 10 (by decide) (hts (.fieldLink RX10 132 "HubTreeModel" "many" "I") (List.mem_cons_of_mem _ m_433)) (fun _ h9 => h9) rfl dX10_takeTree_40 ?_
            refine lv_imul hx hb dX10_takeTree_43 ?_
            refine lv_icmp_ge (tgt := 65) hx hb dX10_takeTree_44 (by decide) (fun c_2 => ?_) (fun c_2 => ?_)
            · have hG := q_ifp c_2 hG
              refine lv_iconst (v := 0) hx hb dX10_takeTree_65 (by decide) ?_
              refine lv_istore_n (lv' := [(1, .int 0), (0, .ref (bm 0))]) hx hb dX10_takeTree_66 rfl hl (by decide) rfl (fun ls hl => ?_)
              have L_67 : ∀ (n_67 : Nat) (x1_67 : Int32) (mn_c : Int32) (ac_c : Int32) (hi_c : Int32) (ru_c : Nat → Int32) (td_c : Nat → Int32) (nw_c : Nat → Int32) (H : Heap) (locs : List Loc) (ls : Array Slot), FL_X10_takeTree_67 rm_ mn ac hi rr rd ru td nw n_67 x1_67 mn_c ac_c hi_c ru_c td_c nw_c = some o → va_P (dC, dI) vwCl [((bm 0), .inr (10, [.int th, .ref (bm 1), .int tn, .int at_, .int wr, .ref (bm 2), .ref (bm 3), .int rm_, .ref (bm 4), .ref (bm 5), .int mn_c, .ref (bm 6), .ref (bm 7), .int sn, .ref (bm 8), .ref (bm 9), .ref (bm 10), .int ac_c, .long dn, .ref (bm 11), .ref (bm 12), .ref (bm 13), .ref (bm 14), .int hi_c])), ((bm 2), .inl ((km 2), 8, .inl rr)), ((bm 3), .inl ((km 3), 48, .inl rd)), ((bm 4), .inl ((km 4), 8, .inl ru_c)), ((bm 5), .inl ((km 5), 48, .inl td_c)), ((bm 8), .inl ((km 8), 279, .inl nw_c))] H → va_D A [((bm 0), .inr (10, [.int th, .ref (bm 1), .int tn, .int at_, .int wr, .ref (bm 2), .ref (bm 3), .int rm_, .ref (bm 4), .ref (bm 5), .int mn_c, .ref (bm 6), .ref (bm 7), .int sn, .ref (bm 8), .ref (bm 9), .ref (bm 10), .int ac_c, .long dn, .ref (bm 11), .ref (bm 12), .ref (bm 13), .ref (bm 14), .int hi_c])), ((bm 2), .inl ((km 2), 8, .inl rr)), ((bm 3), .inl ((km 3), 48, .inl rd)), ((bm 4), .inl ((km 4), 8, .inl ru_c)), ((bm 5), .inl ((km 5), 48, .inl td_c)), ((bm 8), .inl ((km 8), 279, .inl nw_c))] → va_S A s.heap H locs → lv_has ls 2 [(1, .int x1_67), (0, .ref (bm 0))] → W p l e (headSpec (.code yX10_takeTree cX10_takeTree 2 (some .int) :: wA) ({ frames := 1, cells := 0, slots := 0, locals := 22 })).room s m #[.ref (bm 0)] below meth c H locs 0 0 (MQ below (va_Qi (fun (r : Int32) (_ : Unit) => r = o.1 ∧ True) (fun (_ : Unit) t => q_B (dC, dI) A [((bm 0), .inr (10, [.int th, .ref (bm 1), .int tn, .int at_, .int wr, .ref (bm 2), .ref (bm 3), .int rm_, .ref (bm 4), .ref (bm 5), .int (o.2.1), .ref (bm 6), .ref (bm 7), .int sn, .ref (bm 8), .ref (bm 9), .ref (bm 10), .int (o.2.2.1), .long dn, .ref (bm 11), .ref (bm 12), .ref (bm 13), .ref (bm 14), .int (o.2.2.2.1)])), ((bm 2), .inl ((km 2), 8, .inl rr)), ((bm 3), .inl ((km 3), 48, .inl rd)), ((bm 4), .inl ((km 4), 8, .inl (o.2.2.2.2.1))), ((bm 5), .inl ((km 5), 48, .inl (o.2.2.2.2.2.1))), ((bm 8), .inl ((km 8), 279, .inl (o.2.2.2.2.2.2)))] [((km 2), .int), ((km 3), .int), ((km 4), .int), ((km 5), .int), ((km 8), .int)] t) A) #[.ref (bm 0)] s 0 0 A) (F0 m 67 ls []) := by
                intro n_67
                induction n_67 with
                | zero =>
                  intro x1_67 mn_c ac_c hi_c ru_c td_c nw_c H locs ls hG
                  exact q_no hG
                | succ n_67 ih_67 =>
                  intro x1_67 mn_c ac_c hi_c ru_c td_c nw_c H locs ls hG hP hD hS hl
                  unfold FL_X10_takeTree_67 at hG
                  refine lv_iload_n hx hb dX10_takeTree_67 rfl (lv_at hl 0 rfl) ?_
                  refine lv_sipush (v := 279) hx hb dX10_takeTree_68 (by decide) ?_
                  refine lv_icmp_ge (tgt := 87) hx hb dX10_takeTree_71 (by decide) (fun c_3 => ?_) (fun c_3 => ?_)
                  · have hG := q_ifp c_3 hG
                    refine lv_iconst (v := 0) hx hb dX10_takeTree_87 (by decide) ?_
                    refine lv_istore_n (lv' := [(1, .int 0), (0, .ref (bm 0))]) hx hb dX10_takeTree_88 rfl hl (by decide) rfl (fun ls hl => ?_)
                    have L_89 : ∀ (n_89 : Nat) (x1_89 : Int32) (mn_c : Int32) (ac_c : Int32) (hi_c : Int32) (ru_c : Nat → Int32) (td_c : Nat → Int32) (nw_c : Nat → Int32) (H : Heap) (locs : List Loc) (ls : Array Slot), FL_X10_takeTree_89 rm_ mn ac hi rr rd ru td nw n_89 x1_89 mn_c ac_c hi_c ru_c td_c nw_c = some o → va_P (dC, dI) vwCl [((bm 0), .inr (10, [.int th, .ref (bm 1), .int tn, .int at_, .int wr, .ref (bm 2), .ref (bm 3), .int rm_, .ref (bm 4), .ref (bm 5), .int mn_c, .ref (bm 6), .ref (bm 7), .int sn, .ref (bm 8), .ref (bm 9), .ref (bm 10), .int ac_c, .long dn, .ref (bm 11), .ref (bm 12), .ref (bm 13), .ref (bm 14), .int hi_c])), ((bm 2), .inl ((km 2), 8, .inl rr)), ((bm 3), .inl ((km 3), 48, .inl rd)), ((bm 4), .inl ((km 4), 8, .inl ru_c)), ((bm 5), .inl ((km 5), 48, .inl td_c)), ((bm 8), .inl ((km 8), 279, .inl nw_c))] H → va_D A [((bm 0), .inr (10, [.int th, .ref (bm 1), .int tn, .int at_, .int wr, .ref (bm 2), .ref (bm 3), .int rm_, .ref (bm 4), .ref (bm 5), .int mn_c, .ref (bm 6), .ref (bm 7), .int sn, .ref (bm 8), .ref (bm 9), .ref (bm 10), .int ac_c, .long dn, .ref (bm 11), .ref (bm 12), .ref (bm 13), .ref (bm 14), .int hi_c])), ((bm 2), .inl ((km 2), 8, .inl rr)), ((bm 3), .inl ((km 3), 48, .inl rd)), ((bm 4), .inl ((km 4), 8, .inl ru_c)), ((bm 5), .inl ((km 5), 48, .inl td_c)), ((bm 8), .inl ((km 8), 279, .inl nw_c))] → va_S A s.heap H locs → lv_has ls 2 [(1, .int x1_89), (0, .ref (bm 0))] → W p l e (headSpec (.code yX10_takeTree cX10_takeTree 2 (some .int) :: wA) ({ frames := 1, cells := 0, slots := 0, locals := 22 })).room s m #[.ref (bm 0)] below meth c H locs 0 0 (MQ below (va_Qi (fun (r : Int32) (_ : Unit) => r = o.1 ∧ True) (fun (_ : Unit) t => q_B (dC, dI) A [((bm 0), .inr (10, [.int th, .ref (bm 1), .int tn, .int at_, .int wr, .ref (bm 2), .ref (bm 3), .int rm_, .ref (bm 4), .ref (bm 5), .int (o.2.1), .ref (bm 6), .ref (bm 7), .int sn, .ref (bm 8), .ref (bm 9), .ref (bm 10), .int (o.2.2.1), .long dn, .ref (bm 11), .ref (bm 12), .ref (bm 13), .ref (bm 14), .int (o.2.2.2.1)])), ((bm 2), .inl ((km 2), 8, .inl rr)), ((bm 3), .inl ((km 3), 48, .inl rd)), ((bm 4), .inl ((km 4), 8, .inl (o.2.2.2.2.1))), ((bm 5), .inl ((km 5), 48, .inl (o.2.2.2.2.2.1))), ((bm 8), .inl ((km 8), 279, .inl (o.2.2.2.2.2.2)))] [((km 2), .int), ((km 3), .int), ((km 4), .int), ((km 5), .int), ((km 8), .int)] t) A) #[.ref (bm 0)] s 0 0 A) (F0 m 89 ls []) := by
                      intro n_89
                      induction n_89 with
                      | zero =>
                        intro x1_89 mn_c ac_c hi_c ru_c td_c nw_c H locs ls hG
                        exact q_no hG
                      | succ n_89 ih_89 =>
                        intro x1_89 mn_c ac_c hi_c ru_c td_c nw_c H locs ls hG hP hD hS hl
                        unfold FL_X10_takeTree_89 at hG
                        refine lv_iload_n hx hb dX10_takeTree_89 rfl (lv_at hl 0 rfl) ?_
                        refine lv_aload_n hx hb dX10_takeTree_90 rfl (lv_at hl 1 rfl) ?_
                        refine va_get (D := (dC, dI)) (ci := 10) (v := .int mn_c) (C := RX10) (T := TX10) (N := 24) hx hb hts iA_10 hown hK hP 0 rfl rfl 10 (by decide) (hts (.fieldLink RX10 132 "HubTreeModel" "many" "I") (List.mem_cons_of_mem _ m_433)) (fun _ h9 => h9) rfl dX10_takeTree_91 ?_
                        refine lv_icmp_ge (tgt := 138) hx hb dX10_takeTree_94 (by decide) (fun c_4 => ?_) (fun c_4 => ?_)
                        · have hG := q_ifp c_4 hG
                          refine lv_aload_n hx hb dX10_takeTree_138 rfl (lv_at hl 1 rfl) ?_
                          refine lv_iconst (v := 0) hx hb dX10_takeTree_139 (by decide) ?_
                          refine va_put (D := (dC, dI)) (ci := 10) (v := .int 0) (ty := .int) (C := RX10) (T := TX10) (N := 24) hx hb hts iA_10 tyX10 tyX10_ok nmX10 hown hK hP hD hS 0 rfl rfl 17 (by decide) (hts (.fieldLink RX10 151 "HubTreeModel" "acts" "I") (List.mem_cons_of_mem _ m_434)) (fun _ h9 => h9) rfl (by decide +kernel) rfl rfl (Nat.le_of_ble_eq_true rfl) dX10_takeTree_140 (fun H locs hP hD hS => ?_)
                          have hP : va_P (dC, dI) vwCl [((bm 0), .inr (10, [.int th, .ref (bm 1), .int tn, .int at_, .int wr, .ref (bm 2), .ref (bm 3), .int rm_, .ref (bm 4), .ref (bm 5), .int mn_c, .ref (bm 6), .ref (bm 7), .int sn, .ref (bm 8), .ref (bm 9), .ref (bm 10), .int 0, .long dn, .ref (bm 11), .ref (bm 12), .ref (bm 13), .ref (bm 14), .int hi_c])), ((bm 2), .inl ((km 2), 8, .inl rr)), ((bm 3), .inl ((km 3), 48, .inl rd)), ((bm 4), .inl ((km 4), 8, .inl ru_c)), ((bm 5), .inl ((km 5), 48, .inl td_c)), ((bm 8), .inl ((km 8), 279, .inl nw_c))] H := hP
                          have hD : va_D A [((bm 0), .inr (10, [.int th, .ref (bm 1), .int tn, .int at_, .int wr, .ref (bm 2), .ref (bm 3), .int rm_, .ref (bm 4), .ref (bm 5), .int mn_c, .ref (bm 6), .ref (bm 7), .int sn, .ref (bm 8), .ref (bm 9), .ref (bm 10), .int 0, .long dn, .ref (bm 11), .ref (bm 12), .ref (bm 13), .ref (bm 14), .int hi_c])), ((bm 2), .inl ((km 2), 8, .inl rr)), ((bm 3), .inl ((km 3), 48, .inl rd)), ((bm 4), .inl ((km 4), 8, .inl ru_c)), ((bm 5), .inl ((km 5), 48, .inl td_c)), ((bm 8), .inl ((km 8), 279, .inl nw_c))] := hD
                          refine lv_aload_n hx hb dX10_takeTree_143 rfl (lv_at hl 1 rfl) ?_
                          refine lv_iconst (v := 0) hx hb dX10_takeTree_144 (by decide) ?_
                          refine va_put (D := (dC, dI)) (ci := 10) (v := .int 0) (ty := .boolean) (C := RX10) (T := TX10) (N := 24) hx hb hts iA_10 tyX10 tyX10_ok nmX10 hown hK hP hD hS 0 rfl rfl 23 (by decide) (hts (.fieldLink RX10 154 "HubTreeModel" "hasImage" "Z") (List.mem_cons_of_mem _ m_435)) (fun _ h9 => h9) rfl (by decide +kernel) rfl rfl (Nat.le_of_ble_eq_true rfl) dX10_takeTree_145 (fun H locs hP hD hS => ?_)
                          have hP : va_P (dC, dI) vwCl [((bm 0), .inr (10, [.int th, .ref (bm 1), .int tn, .int at_, .int wr, .ref (bm 2), .ref (bm 3), .int rm_, .ref (bm 4), .ref (bm 5), .int mn_c, .ref (bm 6), .ref (bm 7), .int sn, .ref (bm 8), .ref (bm 9), .ref (bm 10), .int 0, .long dn, .ref (bm 11), .ref (bm 12), .ref (bm 13), .ref (bm 14), .int 0])), ((bm 2), .inl ((km 2), 8, .inl rr)), ((bm 3), .inl ((km 3), 48, .inl rd)), ((bm 4), .inl ((km 4), 8, .inl ru_c)), ((bm 5), .inl ((km 5), 48, .inl td_c)), ((bm 8), .inl ((km 8), 279, .inl nw_c))] H := hP
                          have hD : va_D A [((bm 0), .inr (10, [.int th, .ref (bm 1), .int tn, .int at_, .int wr, .ref (bm 2), .ref (bm 3), .int rm_, .ref (bm 4), .ref (bm 5), .int mn_c, .ref (bm 6), .ref (bm 7), .int sn, .ref (bm 8), .ref (bm 9), .ref (bm 10), .int 0, .long dn, .ref (bm 11), .ref (bm 12), .ref (bm 13), .ref (bm 14), .int 0])), ((bm 2), .inl ((km 2), 8, .inl rr)), ((bm 3), .inl ((km 3), 48, .inl rd)), ((bm 4), .inl ((km 4), 8, .inl ru_c)), ((bm 5), .inl ((km 5), 48, .inl td_c)), ((bm 8), .inl ((km 8), 279, .inl nw_c))] := hD
                          refine lv_aload_n hx hb dX10_takeTree_148 rfl (lv_at hl 1 rfl) ?_
                          refine va_get (D := (dC, dI)) (ci := 10) (v := .int mn_c) (C := RX10) (T := TX10) (N := 24) hx hb hts iA_10 hown hK hP 0 rfl rfl 10 (by decide) (hts (.fieldLink RX10 132 "HubTreeModel" "many" "I") (List.mem_cons_of_mem _ m_433)) (fun _ h9 => h9) rfl dX10_takeTree_149 ?_
                          obtain rfl := Option.some.inj hG
                          have hP9 := hP.sub (ws' := [((bm 0), .inr (10, [.int th, .ref (bm 1), .int tn, .int at_, .int wr, .ref (bm 2), .ref (bm 3), .int rm_, .ref (bm 4), .ref (bm 5), .int mn_c, .ref (bm 6), .ref (bm 7), .int sn, .ref (bm 8), .ref (bm 9), .ref (bm 10), .int 0, .long dn, .ref (bm 11), .ref (bm 12), .ref (bm 13), .ref (bm 14), .int 0])), ((bm 2), .inl ((km 2), 8, .inl rr)), ((bm 3), .inl ((km 3), 48, .inl rd)), ((bm 4), .inl ((km 4), 8, .inl ru_c)), ((bm 5), .inl ((km 5), 48, .inl td_c)), ((bm 8), .inl ((km 8), 279, .inl nw_c))]) [0, 1, 2, 3, 4, 5] rfl
                          have hD9 := hD.sub (ws' := [((bm 0), .inr (10, [.int th, .ref (bm 1), .int tn, .int at_, .int wr, .ref (bm 2), .ref (bm 3), .int rm_, .ref (bm 4), .ref (bm 5), .int mn_c, .ref (bm 6), .ref (bm 7), .int sn, .ref (bm 8), .ref (bm 9), .ref (bm 10), .int 0, .long dn, .ref (bm 11), .ref (bm 12), .ref (bm 13), .ref (bm 14), .int 0])), ((bm 2), .inl ((km 2), 8, .inl rr)), ((bm 3), .inl ((km 3), 48, .inl rd)), ((bm 4), .inl ((km 4), 8, .inl ru_c)), ((bm 5), .inl ((km 5), 48, .inl td_c)), ((bm 8), .inl ((km 8), 279, .inl nw_c))]) [0, 1, 2, 3, 4, 5] (by decide) rfl
                          have hK9 := hK.sub (tys' := [((km 2), .int), ((km 3), .int), ((km 4), .int), ((km 5), .int), ((km 8), .int)]) [0, 1, 2, 3, 4] rfl
                          exact W.iret (v := mn_c) hx hb hr (fun t ht hW => ⟨⟨mn_c, (), rfl, ⟨rfl, trivial⟩, by rw [ht]; exact hP9, va_K.moved hW.alike hK9, hD9⟩, hS.F ht⟩) hS.2.2 dX10_takeTree_152
                        · have hG := q_ifn c_4 hG
                          refine lv_aload_n hx hb dX10_takeTree_97 rfl (lv_at hl 1 rfl) ?_
                          refine lv_iload_n hx hb dX10_takeTree_98 rfl (lv_at hl 0 rfl) ?_
                          obtain ⟨o_5, r_6, hG⟩ := q_bi hG
                          refine q_gov2 (wr := [((bm 2), .inl ((km 2), 8, .inl rr)), ((bm 3), .inl ((km 3), 48, .inl rd)), ((bm 4), .inl ((km 4), 8, .inl ru_c)), ((bm 5), .inl ((km 5), 48, .inl td_c))]) (va_runV (As := [.int x1_89]) (rest := []) ⟨hx, hb, hml, hown, hts⟩ (c_X10_clear l dC dI bm km th tn at_ wr rm_ mn_c sn ac_c hi_c dn nw_c x1_89 (va_A [((bm 0), .inr (10, [.int th, .ref (bm 1), .int tn, .int at_, .int wr, .ref (bm 2), .ref (bm 3), .int rm_, .ref (bm 4), .ref (bm 5), .int mn_c, .ref (bm 6), .ref (bm 7), .int sn, .ref (bm 8), .ref (bm 9), .ref (bm 10), .int ac_c, .long dn, .ref (bm 11), .ref (bm 12), .ref (bm 13), .ref (bm 14), .int hi_c])), ((bm 8), .inl ((km 8), 279, .inl nw_c))] H.size) o_5 r_6) (cwV 1 hts (q_gV m_436 m_437 m_438 m_5 m_439) rfl rfl rfl hdV_yX10_clear_1 ⟨Nat.le_of_ble_eq_true rfl, Nat.le_of_ble_eq_true rfl⟩) (q_preWV hK hP hD (q := (RX10, TX10, 24)) (ci := 10) (q0 := 0) rfl rfl [0, 5] (by decide) rfl rfl [4] rfl) rfl rfl hl.1 rfl (lv_room (Nat.le_of_ble_eq_true rfl)) dX10_takeTree_99 ⟨Nat.le_of_ble_eq_true rfl, Nat.le_of_ble_eq_true rfl⟩) hK hP hD hS hA [0, 5] [1, 2, 3, 4] rfl rfl (by decide) (by decide) (fun _ H locs _ hP hD hK9 hS => ?_)
                          have hP : va_P (dC, dI) vwCl [((bm 0), .inr (10, [.int th, .ref (bm 1), .int tn, .int at_, .int wr, .ref (bm 2), .ref (bm 3), .int rm_, .ref (bm 4), .ref (bm 5), .int mn_c, .ref (bm 6), .ref (bm 7), .int sn, .ref (bm 8), .ref (bm 9), .ref (bm 10), .int ac_c, .long dn, .ref (bm 11), .ref (bm 12), .ref (bm 13), .ref (bm 14), .int hi_c])), ((bm 2), .inl ((km 2), 8, .inl rr)), ((bm 3), .inl ((km 3), 48, .inl rd)), ((bm 4), .inl ((km 4), 8, .inl ru_c)), ((bm 5), .inl ((km 5), 48, .inl td_c)), ((bm 8), .inl ((km 8), 279, .inl (o_5)))] H := hP.sub [4, 0, 1, 2, 3, 5] rfl
                          have hD : va_D A [((bm 0), .inr (10, [.int th, .ref (bm 1), .int tn, .int at_, .int wr, .ref (bm 2), .ref (bm 3), .int rm_, .ref (bm 4), .ref (bm 5), .int mn_c, .ref (bm 6), .ref (bm 7), .int sn, .ref (bm 8), .ref (bm 9), .ref (bm 10), .int ac_c, .long dn, .ref (bm 11), .ref (bm 12), .ref (bm 13), .ref (bm 14), .int hi_c])), ((bm 2), .inl ((km 2), 8, .inl rr)), ((bm 3), .inl ((km 3), 48, .inl rd)), ((bm 4), .inl ((km 4), 8, .inl ru_c)), ((bm 5), .inl ((km 5), 48, .inl td_c)), ((bm 8), .inl ((km 8), 279, .inl (o_5)))] := hD.sub [4, 0, 1, 2, 3, 5] (by decide) rfl
                          refine lv_aload_n hx hb dX10_takeTree_102 rfl (lv_at hl 1 rfl) ?_
                          refine va_get (D := (dC, dI)) (ci := 10) (v := .ref (bm 8)) (C := RX10) (T := TX10) (N := 24) hx hb hts iA_10 hown hK hP 0 rfl rfl 14 (by decide) (hts (.fieldLink RX10 31 "HubTreeModel" "now" "[I") (List.mem_cons_of_mem _ m_122)) (fun _ h9 => h9) rfl dX10_takeTree_103 ?_
                          refine lv_bipush (v := 72) hx hb dX10_takeTree_106 (by decide) ?_
                          refine lv_iload_n hx hb dX10_takeTree_108 rfl (lv_at hl 0 rfl) ?_
                          refine lv_iadd hx hb dX10_takeTree_109 ?_
                          refine lv_aload_n hx hb dX10_takeTree_110 rfl (lv_at hl 1 rfl) ?_
                          refine lv_iload_n hx hb dX10_takeTree_111 rfl (lv_at hl 0 rfl) ?_
                          refine lv_iconst (v := 3) hx hb dX10_takeTree_112 (by decide) ?_
                          obtain ⟨o_7, r_8, hG⟩ := q_bi hG
                          refine q_goi (v := o_7) (va_runV (As := [.int x1_89, .int 3]) (rest := [.int (72 + x1_89), .ref (bm 8)]) ⟨hx, hb, hml, hown, hts⟩ (c_X10_toldOf l dC dI bm km th tn at_ wr rm_ mn_c sn ac_c hi_c dn td_c x1_89 3 o_7 r_8) (cwV 2 hts (q_gV m_440 m_441 m_442 m_5 m_443) rfl rfl rfl hdV_yX10_toldOf_2 ⟨Nat.le_of_ble_eq_true rfl, Nat.le_of_ble_eq_true rfl⟩) (q_preV hK hP (q := (RX10, TX10, 24)) (ci := 10) (q0 := 0) rfl rfl [0, 4] rfl [3] rfl) rfl rfl hl.1 rfl (lv_room (Nat.le_of_ble_eq_true rfl)) dX10_takeTree_113 ⟨Nat.le_of_ble_eq_true rfl, Nat.le_of_ble_eq_true rfl⟩) hP hS (fun H locs hP hS => ?_)
                          obtain ⟨h_9, hG⟩ := q_ix hG
                          refine va_iast hx hb hK hP hD hS 5 4 rfl rfl (i := (72 + x1_89)) (x := o_7) h_9 dX10_takeTree_116 (fun H locs hP hD hS => ?_)
                          have hP : va_P (dC, dI) vwCl [((bm 0), .inr (10, [.int th, .ref (bm 1), .int tn, .int at_, .int wr, .ref (bm 2), .ref (bm 3), .int rm_, .ref (bm 4), .ref (bm 5), .int mn_c, .ref (bm 6), .ref (bm 7), .int sn, .ref (bm 8), .ref (bm 9), .ref (bm 10), .int ac_c, .long dn, .ref (bm 11), .ref (bm 12), .ref (bm 13), .ref (bm 14), .int hi_c])), ((bm 2), .inl ((km 2), 8, .inl rr)), ((bm 3), .inl ((km 3), 48, .inl rd)), ((bm 4), .inl ((km 4), 8, .inl ru_c)), ((bm 5), .inl ((km 5), 48, .inl td_c)), ((bm 8), .inl ((km 8), 279, .inl (upd (o_5) (72 + x1_89).toNatClampNeg o_7)))] H := hP
                          have hD : va_D A [((bm 0), .inr (10, [.int th, .ref (bm 1), .int tn, .int at_, .int wr, .ref (bm 2), .ref (bm 3), .int rm_, .ref (bm 4), .ref (bm 5), .int mn_c, .ref (bm 6), .ref (bm 7), .int sn, .ref (bm 8), .ref (bm 9), .ref (bm 10), .int ac_c, .long dn, .ref (bm 11), .ref (bm 12), .ref (bm 13), .ref (bm 14), .int hi_c])), ((bm 2), .inl ((km 2), 8, .inl rr)), ((bm 3), .inl ((km 3), 48, .inl rd)), ((bm 4), .inl ((km 4), 8, .inl ru_c)), ((bm 5), .inl ((km 5), 48, .inl td_c)), ((bm 8), .inl ((km 8), 279, .inl (upd (o_5) (72 + x1_89).toNatClampNeg o_7)))] := hD
                          refine lv_aload_n hx hb dX10_takeTree_117 rfl (lv_at hl 1 rfl) ?_
                          refine va_get (D := (dC, dI)) (ci := 10) (v := .ref (bm 8)) (C := RX10) (T := TX10) (N := 24) hx hb hts iA_10 hown hK hP 0 rfl rfl 14 (by decide) (hts (.fieldLink RX10 31 "HubTreeModel" "now" "[I") (List.mem_cons_of_mem _ m_122)) (fun _ h9 => h9) rfl dX10_takeTree_118 ?_
                          refine lv_bipush (v := 80) hx hb dX10_takeTree_121 (by decide) ?_
                          refine lv_iload_n hx hb dX10_takeTree_123 rfl (lv_at hl 0 rfl) ?_
                          refine lv_iadd hx hb dX10_takeTree_124 ?_
                          refine lv_aload_n hx hb dX10_takeTree_125 rfl (lv_at hl 1 rfl) ?_
                          refine lv_iload_n hx hb dX10_takeTree_126 rfl (lv_at hl 0 rfl) ?_
                          refine lv_iconst (v := 5) hx hb dX10_takeTree_127 (by decide) ?_
                          obtain ⟨o_10, r_11, hG⟩ := q_bi hG
                          refine q_goi (v := o_10) (va_runV (As := [.int x1_89, .int 5]) (rest := [.int (80 + x1_89), .ref (bm 8)]) ⟨hx, hb, hml, hown, hts⟩ (c_X10_toldOf l dC dI bm km th tn at_ wr rm_ mn_c sn ac_c hi_c dn td_c x1_89 5 o_10 r_11) (cwV 2 hts (q_gV m_440 m_441 m_442 m_5 m_443) rfl rfl rfl hdV_yX10_toldOf_2 ⟨Nat.le_of_ble_eq_true rfl, Nat.le_of_ble_eq_true rfl⟩) (q_preV hK hP (q := (RX10, TX10, 24)) (ci := 10) (q0 := 0) rfl rfl [0, 4] rfl [3] rfl) rfl rfl hl.1 rfl (lv_room (Nat.le_of_ble_eq_true rfl)) dX10_takeTree_128 ⟨Nat.le_of_ble_eq_true rfl, Nat.le_of_ble_eq_true rfl⟩) hP hS (fun H locs hP hS => ?_)
                          obtain ⟨h_12, hG⟩ := q_ix hG
                          refine va_iast hx hb hK hP hD hS 5 4 rfl rfl (i := (80 + x1_89)) (x := o_10) h_12 dX10_takeTree_131 (fun H locs hP hD hS => ?_)
                          have hP : va_P (dC, dI) vwCl [((bm 0), .inr (10, [.int th, .ref (bm 1), .int tn, .int at_, .int wr, .ref (bm 2), .ref (bm 3), .int rm_, .ref (bm 4), .ref (bm 5), .int mn_c, .ref (bm 6), .ref (bm 7), .int sn, .ref (bm 8), .ref (bm 9), .ref (bm 10), .int ac_c, .long dn, .ref (bm 11), .ref (bm 12), .ref (bm 13), .ref (bm 14), .int hi_c])), ((bm 2), .inl ((km 2), 8, .inl rr)), ((bm 3), .inl ((km 3), 48, .inl rd)), ((bm 4), .inl ((km 4), 8, .inl ru_c)), ((bm 5), .inl ((km 5), 48, .inl td_c)), ((bm 8), .inl ((km 8), 279, .inl (upd (upd (o_5) (72 + x1_89).toNatClampNeg o_7) (80 + x1_89).toNatClampNeg o_10)))] H := hP
                          have hD : va_D A [((bm 0), .inr (10, [.int th, .ref (bm 1), .int tn, .int at_, .int wr, .ref (bm 2), .ref (bm 3), .int rm_, .ref (bm 4), .ref (bm 5), .int mn_c, .ref (bm 6), .ref (bm 7), .int sn, .ref (bm 8), .ref (bm 9), .ref (bm 10), .int ac_c, .long dn, .ref (bm 11), .ref (bm 12), .ref (bm 13), .ref (bm 14), .int hi_c])), ((bm 2), .inl ((km 2), 8, .inl rr)), ((bm 3), .inl ((km 3), 48, .inl rd)), ((bm 4), .inl ((km 4), 8, .inl ru_c)), ((bm 5), .inl ((km 5), 48, .inl td_c)), ((bm 8), .inl ((km 8), 279, .inl (upd (upd (o_5) (72 + x1_89).toNatClampNeg o_7) (80 + x1_89).toNatClampNeg o_10)))] := hD
                          refine lv_iinc (v := (x1_89 + 1)) (lv' := [(1, .int (x1_89 + 1)), (0, .ref (bm 0))]) hx hb dX10_takeTree_132 hl (k := 0) rfl (rfl) (by decide) rfl (fun ls hl => ?_)
                          refine lv_goto (tgt := 89) hx hb dX10_takeTree_135 (by decide) ?_
                          exact ih_89 (x1_89 + 1) mn_c ac_c hi_c ru_c td_c (upd (upd (o_5) (72 + x1_89).toNatClampNeg o_7) (80 + x1_89).toNatClampNeg o_10) H locs ls hG hP hD hS (lv_sub hl [0, 1] rfl)
                    exact L_89 1000 0 mn_c ac_c hi_c ru_c td_c nw_c H locs ls hG hP hD hS hl
                  · have hG := q_ifn c_3 hG
                    refine lv_aload_n hx hb dX10_takeTree_74 rfl (lv_at hl 1 rfl) ?_
                    refine va_get (D := (dC, dI)) (ci := 10) (v := .ref (bm 8)) (C := RX10) (T := TX10) (N := 24) hx hb hts iA_10 hown hK hP 0 rfl rfl 14 (by decide) (hts (.fieldLink RX10 31 "HubTreeModel" "now" "[I") (List.mem_cons_of_mem _ m_122)) (fun _ h9 => h9) rfl dX10_takeTree_75 ?_
                    refine lv_iload_n hx hb dX10_takeTree_78 rfl (lv_at hl 0 rfl) ?_
                    refine lv_iconst (v := 0) hx hb dX10_takeTree_79 (by decide) ?_
                    obtain ⟨h_13, hG⟩ := q_ix hG
                    refine va_iast hx hb hK hP hD hS 5 4 rfl rfl (i := x1_67) (x := 0) h_13 dX10_takeTree_80 (fun H locs hP hD hS => ?_)
                    have hP : va_P (dC, dI) vwCl [((bm 0), .inr (10, [.int th, .ref (bm 1), .int tn, .int at_, .int wr, .ref (bm 2), .ref (bm 3), .int rm_, .ref (bm 4), .ref (bm 5), .int mn_c, .ref (bm 6), .ref (bm 7), .int sn, .ref (bm 8), .ref (bm 9), .ref (bm 10), .int ac_c, .long dn, .ref (bm 11), .ref (bm 12), .ref (bm 13), .ref (bm 14), .int hi_c])), ((bm 2), .inl ((km 2), 8, .inl rr)), ((bm 3), .inl ((km 3), 48, .inl rd)), ((bm 4), .inl ((km 4), 8, .inl ru_c)), ((bm 5), .inl ((km 5), 48, .inl td_c)), ((bm 8), .inl ((km 8), 279, .inl (upd nw_c (x1_67).toNatClampNeg 0)))] H := hP
                    have hD : va_D A [((bm 0), .inr (10, [.int th, .ref (bm 1), .int tn, .int at_, .int wr, .ref (bm 2), .ref (bm 3), .int rm_, .ref (bm 4), .ref (bm 5), .int mn_c, .ref (bm 6), .ref (bm 7), .int sn, .ref (bm 8), .ref (bm 9), .ref (bm 10), .int ac_c, .long dn, .ref (bm 11), .ref (bm 12), .ref (bm 13), .ref (bm 14), .int hi_c])), ((bm 2), .inl ((km 2), 8, .inl rr)), ((bm 3), .inl ((km 3), 48, .inl rd)), ((bm 4), .inl ((km 4), 8, .inl ru_c)), ((bm 5), .inl ((km 5), 48, .inl td_c)), ((bm 8), .inl ((km 8), 279, .inl (upd nw_c (x1_67).toNatClampNeg 0)))] := hD
                    refine lv_iinc (v := (x1_67 + 1)) (lv' := [(1, .int (x1_67 + 1)), (0, .ref (bm 0))]) hx hb dX10_takeTree_81 hl (k := 0) rfl (rfl) (by decide) rfl (fun ls hl => ?_)
                    refine lv_goto (tgt := 67) hx hb dX10_takeTree_84 (by decide) ?_
                    exact ih_67 (x1_67 + 1) mn_c ac_c hi_c ru_c td_c (upd nw_c (x1_67).toNatClampNeg 0) H locs ls hG hP hD hS (lv_sub hl [0, 1] rfl)
              exact L_67 1000 0 mn_c ac_c hi_c ru_c td_c nw_c H locs ls hG hP hD hS hl
            · have hG := q_ifn c_2 hG
              refine lv_aload_n hx hb dX10_takeTree_47 rfl (lv_at hl 1 rfl) ?_
              refine va_get (D := (dC, dI)) (ci := 10) (v := .ref (bm 5)) (C := RX10) (T := TX10) (N := 24) hx hb hts iA_10 hown hK hP 0 rfl rfl 9 (by decide) (hts (.fieldLink RX10 22 "HubTreeModel" "told" "[I") (List.mem_cons_of_mem _ m_119)) (fun _ h9 => h9) rfl dX10_takeTree_48 ?_
              refine lv_iload_n hx hb dX10_takeTree_51 rfl (lv_at hl 0 rfl) ?_
              refine lv_aload_n hx hb dX10_takeTree_52 rfl (lv_at hl 1 rfl) ?_
              refine va_get (D := (dC, dI)) (ci := 10) (v := .ref (bm 3)) (C := RX10) (T := TX10) (N := 24) hx hb hts iA_10 hown hK hP 0 rfl rfl 6 (by decide) (hts (.fieldLink RX10 16 "HubTreeModel" "readDevice" "[I") (List.mem_cons_of_mem _ m_117)) (fun _ h9 => h9) rfl dX10_takeTree_53 ?_
              refine lv_iload_n hx hb dX10_takeTree_56 rfl (lv_at hl 0 rfl) ?_
              obtain ⟨h_14, hG⟩ := q_ix hG
              refine va_iald hx hb hK hP 2 1 rfl rfl (i := x1_36) h_14 dX10_takeTree_57 ?_
              refine q_top (y := (rd (x1_36).toNatClampNeg)) rfl ?_
              obtain ⟨h_15, hG⟩ := q_ix hG
              refine va_iast hx hb hK hP hD hS 4 3 rfl rfl (i := x1_36) (x := (rd (x1_36).toNatClampNeg)) h_15 dX10_takeTree_58 (fun H locs hP hD hS => ?_)
              have hP : va_P (dC, dI) vwCl [((bm 0), .inr (10, [.int th, .ref (bm 1), .int tn, .int at_, .int wr, .ref (bm 2), .ref (bm 3), .int rm_, .ref (bm 4), .ref (bm 5), .int mn_c, .ref (bm 6), .ref (bm 7), .int sn, .ref (bm 8), .ref (bm 9), .ref (bm 10), .int ac_c, .long dn, .ref (bm 11), .ref (bm 12), .ref (bm 13), .ref (bm 14), .int hi_c])), ((bm 2), .inl ((km 2), 8, .inl rr)), ((bm 3), .inl ((km 3), 48, .inl rd)), ((bm 4), .inl ((km 4), 8, .inl ru_c)), ((bm 5), .inl ((km 5), 48, .inl (upd td_c (x1_36).toNatClampNeg (rd (x1_36).toNatClampNeg)))), ((bm 8), .inl ((km 8), 279, .inl nw_c))] H := hP
              have hD : va_D A [((bm 0), .inr (10, [.int th, .ref (bm 1), .int tn, .int at_, .int wr, .ref (bm 2), .ref (bm 3), .int rm_, .ref (bm 4), .ref (bm 5), .int mn_c, .ref (bm 6), .ref (bm 7), .int sn, .ref (bm 8), .ref (bm 9), .ref (bm 10), .int ac_c, .long dn, .ref (bm 11), .ref (bm 12), .ref (bm 13), .ref (bm 14), .int hi_c])), ((bm 2), .inl ((km 2), 8, .inl rr)), ((bm 3), .inl ((km 3), 48, .inl rd)), ((bm 4), .inl ((km 4), 8, .inl ru_c)), ((bm 5), .inl ((km 5), 48, .inl (upd td_c (x1_36).toNatClampNeg (rd (x1_36).toNatClampNeg)))), ((bm 8), .inl ((km 8), 279, .inl nw_c))] := hD
              refine lv_iinc (v := (x1_36 + 1)) (lv' := [(1, .int (x1_36 + 1)), (0, .ref (bm 0))]) hx hb dX10_takeTree_59 hl (k := 0) rfl (rfl) (by decide) rfl (fun ls hl => ?_)
              refine lv_goto (tgt := 36) hx hb dX10_takeTree_62 (by decide) ?_
              exact ih_36 (x1_36 + 1) mn_c ac_c hi_c ru_c (upd td_c (x1_36).toNatClampNeg (rd (x1_36).toNatClampNeg)) nw_c H locs ls hG hP hD hS (lv_sub hl [0, 1] rfl)
        exact L_36 1000 0 mn_c ac_c hi_c ru_c td_c nw_c H locs ls hG hP hD hS hl
      · have hG := q_ifn c_1 hG
        refine lv_aload_n hx hb dX10_takeTree_16 rfl (lv_at hl 1 rfl) ?_
        refine va_get (D := (dC, dI)) (ci := 10) (v := .ref (bm 4)) (C := RX10) (T := TX10) (N := 24) hx hb hts iA_10 hown hK hP 0 rfl rfl 8 (by decide) (hts (.fieldLink RX10 19 "HubTreeModel" "rule" "[I") (List.mem_cons_of_mem _ m_118)) (fun _ h9 => h9) rfl dX10_takeTree_17 ?_
        refine lv_iload_n hx hb dX10_takeTree_20 rfl (lv_at hl 0 rfl) ?_
        refine lv_aload_n hx hb dX10_takeTree_21 rfl (lv_at hl 1 rfl) ?_
        refine va_get (D := (dC, dI)) (ci := 10) (v := .ref (bm 2)) (C := RX10) (T := TX10) (N := 24) hx hb hts iA_10 hown hK hP 0 rfl rfl 5 (by decide) (hts (.fieldLink RX10 13 "HubTreeModel" "readRule" "[I") (List.mem_cons_of_mem _ m_116)) (fun _ h9 => h9) rfl dX10_takeTree_22 ?_
        refine lv_iload_n hx hb dX10_takeTree_25 rfl (lv_at hl 0 rfl) ?_
        obtain ⟨h_16, hG⟩ := q_ix hG
        refine va_iald hx hb hK hP 1 0 rfl rfl (i := x1_10) h_16 dX10_takeTree_26 ?_
        refine q_top (y := (rr (x1_10).toNatClampNeg)) rfl ?_
        obtain ⟨h_17, hG⟩ := q_ix hG
        refine va_iast hx hb hK hP hD hS 3 2 rfl rfl (i := x1_10) (x := (rr (x1_10).toNatClampNeg)) h_17 dX10_takeTree_27 (fun H locs hP hD hS => ?_)
        have hP : va_P (dC, dI) vwCl [((bm 0), .inr (10, [.int th, .ref (bm 1), .int tn, .int at_, .int wr, .ref (bm 2), .ref (bm 3), .int rm_, .ref (bm 4), .ref (bm 5), .int mn_c, .ref (bm 6), .ref (bm 7), .int sn, .ref (bm 8), .ref (bm 9), .ref (bm 10), .int ac_c, .long dn, .ref (bm 11), .ref (bm 12), .ref (bm 13), .ref (bm 14), .int hi_c])), ((bm 2), .inl ((km 2), 8, .inl rr)), ((bm 3), .inl ((km 3), 48, .inl rd)), ((bm 4), .inl ((km 4), 8, .inl (upd ru_c (x1_10).toNatClampNeg (rr (x1_10).toNatClampNeg)))), ((bm 5), .inl ((km 5), 48, .inl td_c)), ((bm 8), .inl ((km 8), 279, .inl nw_c))] H := hP
        have hD : va_D A [((bm 0), .inr (10, [.int th, .ref (bm 1), .int tn, .int at_, .int wr, .ref (bm 2), .ref (bm 3), .int rm_, .ref (bm 4), .ref (bm 5), .int mn_c, .ref (bm 6), .ref (bm 7), .int sn, .ref (bm 8), .ref (bm 9), .ref (bm 10), .int ac_c, .long dn, .ref (bm 11), .ref (bm 12), .ref (bm 13), .ref (bm 14), .int hi_c])), ((bm 2), .inl ((km 2), 8, .inl rr)), ((bm 3), .inl ((km 3), 48, .inl rd)), ((bm 4), .inl ((km 4), 8, .inl (upd ru_c (x1_10).toNatClampNeg (rr (x1_10).toNatClampNeg)))), ((bm 5), .inl ((km 5), 48, .inl td_c)), ((bm 8), .inl ((km 8), 279, .inl nw_c))] := hD
        refine lv_iinc (v := (x1_10 + 1)) (lv' := [(1, .int (x1_10 + 1)), (0, .ref (bm 0))]) hx hb dX10_takeTree_28 hl (k := 0) rfl (rfl) (by decide) rfl (fun ls hl => ?_)
        refine lv_goto (tgt := 10) hx hb dX10_takeTree_31 (by decide) ?_
        exact ih_10 (x1_10 + 1) mn_c ac_c hi_c (upd ru_c (x1_10).toNatClampNeg (rr (x1_10).toNatClampNeg)) td_c nw_c H locs ls hG hP hD hS (lv_sub hl [0, 1] rfl)
  exact L_10 1000 0 rm_ ac hi ru td nw H locs ls hG hP hD hS hl

def F_X10_text (tn : Int32) (at_ : Int32) (wr : Int32) (rm_ : Int32) (mn : Int32) (sn : Int32) (ac : Int32) (hi : Int32) (tp : Nat → Int32) (rr : Nat → Int32) (rd : Nat → Int32) (ru : Nat → Int32) (td : Nat → Int32) (sq : Nat → Int32) (sl : Nat → Int32) (nw : Nat → Int32) (z1 : Int32) : Option (Int32 × Int32 × Int32 × Int32 × Int32 × Int32 × Int32 × Int32 × Int32 × (Nat → Int32) × (Nat → Int32) × (Nat → Int32) × (Nat → Int32) × (Nat → Int32) × (Nat → Int32) × (Nat → Int32)) := (if z1 = 0 then ((F_X10_readTree tn at_ wr rm_ tp rr rd).bind fun o_7 => (if o_7.1 = (-1) then ((F_X10_takeTree (o_7.2.2.2.1) mn ac hi (o_7.2.2.2.2.1) (o_7.2.2.2.2.2) ru td nw).bind fun o_15 => some (o_15.1, 0, (o_7.2.1), (o_7.2.2.1), (o_7.2.2.2.1), (o_15.2.1), sn, (o_15.2.2.1), (o_15.2.2.2.1), (o_7.2.2.2.2.1), (o_7.2.2.2.2.2), (o_15.2.2.2.2.1), (o_15.2.2.2.2.2.1), sq, sl, (o_15.2.2.2.2.2.2))) else (if z1 = 1 then (if 4 ≤ sn then some ((-1), tn, (o_7.2.1), (o_7.2.2.1), (o_7.2.2.2.1), mn, sn, ac, hi, (o_7.2.2.2.2.1), (o_7.2.2.2.2.2), ru, td, sq, sl, nw) else ((F_X10_readScript tn (o_7.2.1) (o_7.2.2.1) tp sq sl sn).bind fun o_12 => (if o_12.1 = (-1) then some (((sn + 1) - 1), 0, (o_12.2.1), (o_12.2.2.1), (o_7.2.2.2.1), mn, (sn + 1), ac, hi, (o_7.2.2.2.2.1), (o_7.2.2.2.2.2), ru, td, (o_12.2.2.2.1), (o_12.2.2.2.2), nw) else some ((-1), tn, (o_12.2.1), (o_12.2.2.1), (o_7.2.2.2.1), mn, sn, ac, hi, (o_7.2.2.2.2.1), (o_7.2.2.2.2.2), ru, td, (o_12.2.2.2.1), (o_12.2.2.2.2), nw)))) else some ((-1), tn, (o_7.2.1), (o_7.2.2.1), (o_7.2.2.2.1), mn, sn, ac, hi, (o_7.2.2.2.2.1), (o_7.2.2.2.2.2), ru, td, sq, sl, nw)))) else (if z1 = 1 then (if 4 ≤ sn then some ((-1), tn, at_, wr, rm_, mn, sn, ac, hi, rr, rd, ru, td, sq, sl, nw) else ((F_X10_readScript tn at_ wr tp sq sl sn).bind fun o_4 => (if o_4.1 = (-1) then some (((sn + 1) - 1), 0, (o_4.2.1), (o_4.2.2.1), rm_, mn, (sn + 1), ac, hi, rr, rd, ru, td, (o_4.2.2.2.1), (o_4.2.2.2.2), nw) else some ((-1), tn, (o_4.2.1), (o_4.2.2.1), rm_, mn, sn, ac, hi, rr, rd, ru, td, (o_4.2.2.2.1), (o_4.2.2.2.2), nw)))) else some ((-1), tn, at_, wr, rm_, mn, sn, ac, hi, rr, rd, ru, td, sq, sl, nw)))
set_option maxHeartbeats 4000000 in
set_option maxRecDepth 100000 in
theorem c_X10_text (l : Launch) (dC : Nat → ClassId) (dI : Nat → Nat → Nat) (bm : Nat → Nat) (km : Nat → ClassId) (th : Int32) (tn : Int32) (at_ : Int32) (wr : Int32) (rm_ : Int32) (mn : Int32) (sn : Int32) (ac : Int32) (hi : Int32) (dn : Int64) (tp : Nat → Int32) (rr : Nat → Int32) (rd : Nat → Int32) (ru : Nat → Int32) (td : Nat → Int32) (sq : Nat → Int32) (sl : Nat → Int32) (nw : Nat → Int32) (z1 : Int32) (A : Nat → Prop) (o : Int32 × Int32 × Int32 × Int32 × Int32 × Int32 × Int32 × Int32 × Int32 × (Nat → Int32) × (Nat → Int32) × (Nat → Int32) × (Nat → Int32) × (Nat → Int32) × (Nat → Int32) × (Nat → Int32)) (hG : F_X10_text tn at_ wr rm_ mn sn ac hi tp rr rd ru td sq sl nw z1 = some o) : Met l yX10_text (.code yX10_text cX10_text 2 (some .int) :: wA) ({ frames := 5, cells := 0, slots := 0, locals := 114 }) (va_Pc [.ref (bm 0), .int z1] (q_W (dC, dI) A [((bm 0), .inr (10, [.int th, .ref (bm 1), .int tn, .int at_, .int wr, .ref (bm 2), .ref (bm 3), .int rm_, .ref (bm 4), .ref (bm 5), .int mn, .ref (bm 6), .ref (bm 7), .int sn, .ref (bm 8), .ref (bm 9), .ref (bm 10), .int ac, .long dn, .ref (bm 11), .ref (bm 12), .ref (bm 13), .ref (bm 14), .int hi])), ((bm 1), .inl ((km 1), 240, .inl tp)), ((bm 2), .inl ((km 2), 8, .inl rr)), ((bm 3), .inl ((km 3), 48, .inl rd)), ((bm 4), .inl ((km 4), 8, .inl ru)), ((bm 5), .inl ((km 5), 48, .inl td)), ((bm 6), .inl ((km 6), 320, .inl sq)), ((bm 7), .inl ((km 7), 5, .inl sl)), ((bm 8), .inl ((km 8), 279, .inl nw))] [((km 1), .int), ((km 2), .int), ((km 3), .int), ((km 4), .int), ((km 5), .int), ((km 6), .int), ((km 7), .int), ((km 8), .int)])) (va_Qi (fun (r : Int32) (_ : Unit) => r = o.1 ∧ True) (fun (_ : Unit) t => q_B (dC, dI) A [((bm 0), .inr (10, [.int th, .ref (bm 1), .int (o.2.1), .int (o.2.2.1), .int (o.2.2.2.1), .ref (bm 2), .ref (bm 3), .int (o.2.2.2.2.1), .ref (bm 4), .ref (bm 5), .int (o.2.2.2.2.2.1), .ref (bm 6), .ref (bm 7), .int (o.2.2.2.2.2.2.1), .ref (bm 8), .ref (bm 9), .ref (bm 10), .int (o.2.2.2.2.2.2.2.1), .long dn, .ref (bm 11), .ref (bm 12), .ref (bm 13), .ref (bm 14), .int (o.2.2.2.2.2.2.2.2.1)])), ((bm 1), .inl ((km 1), 240, .inl tp)), ((bm 2), .inl ((km 2), 8, .inl (o.2.2.2.2.2.2.2.2.2.1))), ((bm 3), .inl ((km 3), 48, .inl (o.2.2.2.2.2.2.2.2.2.2.1))), ((bm 4), .inl ((km 4), 8, .inl (o.2.2.2.2.2.2.2.2.2.2.2.1))), ((bm 5), .inl ((km 5), 48, .inl (o.2.2.2.2.2.2.2.2.2.2.2.2.1))), ((bm 6), .inl ((km 6), 320, .inl (o.2.2.2.2.2.2.2.2.2.2.2.2.2.1))), ((bm 7), .inl ((km 7), 5, .inl (o.2.2.2.2.2.2.2.2.2.2.2.2.2.2.1))), ((bm 8), .inl ((km 8), 279, .inl (o.2.2.2.2.2.2.2.2.2.2.2.2.2.2.2)))] [((km 1), .int), ((km 2), .int), ((km 3), .int), ((km 4), .int), ((km 5), .int), ((km 6), .int), ((km 7), .int), ((km 8), .int)] t) A) 0 0 A := by
  refine Met.ofW (cc := cX10_text) (maxL := 2) (ret := (some .int)) (by decide) rfl ?_
  intro p e s m args below meth c s₁ B hml hv
  obtain ⟨rfl, hP, hK, hD, hA⟩ := hv
  have hx := B.exec
  have hb := B.bytes
  have hr := B.returns
  have hts := atoms_spec (ws := .code yX10_text cX10_text 2 (some .int) :: wA) B.pre
  have hown : s.vm.findClass RX10 = some m.cls := findClass_of_methodNamed B.named
  have hlocks := B.notSynchronized
  have hS : va_S A s.heap s.heap [] := va_S.rf
  have hl := lv_entry ([.ref (bm 0), .int z1]) (n := 2) (Nat.le_of_ble_eq_true rfl)
  rw [lg_entry_eq]
  generalize (lg_sl ([.ref (bm 0), .int z1]) ++ List.replicate (2 - (lg_sl ([.ref (bm 0), .int z1])).length) Slot.unset).toArray = ls at hl ⊢
  have hl : lv_has ls 2 [(0, .ref (bm 0)), (1, .int z1)] := hl
  unfold F_X10_text at hG
  refine lv_iload_n hx hb dX10_text_0 rfl (lv_at hl 1 rfl) ?_
  refine lv_if_ne (tgt := 22) hx hb dX10_text_1 (by decide) (fun c_1 => ?_) (fun c_1 => ?_)
  · have hG := q_ifn c_1 hG
    refine lv_iload_n hx hb dX10_text_22 rfl (lv_at hl 1 rfl) ?_
    refine lv_iconst (v := 1) hx hb dX10_text_23 (by decide) ?_
    refine lv_icmp_ne (tgt := 69) hx hb dX10_text_24 (by decide) (fun c_2 => ?_) (fun c_2 => ?_)
    · have hG := q_ifn c_2 hG
      refine lv_iconst (v := (-1)) hx hb dX10_text_69 (by decide) ?_
      obtain rfl := Option.some.inj hG
      have hP9 := hP.sub (ws' := [((bm 0), .inr (10, [.int th, .ref (bm 1), .int tn, .int at_, .int wr, .ref (bm 2), .ref (bm 3), .int rm_, .ref (bm 4), .ref (bm 5), .int mn, .ref (bm 6), .ref (bm 7), .int sn, .ref (bm 8), .ref (bm 9), .ref (bm 10), .int ac, .long dn, .ref (bm 11), .ref (bm 12), .ref (bm 13), .ref (bm 14), .int hi])), ((bm 1), .inl ((km 1), 240, .inl tp)), ((bm 2), .inl ((km 2), 8, .inl rr)), ((bm 3), .inl ((km 3), 48, .inl rd)), ((bm 4), .inl ((km 4), 8, .inl ru)), ((bm 5), .inl ((km 5), 48, .inl td)), ((bm 6), .inl ((km 6), 320, .inl sq)), ((bm 7), .inl ((km 7), 5, .inl sl)), ((bm 8), .inl ((km 8), 279, .inl nw))]) [0, 1, 2, 3, 4, 5, 6, 7, 8] rfl
      have hD9 := hD.sub (ws' := [((bm 0), .inr (10, [.int th, .ref (bm 1), .int tn, .int at_, .int wr, .ref (bm 2), .ref (bm 3), .int rm_, .ref (bm 4), .ref (bm 5), .int mn, .ref (bm 6), .ref (bm 7), .int sn, .ref (bm 8), .ref (bm 9), .ref (bm 10), .int ac, .long dn, .ref (bm 11), .ref (bm 12), .ref (bm 13), .ref (bm 14), .int hi])), ((bm 1), .inl ((km 1), 240, .inl tp)), ((bm 2), .inl ((km 2), 8, .inl rr)), ((bm 3), .inl ((km 3), 48, .inl rd)), ((bm 4), .inl ((km 4), 8, .inl ru)), ((bm 5), .inl ((km 5), 48, .inl td)), ((bm 6), .inl ((km 6), 320, .inl sq)), ((bm 7), .inl ((km 7), 5, .inl sl)), ((bm 8), .inl ((km 8), 279, .inl nw))]) [0, 1, 2, 3, 4, 5, 6, 7, 8] (by decide) rfl
      have hK9 := hK.sub (tys' := [((km 1), .int), ((km 2), .int), ((km 3), .int), ((km 4), .int), ((km 5), .int), ((km 6), .int), ((km 7), .int), ((km 8), .int)]) [0, 1, 2, 3, 4, 5, 6, 7] rfl
      exact W.iret (v := (-1)) hx hb hr (fun t ht hW => ⟨⟨(-1), (), rfl, ⟨rfl, trivial⟩, by rw [ht]; exact hP9, va_K.moved hW.alike hK9, hD9⟩, hS.F ht⟩) hS.2.2 dX10_text_70
    · have hG := q_ifp c_2 hG
      refine lv_aload_n hx hb dX10_text_27 rfl (lv_at hl 0 rfl) ?_
      refine va_get (D := (dC, dI)) (ci := 10) (v := .int sn) (C := RX10) (T := TX10) (N := 24) hx hb hts iA_10 hown hK hP 0 rfl rfl 13 (by decide) (hts (.fieldLink RX10 161 "HubTreeModel" "scripts" "I") (List.mem_cons_of_mem _ m_428)) (fun _ h9 => h9) rfl dX10_text_28 ?_
      refine lv_iconst (v := 4) hx hb dX10_text_31 (by decide) ?_
      refine lv_icmp_ge (tgt := 69) hx hb dX10_text_32 (by decide) (fun c_3 => ?_) (fun c_3 => ?_)
      · have hG := q_ifp c_3 hG
        refine lv_iconst (v := (-1)) hx hb dX10_text_69 (by decide) ?_
        obtain rfl := Option.some.inj hG
        have hP9 := hP.sub (ws' := [((bm 0), .inr (10, [.int th, .ref (bm 1), .int tn, .int at_, .int wr, .ref (bm 2), .ref (bm 3), .int rm_, .ref (bm 4), .ref (bm 5), .int mn, .ref (bm 6), .ref (bm 7), .int sn, .ref (bm 8), .ref (bm 9), .ref (bm 10), .int ac, .long dn, .ref (bm 11), .ref (bm 12), .ref (bm 13), .ref (bm 14), .int hi])), ((bm 1), .inl ((km 1), 240, .inl tp)), ((bm 2), .inl ((km 2), 8, .inl rr)), ((bm 3), .inl ((km 3), 48, .inl rd)), ((bm 4), .inl ((km 4), 8, .inl ru)), ((bm 5), .inl ((km 5), 48, .inl td)), ((bm 6), .inl ((km 6), 320, .inl sq)), ((bm 7), .inl ((km 7), 5, .inl sl)), ((bm 8), .inl ((km 8), 279, .inl nw))]) [0, 1, 2, 3, 4, 5, 6, 7, 8] rfl
        have hD9 := hD.sub (ws' := [((bm 0), .inr (10, [.int th, .ref (bm 1), .int tn, .int at_, .int wr, .ref (bm 2), .ref (bm 3), .int rm_, .ref (bm 4), .ref (bm 5), .int mn, .ref (bm 6), .ref (bm 7), .int sn, .ref (bm 8), .ref (bm 9), .ref (bm 10), .int ac, .long dn, .ref (bm 11), .ref (bm 12), .ref (bm 13), .ref (bm 14), .int hi])), ((bm 1), .inl ((km 1), 240, .inl tp)), ((bm 2), .inl ((km 2), 8, .inl rr)), ((bm 3), .inl ((km 3), 48, .inl rd)), ((bm 4), .inl ((km 4), 8, .inl ru)), ((bm 5), .inl ((km 5), 48, .inl td)), ((bm 6), .inl ((km 6), 320, .inl sq)), ((bm 7), .inl ((km 7), 5, .inl sl)), ((bm 8), .inl ((km 8), 279, .inl nw))]) [0, 1, 2, 3, 4, 5, 6, 7, 8] (by decide) rfl
        have hK9 := hK.sub (tys' := [((km 1), .int), ((km 2), .int), ((km 3), .int), ((km 4), .int), ((km 5), .int), ((km 6), .int), ((km 7), .int), ((km 8), .int)]) [0, 1, 2, 3, 4, 5, 6, 7] rfl
        exact W.iret (v := (-1)) hx hb hr (fun t ht hW => ⟨⟨(-1), (), rfl, ⟨rfl, trivial⟩, by rw [ht]; exact hP9, va_K.moved hW.alike hK9, hD9⟩, hS.F ht⟩) hS.2.2 dX10_text_70
      · have hG := q_ifn c_3 hG
        refine lv_aload_n hx hb dX10_text_35 rfl (lv_at hl 0 rfl) ?_
        refine lv_aload_n hx hb dX10_text_36 rfl (lv_at hl 0 rfl) ?_
        refine va_get (D := (dC, dI)) (ci := 10) (v := .int sn) (C := RX10) (T := TX10) (N := 24) hx hb hts iA_10 hown hK hP 0 rfl rfl 13 (by decide) (hts (.fieldLink RX10 161 "HubTreeModel" "scripts" "I") (List.mem_cons_of_mem _ m_428)) (fun _ h9 => h9) rfl dX10_text_37 ?_
        obtain ⟨o_4, r_5, hG⟩ := q_bi hG
        refine q_goi2 (v := o_4.1) (wr := [((bm 2), .inl ((km 2), 8, .inl rr)), ((bm 3), .inl ((km 3), 48, .inl rd)), ((bm 4), .inl ((km 4), 8, .inl ru)), ((bm 5), .inl ((km 5), 48, .inl td)), ((bm 8), .inl ((km 8), 279, .inl nw))]) (va_runV (As := [.int sn]) (rest := []) ⟨hx, hb, hml, hown, hts⟩ (c_X10_readScript l dC dI bm km th tn at_ wr rm_ mn sn ac hi dn tp sq sl sn (va_A [((bm 0), .inr (10, [.int th, .ref (bm 1), .int tn, .int at_, .int wr, .ref (bm 2), .ref (bm 3), .int rm_, .ref (bm 4), .ref (bm 5), .int mn, .ref (bm 6), .ref (bm 7), .int sn, .ref (bm 8), .ref (bm 9), .ref (bm 10), .int ac, .long dn, .ref (bm 11), .ref (bm 12), .ref (bm 13), .ref (bm 14), .int hi])), ((bm 1), .inl ((km 1), 240, .inl tp)), ((bm 6), .inl ((km 6), 320, .inl sq)), ((bm 7), .inl ((km 7), 5, .inl sl))] s.heap.size) o_4 r_5) (cwV 1 hts (q_gV m_366 m_367 m_368 m_5 m_369) rfl rfl rfl hdV_yX10_readScript_1 ⟨Nat.le_of_ble_eq_true rfl, Nat.le_of_ble_eq_true rfl⟩) (q_preWV hK hP hD (q := (RX10, TX10, 24)) (ci := 10) (q0 := 0) rfl rfl [0, 1, 6, 7] (by decide) rfl rfl [0, 5, 6] rfl) rfl rfl hl.1 rfl (lv_room (Nat.le_of_ble_eq_true rfl)) dX10_text_40 ⟨Nat.le_of_ble_eq_true rfl, Nat.le_of_ble_eq_true rfl⟩) hK hP hD hS hA [0, 1, 6, 7] [2, 3, 4, 5, 8] rfl rfl (by decide) (by decide) (fun _ H locs _ hP hD hK9 hS => ?_)
        have hP : va_P (dC, dI) vwCl [((bm 0), .inr (10, [.int th, .ref (bm 1), .int tn, .int (o_4.2.1), .int (o_4.2.2.1), .ref (bm 2), .ref (bm 3), .int rm_, .ref (bm 4), .ref (bm 5), .int mn, .ref (bm 6), .ref (bm 7), .int sn, .ref (bm 8), .ref (bm 9), .ref (bm 10), .int ac, .long dn, .ref (bm 11), .ref (bm 12), .ref (bm 13), .ref (bm 14), .int hi])), ((bm 1), .inl ((km 1), 240, .inl tp)), ((bm 2), .inl ((km 2), 8, .inl rr)), ((bm 3), .inl ((km 3), 48, .inl rd)), ((bm 4), .inl ((km 4), 8, .inl ru)), ((bm 5), .inl ((km 5), 48, .inl td)), ((bm 6), .inl ((km 6), 320, .inl (o_4.2.2.2.1))), ((bm 7), .inl ((km 7), 5, .inl (o_4.2.2.2.2))), ((bm 8), .inl ((km 8), 279, .inl nw))] H := hP.sub [5, 6, 0, 1, 2, 3, 7, 8, 4] rfl
        have hD : va_D A [((bm 0), .inr (10, [.int th, .ref (bm 1), .int tn, .int (o_4.2.1), .int (o_4.2.2.1), .ref (bm 2), .ref (bm 3), .int rm_, .ref (bm 4), .ref (bm 5), .int mn, .ref (bm 6), .ref (bm 7), .int sn, .ref (bm 8), .ref (bm 9), .ref (bm 10), .int ac, .long dn, .ref (bm 11), .ref (bm 12), .ref (bm 13), .ref (bm 14), .int hi])), ((bm 1), .inl ((km 1), 240, .inl tp)), ((bm 2), .inl ((km 2), 8, .inl rr)), ((bm 3), .inl ((km 3), 48, .inl rd)), ((bm 4), .inl ((km 4), 8, .inl ru)), ((bm 5), .inl ((km 5), 48, .inl td)), ((bm 6), .inl ((km 6), 320, .inl (o_4.2.2.2.1))), ((bm 7), .inl ((km 7), 5, .inl (o_4.2.2.2.2))), ((bm 8), .inl ((km 8), 279, .inl nw))] := hD.sub [5, 6, 0, 1, 2, 3, 7, 8, 4] (by decide) rfl
        refine lv_iconst (v := (-1)) hx hb dX10_text_43 (by decide) ?_
        refine lv_icmp_ne (tgt := 69) hx hb dX10_text_44 (by decide) (fun c_6 => ?_) (fun c_6 => ?_)
        · have hG := q_ifn c_6 hG
          refine lv_iconst (v := (-1)) hx hb dX10_text_69 (by decide) ?_
          obtain rfl := Option.some.inj hG
          have hP9 := hP.sub (ws' := [((bm 0), .inr (10, [.int th, .ref (bm 1), .int tn, .int (o_4.2.1), .int (o_4.2.2.1), .ref (bm 2), .ref (bm 3), .int rm_, .ref (bm 4), .ref (bm 5), .int mn, .ref (bm 6), .ref (bm 7), .int sn, .ref (bm 8), .ref (bm 9), .ref (bm 10), .int ac, .long dn, .ref (bm 11), .ref (bm 12), .ref (bm 13), .ref (bm 14), .int hi])), ((bm 1), .inl ((km 1), 240, .inl tp)), ((bm 2), .inl ((km 2), 8, .inl rr)), ((bm 3), .inl ((km 3), 48, .inl rd)), ((bm 4), .inl ((km 4), 8, .inl ru)), ((bm 5), .inl ((km 5), 48, .inl td)), ((bm 6), .inl ((km 6), 320, .inl (o_4.2.2.2.1))), ((bm 7), .inl ((km 7), 5, .inl (o_4.2.2.2.2))), ((bm 8), .inl ((km 8), 279, .inl nw))]) [0, 1, 2, 3, 4, 5, 6, 7, 8] rfl
          have hD9 := hD.sub (ws' := [((bm 0), .inr (10, [.int th, .ref (bm 1), .int tn, .int (o_4.2.1), .int (o_4.2.2.1), .ref (bm 2), .ref (bm 3), .int rm_, .ref (bm 4), .ref (bm 5), .int mn, .ref (bm 6), .ref (bm 7), .int sn, .ref (bm 8), .ref (bm 9), .ref (bm 10), .int ac, .long dn, .ref (bm 11), .ref (bm 12), .ref (bm 13), .ref (bm 14), .int hi])), ((bm 1), .inl ((km 1), 240, .inl tp)), ((bm 2), .inl ((km 2), 8, .inl rr)), ((bm 3), .inl ((km 3), 48, .inl rd)), ((bm 4), .inl ((km 4), 8, .inl ru)), ((bm 5), .inl ((km 5), 48, .inl td)), ((bm 6), .inl ((km 6), 320, .inl (o_4.2.2.2.1))), ((bm 7), .inl ((km 7), 5, .inl (o_4.2.2.2.2))), ((bm 8), .inl ((km 8), 279, .inl nw))]) [0, 1, 2, 3, 4, 5, 6, 7, 8] (by decide) rfl
          have hK9 := hK.sub (tys' := [((km 1), .int), ((km 2), .int), ((km 3), .int), ((km 4), .int), ((km 5), .int), ((km 6), .int), ((km 7), .int), ((km 8), .int)]) [0, 1, 2, 3, 4, 5, 6, 7] rfl
          exact W.iret (v := (-1)) hx hb hr (fun t ht hW => ⟨⟨(-1), (), rfl, ⟨rfl, trivial⟩, by rw [ht]; exact hP9, va_K.moved hW.alike hK9, hD9⟩, hS.F ht⟩) hS.2.2 dX10_text_70
        · have hG := q_ifp c_6 hG
          refine lv_aload_n hx hb dX10_text_47 rfl (lv_at hl 0 rfl) ?_
          refine lv_iconst (v := 0) hx hb dX10_text_48 (by decide) ?_
          refine va_put (D := (dC, dI)) (ci := 10) (v := .int 0) (ty := .int) (C := RX10) (T := TX10) (N := 24) hx hb hts iA_10 tyX10 tyX10_ok nmX10 hown hK hP hD hS 0 rfl rfl 2 (by decide) (hts (.fieldLink RX10 60 "HubTreeModel" "taped" "I") (List.mem_cons_of_mem _ m_145)) (fun _ h9 => h9) rfl (by decide +kernel) rfl rfl (Nat.le_of_ble_eq_true rfl) dX10_text_49 (fun H locs hP hD hS => ?_)
          have hP : va_P (dC, dI) vwCl [((bm 0), .inr (10, [.int th, .ref (bm 1), .int 0, .int (o_4.2.1), .int (o_4.2.2.1), .ref (bm 2), .ref (bm 3), .int rm_, .ref (bm 4), .ref (bm 5), .int mn, .ref (bm 6), .ref (bm 7), .int sn, .ref (bm 8), .ref (bm 9), .ref (bm 10), .int ac, .long dn, .ref (bm 11), .ref (bm 12), .ref (bm 13), .ref (bm 14), .int hi])), ((bm 1), .inl ((km 1), 240, .inl tp)), ((bm 2), .inl ((km 2), 8, .inl rr)), ((bm 3), .inl ((km 3), 48, .inl rd)), ((bm 4), .inl ((km 4), 8, .inl ru)), ((bm 5), .inl ((km 5), 48, .inl td)), ((bm 6), .inl ((km 6), 320, .inl (o_4.2.2.2.1))), ((bm 7), .inl ((km 7), 5, .inl (o_4.2.2.2.2))), ((bm 8), .inl ((km 8), 279, .inl nw))] H := hP
          have hD : va_D A [((bm 0), .inr (10, [.int th, .ref (bm 1), .int 0, .int (o_4.2.1), .int (o_4.2.2.1), .ref (bm 2), .ref (bm 3), .int rm_, .ref (bm 4), .ref (bm 5), .int mn, .ref (bm 6), .ref (bm 7), .int sn, .ref (bm 8), .ref (bm 9), .ref (bm 10), .int ac, .long dn, .ref (bm 11), .ref (bm 12), .ref (bm 13), .ref (bm 14), .int hi])), ((bm 1), .inl ((km 1), 240, .inl tp)), ((bm 2), .inl ((km 2), 8, .inl rr)), ((bm 3), .inl ((km 3), 48, .inl rd)), ((bm 4), .inl ((km 4), 8, .inl ru)), ((bm 5), .inl ((km 5), 48, .inl td)), ((bm 6), .inl ((km 6), 320, .inl (o_4.2.2.2.1))), ((bm 7), .inl ((km 7), 5, .inl (o_4.2.2.2.2))), ((bm 8), .inl ((km 8), 279, .inl nw))] := hD
          refine lv_aload_n hx hb dX10_text_52 rfl (lv_at hl 0 rfl) ?_
          refine lv_dup hx hb dX10_text_53 rfl ?_
          refine va_get (D := (dC, dI)) (ci := 10) (v := .int sn) (C := RX10) (T := TX10) (N := 24) hx hb hts iA_10 hown hK hP 0 rfl rfl 13 (by decide) (hts (.fieldLink RX10 161 "HubTreeModel" "scripts" "I") (List.mem_cons_of_mem _ m_428)) (fun _ h9 => h9) rfl dX10_text_54 ?_
          refine lv_iconst (v := 1) hx hb dX10_text_57 (by decide) ?_
          refine lv_iadd hx hb dX10_text_58 ?_
          refine va_put (D := (dC, dI)) (ci := 10) (v := .int (sn + 1)) (ty := .int) (C := RX10) (T := TX10) (N := 24) hx hb hts iA_10 tyX10 tyX10_ok nmX10 hown hK hP hD hS 0 rfl rfl 13 (by decide) (hts (.fieldLink RX10 161 "HubTreeModel" "scripts" "I") (List.mem_cons_of_mem _ m_428)) (fun _ h9 => h9) rfl (by decide +kernel) rfl rfl (Nat.le_of_ble_eq_true rfl) dX10_text_59 (fun H locs hP hD hS => ?_)
          have hP : va_P (dC, dI) vwCl [((bm 0), .inr (10, [.int th, .ref (bm 1), .int 0, .int (o_4.2.1), .int (o_4.2.2.1), .ref (bm 2), .ref (bm 3), .int rm_, .ref (bm 4), .ref (bm 5), .int mn, .ref (bm 6), .ref (bm 7), .int (sn + 1), .ref (bm 8), .ref (bm 9), .ref (bm 10), .int ac, .long dn, .ref (bm 11), .ref (bm 12), .ref (bm 13), .ref (bm 14), .int hi])), ((bm 1), .inl ((km 1), 240, .inl tp)), ((bm 2), .inl ((km 2), 8, .inl rr)), ((bm 3), .inl ((km 3), 48, .inl rd)), ((bm 4), .inl ((km 4), 8, .inl ru)), ((bm 5), .inl ((km 5), 48, .inl td)), ((bm 6), .inl ((km 6), 320, .inl (o_4.2.2.2.1))), ((bm 7), .inl ((km 7), 5, .inl (o_4.2.2.2.2))), ((bm 8), .inl ((km 8), 279, .inl nw))] H := hP
          have hD : va_D A [((bm 0), .inr (10, [.int th, .ref (bm 1), .int 0, .int (o_4.2.1), .int (o_4.2.2.1), .ref (bm 2), .ref (bm 3), .int rm_, .ref (bm 4), .ref (bm 5), .int mn, .ref (bm 6), .ref (bm 7), .int (sn + 1), .ref (bm 8), .ref (bm 9), .ref (bm 10), .int ac, .long dn, .ref (bm 11), .ref (bm 12), .ref (bm 13), .ref (bm 14), .int hi])), ((bm 1), .inl ((km 1), 240, .inl tp)), ((bm 2), .inl ((km 2), 8, .inl rr)), ((bm 3), .inl ((km 3), 48, .inl rd)), ((bm 4), .inl ((km 4), 8, .inl ru)), ((bm 5), .inl ((km 5), 48, .inl td)), ((bm 6), .inl ((km 6), 320, .inl (o_4.2.2.2.1))), ((bm 7), .inl ((km 7), 5, .inl (o_4.2.2.2.2))), ((bm 8), .inl ((km 8), 279, .inl nw))] := hD
          refine lv_aload_n hx hb dX10_text_62 rfl (lv_at hl 0 rfl) ?_
          refine va_get (D := (dC, dI)) (ci := 10) (v := .int (sn + 1)) (C := RX10) (T := TX10) (N := 24) hx hb hts iA_10 hown hK hP 0 rfl rfl 13 (by decide) (hts (.fieldLink RX10 161 "HubTreeModel" "scripts" "I") (List.mem_cons_of_mem _ m_428)) (fun _ h9 => h9) rfl dX10_text_63 ?_
          refine lv_iconst (v := 1) hx hb dX10_text_66 (by decide) ?_
          refine lv_isub hx hb dX10_text_67 ?_
          obtain rfl := Option.some.inj hG
          have hP9 := hP.sub (ws' := [((bm 0), .inr (10, [.int th, .ref (bm 1), .int 0, .int (o_4.2.1), .int (o_4.2.2.1), .ref (bm 2), .ref (bm 3), .int rm_, .ref (bm 4), .ref (bm 5), .int mn, .ref (bm 6), .ref (bm 7), .int (sn + 1), .ref (bm 8), .ref (bm 9), .ref (bm 10), .int ac, .long dn, .ref (bm 11), .ref (bm 12), .ref (bm 13), .ref (bm 14), .int hi])), ((bm 1), .inl ((km 1), 240, .inl tp)), ((bm 2), .inl ((km 2), 8, .inl rr)), ((bm 3), .inl ((km 3), 48, .inl rd)), ((bm 4), .inl ((km 4), 8, .inl ru)), ((bm 5), .inl ((km 5), 48, .inl td)), ((bm 6), .inl ((km 6), 320, .inl (o_4.2.2.2.1))), ((bm 7), .inl ((km 7), 5, .inl (o_4.2.2.2.2))), ((bm 8), .inl ((km 8), 279, .inl nw))]) [0, 1, 2, 3, 4, 5, 6, 7, 8] rfl
          have hD9 := hD.sub (ws' := [((bm 0), .inr (10, [.int th, .ref (bm 1), .int 0, .int (o_4.2.1), .int (o_4.2.2.1), .ref (bm 2), .ref (bm 3), .int rm_, .ref (bm 4), .ref (bm 5), .int mn, .ref (bm 6), .ref (bm 7), .int (sn + 1), .ref (bm 8), .ref (bm 9), .ref (bm 10), .int ac, .long dn, .ref (bm 11), .ref (bm 12), .ref (bm 13), .ref (bm 14), .int hi])), ((bm 1), .inl ((km 1), 240, .inl tp)), ((bm 2), .inl ((km 2), 8, .inl rr)), ((bm 3), .inl ((km 3), 48, .inl rd)), ((bm 4), .inl ((km 4), 8, .inl ru)), ((bm 5), .inl ((km 5), 48, .inl td)), ((bm 6), .inl ((km 6), 320, .inl (o_4.2.2.2.1))), ((bm 7), .inl ((km 7), 5, .inl (o_4.2.2.2.2))), ((bm 8), .inl ((km 8), 279, .inl nw))]) [0, 1, 2, 3, 4, 5, 6, 7, 8] (by decide) rfl
          have hK9 := hK.sub (tys' := [((km 1), .int), ((km 2), .int), ((km 3), .int), ((km 4), .int), ((km 5), .int), ((km 6), .int), ((km 7), .int), ((km 8), .int)]) [0, 1, 2, 3, 4, 5, 6, 7] rfl
          exact W.iret (v := ((sn + 1) - 1)) hx hb hr (fun t ht hW => ⟨⟨((sn + 1) - 1), (), rfl, ⟨rfl, trivial⟩, by rw [ht]; exact hP9, va_K.moved hW.alike hK9, hD9⟩, hS.F ht⟩) hS.2.2 dX10_text_68
  · have hG := q_ifp c_1 hG
    refine lv_aload_n hx hb dX10_text_4 rfl (lv_at hl 0 rfl) ?_
    obtain ⟨o_7, r_8, hG⟩ := q_bi hG
    refine q_goi2 (v := o_7.1) (wr := [((bm 4), .inl ((km 4), 8, .inl ru)), ((bm 5), .inl ((km 5), 48, .inl td)), ((bm 6), .inl ((km 6), 320, .inl sq)), ((bm 7), .inl ((km 7), 5, .inl sl)), ((bm 8), .inl ((km 8), 279, .inl nw))]) (va_runV (As := []) (rest := []) ⟨hx, hb, hml, hown, hts⟩ (c_X10_readTree l dC dI bm km th tn at_ wr rm_ mn sn ac hi dn tp rr rd (va_A [((bm 0), .inr (10, [.int th, .ref (bm 1), .int tn, .int at_, .int wr, .ref (bm 2), .ref (bm 3), .int rm_, .ref (bm 4), .ref (bm 5), .int mn, .ref (bm 6), .ref (bm 7), .int sn, .ref (bm 8), .ref (bm 9), .ref (bm 10), .int ac, .long dn, .ref (bm 11), .ref (bm 12), .ref (bm 13), .ref (bm 14), .int hi])), ((bm 1), .inl ((km 1), 240, .inl tp)), ((bm 2), .inl ((km 2), 8, .inl rr)), ((bm 3), .inl ((km 3), 48, .inl rd))] s.heap.size) o_7 r_8) (cwV 0 hts (q_gV m_321 m_322 m_323 m_5 m_324) rfl rfl rfl hdV_yX10_readTree_0 ⟨Nat.le_of_ble_eq_true rfl, Nat.le_of_ble_eq_true rfl⟩) (q_preWV hK hP hD (q := (RX10, TX10, 24)) (ci := 10) (q0 := 0) rfl rfl [0, 1, 2, 3] (by decide) rfl rfl [0, 1, 2] rfl) rfl rfl hl.1 rfl (lv_room (Nat.le_of_ble_eq_true rfl)) dX10_text_5 ⟨Nat.le_of_ble_eq_true rfl, Nat.le_of_ble_eq_true rfl⟩) hK hP hD hS hA [0, 1, 2, 3] [4, 5, 6, 7, 8] rfl rfl (by decide) (by decide) (fun _ H locs _ hP hD hK9 hS => ?_)
    have hP : va_P (dC, dI) vwCl [((bm 0), .inr (10, [.int th, .ref (bm 1), .int tn, .int (o_7.2.1), .int (o_7.2.2.1), .ref (bm 2), .ref (bm 3), .int (o_7.2.2.2.1), .ref (bm 4), .ref (bm 5), .int mn, .ref (bm 6), .ref (bm 7), .int sn, .ref (bm 8), .ref (bm 9), .ref (bm 10), .int ac, .long dn, .ref (bm 11), .ref (bm 12), .ref (bm 13), .ref (bm 14), .int hi])), ((bm 1), .inl ((km 1), 240, .inl tp)), ((bm 2), .inl ((km 2), 8, .inl (o_7.2.2.2.2.1))), ((bm 3), .inl ((km 3), 48, .inl (o_7.2.2.2.2.2))), ((bm 4), .inl ((km 4), 8, .inl ru)), ((bm 5), .inl ((km 5), 48, .inl td)), ((bm 6), .inl ((km 6), 320, .inl sq)), ((bm 7), .inl ((km 7), 5, .inl sl)), ((bm 8), .inl ((km 8), 279, .inl nw))] H := hP.sub [5, 6, 7, 8, 0, 1, 2, 3, 4] rfl
    have hD : va_D A [((bm 0), .inr (10, [.int th, .ref (bm 1), .int tn, .int (o_7.2.1), .int (o_7.2.2.1), .ref (bm 2), .ref (bm 3), .int (o_7.2.2.2.1), .ref (bm 4), .ref (bm 5), .int mn, .ref (bm 6), .ref (bm 7), .int sn, .ref (bm 8), .ref (bm 9), .ref (bm 10), .int ac, .long dn, .ref (bm 11), .ref (bm 12), .ref (bm 13), .ref (bm 14), .int hi])), ((bm 1), .inl ((km 1), 240, .inl tp)), ((bm 2), .inl ((km 2), 8, .inl (o_7.2.2.2.2.1))), ((bm 3), .inl ((km 3), 48, .inl (o_7.2.2.2.2.2))), ((bm 4), .inl ((km 4), 8, .inl ru)), ((bm 5), .inl ((km 5), 48, .inl td)), ((bm 6), .inl ((km 6), 320, .inl sq)), ((bm 7), .inl ((km 7), 5, .inl sl)), ((bm 8), .inl ((km 8), 279, .inl nw))] := hD.sub [5, 6, 7, 8, 0, 1, 2, 3, 4] (by decide) rfl
    refine lv_iconst (v := (-1)) hx hb dX10_text_8 (by decide) ?_
    refine lv_icmp_ne (tgt := 22) hx hb dX10_text_9 (by decide) (fun c_9 => ?_) (fun c_9 => ?_)
    · have hG := q_ifn c_9 hG
      refine lv_iload_n hx hb dX10_text_22 rfl (lv_at hl 1 rfl) ?_
      refine lv_iconst (v := 1) hx hb dX10_text_23 (by decide) ?_
      refine lv_icmp_ne (tgt := 69) hx hb dX10_text_24 (by decide) (fun c_10 => ?_) (fun c_10 => ?_)
      · have hG := q_ifn c_10 hG
        refine lv_iconst (v := (-1)) hx hb dX10_text_69 (by decide) ?_
        obtain rfl := Option.some.inj hG
        have hP9 := hP.sub (ws' := [((bm 0), .inr (10, [.int th, .ref (bm 1), .int tn, .int (o_7.2.1), .int (o_7.2.2.1), .ref (bm 2), .ref (bm 3), .int (o_7.2.2.2.1), .ref (bm 4), .ref (bm 5), .int mn, .ref (bm 6), .ref (bm 7), .int sn, .ref (bm 8), .ref (bm 9), .ref (bm 10), .int ac, .long dn, .ref (bm 11), .ref (bm 12), .ref (bm 13), .ref (bm 14), .int hi])), ((bm 1), .inl ((km 1), 240, .inl tp)), ((bm 2), .inl ((km 2), 8, .inl (o_7.2.2.2.2.1))), ((bm 3), .inl ((km 3), 48, .inl (o_7.2.2.2.2.2))), ((bm 4), .inl ((km 4), 8, .inl ru)), ((bm 5), .inl ((km 5), 48, .inl td)), ((bm 6), .inl ((km 6), 320, .inl sq)), ((bm 7), .inl ((km 7), 5, .inl sl)), ((bm 8), .inl ((km 8), 279, .inl nw))]) [0, 1, 2, 3, 4, 5, 6, 7, 8] rfl
        have hD9 := hD.sub (ws' := [((bm 0), .inr (10, [.int th, .ref (bm 1), .int tn, .int (o_7.2.1), .int (o_7.2.2.1), .ref (bm 2), .ref (bm 3), .int (o_7.2.2.2.1), .ref (bm 4), .ref (bm 5), .int mn, .ref (bm 6), .ref (bm 7), .int sn, .ref (bm 8), .ref (bm 9), .ref (bm 10), .int ac, .long dn, .ref (bm 11), .ref (bm 12), .ref (bm 13), .ref (bm 14), .int hi])), ((bm 1), .inl ((km 1), 240, .inl tp)), ((bm 2), .inl ((km 2), 8, .inl (o_7.2.2.2.2.1))), ((bm 3), .inl ((km 3), 48, .inl (o_7.2.2.2.2.2))), ((bm 4), .inl ((km 4), 8, .inl ru)), ((bm 5), .inl ((km 5), 48, .inl td)), ((bm 6), .inl ((km 6), 320, .inl sq)), ((bm 7), .inl ((km 7), 5, .inl sl)), ((bm 8), .inl ((km 8), 279, .inl nw))]) [0, 1, 2, 3, 4, 5, 6, 7, 8] (by decide) rfl
        have hK9 := hK.sub (tys' := [((km 1), .int), ((km 2), .int), ((km 3), .int), ((km 4), .int), ((km 5), .int), ((km 6), .int), ((km 7), .int), ((km 8), .int)]) [0, 1, 2, 3, 4, 5, 6, 7] rfl
        exact W.iret (v := (-1)) hx hb hr (fun t ht hW => ⟨⟨(-1), (), rfl, ⟨rfl, trivial⟩, by rw [ht]; exact hP9, va_K.moved hW.alike hK9, hD9⟩, hS.F ht⟩) hS.2.2 dX10_text_70
      · have hG := q_ifp c_10 hG
        refine lv_aload_n hx hb dX10_text_27 rfl (lv_at hl 0 rfl) ?_
        refine va_get (D := (dC, dI)) (ci := 10) (v := .int sn) (C := RX10) (T := TX10) (N := 24) hx hb hts iA_10 hown hK hP 0 rfl rfl 13 (by decide) (hts (.fieldLink RX10 161 "HubTreeModel" "scripts" "I") (List.mem_cons_of_mem _ m_428)) (fun _ h9 => h9) rfl dX10_text_28 ?_
        refine lv_iconst (v := 4) hx hb dX10_text_31 (by decide) ?_
        refine lv_icmp_ge (tgt := 69) hx hb dX10_text_32 (by decide) (fun c_11 => ?_) (fun c_11 => ?_)
        · have hG := q_ifp c_11 hG
          refine lv_iconst (v := (-1)) hx hb dX10_text_69 (by decide) ?_
          obtain rfl := Option.some.inj hG
          have hP9 := hP.sub (ws' := [((bm 0), .inr (10, [.int th, .ref (bm 1), .int tn, .int (o_7.2.1), .int (o_7.2.2.1), .ref (bm 2), .ref (bm 3), .int (o_7.2.2.2.1), .ref (bm 4), .ref (bm 5), .int mn, .ref (bm 6), .ref (bm 7), .int sn, .ref (bm 8), .ref (bm 9), .ref (bm 10), .int ac, .long dn, .ref (bm 11), .ref (bm 12), .ref (bm 13), .ref (bm 14), .int hi])), ((bm 1), .inl ((km 1), 240, .inl tp)), ((bm 2), .inl ((km 2), 8, .inl (o_7.2.2.2.2.1))), ((bm 3), .inl ((km 3), 48, .inl (o_7.2.2.2.2.2))), ((bm 4), .inl ((km 4), 8, .inl ru)), ((bm 5), .inl ((km 5), 48, .inl td)), ((bm 6), .inl ((km 6), 320, .inl sq)), ((bm 7), .inl ((km 7), 5, .inl sl)), ((bm 8), .inl ((km 8), 279, .inl nw))]) [0, 1, 2, 3, 4, 5, 6, 7, 8] rfl
          have hD9 := hD.sub (ws' := [((bm 0), .inr (10, [.int th, .ref (bm 1), .int tn, .int (o_7.2.1), .int (o_7.2.2.1), .ref (bm 2), .ref (bm 3), .int (o_7.2.2.2.1), .ref (bm 4), .ref (bm 5), .int mn, .ref (bm 6), .ref (bm 7), .int sn, .ref (bm 8), .ref (bm 9), .ref (bm 10), .int ac, .long dn, .ref (bm 11), .ref (bm 12), .ref (bm 13), .ref (bm 14), .int hi])), ((bm 1), .inl ((km 1), 240, .inl tp)), ((bm 2), .inl ((km 2), 8, .inl (o_7.2.2.2.2.1))), ((bm 3), .inl ((km 3), 48, .inl (o_7.2.2.2.2.2))), ((bm 4), .inl ((km 4), 8, .inl ru)), ((bm 5), .inl ((km 5), 48, .inl td)), ((bm 6), .inl ((km 6), 320, .inl sq)), ((bm 7), .inl ((km 7), 5, .inl sl)), ((bm 8), .inl ((km 8), 279, .inl nw))]) [0, 1, 2, 3, 4, 5, 6, 7, 8] (by decide) rfl
          have hK9 := hK.sub (tys' := [((km 1), .int), ((km 2), .int), ((km 3), .int), ((km 4), .int), ((km 5), .int), ((km 6), .int), ((km 7), .int), ((km 8), .int)]) [0, 1, 2, 3, 4, 5, 6, 7] rfl
          exact W.iret (v := (-1)) hx hb hr (fun t ht hW => ⟨⟨(-1), (), rfl, ⟨rfl, trivial⟩, by rw [ht]; exact hP9, va_K.moved hW.alike hK9, hD9⟩, hS.F ht⟩) hS.2.2 dX10_text_70
        · have hG := q_ifn c_11 hG
          refine lv_aload_n hx hb dX10_text_35 rfl (lv_at hl 0 rfl) ?_
          refine lv_aload_n hx hb dX10_text_36 rfl (lv_at hl 0 rfl) ?_
          refine va_get (D := (dC, dI)) (ci := 10) (v := .int sn) (C := RX10) (T := TX10) (N := 24) hx hb hts iA_10 hown hK hP 0 rfl rfl 13 (by decide) (hts (.fieldLink RX10 161 "HubTreeModel" "scripts" "I") (List.mem_cons_of_mem _ m_428)) (fun _ h9 => h9) rfl dX10_text_37 ?_
          obtain ⟨o_12, r_13, hG⟩ := q_bi hG
          refine q_goi2 (v := o_12.1) (wr := [((bm 2), .inl ((km 2), 8, .inl (o_7.2.2.2.2.1))), ((bm 3), .inl ((km 3), 48, .inl (o_7.2.2.2.2.2))), ((bm 4), .inl ((km 4), 8, .inl ru)), ((bm 5), .inl ((km 5), 48, .inl td)), ((bm 8), .inl ((km 8), 279, .inl nw))]) (va_runV (As := [.int sn]) (rest := []) ⟨hx, hb, hml, hown, hts⟩ (c_X10_readScript l dC dI bm km th tn (o_7.2.1) (o_7.2.2.1) (o_7.2.2.2.1) mn sn ac hi dn tp sq sl sn (va_A [((bm 0), .inr (10, [.int th, .ref (bm 1), .int tn, .int (o_7.2.1), .int (o_7.2.2.1), .ref (bm 2), .ref (bm 3), .int (o_7.2.2.2.1), .ref (bm 4), .ref (bm 5), .int mn, .ref (bm 6), .ref (bm 7), .int sn, .ref (bm 8), .ref (bm 9), .ref (bm 10), .int ac, .long dn, .ref (bm 11), .ref (bm 12), .ref (bm 13), .ref (bm 14), .int hi])), ((bm 1), .inl ((km 1), 240, .inl tp)), ((bm 6), .inl ((km 6), 320, .inl sq)), ((bm 7), .inl ((km 7), 5, .inl sl))] H.size) o_12 r_13) (cwV 1 hts (q_gV m_366 m_367 m_368 m_5 m_369) rfl rfl rfl hdV_yX10_readScript_1 ⟨Nat.le_of_ble_eq_true rfl, Nat.le_of_ble_eq_true rfl⟩) (q_preWV hK hP hD (q := (RX10, TX10, 24)) (ci := 10) (q0 := 0) rfl rfl [0, 1, 6, 7] (by decide) rfl rfl [0, 5, 6] rfl) rfl rfl hl.1 rfl (lv_room (Nat.le_of_ble_eq_true rfl)) dX10_text_40 ⟨Nat.le_of_ble_eq_true rfl, Nat.le_of_ble_eq_true rfl⟩) hK hP hD hS hA [0, 1, 6, 7] [2, 3, 4, 5, 8] rfl rfl (by decide) (by decide) (fun _ H locs _ hP hD hK9 hS => ?_)
          have hP : va_P (dC, dI) vwCl [((bm 0), .inr (10, [.int th, .ref (bm 1), .int tn, .int (o_12.2.1), .int (o_12.2.2.1), .ref (bm 2), .ref (bm 3), .int (o_7.2.2.2.1), .ref (bm 4), .ref (bm 5), .int mn, .ref (bm 6), .ref (bm 7), .int sn, .ref (bm 8), .ref (bm 9), .ref (bm 10), .int ac, .long dn, .ref (bm 11), .ref (bm 12), .ref (bm 13), .ref (bm 14), .int hi])), ((bm 1), .inl ((km 1), 240, .inl tp)), ((bm 2), .inl ((km 2), 8, .inl (o_7.2.2.2.2.1))), ((bm 3), .inl ((km 3), 48, .inl (o_7.2.2.2.2.2))), ((bm 4), .inl ((km 4), 8, .inl ru)), ((bm 5), .inl ((km 5), 48, .inl td)), ((bm 6), .inl ((km 6), 320, .inl (o_12.2.2.2.1))), ((bm 7), .inl ((km 7), 5, .inl (o_12.2.2.2.2))), ((bm 8), .inl ((km 8), 279, .inl nw))] H := hP.sub [5, 6, 0, 1, 2, 3, 7, 8, 4] rfl
          have hD : va_D A [((bm 0), .inr (10, [.int th, .ref (bm 1), .int tn, .int (o_12.2.1), .int (o_12.2.2.1), .ref (bm 2), .ref (bm 3), .int (o_7.2.2.2.1), .ref (bm 4), .ref (bm 5), .int mn, .ref (bm 6), .ref (bm 7), .int sn, .ref (bm 8), .ref (bm 9), .ref (bm 10), .int ac, .long dn, .ref (bm 11), .ref (bm 12), .ref (bm 13), .ref (bm 14), .int hi])), ((bm 1), .inl ((km 1), 240, .inl tp)), ((bm 2), .inl ((km 2), 8, .inl (o_7.2.2.2.2.1))), ((bm 3), .inl ((km 3), 48, .inl (o_7.2.2.2.2.2))), ((bm 4), .inl ((km 4), 8, .inl ru)), ((bm 5), .inl ((km 5), 48, .inl td)), ((bm 6), .inl ((km 6), 320, .inl (o_12.2.2.2.1))), ((bm 7), .inl ((km 7), 5, .inl (o_12.2.2.2.2))), ((bm 8), .inl ((km 8), 279, .inl nw))] := hD.sub [5, 6, 0, 1, 2, 3, 7, 8, 4] (by decide) rfl
          refine lv_iconst (v := (-1)) hx hb dX10_text_43 (by decide) ?_
          refine lv_icmp_ne (tgt := 69) hx hb dX10_text_44 (by decide) (fun c_14 => ?_) (fun c_14 => ?_)
          · have hG := q_ifn c_14 hG
            refine lv_iconst (v := (-1)) hx hb dX10_text_69 (by decide) ?_
            obtain rfl := Option.some.inj hG
            have hP9 := hP.sub (ws' := [((bm 0), .inr (10, [.int th, .ref (bm 1), .int tn, .int (o_12.2.1), .int (o_12.2.2.1), .ref (bm 2), .ref (bm 3), .int (o_7.2.2.2.1), .ref (bm 4), .ref (bm 5), .int mn, .ref (bm 6), .ref (bm 7), .int sn, .ref (bm 8), .ref (bm 9), .ref (bm 10), .int ac, .long dn, .ref (bm 11), .ref (bm 12), .ref (bm 13), .ref (bm 14), .int hi])), ((bm 1), .inl ((km 1), 240, .inl tp)), ((bm 2), .inl ((km 2), 8, .inl (o_7.2.2.2.2.1))), ((bm 3), .inl ((km 3), 48, .inl (o_7.2.2.2.2.2))), ((bm 4), .inl ((km 4), 8, .inl ru)), ((bm 5), .inl ((km 5), 48, .inl td)), ((bm 6), .inl ((km 6), 320, .inl (o_12.2.2.2.1))), ((bm 7), .inl ((km 7), 5, .inl (o_12.2.2.2.2))), ((bm 8), .inl ((km 8), 279, .inl nw))]) [0, 1, 2, 3, 4, 5, 6, 7, 8] rfl
            have hD9 := hD.sub (ws' := [((bm 0), .inr (10, [.int th, .ref (bm 1), .int tn, .int (o_12.2.1), .int (o_12.2.2.1), .ref (bm 2), .ref (bm 3), .int (o_7.2.2.2.1), .ref (bm 4), .ref (bm 5), .int mn, .ref (bm 6), .ref (bm 7), .int sn, .ref (bm 8), .ref (bm 9), .ref (bm 10), .int ac, .long dn, .ref (bm 11), .ref (bm 12), .ref (bm 13), .ref (bm 14), .int hi])), ((bm 1), .inl ((km 1), 240, .inl tp)), ((bm 2), .inl ((km 2), 8, .inl (o_7.2.2.2.2.1))), ((bm 3), .inl ((km 3), 48, .inl (o_7.2.2.2.2.2))), ((bm 4), .inl ((km 4), 8, .inl ru)), ((bm 5), .inl ((km 5), 48, .inl td)), ((bm 6), .inl ((km 6), 320, .inl (o_12.2.2.2.1))), ((bm 7), .inl ((km 7), 5, .inl (o_12.2.2.2.2))), ((bm 8), .inl ((km 8), 279, .inl nw))]) [0, 1, 2, 3, 4, 5, 6, 7, 8] (by decide) rfl
            have hK9 := hK.sub (tys' := [((km 1), .int), ((km 2), .int), ((km 3), .int), ((km 4), .int), ((km 5), .int), ((km 6), .int), ((km 7), .int), ((km 8), .int)]) [0, 1, 2, 3, 4, 5, 6, 7] rfl
            exact W.iret (v := (-1)) hx hb hr (fun t ht hW => ⟨⟨(-1), (), rfl, ⟨rfl, trivial⟩, by rw [ht]; exact hP9, va_K.moved hW.alike hK9, hD9⟩, hS.F ht⟩) hS.2.2 dX10_text_70
          · have hG := q_ifp c_14 hG
            refine lv_aload_n hx hb dX10_text_47 rfl (lv_at hl 0 rfl) ?_
            refine lv_iconst (v := 0) hx hb dX10_text_48 (by decide) ?_
            refine va_put (D := (dC, dI)) (ci := 10) (v := .int 0) (ty := .int) (C := RX10) (T := TX10) (N := 24) hx hb hts iA_10 tyX10 tyX10_ok nmX10 hown hK hP hD hS 0 rfl rfl 2 (by decide) (hts (.fieldLink RX10 60 "HubTreeModel" "taped" "I") (List.mem_cons_of_mem _ m_145)) (fun _ h9 => h9) rfl (by decide +kernel) rfl rfl (Nat.le_of_ble_eq_true rfl) dX10_text_49 (fun H locs hP hD hS => ?_)
            have hP : va_P (dC, dI) vwCl [((bm 0), .inr (10, [.int th, .ref (bm 1), .int 0, .int (o_12.2.1), .int (o_12.2.2.1), .ref (bm 2), .ref (bm 3), .int (o_7.2.2.2.1), .ref (bm 4), .ref (bm 5), .int mn, .ref (bm 6), .ref (bm 7), .int sn, .ref (bm 8), .ref (bm 9), .ref (bm 10), .int ac, .long dn, .ref (bm 11), .ref (bm 12), .ref (bm 13), .ref (bm 14), .int hi])), ((bm 1), .inl ((km 1), 240, .inl tp)), ((bm 2), .inl ((km 2), 8, .inl (o_7.2.2.2.2.1))), ((bm 3), .inl ((km 3), 48, .inl (o_7.2.2.2.2.2))), ((bm 4), .inl ((km 4), 8, .inl ru)), ((bm 5), .inl ((km 5), 48, .inl td)), ((bm 6), .inl ((km 6), 320, .inl (o_12.2.2.2.1))), ((bm 7), .inl ((km 7), 5, .inl (o_12.2.2.2.2))), ((bm 8), .inl ((km 8), 279, .inl nw))] H := hP
            have hD : va_D A [((bm 0), .inr (10, [.int th, .ref (bm 1), .int 0, .int (o_12.2.1), .int (o_12.2.2.1), .ref (bm 2), .ref (bm 3), .int (o_7.2.2.2.1), .ref (bm 4), .ref (bm 5), .int mn, .ref (bm 6), .ref (bm 7), .int sn, .ref (bm 8), .ref (bm 9), .ref (bm 10), .int ac, .long dn, .ref (bm 11), .ref (bm 12), .ref (bm 13), .ref (bm 14), .int hi])), ((bm 1), .inl ((km 1), 240, .inl tp)), ((bm 2), .inl ((km 2), 8, .inl (o_7.2.2.2.2.1))), ((bm 3), .inl ((km 3), 48, .inl (o_7.2.2.2.2.2))), ((bm 4), .inl ((km 4), 8, .inl ru)), ((bm 5), .inl ((km 5), 48, .inl td)), ((bm 6), .inl ((km 6), 320, .inl (o_12.2.2.2.1))), ((bm 7), .inl ((km 7), 5, .inl (o_12.2.2.2.2))), ((bm 8), .inl ((km 8), 279, .inl nw))] := hD
            refine lv_aload_n hx hb dX10_text_52 rfl (lv_at hl 0 rfl) ?_
            refine lv_dup hx hb dX10_text_53 rfl ?_
            refine va_get (D := (dC, dI)) (ci := 10) (v := .int sn) (C := RX10) (T := TX10) (N := 24) hx hb hts iA_10 hown hK hP 0 rfl rfl 13 (by decide) (hts (.fieldLink RX10 161 "HubTreeModel" "scripts" "I") (List.mem_cons_of_mem _ m_428)) (fun _ h9 => h9) rfl dX10_text_54 ?_
            refine lv_iconst (v := 1) hx hb dX10_text_57 (by decide) ?_
            refine lv_iadd hx hb dX10_text_58 ?_
            refine va_put (D := (dC, dI)) (ci := 10) (v := .int (sn + 1)) (ty := .int) (C := RX10) (T := TX10) (N := 24) hx hb hts iA_10 tyX10 tyX10_ok nmX10 hown hK hP hD hS 0 rfl rfl 13 (by decide) (hts (.fieldLink RX10 161 "HubTreeModel" "scripts" "I") (List.mem_cons_of_mem _ m_428)) (fun _ h9 => h9) rfl (by decide +kernel) rfl rfl (Nat.le_of_ble_eq_true rfl) dX10_text_59 (fun H locs hP hD hS => ?_)
            have hP : va_P (dC, dI) vwCl [((bm 0), .inr (10, [.int th, .ref (bm 1), .int 0, .int (o_12.2.1), .int (o_12.2.2.1), .ref (bm 2), .ref (bm 3), .int (o_7.2.2.2.1), .ref (bm 4), .ref (bm 5), .int mn, .ref (bm 6), .ref (bm 7), .int (sn + 1), .ref (bm 8), .ref (bm 9), .ref (bm 10), .int ac, .long dn, .ref (bm 11), .ref (bm 12), .ref (bm 13), .ref (bm 14), .int hi])), ((bm 1), .inl ((km 1), 240, .inl tp)), ((bm 2), .inl ((km 2), 8, .inl (o_7.2.2.2.2.1))), ((bm 3), .inl ((km 3), 48, .inl (o_7.2.2.2.2.2))), ((bm 4), .inl ((km 4), 8, .inl ru)), ((bm 5), .inl ((km 5), 48, .inl td)), ((bm 6), .inl ((km 6), 320, .inl (o_12.2.2.2.1))), ((bm 7), .inl ((km 7), 5, .inl (o_12.2.2.2.2))), ((bm 8), .inl ((km 8), 279, .inl nw))] H := hP
            have hD : va_D A [((bm 0), .inr (10, [.int th, .ref (bm 1), .int 0, .int (o_12.2.1), .int (o_12.2.2.1), .ref (bm 2), .ref (bm 3), .int (o_7.2.2.2.1), .ref (bm 4), .ref (bm 5), .int mn, .ref (bm 6), .ref (bm 7), .int (sn + 1), .ref (bm 8), .ref (bm 9), .ref (bm 10), .int ac, .long dn, .ref (bm 11), .ref (bm 12), .ref (bm 13), .ref (bm 14), .int hi])), ((bm 1), .inl ((km 1), 240, .inl tp)), ((bm 2), .inl ((km 2), 8, .inl (o_7.2.2.2.2.1))), ((bm 3), .inl ((km 3), 48, .inl (o_7.2.2.2.2.2))), ((bm 4), .inl ((km 4), 8, .inl ru)), ((bm 5), .inl ((km 5), 48, .inl td)), ((bm 6), .inl ((km 6), 320, .inl (o_12.2.2.2.1))), ((bm 7), .inl ((km 7), 5, .inl (o_12.2.2.2.2))), ((bm 8), .inl ((km 8), 279, .inl nw))] := hD
            refine lv_aload_n hx hb dX10_text_62 rfl (lv_at hl 0 rfl) ?_
            refine va_get (D := (dC, dI)) (ci := 10) (v := .int (sn + 1)) (C := RX10) (T := TX10) (N := 24) hx hb hts iA_10 hown hK hP 0 rfl rfl 13 (by decide) (hts (.fieldLink RX10 161 "HubTreeModel" "scripts" "I") (List.mem_cons_of_mem _ m_428)) (fun _ h9 => h9) rfl dX10_text_63 ?_
            refine lv_iconst (v := 1) hx hb dX10_text_66 (by decide) ?_
            refine lv_isub hx hb dX10_text_67 ?_
            obtain rfl := Option.some.inj hG
            have hP9 := hP.sub (ws' := [((bm 0), .inr (10, [.int th, .ref (bm 1), .int 0, .int (o_12.2.1), .int (o_12.2.2.1), .ref (bm 2), .ref (bm 3), .int (o_7.2.2.2.1), .ref (bm 4), .ref (bm 5), .int mn, .ref (bm 6), .ref (bm 7), .int (sn + 1), .ref (bm 8), .ref (bm 9), .ref (bm 10), .int ac, .long dn, .ref (bm 11), .ref (bm 12), .ref (bm 13), .ref (bm 14), .int hi])), ((bm 1), .inl ((km 1), 240, .inl tp)), ((bm 2), .inl ((km 2), 8, .inl (o_7.2.2.2.2.1))), ((bm 3), .inl ((km 3), 48, .inl (o_7.2.2.2.2.2))), ((bm 4), .inl ((km 4), 8, .inl ru)), ((bm 5), .inl ((km 5), 48, .inl td)), ((bm 6), .inl ((km 6), 320, .inl (o_12.2.2.2.1))), ((bm 7), .inl ((km 7), 5, .inl (o_12.2.2.2.2))), ((bm 8), .inl ((km 8), 279, .inl nw))]) [0, 1, 2, 3, 4, 5, 6, 7, 8] rfl
            have hD9 := hD.sub (ws' := [((bm 0), .inr (10, [.int th, .ref (bm 1), .int 0, .int (o_12.2.1), .int (o_12.2.2.1), .ref (bm 2), .ref (bm 3), .int (o_7.2.2.2.1), .ref (bm 4), .ref (bm 5), .int mn, .ref (bm 6), .ref (bm 7), .int (sn + 1), .ref (bm 8), .ref (bm 9), .ref (bm 10), .int ac, .long dn, .ref (bm 11), .ref (bm 12), .ref (bm 13), .ref (bm 14), .int hi])), ((bm 1), .inl ((km 1), 240, .inl tp)), ((bm 2), .inl ((km 2), 8, .inl (o_7.2.2.2.2.1))), ((bm 3), .inl ((km 3), 48, .inl (o_7.2.2.2.2.2))), ((bm 4), .inl ((km 4), 8, .inl ru)), ((bm 5), .inl ((km 5), 48, .inl td)), ((bm 6), .inl ((km 6), 320, .inl (o_12.2.2.2.1))), ((bm 7), .inl ((km 7), 5, .inl (o_12.2.2.2.2))), ((bm 8), .inl ((km 8), 279, .inl nw))]) [0, 1, 2, 3, 4, 5, 6, 7, 8] (by decide) rfl
            have hK9 := hK.sub (tys' := [((km 1), .int), ((km 2), .int), ((km 3), .int), ((km 4), .int), ((km 5), .int), ((km 6), .int), ((km 7), .int), ((km 8), .int)]) [0, 1, 2, 3, 4, 5, 6, 7] rfl
            exact W.iret (v := ((sn + 1) - 1)) hx hb hr (fun t ht hW => ⟨⟨((sn + 1) - 1), (), rfl, ⟨rfl, trivial⟩, by rw [ht]; exact hP9, va_K.moved hW.alike hK9, hD9⟩, hS.F ht⟩) hS.2.2 dX10_text_68
    · have hG := q_ifp c_9 hG
      refine lv_aload_n hx hb dX10_text_12 rfl (lv_at hl 0 rfl) ?_
      refine lv_iconst (v := 0) hx hb dX10_text_13 (by decide) ?_
      refine va_put (D := (dC, dI)) (ci := 10) (v := .int 0) (ty := .int) (C := RX10) (T := TX10) (N := 24) hx hb hts iA_10 tyX10 tyX10_ok nmX10 hown hK hP hD hS 0 rfl rfl 2 (by decide) (hts (.fieldLink RX10 60 "HubTreeModel" "taped" "I") (List.mem_cons_of_mem _ m_145)) (fun _ h9 => h9) rfl (by decide +kernel) rfl rfl (Nat.le_of_ble_eq_true rfl) dX10_text_14 (fun H locs hP hD hS => ?_)
      have hP : va_P (dC, dI) vwCl [((bm 0), .inr (10, [.int th, .ref (bm 1), .int 0, .int (o_7.2.1), .int (o_7.2.2.1), .ref (bm 2), .ref (bm 3), .int (o_7.2.2.2.1), .ref (bm 4), .ref (bm 5), .int mn, .ref (bm 6), .ref (bm 7), .int sn, .ref (bm 8), .ref (bm 9), .ref (bm 10), .int ac, .long dn, .ref (bm 11), .ref (bm 12), .ref (bm 13), .ref (bm 14), .int hi])), ((bm 1), .inl ((km 1), 240, .inl tp)), ((bm 2), .inl ((km 2), 8, .inl (o_7.2.2.2.2.1))), ((bm 3), .inl ((km 3), 48, .inl (o_7.2.2.2.2.2))), ((bm 4), .inl ((km 4), 8, .inl ru)), ((bm 5), .inl ((km 5), 48, .inl td)), ((bm 6), .inl ((km 6), 320, .inl sq)), ((bm 7), .inl ((km 7), 5, .inl sl)), ((bm 8), .inl ((km 8), 279, .inl nw))] H := hP
      have hD : va_D A [((bm 0), .inr (10, [.int th, .ref (bm 1), .int 0, .int (o_7.2.1), .int (o_7.2.2.1), .ref (bm 2), .ref (bm 3), .int (o_7.2.2.2.1), .ref (bm 4), .ref (bm 5), .int mn, .ref (bm 6), .ref (bm 7), .int sn, .ref (bm 8), .ref (bm 9), .ref (bm 10), .int ac, .long dn, .ref (bm 11), .ref (bm 12), .ref (bm 13), .ref (bm 14), .int hi])), ((bm 1), .inl ((km 1), 240, .inl tp)), ((bm 2), .inl ((km 2), 8, .inl (o_7.2.2.2.2.1))), ((bm 3), .inl ((km 3), 48, .inl (o_7.2.2.2.2.2))), ((bm 4), .inl ((km 4), 8, .inl ru)), ((bm 5), .inl ((km 5), 48, .inl td)), ((bm 6), .inl ((km 6), 320, .inl sq)), ((bm 7), .inl ((km 7), 5, .inl sl)), ((bm 8), .inl ((km 8), 279, .inl nw))] := hD
      refine lv_aload_n hx hb dX10_text_17 rfl (lv_at hl 0 rfl) ?_
      obtain ⟨o_15, r_16, hG⟩ := q_bi hG
      refine q_goi2 (v := o_15.1) (wr := [((bm 1), .inl ((km 1), 240, .inl tp)), ((bm 6), .inl ((km 6), 320, .inl sq)), ((bm 7), .inl ((km 7), 5, .inl sl))]) (va_runV (As := []) (rest := []) ⟨hx, hb, hml, hown, hts⟩ (c_X10_takeTree l dC dI bm km th 0 (o_7.2.1) (o_7.2.2.1) (o_7.2.2.2.1) mn sn ac hi dn (o_7.2.2.2.2.1) (o_7.2.2.2.2.2) ru td nw (va_A [((bm 0), .inr (10, [.int th, .ref (bm 1), .int 0, .int (o_7.2.1), .int (o_7.2.2.1), .ref (bm 2), .ref (bm 3), .int (o_7.2.2.2.1), .ref (bm 4), .ref (bm 5), .int mn, .ref (bm 6), .ref (bm 7), .int sn, .ref (bm 8), .ref (bm 9), .ref (bm 10), .int ac, .long dn, .ref (bm 11), .ref (bm 12), .ref (bm 13), .ref (bm 14), .int hi])), ((bm 2), .inl ((km 2), 8, .inl (o_7.2.2.2.2.1))), ((bm 3), .inl ((km 3), 48, .inl (o_7.2.2.2.2.2))), ((bm 4), .inl ((km 4), 8, .inl ru)), ((bm 5), .inl ((km 5), 48, .inl td)), ((bm 8), .inl ((km 8), 279, .inl nw))] H.size) o_15 r_16) (cwV 0 hts (q_gV m_429 m_430 m_431 m_5 m_432) rfl rfl rfl hdV_yX10_takeTree_0 ⟨Nat.le_of_ble_eq_true rfl, Nat.le_of_ble_eq_true rfl⟩) (q_preWV hK hP hD (q := (RX10, TX10, 24)) (ci := 10) (q0 := 0) rfl rfl [0, 2, 3, 4, 5, 8] (by decide) rfl rfl [1, 2, 3, 4, 7] rfl) rfl rfl hl.1 rfl (lv_room (Nat.le_of_ble_eq_true rfl)) dX10_text_18 ⟨Nat.le_of_ble_eq_true rfl, Nat.le_of_ble_eq_true rfl⟩) hK hP hD hS hA [0, 2, 3, 4, 5, 8] [1, 6, 7] rfl rfl (by decide) (by decide) (fun _ H locs _ hP hD hK9 hS => ?_)
      have hP : va_P (dC, dI) vwCl [((bm 0), .inr (10, [.int th, .ref (bm 1), .int 0, .int (o_7.2.1), .int (o_7.2.2.1), .ref (bm 2), .ref (bm 3), .int (o_7.2.2.2.1), .ref (bm 4), .ref (bm 5), .int (o_15.2.1), .ref (bm 6), .ref (bm 7), .int sn, .ref (bm 8), .ref (bm 9), .ref (bm 10), .int (o_15.2.2.1), .long dn, .ref (bm 11), .ref (bm 12), .ref (bm 13), .ref (bm 14), .int (o_15.2.2.2.1)])), ((bm 1), .inl ((km 1), 240, .inl tp)), ((bm 2), .inl ((km 2), 8, .inl (o_7.2.2.2.2.1))), ((bm 3), .inl ((km 3), 48, .inl (o_7.2.2.2.2.2))), ((bm 4), .inl ((km 4), 8, .inl (o_15.2.2.2.2.1))), ((bm 5), .inl ((km 5), 48, .inl (o_15.2.2.2.2.2.1))), ((bm 6), .inl ((km 6), 320, .inl sq)), ((bm 7), .inl ((km 7), 5, .inl sl)), ((bm 8), .inl ((km 8), 279, .inl (o_15.2.2.2.2.2.2)))] H := hP.sub [3, 0, 4, 5, 6, 7, 1, 2, 8] rfl
      have hD : va_D A [((bm 0), .inr (10, [.int th, .ref (bm 1), .int 0, .int (o_7.2.1), .int (o_7.2.2.1), .ref (bm 2), .ref (bm 3), .int (o_7.2.2.2.1), .ref (bm 4), .ref (bm 5), .int (o_15.2.1), .ref (bm 6), .ref (bm 7), .int sn, .ref (bm 8), .ref (bm 9), .ref (bm 10), .int (o_15.2.2.1), .long dn, .ref (bm 11), .ref (bm 12), .ref (bm 13), .ref (bm 14), .int (o_15.2.2.2.1)])), ((bm 1), .inl ((km 1), 240, .inl tp)), ((bm 2), .inl ((km 2), 8, .inl (o_7.2.2.2.2.1))), ((bm 3), .inl ((km 3), 48, .inl (o_7.2.2.2.2.2))), ((bm 4), .inl ((km 4), 8, .inl (o_15.2.2.2.2.1))), ((bm 5), .inl ((km 5), 48, .inl (o_15.2.2.2.2.2.1))), ((bm 6), .inl ((km 6), 320, .inl sq)), ((bm 7), .inl ((km 7), 5, .inl sl)), ((bm 8), .inl ((km 8), 279, .inl (o_15.2.2.2.2.2.2)))] := hD.sub [3, 0, 4, 5, 6, 7, 1, 2, 8] (by decide) rfl
      obtain rfl := Option.some.inj hG
      have hP9 := hP.sub (ws' := [((bm 0), .inr (10, [.int th, .ref (bm 1), .int 0, .int (o_7.2.1), .int (o_7.2.2.1), .ref (bm 2), .ref (bm 3), .int (o_7.2.2.2.1), .ref (bm 4), .ref (bm 5), .int (o_15.2.1), .ref (bm 6), .ref (bm 7), .int sn, .ref (bm 8), .ref (bm 9), .ref (bm 10), .int (o_15.2.2.1), .long dn, .ref (bm 11), .ref (bm 12), .ref (bm 13), .ref (bm 14), .int (o_15.2.2.2.1)])), ((bm 1), .inl ((km 1), 240, .inl tp)), ((bm 2), .inl ((km 2), 8, .inl (o_7.2.2.2.2.1))), ((bm 3), .inl ((km 3), 48, .inl (o_7.2.2.2.2.2))), ((bm 4), .inl ((km 4), 8, .inl (o_15.2.2.2.2.1))), ((bm 5), .inl ((km 5), 48, .inl (o_15.2.2.2.2.2.1))), ((bm 6), .inl ((km 6), 320, .inl sq)), ((bm 7), .inl ((km 7), 5, .inl sl)), ((bm 8), .inl ((km 8), 279, .inl (o_15.2.2.2.2.2.2)))]) [0, 1, 2, 3, 4, 5, 6, 7, 8] rfl
      have hD9 := hD.sub (ws' := [((bm 0), .inr (10, [.int th, .ref (bm 1), .int 0, .int (o_7.2.1), .int (o_7.2.2.1), .ref (bm 2), .ref (bm 3), .int (o_7.2.2.2.1), .ref (bm 4), .ref (bm 5), .int (o_15.2.1), .ref (bm 6), .ref (bm 7), .int sn, .ref (bm 8), .ref (bm 9), .ref (bm 10), .int (o_15.2.2.1), .long dn, .ref (bm 11), .ref (bm 12), .ref (bm 13), .ref (bm 14), .int (o_15.2.2.2.1)])), ((bm 1), .inl ((km 1), 240, .inl tp)), ((bm 2), .inl ((km 2), 8, .inl (o_7.2.2.2.2.1))), ((bm 3), .inl ((km 3), 48, .inl (o_7.2.2.2.2.2))), ((bm 4), .inl ((km 4), 8, .inl (o_15.2.2.2.2.1))), ((bm 5), .inl ((km 5), 48, .inl (o_15.2.2.2.2.2.1))), ((bm 6), .inl ((km 6), 320, .inl sq)), ((bm 7), .inl ((km 7), 5, .inl sl)), ((bm 8), .inl ((km 8), 279, .inl (o_15.2.2.2.2.2.2)))]) [0, 1, 2, 3, 4, 5, 6, 7, 8] (by decide) rfl
      have hK9 := hK.sub (tys' := [((km 1), .int), ((km 2), .int), ((km 3), .int), ((km 4), .int), ((km 5), .int), ((km 6), .int), ((km 7), .int), ((km 8), .int)]) [0, 1, 2, 3, 4, 5, 6, 7] rfl
      exact W.iret (v := o_15.1) hx hb hr (fun t ht hW => ⟨⟨o_15.1, (), rfl, ⟨rfl, trivial⟩, by rw [ht]; exact hP9, va_K.moved hW.alike hK9, hD9⟩, hS.F ht⟩) hS.2.2 dX10_text_21
