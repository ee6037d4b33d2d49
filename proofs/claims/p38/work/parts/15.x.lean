theorem dX8_add_0 : decode cX8_add 0 = .ok (.bipush 24, 2) := q_o16 (a := 24) (by decide +kernel) rfl
theorem dX8_add_2 : decode cX8_add 2 = .ok (.istore_n 2, 1) := q_o61 (by decide +kernel)
theorem dX8_add_3 : decode cX8_add 3 = .ok (.iload_n 2, 1) := q_o28 (by decide +kernel)
theorem dX8_add_4 : decode cX8_add 4 = .ok (.ifCond .lt 54, 3) := q_o155 (a := 0) (b := 54) (by decide +kernel) rfl
theorem dX8_add_7 : decode cX8_add 7 = .ok (.iload_n 1, 1) := q_o27 (by decide +kernel)
theorem dX8_add_8 : decode cX8_add 8 = .ok (.iload_n 2, 1) := q_o28 (by decide +kernel)
theorem dX8_add_9 : decode cX8_add 9 = .ok (.iushr, 1) := by decide +kernel
theorem dX8_add_10 : decode cX8_add 10 = .ok (.sipush 255, 3) := q_o17 (a := 0) (b := 255) (by decide +kernel) rfl
theorem dX8_add_13 : decode cX8_add 13 = .ok (.iand, 1) := q_o126 (by decide +kernel)
theorem dX8_add_14 : decode cX8_add 14 = .ok (.istore_n 3, 1) := q_o62 (by decide +kernel)
theorem dX8_add_15 : decode cX8_add 15 = .ok (.iload_n 3, 1) := q_o29 (by decide +kernel)
theorem dX8_add_16 : decode cX8_add 16 = .ok (.ifCond .eq 36, 3) := q_o153 (a := 0) (b := 36) (by decide +kernel) rfl
theorem dX8_add_19 : decode cX8_add 19 = .ok (.aload_n 0, 1) := q_o42 (by decide +kernel)
theorem dX8_add_20 : decode cX8_add 20 = .ok (.getfield 15, 3) := q_o180 (a := 0) (b := 15) (by decide +kernel)
theorem dX8_add_23 : decode cX8_add 23 = .ok (.aload_n 0, 1) := q_o42 (by decide +kernel)
theorem dX8_add_24 : decode cX8_add 24 = .ok (.getfield 9, 3) := q_o180 (a := 0) (b := 9) (by decide +kernel)
theorem dX8_add_27 : decode cX8_add 27 = .ok (.arraylength, 1) := by decide +kernel
theorem dX8_add_28 : decode cX8_add 28 = .ok (.if_icmp .ge 24, 3) := q_o162 (a := 0) (b := 24) (by decide +kernel) rfl
theorem dX8_add_31 : decode cX8_add 31 = .ok (.aload_n 0, 1) := q_o42 (by decide +kernel)
theorem dX8_add_32 : decode cX8_add 32 = .ok (.getfield 9, 3) := q_o180 (a := 0) (b := 9) (by decide +kernel)
theorem dX8_add_35 : decode cX8_add 35 = .ok (.aload_n 0, 1) := q_o42 (by decide +kernel)
theorem dX8_add_36 : decode cX8_add 36 = .ok (.getfield 15, 3) := q_o180 (a := 0) (b := 15) (by decide +kernel)
theorem dX8_add_39 : decode cX8_add 39 = .ok (.iload_n 3, 1) := q_o29 (by decide +kernel)
theorem dX8_add_40 : decode cX8_add 40 = .ok (.i2c, 1) := by decide +kernel
theorem dX8_add_41 : decode cX8_add 41 = .ok (.castore, 1) := by decide +kernel
theorem dX8_add_42 : decode cX8_add 42 = .ok (.aload_n 0, 1) := q_o42 (by decide +kernel)
theorem dX8_add_43 : decode cX8_add 43 = .ok (.dup, 1) := q_o89 (by decide +kernel)
theorem dX8_add_44 : decode cX8_add 44 = .ok (.getfield 15, 3) := q_o180 (a := 0) (b := 15) (by decide +kernel)
theorem dX8_add_47 : decode cX8_add 47 = .ok (.iconst 1, 1) := q_o4 (by decide +kernel)
theorem dX8_add_48 : decode cX8_add 48 = .ok (.iadd, 1) := q_o96 (by decide +kernel)
theorem dX8_add_49 : decode cX8_add 49 = .ok (.putfield 15, 3) := q_o181 (a := 0) (b := 15) (by decide +kernel)
theorem dX8_add_52 : decode cX8_add 52 = .ok (.iinc 2 (-8), 3) := q_o132 (a := 2) (b := 248) (by decide +kernel) rfl
theorem dX8_add_55 : decode cX8_add 55 = .ok (.goto (-52), 3) := q_o167 (a := 255) (b := 204) (by decide +kernel) rfl
theorem dX8_add_58 : decode cX8_add 58 = .ok (.return_, 1) := q_o177 (by decide +kernel)
theorem dX8_bytesIn_0 : decode cX8_bytesIn 0 = .ok (.iconst 0, 1) := q_o3 (by decide +kernel)
theorem dX8_bytesIn_1 : decode cX8_bytesIn 1 = .ok (.istore_n 1, 1) := q_o60 (by decide +kernel)
theorem dX8_bytesIn_2 : decode cX8_bytesIn 2 = .ok (.bipush 24, 2) := q_o16 (a := 24) (by decide +kernel) rfl
theorem dX8_bytesIn_4 : decode cX8_bytesIn 4 = .ok (.istore_n 2, 1) := q_o61 (by decide +kernel)
theorem dX8_bytesIn_5 : decode cX8_bytesIn 5 = .ok (.iload_n 2, 1) := q_o28 (by decide +kernel)
theorem dX8_bytesIn_6 : decode cX8_bytesIn 6 = .ok (.ifCond .lt 27, 3) := q_o155 (a := 0) (b := 27) (by decide +kernel) rfl
theorem dX8_bytesIn_9 : decode cX8_bytesIn 9 = .ok (.iload_n 1, 1) := q_o27 (by decide +kernel)
theorem dX8_bytesIn_10 : decode cX8_bytesIn 10 = .ok (.iload_n 0, 1) := q_o26 (by decide +kernel)
theorem dX8_bytesIn_11 : decode cX8_bytesIn 11 = .ok (.iload_n 2, 1) := q_o28 (by decide +kernel)
theorem dX8_bytesIn_12 : decode cX8_bytesIn 12 = .ok (.iushr, 1) := by decide +kernel
theorem dX8_bytesIn_13 : decode cX8_bytesIn 13 = .ok (.sipush 255, 3) := q_o17 (a := 0) (b := 255) (by decide +kernel) rfl
theorem dX8_bytesIn_16 : decode cX8_bytesIn 16 = .ok (.iand, 1) := q_o126 (by decide +kernel)
theorem dX8_bytesIn_17 : decode cX8_bytesIn 17 = .ok (.ifCond .ne 7, 3) := q_o154 (a := 0) (b := 7) (by decide +kernel) rfl
theorem dX8_bytesIn_20 : decode cX8_bytesIn 20 = .ok (.iconst 0, 1) := q_o3 (by decide +kernel)
theorem dX8_bytesIn_21 : decode cX8_bytesIn 21 = .ok (.goto 4, 3) := q_o167 (a := 0) (b := 4) (by decide +kernel) rfl
theorem dX8_bytesIn_24 : decode cX8_bytesIn 24 = .ok (.iconst 1, 1) := q_o4 (by decide +kernel)
theorem dX8_bytesIn_25 : decode cX8_bytesIn 25 = .ok (.iadd, 1) := q_o96 (by decide +kernel)
theorem dX8_bytesIn_26 : decode cX8_bytesIn 26 = .ok (.istore_n 1, 1) := q_o60 (by decide +kernel)
theorem dX8_bytesIn_27 : decode cX8_bytesIn 27 = .ok (.iinc 2 (-8), 3) := q_o132 (a := 2) (b := 248) (by decide +kernel) rfl
theorem dX8_bytesIn_30 : decode cX8_bytesIn 30 = .ok (.goto (-25), 3) := q_o167 (a := 255) (b := 231) (by decide +kernel) rfl
theorem dX8_bytesIn_33 : decode cX8_bytesIn 33 = .ok (.iload_n 1, 1) := q_o27 (by decide +kernel)
theorem dX8_bytesIn_34 : decode cX8_bytesIn 34 = .ok (.ireturn, 1) := q_o172 (by decide +kernel)
theorem dX9_at_0 : decode cX9_at 0 = .ok (.iload_n 1, 1) := q_o27 (by decide +kernel)
theorem dX9_at_1 : decode cX9_at 1 = .ok (.iconst 1, 1) := q_o4 (by decide +kernel)
theorem dX9_at_2 : decode cX9_at 2 = .ok (.if_icmp .ge 7, 3) := q_o162 (a := 0) (b := 7) (by decide +kernel) rfl
theorem dX9_at_5 : decode cX9_at 5 = .ok (.iconst (-1), 1) := q_o2 (by decide +kernel)
theorem dX9_at_6 : decode cX9_at 6 = .ok (.goto 11, 3) := q_o167 (a := 0) (b := 11) (by decide +kernel) rfl
theorem dX9_at_9 : decode cX9_at 9 = .ok (.aload_n 0, 1) := q_o42 (by decide +kernel)
theorem dX9_at_10 : decode cX9_at 10 = .ok (.getfield 47, 3) := q_o180 (a := 0) (b := 47) (by decide +kernel)
theorem dX9_at_13 : decode cX9_at 13 = .ok (.iload_n 1, 1) := q_o27 (by decide +kernel)
theorem dX9_at_14 : decode cX9_at 14 = .ok (.invokevirtual 221, 3) := q_o182 (a := 0) (b := 221) (by decide +kernel)
theorem dX9_at_17 : decode cX9_at 17 = .ok (.ireturn, 1) := q_o172 (by decide +kernel)
theorem dX9_attempt_0 : decode cX9_attempt 0 = .ok (.aload_n 1, 1) := q_o43 (by decide +kernel)
theorem dX9_attempt_1 : decode cX9_attempt 1 = .ok (.iload_n 3, 1) := q_o29 (by decide +kernel)
theorem dX9_attempt_2 : decode cX9_attempt 2 = .ok (.iload 4, 2) := q_o21 (a := 4) (by decide +kernel)
theorem dX9_attempt_4 : decode cX9_attempt 4 = .ok (.iload 5, 2) := q_o21 (a := 5) (by decide +kernel)
theorem dX9_attempt_6 : decode cX9_attempt 6 = .ok (.iload 6, 2) := q_o21 (a := 6) (by decide +kernel)
theorem dX9_attempt_8 : decode cX9_attempt 8 = .ok (.invokevirtual 319, 3) := q_o182 (a := 1) (b := 63) (by decide +kernel)
theorem dX9_attempt_11 : decode cX9_attempt 11 = .ok (.istore 7, 2) := q_o54 (a := 7) (by decide +kernel)
theorem dX9_attempt_13 : decode cX9_attempt 13 = .ok (.iload 7, 2) := q_o21 (a := 7) (by decide +kernel)
theorem dX9_attempt_15 : decode cX9_attempt 15 = .ok (.iconst (-1), 1) := q_o2 (by decide +kernel)
theorem dX9_attempt_16 : decode cX9_attempt 16 = .ok (.if_icmp .eq 6, 3) := q_o159 (a := 0) (b := 6) (by decide +kernel) rfl
theorem dX9_attempt_19 : decode cX9_attempt 19 = .ok (.iload 7, 2) := q_o21 (a := 7) (by decide +kernel)
theorem dX9_attempt_21 : decode cX9_attempt 21 = .ok (.ireturn, 1) := q_o172 (by decide +kernel)
theorem dX9_attempt_22 : decode cX9_attempt 22 = .ok (.iload_n 2, 1) := q_o28 (by decide +kernel)
theorem dX9_attempt_23 : decode cX9_attempt 23 = .ok (.ifCond .eq 11, 3) := q_o153 (a := 0) (b := 11) (by decide +kernel) rfl
theorem dX9_attempt_26 : decode cX9_attempt 26 = .ok (.aload_n 0, 1) := q_o42 (by decide +kernel)
theorem dX9_attempt_27 : decode cX9_attempt 27 = .ok (.getfield 66, 3) := q_o180 (a := 0) (b := 66) (by decide +kernel)
theorem dX9_attempt_30 : decode cX9_attempt 30 = .ok (.aload_n 1, 1) := q_o43 (by decide +kernel)
theorem dX9_attempt_31 : decode cX9_attempt 31 = .ok (.invokevirtual 323, 3) := q_o182 (a := 1) (b := 67) (by decide +kernel)
theorem dX9_attempt_34 : decode cX9_attempt 34 = .ok (.iload_n 3, 1) := q_o29 (by decide +kernel)
theorem dX9_attempt_35 : decode cX9_attempt 35 = .ok (.tableswitch 115 0 5 #[37, 50, 59, 82, 91, 106], 37) := by decide +kernel
theorem dX9_attempt_72 : decode cX9_attempt 72 = .ok (.aload_n 1, 1) := q_o43 (by decide +kernel)
theorem dX9_attempt_73 : decode cX9_attempt 73 = .ok (.iload 4, 2) := q_o21 (a := 4) (by decide +kernel)
theorem dX9_attempt_75 : decode cX9_attempt 75 = .ok (.iload 5, 2) := q_o21 (a := 5) (by decide +kernel)
theorem dX9_attempt_77 : decode cX9_attempt 77 = .ok (.iload 6, 2) := q_o21 (a := 6) (by decide +kernel)
theorem dX9_attempt_79 : decode cX9_attempt 79 = .ok (.invokevirtual 326, 3) := q_o182 (a := 1) (b := 70) (by decide +kernel)
theorem dX9_attempt_82 : decode cX9_attempt 82 = .ok (.goto 90, 3) := q_o167 (a := 0) (b := 90) (by decide +kernel) rfl
theorem dX9_attempt_85 : decode cX9_attempt 85 = .ok (.aload_n 1, 1) := q_o43 (by decide +kernel)
theorem dX9_attempt_86 : decode cX9_attempt 86 = .ok (.iload 4, 2) := q_o21 (a := 4) (by decide +kernel)
theorem dX9_attempt_88 : decode cX9_attempt 88 = .ok (.invokevirtual 330, 3) := q_o182 (a := 1) (b := 74) (by decide +kernel)
theorem dX9_attempt_91 : decode cX9_attempt 91 = .ok (.goto 81, 3) := q_o167 (a := 0) (b := 81) (by decide +kernel) rfl
theorem dX9_attempt_94 : decode cX9_attempt 94 = .ok (.iconst 0, 1) := q_o3 (by decide +kernel)
theorem dX9_attempt_95 : decode cX9_attempt 95 = .ok (.istore 8, 2) := q_o54 (a := 8) (by decide +kernel)
theorem dX9_attempt_97 : decode cX9_attempt 97 = .ok (.iload 8, 2) := q_o21 (a := 8) (by decide +kernel)
theorem dX9_attempt_99 : decode cX9_attempt 99 = .ok (.iload 4, 2) := q_o21 (a := 4) (by decide +kernel)
theorem dX9_attempt_101 : decode cX9_attempt 101 = .ok (.if_icmp .ge 13, 3) := q_o162 (a := 0) (b := 13) (by decide +kernel) rfl
theorem dX9_attempt_104 : decode cX9_attempt 104 = .ok (.aload_n 1, 1) := q_o43 (by decide +kernel)
theorem dX9_attempt_105 : decode cX9_attempt 105 = .ok (.invokevirtual 333, 3) := q_o182 (a := 1) (b := 77) (by decide +kernel)
theorem dX9_attempt_108 : decode cX9_attempt 108 = .ok (.iinc 8 1, 3) := q_o132 (a := 8) (b := 1) (by decide +kernel) rfl
theorem dX9_attempt_111 : decode cX9_attempt 111 = .ok (.goto (-14), 3) := q_o167 (a := 255) (b := 242) (by decide +kernel) rfl
theorem dX9_attempt_114 : decode cX9_attempt 114 = .ok (.goto 58, 3) := q_o167 (a := 0) (b := 58) (by decide +kernel) rfl
theorem dX9_attempt_117 : decode cX9_attempt 117 = .ok (.aload_n 1, 1) := q_o43 (by decide +kernel)
theorem dX9_attempt_118 : decode cX9_attempt 118 = .ok (.iload 4, 2) := q_o21 (a := 4) (by decide +kernel)
theorem dX9_attempt_120 : decode cX9_attempt 120 = .ok (.invokevirtual 336, 3) := q_o182 (a := 1) (b := 80) (by decide +kernel)
theorem dX9_attempt_123 : decode cX9_attempt 123 = .ok (.goto 49, 3) := q_o167 (a := 0) (b := 49) (by decide +kernel) rfl
theorem dX9_attempt_126 : decode cX9_attempt 126 = .ok (.aload_n 1, 1) := q_o43 (by decide +kernel)
theorem dX9_attempt_127 : decode cX9_attempt 127 = .ok (.getfield 157, 3) := q_o180 (a := 0) (b := 157) (by decide +kernel)
theorem dX9_attempt_130 : decode cX9_attempt 130 = .ok (.bipush 80, 2) := q_o16 (a := 80) (by decide +kernel) rfl
theorem dX9_attempt_132 : decode cX9_attempt 132 = .ok (.iload 4, 2) := q_o21 (a := 4) (by decide +kernel)
theorem dX9_attempt_134 : decode cX9_attempt 134 = .ok (.iadd, 1) := q_o96 (by decide +kernel)
theorem dX9_attempt_135 : decode cX9_attempt 135 = .ok (.iload 5, 2) := q_o21 (a := 5) (by decide +kernel)
theorem dX9_attempt_137 : decode cX9_attempt 137 = .ok (.iastore, 1) := q_o79 (by decide +kernel)
theorem dX9_attempt_138 : decode cX9_attempt 138 = .ok (.goto 34, 3) := q_o167 (a := 0) (b := 34) (by decide +kernel) rfl
theorem dX9_attempt_141 : decode cX9_attempt 141 = .ok (.aload_n 1, 1) := q_o43 (by decide +kernel)
theorem dX9_attempt_142 : decode cX9_attempt 142 = .ok (.iload 4, 2) := q_o21 (a := 4) (by decide +kernel)
theorem dX9_attempt_144 : decode cX9_attempt 144 = .ok (.invokevirtual 339, 3) := q_o182 (a := 1) (b := 83) (by decide +kernel)
theorem dX9_attempt_147 : decode cX9_attempt 147 = .ok (.goto 25, 3) := q_o167 (a := 0) (b := 25) (by decide +kernel) rfl
theorem dX9_attempt_150 : decode cX9_attempt 150 = .ok (.aload_n 1, 1) := q_o43 (by decide +kernel)
theorem dX9_attempt_151 : decode cX9_attempt 151 = .ok (.getfield 157, 3) := q_o180 (a := 0) (b := 157) (by decide +kernel)
theorem dX9_attempt_154 : decode cX9_attempt 154 = .ok (.bipush 88, 2) := q_o16 (a := 88) (by decide +kernel) rfl
theorem dX9_attempt_156 : decode cX9_attempt 156 = .ok (.iload 4, 2) := q_o21 (a := 4) (by decide +kernel)
theorem dX9_attempt_158 : decode cX9_attempt 158 = .ok (.iadd, 1) := q_o96 (by decide +kernel)
theorem dX9_attempt_159 : decode cX9_attempt 159 = .ok (.iconst 1, 1) := q_o4 (by decide +kernel)
theorem dX9_attempt_160 : decode cX9_attempt 160 = .ok (.aload_n 1, 1) := q_o43 (by decide +kernel)
theorem dX9_attempt_161 : decode cX9_attempt 161 = .ok (.getfield 157, 3) := q_o180 (a := 0) (b := 157) (by decide +kernel)
theorem dX9_attempt_164 : decode cX9_attempt 164 = .ok (.bipush 88, 2) := q_o16 (a := 88) (by decide +kernel) rfl
theorem dX9_attempt_166 : decode cX9_attempt 166 = .ok (.iload 4, 2) := q_o21 (a := 4) (by decide +kernel)
theorem dX9_attempt_168 : decode cX9_attempt 168 = .ok (.iadd, 1) := q_o96 (by decide +kernel)
theorem dX9_attempt_169 : decode cX9_attempt 169 = .ok (.iaload, 1) := q_o46 (by decide +kernel)
theorem dX9_attempt_170 : decode cX9_attempt 170 = .ok (.isub, 1) := q_o100 (by decide +kernel)
theorem dX9_attempt_171 : decode cX9_attempt 171 = .ok (.iastore, 1) := q_o79 (by decide +kernel)
theorem dX9_attempt_172 : decode cX9_attempt 172 = .ok (.iload_n 2, 1) := q_o28 (by decide +kernel)
theorem dX9_attempt_173 : decode cX9_attempt 173 = .ok (.ifCond .eq 17, 3) := q_o153 (a := 0) (b := 17) (by decide +kernel) rfl
theorem dX9_attempt_176 : decode cX9_attempt 176 = .ok (.aload_n 0, 1) := q_o42 (by decide +kernel)
theorem dX9_attempt_177 : decode cX9_attempt 177 = .ok (.getfield 73, 3) := q_o180 (a := 0) (b := 73) (by decide +kernel)
theorem dX9_attempt_180 : decode cX9_attempt 180 = .ok (.iload_n 3, 1) := q_o29 (by decide +kernel)
theorem dX9_attempt_181 : decode cX9_attempt 181 = .ok (.iload 4, 2) := q_o21 (a := 4) (by decide +kernel)
theorem dX9_attempt_183 : decode cX9_attempt 183 = .ok (.aload_n 1, 1) := q_o43 (by decide +kernel)
theorem dX9_attempt_184 : decode cX9_attempt 184 = .ok (.invokevirtual 237, 3) := q_o182 (a := 0) (b := 237) (by decide +kernel)
theorem dX9_attempt_187 : decode cX9_attempt 187 = .ok (.invokevirtual 342, 3) := q_o182 (a := 1) (b := 86) (by decide +kernel)
theorem dX9_attempt_190 : decode cX9_attempt 190 = .ok (.iconst (-1), 1) := q_o2 (by decide +kernel)
theorem dX9_attempt_191 : decode cX9_attempt 191 = .ok (.ireturn, 1) := q_o172 (by decide +kernel)
theorem dX9_end_0 : decode cX9_end 0 = .ok (.iload_n 1, 1) := q_o27 (by decide +kernel)
theorem dX9_end_1 : decode cX9_end 1 = .ok (.ifCond .lt 14, 3) := q_o155 (a := 0) (b := 14) (by decide +kernel) rfl
theorem dX9_end_4 : decode cX9_end 4 = .ok (.iload_n 1, 1) := q_o27 (by decide +kernel)
theorem dX9_end_5 : decode cX9_end 5 = .ok (.aload_n 0, 1) := q_o42 (by decide +kernel)
theorem dX9_end_6 : decode cX9_end 6 = .ok (.getfield 12, 3) := q_o180 (a := 0) (b := 12) (by decide +kernel)
theorem dX9_end_9 : decode cX9_end 9 = .ok (.getfield 102, 3) := q_o180 (a := 0) (b := 102) (by decide +kernel)
theorem dX9_end_12 : decode cX9_end 12 = .ok (.if_icmp .le 5, 3) := q_o164 (a := 0) (b := 5) (by decide +kernel) rfl
theorem dX9_end_15 : decode cX9_end 15 = .ok (.iconst 0, 1) := q_o3 (by decide +kernel)
theorem dX9_end_16 : decode cX9_end 16 = .ok (.ireturn, 1) := q_o172 (by decide +kernel)
theorem dX9_end_17 : decode cX9_end 17 = .ok (.aload_n 0, 1) := q_o42 (by decide +kernel)
theorem dX9_end_18 : decode cX9_end 18 = .ok (.getfield 12, 3) := q_o180 (a := 0) (b := 12) (by decide +kernel)
theorem dX9_end_21 : decode cX9_end 21 = .ok (.iload_n 1, 1) := q_o27 (by decide +kernel)
theorem dX9_end_22 : decode cX9_end 22 = .ok (.putfield 102, 3) := q_o181 (a := 0) (b := 102) (by decide +kernel)
theorem dX9_end_25 : decode cX9_end 25 = .ok (.iconst 1, 1) := q_o4 (by decide +kernel)
theorem dX9_end_26 : decode cX9_end 26 = .ok (.ireturn, 1) := q_o172 (by decide +kernel)
theorem dX9_feed_0 : decode cX9_feed 0 = .ok (.iload_n 1, 1) := q_o27 (by decide +kernel)
theorem dX9_feed_1 : decode cX9_feed 1 = .ok (.invokestatic 98, 3) := q_o184 (a := 0) (b := 98) (by decide +kernel)
theorem dX9_feed_4 : decode cX9_feed 4 = .ok (.iload_n 2, 1) := q_o28 (by decide +kernel)
theorem dX9_feed_5 : decode cX9_feed 5 = .ok (.invokestatic 98, 3) := q_o184 (a := 0) (b := 98) (by decide +kernel)
theorem dX9_feed_8 : decode cX9_feed 8 = .ok (.iadd, 1) := q_o96 (by decide +kernel)
theorem dX9_feed_9 : decode cX9_feed 9 = .ok (.iload_n 3, 1) := q_o29 (by decide +kernel)
theorem dX9_feed_10 : decode cX9_feed 10 = .ok (.invokestatic 98, 3) := q_o184 (a := 0) (b := 98) (by decide +kernel)
theorem dX9_feed_13 : decode cX9_feed 13 = .ok (.iadd, 1) := q_o96 (by decide +kernel)
theorem dX9_feed_14 : decode cX9_feed 14 = .ok (.iload 4, 2) := q_o21 (a := 4) (by decide +kernel)
theorem dX9_feed_16 : decode cX9_feed 16 = .ok (.invokestatic 98, 3) := q_o184 (a := 0) (b := 98) (by decide +kernel)
theorem dX9_feed_19 : decode cX9_feed 19 = .ok (.iadd, 1) := q_o96 (by decide +kernel)
theorem dX9_feed_20 : decode cX9_feed 20 = .ok (.iload 5, 2) := q_o21 (a := 5) (by decide +kernel)
theorem dX9_feed_22 : decode cX9_feed 22 = .ok (.invokestatic 98, 3) := q_o184 (a := 0) (b := 98) (by decide +kernel)
theorem dX9_feed_25 : decode cX9_feed 25 = .ok (.iadd, 1) := q_o96 (by decide +kernel)
theorem dX9_feed_26 : decode cX9_feed 26 = .ok (.istore 6, 2) := q_o54 (a := 6) (by decide +kernel)
theorem dX9_feed_28 : decode cX9_feed 28 = .ok (.aload_n 0, 1) := q_o42 (by decide +kernel)
theorem dX9_feed_29 : decode cX9_feed 29 = .ok (.getfield 12, 3) := q_o180 (a := 0) (b := 12) (by decide +kernel)
theorem dX9_feed_32 : decode cX9_feed 32 = .ok (.getfield 102, 3) := q_o180 (a := 0) (b := 102) (by decide +kernel)
theorem dX9_feed_35 : decode cX9_feed 35 = .ok (.iload 6, 2) := q_o21 (a := 6) (by decide +kernel)
theorem dX9_feed_37 : decode cX9_feed 37 = .ok (.iadd, 1) := q_o96 (by decide +kernel)
theorem dX9_feed_38 : decode cX9_feed 38 = .ok (.sipush 240, 3) := q_o17 (a := 0) (b := 240) (by decide +kernel) rfl
theorem dX9_feed_41 : decode cX9_feed 41 = .ok (.if_icmp .le 5, 3) := q_o164 (a := 0) (b := 5) (by decide +kernel) rfl
theorem dX9_feed_44 : decode cX9_feed 44 = .ok (.iconst (-1), 1) := q_o2 (by decide +kernel)
theorem dX9_feed_45 : decode cX9_feed 45 = .ok (.ireturn, 1) := q_o172 (by decide +kernel)
theorem dX9_feed_46 : decode cX9_feed 46 = .ok (.aload_n 0, 1) := q_o42 (by decide +kernel)
theorem dX9_feed_47 : decode cX9_feed 47 = .ok (.getfield 12, 3) := q_o180 (a := 0) (b := 12) (by decide +kernel)
theorem dX9_feed_50 : decode cX9_feed 50 = .ok (.iload_n 1, 1) := q_o27 (by decide +kernel)
theorem dX9_feed_51 : decode cX9_feed 51 = .ok (.invokevirtual 106, 3) := q_o182 (a := 0) (b := 106) (by decide +kernel)
theorem dX9_feed_54 : decode cX9_feed 54 = .ok (.aload_n 0, 1) := q_o42 (by decide +kernel)
theorem dX9_feed_55 : decode cX9_feed 55 = .ok (.getfield 12, 3) := q_o180 (a := 0) (b := 12) (by decide +kernel)
theorem dX9_feed_58 : decode cX9_feed 58 = .ok (.iload_n 2, 1) := q_o28 (by decide +kernel)
theorem dX9_feed_59 : decode cX9_feed 59 = .ok (.invokevirtual 106, 3) := q_o182 (a := 0) (b := 106) (by decide +kernel)
theorem dX9_feed_62 : decode cX9_feed 62 = .ok (.aload_n 0, 1) := q_o42 (by decide +kernel)
theorem dX9_feed_63 : decode cX9_feed 63 = .ok (.getfield 12, 3) := q_o180 (a := 0) (b := 12) (by decide +kernel)
theorem dX9_feed_66 : decode cX9_feed 66 = .ok (.iload_n 3, 1) := q_o29 (by decide +kernel)
theorem dX9_feed_67 : decode cX9_feed 67 = .ok (.invokevirtual 106, 3) := q_o182 (a := 0) (b := 106) (by decide +kernel)
theorem dX9_feed_70 : decode cX9_feed 70 = .ok (.aload_n 0, 1) := q_o42 (by decide +kernel)
theorem dX9_feed_71 : decode cX9_feed 71 = .ok (.getfield 12, 3) := q_o180 (a := 0) (b := 12) (by decide +kernel)
theorem dX9_feed_74 : decode cX9_feed 74 = .ok (.iload 4, 2) := q_o21 (a := 4) (by decide +kernel)
theorem dX9_feed_76 : decode cX9_feed 76 = .ok (.invokevirtual 106, 3) := q_o182 (a := 0) (b := 106) (by decide +kernel)
theorem dX9_feed_79 : decode cX9_feed 79 = .ok (.aload_n 0, 1) := q_o42 (by decide +kernel)
theorem dX9_feed_80 : decode cX9_feed 80 = .ok (.getfield 12, 3) := q_o180 (a := 0) (b := 12) (by decide +kernel)
theorem dX9_feed_83 : decode cX9_feed 83 = .ok (.iload 5, 2) := q_o21 (a := 5) (by decide +kernel)
theorem dX9_feed_85 : decode cX9_feed 85 = .ok (.invokevirtual 106, 3) := q_o182 (a := 0) (b := 106) (by decide +kernel)
theorem dX9_feed_88 : decode cX9_feed 88 = .ok (.aload_n 0, 1) := q_o42 (by decide +kernel)
theorem dX9_feed_89 : decode cX9_feed 89 = .ok (.getfield 12, 3) := q_o180 (a := 0) (b := 12) (by decide +kernel)
theorem dX9_feed_92 : decode cX9_feed 92 = .ok (.getfield 102, 3) := q_o180 (a := 0) (b := 102) (by decide +kernel)
theorem dX9_feed_95 : decode cX9_feed 95 = .ok (.ireturn, 1) := q_o172 (by decide +kernel)
theorem dX9_helper_0 : decode cX9_helper 0 = .ok (.aload_n 0, 1) := q_o42 (by decide +kernel)
theorem dX9_helper_1 : decode cX9_helper 1 = .ok (.getfield 32, 3) := q_o180 (a := 0) (b := 32) (by decide +kernel)
theorem dX9_helper_4 : decode cX9_helper 4 = .ok (.iload_n 1, 1) := q_o27 (by decide +kernel)
theorem dX9_helper_5 : decode cX9_helper 5 = .ok (.invokevirtual 153, 3) := q_o182 (a := 0) (b := 153) (by decide +kernel)
theorem dX9_helper_8 : decode cX9_helper 8 = .ok (.ifCond .eq 32, 3) := q_o153 (a := 0) (b := 32) (by decide +kernel) rfl
theorem dX9_helper_11 : decode cX9_helper 11 = .ok (.aload_n 0, 1) := q_o42 (by decide +kernel)
theorem dX9_helper_12 : decode cX9_helper 12 = .ok (.getfield 47, 3) := q_o180 (a := 0) (b := 47) (by decide +kernel)
theorem dX9_helper_15 : decode cX9_helper 15 = .ok (.iload_n 1, 1) := q_o27 (by decide +kernel)
theorem dX9_helper_16 : decode cX9_helper 16 = .ok (.bipush 6, 2) := q_o16 (a := 6) (by decide +kernel) rfl
theorem dX9_helper_18 : decode cX9_helper 18 = .ok (.invokevirtual 198, 3) := q_o182 (a := 0) (b := 198) (by decide +kernel)
theorem dX9_helper_21 : decode cX9_helper 21 = .ok (.ifCond .eq 19, 3) := q_o153 (a := 0) (b := 19) (by decide +kernel) rfl
theorem dX9_helper_24 : decode cX9_helper 24 = .ok (.aload_n 0, 1) := q_o42 (by decide +kernel)
theorem dX9_helper_25 : decode cX9_helper 25 = .ok (.getfield 47, 3) := q_o180 (a := 0) (b := 47) (by decide +kernel)
theorem dX9_helper_28 : decode cX9_helper 28 = .ok (.getfield 157, 3) := q_o180 (a := 0) (b := 157) (by decide +kernel)
theorem dX9_helper_31 : decode cX9_helper 31 = .ok (.bipush 48, 2) := q_o16 (a := 48) (by decide +kernel) rfl
theorem dX9_helper_33 : decode cX9_helper 33 = .ok (.iload_n 1, 1) := q_o27 (by decide +kernel)
theorem dX9_helper_34 : decode cX9_helper 34 = .ok (.iadd, 1) := q_o96 (by decide +kernel)
theorem dX9_helper_35 : decode cX9_helper 35 = .ok (.iaload, 1) := q_o46 (by decide +kernel)
theorem dX9_helper_36 : decode cX9_helper 36 = .ok (.iconst 2, 1) := q_o5 (by decide +kernel)
theorem dX9_helper_37 : decode cX9_helper 37 = .ok (.if_icmp .lt 5, 3) := q_o161 (a := 0) (b := 5) (by decide +kernel) rfl
theorem dX9_helper_40 : decode cX9_helper 40 = .ok (.iconst (-1), 1) := q_o2 (by decide +kernel)
theorem dX9_helper_41 : decode cX9_helper 41 = .ok (.ireturn, 1) := q_o172 (by decide +kernel)
theorem dX9_helper_42 : decode cX9_helper 42 = .ok (.aload_n 0, 1) := q_o42 (by decide +kernel)
theorem dX9_helper_43 : decode cX9_helper 43 = .ok (.getfield 47, 3) := q_o180 (a := 0) (b := 47) (by decide +kernel)
theorem dX9_helper_46 : decode cX9_helper 46 = .ok (.iload_n 1, 1) := q_o27 (by decide +kernel)
theorem dX9_helper_47 : decode cX9_helper 47 = .ok (.invokevirtual 224, 3) := q_o182 (a := 0) (b := 224) (by decide +kernel)
theorem dX9_helper_50 : decode cX9_helper 50 = .ok (.ireturn, 1) := q_o172 (by decide +kernel)
theorem dX9_hub_0 : decode cX9_hub 0 = .ok (.aload_n 0, 1) := q_o42 (by decide +kernel)
theorem dX9_hub_1 : decode cX9_hub 1 = .ok (.getfield 32, 3) := q_o180 (a := 0) (b := 32) (by decide +kernel)
theorem dX9_hub_4 : decode cX9_hub 4 = .ok (.iload_n 1, 1) := q_o27 (by decide +kernel)
theorem dX9_hub_5 : decode cX9_hub 5 = .ok (.invokevirtual 182, 3) := q_o182 (a := 0) (b := 182) (by decide +kernel)
theorem dX9_hub_8 : decode cX9_hub 8 = .ok (.ifCond .ne 6, 3) := q_o154 (a := 0) (b := 6) (by decide +kernel) rfl
theorem dX9_hub_11 : decode cX9_hub 11 = .ok (.ldc 185, 2) := by decide +kernel
theorem dX9_hub_13 : decode cX9_hub 13 = .ok (.ireturn, 1) := q_o172 (by decide +kernel)
theorem dX9_hub_14 : decode cX9_hub 14 = .ok (.iload_n 2, 1) := q_o28 (by decide +kernel)
theorem dX9_hub_15 : decode cX9_hub 15 = .ok (.tableswitch 132 0 5 #[37, 46, 55, 64, 102, 111], 37) := by decide +kernel
theorem dX9_hub_52 : decode cX9_hub 52 = .ok (.aload_n 0, 1) := q_o42 (by decide +kernel)
theorem dX9_hub_53 : decode cX9_hub 53 = .ok (.getfield 47, 3) := q_o180 (a := 0) (b := 47) (by decide +kernel)
theorem dX9_hub_56 : decode cX9_hub 56 = .ok (.iload_n 1, 1) := q_o27 (by decide +kernel)
theorem dX9_hub_57 : decode cX9_hub 57 = .ok (.invokevirtual 186, 3) := q_o182 (a := 0) (b := 186) (by decide +kernel)
theorem dX9_hub_60 : decode cX9_hub 60 = .ok (.ireturn, 1) := q_o172 (by decide +kernel)
theorem dX9_hub_61 : decode cX9_hub 61 = .ok (.aload_n 0, 1) := q_o42 (by decide +kernel)
theorem dX9_hub_62 : decode cX9_hub 62 = .ok (.getfield 47, 3) := q_o180 (a := 0) (b := 47) (by decide +kernel)
theorem dX9_hub_65 : decode cX9_hub 65 = .ok (.iload_n 1, 1) := q_o27 (by decide +kernel)
theorem dX9_hub_66 : decode cX9_hub 66 = .ok (.invokevirtual 189, 3) := q_o182 (a := 0) (b := 189) (by decide +kernel)
theorem dX9_hub_69 : decode cX9_hub 69 = .ok (.ireturn, 1) := q_o172 (by decide +kernel)
theorem dX9_hub_70 : decode cX9_hub 70 = .ok (.aload_n 0, 1) := q_o42 (by decide +kernel)
theorem dX9_hub_71 : decode cX9_hub 71 = .ok (.getfield 47, 3) := q_o180 (a := 0) (b := 47) (by decide +kernel)
theorem dX9_hub_74 : decode cX9_hub 74 = .ok (.iload_n 1, 1) := q_o27 (by decide +kernel)
theorem dX9_hub_75 : decode cX9_hub 75 = .ok (.invokevirtual 192, 3) := q_o182 (a := 0) (b := 192) (by decide +kernel)
theorem dX9_hub_78 : decode cX9_hub 78 = .ok (.ireturn, 1) := q_o172 (by decide +kernel)
theorem dX9_hub_79 : decode cX9_hub 79 = .ok (.aload_n 0, 1) := q_o42 (by decide +kernel)
theorem dX9_hub_80 : decode cX9_hub 80 = .ok (.getfield 47, 3) := q_o180 (a := 0) (b := 47) (by decide +kernel)
theorem dX9_hub_83 : decode cX9_hub 83 = .ok (.iload_n 1, 1) := q_o27 (by decide +kernel)
theorem dX9_hub_84 : decode cX9_hub 84 = .ok (.invokevirtual 195, 3) := q_o182 (a := 0) (b := 195) (by decide +kernel)
theorem dX9_hub_87 : decode cX9_hub 87 = .ok (.ifCond .ne 15, 3) := q_o154 (a := 0) (b := 15) (by decide +kernel) rfl
theorem dX9_hub_90 : decode cX9_hub 90 = .ok (.aload_n 0, 1) := q_o42 (by decide +kernel)
theorem dX9_hub_91 : decode cX9_hub 91 = .ok (.getfield 47, 3) := q_o180 (a := 0) (b := 47) (by decide +kernel)
theorem dX9_hub_94 : decode cX9_hub 94 = .ok (.iload_n 1, 1) := q_o27 (by decide +kernel)
theorem dX9_hub_95 : decode cX9_hub 95 = .ok (.iconst 0, 1) := q_o3 (by decide +kernel)
theorem dX9_hub_96 : decode cX9_hub 96 = .ok (.invokevirtual 198, 3) := q_o182 (a := 0) (b := 198) (by decide +kernel)
theorem dX9_hub_99 : decode cX9_hub 99 = .ok (.ifCond .eq 8, 3) := q_o153 (a := 0) (b := 8) (by decide +kernel) rfl
theorem dX9_hub_102 : decode cX9_hub 102 = .ok (.ldc 185, 2) := by decide +kernel
theorem dX9_hub_104 : decode cX9_hub 104 = .ok (.goto 12, 3) := q_o167 (a := 0) (b := 12) (by decide +kernel) rfl
theorem dX9_hub_107 : decode cX9_hub 107 = .ok (.aload_n 0, 1) := q_o42 (by decide +kernel)
theorem dX9_hub_108 : decode cX9_hub 108 = .ok (.getfield 47, 3) := q_o180 (a := 0) (b := 47) (by decide +kernel)
theorem dX9_hub_111 : decode cX9_hub 111 = .ok (.iload_n 1, 1) := q_o27 (by decide +kernel)
theorem dX9_hub_112 : decode cX9_hub 112 = .ok (.iconst (-1), 1) := q_o2 (by decide +kernel)
theorem dX9_hub_113 : decode cX9_hub 113 = .ok (.invokevirtual 201, 3) := q_o182 (a := 0) (b := 201) (by decide +kernel)
theorem dX9_hub_116 : decode cX9_hub 116 = .ok (.ireturn, 1) := q_o172 (by decide +kernel)
theorem dX9_hub_117 : decode cX9_hub 117 = .ok (.aload_n 0, 1) := q_o42 (by decide +kernel)
theorem dX9_hub_118 : decode cX9_hub 118 = .ok (.getfield 47, 3) := q_o180 (a := 0) (b := 47) (by decide +kernel)
theorem dX9_hub_121 : decode cX9_hub 121 = .ok (.iload_n 1, 1) := q_o27 (by decide +kernel)
theorem dX9_hub_122 : decode cX9_hub 122 = .ok (.invokevirtual 204, 3) := q_o182 (a := 0) (b := 204) (by decide +kernel)
theorem dX9_hub_125 : decode cX9_hub 125 = .ok (.ireturn, 1) := q_o172 (by decide +kernel)
theorem dX9_hub_126 : decode cX9_hub 126 = .ok (.aload_n 0, 1) := q_o42 (by decide +kernel)
theorem dX9_hub_127 : decode cX9_hub 127 = .ok (.getfield 32, 3) := q_o180 (a := 0) (b := 32) (by decide +kernel)
theorem dX9_hub_130 : decode cX9_hub 130 = .ok (.iload_n 1, 1) := q_o27 (by decide +kernel)
theorem dX9_hub_131 : decode cX9_hub 131 = .ok (.invokevirtual 207, 3) := q_o182 (a := 0) (b := 207) (by decide +kernel)
theorem dX9_hub_134 : decode cX9_hub 134 = .ok (.aload_n 0, 1) := q_o42 (by decide +kernel)
theorem dX9_hub_135 : decode cX9_hub 135 = .ok (.getfield 47, 3) := q_o180 (a := 0) (b := 47) (by decide +kernel)
theorem dX9_hub_138 : decode cX9_hub 138 = .ok (.iload_n 1, 1) := q_o27 (by decide +kernel)
theorem dX9_hub_139 : decode cX9_hub 139 = .ok (.invokevirtual 189, 3) := q_o182 (a := 0) (b := 189) (by decide +kernel)
theorem dX9_hub_142 : decode cX9_hub 142 = .ok (.invokestatic 210, 3) := q_o184 (a := 0) (b := 210) (by decide +kernel)
theorem dX9_hub_145 : decode cX9_hub 145 = .ok (.isub, 1) := q_o100 (by decide +kernel)
theorem dX9_hub_146 : decode cX9_hub 146 = .ok (.ireturn, 1) := q_o172 (by decide +kernel)
theorem dX9_hub_147 : decode cX9_hub 147 = .ok (.ldc 185, 2) := by decide +kernel
theorem dX9_hub_149 : decode cX9_hub 149 = .ok (.ireturn, 1) := q_o172 (by decide +kernel)
theorem dX9_octet_0 : decode cX9_octet 0 = .ok (.aload_n 0, 1) := q_o42 (by decide +kernel)
theorem dX9_octet_1 : decode cX9_octet 1 = .ok (.getfield 32, 3) := q_o180 (a := 0) (b := 32) (by decide +kernel)
theorem dX9_octet_4 : decode cX9_octet 4 = .ok (.iload_n 1, 1) := q_o27 (by decide +kernel)
theorem dX9_octet_5 : decode cX9_octet 5 = .ok (.invokevirtual 153, 3) := q_o182 (a := 0) (b := 153) (by decide +kernel)
theorem dX9_octet_8 : decode cX9_octet 8 = .ok (.ifCond .eq 31, 3) := q_o153 (a := 0) (b := 31) (by decide +kernel) rfl
theorem dX9_octet_11 : decode cX9_octet 11 = .ok (.iload_n 2, 1) := q_o28 (by decide +kernel)
theorem dX9_octet_12 : decode cX9_octet 12 = .ok (.ifCond .lt 27, 3) := q_o155 (a := 0) (b := 27) (by decide +kernel) rfl
theorem dX9_octet_15 : decode cX9_octet 15 = .ok (.iload_n 2, 1) := q_o28 (by decide +kernel)
theorem dX9_octet_16 : decode cX9_octet 16 = .ok (.aload_n 0, 1) := q_o42 (by decide +kernel)
theorem dX9_octet_17 : decode cX9_octet 17 = .ok (.getfield 32, 3) := q_o180 (a := 0) (b := 32) (by decide +kernel)
theorem dX9_octet_20 : decode cX9_octet 20 = .ok (.iload_n 1, 1) := q_o27 (by decide +kernel)
theorem dX9_octet_21 : decode cX9_octet 21 = .ok (.invokevirtual 215, 3) := q_o182 (a := 0) (b := 215) (by decide +kernel)
theorem dX9_octet_24 : decode cX9_octet 24 = .ok (.if_icmp .ge 15, 3) := q_o162 (a := 0) (b := 15) (by decide +kernel) rfl
theorem dX9_octet_27 : decode cX9_octet 27 = .ok (.aload_n 0, 1) := q_o42 (by decide +kernel)
theorem dX9_octet_28 : decode cX9_octet 28 = .ok (.getfield 47, 3) := q_o180 (a := 0) (b := 47) (by decide +kernel)
theorem dX9_octet_31 : decode cX9_octet 31 = .ok (.iload_n 1, 1) := q_o27 (by decide +kernel)
theorem dX9_octet_32 : decode cX9_octet 32 = .ok (.iload_n 2, 1) := q_o28 (by decide +kernel)
theorem dX9_octet_33 : decode cX9_octet 33 = .ok (.invokevirtual 218, 3) := q_o182 (a := 0) (b := 218) (by decide +kernel)
theorem dX9_octet_36 : decode cX9_octet 36 = .ok (.goto 4, 3) := q_o167 (a := 0) (b := 4) (by decide +kernel) rfl
theorem dX9_octet_39 : decode cX9_octet 39 = .ok (.iconst (-1), 1) := q_o2 (by decide +kernel)
theorem dX9_octet_40 : decode cX9_octet 40 = .ok (.ireturn, 1) := q_o172 (by decide +kernel)
theorem dX9_port_0 : decode cX9_port 0 = .ok (.aload_n 0, 1) := q_o42 (by decide +kernel)
theorem dX9_port_1 : decode cX9_port 1 = .ok (.getfield 32, 3) := q_o180 (a := 0) (b := 32) (by decide +kernel)
theorem dX9_port_4 : decode cX9_port 4 = .ok (.iload_n 1, 1) := q_o27 (by decide +kernel)
theorem dX9_port_5 : decode cX9_port 5 = .ok (.iload_n 2, 1) := q_o28 (by decide +kernel)
theorem dX9_port_6 : decode cX9_port 6 = .ok (.invokevirtual 174, 3) := q_o182 (a := 0) (b := 174) (by decide +kernel)
theorem dX9_port_9 : decode cX9_port 9 = .ok (.ifCond .eq 15, 3) := q_o153 (a := 0) (b := 15) (by decide +kernel) rfl
theorem dX9_port_12 : decode cX9_port 12 = .ok (.aload_n 0, 1) := q_o42 (by decide +kernel)
theorem dX9_port_13 : decode cX9_port 13 = .ok (.getfield 47, 3) := q_o180 (a := 0) (b := 47) (by decide +kernel)
theorem dX9_port_16 : decode cX9_port 16 = .ok (.iload_n 1, 1) := q_o27 (by decide +kernel)
theorem dX9_port_17 : decode cX9_port 17 = .ok (.iload_n 2, 1) := q_o28 (by decide +kernel)
theorem dX9_port_18 : decode cX9_port 18 = .ok (.invokevirtual 178, 3) := q_o182 (a := 0) (b := 178) (by decide +kernel)
theorem dX9_port_21 : decode cX9_port 21 = .ok (.goto 4, 3) := q_o167 (a := 0) (b := 4) (by decide +kernel) rfl
theorem dX9_port_24 : decode cX9_port 24 = .ok (.iconst (-1), 1) := q_o2 (by decide +kernel)
theorem dX9_port_25 : decode cX9_port 25 = .ok (.ireturn, 1) := q_o172 (by decide +kernel)
theorem dX9_rule_0 : decode cX9_rule 0 = .ok (.aload_n 0, 1) := q_o42 (by decide +kernel)
theorem dX9_rule_1 : decode cX9_rule 1 = .ok (.getfield 32, 3) := q_o180 (a := 0) (b := 32) (by decide +kernel)
theorem dX9_rule_4 : decode cX9_rule 4 = .ok (.invokevirtual 146, 3) := q_o182 (a := 0) (b := 146) (by decide +kernel)
theorem dX9_rule_7 : decode cX9_rule 7 = .ok (.ifCond .eq 25, 3) := q_o153 (a := 0) (b := 25) (by decide +kernel) rfl
theorem dX9_rule_10 : decode cX9_rule 10 = .ok (.iload_n 1, 1) := q_o27 (by decide +kernel)
theorem dX9_rule_11 : decode cX9_rule 11 = .ok (.ifCond .lt 21, 3) := q_o155 (a := 0) (b := 21) (by decide +kernel) rfl
theorem dX9_rule_14 : decode cX9_rule 14 = .ok (.iload_n 1, 1) := q_o27 (by decide +kernel)
theorem dX9_rule_15 : decode cX9_rule 15 = .ok (.bipush 8, 2) := q_o16 (a := 8) (by decide +kernel) rfl
theorem dX9_rule_17 : decode cX9_rule 17 = .ok (.if_icmp .ge 15, 3) := q_o162 (a := 0) (b := 15) (by decide +kernel) rfl
theorem dX9_rule_20 : decode cX9_rule 20 = .ok (.aload_n 0, 1) := q_o42 (by decide +kernel)
theorem dX9_rule_21 : decode cX9_rule 21 = .ok (.getfield 32, 3) := q_o180 (a := 0) (b := 32) (by decide +kernel)
theorem dX9_rule_24 : decode cX9_rule 24 = .ok (.getfield 150, 3) := q_o180 (a := 0) (b := 150) (by decide +kernel)
theorem dX9_rule_27 : decode cX9_rule 27 = .ok (.iload_n 1, 1) := q_o27 (by decide +kernel)
theorem dX9_rule_28 : decode cX9_rule 28 = .ok (.iaload, 1) := q_o46 (by decide +kernel)
theorem dX9_rule_29 : decode cX9_rule 29 = .ok (.goto 4, 3) := q_o167 (a := 0) (b := 4) (by decide +kernel) rfl
theorem dX9_rule_32 : decode cX9_rule 32 = .ok (.iconst (-1), 1) := q_o2 (by decide +kernel)
theorem dX9_rule_33 : decode cX9_rule 33 = .ok (.ireturn, 1) := q_o172 (by decide +kernel)
theorem dX9_told_0 : decode cX9_told 0 = .ok (.aload_n 0, 1) := q_o42 (by decide +kernel)
theorem dX9_told_1 : decode cX9_told 1 = .ok (.getfield 32, 3) := q_o180 (a := 0) (b := 32) (by decide +kernel)
theorem dX9_told_4 : decode cX9_told 4 = .ok (.iload_n 1, 1) := q_o27 (by decide +kernel)
theorem dX9_told_5 : decode cX9_told 5 = .ok (.invokevirtual 153, 3) := q_o182 (a := 0) (b := 153) (by decide +kernel)
theorem dX9_told_8 : decode cX9_told 8 = .ok (.ifCond .eq 13, 3) := q_o153 (a := 0) (b := 13) (by decide +kernel) rfl
theorem dX9_told_11 : decode cX9_told 11 = .ok (.iload_n 2, 1) := q_o28 (by decide +kernel)
theorem dX9_told_12 : decode cX9_told 12 = .ok (.ifCond .lt 9, 3) := q_o155 (a := 0) (b := 9) (by decide +kernel) rfl
theorem dX9_told_15 : decode cX9_told 15 = .ok (.iload_n 2, 1) := q_o28 (by decide +kernel)
theorem dX9_told_16 : decode cX9_told 16 = .ok (.bipush 6, 2) := q_o16 (a := 6) (by decide +kernel) rfl
theorem dX9_told_18 : decode cX9_told 18 = .ok (.if_icmp .lt 5, 3) := q_o161 (a := 0) (b := 5) (by decide +kernel) rfl
theorem dX9_told_21 : decode cX9_told 21 = .ok (.iconst (-1), 1) := q_o2 (by decide +kernel)
theorem dX9_told_22 : decode cX9_told 22 = .ok (.ireturn, 1) := q_o172 (by decide +kernel)
theorem dX9_told_23 : decode cX9_told 23 = .ok (.iload_n 2, 1) := q_o28 (by decide +kernel)
theorem dX9_told_24 : decode cX9_told 24 = .ok (.iconst 5, 1) := q_o8 (by decide +kernel)
theorem dX9_told_25 : decode cX9_told 25 = .ok (.if_icmp .ne 18, 3) := q_o160 (a := 0) (b := 18) (by decide +kernel) rfl
theorem dX9_told_28 : decode cX9_told 28 = .ok (.aload_n 0, 1) := q_o42 (by decide +kernel)
theorem dX9_told_29 : decode cX9_told 29 = .ok (.getfield 47, 3) := q_o180 (a := 0) (b := 47) (by decide +kernel)
theorem dX9_told_32 : decode cX9_told 32 = .ok (.getfield 157, 3) := q_o180 (a := 0) (b := 157) (by decide +kernel)
theorem dX9_told_35 : decode cX9_told 35 = .ok (.bipush 80, 2) := q_o16 (a := 80) (by decide +kernel) rfl
theorem dX9_told_37 : decode cX9_told 37 = .ok (.iload_n 1, 1) := q_o27 (by decide +kernel)
theorem dX9_told_38 : decode cX9_told 38 = .ok (.iadd, 1) := q_o96 (by decide +kernel)
theorem dX9_told_39 : decode cX9_told 39 = .ok (.iaload, 1) := q_o46 (by decide +kernel)
theorem dX9_told_40 : decode cX9_told 40 = .ok (.goto 17, 3) := q_o167 (a := 0) (b := 17) (by decide +kernel) rfl
theorem dX9_told_43 : decode cX9_told 43 = .ok (.aload_n 0, 1) := q_o42 (by decide +kernel)
theorem dX9_told_44 : decode cX9_told 44 = .ok (.getfield 32, 3) := q_o180 (a := 0) (b := 32) (by decide +kernel)
theorem dX9_told_47 : decode cX9_told 47 = .ok (.getfield 160, 3) := q_o180 (a := 0) (b := 160) (by decide +kernel)
theorem dX9_told_50 : decode cX9_told 50 = .ok (.iload_n 2, 1) := q_o28 (by decide +kernel)
theorem dX9_told_51 : decode cX9_told 51 = .ok (.bipush 8, 2) := q_o16 (a := 8) (by decide +kernel) rfl
theorem dX9_told_53 : decode cX9_told 53 = .ok (.imul, 1) := q_o104 (by decide +kernel)
theorem dX9_told_54 : decode cX9_told 54 = .ok (.iload_n 1, 1) := q_o27 (by decide +kernel)
theorem dX9_told_55 : decode cX9_told 55 = .ok (.iadd, 1) := q_o96 (by decide +kernel)
theorem dX9_told_56 : decode cX9_told 56 = .ok (.iaload, 1) := q_o46 (by decide +kernel)
theorem dX9_told_57 : decode cX9_told 57 = .ok (.ireturn, 1) := q_o172 (by decide +kernel)
theorem hdS_yX8_bytesIn_1 : yX8_bytesIn.cls ≠ "java/lang/invoke/MethodHandle" ∧ yX8_bytesIn.cls ≠ "java/lang/invoke/VarHandle" ∧ (parseMethodDescriptor yX8_bytesIn.desc).map (fun d => d.parameters.length) = some 1 := by decide +kernel
theorem hdV_yX0_barOf_4 : yX0_barOf.cls = RX0 ∧ yX0_barOf.cls ≠ "java/lang/invoke/MethodHandle" ∧ yX0_barOf.cls ≠ "java/lang/invoke/VarHandle" ∧ (parseMethodDescriptor yX0_barOf.desc).map (fun d => d.parameters.length) = some 4 := by decide +kernel
theorem hdV_yX0_pullOut_1 : yX0_pullOut.cls = RX0 ∧ yX0_pullOut.cls ≠ "java/lang/invoke/MethodHandle" ∧ yX0_pullOut.cls ≠ "java/lang/invoke/VarHandle" ∧ (parseMethodDescriptor yX0_pullOut.desc).map (fun d => d.parameters.length) = some 1 := by decide +kernel
theorem hdV_yX0_queueAfresh_1 : yX0_queueAfresh.cls = RX0 ∧ yX0_queueAfresh.cls ≠ "java/lang/invoke/MethodHandle" ∧ yX0_queueAfresh.cls ≠ "java/lang/invoke/VarHandle" ∧ (parseMethodDescriptor yX0_queueAfresh.desc).map (fun d => d.parameters.length) = some 1 := by decide +kernel
theorem hdV_yX0_rightAt_1 : yX0_rightAt.cls = RX0 ∧ yX0_rightAt.cls ≠ "java/lang/invoke/MethodHandle" ∧ yX0_rightAt.cls ≠ "java/lang/invoke/VarHandle" ∧ (parseMethodDescriptor yX0_rightAt.desc).map (fun d => d.parameters.length) = some 1 := by decide +kernel
theorem hdV_yX1_write_3 : yX1_write.cls = RX1 ∧ yX1_write.cls ≠ "java/lang/invoke/MethodHandle" ∧ yX1_write.cls ≠ "java/lang/invoke/VarHandle" ∧ (parseMethodDescriptor yX1_write.desc).map (fun d => d.parameters.length) = some 3 := by decide +kernel
theorem hdV_yX4_keep_1 : yX4_keep.cls = RX4 ∧ yX4_keep.cls ≠ "java/lang/invoke/MethodHandle" ∧ yX4_keep.cls ≠ "java/lang/invoke/VarHandle" ∧ (parseMethodDescriptor yX4_keep.desc).map (fun d => d.parameters.length) = some 1 := by decide +kernel
theorem hdV_yX8_add_1 : yX8_add.cls = RX8 ∧ yX8_add.cls ≠ "java/lang/invoke/MethodHandle" ∧ yX8_add.cls ≠ "java/lang/invoke/VarHandle" ∧ (parseMethodDescriptor yX8_add.desc).map (fun d => d.parameters.length) = some 1 := by decide +kernel
def FL_X8_bytesIn_5 (z : Int32) : Nat → Int32 → Int32 → Option (Int32)
  | 0, _, _ => none
  | n + 1, x1_5, x2_5 => (if x2_5 < 0 then some (x1_5) else ((some ((((z : Int32).toUInt32 >>> ((x2_5 : Int32).toUInt32 &&& Int32.toUInt32 31)).toInt32) &&& 255)).bind fun v_2 => (if v_2 = 0 then (FL_X8_bytesIn_5 z n (x1_5 + 0) (x2_5 + (-8))) else (FL_X8_bytesIn_5 z n (x1_5 + 1) (x2_5 + (-8))))))

def F_X8_bytesIn (z : Int32) : Option (Int32) := (FL_X8_bytesIn_5 z 1000 0 24)
set_option maxHeartbeats 4000000 in
set_option maxRecDepth 100000 in
theorem c_X8_bytesIn (l : Launch) (dC : Nat → ClassId) (dI : Nat → Nat → Nat) (z : Int32) (o : Int32) (hG : F_X8_bytesIn z = some o) : Met l yX8_bytesIn (.code yX8_bytesIn cX8_bytesIn 3 (some .int) :: wA) ({ frames := 0, cells := 0, slots := 0, locals := 0 }) (va_Pc [.int z] (q_R (dC, dI) [] [])) (q_i o) 0 0 (fun _ => False) := by
  refine Met.ofW (cc := cX8_bytesIn) (maxL := 3) (ret := (some .int)) (by decide) rfl ?_
  intro p e s m args below meth c s₁ B hml hv
  obtain ⟨rfl, hP, hK⟩ := hv
  have hx := B.exec
  have hb := B.bytes
  have hr := B.returns
  have hts := atoms_spec (ws := .code yX8_bytesIn cX8_bytesIn 3 (some .int) :: wA) B.pre
  have hown : s.vm.findClass RX8 = some m.cls := findClass_of_methodNamed B.named
  have hlocks := B.notSynchronized
  have hS : va_S (fun _ => False) s.heap s.heap [] := va_S.rf
  have hl := lv_entry ([.int z]) (n := 3) (Nat.le_of_ble_eq_true rfl)
  rw [lg_entry_eq]
  generalize (lg_sl ([.int z]) ++ List.replicate (3 - (lg_sl ([.int z])).length) Slot.unset).toArray = ls at hl ⊢
  have hl : lv_has ls 3 [(0, .int z)] := hl
  unfold F_X8_bytesIn at hG
  refine lv_iconst (v := 0) hx hb dX8_bytesIn_0 (by decide) ?_
  refine lv_istore_n (lv' := [(1, .int 0), (0, .int z)]) hx hb dX8_bytesIn_1 rfl hl (by decide) rfl (fun ls hl => ?_)
  refine lv_bipush (v := 24) hx hb dX8_bytesIn_2 (by decide) ?_
  refine lv_istore_n (lv' := [(2, .int 24), (1, .int 0), (0, .int z)]) hx hb dX8_bytesIn_4 rfl hl (by decide) rfl (fun ls hl => ?_)
  have L_5 : ∀ (n_5 : Nat) (x1_5 : Int32) (x2_5 : Int32) (H : Heap) (locs : List Loc) (ls : Array Slot), FL_X8_bytesIn_5 z n_5 x1_5 x2_5 = some o → va_P (dC, dI) vwCl [] H → va_S (fun _ => False) s.heap H locs → lv_has ls 3 [(2, .int x2_5), (1, .int x1_5), (0, .int z)] → W p l e (headSpec (.code yX8_bytesIn cX8_bytesIn 3 (some .int) :: wA) ({ frames := 0, cells := 0, slots := 0, locals := 0 })).room s m #[.int z] below meth c H locs 0 0 (MQ below (q_i o) #[.int z] s 0 0 (fun _ => False)) (F0 m 5 ls []) := by
    intro n_5
    induction n_5 with
    | zero =>
      intro x1_5 x2_5 H locs ls hG
      exact q_no hG
    | succ n_5 ih_5 =>
      intro x1_5 x2_5 H locs ls hG hP hS hl
      unfold FL_X8_bytesIn_5 at hG
      refine lv_iload_n hx hb dX8_bytesIn_5 rfl (lv_at hl 0 rfl) ?_
      refine lv_if_lt (tgt := 33) hx hb dX8_bytesIn_6 (by decide) (fun c_1 => ?_) (fun c_1 => ?_)
      · have hG := q_ifp c_1 hG
        refine lv_iload_n hx hb dX8_bytesIn_33 rfl (lv_at hl 1 rfl) ?_
        obtain rfl := Option.some.inj hG
        exact W.iret (v := x1_5) hx hb hr (fun t ht hW => ⟨⟨x1_5, (), rfl, rfl, trivial⟩, hS.F ht⟩) hS.2.2 dX8_bytesIn_34
      · have hG := q_ifn c_1 hG
        refine lv_iload_n hx hb dX8_bytesIn_9 rfl (lv_at hl 1 rfl) ?_
        refine lv_iload_n hx hb dX8_bytesIn_10 rfl (lv_at hl 2 rfl) ?_
        refine lv_iload_n hx hb dX8_bytesIn_11 rfl (lv_at hl 0 rfl) ?_
        refine lv_iushr hx hb dX8_bytesIn_12 rfl ?_
        refine lv_sipush (v := 255) hx hb dX8_bytesIn_13 (by decide) ?_
        refine lv_iand hx hb dX8_bytesIn_16 ?_
        obtain ⟨v_2, w_3, hG⟩ := q_bi hG
        refine q_top (y := v_2) (Option.some.inj w_3) ?_
        refine lv_if_ne (tgt := 24) hx hb dX8_bytesIn_17 (by decide) (fun c_4 => ?_) (fun c_4 => ?_)
        · have hG := q_ifn c_4 hG
          refine lv_iconst (v := 1) hx hb dX8_bytesIn_24 (by decide) ?_
          refine lv_iadd hx hb dX8_bytesIn_25 ?_
          refine lv_istore_n (lv' := [(1, .int (x1_5 + 1)), (2, .int x2_5), (0, .int z)]) hx hb dX8_bytesIn_26 rfl hl (by decide) rfl (fun ls hl => ?_)
          refine lv_iinc (v := (x2_5 + (-8))) (lv' := [(2, .int (x2_5 + (-8))), (1, .int (x1_5 + 1)), (0, .int z)]) hx hb dX8_bytesIn_27 hl (k := 1) rfl (rfl) (by decide) rfl (fun ls hl => ?_)
          refine lv_goto (tgt := 5) hx hb dX8_bytesIn_30 (by decide) ?_
          exact ih_5 (x1_5 + 1) (x2_5 + (-8)) H locs ls hG hP hS (lv_sub hl [0, 1, 2] rfl)
        · have hG := q_ifp c_4 hG
          refine lv_iconst (v := 0) hx hb dX8_bytesIn_20 (by decide) ?_
          refine lv_goto (tgt := 25) hx hb dX8_bytesIn_21 (by decide) ?_
          refine lv_iadd hx hb dX8_bytesIn_25 ?_
          refine lv_istore_n (lv' := [(1, .int (x1_5 + 0)), (2, .int x2_5), (0, .int z)]) hx hb dX8_bytesIn_26 rfl hl (by decide) rfl (fun ls hl => ?_)
          refine lv_iinc (v := (x2_5 + (-8))) (lv' := [(2, .int (x2_5 + (-8))), (1, .int (x1_5 + 0)), (0, .int z)]) hx hb dX8_bytesIn_27 hl (k := 1) rfl (rfl) (by decide) rfl (fun ls hl => ?_)
          refine lv_goto (tgt := 5) hx hb dX8_bytesIn_30 (by decide) ?_
          exact ih_5 (x1_5 + 0) (x2_5 + (-8)) H locs ls hG hP hS (lv_sub hl [0, 1, 2] rfl)
  exact L_5 1000 0 24 s.heap [] ls hG hP hS hl

def FL_X8_add_3 (tb : Nat → Int32) (tl : Int32) (z : Int32) : Nat → Int32 → (Nat → Int32) → (Int32) → Option ((Nat → Int32) × Int32)
  | 0, _, _, _ => none
  | n + 1, x2_3, tb_c, tl_c => (if x2_3 < 0 then some (tb_c, tl_c) else ((some ((((z : Int32).toUInt32 >>> ((x2_3 : Int32).toUInt32 &&& Int32.toUInt32 31)).toInt32) &&& 255)).bind fun v_2 => (if v_2 = 0 then (FL_X8_add_3 tb tl z n (x2_3 + (-8)) tb_c tl_c) else (if 240 ≤ tl_c then (FL_X8_add_3 tb tl z n (x2_3 + (-8)) tb_c tl_c) else (if tl_c < 0 ∨ 240 ≤ (tl_c).toNatClampNeg then none else (FL_X8_add_3 tb tl z n (x2_3 + (-8)) (upd tb_c (tl_c).toNatClampNeg (vp_nar .char (((v_2 : Int32).toUInt32 % 65536).toInt32))) (tl_c + 1)))))))

def F_X8_add (tb : Nat → Int32) (tl : Int32) (z : Int32) : Option ((Nat → Int32) × Int32) := (FL_X8_add_3 tb tl z 1000 24 tb tl)
set_option maxHeartbeats 4000000 in
set_option maxRecDepth 100000 in
theorem c_X8_add (l : Launch) (dC : Nat → ClassId) (dI : Nat → Nat → Nat) (tp : Nat) (by_ : Nat) (cb : ClassId) (tb : Nat → Int32) (tl : Int32) (z : Int32) (A : Nat → Prop) (o : (Nat → Int32) × Int32) (hG : F_X8_add tb tl z = some o) : Met l yX8_add (.code yX8_add cX8_add 4 none :: wA) ({ frames := 0, cells := 0, slots := 0, locals := 0 }) (va_Pc [.ref tp, .int z] (q_W (dC, dI) A [(tp, .inr (8, [.ref by_, .int tl])), (by_, .inl (cb, 240, .inl tb))] [(cb, .char)])) (va_Qv (fun _ : Unit => True) (fun (_ : Unit) t => q_B (dC, dI) A [(tp, .inr (8, [.ref by_, .int (o.2)])), (by_, .inl (cb, 240, .inl (o.1)))] [(cb, .char)] t) A) 0 0 A := by
  refine Met.ofW (cc := cX8_add) (maxL := 4) (ret := none) (by decide) rfl ?_
  intro p e s m args below meth c s₁ B hml hv
  obtain ⟨rfl, hP, hK, hD, hA⟩ := hv
  have hx := B.exec
  have hb := B.bytes
  have hr := B.returns
  have hts := atoms_spec (ws := .code yX8_add cX8_add 4 none :: wA) B.pre
  have hown : s.vm.findClass RX8 = some m.cls := findClass_of_methodNamed B.named
  have hlocks := B.notSynchronized
  have hS : va_S A s.heap s.heap [] := va_S.rf
  have hl := lv_entry ([.ref tp, .int z]) (n := 4) (Nat.le_of_ble_eq_true rfl)
  rw [lg_entry_eq]
  generalize (lg_sl ([.ref tp, .int z]) ++ List.replicate (4 - (lg_sl ([.ref tp, .int z])).length) Slot.unset).toArray = ls at hl ⊢
  have hl : lv_has ls 4 [(0, .ref tp), (1, .int z)] := hl
  unfold F_X8_add at hG
  refine lv_bipush (v := 24) hx hb dX8_add_0 (by decide) ?_
  refine lv_istore_n (lv' := [(2, .int 24), (0, .ref tp), (1, .int z)]) hx hb dX8_add_2 rfl hl (by decide) rfl (fun ls hl => ?_)
  have L_3 : ∀ (n_3 : Nat) (x2_3 : Int32) (tb_c : Nat → Int32) (tl_c : Int32) (H : Heap) (locs : List Loc) (ls : Array Slot), FL_X8_add_3 tb tl z n_3 x2_3 tb_c tl_c = some o → va_P (dC, dI) vwCl [(tp, .inr (8, [.ref by_, .int tl_c])), (by_, .inl (cb, 240, .inl tb_c))] H → va_D A [(tp, .inr (8, [.ref by_, .int tl_c])), (by_, .inl (cb, 240, .inl tb_c))] → va_S A s.heap H locs → lv_has ls 4 [(2, .int x2_3), (0, .ref tp), (1, .int z)] → W p l e (headSpec (.code yX8_add cX8_add 4 none :: wA) ({ frames := 0, cells := 0, slots := 0, locals := 0 })).room s m #[.ref tp, .int z] below meth c H locs 0 0 (MQ below (va_Qv (fun _ : Unit => True) (fun (_ : Unit) t => q_B (dC, dI) A [(tp, .inr (8, [.ref by_, .int (o.2)])), (by_, .inl (cb, 240, .inl (o.1)))] [(cb, .char)] t) A) #[.ref tp, .int z] s 0 0 A) (F0 m 3 ls []) := by
    intro n_3
    induction n_3 with
    | zero =>
      intro x2_3 tb_c tl_c H locs ls hG
      exact q_no hG
    | succ n_3 ih_3 =>
      intro x2_3 tb_c tl_c H locs ls hG hP hD hS hl
      unfold FL_X8_add_3 at hG
      refine lv_iload_n hx hb dX8_add_3 rfl (lv_at hl 0 rfl) ?_
      refine lv_if_lt (tgt := 58) hx hb dX8_add_4 (by decide) (fun c_1 => ?_) (fun c_1 => ?_)
      · have hG := q_ifp c_1 hG
        obtain rfl := Option.some.inj hG
        have hP9 := hP.sub (ws' := [(tp, .inr (8, [.ref by_, .int tl_c])), (by_, .inl (cb, 240, .inl tb_c))]) [0, 1] rfl
        have hD9 := hD.sub (ws' := [(tp, .inr (8, [.ref by_, .int tl_c])), (by_, .inl (cb, 240, .inl tb_c))]) [0, 1] (by decide) rfl
        have hK9 := hK.sub (tys' := [(cb, .char)]) [0] rfl
        exact W.vret hx hb hr (fun t ht hW => ⟨⟨(), rfl, trivial, by rw [ht]; exact hP9, va_K.moved hW.alike hK9, hD9⟩, hS.F ht⟩) hS.2.2 dX8_add_58
      · have hG := q_ifn c_1 hG
        refine lv_iload_n hx hb dX8_add_7 rfl (lv_at hl 2 rfl) ?_
        refine lv_iload_n hx hb dX8_add_8 rfl (lv_at hl 0 rfl) ?_
        refine lv_iushr hx hb dX8_add_9 rfl ?_
        refine lv_sipush (v := 255) hx hb dX8_add_10 (by decide) ?_
        refine lv_iand hx hb dX8_add_13 ?_
        obtain ⟨v_2, w_3, hG⟩ := q_bi hG
        refine q_top (y := v_2) (Option.some.inj w_3) ?_
        refine lv_istore_n (lv' := [(3, .int v_2), (2, .int x2_3), (0, .ref tp), (1, .int z)]) hx hb dX8_add_14 rfl hl (by decide) rfl (fun ls hl => ?_)
        refine lv_iload_n hx hb dX8_add_15 rfl (lv_at hl 0 rfl) ?_
        refine lv_if_eq (tgt := 52) hx hb dX8_add_16 (by decide) (fun c_4 => ?_) (fun c_4 => ?_)
        · have hG := q_ifp c_4 hG
          refine lv_iinc (v := (x2_3 + (-8))) (lv' := [(2, .int (x2_3 + (-8))), (3, .int v_2), (0, .ref tp), (1, .int z)]) hx hb dX8_add_52 hl (k := 1) rfl (rfl) (by decide) rfl (fun ls hl => ?_)
          refine lv_goto (tgt := 3) hx hb dX8_add_55 (by decide) ?_
          exact ih_3 (x2_3 + (-8)) tb_c tl_c H locs ls hG hP hD hS (lv_sub hl [0, 2, 3] rfl)
        · have hG := q_ifn c_4 hG
          refine lv_aload_n hx hb dX8_add_19 rfl (lv_at hl 2 rfl) ?_
          refine va_get (D := (dC, dI)) (ci := 8) (v := .int tl_c) (C := RX8) (T := TX8) (N := 2) hx hb hts iA_8 hown hK hP 0 rfl rfl 1 (by decide) (hts (.fieldLink RX8 15 "HubTree$Tape" "length" "I") (List.mem_cons_of_mem _ m_62)) (fun _ h9 => h9) rfl dX8_add_20 ?_
          refine lv_aload_n hx hb dX8_add_23 rfl (lv_at hl 2 rfl) ?_
          refine va_get (D := (dC, dI)) (ci := 8) (v := .ref by_) (C := RX8) (T := TX8) (N := 2) hx hb hts iA_8 hown hK hP 0 rfl rfl 0 (by decide) (hts (.fieldLink RX8 9 "HubTree$Tape" "bytes" "[C") (List.mem_cons_of_mem _ m_61)) (fun _ h9 => h9) rfl dX8_add_24 ?_
          refine va_alen hx hb hK hP 1 0 rfl rfl (v := 240) rfl dX8_add_27 ?_
          refine lv_icmp_ge (tgt := 52) hx hb dX8_add_28 (by decide) (fun c_5 => ?_) (fun c_5 => ?_)
          · have hG := q_ifp c_5 hG
            refine lv_iinc (v := (x2_3 + (-8))) (lv' := [(2, .int (x2_3 + (-8))), (3, .int v_2), (0, .ref tp), (1, .int z)]) hx hb dX8_add_52 hl (k := 1) rfl (rfl) (by decide) rfl (fun ls hl => ?_)
            refine lv_goto (tgt := 3) hx hb dX8_add_55 (by decide) ?_
            exact ih_3 (x2_3 + (-8)) tb_c tl_c H locs ls hG hP hD hS (lv_sub hl [0, 2, 3] rfl)
          · have hG := q_ifn c_5 hG
            refine lv_aload_n hx hb dX8_add_31 rfl (lv_at hl 2 rfl) ?_
            refine va_get (D := (dC, dI)) (ci := 8) (v := .ref by_) (C := RX8) (T := TX8) (N := 2) hx hb hts iA_8 hown hK hP 0 rfl rfl 0 (by decide) (hts (.fieldLink RX8 9 "HubTree$Tape" "bytes" "[C") (List.mem_cons_of_mem _ m_61)) (fun _ h9 => h9) rfl dX8_add_32 ?_
            refine lv_aload_n hx hb dX8_add_35 rfl (lv_at hl 2 rfl) ?_
            refine va_get (D := (dC, dI)) (ci := 8) (v := .int tl_c) (C := RX8) (T := TX8) (N := 2) hx hb hts iA_8 hown hK hP 0 rfl rfl 1 (by decide) (hts (.fieldLink RX8 15 "HubTree$Tape" "length" "I") (List.mem_cons_of_mem _ m_62)) (fun _ h9 => h9) rfl dX8_add_36 ?_
            refine lv_iload_n hx hb dX8_add_39 rfl (lv_at hl 0 rfl) ?_
            refine lv_i2c hx hb dX8_add_40 rfl ?_
            obtain ⟨h_6, hG⟩ := q_ix hG
            refine va_cast hx hb hK hP hD hS 1 0 rfl rfl (i := tl_c) (x := (((v_2 : Int32).toUInt32 % 65536).toInt32)) h_6 dX8_add_41 (fun H locs hP hD hS => ?_)
            have hP : va_P (dC, dI) vwCl [(tp, .inr (8, [.ref by_, .int tl_c])), (by_, .inl (cb, 240, .inl (upd tb_c (tl_c).toNatClampNeg (vp_nar .char (((v_2 : Int32).toUInt32 % 65536).toInt32)))))] H := hP
            have hD : va_D A [(tp, .inr (8, [.ref by_, .int tl_c])), (by_, .inl (cb, 240, .inl (upd tb_c (tl_c).toNatClampNeg (vp_nar .char (((v_2 : Int32).toUInt32 % 65536).toInt32)))))] := hD
            refine lv_aload_n hx hb dX8_add_42 rfl (lv_at hl 2 rfl) ?_
            refine lv_dup hx hb dX8_add_43 rfl ?_
            refine va_get (D := (dC, dI)) (ci := 8) (v := .int tl_c) (C := RX8) (T := TX8) (N := 2) hx hb hts iA_8 hown hK hP 0 rfl rfl 1 (by decide) (hts (.fieldLink RX8 15 "HubTree$Tape" "length" "I") (List.mem_cons_of_mem _ m_62)) (fun _ h9 => h9) rfl dX8_add_44 ?_
            refine lv_iconst (v := 1) hx hb dX8_add_47 (by decide) ?_
            refine lv_iadd hx hb dX8_add_48 ?_
            refine va_put (D := (dC, dI)) (ci := 8) (v := .int (tl_c + 1)) (ty := .int) (C := RX8) (T := TX8) (N := 2) hx hb hts iA_8 tyX8 tyX8_ok nmX8 hown hK hP hD hS 0 rfl rfl 1 (by decide) (hts (.fieldLink RX8 15 "HubTree$Tape" "length" "I") (List.mem_cons_of_mem _ m_62)) (fun _ h9 => h9) rfl (by decide +kernel) rfl rfl (Nat.le_of_ble_eq_true rfl) dX8_add_49 (fun H locs hP hD hS => ?_)
            have hP : va_P (dC, dI) vwCl [(tp, .inr (8, [.ref by_, .int (tl_c + 1)])), (by_, .inl (cb, 240, .inl (upd tb_c (tl_c).toNatClampNeg (vp_nar .char (((v_2 : Int32).toUInt32 % 65536).toInt32)))))] H := hP
            have hD : va_D A [(tp, .inr (8, [.ref by_, .int (tl_c + 1)])), (by_, .inl (cb, 240, .inl (upd tb_c (tl_c).toNatClampNeg (vp_nar .char (((v_2 : Int32).toUInt32 % 65536).toInt32)))))] := hD
            refine lv_iinc (v := (x2_3 + (-8))) (lv' := [(2, .int (x2_3 + (-8))), (3, .int v_2), (0, .ref tp), (1, .int z)]) hx hb dX8_add_52 hl (k := 1) rfl (rfl) (by decide) rfl (fun ls hl => ?_)
            refine lv_goto (tgt := 3) hx hb dX8_add_55 (by decide) ?_
            exact ih_3 (x2_3 + (-8)) (upd tb_c (tl_c).toNatClampNeg (vp_nar .char (((v_2 : Int32).toUInt32 % 65536).toInt32))) (tl_c + 1) H locs ls hG hP hD hS (lv_sub hl [0, 2, 3] rfl)
  exact L_3 1000 24 tb tl s.heap [] ls hG hP hD hS hl

def F_X9_feed (tl : Int32) (tb : Nat → Int32) (z1 : Int32) (z2 : Int32) (z3 : Int32) (z4 : Int32) (z5 : Int32) : Option (Int32 × Int32 × (Nat → Int32)) := ((F_X8_bytesIn z1).bind fun o_1 => ((F_X8_bytesIn z2).bind fun o_3 => ((F_X8_bytesIn z3).bind fun o_5 => ((F_X8_bytesIn z4).bind fun o_7 => ((F_X8_bytesIn z5).bind fun o_9 => (if (tl + ((((o_1 + o_3) + o_5) + o_7) + o_9)) ≤ 240 then ((F_X8_add tb tl z1).bind fun o_12 => ((F_X8_add (o_12.1) (o_12.2) z2).bind fun o_14 => ((F_X8_add (o_14.1) (o_14.2) z3).bind fun o_16 => ((F_X8_add (o_16.1) (o_16.2) z4).bind fun o_18 => ((F_X8_add (o_18.1) (o_18.2) z5).bind fun o_20 => some ((o_20.2), (o_20.2), (o_20.1))))))) else some ((-1), tl, tb)))))))
set_option maxHeartbeats 4000000 in
set_option maxRecDepth 100000 in
theorem c_X9_feed (l : Launch) (dC : Nat → ClassId) (dI : Nat → Nat → Nat) (a : Nat → Nat) (k : Nat → ClassId) (tl : Int32) (hi : Int32) (tb : Nat → Int32) (z1 : Int32) (z2 : Int32) (z3 : Int32) (z4 : Int32) (z5 : Int32) (A : Nat → Prop) (o : Int32 × Int32 × (Nat → Int32)) (hG : F_X9_feed tl tb z1 z2 z3 z4 z5 = some o) : Met l yX9_feed (.code yX9_feed cX9_feed 7 (some .int) :: wA) ({ frames := 1, cells := 0, slots := 0, locals := 23 }) (va_Pc [.ref (a 0), .int z1, .int z2, .int z3, .int z4, .int z5] (q_W (dC, dI) A [((a 0), .inr (9, [.ref (a 1), .ref (a 3), .ref (a 4), .ref (a 7), .ref (a 10), .ref (a 14), .ref (a 16), .ref (a 18), .ref (a 19), .ref (a 21), .ref (a 23), .ref (a 25), .ref (a 27), .ref (a 28), .int hi])), ((a 1), .inr (8, [.ref (a 2), .int tl])), ((a 2), .inl ((k 2), 240, .inl tb))] [((k 2), .char)])) (va_Qi (fun (r : Int32) (_ : Unit) => r = o.1 ∧ True) (fun (_ : Unit) t => q_B (dC, dI) A [((a 0), .inr (9, [.ref (a 1), .ref (a 3), .ref (a 4), .ref (a 7), .ref (a 10), .ref (a 14), .ref (a 16), .ref (a 18), .ref (a 19), .ref (a 21), .ref (a 23), .ref (a 25), .ref (a 27), .ref (a 28), .int hi])), ((a 1), .inr (8, [.ref (a 2), .int (o.2.1)])), ((a 2), .inl ((k 2), 240, .inl (o.2.2)))] [((k 2), .char)] t) A) 0 0 A := by
  refine Met.ofW (cc := cX9_feed) (maxL := 7) (ret := (some .int)) (by decide) rfl ?_
  intro p e s m args below meth c s₁ B hml hv
  obtain ⟨rfl, hP, hK, hD, hA⟩ := hv
  have hx := B.exec
  have hb := B.bytes
  have hr := B.returns
  have hts := atoms_spec (ws := .code yX9_feed cX9_feed 7 (some .int) :: wA) B.pre
  have hown : s.vm.findClass RX9 = some m.cls := findClass_of_methodNamed B.named
  have hlocks := B.notSynchronized
  have hS : va_S A s.heap s.heap [] := va_S.rf
  have hl := lv_entry ([.ref (a 0), .int z1, .int z2, .int z3, .int z4, .int z5]) (n := 7) (Nat.le_of_ble_eq_true rfl)
  rw [lg_entry_eq]
  generalize (lg_sl ([.ref (a 0), .int z1, .int z2, .int z3, .int z4, .int z5]) ++ List.replicate (7 - (lg_sl ([.ref (a 0), .int z1, .int z2, .int z3, .int z4, .int z5])).length) Slot.unset).toArray = ls at hl ⊢
  have hl : lv_has ls 7 [(0, .ref (a 0)), (1, .int z1), (2, .int z2), (3, .int z3), (4, .int z4), (5, .int z5)] := hl
  unfold F_X9_feed at hG
  refine lv_iload_n hx hb dX9_feed_0 rfl (lv_at hl 1 rfl) ?_
  obtain ⟨o_1, r_2, hG⟩ := q_bi hG
  refine q_goi (v := o_1) (va_runS (As := [.int z1]) (rest := []) ⟨hx, hb, hml, hown, hts⟩ (c_X8_bytesIn l dC dI z1 o_1 r_2) (va_cwS 1 hts (q_gS m_134 m_135 m_16 m_136) rfl rfl rfl hdS_yX8_bytesIn_1 ⟨Nat.le_of_ble_eq_true rfl, Nat.le_of_ble_eq_true rfl⟩) (q_preS hK hP [] rfl [] rfl) rfl rfl hl.1 rfl (lv_room (Nat.le_of_ble_eq_true rfl)) dX9_feed_1 ⟨Nat.le_of_ble_eq_true rfl, Nat.le_of_ble_eq_true rfl⟩) hP hS (fun H locs hP hS => ?_)
  refine lv_iload_n hx hb dX9_feed_4 rfl (lv_at hl 2 rfl) ?_
  obtain ⟨o_3, r_4, hG⟩ := q_bi hG
  refine q_goi (v := o_3) (va_runS (As := [.int z2]) (rest := [.int o_1]) ⟨hx, hb, hml, hown, hts⟩ (c_X8_bytesIn l dC dI z2 o_3 r_4) (va_cwS 1 hts (q_gS m_134 m_135 m_16 m_136) rfl rfl rfl hdS_yX8_bytesIn_1 ⟨Nat.le_of_ble_eq_true rfl, Nat.le_of_ble_eq_true rfl⟩) (q_preS hK hP [] rfl [] rfl) rfl rfl hl.1 rfl (lv_room (Nat.le_of_ble_eq_true rfl)) dX9_feed_5 ⟨Nat.le_of_ble_eq_true rfl, Nat.le_of_ble_eq_true rfl⟩) hP hS (fun H locs hP hS => ?_)
  refine lv_iadd hx hb dX9_feed_8 ?_
  refine lv_iload_n hx hb dX9_feed_9 rfl (lv_at hl 3 rfl) ?_
  obtain ⟨o_5, r_6, hG⟩ := q_bi hG
  refine q_goi (v := o_5) (va_runS (As := [.int z3]) (rest := [.int (o_1 + o_3)]) ⟨hx, hb, hml, hown, hts⟩ (c_X8_bytesIn l dC dI z3 o_5 r_6) (va_cwS 1 hts (q_gS m_134 m_135 m_16 m_136) rfl rfl rfl hdS_yX8_bytesIn_1 ⟨Nat.le_of_ble_eq_true rfl, Nat.le_of_ble_eq_true rfl⟩) (q_preS hK hP [] rfl [] rfl) rfl rfl hl.1 rfl (lv_room (Nat.le_of_ble_eq_true rfl)) dX9_feed_10 ⟨Nat.le_of_ble_eq_true rfl, Nat.le_of_ble_eq_true rfl⟩) hP hS (fun H locs hP hS => ?_)
  refine lv_iadd hx hb dX9_feed_13 ?_
  refine lv_iload hx hb dX9_feed_14 (lv_at hl 4 rfl) ?_
  obtain ⟨o_7, r_8, hG⟩ := q_bi hG
  refine q_goi (v := o_7) (va_runS (As := [.int z4]) (rest := [.int ((o_1 + o_3) + o_5)]) ⟨hx, hb, hml, hown, hts⟩ (c_X8_bytesIn l dC dI z4 o_7 r_8) (va_cwS 1 hts (q_gS m_134 m_135 m_16 m_136) rfl rfl rfl hdS_yX8_bytesIn_1 ⟨Nat.le_of_ble_eq_true rfl, Nat.le_of_ble_eq_true rfl⟩) (q_preS hK hP [] rfl [] rfl) rfl rfl hl.1 rfl (lv_room (Nat.le_of_ble_eq_true rfl)) dX9_feed_16 ⟨Nat.le_of_ble_eq_true rfl, Nat.le_of_ble_eq_true rfl⟩) hP hS (fun H locs hP hS => ?_)
  refine lv_iadd hx hb dX9_feed_19 ?_
  refine lv_iload hx hb dX9_feed_20 (lv_at hl 5 rfl) ?_
  obtain ⟨o_9, r_10, hG⟩ := q_bi hG
  refine q_goi (v := o_9) (va_runS (As := [.int z5]) (rest := [.int (((o_1 + o_3) + o_5) + o_7)]) ⟨hx, hb, hml, hown, hts⟩ (c_X8_bytesIn l dC dI z5 o_9 r_10) (va_cwS 1 hts (q_gS m_134 m_135 m_16 m_136) rfl rfl rfl hdS_yX8_bytesIn_1 ⟨Nat.le_of_ble_eq_true rfl, Nat.le_of_ble_eq_true rfl⟩) (q_preS hK hP [] rfl [] rfl) rfl rfl hl.1 rfl (lv_room (Nat.le_of_ble_eq_true rfl)) dX9_feed_22 ⟨Nat.le_of_ble_eq_true rfl, Nat.le_of_ble_eq_true rfl⟩) hP hS (fun H locs hP hS => ?_)
  refine lv_iadd hx hb dX9_feed_25 ?_
  refine lv_istore (lv' := [(6, .int ((((o_1 + o_3) + o_5) + o_7) + o_9)), (0, .ref (a 0)), (1, .int z1), (2, .int z2), (3, .int z3), (4, .int z4), (5, .int z5)]) hx hb dX9_feed_26 hl (by decide) rfl (fun ls hl => ?_)
  refine lv_aload_n hx hb dX9_feed_28 rfl (lv_at hl 1 rfl) ?_
  refine va_get (D := (dC, dI)) (ci := 9) (v := .ref (a 1)) (C := RX9) (T := TX9) (N := 15) hx hb hts iA_9 hown hK hP 0 rfl rfl 0 (by decide) (hts (.fieldLink RX9 12 "HubTree" "tape" "LHubTree$Tape;") (List.mem_cons_of_mem _ m_17)) (fun _ h9 => h9) rfl dX9_feed_29 ?_
  refine va_get (D := (dC, dI)) (ci := 8) (v := .int tl) (C := RX8) (T := TX8) (N := 2) hx hb hts iA_8 hown hK hP 1 rfl rfl 1 (by decide) (hts (.fieldLink RX9 102 "HubTree$Tape" "length" "I") (List.mem_cons_of_mem _ m_133)) (fun _ h9 => h9) rfl dX9_feed_32 ?_
  refine lv_iload hx hb dX9_feed_35 (lv_at hl 0 rfl) ?_
  refine lv_iadd hx hb dX9_feed_37 ?_
  refine lv_sipush (v := 240) hx hb dX9_feed_38 (by decide) ?_
  refine lv_icmp_le (tgt := 46) hx hb dX9_feed_41 (by decide) (fun c_11 => ?_) (fun c_11 => ?_)
  · have hG := q_ifp c_11 hG
    refine lv_aload_n hx hb dX9_feed_46 rfl (lv_at hl 1 rfl) ?_
    refine va_get (D := (dC, dI)) (ci := 9) (v := .ref (a 1)) (C := RX9) (T := TX9) (N := 15) hx hb hts iA_9 hown hK hP 0 rfl rfl 0 (by decide) (hts (.fieldLink RX9 12 "HubTree" "tape" "LHubTree$Tape;") (List.mem_cons_of_mem _ m_17)) (fun _ h9 => h9) rfl dX9_feed_47 ?_
    refine lv_iload_n hx hb dX9_feed_50 rfl (lv_at hl 2 rfl) ?_
    obtain ⟨o_12, r_13, hG⟩ := q_bi hG
    refine q_gov2 (wr := [((a 0), .inr (9, [.ref (a 1), .ref (a 3), .ref (a 4), .ref (a 7), .ref (a 10), .ref (a 14), .ref (a 16), .ref (a 18), .ref (a 19), .ref (a 21), .ref (a 23), .ref (a 25), .ref (a 27), .ref (a 28), .int hi]))]) (va_runV (As := [.int z1]) (rest := []) ⟨hx, hb, hml, hown, hts⟩ (c_X8_add l dC dI (a 1) (a 2) (k 2) tb tl z1 (va_A [((a 1), .inr (8, [.ref (a 2), .int tl])), ((a 2), .inl ((k 2), 240, .inl tb))] H.size) o_12 r_13) (cwV 1 hts (q_gV m_137 m_138 m_139 m_16 m_140) rfl rfl rfl hdV_yX8_add_1 ⟨Nat.le_of_ble_eq_true rfl, Nat.le_of_ble_eq_true rfl⟩) (q_preWV hK hP hD (q := (RX8, TX8, 2)) (ci := 8) (q0 := 1) rfl rfl [1, 2] (by decide) rfl rfl [0] rfl) rfl rfl hl.1 rfl (lv_room (Nat.le_of_ble_eq_true rfl)) dX9_feed_51 ⟨Nat.le_of_ble_eq_true rfl, Nat.le_of_ble_eq_true rfl⟩) hK hP hD hS hA [1, 2] [0] rfl rfl (by decide) (by decide) (fun _ H locs _ hP hD hK9 hS => ?_)
    have hP : va_P (dC, dI) vwCl [((a 0), .inr (9, [.ref (a 1), .ref (a 3), .ref (a 4), .ref (a 7), .ref (a 10), .ref (a 14), .ref (a 16), .ref (a 18), .ref (a 19), .ref (a 21), .ref (a 23), .ref (a 25), .ref (a 27), .ref (a 28), .int hi])), ((a 1), .inr (8, [.ref (a 2), .int (o_12.2)])), ((a 2), .inl ((k 2), 240, .inl (o_12.1)))] H := hP.sub [0, 1, 2] rfl
    have hD : va_D A [((a 0), .inr (9, [.ref (a 1), .ref (a 3), .ref (a 4), .ref (a 7), .ref (a 10), .ref (a 14), .ref (a 16), .ref (a 18), .ref (a 19), .ref (a 21), .ref (a 23), .ref (a 25), .ref (a 27), .ref (a 28), .int hi])), ((a 1), .inr (8, [.ref (a 2), .int (o_12.2)])), ((a 2), .inl ((k 2), 240, .inl (o_12.1)))] := hD.sub [0, 1, 2] (by decide) rfl
    refine lv_aload_n hx hb dX9_feed_54 rfl (lv_at hl 1 rfl) ?_
    refine va_get (D := (dC, dI)) (ci := 9) (v := .ref (a 1)) (C := RX9) (T := TX9) (N := 15) hx hb hts iA_9 hown hK hP 0 rfl rfl 0 (by decide) (hts (.fieldLink RX9 12 "HubTree" "tape" "LHubTree$Tape;") (List.mem_cons_of_mem _ m_17)) (fun _ h9 => h9) rfl dX9_feed_55 ?_
    refine lv_iload_n hx hb dX9_feed_58 rfl (lv_at hl 3 rfl) ?_
    obtain ⟨o_14, r_15, hG⟩ := q_bi hG
    refine q_gov2 (wr := [((a 0), .inr (9, [.ref (a 1), .ref (a 3), .ref (a 4), .ref (a 7), .ref (a 10), .ref (a 14), .ref (a 16), .ref (a 18), .ref (a 19), .ref (a 21), .ref (a 23), .ref (a 25), .ref (a 27), .ref (a 28), .int hi]))]) (va_runV (As := [.int z2]) (rest := []) ⟨hx, hb, hml, hown, hts⟩ (c_X8_add l dC dI (a 1) (a 2) (k 2) (o_12.1) (o_12.2) z2 (va_A [((a 1), .inr (8, [.ref (a 2), .int (o_12.2)])), ((a 2), .inl ((k 2), 240, .inl (o_12.1)))] H.size) o_14 r_15) (cwV 1 hts (q_gV m_137 m_138 m_139 m_16 m_140) rfl rfl rfl hdV_yX8_add_1 ⟨Nat.le_of_ble_eq_true rfl, Nat.le_of_ble_eq_true rfl⟩) (q_preWV hK hP hD (q := (RX8, TX8, 2)) (ci := 8) (q0 := 1) rfl rfl [1, 2] (by decide) rfl rfl [0] rfl) rfl rfl hl.1 rfl (lv_room (Nat.le_of_ble_eq_true rfl)) dX9_feed_59 ⟨Nat.le_of_ble_eq_true rfl, Nat.le_of_ble_eq_true rfl⟩) hK hP hD hS hA [1, 2] [0] rfl rfl (by decide) (by decide) (fun _ H locs _ hP hD hK9 hS => ?_)
    have hP : va_P (dC, dI) vwCl [((a 0), .inr (9, [.ref (a 1), .ref (a 3), .ref (a 4), .ref (a 7), .ref (a 10), .ref (a 14), .ref (a 16), .ref (a 18), .ref (a 19), .ref (a 21), .ref (a 23), .ref (a 25), .ref (a 27), .ref (a 28), .int hi])), ((a 1), .inr (8, [.ref (a 2), .int (o_14.2)])), ((a 2), .inl ((k 2), 240, .inl (o_14.1)))] H := hP.sub [0, 1, 2] rfl
    have hD : va_D A [((a 0), .inr (9, [.ref (a 1), .ref (a 3), .ref (a 4), .ref (a 7), .ref (a 10), .ref (a 14), .ref (a 16), .ref (a 18), .ref (a 19), .ref (a 21), .ref (a 23), .ref (a 25), .ref (a 27), .ref (a 28), .int hi])), ((a 1), .inr (8, [.ref (a 2), .int (o_14.2)])), ((a 2), .inl ((k 2), 240, .inl (o_14.1)))] := hD.sub [0, 1, 2] (by decide) rfl
    refine lv_aload_n hx hb dX9_feed_62 rfl (lv_at hl 1 rfl) ?_
    refine va_get (D := (dC, dI)) (ci := 9) (v := .ref (a 1)) (C := RX9) (T := TX9) (N := 15) hx hb hts iA_9 hown hK hP 0 rfl rfl 0 (by decide) (hts (.fieldLink RX9 12 "HubTree" "tape" "LHubTree$Tape;") (List.mem_cons_of_mem _ m_17)) (fun _ h9 => h9) rfl dX9_feed_63 ?_
    refine lv_iload_n hx hb dX9_feed_66 rfl (lv_at hl 4 rfl) ?_
    obtain ⟨o_16, r_17, hG⟩ := q_bi hG
    refine q_gov2 (wr := [((a 0), .inr (9, [.ref (a 1), .ref (a 3), .ref (a 4), .ref (a 7), .ref (a 10), .ref (a 14), .ref (a 16), .ref (a 18), .ref (a 19), .ref (a 21), .ref (a 23), .ref (a 25), .ref (a 27), .ref (a 28), .int hi]))]) (va_runV (As := [.int z3]) (rest := []) ⟨hx, hb, hml, hown, hts⟩ (c_X8_add l dC dI (a 1) (a 2) (k 2) (o_14.1) (o_14.2) z3 (va_A [((a 1), .inr (8, [.ref (a 2), .int (o_14.2)])), ((a 2), .inl ((k 2), 240, .inl (o_14.1)))] H.size) o_16 r_17) (cwV 1 hts (q_gV m_137 m_138 m_139 m_16 m_140) rfl rfl rfl hdV_yX8_add_1 ⟨Nat.le_of_ble_eq_true rfl, Nat.le_of_ble_eq_true rfl⟩) (q_preWV hK hP hD (q := (RX8, TX8, 2)) (ci := 8) (q0 := 1) rfl rfl [1, 2] (by decide) rfl rfl [0] rfl) rfl rfl hl.1 rfl (lv_room (Nat.le_of_ble_eq_true rfl)) dX9_feed_67 ⟨Nat.le_of_ble_eq_true rfl, Nat.le_of_ble_eq_true rfl⟩) hK hP hD hS hA [1, 2] [0] rfl rfl (by decide) (by decide) (fun _ H locs _ hP hD hK9 hS => ?_)
    have hP : va_P (dC, dI) vwCl [((a 0), .inr (9, [.ref (a 1), .ref (a 3), .ref (a 4), .ref (a 7), .ref (a 10), .ref (a 14), .ref (a 16), .ref (a 18), .ref (a 19), .ref (a 21), .ref (a 23), .ref (a 25), .ref (a 27), .ref (a 28), .int hi])), ((a 1), .inr (8, [.ref (a 2), .int (o_16.2)])), ((a 2), .inl ((k 2), 240, .inl (o_16.1)))] H := hP.sub [0, 1, 2] rfl
    have hD : va_D A [((a 0), .inr (9, [.ref (a 1), .ref (a 3), .ref (a 4), .ref (a 7), .ref (a 10), .ref (a 14), .ref (a 16), .ref (a 18), .ref (a 19), .ref (a 21), .ref (a 23), .ref (a 25), .ref (a 27), .ref (a 28), .int hi])), ((a 1), .inr (8, [.ref (a 2), .int (o_16.2)])), ((a 2), .inl ((k 2), 240, .inl (o_16.1)))] := hD.sub [0, 1, 2] (by decide) rfl
    refine lv_aload_n hx hb dX9_feed_70 rfl (lv_at hl 1 rfl) ?_
    refine va_get (D := (dC, dI)) (ci := 9) (v := .ref (a 1)) (C := RX9) (T := TX9) (N := 15) hx hb hts iA_9 hown hK hP 0 rfl rfl 0 (by decide) (hts (.fieldLink RX9 12 "HubTree" "tape" "LHubTree$Tape;") (List.mem_cons_of_mem _ m_17)) (fun _ h9 => h9) rfl dX9_feed_71 ?_
    refine lv_iload hx hb dX9_feed_74 (lv_at hl 5 rfl) ?_
    obtain ⟨o_18, r_19, hG⟩ := q_bi hG
    refine q_gov2 (wr := [((a 0), .inr (9, [.ref (a 1), .ref (a 3), .ref (a 4), .ref (a 7), .ref (a 10), .ref (a 14), .ref (a 16), .ref (a 18), .ref (a 19), .ref (a 21), .ref (a 23), .ref (a 25), .ref (a 27), .ref (a 28), .int hi]))]) (va_runV (As := [.int z4]) (rest := []) ⟨hx, hb, hml, hown, hts⟩ (c_X8_add l dC dI (a 1) (a 2) (k 2) (o_16.1) (o_16.2) z4 (va_A [((a 1), .inr (8, [.ref (a 2), .int (o_16.2)])), ((a 2), .inl ((k 2), 240, .inl (o_16.1)))] H.size) o_18 r_19) (cwV 1 hts (q_gV m_137 m_138 m_139 m_16 m_140) rfl rfl rfl hdV_yX8_add_1 ⟨Nat.le_of_ble_eq_true rfl, Nat.le_of_ble_eq_true rfl⟩) (q_preWV hK hP hD (q := (RX8, TX8, 2)) (ci := 8) (q0 := 1) rfl rfl [1, 2] (by decide) rfl rfl [0] rfl) rfl rfl hl.1 rfl (lv_room (Nat.le_of_ble_eq_true rfl)) dX9_feed_76 ⟨Nat.le_of_ble_eq_true rfl, Nat.le_of_ble_eq_true rfl⟩) hK hP hD hS hA [1, 2] [0] rfl rfl (by decide) (by decide) (fun _ H locs _ hP hD hK9 hS => ?_)
    have hP : va_P (dC, dI) vwCl [((a 0), .inr (9, [.ref (a 1), .ref (a 3), .ref (a 4), .ref (a 7), .ref (a 10), .ref (a 14), .ref (a 16), .ref (a 18), .ref (a 19), .ref (a 21), .ref (a 23), .ref (a 25), .ref (a 27), .ref (a 28), .int hi])), ((a 1), .inr (8, [.ref (a 2), .int (o_18.2)])), ((a 2), .inl ((k 2), 240, .inl (o_18.1)))] H := hP.sub [0, 1, 2] rfl
    have hD : va_D A [((a 0), .inr (9, [.ref (a 1), .ref (a 3), .ref (a 4), .ref (a 7), .ref (a 10), .ref (a 14), .ref (a 16), .ref (a 18), .ref (a 19), .ref (a 21), .ref (a 23), .ref (a 25), .ref (a 27), .ref (a 28), .int hi])), ((a 1), .inr (8, [.ref (a 2), .int (o_18.2)])), ((a 2), .inl ((k 2), 240, .inl (o_18.1)))] := hD.sub [0, 1, 2] (by decide) rfl
    refine lv_aload_n hx hb dX9_feed_79 rfl (lv_at hl 1 rfl) ?_
    refine va_get (D := (dC, dI)) (ci := 9) (v := .ref (a 1)) (C := RX9) (T := TX9) (N := 15) hx hb hts iA_9 hown hK hP 0 rfl rfl 0 (by decide) (hts (.fieldLink RX9 12 "HubTree" "tape" "LHubTree$Tape;") (List.mem_cons_of_mem _ m_17)) (fun _ h9 => h9) rfl dX9_feed_80 ?_
    refine lv_iload hx hb dX9_feed_83 (lv_at hl 6 rfl) ?_
    obtain ⟨o_20, r_21, hG⟩ := q_bi hG
    refine q_gov2 (wr := [((a 0), .inr (9, [.ref (a 1), .ref (a 3), .ref (a 4), .ref (a 7), .ref (a 10), .ref (a 14), .ref (a 16), .ref (a 18), .ref (a 19), .ref (a 21), .ref (a 23), .ref (a 25), .ref (a 27), .ref (a 28), .int hi]))]) (va_runV (As := [.int z5]) (rest := []) ⟨hx, hb, hml, hown, hts⟩ (c_X8_add l dC dI (a 1) (a 2) (k 2) (o_18.1) (o_18.2) z5 (va_A [((a 1), .inr (8, [.ref (a 2), .int (o_18.2)])), ((a 2), .inl ((k 2), 240, .inl (o_18.1)))] H.size) o_20 r_21) (cwV 1 hts (q_gV m_137 m_138 m_139 m_16 m_140) rfl rfl rfl hdV_yX8_add_1 ⟨Nat.le_of_ble_eq_true rfl, Nat.le_of_ble_eq_true rfl⟩) (q_preWV hK hP hD (q := (RX8, TX8, 2)) (ci := 8) (q0 := 1) rfl rfl [1, 2] (by decide) rfl rfl [0] rfl) rfl rfl hl.1 rfl (lv_room (Nat.le_of_ble_eq_true rfl)) dX9_feed_85 ⟨Nat.le_of_ble_eq_true rfl, Nat.le_of_ble_eq_true rfl⟩) hK hP hD hS hA [1, 2] [0] rfl rfl (by decide) (by decide) (fun _ H locs _ hP hD hK9 hS => ?_)
    have hP : va_P (dC, dI) vwCl [((a 0), .inr (9, [.ref (a 1), .ref (a 3), .ref (a 4), .ref (a 7), .ref (a 10), .ref (a 14), .ref (a 16), .ref (a 18), .ref (a 19), .ref (a 21), .ref (a 23), .ref (a 25), .ref (a 27), .ref (a 28), .int hi])), ((a 1), .inr (8, [.ref (a 2), .int (o_20.2)])), ((a 2), .inl ((k 2), 240, .inl (o_20.1)))] H := hP.sub [0, 1, 2] rfl
    have hD : va_D A [((a 0), .inr (9, [.ref (a 1), .ref (a 3), .ref (a 4), .ref (a 7), .ref (a 10), .ref (a 14), .ref (a 16), .ref (a 18), .ref (a 19), .ref (a 21), .ref (a 23), .ref (a 25), .ref (a 27), .ref (a 28), .int hi])), ((a 1), .inr (8, [.ref (a 2), .int (o_20.2)])), ((a 2), .inl ((k 2), 240, .inl (o_20.1)))] := hD.sub [0, 1, 2] (by decide) rfl
    refine lv_aload_n hx hb dX9_feed_88 rfl (lv_at hl 1 rfl) ?_
    refine va_get (D := (dC, dI)) (ci := 9) (v := .ref (a 1)) (C := RX9) (T := TX9) (N := 15) hx hb hts iA_9 hown hK hP 0 rfl rfl 0 (by decide) (hts (.fieldLink RX9 12 "HubTree" "tape" "LHubTree$Tape;") (List.mem_cons_of_mem _ m_17)) (fun _ h9 => h9) rfl dX9_feed_89 ?_
    refine va_get (D := (dC, dI)) (ci := 8) (v := .int (o_20.2)) (C := RX8) (T := TX8) (N := 2) hx hb hts iA_8 hown hK hP 1 rfl rfl 1 (by decide) (hts (.fieldLink RX9 102 "HubTree$Tape" "length" "I") (List.mem_cons_of_mem _ m_133)) (fun _ h9 => h9) rfl dX9_feed_92 ?_
    obtain rfl := Option.some.inj hG
    have hP9 := hP.sub (ws' := [((a 0), .inr (9, [.ref (a 1), .ref (a 3), .ref (a 4), .ref (a 7), .ref (a 10), .ref (a 14), .ref (a 16), .ref (a 18), .ref (a 19), .ref (a 21), .ref (a 23), .ref (a 25), .ref (a 27), .ref (a 28), .int hi])), ((a 1), .inr (8, [.ref (a 2), .int (o_20.2)])), ((a 2), .inl ((k 2), 240, .inl (o_20.1)))]) [0, 1, 2] rfl
    have hD9 := hD.sub (ws' := [((a 0), .inr (9, [.ref (a 1), .ref (a 3), .ref (a 4), .ref (a 7), .ref (a 10), .ref (a 14), .ref (a 16), .ref (a 18), .ref (a 19), .ref (a 21), .ref (a 23), .ref (a 25), .ref (a 27), .ref (a 28), .int hi])), ((a 1), .inr (8, [.ref (a 2), .int (o_20.2)])), ((a 2), .inl ((k 2), 240, .inl (o_20.1)))]) [0, 1, 2] (by decide) rfl
    have hK9 := hK.sub (tys' := [((k 2), .char)]) [0] rfl
    exact W.iret (v := (o_20.2)) hx hb hr (fun t ht hW => ⟨⟨(o_20.2), (), rfl, ⟨rfl, trivial⟩, by rw [ht]; exact hP9, va_K.moved hW.alike hK9, hD9⟩, hS.F ht⟩) hS.2.2 dX9_feed_95
  · have hG := q_ifn c_11 hG
    refine lv_iconst (v := (-1)) hx hb dX9_feed_44 (by decide) ?_
    obtain rfl := Option.some.inj hG
    have hP9 := hP.sub (ws' := [((a 0), .inr (9, [.ref (a 1), .ref (a 3), .ref (a 4), .ref (a 7), .ref (a 10), .ref (a 14), .ref (a 16), .ref (a 18), .ref (a 19), .ref (a 21), .ref (a 23), .ref (a 25), .ref (a 27), .ref (a 28), .int hi])), ((a 1), .inr (8, [.ref (a 2), .int tl])), ((a 2), .inl ((k 2), 240, .inl tb))]) [0, 1, 2] rfl
    have hD9 := hD.sub (ws' := [((a 0), .inr (9, [.ref (a 1), .ref (a 3), .ref (a 4), .ref (a 7), .ref (a 10), .ref (a 14), .ref (a 16), .ref (a 18), .ref (a 19), .ref (a 21), .ref (a 23), .ref (a 25), .ref (a 27), .ref (a 28), .int hi])), ((a 1), .inr (8, [.ref (a 2), .int tl])), ((a 2), .inl ((k 2), 240, .inl tb))]) [0, 1, 2] (by decide) rfl
    have hK9 := hK.sub (tys' := [((k 2), .char)]) [0] rfl
    exact W.iret (v := (-1)) hx hb hr (fun t ht hW => ⟨⟨(-1), (), rfl, ⟨rfl, trivial⟩, by rw [ht]; exact hP9, va_K.moved hW.alike hK9, hD9⟩, hS.F ht⟩) hS.2.2 dX9_feed_45

def F_X9_end (tl : Int32) (z1 : Int32) : Option (Int32 × Int32) := (if z1 < 0 then some (0, tl) else (if z1 ≤ tl then some (1, z1) else some (0, tl)))
set_option maxHeartbeats 4000000 in
set_option maxRecDepth 100000 in
theorem c_X9_end (l : Launch) (dC : Nat → ClassId) (dI : Nat → Nat → Nat) (a : Nat → Nat) (k : Nat → ClassId) (tl : Int32) (hi : Int32) (z1 : Int32) (A : Nat → Prop) (o : Int32 × Int32) (hG : F_X9_end tl z1 = some o) : Met l yX9_end (.code yX9_end cX9_end 2 (some .boolean) :: wA) ({ frames := 0, cells := 0, slots := 0, locals := 0 }) (va_Pc [.ref (a 0), .int z1] (q_W (dC, dI) A [((a 0), .inr (9, [.ref (a 1), .ref (a 3), .ref (a 4), .ref (a 7), .ref (a 10), .ref (a 14), .ref (a 16), .ref (a 18), .ref (a 19), .ref (a 21), .ref (a 23), .ref (a 25), .ref (a 27), .ref (a 28), .int hi])), ((a 1), .inr (8, [.ref (a 2), .int tl]))] [])) (va_Qi (fun (r : Int32) (_ : Unit) => r = o.1 ∧ True) (fun (_ : Unit) t => q_B (dC, dI) A [((a 0), .inr (9, [.ref (a 1), .ref (a 3), .ref (a 4), .ref (a 7), .ref (a 10), .ref (a 14), .ref (a 16), .ref (a 18), .ref (a 19), .ref (a 21), .ref (a 23), .ref (a 25), .ref (a 27), .ref (a 28), .int hi])), ((a 1), .inr (8, [.ref (a 2), .int (o.2)]))] [] t) A) 0 0 A := by
  refine Met.ofW (cc := cX9_end) (maxL := 2) (ret := (some .boolean)) (by decide) rfl ?_
  intro p e s m args below meth c s₁ B hml hv
  obtain ⟨rfl, hP, hK, hD, hA⟩ := hv
  have hx := B.exec
  have hb := B.bytes
  have hr := B.returns
  have hts := atoms_spec (ws := .code yX9_end cX9_end 2 (some .boolean) :: wA) B.pre
  have hown : s.vm.findClass RX9 = some m.cls := findClass_of_methodNamed B.named
  have hlocks := B.notSynchronized
  have hS : va_S A s.heap s.heap [] := va_S.rf
  have hl := lv_entry ([.ref (a 0), .int z1]) (n := 2) (Nat.le_of_ble_eq_true rfl)
  rw [lg_entry_eq]
  generalize (lg_sl ([.ref (a 0), .int z1]) ++ List.replicate (2 - (lg_sl ([.ref (a 0), .int z1])).length) Slot.unset).toArray = ls at hl ⊢
  have hl : lv_has ls 2 [(0, .ref (a 0)), (1, .int z1)] := hl
  unfold F_X9_end at hG
  refine lv_iload_n hx hb dX9_end_0 rfl (lv_at hl 1 rfl) ?_
  refine lv_if_lt (tgt := 15) hx hb dX9_end_1 (by decide) (fun c_1 => ?_) (fun c_1 => ?_)
  · have hG := q_ifp c_1 hG
    refine lv_iconst (v := 0) hx hb dX9_end_15 (by decide) ?_
    obtain rfl := Option.some.inj hG
    have hP9 := hP.sub (ws' := [((a 0), .inr (9, [.ref (a 1), .ref (a 3), .ref (a 4), .ref (a 7), .ref (a 10), .ref (a 14), .ref (a 16), .ref (a 18), .ref (a 19), .ref (a 21), .ref (a 23), .ref (a 25), .ref (a 27), .ref (a 28), .int hi])), ((a 1), .inr (8, [.ref (a 2), .int tl]))]) [0, 1] rfl
    have hD9 := hD.sub (ws' := [((a 0), .inr (9, [.ref (a 1), .ref (a 3), .ref (a 4), .ref (a 7), .ref (a 10), .ref (a 14), .ref (a 16), .ref (a 18), .ref (a 19), .ref (a 21), .ref (a 23), .ref (a 25), .ref (a 27), .ref (a 28), .int hi])), ((a 1), .inr (8, [.ref (a 2), .int tl]))]) [0, 1] (by decide) rfl
    have hK9 := hK.sub (tys' := []) [] rfl
    exact W.zret (v := 0) hx hb hr rfl (fun t ht hW => ⟨⟨0, (), rfl, ⟨rfl, trivial⟩, by rw [ht]; exact hP9, va_K.moved hW.alike hK9, hD9⟩, hS.F ht⟩) hS.2.2 dX9_end_16
  · have hG := q_ifn c_1 hG
    refine lv_iload_n hx hb dX9_end_4 rfl (lv_at hl 1 rfl) ?_
    refine lv_aload_n hx hb dX9_end_5 rfl (lv_at hl 0 rfl) ?_
    refine va_get (D := (dC, dI)) (ci := 9) (v := .ref (a 1)) (C := RX9) (T := TX9) (N := 15) hx hb hts iA_9 hown hK hP 0 rfl rfl 0 (by decide) (hts (.fieldLink RX9 12 "HubTree" "tape" "LHubTree$Tape;") (List.mem_cons_of_mem _ m_17)) (fun _ h9 => h9) rfl dX9_end_6 ?_
    refine va_get (D := (dC, dI)) (ci := 8) (v := .int tl) (C := RX8) (T := TX8) (N := 2) hx hb hts iA_8 hown hK hP 1 rfl rfl 1 (by decide) (hts (.fieldLink RX9 102 "HubTree$Tape" "length" "I") (List.mem_cons_of_mem _ m_133)) (fun _ h9 => h9) rfl dX9_end_9 ?_
    refine lv_icmp_le (tgt := 17) hx hb dX9_end_12 (by decide) (fun c_2 => ?_) (fun c_2 => ?_)
    · have hG := q_ifp c_2 hG
      refine lv_aload_n hx hb dX9_end_17 rfl (lv_at hl 0 rfl) ?_
      refine va_get (D := (dC, dI)) (ci := 9) (v := .ref (a 1)) (C := RX9) (T := TX9) (N := 15) hx hb hts iA_9 hown hK hP 0 rfl rfl 0 (by decide) (hts (.fieldLink RX9 12 "HubTree" "tape" "LHubTree$Tape;") (List.mem_cons_of_mem _ m_17)) (fun _ h9 => h9) rfl dX9_end_18 ?_
      refine lv_iload_n hx hb dX9_end_21 rfl (lv_at hl 1 rfl) ?_
      refine va_put (D := (dC, dI)) (ci := 8) (v := .int z1) (ty := .int) (C := RX8) (T := TX8) (N := 2) hx hb hts iA_8 tyX8 tyX8_ok nmX8 hown hK hP hD hS 1 rfl rfl 1 (by decide) (hts (.fieldLink RX9 102 "HubTree$Tape" "length" "I") (List.mem_cons_of_mem _ m_133)) (fun _ h9 => h9) rfl (by decide +kernel) rfl rfl (Nat.le_of_ble_eq_true rfl) dX9_end_22 (fun H locs hP hD hS => ?_)
      have hP : va_P (dC, dI) vwCl [((a 0), .inr (9, [.ref (a 1), .ref (a 3), .ref (a 4), .ref (a 7), .ref (a 10), .ref (a 14), .ref (a 16), .ref (a 18), .ref (a 19), .ref (a 21), .ref (a 23), .ref (a 25), .ref (a 27), .ref (a 28), .int hi])), ((a 1), .inr (8, [.ref (a 2), .int z1]))] H := hP
      have hD : va_D A [((a 0), .inr (9, [.ref (a 1), .ref (a 3), .ref (a 4), .ref (a 7), .ref (a 10), .ref (a 14), .ref (a 16), .ref (a 18), .ref (a 19), .ref (a 21), .ref (a 23), .ref (a 25), .ref (a 27), .ref (a 28), .int hi])), ((a 1), .inr (8, [.ref (a 2), .int z1]))] := hD
      refine lv_iconst (v := 1) hx hb dX9_end_25 (by decide) ?_
      obtain rfl := Option.some.inj hG
      have hP9 := hP.sub (ws' := [((a 0), .inr (9, [.ref (a 1), .ref (a 3), .ref (a 4), .ref (a 7), .ref (a 10), .ref (a 14), .ref (a 16), .ref (a 18), .ref (a 19), .ref (a 21), .ref (a 23), .ref (a 25), .ref (a 27), .ref (a 28), .int hi])), ((a 1), .inr (8, [.ref (a 2), .int z1]))]) [0, 1] rfl
      have hD9 := hD.sub (ws' := [((a 0), .inr (9, [.ref (a 1), .ref (a 3), .ref (a 4), .ref (a 7), .ref (a 10), .ref (a 14), .ref (a 16), .ref (a 18), .ref (a 19), .ref (a 21), .ref (a 23), .ref (a 25), .ref (a 27), .ref (a 28), .int hi])), ((a 1), .inr (8, [.ref (a 2), .int z1]))]) [0, 1] (by decide) rfl
      have hK9 := hK.sub (tys' := []) [] rfl
      exact W.zret (v := 1) hx hb hr rfl (fun t ht hW => ⟨⟨1, (), rfl, ⟨rfl, trivial⟩, by rw [ht]; exact hP9, va_K.moved hW.alike hK9, hD9⟩, hS.F ht⟩) hS.2.2 dX9_end_26
    · have hG := q_ifn c_2 hG
      refine lv_iconst (v := 0) hx hb dX9_end_15 (by decide) ?_
      obtain rfl := Option.some.inj hG
      have hP9 := hP.sub (ws' := [((a 0), .inr (9, [.ref (a 1), .ref (a 3), .ref (a 4), .ref (a 7), .ref (a 10), .ref (a 14), .ref (a 16), .ref (a 18), .ref (a 19), .ref (a 21), .ref (a 23), .ref (a 25), .ref (a 27), .ref (a 28), .int hi])), ((a 1), .inr (8, [.ref (a 2), .int tl]))]) [0, 1] rfl
      have hD9 := hD.sub (ws' := [((a 0), .inr (9, [.ref (a 1), .ref (a 3), .ref (a 4), .ref (a 7), .ref (a 10), .ref (a 14), .ref (a 16), .ref (a 18), .ref (a 19), .ref (a 21), .ref (a 23), .ref (a 25), .ref (a 27), .ref (a 28), .int hi])), ((a 1), .inr (8, [.ref (a 2), .int tl]))]) [0, 1] (by decide) rfl
      have hK9 := hK.sub (tys' := []) [] rfl
      exact W.zret (v := 0) hx hb hr rfl (fun t ht hW => ⟨⟨0, (), rfl, ⟨rfl, trivial⟩, by rw [ht]; exact hP9, va_K.moved hW.alike hK9, hD9⟩, hS.F ht⟩) hS.2.2 dX9_end_16

def F_X9_rule (dv : Int32) (fu : Nat → Int32) (fp : Nat → Int32) (z1 : Int32) : Option (Int32) := ((F_X5_isTold dv).bind fun o_1 => (if o_1 = 0 then some ((-1)) else (if z1 < 0 then some ((-1)) else (if 8 ≤ z1 then some ((-1)) else (if z1 < 0 ∨ 8 ≤ (z1).toNatClampNeg then none else some ((fu (z1).toNatClampNeg)))))))
set_option maxHeartbeats 4000000 in
set_option maxRecDepth 100000 in
theorem c_X9_rule (l : Launch) (dC : Nat → ClassId) (dI : Nat → Nat → Nat) (a : Nat → Nat) (k : Nat → ClassId) (dv : Int32) (hi : Int32) (fu : Nat → Int32) (fp : Nat → Int32) (z1 : Int32) (o : Int32) (hG : F_X9_rule dv fu fp z1 = some o) : Met l yX9_rule (.code yX9_rule cX9_rule 2 (some .int) :: wA) ({ frames := 1, cells := 0, slots := 0, locals := 20 }) (va_Pc [.ref (a 0), .int z1] (q_R (dC, dI) [((a 0), .inr (9, [.ref (a 1), .ref (a 3), .ref (a 4), .ref (a 7), .ref (a 10), .ref (a 14), .ref (a 16), .ref (a 18), .ref (a 19), .ref (a 21), .ref (a 23), .ref (a 25), .ref (a 27), .ref (a 28), .int hi])), ((a 7), .inr (5, [.ref (a 8), .ref (a 9), .int dv])), ((a 8), .inl ((k 8), 8, .inl fu)), ((a 9), .inl ((k 9), 48, .inl fp))] [((k 8), .int), ((k 9), .int)])) (q_i o) 0 0 (fun _ => False) := by
  refine Met.ofW (cc := cX9_rule) (maxL := 2) (ret := (some .int)) (by decide) rfl ?_
  intro p e s m args below meth c s₁ B hml hv
  obtain ⟨rfl, hP, hK⟩ := hv
  have hx := B.exec
  have hb := B.bytes
  have hr := B.returns
  have hts := atoms_spec (ws := .code yX9_rule cX9_rule 2 (some .int) :: wA) B.pre
  have hown : s.vm.findClass RX9 = some m.cls := findClass_of_methodNamed B.named
  have hlocks := B.notSynchronized
  have hS : va_S (fun _ => False) s.heap s.heap [] := va_S.rf
  have hl := lv_entry ([.ref (a 0), .int z1]) (n := 2) (Nat.le_of_ble_eq_true rfl)
  rw [lg_entry_eq]
  generalize (lg_sl ([.ref (a 0), .int z1]) ++ List.replicate (2 - (lg_sl ([.ref (a 0), .int z1])).length) Slot.unset).toArray = ls at hl ⊢
  have hl : lv_has ls 2 [(0, .ref (a 0)), (1, .int z1)] := hl
  unfold F_X9_rule at hG
  refine lv_aload_n hx hb dX9_rule_0 rfl (lv_at hl 0 rfl) ?_
  refine va_get (D := (dC, dI)) (ci := 9) (v := .ref (a 7)) (C := RX9) (T := TX9) (N := 15) hx hb hts iA_9 hown hK hP 0 rfl rfl 3 (by decide) (hts (.fieldLink RX9 32 "HubTree" "plan" "LHubTree$Plan;") (List.mem_cons_of_mem _ m_26)) (fun _ h9 => h9) rfl dX9_rule_1 ?_
  obtain ⟨o_1, r_2, hG⟩ := q_bi hG
  refine q_goi (v := o_1) (va_runV (As := []) (rest := []) ⟨hx, hb, hml, hown, hts⟩ (c_X5_isTold l dC dI (a 7) (a 8) (a 9) dv o_1 r_2) (cwV 0 hts (q_gV m_449 m_300 m_301 m_24 m_302) rfl rfl rfl hdV_yX5_isTold_0 ⟨Nat.le_of_ble_eq_true rfl, Nat.le_of_ble_eq_true rfl⟩) (q_preV hK hP (q := (RX5, TX5, 3)) (ci := 5) (q0 := 1) rfl rfl [1] rfl [] rfl) rfl rfl hl.1 rfl (lv_room (Nat.le_of_ble_eq_true rfl)) dX9_rule_4 ⟨Nat.le_of_ble_eq_true rfl, Nat.le_of_ble_eq_true rfl⟩) hP hS (fun H locs hP hS => ?_)
  refine lv_if_eq (tgt := 32) hx hb dX9_rule_7 (by decide) (fun c_3 => ?_) (fun c_3 => ?_)
  · have hG := q_ifp c_3 hG
    refine lv_iconst (v := (-1)) hx hb dX9_rule_32 (by decide) ?_
    obtain rfl := Option.some.inj hG
    exact W.iret (v := (-1)) hx hb hr (fun t ht hW => ⟨⟨(-1), (), rfl, rfl, trivial⟩, hS.F ht⟩) hS.2.2 dX9_rule_33
  · have hG := q_ifn c_3 hG
    refine lv_iload_n hx hb dX9_rule_10 rfl (lv_at hl 1 rfl) ?_
    refine lv_if_lt (tgt := 32) hx hb dX9_rule_11 (by decide) (fun c_4 => ?_) (fun c_4 => ?_)
    · have hG := q_ifp c_4 hG
      refine lv_iconst (v := (-1)) hx hb dX9_rule_32 (by decide) ?_
      obtain rfl := Option.some.inj hG
      exact W.iret (v := (-1)) hx hb hr (fun t ht hW => ⟨⟨(-1), (), rfl, rfl, trivial⟩, hS.F ht⟩) hS.2.2 dX9_rule_33
    · have hG := q_ifn c_4 hG
      refine lv_iload_n hx hb dX9_rule_14 rfl (lv_at hl 1 rfl) ?_
      refine lv_bipush (v := 8) hx hb dX9_rule_15 (by decide) ?_
      refine lv_icmp_ge (tgt := 32) hx hb dX9_rule_17 (by decide) (fun c_5 => ?_) (fun c_5 => ?_)
      · have hG := q_ifp c_5 hG
        refine lv_iconst (v := (-1)) hx hb dX9_rule_32 (by decide) ?_
        obtain rfl := Option.some.inj hG
        exact W.iret (v := (-1)) hx hb hr (fun t ht hW => ⟨⟨(-1), (), rfl, rfl, trivial⟩, hS.F ht⟩) hS.2.2 dX9_rule_33
      · have hG := q_ifn c_5 hG
        refine lv_aload_n hx hb dX9_rule_20 rfl (lv_at hl 0 rfl) ?_
        refine va_get (D := (dC, dI)) (ci := 9) (v := .ref (a 7)) (C := RX9) (T := TX9) (N := 15) hx hb hts iA_9 hown hK hP 0 rfl rfl 3 (by decide) (hts (.fieldLink RX9 32 "HubTree" "plan" "LHubTree$Plan;") (List.mem_cons_of_mem _ m_26)) (fun _ h9 => h9) rfl dX9_rule_21 ?_
        refine va_get (D := (dC, dI)) (ci := 5) (v := .ref (a 8)) (C := RX5) (T := TX5) (N := 3) hx hb hts iA_5 hown hK hP 1 rfl rfl 0 (by decide) (hts (.fieldLink RX9 150 "HubTree$Plan" "rules" "[I") (List.mem_cons_of_mem _ m_448)) (fun _ h9 => h9) rfl dX9_rule_24 ?_
        refine lv_iload_n hx hb dX9_rule_27 rfl (lv_at hl 1 rfl) ?_
        obtain ⟨h_6, hG⟩ := q_ix hG
        refine va_iald hx hb hK hP 2 0 rfl rfl (i := z1) h_6 dX9_rule_28 ?_
        refine q_top (y := (fu (z1).toNatClampNeg)) rfl ?_
        refine lv_goto (tgt := 33) hx hb dX9_rule_29 (by decide) ?_
        obtain rfl := Option.some.inj hG
        exact W.iret (v := (fu (z1).toNatClampNeg)) hx hb hr (fun t ht hW => ⟨⟨(fu (z1).toNatClampNeg), (), rfl, rfl, trivial⟩, hS.F ht⟩) hS.2.2 dX9_rule_33

def F_X9_told (dv : Int32) (fu : Nat → Int32) (fp : Nat → Int32) (fr : Nat → Int32) (z1 : Int32) (z2 : Int32) : Option (Int32) := ((F_X5_has dv z1).bind fun o_1 => (if o_1 = 0 then some ((-1)) else (if z2 < 0 then some ((-1)) else (if z2 < 6 then (if z2 = 5 then (if (80 + z1) < 0 ∨ 98 ≤ ((80 + z1)).toNatClampNeg then none else some ((fr (80 + z1).toNatClampNeg))) else (if ((z2 * 8) + z1) < 0 ∨ 48 ≤ (((z2 * 8) + z1)).toNatClampNeg then none else some ((fp ((z2 * 8) + z1).toNatClampNeg)))) else some ((-1))))))
set_option maxHeartbeats 4000000 in
set_option maxRecDepth 100000 in
theorem c_X9_told (l : Launch) (dC : Nat → ClassId) (dI : Nat → Nat → Nat) (a : Nat → Nat) (k : Nat → ClassId) (dv : Int32) (hi : Int32) (fu : Nat → Int32) (fp : Nat → Int32) (fr : Nat → Int32) (z1 : Int32) (z2 : Int32) (o : Int32) (hG : F_X9_told dv fu fp fr z1 z2 = some o) : Met l yX9_told (.code yX9_told cX9_told 3 (some .int) :: wA) ({ frames := 1, cells := 0, slots := 0, locals := 21 }) (va_Pc [.ref (a 0), .int z1, .int z2] (q_R (dC, dI) [((a 0), .inr (9, [.ref (a 1), .ref (a 3), .ref (a 4), .ref (a 7), .ref (a 10), .ref (a 14), .ref (a 16), .ref (a 18), .ref (a 19), .ref (a 21), .ref (a 23), .ref (a 25), .ref (a 27), .ref (a 28), .int hi])), ((a 14), .inr (0, [.ref (a 15), .ref (a 7)])), ((a 15), .inl ((k 15), 98, .inl fr)), ((a 7), .inr (5, [.ref (a 8), .ref (a 9), .int dv])), ((a 8), .inl ((k 8), 8, .inl fu)), ((a 9), .inl ((k 9), 48, .inl fp))] [((k 15), .int), ((k 8), .int), ((k 9), .int)])) (q_i o) 0 0 (fun _ => False) := by
  refine Met.ofW (cc := cX9_told) (maxL := 3) (ret := (some .int)) (by decide) rfl ?_
  intro p e s m args below meth c s₁ B hml hv
  obtain ⟨rfl, hP, hK⟩ := hv
  have hx := B.exec
  have hb := B.bytes
  have hr := B.returns
  have hts := atoms_spec (ws := .code yX9_told cX9_told 3 (some .int) :: wA) B.pre
  have hown : s.vm.findClass RX9 = some m.cls := findClass_of_methodNamed B.named
  have hlocks := B.notSynchronized
  have hS : va_S (fun _ => False) s.heap s.heap [] := va_S.rf
  have hl := lv_entry ([.ref (a 0), .int z1, .int z2]) (n := 3) (Nat.le_of_ble_eq_true rfl)
  rw [lg_entry_eq]
  generalize (lg_sl ([.ref (a 0), .int z1, .int z2]) ++ List.replicate (3 - (lg_sl ([.ref (a 0), .int z1, .int z2])).length) Slot.unset).toArray = ls at hl ⊢
  have hl : lv_has ls 3 [(0, .ref (a 0)), (1, .int z1), (2, .int z2)] := hl
  unfold F_X9_told at hG
  refine lv_aload_n hx hb dX9_told_0 rfl (lv_at hl 0 rfl) ?_
  refine va_get (D := (dC, dI)) (ci := 9) (v := .ref (a 7)) (C := RX9) (T := TX9) (N := 15) hx hb hts iA_9 hown hK hP 0 rfl rfl 3 (by decide) (hts (.fieldLink RX9 32 "HubTree" "plan" "LHubTree$Plan;") (List.mem_cons_of_mem _ m_26)) (fun _ h9 => h9) rfl dX9_told_1 ?_
  refine lv_iload_n hx hb dX9_told_4 rfl (lv_at hl 1 rfl) ?_
  obtain ⟨o_1, r_2, hG⟩ := q_bi hG
  refine q_goi (v := o_1) (va_runV (As := [.int z1]) (rest := []) ⟨hx, hb, hml, hown, hts⟩ (c_X5_has l dC dI (a 7) (a 8) (a 9) dv z1 o_1 r_2) (cwV 1 hts (q_gV m_464 m_465 m_466 m_24 m_467) rfl rfl rfl hdV_yX5_has_1 ⟨Nat.le_of_ble_eq_true rfl, Nat.le_of_ble_eq_true rfl⟩) (q_preV hK hP (q := (RX5, TX5, 3)) (ci := 5) (q0 := 3) rfl rfl [3] rfl [] rfl) rfl rfl hl.1 rfl (lv_room (Nat.le_of_ble_eq_true rfl)) dX9_told_5 ⟨Nat.le_of_ble_eq_true rfl, Nat.le_of_ble_eq_true rfl⟩) hP hS (fun H locs hP hS => ?_)
  refine lv_if_eq (tgt := 21) hx hb dX9_told_8 (by decide) (fun c_3 => ?_) (fun c_3 => ?_)
  · have hG := q_ifp c_3 hG
    refine lv_iconst (v := (-1)) hx hb dX9_told_21 (by decide) ?_
    obtain rfl := Option.some.inj hG
    exact W.iret (v := (-1)) hx hb hr (fun t ht hW => ⟨⟨(-1), (), rfl, rfl, trivial⟩, hS.F ht⟩) hS.2.2 dX9_told_22
  · have hG := q_ifn c_3 hG
    refine lv_iload_n hx hb dX9_told_11 rfl (lv_at hl 2 rfl) ?_
    refine lv_if_lt (tgt := 21) hx hb dX9_told_12 (by decide) (fun c_4 => ?_) (fun c_4 => ?_)
    · have hG := q_ifp c_4 hG
      refine lv_iconst (v := (-1)) hx hb dX9_told_21 (by decide) ?_
      obtain rfl := Option.some.inj hG
      exact W.iret (v := (-1)) hx hb hr (fun t ht hW => ⟨⟨(-1), (), rfl, rfl, trivial⟩, hS.F ht⟩) hS.2.2 dX9_told_22
    · have hG := q_ifn c_4 hG
      refine lv_iload_n hx hb dX9_told_15 rfl (lv_at hl 2 rfl) ?_
      refine lv_bipush (v := 6) hx hb dX9_told_16 (by decide) ?_
      refine lv_icmp_lt (tgt := 23) hx hb dX9_told_18 (by decide) (fun c_5 => ?_) (fun c_5 => ?_)
      · have hG := q_ifp c_5 hG
        refine lv_iload_n hx hb dX9_told_23 rfl (lv_at hl 2 rfl) ?_
        refine lv_iconst (v := 5) hx hb dX9_told_24 (by decide) ?_
        refine lv_icmp_ne (tgt := 43) hx hb dX9_told_25 (by decide) (fun c_6 => ?_) (fun c_6 => ?_)
        · have hG := q_ifn c_6 hG
          refine lv_aload_n hx hb dX9_told_43 rfl (lv_at hl 0 rfl) ?_
          refine va_get (D := (dC, dI)) (ci := 9) (v := .ref (a 7)) (C := RX9) (T := TX9) (N := 15) hx hb hts iA_9 hown hK hP 0 rfl rfl 3 (by decide) (hts (.fieldLink RX9 32 "HubTree" "plan" "LHubTree$Plan;") (List.mem_cons_of_mem _ m_26)) (fun _ h9 => h9) rfl dX9_told_44 ?_
          refine va_get (D := (dC, dI)) (ci := 5) (v := .ref (a 9)) (C := RX5) (T := TX5) (N := 3) hx hb hts iA_5 hown hK hP 3 rfl rfl 1 (by decide) (hts (.fieldLink RX9 160 "HubTree$Plan" "row" "[I") (List.mem_cons_of_mem _ m_463)) (fun _ h9 => h9) rfl dX9_told_47 ?_
          refine lv_iload_n hx hb dX9_told_50 rfl (lv_at hl 2 rfl) ?_
          refine lv_bipush (v := 8) hx hb dX9_told_51 (by decide) ?_
          refine lv_imul hx hb dX9_told_53 ?_
          refine lv_iload_n hx hb dX9_told_54 rfl (lv_at hl 1 rfl) ?_
          refine lv_iadd hx hb dX9_told_55 ?_
          obtain ⟨h_7, hG⟩ := q_ix hG
          refine va_iald hx hb hK hP 5 2 rfl rfl (i := ((z2 * 8) + z1)) h_7 dX9_told_56 ?_
          refine q_top (y := (fp ((z2 * 8) + z1).toNatClampNeg)) rfl ?_
          obtain rfl := Option.some.inj hG
          exact W.iret (v := (fp ((z2 * 8) + z1).toNatClampNeg)) hx hb hr (fun t ht hW => ⟨⟨(fp ((z2 * 8) + z1).toNatClampNeg), (), rfl, rfl, trivial⟩, hS.F ht⟩) hS.2.2 dX9_told_57
        · have hG := q_ifp c_6 hG
          refine lv_aload_n hx hb dX9_told_28 rfl (lv_at hl 0 rfl) ?_
          refine va_get (D := (dC, dI)) (ci := 9) (v := .ref (a 14)) (C := RX9) (T := TX9) (N := 15) hx hb hts iA_9 hown hK hP 0 rfl rfl 5 (by decide) (hts (.fieldLink RX9 47 "HubTree" "now" "LHubTree$Bus;") (List.mem_cons_of_mem _ m_34)) (fun _ h9 => h9) rfl dX9_told_29 ?_
          refine va_get (D := (dC, dI)) (ci := 0) (v := .ref (a 15)) (C := RX0) (T := TX0) (N := 2) hx hb hts iA_0 hown hK hP 1 rfl rfl 0 (by decide) (hts (.fieldLink RX9 157 "HubTree$Bus" "row" "[I") (List.mem_cons_of_mem _ m_462)) (fun _ h9 => h9) rfl dX9_told_32 ?_
          refine lv_bipush (v := 80) hx hb dX9_told_35 (by decide) ?_
          refine lv_iload_n hx hb dX9_told_37 rfl (lv_at hl 1 rfl) ?_
          refine lv_iadd hx hb dX9_told_38 ?_
          obtain ⟨h_8, hG⟩ := q_ix hG
          refine va_iald hx hb hK hP 2 0 rfl rfl (i := (80 + z1)) h_8 dX9_told_39 ?_
          refine q_top (y := (fr (80 + z1).toNatClampNeg)) rfl ?_
          refine lv_goto (tgt := 57) hx hb dX9_told_40 (by decide) ?_
          obtain rfl := Option.some.inj hG
          exact W.iret (v := (fr (80 + z1).toNatClampNeg)) hx hb hr (fun t ht hW => ⟨⟨(fr (80 + z1).toNatClampNeg), (), rfl, rfl, trivial⟩, hS.F ht⟩) hS.2.2 dX9_told_57
      · have hG := q_ifn c_5 hG
        refine lv_iconst (v := (-1)) hx hb dX9_told_21 (by decide) ?_
        obtain rfl := Option.some.inj hG
        exact W.iret (v := (-1)) hx hb hr (fun t ht hW => ⟨⟨(-1), (), rfl, rfl, trivial⟩, hS.F ht⟩) hS.2.2 dX9_told_22

def F_X9_port (dv : Int32) (fu : Nat → Int32) (fp : Nat → Int32) (fr : Nat → Int32) (z1 : Int32) (z2 : Int32) : Option (Int32) := ((F_X5_hasPort dv fu fp z1 z2).bind fun o_1 => (if o_1 = 0 then some ((-1)) else ((F_X0_pluggedInto fr dv fu fp z1 z2).bind fun o_4 => some (o_4))))
set_option maxHeartbeats 4000000 in
set_option maxRecDepth 100000 in
theorem c_X9_port (l : Launch) (dC : Nat → ClassId) (dI : Nat → Nat → Nat) (a : Nat → Nat) (k : Nat → ClassId) (dv : Int32) (hi : Int32) (fu : Nat → Int32) (fp : Nat → Int32) (fr : Nat → Int32) (z1 : Int32) (z2 : Int32) (o : Int32) (hG : F_X9_port dv fu fp fr z1 z2 = some o) : Met l yX9_port (.code yX9_port cX9_port 3 (some .int) :: wA) ({ frames := 2, cells := 0, slots := 0, locals := 43 }) (va_Pc [.ref (a 0), .int z1, .int z2] (q_R (dC, dI) [((a 0), .inr (9, [.ref (a 1), .ref (a 3), .ref (a 4), .ref (a 7), .ref (a 10), .ref (a 14), .ref (a 16), .ref (a 18), .ref (a 19), .ref (a 21), .ref (a 23), .ref (a 25), .ref (a 27), .ref (a 28), .int hi])), ((a 14), .inr (0, [.ref (a 15), .ref (a 7)])), ((a 15), .inl ((k 15), 98, .inl fr)), ((a 7), .inr (5, [.ref (a 8), .ref (a 9), .int dv])), ((a 8), .inl ((k 8), 8, .inl fu)), ((a 9), .inl ((k 9), 48, .inl fp))] [((k 15), .int), ((k 8), .int), ((k 9), .int)])) (q_i o) 0 0 (fun _ => False) := by
  refine Met.ofW (cc := cX9_port) (maxL := 3) (ret := (some .int)) (by decide) rfl ?_
  intro p e s m args below meth c s₁ B hml hv
  obtain ⟨rfl, hP, hK⟩ := hv
  have hx := B.exec
  have hb := B.bytes
  have hr := B.returns
  have hts := atoms_spec (ws := .code yX9_port cX9_port 3 (some .int) :: wA) B.pre
  have hown : s.vm.findClass RX9 = some m.cls := findClass_of_methodNamed B.named
  have hlocks := B.notSynchronized
  have hS : va_S (fun _ => False) s.heap s.heap [] := va_S.rf
  have hl := lv_entry ([.ref (a 0), .int z1, .int z2]) (n := 3) (Nat.le_of_ble_eq_true rfl)
  rw [lg_entry_eq]
  generalize (lg_sl ([.ref (a 0), .int z1, .int z2]) ++ List.replicate (3 - (lg_sl ([.ref (a 0), .int z1, .int z2])).length) Slot.unset).toArray = ls at hl ⊢
  have hl : lv_has ls 3 [(0, .ref (a 0)), (1, .int z1), (2, .int z2)] := hl
  unfold F_X9_port at hG
  refine lv_aload_n hx hb dX9_port_0 rfl (lv_at hl 0 rfl) ?_
  refine va_get (D := (dC, dI)) (ci := 9) (v := .ref (a 7)) (C := RX9) (T := TX9) (N := 15) hx hb hts iA_9 hown hK hP 0 rfl rfl 3 (by decide) (hts (.fieldLink RX9 32 "HubTree" "plan" "LHubTree$Plan;") (List.mem_cons_of_mem _ m_26)) (fun _ h9 => h9) rfl dX9_port_1 ?_
  refine lv_iload_n hx hb dX9_port_4 rfl (lv_at hl 1 rfl) ?_
  refine lv_iload_n hx hb dX9_port_5 rfl (lv_at hl 2 rfl) ?_
  obtain ⟨o_1, r_2, hG⟩ := q_bi hG
  refine q_goi (v := o_1) (va_runV (As := [.int z1, .int z2]) (rest := []) ⟨hx, hb, hml, hown, hts⟩ (c_X5_hasPort l dC dI (a 7) (a 8) (a 9) dv (k 8) (k 9) fu fp z1 z2 o_1 r_2) (cwV 2 hts (q_gV m_524 m_525 m_526 m_24 m_527) rfl rfl rfl hdV_yX5_hasPort_2 ⟨Nat.le_of_ble_eq_true rfl, Nat.le_of_ble_eq_true rfl⟩) (q_preV hK hP (q := (RX5, TX5, 3)) (ci := 5) (q0 := 3) rfl rfl [3, 4, 5] rfl [1, 2] rfl) rfl rfl hl.1 rfl (lv_room (Nat.le_of_ble_eq_true rfl)) dX9_port_6 ⟨Nat.le_of_ble_eq_true rfl, Nat.le_of_ble_eq_true rfl⟩) hP hS (fun H locs hP hS => ?_)
  refine lv_if_eq (tgt := 24) hx hb dX9_port_9 (by decide) (fun c_3 => ?_) (fun c_3 => ?_)
  · have hG := q_ifp c_3 hG
    refine lv_iconst (v := (-1)) hx hb dX9_port_24 (by decide) ?_
    obtain rfl := Option.some.inj hG
    exact W.iret (v := (-1)) hx hb hr (fun t ht hW => ⟨⟨(-1), (), rfl, rfl, trivial⟩, hS.F ht⟩) hS.2.2 dX9_port_25
  · have hG := q_ifn c_3 hG
    refine lv_aload_n hx hb dX9_port_12 rfl (lv_at hl 0 rfl) ?_
    refine va_get (D := (dC, dI)) (ci := 9) (v := .ref (a 14)) (C := RX9) (T := TX9) (N := 15) hx hb hts iA_9 hown hK hP 0 rfl rfl 5 (by decide) (hts (.fieldLink RX9 47 "HubTree" "now" "LHubTree$Bus;") (List.mem_cons_of_mem _ m_34)) (fun _ h9 => h9) rfl dX9_port_13 ?_
    refine lv_iload_n hx hb dX9_port_16 rfl (lv_at hl 1 rfl) ?_
    refine lv_iload_n hx hb dX9_port_17 rfl (lv_at hl 2 rfl) ?_
    obtain ⟨o_4, r_5, hG⟩ := q_bi hG
    refine q_goi (v := o_4) (va_runV (As := [.int z1, .int z2]) (rest := []) ⟨hx, hb, hml, hown, hts⟩ (c_X0_pluggedInto l dC dI (a 14) (a 15) (a 7) (a 8) (a 9) dv (k 15) fr (k 8) (k 9) fu fp z1 z2 o_4 r_5) (cwV 2 hts (q_gV m_532 m_533 m_534 m_33 m_535) rfl rfl rfl hdV_yX0_pluggedInto_2 ⟨Nat.le_of_ble_eq_true rfl, Nat.le_of_ble_eq_true rfl⟩) (q_preV hK hP (q := (RX0, TX0, 2)) (ci := 0) (q0 := 1) rfl rfl [1, 2, 3, 4, 5] rfl [0, 1, 2] rfl) rfl rfl hl.1 rfl (lv_room (Nat.le_of_ble_eq_true rfl)) dX9_port_18 ⟨Nat.le_of_ble_eq_true rfl, Nat.le_of_ble_eq_true rfl⟩) hP hS (fun H locs hP hS => ?_)
    refine lv_goto (tgt := 25) hx hb dX9_port_21 (by decide) ?_
    obtain rfl := Option.some.inj hG
    exact W.iret (v := o_4) hx hb hr (fun t ht hW => ⟨⟨o_4, (), rfl, rfl, trivial⟩, hS.F ht⟩) hS.2.2 dX9_port_25

def F_X9_hub (dv : Int32) (fu : Nat → Int32) (fp : Nat → Int32) (fr : Nat → Int32) (z1 : Int32) (z2 : Int32) : Option (Int32) := ((F_X5_isHub dv fu fp z1).bind fun o_1 => (if o_1 = 0 then some ((-1000000)) else (if z2 = 0 then ((F_X0_beneath fr dv fu fp z1).bind fun o_5 => some (o_5)) else (if z2 = 1 then ((F_X0_rightAt fr dv fu fp z1).bind fun o_8 => some (o_8)) else (if z2 = 2 then ((F_X0_portGives fr dv fu fp z1).bind fun o_11 => some (o_11)) else (if z2 = 3 then ((F_X0_isBoundless fr dv fu fp z1).bind fun o_14 => (if o_14 = 0 then ((F_X0_is fr dv fu fp z1 0).bind fun o_17 => (if o_17 = 0 then ((F_X0_leftOf fr dv fu fp z1 (-1)).bind fun o_20 => some (o_20)) else some ((-1000000)))) else some ((-1000000)))) else (if z2 = 4 then ((F_X0_helpOf fr dv fu fp z1).bind fun o_23 => some (o_23)) else (if z2 = 5 then ((F_X5_portsOf dv fu fp z1).bind fun o_26 => ((F_X0_rightAt fr dv fu fp z1).bind fun o_28 => ((F_J6_bitCount_0f7a4 o_28).bind fun o_30 => some ((o_26 - o_30))))) else some ((-1000000))))))))))
set_option maxHeartbeats 4000000 in
set_option maxRecDepth 100000 in
theorem c_X9_hub (l : Launch) (dC : Nat → ClassId) (dI : Nat → Nat → Nat) (a : Nat → Nat) (k : Nat → ClassId) (dv : Int32) (hi : Int32) (fu : Nat → Int32) (fp : Nat → Int32) (fr : Nat → Int32) (z1 : Int32) (z2 : Int32) (o : Int32) (hG : F_X9_hub dv fu fp fr z1 z2 = some o) : Met l yX9_hub (.code yX9_hub cX9_hub 3 (some .int) :: wA) ({ frames := 2, cells := 0, slots := 0, locals := 47 }) (va_Pc [.ref (a 0), .int z1, .int z2] (q_R (dC, dI) [((a 0), .inr (9, [.ref (a 1), .ref (a 3), .ref (a 4), .ref (a 7), .ref (a 10), .ref (a 14), .ref (a 16), .ref (a 18), .ref (a 19), .ref (a 21), .ref (a 23), .ref (a 25), .ref (a 27), .ref (a 28), .int hi])), ((a 14), .inr (0, [.ref (a 15), .ref (a 7)])), ((a 15), .inl ((k 15), 98, .inl fr)), ((a 7), .inr (5, [.ref (a 8), .ref (a 9), .int dv])), ((a 8), .inl ((k 8), 8, .inl fu)), ((a 9), .inl ((k 9), 48, .inl fp))] [((k 15), .int), ((k 8), .int), ((k 9), .int)])) (q_i o) 0 0 (fun _ => False) := by
  refine Met.ofW (cc := cX9_hub) (maxL := 3) (ret := (some .int)) (by decide) rfl ?_
  intro p e s m args below meth c s₁ B hml hv
  obtain ⟨rfl, hP, hK⟩ := hv
  have hx := B.exec
  have hb := B.bytes
  have hr := B.returns
  have hts := atoms_spec (ws := .code yX9_hub cX9_hub 3 (some .int) :: wA) B.pre
  have hown : s.vm.findClass RX9 = some m.cls := findClass_of_methodNamed B.named
  have hlocks := B.notSynchronized
  have hS : va_S (fun _ => False) s.heap s.heap [] := va_S.rf
  have hl := lv_entry ([.ref (a 0), .int z1, .int z2]) (n := 3) (Nat.le_of_ble_eq_true rfl)
  rw [lg_entry_eq]
  generalize (lg_sl ([.ref (a 0), .int z1, .int z2]) ++ List.replicate (3 - (lg_sl ([.ref (a 0), .int z1, .int z2])).length) Slot.unset).toArray = ls at hl ⊢
  have hl : lv_has ls 3 [(0, .ref (a 0)), (1, .int z1), (2, .int z2)] := hl
  unfold F_X9_hub at hG
  refine lv_aload_n hx hb dX9_hub_0 rfl (lv_at hl 0 rfl) ?_
  refine va_get (D := (dC, dI)) (ci := 9) (v := .ref (a 7)) (C := RX9) (T := TX9) (N := 15) hx hb hts iA_9 hown hK hP 0 rfl rfl 3 (by decide) (hts (.fieldLink RX9 32 "HubTree" "plan" "LHubTree$Plan;") (List.mem_cons_of_mem _ m_26)) (fun _ h9 => h9) rfl dX9_hub_1 ?_
  refine lv_iload_n hx hb dX9_hub_4 rfl (lv_at hl 1 rfl) ?_
  obtain ⟨o_1, r_2, hG⟩ := q_bi hG
  refine q_goi (v := o_1) (va_runV (As := [.int z1]) (rest := []) ⟨hx, hb, hml, hown, hts⟩ (c_X5_isHub l dC dI (a 7) (a 8) (a 9) dv (k 8) (k 9) fu fp z1 o_1 r_2) (cwV 1 hts (q_gV m_557 m_558 m_559 m_24 m_560) rfl rfl rfl hdV_yX5_isHub_1 ⟨Nat.le_of_ble_eq_true rfl, Nat.le_of_ble_eq_true rfl⟩) (q_preV hK hP (q := (RX5, TX5, 3)) (ci := 5) (q0 := 3) rfl rfl [3, 4, 5] rfl [1, 2] rfl) rfl rfl hl.1 rfl (lv_room (Nat.le_of_ble_eq_true rfl)) dX9_hub_5 ⟨Nat.le_of_ble_eq_true rfl, Nat.le_of_ble_eq_true rfl⟩) hP hS (fun H locs hP hS => ?_)
  refine lv_if_ne (tgt := 14) hx hb dX9_hub_8 (by decide) (fun c_3 => ?_) (fun c_3 => ?_)
  · have hG := q_ifn c_3 hG
    refine lv_iload_n hx hb dX9_hub_14 rfl (lv_at hl 2 rfl) ?_
    by_cases e_4 : z2 = 0
    · have hG := q_ifp e_4 hG
      refine lv_tableIn (off := 37) (tgt := 52) hx hb dX9_hub_15 (by rw [e_4]; decide) (by rw [e_4]; decide) (by rw [e_4]; decide) (by decide) ?_
      refine lv_aload_n hx hb dX9_hub_52 rfl (lv_at hl 0 rfl) ?_
      refine va_get (D := (dC, dI)) (ci := 9) (v := .ref (a 14)) (C := RX9) (T := TX9) (N := 15) hx hb hts iA_9 hown hK hP 0 rfl rfl 5 (by decide) (hts (.fieldLink RX9 47 "HubTree" "now" "LHubTree$Bus;") (List.mem_cons_of_mem _ m_34)) (fun _ h9 => h9) rfl dX9_hub_53 ?_
      refine lv_iload_n hx hb dX9_hub_56 rfl (lv_at hl 1 rfl) ?_
      obtain ⟨o_5, r_6, hG⟩ := q_bi hG
      refine q_goi (v := o_5) (va_runV (As := [.int z1]) (rest := []) ⟨hx, hb, hml, hown, hts⟩ (c_X0_beneath l dC dI (a 14) (a 15) (a 7) (a 8) (a 9) dv (k 15) fr (k 8) (k 9) fu fp z1 o_5 r_6) (cwV 1 hts (q_gV m_561 m_562 m_563 m_33 m_564) rfl rfl rfl hdV_yX0_beneath_1 ⟨Nat.le_of_ble_eq_true rfl, Nat.le_of_ble_eq_true rfl⟩) (q_preV hK hP (q := (RX0, TX0, 2)) (ci := 0) (q0 := 1) rfl rfl [1, 2, 3, 4, 5] rfl [0, 1, 2] rfl) rfl rfl hl.1 rfl (lv_room (Nat.le_of_ble_eq_true rfl)) dX9_hub_57 ⟨Nat.le_of_ble_eq_true rfl, Nat.le_of_ble_eq_true rfl⟩) hP hS (fun H locs hP hS => ?_)
      obtain rfl := Option.some.inj hG
      exact W.iret (v := o_5) hx hb hr (fun t ht hW => ⟨⟨o_5, (), rfl, rfl, trivial⟩, hS.F ht⟩) hS.2.2 dX9_hub_60
    have hG := q_ifn e_4 hG
    by_cases e_7 : z2 = 1
    · have hG := q_ifp e_7 hG
      refine lv_tableIn (off := 46) (tgt := 61) hx hb dX9_hub_15 (by rw [e_7]; decide) (by rw [e_7]; decide) (by rw [e_7]; decide) (by decide) ?_
      refine lv_aload_n hx hb dX9_hub_61 rfl (lv_at hl 0 rfl) ?_
      refine va_get (D := (dC, dI)) (ci := 9) (v := .ref (a 14)) (C := RX9) (T := TX9) (N := 15) hx hb hts iA_9 hown hK hP 0 rfl rfl 5 (by decide) (hts (.fieldLink RX9 47 "HubTree" "now" "LHubTree$Bus;") (List.mem_cons_of_mem _ m_34)) (fun _ h9 => h9) rfl dX9_hub_62 ?_
      refine lv_iload_n hx hb dX9_hub_65 rfl (lv_at hl 1 rfl) ?_
      obtain ⟨o_8, r_9, hG⟩ := q_bi hG
      refine q_goi (v := o_8) (va_runV (As := [.int z1]) (rest := []) ⟨hx, hb, hml, hown, hts⟩ (c_X0_rightAt l dC dI (a 14) (a 15) (a 7) (a 8) (a 9) dv (k 15) fr (k 8) (k 9) fu fp z1 o_8 r_9) (cwV 1 hts (q_gV m_569 m_570 m_571 m_33 m_572) rfl rfl rfl hdV_yX0_rightAt_1 ⟨Nat.le_of_ble_eq_true rfl, Nat.le_of_ble_eq_true rfl⟩) (q_preV hK hP (q := (RX0, TX0, 2)) (ci := 0) (q0 := 1) rfl rfl [1, 2, 3, 4, 5] rfl [0, 1, 2] rfl) rfl rfl hl.1 rfl (lv_room (Nat.le_of_ble_eq_true rfl)) dX9_hub_66 ⟨Nat.le_of_ble_eq_true rfl, Nat.le_of_ble_eq_true rfl⟩) hP hS (fun H locs hP hS => ?_)
      obtain rfl := Option.some.inj hG
      exact W.iret (v := o_8) hx hb hr (fun t ht hW => ⟨⟨o_8, (), rfl, rfl, trivial⟩, hS.F ht⟩) hS.2.2 dX9_hub_69
    have hG := q_ifn e_7 hG
    by_cases e_10 : z2 = 2
    · have hG := q_ifp e_10 hG
      refine lv_tableIn (off := 55) (tgt := 70) hx hb dX9_hub_15 (by rw [e_10]; decide) (by rw [e_10]; decide) (by rw [e_10]; decide) (by decide) ?_
      refine lv_aload_n hx hb dX9_hub_70 rfl (lv_at hl 0 rfl) ?_
      refine va_get (D := (dC, dI)) (ci := 9) (v := .ref (a 14)) (C := RX9) (T := TX9) (N := 15) hx hb hts iA_9 hown hK hP 0 rfl rfl 5 (by decide) (hts (.fieldLink RX9 47 "HubTree" "now" "LHubTree$Bus;") (List.mem_cons_of_mem _ m_34)) (fun _ h9 => h9) rfl dX9_hub_71 ?_
      refine lv_iload_n hx hb dX9_hub_74 rfl (lv_at hl 1 rfl) ?_
      obtain ⟨o_11, r_12, hG⟩ := q_bi hG
      refine q_goi (v := o_11) (va_runV (As := [.int z1]) (rest := []) ⟨hx, hb, hml, hown, hts⟩ (c_X0_portGives l dC dI (a 14) (a 15) (a 7) (a 8) (a 9) dv (k 15) fr (k 8) (k 9) fu fp z1 o_11 r_12) (cwV 1 hts (q_gV m_573 m_574 m_575 m_33 m_576) rfl rfl rfl hdV_yX0_portGives_1 ⟨Nat.le_of_ble_eq_true rfl, Nat.le_of_ble_eq_true rfl⟩) (q_preV hK hP (q := (RX0, TX0, 2)) (ci := 0) (q0 := 1) rfl rfl [1, 2, 3, 4, 5] rfl [0, 1, 2] rfl) rfl rfl hl.1 rfl (lv_room (Nat.le_of_ble_eq_true rfl)) dX9_hub_75 ⟨Nat.le_of_ble_eq_true rfl, Nat.le_of_ble_eq_true rfl⟩) hP hS (fun H locs hP hS => ?_)
      obtain rfl := Option.some.inj hG
      exact W.iret (v := o_11) hx hb hr (fun t ht hW => ⟨⟨o_11, (), rfl, rfl, trivial⟩, hS.F ht⟩) hS.2.2 dX9_hub_78
    have hG := q_ifn e_10 hG
    by_cases e_13 : z2 = 3
    · have hG := q_ifp e_13 hG
      refine lv_tableIn (off := 64) (tgt := 79) hx hb dX9_hub_15 (by rw [e_13]; decide) (by rw [e_13]; decide) (by rw [e_13]; decide) (by decide) ?_
      refine lv_aload_n hx hb dX9_hub_79 rfl (lv_at hl 0 rfl) ?_
      refine va_get (D := (dC, dI)) (ci := 9) (v := .ref (a 14)) (C := RX9) (T := TX9) (N := 15) hx hb hts iA_9 hown hK hP 0 rfl rfl 5 (by decide) (hts (.fieldLink RX9 47 "HubTree" "now" "LHubTree$Bus;") (List.mem_cons_of_mem _ m_34)) (fun _ h9 => h9) rfl dX9_hub_80 ?_
      refine lv_iload_n hx hb dX9_hub_83 rfl (lv_at hl 1 rfl) ?_
      obtain ⟨o_14, r_15, hG⟩ := q_bi hG
      refine q_goi (v := o_14) (va_runV (As := [.int z1]) (rest := []) ⟨hx, hb, hml, hown, hts⟩ (c_X0_isBoundless l dC dI (a 14) (a 15) (a 7) (a 8) (a 9) dv (k 15) fr (k 8) (k 9) fu fp z1 o_14 r_15) (cwV 1 hts (q_gV m_578 m_579 m_580 m_33 m_581) rfl rfl rfl hdV_yX0_isBoundless_1 ⟨Nat.le_of_ble_eq_true rfl, Nat.le_of_ble_eq_true rfl⟩) (q_preV hK hP (q := (RX0, TX0, 2)) (ci := 0) (q0 := 1) rfl rfl [1, 2, 3, 4, 5] rfl [0, 1, 2] rfl) rfl rfl hl.1 rfl (lv_room (Nat.le_of_ble_eq_true rfl)) dX9_hub_84 ⟨Nat.le_of_ble_eq_true rfl, Nat.le_of_ble_eq_true rfl⟩) hP hS (fun H locs hP hS => ?_)
      refine lv_if_ne (tgt := 102) hx hb dX9_hub_87 (by decide) (fun c_16 => ?_) (fun c_16 => ?_)
      · have hG := q_ifn c_16 hG
        refine lv_ldc (v := (-1000000)) hx hb hown (hts (.constant RX9 185 (-1000000)) (List.mem_cons_of_mem _ m_556)) dX9_hub_102 ?_
        refine lv_goto (tgt := 116) hx hb dX9_hub_104 (by decide) ?_
        obtain rfl := Option.some.inj hG
        exact W.iret (v := (-1000000)) hx hb hr (fun t ht hW => ⟨⟨(-1000000), (), rfl, rfl, trivial⟩, hS.F ht⟩) hS.2.2 dX9_hub_116
      · have hG := q_ifp c_16 hG
        refine lv_aload_n hx hb dX9_hub_90 rfl (lv_at hl 0 rfl) ?_
        refine va_get (D := (dC, dI)) (ci := 9) (v := .ref (a 14)) (C := RX9) (T := TX9) (N := 15) hx hb hts iA_9 hown hK hP 0 rfl rfl 5 (by decide) (hts (.fieldLink RX9 47 "HubTree" "now" "LHubTree$Bus;") (List.mem_cons_of_mem _ m_34)) (fun _ h9 => h9) rfl dX9_hub_91 ?_
        refine lv_iload_n hx hb dX9_hub_94 rfl (lv_at hl 1 rfl) ?_
        refine lv_iconst (v := 0) hx hb dX9_hub_95 (by decide) ?_
        obtain ⟨o_17, r_18, hG⟩ := q_bi hG
        refine q_goi (v := o_17) (va_runV (As := [.int z1, .int 0]) (rest := []) ⟨hx, hb, hml, hown, hts⟩ (c_X0_is l dC dI (a 14) (a 15) (a 7) (a 8) (a 9) dv (k 15) fr (k 8) (k 9) fu fp z1 0 o_17 r_18) (cwV 2 hts (q_gV m_582 m_583 m_584 m_33 m_585) rfl rfl rfl hdV_yX0_is_2 ⟨Nat.le_of_ble_eq_true rfl, Nat.le_of_ble_eq_true rfl⟩) (q_preV hK hP (q := (RX0, TX0, 2)) (ci := 0) (q0 := 1) rfl rfl [1, 2, 3, 4, 5] rfl [0, 1, 2] rfl) rfl rfl hl.1 rfl (lv_room (Nat.le_of_ble_eq_true rfl)) dX9_hub_96 ⟨Nat.le_of_ble_eq_true rfl, Nat.le_of_ble_eq_true rfl⟩) hP hS (fun H locs hP hS => ?_)
        refine lv_if_eq (tgt := 107) hx hb dX9_hub_99 (by decide) (fun c_19 => ?_) (fun c_19 => ?_)
        · have hG := q_ifp c_19 hG
          refine lv_aload_n hx hb dX9_hub_107 rfl (lv_at hl 0 rfl) ?_
          refine va_get (D := (dC, dI)) (ci := 9) (v := .ref (a 14)) (C := RX9) (T := TX9) (N := 15) hx hb hts iA_9 hown hK hP 0 rfl rfl 5 (by decide) (hts (.fieldLink RX9 47 "HubTree" "now" "LHubTree$Bus;") (List.mem_cons_of_mem _ m_34)) (fun _ h9 => h9) rfl dX9_hub_108 ?_
          refine lv_iload_n hx hb dX9_hub_111 rfl (lv_at hl 1 rfl) ?_
          refine lv_iconst (v := (-1)) hx hb dX9_hub_112 (by decide) ?_
          obtain ⟨o_20, r_21, hG⟩ := q_bi hG
          refine q_goi (v := o_20) (va_runV (As := [.int z1, .int (-1)]) (rest := []) ⟨hx, hb, hml, hown, hts⟩ (c_X0_leftOf l dC dI (a 14) (a 15) (a 7) (a 8) (a 9) dv (k 15) fr (k 8) (k 9) fu fp z1 (-1) o_20 r_21) (cwV 2 hts (q_gV m_586 m_587 m_588 m_33 m_589) rfl rfl rfl hdV_yX0_leftOf_2 ⟨Nat.le_of_ble_eq_true rfl, Nat.le_of_ble_eq_true rfl⟩) (q_preV hK hP (q := (RX0, TX0, 2)) (ci := 0) (q0 := 1) rfl rfl [1, 2, 3, 4, 5] rfl [0, 1, 2] rfl) rfl rfl hl.1 rfl (lv_room (Nat.le_of_ble_eq_true rfl)) dX9_hub_113 ⟨Nat.le_of_ble_eq_true rfl, Nat.le_of_ble_eq_true rfl⟩) hP hS (fun H locs hP hS => ?_)
          obtain rfl := Option.some.inj hG
          exact W.iret (v := o_20) hx hb hr (fun t ht hW => ⟨⟨o_20, (), rfl, rfl, trivial⟩, hS.F ht⟩) hS.2.2 dX9_hub_116
        · have hG := q_ifn c_19 hG
          refine lv_ldc (v := (-1000000)) hx hb hown (hts (.constant RX9 185 (-1000000)) (List.mem_cons_of_mem _ m_556)) dX9_hub_102 ?_
          refine lv_goto (tgt := 116) hx hb dX9_hub_104 (by decide) ?_
          obtain rfl := Option.some.inj hG
          exact W.iret (v := (-1000000)) hx hb hr (fun t ht hW => ⟨⟨(-1000000), (), rfl, rfl, trivial⟩, hS.F ht⟩) hS.2.2 dX9_hub_116
    have hG := q_ifn e_13 hG
    by_cases e_22 : z2 = 4
    · have hG := q_ifp e_22 hG
      refine lv_tableIn (off := 102) (tgt := 117) hx hb dX9_hub_15 (by rw [e_22]; decide) (by rw [e_22]; decide) (by rw [e_22]; decide) (by decide) ?_
      refine lv_aload_n hx hb dX9_hub_117 rfl (lv_at hl 0 rfl) ?_
      refine va_get (D := (dC, dI)) (ci := 9) (v := .ref (a 14)) (C := RX9) (T := TX9) (N := 15) hx hb hts iA_9 hown hK hP 0 rfl rfl 5 (by decide) (hts (.fieldLink RX9 47 "HubTree" "now" "LHubTree$Bus;") (List.mem_cons_of_mem _ m_34)) (fun _ h9 => h9) rfl dX9_hub_118 ?_
      refine lv_iload_n hx hb dX9_hub_121 rfl (lv_at hl 1 rfl) ?_
      obtain ⟨o_23, r_24, hG⟩ := q_bi hG
      refine q_goi (v := o_23) (va_runV (As := [.int z1]) (rest := []) ⟨hx, hb, hml, hown, hts⟩ (c_X0_helpOf l dC dI (a 14) (a 15) (a 7) (a 8) (a 9) dv (k 15) fr (k 8) (k 9) fu fp z1 o_23 r_24) (cwV 1 hts (q_gV m_592 m_593 m_594 m_33 m_595) rfl rfl rfl hdV_yX0_helpOf_1 ⟨Nat.le_of_ble_eq_true rfl, Nat.le_of_ble_eq_true rfl⟩) (q_preV hK hP (q := (RX0, TX0, 2)) (ci := 0) (q0 := 1) rfl rfl [1, 2, 3, 4, 5] rfl [0, 1, 2] rfl) rfl rfl hl.1 rfl (lv_room (Nat.le_of_ble_eq_true rfl)) dX9_hub_122 ⟨Nat.le_of_ble_eq_true rfl, Nat.le_of_ble_eq_true rfl⟩) hP hS (fun H locs hP hS => ?_)
      obtain rfl := Option.some.inj hG
      exact W.iret (v := o_23) hx hb hr (fun t ht hW => ⟨⟨o_23, (), rfl, rfl, trivial⟩, hS.F ht⟩) hS.2.2 dX9_hub_125
    have hG := q_ifn e_22 hG
    by_cases e_25 : z2 = 5
    · have hG := q_ifp e_25 hG
      refine lv_tableIn (off := 111) (tgt := 126) hx hb dX9_hub_15 (by rw [e_25]; decide) (by rw [e_25]; decide) (by rw [e_25]; decide) (by decide) ?_
      refine lv_aload_n hx hb dX9_hub_126 rfl (lv_at hl 0 rfl) ?_
      refine va_get (D := (dC, dI)) (ci := 9) (v := .ref (a 7)) (C := RX9) (T := TX9) (N := 15) hx hb hts iA_9 hown hK hP 0 rfl rfl 3 (by decide) (hts (.fieldLink RX9 32 "HubTree" "plan" "LHubTree$Plan;") (List.mem_cons_of_mem _ m_26)) (fun _ h9 => h9) rfl dX9_hub_127 ?_
      refine lv_iload_n hx hb dX9_hub_130 rfl (lv_at hl 1 rfl) ?_
      obtain ⟨o_26, r_27, hG⟩ := q_bi hG
      refine q_goi (v := o_26) (va_runV (As := [.int z1]) (rest := []) ⟨hx, hb, hml, hown, hts⟩ (c_X5_portsOf l dC dI (a 7) (a 8) (a 9) dv (k 8) (k 9) fu fp z1 o_26 r_27) (cwV 1 hts (q_gV m_608 m_529 m_530 m_24 m_531) rfl rfl rfl hdV_yX5_portsOf_1 ⟨Nat.le_of_ble_eq_true rfl, Nat.le_of_ble_eq_true rfl⟩) (q_preV hK hP (q := (RX5, TX5, 3)) (ci := 5) (q0 := 3) rfl rfl [3, 4, 5] rfl [1, 2] rfl) rfl rfl hl.1 rfl (lv_room (Nat.le_of_ble_eq_true rfl)) dX9_hub_131 ⟨Nat.le_of_ble_eq_true rfl, Nat.le_of_ble_eq_true rfl⟩) hP hS (fun H locs hP hS => ?_)
      refine lv_aload_n hx hb dX9_hub_134 rfl (lv_at hl 0 rfl) ?_
      refine va_get (D := (dC, dI)) (ci := 9) (v := .ref (a 14)) (C := RX9) (T := TX9) (N := 15) hx hb hts iA_9 hown hK hP 0 rfl rfl 5 (by decide) (hts (.fieldLink RX9 47 "HubTree" "now" "LHubTree$Bus;") (List.mem_cons_of_mem _ m_34)) (fun _ h9 => h9) rfl dX9_hub_135 ?_
      refine lv_iload_n hx hb dX9_hub_138 rfl (lv_at hl 1 rfl) ?_
      obtain ⟨o_28, r_29, hG⟩ := q_bi hG
      refine q_goi (v := o_28) (va_runV (As := [.int z1]) (rest := [.int o_26]) ⟨hx, hb, hml, hown, hts⟩ (c_X0_rightAt l dC dI (a 14) (a 15) (a 7) (a 8) (a 9) dv (k 15) fr (k 8) (k 9) fu fp z1 o_28 r_29) (cwV 1 hts (q_gV m_569 m_570 m_571 m_33 m_572) rfl rfl rfl hdV_yX0_rightAt_1 ⟨Nat.le_of_ble_eq_true rfl, Nat.le_of_ble_eq_true rfl⟩) (q_preV hK hP (q := (RX0, TX0, 2)) (ci := 0) (q0 := 1) rfl rfl [1, 2, 3, 4, 5] rfl [0, 1, 2] rfl) rfl rfl hl.1 rfl (lv_room (Nat.le_of_ble_eq_true rfl)) dX9_hub_139 ⟨Nat.le_of_ble_eq_true rfl, Nat.le_of_ble_eq_true rfl⟩) hP hS (fun H locs hP hS => ?_)
      obtain ⟨o_30, r_31, hG⟩ := q_bi hG
      refine q_goi (v := o_30) (va_runS (As := [.int o_28]) (rest := [.int o_26]) ⟨hx, hb, hml, hown, hts⟩ (c_J6_bitCount_0f7a4 l dC dI o_28 o_30 r_31) (va_cwS 1 hts (q_gS m_609 m_610 m_611 m_612) rfl rfl rfl hdS_yJ6_bitCount_0f7a4_1 ⟨Nat.le_of_ble_eq_true rfl, Nat.le_of_ble_eq_true rfl⟩) (q_preS hK hP [] rfl [] rfl) rfl rfl hl.1 rfl (lv_room (Nat.le_of_ble_eq_true rfl)) dX9_hub_142 ⟨Nat.le_of_ble_eq_true rfl, Nat.le_of_ble_eq_true rfl⟩) hP hS (fun H locs hP hS => ?_)
      refine lv_isub hx hb dX9_hub_145 ?_
      obtain rfl := Option.some.inj hG
      exact W.iret (v := (o_26 - o_30)) hx hb hr (fun t ht hW => ⟨⟨(o_26 - o_30), (), rfl, rfl, trivial⟩, hS.F ht⟩) hS.2.2 dX9_hub_146
    have hG := q_ifn e_25 hG
    have hsw : (z2).toInt < 0 ∨ 5 < (z2).toInt := by
      have := lv_neT (a := 0) e_4 (by decide)
      have := lv_neT (a := 1) e_7 (by decide)
      have := lv_neT (a := 2) e_10 (by decide)
      have := lv_neT (a := 3) e_13 (by decide)
      have := lv_neT (a := 4) e_22 (by decide)
      have := lv_neT (a := 5) e_25 (by decide)
      omega
    refine lv_tableOut (tgt := 147) hx hb dX9_hub_15 hsw (by decide) ?_
    refine lv_ldc (v := (-1000000)) hx hb hown (hts (.constant RX9 185 (-1000000)) (List.mem_cons_of_mem _ m_556)) dX9_hub_147 ?_
    obtain rfl := Option.some.inj hG
    exact W.iret (v := (-1000000)) hx hb hr (fun t ht hW => ⟨⟨(-1000000), (), rfl, rfl, trivial⟩, hS.F ht⟩) hS.2.2 dX9_hub_149
  · have hG := q_ifp c_3 hG
    refine lv_ldc (v := (-1000000)) hx hb hown (hts (.constant RX9 185 (-1000000)) (List.mem_cons_of_mem _ m_556)) dX9_hub_11 ?_
    obtain rfl := Option.some.inj hG
    exact W.iret (v := (-1000000)) hx hb hr (fun t ht hW => ⟨⟨(-1000000), (), rfl, rfl, trivial⟩, hS.F ht⟩) hS.2.2 dX9_hub_13

def F_X9_octet (dv : Int32) (fu : Nat → Int32) (fp : Nat → Int32) (fr : Nat → Int32) (z1 : Int32) (z2 : Int32) : Option (Int32) := ((F_X5_has dv z1).bind fun o_1 => (if o_1 = 0 then some ((-1)) else (if z2 < 0 then some ((-1)) else ((F_X5_lengthOf fp z1).bind fun o_5 => (if o_5 ≤ z2 then some ((-1)) else ((F_X0_byteOf fr dv fu fp z1 z2).bind fun o_8 => some (o_8)))))))
set_option maxHeartbeats 4000000 in
set_option maxRecDepth 100000 in
theorem c_X9_octet (l : Launch) (dC : Nat → ClassId) (dI : Nat → Nat → Nat) (a : Nat → Nat) (k : Nat → ClassId) (dv : Int32) (hi : Int32) (fu : Nat → Int32) (fp : Nat → Int32) (fr : Nat → Int32) (z1 : Int32) (z2 : Int32) (o : Int32) (hG : F_X9_octet dv fu fp fr z1 z2 = some o) : Met l yX9_octet (.code yX9_octet cX9_octet 3 (some .int) :: wA) ({ frames := 2, cells := 0, slots := 0, locals := 48 }) (va_Pc [.ref (a 0), .int z1, .int z2] (q_R (dC, dI) [((a 0), .inr (9, [.ref (a 1), .ref (a 3), .ref (a 4), .ref (a 7), .ref (a 10), .ref (a 14), .ref (a 16), .ref (a 18), .ref (a 19), .ref (a 21), .ref (a 23), .ref (a 25), .ref (a 27), .ref (a 28), .int hi])), ((a 14), .inr (0, [.ref (a 15), .ref (a 7)])), ((a 15), .inl ((k 15), 98, .inl fr)), ((a 7), .inr (5, [.ref (a 8), .ref (a 9), .int dv])), ((a 8), .inl ((k 8), 8, .inl fu)), ((a 9), .inl ((k 9), 48, .inl fp))] [((k 15), .int), ((k 8), .int), ((k 9), .int)])) (q_i o) 0 0 (fun _ => False) := by
  refine Met.ofW (cc := cX9_octet) (maxL := 3) (ret := (some .int)) (by decide) rfl ?_
  intro p e s m args below meth c s₁ B hml hv
  obtain ⟨rfl, hP, hK⟩ := hv
  have hx := B.exec
  have hb := B.bytes
  have hr := B.returns
  have hts := atoms_spec (ws := .code yX9_octet cX9_octet 3 (some .int) :: wA) B.pre
  have hown : s.vm.findClass RX9 = some m.cls := findClass_of_methodNamed B.named
  have hlocks := B.notSynchronized
  have hS : va_S (fun _ => False) s.heap s.heap [] := va_S.rf
  have hl := lv_entry ([.ref (a 0), .int z1, .int z2]) (n := 3) (Nat.le_of_ble_eq_true rfl)
  rw [lg_entry_eq]
  generalize (lg_sl ([.ref (a 0), .int z1, .int z2]) ++ List.replicate (3 - (lg_sl ([.ref (a 0), .int z1, .int z2])).length) Slot.unset).toArray = ls at hl ⊢
  have hl : lv_has ls 3 [(0, .ref (a 0)), (1, .int z1), (2, .int z2)] := hl
  unfold F_X9_octet at hG
  refine lv_aload_n hx hb dX9_octet_0 rfl (lv_at hl 0 rfl) ?_
  refine va_get (D := (dC, dI)) (ci := 9) (v := .ref (a 7)) (C := RX9) (T := TX9) (N := 15) hx hb hts iA_9 hown hK hP 0 rfl rfl 3 (by decide) (hts (.fieldLink RX9 32 "HubTree" "plan" "LHubTree$Plan;") (List.mem_cons_of_mem _ m_26)) (fun _ h9 => h9) rfl dX9_octet_1 ?_
  refine lv_iload_n hx hb dX9_octet_4 rfl (lv_at hl 1 rfl) ?_
  obtain ⟨o_1, r_2, hG⟩ := q_bi hG
  refine q_goi (v := o_1) (va_runV (As := [.int z1]) (rest := []) ⟨hx, hb, hml, hown, hts⟩ (c_X5_has l dC dI (a 7) (a 8) (a 9) dv z1 o_1 r_2) (cwV 1 hts (q_gV m_464 m_465 m_466 m_24 m_467) rfl rfl rfl hdV_yX5_has_1 ⟨Nat.le_of_ble_eq_true rfl, Nat.le_of_ble_eq_true rfl⟩) (q_preV hK hP (q := (RX5, TX5, 3)) (ci := 5) (q0 := 3) rfl rfl [3] rfl [] rfl) rfl rfl hl.1 rfl (lv_room (Nat.le_of_ble_eq_true rfl)) dX9_octet_5 ⟨Nat.le_of_ble_eq_true rfl, Nat.le_of_ble_eq_true rfl⟩) hP hS (fun H locs hP hS => ?_)
  refine lv_if_eq (tgt := 39) hx hb dX9_octet_8 (by decide) (fun c_3 => ?_) (fun c_3 => ?_)
  · have hG := q_ifp c_3 hG
    refine lv_iconst (v := (-1)) hx hb dX9_octet_39 (by decide) ?_
    obtain rfl := Option.some.inj hG
    exact W.iret (v := (-1)) hx hb hr (fun t ht hW => ⟨⟨(-1), (), rfl, rfl, trivial⟩, hS.F ht⟩) hS.2.2 dX9_octet_40
  · have hG := q_ifn c_3 hG
    refine lv_iload_n hx hb dX9_octet_11 rfl (lv_at hl 2 rfl) ?_
    refine lv_if_lt (tgt := 39) hx hb dX9_octet_12 (by decide) (fun c_4 => ?_) (fun c_4 => ?_)
    · have hG := q_ifp c_4 hG
      refine lv_iconst (v := (-1)) hx hb dX9_octet_39 (by decide) ?_
      obtain rfl := Option.some.inj hG
      exact W.iret (v := (-1)) hx hb hr (fun t ht hW => ⟨⟨(-1), (), rfl, rfl, trivial⟩, hS.F ht⟩) hS.2.2 dX9_octet_40
    · have hG := q_ifn c_4 hG
      refine lv_iload_n hx hb dX9_octet_15 rfl (lv_at hl 2 rfl) ?_
      refine lv_aload_n hx hb dX9_octet_16 rfl (lv_at hl 0 rfl) ?_
      refine va_get (D := (dC, dI)) (ci := 9) (v := .ref (a 7)) (C := RX9) (T := TX9) (N := 15) hx hb hts iA_9 hown hK hP 0 rfl rfl 3 (by decide) (hts (.fieldLink RX9 32 "HubTree" "plan" "LHubTree$Plan;") (List.mem_cons_of_mem _ m_26)) (fun _ h9 => h9) rfl dX9_octet_17 ?_
      refine lv_iload_n hx hb dX9_octet_20 rfl (lv_at hl 1 rfl) ?_
      obtain ⟨o_5, r_6, hG⟩ := q_bi hG
      refine q_goi (v := o_5) (va_runV (As := [.int z1]) (rest := [.int z2]) ⟨hx, hb, hml, hown, hts⟩ (c_X5_lengthOf l dC dI (a 7) (a 8) (a 9) dv (k 8) (k 9) fu fp z1 o_5 r_6) (cwV 1 hts (q_gV m_665 m_666 m_667 m_24 m_668) rfl rfl rfl hdV_yX5_lengthOf_1 ⟨Nat.le_of_ble_eq_true rfl, Nat.le_of_ble_eq_true rfl⟩) (q_preV hK hP (q := (RX5, TX5, 3)) (ci := 5) (q0 := 3) rfl rfl [3, 4, 5] rfl [1, 2] rfl) rfl rfl hl.1 rfl (lv_room (Nat.le_of_ble_eq_true rfl)) dX9_octet_21 ⟨Nat.le_of_ble_eq_true rfl, Nat.le_of_ble_eq_true rfl⟩) hP hS (fun H locs hP hS => ?_)
      refine lv_icmp_ge (tgt := 39) hx hb dX9_octet_24 (by decide) (fun c_7 => ?_) (fun c_7 => ?_)
      · have hG := q_ifp c_7 hG
        refine lv_iconst (v := (-1)) hx hb dX9_octet_39 (by decide) ?_
        obtain rfl := Option.some.inj hG
        exact W.iret (v := (-1)) hx hb hr (fun t ht hW => ⟨⟨(-1), (), rfl, rfl, trivial⟩, hS.F ht⟩) hS.2.2 dX9_octet_40
      · have hG := q_ifn c_7 hG
        refine lv_aload_n hx hb dX9_octet_27 rfl (lv_at hl 0 rfl) ?_
        refine va_get (D := (dC, dI)) (ci := 9) (v := .ref (a 14)) (C := RX9) (T := TX9) (N := 15) hx hb hts iA_9 hown hK hP 0 rfl rfl 5 (by decide) (hts (.fieldLink RX9 47 "HubTree" "now" "LHubTree$Bus;") (List.mem_cons_of_mem _ m_34)) (fun _ h9 => h9) rfl dX9_octet_28 ?_
        refine lv_iload_n hx hb dX9_octet_31 rfl (lv_at hl 1 rfl) ?_
        refine lv_iload_n hx hb dX9_octet_32 rfl (lv_at hl 2 rfl) ?_
        obtain ⟨o_8, r_9, hG⟩ := q_bi hG
        refine q_goi (v := o_8) (va_runV (As := [.int z1, .int z2]) (rest := []) ⟨hx, hb, hml, hown, hts⟩ (c_X0_byteOf l dC dI (a 14) (a 15) (a 7) (a 8) (a 9) dv (k 15) fr (k 8) (k 9) fu fp z1 z2 o_8 r_9) (cwV 2 hts (q_gV m_669 m_670 m_671 m_33 m_672) rfl rfl rfl hdV_yX0_byteOf_2 ⟨Nat.le_of_ble_eq_true rfl, Nat.le_of_ble_eq_true rfl⟩) (q_preV hK hP (q := (RX0, TX0, 2)) (ci := 0) (q0 := 1) rfl rfl [1, 2, 3, 4, 5] rfl [0, 1, 2] rfl) rfl rfl hl.1 rfl (lv_room (Nat.le_of_ble_eq_true rfl)) dX9_octet_33 ⟨Nat.le_of_ble_eq_true rfl, Nat.le_of_ble_eq_true rfl⟩) hP hS (fun H locs hP hS => ?_)
        refine lv_goto (tgt := 40) hx hb dX9_octet_36 (by decide) ?_
        obtain rfl := Option.some.inj hG
        exact W.iret (v := o_8) hx hb hr (fun t ht hW => ⟨⟨o_8, (), rfl, rfl, trivial⟩, hS.F ht⟩) hS.2.2 dX9_octet_40

def F_X9_at (dv : Int32) (fu : Nat → Int32) (fp : Nat → Int32) (fr : Nat → Int32) (z1 : Int32) : Option (Int32) := (if 1 ≤ z1 then ((F_X0_withAddress fr dv fu fp z1).bind fun o_2 => some (o_2)) else some ((-1)))
set_option maxHeartbeats 4000000 in
set_option maxRecDepth 100000 in
theorem c_X9_at (l : Launch) (dC : Nat → ClassId) (dI : Nat → Nat → Nat) (a : Nat → Nat) (k : Nat → ClassId) (dv : Int32) (hi : Int32) (fu : Nat → Int32) (fp : Nat → Int32) (fr : Nat → Int32) (z1 : Int32) (o : Int32) (hG : F_X9_at dv fu fp fr z1 = some o) : Met l yX9_at (.code yX9_at cX9_at 2 (some .int) :: wA) ({ frames := 1, cells := 0, slots := 0, locals := 22 }) (va_Pc [.ref (a 0), .int z1] (q_R (dC, dI) [((a 0), .inr (9, [.ref (a 1), .ref (a 3), .ref (a 4), .ref (a 7), .ref (a 10), .ref (a 14), .ref (a 16), .ref (a 18), .ref (a 19), .ref (a 21), .ref (a 23), .ref (a 25), .ref (a 27), .ref (a 28), .int hi])), ((a 14), .inr (0, [.ref (a 15), .ref (a 7)])), ((a 15), .inl ((k 15), 98, .inl fr)), ((a 7), .inr (5, [.ref (a 8), .ref (a 9), .int dv])), ((a 8), .inl ((k 8), 8, .inl fu)), ((a 9), .inl ((k 9), 48, .inl fp))] [((k 15), .int), ((k 8), .int), ((k 9), .int)])) (q_i o) 0 0 (fun _ => False) := by
  refine Met.ofW (cc := cX9_at) (maxL := 2) (ret := (some .int)) (by decide) rfl ?_
  intro p e s m args below meth c s₁ B hml hv
  obtain ⟨rfl, hP, hK⟩ := hv
  have hx := B.exec
  have hb := B.bytes
  have hr := B.returns
  have hts := atoms_spec (ws := .code yX9_at cX9_at 2 (some .int) :: wA) B.pre
  have hown : s.vm.findClass RX9 = some m.cls := findClass_of_methodNamed B.named
  have hlocks := B.notSynchronized
  have hS : va_S (fun _ => False) s.heap s.heap [] := va_S.rf
  have hl := lv_entry ([.ref (a 0), .int z1]) (n := 2) (Nat.le_of_ble_eq_true rfl)
  rw [lg_entry_eq]
  generalize (lg_sl ([.ref (a 0), .int z1]) ++ List.replicate (2 - (lg_sl ([.ref (a 0), .int z1])).length) Slot.unset).toArray = ls at hl ⊢
  have hl : lv_has ls 2 [(0, .ref (a 0)), (1, .int z1)] := hl
  unfold F_X9_at at hG
  refine lv_iload_n hx hb dX9_at_0 rfl (lv_at hl 1 rfl) ?_
  refine lv_iconst (v := 1) hx hb dX9_at_1 (by decide) ?_
  refine lv_icmp_ge (tgt := 9) hx hb dX9_at_2 (by decide) (fun c_1 => ?_) (fun c_1 => ?_)
  · have hG := q_ifp c_1 hG
    refine lv_aload_n hx hb dX9_at_9 rfl (lv_at hl 0 rfl) ?_
    refine va_get (D := (dC, dI)) (ci := 9) (v := .ref (a 14)) (C := RX9) (T := TX9) (N := 15) hx hb hts iA_9 hown hK hP 0 rfl rfl 5 (by decide) (hts (.fieldLink RX9 47 "HubTree" "now" "LHubTree$Bus;") (List.mem_cons_of_mem _ m_34)) (fun _ h9 => h9) rfl dX9_at_10 ?_
    refine lv_iload_n hx hb dX9_at_13 rfl (lv_at hl 1 rfl) ?_
    obtain ⟨o_2, r_3, hG⟩ := q_bi hG
    refine q_goi (v := o_2) (va_runV (As := [.int z1]) (rest := []) ⟨hx, hb, hml, hown, hts⟩ (c_X0_withAddress l dC dI (a 14) (a 15) (a 7) (a 8) (a 9) dv (k 15) fr (k 8) (k 9) fu fp z1 o_2 r_3) (cwV 1 hts (q_gV m_697 m_698 m_699 m_33 m_700) rfl rfl rfl hdV_yX0_withAddress_1 ⟨Nat.le_of_ble_eq_true rfl, Nat.le_of_ble_eq_true rfl⟩) (q_preV hK hP (q := (RX0, TX0, 2)) (ci := 0) (q0 := 1) rfl rfl [1, 2, 3, 4, 5] rfl [0, 1, 2] rfl) rfl rfl hl.1 rfl (lv_room (Nat.le_of_ble_eq_true rfl)) dX9_at_14 ⟨Nat.le_of_ble_eq_true rfl, Nat.le_of_ble_eq_true rfl⟩) hP hS (fun H locs hP hS => ?_)
    obtain rfl := Option.some.inj hG
    exact W.iret (v := o_2) hx hb hr (fun t ht hW => ⟨⟨o_2, (), rfl, rfl, trivial⟩, hS.F ht⟩) hS.2.2 dX9_at_17
  · have hG := q_ifn c_1 hG
    refine lv_iconst (v := (-1)) hx hb dX9_at_5 (by decide) ?_
    refine lv_goto (tgt := 17) hx hb dX9_at_6 (by decide) ?_
    obtain rfl := Option.some.inj hG
    exact W.iret (v := (-1)) hx hb hr (fun t ht hW => ⟨⟨(-1), (), rfl, rfl, trivial⟩, hS.F ht⟩) hS.2.2 dX9_at_17

def F_X9_helper (dv : Int32) (fu : Nat → Int32) (fp : Nat → Int32) (fr : Nat → Int32) (z1 : Int32) : Option (Int32) := ((F_X5_has dv z1).bind fun o_1 => (if o_1 = 0 then some ((-1)) else ((F_X0_is fr dv fu fp z1 6).bind fun o_4 => (if o_4 = 0 then some ((-1)) else (if (48 + z1) < 0 ∨ 98 ≤ ((48 + z1)).toNatClampNeg then none else (if (fr (48 + z1).toNatClampNeg) < 2 then ((F_X0_helperAbove fr dv fu fp z1).bind fun o_9 => some (o_9)) else some ((-1))))))))
set_option maxHeartbeats 4000000 in
set_option maxRecDepth 100000 in
theorem c_X9_helper (l : Launch) (dC : Nat → ClassId) (dI : Nat → Nat → Nat) (a : Nat → Nat) (k : Nat → ClassId) (dv : Int32) (hi : Int32) (fu : Nat → Int32) (fp : Nat → Int32) (fr : Nat → Int32) (z1 : Int32) (o : Int32) (hG : F_X9_helper dv fu fp fr z1 = some o) : Met l yX9_helper (.code yX9_helper cX9_helper 2 (some .int) :: wA) ({ frames := 1, cells := 0, slots := 0, locals := 23 }) (va_Pc [.ref (a 0), .int z1] (q_R (dC, dI) [((a 0), .inr (9, [.ref (a 1), .ref (a 3), .ref (a 4), .ref (a 7), .ref (a 10), .ref (a 14), .ref (a 16), .ref (a 18), .ref (a 19), .ref (a 21), .ref (a 23), .ref (a 25), .ref (a 27), .ref (a 28), .int hi])), ((a 14), .inr (0, [.ref (a 15), .ref (a 7)])), ((a 15), .inl ((k 15), 98, .inl fr)), ((a 7), .inr (5, [.ref (a 8), .ref (a 9), .int dv])), ((a 8), .inl ((k 8), 8, .inl fu)), ((a 9), .inl ((k 9), 48, .inl fp))] [((k 15), .int), ((k 8), .int), ((k 9), .int)])) (q_i o) 0 0 (fun _ => False) := by
  refine Met.ofW (cc := cX9_helper) (maxL := 2) (ret := (some .int)) (by decide) rfl ?_
  intro p e s m args below meth c s₁ B hml hv
  obtain ⟨rfl, hP, hK⟩ := hv
  have hx := B.exec
  have hb := B.bytes
  have hr := B.returns
  have hts := atoms_spec (ws := .code yX9_helper cX9_helper 2 (some .int) :: wA) B.pre
  have hown : s.vm.findClass RX9 = some m.cls := findClass_of_methodNamed B.named
  have hlocks := B.notSynchronized
  have hS : va_S (fun _ => False) s.heap s.heap [] := va_S.rf
  have hl := lv_entry ([.ref (a 0), .int z1]) (n := 2) (Nat.le_of_ble_eq_true rfl)
  rw [lg_entry_eq]
  generalize (lg_sl ([.ref (a 0), .int z1]) ++ List.replicate (2 - (lg_sl ([.ref (a 0), .int z1])).length) Slot.unset).toArray = ls at hl ⊢
  have hl : lv_has ls 2 [(0, .ref (a 0)), (1, .int z1)] := hl
  unfold F_X9_helper at hG
  refine lv_aload_n hx hb dX9_helper_0 rfl (lv_at hl 0 rfl) ?_
  refine va_get (D := (dC, dI)) (ci := 9) (v := .ref (a 7)) (C := RX9) (T := TX9) (N := 15) hx hb hts iA_9 hown hK hP 0 rfl rfl 3 (by decide) (hts (.fieldLink RX9 32 "HubTree" "plan" "LHubTree$Plan;") (List.mem_cons_of_mem _ m_26)) (fun _ h9 => h9) rfl dX9_helper_1 ?_
  refine lv_iload_n hx hb dX9_helper_4 rfl (lv_at hl 1 rfl) ?_
  obtain ⟨o_1, r_2, hG⟩ := q_bi hG
  refine q_goi (v := o_1) (va_runV (As := [.int z1]) (rest := []) ⟨hx, hb, hml, hown, hts⟩ (c_X5_has l dC dI (a 7) (a 8) (a 9) dv z1 o_1 r_2) (cwV 1 hts (q_gV m_464 m_465 m_466 m_24 m_467) rfl rfl rfl hdV_yX5_has_1 ⟨Nat.le_of_ble_eq_true rfl, Nat.le_of_ble_eq_true rfl⟩) (q_preV hK hP (q := (RX5, TX5, 3)) (ci := 5) (q0 := 3) rfl rfl [3] rfl [] rfl) rfl rfl hl.1 rfl (lv_room (Nat.le_of_ble_eq_true rfl)) dX9_helper_5 ⟨Nat.le_of_ble_eq_true rfl, Nat.le_of_ble_eq_true rfl⟩) hP hS (fun H locs hP hS => ?_)
  refine lv_if_eq (tgt := 40) hx hb dX9_helper_8 (by decide) (fun c_3 => ?_) (fun c_3 => ?_)
  · have hG := q_ifp c_3 hG
    refine lv_iconst (v := (-1)) hx hb dX9_helper_40 (by decide) ?_
    obtain rfl := Option.some.inj hG
    exact W.iret (v := (-1)) hx hb hr (fun t ht hW => ⟨⟨(-1), (), rfl, rfl, trivial⟩, hS.F ht⟩) hS.2.2 dX9_helper_41
  · have hG := q_ifn c_3 hG
    refine lv_aload_n hx hb dX9_helper_11 rfl (lv_at hl 0 rfl) ?_
    refine va_get (D := (dC, dI)) (ci := 9) (v := .ref (a 14)) (C := RX9) (T := TX9) (N := 15) hx hb hts iA_9 hown hK hP 0 rfl rfl 5 (by decide) (hts (.fieldLink RX9 47 "HubTree" "now" "LHubTree$Bus;") (List.mem_cons_of_mem _ m_34)) (fun _ h9 => h9) rfl dX9_helper_12 ?_
    refine lv_iload_n hx hb dX9_helper_15 rfl (lv_at hl 1 rfl) ?_
    refine lv_bipush (v := 6) hx hb dX9_helper_16 (by decide) ?_
    obtain ⟨o_4, r_5, hG⟩ := q_bi hG
    refine q_goi (v := o_4) (va_runV (As := [.int z1, .int 6]) (rest := []) ⟨hx, hb, hml, hown, hts⟩ (c_X0_is l dC dI (a 14) (a 15) (a 7) (a 8) (a 9) dv (k 15) fr (k 8) (k 9) fu fp z1 6 o_4 r_5) (cwV 2 hts (q_gV m_582 m_583 m_584 m_33 m_585) rfl rfl rfl hdV_yX0_is_2 ⟨Nat.le_of_ble_eq_true rfl, Nat.le_of_ble_eq_true rfl⟩) (q_preV hK hP (q := (RX0, TX0, 2)) (ci := 0) (q0 := 1) rfl rfl [1, 2, 3, 4, 5] rfl [0, 1, 2] rfl) rfl rfl hl.1 rfl (lv_room (Nat.le_of_ble_eq_true rfl)) dX9_helper_18 ⟨Nat.le_of_ble_eq_true rfl, Nat.le_of_ble_eq_true rfl⟩) hP hS (fun H locs hP hS => ?_)
    refine lv_if_eq (tgt := 40) hx hb dX9_helper_21 (by decide) (fun c_6 => ?_) (fun c_6 => ?_)
    · have hG := q_ifp c_6 hG
      refine lv_iconst (v := (-1)) hx hb dX9_helper_40 (by decide) ?_
      obtain rfl := Option.some.inj hG
      exact W.iret (v := (-1)) hx hb hr (fun t ht hW => ⟨⟨(-1), (), rfl, rfl, trivial⟩, hS.F ht⟩) hS.2.2 dX9_helper_41
    · have hG := q_ifn c_6 hG
      refine lv_aload_n hx hb dX9_helper_24 rfl (lv_at hl 0 rfl) ?_
      refine va_get (D := (dC, dI)) (ci := 9) (v := .ref (a 14)) (C := RX9) (T := TX9) (N := 15) hx hb hts iA_9 hown hK hP 0 rfl rfl 5 (by decide) (hts (.fieldLink RX9 47 "HubTree" "now" "LHubTree$Bus;") (List.mem_cons_of_mem _ m_34)) (fun _ h9 => h9) rfl dX9_helper_25 ?_
      refine va_get (D := (dC, dI)) (ci := 0) (v := .ref (a 15)) (C := RX0) (T := TX0) (N := 2) hx hb hts iA_0 hown hK hP 1 rfl rfl 0 (by decide) (hts (.fieldLink RX9 157 "HubTree$Bus" "row" "[I") (List.mem_cons_of_mem _ m_462)) (fun _ h9 => h9) rfl dX9_helper_28 ?_
      refine lv_bipush (v := 48) hx hb dX9_helper_31 (by decide) ?_
      refine lv_iload_n hx hb dX9_helper_33 rfl (lv_at hl 1 rfl) ?_
      refine lv_iadd hx hb dX9_helper_34 ?_
      obtain ⟨h_7, hG⟩ := q_ix hG
      refine va_iald hx hb hK hP 2 0 rfl rfl (i := (48 + z1)) h_7 dX9_helper_35 ?_
      refine q_top (y := (fr (48 + z1).toNatClampNeg)) rfl ?_
      refine lv_iconst (v := 2) hx hb dX9_helper_36 (by decide) ?_
      refine lv_icmp_lt (tgt := 42) hx hb dX9_helper_37 (by decide) (fun c_8 => ?_) (fun c_8 => ?_)
      · have hG := q_ifp c_8 hG
        refine lv_aload_n hx hb dX9_helper_42 rfl (lv_at hl 0 rfl) ?_
        refine va_get (D := (dC, dI)) (ci := 9) (v := .ref (a 14)) (C := RX9) (T := TX9) (N := 15) hx hb hts iA_9 hown hK hP 0 rfl rfl 5 (by decide) (hts (.fieldLink RX9 47 "HubTree" "now" "LHubTree$Bus;") (List.mem_cons_of_mem _ m_34)) (fun _ h9 => h9) rfl dX9_helper_43 ?_
        refine lv_iload_n hx hb dX9_helper_46 rfl (lv_at hl 1 rfl) ?_
        obtain ⟨o_9, r_10, hG⟩ := q_bi hG
        refine q_goi (v := o_9) (va_runV (As := [.int z1]) (rest := []) ⟨hx, hb, hml, hown, hts⟩ (c_X0_helperAbove l dC dI (a 14) (a 15) (a 7) (a 8) (a 9) dv (k 15) fr (k 8) (k 9) fu fp z1 o_9 r_10) (cwV 1 hts (q_gV m_713 m_601 m_602 m_33 m_603) rfl rfl rfl hdV_yX0_helperAbove_1 ⟨Nat.le_of_ble_eq_true rfl, Nat.le_of_ble_eq_true rfl⟩) (q_preV hK hP (q := (RX0, TX0, 2)) (ci := 0) (q0 := 1) rfl rfl [1, 2, 3, 4, 5] rfl [0, 1, 2] rfl) rfl rfl hl.1 rfl (lv_room (Nat.le_of_ble_eq_true rfl)) dX9_helper_47 ⟨Nat.le_of_ble_eq_true rfl, Nat.le_of_ble_eq_true rfl⟩) hP hS (fun H locs hP hS => ?_)
        obtain rfl := Option.some.inj hG
        exact W.iret (v := o_9) hx hb hr (fun t ht hW => ⟨⟨o_9, (), rfl, rfl, trivial⟩, hS.F ht⟩) hS.2.2 dX9_helper_50
      · have hG := q_ifn c_8 hG
        refine lv_iconst (v := (-1)) hx hb dX9_helper_40 (by decide) ?_
        obtain rfl := Option.some.inj hG
        exact W.iret (v := (-1)) hx hb hr (fun t ht hW => ⟨⟨(-1), (), rfl, rfl, trivial⟩, hS.F ht⟩) hS.2.2 dX9_helper_41

def FL_X9_attempt_97 (dv : Int32) (nx : Int32) (ph : Int32) (tt : Int32) (fr : Nat → Int32) (fu : Nat → Int32) (fp : Nat → Int32) (fq : Nat → Int32) (fd : Nat → Int32) (z0 : Int32) (z1 : Int32) (z2 : Int32) (z3 : Int32) (z4 : Int32) : Nat → Int32 → Int32 → (Int32) → (Int32) → (Int32) → (Nat → Int32) → (Nat → Int32) → (Nat → Int32) → Option (Int32 × Int32 × Int32 × Int32 × (Nat → Int32) × (Nat → Int32) × (Nat → Int32))
  | 0, _, _, _, _, _, _, _, _ => none
  | n + 1, x7_97, x8_97, nx_c, ph_c, tt_c, fr_c, fq_c, fd_c => (if z2 ≤ x8_97 then (if z0 = 0 then some ((-1), nx_c, ph_c, tt_c, fr_c, fq_c, fd_c) else ((F_X0_running fr_c dv fu fp).bind fun o_24 => ((F_X1_write fd_c tt_c z1 z2 o_24).bind fun o_26 => some ((-1), nx_c, ph_c, (o_26.2), fr_c, fq_c, (o_26.1))))) else ((F_X0_passTick fr_c dv fu fp).bind fun o_28 => (FL_X9_attempt_97 dv nx ph tt fr fu fp fq fd z0 z1 z2 z3 z4 n x7_97 (x8_97 + 1) nx_c ph_c tt_c (o_28) fq_c fd_c)))

def F_X9_attempt (dv : Int32) (nx : Int32) (ph : Int32) (tt : Int32) (fr : Nat → Int32) (fu : Nat → Int32) (fp : Nat → Int32) (fq : Nat → Int32) (fd : Nat → Int32) (z0 : Int32) (z1 : Int32) (z2 : Int32) (z3 : Int32) (z4 : Int32) : Option (Int32 × Int32 × Int32 × Int32 × (Nat → Int32) × (Nat → Int32) × (Nat → Int32)) := ((F_X0_barOf fr dv fu fp z1 z2 z3 z4).bind fun o_1 => (if o_1 = (-1) then (if z0 = 0 then (if z1 = 0 then ((F_X0_putIn fr dv fu fp z2 z3 z4).bind fun o_6 => (if z0 = 0 then some ((-1), nx, ph, tt, (o_6), fq, fd) else ((F_X0_running (o_6) dv fu fp).bind fun o_9 => ((F_X1_write fd tt z1 z2 o_9).bind fun o_11 => some ((-1), nx, ph, (o_11.2), (o_6), fq, (o_11.1)))))) else (if z1 = 1 then ((F_X0_pullOut fr dv fu fp z2).bind fun o_14 => (if z0 = 0 then some ((-1), nx, ph, tt, (o_14), fq, fd) else ((F_X0_running (o_14) dv fu fp).bind fun o_17 => ((F_X1_write fd tt z1 z2 o_17).bind fun o_19 => some ((-1), nx, ph, (o_19.2), (o_14), fq, (o_19.1)))))) else (if z1 = 2 then (FL_X9_attempt_97 dv nx ph tt fr fu fp fq fd z0 z1 z2 z3 z4 1000 o_1 0 nx ph tt fr fq fd) else (if z1 = 3 then ((F_X0_switchSupply fr dv fu fp z2).bind fun o_31 => (if z0 = 0 then some ((-1), nx, ph, tt, (o_31), fq, fd) else ((F_X0_running (o_31) dv fu fp).bind fun o_34 => ((F_X1_write fd tt z1 z2 o_34).bind fun o_36 => some ((-1), nx, ph, (o_36.2), (o_31), fq, (o_36.1)))))) else (if z1 = 4 then (if (80 + z2) < 0 ∨ 98 ≤ ((80 + z2)).toNatClampNeg then none else (if z0 = 0 then some ((-1), nx, ph, tt, (upd fr (80 + z2).toNatClampNeg z3), fq, fd) else ((F_X0_running (upd fr (80 + z2).toNatClampNeg z3) dv fu fp).bind fun o_41 => ((F_X1_write fd tt z1 z2 o_41).bind fun o_43 => some ((-1), nx, ph, (o_43.2), (upd fr (80 + z2).toNatClampNeg z3), fq, (o_43.1)))))) else (if z1 = 5 then ((F_X0_queueAfresh fr dv fu fp z2).bind fun o_46 => (if z0 = 0 then some ((-1), nx, ph, tt, (o_46), fq, fd) else ((F_X0_running (o_46) dv fu fp).bind fun o_49 => ((F_X1_write fd tt z1 z2 o_49).bind fun o_51 => some ((-1), nx, ph, (o_51.2), (o_46), fq, (o_51.1)))))) else (if (88 + z2) < 0 ∨ 98 ≤ ((88 + z2)).toNatClampNeg then none else (if (88 + z2) < 0 ∨ 98 ≤ ((88 + z2)).toNatClampNeg then none else (if z0 = 0 then some ((-1), nx, ph, tt, (upd fr (88 + z2).toNatClampNeg (1 - (fr (88 + z2).toNatClampNeg))), fq, fd) else ((F_X0_running (upd fr (88 + z2).toNatClampNeg (1 - (fr (88 + z2).toNatClampNeg))) dv fu fp).bind fun o_56 => ((F_X1_write fd tt z1 z2 o_56).bind fun o_58 => some ((-1), nx, ph, (o_58.2), (upd fr (88 + z2).toNatClampNeg (1 - (fr (88 + z2).toNatClampNeg))), fq, (o_58.1))))))))))))) else ((F_X4_keep fq nx ph fr).bind fun o_60 => (if z1 = 0 then ((F_X0_putIn fr dv fu fp z2 z3 z4).bind fun o_63 => (if z0 = 0 then some ((-1), (o_60.2.1), (o_60.2.2), tt, (o_63), (o_60.1), fd) else ((F_X0_running (o_63) dv fu fp).bind fun o_66 => ((F_X1_write fd tt z1 z2 o_66).bind fun o_68 => some ((-1), (o_60.2.1), (o_60.2.2), (o_68.2), (o_63), (o_60.1), (o_68.1)))))) else (if z1 = 1 then ((F_X0_pullOut fr dv fu fp z2).bind fun o_71 => (if z0 = 0 then some ((-1), (o_60.2.1), (o_60.2.2), tt, (o_71), (o_60.1), fd) else ((F_X0_running (o_71) dv fu fp).bind fun o_74 => ((F_X1_write fd tt z1 z2 o_74).bind fun o_76 => some ((-1), (o_60.2.1), (o_60.2.2), (o_76.2), (o_71), (o_60.1), (o_76.1)))))) else (if z1 = 2 then (FL_X9_attempt_97 dv nx ph tt fr fu fp fq fd z0 z1 z2 z3 z4 1000 o_1 0 (o_60.2.1) (o_60.2.2) tt fr (o_60.1) fd) else (if z1 = 3 then ((F_X0_switchSupply fr dv fu fp z2).bind fun o_88 => (if z0 = 0 then some ((-1), (o_60.2.1), (o_60.2.2), tt, (o_88), (o_60.1), fd) else ((F_X0_running (o_88) dv fu fp).bind fun o_91 => ((F_X1_write fd tt z1 z2 o_91).bind fun o_93 => some ((-1), (o_60.2.1), (o_60.2.2), (o_93.2), (o_88), (o_60.1), (o_93.1)))))) else (if z1 = 4 then (if (80 + z2) < 0 ∨ 98 ≤ ((80 + z2)).toNatClampNeg then none else (if z0 = 0 then some ((-1), (o_60.2.1), (o_60.2.2), tt, (upd fr (80 + z2).toNatClampNeg z3), (o_60.1), fd) else ((F_X0_running (upd fr (80 + z2).toNatClampNeg z3) dv fu fp).bind fun o_98 => ((F_X1_write fd tt z1 z2 o_98).bind fun o_100 => some ((-1), (o_60.2.1), (o_60.2.2), (o_100.2), (upd fr (80 + z2).toNatClampNeg z3), (o_60.1), (o_100.1)))))) else (if z1 = 5 then ((F_X0_queueAfresh fr dv fu fp z2).bind fun o_103 => (if z0 = 0 then some ((-1), (o_60.2.1), (o_60.2.2), tt, (o_103), (o_60.1), fd) else ((F_X0_running (o_103) dv fu fp).bind fun o_106 => ((F_X1_write fd tt z1 z2 o_106).bind fun o_108 => some ((-1), (o_60.2.1), (o_60.2.2), (o_108.2), (o_103), (o_60.1), (o_108.1)))))) else (if (88 + z2) < 0 ∨ 98 ≤ ((88 + z2)).toNatClampNeg then none else (if (88 + z2) < 0 ∨ 98 ≤ ((88 + z2)).toNatClampNeg then none else (if z0 = 0 then some ((-1), (o_60.2.1), (o_60.2.2), tt, (upd fr (88 + z2).toNatClampNeg (1 - (fr (88 + z2).toNatClampNeg))), (o_60.1), fd) else ((F_X0_running (upd fr (88 + z2).toNatClampNeg (1 - (fr (88 + z2).toNatClampNeg))) dv fu fp).bind fun o_113 => ((F_X1_write fd tt z1 z2 o_113).bind fun o_115 => some ((-1), (o_60.2.1), (o_60.2.2), (o_115.2), (upd fr (88 + z2).toNatClampNeg (1 - (fr (88 + z2).toNatClampNeg))), (o_60.1), (o_115.1))))))))))))))) else some (o_1, nx, ph, tt, fr, fq, fd)))
set_option maxHeartbeats 4000000 in
set_option maxRecDepth 100000 in
theorem c_X9_attempt (l : Launch) (dC : Nat → ClassId) (dI : Nat → Nat → Nat) (a : Nat → Nat) (k : Nat → ClassId) (g : Nat) (r0 : Nat) (c0 : ClassId) (hi : Int32) (dv : Int32) (nx : Int32) (ph : Int32) (tt : Int32) (fr : Nat → Int32) (fu : Nat → Int32) (fp : Nat → Int32) (fq : Nat → Int32) (fd : Nat → Int32) (z0 : Int32) (z1 : Int32) (z2 : Int32) (z3 : Int32) (z4 : Int32) (A : Nat → Prop) (o : Int32 × Int32 × Int32 × Int32 × (Nat → Int32) × (Nat → Int32) × (Nat → Int32)) (hG : F_X9_attempt dv nx ph tt fr fu fp fq fd z0 z1 z2 z3 z4 = some o) : Met l yX9_attempt (.code yX9_attempt cX9_attempt 9 (some .int) :: wA) ({ frames := 5, cells := 0, slots := 0, locals := 116 }) (va_Pc [.ref (a 0), .ref g, .int z0, .int z1, .int z2, .int z3, .int z4] (q_W (dC, dI) A [((a 0), .inr (9, [.ref (a 1), .ref (a 3), .ref (a 4), .ref (a 7), .ref (a 10), .ref (a 14), .ref (a 16), .ref (a 18), .ref (a 19), .ref (a 21), .ref (a 23), .ref (a 25), .ref (a 27), .ref (a 28), .int hi])), (g, .inr (0, [.ref r0, .ref (a 7)])), (r0, .inl (c0, 98, .inl fr)), ((a 7), .inr (5, [.ref (a 8), .ref (a 9), .int dv])), ((a 8), .inl ((k 8), 8, .inl fu)), ((a 9), .inl ((k 9), 48, .inl fp)), ((a 19), .inr (4, [.ref (a 20), .int nx, .int ph])), ((a 20), .inl ((k 20), 3920, .inl fq)), ((a 21), .inr (1, [.ref (a 22), .int tt])), ((a 22), .inl ((k 22), 300, .inl fd))] [(c0, .int), ((k 8), .int), ((k 9), .int), ((k 20), .int), ((k 22), .int)])) (va_Qi (fun (r : Int32) (_ : Unit) => r = o.1 ∧ True) (fun (_ : Unit) t => q_B (dC, dI) A [((a 0), .inr (9, [.ref (a 1), .ref (a 3), .ref (a 4), .ref (a 7), .ref (a 10), .ref (a 14), .ref (a 16), .ref (a 18), .ref (a 19), .ref (a 21), .ref (a 23), .ref (a 25), .ref (a 27), .ref (a 28), .int hi])), (g, .inr (0, [.ref r0, .ref (a 7)])), (r0, .inl (c0, 98, .inl (o.2.2.2.2.1))), ((a 7), .inr (5, [.ref (a 8), .ref (a 9), .int dv])), ((a 8), .inl ((k 8), 8, .inl fu)), ((a 9), .inl ((k 9), 48, .inl fp)), ((a 19), .inr (4, [.ref (a 20), .int (o.2.1), .int (o.2.2.1)])), ((a 20), .inl ((k 20), 3920, .inl (o.2.2.2.2.2.1))), ((a 21), .inr (1, [.ref (a 22), .int (o.2.2.2.1)])), ((a 22), .inl ((k 22), 300, .inl (o.2.2.2.2.2.2)))] [(c0, .int), ((k 8), .int), ((k 9), .int), ((k 20), .int), ((k 22), .int)] t) A) 0 0 A := by
  refine Met.ofW (cc := cX9_attempt) (maxL := 9) (ret := (some .int)) (by decide) rfl ?_
  intro p e s m args below meth c s₁ B hml hv
  obtain ⟨rfl, hP, hK, hD, hA⟩ := hv
  have hx := B.exec
  have hb := B.bytes
  have hr := B.returns
  have hts := atoms_spec (ws := .code yX9_attempt cX9_attempt 9 (some .int) :: wA) B.pre
  have hown : s.vm.findClass RX9 = some m.cls := findClass_of_methodNamed B.named
  have hlocks := B.notSynchronized
  have hS : va_S A s.heap s.heap [] := va_S.rf
  have hl := lv_entry ([.ref (a 0), .ref g, .int z0, .int z1, .int z2, .int z3, .int z4]) (n := 9) (Nat.le_of_ble_eq_true rfl)
  rw [lg_entry_eq]
  generalize (lg_sl ([.ref (a 0), .ref g, .int z0, .int z1, .int z2, .int z3, .int z4]) ++ List.replicate (9 - (lg_sl ([.ref (a 0), .ref g, .int z0, .int z1, .int z2, .int z3, .int z4])).length) Slot.unset).toArray = ls at hl ⊢
  have hl : lv_has ls 9 [(0, .ref (a 0)), (1, .ref g), (2, .int z0), (3, .int z1), (4, .int z2), (5, .int z3), (6, .int z4)] := hl
  unfold F_X9_attempt at hG
  refine lv_aload_n hx hb dX9_attempt_0 rfl (lv_at hl 1 rfl) ?_
  refine lv_iload_n hx hb dX9_attempt_1 rfl (lv_at hl 3 rfl) ?_
  refine lv_iload hx hb dX9_attempt_2 (lv_at hl 4 rfl) ?_
  refine lv_iload hx hb dX9_attempt_4 (lv_at hl 5 rfl) ?_
  refine lv_iload hx hb dX9_attempt_6 (lv_at hl 6 rfl) ?_
  obtain ⟨o_1, r_2, hG⟩ := q_bi hG
  refine q_goi (v := o_1) (va_runV (As := [.int z1, .int z2, .int z3, .int z4]) (rest := []) ⟨hx, hb, hml, hown, hts⟩ (c_X0_barOf l dC dI g r0 (a 7) (a 8) (a 9) dv c0 fr (k 8) (k 9) fu fp z1 z2 z3 z4 o_1 r_2) (cwV 4 hts (q_gV m_726 m_727 m_728 m_33 m_729) rfl rfl rfl hdV_yX0_barOf_4 ⟨Nat.le_of_ble_eq_true rfl, Nat.le_of_ble_eq_true rfl⟩) (q_preV hK hP (q := (RX0, TX0, 2)) (ci := 0) (q0 := 1) rfl rfl [1, 2, 3, 4, 5] rfl [0, 1, 2] rfl) rfl rfl hl.1 rfl (lv_room (Nat.le_of_ble_eq_true rfl)) dX9_attempt_8 ⟨Nat.le_of_ble_eq_true rfl, Nat.le_of_ble_eq_true rfl⟩) hP hS (fun H locs hP hS => ?_)
  refine lv_istore (lv' := [(7, .int o_1), (0, .ref (a 0)), (1, .ref g), (2, .int z0), (3, .int z1), (4, .int z2), (5, .int z3), (6, .int z4)]) hx hb dX9_attempt_11 hl (by decide) rfl (fun ls hl => ?_)
  refine lv_iload hx hb dX9_attempt_13 (lv_at hl 0 rfl) ?_
  refine lv_iconst (v := (-1)) hx hb dX9_attempt_15 (by decide) ?_
  refine lv_icmp_eq (tgt := 22) hx hb dX9_attempt_16 (by decide) (fun c_3 => ?_) (fun c_3 => ?_)
  · have hG := q_ifp c_3 hG
    refine lv_iload_n hx hb dX9_attempt_22 rfl (lv_at hl 3 rfl) ?_
    refine lv_if_eq (tgt := 34) hx hb dX9_attempt_23 (by decide) (fun c_4 => ?_) (fun c_4 => ?_)
    · have hG := q_ifp c_4 hG
      refine lv_iload_n hx hb dX9_attempt_34 rfl (lv_at hl 4 rfl) ?_
      by_cases e_5 : z1 = 0
      · have hG := q_ifp e_5 hG
        refine lv_tableIn (off := 37) (tgt := 72) hx hb dX9_attempt_35 (by rw [e_5]; decide) (by rw [e_5]; decide) (by rw [e_5]; decide) (by decide) ?_
        refine lv_aload_n hx hb dX9_attempt_72 rfl (lv_at hl 2 rfl) ?_
        refine lv_iload hx hb dX9_attempt_73 (lv_at hl 5 rfl) ?_
        refine lv_iload hx hb dX9_attempt_75 (lv_at hl 6 rfl) ?_
        refine lv_iload hx hb dX9_attempt_77 (lv_at hl 7 rfl) ?_
        obtain ⟨o_6, r_7, hG⟩ := q_bi hG
        refine q_gov2 (wr := [((a 0), .inr (9, [.ref (a 1), .ref (a 3), .ref (a 4), .ref (a 7), .ref (a 10), .ref (a 14), .ref (a 16), .ref (a 18), .ref (a 19), .ref (a 21), .ref (a 23), .ref (a 25), .ref (a 27), .ref (a 28), .int hi])), ((a 19), .inr (4, [.ref (a 20), .int nx, .int ph])), ((a 20), .inl ((k 20), 3920, .inl fq)), ((a 21), .inr (1, [.ref (a 22), .int tt])), ((a 22), .inl ((k 22), 300, .inl fd))]) (va_runV (As := [.int z2, .int z3, .int z4]) (rest := []) ⟨hx, hb, hml, hown, hts⟩ (c_X0_putIn l dC dI g r0 (a 7) (a 8) (a 9) dv c0 fr (k 8) (k 9) fu fp z2 z3 z4 (va_A [(g, .inr (0, [.ref r0, .ref (a 7)])), (r0, .inl (c0, 98, .inl fr)), ((a 7), .inr (5, [.ref (a 8), .ref (a 9), .int dv])), ((a 8), .inl ((k 8), 8, .inl fu)), ((a 9), .inl ((k 9), 48, .inl fp))] H.size) o_6 r_7) (cwV 3 hts (q_gV m_799 m_800 m_801 m_33 m_802) rfl rfl rfl hdV_yX0_putIn_3 ⟨Nat.le_of_ble_eq_true rfl, Nat.le_of_ble_eq_true rfl⟩) (q_preWV hK hP hD (q := (RX0, TX0, 2)) (ci := 0) (q0 := 1) rfl rfl [1, 2, 3, 4, 5] (by decide) rfl rfl [0, 1, 2] rfl) rfl rfl hl.1 rfl (lv_room (Nat.le_of_ble_eq_true rfl)) dX9_attempt_79 ⟨Nat.le_of_ble_eq_true rfl, Nat.le_of_ble_eq_true rfl⟩) hK hP hD hS hA [1, 2, 3, 4, 5] [0, 6, 7, 8, 9] rfl rfl (by decide) (by decide) (fun _ H locs _ hP hD hK9 hS => ?_)
        have hP : va_P (dC, dI) vwCl [((a 0), .inr (9, [.ref (a 1), .ref (a 3), .ref (a 4), .ref (a 7), .ref (a 10), .ref (a 14), .ref (a 16), .ref (a 18), .ref (a 19), .ref (a 21), .ref (a 23), .ref (a 25), .ref (a 27), .ref (a 28), .int hi])), (g, .inr (0, [.ref r0, .ref (a 7)])), (r0, .inl (c0, 98, .inl (o_6))), ((a 7), .inr (5, [.ref (a 8), .ref (a 9), .int dv])), ((a 8), .inl ((k 8), 8, .inl fu)), ((a 9), .inl ((k 9), 48, .inl fp)), ((a 19), .inr (4, [.ref (a 20), .int nx, .int ph])), ((a 20), .inl ((k 20), 3920, .inl fq)), ((a 21), .inr (1, [.ref (a 22), .int tt])), ((a 22), .inl ((k 22), 300, .inl fd))] H := hP.sub [0, 5, 6, 7, 8, 9, 1, 2, 3, 4] rfl
        have hD : va_D A [((a 0), .inr (9, [.ref (a 1), .ref (a 3), .ref (a 4), .ref (a 7), .ref (a 10), .ref (a 14), .ref (a 16), .ref (a 18), .ref (a 19), .ref (a 21), .ref (a 23), .ref (a 25), .ref (a 27), .ref (a 28), .int hi])), (g, .inr (0, [.ref r0, .ref (a 7)])), (r0, .inl (c0, 98, .inl (o_6))), ((a 7), .inr (5, [.ref (a 8), .ref (a 9), .int dv])), ((a 8), .inl ((k 8), 8, .inl fu)), ((a 9), .inl ((k 9), 48, .inl fp)), ((a 19), .inr (4, [.ref (a 20), .int nx, .int ph])), ((a 20), .inl ((k 20), 3920, .inl fq)), ((a 21), .inr (1, [.ref (a 22), .int tt])), ((a 22), .inl ((k 22), 300, .inl fd))] := hD.sub [0, 5, 6, 7, 8, 9, 1, 2, 3, 4] (by decide) rfl
        refine lv_goto (tgt := 172) hx hb dX9_attempt_82 (by decide) ?_
        refine lv_iload_n hx hb dX9_attempt_172 rfl (lv_at hl 3 rfl) ?_
        refine lv_if_eq (tgt := 190) hx hb dX9_attempt_173 (by decide) (fun c_8 => ?_) (fun c_8 => ?_)
        · have hG := q_ifp c_8 hG
          refine lv_iconst (v := (-1)) hx hb dX9_attempt_190 (by decide) ?_
          obtain rfl := Option.some.inj hG
          have hP9 := hP.sub (ws' := [((a 0), .inr (9, [.ref (a 1), .ref (a 3), .ref (a 4), .ref (a 7), .ref (a 10), .ref (a 14), .ref (a 16), .ref (a 18), .ref (a 19), .ref (a 21), .ref (a 23), .ref (a 25), .ref (a 27), .ref (a 28), .int hi])), (g, .inr (0, [.ref r0, .ref (a 7)])), (r0, .inl (c0, 98, .inl (o_6))), ((a 7), .inr (5, [.ref (a 8), .ref (a 9), .int dv])), ((a 8), .inl ((k 8), 8, .inl fu)), ((a 9), .inl ((k 9), 48, .inl fp)), ((a 19), .inr (4, [.ref (a 20), .int nx, .int ph])), ((a 20), .inl ((k 20), 3920, .inl fq)), ((a 21), .inr (1, [.ref (a 22), .int tt])), ((a 22), .inl ((k 22), 300, .inl fd))]) [0, 1, 2, 3, 4, 5, 6, 7, 8, 9] rfl
          have hD9 := hD.sub (ws' := [((a 0), .inr (9, [.ref (a 1), .ref (a 3), .ref (a 4), .ref (a 7), .ref (a 10), .ref (a 14), .ref (a 16), .ref (a 18), .ref (a 19), .ref (a 21), .ref (a 23), .ref (a 25), .ref (a 27), .ref (a 28), .int hi])), (g, .inr (0, [.ref r0, .ref (a 7)])), (r0, .inl (c0, 98, .inl (o_6))), ((a 7), .inr (5, [.ref (a 8), .ref (a 9), .int dv])), ((a 8), .inl ((k 8), 8, .inl fu)), ((a 9), .inl ((k 9), 48, .inl fp)), ((a 19), .inr (4, [.ref (a 20), .int nx, .int ph])), ((a 20), .inl ((k 20), 3920, .inl fq)), ((a 21), .inr (1, [.ref (a 22), .int tt])), ((a 22), .inl ((k 22), 300, .inl fd))]) [0, 1, 2, 3, 4, 5, 6, 7, 8, 9] (by decide) rfl
          have hK9 := hK.sub (tys' := [(c0, .int), ((k 8), .int), ((k 9), .int), ((k 20), .int), ((k 22), .int)]) [0, 1, 2, 3, 4] rfl
          exact W.iret (v := (-1)) hx hb hr (fun t ht hW => ⟨⟨(-1), (), rfl, ⟨rfl, trivial⟩, by rw [ht]; exact hP9, va_K.moved hW.alike hK9, hD9⟩, hS.F ht⟩) hS.2.2 dX9_attempt_191
        · have hG := q_ifn c_8 hG
          refine lv_aload_n hx hb dX9_attempt_176 rfl (lv_at hl 1 rfl) ?_
          refine va_get (D := (dC, dI)) (ci := 9) (v := .ref (a 21)) (C := RX9) (T := TX9) (N := 15) hx hb hts iA_9 hown hK hP 0 rfl rfl 9 (by decide) (hts (.fieldLink RX9 73 "HubTree" "diary" "LHubTree$Diary;") (List.mem_cons_of_mem _ m_47)) (fun _ h9 => h9) rfl dX9_attempt_177 ?_
          refine lv_iload_n hx hb dX9_attempt_180 rfl (lv_at hl 4 rfl) ?_
          refine lv_iload hx hb dX9_attempt_181 (lv_at hl 5 rfl) ?_
          refine lv_aload_n hx hb dX9_attempt_183 rfl (lv_at hl 2 rfl) ?_
          obtain ⟨o_9, r_10, hG⟩ := q_bi hG
          refine q_goi (v := o_9) (va_runV (As := []) (rest := [.int z2, .int z1, .ref (a 21)]) ⟨hx, hb, hml, hown, hts⟩ (c_X0_running l dC dI g r0 (a 7) (a 8) (a 9) dv c0 (o_6) (k 8) (k 9) fu fp o_9 r_10) (cwV 0 hts (q_gV m_876 m_877 m_878 m_33 m_879) rfl rfl rfl hdV_yX0_running_0 ⟨Nat.le_of_ble_eq_true rfl, Nat.le_of_ble_eq_true rfl⟩) (q_preV hK hP (q := (RX0, TX0, 2)) (ci := 0) (q0 := 1) rfl rfl [1, 2, 3, 4, 5] rfl [0, 1, 2] rfl) rfl rfl hl.1 rfl (lv_room (Nat.le_of_ble_eq_true rfl)) dX9_attempt_184 ⟨Nat.le_of_ble_eq_true rfl, Nat.le_of_ble_eq_true rfl⟩) hP hS (fun H locs hP hS => ?_)
          obtain ⟨o_11, r_12, hG⟩ := q_bi hG
          refine q_gov2 (wr := [((a 0), .inr (9, [.ref (a 1), .ref (a 3), .ref (a 4), .ref (a 7), .ref (a 10), .ref (a 14), .ref (a 16), .ref (a 18), .ref (a 19), .ref (a 21), .ref (a 23), .ref (a 25), .ref (a 27), .ref (a 28), .int hi])), (g, .inr (0, [.ref r0, .ref (a 7)])), (r0, .inl (c0, 98, .inl (o_6))), ((a 7), .inr (5, [.ref (a 8), .ref (a 9), .int dv])), ((a 8), .inl ((k 8), 8, .inl fu)), ((a 9), .inl ((k 9), 48, .inl fp)), ((a 19), .inr (4, [.ref (a 20), .int nx, .int ph])), ((a 20), .inl ((k 20), 3920, .inl fq))]) (va_runV (As := [.int z1, .int z2, .int o_9]) (rest := []) ⟨hx, hb, hml, hown, hts⟩ (c_X1_write l dC dI (a 21) (a 22) (k 22) fd tt z1 z2 o_9 (va_A [((a 21), .inr (1, [.ref (a 22), .int tt])), ((a 22), .inl ((k 22), 300, .inl fd))] H.size) o_11 r_12) (cwV 3 hts (q_gV m_885 m_886 m_887 m_46 m_888) rfl rfl rfl hdV_yX1_write_3 ⟨Nat.le_of_ble_eq_true rfl, Nat.le_of_ble_eq_true rfl⟩) (q_preWV hK hP hD (q := (RX1, TX1, 2)) (ci := 1) (q0 := 8) rfl rfl [8, 9] (by decide) rfl rfl [4] rfl) rfl rfl hl.1 rfl (lv_room (Nat.le_of_ble_eq_true rfl)) dX9_attempt_187 ⟨Nat.le_of_ble_eq_true rfl, Nat.le_of_ble_eq_true rfl⟩) hK hP hD hS hA [8, 9] [0, 1, 2, 3, 4, 5, 6, 7] rfl rfl (by decide) (by decide) (fun _ H locs _ hP hD hK9 hS => ?_)
          have hP : va_P (dC, dI) vwCl [((a 0), .inr (9, [.ref (a 1), .ref (a 3), .ref (a 4), .ref (a 7), .ref (a 10), .ref (a 14), .ref (a 16), .ref (a 18), .ref (a 19), .ref (a 21), .ref (a 23), .ref (a 25), .ref (a 27), .ref (a 28), .int hi])), (g, .inr (0, [.ref r0, .ref (a 7)])), (r0, .inl (c0, 98, .inl (o_6))), ((a 7), .inr (5, [.ref (a 8), .ref (a 9), .int dv])), ((a 8), .inl ((k 8), 8, .inl fu)), ((a 9), .inl ((k 9), 48, .inl fp)), ((a 19), .inr (4, [.ref (a 20), .int nx, .int ph])), ((a 20), .inl ((k 20), 3920, .inl fq)), ((a 21), .inr (1, [.ref (a 22), .int (o_11.2)])), ((a 22), .inl ((k 22), 300, .inl (o_11.1)))] H := hP.sub [0, 1, 2, 3, 4, 5, 6, 7, 8, 9] rfl
          have hD : va_D A [((a 0), .inr (9, [.ref (a 1), .ref (a 3), .ref (a 4), .ref (a 7), .ref (a 10), .ref (a 14), .ref (a 16), .ref (a 18), .ref (a 19), .ref (a 21), .ref (a 23), .ref (a 25), .ref (a 27), .ref (a 28), .int hi])), (g, .inr (0, [.ref r0, .ref (a 7)])), (r0, .inl (c0, 98, .inl (o_6))), ((a 7), .inr (5, [.ref (a 8), .ref (a 9), .int dv])), ((a 8), .inl ((k 8), 8, .inl fu)), ((a 9), .inl ((k 9), 48, .inl fp)), ((a 19), .inr (4, [.ref (a 20), .int nx, .int ph])), ((a 20), .inl ((k 20), 3920, .inl fq)), ((a 21), .inr (1, [.ref (a 22), .int (o_11.2)])), ((a 22), .inl ((k 22), 300, .inl (o_11.1)))] := hD.sub [0, 1, 2, 3, 4, 5, 6, 7, 8, 9] (by decide) rfl
          refine lv_iconst (v := (-1)) hx hb dX9_attempt_190 (by decide) ?_
          obtain rfl := Option.some.inj hG
          have hP9 := hP.sub (ws' := [((a 0), .inr (9, [.ref (a 1), .ref (a 3), .ref (a 4), .ref (a 7), .ref (a 10), .ref (a 14), .ref (a 16), .ref (a 18), .ref (a 19), .ref (a 21), .ref (a 23), .ref (a 25), .ref (a 27), .ref (a 28), .int hi])), (g, .inr (0, [.ref r0, .ref (a 7)])), (r0, .inl (c0, 98, .inl (o_6))), ((a 7), .inr (5, [.ref (a 8), .ref (a 9), .int dv])), ((a 8), .inl ((k 8), 8, .inl fu)), ((a 9), .inl ((k 9), 48, .inl fp)), ((a 19), .inr (4, [.ref (a 20), .int nx, .int ph])), ((a 20), .inl ((k 20), 3920, .inl fq)), ((a 21), .inr (1, [.ref (a 22), .int (o_11.2)])), ((a 22), .inl ((k 22), 300, .inl (o_11.1)))]) [0, 1, 2, 3, 4, 5, 6, 7, 8, 9] rfl
          have hD9 := hD.sub (ws' := [((a 0), .inr (9, [.ref (a 1), .ref (a 3), .ref (a 4), .ref (a 7), .ref (a 10), .ref (a 14), .ref (a 16), .ref (a 18), .ref (a 19), .ref (a 21), .ref (a 23), .ref (a 25), .ref (a 27), .ref (a 28), .int hi])), (g, .inr (0, [.ref r0, .ref (a 7)])), (r0, .inl (c0, 98, .inl (o_6))), ((a 7), .inr (5, [.ref (a 8), .ref (a 9), .int dv])), ((a 8), .inl ((k 8), 8, .inl fu)), ((a 9), .inl ((k 9), 48, .inl fp)), ((a 19), .inr (4, [.ref (a 20), .int nx, .int ph])), ((a 20), .inl ((k 20), 3920, .inl fq)), ((a 21), .inr (1, [.ref (a 22), .int (o_11.2)])), ((a 22), .inl ((k 22), 300, .inl (o_11.1)))]) [0, 1, 2, 3, 4, 5, 6, 7, 8, 9] (by decide) rfl
          have hK9 := hK.sub (tys' := [(c0, .int), ((k 8), .int), ((k 9), .int), ((k 20), .int), ((k 22), .int)]) [0, 1, 2, 3, 4] rfl
          exact W.iret (v := (-1)) hx hb hr (fun t ht hW => ⟨⟨(-1), (), rfl, ⟨rfl, trivial⟩, by rw [ht]; exact hP9, va_K.moved hW.alike hK9, hD9⟩, hS.F ht⟩) hS.2.2 dX9_attempt_191
      have hG := q_ifn e_5 hG
      by_cases e_13 : z1 = 1
      · have hG := q_ifp e_13 hG
        refine lv_tableIn (off := 50) (tgt := 85) hx hb dX9_attempt_35 (by rw [e_13]; decide) (by rw [e_13]; decide) (by rw [e_13]; decide) (by decide) ?_
        refine lv_aload_n hx hb dX9_attempt_85 rfl (lv_at hl 2 rfl) ?_
        refine lv_iload hx hb dX9_attempt_86 (lv_at hl 5 rfl) ?_
        obtain ⟨o_14, r_15, hG⟩ := q_bi hG
        refine q_gov2 (wr := [((a 0), .inr (9, [.ref (a 1), .ref (a 3), .ref (a 4), .ref (a 7), .ref (a 10), .ref (a 14), .ref (a 16), .ref (a 18), .ref (a 19), .ref (a 21), .ref (a 23), .ref (a 25), .ref (a 27), .ref (a 28), .int hi])), ((a 19), .inr (4, [.ref (a 20), .int nx, .int ph])), ((a 20), .inl ((k 20), 3920, .inl fq)), ((a 21), .inr (1, [.ref (a 22), .int tt])), ((a 22), .inl ((k 22), 300, .inl fd))]) (va_runV (As := [.int z2]) (rest := []) ⟨hx, hb, hml, hown, hts⟩ (c_X0_pullOut l dC dI g r0 (a 7) (a 8) (a 9) dv c0 fr (k 8) (k 9) fu fp z2 (va_A [(g, .inr (0, [.ref r0, .ref (a 7)])), (r0, .inl (c0, 98, .inl fr)), ((a 7), .inr (5, [.ref (a 8), .ref (a 9), .int dv])), ((a 8), .inl ((k 8), 8, .inl fu)), ((a 9), .inl ((k 9), 48, .inl fp))] H.size) o_14 r_15) (cwV 1 hts (q_gV m_803 m_804 m_805 m_33 m_806) rfl rfl rfl hdV_yX0_pullOut_1 ⟨Nat.le_of_ble_eq_true rfl, Nat.le_of_ble_eq_true rfl⟩) (q_preWV hK hP hD (q := (RX0, TX0, 2)) (ci := 0) (q0 := 1) rfl rfl [1, 2, 3, 4, 5] (by decide) rfl rfl [0, 1, 2] rfl) rfl rfl hl.1 rfl (lv_room (Nat.le_of_ble_eq_true rfl)) dX9_attempt_88 ⟨Nat.le_of_ble_eq_true rfl, Nat.le_of_ble_eq_true rfl⟩) hK hP hD hS hA [1, 2, 3, 4, 5] [0, 6, 7, 8, 9] rfl rfl (by decide) (by decide) (fun _ H locs _ hP hD hK9 hS => ?_)
        have hP : va_P (dC, dI) vwCl [((a 0), .inr (9, [.ref (a 1), .ref (a 3), .ref (a 4), .ref (a 7), .ref (a 10), .ref (a 14), .ref (a 16), .ref (a 18), .ref (a 19), .ref (a 21), .ref (a 23), .ref (a 25), .ref (a 27), .ref (a 28), .int hi])), (g, .inr (0, [.ref r0, .ref (a 7)])), (r0, .inl (c0, 98, .inl (o_14))), ((a 7), .inr (5, [.ref (a 8), .ref (a 9), .int dv])), ((a 8), .inl ((k 8), 8, .inl fu)), ((a 9), .inl ((k 9), 48, .inl fp)), ((a 19), .inr (4, [.ref (a 20), .int nx, .int ph])), ((a 20), .inl ((k 20), 3920, .inl fq)), ((a 21), .inr (1, [.ref (a 22), .int tt])), ((a 22), .inl ((k 22), 300, .inl fd))] H := hP.sub [0, 5, 6, 7, 8, 9, 1, 2, 3, 4] rfl
        have hD : va_D A [((a 0), .inr (9, [.ref (a 1), .ref (a 3), .ref (a 4), .ref (a 7), .ref (a 10), .ref (a 14), .ref (a 16), .ref (a 18), .ref (a 19), .ref (a 21), .ref (a 23), .ref (a 25), .ref (a 27), .ref (a 28), .int hi])), (g, .inr (0, [.ref r0, .ref (a 7)])), (r0, .inl (c0, 98, .inl (o_14))), ((a 7), .inr (5, [.ref (a 8), .ref (a 9), .int dv])), ((a 8), .inl ((k 8), 8, .inl fu)), ((a 9), .inl ((k 9), 48, .inl fp)), ((a 19), .inr (4, [.ref (a 20), .int nx, .int ph])), ((a 20), .inl ((k 20), 3920, .inl fq)), ((a 21), .inr (1, [.ref (a 22), .int tt])), ((a 22), .inl ((k 22), 300, .inl fd))] := hD.sub [0, 5, 6, 7, 8, 9, 1, 2, 3, 4] (by decide) rfl
        refine lv_goto (tgt := 172) hx hb dX9_attempt_91 (by decide) ?_
        refine lv_iload_n hx hb dX9_attempt_172 rfl (lv_at hl 3 rfl) ?_
        refine lv_if_eq (tgt := 190) hx hb dX9_attempt_173 (by decide) (fun c_16 => ?_) (fun c_16 => ?_)
        · have hG := q_ifp c_16 hG
          refine lv_iconst (v := (-1)) hx hb dX9_attempt_190 (by decide) ?_
          obtain rfl := Option.some.inj hG
          have hP9 := hP.sub (ws' := [((a 0), .inr (9, [.ref (a 1), .ref (a 3), .ref (a 4), .ref (a 7), .ref (a 10), .ref (a 14), .ref (a 16), .ref (a 18), .ref (a 19), .ref (a 21), .ref (a 23), .ref (a 25), .ref (a 27), .ref (a 28), .int hi])), (g, .inr (0, [.ref r0, .ref (a 7)])), (r0, .inl (c0, 98, .inl (o_14))), ((a 7), .inr (5, [.ref (a 8), .ref (a 9), .int dv])), ((a 8), .inl ((k 8), 8, .inl fu)), ((a 9), .inl ((k 9), 48, .inl fp)), ((a 19), .inr (4, [.ref (a 20), .int nx, .int ph])), ((a 20), .inl ((k 20), 3920, .inl fq)), ((a 21), .inr (1, [.ref (a 22), .int tt])), ((a 22), .inl ((k 22), 300, .inl fd))]) [0, 1, 2, 3, 4, 5, 6, 7, 8, 9] rfl
          have hD9 := hD.sub (ws' := [((a 0), .inr (9, [.ref (a 1), .ref (a 3), .ref (a 4), .ref (a 7), .ref (a 10), .ref (a 14), .ref (a 16), .ref (a 18), .ref (a 19), .ref (a 21), .ref (a 23), .ref (a 25), .ref (a 27), .ref (a 28), .int hi])), (g, .inr (0, [.ref r0, .ref (a 7)])), (r0, .inl (c0, 98, .inl (o_14))), ((a 7), .inr (5, [.ref (a 8), .ref (a 9), .int dv])), ((a 8), .inl ((k 8), 8, .inl fu)), ((a 9), .inl ((k 9), 48, .inl fp)), ((a 19), .inr (4, [.ref (a 20), .int nx, .int ph])), ((a 20), .inl ((k 20), 3920, .inl fq)), ((a 21), .inr (1, [.ref (a 22), .int tt])), ((a 22), .inl ((k 22), 300, .inl fd))]) [0, 1, 2, 3, 4, 5, 6, 7, 8, 9] (by decide) rfl
          have hK9 := hK.sub (tys' := [(c0, .int), ((k 8), .int), ((k 9), .int), ((k 20), .int), ((k 22), .int)]) [0, 1, 2, 3, 4] rfl
          exact W.iret (v := (-1)) hx hb hr (fun t ht hW => ⟨⟨(-1), (), rfl, ⟨rfl, trivial⟩, by rw [ht]; exact hP9, va_K.moved hW.alike hK9, hD9⟩, hS.F ht⟩) hS.2.2 dX9_attempt_191
        · have hG := q_ifn c_16 hG
          refine lv_aload_n hx hb dX9_attempt_176 rfl (lv_at hl 1 rfl) ?_
          refine va_get (D := (dC, dI)) (ci := 9) (v := .ref (a 21)) (C := RX9) (T := TX9) (N := 15) hx hb hts iA_9 hown hK hP 0 rfl rfl 9 (by decide) (hts (.fieldLink RX9 73 "HubTree" "diary" "LHubTree$Diary;") (List.mem_cons_of_mem _ m_47)) (fun _ h9 => h9) rfl dX9_attempt_177 ?_
          refine lv_iload_n hx hb dX9_attempt_180 rfl (lv_at hl 4 rfl) ?_
          refine lv_iload hx hb dX9_attempt_181 (lv_at hl 5 rfl) ?_
          refine lv_aload_n hx hb dX9_attempt_183 rfl (lv_at hl 2 rfl) ?_
          obtain ⟨o_17, r_18, hG⟩ := q_bi hG
          refine q_goi (v := o_17) (va_runV (As := []) (rest := [.int z2, .int z1, .ref (a 21)]) ⟨hx, hb, hml, hown, hts⟩ (c_X0_running l dC dI g r0 (a 7) (a 8) (a 9) dv c0 (o_14) (k 8) (k 9) fu fp o_17 r_18) (cwV 0 hts (q_gV m_876 m_877 m_878 m_33 m_879) rfl rfl rfl hdV_yX0_running_0 ⟨Nat.le_of_ble_eq_true rfl, Nat.le_of_ble_eq_true rfl⟩) (q_preV hK hP (q := (RX0, TX0, 2)) (ci := 0) (q0 := 1) rfl rfl [1, 2, 3, 4, 5] rfl [0, 1, 2] rfl) rfl rfl hl.1 rfl (lv_room (Nat.le_of_ble_eq_true rfl)) dX9_attempt_184 ⟨Nat.le_of_ble_eq_true rfl, Nat.le_of_ble_eq_true rfl⟩) hP hS (fun H locs hP hS => ?_)
          obtain ⟨o_19, r_20, hG⟩ := q_bi hG
          refine q_gov2 (wr := [((a 0), .inr (9, [.ref (a 1), .ref (a 3), .ref (a 4), .ref (a 7), .ref (a 10), .ref (a 14), .ref (a 16), .ref (a 18), .ref (a 19), .ref (a 21), .ref (a 23), .ref (a 25), .ref (a 27), .ref (a 28), .int hi])), (g, .inr (0, [.ref r0, .ref (a 7)])), (r0, .inl (c0, 98, .inl (o_14))), ((a 7), .inr (5, [.ref (a 8), .ref (a 9), .int dv])), ((a 8), .inl ((k 8), 8, .inl fu)), ((a 9), .inl ((k 9), 48, .inl fp)), ((a 19), .inr (4, [.ref (a 20), .int nx, .int ph])), ((a 20), .inl ((k 20), 3920, .inl fq))]) (va_runV (As := [.int z1, .int z2, .int o_17]) (rest := []) ⟨hx, hb, hml, hown, hts⟩ (c_X1_write l dC dI (a 21) (a 22) (k 22) fd tt z1 z2 o_17 (va_A [((a 21), .inr (1, [.ref (a 22), .int tt])), ((a 22), .inl ((k 22), 300, .inl fd))] H.size) o_19 r_20) (cwV 3 hts (q_gV m_885 m_886 m_887 m_46 m_888) rfl rfl rfl hdV_yX1_write_3 ⟨Nat.le_of_ble_eq_true rfl, Nat.le_of_ble_eq_true rfl⟩) (q_preWV hK hP hD (q := (RX1, TX1, 2)) (ci := 1) (q0 := 8) rfl rfl [8, 9] (by decide) rfl rfl [4] rfl) rfl rfl hl.1 rfl (lv_room (Nat.le_of_ble_eq_true rfl)) dX9_attempt_187 ⟨Nat.le_of_ble_eq_true rfl, Nat.le_of_ble_eq_true rfl⟩) hK hP hD hS hA [8, 9] [0, 1, 2, 3, 4, 5, 6, 7] rfl rfl (by decide) (by decide) (fun _ H locs _ hP hD hK9 hS => ?_)
          have hP : va_P (dC, dI) vwCl [((a 0), .inr (9, [.ref (a 1), .ref (a 3), .ref (a 4), .ref (a 7), .ref (a 10), .ref (a 14), .ref (a 16), .ref (a 18), .ref (a 19), .ref (a 21), .ref (a 23), .ref (a 25), .ref (a 27), .ref (a 28), .int hi])), (g, .inr (0, [.ref r0, .ref (a 7)])), (r0, .inl (c0, 98, .inl (o_14))), ((a 7), .inr (5, [.ref (a 8), .ref (a 9), .int dv])), ((a 8), .inl ((k 8), 8, .inl fu)), ((a 9), .inl ((k 9), 48, .inl fp)), ((a 19), .inr (4, [.ref (a 20), .int nx, .int ph])), ((a 20), .inl ((k 20), 3920, .inl fq)), ((a 21), .inr (1, [.ref (a 22), .int (o_19.2)])), ((a 22), .inl ((k 22), 300, .inl (o_19.1)))] H := hP.sub [0, 1, 2, 3, 4, 5, 6, 7, 8, 9] rfl
          have hD : va_D A [((a 0), .inr (9, [.ref (a 1), .ref (a 3), .ref (a 4), .ref (a 7), .ref (a 10), .ref (a 14), .ref (a 16), .ref (a 18), .ref (a 19), .ref (a 21), .ref (a 23), .ref (a 25), .ref (a 27), .ref (a 28), .int hi])), (g, .inr (0, [.ref r0, .ref (a 7)])), (r0, .inl (c0, 98, .inl (o_14))), ((a 7), .inr (5, [.ref (a 8), .ref (a 9), .int dv])), ((a 8), .inl ((k 8), 8, .inl fu)), ((a 9), .inl ((k 9), 48, .inl fp)), ((a 19), .inr (4, [.ref (a 20), .int nx, .int ph])), ((a 20), .inl ((k 20), 3920, .inl fq)), ((a 21), .inr (1, [.ref (a 22), .int (o_19.2)])), ((a 22), .inl ((k 22), 300, .inl (o_19.1)))] := hD.sub [0, 1, 2, 3, 4, 5, 6, 7, 8, 9] (by decide) rfl
          refine lv_iconst (v := (-1)) hx hb dX9_attempt_190 (by decide) ?_
          obtain rfl := Option.some.inj hG
          have hP9 := hP.sub (ws' := [((a 0), .inr (9, [.ref (a 1), .ref (a 3), .ref (a 4), .ref (a 7), .ref (a 10), .ref (a 14), .ref (a 16), .ref (a 18), .ref (a 19), .ref (a 21), .ref (a 23), .ref (a 25), .ref (a 27), .ref (a 28), .int hi])), (g, .inr (0, [.ref r0, .ref (a 7)])), (r0, .inl (c0, 98, .inl (o_14))), ((a 7), .inr (5, [.ref (a 8), .ref (a 9), .int dv])), ((a 8), .inl ((k 8), 8, .inl fu)), ((a 9), .inl ((k 9), 48, .inl fp)), ((a 19), .inr (4, [.ref (a 20), .int nx, .int ph])), ((a 20), .inl ((k 20), 3920, .inl fq)), ((a 21), .inr (1, [.ref (a 22), .int (o_19.2)])), ((a 22), .inl ((k 22), 300, .inl (o_19.1)))]) [0, 1, 2, 3, 4, 5, 6, 7, 8, 9] rfl
          have hD9 := hD.sub (ws' := [((a 0), .inr (9, [.ref (a 1), .ref (a 3), .ref (a 4), .ref (a 7), .ref (a 10), .ref (a 14), .ref (a 16), .ref (a 18), .ref (a 19), .ref (a 21), .ref (a 23), .ref (a 25), .ref (a 27), .ref (a 28), .int hi])), (g, .inr (0, [.ref r0, .ref (a 7)])), (r0, .inl (c0, 98, .inl (o_14))), ((a 7), .inr (5, [.ref (a 8), .ref (a 9), .int dv])), ((a 8), .inl ((k 8), 8, .inl fu)), ((a 9), .inl ((k 9), 48, .inl fp)), ((a 19), .inr (4, [.ref (a 20), .int nx, .int ph])), ((a 20), .inl ((k 20), 3920, .inl fq)), ((a 21), .inr (1, [.ref (a 22), .int (o_19.2)])), ((a 22), .inl ((k 22), 300, .inl (o_19.1)))]) [0, 1, 2, 3, 4, 5, 6, 7, 8, 9] (by decide) rfl
          have hK9 := hK.sub (tys' := [(c0, .int), ((k 8), .int), ((k 9), .int), ((k 20), .int), ((k 22), .int)]) [0, 1, 2, 3, 4] rfl
          exact W.iret (v := (-1)) hx hb hr (fun t ht hW => ⟨⟨(-1), (), rfl, ⟨rfl, trivial⟩, by rw [ht]; exact hP9, va_K.moved hW.alike hK9, hD9⟩, hS.F ht⟩) hS.2.2 dX9_attempt_191
      have hG := q_ifn e_13 hG
      by_cases e_21 : z1 = 2
      · have hG := q_ifp e_21 hG
        refine lv_tableIn (off := 59) (tgt := 94) hx hb dX9_attempt_35 (by rw [e_21]; decide) (by rw [e_21]; decide) (by rw [e_21]; decide) (by decide) ?_
        refine lv_iconst (v := 0) hx hb dX9_attempt_94 (by decide) ?_
        refine lv_istore (lv' := [(8, .int 0), (7, .int o_1), (0, .ref (a 0)), (1, .ref g), (2, .int z0), (3, .int z1), (4, .int z2), (5, .int z3), (6, .int z4)]) hx hb dX9_attempt_95 hl (by decide) rfl (fun ls hl => ?_)
        have L_97 : ∀ (n_97 : Nat) (x7_97 : Int32) (x8_97 : Int32) (nx_c : Int32) (ph_c : Int32) (tt_c : Int32) (fr_c : Nat → Int32) (fq_c : Nat → Int32) (fd_c : Nat → Int32) (H : Heap) (locs : List Loc) (ls : Array Slot), FL_X9_attempt_97 dv nx ph tt fr fu fp fq fd z0 z1 z2 z3 z4 n_97 x7_97 x8_97 nx_c ph_c tt_c fr_c fq_c fd_c = some o → va_P (dC, dI) vwCl [((a 0), .inr (9, [.ref (a 1), .ref (a 3), .ref (a 4), .ref (a 7), .ref (a 10), .ref (a 14), .ref (a 16), .ref (a 18), .ref (a 19), .ref (a 21), .ref (a 23), .ref (a 25), .ref (a 27), .ref (a 28), .int hi])), (g, .inr (0, [.ref r0, .ref (a 7)])), (r0, .inl (c0, 98, .inl fr_c)), ((a 7), .inr (5, [.ref (a 8), .ref (a 9), .int dv])), ((a 8), .inl ((k 8), 8, .inl fu)), ((a 9), .inl ((k 9), 48, .inl fp)), ((a 19), .inr (4, [.ref (a 20), .int nx_c, .int ph_c])), ((a 20), .inl ((k 20), 3920, .inl fq_c)), ((a 21), .inr (1, [.ref (a 22), .int tt_c])), ((a 22), .inl ((k 22), 300, .inl fd_c))] H → va_D A [((a 0), .inr (9, [.ref (a 1), .ref (a 3), .ref (a 4), .ref (a 7), .ref (a 10), .ref (a 14), .ref (a 16), .ref (a 18), .ref (a 19), .ref (a 21), .ref (a 23), .ref (a 25), .ref (a 27), .ref (a 28), .int hi])), (g, .inr (0, [.ref r0, .ref (a 7)])), (r0, .inl (c0, 98, .inl fr_c)), ((a 7), .inr (5, [.ref (a 8), .ref (a 9), .int dv])), ((a 8), .inl ((k 8), 8, .inl fu)), ((a 9), .inl ((k 9), 48, .inl fp)), ((a 19), .inr (4, [.ref (a 20), .int nx_c, .int ph_c])), ((a 20), .inl ((k 20), 3920, .inl fq_c)), ((a 21), .inr (1, [.ref (a 22), .int tt_c])), ((a 22), .inl ((k 22), 300, .inl fd_c))] → va_S A s.heap H locs → lv_has ls 9 [(8, .int x8_97), (7, .int x7_97), (0, .ref (a 0)), (1, .ref g), (2, .int z0), (3, .int z1), (4, .int z2), (5, .int z3), (6, .int z4)] → W p l e (headSpec (.code yX9_attempt cX9_attempt 9 (some .int) :: wA) ({ frames := 5, cells := 0, slots := 0, locals := 116 })).room s m #[.ref (a 0), .ref g, .int z0, .int z1, .int z2, .int z3, .int z4] below meth c H locs 0 0 (MQ below (va_Qi (fun (r : Int32) (_ : Unit) => r = o.1 ∧ True) (fun (_ : Unit) t => q_B (dC, dI) A [((a 0), .inr (9, [.ref (a 1), .ref (a 3), .ref (a 4), .ref (a 7), .ref (a 10), .ref (a 14), .ref (a 16), .ref (a 18), .ref (a 19), .ref (a 21), .ref (a 23), .ref (a 25), .ref (a 27), .ref (a 28), .int hi])), (g, .inr (0, [.ref r0, .ref (a 7)])), (r0, .inl (c0, 98, .inl (o.2.2.2.2.1))), ((a 7), .inr (5, [.ref (a 8), .ref (a 9), .int dv])), ((a 8), .inl ((k 8), 8, .inl fu)), ((a 9), .inl ((k 9), 48, .inl fp)), ((a 19), .inr (4, [.ref (a 20), .int (o.2.1), .int (o.2.2.1)])), ((a 20), .inl ((k 20), 3920, .inl (o.2.2.2.2.2.1))), ((a 21), .inr (1, [.ref (a 22), .int (o.2.2.2.1)])), ((a 22), .inl ((k 22), 300, .inl (o.2.2.2.2.2.2)))] [(c0, .int), ((k 8), .int), ((k 9), .int), ((k 20), .int), ((k 22), .int)] t) A) #[.ref (a 0), .ref g, .int z0, .int z1, .int z2, .int z3, .int z4] s 0 0 A) (F0 m 97 ls []) := by
          intro n_97
          induction n_97 with
          | zero =>
            intro x7_97 x8_97 nx_c ph_c tt_c fr_c fq_c fd_c H locs ls hG
            exact q_no hG
          | succ n_97 ih_97 =>
            intro x7_97 x8_97 nx_c ph_c tt_c fr_c fq_c fd_c H locs ls hG hP hD hS hl
            unfold FL_X9_attempt_97 at hG
            refine lv_iload hx hb dX9_attempt_97 (lv_at hl 0 rfl) ?_
            refine lv_iload hx hb dX9_attempt_99 (lv_at hl 6 rfl) ?_
            refine lv_icmp_ge (tgt := 114) hx hb dX9_attempt_101 (by decide) (fun c_22 => ?_) (fun c_22 => ?_)
            · have hG := q_ifp c_22 hG
              refine lv_goto (tgt := 172) hx hb dX9_attempt_114 (by decide) ?_
              refine lv_iload_n hx hb dX9_attempt_172 rfl (lv_at hl 4 rfl) ?_
              refine lv_if_eq (tgt := 190) hx hb dX9_attempt_173 (by decide) (fun c_23 => ?_) (fun c_23 => ?_)
              · have hG := q_ifp c_23 hG
                refine lv_iconst (v := (-1)) hx hb dX9_attempt_190 (by decide) ?_
                obtain rfl := Option.some.inj hG
                have hP9 := hP.sub (ws' := [((a 0), .inr (9, [.ref (a 1), .ref (a 3), .ref (a 4), .ref (a 7), .ref (a 10), .ref (a 14), .ref (a 16), .ref (a 18), .ref (a 19), .ref (a 21), .ref (a 23), .ref (a 25), .ref (a 27), .ref (a 28), .int hi])), (g, .inr (0, [.ref r0, .ref (a 7)])), (r0, .inl (c0, 98, .inl fr_c)), ((a 7), .inr (5, [.ref (a 8), .ref (a 9), .int dv])), ((a 8), .inl ((k 8), 8, .inl fu)), ((a 9), .inl ((k 9), 48, .inl fp)), ((a 19), .inr (4, [.ref (a 20), .int nx_c, .int ph_c])), ((a 20), .inl ((k 20), 3920, .inl fq_c)), ((a 21), .inr (1, [.ref (a 22), .int tt_c])), ((a 22), .inl ((k 22), 300, .inl fd_c))]) [0, 1, 2, 3, 4, 5, 6, 7, 8, 9] rfl
                have hD9 := hD.sub (ws' := [((a 0), .inr (9, [.ref (a 1), .ref (a 3), .ref (a 4), .ref (a 7), .ref (a 10), .ref (a 14), .ref (a 16), .ref (a 18), .ref (a 19), .ref (a 21), .ref (a 23), .ref (a 25), .ref (a 27), .ref (a 28), .int hi])), (g, .inr (0, [.ref r0, .ref (a 7)])), (r0, .inl (c0, 98, .inl fr_c)), ((a 7), .inr (5, [.ref (a 8), .ref (a 9), .int dv])), ((a 8), .inl ((k 8), 8, .inl fu)), ((a 9), .inl ((k 9), 48, .inl fp)), ((a 19), .inr (4, [.ref (a 20), .int nx_c, .int ph_c])), ((a 20), .inl ((k 20), 3920, .inl fq_c)), ((a 21), .inr (1, [.ref (a 22), .int tt_c])), ((a 22), .inl ((k 22), 300, .inl fd_c))]) [0, 1, 2, 3, 4, 5, 6, 7, 8, 9] (by decide) rfl
                have hK9 := hK.sub (tys' := [(c0, .int), ((k 8), .int), ((k 9), .int), ((k 20), .int), ((k 22), .int)]) [0, 1, 2, 3, 4] rfl
                exact W.iret (v := (-1)) hx hb hr (fun t ht hW => ⟨⟨(-1), (), rfl, ⟨rfl, trivial⟩, by rw [ht]; exact hP9, va_K.moved hW.alike hK9, hD9⟩, hS.F ht⟩) hS.2.2 dX9_attempt_191
              · have hG := q_ifn c_23 hG
                refine lv_aload_n hx hb dX9_attempt_176 rfl (lv_at hl 2 rfl) ?_
                refine va_get (D := (dC, dI)) (ci := 9) (v := .ref (a 21)) (C := RX9) (T := TX9) (N := 15) hx hb hts iA_9 hown hK hP 0 rfl rfl 9 (by decide) (hts (.fieldLink RX9 73 "HubTree" "diary" "LHubTree$Diary;") (List.mem_cons_of_mem _ m_47)) (fun _ h9 => h9) rfl dX9_attempt_177 ?_
                refine lv_iload_n hx hb dX9_attempt_180 rfl (lv_at hl 5 rfl) ?_
                refine lv_iload hx hb dX9_attempt_181 (lv_at hl 6 rfl) ?_
                refine lv_aload_n hx hb dX9_attempt_183 rfl (lv_at hl 3 rfl) ?_
                obtain ⟨o_24, r_25, hG⟩ := q_bi hG
                refine q_goi (v := o_24) (va_runV (As := []) (rest := [.int z2, .int z1, .ref (a 21)]) ⟨hx, hb, hml, hown, hts⟩ (c_X0_running l dC dI g r0 (a 7) (a 8) (a 9) dv c0 fr_c (k 8) (k 9) fu fp o_24 r_25) (cwV 0 hts (q_gV m_876 m_877 m_878 m_33 m_879) rfl rfl rfl hdV_yX0_running_0 ⟨Nat.le_of_ble_eq_true rfl, Nat.le_of_ble_eq_true rfl⟩) (q_preV hK hP (q := (RX0, TX0, 2)) (ci := 0) (q0 := 1) rfl rfl [1, 2, 3, 4, 5] rfl [0, 1, 2] rfl) rfl rfl hl.1 rfl (lv_room (Nat.le_of_ble_eq_true rfl)) dX9_attempt_184 ⟨Nat.le_of_ble_eq_true rfl, Nat.le_of_ble_eq_true rfl⟩) hP hS (fun H locs hP hS => ?_)
                obtain ⟨o_26, r_27, hG⟩ := q_bi hG
                refine q_gov2 (wr := [((a 0), .inr (9, [.ref (a 1), .ref (a 3), .ref (a 4), .ref (a 7), .ref (a 10), .ref (a 14), .ref (a 16), .ref (a 18), .ref (a 19), .ref (a 21), .ref (a 23), .ref (a 25), .ref (a 27), .ref (a 28), .int hi])), (g, .inr (0, [.ref r0, .ref (a 7)])), (r0, .inl (c0, 98, .inl fr_c)), ((a 7), .inr (5, [.ref (a 8), .ref (a 9), .int dv])), ((a 8), .inl ((k 8), 8, .inl fu)), ((a 9), .inl ((k 9), 48, .inl fp)), ((a 19), .inr (4, [.ref (a 20), .int nx_c, .int ph_c])), ((a 20), .inl ((k 20), 3920, .inl fq_c))]) (va_runV (As := [.int z1, .int z2, .int o_24]) (rest := []) ⟨hx, hb, hml, hown, hts⟩ (c_X1_write l dC dI (a 21) (a 22) (k 22) fd_c tt_c z1 z2 o_24 (va_A [((a 21), .inr (1, [.ref (a 22), .int tt_c])), ((a 22), .inl ((k 22), 300, .inl fd_c))] H.size) o_26 r_27) (cwV 3 hts (q_gV m_885 m_886 m_887 m_46 m_888) rfl rfl rfl hdV_yX1_write_3 ⟨Nat.le_of_ble_eq_true rfl, Nat.le_of_ble_eq_true rfl⟩) (q_preWV hK hP hD (q := (RX1, TX1, 2)) (ci := 1) (q0 := 8) rfl rfl [8, 9] (by decide) rfl rfl [4] rfl) rfl rfl hl.1 rfl (lv_room (Nat.le_of_ble_eq_true rfl)) dX9_attempt_187 ⟨Nat.le_of_ble_eq_true rfl, Nat.le_of_ble_eq_true rfl⟩) hK hP hD hS hA [8, 9] [0, 1, 2, 3, 4, 5, 6, 7] rfl rfl (by decide) (by decide) (fun _ H locs _ hP hD hK9 hS => ?_)
                have hP : va_P (dC, dI) vwCl [((a 0), .inr (9, [.ref (a 1), .ref (a 3), .ref (a 4), .ref (a 7), .ref (a 10), .ref (a 14), .ref (a 16), .ref (a 18), .ref (a 19), .ref (a 21), .ref (a 23), .ref (a 25), .ref (a 27), .ref (a 28), .int hi])), (g, .inr (0, [.ref r0, .ref (a 7)])), (r0, .inl (c0, 98, .inl fr_c)), ((a 7), .inr (5, [.ref (a 8), .ref (a 9), .int dv])), ((a 8), .inl ((k 8), 8, .inl fu)), ((a 9), .inl ((k 9), 48, .inl fp)), ((a 19), .inr (4, [.ref (a 20), .int nx_c, .int ph_c])), ((a 20), .inl ((k 20), 3920, .inl fq_c)), ((a 21), .inr (1, [.ref (a 22), .int (o_26.2)])), ((a 22), .inl ((k 22), 300, .inl (o_26.1)))] H := hP.sub [0, 1, 2, 3, 4, 5, 6, 7, 8, 9] rfl
                have hD : va_D A [((a 0), .inr (9, [.ref (a 1), .ref (a 3), .ref (a 4), .ref (a 7), .ref (a 10), .ref (a 14), .ref (a 16), .ref (a 18), .ref (a 19), .ref (a 21), .ref (a 23), .ref (a 25), .ref (a 27), .ref (a 28), .int hi])), (g, .inr (0, [.ref r0, .ref (a 7)])), (r0, .inl (c0, 98, .inl fr_c)), ((a 7), .inr (5, [.ref (a 8), .ref (a 9), .int dv])), ((a 8), .inl ((k 8), 8, .inl fu)), ((a 9), .inl ((k 9), 48, .inl fp)), ((a 19), .inr (4, [.ref (a 20), .int nx_c, .int ph_c])), ((a 20), .inl ((k 20), 3920, .inl fq_c)), ((a 21), .inr (1, [.ref (a 22), .int (o_26.2)])), ((a 22), .inl ((k 22), 300, .inl (o_26.1)))] := hD.sub [0, 1, 2, 3, 4, 5, 6, 7, 8, 9] (by decide) rfl
                refine lv_iconst (v := (-1)) hx hb dX9_attempt_190 (by decide) ?_
                obtain rfl := Option.some.inj hG
                have hP9 := hP.sub (ws' := [((a 0), .inr (9, [.ref (a 1), .ref (a 3), .ref (a 4), .ref (a 7), .ref (a 10), .ref (a 14), .ref (a 16), .ref (a 18), .ref (a 19), .ref (a 21), .ref (a 23), .ref (a 25), .ref (a 27), .ref (a 28), .int hi])), (g, .inr (0, [.ref r0, .ref (a 7)])), (r0, .inl (c0, 98, .inl fr_c)), ((a 7), .inr (5, [.ref (a 8), .ref (a 9), .int dv])), ((a 8), .inl ((k 8), 8, .inl fu)), ((a 9), .inl ((k 9), 48, .inl fp)), ((a 19), .inr (4, [.ref (a 20), .int nx_c, .int ph_c])), ((a 20), .inl ((k 20), 3920, .inl fq_c)), ((a 21), .inr (1, [.ref (a 22), .int (o_26.2)])), ((a 22), .inl ((k 22), 300, .inl (o_26.1)))]) [0, 1, 2, 3, 4, 5, 6, 7, 8, 9] rfl
                have hD9 := hD.sub (ws' := [((a 0), .inr (9, [.ref (a 1), .ref (a 3), .ref (a 4), .ref (a 7), .ref (a 10), .ref (a 14), .ref (a 16), .ref (a 18), .ref (a 19), .ref (a 21), .ref (a 23), .ref (a 25), .ref (a 27), .ref (a 28), .int hi])), (g, .inr (0, [.ref r0, .ref (a 7)])), (r0, .inl (c0, 98, .inl fr_c)), ((a 7), .inr (5, [.ref (a 8), .ref (a 9), .int dv])), ((a 8), .inl ((k 8), 8, .inl fu)), ((a 9), .inl ((k 9), 48, .inl fp)), ((a 19), .inr (4, [.ref (a 20), .int nx_c, .int ph_c])), ((a 20), .inl ((k 20), 3920, .inl fq_c)), ((a 21), .inr (1, [.ref (a 22), .int (o_26.2)])), ((a 22), .inl ((k 22), 300, .inl (o_26.1)))]) [0, 1, 2, 3, 4, 5, 6, 7, 8, 9] (by decide) rfl
                have hK9 := hK.sub (tys' := [(c0, .int), ((k 8), .int), ((k 9), .int), ((k 20), .int), ((k 22), .int)]) [0, 1, 2, 3, 4] rfl
                exact W.iret (v := (-1)) hx hb hr (fun t ht hW => ⟨⟨(-1), (), rfl, ⟨rfl, trivial⟩, by rw [ht]; exact hP9, va_K.moved hW.alike hK9, hD9⟩, hS.F ht⟩) hS.2.2 dX9_attempt_191
            · have hG := q_ifn c_22 hG
              refine lv_aload_n hx hb dX9_attempt_104 rfl (lv_at hl 3 rfl) ?_
              obtain ⟨o_28, r_29, hG⟩ := q_bi hG
              refine q_gov2 (wr := [((a 0), .inr (9, [.ref (a 1), .ref (a 3), .ref (a 4), .ref (a 7), .ref (a 10), .ref (a 14), .ref (a 16), .ref (a 18), .ref (a 19), .ref (a 21), .ref (a 23), .ref (a 25), .ref (a 27), .ref (a 28), .int hi])), ((a 19), .inr (4, [.ref (a 20), .int nx_c, .int ph_c])), ((a 20), .inl ((k 20), 3920, .inl fq_c)), ((a 21), .inr (1, [.ref (a 22), .int tt_c])), ((a 22), .inl ((k 22), 300, .inl fd_c))]) (va_runV (As := []) (rest := []) ⟨hx, hb, hml, hown, hts⟩ (c_X0_passTick l dC dI g r0 (a 7) (a 8) (a 9) dv c0 fr_c (k 8) (k 9) fu fp (va_A [(g, .inr (0, [.ref r0, .ref (a 7)])), (r0, .inl (c0, 98, .inl fr_c)), ((a 7), .inr (5, [.ref (a 8), .ref (a 9), .int dv])), ((a 8), .inl ((k 8), 8, .inl fu)), ((a 9), .inl ((k 9), 48, .inl fp))] H.size) o_28 r_29) (cwV 0 hts (q_gV m_808 m_809 m_810 m_33 m_811) rfl rfl rfl hdV_yX0_passTick_0 ⟨Nat.le_of_ble_eq_true rfl, Nat.le_of_ble_eq_true rfl⟩) (q_preWV hK hP hD (q := (RX0, TX0, 2)) (ci := 0) (q0 := 1) rfl rfl [1, 2, 3, 4, 5] (by decide) rfl rfl [0, 1, 2] rfl) rfl rfl hl.1 rfl (lv_room (Nat.le_of_ble_eq_true rfl)) dX9_attempt_105 ⟨Nat.le_of_ble_eq_true rfl, Nat.le_of_ble_eq_true rfl⟩) hK hP hD hS hA [1, 2, 3, 4, 5] [0, 6, 7, 8, 9] rfl rfl (by decide) (by decide) (fun _ H locs _ hP hD hK9 hS => ?_)
              have hP : va_P (dC, dI) vwCl [((a 0), .inr (9, [.ref (a 1), .ref (a 3), .ref (a 4), .ref (a 7), .ref (a 10), .ref (a 14), .ref (a 16), .ref (a 18), .ref (a 19), .ref (a 21), .ref (a 23), .ref (a 25), .ref (a 27), .ref (a 28), .int hi])), (g, .inr (0, [.ref r0, .ref (a 7)])), (r0, .inl (c0, 98, .inl (o_28))), ((a 7), .inr (5, [.ref (a 8), .ref (a 9), .int dv])), ((a 8), .inl ((k 8), 8, .inl fu)), ((a 9), .inl ((k 9), 48, .inl fp)), ((a 19), .inr (4, [.ref (a 20), .int nx_c, .int ph_c])), ((a 20), .inl ((k 20), 3920, .inl fq_c)), ((a 21), .inr (1, [.ref (a 22), .int tt_c])), ((a 22), .inl ((k 22), 300, .inl fd_c))] H := hP.sub [0, 5, 6, 7, 8, 9, 1, 2, 3, 4] rfl
              have hD : va_D A [((a 0), .inr (9, [.ref (a 1), .ref (a 3), .ref (a 4), .ref (a 7), .ref (a 10), .ref (a 14), .ref (a 16), .ref (a 18), .ref (a 19), .ref (a 21), .ref (a 23), .ref (a 25), .ref (a 27), .ref (a 28), .int hi])), (g, .inr (0, [.ref r0, .ref (a 7)])), (r0, .inl (c0, 98, .inl (o_28))), ((a 7), .inr (5, [.ref (a 8), .ref (a 9), .int dv])), ((a 8), .inl ((k 8), 8, .inl fu)), ((a 9), .inl ((k 9), 48, .inl fp)), ((a 19), .inr (4, [.ref (a 20), .int nx_c, .int ph_c])), ((a 20), .inl ((k 20), 3920, .inl fq_c)), ((a 21), .inr (1, [.ref (a 22), .int tt_c])), ((a 22), .inl ((k 22), 300, .inl fd_c))] := hD.sub [0, 5, 6, 7, 8, 9, 1, 2, 3, 4] (by decide) rfl
              refine lv_iinc (v := (x8_97 + 1)) (lv' := [(8, .int (x8_97 + 1)), (7, .int x7_97), (0, .ref (a 0)), (1, .ref g), (2, .int z0), (3, .int z1), (4, .int z2), (5, .int z3), (6, .int z4)]) hx hb dX9_attempt_108 hl (k := 0) rfl (rfl) (by decide) rfl (fun ls hl => ?_)
              refine lv_goto (tgt := 97) hx hb dX9_attempt_111 (by decide) ?_
              exact ih_97 x7_97 (x8_97 + 1) nx_c ph_c tt_c (o_28) fq_c fd_c H locs ls hG hP hD hS (lv_sub hl [0, 1, 2, 3, 4, 5, 6, 7, 8] rfl)
        exact L_97 1000 o_1 0 nx ph tt fr fq fd H locs ls hG hP hD hS hl
      have hG := q_ifn e_21 hG
      by_cases e_30 : z1 = 3
      · have hG := q_ifp e_30 hG
        refine lv_tableIn (off := 82) (tgt := 117) hx hb dX9_attempt_35 (by rw [e_30]; decide) (by rw [e_30]; decide) (by rw [e_30]; decide) (by decide) ?_
        refine lv_aload_n hx hb dX9_attempt_117 rfl (lv_at hl 2 rfl) ?_
        refine lv_iload hx hb dX9_attempt_118 (lv_at hl 5 rfl) ?_
        obtain ⟨o_31, r_32, hG⟩ := q_bi hG
        refine q_gov2 (wr := [((a 0), .inr (9, [.ref (a 1), .ref (a 3), .ref (a 4), .ref (a 7), .ref (a 10), .ref (a 14), .ref (a 16), .ref (a 18), .ref (a 19), .ref (a 21), .ref (a 23), .ref (a 25), .ref (a 27), .ref (a 28), .int hi])), ((a 19), .inr (4, [.ref (a 20), .int nx, .int ph])), ((a 20), .inl ((k 20), 3920, .inl fq)), ((a 21), .inr (1, [.ref (a 22), .int tt])), ((a 22), .inl ((k 22), 300, .inl fd))]) (va_runV (As := [.int z2]) (rest := []) ⟨hx, hb, hml, hown, hts⟩ (c_X0_switchSupply l dC dI g r0 (a 7) (a 8) (a 9) dv c0 fr (k 8) (k 9) fu fp z2 (va_A [(g, .inr (0, [.ref r0, .ref (a 7)])), (r0, .inl (c0, 98, .inl fr)), ((a 7), .inr (5, [.ref (a 8), .ref (a 9), .int dv])), ((a 8), .inl ((k 8), 8, .inl fu)), ((a 9), .inl ((k 9), 48, .inl fp))] H.size) o_31 r_32) (cwV 1 hts (q_gV m_860 m_861 m_862 m_33 m_863) rfl rfl rfl hdV_yX0_switchSupply_1 ⟨Nat.le_of_ble_eq_true rfl, Nat.le_of_ble_eq_true rfl⟩) (q_preWV hK hP hD (q := (RX0, TX0, 2)) (ci := 0) (q0 := 1) rfl rfl [1, 2, 3, 4, 5] (by decide) rfl rfl [0, 1, 2] rfl) rfl rfl hl.1 rfl (lv_room (Nat.le_of_ble_eq_true rfl)) dX9_attempt_120 ⟨Nat.le_of_ble_eq_true rfl, Nat.le_of_ble_eq_true rfl⟩) hK hP hD hS hA [1, 2, 3, 4, 5] [0, 6, 7, 8, 9] rfl rfl (by decide) (by decide) (fun _ H locs _ hP hD hK9 hS => ?_)
        have hP : va_P (dC, dI) vwCl [((a 0), .inr (9, [.ref (a 1), .ref (a 3), .ref (a 4), .ref (a 7), .ref (a 10), .ref (a 14), .ref (a 16), .ref (a 18), .ref (a 19), .ref (a 21), .ref (a 23), .ref (a 25), .ref (a 27), .ref (a 28), .int hi])), (g, .inr (0, [.ref r0, .ref (a 7)])), (r0, .inl (c0, 98, .inl (o_31))), ((a 7), .inr (5, [.ref (a 8), .ref (a 9), .int dv])), ((a 8), .inl ((k 8), 8, .inl fu)), ((a 9), .inl ((k 9), 48, .inl fp)), ((a 19), .inr (4, [.ref (a 20), .int nx, .int ph])), ((a 20), .inl ((k 20), 3920, .inl fq)), ((a 21), .inr (1, [.ref (a 22), .int tt])), ((a 22), .inl ((k 22), 300, .inl fd))] H := hP.sub [0, 5, 6, 7, 8, 9, 1, 2, 3, 4] rfl
        have hD : va_D A [((a 0), .inr (9, [.ref (a 1), .ref (a 3), .ref (a 4), .ref (a 7), .ref (a 10), .ref (a 14), .ref (a 16), .ref (a 18), .ref (a 19), .ref (a 21), .ref (a 23), .ref (a 25), .ref (a 27), .ref (a 28), .int hi])), (g, .inr (0, [.ref r0, .ref (a 7)])), (r0, .inl (c0, 98, .inl (o_31))), ((a 7), .inr (5, [.ref (a 8), .ref (a 9), .int dv])), ((a 8), .inl ((k 8), 8, .inl fu)), ((a 9), .inl ((k 9), 48, .inl fp)), ((a 19), .inr (4, [.ref (a 20), .int nx, .int ph])), ((a 20), .inl ((k 20), 3920, .inl fq)), ((a 21), .inr (1, [.ref (a 22), .int tt])), ((a 22), .inl ((k 22), 300, .inl fd))] := hD.sub [0, 5, 6, 7, 8, 9, 1, 2, 3, 4] (by decide) rfl
        refine lv_goto (tgt := 172) hx hb dX9_attempt_123 (by decide) ?_
        refine lv_iload_n hx hb dX9_attempt_172 rfl (lv_at hl 3 rfl) ?_
        refine lv_if_eq (tgt := 190) hx hb dX9_attempt_173 (by decide) (fun c_33 => ?_) (fun c_33 => ?_)
        · have hG := q_ifp c_33 hG
          refine lv_iconst (v := (-1)) hx hb dX9_attempt_190 (by decide) ?_
          obtain rfl := Option.some.inj hG
          have hP9 := hP.sub (ws' := [((a 0), .inr (9, [.ref (a 1), .ref (a 3), .ref (a 4), .ref (a 7), .ref (a 10), .ref (a 14), .ref (a 16), .ref (a 18), .ref (a 19), .ref (a 21), .ref (a 23), .ref (a 25), .ref (a 27), .ref (a 28), .int hi])), (g, .inr (0, [.ref r0, .ref (a 7)])), (r0, .inl (c0, 98, .inl (o_31))), ((a 7), .inr (5, [.ref (a 8), .ref (a 9), .int dv])), ((a 8), .inl ((k 8), 8, .inl fu)), ((a 9), .inl ((k 9), 48, .inl fp)), ((a 19), .inr (4, [.ref (a 20), .int nx, .int ph])), ((a 20), .inl ((k 20), 3920, .inl fq)), ((a 21), .inr (1, [.ref (a 22), .int tt])), ((a 22), .inl ((k 22), 300, .inl fd))]) [0, 1, 2, 3, 4, 5, 6, 7, 8, 9] rfl
          have hD9 := hD.sub (ws' := [((a 0), .inr (9, [.ref (a 1), .ref (a 3), .ref (a 4), .ref (a 7), .ref (a 10), .ref (a 14), .ref (a 16), .ref (a 18), .ref (a 19), .ref (a 21), .ref (a 23), .ref (a 25), .ref (a 27), .ref (a 28), .int hi])), (g, .inr (0, [.ref r0, .ref (a 7)])), (r0, .inl (c0, 98, .inl (o_31))), ((a 7), .inr (5, [.ref (a 8), .ref (a 9), .int dv])), ((a 8), .inl ((k 8), 8, .inl fu)), ((a 9), .inl ((k 9), 48, .inl fp)), ((a 19), .inr (4, [.ref (a 20), .int nx, .int ph])), ((a 20), .inl ((k 20), 3920, .inl fq)), ((a 21), .inr (1, [.ref (a 22), .int tt])), ((a 22), .inl ((k 22), 300, .inl fd))]) [0, 1, 2, 3, 4, 5, 6, 7, 8, 9] (by decide) rfl
          have hK9 := hK.sub (tys' := [(c0, .int), ((k 8), .int), ((k 9), .int), ((k 20), .int), ((k 22), .int)]) [0, 1, 2, 3, 4] rfl
          exact W.iret (v := (-1)) hx hb hr (fun t ht hW => ⟨⟨(-1), (), rfl, ⟨rfl, trivial⟩, by rw [ht]; exact hP9, va_K.moved hW.alike hK9, hD9⟩, hS.F ht⟩) hS.2.2 dX9_attempt_191
        · have hG := q_ifn c_33 hG
          refine lv_aload_n hx hb dX9_attempt_176 rfl (lv_at hl 1 rfl) ?_
          refine va_get (D := (dC, dI)) (ci := 9) (v := .ref (a 21)) (C := RX9) (T := TX9) (N := 15) hx hb hts iA_9 hown hK hP 0 rfl rfl 9 (by decide) (hts (.fieldLink RX9 73 "HubTree" "diary" "LHubTree$Diary;") (List.mem_cons_of_mem _ m_47)) (fun _ h9 => h9) rfl dX9_attempt_177 ?_
          refine lv_iload_n hx hb dX9_attempt_180 rfl (lv_at hl 4 rfl) ?_
          refine lv_iload hx hb dX9_attempt_181 (lv_at hl 5 rfl) ?_
          refine lv_aload_n hx hb dX9_attempt_183 rfl (lv_at hl 2 rfl) ?_
          obtain ⟨o_34, r_35, hG⟩ := q_bi hG
          refine q_goi (v := o_34) (va_runV (As := []) (rest := [.int z2, .int z1, .ref (a 21)]) ⟨hx, hb, hml, hown, hts⟩ (c_X0_running l dC dI g r0 (a 7) (a 8) (a 9) dv c0 (o_31) (k 8) (k 9) fu fp o_34 r_35) (cwV 0 hts (q_gV m_876 m_877 m_878 m_33 m_879) rfl rfl rfl hdV_yX0_running_0 ⟨Nat.le_of_ble_eq_true rfl, Nat.le_of_ble_eq_true rfl⟩) (q_preV hK hP (q := (RX0, TX0, 2)) (ci := 0) (q0 := 1) rfl rfl [1, 2, 3, 4, 5] rfl [0, 1, 2] rfl) rfl rfl hl.1 rfl (lv_room (Nat.le_of_ble_eq_true rfl)) dX9_attempt_184 ⟨Nat.le_of_ble_eq_true rfl, Nat.le_of_ble_eq_true rfl⟩) hP hS (fun H locs hP hS => ?_)
          obtain ⟨o_36, r_37, hG⟩ := q_bi hG
          refine q_gov2 (wr := [((a 0), .inr (9, [.ref (a 1), .ref (a 3), .ref (a 4), .ref (a 7), .ref (a 10), .ref (a 14), .ref (a 16), .ref (a 18), .ref (a 19), .ref (a 21), .ref (a 23), .ref (a 25), .ref (a 27), .ref (a 28), .int hi])), (g, .inr (0, [.ref r0, .ref (a 7)])), (r0, .inl (c0, 98, .inl (o_31))), ((a 7), .inr (5, [.ref (a 8), .ref (a 9), .int dv])), ((a 8), .inl ((k 8), 8, .inl fu)), ((a 9), .inl ((k 9), 48, .inl fp)), ((a 19), .inr (4, [.ref (a 20), .int nx, .int ph])), ((a 20), .inl ((k 20), 3920, .inl fq))]) (va_runV (As := [.int z1, .int z2, .int o_34]) (rest := []) ⟨hx, hb, hml, hown, hts⟩ (c_X1_write l dC dI (a 21) (a 22) (k 22) fd tt z1 z2 o_34 (va_A [((a 21), .inr (1, [.ref (a 22), .int tt])), ((a 22), .inl ((k 22), 300, .inl fd))] H.size) o_36 r_37) (cwV 3 hts (q_gV m_885 m_886 m_887 m_46 m_888) rfl rfl rfl hdV_yX1_write_3 ⟨Nat.le_of_ble_eq_true rfl, Nat.le_of_ble_eq_true rfl⟩) (q_preWV hK hP hD (q := (RX1, TX1, 2)) (ci := 1) (q0 := 8) rfl rfl [8, 9] (by decide) rfl rfl [4] rfl) rfl rfl hl.1 rfl (lv_room (Nat.le_of_ble_eq_true rfl)) dX9_attempt_187 ⟨Nat.le_of_ble_eq_true rfl, Nat.le_of_ble_eq_true rfl⟩) hK hP hD hS hA [8, 9] [0, 1, 2, 3, 4, 5, 6, 7] rfl rfl (by decide) (by decide) (fun _ H locs _ hP hD hK9 hS => ?_)
          have hP : va_P (dC, dI) vwCl [((a 0), .inr (9, [.ref (a 1), .ref (a 3), .ref (a 4), .ref (a 7), .ref (a 10), .ref (a 14), .ref (a 16), .ref (a 18), .ref (a 19), .ref (a 21), .ref (a 23), .ref (a 25), .ref (a 27), .ref (a 28), .int hi])), (g, .inr (0, [.ref r0, .ref (a 7)])), (r0, .inl (c0, 98, .inl (o_31))), ((a 7), .inr (5, [.ref (a 8), .ref (a 9), .int dv])), ((a 8), .inl ((k 8), 8, .inl fu)), ((a 9), .inl ((k 9), 48, .inl fp)), ((a 19), .inr (4, [.ref (a 20), .int nx, .int ph])), ((a 20), .inl ((k 20), 3920, .inl fq)), ((a 21), .inr (1, [.ref (a 22), .int (o_36.2)])), ((a 22), .inl ((k 22), 300, .inl (o_36.1)))] H := hP.sub [0, 1, 2, 3, 4, 5, 6, 7, 8, 9] rfl
          have hD : va_D A [((a 0), .inr (9, [.ref (a 1), .ref (a 3), .ref (a 4), .ref (a 7), .ref (a 10), .ref (a 14), .ref (a 16), .ref (a 18), .ref (a 19), .ref (a 21), .ref (a 23), .ref (a 25), .ref (a 27), .ref (a 28), .int hi])), (g, .inr (0, [.ref r0, .ref (a 7)])), (r0, .inl (c0, 98, .inl (o_31))), ((a 7), .inr (5, [.ref (a 8), .ref (a 9), .int dv])), ((a 8), .inl ((k 8), 8, .inl fu)), ((a 9), .inl ((k 9), 48, .inl fp)), ((a 19), .inr (4, [.ref (a 20), .int nx, .int ph])), ((a 20), .inl ((k 20), 3920, .inl fq)), ((a 21), .inr (1, [.ref (a 22), .int (o_36.2)])), ((a 22), .inl ((k 22), 300, .inl (o_36.1)))] := hD.sub [0, 1, 2, 3, 4, 5, 6, 7, 8, 9] (by decide) rfl
          refine lv_iconst (v := (-1)) hx hb dX9_attempt_190 (by decide) ?_
          obtain rfl := Option.some.inj hG
          have hP9 := hP.sub (ws' := [((a 0), .inr (9, [.ref (a 1), .ref (a 3), .ref (a 4), .ref (a 7), .ref (a 10), .ref (a 14), .ref (a 16), .ref (a 18), .ref (a 19), .ref (a 21), .ref (a 23), .ref (a 25), .ref (a 27), .ref (a 28), .int hi])), (g, .inr (0, [.ref r0, .ref (a 7)])), (r0, .inl (c0, 98, .inl (o_31))), ((a 7), .inr (5, [.ref (a 8), .ref (a 9), .int dv])), ((a 8), .inl ((k 8), 8, .inl fu)), ((a 9), .inl ((k 9), 48, .inl fp)), ((a 19), .inr (4, [.ref (a 20), .int nx, .int ph])), ((a 20), .inl ((k 20), 3920, .inl fq)), ((a 21), .inr (1, [.ref (a 22), .int (o_36.2)])), ((a 22), .inl ((k 22), 300, .inl (o_36.1)))]) [0, 1, 2, 3, 4, 5, 6, 7, 8, 9] rfl
          have hD9 := hD.sub (ws' := [((a 0), .inr (9, [.ref (a 1), .ref (a 3), .ref (a 4), .ref (a 7), .ref (a 10), .ref (a 14), .ref (a 16), .ref (a 18), .ref (a 19), .ref (a 21), .ref (a 23), .ref (a 25), .ref (a 27), .ref (a 28), .int hi])), (g, .inr (0, [.ref r0, .ref (a 7)])), (r0, .inl (c0, 98, .inl (o_31))), ((a 7), .inr (5, [.ref (a 8), .ref (a 9), .int dv])), ((a 8), .inl ((k 8), 8, .inl fu)), ((a 9), .inl ((k 9), 48, .inl fp)), ((a 19), .inr (4, [.ref (a 20), .int nx, .int ph])), ((a 20), .inl ((k 20), 3920, .inl fq)), ((a 21), .inr (1, [.ref (a 22), .int (o_36.2)])), ((a 22), .inl ((k 22), 300, .inl (o_36.1)))]) [0, 1, 2, 3, 4, 5, 6, 7, 8, 9] (by decide) rfl
          have hK9 := hK.sub (tys' := [(c0, .int), ((k 8), .int), ((k 9), .int), ((k 20), .int), ((k 22), .int)]) [0, 1, 2, 3, 4] rfl
          exact W.iret (v := (-1)) hx hb hr (fun t ht hW => ⟨⟨(-1), (), rfl, ⟨rfl, trivial⟩, by rw [ht]; exact hP9, va_K.moved hW.alike hK9, hD9⟩, hS.F ht⟩) hS.2.2 dX9_attempt_191
      have hG := q_ifn e_30 hG
      by_cases e_38 : z1 = 4
      · have hG := q_ifp e_38 hG
        refine lv_tableIn (off := 91) (tgt := 126) hx hb dX9_attempt_35 (by rw [e_38]; decide) (by rw [e_38]; decide) (by rw [e_38]; decide) (by decide) ?_
        refine lv_aload_n hx hb dX9_attempt_126 rfl (lv_at hl 2 rfl) ?_
        refine va_get (D := (dC, dI)) (ci := 0) (v := .ref r0) (C := RX0) (T := TX0) (N := 2) hx hb hts iA_0 hown hK hP 1 rfl rfl 0 (by decide) (hts (.fieldLink RX9 157 "HubTree$Bus" "row" "[I") (List.mem_cons_of_mem _ m_462)) (fun _ h9 => h9) rfl dX9_attempt_127 ?_
        refine lv_bipush (v := 80) hx hb dX9_attempt_130 (by decide) ?_
        refine lv_iload hx hb dX9_attempt_132 (lv_at hl 5 rfl) ?_
        refine lv_iadd hx hb dX9_attempt_134 ?_
        refine lv_iload hx hb dX9_attempt_135 (lv_at hl 6 rfl) ?_
        obtain ⟨h_39, hG⟩ := q_ix hG
        refine va_iast hx hb hK hP hD hS 2 0 rfl rfl (i := (80 + z2)) (x := z3) h_39 dX9_attempt_137 (fun H locs hP hD hS => ?_)
        have hP : va_P (dC, dI) vwCl [((a 0), .inr (9, [.ref (a 1), .ref (a 3), .ref (a 4), .ref (a 7), .ref (a 10), .ref (a 14), .ref (a 16), .ref (a 18), .ref (a 19), .ref (a 21), .ref (a 23), .ref (a 25), .ref (a 27), .ref (a 28), .int hi])), (g, .inr (0, [.ref r0, .ref (a 7)])), (r0, .inl (c0, 98, .inl (upd fr (80 + z2).toNatClampNeg z3))), ((a 7), .inr (5, [.ref (a 8), .ref (a 9), .int dv])), ((a 8), .inl ((k 8), 8, .inl fu)), ((a 9), .inl ((k 9), 48, .inl fp)), ((a 19), .inr (4, [.ref (a 20), .int nx, .int ph])), ((a 20), .inl ((k 20), 3920, .inl fq)), ((a 21), .inr (1, [.ref (a 22), .int tt])), ((a 22), .inl ((k 22), 300, .inl fd))] H := hP
        have hD : va_D A [((a 0), .inr (9, [.ref (a 1), .ref (a 3), .ref (a 4), .ref (a 7), .ref (a 10), .ref (a 14), .ref (a 16), .ref (a 18), .ref (a 19), .ref (a 21), .ref (a 23), .ref (a 25), .ref (a 27), .ref (a 28), .int hi])), (g, .inr (0, [.ref r0, .ref (a 7)])), (r0, .inl (c0, 98, .inl (upd fr (80 + z2).toNatClampNeg z3))), ((a 7), .inr (5, [.ref (a 8), .ref (a 9), .int dv])), ((a 8), .inl ((k 8), 8, .inl fu)), ((a 9), .inl ((k 9), 48, .inl fp)), ((a 19), .inr (4, [.ref (a 20), .int nx, .int ph])), ((a 20), .inl ((k 20), 3920, .inl fq)), ((a 21), .inr (1, [.ref (a 22), .int tt])), ((a 22), .inl ((k 22), 300, .inl fd))] := hD
        refine lv_goto (tgt := 172) hx hb dX9_attempt_138 (by decide) ?_
        refine lv_iload_n hx hb dX9_attempt_172 rfl (lv_at hl 3 rfl) ?_
        refine lv_if_eq (tgt := 190) hx hb dX9_attempt_173 (by decide) (fun c_40 => ?_) (fun c_40 => ?_)
        · have hG := q_ifp c_40 hG
          refine lv_iconst (v := (-1)) hx hb dX9_attempt_190 (by decide) ?_
          obtain rfl := Option.some.inj hG
          have hP9 := hP.sub (ws' := [((a 0), .inr (9, [.ref (a 1), .ref (a 3), .ref (a 4), .ref (a 7), .ref (a 10), .ref (a 14), .ref (a 16), .ref (a 18), .ref (a 19), .ref (a 21), .ref (a 23), .ref (a 25), .ref (a 27), .ref (a 28), .int hi])), (g, .inr (0, [.ref r0, .ref (a 7)])), (r0, .inl (c0, 98, .inl (upd fr (80 + z2).toNatClampNeg z3))), ((a 7), .inr (5, [.ref (a 8), .ref (a 9), .int dv])), ((a 8), .inl ((k 8), 8, .inl fu)), ((a 9), .inl ((k 9), 48, .inl fp)), ((a 19), .inr (4, [.ref (a 20), .int nx, .int ph])), ((a 20), .inl ((k 20), 3920, .inl fq)), ((a 21), .inr (1, [.ref (a 22), .int tt])), ((a 22), .inl ((k 22), 300, .inl fd))]) [0, 1, 2, 3, 4, 5, 6, 7, 8, 9] rfl
          have hD9 := hD.sub (ws' := [((a 0), .inr (9, [.ref (a 1), .ref (a 3), .ref (a 4), .ref (a 7), .ref (a 10), .ref (a 14), .ref (a 16), .ref (a 18), .ref (a 19), .ref (a 21), .ref (a 23), .ref (a 25), .ref (a 27), .ref (a 28), .int hi])), (g, .inr (0, [.ref r0, .ref (a 7)])), (r0, .inl (c0, 98, .inl (upd fr (80 + z2).toNatClampNeg z3))), ((a 7), .inr (5, [.ref (a 8), .ref (a 9), .int dv])), ((a 8), .inl ((k 8), 8, .inl fu)), ((a 9), .inl ((k 9), 48, .inl fp)), ((a 19), .inr (4, [.ref (a 20), .int nx, .int ph])), ((a 20), .inl ((k 20), 3920, .inl fq)), ((a 21), .inr (1, [.ref (a 22), .int tt])), ((a 22), .inl ((k 22), 300, .inl fd))]) [0, 1, 2, 3, 4, 5, 6, 7, 8, 9] (by decide) rfl
          have hK9 := hK.sub (tys' := [(c0, .int), ((k 8), .int), ((k 9), .int), ((k 20), .int), ((k 22), .int)]) [0, 1, 2, 3, 4] rfl
          exact W.iret (v := (-1)) hx hb hr (fun t ht hW => ⟨⟨(-1), (), rfl, ⟨rfl, trivial⟩, by rw [ht]; exact hP9, va_K.moved hW.alike hK9, hD9⟩, hS.F ht⟩) hS.2.2 dX9_attempt_191
        · have hG := q_ifn c_40 hG
          refine lv_aload_n hx hb dX9_attempt_176 rfl (lv_at hl 1 rfl) ?_
          refine va_get (D := (dC, dI)) (ci := 9) (v := .ref (a 21)) (C := RX9) (T := TX9) (N := 15) hx hb hts iA_9 hown hK hP 0 rfl rfl 9 (by decide) (hts (.fieldLink RX9 73 "HubTree" "diary" "LHubTree$Diary;") (List.mem_cons_of_mem _ m_47)) (fun _ h9 => h9) rfl dX9_attempt_177 ?_
          refine lv_iload_n hx hb dX9_attempt_180 rfl (lv_at hl 4 rfl) ?_
          refine lv_iload hx hb dX9_attempt_181 (lv_at hl 5 rfl) ?_
          refine lv_aload_n hx hb dX9_attempt_183 rfl (lv_at hl 2 rfl) ?_
          obtain ⟨o_41, r_42, hG⟩ := q_bi hG
          refine q_goi (v := o_41) (va_runV (As := []) (rest := [.int z2, .int z1, .ref (a 21)]) ⟨hx, hb, hml, hown, hts⟩ (c_X0_running l dC dI g r0 (a 7) (a 8) (a 9) dv c0 (upd fr (80 + z2).toNatClampNeg z3) (k 8) (k 9) fu fp o_41 r_42) (cwV 0 hts (q_gV m_876 m_877 m_878 m_33 m_879) rfl rfl rfl hdV_yX0_running_0 ⟨Nat.le_of_ble_eq_true rfl, Nat.le_of_ble_eq_true rfl⟩) (q_preV hK hP (q := (RX0, TX0, 2)) (ci := 0) (q0 := 1) rfl rfl [1, 2, 3, 4, 5] rfl [0, 1, 2] rfl) rfl rfl hl.1 rfl (lv_room (Nat.le_of_ble_eq_true rfl)) dX9_attempt_184 ⟨Nat.le_of_ble_eq_true rfl, Nat.le_of_ble_eq_true rfl⟩) hP hS (fun H locs hP hS => ?_)
          obtain ⟨o_43, r_44, hG⟩ := q_bi hG
          refine q_gov2 (wr := [((a 0), .inr (9, [.ref (a 1), .ref (a 3), .ref (a 4), .ref (a 7), .ref (a 10), .ref (a 14), .ref (a 16), .ref (a 18), .ref (a 19), .ref (a 21), .ref (a 23), .ref (a 25), .ref (a 27), .ref (a 28), .int hi])), (g, .inr (0, [.ref r0, .ref (a 7)])), (r0, .inl (c0, 98, .inl (upd fr (80 + z2).toNatClampNeg z3))), ((a 7), .inr (5, [.ref (a 8), .ref (a 9), .int dv])), ((a 8), .inl ((k 8), 8, .inl fu)), ((a 9), .inl ((k 9), 48, .inl fp)), ((a 19), .inr (4, [.ref (a 20), .int nx, .int ph])), ((a 20), .inl ((k 20), 3920, .inl fq))]) (va_runV (As := [.int z1, .int z2, .int o_41]) (rest := []) ⟨hx, hb, hml, hown, hts⟩ (c_X1_write l dC dI (a 21) (a 22) (k 22) fd tt z1 z2 o_41 (va_A [((a 21), .inr (1, [.ref (a 22), .int tt])), ((a 22), .inl ((k 22), 300, .inl fd))] H.size) o_43 r_44) (cwV 3 hts (q_gV m_885 m_886 m_887 m_46 m_888) rfl rfl rfl hdV_yX1_write_3 ⟨Nat.le_of_ble_eq_true rfl, Nat.le_of_ble_eq_true rfl⟩) (q_preWV hK hP hD (q := (RX1, TX1, 2)) (ci := 1) (q0 := 8) rfl rfl [8, 9] (by decide) rfl rfl [4] rfl) rfl rfl hl.1 rfl (lv_room (Nat.le_of_ble_eq_true rfl)) dX9_attempt_187 ⟨Nat.le_of_ble_eq_true rfl, Nat.le_of_ble_eq_true rfl⟩) hK hP hD hS hA [8, 9] [0, 1, 2, 3, 4, 5, 6, 7] rfl rfl (by decide) (by decide) (fun _ H locs _ hP hD hK9 hS => ?_)
          have hP : va_P (dC, dI) vwCl [((a 0), .inr (9, [.ref (a 1), .ref (a 3), .ref (a 4), .ref (a 7), .ref (a 10), .ref (a 14), .ref (a 16), .ref (a 18), .ref (a 19), .ref (a 21), .ref (a 23), .ref (a 25), .ref (a 27), .ref (a 28), .int hi])), (g, .inr (0, [.ref r0, .ref (a 7)])), (r0, .inl (c0, 98, .inl (upd fr (80 + z2).toNatClampNeg z3))), ((a 7), .inr (5, [.ref (a 8), .ref (a 9), .int dv])), ((a 8), .inl ((k 8), 8, .inl fu)), ((a 9), .inl ((k 9), 48, .inl fp)), ((a 19), .inr (4, [.ref (a 20), .int nx, .int ph])), ((a 20), .inl ((k 20), 3920, .inl fq)), ((a 21), .inr (1, [.ref (a 22), .int (o_43.2)])), ((a 22), .inl ((k 22), 300, .inl (o_43.1)))] H := hP.sub [0, 1, 2, 3, 4, 5, 6, 7, 8, 9] rfl
          have hD : va_D A [((a 0), .inr (9, [.ref (a 1), .ref (a 3), .ref (a 4), .ref (a 7), .ref (a 10), .ref (a 14), .ref (a 16), .ref (a 18), .ref (a 19), .ref (a 21), .ref (a 23), .ref (a 25), .ref (a 27), .ref (a 28), .int hi])), (g, .inr (0, [.ref r0, .ref (a 7)])), (r0, .inl (c0, 98, .inl (upd fr (80 + z2).toNatClampNeg z3))), ((a 7), .inr (5, [.ref (a 8), .ref (a 9), .int dv])), ((a 8), .inl ((k 8), 8, .inl fu)), ((a 9), .inl ((k 9), 48, .inl fp)), ((a 19), .inr (4, [.ref (a 20), .int nx, .int ph])), ((a 20), .inl ((k 20), 3920, .inl fq)), ((a 21), .inr (1, [.ref (a 22), .int (o_43.2)])), ((a 22), .inl ((k 22), 300, .inl (o_43.1)))] := hD.sub [0, 1, 2, 3, 4, 5, 6, 7, 8, 9] (by decide) rfl
          refine lv_iconst (v := (-1)) hx hb dX9_attempt_190 (by decide) ?_
          obtain rfl := Option.some.inj hG
          have hP9 := hP.sub (ws' := [((a 0), .inr (9, [.ref (a 1), .ref (a 3), .ref (a 4), .ref (a 7), .ref (a 10), .ref (a 14), .ref (a 16), .ref (a 18), .ref (a 19), .ref (a 21), .ref (a 23), .ref (a 25), .ref (a 27), .ref (a 28), .int hi])), (g, .inr (0, [.ref r0, .ref (a 7)])), (r0, .inl (c0, 98, .inl (upd fr (80 + z2).toNatClampNeg z3))), ((a 7), .inr (5, [.ref (a 8), .ref (a 9), .int dv])), ((a 8), .inl ((k 8), 8, .inl fu)), ((a 9), .inl ((k 9), 48, .inl fp)), ((a 19), .inr (4, [.ref (a 20), .int nx, .int ph])), ((a 20), .inl ((k 20), 3920, .inl fq)), ((a 21), .inr (1, [.ref (a 22), .int (o_43.2)])), ((a 22), .inl ((k 22), 300, .inl (o_43.1)))]) [0, 1, 2, 3, 4, 5, 6, 7, 8, 9] rfl
          have hD9 := hD.sub (ws' := [((a 0), .inr (9, [.ref (a 1), .ref (a 3), .ref (a 4), .ref (a 7), .ref (a 10), .ref (a 14), .ref (a 16), .ref (a 18), .ref (a 19), .ref (a 21), .ref (a 23), .ref (a 25), .ref (a 27), .ref (a 28), .int hi])), (g, .inr (0, [.ref r0, .ref (a 7)])), (r0, .inl (c0, 98, .inl (upd fr (80 + z2).toNatClampNeg z3))), ((a 7), .inr (5, [.ref (a 8), .ref (a 9), .int dv])), ((a 8), .inl ((k 8), 8, .inl fu)), ((a 9), .inl ((k 9), 48, .inl fp)), ((a 19), .inr (4, [.ref (a 20), .int nx, .int ph])), ((a 20), .inl ((k 20), 3920, .inl fq)), ((a 21), .inr (1, [.ref (a 22), .int (o_43.2)])), ((a 22), .inl ((k 22), 300, .inl (o_43.1)))]) [0, 1, 2, 3, 4, 5, 6, 7, 8, 9] (by decide) rfl
          have hK9 := hK.sub (tys' := [(c0, .int), ((k 8), .int), ((k 9), .int), ((k 20), .int), ((k 22), .int)]) [0, 1, 2, 3, 4] rfl
          exact W.iret (v := (-1)) hx hb hr (fun t ht hW => ⟨⟨(-1), (), rfl, ⟨rfl, trivial⟩, by rw [ht]; exact hP9, va_K.moved hW.alike hK9, hD9⟩, hS.F ht⟩) hS.2.2 dX9_attempt_191
      have hG := q_ifn e_38 hG
      by_cases e_45 : z1 = 5
      · have hG := q_ifp e_45 hG
        refine lv_tableIn (off := 106) (tgt := 141) hx hb dX9_attempt_35 (by rw [e_45]; decide) (by rw [e_45]; decide) (by rw [e_45]; decide) (by decide) ?_
        refine lv_aload_n hx hb dX9_attempt_141 rfl (lv_at hl 2 rfl) ?_
        refine lv_iload hx hb dX9_attempt_142 (lv_at hl 5 rfl) ?_
        obtain ⟨o_46, r_47, hG⟩ := q_bi hG
        refine q_gov2 (wr := [((a 0), .inr (9, [.ref (a 1), .ref (a 3), .ref (a 4), .ref (a 7), .ref (a 10), .ref (a 14), .ref (a 16), .ref (a 18), .ref (a 19), .ref (a 21), .ref (a 23), .ref (a 25), .ref (a 27), .ref (a 28), .int hi])), ((a 19), .inr (4, [.ref (a 20), .int nx, .int ph])), ((a 20), .inl ((k 20), 3920, .inl fq)), ((a 21), .inr (1, [.ref (a 22), .int tt])), ((a 22), .inl ((k 22), 300, .inl fd))]) (va_runV (As := [.int z2]) (rest := []) ⟨hx, hb, hml, hown, hts⟩ (c_X0_queueAfresh l dC dI g r0 (a 7) (a 8) (a 9) dv c0 fr (k 8) (k 9) fu fp z2 (va_A [(g, .inr (0, [.ref r0, .ref (a 7)])), (r0, .inl (c0, 98, .inl fr)), ((a 7), .inr (5, [.ref (a 8), .ref (a 9), .int dv])), ((a 8), .inl ((k 8), 8, .inl fu)), ((a 9), .inl ((k 9), 48, .inl fp))] H.size) o_46 r_47) (cwV 1 hts (q_gV m_872 m_873 m_874 m_33 m_875) rfl rfl rfl hdV_yX0_queueAfresh_1 ⟨Nat.le_of_ble_eq_true rfl, Nat.le_of_ble_eq_true rfl⟩) (q_preWV hK hP hD (q := (RX0, TX0, 2)) (ci := 0) (q0 := 1) rfl rfl [1, 2, 3, 4, 5] (by decide) rfl rfl [0, 1, 2] rfl) rfl rfl hl.1 rfl (lv_room (Nat.le_of_ble_eq_true rfl)) dX9_attempt_144 ⟨Nat.le_of_ble_eq_true rfl, Nat.le_of_ble_eq_true rfl⟩) hK hP hD hS hA [1, 2, 3, 4, 5] [0, 6, 7, 8, 9] rfl rfl (by decide) (by decide) (fun _ H locs _ hP hD hK9 hS => ?_)
        have hP : va_P (dC, dI) vwCl [((a 0), .inr (9, [.ref (a 1), .ref (a 3), .ref (a 4), .ref (a 7), .ref (a 10), .ref (a 14), .ref (a 16), .ref (a 18), .ref (a 19), .ref (a 21), .ref (a 23), .ref (a 25), .ref (a 27), .ref (a 28), .int hi])), (g, .inr (0, [.ref r0, .ref (a 7)])), (r0, .inl (c0, 98, .inl (o_46))), ((a 7), .inr (5, [.ref (a 8), .ref (a 9), .int dv])), ((a 8), .inl ((k 8), 8, .inl fu)), ((a 9), .inl ((k 9), 48, .inl fp)), ((a 19), .inr (4, [.ref (a 20), .int nx, .int ph])), ((a 20), .inl ((k 20), 3920, .inl fq)), ((a 21), .inr (1, [.ref (a 22), .int tt])), ((a 22), .inl ((k 22), 300, .inl fd))] H := hP.sub [0, 5, 6, 7, 8, 9, 1, 2, 3, 4] rfl
        have hD : va_D A [((a 0), .inr (9, [.ref (a 1), .ref (a 3), .ref (a 4), .ref (a 7), .ref (a 10), .ref (a 14), .ref (a 16), .ref (a 18), .ref (a 19), .ref (a 21), .ref (a 23), .ref (a 25), .ref (a 27), .ref (a 28), .int hi])), (g, .inr (0, [.ref r0, .ref (a 7)])), (r0, .inl (c0, 98, .inl (o_46))), ((a 7), .inr (5, [.ref (a 8), .ref (a 9), .int dv])), ((a 8), .inl ((k 8), 8, .inl fu)), ((a 9), .inl ((k 9), 48, .inl fp)), ((a 19), .inr (4, [.ref (a 20), .int nx, .int ph])), ((a 20), .inl ((k 20), 3920, .inl fq)), ((a 21), .inr (1, [.ref (a 22), .int tt])), ((a 22), .inl ((k 22), 300, .inl fd))] := hD.sub [0, 5, 6, 7, 8, 9, 1, 2, 3, 4] (by decide) rfl
        refine lv_goto (tgt := 172) hx hb dX9_attempt_147 (by decide) ?_
        refine lv_iload_n hx hb dX9_attempt_172 rfl (lv_at hl 3 rfl) ?_
        refine lv_if_eq (tgt := 190) hx hb dX9_attempt_173 (by decide) (fun c_48 => ?_) (fun c_48 => ?_)
        · have hG := q_ifp c_48 hG
          refine lv_iconst (v := (-1)) hx hb dX9_attempt_190 (by decide) ?_
          obtain rfl := Option.some.inj hG
          have hP9 := hP.sub (ws' := [((a 0), .inr (9, [.ref (a 1), .ref (a 3), .ref (a 4), .ref (a 7), .ref (a 10), .ref (a 14), .ref (a 16), .ref (a 18), .ref (a 19), .ref (a 21), .ref (a 23), .ref (a 25), .ref (a 27), .ref (a 28), .int hi])), (g, .inr (0, [.ref r0, .ref (a 7)])), (r0, .inl (c0, 98, .inl (o_46))), ((a 7), .inr (5, [.ref (a 8), .ref (a 9), .int dv])), ((a 8), .inl ((k 8), 8, .inl fu)), ((a 9), .inl ((k 9), 48, .inl fp)), ((a 19), .inr (4, [.ref (a 20), .int nx, .int ph])), ((a 20), .inl ((k 20), 3920, .inl fq)), ((a 21), .inr (1, [.ref (a 22), .int tt])), ((a 22), .inl ((k 22), 300, .inl fd))]) [0, 1, 2, 3, 4, 5, 6, 7, 8, 9] rfl
          have hD9 := hD.sub (ws' := [((a 0), .inr (9, [.ref (a 1), .ref (a 3), .ref (a 4), .ref (a 7), .ref (a 10), .ref (a 14), .ref (a 16), .ref (a 18), .ref (a 19), .ref (a 21), .ref (a 23), .ref (a 25), .ref (a 27), .ref (a 28), .int hi])), (g, .inr (0, [.ref r0, .ref (a 7)])), (r0, .inl (c0, 98, .inl (o_46))), ((a 7), .inr (5, [.ref (a 8), .ref (a 9), .int dv])), ((a 8), .inl ((k 8), 8, .inl fu)), ((a 9), .inl ((k 9), 48, .inl fp)), ((a 19), .inr (4, [.ref (a 20), .int nx, .int ph])), ((a 20), .inl ((k 20), 3920, .inl fq)), ((a 21), .inr (1, [.ref (a 22), .int tt])), ((a 22), .inl ((k 22), 300, .inl fd))]) [0, 1, 2, 3, 4, 5, 6, 7, 8, 9] (by decide) rfl
          have hK9 := hK.sub (tys' := [(c0, .int), ((k 8), .int), ((k 9), .int), ((k 20), .int), ((k 22), .int)]) [0, 1, 2, 3, 4] rfl
          exact W.iret (v := (-1)) hx hb hr (fun t ht hW => ⟨⟨(-1), (), rfl, ⟨rfl, trivial⟩, by rw [ht]; exact hP9, va_K.moved hW.alike hK9, hD9⟩, hS.F ht⟩) hS.2.2 dX9_attempt_191
        · have hG := q_ifn c_48 hG
          refine lv_aload_n hx hb dX9_attempt_176 rfl (lv_at hl 1 rfl) ?_
          refine va_get (D := (dC, dI)) (ci := 9) (v := .ref (a 21)) (C := RX9) (T := TX9) (N := 15) hx hb hts iA_9 hown hK hP 0 rfl rfl 9 (by decide) (hts (.fieldLink RX9 73 "HubTree" "diary" "LHubTree$Diary;") (List.mem_cons_of_mem _ m_47)) (fun _ h9 => h9) rfl dX9_attempt_177 ?_
          refine lv_iload_n hx hb dX9_attempt_180 rfl (lv_at hl 4 rfl) ?_
          refine lv_iload hx hb dX9_attempt_181 (lv_at hl 5 rfl) ?_
          refine lv_aload_n hx hb dX9_attempt_183 rfl (lv_at hl 2 rfl) ?_
          obtain ⟨o_49, r_50, hG⟩ := q_bi hG
          refine q_goi (v := o_49) (va_runV (As := []) (rest := [.int z2, .int z1, .ref (a 21)]) ⟨hx, hb, hml, hown, hts⟩ (c_X0_running l dC dI g r0 (a 7) (a 8) (a 9) dv c0 (o_46) (k 8) (k 9) fu fp o_49 r_50) (cwV 0 hts (q_gV m_876 m_877 m_878 m_33 m_879) rfl rfl rfl hdV_yX0_running_0 ⟨Nat.le_of_ble_eq_true rfl, Nat.le_of_ble_eq_true rfl⟩) (q_preV hK hP (q := (RX0, TX0, 2)) (ci := 0) (q0 := 1) rfl rfl [1, 2, 3, 4, 5] rfl [0, 1, 2] rfl) rfl rfl hl.1 rfl (lv_room (Nat.le_of_ble_eq_true rfl)) dX9_attempt_184 ⟨Nat.le_of_ble_eq_true rfl, Nat.le_of_ble_eq_true rfl⟩) hP hS (fun H locs hP hS => ?_)
          obtain ⟨o_51, r_52, hG⟩ := q_bi hG
          refine q_gov2 (wr := [((a 0), .inr (9, [.ref (a 1), .ref (a 3), .ref (a 4), .ref (a 7), .ref (a 10), .ref (a 14), .ref (a 16), .ref (a 18), .ref (a 19), .ref (a 21), .ref (a 23), .ref (a 25), .ref (a 27), .ref (a 28), .int hi])), (g, .inr (0, [.ref r0, .ref (a 7)])), (r0, .inl (c0, 98, .inl (o_46))), ((a 7), .inr (5, [.ref (a 8), .ref (a 9), .int dv])), ((a 8), .inl ((k 8), 8, .inl fu)), ((a 9), .inl ((k 9), 48, .inl fp)), ((a 19), .inr (4, [.ref (a 20), .int nx, .int ph])), ((a 20), .inl ((k 20), 3920, .inl fq))]) (va_runV (As := [.int z1, .int z2, .int o_49]) (rest := []) ⟨hx, hb, hml, hown, hts⟩ (c_X1_write l dC dI (a 21) (a 22) (k 22) fd tt z1 z2 o_49 (va_A [((a 21), .inr (1, [.ref (a 22), .int tt])), ((a 22), .inl ((k 22), 300, .inl fd))] H.size) o_51 r_52) (cwV 3 hts (q_gV m_885 m_886 m_887 m_46 m_888) rfl rfl rfl hdV_yX1_write_3 ⟨Nat.le_of_ble_eq_true rfl, Nat.le_of_ble_eq_true rfl⟩) (q_preWV hK hP hD (q := (RX1, TX1, 2)) (ci := 1) (q0 := 8) rfl rfl [8, 9] (by decide) rfl rfl [4] rfl) rfl rfl hl.1 rfl (lv_room (Nat.le_of_ble_eq_true rfl)) dX9_attempt_187 ⟨Nat.le_of_ble_eq_true rfl, Nat.le_of_ble_eq_true rfl⟩) hK hP hD hS hA [8, 9] [0, 1, 2, 3, 4, 5, 6, 7] rfl rfl (by decide) (by decide) (fun _ H locs _ hP hD hK9 hS => ?_)
          have hP : va_P (dC, dI) vwCl [((a 0), .inr (9, [.ref (a 1), .ref (a 3), .ref (a 4), .ref (a 7), .ref (a 10), .ref (a 14), .ref (a 16), .ref (a 18), .ref (a 19), .ref (a 21), .ref (a 23), .ref (a 25), .ref (a 27), .ref (a 28), .int hi])), (g, .inr (0, [.ref r0, .ref (a 7)])), (r0, .inl (c0, 98, .inl (o_46))), ((a 7), .inr (5, [.ref (a 8), .ref (a 9), .int dv])), ((a 8), .inl ((k 8), 8, .inl fu)), ((a 9), .inl ((k 9), 48, .inl fp)), ((a 19), .inr (4, [.ref (a 20), .int nx, .int ph])), ((a 20), .inl ((k 20), 3920, .inl fq)), ((a 21), .inr (1, [.ref (a 22), .int (o_51.2)])), ((a 22), .inl ((k 22), 300, .inl (o_51.1)))] H := hP.sub [0, 1, 2, 3, 4, 5, 6, 7, 8, 9] rfl
          have hD : va_D A [((a 0), .inr (9, [.ref (a 1), .ref (a 3), .ref (a 4), .ref (a 7), .ref (a 10), .ref (a 14), .ref (a 16), .ref (a 18), .ref (a 19), .ref (a 21), .ref (a 23), .ref (a 25), .ref (a 27), .ref (a 28), .int hi])), (g, .inr (0, [.ref r0, .ref (a 7)])), (r0, .inl (c0, 98, .inl (o_46))), ((a 7), .inr (5, [.ref (a 8), .ref (a 9), .int dv])), ((a 8), .inl ((k 8), 8, .inl fu)), ((a 9), .inl ((k 9), 48, .inl fp)), ((a 19), .inr (4, [.ref (a 20), .int nx, .int ph])), ((a 20), .inl ((k 20), 3920, .inl fq)), ((a 21), .inr (1, [.ref (a 22), .int (o_51.2)])), ((a 22), .inl ((k 22), 300, .inl (o_51.1)))] := hD.sub [0, 1, 2, 3, 4, 5, 6, 7, 8, 9] (by decide) rfl
          refine lv_iconst (v := (-1)) hx hb dX9_attempt_190 (by decide) ?_
          obtain rfl := Option.some.inj hG
          have hP9 := hP.sub (ws' := [((a 0), .inr (9, [.ref (a 1), .ref (a 3), .ref (a 4), .ref (a 7), .ref (a 10), .ref (a 14), .ref (a 16), .ref (a 18), .ref (a 19), .ref (a 21), .ref (a 23), .ref (a 25), .ref (a 27), .ref (a 28), .int hi])), (g, .inr (0, [.ref r0, .ref (a 7)])), (r0, .inl (c0, 98, .inl (o_46))), ((a 7), .inr (5, [.ref (a 8), .ref (a 9), .int dv])), ((a 8), .inl ((k 8), 8, .inl fu)), ((a 9), .inl ((k 9), 48, .inl fp)), ((a 19), .inr (4, [.ref (a 20), .int nx, .int ph])), ((a 20), .inl ((k 20), 3920, .inl fq)), ((a 21), .inr (1, [.ref (a 22), .int (o_51.2)])), ((a 22), .inl ((k 22), 300, .inl (o_51.1)))]) [0, 1, 2, 3, 4, 5, 6, 7, 8, 9] rfl
          have hD9 := hD.sub (ws' := [((a 0), .inr (9, [.ref (a 1), .ref (a 3), .ref (a 4), .ref (a 7), .ref (a 10), .ref (a 14), .ref (a 16), .ref (a 18), .ref (a 19), .ref (a 21), .ref (a 23), .ref (a 25), .ref (a 27), .ref (a 28), .int hi])), (g, .inr (0, [.ref r0, .ref (a 7)])), (r0, .inl (c0, 98, .inl (o_46))), ((a 7), .inr (5, [.ref (a 8), .ref (a 9), .int dv])), ((a 8), .inl ((k 8), 8, .inl fu)), ((a 9), .inl ((k 9), 48, .inl fp)), ((a 19), .inr (4, [.ref (a 20), .int nx, .int ph])), ((a 20), .inl ((k 20), 3920, .inl fq)), ((a 21), .inr (1, [.ref (a 22), .int (o_51.2)])), ((a 22), .inl ((k 22), 300, .inl (o_51.1)))]) [0, 1, 2, 3, 4, 5, 6, 7, 8, 9] (by decide) rfl
          have hK9 := hK.sub (tys' := [(c0, .int), ((k 8), .int), ((k 9), .int), ((k 20), .int), ((k 22), .int)]) [0, 1, 2, 3, 4] rfl
          exact W.iret (v := (-1)) hx hb hr (fun t ht hW => ⟨⟨(-1), (), rfl, ⟨rfl, trivial⟩, by rw [ht]; exact hP9, va_K.moved hW.alike hK9, hD9⟩, hS.F ht⟩) hS.2.2 dX9_attempt_191
      have hG := q_ifn e_45 hG
      have hsw : (z1).toInt < 0 ∨ 5 < (z1).toInt := by
        have := lv_neT (a := 0) e_5 (by decide)
        have := lv_neT (a := 1) e_13 (by decide)
        have := lv_neT (a := 2) e_21 (by decide)
        have := lv_neT (a := 3) e_30 (by decide)
        have := lv_neT (a := 4) e_38 (by decide)
        have := lv_neT (a := 5) e_45 (by decide)
        omega
      refine lv_tableOut (tgt := 150) hx hb dX9_attempt_35 hsw (by decide) ?_
      refine lv_aload_n hx hb dX9_attempt_150 rfl (lv_at hl 2 rfl) ?_
      refine va_get (D := (dC, dI)) (ci := 0) (v := .ref r0) (C := RX0) (T := TX0) (N := 2) hx hb hts iA_0 hown hK hP 1 rfl rfl 0 (by decide) (hts (.fieldLink RX9 157 "HubTree$Bus" "row" "[I") (List.mem_cons_of_mem _ m_462)) (fun _ h9 => h9) rfl dX9_attempt_151 ?_
      refine lv_bipush (v := 88) hx hb dX9_attempt_154 (by decide) ?_
      refine lv_iload hx hb dX9_attempt_156 (lv_at hl 5 rfl) ?_
      refine lv_iadd hx hb dX9_attempt_158 ?_
      refine lv_iconst (v := 1) hx hb dX9_attempt_159 (by decide) ?_
      refine lv_aload_n hx hb dX9_attempt_160 rfl (lv_at hl 2 rfl) ?_
      refine va_get (D := (dC, dI)) (ci := 0) (v := .ref r0) (C := RX0) (T := TX0) (N := 2) hx hb hts iA_0 hown hK hP 1 rfl rfl 0 (by decide) (hts (.fieldLink RX9 157 "HubTree$Bus" "row" "[I") (List.mem_cons_of_mem _ m_462)) (fun _ h9 => h9) rfl dX9_attempt_161 ?_
      refine lv_bipush (v := 88) hx hb dX9_attempt_164 (by decide) ?_
      refine lv_iload hx hb dX9_attempt_166 (lv_at hl 5 rfl) ?_
      refine lv_iadd hx hb dX9_attempt_168 ?_
      obtain ⟨h_53, hG⟩ := q_ix hG
      refine va_iald hx hb hK hP 2 0 rfl rfl (i := (88 + z2)) h_53 dX9_attempt_169 ?_
      refine q_top (y := (fr (88 + z2).toNatClampNeg)) rfl ?_
      refine lv_isub hx hb dX9_attempt_170 ?_
      obtain ⟨h_54, hG⟩ := q_ix hG
      refine va_iast hx hb hK hP hD hS 2 0 rfl rfl (i := (88 + z2)) (x := (1 - (fr (88 + z2).toNatClampNeg))) h_54 dX9_attempt_171 (fun H locs hP hD hS => ?_)
      have hP : va_P (dC, dI) vwCl [((a 0), .inr (9, [.ref (a 1), .ref (a 3), .ref (a 4), .ref (a 7), .ref (a 10), .ref (a 14), .ref (a 16), .ref (a 18), .ref (a 19), .ref (a 21), .ref (a 23), .ref (a 25), .ref (a 27), .ref (a 28), .int hi])), (g, .inr (0, [.ref r0, .ref (a 7)])), (r0, .inl (c0, 98, .inl (upd fr (88 + z2).toNatClampNeg (1 - (fr (88 + z2).toNatClampNeg))))), ((a 7), .inr (5, [.ref (a 8), .ref (a 9), .int dv])), ((a 8), .inl ((k 8), 8, .inl fu)), ((a 9), .inl ((k 9), 48, .inl fp)), ((a 19), .inr (4, [.ref (a 20), .int nx, .int ph])), ((a 20), .inl ((k 20), 3920, .inl fq)), ((a 21), .inr (1, [.ref (a 22), .int tt])), ((a 22), .inl ((k 22), 300, .inl fd))] H := hP
      have hD : va_D A [((a 0), .inr (9, [.ref (a 1), .ref (a 3), .ref (a 4), .ref (a 7), .ref (a 10), .ref (a 14), .ref (a 16), .ref (a 18), .ref (a 19), .ref (a 21), .ref (a 23), .ref (a 25), .ref (a 27), .ref (a 28), .int hi])), (g, .inr (0, [.ref r0, .ref (a 7)])), (r0, .inl (c0, 98, .inl (upd fr (88 + z2).toNatClampNeg (1 - (fr (88 + z2).toNatClampNeg))))), ((a 7), .inr (5, [.ref (a 8), .ref (a 9), .int dv])), ((a 8), .inl ((k 8), 8, .inl fu)), ((a 9), .inl ((k 9), 48, .inl fp)), ((a 19), .inr (4, [.ref (a 20), .int nx, .int ph])), ((a 20), .inl ((k 20), 3920, .inl fq)), ((a 21), .inr (1, [.ref (a 22), .int tt])), ((a 22), .inl ((k 22), 300, .inl fd))] := hD
      refine lv_iload_n hx hb dX9_attempt_172 rfl (lv_at hl 3 rfl) ?_
      refine lv_if_eq (tgt := 190) hx hb dX9_attempt_173 (by decide) (fun c_55 => ?_) (fun c_55 => ?_)
      · have hG := q_ifp c_55 hG
        refine lv_iconst (v := (-1)) hx hb dX9_attempt_190 (by decide) ?_
        obtain rfl := Option.some.inj hG
        have hP9 := hP.sub (ws' := [((a 0), .inr (9, [.ref (a 1), .ref (a 3), .ref (a 4), .ref (a 7), .ref (a 10), .ref (a 14), .ref (a 16), .ref (a 18), .ref (a 19), .ref (a 21), .ref (a 23), .ref (a 25), .ref (a 27), .ref (a 28), .int hi])), (g, .inr (0, [.ref r0, .ref (a 7)])), (r0, .inl (c0, 98, .inl (upd fr (88 + z2).toNatClampNeg (1 - (fr (88 + z2).toNatClampNeg))))), ((a 7), .inr (5, [.ref (a 8), .ref (a 9), .int dv])), ((a 8), .inl ((k 8), 8, .inl fu)), ((a 9), .inl ((k 9), 48, .inl fp)), ((a 19), .inr (4, [.ref (a 20), .int nx, .int ph])), ((a 20), .inl ((k 20), 3920, .inl fq)), ((a 21), .inr (1, [.ref (a 22), .int tt])), ((a 22), .inl ((k 22), 300, .inl fd))]) [0, 1, 2, 3, 4, 5, 6, 7, 8, 9] rfl
        have hD9 := hD.sub (ws' := [((a 0), .inr (9, [.ref (a 1), .ref (a 3), .ref (a 4), .ref (a 7), .ref (a 10), .ref (a 14), .ref (a 16), .ref (a 18), .ref (a 19), .ref (a 21), .ref (a 23), .ref (a 25), .ref (a 27), .ref (a 28), .int hi])), (g, .inr (0, [.ref r0, .ref (a 7)])), (r0, .inl (c0, 98, .inl (upd fr (88 + z2).toNatClampNeg (1 - (fr (88 + z2).toNatClampNeg))))), ((a 7), .inr (5, [.ref (a 8), .ref (a 9), .int dv])), ((a 8), .inl ((k 8), 8, .inl fu)), ((a 9), .inl ((k 9), 48, .inl fp)), ((a 19), .inr (4, [.ref (a 20), .int nx, .int ph])), ((a 20), .inl ((k 20), 3920, .inl fq)), ((a 21), .inr (1, [.ref (a 22), .int tt])), ((a 22), .inl ((k 22), 300, .inl fd))]) [0, 1, 2, 3, 4, 5, 6, 7, 8, 9] (by decide) rfl
        have hK9 := hK.sub (tys' := [(c0, .int), ((k 8), .int), ((k 9), .int), ((k 20), .int), ((k 22), .int)]) [0, 1, 2, 3, 4] rfl
        exact W.iret (v := (-1)) hx hb hr (fun t ht hW => ⟨⟨(-1), (), rfl, ⟨rfl, trivial⟩, by rw [ht]; exact hP9, va_K.moved hW.alike hK9, hD9⟩, hS.F ht⟩) hS.2.2 dX9_attempt_191
      · have hG := q_ifn c_55 hG
        refine lv_aload_n hx hb dX9_attempt_176 rfl (lv_at hl 1 rfl) ?_
        refine va_get (D := (dC, dI)) (ci := 9) (v := .ref (a 21)) (C := RX9) (T := TX9) (N := 15) hx hb hts iA_9 hown hK hP 0 rfl rfl 9 (by decide) (hts (.fieldLink RX9 73 "HubTree" "diary" "LHubTree$Diary;") (List.mem_cons_of_mem _ m_47)) (fun _ h9 => h9) rfl dX9_attempt_177 ?_
        refine lv_iload_n hx hb dX9_attempt_180 rfl (lv_at hl 4 rfl) ?_
        refine lv_iload hx hb dX9_attempt_181 (lv_at hl 5 rfl) ?_
        refine lv_aload_n hx hb dX9_attempt_183 rfl (lv_at hl 2 rfl) ?_
        obtain ⟨o_56, r_57, hG⟩ := q_bi hG
        refine q_goi (v := o_56) (va_runV (As := []) (rest := [.int z2, .int z1, .ref (a 21)]) ⟨hx, hb, hml, hown, hts⟩ (c_X0_running l dC dI g r0 (a 7) (a 8) (a 9) dv c0 (upd fr (88 + z2).toNatClampNeg (1 - (fr (88 + z2).toNatClampNeg))) (k 8) (k 9) fu fp o_56 r_57) (cwV 0 hts (q_gV m_876 m_877 m_878 m_33 m_879) rfl rfl rfl hdV_yX0_running_0 ⟨Nat.le_of_ble_eq_true rfl, Nat.le_of_ble_eq_true rfl⟩) (q_preV hK hP (q := (RX0, TX0, 2)) (ci := 0) (q0 := 1) rfl rfl [1, 2, 3, 4, 5] rfl [0, 1, 2] rfl) rfl rfl hl.1 rfl (lv_room (Nat.le_of_ble_eq_true rfl)) dX9_attempt_184 ⟨Nat.le_of_ble_eq_true rfl, Nat.le_of_ble_eq_true rfl⟩) hP hS (fun H locs hP hS => ?_)
        obtain ⟨o_58, r_59, hG⟩ := q_bi hG
        refine q_gov2 (wr := [((a 0), .inr (9, [.ref (a 1), .ref (a 3), .ref (a 4), .ref (a 7), .ref (a 10), .ref (a 14), .ref (a 16), .ref (a 18), .ref (a 19), .ref (a 21), .ref (a 23), .ref (a 25), .ref (a 27), .ref (a 28), .int hi])), (g, .inr (0, [.ref r0, .ref (a 7)])), (r0, .inl (c0, 98, .inl (upd fr (88 + z2).toNatClampNeg (1 - (fr (88 + z2).toNatClampNeg))))), ((a 7), .inr (5, [.ref (a 8), .ref (a 9), .int dv])), ((a 8), .inl ((k 8), 8, .inl fu)), ((a 9), .inl ((k 9), 48, .inl fp)), ((a 19), .inr (4, [.ref (a 20), .int nx, .int ph])), ((a 20), .inl ((k 20), 3920, .inl fq))]) (va_runV (As := [.int z1, .int z2, .int o_56]) (rest := []) ⟨hx, hb, hml, hown, hts⟩ (c_X1_write l dC dI (a 21) (a 22) (k 22) fd tt z1 z2 o_56 (va_A [((a 21), .inr (1, [.ref (a 22), .int tt])), ((a 22), .inl ((k 22), 300, .inl fd))] H.size) o_58 r_59) (cwV 3 hts (q_gV m_885 m_886 m_887 m_46 m_888) rfl rfl rfl hdV_yX1_write_3 ⟨Nat.le_of_ble_eq_true rfl, Nat.le_of_ble_eq_true rfl⟩) (q_preWV hK hP hD (q := (RX1, TX1, 2)) (ci := 1) (q0 := 8) rfl rfl [8, 9] (by decide) rfl rfl [4] rfl) rfl rfl hl.1 rfl (lv_room (Nat.le_of_ble_eq_true rfl)) dX9_attempt_187 ⟨Nat.le_of_ble_eq_true rfl, Nat.le_of_ble_eq_true rfl⟩) hK hP hD hS hA [8, 9] [0, 1, 2, 3, 4, 5, 6, 7] rfl rfl (by decide) (by decide) (fun _ H locs _ hP hD hK9 hS => ?_)
        have hP : va_P (dC, dI) vwCl [((a 0), .inr (9, [.ref (a 1), .ref (a 3), .ref (a 4), .ref (a 7), .ref (a 10), .ref (a 14), .ref (a 16), .ref (a 18), .ref (a 19), .ref (a 21), .ref (a 23), .ref (a 25), .ref (a 27), .ref (a 28), .int hi])), (g, .inr (0, [.ref r0, .ref (a 7)])), (r0, .inl (c0, 98, .inl (upd fr (88 + z2).toNatClampNeg (1 - (fr (88 + z2).toNatClampNeg))))), ((a 7), .inr (5, [.ref (a 8), .ref (a 9), .int dv])), ((a 8), .inl ((k 8), 8, .inl fu)), ((a 9), .inl ((k 9), 48, .inl fp)), ((a 19), .inr (4, [.ref (a 20), .int nx, .int ph])), ((a 20), .inl ((k 20), 3920, .inl fq)), ((a 21), .inr (1, [.ref (a 22), .int (o_58.2)])), ((a 22), .inl ((k 22), 300, .inl (o_58.1)))] H := hP.sub [0, 1, 2, 3, 4, 5, 6, 7, 8, 9] rfl
        have hD : va_D A [((a 0), .inr (9, [.ref (a 1), .ref (a 3), .ref (a 4), .ref (a 7), .ref (a 10), .ref (a 14), .ref (a 16), .ref (a 18), .ref (a 19), .ref (a 21), .ref (a 23), .ref (a 25), .ref (a 27), .ref (a 28), .int hi])), (g, .inr (0, [.ref r0, .ref (a 7)])), (r0, .inl (c0, 98, .inl (upd fr (88 + z2).toNatClampNeg (1 - (fr (88 + z2).toNatClampNeg))))), ((a 7), .inr (5, [.ref (a 8), .ref (a 9), .int dv])), ((a 8), .inl ((k 8), 8, .inl fu)), ((a 9), .inl ((k 9), 48, .inl fp)), ((a 19), .inr (4, [.ref (a 20), .int nx, .int ph])), ((a 20), .inl ((k 20), 3920, .inl fq)), ((a 21), .inr (1, [.ref (a 22), .int (o_58.2)])), ((a 22), .inl ((k 22), 300, .inl (o_58.1)))] := hD.sub [0, 1, 2, 3, 4, 5, 6, 7, 8, 9] (by decide) rfl
        refine lv_iconst (v := (-1)) hx hb dX9_attempt_190 (by decide) ?_
        obtain rfl := Option.some.inj hG
        have hP9 := hP.sub (ws' := [((a 0), .inr (9, [.ref (a 1), .ref (a 3), .ref (a 4), .ref (a 7), .ref (a 10), .ref (a 14), .ref (a 16), .ref (a 18), .ref (a 19), .ref (a 21), .ref (a 23), .ref (a 25), .ref (a 27), .ref (a 28), .int hi])), (g, .inr (0, [.ref r0, .ref (a 7)])), (r0, .inl (c0, 98, .inl (upd fr (88 + z2).toNatClampNeg (1 - (fr (88 + z2).toNatClampNeg))))), ((a 7), .inr (5, [.ref (a 8), .ref (a 9), .int dv])), ((a 8), .inl ((k 8), 8, .inl fu)), ((a 9), .inl ((k 9), 48, .inl fp)), ((a 19), .inr (4, [.ref (a 20), .int nx, .int ph])), ((a 20), .inl ((k 20), 3920, .inl fq)), ((a 21), .inr (1, [.ref (a 22), .int (o_58.2)])), ((a 22), .inl ((k 22), 300, .inl (o_58.1)))]) [0, 1, 2, 3, 4, 5, 6, 7, 8, 9] rfl
        have hD9 := hD.sub (ws' := [((a 0), .inr (9, [.ref (a 1), .ref (a 3), .ref (a 4), .ref (a 7), .ref (a 10), .ref (a 14), .ref (a 16), .ref (a 18), .ref (a 19), .ref (a 21), .ref (a 23), .ref (a 25), .ref (a 27), .ref (a 28), .int hi])), (g, .inr (0, [.ref r0, .ref (a 7)])), (r0, .inl (c0, 98, .inl (upd fr (88 + z2).toNatClampNeg (1 - (fr (88 + z2).toNatClampNeg))))), ((a 7), .inr (5, [.ref (a 8), .ref (a 9), .int dv])), ((a 8), .inl ((k 8), 8, .inl fu)), ((a 9), .inl ((k 9), 48, .inl fp)), ((a 19), .inr (4, [.ref (a 20), .int nx, .int ph])), ((a 20), .inl ((k 20), 3920, .inl fq)), ((a 21), .inr (1, [.ref (a 22), .int (o_58.2)])), ((a 22), .inl ((k 22), 300, .inl (o_58.1)))]) [0, 1, 2, 3, 4, 5, 6, 7, 8, 9] (by decide) rfl
        have hK9 := hK.sub (tys' := [(c0, .int), ((k 8), .int), ((k 9), .int), ((k 20), .int), ((k 22), .int)]) [0, 1, 2, 3, 4] rfl
        exact W.iret (v := (-1)) hx hb hr (fun t ht hW => ⟨⟨(-1), (), rfl, ⟨rfl, trivial⟩, by rw [ht]; exact hP9, va_K.moved hW.alike hK9, hD9⟩, hS.F ht⟩) hS.2.2 dX9_attempt_191
    · have hG := q_ifn c_4 hG
      refine lv_aload_n hx hb dX9_attempt_26 rfl (lv_at hl 1 rfl) ?_
      refine va_get (D := (dC, dI)) (ci := 9) (v := .ref (a 19)) (C := RX9) (T := TX9) (N := 15) hx hb hts iA_9 hown hK hP 0 rfl rfl 8 (by decide) (hts (.fieldLink RX9 66 "HubTree" "past" "LHubTree$Past;") (List.mem_cons_of_mem _ m_43)) (fun _ h9 => h9) rfl dX9_attempt_27 ?_
      refine lv_aload_n hx hb dX9_attempt_30 rfl (lv_at hl 2 rfl) ?_
      obtain ⟨o_60, r_61, hG⟩ := q_bi hG
      refine q_gov2 (wr := [((a 0), .inr (9, [.ref (a 1), .ref (a 3), .ref (a 4), .ref (a 7), .ref (a 10), .ref (a 14), .ref (a 16), .ref (a 18), .ref (a 19), .ref (a 21), .ref (a 23), .ref (a 25), .ref (a 27), .ref (a 28), .int hi])), ((a 7), .inr (5, [.ref (a 8), .ref (a 9), .int dv])), ((a 8), .inl ((k 8), 8, .inl fu)), ((a 9), .inl ((k 9), 48, .inl fp)), ((a 21), .inr (1, [.ref (a 22), .int tt])), ((a 22), .inl ((k 22), 300, .inl fd))]) (va_runV (As := [.ref g]) (rest := []) ⟨hx, hb, hml, hown, hts⟩ (c_X4_keep l dC dI (a 19) (a 20) (k 20) fq nx ph g r0 (a 7) c0 fr (va_A [((a 19), .inr (4, [.ref (a 20), .int nx, .int ph])), ((a 20), .inl ((k 20), 3920, .inl fq)), (g, .inr (0, [.ref r0, .ref (a 7)])), (r0, .inl (c0, 98, .inl fr))] H.size) o_60 r_61) (cwV 1 hts (q_gV m_792 m_793 m_794 m_42 m_795) rfl rfl rfl hdV_yX4_keep_1 ⟨Nat.le_of_ble_eq_true rfl, Nat.le_of_ble_eq_true rfl⟩) (q_preWV hK hP hD (q := (RX4, TX4, 3)) (ci := 4) (q0 := 6) rfl rfl [6, 7, 1, 2] (by decide) rfl rfl [3, 0] rfl) rfl rfl hl.1 rfl (lv_room (Nat.le_of_ble_eq_true rfl)) dX9_attempt_31 ⟨Nat.le_of_ble_eq_true rfl, Nat.le_of_ble_eq_true rfl⟩) hK hP hD hS hA [6, 7, 1, 2] [0, 3, 4, 5, 8, 9] rfl rfl (by decide) (by decide) (fun _ H locs _ hP hD hK9 hS => ?_)
      have hP : va_P (dC, dI) vwCl [((a 0), .inr (9, [.ref (a 1), .ref (a 3), .ref (a 4), .ref (a 7), .ref (a 10), .ref (a 14), .ref (a 16), .ref (a 18), .ref (a 19), .ref (a 21), .ref (a 23), .ref (a 25), .ref (a 27), .ref (a 28), .int hi])), (g, .inr (0, [.ref r0, .ref (a 7)])), (r0, .inl (c0, 98, .inl fr)), ((a 7), .inr (5, [.ref (a 8), .ref (a 9), .int dv])), ((a 8), .inl ((k 8), 8, .inl fu)), ((a 9), .inl ((k 9), 48, .inl fp)), ((a 19), .inr (4, [.ref (a 20), .int (o_60.2.1), .int (o_60.2.2)])), ((a 20), .inl ((k 20), 3920, .inl (o_60.1))), ((a 21), .inr (1, [.ref (a 22), .int tt])), ((a 22), .inl ((k 22), 300, .inl fd))] H := hP.sub [0, 8, 9, 1, 2, 3, 6, 7, 4, 5] rfl
      have hD : va_D A [((a 0), .inr (9, [.ref (a 1), .ref (a 3), .ref (a 4), .ref (a 7), .ref (a 10), .ref (a 14), .ref (a 16), .ref (a 18), .ref (a 19), .ref (a 21), .ref (a 23), .ref (a 25), .ref (a 27), .ref (a 28), .int hi])), (g, .inr (0, [.ref r0, .ref (a 7)])), (r0, .inl (c0, 98, .inl fr)), ((a 7), .inr (5, [.ref (a 8), .ref (a 9), .int dv])), ((a 8), .inl ((k 8), 8, .inl fu)), ((a 9), .inl ((k 9), 48, .inl fp)), ((a 19), .inr (4, [.ref (a 20), .int (o_60.2.1), .int (o_60.2.2)])), ((a 20), .inl ((k 20), 3920, .inl (o_60.1))), ((a 21), .inr (1, [.ref (a 22), .int tt])), ((a 22), .inl ((k 22), 300, .inl fd))] := hD.sub [0, 8, 9, 1, 2, 3, 6, 7, 4, 5] (by decide) rfl
      refine lv_iload_n hx hb dX9_attempt_34 rfl (lv_at hl 4 rfl) ?_
      by_cases e_62 : z1 = 0
      · have hG := q_ifp e_62 hG
        refine lv_tableIn (off := 37) (tgt := 72) hx hb dX9_attempt_35 (by rw [e_62]; decide) (by rw [e_62]; decide) (by rw [e_62]; decide) (by decide) ?_
        refine lv_aload_n hx hb dX9_attempt_72 rfl (lv_at hl 2 rfl) ?_
        refine lv_iload hx hb dX9_attempt_73 (lv_at hl 5 rfl) ?_
        refine lv_iload hx hb dX9_attempt_75 (lv_at hl 6 rfl) ?_
        refine lv_iload hx hb dX9_attempt_77 (lv_at hl 7 rfl) ?_
        obtain ⟨o_63, r_64, hG⟩ := q_bi hG
        refine q_gov2 (wr := [((a 0), .inr (9, [.ref (a 1), .ref (a 3), .ref (a 4), .ref (a 7), .ref (a 10), .ref (a 14), .ref (a 16), .ref (a 18), .ref (a 19), .ref (a 21), .ref (a 23), .ref (a 25), .ref (a 27), .ref (a 28), .int hi])), ((a 19), .inr (4, [.ref (a 20), .int (o_60.2.1), .int (o_60.2.2)])), ((a 20), .inl ((k 20), 3920, .inl (o_60.1))), ((a 21), .inr (1, [.ref (a 22), .int tt])), ((a 22), .inl ((k 22), 300, .inl fd))]) (va_runV (As := [.int z2, .int z3, .int z4]) (rest := []) ⟨hx, hb, hml, hown, hts⟩ (c_X0_putIn l dC dI g r0 (a 7) (a 8) (a 9) dv c0 fr (k 8) (k 9) fu fp z2 z3 z4 (va_A [(g, .inr (0, [.ref r0, .ref (a 7)])), (r0, .inl (c0, 98, .inl fr)), ((a 7), .inr (5, [.ref (a 8), .ref (a 9), .int dv])), ((a 8), .inl ((k 8), 8, .inl fu)), ((a 9), .inl ((k 9), 48, .inl fp))] H.size) o_63 r_64) (cwV 3 hts (q_gV m_799 m_800 m_801 m_33 m_802) rfl rfl rfl hdV_yX0_putIn_3 ⟨Nat.le_of_ble_eq_true rfl, Nat.le_of_ble_eq_true rfl⟩) (q_preWV hK hP hD (q := (RX0, TX0, 2)) (ci := 0) (q0 := 1) rfl rfl [1, 2, 3, 4, 5] (by decide) rfl rfl [0, 1, 2] rfl) rfl rfl hl.1 rfl (lv_room (Nat.le_of_ble_eq_true rfl)) dX9_attempt_79 ⟨Nat.le_of_ble_eq_true rfl, Nat.le_of_ble_eq_true rfl⟩) hK hP hD hS hA [1, 2, 3, 4, 5] [0, 6, 7, 8, 9] rfl rfl (by decide) (by decide) (fun _ H locs _ hP hD hK9 hS => ?_)
        have hP : va_P (dC, dI) vwCl [((a 0), .inr (9, [.ref (a 1), .ref (a 3), .ref (a 4), .ref (a 7), .ref (a 10), .ref (a 14), .ref (a 16), .ref (a 18), .ref (a 19), .ref (a 21), .ref (a 23), .ref (a 25), .ref (a 27), .ref (a 28), .int hi])), (g, .inr (0, [.ref r0, .ref (a 7)])), (r0, .inl (c0, 98, .inl (o_63))), ((a 7), .inr (5, [.ref (a 8), .ref (a 9), .int dv])), ((a 8), .inl ((k 8), 8, .inl fu)), ((a 9), .inl ((k 9), 48, .inl fp)), ((a 19), .inr (4, [.ref (a 20), .int (o_60.2.1), .int (o_60.2.2)])), ((a 20), .inl ((k 20), 3920, .inl (o_60.1))), ((a 21), .inr (1, [.ref (a 22), .int tt])), ((a 22), .inl ((k 22), 300, .inl fd))] H := hP.sub [0, 5, 6, 7, 8, 9, 1, 2, 3, 4] rfl
        have hD : va_D A [((a 0), .inr (9, [.ref (a 1), .ref (a 3), .ref (a 4), .ref (a 7), .ref (a 10), .ref (a 14), .ref (a 16), .ref (a 18), .ref (a 19), .ref (a 21), .ref (a 23), .ref (a 25), .ref (a 27), .ref (a 28), .int hi])), (g, .inr (0, [.ref r0, .ref (a 7)])), (r0, .inl (c0, 98, .inl (o_63))), ((a 7), .inr (5, [.ref (a 8), .ref (a 9), .int dv])), ((a 8), .inl ((k 8), 8, .inl fu)), ((a 9), .inl ((k 9), 48, .inl fp)), ((a 19), .inr (4, [.ref (a 20), .int (o_60.2.1), .int (o_60.2.2)])), ((a 20), .inl ((k 20), 3920, .inl (o_60.1))), ((a 21), .inr (1, [.ref (a 22), .int tt])), ((a 22), .inl ((k 22), 300, .inl fd))] := hD.sub [0, 5, 6, 7, 8, 9, 1, 2, 3, 4] (by decide) rfl
        refine lv_goto (tgt := 172) hx hb dX9_attempt_82 (by decide) ?_
        refine lv_iload_n hx hb dX9_attempt_172 rfl (lv_at hl 3 rfl) ?_
        refine lv_if_eq (tgt := 190) hx hb dX9_attempt_173 (by decide) (fun c_65 => ?_) (fun c_65 => ?_)
        · have hG := q_ifp c_65 hG
          refine lv_iconst (v := (-1)) hx hb dX9_attempt_190 (by decide) ?_
          obtain rfl := Option.some.inj hG
          have hP9 := hP.sub (ws' := [((a 0), .inr (9, [.ref (a 1), .ref (a 3), .ref (a 4), .ref (a 7), .ref (a 10), .ref (a 14), .ref (a 16), .ref (a 18), .ref (a 19), .ref (a 21), .ref (a 23), .ref (a 25), .ref (a 27), .ref (a 28), .int hi])), (g, .inr (0, [.ref r0, .ref (a 7)])), (r0, .inl (c0, 98, .inl (o_63))), ((a 7), .inr (5, [.ref (a 8), .ref (a 9), .int dv])), ((a 8), .inl ((k 8), 8, .inl fu)), ((a 9), .inl ((k 9), 48, .inl fp)), ((a 19), .inr (4, [.ref (a 20), .int (o_60.2.1), .int (o_60.2.2)])), ((a 20), .inl ((k 20), 3920, .inl (o_60.1))), ((a 21), .inr (1, [.ref (a 22), .int tt])), ((a 22), .inl ((k 22), 300, .inl fd))]) [0, 1, 2, 3, 4, 5, 6, 7, 8, 9] rfl
          have hD9 := hD.sub (ws' := [((a 0), .inr (9, [.ref (a 1), .ref (a 3), .ref (a 4), .ref (a 7), .ref (a 10), .ref (a 14), .ref (a 16), .ref (a 18), .ref (a 19), .ref (a 21), .ref (a 23), .ref (a 25), .ref (a 27), .ref (a 28), .int hi])), (g, .inr (0, [.ref r0, .ref (a 7)])), (r0, .inl (c0, 98, .inl (o_63))), ((a 7), .inr (5, [.ref (a 8), .ref (a 9), .int dv])), ((a 8), .inl ((k 8), 8, .inl fu)), ((a 9), .inl ((k 9), 48, .inl fp)), ((a 19), .inr (4, [.ref (a 20), .int (o_60.2.1), .int (o_60.2.2)])), ((a 20), .inl ((k 20), 3920, .inl (o_60.1))), ((a 21), .inr (1, [.ref (a 22), .int tt])), ((a 22), .inl ((k 22), 300, .inl fd))]) [0, 1, 2, 3, 4, 5, 6, 7, 8, 9] (by decide) rfl
          have hK9 := hK.sub (tys' := [(c0, .int), ((k 8), .int), ((k 9), .int), ((k 20), .int), ((k 22), .int)]) [0, 1, 2, 3, 4] rfl
          exact W.iret (v := (-1)) hx hb hr (fun t ht hW => ⟨⟨(-1), (), rfl, ⟨rfl, trivial⟩, by rw [ht]; exact hP9, va_K.moved hW.alike hK9, hD9⟩, hS.F ht⟩) hS.2.2 dX9_attempt_191
        · have hG := q_ifn c_65 hG
          refine lv_aload_n hx hb dX9_attempt_176 rfl (lv_at hl 1 rfl) ?_
          refine va_get (D := (dC, dI)) (ci := 9) (v := .ref (a 21)) (C := RX9) (T := TX9) (N := 15) hx hb hts iA_9 hown hK hP 0 rfl rfl 9 (by decide) (hts (.fieldLink RX9 73 "HubTree" "diary" "LHubTree$Diary;") (List.mem_cons_of_mem _ m_47)) (fun _ h9 => h9) rfl dX9_attempt_177 ?_
          refine lv_iload_n hx hb dX9_attempt_180 rfl (lv_at hl 4 rfl) ?_
          refine lv_iload hx hb dX9_attempt_181 (lv_at hl 5 rfl) ?_
          refine lv_aload_n hx hb dX9_attempt_183 rfl (lv_at hl 2 rfl) ?_
          obtain ⟨o_66, r_67, hG⟩ := q_bi hG
          refine q_goi (v := o_66) (va_runV (As := []) (rest := [.int z2, .int z1, .ref (a 21)]) ⟨hx, hb, hml, hown, hts⟩ (c_X0_running l dC dI g r0 (a 7) (a 8) (a 9) dv c0 (o_63) (k 8) (k 9) fu fp o_66 r_67) (cwV 0 hts (q_gV m_876 m_877 m_878 m_33 m_879) rfl rfl rfl hdV_yX0_running_0 ⟨Nat.le_of_ble_eq_true rfl, Nat.le_of_ble_eq_true rfl⟩) (q_preV hK hP (q := (RX0, TX0, 2)) (ci := 0) (q0 := 1) rfl rfl [1, 2, 3, 4, 5] rfl [0, 1, 2] rfl) rfl rfl hl.1 rfl (lv_room (Nat.le_of_ble_eq_true rfl)) dX9_attempt_184 ⟨Nat.le_of_ble_eq_true rfl, Nat.le_of_ble_eq_true rfl⟩) hP hS (fun H locs hP hS => ?_)
          obtain ⟨o_68, r_69, hG⟩ := q_bi hG
          refine q_gov2 (wr := [((a 0), .inr (9, [.ref (a 1), .ref (a 3), .ref (a 4), .ref (a 7), .ref (a 10), .ref (a 14), .ref (a 16), .ref (a 18), .ref (a 19), .ref (a 21), .ref (a 23), .ref (a 25), .ref (a 27), .ref (a 28), .int hi])), (g, .inr (0, [.ref r0, .ref (a 7)])), (r0, .inl (c0, 98, .inl (o_63))), ((a 7), .inr (5, [.ref (a 8), .ref (a 9), .int dv])), ((a 8), .inl ((k 8), 8, .inl fu)), ((a 9), .inl ((k 9), 48, .inl fp)), ((a 19), .inr (4, [.ref (a 20), .int (o_60.2.1), .int (o_60.2.2)])), ((a 20), .inl ((k 20), 3920, .inl (o_60.1)))]) (va_runV (As := [.int z1, .int z2, .int o_66]) (rest := []) ⟨hx, hb, hml, hown, hts⟩ (c_X1_write l dC dI (a 21) (a 22) (k 22) fd tt z1 z2 o_66 (va_A [((a 21), .inr (1, [.ref (a 22), .int tt])), ((a 22), .inl ((k 22), 300, .inl fd))] H.size) o_68 r_69) (cwV 3 hts (q_gV m_885 m_886 m_887 m_46 m_888) rfl rfl rfl hdV_yX1_write_3 ⟨Nat.le_of_ble_eq_true rfl, Nat.le_of_ble_eq_true rfl⟩) (q_preWV hK hP hD (q := (RX1, TX1, 2)) (ci := 1) (q0 := 8) rfl rfl [8, 9] (by decide) rfl rfl [4] rfl) rfl rfl hl.1 rfl (lv_room (Nat.le_of_ble_eq_true rfl)) dX9_attempt_187 ⟨Nat.le_of_ble_eq_true rfl, Nat.le_of_ble_eq_true rfl⟩) hK hP hD hS hA [8, 9] [0, 1, 2, 3, 4, 5, 6, 7] rfl rfl (by decide) (by decide) (fun _ H locs _ hP hD hK9 hS => ?_)
          have hP : va_P (dC, dI) vwCl [((a 0), .inr (9, [.ref (a 1), .ref (a 3), .ref (a 4), .ref (a 7), .ref (a 10), .ref (a 14), .ref (a 16), .ref (a 18), .ref (a 19), .ref (a 21), .ref (a 23), .ref (a 25), .ref (a 27), .ref (a 28), .int hi])), (g, .inr (0, [.ref r0, .ref (a 7)])), (r0, .inl (c0, 98, .inl (o_63))), ((a 7), .inr (5, [.ref (a 8), .ref (a 9), .int dv])), ((a 8), .inl ((k 8), 8, .inl fu)), ((a 9), .inl ((k 9), 48, .inl fp)), ((a 19), .inr (4, [.ref (a 20), .int (o_60.2.1), .int (o_60.2.2)])), ((a 20), .inl ((k 20), 3920, .inl (o_60.1))), ((a 21), .inr (1, [.ref (a 22), .int (o_68.2)])), ((a 22), .inl ((k 22), 300, .inl (o_68.1)))] H := hP.sub [0, 1, 2, 3, 4, 5, 6, 7, 8, 9] rfl
          have hD : va_D A [((a 0), .inr (9, [.ref (a 1), .ref (a 3), .ref (a 4), .ref (a 7), .ref (a 10), .ref (a 14), .ref (a 16), .ref (a 18), .ref (a 19), .ref (a 21), .ref (a 23), .ref (a 25), .ref (a 27), .ref (a 28), .int hi])), (g, .inr (0, [.ref r0, .ref (a 7)])), (r0, .inl (c0, 98, .inl (o_63))), ((a 7), .inr (5, [.ref (a 8), .ref (a 9), .int dv])), ((a 8), .inl ((k 8), 8, .inl fu)), ((a 9), .inl ((k 9), 48, .inl fp)), ((a 19), .inr (4, [.ref (a 20), .int (o_60.2.1), .int (o_60.2.2)])), ((a 20), .inl ((k 20), 3920, .inl (o_60.1))), ((a 21), .inr (1, [.ref (a 22), .int (o_68.2)])), ((a 22), .inl ((k 22), 300, .inl (o_68.1)))] := hD.sub [0, 1, 2, 3, 4, 5, 6, 7, 8, 9] (by decide) rfl
          refine lv_iconst (v := (-1)) hx hb dX9_attempt_190 (by decide) ?_
          obtain rfl := Option.some.inj hG
          have hP9 := hP.sub (ws' := [((a 0), .inr (9, [.ref (a 1), .ref (a 3), .ref (a 4), .ref (a 7), .ref (a 10), .ref (a 14), .ref (a 16), .ref (a 18), .ref (a 19), .ref (a 21), .ref (a 23), .ref (a 25), .ref (a 27), .ref (a 28), .int hi])), (g, .inr (0, [.ref r0, .ref (a 7)])), (r0, .inl (c0, 98, .inl (o_63))), ((a 7), .inr (5, [.ref (a 8), .ref (a 9), .int dv])), ((a 8), .inl ((k 8), 8, .inl fu)), ((a 9), .inl ((k 9), 48, .inl fp)), ((a 19), .inr (4, [.ref (a 20), .int (o_60.2.1), .int (o_60.2.2)])), ((a 20), .inl ((k 20), 3920, .inl (o_60.1))), ((a 21), .inr (1, [.ref (a 22), .int (o_68.2)])), ((a 22), .inl ((k 22), 300, .inl (o_68.1)))]) [0, 1, 2, 3, 4, 5, 6, 7, 8, 9] rfl
          have hD9 := hD.sub (ws' := [((a 0), .inr (9, [.ref (a 1), .ref (a 3), .ref (a 4), .ref (a 7), .ref (a 10), .ref (a 14), .ref (a 16), .ref (a 18), .ref (a 19), .ref (a 21), .ref (a 23), .ref (a 25), .ref (a 27), .ref (a 28), .int hi])), (g, .inr (0, [.ref r0, .ref (a 7)])), (r0, .inl (c0, 98, .inl (o_63))), ((a 7), .inr (5, [.ref (a 8), .ref (a 9), .int dv])), ((a 8), .inl ((k 8), 8, .inl fu)), ((a 9), .inl ((k 9), 48, .inl fp)), ((a 19), .inr (4, [.ref (a 20), .int (o_60.2.1), .int (o_60.2.2)])), ((a 20), .inl ((k 20), 3920, .inl (o_60.1))), ((a 21), .inr (1, [.ref (a 22), .int (o_68.2)])), ((a 22), .inl ((k 22), 300, .inl (o_68.1)))]) [0, 1, 2, 3, 4, 5, 6, 7, 8, 9] (by decide) rfl
          have hK9 := hK.sub (tys' := [(c0, .int), ((k 8), .int), ((k 9), .int), ((k 20), .int), ((k 22), .int)]) [0, 1, 2, 3, 4] rfl
          exact W.iret (v := (-1)) hx hb hr (fun t ht hW => ⟨⟨(-1), (), rfl, ⟨rfl, trivial⟩, by rw [ht]; exact hP9, va_K.moved hW.alike hK9, hD9⟩, hS.F ht⟩) hS.2.2 dX9_attempt_191
      have hG := q_ifn e_62 hG
      by_cases e_70 : z1 = 1
      · have hG := q_ifp e_70 hG
        refine lv_tableIn (off := 50) (tgt := 85) hx hb dX9_attempt_35 (by rw [e_70]; decide) (by rw [e_70]; decide) (by rw [e_70]; decide) (by decide) ?_
        refine lv_aload_n hx hb dX9_attempt_85 rfl (lv_at hl 2 rfl) ?_
        refine lv_iload hx hb dX9_attempt_86 (lv_at hl 5 rfl) ?_
        obtain ⟨o_71, r_72, hG⟩ := q_bi hG
        refine q_gov2 (wr := [((a 0), .inr (9, [.ref (a 1), .ref (a 3), .ref (a 4), .ref (a 7), .ref (a 10), .ref (a 14), .ref (a 16), .ref (a 18), .ref (a 19), .ref (a 21), .ref (a 23), .ref (a 25), .ref (a 27), .ref (a 28), .int hi])), ((a 19), .inr (4, [.ref (a 20), .int (o_60.2.1), .int (o_60.2.2)])), ((a 20), .inl ((k 20), 3920, .inl (o_60.1))), ((a 21), .inr (1, [.ref (a 22), .int tt])), ((a 22), .inl ((k 22), 300, .inl fd))]) (va_runV (As := [.int z2]) (rest := []) ⟨hx, hb, hml, hown, hts⟩ (c_X0_pullOut l dC dI g r0 (a 7) (a 8) (a 9) dv c0 fr (k 8) (k 9) fu fp z2 (va_A [(g, .inr (0, [.ref r0, .ref (a 7)])), (r0, .inl (c0, 98, .inl fr)), ((a 7), .inr (5, [.ref (a 8), .ref (a 9), .int dv])), ((a 8), .inl ((k 8), 8, .inl fu)), ((a 9), .inl ((k 9), 48, .inl fp))] H.size) o_71 r_72) (cwV 1 hts (q_gV m_803 m_804 m_805 m_33 m_806) rfl rfl rfl hdV_yX0_pullOut_1 ⟨Nat.le_of_ble_eq_true rfl, Nat.le_of_ble_eq_true rfl⟩) (q_preWV hK hP hD (q := (RX0, TX0, 2)) (ci := 0) (q0 := 1) rfl rfl [1, 2, 3, 4, 5] (by decide) rfl rfl [0, 1, 2] rfl) rfl rfl hl.1 rfl (lv_room (Nat.le_of_ble_eq_true rfl)) dX9_attempt_88 ⟨Nat.le_of_ble_eq_true rfl, Nat.le_of_ble_eq_true rfl⟩) hK hP hD hS hA [1, 2, 3, 4, 5] [0, 6, 7, 8, 9] rfl rfl (by decide) (by decide) (fun _ H locs _ hP hD hK9 hS => ?_)
        have hP : va_P (dC, dI) vwCl [((a 0), .inr (9, [.ref (a 1), .ref (a 3), .ref (a 4), .ref (a 7), .ref (a 10), .ref (a 14), .ref (a 16), .ref (a 18), .ref (a 19), .ref (a 21), .ref (a 23), .ref (a 25), .ref (a 27), .ref (a 28), .int hi])), (g, .inr (0, [.ref r0, .ref (a 7)])), (r0, .inl (c0, 98, .inl (o_71))), ((a 7), .inr (5, [.ref (a 8), .ref (a 9), .int dv])), ((a 8), .inl ((k 8), 8, .inl fu)), ((a 9), .inl ((k 9), 48, .inl fp)), ((a 19), .inr (4, [.ref (a 20), .int (o_60.2.1), .int (o_60.2.2)])), ((a 20), .inl ((k 20), 3920, .inl (o_60.1))), ((a 21), .inr (1, [.ref (a 22), .int tt])), ((a 22), .inl ((k 22), 300, .inl fd))] H := hP.sub [0, 5, 6, 7, 8, 9, 1, 2, 3, 4] rfl
        have hD : va_D A [((a 0), .inr (9, [.ref (a 1), .ref (a 3), .ref (a 4), .ref (a 7), .ref (a 10), .ref (a 14), .ref (a 16), .ref (a 18), .ref (a 19), .ref (a 21), .ref (a 23), .ref (a 25), .ref (a 27), .ref (a 28), .int hi])), (g, .inr (0, [.ref r0, .ref (a 7)])), (r0, .inl (c0, 98, .inl (o_71))), ((a 7), .inr (5, [.ref (a 8), .ref (a 9), .int dv])), ((a 8), .inl ((k 8), 8, .inl fu)), ((a 9), .inl ((k 9), 48, .inl fp)), ((a 19), .inr (4, [.ref (a 20), .int (o_60.2.1), .int (o_60.2.2)])), ((a 20), .inl ((k 20), 3920, .inl (o_60.1))), ((a 21), .inr (1, [.ref (a 22), .int tt])), ((a 22), .inl ((k 22), 300, .inl fd))] := hD.sub [0, 5, 6, 7, 8, 9, 1, 2, 3, 4] (by decide) rfl
        refine lv_goto (tgt := 172) hx hb dX9_attempt_91 (by decide) ?_
        refine lv_iload_n hx hb dX9_attempt_172 rfl (lv_at hl 3 rfl) ?_
        refine lv_if_eq (tgt := 190) hx hb dX9_attempt_173 (by decide) (fun c_73 => ?_) (fun c_73 => ?_)
        · have hG := q_ifp c_73 hG
          refine lv_iconst (v := (-1)) hx hb dX9_attempt_190 (by decide) ?_
          obtain rfl := Option.some.inj hG
          have hP9 := hP.sub (ws' := [((a 0), .inr (9, [.ref (a 1), .ref (a 3), .ref (a 4), .ref (a 7), .ref (a 10), .ref (a 14), .ref (a 16), .ref (a 18), .ref (a 19), .ref (a 21), .ref (a 23), .ref (a 25), .ref (a 27), .ref (a 28), .int hi])), (g, .inr (0, [.ref r0, .ref (a 7)])), (r0, .inl (c0, 98, .inl (o_71))), ((a 7), .inr (5, [.ref (a 8), .ref (a 9), .int dv])), ((a 8), .inl ((k 8), 8, .inl fu)), ((a 9), .inl ((k 9), 48, .inl fp)), ((a 19), .inr (4, [.ref (a 20), .int (o_60.2.1), .int (o_60.2.2)])), ((a 20), .inl ((k 20), 3920, .inl (o_60.1))), ((a 21), .inr (1, [.ref (a 22), .int tt])), ((a 22), .inl ((k 22), 300, .inl fd))]) [0, 1, 2, 3, 4, 5, 6, 7, 8, 9] rfl
          have hD9 := hD.sub (ws' := [((a 0), .inr (9, [.ref (a 1), .ref (a 3), .ref (a 4), .ref (a 7), .ref (a 10), .ref (a 14), .ref (a 16), .ref (a 18), .ref (a 19), .ref (a 21), .ref (a 23), .ref (a 25), .ref (a 27), .ref (a 28), .int hi])), (g, .inr (0, [.ref r0, .ref (a 7)])), (r0, .inl (c0, 98, .inl (o_71))), ((a 7), .inr (5, [.ref (a 8), .ref (a 9), .int dv])), ((a 8), .inl ((k 8), 8, .inl fu)), ((a 9), .inl ((k 9), 48, .inl fp)), ((a 19), .inr (4, [.ref (a 20), .int (o_60.2.1), .int (o_60.2.2)])), ((a 20), .inl ((k 20), 3920, .inl (o_60.1))), ((a 21), .inr (1, [.ref (a 22), .int tt])), ((a 22), .inl ((k 22), 300, .inl fd))]) [0, 1, 2, 3, 4, 5, 6, 7, 8, 9] (by decide) rfl
          have hK9 := hK.sub (tys' := [(c0, .int), ((k 8), .int), ((k 9), .int), ((k 20), .int), ((k 22), .int)]) [0, 1, 2, 3, 4] rfl
          exact W.iret (v := (-1)) hx hb hr (fun t ht hW => ⟨⟨(-1), (), rfl, ⟨rfl, trivial⟩, by rw [ht]; exact hP9, va_K.moved hW.alike hK9, hD9⟩, hS.F ht⟩) hS.2.2 dX9_attempt_191
        · have hG := q_ifn c_73 hG
          refine lv_aload_n hx hb dX9_attempt_176 rfl (lv_at hl 1 rfl) ?_
          refine va_get (D := (dC, dI)) (ci := 9) (v := .ref (a 21)) (C := RX9) (T := TX9) (N := 15) hx hb hts iA_9 hown hK hP 0 rfl rfl 9 (by decide) (hts (.fieldLink RX9 73 "HubTree" "diary" "LHubTree$Diary;") (List.mem_cons_of_mem _ m_47)) (fun _ h9 => h9) rfl dX9_attempt_177 ?_
          refine lv_iload_n hx hb dX9_attempt_180 rfl (lv_at hl 4 rfl) ?_
          refine lv_iload hx hb dX9_attempt_181 (lv_at hl 5 rfl) ?_
          refine lv_aload_n hx hb dX9_attempt_183 rfl (lv_at hl 2 rfl) ?_
          obtain ⟨o_74, r_75, hG⟩ := q_bi hG
          refine q_goi (v := o_74) (va_runV (As := []) (rest := [.int z2, .int z1, .ref (a 21)]) ⟨hx, hb, hml, hown, hts⟩ (c_X0_running l dC dI g r0 (a 7) (a 8) (a 9) dv c0 (o_71) (k 8) (k 9) fu fp o_74 r_75) (cwV 0 hts (q_gV m_876 m_877 m_878 m_33 m_879) rfl rfl rfl hdV_yX0_running_0 ⟨Nat.le_of_ble_eq_true rfl, Nat.le_of_ble_eq_true rfl⟩) (q_preV hK hP (q := (RX0, TX0, 2)) (ci := 0) (q0 := 1) rfl rfl [1, 2, 3, 4, 5] rfl [0, 1, 2] rfl) rfl rfl hl.1 rfl (lv_room (Nat.le_of_ble_eq_true rfl)) dX9_attempt_184 ⟨Nat.le_of_ble_eq_true rfl, Nat.le_of_ble_eq_true rfl⟩) hP hS (fun H locs hP hS => ?_)
          obtain ⟨o_76, r_77, hG⟩ := q_bi hG
          refine q_gov2 (wr := [((a 0), .inr (9, [.ref (a 1), .ref (a 3), .ref (a 4), .ref (a 7), .ref (a 10), .ref (a 14), .ref (a 16), .ref (a 18), .ref (a 19), .ref (a 21), .ref (a 23), .ref (a 25), .ref (a 27), .ref (a 28), .int hi])), (g, .inr (0, [.ref r0, .ref (a 7)])), (r0, .inl (c0, 98, .inl (o_71))), ((a 7), .inr (5, [.ref (a 8), .ref (a 9), .int dv])), ((a 8), .inl ((k 8), 8, .inl fu)), ((a 9), .inl ((k 9), 48, .inl fp)), ((a 19), .inr (4, [.ref (a 20), .int (o_60.2.1), .int (o_60.2.2)])), ((a 20), .inl ((k 20), 3920, .inl (o_60.1)))]) (va_runV (As := [.int z1, .int z2, .int o_74]) (rest := []) ⟨hx, hb, hml, hown, hts⟩ (c_X1_write l dC dI (a 21) (a 22) (k 22) fd tt z1 z2 o_74 (va_A [((a 21), .inr (1, [.ref (a 22), .int tt])), ((a 22), .inl ((k 22), 300, .inl fd))] H.size) o_76 r_77) (cwV 3 hts (q_gV m_885 m_886 m_887 m_46 m_888) rfl rfl rfl hdV_yX1_write_3 ⟨Nat.le_of_ble_eq_true rfl, Nat.le_of_ble_eq_true rfl⟩) (q_preWV hK hP hD (q := (RX1, TX1, 2)) (ci := 1) (q0 := 8) rfl rfl [8, 9] (by decide) rfl rfl [4] rfl) rfl rfl hl.1 rfl (lv_room (Nat.le_of_ble_eq_true rfl)) dX9_attempt_187 ⟨Nat.le_of_ble_eq_true rfl, Nat.le_of_ble_eq_true rfl⟩) hK hP hD hS hA [8, 9] [0, 1, 2, 3, 4, 5, 6, 7] rfl rfl (by decide) (by decide) (fun _ H locs _ hP hD hK9 hS => ?_)
          have hP : va_P (dC, dI) vwCl [((a 0), .inr (9, [.ref (a 1), .ref (a 3), .ref (a 4), .ref (a 7), .ref (a 10), .ref (a 14), .ref (a 16), .ref (a 18), .ref (a 19), .ref (a 21), .ref (a 23), .ref (a 25), .ref (a 27), .ref (a 28), .int hi])), (g, .inr (0, [.ref r0, .ref (a 7)])), (r0, .inl (c0, 98, .inl (o_71))), ((a 7), .inr (5, [.ref (a 8), .ref (a 9), .int dv])), ((a 8), .inl ((k 8), 8, .inl fu)), ((a 9), .inl ((k 9), 48, .inl fp)), ((a 19), .inr (4, [.ref (a 20), .int (o_60.2.1), .int (o_60.2.2)])), ((a 20), .inl ((k 20), 3920, .inl (o_60.1))), ((a 21), .inr (1, [.ref (a 22), .int (o_76.2)])), ((a 22), .inl ((k 22), 300, .inl (o_76.1)))] H := hP.sub [0, 1, 2, 3, 4, 5, 6, 7, 8, 9] rfl
          have hD : va_D A [((a 0), .inr (9, [.ref (a 1), .ref (a 3), .ref (a 4), .ref (a 7), .ref (a 10), .ref (a 14), .ref (a 16), .ref (a 18), .ref (a 19), .ref (a 21), .ref (a 23), .ref (a 25), .ref (a 27), .ref (a 28), .int hi])), (g, .inr (0, [.ref r0, .ref (a 7)])), (r0, .inl (c0, 98, .inl (o_71))), ((a 7), .inr (5, [.ref (a 8), .ref (a 9), .int dv])), ((a 8), .inl ((k 8), 8, .inl fu)), ((a 9), .inl ((k 9), 48, .inl fp)), ((a 19), .inr (4, [.ref (a 20), .int (o_60.2.1), .int (o_60.2.2)])), ((a 20), .inl ((k 20), 3920, .inl (o_60.1))), ((a 21), .inr (1, [.ref (a 22), .int (o_76.2)])), ((a 22), .inl ((k 22), 300, .inl (o_76.1)))] := hD.sub [0, 1, 2, 3, 4, 5, 6, 7, 8, 9] (by decide) rfl
          refine lv_iconst (v := (-1)) hx hb dX9_attempt_190 (by decide) ?_
          obtain rfl := Option.some.inj hG
          have hP9 := hP.sub (ws' := [((a 0), .inr (9, [.ref (a 1), .ref (a 3), .ref (a 4), .ref (a 7), .ref (a 10), .ref (a 14), .ref (a 16), .ref (a 18), .ref (a 19), .ref (a 21), .ref (a 23), .ref (a 25), .ref (a 27), .ref (a 28), .int hi])), (g, .inr (0, [.ref r0, .ref (a 7)])), (r0, .inl (c0, 98, .inl (o_71))), ((a 7), .inr (5, [.ref (a 8), .ref (a 9), .int dv])), ((a 8), .inl ((k 8), 8, .inl fu)), ((a 9), .inl ((k 9), 48, .inl fp)), ((a 19), .inr (4, [.ref (a 20), .int (o_60.2.1), .int (o_60.2.2)])), ((a 20), .inl ((k 20), 3920, .inl (o_60.1))), ((a 21), .inr (1, [.ref (a 22), .int (o_76.2)])), ((a 22), .inl ((k 22), 300, .inl (o_76.1)))]) [0, 1, 2, 3, 4, 5, 6, 7, 8, 9] rfl
          have hD9 := hD.sub (ws' := [((a 0), .inr (9, [.ref (a 1), .ref (a 3), .ref (a 4), .ref (a 7), .ref (a 10), .ref (a 14), .ref (a 16), .ref (a 18), .ref (a 19), .ref (a 21), .ref (a 23), .ref (a 25), .ref (a 27), .ref (a 28), .int hi])), (g, .inr (0, [.ref r0, .ref (a 7)])), (r0, .inl (c0, 98, .inl (o_71))), ((a 7), .inr (5, [.ref (a 8), .ref (a 9), .int dv])), ((a 8), .inl ((k 8), 8, .inl fu)), ((a 9), .inl ((k 9), 48, .inl fp)), ((a 19), .inr (4, [.ref (a 20), .int (o_60.2.1), .int (o_60.2.2)])), ((a 20), .inl ((k 20), 3920, .inl (o_60.1))), ((a 21), .inr (1, [.ref (a 22), .int (o_76.2)])), ((a 22), .inl ((k 22), 300, .inl (o_76.1)))]) [0, 1, 2, 3, 4, 5, 6, 7, 8, 9] (by decide) rfl
          have hK9 := hK.sub (tys' := [(c0, .int), ((k 8), .int), ((k 9), .int), ((k 20), .int), ((k 22), .int)]) [0, 1, 2, 3, 4] rfl
          exact W.iret (v := (-1)) hx hb hr (fun t ht hW => ⟨⟨(-1), (), rfl, ⟨rfl, trivial⟩, by rw [ht]; exact hP9, va_K.moved hW.alike hK9, hD9⟩, hS.F ht⟩) hS.2.2 dX9_attempt_191
      have hG := q_ifn e_70 hG
      by_cases e_78 : z1 = 2
      · have hG := q_ifp e_78 hG
        refine lv_tableIn (off := 59) (tgt := 94) hx hb dX9_attempt_35 (by rw [e_78]; decide) (by rw [e_78]; decide) (by rw [e_78]; decide) (by decide) ?_
        refine lv_iconst (v := 0) hx hb dX9_attempt_94 (by decide) ?_
        refine lv_istore (lv' := [(8, .int 0), (7, .int o_1), (0, .ref (a 0)), (1, .ref g), (2, .int z0), (3, .int z1), (4, .int z2), (5, .int z3), (6, .int z4)]) hx hb dX9_attempt_95 hl (by decide) rfl (fun ls hl => ?_)
        have L_97 : ∀ (n_97 : Nat) (x7_97 : Int32) (x8_97 : Int32) (nx_c : Int32) (ph_c : Int32) (tt_c : Int32) (fr_c : Nat → Int32) (fq_c : Nat → Int32) (fd_c : Nat → Int32) (H : Heap) (locs : List Loc) (ls : Array Slot), FL_X9_attempt_97 dv nx ph tt fr fu fp fq fd z0 z1 z2 z3 z4 n_97 x7_97 x8_97 nx_c ph_c tt_c fr_c fq_c fd_c = some o → va_P (dC, dI) vwCl [((a 0), .inr (9, [.ref (a 1), .ref (a 3), .ref (a 4), .ref (a 7), .ref (a 10), .ref (a 14), .ref (a 16), .ref (a 18), .ref (a 19), .ref (a 21), .ref (a 23), .ref (a 25), .ref (a 27), .ref (a 28), .int hi])), (g, .inr (0, [.ref r0, .ref (a 7)])), (r0, .inl (c0, 98, .inl fr_c)), ((a 7), .inr (5, [.ref (a 8), .ref (a 9), .int dv])), ((a 8), .inl ((k 8), 8, .inl fu)), ((a 9), .inl ((k 9), 48, .inl fp)), ((a 19), .inr (4, [.ref (a 20), .int nx_c, .int ph_c])), ((a 20), .inl ((k 20), 3920, .inl fq_c)), ((a 21), .inr (1, [.ref (a 22), .int tt_c])), ((a 22), .inl ((k 22), 300, .inl fd_c))] H → va_D A [((a 0), .inr (9, [.ref (a 1), .ref (a 3), .ref (a 4), .ref (a 7), .ref (a 10), .ref (a 14), .ref (a 16), .ref (a 18), .ref (a 19), .ref (a 21), .ref (a 23), .ref (a 25), .ref (a 27), .ref (a 28), .int hi])), (g, .inr (0, [.ref r0, .ref (a 7)])), (r0, .inl (c0, 98, .inl fr_c)), ((a 7), .inr (5, [.ref (a 8), .ref (a 9), .int dv])), ((a 8), .inl ((k 8), 8, .inl fu)), ((a 9), .inl ((k 9), 48, .inl fp)), ((a 19), .inr (4, [.ref (a 20), .int nx_c, .int ph_c])), ((a 20), .inl ((k 20), 3920, .inl fq_c)), ((a 21), .inr (1, [.ref (a 22), .int tt_c])), ((a 22), .inl ((k 22), 300, .inl fd_c))] → va_S A s.heap H locs → lv_has ls 9 [(8, .int x8_97), (7, .int x7_97), (0, .ref (a 0)), (1, .ref g), (2, .int z0), (3, .int z1), (4, .int z2), (5, .int z3), (6, .int z4)] → W p l e (headSpec (.code yX9_attempt cX9_attempt 9 (some .int) :: wA) ({ frames := 5, cells := 0, slots := 0, locals := 116 })).room s m #[.ref (a 0), .ref g, .int z0, .int z1, .int z2, .int z3, .int z4] below meth c H locs 0 0 (MQ below (va_Qi (fun (r : Int32) (_ : Unit) => r = o.1 ∧ True) (fun (_ : Unit) t => q_B (dC, dI) A [((a 0), .inr (9, [.ref (a 1), .ref (a 3), .ref (a 4), .ref (a 7), .ref (a 10), .ref (a 14), .ref (a 16), .ref (a 18), .ref (a 19), .ref (a 21), .ref (a 23), .ref (a 25), .ref (a 27), .ref (a 28), .int hi])), (g, .inr (0, [.ref r0, .ref (a 7)])), (r0, .inl (c0, 98, .inl (o.2.2.2.2.1))), ((a 7), .inr (5, [.ref (a 8), .ref (a 9), .int dv])), ((a 8), .inl ((k 8), 8, .inl fu)), ((a 9), .inl ((k 9), 48, .inl fp)), ((a 19), .inr (4, [.ref (a 20), .int (o.2.1), .int (o.2.2.1)])), ((a 20), .inl ((k 20), 3920, .inl (o.2.2.2.2.2.1))), ((a 21), .inr (1, [.ref (a 22), .int (o.2.2.2.1)])), ((a 22), .inl ((k 22), 300, .inl (o.2.2.2.2.2.2)))] [(c0, .int), ((k 8), .int), ((k 9), .int), ((k 20), .int), ((k 22), .int)] t) A) #[.ref (a 0), .ref g, .int z0, .int z1, .int z2, .int z3, .int z4] s 0 0 A) (F0 m 97 ls []) := by
          intro n_97
          induction n_97 with
          | zero =>
            intro x7_97 x8_97 nx_c ph_c tt_c fr_c fq_c fd_c H locs ls hG
            exact q_no hG
          | succ n_97 ih_97 =>
            intro x7_97 x8_97 nx_c ph_c tt_c fr_c fq_c fd_c H locs ls hG hP hD hS hl
            unfold FL_X9_attempt_97 at hG
            refine lv_iload hx hb dX9_attempt_97 (lv_at hl 0 rfl) ?_
            refine lv_iload hx hb dX9_attempt_99 (lv_at hl 6 rfl) ?_
            refine lv_icmp_ge (tgt := 114) hx hb dX9_attempt_101 (by decide) (fun c_79 => ?_) (fun c_79 => ?_)
            · have hG := q_ifp c_79 hG
              refine lv_goto (tgt := 172) hx hb dX9_attempt_114 (by decide) ?_
              refine lv_iload_n hx hb dX9_attempt_172 rfl (lv_at hl 4 rfl) ?_
              refine lv_if_eq (tgt := 190) hx hb dX9_attempt_173 (by decide) (fun c_80 => ?_) (fun c_80 => ?_)
              · have hG := q_ifp c_80 hG
                refine lv_iconst (v := (-1)) hx hb dX9_attempt_190 (by decide) ?_
                obtain rfl := Option.some.inj hG
                have hP9 := hP.sub (ws' := [((a 0), .inr (9, [.ref (a 1), .ref (a 3), .ref (a 4), .ref (a 7), .ref (a 10), .ref (a 14), .ref (a 16), .ref (a 18), .ref (a 19), .ref (a 21), .ref (a 23), .ref (a 25), .ref (a 27), .ref (a 28), .int hi])), (g, .inr (0, [.ref r0, .ref (a 7)])), (r0, .inl (c0, 98, .inl fr_c)), ((a 7), .inr (5, [.ref (a 8), .ref (a 9), .int dv])), ((a 8), .inl ((k 8), 8, .inl fu)), ((a 9), .inl ((k 9), 48, .inl fp)), ((a 19), .inr (4, [.ref (a 20), .int nx_c, .int ph_c])), ((a 20), .inl ((k 20), 3920, .inl fq_c)), ((a 21), .inr (1, [.ref (a 22), .int tt_c])), ((a 22), .inl ((k 22), 300, .inl fd_c))]) [0, 1, 2, 3, 4, 5, 6, 7, 8, 9] rfl
                have hD9 := hD.sub (ws' := [((a 0), .inr (9, [.ref (a 1), .ref (a 3), .ref (a 4), .ref (a 7), .ref (a 10), .ref (a 14), .ref (a 16), .ref (a 18), .ref (a 19), .ref (a 21), .ref (a 23), .ref (a 25), .ref (a 27), .ref (a 28), .int hi])), (g, .inr (0, [.ref r0, .ref (a 7)])), (r0, .inl (c0, 98, .inl fr_c)), ((a 7), .inr (5, [.ref (a 8), .ref (a 9), .int dv])), ((a 8), .inl ((k 8), 8, .inl fu)), ((a 9), .inl ((k 9), 48, .inl fp)), ((a 19), .inr (4, [.ref (a 20), .int nx_c, .int ph_c])), ((a 20), .inl ((k 20), 3920, .inl fq_c)), ((a 21), .inr (1, [.ref (a 22), .int tt_c])), ((a 22), .inl ((k 22), 300, .inl fd_c))]) [0, 1, 2, 3, 4, 5, 6, 7, 8, 9] (by decide) rfl
                have hK9 := hK.sub (tys' := [(c0, .int), ((k 8), .int), ((k 9), .int), ((k 20), .int), ((k 22), .int)]) [0, 1, 2, 3, 4] rfl
                exact W.iret (v := (-1)) hx hb hr (fun t ht hW => ⟨⟨(-1), (), rfl, ⟨rfl, trivial⟩, by rw [ht]; exact hP9, va_K.moved hW.alike hK9, hD9⟩, hS.F ht⟩) hS.2.2 dX9_attempt_191
              · have hG := q_ifn c_80 hG
                refine lv_aload_n hx hb dX9_attempt_176 rfl (lv_at hl 2 rfl) ?_
                refine va_get (D := (dC, dI)) (ci := 9) (v := .ref (a 21)) (C := RX9) (T := TX9) (N := 15) hx hb hts iA_9 hown hK hP 0 rfl rfl 9 (by decide) (hts (.fieldLink RX9 73 "HubTree" "diary" "LHubTree$Diary;") (List.mem_cons_of_mem _ m_47)) (fun _ h9 => h9) rfl dX9_attempt_177 ?_
                refine lv_iload_n hx hb dX9_attempt_180 rfl (lv_at hl 5 rfl) ?_
                refine lv_iload hx hb dX9_attempt_181 (lv_at hl 6 rfl) ?_
                refine lv_aload_n hx hb dX9_attempt_183 rfl (lv_at hl 3 rfl) ?_
                obtain ⟨o_81, r_82, hG⟩ := q_bi hG
                refine q_goi (v := o_81) (va_runV (As := []) (rest := [.int z2, .int z1, .ref (a 21)]) ⟨hx, hb, hml, hown, hts⟩ (c_X0_running l dC dI g r0 (a 7) (a 8) (a 9) dv c0 fr_c (k 8) (k 9) fu fp o_81 r_82) (cwV 0 hts (q_gV m_876 m_877 m_878 m_33 m_879) rfl rfl rfl hdV_yX0_running_0 ⟨Nat.le_of_ble_eq_true rfl, Nat.le_of_ble_eq_true rfl⟩) (q_preV hK hP (q := (RX0, TX0, 2)) (ci := 0) (q0 := 1) rfl rfl [1, 2, 3, 4, 5] rfl [0, 1, 2] rfl) rfl rfl hl.1 rfl (lv_room (Nat.le_of_ble_eq_true rfl)) dX9_attempt_184 ⟨Nat.le_of_ble_eq_true rfl, Nat.le_of_ble_eq_true rfl⟩) hP hS (fun H locs hP hS => ?_)
                obtain ⟨o_83, r_84, hG⟩ := q_bi hG
                refine q_gov2 (wr := [((a 0), .inr (9, [.ref (a 1), .ref (a 3), .ref (a 4), .ref (a 7), .ref (a 10), .ref (a 14), .ref (a 16), .ref (a 18), .ref (a 19), .ref (a 21), .ref (a 23), .ref (a 25), .ref (a 27), .ref (a 28), .int hi])), (g, .inr (0, [.ref r0, .ref (a 7)])), (r0, .inl (c0, 98, .inl fr_c)), ((a 7), .inr (5, [.ref (a 8), .ref (a 9), .int dv])), ((a 8), .inl ((k 8), 8, .inl fu)), ((a 9), .inl ((k 9), 48, .inl fp)), ((a 19), .inr (4, [.ref (a 20), .int nx_c, .int ph_c])), ((a 20), .inl ((k 20), 3920, .inl fq_c))]) (va_runV (As := [.int z1, .int z2, .int o_81]) (rest := []) ⟨hx, hb, hml, hown, hts⟩ (c_X1_write l dC dI (a 21) (a 22) (k 22) fd_c tt_c z1 z2 o_81 (va_A [((a 21), .inr (1, [.ref (a 22), .int tt_c])), ((a 22), .inl ((k 22), 300, .inl fd_c))] H.size) o_83 r_84) (cwV 3 hts (q_gV m_885 m_886 m_887 m_46 m_888) rfl rfl rfl hdV_yX1_write_3 ⟨Nat.le_of_ble_eq_true rfl, Nat.le_of_ble_eq_true rfl⟩) (q_preWV hK hP hD (q := (RX1, TX1, 2)) (ci := 1) (q0 := 8) rfl rfl [8, 9] (by decide) rfl rfl [4] rfl) rfl rfl hl.1 rfl (lv_room (Nat.le_of_ble_eq_true rfl)) dX9_attempt_187 ⟨Nat.le_of_ble_eq_true rfl, Nat.le_of_ble_eq_true rfl⟩) hK hP hD hS hA [8, 9] [0, 1, 2, 3, 4, 5, 6, 7] rfl rfl (by decide) (by decide) (fun _ H locs _ hP hD hK9 hS => ?_)
                have hP : va_P (dC, dI) vwCl [((a 0), .inr (9, [.ref (a 1), .ref (a 3), .ref (a 4), .ref (a 7), .ref (a 10), .ref (a 14), .ref (a 16), .ref (a 18), .ref (a 19), .ref (a 21), .ref (a 23), .ref (a 25), .ref (a 27), .ref (a 28), .int hi])), (g, .inr (0, [.ref r0, .ref (a 7)])), (r0, .inl (c0, 98, .inl fr_c)), ((a 7), .inr (5, [.ref (a 8), .ref (a 9), .int dv])), ((a 8), .inl ((k 8), 8, .inl fu)), ((a 9), .inl ((k 9), 48, .inl fp)), ((a 19), .inr (4, [.ref (a 20), .int nx_c, .int ph_c])), ((a 20), .inl ((k 20), 3920, .inl fq_c)), ((a 21), .inr (1, [.ref (a 22), .int (o_83.2)])), ((a 22), .inl ((k 22), 300, .inl (o_83.1)))] H := hP.sub [0, 1, 2, 3, 4, 5, 6, 7, 8, 9] rfl
                have hD : va_D A [((a 0), .inr (9, [.ref (a 1), .ref (a 3), .ref (a 4), .ref (a 7), .ref (a 10), .ref (a 14), .ref (a 16), .ref (a 18), .ref (a 19), .ref (a 21), .ref (a 23), .ref (a 25), .ref (a 27), .ref (a 28), .int hi])), (g, .inr (0, [.ref r0, .ref (a 7)])), (r0, .inl (c0, 98, .inl fr_c)), ((a 7), .inr (5, [.ref (a 8), .ref (a 9), .int dv])), ((a 8), .inl ((k 8), 8, .inl fu)), ((a 9), .inl ((k 9), 48, .inl fp)), ((a 19), .inr (4, [.ref (a 20), .int nx_c, .int ph_c])), ((a 20), .inl ((k 20), 3920, .inl fq_c)), ((a 21), .inr (1, [.ref (a 22), .int (o_83.2)])), ((a 22), .inl ((k 22), 300, .inl (o_83.1)))] := hD.sub [0, 1, 2, 3, 4, 5, 6, 7, 8, 9] (by decide) rfl
                refine lv_iconst (v := (-1)) hx hb dX9_attempt_190 (by decide) ?_
                obtain rfl := Option.some.inj hG
                have hP9 := hP.sub (ws' := [((a 0), .inr (9, [.ref (a 1), .ref (a 3), .ref (a 4), .ref (a 7), .ref (a 10), .ref (a 14), .ref (a 16), .ref (a 18), .ref (a 19), .ref (a 21), .ref (a 23), .ref (a 25), .ref (a 27), .ref (a 28), .int hi])), (g, .inr (0, [.ref r0, .ref (a 7)])), (r0, .inl (c0, 98, .inl fr_c)), ((a 7), .inr (5, [.ref (a 8), .ref (a 9), .int dv])), ((a 8), .inl ((k 8), 8, .inl fu)), ((a 9), .inl ((k 9), 48, .inl fp)), ((a 19), .inr (4, [.ref (a 20), .int nx_c, .int ph_c])), ((a 20), .inl ((k 20), 3920, .inl fq_c)), ((a 21), .inr (1, [.ref (a 22), .int (o_83.2)])), ((a 22), .inl ((k 22), 300, .inl (o_83.1)))]) [0, 1, 2, 3, 4, 5, 6, 7, 8, 9] rfl
                have hD9 := hD.sub (ws' := [((a 0), .inr (9, [.ref (a 1), .ref (a 3), .ref (a 4), .ref (a 7), .ref (a 10), .ref (a 14), .ref (a 16), .ref (a 18), .ref (a 19), .ref (a 21), .ref (a 23), .ref (a 25), .ref (a 27), .ref (a 28), .int hi])), (g, .inr (0, [.ref r0, .ref (a 7)])), (r0, .inl (c0, 98, .inl fr_c)), ((a 7), .inr (5, [.ref (a 8), .ref (a 9), .int dv])), ((a 8), .inl ((k 8), 8, .inl fu)), ((a 9), .inl ((k 9), 48, .inl fp)), ((a 19), .inr (4, [.ref (a 20), .int nx_c, .int ph_c])), ((a 20), .inl ((k 20), 3920, .inl fq_c)), ((a 21), .inr (1, [.ref (a 22), .int (o_83.2)])), ((a 22), .inl ((k 22), 300, .inl (o_83.1)))]) [0, 1, 2, 3, 4, 5, 6, 7, 8, 9] (by decide) rfl
                have hK9 := hK.sub (tys' := [(c0, .int), ((k 8), .int), ((k 9), .int), ((k 20), .int), ((k 22), .int)]) [0, 1, 2, 3, 4] rfl
                exact W.iret (v := (-1)) hx hb hr (fun t ht hW => ⟨⟨(-1), (), rfl, ⟨rfl, trivial⟩, by rw [ht]; exact hP9, va_K.moved hW.alike hK9, hD9⟩, hS.F ht⟩) hS.2.2 dX9_attempt_191
            · have hG := q_ifn c_79 hG
              refine lv_aload_n hx hb dX9_attempt_104 rfl (lv_at hl 3 rfl) ?_
              obtain ⟨o_85, r_86, hG⟩ := q_bi hG
              refine q_gov2 (wr := [((a 0), .inr (9, [.ref (a 1), .ref (a 3), .ref (a 4), .ref (a 7), .ref (a 10), .ref (a 14), .ref (a 16), .ref (a 18), .ref (a 19), .ref (a 21), .ref (a 23), .ref (a 25), .ref (a 27), .ref (a 28), .int hi])), ((a 19), .inr (4, [.ref (a 20), .int nx_c, .int ph_c])), ((a 20), .inl ((k 20), 3920, .inl fq_c)), ((a 21), .inr (1, [.ref (a 22), .int tt_c])), ((a 22), .inl ((k 22), 300, .inl fd_c))]) (va_runV (As := []) (rest := []) ⟨hx, hb, hml, hown, hts⟩ (c_X0_passTick l dC dI g r0 (a 7) (a 8) (a 9) dv c0 fr_c (k 8) (k 9) fu fp (va_A [(g, .inr (0, [.ref r0, .ref (a 7)])), (r0, .inl (c0, 98, .inl fr_c)), ((a 7), .inr (5, [.ref (a 8), .ref (a 9), .int dv])), ((a 8), .inl ((k 8), 8, .inl fu)), ((a 9), .inl ((k 9), 48, .inl fp))] H.size) o_85 r_86) (cwV 0 hts (q_gV m_808 m_809 m_810 m_33 m_811) rfl rfl rfl hdV_yX0_passTick_0 ⟨Nat.le_of_ble_eq_true rfl, Nat.le_of_ble_eq_true rfl⟩) (q_preWV hK hP hD (q := (RX0, TX0, 2)) (ci := 0) (q0 := 1) rfl rfl [1, 2, 3, 4, 5] (by decide) rfl rfl [0, 1, 2] rfl) rfl rfl hl.1 rfl (lv_room (Nat.le_of_ble_eq_true rfl)) dX9_attempt_105 ⟨Nat.le_of_ble_eq_true rfl, Nat.le_of_ble_eq_true rfl⟩) hK hP hD hS hA [1, 2, 3, 4, 5] [0, 6, 7, 8, 9] rfl rfl (by decide) (by decide) (fun _ H locs _ hP hD hK9 hS => ?_)
              have hP : va_P (dC, dI) vwCl [((a 0), .inr (9, [.ref (a 1), .ref (a 3), .ref (a 4), .ref (a 7), .ref (a 10), .ref (a 14), .ref (a 16), .ref (a 18), .ref (a 19), .ref (a 21), .ref (a 23), .ref (a 25), .ref (a 27), .ref (a 28), .int hi])), (g, .inr (0, [.ref r0, .ref (a 7)])), (r0, .inl (c0, 98, .inl (o_85))), ((a 7), .inr (5, [.ref (a 8), .ref (a 9), .int dv])), ((a 8), .inl ((k 8), 8, .inl fu)), ((a 9), .inl ((k 9), 48, .inl fp)), ((a 19), .inr (4, [.ref (a 20), .int nx_c, .int ph_c])), ((a 20), .inl ((k 20), 3920, .inl fq_c)), ((a 21), .inr (1, [.ref (a 22), .int tt_c])), ((a 22), .inl ((k 22), 300, .inl fd_c))] H := hP.sub [0, 5, 6, 7, 8, 9, 1, 2, 3, 4] rfl
              have hD : va_D A [((a 0), .inr (9, [.ref (a 1), .ref (a 3), .ref (a 4), .ref (a 7), .ref (a 10), .ref (a 14), .ref (a 16), .ref (a 18), .ref (a 19), .ref (a 21), .ref (a 23), .ref (a 25), .ref (a 27), .ref (a 28), .int hi])), (g, .inr (0, [.ref r0, .ref (a 7)])), (r0, .inl (c0, 98, .inl (o_85))), ((a 7), .inr (5, [.ref (a 8), .ref (a 9), .int dv])), ((a 8), .inl ((k 8), 8, .inl fu)), ((a 9), .inl ((k 9), 48, .inl fp)), ((a 19), .inr (4, [.ref (a 20), .int nx_c, .int ph_c])), ((a 20), .inl ((k 20), 3920, .inl fq_c)), ((a 21), .inr (1, [.ref (a 22), .int tt_c])), ((a 22), .inl ((k 22), 300, .inl fd_c))] := hD.sub [0, 5, 6, 7, 8, 9, 1, 2, 3, 4] (by decide) rfl
              refine lv_iinc (v := (x8_97 + 1)) (lv' := [(8, .int (x8_97 + 1)), (7, .int x7_97), (0, .ref (a 0)), (1, .ref g), (2, .int z0), (3, .int z1), (4, .int z2), (5, .int z3), (6, .int z4)]) hx hb dX9_attempt_108 hl (k := 0) rfl (rfl) (by decide) rfl (fun ls hl => ?_)
              refine lv_goto (tgt := 97) hx hb dX9_attempt_111 (by decide) ?_
              exact ih_97 x7_97 (x8_97 + 1) nx_c ph_c tt_c (o_85) fq_c fd_c H locs ls hG hP hD hS (lv_sub hl [0, 1, 2, 3, 4, 5, 6, 7, 8] rfl)
        exact L_97 1000 o_1 0 (o_60.2.1) (o_60.2.2) tt fr (o_60.1) fd H locs ls hG hP hD hS hl
      have hG := q_ifn e_78 hG
      by_cases e_87 : z1 = 3
      · have hG := q_ifp e_87 hG
        refine lv_tableIn (off := 82) (tgt := 117) hx hb dX9_attempt_35 (by rw [e_87]; decide) (by rw [e_87]; decide) (by rw [e_87]; decide) (by decide) ?_
        refine lv_aload_n hx hb dX9_attempt_117 rfl (lv_at hl 2 rfl) ?_
        refine lv_iload hx hb dX9_attempt_118 (lv_at hl 5 rfl) ?_
        obtain ⟨o_88, r_89, hG⟩ := q_bi hG
        refine q_gov2 (wr := [((a 0), .inr (9, [.ref (a 1), .ref (a 3), .ref (a 4), .ref (a 7), .ref (a 10), .ref (a 14), .ref (a 16), .ref (a 18), .ref (a 19), .ref (a 21), .ref (a 23), .ref (a 25), .ref (a 27), .ref (a 28), .int hi])), ((a 19), .inr (4, [.ref (a 20), .int (o_60.2.1), .int (o_60.2.2)])), ((a 20), .inl ((k 20), 3920, .inl (o_60.1))), ((a 21), .inr (1, [.ref (a 22), .int tt])), ((a 22), .inl ((k 22), 300, .inl fd))]) (va_runV (As := [.int z2]) (rest := []) ⟨hx, hb, hml, hown, hts⟩ (c_X0_switchSupply l dC dI g r0 (a 7) (a 8) (a 9) dv c0 fr (k 8) (k 9) fu fp z2 (va_A [(g, .inr (0, [.ref r0, .ref (a 7)])), (r0, .inl (c0, 98, .inl fr)), ((a 7), .inr (5, [.ref (a 8), .ref (a 9), .int dv])), ((a 8), .inl ((k 8), 8, .inl fu)), ((a 9), .inl ((k 9), 48, .inl fp))] H.size) o_88 r_89) (cwV 1 hts (q_gV m_860 m_861 m_862 m_33 m_863) rfl rfl rfl hdV_yX0_switchSupply_1 ⟨Nat.le_of_ble_eq_true rfl, Nat.le_of_ble_eq_true rfl⟩) (q_preWV hK hP hD (q := (RX0, TX0, 2)) (ci := 0) (q0 := 1) rfl rfl [1, 2, 3, 4, 5] (by decide) rfl rfl [0, 1, 2] rfl) rfl rfl hl.1 rfl (lv_room (Nat.le_of_ble_eq_true rfl)) dX9_attempt_120 ⟨Nat.le_of_ble_eq_true rfl, Nat.le_of_ble_eq_true rfl⟩) hK hP hD hS hA [1, 2, 3, 4, 5] [0, 6, 7, 8, 9] rfl rfl (by decide) (by decide) (fun _ H locs _ hP hD hK9 hS => ?_)
        have hP : va_P (dC, dI) vwCl [((a 0), .inr (9, [.ref (a 1), .ref (a 3), .ref (a 4), .ref (a 7), .ref (a 10), .ref (a 14), .ref (a 16), .ref (a 18), .ref (a 19), .ref (a 21), .ref (a 23), .ref (a 25), .ref (a 27), .ref (a 28), .int hi])), (g, .inr (0, [.ref r0, .ref (a 7)])), (r0, .inl (c0, 98, .inl (o_88))), ((a 7), .inr (5, [.ref (a 8), .ref (a 9), .int dv])), ((a 8), .inl ((k 8), 8, .inl fu)), ((a 9), .inl ((k 9), 48, .inl fp)), ((a 19), .inr (4, [.ref (a 20), .int (o_60.2.1), .int (o_60.2.2)])), ((a 20), .inl ((k 20), 3920, .inl (o_60.1))), ((a 21), .inr (1, [.ref (a 22), .int tt])), ((a 22), .inl ((k 22), 300, .inl fd))] H := hP.sub [0, 5, 6, 7, 8, 9, 1, 2, 3, 4] rfl
        have hD : va_D A [((a 0), .inr (9, [.ref (a 1), .ref (a 3), .ref (a 4), .ref (a 7), .ref (a 10), .ref (a 14), .ref (a 16), .ref (a 18), .ref (a 19), .ref (a 21), .ref (a 23), .ref (a 25), .ref (a 27), .ref (a 28), .int hi])), (g, .inr (0, [.ref r0, .ref (a 7)])), (r0, .inl (c0, 98, .inl (o_88))), ((a 7), .inr (5, [.ref (a 8), .ref (a 9), .int dv])), ((a 8), .inl ((k 8), 8, .inl fu)), ((a 9), .inl ((k 9), 48, .inl fp)), ((a 19), .inr (4, [.ref (a 20), .int (o_60.2.1), .int (o_60.2.2)])), ((a 20), .inl ((k 20), 3920, .inl (o_60.1))), ((a 21), .inr (1, [.ref (a 22), .int tt])), ((a 22), .inl ((k 22), 300, .inl fd))] := hD.sub [0, 5, 6, 7, 8, 9, 1, 2, 3, 4] (by decide) rfl
        refine lv_goto (tgt := 172) hx hb dX9_attempt_123 (by decide) ?_
        refine lv_iload_n hx hb dX9_attempt_172 rfl (lv_at hl 3 rfl) ?_
        refine lv_if_eq (tgt := 190) hx hb dX9_attempt_173 (by decide) (fun c_90 => ?_) (fun c_90 => ?_)
        · have hG := q_ifp c_90 hG
          refine lv_iconst (v := (-1)) hx hb dX9_attempt_190 (by decide) ?_
          obtain rfl := Option.some.inj hG
          have hP9 := hP.sub (ws' := [((a 0), .inr (9, [.ref (a 1), .ref (a 3), .ref (a 4), .ref (a 7), .ref (a 10), .ref (a 14), .ref (a 16), .ref (a 18), .ref (a 19), .ref (a 21), .ref (a 23), .ref (a 25), .ref (a 27), .ref (a 28), .int hi])), (g, .inr (0, [.ref r0, .ref (a 7)])), (r0, .inl (c0, 98, .inl (o_88))), ((a 7), .inr (5, [.ref (a 8), .ref (a 9), .int dv])), ((a 8), .inl ((k 8), 8, .inl fu)), ((a 9), .inl ((k 9), 48, .inl fp)), ((a 19), .inr (4, [.ref (a 20), .int (o_60.2.1), .int (o_60.2.2)])), ((a 20), .inl ((k 20), 3920, .inl (o_60.1))), ((a 21), .inr (1, [.ref (a 22), .int tt])), ((a 22), .inl ((k 22), 300, .inl fd))]) [0, 1, 2, 3, 4, 5, 6, 7, 8, 9] rfl
          have hD9 := hD.sub (ws' := [((a 0), .inr (9, [.ref (a 1), .ref (a 3), .ref (a 4), .ref (a 7), .ref (a 10), .ref (a 14), .ref (a 16), .ref (a 18), .ref (a 19), .ref (a 21), .ref (a 23), .ref (a 25), .ref (a 27), .ref (a 28), .int hi])), (g, .inr (0, [.ref r0, .ref (a 7)])), (r0, .inl (c0, 98, .inl (o_88))), ((a 7), .inr (5, [.ref (a 8), .ref (a 9), .int dv])), ((a 8), .inl ((k 8), 8, .inl fu)), ((a 9), .inl ((k 9), 48, .inl fp)), ((a 19), .inr (4, [.ref (a 20), .int (o_60.2.1), .int (o_60.2.2)])), ((a 20), .inl ((k 20), 3920, .inl (o_60.1))), ((a 21), .inr (1, [.ref (a 22), .int tt])), ((a 22), .inl ((k 22), 300, .inl fd))]) [0, 1, 2, 3, 4, 5, 6, 7, 8, 9] (by decide) rfl
          have hK9 := hK.sub (tys' := [(c0, .int), ((k 8), .int), ((k 9), .int), ((k 20), .int), ((k 22), .int)]) [0, 1, 2, 3, 4] rfl
          exact W.iret (v := (-1)) hx hb hr (fun t ht hW => ⟨⟨(-1), (), rfl, ⟨rfl, trivial⟩, by rw [ht]; exact hP9, va_K.moved hW.alike hK9, hD9⟩, hS.F ht⟩) hS.2.2 dX9_attempt_191
        · have hG := q_ifn c_90 hG
          refine lv_aload_n hx hb dX9_attempt_176 rfl (lv_at hl 1 rfl) ?_
          refine va_get (D := (dC, dI)) (ci := 9) (v := .ref (a 21)) (C := RX9) (T := TX9) (N := 15) hx hb hts iA_9 hown hK hP 0 rfl rfl 9 (by decide) (hts (.fieldLink RX9 73 "HubTree" "diary" "LHubTree$Diary;") (List.mem_cons_of_mem _ m_47)) (fun _ h9 => h9) rfl dX9_attempt_177 ?_
          refine lv_iload_n hx hb dX9_attempt_180 rfl (lv_at hl 4 rfl) ?_
          refine lv_iload hx hb dX9_attempt_181 (lv_at hl 5 rfl) ?_
          refine lv_aload_n hx hb dX9_attempt_183 rfl (lv_at hl 2 rfl) ?_
          obtain ⟨o_91, r_92, hG⟩ := q_bi hG
          refine q_goi (v := o_91) (va_runV (As := []) (rest := [.int z2, .int z1, .ref (a 21)]) ⟨hx, hb, hml, hown, hts⟩ (c_X0_running l dC dI g r0 (a 7) (a 8) (a 9) dv c0 (o_88) (k 8) (k 9) fu fp o_91 r_92) (cwV 0 hts (q_gV m_876 m_877 m_878 m_33 m_879) rfl rfl rfl hdV_yX0_running_0 ⟨Nat.le_of_ble_eq_true rfl, Nat.le_of_ble_eq_true rfl⟩) (q_preV hK hP (q := (RX0, TX0, 2)) (ci := 0) (q0 := 1) rfl rfl [1, 2, 3, 4, 5] rfl [0, 1, 2] rfl) rfl rfl hl.1 rfl (lv_room (Nat.le_of_ble_eq_true rfl)) dX9_attempt_184 ⟨Nat.le_of_ble_eq_true rfl, Nat.le_of_ble_eq_true rfl⟩) hP hS (fun H locs hP hS => ?_)
          obtain ⟨o_93, r_94, hG⟩ := q_bi hG
          refine q_gov2 (wr := [((a 0), .inr (9, [.ref (a 1), .ref (a 3), .ref (a 4), .ref (a 7), .ref (a 10), .ref (a 14), .ref (a 16), .ref (a 18), .ref (a 19), .ref (a 21), .ref (a 23), .ref (a 25), .ref (a 27), .ref (a 28), .int hi])), (g, .inr (0, [.ref r0, .ref (a 7)])), (r0, .inl (c0, 98, .inl (o_88))), ((a 7), .inr (5, [.ref (a 8), .ref (a 9), .int dv])), ((a 8), .inl ((k 8), 8, .inl fu)), ((a 9), .inl ((k 9), 48, .inl fp)), ((a 19), .inr (4, [.ref (a 20), .int (o_60.2.1), .int (o_60.2.2)])), ((a 20), .inl ((k 20), 3920, .inl (o_60.1)))]) (va_runV (As := [.int z1, .int z2, .int o_91]) (rest := []) ⟨hx, hb, hml, hown, hts⟩ (c_X1_write l dC dI (a 21) (a 22) (k 22) fd tt z1 z2 o_91 (va_A [((a 21), .inr (1, [.ref (a 22), .int tt])), ((a 22), .inl ((k 22), 300, .inl fd))] H.size) o_93 r_94) (cwV 3 hts (q_gV m_885 m_886 m_887 m_46 m_888) rfl rfl rfl hdV_yX1_write_3 ⟨Nat.le_of_ble_eq_true rfl, Nat.le_of_ble_eq_true rfl⟩) (q_preWV hK hP hD (q := (RX1, TX1, 2)) (ci := 1) (q0 := 8) rfl rfl [8, 9] (by decide) rfl rfl [4] rfl) rfl rfl hl.1 rfl (lv_room (Nat.le_of_ble_eq_true rfl)) dX9_attempt_187 ⟨Nat.le_of_ble_eq_true rfl, Nat.le_of_ble_eq_true rfl⟩) hK hP hD hS hA [8, 9] [0, 1, 2, 3, 4, 5, 6, 7] rfl rfl (by decide) (by decide) (fun _ H locs _ hP hD hK9 hS => ?_)
          have hP : va_P (dC, dI) vwCl [((a 0), .inr (9, [.ref (a 1), .ref (a 3), .ref (a 4), .ref (a 7), .ref (a 10), .ref (a 14), .ref (a 16), .ref (a 18), .ref (a 19), .ref (a 21), .ref (a 23), .ref (a 25), .ref (a 27), .ref (a 28), .int hi])), (g, .inr (0, [.ref r0, .ref (a 7)])), (r0, .inl (c0, 98, .inl (o_88))), ((a 7), .inr (5, [.ref (a 8), .ref (a 9), .int dv])), ((a 8), .inl ((k 8), 8, .inl fu)), ((a 9), .inl ((k 9), 48, .inl fp)), ((a 19), .inr (4, [.ref (a 20), .int (o_60.2.1), .int (o_60.2.2)])), ((a 20), .inl ((k 20), 3920, .inl (o_60.1))), ((a 21), .inr (1, [.ref (a 22), .int (o_93.2)])), ((a 22), .inl ((k 22), 300, .inl (o_93.1)))] H := hP.sub [0, 1, 2, 3, 4, 5, 6, 7, 8, 9] rfl
          have hD : va_D A [((a 0), .inr (9, [.ref (a 1), .ref (a 3), .ref (a 4), .ref (a 7), .ref (a 10), .ref (a 14), .ref (a 16), .ref (a 18), .ref (a 19), .ref (a 21), .ref (a 23), .ref (a 25), .ref (a 27), .ref (a 28), .int hi])), (g, .inr (0, [.ref r0, .ref (a 7)])), (r0, .inl (c0, 98, .inl (o_88))), ((a 7), .inr (5, [.ref (a 8), .ref (a 9), .int dv])), ((a 8), .inl ((k 8), 8, .inl fu)), ((a 9), .inl ((k 9), 48, .inl fp)), ((a 19), .inr (4, [.ref (a 20), .int (o_60.2.1), .int (o_60.2.2)])), ((a 20), .inl ((k 20), 3920, .inl (o_60.1))), ((a 21), .inr (1, [.ref (a 22), .int (o_93.2)])), ((a 22), .inl ((k 22), 300, .inl (o_93.1)))] := hD.sub [0, 1, 2, 3, 4, 5, 6, 7, 8, 9] (by decide) rfl
          refine lv_iconst (v := (-1)) hx hb dX9_attempt_190 (by decide) ?_
          obtain rfl := Option.some.inj hG
          have hP9 := hP.sub (ws' := [((a 0), .inr (9, [.ref (a 1), .ref (a 3), .ref (a 4), .ref (a 7), .ref (a 10), .ref (a 14), .ref (a 16), .ref (a 18), .ref (a 19), .ref (a 21), .ref (a 23), .ref (a 25), .ref (a 27), .ref (a 28), .int hi])), (g, .inr (0, [.ref r0, .ref (a 7)])), (r0, .inl (c0, 98, .inl (o_88))), ((a 7), .inr (5, [.ref (a 8), .ref (a 9), .int dv])), ((a 8), .inl ((k 8), 8, .inl fu)), ((a 9), .inl ((k 9), 48, .inl fp)), ((a 19), .inr (4, [.ref (a 20), .int (o_60.2.1), .int (o_60.2.2)])), ((a 20), .inl ((k 20), 3920, .inl (o_60.1))), ((a 21), .inr (1, [.ref (a 22), .int (o_93.2)])), ((a 22), .inl ((k 22), 300, .inl (o_93.1)))]) [0, 1, 2, 3, 4, 5, 6, 7, 8, 9] rfl
          have hD9 := hD.sub (ws' := [((a 0), .inr (9, [.ref (a 1), .ref (a 3), .ref (a 4), .ref (a 7), .ref (a 10), .ref (a 14), .ref (a 16), .ref (a 18), .ref (a 19), .ref (a 21), .ref (a 23), .ref (a 25), .ref (a 27), .ref (a 28), .int hi])), (g, .inr (0, [.ref r0, .ref (a 7)])), (r0, .inl (c0, 98, .inl (o_88))), ((a 7), .inr (5, [.ref (a 8), .ref (a 9), .int dv])), ((a 8), .inl ((k 8), 8, .inl fu)), ((a 9), .inl ((k 9), 48, .inl fp)), ((a 19), .inr (4, [.ref (a 20), .int (o_60.2.1), .int (o_60.2.2)])), ((a 20), .inl ((k 20), 3920, .inl (o_60.1))), ((a 21), .inr (1, [.ref (a 22), .int (o_93.2)])), ((a 22), .inl ((k 22), 300, .inl (o_93.1)))]) [0, 1, 2, 3, 4, 5, 6, 7, 8, 9] (by decide) rfl
          have hK9 := hK.sub (tys' := [(c0, .int), ((k 8), .int), ((k 9), .int), ((k 20), .int), ((k 22), .int)]) [0, 1, 2, 3, 4] rfl
          exact W.iret (v := (-1)) hx hb hr (fun t ht hW => ⟨⟨(-1), (), rfl, ⟨rfl, trivial⟩, by rw [ht]; exact hP9, va_K.moved hW.alike hK9, hD9⟩, hS.F ht⟩) hS.2.2 dX9_attempt_191
      have hG := q_ifn e_87 hG
      by_cases e_95 : z1 = 4
      · have hG := q_ifp e_95 hG
        refine lv_tableIn (off := 91) (tgt := 126) hx hb dX9_attempt_35 (by rw [e_95]; decide) (by rw [e_95]; decide) (by rw [e_95]; decide) (by decide) ?_
        refine lv_aload_n hx hb dX9_attempt_126 rfl (lv_at hl 2 rfl) ?_
        refine va_get (D := (dC, dI)) (ci := 0) (v := .ref r0) (C := RX0) (T := TX0) (N := 2) hx hb hts iA_0 hown hK hP 1 rfl rfl 0 (by decide) (hts (.fieldLink RX9 157 "HubTree$Bus" "row" "[I") (List.mem_cons_of_mem _ m_462)) (fun _ h9 => h9) rfl dX9_attempt_127 ?_
        refine lv_bipush (v := 80) hx hb dX9_attempt_130 (by decide) ?_
        refine lv_iload hx hb dX9_attempt_132 (lv_at hl 5 rfl) ?_
        refine lv_iadd hx hb dX9_attempt_134 ?_
        refine lv_iload hx hb dX9_attempt_135 (lv_at hl 6 rfl) ?_
        obtain ⟨h_96, hG⟩ := q_ix hG
        refine va_iast hx hb hK hP hD hS 2 0 rfl rfl (i := (80 + z2)) (x := z3) h_96 dX9_attempt_137 (fun H locs hP hD hS => ?_)
        have hP : va_P (dC, dI) vwCl [((a 0), .inr (9, [.ref (a 1), .ref (a 3), .ref (a 4), .ref (a 7), .ref (a 10), .ref (a 14), .ref (a 16), .ref (a 18), .ref (a 19), .ref (a 21), .ref (a 23), .ref (a 25), .ref (a 27), .ref (a 28), .int hi])), (g, .inr (0, [.ref r0, .ref (a 7)])), (r0, .inl (c0, 98, .inl (upd fr (80 + z2).toNatClampNeg z3))), ((a 7), .inr (5, [.ref (a 8), .ref (a 9), .int dv])), ((a 8), .inl ((k 8), 8, .inl fu)), ((a 9), .inl ((k 9), 48, .inl fp)), ((a 19), .inr (4, [.ref (a 20), .int (o_60.2.1), .int (o_60.2.2)])), ((a 20), .inl ((k 20), 3920, .inl (o_60.1))), ((a 21), .inr (1, [.ref (a 22), .int tt])), ((a 22), .inl ((k 22), 300, .inl fd))] H := hP
        have hD : va_D A [((a 0), .inr (9, [.ref (a 1), .ref (a 3), .ref (a 4), .ref (a 7), .ref (a 10), .ref (a 14), .ref (a 16), .ref (a 18), .ref (a 19), .ref (a 21), .ref (a 23), .ref (a 25), .ref (a 27), .ref (a 28), .int hi])), (g, .inr (0, [.ref r0, .ref (a 7)])), (r0, .inl (c0, 98, .inl (upd fr (80 + z2).toNatClampNeg z3))), ((a 7), .inr (5, [.ref (a 8), .ref (a 9), .int dv])), ((a 8), .inl ((k 8), 8, .inl fu)), ((a 9), .inl ((k 9), 48, .inl fp)), ((a 19), .inr (4, [.ref (a 20), .int (o_60.2.1), .int (o_60.2.2)])), ((a 20), .inl ((k 20), 3920, .inl (o_60.1))), ((a 21), .inr (1, [.ref (a 22), .int tt])), ((a 22), .inl ((k 22), 300, .inl fd))] := hD
        refine lv_goto (tgt := 172) hx hb dX9_attempt_138 (by decide) ?_
        refine lv_iload_n hx hb dX9_attempt_172 rfl (lv_at hl 3 rfl) ?_
        refine lv_if_eq (tgt := 190) hx hb dX9_attempt_173 (by decide) (fun c_97 => ?_) (fun c_97 => ?_)
        · have hG := q_ifp c_97 hG
          refine lv_iconst (v := (-1)) hx hb dX9_attempt_190 (by decide) ?_
          obtain rfl := Option.some.inj hG
          have hP9 := hP.sub (ws' := [((a 0), .inr (9, [.ref (a 1), .ref (a 3), .ref (a 4), .ref (a 7), .ref (a 10), .ref (a 14), .ref (a 16), .ref (a 18), .ref (a 19), .ref (a 21), .ref (a 23), .ref (a 25), .ref (a 27), .ref (a 28), .int hi])), (g, .inr (0, [.ref r0, .ref (a 7)])), (r0, .inl (c0, 98, .inl (upd fr (80 + z2).toNatClampNeg z3))), ((a 7), .inr (5, [.ref (a 8), .ref (a 9), .int dv])), ((a 8), .inl ((k 8), 8, .inl fu)), ((a 9), .inl ((k 9), 48, .inl fp)), ((a 19), .inr (4, [.ref (a 20), .int (o_60.2.1), .int (o_60.2.2)])), ((a 20), .inl ((k 20), 3920, .inl (o_60.1))), ((a 21), .inr (1, [.ref (a 22), .int tt])), ((a 22), .inl ((k 22), 300, .inl fd))]) [0, 1, 2, 3, 4, 5, 6, 7, 8, 9] rfl
          have hD9 := hD.sub (ws' := [((a 0), .inr (9, [.ref (a 1), .ref (a 3), .ref (a 4), .ref (a 7), .ref (a 10), .ref (a 14), .ref (a 16), .ref (a 18), .ref (a 19), .ref (a 21), .ref (a 23), .ref (a 25), .ref (a 27), .ref (a 28), .int hi])), (g, .inr (0, [.ref r0, .ref (a 7)])), (r0, .inl (c0, 98, .inl (upd fr (80 + z2).toNatClampNeg z3))), ((a 7), .inr (5, [.ref (a 8), .ref (a 9), .int dv])), ((a 8), .inl ((k 8), 8, .inl fu)), ((a 9), .inl ((k 9), 48, .inl fp)), ((a 19), .inr (4, [.ref (a 20), .int (o_60.2.1), .int (o_60.2.2)])), ((a 20), .inl ((k 20), 3920, .inl (o_60.1))), ((a 21), .inr (1, [.ref (a 22), .int tt])), ((a 22), .inl ((k 22), 300, .inl fd))]) [0, 1, 2, 3, 4, 5, 6, 7, 8, 9] (by decide) rfl
          have hK9 := hK.sub (tys' := [(c0, .int), ((k 8), .int), ((k 9), .int), ((k 20), .int), ((k 22), .int)]) [0, 1, 2, 3, 4] rfl
          exact W.iret (v := (-1)) hx hb hr (fun t ht hW => ⟨⟨(-1), (), rfl, ⟨rfl, trivial⟩, by rw [ht]; exact hP9, va_K.moved hW.alike hK9, hD9⟩, hS.F ht⟩) hS.2.2 dX9_attempt_191
        · have hG := q_ifn c_97 hG
          refine lv_aload_n hx hb dX9_attempt_176 rfl (lv_at hl 1 rfl) ?_
          refine va_get (D := (dC, dI)) (ci := 9) (v := .ref (a 21)) (C := RX9) (T := TX9) (N := 15) hx hb hts iA_9 hown hK hP 0 rfl rfl 9 (by decide) (hts (.fieldLink RX9 73 "HubTree" "diary" "LHubTree$Diary;") (List.mem_cons_of_mem _ m_47)) (fun _ h9 => h9) rfl dX9_attempt_177 ?_
          refine lv_iload_n hx hb dX9_attempt_180 rfl (lv_at hl 4 rfl) ?_
          refine lv_iload hx hb dX9_attempt_181 (lv_at hl 5 rfl) ?_
          refine lv_aload_n hx hb dX9_attempt_183 rfl (lv_at hl 2 rfl) ?_
          obtain ⟨o_98, r_99, hG⟩ := q_bi hG
          refine q_goi (v := o_98) (va_runV (As := []) (rest := [.int z2, .int z1, .ref (a 21)]) ⟨hx, hb, hml, hown, hts⟩ (c_X0_running l dC dI g r0 (a 7) (a 8) (a 9) dv c0 (upd fr (80 + z2).toNatClampNeg z3) (k 8) (k 9) fu fp o_98 r_99) (cwV 0 hts (q_gV m_876 m_877 m_878 m_33 m_879) rfl rfl rfl hdV_yX0_running_0 ⟨Nat.le_of_ble_eq_true rfl, Nat.le_of_ble_eq_true rfl⟩) (q_preV hK hP (q := (RX0, TX0, 2)) (ci := 0) (q0 := 1) rfl rfl [1, 2, 3, 4, 5] rfl [0, 1, 2] rfl) rfl rfl hl.1 rfl (lv_room (Nat.le_of_ble_eq_true rfl)) dX9_attempt_184 ⟨Nat.le_of_ble_eq_true rfl, Nat.le_of_ble_eq_true rfl⟩) hP hS (fun H locs hP hS => ?_)
          obtain ⟨o_100, r_101, hG⟩ := q_bi hG
          refine q_gov2 (wr := [((a 0), .inr (9, [.ref (a 1), .ref (a 3), .ref (a 4), .ref (a 7), .ref (a 10), .ref (a 14), .ref (a 16), .ref (a 18), .ref (a 19), .ref (a 21), .ref (a 23), .ref (a 25), .ref (a 27), .ref (a 28), .int hi])), (g, .inr (0, [.ref r0, .ref (a 7)])), (r0, .inl (c0, 98, .inl (upd fr (80 + z2).toNatClampNeg z3))), ((a 7), .inr (5, [.ref (a 8), .ref (a 9), .int dv])), ((a 8), .inl ((k 8), 8, .inl fu)), ((a 9), .inl ((k 9), 48, .inl fp)), ((a 19), .inr (4, [.ref (a 20), .int (o_60.2.1), .int (o_60.2.2)])), ((a 20), .inl ((k 20), 3920, .inl (o_60.1)))]) (va_runV (As := [.int z1, .int z2, .int o_98]) (rest := []) ⟨hx, hb, hml, hown, hts⟩ (c_X1_write l dC dI (a 21) (a 22) (k 22) fd tt z1 z2 o_98 (va_A [((a 21), .inr (1, [.ref (a 22), .int tt])), ((a 22), .inl ((k 22), 300, .inl fd))] H.size) o_100 r_101) (cwV 3 hts (q_gV m_885 m_886 m_887 m_46 m_888) rfl rfl rfl hdV_yX1_write_3 ⟨Nat.le_of_ble_eq_true rfl, Nat.le_of_ble_eq_true rfl⟩) (q_preWV hK hP hD (q := (RX1, TX1, 2)) (ci := 1) (q0 := 8) rfl rfl [8, 9] (by decide) rfl rfl [4] rfl) rfl rfl hl.1 rfl (lv_room (Nat.le_of_ble_eq_true rfl)) dX9_attempt_187 ⟨Nat.le_of_ble_eq_true rfl, Nat.le_of_ble_eq_true rfl⟩) hK hP hD hS hA [8, 9] [0, 1, 2, 3, 4, 5, 6, 7] rfl rfl (by decide) (by decide) (fun _ H locs _ hP hD hK9 hS => ?_)
          have hP : va_P (dC, dI) vwCl [((a 0), .inr (9, [.ref (a 1), .ref (a 3), .ref (a 4), .ref (a 7), .ref (a 10), .ref (a 14), .ref (a 16), .ref (a 18), .ref (a 19), .ref (a 21), .ref (a 23), .ref (a 25), .ref (a 27), .ref (a 28), .int hi])), (g, .inr (0, [.ref r0, .ref (a 7)])), (r0, .inl (c0, 98, .inl (upd fr (80 + z2).toNatClampNeg z3))), ((a 7), .inr (5, [.ref (a 8), .ref (a 9), .int dv])), ((a 8), .inl ((k 8), 8, .inl fu)), ((a 9), .inl ((k 9), 48, .inl fp)), ((a 19), .inr (4, [.ref (a 20), .int (o_60.2.1), .int (o_60.2.2)])), ((a 20), .inl ((k 20), 3920, .inl (o_60.1))), ((a 21), .inr (1, [.ref (a 22), .int (o_100.2)])), ((a 22), .inl ((k 22), 300, .inl (o_100.1)))] H := hP.sub [0, 1, 2, 3, 4, 5, 6, 7, 8, 9] rfl
          have hD : va_D A [((a 0), .inr (9, [.ref (a 1), .ref (a 3), .ref (a 4), .ref (a 7), .ref (a 10), .ref (a 14), .ref (a 16), .ref (a 18), .ref (a 19), .ref (a 21), .ref (a 23), .ref (a 25), .ref (a 27), .ref (a 28), .int hi])), (g, .inr (0, [.ref r0, .ref (a 7)])), (r0, .inl (c0, 98, .inl (upd fr (80 + z2).toNatClampNeg z3))), ((a 7), .inr (5, [.ref (a 8), .ref (a 9), .int dv])), ((a 8), .inl ((k 8), 8, .inl fu)), ((a 9), .inl ((k 9), 48, .inl fp)), ((a 19), .inr (4, [.ref (a 20), .int (o_60.2.1), .int (o_60.2.2)])), ((a 20), .inl ((k 20), 3920, .inl (o_60.1))), ((a 21), .inr (1, [.ref (a 22), .int (o_100.2)])), ((a 22), .inl ((k 22), 300, .inl (o_100.1)))] := hD.sub [0, 1, 2, 3, 4, 5, 6, 7, 8, 9] (by decide) rfl
          refine lv_iconst (v := (-1)) hx hb dX9_attempt_190 (by decide) ?_
          obtain rfl := Option.some.inj hG
          have hP9 := hP.sub (ws' := [((a 0), .inr (9, [.ref (a 1), .ref (a 3), .ref (a 4), .ref (a 7), .ref (a 10), .ref (a 14), .ref (a 16), .ref (a 18), .ref (a 19), .ref (a 21), .ref (a 23), .ref (a 25), .ref (a 27), .ref (a 28), .int hi])), (g, .inr (0, [.ref r0, .ref (a 7)])), (r0, .inl (c0, 98, .inl (upd fr (80 + z2).toNatClampNeg z3))), ((a 7), .inr (5, [.ref (a 8), .ref (a 9), .int dv])), ((a 8), .inl ((k 8), 8, .inl fu)), ((a 9), .inl ((k 9), 48, .inl fp)), ((a 19), .inr (4, [.ref (a 20), .int (o_60.2.1), .int (o_60.2.2)])), ((a 20), .inl ((k 20), 3920, .inl (o_60.1))), ((a 21), .inr (1, [.ref (a 22), .int (o_100.2)])), ((a 22), .inl ((k 22), 300, .inl (o_100.1)))]) [0, 1, 2, 3, 4, 5, 6, 7, 8, 9] rfl
          have hD9 := hD.sub (ws' := [((a 0), .inr (9, [.ref (a 1), .ref (a 3), .ref (a 4), .ref (a 7), .ref (a 10), .ref (a 14), .ref (a 16), .ref (a 18), .ref (a 19), .ref (a 21), .ref (a 23), .ref (a 25), .ref (a 27), .ref (a 28), .int hi])), (g, .inr (0, [.ref r0, .ref (a 7)])), (r0, .inl (c0, 98, .inl (upd fr (80 + z2).toNatClampNeg z3))), ((a 7), .inr (5, [.ref (a 8), .ref (a 9), .int dv])), ((a 8), .inl ((k 8), 8, .inl fu)), ((a 9), .inl ((k 9), 48, .inl fp)), ((a 19), .inr (4, [.ref (a 20), .int (o_60.2.1), .int (o_60.2.2)])), ((a 20), .inl ((k 20), 3920, .inl (o_60.1))), ((a 21), .inr (1, [.ref (a 22), .int (o_100.2)])), ((a 22), .inl ((k 22), 300, .inl (o_100.1)))]) [0, 1, 2, 3, 4, 5, 6, 7, 8, 9] (by decide) rfl
          have hK9 := hK.sub (tys' := [(c0, .int), ((k 8), .int), ((k 9), .int), ((k 20), .int), ((k 22), .int)]) [0, 1, 2, 3, 4] rfl
          exact W.iret (v := (-1)) hx hb hr (fun t ht hW => ⟨⟨(-1), (), rfl, ⟨rfl, trivial⟩, by rw [ht]; exact hP9, va_K.moved hW.alike hK9, hD9⟩, hS.F ht⟩) hS.2.2 dX9_attempt_191
      have hG := q_ifn e_95 hG
      by_cases e_102 : z1 = 5
      · have hG := q_ifp e_102 hG
        refine lv_tableIn (off := 106) (tgt := 141) hx hb dX9_attempt_35 (by rw [e_102]; decide) (by rw [e_102]; decide) (by rw [e_102]; decide) (by decide) ?_
        refine lv_aload_n hx hb dX9_attempt_141 rfl (lv_at hl 2 rfl) ?_
        refine lv_iload hx hb dX9_attempt_142 (lv_at hl 5 rfl) ?_
        obtain ⟨o_103, r_104, hG⟩ := q_bi hG
        refine q_gov2 (wr := [((a 0), .inr (9, [.ref (a 1), .ref (a 3), .ref (a 4), .ref (a 7), .ref (a 10), .ref (a 14), .ref (a 16), .ref (a 18), .ref (a 19), .ref (a 21), .ref (a 23), .ref (a 25), .ref (a 27), .ref (a 28), .int hi])), ((a 19), .inr (4, [.ref (a 20), .int (o_60.2.1), .int (o_60.2.2)])), ((a 20), .inl ((k 20), 3920, .inl (o_60.1))), ((a 21), .inr (1, [.ref (a 22), .int tt])), ((a 22), .inl ((k 22), 300, .inl fd))]) (va_runV (As := [.int z2]) (rest := []) ⟨hx, hb, hml, hown, hts⟩ (c_X0_queueAfresh l dC dI g r0 (a 7) (a 8) (a 9) dv c0 fr (k 8) (k 9) fu fp z2 (va_A [(g, .inr (0, [.ref r0, .ref (a 7)])), (r0, .inl (c0, 98, .inl fr)), ((a 7), .inr (5, [.ref (a 8), .ref (a 9), .int dv])), ((a 8), .inl ((k 8), 8, .inl fu)), ((a 9), .inl ((k 9), 48, .inl fp))] H.size) o_103 r_104) (cwV 1 hts (q_gV m_872 m_873 m_874 m_33 m_875) rfl rfl rfl hdV_yX0_queueAfresh_1 ⟨Nat.le_of_ble_eq_true rfl, Nat.le_of_ble_eq_true rfl⟩) (q_preWV hK hP hD (q := (RX0, TX0, 2)) (ci := 0) (q0 := 1) rfl rfl [1, 2, 3, 4, 5] (by decide) rfl rfl [0, 1, 2] rfl) rfl rfl hl.1 rfl (lv_room (Nat.le_of_ble_eq_true rfl)) dX9_attempt_144 ⟨Nat.le_of_ble_eq_true rfl, Nat.le_of_ble_eq_true rfl⟩) hK hP hD hS hA [1, 2, 3, 4, 5] [0, 6, 7, 8, 9] rfl rfl (by decide) (by decide) (fun _ H locs _ hP hD hK9 hS => ?_)
        have hP : va_P (dC, dI) vwCl [((a 0), .inr (9, [.ref (a 1), .ref (a 3), .ref (a 4), .ref (a 7), .ref (a 10), .ref (a 14), .ref (a 16), .ref (a 18), .ref (a 19), .ref (a 21), .ref (a 23), .ref (a 25), .ref (a 27), .ref (a 28), .int hi])), (g, .inr (0, [.ref r0, .ref (a 7)])), (r0, .inl (c0, 98, .inl (o_103))), ((a 7), .inr (5, [.ref (a 8), .ref (a 9), .int dv])), ((a 8), .inl ((k 8), 8, .inl fu)), ((a 9), .inl ((k 9), 48, .inl fp)), ((a 19), .inr (4, [.ref (a 20), .int (o_60.2.1), .int (o_60.2.2)])), ((a 20), .inl ((k 20), 3920, .inl (o_60.1))), ((a 21), .inr (1, [.ref (a 22), .int tt])), ((a 22), .inl ((k 22), 300, .inl fd))] H := hP.sub [0, 5, 6, 7, 8, 9, 1, 2, 3, 4] rfl
        have hD : va_D A [((a 0), .inr (9, [.ref (a 1), .ref (a 3), .ref (a 4), .ref (a 7), .ref (a 10), .ref (a 14), .ref (a 16), .ref (a 18), .ref (a 19), .ref (a 21), .ref (a 23), .ref (a 25), .ref (a 27), .ref (a 28), .int hi])), (g, .inr (0, [.ref r0, .ref (a 7)])), (r0, .inl (c0, 98, .inl (o_103))), ((a 7), .inr (5, [.ref (a 8), .ref (a 9), .int dv])), ((a 8), .inl ((k 8), 8, .inl fu)), ((a 9), .inl ((k 9), 48, .inl fp)), ((a 19), .inr (4, [.ref (a 20), .int (o_60.2.1), .int (o_60.2.2)])), ((a 20), .inl ((k 20), 3920, .inl (o_60.1))), ((a 21), .inr (1, [.ref (a 22), .int tt])), ((a 22), .inl ((k 22), 300, .inl fd))] := hD.sub [0, 5, 6, 7, 8, 9, 1, 2, 3, 4] (by decide) rfl
        refine lv_goto (tgt := 172) hx hb dX9_attempt_147 (by decide) ?_
        refine lv_iload_n hx hb dX9_attempt_172 rfl (lv_at hl 3 rfl) ?_
        refine lv_if_eq (tgt := 190) hx hb dX9_attempt_173 (by decide) (fun c_105 => ?_) (fun c_105 => ?_)
        · have hG := q_ifp c_105 hG
          refine lv_iconst (v := (-1)) hx hb dX9_attempt_190 (by decide) ?_
          obtain rfl := Option.some.inj hG
          have hP9 := hP.sub (ws' := [((a 0), .inr (9, [.ref (a 1), .ref (a 3), .ref (a 4), .ref (a 7), .ref (a 10), .ref (a 14), .ref (a 16), .ref (a 18), .ref (a 19), .ref (a 21), .ref (a 23), .ref (a 25), .ref (a 27), .ref (a 28), .int hi])), (g, .inr (0, [.ref r0, .ref (a 7)])), (r0, .inl (c0, 98, .inl (o_103))), ((a 7), .inr (5, [.ref (a 8), .ref (a 9), .int dv])), ((a 8), .inl ((k 8), 8, .inl fu)), ((a 9), .inl ((k 9), 48, .inl fp)), ((a 19), .inr (4, [.ref (a 20), .int (o_60.2.1), .int (o_60.2.2)])), ((a 20), .inl ((k 20), 3920, .inl (o_60.1))), ((a 21), .inr (1, [.ref (a 22), .int tt])), ((a 22), .inl ((k 22), 300, .inl fd))]) [0, 1, 2, 3, 4, 5, 6, 7, 8, 9] rfl
          have hD9 := hD.sub (ws' := [((a 0), .inr (9, [.ref (a 1), .ref (a 3), .ref (a 4), .ref (a 7), .ref (a 10), .ref (a 14), .ref (a 16), .ref (a 18), .ref (a 19), .ref (a 21), .ref (a 23), .ref (a 25), .ref (a 27), .ref (a 28), .int hi])), (g, .inr (0, [.ref r0, .ref (a 7)])), (r0, .inl (c0, 98, .inl (o_103))), ((a 7), .inr (5, [.ref (a 8), .ref (a 9), .int dv])), ((a 8), .inl ((k 8), 8, .inl fu)), ((a 9), .inl ((k 9), 48, .inl fp)), ((a 19), .inr (4, [.ref (a 20), .int (o_60.2.1), .int (o_60.2.2)])), ((a 20), .inl ((k 20), 3920, .inl (o_60.1))), ((a 21), .inr (1, [.ref (a 22), .int tt])), ((a 22), .inl ((k 22), 300, .inl fd))]) [0, 1, 2, 3, 4, 5, 6, 7, 8, 9] (by decide) rfl
          have hK9 := hK.sub (tys' := [(c0, .int), ((k 8), .int), ((k 9), .int), ((k 20), .int), ((k 22), .int)]) [0, 1, 2, 3, 4] rfl
          exact W.iret (v := (-1)) hx hb hr (fun t ht hW => ⟨⟨(-1), (), rfl, ⟨rfl, trivial⟩, by rw [ht]; exact hP9, va_K.moved hW.alike hK9, hD9⟩, hS.F ht⟩) hS.2.2 dX9_attempt_191
        · have hG := q_ifn c_105 hG
          refine lv_aload_n hx hb dX9_attempt_176 rfl (lv_at hl 1 rfl) ?_
          refine va_get (D := (dC, dI)) (ci := 9) (v := .ref (a 21)) (C := RX9) (T := TX9) (N := 15) hx hb hts iA_9 hown hK hP 0 rfl rfl 9 (by decide) (hts (.fieldLink RX9 73 "HubTree" "diary" "LHubTree$Diary;") (List.mem_cons_of_mem _ m_47)) (fun _ h9 => h9) rfl dX9_attempt_177 ?_
          refine lv_iload_n hx hb dX9_attempt_180 rfl (lv_at hl 4 rfl) ?_
          refine lv_iload hx hb dX9_attempt_181 (lv_at hl 5 rfl) ?_
          refine lv_aload_n hx hb dX9_attempt_183 rfl (lv_at hl 2 rfl) ?_
          obtain ⟨o_106, r_107, hG⟩ := q_bi hG
          refine q_goi (v := o_106) (va_runV (As := []) (rest := [.int z2, .int z1, .ref (a 21)]) ⟨hx, hb, hml, hown, hts⟩ (c_X0_running l dC dI g r0 (a 7) (a 8) (a 9) dv c0 (o_103) (k 8) (k 9) fu fp o_106 r_107) (cwV 0 hts (q_gV m_876 m_877 m_878 m_33 m_879) rfl rfl rfl hdV_yX0_running_0 ⟨Nat.le_of_ble_eq_true rfl, Nat.le_of_ble_eq_true rfl⟩) (q_preV hK hP (q := (RX0, TX0, 2)) (ci := 0) (q0 := 1) rfl rfl [1, 2, 3, 4, 5] rfl [0, 1, 2] rfl) rfl rfl hl.1 rfl (lv_room (Nat.le_of_ble_eq_true rfl)) dX9_attempt_184 ⟨Nat.le_of_ble_eq_true rfl, Nat.le_of_ble_eq_true rfl⟩) hP hS (fun H locs hP hS => ?_)
          obtain ⟨o_108, r_109, hG⟩ := q_bi hG
          refine q_gov2 (wr := [((a 0), .inr (9, [.ref (a 1), .ref (a 3), .ref (a 4), .ref (a 7), .ref (a 10), .ref (a 14), .ref (a 16), .ref (a 18), .ref (a 19), .ref (a 21), .ref (a 23), .ref (a 25), .ref (a 27), .ref (a 28), .int hi])), (g, .inr (0, [.ref r0, .ref (a 7)])), (r0, .inl (c0, 98, .inl (o_103))), ((a 7), .inr (5, [.ref (a 8), .ref (a 9), .int dv])), ((a 8), .inl ((k 8), 8, .inl fu)), ((a 9), .inl ((k 9), 48, .inl fp)), ((a 19), .inr (4, [.ref (a 20), .int (o_60.2.1), .int (o_60.2.2)])), ((a 20), .inl ((k 20), 3920, .inl (o_60.1)))]) (va_runV (As := [.int z1, .int z2, .int o_106]) (rest := []) ⟨hx, hb, hml, hown, hts⟩ (c_X1_write l dC dI (a 21) (a 22) (k 22) fd tt z1 z2 o_106 (va_A [((a 21), .inr (1, [.ref (a 22), .int tt])), ((a 22), .inl ((k 22), 300, .inl fd))] H.size) o_108 r_109) (cwV 3 hts (q_gV m_885 m_886 m_887 m_46 m_888) rfl rfl rfl hdV_yX1_write_3 ⟨Nat.le_of_ble_eq_true rfl, Nat.le_of_ble_eq_true rfl⟩) (q_preWV hK hP hD (q := (RX1, TX1, 2)) (ci := 1) (q0 := 8) rfl rfl [8, 9] (by decide) rfl rfl [4] rfl) rfl rfl hl.1 rfl (lv_room (Nat.le_of_ble_eq_true rfl)) dX9_attempt_187 ⟨Nat.le_of_ble_eq_true rfl, Nat.le_of_ble_eq_true rfl⟩) hK hP hD hS hA [8, 9] [0, 1, 2, 3, 4, 5, 6, 7] rfl rfl (by decide) (by decide) (fun _ H locs _ hP hD hK9 hS => ?_)
          have hP : va_P (dC, dI) vwCl [((a 0), .inr (9, [.ref (a 1), .ref (a 3), .ref (a 4), .ref (a 7), .ref (a 10), .ref (a 14), .ref (a 16), .ref (a 18), .ref (a 19), .ref (a 21), .ref (a 23), .ref (a 25), .ref (a 27), .ref (a 28), .int hi])), (g, .inr (0, [.ref r0, .ref (a 7)])), (r0, .inl (c0, 98, .inl (o_103))), ((a 7), .inr (5, [.ref (a 8), .ref (a 9), .int dv])), ((a 8), .inl ((k 8), 8, .inl fu)), ((a 9), .inl ((k 9), 48, .inl fp)), ((a 19), .inr (4, [.ref (a 20), .int (o_60.2.1), .int (o_60.2.2)])), ((a 20), .inl ((k 20), 3920, .inl (o_60.1))), ((a 21), .inr (1, [.ref (a 22), .int (o_108.2)])), ((a 22), .inl ((k 22), 300, .inl (o_108.1)))] H := hP.sub [0, 1, 2, 3, 4, 5, 6, 7, 8, 9] rfl
          have hD : va_D A [((a 0), .inr (9, [.ref (a 1), .ref (a 3), .ref (a 4), .ref (a 7), .ref (a 10), .ref (a 14), .ref (a 16), .ref (a 18), .ref (a 19), .ref (a 21), .ref (a 23), .ref (a 25), .ref (a 27), .ref (a 28), .int hi])), (g, .inr (0, [.ref r0, .ref (a 7)])), (r0, .inl (c0, 98, .inl (o_103))), ((a 7), .inr (5, [.ref (a 8), .ref (a 9), .int dv])), ((a 8), .inl ((k 8), 8, .inl fu)), ((a 9), .inl ((k 9), 48, .inl fp)), ((a 19), .inr (4, [.ref (a 20), .int (o_60.2.1), .int (o_60.2.2)])), ((a 20), .inl ((k 20), 3920, .inl (o_60.1))), ((a 21), .inr (1, [.ref (a 22), .int (o_108.2)])), ((a 22), .inl ((k 22), 300, .inl (o_108.1)))] := hD.sub [0, 1, 2, 3, 4, 5, 6, 7, 8, 9] (by decide) rfl
          refine lv_iconst (v := (-1)) hx hb dX9_attempt_190 (by decide) ?_
          obtain rfl := Option.some.inj hG
          have hP9 := hP.sub (ws' := [((a 0), .inr (9, [.ref (a 1), .ref (a 3), .ref (a 4), .ref (a 7), .ref (a 10), .ref (a 14), .ref (a 16), .ref (a 18), .ref (a 19), .ref (a 21), .ref (a 23), .ref (a 25), .ref (a 27), .ref (a 28), .int hi])), (g, .inr (0, [.ref r0, .ref (a 7)])), (r0, .inl (c0, 98, .inl (o_103))), ((a 7), .inr (5, [.ref (a 8), .ref (a 9), .int dv])), ((a 8), .inl ((k 8), 8, .inl fu)), ((a 9), .inl ((k 9), 48, .inl fp)), ((a 19), .inr (4, [.ref (a 20), .int (o_60.2.1), .int (o_60.2.2)])), ((a 20), .inl ((k 20), 3920, .inl (o_60.1))), ((a 21), .inr (1, [.ref (a 22), .int (o_108.2)])), ((a 22), .inl ((k 22), 300, .inl (o_108.1)))]) [0, 1, 2, 3, 4, 5, 6, 7, 8, 9] rfl
          have hD9 := hD.sub (ws' := [((a 0), .inr (9, [.ref (a 1), .ref (a 3), .ref (a 4), .ref (a 7), .ref (a 10), .ref (a 14), .ref (a 16), .ref (a 18), .ref (a 19), .ref (a 21), .ref (a 23), .ref (a 25), .ref (a 27), .ref (a 28), .int hi])), (g, .inr (0, [.ref r0, .ref (a 7)])), (r0, .inl (c0, 98, .inl (o_103))), ((a 7), .inr (5, [.ref (a 8), .ref (a 9), .int dv])), ((a 8), .inl ((k 8), 8, .inl fu)), ((a 9), .inl ((k 9), 48, .inl fp)), ((a 19), .inr (4, [.ref (a 20), .int (o_60.2.1), .int (o_60.2.2)])), ((a 20), .inl ((k 20), 3920, .inl (o_60.1))), ((a 21), .inr (1, [.ref (a 22), .int (o_108.2)])), ((a 22), .inl ((k 22), 300, .inl (o_108.1)))]) [0, 1, 2, 3, 4, 5, 6, 7, 8, 9] (by decide) rfl
          have hK9 := hK.sub (tys' := [(c0, .int), ((k 8), .int), ((k 9), .int), ((k 20), .int), ((k 22), .int)]) [0, 1, 2, 3, 4] rfl
          exact W.iret (v := (-1)) hx hb hr (fun t ht hW => ⟨⟨(-1), (), rfl, ⟨rfl, trivial⟩, by rw [ht]; exact hP9, va_K.moved hW.alike hK9, hD9⟩, hS.F ht⟩) hS.2.2 dX9_attempt_191
      have hG := q_ifn e_102 hG
      have hsw : (z1).toInt < 0 ∨ 5 < (z1).toInt := by
        have := lv_neT (a := 0) e_62 (by decide)
        have := lv_neT (a := 1) e_70 (by decide)
        have := lv_neT (a := 2) e_78 (by decide)
        have := lv_neT (a := 3) e_87 (by decide)
        have := lv_neT (a := 4) e_95 (by decide)
        have := lv_neT (a := 5) e_102 (by decide)
        omega
      refine lv_tableOut (tgt := 150) hx hb dX9_attempt_35 hsw (by decide) ?_
      refine lv_aload_n hx hb dX9_attempt_150 rfl (lv_at hl 2 rfl) ?_
      refine va_get (D := (dC, dI)) (ci := 0) (v := .ref r0) (C := RX0) (T := TX0) (N := 2) hx hb hts iA_0 hown hK hP 1 rfl rfl 0 (by decide) (hts (.fieldLink RX9 157 "HubTree$Bus" "row" "[I") (List.mem_cons_of_mem _ m_462)) (fun _ h9 => h9) rfl dX9_attempt_151 ?_
      refine lv_bipush (v := 88) hx hb dX9_attempt_154 (by decide) ?_
      refine lv_iload hx hb dX9_attempt_156 (lv_at hl 5 rfl) ?_
      refine lv_iadd hx hb dX9_attempt_158 ?_
      refine lv_iconst (v := 1) hx hb dX9_attempt_159 (by decide) ?_
      refine lv_aload_n hx hb dX9_attempt_160 rfl (lv_at hl 2 rfl) ?_
      refine va_get (D := (dC, dI)) (ci := 0) (v := .ref r0) (C := RX0) (T := TX0) (N := 2) hx hb hts iA_0 hown hK hP 1 rfl rfl 0 (by decide) (hts (.fieldLink RX9 157 "HubTree$Bus" "row" "[I") (List.mem_cons_of_mem _ m_462)) (fun _ h9 => h9) rfl dX9_attempt_161 ?_
      refine lv_bipush (v := 88) hx hb dX9_attempt_164 (by decide) ?_
      refine lv_iload hx hb dX9_attempt_166 (lv_at hl 5 rfl) ?_
      refine lv_iadd hx hb dX9_attempt_168 ?_
      obtain ⟨h_110, hG⟩ := q_ix hG
      refine va_iald hx hb hK hP 2 0 rfl rfl (i := (88 + z2)) h_110 dX9_attempt_169 ?_
      refine q_top (y := (fr (88 + z2).toNatClampNeg)) rfl ?_
      refine lv_isub hx hb dX9_attempt_170 ?_
      obtain ⟨h_111, hG⟩ := q_ix hG
      refine va_iast hx hb hK hP hD hS 2 0 rfl rfl (i := (88 + z2)) (x := (1 - (fr (88 + z2).toNatClampNeg))) h_111 dX9_attempt_171 (fun H locs hP hD hS => ?_)
      have hP : va_P (dC, dI) vwCl [((a 0), .inr (9, [.ref (a 1), .ref (a 3), .ref (a 4), .ref (a 7), .ref (a 10), .ref (a 14), .ref (a 16), .ref (a 18), .ref (a 19), .ref (a 21), .ref (a 23), .ref (a 25), .ref (a 27), .ref (a 28), .int hi])), (g, .inr (0, [.ref r0, .ref (a 7)])), (r0, .inl (c0, 98, .inl (upd fr (88 + z2).toNatClampNeg (1 - (fr (88 + z2).toNatClampNeg))))), ((a 7), .inr (5, [.ref (a 8), .ref (a 9), .int dv])), ((a 8), .inl ((k 8), 8, .inl fu)), ((a 9), .inl ((k 9), 48, .inl fp)), ((a 19), .inr (4, [.ref (a 20), .int (o_60.2.1), .int (o_60.2.2)])), ((a 20), .inl ((k 20), 3920, .inl (o_60.1))), ((a 21), .inr (1, [.ref (a 22), .int tt])), ((a 22), .inl ((k 22), 300, .inl fd))] H := hP
      have hD : va_D A [((a 0), .inr (9, [.ref (a 1), .ref (a 3), .ref (a 4), .ref (a 7), .ref (a 10), .ref (a 14), .ref (a 16), .ref (a 18), .ref (a 19), .ref (a 21), .ref (a 23), .ref (a 25), .ref (a 27), .ref (a 28), .int hi])), (g, .inr (0, [.ref r0, .ref (a 7)])), (r0, .inl (c0, 98, .inl (upd fr (88 + z2).toNatClampNeg (1 - (fr (88 + z2).toNatClampNeg))))), ((a 7), .inr (5, [.ref (a 8), .ref (a 9), .int dv])), ((a 8), .inl ((k 8), 8, .inl fu)), ((a 9), .inl ((k 9), 48, .inl fp)), ((a 19), .inr (4, [.ref (a 20), .int (o_60.2.1), .int (o_60.2.2)])), ((a 20), .inl ((k 20), 3920, .inl (o_60.1))), ((a 21), .inr (1, [.ref (a 22), .int tt])), ((a 22), .inl ((k 22), 300, .inl fd))] := hD
      refine lv_iload_n hx hb dX9_attempt_172 rfl (lv_at hl 3 rfl) ?_
      refine lv_if_eq (tgt := 190) hx hb dX9_attempt_173 (by decide) (fun c_112 => ?_) (fun c_112 => ?_)
      · have hG := q_ifp c_112 hG
        refine lv_iconst (v := (-1)) hx hb dX9_attempt_190 (by decide) ?_
        obtain rfl := Option.some.inj hG
        have hP9 := hP.sub (ws' := [((a 0), .inr (9, [.ref (a 1), .ref (a 3), .ref (a 4), .ref (a 7), .ref (a 10), .ref (a 14), .ref (a 16), .ref (a 18), .ref (a 19), .ref (a 21), .ref (a 23), .ref (a 25), .ref (a 27), .ref (a 28), .int hi])), (g, .inr (0, [.ref r0, .ref (a 7)])), (r0, .inl (c0, 98, .inl (upd fr (88 + z2).toNatClampNeg (1 - (fr (88 + z2).toNatClampNeg))))), ((a 7), .inr (5, [.ref (a 8), .ref (a 9), .int dv])), ((a 8), .inl ((k 8), 8, .inl fu)), ((a 9), .inl ((k 9), 48, .inl fp)), ((a 19), .inr (4, [.ref (a 20), .int (o_60.2.1), .int (o_60.2.2)])), ((a 20), .inl ((k 20), 3920, .inl (o_60.1))), ((a 21), .inr (1, [.ref (a 22), .int tt])), ((a 22), .inl ((k 22), 300, .inl fd))]) [0, 1, 2, 3, 4, 5, 6, 7, 8, 9] rfl
        have hD9 := hD.sub (ws' := [((a 0), .inr (9, [.ref (a 1), .ref (a 3), .ref (a 4), .ref (a 7), .ref (a 10), .ref (a 14), .ref (a 16), .ref (a 18), .ref (a 19), .ref (a 21), .ref (a 23), .ref (a 25), .ref (a 27), .ref (a 28), .int hi])), (g, .inr (0, [.ref r0, .ref (a 7)])), (r0, .inl (c0, 98, .inl (upd fr (88 + z2).toNatClampNeg (1 - (fr (88 + z2).toNatClampNeg))))), ((a 7), .inr (5, [.ref (a 8), .ref (a 9), .int dv])), ((a 8), .inl ((k 8), 8, .inl fu)), ((a 9), .inl ((k 9), 48, .inl fp)), ((a 19), .inr (4, [.ref (a 20), .int (o_60.2.1), .int (o_60.2.2)])), ((a 20), .inl ((k 20), 3920, .inl (o_60.1))), ((a 21), .inr (1, [.ref (a 22), .int tt])), ((a 22), .inl ((k 22), 300, .inl fd))]) [0, 1, 2, 3, 4, 5, 6, 7, 8, 9] (by decide) rfl
        have hK9 := hK.sub (tys' := [(c0, .int), ((k 8), .int), ((k 9), .int), ((k 20), .int), ((k 22), .int)]) [0, 1, 2, 3, 4] rfl
        exact W.iret (v := (-1)) hx hb hr (fun t ht hW => ⟨⟨(-1), (), rfl, ⟨rfl, trivial⟩, by rw [ht]; exact hP9, va_K.moved hW.alike hK9, hD9⟩, hS.F ht⟩) hS.2.2 dX9_attempt_191
      · have hG := q_ifn c_112 hG
        refine lv_aload_n hx hb dX9_attempt_176 rfl (lv_at hl 1 rfl) ?_
        refine va_get (D := (dC, dI)) (ci := 9) (v := .ref (a 21)) (C := RX9) (T := TX9) (N := 15) hx hb hts iA_9 hown hK hP 0 rfl rfl 9 (by decide) (hts (.fieldLink RX9 73 "HubTree" "diary" "LHubTree$Diary;") (List.mem_cons_of_mem _ m_47)) (fun _ h9 => h9) rfl dX9_attempt_177 ?_
        refine lv_iload_n hx hb dX9_attempt_180 rfl (lv_at hl 4 rfl) ?_
        refine lv_iload hx hb dX9_attempt_181 (lv_at hl 5 rfl) ?_
        refine lv_aload_n hx hb dX9_attempt_183 rfl (lv_at hl 2 rfl) ?_
        obtain ⟨o_113, r_114, hG⟩ := q_bi hG
        refine q_goi (v := o_113) (va_runV (As := []) (rest := [.int z2, .int z1, .ref (a 21)]) ⟨hx, hb, hml, hown, hts⟩ (c_X0_running l dC dI g r0 (a 7) (a 8) (a 9) dv c0 (upd fr (88 + z2).toNatClampNeg (1 - (fr (88 + z2).toNatClampNeg))) (k 8) (k 9) fu fp o_113 r_114) (cwV 0 hts (q_gV m_876 m_877 m_878 m_33 m_879) rfl rfl rfl hdV_yX0_running_0 ⟨Nat.le_of_ble_eq_true rfl, Nat.le_of_ble_eq_true rfl⟩) (q_preV hK hP (q := (RX0, TX0, 2)) (ci := 0) (q0 := 1) rfl rfl [1, 2, 3, 4, 5] rfl [0, 1, 2] rfl) rfl rfl hl.1 rfl (lv_room (Nat.le_of_ble_eq_true rfl)) dX9_attempt_184 ⟨Nat.le_of_ble_eq_true rfl, Nat.le_of_ble_eq_true rfl⟩) hP hS (fun H locs hP hS => ?_)
        obtain ⟨o_115, r_116, hG⟩ := q_bi hG
        refine q_gov2 (wr := [((a 0), .inr (9, [.ref (a 1), .ref (a 3), .ref (a 4), .ref (a 7), .ref (a 10), .ref (a 14), .ref (a 16), .ref (a 18), .ref (a 19), .ref (a 21), .ref (a 23), .ref (a 25), .ref (a 27), .ref (a 28), .int hi])), (g, .inr (0, [.ref r0, .ref (a 7)])), (r0, .inl (c0, 98, .inl (upd fr (88 + z2).toNatClampNeg (1 - (fr (88 + z2).toNatClampNeg))))), ((a 7), .inr (5, [.ref (a 8), .ref (a 9), .int dv])), ((a 8), .inl ((k 8), 8, .inl fu)), ((a 9), .inl ((k 9), 48, .inl fp)), ((a 19), .inr (4, [.ref (a 20), .int (o_60.2.1), .int (o_60.2.2)])), ((a 20), .inl ((k 20), 3920, .inl (o_60.1)))]) (va_runV (As := [.int z1, .int z2, .int o_113]) (rest := []) ⟨hx, hb, hml, hown, hts⟩ (c_X1_write l dC dI (a 21) (a 22) (k 22) fd tt z1 z2 o_113 (va_A [((a 21), .inr (1, [.ref (a 22), .int tt])), ((a 22), .inl ((k 22), 300, .inl fd))] H.size) o_115 r_116) (cwV 3 hts (q_gV m_885 m_886 m_887 m_46 m_888) rfl rfl rfl hdV_yX1_write_3 ⟨Nat.le_of_ble_eq_true rfl, Nat.le_of_ble_eq_true rfl⟩) (q_preWV hK hP hD (q := (RX1, TX1, 2)) (ci := 1) (q0 := 8) rfl rfl [8, 9] (by decide) rfl rfl [4] rfl) rfl rfl hl.1 rfl (lv_room (Nat.le_of_ble_eq_true rfl)) dX9_attempt_187 ⟨Nat.le_of_ble_eq_true rfl, Nat.le_of_ble_eq_true rfl⟩) hK hP hD hS hA [8, 9] [0, 1, 2, 3, 4, 5, 6, 7] rfl rfl (by decide) (by decide) (fun _ H locs _ hP hD hK9 hS => ?_)
        have hP : va_P (dC, dI) vwCl [((a 0), .inr (9, [.ref (a 1), .ref (a 3), .ref (a 4), .ref (a 7), .ref (a 10), .ref (a 14), .ref (a 16), .ref (a 18), .ref (a 19), .ref (a 21), .ref (a 23), .ref (a 25), .ref (a 27), .ref (a 28), .int hi])), (g, .inr (0, [.ref r0, .ref (a 7)])), (r0, .inl (c0, 98, .inl (upd fr (88 + z2).toNatClampNeg (1 - (fr (88 + z2).toNatClampNeg))))), ((a 7), .inr (5, [.ref (a 8), .ref (a 9), .int dv])), ((a 8), .inl ((k 8), 8, .inl fu)), ((a 9), .inl ((k 9), 48, .inl fp)), ((a 19), .inr (4, [.ref (a 20), .int (o_60.2.1), .int (o_60.2.2)])), ((a 20), .inl ((k 20), 3920, .inl (o_60.1))), ((a 21), .inr (1, [.ref (a 22), .int (o_115.2)])), ((a 22), .inl ((k 22), 300, .inl (o_115.1)))] H := hP.sub [0, 1, 2, 3, 4, 5, 6, 7, 8, 9] rfl
        have hD : va_D A [((a 0), .inr (9, [.ref (a 1), .ref (a 3), .ref (a 4), .ref (a 7), .ref (a 10), .ref (a 14), .ref (a 16), .ref (a 18), .ref (a 19), .ref (a 21), .ref (a 23), .ref (a 25), .ref (a 27), .ref (a 28), .int hi])), (g, .inr (0, [.ref r0, .ref (a 7)])), (r0, .inl (c0, 98, .inl (upd fr (88 + z2).toNatClampNeg (1 - (fr (88 + z2).toNatClampNeg))))), ((a 7), .inr (5, [.ref (a 8), .ref (a 9), .int dv])), ((a 8), .inl ((k 8), 8, .inl fu)), ((a 9), .inl ((k 9), 48, .inl fp)), ((a 19), .inr (4, [.ref (a 20), .int (o_60.2.1), .int (o_60.2.2)])), ((a 20), .inl ((k 20), 3920, .inl (o_60.1))), ((a 21), .inr (1, [.ref (a 22), .int (o_115.2)])), ((a 22), .inl ((k 22), 300, .inl (o_115.1)))] := hD.sub [0, 1, 2, 3, 4, 5, 6, 7, 8, 9] (by decide) rfl
        refine lv_iconst (v := (-1)) hx hb dX9_attempt_190 (by decide) ?_
        obtain rfl := Option.some.inj hG
        have hP9 := hP.sub (ws' := [((a 0), .inr (9, [.ref (a 1), .ref (a 3), .ref (a 4), .ref (a 7), .ref (a 10), .ref (a 14), .ref (a 16), .ref (a 18), .ref (a 19), .ref (a 21), .ref (a 23), .ref (a 25), .ref (a 27), .ref (a 28), .int hi])), (g, .inr (0, [.ref r0, .ref (a 7)])), (r0, .inl (c0, 98, .inl (upd fr (88 + z2).toNatClampNeg (1 - (fr (88 + z2).toNatClampNeg))))), ((a 7), .inr (5, [.ref (a 8), .ref (a 9), .int dv])), ((a 8), .inl ((k 8), 8, .inl fu)), ((a 9), .inl ((k 9), 48, .inl fp)), ((a 19), .inr (4, [.ref (a 20), .int (o_60.2.1), .int (o_60.2.2)])), ((a 20), .inl ((k 20), 3920, .inl (o_60.1))), ((a 21), .inr (1, [.ref (a 22), .int (o_115.2)])), ((a 22), .inl ((k 22), 300, .inl (o_115.1)))]) [0, 1, 2, 3, 4, 5, 6, 7, 8, 9] rfl
        have hD9 := hD.sub (ws' := [((a 0), .inr (9, [.ref (a 1), .ref (a 3), .ref (a 4), .ref (a 7), .ref (a 10), .ref (a 14), .ref (a 16), .ref (a 18), .ref (a 19), .ref (a 21), .ref (a 23), .ref (a 25), .ref (a 27), .ref (a 28), .int hi])), (g, .inr (0, [.ref r0, .ref (a 7)])), (r0, .inl (c0, 98, .inl (upd fr (88 + z2).toNatClampNeg (1 - (fr (88 + z2).toNatClampNeg))))), ((a 7), .inr (5, [.ref (a 8), .ref (a 9), .int dv])), ((a 8), .inl ((k 8), 8, .inl fu)), ((a 9), .inl ((k 9), 48, .inl fp)), ((a 19), .inr (4, [.ref (a 20), .int (o_60.2.1), .int (o_60.2.2)])), ((a 20), .inl ((k 20), 3920, .inl (o_60.1))), ((a 21), .inr (1, [.ref (a 22), .int (o_115.2)])), ((a 22), .inl ((k 22), 300, .inl (o_115.1)))]) [0, 1, 2, 3, 4, 5, 6, 7, 8, 9] (by decide) rfl
        have hK9 := hK.sub (tys' := [(c0, .int), ((k 8), .int), ((k 9), .int), ((k 20), .int), ((k 22), .int)]) [0, 1, 2, 3, 4] rfl
        exact W.iret (v := (-1)) hx hb hr (fun t ht hW => ⟨⟨(-1), (), rfl, ⟨rfl, trivial⟩, by rw [ht]; exact hP9, va_K.moved hW.alike hK9, hD9⟩, hS.F ht⟩) hS.2.2 dX9_attempt_191
  · have hG := q_ifn c_3 hG
    refine lv_iload hx hb dX9_attempt_19 (lv_at hl 0 rfl) ?_
    obtain rfl := Option.some.inj hG
    have hP9 := hP.sub (ws' := [((a 0), .inr (9, [.ref (a 1), .ref (a 3), .ref (a 4), .ref (a 7), .ref (a 10), .ref (a 14), .ref (a 16), .ref (a 18), .ref (a 19), .ref (a 21), .ref (a 23), .ref (a 25), .ref (a 27), .ref (a 28), .int hi])), (g, .inr (0, [.ref r0, .ref (a 7)])), (r0, .inl (c0, 98, .inl fr)), ((a 7), .inr (5, [.ref (a 8), .ref (a 9), .int dv])), ((a 8), .inl ((k 8), 8, .inl fu)), ((a 9), .inl ((k 9), 48, .inl fp)), ((a 19), .inr (4, [.ref (a 20), .int nx, .int ph])), ((a 20), .inl ((k 20), 3920, .inl fq)), ((a 21), .inr (1, [.ref (a 22), .int tt])), ((a 22), .inl ((k 22), 300, .inl fd))]) [0, 1, 2, 3, 4, 5, 6, 7, 8, 9] rfl
    have hD9 := hD.sub (ws' := [((a 0), .inr (9, [.ref (a 1), .ref (a 3), .ref (a 4), .ref (a 7), .ref (a 10), .ref (a 14), .ref (a 16), .ref (a 18), .ref (a 19), .ref (a 21), .ref (a 23), .ref (a 25), .ref (a 27), .ref (a 28), .int hi])), (g, .inr (0, [.ref r0, .ref (a 7)])), (r0, .inl (c0, 98, .inl fr)), ((a 7), .inr (5, [.ref (a 8), .ref (a 9), .int dv])), ((a 8), .inl ((k 8), 8, .inl fu)), ((a 9), .inl ((k 9), 48, .inl fp)), ((a 19), .inr (4, [.ref (a 20), .int nx, .int ph])), ((a 20), .inl ((k 20), 3920, .inl fq)), ((a 21), .inr (1, [.ref (a 22), .int tt])), ((a 22), .inl ((k 22), 300, .inl fd))]) [0, 1, 2, 3, 4, 5, 6, 7, 8, 9] (by decide) rfl
    have hK9 := hK.sub (tys' := [(c0, .int), ((k 8), .int), ((k 9), .int), ((k 20), .int), ((k 22), .int)]) [0, 1, 2, 3, 4] rfl
    exact W.iret (v := o_1) hx hb hr (fun t ht hW => ⟨⟨o_1, (), rfl, ⟨rfl, trivial⟩, by rw [ht]; exact hP9, va_K.moved hW.alike hK9, hD9⟩, hS.F ht⟩) hS.2.2 dX9_attempt_21
