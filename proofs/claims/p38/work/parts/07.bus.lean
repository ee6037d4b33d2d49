theorem dX0_barOf_0 : decode cX0_barOf 0 = .ok (.iload_n 1, 1) := q_o27 (by decide +kernel)
theorem dX0_barOf_1 : decode cX0_barOf 1 = .ok (.iconst 2, 1) := q_o5 (by decide +kernel)
theorem dX0_barOf_2 : decode cX0_barOf 2 = .ok (.if_icmp .ne 9, 3) := q_o160 (a := 0) (b := 9) (by decide +kernel) rfl
theorem dX0_barOf_5 : decode cX0_barOf 5 = .ok (.aload_n 0, 1) := q_o42 (by decide +kernel)
theorem dX0_barOf_6 : decode cX0_barOf 6 = .ok (.iload_n 2, 1) := q_o28 (by decide +kernel)
theorem dX0_barOf_7 : decode cX0_barOf 7 = .ok (.invokevirtual 147, 3) := q_o182 (a := 0) (b := 147) (by decide +kernel)
theorem dX0_barOf_10 : decode cX0_barOf 10 = .ok (.ireturn, 1) := q_o172 (by decide +kernel)
theorem dX0_barOf_11 : decode cX0_barOf 11 = .ok (.aload_n 0, 1) := q_o42 (by decide +kernel)
theorem dX0_barOf_12 : decode cX0_barOf 12 = .ok (.getfield 15, 3) := q_o180 (a := 0) (b := 15) (by decide +kernel)
theorem dX0_barOf_15 : decode cX0_barOf 15 = .ok (.iload_n 2, 1) := q_o28 (by decide +kernel)
theorem dX0_barOf_16 : decode cX0_barOf 16 = .ok (.invokevirtual 150, 3) := q_o182 (a := 0) (b := 150) (by decide +kernel)
theorem dX0_barOf_19 : decode cX0_barOf 19 = .ok (.ifCond .ne 5, 3) := q_o154 (a := 0) (b := 5) (by decide +kernel) rfl
theorem dX0_barOf_22 : decode cX0_barOf 22 = .ok (.iconst 0, 1) := q_o3 (by decide +kernel)
theorem dX0_barOf_23 : decode cX0_barOf 23 = .ok (.ireturn, 1) := q_o172 (by decide +kernel)
theorem dX0_barOf_24 : decode cX0_barOf 24 = .ok (.iload_n 1, 1) := q_o27 (by decide +kernel)
theorem dX0_barOf_25 : decode cX0_barOf 25 = .ok (.tableswitch 125 0 5 #[39, 55, 125, 76, 48, 102], 39) := by decide +kernel
theorem dX0_barOf_64 : decode cX0_barOf 64 = .ok (.aload_n 0, 1) := q_o42 (by decide +kernel)
theorem dX0_barOf_65 : decode cX0_barOf 65 = .ok (.iload_n 2, 1) := q_o28 (by decide +kernel)
theorem dX0_barOf_66 : decode cX0_barOf 66 = .ok (.iload_n 3, 1) := q_o29 (by decide +kernel)
theorem dX0_barOf_67 : decode cX0_barOf 67 = .ok (.iload 4, 2) := q_o21 (a := 4) (by decide +kernel)
theorem dX0_barOf_69 : decode cX0_barOf 69 = .ok (.invokevirtual 153, 3) := q_o182 (a := 0) (b := 153) (by decide +kernel)
theorem dX0_barOf_72 : decode cX0_barOf 72 = .ok (.ireturn, 1) := q_o172 (by decide +kernel)
theorem dX0_barOf_73 : decode cX0_barOf 73 = .ok (.aload_n 0, 1) := q_o42 (by decide +kernel)
theorem dX0_barOf_74 : decode cX0_barOf 74 = .ok (.iload_n 2, 1) := q_o28 (by decide +kernel)
theorem dX0_barOf_75 : decode cX0_barOf 75 = .ok (.iload_n 3, 1) := q_o29 (by decide +kernel)
theorem dX0_barOf_76 : decode cX0_barOf 76 = .ok (.invokevirtual 157, 3) := q_o182 (a := 0) (b := 157) (by decide +kernel)
theorem dX0_barOf_79 : decode cX0_barOf 79 = .ok (.ireturn, 1) := q_o172 (by decide +kernel)
theorem dX0_barOf_80 : decode cX0_barOf 80 = .ok (.aload_n 0, 1) := q_o42 (by decide +kernel)
theorem dX0_barOf_81 : decode cX0_barOf 81 = .ok (.getfield 11, 3) := q_o180 (a := 0) (b := 11) (by decide +kernel)
theorem dX0_barOf_84 : decode cX0_barOf 84 = .ok (.iconst 0, 1) := q_o3 (by decide +kernel)
theorem dX0_barOf_85 : decode cX0_barOf 85 = .ok (.iload_n 2, 1) := q_o28 (by decide +kernel)
theorem dX0_barOf_86 : decode cX0_barOf 86 = .ok (.iadd, 1) := q_o96 (by decide +kernel)
theorem dX0_barOf_87 : decode cX0_barOf 87 = .ok (.iaload, 1) := q_o46 (by decide +kernel)
theorem dX0_barOf_88 : decode cX0_barOf 88 = .ok (.ifCond .eq 7, 3) := q_o153 (a := 0) (b := 7) (by decide +kernel) rfl
theorem dX0_barOf_91 : decode cX0_barOf 91 = .ok (.iconst 1, 1) := q_o4 (by decide +kernel)
theorem dX0_barOf_92 : decode cX0_barOf 92 = .ok (.goto 4, 3) := q_o167 (a := 0) (b := 4) (by decide +kernel) rfl
theorem dX0_barOf_95 : decode cX0_barOf 95 = .ok (.iconst 0, 1) := q_o3 (by decide +kernel)
theorem dX0_barOf_96 : decode cX0_barOf 96 = .ok (.istore 5, 2) := q_o54 (a := 5) (by decide +kernel)
theorem dX0_barOf_98 : decode cX0_barOf 98 = .ok (.goto 80, 3) := q_o167 (a := 0) (b := 80) (by decide +kernel) rfl
theorem dX0_barOf_101 : decode cX0_barOf 101 = .ok (.aload_n 0, 1) := q_o42 (by decide +kernel)
theorem dX0_barOf_102 : decode cX0_barOf 102 = .ok (.getfield 15, 3) := q_o180 (a := 0) (b := 15) (by decide +kernel)
theorem dX0_barOf_105 : decode cX0_barOf 105 = .ok (.getfield 35, 3) := q_o180 (a := 0) (b := 35) (by decide +kernel)
theorem dX0_barOf_108 : decode cX0_barOf 108 = .ok (.bipush 24, 2) := q_o16 (a := 24) (by decide +kernel) rfl
theorem dX0_barOf_110 : decode cX0_barOf 110 = .ok (.iload_n 2, 1) := q_o28 (by decide +kernel)
theorem dX0_barOf_111 : decode cX0_barOf 111 = .ok (.iadd, 1) := q_o96 (by decide +kernel)
theorem dX0_barOf_112 : decode cX0_barOf 112 = .ok (.iaload, 1) := q_o46 (by decide +kernel)
theorem dX0_barOf_113 : decode cX0_barOf 113 = .ok (.iconst 1, 1) := q_o4 (by decide +kernel)
theorem dX0_barOf_114 : decode cX0_barOf 114 = .ok (.if_icmp .ne 7, 3) := q_o160 (a := 0) (b := 7) (by decide +kernel) rfl
theorem dX0_barOf_117 : decode cX0_barOf 117 = .ok (.iconst 1, 1) := q_o4 (by decide +kernel)
theorem dX0_barOf_118 : decode cX0_barOf 118 = .ok (.goto 4, 3) := q_o167 (a := 0) (b := 4) (by decide +kernel) rfl
theorem dX0_barOf_121 : decode cX0_barOf 121 = .ok (.iconst 0, 1) := q_o3 (by decide +kernel)
theorem dX0_barOf_122 : decode cX0_barOf 122 = .ok (.istore 5, 2) := q_o54 (a := 5) (by decide +kernel)
theorem dX0_barOf_124 : decode cX0_barOf 124 = .ok (.goto 54, 3) := q_o167 (a := 0) (b := 54) (by decide +kernel) rfl
theorem dX0_barOf_127 : decode cX0_barOf 127 = .ok (.aload_n 0, 1) := q_o42 (by decide +kernel)
theorem dX0_barOf_128 : decode cX0_barOf 128 = .ok (.getfield 11, 3) := q_o180 (a := 0) (b := 11) (by decide +kernel)
theorem dX0_barOf_131 : decode cX0_barOf 131 = .ok (.iconst 0, 1) := q_o3 (by decide +kernel)
theorem dX0_barOf_132 : decode cX0_barOf 132 = .ok (.iload_n 2, 1) := q_o28 (by decide +kernel)
theorem dX0_barOf_133 : decode cX0_barOf 133 = .ok (.iadd, 1) := q_o96 (by decide +kernel)
theorem dX0_barOf_134 : decode cX0_barOf 134 = .ok (.iaload, 1) := q_o46 (by decide +kernel)
theorem dX0_barOf_135 : decode cX0_barOf 135 = .ok (.bipush 7, 2) := q_o16 (a := 7) (by decide +kernel) rfl
theorem dX0_barOf_137 : decode cX0_barOf 137 = .ok (.if_icmp .ne 7, 3) := q_o160 (a := 0) (b := 7) (by decide +kernel) rfl
theorem dX0_barOf_140 : decode cX0_barOf 140 = .ok (.iconst 1, 1) := q_o4 (by decide +kernel)
theorem dX0_barOf_141 : decode cX0_barOf 141 = .ok (.goto 4, 3) := q_o167 (a := 0) (b := 4) (by decide +kernel) rfl
theorem dX0_barOf_144 : decode cX0_barOf 144 = .ok (.iconst 0, 1) := q_o3 (by decide +kernel)
theorem dX0_barOf_145 : decode cX0_barOf 145 = .ok (.istore 5, 2) := q_o54 (a := 5) (by decide +kernel)
theorem dX0_barOf_147 : decode cX0_barOf 147 = .ok (.goto 31, 3) := q_o167 (a := 0) (b := 31) (by decide +kernel) rfl
theorem dX0_barOf_150 : decode cX0_barOf 150 = .ok (.aload_n 0, 1) := q_o42 (by decide +kernel)
theorem dX0_barOf_151 : decode cX0_barOf 151 = .ok (.getfield 11, 3) := q_o180 (a := 0) (b := 11) (by decide +kernel)
theorem dX0_barOf_154 : decode cX0_barOf 154 = .ok (.bipush 88, 2) := q_o16 (a := 88) (by decide +kernel) rfl
theorem dX0_barOf_156 : decode cX0_barOf 156 = .ok (.iload_n 2, 1) := q_o28 (by decide +kernel)
theorem dX0_barOf_157 : decode cX0_barOf 157 = .ok (.iadd, 1) := q_o96 (by decide +kernel)
theorem dX0_barOf_158 : decode cX0_barOf 158 = .ok (.iaload, 1) := q_o46 (by decide +kernel)
theorem dX0_barOf_159 : decode cX0_barOf 159 = .ok (.iconst 1, 1) := q_o4 (by decide +kernel)
theorem dX0_barOf_160 : decode cX0_barOf 160 = .ok (.if_icmp .ne 11, 3) := q_o160 (a := 0) (b := 11) (by decide +kernel) rfl
theorem dX0_barOf_163 : decode cX0_barOf 163 = .ok (.aload_n 0, 1) := q_o42 (by decide +kernel)
theorem dX0_barOf_164 : decode cX0_barOf 164 = .ok (.iload_n 2, 1) := q_o28 (by decide +kernel)
theorem dX0_barOf_165 : decode cX0_barOf 165 = .ok (.invokevirtual 96, 3) := q_o182 (a := 0) (b := 96) (by decide +kernel)
theorem dX0_barOf_168 : decode cX0_barOf 168 = .ok (.goto 8, 3) := q_o167 (a := 0) (b := 8) (by decide +kernel) rfl
theorem dX0_barOf_171 : decode cX0_barOf 171 = .ok (.aload_n 0, 1) := q_o42 (by decide +kernel)
theorem dX0_barOf_172 : decode cX0_barOf 172 = .ok (.iload_n 2, 1) := q_o28 (by decide +kernel)
theorem dX0_barOf_173 : decode cX0_barOf 173 = .ok (.invokevirtual 160, 3) := q_o182 (a := 0) (b := 160) (by decide +kernel)
theorem dX0_barOf_176 : decode cX0_barOf 176 = .ok (.istore 5, 2) := q_o54 (a := 5) (by decide +kernel)
theorem dX0_barOf_178 : decode cX0_barOf 178 = .ok (.iload 5, 2) := q_o21 (a := 5) (by decide +kernel)
theorem dX0_barOf_180 : decode cX0_barOf 180 = .ok (.ifCond .eq 7, 3) := q_o153 (a := 0) (b := 7) (by decide +kernel) rfl
theorem dX0_barOf_183 : decode cX0_barOf 183 = .ok (.iconst (-1), 1) := q_o2 (by decide +kernel)
theorem dX0_barOf_184 : decode cX0_barOf 184 = .ok (.goto 4, 3) := q_o167 (a := 0) (b := 4) (by decide +kernel) rfl
theorem dX0_barOf_187 : decode cX0_barOf 187 = .ok (.iconst 2, 1) := q_o5 (by decide +kernel)
theorem dX0_barOf_188 : decode cX0_barOf 188 = .ok (.ireturn, 1) := q_o172 (by decide +kernel)
theorem dX0_barOfError_0 : decode cX0_barOfError 0 = .ok (.iload_n 2, 1) := q_o28 (by decide +kernel)
theorem dX0_barOfError_1 : decode cX0_barOfError 1 = .ok (.ifCond .lt 8, 3) := q_o155 (a := 0) (b := 8) (by decide +kernel) rfl
theorem dX0_barOfError_4 : decode cX0_barOfError 4 = .ok (.iload_n 2, 1) := q_o28 (by decide +kernel)
theorem dX0_barOfError_5 : decode cX0_barOfError 5 = .ok (.iconst 3, 1) := q_o6 (by decide +kernel)
theorem dX0_barOfError_6 : decode cX0_barOfError 6 = .ok (.if_icmp .le 5, 3) := q_o164 (a := 0) (b := 5) (by decide +kernel) rfl
theorem dX0_barOfError_9 : decode cX0_barOfError 9 = .ok (.iconst 1, 1) := q_o4 (by decide +kernel)
theorem dX0_barOfError_10 : decode cX0_barOfError 10 = .ok (.ireturn, 1) := q_o172 (by decide +kernel)
theorem dX0_barOfError_11 : decode cX0_barOfError 11 = .ok (.aload_n 0, 1) := q_o42 (by decide +kernel)
theorem dX0_barOfError_12 : decode cX0_barOfError 12 = .ok (.getfield 11, 3) := q_o180 (a := 0) (b := 11) (by decide +kernel)
theorem dX0_barOfError_15 : decode cX0_barOfError 15 = .ok (.bipush 80, 2) := q_o16 (a := 80) (by decide +kernel) rfl
theorem dX0_barOfError_17 : decode cX0_barOfError 17 = .ok (.iload_n 1, 1) := q_o27 (by decide +kernel)
theorem dX0_barOfError_18 : decode cX0_barOfError 18 = .ok (.iadd, 1) := q_o96 (by decide +kernel)
theorem dX0_barOfError_19 : decode cX0_barOfError 19 = .ok (.iaload, 1) := q_o46 (by decide +kernel)
theorem dX0_barOfError_20 : decode cX0_barOfError 20 = .ok (.iload_n 2, 1) := q_o28 (by decide +kernel)
theorem dX0_barOfError_21 : decode cX0_barOfError 21 = .ok (.if_icmp .ne 7, 3) := q_o160 (a := 0) (b := 7) (by decide +kernel) rfl
theorem dX0_barOfError_24 : decode cX0_barOfError 24 = .ok (.iconst 2, 1) := q_o5 (by decide +kernel)
theorem dX0_barOfError_25 : decode cX0_barOfError 25 = .ok (.goto 4, 3) := q_o167 (a := 0) (b := 4) (by decide +kernel) rfl
theorem dX0_barOfError_28 : decode cX0_barOfError 28 = .ok (.iconst (-1), 1) := q_o2 (by decide +kernel)
theorem dX0_barOfError_29 : decode cX0_barOfError 29 = .ok (.ireturn, 1) := q_o172 (by decide +kernel)
theorem dX0_barOfPlug_0 : decode cX0_barOfPlug 0 = .ok (.aload_n 0, 1) := q_o42 (by decide +kernel)
theorem dX0_barOfPlug_1 : decode cX0_barOfPlug 1 = .ok (.getfield 15, 3) := q_o180 (a := 0) (b := 15) (by decide +kernel)
theorem dX0_barOfPlug_4 : decode cX0_barOfPlug 4 = .ok (.iload_n 2, 1) := q_o28 (by decide +kernel)
theorem dX0_barOfPlug_5 : decode cX0_barOfPlug 5 = .ok (.invokevirtual 93, 3) := q_o182 (a := 0) (b := 93) (by decide +kernel)
theorem dX0_barOfPlug_8 : decode cX0_barOfPlug 8 = .ok (.ifCond .ne 5, 3) := q_o154 (a := 0) (b := 5) (by decide +kernel) rfl
theorem dX0_barOfPlug_11 : decode cX0_barOfPlug 11 = .ok (.iconst 0, 1) := q_o3 (by decide +kernel)
theorem dX0_barOfPlug_12 : decode cX0_barOfPlug 12 = .ok (.ireturn, 1) := q_o172 (by decide +kernel)
theorem dX0_barOfPlug_13 : decode cX0_barOfPlug 13 = .ok (.aload_n 0, 1) := q_o42 (by decide +kernel)
theorem dX0_barOfPlug_14 : decode cX0_barOfPlug 14 = .ok (.getfield 15, 3) := q_o180 (a := 0) (b := 15) (by decide +kernel)
theorem dX0_barOfPlug_17 : decode cX0_barOfPlug 17 = .ok (.iload_n 2, 1) := q_o28 (by decide +kernel)
theorem dX0_barOfPlug_18 : decode cX0_barOfPlug 18 = .ok (.iload_n 3, 1) := q_o29 (by decide +kernel)
theorem dX0_barOfPlug_19 : decode cX0_barOfPlug 19 = .ok (.invokevirtual 167, 3) := q_o182 (a := 0) (b := 167) (by decide +kernel)
theorem dX0_barOfPlug_22 : decode cX0_barOfPlug 22 = .ok (.ifCond .ne 5, 3) := q_o154 (a := 0) (b := 5) (by decide +kernel) rfl
theorem dX0_barOfPlug_25 : decode cX0_barOfPlug 25 = .ok (.iconst 1, 1) := q_o4 (by decide +kernel)
theorem dX0_barOfPlug_26 : decode cX0_barOfPlug 26 = .ok (.ireturn, 1) := q_o172 (by decide +kernel)
theorem dX0_barOfPlug_27 : decode cX0_barOfPlug 27 = .ok (.aload_n 0, 1) := q_o42 (by decide +kernel)
theorem dX0_barOfPlug_28 : decode cX0_barOfPlug 28 = .ok (.iload_n 2, 1) := q_o28 (by decide +kernel)
theorem dX0_barOfPlug_29 : decode cX0_barOfPlug 29 = .ok (.iload_n 3, 1) := q_o29 (by decide +kernel)
theorem dX0_barOfPlug_30 : decode cX0_barOfPlug 30 = .ok (.invokevirtual 69, 3) := q_o182 (a := 0) (b := 69) (by decide +kernel)
theorem dX0_barOfPlug_33 : decode cX0_barOfPlug 33 = .ok (.iconst (-1), 1) := q_o2 (by decide +kernel)
theorem dX0_barOfPlug_34 : decode cX0_barOfPlug 34 = .ok (.if_icmp .eq 7, 3) := q_o159 (a := 0) (b := 7) (by decide +kernel) rfl
theorem dX0_barOfPlug_37 : decode cX0_barOfPlug 37 = .ok (.iconst 1, 1) := q_o4 (by decide +kernel)
theorem dX0_barOfPlug_38 : decode cX0_barOfPlug 38 = .ok (.goto 4, 3) := q_o167 (a := 0) (b := 4) (by decide +kernel) rfl
theorem dX0_barOfPlug_41 : decode cX0_barOfPlug 41 = .ok (.iconst 0, 1) := q_o3 (by decide +kernel)
theorem dX0_barOfPlug_42 : decode cX0_barOfPlug 42 = .ok (.istore 4, 2) := q_o54 (a := 4) (by decide +kernel)
theorem dX0_barOfPlug_44 : decode cX0_barOfPlug 44 = .ok (.aload_n 0, 1) := q_o42 (by decide +kernel)
theorem dX0_barOfPlug_45 : decode cX0_barOfPlug 45 = .ok (.getfield 11, 3) := q_o180 (a := 0) (b := 11) (by decide +kernel)
theorem dX0_barOfPlug_48 : decode cX0_barOfPlug 48 = .ok (.iconst 0, 1) := q_o3 (by decide +kernel)
theorem dX0_barOfPlug_49 : decode cX0_barOfPlug 49 = .ok (.iload_n 1, 1) := q_o27 (by decide +kernel)
theorem dX0_barOfPlug_50 : decode cX0_barOfPlug 50 = .ok (.iadd, 1) := q_o96 (by decide +kernel)
theorem dX0_barOfPlug_51 : decode cX0_barOfPlug 51 = .ok (.iaload, 1) := q_o46 (by decide +kernel)
theorem dX0_barOfPlug_52 : decode cX0_barOfPlug 52 = .ok (.ifCond .ne 17, 3) := q_o154 (a := 0) (b := 17) (by decide +kernel) rfl
theorem dX0_barOfPlug_55 : decode cX0_barOfPlug 55 = .ok (.aload_n 0, 1) := q_o42 (by decide +kernel)
theorem dX0_barOfPlug_56 : decode cX0_barOfPlug 56 = .ok (.iload_n 2, 1) := q_o28 (by decide +kernel)
theorem dX0_barOfPlug_57 : decode cX0_barOfPlug 57 = .ok (.iconst 0, 1) := q_o3 (by decide +kernel)
theorem dX0_barOfPlug_58 : decode cX0_barOfPlug 58 = .ok (.invokevirtual 62, 3) := q_o182 (a := 0) (b := 62) (by decide +kernel)
theorem dX0_barOfPlug_61 : decode cX0_barOfPlug 61 = .ok (.ifCond .ne 8, 3) := q_o154 (a := 0) (b := 8) (by decide +kernel) rfl
theorem dX0_barOfPlug_64 : decode cX0_barOfPlug 64 = .ok (.iload 4, 2) := q_o21 (a := 4) (by decide +kernel)
theorem dX0_barOfPlug_66 : decode cX0_barOfPlug 66 = .ok (.ifCond .eq 7, 3) := q_o153 (a := 0) (b := 7) (by decide +kernel) rfl
theorem dX0_barOfPlug_69 : decode cX0_barOfPlug 69 = .ok (.iconst 2, 1) := q_o5 (by decide +kernel)
theorem dX0_barOfPlug_70 : decode cX0_barOfPlug 70 = .ok (.goto 4, 3) := q_o167 (a := 0) (b := 4) (by decide +kernel) rfl
theorem dX0_barOfPlug_73 : decode cX0_barOfPlug 73 = .ok (.iconst (-1), 1) := q_o2 (by decide +kernel)
theorem dX0_barOfPlug_74 : decode cX0_barOfPlug 74 = .ok (.ireturn, 1) := q_o172 (by decide +kernel)
theorem dX0_barOfTicks_0 : decode cX0_barOfTicks 0 = .ok (.aload_n 0, 1) := q_o42 (by decide +kernel)
theorem dX0_barOfTicks_1 : decode cX0_barOfTicks 1 = .ok (.getfield 15, 3) := q_o180 (a := 0) (b := 15) (by decide +kernel)
theorem dX0_barOfTicks_4 : decode cX0_barOfTicks 4 = .ok (.invokevirtual 163, 3) := q_o182 (a := 0) (b := 163) (by decide +kernel)
theorem dX0_barOfTicks_7 : decode cX0_barOfTicks 7 = .ok (.ifCond .ne 5, 3) := q_o154 (a := 0) (b := 5) (by decide +kernel) rfl
theorem dX0_barOfTicks_10 : decode cX0_barOfTicks 10 = .ok (.iconst 0, 1) := q_o3 (by decide +kernel)
theorem dX0_barOfTicks_11 : decode cX0_barOfTicks 11 = .ok (.ireturn, 1) := q_o172 (by decide +kernel)
theorem dX0_barOfTicks_12 : decode cX0_barOfTicks 12 = .ok (.iload_n 1, 1) := q_o27 (by decide +kernel)
theorem dX0_barOfTicks_13 : decode cX0_barOfTicks 13 = .ok (.iconst 1, 1) := q_o4 (by decide +kernel)
theorem dX0_barOfTicks_14 : decode cX0_barOfTicks 14 = .ok (.if_icmp .lt 9, 3) := q_o161 (a := 0) (b := 9) (by decide +kernel) rfl
theorem dX0_barOfTicks_17 : decode cX0_barOfTicks 17 = .ok (.iload_n 1, 1) := q_o27 (by decide +kernel)
theorem dX0_barOfTicks_18 : decode cX0_barOfTicks 18 = .ok (.bipush 60, 2) := q_o16 (a := 60) (by decide +kernel) rfl
theorem dX0_barOfTicks_20 : decode cX0_barOfTicks 20 = .ok (.if_icmp .le 5, 3) := q_o164 (a := 0) (b := 5) (by decide +kernel) rfl
theorem dX0_barOfTicks_23 : decode cX0_barOfTicks 23 = .ok (.iconst 1, 1) := q_o4 (by decide +kernel)
theorem dX0_barOfTicks_24 : decode cX0_barOfTicks 24 = .ok (.ireturn, 1) := q_o172 (by decide +kernel)
theorem dX0_barOfTicks_25 : decode cX0_barOfTicks 25 = .ok (.aload_n 0, 1) := q_o42 (by decide +kernel)
theorem dX0_barOfTicks_26 : decode cX0_barOfTicks 26 = .ok (.getfield 11, 3) := q_o180 (a := 0) (b := 11) (by decide +kernel)
theorem dX0_barOfTicks_29 : decode cX0_barOfTicks 29 = .ok (.bipush 96, 2) := q_o16 (a := 96) (by decide +kernel) rfl
theorem dX0_barOfTicks_31 : decode cX0_barOfTicks 31 = .ok (.iaload, 1) := q_o46 (by decide +kernel)
theorem dX0_barOfTicks_32 : decode cX0_barOfTicks 32 = .ok (.iload_n 1, 1) := q_o27 (by decide +kernel)
theorem dX0_barOfTicks_33 : decode cX0_barOfTicks 33 = .ok (.iadd, 1) := q_o96 (by decide +kernel)
theorem dX0_barOfTicks_34 : decode cX0_barOfTicks 34 = .ok (.sipush 9999, 3) := q_o17 (a := 39) (b := 15) (by decide +kernel) rfl
theorem dX0_barOfTicks_37 : decode cX0_barOfTicks 37 = .ok (.if_icmp .le 7, 3) := q_o164 (a := 0) (b := 7) (by decide +kernel) rfl
theorem dX0_barOfTicks_40 : decode cX0_barOfTicks 40 = .ok (.iconst 3, 1) := q_o6 (by decide +kernel)
theorem dX0_barOfTicks_41 : decode cX0_barOfTicks 41 = .ok (.goto 4, 3) := q_o167 (a := 0) (b := 4) (by decide +kernel) rfl
theorem dX0_barOfTicks_44 : decode cX0_barOfTicks 44 = .ok (.iconst (-1), 1) := q_o2 (by decide +kernel)
theorem dX0_barOfTicks_45 : decode cX0_barOfTicks 45 = .ok (.ireturn, 1) := q_o172 (by decide +kernel)
theorem dX0_busFor_0 : decode cX0_busFor 0 = .ok (.aload_n 0, 1) := q_o42 (by decide +kernel)
theorem dX0_busFor_1 : decode cX0_busFor 1 = .ok (.getfield 15, 3) := q_o180 (a := 0) (b := 15) (by decide +kernel)
theorem dX0_busFor_4 : decode cX0_busFor 4 = .ok (.getfield 35, 3) := q_o180 (a := 0) (b := 35) (by decide +kernel)
theorem dX0_busFor_7 : decode cX0_busFor 7 = .ok (.bipush 32, 2) := q_o16 (a := 32) (by decide +kernel) rfl
theorem dX0_busFor_9 : decode cX0_busFor 9 = .ok (.iload_n 1, 1) := q_o27 (by decide +kernel)
theorem dX0_busFor_10 : decode cX0_busFor 10 = .ok (.iadd, 1) := q_o96 (by decide +kernel)
theorem dX0_busFor_11 : decode cX0_busFor 11 = .ok (.iaload, 1) := q_o46 (by decide +kernel)
theorem dX0_busFor_12 : decode cX0_busFor 12 = .ok (.istore_n 3, 1) := q_o62 (by decide +kernel)
theorem dX0_busFor_13 : decode cX0_busFor 13 = .ok (.iload_n 3, 1) := q_o29 (by decide +kernel)
theorem dX0_busFor_14 : decode cX0_busFor 14 = .ok (.iload_n 2, 1) := q_o28 (by decide +kernel)
theorem dX0_busFor_15 : decode cX0_busFor 15 = .ok (.iconst 2, 1) := q_o5 (by decide +kernel)
theorem dX0_busFor_16 : decode cX0_busFor 16 = .ok (.if_icmp .ge 11, 3) := q_o162 (a := 0) (b := 11) (by decide +kernel) rfl
theorem dX0_busFor_19 : decode cX0_busFor 19 = .ok (.iload_n 3, 1) := q_o29 (by decide +kernel)
theorem dX0_busFor_20 : decode cX0_busFor 20 = .ok (.ifCond .le 7, 3) := q_o158 (a := 0) (b := 7) (by decide +kernel) rfl
theorem dX0_busFor_23 : decode cX0_busFor 23 = .ok (.iconst 4, 1) := q_o7 (by decide +kernel)
theorem dX0_busFor_24 : decode cX0_busFor 24 = .ok (.goto 4, 3) := q_o167 (a := 0) (b := 4) (by decide +kernel) rfl
theorem dX0_busFor_27 : decode cX0_busFor 27 = .ok (.iconst 0, 1) := q_o3 (by decide +kernel)
theorem dX0_busFor_28 : decode cX0_busFor 28 = .ok (.iadd, 1) := q_o96 (by decide +kernel)
theorem dX0_busFor_29 : decode cX0_busFor 29 = .ok (.ireturn, 1) := q_o172 (by decide +kernel)
theorem dX0_busUsed_0 : decode cX0_busUsed 0 = .ok (.iconst 0, 1) := q_o3 (by decide +kernel)
theorem dX0_busUsed_1 : decode cX0_busUsed 1 = .ok (.istore_n 1, 1) := q_o60 (by decide +kernel)
theorem dX0_busUsed_2 : decode cX0_busUsed 2 = .ok (.iconst 0, 1) := q_o3 (by decide +kernel)
theorem dX0_busUsed_3 : decode cX0_busUsed 3 = .ok (.istore_n 2, 1) := q_o61 (by decide +kernel)
theorem dX0_busUsed_4 : decode cX0_busUsed 4 = .ok (.iload_n 2, 1) := q_o28 (by decide +kernel)
theorem dX0_busUsed_5 : decode cX0_busUsed 5 = .ok (.aload_n 0, 1) := q_o42 (by decide +kernel)
theorem dX0_busUsed_6 : decode cX0_busUsed 6 = .ok (.getfield 15, 3) := q_o180 (a := 0) (b := 15) (by decide +kernel)
theorem dX0_busUsed_9 : decode cX0_busUsed 9 = .ok (.getfield 25, 3) := q_o180 (a := 0) (b := 25) (by decide +kernel)
theorem dX0_busUsed_12 : decode cX0_busUsed 12 = .ok (.if_icmp .ge 38, 3) := q_o162 (a := 0) (b := 38) (by decide +kernel) rfl
theorem dX0_busUsed_15 : decode cX0_busUsed 15 = .ok (.iload_n 1, 1) := q_o27 (by decide +kernel)
theorem dX0_busUsed_16 : decode cX0_busUsed 16 = .ok (.aload_n 0, 1) := q_o42 (by decide +kernel)
theorem dX0_busUsed_17 : decode cX0_busUsed 17 = .ok (.iload_n 2, 1) := q_o28 (by decide +kernel)
theorem dX0_busUsed_18 : decode cX0_busUsed 18 = .ok (.invokevirtual 117, 3) := q_o182 (a := 0) (b := 117) (by decide +kernel)
theorem dX0_busUsed_21 : decode cX0_busUsed 21 = .ok (.ifCond .eq 20, 3) := q_o153 (a := 0) (b := 20) (by decide +kernel) rfl
theorem dX0_busUsed_24 : decode cX0_busUsed 24 = .ok (.aload_n 0, 1) := q_o42 (by decide +kernel)
theorem dX0_busUsed_25 : decode cX0_busUsed 25 = .ok (.iload_n 2, 1) := q_o28 (by decide +kernel)
theorem dX0_busUsed_26 : decode cX0_busUsed 26 = .ok (.aload_n 0, 1) := q_o42 (by decide +kernel)
theorem dX0_busUsed_27 : decode cX0_busUsed 27 = .ok (.getfield 11, 3) := q_o180 (a := 0) (b := 11) (by decide +kernel)
theorem dX0_busUsed_30 : decode cX0_busUsed 30 = .ok (.bipush 48, 2) := q_o16 (a := 48) (by decide +kernel) rfl
theorem dX0_busUsed_32 : decode cX0_busUsed 32 = .ok (.iload_n 2, 1) := q_o28 (by decide +kernel)
theorem dX0_busUsed_33 : decode cX0_busUsed 33 = .ok (.iadd, 1) := q_o96 (by decide +kernel)
theorem dX0_busUsed_34 : decode cX0_busUsed 34 = .ok (.iaload, 1) := q_o46 (by decide +kernel)
theorem dX0_busUsed_35 : decode cX0_busUsed 35 = .ok (.invokevirtual 126, 3) := q_o182 (a := 0) (b := 126) (by decide +kernel)
theorem dX0_busUsed_38 : decode cX0_busUsed 38 = .ok (.goto 4, 3) := q_o167 (a := 0) (b := 4) (by decide +kernel) rfl
theorem dX0_busUsed_41 : decode cX0_busUsed 41 = .ok (.iconst 0, 1) := q_o3 (by decide +kernel)
theorem dX0_busUsed_42 : decode cX0_busUsed 42 = .ok (.iadd, 1) := q_o96 (by decide +kernel)
theorem dX0_busUsed_43 : decode cX0_busUsed 43 = .ok (.istore_n 1, 1) := q_o60 (by decide +kernel)
theorem dX0_busUsed_44 : decode cX0_busUsed 44 = .ok (.iinc 2 1, 3) := q_o132 (a := 2) (b := 1) (by decide +kernel) rfl
theorem dX0_busUsed_47 : decode cX0_busUsed 47 = .ok (.goto (-43), 3) := q_o167 (a := 255) (b := 213) (by decide +kernel) rfl
theorem dX0_busUsed_50 : decode cX0_busUsed 50 = .ok (.iload_n 1, 1) := q_o27 (by decide +kernel)
theorem dX0_busUsed_51 : decode cX0_busUsed 51 = .ok (.ireturn, 1) := q_o172 (by decide +kernel)
theorem dX0_byteChecked_0 : decode cX0_byteChecked 0 = .ok (.aload_n 0, 1) := q_o42 (by decide +kernel)
theorem dX0_byteChecked_1 : decode cX0_byteChecked 1 = .ok (.getfield 15, 3) := q_o180 (a := 0) (b := 15) (by decide +kernel)
theorem dX0_byteChecked_4 : decode cX0_byteChecked 4 = .ok (.getfield 35, 3) := q_o180 (a := 0) (b := 35) (by decide +kernel)
theorem dX0_byteChecked_7 : decode cX0_byteChecked 7 = .ok (.iconst 0, 1) := q_o3 (by decide +kernel)
theorem dX0_byteChecked_8 : decode cX0_byteChecked 8 = .ok (.iload_n 1, 1) := q_o27 (by decide +kernel)
theorem dX0_byteChecked_9 : decode cX0_byteChecked 9 = .ok (.iadd, 1) := q_o96 (by decide +kernel)
theorem dX0_byteChecked_10 : decode cX0_byteChecked 10 = .ok (.iaload, 1) := q_o46 (by decide +kernel)
theorem dX0_byteChecked_11 : decode cX0_byteChecked 11 = .ok (.istore_n 3, 1) := q_o62 (by decide +kernel)
theorem dX0_byteChecked_12 : decode cX0_byteChecked 12 = .ok (.iload_n 2, 1) := q_o28 (by decide +kernel)
theorem dX0_byteChecked_13 : decode cX0_byteChecked 13 = .ok (.tableswitch 131 0 6 #[43, 48, 59, 72, 85, 105, 118], 43) := by decide +kernel
theorem dX0_byteChecked_56 : decode cX0_byteChecked 56 = .ok (.bipush 8, 2) := q_o16 (a := 8) (by decide +kernel) rfl
theorem dX0_byteChecked_58 : decode cX0_byteChecked 58 = .ok (.iload_n 3, 1) := q_o29 (by decide +kernel)
theorem dX0_byteChecked_59 : decode cX0_byteChecked 59 = .ok (.iadd, 1) := q_o96 (by decide +kernel)
theorem dX0_byteChecked_60 : decode cX0_byteChecked 60 = .ok (.ireturn, 1) := q_o172 (by decide +kernel)
theorem dX0_byteChecked_61 : decode cX0_byteChecked 61 = .ok (.iload_n 3, 1) := q_o29 (by decide +kernel)
theorem dX0_byteChecked_62 : decode cX0_byteChecked 62 = .ok (.ifCond .le 8, 3) := q_o158 (a := 0) (b := 8) (by decide +kernel) rfl
theorem dX0_byteChecked_65 : decode cX0_byteChecked 65 = .ok (.bipush 9, 2) := q_o16 (a := 9) (by decide +kernel) rfl
theorem dX0_byteChecked_67 : decode cX0_byteChecked 67 = .ok (.goto 4, 3) := q_o167 (a := 0) (b := 4) (by decide +kernel) rfl
theorem dX0_byteChecked_70 : decode cX0_byteChecked 70 = .ok (.iconst 1, 1) := q_o4 (by decide +kernel)
theorem dX0_byteChecked_71 : decode cX0_byteChecked 71 = .ok (.ireturn, 1) := q_o172 (by decide +kernel)
theorem dX0_byteChecked_72 : decode cX0_byteChecked 72 = .ok (.aload_n 0, 1) := q_o42 (by decide +kernel)
theorem dX0_byteChecked_73 : decode cX0_byteChecked 73 = .ok (.getfield 15, 3) := q_o180 (a := 0) (b := 15) (by decide +kernel)
theorem dX0_byteChecked_76 : decode cX0_byteChecked 76 = .ok (.getfield 35, 3) := q_o180 (a := 0) (b := 35) (by decide +kernel)
theorem dX0_byteChecked_79 : decode cX0_byteChecked 79 = .ok (.bipush 8, 2) := q_o16 (a := 8) (by decide +kernel) rfl
theorem dX0_byteChecked_81 : decode cX0_byteChecked 81 = .ok (.iload_n 1, 1) := q_o27 (by decide +kernel)
theorem dX0_byteChecked_82 : decode cX0_byteChecked 82 = .ok (.iadd, 1) := q_o96 (by decide +kernel)
theorem dX0_byteChecked_83 : decode cX0_byteChecked 83 = .ok (.iaload, 1) := q_o46 (by decide +kernel)
theorem dX0_byteChecked_84 : decode cX0_byteChecked 84 = .ok (.ireturn, 1) := q_o172 (by decide +kernel)
theorem dX0_byteChecked_85 : decode cX0_byteChecked 85 = .ok (.aload_n 0, 1) := q_o42 (by decide +kernel)
theorem dX0_byteChecked_86 : decode cX0_byteChecked 86 = .ok (.getfield 15, 3) := q_o180 (a := 0) (b := 15) (by decide +kernel)
theorem dX0_byteChecked_89 : decode cX0_byteChecked 89 = .ok (.getfield 35, 3) := q_o180 (a := 0) (b := 35) (by decide +kernel)
theorem dX0_byteChecked_92 : decode cX0_byteChecked 92 = .ok (.bipush 16, 2) := q_o16 (a := 16) (by decide +kernel) rfl
theorem dX0_byteChecked_94 : decode cX0_byteChecked 94 = .ok (.iload_n 1, 1) := q_o27 (by decide +kernel)
theorem dX0_byteChecked_95 : decode cX0_byteChecked 95 = .ok (.iadd, 1) := q_o96 (by decide +kernel)
theorem dX0_byteChecked_96 : decode cX0_byteChecked 96 = .ok (.iaload, 1) := q_o46 (by decide +kernel)
theorem dX0_byteChecked_97 : decode cX0_byteChecked 97 = .ok (.ireturn, 1) := q_o172 (by decide +kernel)
theorem dX0_byteChecked_98 : decode cX0_byteChecked 98 = .ok (.aload_n 0, 1) := q_o42 (by decide +kernel)
theorem dX0_byteChecked_99 : decode cX0_byteChecked 99 = .ok (.getfield 11, 3) := q_o180 (a := 0) (b := 11) (by decide +kernel)
theorem dX0_byteChecked_102 : decode cX0_byteChecked 102 = .ok (.bipush 80, 2) := q_o16 (a := 80) (by decide +kernel) rfl
theorem dX0_byteChecked_104 : decode cX0_byteChecked 104 = .ok (.iload_n 1, 1) := q_o27 (by decide +kernel)
theorem dX0_byteChecked_105 : decode cX0_byteChecked 105 = .ok (.iadd, 1) := q_o96 (by decide +kernel)
theorem dX0_byteChecked_106 : decode cX0_byteChecked 106 = .ok (.iaload, 1) := q_o46 (by decide +kernel)
theorem dX0_byteChecked_107 : decode cX0_byteChecked 107 = .ok (.iconst 3, 1) := q_o6 (by decide +kernel)
theorem dX0_byteChecked_108 : decode cX0_byteChecked 108 = .ok (.if_icmp .ne 8, 3) := q_o160 (a := 0) (b := 8) (by decide +kernel) rfl
theorem dX0_byteChecked_111 : decode cX0_byteChecked 111 = .ok (.bipush 7, 2) := q_o16 (a := 7) (by decide +kernel) rfl
theorem dX0_byteChecked_113 : decode cX0_byteChecked 113 = .ok (.goto 4, 3) := q_o167 (a := 0) (b := 4) (by decide +kernel) rfl
theorem dX0_byteChecked_116 : decode cX0_byteChecked 116 = .ok (.iload_n 3, 1) := q_o29 (by decide +kernel)
theorem dX0_byteChecked_117 : decode cX0_byteChecked 117 = .ok (.ireturn, 1) := q_o172 (by decide +kernel)
theorem dX0_byteChecked_118 : decode cX0_byteChecked 118 = .ok (.aload_n 0, 1) := q_o42 (by decide +kernel)
theorem dX0_byteChecked_119 : decode cX0_byteChecked 119 = .ok (.getfield 15, 3) := q_o180 (a := 0) (b := 15) (by decide +kernel)
theorem dX0_byteChecked_122 : decode cX0_byteChecked 122 = .ok (.getfield 35, 3) := q_o180 (a := 0) (b := 35) (by decide +kernel)
theorem dX0_byteChecked_125 : decode cX0_byteChecked 125 = .ok (.bipush 32, 2) := q_o16 (a := 32) (by decide +kernel) rfl
theorem dX0_byteChecked_127 : decode cX0_byteChecked 127 = .ok (.iload_n 1, 1) := q_o27 (by decide +kernel)
theorem dX0_byteChecked_128 : decode cX0_byteChecked 128 = .ok (.iadd, 1) := q_o96 (by decide +kernel)
theorem dX0_byteChecked_129 : decode cX0_byteChecked 129 = .ok (.iaload, 1) := q_o46 (by decide +kernel)
theorem dX0_byteChecked_130 : decode cX0_byteChecked 130 = .ok (.ireturn, 1) := q_o172 (by decide +kernel)
theorem dX0_byteChecked_131 : decode cX0_byteChecked 131 = .ok (.aload_n 0, 1) := q_o42 (by decide +kernel)
theorem dX0_byteChecked_132 : decode cX0_byteChecked 132 = .ok (.getfield 15, 3) := q_o180 (a := 0) (b := 15) (by decide +kernel)
theorem dX0_byteChecked_135 : decode cX0_byteChecked 135 = .ok (.getfield 35, 3) := q_o180 (a := 0) (b := 35) (by decide +kernel)
theorem dX0_byteChecked_138 : decode cX0_byteChecked 138 = .ok (.bipush 24, 2) := q_o16 (a := 24) (by decide +kernel) rfl
theorem dX0_byteChecked_140 : decode cX0_byteChecked 140 = .ok (.iload_n 1, 1) := q_o27 (by decide +kernel)
theorem dX0_byteChecked_141 : decode cX0_byteChecked 141 = .ok (.iadd, 1) := q_o96 (by decide +kernel)
theorem dX0_byteChecked_142 : decode cX0_byteChecked 142 = .ok (.iaload, 1) := q_o46 (by decide +kernel)
theorem dX0_byteChecked_143 : decode cX0_byteChecked 143 = .ok (.ireturn, 1) := q_o172 (by decide +kernel)
theorem dX0_byteChecked_144 : decode cX0_byteChecked 144 = .ok (.bipush 10, 2) := q_o16 (a := 10) (by decide +kernel) rfl
theorem dX0_byteChecked_146 : decode cX0_byteChecked 146 = .ok (.iload_n 2, 1) := q_o28 (by decide +kernel)
theorem dX0_byteChecked_147 : decode cX0_byteChecked 147 = .ok (.iadd, 1) := q_o96 (by decide +kernel)
theorem dX0_byteChecked_148 : decode cX0_byteChecked 148 = .ok (.bipush 7, 2) := q_o16 (a := 7) (by decide +kernel) rfl
theorem dX0_byteChecked_150 : decode cX0_byteChecked 150 = .ok (.isub, 1) := q_o100 (by decide +kernel)
theorem dX0_byteChecked_151 : decode cX0_byteChecked 151 = .ok (.ireturn, 1) := q_o172 (by decide +kernel)
theorem dX0_byteOf_0 : decode cX0_byteOf 0 = .ok (.bipush 7, 2) := q_o16 (a := 7) (by decide +kernel) rfl
theorem dX0_byteOf_2 : decode cX0_byteOf 2 = .ok (.aload_n 0, 1) := q_o42 (by decide +kernel)
theorem dX0_byteOf_3 : decode cX0_byteOf 3 = .ok (.getfield 15, 3) := q_o180 (a := 0) (b := 15) (by decide +kernel)
theorem dX0_byteOf_6 : decode cX0_byteOf 6 = .ok (.getfield 35, 3) := q_o180 (a := 0) (b := 35) (by decide +kernel)
theorem dX0_byteOf_9 : decode cX0_byteOf 9 = .ok (.iconst 0, 1) := q_o3 (by decide +kernel)
theorem dX0_byteOf_10 : decode cX0_byteOf 10 = .ok (.iload_n 1, 1) := q_o27 (by decide +kernel)
theorem dX0_byteOf_11 : decode cX0_byteOf 11 = .ok (.iadd, 1) := q_o96 (by decide +kernel)
theorem dX0_byteOf_12 : decode cX0_byteOf 12 = .ok (.iaload, 1) := q_o46 (by decide +kernel)
theorem dX0_byteOf_13 : decode cX0_byteOf 13 = .ok (.iadd, 1) := q_o96 (by decide +kernel)
theorem dX0_byteOf_14 : decode cX0_byteOf 14 = .ok (.istore_n 3, 1) := q_o62 (by decide +kernel)
theorem dX0_byteOf_15 : decode cX0_byteOf 15 = .ok (.iload_n 2, 1) := q_o28 (by decide +kernel)
theorem dX0_byteOf_16 : decode cX0_byteOf 16 = .ok (.iload_n 3, 1) := q_o29 (by decide +kernel)
theorem dX0_byteOf_17 : decode cX0_byteOf 17 = .ok (.if_icmp .ge 31, 3) := q_o162 (a := 0) (b := 31) (by decide +kernel) rfl
theorem dX0_byteOf_20 : decode cX0_byteOf 20 = .ok (.iload_n 2, 1) := q_o28 (by decide +kernel)
theorem dX0_byteOf_21 : decode cX0_byteOf 21 = .ok (.ifCond .ne 20, 3) := q_o154 (a := 0) (b := 20) (by decide +kernel) rfl
theorem dX0_byteOf_24 : decode cX0_byteOf 24 = .ok (.aload_n 0, 1) := q_o42 (by decide +kernel)
theorem dX0_byteOf_25 : decode cX0_byteOf 25 = .ok (.getfield 11, 3) := q_o180 (a := 0) (b := 11) (by decide +kernel)
theorem dX0_byteOf_28 : decode cX0_byteOf 28 = .ok (.bipush 80, 2) := q_o16 (a := 80) (by decide +kernel) rfl
theorem dX0_byteOf_30 : decode cX0_byteOf 30 = .ok (.iload_n 1, 1) := q_o27 (by decide +kernel)
theorem dX0_byteOf_31 : decode cX0_byteOf 31 = .ok (.iadd, 1) := q_o96 (by decide +kernel)
theorem dX0_byteOf_32 : decode cX0_byteOf 32 = .ok (.iaload, 1) := q_o46 (by decide +kernel)
theorem dX0_byteOf_33 : decode cX0_byteOf 33 = .ok (.iconst 1, 1) := q_o4 (by decide +kernel)
theorem dX0_byteOf_34 : decode cX0_byteOf 34 = .ok (.if_icmp .ne 7, 3) := q_o160 (a := 0) (b := 7) (by decide +kernel) rfl
theorem dX0_byteOf_37 : decode cX0_byteOf 37 = .ok (.iconst 3, 1) := q_o6 (by decide +kernel)
theorem dX0_byteOf_38 : decode cX0_byteOf 38 = .ok (.goto 9, 3) := q_o167 (a := 0) (b := 9) (by decide +kernel) rfl
theorem dX0_byteOf_41 : decode cX0_byteOf 41 = .ok (.aload_n 0, 1) := q_o42 (by decide +kernel)
theorem dX0_byteOf_42 : decode cX0_byteOf 42 = .ok (.iload_n 1, 1) := q_o27 (by decide +kernel)
theorem dX0_byteOf_43 : decode cX0_byteOf 43 = .ok (.iload_n 2, 1) := q_o28 (by decide +kernel)
theorem dX0_byteOf_44 : decode cX0_byteOf 44 = .ok (.invokevirtual 138, 3) := q_o182 (a := 0) (b := 138) (by decide +kernel)
theorem dX0_byteOf_47 : decode cX0_byteOf 47 = .ok (.ireturn, 1) := q_o172 (by decide +kernel)
theorem dX0_byteOf_48 : decode cX0_byteOf 48 = .ok (.iconst 0, 1) := q_o3 (by decide +kernel)
theorem dX0_byteOf_49 : decode cX0_byteOf 49 = .ok (.istore 4, 2) := q_o54 (a := 4) (by decide +kernel)
theorem dX0_byteOf_51 : decode cX0_byteOf 51 = .ok (.iconst 0, 1) := q_o3 (by decide +kernel)
theorem dX0_byteOf_52 : decode cX0_byteOf 52 = .ok (.istore 5, 2) := q_o54 (a := 5) (by decide +kernel)
theorem dX0_byteOf_54 : decode cX0_byteOf 54 = .ok (.iload 5, 2) := q_o21 (a := 5) (by decide +kernel)
theorem dX0_byteOf_56 : decode cX0_byteOf 56 = .ok (.iload_n 3, 1) := q_o29 (by decide +kernel)
theorem dX0_byteOf_57 : decode cX0_byteOf 57 = .ok (.if_icmp .ge 21, 3) := q_o162 (a := 0) (b := 21) (by decide +kernel) rfl
theorem dX0_byteOf_60 : decode cX0_byteOf 60 = .ok (.iload 4, 2) := q_o21 (a := 4) (by decide +kernel)
theorem dX0_byteOf_62 : decode cX0_byteOf 62 = .ok (.aload_n 0, 1) := q_o42 (by decide +kernel)
theorem dX0_byteOf_63 : decode cX0_byteOf 63 = .ok (.iload_n 1, 1) := q_o27 (by decide +kernel)
theorem dX0_byteOf_64 : decode cX0_byteOf 64 = .ok (.iload 5, 2) := q_o21 (a := 5) (by decide +kernel)
theorem dX0_byteOf_66 : decode cX0_byteOf 66 = .ok (.invokevirtual 138, 3) := q_o182 (a := 0) (b := 138) (by decide +kernel)
theorem dX0_byteOf_69 : decode cX0_byteOf 69 = .ok (.iadd, 1) := q_o96 (by decide +kernel)
theorem dX0_byteOf_70 : decode cX0_byteOf 70 = .ok (.istore 4, 2) := q_o54 (a := 4) (by decide +kernel)
theorem dX0_byteOf_72 : decode cX0_byteOf 72 = .ok (.iinc 5 1, 3) := q_o132 (a := 5) (b := 1) (by decide +kernel) rfl
theorem dX0_byteOf_75 : decode cX0_byteOf 75 = .ok (.goto (-21), 3) := q_o167 (a := 255) (b := 235) (by decide +kernel) rfl
theorem dX0_byteOf_78 : decode cX0_byteOf 78 = .ok (.aload_n 0, 1) := q_o42 (by decide +kernel)
theorem dX0_byteOf_79 : decode cX0_byteOf 79 = .ok (.getfield 11, 3) := q_o180 (a := 0) (b := 11) (by decide +kernel)
theorem dX0_byteOf_82 : decode cX0_byteOf 82 = .ok (.bipush 80, 2) := q_o16 (a := 80) (by decide +kernel) rfl
theorem dX0_byteOf_84 : decode cX0_byteOf 84 = .ok (.iload_n 1, 1) := q_o27 (by decide +kernel)
theorem dX0_byteOf_85 : decode cX0_byteOf 85 = .ok (.iadd, 1) := q_o96 (by decide +kernel)
theorem dX0_byteOf_86 : decode cX0_byteOf 86 = .ok (.iaload, 1) := q_o46 (by decide +kernel)
theorem dX0_byteOf_87 : decode cX0_byteOf 87 = .ok (.iconst 2, 1) := q_o5 (by decide +kernel)
theorem dX0_byteOf_88 : decode cX0_byteOf 88 = .ok (.if_icmp .ne 10, 3) := q_o160 (a := 0) (b := 10) (by decide +kernel) rfl
theorem dX0_byteOf_91 : decode cX0_byteOf 91 = .ok (.iconst 1, 1) := q_o4 (by decide +kernel)
theorem dX0_byteOf_92 : decode cX0_byteOf 92 = .ok (.iload 4, 2) := q_o21 (a := 4) (by decide +kernel)
theorem dX0_byteOf_94 : decode cX0_byteOf 94 = .ok (.isub, 1) := q_o100 (by decide +kernel)
theorem dX0_byteOf_95 : decode cX0_byteOf 95 = .ok (.goto 6, 3) := q_o167 (a := 0) (b := 6) (by decide +kernel) rfl
theorem dX0_byteOf_98 : decode cX0_byteOf 98 = .ok (.iload 4, 2) := q_o21 (a := 4) (by decide +kernel)
theorem dX0_byteOf_100 : decode cX0_byteOf 100 = .ok (.ineg, 1) := by decide +kernel
theorem dX0_byteOf_101 : decode cX0_byteOf 101 = .ok (.sipush 255, 3) := q_o17 (a := 0) (b := 255) (by decide +kernel) rfl
theorem dX0_byteOf_104 : decode cX0_byteOf 104 = .ok (.iand, 1) := q_o126 (by decide +kernel)
theorem dX0_byteOf_105 : decode cX0_byteOf 105 = .ok (.ireturn, 1) := q_o172 (by decide +kernel)
theorem dX0_canFallAsleep_0 : decode cX0_canFallAsleep 0 = .ok (.iconst 0, 1) := q_o3 (by decide +kernel)
theorem dX0_canFallAsleep_1 : decode cX0_canFallAsleep 1 = .ok (.istore_n 2, 1) := q_o61 (by decide +kernel)
theorem dX0_canFallAsleep_2 : decode cX0_canFallAsleep 2 = .ok (.iload_n 2, 1) := q_o28 (by decide +kernel)
theorem dX0_canFallAsleep_3 : decode cX0_canFallAsleep 3 = .ok (.aload_n 0, 1) := q_o42 (by decide +kernel)
theorem dX0_canFallAsleep_4 : decode cX0_canFallAsleep 4 = .ok (.getfield 15, 3) := q_o180 (a := 0) (b := 15) (by decide +kernel)
theorem dX0_canFallAsleep_7 : decode cX0_canFallAsleep 7 = .ok (.getfield 25, 3) := q_o180 (a := 0) (b := 25) (by decide +kernel)
theorem dX0_canFallAsleep_10 : decode cX0_canFallAsleep 10 = .ok (.if_icmp .ge 40, 3) := q_o162 (a := 0) (b := 40) (by decide +kernel) rfl
theorem dX0_canFallAsleep_13 : decode cX0_canFallAsleep 13 = .ok (.aload_n 0, 1) := q_o42 (by decide +kernel)
theorem dX0_canFallAsleep_14 : decode cX0_canFallAsleep 14 = .ok (.getfield 11, 3) := q_o180 (a := 0) (b := 11) (by decide +kernel)
theorem dX0_canFallAsleep_17 : decode cX0_canFallAsleep 17 = .ok (.bipush 32, 2) := q_o16 (a := 32) (by decide +kernel) rfl
theorem dX0_canFallAsleep_19 : decode cX0_canFallAsleep 19 = .ok (.iload_n 2, 1) := q_o28 (by decide +kernel)
theorem dX0_canFallAsleep_20 : decode cX0_canFallAsleep 20 = .ok (.iadd, 1) := q_o96 (by decide +kernel)
theorem dX0_canFallAsleep_21 : decode cX0_canFallAsleep 21 = .ok (.iaload, 1) := q_o46 (by decide +kernel)
theorem dX0_canFallAsleep_22 : decode cX0_canFallAsleep 22 = .ok (.iload_n 1, 1) := q_o27 (by decide +kernel)
theorem dX0_canFallAsleep_23 : decode cX0_canFallAsleep 23 = .ok (.if_icmp .ne 21, 3) := q_o160 (a := 0) (b := 21) (by decide +kernel) rfl
theorem dX0_canFallAsleep_26 : decode cX0_canFallAsleep 26 = .ok (.aload_n 0, 1) := q_o42 (by decide +kernel)
theorem dX0_canFallAsleep_27 : decode cX0_canFallAsleep 27 = .ok (.iload_n 2, 1) := q_o28 (by decide +kernel)
theorem dX0_canFallAsleep_28 : decode cX0_canFallAsleep 28 = .ok (.invokevirtual 58, 3) := q_o182 (a := 0) (b := 58) (by decide +kernel)
theorem dX0_canFallAsleep_31 : decode cX0_canFallAsleep 31 = .ok (.ifCond .ne 11, 3) := q_o154 (a := 0) (b := 11) (by decide +kernel) rfl
theorem dX0_canFallAsleep_34 : decode cX0_canFallAsleep 34 = .ok (.aload_n 0, 1) := q_o42 (by decide +kernel)
theorem dX0_canFallAsleep_35 : decode cX0_canFallAsleep 35 = .ok (.iload_n 2, 1) := q_o28 (by decide +kernel)
theorem dX0_canFallAsleep_36 : decode cX0_canFallAsleep 36 = .ok (.invokevirtual 117, 3) := q_o182 (a := 0) (b := 117) (by decide +kernel)
theorem dX0_canFallAsleep_39 : decode cX0_canFallAsleep 39 = .ok (.ifCond .eq 5, 3) := q_o153 (a := 0) (b := 5) (by decide +kernel) rfl
theorem dX0_canFallAsleep_42 : decode cX0_canFallAsleep 42 = .ok (.iconst 0, 1) := q_o3 (by decide +kernel)
theorem dX0_canFallAsleep_43 : decode cX0_canFallAsleep 43 = .ok (.ireturn, 1) := q_o172 (by decide +kernel)
theorem dX0_canFallAsleep_44 : decode cX0_canFallAsleep 44 = .ok (.iinc 2 1, 3) := q_o132 (a := 2) (b := 1) (by decide +kernel) rfl
theorem dX0_canFallAsleep_47 : decode cX0_canFallAsleep 47 = .ok (.goto (-45), 3) := q_o167 (a := 255) (b := 211) (by decide +kernel) rfl
theorem dX0_canFallAsleep_50 : decode cX0_canFallAsleep 50 = .ok (.aload_n 0, 1) := q_o42 (by decide +kernel)
theorem dX0_canFallAsleep_51 : decode cX0_canFallAsleep 51 = .ok (.getfield 11, 3) := q_o180 (a := 0) (b := 11) (by decide +kernel)
theorem dX0_canFallAsleep_54 : decode cX0_canFallAsleep 54 = .ok (.iconst 0, 1) := q_o3 (by decide +kernel)
theorem dX0_canFallAsleep_55 : decode cX0_canFallAsleep 55 = .ok (.iload_n 1, 1) := q_o27 (by decide +kernel)
theorem dX0_canFallAsleep_56 : decode cX0_canFallAsleep 56 = .ok (.iadd, 1) := q_o96 (by decide +kernel)
theorem dX0_canFallAsleep_57 : decode cX0_canFallAsleep 57 = .ok (.iaload, 1) := q_o46 (by decide +kernel)
theorem dX0_canFallAsleep_58 : decode cX0_canFallAsleep 58 = .ok (.bipush 6, 2) := q_o16 (a := 6) (by decide +kernel) rfl
theorem dX0_canFallAsleep_60 : decode cX0_canFallAsleep 60 = .ok (.if_icmp .ne 7, 3) := q_o160 (a := 0) (b := 7) (by decide +kernel) rfl
theorem dX0_canFallAsleep_63 : decode cX0_canFallAsleep 63 = .ok (.iconst 1, 1) := q_o4 (by decide +kernel)
theorem dX0_canFallAsleep_64 : decode cX0_canFallAsleep 64 = .ok (.goto 4, 3) := q_o167 (a := 0) (b := 4) (by decide +kernel) rfl
theorem dX0_canFallAsleep_67 : decode cX0_canFallAsleep 67 = .ok (.iconst 0, 1) := q_o3 (by decide +kernel)
theorem dX0_canFallAsleep_68 : decode cX0_canFallAsleep 68 = .ok (.ireturn, 1) := q_o172 (by decide +kernel)
theorem dX0_canWake_0 : decode cX0_canWake 0 = .ok (.aload_n 0, 1) := q_o42 (by decide +kernel)
theorem dX0_canWake_1 : decode cX0_canWake 1 = .ok (.getfield 11, 3) := q_o180 (a := 0) (b := 11) (by decide +kernel)
theorem dX0_canWake_4 : decode cX0_canWake 4 = .ok (.bipush 72, 2) := q_o16 (a := 72) (by decide +kernel) rfl
theorem dX0_canWake_6 : decode cX0_canWake 6 = .ok (.iload_n 1, 1) := q_o27 (by decide +kernel)
theorem dX0_canWake_7 : decode cX0_canWake 7 = .ok (.iadd, 1) := q_o96 (by decide +kernel)
theorem dX0_canWake_8 : decode cX0_canWake 8 = .ok (.iaload, 1) := q_o46 (by decide +kernel)
theorem dX0_canWake_9 : decode cX0_canWake 9 = .ok (.iconst 1, 1) := q_o4 (by decide +kernel)
theorem dX0_canWake_10 : decode cX0_canWake 10 = .ok (.if_icmp .ne 7, 3) := q_o160 (a := 0) (b := 7) (by decide +kernel) rfl
theorem dX0_canWake_13 : decode cX0_canWake 13 = .ok (.iconst 0, 1) := q_o3 (by decide +kernel)
theorem dX0_canWake_14 : decode cX0_canWake 14 = .ok (.goto 15, 3) := q_o167 (a := 0) (b := 15) (by decide +kernel) rfl
theorem dX0_canWake_17 : decode cX0_canWake 17 = .ok (.aload_n 0, 1) := q_o42 (by decide +kernel)
theorem dX0_canWake_18 : decode cX0_canWake 18 = .ok (.getfield 15, 3) := q_o180 (a := 0) (b := 15) (by decide +kernel)
theorem dX0_canWake_21 : decode cX0_canWake 21 = .ok (.getfield 35, 3) := q_o180 (a := 0) (b := 35) (by decide +kernel)
theorem dX0_canWake_24 : decode cX0_canWake 24 = .ok (.bipush 16, 2) := q_o16 (a := 16) (by decide +kernel) rfl
theorem dX0_canWake_26 : decode cX0_canWake 26 = .ok (.iload_n 1, 1) := q_o27 (by decide +kernel)
theorem dX0_canWake_27 : decode cX0_canWake 27 = .ok (.iadd, 1) := q_o96 (by decide +kernel)
theorem dX0_canWake_28 : decode cX0_canWake 28 = .ok (.iaload, 1) := q_o46 (by decide +kernel)
theorem dX0_canWake_29 : decode cX0_canWake 29 = .ok (.istore_n 2, 1) := q_o61 (by decide +kernel)
theorem dX0_canWake_30 : decode cX0_canWake 30 = .ok (.aload_n 0, 1) := q_o42 (by decide +kernel)
theorem dX0_canWake_31 : decode cX0_canWake 31 = .ok (.aload_n 0, 1) := q_o42 (by decide +kernel)
theorem dX0_canWake_32 : decode cX0_canWake 32 = .ok (.getfield 11, 3) := q_o180 (a := 0) (b := 11) (by decide +kernel)
theorem dX0_canWake_35 : decode cX0_canWake 35 = .ok (.bipush 32, 2) := q_o16 (a := 32) (by decide +kernel) rfl
theorem dX0_canWake_37 : decode cX0_canWake 37 = .ok (.iload_n 1, 1) := q_o27 (by decide +kernel)
theorem dX0_canWake_38 : decode cX0_canWake 38 = .ok (.iadd, 1) := q_o96 (by decide +kernel)
theorem dX0_canWake_39 : decode cX0_canWake 39 = .ok (.iaload, 1) := q_o46 (by decide +kernel)
theorem dX0_canWake_40 : decode cX0_canWake 40 = .ok (.invokevirtual 170, 3) := q_o182 (a := 0) (b := 170) (by decide +kernel)
theorem dX0_canWake_43 : decode cX0_canWake 43 = .ok (.ifCond .ne 24, 3) := q_o154 (a := 0) (b := 24) (by decide +kernel) rfl
theorem dX0_canWake_46 : decode cX0_canWake 46 = .ok (.aload_n 0, 1) := q_o42 (by decide +kernel)
theorem dX0_canWake_47 : decode cX0_canWake 47 = .ok (.iload_n 1, 1) := q_o27 (by decide +kernel)
theorem dX0_canWake_48 : decode cX0_canWake 48 = .ok (.iload_n 2, 1) := q_o28 (by decide +kernel)
theorem dX0_canWake_49 : decode cX0_canWake 49 = .ok (.invokevirtual 173, 3) := q_o182 (a := 0) (b := 173) (by decide +kernel)
theorem dX0_canWake_52 : decode cX0_canWake 52 = .ok (.ifCond .eq 15, 3) := q_o153 (a := 0) (b := 15) (by decide +kernel) rfl
theorem dX0_canWake_55 : decode cX0_canWake 55 = .ok (.aload_n 0, 1) := q_o42 (by decide +kernel)
theorem dX0_canWake_56 : decode cX0_canWake 56 = .ok (.iload_n 1, 1) := q_o27 (by decide +kernel)
theorem dX0_canWake_57 : decode cX0_canWake 57 = .ok (.invokevirtual 176, 3) := q_o182 (a := 0) (b := 176) (by decide +kernel)
theorem dX0_canWake_60 : decode cX0_canWake 60 = .ok (.ifCond .eq 7, 3) := q_o153 (a := 0) (b := 7) (by decide +kernel) rfl
theorem dX0_canWake_63 : decode cX0_canWake 63 = .ok (.iconst 1, 1) := q_o4 (by decide +kernel)
theorem dX0_canWake_64 : decode cX0_canWake 64 = .ok (.goto 4, 3) := q_o167 (a := 0) (b := 4) (by decide +kernel) rfl
theorem dX0_canWake_67 : decode cX0_canWake 67 = .ok (.iconst 0, 1) := q_o3 (by decide +kernel)
theorem dX0_canWake_68 : decode cX0_canWake 68 = .ok (.ireturn, 1) := q_o172 (by decide +kernel)
theorem dX0_firstInLine_0 : decode cX0_firstInLine 0 = .ok (.iconst (-1), 1) := q_o2 (by decide +kernel)
theorem dX0_firstInLine_1 : decode cX0_firstInLine 1 = .ok (.istore_n 1, 1) := q_o60 (by decide +kernel)
theorem dX0_firstInLine_2 : decode cX0_firstInLine 2 = .ok (.iconst 0, 1) := q_o3 (by decide +kernel)
theorem dX0_firstInLine_3 : decode cX0_firstInLine 3 = .ok (.istore_n 2, 1) := q_o61 (by decide +kernel)
theorem dX0_firstInLine_4 : decode cX0_firstInLine 4 = .ok (.iload_n 2, 1) := q_o28 (by decide +kernel)
theorem dX0_firstInLine_5 : decode cX0_firstInLine 5 = .ok (.aload_n 0, 1) := q_o42 (by decide +kernel)
theorem dX0_firstInLine_6 : decode cX0_firstInLine 6 = .ok (.getfield 15, 3) := q_o180 (a := 0) (b := 15) (by decide +kernel)
theorem dX0_firstInLine_9 : decode cX0_firstInLine 9 = .ok (.getfield 25, 3) := q_o180 (a := 0) (b := 25) (by decide +kernel)
theorem dX0_firstInLine_12 : decode cX0_firstInLine 12 = .ok (.if_icmp .ge 95, 3) := q_o162 (a := 0) (b := 95) (by decide +kernel) rfl
theorem dX0_firstInLine_15 : decode cX0_firstInLine 15 = .ok (.aload_n 0, 1) := q_o42 (by decide +kernel)
theorem dX0_firstInLine_16 : decode cX0_firstInLine 16 = .ok (.getfield 11, 3) := q_o180 (a := 0) (b := 11) (by decide +kernel)
theorem dX0_firstInLine_19 : decode cX0_firstInLine 19 = .ok (.bipush 32, 2) := q_o16 (a := 32) (by decide +kernel) rfl
theorem dX0_firstInLine_21 : decode cX0_firstInLine 21 = .ok (.iload_n 2, 1) := q_o28 (by decide +kernel)
theorem dX0_firstInLine_22 : decode cX0_firstInLine 22 = .ok (.iadd, 1) := q_o96 (by decide +kernel)
theorem dX0_firstInLine_23 : decode cX0_firstInLine 23 = .ok (.iaload, 1) := q_o46 (by decide +kernel)
theorem dX0_firstInLine_24 : decode cX0_firstInLine 24 = .ok (.istore_n 3, 1) := q_o62 (by decide +kernel)
theorem dX0_firstInLine_25 : decode cX0_firstInLine 25 = .ok (.iload_n 3, 1) := q_o29 (by decide +kernel)
theorem dX0_firstInLine_26 : decode cX0_firstInLine 26 = .ok (.bipush 8, 2) := q_o16 (a := 8) (by decide +kernel) rfl
theorem dX0_firstInLine_28 : decode cX0_firstInLine 28 = .ok (.if_icmp .eq 21, 3) := q_o159 (a := 0) (b := 21) (by decide +kernel) rfl
theorem dX0_firstInLine_31 : decode cX0_firstInLine 31 = .ok (.aload_n 0, 1) := q_o42 (by decide +kernel)
theorem dX0_firstInLine_32 : decode cX0_firstInLine 32 = .ok (.iload_n 3, 1) := q_o29 (by decide +kernel)
theorem dX0_firstInLine_33 : decode cX0_firstInLine 33 = .ok (.bipush 6, 2) := q_o16 (a := 6) (by decide +kernel) rfl
theorem dX0_firstInLine_35 : decode cX0_firstInLine 35 = .ok (.invokevirtual 62, 3) := q_o182 (a := 0) (b := 62) (by decide +kernel)
theorem dX0_firstInLine_38 : decode cX0_firstInLine 38 = .ok (.ifCond .eq 15, 3) := q_o153 (a := 0) (b := 15) (by decide +kernel) rfl
theorem dX0_firstInLine_41 : decode cX0_firstInLine 41 = .ok (.aload_n 0, 1) := q_o42 (by decide +kernel)
theorem dX0_firstInLine_42 : decode cX0_firstInLine 42 = .ok (.iload_n 3, 1) := q_o29 (by decide +kernel)
theorem dX0_firstInLine_43 : decode cX0_firstInLine 43 = .ok (.invokevirtual 170, 3) := q_o182 (a := 0) (b := 170) (by decide +kernel)
theorem dX0_firstInLine_46 : decode cX0_firstInLine 46 = .ok (.ifCond .ne 7, 3) := q_o154 (a := 0) (b := 7) (by decide +kernel) rfl
theorem dX0_firstInLine_49 : decode cX0_firstInLine 49 = .ok (.iconst 1, 1) := q_o4 (by decide +kernel)
theorem dX0_firstInLine_50 : decode cX0_firstInLine 50 = .ok (.goto 4, 3) := q_o167 (a := 0) (b := 4) (by decide +kernel) rfl
theorem dX0_firstInLine_53 : decode cX0_firstInLine 53 = .ok (.iconst 0, 1) := q_o3 (by decide +kernel)
theorem dX0_firstInLine_54 : decode cX0_firstInLine 54 = .ok (.istore 4, 2) := q_o54 (a := 4) (by decide +kernel)
theorem dX0_firstInLine_56 : decode cX0_firstInLine 56 = .ok (.aload_n 0, 1) := q_o42 (by decide +kernel)
theorem dX0_firstInLine_57 : decode cX0_firstInLine 57 = .ok (.getfield 11, 3) := q_o180 (a := 0) (b := 11) (by decide +kernel)
theorem dX0_firstInLine_60 : decode cX0_firstInLine 60 = .ok (.iconst 0, 1) := q_o3 (by decide +kernel)
theorem dX0_firstInLine_61 : decode cX0_firstInLine 61 = .ok (.iload_n 2, 1) := q_o28 (by decide +kernel)
theorem dX0_firstInLine_62 : decode cX0_firstInLine 62 = .ok (.iadd, 1) := q_o96 (by decide +kernel)
theorem dX0_firstInLine_63 : decode cX0_firstInLine 63 = .ok (.iaload, 1) := q_o46 (by decide +kernel)
theorem dX0_firstInLine_64 : decode cX0_firstInLine 64 = .ok (.iconst 2, 1) := q_o5 (by decide +kernel)
theorem dX0_firstInLine_65 : decode cX0_firstInLine 65 = .ok (.if_icmp .ne 36, 3) := q_o160 (a := 0) (b := 36) (by decide +kernel) rfl
theorem dX0_firstInLine_68 : decode cX0_firstInLine 68 = .ok (.iload 4, 2) := q_o21 (a := 4) (by decide +kernel)
theorem dX0_firstInLine_70 : decode cX0_firstInLine 70 = .ok (.ifCond .eq 31, 3) := q_o153 (a := 0) (b := 31) (by decide +kernel) rfl
theorem dX0_firstInLine_73 : decode cX0_firstInLine 73 = .ok (.iload_n 1, 1) := q_o27 (by decide +kernel)
theorem dX0_firstInLine_74 : decode cX0_firstInLine 74 = .ok (.iconst (-1), 1) := q_o2 (by decide +kernel)
theorem dX0_firstInLine_75 : decode cX0_firstInLine 75 = .ok (.if_icmp .eq 24, 3) := q_o159 (a := 0) (b := 24) (by decide +kernel) rfl
theorem dX0_firstInLine_78 : decode cX0_firstInLine 78 = .ok (.aload_n 0, 1) := q_o42 (by decide +kernel)
theorem dX0_firstInLine_79 : decode cX0_firstInLine 79 = .ok (.getfield 11, 3) := q_o180 (a := 0) (b := 11) (by decide +kernel)
theorem dX0_firstInLine_82 : decode cX0_firstInLine 82 = .ok (.bipush 16, 2) := q_o16 (a := 16) (by decide +kernel) rfl
theorem dX0_firstInLine_84 : decode cX0_firstInLine 84 = .ok (.iload_n 2, 1) := q_o28 (by decide +kernel)
theorem dX0_firstInLine_85 : decode cX0_firstInLine 85 = .ok (.iadd, 1) := q_o96 (by decide +kernel)
theorem dX0_firstInLine_86 : decode cX0_firstInLine 86 = .ok (.iaload, 1) := q_o46 (by decide +kernel)
theorem dX0_firstInLine_87 : decode cX0_firstInLine 87 = .ok (.aload_n 0, 1) := q_o42 (by decide +kernel)
theorem dX0_firstInLine_88 : decode cX0_firstInLine 88 = .ok (.getfield 11, 3) := q_o180 (a := 0) (b := 11) (by decide +kernel)
theorem dX0_firstInLine_91 : decode cX0_firstInLine 91 = .ok (.bipush 16, 2) := q_o16 (a := 16) (by decide +kernel) rfl
theorem dX0_firstInLine_93 : decode cX0_firstInLine 93 = .ok (.iload_n 1, 1) := q_o27 (by decide +kernel)
theorem dX0_firstInLine_94 : decode cX0_firstInLine 94 = .ok (.iadd, 1) := q_o96 (by decide +kernel)
theorem dX0_firstInLine_95 : decode cX0_firstInLine 95 = .ok (.iaload, 1) := q_o46 (by decide +kernel)
theorem dX0_firstInLine_96 : decode cX0_firstInLine 96 = .ok (.if_icmp .ge 5, 3) := q_o162 (a := 0) (b := 5) (by decide +kernel) rfl
theorem dX0_firstInLine_99 : decode cX0_firstInLine 99 = .ok (.iload_n 2, 1) := q_o28 (by decide +kernel)
theorem dX0_firstInLine_100 : decode cX0_firstInLine 100 = .ok (.istore_n 1, 1) := q_o60 (by decide +kernel)
theorem dX0_firstInLine_101 : decode cX0_firstInLine 101 = .ok (.iinc 2 1, 3) := q_o132 (a := 2) (b := 1) (by decide +kernel) rfl
theorem dX0_firstInLine_104 : decode cX0_firstInLine 104 = .ok (.goto (-100), 3) := q_o167 (a := 255) (b := 156) (by decide +kernel) rfl
theorem dX0_firstInLine_107 : decode cX0_firstInLine 107 = .ok (.iload_n 1, 1) := q_o27 (by decide +kernel)
theorem dX0_firstInLine_108 : decode cX0_firstInLine 108 = .ok (.ireturn, 1) := q_o172 (by decide +kernel)
theorem dX0_freeAddress_0 : decode cX0_freeAddress 0 = .ok (.iconst 1, 1) := q_o4 (by decide +kernel)
theorem dX0_freeAddress_1 : decode cX0_freeAddress 1 = .ok (.istore_n 1, 1) := q_o60 (by decide +kernel)
theorem dX0_freeAddress_2 : decode cX0_freeAddress 2 = .ok (.iload_n 1, 1) := q_o27 (by decide +kernel)
theorem dX0_freeAddress_3 : decode cX0_freeAddress 3 = .ok (.aload_n 0, 1) := q_o42 (by decide +kernel)
theorem dX0_freeAddress_4 : decode cX0_freeAddress 4 = .ok (.getfield 15, 3) := q_o180 (a := 0) (b := 15) (by decide +kernel)
theorem dX0_freeAddress_7 : decode cX0_freeAddress 7 = .ok (.getfield 84, 3) := q_o180 (a := 0) (b := 84) (by decide +kernel)
theorem dX0_freeAddress_10 : decode cX0_freeAddress 10 = .ok (.bipush 7, 2) := q_o16 (a := 7) (by decide +kernel) rfl
theorem dX0_freeAddress_12 : decode cX0_freeAddress 12 = .ok (.iaload, 1) := q_o46 (by decide +kernel)
theorem dX0_freeAddress_13 : decode cX0_freeAddress 13 = .ok (.if_icmp .gt 20, 3) := q_o163 (a := 0) (b := 20) (by decide +kernel) rfl
theorem dX0_freeAddress_16 : decode cX0_freeAddress 16 = .ok (.aload_n 0, 1) := q_o42 (by decide +kernel)
theorem dX0_freeAddress_17 : decode cX0_freeAddress 17 = .ok (.iload_n 1, 1) := q_o27 (by decide +kernel)
theorem dX0_freeAddress_18 : decode cX0_freeAddress 18 = .ok (.invokevirtual 87, 3) := q_o182 (a := 0) (b := 87) (by decide +kernel)
theorem dX0_freeAddress_21 : decode cX0_freeAddress 21 = .ok (.iconst (-1), 1) := q_o2 (by decide +kernel)
theorem dX0_freeAddress_22 : decode cX0_freeAddress 22 = .ok (.if_icmp .ne 5, 3) := q_o160 (a := 0) (b := 5) (by decide +kernel) rfl
theorem dX0_freeAddress_25 : decode cX0_freeAddress 25 = .ok (.iload_n 1, 1) := q_o27 (by decide +kernel)
theorem dX0_freeAddress_26 : decode cX0_freeAddress 26 = .ok (.ireturn, 1) := q_o172 (by decide +kernel)
theorem dX0_freeAddress_27 : decode cX0_freeAddress 27 = .ok (.iinc 1 1, 3) := q_o132 (a := 1) (b := 1) (by decide +kernel) rfl
theorem dX0_freeAddress_30 : decode cX0_freeAddress 30 = .ok (.goto (-28), 3) := q_o167 (a := 255) (b := 228) (by decide +kernel) rfl
theorem dX0_freeAddress_33 : decode cX0_freeAddress 33 = .ok (.iconst (-1), 1) := q_o2 (by decide +kernel)
theorem dX0_freeAddress_34 : decode cX0_freeAddress 34 = .ok (.ireturn, 1) := q_o172 (by decide +kernel)
theorem dX0_freeAddresses_0 : decode cX0_freeAddresses 0 = .ok (.aload_n 0, 1) := q_o42 (by decide +kernel)
theorem dX0_freeAddresses_1 : decode cX0_freeAddresses 1 = .ok (.getfield 15, 3) := q_o180 (a := 0) (b := 15) (by decide +kernel)
theorem dX0_freeAddresses_4 : decode cX0_freeAddresses 4 = .ok (.getfield 84, 3) := q_o180 (a := 0) (b := 84) (by decide +kernel)
theorem dX0_freeAddresses_7 : decode cX0_freeAddresses 7 = .ok (.bipush 7, 2) := q_o16 (a := 7) (by decide +kernel) rfl
theorem dX0_freeAddresses_9 : decode cX0_freeAddresses 9 = .ok (.iaload, 1) := q_o46 (by decide +kernel)
theorem dX0_freeAddresses_10 : decode cX0_freeAddresses 10 = .ok (.aload_n 0, 1) := q_o42 (by decide +kernel)
theorem dX0_freeAddresses_11 : decode cX0_freeAddresses 11 = .ok (.invokevirtual 90, 3) := q_o182 (a := 0) (b := 90) (by decide +kernel)
theorem dX0_freeAddresses_14 : decode cX0_freeAddresses 14 = .ok (.isub, 1) := q_o100 (by decide +kernel)
theorem dX0_freeAddresses_15 : decode cX0_freeAddresses 15 = .ok (.ireturn, 1) := q_o172 (by decide +kernel)
theorem dX0_greatestTaker_0 : decode cX0_greatestTaker 0 = .ok (.iconst (-1), 1) := q_o2 (by decide +kernel)
theorem dX0_greatestTaker_1 : decode cX0_greatestTaker 1 = .ok (.istore_n 2, 1) := q_o61 (by decide +kernel)
theorem dX0_greatestTaker_2 : decode cX0_greatestTaker 2 = .ok (.iconst 0, 1) := q_o3 (by decide +kernel)
theorem dX0_greatestTaker_3 : decode cX0_greatestTaker 3 = .ok (.istore_n 3, 1) := q_o62 (by decide +kernel)
theorem dX0_greatestTaker_4 : decode cX0_greatestTaker 4 = .ok (.iload_n 3, 1) := q_o29 (by decide +kernel)
theorem dX0_greatestTaker_5 : decode cX0_greatestTaker 5 = .ok (.aload_n 0, 1) := q_o42 (by decide +kernel)
theorem dX0_greatestTaker_6 : decode cX0_greatestTaker 6 = .ok (.getfield 15, 3) := q_o180 (a := 0) (b := 15) (by decide +kernel)
theorem dX0_greatestTaker_9 : decode cX0_greatestTaker 9 = .ok (.getfield 25, 3) := q_o180 (a := 0) (b := 25) (by decide +kernel)
theorem dX0_greatestTaker_12 : decode cX0_greatestTaker 12 = .ok (.if_icmp .ge 67, 3) := q_o162 (a := 0) (b := 67) (by decide +kernel) rfl
theorem dX0_greatestTaker_15 : decode cX0_greatestTaker 15 = .ok (.aload_n 0, 1) := q_o42 (by decide +kernel)
theorem dX0_greatestTaker_16 : decode cX0_greatestTaker 16 = .ok (.getfield 11, 3) := q_o180 (a := 0) (b := 11) (by decide +kernel)
theorem dX0_greatestTaker_19 : decode cX0_greatestTaker 19 = .ok (.bipush 32, 2) := q_o16 (a := 32) (by decide +kernel) rfl
theorem dX0_greatestTaker_21 : decode cX0_greatestTaker 21 = .ok (.iload_n 3, 1) := q_o29 (by decide +kernel)
theorem dX0_greatestTaker_22 : decode cX0_greatestTaker 22 = .ok (.iadd, 1) := q_o96 (by decide +kernel)
theorem dX0_greatestTaker_23 : decode cX0_greatestTaker 23 = .ok (.iaload, 1) := q_o46 (by decide +kernel)
theorem dX0_greatestTaker_24 : decode cX0_greatestTaker 24 = .ok (.iload_n 1, 1) := q_o27 (by decide +kernel)
theorem dX0_greatestTaker_25 : decode cX0_greatestTaker 25 = .ok (.if_icmp .ne 20, 3) := q_o160 (a := 0) (b := 20) (by decide +kernel) rfl
theorem dX0_greatestTaker_28 : decode cX0_greatestTaker 28 = .ok (.aload_n 0, 1) := q_o42 (by decide +kernel)
theorem dX0_greatestTaker_29 : decode cX0_greatestTaker 29 = .ok (.getfield 11, 3) := q_o180 (a := 0) (b := 11) (by decide +kernel)
theorem dX0_greatestTaker_32 : decode cX0_greatestTaker 32 = .ok (.iconst 0, 1) := q_o3 (by decide +kernel)
theorem dX0_greatestTaker_33 : decode cX0_greatestTaker 33 = .ok (.iload_n 3, 1) := q_o29 (by decide +kernel)
theorem dX0_greatestTaker_34 : decode cX0_greatestTaker 34 = .ok (.iadd, 1) := q_o96 (by decide +kernel)
theorem dX0_greatestTaker_35 : decode cX0_greatestTaker 35 = .ok (.iaload, 1) := q_o46 (by decide +kernel)
theorem dX0_greatestTaker_36 : decode cX0_greatestTaker 36 = .ok (.bipush 6, 2) := q_o16 (a := 6) (by decide +kernel) rfl
theorem dX0_greatestTaker_38 : decode cX0_greatestTaker 38 = .ok (.if_icmp .ne 7, 3) := q_o160 (a := 0) (b := 7) (by decide +kernel) rfl
theorem dX0_greatestTaker_41 : decode cX0_greatestTaker 41 = .ok (.iconst 1, 1) := q_o4 (by decide +kernel)
theorem dX0_greatestTaker_42 : decode cX0_greatestTaker 42 = .ok (.goto 4, 3) := q_o167 (a := 0) (b := 4) (by decide +kernel) rfl
theorem dX0_greatestTaker_45 : decode cX0_greatestTaker 45 = .ok (.iconst 0, 1) := q_o3 (by decide +kernel)
theorem dX0_greatestTaker_46 : decode cX0_greatestTaker 46 = .ok (.istore 4, 2) := q_o54 (a := 4) (by decide +kernel)
theorem dX0_greatestTaker_48 : decode cX0_greatestTaker 48 = .ok (.iload 4, 2) := q_o21 (a := 4) (by decide +kernel)
theorem dX0_greatestTaker_50 : decode cX0_greatestTaker 50 = .ok (.ifCond .eq 23, 3) := q_o153 (a := 0) (b := 23) (by decide +kernel) rfl
theorem dX0_greatestTaker_53 : decode cX0_greatestTaker 53 = .ok (.iload_n 2, 1) := q_o28 (by decide +kernel)
theorem dX0_greatestTaker_54 : decode cX0_greatestTaker 54 = .ok (.iconst (-1), 1) := q_o2 (by decide +kernel)
theorem dX0_greatestTaker_55 : decode cX0_greatestTaker 55 = .ok (.if_icmp .eq 16, 3) := q_o159 (a := 0) (b := 16) (by decide +kernel) rfl
theorem dX0_greatestTaker_58 : decode cX0_greatestTaker 58 = .ok (.aload_n 0, 1) := q_o42 (by decide +kernel)
theorem dX0_greatestTaker_59 : decode cX0_greatestTaker 59 = .ok (.iload_n 3, 1) := q_o29 (by decide +kernel)
theorem dX0_greatestTaker_60 : decode cX0_greatestTaker 60 = .ok (.invokevirtual 102, 3) := q_o182 (a := 0) (b := 102) (by decide +kernel)
theorem dX0_greatestTaker_63 : decode cX0_greatestTaker 63 = .ok (.aload_n 0, 1) := q_o42 (by decide +kernel)
theorem dX0_greatestTaker_64 : decode cX0_greatestTaker 64 = .ok (.iload_n 2, 1) := q_o28 (by decide +kernel)
theorem dX0_greatestTaker_65 : decode cX0_greatestTaker 65 = .ok (.invokevirtual 102, 3) := q_o182 (a := 0) (b := 102) (by decide +kernel)
theorem dX0_greatestTaker_68 : decode cX0_greatestTaker 68 = .ok (.if_icmp .lt 5, 3) := q_o161 (a := 0) (b := 5) (by decide +kernel) rfl
theorem dX0_greatestTaker_71 : decode cX0_greatestTaker 71 = .ok (.iload_n 3, 1) := q_o29 (by decide +kernel)
theorem dX0_greatestTaker_72 : decode cX0_greatestTaker 72 = .ok (.istore_n 2, 1) := q_o61 (by decide +kernel)
theorem dX0_greatestTaker_73 : decode cX0_greatestTaker 73 = .ok (.iinc 3 1, 3) := q_o132 (a := 3) (b := 1) (by decide +kernel) rfl
theorem dX0_greatestTaker_76 : decode cX0_greatestTaker 76 = .ok (.goto (-72), 3) := q_o167 (a := 255) (b := 184) (by decide +kernel) rfl
theorem dX0_greatestTaker_79 : decode cX0_greatestTaker 79 = .ok (.iload_n 2, 1) := q_o28 (by decide +kernel)
theorem dX0_greatestTaker_80 : decode cX0_greatestTaker 80 = .ok (.ireturn, 1) := q_o172 (by decide +kernel)
theorem dX0_helpFor_0 : decode cX0_helpFor 0 = .ok (.aload_n 0, 1) := q_o42 (by decide +kernel)
theorem dX0_helpFor_1 : decode cX0_helpFor 1 = .ok (.getfield 15, 3) := q_o180 (a := 0) (b := 15) (by decide +kernel)
theorem dX0_helpFor_4 : decode cX0_helpFor 4 = .ok (.getfield 35, 3) := q_o180 (a := 0) (b := 35) (by decide +kernel)
theorem dX0_helpFor_7 : decode cX0_helpFor 7 = .ok (.bipush 32, 2) := q_o16 (a := 32) (by decide +kernel) rfl
theorem dX0_helpFor_9 : decode cX0_helpFor 9 = .ok (.iload_n 1, 1) := q_o27 (by decide +kernel)
theorem dX0_helpFor_10 : decode cX0_helpFor 10 = .ok (.iadd, 1) := q_o96 (by decide +kernel)
theorem dX0_helpFor_11 : decode cX0_helpFor 11 = .ok (.iaload, 1) := q_o46 (by decide +kernel)
theorem dX0_helpFor_12 : decode cX0_helpFor 12 = .ok (.iload_n 2, 1) := q_o28 (by decide +kernel)
theorem dX0_helpFor_13 : decode cX0_helpFor 13 = .ok (.ifCond .ne 8, 3) := q_o154 (a := 0) (b := 8) (by decide +kernel) rfl
theorem dX0_helpFor_16 : decode cX0_helpFor 16 = .ok (.bipush 8, 2) := q_o16 (a := 8) (by decide +kernel) rfl
theorem dX0_helpFor_18 : decode cX0_helpFor 18 = .ok (.goto 4, 3) := q_o167 (a := 0) (b := 4) (by decide +kernel) rfl
theorem dX0_helpFor_21 : decode cX0_helpFor 21 = .ok (.iconst 2, 1) := q_o5 (by decide +kernel)
theorem dX0_helpFor_22 : decode cX0_helpFor 22 = .ok (.imul, 1) := q_o104 (by decide +kernel)
theorem dX0_helpFor_23 : decode cX0_helpFor 23 = .ok (.ireturn, 1) := q_o172 (by decide +kernel)
theorem dX0_helpOf_0 : decode cX0_helpOf 0 = .ok (.iconst 0, 1) := q_o3 (by decide +kernel)
theorem dX0_helpOf_1 : decode cX0_helpOf 1 = .ok (.istore_n 2, 1) := q_o61 (by decide +kernel)
theorem dX0_helpOf_2 : decode cX0_helpOf 2 = .ok (.iconst 0, 1) := q_o3 (by decide +kernel)
theorem dX0_helpOf_3 : decode cX0_helpOf 3 = .ok (.istore_n 3, 1) := q_o62 (by decide +kernel)
theorem dX0_helpOf_4 : decode cX0_helpOf 4 = .ok (.iload_n 3, 1) := q_o29 (by decide +kernel)
theorem dX0_helpOf_5 : decode cX0_helpOf 5 = .ok (.aload_n 0, 1) := q_o42 (by decide +kernel)
theorem dX0_helpOf_6 : decode cX0_helpOf 6 = .ok (.getfield 15, 3) := q_o180 (a := 0) (b := 15) (by decide +kernel)
theorem dX0_helpOf_9 : decode cX0_helpOf 9 = .ok (.getfield 25, 3) := q_o180 (a := 0) (b := 25) (by decide +kernel)
theorem dX0_helpOf_12 : decode cX0_helpOf 12 = .ok (.if_icmp .ge 56, 3) := q_o162 (a := 0) (b := 56) (by decide +kernel) rfl
theorem dX0_helpOf_15 : decode cX0_helpOf 15 = .ok (.aload_n 0, 1) := q_o42 (by decide +kernel)
theorem dX0_helpOf_16 : decode cX0_helpOf 16 = .ok (.iload_n 3, 1) := q_o29 (by decide +kernel)
theorem dX0_helpOf_17 : decode cX0_helpOf 17 = .ok (.invokevirtual 117, 3) := q_o182 (a := 0) (b := 117) (by decide +kernel)
theorem dX0_helpOf_20 : decode cX0_helpOf 20 = .ok (.ifCond .eq 42, 3) := q_o153 (a := 0) (b := 42) (by decide +kernel) rfl
theorem dX0_helpOf_23 : decode cX0_helpOf 23 = .ok (.aload_n 0, 1) := q_o42 (by decide +kernel)
theorem dX0_helpOf_24 : decode cX0_helpOf 24 = .ok (.getfield 11, 3) := q_o180 (a := 0) (b := 11) (by decide +kernel)
theorem dX0_helpOf_27 : decode cX0_helpOf 27 = .ok (.bipush 48, 2) := q_o16 (a := 48) (by decide +kernel) rfl
theorem dX0_helpOf_29 : decode cX0_helpOf 29 = .ok (.iload_n 3, 1) := q_o29 (by decide +kernel)
theorem dX0_helpOf_30 : decode cX0_helpOf 30 = .ok (.iadd, 1) := q_o96 (by decide +kernel)
theorem dX0_helpOf_31 : decode cX0_helpOf 31 = .ok (.iaload, 1) := q_o46 (by decide +kernel)
theorem dX0_helpOf_32 : decode cX0_helpOf 32 = .ok (.iconst 2, 1) := q_o5 (by decide +kernel)
theorem dX0_helpOf_33 : decode cX0_helpOf 33 = .ok (.if_icmp .ge 29, 3) := q_o162 (a := 0) (b := 29) (by decide +kernel) rfl
theorem dX0_helpOf_36 : decode cX0_helpOf 36 = .ok (.aload_n 0, 1) := q_o42 (by decide +kernel)
theorem dX0_helpOf_37 : decode cX0_helpOf 37 = .ok (.iload_n 3, 1) := q_o29 (by decide +kernel)
theorem dX0_helpOf_38 : decode cX0_helpOf 38 = .ok (.invokevirtual 120, 3) := q_o182 (a := 0) (b := 120) (by decide +kernel)
theorem dX0_helpOf_41 : decode cX0_helpOf 41 = .ok (.iload_n 1, 1) := q_o27 (by decide +kernel)
theorem dX0_helpOf_42 : decode cX0_helpOf 42 = .ok (.if_icmp .ne 20, 3) := q_o160 (a := 0) (b := 20) (by decide +kernel) rfl
theorem dX0_helpOf_45 : decode cX0_helpOf 45 = .ok (.iload_n 2, 1) := q_o28 (by decide +kernel)
theorem dX0_helpOf_46 : decode cX0_helpOf 46 = .ok (.aload_n 0, 1) := q_o42 (by decide +kernel)
theorem dX0_helpOf_47 : decode cX0_helpOf 47 = .ok (.iload_n 3, 1) := q_o29 (by decide +kernel)
theorem dX0_helpOf_48 : decode cX0_helpOf 48 = .ok (.aload_n 0, 1) := q_o42 (by decide +kernel)
theorem dX0_helpOf_49 : decode cX0_helpOf 49 = .ok (.getfield 11, 3) := q_o180 (a := 0) (b := 11) (by decide +kernel)
theorem dX0_helpOf_52 : decode cX0_helpOf 52 = .ok (.bipush 48, 2) := q_o16 (a := 48) (by decide +kernel) rfl
theorem dX0_helpOf_54 : decode cX0_helpOf 54 = .ok (.iload_n 3, 1) := q_o29 (by decide +kernel)
theorem dX0_helpOf_55 : decode cX0_helpOf 55 = .ok (.iadd, 1) := q_o96 (by decide +kernel)
theorem dX0_helpOf_56 : decode cX0_helpOf 56 = .ok (.iaload, 1) := q_o46 (by decide +kernel)
theorem dX0_helpOf_57 : decode cX0_helpOf 57 = .ok (.invokevirtual 123, 3) := q_o182 (a := 0) (b := 123) (by decide +kernel)
theorem dX0_helpOf_60 : decode cX0_helpOf 60 = .ok (.iadd, 1) := q_o96 (by decide +kernel)
theorem dX0_helpOf_61 : decode cX0_helpOf 61 = .ok (.istore_n 2, 1) := q_o61 (by decide +kernel)
theorem dX0_helpOf_62 : decode cX0_helpOf 62 = .ok (.iinc 3 1, 3) := q_o132 (a := 3) (b := 1) (by decide +kernel) rfl
theorem dX0_helpOf_65 : decode cX0_helpOf 65 = .ok (.goto (-61), 3) := q_o167 (a := 255) (b := 195) (by decide +kernel) rfl
theorem dX0_helpOf_68 : decode cX0_helpOf 68 = .ok (.iload_n 2, 1) := q_o28 (by decide +kernel)
theorem dX0_helpOf_69 : decode cX0_helpOf 69 = .ok (.ireturn, 1) := q_o172 (by decide +kernel)
theorem dX0_helperAbove_0 : decode cX0_helperAbove 0 = .ok (.aload_n 0, 1) := q_o42 (by decide +kernel)
theorem dX0_helperAbove_1 : decode cX0_helperAbove 1 = .ok (.getfield 11, 3) := q_o180 (a := 0) (b := 11) (by decide +kernel)
theorem dX0_helperAbove_4 : decode cX0_helperAbove 4 = .ok (.bipush 32, 2) := q_o16 (a := 32) (by decide +kernel) rfl
theorem dX0_helperAbove_6 : decode cX0_helperAbove 6 = .ok (.iload_n 1, 1) := q_o27 (by decide +kernel)
theorem dX0_helperAbove_7 : decode cX0_helperAbove 7 = .ok (.iadd, 1) := q_o96 (by decide +kernel)
theorem dX0_helperAbove_8 : decode cX0_helperAbove 8 = .ok (.iaload, 1) := q_o46 (by decide +kernel)
theorem dX0_helperAbove_9 : decode cX0_helperAbove 9 = .ok (.istore_n 2, 1) := q_o61 (by decide +kernel)
theorem dX0_helperAbove_10 : decode cX0_helperAbove 10 = .ok (.iconst 0, 1) := q_o3 (by decide +kernel)
theorem dX0_helperAbove_11 : decode cX0_helperAbove 11 = .ok (.istore_n 3, 1) := q_o62 (by decide +kernel)
theorem dX0_helperAbove_12 : decode cX0_helperAbove 12 = .ok (.iload_n 3, 1) := q_o29 (by decide +kernel)
theorem dX0_helperAbove_13 : decode cX0_helperAbove 13 = .ok (.bipush 8, 2) := q_o16 (a := 8) (by decide +kernel) rfl
theorem dX0_helperAbove_15 : decode cX0_helperAbove 15 = .ok (.if_icmp .ge 44, 3) := q_o162 (a := 0) (b := 44) (by decide +kernel) rfl
theorem dX0_helperAbove_18 : decode cX0_helperAbove 18 = .ok (.iload_n 2, 1) := q_o28 (by decide +kernel)
theorem dX0_helperAbove_19 : decode cX0_helperAbove 19 = .ok (.ifCond .lt 40, 3) := q_o155 (a := 0) (b := 40) (by decide +kernel) rfl
theorem dX0_helperAbove_22 : decode cX0_helperAbove 22 = .ok (.iload_n 2, 1) := q_o28 (by decide +kernel)
theorem dX0_helperAbove_23 : decode cX0_helperAbove 23 = .ok (.bipush 8, 2) := q_o16 (a := 8) (by decide +kernel) rfl
theorem dX0_helperAbove_25 : decode cX0_helperAbove 25 = .ok (.if_icmp .ge 34, 3) := q_o162 (a := 0) (b := 34) (by decide +kernel) rfl
theorem dX0_helperAbove_28 : decode cX0_helperAbove 28 = .ok (.aload_n 0, 1) := q_o42 (by decide +kernel)
theorem dX0_helperAbove_29 : decode cX0_helperAbove 29 = .ok (.getfield 11, 3) := q_o180 (a := 0) (b := 11) (by decide +kernel)
theorem dX0_helperAbove_32 : decode cX0_helperAbove 32 = .ok (.bipush 48, 2) := q_o16 (a := 48) (by decide +kernel) rfl
theorem dX0_helperAbove_34 : decode cX0_helperAbove 34 = .ok (.iload_n 2, 1) := q_o28 (by decide +kernel)
theorem dX0_helperAbove_35 : decode cX0_helperAbove 35 = .ok (.iadd, 1) := q_o96 (by decide +kernel)
theorem dX0_helperAbove_36 : decode cX0_helperAbove 36 = .ok (.iaload, 1) := q_o46 (by decide +kernel)
theorem dX0_helperAbove_37 : decode cX0_helperAbove 37 = .ok (.iconst 2, 1) := q_o5 (by decide +kernel)
theorem dX0_helperAbove_38 : decode cX0_helperAbove 38 = .ok (.if_icmp .ne 5, 3) := q_o160 (a := 0) (b := 5) (by decide +kernel) rfl
theorem dX0_helperAbove_41 : decode cX0_helperAbove 41 = .ok (.iload_n 2, 1) := q_o28 (by decide +kernel)
theorem dX0_helperAbove_42 : decode cX0_helperAbove 42 = .ok (.ireturn, 1) := q_o172 (by decide +kernel)
theorem dX0_helperAbove_43 : decode cX0_helperAbove 43 = .ok (.aload_n 0, 1) := q_o42 (by decide +kernel)
theorem dX0_helperAbove_44 : decode cX0_helperAbove 44 = .ok (.getfield 11, 3) := q_o180 (a := 0) (b := 11) (by decide +kernel)
theorem dX0_helperAbove_47 : decode cX0_helperAbove 47 = .ok (.bipush 32, 2) := q_o16 (a := 32) (by decide +kernel) rfl
theorem dX0_helperAbove_49 : decode cX0_helperAbove 49 = .ok (.iload_n 2, 1) := q_o28 (by decide +kernel)
theorem dX0_helperAbove_50 : decode cX0_helperAbove 50 = .ok (.iadd, 1) := q_o96 (by decide +kernel)
theorem dX0_helperAbove_51 : decode cX0_helperAbove 51 = .ok (.iaload, 1) := q_o46 (by decide +kernel)
theorem dX0_helperAbove_52 : decode cX0_helperAbove 52 = .ok (.istore_n 2, 1) := q_o61 (by decide +kernel)
theorem dX0_helperAbove_53 : decode cX0_helperAbove 53 = .ok (.iinc 3 1, 3) := q_o132 (a := 3) (b := 1) (by decide +kernel) rfl
theorem dX0_helperAbove_56 : decode cX0_helperAbove 56 = .ok (.goto (-44), 3) := q_o167 (a := 255) (b := 212) (by decide +kernel) rfl
theorem dX0_helperAbove_59 : decode cX0_helperAbove 59 = .ok (.iload_n 2, 1) := q_o28 (by decide +kernel)
theorem dX0_helperAbove_60 : decode cX0_helperAbove 60 = .ok (.ireturn, 1) := q_o172 (by decide +kernel)
theorem dX0_isBoundless_0 : decode cX0_isBoundless 0 = .ok (.iload_n 1, 1) := q_o27 (by decide +kernel)
theorem dX0_isBoundless_1 : decode cX0_isBoundless 1 = .ok (.bipush 8, 2) := q_o16 (a := 8) (by decide +kernel) rfl
theorem dX0_isBoundless_3 : decode cX0_isBoundless 3 = .ok (.if_icmp .eq 26, 3) := q_o159 (a := 0) (b := 26) (by decide +kernel) rfl
theorem dX0_isBoundless_6 : decode cX0_isBoundless 6 = .ok (.iload_n 1, 1) := q_o27 (by decide +kernel)
theorem dX0_isBoundless_7 : decode cX0_isBoundless 7 = .ok (.ifCond .lt 26, 3) := q_o155 (a := 0) (b := 26) (by decide +kernel) rfl
theorem dX0_isBoundless_10 : decode cX0_isBoundless 10 = .ok (.iload_n 1, 1) := q_o27 (by decide +kernel)
theorem dX0_isBoundless_11 : decode cX0_isBoundless 11 = .ok (.bipush 8, 2) := q_o16 (a := 8) (by decide +kernel) rfl
theorem dX0_isBoundless_13 : decode cX0_isBoundless 13 = .ok (.if_icmp .ge 20, 3) := q_o162 (a := 0) (b := 20) (by decide +kernel) rfl
theorem dX0_isBoundless_16 : decode cX0_isBoundless 16 = .ok (.aload_n 0, 1) := q_o42 (by decide +kernel)
theorem dX0_isBoundless_17 : decode cX0_isBoundless 17 = .ok (.getfield 11, 3) := q_o180 (a := 0) (b := 11) (by decide +kernel)
theorem dX0_isBoundless_20 : decode cX0_isBoundless 20 = .ok (.bipush 72, 2) := q_o16 (a := 72) (by decide +kernel) rfl
theorem dX0_isBoundless_22 : decode cX0_isBoundless 22 = .ok (.iload_n 1, 1) := q_o27 (by decide +kernel)
theorem dX0_isBoundless_23 : decode cX0_isBoundless 23 = .ok (.iadd, 1) := q_o96 (by decide +kernel)
theorem dX0_isBoundless_24 : decode cX0_isBoundless 24 = .ok (.iaload, 1) := q_o46 (by decide +kernel)
theorem dX0_isBoundless_25 : decode cX0_isBoundless 25 = .ok (.iconst 1, 1) := q_o4 (by decide +kernel)
theorem dX0_isBoundless_26 : decode cX0_isBoundless 26 = .ok (.if_icmp .ne 7, 3) := q_o160 (a := 0) (b := 7) (by decide +kernel) rfl
theorem dX0_isBoundless_29 : decode cX0_isBoundless 29 = .ok (.iconst 1, 1) := q_o4 (by decide +kernel)
theorem dX0_isBoundless_30 : decode cX0_isBoundless 30 = .ok (.goto 4, 3) := q_o167 (a := 0) (b := 4) (by decide +kernel) rfl
theorem dX0_isBoundless_33 : decode cX0_isBoundless 33 = .ok (.iconst 0, 1) := q_o3 (by decide +kernel)
theorem dX0_isBoundless_34 : decode cX0_isBoundless 34 = .ok (.ireturn, 1) := q_o172 (by decide +kernel)
theorem dX0_isSound_0 : decode cX0_isSound 0 = .ok (.iconst 0, 1) := q_o3 (by decide +kernel)
theorem dX0_isSound_1 : decode cX0_isSound 1 = .ok (.istore_n 2, 1) := q_o61 (by decide +kernel)
theorem dX0_isSound_2 : decode cX0_isSound 2 = .ok (.iconst 0, 1) := q_o3 (by decide +kernel)
theorem dX0_isSound_3 : decode cX0_isSound 3 = .ok (.istore_n 3, 1) := q_o62 (by decide +kernel)
theorem dX0_isSound_4 : decode cX0_isSound 4 = .ok (.iload_n 3, 1) := q_o29 (by decide +kernel)
theorem dX0_isSound_5 : decode cX0_isSound 5 = .ok (.aload_n 0, 1) := q_o42 (by decide +kernel)
theorem dX0_isSound_6 : decode cX0_isSound 6 = .ok (.getfield 15, 3) := q_o180 (a := 0) (b := 15) (by decide +kernel)
theorem dX0_isSound_9 : decode cX0_isSound 9 = .ok (.iload_n 1, 1) := q_o27 (by decide +kernel)
theorem dX0_isSound_10 : decode cX0_isSound 10 = .ok (.invokevirtual 141, 3) := q_o182 (a := 0) (b := 141) (by decide +kernel)
theorem dX0_isSound_13 : decode cX0_isSound 13 = .ok (.if_icmp .ge 18, 3) := q_o162 (a := 0) (b := 18) (by decide +kernel) rfl
theorem dX0_isSound_16 : decode cX0_isSound 16 = .ok (.iload_n 2, 1) := q_o28 (by decide +kernel)
theorem dX0_isSound_17 : decode cX0_isSound 17 = .ok (.aload_n 0, 1) := q_o42 (by decide +kernel)
theorem dX0_isSound_18 : decode cX0_isSound 18 = .ok (.iload_n 1, 1) := q_o27 (by decide +kernel)
theorem dX0_isSound_19 : decode cX0_isSound 19 = .ok (.iload_n 3, 1) := q_o29 (by decide +kernel)
theorem dX0_isSound_20 : decode cX0_isSound 20 = .ok (.invokevirtual 144, 3) := q_o182 (a := 0) (b := 144) (by decide +kernel)
theorem dX0_isSound_23 : decode cX0_isSound 23 = .ok (.iadd, 1) := q_o96 (by decide +kernel)
theorem dX0_isSound_24 : decode cX0_isSound 24 = .ok (.istore_n 2, 1) := q_o61 (by decide +kernel)
theorem dX0_isSound_25 : decode cX0_isSound 25 = .ok (.iinc 3 1, 3) := q_o132 (a := 3) (b := 1) (by decide +kernel) rfl
theorem dX0_isSound_28 : decode cX0_isSound 28 = .ok (.goto (-24), 3) := q_o167 (a := 255) (b := 232) (by decide +kernel) rfl
theorem dX0_isSound_31 : decode cX0_isSound 31 = .ok (.iload_n 2, 1) := q_o28 (by decide +kernel)
theorem dX0_isSound_32 : decode cX0_isSound 32 = .ok (.sipush 255, 3) := q_o17 (a := 0) (b := 255) (by decide +kernel) rfl
theorem dX0_isSound_35 : decode cX0_isSound 35 = .ok (.iand, 1) := q_o126 (by decide +kernel)
theorem dX0_isSound_36 : decode cX0_isSound 36 = .ok (.ifCond .ne 25, 3) := q_o154 (a := 0) (b := 25) (by decide +kernel) rfl
theorem dX0_isSound_39 : decode cX0_isSound 39 = .ok (.aload_n 0, 1) := q_o42 (by decide +kernel)
theorem dX0_isSound_40 : decode cX0_isSound 40 = .ok (.iload_n 1, 1) := q_o27 (by decide +kernel)
theorem dX0_isSound_41 : decode cX0_isSound 41 = .ok (.iconst 0, 1) := q_o3 (by decide +kernel)
theorem dX0_isSound_42 : decode cX0_isSound 42 = .ok (.invokevirtual 144, 3) := q_o182 (a := 0) (b := 144) (by decide +kernel)
theorem dX0_isSound_45 : decode cX0_isSound 45 = .ok (.bipush 8, 2) := q_o16 (a := 8) (by decide +kernel) rfl
theorem dX0_isSound_47 : decode cX0_isSound 47 = .ok (.aload_n 0, 1) := q_o42 (by decide +kernel)
theorem dX0_isSound_48 : decode cX0_isSound 48 = .ok (.iload_n 1, 1) := q_o27 (by decide +kernel)
theorem dX0_isSound_49 : decode cX0_isSound 49 = .ok (.iconst 4, 1) := q_o7 (by decide +kernel)
theorem dX0_isSound_50 : decode cX0_isSound 50 = .ok (.invokevirtual 144, 3) := q_o182 (a := 0) (b := 144) (by decide +kernel)
theorem dX0_isSound_53 : decode cX0_isSound 53 = .ok (.iadd, 1) := q_o96 (by decide +kernel)
theorem dX0_isSound_54 : decode cX0_isSound 54 = .ok (.if_icmp .ne 7, 3) := q_o160 (a := 0) (b := 7) (by decide +kernel) rfl
theorem dX0_isSound_57 : decode cX0_isSound 57 = .ok (.iconst 1, 1) := q_o4 (by decide +kernel)
theorem dX0_isSound_58 : decode cX0_isSound 58 = .ok (.goto 4, 3) := q_o167 (a := 0) (b := 4) (by decide +kernel) rfl
theorem dX0_isSound_61 : decode cX0_isSound 61 = .ok (.iconst 0, 1) := q_o3 (by decide +kernel)
theorem dX0_isSound_62 : decode cX0_isSound 62 = .ok (.ireturn, 1) := q_o172 (by decide +kernel)
theorem dX0_isStill_0 : decode cX0_isStill 0 = .ok (.aload_n 0, 1) := q_o42 (by decide +kernel)
theorem dX0_isStill_1 : decode cX0_isStill 1 = .ok (.iconst 1, 1) := q_o4 (by decide +kernel)
theorem dX0_isStill_2 : decode cX0_isStill 2 = .ok (.invokevirtual 42, 3) := q_o182 (a := 0) (b := 42) (by decide +kernel)
theorem dX0_isStill_5 : decode cX0_isStill 5 = .ok (.ifCond .ne 23, 3) := q_o154 (a := 0) (b := 23) (by decide +kernel) rfl
theorem dX0_isStill_8 : decode cX0_isStill 8 = .ok (.aload_n 0, 1) := q_o42 (by decide +kernel)
theorem dX0_isStill_9 : decode cX0_isStill 9 = .ok (.invokevirtual 46, 3) := q_o182 (a := 0) (b := 46) (by decide +kernel)
theorem dX0_isStill_12 : decode cX0_isStill 12 = .ok (.iconst (-1), 1) := q_o2 (by decide +kernel)
theorem dX0_isStill_13 : decode cX0_isStill 13 = .ok (.if_icmp .ne 15, 3) := q_o160 (a := 0) (b := 15) (by decide +kernel) rfl
theorem dX0_isStill_16 : decode cX0_isStill 16 = .ok (.aload_n 0, 1) := q_o42 (by decide +kernel)
theorem dX0_isStill_17 : decode cX0_isStill 17 = .ok (.invokevirtual 50, 3) := q_o182 (a := 0) (b := 50) (by decide +kernel)
theorem dX0_isStill_20 : decode cX0_isStill 20 = .ok (.iconst (-1), 1) := q_o2 (by decide +kernel)
theorem dX0_isStill_21 : decode cX0_isStill 21 = .ok (.if_icmp .ne 7, 3) := q_o160 (a := 0) (b := 7) (by decide +kernel) rfl
theorem dX0_isStill_24 : decode cX0_isStill 24 = .ok (.iconst 1, 1) := q_o4 (by decide +kernel)
theorem dX0_isStill_25 : decode cX0_isStill 25 = .ok (.goto 4, 3) := q_o167 (a := 0) (b := 4) (by decide +kernel) rfl
theorem dX0_isStill_28 : decode cX0_isStill 28 = .ok (.iconst 0, 1) := q_o3 (by decide +kernel)
theorem dX0_isStill_29 : decode cX0_isStill 29 = .ok (.ireturn, 1) := q_o172 (by decide +kernel)
theorem dX0_leftOf_0 : decode cX0_leftOf 0 = .ok (.iload_n 1, 1) := q_o27 (by decide +kernel)
theorem dX0_leftOf_1 : decode cX0_leftOf 1 = .ok (.ifCond .lt 9, 3) := q_o155 (a := 0) (b := 9) (by decide +kernel) rfl
theorem dX0_leftOf_4 : decode cX0_leftOf 4 = .ok (.iload_n 1, 1) := q_o27 (by decide +kernel)
theorem dX0_leftOf_5 : decode cX0_leftOf 5 = .ok (.bipush 8, 2) := q_o16 (a := 8) (by decide +kernel) rfl
theorem dX0_leftOf_7 : decode cX0_leftOf 7 = .ok (.if_icmp .lt 5, 3) := q_o161 (a := 0) (b := 5) (by decide +kernel) rfl
theorem dX0_leftOf_10 : decode cX0_leftOf 10 = .ok (.iconst 0, 1) := q_o3 (by decide +kernel)
theorem dX0_leftOf_11 : decode cX0_leftOf 11 = .ok (.ireturn, 1) := q_o172 (by decide +kernel)
theorem dX0_leftOf_12 : decode cX0_leftOf 12 = .ok (.aload_n 0, 1) := q_o42 (by decide +kernel)
theorem dX0_leftOf_13 : decode cX0_leftOf 13 = .ok (.aload_n 0, 1) := q_o42 (by decide +kernel)
theorem dX0_leftOf_14 : decode cX0_leftOf 14 = .ok (.getfield 11, 3) := q_o180 (a := 0) (b := 11) (by decide +kernel)
theorem dX0_leftOf_17 : decode cX0_leftOf 17 = .ok (.bipush 32, 2) := q_o16 (a := 32) (by decide +kernel) rfl
theorem dX0_leftOf_19 : decode cX0_leftOf 19 = .ok (.iload_n 1, 1) := q_o27 (by decide +kernel)
theorem dX0_leftOf_20 : decode cX0_leftOf 20 = .ok (.iadd, 1) := q_o96 (by decide +kernel)
theorem dX0_leftOf_21 : decode cX0_leftOf 21 = .ok (.iaload, 1) := q_o46 (by decide +kernel)
theorem dX0_leftOf_22 : decode cX0_leftOf 22 = .ok (.invokevirtual 99, 3) := q_o182 (a := 0) (b := 99) (by decide +kernel)
theorem dX0_leftOf_25 : decode cX0_leftOf 25 = .ok (.aload_n 0, 1) := q_o42 (by decide +kernel)
theorem dX0_leftOf_26 : decode cX0_leftOf 26 = .ok (.getfield 15, 3) := q_o180 (a := 0) (b := 15) (by decide +kernel)
theorem dX0_leftOf_29 : decode cX0_leftOf 29 = .ok (.getfield 35, 3) := q_o180 (a := 0) (b := 35) (by decide +kernel)
theorem dX0_leftOf_32 : decode cX0_leftOf 32 = .ok (.bipush 16, 2) := q_o16 (a := 16) (by decide +kernel) rfl
theorem dX0_leftOf_34 : decode cX0_leftOf 34 = .ok (.iload_n 1, 1) := q_o27 (by decide +kernel)
theorem dX0_leftOf_35 : decode cX0_leftOf 35 = .ok (.iadd, 1) := q_o96 (by decide +kernel)
theorem dX0_leftOf_36 : decode cX0_leftOf 36 = .ok (.iaload, 1) := q_o46 (by decide +kernel)
theorem dX0_leftOf_37 : decode cX0_leftOf 37 = .ok (.isub, 1) := q_o100 (by decide +kernel)
theorem dX0_leftOf_38 : decode cX0_leftOf 38 = .ok (.istore_n 3, 1) := q_o62 (by decide +kernel)
theorem dX0_leftOf_39 : decode cX0_leftOf 39 = .ok (.iconst 0, 1) := q_o3 (by decide +kernel)
theorem dX0_leftOf_40 : decode cX0_leftOf 40 = .ok (.istore 4, 2) := q_o54 (a := 4) (by decide +kernel)
theorem dX0_leftOf_42 : decode cX0_leftOf 42 = .ok (.iload 4, 2) := q_o21 (a := 4) (by decide +kernel)
theorem dX0_leftOf_44 : decode cX0_leftOf 44 = .ok (.aload_n 0, 1) := q_o42 (by decide +kernel)
theorem dX0_leftOf_45 : decode cX0_leftOf 45 = .ok (.getfield 15, 3) := q_o180 (a := 0) (b := 15) (by decide +kernel)
theorem dX0_leftOf_48 : decode cX0_leftOf 48 = .ok (.getfield 25, 3) := q_o180 (a := 0) (b := 25) (by decide +kernel)
theorem dX0_leftOf_51 : decode cX0_leftOf 51 = .ok (.if_icmp .ge 52, 3) := q_o162 (a := 0) (b := 52) (by decide +kernel) rfl
theorem dX0_leftOf_54 : decode cX0_leftOf 54 = .ok (.iload 4, 2) := q_o21 (a := 4) (by decide +kernel)
theorem dX0_leftOf_56 : decode cX0_leftOf 56 = .ok (.iload_n 2, 1) := q_o28 (by decide +kernel)
theorem dX0_leftOf_57 : decode cX0_leftOf 57 = .ok (.if_icmp .eq 40, 3) := q_o159 (a := 0) (b := 40) (by decide +kernel) rfl
theorem dX0_leftOf_60 : decode cX0_leftOf 60 = .ok (.aload_n 0, 1) := q_o42 (by decide +kernel)
theorem dX0_leftOf_61 : decode cX0_leftOf 61 = .ok (.getfield 11, 3) := q_o180 (a := 0) (b := 11) (by decide +kernel)
theorem dX0_leftOf_64 : decode cX0_leftOf 64 = .ok (.bipush 32, 2) := q_o16 (a := 32) (by decide +kernel) rfl
theorem dX0_leftOf_66 : decode cX0_leftOf 66 = .ok (.iload 4, 2) := q_o21 (a := 4) (by decide +kernel)
theorem dX0_leftOf_68 : decode cX0_leftOf 68 = .ok (.iadd, 1) := q_o96 (by decide +kernel)
theorem dX0_leftOf_69 : decode cX0_leftOf 69 = .ok (.iaload, 1) := q_o46 (by decide +kernel)
theorem dX0_leftOf_70 : decode cX0_leftOf 70 = .ok (.iload_n 1, 1) := q_o27 (by decide +kernel)
theorem dX0_leftOf_71 : decode cX0_leftOf 71 = .ok (.if_icmp .ne 26, 3) := q_o160 (a := 0) (b := 26) (by decide +kernel) rfl
theorem dX0_leftOf_74 : decode cX0_leftOf 74 = .ok (.aload_n 0, 1) := q_o42 (by decide +kernel)
theorem dX0_leftOf_75 : decode cX0_leftOf 75 = .ok (.getfield 11, 3) := q_o180 (a := 0) (b := 11) (by decide +kernel)
theorem dX0_leftOf_78 : decode cX0_leftOf 78 = .ok (.iconst 0, 1) := q_o3 (by decide +kernel)
theorem dX0_leftOf_79 : decode cX0_leftOf 79 = .ok (.iload 4, 2) := q_o21 (a := 4) (by decide +kernel)
theorem dX0_leftOf_81 : decode cX0_leftOf 81 = .ok (.iadd, 1) := q_o96 (by decide +kernel)
theorem dX0_leftOf_82 : decode cX0_leftOf 82 = .ok (.iaload, 1) := q_o46 (by decide +kernel)
theorem dX0_leftOf_83 : decode cX0_leftOf 83 = .ok (.bipush 6, 2) := q_o16 (a := 6) (by decide +kernel) rfl
theorem dX0_leftOf_85 : decode cX0_leftOf 85 = .ok (.if_icmp .ne 12, 3) := q_o160 (a := 0) (b := 12) (by decide +kernel) rfl
theorem dX0_leftOf_88 : decode cX0_leftOf 88 = .ok (.iload_n 3, 1) := q_o29 (by decide +kernel)
theorem dX0_leftOf_89 : decode cX0_leftOf 89 = .ok (.aload_n 0, 1) := q_o42 (by decide +kernel)
theorem dX0_leftOf_90 : decode cX0_leftOf 90 = .ok (.iload 4, 2) := q_o21 (a := 4) (by decide +kernel)
theorem dX0_leftOf_92 : decode cX0_leftOf 92 = .ok (.invokevirtual 102, 3) := q_o182 (a := 0) (b := 102) (by decide +kernel)
theorem dX0_leftOf_95 : decode cX0_leftOf 95 = .ok (.isub, 1) := q_o100 (by decide +kernel)
theorem dX0_leftOf_96 : decode cX0_leftOf 96 = .ok (.istore_n 3, 1) := q_o62 (by decide +kernel)
theorem dX0_leftOf_97 : decode cX0_leftOf 97 = .ok (.iinc 4 1, 3) := q_o132 (a := 4) (b := 1) (by decide +kernel) rfl
theorem dX0_leftOf_100 : decode cX0_leftOf 100 = .ok (.goto (-58), 3) := q_o167 (a := 255) (b := 198) (by decide +kernel) rfl
theorem dX0_leftOf_103 : decode cX0_leftOf 103 = .ok (.iload_n 3, 1) := q_o29 (by decide +kernel)
theorem dX0_leftOf_104 : decode cX0_leftOf 104 = .ok (.ireturn, 1) := q_o172 (by decide +kernel)
theorem dX0_portGives_0 : decode cX0_portGives 0 = .ok (.iload_n 1, 1) := q_o27 (by decide +kernel)
theorem dX0_portGives_1 : decode cX0_portGives 1 = .ok (.bipush 8, 2) := q_o16 (a := 8) (by decide +kernel) rfl
theorem dX0_portGives_3 : decode cX0_portGives 3 = .ok (.if_icmp .ne 13, 3) := q_o160 (a := 0) (b := 13) (by decide +kernel) rfl
theorem dX0_portGives_6 : decode cX0_portGives 6 = .ok (.aload_n 0, 1) := q_o42 (by decide +kernel)
theorem dX0_portGives_7 : decode cX0_portGives 7 = .ok (.getfield 15, 3) := q_o180 (a := 0) (b := 15) (by decide +kernel)
theorem dX0_portGives_10 : decode cX0_portGives 10 = .ok (.getfield 84, 3) := q_o180 (a := 0) (b := 84) (by decide +kernel)
theorem dX0_portGives_13 : decode cX0_portGives 13 = .ok (.iconst 4, 1) := q_o7 (by decide +kernel)
theorem dX0_portGives_14 : decode cX0_portGives 14 = .ok (.iaload, 1) := q_o46 (by decide +kernel)
theorem dX0_portGives_15 : decode cX0_portGives 15 = .ok (.ireturn, 1) := q_o172 (by decide +kernel)
theorem dX0_portGives_16 : decode cX0_portGives 16 = .ok (.iload_n 1, 1) := q_o27 (by decide +kernel)
theorem dX0_portGives_17 : decode cX0_portGives 17 = .ok (.ifCond .lt 26, 3) := q_o155 (a := 0) (b := 26) (by decide +kernel) rfl
theorem dX0_portGives_20 : decode cX0_portGives 20 = .ok (.iload_n 1, 1) := q_o27 (by decide +kernel)
theorem dX0_portGives_21 : decode cX0_portGives 21 = .ok (.bipush 8, 2) := q_o16 (a := 8) (by decide +kernel) rfl
theorem dX0_portGives_23 : decode cX0_portGives 23 = .ok (.if_icmp .ge 20, 3) := q_o162 (a := 0) (b := 20) (by decide +kernel) rfl
theorem dX0_portGives_26 : decode cX0_portGives 26 = .ok (.aload_n 0, 1) := q_o42 (by decide +kernel)
theorem dX0_portGives_27 : decode cX0_portGives 27 = .ok (.getfield 11, 3) := q_o180 (a := 0) (b := 11) (by decide +kernel)
theorem dX0_portGives_30 : decode cX0_portGives 30 = .ok (.bipush 72, 2) := q_o16 (a := 72) (by decide +kernel) rfl
theorem dX0_portGives_32 : decode cX0_portGives 32 = .ok (.iload_n 1, 1) := q_o27 (by decide +kernel)
theorem dX0_portGives_33 : decode cX0_portGives 33 = .ok (.iadd, 1) := q_o96 (by decide +kernel)
theorem dX0_portGives_34 : decode cX0_portGives 34 = .ok (.iaload, 1) := q_o46 (by decide +kernel)
theorem dX0_portGives_35 : decode cX0_portGives 35 = .ok (.iconst 1, 1) := q_o4 (by decide +kernel)
theorem dX0_portGives_36 : decode cX0_portGives 36 = .ok (.if_icmp .ne 7, 3) := q_o160 (a := 0) (b := 7) (by decide +kernel) rfl
theorem dX0_portGives_39 : decode cX0_portGives 39 = .ok (.iconst 1, 1) := q_o4 (by decide +kernel)
theorem dX0_portGives_40 : decode cX0_portGives 40 = .ok (.goto 4, 3) := q_o167 (a := 0) (b := 4) (by decide +kernel) rfl
theorem dX0_portGives_43 : decode cX0_portGives 43 = .ok (.iconst 0, 1) := q_o3 (by decide +kernel)
theorem dX0_portGives_44 : decode cX0_portGives 44 = .ok (.istore_n 2, 1) := q_o61 (by decide +kernel)
theorem dX0_portGives_45 : decode cX0_portGives 45 = .ok (.iload_n 2, 1) := q_o28 (by decide +kernel)
theorem dX0_portGives_46 : decode cX0_portGives 46 = .ok (.ifCond .eq 7, 3) := q_o153 (a := 0) (b := 7) (by decide +kernel) rfl
theorem dX0_portGives_49 : decode cX0_portGives 49 = .ok (.iconst 5, 1) := q_o8 (by decide +kernel)
theorem dX0_portGives_50 : decode cX0_portGives 50 = .ok (.goto 4, 3) := q_o167 (a := 0) (b := 4) (by decide +kernel) rfl
theorem dX0_portGives_53 : decode cX0_portGives 53 = .ok (.iconst 1, 1) := q_o4 (by decide +kernel)
theorem dX0_portGives_54 : decode cX0_portGives 54 = .ok (.ireturn, 1) := q_o172 (by decide +kernel)
theorem dX0_powerSuffices_0 : decode cX0_powerSuffices 0 = .ok (.aload_n 0, 1) := q_o42 (by decide +kernel)
theorem dX0_powerSuffices_1 : decode cX0_powerSuffices 1 = .ok (.getfield 11, 3) := q_o180 (a := 0) (b := 11) (by decide +kernel)
theorem dX0_powerSuffices_4 : decode cX0_powerSuffices 4 = .ok (.bipush 32, 2) := q_o16 (a := 32) (by decide +kernel) rfl
theorem dX0_powerSuffices_6 : decode cX0_powerSuffices 6 = .ok (.iload_n 1, 1) := q_o27 (by decide +kernel)
theorem dX0_powerSuffices_7 : decode cX0_powerSuffices 7 = .ok (.iadd, 1) := q_o96 (by decide +kernel)
theorem dX0_powerSuffices_8 : decode cX0_powerSuffices 8 = .ok (.iaload, 1) := q_o46 (by decide +kernel)
theorem dX0_powerSuffices_9 : decode cX0_powerSuffices 9 = .ok (.istore_n 3, 1) := q_o62 (by decide +kernel)
theorem dX0_powerSuffices_10 : decode cX0_powerSuffices 10 = .ok (.iload_n 2, 1) := q_o28 (by decide +kernel)
theorem dX0_powerSuffices_11 : decode cX0_powerSuffices 11 = .ok (.aload_n 0, 1) := q_o42 (by decide +kernel)
theorem dX0_powerSuffices_12 : decode cX0_powerSuffices 12 = .ok (.iload_n 3, 1) := q_o29 (by decide +kernel)
theorem dX0_powerSuffices_13 : decode cX0_powerSuffices 13 = .ok (.invokevirtual 99, 3) := q_o182 (a := 0) (b := 99) (by decide +kernel)
theorem dX0_powerSuffices_16 : decode cX0_powerSuffices 16 = .ok (.if_icmp .gt 25, 3) := q_o163 (a := 0) (b := 25) (by decide +kernel) rfl
theorem dX0_powerSuffices_19 : decode cX0_powerSuffices 19 = .ok (.aload_n 0, 1) := q_o42 (by decide +kernel)
theorem dX0_powerSuffices_20 : decode cX0_powerSuffices 20 = .ok (.iload_n 3, 1) := q_o29 (by decide +kernel)
theorem dX0_powerSuffices_21 : decode cX0_powerSuffices 21 = .ok (.invokevirtual 105, 3) := q_o182 (a := 0) (b := 105) (by decide +kernel)
theorem dX0_powerSuffices_24 : decode cX0_powerSuffices 24 = .ok (.ifCond .ne 13, 3) := q_o154 (a := 0) (b := 13) (by decide +kernel) rfl
theorem dX0_powerSuffices_27 : decode cX0_powerSuffices 27 = .ok (.iload_n 2, 1) := q_o28 (by decide +kernel)
theorem dX0_powerSuffices_28 : decode cX0_powerSuffices 28 = .ok (.aload_n 0, 1) := q_o42 (by decide +kernel)
theorem dX0_powerSuffices_29 : decode cX0_powerSuffices 29 = .ok (.iload_n 3, 1) := q_o29 (by decide +kernel)
theorem dX0_powerSuffices_30 : decode cX0_powerSuffices 30 = .ok (.iload_n 1, 1) := q_o27 (by decide +kernel)
theorem dX0_powerSuffices_31 : decode cX0_powerSuffices 31 = .ok (.invokevirtual 108, 3) := q_o182 (a := 0) (b := 108) (by decide +kernel)
theorem dX0_powerSuffices_34 : decode cX0_powerSuffices 34 = .ok (.if_icmp .gt 7, 3) := q_o163 (a := 0) (b := 7) (by decide +kernel) rfl
theorem dX0_powerSuffices_37 : decode cX0_powerSuffices 37 = .ok (.iconst 1, 1) := q_o4 (by decide +kernel)
theorem dX0_powerSuffices_38 : decode cX0_powerSuffices 38 = .ok (.goto 4, 3) := q_o167 (a := 0) (b := 4) (by decide +kernel) rfl
theorem dX0_powerSuffices_41 : decode cX0_powerSuffices 41 = .ok (.iconst 0, 1) := q_o3 (by decide +kernel)
theorem dX0_powerSuffices_42 : decode cX0_powerSuffices 42 = .ok (.ireturn, 1) := q_o172 (by decide +kernel)
theorem dX0_reasonAgainst_0 : decode cX0_reasonAgainst 0 = .ok (.aload_n 0, 1) := q_o42 (by decide +kernel)
theorem dX0_reasonAgainst_1 : decode cX0_reasonAgainst 1 = .ok (.iload_n 1, 1) := q_o27 (by decide +kernel)
theorem dX0_reasonAgainst_2 : decode cX0_reasonAgainst 2 = .ok (.invokevirtual 76, 3) := q_o182 (a := 0) (b := 76) (by decide +kernel)
theorem dX0_reasonAgainst_5 : decode cX0_reasonAgainst 5 = .ok (.iconst 4, 1) := q_o7 (by decide +kernel)
theorem dX0_reasonAgainst_6 : decode cX0_reasonAgainst 6 = .ok (.if_icmp .le 5, 3) := q_o164 (a := 0) (b := 5) (by decide +kernel) rfl
theorem dX0_reasonAgainst_9 : decode cX0_reasonAgainst 9 = .ok (.iconst 4, 1) := q_o7 (by decide +kernel)
theorem dX0_reasonAgainst_10 : decode cX0_reasonAgainst 10 = .ok (.ireturn, 1) := q_o172 (by decide +kernel)
theorem dX0_reasonAgainst_11 : decode cX0_reasonAgainst 11 = .ok (.aload_n 0, 1) := q_o42 (by decide +kernel)
theorem dX0_reasonAgainst_12 : decode cX0_reasonAgainst 12 = .ok (.invokevirtual 213, 3) := q_o182 (a := 0) (b := 213) (by decide +kernel)
theorem dX0_reasonAgainst_15 : decode cX0_reasonAgainst 15 = .ok (.iconst (-1), 1) := q_o2 (by decide +kernel)
theorem dX0_reasonAgainst_16 : decode cX0_reasonAgainst 16 = .ok (.if_icmp .ne 5, 3) := q_o160 (a := 0) (b := 5) (by decide +kernel) rfl
theorem dX0_reasonAgainst_19 : decode cX0_reasonAgainst 19 = .ok (.iconst 5, 1) := q_o8 (by decide +kernel)
theorem dX0_reasonAgainst_20 : decode cX0_reasonAgainst 20 = .ok (.ireturn, 1) := q_o172 (by decide +kernel)
theorem dX0_reasonAgainst_21 : decode cX0_reasonAgainst 21 = .ok (.aload_n 0, 1) := q_o42 (by decide +kernel)
theorem dX0_reasonAgainst_22 : decode cX0_reasonAgainst 22 = .ok (.iload_n 1, 1) := q_o27 (by decide +kernel)
theorem dX0_reasonAgainst_23 : decode cX0_reasonAgainst 23 = .ok (.aload_n 0, 1) := q_o42 (by decide +kernel)
theorem dX0_reasonAgainst_24 : decode cX0_reasonAgainst 24 = .ok (.iload_n 1, 1) := q_o27 (by decide +kernel)
theorem dX0_reasonAgainst_25 : decode cX0_reasonAgainst 25 = .ok (.invokevirtual 102, 3) := q_o182 (a := 0) (b := 102) (by decide +kernel)
theorem dX0_reasonAgainst_28 : decode cX0_reasonAgainst 28 = .ok (.invokevirtual 173, 3) := q_o182 (a := 0) (b := 173) (by decide +kernel)
theorem dX0_reasonAgainst_31 : decode cX0_reasonAgainst 31 = .ok (.ifCond .ne 5, 3) := q_o154 (a := 0) (b := 5) (by decide +kernel) rfl
theorem dX0_reasonAgainst_34 : decode cX0_reasonAgainst 34 = .ok (.iconst 2, 1) := q_o5 (by decide +kernel)
theorem dX0_reasonAgainst_35 : decode cX0_reasonAgainst 35 = .ok (.ireturn, 1) := q_o172 (by decide +kernel)
theorem dX0_reasonAgainst_36 : decode cX0_reasonAgainst 36 = .ok (.aload_n 0, 1) := q_o42 (by decide +kernel)
theorem dX0_reasonAgainst_37 : decode cX0_reasonAgainst 37 = .ok (.iload_n 1, 1) := q_o27 (by decide +kernel)
theorem dX0_reasonAgainst_38 : decode cX0_reasonAgainst 38 = .ok (.invokevirtual 176, 3) := q_o182 (a := 0) (b := 176) (by decide +kernel)
theorem dX0_reasonAgainst_41 : decode cX0_reasonAgainst 41 = .ok (.ifCond .eq 7, 3) := q_o153 (a := 0) (b := 7) (by decide +kernel) rfl
theorem dX0_reasonAgainst_44 : decode cX0_reasonAgainst 44 = .ok (.iconst 0, 1) := q_o3 (by decide +kernel)
theorem dX0_reasonAgainst_45 : decode cX0_reasonAgainst 45 = .ok (.goto 4, 3) := q_o167 (a := 0) (b := 4) (by decide +kernel) rfl
theorem dX0_reasonAgainst_48 : decode cX0_reasonAgainst 48 = .ok (.iconst 3, 1) := q_o6 (by decide +kernel)
theorem dX0_reasonAgainst_49 : decode cX0_reasonAgainst 49 = .ok (.ireturn, 1) := q_o172 (by decide +kernel)
theorem dX0_runsAt_0 : decode cX0_runsAt 0 = .ok (.iload_n 1, 1) := q_o27 (by decide +kernel)
theorem dX0_runsAt_1 : decode cX0_runsAt 1 = .ok (.bipush 8, 2) := q_o16 (a := 8) (by decide +kernel) rfl
theorem dX0_runsAt_3 : decode cX0_runsAt 3 = .ok (.if_icmp .ne 5, 3) := q_o160 (a := 0) (b := 5) (by decide +kernel) rfl
theorem dX0_runsAt_6 : decode cX0_runsAt 6 = .ok (.iconst 2, 1) := q_o5 (by decide +kernel)
theorem dX0_runsAt_7 : decode cX0_runsAt 7 = .ok (.ireturn, 1) := q_o172 (by decide +kernel)
theorem dX0_runsAt_8 : decode cX0_runsAt 8 = .ok (.iload_n 1, 1) := q_o27 (by decide +kernel)
theorem dX0_runsAt_9 : decode cX0_runsAt 9 = .ok (.ifCond .lt 21, 3) := q_o155 (a := 0) (b := 21) (by decide +kernel) rfl
theorem dX0_runsAt_12 : decode cX0_runsAt 12 = .ok (.iload_n 1, 1) := q_o27 (by decide +kernel)
theorem dX0_runsAt_13 : decode cX0_runsAt 13 = .ok (.bipush 8, 2) := q_o16 (a := 8) (by decide +kernel) rfl
theorem dX0_runsAt_15 : decode cX0_runsAt 15 = .ok (.if_icmp .ge 15, 3) := q_o162 (a := 0) (b := 15) (by decide +kernel) rfl
theorem dX0_runsAt_18 : decode cX0_runsAt 18 = .ok (.aload_n 0, 1) := q_o42 (by decide +kernel)
theorem dX0_runsAt_19 : decode cX0_runsAt 19 = .ok (.getfield 11, 3) := q_o180 (a := 0) (b := 11) (by decide +kernel)
theorem dX0_runsAt_22 : decode cX0_runsAt 22 = .ok (.bipush 48, 2) := q_o16 (a := 48) (by decide +kernel) rfl
theorem dX0_runsAt_24 : decode cX0_runsAt 24 = .ok (.iload_n 1, 1) := q_o27 (by decide +kernel)
theorem dX0_runsAt_25 : decode cX0_runsAt 25 = .ok (.iadd, 1) := q_o96 (by decide +kernel)
theorem dX0_runsAt_26 : decode cX0_runsAt 26 = .ok (.iaload, 1) := q_o46 (by decide +kernel)
theorem dX0_runsAt_27 : decode cX0_runsAt 27 = .ok (.goto 4, 3) := q_o167 (a := 0) (b := 4) (by decide +kernel) rfl
theorem dX0_runsAt_30 : decode cX0_runsAt 30 = .ok (.iconst (-1), 1) := q_o2 (by decide +kernel)
theorem dX0_runsAt_31 : decode cX0_runsAt 31 = .ok (.ireturn, 1) := q_o172 (by decide +kernel)
theorem dX0_sleepers_0 : decode cX0_sleepers 0 = .ok (.iconst 0, 1) := q_o3 (by decide +kernel)
theorem dX0_sleepers_1 : decode cX0_sleepers 1 = .ok (.istore_n 1, 1) := q_o60 (by decide +kernel)
theorem dX0_sleepers_2 : decode cX0_sleepers 2 = .ok (.iconst 0, 1) := q_o3 (by decide +kernel)
theorem dX0_sleepers_3 : decode cX0_sleepers 3 = .ok (.istore_n 2, 1) := q_o61 (by decide +kernel)
theorem dX0_sleepers_4 : decode cX0_sleepers 4 = .ok (.iload_n 2, 1) := q_o28 (by decide +kernel)
theorem dX0_sleepers_5 : decode cX0_sleepers 5 = .ok (.aload_n 0, 1) := q_o42 (by decide +kernel)
theorem dX0_sleepers_6 : decode cX0_sleepers 6 = .ok (.getfield 15, 3) := q_o180 (a := 0) (b := 15) (by decide +kernel)
theorem dX0_sleepers_9 : decode cX0_sleepers 9 = .ok (.getfield 25, 3) := q_o180 (a := 0) (b := 25) (by decide +kernel)
theorem dX0_sleepers_12 : decode cX0_sleepers 12 = .ok (.if_icmp .ge 32, 3) := q_o162 (a := 0) (b := 32) (by decide +kernel) rfl
theorem dX0_sleepers_15 : decode cX0_sleepers 15 = .ok (.iload_n 1, 1) := q_o27 (by decide +kernel)
theorem dX0_sleepers_16 : decode cX0_sleepers 16 = .ok (.aload_n 0, 1) := q_o42 (by decide +kernel)
theorem dX0_sleepers_17 : decode cX0_sleepers 17 = .ok (.getfield 11, 3) := q_o180 (a := 0) (b := 11) (by decide +kernel)
theorem dX0_sleepers_20 : decode cX0_sleepers 20 = .ok (.bipush 88, 2) := q_o16 (a := 88) (by decide +kernel) rfl
theorem dX0_sleepers_22 : decode cX0_sleepers 22 = .ok (.iload_n 2, 1) := q_o28 (by decide +kernel)
theorem dX0_sleepers_23 : decode cX0_sleepers 23 = .ok (.iadd, 1) := q_o96 (by decide +kernel)
theorem dX0_sleepers_24 : decode cX0_sleepers 24 = .ok (.iaload, 1) := q_o46 (by decide +kernel)
theorem dX0_sleepers_25 : decode cX0_sleepers 25 = .ok (.iconst 1, 1) := q_o4 (by decide +kernel)
theorem dX0_sleepers_26 : decode cX0_sleepers 26 = .ok (.if_icmp .ne 9, 3) := q_o160 (a := 0) (b := 9) (by decide +kernel) rfl
theorem dX0_sleepers_29 : decode cX0_sleepers 29 = .ok (.iconst 1, 1) := q_o4 (by decide +kernel)
theorem dX0_sleepers_30 : decode cX0_sleepers 30 = .ok (.iload_n 2, 1) := q_o28 (by decide +kernel)
theorem dX0_sleepers_31 : decode cX0_sleepers 31 = .ok (.ishl, 1) := by decide +kernel
theorem dX0_sleepers_32 : decode cX0_sleepers 32 = .ok (.goto 4, 3) := q_o167 (a := 0) (b := 4) (by decide +kernel) rfl
theorem dX0_sleepers_35 : decode cX0_sleepers 35 = .ok (.iconst 0, 1) := q_o3 (by decide +kernel)
theorem dX0_sleepers_36 : decode cX0_sleepers 36 = .ok (.ior, 1) := by decide +kernel
theorem dX0_sleepers_37 : decode cX0_sleepers 37 = .ok (.istore_n 1, 1) := q_o60 (by decide +kernel)
theorem dX0_sleepers_38 : decode cX0_sleepers 38 = .ok (.iinc 2 1, 3) := q_o132 (a := 2) (b := 1) (by decide +kernel) rfl
theorem dX0_sleepers_41 : decode cX0_sleepers 41 = .ok (.goto (-37), 3) := q_o167 (a := 255) (b := 219) (by decide +kernel) rfl
theorem dX0_sleepers_44 : decode cX0_sleepers 44 = .ok (.iload_n 1, 1) := q_o27 (by decide +kernel)
theorem dX0_sleepers_45 : decode cX0_sleepers 45 = .ok (.ireturn, 1) := q_o172 (by decide +kernel)
theorem dX0_speedOf_0 : decode cX0_speedOf 0 = .ok (.aload_n 0, 1) := q_o42 (by decide +kernel)
theorem dX0_speedOf_1 : decode cX0_speedOf 1 = .ok (.getfield 15, 3) := q_o180 (a := 0) (b := 15) (by decide +kernel)
theorem dX0_speedOf_4 : decode cX0_speedOf 4 = .ok (.getfield 35, 3) := q_o180 (a := 0) (b := 35) (by decide +kernel)
theorem dX0_speedOf_7 : decode cX0_speedOf 7 = .ok (.bipush 8, 2) := q_o16 (a := 8) (by decide +kernel) rfl
theorem dX0_speedOf_9 : decode cX0_speedOf 9 = .ok (.iload_n 1, 1) := q_o27 (by decide +kernel)
theorem dX0_speedOf_10 : decode cX0_speedOf 10 = .ok (.iadd, 1) := q_o96 (by decide +kernel)
theorem dX0_speedOf_11 : decode cX0_speedOf 11 = .ok (.iaload, 1) := q_o46 (by decide +kernel)
theorem dX0_speedOf_12 : decode cX0_speedOf 12 = .ok (.istore_n 2, 1) := q_o61 (by decide +kernel)
theorem dX0_speedOf_13 : decode cX0_speedOf 13 = .ok (.aload_n 0, 1) := q_o42 (by decide +kernel)
theorem dX0_speedOf_14 : decode cX0_speedOf 14 = .ok (.aload_n 0, 1) := q_o42 (by decide +kernel)
theorem dX0_speedOf_15 : decode cX0_speedOf 15 = .ok (.getfield 11, 3) := q_o180 (a := 0) (b := 11) (by decide +kernel)
theorem dX0_speedOf_18 : decode cX0_speedOf 18 = .ok (.bipush 32, 2) := q_o16 (a := 32) (by decide +kernel) rfl
theorem dX0_speedOf_20 : decode cX0_speedOf 20 = .ok (.iload_n 1, 1) := q_o27 (by decide +kernel)
theorem dX0_speedOf_21 : decode cX0_speedOf 21 = .ok (.iadd, 1) := q_o96 (by decide +kernel)
theorem dX0_speedOf_22 : decode cX0_speedOf 22 = .ok (.iaload, 1) := q_o46 (by decide +kernel)
theorem dX0_speedOf_23 : decode cX0_speedOf 23 = .ok (.invokevirtual 111, 3) := q_o182 (a := 0) (b := 111) (by decide +kernel)
theorem dX0_speedOf_26 : decode cX0_speedOf 26 = .ok (.iconst 2, 1) := q_o5 (by decide +kernel)
theorem dX0_speedOf_27 : decode cX0_speedOf 27 = .ok (.if_icmp .ne 7, 3) := q_o160 (a := 0) (b := 7) (by decide +kernel) rfl
theorem dX0_speedOf_30 : decode cX0_speedOf 30 = .ok (.iload_n 2, 1) := q_o28 (by decide +kernel)
theorem dX0_speedOf_31 : decode cX0_speedOf 31 = .ok (.goto 8, 3) := q_o167 (a := 0) (b := 8) (by decide +kernel) rfl
theorem dX0_speedOf_34 : decode cX0_speedOf 34 = .ok (.iload_n 2, 1) := q_o28 (by decide +kernel)
theorem dX0_speedOf_35 : decode cX0_speedOf 35 = .ok (.iconst 1, 1) := q_o4 (by decide +kernel)
theorem dX0_speedOf_36 : decode cX0_speedOf 36 = .ok (.invokestatic 114, 3) := q_o184 (a := 0) (b := 114) (by decide +kernel)
theorem dX0_speedOf_39 : decode cX0_speedOf 39 = .ok (.ireturn, 1) := q_o172 (by decide +kernel)
theorem dX0_suppliedHubs_0 : decode cX0_suppliedHubs 0 = .ok (.iconst 0, 1) := q_o3 (by decide +kernel)
theorem dX0_suppliedHubs_1 : decode cX0_suppliedHubs 1 = .ok (.istore_n 1, 1) := q_o60 (by decide +kernel)
theorem dX0_suppliedHubs_2 : decode cX0_suppliedHubs 2 = .ok (.iconst 0, 1) := q_o3 (by decide +kernel)
theorem dX0_suppliedHubs_3 : decode cX0_suppliedHubs 3 = .ok (.istore_n 2, 1) := q_o61 (by decide +kernel)
theorem dX0_suppliedHubs_4 : decode cX0_suppliedHubs 4 = .ok (.iload_n 2, 1) := q_o28 (by decide +kernel)
theorem dX0_suppliedHubs_5 : decode cX0_suppliedHubs 5 = .ok (.aload_n 0, 1) := q_o42 (by decide +kernel)
theorem dX0_suppliedHubs_6 : decode cX0_suppliedHubs 6 = .ok (.getfield 15, 3) := q_o180 (a := 0) (b := 15) (by decide +kernel)
theorem dX0_suppliedHubs_9 : decode cX0_suppliedHubs 9 = .ok (.getfield 25, 3) := q_o180 (a := 0) (b := 25) (by decide +kernel)
theorem dX0_suppliedHubs_12 : decode cX0_suppliedHubs 12 = .ok (.if_icmp .ge 43, 3) := q_o162 (a := 0) (b := 43) (by decide +kernel) rfl
theorem dX0_suppliedHubs_15 : decode cX0_suppliedHubs 15 = .ok (.iload_n 1, 1) := q_o27 (by decide +kernel)
theorem dX0_suppliedHubs_16 : decode cX0_suppliedHubs 16 = .ok (.aload_n 0, 1) := q_o42 (by decide +kernel)
theorem dX0_suppliedHubs_17 : decode cX0_suppliedHubs 17 = .ok (.getfield 11, 3) := q_o180 (a := 0) (b := 11) (by decide +kernel)
theorem dX0_suppliedHubs_20 : decode cX0_suppliedHubs 20 = .ok (.bipush 72, 2) := q_o16 (a := 72) (by decide +kernel) rfl
theorem dX0_suppliedHubs_22 : decode cX0_suppliedHubs 22 = .ok (.iload_n 2, 1) := q_o28 (by decide +kernel)
theorem dX0_suppliedHubs_23 : decode cX0_suppliedHubs 23 = .ok (.iadd, 1) := q_o96 (by decide +kernel)
theorem dX0_suppliedHubs_24 : decode cX0_suppliedHubs 24 = .ok (.iaload, 1) := q_o46 (by decide +kernel)
theorem dX0_suppliedHubs_25 : decode cX0_suppliedHubs 25 = .ok (.iconst 1, 1) := q_o4 (by decide +kernel)
theorem dX0_suppliedHubs_26 : decode cX0_suppliedHubs 26 = .ok (.if_icmp .ne 20, 3) := q_o160 (a := 0) (b := 20) (by decide +kernel) rfl
theorem dX0_suppliedHubs_29 : decode cX0_suppliedHubs 29 = .ok (.aload_n 0, 1) := q_o42 (by decide +kernel)
theorem dX0_suppliedHubs_30 : decode cX0_suppliedHubs 30 = .ok (.getfield 15, 3) := q_o180 (a := 0) (b := 15) (by decide +kernel)
theorem dX0_suppliedHubs_33 : decode cX0_suppliedHubs 33 = .ok (.iload_n 2, 1) := q_o28 (by decide +kernel)
theorem dX0_suppliedHubs_34 : decode cX0_suppliedHubs 34 = .ok (.invokevirtual 93, 3) := q_o182 (a := 0) (b := 93) (by decide +kernel)
theorem dX0_suppliedHubs_37 : decode cX0_suppliedHubs 37 = .ok (.ifCond .eq 9, 3) := q_o153 (a := 0) (b := 9) (by decide +kernel) rfl
theorem dX0_suppliedHubs_40 : decode cX0_suppliedHubs 40 = .ok (.iconst 1, 1) := q_o4 (by decide +kernel)
theorem dX0_suppliedHubs_41 : decode cX0_suppliedHubs 41 = .ok (.iload_n 2, 1) := q_o28 (by decide +kernel)
theorem dX0_suppliedHubs_42 : decode cX0_suppliedHubs 42 = .ok (.ishl, 1) := by decide +kernel
theorem dX0_suppliedHubs_43 : decode cX0_suppliedHubs 43 = .ok (.goto 4, 3) := q_o167 (a := 0) (b := 4) (by decide +kernel) rfl
theorem dX0_suppliedHubs_46 : decode cX0_suppliedHubs 46 = .ok (.iconst 0, 1) := q_o3 (by decide +kernel)
theorem dX0_suppliedHubs_47 : decode cX0_suppliedHubs 47 = .ok (.ior, 1) := by decide +kernel
theorem dX0_suppliedHubs_48 : decode cX0_suppliedHubs 48 = .ok (.istore_n 1, 1) := q_o60 (by decide +kernel)
theorem dX0_suppliedHubs_49 : decode cX0_suppliedHubs 49 = .ok (.iinc 2 1, 3) := q_o132 (a := 2) (b := 1) (by decide +kernel) rfl
theorem dX0_suppliedHubs_52 : decode cX0_suppliedHubs 52 = .ok (.goto (-48), 3) := q_o167 (a := 255) (b := 208) (by decide +kernel) rfl
theorem dX0_suppliedHubs_55 : decode cX0_suppliedHubs 55 = .ok (.iload_n 1, 1) := q_o27 (by decide +kernel)
theorem dX0_suppliedHubs_56 : decode cX0_suppliedHubs 56 = .ok (.ireturn, 1) := q_o172 (by decide +kernel)
theorem dX0_takesOf_0 : decode cX0_takesOf 0 = .ok (.aload_n 0, 1) := q_o42 (by decide +kernel)
theorem dX0_takesOf_1 : decode cX0_takesOf 1 = .ok (.getfield 11, 3) := q_o180 (a := 0) (b := 11) (by decide +kernel)
theorem dX0_takesOf_4 : decode cX0_takesOf 4 = .ok (.bipush 72, 2) := q_o16 (a := 72) (by decide +kernel) rfl
theorem dX0_takesOf_6 : decode cX0_takesOf 6 = .ok (.iload_n 1, 1) := q_o27 (by decide +kernel)
theorem dX0_takesOf_7 : decode cX0_takesOf 7 = .ok (.iadd, 1) := q_o96 (by decide +kernel)
theorem dX0_takesOf_8 : decode cX0_takesOf 8 = .ok (.iaload, 1) := q_o46 (by decide +kernel)
theorem dX0_takesOf_9 : decode cX0_takesOf 9 = .ok (.iconst 1, 1) := q_o4 (by decide +kernel)
theorem dX0_takesOf_10 : decode cX0_takesOf 10 = .ok (.if_icmp .eq 16, 3) := q_o159 (a := 0) (b := 16) (by decide +kernel) rfl
theorem dX0_takesOf_13 : decode cX0_takesOf 13 = .ok (.aload_n 0, 1) := q_o42 (by decide +kernel)
theorem dX0_takesOf_14 : decode cX0_takesOf 14 = .ok (.getfield 11, 3) := q_o180 (a := 0) (b := 11) (by decide +kernel)
theorem dX0_takesOf_17 : decode cX0_takesOf 17 = .ok (.bipush 88, 2) := q_o16 (a := 88) (by decide +kernel) rfl
theorem dX0_takesOf_19 : decode cX0_takesOf 19 = .ok (.iload_n 1, 1) := q_o27 (by decide +kernel)
theorem dX0_takesOf_20 : decode cX0_takesOf 20 = .ok (.iadd, 1) := q_o96 (by decide +kernel)
theorem dX0_takesOf_21 : decode cX0_takesOf 21 = .ok (.iaload, 1) := q_o46 (by decide +kernel)
theorem dX0_takesOf_22 : decode cX0_takesOf 22 = .ok (.iconst 1, 1) := q_o4 (by decide +kernel)
theorem dX0_takesOf_23 : decode cX0_takesOf 23 = .ok (.if_icmp .ne 7, 3) := q_o160 (a := 0) (b := 7) (by decide +kernel) rfl
theorem dX0_takesOf_26 : decode cX0_takesOf 26 = .ok (.iconst 0, 1) := q_o3 (by decide +kernel)
theorem dX0_takesOf_27 : decode cX0_takesOf 27 = .ok (.goto 15, 3) := q_o167 (a := 0) (b := 15) (by decide +kernel) rfl
theorem dX0_takesOf_30 : decode cX0_takesOf 30 = .ok (.aload_n 0, 1) := q_o42 (by decide +kernel)
theorem dX0_takesOf_31 : decode cX0_takesOf 31 = .ok (.getfield 15, 3) := q_o180 (a := 0) (b := 15) (by decide +kernel)
theorem dX0_takesOf_34 : decode cX0_takesOf 34 = .ok (.getfield 35, 3) := q_o180 (a := 0) (b := 35) (by decide +kernel)
theorem dX0_takesOf_37 : decode cX0_takesOf 37 = .ok (.bipush 16, 2) := q_o16 (a := 16) (by decide +kernel) rfl
theorem dX0_takesOf_39 : decode cX0_takesOf 39 = .ok (.iload_n 1, 1) := q_o27 (by decide +kernel)
theorem dX0_takesOf_40 : decode cX0_takesOf 40 = .ok (.iadd, 1) := q_o96 (by decide +kernel)
theorem dX0_takesOf_41 : decode cX0_takesOf 41 = .ok (.iaload, 1) := q_o46 (by decide +kernel)
theorem dX0_takesOf_42 : decode cX0_takesOf 42 = .ok (.ireturn, 1) := q_o172 (by decide +kernel)
theorem dX0_timeSuffices_0 : decode cX0_timeSuffices 0 = .ok (.aload_n 0, 1) := q_o42 (by decide +kernel)
theorem dX0_timeSuffices_1 : decode cX0_timeSuffices 1 = .ok (.iload_n 1, 1) := q_o27 (by decide +kernel)
theorem dX0_timeSuffices_2 : decode cX0_timeSuffices 2 = .ok (.invokevirtual 129, 3) := q_o182 (a := 0) (b := 129) (by decide +kernel)
theorem dX0_timeSuffices_5 : decode cX0_timeSuffices 5 = .ok (.istore_n 2, 1) := q_o61 (by decide +kernel)
theorem dX0_timeSuffices_6 : decode cX0_timeSuffices 6 = .ok (.aload_n 0, 1) := q_o42 (by decide +kernel)
theorem dX0_timeSuffices_7 : decode cX0_timeSuffices 7 = .ok (.invokevirtual 132, 3) := q_o182 (a := 0) (b := 132) (by decide +kernel)
theorem dX0_timeSuffices_10 : decode cX0_timeSuffices 10 = .ok (.aload_n 0, 1) := q_o42 (by decide +kernel)
theorem dX0_timeSuffices_11 : decode cX0_timeSuffices 11 = .ok (.iload_n 1, 1) := q_o27 (by decide +kernel)
theorem dX0_timeSuffices_12 : decode cX0_timeSuffices 12 = .ok (.iload_n 2, 1) := q_o28 (by decide +kernel)
theorem dX0_timeSuffices_13 : decode cX0_timeSuffices 13 = .ok (.invokevirtual 126, 3) := q_o182 (a := 0) (b := 126) (by decide +kernel)
theorem dX0_timeSuffices_16 : decode cX0_timeSuffices 16 = .ok (.iadd, 1) := q_o96 (by decide +kernel)
theorem dX0_timeSuffices_17 : decode cX0_timeSuffices 17 = .ok (.aload_n 0, 1) := q_o42 (by decide +kernel)
theorem dX0_timeSuffices_18 : decode cX0_timeSuffices 18 = .ok (.getfield 15, 3) := q_o180 (a := 0) (b := 15) (by decide +kernel)
theorem dX0_timeSuffices_21 : decode cX0_timeSuffices 21 = .ok (.getfield 84, 3) := q_o180 (a := 0) (b := 84) (by decide +kernel)
theorem dX0_timeSuffices_24 : decode cX0_timeSuffices 24 = .ok (.iconst 5, 1) := q_o8 (by decide +kernel)
theorem dX0_timeSuffices_25 : decode cX0_timeSuffices 25 = .ok (.iaload, 1) := q_o46 (by decide +kernel)
theorem dX0_timeSuffices_26 : decode cX0_timeSuffices 26 = .ok (.if_icmp .le 5, 3) := q_o164 (a := 0) (b := 5) (by decide +kernel) rfl
theorem dX0_timeSuffices_29 : decode cX0_timeSuffices 29 = .ok (.iconst 0, 1) := q_o3 (by decide +kernel)
theorem dX0_timeSuffices_30 : decode cX0_timeSuffices 30 = .ok (.ireturn, 1) := q_o172 (by decide +kernel)
theorem dX0_timeSuffices_31 : decode cX0_timeSuffices 31 = .ok (.iload_n 2, 1) := q_o28 (by decide +kernel)
theorem dX0_timeSuffices_32 : decode cX0_timeSuffices 32 = .ok (.iconst 2, 1) := q_o5 (by decide +kernel)
theorem dX0_timeSuffices_33 : decode cX0_timeSuffices 33 = .ok (.if_icmp .eq 32, 3) := q_o159 (a := 0) (b := 32) (by decide +kernel) rfl
theorem dX0_timeSuffices_36 : decode cX0_timeSuffices 36 = .ok (.aload_n 0, 1) := q_o42 (by decide +kernel)
theorem dX0_timeSuffices_37 : decode cX0_timeSuffices 37 = .ok (.aload_n 0, 1) := q_o42 (by decide +kernel)
theorem dX0_timeSuffices_38 : decode cX0_timeSuffices 38 = .ok (.iload_n 1, 1) := q_o27 (by decide +kernel)
theorem dX0_timeSuffices_39 : decode cX0_timeSuffices 39 = .ok (.invokevirtual 120, 3) := q_o182 (a := 0) (b := 120) (by decide +kernel)
theorem dX0_timeSuffices_42 : decode cX0_timeSuffices 42 = .ok (.invokevirtual 135, 3) := q_o182 (a := 0) (b := 135) (by decide +kernel)
theorem dX0_timeSuffices_45 : decode cX0_timeSuffices 45 = .ok (.aload_n 0, 1) := q_o42 (by decide +kernel)
theorem dX0_timeSuffices_46 : decode cX0_timeSuffices 46 = .ok (.iload_n 1, 1) := q_o27 (by decide +kernel)
theorem dX0_timeSuffices_47 : decode cX0_timeSuffices 47 = .ok (.iload_n 2, 1) := q_o28 (by decide +kernel)
theorem dX0_timeSuffices_48 : decode cX0_timeSuffices 48 = .ok (.invokevirtual 123, 3) := q_o182 (a := 0) (b := 123) (by decide +kernel)
theorem dX0_timeSuffices_51 : decode cX0_timeSuffices 51 = .ok (.iadd, 1) := q_o96 (by decide +kernel)
theorem dX0_timeSuffices_52 : decode cX0_timeSuffices 52 = .ok (.aload_n 0, 1) := q_o42 (by decide +kernel)
theorem dX0_timeSuffices_53 : decode cX0_timeSuffices 53 = .ok (.getfield 15, 3) := q_o180 (a := 0) (b := 15) (by decide +kernel)
theorem dX0_timeSuffices_56 : decode cX0_timeSuffices 56 = .ok (.getfield 84, 3) := q_o180 (a := 0) (b := 84) (by decide +kernel)
theorem dX0_timeSuffices_59 : decode cX0_timeSuffices 59 = .ok (.bipush 6, 2) := q_o16 (a := 6) (by decide +kernel) rfl
theorem dX0_timeSuffices_61 : decode cX0_timeSuffices 61 = .ok (.iaload, 1) := q_o46 (by decide +kernel)
theorem dX0_timeSuffices_62 : decode cX0_timeSuffices 62 = .ok (.if_icmp .gt 7, 3) := q_o163 (a := 0) (b := 7) (by decide +kernel) rfl
theorem dX0_timeSuffices_65 : decode cX0_timeSuffices 65 = .ok (.iconst 1, 1) := q_o4 (by decide +kernel)
theorem dX0_timeSuffices_66 : decode cX0_timeSuffices 66 = .ok (.goto 4, 3) := q_o167 (a := 0) (b := 4) (by decide +kernel) rfl
theorem dX0_timeSuffices_69 : decode cX0_timeSuffices 69 = .ok (.iconst 0, 1) := q_o3 (by decide +kernel)
theorem dX0_timeSuffices_70 : decode cX0_timeSuffices 70 = .ok (.ireturn, 1) := q_o172 (by decide +kernel)
theorem dX0_wakers_0 : decode cX0_wakers 0 = .ok (.iconst 0, 1) := q_o3 (by decide +kernel)
theorem dX0_wakers_1 : decode cX0_wakers 1 = .ok (.istore_n 1, 1) := q_o60 (by decide +kernel)
theorem dX0_wakers_2 : decode cX0_wakers 2 = .ok (.iconst 0, 1) := q_o3 (by decide +kernel)
theorem dX0_wakers_3 : decode cX0_wakers 3 = .ok (.istore_n 2, 1) := q_o61 (by decide +kernel)
theorem dX0_wakers_4 : decode cX0_wakers 4 = .ok (.iload_n 2, 1) := q_o28 (by decide +kernel)
theorem dX0_wakers_5 : decode cX0_wakers 5 = .ok (.aload_n 0, 1) := q_o42 (by decide +kernel)
theorem dX0_wakers_6 : decode cX0_wakers 6 = .ok (.getfield 15, 3) := q_o180 (a := 0) (b := 15) (by decide +kernel)
theorem dX0_wakers_9 : decode cX0_wakers 9 = .ok (.getfield 25, 3) := q_o180 (a := 0) (b := 25) (by decide +kernel)
theorem dX0_wakers_12 : decode cX0_wakers 12 = .ok (.if_icmp .ge 40, 3) := q_o162 (a := 0) (b := 40) (by decide +kernel) rfl
theorem dX0_wakers_15 : decode cX0_wakers 15 = .ok (.iload_n 1, 1) := q_o27 (by decide +kernel)
theorem dX0_wakers_16 : decode cX0_wakers 16 = .ok (.aload_n 0, 1) := q_o42 (by decide +kernel)
theorem dX0_wakers_17 : decode cX0_wakers 17 = .ok (.getfield 11, 3) := q_o180 (a := 0) (b := 11) (by decide +kernel)
theorem dX0_wakers_20 : decode cX0_wakers 20 = .ok (.bipush 88, 2) := q_o16 (a := 88) (by decide +kernel) rfl
theorem dX0_wakers_22 : decode cX0_wakers 22 = .ok (.iload_n 2, 1) := q_o28 (by decide +kernel)
theorem dX0_wakers_23 : decode cX0_wakers 23 = .ok (.iadd, 1) := q_o96 (by decide +kernel)
theorem dX0_wakers_24 : decode cX0_wakers 24 = .ok (.iaload, 1) := q_o46 (by decide +kernel)
theorem dX0_wakers_25 : decode cX0_wakers 25 = .ok (.iconst 1, 1) := q_o4 (by decide +kernel)
theorem dX0_wakers_26 : decode cX0_wakers 26 = .ok (.if_icmp .ne 17, 3) := q_o160 (a := 0) (b := 17) (by decide +kernel) rfl
theorem dX0_wakers_29 : decode cX0_wakers 29 = .ok (.aload_n 0, 1) := q_o42 (by decide +kernel)
theorem dX0_wakers_30 : decode cX0_wakers 30 = .ok (.iload_n 2, 1) := q_o28 (by decide +kernel)
theorem dX0_wakers_31 : decode cX0_wakers 31 = .ok (.invokevirtual 96, 3) := q_o182 (a := 0) (b := 96) (by decide +kernel)
theorem dX0_wakers_34 : decode cX0_wakers 34 = .ok (.ifCond .eq 9, 3) := q_o153 (a := 0) (b := 9) (by decide +kernel) rfl
theorem dX0_wakers_37 : decode cX0_wakers 37 = .ok (.iconst 1, 1) := q_o4 (by decide +kernel)
theorem dX0_wakers_38 : decode cX0_wakers 38 = .ok (.iload_n 2, 1) := q_o28 (by decide +kernel)
theorem dX0_wakers_39 : decode cX0_wakers 39 = .ok (.ishl, 1) := by decide +kernel
theorem dX0_wakers_40 : decode cX0_wakers 40 = .ok (.goto 4, 3) := q_o167 (a := 0) (b := 4) (by decide +kernel) rfl
theorem dX0_wakers_43 : decode cX0_wakers 43 = .ok (.iconst 0, 1) := q_o3 (by decide +kernel)
theorem dX0_wakers_44 : decode cX0_wakers 44 = .ok (.ior, 1) := by decide +kernel
theorem dX0_wakers_45 : decode cX0_wakers 45 = .ok (.istore_n 1, 1) := q_o60 (by decide +kernel)
theorem dX0_wakers_46 : decode cX0_wakers 46 = .ok (.iinc 2 1, 3) := q_o132 (a := 2) (b := 1) (by decide +kernel) rfl
theorem dX0_wakers_49 : decode cX0_wakers 49 = .ok (.goto (-45), 3) := q_o167 (a := 255) (b := 211) (by decide +kernel) rfl
theorem dX0_wakers_52 : decode cX0_wakers 52 = .ok (.iload_n 1, 1) := q_o27 (by decide +kernel)
theorem dX0_wakers_53 : decode cX0_wakers 53 = .ok (.ireturn, 1) := q_o172 (by decide +kernel)
theorem hdV_yX0_barOfError_2 : yX0_barOfError.cls = RX0 ∧ yX0_barOfError.cls ≠ "java/lang/invoke/MethodHandle" ∧ yX0_barOfError.cls ≠ "java/lang/invoke/VarHandle" ∧ (parseMethodDescriptor yX0_barOfError.desc).map (fun d => d.parameters.length) = some 2 := by decide +kernel
theorem hdV_yX0_barOfPlug_3 : yX0_barOfPlug.cls = RX0 ∧ yX0_barOfPlug.cls ≠ "java/lang/invoke/MethodHandle" ∧ yX0_barOfPlug.cls ≠ "java/lang/invoke/VarHandle" ∧ (parseMethodDescriptor yX0_barOfPlug.desc).map (fun d => d.parameters.length) = some 3 := by decide +kernel
theorem hdV_yX0_barOfTicks_1 : yX0_barOfTicks.cls = RX0 ∧ yX0_barOfTicks.cls ≠ "java/lang/invoke/MethodHandle" ∧ yX0_barOfTicks.cls ≠ "java/lang/invoke/VarHandle" ∧ (parseMethodDescriptor yX0_barOfTicks.desc).map (fun d => d.parameters.length) = some 1 := by decide +kernel
theorem hdV_yX0_busFor_2 : yX0_busFor.cls = RX0 ∧ yX0_busFor.cls ≠ "java/lang/invoke/MethodHandle" ∧ yX0_busFor.cls ≠ "java/lang/invoke/VarHandle" ∧ (parseMethodDescriptor yX0_busFor.desc).map (fun d => d.parameters.length) = some 2 := by decide +kernel
theorem hdV_yX0_busUsed_0 : yX0_busUsed.cls = RX0 ∧ yX0_busUsed.cls ≠ "java/lang/invoke/MethodHandle" ∧ yX0_busUsed.cls ≠ "java/lang/invoke/VarHandle" ∧ (parseMethodDescriptor yX0_busUsed.desc).map (fun d => d.parameters.length) = some 0 := by decide +kernel
theorem hdV_yX0_byteChecked_2 : yX0_byteChecked.cls = RX0 ∧ yX0_byteChecked.cls ≠ "java/lang/invoke/MethodHandle" ∧ yX0_byteChecked.cls ≠ "java/lang/invoke/VarHandle" ∧ (parseMethodDescriptor yX0_byteChecked.desc).map (fun d => d.parameters.length) = some 2 := by decide +kernel
theorem hdV_yX0_byteOf_2 : yX0_byteOf.cls = RX0 ∧ yX0_byteOf.cls ≠ "java/lang/invoke/MethodHandle" ∧ yX0_byteOf.cls ≠ "java/lang/invoke/VarHandle" ∧ (parseMethodDescriptor yX0_byteOf.desc).map (fun d => d.parameters.length) = some 2 := by decide +kernel
theorem hdV_yX0_canFallAsleep_1 : yX0_canFallAsleep.cls = RX0 ∧ yX0_canFallAsleep.cls ≠ "java/lang/invoke/MethodHandle" ∧ yX0_canFallAsleep.cls ≠ "java/lang/invoke/VarHandle" ∧ (parseMethodDescriptor yX0_canFallAsleep.desc).map (fun d => d.parameters.length) = some 1 := by decide +kernel
theorem hdV_yX0_canWake_1 : yX0_canWake.cls = RX0 ∧ yX0_canWake.cls ≠ "java/lang/invoke/MethodHandle" ∧ yX0_canWake.cls ≠ "java/lang/invoke/VarHandle" ∧ (parseMethodDescriptor yX0_canWake.desc).map (fun d => d.parameters.length) = some 1 := by decide +kernel
theorem hdV_yX0_firstInLine_0 : yX0_firstInLine.cls = RX0 ∧ yX0_firstInLine.cls ≠ "java/lang/invoke/MethodHandle" ∧ yX0_firstInLine.cls ≠ "java/lang/invoke/VarHandle" ∧ (parseMethodDescriptor yX0_firstInLine.desc).map (fun d => d.parameters.length) = some 0 := by decide +kernel
theorem hdV_yX0_freeAddress_0 : yX0_freeAddress.cls = RX0 ∧ yX0_freeAddress.cls ≠ "java/lang/invoke/MethodHandle" ∧ yX0_freeAddress.cls ≠ "java/lang/invoke/VarHandle" ∧ (parseMethodDescriptor yX0_freeAddress.desc).map (fun d => d.parameters.length) = some 0 := by decide +kernel
theorem hdV_yX0_helpFor_2 : yX0_helpFor.cls = RX0 ∧ yX0_helpFor.cls ≠ "java/lang/invoke/MethodHandle" ∧ yX0_helpFor.cls ≠ "java/lang/invoke/VarHandle" ∧ (parseMethodDescriptor yX0_helpFor.desc).map (fun d => d.parameters.length) = some 2 := by decide +kernel
theorem hdV_yX0_helpOf_1 : yX0_helpOf.cls = RX0 ∧ yX0_helpOf.cls ≠ "java/lang/invoke/MethodHandle" ∧ yX0_helpOf.cls ≠ "java/lang/invoke/VarHandle" ∧ (parseMethodDescriptor yX0_helpOf.desc).map (fun d => d.parameters.length) = some 1 := by decide +kernel
theorem hdV_yX0_helperAbove_1 : yX0_helperAbove.cls = RX0 ∧ yX0_helperAbove.cls ≠ "java/lang/invoke/MethodHandle" ∧ yX0_helperAbove.cls ≠ "java/lang/invoke/VarHandle" ∧ (parseMethodDescriptor yX0_helperAbove.desc).map (fun d => d.parameters.length) = some 1 := by decide +kernel
theorem hdV_yX0_isAsleep_1 : yX0_isAsleep.cls = RX0 ∧ yX0_isAsleep.cls ≠ "java/lang/invoke/MethodHandle" ∧ yX0_isAsleep.cls ≠ "java/lang/invoke/VarHandle" ∧ (parseMethodDescriptor yX0_isAsleep.desc).map (fun d => d.parameters.length) = some 1 := by decide +kernel
theorem hdV_yX0_isAwake_1 : yX0_isAwake.cls = RX0 ∧ yX0_isAwake.cls ≠ "java/lang/invoke/MethodHandle" ∧ yX0_isAwake.cls ≠ "java/lang/invoke/VarHandle" ∧ (parseMethodDescriptor yX0_isAwake.desc).map (fun d => d.parameters.length) = some 1 := by decide +kernel
theorem hdV_yX0_isBoundless_1 : yX0_isBoundless.cls = RX0 ∧ yX0_isBoundless.cls ≠ "java/lang/invoke/MethodHandle" ∧ yX0_isBoundless.cls ≠ "java/lang/invoke/VarHandle" ∧ (parseMethodDescriptor yX0_isBoundless.desc).map (fun d => d.parameters.length) = some 1 := by decide +kernel
theorem hdV_yX0_leftOf_2 : yX0_leftOf.cls = RX0 ∧ yX0_leftOf.cls ≠ "java/lang/invoke/MethodHandle" ∧ yX0_leftOf.cls ≠ "java/lang/invoke/VarHandle" ∧ (parseMethodDescriptor yX0_leftOf.desc).map (fun d => d.parameters.length) = some 2 := by decide +kernel
theorem hdV_yX0_portGives_1 : yX0_portGives.cls = RX0 ∧ yX0_portGives.cls ≠ "java/lang/invoke/MethodHandle" ∧ yX0_portGives.cls ≠ "java/lang/invoke/VarHandle" ∧ (parseMethodDescriptor yX0_portGives.desc).map (fun d => d.parameters.length) = some 1 := by decide +kernel
theorem hdV_yX0_powerSuffices_2 : yX0_powerSuffices.cls = RX0 ∧ yX0_powerSuffices.cls ≠ "java/lang/invoke/MethodHandle" ∧ yX0_powerSuffices.cls ≠ "java/lang/invoke/VarHandle" ∧ (parseMethodDescriptor yX0_powerSuffices.desc).map (fun d => d.parameters.length) = some 2 := by decide +kernel
theorem hdV_yX0_running_0 : yX0_running.cls = RX0 ∧ yX0_running.cls ≠ "java/lang/invoke/MethodHandle" ∧ yX0_running.cls ≠ "java/lang/invoke/VarHandle" ∧ (parseMethodDescriptor yX0_running.desc).map (fun d => d.parameters.length) = some 0 := by decide +kernel
theorem hdV_yX0_runsAt_1 : yX0_runsAt.cls = RX0 ∧ yX0_runsAt.cls ≠ "java/lang/invoke/MethodHandle" ∧ yX0_runsAt.cls ≠ "java/lang/invoke/VarHandle" ∧ (parseMethodDescriptor yX0_runsAt.desc).map (fun d => d.parameters.length) = some 1 := by decide +kernel
theorem hdV_yX0_speedOf_1 : yX0_speedOf.cls = RX0 ∧ yX0_speedOf.cls ≠ "java/lang/invoke/MethodHandle" ∧ yX0_speedOf.cls ≠ "java/lang/invoke/VarHandle" ∧ (parseMethodDescriptor yX0_speedOf.desc).map (fun d => d.parameters.length) = some 1 := by decide +kernel
theorem hdV_yX0_standing_0 : yX0_standing.cls = RX0 ∧ yX0_standing.cls ≠ "java/lang/invoke/MethodHandle" ∧ yX0_standing.cls ≠ "java/lang/invoke/VarHandle" ∧ (parseMethodDescriptor yX0_standing.desc).map (fun d => d.parameters.length) = some 0 := by decide +kernel
theorem hdV_yX0_takesOf_1 : yX0_takesOf.cls = RX0 ∧ yX0_takesOf.cls ≠ "java/lang/invoke/MethodHandle" ∧ yX0_takesOf.cls ≠ "java/lang/invoke/VarHandle" ∧ (parseMethodDescriptor yX0_takesOf.desc).map (fun d => d.parameters.length) = some 1 := by decide +kernel
theorem hdV_yX0_timeSuffices_1 : yX0_timeSuffices.cls = RX0 ∧ yX0_timeSuffices.cls ≠ "java/lang/invoke/MethodHandle" ∧ yX0_timeSuffices.cls ≠ "java/lang/invoke/VarHandle" ∧ (parseMethodDescriptor yX0_timeSuffices.desc).map (fun d => d.parameters.length) = some 1 := by decide +kernel
theorem hdV_yX0_withAddress_1 : yX0_withAddress.cls = RX0 ∧ yX0_withAddress.cls ≠ "java/lang/invoke/MethodHandle" ∧ yX0_withAddress.cls ≠ "java/lang/invoke/VarHandle" ∧ (parseMethodDescriptor yX0_withAddress.desc).map (fun d => d.parameters.length) = some 1 := by decide +kernel
theorem hdV_yX5_hasPort_2 : yX5_hasPort.cls = RX5 ∧ yX5_hasPort.cls ≠ "java/lang/invoke/MethodHandle" ∧ yX5_hasPort.cls ≠ "java/lang/invoke/VarHandle" ∧ (parseMethodDescriptor yX5_hasPort.desc).map (fun d => d.parameters.length) = some 2 := by decide +kernel
theorem hdV_yX5_has_1 : yX5_has.cls = RX5 ∧ yX5_has.cls ≠ "java/lang/invoke/MethodHandle" ∧ yX5_has.cls ≠ "java/lang/invoke/VarHandle" ∧ (parseMethodDescriptor yX5_has.desc).map (fun d => d.parameters.length) = some 1 := by decide +kernel
theorem hdV_yX5_isHub_1 : yX5_isHub.cls = RX5 ∧ yX5_isHub.cls ≠ "java/lang/invoke/MethodHandle" ∧ yX5_isHub.cls ≠ "java/lang/invoke/VarHandle" ∧ (parseMethodDescriptor yX5_isHub.desc).map (fun d => d.parameters.length) = some 1 := by decide +kernel
theorem hdV_yX5_isTold_0 : yX5_isTold.cls = RX5 ∧ yX5_isTold.cls ≠ "java/lang/invoke/MethodHandle" ∧ yX5_isTold.cls ≠ "java/lang/invoke/VarHandle" ∧ (parseMethodDescriptor yX5_isTold.desc).map (fun d => d.parameters.length) = some 0 := by decide +kernel
theorem hdV_yX5_lengthOf_1 : yX5_lengthOf.cls = RX5 ∧ yX5_lengthOf.cls ≠ "java/lang/invoke/MethodHandle" ∧ yX5_lengthOf.cls ≠ "java/lang/invoke/VarHandle" ∧ (parseMethodDescriptor yX5_lengthOf.desc).map (fun d => d.parameters.length) = some 1 := by decide +kernel
def FL_X0_freeAddress_2 (fr : Nat → Int32) (dv : Int32) (fu : Nat → Int32) (fp : Nat → Int32) : Nat → Int32 → Option (Int32)
  | 0, _ => none
  | n + 1, x1_2 => (if (fu 7) < x1_2 then some ((-1)) else ((F_X0_withAddress fr dv fu fp x1_2).bind fun o_2 => (if o_2 = (-1) then some (x1_2) else (FL_X0_freeAddress_2 fr dv fu fp n (x1_2 + 1)))))

def F_X0_freeAddress (fr : Nat → Int32) (dv : Int32) (fu : Nat → Int32) (fp : Nat → Int32) : Option (Int32) := (FL_X0_freeAddress_2 fr dv fu fp 1000 1)
set_option maxHeartbeats 4000000 in
set_option maxRecDepth 100000 in
theorem c_X0_freeAddress (l : Launch) (dC : Nat → ClassId) (dI : Nat → Nat → Nat) (g : Nat) (r0 : Nat) (h : Nat) (r1 : Nat) (r2 : Nat) (dv : Int32) (c0 : ClassId) (fr : Nat → Int32) (c1 : ClassId) (c2 : ClassId) (fu : Nat → Int32) (fp : Nat → Int32) (o : Int32) (hG : F_X0_freeAddress fr dv fu fp = some o) : Met l yX0_freeAddress (.code yX0_freeAddress cX0_freeAddress 2 (some .int) :: wA) ({ frames := 1, cells := 0, slots := 0, locals := 22 }) (va_Pc [.ref g] (q_R (dC, dI) [(g, .inr (0, [.ref r0, .ref h])), (r0, .inl (c0, 98, .inl fr)), (h, .inr (5, [.ref r1, .ref r2, .int dv])), (r1, .inl (c1, 8, .inl fu)), (r2, .inl (c2, 48, .inl fp))] [(c0, .int), (c1, .int), (c2, .int)])) (q_i o) 0 0 (fun _ => False) := by
  refine Met.ofW (cc := cX0_freeAddress) (maxL := 2) (ret := (some .int)) (by decide) rfl ?_
  intro p e s m args below meth c s₁ B hml hv
  obtain ⟨rfl, hP, hK⟩ := hv
  have hx := B.exec
  have hb := B.bytes
  have hr := B.returns
  have hts := atoms_spec (ws := .code yX0_freeAddress cX0_freeAddress 2 (some .int) :: wA) B.pre
  have hown : s.vm.findClass RX0 = some m.cls := findClass_of_methodNamed B.named
  have hlocks := B.notSynchronized
  have hS : va_S (fun _ => False) s.heap s.heap [] := va_S.rf
  have hl := lv_entry ([.ref g]) (n := 2) (Nat.le_of_ble_eq_true rfl)
  rw [lg_entry_eq]
  generalize (lg_sl ([.ref g]) ++ List.replicate (2 - (lg_sl ([.ref g])).length) Slot.unset).toArray = ls at hl ⊢
  have hl : lv_has ls 2 [(0, .ref g)] := hl
  unfold F_X0_freeAddress at hG
  refine lv_iconst (v := 1) hx hb dX0_freeAddress_0 (by decide) ?_
  refine lv_istore_n (lv' := [(1, .int 1), (0, .ref g)]) hx hb dX0_freeAddress_1 rfl hl (by decide) rfl (fun ls hl => ?_)
  have L_2 : ∀ (n_2 : Nat) (x1_2 : Int32) (H : Heap) (locs : List Loc) (ls : Array Slot), FL_X0_freeAddress_2 fr dv fu fp n_2 x1_2 = some o → va_P (dC, dI) vwCl [(g, .inr (0, [.ref r0, .ref h])), (r0, .inl (c0, 98, .inl fr)), (h, .inr (5, [.ref r1, .ref r2, .int dv])), (r1, .inl (c1, 8, .inl fu)), (r2, .inl (c2, 48, .inl fp))] H → va_S (fun _ => False) s.heap H locs → lv_has ls 2 [(1, .int x1_2), (0, .ref g)] → W p l e (headSpec (.code yX0_freeAddress cX0_freeAddress 2 (some .int) :: wA) ({ frames := 1, cells := 0, slots := 0, locals := 22 })).room s m #[.ref g] below meth c H locs 0 0 (MQ below (q_i o) #[.ref g] s 0 0 (fun _ => False)) (F0 m 2 ls []) := by
    intro n_2
    induction n_2 with
    | zero =>
      intro x1_2 H locs ls hG
      exact q_no hG
    | succ n_2 ih_2 =>
      intro x1_2 H locs ls hG hP hS hl
      unfold FL_X0_freeAddress_2 at hG
      refine lv_iload_n hx hb dX0_freeAddress_2 rfl (lv_at hl 0 rfl) ?_
      refine lv_aload_n hx hb dX0_freeAddress_3 rfl (lv_at hl 1 rfl) ?_
      refine va_get (D := (dC, dI)) (ci := 0) (v := .ref h) (C := RX0) (T := TX0) (N := 2) hx hb hts iA_0 hown hK hP 0 rfl rfl 1 (by decide) (hts (.fieldLink RX0 15 "HubTree$Bus" "plan" "LHubTree$Plan;") (List.mem_cons_of_mem _ m_89)) (fun _ h9 => h9) rfl dX0_freeAddress_4 ?_
      refine va_get (D := (dC, dI)) (ci := 5) (v := .ref r1) (C := RX5) (T := TX5) (N := 3) hx hb hts iA_5 hown hK hP 2 rfl rfl 0 (by decide) (hts (.fieldLink RX0 84 "HubTree$Plan" "rules" "[I") (List.mem_cons_of_mem _ m_577)) (fun _ h9 => h9) rfl dX0_freeAddress_7 ?_
      refine lv_bipush (v := 7) hx hb dX0_freeAddress_10 (by decide) ?_
      refine va_iald hx hb hK hP 3 1 rfl rfl (i := 7) (vp_in_iff.mpr (by decide)) dX0_freeAddress_12 ?_
      refine q_top (y := (fu 7)) rfl ?_
      refine lv_icmp_gt (tgt := 33) hx hb dX0_freeAddress_13 (by decide) (fun c_1 => ?_) (fun c_1 => ?_)
      · have hG := q_ifp c_1 hG
        refine lv_iconst (v := (-1)) hx hb dX0_freeAddress_33 (by decide) ?_
        obtain rfl := Option.some.inj hG
        exact W.iret (v := (-1)) hx hb hr (fun t ht hW => ⟨⟨(-1), (), rfl, rfl, trivial⟩, hS.F ht⟩) hS.2.2 dX0_freeAddress_34
      · have hG := q_ifn c_1 hG
        refine lv_aload_n hx hb dX0_freeAddress_16 rfl (lv_at hl 1 rfl) ?_
        refine lv_iload_n hx hb dX0_freeAddress_17 rfl (lv_at hl 0 rfl) ?_
        obtain ⟨o_2, r_3, hG⟩ := q_bi hG
        refine q_goi (v := o_2) (va_runV (As := [.int x1_2]) (rest := []) ⟨hx, hb, hml, hown, hts⟩ (c_X0_withAddress l dC dI g r0 h r1 r2 dv c0 fr c1 c2 fu fp x1_2 o_2 r_3) (cwV 1 hts (q_gV m_851 m_698 m_699 m_33 m_700) rfl rfl rfl hdV_yX0_withAddress_1 ⟨Nat.le_of_ble_eq_true rfl, Nat.le_of_ble_eq_true rfl⟩) (q_preV hK hP (q := (RX0, TX0, 2)) (ci := 0) (q0 := 0) rfl rfl [0, 1, 2, 3, 4] rfl [0, 1, 2] rfl) rfl rfl hl.1 rfl (lv_room (Nat.le_of_ble_eq_true rfl)) dX0_freeAddress_18 ⟨Nat.le_of_ble_eq_true rfl, Nat.le_of_ble_eq_true rfl⟩) hP hS (fun H locs hP hS => ?_)
        refine lv_iconst (v := (-1)) hx hb dX0_freeAddress_21 (by decide) ?_
        refine lv_icmp_ne (tgt := 27) hx hb dX0_freeAddress_22 (by decide) (fun c_4 => ?_) (fun c_4 => ?_)
        · have hG := q_ifn c_4 hG
          refine lv_iinc (v := (x1_2 + 1)) (lv' := [(1, .int (x1_2 + 1)), (0, .ref g)]) hx hb dX0_freeAddress_27 hl (k := 0) rfl (rfl) (by decide) rfl (fun ls hl => ?_)
          refine lv_goto (tgt := 2) hx hb dX0_freeAddress_30 (by decide) ?_
          exact ih_2 (x1_2 + 1) H locs ls hG hP hS (lv_sub hl [0, 1] rfl)
        · have hG := q_ifp c_4 hG
          refine lv_iload_n hx hb dX0_freeAddress_25 rfl (lv_at hl 0 rfl) ?_
          obtain rfl := Option.some.inj hG
          exact W.iret (v := x1_2) hx hb hr (fun t ht hW => ⟨⟨x1_2, (), rfl, rfl, trivial⟩, hS.F ht⟩) hS.2.2 dX0_freeAddress_26
  exact L_2 1000 1 s.heap [] ls hG hP hS hl

def F_X0_freeAddresses (fr : Nat → Int32) (dv : Int32) (fu : Nat → Int32) (fp : Nat → Int32) : Option (Int32) := ((F_X0_running fr dv fu fp).bind fun o_1 => some (((fu 7) - o_1)))
set_option maxHeartbeats 4000000 in
set_option maxRecDepth 100000 in
theorem c_X0_freeAddresses (l : Launch) (dC : Nat → ClassId) (dI : Nat → Nat → Nat) (g : Nat) (r0 : Nat) (h : Nat) (r1 : Nat) (r2 : Nat) (dv : Int32) (c0 : ClassId) (fr : Nat → Int32) (c1 : ClassId) (c2 : ClassId) (fu : Nat → Int32) (fp : Nat → Int32) (o : Int32) (hG : F_X0_freeAddresses fr dv fu fp = some o) : Met l yX0_freeAddresses (.code yX0_freeAddresses cX0_freeAddresses 1 (some .int) :: wA) ({ frames := 2, cells := 0, slots := 0, locals := 43 }) (va_Pc [.ref g] (q_R (dC, dI) [(g, .inr (0, [.ref r0, .ref h])), (r0, .inl (c0, 98, .inl fr)), (h, .inr (5, [.ref r1, .ref r2, .int dv])), (r1, .inl (c1, 8, .inl fu)), (r2, .inl (c2, 48, .inl fp))] [(c0, .int), (c1, .int), (c2, .int)])) (q_i o) 0 0 (fun _ => False) := by
  refine Met.ofW (cc := cX0_freeAddresses) (maxL := 1) (ret := (some .int)) (by decide) rfl ?_
  intro p e s m args below meth c s₁ B hml hv
  obtain ⟨rfl, hP, hK⟩ := hv
  have hx := B.exec
  have hb := B.bytes
  have hr := B.returns
  have hts := atoms_spec (ws := .code yX0_freeAddresses cX0_freeAddresses 1 (some .int) :: wA) B.pre
  have hown : s.vm.findClass RX0 = some m.cls := findClass_of_methodNamed B.named
  have hlocks := B.notSynchronized
  have hS : va_S (fun _ => False) s.heap s.heap [] := va_S.rf
  have hl := lv_entry ([.ref g]) (n := 1) (Nat.le_of_ble_eq_true rfl)
  rw [lg_entry_eq]
  generalize (lg_sl ([.ref g]) ++ List.replicate (1 - (lg_sl ([.ref g])).length) Slot.unset).toArray = ls at hl ⊢
  have hl : lv_has ls 1 [(0, .ref g)] := hl
  unfold F_X0_freeAddresses at hG
  refine lv_aload_n hx hb dX0_freeAddresses_0 rfl (lv_at hl 0 rfl) ?_
  refine va_get (D := (dC, dI)) (ci := 0) (v := .ref h) (C := RX0) (T := TX0) (N := 2) hx hb hts iA_0 hown hK hP 0 rfl rfl 1 (by decide) (hts (.fieldLink RX0 15 "HubTree$Bus" "plan" "LHubTree$Plan;") (List.mem_cons_of_mem _ m_89)) (fun _ h9 => h9) rfl dX0_freeAddresses_1 ?_
  refine va_get (D := (dC, dI)) (ci := 5) (v := .ref r1) (C := RX5) (T := TX5) (N := 3) hx hb hts iA_5 hown hK hP 2 rfl rfl 0 (by decide) (hts (.fieldLink RX0 84 "HubTree$Plan" "rules" "[I") (List.mem_cons_of_mem _ m_577)) (fun _ h9 => h9) rfl dX0_freeAddresses_4 ?_
  refine lv_bipush (v := 7) hx hb dX0_freeAddresses_7 (by decide) ?_
  refine va_iald hx hb hK hP 3 1 rfl rfl (i := 7) (vp_in_iff.mpr (by decide)) dX0_freeAddresses_9 ?_
  refine q_top (y := (fu 7)) rfl ?_
  refine lv_aload_n hx hb dX0_freeAddresses_10 rfl (lv_at hl 0 rfl) ?_
  obtain ⟨o_1, r_2, hG⟩ := q_bi hG
  refine q_goi (v := o_1) (va_runV (As := []) (rest := [.int (fu 7)]) ⟨hx, hb, hml, hown, hts⟩ (c_X0_running l dC dI g r0 h r1 r2 dv c0 fr c1 c2 fu fp o_1 r_2) (cwV 0 hts (q_gV m_1360 m_877 m_878 m_33 m_879) rfl rfl rfl hdV_yX0_running_0 ⟨Nat.le_of_ble_eq_true rfl, Nat.le_of_ble_eq_true rfl⟩) (q_preV hK hP (q := (RX0, TX0, 2)) (ci := 0) (q0 := 0) rfl rfl [0, 1, 2, 3, 4] rfl [0, 1, 2] rfl) rfl rfl hl.1 rfl (lv_room (Nat.le_of_ble_eq_true rfl)) dX0_freeAddresses_11 ⟨Nat.le_of_ble_eq_true rfl, Nat.le_of_ble_eq_true rfl⟩) hP hS (fun H locs hP hS => ?_)
  refine lv_isub hx hb dX0_freeAddresses_14 ?_
  obtain rfl := Option.some.inj hG
  exact W.iret (v := ((fu 7) - o_1)) hx hb hr (fun t ht hW => ⟨⟨((fu 7) - o_1), (), rfl, rfl, trivial⟩, hS.F ht⟩) hS.2.2 dX0_freeAddresses_15

def FL_X0_suppliedHubs_4 (fr : Nat → Int32) (dv : Int32) (fu : Nat → Int32) (fp : Nat → Int32) : Nat → Int32 → Int32 → Option (Int32)
  | 0, _, _ => none
  | n + 1, x1_4, x2_4 => (if dv ≤ x2_4 then some (x1_4) else (if (72 + x2_4) < 0 ∨ 98 ≤ ((72 + x2_4)).toNatClampNeg then none else (if (fr (72 + x2_4).toNatClampNeg) = 1 then ((F_X5_isHub dv fu fp x2_4).bind fun o_4 => (if o_4 = 0 then (FL_X0_suppliedHubs_4 fr dv fu fp n (x1_4 ||| 0) (x2_4 + 1)) else (FL_X0_suppliedHubs_4 fr dv fu fp n (x1_4 ||| (1 <<< (x2_4 &&& 31))) (x2_4 + 1)))) else (FL_X0_suppliedHubs_4 fr dv fu fp n (x1_4 ||| 0) (x2_4 + 1)))))

def F_X0_suppliedHubs (fr : Nat → Int32) (dv : Int32) (fu : Nat → Int32) (fp : Nat → Int32) : Option (Int32) := (FL_X0_suppliedHubs_4 fr dv fu fp 1000 0 0)
set_option maxHeartbeats 4000000 in
set_option maxRecDepth 100000 in
theorem c_X0_suppliedHubs (l : Launch) (dC : Nat → ClassId) (dI : Nat → Nat → Nat) (g : Nat) (r0 : Nat) (h : Nat) (r1 : Nat) (r2 : Nat) (dv : Int32) (c0 : ClassId) (fr : Nat → Int32) (c1 : ClassId) (c2 : ClassId) (fu : Nat → Int32) (fp : Nat → Int32) (o : Int32) (hG : F_X0_suppliedHubs fr dv fu fp = some o) : Met l yX0_suppliedHubs (.code yX0_suppliedHubs cX0_suppliedHubs 3 (some .int) :: wA) ({ frames := 2, cells := 0, slots := 0, locals := 42 }) (va_Pc [.ref g] (q_R (dC, dI) [(g, .inr (0, [.ref r0, .ref h])), (r0, .inl (c0, 98, .inl fr)), (h, .inr (5, [.ref r1, .ref r2, .int dv])), (r1, .inl (c1, 8, .inl fu)), (r2, .inl (c2, 48, .inl fp))] [(c0, .int), (c1, .int), (c2, .int)])) (q_i o) 0 0 (fun _ => False) := by
  refine Met.ofW (cc := cX0_suppliedHubs) (maxL := 3) (ret := (some .int)) (by decide) rfl ?_
  intro p e s m args below meth c s₁ B hml hv
  obtain ⟨rfl, hP, hK⟩ := hv
  have hx := B.exec
  have hb := B.bytes
  have hr := B.returns
  have hts := atoms_spec (ws := .code yX0_suppliedHubs cX0_suppliedHubs 3 (some .int) :: wA) B.pre
  have hown : s.vm.findClass RX0 = some m.cls := findClass_of_methodNamed B.named
  have hlocks := B.notSynchronized
  have hS : va_S (fun _ => False) s.heap s.heap [] := va_S.rf
  have hl := lv_entry ([.ref g]) (n := 3) (Nat.le_of_ble_eq_true rfl)
  rw [lg_entry_eq]
  generalize (lg_sl ([.ref g]) ++ List.replicate (3 - (lg_sl ([.ref g])).length) Slot.unset).toArray = ls at hl ⊢
  have hl : lv_has ls 3 [(0, .ref g)] := hl
  unfold F_X0_suppliedHubs at hG
  refine lv_iconst (v := 0) hx hb dX0_suppliedHubs_0 (by decide) ?_
  refine lv_istore_n (lv' := [(1, .int 0), (0, .ref g)]) hx hb dX0_suppliedHubs_1 rfl hl (by decide) rfl (fun ls hl => ?_)
  refine lv_iconst (v := 0) hx hb dX0_suppliedHubs_2 (by decide) ?_
  refine lv_istore_n (lv' := [(2, .int 0), (1, .int 0), (0, .ref g)]) hx hb dX0_suppliedHubs_3 rfl hl (by decide) rfl (fun ls hl => ?_)
  have L_4 : ∀ (n_4 : Nat) (x1_4 : Int32) (x2_4 : Int32) (H : Heap) (locs : List Loc) (ls : Array Slot), FL_X0_suppliedHubs_4 fr dv fu fp n_4 x1_4 x2_4 = some o → va_P (dC, dI) vwCl [(g, .inr (0, [.ref r0, .ref h])), (r0, .inl (c0, 98, .inl fr)), (h, .inr (5, [.ref r1, .ref r2, .int dv])), (r1, .inl (c1, 8, .inl fu)), (r2, .inl (c2, 48, .inl fp))] H → va_S (fun _ => False) s.heap H locs → lv_has ls 3 [(2, .int x2_4), (1, .int x1_4), (0, .ref g)] → W p l e (headSpec (.code yX0_suppliedHubs cX0_suppliedHubs 3 (some .int) :: wA) ({ frames := 2, cells := 0, slots := 0, locals := 42 })).room s m #[.ref g] below meth c H locs 0 0 (MQ below (q_i o) #[.ref g] s 0 0 (fun _ => False)) (F0 m 4 ls []) := by
    intro n_4
    induction n_4 with
    | zero =>
      intro x1_4 x2_4 H locs ls hG
      exact q_no hG
    | succ n_4 ih_4 =>
      intro x1_4 x2_4 H locs ls hG hP hS hl
      unfold FL_X0_suppliedHubs_4 at hG
      refine lv_iload_n hx hb dX0_suppliedHubs_4 rfl (lv_at hl 0 rfl) ?_
      refine lv_aload_n hx hb dX0_suppliedHubs_5 rfl (lv_at hl 2 rfl) ?_
      refine va_get (D := (dC, dI)) (ci := 0) (v := .ref h) (C := RX0) (T := TX0) (N := 2) hx hb hts iA_0 hown hK hP 0 rfl rfl 1 (by decide) (hts (.fieldLink RX0 15 "HubTree$Bus" "plan" "LHubTree$Plan;") (List.mem_cons_of_mem _ m_89)) (fun _ h9 => h9) rfl dX0_suppliedHubs_6 ?_
      refine va_get (D := (dC, dI)) (ci := 5) (v := .int dv) (C := RX5) (T := TX5) (N := 3) hx hb hts iA_5 hown hK hP 2 rfl rfl 2 (by decide) (hts (.fieldLink RX0 25 "HubTree$Plan" "devices" "I") (List.mem_cons_of_mem _ m_399)) (fun _ h9 => h9) rfl dX0_suppliedHubs_9 ?_
      refine lv_icmp_ge (tgt := 55) hx hb dX0_suppliedHubs_12 (by decide) (fun c_1 => ?_) (fun c_1 => ?_)
      · have hG := q_ifp c_1 hG
        refine lv_iload_n hx hb dX0_suppliedHubs_55 rfl (lv_at hl 1 rfl) ?_
        obtain rfl := Option.some.inj hG
        exact W.iret (v := x1_4) hx hb hr (fun t ht hW => ⟨⟨x1_4, (), rfl, rfl, trivial⟩, hS.F ht⟩) hS.2.2 dX0_suppliedHubs_56
      · have hG := q_ifn c_1 hG
        refine lv_iload_n hx hb dX0_suppliedHubs_15 rfl (lv_at hl 1 rfl) ?_
        refine lv_aload_n hx hb dX0_suppliedHubs_16 rfl (lv_at hl 2 rfl) ?_
        refine va_get (D := (dC, dI)) (ci := 0) (v := .ref r0) (C := RX0) (T := TX0) (N := 2) hx hb hts iA_0 hown hK hP 0 rfl rfl 0 (by decide) (hts (.fieldLink RX0 11 "HubTree$Bus" "row" "[I") (List.mem_cons_of_mem _ m_88)) (fun _ h9 => h9) rfl dX0_suppliedHubs_17 ?_
        refine lv_bipush (v := 72) hx hb dX0_suppliedHubs_20 (by decide) ?_
        refine lv_iload_n hx hb dX0_suppliedHubs_22 rfl (lv_at hl 0 rfl) ?_
        refine lv_iadd hx hb dX0_suppliedHubs_23 ?_
        obtain ⟨h_2, hG⟩ := q_ix hG
        refine va_iald hx hb hK hP 1 0 rfl rfl (i := (72 + x2_4)) h_2 dX0_suppliedHubs_24 ?_
        refine q_top (y := (fr (72 + x2_4).toNatClampNeg)) rfl ?_
        refine lv_iconst (v := 1) hx hb dX0_suppliedHubs_25 (by decide) ?_
        refine lv_icmp_ne (tgt := 46) hx hb dX0_suppliedHubs_26 (by decide) (fun c_3 => ?_) (fun c_3 => ?_)
        · have hG := q_ifn c_3 hG
          refine lv_iconst (v := 0) hx hb dX0_suppliedHubs_46 (by decide) ?_
          refine lv_ior hx hb dX0_suppliedHubs_47 ?_
          refine lv_istore_n (lv' := [(1, .int (x1_4 ||| 0)), (2, .int x2_4), (0, .ref g)]) hx hb dX0_suppliedHubs_48 rfl hl (by decide) rfl (fun ls hl => ?_)
          refine lv_iinc (v := (x2_4 + 1)) (lv' := [(2, .int (x2_4 + 1)), (1, .int (x1_4 ||| 0)), (0, .ref g)]) hx hb dX0_suppliedHubs_49 hl (k := 1) rfl (rfl) (by decide) rfl (fun ls hl => ?_)
          refine lv_goto (tgt := 4) hx hb dX0_suppliedHubs_52 (by decide) ?_
          exact ih_4 (x1_4 ||| 0) (x2_4 + 1) H locs ls hG hP hS (lv_sub hl [0, 1, 2] rfl)
        · have hG := q_ifp c_3 hG
          refine lv_aload_n hx hb dX0_suppliedHubs_29 rfl (lv_at hl 2 rfl) ?_
          refine va_get (D := (dC, dI)) (ci := 0) (v := .ref h) (C := RX0) (T := TX0) (N := 2) hx hb hts iA_0 hown hK hP 0 rfl rfl 1 (by decide) (hts (.fieldLink RX0 15 "HubTree$Bus" "plan" "LHubTree$Plan;") (List.mem_cons_of_mem _ m_89)) (fun _ h9 => h9) rfl dX0_suppliedHubs_30 ?_
          refine lv_iload_n hx hb dX0_suppliedHubs_33 rfl (lv_at hl 0 rfl) ?_
          obtain ⟨o_4, r_5, hG⟩ := q_bi hG
          refine q_goi (v := o_4) (va_runV (As := [.int x2_4]) (rest := [.int x1_4]) ⟨hx, hb, hml, hown, hts⟩ (c_X5_isHub l dC dI h r1 r2 dv c1 c2 fu fp x2_4 o_4 r_5) (cwV 1 hts (q_gV m_740 m_558 m_559 m_24 m_560) rfl rfl rfl hdV_yX5_isHub_1 ⟨Nat.le_of_ble_eq_true rfl, Nat.le_of_ble_eq_true rfl⟩) (q_preV hK hP (q := (RX5, TX5, 3)) (ci := 5) (q0 := 2) rfl rfl [2, 3, 4] rfl [1, 2] rfl) rfl rfl hl.1 rfl (lv_room (Nat.le_of_ble_eq_true rfl)) dX0_suppliedHubs_34 ⟨Nat.le_of_ble_eq_true rfl, Nat.le_of_ble_eq_true rfl⟩) hP hS (fun H locs hP hS => ?_)
          refine lv_if_eq (tgt := 46) hx hb dX0_suppliedHubs_37 (by decide) (fun c_6 => ?_) (fun c_6 => ?_)
          · have hG := q_ifp c_6 hG
            refine lv_iconst (v := 0) hx hb dX0_suppliedHubs_46 (by decide) ?_
            refine lv_ior hx hb dX0_suppliedHubs_47 ?_
            refine lv_istore_n (lv' := [(1, .int (x1_4 ||| 0)), (2, .int x2_4), (0, .ref g)]) hx hb dX0_suppliedHubs_48 rfl hl (by decide) rfl (fun ls hl => ?_)
            refine lv_iinc (v := (x2_4 + 1)) (lv' := [(2, .int (x2_4 + 1)), (1, .int (x1_4 ||| 0)), (0, .ref g)]) hx hb dX0_suppliedHubs_49 hl (k := 1) rfl (rfl) (by decide) rfl (fun ls hl => ?_)
            refine lv_goto (tgt := 4) hx hb dX0_suppliedHubs_52 (by decide) ?_
            exact ih_4 (x1_4 ||| 0) (x2_4 + 1) H locs ls hG hP hS (lv_sub hl [0, 1, 2] rfl)
          · have hG := q_ifn c_6 hG
            refine lv_iconst (v := 1) hx hb dX0_suppliedHubs_40 (by decide) ?_
            refine lv_iload_n hx hb dX0_suppliedHubs_41 rfl (lv_at hl 0 rfl) ?_
            refine lv_ishl hx hb dX0_suppliedHubs_42 ?_
            refine lv_goto (tgt := 47) hx hb dX0_suppliedHubs_43 (by decide) ?_
            refine lv_ior hx hb dX0_suppliedHubs_47 ?_
            refine lv_istore_n (lv' := [(1, .int (x1_4 ||| (1 <<< (x2_4 &&& 31)))), (2, .int x2_4), (0, .ref g)]) hx hb dX0_suppliedHubs_48 rfl hl (by decide) rfl (fun ls hl => ?_)
            refine lv_iinc (v := (x2_4 + 1)) (lv' := [(2, .int (x2_4 + 1)), (1, .int (x1_4 ||| (1 <<< (x2_4 &&& 31)))), (0, .ref g)]) hx hb dX0_suppliedHubs_49 hl (k := 1) rfl (rfl) (by decide) rfl (fun ls hl => ?_)
            refine lv_goto (tgt := 4) hx hb dX0_suppliedHubs_52 (by decide) ?_
            exact ih_4 (x1_4 ||| (1 <<< (x2_4 &&& 31))) (x2_4 + 1) H locs ls hG hP hS (lv_sub hl [0, 1, 2] rfl)
  exact L_4 1000 0 0 s.heap [] ls hG hP hS hl

def FL_X0_sleepers_4 (fr : Nat → Int32) (dv : Int32) (fu : Nat → Int32) (fp : Nat → Int32) : Nat → Int32 → Int32 → Option (Int32)
  | 0, _, _ => none
  | n + 1, x1_4, x2_4 => (if dv ≤ x2_4 then some (x1_4) else (if (88 + x2_4) < 0 ∨ 98 ≤ ((88 + x2_4)).toNatClampNeg then none else (if (fr (88 + x2_4).toNatClampNeg) = 1 then (FL_X0_sleepers_4 fr dv fu fp n (x1_4 ||| (1 <<< (x2_4 &&& 31))) (x2_4 + 1)) else (FL_X0_sleepers_4 fr dv fu fp n (x1_4 ||| 0) (x2_4 + 1)))))

def F_X0_sleepers (fr : Nat → Int32) (dv : Int32) (fu : Nat → Int32) (fp : Nat → Int32) : Option (Int32) := (FL_X0_sleepers_4 fr dv fu fp 1000 0 0)
set_option maxHeartbeats 4000000 in
set_option maxRecDepth 100000 in
theorem c_X0_sleepers (l : Launch) (dC : Nat → ClassId) (dI : Nat → Nat → Nat) (g : Nat) (r0 : Nat) (h : Nat) (r1 : Nat) (r2 : Nat) (dv : Int32) (c0 : ClassId) (fr : Nat → Int32) (c1 : ClassId) (c2 : ClassId) (fu : Nat → Int32) (fp : Nat → Int32) (o : Int32) (hG : F_X0_sleepers fr dv fu fp = some o) : Met l yX0_sleepers (.code yX0_sleepers cX0_sleepers 3 (some .int) :: wA) ({ frames := 0, cells := 0, slots := 0, locals := 0 }) (va_Pc [.ref g] (q_R (dC, dI) [(g, .inr (0, [.ref r0, .ref h])), (r0, .inl (c0, 98, .inl fr)), (h, .inr (5, [.ref r1, .ref r2, .int dv])), (r1, .inl (c1, 8, .inl fu)), (r2, .inl (c2, 48, .inl fp))] [(c0, .int), (c1, .int), (c2, .int)])) (q_i o) 0 0 (fun _ => False) := by
  refine Met.ofW (cc := cX0_sleepers) (maxL := 3) (ret := (some .int)) (by decide) rfl ?_
  intro p e s m args below meth c s₁ B hml hv
  obtain ⟨rfl, hP, hK⟩ := hv
  have hx := B.exec
  have hb := B.bytes
  have hr := B.returns
  have hts := atoms_spec (ws := .code yX0_sleepers cX0_sleepers 3 (some .int) :: wA) B.pre
  have hown : s.vm.findClass RX0 = some m.cls := findClass_of_methodNamed B.named
  have hlocks := B.notSynchronized
  have hS : va_S (fun _ => False) s.heap s.heap [] := va_S.rf
  have hl := lv_entry ([.ref g]) (n := 3) (Nat.le_of_ble_eq_true rfl)
  rw [lg_entry_eq]
  generalize (lg_sl ([.ref g]) ++ List.replicate (3 - (lg_sl ([.ref g])).length) Slot.unset).toArray = ls at hl ⊢
  have hl : lv_has ls 3 [(0, .ref g)] := hl
  unfold F_X0_sleepers at hG
  refine lv_iconst (v := 0) hx hb dX0_sleepers_0 (by decide) ?_
  refine lv_istore_n (lv' := [(1, .int 0), (0, .ref g)]) hx hb dX0_sleepers_1 rfl hl (by decide) rfl (fun ls hl => ?_)
  refine lv_iconst (v := 0) hx hb dX0_sleepers_2 (by decide) ?_
  refine lv_istore_n (lv' := [(2, .int 0), (1, .int 0), (0, .ref g)]) hx hb dX0_sleepers_3 rfl hl (by decide) rfl (fun ls hl => ?_)
  have L_4 : ∀ (n_4 : Nat) (x1_4 : Int32) (x2_4 : Int32) (H : Heap) (locs : List Loc) (ls : Array Slot), FL_X0_sleepers_4 fr dv fu fp n_4 x1_4 x2_4 = some o → va_P (dC, dI) vwCl [(g, .inr (0, [.ref r0, .ref h])), (r0, .inl (c0, 98, .inl fr)), (h, .inr (5, [.ref r1, .ref r2, .int dv])), (r1, .inl (c1, 8, .inl fu)), (r2, .inl (c2, 48, .inl fp))] H → va_S (fun _ => False) s.heap H locs → lv_has ls 3 [(2, .int x2_4), (1, .int x1_4), (0, .ref g)] → W p l e (headSpec (.code yX0_sleepers cX0_sleepers 3 (some .int) :: wA) ({ frames := 0, cells := 0, slots := 0, locals := 0 })).room s m #[.ref g] below meth c H locs 0 0 (MQ below (q_i o) #[.ref g] s 0 0 (fun _ => False)) (F0 m 4 ls []) := by
    intro n_4
    induction n_4 with
    | zero =>
      intro x1_4 x2_4 H locs ls hG
      exact q_no hG
    | succ n_4 ih_4 =>
      intro x1_4 x2_4 H locs ls hG hP hS hl
      unfold FL_X0_sleepers_4 at hG
      refine lv_iload_n hx hb dX0_sleepers_4 rfl (lv_at hl 0 rfl) ?_
      refine lv_aload_n hx hb dX0_sleepers_5 rfl (lv_at hl 2 rfl) ?_
      refine va_get (D := (dC, dI)) (ci := 0) (v := .ref h) (C := RX0) (T := TX0) (N := 2) hx hb hts iA_0 hown hK hP 0 rfl rfl 1 (by decide) (hts (.fieldLink RX0 15 "HubTree$Bus" "plan" "LHubTree$Plan;") (List.mem_cons_of_mem _ m_89)) (fun _ h9 => h9) rfl dX0_sleepers_6 ?_
      refine va_get (D := (dC, dI)) (ci := 5) (v := .int dv) (C := RX5) (T := TX5) (N := 3) hx hb hts iA_5 hown hK hP 2 rfl rfl 2 (by decide) (hts (.fieldLink RX0 25 "HubTree$Plan" "devices" "I") (List.mem_cons_of_mem _ m_399)) (fun _ h9 => h9) rfl dX0_sleepers_9 ?_
      refine lv_icmp_ge (tgt := 44) hx hb dX0_sleepers_12 (by decide) (fun c_1 => ?_) (fun c_1 => ?_)
      · have hG := q_ifp c_1 hG
        refine lv_iload_n hx hb dX0_sleepers_44 rfl (lv_at hl 1 rfl) ?_
        obtain rfl := Option.some.inj hG
        exact W.iret (v := x1_4) hx hb hr (fun t ht hW => ⟨⟨x1_4, (), rfl, rfl, trivial⟩, hS.F ht⟩) hS.2.2 dX0_sleepers_45
      · have hG := q_ifn c_1 hG
        refine lv_iload_n hx hb dX0_sleepers_15 rfl (lv_at hl 1 rfl) ?_
        refine lv_aload_n hx hb dX0_sleepers_16 rfl (lv_at hl 2 rfl) ?_
        refine va_get (D := (dC, dI)) (ci := 0) (v := .ref r0) (C := RX0) (T := TX0) (N := 2) hx hb hts iA_0 hown hK hP 0 rfl rfl 0 (by decide) (hts (.fieldLink RX0 11 "HubTree$Bus" "row" "[I") (List.mem_cons_of_mem _ m_88)) (fun _ h9 => h9) rfl dX0_sleepers_17 ?_
        refine lv_bipush (v := 88) hx hb dX0_sleepers_20 (by decide) ?_
        refine lv_iload_n hx hb dX0_sleepers_22 rfl (lv_at hl 0 rfl) ?_
        refine lv_iadd hx hb dX0_sleepers_23 ?_
        obtain ⟨h_2, hG⟩ := q_ix hG
        refine va_iald hx hb hK hP 1 0 rfl rfl (i := (88 + x2_4)) h_2 dX0_sleepers_24 ?_
        refine q_top (y := (fr (88 + x2_4).toNatClampNeg)) rfl ?_
        refine lv_iconst (v := 1) hx hb dX0_sleepers_25 (by decide) ?_
        refine lv_icmp_ne (tgt := 35) hx hb dX0_sleepers_26 (by decide) (fun c_3 => ?_) (fun c_3 => ?_)
        · have hG := q_ifn c_3 hG
          refine lv_iconst (v := 0) hx hb dX0_sleepers_35 (by decide) ?_
          refine lv_ior hx hb dX0_sleepers_36 ?_
          refine lv_istore_n (lv' := [(1, .int (x1_4 ||| 0)), (2, .int x2_4), (0, .ref g)]) hx hb dX0_sleepers_37 rfl hl (by decide) rfl (fun ls hl => ?_)
          refine lv_iinc (v := (x2_4 + 1)) (lv' := [(2, .int (x2_4 + 1)), (1, .int (x1_4 ||| 0)), (0, .ref g)]) hx hb dX0_sleepers_38 hl (k := 1) rfl (rfl) (by decide) rfl (fun ls hl => ?_)
          refine lv_goto (tgt := 4) hx hb dX0_sleepers_41 (by decide) ?_
          exact ih_4 (x1_4 ||| 0) (x2_4 + 1) H locs ls hG hP hS (lv_sub hl [0, 1, 2] rfl)
        · have hG := q_ifp c_3 hG
          refine lv_iconst (v := 1) hx hb dX0_sleepers_29 (by decide) ?_
          refine lv_iload_n hx hb dX0_sleepers_30 rfl (lv_at hl 0 rfl) ?_
          refine lv_ishl hx hb dX0_sleepers_31 ?_
          refine lv_goto (tgt := 36) hx hb dX0_sleepers_32 (by decide) ?_
          refine lv_ior hx hb dX0_sleepers_36 ?_
          refine lv_istore_n (lv' := [(1, .int (x1_4 ||| (1 <<< (x2_4 &&& 31)))), (2, .int x2_4), (0, .ref g)]) hx hb dX0_sleepers_37 rfl hl (by decide) rfl (fun ls hl => ?_)
          refine lv_iinc (v := (x2_4 + 1)) (lv' := [(2, .int (x2_4 + 1)), (1, .int (x1_4 ||| (1 <<< (x2_4 &&& 31)))), (0, .ref g)]) hx hb dX0_sleepers_38 hl (k := 1) rfl (rfl) (by decide) rfl (fun ls hl => ?_)
          refine lv_goto (tgt := 4) hx hb dX0_sleepers_41 (by decide) ?_
          exact ih_4 (x1_4 ||| (1 <<< (x2_4 &&& 31))) (x2_4 + 1) H locs ls hG hP hS (lv_sub hl [0, 1, 2] rfl)
  exact L_4 1000 0 0 s.heap [] ls hG hP hS hl

def F_X0_takesOf (fr : Nat → Int32) (dv : Int32) (fu : Nat → Int32) (fp : Nat → Int32) (d : Int32) : Option (Int32) := (if (72 + d) < 0 ∨ 98 ≤ ((72 + d)).toNatClampNeg then none else (if (fr (72 + d).toNatClampNeg) = 1 then some (0) else (if (88 + d) < 0 ∨ 98 ≤ ((88 + d)).toNatClampNeg then none else (if (fr (88 + d).toNatClampNeg) = 1 then some (0) else (if (16 + d) < 0 ∨ 48 ≤ ((16 + d)).toNatClampNeg then none else some ((fp (16 + d).toNatClampNeg)))))))
set_option maxHeartbeats 4000000 in
set_option maxRecDepth 100000 in
theorem c_X0_takesOf (l : Launch) (dC : Nat → ClassId) (dI : Nat → Nat → Nat) (g : Nat) (r0 : Nat) (h : Nat) (r1 : Nat) (r2 : Nat) (dv : Int32) (c0 : ClassId) (fr : Nat → Int32) (c1 : ClassId) (c2 : ClassId) (fu : Nat → Int32) (fp : Nat → Int32) (d : Int32) (o : Int32) (hG : F_X0_takesOf fr dv fu fp d = some o) : Met l yX0_takesOf (.code yX0_takesOf cX0_takesOf 2 (some .int) :: wA) ({ frames := 0, cells := 0, slots := 0, locals := 0 }) (va_Pc [.ref g, .int d] (q_R (dC, dI) [(g, .inr (0, [.ref r0, .ref h])), (r0, .inl (c0, 98, .inl fr)), (h, .inr (5, [.ref r1, .ref r2, .int dv])), (r1, .inl (c1, 8, .inl fu)), (r2, .inl (c2, 48, .inl fp))] [(c0, .int), (c1, .int), (c2, .int)])) (q_i o) 0 0 (fun _ => False) := by
  refine Met.ofW (cc := cX0_takesOf) (maxL := 2) (ret := (some .int)) (by decide) rfl ?_
  intro p e s m args below meth c s₁ B hml hv
  obtain ⟨rfl, hP, hK⟩ := hv
  have hx := B.exec
  have hb := B.bytes
  have hr := B.returns
  have hts := atoms_spec (ws := .code yX0_takesOf cX0_takesOf 2 (some .int) :: wA) B.pre
  have hown : s.vm.findClass RX0 = some m.cls := findClass_of_methodNamed B.named
  have hlocks := B.notSynchronized
  have hS : va_S (fun _ => False) s.heap s.heap [] := va_S.rf
  have hl := lv_entry ([.ref g, .int d]) (n := 2) (Nat.le_of_ble_eq_true rfl)
  rw [lg_entry_eq]
  generalize (lg_sl ([.ref g, .int d]) ++ List.replicate (2 - (lg_sl ([.ref g, .int d])).length) Slot.unset).toArray = ls at hl ⊢
  have hl : lv_has ls 2 [(0, .ref g), (1, .int d)] := hl
  unfold F_X0_takesOf at hG
  refine lv_aload_n hx hb dX0_takesOf_0 rfl (lv_at hl 0 rfl) ?_
  refine va_get (D := (dC, dI)) (ci := 0) (v := .ref r0) (C := RX0) (T := TX0) (N := 2) hx hb hts iA_0 hown hK hP 0 rfl rfl 0 (by decide) (hts (.fieldLink RX0 11 "HubTree$Bus" "row" "[I") (List.mem_cons_of_mem _ m_88)) (fun _ h9 => h9) rfl dX0_takesOf_1 ?_
  refine lv_bipush (v := 72) hx hb dX0_takesOf_4 (by decide) ?_
  refine lv_iload_n hx hb dX0_takesOf_6 rfl (lv_at hl 1 rfl) ?_
  refine lv_iadd hx hb dX0_takesOf_7 ?_
  obtain ⟨h_1, hG⟩ := q_ix hG
  refine va_iald hx hb hK hP 1 0 rfl rfl (i := (72 + d)) h_1 dX0_takesOf_8 ?_
  refine q_top (y := (fr (72 + d).toNatClampNeg)) rfl ?_
  refine lv_iconst (v := 1) hx hb dX0_takesOf_9 (by decide) ?_
  refine lv_icmp_eq (tgt := 26) hx hb dX0_takesOf_10 (by decide) (fun c_2 => ?_) (fun c_2 => ?_)
  · have hG := q_ifp c_2 hG
    refine lv_iconst (v := 0) hx hb dX0_takesOf_26 (by decide) ?_
    refine lv_goto (tgt := 42) hx hb dX0_takesOf_27 (by decide) ?_
    obtain rfl := Option.some.inj hG
    exact W.iret (v := 0) hx hb hr (fun t ht hW => ⟨⟨0, (), rfl, rfl, trivial⟩, hS.F ht⟩) hS.2.2 dX0_takesOf_42
  · have hG := q_ifn c_2 hG
    refine lv_aload_n hx hb dX0_takesOf_13 rfl (lv_at hl 0 rfl) ?_
    refine va_get (D := (dC, dI)) (ci := 0) (v := .ref r0) (C := RX0) (T := TX0) (N := 2) hx hb hts iA_0 hown hK hP 0 rfl rfl 0 (by decide) (hts (.fieldLink RX0 11 "HubTree$Bus" "row" "[I") (List.mem_cons_of_mem _ m_88)) (fun _ h9 => h9) rfl dX0_takesOf_14 ?_
    refine lv_bipush (v := 88) hx hb dX0_takesOf_17 (by decide) ?_
    refine lv_iload_n hx hb dX0_takesOf_19 rfl (lv_at hl 1 rfl) ?_
    refine lv_iadd hx hb dX0_takesOf_20 ?_
    obtain ⟨h_3, hG⟩ := q_ix hG
    refine va_iald hx hb hK hP 1 0 rfl rfl (i := (88 + d)) h_3 dX0_takesOf_21 ?_
    refine q_top (y := (fr (88 + d).toNatClampNeg)) rfl ?_
    refine lv_iconst (v := 1) hx hb dX0_takesOf_22 (by decide) ?_
    refine lv_icmp_ne (tgt := 30) hx hb dX0_takesOf_23 (by decide) (fun c_4 => ?_) (fun c_4 => ?_)
    · have hG := q_ifn c_4 hG
      refine lv_aload_n hx hb dX0_takesOf_30 rfl (lv_at hl 0 rfl) ?_
      refine va_get (D := (dC, dI)) (ci := 0) (v := .ref h) (C := RX0) (T := TX0) (N := 2) hx hb hts iA_0 hown hK hP 0 rfl rfl 1 (by decide) (hts (.fieldLink RX0 15 "HubTree$Bus" "plan" "LHubTree$Plan;") (List.mem_cons_of_mem _ m_89)) (fun _ h9 => h9) rfl dX0_takesOf_31 ?_
      refine va_get (D := (dC, dI)) (ci := 5) (v := .ref r2) (C := RX5) (T := TX5) (N := 3) hx hb hts iA_5 hown hK hP 2 rfl rfl 1 (by decide) (hts (.fieldLink RX0 35 "HubTree$Plan" "row" "[I") (List.mem_cons_of_mem _ m_400)) (fun _ h9 => h9) rfl dX0_takesOf_34 ?_
      refine lv_bipush (v := 16) hx hb dX0_takesOf_37 (by decide) ?_
      refine lv_iload_n hx hb dX0_takesOf_39 rfl (lv_at hl 1 rfl) ?_
      refine lv_iadd hx hb dX0_takesOf_40 ?_
      obtain ⟨h_5, hG⟩ := q_ix hG
      refine va_iald hx hb hK hP 4 2 rfl rfl (i := (16 + d)) h_5 dX0_takesOf_41 ?_
      refine q_top (y := (fp (16 + d).toNatClampNeg)) rfl ?_
      obtain rfl := Option.some.inj hG
      exact W.iret (v := (fp (16 + d).toNatClampNeg)) hx hb hr (fun t ht hW => ⟨⟨(fp (16 + d).toNatClampNeg), (), rfl, rfl, trivial⟩, hS.F ht⟩) hS.2.2 dX0_takesOf_42
    · have hG := q_ifp c_4 hG
      refine lv_iconst (v := 0) hx hb dX0_takesOf_26 (by decide) ?_
      refine lv_goto (tgt := 42) hx hb dX0_takesOf_27 (by decide) ?_
      obtain rfl := Option.some.inj hG
      exact W.iret (v := 0) hx hb hr (fun t ht hW => ⟨⟨0, (), rfl, rfl, trivial⟩, hS.F ht⟩) hS.2.2 dX0_takesOf_42

def F_X0_portGives (fr : Nat → Int32) (dv : Int32) (fu : Nat → Int32) (fp : Nat → Int32) (d : Int32) : Option (Int32) := (if d = 8 then some ((fu 4)) else (if d < 0 then some (1) else (if 8 ≤ d then some (1) else (if (72 + d) < 0 ∨ 98 ≤ ((72 + d)).toNatClampNeg then none else (if (fr (72 + d).toNatClampNeg) = 1 then some (5) else some (1))))))
set_option maxHeartbeats 4000000 in
set_option maxRecDepth 100000 in
theorem c_X0_portGives (l : Launch) (dC : Nat → ClassId) (dI : Nat → Nat → Nat) (g : Nat) (r0 : Nat) (h : Nat) (r1 : Nat) (r2 : Nat) (dv : Int32) (c0 : ClassId) (fr : Nat → Int32) (c1 : ClassId) (c2 : ClassId) (fu : Nat → Int32) (fp : Nat → Int32) (d : Int32) (o : Int32) (hG : F_X0_portGives fr dv fu fp d = some o) : Met l yX0_portGives (.code yX0_portGives cX0_portGives 3 (some .int) :: wA) ({ frames := 0, cells := 0, slots := 0, locals := 0 }) (va_Pc [.ref g, .int d] (q_R (dC, dI) [(g, .inr (0, [.ref r0, .ref h])), (r0, .inl (c0, 98, .inl fr)), (h, .inr (5, [.ref r1, .ref r2, .int dv])), (r1, .inl (c1, 8, .inl fu)), (r2, .inl (c2, 48, .inl fp))] [(c0, .int), (c1, .int), (c2, .int)])) (q_i o) 0 0 (fun _ => False) := by
  refine Met.ofW (cc := cX0_portGives) (maxL := 3) (ret := (some .int)) (by decide) rfl ?_
  intro p e s m args below meth c s₁ B hml hv
  obtain ⟨rfl, hP, hK⟩ := hv
  have hx := B.exec
  have hb := B.bytes
  have hr := B.returns
  have hts := atoms_spec (ws := .code yX0_portGives cX0_portGives 3 (some .int) :: wA) B.pre
  have hown : s.vm.findClass RX0 = some m.cls := findClass_of_methodNamed B.named
  have hlocks := B.notSynchronized
  have hS : va_S (fun _ => False) s.heap s.heap [] := va_S.rf
  have hl := lv_entry ([.ref g, .int d]) (n := 3) (Nat.le_of_ble_eq_true rfl)
  rw [lg_entry_eq]
  generalize (lg_sl ([.ref g, .int d]) ++ List.replicate (3 - (lg_sl ([.ref g, .int d])).length) Slot.unset).toArray = ls at hl ⊢
  have hl : lv_has ls 3 [(0, .ref g), (1, .int d)] := hl
  unfold F_X0_portGives at hG
  refine lv_iload_n hx hb dX0_portGives_0 rfl (lv_at hl 1 rfl) ?_
  refine lv_bipush (v := 8) hx hb dX0_portGives_1 (by decide) ?_
  refine lv_icmp_ne (tgt := 16) hx hb dX0_portGives_3 (by decide) (fun c_1 => ?_) (fun c_1 => ?_)
  · have hG := q_ifn c_1 hG
    refine lv_iload_n hx hb dX0_portGives_16 rfl (lv_at hl 1 rfl) ?_
    refine lv_if_lt (tgt := 43) hx hb dX0_portGives_17 (by decide) (fun c_2 => ?_) (fun c_2 => ?_)
    · have hG := q_ifp c_2 hG
      refine lv_iconst (v := 0) hx hb dX0_portGives_43 (by decide) ?_
      refine lv_istore_n (lv' := [(2, .int 0), (0, .ref g), (1, .int d)]) hx hb dX0_portGives_44 rfl hl (by decide) rfl (fun ls hl => ?_)
      refine lv_iload_n hx hb dX0_portGives_45 rfl (lv_at hl 0 rfl) ?_
      refine lv_if_eq (tgt := 53) hx hb dX0_portGives_46 (by decide) (fun c_3 => ?_) (fun c_3 => ?_)
      rotate_left
      · exact absurd (by decide) c_3
      refine lv_iconst (v := 1) hx hb dX0_portGives_53 (by decide) ?_
      obtain rfl := Option.some.inj hG
      exact W.iret (v := 1) hx hb hr (fun t ht hW => ⟨⟨1, (), rfl, rfl, trivial⟩, hS.F ht⟩) hS.2.2 dX0_portGives_54
    · have hG := q_ifn c_2 hG
      refine lv_iload_n hx hb dX0_portGives_20 rfl (lv_at hl 1 rfl) ?_
      refine lv_bipush (v := 8) hx hb dX0_portGives_21 (by decide) ?_
      refine lv_icmp_ge (tgt := 43) hx hb dX0_portGives_23 (by decide) (fun c_4 => ?_) (fun c_4 => ?_)
      · have hG := q_ifp c_4 hG
        refine lv_iconst (v := 0) hx hb dX0_portGives_43 (by decide) ?_
        refine lv_istore_n (lv' := [(2, .int 0), (0, .ref g), (1, .int d)]) hx hb dX0_portGives_44 rfl hl (by decide) rfl (fun ls hl => ?_)
        refine lv_iload_n hx hb dX0_portGives_45 rfl (lv_at hl 0 rfl) ?_
        refine lv_if_eq (tgt := 53) hx hb dX0_portGives_46 (by decide) (fun c_5 => ?_) (fun c_5 => ?_)
        rotate_left
        · exact absurd (by decide) c_5
        refine lv_iconst (v := 1) hx hb dX0_portGives_53 (by decide) ?_
        obtain rfl := Option.some.inj hG
        exact W.iret (v := 1) hx hb hr (fun t ht hW => ⟨⟨1, (), rfl, rfl, trivial⟩, hS.F ht⟩) hS.2.2 dX0_portGives_54
      · have hG := q_ifn c_4 hG
        refine lv_aload_n hx hb dX0_portGives_26 rfl (lv_at hl 0 rfl) ?_
        refine va_get (D := (dC, dI)) (ci := 0) (v := .ref r0) (C := RX0) (T := TX0) (N := 2) hx hb hts iA_0 hown hK hP 0 rfl rfl 0 (by decide) (hts (.fieldLink RX0 11 "HubTree$Bus" "row" "[I") (List.mem_cons_of_mem _ m_88)) (fun _ h9 => h9) rfl dX0_portGives_27 ?_
        refine lv_bipush (v := 72) hx hb dX0_portGives_30 (by decide) ?_
        refine lv_iload_n hx hb dX0_portGives_32 rfl (lv_at hl 1 rfl) ?_
        refine lv_iadd hx hb dX0_portGives_33 ?_
        obtain ⟨h_6, hG⟩ := q_ix hG
        refine va_iald hx hb hK hP 1 0 rfl rfl (i := (72 + d)) h_6 dX0_portGives_34 ?_
        refine q_top (y := (fr (72 + d).toNatClampNeg)) rfl ?_
        refine lv_iconst (v := 1) hx hb dX0_portGives_35 (by decide) ?_
        refine lv_icmp_ne (tgt := 43) hx hb dX0_portGives_36 (by decide) (fun c_7 => ?_) (fun c_7 => ?_)
        · have hG := q_ifn c_7 hG
          refine lv_iconst (v := 0) hx hb dX0_portGives_43 (by decide) ?_
          refine lv_istore_n (lv' := [(2, .int 0), (0, .ref g), (1, .int d)]) hx hb dX0_portGives_44 rfl hl (by decide) rfl (fun ls hl => ?_)
          refine lv_iload_n hx hb dX0_portGives_45 rfl (lv_at hl 0 rfl) ?_
          refine lv_if_eq (tgt := 53) hx hb dX0_portGives_46 (by decide) (fun c_8 => ?_) (fun c_8 => ?_)
          rotate_left
          · exact absurd (by decide) c_8
          refine lv_iconst (v := 1) hx hb dX0_portGives_53 (by decide) ?_
          obtain rfl := Option.some.inj hG
          exact W.iret (v := 1) hx hb hr (fun t ht hW => ⟨⟨1, (), rfl, rfl, trivial⟩, hS.F ht⟩) hS.2.2 dX0_portGives_54
        · have hG := q_ifp c_7 hG
          refine lv_iconst (v := 1) hx hb dX0_portGives_39 (by decide) ?_
          refine lv_goto (tgt := 44) hx hb dX0_portGives_40 (by decide) ?_
          refine lv_istore_n (lv' := [(2, .int 1), (0, .ref g), (1, .int d)]) hx hb dX0_portGives_44 rfl hl (by decide) rfl (fun ls hl => ?_)
          refine lv_iload_n hx hb dX0_portGives_45 rfl (lv_at hl 0 rfl) ?_
          refine lv_if_eq (tgt := 53) hx hb dX0_portGives_46 (by decide) (fun c_9 => ?_) (fun c_9 => ?_)
          · exact absurd c_9 (by decide)
          refine lv_iconst (v := 5) hx hb dX0_portGives_49 (by decide) ?_
          refine lv_goto (tgt := 54) hx hb dX0_portGives_50 (by decide) ?_
          obtain rfl := Option.some.inj hG
          exact W.iret (v := 5) hx hb hr (fun t ht hW => ⟨⟨5, (), rfl, rfl, trivial⟩, hS.F ht⟩) hS.2.2 dX0_portGives_54
  · have hG := q_ifp c_1 hG
    refine lv_aload_n hx hb dX0_portGives_6 rfl (lv_at hl 0 rfl) ?_
    refine va_get (D := (dC, dI)) (ci := 0) (v := .ref h) (C := RX0) (T := TX0) (N := 2) hx hb hts iA_0 hown hK hP 0 rfl rfl 1 (by decide) (hts (.fieldLink RX0 15 "HubTree$Bus" "plan" "LHubTree$Plan;") (List.mem_cons_of_mem _ m_89)) (fun _ h9 => h9) rfl dX0_portGives_7 ?_
    refine va_get (D := (dC, dI)) (ci := 5) (v := .ref r1) (C := RX5) (T := TX5) (N := 3) hx hb hts iA_5 hown hK hP 2 rfl rfl 0 (by decide) (hts (.fieldLink RX0 84 "HubTree$Plan" "rules" "[I") (List.mem_cons_of_mem _ m_577)) (fun _ h9 => h9) rfl dX0_portGives_10 ?_
    refine lv_iconst (v := 4) hx hb dX0_portGives_13 (by decide) ?_
    refine va_iald hx hb hK hP 3 1 rfl rfl (i := 4) (vp_in_iff.mpr (by decide)) dX0_portGives_14 ?_
    refine q_top (y := (fu 4)) rfl ?_
    obtain rfl := Option.some.inj hG
    exact W.iret (v := (fu 4)) hx hb hr (fun t ht hW => ⟨⟨(fu 4), (), rfl, rfl, trivial⟩, hS.F ht⟩) hS.2.2 dX0_portGives_15

def F_X0_isBoundless (fr : Nat → Int32) (dv : Int32) (fu : Nat → Int32) (fp : Nat → Int32) (d : Int32) : Option (Int32) := (if d = 8 then some (1) else (if d < 0 then some (0) else (if 8 ≤ d then some (0) else (if (72 + d) < 0 ∨ 98 ≤ ((72 + d)).toNatClampNeg then none else (if (fr (72 + d).toNatClampNeg) = 1 then some (1) else some (0))))))
set_option maxHeartbeats 4000000 in
set_option maxRecDepth 100000 in
theorem c_X0_isBoundless (l : Launch) (dC : Nat → ClassId) (dI : Nat → Nat → Nat) (g : Nat) (r0 : Nat) (h : Nat) (r1 : Nat) (r2 : Nat) (dv : Int32) (c0 : ClassId) (fr : Nat → Int32) (c1 : ClassId) (c2 : ClassId) (fu : Nat → Int32) (fp : Nat → Int32) (d : Int32) (o : Int32) (hG : F_X0_isBoundless fr dv fu fp d = some o) : Met l yX0_isBoundless (.code yX0_isBoundless cX0_isBoundless 2 (some .boolean) :: wA) ({ frames := 0, cells := 0, slots := 0, locals := 0 }) (va_Pc [.ref g, .int d] (q_R (dC, dI) [(g, .inr (0, [.ref r0, .ref h])), (r0, .inl (c0, 98, .inl fr)), (h, .inr (5, [.ref r1, .ref r2, .int dv])), (r1, .inl (c1, 8, .inl fu)), (r2, .inl (c2, 48, .inl fp))] [(c0, .int), (c1, .int), (c2, .int)])) (q_i o) 0 0 (fun _ => False) := by
  refine Met.ofW (cc := cX0_isBoundless) (maxL := 2) (ret := (some .boolean)) (by decide) rfl ?_
  intro p e s m args below meth c s₁ B hml hv
  obtain ⟨rfl, hP, hK⟩ := hv
  have hx := B.exec
  have hb := B.bytes
  have hr := B.returns
  have hts := atoms_spec (ws := .code yX0_isBoundless cX0_isBoundless 2 (some .boolean) :: wA) B.pre
  have hown : s.vm.findClass RX0 = some m.cls := findClass_of_methodNamed B.named
  have hlocks := B.notSynchronized
  have hS : va_S (fun _ => False) s.heap s.heap [] := va_S.rf
  have hl := lv_entry ([.ref g, .int d]) (n := 2) (Nat.le_of_ble_eq_true rfl)
  rw [lg_entry_eq]
  generalize (lg_sl ([.ref g, .int d]) ++ List.replicate (2 - (lg_sl ([.ref g, .int d])).length) Slot.unset).toArray = ls at hl ⊢
  have hl : lv_has ls 2 [(0, .ref g), (1, .int d)] := hl
  unfold F_X0_isBoundless at hG
  refine lv_iload_n hx hb dX0_isBoundless_0 rfl (lv_at hl 1 rfl) ?_
  refine lv_bipush (v := 8) hx hb dX0_isBoundless_1 (by decide) ?_
  refine lv_icmp_eq (tgt := 29) hx hb dX0_isBoundless_3 (by decide) (fun c_1 => ?_) (fun c_1 => ?_)
  · have hG := q_ifp c_1 hG
    refine lv_iconst (v := 1) hx hb dX0_isBoundless_29 (by decide) ?_
    refine lv_goto (tgt := 34) hx hb dX0_isBoundless_30 (by decide) ?_
    obtain rfl := Option.some.inj hG
    exact W.zret (v := 1) hx hb hr rfl (fun t ht hW => ⟨⟨1, (), rfl, rfl, trivial⟩, hS.F ht⟩) hS.2.2 dX0_isBoundless_34
  · have hG := q_ifn c_1 hG
    refine lv_iload_n hx hb dX0_isBoundless_6 rfl (lv_at hl 1 rfl) ?_
    refine lv_if_lt (tgt := 33) hx hb dX0_isBoundless_7 (by decide) (fun c_2 => ?_) (fun c_2 => ?_)
    · have hG := q_ifp c_2 hG
      refine lv_iconst (v := 0) hx hb dX0_isBoundless_33 (by decide) ?_
      obtain rfl := Option.some.inj hG
      exact W.zret (v := 0) hx hb hr rfl (fun t ht hW => ⟨⟨0, (), rfl, rfl, trivial⟩, hS.F ht⟩) hS.2.2 dX0_isBoundless_34
    · have hG := q_ifn c_2 hG
      refine lv_iload_n hx hb dX0_isBoundless_10 rfl (lv_at hl 1 rfl) ?_
      refine lv_bipush (v := 8) hx hb dX0_isBoundless_11 (by decide) ?_
      refine lv_icmp_ge (tgt := 33) hx hb dX0_isBoundless_13 (by decide) (fun c_3 => ?_) (fun c_3 => ?_)
      · have hG := q_ifp c_3 hG
        refine lv_iconst (v := 0) hx hb dX0_isBoundless_33 (by decide) ?_
        obtain rfl := Option.some.inj hG
        exact W.zret (v := 0) hx hb hr rfl (fun t ht hW => ⟨⟨0, (), rfl, rfl, trivial⟩, hS.F ht⟩) hS.2.2 dX0_isBoundless_34
      · have hG := q_ifn c_3 hG
        refine lv_aload_n hx hb dX0_isBoundless_16 rfl (lv_at hl 0 rfl) ?_
        refine va_get (D := (dC, dI)) (ci := 0) (v := .ref r0) (C := RX0) (T := TX0) (N := 2) hx hb hts iA_0 hown hK hP 0 rfl rfl 0 (by decide) (hts (.fieldLink RX0 11 "HubTree$Bus" "row" "[I") (List.mem_cons_of_mem _ m_88)) (fun _ h9 => h9) rfl dX0_isBoundless_17 ?_
        refine lv_bipush (v := 72) hx hb dX0_isBoundless_20 (by decide) ?_
        refine lv_iload_n hx hb dX0_isBoundless_22 rfl (lv_at hl 1 rfl) ?_
        refine lv_iadd hx hb dX0_isBoundless_23 ?_
        obtain ⟨h_4, hG⟩ := q_ix hG
        refine va_iald hx hb hK hP 1 0 rfl rfl (i := (72 + d)) h_4 dX0_isBoundless_24 ?_
        refine q_top (y := (fr (72 + d).toNatClampNeg)) rfl ?_
        refine lv_iconst (v := 1) hx hb dX0_isBoundless_25 (by decide) ?_
        refine lv_icmp_ne (tgt := 33) hx hb dX0_isBoundless_26 (by decide) (fun c_5 => ?_) (fun c_5 => ?_)
        · have hG := q_ifn c_5 hG
          refine lv_iconst (v := 0) hx hb dX0_isBoundless_33 (by decide) ?_
          obtain rfl := Option.some.inj hG
          exact W.zret (v := 0) hx hb hr rfl (fun t ht hW => ⟨⟨0, (), rfl, rfl, trivial⟩, hS.F ht⟩) hS.2.2 dX0_isBoundless_34
        · have hG := q_ifp c_5 hG
          refine lv_iconst (v := 1) hx hb dX0_isBoundless_29 (by decide) ?_
          refine lv_goto (tgt := 34) hx hb dX0_isBoundless_30 (by decide) ?_
          obtain rfl := Option.some.inj hG
          exact W.zret (v := 1) hx hb hr rfl (fun t ht hW => ⟨⟨1, (), rfl, rfl, trivial⟩, hS.F ht⟩) hS.2.2 dX0_isBoundless_34

def FL_X0_leftOf_42 (fr : Nat → Int32) (dv : Int32) (fu : Nat → Int32) (fp : Nat → Int32) (d : Int32) (ee : Int32) : Nat → Int32 → Int32 → Option (Int32)
  | 0, _, _ => none
  | n + 1, x3_42, x4_42 => (if dv ≤ x4_42 then some (x3_42) else (if x4_42 = ee then (FL_X0_leftOf_42 fr dv fu fp d ee n x3_42 (x4_42 + 1)) else (if (32 + x4_42) < 0 ∨ 98 ≤ ((32 + x4_42)).toNatClampNeg then none else (if (fr (32 + x4_42).toNatClampNeg) = d then (if (0 + x4_42) < 0 ∨ 98 ≤ ((0 + x4_42)).toNatClampNeg then none else (if (fr (0 + x4_42).toNatClampNeg) = 6 then ((F_X0_takesOf fr dv fu fp x4_42).bind fun o_13 => (FL_X0_leftOf_42 fr dv fu fp d ee n (x3_42 - o_13) (x4_42 + 1))) else (FL_X0_leftOf_42 fr dv fu fp d ee n x3_42 (x4_42 + 1)))) else (FL_X0_leftOf_42 fr dv fu fp d ee n x3_42 (x4_42 + 1))))))

def F_X0_leftOf (fr : Nat → Int32) (dv : Int32) (fu : Nat → Int32) (fp : Nat → Int32) (d : Int32) (ee : Int32) : Option (Int32) := (if d < 0 then some (0) else (if d < 8 then (if (32 + d) < 0 ∨ 98 ≤ ((32 + d)).toNatClampNeg then none else ((F_X0_portGives fr dv fu fp (fr (32 + d).toNatClampNeg)).bind fun o_4 => (if (16 + d) < 0 ∨ 48 ≤ ((16 + d)).toNatClampNeg then none else (FL_X0_leftOf_42 fr dv fu fp d ee 1000 (o_4 - (fp (16 + d).toNatClampNeg)) 0)))) else some (0)))
set_option maxHeartbeats 4000000 in
set_option maxRecDepth 100000 in
theorem c_X0_leftOf (l : Launch) (dC : Nat → ClassId) (dI : Nat → Nat → Nat) (g : Nat) (r0 : Nat) (h : Nat) (r1 : Nat) (r2 : Nat) (dv : Int32) (c0 : ClassId) (fr : Nat → Int32) (c1 : ClassId) (c2 : ClassId) (fu : Nat → Int32) (fp : Nat → Int32) (d : Int32) (ee : Int32) (o : Int32) (hG : F_X0_leftOf fr dv fu fp d ee = some o) : Met l yX0_leftOf (.code yX0_leftOf cX0_leftOf 5 (some .int) :: wA) ({ frames := 1, cells := 0, slots := 0, locals := 22 }) (va_Pc [.ref g, .int d, .int ee] (q_R (dC, dI) [(g, .inr (0, [.ref r0, .ref h])), (r0, .inl (c0, 98, .inl fr)), (h, .inr (5, [.ref r1, .ref r2, .int dv])), (r1, .inl (c1, 8, .inl fu)), (r2, .inl (c2, 48, .inl fp))] [(c0, .int), (c1, .int), (c2, .int)])) (q_i o) 0 0 (fun _ => False) := by
  refine Met.ofW (cc := cX0_leftOf) (maxL := 5) (ret := (some .int)) (by decide) rfl ?_
  intro p e s m args below meth c s₁ B hml hv
  obtain ⟨rfl, hP, hK⟩ := hv
  have hx := B.exec
  have hb := B.bytes
  have hr := B.returns
  have hts := atoms_spec (ws := .code yX0_leftOf cX0_leftOf 5 (some .int) :: wA) B.pre
  have hown : s.vm.findClass RX0 = some m.cls := findClass_of_methodNamed B.named
  have hlocks := B.notSynchronized
  have hS : va_S (fun _ => False) s.heap s.heap [] := va_S.rf
  have hl := lv_entry ([.ref g, .int d, .int ee]) (n := 5) (Nat.le_of_ble_eq_true rfl)
  rw [lg_entry_eq]
  generalize (lg_sl ([.ref g, .int d, .int ee]) ++ List.replicate (5 - (lg_sl ([.ref g, .int d, .int ee])).length) Slot.unset).toArray = ls at hl ⊢
  have hl : lv_has ls 5 [(0, .ref g), (1, .int d), (2, .int ee)] := hl
  unfold F_X0_leftOf at hG
  refine lv_iload_n hx hb dX0_leftOf_0 rfl (lv_at hl 1 rfl) ?_
  refine lv_if_lt (tgt := 10) hx hb dX0_leftOf_1 (by decide) (fun c_1 => ?_) (fun c_1 => ?_)
  · have hG := q_ifp c_1 hG
    refine lv_iconst (v := 0) hx hb dX0_leftOf_10 (by decide) ?_
    obtain rfl := Option.some.inj hG
    exact W.iret (v := 0) hx hb hr (fun t ht hW => ⟨⟨0, (), rfl, rfl, trivial⟩, hS.F ht⟩) hS.2.2 dX0_leftOf_11
  · have hG := q_ifn c_1 hG
    refine lv_iload_n hx hb dX0_leftOf_4 rfl (lv_at hl 1 rfl) ?_
    refine lv_bipush (v := 8) hx hb dX0_leftOf_5 (by decide) ?_
    refine lv_icmp_lt (tgt := 12) hx hb dX0_leftOf_7 (by decide) (fun c_2 => ?_) (fun c_2 => ?_)
    · have hG := q_ifp c_2 hG
      refine lv_aload_n hx hb dX0_leftOf_12 rfl (lv_at hl 0 rfl) ?_
      refine lv_aload_n hx hb dX0_leftOf_13 rfl (lv_at hl 0 rfl) ?_
      refine va_get (D := (dC, dI)) (ci := 0) (v := .ref r0) (C := RX0) (T := TX0) (N := 2) hx hb hts iA_0 hown hK hP 0 rfl rfl 0 (by decide) (hts (.fieldLink RX0 11 "HubTree$Bus" "row" "[I") (List.mem_cons_of_mem _ m_88)) (fun _ h9 => h9) rfl dX0_leftOf_14 ?_
      refine lv_bipush (v := 32) hx hb dX0_leftOf_17 (by decide) ?_
      refine lv_iload_n hx hb dX0_leftOf_19 rfl (lv_at hl 1 rfl) ?_
      refine lv_iadd hx hb dX0_leftOf_20 ?_
      obtain ⟨h_3, hG⟩ := q_ix hG
      refine va_iald hx hb hK hP 1 0 rfl rfl (i := (32 + d)) h_3 dX0_leftOf_21 ?_
      refine q_top (y := (fr (32 + d).toNatClampNeg)) rfl ?_
      obtain ⟨o_4, r_5, hG⟩ := q_bi hG
      refine q_goi (v := o_4) (va_runV (As := [.int (fr (32 + d).toNatClampNeg)]) (rest := []) ⟨hx, hb, hml, hown, hts⟩ (c_X0_portGives l dC dI g r0 h r1 r2 dv c0 fr c1 c2 fu fp (fr (32 + d).toNatClampNeg) o_4 r_5) (cwV 1 hts (q_gV m_590 m_574 m_575 m_33 m_576) rfl rfl rfl hdV_yX0_portGives_1 ⟨Nat.le_of_ble_eq_true rfl, Nat.le_of_ble_eq_true rfl⟩) (q_preV hK hP (q := (RX0, TX0, 2)) (ci := 0) (q0 := 0) rfl rfl [0, 1, 2, 3, 4] rfl [0, 1, 2] rfl) rfl rfl hl.1 rfl (lv_room (Nat.le_of_ble_eq_true rfl)) dX0_leftOf_22 ⟨Nat.le_of_ble_eq_true rfl, Nat.le_of_ble_eq_true rfl⟩) hP hS (fun H locs hP hS => ?_)
      refine lv_aload_n hx hb dX0_leftOf_25 rfl (lv_at hl 0 rfl) ?_
      refine va_get (D := (dC, dI)) (ci := 0) (v := .ref h) (C := RX0) (T := TX0) (N := 2) hx hb hts iA_0 hown hK hP 0 rfl rfl 1 (by decide) (hts (.fieldLink RX0 15 "HubTree$Bus" "plan" "LHubTree$Plan;") (List.mem_cons_of_mem _ m_89)) (fun _ h9 => h9) rfl dX0_leftOf_26 ?_
      refine va_get (D := (dC, dI)) (ci := 5) (v := .ref r2) (C := RX5) (T := TX5) (N := 3) hx hb hts iA_5 hown hK hP 2 rfl rfl 1 (by decide) (hts (.fieldLink RX0 35 "HubTree$Plan" "row" "[I") (List.mem_cons_of_mem _ m_400)) (fun _ h9 => h9) rfl dX0_leftOf_29 ?_
      refine lv_bipush (v := 16) hx hb dX0_leftOf_32 (by decide) ?_
      refine lv_iload_n hx hb dX0_leftOf_34 rfl (lv_at hl 1 rfl) ?_
      refine lv_iadd hx hb dX0_leftOf_35 ?_
      obtain ⟨h_6, hG⟩ := q_ix hG
      refine va_iald hx hb hK hP 4 2 rfl rfl (i := (16 + d)) h_6 dX0_leftOf_36 ?_
      refine q_top (y := (fp (16 + d).toNatClampNeg)) rfl ?_
      refine lv_isub hx hb dX0_leftOf_37 ?_
      refine lv_istore_n (lv' := [(3, .int (o_4 - (fp (16 + d).toNatClampNeg))), (0, .ref g), (1, .int d), (2, .int ee)]) hx hb dX0_leftOf_38 rfl hl (by decide) rfl (fun ls hl => ?_)
      refine lv_iconst (v := 0) hx hb dX0_leftOf_39 (by decide) ?_
      refine lv_istore (lv' := [(4, .int 0), (3, .int (o_4 - (fp (16 + d).toNatClampNeg))), (0, .ref g), (1, .int d), (2, .int ee)]) hx hb dX0_leftOf_40 hl (by decide) rfl (fun ls hl => ?_)
      have L_42 : ∀ (n_42 : Nat) (x3_42 : Int32) (x4_42 : Int32) (H : Heap) (locs : List Loc) (ls : Array Slot), FL_X0_leftOf_42 fr dv fu fp d ee n_42 x3_42 x4_42 = some o → va_P (dC, dI) vwCl [(g, .inr (0, [.ref r0, .ref h])), (r0, .inl (c0, 98, .inl fr)), (h, .inr (5, [.ref r1, .ref r2, .int dv])), (r1, .inl (c1, 8, .inl fu)), (r2, .inl (c2, 48, .inl fp))] H → va_S (fun _ => False) s.heap H locs → lv_has ls 5 [(4, .int x4_42), (3, .int x3_42), (0, .ref g), (1, .int d), (2, .int ee)] → W p l e (headSpec (.code yX0_leftOf cX0_leftOf 5 (some .int) :: wA) ({ frames := 1, cells := 0, slots := 0, locals := 22 })).room s m #[.ref g, .int d, .int ee] below meth c H locs 0 0 (MQ below (q_i o) #[.ref g, .int d, .int ee] s 0 0 (fun _ => False)) (F0 m 42 ls []) := by
        intro n_42
        induction n_42 with
        | zero =>
          intro x3_42 x4_42 H locs ls hG
          exact q_no hG
        | succ n_42 ih_42 =>
          intro x3_42 x4_42 H locs ls hG hP hS hl
          unfold FL_X0_leftOf_42 at hG
          refine lv_iload hx hb dX0_leftOf_42 (lv_at hl 0 rfl) ?_
          refine lv_aload_n hx hb dX0_leftOf_44 rfl (lv_at hl 2 rfl) ?_
          refine va_get (D := (dC, dI)) (ci := 0) (v := .ref h) (C := RX0) (T := TX0) (N := 2) hx hb hts iA_0 hown hK hP 0 rfl rfl 1 (by decide) (hts (.fieldLink RX0 15 "HubTree$Bus" "plan" "LHubTree$Plan;") (List.mem_cons_of_mem _ m_89)) (fun _ h9 => h9) rfl dX0_leftOf_45 ?_
          refine va_get (D := (dC, dI)) (ci := 5) (v := .int dv) (C := RX5) (T := TX5) (N := 3) hx hb hts iA_5 hown hK hP 2 rfl rfl 2 (by decide) (hts (.fieldLink RX0 25 "HubTree$Plan" "devices" "I") (List.mem_cons_of_mem _ m_399)) (fun _ h9 => h9) rfl dX0_leftOf_48 ?_
          refine lv_icmp_ge (tgt := 103) hx hb dX0_leftOf_51 (by decide) (fun c_7 => ?_) (fun c_7 => ?_)
          · have hG := q_ifp c_7 hG
            refine lv_iload_n hx hb dX0_leftOf_103 rfl (lv_at hl 1 rfl) ?_
            obtain rfl := Option.some.inj hG
            exact W.iret (v := x3_42) hx hb hr (fun t ht hW => ⟨⟨x3_42, (), rfl, rfl, trivial⟩, hS.F ht⟩) hS.2.2 dX0_leftOf_104
          · have hG := q_ifn c_7 hG
            refine lv_iload hx hb dX0_leftOf_54 (lv_at hl 0 rfl) ?_
            refine lv_iload_n hx hb dX0_leftOf_56 rfl (lv_at hl 4 rfl) ?_
            refine lv_icmp_eq (tgt := 97) hx hb dX0_leftOf_57 (by decide) (fun c_8 => ?_) (fun c_8 => ?_)
            · have hG := q_ifp c_8 hG
              refine lv_iinc (v := (x4_42 + 1)) (lv' := [(4, .int (x4_42 + 1)), (3, .int x3_42), (0, .ref g), (1, .int d), (2, .int ee)]) hx hb dX0_leftOf_97 hl (k := 0) rfl (rfl) (by decide) rfl (fun ls hl => ?_)
              refine lv_goto (tgt := 42) hx hb dX0_leftOf_100 (by decide) ?_
              exact ih_42 x3_42 (x4_42 + 1) H locs ls hG hP hS (lv_sub hl [0, 1, 2, 3, 4] rfl)
            · have hG := q_ifn c_8 hG
              refine lv_aload_n hx hb dX0_leftOf_60 rfl (lv_at hl 2 rfl) ?_
              refine va_get (D := (dC, dI)) (ci := 0) (v := .ref r0) (C := RX0) (T := TX0) (N := 2) hx hb hts iA_0 hown hK hP 0 rfl rfl 0 (by decide) (hts (.fieldLink RX0 11 "HubTree$Bus" "row" "[I") (List.mem_cons_of_mem _ m_88)) (fun _ h9 => h9) rfl dX0_leftOf_61 ?_
              refine lv_bipush (v := 32) hx hb dX0_leftOf_64 (by decide) ?_
              refine lv_iload hx hb dX0_leftOf_66 (lv_at hl 0 rfl) ?_
              refine lv_iadd hx hb dX0_leftOf_68 ?_
              obtain ⟨h_9, hG⟩ := q_ix hG
              refine va_iald hx hb hK hP 1 0 rfl rfl (i := (32 + x4_42)) h_9 dX0_leftOf_69 ?_
              refine q_top (y := (fr (32 + x4_42).toNatClampNeg)) rfl ?_
              refine lv_iload_n hx hb dX0_leftOf_70 rfl (lv_at hl 3 rfl) ?_
              refine lv_icmp_ne (tgt := 97) hx hb dX0_leftOf_71 (by decide) (fun c_10 => ?_) (fun c_10 => ?_)
              · have hG := q_ifn c_10 hG
                refine lv_iinc (v := (x4_42 + 1)) (lv' := [(4, .int (x4_42 + 1)), (3, .int x3_42), (0, .ref g), (1, .int d), (2, .int ee)]) hx hb dX0_leftOf_97 hl (k := 0) rfl (rfl) (by decide) rfl (fun ls hl => ?_)
                refine lv_goto (tgt := 42) hx hb dX0_leftOf_100 (by decide) ?_
                exact ih_42 x3_42 (x4_42 + 1) H locs ls hG hP hS (lv_sub hl [0, 1, 2, 3, 4] rfl)
              · have hG := q_ifp c_10 hG
                refine lv_aload_n hx hb dX0_leftOf_74 rfl (lv_at hl 2 rfl) ?_
                refine va_get (D := (dC, dI)) (ci := 0) (v := .ref r0) (C := RX0) (T := TX0) (N := 2) hx hb hts iA_0 hown hK hP 0 rfl rfl 0 (by decide) (hts (.fieldLink RX0 11 "HubTree$Bus" "row" "[I") (List.mem_cons_of_mem _ m_88)) (fun _ h9 => h9) rfl dX0_leftOf_75 ?_
                refine lv_iconst (v := 0) hx hb dX0_leftOf_78 (by decide) ?_
                refine lv_iload hx hb dX0_leftOf_79 (lv_at hl 0 rfl) ?_
                refine lv_iadd hx hb dX0_leftOf_81 ?_
                obtain ⟨h_11, hG⟩ := q_ix hG
                refine va_iald hx hb hK hP 1 0 rfl rfl (i := (0 + x4_42)) h_11 dX0_leftOf_82 ?_
                refine q_top (y := (fr (0 + x4_42).toNatClampNeg)) rfl ?_
                refine lv_bipush (v := 6) hx hb dX0_leftOf_83 (by decide) ?_
                refine lv_icmp_ne (tgt := 97) hx hb dX0_leftOf_85 (by decide) (fun c_12 => ?_) (fun c_12 => ?_)
                · have hG := q_ifn c_12 hG
                  refine lv_iinc (v := (x4_42 + 1)) (lv' := [(4, .int (x4_42 + 1)), (3, .int x3_42), (0, .ref g), (1, .int d), (2, .int ee)]) hx hb dX0_leftOf_97 hl (k := 0) rfl (rfl) (by decide) rfl (fun ls hl => ?_)
                  refine lv_goto (tgt := 42) hx hb dX0_leftOf_100 (by decide) ?_
                  exact ih_42 x3_42 (x4_42 + 1) H locs ls hG hP hS (lv_sub hl [0, 1, 2, 3, 4] rfl)
                · have hG := q_ifp c_12 hG
                  refine lv_iload_n hx hb dX0_leftOf_88 rfl (lv_at hl 1 rfl) ?_
                  refine lv_aload_n hx hb dX0_leftOf_89 rfl (lv_at hl 2 rfl) ?_
                  refine lv_iload hx hb dX0_leftOf_90 (lv_at hl 0 rfl) ?_
                  obtain ⟨o_13, r_14, hG⟩ := q_bi hG
                  refine q_goi (v := o_13) (va_runV (As := [.int x4_42]) (rest := [.int x3_42]) ⟨hx, hb, hml, hown, hts⟩ (c_X0_takesOf l dC dI g r0 h r1 r2 dv c0 fr c1 c2 fu fp x4_42 o_13 r_14) (cwV 1 hts (q_gV m_591 m_492 m_493 m_33 m_494) rfl rfl rfl hdV_yX0_takesOf_1 ⟨Nat.le_of_ble_eq_true rfl, Nat.le_of_ble_eq_true rfl⟩) (q_preV hK hP (q := (RX0, TX0, 2)) (ci := 0) (q0 := 0) rfl rfl [0, 1, 2, 3, 4] rfl [0, 1, 2] rfl) rfl rfl hl.1 rfl (lv_room (Nat.le_of_ble_eq_true rfl)) dX0_leftOf_92 ⟨Nat.le_of_ble_eq_true rfl, Nat.le_of_ble_eq_true rfl⟩) hP hS (fun H locs hP hS => ?_)
                  refine lv_isub hx hb dX0_leftOf_95 ?_
                  refine lv_istore_n (lv' := [(3, .int (x3_42 - o_13)), (4, .int x4_42), (0, .ref g), (1, .int d), (2, .int ee)]) hx hb dX0_leftOf_96 rfl hl (by decide) rfl (fun ls hl => ?_)
                  refine lv_iinc (v := (x4_42 + 1)) (lv' := [(4, .int (x4_42 + 1)), (3, .int (x3_42 - o_13)), (0, .ref g), (1, .int d), (2, .int ee)]) hx hb dX0_leftOf_97 hl (k := 1) rfl (rfl) (by decide) rfl (fun ls hl => ?_)
                  refine lv_goto (tgt := 42) hx hb dX0_leftOf_100 (by decide) ?_
                  exact ih_42 (x3_42 - o_13) (x4_42 + 1) H locs ls hG hP hS (lv_sub hl [0, 1, 2, 3, 4] rfl)
      exact L_42 1000 (o_4 - (fp (16 + d).toNatClampNeg)) 0 H locs ls hG hP hS hl
    · have hG := q_ifn c_2 hG
      refine lv_iconst (v := 0) hx hb dX0_leftOf_10 (by decide) ?_
      obtain rfl := Option.some.inj hG
      exact W.iret (v := 0) hx hb hr (fun t ht hW => ⟨⟨0, (), rfl, rfl, trivial⟩, hS.F ht⟩) hS.2.2 dX0_leftOf_11

def F_X0_powerSuffices (fr : Nat → Int32) (dv : Int32) (fu : Nat → Int32) (fp : Nat → Int32) (d : Int32) (ee : Int32) : Option (Int32) := (if (32 + d) < 0 ∨ 98 ≤ ((32 + d)).toNatClampNeg then none else ((F_X0_portGives fr dv fu fp (fr (32 + d).toNatClampNeg)).bind fun o_2 => (if o_2 < ee then some (0) else ((F_X0_isBoundless fr dv fu fp (fr (32 + d).toNatClampNeg)).bind fun o_5 => (if o_5 = 0 then ((F_X0_leftOf fr dv fu fp (fr (32 + d).toNatClampNeg) d).bind fun o_8 => (if o_8 < ee then some (0) else some (1))) else some (1))))))
set_option maxHeartbeats 4000000 in
set_option maxRecDepth 100000 in
theorem c_X0_powerSuffices (l : Launch) (dC : Nat → ClassId) (dI : Nat → Nat → Nat) (g : Nat) (r0 : Nat) (h : Nat) (r1 : Nat) (r2 : Nat) (dv : Int32) (c0 : ClassId) (fr : Nat → Int32) (c1 : ClassId) (c2 : ClassId) (fu : Nat → Int32) (fp : Nat → Int32) (d : Int32) (ee : Int32) (o : Int32) (hG : F_X0_powerSuffices fr dv fu fp d ee = some o) : Met l yX0_powerSuffices (.code yX0_powerSuffices cX0_powerSuffices 4 (some .boolean) :: wA) ({ frames := 2, cells := 0, slots := 0, locals := 46 }) (va_Pc [.ref g, .int d, .int ee] (q_R (dC, dI) [(g, .inr (0, [.ref r0, .ref h])), (r0, .inl (c0, 98, .inl fr)), (h, .inr (5, [.ref r1, .ref r2, .int dv])), (r1, .inl (c1, 8, .inl fu)), (r2, .inl (c2, 48, .inl fp))] [(c0, .int), (c1, .int), (c2, .int)])) (q_i o) 0 0 (fun _ => False) := by
  refine Met.ofW (cc := cX0_powerSuffices) (maxL := 4) (ret := (some .boolean)) (by decide) rfl ?_
  intro p e s m args below meth c s₁ B hml hv
  obtain ⟨rfl, hP, hK⟩ := hv
  have hx := B.exec
  have hb := B.bytes
  have hr := B.returns
  have hts := atoms_spec (ws := .code yX0_powerSuffices cX0_powerSuffices 4 (some .boolean) :: wA) B.pre
  have hown : s.vm.findClass RX0 = some m.cls := findClass_of_methodNamed B.named
  have hlocks := B.notSynchronized
  have hS : va_S (fun _ => False) s.heap s.heap [] := va_S.rf
  have hl := lv_entry ([.ref g, .int d, .int ee]) (n := 4) (Nat.le_of_ble_eq_true rfl)
  rw [lg_entry_eq]
  generalize (lg_sl ([.ref g, .int d, .int ee]) ++ List.replicate (4 - (lg_sl ([.ref g, .int d, .int ee])).length) Slot.unset).toArray = ls at hl ⊢
  have hl : lv_has ls 4 [(0, .ref g), (1, .int d), (2, .int ee)] := hl
  unfold F_X0_powerSuffices at hG
  refine lv_aload_n hx hb dX0_powerSuffices_0 rfl (lv_at hl 0 rfl) ?_
  refine va_get (D := (dC, dI)) (ci := 0) (v := .ref r0) (C := RX0) (T := TX0) (N := 2) hx hb hts iA_0 hown hK hP 0 rfl rfl 0 (by decide) (hts (.fieldLink RX0 11 "HubTree$Bus" "row" "[I") (List.mem_cons_of_mem _ m_88)) (fun _ h9 => h9) rfl dX0_powerSuffices_1 ?_
  refine lv_bipush (v := 32) hx hb dX0_powerSuffices_4 (by decide) ?_
  refine lv_iload_n hx hb dX0_powerSuffices_6 rfl (lv_at hl 1 rfl) ?_
  refine lv_iadd hx hb dX0_powerSuffices_7 ?_
  obtain ⟨h_1, hG⟩ := q_ix hG
  refine va_iald hx hb hK hP 1 0 rfl rfl (i := (32 + d)) h_1 dX0_powerSuffices_8 ?_
  refine q_top (y := (fr (32 + d).toNatClampNeg)) rfl ?_
  refine lv_istore_n (lv' := [(3, .int (fr (32 + d).toNatClampNeg)), (0, .ref g), (1, .int d), (2, .int ee)]) hx hb dX0_powerSuffices_9 rfl hl (by decide) rfl (fun ls hl => ?_)
  refine lv_iload_n hx hb dX0_powerSuffices_10 rfl (lv_at hl 3 rfl) ?_
  refine lv_aload_n hx hb dX0_powerSuffices_11 rfl (lv_at hl 1 rfl) ?_
  refine lv_iload_n hx hb dX0_powerSuffices_12 rfl (lv_at hl 0 rfl) ?_
  obtain ⟨o_2, r_3, hG⟩ := q_bi hG
  refine q_goi (v := o_2) (va_runV (As := [.int (fr (32 + d).toNatClampNeg)]) (rest := [.int ee]) ⟨hx, hb, hml, hown, hts⟩ (c_X0_portGives l dC dI g r0 h r1 r2 dv c0 fr c1 c2 fu fp (fr (32 + d).toNatClampNeg) o_2 r_3) (cwV 1 hts (q_gV m_590 m_574 m_575 m_33 m_576) rfl rfl rfl hdV_yX0_portGives_1 ⟨Nat.le_of_ble_eq_true rfl, Nat.le_of_ble_eq_true rfl⟩) (q_preV hK hP (q := (RX0, TX0, 2)) (ci := 0) (q0 := 0) rfl rfl [0, 1, 2, 3, 4] rfl [0, 1, 2] rfl) rfl rfl hl.1 rfl (lv_room (Nat.le_of_ble_eq_true rfl)) dX0_powerSuffices_13 ⟨Nat.le_of_ble_eq_true rfl, Nat.le_of_ble_eq_true rfl⟩) hP hS (fun H locs hP hS => ?_)
  refine lv_icmp_gt (tgt := 41) hx hb dX0_powerSuffices_16 (by decide) (fun c_4 => ?_) (fun c_4 => ?_)
  · have hG := q_ifp c_4 hG
    refine lv_iconst (v := 0) hx hb dX0_powerSuffices_41 (by decide) ?_
    obtain rfl := Option.some.inj hG
    exact W.zret (v := 0) hx hb hr rfl (fun t ht hW => ⟨⟨0, (), rfl, rfl, trivial⟩, hS.F ht⟩) hS.2.2 dX0_powerSuffices_42
  · have hG := q_ifn c_4 hG
    refine lv_aload_n hx hb dX0_powerSuffices_19 rfl (lv_at hl 1 rfl) ?_
    refine lv_iload_n hx hb dX0_powerSuffices_20 rfl (lv_at hl 0 rfl) ?_
    obtain ⟨o_5, r_6, hG⟩ := q_bi hG
    refine q_goi (v := o_5) (va_runV (As := [.int (fr (32 + d).toNatClampNeg)]) (rest := []) ⟨hx, hb, hml, hown, hts⟩ (c_X0_isBoundless l dC dI g r0 h r1 r2 dv c0 fr c1 c2 fu fp (fr (32 + d).toNatClampNeg) o_5 r_6) (cwV 1 hts (q_gV m_760 m_579 m_580 m_33 m_581) rfl rfl rfl hdV_yX0_isBoundless_1 ⟨Nat.le_of_ble_eq_true rfl, Nat.le_of_ble_eq_true rfl⟩) (q_preV hK hP (q := (RX0, TX0, 2)) (ci := 0) (q0 := 0) rfl rfl [0, 1, 2, 3, 4] rfl [0, 1, 2] rfl) rfl rfl hl.1 rfl (lv_room (Nat.le_of_ble_eq_true rfl)) dX0_powerSuffices_21 ⟨Nat.le_of_ble_eq_true rfl, Nat.le_of_ble_eq_true rfl⟩) hP hS (fun H locs hP hS => ?_)
    refine lv_if_ne (tgt := 37) hx hb dX0_powerSuffices_24 (by decide) (fun c_7 => ?_) (fun c_7 => ?_)
    · have hG := q_ifn c_7 hG
      refine lv_iconst (v := 1) hx hb dX0_powerSuffices_37 (by decide) ?_
      refine lv_goto (tgt := 42) hx hb dX0_powerSuffices_38 (by decide) ?_
      obtain rfl := Option.some.inj hG
      exact W.zret (v := 1) hx hb hr rfl (fun t ht hW => ⟨⟨1, (), rfl, rfl, trivial⟩, hS.F ht⟩) hS.2.2 dX0_powerSuffices_42
    · have hG := q_ifp c_7 hG
      refine lv_iload_n hx hb dX0_powerSuffices_27 rfl (lv_at hl 3 rfl) ?_
      refine lv_aload_n hx hb dX0_powerSuffices_28 rfl (lv_at hl 1 rfl) ?_
      refine lv_iload_n hx hb dX0_powerSuffices_29 rfl (lv_at hl 0 rfl) ?_
      refine lv_iload_n hx hb dX0_powerSuffices_30 rfl (lv_at hl 2 rfl) ?_
      obtain ⟨o_8, r_9, hG⟩ := q_bi hG
      refine q_goi (v := o_8) (va_runV (As := [.int (fr (32 + d).toNatClampNeg), .int d]) (rest := [.int ee]) ⟨hx, hb, hml, hown, hts⟩ (c_X0_leftOf l dC dI g r0 h r1 r2 dv c0 fr c1 c2 fu fp (fr (32 + d).toNatClampNeg) d o_8 r_9) (cwV 2 hts (q_gV m_761 m_587 m_588 m_33 m_589) rfl rfl rfl hdV_yX0_leftOf_2 ⟨Nat.le_of_ble_eq_true rfl, Nat.le_of_ble_eq_true rfl⟩) (q_preV hK hP (q := (RX0, TX0, 2)) (ci := 0) (q0 := 0) rfl rfl [0, 1, 2, 3, 4] rfl [0, 1, 2] rfl) rfl rfl hl.1 rfl (lv_room (Nat.le_of_ble_eq_true rfl)) dX0_powerSuffices_31 ⟨Nat.le_of_ble_eq_true rfl, Nat.le_of_ble_eq_true rfl⟩) hP hS (fun H locs hP hS => ?_)
      refine lv_icmp_gt (tgt := 41) hx hb dX0_powerSuffices_34 (by decide) (fun c_10 => ?_) (fun c_10 => ?_)
      · have hG := q_ifp c_10 hG
        refine lv_iconst (v := 0) hx hb dX0_powerSuffices_41 (by decide) ?_
        obtain rfl := Option.some.inj hG
        exact W.zret (v := 0) hx hb hr rfl (fun t ht hW => ⟨⟨0, (), rfl, rfl, trivial⟩, hS.F ht⟩) hS.2.2 dX0_powerSuffices_42
      · have hG := q_ifn c_10 hG
        refine lv_iconst (v := 1) hx hb dX0_powerSuffices_37 (by decide) ?_
        refine lv_goto (tgt := 42) hx hb dX0_powerSuffices_38 (by decide) ?_
        obtain rfl := Option.some.inj hG
        exact W.zret (v := 1) hx hb hr rfl (fun t ht hW => ⟨⟨1, (), rfl, rfl, trivial⟩, hS.F ht⟩) hS.2.2 dX0_powerSuffices_42

def F_X0_runsAt (fr : Nat → Int32) (dv : Int32) (fu : Nat → Int32) (fp : Nat → Int32) (d : Int32) : Option (Int32) := (if d = 8 then some (2) else (if d < 0 then some ((-1)) else (if 8 ≤ d then some ((-1)) else (if (48 + d) < 0 ∨ 98 ≤ ((48 + d)).toNatClampNeg then none else some ((fr (48 + d).toNatClampNeg))))))
set_option maxHeartbeats 4000000 in
set_option maxRecDepth 100000 in
theorem c_X0_runsAt (l : Launch) (dC : Nat → ClassId) (dI : Nat → Nat → Nat) (g : Nat) (r0 : Nat) (h : Nat) (r1 : Nat) (r2 : Nat) (dv : Int32) (c0 : ClassId) (fr : Nat → Int32) (c1 : ClassId) (c2 : ClassId) (fu : Nat → Int32) (fp : Nat → Int32) (d : Int32) (o : Int32) (hG : F_X0_runsAt fr dv fu fp d = some o) : Met l yX0_runsAt (.code yX0_runsAt cX0_runsAt 2 (some .int) :: wA) ({ frames := 0, cells := 0, slots := 0, locals := 0 }) (va_Pc [.ref g, .int d] (q_R (dC, dI) [(g, .inr (0, [.ref r0, .ref h])), (r0, .inl (c0, 98, .inl fr)), (h, .inr (5, [.ref r1, .ref r2, .int dv])), (r1, .inl (c1, 8, .inl fu)), (r2, .inl (c2, 48, .inl fp))] [(c0, .int), (c1, .int), (c2, .int)])) (q_i o) 0 0 (fun _ => False) := by
  refine Met.ofW (cc := cX0_runsAt) (maxL := 2) (ret := (some .int)) (by decide) rfl ?_
  intro p e s m args below meth c s₁ B hml hv
  obtain ⟨rfl, hP, hK⟩ := hv
  have hx := B.exec
  have hb := B.bytes
  have hr := B.returns
  have hts := atoms_spec (ws := .code yX0_runsAt cX0_runsAt 2 (some .int) :: wA) B.pre
  have hown : s.vm.findClass RX0 = some m.cls := findClass_of_methodNamed B.named
  have hlocks := B.notSynchronized
  have hS : va_S (fun _ => False) s.heap s.heap [] := va_S.rf
  have hl := lv_entry ([.ref g, .int d]) (n := 2) (Nat.le_of_ble_eq_true rfl)
  rw [lg_entry_eq]
  generalize (lg_sl ([.ref g, .int d]) ++ List.replicate (2 - (lg_sl ([.ref g, .int d])).length) Slot.unset).toArray = ls at hl ⊢
  have hl : lv_has ls 2 [(0, .ref g), (1, .int d)] := hl
  unfold F_X0_runsAt at hG
  refine lv_iload_n hx hb dX0_runsAt_0 rfl (lv_at hl 1 rfl) ?_
  refine lv_bipush (v := 8) hx hb dX0_runsAt_1 (by decide) ?_
  refine lv_icmp_ne (tgt := 8) hx hb dX0_runsAt_3 (by decide) (fun c_1 => ?_) (fun c_1 => ?_)
  · have hG := q_ifn c_1 hG
    refine lv_iload_n hx hb dX0_runsAt_8 rfl (lv_at hl 1 rfl) ?_
    refine lv_if_lt (tgt := 30) hx hb dX0_runsAt_9 (by decide) (fun c_2 => ?_) (fun c_2 => ?_)
    · have hG := q_ifp c_2 hG
      refine lv_iconst (v := (-1)) hx hb dX0_runsAt_30 (by decide) ?_
      obtain rfl := Option.some.inj hG
      exact W.iret (v := (-1)) hx hb hr (fun t ht hW => ⟨⟨(-1), (), rfl, rfl, trivial⟩, hS.F ht⟩) hS.2.2 dX0_runsAt_31
    · have hG := q_ifn c_2 hG
      refine lv_iload_n hx hb dX0_runsAt_12 rfl (lv_at hl 1 rfl) ?_
      refine lv_bipush (v := 8) hx hb dX0_runsAt_13 (by decide) ?_
      refine lv_icmp_ge (tgt := 30) hx hb dX0_runsAt_15 (by decide) (fun c_3 => ?_) (fun c_3 => ?_)
      · have hG := q_ifp c_3 hG
        refine lv_iconst (v := (-1)) hx hb dX0_runsAt_30 (by decide) ?_
        obtain rfl := Option.some.inj hG
        exact W.iret (v := (-1)) hx hb hr (fun t ht hW => ⟨⟨(-1), (), rfl, rfl, trivial⟩, hS.F ht⟩) hS.2.2 dX0_runsAt_31
      · have hG := q_ifn c_3 hG
        refine lv_aload_n hx hb dX0_runsAt_18 rfl (lv_at hl 0 rfl) ?_
        refine va_get (D := (dC, dI)) (ci := 0) (v := .ref r0) (C := RX0) (T := TX0) (N := 2) hx hb hts iA_0 hown hK hP 0 rfl rfl 0 (by decide) (hts (.fieldLink RX0 11 "HubTree$Bus" "row" "[I") (List.mem_cons_of_mem _ m_88)) (fun _ h9 => h9) rfl dX0_runsAt_19 ?_
        refine lv_bipush (v := 48) hx hb dX0_runsAt_22 (by decide) ?_
        refine lv_iload_n hx hb dX0_runsAt_24 rfl (lv_at hl 1 rfl) ?_
        refine lv_iadd hx hb dX0_runsAt_25 ?_
        obtain ⟨h_4, hG⟩ := q_ix hG
        refine va_iald hx hb hK hP 1 0 rfl rfl (i := (48 + d)) h_4 dX0_runsAt_26 ?_
        refine q_top (y := (fr (48 + d).toNatClampNeg)) rfl ?_
        refine lv_goto (tgt := 31) hx hb dX0_runsAt_27 (by decide) ?_
        obtain rfl := Option.some.inj hG
        exact W.iret (v := (fr (48 + d).toNatClampNeg)) hx hb hr (fun t ht hW => ⟨⟨(fr (48 + d).toNatClampNeg), (), rfl, rfl, trivial⟩, hS.F ht⟩) hS.2.2 dX0_runsAt_31
  · have hG := q_ifp c_1 hG
    refine lv_iconst (v := 2) hx hb dX0_runsAt_6 (by decide) ?_
    obtain rfl := Option.some.inj hG
    exact W.iret (v := 2) hx hb hr (fun t ht hW => ⟨⟨2, (), rfl, rfl, trivial⟩, hS.F ht⟩) hS.2.2 dX0_runsAt_7

def F_X0_speedOf (fr : Nat → Int32) (dv : Int32) (fu : Nat → Int32) (fp : Nat → Int32) (d : Int32) : Option (Int32) := (if (8 + d) < 0 ∨ 48 ≤ ((8 + d)).toNatClampNeg then none else (if (32 + d) < 0 ∨ 98 ≤ ((32 + d)).toNatClampNeg then none else ((F_X0_runsAt fr dv fu fp (fr (32 + d).toNatClampNeg)).bind fun o_3 => (if o_3 = 2 then some ((fp (8 + d).toNatClampNeg)) else some ((if 1 < (fp (8 + d).toNatClampNeg) then 1 else (fp (8 + d).toNatClampNeg)))))))
set_option maxHeartbeats 4000000 in
set_option maxRecDepth 100000 in
theorem c_X0_speedOf (l : Launch) (dC : Nat → ClassId) (dI : Nat → Nat → Nat) (g : Nat) (r0 : Nat) (h : Nat) (r1 : Nat) (r2 : Nat) (dv : Int32) (c0 : ClassId) (fr : Nat → Int32) (c1 : ClassId) (c2 : ClassId) (fu : Nat → Int32) (fp : Nat → Int32) (d : Int32) (o : Int32) (hG : F_X0_speedOf fr dv fu fp d = some o) : Met l yX0_speedOf (.code yX0_speedOf cX0_speedOf 3 (some .int) :: wA) ({ frames := 1, cells := 0, slots := 0, locals := 21 }) (va_Pc [.ref g, .int d] (q_R (dC, dI) [(g, .inr (0, [.ref r0, .ref h])), (r0, .inl (c0, 98, .inl fr)), (h, .inr (5, [.ref r1, .ref r2, .int dv])), (r1, .inl (c1, 8, .inl fu)), (r2, .inl (c2, 48, .inl fp))] [(c0, .int), (c1, .int), (c2, .int)])) (q_i o) 0 0 (fun _ => False) := by
  refine Met.ofW (cc := cX0_speedOf) (maxL := 3) (ret := (some .int)) (by decide) rfl ?_
  intro p e s m args below meth c s₁ B hml hv
  obtain ⟨rfl, hP, hK⟩ := hv
  have hx := B.exec
  have hb := B.bytes
  have hr := B.returns
  have hts := atoms_spec (ws := .code yX0_speedOf cX0_speedOf 3 (some .int) :: wA) B.pre
  have hown : s.vm.findClass RX0 = some m.cls := findClass_of_methodNamed B.named
  have hlocks := B.notSynchronized
  have hS : va_S (fun _ => False) s.heap s.heap [] := va_S.rf
  have hl := lv_entry ([.ref g, .int d]) (n := 3) (Nat.le_of_ble_eq_true rfl)
  rw [lg_entry_eq]
  generalize (lg_sl ([.ref g, .int d]) ++ List.replicate (3 - (lg_sl ([.ref g, .int d])).length) Slot.unset).toArray = ls at hl ⊢
  have hl : lv_has ls 3 [(0, .ref g), (1, .int d)] := hl
  unfold F_X0_speedOf at hG
  refine lv_aload_n hx hb dX0_speedOf_0 rfl (lv_at hl 0 rfl) ?_
  refine va_get (D := (dC, dI)) (ci := 0) (v := .ref h) (C := RX0) (T := TX0) (N := 2) hx hb hts iA_0 hown hK hP 0 rfl rfl 1 (by decide) (hts (.fieldLink RX0 15 "HubTree$Bus" "plan" "LHubTree$Plan;") (List.mem_cons_of_mem _ m_89)) (fun _ h9 => h9) rfl dX0_speedOf_1 ?_
  refine va_get (D := (dC, dI)) (ci := 5) (v := .ref r2) (C := RX5) (T := TX5) (N := 3) hx hb hts iA_5 hown hK hP 2 rfl rfl 1 (by decide) (hts (.fieldLink RX0 35 "HubTree$Plan" "row" "[I") (List.mem_cons_of_mem _ m_400)) (fun _ h9 => h9) rfl dX0_speedOf_4 ?_
  refine lv_bipush (v := 8) hx hb dX0_speedOf_7 (by decide) ?_
  refine lv_iload_n hx hb dX0_speedOf_9 rfl (lv_at hl 1 rfl) ?_
  refine lv_iadd hx hb dX0_speedOf_10 ?_
  obtain ⟨h_1, hG⟩ := q_ix hG
  refine va_iald hx hb hK hP 4 2 rfl rfl (i := (8 + d)) h_1 dX0_speedOf_11 ?_
  refine q_top (y := (fp (8 + d).toNatClampNeg)) rfl ?_
  refine lv_istore_n (lv' := [(2, .int (fp (8 + d).toNatClampNeg)), (0, .ref g), (1, .int d)]) hx hb dX0_speedOf_12 rfl hl (by decide) rfl (fun ls hl => ?_)
  refine lv_aload_n hx hb dX0_speedOf_13 rfl (lv_at hl 1 rfl) ?_
  refine lv_aload_n hx hb dX0_speedOf_14 rfl (lv_at hl 1 rfl) ?_
  refine va_get (D := (dC, dI)) (ci := 0) (v := .ref r0) (C := RX0) (T := TX0) (N := 2) hx hb hts iA_0 hown hK hP 0 rfl rfl 0 (by decide) (hts (.fieldLink RX0 11 "HubTree$Bus" "row" "[I") (List.mem_cons_of_mem _ m_88)) (fun _ h9 => h9) rfl dX0_speedOf_15 ?_
  refine lv_bipush (v := 32) hx hb dX0_speedOf_18 (by decide) ?_
  refine lv_iload_n hx hb dX0_speedOf_20 rfl (lv_at hl 2 rfl) ?_
  refine lv_iadd hx hb dX0_speedOf_21 ?_
  obtain ⟨h_2, hG⟩ := q_ix hG
  refine va_iald hx hb hK hP 1 0 rfl rfl (i := (32 + d)) h_2 dX0_speedOf_22 ?_
  refine q_top (y := (fr (32 + d).toNatClampNeg)) rfl ?_
  obtain ⟨o_3, r_4, hG⟩ := q_bi hG
  refine q_goi (v := o_3) (va_runV (As := [.int (fr (32 + d).toNatClampNeg)]) (rest := []) ⟨hx, hb, hml, hown, hts⟩ (c_X0_runsAt l dC dI g r0 h r1 r2 dv c0 fr c1 c2 fu fp (fr (32 + d).toNatClampNeg) o_3 r_4) (cwV 1 hts (q_gV m_771 m_772 m_773 m_33 m_774) rfl rfl rfl hdV_yX0_runsAt_1 ⟨Nat.le_of_ble_eq_true rfl, Nat.le_of_ble_eq_true rfl⟩) (q_preV hK hP (q := (RX0, TX0, 2)) (ci := 0) (q0 := 0) rfl rfl [0, 1, 2, 3, 4] rfl [0, 1, 2] rfl) rfl rfl hl.1 rfl (lv_room (Nat.le_of_ble_eq_true rfl)) dX0_speedOf_23 ⟨Nat.le_of_ble_eq_true rfl, Nat.le_of_ble_eq_true rfl⟩) hP hS (fun H locs hP hS => ?_)
  refine lv_iconst (v := 2) hx hb dX0_speedOf_26 (by decide) ?_
  refine lv_icmp_ne (tgt := 34) hx hb dX0_speedOf_27 (by decide) (fun c_5 => ?_) (fun c_5 => ?_)
  · have hG := q_ifn c_5 hG
    refine lv_iload_n hx hb dX0_speedOf_34 rfl (lv_at hl 0 rfl) ?_
    refine lv_iconst (v := 1) hx hb dX0_speedOf_35 (by decide) ?_
    refine va_mmin hx hb (by rw [hml, hl.1]) hown (hts (.methodLink RX0 114 Lib.Math.min.name) (List.mem_cons_of_mem _ m_770)) (hts (.static Lib.Math.min.name) (List.mem_cons_of_mem _ m_227)) (hts (.initialized "java/lang/Math") (List.mem_cons_of_mem _ m_224)) (hts (.code Lib.Math.min.name Lib.Math.min.code 2 (some .int)) (List.mem_cons_of_mem _ m_228)) (Nat.le_of_ble_eq_true rfl) (Nat.le_of_ble_eq_true rfl) (Nat.zero_le _) (Nat.zero_le _) dX0_speedOf_36 ?_
    obtain rfl := Option.some.inj hG
    exact W.iret (v := (if 1 < (fp (8 + d).toNatClampNeg) then 1 else (fp (8 + d).toNatClampNeg))) hx hb hr (fun t ht hW => ⟨⟨(if 1 < (fp (8 + d).toNatClampNeg) then 1 else (fp (8 + d).toNatClampNeg)), (), rfl, rfl, trivial⟩, hS.F ht⟩) hS.2.2 dX0_speedOf_39
  · have hG := q_ifp c_5 hG
    refine lv_iload_n hx hb dX0_speedOf_30 rfl (lv_at hl 0 rfl) ?_
    refine lv_goto (tgt := 39) hx hb dX0_speedOf_31 (by decide) ?_
    obtain rfl := Option.some.inj hG
    exact W.iret (v := (fp (8 + d).toNatClampNeg)) hx hb hr (fun t ht hW => ⟨⟨(fp (8 + d).toNatClampNeg), (), rfl, rfl, trivial⟩, hS.F ht⟩) hS.2.2 dX0_speedOf_39

def FL_X0_helperAbove_12 (fr : Nat → Int32) (dv : Int32) (fu : Nat → Int32) (fp : Nat → Int32) (d : Int32) : Nat → Int32 → Int32 → Option (Int32)
  | 0, _, _ => none
  | n + 1, x2_12, x3_12 => (if 8 ≤ x3_12 then some (x2_12) else (if x2_12 < 0 then some (x2_12) else (if 8 ≤ x2_12 then some (x2_12) else (if (48 + x2_12) < 0 ∨ 98 ≤ ((48 + x2_12)).toNatClampNeg then none else (if (fr (48 + x2_12).toNatClampNeg) = 2 then some (x2_12) else (if (32 + x2_12) < 0 ∨ 98 ≤ ((32 + x2_12)).toNatClampNeg then none else (FL_X0_helperAbove_12 fr dv fu fp d n (fr (32 + x2_12).toNatClampNeg) (x3_12 + 1))))))))

def F_X0_helperAbove (fr : Nat → Int32) (dv : Int32) (fu : Nat → Int32) (fp : Nat → Int32) (d : Int32) : Option (Int32) := (if (32 + d) < 0 ∨ 98 ≤ ((32 + d)).toNatClampNeg then none else (FL_X0_helperAbove_12 fr dv fu fp d 1000 (fr (32 + d).toNatClampNeg) 0))
set_option maxHeartbeats 4000000 in
set_option maxRecDepth 100000 in
theorem c_X0_helperAbove (l : Launch) (dC : Nat → ClassId) (dI : Nat → Nat → Nat) (g : Nat) (r0 : Nat) (h : Nat) (r1 : Nat) (r2 : Nat) (dv : Int32) (c0 : ClassId) (fr : Nat → Int32) (c1 : ClassId) (c2 : ClassId) (fu : Nat → Int32) (fp : Nat → Int32) (d : Int32) (o : Int32) (hG : F_X0_helperAbove fr dv fu fp d = some o) : Met l yX0_helperAbove (.code yX0_helperAbove cX0_helperAbove 4 (some .int) :: wA) ({ frames := 0, cells := 0, slots := 0, locals := 0 }) (va_Pc [.ref g, .int d] (q_R (dC, dI) [(g, .inr (0, [.ref r0, .ref h])), (r0, .inl (c0, 98, .inl fr)), (h, .inr (5, [.ref r1, .ref r2, .int dv])), (r1, .inl (c1, 8, .inl fu)), (r2, .inl (c2, 48, .inl fp))] [(c0, .int), (c1, .int), (c2, .int)])) (q_i o) 0 0 (fun _ => False) := by
  refine Met.ofW (cc := cX0_helperAbove) (maxL := 4) (ret := (some .int)) (by decide) rfl ?_
  intro p e s m args below meth c s₁ B hml hv
  obtain ⟨rfl, hP, hK⟩ := hv
  have hx := B.exec
  have hb := B.bytes
  have hr := B.returns
  have hts := atoms_spec (ws := .code yX0_helperAbove cX0_helperAbove 4 (some .int) :: wA) B.pre
  have hown : s.vm.findClass RX0 = some m.cls := findClass_of_methodNamed B.named
  have hlocks := B.notSynchronized
  have hS : va_S (fun _ => False) s.heap s.heap [] := va_S.rf
  have hl := lv_entry ([.ref g, .int d]) (n := 4) (Nat.le_of_ble_eq_true rfl)
  rw [lg_entry_eq]
  generalize (lg_sl ([.ref g, .int d]) ++ List.replicate (4 - (lg_sl ([.ref g, .int d])).length) Slot.unset).toArray = ls at hl ⊢
  have hl : lv_has ls 4 [(0, .ref g), (1, .int d)] := hl
  unfold F_X0_helperAbove at hG
  refine lv_aload_n hx hb dX0_helperAbove_0 rfl (lv_at hl 0 rfl) ?_
  refine va_get (D := (dC, dI)) (ci := 0) (v := .ref r0) (C := RX0) (T := TX0) (N := 2) hx hb hts iA_0 hown hK hP 0 rfl rfl 0 (by decide) (hts (.fieldLink RX0 11 "HubTree$Bus" "row" "[I") (List.mem_cons_of_mem _ m_88)) (fun _ h9 => h9) rfl dX0_helperAbove_1 ?_
  refine lv_bipush (v := 32) hx hb dX0_helperAbove_4 (by decide) ?_
  refine lv_iload_n hx hb dX0_helperAbove_6 rfl (lv_at hl 1 rfl) ?_
  refine lv_iadd hx hb dX0_helperAbove_7 ?_
  obtain ⟨h_1, hG⟩ := q_ix hG
  refine va_iald hx hb hK hP 1 0 rfl rfl (i := (32 + d)) h_1 dX0_helperAbove_8 ?_
  refine q_top (y := (fr (32 + d).toNatClampNeg)) rfl ?_
  refine lv_istore_n (lv' := [(2, .int (fr (32 + d).toNatClampNeg)), (0, .ref g), (1, .int d)]) hx hb dX0_helperAbove_9 rfl hl (by decide) rfl (fun ls hl => ?_)
  refine lv_iconst (v := 0) hx hb dX0_helperAbove_10 (by decide) ?_
  refine lv_istore_n (lv' := [(3, .int 0), (2, .int (fr (32 + d).toNatClampNeg)), (0, .ref g), (1, .int d)]) hx hb dX0_helperAbove_11 rfl hl (by decide) rfl (fun ls hl => ?_)
  have L_12 : ∀ (n_12 : Nat) (x2_12 : Int32) (x3_12 : Int32) (H : Heap) (locs : List Loc) (ls : Array Slot), FL_X0_helperAbove_12 fr dv fu fp d n_12 x2_12 x3_12 = some o → va_P (dC, dI) vwCl [(g, .inr (0, [.ref r0, .ref h])), (r0, .inl (c0, 98, .inl fr)), (h, .inr (5, [.ref r1, .ref r2, .int dv])), (r1, .inl (c1, 8, .inl fu)), (r2, .inl (c2, 48, .inl fp))] H → va_S (fun _ => False) s.heap H locs → lv_has ls 4 [(3, .int x3_12), (2, .int x2_12), (0, .ref g), (1, .int d)] → W p l e (headSpec (.code yX0_helperAbove cX0_helperAbove 4 (some .int) :: wA) ({ frames := 0, cells := 0, slots := 0, locals := 0 })).room s m #[.ref g, .int d] below meth c H locs 0 0 (MQ below (q_i o) #[.ref g, .int d] s 0 0 (fun _ => False)) (F0 m 12 ls []) := by
    intro n_12
    induction n_12 with
    | zero =>
      intro x2_12 x3_12 H locs ls hG
      exact q_no hG
    | succ n_12 ih_12 =>
      intro x2_12 x3_12 H locs ls hG hP hS hl
      unfold FL_X0_helperAbove_12 at hG
      refine lv_iload_n hx hb dX0_helperAbove_12 rfl (lv_at hl 0 rfl) ?_
      refine lv_bipush (v := 8) hx hb dX0_helperAbove_13 (by decide) ?_
      refine lv_icmp_ge (tgt := 59) hx hb dX0_helperAbove_15 (by decide) (fun c_2 => ?_) (fun c_2 => ?_)
      · have hG := q_ifp c_2 hG
        refine lv_iload_n hx hb dX0_helperAbove_59 rfl (lv_at hl 1 rfl) ?_
        obtain rfl := Option.some.inj hG
        exact W.iret (v := x2_12) hx hb hr (fun t ht hW => ⟨⟨x2_12, (), rfl, rfl, trivial⟩, hS.F ht⟩) hS.2.2 dX0_helperAbove_60
      · have hG := q_ifn c_2 hG
        refine lv_iload_n hx hb dX0_helperAbove_18 rfl (lv_at hl 1 rfl) ?_
        refine lv_if_lt (tgt := 59) hx hb dX0_helperAbove_19 (by decide) (fun c_3 => ?_) (fun c_3 => ?_)
        · have hG := q_ifp c_3 hG
          refine lv_iload_n hx hb dX0_helperAbove_59 rfl (lv_at hl 1 rfl) ?_
          obtain rfl := Option.some.inj hG
          exact W.iret (v := x2_12) hx hb hr (fun t ht hW => ⟨⟨x2_12, (), rfl, rfl, trivial⟩, hS.F ht⟩) hS.2.2 dX0_helperAbove_60
        · have hG := q_ifn c_3 hG
          refine lv_iload_n hx hb dX0_helperAbove_22 rfl (lv_at hl 1 rfl) ?_
          refine lv_bipush (v := 8) hx hb dX0_helperAbove_23 (by decide) ?_
          refine lv_icmp_ge (tgt := 59) hx hb dX0_helperAbove_25 (by decide) (fun c_4 => ?_) (fun c_4 => ?_)
          · have hG := q_ifp c_4 hG
            refine lv_iload_n hx hb dX0_helperAbove_59 rfl (lv_at hl 1 rfl) ?_
            obtain rfl := Option.some.inj hG
            exact W.iret (v := x2_12) hx hb hr (fun t ht hW => ⟨⟨x2_12, (), rfl, rfl, trivial⟩, hS.F ht⟩) hS.2.2 dX0_helperAbove_60
          · have hG := q_ifn c_4 hG
            refine lv_aload_n hx hb dX0_helperAbove_28 rfl (lv_at hl 2 rfl) ?_
            refine va_get (D := (dC, dI)) (ci := 0) (v := .ref r0) (C := RX0) (T := TX0) (N := 2) hx hb hts iA_0 hown hK hP 0 rfl rfl 0 (by decide) (hts (.fieldLink RX0 11 "HubTree$Bus" "row" "[I") (List.mem_cons_of_mem _ m_88)) (fun _ h9 => h9) rfl dX0_helperAbove_29 ?_
            refine lv_bipush (v := 48) hx hb dX0_helperAbove_32 (by decide) ?_
            refine lv_iload_n hx hb dX0_helperAbove_34 rfl (lv_at hl 1 rfl) ?_
            refine lv_iadd hx hb dX0_helperAbove_35 ?_
            obtain ⟨h_5, hG⟩ := q_ix hG
            refine va_iald hx hb hK hP 1 0 rfl rfl (i := (48 + x2_12)) h_5 dX0_helperAbove_36 ?_
            refine q_top (y := (fr (48 + x2_12).toNatClampNeg)) rfl ?_
            refine lv_iconst (v := 2) hx hb dX0_helperAbove_37 (by decide) ?_
            refine lv_icmp_ne (tgt := 43) hx hb dX0_helperAbove_38 (by decide) (fun c_6 => ?_) (fun c_6 => ?_)
            · have hG := q_ifn c_6 hG
              refine lv_aload_n hx hb dX0_helperAbove_43 rfl (lv_at hl 2 rfl) ?_
              refine va_get (D := (dC, dI)) (ci := 0) (v := .ref r0) (C := RX0) (T := TX0) (N := 2) hx hb hts iA_0 hown hK hP 0 rfl rfl 0 (by decide) (hts (.fieldLink RX0 11 "HubTree$Bus" "row" "[I") (List.mem_cons_of_mem _ m_88)) (fun _ h9 => h9) rfl dX0_helperAbove_44 ?_
              refine lv_bipush (v := 32) hx hb dX0_helperAbove_47 (by decide) ?_
              refine lv_iload_n hx hb dX0_helperAbove_49 rfl (lv_at hl 1 rfl) ?_
              refine lv_iadd hx hb dX0_helperAbove_50 ?_
              obtain ⟨h_7, hG⟩ := q_ix hG
              refine va_iald hx hb hK hP 1 0 rfl rfl (i := (32 + x2_12)) h_7 dX0_helperAbove_51 ?_
              refine q_top (y := (fr (32 + x2_12).toNatClampNeg)) rfl ?_
              refine lv_istore_n (lv' := [(2, .int (fr (32 + x2_12).toNatClampNeg)), (3, .int x3_12), (0, .ref g), (1, .int d)]) hx hb dX0_helperAbove_52 rfl hl (by decide) rfl (fun ls hl => ?_)
              refine lv_iinc (v := (x3_12 + 1)) (lv' := [(3, .int (x3_12 + 1)), (2, .int (fr (32 + x2_12).toNatClampNeg)), (0, .ref g), (1, .int d)]) hx hb dX0_helperAbove_53 hl (k := 1) rfl (rfl) (by decide) rfl (fun ls hl => ?_)
              refine lv_goto (tgt := 12) hx hb dX0_helperAbove_56 (by decide) ?_
              exact ih_12 (fr (32 + x2_12).toNatClampNeg) (x3_12 + 1) H locs ls hG hP hS (lv_sub hl [0, 1, 2, 3] rfl)
            · have hG := q_ifp c_6 hG
              refine lv_iload_n hx hb dX0_helperAbove_41 rfl (lv_at hl 1 rfl) ?_
              obtain rfl := Option.some.inj hG
              exact W.iret (v := x2_12) hx hb hr (fun t ht hW => ⟨⟨x2_12, (), rfl, rfl, trivial⟩, hS.F ht⟩) hS.2.2 dX0_helperAbove_42
  exact L_12 1000 (fr (32 + d).toNatClampNeg) 0 s.heap [] ls hG hP hS hl

def F_X0_helpFor (fr : Nat → Int32) (dv : Int32) (fu : Nat → Int32) (fp : Nat → Int32) (d : Int32) (ee : Int32) : Option (Int32) := (if (32 + d) < 0 ∨ 48 ≤ ((32 + d)).toNatClampNeg then none else (if ee = 0 then some (((fp (32 + d).toNatClampNeg) * 8)) else some (((fp (32 + d).toNatClampNeg) * 2))))
set_option maxHeartbeats 4000000 in
set_option maxRecDepth 100000 in
theorem c_X0_helpFor (l : Launch) (dC : Nat → ClassId) (dI : Nat → Nat → Nat) (g : Nat) (r0 : Nat) (h : Nat) (r1 : Nat) (r2 : Nat) (dv : Int32) (c0 : ClassId) (fr : Nat → Int32) (c1 : ClassId) (c2 : ClassId) (fu : Nat → Int32) (fp : Nat → Int32) (d : Int32) (ee : Int32) (o : Int32) (hG : F_X0_helpFor fr dv fu fp d ee = some o) : Met l yX0_helpFor (.code yX0_helpFor cX0_helpFor 3 (some .int) :: wA) ({ frames := 0, cells := 0, slots := 0, locals := 0 }) (va_Pc [.ref g, .int d, .int ee] (q_R (dC, dI) [(g, .inr (0, [.ref r0, .ref h])), (r0, .inl (c0, 98, .inl fr)), (h, .inr (5, [.ref r1, .ref r2, .int dv])), (r1, .inl (c1, 8, .inl fu)), (r2, .inl (c2, 48, .inl fp))] [(c0, .int), (c1, .int), (c2, .int)])) (q_i o) 0 0 (fun _ => False) := by
  refine Met.ofW (cc := cX0_helpFor) (maxL := 3) (ret := (some .int)) (by decide) rfl ?_
  intro p e s m args below meth c s₁ B hml hv
  obtain ⟨rfl, hP, hK⟩ := hv
  have hx := B.exec
  have hb := B.bytes
  have hr := B.returns
  have hts := atoms_spec (ws := .code yX0_helpFor cX0_helpFor 3 (some .int) :: wA) B.pre
  have hown : s.vm.findClass RX0 = some m.cls := findClass_of_methodNamed B.named
  have hlocks := B.notSynchronized
  have hS : va_S (fun _ => False) s.heap s.heap [] := va_S.rf
  have hl := lv_entry ([.ref g, .int d, .int ee]) (n := 3) (Nat.le_of_ble_eq_true rfl)
  rw [lg_entry_eq]
  generalize (lg_sl ([.ref g, .int d, .int ee]) ++ List.replicate (3 - (lg_sl ([.ref g, .int d, .int ee])).length) Slot.unset).toArray = ls at hl ⊢
  have hl : lv_has ls 3 [(0, .ref g), (1, .int d), (2, .int ee)] := hl
  unfold F_X0_helpFor at hG
  refine lv_aload_n hx hb dX0_helpFor_0 rfl (lv_at hl 0 rfl) ?_
  refine va_get (D := (dC, dI)) (ci := 0) (v := .ref h) (C := RX0) (T := TX0) (N := 2) hx hb hts iA_0 hown hK hP 0 rfl rfl 1 (by decide) (hts (.fieldLink RX0 15 "HubTree$Bus" "plan" "LHubTree$Plan;") (List.mem_cons_of_mem _ m_89)) (fun _ h9 => h9) rfl dX0_helpFor_1 ?_
  refine va_get (D := (dC, dI)) (ci := 5) (v := .ref r2) (C := RX5) (T := TX5) (N := 3) hx hb hts iA_5 hown hK hP 2 rfl rfl 1 (by decide) (hts (.fieldLink RX0 35 "HubTree$Plan" "row" "[I") (List.mem_cons_of_mem _ m_400)) (fun _ h9 => h9) rfl dX0_helpFor_4 ?_
  refine lv_bipush (v := 32) hx hb dX0_helpFor_7 (by decide) ?_
  refine lv_iload_n hx hb dX0_helpFor_9 rfl (lv_at hl 1 rfl) ?_
  refine lv_iadd hx hb dX0_helpFor_10 ?_
  obtain ⟨h_1, hG⟩ := q_ix hG
  refine va_iald hx hb hK hP 4 2 rfl rfl (i := (32 + d)) h_1 dX0_helpFor_11 ?_
  refine q_top (y := (fp (32 + d).toNatClampNeg)) rfl ?_
  refine lv_iload_n hx hb dX0_helpFor_12 rfl (lv_at hl 2 rfl) ?_
  refine lv_if_ne (tgt := 21) hx hb dX0_helpFor_13 (by decide) (fun c_2 => ?_) (fun c_2 => ?_)
  · have hG := q_ifn c_2 hG
    refine lv_iconst (v := 2) hx hb dX0_helpFor_21 (by decide) ?_
    refine lv_imul hx hb dX0_helpFor_22 ?_
    obtain rfl := Option.some.inj hG
    exact W.iret (v := ((fp (32 + d).toNatClampNeg) * 2)) hx hb hr (fun t ht hW => ⟨⟨((fp (32 + d).toNatClampNeg) * 2), (), rfl, rfl, trivial⟩, hS.F ht⟩) hS.2.2 dX0_helpFor_23
  · have hG := q_ifp c_2 hG
    refine lv_bipush (v := 8) hx hb dX0_helpFor_16 (by decide) ?_
    refine lv_goto (tgt := 22) hx hb dX0_helpFor_18 (by decide) ?_
    refine lv_imul hx hb dX0_helpFor_22 ?_
    obtain rfl := Option.some.inj hG
    exact W.iret (v := ((fp (32 + d).toNatClampNeg) * 8)) hx hb hr (fun t ht hW => ⟨⟨((fp (32 + d).toNatClampNeg) * 8), (), rfl, rfl, trivial⟩, hS.F ht⟩) hS.2.2 dX0_helpFor_23

def F_X0_busFor (fr : Nat → Int32) (dv : Int32) (fu : Nat → Int32) (fp : Nat → Int32) (d : Int32) (ee : Int32) : Option (Int32) := (if (32 + d) < 0 ∨ 48 ≤ ((32 + d)).toNatClampNeg then none else (if 2 ≤ ee then some (((fp (32 + d).toNatClampNeg) + 0)) else (if (fp (32 + d).toNatClampNeg) ≤ 0 then some (((fp (32 + d).toNatClampNeg) + 0)) else some (((fp (32 + d).toNatClampNeg) + 4)))))
set_option maxHeartbeats 4000000 in
set_option maxRecDepth 100000 in
theorem c_X0_busFor (l : Launch) (dC : Nat → ClassId) (dI : Nat → Nat → Nat) (g : Nat) (r0 : Nat) (h : Nat) (r1 : Nat) (r2 : Nat) (dv : Int32) (c0 : ClassId) (fr : Nat → Int32) (c1 : ClassId) (c2 : ClassId) (fu : Nat → Int32) (fp : Nat → Int32) (d : Int32) (ee : Int32) (o : Int32) (hG : F_X0_busFor fr dv fu fp d ee = some o) : Met l yX0_busFor (.code yX0_busFor cX0_busFor 4 (some .int) :: wA) ({ frames := 0, cells := 0, slots := 0, locals := 0 }) (va_Pc [.ref g, .int d, .int ee] (q_R (dC, dI) [(g, .inr (0, [.ref r0, .ref h])), (r0, .inl (c0, 98, .inl fr)), (h, .inr (5, [.ref r1, .ref r2, .int dv])), (r1, .inl (c1, 8, .inl fu)), (r2, .inl (c2, 48, .inl fp))] [(c0, .int), (c1, .int), (c2, .int)])) (q_i o) 0 0 (fun _ => False) := by
  refine Met.ofW (cc := cX0_busFor) (maxL := 4) (ret := (some .int)) (by decide) rfl ?_
  intro p e s m args below meth c s₁ B hml hv
  obtain ⟨rfl, hP, hK⟩ := hv
  have hx := B.exec
  have hb := B.bytes
  have hr := B.returns
  have hts := atoms_spec (ws := .code yX0_busFor cX0_busFor 4 (some .int) :: wA) B.pre
  have hown : s.vm.findClass RX0 = some m.cls := findClass_of_methodNamed B.named
  have hlocks := B.notSynchronized
  have hS : va_S (fun _ => False) s.heap s.heap [] := va_S.rf
  have hl := lv_entry ([.ref g, .int d, .int ee]) (n := 4) (Nat.le_of_ble_eq_true rfl)
  rw [lg_entry_eq]
  generalize (lg_sl ([.ref g, .int d, .int ee]) ++ List.replicate (4 - (lg_sl ([.ref g, .int d, .int ee])).length) Slot.unset).toArray = ls at hl ⊢
  have hl : lv_has ls 4 [(0, .ref g), (1, .int d), (2, .int ee)] := hl
  unfold F_X0_busFor at hG
  refine lv_aload_n hx hb dX0_busFor_0 rfl (lv_at hl 0 rfl) ?_
  refine va_get (D := (dC, dI)) (ci := 0) (v := .ref h) (C := RX0) (T := TX0) (N := 2) hx hb hts iA_0 hown hK hP 0 rfl rfl 1 (by decide) (hts (.fieldLink RX0 15 "HubTree$Bus" "plan" "LHubTree$Plan;") (List.mem_cons_of_mem _ m_89)) (fun _ h9 => h9) rfl dX0_busFor_1 ?_
  refine va_get (D := (dC, dI)) (ci := 5) (v := .ref r2) (C := RX5) (T := TX5) (N := 3) hx hb hts iA_5 hown hK hP 2 rfl rfl 1 (by decide) (hts (.fieldLink RX0 35 "HubTree$Plan" "row" "[I") (List.mem_cons_of_mem _ m_400)) (fun _ h9 => h9) rfl dX0_busFor_4 ?_
  refine lv_bipush (v := 32) hx hb dX0_busFor_7 (by decide) ?_
  refine lv_iload_n hx hb dX0_busFor_9 rfl (lv_at hl 1 rfl) ?_
  refine lv_iadd hx hb dX0_busFor_10 ?_
  obtain ⟨h_1, hG⟩ := q_ix hG
  refine va_iald hx hb hK hP 4 2 rfl rfl (i := (32 + d)) h_1 dX0_busFor_11 ?_
  refine q_top (y := (fp (32 + d).toNatClampNeg)) rfl ?_
  refine lv_istore_n (lv' := [(3, .int (fp (32 + d).toNatClampNeg)), (0, .ref g), (1, .int d), (2, .int ee)]) hx hb dX0_busFor_12 rfl hl (by decide) rfl (fun ls hl => ?_)
  refine lv_iload_n hx hb dX0_busFor_13 rfl (lv_at hl 0 rfl) ?_
  refine lv_iload_n hx hb dX0_busFor_14 rfl (lv_at hl 3 rfl) ?_
  refine lv_iconst (v := 2) hx hb dX0_busFor_15 (by decide) ?_
  refine lv_icmp_ge (tgt := 27) hx hb dX0_busFor_16 (by decide) (fun c_2 => ?_) (fun c_2 => ?_)
  · have hG := q_ifp c_2 hG
    refine lv_iconst (v := 0) hx hb dX0_busFor_27 (by decide) ?_
    refine lv_iadd hx hb dX0_busFor_28 ?_
    obtain rfl := Option.some.inj hG
    exact W.iret (v := ((fp (32 + d).toNatClampNeg) + 0)) hx hb hr (fun t ht hW => ⟨⟨((fp (32 + d).toNatClampNeg) + 0), (), rfl, rfl, trivial⟩, hS.F ht⟩) hS.2.2 dX0_busFor_29
  · have hG := q_ifn c_2 hG
    refine lv_iload_n hx hb dX0_busFor_19 rfl (lv_at hl 0 rfl) ?_
    refine lv_if_le (tgt := 27) hx hb dX0_busFor_20 (by decide) (fun c_3 => ?_) (fun c_3 => ?_)
    · have hG := q_ifp c_3 hG
      refine lv_iconst (v := 0) hx hb dX0_busFor_27 (by decide) ?_
      refine lv_iadd hx hb dX0_busFor_28 ?_
      obtain rfl := Option.some.inj hG
      exact W.iret (v := ((fp (32 + d).toNatClampNeg) + 0)) hx hb hr (fun t ht hW => ⟨⟨((fp (32 + d).toNatClampNeg) + 0), (), rfl, rfl, trivial⟩, hS.F ht⟩) hS.2.2 dX0_busFor_29
    · have hG := q_ifn c_3 hG
      refine lv_iconst (v := 4) hx hb dX0_busFor_23 (by decide) ?_
      refine lv_goto (tgt := 28) hx hb dX0_busFor_24 (by decide) ?_
      refine lv_iadd hx hb dX0_busFor_28 ?_
      obtain rfl := Option.some.inj hG
      exact W.iret (v := ((fp (32 + d).toNatClampNeg) + 4)) hx hb hr (fun t ht hW => ⟨⟨((fp (32 + d).toNatClampNeg) + 4), (), rfl, rfl, trivial⟩, hS.F ht⟩) hS.2.2 dX0_busFor_29

def FL_X0_helpOf_4 (fr : Nat → Int32) (dv : Int32) (fu : Nat → Int32) (fp : Nat → Int32) (d : Int32) : Nat → Int32 → Int32 → Option (Int32)
  | 0, _, _ => none
  | n + 1, x2_4, x3_4 => (if dv ≤ x3_4 then some (x2_4) else ((F_X0_isAwake fr dv fu fp x3_4).bind fun o_2 => (if o_2 = 0 then (FL_X0_helpOf_4 fr dv fu fp d n x2_4 (x3_4 + 1)) else (if (48 + x3_4) < 0 ∨ 98 ≤ ((48 + x3_4)).toNatClampNeg then none else (if 2 ≤ (fr (48 + x3_4).toNatClampNeg) then (FL_X0_helpOf_4 fr dv fu fp d n x2_4 (x3_4 + 1)) else ((F_X0_helperAbove fr dv fu fp x3_4).bind fun o_7 => (if o_7 = d then (if (48 + x3_4) < 0 ∨ 98 ≤ ((48 + x3_4)).toNatClampNeg then none else ((F_X0_helpFor fr dv fu fp x3_4 (fr (48 + x3_4).toNatClampNeg)).bind fun o_11 => (FL_X0_helpOf_4 fr dv fu fp d n (x2_4 + o_11) (x3_4 + 1)))) else (FL_X0_helpOf_4 fr dv fu fp d n x2_4 (x3_4 + 1)))))))))

def F_X0_helpOf (fr : Nat → Int32) (dv : Int32) (fu : Nat → Int32) (fp : Nat → Int32) (d : Int32) : Option (Int32) := (FL_X0_helpOf_4 fr dv fu fp d 1000 0 0)
set_option maxHeartbeats 4000000 in
set_option maxRecDepth 100000 in
theorem c_X0_helpOf (l : Launch) (dC : Nat → ClassId) (dI : Nat → Nat → Nat) (g : Nat) (r0 : Nat) (h : Nat) (r1 : Nat) (r2 : Nat) (dv : Int32) (c0 : ClassId) (fr : Nat → Int32) (c1 : ClassId) (c2 : ClassId) (fu : Nat → Int32) (fp : Nat → Int32) (d : Int32) (o : Int32) (hG : F_X0_helpOf fr dv fu fp d = some o) : Met l yX0_helpOf (.code yX0_helpOf cX0_helpOf 4 (some .int) :: wA) ({ frames := 1, cells := 0, slots := 0, locals := 23 }) (va_Pc [.ref g, .int d] (q_R (dC, dI) [(g, .inr (0, [.ref r0, .ref h])), (r0, .inl (c0, 98, .inl fr)), (h, .inr (5, [.ref r1, .ref r2, .int dv])), (r1, .inl (c1, 8, .inl fu)), (r2, .inl (c2, 48, .inl fp))] [(c0, .int), (c1, .int), (c2, .int)])) (q_i o) 0 0 (fun _ => False) := by
  refine Met.ofW (cc := cX0_helpOf) (maxL := 4) (ret := (some .int)) (by decide) rfl ?_
  intro p e s m args below meth c s₁ B hml hv
  obtain ⟨rfl, hP, hK⟩ := hv
  have hx := B.exec
  have hb := B.bytes
  have hr := B.returns
  have hts := atoms_spec (ws := .code yX0_helpOf cX0_helpOf 4 (some .int) :: wA) B.pre
  have hown : s.vm.findClass RX0 = some m.cls := findClass_of_methodNamed B.named
  have hlocks := B.notSynchronized
  have hS : va_S (fun _ => False) s.heap s.heap [] := va_S.rf
  have hl := lv_entry ([.ref g, .int d]) (n := 4) (Nat.le_of_ble_eq_true rfl)
  rw [lg_entry_eq]
  generalize (lg_sl ([.ref g, .int d]) ++ List.replicate (4 - (lg_sl ([.ref g, .int d])).length) Slot.unset).toArray = ls at hl ⊢
  have hl : lv_has ls 4 [(0, .ref g), (1, .int d)] := hl
  unfold F_X0_helpOf at hG
  refine lv_iconst (v := 0) hx hb dX0_helpOf_0 (by decide) ?_
  refine lv_istore_n (lv' := [(2, .int 0), (0, .ref g), (1, .int d)]) hx hb dX0_helpOf_1 rfl hl (by decide) rfl (fun ls hl => ?_)
  refine lv_iconst (v := 0) hx hb dX0_helpOf_2 (by decide) ?_
  refine lv_istore_n (lv' := [(3, .int 0), (2, .int 0), (0, .ref g), (1, .int d)]) hx hb dX0_helpOf_3 rfl hl (by decide) rfl (fun ls hl => ?_)
  have L_4 : ∀ (n_4 : Nat) (x2_4 : Int32) (x3_4 : Int32) (H : Heap) (locs : List Loc) (ls : Array Slot), FL_X0_helpOf_4 fr dv fu fp d n_4 x2_4 x3_4 = some o → va_P (dC, dI) vwCl [(g, .inr (0, [.ref r0, .ref h])), (r0, .inl (c0, 98, .inl fr)), (h, .inr (5, [.ref r1, .ref r2, .int dv])), (r1, .inl (c1, 8, .inl fu)), (r2, .inl (c2, 48, .inl fp))] H → va_S (fun _ => False) s.heap H locs → lv_has ls 4 [(3, .int x3_4), (2, .int x2_4), (0, .ref g), (1, .int d)] → W p l e (headSpec (.code yX0_helpOf cX0_helpOf 4 (some .int) :: wA) ({ frames := 1, cells := 0, slots := 0, locals := 23 })).room s m #[.ref g, .int d] below meth c H locs 0 0 (MQ below (q_i o) #[.ref g, .int d] s 0 0 (fun _ => False)) (F0 m 4 ls []) := by
    intro n_4
    induction n_4 with
    | zero =>
      intro x2_4 x3_4 H locs ls hG
      exact q_no hG
    | succ n_4 ih_4 =>
      intro x2_4 x3_4 H locs ls hG hP hS hl
      unfold FL_X0_helpOf_4 at hG
      refine lv_iload_n hx hb dX0_helpOf_4 rfl (lv_at hl 0 rfl) ?_
      refine lv_aload_n hx hb dX0_helpOf_5 rfl (lv_at hl 2 rfl) ?_
      refine va_get (D := (dC, dI)) (ci := 0) (v := .ref h) (C := RX0) (T := TX0) (N := 2) hx hb hts iA_0 hown hK hP 0 rfl rfl 1 (by decide) (hts (.fieldLink RX0 15 "HubTree$Bus" "plan" "LHubTree$Plan;") (List.mem_cons_of_mem _ m_89)) (fun _ h9 => h9) rfl dX0_helpOf_6 ?_
      refine va_get (D := (dC, dI)) (ci := 5) (v := .int dv) (C := RX5) (T := TX5) (N := 3) hx hb hts iA_5 hown hK hP 2 rfl rfl 2 (by decide) (hts (.fieldLink RX0 25 "HubTree$Plan" "devices" "I") (List.mem_cons_of_mem _ m_399)) (fun _ h9 => h9) rfl dX0_helpOf_9 ?_
      refine lv_icmp_ge (tgt := 68) hx hb dX0_helpOf_12 (by decide) (fun c_1 => ?_) (fun c_1 => ?_)
      · have hG := q_ifp c_1 hG
        refine lv_iload_n hx hb dX0_helpOf_68 rfl (lv_at hl 1 rfl) ?_
        obtain rfl := Option.some.inj hG
        exact W.iret (v := x2_4) hx hb hr (fun t ht hW => ⟨⟨x2_4, (), rfl, rfl, trivial⟩, hS.F ht⟩) hS.2.2 dX0_helpOf_69
      · have hG := q_ifn c_1 hG
        refine lv_aload_n hx hb dX0_helpOf_15 rfl (lv_at hl 2 rfl) ?_
        refine lv_iload_n hx hb dX0_helpOf_16 rfl (lv_at hl 0 rfl) ?_
        obtain ⟨o_2, r_3, hG⟩ := q_bi hG
        refine q_goi (v := o_2) (va_runV (As := [.int x3_4]) (rest := []) ⟨hx, hb, hml, hown, hts⟩ (c_X0_isAwake l dC dI g r0 h r1 r2 dv c0 fr c1 c2 fu fp x3_4 o_2 r_3) (cwV 1 hts (q_gV m_596 m_597 m_598 m_33 m_599) rfl rfl rfl hdV_yX0_isAwake_1 ⟨Nat.le_of_ble_eq_true rfl, Nat.le_of_ble_eq_true rfl⟩) (q_preV hK hP (q := (RX0, TX0, 2)) (ci := 0) (q0 := 0) rfl rfl [0, 1, 2, 3, 4] rfl [0, 1, 2] rfl) rfl rfl hl.1 rfl (lv_room (Nat.le_of_ble_eq_true rfl)) dX0_helpOf_17 ⟨Nat.le_of_ble_eq_true rfl, Nat.le_of_ble_eq_true rfl⟩) hP hS (fun H locs hP hS => ?_)
        refine lv_if_eq (tgt := 62) hx hb dX0_helpOf_20 (by decide) (fun c_4 => ?_) (fun c_4 => ?_)
        · have hG := q_ifp c_4 hG
          refine lv_iinc (v := (x3_4 + 1)) (lv' := [(3, .int (x3_4 + 1)), (2, .int x2_4), (0, .ref g), (1, .int d)]) hx hb dX0_helpOf_62 hl (k := 0) rfl (rfl) (by decide) rfl (fun ls hl => ?_)
          refine lv_goto (tgt := 4) hx hb dX0_helpOf_65 (by decide) ?_
          exact ih_4 x2_4 (x3_4 + 1) H locs ls hG hP hS (lv_sub hl [0, 1, 2, 3] rfl)
        · have hG := q_ifn c_4 hG
          refine lv_aload_n hx hb dX0_helpOf_23 rfl (lv_at hl 2 rfl) ?_
          refine va_get (D := (dC, dI)) (ci := 0) (v := .ref r0) (C := RX0) (T := TX0) (N := 2) hx hb hts iA_0 hown hK hP 0 rfl rfl 0 (by decide) (hts (.fieldLink RX0 11 "HubTree$Bus" "row" "[I") (List.mem_cons_of_mem _ m_88)) (fun _ h9 => h9) rfl dX0_helpOf_24 ?_
          refine lv_bipush (v := 48) hx hb dX0_helpOf_27 (by decide) ?_
          refine lv_iload_n hx hb dX0_helpOf_29 rfl (lv_at hl 0 rfl) ?_
          refine lv_iadd hx hb dX0_helpOf_30 ?_
          obtain ⟨h_5, hG⟩ := q_ix hG
          refine va_iald hx hb hK hP 1 0 rfl rfl (i := (48 + x3_4)) h_5 dX0_helpOf_31 ?_
          refine q_top (y := (fr (48 + x3_4).toNatClampNeg)) rfl ?_
          refine lv_iconst (v := 2) hx hb dX0_helpOf_32 (by decide) ?_
          refine lv_icmp_ge (tgt := 62) hx hb dX0_helpOf_33 (by decide) (fun c_6 => ?_) (fun c_6 => ?_)
          · have hG := q_ifp c_6 hG
            refine lv_iinc (v := (x3_4 + 1)) (lv' := [(3, .int (x3_4 + 1)), (2, .int x2_4), (0, .ref g), (1, .int d)]) hx hb dX0_helpOf_62 hl (k := 0) rfl (rfl) (by decide) rfl (fun ls hl => ?_)
            refine lv_goto (tgt := 4) hx hb dX0_helpOf_65 (by decide) ?_
            exact ih_4 x2_4 (x3_4 + 1) H locs ls hG hP hS (lv_sub hl [0, 1, 2, 3] rfl)
          · have hG := q_ifn c_6 hG
            refine lv_aload_n hx hb dX0_helpOf_36 rfl (lv_at hl 2 rfl) ?_
            refine lv_iload_n hx hb dX0_helpOf_37 rfl (lv_at hl 0 rfl) ?_
            obtain ⟨o_7, r_8, hG⟩ := q_bi hG
            refine q_goi (v := o_7) (va_runV (As := [.int x3_4]) (rest := []) ⟨hx, hb, hml, hown, hts⟩ (c_X0_helperAbove l dC dI g r0 h r1 r2 dv c0 fr c1 c2 fu fp x3_4 o_7 r_8) (cwV 1 hts (q_gV m_600 m_601 m_602 m_33 m_603) rfl rfl rfl hdV_yX0_helperAbove_1 ⟨Nat.le_of_ble_eq_true rfl, Nat.le_of_ble_eq_true rfl⟩) (q_preV hK hP (q := (RX0, TX0, 2)) (ci := 0) (q0 := 0) rfl rfl [0, 1, 2, 3, 4] rfl [0, 1, 2] rfl) rfl rfl hl.1 rfl (lv_room (Nat.le_of_ble_eq_true rfl)) dX0_helpOf_38 ⟨Nat.le_of_ble_eq_true rfl, Nat.le_of_ble_eq_true rfl⟩) hP hS (fun H locs hP hS => ?_)
            refine lv_iload_n hx hb dX0_helpOf_41 rfl (lv_at hl 3 rfl) ?_
            refine lv_icmp_ne (tgt := 62) hx hb dX0_helpOf_42 (by decide) (fun c_9 => ?_) (fun c_9 => ?_)
            · have hG := q_ifn c_9 hG
              refine lv_iinc (v := (x3_4 + 1)) (lv' := [(3, .int (x3_4 + 1)), (2, .int x2_4), (0, .ref g), (1, .int d)]) hx hb dX0_helpOf_62 hl (k := 0) rfl (rfl) (by decide) rfl (fun ls hl => ?_)
              refine lv_goto (tgt := 4) hx hb dX0_helpOf_65 (by decide) ?_
              exact ih_4 x2_4 (x3_4 + 1) H locs ls hG hP hS (lv_sub hl [0, 1, 2, 3] rfl)
            · have hG := q_ifp c_9 hG
              refine lv_iload_n hx hb dX0_helpOf_45 rfl (lv_at hl 1 rfl) ?_
              refine lv_aload_n hx hb dX0_helpOf_46 rfl (lv_at hl 2 rfl) ?_
              refine lv_iload_n hx hb dX0_helpOf_47 rfl (lv_at hl 0 rfl) ?_
              refine lv_aload_n hx hb dX0_helpOf_48 rfl (lv_at hl 2 rfl) ?_
              refine va_get (D := (dC, dI)) (ci := 0) (v := .ref r0) (C := RX0) (T := TX0) (N := 2) hx hb hts iA_0 hown hK hP 0 rfl rfl 0 (by decide) (hts (.fieldLink RX0 11 "HubTree$Bus" "row" "[I") (List.mem_cons_of_mem _ m_88)) (fun _ h9 => h9) rfl dX0_helpOf_49 ?_
              refine lv_bipush (v := 48) hx hb dX0_helpOf_52 (by decide) ?_
              refine lv_iload_n hx hb dX0_helpOf_54 rfl (lv_at hl 0 rfl) ?_
              refine lv_iadd hx hb dX0_helpOf_55 ?_
              obtain ⟨h_10, hG⟩ := q_ix hG
              refine va_iald hx hb hK hP 1 0 rfl rfl (i := (48 + x3_4)) h_10 dX0_helpOf_56 ?_
              refine q_top (y := (fr (48 + x3_4).toNatClampNeg)) rfl ?_
              obtain ⟨o_11, r_12, hG⟩ := q_bi hG
              refine q_goi (v := o_11) (va_runV (As := [.int x3_4, .int (fr (48 + x3_4).toNatClampNeg)]) (rest := [.int x2_4]) ⟨hx, hb, hml, hown, hts⟩ (c_X0_helpFor l dC dI g r0 h r1 r2 dv c0 fr c1 c2 fu fp x3_4 (fr (48 + x3_4).toNatClampNeg) o_11 r_12) (cwV 2 hts (q_gV m_604 m_605 m_606 m_33 m_607) rfl rfl rfl hdV_yX0_helpFor_2 ⟨Nat.le_of_ble_eq_true rfl, Nat.le_of_ble_eq_true rfl⟩) (q_preV hK hP (q := (RX0, TX0, 2)) (ci := 0) (q0 := 0) rfl rfl [0, 1, 2, 3, 4] rfl [0, 1, 2] rfl) rfl rfl hl.1 rfl (lv_room (Nat.le_of_ble_eq_true rfl)) dX0_helpOf_57 ⟨Nat.le_of_ble_eq_true rfl, Nat.le_of_ble_eq_true rfl⟩) hP hS (fun H locs hP hS => ?_)
              refine lv_iadd hx hb dX0_helpOf_60 ?_
              refine lv_istore_n (lv' := [(2, .int (x2_4 + o_11)), (3, .int x3_4), (0, .ref g), (1, .int d)]) hx hb dX0_helpOf_61 rfl hl (by decide) rfl (fun ls hl => ?_)
              refine lv_iinc (v := (x3_4 + 1)) (lv' := [(3, .int (x3_4 + 1)), (2, .int (x2_4 + o_11)), (0, .ref g), (1, .int d)]) hx hb dX0_helpOf_62 hl (k := 1) rfl (rfl) (by decide) rfl (fun ls hl => ?_)
              refine lv_goto (tgt := 4) hx hb dX0_helpOf_65 (by decide) ?_
              exact ih_4 (x2_4 + o_11) (x3_4 + 1) H locs ls hG hP hS (lv_sub hl [0, 1, 2, 3] rfl)
  exact L_4 1000 0 0 s.heap [] ls hG hP hS hl

def FL_X0_busUsed_4 (fr : Nat → Int32) (dv : Int32) (fu : Nat → Int32) (fp : Nat → Int32) : Nat → Int32 → Int32 → Option (Int32)
  | 0, _, _ => none
  | n + 1, x1_4, x2_4 => (if dv ≤ x2_4 then some (x1_4) else ((F_X0_isAwake fr dv fu fp x2_4).bind fun o_2 => (if o_2 = 0 then (FL_X0_busUsed_4 fr dv fu fp n (x1_4 + 0) (x2_4 + 1)) else (if (48 + x2_4) < 0 ∨ 98 ≤ ((48 + x2_4)).toNatClampNeg then none else ((F_X0_busFor fr dv fu fp x2_4 (fr (48 + x2_4).toNatClampNeg)).bind fun o_6 => (FL_X0_busUsed_4 fr dv fu fp n (x1_4 + o_6) (x2_4 + 1)))))))

def F_X0_busUsed (fr : Nat → Int32) (dv : Int32) (fu : Nat → Int32) (fp : Nat → Int32) : Option (Int32) := (FL_X0_busUsed_4 fr dv fu fp 1000 0 0)
set_option maxHeartbeats 4000000 in
set_option maxRecDepth 100000 in
theorem c_X0_busUsed (l : Launch) (dC : Nat → ClassId) (dI : Nat → Nat → Nat) (g : Nat) (r0 : Nat) (h : Nat) (r1 : Nat) (r2 : Nat) (dv : Int32) (c0 : ClassId) (fr : Nat → Int32) (c1 : ClassId) (c2 : ClassId) (fu : Nat → Int32) (fp : Nat → Int32) (o : Int32) (hG : F_X0_busUsed fr dv fu fp = some o) : Met l yX0_busUsed (.code yX0_busUsed cX0_busUsed 3 (some .int) :: wA) ({ frames := 1, cells := 0, slots := 0, locals := 23 }) (va_Pc [.ref g] (q_R (dC, dI) [(g, .inr (0, [.ref r0, .ref h])), (r0, .inl (c0, 98, .inl fr)), (h, .inr (5, [.ref r1, .ref r2, .int dv])), (r1, .inl (c1, 8, .inl fu)), (r2, .inl (c2, 48, .inl fp))] [(c0, .int), (c1, .int), (c2, .int)])) (q_i o) 0 0 (fun _ => False) := by
  refine Met.ofW (cc := cX0_busUsed) (maxL := 3) (ret := (some .int)) (by decide) rfl ?_
  intro p e s m args below meth c s₁ B hml hv
  obtain ⟨rfl, hP, hK⟩ := hv
  have hx := B.exec
  have hb := B.bytes
  have hr := B.returns
  have hts := atoms_spec (ws := .code yX0_busUsed cX0_busUsed 3 (some .int) :: wA) B.pre
  have hown : s.vm.findClass RX0 = some m.cls := findClass_of_methodNamed B.named
  have hlocks := B.notSynchronized
  have hS : va_S (fun _ => False) s.heap s.heap [] := va_S.rf
  have hl := lv_entry ([.ref g]) (n := 3) (Nat.le_of_ble_eq_true rfl)
  rw [lg_entry_eq]
  generalize (lg_sl ([.ref g]) ++ List.replicate (3 - (lg_sl ([.ref g])).length) Slot.unset).toArray = ls at hl ⊢
  have hl : lv_has ls 3 [(0, .ref g)] := hl
  unfold F_X0_busUsed at hG
  refine lv_iconst (v := 0) hx hb dX0_busUsed_0 (by decide) ?_
  refine lv_istore_n (lv' := [(1, .int 0), (0, .ref g)]) hx hb dX0_busUsed_1 rfl hl (by decide) rfl (fun ls hl => ?_)
  refine lv_iconst (v := 0) hx hb dX0_busUsed_2 (by decide) ?_
  refine lv_istore_n (lv' := [(2, .int 0), (1, .int 0), (0, .ref g)]) hx hb dX0_busUsed_3 rfl hl (by decide) rfl (fun ls hl => ?_)
  have L_4 : ∀ (n_4 : Nat) (x1_4 : Int32) (x2_4 : Int32) (H : Heap) (locs : List Loc) (ls : Array Slot), FL_X0_busUsed_4 fr dv fu fp n_4 x1_4 x2_4 = some o → va_P (dC, dI) vwCl [(g, .inr (0, [.ref r0, .ref h])), (r0, .inl (c0, 98, .inl fr)), (h, .inr (5, [.ref r1, .ref r2, .int dv])), (r1, .inl (c1, 8, .inl fu)), (r2, .inl (c2, 48, .inl fp))] H → va_S (fun _ => False) s.heap H locs → lv_has ls 3 [(2, .int x2_4), (1, .int x1_4), (0, .ref g)] → W p l e (headSpec (.code yX0_busUsed cX0_busUsed 3 (some .int) :: wA) ({ frames := 1, cells := 0, slots := 0, locals := 23 })).room s m #[.ref g] below meth c H locs 0 0 (MQ below (q_i o) #[.ref g] s 0 0 (fun _ => False)) (F0 m 4 ls []) := by
    intro n_4
    induction n_4 with
    | zero =>
      intro x1_4 x2_4 H locs ls hG
      exact q_no hG
    | succ n_4 ih_4 =>
      intro x1_4 x2_4 H locs ls hG hP hS hl
      unfold FL_X0_busUsed_4 at hG
      refine lv_iload_n hx hb dX0_busUsed_4 rfl (lv_at hl 0 rfl) ?_
      refine lv_aload_n hx hb dX0_busUsed_5 rfl (lv_at hl 2 rfl) ?_
      refine va_get (D := (dC, dI)) (ci := 0) (v := .ref h) (C := RX0) (T := TX0) (N := 2) hx hb hts iA_0 hown hK hP 0 rfl rfl 1 (by decide) (hts (.fieldLink RX0 15 "HubTree$Bus" "plan" "LHubTree$Plan;") (List.mem_cons_of_mem _ m_89)) (fun _ h9 => h9) rfl dX0_busUsed_6 ?_
      refine va_get (D := (dC, dI)) (ci := 5) (v := .int dv) (C := RX5) (T := TX5) (N := 3) hx hb hts iA_5 hown hK hP 2 rfl rfl 2 (by decide) (hts (.fieldLink RX0 25 "HubTree$Plan" "devices" "I") (List.mem_cons_of_mem _ m_399)) (fun _ h9 => h9) rfl dX0_busUsed_9 ?_
      refine lv_icmp_ge (tgt := 50) hx hb dX0_busUsed_12 (by decide) (fun c_1 => ?_) (fun c_1 => ?_)
      · have hG := q_ifp c_1 hG
        refine lv_iload_n hx hb dX0_busUsed_50 rfl (lv_at hl 1 rfl) ?_
        obtain rfl := Option.some.inj hG
        exact W.iret (v := x1_4) hx hb hr (fun t ht hW => ⟨⟨x1_4, (), rfl, rfl, trivial⟩, hS.F ht⟩) hS.2.2 dX0_busUsed_51
      · have hG := q_ifn c_1 hG
        refine lv_iload_n hx hb dX0_busUsed_15 rfl (lv_at hl 1 rfl) ?_
        refine lv_aload_n hx hb dX0_busUsed_16 rfl (lv_at hl 2 rfl) ?_
        refine lv_iload_n hx hb dX0_busUsed_17 rfl (lv_at hl 0 rfl) ?_
        obtain ⟨o_2, r_3, hG⟩ := q_bi hG
        refine q_goi (v := o_2) (va_runV (As := [.int x2_4]) (rest := [.int x1_4]) ⟨hx, hb, hml, hown, hts⟩ (c_X0_isAwake l dC dI g r0 h r1 r2 dv c0 fr c1 c2 fu fp x2_4 o_2 r_3) (cwV 1 hts (q_gV m_596 m_597 m_598 m_33 m_599) rfl rfl rfl hdV_yX0_isAwake_1 ⟨Nat.le_of_ble_eq_true rfl, Nat.le_of_ble_eq_true rfl⟩) (q_preV hK hP (q := (RX0, TX0, 2)) (ci := 0) (q0 := 0) rfl rfl [0, 1, 2, 3, 4] rfl [0, 1, 2] rfl) rfl rfl hl.1 rfl (lv_room (Nat.le_of_ble_eq_true rfl)) dX0_busUsed_18 ⟨Nat.le_of_ble_eq_true rfl, Nat.le_of_ble_eq_true rfl⟩) hP hS (fun H locs hP hS => ?_)
        refine lv_if_eq (tgt := 41) hx hb dX0_busUsed_21 (by decide) (fun c_4 => ?_) (fun c_4 => ?_)
        · have hG := q_ifp c_4 hG
          refine lv_iconst (v := 0) hx hb dX0_busUsed_41 (by decide) ?_
          refine lv_iadd hx hb dX0_busUsed_42 ?_
          refine lv_istore_n (lv' := [(1, .int (x1_4 + 0)), (2, .int x2_4), (0, .ref g)]) hx hb dX0_busUsed_43 rfl hl (by decide) rfl (fun ls hl => ?_)
          refine lv_iinc (v := (x2_4 + 1)) (lv' := [(2, .int (x2_4 + 1)), (1, .int (x1_4 + 0)), (0, .ref g)]) hx hb dX0_busUsed_44 hl (k := 1) rfl (rfl) (by decide) rfl (fun ls hl => ?_)
          refine lv_goto (tgt := 4) hx hb dX0_busUsed_47 (by decide) ?_
          exact ih_4 (x1_4 + 0) (x2_4 + 1) H locs ls hG hP hS (lv_sub hl [0, 1, 2] rfl)
        · have hG := q_ifn c_4 hG
          refine lv_aload_n hx hb dX0_busUsed_24 rfl (lv_at hl 2 rfl) ?_
          refine lv_iload_n hx hb dX0_busUsed_25 rfl (lv_at hl 0 rfl) ?_
          refine lv_aload_n hx hb dX0_busUsed_26 rfl (lv_at hl 2 rfl) ?_
          refine va_get (D := (dC, dI)) (ci := 0) (v := .ref r0) (C := RX0) (T := TX0) (N := 2) hx hb hts iA_0 hown hK hP 0 rfl rfl 0 (by decide) (hts (.fieldLink RX0 11 "HubTree$Bus" "row" "[I") (List.mem_cons_of_mem _ m_88)) (fun _ h9 => h9) rfl dX0_busUsed_27 ?_
          refine lv_bipush (v := 48) hx hb dX0_busUsed_30 (by decide) ?_
          refine lv_iload_n hx hb dX0_busUsed_32 rfl (lv_at hl 0 rfl) ?_
          refine lv_iadd hx hb dX0_busUsed_33 ?_
          obtain ⟨h_5, hG⟩ := q_ix hG
          refine va_iald hx hb hK hP 1 0 rfl rfl (i := (48 + x2_4)) h_5 dX0_busUsed_34 ?_
          refine q_top (y := (fr (48 + x2_4).toNatClampNeg)) rfl ?_
          obtain ⟨o_6, r_7, hG⟩ := q_bi hG
          refine q_goi (v := o_6) (va_runV (As := [.int x2_4, .int (fr (48 + x2_4).toNatClampNeg)]) (rest := [.int x1_4]) ⟨hx, hb, hml, hown, hts⟩ (c_X0_busFor l dC dI g r0 h r1 r2 dv c0 fr c1 c2 fu fp x2_4 (fr (48 + x2_4).toNatClampNeg) o_6 r_7) (cwV 2 hts (q_gV m_779 m_780 m_781 m_33 m_782) rfl rfl rfl hdV_yX0_busFor_2 ⟨Nat.le_of_ble_eq_true rfl, Nat.le_of_ble_eq_true rfl⟩) (q_preV hK hP (q := (RX0, TX0, 2)) (ci := 0) (q0 := 0) rfl rfl [0, 1, 2, 3, 4] rfl [0, 1, 2] rfl) rfl rfl hl.1 rfl (lv_room (Nat.le_of_ble_eq_true rfl)) dX0_busUsed_35 ⟨Nat.le_of_ble_eq_true rfl, Nat.le_of_ble_eq_true rfl⟩) hP hS (fun H locs hP hS => ?_)
          refine lv_goto (tgt := 42) hx hb dX0_busUsed_38 (by decide) ?_
          refine lv_iadd hx hb dX0_busUsed_42 ?_
          refine lv_istore_n (lv' := [(1, .int (x1_4 + o_6)), (2, .int x2_4), (0, .ref g)]) hx hb dX0_busUsed_43 rfl hl (by decide) rfl (fun ls hl => ?_)
          refine lv_iinc (v := (x2_4 + 1)) (lv' := [(2, .int (x2_4 + 1)), (1, .int (x1_4 + o_6)), (0, .ref g)]) hx hb dX0_busUsed_44 hl (k := 1) rfl (rfl) (by decide) rfl (fun ls hl => ?_)
          refine lv_goto (tgt := 4) hx hb dX0_busUsed_47 (by decide) ?_
          exact ih_4 (x1_4 + o_6) (x2_4 + 1) H locs ls hG hP hS (lv_sub hl [0, 1, 2] rfl)
  exact L_4 1000 0 0 s.heap [] ls hG hP hS hl

def F_X0_timeSuffices (fr : Nat → Int32) (dv : Int32) (fu : Nat → Int32) (fp : Nat → Int32) (d : Int32) : Option (Int32) := ((F_X0_speedOf fr dv fu fp d).bind fun o_1 => ((F_X0_busUsed fr dv fu fp).bind fun o_3 => ((F_X0_busFor fr dv fu fp d o_1).bind fun o_5 => (if (o_3 + o_5) ≤ (fu 5) then (if o_1 = 2 then some (1) else ((F_X0_helperAbove fr dv fu fp d).bind fun o_9 => ((F_X0_helpOf fr dv fu fp o_9).bind fun o_11 => ((F_X0_helpFor fr dv fu fp d o_1).bind fun o_13 => (if (fu 6) < (o_11 + o_13) then some (0) else some (1)))))) else some (0)))))
set_option maxHeartbeats 4000000 in
set_option maxRecDepth 100000 in
theorem c_X0_timeSuffices (l : Launch) (dC : Nat → ClassId) (dI : Nat → Nat → Nat) (g : Nat) (r0 : Nat) (h : Nat) (r1 : Nat) (r2 : Nat) (dv : Int32) (c0 : ClassId) (fr : Nat → Int32) (c1 : ClassId) (c2 : ClassId) (fu : Nat → Int32) (fp : Nat → Int32) (d : Int32) (o : Int32) (hG : F_X0_timeSuffices fr dv fu fp d = some o) : Met l yX0_timeSuffices (.code yX0_timeSuffices cX0_timeSuffices 3 (some .boolean) :: wA) ({ frames := 2, cells := 0, slots := 0, locals := 46 }) (va_Pc [.ref g, .int d] (q_R (dC, dI) [(g, .inr (0, [.ref r0, .ref h])), (r0, .inl (c0, 98, .inl fr)), (h, .inr (5, [.ref r1, .ref r2, .int dv])), (r1, .inl (c1, 8, .inl fu)), (r2, .inl (c2, 48, .inl fp))] [(c0, .int), (c1, .int), (c2, .int)])) (q_i o) 0 0 (fun _ => False) := by
  refine Met.ofW (cc := cX0_timeSuffices) (maxL := 3) (ret := (some .boolean)) (by decide) rfl ?_
  intro p e s m args below meth c s₁ B hml hv
  obtain ⟨rfl, hP, hK⟩ := hv
  have hx := B.exec
  have hb := B.bytes
  have hr := B.returns
  have hts := atoms_spec (ws := .code yX0_timeSuffices cX0_timeSuffices 3 (some .boolean) :: wA) B.pre
  have hown : s.vm.findClass RX0 = some m.cls := findClass_of_methodNamed B.named
  have hlocks := B.notSynchronized
  have hS : va_S (fun _ => False) s.heap s.heap [] := va_S.rf
  have hl := lv_entry ([.ref g, .int d]) (n := 3) (Nat.le_of_ble_eq_true rfl)
  rw [lg_entry_eq]
  generalize (lg_sl ([.ref g, .int d]) ++ List.replicate (3 - (lg_sl ([.ref g, .int d])).length) Slot.unset).toArray = ls at hl ⊢
  have hl : lv_has ls 3 [(0, .ref g), (1, .int d)] := hl
  unfold F_X0_timeSuffices at hG
  refine lv_aload_n hx hb dX0_timeSuffices_0 rfl (lv_at hl 0 rfl) ?_
  refine lv_iload_n hx hb dX0_timeSuffices_1 rfl (lv_at hl 1 rfl) ?_
  obtain ⟨o_1, r_2, hG⟩ := q_bi hG
  refine q_goi (v := o_1) (va_runV (As := [.int d]) (rest := []) ⟨hx, hb, hml, hown, hts⟩ (c_X0_speedOf l dC dI g r0 h r1 r2 dv c0 fr c1 c2 fu fp d o_1 r_2) (cwV 1 hts (q_gV m_766 m_767 m_768 m_33 m_769) rfl rfl rfl hdV_yX0_speedOf_1 ⟨Nat.le_of_ble_eq_true rfl, Nat.le_of_ble_eq_true rfl⟩) (q_preV hK hP (q := (RX0, TX0, 2)) (ci := 0) (q0 := 0) rfl rfl [0, 1, 2, 3, 4] rfl [0, 1, 2] rfl) rfl rfl hl.1 rfl (lv_room (Nat.le_of_ble_eq_true rfl)) dX0_timeSuffices_2 ⟨Nat.le_of_ble_eq_true rfl, Nat.le_of_ble_eq_true rfl⟩) hP hS (fun H locs hP hS => ?_)
  refine lv_istore_n (lv' := [(2, .int o_1), (0, .ref g), (1, .int d)]) hx hb dX0_timeSuffices_5 rfl hl (by decide) rfl (fun ls hl => ?_)
  refine lv_aload_n hx hb dX0_timeSuffices_6 rfl (lv_at hl 1 rfl) ?_
  obtain ⟨o_3, r_4, hG⟩ := q_bi hG
  refine q_goi (v := o_3) (va_runV (As := []) (rest := []) ⟨hx, hb, hml, hown, hts⟩ (c_X0_busUsed l dC dI g r0 h r1 r2 dv c0 fr c1 c2 fu fp o_3 r_4) (cwV 0 hts (q_gV m_775 m_776 m_777 m_33 m_778) rfl rfl rfl hdV_yX0_busUsed_0 ⟨Nat.le_of_ble_eq_true rfl, Nat.le_of_ble_eq_true rfl⟩) (q_preV hK hP (q := (RX0, TX0, 2)) (ci := 0) (q0 := 0) rfl rfl [0, 1, 2, 3, 4] rfl [0, 1, 2] rfl) rfl rfl hl.1 rfl (lv_room (Nat.le_of_ble_eq_true rfl)) dX0_timeSuffices_7 ⟨Nat.le_of_ble_eq_true rfl, Nat.le_of_ble_eq_true rfl⟩) hP hS (fun H locs hP hS => ?_)
  refine lv_aload_n hx hb dX0_timeSuffices_10 rfl (lv_at hl 1 rfl) ?_
  refine lv_iload_n hx hb dX0_timeSuffices_11 rfl (lv_at hl 2 rfl) ?_
  refine lv_iload_n hx hb dX0_timeSuffices_12 rfl (lv_at hl 0 rfl) ?_
  obtain ⟨o_5, r_6, hG⟩ := q_bi hG
  refine q_goi (v := o_5) (va_runV (As := [.int d, .int o_1]) (rest := [.int o_3]) ⟨hx, hb, hml, hown, hts⟩ (c_X0_busFor l dC dI g r0 h r1 r2 dv c0 fr c1 c2 fu fp d o_1 o_5 r_6) (cwV 2 hts (q_gV m_779 m_780 m_781 m_33 m_782) rfl rfl rfl hdV_yX0_busFor_2 ⟨Nat.le_of_ble_eq_true rfl, Nat.le_of_ble_eq_true rfl⟩) (q_preV hK hP (q := (RX0, TX0, 2)) (ci := 0) (q0 := 0) rfl rfl [0, 1, 2, 3, 4] rfl [0, 1, 2] rfl) rfl rfl hl.1 rfl (lv_room (Nat.le_of_ble_eq_true rfl)) dX0_timeSuffices_13 ⟨Nat.le_of_ble_eq_true rfl, Nat.le_of_ble_eq_true rfl⟩) hP hS (fun H locs hP hS => ?_)
  refine lv_iadd hx hb dX0_timeSuffices_16 ?_
  refine lv_aload_n hx hb dX0_timeSuffices_17 rfl (lv_at hl 1 rfl) ?_
  refine va_get (D := (dC, dI)) (ci := 0) (v := .ref h) (C := RX0) (T := TX0) (N := 2) hx hb hts iA_0 hown hK hP 0 rfl rfl 1 (by decide) (hts (.fieldLink RX0 15 "HubTree$Bus" "plan" "LHubTree$Plan;") (List.mem_cons_of_mem _ m_89)) (fun _ h9 => h9) rfl dX0_timeSuffices_18 ?_
  refine va_get (D := (dC, dI)) (ci := 5) (v := .ref r1) (C := RX5) (T := TX5) (N := 3) hx hb hts iA_5 hown hK hP 2 rfl rfl 0 (by decide) (hts (.fieldLink RX0 84 "HubTree$Plan" "rules" "[I") (List.mem_cons_of_mem _ m_577)) (fun _ h9 => h9) rfl dX0_timeSuffices_21 ?_
  refine lv_iconst (v := 5) hx hb dX0_timeSuffices_24 (by decide) ?_
  refine va_iald hx hb hK hP 3 1 rfl rfl (i := 5) (vp_in_iff.mpr (by decide)) dX0_timeSuffices_25 ?_
  refine q_top (y := (fu 5)) rfl ?_
  refine lv_icmp_le (tgt := 31) hx hb dX0_timeSuffices_26 (by decide) (fun c_7 => ?_) (fun c_7 => ?_)
  · have hG := q_ifp c_7 hG
    refine lv_iload_n hx hb dX0_timeSuffices_31 rfl (lv_at hl 0 rfl) ?_
    refine lv_iconst (v := 2) hx hb dX0_timeSuffices_32 (by decide) ?_
    refine lv_icmp_eq (tgt := 65) hx hb dX0_timeSuffices_33 (by decide) (fun c_8 => ?_) (fun c_8 => ?_)
    · have hG := q_ifp c_8 hG
      refine lv_iconst (v := 1) hx hb dX0_timeSuffices_65 (by decide) ?_
      refine lv_goto (tgt := 70) hx hb dX0_timeSuffices_66 (by decide) ?_
      obtain rfl := Option.some.inj hG
      exact W.zret (v := 1) hx hb hr rfl (fun t ht hW => ⟨⟨1, (), rfl, rfl, trivial⟩, hS.F ht⟩) hS.2.2 dX0_timeSuffices_70
    · have hG := q_ifn c_8 hG
      refine lv_aload_n hx hb dX0_timeSuffices_36 rfl (lv_at hl 1 rfl) ?_
      refine lv_aload_n hx hb dX0_timeSuffices_37 rfl (lv_at hl 1 rfl) ?_
      refine lv_iload_n hx hb dX0_timeSuffices_38 rfl (lv_at hl 2 rfl) ?_
      obtain ⟨o_9, r_10, hG⟩ := q_bi hG
      refine q_goi (v := o_9) (va_runV (As := [.int d]) (rest := [.ref g]) ⟨hx, hb, hml, hown, hts⟩ (c_X0_helperAbove l dC dI g r0 h r1 r2 dv c0 fr c1 c2 fu fp d o_9 r_10) (cwV 1 hts (q_gV m_600 m_601 m_602 m_33 m_603) rfl rfl rfl hdV_yX0_helperAbove_1 ⟨Nat.le_of_ble_eq_true rfl, Nat.le_of_ble_eq_true rfl⟩) (q_preV hK hP (q := (RX0, TX0, 2)) (ci := 0) (q0 := 0) rfl rfl [0, 1, 2, 3, 4] rfl [0, 1, 2] rfl) rfl rfl hl.1 rfl (lv_room (Nat.le_of_ble_eq_true rfl)) dX0_timeSuffices_39 ⟨Nat.le_of_ble_eq_true rfl, Nat.le_of_ble_eq_true rfl⟩) hP hS (fun H locs hP hS => ?_)
      obtain ⟨o_11, r_12, hG⟩ := q_bi hG
      refine q_goi (v := o_11) (va_runV (As := [.int o_9]) (rest := []) ⟨hx, hb, hml, hown, hts⟩ (c_X0_helpOf l dC dI g r0 h r1 r2 dv c0 fr c1 c2 fu fp o_9 o_11 r_12) (cwV 1 hts (q_gV m_783 m_593 m_594 m_33 m_595) rfl rfl rfl hdV_yX0_helpOf_1 ⟨Nat.le_of_ble_eq_true rfl, Nat.le_of_ble_eq_true rfl⟩) (q_preV hK hP (q := (RX0, TX0, 2)) (ci := 0) (q0 := 0) rfl rfl [0, 1, 2, 3, 4] rfl [0, 1, 2] rfl) rfl rfl hl.1 rfl (lv_room (Nat.le_of_ble_eq_true rfl)) dX0_timeSuffices_42 ⟨Nat.le_of_ble_eq_true rfl, Nat.le_of_ble_eq_true rfl⟩) hP hS (fun H locs hP hS => ?_)
      refine lv_aload_n hx hb dX0_timeSuffices_45 rfl (lv_at hl 1 rfl) ?_
      refine lv_iload_n hx hb dX0_timeSuffices_46 rfl (lv_at hl 2 rfl) ?_
      refine lv_iload_n hx hb dX0_timeSuffices_47 rfl (lv_at hl 0 rfl) ?_
      obtain ⟨o_13, r_14, hG⟩ := q_bi hG
      refine q_goi (v := o_13) (va_runV (As := [.int d, .int o_1]) (rest := [.int o_11]) ⟨hx, hb, hml, hown, hts⟩ (c_X0_helpFor l dC dI g r0 h r1 r2 dv c0 fr c1 c2 fu fp d o_1 o_13 r_14) (cwV 2 hts (q_gV m_604 m_605 m_606 m_33 m_607) rfl rfl rfl hdV_yX0_helpFor_2 ⟨Nat.le_of_ble_eq_true rfl, Nat.le_of_ble_eq_true rfl⟩) (q_preV hK hP (q := (RX0, TX0, 2)) (ci := 0) (q0 := 0) rfl rfl [0, 1, 2, 3, 4] rfl [0, 1, 2] rfl) rfl rfl hl.1 rfl (lv_room (Nat.le_of_ble_eq_true rfl)) dX0_timeSuffices_48 ⟨Nat.le_of_ble_eq_true rfl, Nat.le_of_ble_eq_true rfl⟩) hP hS (fun H locs hP hS => ?_)
      refine lv_iadd hx hb dX0_timeSuffices_51 ?_
      refine lv_aload_n hx hb dX0_timeSuffices_52 rfl (lv_at hl 1 rfl) ?_
      refine va_get (D := (dC, dI)) (ci := 0) (v := .ref h) (C := RX0) (T := TX0) (N := 2) hx hb hts iA_0 hown hK hP 0 rfl rfl 1 (by decide) (hts (.fieldLink RX0 15 "HubTree$Bus" "plan" "LHubTree$Plan;") (List.mem_cons_of_mem _ m_89)) (fun _ h9 => h9) rfl dX0_timeSuffices_53 ?_
      refine va_get (D := (dC, dI)) (ci := 5) (v := .ref r1) (C := RX5) (T := TX5) (N := 3) hx hb hts iA_5 hown hK hP 2 rfl rfl 0 (by decide) (hts (.fieldLink RX0 84 "HubTree$Plan" "rules" "[I") (List.mem_cons_of_mem _ m_577)) (fun _ h9 => h9) rfl dX0_timeSuffices_56 ?_
      refine lv_bipush (v := 6) hx hb dX0_timeSuffices_59 (by decide) ?_
      refine va_iald hx hb hK hP 3 1 rfl rfl (i := 6) (vp_in_iff.mpr (by decide)) dX0_timeSuffices_61 ?_
      refine q_top (y := (fu 6)) rfl ?_
      refine lv_icmp_gt (tgt := 69) hx hb dX0_timeSuffices_62 (by decide) (fun c_15 => ?_) (fun c_15 => ?_)
      · have hG := q_ifp c_15 hG
        refine lv_iconst (v := 0) hx hb dX0_timeSuffices_69 (by decide) ?_
        obtain rfl := Option.some.inj hG
        exact W.zret (v := 0) hx hb hr rfl (fun t ht hW => ⟨⟨0, (), rfl, rfl, trivial⟩, hS.F ht⟩) hS.2.2 dX0_timeSuffices_70
      · have hG := q_ifn c_15 hG
        refine lv_iconst (v := 1) hx hb dX0_timeSuffices_65 (by decide) ?_
        refine lv_goto (tgt := 70) hx hb dX0_timeSuffices_66 (by decide) ?_
        obtain rfl := Option.some.inj hG
        exact W.zret (v := 1) hx hb hr rfl (fun t ht hW => ⟨⟨1, (), rfl, rfl, trivial⟩, hS.F ht⟩) hS.2.2 dX0_timeSuffices_70
  · have hG := q_ifn c_7 hG
    refine lv_iconst (v := 0) hx hb dX0_timeSuffices_29 (by decide) ?_
    obtain rfl := Option.some.inj hG
    exact W.zret (v := 0) hx hb hr rfl (fun t ht hW => ⟨⟨0, (), rfl, rfl, trivial⟩, hS.F ht⟩) hS.2.2 dX0_timeSuffices_30

def F_X0_byteChecked (fr : Nat → Int32) (dv : Int32) (fu : Nat → Int32) (fp : Nat → Int32) (d : Int32) (ee : Int32) : Option (Int32) := (if (0 + d) < 0 ∨ 48 ≤ ((0 + d)).toNatClampNeg then none else (if ee = 0 then some ((8 + (fp (0 + d).toNatClampNeg))) else (if ee = 1 then (if (fp (0 + d).toNatClampNeg) ≤ 0 then some (1) else some (9)) else (if ee = 2 then (if (8 + d) < 0 ∨ 48 ≤ ((8 + d)).toNatClampNeg then none else some ((fp (8 + d).toNatClampNeg))) else (if ee = 3 then (if (16 + d) < 0 ∨ 48 ≤ ((16 + d)).toNatClampNeg then none else some ((fp (16 + d).toNatClampNeg))) else (if ee = 4 then (if (80 + d) < 0 ∨ 98 ≤ ((80 + d)).toNatClampNeg then none else (if (fr (80 + d).toNatClampNeg) = 3 then some (7) else some ((fp (0 + d).toNatClampNeg)))) else (if ee = 5 then (if (32 + d) < 0 ∨ 48 ≤ ((32 + d)).toNatClampNeg then none else some ((fp (32 + d).toNatClampNeg))) else (if ee = 6 then (if (24 + d) < 0 ∨ 48 ≤ ((24 + d)).toNatClampNeg then none else some ((fp (24 + d).toNatClampNeg))) else some (((10 + ee) - 7))))))))))
set_option maxHeartbeats 4000000 in
set_option maxRecDepth 100000 in
theorem c_X0_byteChecked (l : Launch) (dC : Nat → ClassId) (dI : Nat → Nat → Nat) (g : Nat) (r0 : Nat) (h : Nat) (r1 : Nat) (r2 : Nat) (dv : Int32) (c0 : ClassId) (fr : Nat → Int32) (c1 : ClassId) (c2 : ClassId) (fu : Nat → Int32) (fp : Nat → Int32) (d : Int32) (ee : Int32) (o : Int32) (hG : F_X0_byteChecked fr dv fu fp d ee = some o) : Met l yX0_byteChecked (.code yX0_byteChecked cX0_byteChecked 4 (some .int) :: wA) ({ frames := 0, cells := 0, slots := 0, locals := 0 }) (va_Pc [.ref g, .int d, .int ee] (q_R (dC, dI) [(g, .inr (0, [.ref r0, .ref h])), (r0, .inl (c0, 98, .inl fr)), (h, .inr (5, [.ref r1, .ref r2, .int dv])), (r1, .inl (c1, 8, .inl fu)), (r2, .inl (c2, 48, .inl fp))] [(c0, .int), (c1, .int), (c2, .int)])) (q_i o) 0 0 (fun _ => False) := by
  refine Met.ofW (cc := cX0_byteChecked) (maxL := 4) (ret := (some .int)) (by decide) rfl ?_
  intro p e s m args below meth c s₁ B hml hv
  obtain ⟨rfl, hP, hK⟩ := hv
  have hx := B.exec
  have hb := B.bytes
  have hr := B.returns
  have hts := atoms_spec (ws := .code yX0_byteChecked cX0_byteChecked 4 (some .int) :: wA) B.pre
  have hown : s.vm.findClass RX0 = some m.cls := findClass_of_methodNamed B.named
  have hlocks := B.notSynchronized
  have hS : va_S (fun _ => False) s.heap s.heap [] := va_S.rf
  have hl := lv_entry ([.ref g, .int d, .int ee]) (n := 4) (Nat.le_of_ble_eq_true rfl)
  rw [lg_entry_eq]
  generalize (lg_sl ([.ref g, .int d, .int ee]) ++ List.replicate (4 - (lg_sl ([.ref g, .int d, .int ee])).length) Slot.unset).toArray = ls at hl ⊢
  have hl : lv_has ls 4 [(0, .ref g), (1, .int d), (2, .int ee)] := hl
  unfold F_X0_byteChecked at hG
  refine lv_aload_n hx hb dX0_byteChecked_0 rfl (lv_at hl 0 rfl) ?_
  refine va_get (D := (dC, dI)) (ci := 0) (v := .ref h) (C := RX0) (T := TX0) (N := 2) hx hb hts iA_0 hown hK hP 0 rfl rfl 1 (by decide) (hts (.fieldLink RX0 15 "HubTree$Bus" "plan" "LHubTree$Plan;") (List.mem_cons_of_mem _ m_89)) (fun _ h9 => h9) rfl dX0_byteChecked_1 ?_
  refine va_get (D := (dC, dI)) (ci := 5) (v := .ref r2) (C := RX5) (T := TX5) (N := 3) hx hb hts iA_5 hown hK hP 2 rfl rfl 1 (by decide) (hts (.fieldLink RX0 35 "HubTree$Plan" "row" "[I") (List.mem_cons_of_mem _ m_400)) (fun _ h9 => h9) rfl dX0_byteChecked_4 ?_
  refine lv_iconst (v := 0) hx hb dX0_byteChecked_7 (by decide) ?_
  refine lv_iload_n hx hb dX0_byteChecked_8 rfl (lv_at hl 1 rfl) ?_
  refine lv_iadd hx hb dX0_byteChecked_9 ?_
  obtain ⟨h_1, hG⟩ := q_ix hG
  refine va_iald hx hb hK hP 4 2 rfl rfl (i := (0 + d)) h_1 dX0_byteChecked_10 ?_
  refine q_top (y := (fp (0 + d).toNatClampNeg)) rfl ?_
  refine lv_istore_n (lv' := [(3, .int (fp (0 + d).toNatClampNeg)), (0, .ref g), (1, .int d), (2, .int ee)]) hx hb dX0_byteChecked_11 rfl hl (by decide) rfl (fun ls hl => ?_)
  refine lv_iload_n hx hb dX0_byteChecked_12 rfl (lv_at hl 3 rfl) ?_
  by_cases e_2 : ee = 0
  · have hG := q_ifp e_2 hG
    refine lv_tableIn (off := 43) (tgt := 56) hx hb dX0_byteChecked_13 (by rw [e_2]; decide) (by rw [e_2]; decide) (by rw [e_2]; decide) (by decide) ?_
    refine lv_bipush (v := 8) hx hb dX0_byteChecked_56 (by decide) ?_
    refine lv_iload_n hx hb dX0_byteChecked_58 rfl (lv_at hl 0 rfl) ?_
    refine lv_iadd hx hb dX0_byteChecked_59 ?_
    obtain rfl := Option.some.inj hG
    exact W.iret (v := (8 + (fp (0 + d).toNatClampNeg))) hx hb hr (fun t ht hW => ⟨⟨(8 + (fp (0 + d).toNatClampNeg)), (), rfl, rfl, trivial⟩, hS.F ht⟩) hS.2.2 dX0_byteChecked_60
  have hG := q_ifn e_2 hG
  by_cases e_3 : ee = 1
  · have hG := q_ifp e_3 hG
    refine lv_tableIn (off := 48) (tgt := 61) hx hb dX0_byteChecked_13 (by rw [e_3]; decide) (by rw [e_3]; decide) (by rw [e_3]; decide) (by decide) ?_
    refine lv_iload_n hx hb dX0_byteChecked_61 rfl (lv_at hl 0 rfl) ?_
    refine lv_if_le (tgt := 70) hx hb dX0_byteChecked_62 (by decide) (fun c_4 => ?_) (fun c_4 => ?_)
    · have hG := q_ifp c_4 hG
      refine lv_iconst (v := 1) hx hb dX0_byteChecked_70 (by decide) ?_
      obtain rfl := Option.some.inj hG
      exact W.iret (v := 1) hx hb hr (fun t ht hW => ⟨⟨1, (), rfl, rfl, trivial⟩, hS.F ht⟩) hS.2.2 dX0_byteChecked_71
    · have hG := q_ifn c_4 hG
      refine lv_bipush (v := 9) hx hb dX0_byteChecked_65 (by decide) ?_
      refine lv_goto (tgt := 71) hx hb dX0_byteChecked_67 (by decide) ?_
      obtain rfl := Option.some.inj hG
      exact W.iret (v := 9) hx hb hr (fun t ht hW => ⟨⟨9, (), rfl, rfl, trivial⟩, hS.F ht⟩) hS.2.2 dX0_byteChecked_71
  have hG := q_ifn e_3 hG
  by_cases e_5 : ee = 2
  · have hG := q_ifp e_5 hG
    refine lv_tableIn (off := 59) (tgt := 72) hx hb dX0_byteChecked_13 (by rw [e_5]; decide) (by rw [e_5]; decide) (by rw [e_5]; decide) (by decide) ?_
    refine lv_aload_n hx hb dX0_byteChecked_72 rfl (lv_at hl 1 rfl) ?_
    refine va_get (D := (dC, dI)) (ci := 0) (v := .ref h) (C := RX0) (T := TX0) (N := 2) hx hb hts iA_0 hown hK hP 0 rfl rfl 1 (by decide) (hts (.fieldLink RX0 15 "HubTree$Bus" "plan" "LHubTree$Plan;") (List.mem_cons_of_mem _ m_89)) (fun _ h9 => h9) rfl dX0_byteChecked_73 ?_
    refine va_get (D := (dC, dI)) (ci := 5) (v := .ref r2) (C := RX5) (T := TX5) (N := 3) hx hb hts iA_5 hown hK hP 2 rfl rfl 1 (by decide) (hts (.fieldLink RX0 35 "HubTree$Plan" "row" "[I") (List.mem_cons_of_mem _ m_400)) (fun _ h9 => h9) rfl dX0_byteChecked_76 ?_
    refine lv_bipush (v := 8) hx hb dX0_byteChecked_79 (by decide) ?_
    refine lv_iload_n hx hb dX0_byteChecked_81 rfl (lv_at hl 2 rfl) ?_
    refine lv_iadd hx hb dX0_byteChecked_82 ?_
    obtain ⟨h_6, hG⟩ := q_ix hG
    refine va_iald hx hb hK hP 4 2 rfl rfl (i := (8 + d)) h_6 dX0_byteChecked_83 ?_
    refine q_top (y := (fp (8 + d).toNatClampNeg)) rfl ?_
    obtain rfl := Option.some.inj hG
    exact W.iret (v := (fp (8 + d).toNatClampNeg)) hx hb hr (fun t ht hW => ⟨⟨(fp (8 + d).toNatClampNeg), (), rfl, rfl, trivial⟩, hS.F ht⟩) hS.2.2 dX0_byteChecked_84
  have hG := q_ifn e_5 hG
  by_cases e_7 : ee = 3
  · have hG := q_ifp e_7 hG
    refine lv_tableIn (off := 72) (tgt := 85) hx hb dX0_byteChecked_13 (by rw [e_7]; decide) (by rw [e_7]; decide) (by rw [e_7]; decide) (by decide) ?_
    refine lv_aload_n hx hb dX0_byteChecked_85 rfl (lv_at hl 1 rfl) ?_
    refine va_get (D := (dC, dI)) (ci := 0) (v := .ref h) (C := RX0) (T := TX0) (N := 2) hx hb hts iA_0 hown hK hP 0 rfl rfl 1 (by decide) (hts (.fieldLink RX0 15 "HubTree$Bus" "plan" "LHubTree$Plan;") (List.mem_cons_of_mem _ m_89)) (fun _ h9 => h9) rfl dX0_byteChecked_86 ?_
    refine va_get (D := (dC, dI)) (ci := 5) (v := .ref r2) (C := RX5) (T := TX5) (N := 3) hx hb hts iA_5 hown hK hP 2 rfl rfl 1 (by decide) (hts (.fieldLink RX0 35 "HubTree$Plan" "row" "[I") (List.mem_cons_of_mem _ m_400)) (fun _ h9 => h9) rfl dX0_byteChecked_89 ?_
    refine lv_bipush (v := 16) hx hb dX0_byteChecked_92 (by decide) ?_
    refine lv_iload_n hx hb dX0_byteChecked_94 rfl (lv_at hl 2 rfl) ?_
    refine lv_iadd hx hb dX0_byteChecked_95 ?_
    obtain ⟨h_8, hG⟩ := q_ix hG
    refine va_iald hx hb hK hP 4 2 rfl rfl (i := (16 + d)) h_8 dX0_byteChecked_96 ?_
    refine q_top (y := (fp (16 + d).toNatClampNeg)) rfl ?_
    obtain rfl := Option.some.inj hG
    exact W.iret (v := (fp (16 + d).toNatClampNeg)) hx hb hr (fun t ht hW => ⟨⟨(fp (16 + d).toNatClampNeg), (), rfl, rfl, trivial⟩, hS.F ht⟩) hS.2.2 dX0_byteChecked_97
  have hG := q_ifn e_7 hG
  by_cases e_9 : ee = 4
  · have hG := q_ifp e_9 hG
    refine lv_tableIn (off := 85) (tgt := 98) hx hb dX0_byteChecked_13 (by rw [e_9]; decide) (by rw [e_9]; decide) (by rw [e_9]; decide) (by decide) ?_
    refine lv_aload_n hx hb dX0_byteChecked_98 rfl (lv_at hl 1 rfl) ?_
    refine va_get (D := (dC, dI)) (ci := 0) (v := .ref r0) (C := RX0) (T := TX0) (N := 2) hx hb hts iA_0 hown hK hP 0 rfl rfl 0 (by decide) (hts (.fieldLink RX0 11 "HubTree$Bus" "row" "[I") (List.mem_cons_of_mem _ m_88)) (fun _ h9 => h9) rfl dX0_byteChecked_99 ?_
    refine lv_bipush (v := 80) hx hb dX0_byteChecked_102 (by decide) ?_
    refine lv_iload_n hx hb dX0_byteChecked_104 rfl (lv_at hl 2 rfl) ?_
    refine lv_iadd hx hb dX0_byteChecked_105 ?_
    obtain ⟨h_10, hG⟩ := q_ix hG
    refine va_iald hx hb hK hP 1 0 rfl rfl (i := (80 + d)) h_10 dX0_byteChecked_106 ?_
    refine q_top (y := (fr (80 + d).toNatClampNeg)) rfl ?_
    refine lv_iconst (v := 3) hx hb dX0_byteChecked_107 (by decide) ?_
    refine lv_icmp_ne (tgt := 116) hx hb dX0_byteChecked_108 (by decide) (fun c_11 => ?_) (fun c_11 => ?_)
    · have hG := q_ifn c_11 hG
      refine lv_iload_n hx hb dX0_byteChecked_116 rfl (lv_at hl 0 rfl) ?_
      obtain rfl := Option.some.inj hG
      exact W.iret (v := (fp (0 + d).toNatClampNeg)) hx hb hr (fun t ht hW => ⟨⟨(fp (0 + d).toNatClampNeg), (), rfl, rfl, trivial⟩, hS.F ht⟩) hS.2.2 dX0_byteChecked_117
    · have hG := q_ifp c_11 hG
      refine lv_bipush (v := 7) hx hb dX0_byteChecked_111 (by decide) ?_
      refine lv_goto (tgt := 117) hx hb dX0_byteChecked_113 (by decide) ?_
      obtain rfl := Option.some.inj hG
      exact W.iret (v := 7) hx hb hr (fun t ht hW => ⟨⟨7, (), rfl, rfl, trivial⟩, hS.F ht⟩) hS.2.2 dX0_byteChecked_117
  have hG := q_ifn e_9 hG
  by_cases e_12 : ee = 5
  · have hG := q_ifp e_12 hG
    refine lv_tableIn (off := 105) (tgt := 118) hx hb dX0_byteChecked_13 (by rw [e_12]; decide) (by rw [e_12]; decide) (by rw [e_12]; decide) (by decide) ?_
    refine lv_aload_n hx hb dX0_byteChecked_118 rfl (lv_at hl 1 rfl) ?_
    refine va_get (D := (dC, dI)) (ci := 0) (v := .ref h) (C := RX0) (T := TX0) (N := 2) hx hb hts iA_0 hown hK hP 0 rfl rfl 1 (by decide) (hts (.fieldLink RX0 15 "HubTree$Bus" "plan" "LHubTree$Plan;") (List.mem_cons_of_mem _ m_89)) (fun _ h9 => h9) rfl dX0_byteChecked_119 ?_
    refine va_get (D := (dC, dI)) (ci := 5) (v := .ref r2) (C := RX5) (T := TX5) (N := 3) hx hb hts iA_5 hown hK hP 2 rfl rfl 1 (by decide) (hts (.fieldLink RX0 35 "HubTree$Plan" "row" "[I") (List.mem_cons_of_mem _ m_400)) (fun _ h9 => h9) rfl dX0_byteChecked_122 ?_
    refine lv_bipush (v := 32) hx hb dX0_byteChecked_125 (by decide) ?_
    refine lv_iload_n hx hb dX0_byteChecked_127 rfl (lv_at hl 2 rfl) ?_
    refine lv_iadd hx hb dX0_byteChecked_128 ?_
    obtain ⟨h_13, hG⟩ := q_ix hG
    refine va_iald hx hb hK hP 4 2 rfl rfl (i := (32 + d)) h_13 dX0_byteChecked_129 ?_
    refine q_top (y := (fp (32 + d).toNatClampNeg)) rfl ?_
    obtain rfl := Option.some.inj hG
    exact W.iret (v := (fp (32 + d).toNatClampNeg)) hx hb hr (fun t ht hW => ⟨⟨(fp (32 + d).toNatClampNeg), (), rfl, rfl, trivial⟩, hS.F ht⟩) hS.2.2 dX0_byteChecked_130
  have hG := q_ifn e_12 hG
  by_cases e_14 : ee = 6
  · have hG := q_ifp e_14 hG
    refine lv_tableIn (off := 118) (tgt := 131) hx hb dX0_byteChecked_13 (by rw [e_14]; decide) (by rw [e_14]; decide) (by rw [e_14]; decide) (by decide) ?_
    refine lv_aload_n hx hb dX0_byteChecked_131 rfl (lv_at hl 1 rfl) ?_
    refine va_get (D := (dC, dI)) (ci := 0) (v := .ref h) (C := RX0) (T := TX0) (N := 2) hx hb hts iA_0 hown hK hP 0 rfl rfl 1 (by decide) (hts (.fieldLink RX0 15 "HubTree$Bus" "plan" "LHubTree$Plan;") (List.mem_cons_of_mem _ m_89)) (fun _ h9 => h9) rfl dX0_byteChecked_132 ?_
    refine va_get (D := (dC, dI)) (ci := 5) (v := .ref r2) (C := RX5) (T := TX5) (N := 3) hx hb hts iA_5 hown hK hP 2 rfl rfl 1 (by decide) (hts (.fieldLink RX0 35 "HubTree$Plan" "row" "[I") (List.mem_cons_of_mem _ m_400)) (fun _ h9 => h9) rfl dX0_byteChecked_135 ?_
    refine lv_bipush (v := 24) hx hb dX0_byteChecked_138 (by decide) ?_
    refine lv_iload_n hx hb dX0_byteChecked_140 rfl (lv_at hl 2 rfl) ?_
    refine lv_iadd hx hb dX0_byteChecked_141 ?_
    obtain ⟨h_15, hG⟩ := q_ix hG
    refine va_iald hx hb hK hP 4 2 rfl rfl (i := (24 + d)) h_15 dX0_byteChecked_142 ?_
    refine q_top (y := (fp (24 + d).toNatClampNeg)) rfl ?_
    obtain rfl := Option.some.inj hG
    exact W.iret (v := (fp (24 + d).toNatClampNeg)) hx hb hr (fun t ht hW => ⟨⟨(fp (24 + d).toNatClampNeg), (), rfl, rfl, trivial⟩, hS.F ht⟩) hS.2.2 dX0_byteChecked_143
  have hG := q_ifn e_14 hG
  have hsw : (ee).toInt < 0 ∨ 6 < (ee).toInt := by
    have := lv_neT (a := 0) e_2 (by decide)
    have := lv_neT (a := 1) e_3 (by decide)
    have := lv_neT (a := 2) e_5 (by decide)
    have := lv_neT (a := 3) e_7 (by decide)
    have := lv_neT (a := 4) e_9 (by decide)
    have := lv_neT (a := 5) e_12 (by decide)
    have := lv_neT (a := 6) e_14 (by decide)
    omega
  refine lv_tableOut (tgt := 144) hx hb dX0_byteChecked_13 hsw (by decide) ?_
  refine lv_bipush (v := 10) hx hb dX0_byteChecked_144 (by decide) ?_
  refine lv_iload_n hx hb dX0_byteChecked_146 rfl (lv_at hl 3 rfl) ?_
  refine lv_iadd hx hb dX0_byteChecked_147 ?_
  refine lv_bipush (v := 7) hx hb dX0_byteChecked_148 (by decide) ?_
  refine lv_isub hx hb dX0_byteChecked_150 ?_
  obtain rfl := Option.some.inj hG
  exact W.iret (v := ((10 + ee) - 7)) hx hb hr (fun t ht hW => ⟨⟨((10 + ee) - 7), (), rfl, rfl, trivial⟩, hS.F ht⟩) hS.2.2 dX0_byteChecked_151

def FL_X0_byteOf_54 (fr : Nat → Int32) (dv : Int32) (fu : Nat → Int32) (fp : Nat → Int32) (d : Int32) (ee : Int32) : Nat → Int32 → Int32 → Int32 → Option (Int32)
  | 0, _, _, _ => none
  | n + 1, x3_54, x4_54, x5_54 => (if x3_54 ≤ x5_54 then (if (80 + d) < 0 ∨ 98 ≤ ((80 + d)).toNatClampNeg then none else (if (fr (80 + d).toNatClampNeg) = 2 then some (((1 - x4_54) &&& 255)) else some (((-x4_54) &&& 255)))) else ((F_X0_byteChecked fr dv fu fp d x5_54).bind fun o_6 => (FL_X0_byteOf_54 fr dv fu fp d ee n x3_54 (x4_54 + o_6) (x5_54 + 1))))

def F_X0_byteOf (fr : Nat → Int32) (dv : Int32) (fu : Nat → Int32) (fp : Nat → Int32) (d : Int32) (ee : Int32) : Option (Int32) := (if (0 + d) < 0 ∨ 48 ≤ ((0 + d)).toNatClampNeg then none else (if (7 + (fp (0 + d).toNatClampNeg)) ≤ ee then (FL_X0_byteOf_54 fr dv fu fp d ee 1000 (7 + (fp (0 + d).toNatClampNeg)) 0 0) else (if ee = 0 then (if (80 + d) < 0 ∨ 98 ≤ ((80 + d)).toNatClampNeg then none else (if (fr (80 + d).toNatClampNeg) = 1 then some (3) else ((F_X0_byteChecked fr dv fu fp d ee).bind fun o_13 => some (o_13)))) else ((F_X0_byteChecked fr dv fu fp d ee).bind fun o_9 => some (o_9)))))
set_option maxHeartbeats 4000000 in
set_option maxRecDepth 100000 in
theorem c_X0_byteOf (l : Launch) (dC : Nat → ClassId) (dI : Nat → Nat → Nat) (g : Nat) (r0 : Nat) (h : Nat) (r1 : Nat) (r2 : Nat) (dv : Int32) (c0 : ClassId) (fr : Nat → Int32) (c1 : ClassId) (c2 : ClassId) (fu : Nat → Int32) (fp : Nat → Int32) (d : Int32) (ee : Int32) (o : Int32) (hG : F_X0_byteOf fr dv fu fp d ee = some o) : Met l yX0_byteOf (.code yX0_byteOf cX0_byteOf 6 (some .int) :: wA) ({ frames := 1, cells := 0, slots := 0, locals := 23 }) (va_Pc [.ref g, .int d, .int ee] (q_R (dC, dI) [(g, .inr (0, [.ref r0, .ref h])), (r0, .inl (c0, 98, .inl fr)), (h, .inr (5, [.ref r1, .ref r2, .int dv])), (r1, .inl (c1, 8, .inl fu)), (r2, .inl (c2, 48, .inl fp))] [(c0, .int), (c1, .int), (c2, .int)])) (q_i o) 0 0 (fun _ => False) := by
  refine Met.ofW (cc := cX0_byteOf) (maxL := 6) (ret := (some .int)) (by decide) rfl ?_
  intro p e s m args below meth c s₁ B hml hv
  obtain ⟨rfl, hP, hK⟩ := hv
  have hx := B.exec
  have hb := B.bytes
  have hr := B.returns
  have hts := atoms_spec (ws := .code yX0_byteOf cX0_byteOf 6 (some .int) :: wA) B.pre
  have hown : s.vm.findClass RX0 = some m.cls := findClass_of_methodNamed B.named
  have hlocks := B.notSynchronized
  have hS : va_S (fun _ => False) s.heap s.heap [] := va_S.rf
  have hl := lv_entry ([.ref g, .int d, .int ee]) (n := 6) (Nat.le_of_ble_eq_true rfl)
  rw [lg_entry_eq]
  generalize (lg_sl ([.ref g, .int d, .int ee]) ++ List.replicate (6 - (lg_sl ([.ref g, .int d, .int ee])).length) Slot.unset).toArray = ls at hl ⊢
  have hl : lv_has ls 6 [(0, .ref g), (1, .int d), (2, .int ee)] := hl
  unfold F_X0_byteOf at hG
  refine lv_bipush (v := 7) hx hb dX0_byteOf_0 (by decide) ?_
  refine lv_aload_n hx hb dX0_byteOf_2 rfl (lv_at hl 0 rfl) ?_
  refine va_get (D := (dC, dI)) (ci := 0) (v := .ref h) (C := RX0) (T := TX0) (N := 2) hx hb hts iA_0 hown hK hP 0 rfl rfl 1 (by decide) (hts (.fieldLink RX0 15 "HubTree$Bus" "plan" "LHubTree$Plan;") (List.mem_cons_of_mem _ m_89)) (fun _ h9 => h9) rfl dX0_byteOf_3 ?_
  refine va_get (D := (dC, dI)) (ci := 5) (v := .ref r2) (C := RX5) (T := TX5) (N := 3) hx hb hts iA_5 hown hK hP 2 rfl rfl 1 (by decide) (hts (.fieldLink RX0 35 "HubTree$Plan" "row" "[I") (List.mem_cons_of_mem _ m_400)) (fun _ h9 => h9) rfl dX0_byteOf_6 ?_
  refine lv_iconst (v := 0) hx hb dX0_byteOf_9 (by decide) ?_
  refine lv_iload_n hx hb dX0_byteOf_10 rfl (lv_at hl 1 rfl) ?_
  refine lv_iadd hx hb dX0_byteOf_11 ?_
  obtain ⟨h_1, hG⟩ := q_ix hG
  refine va_iald hx hb hK hP 4 2 rfl rfl (i := (0 + d)) h_1 dX0_byteOf_12 ?_
  refine q_top (y := (fp (0 + d).toNatClampNeg)) rfl ?_
  refine lv_iadd hx hb dX0_byteOf_13 ?_
  refine lv_istore_n (lv' := [(3, .int (7 + (fp (0 + d).toNatClampNeg))), (0, .ref g), (1, .int d), (2, .int ee)]) hx hb dX0_byteOf_14 rfl hl (by decide) rfl (fun ls hl => ?_)
  refine lv_iload_n hx hb dX0_byteOf_15 rfl (lv_at hl 3 rfl) ?_
  refine lv_iload_n hx hb dX0_byteOf_16 rfl (lv_at hl 0 rfl) ?_
  refine lv_icmp_ge (tgt := 48) hx hb dX0_byteOf_17 (by decide) (fun c_2 => ?_) (fun c_2 => ?_)
  · have hG := q_ifp c_2 hG
    refine lv_iconst (v := 0) hx hb dX0_byteOf_48 (by decide) ?_
    refine lv_istore (lv' := [(4, .int 0), (3, .int (7 + (fp (0 + d).toNatClampNeg))), (0, .ref g), (1, .int d), (2, .int ee)]) hx hb dX0_byteOf_49 hl (by decide) rfl (fun ls hl => ?_)
    refine lv_iconst (v := 0) hx hb dX0_byteOf_51 (by decide) ?_
    refine lv_istore (lv' := [(5, .int 0), (4, .int 0), (3, .int (7 + (fp (0 + d).toNatClampNeg))), (0, .ref g), (1, .int d), (2, .int ee)]) hx hb dX0_byteOf_52 hl (by decide) rfl (fun ls hl => ?_)
    have L_54 : ∀ (n_54 : Nat) (x3_54 : Int32) (x4_54 : Int32) (x5_54 : Int32) (H : Heap) (locs : List Loc) (ls : Array Slot), FL_X0_byteOf_54 fr dv fu fp d ee n_54 x3_54 x4_54 x5_54 = some o → va_P (dC, dI) vwCl [(g, .inr (0, [.ref r0, .ref h])), (r0, .inl (c0, 98, .inl fr)), (h, .inr (5, [.ref r1, .ref r2, .int dv])), (r1, .inl (c1, 8, .inl fu)), (r2, .inl (c2, 48, .inl fp))] H → va_S (fun _ => False) s.heap H locs → lv_has ls 6 [(5, .int x5_54), (4, .int x4_54), (3, .int x3_54), (0, .ref g), (1, .int d), (2, .int ee)] → W p l e (headSpec (.code yX0_byteOf cX0_byteOf 6 (some .int) :: wA) ({ frames := 1, cells := 0, slots := 0, locals := 23 })).room s m #[.ref g, .int d, .int ee] below meth c H locs 0 0 (MQ below (q_i o) #[.ref g, .int d, .int ee] s 0 0 (fun _ => False)) (F0 m 54 ls []) := by
      intro n_54
      induction n_54 with
      | zero =>
        intro x3_54 x4_54 x5_54 H locs ls hG
        exact q_no hG
      | succ n_54 ih_54 =>
        intro x3_54 x4_54 x5_54 H locs ls hG hP hS hl
        unfold FL_X0_byteOf_54 at hG
        refine lv_iload hx hb dX0_byteOf_54 (lv_at hl 0 rfl) ?_
        refine lv_iload_n hx hb dX0_byteOf_56 rfl (lv_at hl 2 rfl) ?_
        refine lv_icmp_ge (tgt := 78) hx hb dX0_byteOf_57 (by decide) (fun c_3 => ?_) (fun c_3 => ?_)
        · have hG := q_ifp c_3 hG
          refine lv_aload_n hx hb dX0_byteOf_78 rfl (lv_at hl 3 rfl) ?_
          refine va_get (D := (dC, dI)) (ci := 0) (v := .ref r0) (C := RX0) (T := TX0) (N := 2) hx hb hts iA_0 hown hK hP 0 rfl rfl 0 (by decide) (hts (.fieldLink RX0 11 "HubTree$Bus" "row" "[I") (List.mem_cons_of_mem _ m_88)) (fun _ h9 => h9) rfl dX0_byteOf_79 ?_
          refine lv_bipush (v := 80) hx hb dX0_byteOf_82 (by decide) ?_
          refine lv_iload_n hx hb dX0_byteOf_84 rfl (lv_at hl 4 rfl) ?_
          refine lv_iadd hx hb dX0_byteOf_85 ?_
          obtain ⟨h_4, hG⟩ := q_ix hG
          refine va_iald hx hb hK hP 1 0 rfl rfl (i := (80 + d)) h_4 dX0_byteOf_86 ?_
          refine q_top (y := (fr (80 + d).toNatClampNeg)) rfl ?_
          refine lv_iconst (v := 2) hx hb dX0_byteOf_87 (by decide) ?_
          refine lv_icmp_ne (tgt := 98) hx hb dX0_byteOf_88 (by decide) (fun c_5 => ?_) (fun c_5 => ?_)
          · have hG := q_ifn c_5 hG
            refine lv_iload hx hb dX0_byteOf_98 (lv_at hl 1 rfl) ?_
            refine lv_ineg hx hb dX0_byteOf_100 ?_
            refine lv_sipush (v := 255) hx hb dX0_byteOf_101 (by decide) ?_
            refine lv_iand hx hb dX0_byteOf_104 ?_
            obtain rfl := Option.some.inj hG
            exact W.iret (v := ((-x4_54) &&& 255)) hx hb hr (fun t ht hW => ⟨⟨((-x4_54) &&& 255), (), rfl, rfl, trivial⟩, hS.F ht⟩) hS.2.2 dX0_byteOf_105
          · have hG := q_ifp c_5 hG
            refine lv_iconst (v := 1) hx hb dX0_byteOf_91 (by decide) ?_
            refine lv_iload hx hb dX0_byteOf_92 (lv_at hl 1 rfl) ?_
            refine lv_isub hx hb dX0_byteOf_94 ?_
            refine lv_goto (tgt := 101) hx hb dX0_byteOf_95 (by decide) ?_
            refine lv_sipush (v := 255) hx hb dX0_byteOf_101 (by decide) ?_
            refine lv_iand hx hb dX0_byteOf_104 ?_
            obtain rfl := Option.some.inj hG
            exact W.iret (v := ((1 - x4_54) &&& 255)) hx hb hr (fun t ht hW => ⟨⟨((1 - x4_54) &&& 255), (), rfl, rfl, trivial⟩, hS.F ht⟩) hS.2.2 dX0_byteOf_105
        · have hG := q_ifn c_3 hG
          refine lv_iload hx hb dX0_byteOf_60 (lv_at hl 1 rfl) ?_
          refine lv_aload_n hx hb dX0_byteOf_62 rfl (lv_at hl 3 rfl) ?_
          refine lv_iload_n hx hb dX0_byteOf_63 rfl (lv_at hl 4 rfl) ?_
          refine lv_iload hx hb dX0_byteOf_64 (lv_at hl 0 rfl) ?_
          obtain ⟨o_6, r_7, hG⟩ := q_bi hG
          refine q_goi (v := o_6) (va_runV (As := [.int d, .int x5_54]) (rest := [.int x4_54]) ⟨hx, hb, hml, hown, hts⟩ (c_X0_byteChecked l dC dI g r0 h r1 r2 dv c0 fr c1 c2 fu fp d x5_54 o_6 r_7) (cwV 2 hts (q_gV m_673 m_674 m_675 m_33 m_676) rfl rfl rfl hdV_yX0_byteChecked_2 ⟨Nat.le_of_ble_eq_true rfl, Nat.le_of_ble_eq_true rfl⟩) (q_preV hK hP (q := (RX0, TX0, 2)) (ci := 0) (q0 := 0) rfl rfl [0, 1, 2, 3, 4] rfl [0, 1, 2] rfl) rfl rfl hl.1 rfl (lv_room (Nat.le_of_ble_eq_true rfl)) dX0_byteOf_66 ⟨Nat.le_of_ble_eq_true rfl, Nat.le_of_ble_eq_true rfl⟩) hP hS (fun H locs hP hS => ?_)
          refine lv_iadd hx hb dX0_byteOf_69 ?_
          refine lv_istore (lv' := [(4, .int (x4_54 + o_6)), (5, .int x5_54), (3, .int x3_54), (0, .ref g), (1, .int d), (2, .int ee)]) hx hb dX0_byteOf_70 hl (by decide) rfl (fun ls hl => ?_)
          refine lv_iinc (v := (x5_54 + 1)) (lv' := [(5, .int (x5_54 + 1)), (4, .int (x4_54 + o_6)), (3, .int x3_54), (0, .ref g), (1, .int d), (2, .int ee)]) hx hb dX0_byteOf_72 hl (k := 1) rfl (rfl) (by decide) rfl (fun ls hl => ?_)
          refine lv_goto (tgt := 54) hx hb dX0_byteOf_75 (by decide) ?_
          exact ih_54 x3_54 (x4_54 + o_6) (x5_54 + 1) H locs ls hG hP hS (lv_sub hl [0, 1, 2, 3, 4, 5] rfl)
    exact L_54 1000 (7 + (fp (0 + d).toNatClampNeg)) 0 0 s.heap [] ls hG hP hS hl
  · have hG := q_ifn c_2 hG
    refine lv_iload_n hx hb dX0_byteOf_20 rfl (lv_at hl 3 rfl) ?_
    refine lv_if_ne (tgt := 41) hx hb dX0_byteOf_21 (by decide) (fun c_8 => ?_) (fun c_8 => ?_)
    · have hG := q_ifn c_8 hG
      refine lv_aload_n hx hb dX0_byteOf_41 rfl (lv_at hl 1 rfl) ?_
      refine lv_iload_n hx hb dX0_byteOf_42 rfl (lv_at hl 2 rfl) ?_
      refine lv_iload_n hx hb dX0_byteOf_43 rfl (lv_at hl 3 rfl) ?_
      obtain ⟨o_9, r_10, hG⟩ := q_bi hG
      refine q_goi (v := o_9) (va_runV (As := [.int d, .int ee]) (rest := []) ⟨hx, hb, hml, hown, hts⟩ (c_X0_byteChecked l dC dI g r0 h r1 r2 dv c0 fr c1 c2 fu fp d ee o_9 r_10) (cwV 2 hts (q_gV m_673 m_674 m_675 m_33 m_676) rfl rfl rfl hdV_yX0_byteChecked_2 ⟨Nat.le_of_ble_eq_true rfl, Nat.le_of_ble_eq_true rfl⟩) (q_preV hK hP (q := (RX0, TX0, 2)) (ci := 0) (q0 := 0) rfl rfl [0, 1, 2, 3, 4] rfl [0, 1, 2] rfl) rfl rfl hl.1 rfl (lv_room (Nat.le_of_ble_eq_true rfl)) dX0_byteOf_44 ⟨Nat.le_of_ble_eq_true rfl, Nat.le_of_ble_eq_true rfl⟩) hP hS (fun H locs hP hS => ?_)
      obtain rfl := Option.some.inj hG
      exact W.iret (v := o_9) hx hb hr (fun t ht hW => ⟨⟨o_9, (), rfl, rfl, trivial⟩, hS.F ht⟩) hS.2.2 dX0_byteOf_47
    · have hG := q_ifp c_8 hG
      refine lv_aload_n hx hb dX0_byteOf_24 rfl (lv_at hl 1 rfl) ?_
      refine va_get (D := (dC, dI)) (ci := 0) (v := .ref r0) (C := RX0) (T := TX0) (N := 2) hx hb hts iA_0 hown hK hP 0 rfl rfl 0 (by decide) (hts (.fieldLink RX0 11 "HubTree$Bus" "row" "[I") (List.mem_cons_of_mem _ m_88)) (fun _ h9 => h9) rfl dX0_byteOf_25 ?_
      refine lv_bipush (v := 80) hx hb dX0_byteOf_28 (by decide) ?_
      refine lv_iload_n hx hb dX0_byteOf_30 rfl (lv_at hl 2 rfl) ?_
      refine lv_iadd hx hb dX0_byteOf_31 ?_
      obtain ⟨h_11, hG⟩ := q_ix hG
      refine va_iald hx hb hK hP 1 0 rfl rfl (i := (80 + d)) h_11 dX0_byteOf_32 ?_
      refine q_top (y := (fr (80 + d).toNatClampNeg)) rfl ?_
      refine lv_iconst (v := 1) hx hb dX0_byteOf_33 (by decide) ?_
      refine lv_icmp_ne (tgt := 41) hx hb dX0_byteOf_34 (by decide) (fun c_12 => ?_) (fun c_12 => ?_)
      · have hG := q_ifn c_12 hG
        refine lv_aload_n hx hb dX0_byteOf_41 rfl (lv_at hl 1 rfl) ?_
        refine lv_iload_n hx hb dX0_byteOf_42 rfl (lv_at hl 2 rfl) ?_
        refine lv_iload_n hx hb dX0_byteOf_43 rfl (lv_at hl 3 rfl) ?_
        obtain ⟨o_13, r_14, hG⟩ := q_bi hG
        refine q_goi (v := o_13) (va_runV (As := [.int d, .int ee]) (rest := []) ⟨hx, hb, hml, hown, hts⟩ (c_X0_byteChecked l dC dI g r0 h r1 r2 dv c0 fr c1 c2 fu fp d ee o_13 r_14) (cwV 2 hts (q_gV m_673 m_674 m_675 m_33 m_676) rfl rfl rfl hdV_yX0_byteChecked_2 ⟨Nat.le_of_ble_eq_true rfl, Nat.le_of_ble_eq_true rfl⟩) (q_preV hK hP (q := (RX0, TX0, 2)) (ci := 0) (q0 := 0) rfl rfl [0, 1, 2, 3, 4] rfl [0, 1, 2] rfl) rfl rfl hl.1 rfl (lv_room (Nat.le_of_ble_eq_true rfl)) dX0_byteOf_44 ⟨Nat.le_of_ble_eq_true rfl, Nat.le_of_ble_eq_true rfl⟩) hP hS (fun H locs hP hS => ?_)
        obtain rfl := Option.some.inj hG
        exact W.iret (v := o_13) hx hb hr (fun t ht hW => ⟨⟨o_13, (), rfl, rfl, trivial⟩, hS.F ht⟩) hS.2.2 dX0_byteOf_47
      · have hG := q_ifp c_12 hG
        refine lv_iconst (v := 3) hx hb dX0_byteOf_37 (by decide) ?_
        refine lv_goto (tgt := 47) hx hb dX0_byteOf_38 (by decide) ?_
        obtain rfl := Option.some.inj hG
        exact W.iret (v := 3) hx hb hr (fun t ht hW => ⟨⟨3, (), rfl, rfl, trivial⟩, hS.F ht⟩) hS.2.2 dX0_byteOf_47

def FL_X0_isSound_4 (fr : Nat → Int32) (dv : Int32) (fu : Nat → Int32) (fp : Nat → Int32) (d : Int32) : Nat → Int32 → Int32 → Option (Int32)
  | 0, _, _ => none
  | n + 1, x2_4, x3_4 => ((F_X5_lengthOf fp d).bind fun o_1 => (if o_1 ≤ x3_4 then (if (x2_4 &&& 255) = 0 then ((F_X0_byteOf fr dv fu fp d 0).bind fun o_5 => ((F_X0_byteOf fr dv fu fp d 4).bind fun o_7 => (if o_5 = (8 + o_7) then some (1) else some (0)))) else some (0)) else ((F_X0_byteOf fr dv fu fp d x3_4).bind fun o_10 => (FL_X0_isSound_4 fr dv fu fp d n (x2_4 + o_10) (x3_4 + 1)))))

def F_X0_isSound (fr : Nat → Int32) (dv : Int32) (fu : Nat → Int32) (fp : Nat → Int32) (d : Int32) : Option (Int32) := (FL_X0_isSound_4 fr dv fu fp d 1000 0 0)
set_option maxHeartbeats 4000000 in
set_option maxRecDepth 100000 in
theorem c_X0_isSound (l : Launch) (dC : Nat → ClassId) (dI : Nat → Nat → Nat) (g : Nat) (r0 : Nat) (h : Nat) (r1 : Nat) (r2 : Nat) (dv : Int32) (c0 : ClassId) (fr : Nat → Int32) (c1 : ClassId) (c2 : ClassId) (fu : Nat → Int32) (fp : Nat → Int32) (d : Int32) (o : Int32) (hG : F_X0_isSound fr dv fu fp d = some o) : Met l yX0_isSound (.code yX0_isSound cX0_isSound 4 (some .boolean) :: wA) ({ frames := 2, cells := 0, slots := 0, locals := 48 }) (va_Pc [.ref g, .int d] (q_R (dC, dI) [(g, .inr (0, [.ref r0, .ref h])), (r0, .inl (c0, 98, .inl fr)), (h, .inr (5, [.ref r1, .ref r2, .int dv])), (r1, .inl (c1, 8, .inl fu)), (r2, .inl (c2, 48, .inl fp))] [(c0, .int), (c1, .int), (c2, .int)])) (q_i o) 0 0 (fun _ => False) := by
  refine Met.ofW (cc := cX0_isSound) (maxL := 4) (ret := (some .boolean)) (by decide) rfl ?_
  intro p e s m args below meth c s₁ B hml hv
  obtain ⟨rfl, hP, hK⟩ := hv
  have hx := B.exec
  have hb := B.bytes
  have hr := B.returns
  have hts := atoms_spec (ws := .code yX0_isSound cX0_isSound 4 (some .boolean) :: wA) B.pre
  have hown : s.vm.findClass RX0 = some m.cls := findClass_of_methodNamed B.named
  have hlocks := B.notSynchronized
  have hS : va_S (fun _ => False) s.heap s.heap [] := va_S.rf
  have hl := lv_entry ([.ref g, .int d]) (n := 4) (Nat.le_of_ble_eq_true rfl)
  rw [lg_entry_eq]
  generalize (lg_sl ([.ref g, .int d]) ++ List.replicate (4 - (lg_sl ([.ref g, .int d])).length) Slot.unset).toArray = ls at hl ⊢
  have hl : lv_has ls 4 [(0, .ref g), (1, .int d)] := hl
  unfold F_X0_isSound at hG
  refine lv_iconst (v := 0) hx hb dX0_isSound_0 (by decide) ?_
  refine lv_istore_n (lv' := [(2, .int 0), (0, .ref g), (1, .int d)]) hx hb dX0_isSound_1 rfl hl (by decide) rfl (fun ls hl => ?_)
  refine lv_iconst (v := 0) hx hb dX0_isSound_2 (by decide) ?_
  refine lv_istore_n (lv' := [(3, .int 0), (2, .int 0), (0, .ref g), (1, .int d)]) hx hb dX0_isSound_3 rfl hl (by decide) rfl (fun ls hl => ?_)
  have L_4 : ∀ (n_4 : Nat) (x2_4 : Int32) (x3_4 : Int32) (H : Heap) (locs : List Loc) (ls : Array Slot), FL_X0_isSound_4 fr dv fu fp d n_4 x2_4 x3_4 = some o → va_P (dC, dI) vwCl [(g, .inr (0, [.ref r0, .ref h])), (r0, .inl (c0, 98, .inl fr)), (h, .inr (5, [.ref r1, .ref r2, .int dv])), (r1, .inl (c1, 8, .inl fu)), (r2, .inl (c2, 48, .inl fp))] H → va_S (fun _ => False) s.heap H locs → lv_has ls 4 [(3, .int x3_4), (2, .int x2_4), (0, .ref g), (1, .int d)] → W p l e (headSpec (.code yX0_isSound cX0_isSound 4 (some .boolean) :: wA) ({ frames := 2, cells := 0, slots := 0, locals := 48 })).room s m #[.ref g, .int d] below meth c H locs 0 0 (MQ below (q_i o) #[.ref g, .int d] s 0 0 (fun _ => False)) (F0 m 4 ls []) := by
    intro n_4
    induction n_4 with
    | zero =>
      intro x2_4 x3_4 H locs ls hG
      exact q_no hG
    | succ n_4 ih_4 =>
      intro x2_4 x3_4 H locs ls hG hP hS hl
      unfold FL_X0_isSound_4 at hG
      refine lv_iload_n hx hb dX0_isSound_4 rfl (lv_at hl 0 rfl) ?_
      refine lv_aload_n hx hb dX0_isSound_5 rfl (lv_at hl 2 rfl) ?_
      refine va_get (D := (dC, dI)) (ci := 0) (v := .ref h) (C := RX0) (T := TX0) (N := 2) hx hb hts iA_0 hown hK hP 0 rfl rfl 1 (by decide) (hts (.fieldLink RX0 15 "HubTree$Bus" "plan" "LHubTree$Plan;") (List.mem_cons_of_mem _ m_89)) (fun _ h9 => h9) rfl dX0_isSound_6 ?_
      refine lv_iload_n hx hb dX0_isSound_9 rfl (lv_at hl 3 rfl) ?_
      obtain ⟨o_1, r_2, hG⟩ := q_bi hG
      refine q_goi (v := o_1) (va_runV (As := [.int d]) (rest := [.int x3_4]) ⟨hx, hb, hml, hown, hts⟩ (c_X5_lengthOf l dC dI h r1 r2 dv c1 c2 fu fp d o_1 r_2) (cwV 1 hts (q_gV m_832 m_666 m_667 m_24 m_668) rfl rfl rfl hdV_yX5_lengthOf_1 ⟨Nat.le_of_ble_eq_true rfl, Nat.le_of_ble_eq_true rfl⟩) (q_preV hK hP (q := (RX5, TX5, 3)) (ci := 5) (q0 := 2) rfl rfl [2, 3, 4] rfl [1, 2] rfl) rfl rfl hl.1 rfl (lv_room (Nat.le_of_ble_eq_true rfl)) dX0_isSound_10 ⟨Nat.le_of_ble_eq_true rfl, Nat.le_of_ble_eq_true rfl⟩) hP hS (fun H locs hP hS => ?_)
      refine lv_icmp_ge (tgt := 31) hx hb dX0_isSound_13 (by decide) (fun c_3 => ?_) (fun c_3 => ?_)
      · have hG := q_ifp c_3 hG
        refine lv_iload_n hx hb dX0_isSound_31 rfl (lv_at hl 1 rfl) ?_
        refine lv_sipush (v := 255) hx hb dX0_isSound_32 (by decide) ?_
        refine lv_iand hx hb dX0_isSound_35 ?_
        refine lv_if_ne (tgt := 61) hx hb dX0_isSound_36 (by decide) (fun c_4 => ?_) (fun c_4 => ?_)
        · have hG := q_ifn c_4 hG
          refine lv_iconst (v := 0) hx hb dX0_isSound_61 (by decide) ?_
          obtain rfl := Option.some.inj hG
          exact W.zret (v := 0) hx hb hr rfl (fun t ht hW => ⟨⟨0, (), rfl, rfl, trivial⟩, hS.F ht⟩) hS.2.2 dX0_isSound_62
        · have hG := q_ifp c_4 hG
          refine lv_aload_n hx hb dX0_isSound_39 rfl (lv_at hl 2 rfl) ?_
          refine lv_iload_n hx hb dX0_isSound_40 rfl (lv_at hl 3 rfl) ?_
          refine lv_iconst (v := 0) hx hb dX0_isSound_41 (by decide) ?_
          obtain ⟨o_5, r_6, hG⟩ := q_bi hG
          refine q_goi (v := o_5) (va_runV (As := [.int d, .int 0]) (rest := []) ⟨hx, hb, hml, hown, hts⟩ (c_X0_byteOf l dC dI g r0 h r1 r2 dv c0 fr c1 c2 fu fp d 0 o_5 r_6) (cwV 2 hts (q_gV m_833 m_670 m_671 m_33 m_672) rfl rfl rfl hdV_yX0_byteOf_2 ⟨Nat.le_of_ble_eq_true rfl, Nat.le_of_ble_eq_true rfl⟩) (q_preV hK hP (q := (RX0, TX0, 2)) (ci := 0) (q0 := 0) rfl rfl [0, 1, 2, 3, 4] rfl [0, 1, 2] rfl) rfl rfl hl.1 rfl (lv_room (Nat.le_of_ble_eq_true rfl)) dX0_isSound_42 ⟨Nat.le_of_ble_eq_true rfl, Nat.le_of_ble_eq_true rfl⟩) hP hS (fun H locs hP hS => ?_)
          refine lv_bipush (v := 8) hx hb dX0_isSound_45 (by decide) ?_
          refine lv_aload_n hx hb dX0_isSound_47 rfl (lv_at hl 2 rfl) ?_
          refine lv_iload_n hx hb dX0_isSound_48 rfl (lv_at hl 3 rfl) ?_
          refine lv_iconst (v := 4) hx hb dX0_isSound_49 (by decide) ?_
          obtain ⟨o_7, r_8, hG⟩ := q_bi hG
          refine q_goi (v := o_7) (va_runV (As := [.int d, .int 4]) (rest := [.int 8, .int o_5]) ⟨hx, hb, hml, hown, hts⟩ (c_X0_byteOf l dC dI g r0 h r1 r2 dv c0 fr c1 c2 fu fp d 4 o_7 r_8) (cwV 2 hts (q_gV m_833 m_670 m_671 m_33 m_672) rfl rfl rfl hdV_yX0_byteOf_2 ⟨Nat.le_of_ble_eq_true rfl, Nat.le_of_ble_eq_true rfl⟩) (q_preV hK hP (q := (RX0, TX0, 2)) (ci := 0) (q0 := 0) rfl rfl [0, 1, 2, 3, 4] rfl [0, 1, 2] rfl) rfl rfl hl.1 rfl (lv_room (Nat.le_of_ble_eq_true rfl)) dX0_isSound_50 ⟨Nat.le_of_ble_eq_true rfl, Nat.le_of_ble_eq_true rfl⟩) hP hS (fun H locs hP hS => ?_)
          refine lv_iadd hx hb dX0_isSound_53 ?_
          refine lv_icmp_ne (tgt := 61) hx hb dX0_isSound_54 (by decide) (fun c_9 => ?_) (fun c_9 => ?_)
          · have hG := q_ifn c_9 hG
            refine lv_iconst (v := 0) hx hb dX0_isSound_61 (by decide) ?_
            obtain rfl := Option.some.inj hG
            exact W.zret (v := 0) hx hb hr rfl (fun t ht hW => ⟨⟨0, (), rfl, rfl, trivial⟩, hS.F ht⟩) hS.2.2 dX0_isSound_62
          · have hG := q_ifp c_9 hG
            refine lv_iconst (v := 1) hx hb dX0_isSound_57 (by decide) ?_
            refine lv_goto (tgt := 62) hx hb dX0_isSound_58 (by decide) ?_
            obtain rfl := Option.some.inj hG
            exact W.zret (v := 1) hx hb hr rfl (fun t ht hW => ⟨⟨1, (), rfl, rfl, trivial⟩, hS.F ht⟩) hS.2.2 dX0_isSound_62
      · have hG := q_ifn c_3 hG
        refine lv_iload_n hx hb dX0_isSound_16 rfl (lv_at hl 1 rfl) ?_
        refine lv_aload_n hx hb dX0_isSound_17 rfl (lv_at hl 2 rfl) ?_
        refine lv_iload_n hx hb dX0_isSound_18 rfl (lv_at hl 3 rfl) ?_
        refine lv_iload_n hx hb dX0_isSound_19 rfl (lv_at hl 0 rfl) ?_
        obtain ⟨o_10, r_11, hG⟩ := q_bi hG
        refine q_goi (v := o_10) (va_runV (As := [.int d, .int x3_4]) (rest := [.int x2_4]) ⟨hx, hb, hml, hown, hts⟩ (c_X0_byteOf l dC dI g r0 h r1 r2 dv c0 fr c1 c2 fu fp d x3_4 o_10 r_11) (cwV 2 hts (q_gV m_833 m_670 m_671 m_33 m_672) rfl rfl rfl hdV_yX0_byteOf_2 ⟨Nat.le_of_ble_eq_true rfl, Nat.le_of_ble_eq_true rfl⟩) (q_preV hK hP (q := (RX0, TX0, 2)) (ci := 0) (q0 := 0) rfl rfl [0, 1, 2, 3, 4] rfl [0, 1, 2] rfl) rfl rfl hl.1 rfl (lv_room (Nat.le_of_ble_eq_true rfl)) dX0_isSound_20 ⟨Nat.le_of_ble_eq_true rfl, Nat.le_of_ble_eq_true rfl⟩) hP hS (fun H locs hP hS => ?_)
        refine lv_iadd hx hb dX0_isSound_23 ?_
        refine lv_istore_n (lv' := [(2, .int (x2_4 + o_10)), (3, .int x3_4), (0, .ref g), (1, .int d)]) hx hb dX0_isSound_24 rfl hl (by decide) rfl (fun ls hl => ?_)
        refine lv_iinc (v := (x3_4 + 1)) (lv' := [(3, .int (x3_4 + 1)), (2, .int (x2_4 + o_10)), (0, .ref g), (1, .int d)]) hx hb dX0_isSound_25 hl (k := 1) rfl (rfl) (by decide) rfl (fun ls hl => ?_)
        refine lv_goto (tgt := 4) hx hb dX0_isSound_28 (by decide) ?_
        exact ih_4 (x2_4 + o_10) (x3_4 + 1) H locs ls hG hP hS (lv_sub hl [0, 1, 2, 3] rfl)
  exact L_4 1000 0 0 s.heap [] ls hG hP hS hl

def FL_X0_firstInLine_4 (fr : Nat → Int32) (dv : Int32) (fu : Nat → Int32) (fp : Nat → Int32) : Nat → Int32 → Int32 → Option (Int32)
  | 0, _, _ => none
  | n + 1, x1_4, x2_4 => (if dv ≤ x2_4 then some (x1_4) else (if (32 + x2_4) < 0 ∨ 98 ≤ ((32 + x2_4)).toNatClampNeg then none else (if (fr (32 + x2_4).toNatClampNeg) = 8 then (if (0 + x2_4) < 0 ∨ 98 ≤ ((0 + x2_4)).toNatClampNeg then none else (if (fr (0 + x2_4).toNatClampNeg) = 2 then (if x1_4 = (-1) then (FL_X0_firstInLine_4 fr dv fu fp n x2_4 (x2_4 + 1)) else (if (16 + x2_4) < 0 ∨ 98 ≤ ((16 + x2_4)).toNatClampNeg then none else (if (16 + x1_4) < 0 ∨ 98 ≤ ((16 + x1_4)).toNatClampNeg then none else (if (fr (16 + x1_4).toNatClampNeg) ≤ (fr (16 + x2_4).toNatClampNeg) then (FL_X0_firstInLine_4 fr dv fu fp n x1_4 (x2_4 + 1)) else (FL_X0_firstInLine_4 fr dv fu fp n x2_4 (x2_4 + 1)))))) else (FL_X0_firstInLine_4 fr dv fu fp n x1_4 (x2_4 + 1)))) else ((F_X0_is fr dv fu fp (fr (32 + x2_4).toNatClampNeg) 6).bind fun o_11 => (if o_11 = 0 then (if (0 + x2_4) < 0 ∨ 98 ≤ ((0 + x2_4)).toNatClampNeg then none else (if (fr (0 + x2_4).toNatClampNeg) = 2 then (FL_X0_firstInLine_4 fr dv fu fp n x1_4 (x2_4 + 1)) else (FL_X0_firstInLine_4 fr dv fu fp n x1_4 (x2_4 + 1)))) else ((F_X0_isAsleep fr dv fu fp (fr (32 + x2_4).toNatClampNeg)).bind fun o_17 => (if o_17 = 0 then (if (0 + x2_4) < 0 ∨ 98 ≤ ((0 + x2_4)).toNatClampNeg then none else (if (fr (0 + x2_4).toNatClampNeg) = 2 then (if x1_4 = (-1) then (FL_X0_firstInLine_4 fr dv fu fp n x2_4 (x2_4 + 1)) else (if (16 + x2_4) < 0 ∨ 98 ≤ ((16 + x2_4)).toNatClampNeg then none else (if (16 + x1_4) < 0 ∨ 98 ≤ ((16 + x1_4)).toNatClampNeg then none else (if (fr (16 + x1_4).toNatClampNeg) ≤ (fr (16 + x2_4).toNatClampNeg) then (FL_X0_firstInLine_4 fr dv fu fp n x1_4 (x2_4 + 1)) else (FL_X0_firstInLine_4 fr dv fu fp n x2_4 (x2_4 + 1)))))) else (FL_X0_firstInLine_4 fr dv fu fp n x1_4 (x2_4 + 1)))) else (if (0 + x2_4) < 0 ∨ 98 ≤ ((0 + x2_4)).toNatClampNeg then none else (if (fr (0 + x2_4).toNatClampNeg) = 2 then (FL_X0_firstInLine_4 fr dv fu fp n x1_4 (x2_4 + 1)) else (FL_X0_firstInLine_4 fr dv fu fp n x1_4 (x2_4 + 1)))))))))))

def F_X0_firstInLine (fr : Nat → Int32) (dv : Int32) (fu : Nat → Int32) (fp : Nat → Int32) : Option (Int32) := (FL_X0_firstInLine_4 fr dv fu fp 1000 (-1) 0)
set_option maxHeartbeats 4000000 in
set_option maxRecDepth 100000 in
theorem c_X0_firstInLine (l : Launch) (dC : Nat → ClassId) (dI : Nat → Nat → Nat) (g : Nat) (r0 : Nat) (h : Nat) (r1 : Nat) (r2 : Nat) (dv : Int32) (c0 : ClassId) (fr : Nat → Int32) (c1 : ClassId) (c2 : ClassId) (fu : Nat → Int32) (fp : Nat → Int32) (o : Int32) (hG : F_X0_firstInLine fr dv fu fp = some o) : Met l yX0_firstInLine (.code yX0_firstInLine cX0_firstInLine 5 (some .int) :: wA) ({ frames := 1, cells := 0, slots := 0, locals := 22 }) (va_Pc [.ref g] (q_R (dC, dI) [(g, .inr (0, [.ref r0, .ref h])), (r0, .inl (c0, 98, .inl fr)), (h, .inr (5, [.ref r1, .ref r2, .int dv])), (r1, .inl (c1, 8, .inl fu)), (r2, .inl (c2, 48, .inl fp))] [(c0, .int), (c1, .int), (c2, .int)])) (q_i o) 0 0 (fun _ => False) := by
  refine Met.ofW (cc := cX0_firstInLine) (maxL := 5) (ret := (some .int)) (by decide) rfl ?_
  intro p e s m args below meth c s₁ B hml hv
  obtain ⟨rfl, hP, hK⟩ := hv
  have hx := B.exec
  have hb := B.bytes
  have hr := B.returns
  have hts := atoms_spec (ws := .code yX0_firstInLine cX0_firstInLine 5 (some .int) :: wA) B.pre
  have hown : s.vm.findClass RX0 = some m.cls := findClass_of_methodNamed B.named
  have hlocks := B.notSynchronized
  have hS : va_S (fun _ => False) s.heap s.heap [] := va_S.rf
  have hl := lv_entry ([.ref g]) (n := 5) (Nat.le_of_ble_eq_true rfl)
  rw [lg_entry_eq]
  generalize (lg_sl ([.ref g]) ++ List.replicate (5 - (lg_sl ([.ref g])).length) Slot.unset).toArray = ls at hl ⊢
  have hl : lv_has ls 5 [(0, .ref g)] := hl
  unfold F_X0_firstInLine at hG
  refine lv_iconst (v := (-1)) hx hb dX0_firstInLine_0 (by decide) ?_
  refine lv_istore_n (lv' := [(1, .int (-1)), (0, .ref g)]) hx hb dX0_firstInLine_1 rfl hl (by decide) rfl (fun ls hl => ?_)
  refine lv_iconst (v := 0) hx hb dX0_firstInLine_2 (by decide) ?_
  refine lv_istore_n (lv' := [(2, .int 0), (1, .int (-1)), (0, .ref g)]) hx hb dX0_firstInLine_3 rfl hl (by decide) rfl (fun ls hl => ?_)
  have L_4 : ∀ (n_4 : Nat) (x1_4 : Int32) (x2_4 : Int32) (H : Heap) (locs : List Loc) (ls : Array Slot), FL_X0_firstInLine_4 fr dv fu fp n_4 x1_4 x2_4 = some o → va_P (dC, dI) vwCl [(g, .inr (0, [.ref r0, .ref h])), (r0, .inl (c0, 98, .inl fr)), (h, .inr (5, [.ref r1, .ref r2, .int dv])), (r1, .inl (c1, 8, .inl fu)), (r2, .inl (c2, 48, .inl fp))] H → va_S (fun _ => False) s.heap H locs → lv_has ls 5 [(2, .int x2_4), (1, .int x1_4), (0, .ref g)] → W p l e (headSpec (.code yX0_firstInLine cX0_firstInLine 5 (some .int) :: wA) ({ frames := 1, cells := 0, slots := 0, locals := 22 })).room s m #[.ref g] below meth c H locs 0 0 (MQ below (q_i o) #[.ref g] s 0 0 (fun _ => False)) (F0 m 4 ls []) := by
    intro n_4
    induction n_4 with
    | zero =>
      intro x1_4 x2_4 H locs ls hG
      exact q_no hG
    | succ n_4 ih_4 =>
      intro x1_4 x2_4 H locs ls hG hP hS hl
      unfold FL_X0_firstInLine_4 at hG
      refine lv_iload_n hx hb dX0_firstInLine_4 rfl (lv_at hl 0 rfl) ?_
      refine lv_aload_n hx hb dX0_firstInLine_5 rfl (lv_at hl 2 rfl) ?_
      refine va_get (D := (dC, dI)) (ci := 0) (v := .ref h) (C := RX0) (T := TX0) (N := 2) hx hb hts iA_0 hown hK hP 0 rfl rfl 1 (by decide) (hts (.fieldLink RX0 15 "HubTree$Bus" "plan" "LHubTree$Plan;") (List.mem_cons_of_mem _ m_89)) (fun _ h9 => h9) rfl dX0_firstInLine_6 ?_
      refine va_get (D := (dC, dI)) (ci := 5) (v := .int dv) (C := RX5) (T := TX5) (N := 3) hx hb hts iA_5 hown hK hP 2 rfl rfl 2 (by decide) (hts (.fieldLink RX0 25 "HubTree$Plan" "devices" "I") (List.mem_cons_of_mem _ m_399)) (fun _ h9 => h9) rfl dX0_firstInLine_9 ?_
      refine lv_icmp_ge (tgt := 107) hx hb dX0_firstInLine_12 (by decide) (fun c_1 => ?_) (fun c_1 => ?_)
      · have hG := q_ifp c_1 hG
        refine lv_iload_n hx hb dX0_firstInLine_107 rfl (lv_at hl 1 rfl) ?_
        obtain rfl := Option.some.inj hG
        exact W.iret (v := x1_4) hx hb hr (fun t ht hW => ⟨⟨x1_4, (), rfl, rfl, trivial⟩, hS.F ht⟩) hS.2.2 dX0_firstInLine_108
      · have hG := q_ifn c_1 hG
        refine lv_aload_n hx hb dX0_firstInLine_15 rfl (lv_at hl 2 rfl) ?_
        refine va_get (D := (dC, dI)) (ci := 0) (v := .ref r0) (C := RX0) (T := TX0) (N := 2) hx hb hts iA_0 hown hK hP 0 rfl rfl 0 (by decide) (hts (.fieldLink RX0 11 "HubTree$Bus" "row" "[I") (List.mem_cons_of_mem _ m_88)) (fun _ h9 => h9) rfl dX0_firstInLine_16 ?_
        refine lv_bipush (v := 32) hx hb dX0_firstInLine_19 (by decide) ?_
        refine lv_iload_n hx hb dX0_firstInLine_21 rfl (lv_at hl 0 rfl) ?_
        refine lv_iadd hx hb dX0_firstInLine_22 ?_
        obtain ⟨h_2, hG⟩ := q_ix hG
        refine va_iald hx hb hK hP 1 0 rfl rfl (i := (32 + x2_4)) h_2 dX0_firstInLine_23 ?_
        refine q_top (y := (fr (32 + x2_4).toNatClampNeg)) rfl ?_
        refine lv_istore_n (lv' := [(3, .int (fr (32 + x2_4).toNatClampNeg)), (2, .int x2_4), (1, .int x1_4), (0, .ref g)]) hx hb dX0_firstInLine_24 rfl hl (by decide) rfl (fun ls hl => ?_)
        refine lv_iload_n hx hb dX0_firstInLine_25 rfl (lv_at hl 0 rfl) ?_
        refine lv_bipush (v := 8) hx hb dX0_firstInLine_26 (by decide) ?_
        refine lv_icmp_eq (tgt := 49) hx hb dX0_firstInLine_28 (by decide) (fun c_3 => ?_) (fun c_3 => ?_)
        · have hG := q_ifp c_3 hG
          refine lv_iconst (v := 1) hx hb dX0_firstInLine_49 (by decide) ?_
          refine lv_goto (tgt := 54) hx hb dX0_firstInLine_50 (by decide) ?_
          refine lv_istore (lv' := [(4, .int 1), (3, .int (fr (32 + x2_4).toNatClampNeg)), (2, .int x2_4), (1, .int x1_4), (0, .ref g)]) hx hb dX0_firstInLine_54 hl (by decide) rfl (fun ls hl => ?_)
          refine lv_aload_n hx hb dX0_firstInLine_56 rfl (lv_at hl 4 rfl) ?_
          refine va_get (D := (dC, dI)) (ci := 0) (v := .ref r0) (C := RX0) (T := TX0) (N := 2) hx hb hts iA_0 hown hK hP 0 rfl rfl 0 (by decide) (hts (.fieldLink RX0 11 "HubTree$Bus" "row" "[I") (List.mem_cons_of_mem _ m_88)) (fun _ h9 => h9) rfl dX0_firstInLine_57 ?_
          refine lv_iconst (v := 0) hx hb dX0_firstInLine_60 (by decide) ?_
          refine lv_iload_n hx hb dX0_firstInLine_61 rfl (lv_at hl 2 rfl) ?_
          refine lv_iadd hx hb dX0_firstInLine_62 ?_
          obtain ⟨h_4, hG⟩ := q_ix hG
          refine va_iald hx hb hK hP 1 0 rfl rfl (i := (0 + x2_4)) h_4 dX0_firstInLine_63 ?_
          refine q_top (y := (fr (0 + x2_4).toNatClampNeg)) rfl ?_
          refine lv_iconst (v := 2) hx hb dX0_firstInLine_64 (by decide) ?_
          refine lv_icmp_ne (tgt := 101) hx hb dX0_firstInLine_65 (by decide) (fun c_5 => ?_) (fun c_5 => ?_)
          · have hG := q_ifn c_5 hG
            refine lv_iinc (v := (x2_4 + 1)) (lv' := [(2, .int (x2_4 + 1)), (4, .int 1), (3, .int (fr (32 + x2_4).toNatClampNeg)), (1, .int x1_4), (0, .ref g)]) hx hb dX0_firstInLine_101 hl (k := 2) rfl (rfl) (by decide) rfl (fun ls hl => ?_)
            refine lv_goto (tgt := 4) hx hb dX0_firstInLine_104 (by decide) ?_
            exact ih_4 x1_4 (x2_4 + 1) H locs ls hG hP hS (lv_sub hl [0, 3, 4] rfl)
          · have hG := q_ifp c_5 hG
            refine lv_iload hx hb dX0_firstInLine_68 (lv_at hl 0 rfl) ?_
            refine lv_if_eq (tgt := 101) hx hb dX0_firstInLine_70 (by decide) (fun c_6 => ?_) (fun c_6 => ?_)
            · exact absurd c_6 (by decide)
            refine lv_iload_n hx hb dX0_firstInLine_73 rfl (lv_at hl 3 rfl) ?_
            refine lv_iconst (v := (-1)) hx hb dX0_firstInLine_74 (by decide) ?_
            refine lv_icmp_eq (tgt := 99) hx hb dX0_firstInLine_75 (by decide) (fun c_7 => ?_) (fun c_7 => ?_)
            · have hG := q_ifp c_7 hG
              refine lv_iload_n hx hb dX0_firstInLine_99 rfl (lv_at hl 2 rfl) ?_
              refine lv_istore_n (lv' := [(1, .int x2_4), (4, .int 1), (3, .int (fr (32 + x2_4).toNatClampNeg)), (2, .int x2_4), (0, .ref g)]) hx hb dX0_firstInLine_100 rfl hl (by decide) rfl (fun ls hl => ?_)
              refine lv_iinc (v := (x2_4 + 1)) (lv' := [(2, .int (x2_4 + 1)), (1, .int x2_4), (4, .int 1), (3, .int (fr (32 + x2_4).toNatClampNeg)), (0, .ref g)]) hx hb dX0_firstInLine_101 hl (k := 3) rfl (rfl) (by decide) rfl (fun ls hl => ?_)
              refine lv_goto (tgt := 4) hx hb dX0_firstInLine_104 (by decide) ?_
              exact ih_4 x2_4 (x2_4 + 1) H locs ls hG hP hS (lv_sub hl [0, 1, 4] rfl)
            · have hG := q_ifn c_7 hG
              refine lv_aload_n hx hb dX0_firstInLine_78 rfl (lv_at hl 4 rfl) ?_
              refine va_get (D := (dC, dI)) (ci := 0) (v := .ref r0) (C := RX0) (T := TX0) (N := 2) hx hb hts iA_0 hown hK hP 0 rfl rfl 0 (by decide) (hts (.fieldLink RX0 11 "HubTree$Bus" "row" "[I") (List.mem_cons_of_mem _ m_88)) (fun _ h9 => h9) rfl dX0_firstInLine_79 ?_
              refine lv_bipush (v := 16) hx hb dX0_firstInLine_82 (by decide) ?_
              refine lv_iload_n hx hb dX0_firstInLine_84 rfl (lv_at hl 2 rfl) ?_
              refine lv_iadd hx hb dX0_firstInLine_85 ?_
              obtain ⟨h_8, hG⟩ := q_ix hG
              refine va_iald hx hb hK hP 1 0 rfl rfl (i := (16 + x2_4)) h_8 dX0_firstInLine_86 ?_
              refine q_top (y := (fr (16 + x2_4).toNatClampNeg)) rfl ?_
              refine lv_aload_n hx hb dX0_firstInLine_87 rfl (lv_at hl 4 rfl) ?_
              refine va_get (D := (dC, dI)) (ci := 0) (v := .ref r0) (C := RX0) (T := TX0) (N := 2) hx hb hts iA_0 hown hK hP 0 rfl rfl 0 (by decide) (hts (.fieldLink RX0 11 "HubTree$Bus" "row" "[I") (List.mem_cons_of_mem _ m_88)) (fun _ h9 => h9) rfl dX0_firstInLine_88 ?_
              refine lv_bipush (v := 16) hx hb dX0_firstInLine_91 (by decide) ?_
              refine lv_iload_n hx hb dX0_firstInLine_93 rfl (lv_at hl 3 rfl) ?_
              refine lv_iadd hx hb dX0_firstInLine_94 ?_
              obtain ⟨h_9, hG⟩ := q_ix hG
              refine va_iald hx hb hK hP 1 0 rfl rfl (i := (16 + x1_4)) h_9 dX0_firstInLine_95 ?_
              refine q_top (y := (fr (16 + x1_4).toNatClampNeg)) rfl ?_
              refine lv_icmp_ge (tgt := 101) hx hb dX0_firstInLine_96 (by decide) (fun c_10 => ?_) (fun c_10 => ?_)
              · have hG := q_ifp c_10 hG
                refine lv_iinc (v := (x2_4 + 1)) (lv' := [(2, .int (x2_4 + 1)), (4, .int 1), (3, .int (fr (32 + x2_4).toNatClampNeg)), (1, .int x1_4), (0, .ref g)]) hx hb dX0_firstInLine_101 hl (k := 2) rfl (rfl) (by decide) rfl (fun ls hl => ?_)
                refine lv_goto (tgt := 4) hx hb dX0_firstInLine_104 (by decide) ?_
                exact ih_4 x1_4 (x2_4 + 1) H locs ls hG hP hS (lv_sub hl [0, 3, 4] rfl)
              · have hG := q_ifn c_10 hG
                refine lv_iload_n hx hb dX0_firstInLine_99 rfl (lv_at hl 2 rfl) ?_
                refine lv_istore_n (lv' := [(1, .int x2_4), (4, .int 1), (3, .int (fr (32 + x2_4).toNatClampNeg)), (2, .int x2_4), (0, .ref g)]) hx hb dX0_firstInLine_100 rfl hl (by decide) rfl (fun ls hl => ?_)
                refine lv_iinc (v := (x2_4 + 1)) (lv' := [(2, .int (x2_4 + 1)), (1, .int x2_4), (4, .int 1), (3, .int (fr (32 + x2_4).toNatClampNeg)), (0, .ref g)]) hx hb dX0_firstInLine_101 hl (k := 3) rfl (rfl) (by decide) rfl (fun ls hl => ?_)
                refine lv_goto (tgt := 4) hx hb dX0_firstInLine_104 (by decide) ?_
                exact ih_4 x2_4 (x2_4 + 1) H locs ls hG hP hS (lv_sub hl [0, 1, 4] rfl)
        · have hG := q_ifn c_3 hG
          refine lv_aload_n hx hb dX0_firstInLine_31 rfl (lv_at hl 3 rfl) ?_
          refine lv_iload_n hx hb dX0_firstInLine_32 rfl (lv_at hl 0 rfl) ?_
          refine lv_bipush (v := 6) hx hb dX0_firstInLine_33 (by decide) ?_
          obtain ⟨o_11, r_12, hG⟩ := q_bi hG
          refine q_goi (v := o_11) (va_runV (As := [.int (fr (32 + x2_4).toNatClampNeg), .int 6]) (rest := []) ⟨hx, hb, hml, hown, hts⟩ (c_X0_is l dC dI g r0 h r1 r2 dv c0 fr c1 c2 fu fp (fr (32 + x2_4).toNatClampNeg) 6 o_11 r_12) (cwV 2 hts (q_gV m_743 m_583 m_584 m_33 m_585) rfl rfl rfl hdV_yX0_is_2 ⟨Nat.le_of_ble_eq_true rfl, Nat.le_of_ble_eq_true rfl⟩) (q_preV hK hP (q := (RX0, TX0, 2)) (ci := 0) (q0 := 0) rfl rfl [0, 1, 2, 3, 4] rfl [0, 1, 2] rfl) rfl rfl hl.1 rfl (lv_room (Nat.le_of_ble_eq_true rfl)) dX0_firstInLine_35 ⟨Nat.le_of_ble_eq_true rfl, Nat.le_of_ble_eq_true rfl⟩) hP hS (fun H locs hP hS => ?_)
          refine lv_if_eq (tgt := 53) hx hb dX0_firstInLine_38 (by decide) (fun c_13 => ?_) (fun c_13 => ?_)
          · have hG := q_ifp c_13 hG
            refine lv_iconst (v := 0) hx hb dX0_firstInLine_53 (by decide) ?_
            refine lv_istore (lv' := [(4, .int 0), (3, .int (fr (32 + x2_4).toNatClampNeg)), (2, .int x2_4), (1, .int x1_4), (0, .ref g)]) hx hb dX0_firstInLine_54 hl (by decide) rfl (fun ls hl => ?_)
            refine lv_aload_n hx hb dX0_firstInLine_56 rfl (lv_at hl 4 rfl) ?_
            refine va_get (D := (dC, dI)) (ci := 0) (v := .ref r0) (C := RX0) (T := TX0) (N := 2) hx hb hts iA_0 hown hK hP 0 rfl rfl 0 (by decide) (hts (.fieldLink RX0 11 "HubTree$Bus" "row" "[I") (List.mem_cons_of_mem _ m_88)) (fun _ h9 => h9) rfl dX0_firstInLine_57 ?_
            refine lv_iconst (v := 0) hx hb dX0_firstInLine_60 (by decide) ?_
            refine lv_iload_n hx hb dX0_firstInLine_61 rfl (lv_at hl 2 rfl) ?_
            refine lv_iadd hx hb dX0_firstInLine_62 ?_
            obtain ⟨h_14, hG⟩ := q_ix hG
            refine va_iald hx hb hK hP 1 0 rfl rfl (i := (0 + x2_4)) h_14 dX0_firstInLine_63 ?_
            refine q_top (y := (fr (0 + x2_4).toNatClampNeg)) rfl ?_
            refine lv_iconst (v := 2) hx hb dX0_firstInLine_64 (by decide) ?_
            refine lv_icmp_ne (tgt := 101) hx hb dX0_firstInLine_65 (by decide) (fun c_15 => ?_) (fun c_15 => ?_)
            · have hG := q_ifn c_15 hG
              refine lv_iinc (v := (x2_4 + 1)) (lv' := [(2, .int (x2_4 + 1)), (4, .int 0), (3, .int (fr (32 + x2_4).toNatClampNeg)), (1, .int x1_4), (0, .ref g)]) hx hb dX0_firstInLine_101 hl (k := 2) rfl (rfl) (by decide) rfl (fun ls hl => ?_)
              refine lv_goto (tgt := 4) hx hb dX0_firstInLine_104 (by decide) ?_
              exact ih_4 x1_4 (x2_4 + 1) H locs ls hG hP hS (lv_sub hl [0, 3, 4] rfl)
            · have hG := q_ifp c_15 hG
              refine lv_iload hx hb dX0_firstInLine_68 (lv_at hl 0 rfl) ?_
              refine lv_if_eq (tgt := 101) hx hb dX0_firstInLine_70 (by decide) (fun c_16 => ?_) (fun c_16 => ?_)
              rotate_left
              · exact absurd (by decide) c_16
              refine lv_iinc (v := (x2_4 + 1)) (lv' := [(2, .int (x2_4 + 1)), (4, .int 0), (3, .int (fr (32 + x2_4).toNatClampNeg)), (1, .int x1_4), (0, .ref g)]) hx hb dX0_firstInLine_101 hl (k := 2) rfl (rfl) (by decide) rfl (fun ls hl => ?_)
              refine lv_goto (tgt := 4) hx hb dX0_firstInLine_104 (by decide) ?_
              exact ih_4 x1_4 (x2_4 + 1) H locs ls hG hP hS (lv_sub hl [0, 3, 4] rfl)
          · have hG := q_ifn c_13 hG
            refine lv_aload_n hx hb dX0_firstInLine_41 rfl (lv_at hl 3 rfl) ?_
            refine lv_iload_n hx hb dX0_firstInLine_42 rfl (lv_at hl 0 rfl) ?_
            obtain ⟨o_17, r_18, hG⟩ := q_bi hG
            refine q_goi (v := o_17) (va_runV (As := [.int (fr (32 + x2_4).toNatClampNeg)]) (rest := []) ⟨hx, hb, hml, hown, hts⟩ (c_X0_isAsleep l dC dI g r0 h r1 r2 dv c0 fr c1 c2 fu fp (fr (32 + x2_4).toNatClampNeg) o_17 r_18) (cwV 1 hts (q_gV m_752 m_753 m_754 m_33 m_755) rfl rfl rfl hdV_yX0_isAsleep_1 ⟨Nat.le_of_ble_eq_true rfl, Nat.le_of_ble_eq_true rfl⟩) (q_preV hK hP (q := (RX0, TX0, 2)) (ci := 0) (q0 := 0) rfl rfl [0, 1, 2, 3, 4] rfl [0, 1, 2] rfl) rfl rfl hl.1 rfl (lv_room (Nat.le_of_ble_eq_true rfl)) dX0_firstInLine_43 ⟨Nat.le_of_ble_eq_true rfl, Nat.le_of_ble_eq_true rfl⟩) hP hS (fun H locs hP hS => ?_)
            refine lv_if_ne (tgt := 53) hx hb dX0_firstInLine_46 (by decide) (fun c_19 => ?_) (fun c_19 => ?_)
            · have hG := q_ifn c_19 hG
              refine lv_iconst (v := 0) hx hb dX0_firstInLine_53 (by decide) ?_
              refine lv_istore (lv' := [(4, .int 0), (3, .int (fr (32 + x2_4).toNatClampNeg)), (2, .int x2_4), (1, .int x1_4), (0, .ref g)]) hx hb dX0_firstInLine_54 hl (by decide) rfl (fun ls hl => ?_)
              refine lv_aload_n hx hb dX0_firstInLine_56 rfl (lv_at hl 4 rfl) ?_
              refine va_get (D := (dC, dI)) (ci := 0) (v := .ref r0) (C := RX0) (T := TX0) (N := 2) hx hb hts iA_0 hown hK hP 0 rfl rfl 0 (by decide) (hts (.fieldLink RX0 11 "HubTree$Bus" "row" "[I") (List.mem_cons_of_mem _ m_88)) (fun _ h9 => h9) rfl dX0_firstInLine_57 ?_
              refine lv_iconst (v := 0) hx hb dX0_firstInLine_60 (by decide) ?_
              refine lv_iload_n hx hb dX0_firstInLine_61 rfl (lv_at hl 2 rfl) ?_
              refine lv_iadd hx hb dX0_firstInLine_62 ?_
              obtain ⟨h_20, hG⟩ := q_ix hG
              refine va_iald hx hb hK hP 1 0 rfl rfl (i := (0 + x2_4)) h_20 dX0_firstInLine_63 ?_
              refine q_top (y := (fr (0 + x2_4).toNatClampNeg)) rfl ?_
              refine lv_iconst (v := 2) hx hb dX0_firstInLine_64 (by decide) ?_
              refine lv_icmp_ne (tgt := 101) hx hb dX0_firstInLine_65 (by decide) (fun c_21 => ?_) (fun c_21 => ?_)
              · have hG := q_ifn c_21 hG
                refine lv_iinc (v := (x2_4 + 1)) (lv' := [(2, .int (x2_4 + 1)), (4, .int 0), (3, .int (fr (32 + x2_4).toNatClampNeg)), (1, .int x1_4), (0, .ref g)]) hx hb dX0_firstInLine_101 hl (k := 2) rfl (rfl) (by decide) rfl (fun ls hl => ?_)
                refine lv_goto (tgt := 4) hx hb dX0_firstInLine_104 (by decide) ?_
                exact ih_4 x1_4 (x2_4 + 1) H locs ls hG hP hS (lv_sub hl [0, 3, 4] rfl)
              · have hG := q_ifp c_21 hG
                refine lv_iload hx hb dX0_firstInLine_68 (lv_at hl 0 rfl) ?_
                refine lv_if_eq (tgt := 101) hx hb dX0_firstInLine_70 (by decide) (fun c_22 => ?_) (fun c_22 => ?_)
                rotate_left
                · exact absurd (by decide) c_22
                refine lv_iinc (v := (x2_4 + 1)) (lv' := [(2, .int (x2_4 + 1)), (4, .int 0), (3, .int (fr (32 + x2_4).toNatClampNeg)), (1, .int x1_4), (0, .ref g)]) hx hb dX0_firstInLine_101 hl (k := 2) rfl (rfl) (by decide) rfl (fun ls hl => ?_)
                refine lv_goto (tgt := 4) hx hb dX0_firstInLine_104 (by decide) ?_
                exact ih_4 x1_4 (x2_4 + 1) H locs ls hG hP hS (lv_sub hl [0, 3, 4] rfl)
            · have hG := q_ifp c_19 hG
              refine lv_iconst (v := 1) hx hb dX0_firstInLine_49 (by decide) ?_
              refine lv_goto (tgt := 54) hx hb dX0_firstInLine_50 (by decide) ?_
              refine lv_istore (lv' := [(4, .int 1), (3, .int (fr (32 + x2_4).toNatClampNeg)), (2, .int x2_4), (1, .int x1_4), (0, .ref g)]) hx hb dX0_firstInLine_54 hl (by decide) rfl (fun ls hl => ?_)
              refine lv_aload_n hx hb dX0_firstInLine_56 rfl (lv_at hl 4 rfl) ?_
              refine va_get (D := (dC, dI)) (ci := 0) (v := .ref r0) (C := RX0) (T := TX0) (N := 2) hx hb hts iA_0 hown hK hP 0 rfl rfl 0 (by decide) (hts (.fieldLink RX0 11 "HubTree$Bus" "row" "[I") (List.mem_cons_of_mem _ m_88)) (fun _ h9 => h9) rfl dX0_firstInLine_57 ?_
              refine lv_iconst (v := 0) hx hb dX0_firstInLine_60 (by decide) ?_
              refine lv_iload_n hx hb dX0_firstInLine_61 rfl (lv_at hl 2 rfl) ?_
              refine lv_iadd hx hb dX0_firstInLine_62 ?_
              obtain ⟨h_23, hG⟩ := q_ix hG
              refine va_iald hx hb hK hP 1 0 rfl rfl (i := (0 + x2_4)) h_23 dX0_firstInLine_63 ?_
              refine q_top (y := (fr (0 + x2_4).toNatClampNeg)) rfl ?_
              refine lv_iconst (v := 2) hx hb dX0_firstInLine_64 (by decide) ?_
              refine lv_icmp_ne (tgt := 101) hx hb dX0_firstInLine_65 (by decide) (fun c_24 => ?_) (fun c_24 => ?_)
              · have hG := q_ifn c_24 hG
                refine lv_iinc (v := (x2_4 + 1)) (lv' := [(2, .int (x2_4 + 1)), (4, .int 1), (3, .int (fr (32 + x2_4).toNatClampNeg)), (1, .int x1_4), (0, .ref g)]) hx hb dX0_firstInLine_101 hl (k := 2) rfl (rfl) (by decide) rfl (fun ls hl => ?_)
                refine lv_goto (tgt := 4) hx hb dX0_firstInLine_104 (by decide) ?_
                exact ih_4 x1_4 (x2_4 + 1) H locs ls hG hP hS (lv_sub hl [0, 3, 4] rfl)
              · have hG := q_ifp c_24 hG
                refine lv_iload hx hb dX0_firstInLine_68 (lv_at hl 0 rfl) ?_
                refine lv_if_eq (tgt := 101) hx hb dX0_firstInLine_70 (by decide) (fun c_25 => ?_) (fun c_25 => ?_)
                · exact absurd c_25 (by decide)
                refine lv_iload_n hx hb dX0_firstInLine_73 rfl (lv_at hl 3 rfl) ?_
                refine lv_iconst (v := (-1)) hx hb dX0_firstInLine_74 (by decide) ?_
                refine lv_icmp_eq (tgt := 99) hx hb dX0_firstInLine_75 (by decide) (fun c_26 => ?_) (fun c_26 => ?_)
                · have hG := q_ifp c_26 hG
                  refine lv_iload_n hx hb dX0_firstInLine_99 rfl (lv_at hl 2 rfl) ?_
                  refine lv_istore_n (lv' := [(1, .int x2_4), (4, .int 1), (3, .int (fr (32 + x2_4).toNatClampNeg)), (2, .int x2_4), (0, .ref g)]) hx hb dX0_firstInLine_100 rfl hl (by decide) rfl (fun ls hl => ?_)
                  refine lv_iinc (v := (x2_4 + 1)) (lv' := [(2, .int (x2_4 + 1)), (1, .int x2_4), (4, .int 1), (3, .int (fr (32 + x2_4).toNatClampNeg)), (0, .ref g)]) hx hb dX0_firstInLine_101 hl (k := 3) rfl (rfl) (by decide) rfl (fun ls hl => ?_)
                  refine lv_goto (tgt := 4) hx hb dX0_firstInLine_104 (by decide) ?_
                  exact ih_4 x2_4 (x2_4 + 1) H locs ls hG hP hS (lv_sub hl [0, 1, 4] rfl)
                · have hG := q_ifn c_26 hG
                  refine lv_aload_n hx hb dX0_firstInLine_78 rfl (lv_at hl 4 rfl) ?_
                  refine va_get (D := (dC, dI)) (ci := 0) (v := .ref r0) (C := RX0) (T := TX0) (N := 2) hx hb hts iA_0 hown hK hP 0 rfl rfl 0 (by decide) (hts (.fieldLink RX0 11 "HubTree$Bus" "row" "[I") (List.mem_cons_of_mem _ m_88)) (fun _ h9 => h9) rfl dX0_firstInLine_79 ?_
                  refine lv_bipush (v := 16) hx hb dX0_firstInLine_82 (by decide) ?_
                  refine lv_iload_n hx hb dX0_firstInLine_84 rfl (lv_at hl 2 rfl) ?_
                  refine lv_iadd hx hb dX0_firstInLine_85 ?_
                  obtain ⟨h_27, hG⟩ := q_ix hG
                  refine va_iald hx hb hK hP 1 0 rfl rfl (i := (16 + x2_4)) h_27 dX0_firstInLine_86 ?_
                  refine q_top (y := (fr (16 + x2_4).toNatClampNeg)) rfl ?_
                  refine lv_aload_n hx hb dX0_firstInLine_87 rfl (lv_at hl 4 rfl) ?_
                  refine va_get (D := (dC, dI)) (ci := 0) (v := .ref r0) (C := RX0) (T := TX0) (N := 2) hx hb hts iA_0 hown hK hP 0 rfl rfl 0 (by decide) (hts (.fieldLink RX0 11 "HubTree$Bus" "row" "[I") (List.mem_cons_of_mem _ m_88)) (fun _ h9 => h9) rfl dX0_firstInLine_88 ?_
                  refine lv_bipush (v := 16) hx hb dX0_firstInLine_91 (by decide) ?_
                  refine lv_iload_n hx hb dX0_firstInLine_93 rfl (lv_at hl 3 rfl) ?_
                  refine lv_iadd hx hb dX0_firstInLine_94 ?_
                  obtain ⟨h_28, hG⟩ := q_ix hG
                  refine va_iald hx hb hK hP 1 0 rfl rfl (i := (16 + x1_4)) h_28 dX0_firstInLine_95 ?_
                  refine q_top (y := (fr (16 + x1_4).toNatClampNeg)) rfl ?_
                  refine lv_icmp_ge (tgt := 101) hx hb dX0_firstInLine_96 (by decide) (fun c_29 => ?_) (fun c_29 => ?_)
                  · have hG := q_ifp c_29 hG
                    refine lv_iinc (v := (x2_4 + 1)) (lv' := [(2, .int (x2_4 + 1)), (4, .int 1), (3, .int (fr (32 + x2_4).toNatClampNeg)), (1, .int x1_4), (0, .ref g)]) hx hb dX0_firstInLine_101 hl (k := 2) rfl (rfl) (by decide) rfl (fun ls hl => ?_)
                    refine lv_goto (tgt := 4) hx hb dX0_firstInLine_104 (by decide) ?_
                    exact ih_4 x1_4 (x2_4 + 1) H locs ls hG hP hS (lv_sub hl [0, 3, 4] rfl)
                  · have hG := q_ifn c_29 hG
                    refine lv_iload_n hx hb dX0_firstInLine_99 rfl (lv_at hl 2 rfl) ?_
                    refine lv_istore_n (lv' := [(1, .int x2_4), (4, .int 1), (3, .int (fr (32 + x2_4).toNatClampNeg)), (2, .int x2_4), (0, .ref g)]) hx hb dX0_firstInLine_100 rfl hl (by decide) rfl (fun ls hl => ?_)
                    refine lv_iinc (v := (x2_4 + 1)) (lv' := [(2, .int (x2_4 + 1)), (1, .int x2_4), (4, .int 1), (3, .int (fr (32 + x2_4).toNatClampNeg)), (0, .ref g)]) hx hb dX0_firstInLine_101 hl (k := 3) rfl (rfl) (by decide) rfl (fun ls hl => ?_)
                    refine lv_goto (tgt := 4) hx hb dX0_firstInLine_104 (by decide) ?_
                    exact ih_4 x2_4 (x2_4 + 1) H locs ls hG hP hS (lv_sub hl [0, 1, 4] rfl)
  exact L_4 1000 (-1) 0 s.heap [] ls hG hP hS hl

def F_X0_isStill (fr : Nat → Int32) (dv : Int32) (fu : Nat → Int32) (fp : Nat → Int32) : Option (Int32) := ((F_X0_allThatAre fr dv fu fp 1).bind fun o_1 => (if o_1 = 0 then ((F_X0_standing fr dv fu fp).bind fun o_4 => (if o_4 = (-1) then ((F_X0_firstInLine fr dv fu fp).bind fun o_7 => (if o_7 = (-1) then some (1) else some (0))) else some (0))) else some (0)))
set_option maxHeartbeats 4000000 in
set_option maxRecDepth 100000 in
theorem c_X0_isStill (l : Launch) (dC : Nat → ClassId) (dI : Nat → Nat → Nat) (g : Nat) (r0 : Nat) (h : Nat) (r1 : Nat) (r2 : Nat) (dv : Int32) (c0 : ClassId) (fr : Nat → Int32) (c1 : ClassId) (c2 : ClassId) (fu : Nat → Int32) (fp : Nat → Int32) (o : Int32) (hG : F_X0_isStill fr dv fu fp = some o) : Met l yX0_isStill (.code yX0_isStill cX0_isStill 1 (some .boolean) :: wA) ({ frames := 2, cells := 0, slots := 0, locals := 46 }) (va_Pc [.ref g] (q_R (dC, dI) [(g, .inr (0, [.ref r0, .ref h])), (r0, .inl (c0, 98, .inl fr)), (h, .inr (5, [.ref r1, .ref r2, .int dv])), (r1, .inl (c1, 8, .inl fu)), (r2, .inl (c2, 48, .inl fp))] [(c0, .int), (c1, .int), (c2, .int)])) (q_i o) 0 0 (fun _ => False) := by
  refine Met.ofW (cc := cX0_isStill) (maxL := 1) (ret := (some .boolean)) (by decide) rfl ?_
  intro p e s m args below meth c s₁ B hml hv
  obtain ⟨rfl, hP, hK⟩ := hv
  have hx := B.exec
  have hb := B.bytes
  have hr := B.returns
  have hts := atoms_spec (ws := .code yX0_isStill cX0_isStill 1 (some .boolean) :: wA) B.pre
  have hown : s.vm.findClass RX0 = some m.cls := findClass_of_methodNamed B.named
  have hlocks := B.notSynchronized
  have hS : va_S (fun _ => False) s.heap s.heap [] := va_S.rf
  have hl := lv_entry ([.ref g]) (n := 1) (Nat.le_of_ble_eq_true rfl)
  rw [lg_entry_eq]
  generalize (lg_sl ([.ref g]) ++ List.replicate (1 - (lg_sl ([.ref g])).length) Slot.unset).toArray = ls at hl ⊢
  have hl : lv_has ls 1 [(0, .ref g)] := hl
  unfold F_X0_isStill at hG
  refine lv_aload_n hx hb dX0_isStill_0 rfl (lv_at hl 0 rfl) ?_
  refine lv_iconst (v := 1) hx hb dX0_isStill_1 (by decide) ?_
  obtain ⟨o_1, r_2, hG⟩ := q_bi hG
  refine q_goi (v := o_1) (va_runV (As := [.int 1]) (rest := []) ⟨hx, hb, hml, hown, hts⟩ (c_X0_allThatAre l dC dI g r0 h r1 r2 dv c0 fr c1 c2 fu fp 1 o_1 r_2) (cwV 1 hts (q_gV m_880 m_881 m_882 m_33 m_883) rfl rfl rfl hdV_yX0_allThatAre_1 ⟨Nat.le_of_ble_eq_true rfl, Nat.le_of_ble_eq_true rfl⟩) (q_preV hK hP (q := (RX0, TX0, 2)) (ci := 0) (q0 := 0) rfl rfl [0, 1, 2, 3, 4] rfl [0, 1, 2] rfl) rfl rfl hl.1 rfl (lv_room (Nat.le_of_ble_eq_true rfl)) dX0_isStill_2 ⟨Nat.le_of_ble_eq_true rfl, Nat.le_of_ble_eq_true rfl⟩) hP hS (fun H locs hP hS => ?_)
  refine lv_if_ne (tgt := 28) hx hb dX0_isStill_5 (by decide) (fun c_3 => ?_) (fun c_3 => ?_)
  · have hG := q_ifn c_3 hG
    refine lv_iconst (v := 0) hx hb dX0_isStill_28 (by decide) ?_
    obtain rfl := Option.some.inj hG
    exact W.zret (v := 0) hx hb hr rfl (fun t ht hW => ⟨⟨0, (), rfl, rfl, trivial⟩, hS.F ht⟩) hS.2.2 dX0_isStill_29
  · have hG := q_ifp c_3 hG
    refine lv_aload_n hx hb dX0_isStill_8 rfl (lv_at hl 0 rfl) ?_
    obtain ⟨o_4, r_5, hG⟩ := q_bi hG
    refine q_goi (v := o_4) (va_runV (As := []) (rest := []) ⟨hx, hb, hml, hown, hts⟩ (c_X0_standing l dC dI g r0 h r1 r2 dv c0 fr c1 c2 fu fp o_4 r_5) (cwV 0 hts (q_gV m_820 m_821 m_822 m_33 m_823) rfl rfl rfl hdV_yX0_standing_0 ⟨Nat.le_of_ble_eq_true rfl, Nat.le_of_ble_eq_true rfl⟩) (q_preV hK hP (q := (RX0, TX0, 2)) (ci := 0) (q0 := 0) rfl rfl [0, 1, 2, 3, 4] rfl [0, 1, 2] rfl) rfl rfl hl.1 rfl (lv_room (Nat.le_of_ble_eq_true rfl)) dX0_isStill_9 ⟨Nat.le_of_ble_eq_true rfl, Nat.le_of_ble_eq_true rfl⟩) hP hS (fun H locs hP hS => ?_)
    refine lv_iconst (v := (-1)) hx hb dX0_isStill_12 (by decide) ?_
    refine lv_icmp_ne (tgt := 28) hx hb dX0_isStill_13 (by decide) (fun c_6 => ?_) (fun c_6 => ?_)
    · have hG := q_ifn c_6 hG
      refine lv_iconst (v := 0) hx hb dX0_isStill_28 (by decide) ?_
      obtain rfl := Option.some.inj hG
      exact W.zret (v := 0) hx hb hr rfl (fun t ht hW => ⟨⟨0, (), rfl, rfl, trivial⟩, hS.F ht⟩) hS.2.2 dX0_isStill_29
    · have hG := q_ifp c_6 hG
      refine lv_aload_n hx hb dX0_isStill_16 rfl (lv_at hl 0 rfl) ?_
      obtain ⟨o_7, r_8, hG⟩ := q_bi hG
      refine q_goi (v := o_7) (va_runV (As := []) (rest := []) ⟨hx, hb, hml, hown, hts⟩ (c_X0_firstInLine l dC dI g r0 h r1 r2 dv c0 fr c1 c2 fu fp o_7 r_8) (cwV 0 hts (q_gV m_856 m_857 m_858 m_33 m_859) rfl rfl rfl hdV_yX0_firstInLine_0 ⟨Nat.le_of_ble_eq_true rfl, Nat.le_of_ble_eq_true rfl⟩) (q_preV hK hP (q := (RX0, TX0, 2)) (ci := 0) (q0 := 0) rfl rfl [0, 1, 2, 3, 4] rfl [0, 1, 2] rfl) rfl rfl hl.1 rfl (lv_room (Nat.le_of_ble_eq_true rfl)) dX0_isStill_17 ⟨Nat.le_of_ble_eq_true rfl, Nat.le_of_ble_eq_true rfl⟩) hP hS (fun H locs hP hS => ?_)
      refine lv_iconst (v := (-1)) hx hb dX0_isStill_20 (by decide) ?_
      refine lv_icmp_ne (tgt := 28) hx hb dX0_isStill_21 (by decide) (fun c_9 => ?_) (fun c_9 => ?_)
      · have hG := q_ifn c_9 hG
        refine lv_iconst (v := 0) hx hb dX0_isStill_28 (by decide) ?_
        obtain rfl := Option.some.inj hG
        exact W.zret (v := 0) hx hb hr rfl (fun t ht hW => ⟨⟨0, (), rfl, rfl, trivial⟩, hS.F ht⟩) hS.2.2 dX0_isStill_29
      · have hG := q_ifp c_9 hG
        refine lv_iconst (v := 1) hx hb dX0_isStill_24 (by decide) ?_
        refine lv_goto (tgt := 29) hx hb dX0_isStill_25 (by decide) ?_
        obtain rfl := Option.some.inj hG
        exact W.zret (v := 1) hx hb hr rfl (fun t ht hW => ⟨⟨1, (), rfl, rfl, trivial⟩, hS.F ht⟩) hS.2.2 dX0_isStill_29

def FL_X0_greatestTaker_4 (fr : Nat → Int32) (dv : Int32) (fu : Nat → Int32) (fp : Nat → Int32) (d : Int32) : Nat → Int32 → Int32 → Option (Int32)
  | 0, _, _ => none
  | n + 1, x2_4, x3_4 => (if dv ≤ x3_4 then some (x2_4) else (if (32 + x3_4) < 0 ∨ 98 ≤ ((32 + x3_4)).toNatClampNeg then none else (if (fr (32 + x3_4).toNatClampNeg) = d then (if (0 + x3_4) < 0 ∨ 98 ≤ ((0 + x3_4)).toNatClampNeg then none else (if (fr (0 + x3_4).toNatClampNeg) = 6 then (if x2_4 = (-1) then (FL_X0_greatestTaker_4 fr dv fu fp d n x3_4 (x3_4 + 1)) else ((F_X0_takesOf fr dv fu fp x3_4).bind fun o_10 => ((F_X0_takesOf fr dv fu fp x2_4).bind fun o_12 => (if o_10 < o_12 then (FL_X0_greatestTaker_4 fr dv fu fp d n x2_4 (x3_4 + 1)) else (FL_X0_greatestTaker_4 fr dv fu fp d n x3_4 (x3_4 + 1)))))) else (FL_X0_greatestTaker_4 fr dv fu fp d n x2_4 (x3_4 + 1)))) else (FL_X0_greatestTaker_4 fr dv fu fp d n x2_4 (x3_4 + 1)))))

def F_X0_greatestTaker (fr : Nat → Int32) (dv : Int32) (fu : Nat → Int32) (fp : Nat → Int32) (d : Int32) : Option (Int32) := (FL_X0_greatestTaker_4 fr dv fu fp d 1000 (-1) 0)
set_option maxHeartbeats 4000000 in
set_option maxRecDepth 100000 in
theorem c_X0_greatestTaker (l : Launch) (dC : Nat → ClassId) (dI : Nat → Nat → Nat) (g : Nat) (r0 : Nat) (h : Nat) (r1 : Nat) (r2 : Nat) (dv : Int32) (c0 : ClassId) (fr : Nat → Int32) (c1 : ClassId) (c2 : ClassId) (fu : Nat → Int32) (fp : Nat → Int32) (d : Int32) (o : Int32) (hG : F_X0_greatestTaker fr dv fu fp d = some o) : Met l yX0_greatestTaker (.code yX0_greatestTaker cX0_greatestTaker 5 (some .int) :: wA) ({ frames := 1, cells := 0, slots := 0, locals := 21 }) (va_Pc [.ref g, .int d] (q_R (dC, dI) [(g, .inr (0, [.ref r0, .ref h])), (r0, .inl (c0, 98, .inl fr)), (h, .inr (5, [.ref r1, .ref r2, .int dv])), (r1, .inl (c1, 8, .inl fu)), (r2, .inl (c2, 48, .inl fp))] [(c0, .int), (c1, .int), (c2, .int)])) (q_i o) 0 0 (fun _ => False) := by
  refine Met.ofW (cc := cX0_greatestTaker) (maxL := 5) (ret := (some .int)) (by decide) rfl ?_
  intro p e s m args below meth c s₁ B hml hv
  obtain ⟨rfl, hP, hK⟩ := hv
  have hx := B.exec
  have hb := B.bytes
  have hr := B.returns
  have hts := atoms_spec (ws := .code yX0_greatestTaker cX0_greatestTaker 5 (some .int) :: wA) B.pre
  have hown : s.vm.findClass RX0 = some m.cls := findClass_of_methodNamed B.named
  have hlocks := B.notSynchronized
  have hS : va_S (fun _ => False) s.heap s.heap [] := va_S.rf
  have hl := lv_entry ([.ref g, .int d]) (n := 5) (Nat.le_of_ble_eq_true rfl)
  rw [lg_entry_eq]
  generalize (lg_sl ([.ref g, .int d]) ++ List.replicate (5 - (lg_sl ([.ref g, .int d])).length) Slot.unset).toArray = ls at hl ⊢
  have hl : lv_has ls 5 [(0, .ref g), (1, .int d)] := hl
  unfold F_X0_greatestTaker at hG
  refine lv_iconst (v := (-1)) hx hb dX0_greatestTaker_0 (by decide) ?_
  refine lv_istore_n (lv' := [(2, .int (-1)), (0, .ref g), (1, .int d)]) hx hb dX0_greatestTaker_1 rfl hl (by decide) rfl (fun ls hl => ?_)
  refine lv_iconst (v := 0) hx hb dX0_greatestTaker_2 (by decide) ?_
  refine lv_istore_n (lv' := [(3, .int 0), (2, .int (-1)), (0, .ref g), (1, .int d)]) hx hb dX0_greatestTaker_3 rfl hl (by decide) rfl (fun ls hl => ?_)
  have L_4 : ∀ (n_4 : Nat) (x2_4 : Int32) (x3_4 : Int32) (H : Heap) (locs : List Loc) (ls : Array Slot), FL_X0_greatestTaker_4 fr dv fu fp d n_4 x2_4 x3_4 = some o → va_P (dC, dI) vwCl [(g, .inr (0, [.ref r0, .ref h])), (r0, .inl (c0, 98, .inl fr)), (h, .inr (5, [.ref r1, .ref r2, .int dv])), (r1, .inl (c1, 8, .inl fu)), (r2, .inl (c2, 48, .inl fp))] H → va_S (fun _ => False) s.heap H locs → lv_has ls 5 [(3, .int x3_4), (2, .int x2_4), (0, .ref g), (1, .int d)] → W p l e (headSpec (.code yX0_greatestTaker cX0_greatestTaker 5 (some .int) :: wA) ({ frames := 1, cells := 0, slots := 0, locals := 21 })).room s m #[.ref g, .int d] below meth c H locs 0 0 (MQ below (q_i o) #[.ref g, .int d] s 0 0 (fun _ => False)) (F0 m 4 ls []) := by
    intro n_4
    induction n_4 with
    | zero =>
      intro x2_4 x3_4 H locs ls hG
      exact q_no hG
    | succ n_4 ih_4 =>
      intro x2_4 x3_4 H locs ls hG hP hS hl
      unfold FL_X0_greatestTaker_4 at hG
      refine lv_iload_n hx hb dX0_greatestTaker_4 rfl (lv_at hl 0 rfl) ?_
      refine lv_aload_n hx hb dX0_greatestTaker_5 rfl (lv_at hl 2 rfl) ?_
      refine va_get (D := (dC, dI)) (ci := 0) (v := .ref h) (C := RX0) (T := TX0) (N := 2) hx hb hts iA_0 hown hK hP 0 rfl rfl 1 (by decide) (hts (.fieldLink RX0 15 "HubTree$Bus" "plan" "LHubTree$Plan;") (List.mem_cons_of_mem _ m_89)) (fun _ h9 => h9) rfl dX0_greatestTaker_6 ?_
      refine va_get (D := (dC, dI)) (ci := 5) (v := .int dv) (C := RX5) (T := TX5) (N := 3) hx hb hts iA_5 hown hK hP 2 rfl rfl 2 (by decide) (hts (.fieldLink RX0 25 "HubTree$Plan" "devices" "I") (List.mem_cons_of_mem _ m_399)) (fun _ h9 => h9) rfl dX0_greatestTaker_9 ?_
      refine lv_icmp_ge (tgt := 79) hx hb dX0_greatestTaker_12 (by decide) (fun c_1 => ?_) (fun c_1 => ?_)
      · have hG := q_ifp c_1 hG
        refine lv_iload_n hx hb dX0_greatestTaker_79 rfl (lv_at hl 1 rfl) ?_
        obtain rfl := Option.some.inj hG
        exact W.iret (v := x2_4) hx hb hr (fun t ht hW => ⟨⟨x2_4, (), rfl, rfl, trivial⟩, hS.F ht⟩) hS.2.2 dX0_greatestTaker_80
      · have hG := q_ifn c_1 hG
        refine lv_aload_n hx hb dX0_greatestTaker_15 rfl (lv_at hl 2 rfl) ?_
        refine va_get (D := (dC, dI)) (ci := 0) (v := .ref r0) (C := RX0) (T := TX0) (N := 2) hx hb hts iA_0 hown hK hP 0 rfl rfl 0 (by decide) (hts (.fieldLink RX0 11 "HubTree$Bus" "row" "[I") (List.mem_cons_of_mem _ m_88)) (fun _ h9 => h9) rfl dX0_greatestTaker_16 ?_
        refine lv_bipush (v := 32) hx hb dX0_greatestTaker_19 (by decide) ?_
        refine lv_iload_n hx hb dX0_greatestTaker_21 rfl (lv_at hl 0 rfl) ?_
        refine lv_iadd hx hb dX0_greatestTaker_22 ?_
        obtain ⟨h_2, hG⟩ := q_ix hG
        refine va_iald hx hb hK hP 1 0 rfl rfl (i := (32 + x3_4)) h_2 dX0_greatestTaker_23 ?_
        refine q_top (y := (fr (32 + x3_4).toNatClampNeg)) rfl ?_
        refine lv_iload_n hx hb dX0_greatestTaker_24 rfl (lv_at hl 3 rfl) ?_
        refine lv_icmp_ne (tgt := 45) hx hb dX0_greatestTaker_25 (by decide) (fun c_3 => ?_) (fun c_3 => ?_)
        · have hG := q_ifn c_3 hG
          refine lv_iconst (v := 0) hx hb dX0_greatestTaker_45 (by decide) ?_
          refine lv_istore (lv' := [(4, .int 0), (3, .int x3_4), (2, .int x2_4), (0, .ref g), (1, .int d)]) hx hb dX0_greatestTaker_46 hl (by decide) rfl (fun ls hl => ?_)
          refine lv_iload hx hb dX0_greatestTaker_48 (lv_at hl 0 rfl) ?_
          refine lv_if_eq (tgt := 73) hx hb dX0_greatestTaker_50 (by decide) (fun c_4 => ?_) (fun c_4 => ?_)
          rotate_left
          · exact absurd (by decide) c_4
          refine lv_iinc (v := (x3_4 + 1)) (lv' := [(3, .int (x3_4 + 1)), (4, .int 0), (2, .int x2_4), (0, .ref g), (1, .int d)]) hx hb dX0_greatestTaker_73 hl (k := 1) rfl (rfl) (by decide) rfl (fun ls hl => ?_)
          refine lv_goto (tgt := 4) hx hb dX0_greatestTaker_76 (by decide) ?_
          exact ih_4 x2_4 (x3_4 + 1) H locs ls hG hP hS (lv_sub hl [0, 2, 3, 4] rfl)
        · have hG := q_ifp c_3 hG
          refine lv_aload_n hx hb dX0_greatestTaker_28 rfl (lv_at hl 2 rfl) ?_
          refine va_get (D := (dC, dI)) (ci := 0) (v := .ref r0) (C := RX0) (T := TX0) (N := 2) hx hb hts iA_0 hown hK hP 0 rfl rfl 0 (by decide) (hts (.fieldLink RX0 11 "HubTree$Bus" "row" "[I") (List.mem_cons_of_mem _ m_88)) (fun _ h9 => h9) rfl dX0_greatestTaker_29 ?_
          refine lv_iconst (v := 0) hx hb dX0_greatestTaker_32 (by decide) ?_
          refine lv_iload_n hx hb dX0_greatestTaker_33 rfl (lv_at hl 0 rfl) ?_
          refine lv_iadd hx hb dX0_greatestTaker_34 ?_
          obtain ⟨h_5, hG⟩ := q_ix hG
          refine va_iald hx hb hK hP 1 0 rfl rfl (i := (0 + x3_4)) h_5 dX0_greatestTaker_35 ?_
          refine q_top (y := (fr (0 + x3_4).toNatClampNeg)) rfl ?_
          refine lv_bipush (v := 6) hx hb dX0_greatestTaker_36 (by decide) ?_
          refine lv_icmp_ne (tgt := 45) hx hb dX0_greatestTaker_38 (by decide) (fun c_6 => ?_) (fun c_6 => ?_)
          · have hG := q_ifn c_6 hG
            refine lv_iconst (v := 0) hx hb dX0_greatestTaker_45 (by decide) ?_
            refine lv_istore (lv' := [(4, .int 0), (3, .int x3_4), (2, .int x2_4), (0, .ref g), (1, .int d)]) hx hb dX0_greatestTaker_46 hl (by decide) rfl (fun ls hl => ?_)
            refine lv_iload hx hb dX0_greatestTaker_48 (lv_at hl 0 rfl) ?_
            refine lv_if_eq (tgt := 73) hx hb dX0_greatestTaker_50 (by decide) (fun c_7 => ?_) (fun c_7 => ?_)
            rotate_left
            · exact absurd (by decide) c_7
            refine lv_iinc (v := (x3_4 + 1)) (lv' := [(3, .int (x3_4 + 1)), (4, .int 0), (2, .int x2_4), (0, .ref g), (1, .int d)]) hx hb dX0_greatestTaker_73 hl (k := 1) rfl (rfl) (by decide) rfl (fun ls hl => ?_)
            refine lv_goto (tgt := 4) hx hb dX0_greatestTaker_76 (by decide) ?_
            exact ih_4 x2_4 (x3_4 + 1) H locs ls hG hP hS (lv_sub hl [0, 2, 3, 4] rfl)
          · have hG := q_ifp c_6 hG
            refine lv_iconst (v := 1) hx hb dX0_greatestTaker_41 (by decide) ?_
            refine lv_goto (tgt := 46) hx hb dX0_greatestTaker_42 (by decide) ?_
            refine lv_istore (lv' := [(4, .int 1), (3, .int x3_4), (2, .int x2_4), (0, .ref g), (1, .int d)]) hx hb dX0_greatestTaker_46 hl (by decide) rfl (fun ls hl => ?_)
            refine lv_iload hx hb dX0_greatestTaker_48 (lv_at hl 0 rfl) ?_
            refine lv_if_eq (tgt := 73) hx hb dX0_greatestTaker_50 (by decide) (fun c_8 => ?_) (fun c_8 => ?_)
            · exact absurd c_8 (by decide)
            refine lv_iload_n hx hb dX0_greatestTaker_53 rfl (lv_at hl 2 rfl) ?_
            refine lv_iconst (v := (-1)) hx hb dX0_greatestTaker_54 (by decide) ?_
            refine lv_icmp_eq (tgt := 71) hx hb dX0_greatestTaker_55 (by decide) (fun c_9 => ?_) (fun c_9 => ?_)
            · have hG := q_ifp c_9 hG
              refine lv_iload_n hx hb dX0_greatestTaker_71 rfl (lv_at hl 1 rfl) ?_
              refine lv_istore_n (lv' := [(2, .int x3_4), (4, .int 1), (3, .int x3_4), (0, .ref g), (1, .int d)]) hx hb dX0_greatestTaker_72 rfl hl (by decide) rfl (fun ls hl => ?_)
              refine lv_iinc (v := (x3_4 + 1)) (lv' := [(3, .int (x3_4 + 1)), (2, .int x3_4), (4, .int 1), (0, .ref g), (1, .int d)]) hx hb dX0_greatestTaker_73 hl (k := 2) rfl (rfl) (by decide) rfl (fun ls hl => ?_)
              refine lv_goto (tgt := 4) hx hb dX0_greatestTaker_76 (by decide) ?_
              exact ih_4 x3_4 (x3_4 + 1) H locs ls hG hP hS (lv_sub hl [0, 1, 3, 4] rfl)
            · have hG := q_ifn c_9 hG
              refine lv_aload_n hx hb dX0_greatestTaker_58 rfl (lv_at hl 3 rfl) ?_
              refine lv_iload_n hx hb dX0_greatestTaker_59 rfl (lv_at hl 1 rfl) ?_
              obtain ⟨o_10, r_11, hG⟩ := q_bi hG
              refine q_goi (v := o_10) (va_runV (As := [.int x3_4]) (rest := []) ⟨hx, hb, hml, hown, hts⟩ (c_X0_takesOf l dC dI g r0 h r1 r2 dv c0 fr c1 c2 fu fp x3_4 o_10 r_11) (cwV 1 hts (q_gV m_591 m_492 m_493 m_33 m_494) rfl rfl rfl hdV_yX0_takesOf_1 ⟨Nat.le_of_ble_eq_true rfl, Nat.le_of_ble_eq_true rfl⟩) (q_preV hK hP (q := (RX0, TX0, 2)) (ci := 0) (q0 := 0) rfl rfl [0, 1, 2, 3, 4] rfl [0, 1, 2] rfl) rfl rfl hl.1 rfl (lv_room (Nat.le_of_ble_eq_true rfl)) dX0_greatestTaker_60 ⟨Nat.le_of_ble_eq_true rfl, Nat.le_of_ble_eq_true rfl⟩) hP hS (fun H locs hP hS => ?_)
              refine lv_aload_n hx hb dX0_greatestTaker_63 rfl (lv_at hl 3 rfl) ?_
              refine lv_iload_n hx hb dX0_greatestTaker_64 rfl (lv_at hl 2 rfl) ?_
              obtain ⟨o_12, r_13, hG⟩ := q_bi hG
              refine q_goi (v := o_12) (va_runV (As := [.int x2_4]) (rest := [.int o_10]) ⟨hx, hb, hml, hown, hts⟩ (c_X0_takesOf l dC dI g r0 h r1 r2 dv c0 fr c1 c2 fu fp x2_4 o_12 r_13) (cwV 1 hts (q_gV m_591 m_492 m_493 m_33 m_494) rfl rfl rfl hdV_yX0_takesOf_1 ⟨Nat.le_of_ble_eq_true rfl, Nat.le_of_ble_eq_true rfl⟩) (q_preV hK hP (q := (RX0, TX0, 2)) (ci := 0) (q0 := 0) rfl rfl [0, 1, 2, 3, 4] rfl [0, 1, 2] rfl) rfl rfl hl.1 rfl (lv_room (Nat.le_of_ble_eq_true rfl)) dX0_greatestTaker_65 ⟨Nat.le_of_ble_eq_true rfl, Nat.le_of_ble_eq_true rfl⟩) hP hS (fun H locs hP hS => ?_)
              refine lv_icmp_lt (tgt := 73) hx hb dX0_greatestTaker_68 (by decide) (fun c_14 => ?_) (fun c_14 => ?_)
              · have hG := q_ifp c_14 hG
                refine lv_iinc (v := (x3_4 + 1)) (lv' := [(3, .int (x3_4 + 1)), (4, .int 1), (2, .int x2_4), (0, .ref g), (1, .int d)]) hx hb dX0_greatestTaker_73 hl (k := 1) rfl (rfl) (by decide) rfl (fun ls hl => ?_)
                refine lv_goto (tgt := 4) hx hb dX0_greatestTaker_76 (by decide) ?_
                exact ih_4 x2_4 (x3_4 + 1) H locs ls hG hP hS (lv_sub hl [0, 2, 3, 4] rfl)
              · have hG := q_ifn c_14 hG
                refine lv_iload_n hx hb dX0_greatestTaker_71 rfl (lv_at hl 1 rfl) ?_
                refine lv_istore_n (lv' := [(2, .int x3_4), (4, .int 1), (3, .int x3_4), (0, .ref g), (1, .int d)]) hx hb dX0_greatestTaker_72 rfl hl (by decide) rfl (fun ls hl => ?_)
                refine lv_iinc (v := (x3_4 + 1)) (lv' := [(3, .int (x3_4 + 1)), (2, .int x3_4), (4, .int 1), (0, .ref g), (1, .int d)]) hx hb dX0_greatestTaker_73 hl (k := 2) rfl (rfl) (by decide) rfl (fun ls hl => ?_)
                refine lv_goto (tgt := 4) hx hb dX0_greatestTaker_76 (by decide) ?_
                exact ih_4 x3_4 (x3_4 + 1) H locs ls hG hP hS (lv_sub hl [0, 1, 3, 4] rfl)
  exact L_4 1000 (-1) 0 s.heap [] ls hG hP hS hl

def FL_X0_canFallAsleep_2 (fr : Nat → Int32) (dv : Int32) (fu : Nat → Int32) (fp : Nat → Int32) (d : Int32) : Nat → Int32 → Option (Int32)
  | 0, _ => none
  | n + 1, x2_2 => (if dv ≤ x2_2 then (if (0 + d) < 0 ∨ 98 ≤ ((0 + d)).toNatClampNeg then none else (if (fr (0 + d).toNatClampNeg) = 6 then some (1) else some (0))) else (if (32 + x2_2) < 0 ∨ 98 ≤ ((32 + x2_2)).toNatClampNeg then none else (if (fr (32 + x2_2).toNatClampNeg) = d then ((F_X0_isStanding fr dv fu fp x2_2).bind fun o_6 => (if o_6 = 0 then ((F_X0_isAwake fr dv fu fp x2_2).bind fun o_9 => (if o_9 = 0 then (FL_X0_canFallAsleep_2 fr dv fu fp d n (x2_2 + 1)) else some (0))) else some (0))) else (FL_X0_canFallAsleep_2 fr dv fu fp d n (x2_2 + 1)))))

def F_X0_canFallAsleep (fr : Nat → Int32) (dv : Int32) (fu : Nat → Int32) (fp : Nat → Int32) (d : Int32) : Option (Int32) := (FL_X0_canFallAsleep_2 fr dv fu fp d 1000 0)
set_option maxHeartbeats 4000000 in
set_option maxRecDepth 100000 in
theorem c_X0_canFallAsleep (l : Launch) (dC : Nat → ClassId) (dI : Nat → Nat → Nat) (g : Nat) (r0 : Nat) (h : Nat) (r1 : Nat) (r2 : Nat) (dv : Int32) (c0 : ClassId) (fr : Nat → Int32) (c1 : ClassId) (c2 : ClassId) (fu : Nat → Int32) (fp : Nat → Int32) (d : Int32) (o : Int32) (hG : F_X0_canFallAsleep fr dv fu fp d = some o) : Met l yX0_canFallAsleep (.code yX0_canFallAsleep cX0_canFallAsleep 3 (some .boolean) :: wA) ({ frames := 1, cells := 0, slots := 0, locals := 21 }) (va_Pc [.ref g, .int d] (q_R (dC, dI) [(g, .inr (0, [.ref r0, .ref h])), (r0, .inl (c0, 98, .inl fr)), (h, .inr (5, [.ref r1, .ref r2, .int dv])), (r1, .inl (c1, 8, .inl fu)), (r2, .inl (c2, 48, .inl fp))] [(c0, .int), (c1, .int), (c2, .int)])) (q_i o) 0 0 (fun _ => False) := by
  refine Met.ofW (cc := cX0_canFallAsleep) (maxL := 3) (ret := (some .boolean)) (by decide) rfl ?_
  intro p e s m args below meth c s₁ B hml hv
  obtain ⟨rfl, hP, hK⟩ := hv
  have hx := B.exec
  have hb := B.bytes
  have hr := B.returns
  have hts := atoms_spec (ws := .code yX0_canFallAsleep cX0_canFallAsleep 3 (some .boolean) :: wA) B.pre
  have hown : s.vm.findClass RX0 = some m.cls := findClass_of_methodNamed B.named
  have hlocks := B.notSynchronized
  have hS : va_S (fun _ => False) s.heap s.heap [] := va_S.rf
  have hl := lv_entry ([.ref g, .int d]) (n := 3) (Nat.le_of_ble_eq_true rfl)
  rw [lg_entry_eq]
  generalize (lg_sl ([.ref g, .int d]) ++ List.replicate (3 - (lg_sl ([.ref g, .int d])).length) Slot.unset).toArray = ls at hl ⊢
  have hl : lv_has ls 3 [(0, .ref g), (1, .int d)] := hl
  unfold F_X0_canFallAsleep at hG
  refine lv_iconst (v := 0) hx hb dX0_canFallAsleep_0 (by decide) ?_
  refine lv_istore_n (lv' := [(2, .int 0), (0, .ref g), (1, .int d)]) hx hb dX0_canFallAsleep_1 rfl hl (by decide) rfl (fun ls hl => ?_)
  have L_2 : ∀ (n_2 : Nat) (x2_2 : Int32) (H : Heap) (locs : List Loc) (ls : Array Slot), FL_X0_canFallAsleep_2 fr dv fu fp d n_2 x2_2 = some o → va_P (dC, dI) vwCl [(g, .inr (0, [.ref r0, .ref h])), (r0, .inl (c0, 98, .inl fr)), (h, .inr (5, [.ref r1, .ref r2, .int dv])), (r1, .inl (c1, 8, .inl fu)), (r2, .inl (c2, 48, .inl fp))] H → va_S (fun _ => False) s.heap H locs → lv_has ls 3 [(2, .int x2_2), (0, .ref g), (1, .int d)] → W p l e (headSpec (.code yX0_canFallAsleep cX0_canFallAsleep 3 (some .boolean) :: wA) ({ frames := 1, cells := 0, slots := 0, locals := 21 })).room s m #[.ref g, .int d] below meth c H locs 0 0 (MQ below (q_i o) #[.ref g, .int d] s 0 0 (fun _ => False)) (F0 m 2 ls []) := by
    intro n_2
    induction n_2 with
    | zero =>
      intro x2_2 H locs ls hG
      exact q_no hG
    | succ n_2 ih_2 =>
      intro x2_2 H locs ls hG hP hS hl
      unfold FL_X0_canFallAsleep_2 at hG
      refine lv_iload_n hx hb dX0_canFallAsleep_2 rfl (lv_at hl 0 rfl) ?_
      refine lv_aload_n hx hb dX0_canFallAsleep_3 rfl (lv_at hl 1 rfl) ?_
      refine va_get (D := (dC, dI)) (ci := 0) (v := .ref h) (C := RX0) (T := TX0) (N := 2) hx hb hts iA_0 hown hK hP 0 rfl rfl 1 (by decide) (hts (.fieldLink RX0 15 "HubTree$Bus" "plan" "LHubTree$Plan;") (List.mem_cons_of_mem _ m_89)) (fun _ h9 => h9) rfl dX0_canFallAsleep_4 ?_
      refine va_get (D := (dC, dI)) (ci := 5) (v := .int dv) (C := RX5) (T := TX5) (N := 3) hx hb hts iA_5 hown hK hP 2 rfl rfl 2 (by decide) (hts (.fieldLink RX0 25 "HubTree$Plan" "devices" "I") (List.mem_cons_of_mem _ m_399)) (fun _ h9 => h9) rfl dX0_canFallAsleep_7 ?_
      refine lv_icmp_ge (tgt := 50) hx hb dX0_canFallAsleep_10 (by decide) (fun c_1 => ?_) (fun c_1 => ?_)
      · have hG := q_ifp c_1 hG
        refine lv_aload_n hx hb dX0_canFallAsleep_50 rfl (lv_at hl 1 rfl) ?_
        refine va_get (D := (dC, dI)) (ci := 0) (v := .ref r0) (C := RX0) (T := TX0) (N := 2) hx hb hts iA_0 hown hK hP 0 rfl rfl 0 (by decide) (hts (.fieldLink RX0 11 "HubTree$Bus" "row" "[I") (List.mem_cons_of_mem _ m_88)) (fun _ h9 => h9) rfl dX0_canFallAsleep_51 ?_
        refine lv_iconst (v := 0) hx hb dX0_canFallAsleep_54 (by decide) ?_
        refine lv_iload_n hx hb dX0_canFallAsleep_55 rfl (lv_at hl 2 rfl) ?_
        refine lv_iadd hx hb dX0_canFallAsleep_56 ?_
        obtain ⟨h_2, hG⟩ := q_ix hG
        refine va_iald hx hb hK hP 1 0 rfl rfl (i := (0 + d)) h_2 dX0_canFallAsleep_57 ?_
        refine q_top (y := (fr (0 + d).toNatClampNeg)) rfl ?_
        refine lv_bipush (v := 6) hx hb dX0_canFallAsleep_58 (by decide) ?_
        refine lv_icmp_ne (tgt := 67) hx hb dX0_canFallAsleep_60 (by decide) (fun c_3 => ?_) (fun c_3 => ?_)
        · have hG := q_ifn c_3 hG
          refine lv_iconst (v := 0) hx hb dX0_canFallAsleep_67 (by decide) ?_
          obtain rfl := Option.some.inj hG
          exact W.zret (v := 0) hx hb hr rfl (fun t ht hW => ⟨⟨0, (), rfl, rfl, trivial⟩, hS.F ht⟩) hS.2.2 dX0_canFallAsleep_68
        · have hG := q_ifp c_3 hG
          refine lv_iconst (v := 1) hx hb dX0_canFallAsleep_63 (by decide) ?_
          refine lv_goto (tgt := 68) hx hb dX0_canFallAsleep_64 (by decide) ?_
          obtain rfl := Option.some.inj hG
          exact W.zret (v := 1) hx hb hr rfl (fun t ht hW => ⟨⟨1, (), rfl, rfl, trivial⟩, hS.F ht⟩) hS.2.2 dX0_canFallAsleep_68
      · have hG := q_ifn c_1 hG
        refine lv_aload_n hx hb dX0_canFallAsleep_13 rfl (lv_at hl 1 rfl) ?_
        refine va_get (D := (dC, dI)) (ci := 0) (v := .ref r0) (C := RX0) (T := TX0) (N := 2) hx hb hts iA_0 hown hK hP 0 rfl rfl 0 (by decide) (hts (.fieldLink RX0 11 "HubTree$Bus" "row" "[I") (List.mem_cons_of_mem _ m_88)) (fun _ h9 => h9) rfl dX0_canFallAsleep_14 ?_
        refine lv_bipush (v := 32) hx hb dX0_canFallAsleep_17 (by decide) ?_
        refine lv_iload_n hx hb dX0_canFallAsleep_19 rfl (lv_at hl 0 rfl) ?_
        refine lv_iadd hx hb dX0_canFallAsleep_20 ?_
        obtain ⟨h_4, hG⟩ := q_ix hG
        refine va_iald hx hb hK hP 1 0 rfl rfl (i := (32 + x2_2)) h_4 dX0_canFallAsleep_21 ?_
        refine q_top (y := (fr (32 + x2_2).toNatClampNeg)) rfl ?_
        refine lv_iload_n hx hb dX0_canFallAsleep_22 rfl (lv_at hl 2 rfl) ?_
        refine lv_icmp_ne (tgt := 44) hx hb dX0_canFallAsleep_23 (by decide) (fun c_5 => ?_) (fun c_5 => ?_)
        · have hG := q_ifn c_5 hG
          refine lv_iinc (v := (x2_2 + 1)) (lv' := [(2, .int (x2_2 + 1)), (0, .ref g), (1, .int d)]) hx hb dX0_canFallAsleep_44 hl (k := 0) rfl (rfl) (by decide) rfl (fun ls hl => ?_)
          refine lv_goto (tgt := 2) hx hb dX0_canFallAsleep_47 (by decide) ?_
          exact ih_2 (x2_2 + 1) H locs ls hG hP hS (lv_sub hl [0, 1, 2] rfl)
        · have hG := q_ifp c_5 hG
          refine lv_aload_n hx hb dX0_canFallAsleep_26 rfl (lv_at hl 1 rfl) ?_
          refine lv_iload_n hx hb dX0_canFallAsleep_27 rfl (lv_at hl 0 rfl) ?_
          obtain ⟨o_6, r_7, hG⟩ := q_bi hG
          refine q_goi (v := o_6) (va_runV (As := [.int x2_2]) (rest := []) ⟨hx, hb, hml, hown, hts⟩ (c_X0_isStanding l dC dI g r0 h r1 r2 dv c0 fr c1 c2 fu fp x2_2 o_6 r_7) (cwV 1 hts (q_gV m_788 m_789 m_790 m_33 m_791) rfl rfl rfl hdV_yX0_isStanding_1 ⟨Nat.le_of_ble_eq_true rfl, Nat.le_of_ble_eq_true rfl⟩) (q_preV hK hP (q := (RX0, TX0, 2)) (ci := 0) (q0 := 0) rfl rfl [0, 1, 2, 3, 4] rfl [0, 1, 2] rfl) rfl rfl hl.1 rfl (lv_room (Nat.le_of_ble_eq_true rfl)) dX0_canFallAsleep_28 ⟨Nat.le_of_ble_eq_true rfl, Nat.le_of_ble_eq_true rfl⟩) hP hS (fun H locs hP hS => ?_)
          refine lv_if_ne (tgt := 42) hx hb dX0_canFallAsleep_31 (by decide) (fun c_8 => ?_) (fun c_8 => ?_)
          · have hG := q_ifn c_8 hG
            refine lv_iconst (v := 0) hx hb dX0_canFallAsleep_42 (by decide) ?_
            obtain rfl := Option.some.inj hG
            exact W.zret (v := 0) hx hb hr rfl (fun t ht hW => ⟨⟨0, (), rfl, rfl, trivial⟩, hS.F ht⟩) hS.2.2 dX0_canFallAsleep_43
          · have hG := q_ifp c_8 hG
            refine lv_aload_n hx hb dX0_canFallAsleep_34 rfl (lv_at hl 1 rfl) ?_
            refine lv_iload_n hx hb dX0_canFallAsleep_35 rfl (lv_at hl 0 rfl) ?_
            obtain ⟨o_9, r_10, hG⟩ := q_bi hG
            refine q_goi (v := o_9) (va_runV (As := [.int x2_2]) (rest := []) ⟨hx, hb, hml, hown, hts⟩ (c_X0_isAwake l dC dI g r0 h r1 r2 dv c0 fr c1 c2 fu fp x2_2 o_9 r_10) (cwV 1 hts (q_gV m_596 m_597 m_598 m_33 m_599) rfl rfl rfl hdV_yX0_isAwake_1 ⟨Nat.le_of_ble_eq_true rfl, Nat.le_of_ble_eq_true rfl⟩) (q_preV hK hP (q := (RX0, TX0, 2)) (ci := 0) (q0 := 0) rfl rfl [0, 1, 2, 3, 4] rfl [0, 1, 2] rfl) rfl rfl hl.1 rfl (lv_room (Nat.le_of_ble_eq_true rfl)) dX0_canFallAsleep_36 ⟨Nat.le_of_ble_eq_true rfl, Nat.le_of_ble_eq_true rfl⟩) hP hS (fun H locs hP hS => ?_)
            refine lv_if_eq (tgt := 44) hx hb dX0_canFallAsleep_39 (by decide) (fun c_11 => ?_) (fun c_11 => ?_)
            · have hG := q_ifp c_11 hG
              refine lv_iinc (v := (x2_2 + 1)) (lv' := [(2, .int (x2_2 + 1)), (0, .ref g), (1, .int d)]) hx hb dX0_canFallAsleep_44 hl (k := 0) rfl (rfl) (by decide) rfl (fun ls hl => ?_)
              refine lv_goto (tgt := 2) hx hb dX0_canFallAsleep_47 (by decide) ?_
              exact ih_2 (x2_2 + 1) H locs ls hG hP hS (lv_sub hl [0, 1, 2] rfl)
            · have hG := q_ifn c_11 hG
              refine lv_iconst (v := 0) hx hb dX0_canFallAsleep_42 (by decide) ?_
              obtain rfl := Option.some.inj hG
              exact W.zret (v := 0) hx hb hr rfl (fun t ht hW => ⟨⟨0, (), rfl, rfl, trivial⟩, hS.F ht⟩) hS.2.2 dX0_canFallAsleep_43
  exact L_2 1000 0 s.heap [] ls hG hP hS hl

def F_X0_canWake (fr : Nat → Int32) (dv : Int32) (fu : Nat → Int32) (fp : Nat → Int32) (d : Int32) : Option (Int32) := (if (72 + d) < 0 ∨ 98 ≤ ((72 + d)).toNatClampNeg then none else (if (fr (72 + d).toNatClampNeg) = 1 then (if (32 + d) < 0 ∨ 98 ≤ ((32 + d)).toNatClampNeg then none else ((F_X0_isAsleep fr dv fu fp (fr (32 + d).toNatClampNeg)).bind fun o_15 => (if o_15 = 0 then ((F_X0_powerSuffices fr dv fu fp d 0).bind fun o_18 => (if o_18 = 0 then some (0) else ((F_X0_timeSuffices fr dv fu fp d).bind fun o_21 => (if o_21 = 0 then some (0) else some (1))))) else some (0)))) else (if (16 + d) < 0 ∨ 48 ≤ ((16 + d)).toNatClampNeg then none else (if (32 + d) < 0 ∨ 98 ≤ ((32 + d)).toNatClampNeg then none else ((F_X0_isAsleep fr dv fu fp (fr (32 + d).toNatClampNeg)).bind fun o_5 => (if o_5 = 0 then ((F_X0_powerSuffices fr dv fu fp d (fp (16 + d).toNatClampNeg)).bind fun o_8 => (if o_8 = 0 then some (0) else ((F_X0_timeSuffices fr dv fu fp d).bind fun o_11 => (if o_11 = 0 then some (0) else some (1))))) else some (0)))))))
set_option maxHeartbeats 4000000 in
set_option maxRecDepth 100000 in
theorem c_X0_canWake (l : Launch) (dC : Nat → ClassId) (dI : Nat → Nat → Nat) (g : Nat) (r0 : Nat) (h : Nat) (r1 : Nat) (r2 : Nat) (dv : Int32) (c0 : ClassId) (fr : Nat → Int32) (c1 : ClassId) (c2 : ClassId) (fu : Nat → Int32) (fp : Nat → Int32) (d : Int32) (o : Int32) (hG : F_X0_canWake fr dv fu fp d = some o) : Met l yX0_canWake (.code yX0_canWake cX0_canWake 3 (some .boolean) :: wA) ({ frames := 3, cells := 0, slots := 0, locals := 69 }) (va_Pc [.ref g, .int d] (q_R (dC, dI) [(g, .inr (0, [.ref r0, .ref h])), (r0, .inl (c0, 98, .inl fr)), (h, .inr (5, [.ref r1, .ref r2, .int dv])), (r1, .inl (c1, 8, .inl fu)), (r2, .inl (c2, 48, .inl fp))] [(c0, .int), (c1, .int), (c2, .int)])) (q_i o) 0 0 (fun _ => False) := by
  refine Met.ofW (cc := cX0_canWake) (maxL := 3) (ret := (some .boolean)) (by decide) rfl ?_
  intro p e s m args below meth c s₁ B hml hv
  obtain ⟨rfl, hP, hK⟩ := hv
  have hx := B.exec
  have hb := B.bytes
  have hr := B.returns
  have hts := atoms_spec (ws := .code yX0_canWake cX0_canWake 3 (some .boolean) :: wA) B.pre
  have hown : s.vm.findClass RX0 = some m.cls := findClass_of_methodNamed B.named
  have hlocks := B.notSynchronized
  have hS : va_S (fun _ => False) s.heap s.heap [] := va_S.rf
  have hl := lv_entry ([.ref g, .int d]) (n := 3) (Nat.le_of_ble_eq_true rfl)
  rw [lg_entry_eq]
  generalize (lg_sl ([.ref g, .int d]) ++ List.replicate (3 - (lg_sl ([.ref g, .int d])).length) Slot.unset).toArray = ls at hl ⊢
  have hl : lv_has ls 3 [(0, .ref g), (1, .int d)] := hl
  unfold F_X0_canWake at hG
  refine lv_aload_n hx hb dX0_canWake_0 rfl (lv_at hl 0 rfl) ?_
  refine va_get (D := (dC, dI)) (ci := 0) (v := .ref r0) (C := RX0) (T := TX0) (N := 2) hx hb hts iA_0 hown hK hP 0 rfl rfl 0 (by decide) (hts (.fieldLink RX0 11 "HubTree$Bus" "row" "[I") (List.mem_cons_of_mem _ m_88)) (fun _ h9 => h9) rfl dX0_canWake_1 ?_
  refine lv_bipush (v := 72) hx hb dX0_canWake_4 (by decide) ?_
  refine lv_iload_n hx hb dX0_canWake_6 rfl (lv_at hl 1 rfl) ?_
  refine lv_iadd hx hb dX0_canWake_7 ?_
  obtain ⟨h_1, hG⟩ := q_ix hG
  refine va_iald hx hb hK hP 1 0 rfl rfl (i := (72 + d)) h_1 dX0_canWake_8 ?_
  refine q_top (y := (fr (72 + d).toNatClampNeg)) rfl ?_
  refine lv_iconst (v := 1) hx hb dX0_canWake_9 (by decide) ?_
  refine lv_icmp_ne (tgt := 17) hx hb dX0_canWake_10 (by decide) (fun c_2 => ?_) (fun c_2 => ?_)
  · have hG := q_ifn c_2 hG
    refine lv_aload_n hx hb dX0_canWake_17 rfl (lv_at hl 0 rfl) ?_
    refine va_get (D := (dC, dI)) (ci := 0) (v := .ref h) (C := RX0) (T := TX0) (N := 2) hx hb hts iA_0 hown hK hP 0 rfl rfl 1 (by decide) (hts (.fieldLink RX0 15 "HubTree$Bus" "plan" "LHubTree$Plan;") (List.mem_cons_of_mem _ m_89)) (fun _ h9 => h9) rfl dX0_canWake_18 ?_
    refine va_get (D := (dC, dI)) (ci := 5) (v := .ref r2) (C := RX5) (T := TX5) (N := 3) hx hb hts iA_5 hown hK hP 2 rfl rfl 1 (by decide) (hts (.fieldLink RX0 35 "HubTree$Plan" "row" "[I") (List.mem_cons_of_mem _ m_400)) (fun _ h9 => h9) rfl dX0_canWake_21 ?_
    refine lv_bipush (v := 16) hx hb dX0_canWake_24 (by decide) ?_
    refine lv_iload_n hx hb dX0_canWake_26 rfl (lv_at hl 1 rfl) ?_
    refine lv_iadd hx hb dX0_canWake_27 ?_
    obtain ⟨h_3, hG⟩ := q_ix hG
    refine va_iald hx hb hK hP 4 2 rfl rfl (i := (16 + d)) h_3 dX0_canWake_28 ?_
    refine q_top (y := (fp (16 + d).toNatClampNeg)) rfl ?_
    refine lv_istore_n (lv' := [(2, .int (fp (16 + d).toNatClampNeg)), (0, .ref g), (1, .int d)]) hx hb dX0_canWake_29 rfl hl (by decide) rfl (fun ls hl => ?_)
    refine lv_aload_n hx hb dX0_canWake_30 rfl (lv_at hl 1 rfl) ?_
    refine lv_aload_n hx hb dX0_canWake_31 rfl (lv_at hl 1 rfl) ?_
    refine va_get (D := (dC, dI)) (ci := 0) (v := .ref r0) (C := RX0) (T := TX0) (N := 2) hx hb hts iA_0 hown hK hP 0 rfl rfl 0 (by decide) (hts (.fieldLink RX0 11 "HubTree$Bus" "row" "[I") (List.mem_cons_of_mem _ m_88)) (fun _ h9 => h9) rfl dX0_canWake_32 ?_
    refine lv_bipush (v := 32) hx hb dX0_canWake_35 (by decide) ?_
    refine lv_iload_n hx hb dX0_canWake_37 rfl (lv_at hl 2 rfl) ?_
    refine lv_iadd hx hb dX0_canWake_38 ?_
    obtain ⟨h_4, hG⟩ := q_ix hG
    refine va_iald hx hb hK hP 1 0 rfl rfl (i := (32 + d)) h_4 dX0_canWake_39 ?_
    refine q_top (y := (fr (32 + d).toNatClampNeg)) rfl ?_
    obtain ⟨o_5, r_6, hG⟩ := q_bi hG
    refine q_goi (v := o_5) (va_runV (As := [.int (fr (32 + d).toNatClampNeg)]) (rest := []) ⟨hx, hb, hml, hown, hts⟩ (c_X0_isAsleep l dC dI g r0 h r1 r2 dv c0 fr c1 c2 fu fp (fr (32 + d).toNatClampNeg) o_5 r_6) (cwV 1 hts (q_gV m_752 m_753 m_754 m_33 m_755) rfl rfl rfl hdV_yX0_isAsleep_1 ⟨Nat.le_of_ble_eq_true rfl, Nat.le_of_ble_eq_true rfl⟩) (q_preV hK hP (q := (RX0, TX0, 2)) (ci := 0) (q0 := 0) rfl rfl [0, 1, 2, 3, 4] rfl [0, 1, 2] rfl) rfl rfl hl.1 rfl (lv_room (Nat.le_of_ble_eq_true rfl)) dX0_canWake_40 ⟨Nat.le_of_ble_eq_true rfl, Nat.le_of_ble_eq_true rfl⟩) hP hS (fun H locs hP hS => ?_)
    refine lv_if_ne (tgt := 67) hx hb dX0_canWake_43 (by decide) (fun c_7 => ?_) (fun c_7 => ?_)
    · have hG := q_ifn c_7 hG
      refine lv_iconst (v := 0) hx hb dX0_canWake_67 (by decide) ?_
      obtain rfl := Option.some.inj hG
      exact W.zret (v := 0) hx hb hr rfl (fun t ht hW => ⟨⟨0, (), rfl, rfl, trivial⟩, hS.F ht⟩) hS.2.2 dX0_canWake_68
    · have hG := q_ifp c_7 hG
      refine lv_aload_n hx hb dX0_canWake_46 rfl (lv_at hl 1 rfl) ?_
      refine lv_iload_n hx hb dX0_canWake_47 rfl (lv_at hl 2 rfl) ?_
      refine lv_iload_n hx hb dX0_canWake_48 rfl (lv_at hl 0 rfl) ?_
      obtain ⟨o_8, r_9, hG⟩ := q_bi hG
      refine q_goi (v := o_8) (va_runV (As := [.int d, .int (fp (16 + d).toNatClampNeg)]) (rest := []) ⟨hx, hb, hml, hown, hts⟩ (c_X0_powerSuffices l dC dI g r0 h r1 r2 dv c0 fr c1 c2 fu fp d (fp (16 + d).toNatClampNeg) o_8 r_9) (cwV 2 hts (q_gV m_756 m_757 m_758 m_33 m_759) rfl rfl rfl hdV_yX0_powerSuffices_2 ⟨Nat.le_of_ble_eq_true rfl, Nat.le_of_ble_eq_true rfl⟩) (q_preV hK hP (q := (RX0, TX0, 2)) (ci := 0) (q0 := 0) rfl rfl [0, 1, 2, 3, 4] rfl [0, 1, 2] rfl) rfl rfl hl.1 rfl (lv_room (Nat.le_of_ble_eq_true rfl)) dX0_canWake_49 ⟨Nat.le_of_ble_eq_true rfl, Nat.le_of_ble_eq_true rfl⟩) hP hS (fun H locs hP hS => ?_)
      refine lv_if_eq (tgt := 67) hx hb dX0_canWake_52 (by decide) (fun c_10 => ?_) (fun c_10 => ?_)
      · have hG := q_ifp c_10 hG
        refine lv_iconst (v := 0) hx hb dX0_canWake_67 (by decide) ?_
        obtain rfl := Option.some.inj hG
        exact W.zret (v := 0) hx hb hr rfl (fun t ht hW => ⟨⟨0, (), rfl, rfl, trivial⟩, hS.F ht⟩) hS.2.2 dX0_canWake_68
      · have hG := q_ifn c_10 hG
        refine lv_aload_n hx hb dX0_canWake_55 rfl (lv_at hl 1 rfl) ?_
        refine lv_iload_n hx hb dX0_canWake_56 rfl (lv_at hl 2 rfl) ?_
        obtain ⟨o_11, r_12, hG⟩ := q_bi hG
        refine q_goi (v := o_11) (va_runV (As := [.int d]) (rest := []) ⟨hx, hb, hml, hown, hts⟩ (c_X0_timeSuffices l dC dI g r0 h r1 r2 dv c0 fr c1 c2 fu fp d o_11 r_12) (cwV 1 hts (q_gV m_762 m_763 m_764 m_33 m_765) rfl rfl rfl hdV_yX0_timeSuffices_1 ⟨Nat.le_of_ble_eq_true rfl, Nat.le_of_ble_eq_true rfl⟩) (q_preV hK hP (q := (RX0, TX0, 2)) (ci := 0) (q0 := 0) rfl rfl [0, 1, 2, 3, 4] rfl [0, 1, 2] rfl) rfl rfl hl.1 rfl (lv_room (Nat.le_of_ble_eq_true rfl)) dX0_canWake_57 ⟨Nat.le_of_ble_eq_true rfl, Nat.le_of_ble_eq_true rfl⟩) hP hS (fun H locs hP hS => ?_)
        refine lv_if_eq (tgt := 67) hx hb dX0_canWake_60 (by decide) (fun c_13 => ?_) (fun c_13 => ?_)
        · have hG := q_ifp c_13 hG
          refine lv_iconst (v := 0) hx hb dX0_canWake_67 (by decide) ?_
          obtain rfl := Option.some.inj hG
          exact W.zret (v := 0) hx hb hr rfl (fun t ht hW => ⟨⟨0, (), rfl, rfl, trivial⟩, hS.F ht⟩) hS.2.2 dX0_canWake_68
        · have hG := q_ifn c_13 hG
          refine lv_iconst (v := 1) hx hb dX0_canWake_63 (by decide) ?_
          refine lv_goto (tgt := 68) hx hb dX0_canWake_64 (by decide) ?_
          obtain rfl := Option.some.inj hG
          exact W.zret (v := 1) hx hb hr rfl (fun t ht hW => ⟨⟨1, (), rfl, rfl, trivial⟩, hS.F ht⟩) hS.2.2 dX0_canWake_68
  · have hG := q_ifp c_2 hG
    refine lv_iconst (v := 0) hx hb dX0_canWake_13 (by decide) ?_
    refine lv_goto (tgt := 29) hx hb dX0_canWake_14 (by decide) ?_
    refine lv_istore_n (lv' := [(2, .int 0), (0, .ref g), (1, .int d)]) hx hb dX0_canWake_29 rfl hl (by decide) rfl (fun ls hl => ?_)
    refine lv_aload_n hx hb dX0_canWake_30 rfl (lv_at hl 1 rfl) ?_
    refine lv_aload_n hx hb dX0_canWake_31 rfl (lv_at hl 1 rfl) ?_
    refine va_get (D := (dC, dI)) (ci := 0) (v := .ref r0) (C := RX0) (T := TX0) (N := 2) hx hb hts iA_0 hown hK hP 0 rfl rfl 0 (by decide) (hts (.fieldLink RX0 11 "HubTree$Bus" "row" "[I") (List.mem_cons_of_mem _ m_88)) (fun _ h9 => h9) rfl dX0_canWake_32 ?_
    refine lv_bipush (v := 32) hx hb dX0_canWake_35 (by decide) ?_
    refine lv_iload_n hx hb dX0_canWake_37 rfl (lv_at hl 2 rfl) ?_
    refine lv_iadd hx hb dX0_canWake_38 ?_
    obtain ⟨h_14, hG⟩ := q_ix hG
    refine va_iald hx hb hK hP 1 0 rfl rfl (i := (32 + d)) h_14 dX0_canWake_39 ?_
    refine q_top (y := (fr (32 + d).toNatClampNeg)) rfl ?_
    obtain ⟨o_15, r_16, hG⟩ := q_bi hG
    refine q_goi (v := o_15) (va_runV (As := [.int (fr (32 + d).toNatClampNeg)]) (rest := []) ⟨hx, hb, hml, hown, hts⟩ (c_X0_isAsleep l dC dI g r0 h r1 r2 dv c0 fr c1 c2 fu fp (fr (32 + d).toNatClampNeg) o_15 r_16) (cwV 1 hts (q_gV m_752 m_753 m_754 m_33 m_755) rfl rfl rfl hdV_yX0_isAsleep_1 ⟨Nat.le_of_ble_eq_true rfl, Nat.le_of_ble_eq_true rfl⟩) (q_preV hK hP (q := (RX0, TX0, 2)) (ci := 0) (q0 := 0) rfl rfl [0, 1, 2, 3, 4] rfl [0, 1, 2] rfl) rfl rfl hl.1 rfl (lv_room (Nat.le_of_ble_eq_true rfl)) dX0_canWake_40 ⟨Nat.le_of_ble_eq_true rfl, Nat.le_of_ble_eq_true rfl⟩) hP hS (fun H locs hP hS => ?_)
    refine lv_if_ne (tgt := 67) hx hb dX0_canWake_43 (by decide) (fun c_17 => ?_) (fun c_17 => ?_)
    · have hG := q_ifn c_17 hG
      refine lv_iconst (v := 0) hx hb dX0_canWake_67 (by decide) ?_
      obtain rfl := Option.some.inj hG
      exact W.zret (v := 0) hx hb hr rfl (fun t ht hW => ⟨⟨0, (), rfl, rfl, trivial⟩, hS.F ht⟩) hS.2.2 dX0_canWake_68
    · have hG := q_ifp c_17 hG
      refine lv_aload_n hx hb dX0_canWake_46 rfl (lv_at hl 1 rfl) ?_
      refine lv_iload_n hx hb dX0_canWake_47 rfl (lv_at hl 2 rfl) ?_
      refine lv_iload_n hx hb dX0_canWake_48 rfl (lv_at hl 0 rfl) ?_
      obtain ⟨o_18, r_19, hG⟩ := q_bi hG
      refine q_goi (v := o_18) (va_runV (As := [.int d, .int 0]) (rest := []) ⟨hx, hb, hml, hown, hts⟩ (c_X0_powerSuffices l dC dI g r0 h r1 r2 dv c0 fr c1 c2 fu fp d 0 o_18 r_19) (cwV 2 hts (q_gV m_756 m_757 m_758 m_33 m_759) rfl rfl rfl hdV_yX0_powerSuffices_2 ⟨Nat.le_of_ble_eq_true rfl, Nat.le_of_ble_eq_true rfl⟩) (q_preV hK hP (q := (RX0, TX0, 2)) (ci := 0) (q0 := 0) rfl rfl [0, 1, 2, 3, 4] rfl [0, 1, 2] rfl) rfl rfl hl.1 rfl (lv_room (Nat.le_of_ble_eq_true rfl)) dX0_canWake_49 ⟨Nat.le_of_ble_eq_true rfl, Nat.le_of_ble_eq_true rfl⟩) hP hS (fun H locs hP hS => ?_)
      refine lv_if_eq (tgt := 67) hx hb dX0_canWake_52 (by decide) (fun c_20 => ?_) (fun c_20 => ?_)
      · have hG := q_ifp c_20 hG
        refine lv_iconst (v := 0) hx hb dX0_canWake_67 (by decide) ?_
        obtain rfl := Option.some.inj hG
        exact W.zret (v := 0) hx hb hr rfl (fun t ht hW => ⟨⟨0, (), rfl, rfl, trivial⟩, hS.F ht⟩) hS.2.2 dX0_canWake_68
      · have hG := q_ifn c_20 hG
        refine lv_aload_n hx hb dX0_canWake_55 rfl (lv_at hl 1 rfl) ?_
        refine lv_iload_n hx hb dX0_canWake_56 rfl (lv_at hl 2 rfl) ?_
        obtain ⟨o_21, r_22, hG⟩ := q_bi hG
        refine q_goi (v := o_21) (va_runV (As := [.int d]) (rest := []) ⟨hx, hb, hml, hown, hts⟩ (c_X0_timeSuffices l dC dI g r0 h r1 r2 dv c0 fr c1 c2 fu fp d o_21 r_22) (cwV 1 hts (q_gV m_762 m_763 m_764 m_33 m_765) rfl rfl rfl hdV_yX0_timeSuffices_1 ⟨Nat.le_of_ble_eq_true rfl, Nat.le_of_ble_eq_true rfl⟩) (q_preV hK hP (q := (RX0, TX0, 2)) (ci := 0) (q0 := 0) rfl rfl [0, 1, 2, 3, 4] rfl [0, 1, 2] rfl) rfl rfl hl.1 rfl (lv_room (Nat.le_of_ble_eq_true rfl)) dX0_canWake_57 ⟨Nat.le_of_ble_eq_true rfl, Nat.le_of_ble_eq_true rfl⟩) hP hS (fun H locs hP hS => ?_)
        refine lv_if_eq (tgt := 67) hx hb dX0_canWake_60 (by decide) (fun c_23 => ?_) (fun c_23 => ?_)
        · have hG := q_ifp c_23 hG
          refine lv_iconst (v := 0) hx hb dX0_canWake_67 (by decide) ?_
          obtain rfl := Option.some.inj hG
          exact W.zret (v := 0) hx hb hr rfl (fun t ht hW => ⟨⟨0, (), rfl, rfl, trivial⟩, hS.F ht⟩) hS.2.2 dX0_canWake_68
        · have hG := q_ifn c_23 hG
          refine lv_iconst (v := 1) hx hb dX0_canWake_63 (by decide) ?_
          refine lv_goto (tgt := 68) hx hb dX0_canWake_64 (by decide) ?_
          obtain rfl := Option.some.inj hG
          exact W.zret (v := 1) hx hb hr rfl (fun t ht hW => ⟨⟨1, (), rfl, rfl, trivial⟩, hS.F ht⟩) hS.2.2 dX0_canWake_68

def FL_X0_wakers_4 (fr : Nat → Int32) (dv : Int32) (fu : Nat → Int32) (fp : Nat → Int32) : Nat → Int32 → Int32 → Option (Int32)
  | 0, _, _ => none
  | n + 1, x1_4, x2_4 => (if dv ≤ x2_4 then some (x1_4) else (if (88 + x2_4) < 0 ∨ 98 ≤ ((88 + x2_4)).toNatClampNeg then none else (if (fr (88 + x2_4).toNatClampNeg) = 1 then ((F_X0_canWake fr dv fu fp x2_4).bind fun o_4 => (if o_4 = 0 then (FL_X0_wakers_4 fr dv fu fp n (x1_4 ||| 0) (x2_4 + 1)) else (FL_X0_wakers_4 fr dv fu fp n (x1_4 ||| (1 <<< (x2_4 &&& 31))) (x2_4 + 1)))) else (FL_X0_wakers_4 fr dv fu fp n (x1_4 ||| 0) (x2_4 + 1)))))

def F_X0_wakers (fr : Nat → Int32) (dv : Int32) (fu : Nat → Int32) (fp : Nat → Int32) : Option (Int32) := (FL_X0_wakers_4 fr dv fu fp 1000 0 0)
set_option maxHeartbeats 4000000 in
set_option maxRecDepth 100000 in
theorem c_X0_wakers (l : Launch) (dC : Nat → ClassId) (dI : Nat → Nat → Nat) (g : Nat) (r0 : Nat) (h : Nat) (r1 : Nat) (r2 : Nat) (dv : Int32) (c0 : ClassId) (fr : Nat → Int32) (c1 : ClassId) (c2 : ClassId) (fu : Nat → Int32) (fp : Nat → Int32) (o : Int32) (hG : F_X0_wakers fr dv fu fp = some o) : Met l yX0_wakers (.code yX0_wakers cX0_wakers 3 (some .int) :: wA) ({ frames := 4, cells := 0, slots := 0, locals := 91 }) (va_Pc [.ref g] (q_R (dC, dI) [(g, .inr (0, [.ref r0, .ref h])), (r0, .inl (c0, 98, .inl fr)), (h, .inr (5, [.ref r1, .ref r2, .int dv])), (r1, .inl (c1, 8, .inl fu)), (r2, .inl (c2, 48, .inl fp))] [(c0, .int), (c1, .int), (c2, .int)])) (q_i o) 0 0 (fun _ => False) := by
  refine Met.ofW (cc := cX0_wakers) (maxL := 3) (ret := (some .int)) (by decide) rfl ?_
  intro p e s m args below meth c s₁ B hml hv
  obtain ⟨rfl, hP, hK⟩ := hv
  have hx := B.exec
  have hb := B.bytes
  have hr := B.returns
  have hts := atoms_spec (ws := .code yX0_wakers cX0_wakers 3 (some .int) :: wA) B.pre
  have hown : s.vm.findClass RX0 = some m.cls := findClass_of_methodNamed B.named
  have hlocks := B.notSynchronized
  have hS : va_S (fun _ => False) s.heap s.heap [] := va_S.rf
  have hl := lv_entry ([.ref g]) (n := 3) (Nat.le_of_ble_eq_true rfl)
  rw [lg_entry_eq]
  generalize (lg_sl ([.ref g]) ++ List.replicate (3 - (lg_sl ([.ref g])).length) Slot.unset).toArray = ls at hl ⊢
  have hl : lv_has ls 3 [(0, .ref g)] := hl
  unfold F_X0_wakers at hG
  refine lv_iconst (v := 0) hx hb dX0_wakers_0 (by decide) ?_
  refine lv_istore_n (lv' := [(1, .int 0), (0, .ref g)]) hx hb dX0_wakers_1 rfl hl (by decide) rfl (fun ls hl => ?_)
  refine lv_iconst (v := 0) hx hb dX0_wakers_2 (by decide) ?_
  refine lv_istore_n (lv' := [(2, .int 0), (1, .int 0), (0, .ref g)]) hx hb dX0_wakers_3 rfl hl (by decide) rfl (fun ls hl => ?_)
  have L_4 : ∀ (n_4 : Nat) (x1_4 : Int32) (x2_4 : Int32) (H : Heap) (locs : List Loc) (ls : Array Slot), FL_X0_wakers_4 fr dv fu fp n_4 x1_4 x2_4 = some o → va_P (dC, dI) vwCl [(g, .inr (0, [.ref r0, .ref h])), (r0, .inl (c0, 98, .inl fr)), (h, .inr (5, [.ref r1, .ref r2, .int dv])), (r1, .inl (c1, 8, .inl fu)), (r2, .inl (c2, 48, .inl fp))] H → va_S (fun _ => False) s.heap H locs → lv_has ls 3 [(2, .int x2_4), (1, .int x1_4), (0, .ref g)] → W p l e (headSpec (.code yX0_wakers cX0_wakers 3 (some .int) :: wA) ({ frames := 4, cells := 0, slots := 0, locals := 91 })).room s m #[.ref g] below meth c H locs 0 0 (MQ below (q_i o) #[.ref g] s 0 0 (fun _ => False)) (F0 m 4 ls []) := by
    intro n_4
    induction n_4 with
    | zero =>
      intro x1_4 x2_4 H locs ls hG
      exact q_no hG
    | succ n_4 ih_4 =>
      intro x1_4 x2_4 H locs ls hG hP hS hl
      unfold FL_X0_wakers_4 at hG
      refine lv_iload_n hx hb dX0_wakers_4 rfl (lv_at hl 0 rfl) ?_
      refine lv_aload_n hx hb dX0_wakers_5 rfl (lv_at hl 2 rfl) ?_
      refine va_get (D := (dC, dI)) (ci := 0) (v := .ref h) (C := RX0) (T := TX0) (N := 2) hx hb hts iA_0 hown hK hP 0 rfl rfl 1 (by decide) (hts (.fieldLink RX0 15 "HubTree$Bus" "plan" "LHubTree$Plan;") (List.mem_cons_of_mem _ m_89)) (fun _ h9 => h9) rfl dX0_wakers_6 ?_
      refine va_get (D := (dC, dI)) (ci := 5) (v := .int dv) (C := RX5) (T := TX5) (N := 3) hx hb hts iA_5 hown hK hP 2 rfl rfl 2 (by decide) (hts (.fieldLink RX0 25 "HubTree$Plan" "devices" "I") (List.mem_cons_of_mem _ m_399)) (fun _ h9 => h9) rfl dX0_wakers_9 ?_
      refine lv_icmp_ge (tgt := 52) hx hb dX0_wakers_12 (by decide) (fun c_1 => ?_) (fun c_1 => ?_)
      · have hG := q_ifp c_1 hG
        refine lv_iload_n hx hb dX0_wakers_52 rfl (lv_at hl 1 rfl) ?_
        obtain rfl := Option.some.inj hG
        exact W.iret (v := x1_4) hx hb hr (fun t ht hW => ⟨⟨x1_4, (), rfl, rfl, trivial⟩, hS.F ht⟩) hS.2.2 dX0_wakers_53
      · have hG := q_ifn c_1 hG
        refine lv_iload_n hx hb dX0_wakers_15 rfl (lv_at hl 1 rfl) ?_
        refine lv_aload_n hx hb dX0_wakers_16 rfl (lv_at hl 2 rfl) ?_
        refine va_get (D := (dC, dI)) (ci := 0) (v := .ref r0) (C := RX0) (T := TX0) (N := 2) hx hb hts iA_0 hown hK hP 0 rfl rfl 0 (by decide) (hts (.fieldLink RX0 11 "HubTree$Bus" "row" "[I") (List.mem_cons_of_mem _ m_88)) (fun _ h9 => h9) rfl dX0_wakers_17 ?_
        refine lv_bipush (v := 88) hx hb dX0_wakers_20 (by decide) ?_
        refine lv_iload_n hx hb dX0_wakers_22 rfl (lv_at hl 0 rfl) ?_
        refine lv_iadd hx hb dX0_wakers_23 ?_
        obtain ⟨h_2, hG⟩ := q_ix hG
        refine va_iald hx hb hK hP 1 0 rfl rfl (i := (88 + x2_4)) h_2 dX0_wakers_24 ?_
        refine q_top (y := (fr (88 + x2_4).toNatClampNeg)) rfl ?_
        refine lv_iconst (v := 1) hx hb dX0_wakers_25 (by decide) ?_
        refine lv_icmp_ne (tgt := 43) hx hb dX0_wakers_26 (by decide) (fun c_3 => ?_) (fun c_3 => ?_)
        · have hG := q_ifn c_3 hG
          refine lv_iconst (v := 0) hx hb dX0_wakers_43 (by decide) ?_
          refine lv_ior hx hb dX0_wakers_44 ?_
          refine lv_istore_n (lv' := [(1, .int (x1_4 ||| 0)), (2, .int x2_4), (0, .ref g)]) hx hb dX0_wakers_45 rfl hl (by decide) rfl (fun ls hl => ?_)
          refine lv_iinc (v := (x2_4 + 1)) (lv' := [(2, .int (x2_4 + 1)), (1, .int (x1_4 ||| 0)), (0, .ref g)]) hx hb dX0_wakers_46 hl (k := 1) rfl (rfl) (by decide) rfl (fun ls hl => ?_)
          refine lv_goto (tgt := 4) hx hb dX0_wakers_49 (by decide) ?_
          exact ih_4 (x1_4 ||| 0) (x2_4 + 1) H locs ls hG hP hS (lv_sub hl [0, 1, 2] rfl)
        · have hG := q_ifp c_3 hG
          refine lv_aload_n hx hb dX0_wakers_29 rfl (lv_at hl 2 rfl) ?_
          refine lv_iload_n hx hb dX0_wakers_30 rfl (lv_at hl 0 rfl) ?_
          obtain ⟨o_4, r_5, hG⟩ := q_bi hG
          refine q_goi (v := o_4) (va_runV (As := [.int x2_4]) (rest := [.int x1_4]) ⟨hx, hb, hml, hown, hts⟩ (c_X0_canWake l dC dI g r0 h r1 r2 dv c0 fr c1 c2 fu fp x2_4 o_4 r_5) (cwV 1 hts (q_gV m_748 m_749 m_750 m_33 m_751) rfl rfl rfl hdV_yX0_canWake_1 ⟨Nat.le_of_ble_eq_true rfl, Nat.le_of_ble_eq_true rfl⟩) (q_preV hK hP (q := (RX0, TX0, 2)) (ci := 0) (q0 := 0) rfl rfl [0, 1, 2, 3, 4] rfl [0, 1, 2] rfl) rfl rfl hl.1 rfl (lv_room (Nat.le_of_ble_eq_true rfl)) dX0_wakers_31 ⟨Nat.le_of_ble_eq_true rfl, Nat.le_of_ble_eq_true rfl⟩) hP hS (fun H locs hP hS => ?_)
          refine lv_if_eq (tgt := 43) hx hb dX0_wakers_34 (by decide) (fun c_6 => ?_) (fun c_6 => ?_)
          · have hG := q_ifp c_6 hG
            refine lv_iconst (v := 0) hx hb dX0_wakers_43 (by decide) ?_
            refine lv_ior hx hb dX0_wakers_44 ?_
            refine lv_istore_n (lv' := [(1, .int (x1_4 ||| 0)), (2, .int x2_4), (0, .ref g)]) hx hb dX0_wakers_45 rfl hl (by decide) rfl (fun ls hl => ?_)
            refine lv_iinc (v := (x2_4 + 1)) (lv' := [(2, .int (x2_4 + 1)), (1, .int (x1_4 ||| 0)), (0, .ref g)]) hx hb dX0_wakers_46 hl (k := 1) rfl (rfl) (by decide) rfl (fun ls hl => ?_)
            refine lv_goto (tgt := 4) hx hb dX0_wakers_49 (by decide) ?_
            exact ih_4 (x1_4 ||| 0) (x2_4 + 1) H locs ls hG hP hS (lv_sub hl [0, 1, 2] rfl)
          · have hG := q_ifn c_6 hG
            refine lv_iconst (v := 1) hx hb dX0_wakers_37 (by decide) ?_
            refine lv_iload_n hx hb dX0_wakers_38 rfl (lv_at hl 0 rfl) ?_
            refine lv_ishl hx hb dX0_wakers_39 ?_
            refine lv_goto (tgt := 44) hx hb dX0_wakers_40 (by decide) ?_
            refine lv_ior hx hb dX0_wakers_44 ?_
            refine lv_istore_n (lv' := [(1, .int (x1_4 ||| (1 <<< (x2_4 &&& 31)))), (2, .int x2_4), (0, .ref g)]) hx hb dX0_wakers_45 rfl hl (by decide) rfl (fun ls hl => ?_)
            refine lv_iinc (v := (x2_4 + 1)) (lv' := [(2, .int (x2_4 + 1)), (1, .int (x1_4 ||| (1 <<< (x2_4 &&& 31)))), (0, .ref g)]) hx hb dX0_wakers_46 hl (k := 1) rfl (rfl) (by decide) rfl (fun ls hl => ?_)
            refine lv_goto (tgt := 4) hx hb dX0_wakers_49 (by decide) ?_
            exact ih_4 (x1_4 ||| (1 <<< (x2_4 &&& 31))) (x2_4 + 1) H locs ls hG hP hS (lv_sub hl [0, 1, 2] rfl)
  exact L_4 1000 0 0 s.heap [] ls hG hP hS hl

def F_X0_barOfTicks (fr : Nat → Int32) (dv : Int32) (fu : Nat → Int32) (fp : Nat → Int32) (d : Int32) : Option (Int32) := ((F_X5_isTold dv).bind fun o_1 => (if o_1 = 0 then some (0) else (if d < 1 then some (1) else (if d ≤ 60 then (if ((fr 96) + d) ≤ 9999 then some ((-1)) else some (3)) else some (1)))))
set_option maxHeartbeats 4000000 in
set_option maxRecDepth 100000 in
theorem c_X0_barOfTicks (l : Launch) (dC : Nat → ClassId) (dI : Nat → Nat → Nat) (g : Nat) (r0 : Nat) (h : Nat) (r1 : Nat) (r2 : Nat) (dv : Int32) (c0 : ClassId) (fr : Nat → Int32) (c1 : ClassId) (c2 : ClassId) (fu : Nat → Int32) (fp : Nat → Int32) (d : Int32) (o : Int32) (hG : F_X0_barOfTicks fr dv fu fp d = some o) : Met l yX0_barOfTicks (.code yX0_barOfTicks cX0_barOfTicks 2 (some .int) :: wA) ({ frames := 1, cells := 0, slots := 0, locals := 20 }) (va_Pc [.ref g, .int d] (q_R (dC, dI) [(g, .inr (0, [.ref r0, .ref h])), (r0, .inl (c0, 98, .inl fr)), (h, .inr (5, [.ref r1, .ref r2, .int dv])), (r1, .inl (c1, 8, .inl fu)), (r2, .inl (c2, 48, .inl fp))] [(c0, .int), (c1, .int), (c2, .int)])) (q_i o) 0 0 (fun _ => False) := by
  refine Met.ofW (cc := cX0_barOfTicks) (maxL := 2) (ret := (some .int)) (by decide) rfl ?_
  intro p e s m args below meth c s₁ B hml hv
  obtain ⟨rfl, hP, hK⟩ := hv
  have hx := B.exec
  have hb := B.bytes
  have hr := B.returns
  have hts := atoms_spec (ws := .code yX0_barOfTicks cX0_barOfTicks 2 (some .int) :: wA) B.pre
  have hown : s.vm.findClass RX0 = some m.cls := findClass_of_methodNamed B.named
  have hlocks := B.notSynchronized
  have hS : va_S (fun _ => False) s.heap s.heap [] := va_S.rf
  have hl := lv_entry ([.ref g, .int d]) (n := 2) (Nat.le_of_ble_eq_true rfl)
  rw [lg_entry_eq]
  generalize (lg_sl ([.ref g, .int d]) ++ List.replicate (2 - (lg_sl ([.ref g, .int d])).length) Slot.unset).toArray = ls at hl ⊢
  have hl : lv_has ls 2 [(0, .ref g), (1, .int d)] := hl
  unfold F_X0_barOfTicks at hG
  refine lv_aload_n hx hb dX0_barOfTicks_0 rfl (lv_at hl 0 rfl) ?_
  refine va_get (D := (dC, dI)) (ci := 0) (v := .ref h) (C := RX0) (T := TX0) (N := 2) hx hb hts iA_0 hown hK hP 0 rfl rfl 1 (by decide) (hts (.fieldLink RX0 15 "HubTree$Bus" "plan" "LHubTree$Plan;") (List.mem_cons_of_mem _ m_89)) (fun _ h9 => h9) rfl dX0_barOfTicks_1 ?_
  obtain ⟨o_1, r_2, hG⟩ := q_bi hG
  refine q_goi (v := o_1) (va_runV (As := []) (rest := []) ⟨hx, hb, hml, hown, hts⟩ (c_X5_isTold l dC dI h r1 r2 dv o_1 r_2) (cwV 0 hts (q_gV m_734 m_300 m_301 m_24 m_302) rfl rfl rfl hdV_yX5_isTold_0 ⟨Nat.le_of_ble_eq_true rfl, Nat.le_of_ble_eq_true rfl⟩) (q_preV hK hP (q := (RX5, TX5, 3)) (ci := 5) (q0 := 2) rfl rfl [2] rfl [] rfl) rfl rfl hl.1 rfl (lv_room (Nat.le_of_ble_eq_true rfl)) dX0_barOfTicks_4 ⟨Nat.le_of_ble_eq_true rfl, Nat.le_of_ble_eq_true rfl⟩) hP hS (fun H locs hP hS => ?_)
  refine lv_if_ne (tgt := 12) hx hb dX0_barOfTicks_7 (by decide) (fun c_3 => ?_) (fun c_3 => ?_)
  · have hG := q_ifn c_3 hG
    refine lv_iload_n hx hb dX0_barOfTicks_12 rfl (lv_at hl 1 rfl) ?_
    refine lv_iconst (v := 1) hx hb dX0_barOfTicks_13 (by decide) ?_
    refine lv_icmp_lt (tgt := 23) hx hb dX0_barOfTicks_14 (by decide) (fun c_4 => ?_) (fun c_4 => ?_)
    · have hG := q_ifp c_4 hG
      refine lv_iconst (v := 1) hx hb dX0_barOfTicks_23 (by decide) ?_
      obtain rfl := Option.some.inj hG
      exact W.iret (v := 1) hx hb hr (fun t ht hW => ⟨⟨1, (), rfl, rfl, trivial⟩, hS.F ht⟩) hS.2.2 dX0_barOfTicks_24
    · have hG := q_ifn c_4 hG
      refine lv_iload_n hx hb dX0_barOfTicks_17 rfl (lv_at hl 1 rfl) ?_
      refine lv_bipush (v := 60) hx hb dX0_barOfTicks_18 (by decide) ?_
      refine lv_icmp_le (tgt := 25) hx hb dX0_barOfTicks_20 (by decide) (fun c_5 => ?_) (fun c_5 => ?_)
      · have hG := q_ifp c_5 hG
        refine lv_aload_n hx hb dX0_barOfTicks_25 rfl (lv_at hl 0 rfl) ?_
        refine va_get (D := (dC, dI)) (ci := 0) (v := .ref r0) (C := RX0) (T := TX0) (N := 2) hx hb hts iA_0 hown hK hP 0 rfl rfl 0 (by decide) (hts (.fieldLink RX0 11 "HubTree$Bus" "row" "[I") (List.mem_cons_of_mem _ m_88)) (fun _ h9 => h9) rfl dX0_barOfTicks_26 ?_
        refine lv_bipush (v := 96) hx hb dX0_barOfTicks_29 (by decide) ?_
        refine va_iald hx hb hK hP 1 0 rfl rfl (i := 96) (vp_in_iff.mpr (by decide)) dX0_barOfTicks_31 ?_
        refine q_top (y := (fr 96)) rfl ?_
        refine lv_iload_n hx hb dX0_barOfTicks_32 rfl (lv_at hl 1 rfl) ?_
        refine lv_iadd hx hb dX0_barOfTicks_33 ?_
        refine lv_sipush (v := 9999) hx hb dX0_barOfTicks_34 (by decide) ?_
        refine lv_icmp_le (tgt := 44) hx hb dX0_barOfTicks_37 (by decide) (fun c_6 => ?_) (fun c_6 => ?_)
        · have hG := q_ifp c_6 hG
          refine lv_iconst (v := (-1)) hx hb dX0_barOfTicks_44 (by decide) ?_
          obtain rfl := Option.some.inj hG
          exact W.iret (v := (-1)) hx hb hr (fun t ht hW => ⟨⟨(-1), (), rfl, rfl, trivial⟩, hS.F ht⟩) hS.2.2 dX0_barOfTicks_45
        · have hG := q_ifn c_6 hG
          refine lv_iconst (v := 3) hx hb dX0_barOfTicks_40 (by decide) ?_
          refine lv_goto (tgt := 45) hx hb dX0_barOfTicks_41 (by decide) ?_
          obtain rfl := Option.some.inj hG
          exact W.iret (v := 3) hx hb hr (fun t ht hW => ⟨⟨3, (), rfl, rfl, trivial⟩, hS.F ht⟩) hS.2.2 dX0_barOfTicks_45
      · have hG := q_ifn c_5 hG
        refine lv_iconst (v := 1) hx hb dX0_barOfTicks_23 (by decide) ?_
        obtain rfl := Option.some.inj hG
        exact W.iret (v := 1) hx hb hr (fun t ht hW => ⟨⟨1, (), rfl, rfl, trivial⟩, hS.F ht⟩) hS.2.2 dX0_barOfTicks_24
  · have hG := q_ifp c_3 hG
    refine lv_iconst (v := 0) hx hb dX0_barOfTicks_10 (by decide) ?_
    obtain rfl := Option.some.inj hG
    exact W.iret (v := 0) hx hb hr (fun t ht hW => ⟨⟨0, (), rfl, rfl, trivial⟩, hS.F ht⟩) hS.2.2 dX0_barOfTicks_11

def F_X0_barOfPlug (fr : Nat → Int32) (dv : Int32) (fu : Nat → Int32) (fp : Nat → Int32) (d : Int32) (ee : Int32) (e2 : Int32) : Option (Int32) := ((F_X5_isHub dv fu fp ee).bind fun o_1 => (if o_1 = 0 then some (0) else ((F_X5_hasPort dv fu fp ee e2).bind fun o_4 => (if o_4 = 0 then some (1) else ((F_X0_pluggedInto fr dv fu fp ee e2).bind fun o_7 => (if o_7 = (-1) then (if (0 + d) < 0 ∨ 98 ≤ ((0 + d)).toNatClampNeg then none else (if (fr (0 + d).toNatClampNeg) = 0 then ((F_X0_is fr dv fu fp ee 0).bind fun o_12 => (if o_12 = 0 then some ((-1)) else some (2))) else some (2))) else (if (0 + d) < 0 ∨ 98 ≤ ((0 + d)).toNatClampNeg then none else (if (fr (0 + d).toNatClampNeg) = 0 then ((F_X0_is fr dv fu fp ee 0).bind fun o_18 => (if o_18 = 0 then some (2) else some (2))) else some (2)))))))))
set_option maxHeartbeats 4000000 in
set_option maxRecDepth 100000 in
theorem c_X0_barOfPlug (l : Launch) (dC : Nat → ClassId) (dI : Nat → Nat → Nat) (g : Nat) (r0 : Nat) (h : Nat) (r1 : Nat) (r2 : Nat) (dv : Int32) (c0 : ClassId) (fr : Nat → Int32) (c1 : ClassId) (c2 : ClassId) (fu : Nat → Int32) (fp : Nat → Int32) (d : Int32) (ee : Int32) (e2 : Int32) (o : Int32) (hG : F_X0_barOfPlug fr dv fu fp d ee e2 = some o) : Met l yX0_barOfPlug (.code yX0_barOfPlug cX0_barOfPlug 5 (some .int) :: wA) ({ frames := 2, cells := 0, slots := 0, locals := 43 }) (va_Pc [.ref g, .int d, .int ee, .int e2] (q_R (dC, dI) [(g, .inr (0, [.ref r0, .ref h])), (r0, .inl (c0, 98, .inl fr)), (h, .inr (5, [.ref r1, .ref r2, .int dv])), (r1, .inl (c1, 8, .inl fu)), (r2, .inl (c2, 48, .inl fp))] [(c0, .int), (c1, .int), (c2, .int)])) (q_i o) 0 0 (fun _ => False) := by
  refine Met.ofW (cc := cX0_barOfPlug) (maxL := 5) (ret := (some .int)) (by decide) rfl ?_
  intro p e s m args below meth c s₁ B hml hv
  obtain ⟨rfl, hP, hK⟩ := hv
  have hx := B.exec
  have hb := B.bytes
  have hr := B.returns
  have hts := atoms_spec (ws := .code yX0_barOfPlug cX0_barOfPlug 5 (some .int) :: wA) B.pre
  have hown : s.vm.findClass RX0 = some m.cls := findClass_of_methodNamed B.named
  have hlocks := B.notSynchronized
  have hS : va_S (fun _ => False) s.heap s.heap [] := va_S.rf
  have hl := lv_entry ([.ref g, .int d, .int ee, .int e2]) (n := 5) (Nat.le_of_ble_eq_true rfl)
  rw [lg_entry_eq]
  generalize (lg_sl ([.ref g, .int d, .int ee, .int e2]) ++ List.replicate (5 - (lg_sl ([.ref g, .int d, .int ee, .int e2])).length) Slot.unset).toArray = ls at hl ⊢
  have hl : lv_has ls 5 [(0, .ref g), (1, .int d), (2, .int ee), (3, .int e2)] := hl
  unfold F_X0_barOfPlug at hG
  refine lv_aload_n hx hb dX0_barOfPlug_0 rfl (lv_at hl 0 rfl) ?_
  refine va_get (D := (dC, dI)) (ci := 0) (v := .ref h) (C := RX0) (T := TX0) (N := 2) hx hb hts iA_0 hown hK hP 0 rfl rfl 1 (by decide) (hts (.fieldLink RX0 15 "HubTree$Bus" "plan" "LHubTree$Plan;") (List.mem_cons_of_mem _ m_89)) (fun _ h9 => h9) rfl dX0_barOfPlug_1 ?_
  refine lv_iload_n hx hb dX0_barOfPlug_4 rfl (lv_at hl 2 rfl) ?_
  obtain ⟨o_1, r_2, hG⟩ := q_bi hG
  refine q_goi (v := o_1) (va_runV (As := [.int ee]) (rest := []) ⟨hx, hb, hml, hown, hts⟩ (c_X5_isHub l dC dI h r1 r2 dv c1 c2 fu fp ee o_1 r_2) (cwV 1 hts (q_gV m_740 m_558 m_559 m_24 m_560) rfl rfl rfl hdV_yX5_isHub_1 ⟨Nat.le_of_ble_eq_true rfl, Nat.le_of_ble_eq_true rfl⟩) (q_preV hK hP (q := (RX5, TX5, 3)) (ci := 5) (q0 := 2) rfl rfl [2, 3, 4] rfl [1, 2] rfl) rfl rfl hl.1 rfl (lv_room (Nat.le_of_ble_eq_true rfl)) dX0_barOfPlug_5 ⟨Nat.le_of_ble_eq_true rfl, Nat.le_of_ble_eq_true rfl⟩) hP hS (fun H locs hP hS => ?_)
  refine lv_if_ne (tgt := 13) hx hb dX0_barOfPlug_8 (by decide) (fun c_3 => ?_) (fun c_3 => ?_)
  · have hG := q_ifn c_3 hG
    refine lv_aload_n hx hb dX0_barOfPlug_13 rfl (lv_at hl 0 rfl) ?_
    refine va_get (D := (dC, dI)) (ci := 0) (v := .ref h) (C := RX0) (T := TX0) (N := 2) hx hb hts iA_0 hown hK hP 0 rfl rfl 1 (by decide) (hts (.fieldLink RX0 15 "HubTree$Bus" "plan" "LHubTree$Plan;") (List.mem_cons_of_mem _ m_89)) (fun _ h9 => h9) rfl dX0_barOfPlug_14 ?_
    refine lv_iload_n hx hb dX0_barOfPlug_17 rfl (lv_at hl 2 rfl) ?_
    refine lv_iload_n hx hb dX0_barOfPlug_18 rfl (lv_at hl 3 rfl) ?_
    obtain ⟨o_4, r_5, hG⟩ := q_bi hG
    refine q_goi (v := o_4) (va_runV (As := [.int ee, .int e2]) (rest := []) ⟨hx, hb, hml, hown, hts⟩ (c_X5_hasPort l dC dI h r1 r2 dv c1 c2 fu fp ee e2 o_4 r_5) (cwV 2 hts (q_gV m_741 m_525 m_526 m_24 m_527) rfl rfl rfl hdV_yX5_hasPort_2 ⟨Nat.le_of_ble_eq_true rfl, Nat.le_of_ble_eq_true rfl⟩) (q_preV hK hP (q := (RX5, TX5, 3)) (ci := 5) (q0 := 2) rfl rfl [2, 3, 4] rfl [1, 2] rfl) rfl rfl hl.1 rfl (lv_room (Nat.le_of_ble_eq_true rfl)) dX0_barOfPlug_19 ⟨Nat.le_of_ble_eq_true rfl, Nat.le_of_ble_eq_true rfl⟩) hP hS (fun H locs hP hS => ?_)
    refine lv_if_ne (tgt := 27) hx hb dX0_barOfPlug_22 (by decide) (fun c_6 => ?_) (fun c_6 => ?_)
    · have hG := q_ifn c_6 hG
      refine lv_aload_n hx hb dX0_barOfPlug_27 rfl (lv_at hl 0 rfl) ?_
      refine lv_iload_n hx hb dX0_barOfPlug_28 rfl (lv_at hl 2 rfl) ?_
      refine lv_iload_n hx hb dX0_barOfPlug_29 rfl (lv_at hl 3 rfl) ?_
      obtain ⟨o_7, r_8, hG⟩ := q_bi hG
      refine q_goi (v := o_7) (va_runV (As := [.int ee, .int e2]) (rest := []) ⟨hx, hb, hml, hown, hts⟩ (c_X0_pluggedInto l dC dI g r0 h r1 r2 dv c0 fr c1 c2 fu fp ee e2 o_7 r_8) (cwV 2 hts (q_gV m_742 m_533 m_534 m_33 m_535) rfl rfl rfl hdV_yX0_pluggedInto_2 ⟨Nat.le_of_ble_eq_true rfl, Nat.le_of_ble_eq_true rfl⟩) (q_preV hK hP (q := (RX0, TX0, 2)) (ci := 0) (q0 := 0) rfl rfl [0, 1, 2, 3, 4] rfl [0, 1, 2] rfl) rfl rfl hl.1 rfl (lv_room (Nat.le_of_ble_eq_true rfl)) dX0_barOfPlug_30 ⟨Nat.le_of_ble_eq_true rfl, Nat.le_of_ble_eq_true rfl⟩) hP hS (fun H locs hP hS => ?_)
      refine lv_iconst (v := (-1)) hx hb dX0_barOfPlug_33 (by decide) ?_
      refine lv_icmp_eq (tgt := 41) hx hb dX0_barOfPlug_34 (by decide) (fun c_9 => ?_) (fun c_9 => ?_)
      · have hG := q_ifp c_9 hG
        refine lv_iconst (v := 0) hx hb dX0_barOfPlug_41 (by decide) ?_
        refine lv_istore (lv' := [(4, .int 0), (0, .ref g), (1, .int d), (2, .int ee), (3, .int e2)]) hx hb dX0_barOfPlug_42 hl (by decide) rfl (fun ls hl => ?_)
        refine lv_aload_n hx hb dX0_barOfPlug_44 rfl (lv_at hl 1 rfl) ?_
        refine va_get (D := (dC, dI)) (ci := 0) (v := .ref r0) (C := RX0) (T := TX0) (N := 2) hx hb hts iA_0 hown hK hP 0 rfl rfl 0 (by decide) (hts (.fieldLink RX0 11 "HubTree$Bus" "row" "[I") (List.mem_cons_of_mem _ m_88)) (fun _ h9 => h9) rfl dX0_barOfPlug_45 ?_
        refine lv_iconst (v := 0) hx hb dX0_barOfPlug_48 (by decide) ?_
        refine lv_iload_n hx hb dX0_barOfPlug_49 rfl (lv_at hl 2 rfl) ?_
        refine lv_iadd hx hb dX0_barOfPlug_50 ?_
        obtain ⟨h_10, hG⟩ := q_ix hG
        refine va_iald hx hb hK hP 1 0 rfl rfl (i := (0 + d)) h_10 dX0_barOfPlug_51 ?_
        refine q_top (y := (fr (0 + d).toNatClampNeg)) rfl ?_
        refine lv_if_ne (tgt := 69) hx hb dX0_barOfPlug_52 (by decide) (fun c_11 => ?_) (fun c_11 => ?_)
        · have hG := q_ifn c_11 hG
          refine lv_iconst (v := 2) hx hb dX0_barOfPlug_69 (by decide) ?_
          refine lv_goto (tgt := 74) hx hb dX0_barOfPlug_70 (by decide) ?_
          obtain rfl := Option.some.inj hG
          exact W.iret (v := 2) hx hb hr (fun t ht hW => ⟨⟨2, (), rfl, rfl, trivial⟩, hS.F ht⟩) hS.2.2 dX0_barOfPlug_74
        · have hG := q_ifp c_11 hG
          refine lv_aload_n hx hb dX0_barOfPlug_55 rfl (lv_at hl 1 rfl) ?_
          refine lv_iload_n hx hb dX0_barOfPlug_56 rfl (lv_at hl 3 rfl) ?_
          refine lv_iconst (v := 0) hx hb dX0_barOfPlug_57 (by decide) ?_
          obtain ⟨o_12, r_13, hG⟩ := q_bi hG
          refine q_goi (v := o_12) (va_runV (As := [.int ee, .int 0]) (rest := []) ⟨hx, hb, hml, hown, hts⟩ (c_X0_is l dC dI g r0 h r1 r2 dv c0 fr c1 c2 fu fp ee 0 o_12 r_13) (cwV 2 hts (q_gV m_743 m_583 m_584 m_33 m_585) rfl rfl rfl hdV_yX0_is_2 ⟨Nat.le_of_ble_eq_true rfl, Nat.le_of_ble_eq_true rfl⟩) (q_preV hK hP (q := (RX0, TX0, 2)) (ci := 0) (q0 := 0) rfl rfl [0, 1, 2, 3, 4] rfl [0, 1, 2] rfl) rfl rfl hl.1 rfl (lv_room (Nat.le_of_ble_eq_true rfl)) dX0_barOfPlug_58 ⟨Nat.le_of_ble_eq_true rfl, Nat.le_of_ble_eq_true rfl⟩) hP hS (fun H locs hP hS => ?_)
          refine lv_if_ne (tgt := 69) hx hb dX0_barOfPlug_61 (by decide) (fun c_14 => ?_) (fun c_14 => ?_)
          · have hG := q_ifn c_14 hG
            refine lv_iconst (v := 2) hx hb dX0_barOfPlug_69 (by decide) ?_
            refine lv_goto (tgt := 74) hx hb dX0_barOfPlug_70 (by decide) ?_
            obtain rfl := Option.some.inj hG
            exact W.iret (v := 2) hx hb hr (fun t ht hW => ⟨⟨2, (), rfl, rfl, trivial⟩, hS.F ht⟩) hS.2.2 dX0_barOfPlug_74
          · have hG := q_ifp c_14 hG
            refine lv_iload hx hb dX0_barOfPlug_64 (lv_at hl 0 rfl) ?_
            refine lv_if_eq (tgt := 73) hx hb dX0_barOfPlug_66 (by decide) (fun c_15 => ?_) (fun c_15 => ?_)
            rotate_left
            · exact absurd (by decide) c_15
            refine lv_iconst (v := (-1)) hx hb dX0_barOfPlug_73 (by decide) ?_
            obtain rfl := Option.some.inj hG
            exact W.iret (v := (-1)) hx hb hr (fun t ht hW => ⟨⟨(-1), (), rfl, rfl, trivial⟩, hS.F ht⟩) hS.2.2 dX0_barOfPlug_74
      · have hG := q_ifn c_9 hG
        refine lv_iconst (v := 1) hx hb dX0_barOfPlug_37 (by decide) ?_
        refine lv_goto (tgt := 42) hx hb dX0_barOfPlug_38 (by decide) ?_
        refine lv_istore (lv' := [(4, .int 1), (0, .ref g), (1, .int d), (2, .int ee), (3, .int e2)]) hx hb dX0_barOfPlug_42 hl (by decide) rfl (fun ls hl => ?_)
        refine lv_aload_n hx hb dX0_barOfPlug_44 rfl (lv_at hl 1 rfl) ?_
        refine va_get (D := (dC, dI)) (ci := 0) (v := .ref r0) (C := RX0) (T := TX0) (N := 2) hx hb hts iA_0 hown hK hP 0 rfl rfl 0 (by decide) (hts (.fieldLink RX0 11 "HubTree$Bus" "row" "[I") (List.mem_cons_of_mem _ m_88)) (fun _ h9 => h9) rfl dX0_barOfPlug_45 ?_
        refine lv_iconst (v := 0) hx hb dX0_barOfPlug_48 (by decide) ?_
        refine lv_iload_n hx hb dX0_barOfPlug_49 rfl (lv_at hl 2 rfl) ?_
        refine lv_iadd hx hb dX0_barOfPlug_50 ?_
        obtain ⟨h_16, hG⟩ := q_ix hG
        refine va_iald hx hb hK hP 1 0 rfl rfl (i := (0 + d)) h_16 dX0_barOfPlug_51 ?_
        refine q_top (y := (fr (0 + d).toNatClampNeg)) rfl ?_
        refine lv_if_ne (tgt := 69) hx hb dX0_barOfPlug_52 (by decide) (fun c_17 => ?_) (fun c_17 => ?_)
        · have hG := q_ifn c_17 hG
          refine lv_iconst (v := 2) hx hb dX0_barOfPlug_69 (by decide) ?_
          refine lv_goto (tgt := 74) hx hb dX0_barOfPlug_70 (by decide) ?_
          obtain rfl := Option.some.inj hG
          exact W.iret (v := 2) hx hb hr (fun t ht hW => ⟨⟨2, (), rfl, rfl, trivial⟩, hS.F ht⟩) hS.2.2 dX0_barOfPlug_74
        · have hG := q_ifp c_17 hG
          refine lv_aload_n hx hb dX0_barOfPlug_55 rfl (lv_at hl 1 rfl) ?_
          refine lv_iload_n hx hb dX0_barOfPlug_56 rfl (lv_at hl 3 rfl) ?_
          refine lv_iconst (v := 0) hx hb dX0_barOfPlug_57 (by decide) ?_
          obtain ⟨o_18, r_19, hG⟩ := q_bi hG
          refine q_goi (v := o_18) (va_runV (As := [.int ee, .int 0]) (rest := []) ⟨hx, hb, hml, hown, hts⟩ (c_X0_is l dC dI g r0 h r1 r2 dv c0 fr c1 c2 fu fp ee 0 o_18 r_19) (cwV 2 hts (q_gV m_743 m_583 m_584 m_33 m_585) rfl rfl rfl hdV_yX0_is_2 ⟨Nat.le_of_ble_eq_true rfl, Nat.le_of_ble_eq_true rfl⟩) (q_preV hK hP (q := (RX0, TX0, 2)) (ci := 0) (q0 := 0) rfl rfl [0, 1, 2, 3, 4] rfl [0, 1, 2] rfl) rfl rfl hl.1 rfl (lv_room (Nat.le_of_ble_eq_true rfl)) dX0_barOfPlug_58 ⟨Nat.le_of_ble_eq_true rfl, Nat.le_of_ble_eq_true rfl⟩) hP hS (fun H locs hP hS => ?_)
          refine lv_if_ne (tgt := 69) hx hb dX0_barOfPlug_61 (by decide) (fun c_20 => ?_) (fun c_20 => ?_)
          · have hG := q_ifn c_20 hG
            refine lv_iconst (v := 2) hx hb dX0_barOfPlug_69 (by decide) ?_
            refine lv_goto (tgt := 74) hx hb dX0_barOfPlug_70 (by decide) ?_
            obtain rfl := Option.some.inj hG
            exact W.iret (v := 2) hx hb hr (fun t ht hW => ⟨⟨2, (), rfl, rfl, trivial⟩, hS.F ht⟩) hS.2.2 dX0_barOfPlug_74
          · have hG := q_ifp c_20 hG
            refine lv_iload hx hb dX0_barOfPlug_64 (lv_at hl 0 rfl) ?_
            refine lv_if_eq (tgt := 73) hx hb dX0_barOfPlug_66 (by decide) (fun c_21 => ?_) (fun c_21 => ?_)
            · exact absurd c_21 (by decide)
            refine lv_iconst (v := 2) hx hb dX0_barOfPlug_69 (by decide) ?_
            refine lv_goto (tgt := 74) hx hb dX0_barOfPlug_70 (by decide) ?_
            obtain rfl := Option.some.inj hG
            exact W.iret (v := 2) hx hb hr (fun t ht hW => ⟨⟨2, (), rfl, rfl, trivial⟩, hS.F ht⟩) hS.2.2 dX0_barOfPlug_74
    · have hG := q_ifp c_6 hG
      refine lv_iconst (v := 1) hx hb dX0_barOfPlug_25 (by decide) ?_
      obtain rfl := Option.some.inj hG
      exact W.iret (v := 1) hx hb hr (fun t ht hW => ⟨⟨1, (), rfl, rfl, trivial⟩, hS.F ht⟩) hS.2.2 dX0_barOfPlug_26
  · have hG := q_ifp c_3 hG
    refine lv_iconst (v := 0) hx hb dX0_barOfPlug_11 (by decide) ?_
    obtain rfl := Option.some.inj hG
    exact W.iret (v := 0) hx hb hr (fun t ht hW => ⟨⟨0, (), rfl, rfl, trivial⟩, hS.F ht⟩) hS.2.2 dX0_barOfPlug_12

def F_X0_barOfError (fr : Nat → Int32) (dv : Int32) (fu : Nat → Int32) (fp : Nat → Int32) (d : Int32) (ee : Int32) : Option (Int32) := (if ee < 0 then some (1) else (if ee ≤ 3 then (if (80 + d) < 0 ∨ 98 ≤ ((80 + d)).toNatClampNeg then none else (if (fr (80 + d).toNatClampNeg) = ee then some (2) else some ((-1)))) else some (1)))
set_option maxHeartbeats 4000000 in
set_option maxRecDepth 100000 in
theorem c_X0_barOfError (l : Launch) (dC : Nat → ClassId) (dI : Nat → Nat → Nat) (g : Nat) (r0 : Nat) (h : Nat) (r1 : Nat) (r2 : Nat) (dv : Int32) (c0 : ClassId) (fr : Nat → Int32) (c1 : ClassId) (c2 : ClassId) (fu : Nat → Int32) (fp : Nat → Int32) (d : Int32) (ee : Int32) (o : Int32) (hG : F_X0_barOfError fr dv fu fp d ee = some o) : Met l yX0_barOfError (.code yX0_barOfError cX0_barOfError 3 (some .int) :: wA) ({ frames := 0, cells := 0, slots := 0, locals := 0 }) (va_Pc [.ref g, .int d, .int ee] (q_R (dC, dI) [(g, .inr (0, [.ref r0, .ref h])), (r0, .inl (c0, 98, .inl fr)), (h, .inr (5, [.ref r1, .ref r2, .int dv])), (r1, .inl (c1, 8, .inl fu)), (r2, .inl (c2, 48, .inl fp))] [(c0, .int), (c1, .int), (c2, .int)])) (q_i o) 0 0 (fun _ => False) := by
  refine Met.ofW (cc := cX0_barOfError) (maxL := 3) (ret := (some .int)) (by decide) rfl ?_
  intro p e s m args below meth c s₁ B hml hv
  obtain ⟨rfl, hP, hK⟩ := hv
  have hx := B.exec
  have hb := B.bytes
  have hr := B.returns
  have hts := atoms_spec (ws := .code yX0_barOfError cX0_barOfError 3 (some .int) :: wA) B.pre
  have hown : s.vm.findClass RX0 = some m.cls := findClass_of_methodNamed B.named
  have hlocks := B.notSynchronized
  have hS : va_S (fun _ => False) s.heap s.heap [] := va_S.rf
  have hl := lv_entry ([.ref g, .int d, .int ee]) (n := 3) (Nat.le_of_ble_eq_true rfl)
  rw [lg_entry_eq]
  generalize (lg_sl ([.ref g, .int d, .int ee]) ++ List.replicate (3 - (lg_sl ([.ref g, .int d, .int ee])).length) Slot.unset).toArray = ls at hl ⊢
  have hl : lv_has ls 3 [(0, .ref g), (1, .int d), (2, .int ee)] := hl
  unfold F_X0_barOfError at hG
  refine lv_iload_n hx hb dX0_barOfError_0 rfl (lv_at hl 2 rfl) ?_
  refine lv_if_lt (tgt := 9) hx hb dX0_barOfError_1 (by decide) (fun c_1 => ?_) (fun c_1 => ?_)
  · have hG := q_ifp c_1 hG
    refine lv_iconst (v := 1) hx hb dX0_barOfError_9 (by decide) ?_
    obtain rfl := Option.some.inj hG
    exact W.iret (v := 1) hx hb hr (fun t ht hW => ⟨⟨1, (), rfl, rfl, trivial⟩, hS.F ht⟩) hS.2.2 dX0_barOfError_10
  · have hG := q_ifn c_1 hG
    refine lv_iload_n hx hb dX0_barOfError_4 rfl (lv_at hl 2 rfl) ?_
    refine lv_iconst (v := 3) hx hb dX0_barOfError_5 (by decide) ?_
    refine lv_icmp_le (tgt := 11) hx hb dX0_barOfError_6 (by decide) (fun c_2 => ?_) (fun c_2 => ?_)
    · have hG := q_ifp c_2 hG
      refine lv_aload_n hx hb dX0_barOfError_11 rfl (lv_at hl 0 rfl) ?_
      refine va_get (D := (dC, dI)) (ci := 0) (v := .ref r0) (C := RX0) (T := TX0) (N := 2) hx hb hts iA_0 hown hK hP 0 rfl rfl 0 (by decide) (hts (.fieldLink RX0 11 "HubTree$Bus" "row" "[I") (List.mem_cons_of_mem _ m_88)) (fun _ h9 => h9) rfl dX0_barOfError_12 ?_
      refine lv_bipush (v := 80) hx hb dX0_barOfError_15 (by decide) ?_
      refine lv_iload_n hx hb dX0_barOfError_17 rfl (lv_at hl 1 rfl) ?_
      refine lv_iadd hx hb dX0_barOfError_18 ?_
      obtain ⟨h_3, hG⟩ := q_ix hG
      refine va_iald hx hb hK hP 1 0 rfl rfl (i := (80 + d)) h_3 dX0_barOfError_19 ?_
      refine q_top (y := (fr (80 + d).toNatClampNeg)) rfl ?_
      refine lv_iload_n hx hb dX0_barOfError_20 rfl (lv_at hl 2 rfl) ?_
      refine lv_icmp_ne (tgt := 28) hx hb dX0_barOfError_21 (by decide) (fun c_4 => ?_) (fun c_4 => ?_)
      · have hG := q_ifn c_4 hG
        refine lv_iconst (v := (-1)) hx hb dX0_barOfError_28 (by decide) ?_
        obtain rfl := Option.some.inj hG
        exact W.iret (v := (-1)) hx hb hr (fun t ht hW => ⟨⟨(-1), (), rfl, rfl, trivial⟩, hS.F ht⟩) hS.2.2 dX0_barOfError_29
      · have hG := q_ifp c_4 hG
        refine lv_iconst (v := 2) hx hb dX0_barOfError_24 (by decide) ?_
        refine lv_goto (tgt := 29) hx hb dX0_barOfError_25 (by decide) ?_
        obtain rfl := Option.some.inj hG
        exact W.iret (v := 2) hx hb hr (fun t ht hW => ⟨⟨2, (), rfl, rfl, trivial⟩, hS.F ht⟩) hS.2.2 dX0_barOfError_29
    · have hG := q_ifn c_2 hG
      refine lv_iconst (v := 1) hx hb dX0_barOfError_9 (by decide) ?_
      obtain rfl := Option.some.inj hG
      exact W.iret (v := 1) hx hb hr (fun t ht hW => ⟨⟨1, (), rfl, rfl, trivial⟩, hS.F ht⟩) hS.2.2 dX0_barOfError_10

def F_X0_barOf (fr : Nat → Int32) (dv : Int32) (fu : Nat → Int32) (fp : Nat → Int32) (z : Int32) (d : Int32) (ee : Int32) (e2 : Int32) : Option (Int32) := (if z = 2 then ((F_X0_barOfTicks fr dv fu fp d).bind fun o_43 => some (o_43)) else ((F_X5_has dv d).bind fun o_2 => (if o_2 = 0 then some (0) else (if z = 0 then ((F_X0_barOfPlug fr dv fu fp d ee e2).bind fun o_6 => some (o_6)) else (if z = 1 then (if (0 + d) < 0 ∨ 98 ≤ ((0 + d)).toNatClampNeg then none else (if (fr (0 + d).toNatClampNeg) = 0 then some (2) else some ((-1)))) else (if z = 2 then (if (88 + d) < 0 ∨ 98 ≤ ((88 + d)).toNatClampNeg then none else (if (fr (88 + d).toNatClampNeg) = 1 then ((F_X0_canWake fr dv fu fp d).bind fun o_19 => (if o_19 = 0 then some (2) else some ((-1)))) else ((F_X0_canFallAsleep fr dv fu fp d).bind fun o_16 => (if o_16 = 0 then some (2) else some ((-1)))))) else (if z = 3 then (if (24 + d) < 0 ∨ 48 ≤ ((24 + d)).toNatClampNeg then none else (if (fp (24 + d).toNatClampNeg) = 1 then some ((-1)) else some (2))) else (if z = 4 then ((F_X0_barOfError fr dv fu fp d ee).bind fun o_28 => some (o_28)) else (if z = 5 then (if (0 + d) < 0 ∨ 98 ≤ ((0 + d)).toNatClampNeg then none else (if (fr (0 + d).toNatClampNeg) = 7 then some ((-1)) else some (2))) else (if (88 + d) < 0 ∨ 98 ≤ ((88 + d)).toNatClampNeg then none else (if (fr (88 + d).toNatClampNeg) = 1 then ((F_X0_canWake fr dv fu fp d).bind fun o_40 => (if o_40 = 0 then some (2) else some ((-1)))) else ((F_X0_canFallAsleep fr dv fu fp d).bind fun o_37 => (if o_37 = 0 then some (2) else some ((-1)))))))))))))))
set_option maxHeartbeats 4000000 in
set_option maxRecDepth 100000 in
theorem c_X0_barOf (l : Launch) (dC : Nat → ClassId) (dI : Nat → Nat → Nat) (g : Nat) (r0 : Nat) (h : Nat) (r1 : Nat) (r2 : Nat) (dv : Int32) (c0 : ClassId) (fr : Nat → Int32) (c1 : ClassId) (c2 : ClassId) (fu : Nat → Int32) (fp : Nat → Int32) (z : Int32) (d : Int32) (ee : Int32) (e2 : Int32) (o : Int32) (hG : F_X0_barOf fr dv fu fp z d ee e2 = some o) : Met l yX0_barOf (.code yX0_barOf cX0_barOf 6 (some .int) :: wA) ({ frames := 4, cells := 0, slots := 0, locals := 91 }) (va_Pc [.ref g, .int z, .int d, .int ee, .int e2] (q_R (dC, dI) [(g, .inr (0, [.ref r0, .ref h])), (r0, .inl (c0, 98, .inl fr)), (h, .inr (5, [.ref r1, .ref r2, .int dv])), (r1, .inl (c1, 8, .inl fu)), (r2, .inl (c2, 48, .inl fp))] [(c0, .int), (c1, .int), (c2, .int)])) (q_i o) 0 0 (fun _ => False) := by
  refine Met.ofW (cc := cX0_barOf) (maxL := 6) (ret := (some .int)) (by decide) rfl ?_
  intro p e s m args below meth c s₁ B hml hv
  obtain ⟨rfl, hP, hK⟩ := hv
  have hx := B.exec
  have hb := B.bytes
  have hr := B.returns
  have hts := atoms_spec (ws := .code yX0_barOf cX0_barOf 6 (some .int) :: wA) B.pre
  have hown : s.vm.findClass RX0 = some m.cls := findClass_of_methodNamed B.named
  have hlocks := B.notSynchronized
  have hS : va_S (fun _ => False) s.heap s.heap [] := va_S.rf
  have hl := lv_entry ([.ref g, .int z, .int d, .int ee, .int e2]) (n := 6) (Nat.le_of_ble_eq_true rfl)
  rw [lg_entry_eq]
  generalize (lg_sl ([.ref g, .int z, .int d, .int ee, .int e2]) ++ List.replicate (6 - (lg_sl ([.ref g, .int z, .int d, .int ee, .int e2])).length) Slot.unset).toArray = ls at hl ⊢
  have hl : lv_has ls 6 [(0, .ref g), (1, .int z), (2, .int d), (3, .int ee), (4, .int e2)] := hl
  unfold F_X0_barOf at hG
  refine lv_iload_n hx hb dX0_barOf_0 rfl (lv_at hl 1 rfl) ?_
  refine lv_iconst (v := 2) hx hb dX0_barOf_1 (by decide) ?_
  refine lv_icmp_ne (tgt := 11) hx hb dX0_barOf_2 (by decide) (fun c_1 => ?_) (fun c_1 => ?_)
  · have hG := q_ifn c_1 hG
    refine lv_aload_n hx hb dX0_barOf_11 rfl (lv_at hl 0 rfl) ?_
    refine va_get (D := (dC, dI)) (ci := 0) (v := .ref h) (C := RX0) (T := TX0) (N := 2) hx hb hts iA_0 hown hK hP 0 rfl rfl 1 (by decide) (hts (.fieldLink RX0 15 "HubTree$Bus" "plan" "LHubTree$Plan;") (List.mem_cons_of_mem _ m_89)) (fun _ h9 => h9) rfl dX0_barOf_12 ?_
    refine lv_iload_n hx hb dX0_barOf_15 rfl (lv_at hl 2 rfl) ?_
    obtain ⟨o_2, r_3, hG⟩ := q_bi hG
    refine q_goi (v := o_2) (va_runV (As := [.int d]) (rest := []) ⟨hx, hb, hml, hown, hts⟩ (c_X5_has l dC dI h r1 r2 dv d o_2 r_3) (cwV 1 hts (q_gV m_735 m_465 m_466 m_24 m_467) rfl rfl rfl hdV_yX5_has_1 ⟨Nat.le_of_ble_eq_true rfl, Nat.le_of_ble_eq_true rfl⟩) (q_preV hK hP (q := (RX5, TX5, 3)) (ci := 5) (q0 := 2) rfl rfl [2] rfl [] rfl) rfl rfl hl.1 rfl (lv_room (Nat.le_of_ble_eq_true rfl)) dX0_barOf_16 ⟨Nat.le_of_ble_eq_true rfl, Nat.le_of_ble_eq_true rfl⟩) hP hS (fun H locs hP hS => ?_)
    refine lv_if_ne (tgt := 24) hx hb dX0_barOf_19 (by decide) (fun c_4 => ?_) (fun c_4 => ?_)
    · have hG := q_ifn c_4 hG
      refine lv_iload_n hx hb dX0_barOf_24 rfl (lv_at hl 1 rfl) ?_
      by_cases e_5 : z = 0
      · have hG := q_ifp e_5 hG
        refine lv_tableIn (off := 39) (tgt := 64) hx hb dX0_barOf_25 (by rw [e_5]; decide) (by rw [e_5]; decide) (by rw [e_5]; decide) (by decide) ?_
        refine lv_aload_n hx hb dX0_barOf_64 rfl (lv_at hl 0 rfl) ?_
        refine lv_iload_n hx hb dX0_barOf_65 rfl (lv_at hl 2 rfl) ?_
        refine lv_iload_n hx hb dX0_barOf_66 rfl (lv_at hl 3 rfl) ?_
        refine lv_iload hx hb dX0_barOf_67 (lv_at hl 4 rfl) ?_
        obtain ⟨o_6, r_7, hG⟩ := q_bi hG
        refine q_goi (v := o_6) (va_runV (As := [.int d, .int ee, .int e2]) (rest := []) ⟨hx, hb, hml, hown, hts⟩ (c_X0_barOfPlug l dC dI g r0 h r1 r2 dv c0 fr c1 c2 fu fp d ee e2 o_6 r_7) (cwV 3 hts (q_gV m_736 m_737 m_738 m_33 m_739) rfl rfl rfl hdV_yX0_barOfPlug_3 ⟨Nat.le_of_ble_eq_true rfl, Nat.le_of_ble_eq_true rfl⟩) (q_preV hK hP (q := (RX0, TX0, 2)) (ci := 0) (q0 := 0) rfl rfl [0, 1, 2, 3, 4] rfl [0, 1, 2] rfl) rfl rfl hl.1 rfl (lv_room (Nat.le_of_ble_eq_true rfl)) dX0_barOf_69 ⟨Nat.le_of_ble_eq_true rfl, Nat.le_of_ble_eq_true rfl⟩) hP hS (fun H locs hP hS => ?_)
        obtain rfl := Option.some.inj hG
        exact W.iret (v := o_6) hx hb hr (fun t ht hW => ⟨⟨o_6, (), rfl, rfl, trivial⟩, hS.F ht⟩) hS.2.2 dX0_barOf_72
      have hG := q_ifn e_5 hG
      by_cases e_8 : z = 1
      · have hG := q_ifp e_8 hG
        refine lv_tableIn (off := 55) (tgt := 80) hx hb dX0_barOf_25 (by rw [e_8]; decide) (by rw [e_8]; decide) (by rw [e_8]; decide) (by decide) ?_
        refine lv_aload_n hx hb dX0_barOf_80 rfl (lv_at hl 0 rfl) ?_
        refine va_get (D := (dC, dI)) (ci := 0) (v := .ref r0) (C := RX0) (T := TX0) (N := 2) hx hb hts iA_0 hown hK hP 0 rfl rfl 0 (by decide) (hts (.fieldLink RX0 11 "HubTree$Bus" "row" "[I") (List.mem_cons_of_mem _ m_88)) (fun _ h9 => h9) rfl dX0_barOf_81 ?_
        refine lv_iconst (v := 0) hx hb dX0_barOf_84 (by decide) ?_
        refine lv_iload_n hx hb dX0_barOf_85 rfl (lv_at hl 2 rfl) ?_
        refine lv_iadd hx hb dX0_barOf_86 ?_
        obtain ⟨h_9, hG⟩ := q_ix hG
        refine va_iald hx hb hK hP 1 0 rfl rfl (i := (0 + d)) h_9 dX0_barOf_87 ?_
        refine q_top (y := (fr (0 + d).toNatClampNeg)) rfl ?_
        refine lv_if_eq (tgt := 95) hx hb dX0_barOf_88 (by decide) (fun c_10 => ?_) (fun c_10 => ?_)
        · have hG := q_ifp c_10 hG
          refine lv_iconst (v := 0) hx hb dX0_barOf_95 (by decide) ?_
          refine lv_istore (lv' := [(5, .int 0), (0, .ref g), (1, .int z), (2, .int d), (3, .int ee), (4, .int e2)]) hx hb dX0_barOf_96 hl (by decide) rfl (fun ls hl => ?_)
          refine lv_goto (tgt := 178) hx hb dX0_barOf_98 (by decide) ?_
          refine lv_iload hx hb dX0_barOf_178 (lv_at hl 0 rfl) ?_
          refine lv_if_eq (tgt := 187) hx hb dX0_barOf_180 (by decide) (fun c_11 => ?_) (fun c_11 => ?_)
          rotate_left
          · exact absurd (by decide) c_11
          refine lv_iconst (v := 2) hx hb dX0_barOf_187 (by decide) ?_
          obtain rfl := Option.some.inj hG
          exact W.iret (v := 2) hx hb hr (fun t ht hW => ⟨⟨2, (), rfl, rfl, trivial⟩, hS.F ht⟩) hS.2.2 dX0_barOf_188
        · have hG := q_ifn c_10 hG
          refine lv_iconst (v := 1) hx hb dX0_barOf_91 (by decide) ?_
          refine lv_goto (tgt := 96) hx hb dX0_barOf_92 (by decide) ?_
          refine lv_istore (lv' := [(5, .int 1), (0, .ref g), (1, .int z), (2, .int d), (3, .int ee), (4, .int e2)]) hx hb dX0_barOf_96 hl (by decide) rfl (fun ls hl => ?_)
          refine lv_goto (tgt := 178) hx hb dX0_barOf_98 (by decide) ?_
          refine lv_iload hx hb dX0_barOf_178 (lv_at hl 0 rfl) ?_
          refine lv_if_eq (tgt := 187) hx hb dX0_barOf_180 (by decide) (fun c_12 => ?_) (fun c_12 => ?_)
          · exact absurd c_12 (by decide)
          refine lv_iconst (v := (-1)) hx hb dX0_barOf_183 (by decide) ?_
          refine lv_goto (tgt := 188) hx hb dX0_barOf_184 (by decide) ?_
          obtain rfl := Option.some.inj hG
          exact W.iret (v := (-1)) hx hb hr (fun t ht hW => ⟨⟨(-1), (), rfl, rfl, trivial⟩, hS.F ht⟩) hS.2.2 dX0_barOf_188
      have hG := q_ifn e_8 hG
      by_cases e_13 : z = 2
      · have hG := q_ifp e_13 hG
        refine lv_tableIn (off := 125) (tgt := 150) hx hb dX0_barOf_25 (by rw [e_13]; decide) (by rw [e_13]; decide) (by rw [e_13]; decide) (by decide) ?_
        refine lv_aload_n hx hb dX0_barOf_150 rfl (lv_at hl 0 rfl) ?_
        refine va_get (D := (dC, dI)) (ci := 0) (v := .ref r0) (C := RX0) (T := TX0) (N := 2) hx hb hts iA_0 hown hK hP 0 rfl rfl 0 (by decide) (hts (.fieldLink RX0 11 "HubTree$Bus" "row" "[I") (List.mem_cons_of_mem _ m_88)) (fun _ h9 => h9) rfl dX0_barOf_151 ?_
        refine lv_bipush (v := 88) hx hb dX0_barOf_154 (by decide) ?_
        refine lv_iload_n hx hb dX0_barOf_156 rfl (lv_at hl 2 rfl) ?_
        refine lv_iadd hx hb dX0_barOf_157 ?_
        obtain ⟨h_14, hG⟩ := q_ix hG
        refine va_iald hx hb hK hP 1 0 rfl rfl (i := (88 + d)) h_14 dX0_barOf_158 ?_
        refine q_top (y := (fr (88 + d).toNatClampNeg)) rfl ?_
        refine lv_iconst (v := 1) hx hb dX0_barOf_159 (by decide) ?_
        refine lv_icmp_ne (tgt := 171) hx hb dX0_barOf_160 (by decide) (fun c_15 => ?_) (fun c_15 => ?_)
        · have hG := q_ifn c_15 hG
          refine lv_aload_n hx hb dX0_barOf_171 rfl (lv_at hl 0 rfl) ?_
          refine lv_iload_n hx hb dX0_barOf_172 rfl (lv_at hl 2 rfl) ?_
          obtain ⟨o_16, r_17, hG⟩ := q_bi hG
          refine q_goi (v := o_16) (va_runV (As := [.int d]) (rest := []) ⟨hx, hb, hml, hown, hts⟩ (c_X0_canFallAsleep l dC dI g r0 h r1 r2 dv c0 fr c1 c2 fu fp d o_16 r_17) (cwV 1 hts (q_gV m_784 m_785 m_786 m_33 m_787) rfl rfl rfl hdV_yX0_canFallAsleep_1 ⟨Nat.le_of_ble_eq_true rfl, Nat.le_of_ble_eq_true rfl⟩) (q_preV hK hP (q := (RX0, TX0, 2)) (ci := 0) (q0 := 0) rfl rfl [0, 1, 2, 3, 4] rfl [0, 1, 2] rfl) rfl rfl hl.1 rfl (lv_room (Nat.le_of_ble_eq_true rfl)) dX0_barOf_173 ⟨Nat.le_of_ble_eq_true rfl, Nat.le_of_ble_eq_true rfl⟩) hP hS (fun H locs hP hS => ?_)
          refine lv_istore (lv' := [(5, .int o_16), (0, .ref g), (1, .int z), (2, .int d), (3, .int ee), (4, .int e2)]) hx hb dX0_barOf_176 hl (by decide) rfl (fun ls hl => ?_)
          refine lv_iload hx hb dX0_barOf_178 (lv_at hl 0 rfl) ?_
          refine lv_if_eq (tgt := 187) hx hb dX0_barOf_180 (by decide) (fun c_18 => ?_) (fun c_18 => ?_)
          · have hG := q_ifp c_18 hG
            refine lv_iconst (v := 2) hx hb dX0_barOf_187 (by decide) ?_
            obtain rfl := Option.some.inj hG
            exact W.iret (v := 2) hx hb hr (fun t ht hW => ⟨⟨2, (), rfl, rfl, trivial⟩, hS.F ht⟩) hS.2.2 dX0_barOf_188
          · have hG := q_ifn c_18 hG
            refine lv_iconst (v := (-1)) hx hb dX0_barOf_183 (by decide) ?_
            refine lv_goto (tgt := 188) hx hb dX0_barOf_184 (by decide) ?_
            obtain rfl := Option.some.inj hG
            exact W.iret (v := (-1)) hx hb hr (fun t ht hW => ⟨⟨(-1), (), rfl, rfl, trivial⟩, hS.F ht⟩) hS.2.2 dX0_barOf_188
        · have hG := q_ifp c_15 hG
          refine lv_aload_n hx hb dX0_barOf_163 rfl (lv_at hl 0 rfl) ?_
          refine lv_iload_n hx hb dX0_barOf_164 rfl (lv_at hl 2 rfl) ?_
          obtain ⟨o_19, r_20, hG⟩ := q_bi hG
          refine q_goi (v := o_19) (va_runV (As := [.int d]) (rest := []) ⟨hx, hb, hml, hown, hts⟩ (c_X0_canWake l dC dI g r0 h r1 r2 dv c0 fr c1 c2 fu fp d o_19 r_20) (cwV 1 hts (q_gV m_748 m_749 m_750 m_33 m_751) rfl rfl rfl hdV_yX0_canWake_1 ⟨Nat.le_of_ble_eq_true rfl, Nat.le_of_ble_eq_true rfl⟩) (q_preV hK hP (q := (RX0, TX0, 2)) (ci := 0) (q0 := 0) rfl rfl [0, 1, 2, 3, 4] rfl [0, 1, 2] rfl) rfl rfl hl.1 rfl (lv_room (Nat.le_of_ble_eq_true rfl)) dX0_barOf_165 ⟨Nat.le_of_ble_eq_true rfl, Nat.le_of_ble_eq_true rfl⟩) hP hS (fun H locs hP hS => ?_)
          refine lv_goto (tgt := 176) hx hb dX0_barOf_168 (by decide) ?_
          refine lv_istore (lv' := [(5, .int o_19), (0, .ref g), (1, .int z), (2, .int d), (3, .int ee), (4, .int e2)]) hx hb dX0_barOf_176 hl (by decide) rfl (fun ls hl => ?_)
          refine lv_iload hx hb dX0_barOf_178 (lv_at hl 0 rfl) ?_
          refine lv_if_eq (tgt := 187) hx hb dX0_barOf_180 (by decide) (fun c_21 => ?_) (fun c_21 => ?_)
          · have hG := q_ifp c_21 hG
            refine lv_iconst (v := 2) hx hb dX0_barOf_187 (by decide) ?_
            obtain rfl := Option.some.inj hG
            exact W.iret (v := 2) hx hb hr (fun t ht hW => ⟨⟨2, (), rfl, rfl, trivial⟩, hS.F ht⟩) hS.2.2 dX0_barOf_188
          · have hG := q_ifn c_21 hG
            refine lv_iconst (v := (-1)) hx hb dX0_barOf_183 (by decide) ?_
            refine lv_goto (tgt := 188) hx hb dX0_barOf_184 (by decide) ?_
            obtain rfl := Option.some.inj hG
            exact W.iret (v := (-1)) hx hb hr (fun t ht hW => ⟨⟨(-1), (), rfl, rfl, trivial⟩, hS.F ht⟩) hS.2.2 dX0_barOf_188
      have hG := q_ifn e_13 hG
      by_cases e_22 : z = 3
      · have hG := q_ifp e_22 hG
        refine lv_tableIn (off := 76) (tgt := 101) hx hb dX0_barOf_25 (by rw [e_22]; decide) (by rw [e_22]; decide) (by rw [e_22]; decide) (by decide) ?_
        refine lv_aload_n hx hb dX0_barOf_101 rfl (lv_at hl 0 rfl) ?_
        refine va_get (D := (dC, dI)) (ci := 0) (v := .ref h) (C := RX0) (T := TX0) (N := 2) hx hb hts iA_0 hown hK hP 0 rfl rfl 1 (by decide) (hts (.fieldLink RX0 15 "HubTree$Bus" "plan" "LHubTree$Plan;") (List.mem_cons_of_mem _ m_89)) (fun _ h9 => h9) rfl dX0_barOf_102 ?_
        refine va_get (D := (dC, dI)) (ci := 5) (v := .ref r2) (C := RX5) (T := TX5) (N := 3) hx hb hts iA_5 hown hK hP 2 rfl rfl 1 (by decide) (hts (.fieldLink RX0 35 "HubTree$Plan" "row" "[I") (List.mem_cons_of_mem _ m_400)) (fun _ h9 => h9) rfl dX0_barOf_105 ?_
        refine lv_bipush (v := 24) hx hb dX0_barOf_108 (by decide) ?_
        refine lv_iload_n hx hb dX0_barOf_110 rfl (lv_at hl 2 rfl) ?_
        refine lv_iadd hx hb dX0_barOf_111 ?_
        obtain ⟨h_23, hG⟩ := q_ix hG
        refine va_iald hx hb hK hP 4 2 rfl rfl (i := (24 + d)) h_23 dX0_barOf_112 ?_
        refine q_top (y := (fp (24 + d).toNatClampNeg)) rfl ?_
        refine lv_iconst (v := 1) hx hb dX0_barOf_113 (by decide) ?_
        refine lv_icmp_ne (tgt := 121) hx hb dX0_barOf_114 (by decide) (fun c_24 => ?_) (fun c_24 => ?_)
        · have hG := q_ifn c_24 hG
          refine lv_iconst (v := 0) hx hb dX0_barOf_121 (by decide) ?_
          refine lv_istore (lv' := [(5, .int 0), (0, .ref g), (1, .int z), (2, .int d), (3, .int ee), (4, .int e2)]) hx hb dX0_barOf_122 hl (by decide) rfl (fun ls hl => ?_)
          refine lv_goto (tgt := 178) hx hb dX0_barOf_124 (by decide) ?_
          refine lv_iload hx hb dX0_barOf_178 (lv_at hl 0 rfl) ?_
          refine lv_if_eq (tgt := 187) hx hb dX0_barOf_180 (by decide) (fun c_25 => ?_) (fun c_25 => ?_)
          rotate_left
          · exact absurd (by decide) c_25
          refine lv_iconst (v := 2) hx hb dX0_barOf_187 (by decide) ?_
          obtain rfl := Option.some.inj hG
          exact W.iret (v := 2) hx hb hr (fun t ht hW => ⟨⟨2, (), rfl, rfl, trivial⟩, hS.F ht⟩) hS.2.2 dX0_barOf_188
        · have hG := q_ifp c_24 hG
          refine lv_iconst (v := 1) hx hb dX0_barOf_117 (by decide) ?_
          refine lv_goto (tgt := 122) hx hb dX0_barOf_118 (by decide) ?_
          refine lv_istore (lv' := [(5, .int 1), (0, .ref g), (1, .int z), (2, .int d), (3, .int ee), (4, .int e2)]) hx hb dX0_barOf_122 hl (by decide) rfl (fun ls hl => ?_)
          refine lv_goto (tgt := 178) hx hb dX0_barOf_124 (by decide) ?_
          refine lv_iload hx hb dX0_barOf_178 (lv_at hl 0 rfl) ?_
          refine lv_if_eq (tgt := 187) hx hb dX0_barOf_180 (by decide) (fun c_26 => ?_) (fun c_26 => ?_)
          · exact absurd c_26 (by decide)
          refine lv_iconst (v := (-1)) hx hb dX0_barOf_183 (by decide) ?_
          refine lv_goto (tgt := 188) hx hb dX0_barOf_184 (by decide) ?_
          obtain rfl := Option.some.inj hG
          exact W.iret (v := (-1)) hx hb hr (fun t ht hW => ⟨⟨(-1), (), rfl, rfl, trivial⟩, hS.F ht⟩) hS.2.2 dX0_barOf_188
      have hG := q_ifn e_22 hG
      by_cases e_27 : z = 4
      · have hG := q_ifp e_27 hG
        refine lv_tableIn (off := 48) (tgt := 73) hx hb dX0_barOf_25 (by rw [e_27]; decide) (by rw [e_27]; decide) (by rw [e_27]; decide) (by decide) ?_
        refine lv_aload_n hx hb dX0_barOf_73 rfl (lv_at hl 0 rfl) ?_
        refine lv_iload_n hx hb dX0_barOf_74 rfl (lv_at hl 2 rfl) ?_
        refine lv_iload_n hx hb dX0_barOf_75 rfl (lv_at hl 3 rfl) ?_
        obtain ⟨o_28, r_29, hG⟩ := q_bi hG
        refine q_goi (v := o_28) (va_runV (As := [.int d, .int ee]) (rest := []) ⟨hx, hb, hml, hown, hts⟩ (c_X0_barOfError l dC dI g r0 h r1 r2 dv c0 fr c1 c2 fu fp d ee o_28 r_29) (cwV 2 hts (q_gV m_744 m_745 m_746 m_33 m_747) rfl rfl rfl hdV_yX0_barOfError_2 ⟨Nat.le_of_ble_eq_true rfl, Nat.le_of_ble_eq_true rfl⟩) (q_preV hK hP (q := (RX0, TX0, 2)) (ci := 0) (q0 := 0) rfl rfl [0, 1, 2, 3, 4] rfl [0, 1, 2] rfl) rfl rfl hl.1 rfl (lv_room (Nat.le_of_ble_eq_true rfl)) dX0_barOf_76 ⟨Nat.le_of_ble_eq_true rfl, Nat.le_of_ble_eq_true rfl⟩) hP hS (fun H locs hP hS => ?_)
        obtain rfl := Option.some.inj hG
        exact W.iret (v := o_28) hx hb hr (fun t ht hW => ⟨⟨o_28, (), rfl, rfl, trivial⟩, hS.F ht⟩) hS.2.2 dX0_barOf_79
      have hG := q_ifn e_27 hG
      by_cases e_30 : z = 5
      · have hG := q_ifp e_30 hG
        refine lv_tableIn (off := 102) (tgt := 127) hx hb dX0_barOf_25 (by rw [e_30]; decide) (by rw [e_30]; decide) (by rw [e_30]; decide) (by decide) ?_
        refine lv_aload_n hx hb dX0_barOf_127 rfl (lv_at hl 0 rfl) ?_
        refine va_get (D := (dC, dI)) (ci := 0) (v := .ref r0) (C := RX0) (T := TX0) (N := 2) hx hb hts iA_0 hown hK hP 0 rfl rfl 0 (by decide) (hts (.fieldLink RX0 11 "HubTree$Bus" "row" "[I") (List.mem_cons_of_mem _ m_88)) (fun _ h9 => h9) rfl dX0_barOf_128 ?_
        refine lv_iconst (v := 0) hx hb dX0_barOf_131 (by decide) ?_
        refine lv_iload_n hx hb dX0_barOf_132 rfl (lv_at hl 2 rfl) ?_
        refine lv_iadd hx hb dX0_barOf_133 ?_
        obtain ⟨h_31, hG⟩ := q_ix hG
        refine va_iald hx hb hK hP 1 0 rfl rfl (i := (0 + d)) h_31 dX0_barOf_134 ?_
        refine q_top (y := (fr (0 + d).toNatClampNeg)) rfl ?_
        refine lv_bipush (v := 7) hx hb dX0_barOf_135 (by decide) ?_
        refine lv_icmp_ne (tgt := 144) hx hb dX0_barOf_137 (by decide) (fun c_32 => ?_) (fun c_32 => ?_)
        · have hG := q_ifn c_32 hG
          refine lv_iconst (v := 0) hx hb dX0_barOf_144 (by decide) ?_
          refine lv_istore (lv' := [(5, .int 0), (0, .ref g), (1, .int z), (2, .int d), (3, .int ee), (4, .int e2)]) hx hb dX0_barOf_145 hl (by decide) rfl (fun ls hl => ?_)
          refine lv_goto (tgt := 178) hx hb dX0_barOf_147 (by decide) ?_
          refine lv_iload hx hb dX0_barOf_178 (lv_at hl 0 rfl) ?_
          refine lv_if_eq (tgt := 187) hx hb dX0_barOf_180 (by decide) (fun c_33 => ?_) (fun c_33 => ?_)
          rotate_left
          · exact absurd (by decide) c_33
          refine lv_iconst (v := 2) hx hb dX0_barOf_187 (by decide) ?_
          obtain rfl := Option.some.inj hG
          exact W.iret (v := 2) hx hb hr (fun t ht hW => ⟨⟨2, (), rfl, rfl, trivial⟩, hS.F ht⟩) hS.2.2 dX0_barOf_188
        · have hG := q_ifp c_32 hG
          refine lv_iconst (v := 1) hx hb dX0_barOf_140 (by decide) ?_
          refine lv_goto (tgt := 145) hx hb dX0_barOf_141 (by decide) ?_
          refine lv_istore (lv' := [(5, .int 1), (0, .ref g), (1, .int z), (2, .int d), (3, .int ee), (4, .int e2)]) hx hb dX0_barOf_145 hl (by decide) rfl (fun ls hl => ?_)
          refine lv_goto (tgt := 178) hx hb dX0_barOf_147 (by decide) ?_
          refine lv_iload hx hb dX0_barOf_178 (lv_at hl 0 rfl) ?_
          refine lv_if_eq (tgt := 187) hx hb dX0_barOf_180 (by decide) (fun c_34 => ?_) (fun c_34 => ?_)
          · exact absurd c_34 (by decide)
          refine lv_iconst (v := (-1)) hx hb dX0_barOf_183 (by decide) ?_
          refine lv_goto (tgt := 188) hx hb dX0_barOf_184 (by decide) ?_
          obtain rfl := Option.some.inj hG
          exact W.iret (v := (-1)) hx hb hr (fun t ht hW => ⟨⟨(-1), (), rfl, rfl, trivial⟩, hS.F ht⟩) hS.2.2 dX0_barOf_188
      have hG := q_ifn e_30 hG
      have hsw : (z).toInt < 0 ∨ 5 < (z).toInt := by
        have := lv_neT (a := 0) e_5 (by decide)
        have := lv_neT (a := 1) e_8 (by decide)
        have := lv_neT (a := 2) e_13 (by decide)
        have := lv_neT (a := 3) e_22 (by decide)
        have := lv_neT (a := 4) e_27 (by decide)
        have := lv_neT (a := 5) e_30 (by decide)
        omega
      refine lv_tableOut (tgt := 150) hx hb dX0_barOf_25 hsw (by decide) ?_
      refine lv_aload_n hx hb dX0_barOf_150 rfl (lv_at hl 0 rfl) ?_
      refine va_get (D := (dC, dI)) (ci := 0) (v := .ref r0) (C := RX0) (T := TX0) (N := 2) hx hb hts iA_0 hown hK hP 0 rfl rfl 0 (by decide) (hts (.fieldLink RX0 11 "HubTree$Bus" "row" "[I") (List.mem_cons_of_mem _ m_88)) (fun _ h9 => h9) rfl dX0_barOf_151 ?_
      refine lv_bipush (v := 88) hx hb dX0_barOf_154 (by decide) ?_
      refine lv_iload_n hx hb dX0_barOf_156 rfl (lv_at hl 2 rfl) ?_
      refine lv_iadd hx hb dX0_barOf_157 ?_
      obtain ⟨h_35, hG⟩ := q_ix hG
      refine va_iald hx hb hK hP 1 0 rfl rfl (i := (88 + d)) h_35 dX0_barOf_158 ?_
      refine q_top (y := (fr (88 + d).toNatClampNeg)) rfl ?_
      refine lv_iconst (v := 1) hx hb dX0_barOf_159 (by decide) ?_
      refine lv_icmp_ne (tgt := 171) hx hb dX0_barOf_160 (by decide) (fun c_36 => ?_) (fun c_36 => ?_)
      · have hG := q_ifn c_36 hG
        refine lv_aload_n hx hb dX0_barOf_171 rfl (lv_at hl 0 rfl) ?_
        refine lv_iload_n hx hb dX0_barOf_172 rfl (lv_at hl 2 rfl) ?_
        obtain ⟨o_37, r_38, hG⟩ := q_bi hG
        refine q_goi (v := o_37) (va_runV (As := [.int d]) (rest := []) ⟨hx, hb, hml, hown, hts⟩ (c_X0_canFallAsleep l dC dI g r0 h r1 r2 dv c0 fr c1 c2 fu fp d o_37 r_38) (cwV 1 hts (q_gV m_784 m_785 m_786 m_33 m_787) rfl rfl rfl hdV_yX0_canFallAsleep_1 ⟨Nat.le_of_ble_eq_true rfl, Nat.le_of_ble_eq_true rfl⟩) (q_preV hK hP (q := (RX0, TX0, 2)) (ci := 0) (q0 := 0) rfl rfl [0, 1, 2, 3, 4] rfl [0, 1, 2] rfl) rfl rfl hl.1 rfl (lv_room (Nat.le_of_ble_eq_true rfl)) dX0_barOf_173 ⟨Nat.le_of_ble_eq_true rfl, Nat.le_of_ble_eq_true rfl⟩) hP hS (fun H locs hP hS => ?_)
        refine lv_istore (lv' := [(5, .int o_37), (0, .ref g), (1, .int z), (2, .int d), (3, .int ee), (4, .int e2)]) hx hb dX0_barOf_176 hl (by decide) rfl (fun ls hl => ?_)
        refine lv_iload hx hb dX0_barOf_178 (lv_at hl 0 rfl) ?_
        refine lv_if_eq (tgt := 187) hx hb dX0_barOf_180 (by decide) (fun c_39 => ?_) (fun c_39 => ?_)
        · have hG := q_ifp c_39 hG
          refine lv_iconst (v := 2) hx hb dX0_barOf_187 (by decide) ?_
          obtain rfl := Option.some.inj hG
          exact W.iret (v := 2) hx hb hr (fun t ht hW => ⟨⟨2, (), rfl, rfl, trivial⟩, hS.F ht⟩) hS.2.2 dX0_barOf_188
        · have hG := q_ifn c_39 hG
          refine lv_iconst (v := (-1)) hx hb dX0_barOf_183 (by decide) ?_
          refine lv_goto (tgt := 188) hx hb dX0_barOf_184 (by decide) ?_
          obtain rfl := Option.some.inj hG
          exact W.iret (v := (-1)) hx hb hr (fun t ht hW => ⟨⟨(-1), (), rfl, rfl, trivial⟩, hS.F ht⟩) hS.2.2 dX0_barOf_188
      · have hG := q_ifp c_36 hG
        refine lv_aload_n hx hb dX0_barOf_163 rfl (lv_at hl 0 rfl) ?_
        refine lv_iload_n hx hb dX0_barOf_164 rfl (lv_at hl 2 rfl) ?_
        obtain ⟨o_40, r_41, hG⟩ := q_bi hG
        refine q_goi (v := o_40) (va_runV (As := [.int d]) (rest := []) ⟨hx, hb, hml, hown, hts⟩ (c_X0_canWake l dC dI g r0 h r1 r2 dv c0 fr c1 c2 fu fp d o_40 r_41) (cwV 1 hts (q_gV m_748 m_749 m_750 m_33 m_751) rfl rfl rfl hdV_yX0_canWake_1 ⟨Nat.le_of_ble_eq_true rfl, Nat.le_of_ble_eq_true rfl⟩) (q_preV hK hP (q := (RX0, TX0, 2)) (ci := 0) (q0 := 0) rfl rfl [0, 1, 2, 3, 4] rfl [0, 1, 2] rfl) rfl rfl hl.1 rfl (lv_room (Nat.le_of_ble_eq_true rfl)) dX0_barOf_165 ⟨Nat.le_of_ble_eq_true rfl, Nat.le_of_ble_eq_true rfl⟩) hP hS (fun H locs hP hS => ?_)
        refine lv_goto (tgt := 176) hx hb dX0_barOf_168 (by decide) ?_
        refine lv_istore (lv' := [(5, .int o_40), (0, .ref g), (1, .int z), (2, .int d), (3, .int ee), (4, .int e2)]) hx hb dX0_barOf_176 hl (by decide) rfl (fun ls hl => ?_)
        refine lv_iload hx hb dX0_barOf_178 (lv_at hl 0 rfl) ?_
        refine lv_if_eq (tgt := 187) hx hb dX0_barOf_180 (by decide) (fun c_42 => ?_) (fun c_42 => ?_)
        · have hG := q_ifp c_42 hG
          refine lv_iconst (v := 2) hx hb dX0_barOf_187 (by decide) ?_
          obtain rfl := Option.some.inj hG
          exact W.iret (v := 2) hx hb hr (fun t ht hW => ⟨⟨2, (), rfl, rfl, trivial⟩, hS.F ht⟩) hS.2.2 dX0_barOf_188
        · have hG := q_ifn c_42 hG
          refine lv_iconst (v := (-1)) hx hb dX0_barOf_183 (by decide) ?_
          refine lv_goto (tgt := 188) hx hb dX0_barOf_184 (by decide) ?_
          obtain rfl := Option.some.inj hG
          exact W.iret (v := (-1)) hx hb hr (fun t ht hW => ⟨⟨(-1), (), rfl, rfl, trivial⟩, hS.F ht⟩) hS.2.2 dX0_barOf_188
    · have hG := q_ifp c_4 hG
      refine lv_iconst (v := 0) hx hb dX0_barOf_22 (by decide) ?_
      obtain rfl := Option.some.inj hG
      exact W.iret (v := 0) hx hb hr (fun t ht hW => ⟨⟨0, (), rfl, rfl, trivial⟩, hS.F ht⟩) hS.2.2 dX0_barOf_23
  · have hG := q_ifp c_1 hG
    refine lv_aload_n hx hb dX0_barOf_5 rfl (lv_at hl 0 rfl) ?_
    refine lv_iload_n hx hb dX0_barOf_6 rfl (lv_at hl 2 rfl) ?_
    obtain ⟨o_43, r_44, hG⟩ := q_bi hG
    refine q_goi (v := o_43) (va_runV (As := [.int d]) (rest := []) ⟨hx, hb, hml, hown, hts⟩ (c_X0_barOfTicks l dC dI g r0 h r1 r2 dv c0 fr c1 c2 fu fp d o_43 r_44) (cwV 1 hts (q_gV m_730 m_731 m_732 m_33 m_733) rfl rfl rfl hdV_yX0_barOfTicks_1 ⟨Nat.le_of_ble_eq_true rfl, Nat.le_of_ble_eq_true rfl⟩) (q_preV hK hP (q := (RX0, TX0, 2)) (ci := 0) (q0 := 0) rfl rfl [0, 1, 2, 3, 4] rfl [0, 1, 2] rfl) rfl rfl hl.1 rfl (lv_room (Nat.le_of_ble_eq_true rfl)) dX0_barOf_7 ⟨Nat.le_of_ble_eq_true rfl, Nat.le_of_ble_eq_true rfl⟩) hP hS (fun H locs hP hS => ?_)
    obtain rfl := Option.some.inj hG
    exact W.iret (v := o_43) hx hb hr (fun t ht hW => ⟨⟨o_43, (), rfl, rfl, trivial⟩, hS.F ht⟩) hS.2.2 dX0_barOf_10

def F_X0_reasonAgainst (fr : Nat → Int32) (dv : Int32) (fu : Nat → Int32) (fp : Nat → Int32) (d : Int32) : Option (Int32) := ((F_X0_depthOf fr dv fu fp d).bind fun o_1 => (if o_1 ≤ 4 then ((F_X0_freeAddress fr dv fu fp).bind fun o_4 => (if o_4 = (-1) then some (5) else ((F_X0_takesOf fr dv fu fp d).bind fun o_7 => ((F_X0_powerSuffices fr dv fu fp d o_7).bind fun o_9 => (if o_9 = 0 then some (2) else ((F_X0_timeSuffices fr dv fu fp d).bind fun o_12 => (if o_12 = 0 then some (3) else some (0)))))))) else some (4)))
set_option maxHeartbeats 4000000 in
set_option maxRecDepth 100000 in
theorem c_X0_reasonAgainst (l : Launch) (dC : Nat → ClassId) (dI : Nat → Nat → Nat) (g : Nat) (r0 : Nat) (h : Nat) (r1 : Nat) (r2 : Nat) (dv : Int32) (c0 : ClassId) (fr : Nat → Int32) (c1 : ClassId) (c2 : ClassId) (fu : Nat → Int32) (fp : Nat → Int32) (d : Int32) (o : Int32) (hG : F_X0_reasonAgainst fr dv fu fp d = some o) : Met l yX0_reasonAgainst (.code yX0_reasonAgainst cX0_reasonAgainst 2 (some .int) :: wA) ({ frames := 3, cells := 0, slots := 0, locals := 69 }) (va_Pc [.ref g, .int d] (q_R (dC, dI) [(g, .inr (0, [.ref r0, .ref h])), (r0, .inl (c0, 98, .inl fr)), (h, .inr (5, [.ref r1, .ref r2, .int dv])), (r1, .inl (c1, 8, .inl fu)), (r2, .inl (c2, 48, .inl fp))] [(c0, .int), (c1, .int), (c2, .int)])) (q_i o) 0 0 (fun _ => False) := by
  refine Met.ofW (cc := cX0_reasonAgainst) (maxL := 2) (ret := (some .int)) (by decide) rfl ?_
  intro p e s m args below meth c s₁ B hml hv
  obtain ⟨rfl, hP, hK⟩ := hv
  have hx := B.exec
  have hb := B.bytes
  have hr := B.returns
  have hts := atoms_spec (ws := .code yX0_reasonAgainst cX0_reasonAgainst 2 (some .int) :: wA) B.pre
  have hown : s.vm.findClass RX0 = some m.cls := findClass_of_methodNamed B.named
  have hlocks := B.notSynchronized
  have hS : va_S (fun _ => False) s.heap s.heap [] := va_S.rf
  have hl := lv_entry ([.ref g, .int d]) (n := 2) (Nat.le_of_ble_eq_true rfl)
  rw [lg_entry_eq]
  generalize (lg_sl ([.ref g, .int d]) ++ List.replicate (2 - (lg_sl ([.ref g, .int d])).length) Slot.unset).toArray = ls at hl ⊢
  have hl : lv_has ls 2 [(0, .ref g), (1, .int d)] := hl
  unfold F_X0_reasonAgainst at hG
  refine lv_aload_n hx hb dX0_reasonAgainst_0 rfl (lv_at hl 0 rfl) ?_
  refine lv_iload_n hx hb dX0_reasonAgainst_1 rfl (lv_at hl 1 rfl) ?_
  obtain ⟨o_1, r_2, hG⟩ := q_bi hG
  refine q_goi (v := o_1) (va_runV (As := [.int d]) (rest := []) ⟨hx, hb, hml, hown, hts⟩ (c_X0_depthOf l dC dI g r0 h r1 r2 dv c0 fr c1 c2 fu fp d o_1 r_2) (cwV 1 hts (q_gV m_846 m_488 m_489 m_33 m_490) rfl rfl rfl hdV_yX0_depthOf_1 ⟨Nat.le_of_ble_eq_true rfl, Nat.le_of_ble_eq_true rfl⟩) (q_preV hK hP (q := (RX0, TX0, 2)) (ci := 0) (q0 := 0) rfl rfl [0, 1, 2, 3, 4] rfl [0, 1, 2] rfl) rfl rfl hl.1 rfl (lv_room (Nat.le_of_ble_eq_true rfl)) dX0_reasonAgainst_2 ⟨Nat.le_of_ble_eq_true rfl, Nat.le_of_ble_eq_true rfl⟩) hP hS (fun H locs hP hS => ?_)
  refine lv_iconst (v := 4) hx hb dX0_reasonAgainst_5 (by decide) ?_
  refine lv_icmp_le (tgt := 11) hx hb dX0_reasonAgainst_6 (by decide) (fun c_3 => ?_) (fun c_3 => ?_)
  · have hG := q_ifp c_3 hG
    refine lv_aload_n hx hb dX0_reasonAgainst_11 rfl (lv_at hl 0 rfl) ?_
    obtain ⟨o_4, r_5, hG⟩ := q_bi hG
    refine q_goi (v := o_4) (va_runV (As := []) (rest := []) ⟨hx, hb, hml, hown, hts⟩ (c_X0_freeAddress l dC dI g r0 h r1 r2 dv c0 fr c1 c2 fu fp o_4 r_5) (cwV 0 hts (q_gV m_847 m_848 m_849 m_33 m_850) rfl rfl rfl hdV_yX0_freeAddress_0 ⟨Nat.le_of_ble_eq_true rfl, Nat.le_of_ble_eq_true rfl⟩) (q_preV hK hP (q := (RX0, TX0, 2)) (ci := 0) (q0 := 0) rfl rfl [0, 1, 2, 3, 4] rfl [0, 1, 2] rfl) rfl rfl hl.1 rfl (lv_room (Nat.le_of_ble_eq_true rfl)) dX0_reasonAgainst_12 ⟨Nat.le_of_ble_eq_true rfl, Nat.le_of_ble_eq_true rfl⟩) hP hS (fun H locs hP hS => ?_)
    refine lv_iconst (v := (-1)) hx hb dX0_reasonAgainst_15 (by decide) ?_
    refine lv_icmp_ne (tgt := 21) hx hb dX0_reasonAgainst_16 (by decide) (fun c_6 => ?_) (fun c_6 => ?_)
    · have hG := q_ifn c_6 hG
      refine lv_aload_n hx hb dX0_reasonAgainst_21 rfl (lv_at hl 0 rfl) ?_
      refine lv_iload_n hx hb dX0_reasonAgainst_22 rfl (lv_at hl 1 rfl) ?_
      refine lv_aload_n hx hb dX0_reasonAgainst_23 rfl (lv_at hl 0 rfl) ?_
      refine lv_iload_n hx hb dX0_reasonAgainst_24 rfl (lv_at hl 1 rfl) ?_
      obtain ⟨o_7, r_8, hG⟩ := q_bi hG
      refine q_goi (v := o_7) (va_runV (As := [.int d]) (rest := [.int d, .ref g]) ⟨hx, hb, hml, hown, hts⟩ (c_X0_takesOf l dC dI g r0 h r1 r2 dv c0 fr c1 c2 fu fp d o_7 r_8) (cwV 1 hts (q_gV m_591 m_492 m_493 m_33 m_494) rfl rfl rfl hdV_yX0_takesOf_1 ⟨Nat.le_of_ble_eq_true rfl, Nat.le_of_ble_eq_true rfl⟩) (q_preV hK hP (q := (RX0, TX0, 2)) (ci := 0) (q0 := 0) rfl rfl [0, 1, 2, 3, 4] rfl [0, 1, 2] rfl) rfl rfl hl.1 rfl (lv_room (Nat.le_of_ble_eq_true rfl)) dX0_reasonAgainst_25 ⟨Nat.le_of_ble_eq_true rfl, Nat.le_of_ble_eq_true rfl⟩) hP hS (fun H locs hP hS => ?_)
      obtain ⟨o_9, r_10, hG⟩ := q_bi hG
      refine q_goi (v := o_9) (va_runV (As := [.int d, .int o_7]) (rest := []) ⟨hx, hb, hml, hown, hts⟩ (c_X0_powerSuffices l dC dI g r0 h r1 r2 dv c0 fr c1 c2 fu fp d o_7 o_9 r_10) (cwV 2 hts (q_gV m_756 m_757 m_758 m_33 m_759) rfl rfl rfl hdV_yX0_powerSuffices_2 ⟨Nat.le_of_ble_eq_true rfl, Nat.le_of_ble_eq_true rfl⟩) (q_preV hK hP (q := (RX0, TX0, 2)) (ci := 0) (q0 := 0) rfl rfl [0, 1, 2, 3, 4] rfl [0, 1, 2] rfl) rfl rfl hl.1 rfl (lv_room (Nat.le_of_ble_eq_true rfl)) dX0_reasonAgainst_28 ⟨Nat.le_of_ble_eq_true rfl, Nat.le_of_ble_eq_true rfl⟩) hP hS (fun H locs hP hS => ?_)
      refine lv_if_ne (tgt := 36) hx hb dX0_reasonAgainst_31 (by decide) (fun c_11 => ?_) (fun c_11 => ?_)
      · have hG := q_ifn c_11 hG
        refine lv_aload_n hx hb dX0_reasonAgainst_36 rfl (lv_at hl 0 rfl) ?_
        refine lv_iload_n hx hb dX0_reasonAgainst_37 rfl (lv_at hl 1 rfl) ?_
        obtain ⟨o_12, r_13, hG⟩ := q_bi hG
        refine q_goi (v := o_12) (va_runV (As := [.int d]) (rest := []) ⟨hx, hb, hml, hown, hts⟩ (c_X0_timeSuffices l dC dI g r0 h r1 r2 dv c0 fr c1 c2 fu fp d o_12 r_13) (cwV 1 hts (q_gV m_762 m_763 m_764 m_33 m_765) rfl rfl rfl hdV_yX0_timeSuffices_1 ⟨Nat.le_of_ble_eq_true rfl, Nat.le_of_ble_eq_true rfl⟩) (q_preV hK hP (q := (RX0, TX0, 2)) (ci := 0) (q0 := 0) rfl rfl [0, 1, 2, 3, 4] rfl [0, 1, 2] rfl) rfl rfl hl.1 rfl (lv_room (Nat.le_of_ble_eq_true rfl)) dX0_reasonAgainst_38 ⟨Nat.le_of_ble_eq_true rfl, Nat.le_of_ble_eq_true rfl⟩) hP hS (fun H locs hP hS => ?_)
        refine lv_if_eq (tgt := 48) hx hb dX0_reasonAgainst_41 (by decide) (fun c_14 => ?_) (fun c_14 => ?_)
        · have hG := q_ifp c_14 hG
          refine lv_iconst (v := 3) hx hb dX0_reasonAgainst_48 (by decide) ?_
          obtain rfl := Option.some.inj hG
          exact W.iret (v := 3) hx hb hr (fun t ht hW => ⟨⟨3, (), rfl, rfl, trivial⟩, hS.F ht⟩) hS.2.2 dX0_reasonAgainst_49
        · have hG := q_ifn c_14 hG
          refine lv_iconst (v := 0) hx hb dX0_reasonAgainst_44 (by decide) ?_
          refine lv_goto (tgt := 49) hx hb dX0_reasonAgainst_45 (by decide) ?_
          obtain rfl := Option.some.inj hG
          exact W.iret (v := 0) hx hb hr (fun t ht hW => ⟨⟨0, (), rfl, rfl, trivial⟩, hS.F ht⟩) hS.2.2 dX0_reasonAgainst_49
      · have hG := q_ifp c_11 hG
        refine lv_iconst (v := 2) hx hb dX0_reasonAgainst_34 (by decide) ?_
        obtain rfl := Option.some.inj hG
        exact W.iret (v := 2) hx hb hr (fun t ht hW => ⟨⟨2, (), rfl, rfl, trivial⟩, hS.F ht⟩) hS.2.2 dX0_reasonAgainst_35
    · have hG := q_ifp c_6 hG
      refine lv_iconst (v := 5) hx hb dX0_reasonAgainst_19 (by decide) ?_
      obtain rfl := Option.some.inj hG
      exact W.iret (v := 5) hx hb hr (fun t ht hW => ⟨⟨5, (), rfl, rfl, trivial⟩, hS.F ht⟩) hS.2.2 dX0_reasonAgainst_20
  · have hG := q_ifn c_3 hG
    refine lv_iconst (v := 4) hx hb dX0_reasonAgainst_9 (by decide) ?_
    obtain rfl := Option.some.inj hG
    exact W.iret (v := 4) hx hb hr (fun t ht hW => ⟨⟨4, (), rfl, rfl, trivial⟩, hS.F ht⟩) hS.2.2 dX0_reasonAgainst_10
