theorem dX10_ahead__0 : decode cX10_ahead_ 0 = .ok (.aload_n 0, 1) := q_o42 (by decide +kernel)
theorem dX10_ahead__1 : decode cX10_ahead_ 1 = .ok (.invokevirtual 135, 3) := q_o182 (a := 0) (b := 135) (by decide +kernel)
theorem dX10_ahead__4 : decode cX10_ahead_ 4 = .ok (.ifCond .eq 38, 3) := q_o153 (a := 0) (b := 38) (by decide +kernel) rfl
theorem dX10_ahead__7 : decode cX10_ahead_ 7 = .ok (.iload_n 1, 1) := q_o27 (by decide +kernel)
theorem dX10_ahead__8 : decode cX10_ahead_ 8 = .ok (.iconst 0, 1) := q_o3 (by decide +kernel)
theorem dX10_ahead__9 : decode cX10_ahead_ 9 = .ok (.sipush 200, 3) := q_o17 (a := 0) (b := 200) (by decide +kernel) rfl
theorem dX10_ahead__12 : decode cX10_ahead_ 12 = .ok (.invokestatic 63, 3) := q_o184 (a := 0) (b := 63) (by decide +kernel)
theorem dX10_ahead__15 : decode cX10_ahead_ 15 = .ok (.ifCond .eq 27, 3) := q_o153 (a := 0) (b := 27) (by decide +kernel) rfl
theorem dX10_ahead__18 : decode cX10_ahead_ 18 = .ok (.iload_n 2, 1) := q_o28 (by decide +kernel)
theorem dX10_ahead__19 : decode cX10_ahead_ 19 = .ok (.iconst 0, 1) := q_o3 (by decide +kernel)
theorem dX10_ahead__20 : decode cX10_ahead_ 20 = .ok (.iconst 1, 1) := q_o4 (by decide +kernel)
theorem dX10_ahead__21 : decode cX10_ahead_ 21 = .ok (.invokestatic 63, 3) := q_o184 (a := 0) (b := 63) (by decide +kernel)
theorem dX10_ahead__24 : decode cX10_ahead_ 24 = .ok (.ifCond .eq 18, 3) := q_o153 (a := 0) (b := 18) (by decide +kernel) rfl
theorem dX10_ahead__27 : decode cX10_ahead_ 27 = .ok (.aload_n 0, 1) := q_o42 (by decide +kernel)
theorem dX10_ahead__28 : decode cX10_ahead_ 28 = .ok (.getfield 31, 3) := q_o180 (a := 0) (b := 31) (by decide +kernel)
theorem dX10_ahead__31 : decode cX10_ahead_ 31 = .ok (.bipush 96, 2) := q_o16 (a := 96) (by decide +kernel) rfl
theorem dX10_ahead__33 : decode cX10_ahead_ 33 = .ok (.iaload, 1) := q_o46 (by decide +kernel)
theorem dX10_ahead__34 : decode cX10_ahead_ 34 = .ok (.iload_n 1, 1) := q_o27 (by decide +kernel)
theorem dX10_ahead__35 : decode cX10_ahead_ 35 = .ok (.iadd, 1) := q_o96 (by decide +kernel)
theorem dX10_ahead__36 : decode cX10_ahead_ 36 = .ok (.sipush 9999, 3) := q_o17 (a := 39) (b := 15) (by decide +kernel) rfl
theorem dX10_ahead__39 : decode cX10_ahead_ 39 = .ok (.if_icmp .le 5, 3) := q_o164 (a := 0) (b := 5) (by decide +kernel) rfl
theorem dX10_ahead__42 : decode cX10_ahead_ 42 = .ok (.iconst (-1), 1) := q_o2 (by decide +kernel)
theorem dX10_ahead__43 : decode cX10_ahead_ 43 = .ok (.ireturn, 1) := q_o172 (by decide +kernel)
theorem dX10_ahead__44 : decode cX10_ahead_ 44 = .ok (.aload_n 0, 1) := q_o42 (by decide +kernel)
theorem dX10_ahead__45 : decode cX10_ahead_ 45 = .ok (.invokevirtual 359, 3) := q_o182 (a := 1) (b := 103) (by decide +kernel)
theorem dX10_ahead__48 : decode cX10_ahead_ 48 = .ok (.aload_n 0, 1) := q_o42 (by decide +kernel)
theorem dX10_ahead__49 : decode cX10_ahead_ 49 = .ok (.iload_n 1, 1) := q_o27 (by decide +kernel)
theorem dX10_ahead__50 : decode cX10_ahead_ 50 = .ok (.invokevirtual 315, 3) := q_o182 (a := 1) (b := 59) (by decide +kernel)
theorem dX10_ahead__53 : decode cX10_ahead_ 53 = .ok (.pop, 1) := q_o87 (by decide +kernel)
theorem dX10_ahead__54 : decode cX10_ahead_ 54 = .ok (.aload_n 0, 1) := q_o42 (by decide +kernel)
theorem dX10_ahead__55 : decode cX10_ahead_ 55 = .ok (.iload_n 2, 1) := q_o28 (by decide +kernel)
theorem dX10_ahead__56 : decode cX10_ahead_ 56 = .ok (.ifCond .ne 8, 3) := q_o154 (a := 0) (b := 8) (by decide +kernel) rfl
theorem dX10_ahead__59 : decode cX10_ahead_ 59 = .ok (.bipush 6, 2) := q_o16 (a := 6) (by decide +kernel) rfl
theorem dX10_ahead__61 : decode cX10_ahead_ 61 = .ok (.goto 5, 3) := q_o167 (a := 0) (b := 5) (by decide +kernel) rfl
theorem dX10_ahead__64 : decode cX10_ahead_ 64 = .ok (.bipush 7, 2) := q_o16 (a := 7) (by decide +kernel) rfl
theorem dX10_ahead__66 : decode cX10_ahead_ 66 = .ok (.invokevirtual 279, 3) := q_o182 (a := 1) (b := 23) (by decide +kernel)
theorem dX10_ahead__69 : decode cX10_ahead_ 69 = .ok (.istore_n 3, 1) := q_o62 (by decide +kernel)
theorem dX10_ahead__70 : decode cX10_ahead_ 70 = .ok (.aload_n 0, 1) := q_o42 (by decide +kernel)
theorem dX10_ahead__71 : decode cX10_ahead_ 71 = .ok (.invokevirtual 365, 3) := q_o182 (a := 1) (b := 109) (by decide +kernel)
theorem dX10_ahead__74 : decode cX10_ahead_ 74 = .ok (.iload_n 3, 1) := q_o29 (by decide +kernel)
theorem dX10_ahead__75 : decode cX10_ahead_ 75 = .ok (.ireturn, 1) := q_o172 (by decide +kernel)
theorem dX10_all_0 : decode cX10_all 0 = .ok (.aload_n 0, 1) := q_o42 (by decide +kernel)
theorem dX10_all_1 : decode cX10_all 1 = .ok (.invokevirtual 135, 3) := q_o182 (a := 0) (b := 135) (by decide +kernel)
theorem dX10_all_4 : decode cX10_all 4 = .ok (.ifCond .eq 13, 3) := q_o153 (a := 0) (b := 13) (by decide +kernel) rfl
theorem dX10_all_7 : decode cX10_all 7 = .ok (.iload_n 1, 1) := q_o27 (by decide +kernel)
theorem dX10_all_8 : decode cX10_all 8 = .ok (.iconst 0, 1) := q_o3 (by decide +kernel)
theorem dX10_all_9 : decode cX10_all 9 = .ok (.bipush 12, 2) := q_o16 (a := 12) (by decide +kernel) rfl
theorem dX10_all_11 : decode cX10_all 11 = .ok (.invokestatic 63, 3) := q_o184 (a := 0) (b := 63) (by decide +kernel)
theorem dX10_all_14 : decode cX10_all 14 = .ok (.ifCond .ne 7, 3) := q_o154 (a := 0) (b := 7) (by decide +kernel) rfl
theorem dX10_all_17 : decode cX10_all 17 = .ok (.ldc_w 358, 3) := by decide +kernel
theorem dX10_all_20 : decode cX10_all 20 = .ok (.ireturn, 1) := q_o172 (by decide +kernel)
theorem dX10_all_21 : decode cX10_all 21 = .ok (.iload_n 1, 1) := q_o27 (by decide +kernel)
theorem dX10_all_22 : decode cX10_all 22 = .ok (.tableswitch 133 0 11 #[62, 70, 76, 82, 88, 95, 102, 107, 112, 117, 122, 127], 62) := by decide +kernel
theorem dX10_all_84 : decode cX10_all 84 = .ok (.aload_n 0, 1) := q_o42 (by decide +kernel)
theorem dX10_all_85 : decode cX10_all 85 = .ok (.getfield 31, 3) := q_o180 (a := 0) (b := 31) (by decide +kernel)
theorem dX10_all_88 : decode cX10_all 88 = .ok (.bipush 96, 2) := q_o16 (a := 96) (by decide +kernel) rfl
theorem dX10_all_90 : decode cX10_all 90 = .ok (.iaload, 1) := q_o46 (by decide +kernel)
theorem dX10_all_91 : decode cX10_all 91 = .ok (.ireturn, 1) := q_o172 (by decide +kernel)
theorem dX10_all_92 : decode cX10_all 92 = .ok (.aload_n 0, 1) := q_o42 (by decide +kernel)
theorem dX10_all_93 : decode cX10_all 93 = .ok (.iconst 0, 1) := q_o3 (by decide +kernel)
theorem dX10_all_94 : decode cX10_all 94 = .ok (.invokevirtual 279, 3) := q_o182 (a := 1) (b := 23) (by decide +kernel)
theorem dX10_all_97 : decode cX10_all 97 = .ok (.ireturn, 1) := q_o172 (by decide +kernel)
theorem dX10_all_98 : decode cX10_all 98 = .ok (.aload_n 0, 1) := q_o42 (by decide +kernel)
theorem dX10_all_99 : decode cX10_all 99 = .ok (.iconst 1, 1) := q_o4 (by decide +kernel)
theorem dX10_all_100 : decode cX10_all 100 = .ok (.invokevirtual 279, 3) := q_o182 (a := 1) (b := 23) (by decide +kernel)
theorem dX10_all_103 : decode cX10_all 103 = .ok (.ireturn, 1) := q_o172 (by decide +kernel)
theorem dX10_all_104 : decode cX10_all 104 = .ok (.aload_n 0, 1) := q_o42 (by decide +kernel)
theorem dX10_all_105 : decode cX10_all 105 = .ok (.iconst 2, 1) := q_o5 (by decide +kernel)
theorem dX10_all_106 : decode cX10_all 106 = .ok (.invokevirtual 279, 3) := q_o182 (a := 1) (b := 23) (by decide +kernel)
theorem dX10_all_109 : decode cX10_all 109 = .ok (.ireturn, 1) := q_o172 (by decide +kernel)
theorem dX10_all_110 : decode cX10_all 110 = .ok (.aload_n 0, 1) := q_o42 (by decide +kernel)
theorem dX10_all_111 : decode cX10_all 111 = .ok (.bipush 6, 2) := q_o16 (a := 6) (by decide +kernel) rfl
theorem dX10_all_113 : decode cX10_all 113 = .ok (.invokevirtual 279, 3) := q_o182 (a := 1) (b := 23) (by decide +kernel)
theorem dX10_all_116 : decode cX10_all 116 = .ok (.ireturn, 1) := q_o172 (by decide +kernel)
theorem dX10_all_117 : decode cX10_all 117 = .ok (.aload_n 0, 1) := q_o42 (by decide +kernel)
theorem dX10_all_118 : decode cX10_all 118 = .ok (.bipush 7, 2) := q_o16 (a := 7) (by decide +kernel) rfl
theorem dX10_all_120 : decode cX10_all 120 = .ok (.invokevirtual 279, 3) := q_o182 (a := 1) (b := 23) (by decide +kernel)
theorem dX10_all_123 : decode cX10_all 123 = .ok (.ireturn, 1) := q_o172 (by decide +kernel)
theorem dX10_all_124 : decode cX10_all 124 = .ok (.aload_n 0, 1) := q_o42 (by decide +kernel)
theorem dX10_all_125 : decode cX10_all 125 = .ok (.invokevirtual 258, 3) := q_o182 (a := 1) (b := 2) (by decide +kernel)
theorem dX10_all_128 : decode cX10_all 128 = .ok (.ireturn, 1) := q_o172 (by decide +kernel)
theorem dX10_all_129 : decode cX10_all 129 = .ok (.aload_n 0, 1) := q_o42 (by decide +kernel)
theorem dX10_all_130 : decode cX10_all 130 = .ok (.invokevirtual 189, 3) := q_o182 (a := 0) (b := 189) (by decide +kernel)
theorem dX10_all_133 : decode cX10_all 133 = .ok (.ireturn, 1) := q_o172 (by decide +kernel)
theorem dX10_all_134 : decode cX10_all 134 = .ok (.aload_n 0, 1) := q_o42 (by decide +kernel)
theorem dX10_all_135 : decode cX10_all 135 = .ok (.invokevirtual 387, 3) := q_o182 (a := 1) (b := 131) (by decide +kernel)
theorem dX10_all_138 : decode cX10_all 138 = .ok (.ireturn, 1) := q_o172 (by decide +kernel)
theorem dX10_all_139 : decode cX10_all 139 = .ok (.aload_n 0, 1) := q_o42 (by decide +kernel)
theorem dX10_all_140 : decode cX10_all 140 = .ok (.invokevirtual 390, 3) := q_o182 (a := 1) (b := 134) (by decide +kernel)
theorem dX10_all_143 : decode cX10_all 143 = .ok (.ireturn, 1) := q_o172 (by decide +kernel)
theorem dX10_all_144 : decode cX10_all 144 = .ok (.aload_n 0, 1) := q_o42 (by decide +kernel)
theorem dX10_all_145 : decode cX10_all 145 = .ok (.invokevirtual 393, 3) := q_o182 (a := 1) (b := 137) (by decide +kernel)
theorem dX10_all_148 : decode cX10_all 148 = .ok (.ireturn, 1) := q_o172 (by decide +kernel)
theorem dX10_all_149 : decode cX10_all 149 = .ok (.aload_n 0, 1) := q_o42 (by decide +kernel)
theorem dX10_all_150 : decode cX10_all 150 = .ok (.iconst 0, 1) := q_o3 (by decide +kernel)
theorem dX10_all_151 : decode cX10_all 151 = .ok (.invokevirtual 396, 3) := q_o182 (a := 1) (b := 140) (by decide +kernel)
theorem dX10_all_154 : decode cX10_all 154 = .ok (.ireturn, 1) := q_o172 (by decide +kernel)
theorem dX10_all_155 : decode cX10_all 155 = .ok (.aload_n 0, 1) := q_o42 (by decide +kernel)
theorem dX10_all_156 : decode cX10_all 156 = .ok (.iconst 1, 1) := q_o4 (by decide +kernel)
theorem dX10_all_157 : decode cX10_all 157 = .ok (.invokevirtual 396, 3) := q_o182 (a := 1) (b := 140) (by decide +kernel)
theorem dX10_all_160 : decode cX10_all 160 = .ok (.ireturn, 1) := q_o172 (by decide +kernel)
theorem dX10_at_0 : decode cX10_at 0 = .ok (.iload_n 1, 1) := q_o27 (by decide +kernel)
theorem dX10_at_1 : decode cX10_at 1 = .ok (.ifCond .le 11, 3) := q_o158 (a := 0) (b := 11) (by decide +kernel) rfl
theorem dX10_at_4 : decode cX10_at 4 = .ok (.aload_n 0, 1) := q_o42 (by decide +kernel)
theorem dX10_at_5 : decode cX10_at 5 = .ok (.iload_n 1, 1) := q_o27 (by decide +kernel)
theorem dX10_at_6 : decode cX10_at 6 = .ok (.invokevirtual 195, 3) := q_o182 (a := 0) (b := 195) (by decide +kernel)
theorem dX10_at_9 : decode cX10_at 9 = .ok (.goto 4, 3) := q_o167 (a := 0) (b := 4) (by decide +kernel) rfl
theorem dX10_at_12 : decode cX10_at 12 = .ok (.iconst (-1), 1) := q_o2 (by decide +kernel)
theorem dX10_at_13 : decode cX10_at 13 = .ok (.ireturn, 1) := q_o172 (by decide +kernel)
theorem dX10_back_0 : decode cX10_back 0 = .ok (.aload_n 0, 1) := q_o42 (by decide +kernel)
theorem dX10_back_1 : decode cX10_back 1 = .ok (.getfield 154, 3) := q_o180 (a := 0) (b := 154) (by decide +kernel)
theorem dX10_back_4 : decode cX10_back 4 = .ok (.ifCond .ne 5, 3) := q_o154 (a := 0) (b := 5) (by decide +kernel) rfl
theorem dX10_back_7 : decode cX10_back 7 = .ok (.iconst (-1), 1) := q_o2 (by decide +kernel)
theorem dX10_back_8 : decode cX10_back 8 = .ok (.ireturn, 1) := q_o172 (by decide +kernel)
theorem dX10_back_9 : decode cX10_back 9 = .ok (.iconst 0, 1) := q_o3 (by decide +kernel)
theorem dX10_back_10 : decode cX10_back 10 = .ok (.istore_n 1, 1) := q_o60 (by decide +kernel)
theorem dX10_back_11 : decode cX10_back 11 = .ok (.iload_n 1, 1) := q_o27 (by decide +kernel)
theorem dX10_back_12 : decode cX10_back 12 = .ok (.sipush 279, 3) := q_o17 (a := 1) (b := 23) (by decide +kernel) rfl
theorem dX10_back_15 : decode cX10_back 15 = .ok (.if_icmp .ge 21, 3) := q_o162 (a := 0) (b := 21) (by decide +kernel) rfl
theorem dX10_back_18 : decode cX10_back 18 = .ok (.aload_n 0, 1) := q_o42 (by decide +kernel)
theorem dX10_back_19 : decode cX10_back 19 = .ok (.getfield 31, 3) := q_o180 (a := 0) (b := 31) (by decide +kernel)
theorem dX10_back_22 : decode cX10_back 22 = .ok (.iload_n 1, 1) := q_o27 (by decide +kernel)
theorem dX10_back_23 : decode cX10_back 23 = .ok (.aload_n 0, 1) := q_o42 (by decide +kernel)
theorem dX10_back_24 : decode cX10_back 24 = .ok (.getfield 49, 3) := q_o180 (a := 0) (b := 49) (by decide +kernel)
theorem dX10_back_27 : decode cX10_back 27 = .ok (.iload_n 1, 1) := q_o27 (by decide +kernel)
theorem dX10_back_28 : decode cX10_back 28 = .ok (.iaload, 1) := q_o46 (by decide +kernel)
theorem dX10_back_29 : decode cX10_back 29 = .ok (.iastore, 1) := q_o79 (by decide +kernel)
theorem dX10_back_30 : decode cX10_back 30 = .ok (.iinc 1 1, 3) := q_o132 (a := 1) (b := 1) (by decide +kernel) rfl
theorem dX10_back_33 : decode cX10_back 33 = .ok (.goto (-22), 3) := q_o167 (a := 255) (b := 234) (by decide +kernel) rfl
theorem dX10_back_36 : decode cX10_back 36 = .ok (.aload_n 0, 1) := q_o42 (by decide +kernel)
theorem dX10_back_37 : decode cX10_back 37 = .ok (.iconst 0, 1) := q_o3 (by decide +kernel)
theorem dX10_back_38 : decode cX10_back 38 = .ok (.putfield 151, 3) := q_o181 (a := 0) (b := 151) (by decide +kernel)
theorem dX10_back_41 : decode cX10_back 41 = .ok (.aload_n 0, 1) := q_o42 (by decide +kernel)
theorem dX10_back_42 : decode cX10_back 42 = .ok (.getfield 31, 3) := q_o180 (a := 0) (b := 31) (by decide +kernel)
theorem dX10_back_45 : decode cX10_back 45 = .ok (.bipush 96, 2) := q_o16 (a := 96) (by decide +kernel) rfl
theorem dX10_back_47 : decode cX10_back 47 = .ok (.iaload, 1) := q_o46 (by decide +kernel)
theorem dX10_back_48 : decode cX10_back 48 = .ok (.ireturn, 1) := q_o172 (by decide +kernel)
theorem dX10_bringBack_0 : decode cX10_bringBack 0 = .ok (.iconst 0, 1) := q_o3 (by decide +kernel)
theorem dX10_bringBack_1 : decode cX10_bringBack 1 = .ok (.istore_n 1, 1) := q_o60 (by decide +kernel)
theorem dX10_bringBack_2 : decode cX10_bringBack 2 = .ok (.iload_n 1, 1) := q_o27 (by decide +kernel)
theorem dX10_bringBack_3 : decode cX10_bringBack 3 = .ok (.bipush 98, 2) := q_o16 (a := 98) (by decide +kernel) rfl
theorem dX10_bringBack_5 : decode cX10_bringBack 5 = .ok (.if_icmp .ge 21, 3) := q_o162 (a := 0) (b := 21) (by decide +kernel) rfl
theorem dX10_bringBack_8 : decode cX10_bringBack 8 = .ok (.aload_n 0, 1) := q_o42 (by decide +kernel)
theorem dX10_bringBack_9 : decode cX10_bringBack 9 = .ok (.getfield 31, 3) := q_o180 (a := 0) (b := 31) (by decide +kernel)
theorem dX10_bringBack_12 : decode cX10_bringBack 12 = .ok (.iload_n 1, 1) := q_o27 (by decide +kernel)
theorem dX10_bringBack_13 : decode cX10_bringBack 13 = .ok (.aload_n 0, 1) := q_o42 (by decide +kernel)
theorem dX10_bringBack_14 : decode cX10_bringBack 14 = .ok (.getfield 40, 3) := q_o180 (a := 0) (b := 40) (by decide +kernel)
theorem dX10_bringBack_17 : decode cX10_bringBack 17 = .ok (.iload_n 1, 1) := q_o27 (by decide +kernel)
theorem dX10_bringBack_18 : decode cX10_bringBack 18 = .ok (.iaload, 1) := q_o46 (by decide +kernel)
theorem dX10_bringBack_19 : decode cX10_bringBack 19 = .ok (.iastore, 1) := q_o79 (by decide +kernel)
theorem dX10_bringBack_20 : decode cX10_bringBack 20 = .ok (.iinc 1 1, 3) := q_o132 (a := 1) (b := 1) (by decide +kernel) rfl
theorem dX10_bringBack_23 : decode cX10_bringBack 23 = .ok (.goto (-21), 3) := q_o167 (a := 255) (b := 235) (by decide +kernel) rfl
theorem dX10_bringBack_26 : decode cX10_bringBack 26 = .ok (.return_, 1) := q_o177 (by decide +kernel)
theorem dX10_count_0 : decode cX10_count 0 = .ok (.iload_n 1, 1) := q_o27 (by decide +kernel)
theorem dX10_count_1 : decode cX10_count 1 = .ok (.tableswitch 63 0 4 #[35, 40, 45, 50, 58], 35) := by decide +kernel
theorem dX10_count_36 : decode cX10_count 36 = .ok (.aload_n 0, 1) := q_o42 (by decide +kernel)
theorem dX10_count_37 : decode cX10_count 37 = .ok (.getfield 132, 3) := q_o180 (a := 0) (b := 132) (by decide +kernel)
theorem dX10_count_40 : decode cX10_count 40 = .ok (.ireturn, 1) := q_o172 (by decide +kernel)
theorem dX10_count_41 : decode cX10_count 41 = .ok (.aload_n 0, 1) := q_o42 (by decide +kernel)
theorem dX10_count_42 : decode cX10_count 42 = .ok (.getfield 161, 3) := q_o180 (a := 0) (b := 161) (by decide +kernel)
theorem dX10_count_45 : decode cX10_count 45 = .ok (.ireturn, 1) := q_o172 (by decide +kernel)
theorem dX10_count_46 : decode cX10_count 46 = .ok (.aload_n 0, 1) := q_o42 (by decide +kernel)
theorem dX10_count_47 : decode cX10_count 47 = .ok (.getfield 60, 3) := q_o180 (a := 0) (b := 60) (by decide +kernel)
theorem dX10_count_50 : decode cX10_count 50 = .ok (.ireturn, 1) := q_o172 (by decide +kernel)
theorem dX10_count_51 : decode cX10_count 51 = .ok (.aload_n 0, 1) := q_o42 (by decide +kernel)
theorem dX10_count_52 : decode cX10_count 52 = .ok (.getfield 31, 3) := q_o180 (a := 0) (b := 31) (by decide +kernel)
theorem dX10_count_55 : decode cX10_count 55 = .ok (.bipush 98, 2) := q_o16 (a := 98) (by decide +kernel) rfl
theorem dX10_count_57 : decode cX10_count 57 = .ok (.iaload, 1) := q_o46 (by decide +kernel)
theorem dX10_count_58 : decode cX10_count 58 = .ok (.ireturn, 1) := q_o172 (by decide +kernel)
theorem dX10_count_59 : decode cX10_count 59 = .ok (.aload_n 0, 1) := q_o42 (by decide +kernel)
theorem dX10_count_60 : decode cX10_count 60 = .ok (.getfield 151, 3) := q_o180 (a := 0) (b := 151) (by decide +kernel)
theorem dX10_count_63 : decode cX10_count 63 = .ok (.ireturn, 1) := q_o172 (by decide +kernel)
theorem dX10_count_64 : decode cX10_count 64 = .ok (.ldc_w 358, 3) := by decide +kernel
theorem dX10_count_67 : decode cX10_count 67 = .ok (.ireturn, 1) := q_o172 (by decide +kernel)
theorem dX10_deepest_0 : decode cX10_deepest 0 = .ok (.iconst 0, 1) := q_o3 (by decide +kernel)
theorem dX10_deepest_1 : decode cX10_deepest 1 = .ok (.istore_n 1, 1) := q_o60 (by decide +kernel)
theorem dX10_deepest_2 : decode cX10_deepest 2 = .ok (.iconst 0, 1) := q_o3 (by decide +kernel)
theorem dX10_deepest_3 : decode cX10_deepest 3 = .ok (.istore_n 2, 1) := q_o61 (by decide +kernel)
theorem dX10_deepest_4 : decode cX10_deepest 4 = .ok (.iload_n 2, 1) := q_o28 (by decide +kernel)
theorem dX10_deepest_5 : decode cX10_deepest 5 = .ok (.aload_n 0, 1) := q_o42 (by decide +kernel)
theorem dX10_deepest_6 : decode cX10_deepest 6 = .ok (.getfield 132, 3) := q_o180 (a := 0) (b := 132) (by decide +kernel)
theorem dX10_deepest_9 : decode cX10_deepest 9 = .ok (.if_icmp .ge 19, 3) := q_o162 (a := 0) (b := 19) (by decide +kernel) rfl
theorem dX10_deepest_12 : decode cX10_deepest 12 = .ok (.iload_n 1, 1) := q_o27 (by decide +kernel)
theorem dX10_deepest_13 : decode cX10_deepest 13 = .ok (.aload_n 0, 1) := q_o42 (by decide +kernel)
theorem dX10_deepest_14 : decode cX10_deepest 14 = .ok (.iload_n 2, 1) := q_o28 (by decide +kernel)
theorem dX10_deepest_15 : decode cX10_deepest 15 = .ok (.invokevirtual 223, 3) := q_o182 (a := 0) (b := 223) (by decide +kernel)
theorem dX10_deepest_18 : decode cX10_deepest 18 = .ok (.invokestatic 384, 3) := q_o184 (a := 1) (b := 128) (by decide +kernel)
theorem dX10_deepest_21 : decode cX10_deepest 21 = .ok (.istore_n 1, 1) := q_o60 (by decide +kernel)
theorem dX10_deepest_22 : decode cX10_deepest 22 = .ok (.iinc 2 1, 3) := q_o132 (a := 2) (b := 1) (by decide +kernel) rfl
theorem dX10_deepest_25 : decode cX10_deepest 25 = .ok (.goto (-21), 3) := q_o167 (a := 255) (b := 235) (by decide +kernel) rfl
theorem dX10_deepest_28 : decode cX10_deepest 28 = .ok (.iload_n 1, 1) := q_o27 (by decide +kernel)
theorem dX10_deepest_29 : decode cX10_deepest 29 = .ok (.ireturn, 1) := q_o172 (by decide +kernel)
theorem dX10_device_0 : decode cX10_device 0 = .ok (.aload_n 0, 1) := q_o42 (by decide +kernel)
theorem dX10_device_1 : decode cX10_device 1 = .ok (.aload_n 0, 1) := q_o42 (by decide +kernel)
theorem dX10_device_2 : decode cX10_device 2 = .ok (.iload_n 1, 1) := q_o27 (by decide +kernel)
theorem dX10_device_3 : decode cX10_device 3 = .ok (.invokevirtual 139, 3) := q_o182 (a := 0) (b := 139) (by decide +kernel)
theorem dX10_device_6 : decode cX10_device 6 = .ok (.ifCond .eq 17, 3) := q_o153 (a := 0) (b := 17) (by decide +kernel) rfl
theorem dX10_device_9 : decode cX10_device 9 = .ok (.iload_n 2, 1) := q_o28 (by decide +kernel)
theorem dX10_device_10 : decode cX10_device 10 = .ok (.iconst 0, 1) := q_o3 (by decide +kernel)
theorem dX10_device_11 : decode cX10_device 11 = .ok (.bipush 12, 2) := q_o16 (a := 12) (by decide +kernel) rfl
theorem dX10_device_13 : decode cX10_device 13 = .ok (.invokestatic 63, 3) := q_o184 (a := 0) (b := 63) (by decide +kernel)
theorem dX10_device_16 : decode cX10_device 16 = .ok (.ifCond .eq 7, 3) := q_o153 (a := 0) (b := 7) (by decide +kernel) rfl
theorem dX10_device_19 : decode cX10_device 19 = .ok (.iconst 0, 1) := q_o3 (by decide +kernel)
theorem dX10_device_20 : decode cX10_device 20 = .ok (.goto 4, 3) := q_o167 (a := 0) (b := 4) (by decide +kernel) rfl
theorem dX10_device_23 : decode cX10_device 23 = .ok (.iconst 1, 1) := q_o4 (by decide +kernel)
theorem dX10_device_24 : decode cX10_device 24 = .ok (.putfield 52, 3) := q_o181 (a := 0) (b := 52) (by decide +kernel)
theorem dX10_device_27 : decode cX10_device 27 = .ok (.aload_n 0, 1) := q_o42 (by decide +kernel)
theorem dX10_device_28 : decode cX10_device 28 = .ok (.getfield 52, 3) := q_o180 (a := 0) (b := 52) (by decide +kernel)
theorem dX10_device_31 : decode cX10_device 31 = .ok (.iconst 1, 1) := q_o4 (by decide +kernel)
theorem dX10_device_32 : decode cX10_device 32 = .ok (.if_icmp .ne 5, 3) := q_o160 (a := 0) (b := 5) (by decide +kernel) rfl
theorem dX10_device_35 : decode cX10_device 35 = .ok (.iconst 0, 1) := q_o3 (by decide +kernel)
theorem dX10_device_36 : decode cX10_device 36 = .ok (.ireturn, 1) := q_o172 (by decide +kernel)
theorem dX10_device_37 : decode cX10_device 37 = .ok (.iload_n 2, 1) := q_o28 (by decide +kernel)
theorem dX10_device_38 : decode cX10_device 38 = .ok (.tableswitch 48 10 12 #[26, 32, 38], 26) := by decide +kernel
theorem dX10_device_64 : decode cX10_device 64 = .ok (.aload_n 0, 1) := q_o42 (by decide +kernel)
theorem dX10_device_65 : decode cX10_device 65 = .ok (.iload_n 1, 1) := q_o27 (by decide +kernel)
theorem dX10_device_66 : decode cX10_device 66 = .ok (.invokevirtual 223, 3) := q_o182 (a := 0) (b := 223) (by decide +kernel)
theorem dX10_device_69 : decode cX10_device 69 = .ok (.ireturn, 1) := q_o172 (by decide +kernel)
theorem dX10_device_70 : decode cX10_device 70 = .ok (.aload_n 0, 1) := q_o42 (by decide +kernel)
theorem dX10_device_71 : decode cX10_device 71 = .ok (.iload_n 1, 1) := q_o27 (by decide +kernel)
theorem dX10_device_72 : decode cX10_device 72 = .ok (.invokevirtual 177, 3) := q_o182 (a := 0) (b := 177) (by decide +kernel)
theorem dX10_device_75 : decode cX10_device 75 = .ok (.ireturn, 1) := q_o172 (by decide +kernel)
theorem dX10_device_76 : decode cX10_device 76 = .ok (.aload_n 0, 1) := q_o42 (by decide +kernel)
theorem dX10_device_77 : decode cX10_device 77 = .ok (.getfield 31, 3) := q_o180 (a := 0) (b := 31) (by decide +kernel)
theorem dX10_device_80 : decode cX10_device 80 = .ok (.bipush 88, 2) := q_o16 (a := 88) (by decide +kernel) rfl
theorem dX10_device_82 : decode cX10_device 82 = .ok (.iload_n 1, 1) := q_o27 (by decide +kernel)
theorem dX10_device_83 : decode cX10_device 83 = .ok (.iadd, 1) := q_o96 (by decide +kernel)
theorem dX10_device_84 : decode cX10_device 84 = .ok (.iaload, 1) := q_o46 (by decide +kernel)
theorem dX10_device_85 : decode cX10_device 85 = .ok (.ireturn, 1) := q_o172 (by decide +kernel)
theorem dX10_device_86 : decode cX10_device 86 = .ok (.aload_n 0, 1) := q_o42 (by decide +kernel)
theorem dX10_device_87 : decode cX10_device 87 = .ok (.getfield 31, 3) := q_o180 (a := 0) (b := 31) (by decide +kernel)
theorem dX10_device_90 : decode cX10_device 90 = .ok (.bipush 8, 2) := q_o16 (a := 8) (by decide +kernel) rfl
theorem dX10_device_92 : decode cX10_device 92 = .ok (.iload_n 2, 1) := q_o28 (by decide +kernel)
theorem dX10_device_93 : decode cX10_device 93 = .ok (.imul, 1) := q_o104 (by decide +kernel)
theorem dX10_device_94 : decode cX10_device 94 = .ok (.iload_n 1, 1) := q_o27 (by decide +kernel)
theorem dX10_device_95 : decode cX10_device 95 = .ok (.iadd, 1) := q_o96 (by decide +kernel)
theorem dX10_device_96 : decode cX10_device 96 = .ok (.iaload, 1) := q_o46 (by decide +kernel)
theorem dX10_device_97 : decode cX10_device 97 = .ok (.ireturn, 1) := q_o172 (by decide +kernel)
theorem dX10_draw_0 : decode cX10_draw 0 = .ok (.aload_n 0, 1) := q_o42 (by decide +kernel)
theorem dX10_draw_1 : decode cX10_draw 1 = .ok (.aload_n 0, 1) := q_o42 (by decide +kernel)
theorem dX10_draw_2 : decode cX10_draw 2 = .ok (.getfield 340, 3) := q_o180 (a := 1) (b := 84) (by decide +kernel)
theorem dX10_draw_5 : decode cX10_draw 5 = .ok (.ldc2_w 344, 3) := by decide +kernel
theorem dX10_draw_8 : decode cX10_draw 8 = .ok (.lmul, 1) := by decide +kernel
theorem dX10_draw_9 : decode cX10_draw 9 = .ok (.ldc2_w 346, 3) := by decide +kernel
theorem dX10_draw_12 : decode cX10_draw 12 = .ok (.ladd, 1) := by decide +kernel
theorem dX10_draw_13 : decode cX10_draw 13 = .ok (.putfield 340, 3) := q_o181 (a := 1) (b := 84) (by decide +kernel)
theorem dX10_draw_16 : decode cX10_draw 16 = .ok (.aload_n 0, 1) := q_o42 (by decide +kernel)
theorem dX10_draw_17 : decode cX10_draw 17 = .ok (.getfield 340, 3) := q_o180 (a := 1) (b := 84) (by decide +kernel)
theorem dX10_draw_20 : decode cX10_draw 20 = .ok (.bipush 33, 2) := q_o16 (a := 33) (by decide +kernel) rfl
theorem dX10_draw_22 : decode cX10_draw 22 = .ok (.lushr, 1) := by decide +kernel
theorem dX10_draw_23 : decode cX10_draw 23 = .ok (.iload_n 1, 1) := q_o27 (by decide +kernel)
theorem dX10_draw_24 : decode cX10_draw 24 = .ok (.i2l, 1) := by decide +kernel
theorem dX10_draw_25 : decode cX10_draw 25 = .ok (.lrem, 1) := by decide +kernel
theorem dX10_draw_26 : decode cX10_draw 26 = .ok (.l2i, 1) := by decide +kernel
theorem dX10_draw_27 : decode cX10_draw 27 = .ok (.ireturn, 1) := q_o172 (by decide +kernel)
theorem dX10_drawYear_0 : decode cX10_drawYear 0 = .ok (.aload_n 0, 1) := q_o42 (by decide +kernel)
theorem dX10_drawYear_1 : decode cX10_drawYear 1 = .ok (.bipush 8, 2) := q_o16 (a := 8) (by decide +kernel) rfl
theorem dX10_drawYear_3 : decode cX10_drawYear 3 = .ok (.invokevirtual 348, 3) := q_o182 (a := 1) (b := 92) (by decide +kernel)
theorem dX10_drawYear_6 : decode cX10_drawYear 6 = .ok (.istore_n 1, 1) := q_o60 (by decide +kernel)
theorem dX10_drawYear_7 : decode cX10_drawYear 7 = .ok (.iload_n 1, 1) := q_o27 (by decide +kernel)
theorem dX10_drawYear_8 : decode cX10_drawYear 8 = .ok (.iconst 3, 1) := q_o6 (by decide +kernel)
theorem dX10_drawYear_9 : decode cX10_drawYear 9 = .ok (.if_icmp .ge 51, 3) := q_o162 (a := 0) (b := 51) (by decide +kernel) rfl
theorem dX10_drawYear_12 : decode cX10_drawYear 12 = .ok (.aload_n 0, 1) := q_o42 (by decide +kernel)
theorem dX10_drawYear_13 : decode cX10_drawYear 13 = .ok (.aload_n 0, 1) := q_o42 (by decide +kernel)
theorem dX10_drawYear_14 : decode cX10_drawYear 14 = .ok (.getfield 132, 3) := q_o180 (a := 0) (b := 132) (by decide +kernel)
theorem dX10_drawYear_17 : decode cX10_drawYear 17 = .ok (.invokevirtual 348, 3) := q_o182 (a := 1) (b := 92) (by decide +kernel)
theorem dX10_drawYear_20 : decode cX10_drawYear 20 = .ok (.istore_n 2, 1) := q_o61 (by decide +kernel)
theorem dX10_drawYear_21 : decode cX10_drawYear 21 = .ok (.aload_n 0, 1) := q_o42 (by decide +kernel)
theorem dX10_drawYear_22 : decode cX10_drawYear 22 = .ok (.aload_n 0, 1) := q_o42 (by decide +kernel)
theorem dX10_drawYear_23 : decode cX10_drawYear 23 = .ok (.getfield 132, 3) := q_o180 (a := 0) (b := 132) (by decide +kernel)
theorem dX10_drawYear_26 : decode cX10_drawYear 26 = .ok (.iconst 1, 1) := q_o4 (by decide +kernel)
theorem dX10_drawYear_27 : decode cX10_drawYear 27 = .ok (.iadd, 1) := q_o96 (by decide +kernel)
theorem dX10_drawYear_28 : decode cX10_drawYear 28 = .ok (.invokevirtual 348, 3) := q_o182 (a := 1) (b := 92) (by decide +kernel)
theorem dX10_drawYear_31 : decode cX10_drawYear 31 = .ok (.istore_n 3, 1) := q_o62 (by decide +kernel)
theorem dX10_drawYear_32 : decode cX10_drawYear 32 = .ok (.aload_n 0, 1) := q_o42 (by decide +kernel)
theorem dX10_drawYear_33 : decode cX10_drawYear 33 = .ok (.iconst 0, 1) := q_o3 (by decide +kernel)
theorem dX10_drawYear_34 : decode cX10_drawYear 34 = .ok (.iload_n 2, 1) := q_o28 (by decide +kernel)
theorem dX10_drawYear_35 : decode cX10_drawYear 35 = .ok (.iload_n 3, 1) := q_o29 (by decide +kernel)
theorem dX10_drawYear_36 : decode cX10_drawYear 36 = .ok (.aload_n 0, 1) := q_o42 (by decide +kernel)
theorem dX10_drawYear_37 : decode cX10_drawYear 37 = .ok (.getfield 132, 3) := q_o180 (a := 0) (b := 132) (by decide +kernel)
theorem dX10_drawYear_40 : decode cX10_drawYear 40 = .ok (.if_icmp .ne 8, 3) := q_o160 (a := 0) (b := 8) (by decide +kernel) rfl
theorem dX10_drawYear_43 : decode cX10_drawYear 43 = .ok (.bipush 8, 2) := q_o16 (a := 8) (by decide +kernel) rfl
theorem dX10_drawYear_45 : decode cX10_drawYear 45 = .ok (.goto 4, 3) := q_o167 (a := 0) (b := 4) (by decide +kernel) rfl
theorem dX10_drawYear_48 : decode cX10_drawYear 48 = .ok (.iload_n 3, 1) := q_o29 (by decide +kernel)
theorem dX10_drawYear_49 : decode cX10_drawYear 49 = .ok (.aload_n 0, 1) := q_o42 (by decide +kernel)
theorem dX10_drawYear_50 : decode cX10_drawYear 50 = .ok (.iconst 4, 1) := q_o7 (by decide +kernel)
theorem dX10_drawYear_51 : decode cX10_drawYear 51 = .ok (.invokevirtual 348, 3) := q_o182 (a := 1) (b := 92) (by decide +kernel)
theorem dX10_drawYear_54 : decode cX10_drawYear 54 = .ok (.invokevirtual 351, 3) := q_o182 (a := 1) (b := 95) (by decide +kernel)
theorem dX10_drawYear_57 : decode cX10_drawYear 57 = .ok (.goto 65, 3) := q_o167 (a := 0) (b := 65) (by decide +kernel) rfl
theorem dX10_drawYear_60 : decode cX10_drawYear 60 = .ok (.iload_n 1, 1) := q_o27 (by decide +kernel)
theorem dX10_drawYear_61 : decode cX10_drawYear 61 = .ok (.iconst 3, 1) := q_o6 (by decide +kernel)
theorem dX10_drawYear_62 : decode cX10_drawYear 62 = .ok (.if_icmp .ne 21, 3) := q_o160 (a := 0) (b := 21) (by decide +kernel) rfl
theorem dX10_drawYear_65 : decode cX10_drawYear 65 = .ok (.aload_n 0, 1) := q_o42 (by decide +kernel)
theorem dX10_drawYear_66 : decode cX10_drawYear 66 = .ok (.iconst 1, 1) := q_o4 (by decide +kernel)
theorem dX10_drawYear_67 : decode cX10_drawYear 67 = .ok (.aload_n 0, 1) := q_o42 (by decide +kernel)
theorem dX10_drawYear_68 : decode cX10_drawYear 68 = .ok (.aload_n 0, 1) := q_o42 (by decide +kernel)
theorem dX10_drawYear_69 : decode cX10_drawYear 69 = .ok (.getfield 132, 3) := q_o180 (a := 0) (b := 132) (by decide +kernel)
theorem dX10_drawYear_72 : decode cX10_drawYear 72 = .ok (.invokevirtual 348, 3) := q_o182 (a := 1) (b := 92) (by decide +kernel)
theorem dX10_drawYear_75 : decode cX10_drawYear 75 = .ok (.iconst 0, 1) := q_o3 (by decide +kernel)
theorem dX10_drawYear_76 : decode cX10_drawYear 76 = .ok (.iconst 0, 1) := q_o3 (by decide +kernel)
theorem dX10_drawYear_77 : decode cX10_drawYear 77 = .ok (.invokevirtual 351, 3) := q_o182 (a := 1) (b := 95) (by decide +kernel)
theorem dX10_drawYear_80 : decode cX10_drawYear 80 = .ok (.goto 42, 3) := q_o167 (a := 0) (b := 42) (by decide +kernel) rfl
theorem dX10_drawYear_83 : decode cX10_drawYear 83 = .ok (.iload_n 1, 1) := q_o27 (by decide +kernel)
theorem dX10_drawYear_84 : decode cX10_drawYear 84 = .ok (.bipush 7, 2) := q_o16 (a := 7) (by decide +kernel) rfl
theorem dX10_drawYear_86 : decode cX10_drawYear 86 = .ok (.if_icmp .ge 21, 3) := q_o162 (a := 0) (b := 21) (by decide +kernel) rfl
theorem dX10_drawYear_89 : decode cX10_drawYear 89 = .ok (.aload_n 0, 1) := q_o42 (by decide +kernel)
theorem dX10_drawYear_90 : decode cX10_drawYear 90 = .ok (.iconst 2, 1) := q_o5 (by decide +kernel)
theorem dX10_drawYear_91 : decode cX10_drawYear 91 = .ok (.aload_n 0, 1) := q_o42 (by decide +kernel)
theorem dX10_drawYear_92 : decode cX10_drawYear 92 = .ok (.bipush 9, 2) := q_o16 (a := 9) (by decide +kernel) rfl
theorem dX10_drawYear_94 : decode cX10_drawYear 94 = .ok (.invokevirtual 348, 3) := q_o182 (a := 1) (b := 92) (by decide +kernel)
theorem dX10_drawYear_97 : decode cX10_drawYear 97 = .ok (.iconst 1, 1) := q_o4 (by decide +kernel)
theorem dX10_drawYear_98 : decode cX10_drawYear 98 = .ok (.iadd, 1) := q_o96 (by decide +kernel)
theorem dX10_drawYear_99 : decode cX10_drawYear 99 = .ok (.iconst 0, 1) := q_o3 (by decide +kernel)
theorem dX10_drawYear_100 : decode cX10_drawYear 100 = .ok (.iconst 0, 1) := q_o3 (by decide +kernel)
theorem dX10_drawYear_101 : decode cX10_drawYear 101 = .ok (.invokevirtual 351, 3) := q_o182 (a := 1) (b := 95) (by decide +kernel)
theorem dX10_drawYear_104 : decode cX10_drawYear 104 = .ok (.goto 18, 3) := q_o167 (a := 0) (b := 18) (by decide +kernel) rfl
theorem dX10_drawYear_107 : decode cX10_drawYear 107 = .ok (.aload_n 0, 1) := q_o42 (by decide +kernel)
theorem dX10_drawYear_108 : decode cX10_drawYear 108 = .ok (.iconst 3, 1) := q_o6 (by decide +kernel)
theorem dX10_drawYear_109 : decode cX10_drawYear 109 = .ok (.aload_n 0, 1) := q_o42 (by decide +kernel)
theorem dX10_drawYear_110 : decode cX10_drawYear 110 = .ok (.aload_n 0, 1) := q_o42 (by decide +kernel)
theorem dX10_drawYear_111 : decode cX10_drawYear 111 = .ok (.getfield 132, 3) := q_o180 (a := 0) (b := 132) (by decide +kernel)
theorem dX10_drawYear_114 : decode cX10_drawYear 114 = .ok (.invokevirtual 348, 3) := q_o182 (a := 1) (b := 92) (by decide +kernel)
theorem dX10_drawYear_117 : decode cX10_drawYear 117 = .ok (.iconst 0, 1) := q_o3 (by decide +kernel)
theorem dX10_drawYear_118 : decode cX10_drawYear 118 = .ok (.iconst 0, 1) := q_o3 (by decide +kernel)
theorem dX10_drawYear_119 : decode cX10_drawYear 119 = .ok (.invokevirtual 351, 3) := q_o182 (a := 1) (b := 95) (by decide +kernel)
theorem dX10_drawYear_122 : decode cX10_drawYear 122 = .ok (.return_, 1) := q_o177 (by decide +kernel)
theorem dX10_freeAddresses_0 : decode cX10_freeAddresses 0 = .ok (.iconst 0, 1) := q_o3 (by decide +kernel)
theorem dX10_freeAddresses_1 : decode cX10_freeAddresses 1 = .ok (.istore_n 1, 1) := q_o60 (by decide +kernel)
theorem dX10_freeAddresses_2 : decode cX10_freeAddresses 2 = .ok (.iconst 1, 1) := q_o4 (by decide +kernel)
theorem dX10_freeAddresses_3 : decode cX10_freeAddresses 3 = .ok (.istore_n 2, 1) := q_o61 (by decide +kernel)
theorem dX10_freeAddresses_4 : decode cX10_freeAddresses 4 = .ok (.iload_n 2, 1) := q_o28 (by decide +kernel)
theorem dX10_freeAddresses_5 : decode cX10_freeAddresses 5 = .ok (.aload_n 0, 1) := q_o42 (by decide +kernel)
theorem dX10_freeAddresses_6 : decode cX10_freeAddresses 6 = .ok (.getfield 19, 3) := q_o180 (a := 0) (b := 19) (by decide +kernel)
theorem dX10_freeAddresses_9 : decode cX10_freeAddresses 9 = .ok (.bipush 7, 2) := q_o16 (a := 7) (by decide +kernel) rfl
theorem dX10_freeAddresses_11 : decode cX10_freeAddresses 11 = .ok (.iaload, 1) := q_o46 (by decide +kernel)
theorem dX10_freeAddresses_12 : decode cX10_freeAddresses 12 = .ok (.if_icmp .gt 26, 3) := q_o163 (a := 0) (b := 26) (by decide +kernel) rfl
theorem dX10_freeAddresses_15 : decode cX10_freeAddresses 15 = .ok (.iload_n 1, 1) := q_o27 (by decide +kernel)
theorem dX10_freeAddresses_16 : decode cX10_freeAddresses 16 = .ok (.aload_n 0, 1) := q_o42 (by decide +kernel)
theorem dX10_freeAddresses_17 : decode cX10_freeAddresses 17 = .ok (.iload_n 2, 1) := q_o28 (by decide +kernel)
theorem dX10_freeAddresses_18 : decode cX10_freeAddresses 18 = .ok (.invokevirtual 195, 3) := q_o182 (a := 0) (b := 195) (by decide +kernel)
theorem dX10_freeAddresses_21 : decode cX10_freeAddresses 21 = .ok (.iconst (-1), 1) := q_o2 (by decide +kernel)
theorem dX10_freeAddresses_22 : decode cX10_freeAddresses 22 = .ok (.if_icmp .ne 7, 3) := q_o160 (a := 0) (b := 7) (by decide +kernel) rfl
theorem dX10_freeAddresses_25 : decode cX10_freeAddresses 25 = .ok (.iconst 1, 1) := q_o4 (by decide +kernel)
theorem dX10_freeAddresses_26 : decode cX10_freeAddresses 26 = .ok (.goto 4, 3) := q_o167 (a := 0) (b := 4) (by decide +kernel) rfl
theorem dX10_freeAddresses_29 : decode cX10_freeAddresses 29 = .ok (.iconst 0, 1) := q_o3 (by decide +kernel)
theorem dX10_freeAddresses_30 : decode cX10_freeAddresses 30 = .ok (.iadd, 1) := q_o96 (by decide +kernel)
theorem dX10_freeAddresses_31 : decode cX10_freeAddresses 31 = .ok (.istore_n 1, 1) := q_o60 (by decide +kernel)
theorem dX10_freeAddresses_32 : decode cX10_freeAddresses 32 = .ok (.iinc 2 1, 3) := q_o132 (a := 2) (b := 1) (by decide +kernel) rfl
theorem dX10_freeAddresses_35 : decode cX10_freeAddresses 35 = .ok (.goto (-31), 3) := q_o167 (a := 255) (b := 225) (by decide +kernel) rfl
theorem dX10_freeAddresses_38 : decode cX10_freeAddresses 38 = .ok (.iload_n 1, 1) := q_o27 (by decide +kernel)
theorem dX10_freeAddresses_39 : decode cX10_freeAddresses 39 = .ok (.ireturn, 1) := q_o172 (by decide +kernel)
theorem dX10_goSteps_0 : decode cX10_goSteps 0 = .ok (.iconst 0, 1) := q_o3 (by decide +kernel)
theorem dX10_goSteps_1 : decode cX10_goSteps 1 = .ok (.istore_n 3, 1) := q_o62 (by decide +kernel)
theorem dX10_goSteps_2 : decode cX10_goSteps 2 = .ok (.iload_n 3, 1) := q_o29 (by decide +kernel)
theorem dX10_goSteps_3 : decode cX10_goSteps 3 = .ok (.aload_n 0, 1) := q_o42 (by decide +kernel)
theorem dX10_goSteps_4 : decode cX10_goSteps 4 = .ok (.getfield 28, 3) := q_o180 (a := 0) (b := 28) (by decide +kernel)
theorem dX10_goSteps_7 : decode cX10_goSteps 7 = .ok (.iload_n 1, 1) := q_o27 (by decide +kernel)
theorem dX10_goSteps_8 : decode cX10_goSteps 8 = .ok (.iaload, 1) := q_o46 (by decide +kernel)
theorem dX10_goSteps_9 : decode cX10_goSteps 9 = .ok (.if_icmp .ge 145, 3) := q_o162 (a := 0) (b := 145) (by decide +kernel) rfl
theorem dX10_goSteps_12 : decode cX10_goSteps 12 = .ok (.iconst 4, 1) := q_o7 (by decide +kernel)
theorem dX10_goSteps_13 : decode cX10_goSteps 13 = .ok (.bipush 16, 2) := q_o16 (a := 16) (by decide +kernel) rfl
theorem dX10_goSteps_15 : decode cX10_goSteps 15 = .ok (.iload_n 1, 1) := q_o27 (by decide +kernel)
theorem dX10_goSteps_16 : decode cX10_goSteps 16 = .ok (.imul, 1) := q_o104 (by decide +kernel)
theorem dX10_goSteps_17 : decode cX10_goSteps 17 = .ok (.iload_n 3, 1) := q_o29 (by decide +kernel)
theorem dX10_goSteps_18 : decode cX10_goSteps 18 = .ok (.iadd, 1) := q_o96 (by decide +kernel)
theorem dX10_goSteps_19 : decode cX10_goSteps 19 = .ok (.imul, 1) := q_o104 (by decide +kernel)
theorem dX10_goSteps_20 : decode cX10_goSteps 20 = .ok (.istore 4, 2) := q_o54 (a := 4) (by decide +kernel)
theorem dX10_goSteps_22 : decode cX10_goSteps 22 = .ok (.aload_n 0, 1) := q_o42 (by decide +kernel)
theorem dX10_goSteps_23 : decode cX10_goSteps 23 = .ok (.getfield 25, 3) := q_o180 (a := 0) (b := 25) (by decide +kernel)
theorem dX10_goSteps_26 : decode cX10_goSteps 26 = .ok (.iload 4, 2) := q_o21 (a := 4) (by decide +kernel)
theorem dX10_goSteps_28 : decode cX10_goSteps 28 = .ok (.iaload, 1) := q_o46 (by decide +kernel)
theorem dX10_goSteps_29 : decode cX10_goSteps 29 = .ok (.invokestatic 377, 3) := q_o184 (a := 1) (b := 121) (by decide +kernel)
theorem dX10_goSteps_32 : decode cX10_goSteps 32 = .ok (.istore 5, 2) := q_o54 (a := 5) (by decide +kernel)
theorem dX10_goSteps_34 : decode cX10_goSteps 34 = .ok (.aload_n 0, 1) := q_o42 (by decide +kernel)
theorem dX10_goSteps_35 : decode cX10_goSteps 35 = .ok (.iload 5, 2) := q_o21 (a := 5) (by decide +kernel)
theorem dX10_goSteps_37 : decode cX10_goSteps 37 = .ok (.aload_n 0, 1) := q_o42 (by decide +kernel)
theorem dX10_goSteps_38 : decode cX10_goSteps 38 = .ok (.getfield 25, 3) := q_o180 (a := 0) (b := 25) (by decide +kernel)
theorem dX10_goSteps_41 : decode cX10_goSteps 41 = .ok (.iload 4, 2) := q_o21 (a := 4) (by decide +kernel)
theorem dX10_goSteps_43 : decode cX10_goSteps 43 = .ok (.iconst 1, 1) := q_o4 (by decide +kernel)
theorem dX10_goSteps_44 : decode cX10_goSteps 44 = .ok (.iadd, 1) := q_o96 (by decide +kernel)
theorem dX10_goSteps_45 : decode cX10_goSteps 45 = .ok (.iaload, 1) := q_o46 (by decide +kernel)
theorem dX10_goSteps_46 : decode cX10_goSteps 46 = .ok (.aload_n 0, 1) := q_o42 (by decide +kernel)
theorem dX10_goSteps_47 : decode cX10_goSteps 47 = .ok (.getfield 25, 3) := q_o180 (a := 0) (b := 25) (by decide +kernel)
theorem dX10_goSteps_50 : decode cX10_goSteps 50 = .ok (.iload 4, 2) := q_o21 (a := 4) (by decide +kernel)
theorem dX10_goSteps_52 : decode cX10_goSteps 52 = .ok (.iconst 2, 1) := q_o5 (by decide +kernel)
theorem dX10_goSteps_53 : decode cX10_goSteps 53 = .ok (.iadd, 1) := q_o96 (by decide +kernel)
theorem dX10_goSteps_54 : decode cX10_goSteps 54 = .ok (.iaload, 1) := q_o46 (by decide +kernel)
theorem dX10_goSteps_55 : decode cX10_goSteps 55 = .ok (.aload_n 0, 1) := q_o42 (by decide +kernel)
theorem dX10_goSteps_56 : decode cX10_goSteps 56 = .ok (.getfield 25, 3) := q_o180 (a := 0) (b := 25) (by decide +kernel)
theorem dX10_goSteps_59 : decode cX10_goSteps 59 = .ok (.iload 4, 2) := q_o21 (a := 4) (by decide +kernel)
theorem dX10_goSteps_61 : decode cX10_goSteps 61 = .ok (.iconst 3, 1) := q_o6 (by decide +kernel)
theorem dX10_goSteps_62 : decode cX10_goSteps 62 = .ok (.iadd, 1) := q_o96 (by decide +kernel)
theorem dX10_goSteps_63 : decode cX10_goSteps 63 = .ok (.iaload, 1) := q_o46 (by decide +kernel)
theorem dX10_goSteps_64 : decode cX10_goSteps 64 = .ok (.invokevirtual 331, 3) := q_o182 (a := 1) (b := 75) (by decide +kernel)
theorem dX10_goSteps_67 : decode cX10_goSteps 67 = .ok (.iconst (-1), 1) := q_o2 (by decide +kernel)
theorem dX10_goSteps_68 : decode cX10_goSteps 68 = .ok (.if_icmp .eq 5, 3) := q_o159 (a := 0) (b := 5) (by decide +kernel) rfl
theorem dX10_goSteps_71 : decode cX10_goSteps 71 = .ok (.iload_n 3, 1) := q_o29 (by decide +kernel)
theorem dX10_goSteps_72 : decode cX10_goSteps 72 = .ok (.ireturn, 1) := q_o172 (by decide +kernel)
theorem dX10_goSteps_73 : decode cX10_goSteps 73 = .ok (.iload_n 2, 1) := q_o28 (by decide +kernel)
theorem dX10_goSteps_74 : decode cX10_goSteps 74 = .ok (.ifCond .eq 40, 3) := q_o153 (a := 0) (b := 40) (by decide +kernel) rfl
theorem dX10_goSteps_77 : decode cX10_goSteps 77 = .ok (.aload_n 0, 1) := q_o42 (by decide +kernel)
theorem dX10_goSteps_78 : decode cX10_goSteps 78 = .ok (.iload 5, 2) := q_o21 (a := 5) (by decide +kernel)
theorem dX10_goSteps_80 : decode cX10_goSteps 80 = .ok (.aload_n 0, 1) := q_o42 (by decide +kernel)
theorem dX10_goSteps_81 : decode cX10_goSteps 81 = .ok (.getfield 25, 3) := q_o180 (a := 0) (b := 25) (by decide +kernel)
theorem dX10_goSteps_84 : decode cX10_goSteps 84 = .ok (.iload 4, 2) := q_o21 (a := 4) (by decide +kernel)
theorem dX10_goSteps_86 : decode cX10_goSteps 86 = .ok (.iconst 1, 1) := q_o4 (by decide +kernel)
theorem dX10_goSteps_87 : decode cX10_goSteps 87 = .ok (.iadd, 1) := q_o96 (by decide +kernel)
theorem dX10_goSteps_88 : decode cX10_goSteps 88 = .ok (.iaload, 1) := q_o46 (by decide +kernel)
theorem dX10_goSteps_89 : decode cX10_goSteps 89 = .ok (.aload_n 0, 1) := q_o42 (by decide +kernel)
theorem dX10_goSteps_90 : decode cX10_goSteps 90 = .ok (.getfield 25, 3) := q_o180 (a := 0) (b := 25) (by decide +kernel)
theorem dX10_goSteps_93 : decode cX10_goSteps 93 = .ok (.iload 4, 2) := q_o21 (a := 4) (by decide +kernel)
theorem dX10_goSteps_95 : decode cX10_goSteps 95 = .ok (.iconst 2, 1) := q_o5 (by decide +kernel)
theorem dX10_goSteps_96 : decode cX10_goSteps 96 = .ok (.iadd, 1) := q_o96 (by decide +kernel)
theorem dX10_goSteps_97 : decode cX10_goSteps 97 = .ok (.iaload, 1) := q_o46 (by decide +kernel)
theorem dX10_goSteps_98 : decode cX10_goSteps 98 = .ok (.aload_n 0, 1) := q_o42 (by decide +kernel)
theorem dX10_goSteps_99 : decode cX10_goSteps 99 = .ok (.getfield 25, 3) := q_o180 (a := 0) (b := 25) (by decide +kernel)
theorem dX10_goSteps_102 : decode cX10_goSteps 102 = .ok (.iload 4, 2) := q_o21 (a := 4) (by decide +kernel)
theorem dX10_goSteps_104 : decode cX10_goSteps 104 = .ok (.iconst 3, 1) := q_o6 (by decide +kernel)
theorem dX10_goSteps_105 : decode cX10_goSteps 105 = .ok (.iadd, 1) := q_o96 (by decide +kernel)
theorem dX10_goSteps_106 : decode cX10_goSteps 106 = .ok (.iaload, 1) := q_o46 (by decide +kernel)
theorem dX10_goSteps_107 : decode cX10_goSteps 107 = .ok (.invokevirtual 334, 3) := q_o182 (a := 1) (b := 78) (by decide +kernel)
theorem dX10_goSteps_110 : decode cX10_goSteps 110 = .ok (.pop, 1) := q_o87 (by decide +kernel)
theorem dX10_goSteps_111 : decode cX10_goSteps 111 = .ok (.goto 37, 3) := q_o167 (a := 0) (b := 37) (by decide +kernel) rfl
theorem dX10_goSteps_114 : decode cX10_goSteps 114 = .ok (.aload_n 0, 1) := q_o42 (by decide +kernel)
theorem dX10_goSteps_115 : decode cX10_goSteps 115 = .ok (.iload 5, 2) := q_o21 (a := 5) (by decide +kernel)
theorem dX10_goSteps_117 : decode cX10_goSteps 117 = .ok (.aload_n 0, 1) := q_o42 (by decide +kernel)
theorem dX10_goSteps_118 : decode cX10_goSteps 118 = .ok (.getfield 25, 3) := q_o180 (a := 0) (b := 25) (by decide +kernel)
theorem dX10_goSteps_121 : decode cX10_goSteps 121 = .ok (.iload 4, 2) := q_o21 (a := 4) (by decide +kernel)
theorem dX10_goSteps_123 : decode cX10_goSteps 123 = .ok (.iconst 1, 1) := q_o4 (by decide +kernel)
theorem dX10_goSteps_124 : decode cX10_goSteps 124 = .ok (.iadd, 1) := q_o96 (by decide +kernel)
theorem dX10_goSteps_125 : decode cX10_goSteps 125 = .ok (.iaload, 1) := q_o46 (by decide +kernel)
theorem dX10_goSteps_126 : decode cX10_goSteps 126 = .ok (.aload_n 0, 1) := q_o42 (by decide +kernel)
theorem dX10_goSteps_127 : decode cX10_goSteps 127 = .ok (.getfield 25, 3) := q_o180 (a := 0) (b := 25) (by decide +kernel)
theorem dX10_goSteps_130 : decode cX10_goSteps 130 = .ok (.iload 4, 2) := q_o21 (a := 4) (by decide +kernel)
theorem dX10_goSteps_132 : decode cX10_goSteps 132 = .ok (.iconst 2, 1) := q_o5 (by decide +kernel)
theorem dX10_goSteps_133 : decode cX10_goSteps 133 = .ok (.iadd, 1) := q_o96 (by decide +kernel)
theorem dX10_goSteps_134 : decode cX10_goSteps 134 = .ok (.iaload, 1) := q_o46 (by decide +kernel)
theorem dX10_goSteps_135 : decode cX10_goSteps 135 = .ok (.aload_n 0, 1) := q_o42 (by decide +kernel)
theorem dX10_goSteps_136 : decode cX10_goSteps 136 = .ok (.getfield 25, 3) := q_o180 (a := 0) (b := 25) (by decide +kernel)
theorem dX10_goSteps_139 : decode cX10_goSteps 139 = .ok (.iload 4, 2) := q_o21 (a := 4) (by decide +kernel)
theorem dX10_goSteps_141 : decode cX10_goSteps 141 = .ok (.iconst 3, 1) := q_o6 (by decide +kernel)
theorem dX10_goSteps_142 : decode cX10_goSteps 142 = .ok (.iadd, 1) := q_o96 (by decide +kernel)
theorem dX10_goSteps_143 : decode cX10_goSteps 143 = .ok (.iaload, 1) := q_o46 (by decide +kernel)
theorem dX10_goSteps_144 : decode cX10_goSteps 144 = .ok (.invokevirtual 324, 3) := q_o182 (a := 1) (b := 68) (by decide +kernel)
theorem dX10_goSteps_147 : decode cX10_goSteps 147 = .ok (.pop, 1) := q_o87 (by decide +kernel)
theorem dX10_goSteps_148 : decode cX10_goSteps 148 = .ok (.iinc 3 1, 3) := q_o132 (a := 3) (b := 1) (by decide +kernel) rfl
theorem dX10_goSteps_151 : decode cX10_goSteps 151 = .ok (.goto (-149), 3) := q_o167 (a := 255) (b := 107) (by decide +kernel) rfl
theorem dX10_goSteps_154 : decode cX10_goSteps 154 = .ok (.aload_n 0, 1) := q_o42 (by decide +kernel)
theorem dX10_goSteps_155 : decode cX10_goSteps 155 = .ok (.getfield 28, 3) := q_o180 (a := 0) (b := 28) (by decide +kernel)
theorem dX10_goSteps_158 : decode cX10_goSteps 158 = .ok (.iload_n 1, 1) := q_o27 (by decide +kernel)
theorem dX10_goSteps_159 : decode cX10_goSteps 159 = .ok (.iaload, 1) := q_o46 (by decide +kernel)
theorem dX10_goSteps_160 : decode cX10_goSteps 160 = .ok (.ireturn, 1) := q_o172 (by decide +kernel)
theorem dX10_helper_0 : decode cX10_helper 0 = .ok (.aload_n 0, 1) := q_o42 (by decide +kernel)
theorem dX10_helper_1 : decode cX10_helper 1 = .ok (.iload_n 1, 1) := q_o27 (by decide +kernel)
theorem dX10_helper_2 : decode cX10_helper 2 = .ok (.invokevirtual 139, 3) := q_o182 (a := 0) (b := 139) (by decide +kernel)
theorem dX10_helper_5 : decode cX10_helper 5 = .ok (.ifCond .eq 21, 3) := q_o153 (a := 0) (b := 21) (by decide +kernel) rfl
theorem dX10_helper_8 : decode cX10_helper 8 = .ok (.aload_n 0, 1) := q_o42 (by decide +kernel)
theorem dX10_helper_9 : decode cX10_helper 9 = .ok (.iload_n 1, 1) := q_o27 (by decide +kernel)
theorem dX10_helper_10 : decode cX10_helper 10 = .ok (.invokevirtual 145, 3) := q_o182 (a := 0) (b := 145) (by decide +kernel)
theorem dX10_helper_13 : decode cX10_helper 13 = .ok (.bipush 6, 2) := q_o16 (a := 6) (by decide +kernel) rfl
theorem dX10_helper_15 : decode cX10_helper 15 = .ok (.if_icmp .ne 11, 3) := q_o160 (a := 0) (b := 11) (by decide +kernel) rfl
theorem dX10_helper_18 : decode cX10_helper 18 = .ok (.aload_n 0, 1) := q_o42 (by decide +kernel)
theorem dX10_helper_19 : decode cX10_helper 19 = .ok (.iload_n 1, 1) := q_o27 (by decide +kernel)
theorem dX10_helper_20 : decode cX10_helper 20 = .ok (.invokevirtual 186, 3) := q_o182 (a := 0) (b := 186) (by decide +kernel)
theorem dX10_helper_23 : decode cX10_helper 23 = .ok (.goto 4, 3) := q_o167 (a := 0) (b := 4) (by decide +kernel) rfl
theorem dX10_helper_26 : decode cX10_helper 26 = .ok (.iconst (-1), 1) := q_o2 (by decide +kernel)
theorem dX10_helper_27 : decode cX10_helper 27 = .ok (.ireturn, 1) := q_o172 (by decide +kernel)
theorem dX10_hub_0 : decode cX10_hub 0 = .ok (.aload_n 0, 1) := q_o42 (by decide +kernel)
theorem dX10_hub_1 : decode cX10_hub 1 = .ok (.iload_n 1, 1) := q_o27 (by decide +kernel)
theorem dX10_hub_2 : decode cX10_hub 2 = .ok (.invokevirtual 270, 3) := q_o182 (a := 1) (b := 14) (by decide +kernel)
theorem dX10_hub_5 : decode cX10_hub 5 = .ok (.ifCond .eq 12, 3) := q_o153 (a := 0) (b := 12) (by decide +kernel) rfl
theorem dX10_hub_8 : decode cX10_hub 8 = .ok (.iload_n 2, 1) := q_o28 (by decide +kernel)
theorem dX10_hub_9 : decode cX10_hub 9 = .ok (.iconst 0, 1) := q_o3 (by decide +kernel)
theorem dX10_hub_10 : decode cX10_hub 10 = .ok (.iconst 5, 1) := q_o8 (by decide +kernel)
theorem dX10_hub_11 : decode cX10_hub 11 = .ok (.invokestatic 63, 3) := q_o184 (a := 0) (b := 63) (by decide +kernel)
theorem dX10_hub_14 : decode cX10_hub 14 = .ok (.ifCond .ne 7, 3) := q_o154 (a := 0) (b := 7) (by decide +kernel) rfl
theorem dX10_hub_17 : decode cX10_hub 17 = .ok (.ldc_w 358, 3) := by decide +kernel
theorem dX10_hub_20 : decode cX10_hub 20 = .ok (.ireturn, 1) := q_o172 (by decide +kernel)
theorem dX10_hub_21 : decode cX10_hub 21 = .ok (.iload_n 2, 1) := q_o28 (by decide +kernel)
theorem dX10_hub_22 : decode cX10_hub 22 = .ok (.tableswitch 98 0 4 #[34, 40, 46, 52, 92], 34) := by decide +kernel
theorem dX10_hub_56 : decode cX10_hub 56 = .ok (.aload_n 0, 1) := q_o42 (by decide +kernel)
theorem dX10_hub_57 : decode cX10_hub 57 = .ok (.iload_n 1, 1) := q_o27 (by decide +kernel)
theorem dX10_hub_58 : decode cX10_hub 58 = .ok (.invokevirtual 303, 3) := q_o182 (a := 1) (b := 47) (by decide +kernel)
theorem dX10_hub_61 : decode cX10_hub 61 = .ok (.ireturn, 1) := q_o172 (by decide +kernel)
theorem dX10_hub_62 : decode cX10_hub 62 = .ok (.aload_n 0, 1) := q_o42 (by decide +kernel)
theorem dX10_hub_63 : decode cX10_hub 63 = .ok (.iload_n 1, 1) := q_o27 (by decide +kernel)
theorem dX10_hub_64 : decode cX10_hub 64 = .ok (.invokevirtual 267, 3) := q_o182 (a := 1) (b := 11) (by decide +kernel)
theorem dX10_hub_67 : decode cX10_hub 67 = .ok (.ireturn, 1) := q_o172 (by decide +kernel)
theorem dX10_hub_68 : decode cX10_hub 68 = .ok (.aload_n 0, 1) := q_o42 (by decide +kernel)
theorem dX10_hub_69 : decode cX10_hub 69 = .ok (.iload_n 1, 1) := q_o27 (by decide +kernel)
theorem dX10_hub_70 : decode cX10_hub 70 = .ok (.invokevirtual 174, 3) := q_o182 (a := 0) (b := 174) (by decide +kernel)
theorem dX10_hub_73 : decode cX10_hub 73 = .ok (.ireturn, 1) := q_o172 (by decide +kernel)
theorem dX10_hub_74 : decode cX10_hub 74 = .ok (.iload_n 1, 1) := q_o27 (by decide +kernel)
theorem dX10_hub_75 : decode cX10_hub 75 = .ok (.bipush 8, 2) := q_o16 (a := 8) (by decide +kernel) rfl
theorem dX10_hub_77 : decode cX10_hub 77 = .ok (.if_icmp .eq 16, 3) := q_o159 (a := 0) (b := 16) (by decide +kernel) rfl
theorem dX10_hub_80 : decode cX10_hub 80 = .ok (.aload_n 0, 1) := q_o42 (by decide +kernel)
theorem dX10_hub_81 : decode cX10_hub 81 = .ok (.iload_n 1, 1) := q_o27 (by decide +kernel)
theorem dX10_hub_82 : decode cX10_hub 82 = .ok (.invokevirtual 145, 3) := q_o182 (a := 0) (b := 145) (by decide +kernel)
theorem dX10_hub_85 : decode cX10_hub 85 = .ok (.ifCond .ne 8, 3) := q_o154 (a := 0) (b := 8) (by decide +kernel) rfl
theorem dX10_hub_88 : decode cX10_hub 88 = .ok (.ldc 173, 2) := by decide +kernel
theorem dX10_hub_90 : decode cX10_hub 90 = .ok (.goto 9, 3) := q_o167 (a := 0) (b := 9) (by decide +kernel) rfl
theorem dX10_hub_93 : decode cX10_hub 93 = .ok (.aload_n 0, 1) := q_o42 (by decide +kernel)
theorem dX10_hub_94 : decode cX10_hub 94 = .ok (.iload_n 1, 1) := q_o27 (by decide +kernel)
theorem dX10_hub_95 : decode cX10_hub 95 = .ok (.iconst (-1), 1) := q_o2 (by decide +kernel)
theorem dX10_hub_96 : decode cX10_hub 96 = .ok (.invokevirtual 229, 3) := q_o182 (a := 0) (b := 229) (by decide +kernel)
theorem dX10_hub_99 : decode cX10_hub 99 = .ok (.istore_n 3, 1) := q_o62 (by decide +kernel)
theorem dX10_hub_100 : decode cX10_hub 100 = .ok (.iload_n 3, 1) := q_o29 (by decide +kernel)
theorem dX10_hub_101 : decode cX10_hub 101 = .ok (.ldc 173, 2) := by decide +kernel
theorem dX10_hub_103 : decode cX10_hub 103 = .ok (.if_icmp .ne 9, 3) := q_o160 (a := 0) (b := 9) (by decide +kernel) rfl
theorem dX10_hub_106 : decode cX10_hub 106 = .ok (.ldc_w 358, 3) := by decide +kernel
theorem dX10_hub_109 : decode cX10_hub 109 = .ok (.goto 4, 3) := q_o167 (a := 0) (b := 4) (by decide +kernel) rfl
theorem dX10_hub_112 : decode cX10_hub 112 = .ok (.iload_n 3, 1) := q_o29 (by decide +kernel)
theorem dX10_hub_113 : decode cX10_hub 113 = .ok (.ireturn, 1) := q_o172 (by decide +kernel)
theorem dX10_hub_114 : decode cX10_hub 114 = .ok (.aload_n 0, 1) := q_o42 (by decide +kernel)
theorem dX10_hub_115 : decode cX10_hub 115 = .ok (.iload_n 1, 1) := q_o27 (by decide +kernel)
theorem dX10_hub_116 : decode cX10_hub 116 = .ok (.invokevirtual 192, 3) := q_o182 (a := 0) (b := 192) (by decide +kernel)
theorem dX10_hub_119 : decode cX10_hub 119 = .ok (.ireturn, 1) := q_o172 (by decide +kernel)
theorem dX10_hub_120 : decode cX10_hub 120 = .ok (.aload_n 0, 1) := q_o42 (by decide +kernel)
theorem dX10_hub_121 : decode cX10_hub 121 = .ok (.iload_n 1, 1) := q_o27 (by decide +kernel)
theorem dX10_hub_122 : decode cX10_hub 122 = .ok (.invokevirtual 285, 3) := q_o182 (a := 1) (b := 29) (by decide +kernel)
theorem dX10_hub_125 : decode cX10_hub 125 = .ok (.aload_n 0, 1) := q_o42 (by decide +kernel)
theorem dX10_hub_126 : decode cX10_hub 126 = .ok (.iload_n 1, 1) := q_o27 (by decide +kernel)
theorem dX10_hub_127 : decode cX10_hub 127 = .ok (.invokevirtual 267, 3) := q_o182 (a := 1) (b := 11) (by decide +kernel)
theorem dX10_hub_130 : decode cX10_hub 130 = .ok (.invokestatic 282, 3) := q_o184 (a := 1) (b := 26) (by decide +kernel)
theorem dX10_hub_133 : decode cX10_hub 133 = .ok (.isub, 1) := q_o100 (by decide +kernel)
theorem dX10_hub_134 : decode cX10_hub 134 = .ok (.ireturn, 1) := q_o172 (by decide +kernel)
theorem dX10_image_0 : decode cX10_image 0 = .ok (.aload_n 0, 1) := q_o42 (by decide +kernel)
theorem dX10_image_1 : decode cX10_image 1 = .ok (.invokevirtual 135, 3) := q_o182 (a := 0) (b := 135) (by decide +kernel)
theorem dX10_image_4 : decode cX10_image 4 = .ok (.ifCond .ne 5, 3) := q_o154 (a := 0) (b := 5) (by decide +kernel) rfl
theorem dX10_image_7 : decode cX10_image 7 = .ok (.iconst (-1), 1) := q_o2 (by decide +kernel)
theorem dX10_image_8 : decode cX10_image 8 = .ok (.ireturn, 1) := q_o172 (by decide +kernel)
theorem dX10_image_9 : decode cX10_image 9 = .ok (.iconst 0, 1) := q_o3 (by decide +kernel)
theorem dX10_image_10 : decode cX10_image 10 = .ok (.istore_n 1, 1) := q_o60 (by decide +kernel)
theorem dX10_image_11 : decode cX10_image 11 = .ok (.iload_n 1, 1) := q_o27 (by decide +kernel)
theorem dX10_image_12 : decode cX10_image 12 = .ok (.sipush 279, 3) := q_o17 (a := 1) (b := 23) (by decide +kernel) rfl
theorem dX10_image_15 : decode cX10_image 15 = .ok (.if_icmp .ge 21, 3) := q_o162 (a := 0) (b := 21) (by decide +kernel) rfl
theorem dX10_image_18 : decode cX10_image 18 = .ok (.aload_n 0, 1) := q_o42 (by decide +kernel)
theorem dX10_image_19 : decode cX10_image 19 = .ok (.getfield 49, 3) := q_o180 (a := 0) (b := 49) (by decide +kernel)
theorem dX10_image_22 : decode cX10_image 22 = .ok (.iload_n 1, 1) := q_o27 (by decide +kernel)
theorem dX10_image_23 : decode cX10_image 23 = .ok (.aload_n 0, 1) := q_o42 (by decide +kernel)
theorem dX10_image_24 : decode cX10_image 24 = .ok (.getfield 31, 3) := q_o180 (a := 0) (b := 31) (by decide +kernel)
theorem dX10_image_27 : decode cX10_image 27 = .ok (.iload_n 1, 1) := q_o27 (by decide +kernel)
theorem dX10_image_28 : decode cX10_image 28 = .ok (.iaload, 1) := q_o46 (by decide +kernel)
theorem dX10_image_29 : decode cX10_image 29 = .ok (.iastore, 1) := q_o79 (by decide +kernel)
theorem dX10_image_30 : decode cX10_image 30 = .ok (.iinc 1 1, 3) := q_o132 (a := 1) (b := 1) (by decide +kernel) rfl
theorem dX10_image_33 : decode cX10_image 33 = .ok (.goto (-22), 3) := q_o167 (a := 255) (b := 234) (by decide +kernel) rfl
theorem dX10_image_36 : decode cX10_image 36 = .ok (.aload_n 0, 1) := q_o42 (by decide +kernel)
theorem dX10_image_37 : decode cX10_image 37 = .ok (.iconst 1, 1) := q_o4 (by decide +kernel)
theorem dX10_image_38 : decode cX10_image 38 = .ok (.putfield 154, 3) := q_o181 (a := 0) (b := 154) (by decide +kernel)
theorem dX10_image_41 : decode cX10_image 41 = .ok (.aload_n 0, 1) := q_o42 (by decide +kernel)
theorem dX10_image_42 : decode cX10_image 42 = .ok (.getfield 31, 3) := q_o180 (a := 0) (b := 31) (by decide +kernel)
theorem dX10_image_45 : decode cX10_image 45 = .ok (.bipush 96, 2) := q_o16 (a := 96) (by decide +kernel) rfl
theorem dX10_image_47 : decode cX10_image 47 = .ok (.iaload, 1) := q_o46 (by decide +kernel)
theorem dX10_image_48 : decode cX10_image 48 = .ok (.ireturn, 1) := q_o172 (by decide +kernel)
theorem dX10_isScript_0 : decode cX10_isScript 0 = .ok (.iload_n 1, 1) := q_o27 (by decide +kernel)
theorem dX10_isScript_1 : decode cX10_isScript 1 = .ok (.iconst 0, 1) := q_o3 (by decide +kernel)
theorem dX10_isScript_2 : decode cX10_isScript 2 = .ok (.aload_n 0, 1) := q_o42 (by decide +kernel)
theorem dX10_isScript_3 : decode cX10_isScript 3 = .ok (.getfield 161, 3) := q_o180 (a := 0) (b := 161) (by decide +kernel)
theorem dX10_isScript_6 : decode cX10_isScript 6 = .ok (.iconst 1, 1) := q_o4 (by decide +kernel)
theorem dX10_isScript_7 : decode cX10_isScript 7 = .ok (.isub, 1) := q_o100 (by decide +kernel)
theorem dX10_isScript_8 : decode cX10_isScript 8 = .ok (.invokestatic 63, 3) := q_o184 (a := 0) (b := 63) (by decide +kernel)
theorem dX10_isScript_11 : decode cX10_isScript 11 = .ok (.ireturn, 1) := q_o172 (by decide +kernel)
theorem dX10_isStill_0 : decode cX10_isStill 0 = .ok (.iconst 0, 1) := q_o3 (by decide +kernel)
theorem dX10_isStill_1 : decode cX10_isStill 1 = .ok (.istore_n 1, 1) := q_o60 (by decide +kernel)
theorem dX10_isStill_2 : decode cX10_isStill 2 = .ok (.iload_n 1, 1) := q_o27 (by decide +kernel)
theorem dX10_isStill_3 : decode cX10_isStill 3 = .ok (.bipush 98, 2) := q_o16 (a := 98) (by decide +kernel) rfl
theorem dX10_isStill_5 : decode cX10_isStill 5 = .ok (.if_icmp .ge 21, 3) := q_o162 (a := 0) (b := 21) (by decide +kernel) rfl
theorem dX10_isStill_8 : decode cX10_isStill 8 = .ok (.aload_n 0, 1) := q_o42 (by decide +kernel)
theorem dX10_isStill_9 : decode cX10_isStill 9 = .ok (.getfield 43, 3) := q_o180 (a := 0) (b := 43) (by decide +kernel)
theorem dX10_isStill_12 : decode cX10_isStill 12 = .ok (.iload_n 1, 1) := q_o27 (by decide +kernel)
theorem dX10_isStill_13 : decode cX10_isStill 13 = .ok (.aload_n 0, 1) := q_o42 (by decide +kernel)
theorem dX10_isStill_14 : decode cX10_isStill 14 = .ok (.getfield 31, 3) := q_o180 (a := 0) (b := 31) (by decide +kernel)
theorem dX10_isStill_17 : decode cX10_isStill 17 = .ok (.iload_n 1, 1) := q_o27 (by decide +kernel)
theorem dX10_isStill_18 : decode cX10_isStill 18 = .ok (.iaload, 1) := q_o46 (by decide +kernel)
theorem dX10_isStill_19 : decode cX10_isStill 19 = .ok (.iastore, 1) := q_o79 (by decide +kernel)
theorem dX10_isStill_20 : decode cX10_isStill 20 = .ok (.iinc 1 1, 3) := q_o132 (a := 1) (b := 1) (by decide +kernel) rfl
theorem dX10_isStill_23 : decode cX10_isStill 23 = .ok (.goto (-21), 3) := q_o167 (a := 255) (b := 235) (by decide +kernel) rfl
theorem dX10_isStill_26 : decode cX10_isStill 26 = .ok (.aload_n 0, 1) := q_o42 (by decide +kernel)
theorem dX10_isStill_27 : decode cX10_isStill 27 = .ok (.invokevirtual 306, 3) := q_o182 (a := 1) (b := 50) (by decide +kernel)
theorem dX10_isStill_30 : decode cX10_isStill 30 = .ok (.iconst 0, 1) := q_o3 (by decide +kernel)
theorem dX10_isStill_31 : decode cX10_isStill 31 = .ok (.istore_n 1, 1) := q_o60 (by decide +kernel)
theorem dX10_isStill_32 : decode cX10_isStill 32 = .ok (.iload_n 1, 1) := q_o27 (by decide +kernel)
theorem dX10_isStill_33 : decode cX10_isStill 33 = .ok (.bipush 98, 2) := q_o16 (a := 98) (by decide +kernel) rfl
theorem dX10_isStill_35 : decode cX10_isStill 35 = .ok (.if_icmp .ge 32, 3) := q_o162 (a := 0) (b := 32) (by decide +kernel) rfl
theorem dX10_isStill_38 : decode cX10_isStill 38 = .ok (.iload_n 1, 1) := q_o27 (by decide +kernel)
theorem dX10_isStill_39 : decode cX10_isStill 39 = .ok (.bipush 96, 2) := q_o16 (a := 96) (by decide +kernel) rfl
theorem dX10_isStill_41 : decode cX10_isStill 41 = .ok (.if_icmp .eq 20, 3) := q_o159 (a := 0) (b := 20) (by decide +kernel) rfl
theorem dX10_isStill_44 : decode cX10_isStill 44 = .ok (.aload_n 0, 1) := q_o42 (by decide +kernel)
theorem dX10_isStill_45 : decode cX10_isStill 45 = .ok (.getfield 43, 3) := q_o180 (a := 0) (b := 43) (by decide +kernel)
theorem dX10_isStill_48 : decode cX10_isStill 48 = .ok (.iload_n 1, 1) := q_o27 (by decide +kernel)
theorem dX10_isStill_49 : decode cX10_isStill 49 = .ok (.iaload, 1) := q_o46 (by decide +kernel)
theorem dX10_isStill_50 : decode cX10_isStill 50 = .ok (.aload_n 0, 1) := q_o42 (by decide +kernel)
theorem dX10_isStill_51 : decode cX10_isStill 51 = .ok (.getfield 31, 3) := q_o180 (a := 0) (b := 31) (by decide +kernel)
theorem dX10_isStill_54 : decode cX10_isStill 54 = .ok (.iload_n 1, 1) := q_o27 (by decide +kernel)
theorem dX10_isStill_55 : decode cX10_isStill 55 = .ok (.iaload, 1) := q_o46 (by decide +kernel)
theorem dX10_isStill_56 : decode cX10_isStill 56 = .ok (.if_icmp .eq 5, 3) := q_o159 (a := 0) (b := 5) (by decide +kernel) rfl
theorem dX10_isStill_59 : decode cX10_isStill 59 = .ok (.iconst 0, 1) := q_o3 (by decide +kernel)
theorem dX10_isStill_60 : decode cX10_isStill 60 = .ok (.ireturn, 1) := q_o172 (by decide +kernel)
theorem dX10_isStill_61 : decode cX10_isStill 61 = .ok (.iinc 1 1, 3) := q_o132 (a := 1) (b := 1) (by decide +kernel) rfl
theorem dX10_isStill_64 : decode cX10_isStill 64 = .ok (.goto (-32), 3) := q_o167 (a := 255) (b := 224) (by decide +kernel) rfl
theorem dX10_isStill_67 : decode cX10_isStill 67 = .ok (.iconst 1, 1) := q_o4 (by decide +kernel)
theorem dX10_isStill_68 : decode cX10_isStill 68 = .ok (.ireturn, 1) := q_o172 (by decide +kernel)
theorem dX10_last_0 : decode cX10_last 0 = .ok (.aload_n 0, 1) := q_o42 (by decide +kernel)
theorem dX10_last_1 : decode cX10_last 1 = .ok (.invokevirtual 135, 3) := q_o182 (a := 0) (b := 135) (by decide +kernel)
theorem dX10_last_4 : decode cX10_last 4 = .ok (.ifCond .ne 5, 3) := q_o154 (a := 0) (b := 5) (by decide +kernel) rfl
theorem dX10_last_7 : decode cX10_last 7 = .ok (.iconst (-1), 1) := q_o2 (by decide +kernel)
theorem dX10_last_8 : decode cX10_last 8 = .ok (.ireturn, 1) := q_o172 (by decide +kernel)
theorem dX10_last_9 : decode cX10_last 9 = .ok (.aload_n 0, 1) := q_o42 (by decide +kernel)
theorem dX10_last_10 : decode cX10_last 10 = .ok (.invokevirtual 359, 3) := q_o182 (a := 1) (b := 103) (by decide +kernel)
theorem dX10_last_13 : decode cX10_last 13 = .ok (.iconst (-1), 1) := q_o2 (by decide +kernel)
theorem dX10_last_14 : decode cX10_last 14 = .ok (.istore_n 1, 1) := q_o60 (by decide +kernel)
theorem dX10_last_15 : decode cX10_last 15 = .ok (.iconst 0, 1) := q_o3 (by decide +kernel)
theorem dX10_last_16 : decode cX10_last 16 = .ok (.istore_n 2, 1) := q_o61 (by decide +kernel)
theorem dX10_last_17 : decode cX10_last 17 = .ok (.iload_n 2, 1) := q_o28 (by decide +kernel)
theorem dX10_last_18 : decode cX10_last 18 = .ok (.sipush 200, 3) := q_o17 (a := 0) (b := 200) (by decide +kernel) rfl
theorem dX10_last_21 : decode cX10_last 21 = .ok (.if_icmp .gt 40, 3) := q_o163 (a := 0) (b := 40) (by decide +kernel) rfl
theorem dX10_last_24 : decode cX10_last 24 = .ok (.iload_n 1, 1) := q_o27 (by decide +kernel)
theorem dX10_last_25 : decode cX10_last 25 = .ok (.iconst (-1), 1) := q_o2 (by decide +kernel)
theorem dX10_last_26 : decode cX10_last 26 = .ok (.if_icmp .ne 35, 3) := q_o160 (a := 0) (b := 35) (by decide +kernel) rfl
theorem dX10_last_29 : decode cX10_last 29 = .ok (.aload_n 0, 1) := q_o42 (by decide +kernel)
theorem dX10_last_30 : decode cX10_last 30 = .ok (.getfield 31, 3) := q_o180 (a := 0) (b := 31) (by decide +kernel)
theorem dX10_last_33 : decode cX10_last 33 = .ok (.bipush 96, 2) := q_o16 (a := 96) (by decide +kernel) rfl
theorem dX10_last_35 : decode cX10_last 35 = .ok (.iaload, 1) := q_o46 (by decide +kernel)
theorem dX10_last_36 : decode cX10_last 36 = .ok (.sipush 9999, 3) := q_o17 (a := 39) (b := 15) (by decide +kernel) rfl
theorem dX10_last_39 : decode cX10_last 39 = .ok (.if_icmp .gt 22, 3) := q_o163 (a := 0) (b := 22) (by decide +kernel) rfl
theorem dX10_last_42 : decode cX10_last 42 = .ok (.aload_n 0, 1) := q_o42 (by decide +kernel)
theorem dX10_last_43 : decode cX10_last 43 = .ok (.invokevirtual 368, 3) := q_o182 (a := 1) (b := 112) (by decide +kernel)
theorem dX10_last_46 : decode cX10_last 46 = .ok (.ifCond .eq 7, 3) := q_o153 (a := 0) (b := 7) (by decide +kernel) rfl
theorem dX10_last_49 : decode cX10_last 49 = .ok (.iload_n 2, 1) := q_o28 (by decide +kernel)
theorem dX10_last_50 : decode cX10_last 50 = .ok (.goto 4, 3) := q_o167 (a := 0) (b := 4) (by decide +kernel) rfl
theorem dX10_last_53 : decode cX10_last 53 = .ok (.iconst (-1), 1) := q_o2 (by decide +kernel)
theorem dX10_last_54 : decode cX10_last 54 = .ok (.istore_n 1, 1) := q_o60 (by decide +kernel)
theorem dX10_last_55 : decode cX10_last 55 = .ok (.iinc 2 1, 3) := q_o132 (a := 2) (b := 1) (by decide +kernel) rfl
theorem dX10_last_58 : decode cX10_last 58 = .ok (.goto (-41), 3) := q_o167 (a := 255) (b := 215) (by decide +kernel) rfl
theorem dX10_last_61 : decode cX10_last 61 = .ok (.aload_n 0, 1) := q_o42 (by decide +kernel)
theorem dX10_last_62 : decode cX10_last 62 = .ok (.invokevirtual 365, 3) := q_o182 (a := 1) (b := 109) (by decide +kernel)
theorem dX10_last_65 : decode cX10_last 65 = .ok (.iload_n 1, 1) := q_o27 (by decide +kernel)
theorem dX10_last_66 : decode cX10_last 66 = .ok (.ireturn, 1) := q_o172 (by decide +kernel)
theorem dX10_log_0 : decode cX10_log 0 = .ok (.iload_n 1, 1) := q_o27 (by decide +kernel)
theorem dX10_log_1 : decode cX10_log 1 = .ok (.iconst 0, 1) := q_o3 (by decide +kernel)
theorem dX10_log_2 : decode cX10_log 2 = .ok (.aload_n 0, 1) := q_o42 (by decide +kernel)
theorem dX10_log_3 : decode cX10_log 3 = .ok (.getfield 31, 3) := q_o180 (a := 0) (b := 31) (by decide +kernel)
theorem dX10_log_6 : decode cX10_log 6 = .ok (.bipush 98, 2) := q_o16 (a := 98) (by decide +kernel) rfl
theorem dX10_log_8 : decode cX10_log 8 = .ok (.iaload, 1) := q_o46 (by decide +kernel)
theorem dX10_log_9 : decode cX10_log 9 = .ok (.iconst 1, 1) := q_o4 (by decide +kernel)
theorem dX10_log_10 : decode cX10_log 10 = .ok (.isub, 1) := q_o100 (by decide +kernel)
theorem dX10_log_11 : decode cX10_log 11 = .ok (.invokestatic 63, 3) := q_o184 (a := 0) (b := 63) (by decide +kernel)
theorem dX10_log_14 : decode cX10_log 14 = .ok (.ifCond .eq 38, 3) := q_o153 (a := 0) (b := 38) (by decide +kernel) rfl
theorem dX10_log_17 : decode cX10_log 17 = .ok (.iload_n 2, 1) := q_o28 (by decide +kernel)
theorem dX10_log_18 : decode cX10_log 18 = .ok (.iconst 0, 1) := q_o3 (by decide +kernel)
theorem dX10_log_19 : decode cX10_log 19 = .ok (.iconst 2, 1) := q_o5 (by decide +kernel)
theorem dX10_log_20 : decode cX10_log 20 = .ok (.invokestatic 63, 3) := q_o184 (a := 0) (b := 63) (by decide +kernel)
theorem dX10_log_23 : decode cX10_log 23 = .ok (.ifCond .eq 29, 3) := q_o153 (a := 0) (b := 29) (by decide +kernel) rfl
theorem dX10_log_26 : decode cX10_log 26 = .ok (.aload_n 0, 1) := q_o42 (by decide +kernel)
theorem dX10_log_27 : decode cX10_log 27 = .ok (.getfield 31, 3) := q_o180 (a := 0) (b := 31) (by decide +kernel)
theorem dX10_log_30 : decode cX10_log 30 = .ok (.bipush 99, 2) := q_o16 (a := 99) (by decide +kernel) rfl
theorem dX10_log_32 : decode cX10_log 32 = .ok (.iconst 3, 1) := q_o6 (by decide +kernel)
theorem dX10_log_33 : decode cX10_log 33 = .ok (.aload_n 0, 1) := q_o42 (by decide +kernel)
theorem dX10_log_34 : decode cX10_log 34 = .ok (.getfield 31, 3) := q_o180 (a := 0) (b := 31) (by decide +kernel)
theorem dX10_log_37 : decode cX10_log 37 = .ok (.bipush 98, 2) := q_o16 (a := 98) (by decide +kernel) rfl
theorem dX10_log_39 : decode cX10_log 39 = .ok (.iaload, 1) := q_o46 (by decide +kernel)
theorem dX10_log_40 : decode cX10_log 40 = .ok (.iconst 1, 1) := q_o4 (by decide +kernel)
theorem dX10_log_41 : decode cX10_log 41 = .ok (.isub, 1) := q_o100 (by decide +kernel)
theorem dX10_log_42 : decode cX10_log 42 = .ok (.iload_n 1, 1) := q_o27 (by decide +kernel)
theorem dX10_log_43 : decode cX10_log 43 = .ok (.isub, 1) := q_o100 (by decide +kernel)
theorem dX10_log_44 : decode cX10_log 44 = .ok (.imul, 1) := q_o104 (by decide +kernel)
theorem dX10_log_45 : decode cX10_log 45 = .ok (.iadd, 1) := q_o96 (by decide +kernel)
theorem dX10_log_46 : decode cX10_log 46 = .ok (.iload_n 2, 1) := q_o28 (by decide +kernel)
theorem dX10_log_47 : decode cX10_log 47 = .ok (.iadd, 1) := q_o96 (by decide +kernel)
theorem dX10_log_48 : decode cX10_log 48 = .ok (.iaload, 1) := q_o46 (by decide +kernel)
theorem dX10_log_49 : decode cX10_log 49 = .ok (.goto 6, 3) := q_o167 (a := 0) (b := 6) (by decide +kernel) rfl
theorem dX10_log_52 : decode cX10_log 52 = .ok (.ldc_w 358, 3) := by decide +kernel
theorem dX10_log_55 : decode cX10_log 55 = .ok (.ireturn, 1) := q_o172 (by decide +kernel)
theorem dX10_lost_0 : decode cX10_lost 0 = .ok (.aload_n 0, 1) := q_o42 (by decide +kernel)
theorem dX10_lost_1 : decode cX10_lost 1 = .ok (.iload_n 1, 1) := q_o27 (by decide +kernel)
theorem dX10_lost_2 : decode cX10_lost 2 = .ok (.invokevirtual 139, 3) := q_o182 (a := 0) (b := 139) (by decide +kernel)
theorem dX10_lost_5 : decode cX10_lost 5 = .ok (.ifCond .eq 15, 3) := q_o153 (a := 0) (b := 15) (by decide +kernel) rfl
theorem dX10_lost_8 : decode cX10_lost 8 = .ok (.aload_n 0, 1) := q_o42 (by decide +kernel)
theorem dX10_lost_9 : decode cX10_lost 9 = .ok (.getfield 31, 3) := q_o180 (a := 0) (b := 31) (by decide +kernel)
theorem dX10_lost_12 : decode cX10_lost 12 = .ok (.bipush 72, 2) := q_o16 (a := 72) (by decide +kernel) rfl
theorem dX10_lost_14 : decode cX10_lost 14 = .ok (.iload_n 1, 1) := q_o27 (by decide +kernel)
theorem dX10_lost_15 : decode cX10_lost 15 = .ok (.iadd, 1) := q_o96 (by decide +kernel)
theorem dX10_lost_16 : decode cX10_lost 16 = .ok (.iaload, 1) := q_o46 (by decide +kernel)
theorem dX10_lost_17 : decode cX10_lost 17 = .ok (.ifCond .ne 5, 3) := q_o154 (a := 0) (b := 5) (by decide +kernel) rfl
theorem dX10_lost_20 : decode cX10_lost 20 = .ok (.iconst (-1), 1) := q_o2 (by decide +kernel)
theorem dX10_lost_21 : decode cX10_lost 21 = .ok (.ireturn, 1) := q_o172 (by decide +kernel)
theorem dX10_lost_22 : decode cX10_lost 22 = .ok (.aload_n 0, 1) := q_o42 (by decide +kernel)
theorem dX10_lost_23 : decode cX10_lost 23 = .ok (.invokevirtual 359, 3) := q_o182 (a := 1) (b := 103) (by decide +kernel)
theorem dX10_lost_26 : decode cX10_lost 26 = .ok (.aload_n 0, 1) := q_o42 (by decide +kernel)
theorem dX10_lost_27 : decode cX10_lost 27 = .ok (.bipush 6, 2) := q_o16 (a := 6) (by decide +kernel) rfl
theorem dX10_lost_29 : decode cX10_lost 29 = .ok (.invokevirtual 279, 3) := q_o182 (a := 1) (b := 23) (by decide +kernel)
theorem dX10_lost_32 : decode cX10_lost 32 = .ok (.istore_n 2, 1) := q_o61 (by decide +kernel)
theorem dX10_lost_33 : decode cX10_lost 33 = .ok (.aload_n 0, 1) := q_o42 (by decide +kernel)
theorem dX10_lost_34 : decode cX10_lost 34 = .ok (.iload_n 1, 1) := q_o27 (by decide +kernel)
theorem dX10_lost_35 : decode cX10_lost 35 = .ok (.invokevirtual 318, 3) := q_o182 (a := 1) (b := 62) (by decide +kernel)
theorem dX10_lost_38 : decode cX10_lost 38 = .ok (.iload_n 2, 1) := q_o28 (by decide +kernel)
theorem dX10_lost_39 : decode cX10_lost 39 = .ok (.aload_n 0, 1) := q_o42 (by decide +kernel)
theorem dX10_lost_40 : decode cX10_lost 40 = .ok (.bipush 6, 2) := q_o16 (a := 6) (by decide +kernel) rfl
theorem dX10_lost_42 : decode cX10_lost 42 = .ok (.invokevirtual 279, 3) := q_o182 (a := 1) (b := 23) (by decide +kernel)
theorem dX10_lost_45 : decode cX10_lost 45 = .ok (.iconst (-1), 1) := q_o2 (by decide +kernel)
theorem dX10_lost_46 : decode cX10_lost 46 = .ok (.ixor, 1) := by decide +kernel
theorem dX10_lost_47 : decode cX10_lost 47 = .ok (.iand, 1) := q_o126 (by decide +kernel)
theorem dX10_lost_48 : decode cX10_lost 48 = .ok (.istore_n 3, 1) := q_o62 (by decide +kernel)
theorem dX10_lost_49 : decode cX10_lost 49 = .ok (.aload_n 0, 1) := q_o42 (by decide +kernel)
theorem dX10_lost_50 : decode cX10_lost 50 = .ok (.invokevirtual 365, 3) := q_o182 (a := 1) (b := 109) (by decide +kernel)
theorem dX10_lost_53 : decode cX10_lost 53 = .ok (.iload_n 3, 1) := q_o29 (by decide +kernel)
theorem dX10_lost_54 : decode cX10_lost 54 = .ok (.ireturn, 1) := q_o172 (by decide +kernel)
theorem dX10_octet_0 : decode cX10_octet 0 = .ok (.aload_n 0, 1) := q_o42 (by decide +kernel)
theorem dX10_octet_1 : decode cX10_octet 1 = .ok (.iload_n 1, 1) := q_o27 (by decide +kernel)
theorem dX10_octet_2 : decode cX10_octet 2 = .ok (.invokevirtual 139, 3) := q_o182 (a := 0) (b := 139) (by decide +kernel)
theorem dX10_octet_5 : decode cX10_octet 5 = .ok (.ifCond .eq 27, 3) := q_o153 (a := 0) (b := 27) (by decide +kernel) rfl
theorem dX10_octet_8 : decode cX10_octet 8 = .ok (.iload_n 2, 1) := q_o28 (by decide +kernel)
theorem dX10_octet_9 : decode cX10_octet 9 = .ok (.iconst 0, 1) := q_o3 (by decide +kernel)
theorem dX10_octet_10 : decode cX10_octet 10 = .ok (.aload_n 0, 1) := q_o42 (by decide +kernel)
theorem dX10_octet_11 : decode cX10_octet 11 = .ok (.iload_n 1, 1) := q_o27 (by decide +kernel)
theorem dX10_octet_12 : decode cX10_octet 12 = .ok (.invokevirtual 214, 3) := q_o182 (a := 0) (b := 214) (by decide +kernel)
theorem dX10_octet_15 : decode cX10_octet 15 = .ok (.iconst 1, 1) := q_o4 (by decide +kernel)
theorem dX10_octet_16 : decode cX10_octet 16 = .ok (.isub, 1) := q_o100 (by decide +kernel)
theorem dX10_octet_17 : decode cX10_octet 17 = .ok (.invokestatic 63, 3) := q_o184 (a := 0) (b := 63) (by decide +kernel)
theorem dX10_octet_20 : decode cX10_octet 20 = .ok (.ifCond .eq 12, 3) := q_o153 (a := 0) (b := 12) (by decide +kernel) rfl
theorem dX10_octet_23 : decode cX10_octet 23 = .ok (.aload_n 0, 1) := q_o42 (by decide +kernel)
theorem dX10_octet_24 : decode cX10_octet 24 = .ok (.iload_n 1, 1) := q_o27 (by decide +kernel)
theorem dX10_octet_25 : decode cX10_octet 25 = .ok (.iload_n 2, 1) := q_o28 (by decide +kernel)
theorem dX10_octet_26 : decode cX10_octet 26 = .ok (.invokevirtual 220, 3) := q_o182 (a := 0) (b := 220) (by decide +kernel)
theorem dX10_octet_29 : decode cX10_octet 29 = .ok (.goto 4, 3) := q_o167 (a := 0) (b := 4) (by decide +kernel) rfl
theorem dX10_octet_32 : decode cX10_octet 32 = .ok (.iconst (-1), 1) := q_o2 (by decide +kernel)
theorem dX10_octet_33 : decode cX10_octet 33 = .ok (.ireturn, 1) := q_o172 (by decide +kernel)
theorem dX10_order_0 : decode cX10_order 0 = .ok (.aload_n 0, 1) := q_o42 (by decide +kernel)
theorem dX10_order_1 : decode cX10_order 1 = .ok (.invokevirtual 135, 3) := q_o182 (a := 0) (b := 135) (by decide +kernel)
theorem dX10_order_4 : decode cX10_order 4 = .ok (.ifCond .ne 5, 3) := q_o154 (a := 0) (b := 5) (by decide +kernel) rfl
theorem dX10_order_7 : decode cX10_order 7 = .ok (.iconst (-1), 1) := q_o2 (by decide +kernel)
theorem dX10_order_8 : decode cX10_order 8 = .ok (.ireturn, 1) := q_o172 (by decide +kernel)
theorem dX10_order_9 : decode cX10_order 9 = .ok (.aload_n 0, 1) := q_o42 (by decide +kernel)
theorem dX10_order_10 : decode cX10_order 10 = .ok (.invokevirtual 359, 3) := q_o182 (a := 1) (b := 103) (by decide +kernel)
theorem dX10_order_13 : decode cX10_order 13 = .ok (.aload_n 0, 1) := q_o42 (by decide +kernel)
theorem dX10_order_14 : decode cX10_order 14 = .ok (.bipush 6, 2) := q_o16 (a := 6) (by decide +kernel) rfl
theorem dX10_order_16 : decode cX10_order 16 = .ok (.invokevirtual 279, 3) := q_o182 (a := 1) (b := 23) (by decide +kernel)
theorem dX10_order_19 : decode cX10_order 19 = .ok (.istore_n 2, 1) := q_o61 (by decide +kernel)
theorem dX10_order_20 : decode cX10_order 20 = .ok (.iconst 0, 1) := q_o3 (by decide +kernel)
theorem dX10_order_21 : decode cX10_order 21 = .ok (.istore_n 3, 1) := q_o62 (by decide +kernel)
theorem dX10_order_22 : decode cX10_order 22 = .ok (.iconst 0, 1) := q_o3 (by decide +kernel)
theorem dX10_order_23 : decode cX10_order 23 = .ok (.istore 4, 2) := q_o54 (a := 4) (by decide +kernel)
theorem dX10_order_25 : decode cX10_order 25 = .ok (.iload 4, 2) := q_o21 (a := 4) (by decide +kernel)
theorem dX10_order_27 : decode cX10_order 27 = .ok (.sipush 200, 3) := q_o17 (a := 0) (b := 200) (by decide +kernel) rfl
theorem dX10_order_30 : decode cX10_order 30 = .ok (.if_icmp .ge 82, 3) := q_o162 (a := 0) (b := 82) (by decide +kernel) rfl
theorem dX10_order_33 : decode cX10_order 33 = .ok (.aload_n 0, 1) := q_o42 (by decide +kernel)
theorem dX10_order_34 : decode cX10_order 34 = .ok (.getfield 31, 3) := q_o180 (a := 0) (b := 31) (by decide +kernel)
theorem dX10_order_37 : decode cX10_order 37 = .ok (.bipush 96, 2) := q_o16 (a := 96) (by decide +kernel) rfl
theorem dX10_order_39 : decode cX10_order 39 = .ok (.iaload, 1) := q_o46 (by decide +kernel)
theorem dX10_order_40 : decode cX10_order 40 = .ok (.sipush 9999, 3) := q_o17 (a := 39) (b := 15) (by decide +kernel) rfl
theorem dX10_order_43 : decode cX10_order 43 = .ok (.if_icmp .ge 69, 3) := q_o162 (a := 0) (b := 69) (by decide +kernel) rfl
theorem dX10_order_46 : decode cX10_order 46 = .ok (.aload_n 0, 1) := q_o42 (by decide +kernel)
theorem dX10_order_47 : decode cX10_order 47 = .ok (.invokevirtual 306, 3) := q_o182 (a := 1) (b := 50) (by decide +kernel)
theorem dX10_order_50 : decode cX10_order 50 = .ok (.aload_n 0, 1) := q_o42 (by decide +kernel)
theorem dX10_order_51 : decode cX10_order 51 = .ok (.bipush 6, 2) := q_o16 (a := 6) (by decide +kernel) rfl
theorem dX10_order_53 : decode cX10_order 53 = .ok (.invokevirtual 279, 3) := q_o182 (a := 1) (b := 23) (by decide +kernel)
theorem dX10_order_56 : decode cX10_order 56 = .ok (.iload_n 2, 1) := q_o28 (by decide +kernel)
theorem dX10_order_57 : decode cX10_order 57 = .ok (.iconst (-1), 1) := q_o2 (by decide +kernel)
theorem dX10_order_58 : decode cX10_order 58 = .ok (.ixor, 1) := by decide +kernel
theorem dX10_order_59 : decode cX10_order 59 = .ok (.iand, 1) := q_o126 (by decide +kernel)
theorem dX10_order_60 : decode cX10_order 60 = .ok (.istore 5, 2) := q_o54 (a := 5) (by decide +kernel)
theorem dX10_order_62 : decode cX10_order 62 = .ok (.iconst 0, 1) := q_o3 (by decide +kernel)
theorem dX10_order_63 : decode cX10_order 63 = .ok (.istore 6, 2) := q_o54 (a := 6) (by decide +kernel)
theorem dX10_order_65 : decode cX10_order 65 = .ok (.iload 6, 2) := q_o21 (a := 6) (by decide +kernel)
theorem dX10_order_67 : decode cX10_order 67 = .ok (.aload_n 0, 1) := q_o42 (by decide +kernel)
theorem dX10_order_68 : decode cX10_order 68 = .ok (.getfield 132, 3) := q_o180 (a := 0) (b := 132) (by decide +kernel)
theorem dX10_order_71 : decode cX10_order 71 = .ok (.if_icmp .ge 30, 3) := q_o162 (a := 0) (b := 30) (by decide +kernel) rfl
theorem dX10_order_74 : decode cX10_order 74 = .ok (.iload 5, 2) := q_o21 (a := 5) (by decide +kernel)
theorem dX10_order_76 : decode cX10_order 76 = .ok (.iload 6, 2) := q_o21 (a := 6) (by decide +kernel)
theorem dX10_order_78 : decode cX10_order 78 = .ok (.invokestatic 94, 3) := q_o184 (a := 0) (b := 94) (by decide +kernel)
theorem dX10_order_81 : decode cX10_order 81 = .ok (.ifCond .eq 14, 3) := q_o153 (a := 0) (b := 14) (by decide +kernel) rfl
theorem dX10_order_84 : decode cX10_order 84 = .ok (.aload_n 0, 1) := q_o42 (by decide +kernel)
theorem dX10_order_85 : decode cX10_order 85 = .ok (.getfield 46, 3) := q_o180 (a := 0) (b := 46) (by decide +kernel)
theorem dX10_order_88 : decode cX10_order 88 = .ok (.iload_n 3, 1) := q_o29 (by decide +kernel)
theorem dX10_order_89 : decode cX10_order 89 = .ok (.iload 6, 2) := q_o21 (a := 6) (by decide +kernel)
theorem dX10_order_91 : decode cX10_order 91 = .ok (.iastore, 1) := q_o79 (by decide +kernel)
theorem dX10_order_92 : decode cX10_order 92 = .ok (.iinc 3 1, 3) := q_o132 (a := 3) (b := 1) (by decide +kernel) rfl
theorem dX10_order_95 : decode cX10_order 95 = .ok (.iinc 6 1, 3) := q_o132 (a := 6) (b := 1) (by decide +kernel) rfl
theorem dX10_order_98 : decode cX10_order 98 = .ok (.goto (-33), 3) := q_o167 (a := 255) (b := 223) (by decide +kernel) rfl
theorem dX10_order_101 : decode cX10_order 101 = .ok (.iload_n 2, 1) := q_o28 (by decide +kernel)
theorem dX10_order_102 : decode cX10_order 102 = .ok (.iload 5, 2) := q_o21 (a := 5) (by decide +kernel)
theorem dX10_order_104 : decode cX10_order 104 = .ok (.ior, 1) := by decide +kernel
theorem dX10_order_105 : decode cX10_order 105 = .ok (.istore_n 2, 1) := q_o61 (by decide +kernel)
theorem dX10_order_106 : decode cX10_order 106 = .ok (.iinc 4 1, 3) := q_o132 (a := 4) (b := 1) (by decide +kernel) rfl
theorem dX10_order_109 : decode cX10_order 109 = .ok (.goto (-84), 3) := q_o167 (a := 255) (b := 172) (by decide +kernel) rfl
theorem dX10_order_112 : decode cX10_order 112 = .ok (.aload_n 0, 1) := q_o42 (by decide +kernel)
theorem dX10_order_113 : decode cX10_order 113 = .ok (.invokevirtual 365, 3) := q_o182 (a := 1) (b := 109) (by decide +kernel)
theorem dX10_order_116 : decode cX10_order 116 = .ok (.iload_n 1, 1) := q_o27 (by decide +kernel)
theorem dX10_order_117 : decode cX10_order 117 = .ok (.iconst 0, 1) := q_o3 (by decide +kernel)
theorem dX10_order_118 : decode cX10_order 118 = .ok (.iload_n 3, 1) := q_o29 (by decide +kernel)
theorem dX10_order_119 : decode cX10_order 119 = .ok (.iconst 1, 1) := q_o4 (by decide +kernel)
theorem dX10_order_120 : decode cX10_order 120 = .ok (.isub, 1) := q_o100 (by decide +kernel)
theorem dX10_order_121 : decode cX10_order 121 = .ok (.invokestatic 63, 3) := q_o184 (a := 0) (b := 63) (by decide +kernel)
theorem dX10_order_124 : decode cX10_order 124 = .ok (.ifCond .eq 12, 3) := q_o153 (a := 0) (b := 12) (by decide +kernel) rfl
theorem dX10_order_127 : decode cX10_order 127 = .ok (.aload_n 0, 1) := q_o42 (by decide +kernel)
theorem dX10_order_128 : decode cX10_order 128 = .ok (.getfield 46, 3) := q_o180 (a := 0) (b := 46) (by decide +kernel)
theorem dX10_order_131 : decode cX10_order 131 = .ok (.iload_n 1, 1) := q_o27 (by decide +kernel)
theorem dX10_order_132 : decode cX10_order 132 = .ok (.iaload, 1) := q_o46 (by decide +kernel)
theorem dX10_order_133 : decode cX10_order 133 = .ok (.goto 4, 3) := q_o167 (a := 0) (b := 4) (by decide +kernel) rfl
theorem dX10_order_136 : decode cX10_order 136 = .ok (.iconst (-1), 1) := q_o2 (by decide +kernel)
theorem dX10_order_137 : decode cX10_order 137 = .ok (.ireturn, 1) := q_o172 (by decide +kernel)
theorem dX10_perform_0 : decode cX10_perform 0 = .ok (.aload_n 0, 1) := q_o42 (by decide +kernel)
theorem dX10_perform_1 : decode cX10_perform 1 = .ok (.iload_n 1, 1) := q_o27 (by decide +kernel)
theorem dX10_perform_2 : decode cX10_perform 2 = .ok (.invokevirtual 374, 3) := q_o182 (a := 1) (b := 118) (by decide +kernel)
theorem dX10_perform_5 : decode cX10_perform 5 = .ok (.ifCond .eq 19, 3) := q_o153 (a := 0) (b := 19) (by decide +kernel) rfl
theorem dX10_perform_8 : decode cX10_perform 8 = .ok (.aload_n 0, 1) := q_o42 (by decide +kernel)
theorem dX10_perform_9 : decode cX10_perform 9 = .ok (.invokevirtual 135, 3) := q_o182 (a := 0) (b := 135) (by decide +kernel)
theorem dX10_perform_12 : decode cX10_perform 12 = .ok (.ifCond .eq 12, 3) := q_o153 (a := 0) (b := 12) (by decide +kernel) rfl
theorem dX10_perform_15 : decode cX10_perform 15 = .ok (.aload_n 0, 1) := q_o42 (by decide +kernel)
theorem dX10_perform_16 : decode cX10_perform 16 = .ok (.iload_n 1, 1) := q_o27 (by decide +kernel)
theorem dX10_perform_17 : decode cX10_perform 17 = .ok (.iconst 1, 1) := q_o4 (by decide +kernel)
theorem dX10_perform_18 : decode cX10_perform 18 = .ok (.invokevirtual 380, 3) := q_o182 (a := 1) (b := 124) (by decide +kernel)
theorem dX10_perform_21 : decode cX10_perform 21 = .ok (.goto 4, 3) := q_o167 (a := 0) (b := 4) (by decide +kernel) rfl
theorem dX10_perform_24 : decode cX10_perform 24 = .ok (.iconst (-1), 1) := q_o2 (by decide +kernel)
theorem dX10_perform_25 : decode cX10_perform 25 = .ok (.ireturn, 1) := q_o172 (by decide +kernel)
theorem dX10_place_0 : decode cX10_place 0 = .ok (.aload_n 0, 1) := q_o42 (by decide +kernel)
theorem dX10_place_1 : decode cX10_place 1 = .ok (.iload_n 1, 1) := q_o27 (by decide +kernel)
theorem dX10_place_2 : decode cX10_place 2 = .ok (.invokevirtual 139, 3) := q_o182 (a := 0) (b := 139) (by decide +kernel)
theorem dX10_place_5 : decode cX10_place 5 = .ok (.ifCond .eq 11, 3) := q_o153 (a := 0) (b := 11) (by decide +kernel) rfl
theorem dX10_place_8 : decode cX10_place 8 = .ok (.aload_n 0, 1) := q_o42 (by decide +kernel)
theorem dX10_place_9 : decode cX10_place 9 = .ok (.iload_n 1, 1) := q_o27 (by decide +kernel)
theorem dX10_place_10 : decode cX10_place 10 = .ok (.invokevirtual 145, 3) := q_o182 (a := 0) (b := 145) (by decide +kernel)
theorem dX10_place_13 : decode cX10_place 13 = .ok (.ifCond .eq 5, 3) := q_o153 (a := 0) (b := 5) (by decide +kernel) rfl
theorem dX10_place_16 : decode cX10_place 16 = .ok (.iconst (-1), 1) := q_o2 (by decide +kernel)
theorem dX10_place_17 : decode cX10_place 17 = .ok (.ireturn, 1) := q_o172 (by decide +kernel)
theorem dX10_place_18 : decode cX10_place 18 = .ok (.iconst (-1), 1) := q_o2 (by decide +kernel)
theorem dX10_place_19 : decode cX10_place 19 = .ok (.istore_n 2, 1) := q_o61 (by decide +kernel)
theorem dX10_place_20 : decode cX10_place 20 = .ok (.iconst 0, 1) := q_o3 (by decide +kernel)
theorem dX10_place_21 : decode cX10_place 21 = .ok (.istore_n 3, 1) := q_o62 (by decide +kernel)
theorem dX10_place_22 : decode cX10_place 22 = .ok (.iconst 0, 1) := q_o3 (by decide +kernel)
theorem dX10_place_23 : decode cX10_place 23 = .ok (.istore 4, 2) := q_o54 (a := 4) (by decide +kernel)
theorem dX10_place_25 : decode cX10_place 25 = .ok (.iload 4, 2) := q_o21 (a := 4) (by decide +kernel)
theorem dX10_place_27 : decode cX10_place 27 = .ok (.bipush 8, 2) := q_o16 (a := 8) (by decide +kernel) rfl
theorem dX10_place_29 : decode cX10_place 29 = .ok (.if_icmp .gt 95, 3) := q_o163 (a := 0) (b := 95) (by decide +kernel) rfl
theorem dX10_place_32 : decode cX10_place 32 = .ok (.iconst 0, 1) := q_o3 (by decide +kernel)
theorem dX10_place_33 : decode cX10_place 33 = .ok (.istore 5, 2) := q_o54 (a := 5) (by decide +kernel)
theorem dX10_place_35 : decode cX10_place 35 = .ok (.aload_n 0, 1) := q_o42 (by decide +kernel)
theorem dX10_place_36 : decode cX10_place 36 = .ok (.iload 4, 2) := q_o21 (a := 4) (by decide +kernel)
theorem dX10_place_38 : decode cX10_place 38 = .ok (.invokevirtual 270, 3) := q_o182 (a := 1) (b := 14) (by decide +kernel)
theorem dX10_place_41 : decode cX10_place 41 = .ok (.ifCond .eq 77, 3) := q_o153 (a := 0) (b := 77) (by decide +kernel) rfl
theorem dX10_place_44 : decode cX10_place 44 = .ok (.iload 5, 2) := q_o21 (a := 5) (by decide +kernel)
theorem dX10_place_46 : decode cX10_place 46 = .ok (.aload_n 0, 1) := q_o42 (by decide +kernel)
theorem dX10_place_47 : decode cX10_place 47 = .ok (.iload 4, 2) := q_o21 (a := 4) (by decide +kernel)
theorem dX10_place_49 : decode cX10_place 49 = .ok (.invokevirtual 285, 3) := q_o182 (a := 1) (b := 29) (by decide +kernel)
theorem dX10_place_52 : decode cX10_place 52 = .ok (.if_icmp .ge 66, 3) := q_o162 (a := 0) (b := 66) (by decide +kernel) rfl
theorem dX10_place_55 : decode cX10_place 55 = .ok (.aload_n 0, 1) := q_o42 (by decide +kernel)
theorem dX10_place_56 : decode cX10_place 56 = .ok (.iload_n 1, 1) := q_o27 (by decide +kernel)
theorem dX10_place_57 : decode cX10_place 57 = .ok (.iload 4, 2) := q_o21 (a := 4) (by decide +kernel)
theorem dX10_place_59 : decode cX10_place 59 = .ok (.iload 5, 2) := q_o21 (a := 5) (by decide +kernel)
theorem dX10_place_61 : decode cX10_place 61 = .ok (.invokevirtual 297, 3) := q_o182 (a := 1) (b := 41) (by decide +kernel)
theorem dX10_place_64 : decode cX10_place 64 = .ok (.iconst (-1), 1) := q_o2 (by decide +kernel)
theorem dX10_place_65 : decode cX10_place 65 = .ok (.if_icmp .ne 15, 3) := q_o160 (a := 0) (b := 15) (by decide +kernel) rfl
theorem dX10_place_68 : decode cX10_place 68 = .ok (.aload_n 0, 1) := q_o42 (by decide +kernel)
theorem dX10_place_69 : decode cX10_place 69 = .ok (.iload_n 1, 1) := q_o27 (by decide +kernel)
theorem dX10_place_70 : decode cX10_place 70 = .ok (.iload 4, 2) := q_o21 (a := 4) (by decide +kernel)
theorem dX10_place_72 : decode cX10_place 72 = .ok (.iload 5, 2) := q_o21 (a := 5) (by decide +kernel)
theorem dX10_place_74 : decode cX10_place 74 = .ok (.invokevirtual 371, 3) := q_o182 (a := 1) (b := 115) (by decide +kernel)
theorem dX10_place_77 : decode cX10_place 77 = .ok (.goto 4, 3) := q_o167 (a := 0) (b := 4) (by decide +kernel) rfl
theorem dX10_place_80 : decode cX10_place 80 = .ok (.iconst (-1), 1) := q_o2 (by decide +kernel)
theorem dX10_place_81 : decode cX10_place 81 = .ok (.istore 6, 2) := q_o54 (a := 6) (by decide +kernel)
theorem dX10_place_83 : decode cX10_place 83 = .ok (.iload 6, 2) := q_o21 (a := 6) (by decide +kernel)
theorem dX10_place_85 : decode cX10_place 85 = .ok (.iconst (-1), 1) := q_o2 (by decide +kernel)
theorem dX10_place_86 : decode cX10_place 86 = .ok (.if_icmp .eq 26, 3) := q_o159 (a := 0) (b := 26) (by decide +kernel) rfl
theorem dX10_place_89 : decode cX10_place 89 = .ok (.iload_n 2, 1) := q_o28 (by decide +kernel)
theorem dX10_place_90 : decode cX10_place 90 = .ok (.iconst (-1), 1) := q_o2 (by decide +kernel)
theorem dX10_place_91 : decode cX10_place 91 = .ok (.if_icmp .eq 9, 3) := q_o159 (a := 0) (b := 9) (by decide +kernel) rfl
theorem dX10_place_94 : decode cX10_place 94 = .ok (.iload 6, 2) := q_o21 (a := 6) (by decide +kernel)
theorem dX10_place_96 : decode cX10_place 96 = .ok (.iload_n 3, 1) := q_o29 (by decide +kernel)
theorem dX10_place_97 : decode cX10_place 97 = .ok (.if_icmp .ge 15, 3) := q_o162 (a := 0) (b := 15) (by decide +kernel) rfl
theorem dX10_place_100 : decode cX10_place 100 = .ok (.bipush 10, 2) := q_o16 (a := 10) (by decide +kernel) rfl
theorem dX10_place_102 : decode cX10_place 102 = .ok (.iload 4, 2) := q_o21 (a := 4) (by decide +kernel)
theorem dX10_place_104 : decode cX10_place 104 = .ok (.imul, 1) := q_o104 (by decide +kernel)
theorem dX10_place_105 : decode cX10_place 105 = .ok (.iload 5, 2) := q_o21 (a := 5) (by decide +kernel)
theorem dX10_place_107 : decode cX10_place 107 = .ok (.iadd, 1) := q_o96 (by decide +kernel)
theorem dX10_place_108 : decode cX10_place 108 = .ok (.istore_n 2, 1) := q_o61 (by decide +kernel)
theorem dX10_place_109 : decode cX10_place 109 = .ok (.iload 6, 2) := q_o21 (a := 6) (by decide +kernel)
theorem dX10_place_111 : decode cX10_place 111 = .ok (.istore_n 3, 1) := q_o62 (by decide +kernel)
theorem dX10_place_112 : decode cX10_place 112 = .ok (.iinc 5 1, 3) := q_o132 (a := 5) (b := 1) (by decide +kernel) rfl
theorem dX10_place_115 : decode cX10_place 115 = .ok (.goto (-80), 3) := q_o167 (a := 255) (b := 176) (by decide +kernel) rfl
theorem dX10_place_118 : decode cX10_place 118 = .ok (.iinc 4 1, 3) := q_o132 (a := 4) (b := 1) (by decide +kernel) rfl
theorem dX10_place_121 : decode cX10_place 121 = .ok (.goto (-96), 3) := q_o167 (a := 255) (b := 160) (by decide +kernel) rfl
theorem dX10_place_124 : decode cX10_place 124 = .ok (.iload_n 2, 1) := q_o28 (by decide +kernel)
theorem dX10_place_125 : decode cX10_place 125 = .ok (.ireturn, 1) := q_o172 (by decide +kernel)
theorem dX10_port_0 : decode cX10_port 0 = .ok (.aload_n 0, 1) := q_o42 (by decide +kernel)
theorem dX10_port_1 : decode cX10_port 1 = .ok (.iload_n 1, 1) := q_o27 (by decide +kernel)
theorem dX10_port_2 : decode cX10_port 2 = .ok (.invokevirtual 270, 3) := q_o182 (a := 1) (b := 14) (by decide +kernel)
theorem dX10_port_5 : decode cX10_port 5 = .ok (.ifCond .eq 27, 3) := q_o153 (a := 0) (b := 27) (by decide +kernel) rfl
theorem dX10_port_8 : decode cX10_port 8 = .ok (.iload_n 2, 1) := q_o28 (by decide +kernel)
theorem dX10_port_9 : decode cX10_port 9 = .ok (.iconst 0, 1) := q_o3 (by decide +kernel)
theorem dX10_port_10 : decode cX10_port 10 = .ok (.aload_n 0, 1) := q_o42 (by decide +kernel)
theorem dX10_port_11 : decode cX10_port 11 = .ok (.iload_n 1, 1) := q_o27 (by decide +kernel)
theorem dX10_port_12 : decode cX10_port 12 = .ok (.invokevirtual 285, 3) := q_o182 (a := 1) (b := 29) (by decide +kernel)
theorem dX10_port_15 : decode cX10_port 15 = .ok (.iconst 1, 1) := q_o4 (by decide +kernel)
theorem dX10_port_16 : decode cX10_port 16 = .ok (.isub, 1) := q_o100 (by decide +kernel)
theorem dX10_port_17 : decode cX10_port 17 = .ok (.invokestatic 63, 3) := q_o184 (a := 0) (b := 63) (by decide +kernel)
theorem dX10_port_20 : decode cX10_port 20 = .ok (.ifCond .eq 12, 3) := q_o153 (a := 0) (b := 12) (by decide +kernel) rfl
theorem dX10_port_23 : decode cX10_port 23 = .ok (.aload_n 0, 1) := q_o42 (by decide +kernel)
theorem dX10_port_24 : decode cX10_port 24 = .ok (.iload_n 1, 1) := q_o27 (by decide +kernel)
theorem dX10_port_25 : decode cX10_port 25 = .ok (.iload_n 2, 1) := q_o28 (by decide +kernel)
theorem dX10_port_26 : decode cX10_port 26 = .ok (.invokevirtual 288, 3) := q_o182 (a := 1) (b := 32) (by decide +kernel)
theorem dX10_port_29 : decode cX10_port 29 = .ok (.goto 4, 3) := q_o167 (a := 0) (b := 4) (by decide +kernel) rfl
theorem dX10_port_32 : decode cX10_port 32 = .ok (.iconst (-1), 1) := q_o2 (by decide +kernel)
theorem dX10_port_33 : decode cX10_port 33 = .ok (.ireturn, 1) := q_o172 (by decide +kernel)
theorem dX10_putAside_0 : decode cX10_putAside 0 = .ok (.iconst 0, 1) := q_o3 (by decide +kernel)
theorem dX10_putAside_1 : decode cX10_putAside 1 = .ok (.istore_n 1, 1) := q_o60 (by decide +kernel)
theorem dX10_putAside_2 : decode cX10_putAside 2 = .ok (.iload_n 1, 1) := q_o27 (by decide +kernel)
theorem dX10_putAside_3 : decode cX10_putAside 3 = .ok (.bipush 98, 2) := q_o16 (a := 98) (by decide +kernel) rfl
theorem dX10_putAside_5 : decode cX10_putAside 5 = .ok (.if_icmp .ge 21, 3) := q_o162 (a := 0) (b := 21) (by decide +kernel) rfl
theorem dX10_putAside_8 : decode cX10_putAside 8 = .ok (.aload_n 0, 1) := q_o42 (by decide +kernel)
theorem dX10_putAside_9 : decode cX10_putAside 9 = .ok (.getfield 40, 3) := q_o180 (a := 0) (b := 40) (by decide +kernel)
theorem dX10_putAside_12 : decode cX10_putAside 12 = .ok (.iload_n 1, 1) := q_o27 (by decide +kernel)
theorem dX10_putAside_13 : decode cX10_putAside 13 = .ok (.aload_n 0, 1) := q_o42 (by decide +kernel)
theorem dX10_putAside_14 : decode cX10_putAside 14 = .ok (.getfield 31, 3) := q_o180 (a := 0) (b := 31) (by decide +kernel)
theorem dX10_putAside_17 : decode cX10_putAside 17 = .ok (.iload_n 1, 1) := q_o27 (by decide +kernel)
theorem dX10_putAside_18 : decode cX10_putAside 18 = .ok (.iaload, 1) := q_o46 (by decide +kernel)
theorem dX10_putAside_19 : decode cX10_putAside 19 = .ok (.iastore, 1) := q_o79 (by decide +kernel)
theorem dX10_putAside_20 : decode cX10_putAside 20 = .ok (.iinc 1 1, 3) := q_o132 (a := 1) (b := 1) (by decide +kernel) rfl
theorem dX10_putAside_23 : decode cX10_putAside 23 = .ok (.goto (-21), 3) := q_o167 (a := 255) (b := 235) (by decide +kernel) rfl
theorem dX10_putAside_26 : decode cX10_putAside 26 = .ok (.return_, 1) := q_o177 (by decide +kernel)
theorem dX10_rule_0 : decode cX10_rule 0 = .ok (.aload_n 0, 1) := q_o42 (by decide +kernel)
theorem dX10_rule_1 : decode cX10_rule 1 = .ok (.invokevirtual 135, 3) := q_o182 (a := 0) (b := 135) (by decide +kernel)
theorem dX10_rule_4 : decode cX10_rule 4 = .ok (.ifCond .eq 22, 3) := q_o153 (a := 0) (b := 22) (by decide +kernel) rfl
theorem dX10_rule_7 : decode cX10_rule 7 = .ok (.iload_n 1, 1) := q_o27 (by decide +kernel)
theorem dX10_rule_8 : decode cX10_rule 8 = .ok (.iconst 0, 1) := q_o3 (by decide +kernel)
theorem dX10_rule_9 : decode cX10_rule 9 = .ok (.bipush 7, 2) := q_o16 (a := 7) (by decide +kernel) rfl
theorem dX10_rule_11 : decode cX10_rule 11 = .ok (.invokestatic 63, 3) := q_o184 (a := 0) (b := 63) (by decide +kernel)
theorem dX10_rule_14 : decode cX10_rule 14 = .ok (.ifCond .eq 12, 3) := q_o153 (a := 0) (b := 12) (by decide +kernel) rfl
theorem dX10_rule_17 : decode cX10_rule 17 = .ok (.aload_n 0, 1) := q_o42 (by decide +kernel)
theorem dX10_rule_18 : decode cX10_rule 18 = .ok (.getfield 19, 3) := q_o180 (a := 0) (b := 19) (by decide +kernel)
theorem dX10_rule_21 : decode cX10_rule 21 = .ok (.iload_n 1, 1) := q_o27 (by decide +kernel)
theorem dX10_rule_22 : decode cX10_rule 22 = .ok (.iaload, 1) := q_o46 (by decide +kernel)
theorem dX10_rule_23 : decode cX10_rule 23 = .ok (.goto 4, 3) := q_o167 (a := 0) (b := 4) (by decide +kernel) rfl
theorem dX10_rule_26 : decode cX10_rule 26 = .ok (.iconst (-1), 1) := q_o2 (by decide +kernel)
theorem dX10_rule_27 : decode cX10_rule 27 = .ok (.ireturn, 1) := q_o172 (by decide +kernel)
theorem dX10_run_0 : decode cX10_run 0 = .ok (.aload_n 0, 1) := q_o42 (by decide +kernel)
theorem dX10_run_1 : decode cX10_run 1 = .ok (.iload_n 1, 1) := q_o27 (by decide +kernel)
theorem dX10_run_2 : decode cX10_run 2 = .ok (.invokevirtual 374, 3) := q_o182 (a := 1) (b := 118) (by decide +kernel)
theorem dX10_run_5 : decode cX10_run 5 = .ok (.ifCond .eq 19, 3) := q_o153 (a := 0) (b := 19) (by decide +kernel) rfl
theorem dX10_run_8 : decode cX10_run 8 = .ok (.aload_n 0, 1) := q_o42 (by decide +kernel)
theorem dX10_run_9 : decode cX10_run 9 = .ok (.invokevirtual 135, 3) := q_o182 (a := 0) (b := 135) (by decide +kernel)
theorem dX10_run_12 : decode cX10_run 12 = .ok (.ifCond .eq 12, 3) := q_o153 (a := 0) (b := 12) (by decide +kernel) rfl
theorem dX10_run_15 : decode cX10_run 15 = .ok (.iload_n 2, 1) := q_o28 (by decide +kernel)
theorem dX10_run_16 : decode cX10_run 16 = .ok (.iconst 0, 1) := q_o3 (by decide +kernel)
theorem dX10_run_17 : decode cX10_run 17 = .ok (.iconst 1, 1) := q_o4 (by decide +kernel)
theorem dX10_run_18 : decode cX10_run 18 = .ok (.invokestatic 63, 3) := q_o184 (a := 0) (b := 63) (by decide +kernel)
theorem dX10_run_21 : decode cX10_run 21 = .ok (.ifCond .ne 7, 3) := q_o154 (a := 0) (b := 7) (by decide +kernel) rfl
theorem dX10_run_24 : decode cX10_run 24 = .ok (.ldc_w 358, 3) := by decide +kernel
theorem dX10_run_27 : decode cX10_run 27 = .ok (.ireturn, 1) := q_o172 (by decide +kernel)
theorem dX10_run_28 : decode cX10_run 28 = .ok (.aload_n 0, 1) := q_o42 (by decide +kernel)
theorem dX10_run_29 : decode cX10_run 29 = .ok (.invokevirtual 359, 3) := q_o182 (a := 1) (b := 103) (by decide +kernel)
theorem dX10_run_32 : decode cX10_run 32 = .ok (.aload_n 0, 1) := q_o42 (by decide +kernel)
theorem dX10_run_33 : decode cX10_run 33 = .ok (.iload_n 1, 1) := q_o27 (by decide +kernel)
theorem dX10_run_34 : decode cX10_run 34 = .ok (.iconst 0, 1) := q_o3 (by decide +kernel)
theorem dX10_run_35 : decode cX10_run 35 = .ok (.invokevirtual 380, 3) := q_o182 (a := 1) (b := 124) (by decide +kernel)
theorem dX10_run_38 : decode cX10_run 38 = .ok (.istore_n 3, 1) := q_o62 (by decide +kernel)
theorem dX10_run_39 : decode cX10_run 39 = .ok (.aload_n 0, 1) := q_o42 (by decide +kernel)
theorem dX10_run_40 : decode cX10_run 40 = .ok (.bipush 6, 2) := q_o16 (a := 6) (by decide +kernel) rfl
theorem dX10_run_42 : decode cX10_run 42 = .ok (.invokevirtual 279, 3) := q_o182 (a := 1) (b := 23) (by decide +kernel)
theorem dX10_run_45 : decode cX10_run 45 = .ok (.invokestatic 282, 3) := q_o184 (a := 1) (b := 26) (by decide +kernel)
theorem dX10_run_48 : decode cX10_run 48 = .ok (.istore 4, 2) := q_o54 (a := 4) (by decide +kernel)
theorem dX10_run_50 : decode cX10_run 50 = .ok (.aload_n 0, 1) := q_o42 (by decide +kernel)
theorem dX10_run_51 : decode cX10_run 51 = .ok (.invokevirtual 365, 3) := q_o182 (a := 1) (b := 109) (by decide +kernel)
theorem dX10_run_54 : decode cX10_run 54 = .ok (.iload_n 2, 1) := q_o28 (by decide +kernel)
theorem dX10_run_55 : decode cX10_run 55 = .ok (.iconst 1, 1) := q_o4 (by decide +kernel)
theorem dX10_run_56 : decode cX10_run 56 = .ok (.if_icmp .ne 8, 3) := q_o160 (a := 0) (b := 8) (by decide +kernel) rfl
theorem dX10_run_59 : decode cX10_run 59 = .ok (.iload 4, 2) := q_o21 (a := 4) (by decide +kernel)
theorem dX10_run_61 : decode cX10_run 61 = .ok (.goto 18, 3) := q_o167 (a := 0) (b := 18) (by decide +kernel) rfl
theorem dX10_run_64 : decode cX10_run 64 = .ok (.iload_n 3, 1) := q_o29 (by decide +kernel)
theorem dX10_run_65 : decode cX10_run 65 = .ok (.aload_n 0, 1) := q_o42 (by decide +kernel)
theorem dX10_run_66 : decode cX10_run 66 = .ok (.getfield 28, 3) := q_o180 (a := 0) (b := 28) (by decide +kernel)
theorem dX10_run_69 : decode cX10_run 69 = .ok (.iload_n 1, 1) := q_o27 (by decide +kernel)
theorem dX10_run_70 : decode cX10_run 70 = .ok (.iaload, 1) := q_o46 (by decide +kernel)
theorem dX10_run_71 : decode cX10_run 71 = .ok (.if_icmp .ne 7, 3) := q_o160 (a := 0) (b := 7) (by decide +kernel) rfl
theorem dX10_run_74 : decode cX10_run 74 = .ok (.iconst (-1), 1) := q_o2 (by decide +kernel)
theorem dX10_run_75 : decode cX10_run 75 = .ok (.goto 4, 3) := q_o167 (a := 0) (b := 4) (by decide +kernel) rfl
theorem dX10_run_78 : decode cX10_run 78 = .ok (.iload_n 3, 1) := q_o29 (by decide +kernel)
theorem dX10_run_79 : decode cX10_run 79 = .ok (.ireturn, 1) := q_o172 (by decide +kernel)
theorem dX10_shares_0 : decode cX10_shares 0 = .ok (.aload_n 0, 1) := q_o42 (by decide +kernel)
theorem dX10_shares_1 : decode cX10_shares 1 = .ok (.iload_n 1, 1) := q_o27 (by decide +kernel)
theorem dX10_shares_2 : decode cX10_shares 2 = .ok (.invokevirtual 139, 3) := q_o182 (a := 0) (b := 139) (by decide +kernel)
theorem dX10_shares_5 : decode cX10_shares 5 = .ok (.ifCond .eq 24, 3) := q_o153 (a := 0) (b := 24) (by decide +kernel) rfl
theorem dX10_shares_8 : decode cX10_shares 8 = .ok (.aload_n 0, 1) := q_o42 (by decide +kernel)
theorem dX10_shares_9 : decode cX10_shares 9 = .ok (.iload_n 1, 1) := q_o27 (by decide +kernel)
theorem dX10_shares_10 : decode cX10_shares 10 = .ok (.invokevirtual 145, 3) := q_o182 (a := 0) (b := 145) (by decide +kernel)
theorem dX10_shares_13 : decode cX10_shares 13 = .ok (.bipush 6, 2) := q_o16 (a := 6) (by decide +kernel) rfl
theorem dX10_shares_15 : decode cX10_shares 15 = .ok (.if_icmp .ne 14, 3) := q_o160 (a := 0) (b := 14) (by decide +kernel) rfl
theorem dX10_shares_18 : decode cX10_shares 18 = .ok (.iload_n 2, 1) := q_o28 (by decide +kernel)
theorem dX10_shares_19 : decode cX10_shares 19 = .ok (.iconst 0, 1) := q_o3 (by decide +kernel)
theorem dX10_shares_20 : decode cX10_shares 20 = .ok (.sipush 999, 3) := q_o17 (a := 3) (b := 231) (by decide +kernel) rfl
theorem dX10_shares_23 : decode cX10_shares 23 = .ok (.invokestatic 63, 3) := q_o184 (a := 0) (b := 63) (by decide +kernel)
theorem dX10_shares_26 : decode cX10_shares 26 = .ok (.ifCond .ne 5, 3) := q_o154 (a := 0) (b := 5) (by decide +kernel) rfl
theorem dX10_shares_29 : decode cX10_shares 29 = .ok (.iconst (-1), 1) := q_o2 (by decide +kernel)
theorem dX10_shares_30 : decode cX10_shares 30 = .ok (.ireturn, 1) := q_o172 (by decide +kernel)
theorem dX10_shares_31 : decode cX10_shares 31 = .ok (.iconst 0, 1) := q_o3 (by decide +kernel)
theorem dX10_shares_32 : decode cX10_shares 32 = .ok (.istore_n 3, 1) := q_o62 (by decide +kernel)
theorem dX10_shares_33 : decode cX10_shares 33 = .ok (.iconst 0, 1) := q_o3 (by decide +kernel)
theorem dX10_shares_34 : decode cX10_shares 34 = .ok (.istore 4, 2) := q_o54 (a := 4) (by decide +kernel)
theorem dX10_shares_36 : decode cX10_shares 36 = .ok (.iload 4, 2) := q_o21 (a := 4) (by decide +kernel)
theorem dX10_shares_38 : decode cX10_shares 38 = .ok (.aload_n 0, 1) := q_o42 (by decide +kernel)
theorem dX10_shares_39 : decode cX10_shares 39 = .ok (.getfield 132, 3) := q_o180 (a := 0) (b := 132) (by decide +kernel)
theorem dX10_shares_42 : decode cX10_shares 42 = .ok (.if_icmp .ge 34, 3) := q_o162 (a := 0) (b := 34) (by decide +kernel) rfl
theorem dX10_shares_45 : decode cX10_shares 45 = .ok (.iload_n 3, 1) := q_o29 (by decide +kernel)
theorem dX10_shares_46 : decode cX10_shares 46 = .ok (.aload_n 0, 1) := q_o42 (by decide +kernel)
theorem dX10_shares_47 : decode cX10_shares 47 = .ok (.iload 4, 2) := q_o21 (a := 4) (by decide +kernel)
theorem dX10_shares_49 : decode cX10_shares 49 = .ok (.invokevirtual 145, 3) := q_o182 (a := 0) (b := 145) (by decide +kernel)
theorem dX10_shares_52 : decode cX10_shares 52 = .ok (.bipush 6, 2) := q_o16 (a := 6) (by decide +kernel) rfl
theorem dX10_shares_54 : decode cX10_shares 54 = .ok (.if_icmp .ne 13, 3) := q_o160 (a := 0) (b := 13) (by decide +kernel) rfl
theorem dX10_shares_57 : decode cX10_shares 57 = .ok (.aload_n 0, 1) := q_o42 (by decide +kernel)
theorem dX10_shares_58 : decode cX10_shares 58 = .ok (.iload 4, 2) := q_o21 (a := 4) (by decide +kernel)
theorem dX10_shares_60 : decode cX10_shares 60 = .ok (.iconst 4, 1) := q_o7 (by decide +kernel)
theorem dX10_shares_61 : decode cX10_shares 61 = .ok (.invokevirtual 142, 3) := q_o182 (a := 0) (b := 142) (by decide +kernel)
theorem dX10_shares_64 : decode cX10_shares 64 = .ok (.goto 4, 3) := q_o167 (a := 0) (b := 4) (by decide +kernel) rfl
theorem dX10_shares_67 : decode cX10_shares 67 = .ok (.iconst 0, 1) := q_o3 (by decide +kernel)
theorem dX10_shares_68 : decode cX10_shares 68 = .ok (.iadd, 1) := q_o96 (by decide +kernel)
theorem dX10_shares_69 : decode cX10_shares 69 = .ok (.istore_n 3, 1) := q_o62 (by decide +kernel)
theorem dX10_shares_70 : decode cX10_shares 70 = .ok (.iinc 4 1, 3) := q_o132 (a := 4) (b := 1) (by decide +kernel) rfl
theorem dX10_shares_73 : decode cX10_shares 73 = .ok (.goto (-37), 3) := q_o167 (a := 255) (b := 219) (by decide +kernel) rfl
theorem dX10_shares_76 : decode cX10_shares 76 = .ok (.iload_n 3, 1) := q_o29 (by decide +kernel)
theorem dX10_shares_77 : decode cX10_shares 77 = .ok (.ifCond .ne 7, 3) := q_o154 (a := 0) (b := 7) (by decide +kernel) rfl
theorem dX10_shares_80 : decode cX10_shares 80 = .ok (.iconst 0, 1) := q_o3 (by decide +kernel)
theorem dX10_shares_81 : decode cX10_shares 81 = .ok (.goto 13, 3) := q_o167 (a := 0) (b := 13) (by decide +kernel) rfl
theorem dX10_shares_84 : decode cX10_shares 84 = .ok (.iload_n 2, 1) := q_o28 (by decide +kernel)
theorem dX10_shares_85 : decode cX10_shares 85 = .ok (.aload_n 0, 1) := q_o42 (by decide +kernel)
theorem dX10_shares_86 : decode cX10_shares 86 = .ok (.iload_n 1, 1) := q_o27 (by decide +kernel)
theorem dX10_shares_87 : decode cX10_shares 87 = .ok (.iconst 4, 1) := q_o7 (by decide +kernel)
theorem dX10_shares_88 : decode cX10_shares 88 = .ok (.invokevirtual 142, 3) := q_o182 (a := 0) (b := 142) (by decide +kernel)
theorem dX10_shares_91 : decode cX10_shares 91 = .ok (.imul, 1) := q_o104 (by decide +kernel)
theorem dX10_shares_92 : decode cX10_shares 92 = .ok (.iload_n 3, 1) := q_o29 (by decide +kernel)
theorem dX10_shares_93 : decode cX10_shares 93 = .ok (.idiv, 1) := by decide +kernel
theorem dX10_shares_94 : decode cX10_shares 94 = .ok (.ireturn, 1) := q_o172 (by decide +kernel)
theorem dX10_sleepers_0 : decode cX10_sleepers 0 = .ok (.iconst 0, 1) := q_o3 (by decide +kernel)
theorem dX10_sleepers_1 : decode cX10_sleepers 1 = .ok (.istore_n 2, 1) := q_o61 (by decide +kernel)
theorem dX10_sleepers_2 : decode cX10_sleepers 2 = .ok (.iconst 0, 1) := q_o3 (by decide +kernel)
theorem dX10_sleepers_3 : decode cX10_sleepers 3 = .ok (.istore_n 3, 1) := q_o62 (by decide +kernel)
theorem dX10_sleepers_4 : decode cX10_sleepers 4 = .ok (.iload_n 3, 1) := q_o29 (by decide +kernel)
theorem dX10_sleepers_5 : decode cX10_sleepers 5 = .ok (.aload_n 0, 1) := q_o42 (by decide +kernel)
theorem dX10_sleepers_6 : decode cX10_sleepers 6 = .ok (.getfield 132, 3) := q_o180 (a := 0) (b := 132) (by decide +kernel)
theorem dX10_sleepers_9 : decode cX10_sleepers 9 = .ok (.if_icmp .ge 39, 3) := q_o162 (a := 0) (b := 39) (by decide +kernel) rfl
theorem dX10_sleepers_12 : decode cX10_sleepers 12 = .ok (.iload_n 2, 1) := q_o28 (by decide +kernel)
theorem dX10_sleepers_13 : decode cX10_sleepers 13 = .ok (.aload_n 0, 1) := q_o42 (by decide +kernel)
theorem dX10_sleepers_14 : decode cX10_sleepers 14 = .ok (.iload_n 3, 1) := q_o29 (by decide +kernel)
theorem dX10_sleepers_15 : decode cX10_sleepers 15 = .ok (.invokevirtual 167, 3) := q_o182 (a := 0) (b := 167) (by decide +kernel)
theorem dX10_sleepers_18 : decode cX10_sleepers 18 = .ok (.ifCond .eq 21, 3) := q_o153 (a := 0) (b := 21) (by decide +kernel) rfl
theorem dX10_sleepers_21 : decode cX10_sleepers 21 = .ok (.iload_n 1, 1) := q_o27 (by decide +kernel)
theorem dX10_sleepers_22 : decode cX10_sleepers 22 = .ok (.ifCond .eq 11, 3) := q_o153 (a := 0) (b := 11) (by decide +kernel) rfl
theorem dX10_sleepers_25 : decode cX10_sleepers 25 = .ok (.aload_n 0, 1) := q_o42 (by decide +kernel)
theorem dX10_sleepers_26 : decode cX10_sleepers 26 = .ok (.iload_n 3, 1) := q_o29 (by decide +kernel)
theorem dX10_sleepers_27 : decode cX10_sleepers 27 = .ok (.invokevirtual 291, 3) := q_o182 (a := 1) (b := 35) (by decide +kernel)
theorem dX10_sleepers_30 : decode cX10_sleepers 30 = .ok (.ifCond .eq 9, 3) := q_o153 (a := 0) (b := 9) (by decide +kernel) rfl
theorem dX10_sleepers_33 : decode cX10_sleepers 33 = .ok (.iconst 1, 1) := q_o4 (by decide +kernel)
theorem dX10_sleepers_34 : decode cX10_sleepers 34 = .ok (.iload_n 3, 1) := q_o29 (by decide +kernel)
theorem dX10_sleepers_35 : decode cX10_sleepers 35 = .ok (.ishl, 1) := by decide +kernel
theorem dX10_sleepers_36 : decode cX10_sleepers 36 = .ok (.goto 4, 3) := q_o167 (a := 0) (b := 4) (by decide +kernel) rfl
theorem dX10_sleepers_39 : decode cX10_sleepers 39 = .ok (.iconst 0, 1) := q_o3 (by decide +kernel)
theorem dX10_sleepers_40 : decode cX10_sleepers 40 = .ok (.ior, 1) := by decide +kernel
theorem dX10_sleepers_41 : decode cX10_sleepers 41 = .ok (.istore_n 2, 1) := q_o61 (by decide +kernel)
theorem dX10_sleepers_42 : decode cX10_sleepers 42 = .ok (.iinc 3 1, 3) := q_o132 (a := 3) (b := 1) (by decide +kernel) rfl
theorem dX10_sleepers_45 : decode cX10_sleepers 45 = .ok (.goto (-41), 3) := q_o167 (a := 255) (b := 215) (by decide +kernel) rfl
theorem dX10_sleepers_48 : decode cX10_sleepers 48 = .ok (.iload_n 2, 1) := q_o28 (by decide +kernel)
theorem dX10_sleepers_49 : decode cX10_sleepers 49 = .ok (.ireturn, 1) := q_o172 (by decide +kernel)
theorem dX10_status_0 : decode cX10_status 0 = .ok (.iload_n 1, 1) := q_o27 (by decide +kernel)
theorem dX10_status_1 : decode cX10_status 1 = .ok (.iconst 0, 1) := q_o3 (by decide +kernel)
theorem dX10_status_2 : decode cX10_status 2 = .ok (.iconst 3, 1) := q_o6 (by decide +kernel)
theorem dX10_status_3 : decode cX10_status 3 = .ok (.invokestatic 63, 3) := q_o184 (a := 0) (b := 63) (by decide +kernel)
theorem dX10_status_6 : decode cX10_status 6 = .ok (.ifCond .eq 12, 3) := q_o153 (a := 0) (b := 12) (by decide +kernel) rfl
theorem dX10_status_9 : decode cX10_status 9 = .ok (.aload_n 0, 1) := q_o42 (by decide +kernel)
theorem dX10_status_10 : decode cX10_status 10 = .ok (.getfield 34, 3) := q_o180 (a := 0) (b := 34) (by decide +kernel)
theorem dX10_status_13 : decode cX10_status 13 = .ok (.iload_n 1, 1) := q_o27 (by decide +kernel)
theorem dX10_status_14 : decode cX10_status 14 = .ok (.iaload, 1) := q_o46 (by decide +kernel)
theorem dX10_status_15 : decode cX10_status 15 = .ok (.goto 4, 3) := q_o167 (a := 0) (b := 4) (by decide +kernel) rfl
theorem dX10_status_18 : decode cX10_status 18 = .ok (.iconst (-1), 1) := q_o2 (by decide +kernel)
theorem dX10_status_19 : decode cX10_status 19 = .ok (.ireturn, 1) := q_o172 (by decide +kernel)
theorem dX10_step_0 : decode cX10_step 0 = .ok (.aload_n 0, 1) := q_o42 (by decide +kernel)
theorem dX10_step_1 : decode cX10_step 1 = .ok (.iload_n 1, 1) := q_o27 (by decide +kernel)
theorem dX10_step_2 : decode cX10_step 2 = .ok (.invokevirtual 374, 3) := q_o182 (a := 1) (b := 118) (by decide +kernel)
theorem dX10_step_5 : decode cX10_step 5 = .ok (.ifCond .eq 46, 3) := q_o153 (a := 0) (b := 46) (by decide +kernel) rfl
theorem dX10_step_8 : decode cX10_step 8 = .ok (.iload_n 2, 1) := q_o28 (by decide +kernel)
theorem dX10_step_9 : decode cX10_step 9 = .ok (.iconst 0, 1) := q_o3 (by decide +kernel)
theorem dX10_step_10 : decode cX10_step 10 = .ok (.aload_n 0, 1) := q_o42 (by decide +kernel)
theorem dX10_step_11 : decode cX10_step 11 = .ok (.getfield 28, 3) := q_o180 (a := 0) (b := 28) (by decide +kernel)
theorem dX10_step_14 : decode cX10_step 14 = .ok (.iload_n 1, 1) := q_o27 (by decide +kernel)
theorem dX10_step_15 : decode cX10_step 15 = .ok (.iaload, 1) := q_o46 (by decide +kernel)
theorem dX10_step_16 : decode cX10_step 16 = .ok (.iconst 1, 1) := q_o4 (by decide +kernel)
theorem dX10_step_17 : decode cX10_step 17 = .ok (.isub, 1) := q_o100 (by decide +kernel)
theorem dX10_step_18 : decode cX10_step 18 = .ok (.invokestatic 63, 3) := q_o184 (a := 0) (b := 63) (by decide +kernel)
theorem dX10_step_21 : decode cX10_step 21 = .ok (.ifCond .eq 30, 3) := q_o153 (a := 0) (b := 30) (by decide +kernel) rfl
theorem dX10_step_24 : decode cX10_step 24 = .ok (.iload_n 3, 1) := q_o29 (by decide +kernel)
theorem dX10_step_25 : decode cX10_step 25 = .ok (.iconst 0, 1) := q_o3 (by decide +kernel)
theorem dX10_step_26 : decode cX10_step 26 = .ok (.iconst 3, 1) := q_o6 (by decide +kernel)
theorem dX10_step_27 : decode cX10_step 27 = .ok (.invokestatic 63, 3) := q_o184 (a := 0) (b := 63) (by decide +kernel)
theorem dX10_step_30 : decode cX10_step 30 = .ok (.ifCond .eq 21, 3) := q_o153 (a := 0) (b := 21) (by decide +kernel) rfl
theorem dX10_step_33 : decode cX10_step 33 = .ok (.aload_n 0, 1) := q_o42 (by decide +kernel)
theorem dX10_step_34 : decode cX10_step 34 = .ok (.getfield 25, 3) := q_o180 (a := 0) (b := 25) (by decide +kernel)
theorem dX10_step_37 : decode cX10_step 37 = .ok (.iconst 4, 1) := q_o7 (by decide +kernel)
theorem dX10_step_38 : decode cX10_step 38 = .ok (.bipush 16, 2) := q_o16 (a := 16) (by decide +kernel) rfl
theorem dX10_step_40 : decode cX10_step 40 = .ok (.iload_n 1, 1) := q_o27 (by decide +kernel)
theorem dX10_step_41 : decode cX10_step 41 = .ok (.imul, 1) := q_o104 (by decide +kernel)
theorem dX10_step_42 : decode cX10_step 42 = .ok (.iload_n 2, 1) := q_o28 (by decide +kernel)
theorem dX10_step_43 : decode cX10_step 43 = .ok (.iadd, 1) := q_o96 (by decide +kernel)
theorem dX10_step_44 : decode cX10_step 44 = .ok (.imul, 1) := q_o104 (by decide +kernel)
theorem dX10_step_45 : decode cX10_step 45 = .ok (.iload_n 3, 1) := q_o29 (by decide +kernel)
theorem dX10_step_46 : decode cX10_step 46 = .ok (.iadd, 1) := q_o96 (by decide +kernel)
theorem dX10_step_47 : decode cX10_step 47 = .ok (.iaload, 1) := q_o46 (by decide +kernel)
theorem dX10_step_48 : decode cX10_step 48 = .ok (.goto 6, 3) := q_o167 (a := 0) (b := 6) (by decide +kernel) rfl
theorem dX10_step_51 : decode cX10_step 51 = .ok (.ldc_w 358, 3) := by decide +kernel
theorem dX10_step_54 : decode cX10_step 54 = .ok (.ireturn, 1) := q_o172 (by decide +kernel)
theorem dX10_supplied_0 : decode cX10_supplied 0 = .ok (.iconst 0, 1) := q_o3 (by decide +kernel)
theorem dX10_supplied_1 : decode cX10_supplied 1 = .ok (.istore_n 1, 1) := q_o60 (by decide +kernel)
theorem dX10_supplied_2 : decode cX10_supplied 2 = .ok (.iconst 0, 1) := q_o3 (by decide +kernel)
theorem dX10_supplied_3 : decode cX10_supplied 3 = .ok (.istore_n 2, 1) := q_o61 (by decide +kernel)
theorem dX10_supplied_4 : decode cX10_supplied 4 = .ok (.iload_n 2, 1) := q_o28 (by decide +kernel)
theorem dX10_supplied_5 : decode cX10_supplied 5 = .ok (.aload_n 0, 1) := q_o42 (by decide +kernel)
theorem dX10_supplied_6 : decode cX10_supplied 6 = .ok (.getfield 132, 3) := q_o180 (a := 0) (b := 132) (by decide +kernel)
theorem dX10_supplied_9 : decode cX10_supplied 9 = .ok (.if_icmp .ge 40, 3) := q_o162 (a := 0) (b := 40) (by decide +kernel) rfl
theorem dX10_supplied_12 : decode cX10_supplied 12 = .ok (.iload_n 1, 1) := q_o27 (by decide +kernel)
theorem dX10_supplied_13 : decode cX10_supplied 13 = .ok (.aload_n 0, 1) := q_o42 (by decide +kernel)
theorem dX10_supplied_14 : decode cX10_supplied 14 = .ok (.iload_n 2, 1) := q_o28 (by decide +kernel)
theorem dX10_supplied_15 : decode cX10_supplied 15 = .ok (.invokevirtual 270, 3) := q_o182 (a := 1) (b := 14) (by decide +kernel)
theorem dX10_supplied_18 : decode cX10_supplied 18 = .ok (.ifCond .eq 22, 3) := q_o153 (a := 0) (b := 22) (by decide +kernel) rfl
theorem dX10_supplied_21 : decode cX10_supplied 21 = .ok (.aload_n 0, 1) := q_o42 (by decide +kernel)
theorem dX10_supplied_22 : decode cX10_supplied 22 = .ok (.getfield 31, 3) := q_o180 (a := 0) (b := 31) (by decide +kernel)
theorem dX10_supplied_25 : decode cX10_supplied 25 = .ok (.bipush 72, 2) := q_o16 (a := 72) (by decide +kernel) rfl
theorem dX10_supplied_27 : decode cX10_supplied 27 = .ok (.iload_n 2, 1) := q_o28 (by decide +kernel)
theorem dX10_supplied_28 : decode cX10_supplied 28 = .ok (.iadd, 1) := q_o96 (by decide +kernel)
theorem dX10_supplied_29 : decode cX10_supplied 29 = .ok (.iaload, 1) := q_o46 (by decide +kernel)
theorem dX10_supplied_30 : decode cX10_supplied 30 = .ok (.iconst 1, 1) := q_o4 (by decide +kernel)
theorem dX10_supplied_31 : decode cX10_supplied 31 = .ok (.if_icmp .ne 9, 3) := q_o160 (a := 0) (b := 9) (by decide +kernel) rfl
theorem dX10_supplied_34 : decode cX10_supplied 34 = .ok (.iconst 1, 1) := q_o4 (by decide +kernel)
theorem dX10_supplied_35 : decode cX10_supplied 35 = .ok (.iload_n 2, 1) := q_o28 (by decide +kernel)
theorem dX10_supplied_36 : decode cX10_supplied 36 = .ok (.ishl, 1) := by decide +kernel
theorem dX10_supplied_37 : decode cX10_supplied 37 = .ok (.goto 4, 3) := q_o167 (a := 0) (b := 4) (by decide +kernel) rfl
theorem dX10_supplied_40 : decode cX10_supplied 40 = .ok (.iconst 0, 1) := q_o3 (by decide +kernel)
theorem dX10_supplied_41 : decode cX10_supplied 41 = .ok (.ior, 1) := by decide +kernel
theorem dX10_supplied_42 : decode cX10_supplied 42 = .ok (.istore_n 1, 1) := q_o60 (by decide +kernel)
theorem dX10_supplied_43 : decode cX10_supplied 43 = .ok (.iinc 2 1, 3) := q_o132 (a := 2) (b := 1) (by decide +kernel) rfl
theorem dX10_supplied_46 : decode cX10_supplied 46 = .ok (.goto (-42), 3) := q_o167 (a := 255) (b := 214) (by decide +kernel) rfl
theorem dX10_supplied_49 : decode cX10_supplied 49 = .ok (.iload_n 1, 1) := q_o27 (by decide +kernel)
theorem dX10_supplied_50 : decode cX10_supplied 50 = .ok (.ireturn, 1) := q_o172 (by decide +kernel)
theorem dX10_told_0 : decode cX10_told 0 = .ok (.aload_n 0, 1) := q_o42 (by decide +kernel)
theorem dX10_told_1 : decode cX10_told 1 = .ok (.iload_n 1, 1) := q_o27 (by decide +kernel)
theorem dX10_told_2 : decode cX10_told 2 = .ok (.invokevirtual 139, 3) := q_o182 (a := 0) (b := 139) (by decide +kernel)
theorem dX10_told_5 : decode cX10_told 5 = .ok (.ifCond .eq 12, 3) := q_o153 (a := 0) (b := 12) (by decide +kernel) rfl
theorem dX10_told_8 : decode cX10_told 8 = .ok (.iload_n 2, 1) := q_o28 (by decide +kernel)
theorem dX10_told_9 : decode cX10_told 9 = .ok (.iconst 0, 1) := q_o3 (by decide +kernel)
theorem dX10_told_10 : decode cX10_told 10 = .ok (.iconst 5, 1) := q_o8 (by decide +kernel)
theorem dX10_told_11 : decode cX10_told 11 = .ok (.invokestatic 63, 3) := q_o184 (a := 0) (b := 63) (by decide +kernel)
theorem dX10_told_14 : decode cX10_told 14 = .ok (.ifCond .ne 5, 3) := q_o154 (a := 0) (b := 5) (by decide +kernel) rfl
theorem dX10_told_17 : decode cX10_told 17 = .ok (.iconst (-1), 1) := q_o2 (by decide +kernel)
theorem dX10_told_18 : decode cX10_told 18 = .ok (.ireturn, 1) := q_o172 (by decide +kernel)
theorem dX10_told_19 : decode cX10_told 19 = .ok (.iload_n 2, 1) := q_o28 (by decide +kernel)
theorem dX10_told_20 : decode cX10_told 20 = .ok (.iconst 5, 1) := q_o8 (by decide +kernel)
theorem dX10_told_21 : decode cX10_told 21 = .ok (.if_icmp .ne 15, 3) := q_o160 (a := 0) (b := 15) (by decide +kernel) rfl
theorem dX10_told_24 : decode cX10_told 24 = .ok (.aload_n 0, 1) := q_o42 (by decide +kernel)
theorem dX10_told_25 : decode cX10_told 25 = .ok (.getfield 31, 3) := q_o180 (a := 0) (b := 31) (by decide +kernel)
theorem dX10_told_28 : decode cX10_told 28 = .ok (.bipush 80, 2) := q_o16 (a := 80) (by decide +kernel) rfl
theorem dX10_told_30 : decode cX10_told 30 = .ok (.iload_n 1, 1) := q_o27 (by decide +kernel)
theorem dX10_told_31 : decode cX10_told 31 = .ok (.iadd, 1) := q_o96 (by decide +kernel)
theorem dX10_told_32 : decode cX10_told 32 = .ok (.iaload, 1) := q_o46 (by decide +kernel)
theorem dX10_told_33 : decode cX10_told 33 = .ok (.goto 9, 3) := q_o167 (a := 0) (b := 9) (by decide +kernel) rfl
theorem dX10_told_36 : decode cX10_told 36 = .ok (.aload_n 0, 1) := q_o42 (by decide +kernel)
theorem dX10_told_37 : decode cX10_told 37 = .ok (.iload_n 1, 1) := q_o27 (by decide +kernel)
theorem dX10_told_38 : decode cX10_told 38 = .ok (.iload_n 2, 1) := q_o28 (by decide +kernel)
theorem dX10_told_39 : decode cX10_told 39 = .ok (.invokevirtual 142, 3) := q_o182 (a := 0) (b := 142) (by decide +kernel)
theorem dX10_told_42 : decode cX10_told 42 = .ok (.ireturn, 1) := q_o172 (by decide +kernel)
theorem dX10_tryOne_0 : decode cX10_tryOne 0 = .ok (.aload_n 0, 1) := q_o42 (by decide +kernel)
theorem dX10_tryOne_1 : decode cX10_tryOne 1 = .ok (.iload_n 1, 1) := q_o27 (by decide +kernel)
theorem dX10_tryOne_2 : decode cX10_tryOne 2 = .ok (.iload_n 2, 1) := q_o28 (by decide +kernel)
theorem dX10_tryOne_3 : decode cX10_tryOne 3 = .ok (.iload_n 3, 1) := q_o29 (by decide +kernel)
theorem dX10_tryOne_4 : decode cX10_tryOne 4 = .ok (.iload 4, 2) := q_o21 (a := 4) (by decide +kernel)
theorem dX10_tryOne_6 : decode cX10_tryOne 6 = .ok (.invokevirtual 331, 3) := q_o182 (a := 1) (b := 75) (by decide +kernel)
theorem dX10_tryOne_9 : decode cX10_tryOne 9 = .ok (.iconst (-1), 1) := q_o2 (by decide +kernel)
theorem dX10_tryOne_10 : decode cX10_tryOne 10 = .ok (.if_icmp .ne 13, 3) := q_o160 (a := 0) (b := 13) (by decide +kernel) rfl
theorem dX10_tryOne_13 : decode cX10_tryOne 13 = .ok (.aload_n 0, 1) := q_o42 (by decide +kernel)
theorem dX10_tryOne_14 : decode cX10_tryOne 14 = .ok (.iload_n 1, 1) := q_o27 (by decide +kernel)
theorem dX10_tryOne_15 : decode cX10_tryOne 15 = .ok (.iload_n 2, 1) := q_o28 (by decide +kernel)
theorem dX10_tryOne_16 : decode cX10_tryOne 16 = .ok (.iload_n 3, 1) := q_o29 (by decide +kernel)
theorem dX10_tryOne_17 : decode cX10_tryOne 17 = .ok (.iload 4, 2) := q_o21 (a := 4) (by decide +kernel)
theorem dX10_tryOne_19 : decode cX10_tryOne 19 = .ok (.invokevirtual 334, 3) := q_o182 (a := 1) (b := 78) (by decide +kernel)
theorem dX10_tryOne_22 : decode cX10_tryOne 22 = .ok (.pop, 1) := q_o87 (by decide +kernel)
theorem dX10_tryOne_23 : decode cX10_tryOne 23 = .ok (.return_, 1) := q_o177 (by decide +kernel)
theorem dX10_undo_0 : decode cX10_undo 0 = .ok (.aload_n 0, 1) := q_o42 (by decide +kernel)
theorem dX10_undo_1 : decode cX10_undo 1 = .ok (.getfield 151, 3) := q_o180 (a := 0) (b := 151) (by decide +kernel)
theorem dX10_undo_4 : decode cX10_undo 4 = .ok (.ifCond .ne 5, 3) := q_o154 (a := 0) (b := 5) (by decide +kernel) rfl
theorem dX10_undo_7 : decode cX10_undo 7 = .ok (.iconst (-1), 1) := q_o2 (by decide +kernel)
theorem dX10_undo_8 : decode cX10_undo 8 = .ok (.ireturn, 1) := q_o172 (by decide +kernel)
theorem dX10_undo_9 : decode cX10_undo 9 = .ok (.aload_n 0, 1) := q_o42 (by decide +kernel)
theorem dX10_undo_10 : decode cX10_undo 10 = .ok (.dup, 1) := q_o89 (by decide +kernel)
theorem dX10_undo_11 : decode cX10_undo 11 = .ok (.getfield 151, 3) := q_o180 (a := 0) (b := 151) (by decide +kernel)
theorem dX10_undo_14 : decode cX10_undo 14 = .ok (.iconst 1, 1) := q_o4 (by decide +kernel)
theorem dX10_undo_15 : decode cX10_undo 15 = .ok (.isub, 1) := q_o100 (by decide +kernel)
theorem dX10_undo_16 : decode cX10_undo 16 = .ok (.putfield 151, 3) := q_o181 (a := 0) (b := 151) (by decide +kernel)
theorem dX10_undo_19 : decode cX10_undo 19 = .ok (.iconst 0, 1) := q_o3 (by decide +kernel)
theorem dX10_undo_20 : decode cX10_undo 20 = .ok (.istore_n 1, 1) := q_o60 (by decide +kernel)
theorem dX10_undo_21 : decode cX10_undo 21 = .ok (.iload_n 1, 1) := q_o27 (by decide +kernel)
theorem dX10_undo_22 : decode cX10_undo 22 = .ok (.sipush 279, 3) := q_o17 (a := 1) (b := 23) (by decide +kernel) rfl
theorem dX10_undo_25 : decode cX10_undo 25 = .ok (.if_icmp .ge 30, 3) := q_o162 (a := 0) (b := 30) (by decide +kernel) rfl
theorem dX10_undo_28 : decode cX10_undo 28 = .ok (.aload_n 0, 1) := q_o42 (by decide +kernel)
theorem dX10_undo_29 : decode cX10_undo 29 = .ok (.getfield 31, 3) := q_o180 (a := 0) (b := 31) (by decide +kernel)
theorem dX10_undo_32 : decode cX10_undo 32 = .ok (.iload_n 1, 1) := q_o27 (by decide +kernel)
theorem dX10_undo_33 : decode cX10_undo 33 = .ok (.aload_n 0, 1) := q_o42 (by decide +kernel)
theorem dX10_undo_34 : decode cX10_undo 34 = .ok (.getfield 37, 3) := q_o180 (a := 0) (b := 37) (by decide +kernel)
theorem dX10_undo_37 : decode cX10_undo 37 = .ok (.sipush 279, 3) := q_o17 (a := 1) (b := 23) (by decide +kernel) rfl
theorem dX10_undo_40 : decode cX10_undo 40 = .ok (.aload_n 0, 1) := q_o42 (by decide +kernel)
theorem dX10_undo_41 : decode cX10_undo 41 = .ok (.getfield 151, 3) := q_o180 (a := 0) (b := 151) (by decide +kernel)
theorem dX10_undo_44 : decode cX10_undo 44 = .ok (.imul, 1) := q_o104 (by decide +kernel)
theorem dX10_undo_45 : decode cX10_undo 45 = .ok (.iload_n 1, 1) := q_o27 (by decide +kernel)
theorem dX10_undo_46 : decode cX10_undo 46 = .ok (.iadd, 1) := q_o96 (by decide +kernel)
theorem dX10_undo_47 : decode cX10_undo 47 = .ok (.iaload, 1) := q_o46 (by decide +kernel)
theorem dX10_undo_48 : decode cX10_undo 48 = .ok (.iastore, 1) := q_o79 (by decide +kernel)
theorem dX10_undo_49 : decode cX10_undo 49 = .ok (.iinc 1 1, 3) := q_o132 (a := 1) (b := 1) (by decide +kernel) rfl
theorem dX10_undo_52 : decode cX10_undo 52 = .ok (.goto (-31), 3) := q_o167 (a := 255) (b := 225) (by decide +kernel) rfl
theorem dX10_undo_55 : decode cX10_undo 55 = .ok (.aload_n 0, 1) := q_o42 (by decide +kernel)
theorem dX10_undo_56 : decode cX10_undo 56 = .ok (.getfield 151, 3) := q_o180 (a := 0) (b := 151) (by decide +kernel)
theorem dX10_undo_59 : decode cX10_undo 59 = .ok (.ireturn, 1) := q_o172 (by decide +kernel)
theorem dX10_when_0 : decode cX10_when 0 = .ok (.aload_n 0, 1) := q_o42 (by decide +kernel)
theorem dX10_when_1 : decode cX10_when 1 = .ok (.iload_n 1, 1) := q_o27 (by decide +kernel)
theorem dX10_when_2 : decode cX10_when 2 = .ok (.invokevirtual 139, 3) := q_o182 (a := 0) (b := 139) (by decide +kernel)
theorem dX10_when_5 : decode cX10_when 5 = .ok (.ifCond .eq 11, 3) := q_o153 (a := 0) (b := 11) (by decide +kernel) rfl
theorem dX10_when_8 : decode cX10_when 8 = .ok (.aload_n 0, 1) := q_o42 (by decide +kernel)
theorem dX10_when_9 : decode cX10_when 9 = .ok (.iload_n 1, 1) := q_o27 (by decide +kernel)
theorem dX10_when_10 : decode cX10_when 10 = .ok (.invokevirtual 145, 3) := q_o182 (a := 0) (b := 145) (by decide +kernel)
theorem dX10_when_13 : decode cX10_when 13 = .ok (.ifCond .ne 5, 3) := q_o154 (a := 0) (b := 5) (by decide +kernel) rfl
theorem dX10_when_16 : decode cX10_when 16 = .ok (.iconst (-1), 1) := q_o2 (by decide +kernel)
theorem dX10_when_17 : decode cX10_when 17 = .ok (.ireturn, 1) := q_o172 (by decide +kernel)
theorem dX10_when_18 : decode cX10_when 18 = .ok (.aload_n 0, 1) := q_o42 (by decide +kernel)
theorem dX10_when_19 : decode cX10_when 19 = .ok (.invokevirtual 359, 3) := q_o182 (a := 1) (b := 103) (by decide +kernel)
theorem dX10_when_22 : decode cX10_when 22 = .ok (.aload_n 0, 1) := q_o42 (by decide +kernel)
theorem dX10_when_23 : decode cX10_when 23 = .ok (.iload_n 1, 1) := q_o27 (by decide +kernel)
theorem dX10_when_24 : decode cX10_when 24 = .ok (.invokevirtual 362, 3) := q_o182 (a := 1) (b := 106) (by decide +kernel)
theorem dX10_when_27 : decode cX10_when 27 = .ok (.istore_n 2, 1) := q_o61 (by decide +kernel)
theorem dX10_when_28 : decode cX10_when 28 = .ok (.aload_n 0, 1) := q_o42 (by decide +kernel)
theorem dX10_when_29 : decode cX10_when 29 = .ok (.invokevirtual 365, 3) := q_o182 (a := 1) (b := 109) (by decide +kernel)
theorem dX10_when_32 : decode cX10_when 32 = .ok (.iload_n 2, 1) := q_o28 (by decide +kernel)
theorem dX10_when_33 : decode cX10_when 33 = .ok (.ireturn, 1) := q_o172 (by decide +kernel)
theorem dX10_whenAt_0 : decode cX10_whenAt 0 = .ok (.aload_n 0, 1) := q_o42 (by decide +kernel)
theorem dX10_whenAt_1 : decode cX10_whenAt 1 = .ok (.invokevirtual 359, 3) := q_o182 (a := 1) (b := 103) (by decide +kernel)
theorem dX10_whenAt_4 : decode cX10_whenAt 4 = .ok (.aload_n 0, 1) := q_o42 (by decide +kernel)
theorem dX10_whenAt_5 : decode cX10_whenAt 5 = .ok (.iload_n 1, 1) := q_o27 (by decide +kernel)
theorem dX10_whenAt_6 : decode cX10_whenAt 6 = .ok (.iload_n 2, 1) := q_o28 (by decide +kernel)
theorem dX10_whenAt_7 : decode cX10_whenAt 7 = .ok (.iload_n 3, 1) := q_o29 (by decide +kernel)
theorem dX10_whenAt_8 : decode cX10_whenAt 8 = .ok (.invokevirtual 309, 3) := q_o182 (a := 1) (b := 53) (by decide +kernel)
theorem dX10_whenAt_11 : decode cX10_whenAt 11 = .ok (.pop, 1) := q_o87 (by decide +kernel)
theorem dX10_whenAt_12 : decode cX10_whenAt 12 = .ok (.aload_n 0, 1) := q_o42 (by decide +kernel)
theorem dX10_whenAt_13 : decode cX10_whenAt 13 = .ok (.iload_n 1, 1) := q_o27 (by decide +kernel)
theorem dX10_whenAt_14 : decode cX10_whenAt 14 = .ok (.invokevirtual 362, 3) := q_o182 (a := 1) (b := 106) (by decide +kernel)
theorem dX10_whenAt_17 : decode cX10_whenAt 17 = .ok (.istore 4, 2) := q_o54 (a := 4) (by decide +kernel)
theorem dX10_whenAt_19 : decode cX10_whenAt 19 = .ok (.aload_n 0, 1) := q_o42 (by decide +kernel)
theorem dX10_whenAt_20 : decode cX10_whenAt 20 = .ok (.invokevirtual 365, 3) := q_o182 (a := 1) (b := 109) (by decide +kernel)
theorem dX10_whenAt_23 : decode cX10_whenAt 23 = .ok (.iload 4, 2) := q_o21 (a := 4) (by decide +kernel)
theorem dX10_whenAt_25 : decode cX10_whenAt 25 = .ok (.ireturn, 1) := q_o172 (by decide +kernel)
theorem dX10_whenNow_0 : decode cX10_whenNow 0 = .ok (.iconst 0, 1) := q_o3 (by decide +kernel)
theorem dX10_whenNow_1 : decode cX10_whenNow 1 = .ok (.istore_n 2, 1) := q_o61 (by decide +kernel)
theorem dX10_whenNow_2 : decode cX10_whenNow 2 = .ok (.iload_n 2, 1) := q_o28 (by decide +kernel)
theorem dX10_whenNow_3 : decode cX10_whenNow 3 = .ok (.sipush 200, 3) := q_o17 (a := 0) (b := 200) (by decide +kernel) rfl
theorem dX10_whenNow_6 : decode cX10_whenNow 6 = .ok (.if_icmp .gt 40, 3) := q_o163 (a := 0) (b := 40) (by decide +kernel) rfl
theorem dX10_whenNow_9 : decode cX10_whenNow 9 = .ok (.aload_n 0, 1) := q_o42 (by decide +kernel)
theorem dX10_whenNow_10 : decode cX10_whenNow 10 = .ok (.iload_n 1, 1) := q_o27 (by decide +kernel)
theorem dX10_whenNow_11 : decode cX10_whenNow 11 = .ok (.invokevirtual 145, 3) := q_o182 (a := 0) (b := 145) (by decide +kernel)
theorem dX10_whenNow_14 : decode cX10_whenNow 14 = .ok (.bipush 6, 2) := q_o16 (a := 6) (by decide +kernel) rfl
theorem dX10_whenNow_16 : decode cX10_whenNow 16 = .ok (.if_icmp .ne 5, 3) := q_o160 (a := 0) (b := 5) (by decide +kernel) rfl
theorem dX10_whenNow_19 : decode cX10_whenNow 19 = .ok (.iload_n 2, 1) := q_o28 (by decide +kernel)
theorem dX10_whenNow_20 : decode cX10_whenNow 20 = .ok (.ireturn, 1) := q_o172 (by decide +kernel)
theorem dX10_whenNow_21 : decode cX10_whenNow 21 = .ok (.aload_n 0, 1) := q_o42 (by decide +kernel)
theorem dX10_whenNow_22 : decode cX10_whenNow 22 = .ok (.getfield 31, 3) := q_o180 (a := 0) (b := 31) (by decide +kernel)
theorem dX10_whenNow_25 : decode cX10_whenNow 25 = .ok (.bipush 96, 2) := q_o16 (a := 96) (by decide +kernel) rfl
theorem dX10_whenNow_27 : decode cX10_whenNow 27 = .ok (.iaload, 1) := q_o46 (by decide +kernel)
theorem dX10_whenNow_28 : decode cX10_whenNow 28 = .ok (.sipush 9999, 3) := q_o17 (a := 39) (b := 15) (by decide +kernel) rfl
theorem dX10_whenNow_31 : decode cX10_whenNow 31 = .ok (.if_icmp .ne 5, 3) := q_o160 (a := 0) (b := 5) (by decide +kernel) rfl
theorem dX10_whenNow_34 : decode cX10_whenNow 34 = .ok (.iconst (-1), 1) := q_o2 (by decide +kernel)
theorem dX10_whenNow_35 : decode cX10_whenNow 35 = .ok (.ireturn, 1) := q_o172 (by decide +kernel)
theorem dX10_whenNow_36 : decode cX10_whenNow 36 = .ok (.aload_n 0, 1) := q_o42 (by decide +kernel)
theorem dX10_whenNow_37 : decode cX10_whenNow 37 = .ok (.invokevirtual 306, 3) := q_o182 (a := 1) (b := 50) (by decide +kernel)
theorem dX10_whenNow_40 : decode cX10_whenNow 40 = .ok (.iinc 2 1, 3) := q_o132 (a := 2) (b := 1) (by decide +kernel) rfl
theorem dX10_whenNow_43 : decode cX10_whenNow 43 = .ok (.goto (-41), 3) := q_o167 (a := 255) (b := 215) (by decide +kernel) rfl
theorem dX10_whenNow_46 : decode cX10_whenNow 46 = .ok (.iconst (-1), 1) := q_o2 (by decide +kernel)
theorem dX10_whenNow_47 : decode cX10_whenNow 47 = .ok (.ireturn, 1) := q_o172 (by decide +kernel)
theorem dX10_years_0 : decode cX10_years 0 = .ok (.aload_n 0, 1) := q_o42 (by decide +kernel)
theorem dX10_years_1 : decode cX10_years 1 = .ok (.invokevirtual 135, 3) := q_o182 (a := 0) (b := 135) (by decide +kernel)
theorem dX10_years_4 : decode cX10_years 4 = .ok (.ifCond .eq 13, 3) := q_o153 (a := 0) (b := 13) (by decide +kernel) rfl
theorem dX10_years_7 : decode cX10_years 7 = .ok (.iload_n 1, 1) := q_o27 (by decide +kernel)
theorem dX10_years_8 : decode cX10_years 8 = .ok (.iconst 1, 1) := q_o4 (by decide +kernel)
theorem dX10_years_9 : decode cX10_years 9 = .ok (.bipush 40, 2) := q_o16 (a := 40) (by decide +kernel) rfl
theorem dX10_years_11 : decode cX10_years 11 = .ok (.invokestatic 63, 3) := q_o184 (a := 0) (b := 63) (by decide +kernel)
theorem dX10_years_14 : decode cX10_years 14 = .ok (.ifCond .ne 5, 3) := q_o154 (a := 0) (b := 5) (by decide +kernel) rfl
theorem dX10_years_17 : decode cX10_years 17 = .ok (.iconst (-1), 1) := q_o2 (by decide +kernel)
theorem dX10_years_18 : decode cX10_years 18 = .ok (.ireturn, 1) := q_o172 (by decide +kernel)
theorem dX10_years_19 : decode cX10_years 19 = .ok (.aload_n 0, 1) := q_o42 (by decide +kernel)
theorem dX10_years_20 : decode cX10_years 20 = .ok (.lload_n 2, 1) := by decide +kernel
theorem dX10_years_21 : decode cX10_years 21 = .ok (.putfield 340, 3) := q_o181 (a := 1) (b := 84) (by decide +kernel)
theorem dX10_years_24 : decode cX10_years 24 = .ok (.iconst 0, 1) := q_o3 (by decide +kernel)
theorem dX10_years_25 : decode cX10_years 25 = .ok (.istore 4, 2) := q_o54 (a := 4) (by decide +kernel)
theorem dX10_years_27 : decode cX10_years 27 = .ok (.iload 4, 2) := q_o21 (a := 4) (by decide +kernel)
theorem dX10_years_29 : decode cX10_years 29 = .ok (.iload_n 1, 1) := q_o27 (by decide +kernel)
theorem dX10_years_30 : decode cX10_years 30 = .ok (.if_icmp .ge 13, 3) := q_o162 (a := 0) (b := 13) (by decide +kernel) rfl
theorem dX10_years_33 : decode cX10_years 33 = .ok (.aload_n 0, 1) := q_o42 (by decide +kernel)
theorem dX10_years_34 : decode cX10_years 34 = .ok (.invokevirtual 355, 3) := q_o182 (a := 1) (b := 99) (by decide +kernel)
theorem dX10_years_37 : decode cX10_years 37 = .ok (.iinc 4 1, 3) := q_o132 (a := 4) (b := 1) (by decide +kernel) rfl
theorem dX10_years_40 : decode cX10_years 40 = .ok (.goto (-13), 3) := q_o167 (a := 255) (b := 243) (by decide +kernel) rfl
theorem dX10_years_43 : decode cX10_years 43 = .ok (.aload_n 0, 1) := q_o42 (by decide +kernel)
theorem dX10_years_44 : decode cX10_years 44 = .ok (.getfield 31, 3) := q_o180 (a := 0) (b := 31) (by decide +kernel)
theorem dX10_years_47 : decode cX10_years 47 = .ok (.bipush 96, 2) := q_o16 (a := 96) (by decide +kernel) rfl
theorem dX10_years_49 : decode cX10_years 49 = .ok (.iaload, 1) := q_o46 (by decide +kernel)
theorem dX10_years_50 : decode cX10_years 50 = .ok (.ireturn, 1) := q_o172 (by decide +kernel)
theorem hdS_yX10_actOf_1 : yX10_actOf.cls ≠ "java/lang/invoke/MethodHandle" ∧ yX10_actOf.cls ≠ "java/lang/invoke/VarHandle" ∧ (parseMethodDescriptor yX10_actOf.desc).map (fun d => d.parameters.length) = some 1 := by decide +kernel
theorem hdV_yX10_bringBack_0 : yX10_bringBack.cls = RX10 ∧ yX10_bringBack.cls ≠ "java/lang/invoke/MethodHandle" ∧ yX10_bringBack.cls ≠ "java/lang/invoke/VarHandle" ∧ (parseMethodDescriptor yX10_bringBack.desc).map (fun d => d.parameters.length) = some 0 := by decide +kernel
theorem hdV_yX10_deepest_0 : yX10_deepest.cls = RX10 ∧ yX10_deepest.cls ≠ "java/lang/invoke/MethodHandle" ∧ yX10_deepest.cls ≠ "java/lang/invoke/VarHandle" ∧ (parseMethodDescriptor yX10_deepest.desc).map (fun d => d.parameters.length) = some 0 := by decide +kernel
theorem hdV_yX10_drawYear_0 : yX10_drawYear.cls = RX10 ∧ yX10_drawYear.cls ≠ "java/lang/invoke/MethodHandle" ∧ yX10_drawYear.cls ≠ "java/lang/invoke/VarHandle" ∧ (parseMethodDescriptor yX10_drawYear.desc).map (fun d => d.parameters.length) = some 0 := by decide +kernel
theorem hdV_yX10_draw_1 : yX10_draw.cls = RX10 ∧ yX10_draw.cls ≠ "java/lang/invoke/MethodHandle" ∧ yX10_draw.cls ≠ "java/lang/invoke/VarHandle" ∧ (parseMethodDescriptor yX10_draw.desc).map (fun d => d.parameters.length) = some 1 := by decide +kernel
theorem hdV_yX10_freeAddresses_0 : yX10_freeAddresses.cls = RX10 ∧ yX10_freeAddresses.cls ≠ "java/lang/invoke/MethodHandle" ∧ yX10_freeAddresses.cls ≠ "java/lang/invoke/VarHandle" ∧ (parseMethodDescriptor yX10_freeAddresses.desc).map (fun d => d.parameters.length) = some 0 := by decide +kernel
theorem hdV_yX10_goSteps_2 : yX10_goSteps.cls = RX10 ∧ yX10_goSteps.cls ≠ "java/lang/invoke/MethodHandle" ∧ yX10_goSteps.cls ≠ "java/lang/invoke/VarHandle" ∧ (parseMethodDescriptor yX10_goSteps.desc).map (fun d => d.parameters.length) = some 2 := by decide +kernel
theorem hdV_yX10_isScript_1 : yX10_isScript.cls = RX10 ∧ yX10_isScript.cls ≠ "java/lang/invoke/MethodHandle" ∧ yX10_isScript.cls ≠ "java/lang/invoke/VarHandle" ∧ (parseMethodDescriptor yX10_isScript.desc).map (fun d => d.parameters.length) = some 1 := by decide +kernel
theorem hdV_yX10_isStill_0 : yX10_isStill.cls = RX10 ∧ yX10_isStill.cls ≠ "java/lang/invoke/MethodHandle" ∧ yX10_isStill.cls ≠ "java/lang/invoke/VarHandle" ∧ (parseMethodDescriptor yX10_isStill.desc).map (fun d => d.parameters.length) = some 0 := by decide +kernel
theorem hdV_yX10_putAside_0 : yX10_putAside.cls = RX10 ∧ yX10_putAside.cls ≠ "java/lang/invoke/MethodHandle" ∧ yX10_putAside.cls ≠ "java/lang/invoke/VarHandle" ∧ (parseMethodDescriptor yX10_putAside.desc).map (fun d => d.parameters.length) = some 0 := by decide +kernel
theorem hdV_yX10_sleepers_1 : yX10_sleepers.cls = RX10 ∧ yX10_sleepers.cls ≠ "java/lang/invoke/MethodHandle" ∧ yX10_sleepers.cls ≠ "java/lang/invoke/VarHandle" ∧ (parseMethodDescriptor yX10_sleepers.desc).map (fun d => d.parameters.length) = some 1 := by decide +kernel
theorem hdV_yX10_supplied_0 : yX10_supplied.cls = RX10 ∧ yX10_supplied.cls ≠ "java/lang/invoke/MethodHandle" ∧ yX10_supplied.cls ≠ "java/lang/invoke/VarHandle" ∧ (parseMethodDescriptor yX10_supplied.desc).map (fun d => d.parameters.length) = some 0 := by decide +kernel
theorem hdV_yX10_tryOne_4 : yX10_tryOne.cls = RX10 ∧ yX10_tryOne.cls ≠ "java/lang/invoke/MethodHandle" ∧ yX10_tryOne.cls ≠ "java/lang/invoke/VarHandle" ∧ (parseMethodDescriptor yX10_tryOne.desc).map (fun d => d.parameters.length) = some 4 := by decide +kernel
theorem hdV_yX10_whenAt_3 : yX10_whenAt.cls = RX10 ∧ yX10_whenAt.cls ≠ "java/lang/invoke/MethodHandle" ∧ yX10_whenAt.cls ≠ "java/lang/invoke/VarHandle" ∧ (parseMethodDescriptor yX10_whenAt.desc).map (fun d => d.parameters.length) = some 3 := by decide +kernel
theorem hdV_yX10_whenNow_1 : yX10_whenNow.cls = RX10 ∧ yX10_whenNow.cls ≠ "java/lang/invoke/MethodHandle" ∧ yX10_whenNow.cls ≠ "java/lang/invoke/VarHandle" ∧ (parseMethodDescriptor yX10_whenNow.desc).map (fun d => d.parameters.length) = some 1 := by decide +kernel
def F_X10_draw (dn : Int64) (z1 : Int32) : Option (Int32 × Int64) := (if ¬ ((z1 : Int32).toInt64) = 0 then some (((((((((dn * (6364136223846793005)) + (1442695040888963407))).toUInt64 >>> ((33 : Int32).toInt64.toUInt64 &&& Int64.toUInt64 63)).toInt64) - (((((dn * (6364136223846793005)) + (1442695040888963407))).toUInt64 >>> ((33 : Int32).toInt64.toUInt64 &&& Int64.toUInt64 63)).toInt64) / ((z1 : Int32).toInt64) * ((z1 : Int32).toInt64))).toInt32), ((dn * (6364136223846793005)) + (1442695040888963407))) else none)
set_option maxHeartbeats 4000000 in
set_option maxRecDepth 100000 in
theorem c_X10_draw (l : Launch) (dC : Nat → ClassId) (dI : Nat → Nat → Nat) (bm : Nat → Nat) (km : Nat → ClassId) (th : Int32) (tn : Int32) (at_ : Int32) (wr : Int32) (rm_ : Int32) (mn : Int32) (sn : Int32) (ac : Int32) (hi : Int32) (dn : Int64) (z1 : Int32) (A : Nat → Prop) (o : Int32 × Int64) (hG : F_X10_draw dn z1 = some o) : Met l yX10_draw (.code yX10_draw cX10_draw 2 (some .int) :: wA) ({ frames := 0, cells := 0, slots := 0, locals := 0 }) (va_Pc [.ref (bm 0), .int z1] (q_W (dC, dI) A [((bm 0), .inr (10, [.int th, .ref (bm 1), .int tn, .int at_, .int wr, .ref (bm 2), .ref (bm 3), .int rm_, .ref (bm 4), .ref (bm 5), .int mn, .ref (bm 6), .ref (bm 7), .int sn, .ref (bm 8), .ref (bm 9), .ref (bm 10), .int ac, .long dn, .ref (bm 11), .ref (bm 12), .ref (bm 13), .ref (bm 14), .int hi]))] [])) (va_Qi (fun (r : Int32) (_ : Unit) => r = o.1 ∧ True) (fun (_ : Unit) t => q_B (dC, dI) A [((bm 0), .inr (10, [.int th, .ref (bm 1), .int tn, .int at_, .int wr, .ref (bm 2), .ref (bm 3), .int rm_, .ref (bm 4), .ref (bm 5), .int mn, .ref (bm 6), .ref (bm 7), .int sn, .ref (bm 8), .ref (bm 9), .ref (bm 10), .int ac, .long (o.2), .ref (bm 11), .ref (bm 12), .ref (bm 13), .ref (bm 14), .int hi]))] [] t) A) 0 0 A := by
  refine Met.ofW (cc := cX10_draw) (maxL := 2) (ret := (some .int)) (by decide) rfl ?_
  intro p e s m args below meth c s₁ B hml hv
  obtain ⟨rfl, hP, hK, hD, hA⟩ := hv
  have hx := B.exec
  have hb := B.bytes
  have hr := B.returns
  have hts := atoms_spec (ws := .code yX10_draw cX10_draw 2 (some .int) :: wA) B.pre
  have hown : s.vm.findClass RX10 = some m.cls := findClass_of_methodNamed B.named
  have hlocks := B.notSynchronized
  have hS : va_S A s.heap s.heap [] := va_S.rf
  have hl := lv_entry ([.ref (bm 0), .int z1]) (n := 2) (Nat.le_of_ble_eq_true rfl)
  rw [lg_entry_eq]
  generalize (lg_sl ([.ref (bm 0), .int z1]) ++ List.replicate (2 - (lg_sl ([.ref (bm 0), .int z1])).length) Slot.unset).toArray = ls at hl ⊢
  have hl : lv_has ls 2 [(0, .ref (bm 0)), (1, .int z1)] := hl
  unfold F_X10_draw at hG
  refine lv_aload_n hx hb dX10_draw_0 rfl (lv_at hl 0 rfl) ?_
  refine lv_aload_n hx hb dX10_draw_1 rfl (lv_at hl 0 rfl) ?_
  refine va_get (D := (dC, dI)) (ci := 10) (v := .long dn) (C := RX10) (T := TX10) (N := 24) hx hb hts iA_10 hown hK hP 0 rfl rfl 18 (by decide) (hts (.fieldLink RX10 340 "HubTreeModel" "drawn" "J") (List.mem_cons_of_mem _ m_1102)) (fun _ h9 => h9) rfl dX10_draw_2 ?_
  refine lv_ldc2 (v := (6364136223846793005)) hx hb hown (hts (.constantLong RX10 344 (6364136223846793005)) (List.mem_cons_of_mem _ m_1111)) dX10_draw_5 ?_
  refine lv_lmul hx hb dX10_draw_8 ?_
  refine lv_ldc2 (v := (1442695040888963407)) hx hb hown (hts (.constantLong RX10 346 (1442695040888963407)) (List.mem_cons_of_mem _ m_1112)) dX10_draw_9 ?_
  refine lv_ladd hx hb dX10_draw_12 ?_
  refine va_put (D := (dC, dI)) (ci := 10) (v := .long ((dn * (6364136223846793005)) + (1442695040888963407))) (ty := .long) (C := RX10) (T := TX10) (N := 24) hx hb hts iA_10 tyX10 tyX10_ok nmX10 hown hK hP hD hS 0 rfl rfl 18 (by decide) (hts (.fieldLink RX10 340 "HubTreeModel" "drawn" "J") (List.mem_cons_of_mem _ m_1102)) (fun _ h9 => h9) rfl (by decide +kernel) rfl rfl (Nat.le_of_ble_eq_true rfl) dX10_draw_13 (fun H locs hP hD hS => ?_)
  have hP : va_P (dC, dI) vwCl [((bm 0), .inr (10, [.int th, .ref (bm 1), .int tn, .int at_, .int wr, .ref (bm 2), .ref (bm 3), .int rm_, .ref (bm 4), .ref (bm 5), .int mn, .ref (bm 6), .ref (bm 7), .int sn, .ref (bm 8), .ref (bm 9), .ref (bm 10), .int ac, .long ((dn * (6364136223846793005)) + (1442695040888963407)), .ref (bm 11), .ref (bm 12), .ref (bm 13), .ref (bm 14), .int hi]))] H := hP
  have hD : va_D A [((bm 0), .inr (10, [.int th, .ref (bm 1), .int tn, .int at_, .int wr, .ref (bm 2), .ref (bm 3), .int rm_, .ref (bm 4), .ref (bm 5), .int mn, .ref (bm 6), .ref (bm 7), .int sn, .ref (bm 8), .ref (bm 9), .ref (bm 10), .int ac, .long ((dn * (6364136223846793005)) + (1442695040888963407)), .ref (bm 11), .ref (bm 12), .ref (bm 13), .ref (bm 14), .int hi]))] := hD
  refine lv_aload_n hx hb dX10_draw_16 rfl (lv_at hl 0 rfl) ?_
  refine va_get (D := (dC, dI)) (ci := 10) (v := .long ((dn * (6364136223846793005)) + (1442695040888963407))) (C := RX10) (T := TX10) (N := 24) hx hb hts iA_10 hown hK hP 0 rfl rfl 18 (by decide) (hts (.fieldLink RX10 340 "HubTreeModel" "drawn" "J") (List.mem_cons_of_mem _ m_1102)) (fun _ h9 => h9) rfl dX10_draw_17 ?_
  refine lv_bipush (v := 33) hx hb dX10_draw_20 (by decide) ?_
  refine lv_lushr hx hb dX10_draw_22 rfl ?_
  refine lv_iload_n hx hb dX10_draw_23 rfl (lv_at hl 1 rfl) ?_
  refine lv_i2l hx hb dX10_draw_24 rfl ?_
  obtain ⟨g_1, hG⟩ := q_gu hG
  refine lv_lrem hx hb dX10_draw_25 g_1 ?_
  refine lv_l2i hx hb dX10_draw_26 rfl ?_
  obtain rfl := Option.some.inj hG
  have hP9 := hP.sub (ws' := [((bm 0), .inr (10, [.int th, .ref (bm 1), .int tn, .int at_, .int wr, .ref (bm 2), .ref (bm 3), .int rm_, .ref (bm 4), .ref (bm 5), .int mn, .ref (bm 6), .ref (bm 7), .int sn, .ref (bm 8), .ref (bm 9), .ref (bm 10), .int ac, .long ((dn * (6364136223846793005)) + (1442695040888963407)), .ref (bm 11), .ref (bm 12), .ref (bm 13), .ref (bm 14), .int hi]))]) [0] rfl
  have hD9 := hD.sub (ws' := [((bm 0), .inr (10, [.int th, .ref (bm 1), .int tn, .int at_, .int wr, .ref (bm 2), .ref (bm 3), .int rm_, .ref (bm 4), .ref (bm 5), .int mn, .ref (bm 6), .ref (bm 7), .int sn, .ref (bm 8), .ref (bm 9), .ref (bm 10), .int ac, .long ((dn * (6364136223846793005)) + (1442695040888963407)), .ref (bm 11), .ref (bm 12), .ref (bm 13), .ref (bm 14), .int hi]))]) [0] (by decide) rfl
  have hK9 := hK.sub (tys' := []) [] rfl
  exact W.iret (v := ((((((((dn * (6364136223846793005)) + (1442695040888963407))).toUInt64 >>> ((33 : Int32).toInt64.toUInt64 &&& Int64.toUInt64 63)).toInt64) - (((((dn * (6364136223846793005)) + (1442695040888963407))).toUInt64 >>> ((33 : Int32).toInt64.toUInt64 &&& Int64.toUInt64 63)).toInt64) / ((z1 : Int32).toInt64) * ((z1 : Int32).toInt64))).toInt32)) hx hb hr (fun t ht hW => ⟨⟨((((((((dn * (6364136223846793005)) + (1442695040888963407))).toUInt64 >>> ((33 : Int32).toInt64.toUInt64 &&& Int64.toUInt64 63)).toInt64) - (((((dn * (6364136223846793005)) + (1442695040888963407))).toUInt64 >>> ((33 : Int32).toInt64.toUInt64 &&& Int64.toUInt64 63)).toInt64) / ((z1 : Int32).toInt64) * ((z1 : Int32).toInt64))).toInt32), (), rfl, ⟨rfl, trivial⟩, by rw [ht]; exact hP9, va_K.moved hW.alike hK9, hD9⟩, hS.F ht⟩) hS.2.2 dX10_draw_27

def F_X10_tryOne (mn : Int32) (ac : Int32) (ru : Nat → Int32) (td : Nat → Int32) (nw : Nat → Int32) (kp : Nat → Int32) (z1 : Int32) (z2 : Int32) (z3 : Int32) (z4 : Int32) : Option (Int32 × (Nat → Int32) × (Nat → Int32)) := ((F_X10_whyNot mn ru td nw z1 z2 z3 z4).bind fun o_1 => (if o_1.1 = (-1) then ((F_X10_act mn ac ru td (o_1.2) kp z1 z2 z3 z4).bind fun o_4 => some ((o_4.2.1), (o_4.2.2.1), (o_4.2.2.2))) else some (ac, (o_1.2), kp)))
set_option maxHeartbeats 4000000 in
set_option maxRecDepth 100000 in
theorem c_X10_tryOne (l : Launch) (dC : Nat → ClassId) (dI : Nat → Nat → Nat) (bm : Nat → Nat) (km : Nat → ClassId) (th : Int32) (tn : Int32) (at_ : Int32) (wr : Int32) (rm_ : Int32) (mn : Int32) (sn : Int32) (ac : Int32) (hi : Int32) (dn : Int64) (ru : Nat → Int32) (td : Nat → Int32) (nw : Nat → Int32) (kp : Nat → Int32) (z1 : Int32) (z2 : Int32) (z3 : Int32) (z4 : Int32) (A : Nat → Prop) (o : Int32 × (Nat → Int32) × (Nat → Int32)) (hG : F_X10_tryOne mn ac ru td nw kp z1 z2 z3 z4 = some o) : Met l yX10_tryOne (.code yX10_tryOne cX10_tryOne 5 none :: wA) ({ frames := 11, cells := 0, slots := 0, locals := 249 }) (va_Pc [.ref (bm 0), .int z1, .int z2, .int z3, .int z4] (q_W (dC, dI) A [((bm 0), .inr (10, [.int th, .ref (bm 1), .int tn, .int at_, .int wr, .ref (bm 2), .ref (bm 3), .int rm_, .ref (bm 4), .ref (bm 5), .int mn, .ref (bm 6), .ref (bm 7), .int sn, .ref (bm 8), .ref (bm 9), .ref (bm 10), .int ac, .long dn, .ref (bm 11), .ref (bm 12), .ref (bm 13), .ref (bm 14), .int hi])), ((bm 4), .inl ((km 4), 8, .inl ru)), ((bm 5), .inl ((km 5), 48, .inl td)), ((bm 8), .inl ((km 8), 279, .inl nw)), ((bm 10), .inl ((km 10), 11160, .inl kp))] [((km 4), .int), ((km 5), .int), ((km 8), .int), ((km 10), .int)])) (va_Qv (fun _ : Unit => True) (fun (_ : Unit) t => q_B (dC, dI) A [((bm 0), .inr (10, [.int th, .ref (bm 1), .int tn, .int at_, .int wr, .ref (bm 2), .ref (bm 3), .int rm_, .ref (bm 4), .ref (bm 5), .int mn, .ref (bm 6), .ref (bm 7), .int sn, .ref (bm 8), .ref (bm 9), .ref (bm 10), .int (o.1), .long dn, .ref (bm 11), .ref (bm 12), .ref (bm 13), .ref (bm 14), .int hi])), ((bm 4), .inl ((km 4), 8, .inl ru)), ((bm 5), .inl ((km 5), 48, .inl td)), ((bm 8), .inl ((km 8), 279, .inl (o.2.1))), ((bm 10), .inl ((km 10), 11160, .inl (o.2.2)))] [((km 4), .int), ((km 5), .int), ((km 8), .int), ((km 10), .int)] t) A) 0 0 A := by
  refine Met.ofW (cc := cX10_tryOne) (maxL := 5) (ret := none) (by decide) rfl ?_
  intro p e s m args below meth c s₁ B hml hv
  obtain ⟨rfl, hP, hK, hD, hA⟩ := hv
  have hx := B.exec
  have hb := B.bytes
  have hr := B.returns
  have hts := atoms_spec (ws := .code yX10_tryOne cX10_tryOne 5 none :: wA) B.pre
  have hown : s.vm.findClass RX10 = some m.cls := findClass_of_methodNamed B.named
  have hlocks := B.notSynchronized
  have hS : va_S A s.heap s.heap [] := va_S.rf
  have hl := lv_entry ([.ref (bm 0), .int z1, .int z2, .int z3, .int z4]) (n := 5) (Nat.le_of_ble_eq_true rfl)
  rw [lg_entry_eq]
  generalize (lg_sl ([.ref (bm 0), .int z1, .int z2, .int z3, .int z4]) ++ List.replicate (5 - (lg_sl ([.ref (bm 0), .int z1, .int z2, .int z3, .int z4])).length) Slot.unset).toArray = ls at hl ⊢
  have hl : lv_has ls 5 [(0, .ref (bm 0)), (1, .int z1), (2, .int z2), (3, .int z3), (4, .int z4)] := hl
  unfold F_X10_tryOne at hG
  refine lv_aload_n hx hb dX10_tryOne_0 rfl (lv_at hl 0 rfl) ?_
  refine lv_iload_n hx hb dX10_tryOne_1 rfl (lv_at hl 1 rfl) ?_
  refine lv_iload_n hx hb dX10_tryOne_2 rfl (lv_at hl 2 rfl) ?_
  refine lv_iload_n hx hb dX10_tryOne_3 rfl (lv_at hl 3 rfl) ?_
  refine lv_iload hx hb dX10_tryOne_4 (lv_at hl 4 rfl) ?_
  obtain ⟨o_1, r_2, hG⟩ := q_bi hG
  refine q_goi2 (v := o_1.1) (wr := [((bm 10), .inl ((km 10), 11160, .inl kp))]) (va_runV (As := [.int z1, .int z2, .int z3, .int z4]) (rest := []) ⟨hx, hb, hml, hown, hts⟩ (c_X10_whyNot l dC dI bm km th tn at_ wr rm_ mn sn ac hi dn ru td nw z1 z2 z3 z4 (va_A [((bm 0), .inr (10, [.int th, .ref (bm 1), .int tn, .int at_, .int wr, .ref (bm 2), .ref (bm 3), .int rm_, .ref (bm 4), .ref (bm 5), .int mn, .ref (bm 6), .ref (bm 7), .int sn, .ref (bm 8), .ref (bm 9), .ref (bm 10), .int ac, .long dn, .ref (bm 11), .ref (bm 12), .ref (bm 13), .ref (bm 14), .int hi])), ((bm 4), .inl ((km 4), 8, .inl ru)), ((bm 5), .inl ((km 5), 48, .inl td)), ((bm 8), .inl ((km 8), 279, .inl nw))] s.heap.size) o_1 r_2) (cwV 4 hts (q_gV m_901 m_902 m_903 m_5 m_904) rfl rfl rfl hdV_yX10_whyNot_4 ⟨Nat.le_of_ble_eq_true rfl, Nat.le_of_ble_eq_true rfl⟩) (q_preWV hK hP hD (q := (RX10, TX10, 24)) (ci := 10) (q0 := 0) rfl rfl [0, 1, 2, 3] (by decide) rfl rfl [0, 1, 2] rfl) rfl rfl hl.1 rfl (lv_room (Nat.le_of_ble_eq_true rfl)) dX10_tryOne_6 ⟨Nat.le_of_ble_eq_true rfl, Nat.le_of_ble_eq_true rfl⟩) hK hP hD hS hA [0, 1, 2, 3] [4] rfl rfl (by decide) (by decide) (fun _ H locs _ hP hD hK9 hS => ?_)
  have hP : va_P (dC, dI) vwCl [((bm 0), .inr (10, [.int th, .ref (bm 1), .int tn, .int at_, .int wr, .ref (bm 2), .ref (bm 3), .int rm_, .ref (bm 4), .ref (bm 5), .int mn, .ref (bm 6), .ref (bm 7), .int sn, .ref (bm 8), .ref (bm 9), .ref (bm 10), .int ac, .long dn, .ref (bm 11), .ref (bm 12), .ref (bm 13), .ref (bm 14), .int hi])), ((bm 4), .inl ((km 4), 8, .inl ru)), ((bm 5), .inl ((km 5), 48, .inl td)), ((bm 8), .inl ((km 8), 279, .inl (o_1.2))), ((bm 10), .inl ((km 10), 11160, .inl kp))] H := hP.sub [1, 2, 3, 4, 0] rfl
  have hD : va_D A [((bm 0), .inr (10, [.int th, .ref (bm 1), .int tn, .int at_, .int wr, .ref (bm 2), .ref (bm 3), .int rm_, .ref (bm 4), .ref (bm 5), .int mn, .ref (bm 6), .ref (bm 7), .int sn, .ref (bm 8), .ref (bm 9), .ref (bm 10), .int ac, .long dn, .ref (bm 11), .ref (bm 12), .ref (bm 13), .ref (bm 14), .int hi])), ((bm 4), .inl ((km 4), 8, .inl ru)), ((bm 5), .inl ((km 5), 48, .inl td)), ((bm 8), .inl ((km 8), 279, .inl (o_1.2))), ((bm 10), .inl ((km 10), 11160, .inl kp))] := hD.sub [1, 2, 3, 4, 0] (by decide) rfl
  refine lv_iconst (v := (-1)) hx hb dX10_tryOne_9 (by decide) ?_
  refine lv_icmp_ne (tgt := 23) hx hb dX10_tryOne_10 (by decide) (fun c_3 => ?_) (fun c_3 => ?_)
  · have hG := q_ifn c_3 hG
    obtain rfl := Option.some.inj hG
    have hP9 := hP.sub (ws' := [((bm 0), .inr (10, [.int th, .ref (bm 1), .int tn, .int at_, .int wr, .ref (bm 2), .ref (bm 3), .int rm_, .ref (bm 4), .ref (bm 5), .int mn, .ref (bm 6), .ref (bm 7), .int sn, .ref (bm 8), .ref (bm 9), .ref (bm 10), .int ac, .long dn, .ref (bm 11), .ref (bm 12), .ref (bm 13), .ref (bm 14), .int hi])), ((bm 4), .inl ((km 4), 8, .inl ru)), ((bm 5), .inl ((km 5), 48, .inl td)), ((bm 8), .inl ((km 8), 279, .inl (o_1.2))), ((bm 10), .inl ((km 10), 11160, .inl kp))]) [0, 1, 2, 3, 4] rfl
    have hD9 := hD.sub (ws' := [((bm 0), .inr (10, [.int th, .ref (bm 1), .int tn, .int at_, .int wr, .ref (bm 2), .ref (bm 3), .int rm_, .ref (bm 4), .ref (bm 5), .int mn, .ref (bm 6), .ref (bm 7), .int sn, .ref (bm 8), .ref (bm 9), .ref (bm 10), .int ac, .long dn, .ref (bm 11), .ref (bm 12), .ref (bm 13), .ref (bm 14), .int hi])), ((bm 4), .inl ((km 4), 8, .inl ru)), ((bm 5), .inl ((km 5), 48, .inl td)), ((bm 8), .inl ((km 8), 279, .inl (o_1.2))), ((bm 10), .inl ((km 10), 11160, .inl kp))]) [0, 1, 2, 3, 4] (by decide) rfl
    have hK9 := hK.sub (tys' := [((km 4), .int), ((km 5), .int), ((km 8), .int), ((km 10), .int)]) [0, 1, 2, 3] rfl
    exact W.vret hx hb hr (fun t ht hW => ⟨⟨(), rfl, trivial, by rw [ht]; exact hP9, va_K.moved hW.alike hK9, hD9⟩, hS.F ht⟩) hS.2.2 dX10_tryOne_23
  · have hG := q_ifp c_3 hG
    refine lv_aload_n hx hb dX10_tryOne_13 rfl (lv_at hl 0 rfl) ?_
    refine lv_iload_n hx hb dX10_tryOne_14 rfl (lv_at hl 1 rfl) ?_
    refine lv_iload_n hx hb dX10_tryOne_15 rfl (lv_at hl 2 rfl) ?_
    refine lv_iload_n hx hb dX10_tryOne_16 rfl (lv_at hl 3 rfl) ?_
    refine lv_iload hx hb dX10_tryOne_17 (lv_at hl 4 rfl) ?_
    obtain ⟨o_4, r_5, hG⟩ := q_bi hG
    refine q_goi2 (v := o_4.1) (wr := []) (va_runV (As := [.int z1, .int z2, .int z3, .int z4]) (rest := []) ⟨hx, hb, hml, hown, hts⟩ (c_X10_act l dC dI bm km th tn at_ wr rm_ mn sn ac hi dn ru td (o_1.2) kp z1 z2 z3 z4 (va_A [((bm 0), .inr (10, [.int th, .ref (bm 1), .int tn, .int at_, .int wr, .ref (bm 2), .ref (bm 3), .int rm_, .ref (bm 4), .ref (bm 5), .int mn, .ref (bm 6), .ref (bm 7), .int sn, .ref (bm 8), .ref (bm 9), .ref (bm 10), .int ac, .long dn, .ref (bm 11), .ref (bm 12), .ref (bm 13), .ref (bm 14), .int hi])), ((bm 4), .inl ((km 4), 8, .inl ru)), ((bm 5), .inl ((km 5), 48, .inl td)), ((bm 8), .inl ((km 8), 279, .inl (o_1.2))), ((bm 10), .inl ((km 10), 11160, .inl kp))] H.size) o_4 r_5) (cwV 4 hts (q_gV m_933 m_934 m_935 m_5 m_936) rfl rfl rfl hdV_yX10_act_4 ⟨Nat.le_of_ble_eq_true rfl, Nat.le_of_ble_eq_true rfl⟩) (q_preWV hK hP hD (q := (RX10, TX10, 24)) (ci := 10) (q0 := 0) rfl rfl [0, 1, 2, 3, 4] (by decide) rfl rfl [0, 1, 2, 3] rfl) rfl rfl hl.1 rfl (lv_room (Nat.le_of_ble_eq_true rfl)) dX10_tryOne_19 ⟨Nat.le_of_ble_eq_true rfl, Nat.le_of_ble_eq_true rfl⟩) hK hP hD hS hA [0, 1, 2, 3, 4] [] rfl rfl (by decide) (by decide) (fun _ H locs _ hP hD hK9 hS => ?_)
    have hP : va_P (dC, dI) vwCl [((bm 0), .inr (10, [.int th, .ref (bm 1), .int tn, .int at_, .int wr, .ref (bm 2), .ref (bm 3), .int rm_, .ref (bm 4), .ref (bm 5), .int mn, .ref (bm 6), .ref (bm 7), .int sn, .ref (bm 8), .ref (bm 9), .ref (bm 10), .int (o_4.2.1), .long dn, .ref (bm 11), .ref (bm 12), .ref (bm 13), .ref (bm 14), .int hi])), ((bm 4), .inl ((km 4), 8, .inl ru)), ((bm 5), .inl ((km 5), 48, .inl td)), ((bm 8), .inl ((km 8), 279, .inl (o_4.2.2.1))), ((bm 10), .inl ((km 10), 11160, .inl (o_4.2.2.2)))] H := hP.sub [0, 1, 2, 3, 4] rfl
    have hD : va_D A [((bm 0), .inr (10, [.int th, .ref (bm 1), .int tn, .int at_, .int wr, .ref (bm 2), .ref (bm 3), .int rm_, .ref (bm 4), .ref (bm 5), .int mn, .ref (bm 6), .ref (bm 7), .int sn, .ref (bm 8), .ref (bm 9), .ref (bm 10), .int (o_4.2.1), .long dn, .ref (bm 11), .ref (bm 12), .ref (bm 13), .ref (bm 14), .int hi])), ((bm 4), .inl ((km 4), 8, .inl ru)), ((bm 5), .inl ((km 5), 48, .inl td)), ((bm 8), .inl ((km 8), 279, .inl (o_4.2.2.1))), ((bm 10), .inl ((km 10), 11160, .inl (o_4.2.2.2)))] := hD.sub [0, 1, 2, 3, 4] (by decide) rfl
    refine lv_pop hx hb dX10_tryOne_22 rfl ?_
    obtain rfl := Option.some.inj hG
    have hP9 := hP.sub (ws' := [((bm 0), .inr (10, [.int th, .ref (bm 1), .int tn, .int at_, .int wr, .ref (bm 2), .ref (bm 3), .int rm_, .ref (bm 4), .ref (bm 5), .int mn, .ref (bm 6), .ref (bm 7), .int sn, .ref (bm 8), .ref (bm 9), .ref (bm 10), .int (o_4.2.1), .long dn, .ref (bm 11), .ref (bm 12), .ref (bm 13), .ref (bm 14), .int hi])), ((bm 4), .inl ((km 4), 8, .inl ru)), ((bm 5), .inl ((km 5), 48, .inl td)), ((bm 8), .inl ((km 8), 279, .inl (o_4.2.2.1))), ((bm 10), .inl ((km 10), 11160, .inl (o_4.2.2.2)))]) [0, 1, 2, 3, 4] rfl
    have hD9 := hD.sub (ws' := [((bm 0), .inr (10, [.int th, .ref (bm 1), .int tn, .int at_, .int wr, .ref (bm 2), .ref (bm 3), .int rm_, .ref (bm 4), .ref (bm 5), .int mn, .ref (bm 6), .ref (bm 7), .int sn, .ref (bm 8), .ref (bm 9), .ref (bm 10), .int (o_4.2.1), .long dn, .ref (bm 11), .ref (bm 12), .ref (bm 13), .ref (bm 14), .int hi])), ((bm 4), .inl ((km 4), 8, .inl ru)), ((bm 5), .inl ((km 5), 48, .inl td)), ((bm 8), .inl ((km 8), 279, .inl (o_4.2.2.1))), ((bm 10), .inl ((km 10), 11160, .inl (o_4.2.2.2)))]) [0, 1, 2, 3, 4] (by decide) rfl
    have hK9 := hK.sub (tys' := [((km 4), .int), ((km 5), .int), ((km 8), .int), ((km 10), .int)]) [0, 1, 2, 3] rfl
    exact W.vret hx hb hr (fun t ht hW => ⟨⟨(), rfl, trivial, by rw [ht]; exact hP9, va_K.moved hW.alike hK9, hD9⟩, hS.F ht⟩) hS.2.2 dX10_tryOne_23

def F_X10_drawYear (mn : Int32) (ac : Int32) (dn : Int64) (ru : Nat → Int32) (td : Nat → Int32) (nw : Nat → Int32) (kp : Nat → Int32) : Option (Int32 × Int64 × (Nat → Int32) × (Nat → Int32)) := ((F_X10_draw dn 8).bind fun o_1 => (if 3 ≤ o_1.1 then (if o_1.1 = 3 then ((F_X10_draw (o_1.2) mn).bind fun o_14 => ((F_X10_tryOne mn ac ru td nw kp 1 o_14.1 0 0).bind fun o_16 => some ((o_16.1), (o_14.2), (o_16.2.1), (o_16.2.2)))) else (if 7 ≤ o_1.1 then ((F_X10_draw (o_1.2) mn).bind fun o_6 => ((F_X10_tryOne mn ac ru td nw kp 3 o_6.1 0 0).bind fun o_8 => some ((o_8.1), (o_6.2), (o_8.2.1), (o_8.2.2)))) else ((F_X10_draw (o_1.2) 9).bind fun o_10 => ((F_X10_tryOne mn ac ru td nw kp 2 (o_10.1 + 1) 0 0).bind fun o_12 => some ((o_12.1), (o_10.2), (o_12.2.1), (o_12.2.2)))))) else ((F_X10_draw (o_1.2) mn).bind fun o_18 => ((F_X10_draw (o_18.2) (mn + 1)).bind fun o_20 => (if o_20.1 = mn then ((F_X10_draw (o_20.2) 4).bind fun o_27 => ((F_X10_tryOne mn ac ru td nw kp 0 o_18.1 8 o_27.1).bind fun o_29 => some ((o_29.1), (o_27.2), (o_29.2.1), (o_29.2.2)))) else ((F_X10_draw (o_20.2) 4).bind fun o_23 => ((F_X10_tryOne mn ac ru td nw kp 0 o_18.1 o_20.1 o_23.1).bind fun o_25 => some ((o_25.1), (o_23.2), (o_25.2.1), (o_25.2.2)))))))))
set_option maxHeartbeats 4000000 in
set_option maxRecDepth 100000 in
theorem c_X10_drawYear (l : Launch) (dC : Nat → ClassId) (dI : Nat → Nat → Nat) (bm : Nat → Nat) (km : Nat → ClassId) (th : Int32) (tn : Int32) (at_ : Int32) (wr : Int32) (rm_ : Int32) (mn : Int32) (sn : Int32) (ac : Int32) (hi : Int32) (dn : Int64) (ru : Nat → Int32) (td : Nat → Int32) (nw : Nat → Int32) (kp : Nat → Int32) (A : Nat → Prop) (o : Int32 × Int64 × (Nat → Int32) × (Nat → Int32)) (hG : F_X10_drawYear mn ac dn ru td nw kp = some o) : Met l yX10_drawYear (.code yX10_drawYear cX10_drawYear 4 none :: wA) ({ frames := 12, cells := 0, slots := 0, locals := 273 }) (va_Pc [.ref (bm 0)] (q_W (dC, dI) A [((bm 0), .inr (10, [.int th, .ref (bm 1), .int tn, .int at_, .int wr, .ref (bm 2), .ref (bm 3), .int rm_, .ref (bm 4), .ref (bm 5), .int mn, .ref (bm 6), .ref (bm 7), .int sn, .ref (bm 8), .ref (bm 9), .ref (bm 10), .int ac, .long dn, .ref (bm 11), .ref (bm 12), .ref (bm 13), .ref (bm 14), .int hi])), ((bm 4), .inl ((km 4), 8, .inl ru)), ((bm 5), .inl ((km 5), 48, .inl td)), ((bm 8), .inl ((km 8), 279, .inl nw)), ((bm 10), .inl ((km 10), 11160, .inl kp))] [((km 4), .int), ((km 5), .int), ((km 8), .int), ((km 10), .int)])) (va_Qv (fun _ : Unit => True) (fun (_ : Unit) t => q_B (dC, dI) A [((bm 0), .inr (10, [.int th, .ref (bm 1), .int tn, .int at_, .int wr, .ref (bm 2), .ref (bm 3), .int rm_, .ref (bm 4), .ref (bm 5), .int mn, .ref (bm 6), .ref (bm 7), .int sn, .ref (bm 8), .ref (bm 9), .ref (bm 10), .int (o.1), .long (o.2.1), .ref (bm 11), .ref (bm 12), .ref (bm 13), .ref (bm 14), .int hi])), ((bm 4), .inl ((km 4), 8, .inl ru)), ((bm 5), .inl ((km 5), 48, .inl td)), ((bm 8), .inl ((km 8), 279, .inl (o.2.2.1))), ((bm 10), .inl ((km 10), 11160, .inl (o.2.2.2)))] [((km 4), .int), ((km 5), .int), ((km 8), .int), ((km 10), .int)] t) A) 0 0 A := by
  refine Met.ofW (cc := cX10_drawYear) (maxL := 4) (ret := none) (by decide) rfl ?_
  intro p e s m args below meth c s₁ B hml hv
  obtain ⟨rfl, hP, hK, hD, hA⟩ := hv
  have hx := B.exec
  have hb := B.bytes
  have hr := B.returns
  have hts := atoms_spec (ws := .code yX10_drawYear cX10_drawYear 4 none :: wA) B.pre
  have hown : s.vm.findClass RX10 = some m.cls := findClass_of_methodNamed B.named
  have hlocks := B.notSynchronized
  have hS : va_S A s.heap s.heap [] := va_S.rf
  have hl := lv_entry ([.ref (bm 0)]) (n := 4) (Nat.le_of_ble_eq_true rfl)
  rw [lg_entry_eq]
  generalize (lg_sl ([.ref (bm 0)]) ++ List.replicate (4 - (lg_sl ([.ref (bm 0)])).length) Slot.unset).toArray = ls at hl ⊢
  have hl : lv_has ls 4 [(0, .ref (bm 0))] := hl
  unfold F_X10_drawYear at hG
  refine lv_aload_n hx hb dX10_drawYear_0 rfl (lv_at hl 0 rfl) ?_
  refine lv_bipush (v := 8) hx hb dX10_drawYear_1 (by decide) ?_
  obtain ⟨o_1, r_2, hG⟩ := q_bi hG
  refine q_goi2 (v := o_1.1) (wr := [((bm 4), .inl ((km 4), 8, .inl ru)), ((bm 5), .inl ((km 5), 48, .inl td)), ((bm 8), .inl ((km 8), 279, .inl nw)), ((bm 10), .inl ((km 10), 11160, .inl kp))]) (va_runV (As := [.int 8]) (rest := []) ⟨hx, hb, hml, hown, hts⟩ (c_X10_draw l dC dI bm km th tn at_ wr rm_ mn sn ac hi dn 8 (va_A [((bm 0), .inr (10, [.int th, .ref (bm 1), .int tn, .int at_, .int wr, .ref (bm 2), .ref (bm 3), .int rm_, .ref (bm 4), .ref (bm 5), .int mn, .ref (bm 6), .ref (bm 7), .int sn, .ref (bm 8), .ref (bm 9), .ref (bm 10), .int ac, .long dn, .ref (bm 11), .ref (bm 12), .ref (bm 13), .ref (bm 14), .int hi]))] s.heap.size) o_1 r_2) (cwV 1 hts (q_gV m_1107 m_1108 m_1109 m_5 m_1110) rfl rfl rfl hdV_yX10_draw_1 ⟨Nat.le_of_ble_eq_true rfl, Nat.le_of_ble_eq_true rfl⟩) (q_preWV hK hP hD (q := (RX10, TX10, 24)) (ci := 10) (q0 := 0) rfl rfl [0] (by decide) rfl rfl [] rfl) rfl rfl hl.1 rfl (lv_room (Nat.le_of_ble_eq_true rfl)) dX10_drawYear_3 ⟨Nat.le_of_ble_eq_true rfl, Nat.le_of_ble_eq_true rfl⟩) hK hP hD hS hA [0] [1, 2, 3, 4] rfl rfl (by decide) (by decide) (fun _ H locs _ hP hD hK9 hS => ?_)
  have hP : va_P (dC, dI) vwCl [((bm 0), .inr (10, [.int th, .ref (bm 1), .int tn, .int at_, .int wr, .ref (bm 2), .ref (bm 3), .int rm_, .ref (bm 4), .ref (bm 5), .int mn, .ref (bm 6), .ref (bm 7), .int sn, .ref (bm 8), .ref (bm 9), .ref (bm 10), .int ac, .long (o_1.2), .ref (bm 11), .ref (bm 12), .ref (bm 13), .ref (bm 14), .int hi])), ((bm 4), .inl ((km 4), 8, .inl ru)), ((bm 5), .inl ((km 5), 48, .inl td)), ((bm 8), .inl ((km 8), 279, .inl nw)), ((bm 10), .inl ((km 10), 11160, .inl kp))] H := hP.sub [4, 0, 1, 2, 3] rfl
  have hD : va_D A [((bm 0), .inr (10, [.int th, .ref (bm 1), .int tn, .int at_, .int wr, .ref (bm 2), .ref (bm 3), .int rm_, .ref (bm 4), .ref (bm 5), .int mn, .ref (bm 6), .ref (bm 7), .int sn, .ref (bm 8), .ref (bm 9), .ref (bm 10), .int ac, .long (o_1.2), .ref (bm 11), .ref (bm 12), .ref (bm 13), .ref (bm 14), .int hi])), ((bm 4), .inl ((km 4), 8, .inl ru)), ((bm 5), .inl ((km 5), 48, .inl td)), ((bm 8), .inl ((km 8), 279, .inl nw)), ((bm 10), .inl ((km 10), 11160, .inl kp))] := hD.sub [4, 0, 1, 2, 3] (by decide) rfl
  refine lv_istore_n (lv' := [(1, .int o_1.1), (0, .ref (bm 0))]) hx hb dX10_drawYear_6 rfl hl (by decide) rfl (fun ls hl => ?_)
  refine lv_iload_n hx hb dX10_drawYear_7 rfl (lv_at hl 0 rfl) ?_
  refine lv_iconst (v := 3) hx hb dX10_drawYear_8 (by decide) ?_
  refine lv_icmp_ge (tgt := 60) hx hb dX10_drawYear_9 (by decide) (fun c_3 => ?_) (fun c_3 => ?_)
  · have hG := q_ifp c_3 hG
    refine lv_iload_n hx hb dX10_drawYear_60 rfl (lv_at hl 0 rfl) ?_
    refine lv_iconst (v := 3) hx hb dX10_drawYear_61 (by decide) ?_
    refine lv_icmp_ne (tgt := 83) hx hb dX10_drawYear_62 (by decide) (fun c_4 => ?_) (fun c_4 => ?_)
    · have hG := q_ifn c_4 hG
      refine lv_iload_n hx hb dX10_drawYear_83 rfl (lv_at hl 0 rfl) ?_
      refine lv_bipush (v := 7) hx hb dX10_drawYear_84 (by decide) ?_
      refine lv_icmp_ge (tgt := 107) hx hb dX10_drawYear_86 (by decide) (fun c_5 => ?_) (fun c_5 => ?_)
      · have hG := q_ifp c_5 hG
        refine lv_aload_n hx hb dX10_drawYear_107 rfl (lv_at hl 1 rfl) ?_
        refine lv_iconst (v := 3) hx hb dX10_drawYear_108 (by decide) ?_
        refine lv_aload_n hx hb dX10_drawYear_109 rfl (lv_at hl 1 rfl) ?_
        refine lv_aload_n hx hb dX10_drawYear_110 rfl (lv_at hl 1 rfl) ?_
        refine va_get (D := (dC, dI)) (ci := 10) (v := .int mn) (C := RX10) (T := TX10) (N := 24) hx hb hts iA_10 hown hK hP 0 rfl rfl 10 (by decide) (hts (.fieldLink RX10 132 "HubTreeModel" "many" "I") (List.mem_cons_of_mem _ m_433)) (fun _ h9 => h9) rfl dX10_drawYear_111 ?_
        obtain ⟨o_6, r_7, hG⟩ := q_bi hG
        refine q_goi2 (v := o_6.1) (wr := [((bm 4), .inl ((km 4), 8, .inl ru)), ((bm 5), .inl ((km 5), 48, .inl td)), ((bm 8), .inl ((km 8), 279, .inl nw)), ((bm 10), .inl ((km 10), 11160, .inl kp))]) (va_runV (As := [.int mn]) (rest := [.int 3, .ref (bm 0)]) ⟨hx, hb, hml, hown, hts⟩ (c_X10_draw l dC dI bm km th tn at_ wr rm_ mn sn ac hi (o_1.2) mn (va_A [((bm 0), .inr (10, [.int th, .ref (bm 1), .int tn, .int at_, .int wr, .ref (bm 2), .ref (bm 3), .int rm_, .ref (bm 4), .ref (bm 5), .int mn, .ref (bm 6), .ref (bm 7), .int sn, .ref (bm 8), .ref (bm 9), .ref (bm 10), .int ac, .long (o_1.2), .ref (bm 11), .ref (bm 12), .ref (bm 13), .ref (bm 14), .int hi]))] H.size) o_6 r_7) (cwV 1 hts (q_gV m_1107 m_1108 m_1109 m_5 m_1110) rfl rfl rfl hdV_yX10_draw_1 ⟨Nat.le_of_ble_eq_true rfl, Nat.le_of_ble_eq_true rfl⟩) (q_preWV hK hP hD (q := (RX10, TX10, 24)) (ci := 10) (q0 := 0) rfl rfl [0] (by decide) rfl rfl [] rfl) rfl rfl hl.1 rfl (lv_room (Nat.le_of_ble_eq_true rfl)) dX10_drawYear_114 ⟨Nat.le_of_ble_eq_true rfl, Nat.le_of_ble_eq_true rfl⟩) hK hP hD hS hA [0] [1, 2, 3, 4] rfl rfl (by decide) (by decide) (fun _ H locs _ hP hD hK9 hS => ?_)
        have hP : va_P (dC, dI) vwCl [((bm 0), .inr (10, [.int th, .ref (bm 1), .int tn, .int at_, .int wr, .ref (bm 2), .ref (bm 3), .int rm_, .ref (bm 4), .ref (bm 5), .int mn, .ref (bm 6), .ref (bm 7), .int sn, .ref (bm 8), .ref (bm 9), .ref (bm 10), .int ac, .long (o_6.2), .ref (bm 11), .ref (bm 12), .ref (bm 13), .ref (bm 14), .int hi])), ((bm 4), .inl ((km 4), 8, .inl ru)), ((bm 5), .inl ((km 5), 48, .inl td)), ((bm 8), .inl ((km 8), 279, .inl nw)), ((bm 10), .inl ((km 10), 11160, .inl kp))] H := hP.sub [4, 0, 1, 2, 3] rfl
        have hD : va_D A [((bm 0), .inr (10, [.int th, .ref (bm 1), .int tn, .int at_, .int wr, .ref (bm 2), .ref (bm 3), .int rm_, .ref (bm 4), .ref (bm 5), .int mn, .ref (bm 6), .ref (bm 7), .int sn, .ref (bm 8), .ref (bm 9), .ref (bm 10), .int ac, .long (o_6.2), .ref (bm 11), .ref (bm 12), .ref (bm 13), .ref (bm 14), .int hi])), ((bm 4), .inl ((km 4), 8, .inl ru)), ((bm 5), .inl ((km 5), 48, .inl td)), ((bm 8), .inl ((km 8), 279, .inl nw)), ((bm 10), .inl ((km 10), 11160, .inl kp))] := hD.sub [4, 0, 1, 2, 3] (by decide) rfl
        refine lv_iconst (v := 0) hx hb dX10_drawYear_117 (by decide) ?_
        refine lv_iconst (v := 0) hx hb dX10_drawYear_118 (by decide) ?_
        obtain ⟨o_8, r_9, hG⟩ := q_bi hG
        refine q_gov2 (wr := []) (va_runV (As := [.int 3, .int o_6.1, .int 0, .int 0]) (rest := []) ⟨hx, hb, hml, hown, hts⟩ (c_X10_tryOne l dC dI bm km th tn at_ wr rm_ mn sn ac hi (o_6.2) ru td nw kp 3 o_6.1 0 0 (va_A [((bm 0), .inr (10, [.int th, .ref (bm 1), .int tn, .int at_, .int wr, .ref (bm 2), .ref (bm 3), .int rm_, .ref (bm 4), .ref (bm 5), .int mn, .ref (bm 6), .ref (bm 7), .int sn, .ref (bm 8), .ref (bm 9), .ref (bm 10), .int ac, .long (o_6.2), .ref (bm 11), .ref (bm 12), .ref (bm 13), .ref (bm 14), .int hi])), ((bm 4), .inl ((km 4), 8, .inl ru)), ((bm 5), .inl ((km 5), 48, .inl td)), ((bm 8), .inl ((km 8), 279, .inl nw)), ((bm 10), .inl ((km 10), 11160, .inl kp))] H.size) o_8 r_9) (cwV 4 hts (q_gV m_1113 m_1114 m_1115 m_5 m_1116) rfl rfl rfl hdV_yX10_tryOne_4 ⟨Nat.le_of_ble_eq_true rfl, Nat.le_of_ble_eq_true rfl⟩) (q_preWV hK hP hD (q := (RX10, TX10, 24)) (ci := 10) (q0 := 0) rfl rfl [0, 1, 2, 3, 4] (by decide) rfl rfl [0, 1, 2, 3] rfl) rfl rfl hl.1 rfl (lv_room (Nat.le_of_ble_eq_true rfl)) dX10_drawYear_119 ⟨Nat.le_of_ble_eq_true rfl, Nat.le_of_ble_eq_true rfl⟩) hK hP hD hS hA [0, 1, 2, 3, 4] [] rfl rfl (by decide) (by decide) (fun _ H locs _ hP hD hK9 hS => ?_)
        have hP : va_P (dC, dI) vwCl [((bm 0), .inr (10, [.int th, .ref (bm 1), .int tn, .int at_, .int wr, .ref (bm 2), .ref (bm 3), .int rm_, .ref (bm 4), .ref (bm 5), .int mn, .ref (bm 6), .ref (bm 7), .int sn, .ref (bm 8), .ref (bm 9), .ref (bm 10), .int (o_8.1), .long (o_6.2), .ref (bm 11), .ref (bm 12), .ref (bm 13), .ref (bm 14), .int hi])), ((bm 4), .inl ((km 4), 8, .inl ru)), ((bm 5), .inl ((km 5), 48, .inl td)), ((bm 8), .inl ((km 8), 279, .inl (o_8.2.1))), ((bm 10), .inl ((km 10), 11160, .inl (o_8.2.2)))] H := hP.sub [0, 1, 2, 3, 4] rfl
        have hD : va_D A [((bm 0), .inr (10, [.int th, .ref (bm 1), .int tn, .int at_, .int wr, .ref (bm 2), .ref (bm 3), .int rm_, .ref (bm 4), .ref (bm 5), .int mn, .ref (bm 6), .ref (bm 7), .int sn, .ref (bm 8), .ref (bm 9), .ref (bm 10), .int (o_8.1), .long (o_6.2), .ref (bm 11), .ref (bm 12), .ref (bm 13), .ref (bm 14), .int hi])), ((bm 4), .inl ((km 4), 8, .inl ru)), ((bm 5), .inl ((km 5), 48, .inl td)), ((bm 8), .inl ((km 8), 279, .inl (o_8.2.1))), ((bm 10), .inl ((km 10), 11160, .inl (o_8.2.2)))] := hD.sub [0, 1, 2, 3, 4] (by decide) rfl
        obtain rfl := Option.some.inj hG
        have hP9 := hP.sub (ws' := [((bm 0), .inr (10, [.int th, .ref (bm 1), .int tn, .int at_, .int wr, .ref (bm 2), .ref (bm 3), .int rm_, .ref (bm 4), .ref (bm 5), .int mn, .ref (bm 6), .ref (bm 7), .int sn, .ref (bm 8), .ref (bm 9), .ref (bm 10), .int (o_8.1), .long (o_6.2), .ref (bm 11), .ref (bm 12), .ref (bm 13), .ref (bm 14), .int hi])), ((bm 4), .inl ((km 4), 8, .inl ru)), ((bm 5), .inl ((km 5), 48, .inl td)), ((bm 8), .inl ((km 8), 279, .inl (o_8.2.1))), ((bm 10), .inl ((km 10), 11160, .inl (o_8.2.2)))]) [0, 1, 2, 3, 4] rfl
        have hD9 := hD.sub (ws' := [((bm 0), .inr (10, [.int th, .ref (bm 1), .int tn, .int at_, .int wr, .ref (bm 2), .ref (bm 3), .int rm_, .ref (bm 4), .ref (bm 5), .int mn, .ref (bm 6), .ref (bm 7), .int sn, .ref (bm 8), .ref (bm 9), .ref (bm 10), .int (o_8.1), .long (o_6.2), .ref (bm 11), .ref (bm 12), .ref (bm 13), .ref (bm 14), .int hi])), ((bm 4), .inl ((km 4), 8, .inl ru)), ((bm 5), .inl ((km 5), 48, .inl td)), ((bm 8), .inl ((km 8), 279, .inl (o_8.2.1))), ((bm 10), .inl ((km 10), 11160, .inl (o_8.2.2)))]) [0, 1, 2, 3, 4] (by decide) rfl
        have hK9 := hK.sub (tys' := [((km 4), .int), ((km 5), .int), ((km 8), .int), ((km 10), .int)]) [0, 1, 2, 3] rfl
        exact W.vret hx hb hr (fun t ht hW => ⟨⟨(), rfl, trivial, by rw [ht]; exact hP9, va_K.moved hW.alike hK9, hD9⟩, hS.F ht⟩) hS.2.2 dX10_drawYear_122
      · have hG := q_ifn c_5 hG
        refine lv_aload_n hx hb dX10_drawYear_89 rfl (lv_at hl 1 rfl) ?_
        refine lv_iconst (v := 2) hx hb dX10_drawYear_90 (by decide) ?_
        refine lv_aload_n hx hb dX10_drawYear_91 rfl (lv_at hl 1 rfl) ?_
        refine lv_bipush (v := 9) hx hb dX10_drawYear_92 (by decide) ?_
        obtain ⟨o_10, r_11, hG⟩ := q_bi hG
        refine q_goi2 (v := o_10.1) (wr := [((bm 4), .inl ((km 4), 8, .inl ru)), ((bm 5), .inl ((km 5), 48, .inl td)), ((bm 8), .inl ((km 8), 279, .inl nw)), ((bm 10), .inl ((km 10), 11160, .inl kp))]) (va_runV (As := [.int 9]) (rest := [.int 2, .ref (bm 0)]) ⟨hx, hb, hml, hown, hts⟩ (c_X10_draw l dC dI bm km th tn at_ wr rm_ mn sn ac hi (o_1.2) 9 (va_A [((bm 0), .inr (10, [.int th, .ref (bm 1), .int tn, .int at_, .int wr, .ref (bm 2), .ref (bm 3), .int rm_, .ref (bm 4), .ref (bm 5), .int mn, .ref (bm 6), .ref (bm 7), .int sn, .ref (bm 8), .ref (bm 9), .ref (bm 10), .int ac, .long (o_1.2), .ref (bm 11), .ref (bm 12), .ref (bm 13), .ref (bm 14), .int hi]))] H.size) o_10 r_11) (cwV 1 hts (q_gV m_1107 m_1108 m_1109 m_5 m_1110) rfl rfl rfl hdV_yX10_draw_1 ⟨Nat.le_of_ble_eq_true rfl, Nat.le_of_ble_eq_true rfl⟩) (q_preWV hK hP hD (q := (RX10, TX10, 24)) (ci := 10) (q0 := 0) rfl rfl [0] (by decide) rfl rfl [] rfl) rfl rfl hl.1 rfl (lv_room (Nat.le_of_ble_eq_true rfl)) dX10_drawYear_94 ⟨Nat.le_of_ble_eq_true rfl, Nat.le_of_ble_eq_true rfl⟩) hK hP hD hS hA [0] [1, 2, 3, 4] rfl rfl (by decide) (by decide) (fun _ H locs _ hP hD hK9 hS => ?_)
        have hP : va_P (dC, dI) vwCl [((bm 0), .inr (10, [.int th, .ref (bm 1), .int tn, .int at_, .int wr, .ref (bm 2), .ref (bm 3), .int rm_, .ref (bm 4), .ref (bm 5), .int mn, .ref (bm 6), .ref (bm 7), .int sn, .ref (bm 8), .ref (bm 9), .ref (bm 10), .int ac, .long (o_10.2), .ref (bm 11), .ref (bm 12), .ref (bm 13), .ref (bm 14), .int hi])), ((bm 4), .inl ((km 4), 8, .inl ru)), ((bm 5), .inl ((km 5), 48, .inl td)), ((bm 8), .inl ((km 8), 279, .inl nw)), ((bm 10), .inl ((km 10), 11160, .inl kp))] H := hP.sub [4, 0, 1, 2, 3] rfl
        have hD : va_D A [((bm 0), .inr (10, [.int th, .ref (bm 1), .int tn, .int at_, .int wr, .ref (bm 2), .ref (bm 3), .int rm_, .ref (bm 4), .ref (bm 5), .int mn, .ref (bm 6), .ref (bm 7), .int sn, .ref (bm 8), .ref (bm 9), .ref (bm 10), .int ac, .long (o_10.2), .ref (bm 11), .ref (bm 12), .ref (bm 13), .ref (bm 14), .int hi])), ((bm 4), .inl ((km 4), 8, .inl ru)), ((bm 5), .inl ((km 5), 48, .inl td)), ((bm 8), .inl ((km 8), 279, .inl nw)), ((bm 10), .inl ((km 10), 11160, .inl kp))] := hD.sub [4, 0, 1, 2, 3] (by decide) rfl
        refine lv_iconst (v := 1) hx hb dX10_drawYear_97 (by decide) ?_
        refine lv_iadd hx hb dX10_drawYear_98 ?_
        refine lv_iconst (v := 0) hx hb dX10_drawYear_99 (by decide) ?_
        refine lv_iconst (v := 0) hx hb dX10_drawYear_100 (by decide) ?_
        obtain ⟨o_12, r_13, hG⟩ := q_bi hG
        refine q_gov2 (wr := []) (va_runV (As := [.int 2, .int (o_10.1 + 1), .int 0, .int 0]) (rest := []) ⟨hx, hb, hml, hown, hts⟩ (c_X10_tryOne l dC dI bm km th tn at_ wr rm_ mn sn ac hi (o_10.2) ru td nw kp 2 (o_10.1 + 1) 0 0 (va_A [((bm 0), .inr (10, [.int th, .ref (bm 1), .int tn, .int at_, .int wr, .ref (bm 2), .ref (bm 3), .int rm_, .ref (bm 4), .ref (bm 5), .int mn, .ref (bm 6), .ref (bm 7), .int sn, .ref (bm 8), .ref (bm 9), .ref (bm 10), .int ac, .long (o_10.2), .ref (bm 11), .ref (bm 12), .ref (bm 13), .ref (bm 14), .int hi])), ((bm 4), .inl ((km 4), 8, .inl ru)), ((bm 5), .inl ((km 5), 48, .inl td)), ((bm 8), .inl ((km 8), 279, .inl nw)), ((bm 10), .inl ((km 10), 11160, .inl kp))] H.size) o_12 r_13) (cwV 4 hts (q_gV m_1113 m_1114 m_1115 m_5 m_1116) rfl rfl rfl hdV_yX10_tryOne_4 ⟨Nat.le_of_ble_eq_true rfl, Nat.le_of_ble_eq_true rfl⟩) (q_preWV hK hP hD (q := (RX10, TX10, 24)) (ci := 10) (q0 := 0) rfl rfl [0, 1, 2, 3, 4] (by decide) rfl rfl [0, 1, 2, 3] rfl) rfl rfl hl.1 rfl (lv_room (Nat.le_of_ble_eq_true rfl)) dX10_drawYear_101 ⟨Nat.le_of_ble_eq_true rfl, Nat.le_of_ble_eq_true rfl⟩) hK hP hD hS hA [0, 1, 2, 3, 4] [] rfl rfl (by decide) (by decide) (fun _ H locs _ hP hD hK9 hS => ?_)
        have hP : va_P (dC, dI) vwCl [((bm 0), .inr (10, [.int th, .ref (bm 1), .int tn, .int at_, .int wr, .ref (bm 2), .ref (bm 3), .int rm_, .ref (bm 4), .ref (bm 5), .int mn, .ref (bm 6), .ref (bm 7), .int sn, .ref (bm 8), .ref (bm 9), .ref (bm 10), .int (o_12.1), .long (o_10.2), .ref (bm 11), .ref (bm 12), .ref (bm 13), .ref (bm 14), .int hi])), ((bm 4), .inl ((km 4), 8, .inl ru)), ((bm 5), .inl ((km 5), 48, .inl td)), ((bm 8), .inl ((km 8), 279, .inl (o_12.2.1))), ((bm 10), .inl ((km 10), 11160, .inl (o_12.2.2)))] H := hP.sub [0, 1, 2, 3, 4] rfl
        have hD : va_D A [((bm 0), .inr (10, [.int th, .ref (bm 1), .int tn, .int at_, .int wr, .ref (bm 2), .ref (bm 3), .int rm_, .ref (bm 4), .ref (bm 5), .int mn, .ref (bm 6), .ref (bm 7), .int sn, .ref (bm 8), .ref (bm 9), .ref (bm 10), .int (o_12.1), .long (o_10.2), .ref (bm 11), .ref (bm 12), .ref (bm 13), .ref (bm 14), .int hi])), ((bm 4), .inl ((km 4), 8, .inl ru)), ((bm 5), .inl ((km 5), 48, .inl td)), ((bm 8), .inl ((km 8), 279, .inl (o_12.2.1))), ((bm 10), .inl ((km 10), 11160, .inl (o_12.2.2)))] := hD.sub [0, 1, 2, 3, 4] (by decide) rfl
        refine lv_goto (tgt := 122) hx hb dX10_drawYear_104 (by decide) ?_
        obtain rfl := Option.some.inj hG
        have hP9 := hP.sub (ws' := [((bm 0), .inr (10, [.int th, .ref (bm 1), .int tn, .int at_, .int wr, .ref (bm 2), .ref (bm 3), .int rm_, .ref (bm 4), .ref (bm 5), .int mn, .ref (bm 6), .ref (bm 7), .int sn, .ref (bm 8), .ref (bm 9), .ref (bm 10), .int (o_12.1), .long (o_10.2), .ref (bm 11), .ref (bm 12), .ref (bm 13), .ref (bm 14), .int hi])), ((bm 4), .inl ((km 4), 8, .inl ru)), ((bm 5), .inl ((km 5), 48, .inl td)), ((bm 8), .inl ((km 8), 279, .inl (o_12.2.1))), ((bm 10), .inl ((km 10), 11160, .inl (o_12.2.2)))]) [0, 1, 2, 3, 4] rfl
        have hD9 := hD.sub (ws' := [((bm 0), .inr (10, [.int th, .ref (bm 1), .int tn, .int at_, .int wr, .ref (bm 2), .ref (bm 3), .int rm_, .ref (bm 4), .ref (bm 5), .int mn, .ref (bm 6), .ref (bm 7), .int sn, .ref (bm 8), .ref (bm 9), .ref (bm 10), .int (o_12.1), .long (o_10.2), .ref (bm 11), .ref (bm 12), .ref (bm 13), .ref (bm 14), .int hi])), ((bm 4), .inl ((km 4), 8, .inl ru)), ((bm 5), .inl ((km 5), 48, .inl td)), ((bm 8), .inl ((km 8), 279, .inl (o_12.2.1))), ((bm 10), .inl ((km 10), 11160, .inl (o_12.2.2)))]) [0, 1, 2, 3, 4] (by decide) rfl
        have hK9 := hK.sub (tys' := [((km 4), .int), ((km 5), .int), ((km 8), .int), ((km 10), .int)]) [0, 1, 2, 3] rfl
        exact W.vret hx hb hr (fun t ht hW => ⟨⟨(), rfl, trivial, by rw [ht]; exact hP9, va_K.moved hW.alike hK9, hD9⟩, hS.F ht⟩) hS.2.2 dX10_drawYear_122
    · have hG := q_ifp c_4 hG
      refine lv_aload_n hx hb dX10_drawYear_65 rfl (lv_at hl 1 rfl) ?_
      refine lv_iconst (v := 1) hx hb dX10_drawYear_66 (by decide) ?_
      refine lv_aload_n hx hb dX10_drawYear_67 rfl (lv_at hl 1 rfl) ?_
      refine lv_aload_n hx hb dX10_drawYear_68 rfl (lv_at hl 1 rfl) ?_
      refine va_get (D := (dC, dI)) (ci := 10) (v := .int mn) (C := RX10) (T := TX10) (N := 24) hx hb hts iA_10 hown hK hP 0 rfl rfl 10 (by decide) (hts (.fieldLink RX10 132 "HubTreeModel" "many" "I") (List.mem_cons_of_mem _ m_433)) (fun _ h9 => h9) rfl dX10_drawYear_69 ?_
      obtain ⟨o_14, r_15, hG⟩ := q_bi hG
      refine q_goi2 (v := o_14.1) (wr := [((bm 4), .inl ((km 4), 8, .inl ru)), ((bm 5), .inl ((km 5), 48, .inl td)), ((bm 8), .inl ((km 8), 279, .inl nw)), ((bm 10), .inl ((km 10), 11160, .inl kp))]) (va_runV (As := [.int mn]) (rest := [.int 1, .ref (bm 0)]) ⟨hx, hb, hml, hown, hts⟩ (c_X10_draw l dC dI bm km th tn at_ wr rm_ mn sn ac hi (o_1.2) mn (va_A [((bm 0), .inr (10, [.int th, .ref (bm 1), .int tn, .int at_, .int wr, .ref (bm 2), .ref (bm 3), .int rm_, .ref (bm 4), .ref (bm 5), .int mn, .ref (bm 6), .ref (bm 7), .int sn, .ref (bm 8), .ref (bm 9), .ref (bm 10), .int ac, .long (o_1.2), .ref (bm 11), .ref (bm 12), .ref (bm 13), .ref (bm 14), .int hi]))] H.size) o_14 r_15) (cwV 1 hts (q_gV m_1107 m_1108 m_1109 m_5 m_1110) rfl rfl rfl hdV_yX10_draw_1 ⟨Nat.le_of_ble_eq_true rfl, Nat.le_of_ble_eq_true rfl⟩) (q_preWV hK hP hD (q := (RX10, TX10, 24)) (ci := 10) (q0 := 0) rfl rfl [0] (by decide) rfl rfl [] rfl) rfl rfl hl.1 rfl (lv_room (Nat.le_of_ble_eq_true rfl)) dX10_drawYear_72 ⟨Nat.le_of_ble_eq_true rfl, Nat.le_of_ble_eq_true rfl⟩) hK hP hD hS hA [0] [1, 2, 3, 4] rfl rfl (by decide) (by decide) (fun _ H locs _ hP hD hK9 hS => ?_)
      have hP : va_P (dC, dI) vwCl [((bm 0), .inr (10, [.int th, .ref (bm 1), .int tn, .int at_, .int wr, .ref (bm 2), .ref (bm 3), .int rm_, .ref (bm 4), .ref (bm 5), .int mn, .ref (bm 6), .ref (bm 7), .int sn, .ref (bm 8), .ref (bm 9), .ref (bm 10), .int ac, .long (o_14.2), .ref (bm 11), .ref (bm 12), .ref (bm 13), .ref (bm 14), .int hi])), ((bm 4), .inl ((km 4), 8, .inl ru)), ((bm 5), .inl ((km 5), 48, .inl td)), ((bm 8), .inl ((km 8), 279, .inl nw)), ((bm 10), .inl ((km 10), 11160, .inl kp))] H := hP.sub [4, 0, 1, 2, 3] rfl
      have hD : va_D A [((bm 0), .inr (10, [.int th, .ref (bm 1), .int tn, .int at_, .int wr, .ref (bm 2), .ref (bm 3), .int rm_, .ref (bm 4), .ref (bm 5), .int mn, .ref (bm 6), .ref (bm 7), .int sn, .ref (bm 8), .ref (bm 9), .ref (bm 10), .int ac, .long (o_14.2), .ref (bm 11), .ref (bm 12), .ref (bm 13), .ref (bm 14), .int hi])), ((bm 4), .inl ((km 4), 8, .inl ru)), ((bm 5), .inl ((km 5), 48, .inl td)), ((bm 8), .inl ((km 8), 279, .inl nw)), ((bm 10), .inl ((km 10), 11160, .inl kp))] := hD.sub [4, 0, 1, 2, 3] (by decide) rfl
      refine lv_iconst (v := 0) hx hb dX10_drawYear_75 (by decide) ?_
      refine lv_iconst (v := 0) hx hb dX10_drawYear_76 (by decide) ?_
      obtain ⟨o_16, r_17, hG⟩ := q_bi hG
      refine q_gov2 (wr := []) (va_runV (As := [.int 1, .int o_14.1, .int 0, .int 0]) (rest := []) ⟨hx, hb, hml, hown, hts⟩ (c_X10_tryOne l dC dI bm km th tn at_ wr rm_ mn sn ac hi (o_14.2) ru td nw kp 1 o_14.1 0 0 (va_A [((bm 0), .inr (10, [.int th, .ref (bm 1), .int tn, .int at_, .int wr, .ref (bm 2), .ref (bm 3), .int rm_, .ref (bm 4), .ref (bm 5), .int mn, .ref (bm 6), .ref (bm 7), .int sn, .ref (bm 8), .ref (bm 9), .ref (bm 10), .int ac, .long (o_14.2), .ref (bm 11), .ref (bm 12), .ref (bm 13), .ref (bm 14), .int hi])), ((bm 4), .inl ((km 4), 8, .inl ru)), ((bm 5), .inl ((km 5), 48, .inl td)), ((bm 8), .inl ((km 8), 279, .inl nw)), ((bm 10), .inl ((km 10), 11160, .inl kp))] H.size) o_16 r_17) (cwV 4 hts (q_gV m_1113 m_1114 m_1115 m_5 m_1116) rfl rfl rfl hdV_yX10_tryOne_4 ⟨Nat.le_of_ble_eq_true rfl, Nat.le_of_ble_eq_true rfl⟩) (q_preWV hK hP hD (q := (RX10, TX10, 24)) (ci := 10) (q0 := 0) rfl rfl [0, 1, 2, 3, 4] (by decide) rfl rfl [0, 1, 2, 3] rfl) rfl rfl hl.1 rfl (lv_room (Nat.le_of_ble_eq_true rfl)) dX10_drawYear_77 ⟨Nat.le_of_ble_eq_true rfl, Nat.le_of_ble_eq_true rfl⟩) hK hP hD hS hA [0, 1, 2, 3, 4] [] rfl rfl (by decide) (by decide) (fun _ H locs _ hP hD hK9 hS => ?_)
      have hP : va_P (dC, dI) vwCl [((bm 0), .inr (10, [.int th, .ref (bm 1), .int tn, .int at_, .int wr, .ref (bm 2), .ref (bm 3), .int rm_, .ref (bm 4), .ref (bm 5), .int mn, .ref (bm 6), .ref (bm 7), .int sn, .ref (bm 8), .ref (bm 9), .ref (bm 10), .int (o_16.1), .long (o_14.2), .ref (bm 11), .ref (bm 12), .ref (bm 13), .ref (bm 14), .int hi])), ((bm 4), .inl ((km 4), 8, .inl ru)), ((bm 5), .inl ((km 5), 48, .inl td)), ((bm 8), .inl ((km 8), 279, .inl (o_16.2.1))), ((bm 10), .inl ((km 10), 11160, .inl (o_16.2.2)))] H := hP.sub [0, 1, 2, 3, 4] rfl
      have hD : va_D A [((bm 0), .inr (10, [.int th, .ref (bm 1), .int tn, .int at_, .int wr, .ref (bm 2), .ref (bm 3), .int rm_, .ref (bm 4), .ref (bm 5), .int mn, .ref (bm 6), .ref (bm 7), .int sn, .ref (bm 8), .ref (bm 9), .ref (bm 10), .int (o_16.1), .long (o_14.2), .ref (bm 11), .ref (bm 12), .ref (bm 13), .ref (bm 14), .int hi])), ((bm 4), .inl ((km 4), 8, .inl ru)), ((bm 5), .inl ((km 5), 48, .inl td)), ((bm 8), .inl ((km 8), 279, .inl (o_16.2.1))), ((bm 10), .inl ((km 10), 11160, .inl (o_16.2.2)))] := hD.sub [0, 1, 2, 3, 4] (by decide) rfl
      refine lv_goto (tgt := 122) hx hb dX10_drawYear_80 (by decide) ?_
      obtain rfl := Option.some.inj hG
      have hP9 := hP.sub (ws' := [((bm 0), .inr (10, [.int th, .ref (bm 1), .int tn, .int at_, .int wr, .ref (bm 2), .ref (bm 3), .int rm_, .ref (bm 4), .ref (bm 5), .int mn, .ref (bm 6), .ref (bm 7), .int sn, .ref (bm 8), .ref (bm 9), .ref (bm 10), .int (o_16.1), .long (o_14.2), .ref (bm 11), .ref (bm 12), .ref (bm 13), .ref (bm 14), .int hi])), ((bm 4), .inl ((km 4), 8, .inl ru)), ((bm 5), .inl ((km 5), 48, .inl td)), ((bm 8), .inl ((km 8), 279, .inl (o_16.2.1))), ((bm 10), .inl ((km 10), 11160, .inl (o_16.2.2)))]) [0, 1, 2, 3, 4] rfl
      have hD9 := hD.sub (ws' := [((bm 0), .inr (10, [.int th, .ref (bm 1), .int tn, .int at_, .int wr, .ref (bm 2), .ref (bm 3), .int rm_, .ref (bm 4), .ref (bm 5), .int mn, .ref (bm 6), .ref (bm 7), .int sn, .ref (bm 8), .ref (bm 9), .ref (bm 10), .int (o_16.1), .long (o_14.2), .ref (bm 11), .ref (bm 12), .ref (bm 13), .ref (bm 14), .int hi])), ((bm 4), .inl ((km 4), 8, .inl ru)), ((bm 5), .inl ((km 5), 48, .inl td)), ((bm 8), .inl ((km 8), 279, .inl (o_16.2.1))), ((bm 10), .inl ((km 10), 11160, .inl (o_16.2.2)))]) [0, 1, 2, 3, 4] (by decide) rfl
      have hK9 := hK.sub (tys' := [((km 4), .int), ((km 5), .int), ((km 8), .int), ((km 10), .int)]) [0, 1, 2, 3] rfl
      exact W.vret hx hb hr (fun t ht hW => ⟨⟨(), rfl, trivial, by rw [ht]; exact hP9, va_K.moved hW.alike hK9, hD9⟩, hS.F ht⟩) hS.2.2 dX10_drawYear_122
  · have hG := q_ifn c_3 hG
    refine lv_aload_n hx hb dX10_drawYear_12 rfl (lv_at hl 1 rfl) ?_
    refine lv_aload_n hx hb dX10_drawYear_13 rfl (lv_at hl 1 rfl) ?_
    refine va_get (D := (dC, dI)) (ci := 10) (v := .int mn) (C := RX10) (T := TX10) (N := 24) hx hb hts iA_10 hown hK hP 0 rfl rfl 10 (by decide) (hts (.fieldLink RX10 132 "HubTreeModel" "many" "I") (List.mem_cons_of_mem _ m_433)) (fun _ h9 => h9) rfl dX10_drawYear_14 ?_
    obtain ⟨o_18, r_19, hG⟩ := q_bi hG
    refine q_goi2 (v := o_18.1) (wr := [((bm 4), .inl ((km 4), 8, .inl ru)), ((bm 5), .inl ((km 5), 48, .inl td)), ((bm 8), .inl ((km 8), 279, .inl nw)), ((bm 10), .inl ((km 10), 11160, .inl kp))]) (va_runV (As := [.int mn]) (rest := []) ⟨hx, hb, hml, hown, hts⟩ (c_X10_draw l dC dI bm km th tn at_ wr rm_ mn sn ac hi (o_1.2) mn (va_A [((bm 0), .inr (10, [.int th, .ref (bm 1), .int tn, .int at_, .int wr, .ref (bm 2), .ref (bm 3), .int rm_, .ref (bm 4), .ref (bm 5), .int mn, .ref (bm 6), .ref (bm 7), .int sn, .ref (bm 8), .ref (bm 9), .ref (bm 10), .int ac, .long (o_1.2), .ref (bm 11), .ref (bm 12), .ref (bm 13), .ref (bm 14), .int hi]))] H.size) o_18 r_19) (cwV 1 hts (q_gV m_1107 m_1108 m_1109 m_5 m_1110) rfl rfl rfl hdV_yX10_draw_1 ⟨Nat.le_of_ble_eq_true rfl, Nat.le_of_ble_eq_true rfl⟩) (q_preWV hK hP hD (q := (RX10, TX10, 24)) (ci := 10) (q0 := 0) rfl rfl [0] (by decide) rfl rfl [] rfl) rfl rfl hl.1 rfl (lv_room (Nat.le_of_ble_eq_true rfl)) dX10_drawYear_17 ⟨Nat.le_of_ble_eq_true rfl, Nat.le_of_ble_eq_true rfl⟩) hK hP hD hS hA [0] [1, 2, 3, 4] rfl rfl (by decide) (by decide) (fun _ H locs _ hP hD hK9 hS => ?_)
    have hP : va_P (dC, dI) vwCl [((bm 0), .inr (10, [.int th, .ref (bm 1), .int tn, .int at_, .int wr, .ref (bm 2), .ref (bm 3), .int rm_, .ref (bm 4), .ref (bm 5), .int mn, .ref (bm 6), .ref (bm 7), .int sn, .ref (bm 8), .ref (bm 9), .ref (bm 10), .int ac, .long (o_18.2), .ref (bm 11), .ref (bm 12), .ref (bm 13), .ref (bm 14), .int hi])), ((bm 4), .inl ((km 4), 8, .inl ru)), ((bm 5), .inl ((km 5), 48, .inl td)), ((bm 8), .inl ((km 8), 279, .inl nw)), ((bm 10), .inl ((km 10), 11160, .inl kp))] H := hP.sub [4, 0, 1, 2, 3] rfl
    have hD : va_D A [((bm 0), .inr (10, [.int th, .ref (bm 1), .int tn, .int at_, .int wr, .ref (bm 2), .ref (bm 3), .int rm_, .ref (bm 4), .ref (bm 5), .int mn, .ref (bm 6), .ref (bm 7), .int sn, .ref (bm 8), .ref (bm 9), .ref (bm 10), .int ac, .long (o_18.2), .ref (bm 11), .ref (bm 12), .ref (bm 13), .ref (bm 14), .int hi])), ((bm 4), .inl ((km 4), 8, .inl ru)), ((bm 5), .inl ((km 5), 48, .inl td)), ((bm 8), .inl ((km 8), 279, .inl nw)), ((bm 10), .inl ((km 10), 11160, .inl kp))] := hD.sub [4, 0, 1, 2, 3] (by decide) rfl
    refine lv_istore_n (lv' := [(2, .int o_18.1), (1, .int o_1.1), (0, .ref (bm 0))]) hx hb dX10_drawYear_20 rfl hl (by decide) rfl (fun ls hl => ?_)
    refine lv_aload_n hx hb dX10_drawYear_21 rfl (lv_at hl 2 rfl) ?_
    refine lv_aload_n hx hb dX10_drawYear_22 rfl (lv_at hl 2 rfl) ?_
    refine va_get (D := (dC, dI)) (ci := 10) (v := .int mn) (C := RX10) (T := TX10) (N := 24) hx hb hts iA_10 hown hK hP 0 rfl rfl 10 (by decide) (hts (.fieldLink RX10 132 "HubTreeModel" "many" "I") (List.mem_cons_of_mem _ m_433)) (fun _ h9 => h9) rfl dX10_drawYear_23 ?_
    refine lv_iconst (v := 1) hx hb dX10_drawYear_26 (by decide) ?_
    refine lv_iadd hx hb dX10_drawYear_27 ?_
    obtain ⟨o_20, r_21, hG⟩ := q_bi hG
    refine q_goi2 (v := o_20.1) (wr := [((bm 4), .inl ((km 4), 8, .inl ru)), ((bm 5), .inl ((km 5), 48, .inl td)), ((bm 8), .inl ((km 8), 279, .inl nw)), ((bm 10), .inl ((km 10), 11160, .inl kp))]) (va_runV (As := [.int (mn + 1)]) (rest := []) ⟨hx, hb, hml, hown, hts⟩ (c_X10_draw l dC dI bm km th tn at_ wr rm_ mn sn ac hi (o_18.2) (mn + 1) (va_A [((bm 0), .inr (10, [.int th, .ref (bm 1), .int tn, .int at_, .int wr, .ref (bm 2), .ref (bm 3), .int rm_, .ref (bm 4), .ref (bm 5), .int mn, .ref (bm 6), .ref (bm 7), .int sn, .ref (bm 8), .ref (bm 9), .ref (bm 10), .int ac, .long (o_18.2), .ref (bm 11), .ref (bm 12), .ref (bm 13), .ref (bm 14), .int hi]))] H.size) o_20 r_21) (cwV 1 hts (q_gV m_1107 m_1108 m_1109 m_5 m_1110) rfl rfl rfl hdV_yX10_draw_1 ⟨Nat.le_of_ble_eq_true rfl, Nat.le_of_ble_eq_true rfl⟩) (q_preWV hK hP hD (q := (RX10, TX10, 24)) (ci := 10) (q0 := 0) rfl rfl [0] (by decide) rfl rfl [] rfl) rfl rfl hl.1 rfl (lv_room (Nat.le_of_ble_eq_true rfl)) dX10_drawYear_28 ⟨Nat.le_of_ble_eq_true rfl, Nat.le_of_ble_eq_true rfl⟩) hK hP hD hS hA [0] [1, 2, 3, 4] rfl rfl (by decide) (by decide) (fun _ H locs _ hP hD hK9 hS => ?_)
    have hP : va_P (dC, dI) vwCl [((bm 0), .inr (10, [.int th, .ref (bm 1), .int tn, .int at_, .int wr, .ref (bm 2), .ref (bm 3), .int rm_, .ref (bm 4), .ref (bm 5), .int mn, .ref (bm 6), .ref (bm 7), .int sn, .ref (bm 8), .ref (bm 9), .ref (bm 10), .int ac, .long (o_20.2), .ref (bm 11), .ref (bm 12), .ref (bm 13), .ref (bm 14), .int hi])), ((bm 4), .inl ((km 4), 8, .inl ru)), ((bm 5), .inl ((km 5), 48, .inl td)), ((bm 8), .inl ((km 8), 279, .inl nw)), ((bm 10), .inl ((km 10), 11160, .inl kp))] H := hP.sub [4, 0, 1, 2, 3] rfl
    have hD : va_D A [((bm 0), .inr (10, [.int th, .ref (bm 1), .int tn, .int at_, .int wr, .ref (bm 2), .ref (bm 3), .int rm_, .ref (bm 4), .ref (bm 5), .int mn, .ref (bm 6), .ref (bm 7), .int sn, .ref (bm 8), .ref (bm 9), .ref (bm 10), .int ac, .long (o_20.2), .ref (bm 11), .ref (bm 12), .ref (bm 13), .ref (bm 14), .int hi])), ((bm 4), .inl ((km 4), 8, .inl ru)), ((bm 5), .inl ((km 5), 48, .inl td)), ((bm 8), .inl ((km 8), 279, .inl nw)), ((bm 10), .inl ((km 10), 11160, .inl kp))] := hD.sub [4, 0, 1, 2, 3] (by decide) rfl
    refine lv_istore_n (lv' := [(3, .int o_20.1), (2, .int o_18.1), (1, .int o_1.1), (0, .ref (bm 0))]) hx hb dX10_drawYear_31 rfl hl (by decide) rfl (fun ls hl => ?_)
    refine lv_aload_n hx hb dX10_drawYear_32 rfl (lv_at hl 3 rfl) ?_
    refine lv_iconst (v := 0) hx hb dX10_drawYear_33 (by decide) ?_
    refine lv_iload_n hx hb dX10_drawYear_34 rfl (lv_at hl 1 rfl) ?_
    refine lv_iload_n hx hb dX10_drawYear_35 rfl (lv_at hl 0 rfl) ?_
    refine lv_aload_n hx hb dX10_drawYear_36 rfl (lv_at hl 3 rfl) ?_
    refine va_get (D := (dC, dI)) (ci := 10) (v := .int mn) (C := RX10) (T := TX10) (N := 24) hx hb hts iA_10 hown hK hP 0 rfl rfl 10 (by decide) (hts (.fieldLink RX10 132 "HubTreeModel" "many" "I") (List.mem_cons_of_mem _ m_433)) (fun _ h9 => h9) rfl dX10_drawYear_37 ?_
    refine lv_icmp_ne (tgt := 48) hx hb dX10_drawYear_40 (by decide) (fun c_22 => ?_) (fun c_22 => ?_)
    · have hG := q_ifn c_22 hG
      refine lv_iload_n hx hb dX10_drawYear_48 rfl (lv_at hl 0 rfl) ?_
      refine lv_aload_n hx hb dX10_drawYear_49 rfl (lv_at hl 3 rfl) ?_
      refine lv_iconst (v := 4) hx hb dX10_drawYear_50 (by decide) ?_
      obtain ⟨o_23, r_24, hG⟩ := q_bi hG
      refine q_goi2 (v := o_23.1) (wr := [((bm 4), .inl ((km 4), 8, .inl ru)), ((bm 5), .inl ((km 5), 48, .inl td)), ((bm 8), .inl ((km 8), 279, .inl nw)), ((bm 10), .inl ((km 10), 11160, .inl kp))]) (va_runV (As := [.int 4]) (rest := [.int o_20.1, .int o_18.1, .int 0, .ref (bm 0)]) ⟨hx, hb, hml, hown, hts⟩ (c_X10_draw l dC dI bm km th tn at_ wr rm_ mn sn ac hi (o_20.2) 4 (va_A [((bm 0), .inr (10, [.int th, .ref (bm 1), .int tn, .int at_, .int wr, .ref (bm 2), .ref (bm 3), .int rm_, .ref (bm 4), .ref (bm 5), .int mn, .ref (bm 6), .ref (bm 7), .int sn, .ref (bm 8), .ref (bm 9), .ref (bm 10), .int ac, .long (o_20.2), .ref (bm 11), .ref (bm 12), .ref (bm 13), .ref (bm 14), .int hi]))] H.size) o_23 r_24) (cwV 1 hts (q_gV m_1107 m_1108 m_1109 m_5 m_1110) rfl rfl rfl hdV_yX10_draw_1 ⟨Nat.le_of_ble_eq_true rfl, Nat.le_of_ble_eq_true rfl⟩) (q_preWV hK hP hD (q := (RX10, TX10, 24)) (ci := 10) (q0 := 0) rfl rfl [0] (by decide) rfl rfl [] rfl) rfl rfl hl.1 rfl (lv_room (Nat.le_of_ble_eq_true rfl)) dX10_drawYear_51 ⟨Nat.le_of_ble_eq_true rfl, Nat.le_of_ble_eq_true rfl⟩) hK hP hD hS hA [0] [1, 2, 3, 4] rfl rfl (by decide) (by decide) (fun _ H locs _ hP hD hK9 hS => ?_)
      have hP : va_P (dC, dI) vwCl [((bm 0), .inr (10, [.int th, .ref (bm 1), .int tn, .int at_, .int wr, .ref (bm 2), .ref (bm 3), .int rm_, .ref (bm 4), .ref (bm 5), .int mn, .ref (bm 6), .ref (bm 7), .int sn, .ref (bm 8), .ref (bm 9), .ref (bm 10), .int ac, .long (o_23.2), .ref (bm 11), .ref (bm 12), .ref (bm 13), .ref (bm 14), .int hi])), ((bm 4), .inl ((km 4), 8, .inl ru)), ((bm 5), .inl ((km 5), 48, .inl td)), ((bm 8), .inl ((km 8), 279, .inl nw)), ((bm 10), .inl ((km 10), 11160, .inl kp))] H := hP.sub [4, 0, 1, 2, 3] rfl
      have hD : va_D A [((bm 0), .inr (10, [.int th, .ref (bm 1), .int tn, .int at_, .int wr, .ref (bm 2), .ref (bm 3), .int rm_, .ref (bm 4), .ref (bm 5), .int mn, .ref (bm 6), .ref (bm 7), .int sn, .ref (bm 8), .ref (bm 9), .ref (bm 10), .int ac, .long (o_23.2), .ref (bm 11), .ref (bm 12), .ref (bm 13), .ref (bm 14), .int hi])), ((bm 4), .inl ((km 4), 8, .inl ru)), ((bm 5), .inl ((km 5), 48, .inl td)), ((bm 8), .inl ((km 8), 279, .inl nw)), ((bm 10), .inl ((km 10), 11160, .inl kp))] := hD.sub [4, 0, 1, 2, 3] (by decide) rfl
      obtain ⟨o_25, r_26, hG⟩ := q_bi hG
      refine q_gov2 (wr := []) (va_runV (As := [.int 0, .int o_18.1, .int o_20.1, .int o_23.1]) (rest := []) ⟨hx, hb, hml, hown, hts⟩ (c_X10_tryOne l dC dI bm km th tn at_ wr rm_ mn sn ac hi (o_23.2) ru td nw kp 0 o_18.1 o_20.1 o_23.1 (va_A [((bm 0), .inr (10, [.int th, .ref (bm 1), .int tn, .int at_, .int wr, .ref (bm 2), .ref (bm 3), .int rm_, .ref (bm 4), .ref (bm 5), .int mn, .ref (bm 6), .ref (bm 7), .int sn, .ref (bm 8), .ref (bm 9), .ref (bm 10), .int ac, .long (o_23.2), .ref (bm 11), .ref (bm 12), .ref (bm 13), .ref (bm 14), .int hi])), ((bm 4), .inl ((km 4), 8, .inl ru)), ((bm 5), .inl ((km 5), 48, .inl td)), ((bm 8), .inl ((km 8), 279, .inl nw)), ((bm 10), .inl ((km 10), 11160, .inl kp))] H.size) o_25 r_26) (cwV 4 hts (q_gV m_1113 m_1114 m_1115 m_5 m_1116) rfl rfl rfl hdV_yX10_tryOne_4 ⟨Nat.le_of_ble_eq_true rfl, Nat.le_of_ble_eq_true rfl⟩) (q_preWV hK hP hD (q := (RX10, TX10, 24)) (ci := 10) (q0 := 0) rfl rfl [0, 1, 2, 3, 4] (by decide) rfl rfl [0, 1, 2, 3] rfl) rfl rfl hl.1 rfl (lv_room (Nat.le_of_ble_eq_true rfl)) dX10_drawYear_54 ⟨Nat.le_of_ble_eq_true rfl, Nat.le_of_ble_eq_true rfl⟩) hK hP hD hS hA [0, 1, 2, 3, 4] [] rfl rfl (by decide) (by decide) (fun _ H locs _ hP hD hK9 hS => ?_)
      have hP : va_P (dC, dI) vwCl [((bm 0), .inr (10, [.int th, .ref (bm 1), .int tn, .int at_, .int wr, .ref (bm 2), .ref (bm 3), .int rm_, .ref (bm 4), .ref (bm 5), .int mn, .ref (bm 6), .ref (bm 7), .int sn, .ref (bm 8), .ref (bm 9), .ref (bm 10), .int (o_25.1), .long (o_23.2), .ref (bm 11), .ref (bm 12), .ref (bm 13), .ref (bm 14), .int hi])), ((bm 4), .inl ((km 4), 8, .inl ru)), ((bm 5), .inl ((km 5), 48, .inl td)), ((bm 8), .inl ((km 8), 279, .inl (o_25.2.1))), ((bm 10), .inl ((km 10), 11160, .inl (o_25.2.2)))] H := hP.sub [0, 1, 2, 3, 4] rfl
      have hD : va_D A [((bm 0), .inr (10, [.int th, .ref (bm 1), .int tn, .int at_, .int wr, .ref (bm 2), .ref (bm 3), .int rm_, .ref (bm 4), .ref (bm 5), .int mn, .ref (bm 6), .ref (bm 7), .int sn, .ref (bm 8), .ref (bm 9), .ref (bm 10), .int (o_25.1), .long (o_23.2), .ref (bm 11), .ref (bm 12), .ref (bm 13), .ref (bm 14), .int hi])), ((bm 4), .inl ((km 4), 8, .inl ru)), ((bm 5), .inl ((km 5), 48, .inl td)), ((bm 8), .inl ((km 8), 279, .inl (o_25.2.1))), ((bm 10), .inl ((km 10), 11160, .inl (o_25.2.2)))] := hD.sub [0, 1, 2, 3, 4] (by decide) rfl
      refine lv_goto (tgt := 122) hx hb dX10_drawYear_57 (by decide) ?_
      obtain rfl := Option.some.inj hG
      have hP9 := hP.sub (ws' := [((bm 0), .inr (10, [.int th, .ref (bm 1), .int tn, .int at_, .int wr, .ref (bm 2), .ref (bm 3), .int rm_, .ref (bm 4), .ref (bm 5), .int mn, .ref (bm 6), .ref (bm 7), .int sn, .ref (bm 8), .ref (bm 9), .ref (bm 10), .int (o_25.1), .long (o_23.2), .ref (bm 11), .ref (bm 12), .ref (bm 13), .ref (bm 14), .int hi])), ((bm 4), .inl ((km 4), 8, .inl ru)), ((bm 5), .inl ((km 5), 48, .inl td)), ((bm 8), .inl ((km 8), 279, .inl (o_25.2.1))), ((bm 10), .inl ((km 10), 11160, .inl (o_25.2.2)))]) [0, 1, 2, 3, 4] rfl
      have hD9 := hD.sub (ws' := [((bm 0), .inr (10, [.int th, .ref (bm 1), .int tn, .int at_, .int wr, .ref (bm 2), .ref (bm 3), .int rm_, .ref (bm 4), .ref (bm 5), .int mn, .ref (bm 6), .ref (bm 7), .int sn, .ref (bm 8), .ref (bm 9), .ref (bm 10), .int (o_25.1), .long (o_23.2), .ref (bm 11), .ref (bm 12), .ref (bm 13), .ref (bm 14), .int hi])), ((bm 4), .inl ((km 4), 8, .inl ru)), ((bm 5), .inl ((km 5), 48, .inl td)), ((bm 8), .inl ((km 8), 279, .inl (o_25.2.1))), ((bm 10), .inl ((km 10), 11160, .inl (o_25.2.2)))]) [0, 1, 2, 3, 4] (by decide) rfl
      have hK9 := hK.sub (tys' := [((km 4), .int), ((km 5), .int), ((km 8), .int), ((km 10), .int)]) [0, 1, 2, 3] rfl
      exact W.vret hx hb hr (fun t ht hW => ⟨⟨(), rfl, trivial, by rw [ht]; exact hP9, va_K.moved hW.alike hK9, hD9⟩, hS.F ht⟩) hS.2.2 dX10_drawYear_122
    · have hG := q_ifp c_22 hG
      refine lv_bipush (v := 8) hx hb dX10_drawYear_43 (by decide) ?_
      refine lv_goto (tgt := 49) hx hb dX10_drawYear_45 (by decide) ?_
      refine lv_aload_n hx hb dX10_drawYear_49 rfl (lv_at hl 3 rfl) ?_
      refine lv_iconst (v := 4) hx hb dX10_drawYear_50 (by decide) ?_
      obtain ⟨o_27, r_28, hG⟩ := q_bi hG
      refine q_goi2 (v := o_27.1) (wr := [((bm 4), .inl ((km 4), 8, .inl ru)), ((bm 5), .inl ((km 5), 48, .inl td)), ((bm 8), .inl ((km 8), 279, .inl nw)), ((bm 10), .inl ((km 10), 11160, .inl kp))]) (va_runV (As := [.int 4]) (rest := [.int 8, .int o_18.1, .int 0, .ref (bm 0)]) ⟨hx, hb, hml, hown, hts⟩ (c_X10_draw l dC dI bm km th tn at_ wr rm_ mn sn ac hi (o_20.2) 4 (va_A [((bm 0), .inr (10, [.int th, .ref (bm 1), .int tn, .int at_, .int wr, .ref (bm 2), .ref (bm 3), .int rm_, .ref (bm 4), .ref (bm 5), .int mn, .ref (bm 6), .ref (bm 7), .int sn, .ref (bm 8), .ref (bm 9), .ref (bm 10), .int ac, .long (o_20.2), .ref (bm 11), .ref (bm 12), .ref (bm 13), .ref (bm 14), .int hi]))] H.size) o_27 r_28) (cwV 1 hts (q_gV m_1107 m_1108 m_1109 m_5 m_1110) rfl rfl rfl hdV_yX10_draw_1 ⟨Nat.le_of_ble_eq_true rfl, Nat.le_of_ble_eq_true rfl⟩) (q_preWV hK hP hD (q := (RX10, TX10, 24)) (ci := 10) (q0 := 0) rfl rfl [0] (by decide) rfl rfl [] rfl) rfl rfl hl.1 rfl (lv_room (Nat.le_of_ble_eq_true rfl)) dX10_drawYear_51 ⟨Nat.le_of_ble_eq_true rfl, Nat.le_of_ble_eq_true rfl⟩) hK hP hD hS hA [0] [1, 2, 3, 4] rfl rfl (by decide) (by decide) (fun _ H locs _ hP hD hK9 hS => ?_)
      have hP : va_P (dC, dI) vwCl [((bm 0), .inr (10, [.int th, .ref (bm 1), .int tn, .int at_, .int wr, .ref (bm 2), .ref (bm 3), .int rm_, .ref (bm 4), .ref (bm 5), .int mn, .ref (bm 6), .ref (bm 7), .int sn, .ref (bm 8), .ref (bm 9), .ref (bm 10), .int ac, .long (o_27.2), .ref (bm 11), .ref (bm 12), .ref (bm 13), .ref (bm 14), .int hi])), ((bm 4), .inl ((km 4), 8, .inl ru)), ((bm 5), .inl ((km 5), 48, .inl td)), ((bm 8), .inl ((km 8), 279, .inl nw)), ((bm 10), .inl ((km 10), 11160, .inl kp))] H := hP.sub [4, 0, 1, 2, 3] rfl
      have hD : va_D A [((bm 0), .inr (10, [.int th, .ref (bm 1), .int tn, .int at_, .int wr, .ref (bm 2), .ref (bm 3), .int rm_, .ref (bm 4), .ref (bm 5), .int mn, .ref (bm 6), .ref (bm 7), .int sn, .ref (bm 8), .ref (bm 9), .ref (bm 10), .int ac, .long (o_27.2), .ref (bm 11), .ref (bm 12), .ref (bm 13), .ref (bm 14), .int hi])), ((bm 4), .inl ((km 4), 8, .inl ru)), ((bm 5), .inl ((km 5), 48, .inl td)), ((bm 8), .inl ((km 8), 279, .inl nw)), ((bm 10), .inl ((km 10), 11160, .inl kp))] := hD.sub [4, 0, 1, 2, 3] (by decide) rfl
      obtain ⟨o_29, r_30, hG⟩ := q_bi hG
      refine q_gov2 (wr := []) (va_runV (As := [.int 0, .int o_18.1, .int 8, .int o_27.1]) (rest := []) ⟨hx, hb, hml, hown, hts⟩ (c_X10_tryOne l dC dI bm km th tn at_ wr rm_ mn sn ac hi (o_27.2) ru td nw kp 0 o_18.1 8 o_27.1 (va_A [((bm 0), .inr (10, [.int th, .ref (bm 1), .int tn, .int at_, .int wr, .ref (bm 2), .ref (bm 3), .int rm_, .ref (bm 4), .ref (bm 5), .int mn, .ref (bm 6), .ref (bm 7), .int sn, .ref (bm 8), .ref (bm 9), .ref (bm 10), .int ac, .long (o_27.2), .ref (bm 11), .ref (bm 12), .ref (bm 13), .ref (bm 14), .int hi])), ((bm 4), .inl ((km 4), 8, .inl ru)), ((bm 5), .inl ((km 5), 48, .inl td)), ((bm 8), .inl ((km 8), 279, .inl nw)), ((bm 10), .inl ((km 10), 11160, .inl kp))] H.size) o_29 r_30) (cwV 4 hts (q_gV m_1113 m_1114 m_1115 m_5 m_1116) rfl rfl rfl hdV_yX10_tryOne_4 ⟨Nat.le_of_ble_eq_true rfl, Nat.le_of_ble_eq_true rfl⟩) (q_preWV hK hP hD (q := (RX10, TX10, 24)) (ci := 10) (q0 := 0) rfl rfl [0, 1, 2, 3, 4] (by decide) rfl rfl [0, 1, 2, 3] rfl) rfl rfl hl.1 rfl (lv_room (Nat.le_of_ble_eq_true rfl)) dX10_drawYear_54 ⟨Nat.le_of_ble_eq_true rfl, Nat.le_of_ble_eq_true rfl⟩) hK hP hD hS hA [0, 1, 2, 3, 4] [] rfl rfl (by decide) (by decide) (fun _ H locs _ hP hD hK9 hS => ?_)
      have hP : va_P (dC, dI) vwCl [((bm 0), .inr (10, [.int th, .ref (bm 1), .int tn, .int at_, .int wr, .ref (bm 2), .ref (bm 3), .int rm_, .ref (bm 4), .ref (bm 5), .int mn, .ref (bm 6), .ref (bm 7), .int sn, .ref (bm 8), .ref (bm 9), .ref (bm 10), .int (o_29.1), .long (o_27.2), .ref (bm 11), .ref (bm 12), .ref (bm 13), .ref (bm 14), .int hi])), ((bm 4), .inl ((km 4), 8, .inl ru)), ((bm 5), .inl ((km 5), 48, .inl td)), ((bm 8), .inl ((km 8), 279, .inl (o_29.2.1))), ((bm 10), .inl ((km 10), 11160, .inl (o_29.2.2)))] H := hP.sub [0, 1, 2, 3, 4] rfl
      have hD : va_D A [((bm 0), .inr (10, [.int th, .ref (bm 1), .int tn, .int at_, .int wr, .ref (bm 2), .ref (bm 3), .int rm_, .ref (bm 4), .ref (bm 5), .int mn, .ref (bm 6), .ref (bm 7), .int sn, .ref (bm 8), .ref (bm 9), .ref (bm 10), .int (o_29.1), .long (o_27.2), .ref (bm 11), .ref (bm 12), .ref (bm 13), .ref (bm 14), .int hi])), ((bm 4), .inl ((km 4), 8, .inl ru)), ((bm 5), .inl ((km 5), 48, .inl td)), ((bm 8), .inl ((km 8), 279, .inl (o_29.2.1))), ((bm 10), .inl ((km 10), 11160, .inl (o_29.2.2)))] := hD.sub [0, 1, 2, 3, 4] (by decide) rfl
      refine lv_goto (tgt := 122) hx hb dX10_drawYear_57 (by decide) ?_
      obtain rfl := Option.some.inj hG
      have hP9 := hP.sub (ws' := [((bm 0), .inr (10, [.int th, .ref (bm 1), .int tn, .int at_, .int wr, .ref (bm 2), .ref (bm 3), .int rm_, .ref (bm 4), .ref (bm 5), .int mn, .ref (bm 6), .ref (bm 7), .int sn, .ref (bm 8), .ref (bm 9), .ref (bm 10), .int (o_29.1), .long (o_27.2), .ref (bm 11), .ref (bm 12), .ref (bm 13), .ref (bm 14), .int hi])), ((bm 4), .inl ((km 4), 8, .inl ru)), ((bm 5), .inl ((km 5), 48, .inl td)), ((bm 8), .inl ((km 8), 279, .inl (o_29.2.1))), ((bm 10), .inl ((km 10), 11160, .inl (o_29.2.2)))]) [0, 1, 2, 3, 4] rfl
      have hD9 := hD.sub (ws' := [((bm 0), .inr (10, [.int th, .ref (bm 1), .int tn, .int at_, .int wr, .ref (bm 2), .ref (bm 3), .int rm_, .ref (bm 4), .ref (bm 5), .int mn, .ref (bm 6), .ref (bm 7), .int sn, .ref (bm 8), .ref (bm 9), .ref (bm 10), .int (o_29.1), .long (o_27.2), .ref (bm 11), .ref (bm 12), .ref (bm 13), .ref (bm 14), .int hi])), ((bm 4), .inl ((km 4), 8, .inl ru)), ((bm 5), .inl ((km 5), 48, .inl td)), ((bm 8), .inl ((km 8), 279, .inl (o_29.2.1))), ((bm 10), .inl ((km 10), 11160, .inl (o_29.2.2)))]) [0, 1, 2, 3, 4] (by decide) rfl
      have hK9 := hK.sub (tys' := [((km 4), .int), ((km 5), .int), ((km 8), .int), ((km 10), .int)]) [0, 1, 2, 3] rfl
      exact W.vret hx hb hr (fun t ht hW => ⟨⟨(), rfl, trivial, by rw [ht]; exact hP9, va_K.moved hW.alike hK9, hD9⟩, hS.F ht⟩) hS.2.2 dX10_drawYear_122

def FL_X10_years_27 (mn : Int32) (ac : Int32) (dn : Int64) (ru : Nat → Int32) (td : Nat → Int32) (nw : Nat → Int32) (kp : Nat → Int32) (z1 : Int32) (z2 : Int64) : Nat → Int32 → (Int32) → (Int64) → (Nat → Int32) → (Nat → Int32) → Option (Int32 × Int32 × Int64 × (Nat → Int32) × (Nat → Int32))
  | 0, _, _, _, _, _ => none
  | n + 1, x4_27, ac_c, dn_c, nw_c, kp_c => (if z1 ≤ x4_27 then some ((nw_c 96), ac_c, dn_c, nw_c, kp_c) else ((F_X10_drawYear mn ac_c dn_c ru td nw_c kp_c).bind fun o_8 => (FL_X10_years_27 mn ac dn ru td nw kp z1 z2 n (x4_27 + 1) (o_8.1) (o_8.2.1) (o_8.2.2.1) (o_8.2.2.2))))

def F_X10_years (mn : Int32) (ac : Int32) (dn : Int64) (ru : Nat → Int32) (td : Nat → Int32) (nw : Nat → Int32) (kp : Nat → Int32) (z1 : Int32) (z2 : Int64) : Option (Int32 × Int32 × Int64 × (Nat → Int32) × (Nat → Int32)) := ((F_X10_isTree mn).bind fun o_1 => (if o_1 = 0 then some ((-1), ac, dn, nw, kp) else ((F_X10_in z1 1 40).bind fun o_4 => (if o_4 = 0 then some ((-1), ac, dn, nw, kp) else (FL_X10_years_27 mn ac dn ru td nw kp z1 z2 1000 0 ac z2 nw kp)))))
set_option maxHeartbeats 4000000 in
set_option maxRecDepth 100000 in
theorem c_X10_years (l : Launch) (dC : Nat → ClassId) (dI : Nat → Nat → Nat) (bm : Nat → Nat) (km : Nat → ClassId) (th : Int32) (tn : Int32) (at_ : Int32) (wr : Int32) (rm_ : Int32) (mn : Int32) (sn : Int32) (ac : Int32) (hi : Int32) (dn : Int64) (ru : Nat → Int32) (td : Nat → Int32) (nw : Nat → Int32) (kp : Nat → Int32) (z1 : Int32) (z2 : Int64) (A : Nat → Prop) (o : Int32 × Int32 × Int64 × (Nat → Int32) × (Nat → Int32)) (hG : F_X10_years mn ac dn ru td nw kp z1 z2 = some o) : Met l yX10_years (.code yX10_years cX10_years 5 (some .int) :: wA) ({ frames := 13, cells := 0, slots := 0, locals := 296 }) (va_Pc [.ref (bm 0), .int z1, .long z2] (q_W (dC, dI) A [((bm 0), .inr (10, [.int th, .ref (bm 1), .int tn, .int at_, .int wr, .ref (bm 2), .ref (bm 3), .int rm_, .ref (bm 4), .ref (bm 5), .int mn, .ref (bm 6), .ref (bm 7), .int sn, .ref (bm 8), .ref (bm 9), .ref (bm 10), .int ac, .long dn, .ref (bm 11), .ref (bm 12), .ref (bm 13), .ref (bm 14), .int hi])), ((bm 4), .inl ((km 4), 8, .inl ru)), ((bm 5), .inl ((km 5), 48, .inl td)), ((bm 8), .inl ((km 8), 279, .inl nw)), ((bm 10), .inl ((km 10), 11160, .inl kp))] [((km 4), .int), ((km 5), .int), ((km 8), .int), ((km 10), .int)])) (va_Qi (fun (r : Int32) (_ : Unit) => r = o.1 ∧ True) (fun (_ : Unit) t => q_B (dC, dI) A [((bm 0), .inr (10, [.int th, .ref (bm 1), .int tn, .int at_, .int wr, .ref (bm 2), .ref (bm 3), .int rm_, .ref (bm 4), .ref (bm 5), .int mn, .ref (bm 6), .ref (bm 7), .int sn, .ref (bm 8), .ref (bm 9), .ref (bm 10), .int (o.2.1), .long (o.2.2.1), .ref (bm 11), .ref (bm 12), .ref (bm 13), .ref (bm 14), .int hi])), ((bm 4), .inl ((km 4), 8, .inl ru)), ((bm 5), .inl ((km 5), 48, .inl td)), ((bm 8), .inl ((km 8), 279, .inl (o.2.2.2.1))), ((bm 10), .inl ((km 10), 11160, .inl (o.2.2.2.2)))] [((km 4), .int), ((km 5), .int), ((km 8), .int), ((km 10), .int)] t) A) 0 0 A := by
  refine Met.ofW (cc := cX10_years) (maxL := 5) (ret := (some .int)) (by decide) rfl ?_
  intro p e s m args below meth c s₁ B hml hv
  obtain ⟨rfl, hP, hK, hD, hA⟩ := hv
  have hx := B.exec
  have hb := B.bytes
  have hr := B.returns
  have hts := atoms_spec (ws := .code yX10_years cX10_years 5 (some .int) :: wA) B.pre
  have hown : s.vm.findClass RX10 = some m.cls := findClass_of_methodNamed B.named
  have hlocks := B.notSynchronized
  have hS : va_S A s.heap s.heap [] := va_S.rf
  have hl := lv_entry ([.ref (bm 0), .int z1, .long z2]) (n := 5) (Nat.le_of_ble_eq_true rfl)
  rw [lg_entry_eq]
  generalize (lg_sl ([.ref (bm 0), .int z1, .long z2]) ++ List.replicate (5 - (lg_sl ([.ref (bm 0), .int z1, .long z2])).length) Slot.unset).toArray = ls at hl ⊢
  have hl : lv_has ls 5 [(0, .ref (bm 0)), (1, .int z1), (2, .long z2)] := hl
  unfold F_X10_years at hG
  refine lv_aload_n hx hb dX10_years_0 rfl (lv_at hl 0 rfl) ?_
  obtain ⟨o_1, r_2, hG⟩ := q_bi hG
  refine q_goi (v := o_1) (va_runV (As := []) (rest := []) ⟨hx, hb, hml, hown, hts⟩ (c_X10_isTree l dC dI bm km th tn at_ wr rm_ mn sn ac hi dn o_1 r_2) (cwV 0 hts (q_gV m_454 m_455 m_456 m_5 m_457) rfl rfl rfl hdV_yX10_isTree_0 ⟨Nat.le_of_ble_eq_true rfl, Nat.le_of_ble_eq_true rfl⟩) (q_preV hK hP (q := (RX10, TX10, 24)) (ci := 10) (q0 := 0) rfl rfl [0] rfl [] rfl) rfl rfl hl.1 rfl (lv_room (Nat.le_of_ble_eq_true rfl)) dX10_years_1 ⟨Nat.le_of_ble_eq_true rfl, Nat.le_of_ble_eq_true rfl⟩) hP hS (fun H locs hP hS => ?_)
  refine lv_if_eq (tgt := 17) hx hb dX10_years_4 (by decide) (fun c_3 => ?_) (fun c_3 => ?_)
  · have hG := q_ifp c_3 hG
    refine lv_iconst (v := (-1)) hx hb dX10_years_17 (by decide) ?_
    obtain rfl := Option.some.inj hG
    have hP9 := hP.sub (ws' := [((bm 0), .inr (10, [.int th, .ref (bm 1), .int tn, .int at_, .int wr, .ref (bm 2), .ref (bm 3), .int rm_, .ref (bm 4), .ref (bm 5), .int mn, .ref (bm 6), .ref (bm 7), .int sn, .ref (bm 8), .ref (bm 9), .ref (bm 10), .int ac, .long dn, .ref (bm 11), .ref (bm 12), .ref (bm 13), .ref (bm 14), .int hi])), ((bm 4), .inl ((km 4), 8, .inl ru)), ((bm 5), .inl ((km 5), 48, .inl td)), ((bm 8), .inl ((km 8), 279, .inl nw)), ((bm 10), .inl ((km 10), 11160, .inl kp))]) [0, 1, 2, 3, 4] rfl
    have hD9 := hD.sub (ws' := [((bm 0), .inr (10, [.int th, .ref (bm 1), .int tn, .int at_, .int wr, .ref (bm 2), .ref (bm 3), .int rm_, .ref (bm 4), .ref (bm 5), .int mn, .ref (bm 6), .ref (bm 7), .int sn, .ref (bm 8), .ref (bm 9), .ref (bm 10), .int ac, .long dn, .ref (bm 11), .ref (bm 12), .ref (bm 13), .ref (bm 14), .int hi])), ((bm 4), .inl ((km 4), 8, .inl ru)), ((bm 5), .inl ((km 5), 48, .inl td)), ((bm 8), .inl ((km 8), 279, .inl nw)), ((bm 10), .inl ((km 10), 11160, .inl kp))]) [0, 1, 2, 3, 4] (by decide) rfl
    have hK9 := hK.sub (tys' := [((km 4), .int), ((km 5), .int), ((km 8), .int), ((km 10), .int)]) [0, 1, 2, 3] rfl
    exact W.iret (v := (-1)) hx hb hr (fun t ht hW => ⟨⟨(-1), (), rfl, ⟨rfl, trivial⟩, by rw [ht]; exact hP9, va_K.moved hW.alike hK9, hD9⟩, hS.F ht⟩) hS.2.2 dX10_years_18
  · have hG := q_ifn c_3 hG
    refine lv_iload_n hx hb dX10_years_7 rfl (lv_at hl 1 rfl) ?_
    refine lv_iconst (v := 1) hx hb dX10_years_8 (by decide) ?_
    refine lv_bipush (v := 40) hx hb dX10_years_9 (by decide) ?_
    obtain ⟨o_4, r_5, hG⟩ := q_bi hG
    refine q_goi (v := o_4) (va_runS (As := [.int z1, .int 1, .int 40]) (rest := []) ⟨hx, hb, hml, hown, hts⟩ (c_X10_in l dC dI z1 1 40 o_4 r_5) (va_cwS 3 hts (q_gS m_157 m_158 m_5 m_159) rfl rfl rfl hdS_yX10_in_3 ⟨Nat.le_of_ble_eq_true rfl, Nat.le_of_ble_eq_true rfl⟩) (q_preS hK hP [] rfl [] rfl) rfl rfl hl.1 rfl (lv_room (Nat.le_of_ble_eq_true rfl)) dX10_years_11 ⟨Nat.le_of_ble_eq_true rfl, Nat.le_of_ble_eq_true rfl⟩) hP hS (fun H locs hP hS => ?_)
    refine lv_if_ne (tgt := 19) hx hb dX10_years_14 (by decide) (fun c_6 => ?_) (fun c_6 => ?_)
    · have hG := q_ifn c_6 hG
      refine lv_aload_n hx hb dX10_years_19 rfl (lv_at hl 0 rfl) ?_
      refine lv_lload_n hx hb dX10_years_20 rfl (lv_at hl 2 rfl) ?_
      refine va_put (D := (dC, dI)) (ci := 10) (v := .long z2) (ty := .long) (C := RX10) (T := TX10) (N := 24) hx hb hts iA_10 tyX10 tyX10_ok nmX10 hown hK hP hD hS 0 rfl rfl 18 (by decide) (hts (.fieldLink RX10 340 "HubTreeModel" "drawn" "J") (List.mem_cons_of_mem _ m_1102)) (fun _ h9 => h9) rfl (by decide +kernel) rfl rfl (Nat.le_of_ble_eq_true rfl) dX10_years_21 (fun H locs hP hD hS => ?_)
      have hP : va_P (dC, dI) vwCl [((bm 0), .inr (10, [.int th, .ref (bm 1), .int tn, .int at_, .int wr, .ref (bm 2), .ref (bm 3), .int rm_, .ref (bm 4), .ref (bm 5), .int mn, .ref (bm 6), .ref (bm 7), .int sn, .ref (bm 8), .ref (bm 9), .ref (bm 10), .int ac, .long z2, .ref (bm 11), .ref (bm 12), .ref (bm 13), .ref (bm 14), .int hi])), ((bm 4), .inl ((km 4), 8, .inl ru)), ((bm 5), .inl ((km 5), 48, .inl td)), ((bm 8), .inl ((km 8), 279, .inl nw)), ((bm 10), .inl ((km 10), 11160, .inl kp))] H := hP
      have hD : va_D A [((bm 0), .inr (10, [.int th, .ref (bm 1), .int tn, .int at_, .int wr, .ref (bm 2), .ref (bm 3), .int rm_, .ref (bm 4), .ref (bm 5), .int mn, .ref (bm 6), .ref (bm 7), .int sn, .ref (bm 8), .ref (bm 9), .ref (bm 10), .int ac, .long z2, .ref (bm 11), .ref (bm 12), .ref (bm 13), .ref (bm 14), .int hi])), ((bm 4), .inl ((km 4), 8, .inl ru)), ((bm 5), .inl ((km 5), 48, .inl td)), ((bm 8), .inl ((km 8), 279, .inl nw)), ((bm 10), .inl ((km 10), 11160, .inl kp))] := hD
      refine lv_iconst (v := 0) hx hb dX10_years_24 (by decide) ?_
      refine lv_istore (lv' := [(4, .int 0), (0, .ref (bm 0)), (1, .int z1), (2, .long z2)]) hx hb dX10_years_25 hl (by decide) rfl (fun ls hl => ?_)
      have L_27 : ∀ (n_27 : Nat) (x4_27 : Int32) (ac_c : Int32) (dn_c : Int64) (nw_c : Nat → Int32) (kp_c : Nat → Int32) (H : Heap) (locs : List Loc) (ls : Array Slot), FL_X10_years_27 mn ac dn ru td nw kp z1 z2 n_27 x4_27 ac_c dn_c nw_c kp_c = some o → va_P (dC, dI) vwCl [((bm 0), .inr (10, [.int th, .ref (bm 1), .int tn, .int at_, .int wr, .ref (bm 2), .ref (bm 3), .int rm_, .ref (bm 4), .ref (bm 5), .int mn, .ref (bm 6), .ref (bm 7), .int sn, .ref (bm 8), .ref (bm 9), .ref (bm 10), .int ac_c, .long dn_c, .ref (bm 11), .ref (bm 12), .ref (bm 13), .ref (bm 14), .int hi])), ((bm 4), .inl ((km 4), 8, .inl ru)), ((bm 5), .inl ((km 5), 48, .inl td)), ((bm 8), .inl ((km 8), 279, .inl nw_c)), ((bm 10), .inl ((km 10), 11160, .inl kp_c))] H → va_D A [((bm 0), .inr (10, [.int th, .ref (bm 1), .int tn, .int at_, .int wr, .ref (bm 2), .ref (bm 3), .int rm_, .ref (bm 4), .ref (bm 5), .int mn, .ref (bm 6), .ref (bm 7), .int sn, .ref (bm 8), .ref (bm 9), .ref (bm 10), .int ac_c, .long dn_c, .ref (bm 11), .ref (bm 12), .ref (bm 13), .ref (bm 14), .int hi])), ((bm 4), .inl ((km 4), 8, .inl ru)), ((bm 5), .inl ((km 5), 48, .inl td)), ((bm 8), .inl ((km 8), 279, .inl nw_c)), ((bm 10), .inl ((km 10), 11160, .inl kp_c))] → va_S A s.heap H locs → lv_has ls 5 [(4, .int x4_27), (0, .ref (bm 0)), (1, .int z1), (2, .long z2)] → W p l e (headSpec (.code yX10_years cX10_years 5 (some .int) :: wA) ({ frames := 13, cells := 0, slots := 0, locals := 296 })).room s m #[.ref (bm 0), .int z1, .long z2] below meth c H locs 0 0 (MQ below (va_Qi (fun (r : Int32) (_ : Unit) => r = o.1 ∧ True) (fun (_ : Unit) t => q_B (dC, dI) A [((bm 0), .inr (10, [.int th, .ref (bm 1), .int tn, .int at_, .int wr, .ref (bm 2), .ref (bm 3), .int rm_, .ref (bm 4), .ref (bm 5), .int mn, .ref (bm 6), .ref (bm 7), .int sn, .ref (bm 8), .ref (bm 9), .ref (bm 10), .int (o.2.1), .long (o.2.2.1), .ref (bm 11), .ref (bm 12), .ref (bm 13), .ref (bm 14), .int hi])), ((bm 4), .inl ((km 4), 8, .inl ru)), ((bm 5), .inl ((km 5), 48, .inl td)), ((bm 8), .inl ((km 8), 279, .inl (o.2.2.2.1))), ((bm 10), .inl ((km 10), 11160, .inl (o.2.2.2.2)))] [((km 4), .int), ((km 5), .int), ((km 8), .int), ((km 10), .int)] t) A) #[.ref (bm 0), .int z1, .long z2] s 0 0 A) (F0 m 27 ls []) := by
        intro n_27
        induction n_27 with
        | zero =>
          intro x4_27 ac_c dn_c nw_c kp_c H locs ls hG
          exact q_no hG
        | succ n_27 ih_27 =>
          intro x4_27 ac_c dn_c nw_c kp_c H locs ls hG hP hD hS hl
          unfold FL_X10_years_27 at hG
          refine lv_iload hx hb dX10_years_27 (lv_at hl 0 rfl) ?_
          refine lv_iload_n hx hb dX10_years_29 rfl (lv_at hl 2 rfl) ?_
          refine lv_icmp_ge (tgt := 43) hx hb dX10_years_30 (by decide) (fun c_7 => ?_) (fun c_7 => ?_)
          · have hG := q_ifp c_7 hG
            refine lv_aload_n hx hb dX10_years_43 rfl (lv_at hl 1 rfl) ?_
            refine va_get (D := (dC, dI)) (ci := 10) (v := .ref (bm 8)) (C := RX10) (T := TX10) (N := 24) hx hb hts iA_10 hown hK hP 0 rfl rfl 14 (by decide) (hts (.fieldLink RX10 31 "HubTreeModel" "now" "[I") (List.mem_cons_of_mem _ m_122)) (fun _ h9 => h9) rfl dX10_years_44 ?_
            refine lv_bipush (v := 96) hx hb dX10_years_47 (by decide) ?_
            refine va_iald hx hb hK hP 3 2 rfl rfl (i := 96) (vp_in_iff.mpr (by decide)) dX10_years_49 ?_
            refine q_top (y := (nw_c 96)) rfl ?_
            obtain rfl := Option.some.inj hG
            have hP9 := hP.sub (ws' := [((bm 0), .inr (10, [.int th, .ref (bm 1), .int tn, .int at_, .int wr, .ref (bm 2), .ref (bm 3), .int rm_, .ref (bm 4), .ref (bm 5), .int mn, .ref (bm 6), .ref (bm 7), .int sn, .ref (bm 8), .ref (bm 9), .ref (bm 10), .int ac_c, .long dn_c, .ref (bm 11), .ref (bm 12), .ref (bm 13), .ref (bm 14), .int hi])), ((bm 4), .inl ((km 4), 8, .inl ru)), ((bm 5), .inl ((km 5), 48, .inl td)), ((bm 8), .inl ((km 8), 279, .inl nw_c)), ((bm 10), .inl ((km 10), 11160, .inl kp_c))]) [0, 1, 2, 3, 4] rfl
            have hD9 := hD.sub (ws' := [((bm 0), .inr (10, [.int th, .ref (bm 1), .int tn, .int at_, .int wr, .ref (bm 2), .ref (bm 3), .int rm_, .ref (bm 4), .ref (bm 5), .int mn, .ref (bm 6), .ref (bm 7), .int sn, .ref (bm 8), .ref (bm 9), .ref (bm 10), .int ac_c, .long dn_c, .ref (bm 11), .ref (bm 12), .ref (bm 13), .ref (bm 14), .int hi])), ((bm 4), .inl ((km 4), 8, .inl ru)), ((bm 5), .inl ((km 5), 48, .inl td)), ((bm 8), .inl ((km 8), 279, .inl nw_c)), ((bm 10), .inl ((km 10), 11160, .inl kp_c))]) [0, 1, 2, 3, 4] (by decide) rfl
            have hK9 := hK.sub (tys' := [((km 4), .int), ((km 5), .int), ((km 8), .int), ((km 10), .int)]) [0, 1, 2, 3] rfl
            exact W.iret (v := (nw_c 96)) hx hb hr (fun t ht hW => ⟨⟨(nw_c 96), (), rfl, ⟨rfl, trivial⟩, by rw [ht]; exact hP9, va_K.moved hW.alike hK9, hD9⟩, hS.F ht⟩) hS.2.2 dX10_years_50
          · have hG := q_ifn c_7 hG
            refine lv_aload_n hx hb dX10_years_33 rfl (lv_at hl 1 rfl) ?_
            obtain ⟨o_8, r_9, hG⟩ := q_bi hG
            refine q_gov2 (wr := []) (va_runV (As := []) (rest := []) ⟨hx, hb, hml, hown, hts⟩ (c_X10_drawYear l dC dI bm km th tn at_ wr rm_ mn sn ac_c hi dn_c ru td nw_c kp_c (va_A [((bm 0), .inr (10, [.int th, .ref (bm 1), .int tn, .int at_, .int wr, .ref (bm 2), .ref (bm 3), .int rm_, .ref (bm 4), .ref (bm 5), .int mn, .ref (bm 6), .ref (bm 7), .int sn, .ref (bm 8), .ref (bm 9), .ref (bm 10), .int ac_c, .long dn_c, .ref (bm 11), .ref (bm 12), .ref (bm 13), .ref (bm 14), .int hi])), ((bm 4), .inl ((km 4), 8, .inl ru)), ((bm 5), .inl ((km 5), 48, .inl td)), ((bm 8), .inl ((km 8), 279, .inl nw_c)), ((bm 10), .inl ((km 10), 11160, .inl kp_c))] H.size) o_8 r_9) (cwV 0 hts (q_gV m_1103 m_1104 m_1105 m_5 m_1106) rfl rfl rfl hdV_yX10_drawYear_0 ⟨Nat.le_of_ble_eq_true rfl, Nat.le_of_ble_eq_true rfl⟩) (q_preWV hK hP hD (q := (RX10, TX10, 24)) (ci := 10) (q0 := 0) rfl rfl [0, 1, 2, 3, 4] (by decide) rfl rfl [0, 1, 2, 3] rfl) rfl rfl hl.1 rfl (lv_room (Nat.le_of_ble_eq_true rfl)) dX10_years_34 ⟨Nat.le_of_ble_eq_true rfl, Nat.le_of_ble_eq_true rfl⟩) hK hP hD hS hA [0, 1, 2, 3, 4] [] rfl rfl (by decide) (by decide) (fun _ H locs _ hP hD hK9 hS => ?_)
            have hP : va_P (dC, dI) vwCl [((bm 0), .inr (10, [.int th, .ref (bm 1), .int tn, .int at_, .int wr, .ref (bm 2), .ref (bm 3), .int rm_, .ref (bm 4), .ref (bm 5), .int mn, .ref (bm 6), .ref (bm 7), .int sn, .ref (bm 8), .ref (bm 9), .ref (bm 10), .int (o_8.1), .long (o_8.2.1), .ref (bm 11), .ref (bm 12), .ref (bm 13), .ref (bm 14), .int hi])), ((bm 4), .inl ((km 4), 8, .inl ru)), ((bm 5), .inl ((km 5), 48, .inl td)), ((bm 8), .inl ((km 8), 279, .inl (o_8.2.2.1))), ((bm 10), .inl ((km 10), 11160, .inl (o_8.2.2.2)))] H := hP.sub [0, 1, 2, 3, 4] rfl
            have hD : va_D A [((bm 0), .inr (10, [.int th, .ref (bm 1), .int tn, .int at_, .int wr, .ref (bm 2), .ref (bm 3), .int rm_, .ref (bm 4), .ref (bm 5), .int mn, .ref (bm 6), .ref (bm 7), .int sn, .ref (bm 8), .ref (bm 9), .ref (bm 10), .int (o_8.1), .long (o_8.2.1), .ref (bm 11), .ref (bm 12), .ref (bm 13), .ref (bm 14), .int hi])), ((bm 4), .inl ((km 4), 8, .inl ru)), ((bm 5), .inl ((km 5), 48, .inl td)), ((bm 8), .inl ((km 8), 279, .inl (o_8.2.2.1))), ((bm 10), .inl ((km 10), 11160, .inl (o_8.2.2.2)))] := hD.sub [0, 1, 2, 3, 4] (by decide) rfl
            refine lv_iinc (v := (x4_27 + 1)) (lv' := [(4, .int (x4_27 + 1)), (0, .ref (bm 0)), (1, .int z1), (2, .long z2)]) hx hb dX10_years_37 hl (k := 0) rfl (rfl) (by decide) rfl (fun ls hl => ?_)
            refine lv_goto (tgt := 27) hx hb dX10_years_40 (by decide) ?_
            exact ih_27 (x4_27 + 1) (o_8.1) (o_8.2.1) (o_8.2.2.1) (o_8.2.2.2) H locs ls hG hP hD hS (lv_sub hl [0, 1, 2, 3] rfl)
      exact L_27 1000 0 ac z2 nw kp H locs ls hG hP hD hS hl
    · have hG := q_ifp c_6 hG
      refine lv_iconst (v := (-1)) hx hb dX10_years_17 (by decide) ?_
      obtain rfl := Option.some.inj hG
      have hP9 := hP.sub (ws' := [((bm 0), .inr (10, [.int th, .ref (bm 1), .int tn, .int at_, .int wr, .ref (bm 2), .ref (bm 3), .int rm_, .ref (bm 4), .ref (bm 5), .int mn, .ref (bm 6), .ref (bm 7), .int sn, .ref (bm 8), .ref (bm 9), .ref (bm 10), .int ac, .long dn, .ref (bm 11), .ref (bm 12), .ref (bm 13), .ref (bm 14), .int hi])), ((bm 4), .inl ((km 4), 8, .inl ru)), ((bm 5), .inl ((km 5), 48, .inl td)), ((bm 8), .inl ((km 8), 279, .inl nw)), ((bm 10), .inl ((km 10), 11160, .inl kp))]) [0, 1, 2, 3, 4] rfl
      have hD9 := hD.sub (ws' := [((bm 0), .inr (10, [.int th, .ref (bm 1), .int tn, .int at_, .int wr, .ref (bm 2), .ref (bm 3), .int rm_, .ref (bm 4), .ref (bm 5), .int mn, .ref (bm 6), .ref (bm 7), .int sn, .ref (bm 8), .ref (bm 9), .ref (bm 10), .int ac, .long dn, .ref (bm 11), .ref (bm 12), .ref (bm 13), .ref (bm 14), .int hi])), ((bm 4), .inl ((km 4), 8, .inl ru)), ((bm 5), .inl ((km 5), 48, .inl td)), ((bm 8), .inl ((km 8), 279, .inl nw)), ((bm 10), .inl ((km 10), 11160, .inl kp))]) [0, 1, 2, 3, 4] (by decide) rfl
      have hK9 := hK.sub (tys' := [((km 4), .int), ((km 5), .int), ((km 8), .int), ((km 10), .int)]) [0, 1, 2, 3] rfl
      exact W.iret (v := (-1)) hx hb hr (fun t ht hW => ⟨⟨(-1), (), rfl, ⟨rfl, trivial⟩, by rw [ht]; exact hP9, va_K.moved hW.alike hK9, hD9⟩, hS.F ht⟩) hS.2.2 dX10_years_18

def F_X10_status (rf : Nat → Int32) (z1 : Int32) : Option (Int32) := ((F_X10_in z1 0 3).bind fun o_1 => (if o_1 = 0 then some ((-1)) else (if z1 < 0 ∨ 4 ≤ (z1).toNatClampNeg then none else some ((rf (z1).toNatClampNeg)))))
set_option maxHeartbeats 4000000 in
set_option maxRecDepth 100000 in
theorem c_X10_status (l : Launch) (dC : Nat → ClassId) (dI : Nat → Nat → Nat) (bm : Nat → Nat) (km : Nat → ClassId) (th : Int32) (tn : Int32) (at_ : Int32) (wr : Int32) (rm_ : Int32) (mn : Int32) (sn : Int32) (ac : Int32) (hi : Int32) (dn : Int64) (rf : Nat → Int32) (z1 : Int32) (o : Int32) (hG : F_X10_status rf z1 = some o) : Met l yX10_status (.code yX10_status cX10_status 2 (some .int) :: wA) ({ frames := 1, cells := 0, slots := 0, locals := 22 }) (va_Pc [.ref (bm 0), .int z1] (q_R (dC, dI) [((bm 0), .inr (10, [.int th, .ref (bm 1), .int tn, .int at_, .int wr, .ref (bm 2), .ref (bm 3), .int rm_, .ref (bm 4), .ref (bm 5), .int mn, .ref (bm 6), .ref (bm 7), .int sn, .ref (bm 8), .ref (bm 9), .ref (bm 10), .int ac, .long dn, .ref (bm 11), .ref (bm 12), .ref (bm 13), .ref (bm 14), .int hi])), ((bm 9), .inl ((km 9), 4, .inl rf))] [((km 9), .int)])) (q_i o) 0 0 (fun _ => False) := by
  refine Met.ofW (cc := cX10_status) (maxL := 2) (ret := (some .int)) (by decide) rfl ?_
  intro p e s m args below meth c s₁ B hml hv
  obtain ⟨rfl, hP, hK⟩ := hv
  have hx := B.exec
  have hb := B.bytes
  have hr := B.returns
  have hts := atoms_spec (ws := .code yX10_status cX10_status 2 (some .int) :: wA) B.pre
  have hown : s.vm.findClass RX10 = some m.cls := findClass_of_methodNamed B.named
  have hlocks := B.notSynchronized
  have hS : va_S (fun _ => False) s.heap s.heap [] := va_S.rf
  have hl := lv_entry ([.ref (bm 0), .int z1]) (n := 2) (Nat.le_of_ble_eq_true rfl)
  rw [lg_entry_eq]
  generalize (lg_sl ([.ref (bm 0), .int z1]) ++ List.replicate (2 - (lg_sl ([.ref (bm 0), .int z1])).length) Slot.unset).toArray = ls at hl ⊢
  have hl : lv_has ls 2 [(0, .ref (bm 0)), (1, .int z1)] := hl
  unfold F_X10_status at hG
  refine lv_iload_n hx hb dX10_status_0 rfl (lv_at hl 1 rfl) ?_
  refine lv_iconst (v := 0) hx hb dX10_status_1 (by decide) ?_
  refine lv_iconst (v := 3) hx hb dX10_status_2 (by decide) ?_
  obtain ⟨o_1, r_2, hG⟩ := q_bi hG
  refine q_goi (v := o_1) (va_runS (As := [.int z1, .int 0, .int 3]) (rest := []) ⟨hx, hb, hml, hown, hts⟩ (c_X10_in l dC dI z1 0 3 o_1 r_2) (va_cwS 3 hts (q_gS m_157 m_158 m_5 m_159) rfl rfl rfl hdS_yX10_in_3 ⟨Nat.le_of_ble_eq_true rfl, Nat.le_of_ble_eq_true rfl⟩) (q_preS hK hP [] rfl [] rfl) rfl rfl hl.1 rfl (lv_room (Nat.le_of_ble_eq_true rfl)) dX10_status_3 ⟨Nat.le_of_ble_eq_true rfl, Nat.le_of_ble_eq_true rfl⟩) hP hS (fun H locs hP hS => ?_)
  refine lv_if_eq (tgt := 18) hx hb dX10_status_6 (by decide) (fun c_3 => ?_) (fun c_3 => ?_)
  · have hG := q_ifp c_3 hG
    refine lv_iconst (v := (-1)) hx hb dX10_status_18 (by decide) ?_
    obtain rfl := Option.some.inj hG
    exact W.iret (v := (-1)) hx hb hr (fun t ht hW => ⟨⟨(-1), (), rfl, rfl, trivial⟩, hS.F ht⟩) hS.2.2 dX10_status_19
  · have hG := q_ifn c_3 hG
    refine lv_aload_n hx hb dX10_status_9 rfl (lv_at hl 0 rfl) ?_
    refine va_get (D := (dC, dI)) (ci := 10) (v := .ref (bm 9)) (C := RX10) (T := TX10) (N := 24) hx hb hts iA_10 hown hK hP 0 rfl rfl 15 (by decide) (hts (.fieldLink RX10 34 "HubTreeModel" "refused" "[I") (List.mem_cons_of_mem _ m_123)) (fun _ h9 => h9) rfl dX10_status_10 ?_
    refine lv_iload_n hx hb dX10_status_13 rfl (lv_at hl 1 rfl) ?_
    obtain ⟨h_4, hG⟩ := q_ix hG
    refine va_iald hx hb hK hP 1 0 rfl rfl (i := z1) h_4 dX10_status_14 ?_
    refine q_top (y := (rf (z1).toNatClampNeg)) rfl ?_
    refine lv_goto (tgt := 19) hx hb dX10_status_15 (by decide) ?_
    obtain rfl := Option.some.inj hG
    exact W.iret (v := (rf (z1).toNatClampNeg)) hx hb hr (fun t ht hW => ⟨⟨(rf (z1).toNatClampNeg), (), rfl, rfl, trivial⟩, hS.F ht⟩) hS.2.2 dX10_status_19

def FL_X10_undo_21 (ac : Int32) (nw : Nat → Int32) (kp : Nat → Int32) : Nat → Int32 → (Int32) → (Nat → Int32) → Option (Int32 × Int32 × (Nat → Int32))
  | 0, _, _, _ => none
  | n + 1, x1_21, ac_c, nw_c => (if 279 ≤ x1_21 then some (ac_c, ac_c, nw_c) else (if ((279 * ac_c) + x1_21) < 0 ∨ 11160 ≤ (((279 * ac_c) + x1_21)).toNatClampNeg then none else (if x1_21 < 0 ∨ 279 ≤ (x1_21).toNatClampNeg then none else (FL_X10_undo_21 ac nw kp n (x1_21 + 1) ac_c (upd nw_c (x1_21).toNatClampNeg (kp ((279 * ac_c) + x1_21).toNatClampNeg))))))

def F_X10_undo (ac : Int32) (nw : Nat → Int32) (kp : Nat → Int32) : Option (Int32 × Int32 × (Nat → Int32)) := (if ac = 0 then some ((-1), ac, nw) else (FL_X10_undo_21 ac nw kp 1000 0 (ac - 1) nw))
set_option maxHeartbeats 4000000 in
set_option maxRecDepth 100000 in
theorem c_X10_undo (l : Launch) (dC : Nat → ClassId) (dI : Nat → Nat → Nat) (bm : Nat → Nat) (km : Nat → ClassId) (th : Int32) (tn : Int32) (at_ : Int32) (wr : Int32) (rm_ : Int32) (mn : Int32) (sn : Int32) (ac : Int32) (hi : Int32) (dn : Int64) (nw : Nat → Int32) (kp : Nat → Int32) (A : Nat → Prop) (o : Int32 × Int32 × (Nat → Int32)) (hG : F_X10_undo ac nw kp = some o) : Met l yX10_undo (.code yX10_undo cX10_undo 2 (some .int) :: wA) ({ frames := 0, cells := 0, slots := 0, locals := 0 }) (va_Pc [.ref (bm 0)] (q_W (dC, dI) A [((bm 0), .inr (10, [.int th, .ref (bm 1), .int tn, .int at_, .int wr, .ref (bm 2), .ref (bm 3), .int rm_, .ref (bm 4), .ref (bm 5), .int mn, .ref (bm 6), .ref (bm 7), .int sn, .ref (bm 8), .ref (bm 9), .ref (bm 10), .int ac, .long dn, .ref (bm 11), .ref (bm 12), .ref (bm 13), .ref (bm 14), .int hi])), ((bm 8), .inl ((km 8), 279, .inl nw)), ((bm 10), .inl ((km 10), 11160, .inl kp))] [((km 8), .int), ((km 10), .int)])) (va_Qi (fun (r : Int32) (_ : Unit) => r = o.1 ∧ True) (fun (_ : Unit) t => q_B (dC, dI) A [((bm 0), .inr (10, [.int th, .ref (bm 1), .int tn, .int at_, .int wr, .ref (bm 2), .ref (bm 3), .int rm_, .ref (bm 4), .ref (bm 5), .int mn, .ref (bm 6), .ref (bm 7), .int sn, .ref (bm 8), .ref (bm 9), .ref (bm 10), .int (o.2.1), .long dn, .ref (bm 11), .ref (bm 12), .ref (bm 13), .ref (bm 14), .int hi])), ((bm 8), .inl ((km 8), 279, .inl (o.2.2))), ((bm 10), .inl ((km 10), 11160, .inl kp))] [((km 8), .int), ((km 10), .int)] t) A) 0 0 A := by
  refine Met.ofW (cc := cX10_undo) (maxL := 2) (ret := (some .int)) (by decide) rfl ?_
  intro p e s m args below meth c s₁ B hml hv
  obtain ⟨rfl, hP, hK, hD, hA⟩ := hv
  have hx := B.exec
  have hb := B.bytes
  have hr := B.returns
  have hts := atoms_spec (ws := .code yX10_undo cX10_undo 2 (some .int) :: wA) B.pre
  have hown : s.vm.findClass RX10 = some m.cls := findClass_of_methodNamed B.named
  have hlocks := B.notSynchronized
  have hS : va_S A s.heap s.heap [] := va_S.rf
  have hl := lv_entry ([.ref (bm 0)]) (n := 2) (Nat.le_of_ble_eq_true rfl)
  rw [lg_entry_eq]
  generalize (lg_sl ([.ref (bm 0)]) ++ List.replicate (2 - (lg_sl ([.ref (bm 0)])).length) Slot.unset).toArray = ls at hl ⊢
  have hl : lv_has ls 2 [(0, .ref (bm 0))] := hl
  unfold F_X10_undo at hG
  refine lv_aload_n hx hb dX10_undo_0 rfl (lv_at hl 0 rfl) ?_
  refine va_get (D := (dC, dI)) (ci := 10) (v := .int ac) (C := RX10) (T := TX10) (N := 24) hx hb hts iA_10 hown hK hP 0 rfl rfl 17 (by decide) (hts (.fieldLink RX10 151 "HubTreeModel" "acts" "I") (List.mem_cons_of_mem _ m_434)) (fun _ h9 => h9) rfl dX10_undo_1 ?_
  refine lv_if_ne (tgt := 9) hx hb dX10_undo_4 (by decide) (fun c_1 => ?_) (fun c_1 => ?_)
  · have hG := q_ifn c_1 hG
    refine lv_aload_n hx hb dX10_undo_9 rfl (lv_at hl 0 rfl) ?_
    refine lv_dup hx hb dX10_undo_10 rfl ?_
    refine va_get (D := (dC, dI)) (ci := 10) (v := .int ac) (C := RX10) (T := TX10) (N := 24) hx hb hts iA_10 hown hK hP 0 rfl rfl 17 (by decide) (hts (.fieldLink RX10 151 "HubTreeModel" "acts" "I") (List.mem_cons_of_mem _ m_434)) (fun _ h9 => h9) rfl dX10_undo_11 ?_
    refine lv_iconst (v := 1) hx hb dX10_undo_14 (by decide) ?_
    refine lv_isub hx hb dX10_undo_15 ?_
    refine va_put (D := (dC, dI)) (ci := 10) (v := .int (ac - 1)) (ty := .int) (C := RX10) (T := TX10) (N := 24) hx hb hts iA_10 tyX10 tyX10_ok nmX10 hown hK hP hD hS 0 rfl rfl 17 (by decide) (hts (.fieldLink RX10 151 "HubTreeModel" "acts" "I") (List.mem_cons_of_mem _ m_434)) (fun _ h9 => h9) rfl (by decide +kernel) rfl rfl (Nat.le_of_ble_eq_true rfl) dX10_undo_16 (fun H locs hP hD hS => ?_)
    have hP : va_P (dC, dI) vwCl [((bm 0), .inr (10, [.int th, .ref (bm 1), .int tn, .int at_, .int wr, .ref (bm 2), .ref (bm 3), .int rm_, .ref (bm 4), .ref (bm 5), .int mn, .ref (bm 6), .ref (bm 7), .int sn, .ref (bm 8), .ref (bm 9), .ref (bm 10), .int (ac - 1), .long dn, .ref (bm 11), .ref (bm 12), .ref (bm 13), .ref (bm 14), .int hi])), ((bm 8), .inl ((km 8), 279, .inl nw)), ((bm 10), .inl ((km 10), 11160, .inl kp))] H := hP
    have hD : va_D A [((bm 0), .inr (10, [.int th, .ref (bm 1), .int tn, .int at_, .int wr, .ref (bm 2), .ref (bm 3), .int rm_, .ref (bm 4), .ref (bm 5), .int mn, .ref (bm 6), .ref (bm 7), .int sn, .ref (bm 8), .ref (bm 9), .ref (bm 10), .int (ac - 1), .long dn, .ref (bm 11), .ref (bm 12), .ref (bm 13), .ref (bm 14), .int hi])), ((bm 8), .inl ((km 8), 279, .inl nw)), ((bm 10), .inl ((km 10), 11160, .inl kp))] := hD
    refine lv_iconst (v := 0) hx hb dX10_undo_19 (by decide) ?_
    refine lv_istore_n (lv' := [(1, .int 0), (0, .ref (bm 0))]) hx hb dX10_undo_20 rfl hl (by decide) rfl (fun ls hl => ?_)
    have L_21 : ∀ (n_21 : Nat) (x1_21 : Int32) (ac_c : Int32) (nw_c : Nat → Int32) (H : Heap) (locs : List Loc) (ls : Array Slot), FL_X10_undo_21 ac nw kp n_21 x1_21 ac_c nw_c = some o → va_P (dC, dI) vwCl [((bm 0), .inr (10, [.int th, .ref (bm 1), .int tn, .int at_, .int wr, .ref (bm 2), .ref (bm 3), .int rm_, .ref (bm 4), .ref (bm 5), .int mn, .ref (bm 6), .ref (bm 7), .int sn, .ref (bm 8), .ref (bm 9), .ref (bm 10), .int ac_c, .long dn, .ref (bm 11), .ref (bm 12), .ref (bm 13), .ref (bm 14), .int hi])), ((bm 8), .inl ((km 8), 279, .inl nw_c)), ((bm 10), .inl ((km 10), 11160, .inl kp))] H → va_D A [((bm 0), .inr (10, [.int th, .ref (bm 1), .int tn, .int at_, .int wr, .ref (bm 2), .ref (bm 3), .int rm_, .ref (bm 4), .ref (bm 5), .int mn, .ref (bm 6), .ref (bm 7), .int sn, .ref (bm 8), .ref (bm 9), .ref (bm 10), .int ac_c, .long dn, .ref (bm 11), .ref (bm 12), .ref (bm 13), .ref (bm 14), .int hi])), ((bm 8), .inl ((km 8), 279, .inl nw_c)), ((bm 10), .inl ((km 10), 11160, .inl kp))] → va_S A s.heap H locs → lv_has ls 2 [(1, .int x1_21), (0, .ref (bm 0))] → W p l e (headSpec (.code yX10_undo cX10_undo 2 (some .int) :: wA) ({ frames := 0, cells := 0, slots := 0, locals := 0 })).room s m #[.ref (bm 0)] below meth c H locs 0 0 (MQ below (va_Qi (fun (r : Int32) (_ : Unit) => r = o.1 ∧ True) (fun (_ : Unit) t => q_B (dC, dI) A [((bm 0), .inr (10, [.int th, .ref (bm 1), .int tn, .int at_, .int wr, .ref (bm 2), .ref (bm 3), .int rm_, .ref (bm 4), .ref (bm 5), .int mn, .ref (bm 6), .ref (bm 7), .int sn, .ref (bm 8), .ref (bm 9), .ref (bm 10), .int (o.2.1), .long dn, .ref (bm 11), .ref (bm 12), .ref (bm 13), .ref (bm 14), .int hi])), ((bm 8), .inl ((km 8), 279, .inl (o.2.2))), ((bm 10), .inl ((km 10), 11160, .inl kp))] [((km 8), .int), ((km 10), .int)] t) A) #[.ref (bm 0)] s 0 0 A) (F0 m 21 ls []) := by
      intro n_21
      induction n_21 with
      | zero =>
        intro x1_21 ac_c nw_c H locs ls hG
        exact q_no hG
      | succ n_21 ih_21 =>
        intro x1_21 ac_c nw_c H locs ls hG hP hD hS hl
        unfold FL_X10_undo_21 at hG
        refine lv_iload_n hx hb dX10_undo_21 rfl (lv_at hl 0 rfl) ?_
        refine lv_sipush (v := 279) hx hb dX10_undo_22 (by decide) ?_
        refine lv_icmp_ge (tgt := 55) hx hb dX10_undo_25 (by decide) (fun c_2 => ?_) (fun c_2 => ?_)
        · have hG := q_ifp c_2 hG
          refine lv_aload_n hx hb dX10_undo_55 rfl (lv_at hl 1 rfl) ?_
          refine va_get (D := (dC, dI)) (ci := 10) (v := .int ac_c) (C := RX10) (T := TX10) (N := 24) hx hb hts iA_10 hown hK hP 0 rfl rfl 17 (by decide) (hts (.fieldLink RX10 151 "HubTreeModel" "acts" "I") (List.mem_cons_of_mem _ m_434)) (fun _ h9 => h9) rfl dX10_undo_56 ?_
          obtain rfl := Option.some.inj hG
          have hP9 := hP.sub (ws' := [((bm 0), .inr (10, [.int th, .ref (bm 1), .int tn, .int at_, .int wr, .ref (bm 2), .ref (bm 3), .int rm_, .ref (bm 4), .ref (bm 5), .int mn, .ref (bm 6), .ref (bm 7), .int sn, .ref (bm 8), .ref (bm 9), .ref (bm 10), .int ac_c, .long dn, .ref (bm 11), .ref (bm 12), .ref (bm 13), .ref (bm 14), .int hi])), ((bm 8), .inl ((km 8), 279, .inl nw_c)), ((bm 10), .inl ((km 10), 11160, .inl kp))]) [0, 1, 2] rfl
          have hD9 := hD.sub (ws' := [((bm 0), .inr (10, [.int th, .ref (bm 1), .int tn, .int at_, .int wr, .ref (bm 2), .ref (bm 3), .int rm_, .ref (bm 4), .ref (bm 5), .int mn, .ref (bm 6), .ref (bm 7), .int sn, .ref (bm 8), .ref (bm 9), .ref (bm 10), .int ac_c, .long dn, .ref (bm 11), .ref (bm 12), .ref (bm 13), .ref (bm 14), .int hi])), ((bm 8), .inl ((km 8), 279, .inl nw_c)), ((bm 10), .inl ((km 10), 11160, .inl kp))]) [0, 1, 2] (by decide) rfl
          have hK9 := hK.sub (tys' := [((km 8), .int), ((km 10), .int)]) [0, 1] rfl
          exact W.iret (v := ac_c) hx hb hr (fun t ht hW => ⟨⟨ac_c, (), rfl, ⟨rfl, trivial⟩, by rw [ht]; exact hP9, va_K.moved hW.alike hK9, hD9⟩, hS.F ht⟩) hS.2.2 dX10_undo_59
        · have hG := q_ifn c_2 hG
          refine lv_aload_n hx hb dX10_undo_28 rfl (lv_at hl 1 rfl) ?_
          refine va_get (D := (dC, dI)) (ci := 10) (v := .ref (bm 8)) (C := RX10) (T := TX10) (N := 24) hx hb hts iA_10 hown hK hP 0 rfl rfl 14 (by decide) (hts (.fieldLink RX10 31 "HubTreeModel" "now" "[I") (List.mem_cons_of_mem _ m_122)) (fun _ h9 => h9) rfl dX10_undo_29 ?_
          refine lv_iload_n hx hb dX10_undo_32 rfl (lv_at hl 0 rfl) ?_
          refine lv_aload_n hx hb dX10_undo_33 rfl (lv_at hl 1 rfl) ?_
          refine va_get (D := (dC, dI)) (ci := 10) (v := .ref (bm 10)) (C := RX10) (T := TX10) (N := 24) hx hb hts iA_10 hown hK hP 0 rfl rfl 16 (by decide) (hts (.fieldLink RX10 37 "HubTreeModel" "kept" "[I") (List.mem_cons_of_mem _ m_124)) (fun _ h9 => h9) rfl dX10_undo_34 ?_
          refine lv_sipush (v := 279) hx hb dX10_undo_37 (by decide) ?_
          refine lv_aload_n hx hb dX10_undo_40 rfl (lv_at hl 1 rfl) ?_
          refine va_get (D := (dC, dI)) (ci := 10) (v := .int ac_c) (C := RX10) (T := TX10) (N := 24) hx hb hts iA_10 hown hK hP 0 rfl rfl 17 (by decide) (hts (.fieldLink RX10 151 "HubTreeModel" "acts" "I") (List.mem_cons_of_mem _ m_434)) (fun _ h9 => h9) rfl dX10_undo_41 ?_
          refine lv_imul hx hb dX10_undo_44 ?_
          refine lv_iload_n hx hb dX10_undo_45 rfl (lv_at hl 0 rfl) ?_
          refine lv_iadd hx hb dX10_undo_46 ?_
          obtain ⟨h_3, hG⟩ := q_ix hG
          refine va_iald hx hb hK hP 2 1 rfl rfl (i := ((279 * ac_c) + x1_21)) h_3 dX10_undo_47 ?_
          refine q_top (y := (kp ((279 * ac_c) + x1_21).toNatClampNeg)) rfl ?_
          obtain ⟨h_4, hG⟩ := q_ix hG
          refine va_iast hx hb hK hP hD hS 1 0 rfl rfl (i := x1_21) (x := (kp ((279 * ac_c) + x1_21).toNatClampNeg)) h_4 dX10_undo_48 (fun H locs hP hD hS => ?_)
          have hP : va_P (dC, dI) vwCl [((bm 0), .inr (10, [.int th, .ref (bm 1), .int tn, .int at_, .int wr, .ref (bm 2), .ref (bm 3), .int rm_, .ref (bm 4), .ref (bm 5), .int mn, .ref (bm 6), .ref (bm 7), .int sn, .ref (bm 8), .ref (bm 9), .ref (bm 10), .int ac_c, .long dn, .ref (bm 11), .ref (bm 12), .ref (bm 13), .ref (bm 14), .int hi])), ((bm 8), .inl ((km 8), 279, .inl (upd nw_c (x1_21).toNatClampNeg (kp ((279 * ac_c) + x1_21).toNatClampNeg)))), ((bm 10), .inl ((km 10), 11160, .inl kp))] H := hP
          have hD : va_D A [((bm 0), .inr (10, [.int th, .ref (bm 1), .int tn, .int at_, .int wr, .ref (bm 2), .ref (bm 3), .int rm_, .ref (bm 4), .ref (bm 5), .int mn, .ref (bm 6), .ref (bm 7), .int sn, .ref (bm 8), .ref (bm 9), .ref (bm 10), .int ac_c, .long dn, .ref (bm 11), .ref (bm 12), .ref (bm 13), .ref (bm 14), .int hi])), ((bm 8), .inl ((km 8), 279, .inl (upd nw_c (x1_21).toNatClampNeg (kp ((279 * ac_c) + x1_21).toNatClampNeg)))), ((bm 10), .inl ((km 10), 11160, .inl kp))] := hD
          refine lv_iinc (v := (x1_21 + 1)) (lv' := [(1, .int (x1_21 + 1)), (0, .ref (bm 0))]) hx hb dX10_undo_49 hl (k := 0) rfl (rfl) (by decide) rfl (fun ls hl => ?_)
          refine lv_goto (tgt := 21) hx hb dX10_undo_52 (by decide) ?_
          exact ih_21 (x1_21 + 1) ac_c (upd nw_c (x1_21).toNatClampNeg (kp ((279 * ac_c) + x1_21).toNatClampNeg)) H locs ls hG hP hD hS (lv_sub hl [0, 1] rfl)
    exact L_21 1000 0 (ac - 1) nw H locs ls hG hP hD hS hl
  · have hG := q_ifp c_1 hG
    refine lv_iconst (v := (-1)) hx hb dX10_undo_7 (by decide) ?_
    obtain rfl := Option.some.inj hG
    have hP9 := hP.sub (ws' := [((bm 0), .inr (10, [.int th, .ref (bm 1), .int tn, .int at_, .int wr, .ref (bm 2), .ref (bm 3), .int rm_, .ref (bm 4), .ref (bm 5), .int mn, .ref (bm 6), .ref (bm 7), .int sn, .ref (bm 8), .ref (bm 9), .ref (bm 10), .int ac, .long dn, .ref (bm 11), .ref (bm 12), .ref (bm 13), .ref (bm 14), .int hi])), ((bm 8), .inl ((km 8), 279, .inl nw)), ((bm 10), .inl ((km 10), 11160, .inl kp))]) [0, 1, 2] rfl
    have hD9 := hD.sub (ws' := [((bm 0), .inr (10, [.int th, .ref (bm 1), .int tn, .int at_, .int wr, .ref (bm 2), .ref (bm 3), .int rm_, .ref (bm 4), .ref (bm 5), .int mn, .ref (bm 6), .ref (bm 7), .int sn, .ref (bm 8), .ref (bm 9), .ref (bm 10), .int ac, .long dn, .ref (bm 11), .ref (bm 12), .ref (bm 13), .ref (bm 14), .int hi])), ((bm 8), .inl ((km 8), 279, .inl nw)), ((bm 10), .inl ((km 10), 11160, .inl kp))]) [0, 1, 2] (by decide) rfl
    have hK9 := hK.sub (tys' := [((km 8), .int), ((km 10), .int)]) [0, 1] rfl
    exact W.iret (v := (-1)) hx hb hr (fun t ht hW => ⟨⟨(-1), (), rfl, ⟨rfl, trivial⟩, by rw [ht]; exact hP9, va_K.moved hW.alike hK9, hD9⟩, hS.F ht⟩) hS.2.2 dX10_undo_8

def F_X10_log (nw : Nat → Int32) (z1 : Int32) (z2 : Int32) : Option (Int32) := ((F_X10_in z1 0 ((nw 98) - 1)).bind fun o_1 => (if o_1 = 0 then some ((-1000000)) else ((F_X10_in z2 0 2).bind fun o_4 => (if o_4 = 0 then some ((-1000000)) else (if ((99 + (3 * (((nw 98) - 1) - z1))) + z2) < 0 ∨ 279 ≤ (((99 + (3 * (((nw 98) - 1) - z1))) + z2)).toNatClampNeg then none else some ((nw ((99 + (3 * (((nw 98) - 1) - z1))) + z2).toNatClampNeg)))))))
set_option maxHeartbeats 4000000 in
set_option maxRecDepth 100000 in
theorem c_X10_log (l : Launch) (dC : Nat → ClassId) (dI : Nat → Nat → Nat) (bm : Nat → Nat) (km : Nat → ClassId) (th : Int32) (tn : Int32) (at_ : Int32) (wr : Int32) (rm_ : Int32) (mn : Int32) (sn : Int32) (ac : Int32) (hi : Int32) (dn : Int64) (nw : Nat → Int32) (z1 : Int32) (z2 : Int32) (o : Int32) (hG : F_X10_log nw z1 z2 = some o) : Met l yX10_log (.code yX10_log cX10_log 3 (some .int) :: wA) ({ frames := 1, cells := 0, slots := 0, locals := 22 }) (va_Pc [.ref (bm 0), .int z1, .int z2] (q_R (dC, dI) [((bm 0), .inr (10, [.int th, .ref (bm 1), .int tn, .int at_, .int wr, .ref (bm 2), .ref (bm 3), .int rm_, .ref (bm 4), .ref (bm 5), .int mn, .ref (bm 6), .ref (bm 7), .int sn, .ref (bm 8), .ref (bm 9), .ref (bm 10), .int ac, .long dn, .ref (bm 11), .ref (bm 12), .ref (bm 13), .ref (bm 14), .int hi])), ((bm 8), .inl ((km 8), 279, .inl nw))] [((km 8), .int)])) (q_i o) 0 0 (fun _ => False) := by
  refine Met.ofW (cc := cX10_log) (maxL := 3) (ret := (some .int)) (by decide) rfl ?_
  intro p e s m args below meth c s₁ B hml hv
  obtain ⟨rfl, hP, hK⟩ := hv
  have hx := B.exec
  have hb := B.bytes
  have hr := B.returns
  have hts := atoms_spec (ws := .code yX10_log cX10_log 3 (some .int) :: wA) B.pre
  have hown : s.vm.findClass RX10 = some m.cls := findClass_of_methodNamed B.named
  have hlocks := B.notSynchronized
  have hS : va_S (fun _ => False) s.heap s.heap [] := va_S.rf
  have hl := lv_entry ([.ref (bm 0), .int z1, .int z2]) (n := 3) (Nat.le_of_ble_eq_true rfl)
  rw [lg_entry_eq]
  generalize (lg_sl ([.ref (bm 0), .int z1, .int z2]) ++ List.replicate (3 - (lg_sl ([.ref (bm 0), .int z1, .int z2])).length) Slot.unset).toArray = ls at hl ⊢
  have hl : lv_has ls 3 [(0, .ref (bm 0)), (1, .int z1), (2, .int z2)] := hl
  unfold F_X10_log at hG
  refine lv_iload_n hx hb dX10_log_0 rfl (lv_at hl 1 rfl) ?_
  refine lv_iconst (v := 0) hx hb dX10_log_1 (by decide) ?_
  refine lv_aload_n hx hb dX10_log_2 rfl (lv_at hl 0 rfl) ?_
  refine va_get (D := (dC, dI)) (ci := 10) (v := .ref (bm 8)) (C := RX10) (T := TX10) (N := 24) hx hb hts iA_10 hown hK hP 0 rfl rfl 14 (by decide) (hts (.fieldLink RX10 31 "HubTreeModel" "now" "[I") (List.mem_cons_of_mem _ m_122)) (fun _ h9 => h9) rfl dX10_log_3 ?_
  refine lv_bipush (v := 98) hx hb dX10_log_6 (by decide) ?_
  refine va_iald hx hb hK hP 1 0 rfl rfl (i := 98) (vp_in_iff.mpr (by decide)) dX10_log_8 ?_
  refine q_top (y := (nw 98)) rfl ?_
  refine lv_iconst (v := 1) hx hb dX10_log_9 (by decide) ?_
  refine lv_isub hx hb dX10_log_10 ?_
  obtain ⟨o_1, r_2, hG⟩ := q_bi hG
  refine q_goi (v := o_1) (va_runS (As := [.int z1, .int 0, .int ((nw 98) - 1)]) (rest := []) ⟨hx, hb, hml, hown, hts⟩ (c_X10_in l dC dI z1 0 ((nw 98) - 1) o_1 r_2) (va_cwS 3 hts (q_gS m_157 m_158 m_5 m_159) rfl rfl rfl hdS_yX10_in_3 ⟨Nat.le_of_ble_eq_true rfl, Nat.le_of_ble_eq_true rfl⟩) (q_preS hK hP [] rfl [] rfl) rfl rfl hl.1 rfl (lv_room (Nat.le_of_ble_eq_true rfl)) dX10_log_11 ⟨Nat.le_of_ble_eq_true rfl, Nat.le_of_ble_eq_true rfl⟩) hP hS (fun H locs hP hS => ?_)
  refine lv_if_eq (tgt := 52) hx hb dX10_log_14 (by decide) (fun c_3 => ?_) (fun c_3 => ?_)
  · have hG := q_ifp c_3 hG
    refine lv_ldcw (v := (-1000000)) hx hb hown (hts (.constant RX10 358 (-1000000)) (List.mem_cons_of_mem _ m_620)) dX10_log_52 ?_
    obtain rfl := Option.some.inj hG
    exact W.iret (v := (-1000000)) hx hb hr (fun t ht hW => ⟨⟨(-1000000), (), rfl, rfl, trivial⟩, hS.F ht⟩) hS.2.2 dX10_log_55
  · have hG := q_ifn c_3 hG
    refine lv_iload_n hx hb dX10_log_17 rfl (lv_at hl 2 rfl) ?_
    refine lv_iconst (v := 0) hx hb dX10_log_18 (by decide) ?_
    refine lv_iconst (v := 2) hx hb dX10_log_19 (by decide) ?_
    obtain ⟨o_4, r_5, hG⟩ := q_bi hG
    refine q_goi (v := o_4) (va_runS (As := [.int z2, .int 0, .int 2]) (rest := []) ⟨hx, hb, hml, hown, hts⟩ (c_X10_in l dC dI z2 0 2 o_4 r_5) (va_cwS 3 hts (q_gS m_157 m_158 m_5 m_159) rfl rfl rfl hdS_yX10_in_3 ⟨Nat.le_of_ble_eq_true rfl, Nat.le_of_ble_eq_true rfl⟩) (q_preS hK hP [] rfl [] rfl) rfl rfl hl.1 rfl (lv_room (Nat.le_of_ble_eq_true rfl)) dX10_log_20 ⟨Nat.le_of_ble_eq_true rfl, Nat.le_of_ble_eq_true rfl⟩) hP hS (fun H locs hP hS => ?_)
    refine lv_if_eq (tgt := 52) hx hb dX10_log_23 (by decide) (fun c_6 => ?_) (fun c_6 => ?_)
    · have hG := q_ifp c_6 hG
      refine lv_ldcw (v := (-1000000)) hx hb hown (hts (.constant RX10 358 (-1000000)) (List.mem_cons_of_mem _ m_620)) dX10_log_52 ?_
      obtain rfl := Option.some.inj hG
      exact W.iret (v := (-1000000)) hx hb hr (fun t ht hW => ⟨⟨(-1000000), (), rfl, rfl, trivial⟩, hS.F ht⟩) hS.2.2 dX10_log_55
    · have hG := q_ifn c_6 hG
      refine lv_aload_n hx hb dX10_log_26 rfl (lv_at hl 0 rfl) ?_
      refine va_get (D := (dC, dI)) (ci := 10) (v := .ref (bm 8)) (C := RX10) (T := TX10) (N := 24) hx hb hts iA_10 hown hK hP 0 rfl rfl 14 (by decide) (hts (.fieldLink RX10 31 "HubTreeModel" "now" "[I") (List.mem_cons_of_mem _ m_122)) (fun _ h9 => h9) rfl dX10_log_27 ?_
      refine lv_bipush (v := 99) hx hb dX10_log_30 (by decide) ?_
      refine lv_iconst (v := 3) hx hb dX10_log_32 (by decide) ?_
      refine lv_aload_n hx hb dX10_log_33 rfl (lv_at hl 0 rfl) ?_
      refine va_get (D := (dC, dI)) (ci := 10) (v := .ref (bm 8)) (C := RX10) (T := TX10) (N := 24) hx hb hts iA_10 hown hK hP 0 rfl rfl 14 (by decide) (hts (.fieldLink RX10 31 "HubTreeModel" "now" "[I") (List.mem_cons_of_mem _ m_122)) (fun _ h9 => h9) rfl dX10_log_34 ?_
      refine lv_bipush (v := 98) hx hb dX10_log_37 (by decide) ?_
      refine va_iald hx hb hK hP 1 0 rfl rfl (i := 98) (vp_in_iff.mpr (by decide)) dX10_log_39 ?_
      refine q_top (y := (nw 98)) rfl ?_
      refine lv_iconst (v := 1) hx hb dX10_log_40 (by decide) ?_
      refine lv_isub hx hb dX10_log_41 ?_
      refine lv_iload_n hx hb dX10_log_42 rfl (lv_at hl 1 rfl) ?_
      refine lv_isub hx hb dX10_log_43 ?_
      refine lv_imul hx hb dX10_log_44 ?_
      refine lv_iadd hx hb dX10_log_45 ?_
      refine lv_iload_n hx hb dX10_log_46 rfl (lv_at hl 2 rfl) ?_
      refine lv_iadd hx hb dX10_log_47 ?_
      obtain ⟨h_7, hG⟩ := q_ix hG
      refine va_iald hx hb hK hP 1 0 rfl rfl (i := ((99 + (3 * (((nw 98) - 1) - z1))) + z2)) h_7 dX10_log_48 ?_
      refine q_top (y := (nw ((99 + (3 * (((nw 98) - 1) - z1))) + z2).toNatClampNeg)) rfl ?_
      refine lv_goto (tgt := 55) hx hb dX10_log_49 (by decide) ?_
      obtain rfl := Option.some.inj hG
      exact W.iret (v := (nw ((99 + (3 * (((nw 98) - 1) - z1))) + z2).toNatClampNeg)) hx hb hr (fun t ht hW => ⟨⟨(nw ((99 + (3 * (((nw 98) - 1) - z1))) + z2).toNatClampNeg), (), rfl, rfl, trivial⟩, hS.F ht⟩) hS.2.2 dX10_log_55

def F_X10_rule (mn : Int32) (ru : Nat → Int32) (z1 : Int32) : Option (Int32) := ((F_X10_isTree mn).bind fun o_1 => (if o_1 = 0 then some ((-1)) else ((F_X10_in z1 0 7).bind fun o_4 => (if o_4 = 0 then some ((-1)) else (if z1 < 0 ∨ 8 ≤ (z1).toNatClampNeg then none else some ((ru (z1).toNatClampNeg)))))))
set_option maxHeartbeats 4000000 in
set_option maxRecDepth 100000 in
theorem c_X10_rule (l : Launch) (dC : Nat → ClassId) (dI : Nat → Nat → Nat) (bm : Nat → Nat) (km : Nat → ClassId) (th : Int32) (tn : Int32) (at_ : Int32) (wr : Int32) (rm_ : Int32) (mn : Int32) (sn : Int32) (ac : Int32) (hi : Int32) (dn : Int64) (ru : Nat → Int32) (z1 : Int32) (o : Int32) (hG : F_X10_rule mn ru z1 = some o) : Met l yX10_rule (.code yX10_rule cX10_rule 2 (some .int) :: wA) ({ frames := 1, cells := 0, slots := 0, locals := 22 }) (va_Pc [.ref (bm 0), .int z1] (q_R (dC, dI) [((bm 0), .inr (10, [.int th, .ref (bm 1), .int tn, .int at_, .int wr, .ref (bm 2), .ref (bm 3), .int rm_, .ref (bm 4), .ref (bm 5), .int mn, .ref (bm 6), .ref (bm 7), .int sn, .ref (bm 8), .ref (bm 9), .ref (bm 10), .int ac, .long dn, .ref (bm 11), .ref (bm 12), .ref (bm 13), .ref (bm 14), .int hi])), ((bm 4), .inl ((km 4), 8, .inl ru))] [((km 4), .int)])) (q_i o) 0 0 (fun _ => False) := by
  refine Met.ofW (cc := cX10_rule) (maxL := 2) (ret := (some .int)) (by decide) rfl ?_
  intro p e s m args below meth c s₁ B hml hv
  obtain ⟨rfl, hP, hK⟩ := hv
  have hx := B.exec
  have hb := B.bytes
  have hr := B.returns
  have hts := atoms_spec (ws := .code yX10_rule cX10_rule 2 (some .int) :: wA) B.pre
  have hown : s.vm.findClass RX10 = some m.cls := findClass_of_methodNamed B.named
  have hlocks := B.notSynchronized
  have hS : va_S (fun _ => False) s.heap s.heap [] := va_S.rf
  have hl := lv_entry ([.ref (bm 0), .int z1]) (n := 2) (Nat.le_of_ble_eq_true rfl)
  rw [lg_entry_eq]
  generalize (lg_sl ([.ref (bm 0), .int z1]) ++ List.replicate (2 - (lg_sl ([.ref (bm 0), .int z1])).length) Slot.unset).toArray = ls at hl ⊢
  have hl : lv_has ls 2 [(0, .ref (bm 0)), (1, .int z1)] := hl
  unfold F_X10_rule at hG
  refine lv_aload_n hx hb dX10_rule_0 rfl (lv_at hl 0 rfl) ?_
  obtain ⟨o_1, r_2, hG⟩ := q_bi hG
  refine q_goi (v := o_1) (va_runV (As := []) (rest := []) ⟨hx, hb, hml, hown, hts⟩ (c_X10_isTree l dC dI bm km th tn at_ wr rm_ mn sn ac hi dn o_1 r_2) (cwV 0 hts (q_gV m_454 m_455 m_456 m_5 m_457) rfl rfl rfl hdV_yX10_isTree_0 ⟨Nat.le_of_ble_eq_true rfl, Nat.le_of_ble_eq_true rfl⟩) (q_preV hK hP (q := (RX10, TX10, 24)) (ci := 10) (q0 := 0) rfl rfl [0] rfl [] rfl) rfl rfl hl.1 rfl (lv_room (Nat.le_of_ble_eq_true rfl)) dX10_rule_1 ⟨Nat.le_of_ble_eq_true rfl, Nat.le_of_ble_eq_true rfl⟩) hP hS (fun H locs hP hS => ?_)
  refine lv_if_eq (tgt := 26) hx hb dX10_rule_4 (by decide) (fun c_3 => ?_) (fun c_3 => ?_)
  · have hG := q_ifp c_3 hG
    refine lv_iconst (v := (-1)) hx hb dX10_rule_26 (by decide) ?_
    obtain rfl := Option.some.inj hG
    exact W.iret (v := (-1)) hx hb hr (fun t ht hW => ⟨⟨(-1), (), rfl, rfl, trivial⟩, hS.F ht⟩) hS.2.2 dX10_rule_27
  · have hG := q_ifn c_3 hG
    refine lv_iload_n hx hb dX10_rule_7 rfl (lv_at hl 1 rfl) ?_
    refine lv_iconst (v := 0) hx hb dX10_rule_8 (by decide) ?_
    refine lv_bipush (v := 7) hx hb dX10_rule_9 (by decide) ?_
    obtain ⟨o_4, r_5, hG⟩ := q_bi hG
    refine q_goi (v := o_4) (va_runS (As := [.int z1, .int 0, .int 7]) (rest := []) ⟨hx, hb, hml, hown, hts⟩ (c_X10_in l dC dI z1 0 7 o_4 r_5) (va_cwS 3 hts (q_gS m_157 m_158 m_5 m_159) rfl rfl rfl hdS_yX10_in_3 ⟨Nat.le_of_ble_eq_true rfl, Nat.le_of_ble_eq_true rfl⟩) (q_preS hK hP [] rfl [] rfl) rfl rfl hl.1 rfl (lv_room (Nat.le_of_ble_eq_true rfl)) dX10_rule_11 ⟨Nat.le_of_ble_eq_true rfl, Nat.le_of_ble_eq_true rfl⟩) hP hS (fun H locs hP hS => ?_)
    refine lv_if_eq (tgt := 26) hx hb dX10_rule_14 (by decide) (fun c_6 => ?_) (fun c_6 => ?_)
    · have hG := q_ifp c_6 hG
      refine lv_iconst (v := (-1)) hx hb dX10_rule_26 (by decide) ?_
      obtain rfl := Option.some.inj hG
      exact W.iret (v := (-1)) hx hb hr (fun t ht hW => ⟨⟨(-1), (), rfl, rfl, trivial⟩, hS.F ht⟩) hS.2.2 dX10_rule_27
    · have hG := q_ifn c_6 hG
      refine lv_aload_n hx hb dX10_rule_17 rfl (lv_at hl 0 rfl) ?_
      refine va_get (D := (dC, dI)) (ci := 10) (v := .ref (bm 4)) (C := RX10) (T := TX10) (N := 24) hx hb hts iA_10 hown hK hP 0 rfl rfl 8 (by decide) (hts (.fieldLink RX10 19 "HubTreeModel" "rule" "[I") (List.mem_cons_of_mem _ m_118)) (fun _ h9 => h9) rfl dX10_rule_18 ?_
      refine lv_iload_n hx hb dX10_rule_21 rfl (lv_at hl 1 rfl) ?_
      obtain ⟨h_7, hG⟩ := q_ix hG
      refine va_iald hx hb hK hP 1 0 rfl rfl (i := z1) h_7 dX10_rule_22 ?_
      refine q_top (y := (ru (z1).toNatClampNeg)) rfl ?_
      refine lv_goto (tgt := 27) hx hb dX10_rule_23 (by decide) ?_
      obtain rfl := Option.some.inj hG
      exact W.iret (v := (ru (z1).toNatClampNeg)) hx hb hr (fun t ht hW => ⟨⟨(ru (z1).toNatClampNeg), (), rfl, rfl, trivial⟩, hS.F ht⟩) hS.2.2 dX10_rule_27

def F_X10_told (mn : Int32) (td : Nat → Int32) (nw : Nat → Int32) (z1 : Int32) (z2 : Int32) : Option (Int32) := ((F_X10_isDevice mn z1).bind fun o_1 => (if o_1 = 0 then some ((-1)) else ((F_X10_in z2 0 5).bind fun o_4 => (if o_4 = 0 then some ((-1)) else (if z2 = 5 then (if (80 + z1) < 0 ∨ 279 ≤ ((80 + z1)).toNatClampNeg then none else some ((nw (80 + z1).toNatClampNeg))) else ((F_X10_toldOf td z1 z2).bind fun o_8 => some (o_8)))))))
set_option maxHeartbeats 4000000 in
set_option maxRecDepth 100000 in
theorem c_X10_told (l : Launch) (dC : Nat → ClassId) (dI : Nat → Nat → Nat) (bm : Nat → Nat) (km : Nat → ClassId) (th : Int32) (tn : Int32) (at_ : Int32) (wr : Int32) (rm_ : Int32) (mn : Int32) (sn : Int32) (ac : Int32) (hi : Int32) (dn : Int64) (td : Nat → Int32) (nw : Nat → Int32) (z1 : Int32) (z2 : Int32) (o : Int32) (hG : F_X10_told mn td nw z1 z2 = some o) : Met l yX10_told (.code yX10_told cX10_told 3 (some .int) :: wA) ({ frames := 2, cells := 0, slots := 0, locals := 43 }) (va_Pc [.ref (bm 0), .int z1, .int z2] (q_R (dC, dI) [((bm 0), .inr (10, [.int th, .ref (bm 1), .int tn, .int at_, .int wr, .ref (bm 2), .ref (bm 3), .int rm_, .ref (bm 4), .ref (bm 5), .int mn, .ref (bm 6), .ref (bm 7), .int sn, .ref (bm 8), .ref (bm 9), .ref (bm 10), .int ac, .long dn, .ref (bm 11), .ref (bm 12), .ref (bm 13), .ref (bm 14), .int hi])), ((bm 5), .inl ((km 5), 48, .inl td)), ((bm 8), .inl ((km 8), 279, .inl nw))] [((km 5), .int), ((km 8), .int)])) (q_i o) 0 0 (fun _ => False) := by
  refine Met.ofW (cc := cX10_told) (maxL := 3) (ret := (some .int)) (by decide) rfl ?_
  intro p e s m args below meth c s₁ B hml hv
  obtain ⟨rfl, hP, hK⟩ := hv
  have hx := B.exec
  have hb := B.bytes
  have hr := B.returns
  have hts := atoms_spec (ws := .code yX10_told cX10_told 3 (some .int) :: wA) B.pre
  have hown : s.vm.findClass RX10 = some m.cls := findClass_of_methodNamed B.named
  have hlocks := B.notSynchronized
  have hS : va_S (fun _ => False) s.heap s.heap [] := va_S.rf
  have hl := lv_entry ([.ref (bm 0), .int z1, .int z2]) (n := 3) (Nat.le_of_ble_eq_true rfl)
  rw [lg_entry_eq]
  generalize (lg_sl ([.ref (bm 0), .int z1, .int z2]) ++ List.replicate (3 - (lg_sl ([.ref (bm 0), .int z1, .int z2])).length) Slot.unset).toArray = ls at hl ⊢
  have hl : lv_has ls 3 [(0, .ref (bm 0)), (1, .int z1), (2, .int z2)] := hl
  unfold F_X10_told at hG
  refine lv_aload_n hx hb dX10_told_0 rfl (lv_at hl 0 rfl) ?_
  refine lv_iload_n hx hb dX10_told_1 rfl (lv_at hl 1 rfl) ?_
  obtain ⟨o_1, r_2, hG⟩ := q_bi hG
  refine q_goi (v := o_1) (va_runV (As := [.int z1]) (rest := []) ⟨hx, hb, hml, hown, hts⟩ (c_X10_isDevice l dC dI bm km th tn at_ wr rm_ mn sn ac hi dn z1 o_1 r_2) (cwV 1 hts (q_gV m_472 m_473 m_474 m_5 m_475) rfl rfl rfl hdV_yX10_isDevice_1 ⟨Nat.le_of_ble_eq_true rfl, Nat.le_of_ble_eq_true rfl⟩) (q_preV hK hP (q := (RX10, TX10, 24)) (ci := 10) (q0 := 0) rfl rfl [0] rfl [] rfl) rfl rfl hl.1 rfl (lv_room (Nat.le_of_ble_eq_true rfl)) dX10_told_2 ⟨Nat.le_of_ble_eq_true rfl, Nat.le_of_ble_eq_true rfl⟩) hP hS (fun H locs hP hS => ?_)
  refine lv_if_eq (tgt := 17) hx hb dX10_told_5 (by decide) (fun c_3 => ?_) (fun c_3 => ?_)
  · have hG := q_ifp c_3 hG
    refine lv_iconst (v := (-1)) hx hb dX10_told_17 (by decide) ?_
    obtain rfl := Option.some.inj hG
    exact W.iret (v := (-1)) hx hb hr (fun t ht hW => ⟨⟨(-1), (), rfl, rfl, trivial⟩, hS.F ht⟩) hS.2.2 dX10_told_18
  · have hG := q_ifn c_3 hG
    refine lv_iload_n hx hb dX10_told_8 rfl (lv_at hl 2 rfl) ?_
    refine lv_iconst (v := 0) hx hb dX10_told_9 (by decide) ?_
    refine lv_iconst (v := 5) hx hb dX10_told_10 (by decide) ?_
    obtain ⟨o_4, r_5, hG⟩ := q_bi hG
    refine q_goi (v := o_4) (va_runS (As := [.int z2, .int 0, .int 5]) (rest := []) ⟨hx, hb, hml, hown, hts⟩ (c_X10_in l dC dI z2 0 5 o_4 r_5) (va_cwS 3 hts (q_gS m_157 m_158 m_5 m_159) rfl rfl rfl hdS_yX10_in_3 ⟨Nat.le_of_ble_eq_true rfl, Nat.le_of_ble_eq_true rfl⟩) (q_preS hK hP [] rfl [] rfl) rfl rfl hl.1 rfl (lv_room (Nat.le_of_ble_eq_true rfl)) dX10_told_11 ⟨Nat.le_of_ble_eq_true rfl, Nat.le_of_ble_eq_true rfl⟩) hP hS (fun H locs hP hS => ?_)
    refine lv_if_ne (tgt := 19) hx hb dX10_told_14 (by decide) (fun c_6 => ?_) (fun c_6 => ?_)
    · have hG := q_ifn c_6 hG
      refine lv_iload_n hx hb dX10_told_19 rfl (lv_at hl 2 rfl) ?_
      refine lv_iconst (v := 5) hx hb dX10_told_20 (by decide) ?_
      refine lv_icmp_ne (tgt := 36) hx hb dX10_told_21 (by decide) (fun c_7 => ?_) (fun c_7 => ?_)
      · have hG := q_ifn c_7 hG
        refine lv_aload_n hx hb dX10_told_36 rfl (lv_at hl 0 rfl) ?_
        refine lv_iload_n hx hb dX10_told_37 rfl (lv_at hl 1 rfl) ?_
        refine lv_iload_n hx hb dX10_told_38 rfl (lv_at hl 2 rfl) ?_
        obtain ⟨o_8, r_9, hG⟩ := q_bi hG
        refine q_goi (v := o_8) (va_runV (As := [.int z1, .int z2]) (rest := []) ⟨hx, hb, hml, hown, hts⟩ (c_X10_toldOf l dC dI bm km th tn at_ wr rm_ mn sn ac hi dn td z1 z2 o_8 r_9) (cwV 2 hts (q_gV m_440 m_441 m_442 m_5 m_443) rfl rfl rfl hdV_yX10_toldOf_2 ⟨Nat.le_of_ble_eq_true rfl, Nat.le_of_ble_eq_true rfl⟩) (q_preV hK hP (q := (RX10, TX10, 24)) (ci := 10) (q0 := 0) rfl rfl [0, 1] rfl [0] rfl) rfl rfl hl.1 rfl (lv_room (Nat.le_of_ble_eq_true rfl)) dX10_told_39 ⟨Nat.le_of_ble_eq_true rfl, Nat.le_of_ble_eq_true rfl⟩) hP hS (fun H locs hP hS => ?_)
        obtain rfl := Option.some.inj hG
        exact W.iret (v := o_8) hx hb hr (fun t ht hW => ⟨⟨o_8, (), rfl, rfl, trivial⟩, hS.F ht⟩) hS.2.2 dX10_told_42
      · have hG := q_ifp c_7 hG
        refine lv_aload_n hx hb dX10_told_24 rfl (lv_at hl 0 rfl) ?_
        refine va_get (D := (dC, dI)) (ci := 10) (v := .ref (bm 8)) (C := RX10) (T := TX10) (N := 24) hx hb hts iA_10 hown hK hP 0 rfl rfl 14 (by decide) (hts (.fieldLink RX10 31 "HubTreeModel" "now" "[I") (List.mem_cons_of_mem _ m_122)) (fun _ h9 => h9) rfl dX10_told_25 ?_
        refine lv_bipush (v := 80) hx hb dX10_told_28 (by decide) ?_
        refine lv_iload_n hx hb dX10_told_30 rfl (lv_at hl 1 rfl) ?_
        refine lv_iadd hx hb dX10_told_31 ?_
        obtain ⟨h_10, hG⟩ := q_ix hG
        refine va_iald hx hb hK hP 2 1 rfl rfl (i := (80 + z1)) h_10 dX10_told_32 ?_
        refine q_top (y := (nw (80 + z1).toNatClampNeg)) rfl ?_
        refine lv_goto (tgt := 42) hx hb dX10_told_33 (by decide) ?_
        obtain rfl := Option.some.inj hG
        exact W.iret (v := (nw (80 + z1).toNatClampNeg)) hx hb hr (fun t ht hW => ⟨⟨(nw (80 + z1).toNatClampNeg), (), rfl, rfl, trivial⟩, hS.F ht⟩) hS.2.2 dX10_told_42
    · have hG := q_ifp c_6 hG
      refine lv_iconst (v := (-1)) hx hb dX10_told_17 (by decide) ?_
      obtain rfl := Option.some.inj hG
      exact W.iret (v := (-1)) hx hb hr (fun t ht hW => ⟨⟨(-1), (), rfl, rfl, trivial⟩, hS.F ht⟩) hS.2.2 dX10_told_18

def F_X10_device (th : Int32) (mn : Int32) (td : Nat → Int32) (nw : Nat → Int32) (z1 : Int32) (z2 : Int32) : Option (Int32 × Int32) := ((F_X10_isDevice mn z1).bind fun o_1 => (if o_1 = 0 then some (0, 1) else ((F_X10_in z2 0 12).bind fun o_5 => (if o_5 = 0 then some (0, 1) else (if z2 = 10 then ((F_X10_depthOf nw z1).bind fun o_11 => some (o_11, 0)) else (if z2 = 11 then ((F_X10_takesOf td nw z1).bind fun o_14 => some (o_14, 0)) else (if z2 = 12 then (if (88 + z1) < 0 ∨ 279 ≤ ((88 + z1)).toNatClampNeg then none else some ((nw (88 + z1).toNatClampNeg), 0)) else (if ((8 * z2) + z1) < 0 ∨ 279 ≤ (((8 * z2) + z1)).toNatClampNeg then none else some ((nw ((8 * z2) + z1).toNatClampNeg), 0)))))))))
set_option maxHeartbeats 4000000 in
set_option maxRecDepth 100000 in
theorem c_X10_device (l : Launch) (dC : Nat → ClassId) (dI : Nat → Nat → Nat) (bm : Nat → Nat) (km : Nat → ClassId) (th : Int32) (tn : Int32) (at_ : Int32) (wr : Int32) (rm_ : Int32) (mn : Int32) (sn : Int32) (ac : Int32) (hi : Int32) (dn : Int64) (td : Nat → Int32) (nw : Nat → Int32) (z1 : Int32) (z2 : Int32) (A : Nat → Prop) (o : Int32 × Int32) (hG : F_X10_device th mn td nw z1 z2 = some o) : Met l yX10_device (.code yX10_device cX10_device 3 (some .int) :: wA) ({ frames := 3, cells := 0, slots := 0, locals := 64 }) (va_Pc [.ref (bm 0), .int z1, .int z2] (q_W (dC, dI) A [((bm 0), .inr (10, [.int th, .ref (bm 1), .int tn, .int at_, .int wr, .ref (bm 2), .ref (bm 3), .int rm_, .ref (bm 4), .ref (bm 5), .int mn, .ref (bm 6), .ref (bm 7), .int sn, .ref (bm 8), .ref (bm 9), .ref (bm 10), .int ac, .long dn, .ref (bm 11), .ref (bm 12), .ref (bm 13), .ref (bm 14), .int hi])), ((bm 5), .inl ((km 5), 48, .inl td)), ((bm 8), .inl ((km 8), 279, .inl nw))] [((km 5), .int), ((km 8), .int)])) (va_Qi (fun (r : Int32) (_ : Unit) => r = o.1 ∧ True) (fun (_ : Unit) t => q_B (dC, dI) A [((bm 0), .inr (10, [.int (o.2), .ref (bm 1), .int tn, .int at_, .int wr, .ref (bm 2), .ref (bm 3), .int rm_, .ref (bm 4), .ref (bm 5), .int mn, .ref (bm 6), .ref (bm 7), .int sn, .ref (bm 8), .ref (bm 9), .ref (bm 10), .int ac, .long dn, .ref (bm 11), .ref (bm 12), .ref (bm 13), .ref (bm 14), .int hi])), ((bm 5), .inl ((km 5), 48, .inl td)), ((bm 8), .inl ((km 8), 279, .inl nw))] [((km 5), .int), ((km 8), .int)] t) A) 0 0 A := by
  refine Met.ofW (cc := cX10_device) (maxL := 3) (ret := (some .int)) (by decide) rfl ?_
  intro p e s m args below meth c s₁ B hml hv
  obtain ⟨rfl, hP, hK, hD, hA⟩ := hv
  have hx := B.exec
  have hb := B.bytes
  have hr := B.returns
  have hts := atoms_spec (ws := .code yX10_device cX10_device 3 (some .int) :: wA) B.pre
  have hown : s.vm.findClass RX10 = some m.cls := findClass_of_methodNamed B.named
  have hlocks := B.notSynchronized
  have hS : va_S A s.heap s.heap [] := va_S.rf
  have hl := lv_entry ([.ref (bm 0), .int z1, .int z2]) (n := 3) (Nat.le_of_ble_eq_true rfl)
  rw [lg_entry_eq]
  generalize (lg_sl ([.ref (bm 0), .int z1, .int z2]) ++ List.replicate (3 - (lg_sl ([.ref (bm 0), .int z1, .int z2])).length) Slot.unset).toArray = ls at hl ⊢
  have hl : lv_has ls 3 [(0, .ref (bm 0)), (1, .int z1), (2, .int z2)] := hl
  unfold F_X10_device at hG
  refine lv_aload_n hx hb dX10_device_0 rfl (lv_at hl 0 rfl) ?_
  refine lv_aload_n hx hb dX10_device_1 rfl (lv_at hl 0 rfl) ?_
  refine lv_iload_n hx hb dX10_device_2 rfl (lv_at hl 1 rfl) ?_
  obtain ⟨o_1, r_2, hG⟩ := q_bi hG
  refine q_goi (v := o_1) (va_runV (As := [.int z1]) (rest := [.ref (bm 0)]) ⟨hx, hb, hml, hown, hts⟩ (c_X10_isDevice l dC dI bm km th tn at_ wr rm_ mn sn ac hi dn z1 o_1 r_2) (cwV 1 hts (q_gV m_472 m_473 m_474 m_5 m_475) rfl rfl rfl hdV_yX10_isDevice_1 ⟨Nat.le_of_ble_eq_true rfl, Nat.le_of_ble_eq_true rfl⟩) (q_preV hK hP (q := (RX10, TX10, 24)) (ci := 10) (q0 := 0) rfl rfl [0] rfl [] rfl) rfl rfl hl.1 rfl (lv_room (Nat.le_of_ble_eq_true rfl)) dX10_device_3 ⟨Nat.le_of_ble_eq_true rfl, Nat.le_of_ble_eq_true rfl⟩) hP hS (fun H locs hP hS => ?_)
  refine lv_if_eq (tgt := 23) hx hb dX10_device_6 (by decide) (fun c_3 => ?_) (fun c_3 => ?_)
  · have hG := q_ifp c_3 hG
    refine lv_iconst (v := 1) hx hb dX10_device_23 (by decide) ?_
    refine va_put (D := (dC, dI)) (ci := 10) (v := .int 1) (ty := .int) (C := RX10) (T := TX10) (N := 24) hx hb hts iA_10 tyX10 tyX10_ok nmX10 hown hK hP hD hS 0 rfl rfl 0 (by decide) (hts (.fieldLink RX10 52 "HubTreeModel" "thrown" "I") (List.mem_cons_of_mem _ m_499)) (fun _ h9 => h9) rfl (by decide +kernel) rfl rfl (Nat.le_of_ble_eq_true rfl) dX10_device_24 (fun H locs hP hD hS => ?_)
    have hP : va_P (dC, dI) vwCl [((bm 0), .inr (10, [.int 1, .ref (bm 1), .int tn, .int at_, .int wr, .ref (bm 2), .ref (bm 3), .int rm_, .ref (bm 4), .ref (bm 5), .int mn, .ref (bm 6), .ref (bm 7), .int sn, .ref (bm 8), .ref (bm 9), .ref (bm 10), .int ac, .long dn, .ref (bm 11), .ref (bm 12), .ref (bm 13), .ref (bm 14), .int hi])), ((bm 5), .inl ((km 5), 48, .inl td)), ((bm 8), .inl ((km 8), 279, .inl nw))] H := hP
    have hD : va_D A [((bm 0), .inr (10, [.int 1, .ref (bm 1), .int tn, .int at_, .int wr, .ref (bm 2), .ref (bm 3), .int rm_, .ref (bm 4), .ref (bm 5), .int mn, .ref (bm 6), .ref (bm 7), .int sn, .ref (bm 8), .ref (bm 9), .ref (bm 10), .int ac, .long dn, .ref (bm 11), .ref (bm 12), .ref (bm 13), .ref (bm 14), .int hi])), ((bm 5), .inl ((km 5), 48, .inl td)), ((bm 8), .inl ((km 8), 279, .inl nw))] := hD
    refine lv_aload_n hx hb dX10_device_27 rfl (lv_at hl 0 rfl) ?_
    refine va_get (D := (dC, dI)) (ci := 10) (v := .int 1) (C := RX10) (T := TX10) (N := 24) hx hb hts iA_10 hown hK hP 0 rfl rfl 0 (by decide) (hts (.fieldLink RX10 52 "HubTreeModel" "thrown" "I") (List.mem_cons_of_mem _ m_499)) (fun _ h9 => h9) rfl dX10_device_28 ?_
    refine lv_iconst (v := 1) hx hb dX10_device_31 (by decide) ?_
    refine lv_icmp_ne (tgt := 37) hx hb dX10_device_32 (by decide) (fun c_4 => ?_) (fun c_4 => ?_)
    · exact absurd (by decide) c_4
    refine lv_iconst (v := 0) hx hb dX10_device_35 (by decide) ?_
    obtain rfl := Option.some.inj hG
    have hP9 := hP.sub (ws' := [((bm 0), .inr (10, [.int 1, .ref (bm 1), .int tn, .int at_, .int wr, .ref (bm 2), .ref (bm 3), .int rm_, .ref (bm 4), .ref (bm 5), .int mn, .ref (bm 6), .ref (bm 7), .int sn, .ref (bm 8), .ref (bm 9), .ref (bm 10), .int ac, .long dn, .ref (bm 11), .ref (bm 12), .ref (bm 13), .ref (bm 14), .int hi])), ((bm 5), .inl ((km 5), 48, .inl td)), ((bm 8), .inl ((km 8), 279, .inl nw))]) [0, 1, 2] rfl
    have hD9 := hD.sub (ws' := [((bm 0), .inr (10, [.int 1, .ref (bm 1), .int tn, .int at_, .int wr, .ref (bm 2), .ref (bm 3), .int rm_, .ref (bm 4), .ref (bm 5), .int mn, .ref (bm 6), .ref (bm 7), .int sn, .ref (bm 8), .ref (bm 9), .ref (bm 10), .int ac, .long dn, .ref (bm 11), .ref (bm 12), .ref (bm 13), .ref (bm 14), .int hi])), ((bm 5), .inl ((km 5), 48, .inl td)), ((bm 8), .inl ((km 8), 279, .inl nw))]) [0, 1, 2] (by decide) rfl
    have hK9 := hK.sub (tys' := [((km 5), .int), ((km 8), .int)]) [0, 1] rfl
    exact W.iret (v := 0) hx hb hr (fun t ht hW => ⟨⟨0, (), rfl, ⟨rfl, trivial⟩, by rw [ht]; exact hP9, va_K.moved hW.alike hK9, hD9⟩, hS.F ht⟩) hS.2.2 dX10_device_36
  · have hG := q_ifn c_3 hG
    refine lv_iload_n hx hb dX10_device_9 rfl (lv_at hl 2 rfl) ?_
    refine lv_iconst (v := 0) hx hb dX10_device_10 (by decide) ?_
    refine lv_bipush (v := 12) hx hb dX10_device_11 (by decide) ?_
    obtain ⟨o_5, r_6, hG⟩ := q_bi hG
    refine q_goi (v := o_5) (va_runS (As := [.int z2, .int 0, .int 12]) (rest := [.ref (bm 0)]) ⟨hx, hb, hml, hown, hts⟩ (c_X10_in l dC dI z2 0 12 o_5 r_6) (va_cwS 3 hts (q_gS m_157 m_158 m_5 m_159) rfl rfl rfl hdS_yX10_in_3 ⟨Nat.le_of_ble_eq_true rfl, Nat.le_of_ble_eq_true rfl⟩) (q_preS hK hP [] rfl [] rfl) rfl rfl hl.1 rfl (lv_room (Nat.le_of_ble_eq_true rfl)) dX10_device_13 ⟨Nat.le_of_ble_eq_true rfl, Nat.le_of_ble_eq_true rfl⟩) hP hS (fun H locs hP hS => ?_)
    refine lv_if_eq (tgt := 23) hx hb dX10_device_16 (by decide) (fun c_7 => ?_) (fun c_7 => ?_)
    · have hG := q_ifp c_7 hG
      refine lv_iconst (v := 1) hx hb dX10_device_23 (by decide) ?_
      refine va_put (D := (dC, dI)) (ci := 10) (v := .int 1) (ty := .int) (C := RX10) (T := TX10) (N := 24) hx hb hts iA_10 tyX10 tyX10_ok nmX10 hown hK hP hD hS 0 rfl rfl 0 (by decide) (hts (.fieldLink RX10 52 "HubTreeModel" "thrown" "I") (List.mem_cons_of_mem _ m_499)) (fun _ h9 => h9) rfl (by decide +kernel) rfl rfl (Nat.le_of_ble_eq_true rfl) dX10_device_24 (fun H locs hP hD hS => ?_)
      have hP : va_P (dC, dI) vwCl [((bm 0), .inr (10, [.int 1, .ref (bm 1), .int tn, .int at_, .int wr, .ref (bm 2), .ref (bm 3), .int rm_, .ref (bm 4), .ref (bm 5), .int mn, .ref (bm 6), .ref (bm 7), .int sn, .ref (bm 8), .ref (bm 9), .ref (bm 10), .int ac, .long dn, .ref (bm 11), .ref (bm 12), .ref (bm 13), .ref (bm 14), .int hi])), ((bm 5), .inl ((km 5), 48, .inl td)), ((bm 8), .inl ((km 8), 279, .inl nw))] H := hP
      have hD : va_D A [((bm 0), .inr (10, [.int 1, .ref (bm 1), .int tn, .int at_, .int wr, .ref (bm 2), .ref (bm 3), .int rm_, .ref (bm 4), .ref (bm 5), .int mn, .ref (bm 6), .ref (bm 7), .int sn, .ref (bm 8), .ref (bm 9), .ref (bm 10), .int ac, .long dn, .ref (bm 11), .ref (bm 12), .ref (bm 13), .ref (bm 14), .int hi])), ((bm 5), .inl ((km 5), 48, .inl td)), ((bm 8), .inl ((km 8), 279, .inl nw))] := hD
      refine lv_aload_n hx hb dX10_device_27 rfl (lv_at hl 0 rfl) ?_
      refine va_get (D := (dC, dI)) (ci := 10) (v := .int 1) (C := RX10) (T := TX10) (N := 24) hx hb hts iA_10 hown hK hP 0 rfl rfl 0 (by decide) (hts (.fieldLink RX10 52 "HubTreeModel" "thrown" "I") (List.mem_cons_of_mem _ m_499)) (fun _ h9 => h9) rfl dX10_device_28 ?_
      refine lv_iconst (v := 1) hx hb dX10_device_31 (by decide) ?_
      refine lv_icmp_ne (tgt := 37) hx hb dX10_device_32 (by decide) (fun c_8 => ?_) (fun c_8 => ?_)
      · exact absurd (by decide) c_8
      refine lv_iconst (v := 0) hx hb dX10_device_35 (by decide) ?_
      obtain rfl := Option.some.inj hG
      have hP9 := hP.sub (ws' := [((bm 0), .inr (10, [.int 1, .ref (bm 1), .int tn, .int at_, .int wr, .ref (bm 2), .ref (bm 3), .int rm_, .ref (bm 4), .ref (bm 5), .int mn, .ref (bm 6), .ref (bm 7), .int sn, .ref (bm 8), .ref (bm 9), .ref (bm 10), .int ac, .long dn, .ref (bm 11), .ref (bm 12), .ref (bm 13), .ref (bm 14), .int hi])), ((bm 5), .inl ((km 5), 48, .inl td)), ((bm 8), .inl ((km 8), 279, .inl nw))]) [0, 1, 2] rfl
      have hD9 := hD.sub (ws' := [((bm 0), .inr (10, [.int 1, .ref (bm 1), .int tn, .int at_, .int wr, .ref (bm 2), .ref (bm 3), .int rm_, .ref (bm 4), .ref (bm 5), .int mn, .ref (bm 6), .ref (bm 7), .int sn, .ref (bm 8), .ref (bm 9), .ref (bm 10), .int ac, .long dn, .ref (bm 11), .ref (bm 12), .ref (bm 13), .ref (bm 14), .int hi])), ((bm 5), .inl ((km 5), 48, .inl td)), ((bm 8), .inl ((km 8), 279, .inl nw))]) [0, 1, 2] (by decide) rfl
      have hK9 := hK.sub (tys' := [((km 5), .int), ((km 8), .int)]) [0, 1] rfl
      exact W.iret (v := 0) hx hb hr (fun t ht hW => ⟨⟨0, (), rfl, ⟨rfl, trivial⟩, by rw [ht]; exact hP9, va_K.moved hW.alike hK9, hD9⟩, hS.F ht⟩) hS.2.2 dX10_device_36
    · have hG := q_ifn c_7 hG
      refine lv_iconst (v := 0) hx hb dX10_device_19 (by decide) ?_
      refine lv_goto (tgt := 24) hx hb dX10_device_20 (by decide) ?_
      refine va_put (D := (dC, dI)) (ci := 10) (v := .int 0) (ty := .int) (C := RX10) (T := TX10) (N := 24) hx hb hts iA_10 tyX10 tyX10_ok nmX10 hown hK hP hD hS 0 rfl rfl 0 (by decide) (hts (.fieldLink RX10 52 "HubTreeModel" "thrown" "I") (List.mem_cons_of_mem _ m_499)) (fun _ h9 => h9) rfl (by decide +kernel) rfl rfl (Nat.le_of_ble_eq_true rfl) dX10_device_24 (fun H locs hP hD hS => ?_)
      have hP : va_P (dC, dI) vwCl [((bm 0), .inr (10, [.int 0, .ref (bm 1), .int tn, .int at_, .int wr, .ref (bm 2), .ref (bm 3), .int rm_, .ref (bm 4), .ref (bm 5), .int mn, .ref (bm 6), .ref (bm 7), .int sn, .ref (bm 8), .ref (bm 9), .ref (bm 10), .int ac, .long dn, .ref (bm 11), .ref (bm 12), .ref (bm 13), .ref (bm 14), .int hi])), ((bm 5), .inl ((km 5), 48, .inl td)), ((bm 8), .inl ((km 8), 279, .inl nw))] H := hP
      have hD : va_D A [((bm 0), .inr (10, [.int 0, .ref (bm 1), .int tn, .int at_, .int wr, .ref (bm 2), .ref (bm 3), .int rm_, .ref (bm 4), .ref (bm 5), .int mn, .ref (bm 6), .ref (bm 7), .int sn, .ref (bm 8), .ref (bm 9), .ref (bm 10), .int ac, .long dn, .ref (bm 11), .ref (bm 12), .ref (bm 13), .ref (bm 14), .int hi])), ((bm 5), .inl ((km 5), 48, .inl td)), ((bm 8), .inl ((km 8), 279, .inl nw))] := hD
      refine lv_aload_n hx hb dX10_device_27 rfl (lv_at hl 0 rfl) ?_
      refine va_get (D := (dC, dI)) (ci := 10) (v := .int 0) (C := RX10) (T := TX10) (N := 24) hx hb hts iA_10 hown hK hP 0 rfl rfl 0 (by decide) (hts (.fieldLink RX10 52 "HubTreeModel" "thrown" "I") (List.mem_cons_of_mem _ m_499)) (fun _ h9 => h9) rfl dX10_device_28 ?_
      refine lv_iconst (v := 1) hx hb dX10_device_31 (by decide) ?_
      refine lv_icmp_ne (tgt := 37) hx hb dX10_device_32 (by decide) (fun c_9 => ?_) (fun c_9 => ?_)
      rotate_left
      · exact absurd c_9 (by decide)
      refine lv_iload_n hx hb dX10_device_37 rfl (lv_at hl 2 rfl) ?_
      by_cases e_10 : z2 = 10
      · have hG := q_ifp e_10 hG
        refine lv_tableIn (off := 26) (tgt := 64) hx hb dX10_device_38 (by rw [e_10]; decide) (by rw [e_10]; decide) (by rw [e_10]; decide) (by decide) ?_
        refine lv_aload_n hx hb dX10_device_64 rfl (lv_at hl 0 rfl) ?_
        refine lv_iload_n hx hb dX10_device_65 rfl (lv_at hl 1 rfl) ?_
        obtain ⟨o_11, r_12, hG⟩ := q_bi hG
        refine q_goi (v := o_11) (va_runV (As := [.int z1]) (rest := []) ⟨hx, hb, hml, hown, hts⟩ (c_X10_depthOf l dC dI bm km 0 tn at_ wr rm_ mn sn ac hi dn nw z1 o_11 r_12) (cwV 1 hts (q_gV m_500 m_501 m_502 m_5 m_503) rfl rfl rfl hdV_yX10_depthOf_1 ⟨Nat.le_of_ble_eq_true rfl, Nat.le_of_ble_eq_true rfl⟩) (q_preV hK hP (q := (RX10, TX10, 24)) (ci := 10) (q0 := 0) rfl rfl [0, 2] rfl [1] rfl) rfl rfl hl.1 rfl (lv_room (Nat.le_of_ble_eq_true rfl)) dX10_device_66 ⟨Nat.le_of_ble_eq_true rfl, Nat.le_of_ble_eq_true rfl⟩) hP hS (fun H locs hP hS => ?_)
        obtain rfl := Option.some.inj hG
        have hP9 := hP.sub (ws' := [((bm 0), .inr (10, [.int 0, .ref (bm 1), .int tn, .int at_, .int wr, .ref (bm 2), .ref (bm 3), .int rm_, .ref (bm 4), .ref (bm 5), .int mn, .ref (bm 6), .ref (bm 7), .int sn, .ref (bm 8), .ref (bm 9), .ref (bm 10), .int ac, .long dn, .ref (bm 11), .ref (bm 12), .ref (bm 13), .ref (bm 14), .int hi])), ((bm 5), .inl ((km 5), 48, .inl td)), ((bm 8), .inl ((km 8), 279, .inl nw))]) [0, 1, 2] rfl
        have hD9 := hD.sub (ws' := [((bm 0), .inr (10, [.int 0, .ref (bm 1), .int tn, .int at_, .int wr, .ref (bm 2), .ref (bm 3), .int rm_, .ref (bm 4), .ref (bm 5), .int mn, .ref (bm 6), .ref (bm 7), .int sn, .ref (bm 8), .ref (bm 9), .ref (bm 10), .int ac, .long dn, .ref (bm 11), .ref (bm 12), .ref (bm 13), .ref (bm 14), .int hi])), ((bm 5), .inl ((km 5), 48, .inl td)), ((bm 8), .inl ((km 8), 279, .inl nw))]) [0, 1, 2] (by decide) rfl
        have hK9 := hK.sub (tys' := [((km 5), .int), ((km 8), .int)]) [0, 1] rfl
        exact W.iret (v := o_11) hx hb hr (fun t ht hW => ⟨⟨o_11, (), rfl, ⟨rfl, trivial⟩, by rw [ht]; exact hP9, va_K.moved hW.alike hK9, hD9⟩, hS.F ht⟩) hS.2.2 dX10_device_69
      have hG := q_ifn e_10 hG
      by_cases e_13 : z2 = 11
      · have hG := q_ifp e_13 hG
        refine lv_tableIn (off := 32) (tgt := 70) hx hb dX10_device_38 (by rw [e_13]; decide) (by rw [e_13]; decide) (by rw [e_13]; decide) (by decide) ?_
        refine lv_aload_n hx hb dX10_device_70 rfl (lv_at hl 0 rfl) ?_
        refine lv_iload_n hx hb dX10_device_71 rfl (lv_at hl 1 rfl) ?_
        obtain ⟨o_14, r_15, hG⟩ := q_bi hG
        refine q_goi (v := o_14) (va_runV (As := [.int z1]) (rest := []) ⟨hx, hb, hml, hown, hts⟩ (c_X10_takesOf l dC dI bm km 0 tn at_ wr rm_ mn sn ac hi dn td nw z1 o_14 r_15) (cwV 1 hts (q_gV m_508 m_509 m_510 m_5 m_511) rfl rfl rfl hdV_yX10_takesOf_1 ⟨Nat.le_of_ble_eq_true rfl, Nat.le_of_ble_eq_true rfl⟩) (q_preV hK hP (q := (RX10, TX10, 24)) (ci := 10) (q0 := 0) rfl rfl [0, 1, 2] rfl [0, 1] rfl) rfl rfl hl.1 rfl (lv_room (Nat.le_of_ble_eq_true rfl)) dX10_device_72 ⟨Nat.le_of_ble_eq_true rfl, Nat.le_of_ble_eq_true rfl⟩) hP hS (fun H locs hP hS => ?_)
        obtain rfl := Option.some.inj hG
        have hP9 := hP.sub (ws' := [((bm 0), .inr (10, [.int 0, .ref (bm 1), .int tn, .int at_, .int wr, .ref (bm 2), .ref (bm 3), .int rm_, .ref (bm 4), .ref (bm 5), .int mn, .ref (bm 6), .ref (bm 7), .int sn, .ref (bm 8), .ref (bm 9), .ref (bm 10), .int ac, .long dn, .ref (bm 11), .ref (bm 12), .ref (bm 13), .ref (bm 14), .int hi])), ((bm 5), .inl ((km 5), 48, .inl td)), ((bm 8), .inl ((km 8), 279, .inl nw))]) [0, 1, 2] rfl
        have hD9 := hD.sub (ws' := [((bm 0), .inr (10, [.int 0, .ref (bm 1), .int tn, .int at_, .int wr, .ref (bm 2), .ref (bm 3), .int rm_, .ref (bm 4), .ref (bm 5), .int mn, .ref (bm 6), .ref (bm 7), .int sn, .ref (bm 8), .ref (bm 9), .ref (bm 10), .int ac, .long dn, .ref (bm 11), .ref (bm 12), .ref (bm 13), .ref (bm 14), .int hi])), ((bm 5), .inl ((km 5), 48, .inl td)), ((bm 8), .inl ((km 8), 279, .inl nw))]) [0, 1, 2] (by decide) rfl
        have hK9 := hK.sub (tys' := [((km 5), .int), ((km 8), .int)]) [0, 1] rfl
        exact W.iret (v := o_14) hx hb hr (fun t ht hW => ⟨⟨o_14, (), rfl, ⟨rfl, trivial⟩, by rw [ht]; exact hP9, va_K.moved hW.alike hK9, hD9⟩, hS.F ht⟩) hS.2.2 dX10_device_75
      have hG := q_ifn e_13 hG
      by_cases e_16 : z2 = 12
      · have hG := q_ifp e_16 hG
        refine lv_tableIn (off := 38) (tgt := 76) hx hb dX10_device_38 (by rw [e_16]; decide) (by rw [e_16]; decide) (by rw [e_16]; decide) (by decide) ?_
        refine lv_aload_n hx hb dX10_device_76 rfl (lv_at hl 0 rfl) ?_
        refine va_get (D := (dC, dI)) (ci := 10) (v := .ref (bm 8)) (C := RX10) (T := TX10) (N := 24) hx hb hts iA_10 hown hK hP 0 rfl rfl 14 (by decide) (hts (.fieldLink RX10 31 "HubTreeModel" "now" "[I") (List.mem_cons_of_mem _ m_122)) (fun _ h9 => h9) rfl dX10_device_77 ?_
        refine lv_bipush (v := 88) hx hb dX10_device_80 (by decide) ?_
        refine lv_iload_n hx hb dX10_device_82 rfl (lv_at hl 1 rfl) ?_
        refine lv_iadd hx hb dX10_device_83 ?_
        obtain ⟨h_17, hG⟩ := q_ix hG
        refine va_iald hx hb hK hP 2 1 rfl rfl (i := (88 + z1)) h_17 dX10_device_84 ?_
        refine q_top (y := (nw (88 + z1).toNatClampNeg)) rfl ?_
        obtain rfl := Option.some.inj hG
        have hP9 := hP.sub (ws' := [((bm 0), .inr (10, [.int 0, .ref (bm 1), .int tn, .int at_, .int wr, .ref (bm 2), .ref (bm 3), .int rm_, .ref (bm 4), .ref (bm 5), .int mn, .ref (bm 6), .ref (bm 7), .int sn, .ref (bm 8), .ref (bm 9), .ref (bm 10), .int ac, .long dn, .ref (bm 11), .ref (bm 12), .ref (bm 13), .ref (bm 14), .int hi])), ((bm 5), .inl ((km 5), 48, .inl td)), ((bm 8), .inl ((km 8), 279, .inl nw))]) [0, 1, 2] rfl
        have hD9 := hD.sub (ws' := [((bm 0), .inr (10, [.int 0, .ref (bm 1), .int tn, .int at_, .int wr, .ref (bm 2), .ref (bm 3), .int rm_, .ref (bm 4), .ref (bm 5), .int mn, .ref (bm 6), .ref (bm 7), .int sn, .ref (bm 8), .ref (bm 9), .ref (bm 10), .int ac, .long dn, .ref (bm 11), .ref (bm 12), .ref (bm 13), .ref (bm 14), .int hi])), ((bm 5), .inl ((km 5), 48, .inl td)), ((bm 8), .inl ((km 8), 279, .inl nw))]) [0, 1, 2] (by decide) rfl
        have hK9 := hK.sub (tys' := [((km 5), .int), ((km 8), .int)]) [0, 1] rfl
        exact W.iret (v := (nw (88 + z1).toNatClampNeg)) hx hb hr (fun t ht hW => ⟨⟨(nw (88 + z1).toNatClampNeg), (), rfl, ⟨rfl, trivial⟩, by rw [ht]; exact hP9, va_K.moved hW.alike hK9, hD9⟩, hS.F ht⟩) hS.2.2 dX10_device_85
      have hG := q_ifn e_16 hG
      have hsw : (z2).toInt < 10 ∨ 12 < (z2).toInt := by
        have := lv_neT (a := 10) e_10 (by decide)
        have := lv_neT (a := 11) e_13 (by decide)
        have := lv_neT (a := 12) e_16 (by decide)
        omega
      refine lv_tableOut (tgt := 86) hx hb dX10_device_38 hsw (by decide) ?_
      refine lv_aload_n hx hb dX10_device_86 rfl (lv_at hl 0 rfl) ?_
      refine va_get (D := (dC, dI)) (ci := 10) (v := .ref (bm 8)) (C := RX10) (T := TX10) (N := 24) hx hb hts iA_10 hown hK hP 0 rfl rfl 14 (by decide) (hts (.fieldLink RX10 31 "HubTreeModel" "now" "[I") (List.mem_cons_of_mem _ m_122)) (fun _ h9 => h9) rfl dX10_device_87 ?_
      refine lv_bipush (v := 8) hx hb dX10_device_90 (by decide) ?_
      refine lv_iload_n hx hb dX10_device_92 rfl (lv_at hl 2 rfl) ?_
      refine lv_imul hx hb dX10_device_93 ?_
      refine lv_iload_n hx hb dX10_device_94 rfl (lv_at hl 1 rfl) ?_
      refine lv_iadd hx hb dX10_device_95 ?_
      obtain ⟨h_18, hG⟩ := q_ix hG
      refine va_iald hx hb hK hP 2 1 rfl rfl (i := ((8 * z2) + z1)) h_18 dX10_device_96 ?_
      refine q_top (y := (nw ((8 * z2) + z1).toNatClampNeg)) rfl ?_
      obtain rfl := Option.some.inj hG
      have hP9 := hP.sub (ws' := [((bm 0), .inr (10, [.int 0, .ref (bm 1), .int tn, .int at_, .int wr, .ref (bm 2), .ref (bm 3), .int rm_, .ref (bm 4), .ref (bm 5), .int mn, .ref (bm 6), .ref (bm 7), .int sn, .ref (bm 8), .ref (bm 9), .ref (bm 10), .int ac, .long dn, .ref (bm 11), .ref (bm 12), .ref (bm 13), .ref (bm 14), .int hi])), ((bm 5), .inl ((km 5), 48, .inl td)), ((bm 8), .inl ((km 8), 279, .inl nw))]) [0, 1, 2] rfl
      have hD9 := hD.sub (ws' := [((bm 0), .inr (10, [.int 0, .ref (bm 1), .int tn, .int at_, .int wr, .ref (bm 2), .ref (bm 3), .int rm_, .ref (bm 4), .ref (bm 5), .int mn, .ref (bm 6), .ref (bm 7), .int sn, .ref (bm 8), .ref (bm 9), .ref (bm 10), .int ac, .long dn, .ref (bm 11), .ref (bm 12), .ref (bm 13), .ref (bm 14), .int hi])), ((bm 5), .inl ((km 5), 48, .inl td)), ((bm 8), .inl ((km 8), 279, .inl nw))]) [0, 1, 2] (by decide) rfl
      have hK9 := hK.sub (tys' := [((km 5), .int), ((km 8), .int)]) [0, 1] rfl
      exact W.iret (v := (nw ((8 * z2) + z1).toNatClampNeg)) hx hb hr (fun t ht hW => ⟨⟨(nw ((8 * z2) + z1).toNatClampNeg), (), rfl, ⟨rfl, trivial⟩, by rw [ht]; exact hP9, va_K.moved hW.alike hK9, hD9⟩, hS.F ht⟩) hS.2.2 dX10_device_97

def F_X10_port (mn : Int32) (ru : Nat → Int32) (td : Nat → Int32) (nw : Nat → Int32) (z1 : Int32) (z2 : Int32) : Option (Int32) := ((F_X10_isHub mn td z1).bind fun o_1 => (if o_1 = 0 then some ((-1)) else ((F_X10_portsOf ru td z1).bind fun o_4 => ((F_X10_in z2 0 (o_4 - 1)).bind fun o_6 => (if o_6 = 0 then some ((-1)) else ((F_X10_inPort mn nw z1 z2).bind fun o_9 => some (o_9)))))))
set_option maxHeartbeats 4000000 in
set_option maxRecDepth 100000 in
theorem c_X10_port (l : Launch) (dC : Nat → ClassId) (dI : Nat → Nat → Nat) (bm : Nat → Nat) (km : Nat → ClassId) (th : Int32) (tn : Int32) (at_ : Int32) (wr : Int32) (rm_ : Int32) (mn : Int32) (sn : Int32) (ac : Int32) (hi : Int32) (dn : Int64) (ru : Nat → Int32) (td : Nat → Int32) (nw : Nat → Int32) (z1 : Int32) (z2 : Int32) (o : Int32) (hG : F_X10_port mn ru td nw z1 z2 = some o) : Met l yX10_port (.code yX10_port cX10_port 3 (some .int) :: wA) ({ frames := 3, cells := 0, slots := 0, locals := 64 }) (va_Pc [.ref (bm 0), .int z1, .int z2] (q_R (dC, dI) [((bm 0), .inr (10, [.int th, .ref (bm 1), .int tn, .int at_, .int wr, .ref (bm 2), .ref (bm 3), .int rm_, .ref (bm 4), .ref (bm 5), .int mn, .ref (bm 6), .ref (bm 7), .int sn, .ref (bm 8), .ref (bm 9), .ref (bm 10), .int ac, .long dn, .ref (bm 11), .ref (bm 12), .ref (bm 13), .ref (bm 14), .int hi])), ((bm 4), .inl ((km 4), 8, .inl ru)), ((bm 5), .inl ((km 5), 48, .inl td)), ((bm 8), .inl ((km 8), 279, .inl nw))] [((km 4), .int), ((km 5), .int), ((km 8), .int)])) (q_i o) 0 0 (fun _ => False) := by
  refine Met.ofW (cc := cX10_port) (maxL := 3) (ret := (some .int)) (by decide) rfl ?_
  intro p e s m args below meth c s₁ B hml hv
  obtain ⟨rfl, hP, hK⟩ := hv
  have hx := B.exec
  have hb := B.bytes
  have hr := B.returns
  have hts := atoms_spec (ws := .code yX10_port cX10_port 3 (some .int) :: wA) B.pre
  have hown : s.vm.findClass RX10 = some m.cls := findClass_of_methodNamed B.named
  have hlocks := B.notSynchronized
  have hS : va_S (fun _ => False) s.heap s.heap [] := va_S.rf
  have hl := lv_entry ([.ref (bm 0), .int z1, .int z2]) (n := 3) (Nat.le_of_ble_eq_true rfl)
  rw [lg_entry_eq]
  generalize (lg_sl ([.ref (bm 0), .int z1, .int z2]) ++ List.replicate (3 - (lg_sl ([.ref (bm 0), .int z1, .int z2])).length) Slot.unset).toArray = ls at hl ⊢
  have hl : lv_has ls 3 [(0, .ref (bm 0)), (1, .int z1), (2, .int z2)] := hl
  unfold F_X10_port at hG
  refine lv_aload_n hx hb dX10_port_0 rfl (lv_at hl 0 rfl) ?_
  refine lv_iload_n hx hb dX10_port_1 rfl (lv_at hl 1 rfl) ?_
  obtain ⟨o_1, r_2, hG⟩ := q_bi hG
  refine q_goi (v := o_1) (va_runV (As := [.int z1]) (rest := []) ⟨hx, hb, hml, hown, hts⟩ (c_X10_isHub l dC dI bm km th tn at_ wr rm_ mn sn ac hi dn td z1 o_1 r_2) (cwV 1 hts (q_gV m_540 m_541 m_542 m_5 m_543) rfl rfl rfl hdV_yX10_isHub_1 ⟨Nat.le_of_ble_eq_true rfl, Nat.le_of_ble_eq_true rfl⟩) (q_preV hK hP (q := (RX10, TX10, 24)) (ci := 10) (q0 := 0) rfl rfl [0, 2] rfl [1] rfl) rfl rfl hl.1 rfl (lv_room (Nat.le_of_ble_eq_true rfl)) dX10_port_2 ⟨Nat.le_of_ble_eq_true rfl, Nat.le_of_ble_eq_true rfl⟩) hP hS (fun H locs hP hS => ?_)
  refine lv_if_eq (tgt := 32) hx hb dX10_port_5 (by decide) (fun c_3 => ?_) (fun c_3 => ?_)
  · have hG := q_ifp c_3 hG
    refine lv_iconst (v := (-1)) hx hb dX10_port_32 (by decide) ?_
    obtain rfl := Option.some.inj hG
    exact W.iret (v := (-1)) hx hb hr (fun t ht hW => ⟨⟨(-1), (), rfl, rfl, trivial⟩, hS.F ht⟩) hS.2.2 dX10_port_33
  · have hG := q_ifn c_3 hG
    refine lv_iload_n hx hb dX10_port_8 rfl (lv_at hl 2 rfl) ?_
    refine lv_iconst (v := 0) hx hb dX10_port_9 (by decide) ?_
    refine lv_aload_n hx hb dX10_port_10 rfl (lv_at hl 0 rfl) ?_
    refine lv_iload_n hx hb dX10_port_11 rfl (lv_at hl 1 rfl) ?_
    obtain ⟨o_4, r_5, hG⟩ := q_bi hG
    refine q_goi (v := o_4) (va_runV (As := [.int z1]) (rest := [.int 0, .int z2]) ⟨hx, hb, hml, hown, hts⟩ (c_X10_portsOf l dC dI bm km th tn at_ wr rm_ mn sn ac hi dn ru td z1 o_4 r_5) (cwV 1 hts (q_gV m_544 m_545 m_546 m_5 m_547) rfl rfl rfl hdV_yX10_portsOf_1 ⟨Nat.le_of_ble_eq_true rfl, Nat.le_of_ble_eq_true rfl⟩) (q_preV hK hP (q := (RX10, TX10, 24)) (ci := 10) (q0 := 0) rfl rfl [0, 1, 2] rfl [0, 1] rfl) rfl rfl hl.1 rfl (lv_room (Nat.le_of_ble_eq_true rfl)) dX10_port_12 ⟨Nat.le_of_ble_eq_true rfl, Nat.le_of_ble_eq_true rfl⟩) hP hS (fun H locs hP hS => ?_)
    refine lv_iconst (v := 1) hx hb dX10_port_15 (by decide) ?_
    refine lv_isub hx hb dX10_port_16 ?_
    obtain ⟨o_6, r_7, hG⟩ := q_bi hG
    refine q_goi (v := o_6) (va_runS (As := [.int z2, .int 0, .int (o_4 - 1)]) (rest := []) ⟨hx, hb, hml, hown, hts⟩ (c_X10_in l dC dI z2 0 (o_4 - 1) o_6 r_7) (va_cwS 3 hts (q_gS m_157 m_158 m_5 m_159) rfl rfl rfl hdS_yX10_in_3 ⟨Nat.le_of_ble_eq_true rfl, Nat.le_of_ble_eq_true rfl⟩) (q_preS hK hP [] rfl [] rfl) rfl rfl hl.1 rfl (lv_room (Nat.le_of_ble_eq_true rfl)) dX10_port_17 ⟨Nat.le_of_ble_eq_true rfl, Nat.le_of_ble_eq_true rfl⟩) hP hS (fun H locs hP hS => ?_)
    refine lv_if_eq (tgt := 32) hx hb dX10_port_20 (by decide) (fun c_8 => ?_) (fun c_8 => ?_)
    · have hG := q_ifp c_8 hG
      refine lv_iconst (v := (-1)) hx hb dX10_port_32 (by decide) ?_
      obtain rfl := Option.some.inj hG
      exact W.iret (v := (-1)) hx hb hr (fun t ht hW => ⟨⟨(-1), (), rfl, rfl, trivial⟩, hS.F ht⟩) hS.2.2 dX10_port_33
    · have hG := q_ifn c_8 hG
      refine lv_aload_n hx hb dX10_port_23 rfl (lv_at hl 0 rfl) ?_
      refine lv_iload_n hx hb dX10_port_24 rfl (lv_at hl 1 rfl) ?_
      refine lv_iload_n hx hb dX10_port_25 rfl (lv_at hl 2 rfl) ?_
      obtain ⟨o_9, r_10, hG⟩ := q_bi hG
      refine q_goi (v := o_9) (va_runV (As := [.int z1, .int z2]) (rest := []) ⟨hx, hb, hml, hown, hts⟩ (c_X10_inPort l dC dI bm km th tn at_ wr rm_ mn sn ac hi dn nw z1 z2 o_9 r_10) (cwV 2 hts (q_gV m_548 m_549 m_550 m_5 m_551) rfl rfl rfl hdV_yX10_inPort_2 ⟨Nat.le_of_ble_eq_true rfl, Nat.le_of_ble_eq_true rfl⟩) (q_preV hK hP (q := (RX10, TX10, 24)) (ci := 10) (q0 := 0) rfl rfl [0, 3] rfl [2] rfl) rfl rfl hl.1 rfl (lv_room (Nat.le_of_ble_eq_true rfl)) dX10_port_26 ⟨Nat.le_of_ble_eq_true rfl, Nat.le_of_ble_eq_true rfl⟩) hP hS (fun H locs hP hS => ?_)
      refine lv_goto (tgt := 33) hx hb dX10_port_29 (by decide) ?_
      obtain rfl := Option.some.inj hG
      exact W.iret (v := o_9) hx hb hr (fun t ht hW => ⟨⟨o_9, (), rfl, rfl, trivial⟩, hS.F ht⟩) hS.2.2 dX10_port_33

def F_X10_hub (mn : Int32) (ru : Nat → Int32) (td : Nat → Int32) (nw : Nat → Int32) (z1 : Int32) (z2 : Int32) : Option (Int32) := ((F_X10_isHub mn td z1).bind fun o_1 => (if o_1 = 0 then some ((-1000000)) else ((F_X10_in z2 0 5).bind fun o_4 => (if o_4 = 0 then some ((-1000000)) else (if z2 = 0 then ((F_X10_beneath mn nw z1).bind fun o_8 => some (o_8)) else (if z2 = 1 then ((F_X10_rightAt mn nw z1).bind fun o_11 => some (o_11)) else (if z2 = 2 then ((F_X10_givesOf ru nw z1).bind fun o_14 => some (o_14)) else (if z2 = 3 then (if z1 = 8 then ((F_X10_leftOf mn ru td nw z1 (-1)).bind fun o_18 => (if o_18 = 1000000 then some ((-1000000)) else some (o_18))) else ((F_X10_state nw z1).bind fun o_21 => (if o_21 = 0 then some ((-1000000)) else ((F_X10_leftOf mn ru td nw z1 (-1)).bind fun o_24 => (if o_24 = 1000000 then some ((-1000000)) else some (o_24)))))) else (if z2 = 4 then ((F_X10_helpOf mn td nw z1).bind fun o_29 => some (o_29)) else ((F_X10_portsOf ru td z1).bind fun o_31 => ((F_X10_rightAt mn nw z1).bind fun o_33 => ((F_X10_bits o_33).bind fun o_35 => some ((o_31 - o_35))))))))))))))
set_option maxHeartbeats 4000000 in
set_option maxRecDepth 100000 in
theorem c_X10_hub (l : Launch) (dC : Nat → ClassId) (dI : Nat → Nat → Nat) (bm : Nat → Nat) (km : Nat → ClassId) (th : Int32) (tn : Int32) (at_ : Int32) (wr : Int32) (rm_ : Int32) (mn : Int32) (sn : Int32) (ac : Int32) (hi : Int32) (dn : Int64) (ru : Nat → Int32) (td : Nat → Int32) (nw : Nat → Int32) (z1 : Int32) (z2 : Int32) (o : Int32) (hG : F_X10_hub mn ru td nw z1 z2 = some o) : Met l yX10_hub (.code yX10_hub cX10_hub 4 (some .int) :: wA) ({ frames := 4, cells := 0, slots := 0, locals := 88 }) (va_Pc [.ref (bm 0), .int z1, .int z2] (q_R (dC, dI) [((bm 0), .inr (10, [.int th, .ref (bm 1), .int tn, .int at_, .int wr, .ref (bm 2), .ref (bm 3), .int rm_, .ref (bm 4), .ref (bm 5), .int mn, .ref (bm 6), .ref (bm 7), .int sn, .ref (bm 8), .ref (bm 9), .ref (bm 10), .int ac, .long dn, .ref (bm 11), .ref (bm 12), .ref (bm 13), .ref (bm 14), .int hi])), ((bm 4), .inl ((km 4), 8, .inl ru)), ((bm 5), .inl ((km 5), 48, .inl td)), ((bm 8), .inl ((km 8), 279, .inl nw))] [((km 4), .int), ((km 5), .int), ((km 8), .int)])) (q_i o) 0 0 (fun _ => False) := by
  refine Met.ofW (cc := cX10_hub) (maxL := 4) (ret := (some .int)) (by decide) rfl ?_
  intro p e s m args below meth c s₁ B hml hv
  obtain ⟨rfl, hP, hK⟩ := hv
  have hx := B.exec
  have hb := B.bytes
  have hr := B.returns
  have hts := atoms_spec (ws := .code yX10_hub cX10_hub 4 (some .int) :: wA) B.pre
  have hown : s.vm.findClass RX10 = some m.cls := findClass_of_methodNamed B.named
  have hlocks := B.notSynchronized
  have hS : va_S (fun _ => False) s.heap s.heap [] := va_S.rf
  have hl := lv_entry ([.ref (bm 0), .int z1, .int z2]) (n := 4) (Nat.le_of_ble_eq_true rfl)
  rw [lg_entry_eq]
  generalize (lg_sl ([.ref (bm 0), .int z1, .int z2]) ++ List.replicate (4 - (lg_sl ([.ref (bm 0), .int z1, .int z2])).length) Slot.unset).toArray = ls at hl ⊢
  have hl : lv_has ls 4 [(0, .ref (bm 0)), (1, .int z1), (2, .int z2)] := hl
  unfold F_X10_hub at hG
  refine lv_aload_n hx hb dX10_hub_0 rfl (lv_at hl 0 rfl) ?_
  refine lv_iload_n hx hb dX10_hub_1 rfl (lv_at hl 1 rfl) ?_
  obtain ⟨o_1, r_2, hG⟩ := q_bi hG
  refine q_goi (v := o_1) (va_runV (As := [.int z1]) (rest := []) ⟨hx, hb, hml, hown, hts⟩ (c_X10_isHub l dC dI bm km th tn at_ wr rm_ mn sn ac hi dn td z1 o_1 r_2) (cwV 1 hts (q_gV m_540 m_541 m_542 m_5 m_543) rfl rfl rfl hdV_yX10_isHub_1 ⟨Nat.le_of_ble_eq_true rfl, Nat.le_of_ble_eq_true rfl⟩) (q_preV hK hP (q := (RX10, TX10, 24)) (ci := 10) (q0 := 0) rfl rfl [0, 2] rfl [1] rfl) rfl rfl hl.1 rfl (lv_room (Nat.le_of_ble_eq_true rfl)) dX10_hub_2 ⟨Nat.le_of_ble_eq_true rfl, Nat.le_of_ble_eq_true rfl⟩) hP hS (fun H locs hP hS => ?_)
  refine lv_if_eq (tgt := 17) hx hb dX10_hub_5 (by decide) (fun c_3 => ?_) (fun c_3 => ?_)
  · have hG := q_ifp c_3 hG
    refine lv_ldcw (v := (-1000000)) hx hb hown (hts (.constant RX10 358 (-1000000)) (List.mem_cons_of_mem _ m_620)) dX10_hub_17 ?_
    obtain rfl := Option.some.inj hG
    exact W.iret (v := (-1000000)) hx hb hr (fun t ht hW => ⟨⟨(-1000000), (), rfl, rfl, trivial⟩, hS.F ht⟩) hS.2.2 dX10_hub_20
  · have hG := q_ifn c_3 hG
    refine lv_iload_n hx hb dX10_hub_8 rfl (lv_at hl 2 rfl) ?_
    refine lv_iconst (v := 0) hx hb dX10_hub_9 (by decide) ?_
    refine lv_iconst (v := 5) hx hb dX10_hub_10 (by decide) ?_
    obtain ⟨o_4, r_5, hG⟩ := q_bi hG
    refine q_goi (v := o_4) (va_runS (As := [.int z2, .int 0, .int 5]) (rest := []) ⟨hx, hb, hml, hown, hts⟩ (c_X10_in l dC dI z2 0 5 o_4 r_5) (va_cwS 3 hts (q_gS m_157 m_158 m_5 m_159) rfl rfl rfl hdS_yX10_in_3 ⟨Nat.le_of_ble_eq_true rfl, Nat.le_of_ble_eq_true rfl⟩) (q_preS hK hP [] rfl [] rfl) rfl rfl hl.1 rfl (lv_room (Nat.le_of_ble_eq_true rfl)) dX10_hub_11 ⟨Nat.le_of_ble_eq_true rfl, Nat.le_of_ble_eq_true rfl⟩) hP hS (fun H locs hP hS => ?_)
    refine lv_if_ne (tgt := 21) hx hb dX10_hub_14 (by decide) (fun c_6 => ?_) (fun c_6 => ?_)
    · have hG := q_ifn c_6 hG
      refine lv_iload_n hx hb dX10_hub_21 rfl (lv_at hl 2 rfl) ?_
      by_cases e_7 : z2 = 0
      · have hG := q_ifp e_7 hG
        refine lv_tableIn (off := 34) (tgt := 56) hx hb dX10_hub_22 (by rw [e_7]; decide) (by rw [e_7]; decide) (by rw [e_7]; decide) (by decide) ?_
        refine lv_aload_n hx hb dX10_hub_56 rfl (lv_at hl 0 rfl) ?_
        refine lv_iload_n hx hb dX10_hub_57 rfl (lv_at hl 1 rfl) ?_
        obtain ⟨o_8, r_9, hG⟩ := q_bi hG
        refine q_goi (v := o_8) (va_runV (As := [.int z1]) (rest := []) ⟨hx, hb, hml, hown, hts⟩ (c_X10_beneath l dC dI bm km th tn at_ wr rm_ mn sn ac hi dn nw z1 o_8 r_9) (cwV 1 hts (q_gV m_622 m_623 m_624 m_5 m_625) rfl rfl rfl hdV_yX10_beneath_1 ⟨Nat.le_of_ble_eq_true rfl, Nat.le_of_ble_eq_true rfl⟩) (q_preV hK hP (q := (RX10, TX10, 24)) (ci := 10) (q0 := 0) rfl rfl [0, 3] rfl [2] rfl) rfl rfl hl.1 rfl (lv_room (Nat.le_of_ble_eq_true rfl)) dX10_hub_58 ⟨Nat.le_of_ble_eq_true rfl, Nat.le_of_ble_eq_true rfl⟩) hP hS (fun H locs hP hS => ?_)
        obtain rfl := Option.some.inj hG
        exact W.iret (v := o_8) hx hb hr (fun t ht hW => ⟨⟨o_8, (), rfl, rfl, trivial⟩, hS.F ht⟩) hS.2.2 dX10_hub_61
      have hG := q_ifn e_7 hG
      by_cases e_10 : z2 = 1
      · have hG := q_ifp e_10 hG
        refine lv_tableIn (off := 40) (tgt := 62) hx hb dX10_hub_22 (by rw [e_10]; decide) (by rw [e_10]; decide) (by rw [e_10]; decide) (by decide) ?_
        refine lv_aload_n hx hb dX10_hub_62 rfl (lv_at hl 0 rfl) ?_
        refine lv_iload_n hx hb dX10_hub_63 rfl (lv_at hl 1 rfl) ?_
        obtain ⟨o_11, r_12, hG⟩ := q_bi hG
        refine q_goi (v := o_11) (va_runV (As := [.int z1]) (rest := []) ⟨hx, hb, hml, hown, hts⟩ (c_X10_rightAt l dC dI bm km th tn at_ wr rm_ mn sn ac hi dn nw z1 o_11 r_12) (cwV 1 hts (q_gV m_630 m_631 m_632 m_5 m_633) rfl rfl rfl hdV_yX10_rightAt_1 ⟨Nat.le_of_ble_eq_true rfl, Nat.le_of_ble_eq_true rfl⟩) (q_preV hK hP (q := (RX10, TX10, 24)) (ci := 10) (q0 := 0) rfl rfl [0, 3] rfl [2] rfl) rfl rfl hl.1 rfl (lv_room (Nat.le_of_ble_eq_true rfl)) dX10_hub_64 ⟨Nat.le_of_ble_eq_true rfl, Nat.le_of_ble_eq_true rfl⟩) hP hS (fun H locs hP hS => ?_)
        obtain rfl := Option.some.inj hG
        exact W.iret (v := o_11) hx hb hr (fun t ht hW => ⟨⟨o_11, (), rfl, rfl, trivial⟩, hS.F ht⟩) hS.2.2 dX10_hub_67
      have hG := q_ifn e_10 hG
      by_cases e_13 : z2 = 2
      · have hG := q_ifp e_13 hG
        refine lv_tableIn (off := 46) (tgt := 68) hx hb dX10_hub_22 (by rw [e_13]; decide) (by rw [e_13]; decide) (by rw [e_13]; decide) (by decide) ?_
        refine lv_aload_n hx hb dX10_hub_68 rfl (lv_at hl 0 rfl) ?_
        refine lv_iload_n hx hb dX10_hub_69 rfl (lv_at hl 1 rfl) ?_
        obtain ⟨o_14, r_15, hG⟩ := q_bi hG
        refine q_goi (v := o_14) (va_runV (As := [.int z1]) (rest := []) ⟨hx, hb, hml, hown, hts⟩ (c_X10_givesOf l dC dI bm km th tn at_ wr rm_ mn sn ac hi dn ru nw z1 o_14 r_15) (cwV 1 hts (q_gV m_634 m_635 m_636 m_5 m_637) rfl rfl rfl hdV_yX10_givesOf_1 ⟨Nat.le_of_ble_eq_true rfl, Nat.le_of_ble_eq_true rfl⟩) (q_preV hK hP (q := (RX10, TX10, 24)) (ci := 10) (q0 := 0) rfl rfl [0, 1, 3] rfl [0, 2] rfl) rfl rfl hl.1 rfl (lv_room (Nat.le_of_ble_eq_true rfl)) dX10_hub_70 ⟨Nat.le_of_ble_eq_true rfl, Nat.le_of_ble_eq_true rfl⟩) hP hS (fun H locs hP hS => ?_)
        obtain rfl := Option.some.inj hG
        exact W.iret (v := o_14) hx hb hr (fun t ht hW => ⟨⟨o_14, (), rfl, rfl, trivial⟩, hS.F ht⟩) hS.2.2 dX10_hub_73
      have hG := q_ifn e_13 hG
      by_cases e_16 : z2 = 3
      · have hG := q_ifp e_16 hG
        refine lv_tableIn (off := 52) (tgt := 74) hx hb dX10_hub_22 (by rw [e_16]; decide) (by rw [e_16]; decide) (by rw [e_16]; decide) (by decide) ?_
        refine lv_iload_n hx hb dX10_hub_74 rfl (lv_at hl 1 rfl) ?_
        refine lv_bipush (v := 8) hx hb dX10_hub_75 (by decide) ?_
        refine lv_icmp_eq (tgt := 93) hx hb dX10_hub_77 (by decide) (fun c_17 => ?_) (fun c_17 => ?_)
        · have hG := q_ifp c_17 hG
          refine lv_aload_n hx hb dX10_hub_93 rfl (lv_at hl 0 rfl) ?_
          refine lv_iload_n hx hb dX10_hub_94 rfl (lv_at hl 1 rfl) ?_
          refine lv_iconst (v := (-1)) hx hb dX10_hub_95 (by decide) ?_
          obtain ⟨o_18, r_19, hG⟩ := q_bi hG
          refine q_goi (v := o_18) (va_runV (As := [.int z1, .int (-1)]) (rest := []) ⟨hx, hb, hml, hown, hts⟩ (c_X10_leftOf l dC dI bm km th tn at_ wr rm_ mn sn ac hi dn ru td nw z1 (-1) o_18 r_19) (cwV 2 hts (q_gV m_638 m_639 m_640 m_5 m_641) rfl rfl rfl hdV_yX10_leftOf_2 ⟨Nat.le_of_ble_eq_true rfl, Nat.le_of_ble_eq_true rfl⟩) (q_preV hK hP (q := (RX10, TX10, 24)) (ci := 10) (q0 := 0) rfl rfl [0, 1, 2, 3] rfl [0, 1, 2] rfl) rfl rfl hl.1 rfl (lv_room (Nat.le_of_ble_eq_true rfl)) dX10_hub_96 ⟨Nat.le_of_ble_eq_true rfl, Nat.le_of_ble_eq_true rfl⟩) hP hS (fun H locs hP hS => ?_)
          refine lv_istore_n (lv' := [(3, .int o_18), (0, .ref (bm 0)), (1, .int z1), (2, .int z2)]) hx hb dX10_hub_99 rfl hl (by decide) rfl (fun ls hl => ?_)
          refine lv_iload_n hx hb dX10_hub_100 rfl (lv_at hl 0 rfl) ?_
          refine lv_ldc (v := 1000000) hx hb hown (hts (.constant RX10 173 (1000000)) (List.mem_cons_of_mem _ m_621)) dX10_hub_101 ?_
          refine lv_icmp_ne (tgt := 112) hx hb dX10_hub_103 (by decide) (fun c_20 => ?_) (fun c_20 => ?_)
          · have hG := q_ifn c_20 hG
            refine lv_iload_n hx hb dX10_hub_112 rfl (lv_at hl 0 rfl) ?_
            obtain rfl := Option.some.inj hG
            exact W.iret (v := o_18) hx hb hr (fun t ht hW => ⟨⟨o_18, (), rfl, rfl, trivial⟩, hS.F ht⟩) hS.2.2 dX10_hub_113
          · have hG := q_ifp c_20 hG
            refine lv_ldcw (v := (-1000000)) hx hb hown (hts (.constant RX10 358 (-1000000)) (List.mem_cons_of_mem _ m_620)) dX10_hub_106 ?_
            refine lv_goto (tgt := 113) hx hb dX10_hub_109 (by decide) ?_
            obtain rfl := Option.some.inj hG
            exact W.iret (v := (-1000000)) hx hb hr (fun t ht hW => ⟨⟨(-1000000), (), rfl, rfl, trivial⟩, hS.F ht⟩) hS.2.2 dX10_hub_113
        · have hG := q_ifn c_17 hG
          refine lv_aload_n hx hb dX10_hub_80 rfl (lv_at hl 0 rfl) ?_
          refine lv_iload_n hx hb dX10_hub_81 rfl (lv_at hl 1 rfl) ?_
          obtain ⟨o_21, r_22, hG⟩ := q_bi hG
          refine q_goi (v := o_21) (va_runV (As := [.int z1]) (rest := []) ⟨hx, hb, hml, hown, hts⟩ (c_X10_state l dC dI bm km th tn at_ wr rm_ mn sn ac hi dn nw z1 o_21 r_22) (cwV 1 hts (q_gV m_504 m_505 m_506 m_5 m_507) rfl rfl rfl hdV_yX10_state_1 ⟨Nat.le_of_ble_eq_true rfl, Nat.le_of_ble_eq_true rfl⟩) (q_preV hK hP (q := (RX10, TX10, 24)) (ci := 10) (q0 := 0) rfl rfl [0, 3] rfl [2] rfl) rfl rfl hl.1 rfl (lv_room (Nat.le_of_ble_eq_true rfl)) dX10_hub_82 ⟨Nat.le_of_ble_eq_true rfl, Nat.le_of_ble_eq_true rfl⟩) hP hS (fun H locs hP hS => ?_)
          refine lv_if_ne (tgt := 93) hx hb dX10_hub_85 (by decide) (fun c_23 => ?_) (fun c_23 => ?_)
          · have hG := q_ifn c_23 hG
            refine lv_aload_n hx hb dX10_hub_93 rfl (lv_at hl 0 rfl) ?_
            refine lv_iload_n hx hb dX10_hub_94 rfl (lv_at hl 1 rfl) ?_
            refine lv_iconst (v := (-1)) hx hb dX10_hub_95 (by decide) ?_
            obtain ⟨o_24, r_25, hG⟩ := q_bi hG
            refine q_goi (v := o_24) (va_runV (As := [.int z1, .int (-1)]) (rest := []) ⟨hx, hb, hml, hown, hts⟩ (c_X10_leftOf l dC dI bm km th tn at_ wr rm_ mn sn ac hi dn ru td nw z1 (-1) o_24 r_25) (cwV 2 hts (q_gV m_638 m_639 m_640 m_5 m_641) rfl rfl rfl hdV_yX10_leftOf_2 ⟨Nat.le_of_ble_eq_true rfl, Nat.le_of_ble_eq_true rfl⟩) (q_preV hK hP (q := (RX10, TX10, 24)) (ci := 10) (q0 := 0) rfl rfl [0, 1, 2, 3] rfl [0, 1, 2] rfl) rfl rfl hl.1 rfl (lv_room (Nat.le_of_ble_eq_true rfl)) dX10_hub_96 ⟨Nat.le_of_ble_eq_true rfl, Nat.le_of_ble_eq_true rfl⟩) hP hS (fun H locs hP hS => ?_)
            refine lv_istore_n (lv' := [(3, .int o_24), (0, .ref (bm 0)), (1, .int z1), (2, .int z2)]) hx hb dX10_hub_99 rfl hl (by decide) rfl (fun ls hl => ?_)
            refine lv_iload_n hx hb dX10_hub_100 rfl (lv_at hl 0 rfl) ?_
            refine lv_ldc (v := 1000000) hx hb hown (hts (.constant RX10 173 (1000000)) (List.mem_cons_of_mem _ m_621)) dX10_hub_101 ?_
            refine lv_icmp_ne (tgt := 112) hx hb dX10_hub_103 (by decide) (fun c_26 => ?_) (fun c_26 => ?_)
            · have hG := q_ifn c_26 hG
              refine lv_iload_n hx hb dX10_hub_112 rfl (lv_at hl 0 rfl) ?_
              obtain rfl := Option.some.inj hG
              exact W.iret (v := o_24) hx hb hr (fun t ht hW => ⟨⟨o_24, (), rfl, rfl, trivial⟩, hS.F ht⟩) hS.2.2 dX10_hub_113
            · have hG := q_ifp c_26 hG
              refine lv_ldcw (v := (-1000000)) hx hb hown (hts (.constant RX10 358 (-1000000)) (List.mem_cons_of_mem _ m_620)) dX10_hub_106 ?_
              refine lv_goto (tgt := 113) hx hb dX10_hub_109 (by decide) ?_
              obtain rfl := Option.some.inj hG
              exact W.iret (v := (-1000000)) hx hb hr (fun t ht hW => ⟨⟨(-1000000), (), rfl, rfl, trivial⟩, hS.F ht⟩) hS.2.2 dX10_hub_113
          · have hG := q_ifp c_23 hG
            refine lv_ldc (v := 1000000) hx hb hown (hts (.constant RX10 173 (1000000)) (List.mem_cons_of_mem _ m_621)) dX10_hub_88 ?_
            refine lv_goto (tgt := 99) hx hb dX10_hub_90 (by decide) ?_
            refine lv_istore_n (lv' := [(3, .int 1000000), (0, .ref (bm 0)), (1, .int z1), (2, .int z2)]) hx hb dX10_hub_99 rfl hl (by decide) rfl (fun ls hl => ?_)
            refine lv_iload_n hx hb dX10_hub_100 rfl (lv_at hl 0 rfl) ?_
            refine lv_ldc (v := 1000000) hx hb hown (hts (.constant RX10 173 (1000000)) (List.mem_cons_of_mem _ m_621)) dX10_hub_101 ?_
            refine lv_icmp_ne (tgt := 112) hx hb dX10_hub_103 (by decide) (fun c_27 => ?_) (fun c_27 => ?_)
            · exact absurd (by decide) c_27
            refine lv_ldcw (v := (-1000000)) hx hb hown (hts (.constant RX10 358 (-1000000)) (List.mem_cons_of_mem _ m_620)) dX10_hub_106 ?_
            refine lv_goto (tgt := 113) hx hb dX10_hub_109 (by decide) ?_
            obtain rfl := Option.some.inj hG
            exact W.iret (v := (-1000000)) hx hb hr (fun t ht hW => ⟨⟨(-1000000), (), rfl, rfl, trivial⟩, hS.F ht⟩) hS.2.2 dX10_hub_113
      have hG := q_ifn e_16 hG
      by_cases e_28 : z2 = 4
      · have hG := q_ifp e_28 hG
        refine lv_tableIn (off := 92) (tgt := 114) hx hb dX10_hub_22 (by rw [e_28]; decide) (by rw [e_28]; decide) (by rw [e_28]; decide) (by decide) ?_
        refine lv_aload_n hx hb dX10_hub_114 rfl (lv_at hl 0 rfl) ?_
        refine lv_iload_n hx hb dX10_hub_115 rfl (lv_at hl 1 rfl) ?_
        obtain ⟨o_29, r_30, hG⟩ := q_bi hG
        refine q_goi (v := o_29) (va_runV (As := [.int z1]) (rest := []) ⟨hx, hb, hml, hown, hts⟩ (c_X10_helpOf l dC dI bm km th tn at_ wr rm_ mn sn ac hi dn td nw z1 o_29 r_30) (cwV 1 hts (q_gV m_642 m_643 m_644 m_5 m_645) rfl rfl rfl hdV_yX10_helpOf_1 ⟨Nat.le_of_ble_eq_true rfl, Nat.le_of_ble_eq_true rfl⟩) (q_preV hK hP (q := (RX10, TX10, 24)) (ci := 10) (q0 := 0) rfl rfl [0, 2, 3] rfl [1, 2] rfl) rfl rfl hl.1 rfl (lv_room (Nat.le_of_ble_eq_true rfl)) dX10_hub_116 ⟨Nat.le_of_ble_eq_true rfl, Nat.le_of_ble_eq_true rfl⟩) hP hS (fun H locs hP hS => ?_)
        obtain rfl := Option.some.inj hG
        exact W.iret (v := o_29) hx hb hr (fun t ht hW => ⟨⟨o_29, (), rfl, rfl, trivial⟩, hS.F ht⟩) hS.2.2 dX10_hub_119
      have hG := q_ifn e_28 hG
      have hsw : (z2).toInt < 0 ∨ 4 < (z2).toInt := by
        have := lv_neT (a := 0) e_7 (by decide)
        have := lv_neT (a := 1) e_10 (by decide)
        have := lv_neT (a := 2) e_13 (by decide)
        have := lv_neT (a := 3) e_16 (by decide)
        have := lv_neT (a := 4) e_28 (by decide)
        omega
      refine lv_tableOut (tgt := 120) hx hb dX10_hub_22 hsw (by decide) ?_
      refine lv_aload_n hx hb dX10_hub_120 rfl (lv_at hl 0 rfl) ?_
      refine lv_iload_n hx hb dX10_hub_121 rfl (lv_at hl 1 rfl) ?_
      obtain ⟨o_31, r_32, hG⟩ := q_bi hG
      refine q_goi (v := o_31) (va_runV (As := [.int z1]) (rest := []) ⟨hx, hb, hml, hown, hts⟩ (c_X10_portsOf l dC dI bm km th tn at_ wr rm_ mn sn ac hi dn ru td z1 o_31 r_32) (cwV 1 hts (q_gV m_544 m_545 m_546 m_5 m_547) rfl rfl rfl hdV_yX10_portsOf_1 ⟨Nat.le_of_ble_eq_true rfl, Nat.le_of_ble_eq_true rfl⟩) (q_preV hK hP (q := (RX10, TX10, 24)) (ci := 10) (q0 := 0) rfl rfl [0, 1, 2] rfl [0, 1] rfl) rfl rfl hl.1 rfl (lv_room (Nat.le_of_ble_eq_true rfl)) dX10_hub_122 ⟨Nat.le_of_ble_eq_true rfl, Nat.le_of_ble_eq_true rfl⟩) hP hS (fun H locs hP hS => ?_)
      refine lv_aload_n hx hb dX10_hub_125 rfl (lv_at hl 0 rfl) ?_
      refine lv_iload_n hx hb dX10_hub_126 rfl (lv_at hl 1 rfl) ?_
      obtain ⟨o_33, r_34, hG⟩ := q_bi hG
      refine q_goi (v := o_33) (va_runV (As := [.int z1]) (rest := [.int o_31]) ⟨hx, hb, hml, hown, hts⟩ (c_X10_rightAt l dC dI bm km th tn at_ wr rm_ mn sn ac hi dn nw z1 o_33 r_34) (cwV 1 hts (q_gV m_630 m_631 m_632 m_5 m_633) rfl rfl rfl hdV_yX10_rightAt_1 ⟨Nat.le_of_ble_eq_true rfl, Nat.le_of_ble_eq_true rfl⟩) (q_preV hK hP (q := (RX10, TX10, 24)) (ci := 10) (q0 := 0) rfl rfl [0, 3] rfl [2] rfl) rfl rfl hl.1 rfl (lv_room (Nat.le_of_ble_eq_true rfl)) dX10_hub_127 ⟨Nat.le_of_ble_eq_true rfl, Nat.le_of_ble_eq_true rfl⟩) hP hS (fun H locs hP hS => ?_)
      obtain ⟨o_35, r_36, hG⟩ := q_bi hG
      refine q_goi (v := o_35) (va_runS (As := [.int o_33]) (rest := [.int o_31]) ⟨hx, hb, hml, hown, hts⟩ (c_X10_bits l dC dI o_33 o_35 r_36) (va_cwS 1 hts (q_gS m_658 m_659 m_5 m_660) rfl rfl rfl hdS_yX10_bits_1 ⟨Nat.le_of_ble_eq_true rfl, Nat.le_of_ble_eq_true rfl⟩) (q_preS hK hP [] rfl [] rfl) rfl rfl hl.1 rfl (lv_room (Nat.le_of_ble_eq_true rfl)) dX10_hub_130 ⟨Nat.le_of_ble_eq_true rfl, Nat.le_of_ble_eq_true rfl⟩) hP hS (fun H locs hP hS => ?_)
      refine lv_isub hx hb dX10_hub_133 ?_
      obtain rfl := Option.some.inj hG
      exact W.iret (v := (o_31 - o_35)) hx hb hr (fun t ht hW => ⟨⟨(o_31 - o_35), (), rfl, rfl, trivial⟩, hS.F ht⟩) hS.2.2 dX10_hub_134
    · have hG := q_ifp c_6 hG
      refine lv_ldcw (v := (-1000000)) hx hb hown (hts (.constant RX10 358 (-1000000)) (List.mem_cons_of_mem _ m_620)) dX10_hub_17 ?_
      obtain rfl := Option.some.inj hG
      exact W.iret (v := (-1000000)) hx hb hr (fun t ht hW => ⟨⟨(-1000000), (), rfl, rfl, trivial⟩, hS.F ht⟩) hS.2.2 dX10_hub_20

def F_X10_octet (mn : Int32) (td : Nat → Int32) (nw : Nat → Int32) (z1 : Int32) (z2 : Int32) : Option (Int32) := ((F_X10_isDevice mn z1).bind fun o_1 => (if o_1 = 0 then some ((-1)) else ((F_X10_longOf td z1).bind fun o_4 => ((F_X10_in z2 0 (o_4 - 1)).bind fun o_6 => (if o_6 = 0 then some ((-1)) else ((F_X10_byteAt td nw z1 z2).bind fun o_9 => some (o_9)))))))
set_option maxHeartbeats 4000000 in
set_option maxRecDepth 100000 in
theorem c_X10_octet (l : Launch) (dC : Nat → ClassId) (dI : Nat → Nat → Nat) (bm : Nat → Nat) (km : Nat → ClassId) (th : Int32) (tn : Int32) (at_ : Int32) (wr : Int32) (rm_ : Int32) (mn : Int32) (sn : Int32) (ac : Int32) (hi : Int32) (dn : Int64) (td : Nat → Int32) (nw : Nat → Int32) (z1 : Int32) (z2 : Int32) (o : Int32) (hG : F_X10_octet mn td nw z1 z2 = some o) : Met l yX10_octet (.code yX10_octet cX10_octet 3 (some .int) :: wA) ({ frames := 4, cells := 0, slots := 0, locals := 90 }) (va_Pc [.ref (bm 0), .int z1, .int z2] (q_R (dC, dI) [((bm 0), .inr (10, [.int th, .ref (bm 1), .int tn, .int at_, .int wr, .ref (bm 2), .ref (bm 3), .int rm_, .ref (bm 4), .ref (bm 5), .int mn, .ref (bm 6), .ref (bm 7), .int sn, .ref (bm 8), .ref (bm 9), .ref (bm 10), .int ac, .long dn, .ref (bm 11), .ref (bm 12), .ref (bm 13), .ref (bm 14), .int hi])), ((bm 5), .inl ((km 5), 48, .inl td)), ((bm 8), .inl ((km 8), 279, .inl nw))] [((km 5), .int), ((km 8), .int)])) (q_i o) 0 0 (fun _ => False) := by
  refine Met.ofW (cc := cX10_octet) (maxL := 3) (ret := (some .int)) (by decide) rfl ?_
  intro p e s m args below meth c s₁ B hml hv
  obtain ⟨rfl, hP, hK⟩ := hv
  have hx := B.exec
  have hb := B.bytes
  have hr := B.returns
  have hts := atoms_spec (ws := .code yX10_octet cX10_octet 3 (some .int) :: wA) B.pre
  have hown : s.vm.findClass RX10 = some m.cls := findClass_of_methodNamed B.named
  have hlocks := B.notSynchronized
  have hS : va_S (fun _ => False) s.heap s.heap [] := va_S.rf
  have hl := lv_entry ([.ref (bm 0), .int z1, .int z2]) (n := 3) (Nat.le_of_ble_eq_true rfl)
  rw [lg_entry_eq]
  generalize (lg_sl ([.ref (bm 0), .int z1, .int z2]) ++ List.replicate (3 - (lg_sl ([.ref (bm 0), .int z1, .int z2])).length) Slot.unset).toArray = ls at hl ⊢
  have hl : lv_has ls 3 [(0, .ref (bm 0)), (1, .int z1), (2, .int z2)] := hl
  unfold F_X10_octet at hG
  refine lv_aload_n hx hb dX10_octet_0 rfl (lv_at hl 0 rfl) ?_
  refine lv_iload_n hx hb dX10_octet_1 rfl (lv_at hl 1 rfl) ?_
  obtain ⟨o_1, r_2, hG⟩ := q_bi hG
  refine q_goi (v := o_1) (va_runV (As := [.int z1]) (rest := []) ⟨hx, hb, hml, hown, hts⟩ (c_X10_isDevice l dC dI bm km th tn at_ wr rm_ mn sn ac hi dn z1 o_1 r_2) (cwV 1 hts (q_gV m_472 m_473 m_474 m_5 m_475) rfl rfl rfl hdV_yX10_isDevice_1 ⟨Nat.le_of_ble_eq_true rfl, Nat.le_of_ble_eq_true rfl⟩) (q_preV hK hP (q := (RX10, TX10, 24)) (ci := 10) (q0 := 0) rfl rfl [0] rfl [] rfl) rfl rfl hl.1 rfl (lv_room (Nat.le_of_ble_eq_true rfl)) dX10_octet_2 ⟨Nat.le_of_ble_eq_true rfl, Nat.le_of_ble_eq_true rfl⟩) hP hS (fun H locs hP hS => ?_)
  refine lv_if_eq (tgt := 32) hx hb dX10_octet_5 (by decide) (fun c_3 => ?_) (fun c_3 => ?_)
  · have hG := q_ifp c_3 hG
    refine lv_iconst (v := (-1)) hx hb dX10_octet_32 (by decide) ?_
    obtain rfl := Option.some.inj hG
    exact W.iret (v := (-1)) hx hb hr (fun t ht hW => ⟨⟨(-1), (), rfl, rfl, trivial⟩, hS.F ht⟩) hS.2.2 dX10_octet_33
  · have hG := q_ifn c_3 hG
    refine lv_iload_n hx hb dX10_octet_8 rfl (lv_at hl 2 rfl) ?_
    refine lv_iconst (v := 0) hx hb dX10_octet_9 (by decide) ?_
    refine lv_aload_n hx hb dX10_octet_10 rfl (lv_at hl 0 rfl) ?_
    refine lv_iload_n hx hb dX10_octet_11 rfl (lv_at hl 1 rfl) ?_
    obtain ⟨o_4, r_5, hG⟩ := q_bi hG
    refine q_goi (v := o_4) (va_runV (As := [.int z1]) (rest := [.int 0, .int z2]) ⟨hx, hb, hml, hown, hts⟩ (c_X10_longOf l dC dI bm km th tn at_ wr rm_ mn sn ac hi dn td z1 o_4 r_5) (cwV 1 hts (q_gV m_681 m_682 m_683 m_5 m_684) rfl rfl rfl hdV_yX10_longOf_1 ⟨Nat.le_of_ble_eq_true rfl, Nat.le_of_ble_eq_true rfl⟩) (q_preV hK hP (q := (RX10, TX10, 24)) (ci := 10) (q0 := 0) rfl rfl [0, 1] rfl [0] rfl) rfl rfl hl.1 rfl (lv_room (Nat.le_of_ble_eq_true rfl)) dX10_octet_12 ⟨Nat.le_of_ble_eq_true rfl, Nat.le_of_ble_eq_true rfl⟩) hP hS (fun H locs hP hS => ?_)
    refine lv_iconst (v := 1) hx hb dX10_octet_15 (by decide) ?_
    refine lv_isub hx hb dX10_octet_16 ?_
    obtain ⟨o_6, r_7, hG⟩ := q_bi hG
    refine q_goi (v := o_6) (va_runS (As := [.int z2, .int 0, .int (o_4 - 1)]) (rest := []) ⟨hx, hb, hml, hown, hts⟩ (c_X10_in l dC dI z2 0 (o_4 - 1) o_6 r_7) (va_cwS 3 hts (q_gS m_157 m_158 m_5 m_159) rfl rfl rfl hdS_yX10_in_3 ⟨Nat.le_of_ble_eq_true rfl, Nat.le_of_ble_eq_true rfl⟩) (q_preS hK hP [] rfl [] rfl) rfl rfl hl.1 rfl (lv_room (Nat.le_of_ble_eq_true rfl)) dX10_octet_17 ⟨Nat.le_of_ble_eq_true rfl, Nat.le_of_ble_eq_true rfl⟩) hP hS (fun H locs hP hS => ?_)
    refine lv_if_eq (tgt := 32) hx hb dX10_octet_20 (by decide) (fun c_8 => ?_) (fun c_8 => ?_)
    · have hG := q_ifp c_8 hG
      refine lv_iconst (v := (-1)) hx hb dX10_octet_32 (by decide) ?_
      obtain rfl := Option.some.inj hG
      exact W.iret (v := (-1)) hx hb hr (fun t ht hW => ⟨⟨(-1), (), rfl, rfl, trivial⟩, hS.F ht⟩) hS.2.2 dX10_octet_33
    · have hG := q_ifn c_8 hG
      refine lv_aload_n hx hb dX10_octet_23 rfl (lv_at hl 0 rfl) ?_
      refine lv_iload_n hx hb dX10_octet_24 rfl (lv_at hl 1 rfl) ?_
      refine lv_iload_n hx hb dX10_octet_25 rfl (lv_at hl 2 rfl) ?_
      obtain ⟨o_9, r_10, hG⟩ := q_bi hG
      refine q_goi (v := o_9) (va_runV (As := [.int z1, .int z2]) (rest := []) ⟨hx, hb, hml, hown, hts⟩ (c_X10_byteAt l dC dI bm km th tn at_ wr rm_ mn sn ac hi dn td nw z1 z2 o_9 r_10) (cwV 2 hts (q_gV m_685 m_686 m_687 m_5 m_688) rfl rfl rfl hdV_yX10_byteAt_2 ⟨Nat.le_of_ble_eq_true rfl, Nat.le_of_ble_eq_true rfl⟩) (q_preV hK hP (q := (RX10, TX10, 24)) (ci := 10) (q0 := 0) rfl rfl [0, 1, 2] rfl [0, 1] rfl) rfl rfl hl.1 rfl (lv_room (Nat.le_of_ble_eq_true rfl)) dX10_octet_26 ⟨Nat.le_of_ble_eq_true rfl, Nat.le_of_ble_eq_true rfl⟩) hP hS (fun H locs hP hS => ?_)
      refine lv_goto (tgt := 33) hx hb dX10_octet_29 (by decide) ?_
      obtain rfl := Option.some.inj hG
      exact W.iret (v := o_9) hx hb hr (fun t ht hW => ⟨⟨o_9, (), rfl, rfl, trivial⟩, hS.F ht⟩) hS.2.2 dX10_octet_33

def F_X10_at (mn : Int32) (nw : Nat → Int32) (z1 : Int32) : Option (Int32) := (if z1 ≤ 0 then some ((-1)) else ((F_X10_whoHas mn nw z1).bind fun o_2 => some (o_2)))
set_option maxHeartbeats 4000000 in
set_option maxRecDepth 100000 in
theorem c_X10_at (l : Launch) (dC : Nat → ClassId) (dI : Nat → Nat → Nat) (bm : Nat → Nat) (km : Nat → ClassId) (th : Int32) (tn : Int32) (at_ : Int32) (wr : Int32) (rm_ : Int32) (mn : Int32) (sn : Int32) (ac : Int32) (hi : Int32) (dn : Int64) (nw : Nat → Int32) (z1 : Int32) (o : Int32) (hG : F_X10_at mn nw z1 = some o) : Met l yX10_at (.code yX10_at cX10_at 2 (some .int) :: wA) ({ frames := 2, cells := 0, slots := 0, locals := 43 }) (va_Pc [.ref (bm 0), .int z1] (q_R (dC, dI) [((bm 0), .inr (10, [.int th, .ref (bm 1), .int tn, .int at_, .int wr, .ref (bm 2), .ref (bm 3), .int rm_, .ref (bm 4), .ref (bm 5), .int mn, .ref (bm 6), .ref (bm 7), .int sn, .ref (bm 8), .ref (bm 9), .ref (bm 10), .int ac, .long dn, .ref (bm 11), .ref (bm 12), .ref (bm 13), .ref (bm 14), .int hi])), ((bm 8), .inl ((km 8), 279, .inl nw))] [((km 8), .int)])) (q_i o) 0 0 (fun _ => False) := by
  refine Met.ofW (cc := cX10_at) (maxL := 2) (ret := (some .int)) (by decide) rfl ?_
  intro p e s m args below meth c s₁ B hml hv
  obtain ⟨rfl, hP, hK⟩ := hv
  have hx := B.exec
  have hb := B.bytes
  have hr := B.returns
  have hts := atoms_spec (ws := .code yX10_at cX10_at 2 (some .int) :: wA) B.pre
  have hown : s.vm.findClass RX10 = some m.cls := findClass_of_methodNamed B.named
  have hlocks := B.notSynchronized
  have hS : va_S (fun _ => False) s.heap s.heap [] := va_S.rf
  have hl := lv_entry ([.ref (bm 0), .int z1]) (n := 2) (Nat.le_of_ble_eq_true rfl)
  rw [lg_entry_eq]
  generalize (lg_sl ([.ref (bm 0), .int z1]) ++ List.replicate (2 - (lg_sl ([.ref (bm 0), .int z1])).length) Slot.unset).toArray = ls at hl ⊢
  have hl : lv_has ls 2 [(0, .ref (bm 0)), (1, .int z1)] := hl
  unfold F_X10_at at hG
  refine lv_iload_n hx hb dX10_at_0 rfl (lv_at hl 1 rfl) ?_
  refine lv_if_le (tgt := 12) hx hb dX10_at_1 (by decide) (fun c_1 => ?_) (fun c_1 => ?_)
  · have hG := q_ifp c_1 hG
    refine lv_iconst (v := (-1)) hx hb dX10_at_12 (by decide) ?_
    obtain rfl := Option.some.inj hG
    exact W.iret (v := (-1)) hx hb hr (fun t ht hW => ⟨⟨(-1), (), rfl, rfl, trivial⟩, hS.F ht⟩) hS.2.2 dX10_at_13
  · have hG := q_ifn c_1 hG
    refine lv_aload_n hx hb dX10_at_4 rfl (lv_at hl 0 rfl) ?_
    refine lv_iload_n hx hb dX10_at_5 rfl (lv_at hl 1 rfl) ?_
    obtain ⟨o_2, r_3, hG⟩ := q_bi hG
    refine q_goi (v := o_2) (va_runV (As := [.int z1]) (rest := []) ⟨hx, hb, hml, hown, hts⟩ (c_X10_whoHas l dC dI bm km th tn at_ wr rm_ mn sn ac hi dn nw z1 o_2 r_3) (cwV 1 hts (q_gV m_705 m_706 m_707 m_5 m_708) rfl rfl rfl hdV_yX10_whoHas_1 ⟨Nat.le_of_ble_eq_true rfl, Nat.le_of_ble_eq_true rfl⟩) (q_preV hK hP (q := (RX10, TX10, 24)) (ci := 10) (q0 := 0) rfl rfl [0, 1] rfl [0] rfl) rfl rfl hl.1 rfl (lv_room (Nat.le_of_ble_eq_true rfl)) dX10_at_6 ⟨Nat.le_of_ble_eq_true rfl, Nat.le_of_ble_eq_true rfl⟩) hP hS (fun H locs hP hS => ?_)
    refine lv_goto (tgt := 13) hx hb dX10_at_9 (by decide) ?_
    obtain rfl := Option.some.inj hG
    exact W.iret (v := o_2) hx hb hr (fun t ht hW => ⟨⟨o_2, (), rfl, rfl, trivial⟩, hS.F ht⟩) hS.2.2 dX10_at_13

def F_X10_helper (mn : Int32) (nw : Nat → Int32) (z1 : Int32) : Option (Int32) := ((F_X10_isDevice mn z1).bind fun o_1 => (if o_1 = 0 then some ((-1)) else ((F_X10_state nw z1).bind fun o_4 => (if o_4 = 6 then ((F_X10_helperOf nw z1).bind fun o_7 => some (o_7)) else some ((-1))))))
set_option maxHeartbeats 4000000 in
set_option maxRecDepth 100000 in
theorem c_X10_helper (l : Launch) (dC : Nat → ClassId) (dI : Nat → Nat → Nat) (bm : Nat → Nat) (km : Nat → ClassId) (th : Int32) (tn : Int32) (at_ : Int32) (wr : Int32) (rm_ : Int32) (mn : Int32) (sn : Int32) (ac : Int32) (hi : Int32) (dn : Int64) (nw : Nat → Int32) (z1 : Int32) (o : Int32) (hG : F_X10_helper mn nw z1 = some o) : Met l yX10_helper (.code yX10_helper cX10_helper 2 (some .int) :: wA) ({ frames := 2, cells := 0, slots := 0, locals := 43 }) (va_Pc [.ref (bm 0), .int z1] (q_R (dC, dI) [((bm 0), .inr (10, [.int th, .ref (bm 1), .int tn, .int at_, .int wr, .ref (bm 2), .ref (bm 3), .int rm_, .ref (bm 4), .ref (bm 5), .int mn, .ref (bm 6), .ref (bm 7), .int sn, .ref (bm 8), .ref (bm 9), .ref (bm 10), .int ac, .long dn, .ref (bm 11), .ref (bm 12), .ref (bm 13), .ref (bm 14), .int hi])), ((bm 8), .inl ((km 8), 279, .inl nw))] [((km 8), .int)])) (q_i o) 0 0 (fun _ => False) := by
  refine Met.ofW (cc := cX10_helper) (maxL := 2) (ret := (some .int)) (by decide) rfl ?_
  intro p e s m args below meth c s₁ B hml hv
  obtain ⟨rfl, hP, hK⟩ := hv
  have hx := B.exec
  have hb := B.bytes
  have hr := B.returns
  have hts := atoms_spec (ws := .code yX10_helper cX10_helper 2 (some .int) :: wA) B.pre
  have hown : s.vm.findClass RX10 = some m.cls := findClass_of_methodNamed B.named
  have hlocks := B.notSynchronized
  have hS : va_S (fun _ => False) s.heap s.heap [] := va_S.rf
  have hl := lv_entry ([.ref (bm 0), .int z1]) (n := 2) (Nat.le_of_ble_eq_true rfl)
  rw [lg_entry_eq]
  generalize (lg_sl ([.ref (bm 0), .int z1]) ++ List.replicate (2 - (lg_sl ([.ref (bm 0), .int z1])).length) Slot.unset).toArray = ls at hl ⊢
  have hl : lv_has ls 2 [(0, .ref (bm 0)), (1, .int z1)] := hl
  unfold F_X10_helper at hG
  refine lv_aload_n hx hb dX10_helper_0 rfl (lv_at hl 0 rfl) ?_
  refine lv_iload_n hx hb dX10_helper_1 rfl (lv_at hl 1 rfl) ?_
  obtain ⟨o_1, r_2, hG⟩ := q_bi hG
  refine q_goi (v := o_1) (va_runV (As := [.int z1]) (rest := []) ⟨hx, hb, hml, hown, hts⟩ (c_X10_isDevice l dC dI bm km th tn at_ wr rm_ mn sn ac hi dn z1 o_1 r_2) (cwV 1 hts (q_gV m_472 m_473 m_474 m_5 m_475) rfl rfl rfl hdV_yX10_isDevice_1 ⟨Nat.le_of_ble_eq_true rfl, Nat.le_of_ble_eq_true rfl⟩) (q_preV hK hP (q := (RX10, TX10, 24)) (ci := 10) (q0 := 0) rfl rfl [0] rfl [] rfl) rfl rfl hl.1 rfl (lv_room (Nat.le_of_ble_eq_true rfl)) dX10_helper_2 ⟨Nat.le_of_ble_eq_true rfl, Nat.le_of_ble_eq_true rfl⟩) hP hS (fun H locs hP hS => ?_)
  refine lv_if_eq (tgt := 26) hx hb dX10_helper_5 (by decide) (fun c_3 => ?_) (fun c_3 => ?_)
  · have hG := q_ifp c_3 hG
    refine lv_iconst (v := (-1)) hx hb dX10_helper_26 (by decide) ?_
    obtain rfl := Option.some.inj hG
    exact W.iret (v := (-1)) hx hb hr (fun t ht hW => ⟨⟨(-1), (), rfl, rfl, trivial⟩, hS.F ht⟩) hS.2.2 dX10_helper_27
  · have hG := q_ifn c_3 hG
    refine lv_aload_n hx hb dX10_helper_8 rfl (lv_at hl 0 rfl) ?_
    refine lv_iload_n hx hb dX10_helper_9 rfl (lv_at hl 1 rfl) ?_
    obtain ⟨o_4, r_5, hG⟩ := q_bi hG
    refine q_goi (v := o_4) (va_runV (As := [.int z1]) (rest := []) ⟨hx, hb, hml, hown, hts⟩ (c_X10_state l dC dI bm km th tn at_ wr rm_ mn sn ac hi dn nw z1 o_4 r_5) (cwV 1 hts (q_gV m_504 m_505 m_506 m_5 m_507) rfl rfl rfl hdV_yX10_state_1 ⟨Nat.le_of_ble_eq_true rfl, Nat.le_of_ble_eq_true rfl⟩) (q_preV hK hP (q := (RX10, TX10, 24)) (ci := 10) (q0 := 0) rfl rfl [0, 1] rfl [0] rfl) rfl rfl hl.1 rfl (lv_room (Nat.le_of_ble_eq_true rfl)) dX10_helper_10 ⟨Nat.le_of_ble_eq_true rfl, Nat.le_of_ble_eq_true rfl⟩) hP hS (fun H locs hP hS => ?_)
    refine lv_bipush (v := 6) hx hb dX10_helper_13 (by decide) ?_
    refine lv_icmp_ne (tgt := 26) hx hb dX10_helper_15 (by decide) (fun c_6 => ?_) (fun c_6 => ?_)
    · have hG := q_ifn c_6 hG
      refine lv_iconst (v := (-1)) hx hb dX10_helper_26 (by decide) ?_
      obtain rfl := Option.some.inj hG
      exact W.iret (v := (-1)) hx hb hr (fun t ht hW => ⟨⟨(-1), (), rfl, rfl, trivial⟩, hS.F ht⟩) hS.2.2 dX10_helper_27
    · have hG := q_ifp c_6 hG
      refine lv_aload_n hx hb dX10_helper_18 rfl (lv_at hl 0 rfl) ?_
      refine lv_iload_n hx hb dX10_helper_19 rfl (lv_at hl 1 rfl) ?_
      obtain ⟨o_7, r_8, hG⟩ := q_bi hG
      refine q_goi (v := o_7) (va_runV (As := [.int z1]) (rest := []) ⟨hx, hb, hml, hown, hts⟩ (c_X10_helperOf l dC dI bm km th tn at_ wr rm_ mn sn ac hi dn nw z1 o_7 r_8) (cwV 1 hts (q_gV m_650 m_651 m_652 m_5 m_653) rfl rfl rfl hdV_yX10_helperOf_1 ⟨Nat.le_of_ble_eq_true rfl, Nat.le_of_ble_eq_true rfl⟩) (q_preV hK hP (q := (RX10, TX10, 24)) (ci := 10) (q0 := 0) rfl rfl [0, 1] rfl [0] rfl) rfl rfl hl.1 rfl (lv_room (Nat.le_of_ble_eq_true rfl)) dX10_helper_20 ⟨Nat.le_of_ble_eq_true rfl, Nat.le_of_ble_eq_true rfl⟩) hP hS (fun H locs hP hS => ?_)
      refine lv_goto (tgt := 27) hx hb dX10_helper_23 (by decide) ?_
      obtain rfl := Option.some.inj hG
      exact W.iret (v := o_7) hx hb hr (fun t ht hW => ⟨⟨o_7, (), rfl, rfl, trivial⟩, hS.F ht⟩) hS.2.2 dX10_helper_27

def FL_X10_putAside_2 (nw : Nat → Int32) (as_ : Nat → Int32) : Nat → Int32 → (Nat → Int32) → Option ((Nat → Int32))
  | 0, _, _ => none
  | n + 1, x1_2, as__c => (if 98 ≤ x1_2 then some (as__c) else (if x1_2 < 0 ∨ 279 ≤ (x1_2).toNatClampNeg then none else (if x1_2 < 0 ∨ 98 ≤ (x1_2).toNatClampNeg then none else (FL_X10_putAside_2 nw as_ n (x1_2 + 1) (upd as__c (x1_2).toNatClampNeg (nw (x1_2).toNatClampNeg))))))

def F_X10_putAside (nw : Nat → Int32) (as_ : Nat → Int32) : Option ((Nat → Int32)) := (FL_X10_putAside_2 nw as_ 1000 0 as_)
set_option maxHeartbeats 4000000 in
set_option maxRecDepth 100000 in
theorem c_X10_putAside (l : Launch) (dC : Nat → ClassId) (dI : Nat → Nat → Nat) (bm : Nat → Nat) (km : Nat → ClassId) (th : Int32) (tn : Int32) (at_ : Int32) (wr : Int32) (rm_ : Int32) (mn : Int32) (sn : Int32) (ac : Int32) (hi : Int32) (dn : Int64) (nw : Nat → Int32) (as_ : Nat → Int32) (A : Nat → Prop) (o : (Nat → Int32)) (hG : F_X10_putAside nw as_ = some o) : Met l yX10_putAside (.code yX10_putAside cX10_putAside 2 none :: wA) ({ frames := 0, cells := 0, slots := 0, locals := 0 }) (va_Pc [.ref (bm 0)] (q_W (dC, dI) A [((bm 0), .inr (10, [.int th, .ref (bm 1), .int tn, .int at_, .int wr, .ref (bm 2), .ref (bm 3), .int rm_, .ref (bm 4), .ref (bm 5), .int mn, .ref (bm 6), .ref (bm 7), .int sn, .ref (bm 8), .ref (bm 9), .ref (bm 10), .int ac, .long dn, .ref (bm 11), .ref (bm 12), .ref (bm 13), .ref (bm 14), .int hi])), ((bm 8), .inl ((km 8), 279, .inl nw)), ((bm 11), .inl ((km 11), 98, .inl as_))] [((km 8), .int), ((km 11), .int)])) (va_Qv (fun _ : Unit => True) (fun (_ : Unit) t => q_B (dC, dI) A [((bm 0), .inr (10, [.int th, .ref (bm 1), .int tn, .int at_, .int wr, .ref (bm 2), .ref (bm 3), .int rm_, .ref (bm 4), .ref (bm 5), .int mn, .ref (bm 6), .ref (bm 7), .int sn, .ref (bm 8), .ref (bm 9), .ref (bm 10), .int ac, .long dn, .ref (bm 11), .ref (bm 12), .ref (bm 13), .ref (bm 14), .int hi])), ((bm 8), .inl ((km 8), 279, .inl nw)), ((bm 11), .inl ((km 11), 98, .inl (o)))] [((km 8), .int), ((km 11), .int)] t) A) 0 0 A := by
  refine Met.ofW (cc := cX10_putAside) (maxL := 2) (ret := none) (by decide) rfl ?_
  intro p e s m args below meth c s₁ B hml hv
  obtain ⟨rfl, hP, hK, hD, hA⟩ := hv
  have hx := B.exec
  have hb := B.bytes
  have hr := B.returns
  have hts := atoms_spec (ws := .code yX10_putAside cX10_putAside 2 none :: wA) B.pre
  have hown : s.vm.findClass RX10 = some m.cls := findClass_of_methodNamed B.named
  have hlocks := B.notSynchronized
  have hS : va_S A s.heap s.heap [] := va_S.rf
  have hl := lv_entry ([.ref (bm 0)]) (n := 2) (Nat.le_of_ble_eq_true rfl)
  rw [lg_entry_eq]
  generalize (lg_sl ([.ref (bm 0)]) ++ List.replicate (2 - (lg_sl ([.ref (bm 0)])).length) Slot.unset).toArray = ls at hl ⊢
  have hl : lv_has ls 2 [(0, .ref (bm 0))] := hl
  unfold F_X10_putAside at hG
  refine lv_iconst (v := 0) hx hb dX10_putAside_0 (by decide) ?_
  refine lv_istore_n (lv' := [(1, .int 0), (0, .ref (bm 0))]) hx hb dX10_putAside_1 rfl hl (by decide) rfl (fun ls hl => ?_)
  have L_2 : ∀ (n_2 : Nat) (x1_2 : Int32) (as__c : Nat → Int32) (H : Heap) (locs : List Loc) (ls : Array Slot), FL_X10_putAside_2 nw as_ n_2 x1_2 as__c = some o → va_P (dC, dI) vwCl [((bm 0), .inr (10, [.int th, .ref (bm 1), .int tn, .int at_, .int wr, .ref (bm 2), .ref (bm 3), .int rm_, .ref (bm 4), .ref (bm 5), .int mn, .ref (bm 6), .ref (bm 7), .int sn, .ref (bm 8), .ref (bm 9), .ref (bm 10), .int ac, .long dn, .ref (bm 11), .ref (bm 12), .ref (bm 13), .ref (bm 14), .int hi])), ((bm 8), .inl ((km 8), 279, .inl nw)), ((bm 11), .inl ((km 11), 98, .inl as__c))] H → va_D A [((bm 0), .inr (10, [.int th, .ref (bm 1), .int tn, .int at_, .int wr, .ref (bm 2), .ref (bm 3), .int rm_, .ref (bm 4), .ref (bm 5), .int mn, .ref (bm 6), .ref (bm 7), .int sn, .ref (bm 8), .ref (bm 9), .ref (bm 10), .int ac, .long dn, .ref (bm 11), .ref (bm 12), .ref (bm 13), .ref (bm 14), .int hi])), ((bm 8), .inl ((km 8), 279, .inl nw)), ((bm 11), .inl ((km 11), 98, .inl as__c))] → va_S A s.heap H locs → lv_has ls 2 [(1, .int x1_2), (0, .ref (bm 0))] → W p l e (headSpec (.code yX10_putAside cX10_putAside 2 none :: wA) ({ frames := 0, cells := 0, slots := 0, locals := 0 })).room s m #[.ref (bm 0)] below meth c H locs 0 0 (MQ below (va_Qv (fun _ : Unit => True) (fun (_ : Unit) t => q_B (dC, dI) A [((bm 0), .inr (10, [.int th, .ref (bm 1), .int tn, .int at_, .int wr, .ref (bm 2), .ref (bm 3), .int rm_, .ref (bm 4), .ref (bm 5), .int mn, .ref (bm 6), .ref (bm 7), .int sn, .ref (bm 8), .ref (bm 9), .ref (bm 10), .int ac, .long dn, .ref (bm 11), .ref (bm 12), .ref (bm 13), .ref (bm 14), .int hi])), ((bm 8), .inl ((km 8), 279, .inl nw)), ((bm 11), .inl ((km 11), 98, .inl (o)))] [((km 8), .int), ((km 11), .int)] t) A) #[.ref (bm 0)] s 0 0 A) (F0 m 2 ls []) := by
    intro n_2
    induction n_2 with
    | zero =>
      intro x1_2 as__c H locs ls hG
      exact q_no hG
    | succ n_2 ih_2 =>
      intro x1_2 as__c H locs ls hG hP hD hS hl
      unfold FL_X10_putAside_2 at hG
      refine lv_iload_n hx hb dX10_putAside_2 rfl (lv_at hl 0 rfl) ?_
      refine lv_bipush (v := 98) hx hb dX10_putAside_3 (by decide) ?_
      refine lv_icmp_ge (tgt := 26) hx hb dX10_putAside_5 (by decide) (fun c_1 => ?_) (fun c_1 => ?_)
      · have hG := q_ifp c_1 hG
        obtain rfl := Option.some.inj hG
        have hP9 := hP.sub (ws' := [((bm 0), .inr (10, [.int th, .ref (bm 1), .int tn, .int at_, .int wr, .ref (bm 2), .ref (bm 3), .int rm_, .ref (bm 4), .ref (bm 5), .int mn, .ref (bm 6), .ref (bm 7), .int sn, .ref (bm 8), .ref (bm 9), .ref (bm 10), .int ac, .long dn, .ref (bm 11), .ref (bm 12), .ref (bm 13), .ref (bm 14), .int hi])), ((bm 8), .inl ((km 8), 279, .inl nw)), ((bm 11), .inl ((km 11), 98, .inl as__c))]) [0, 1, 2] rfl
        have hD9 := hD.sub (ws' := [((bm 0), .inr (10, [.int th, .ref (bm 1), .int tn, .int at_, .int wr, .ref (bm 2), .ref (bm 3), .int rm_, .ref (bm 4), .ref (bm 5), .int mn, .ref (bm 6), .ref (bm 7), .int sn, .ref (bm 8), .ref (bm 9), .ref (bm 10), .int ac, .long dn, .ref (bm 11), .ref (bm 12), .ref (bm 13), .ref (bm 14), .int hi])), ((bm 8), .inl ((km 8), 279, .inl nw)), ((bm 11), .inl ((km 11), 98, .inl as__c))]) [0, 1, 2] (by decide) rfl
        have hK9 := hK.sub (tys' := [((km 8), .int), ((km 11), .int)]) [0, 1] rfl
        exact W.vret hx hb hr (fun t ht hW => ⟨⟨(), rfl, trivial, by rw [ht]; exact hP9, va_K.moved hW.alike hK9, hD9⟩, hS.F ht⟩) hS.2.2 dX10_putAside_26
      · have hG := q_ifn c_1 hG
        refine lv_aload_n hx hb dX10_putAside_8 rfl (lv_at hl 1 rfl) ?_
        refine va_get (D := (dC, dI)) (ci := 10) (v := .ref (bm 11)) (C := RX10) (T := TX10) (N := 24) hx hb hts iA_10 hown hK hP 0 rfl rfl 19 (by decide) (hts (.fieldLink RX10 40 "HubTreeModel" "aside" "[I") (List.mem_cons_of_mem _ m_125)) (fun _ h9 => h9) rfl dX10_putAside_9 ?_
        refine lv_iload_n hx hb dX10_putAside_12 rfl (lv_at hl 0 rfl) ?_
        refine lv_aload_n hx hb dX10_putAside_13 rfl (lv_at hl 1 rfl) ?_
        refine va_get (D := (dC, dI)) (ci := 10) (v := .ref (bm 8)) (C := RX10) (T := TX10) (N := 24) hx hb hts iA_10 hown hK hP 0 rfl rfl 14 (by decide) (hts (.fieldLink RX10 31 "HubTreeModel" "now" "[I") (List.mem_cons_of_mem _ m_122)) (fun _ h9 => h9) rfl dX10_putAside_14 ?_
        refine lv_iload_n hx hb dX10_putAside_17 rfl (lv_at hl 0 rfl) ?_
        obtain ⟨h_2, hG⟩ := q_ix hG
        refine va_iald hx hb hK hP 1 0 rfl rfl (i := x1_2) h_2 dX10_putAside_18 ?_
        refine q_top (y := (nw (x1_2).toNatClampNeg)) rfl ?_
        obtain ⟨h_3, hG⟩ := q_ix hG
        refine va_iast hx hb hK hP hD hS 2 1 rfl rfl (i := x1_2) (x := (nw (x1_2).toNatClampNeg)) h_3 dX10_putAside_19 (fun H locs hP hD hS => ?_)
        have hP : va_P (dC, dI) vwCl [((bm 0), .inr (10, [.int th, .ref (bm 1), .int tn, .int at_, .int wr, .ref (bm 2), .ref (bm 3), .int rm_, .ref (bm 4), .ref (bm 5), .int mn, .ref (bm 6), .ref (bm 7), .int sn, .ref (bm 8), .ref (bm 9), .ref (bm 10), .int ac, .long dn, .ref (bm 11), .ref (bm 12), .ref (bm 13), .ref (bm 14), .int hi])), ((bm 8), .inl ((km 8), 279, .inl nw)), ((bm 11), .inl ((km 11), 98, .inl (upd as__c (x1_2).toNatClampNeg (nw (x1_2).toNatClampNeg))))] H := hP
        have hD : va_D A [((bm 0), .inr (10, [.int th, .ref (bm 1), .int tn, .int at_, .int wr, .ref (bm 2), .ref (bm 3), .int rm_, .ref (bm 4), .ref (bm 5), .int mn, .ref (bm 6), .ref (bm 7), .int sn, .ref (bm 8), .ref (bm 9), .ref (bm 10), .int ac, .long dn, .ref (bm 11), .ref (bm 12), .ref (bm 13), .ref (bm 14), .int hi])), ((bm 8), .inl ((km 8), 279, .inl nw)), ((bm 11), .inl ((km 11), 98, .inl (upd as__c (x1_2).toNatClampNeg (nw (x1_2).toNatClampNeg))))] := hD
        refine lv_iinc (v := (x1_2 + 1)) (lv' := [(1, .int (x1_2 + 1)), (0, .ref (bm 0))]) hx hb dX10_putAside_20 hl (k := 0) rfl (rfl) (by decide) rfl (fun ls hl => ?_)
        refine lv_goto (tgt := 2) hx hb dX10_putAside_23 (by decide) ?_
        exact ih_2 (x1_2 + 1) (upd as__c (x1_2).toNatClampNeg (nw (x1_2).toNatClampNeg)) H locs ls hG hP hD hS (lv_sub hl [0, 1] rfl)
  exact L_2 1000 0 as_ s.heap [] ls hG hP hD hS hl

def FL_X10_bringBack_2 (nw : Nat → Int32) (as_ : Nat → Int32) : Nat → Int32 → (Nat → Int32) → Option ((Nat → Int32))
  | 0, _, _ => none
  | n + 1, x1_2, nw_c => (if 98 ≤ x1_2 then some (nw_c) else (if x1_2 < 0 ∨ 98 ≤ (x1_2).toNatClampNeg then none else (if x1_2 < 0 ∨ 279 ≤ (x1_2).toNatClampNeg then none else (FL_X10_bringBack_2 nw as_ n (x1_2 + 1) (upd nw_c (x1_2).toNatClampNeg (as_ (x1_2).toNatClampNeg))))))

def F_X10_bringBack (nw : Nat → Int32) (as_ : Nat → Int32) : Option ((Nat → Int32)) := (FL_X10_bringBack_2 nw as_ 1000 0 nw)
set_option maxHeartbeats 4000000 in
set_option maxRecDepth 100000 in
theorem c_X10_bringBack (l : Launch) (dC : Nat → ClassId) (dI : Nat → Nat → Nat) (bm : Nat → Nat) (km : Nat → ClassId) (th : Int32) (tn : Int32) (at_ : Int32) (wr : Int32) (rm_ : Int32) (mn : Int32) (sn : Int32) (ac : Int32) (hi : Int32) (dn : Int64) (nw : Nat → Int32) (as_ : Nat → Int32) (A : Nat → Prop) (o : (Nat → Int32)) (hG : F_X10_bringBack nw as_ = some o) : Met l yX10_bringBack (.code yX10_bringBack cX10_bringBack 2 none :: wA) ({ frames := 0, cells := 0, slots := 0, locals := 0 }) (va_Pc [.ref (bm 0)] (q_W (dC, dI) A [((bm 0), .inr (10, [.int th, .ref (bm 1), .int tn, .int at_, .int wr, .ref (bm 2), .ref (bm 3), .int rm_, .ref (bm 4), .ref (bm 5), .int mn, .ref (bm 6), .ref (bm 7), .int sn, .ref (bm 8), .ref (bm 9), .ref (bm 10), .int ac, .long dn, .ref (bm 11), .ref (bm 12), .ref (bm 13), .ref (bm 14), .int hi])), ((bm 8), .inl ((km 8), 279, .inl nw)), ((bm 11), .inl ((km 11), 98, .inl as_))] [((km 8), .int), ((km 11), .int)])) (va_Qv (fun _ : Unit => True) (fun (_ : Unit) t => q_B (dC, dI) A [((bm 0), .inr (10, [.int th, .ref (bm 1), .int tn, .int at_, .int wr, .ref (bm 2), .ref (bm 3), .int rm_, .ref (bm 4), .ref (bm 5), .int mn, .ref (bm 6), .ref (bm 7), .int sn, .ref (bm 8), .ref (bm 9), .ref (bm 10), .int ac, .long dn, .ref (bm 11), .ref (bm 12), .ref (bm 13), .ref (bm 14), .int hi])), ((bm 8), .inl ((km 8), 279, .inl (o))), ((bm 11), .inl ((km 11), 98, .inl as_))] [((km 8), .int), ((km 11), .int)] t) A) 0 0 A := by
  refine Met.ofW (cc := cX10_bringBack) (maxL := 2) (ret := none) (by decide) rfl ?_
  intro p e s m args below meth c s₁ B hml hv
  obtain ⟨rfl, hP, hK, hD, hA⟩ := hv
  have hx := B.exec
  have hb := B.bytes
  have hr := B.returns
  have hts := atoms_spec (ws := .code yX10_bringBack cX10_bringBack 2 none :: wA) B.pre
  have hown : s.vm.findClass RX10 = some m.cls := findClass_of_methodNamed B.named
  have hlocks := B.notSynchronized
  have hS : va_S A s.heap s.heap [] := va_S.rf
  have hl := lv_entry ([.ref (bm 0)]) (n := 2) (Nat.le_of_ble_eq_true rfl)
  rw [lg_entry_eq]
  generalize (lg_sl ([.ref (bm 0)]) ++ List.replicate (2 - (lg_sl ([.ref (bm 0)])).length) Slot.unset).toArray = ls at hl ⊢
  have hl : lv_has ls 2 [(0, .ref (bm 0))] := hl
  unfold F_X10_bringBack at hG
  refine lv_iconst (v := 0) hx hb dX10_bringBack_0 (by decide) ?_
  refine lv_istore_n (lv' := [(1, .int 0), (0, .ref (bm 0))]) hx hb dX10_bringBack_1 rfl hl (by decide) rfl (fun ls hl => ?_)
  have L_2 : ∀ (n_2 : Nat) (x1_2 : Int32) (nw_c : Nat → Int32) (H : Heap) (locs : List Loc) (ls : Array Slot), FL_X10_bringBack_2 nw as_ n_2 x1_2 nw_c = some o → va_P (dC, dI) vwCl [((bm 0), .inr (10, [.int th, .ref (bm 1), .int tn, .int at_, .int wr, .ref (bm 2), .ref (bm 3), .int rm_, .ref (bm 4), .ref (bm 5), .int mn, .ref (bm 6), .ref (bm 7), .int sn, .ref (bm 8), .ref (bm 9), .ref (bm 10), .int ac, .long dn, .ref (bm 11), .ref (bm 12), .ref (bm 13), .ref (bm 14), .int hi])), ((bm 8), .inl ((km 8), 279, .inl nw_c)), ((bm 11), .inl ((km 11), 98, .inl as_))] H → va_D A [((bm 0), .inr (10, [.int th, .ref (bm 1), .int tn, .int at_, .int wr, .ref (bm 2), .ref (bm 3), .int rm_, .ref (bm 4), .ref (bm 5), .int mn, .ref (bm 6), .ref (bm 7), .int sn, .ref (bm 8), .ref (bm 9), .ref (bm 10), .int ac, .long dn, .ref (bm 11), .ref (bm 12), .ref (bm 13), .ref (bm 14), .int hi])), ((bm 8), .inl ((km 8), 279, .inl nw_c)), ((bm 11), .inl ((km 11), 98, .inl as_))] → va_S A s.heap H locs → lv_has ls 2 [(1, .int x1_2), (0, .ref (bm 0))] → W p l e (headSpec (.code yX10_bringBack cX10_bringBack 2 none :: wA) ({ frames := 0, cells := 0, slots := 0, locals := 0 })).room s m #[.ref (bm 0)] below meth c H locs 0 0 (MQ below (va_Qv (fun _ : Unit => True) (fun (_ : Unit) t => q_B (dC, dI) A [((bm 0), .inr (10, [.int th, .ref (bm 1), .int tn, .int at_, .int wr, .ref (bm 2), .ref (bm 3), .int rm_, .ref (bm 4), .ref (bm 5), .int mn, .ref (bm 6), .ref (bm 7), .int sn, .ref (bm 8), .ref (bm 9), .ref (bm 10), .int ac, .long dn, .ref (bm 11), .ref (bm 12), .ref (bm 13), .ref (bm 14), .int hi])), ((bm 8), .inl ((km 8), 279, .inl (o))), ((bm 11), .inl ((km 11), 98, .inl as_))] [((km 8), .int), ((km 11), .int)] t) A) #[.ref (bm 0)] s 0 0 A) (F0 m 2 ls []) := by
    intro n_2
    induction n_2 with
    | zero =>
      intro x1_2 nw_c H locs ls hG
      exact q_no hG
    | succ n_2 ih_2 =>
      intro x1_2 nw_c H locs ls hG hP hD hS hl
      unfold FL_X10_bringBack_2 at hG
      refine lv_iload_n hx hb dX10_bringBack_2 rfl (lv_at hl 0 rfl) ?_
      refine lv_bipush (v := 98) hx hb dX10_bringBack_3 (by decide) ?_
      refine lv_icmp_ge (tgt := 26) hx hb dX10_bringBack_5 (by decide) (fun c_1 => ?_) (fun c_1 => ?_)
      · have hG := q_ifp c_1 hG
        obtain rfl := Option.some.inj hG
        have hP9 := hP.sub (ws' := [((bm 0), .inr (10, [.int th, .ref (bm 1), .int tn, .int at_, .int wr, .ref (bm 2), .ref (bm 3), .int rm_, .ref (bm 4), .ref (bm 5), .int mn, .ref (bm 6), .ref (bm 7), .int sn, .ref (bm 8), .ref (bm 9), .ref (bm 10), .int ac, .long dn, .ref (bm 11), .ref (bm 12), .ref (bm 13), .ref (bm 14), .int hi])), ((bm 8), .inl ((km 8), 279, .inl nw_c)), ((bm 11), .inl ((km 11), 98, .inl as_))]) [0, 1, 2] rfl
        have hD9 := hD.sub (ws' := [((bm 0), .inr (10, [.int th, .ref (bm 1), .int tn, .int at_, .int wr, .ref (bm 2), .ref (bm 3), .int rm_, .ref (bm 4), .ref (bm 5), .int mn, .ref (bm 6), .ref (bm 7), .int sn, .ref (bm 8), .ref (bm 9), .ref (bm 10), .int ac, .long dn, .ref (bm 11), .ref (bm 12), .ref (bm 13), .ref (bm 14), .int hi])), ((bm 8), .inl ((km 8), 279, .inl nw_c)), ((bm 11), .inl ((km 11), 98, .inl as_))]) [0, 1, 2] (by decide) rfl
        have hK9 := hK.sub (tys' := [((km 8), .int), ((km 11), .int)]) [0, 1] rfl
        exact W.vret hx hb hr (fun t ht hW => ⟨⟨(), rfl, trivial, by rw [ht]; exact hP9, va_K.moved hW.alike hK9, hD9⟩, hS.F ht⟩) hS.2.2 dX10_bringBack_26
      · have hG := q_ifn c_1 hG
        refine lv_aload_n hx hb dX10_bringBack_8 rfl (lv_at hl 1 rfl) ?_
        refine va_get (D := (dC, dI)) (ci := 10) (v := .ref (bm 8)) (C := RX10) (T := TX10) (N := 24) hx hb hts iA_10 hown hK hP 0 rfl rfl 14 (by decide) (hts (.fieldLink RX10 31 "HubTreeModel" "now" "[I") (List.mem_cons_of_mem _ m_122)) (fun _ h9 => h9) rfl dX10_bringBack_9 ?_
        refine lv_iload_n hx hb dX10_bringBack_12 rfl (lv_at hl 0 rfl) ?_
        refine lv_aload_n hx hb dX10_bringBack_13 rfl (lv_at hl 1 rfl) ?_
        refine va_get (D := (dC, dI)) (ci := 10) (v := .ref (bm 11)) (C := RX10) (T := TX10) (N := 24) hx hb hts iA_10 hown hK hP 0 rfl rfl 19 (by decide) (hts (.fieldLink RX10 40 "HubTreeModel" "aside" "[I") (List.mem_cons_of_mem _ m_125)) (fun _ h9 => h9) rfl dX10_bringBack_14 ?_
        refine lv_iload_n hx hb dX10_bringBack_17 rfl (lv_at hl 0 rfl) ?_
        obtain ⟨h_2, hG⟩ := q_ix hG
        refine va_iald hx hb hK hP 2 1 rfl rfl (i := x1_2) h_2 dX10_bringBack_18 ?_
        refine q_top (y := (as_ (x1_2).toNatClampNeg)) rfl ?_
        obtain ⟨h_3, hG⟩ := q_ix hG
        refine va_iast hx hb hK hP hD hS 1 0 rfl rfl (i := x1_2) (x := (as_ (x1_2).toNatClampNeg)) h_3 dX10_bringBack_19 (fun H locs hP hD hS => ?_)
        have hP : va_P (dC, dI) vwCl [((bm 0), .inr (10, [.int th, .ref (bm 1), .int tn, .int at_, .int wr, .ref (bm 2), .ref (bm 3), .int rm_, .ref (bm 4), .ref (bm 5), .int mn, .ref (bm 6), .ref (bm 7), .int sn, .ref (bm 8), .ref (bm 9), .ref (bm 10), .int ac, .long dn, .ref (bm 11), .ref (bm 12), .ref (bm 13), .ref (bm 14), .int hi])), ((bm 8), .inl ((km 8), 279, .inl (upd nw_c (x1_2).toNatClampNeg (as_ (x1_2).toNatClampNeg)))), ((bm 11), .inl ((km 11), 98, .inl as_))] H := hP
        have hD : va_D A [((bm 0), .inr (10, [.int th, .ref (bm 1), .int tn, .int at_, .int wr, .ref (bm 2), .ref (bm 3), .int rm_, .ref (bm 4), .ref (bm 5), .int mn, .ref (bm 6), .ref (bm 7), .int sn, .ref (bm 8), .ref (bm 9), .ref (bm 10), .int ac, .long dn, .ref (bm 11), .ref (bm 12), .ref (bm 13), .ref (bm 14), .int hi])), ((bm 8), .inl ((km 8), 279, .inl (upd nw_c (x1_2).toNatClampNeg (as_ (x1_2).toNatClampNeg)))), ((bm 11), .inl ((km 11), 98, .inl as_))] := hD
        refine lv_iinc (v := (x1_2 + 1)) (lv' := [(1, .int (x1_2 + 1)), (0, .ref (bm 0))]) hx hb dX10_bringBack_20 hl (k := 0) rfl (rfl) (by decide) rfl (fun ls hl => ?_)
        refine lv_goto (tgt := 2) hx hb dX10_bringBack_23 (by decide) ?_
        exact ih_2 (x1_2 + 1) (upd nw_c (x1_2).toNatClampNeg (as_ (x1_2).toNatClampNeg)) H locs ls hG hP hD hS (lv_sub hl [0, 1] rfl)
  exact L_2 1000 0 nw s.heap [] ls hG hP hD hS hl

def FL_X10_whenNow_2 (mn : Int32) (ru : Nat → Int32) (td : Nat → Int32) (nw : Nat → Int32) (z1 : Int32) : Nat → Int32 → (Nat → Int32) → Option (Int32 × (Nat → Int32))
  | 0, _, _ => none
  | n + 1, x2_2, nw_c => (if 200 < x2_2 then some ((-1), nw_c) else ((F_X10_state nw_c z1).bind fun o_2 => (if o_2 = 6 then some (x2_2, nw_c) else (if (nw_c 96) = 9999 then some ((-1), nw_c) else ((F_X10_tickNow mn ru td nw_c).bind fun o_6 => (FL_X10_whenNow_2 mn ru td nw z1 n (x2_2 + 1) (o_6)))))))

def F_X10_whenNow (mn : Int32) (ru : Nat → Int32) (td : Nat → Int32) (nw : Nat → Int32) (z1 : Int32) : Option (Int32 × (Nat → Int32)) := (FL_X10_whenNow_2 mn ru td nw z1 1000 0 nw)
set_option maxHeartbeats 4000000 in
set_option maxRecDepth 100000 in
theorem c_X10_whenNow (l : Launch) (dC : Nat → ClassId) (dI : Nat → Nat → Nat) (bm : Nat → Nat) (km : Nat → ClassId) (th : Int32) (tn : Int32) (at_ : Int32) (wr : Int32) (rm_ : Int32) (mn : Int32) (sn : Int32) (ac : Int32) (hi : Int32) (dn : Int64) (ru : Nat → Int32) (td : Nat → Int32) (nw : Nat → Int32) (z1 : Int32) (A : Nat → Prop) (o : Int32 × (Nat → Int32)) (hG : F_X10_whenNow mn ru td nw z1 = some o) : Met l yX10_whenNow (.code yX10_whenNow cX10_whenNow 3 (some .int) :: wA) ({ frames := 8, cells := 0, slots := 0, locals := 177 }) (va_Pc [.ref (bm 0), .int z1] (q_W (dC, dI) A [((bm 0), .inr (10, [.int th, .ref (bm 1), .int tn, .int at_, .int wr, .ref (bm 2), .ref (bm 3), .int rm_, .ref (bm 4), .ref (bm 5), .int mn, .ref (bm 6), .ref (bm 7), .int sn, .ref (bm 8), .ref (bm 9), .ref (bm 10), .int ac, .long dn, .ref (bm 11), .ref (bm 12), .ref (bm 13), .ref (bm 14), .int hi])), ((bm 4), .inl ((km 4), 8, .inl ru)), ((bm 5), .inl ((km 5), 48, .inl td)), ((bm 8), .inl ((km 8), 279, .inl nw))] [((km 4), .int), ((km 5), .int), ((km 8), .int)])) (va_Qi (fun (r : Int32) (_ : Unit) => r = o.1 ∧ True) (fun (_ : Unit) t => q_B (dC, dI) A [((bm 0), .inr (10, [.int th, .ref (bm 1), .int tn, .int at_, .int wr, .ref (bm 2), .ref (bm 3), .int rm_, .ref (bm 4), .ref (bm 5), .int mn, .ref (bm 6), .ref (bm 7), .int sn, .ref (bm 8), .ref (bm 9), .ref (bm 10), .int ac, .long dn, .ref (bm 11), .ref (bm 12), .ref (bm 13), .ref (bm 14), .int hi])), ((bm 4), .inl ((km 4), 8, .inl ru)), ((bm 5), .inl ((km 5), 48, .inl td)), ((bm 8), .inl ((km 8), 279, .inl (o.2)))] [((km 4), .int), ((km 5), .int), ((km 8), .int)] t) A) 0 0 A := by
  refine Met.ofW (cc := cX10_whenNow) (maxL := 3) (ret := (some .int)) (by decide) rfl ?_
  intro p e s m args below meth c s₁ B hml hv
  obtain ⟨rfl, hP, hK, hD, hA⟩ := hv
  have hx := B.exec
  have hb := B.bytes
  have hr := B.returns
  have hts := atoms_spec (ws := .code yX10_whenNow cX10_whenNow 3 (some .int) :: wA) B.pre
  have hown : s.vm.findClass RX10 = some m.cls := findClass_of_methodNamed B.named
  have hlocks := B.notSynchronized
  have hS : va_S A s.heap s.heap [] := va_S.rf
  have hl := lv_entry ([.ref (bm 0), .int z1]) (n := 3) (Nat.le_of_ble_eq_true rfl)
  rw [lg_entry_eq]
  generalize (lg_sl ([.ref (bm 0), .int z1]) ++ List.replicate (3 - (lg_sl ([.ref (bm 0), .int z1])).length) Slot.unset).toArray = ls at hl ⊢
  have hl : lv_has ls 3 [(0, .ref (bm 0)), (1, .int z1)] := hl
  unfold F_X10_whenNow at hG
  refine lv_iconst (v := 0) hx hb dX10_whenNow_0 (by decide) ?_
  refine lv_istore_n (lv' := [(2, .int 0), (0, .ref (bm 0)), (1, .int z1)]) hx hb dX10_whenNow_1 rfl hl (by decide) rfl (fun ls hl => ?_)
  have L_2 : ∀ (n_2 : Nat) (x2_2 : Int32) (nw_c : Nat → Int32) (H : Heap) (locs : List Loc) (ls : Array Slot), FL_X10_whenNow_2 mn ru td nw z1 n_2 x2_2 nw_c = some o → va_P (dC, dI) vwCl [((bm 0), .inr (10, [.int th, .ref (bm 1), .int tn, .int at_, .int wr, .ref (bm 2), .ref (bm 3), .int rm_, .ref (bm 4), .ref (bm 5), .int mn, .ref (bm 6), .ref (bm 7), .int sn, .ref (bm 8), .ref (bm 9), .ref (bm 10), .int ac, .long dn, .ref (bm 11), .ref (bm 12), .ref (bm 13), .ref (bm 14), .int hi])), ((bm 4), .inl ((km 4), 8, .inl ru)), ((bm 5), .inl ((km 5), 48, .inl td)), ((bm 8), .inl ((km 8), 279, .inl nw_c))] H → va_D A [((bm 0), .inr (10, [.int th, .ref (bm 1), .int tn, .int at_, .int wr, .ref (bm 2), .ref (bm 3), .int rm_, .ref (bm 4), .ref (bm 5), .int mn, .ref (bm 6), .ref (bm 7), .int sn, .ref (bm 8), .ref (bm 9), .ref (bm 10), .int ac, .long dn, .ref (bm 11), .ref (bm 12), .ref (bm 13), .ref (bm 14), .int hi])), ((bm 4), .inl ((km 4), 8, .inl ru)), ((bm 5), .inl ((km 5), 48, .inl td)), ((bm 8), .inl ((km 8), 279, .inl nw_c))] → va_S A s.heap H locs → lv_has ls 3 [(2, .int x2_2), (0, .ref (bm 0)), (1, .int z1)] → W p l e (headSpec (.code yX10_whenNow cX10_whenNow 3 (some .int) :: wA) ({ frames := 8, cells := 0, slots := 0, locals := 177 })).room s m #[.ref (bm 0), .int z1] below meth c H locs 0 0 (MQ below (va_Qi (fun (r : Int32) (_ : Unit) => r = o.1 ∧ True) (fun (_ : Unit) t => q_B (dC, dI) A [((bm 0), .inr (10, [.int th, .ref (bm 1), .int tn, .int at_, .int wr, .ref (bm 2), .ref (bm 3), .int rm_, .ref (bm 4), .ref (bm 5), .int mn, .ref (bm 6), .ref (bm 7), .int sn, .ref (bm 8), .ref (bm 9), .ref (bm 10), .int ac, .long dn, .ref (bm 11), .ref (bm 12), .ref (bm 13), .ref (bm 14), .int hi])), ((bm 4), .inl ((km 4), 8, .inl ru)), ((bm 5), .inl ((km 5), 48, .inl td)), ((bm 8), .inl ((km 8), 279, .inl (o.2)))] [((km 4), .int), ((km 5), .int), ((km 8), .int)] t) A) #[.ref (bm 0), .int z1] s 0 0 A) (F0 m 2 ls []) := by
    intro n_2
    induction n_2 with
    | zero =>
      intro x2_2 nw_c H locs ls hG
      exact q_no hG
    | succ n_2 ih_2 =>
      intro x2_2 nw_c H locs ls hG hP hD hS hl
      unfold FL_X10_whenNow_2 at hG
      refine lv_iload_n hx hb dX10_whenNow_2 rfl (lv_at hl 0 rfl) ?_
      refine lv_sipush (v := 200) hx hb dX10_whenNow_3 (by decide) ?_
      refine lv_icmp_gt (tgt := 46) hx hb dX10_whenNow_6 (by decide) (fun c_1 => ?_) (fun c_1 => ?_)
      · have hG := q_ifp c_1 hG
        refine lv_iconst (v := (-1)) hx hb dX10_whenNow_46 (by decide) ?_
        obtain rfl := Option.some.inj hG
        have hP9 := hP.sub (ws' := [((bm 0), .inr (10, [.int th, .ref (bm 1), .int tn, .int at_, .int wr, .ref (bm 2), .ref (bm 3), .int rm_, .ref (bm 4), .ref (bm 5), .int mn, .ref (bm 6), .ref (bm 7), .int sn, .ref (bm 8), .ref (bm 9), .ref (bm 10), .int ac, .long dn, .ref (bm 11), .ref (bm 12), .ref (bm 13), .ref (bm 14), .int hi])), ((bm 4), .inl ((km 4), 8, .inl ru)), ((bm 5), .inl ((km 5), 48, .inl td)), ((bm 8), .inl ((km 8), 279, .inl nw_c))]) [0, 1, 2, 3] rfl
        have hD9 := hD.sub (ws' := [((bm 0), .inr (10, [.int th, .ref (bm 1), .int tn, .int at_, .int wr, .ref (bm 2), .ref (bm 3), .int rm_, .ref (bm 4), .ref (bm 5), .int mn, .ref (bm 6), .ref (bm 7), .int sn, .ref (bm 8), .ref (bm 9), .ref (bm 10), .int ac, .long dn, .ref (bm 11), .ref (bm 12), .ref (bm 13), .ref (bm 14), .int hi])), ((bm 4), .inl ((km 4), 8, .inl ru)), ((bm 5), .inl ((km 5), 48, .inl td)), ((bm 8), .inl ((km 8), 279, .inl nw_c))]) [0, 1, 2, 3] (by decide) rfl
        have hK9 := hK.sub (tys' := [((km 4), .int), ((km 5), .int), ((km 8), .int)]) [0, 1, 2] rfl
        exact W.iret (v := (-1)) hx hb hr (fun t ht hW => ⟨⟨(-1), (), rfl, ⟨rfl, trivial⟩, by rw [ht]; exact hP9, va_K.moved hW.alike hK9, hD9⟩, hS.F ht⟩) hS.2.2 dX10_whenNow_47
      · have hG := q_ifn c_1 hG
        refine lv_aload_n hx hb dX10_whenNow_9 rfl (lv_at hl 1 rfl) ?_
        refine lv_iload_n hx hb dX10_whenNow_10 rfl (lv_at hl 2 rfl) ?_
        obtain ⟨o_2, r_3, hG⟩ := q_bi hG
        refine q_goi (v := o_2) (va_runV (As := [.int z1]) (rest := []) ⟨hx, hb, hml, hown, hts⟩ (c_X10_state l dC dI bm km th tn at_ wr rm_ mn sn ac hi dn nw_c z1 o_2 r_3) (cwV 1 hts (q_gV m_504 m_505 m_506 m_5 m_507) rfl rfl rfl hdV_yX10_state_1 ⟨Nat.le_of_ble_eq_true rfl, Nat.le_of_ble_eq_true rfl⟩) (q_preV hK hP (q := (RX10, TX10, 24)) (ci := 10) (q0 := 0) rfl rfl [0, 3] rfl [2] rfl) rfl rfl hl.1 rfl (lv_room (Nat.le_of_ble_eq_true rfl)) dX10_whenNow_11 ⟨Nat.le_of_ble_eq_true rfl, Nat.le_of_ble_eq_true rfl⟩) hP hS (fun H locs hP hS => ?_)
        refine lv_bipush (v := 6) hx hb dX10_whenNow_14 (by decide) ?_
        refine lv_icmp_ne (tgt := 21) hx hb dX10_whenNow_16 (by decide) (fun c_4 => ?_) (fun c_4 => ?_)
        · have hG := q_ifn c_4 hG
          refine lv_aload_n hx hb dX10_whenNow_21 rfl (lv_at hl 1 rfl) ?_
          refine va_get (D := (dC, dI)) (ci := 10) (v := .ref (bm 8)) (C := RX10) (T := TX10) (N := 24) hx hb hts iA_10 hown hK hP 0 rfl rfl 14 (by decide) (hts (.fieldLink RX10 31 "HubTreeModel" "now" "[I") (List.mem_cons_of_mem _ m_122)) (fun _ h9 => h9) rfl dX10_whenNow_22 ?_
          refine lv_bipush (v := 96) hx hb dX10_whenNow_25 (by decide) ?_
          refine va_iald hx hb hK hP 3 2 rfl rfl (i := 96) (vp_in_iff.mpr (by decide)) dX10_whenNow_27 ?_
          refine q_top (y := (nw_c 96)) rfl ?_
          refine lv_sipush (v := 9999) hx hb dX10_whenNow_28 (by decide) ?_
          refine lv_icmp_ne (tgt := 36) hx hb dX10_whenNow_31 (by decide) (fun c_5 => ?_) (fun c_5 => ?_)
          · have hG := q_ifn c_5 hG
            refine lv_aload_n hx hb dX10_whenNow_36 rfl (lv_at hl 1 rfl) ?_
            obtain ⟨o_6, r_7, hG⟩ := q_bi hG
            refine q_gov2 (wr := []) (va_runV (As := []) (rest := []) ⟨hx, hb, hml, hown, hts⟩ (c_X10_tickNow l dC dI bm km th tn at_ wr rm_ mn sn ac hi dn ru td nw_c (va_A [((bm 0), .inr (10, [.int th, .ref (bm 1), .int tn, .int at_, .int wr, .ref (bm 2), .ref (bm 3), .int rm_, .ref (bm 4), .ref (bm 5), .int mn, .ref (bm 6), .ref (bm 7), .int sn, .ref (bm 8), .ref (bm 9), .ref (bm 10), .int ac, .long dn, .ref (bm 11), .ref (bm 12), .ref (bm 13), .ref (bm 14), .int hi])), ((bm 4), .inl ((km 4), 8, .inl ru)), ((bm 5), .inl ((km 5), 48, .inl td)), ((bm 8), .inl ((km 8), 279, .inl nw_c))] H.size) o_6 r_7) (cwV 0 hts (q_gV m_957 m_958 m_959 m_5 m_960) rfl rfl rfl hdV_yX10_tickNow_0 ⟨Nat.le_of_ble_eq_true rfl, Nat.le_of_ble_eq_true rfl⟩) (q_preWV hK hP hD (q := (RX10, TX10, 24)) (ci := 10) (q0 := 0) rfl rfl [0, 1, 2, 3] (by decide) rfl rfl [0, 1, 2] rfl) rfl rfl hl.1 rfl (lv_room (Nat.le_of_ble_eq_true rfl)) dX10_whenNow_37 ⟨Nat.le_of_ble_eq_true rfl, Nat.le_of_ble_eq_true rfl⟩) hK hP hD hS hA [0, 1, 2, 3] [] rfl rfl (by decide) (by decide) (fun _ H locs _ hP hD hK9 hS => ?_)
            have hP : va_P (dC, dI) vwCl [((bm 0), .inr (10, [.int th, .ref (bm 1), .int tn, .int at_, .int wr, .ref (bm 2), .ref (bm 3), .int rm_, .ref (bm 4), .ref (bm 5), .int mn, .ref (bm 6), .ref (bm 7), .int sn, .ref (bm 8), .ref (bm 9), .ref (bm 10), .int ac, .long dn, .ref (bm 11), .ref (bm 12), .ref (bm 13), .ref (bm 14), .int hi])), ((bm 4), .inl ((km 4), 8, .inl ru)), ((bm 5), .inl ((km 5), 48, .inl td)), ((bm 8), .inl ((km 8), 279, .inl (o_6)))] H := hP.sub [0, 1, 2, 3] rfl
            have hD : va_D A [((bm 0), .inr (10, [.int th, .ref (bm 1), .int tn, .int at_, .int wr, .ref (bm 2), .ref (bm 3), .int rm_, .ref (bm 4), .ref (bm 5), .int mn, .ref (bm 6), .ref (bm 7), .int sn, .ref (bm 8), .ref (bm 9), .ref (bm 10), .int ac, .long dn, .ref (bm 11), .ref (bm 12), .ref (bm 13), .ref (bm 14), .int hi])), ((bm 4), .inl ((km 4), 8, .inl ru)), ((bm 5), .inl ((km 5), 48, .inl td)), ((bm 8), .inl ((km 8), 279, .inl (o_6)))] := hD.sub [0, 1, 2, 3] (by decide) rfl
            refine lv_iinc (v := (x2_2 + 1)) (lv' := [(2, .int (x2_2 + 1)), (0, .ref (bm 0)), (1, .int z1)]) hx hb dX10_whenNow_40 hl (k := 0) rfl (rfl) (by decide) rfl (fun ls hl => ?_)
            refine lv_goto (tgt := 2) hx hb dX10_whenNow_43 (by decide) ?_
            exact ih_2 (x2_2 + 1) (o_6) H locs ls hG hP hD hS (lv_sub hl [0, 1, 2] rfl)
          · have hG := q_ifp c_5 hG
            refine lv_iconst (v := (-1)) hx hb dX10_whenNow_34 (by decide) ?_
            obtain rfl := Option.some.inj hG
            have hP9 := hP.sub (ws' := [((bm 0), .inr (10, [.int th, .ref (bm 1), .int tn, .int at_, .int wr, .ref (bm 2), .ref (bm 3), .int rm_, .ref (bm 4), .ref (bm 5), .int mn, .ref (bm 6), .ref (bm 7), .int sn, .ref (bm 8), .ref (bm 9), .ref (bm 10), .int ac, .long dn, .ref (bm 11), .ref (bm 12), .ref (bm 13), .ref (bm 14), .int hi])), ((bm 4), .inl ((km 4), 8, .inl ru)), ((bm 5), .inl ((km 5), 48, .inl td)), ((bm 8), .inl ((km 8), 279, .inl nw_c))]) [0, 1, 2, 3] rfl
            have hD9 := hD.sub (ws' := [((bm 0), .inr (10, [.int th, .ref (bm 1), .int tn, .int at_, .int wr, .ref (bm 2), .ref (bm 3), .int rm_, .ref (bm 4), .ref (bm 5), .int mn, .ref (bm 6), .ref (bm 7), .int sn, .ref (bm 8), .ref (bm 9), .ref (bm 10), .int ac, .long dn, .ref (bm 11), .ref (bm 12), .ref (bm 13), .ref (bm 14), .int hi])), ((bm 4), .inl ((km 4), 8, .inl ru)), ((bm 5), .inl ((km 5), 48, .inl td)), ((bm 8), .inl ((km 8), 279, .inl nw_c))]) [0, 1, 2, 3] (by decide) rfl
            have hK9 := hK.sub (tys' := [((km 4), .int), ((km 5), .int), ((km 8), .int)]) [0, 1, 2] rfl
            exact W.iret (v := (-1)) hx hb hr (fun t ht hW => ⟨⟨(-1), (), rfl, ⟨rfl, trivial⟩, by rw [ht]; exact hP9, va_K.moved hW.alike hK9, hD9⟩, hS.F ht⟩) hS.2.2 dX10_whenNow_35
        · have hG := q_ifp c_4 hG
          refine lv_iload_n hx hb dX10_whenNow_19 rfl (lv_at hl 0 rfl) ?_
          obtain rfl := Option.some.inj hG
          have hP9 := hP.sub (ws' := [((bm 0), .inr (10, [.int th, .ref (bm 1), .int tn, .int at_, .int wr, .ref (bm 2), .ref (bm 3), .int rm_, .ref (bm 4), .ref (bm 5), .int mn, .ref (bm 6), .ref (bm 7), .int sn, .ref (bm 8), .ref (bm 9), .ref (bm 10), .int ac, .long dn, .ref (bm 11), .ref (bm 12), .ref (bm 13), .ref (bm 14), .int hi])), ((bm 4), .inl ((km 4), 8, .inl ru)), ((bm 5), .inl ((km 5), 48, .inl td)), ((bm 8), .inl ((km 8), 279, .inl nw_c))]) [0, 1, 2, 3] rfl
          have hD9 := hD.sub (ws' := [((bm 0), .inr (10, [.int th, .ref (bm 1), .int tn, .int at_, .int wr, .ref (bm 2), .ref (bm 3), .int rm_, .ref (bm 4), .ref (bm 5), .int mn, .ref (bm 6), .ref (bm 7), .int sn, .ref (bm 8), .ref (bm 9), .ref (bm 10), .int ac, .long dn, .ref (bm 11), .ref (bm 12), .ref (bm 13), .ref (bm 14), .int hi])), ((bm 4), .inl ((km 4), 8, .inl ru)), ((bm 5), .inl ((km 5), 48, .inl td)), ((bm 8), .inl ((km 8), 279, .inl nw_c))]) [0, 1, 2, 3] (by decide) rfl
          have hK9 := hK.sub (tys' := [((km 4), .int), ((km 5), .int), ((km 8), .int)]) [0, 1, 2] rfl
          exact W.iret (v := x2_2) hx hb hr (fun t ht hW => ⟨⟨x2_2, (), rfl, ⟨rfl, trivial⟩, by rw [ht]; exact hP9, va_K.moved hW.alike hK9, hD9⟩, hS.F ht⟩) hS.2.2 dX10_whenNow_20
  exact L_2 1000 0 nw s.heap [] ls hG hP hD hS hl

def F_X10_when (mn : Int32) (ru : Nat → Int32) (td : Nat → Int32) (nw : Nat → Int32) (as_ : Nat → Int32) (z1 : Int32) : Option (Int32 × (Nat → Int32) × (Nat → Int32)) := ((F_X10_isDevice mn z1).bind fun o_1 => (if o_1 = 0 then some ((-1), nw, as_) else ((F_X10_state nw z1).bind fun o_4 => (if o_4 = 0 then some ((-1), nw, as_) else ((F_X10_putAside nw as_).bind fun o_7 => ((F_X10_whenNow mn ru td nw z1).bind fun o_9 => ((F_X10_bringBack (o_9.2) (o_7)).bind fun o_11 => some (o_9.1, (o_11), (o_7)))))))))
set_option maxHeartbeats 4000000 in
set_option maxRecDepth 100000 in
theorem c_X10_when (l : Launch) (dC : Nat → ClassId) (dI : Nat → Nat → Nat) (bm : Nat → Nat) (km : Nat → ClassId) (th : Int32) (tn : Int32) (at_ : Int32) (wr : Int32) (rm_ : Int32) (mn : Int32) (sn : Int32) (ac : Int32) (hi : Int32) (dn : Int64) (ru : Nat → Int32) (td : Nat → Int32) (nw : Nat → Int32) (as_ : Nat → Int32) (z1 : Int32) (A : Nat → Prop) (o : Int32 × (Nat → Int32) × (Nat → Int32)) (hG : F_X10_when mn ru td nw as_ z1 = some o) : Met l yX10_when (.code yX10_when cX10_when 3 (some .int) :: wA) ({ frames := 9, cells := 0, slots := 0, locals := 199 }) (va_Pc [.ref (bm 0), .int z1] (q_W (dC, dI) A [((bm 0), .inr (10, [.int th, .ref (bm 1), .int tn, .int at_, .int wr, .ref (bm 2), .ref (bm 3), .int rm_, .ref (bm 4), .ref (bm 5), .int mn, .ref (bm 6), .ref (bm 7), .int sn, .ref (bm 8), .ref (bm 9), .ref (bm 10), .int ac, .long dn, .ref (bm 11), .ref (bm 12), .ref (bm 13), .ref (bm 14), .int hi])), ((bm 4), .inl ((km 4), 8, .inl ru)), ((bm 5), .inl ((km 5), 48, .inl td)), ((bm 8), .inl ((km 8), 279, .inl nw)), ((bm 11), .inl ((km 11), 98, .inl as_))] [((km 4), .int), ((km 5), .int), ((km 8), .int), ((km 11), .int)])) (va_Qi (fun (r : Int32) (_ : Unit) => r = o.1 ∧ True) (fun (_ : Unit) t => q_B (dC, dI) A [((bm 0), .inr (10, [.int th, .ref (bm 1), .int tn, .int at_, .int wr, .ref (bm 2), .ref (bm 3), .int rm_, .ref (bm 4), .ref (bm 5), .int mn, .ref (bm 6), .ref (bm 7), .int sn, .ref (bm 8), .ref (bm 9), .ref (bm 10), .int ac, .long dn, .ref (bm 11), .ref (bm 12), .ref (bm 13), .ref (bm 14), .int hi])), ((bm 4), .inl ((km 4), 8, .inl ru)), ((bm 5), .inl ((km 5), 48, .inl td)), ((bm 8), .inl ((km 8), 279, .inl (o.2.1))), ((bm 11), .inl ((km 11), 98, .inl (o.2.2)))] [((km 4), .int), ((km 5), .int), ((km 8), .int), ((km 11), .int)] t) A) 0 0 A := by
  refine Met.ofW (cc := cX10_when) (maxL := 3) (ret := (some .int)) (by decide) rfl ?_
  intro p e s m args below meth c s₁ B hml hv
  obtain ⟨rfl, hP, hK, hD, hA⟩ := hv
  have hx := B.exec
  have hb := B.bytes
  have hr := B.returns
  have hts := atoms_spec (ws := .code yX10_when cX10_when 3 (some .int) :: wA) B.pre
  have hown : s.vm.findClass RX10 = some m.cls := findClass_of_methodNamed B.named
  have hlocks := B.notSynchronized
  have hS : va_S A s.heap s.heap [] := va_S.rf
  have hl := lv_entry ([.ref (bm 0), .int z1]) (n := 3) (Nat.le_of_ble_eq_true rfl)
  rw [lg_entry_eq]
  generalize (lg_sl ([.ref (bm 0), .int z1]) ++ List.replicate (3 - (lg_sl ([.ref (bm 0), .int z1])).length) Slot.unset).toArray = ls at hl ⊢
  have hl : lv_has ls 3 [(0, .ref (bm 0)), (1, .int z1)] := hl
  unfold F_X10_when at hG
  refine lv_aload_n hx hb dX10_when_0 rfl (lv_at hl 0 rfl) ?_
  refine lv_iload_n hx hb dX10_when_1 rfl (lv_at hl 1 rfl) ?_
  obtain ⟨o_1, r_2, hG⟩ := q_bi hG
  refine q_goi (v := o_1) (va_runV (As := [.int z1]) (rest := []) ⟨hx, hb, hml, hown, hts⟩ (c_X10_isDevice l dC dI bm km th tn at_ wr rm_ mn sn ac hi dn z1 o_1 r_2) (cwV 1 hts (q_gV m_472 m_473 m_474 m_5 m_475) rfl rfl rfl hdV_yX10_isDevice_1 ⟨Nat.le_of_ble_eq_true rfl, Nat.le_of_ble_eq_true rfl⟩) (q_preV hK hP (q := (RX10, TX10, 24)) (ci := 10) (q0 := 0) rfl rfl [0] rfl [] rfl) rfl rfl hl.1 rfl (lv_room (Nat.le_of_ble_eq_true rfl)) dX10_when_2 ⟨Nat.le_of_ble_eq_true rfl, Nat.le_of_ble_eq_true rfl⟩) hP hS (fun H locs hP hS => ?_)
  refine lv_if_eq (tgt := 16) hx hb dX10_when_5 (by decide) (fun c_3 => ?_) (fun c_3 => ?_)
  · have hG := q_ifp c_3 hG
    refine lv_iconst (v := (-1)) hx hb dX10_when_16 (by decide) ?_
    obtain rfl := Option.some.inj hG
    have hP9 := hP.sub (ws' := [((bm 0), .inr (10, [.int th, .ref (bm 1), .int tn, .int at_, .int wr, .ref (bm 2), .ref (bm 3), .int rm_, .ref (bm 4), .ref (bm 5), .int mn, .ref (bm 6), .ref (bm 7), .int sn, .ref (bm 8), .ref (bm 9), .ref (bm 10), .int ac, .long dn, .ref (bm 11), .ref (bm 12), .ref (bm 13), .ref (bm 14), .int hi])), ((bm 4), .inl ((km 4), 8, .inl ru)), ((bm 5), .inl ((km 5), 48, .inl td)), ((bm 8), .inl ((km 8), 279, .inl nw)), ((bm 11), .inl ((km 11), 98, .inl as_))]) [0, 1, 2, 3, 4] rfl
    have hD9 := hD.sub (ws' := [((bm 0), .inr (10, [.int th, .ref (bm 1), .int tn, .int at_, .int wr, .ref (bm 2), .ref (bm 3), .int rm_, .ref (bm 4), .ref (bm 5), .int mn, .ref (bm 6), .ref (bm 7), .int sn, .ref (bm 8), .ref (bm 9), .ref (bm 10), .int ac, .long dn, .ref (bm 11), .ref (bm 12), .ref (bm 13), .ref (bm 14), .int hi])), ((bm 4), .inl ((km 4), 8, .inl ru)), ((bm 5), .inl ((km 5), 48, .inl td)), ((bm 8), .inl ((km 8), 279, .inl nw)), ((bm 11), .inl ((km 11), 98, .inl as_))]) [0, 1, 2, 3, 4] (by decide) rfl
    have hK9 := hK.sub (tys' := [((km 4), .int), ((km 5), .int), ((km 8), .int), ((km 11), .int)]) [0, 1, 2, 3] rfl
    exact W.iret (v := (-1)) hx hb hr (fun t ht hW => ⟨⟨(-1), (), rfl, ⟨rfl, trivial⟩, by rw [ht]; exact hP9, va_K.moved hW.alike hK9, hD9⟩, hS.F ht⟩) hS.2.2 dX10_when_17
  · have hG := q_ifn c_3 hG
    refine lv_aload_n hx hb dX10_when_8 rfl (lv_at hl 0 rfl) ?_
    refine lv_iload_n hx hb dX10_when_9 rfl (lv_at hl 1 rfl) ?_
    obtain ⟨o_4, r_5, hG⟩ := q_bi hG
    refine q_goi (v := o_4) (va_runV (As := [.int z1]) (rest := []) ⟨hx, hb, hml, hown, hts⟩ (c_X10_state l dC dI bm km th tn at_ wr rm_ mn sn ac hi dn nw z1 o_4 r_5) (cwV 1 hts (q_gV m_504 m_505 m_506 m_5 m_507) rfl rfl rfl hdV_yX10_state_1 ⟨Nat.le_of_ble_eq_true rfl, Nat.le_of_ble_eq_true rfl⟩) (q_preV hK hP (q := (RX10, TX10, 24)) (ci := 10) (q0 := 0) rfl rfl [0, 3] rfl [2] rfl) rfl rfl hl.1 rfl (lv_room (Nat.le_of_ble_eq_true rfl)) dX10_when_10 ⟨Nat.le_of_ble_eq_true rfl, Nat.le_of_ble_eq_true rfl⟩) hP hS (fun H locs hP hS => ?_)
    refine lv_if_ne (tgt := 18) hx hb dX10_when_13 (by decide) (fun c_6 => ?_) (fun c_6 => ?_)
    · have hG := q_ifn c_6 hG
      refine lv_aload_n hx hb dX10_when_18 rfl (lv_at hl 0 rfl) ?_
      obtain ⟨o_7, r_8, hG⟩ := q_bi hG
      refine q_gov2 (wr := [((bm 4), .inl ((km 4), 8, .inl ru)), ((bm 5), .inl ((km 5), 48, .inl td))]) (va_runV (As := []) (rest := []) ⟨hx, hb, hml, hown, hts⟩ (c_X10_putAside l dC dI bm km th tn at_ wr rm_ mn sn ac hi dn nw as_ (va_A [((bm 0), .inr (10, [.int th, .ref (bm 1), .int tn, .int at_, .int wr, .ref (bm 2), .ref (bm 3), .int rm_, .ref (bm 4), .ref (bm 5), .int mn, .ref (bm 6), .ref (bm 7), .int sn, .ref (bm 8), .ref (bm 9), .ref (bm 10), .int ac, .long dn, .ref (bm 11), .ref (bm 12), .ref (bm 13), .ref (bm 14), .int hi])), ((bm 8), .inl ((km 8), 279, .inl nw)), ((bm 11), .inl ((km 11), 98, .inl as_))] H.size) o_7 r_8) (cwV 0 hts (q_gV m_1191 m_1192 m_1193 m_5 m_1194) rfl rfl rfl hdV_yX10_putAside_0 ⟨Nat.le_of_ble_eq_true rfl, Nat.le_of_ble_eq_true rfl⟩) (q_preWV hK hP hD (q := (RX10, TX10, 24)) (ci := 10) (q0 := 0) rfl rfl [0, 3, 4] (by decide) rfl rfl [2, 3] rfl) rfl rfl hl.1 rfl (lv_room (Nat.le_of_ble_eq_true rfl)) dX10_when_19 ⟨Nat.le_of_ble_eq_true rfl, Nat.le_of_ble_eq_true rfl⟩) hK hP hD hS hA [0, 3, 4] [1, 2] rfl rfl (by decide) (by decide) (fun _ H locs _ hP hD hK9 hS => ?_)
      have hP : va_P (dC, dI) vwCl [((bm 0), .inr (10, [.int th, .ref (bm 1), .int tn, .int at_, .int wr, .ref (bm 2), .ref (bm 3), .int rm_, .ref (bm 4), .ref (bm 5), .int mn, .ref (bm 6), .ref (bm 7), .int sn, .ref (bm 8), .ref (bm 9), .ref (bm 10), .int ac, .long dn, .ref (bm 11), .ref (bm 12), .ref (bm 13), .ref (bm 14), .int hi])), ((bm 4), .inl ((km 4), 8, .inl ru)), ((bm 5), .inl ((km 5), 48, .inl td)), ((bm 8), .inl ((km 8), 279, .inl nw)), ((bm 11), .inl ((km 11), 98, .inl (o_7)))] H := hP.sub [2, 0, 1, 3, 4] rfl
      have hD : va_D A [((bm 0), .inr (10, [.int th, .ref (bm 1), .int tn, .int at_, .int wr, .ref (bm 2), .ref (bm 3), .int rm_, .ref (bm 4), .ref (bm 5), .int mn, .ref (bm 6), .ref (bm 7), .int sn, .ref (bm 8), .ref (bm 9), .ref (bm 10), .int ac, .long dn, .ref (bm 11), .ref (bm 12), .ref (bm 13), .ref (bm 14), .int hi])), ((bm 4), .inl ((km 4), 8, .inl ru)), ((bm 5), .inl ((km 5), 48, .inl td)), ((bm 8), .inl ((km 8), 279, .inl nw)), ((bm 11), .inl ((km 11), 98, .inl (o_7)))] := hD.sub [2, 0, 1, 3, 4] (by decide) rfl
      refine lv_aload_n hx hb dX10_when_22 rfl (lv_at hl 0 rfl) ?_
      refine lv_iload_n hx hb dX10_when_23 rfl (lv_at hl 1 rfl) ?_
      obtain ⟨o_9, r_10, hG⟩ := q_bi hG
      refine q_goi2 (v := o_9.1) (wr := [((bm 11), .inl ((km 11), 98, .inl (o_7)))]) (va_runV (As := [.int z1]) (rest := []) ⟨hx, hb, hml, hown, hts⟩ (c_X10_whenNow l dC dI bm km th tn at_ wr rm_ mn sn ac hi dn ru td nw z1 (va_A [((bm 0), .inr (10, [.int th, .ref (bm 1), .int tn, .int at_, .int wr, .ref (bm 2), .ref (bm 3), .int rm_, .ref (bm 4), .ref (bm 5), .int mn, .ref (bm 6), .ref (bm 7), .int sn, .ref (bm 8), .ref (bm 9), .ref (bm 10), .int ac, .long dn, .ref (bm 11), .ref (bm 12), .ref (bm 13), .ref (bm 14), .int hi])), ((bm 4), .inl ((km 4), 8, .inl ru)), ((bm 5), .inl ((km 5), 48, .inl td)), ((bm 8), .inl ((km 8), 279, .inl nw))] H.size) o_9 r_10) (cwV 1 hts (q_gV m_1195 m_1196 m_1197 m_5 m_1198) rfl rfl rfl hdV_yX10_whenNow_1 ⟨Nat.le_of_ble_eq_true rfl, Nat.le_of_ble_eq_true rfl⟩) (q_preWV hK hP hD (q := (RX10, TX10, 24)) (ci := 10) (q0 := 0) rfl rfl [0, 1, 2, 3] (by decide) rfl rfl [0, 1, 2] rfl) rfl rfl hl.1 rfl (lv_room (Nat.le_of_ble_eq_true rfl)) dX10_when_24 ⟨Nat.le_of_ble_eq_true rfl, Nat.le_of_ble_eq_true rfl⟩) hK hP hD hS hA [0, 1, 2, 3] [4] rfl rfl (by decide) (by decide) (fun _ H locs _ hP hD hK9 hS => ?_)
      have hP : va_P (dC, dI) vwCl [((bm 0), .inr (10, [.int th, .ref (bm 1), .int tn, .int at_, .int wr, .ref (bm 2), .ref (bm 3), .int rm_, .ref (bm 4), .ref (bm 5), .int mn, .ref (bm 6), .ref (bm 7), .int sn, .ref (bm 8), .ref (bm 9), .ref (bm 10), .int ac, .long dn, .ref (bm 11), .ref (bm 12), .ref (bm 13), .ref (bm 14), .int hi])), ((bm 4), .inl ((km 4), 8, .inl ru)), ((bm 5), .inl ((km 5), 48, .inl td)), ((bm 8), .inl ((km 8), 279, .inl (o_9.2))), ((bm 11), .inl ((km 11), 98, .inl (o_7)))] H := hP.sub [1, 2, 3, 4, 0] rfl
      have hD : va_D A [((bm 0), .inr (10, [.int th, .ref (bm 1), .int tn, .int at_, .int wr, .ref (bm 2), .ref (bm 3), .int rm_, .ref (bm 4), .ref (bm 5), .int mn, .ref (bm 6), .ref (bm 7), .int sn, .ref (bm 8), .ref (bm 9), .ref (bm 10), .int ac, .long dn, .ref (bm 11), .ref (bm 12), .ref (bm 13), .ref (bm 14), .int hi])), ((bm 4), .inl ((km 4), 8, .inl ru)), ((bm 5), .inl ((km 5), 48, .inl td)), ((bm 8), .inl ((km 8), 279, .inl (o_9.2))), ((bm 11), .inl ((km 11), 98, .inl (o_7)))] := hD.sub [1, 2, 3, 4, 0] (by decide) rfl
      refine lv_istore_n (lv' := [(2, .int o_9.1), (0, .ref (bm 0)), (1, .int z1)]) hx hb dX10_when_27 rfl hl (by decide) rfl (fun ls hl => ?_)
      refine lv_aload_n hx hb dX10_when_28 rfl (lv_at hl 1 rfl) ?_
      obtain ⟨o_11, r_12, hG⟩ := q_bi hG
      refine q_gov2 (wr := [((bm 4), .inl ((km 4), 8, .inl ru)), ((bm 5), .inl ((km 5), 48, .inl td))]) (va_runV (As := []) (rest := []) ⟨hx, hb, hml, hown, hts⟩ (c_X10_bringBack l dC dI bm km th tn at_ wr rm_ mn sn ac hi dn (o_9.2) (o_7) (va_A [((bm 0), .inr (10, [.int th, .ref (bm 1), .int tn, .int at_, .int wr, .ref (bm 2), .ref (bm 3), .int rm_, .ref (bm 4), .ref (bm 5), .int mn, .ref (bm 6), .ref (bm 7), .int sn, .ref (bm 8), .ref (bm 9), .ref (bm 10), .int ac, .long dn, .ref (bm 11), .ref (bm 12), .ref (bm 13), .ref (bm 14), .int hi])), ((bm 8), .inl ((km 8), 279, .inl (o_9.2))), ((bm 11), .inl ((km 11), 98, .inl (o_7)))] H.size) o_11 r_12) (cwV 0 hts (q_gV m_1199 m_1200 m_1201 m_5 m_1202) rfl rfl rfl hdV_yX10_bringBack_0 ⟨Nat.le_of_ble_eq_true rfl, Nat.le_of_ble_eq_true rfl⟩) (q_preWV hK hP hD (q := (RX10, TX10, 24)) (ci := 10) (q0 := 0) rfl rfl [0, 3, 4] (by decide) rfl rfl [2, 3] rfl) rfl rfl hl.1 rfl (lv_room (Nat.le_of_ble_eq_true rfl)) dX10_when_29 ⟨Nat.le_of_ble_eq_true rfl, Nat.le_of_ble_eq_true rfl⟩) hK hP hD hS hA [0, 3, 4] [1, 2] rfl rfl (by decide) (by decide) (fun _ H locs _ hP hD hK9 hS => ?_)
      have hP : va_P (dC, dI) vwCl [((bm 0), .inr (10, [.int th, .ref (bm 1), .int tn, .int at_, .int wr, .ref (bm 2), .ref (bm 3), .int rm_, .ref (bm 4), .ref (bm 5), .int mn, .ref (bm 6), .ref (bm 7), .int sn, .ref (bm 8), .ref (bm 9), .ref (bm 10), .int ac, .long dn, .ref (bm 11), .ref (bm 12), .ref (bm 13), .ref (bm 14), .int hi])), ((bm 4), .inl ((km 4), 8, .inl ru)), ((bm 5), .inl ((km 5), 48, .inl td)), ((bm 8), .inl ((km 8), 279, .inl (o_11))), ((bm 11), .inl ((km 11), 98, .inl (o_7)))] H := hP.sub [2, 0, 1, 3, 4] rfl
      have hD : va_D A [((bm 0), .inr (10, [.int th, .ref (bm 1), .int tn, .int at_, .int wr, .ref (bm 2), .ref (bm 3), .int rm_, .ref (bm 4), .ref (bm 5), .int mn, .ref (bm 6), .ref (bm 7), .int sn, .ref (bm 8), .ref (bm 9), .ref (bm 10), .int ac, .long dn, .ref (bm 11), .ref (bm 12), .ref (bm 13), .ref (bm 14), .int hi])), ((bm 4), .inl ((km 4), 8, .inl ru)), ((bm 5), .inl ((km 5), 48, .inl td)), ((bm 8), .inl ((km 8), 279, .inl (o_11))), ((bm 11), .inl ((km 11), 98, .inl (o_7)))] := hD.sub [2, 0, 1, 3, 4] (by decide) rfl
      refine lv_iload_n hx hb dX10_when_32 rfl (lv_at hl 0 rfl) ?_
      obtain rfl := Option.some.inj hG
      have hP9 := hP.sub (ws' := [((bm 0), .inr (10, [.int th, .ref (bm 1), .int tn, .int at_, .int wr, .ref (bm 2), .ref (bm 3), .int rm_, .ref (bm 4), .ref (bm 5), .int mn, .ref (bm 6), .ref (bm 7), .int sn, .ref (bm 8), .ref (bm 9), .ref (bm 10), .int ac, .long dn, .ref (bm 11), .ref (bm 12), .ref (bm 13), .ref (bm 14), .int hi])), ((bm 4), .inl ((km 4), 8, .inl ru)), ((bm 5), .inl ((km 5), 48, .inl td)), ((bm 8), .inl ((km 8), 279, .inl (o_11))), ((bm 11), .inl ((km 11), 98, .inl (o_7)))]) [0, 1, 2, 3, 4] rfl
      have hD9 := hD.sub (ws' := [((bm 0), .inr (10, [.int th, .ref (bm 1), .int tn, .int at_, .int wr, .ref (bm 2), .ref (bm 3), .int rm_, .ref (bm 4), .ref (bm 5), .int mn, .ref (bm 6), .ref (bm 7), .int sn, .ref (bm 8), .ref (bm 9), .ref (bm 10), .int ac, .long dn, .ref (bm 11), .ref (bm 12), .ref (bm 13), .ref (bm 14), .int hi])), ((bm 4), .inl ((km 4), 8, .inl ru)), ((bm 5), .inl ((km 5), 48, .inl td)), ((bm 8), .inl ((km 8), 279, .inl (o_11))), ((bm 11), .inl ((km 11), 98, .inl (o_7)))]) [0, 1, 2, 3, 4] (by decide) rfl
      have hK9 := hK.sub (tys' := [((km 4), .int), ((km 5), .int), ((km 8), .int), ((km 11), .int)]) [0, 1, 2, 3] rfl
      exact W.iret (v := o_9.1) hx hb hr (fun t ht hW => ⟨⟨o_9.1, (), rfl, ⟨rfl, trivial⟩, by rw [ht]; exact hP9, va_K.moved hW.alike hK9, hD9⟩, hS.F ht⟩) hS.2.2 dX10_when_33
    · have hG := q_ifp c_6 hG
      refine lv_iconst (v := (-1)) hx hb dX10_when_16 (by decide) ?_
      obtain rfl := Option.some.inj hG
      have hP9 := hP.sub (ws' := [((bm 0), .inr (10, [.int th, .ref (bm 1), .int tn, .int at_, .int wr, .ref (bm 2), .ref (bm 3), .int rm_, .ref (bm 4), .ref (bm 5), .int mn, .ref (bm 6), .ref (bm 7), .int sn, .ref (bm 8), .ref (bm 9), .ref (bm 10), .int ac, .long dn, .ref (bm 11), .ref (bm 12), .ref (bm 13), .ref (bm 14), .int hi])), ((bm 4), .inl ((km 4), 8, .inl ru)), ((bm 5), .inl ((km 5), 48, .inl td)), ((bm 8), .inl ((km 8), 279, .inl nw)), ((bm 11), .inl ((km 11), 98, .inl as_))]) [0, 1, 2, 3, 4] rfl
      have hD9 := hD.sub (ws' := [((bm 0), .inr (10, [.int th, .ref (bm 1), .int tn, .int at_, .int wr, .ref (bm 2), .ref (bm 3), .int rm_, .ref (bm 4), .ref (bm 5), .int mn, .ref (bm 6), .ref (bm 7), .int sn, .ref (bm 8), .ref (bm 9), .ref (bm 10), .int ac, .long dn, .ref (bm 11), .ref (bm 12), .ref (bm 13), .ref (bm 14), .int hi])), ((bm 4), .inl ((km 4), 8, .inl ru)), ((bm 5), .inl ((km 5), 48, .inl td)), ((bm 8), .inl ((km 8), 279, .inl nw)), ((bm 11), .inl ((km 11), 98, .inl as_))]) [0, 1, 2, 3, 4] (by decide) rfl
      have hK9 := hK.sub (tys' := [((km 4), .int), ((km 5), .int), ((km 8), .int), ((km 11), .int)]) [0, 1, 2, 3] rfl
      exact W.iret (v := (-1)) hx hb hr (fun t ht hW => ⟨⟨(-1), (), rfl, ⟨rfl, trivial⟩, by rw [ht]; exact hP9, va_K.moved hW.alike hK9, hD9⟩, hS.F ht⟩) hS.2.2 dX10_when_17

def F_X10_ahead_ (mn : Int32) (ru : Nat → Int32) (td : Nat → Int32) (nw : Nat → Int32) (as_ : Nat → Int32) (z1 : Int32) (z2 : Int32) : Option (Int32 × (Nat → Int32) × (Nat → Int32)) := ((F_X10_isTree mn).bind fun o_1 => (if o_1 = 0 then some ((-1), nw, as_) else ((F_X10_in z1 0 200).bind fun o_4 => (if o_4 = 0 then some ((-1), nw, as_) else ((F_X10_in z2 0 1).bind fun o_7 => (if o_7 = 0 then some ((-1), nw, as_) else (if ((nw 96) + z1) ≤ 9999 then ((F_X10_putAside nw as_).bind fun o_11 => ((F_X10_ticks mn ru td nw z1).bind fun o_13 => (if z2 = 0 then ((F_X10_those mn (o_13.2) 6).bind fun o_20 => ((F_X10_bringBack (o_13.2) (o_11)).bind fun o_22 => some (o_20, (o_22), (o_11)))) else ((F_X10_those mn (o_13.2) 7).bind fun o_16 => ((F_X10_bringBack (o_13.2) (o_11)).bind fun o_18 => some (o_16, (o_18), (o_11))))))) else some ((-1), nw, as_))))))))
set_option maxHeartbeats 4000000 in
set_option maxRecDepth 100000 in
theorem c_X10_ahead_ (l : Launch) (dC : Nat → ClassId) (dI : Nat → Nat → Nat) (bm : Nat → Nat) (km : Nat → ClassId) (th : Int32) (tn : Int32) (at_ : Int32) (wr : Int32) (rm_ : Int32) (mn : Int32) (sn : Int32) (ac : Int32) (hi : Int32) (dn : Int64) (ru : Nat → Int32) (td : Nat → Int32) (nw : Nat → Int32) (as_ : Nat → Int32) (z1 : Int32) (z2 : Int32) (A : Nat → Prop) (o : Int32 × (Nat → Int32) × (Nat → Int32)) (hG : F_X10_ahead_ mn ru td nw as_ z1 z2 = some o) : Met l yX10_ahead_ (.code yX10_ahead_ cX10_ahead_ 4 (some .int) :: wA) ({ frames := 9, cells := 0, slots := 0, locals := 199 }) (va_Pc [.ref (bm 0), .int z1, .int z2] (q_W (dC, dI) A [((bm 0), .inr (10, [.int th, .ref (bm 1), .int tn, .int at_, .int wr, .ref (bm 2), .ref (bm 3), .int rm_, .ref (bm 4), .ref (bm 5), .int mn, .ref (bm 6), .ref (bm 7), .int sn, .ref (bm 8), .ref (bm 9), .ref (bm 10), .int ac, .long dn, .ref (bm 11), .ref (bm 12), .ref (bm 13), .ref (bm 14), .int hi])), ((bm 4), .inl ((km 4), 8, .inl ru)), ((bm 5), .inl ((km 5), 48, .inl td)), ((bm 8), .inl ((km 8), 279, .inl nw)), ((bm 11), .inl ((km 11), 98, .inl as_))] [((km 4), .int), ((km 5), .int), ((km 8), .int), ((km 11), .int)])) (va_Qi (fun (r : Int32) (_ : Unit) => r = o.1 ∧ True) (fun (_ : Unit) t => q_B (dC, dI) A [((bm 0), .inr (10, [.int th, .ref (bm 1), .int tn, .int at_, .int wr, .ref (bm 2), .ref (bm 3), .int rm_, .ref (bm 4), .ref (bm 5), .int mn, .ref (bm 6), .ref (bm 7), .int sn, .ref (bm 8), .ref (bm 9), .ref (bm 10), .int ac, .long dn, .ref (bm 11), .ref (bm 12), .ref (bm 13), .ref (bm 14), .int hi])), ((bm 4), .inl ((km 4), 8, .inl ru)), ((bm 5), .inl ((km 5), 48, .inl td)), ((bm 8), .inl ((km 8), 279, .inl (o.2.1))), ((bm 11), .inl ((km 11), 98, .inl (o.2.2)))] [((km 4), .int), ((km 5), .int), ((km 8), .int), ((km 11), .int)] t) A) 0 0 A := by
  refine Met.ofW (cc := cX10_ahead_) (maxL := 4) (ret := (some .int)) (by decide) rfl ?_
  intro p e s m args below meth c s₁ B hml hv
  obtain ⟨rfl, hP, hK, hD, hA⟩ := hv
  have hx := B.exec
  have hb := B.bytes
  have hr := B.returns
  have hts := atoms_spec (ws := .code yX10_ahead_ cX10_ahead_ 4 (some .int) :: wA) B.pre
  have hown : s.vm.findClass RX10 = some m.cls := findClass_of_methodNamed B.named
  have hlocks := B.notSynchronized
  have hS : va_S A s.heap s.heap [] := va_S.rf
  have hl := lv_entry ([.ref (bm 0), .int z1, .int z2]) (n := 4) (Nat.le_of_ble_eq_true rfl)
  rw [lg_entry_eq]
  generalize (lg_sl ([.ref (bm 0), .int z1, .int z2]) ++ List.replicate (4 - (lg_sl ([.ref (bm 0), .int z1, .int z2])).length) Slot.unset).toArray = ls at hl ⊢
  have hl : lv_has ls 4 [(0, .ref (bm 0)), (1, .int z1), (2, .int z2)] := hl
  unfold F_X10_ahead_ at hG
  refine lv_aload_n hx hb dX10_ahead__0 rfl (lv_at hl 0 rfl) ?_
  obtain ⟨o_1, r_2, hG⟩ := q_bi hG
  refine q_goi (v := o_1) (va_runV (As := []) (rest := []) ⟨hx, hb, hml, hown, hts⟩ (c_X10_isTree l dC dI bm km th tn at_ wr rm_ mn sn ac hi dn o_1 r_2) (cwV 0 hts (q_gV m_454 m_455 m_456 m_5 m_457) rfl rfl rfl hdV_yX10_isTree_0 ⟨Nat.le_of_ble_eq_true rfl, Nat.le_of_ble_eq_true rfl⟩) (q_preV hK hP (q := (RX10, TX10, 24)) (ci := 10) (q0 := 0) rfl rfl [0] rfl [] rfl) rfl rfl hl.1 rfl (lv_room (Nat.le_of_ble_eq_true rfl)) dX10_ahead__1 ⟨Nat.le_of_ble_eq_true rfl, Nat.le_of_ble_eq_true rfl⟩) hP hS (fun H locs hP hS => ?_)
  refine lv_if_eq (tgt := 42) hx hb dX10_ahead__4 (by decide) (fun c_3 => ?_) (fun c_3 => ?_)
  · have hG := q_ifp c_3 hG
    refine lv_iconst (v := (-1)) hx hb dX10_ahead__42 (by decide) ?_
    obtain rfl := Option.some.inj hG
    have hP9 := hP.sub (ws' := [((bm 0), .inr (10, [.int th, .ref (bm 1), .int tn, .int at_, .int wr, .ref (bm 2), .ref (bm 3), .int rm_, .ref (bm 4), .ref (bm 5), .int mn, .ref (bm 6), .ref (bm 7), .int sn, .ref (bm 8), .ref (bm 9), .ref (bm 10), .int ac, .long dn, .ref (bm 11), .ref (bm 12), .ref (bm 13), .ref (bm 14), .int hi])), ((bm 4), .inl ((km 4), 8, .inl ru)), ((bm 5), .inl ((km 5), 48, .inl td)), ((bm 8), .inl ((km 8), 279, .inl nw)), ((bm 11), .inl ((km 11), 98, .inl as_))]) [0, 1, 2, 3, 4] rfl
    have hD9 := hD.sub (ws' := [((bm 0), .inr (10, [.int th, .ref (bm 1), .int tn, .int at_, .int wr, .ref (bm 2), .ref (bm 3), .int rm_, .ref (bm 4), .ref (bm 5), .int mn, .ref (bm 6), .ref (bm 7), .int sn, .ref (bm 8), .ref (bm 9), .ref (bm 10), .int ac, .long dn, .ref (bm 11), .ref (bm 12), .ref (bm 13), .ref (bm 14), .int hi])), ((bm 4), .inl ((km 4), 8, .inl ru)), ((bm 5), .inl ((km 5), 48, .inl td)), ((bm 8), .inl ((km 8), 279, .inl nw)), ((bm 11), .inl ((km 11), 98, .inl as_))]) [0, 1, 2, 3, 4] (by decide) rfl
    have hK9 := hK.sub (tys' := [((km 4), .int), ((km 5), .int), ((km 8), .int), ((km 11), .int)]) [0, 1, 2, 3] rfl
    exact W.iret (v := (-1)) hx hb hr (fun t ht hW => ⟨⟨(-1), (), rfl, ⟨rfl, trivial⟩, by rw [ht]; exact hP9, va_K.moved hW.alike hK9, hD9⟩, hS.F ht⟩) hS.2.2 dX10_ahead__43
  · have hG := q_ifn c_3 hG
    refine lv_iload_n hx hb dX10_ahead__7 rfl (lv_at hl 1 rfl) ?_
    refine lv_iconst (v := 0) hx hb dX10_ahead__8 (by decide) ?_
    refine lv_sipush (v := 200) hx hb dX10_ahead__9 (by decide) ?_
    obtain ⟨o_4, r_5, hG⟩ := q_bi hG
    refine q_goi (v := o_4) (va_runS (As := [.int z1, .int 0, .int 200]) (rest := []) ⟨hx, hb, hml, hown, hts⟩ (c_X10_in l dC dI z1 0 200 o_4 r_5) (va_cwS 3 hts (q_gS m_157 m_158 m_5 m_159) rfl rfl rfl hdS_yX10_in_3 ⟨Nat.le_of_ble_eq_true rfl, Nat.le_of_ble_eq_true rfl⟩) (q_preS hK hP [] rfl [] rfl) rfl rfl hl.1 rfl (lv_room (Nat.le_of_ble_eq_true rfl)) dX10_ahead__12 ⟨Nat.le_of_ble_eq_true rfl, Nat.le_of_ble_eq_true rfl⟩) hP hS (fun H locs hP hS => ?_)
    refine lv_if_eq (tgt := 42) hx hb dX10_ahead__15 (by decide) (fun c_6 => ?_) (fun c_6 => ?_)
    · have hG := q_ifp c_6 hG
      refine lv_iconst (v := (-1)) hx hb dX10_ahead__42 (by decide) ?_
      obtain rfl := Option.some.inj hG
      have hP9 := hP.sub (ws' := [((bm 0), .inr (10, [.int th, .ref (bm 1), .int tn, .int at_, .int wr, .ref (bm 2), .ref (bm 3), .int rm_, .ref (bm 4), .ref (bm 5), .int mn, .ref (bm 6), .ref (bm 7), .int sn, .ref (bm 8), .ref (bm 9), .ref (bm 10), .int ac, .long dn, .ref (bm 11), .ref (bm 12), .ref (bm 13), .ref (bm 14), .int hi])), ((bm 4), .inl ((km 4), 8, .inl ru)), ((bm 5), .inl ((km 5), 48, .inl td)), ((bm 8), .inl ((km 8), 279, .inl nw)), ((bm 11), .inl ((km 11), 98, .inl as_))]) [0, 1, 2, 3, 4] rfl
      have hD9 := hD.sub (ws' := [((bm 0), .inr (10, [.int th, .ref (bm 1), .int tn, .int at_, .int wr, .ref (bm 2), .ref (bm 3), .int rm_, .ref (bm 4), .ref (bm 5), .int mn, .ref (bm 6), .ref (bm 7), .int sn, .ref (bm 8), .ref (bm 9), .ref (bm 10), .int ac, .long dn, .ref (bm 11), .ref (bm 12), .ref (bm 13), .ref (bm 14), .int hi])), ((bm 4), .inl ((km 4), 8, .inl ru)), ((bm 5), .inl ((km 5), 48, .inl td)), ((bm 8), .inl ((km 8), 279, .inl nw)), ((bm 11), .inl ((km 11), 98, .inl as_))]) [0, 1, 2, 3, 4] (by decide) rfl
      have hK9 := hK.sub (tys' := [((km 4), .int), ((km 5), .int), ((km 8), .int), ((km 11), .int)]) [0, 1, 2, 3] rfl
      exact W.iret (v := (-1)) hx hb hr (fun t ht hW => ⟨⟨(-1), (), rfl, ⟨rfl, trivial⟩, by rw [ht]; exact hP9, va_K.moved hW.alike hK9, hD9⟩, hS.F ht⟩) hS.2.2 dX10_ahead__43
    · have hG := q_ifn c_6 hG
      refine lv_iload_n hx hb dX10_ahead__18 rfl (lv_at hl 2 rfl) ?_
      refine lv_iconst (v := 0) hx hb dX10_ahead__19 (by decide) ?_
      refine lv_iconst (v := 1) hx hb dX10_ahead__20 (by decide) ?_
      obtain ⟨o_7, r_8, hG⟩ := q_bi hG
      refine q_goi (v := o_7) (va_runS (As := [.int z2, .int 0, .int 1]) (rest := []) ⟨hx, hb, hml, hown, hts⟩ (c_X10_in l dC dI z2 0 1 o_7 r_8) (va_cwS 3 hts (q_gS m_157 m_158 m_5 m_159) rfl rfl rfl hdS_yX10_in_3 ⟨Nat.le_of_ble_eq_true rfl, Nat.le_of_ble_eq_true rfl⟩) (q_preS hK hP [] rfl [] rfl) rfl rfl hl.1 rfl (lv_room (Nat.le_of_ble_eq_true rfl)) dX10_ahead__21 ⟨Nat.le_of_ble_eq_true rfl, Nat.le_of_ble_eq_true rfl⟩) hP hS (fun H locs hP hS => ?_)
      refine lv_if_eq (tgt := 42) hx hb dX10_ahead__24 (by decide) (fun c_9 => ?_) (fun c_9 => ?_)
      · have hG := q_ifp c_9 hG
        refine lv_iconst (v := (-1)) hx hb dX10_ahead__42 (by decide) ?_
        obtain rfl := Option.some.inj hG
        have hP9 := hP.sub (ws' := [((bm 0), .inr (10, [.int th, .ref (bm 1), .int tn, .int at_, .int wr, .ref (bm 2), .ref (bm 3), .int rm_, .ref (bm 4), .ref (bm 5), .int mn, .ref (bm 6), .ref (bm 7), .int sn, .ref (bm 8), .ref (bm 9), .ref (bm 10), .int ac, .long dn, .ref (bm 11), .ref (bm 12), .ref (bm 13), .ref (bm 14), .int hi])), ((bm 4), .inl ((km 4), 8, .inl ru)), ((bm 5), .inl ((km 5), 48, .inl td)), ((bm 8), .inl ((km 8), 279, .inl nw)), ((bm 11), .inl ((km 11), 98, .inl as_))]) [0, 1, 2, 3, 4] rfl
        have hD9 := hD.sub (ws' := [((bm 0), .inr (10, [.int th, .ref (bm 1), .int tn, .int at_, .int wr, .ref (bm 2), .ref (bm 3), .int rm_, .ref (bm 4), .ref (bm 5), .int mn, .ref (bm 6), .ref (bm 7), .int sn, .ref (bm 8), .ref (bm 9), .ref (bm 10), .int ac, .long dn, .ref (bm 11), .ref (bm 12), .ref (bm 13), .ref (bm 14), .int hi])), ((bm 4), .inl ((km 4), 8, .inl ru)), ((bm 5), .inl ((km 5), 48, .inl td)), ((bm 8), .inl ((km 8), 279, .inl nw)), ((bm 11), .inl ((km 11), 98, .inl as_))]) [0, 1, 2, 3, 4] (by decide) rfl
        have hK9 := hK.sub (tys' := [((km 4), .int), ((km 5), .int), ((km 8), .int), ((km 11), .int)]) [0, 1, 2, 3] rfl
        exact W.iret (v := (-1)) hx hb hr (fun t ht hW => ⟨⟨(-1), (), rfl, ⟨rfl, trivial⟩, by rw [ht]; exact hP9, va_K.moved hW.alike hK9, hD9⟩, hS.F ht⟩) hS.2.2 dX10_ahead__43
      · have hG := q_ifn c_9 hG
        refine lv_aload_n hx hb dX10_ahead__27 rfl (lv_at hl 0 rfl) ?_
        refine va_get (D := (dC, dI)) (ci := 10) (v := .ref (bm 8)) (C := RX10) (T := TX10) (N := 24) hx hb hts iA_10 hown hK hP 0 rfl rfl 14 (by decide) (hts (.fieldLink RX10 31 "HubTreeModel" "now" "[I") (List.mem_cons_of_mem _ m_122)) (fun _ h9 => h9) rfl dX10_ahead__28 ?_
        refine lv_bipush (v := 96) hx hb dX10_ahead__31 (by decide) ?_
        refine va_iald hx hb hK hP 3 2 rfl rfl (i := 96) (vp_in_iff.mpr (by decide)) dX10_ahead__33 ?_
        refine q_top (y := (nw 96)) rfl ?_
        refine lv_iload_n hx hb dX10_ahead__34 rfl (lv_at hl 1 rfl) ?_
        refine lv_iadd hx hb dX10_ahead__35 ?_
        refine lv_sipush (v := 9999) hx hb dX10_ahead__36 (by decide) ?_
        refine lv_icmp_le (tgt := 44) hx hb dX10_ahead__39 (by decide) (fun c_10 => ?_) (fun c_10 => ?_)
        · have hG := q_ifp c_10 hG
          refine lv_aload_n hx hb dX10_ahead__44 rfl (lv_at hl 0 rfl) ?_
          obtain ⟨o_11, r_12, hG⟩ := q_bi hG
          refine q_gov2 (wr := [((bm 4), .inl ((km 4), 8, .inl ru)), ((bm 5), .inl ((km 5), 48, .inl td))]) (va_runV (As := []) (rest := []) ⟨hx, hb, hml, hown, hts⟩ (c_X10_putAside l dC dI bm km th tn at_ wr rm_ mn sn ac hi dn nw as_ (va_A [((bm 0), .inr (10, [.int th, .ref (bm 1), .int tn, .int at_, .int wr, .ref (bm 2), .ref (bm 3), .int rm_, .ref (bm 4), .ref (bm 5), .int mn, .ref (bm 6), .ref (bm 7), .int sn, .ref (bm 8), .ref (bm 9), .ref (bm 10), .int ac, .long dn, .ref (bm 11), .ref (bm 12), .ref (bm 13), .ref (bm 14), .int hi])), ((bm 8), .inl ((km 8), 279, .inl nw)), ((bm 11), .inl ((km 11), 98, .inl as_))] H.size) o_11 r_12) (cwV 0 hts (q_gV m_1191 m_1192 m_1193 m_5 m_1194) rfl rfl rfl hdV_yX10_putAside_0 ⟨Nat.le_of_ble_eq_true rfl, Nat.le_of_ble_eq_true rfl⟩) (q_preWV hK hP hD (q := (RX10, TX10, 24)) (ci := 10) (q0 := 0) rfl rfl [0, 3, 4] (by decide) rfl rfl [2, 3] rfl) rfl rfl hl.1 rfl (lv_room (Nat.le_of_ble_eq_true rfl)) dX10_ahead__45 ⟨Nat.le_of_ble_eq_true rfl, Nat.le_of_ble_eq_true rfl⟩) hK hP hD hS hA [0, 3, 4] [1, 2] rfl rfl (by decide) (by decide) (fun _ H locs _ hP hD hK9 hS => ?_)
          have hP : va_P (dC, dI) vwCl [((bm 0), .inr (10, [.int th, .ref (bm 1), .int tn, .int at_, .int wr, .ref (bm 2), .ref (bm 3), .int rm_, .ref (bm 4), .ref (bm 5), .int mn, .ref (bm 6), .ref (bm 7), .int sn, .ref (bm 8), .ref (bm 9), .ref (bm 10), .int ac, .long dn, .ref (bm 11), .ref (bm 12), .ref (bm 13), .ref (bm 14), .int hi])), ((bm 4), .inl ((km 4), 8, .inl ru)), ((bm 5), .inl ((km 5), 48, .inl td)), ((bm 8), .inl ((km 8), 279, .inl nw)), ((bm 11), .inl ((km 11), 98, .inl (o_11)))] H := hP.sub [2, 0, 1, 3, 4] rfl
          have hD : va_D A [((bm 0), .inr (10, [.int th, .ref (bm 1), .int tn, .int at_, .int wr, .ref (bm 2), .ref (bm 3), .int rm_, .ref (bm 4), .ref (bm 5), .int mn, .ref (bm 6), .ref (bm 7), .int sn, .ref (bm 8), .ref (bm 9), .ref (bm 10), .int ac, .long dn, .ref (bm 11), .ref (bm 12), .ref (bm 13), .ref (bm 14), .int hi])), ((bm 4), .inl ((km 4), 8, .inl ru)), ((bm 5), .inl ((km 5), 48, .inl td)), ((bm 8), .inl ((km 8), 279, .inl nw)), ((bm 11), .inl ((km 11), 98, .inl (o_11)))] := hD.sub [2, 0, 1, 3, 4] (by decide) rfl
          refine lv_aload_n hx hb dX10_ahead__48 rfl (lv_at hl 0 rfl) ?_
          refine lv_iload_n hx hb dX10_ahead__49 rfl (lv_at hl 1 rfl) ?_
          obtain ⟨o_13, r_14, hG⟩ := q_bi hG
          refine q_goi2 (v := o_13.1) (wr := [((bm 11), .inl ((km 11), 98, .inl (o_11)))]) (va_runV (As := [.int z1]) (rest := []) ⟨hx, hb, hml, hown, hts⟩ (c_X10_ticks l dC dI bm km th tn at_ wr rm_ mn sn ac hi dn ru td nw z1 (va_A [((bm 0), .inr (10, [.int th, .ref (bm 1), .int tn, .int at_, .int wr, .ref (bm 2), .ref (bm 3), .int rm_, .ref (bm 4), .ref (bm 5), .int mn, .ref (bm 6), .ref (bm 7), .int sn, .ref (bm 8), .ref (bm 9), .ref (bm 10), .int ac, .long dn, .ref (bm 11), .ref (bm 12), .ref (bm 13), .ref (bm 14), .int hi])), ((bm 4), .inl ((km 4), 8, .inl ru)), ((bm 5), .inl ((km 5), 48, .inl td)), ((bm 8), .inl ((km 8), 279, .inl nw))] H.size) o_13 r_14) (cwV 1 hts (q_gV m_953 m_954 m_955 m_5 m_956) rfl rfl rfl hdV_yX10_ticks_1 ⟨Nat.le_of_ble_eq_true rfl, Nat.le_of_ble_eq_true rfl⟩) (q_preWV hK hP hD (q := (RX10, TX10, 24)) (ci := 10) (q0 := 0) rfl rfl [0, 1, 2, 3] (by decide) rfl rfl [0, 1, 2] rfl) rfl rfl hl.1 rfl (lv_room (Nat.le_of_ble_eq_true rfl)) dX10_ahead__50 ⟨Nat.le_of_ble_eq_true rfl, Nat.le_of_ble_eq_true rfl⟩) hK hP hD hS hA [0, 1, 2, 3] [4] rfl rfl (by decide) (by decide) (fun _ H locs _ hP hD hK9 hS => ?_)
          have hP : va_P (dC, dI) vwCl [((bm 0), .inr (10, [.int th, .ref (bm 1), .int tn, .int at_, .int wr, .ref (bm 2), .ref (bm 3), .int rm_, .ref (bm 4), .ref (bm 5), .int mn, .ref (bm 6), .ref (bm 7), .int sn, .ref (bm 8), .ref (bm 9), .ref (bm 10), .int ac, .long dn, .ref (bm 11), .ref (bm 12), .ref (bm 13), .ref (bm 14), .int hi])), ((bm 4), .inl ((km 4), 8, .inl ru)), ((bm 5), .inl ((km 5), 48, .inl td)), ((bm 8), .inl ((km 8), 279, .inl (o_13.2))), ((bm 11), .inl ((km 11), 98, .inl (o_11)))] H := hP.sub [1, 2, 3, 4, 0] rfl
          have hD : va_D A [((bm 0), .inr (10, [.int th, .ref (bm 1), .int tn, .int at_, .int wr, .ref (bm 2), .ref (bm 3), .int rm_, .ref (bm 4), .ref (bm 5), .int mn, .ref (bm 6), .ref (bm 7), .int sn, .ref (bm 8), .ref (bm 9), .ref (bm 10), .int ac, .long dn, .ref (bm 11), .ref (bm 12), .ref (bm 13), .ref (bm 14), .int hi])), ((bm 4), .inl ((km 4), 8, .inl ru)), ((bm 5), .inl ((km 5), 48, .inl td)), ((bm 8), .inl ((km 8), 279, .inl (o_13.2))), ((bm 11), .inl ((km 11), 98, .inl (o_11)))] := hD.sub [1, 2, 3, 4, 0] (by decide) rfl
          refine lv_pop hx hb dX10_ahead__53 rfl ?_
          refine lv_aload_n hx hb dX10_ahead__54 rfl (lv_at hl 0 rfl) ?_
          refine lv_iload_n hx hb dX10_ahead__55 rfl (lv_at hl 2 rfl) ?_
          refine lv_if_ne (tgt := 64) hx hb dX10_ahead__56 (by decide) (fun c_15 => ?_) (fun c_15 => ?_)
          · have hG := q_ifn c_15 hG
            refine lv_bipush (v := 7) hx hb dX10_ahead__64 (by decide) ?_
            obtain ⟨o_16, r_17, hG⟩ := q_bi hG
            refine q_goi (v := o_16) (va_runV (As := [.int 7]) (rest := []) ⟨hx, hb, hml, hown, hts⟩ (c_X10_those l dC dI bm km th tn at_ wr rm_ mn sn ac hi dn (o_13.2) 7 o_16 r_17) (cwV 1 hts (q_gV m_1018 m_1019 m_1020 m_5 m_1021) rfl rfl rfl hdV_yX10_those_1 ⟨Nat.le_of_ble_eq_true rfl, Nat.le_of_ble_eq_true rfl⟩) (q_preV hK hP (q := (RX10, TX10, 24)) (ci := 10) (q0 := 0) rfl rfl [0, 3] rfl [2] rfl) rfl rfl hl.1 rfl (lv_room (Nat.le_of_ble_eq_true rfl)) dX10_ahead__66 ⟨Nat.le_of_ble_eq_true rfl, Nat.le_of_ble_eq_true rfl⟩) hP hS (fun H locs hP hS => ?_)
            refine lv_istore_n (lv' := [(3, .int o_16), (0, .ref (bm 0)), (1, .int z1), (2, .int z2)]) hx hb dX10_ahead__69 rfl hl (by decide) rfl (fun ls hl => ?_)
            refine lv_aload_n hx hb dX10_ahead__70 rfl (lv_at hl 1 rfl) ?_
            obtain ⟨o_18, r_19, hG⟩ := q_bi hG
            refine q_gov2 (wr := [((bm 4), .inl ((km 4), 8, .inl ru)), ((bm 5), .inl ((km 5), 48, .inl td))]) (va_runV (As := []) (rest := []) ⟨hx, hb, hml, hown, hts⟩ (c_X10_bringBack l dC dI bm km th tn at_ wr rm_ mn sn ac hi dn (o_13.2) (o_11) (va_A [((bm 0), .inr (10, [.int th, .ref (bm 1), .int tn, .int at_, .int wr, .ref (bm 2), .ref (bm 3), .int rm_, .ref (bm 4), .ref (bm 5), .int mn, .ref (bm 6), .ref (bm 7), .int sn, .ref (bm 8), .ref (bm 9), .ref (bm 10), .int ac, .long dn, .ref (bm 11), .ref (bm 12), .ref (bm 13), .ref (bm 14), .int hi])), ((bm 8), .inl ((km 8), 279, .inl (o_13.2))), ((bm 11), .inl ((km 11), 98, .inl (o_11)))] H.size) o_18 r_19) (cwV 0 hts (q_gV m_1199 m_1200 m_1201 m_5 m_1202) rfl rfl rfl hdV_yX10_bringBack_0 ⟨Nat.le_of_ble_eq_true rfl, Nat.le_of_ble_eq_true rfl⟩) (q_preWV hK hP hD (q := (RX10, TX10, 24)) (ci := 10) (q0 := 0) rfl rfl [0, 3, 4] (by decide) rfl rfl [2, 3] rfl) rfl rfl hl.1 rfl (lv_room (Nat.le_of_ble_eq_true rfl)) dX10_ahead__71 ⟨Nat.le_of_ble_eq_true rfl, Nat.le_of_ble_eq_true rfl⟩) hK hP hD hS hA [0, 3, 4] [1, 2] rfl rfl (by decide) (by decide) (fun _ H locs _ hP hD hK9 hS => ?_)
            have hP : va_P (dC, dI) vwCl [((bm 0), .inr (10, [.int th, .ref (bm 1), .int tn, .int at_, .int wr, .ref (bm 2), .ref (bm 3), .int rm_, .ref (bm 4), .ref (bm 5), .int mn, .ref (bm 6), .ref (bm 7), .int sn, .ref (bm 8), .ref (bm 9), .ref (bm 10), .int ac, .long dn, .ref (bm 11), .ref (bm 12), .ref (bm 13), .ref (bm 14), .int hi])), ((bm 4), .inl ((km 4), 8, .inl ru)), ((bm 5), .inl ((km 5), 48, .inl td)), ((bm 8), .inl ((km 8), 279, .inl (o_18))), ((bm 11), .inl ((km 11), 98, .inl (o_11)))] H := hP.sub [2, 0, 1, 3, 4] rfl
            have hD : va_D A [((bm 0), .inr (10, [.int th, .ref (bm 1), .int tn, .int at_, .int wr, .ref (bm 2), .ref (bm 3), .int rm_, .ref (bm 4), .ref (bm 5), .int mn, .ref (bm 6), .ref (bm 7), .int sn, .ref (bm 8), .ref (bm 9), .ref (bm 10), .int ac, .long dn, .ref (bm 11), .ref (bm 12), .ref (bm 13), .ref (bm 14), .int hi])), ((bm 4), .inl ((km 4), 8, .inl ru)), ((bm 5), .inl ((km 5), 48, .inl td)), ((bm 8), .inl ((km 8), 279, .inl (o_18))), ((bm 11), .inl ((km 11), 98, .inl (o_11)))] := hD.sub [2, 0, 1, 3, 4] (by decide) rfl
            refine lv_iload_n hx hb dX10_ahead__74 rfl (lv_at hl 0 rfl) ?_
            obtain rfl := Option.some.inj hG
            have hP9 := hP.sub (ws' := [((bm 0), .inr (10, [.int th, .ref (bm 1), .int tn, .int at_, .int wr, .ref (bm 2), .ref (bm 3), .int rm_, .ref (bm 4), .ref (bm 5), .int mn, .ref (bm 6), .ref (bm 7), .int sn, .ref (bm 8), .ref (bm 9), .ref (bm 10), .int ac, .long dn, .ref (bm 11), .ref (bm 12), .ref (bm 13), .ref (bm 14), .int hi])), ((bm 4), .inl ((km 4), 8, .inl ru)), ((bm 5), .inl ((km 5), 48, .inl td)), ((bm 8), .inl ((km 8), 279, .inl (o_18))), ((bm 11), .inl ((km 11), 98, .inl (o_11)))]) [0, 1, 2, 3, 4] rfl
            have hD9 := hD.sub (ws' := [((bm 0), .inr (10, [.int th, .ref (bm 1), .int tn, .int at_, .int wr, .ref (bm 2), .ref (bm 3), .int rm_, .ref (bm 4), .ref (bm 5), .int mn, .ref (bm 6), .ref (bm 7), .int sn, .ref (bm 8), .ref (bm 9), .ref (bm 10), .int ac, .long dn, .ref (bm 11), .ref (bm 12), .ref (bm 13), .ref (bm 14), .int hi])), ((bm 4), .inl ((km 4), 8, .inl ru)), ((bm 5), .inl ((km 5), 48, .inl td)), ((bm 8), .inl ((km 8), 279, .inl (o_18))), ((bm 11), .inl ((km 11), 98, .inl (o_11)))]) [0, 1, 2, 3, 4] (by decide) rfl
            have hK9 := hK.sub (tys' := [((km 4), .int), ((km 5), .int), ((km 8), .int), ((km 11), .int)]) [0, 1, 2, 3] rfl
            exact W.iret (v := o_16) hx hb hr (fun t ht hW => ⟨⟨o_16, (), rfl, ⟨rfl, trivial⟩, by rw [ht]; exact hP9, va_K.moved hW.alike hK9, hD9⟩, hS.F ht⟩) hS.2.2 dX10_ahead__75
          · have hG := q_ifp c_15 hG
            refine lv_bipush (v := 6) hx hb dX10_ahead__59 (by decide) ?_
            refine lv_goto (tgt := 66) hx hb dX10_ahead__61 (by decide) ?_
            obtain ⟨o_20, r_21, hG⟩ := q_bi hG
            refine q_goi (v := o_20) (va_runV (As := [.int 6]) (rest := []) ⟨hx, hb, hml, hown, hts⟩ (c_X10_those l dC dI bm km th tn at_ wr rm_ mn sn ac hi dn (o_13.2) 6 o_20 r_21) (cwV 1 hts (q_gV m_1018 m_1019 m_1020 m_5 m_1021) rfl rfl rfl hdV_yX10_those_1 ⟨Nat.le_of_ble_eq_true rfl, Nat.le_of_ble_eq_true rfl⟩) (q_preV hK hP (q := (RX10, TX10, 24)) (ci := 10) (q0 := 0) rfl rfl [0, 3] rfl [2] rfl) rfl rfl hl.1 rfl (lv_room (Nat.le_of_ble_eq_true rfl)) dX10_ahead__66 ⟨Nat.le_of_ble_eq_true rfl, Nat.le_of_ble_eq_true rfl⟩) hP hS (fun H locs hP hS => ?_)
            refine lv_istore_n (lv' := [(3, .int o_20), (0, .ref (bm 0)), (1, .int z1), (2, .int z2)]) hx hb dX10_ahead__69 rfl hl (by decide) rfl (fun ls hl => ?_)
            refine lv_aload_n hx hb dX10_ahead__70 rfl (lv_at hl 1 rfl) ?_
            obtain ⟨o_22, r_23, hG⟩ := q_bi hG
            refine q_gov2 (wr := [((bm 4), .inl ((km 4), 8, .inl ru)), ((bm 5), .inl ((km 5), 48, .inl td))]) (va_runV (As := []) (rest := []) ⟨hx, hb, hml, hown, hts⟩ (c_X10_bringBack l dC dI bm km th tn at_ wr rm_ mn sn ac hi dn (o_13.2) (o_11) (va_A [((bm 0), .inr (10, [.int th, .ref (bm 1), .int tn, .int at_, .int wr, .ref (bm 2), .ref (bm 3), .int rm_, .ref (bm 4), .ref (bm 5), .int mn, .ref (bm 6), .ref (bm 7), .int sn, .ref (bm 8), .ref (bm 9), .ref (bm 10), .int ac, .long dn, .ref (bm 11), .ref (bm 12), .ref (bm 13), .ref (bm 14), .int hi])), ((bm 8), .inl ((km 8), 279, .inl (o_13.2))), ((bm 11), .inl ((km 11), 98, .inl (o_11)))] H.size) o_22 r_23) (cwV 0 hts (q_gV m_1199 m_1200 m_1201 m_5 m_1202) rfl rfl rfl hdV_yX10_bringBack_0 ⟨Nat.le_of_ble_eq_true rfl, Nat.le_of_ble_eq_true rfl⟩) (q_preWV hK hP hD (q := (RX10, TX10, 24)) (ci := 10) (q0 := 0) rfl rfl [0, 3, 4] (by decide) rfl rfl [2, 3] rfl) rfl rfl hl.1 rfl (lv_room (Nat.le_of_ble_eq_true rfl)) dX10_ahead__71 ⟨Nat.le_of_ble_eq_true rfl, Nat.le_of_ble_eq_true rfl⟩) hK hP hD hS hA [0, 3, 4] [1, 2] rfl rfl (by decide) (by decide) (fun _ H locs _ hP hD hK9 hS => ?_)
            have hP : va_P (dC, dI) vwCl [((bm 0), .inr (10, [.int th, .ref (bm 1), .int tn, .int at_, .int wr, .ref (bm 2), .ref (bm 3), .int rm_, .ref (bm 4), .ref (bm 5), .int mn, .ref (bm 6), .ref (bm 7), .int sn, .ref (bm 8), .ref (bm 9), .ref (bm 10), .int ac, .long dn, .ref (bm 11), .ref (bm 12), .ref (bm 13), .ref (bm 14), .int hi])), ((bm 4), .inl ((km 4), 8, .inl ru)), ((bm 5), .inl ((km 5), 48, .inl td)), ((bm 8), .inl ((km 8), 279, .inl (o_22))), ((bm 11), .inl ((km 11), 98, .inl (o_11)))] H := hP.sub [2, 0, 1, 3, 4] rfl
            have hD : va_D A [((bm 0), .inr (10, [.int th, .ref (bm 1), .int tn, .int at_, .int wr, .ref (bm 2), .ref (bm 3), .int rm_, .ref (bm 4), .ref (bm 5), .int mn, .ref (bm 6), .ref (bm 7), .int sn, .ref (bm 8), .ref (bm 9), .ref (bm 10), .int ac, .long dn, .ref (bm 11), .ref (bm 12), .ref (bm 13), .ref (bm 14), .int hi])), ((bm 4), .inl ((km 4), 8, .inl ru)), ((bm 5), .inl ((km 5), 48, .inl td)), ((bm 8), .inl ((km 8), 279, .inl (o_22))), ((bm 11), .inl ((km 11), 98, .inl (o_11)))] := hD.sub [2, 0, 1, 3, 4] (by decide) rfl
            refine lv_iload_n hx hb dX10_ahead__74 rfl (lv_at hl 0 rfl) ?_
            obtain rfl := Option.some.inj hG
            have hP9 := hP.sub (ws' := [((bm 0), .inr (10, [.int th, .ref (bm 1), .int tn, .int at_, .int wr, .ref (bm 2), .ref (bm 3), .int rm_, .ref (bm 4), .ref (bm 5), .int mn, .ref (bm 6), .ref (bm 7), .int sn, .ref (bm 8), .ref (bm 9), .ref (bm 10), .int ac, .long dn, .ref (bm 11), .ref (bm 12), .ref (bm 13), .ref (bm 14), .int hi])), ((bm 4), .inl ((km 4), 8, .inl ru)), ((bm 5), .inl ((km 5), 48, .inl td)), ((bm 8), .inl ((km 8), 279, .inl (o_22))), ((bm 11), .inl ((km 11), 98, .inl (o_11)))]) [0, 1, 2, 3, 4] rfl
            have hD9 := hD.sub (ws' := [((bm 0), .inr (10, [.int th, .ref (bm 1), .int tn, .int at_, .int wr, .ref (bm 2), .ref (bm 3), .int rm_, .ref (bm 4), .ref (bm 5), .int mn, .ref (bm 6), .ref (bm 7), .int sn, .ref (bm 8), .ref (bm 9), .ref (bm 10), .int ac, .long dn, .ref (bm 11), .ref (bm 12), .ref (bm 13), .ref (bm 14), .int hi])), ((bm 4), .inl ((km 4), 8, .inl ru)), ((bm 5), .inl ((km 5), 48, .inl td)), ((bm 8), .inl ((km 8), 279, .inl (o_22))), ((bm 11), .inl ((km 11), 98, .inl (o_11)))]) [0, 1, 2, 3, 4] (by decide) rfl
            have hK9 := hK.sub (tys' := [((km 4), .int), ((km 5), .int), ((km 8), .int), ((km 11), .int)]) [0, 1, 2, 3] rfl
            exact W.iret (v := o_20) hx hb hr (fun t ht hW => ⟨⟨o_20, (), rfl, ⟨rfl, trivial⟩, by rw [ht]; exact hP9, va_K.moved hW.alike hK9, hD9⟩, hS.F ht⟩) hS.2.2 dX10_ahead__75
        · have hG := q_ifn c_10 hG
          refine lv_iconst (v := (-1)) hx hb dX10_ahead__42 (by decide) ?_
          obtain rfl := Option.some.inj hG
          have hP9 := hP.sub (ws' := [((bm 0), .inr (10, [.int th, .ref (bm 1), .int tn, .int at_, .int wr, .ref (bm 2), .ref (bm 3), .int rm_, .ref (bm 4), .ref (bm 5), .int mn, .ref (bm 6), .ref (bm 7), .int sn, .ref (bm 8), .ref (bm 9), .ref (bm 10), .int ac, .long dn, .ref (bm 11), .ref (bm 12), .ref (bm 13), .ref (bm 14), .int hi])), ((bm 4), .inl ((km 4), 8, .inl ru)), ((bm 5), .inl ((km 5), 48, .inl td)), ((bm 8), .inl ((km 8), 279, .inl nw)), ((bm 11), .inl ((km 11), 98, .inl as_))]) [0, 1, 2, 3, 4] rfl
          have hD9 := hD.sub (ws' := [((bm 0), .inr (10, [.int th, .ref (bm 1), .int tn, .int at_, .int wr, .ref (bm 2), .ref (bm 3), .int rm_, .ref (bm 4), .ref (bm 5), .int mn, .ref (bm 6), .ref (bm 7), .int sn, .ref (bm 8), .ref (bm 9), .ref (bm 10), .int ac, .long dn, .ref (bm 11), .ref (bm 12), .ref (bm 13), .ref (bm 14), .int hi])), ((bm 4), .inl ((km 4), 8, .inl ru)), ((bm 5), .inl ((km 5), 48, .inl td)), ((bm 8), .inl ((km 8), 279, .inl nw)), ((bm 11), .inl ((km 11), 98, .inl as_))]) [0, 1, 2, 3, 4] (by decide) rfl
          have hK9 := hK.sub (tys' := [((km 4), .int), ((km 5), .int), ((km 8), .int), ((km 11), .int)]) [0, 1, 2, 3] rfl
          exact W.iret (v := (-1)) hx hb hr (fun t ht hW => ⟨⟨(-1), (), rfl, ⟨rfl, trivial⟩, by rw [ht]; exact hP9, va_K.moved hW.alike hK9, hD9⟩, hS.F ht⟩) hS.2.2 dX10_ahead__43

def FL_X10_isStill_32 (mn : Int32) (ru : Nat → Int32) (td : Nat → Int32) (nw : Nat → Int32) (bf : Nat → Int32) : Nat → Int32 → (Nat → Int32) → (Nat → Int32) → Option (Int32 × (Nat → Int32) × (Nat → Int32))
  | 0, _, _, _ => none
  | n + 1, x1_32, nw_c, bf_c => (if 98 ≤ x1_32 then some (1, nw_c, bf_c) else (if x1_32 = 96 then (FL_X10_isStill_32 mn ru td nw bf n (x1_32 + 1) nw_c bf_c) else (if x1_32 < 0 ∨ 98 ≤ (x1_32).toNatClampNeg then none else (if x1_32 < 0 ∨ 279 ≤ (x1_32).toNatClampNeg then none else (if (bf_c (x1_32).toNatClampNeg) = (nw_c (x1_32).toNatClampNeg) then (FL_X10_isStill_32 mn ru td nw bf n (x1_32 + 1) nw_c bf_c) else some (0, nw_c, bf_c))))))

def FL_X10_isStill_2 (mn : Int32) (ru : Nat → Int32) (td : Nat → Int32) (nw : Nat → Int32) (bf : Nat → Int32) : Nat → Int32 → (Nat → Int32) → (Nat → Int32) → Option (Int32 × (Nat → Int32) × (Nat → Int32))
  | 0, _, _, _ => none
  | n + 1, x1_2, nw_c, bf_c => (if 98 ≤ x1_2 then ((F_X10_tickNow mn ru td nw_c).bind fun o_2 => (FL_X10_isStill_32 mn ru td nw bf 1000 0 (o_2) bf_c)) else (if x1_2 < 0 ∨ 279 ≤ (x1_2).toNatClampNeg then none else (if x1_2 < 0 ∨ 98 ≤ (x1_2).toNatClampNeg then none else (FL_X10_isStill_2 mn ru td nw bf n (x1_2 + 1) nw_c (upd bf_c (x1_2).toNatClampNeg (nw_c (x1_2).toNatClampNeg))))))

def F_X10_isStill (mn : Int32) (ru : Nat → Int32) (td : Nat → Int32) (nw : Nat → Int32) (bf : Nat → Int32) : Option (Int32 × (Nat → Int32) × (Nat → Int32)) := (FL_X10_isStill_2 mn ru td nw bf 1000 0 nw bf)
set_option maxHeartbeats 4000000 in
set_option maxRecDepth 100000 in
theorem c_X10_isStill (l : Launch) (dC : Nat → ClassId) (dI : Nat → Nat → Nat) (bm : Nat → Nat) (km : Nat → ClassId) (th : Int32) (tn : Int32) (at_ : Int32) (wr : Int32) (rm_ : Int32) (mn : Int32) (sn : Int32) (ac : Int32) (hi : Int32) (dn : Int64) (ru : Nat → Int32) (td : Nat → Int32) (nw : Nat → Int32) (bf : Nat → Int32) (A : Nat → Prop) (o : Int32 × (Nat → Int32) × (Nat → Int32)) (hG : F_X10_isStill mn ru td nw bf = some o) : Met l yX10_isStill (.code yX10_isStill cX10_isStill 2 (some .boolean) :: wA) ({ frames := 8, cells := 0, slots := 0, locals := 177 }) (va_Pc [.ref (bm 0)] (q_W (dC, dI) A [((bm 0), .inr (10, [.int th, .ref (bm 1), .int tn, .int at_, .int wr, .ref (bm 2), .ref (bm 3), .int rm_, .ref (bm 4), .ref (bm 5), .int mn, .ref (bm 6), .ref (bm 7), .int sn, .ref (bm 8), .ref (bm 9), .ref (bm 10), .int ac, .long dn, .ref (bm 11), .ref (bm 12), .ref (bm 13), .ref (bm 14), .int hi])), ((bm 4), .inl ((km 4), 8, .inl ru)), ((bm 5), .inl ((km 5), 48, .inl td)), ((bm 8), .inl ((km 8), 279, .inl nw)), ((bm 12), .inl ((km 12), 98, .inl bf))] [((km 4), .int), ((km 5), .int), ((km 8), .int), ((km 12), .int)])) (va_Qi (fun (r : Int32) (_ : Unit) => r = o.1 ∧ True) (fun (_ : Unit) t => q_B (dC, dI) A [((bm 0), .inr (10, [.int th, .ref (bm 1), .int tn, .int at_, .int wr, .ref (bm 2), .ref (bm 3), .int rm_, .ref (bm 4), .ref (bm 5), .int mn, .ref (bm 6), .ref (bm 7), .int sn, .ref (bm 8), .ref (bm 9), .ref (bm 10), .int ac, .long dn, .ref (bm 11), .ref (bm 12), .ref (bm 13), .ref (bm 14), .int hi])), ((bm 4), .inl ((km 4), 8, .inl ru)), ((bm 5), .inl ((km 5), 48, .inl td)), ((bm 8), .inl ((km 8), 279, .inl (o.2.1))), ((bm 12), .inl ((km 12), 98, .inl (o.2.2)))] [((km 4), .int), ((km 5), .int), ((km 8), .int), ((km 12), .int)] t) A) 0 0 A := by
  refine Met.ofW (cc := cX10_isStill) (maxL := 2) (ret := (some .boolean)) (by decide) rfl ?_
  intro p e s m args below meth c s₁ B hml hv
  obtain ⟨rfl, hP, hK, hD, hA⟩ := hv
  have hx := B.exec
  have hb := B.bytes
  have hr := B.returns
  have hts := atoms_spec (ws := .code yX10_isStill cX10_isStill 2 (some .boolean) :: wA) B.pre
  have hown : s.vm.findClass RX10 = some m.cls := findClass_of_methodNamed B.named
  have hlocks := B.notSynchronized
  have hS : va_S A s.heap s.heap [] := va_S.rf
  have hl := lv_entry ([.ref (bm 0)]) (n := 2) (Nat.le_of_ble_eq_true rfl)
  rw [lg_entry_eq]
  generalize (lg_sl ([.ref (bm 0)]) ++ List.replicate (2 - (lg_sl ([.ref (bm 0)])).length) Slot.unset).toArray = ls at hl ⊢
  have hl : lv_has ls 2 [(0, .ref (bm 0))] := hl
  unfold F_X10_isStill at hG
  refine lv_iconst (v := 0) hx hb dX10_isStill_0 (by decide) ?_
  refine lv_istore_n (lv' := [(1, .int 0), (0, .ref (bm 0))]) hx hb dX10_isStill_1 rfl hl (by decide) rfl (fun ls hl => ?_)
  have L_2 : ∀ (n_2 : Nat) (x1_2 : Int32) (nw_c : Nat → Int32) (bf_c : Nat → Int32) (H : Heap) (locs : List Loc) (ls : Array Slot), FL_X10_isStill_2 mn ru td nw bf n_2 x1_2 nw_c bf_c = some o → va_P (dC, dI) vwCl [((bm 0), .inr (10, [.int th, .ref (bm 1), .int tn, .int at_, .int wr, .ref (bm 2), .ref (bm 3), .int rm_, .ref (bm 4), .ref (bm 5), .int mn, .ref (bm 6), .ref (bm 7), .int sn, .ref (bm 8), .ref (bm 9), .ref (bm 10), .int ac, .long dn, .ref (bm 11), .ref (bm 12), .ref (bm 13), .ref (bm 14), .int hi])), ((bm 4), .inl ((km 4), 8, .inl ru)), ((bm 5), .inl ((km 5), 48, .inl td)), ((bm 8), .inl ((km 8), 279, .inl nw_c)), ((bm 12), .inl ((km 12), 98, .inl bf_c))] H → va_D A [((bm 0), .inr (10, [.int th, .ref (bm 1), .int tn, .int at_, .int wr, .ref (bm 2), .ref (bm 3), .int rm_, .ref (bm 4), .ref (bm 5), .int mn, .ref (bm 6), .ref (bm 7), .int sn, .ref (bm 8), .ref (bm 9), .ref (bm 10), .int ac, .long dn, .ref (bm 11), .ref (bm 12), .ref (bm 13), .ref (bm 14), .int hi])), ((bm 4), .inl ((km 4), 8, .inl ru)), ((bm 5), .inl ((km 5), 48, .inl td)), ((bm 8), .inl ((km 8), 279, .inl nw_c)), ((bm 12), .inl ((km 12), 98, .inl bf_c))] → va_S A s.heap H locs → lv_has ls 2 [(1, .int x1_2), (0, .ref (bm 0))] → W p l e (headSpec (.code yX10_isStill cX10_isStill 2 (some .boolean) :: wA) ({ frames := 8, cells := 0, slots := 0, locals := 177 })).room s m #[.ref (bm 0)] below meth c H locs 0 0 (MQ below (va_Qi (fun (r : Int32) (_ : Unit) => r = o.1 ∧ True) (fun (_ : Unit) t => q_B (dC, dI) A [((bm 0), .inr (10, [.int th, .ref (bm 1), .int tn, .int at_, .int wr, .ref (bm 2), .ref (bm 3), .int rm_, .ref (bm 4), .ref (bm 5), .int mn, .ref (bm 6), .ref (bm 7), .int sn, .ref (bm 8), .ref (bm 9), .ref (bm 10), .int ac, .long dn, .ref (bm 11), .ref (bm 12), .ref (bm 13), .ref (bm 14), .int hi])), ((bm 4), .inl ((km 4), 8, .inl ru)), ((bm 5), .inl ((km 5), 48, .inl td)), ((bm 8), .inl ((km 8), 279, .inl (o.2.1))), ((bm 12), .inl ((km 12), 98, .inl (o.2.2)))] [((km 4), .int), ((km 5), .int), ((km 8), .int), ((km 12), .int)] t) A) #[.ref (bm 0)] s 0 0 A) (F0 m 2 ls []) := by
    intro n_2
    induction n_2 with
    | zero =>
      intro x1_2 nw_c bf_c H locs ls hG
      exact q_no hG
    | succ n_2 ih_2 =>
      intro x1_2 nw_c bf_c H locs ls hG hP hD hS hl
      unfold FL_X10_isStill_2 at hG
      refine lv_iload_n hx hb dX10_isStill_2 rfl (lv_at hl 0 rfl) ?_
      refine lv_bipush (v := 98) hx hb dX10_isStill_3 (by decide) ?_
      refine lv_icmp_ge (tgt := 26) hx hb dX10_isStill_5 (by decide) (fun c_1 => ?_) (fun c_1 => ?_)
      · have hG := q_ifp c_1 hG
        refine lv_aload_n hx hb dX10_isStill_26 rfl (lv_at hl 1 rfl) ?_
        obtain ⟨o_2, r_3, hG⟩ := q_bi hG
        refine q_gov2 (wr := [((bm 12), .inl ((km 12), 98, .inl bf_c))]) (va_runV (As := []) (rest := []) ⟨hx, hb, hml, hown, hts⟩ (c_X10_tickNow l dC dI bm km th tn at_ wr rm_ mn sn ac hi dn ru td nw_c (va_A [((bm 0), .inr (10, [.int th, .ref (bm 1), .int tn, .int at_, .int wr, .ref (bm 2), .ref (bm 3), .int rm_, .ref (bm 4), .ref (bm 5), .int mn, .ref (bm 6), .ref (bm 7), .int sn, .ref (bm 8), .ref (bm 9), .ref (bm 10), .int ac, .long dn, .ref (bm 11), .ref (bm 12), .ref (bm 13), .ref (bm 14), .int hi])), ((bm 4), .inl ((km 4), 8, .inl ru)), ((bm 5), .inl ((km 5), 48, .inl td)), ((bm 8), .inl ((km 8), 279, .inl nw_c))] H.size) o_2 r_3) (cwV 0 hts (q_gV m_957 m_958 m_959 m_5 m_960) rfl rfl rfl hdV_yX10_tickNow_0 ⟨Nat.le_of_ble_eq_true rfl, Nat.le_of_ble_eq_true rfl⟩) (q_preWV hK hP hD (q := (RX10, TX10, 24)) (ci := 10) (q0 := 0) rfl rfl [0, 1, 2, 3] (by decide) rfl rfl [0, 1, 2] rfl) rfl rfl hl.1 rfl (lv_room (Nat.le_of_ble_eq_true rfl)) dX10_isStill_27 ⟨Nat.le_of_ble_eq_true rfl, Nat.le_of_ble_eq_true rfl⟩) hK hP hD hS hA [0, 1, 2, 3] [4] rfl rfl (by decide) (by decide) (fun _ H locs _ hP hD hK9 hS => ?_)
        have hP : va_P (dC, dI) vwCl [((bm 0), .inr (10, [.int th, .ref (bm 1), .int tn, .int at_, .int wr, .ref (bm 2), .ref (bm 3), .int rm_, .ref (bm 4), .ref (bm 5), .int mn, .ref (bm 6), .ref (bm 7), .int sn, .ref (bm 8), .ref (bm 9), .ref (bm 10), .int ac, .long dn, .ref (bm 11), .ref (bm 12), .ref (bm 13), .ref (bm 14), .int hi])), ((bm 4), .inl ((km 4), 8, .inl ru)), ((bm 5), .inl ((km 5), 48, .inl td)), ((bm 8), .inl ((km 8), 279, .inl (o_2))), ((bm 12), .inl ((km 12), 98, .inl bf_c))] H := hP.sub [1, 2, 3, 4, 0] rfl
        have hD : va_D A [((bm 0), .inr (10, [.int th, .ref (bm 1), .int tn, .int at_, .int wr, .ref (bm 2), .ref (bm 3), .int rm_, .ref (bm 4), .ref (bm 5), .int mn, .ref (bm 6), .ref (bm 7), .int sn, .ref (bm 8), .ref (bm 9), .ref (bm 10), .int ac, .long dn, .ref (bm 11), .ref (bm 12), .ref (bm 13), .ref (bm 14), .int hi])), ((bm 4), .inl ((km 4), 8, .inl ru)), ((bm 5), .inl ((km 5), 48, .inl td)), ((bm 8), .inl ((km 8), 279, .inl (o_2))), ((bm 12), .inl ((km 12), 98, .inl bf_c))] := hD.sub [1, 2, 3, 4, 0] (by decide) rfl
        refine lv_iconst (v := 0) hx hb dX10_isStill_30 (by decide) ?_
        refine lv_istore_n (lv' := [(1, .int 0), (0, .ref (bm 0))]) hx hb dX10_isStill_31 rfl hl (by decide) rfl (fun ls hl => ?_)
        have L_32 : ∀ (n_32 : Nat) (x1_32 : Int32) (nw_c : Nat → Int32) (bf_c : Nat → Int32) (H : Heap) (locs : List Loc) (ls : Array Slot), FL_X10_isStill_32 mn ru td nw bf n_32 x1_32 nw_c bf_c = some o → va_P (dC, dI) vwCl [((bm 0), .inr (10, [.int th, .ref (bm 1), .int tn, .int at_, .int wr, .ref (bm 2), .ref (bm 3), .int rm_, .ref (bm 4), .ref (bm 5), .int mn, .ref (bm 6), .ref (bm 7), .int sn, .ref (bm 8), .ref (bm 9), .ref (bm 10), .int ac, .long dn, .ref (bm 11), .ref (bm 12), .ref (bm 13), .ref (bm 14), .int hi])), ((bm 4), .inl ((km 4), 8, .inl ru)), ((bm 5), .inl ((km 5), 48, .inl td)), ((bm 8), .inl ((km 8), 279, .inl nw_c)), ((bm 12), .inl ((km 12), 98, .inl bf_c))] H → va_D A [((bm 0), .inr (10, [.int th, .ref (bm 1), .int tn, .int at_, .int wr, .ref (bm 2), .ref (bm 3), .int rm_, .ref (bm 4), .ref (bm 5), .int mn, .ref (bm 6), .ref (bm 7), .int sn, .ref (bm 8), .ref (bm 9), .ref (bm 10), .int ac, .long dn, .ref (bm 11), .ref (bm 12), .ref (bm 13), .ref (bm 14), .int hi])), ((bm 4), .inl ((km 4), 8, .inl ru)), ((bm 5), .inl ((km 5), 48, .inl td)), ((bm 8), .inl ((km 8), 279, .inl nw_c)), ((bm 12), .inl ((km 12), 98, .inl bf_c))] → va_S A s.heap H locs → lv_has ls 2 [(1, .int x1_32), (0, .ref (bm 0))] → W p l e (headSpec (.code yX10_isStill cX10_isStill 2 (some .boolean) :: wA) ({ frames := 8, cells := 0, slots := 0, locals := 177 })).room s m #[.ref (bm 0)] below meth c H locs 0 0 (MQ below (va_Qi (fun (r : Int32) (_ : Unit) => r = o.1 ∧ True) (fun (_ : Unit) t => q_B (dC, dI) A [((bm 0), .inr (10, [.int th, .ref (bm 1), .int tn, .int at_, .int wr, .ref (bm 2), .ref (bm 3), .int rm_, .ref (bm 4), .ref (bm 5), .int mn, .ref (bm 6), .ref (bm 7), .int sn, .ref (bm 8), .ref (bm 9), .ref (bm 10), .int ac, .long dn, .ref (bm 11), .ref (bm 12), .ref (bm 13), .ref (bm 14), .int hi])), ((bm 4), .inl ((km 4), 8, .inl ru)), ((bm 5), .inl ((km 5), 48, .inl td)), ((bm 8), .inl ((km 8), 279, .inl (o.2.1))), ((bm 12), .inl ((km 12), 98, .inl (o.2.2)))] [((km 4), .int), ((km 5), .int), ((km 8), .int), ((km 12), .int)] t) A) #[.ref (bm 0)] s 0 0 A) (F0 m 32 ls []) := by
          intro n_32
          induction n_32 with
          | zero =>
            intro x1_32 nw_c bf_c H locs ls hG
            exact q_no hG
          | succ n_32 ih_32 =>
            intro x1_32 nw_c bf_c H locs ls hG hP hD hS hl
            unfold FL_X10_isStill_32 at hG
            refine lv_iload_n hx hb dX10_isStill_32 rfl (lv_at hl 0 rfl) ?_
            refine lv_bipush (v := 98) hx hb dX10_isStill_33 (by decide) ?_
            refine lv_icmp_ge (tgt := 67) hx hb dX10_isStill_35 (by decide) (fun c_4 => ?_) (fun c_4 => ?_)
            · have hG := q_ifp c_4 hG
              refine lv_iconst (v := 1) hx hb dX10_isStill_67 (by decide) ?_
              obtain rfl := Option.some.inj hG
              have hP9 := hP.sub (ws' := [((bm 0), .inr (10, [.int th, .ref (bm 1), .int tn, .int at_, .int wr, .ref (bm 2), .ref (bm 3), .int rm_, .ref (bm 4), .ref (bm 5), .int mn, .ref (bm 6), .ref (bm 7), .int sn, .ref (bm 8), .ref (bm 9), .ref (bm 10), .int ac, .long dn, .ref (bm 11), .ref (bm 12), .ref (bm 13), .ref (bm 14), .int hi])), ((bm 4), .inl ((km 4), 8, .inl ru)), ((bm 5), .inl ((km 5), 48, .inl td)), ((bm 8), .inl ((km 8), 279, .inl nw_c)), ((bm 12), .inl ((km 12), 98, .inl bf_c))]) [0, 1, 2, 3, 4] rfl
              have hD9 := hD.sub (ws' := [((bm 0), .inr (10, [.int th, .ref (bm 1), .int tn, .int at_, .int wr, .ref (bm 2), .ref (bm 3), .int rm_, .ref (bm 4), .ref (bm 5), .int mn, .ref (bm 6), .ref (bm 7), .int sn, .ref (bm 8), .ref (bm 9), .ref (bm 10), .int ac, .long dn, .ref (bm 11), .ref (bm 12), .ref (bm 13), .ref (bm 14), .int hi])), ((bm 4), .inl ((km 4), 8, .inl ru)), ((bm 5), .inl ((km 5), 48, .inl td)), ((bm 8), .inl ((km 8), 279, .inl nw_c)), ((bm 12), .inl ((km 12), 98, .inl bf_c))]) [0, 1, 2, 3, 4] (by decide) rfl
              have hK9 := hK.sub (tys' := [((km 4), .int), ((km 5), .int), ((km 8), .int), ((km 12), .int)]) [0, 1, 2, 3] rfl
              exact W.zret (v := 1) hx hb hr rfl (fun t ht hW => ⟨⟨1, (), rfl, ⟨rfl, trivial⟩, by rw [ht]; exact hP9, va_K.moved hW.alike hK9, hD9⟩, hS.F ht⟩) hS.2.2 dX10_isStill_68
            · have hG := q_ifn c_4 hG
              refine lv_iload_n hx hb dX10_isStill_38 rfl (lv_at hl 0 rfl) ?_
              refine lv_bipush (v := 96) hx hb dX10_isStill_39 (by decide) ?_
              refine lv_icmp_eq (tgt := 61) hx hb dX10_isStill_41 (by decide) (fun c_5 => ?_) (fun c_5 => ?_)
              · have hG := q_ifp c_5 hG
                refine lv_iinc (v := (x1_32 + 1)) (lv' := [(1, .int (x1_32 + 1)), (0, .ref (bm 0))]) hx hb dX10_isStill_61 hl (k := 0) rfl (rfl) (by decide) rfl (fun ls hl => ?_)
                refine lv_goto (tgt := 32) hx hb dX10_isStill_64 (by decide) ?_
                exact ih_32 (x1_32 + 1) nw_c bf_c H locs ls hG hP hD hS (lv_sub hl [0, 1] rfl)
              · have hG := q_ifn c_5 hG
                refine lv_aload_n hx hb dX10_isStill_44 rfl (lv_at hl 1 rfl) ?_
                refine va_get (D := (dC, dI)) (ci := 10) (v := .ref (bm 12)) (C := RX10) (T := TX10) (N := 24) hx hb hts iA_10 hown hK hP 0 rfl rfl 20 (by decide) (hts (.fieldLink RX10 43 "HubTreeModel" "before" "[I") (List.mem_cons_of_mem _ m_126)) (fun _ h9 => h9) rfl dX10_isStill_45 ?_
                refine lv_iload_n hx hb dX10_isStill_48 rfl (lv_at hl 0 rfl) ?_
                obtain ⟨h_6, hG⟩ := q_ix hG
                refine va_iald hx hb hK hP 4 3 rfl rfl (i := x1_32) h_6 dX10_isStill_49 ?_
                refine q_top (y := (bf_c (x1_32).toNatClampNeg)) rfl ?_
                refine lv_aload_n hx hb dX10_isStill_50 rfl (lv_at hl 1 rfl) ?_
                refine va_get (D := (dC, dI)) (ci := 10) (v := .ref (bm 8)) (C := RX10) (T := TX10) (N := 24) hx hb hts iA_10 hown hK hP 0 rfl rfl 14 (by decide) (hts (.fieldLink RX10 31 "HubTreeModel" "now" "[I") (List.mem_cons_of_mem _ m_122)) (fun _ h9 => h9) rfl dX10_isStill_51 ?_
                refine lv_iload_n hx hb dX10_isStill_54 rfl (lv_at hl 0 rfl) ?_
                obtain ⟨h_7, hG⟩ := q_ix hG
                refine va_iald hx hb hK hP 3 2 rfl rfl (i := x1_32) h_7 dX10_isStill_55 ?_
                refine q_top (y := (nw_c (x1_32).toNatClampNeg)) rfl ?_
                refine lv_icmp_eq (tgt := 61) hx hb dX10_isStill_56 (by decide) (fun c_8 => ?_) (fun c_8 => ?_)
                · have hG := q_ifp c_8 hG
                  refine lv_iinc (v := (x1_32 + 1)) (lv' := [(1, .int (x1_32 + 1)), (0, .ref (bm 0))]) hx hb dX10_isStill_61 hl (k := 0) rfl (rfl) (by decide) rfl (fun ls hl => ?_)
                  refine lv_goto (tgt := 32) hx hb dX10_isStill_64 (by decide) ?_
                  exact ih_32 (x1_32 + 1) nw_c bf_c H locs ls hG hP hD hS (lv_sub hl [0, 1] rfl)
                · have hG := q_ifn c_8 hG
                  refine lv_iconst (v := 0) hx hb dX10_isStill_59 (by decide) ?_
                  obtain rfl := Option.some.inj hG
                  have hP9 := hP.sub (ws' := [((bm 0), .inr (10, [.int th, .ref (bm 1), .int tn, .int at_, .int wr, .ref (bm 2), .ref (bm 3), .int rm_, .ref (bm 4), .ref (bm 5), .int mn, .ref (bm 6), .ref (bm 7), .int sn, .ref (bm 8), .ref (bm 9), .ref (bm 10), .int ac, .long dn, .ref (bm 11), .ref (bm 12), .ref (bm 13), .ref (bm 14), .int hi])), ((bm 4), .inl ((km 4), 8, .inl ru)), ((bm 5), .inl ((km 5), 48, .inl td)), ((bm 8), .inl ((km 8), 279, .inl nw_c)), ((bm 12), .inl ((km 12), 98, .inl bf_c))]) [0, 1, 2, 3, 4] rfl
                  have hD9 := hD.sub (ws' := [((bm 0), .inr (10, [.int th, .ref (bm 1), .int tn, .int at_, .int wr, .ref (bm 2), .ref (bm 3), .int rm_, .ref (bm 4), .ref (bm 5), .int mn, .ref (bm 6), .ref (bm 7), .int sn, .ref (bm 8), .ref (bm 9), .ref (bm 10), .int ac, .long dn, .ref (bm 11), .ref (bm 12), .ref (bm 13), .ref (bm 14), .int hi])), ((bm 4), .inl ((km 4), 8, .inl ru)), ((bm 5), .inl ((km 5), 48, .inl td)), ((bm 8), .inl ((km 8), 279, .inl nw_c)), ((bm 12), .inl ((km 12), 98, .inl bf_c))]) [0, 1, 2, 3, 4] (by decide) rfl
                  have hK9 := hK.sub (tys' := [((km 4), .int), ((km 5), .int), ((km 8), .int), ((km 12), .int)]) [0, 1, 2, 3] rfl
                  exact W.zret (v := 0) hx hb hr rfl (fun t ht hW => ⟨⟨0, (), rfl, ⟨rfl, trivial⟩, by rw [ht]; exact hP9, va_K.moved hW.alike hK9, hD9⟩, hS.F ht⟩) hS.2.2 dX10_isStill_60
        exact L_32 1000 0 (o_2) bf_c H locs ls hG hP hD hS hl
      · have hG := q_ifn c_1 hG
        refine lv_aload_n hx hb dX10_isStill_8 rfl (lv_at hl 1 rfl) ?_
        refine va_get (D := (dC, dI)) (ci := 10) (v := .ref (bm 12)) (C := RX10) (T := TX10) (N := 24) hx hb hts iA_10 hown hK hP 0 rfl rfl 20 (by decide) (hts (.fieldLink RX10 43 "HubTreeModel" "before" "[I") (List.mem_cons_of_mem _ m_126)) (fun _ h9 => h9) rfl dX10_isStill_9 ?_
        refine lv_iload_n hx hb dX10_isStill_12 rfl (lv_at hl 0 rfl) ?_
        refine lv_aload_n hx hb dX10_isStill_13 rfl (lv_at hl 1 rfl) ?_
        refine va_get (D := (dC, dI)) (ci := 10) (v := .ref (bm 8)) (C := RX10) (T := TX10) (N := 24) hx hb hts iA_10 hown hK hP 0 rfl rfl 14 (by decide) (hts (.fieldLink RX10 31 "HubTreeModel" "now" "[I") (List.mem_cons_of_mem _ m_122)) (fun _ h9 => h9) rfl dX10_isStill_14 ?_
        refine lv_iload_n hx hb dX10_isStill_17 rfl (lv_at hl 0 rfl) ?_
        obtain ⟨h_9, hG⟩ := q_ix hG
        refine va_iald hx hb hK hP 3 2 rfl rfl (i := x1_2) h_9 dX10_isStill_18 ?_
        refine q_top (y := (nw_c (x1_2).toNatClampNeg)) rfl ?_
        obtain ⟨h_10, hG⟩ := q_ix hG
        refine va_iast hx hb hK hP hD hS 4 3 rfl rfl (i := x1_2) (x := (nw_c (x1_2).toNatClampNeg)) h_10 dX10_isStill_19 (fun H locs hP hD hS => ?_)
        have hP : va_P (dC, dI) vwCl [((bm 0), .inr (10, [.int th, .ref (bm 1), .int tn, .int at_, .int wr, .ref (bm 2), .ref (bm 3), .int rm_, .ref (bm 4), .ref (bm 5), .int mn, .ref (bm 6), .ref (bm 7), .int sn, .ref (bm 8), .ref (bm 9), .ref (bm 10), .int ac, .long dn, .ref (bm 11), .ref (bm 12), .ref (bm 13), .ref (bm 14), .int hi])), ((bm 4), .inl ((km 4), 8, .inl ru)), ((bm 5), .inl ((km 5), 48, .inl td)), ((bm 8), .inl ((km 8), 279, .inl nw_c)), ((bm 12), .inl ((km 12), 98, .inl (upd bf_c (x1_2).toNatClampNeg (nw_c (x1_2).toNatClampNeg))))] H := hP
        have hD : va_D A [((bm 0), .inr (10, [.int th, .ref (bm 1), .int tn, .int at_, .int wr, .ref (bm 2), .ref (bm 3), .int rm_, .ref (bm 4), .ref (bm 5), .int mn, .ref (bm 6), .ref (bm 7), .int sn, .ref (bm 8), .ref (bm 9), .ref (bm 10), .int ac, .long dn, .ref (bm 11), .ref (bm 12), .ref (bm 13), .ref (bm 14), .int hi])), ((bm 4), .inl ((km 4), 8, .inl ru)), ((bm 5), .inl ((km 5), 48, .inl td)), ((bm 8), .inl ((km 8), 279, .inl nw_c)), ((bm 12), .inl ((km 12), 98, .inl (upd bf_c (x1_2).toNatClampNeg (nw_c (x1_2).toNatClampNeg))))] := hD
        refine lv_iinc (v := (x1_2 + 1)) (lv' := [(1, .int (x1_2 + 1)), (0, .ref (bm 0))]) hx hb dX10_isStill_20 hl (k := 0) rfl (rfl) (by decide) rfl (fun ls hl => ?_)
        refine lv_goto (tgt := 2) hx hb dX10_isStill_23 (by decide) ?_
        exact ih_2 (x1_2 + 1) nw_c (upd bf_c (x1_2).toNatClampNeg (nw_c (x1_2).toNatClampNeg)) H locs ls hG hP hD hS (lv_sub hl [0, 1] rfl)
  exact L_2 1000 0 nw bf s.heap [] ls hG hP hD hS hl

def FL_X10_last_17 (mn : Int32) (ru : Nat → Int32) (td : Nat → Int32) (nw : Nat → Int32) (as_ : Nat → Int32) (bf : Nat → Int32) : Nat → Int32 → Int32 → (Nat → Int32) → (Nat → Int32) → (Nat → Int32) → Option (Int32 × (Nat → Int32) × (Nat → Int32) × (Nat → Int32))
  | 0, _, _, _, _, _ => none
  | n + 1, x1_17, x2_17, nw_c, as__c, bf_c => (if 200 < x2_17 then ((F_X10_bringBack nw_c as__c).bind fun o_7 => some (x1_17, (o_7), as__c, bf_c)) else (if x1_17 = (-1) then (if 9999 < (nw_c 96) then ((F_X10_bringBack nw_c as__c).bind fun o_13 => some (x1_17, (o_13), as__c, bf_c)) else ((F_X10_isStill mn ru td nw_c bf_c).bind fun o_15 => (if o_15.1 = 0 then (FL_X10_last_17 mn ru td nw as_ bf n (-1) (x2_17 + 1) (o_15.2.1) as__c (o_15.2.2)) else (FL_X10_last_17 mn ru td nw as_ bf n x2_17 (x2_17 + 1) (o_15.2.1) as__c (o_15.2.2))))) else ((F_X10_bringBack nw_c as__c).bind fun o_10 => some (x1_17, (o_10), as__c, bf_c))))

def F_X10_last (mn : Int32) (ru : Nat → Int32) (td : Nat → Int32) (nw : Nat → Int32) (as_ : Nat → Int32) (bf : Nat → Int32) : Option (Int32 × (Nat → Int32) × (Nat → Int32) × (Nat → Int32)) := ((F_X10_isTree mn).bind fun o_1 => (if o_1 = 0 then some ((-1), nw, as_, bf) else ((F_X10_putAside nw as_).bind fun o_4 => (FL_X10_last_17 mn ru td nw as_ bf 1000 (-1) 0 nw (o_4) bf))))
set_option maxHeartbeats 4000000 in
set_option maxRecDepth 100000 in
theorem c_X10_last (l : Launch) (dC : Nat → ClassId) (dI : Nat → Nat → Nat) (bm : Nat → Nat) (km : Nat → ClassId) (th : Int32) (tn : Int32) (at_ : Int32) (wr : Int32) (rm_ : Int32) (mn : Int32) (sn : Int32) (ac : Int32) (hi : Int32) (dn : Int64) (ru : Nat → Int32) (td : Nat → Int32) (nw : Nat → Int32) (as_ : Nat → Int32) (bf : Nat → Int32) (A : Nat → Prop) (o : Int32 × (Nat → Int32) × (Nat → Int32) × (Nat → Int32)) (hG : F_X10_last mn ru td nw as_ bf = some o) : Met l yX10_last (.code yX10_last cX10_last 3 (some .int) :: wA) ({ frames := 9, cells := 0, slots := 0, locals := 198 }) (va_Pc [.ref (bm 0)] (q_W (dC, dI) A [((bm 0), .inr (10, [.int th, .ref (bm 1), .int tn, .int at_, .int wr, .ref (bm 2), .ref (bm 3), .int rm_, .ref (bm 4), .ref (bm 5), .int mn, .ref (bm 6), .ref (bm 7), .int sn, .ref (bm 8), .ref (bm 9), .ref (bm 10), .int ac, .long dn, .ref (bm 11), .ref (bm 12), .ref (bm 13), .ref (bm 14), .int hi])), ((bm 4), .inl ((km 4), 8, .inl ru)), ((bm 5), .inl ((km 5), 48, .inl td)), ((bm 8), .inl ((km 8), 279, .inl nw)), ((bm 11), .inl ((km 11), 98, .inl as_)), ((bm 12), .inl ((km 12), 98, .inl bf))] [((km 4), .int), ((km 5), .int), ((km 8), .int), ((km 11), .int), ((km 12), .int)])) (va_Qi (fun (r : Int32) (_ : Unit) => r = o.1 ∧ True) (fun (_ : Unit) t => q_B (dC, dI) A [((bm 0), .inr (10, [.int th, .ref (bm 1), .int tn, .int at_, .int wr, .ref (bm 2), .ref (bm 3), .int rm_, .ref (bm 4), .ref (bm 5), .int mn, .ref (bm 6), .ref (bm 7), .int sn, .ref (bm 8), .ref (bm 9), .ref (bm 10), .int ac, .long dn, .ref (bm 11), .ref (bm 12), .ref (bm 13), .ref (bm 14), .int hi])), ((bm 4), .inl ((km 4), 8, .inl ru)), ((bm 5), .inl ((km 5), 48, .inl td)), ((bm 8), .inl ((km 8), 279, .inl (o.2.1))), ((bm 11), .inl ((km 11), 98, .inl (o.2.2.1))), ((bm 12), .inl ((km 12), 98, .inl (o.2.2.2)))] [((km 4), .int), ((km 5), .int), ((km 8), .int), ((km 11), .int), ((km 12), .int)] t) A) 0 0 A := by
  refine Met.ofW (cc := cX10_last) (maxL := 3) (ret := (some .int)) (by decide) rfl ?_
  intro p e s m args below meth c s₁ B hml hv
  obtain ⟨rfl, hP, hK, hD, hA⟩ := hv
  have hx := B.exec
  have hb := B.bytes
  have hr := B.returns
  have hts := atoms_spec (ws := .code yX10_last cX10_last 3 (some .int) :: wA) B.pre
  have hown : s.vm.findClass RX10 = some m.cls := findClass_of_methodNamed B.named
  have hlocks := B.notSynchronized
  have hS : va_S A s.heap s.heap [] := va_S.rf
  have hl := lv_entry ([.ref (bm 0)]) (n := 3) (Nat.le_of_ble_eq_true rfl)
  rw [lg_entry_eq]
  generalize (lg_sl ([.ref (bm 0)]) ++ List.replicate (3 - (lg_sl ([.ref (bm 0)])).length) Slot.unset).toArray = ls at hl ⊢
  have hl : lv_has ls 3 [(0, .ref (bm 0))] := hl
  unfold F_X10_last at hG
  refine lv_aload_n hx hb dX10_last_0 rfl (lv_at hl 0 rfl) ?_
  obtain ⟨o_1, r_2, hG⟩ := q_bi hG
  refine q_goi (v := o_1) (va_runV (As := []) (rest := []) ⟨hx, hb, hml, hown, hts⟩ (c_X10_isTree l dC dI bm km th tn at_ wr rm_ mn sn ac hi dn o_1 r_2) (cwV 0 hts (q_gV m_454 m_455 m_456 m_5 m_457) rfl rfl rfl hdV_yX10_isTree_0 ⟨Nat.le_of_ble_eq_true rfl, Nat.le_of_ble_eq_true rfl⟩) (q_preV hK hP (q := (RX10, TX10, 24)) (ci := 10) (q0 := 0) rfl rfl [0] rfl [] rfl) rfl rfl hl.1 rfl (lv_room (Nat.le_of_ble_eq_true rfl)) dX10_last_1 ⟨Nat.le_of_ble_eq_true rfl, Nat.le_of_ble_eq_true rfl⟩) hP hS (fun H locs hP hS => ?_)
  refine lv_if_ne (tgt := 9) hx hb dX10_last_4 (by decide) (fun c_3 => ?_) (fun c_3 => ?_)
  · have hG := q_ifn c_3 hG
    refine lv_aload_n hx hb dX10_last_9 rfl (lv_at hl 0 rfl) ?_
    obtain ⟨o_4, r_5, hG⟩ := q_bi hG
    refine q_gov2 (wr := [((bm 4), .inl ((km 4), 8, .inl ru)), ((bm 5), .inl ((km 5), 48, .inl td)), ((bm 12), .inl ((km 12), 98, .inl bf))]) (va_runV (As := []) (rest := []) ⟨hx, hb, hml, hown, hts⟩ (c_X10_putAside l dC dI bm km th tn at_ wr rm_ mn sn ac hi dn nw as_ (va_A [((bm 0), .inr (10, [.int th, .ref (bm 1), .int tn, .int at_, .int wr, .ref (bm 2), .ref (bm 3), .int rm_, .ref (bm 4), .ref (bm 5), .int mn, .ref (bm 6), .ref (bm 7), .int sn, .ref (bm 8), .ref (bm 9), .ref (bm 10), .int ac, .long dn, .ref (bm 11), .ref (bm 12), .ref (bm 13), .ref (bm 14), .int hi])), ((bm 8), .inl ((km 8), 279, .inl nw)), ((bm 11), .inl ((km 11), 98, .inl as_))] H.size) o_4 r_5) (cwV 0 hts (q_gV m_1191 m_1192 m_1193 m_5 m_1194) rfl rfl rfl hdV_yX10_putAside_0 ⟨Nat.le_of_ble_eq_true rfl, Nat.le_of_ble_eq_true rfl⟩) (q_preWV hK hP hD (q := (RX10, TX10, 24)) (ci := 10) (q0 := 0) rfl rfl [0, 3, 4] (by decide) rfl rfl [2, 3] rfl) rfl rfl hl.1 rfl (lv_room (Nat.le_of_ble_eq_true rfl)) dX10_last_10 ⟨Nat.le_of_ble_eq_true rfl, Nat.le_of_ble_eq_true rfl⟩) hK hP hD hS hA [0, 3, 4] [1, 2, 5] rfl rfl (by decide) (by decide) (fun _ H locs _ hP hD hK9 hS => ?_)
    have hP : va_P (dC, dI) vwCl [((bm 0), .inr (10, [.int th, .ref (bm 1), .int tn, .int at_, .int wr, .ref (bm 2), .ref (bm 3), .int rm_, .ref (bm 4), .ref (bm 5), .int mn, .ref (bm 6), .ref (bm 7), .int sn, .ref (bm 8), .ref (bm 9), .ref (bm 10), .int ac, .long dn, .ref (bm 11), .ref (bm 12), .ref (bm 13), .ref (bm 14), .int hi])), ((bm 4), .inl ((km 4), 8, .inl ru)), ((bm 5), .inl ((km 5), 48, .inl td)), ((bm 8), .inl ((km 8), 279, .inl nw)), ((bm 11), .inl ((km 11), 98, .inl (o_4))), ((bm 12), .inl ((km 12), 98, .inl bf))] H := hP.sub [3, 0, 1, 4, 5, 2] rfl
    have hD : va_D A [((bm 0), .inr (10, [.int th, .ref (bm 1), .int tn, .int at_, .int wr, .ref (bm 2), .ref (bm 3), .int rm_, .ref (bm 4), .ref (bm 5), .int mn, .ref (bm 6), .ref (bm 7), .int sn, .ref (bm 8), .ref (bm 9), .ref (bm 10), .int ac, .long dn, .ref (bm 11), .ref (bm 12), .ref (bm 13), .ref (bm 14), .int hi])), ((bm 4), .inl ((km 4), 8, .inl ru)), ((bm 5), .inl ((km 5), 48, .inl td)), ((bm 8), .inl ((km 8), 279, .inl nw)), ((bm 11), .inl ((km 11), 98, .inl (o_4))), ((bm 12), .inl ((km 12), 98, .inl bf))] := hD.sub [3, 0, 1, 4, 5, 2] (by decide) rfl
    refine lv_iconst (v := (-1)) hx hb dX10_last_13 (by decide) ?_
    refine lv_istore_n (lv' := [(1, .int (-1)), (0, .ref (bm 0))]) hx hb dX10_last_14 rfl hl (by decide) rfl (fun ls hl => ?_)
    refine lv_iconst (v := 0) hx hb dX10_last_15 (by decide) ?_
    refine lv_istore_n (lv' := [(2, .int 0), (1, .int (-1)), (0, .ref (bm 0))]) hx hb dX10_last_16 rfl hl (by decide) rfl (fun ls hl => ?_)
    have L_17 : ∀ (n_17 : Nat) (x1_17 : Int32) (x2_17 : Int32) (nw_c : Nat → Int32) (as__c : Nat → Int32) (bf_c : Nat → Int32) (H : Heap) (locs : List Loc) (ls : Array Slot), FL_X10_last_17 mn ru td nw as_ bf n_17 x1_17 x2_17 nw_c as__c bf_c = some o → va_P (dC, dI) vwCl [((bm 0), .inr (10, [.int th, .ref (bm 1), .int tn, .int at_, .int wr, .ref (bm 2), .ref (bm 3), .int rm_, .ref (bm 4), .ref (bm 5), .int mn, .ref (bm 6), .ref (bm 7), .int sn, .ref (bm 8), .ref (bm 9), .ref (bm 10), .int ac, .long dn, .ref (bm 11), .ref (bm 12), .ref (bm 13), .ref (bm 14), .int hi])), ((bm 4), .inl ((km 4), 8, .inl ru)), ((bm 5), .inl ((km 5), 48, .inl td)), ((bm 8), .inl ((km 8), 279, .inl nw_c)), ((bm 11), .inl ((km 11), 98, .inl as__c)), ((bm 12), .inl ((km 12), 98, .inl bf_c))] H → va_D A [((bm 0), .inr (10, [.int th, .ref (bm 1), .int tn, .int at_, .int wr, .ref (bm 2), .ref (bm 3), .int rm_, .ref (bm 4), .ref (bm 5), .int mn, .ref (bm 6), .ref (bm 7), .int sn, .ref (bm 8), .ref (bm 9), .ref (bm 10), .int ac, .long dn, .ref (bm 11), .ref (bm 12), .ref (bm 13), .ref (bm 14), .int hi])), ((bm 4), .inl ((km 4), 8, .inl ru)), ((bm 5), .inl ((km 5), 48, .inl td)), ((bm 8), .inl ((km 8), 279, .inl nw_c)), ((bm 11), .inl ((km 11), 98, .inl as__c)), ((bm 12), .inl ((km 12), 98, .inl bf_c))] → va_S A s.heap H locs → lv_has ls 3 [(2, .int x2_17), (1, .int x1_17), (0, .ref (bm 0))] → W p l e (headSpec (.code yX10_last cX10_last 3 (some .int) :: wA) ({ frames := 9, cells := 0, slots := 0, locals := 198 })).room s m #[.ref (bm 0)] below meth c H locs 0 0 (MQ below (va_Qi (fun (r : Int32) (_ : Unit) => r = o.1 ∧ True) (fun (_ : Unit) t => q_B (dC, dI) A [((bm 0), .inr (10, [.int th, .ref (bm 1), .int tn, .int at_, .int wr, .ref (bm 2), .ref (bm 3), .int rm_, .ref (bm 4), .ref (bm 5), .int mn, .ref (bm 6), .ref (bm 7), .int sn, .ref (bm 8), .ref (bm 9), .ref (bm 10), .int ac, .long dn, .ref (bm 11), .ref (bm 12), .ref (bm 13), .ref (bm 14), .int hi])), ((bm 4), .inl ((km 4), 8, .inl ru)), ((bm 5), .inl ((km 5), 48, .inl td)), ((bm 8), .inl ((km 8), 279, .inl (o.2.1))), ((bm 11), .inl ((km 11), 98, .inl (o.2.2.1))), ((bm 12), .inl ((km 12), 98, .inl (o.2.2.2)))] [((km 4), .int), ((km 5), .int), ((km 8), .int), ((km 11), .int), ((km 12), .int)] t) A) #[.ref (bm 0)] s 0 0 A) (F0 m 17 ls []) := by
      intro n_17
      induction n_17 with
      | zero =>
        intro x1_17 x2_17 nw_c as__c bf_c H locs ls hG
        exact q_no hG
      | succ n_17 ih_17 =>
        intro x1_17 x2_17 nw_c as__c bf_c H locs ls hG hP hD hS hl
        unfold FL_X10_last_17 at hG
        refine lv_iload_n hx hb dX10_last_17 rfl (lv_at hl 0 rfl) ?_
        refine lv_sipush (v := 200) hx hb dX10_last_18 (by decide) ?_
        refine lv_icmp_gt (tgt := 61) hx hb dX10_last_21 (by decide) (fun c_6 => ?_) (fun c_6 => ?_)
        · have hG := q_ifp c_6 hG
          refine lv_aload_n hx hb dX10_last_61 rfl (lv_at hl 2 rfl) ?_
          obtain ⟨o_7, r_8, hG⟩ := q_bi hG
          refine q_gov2 (wr := [((bm 4), .inl ((km 4), 8, .inl ru)), ((bm 5), .inl ((km 5), 48, .inl td)), ((bm 12), .inl ((km 12), 98, .inl bf_c))]) (va_runV (As := []) (rest := []) ⟨hx, hb, hml, hown, hts⟩ (c_X10_bringBack l dC dI bm km th tn at_ wr rm_ mn sn ac hi dn nw_c as__c (va_A [((bm 0), .inr (10, [.int th, .ref (bm 1), .int tn, .int at_, .int wr, .ref (bm 2), .ref (bm 3), .int rm_, .ref (bm 4), .ref (bm 5), .int mn, .ref (bm 6), .ref (bm 7), .int sn, .ref (bm 8), .ref (bm 9), .ref (bm 10), .int ac, .long dn, .ref (bm 11), .ref (bm 12), .ref (bm 13), .ref (bm 14), .int hi])), ((bm 8), .inl ((km 8), 279, .inl nw_c)), ((bm 11), .inl ((km 11), 98, .inl as__c))] H.size) o_7 r_8) (cwV 0 hts (q_gV m_1199 m_1200 m_1201 m_5 m_1202) rfl rfl rfl hdV_yX10_bringBack_0 ⟨Nat.le_of_ble_eq_true rfl, Nat.le_of_ble_eq_true rfl⟩) (q_preWV hK hP hD (q := (RX10, TX10, 24)) (ci := 10) (q0 := 0) rfl rfl [0, 3, 4] (by decide) rfl rfl [2, 3] rfl) rfl rfl hl.1 rfl (lv_room (Nat.le_of_ble_eq_true rfl)) dX10_last_62 ⟨Nat.le_of_ble_eq_true rfl, Nat.le_of_ble_eq_true rfl⟩) hK hP hD hS hA [0, 3, 4] [1, 2, 5] rfl rfl (by decide) (by decide) (fun _ H locs _ hP hD hK9 hS => ?_)
          have hP : va_P (dC, dI) vwCl [((bm 0), .inr (10, [.int th, .ref (bm 1), .int tn, .int at_, .int wr, .ref (bm 2), .ref (bm 3), .int rm_, .ref (bm 4), .ref (bm 5), .int mn, .ref (bm 6), .ref (bm 7), .int sn, .ref (bm 8), .ref (bm 9), .ref (bm 10), .int ac, .long dn, .ref (bm 11), .ref (bm 12), .ref (bm 13), .ref (bm 14), .int hi])), ((bm 4), .inl ((km 4), 8, .inl ru)), ((bm 5), .inl ((km 5), 48, .inl td)), ((bm 8), .inl ((km 8), 279, .inl (o_7))), ((bm 11), .inl ((km 11), 98, .inl as__c)), ((bm 12), .inl ((km 12), 98, .inl bf_c))] H := hP.sub [3, 0, 1, 4, 5, 2] rfl
          have hD : va_D A [((bm 0), .inr (10, [.int th, .ref (bm 1), .int tn, .int at_, .int wr, .ref (bm 2), .ref (bm 3), .int rm_, .ref (bm 4), .ref (bm 5), .int mn, .ref (bm 6), .ref (bm 7), .int sn, .ref (bm 8), .ref (bm 9), .ref (bm 10), .int ac, .long dn, .ref (bm 11), .ref (bm 12), .ref (bm 13), .ref (bm 14), .int hi])), ((bm 4), .inl ((km 4), 8, .inl ru)), ((bm 5), .inl ((km 5), 48, .inl td)), ((bm 8), .inl ((km 8), 279, .inl (o_7))), ((bm 11), .inl ((km 11), 98, .inl as__c)), ((bm 12), .inl ((km 12), 98, .inl bf_c))] := hD.sub [3, 0, 1, 4, 5, 2] (by decide) rfl
          refine lv_iload_n hx hb dX10_last_65 rfl (lv_at hl 1 rfl) ?_
          obtain rfl := Option.some.inj hG
          have hP9 := hP.sub (ws' := [((bm 0), .inr (10, [.int th, .ref (bm 1), .int tn, .int at_, .int wr, .ref (bm 2), .ref (bm 3), .int rm_, .ref (bm 4), .ref (bm 5), .int mn, .ref (bm 6), .ref (bm 7), .int sn, .ref (bm 8), .ref (bm 9), .ref (bm 10), .int ac, .long dn, .ref (bm 11), .ref (bm 12), .ref (bm 13), .ref (bm 14), .int hi])), ((bm 4), .inl ((km 4), 8, .inl ru)), ((bm 5), .inl ((km 5), 48, .inl td)), ((bm 8), .inl ((km 8), 279, .inl (o_7))), ((bm 11), .inl ((km 11), 98, .inl as__c)), ((bm 12), .inl ((km 12), 98, .inl bf_c))]) [0, 1, 2, 3, 4, 5] rfl
          have hD9 := hD.sub (ws' := [((bm 0), .inr (10, [.int th, .ref (bm 1), .int tn, .int at_, .int wr, .ref (bm 2), .ref (bm 3), .int rm_, .ref (bm 4), .ref (bm 5), .int mn, .ref (bm 6), .ref (bm 7), .int sn, .ref (bm 8), .ref (bm 9), .ref (bm 10), .int ac, .long dn, .ref (bm 11), .ref (bm 12), .ref (bm 13), .ref (bm 14), .int hi])), ((bm 4), .inl ((km 4), 8, .inl ru)), ((bm 5), .inl ((km 5), 48, .inl td)), ((bm 8), .inl ((km 8), 279, .inl (o_7))), ((bm 11), .inl ((km 11), 98, .inl as__c)), ((bm 12), .inl ((km 12), 98, .inl bf_c))]) [0, 1, 2, 3, 4, 5] (by decide) rfl
          have hK9 := hK.sub (tys' := [((km 4), .int), ((km 5), .int), ((km 8), .int), ((km 11), .int), ((km 12), .int)]) [0, 1, 2, 3, 4] rfl
          exact W.iret (v := x1_17) hx hb hr (fun t ht hW => ⟨⟨x1_17, (), rfl, ⟨rfl, trivial⟩, by rw [ht]; exact hP9, va_K.moved hW.alike hK9, hD9⟩, hS.F ht⟩) hS.2.2 dX10_last_66
        · have hG := q_ifn c_6 hG
          refine lv_iload_n hx hb dX10_last_24 rfl (lv_at hl 1 rfl) ?_
          refine lv_iconst (v := (-1)) hx hb dX10_last_25 (by decide) ?_
          refine lv_icmp_ne (tgt := 61) hx hb dX10_last_26 (by decide) (fun c_9 => ?_) (fun c_9 => ?_)
          · have hG := q_ifn c_9 hG
            refine lv_aload_n hx hb dX10_last_61 rfl (lv_at hl 2 rfl) ?_
            obtain ⟨o_10, r_11, hG⟩ := q_bi hG
            refine q_gov2 (wr := [((bm 4), .inl ((km 4), 8, .inl ru)), ((bm 5), .inl ((km 5), 48, .inl td)), ((bm 12), .inl ((km 12), 98, .inl bf_c))]) (va_runV (As := []) (rest := []) ⟨hx, hb, hml, hown, hts⟩ (c_X10_bringBack l dC dI bm km th tn at_ wr rm_ mn sn ac hi dn nw_c as__c (va_A [((bm 0), .inr (10, [.int th, .ref (bm 1), .int tn, .int at_, .int wr, .ref (bm 2), .ref (bm 3), .int rm_, .ref (bm 4), .ref (bm 5), .int mn, .ref (bm 6), .ref (bm 7), .int sn, .ref (bm 8), .ref (bm 9), .ref (bm 10), .int ac, .long dn, .ref (bm 11), .ref (bm 12), .ref (bm 13), .ref (bm 14), .int hi])), ((bm 8), .inl ((km 8), 279, .inl nw_c)), ((bm 11), .inl ((km 11), 98, .inl as__c))] H.size) o_10 r_11) (cwV 0 hts (q_gV m_1199 m_1200 m_1201 m_5 m_1202) rfl rfl rfl hdV_yX10_bringBack_0 ⟨Nat.le_of_ble_eq_true rfl, Nat.le_of_ble_eq_true rfl⟩) (q_preWV hK hP hD (q := (RX10, TX10, 24)) (ci := 10) (q0 := 0) rfl rfl [0, 3, 4] (by decide) rfl rfl [2, 3] rfl) rfl rfl hl.1 rfl (lv_room (Nat.le_of_ble_eq_true rfl)) dX10_last_62 ⟨Nat.le_of_ble_eq_true rfl, Nat.le_of_ble_eq_true rfl⟩) hK hP hD hS hA [0, 3, 4] [1, 2, 5] rfl rfl (by decide) (by decide) (fun _ H locs _ hP hD hK9 hS => ?_)
            have hP : va_P (dC, dI) vwCl [((bm 0), .inr (10, [.int th, .ref (bm 1), .int tn, .int at_, .int wr, .ref (bm 2), .ref (bm 3), .int rm_, .ref (bm 4), .ref (bm 5), .int mn, .ref (bm 6), .ref (bm 7), .int sn, .ref (bm 8), .ref (bm 9), .ref (bm 10), .int ac, .long dn, .ref (bm 11), .ref (bm 12), .ref (bm 13), .ref (bm 14), .int hi])), ((bm 4), .inl ((km 4), 8, .inl ru)), ((bm 5), .inl ((km 5), 48, .inl td)), ((bm 8), .inl ((km 8), 279, .inl (o_10))), ((bm 11), .inl ((km 11), 98, .inl as__c)), ((bm 12), .inl ((km 12), 98, .inl bf_c))] H := hP.sub [3, 0, 1, 4, 5, 2] rfl
            have hD : va_D A [((bm 0), .inr (10, [.int th, .ref (bm 1), .int tn, .int at_, .int wr, .ref (bm 2), .ref (bm 3), .int rm_, .ref (bm 4), .ref (bm 5), .int mn, .ref (bm 6), .ref (bm 7), .int sn, .ref (bm 8), .ref (bm 9), .ref (bm 10), .int ac, .long dn, .ref (bm 11), .ref (bm 12), .ref (bm 13), .ref (bm 14), .int hi])), ((bm 4), .inl ((km 4), 8, .inl ru)), ((bm 5), .inl ((km 5), 48, .inl td)), ((bm 8), .inl ((km 8), 279, .inl (o_10))), ((bm 11), .inl ((km 11), 98, .inl as__c)), ((bm 12), .inl ((km 12), 98, .inl bf_c))] := hD.sub [3, 0, 1, 4, 5, 2] (by decide) rfl
            refine lv_iload_n hx hb dX10_last_65 rfl (lv_at hl 1 rfl) ?_
            obtain rfl := Option.some.inj hG
            have hP9 := hP.sub (ws' := [((bm 0), .inr (10, [.int th, .ref (bm 1), .int tn, .int at_, .int wr, .ref (bm 2), .ref (bm 3), .int rm_, .ref (bm 4), .ref (bm 5), .int mn, .ref (bm 6), .ref (bm 7), .int sn, .ref (bm 8), .ref (bm 9), .ref (bm 10), .int ac, .long dn, .ref (bm 11), .ref (bm 12), .ref (bm 13), .ref (bm 14), .int hi])), ((bm 4), .inl ((km 4), 8, .inl ru)), ((bm 5), .inl ((km 5), 48, .inl td)), ((bm 8), .inl ((km 8), 279, .inl (o_10))), ((bm 11), .inl ((km 11), 98, .inl as__c)), ((bm 12), .inl ((km 12), 98, .inl bf_c))]) [0, 1, 2, 3, 4, 5] rfl
            have hD9 := hD.sub (ws' := [((bm 0), .inr (10, [.int th, .ref (bm 1), .int tn, .int at_, .int wr, .ref (bm 2), .ref (bm 3), .int rm_, .ref (bm 4), .ref (bm 5), .int mn, .ref (bm 6), .ref (bm 7), .int sn, .ref (bm 8), .ref (bm 9), .ref (bm 10), .int ac, .long dn, .ref (bm 11), .ref (bm 12), .ref (bm 13), .ref (bm 14), .int hi])), ((bm 4), .inl ((km 4), 8, .inl ru)), ((bm 5), .inl ((km 5), 48, .inl td)), ((bm 8), .inl ((km 8), 279, .inl (o_10))), ((bm 11), .inl ((km 11), 98, .inl as__c)), ((bm 12), .inl ((km 12), 98, .inl bf_c))]) [0, 1, 2, 3, 4, 5] (by decide) rfl
            have hK9 := hK.sub (tys' := [((km 4), .int), ((km 5), .int), ((km 8), .int), ((km 11), .int), ((km 12), .int)]) [0, 1, 2, 3, 4] rfl
            exact W.iret (v := x1_17) hx hb hr (fun t ht hW => ⟨⟨x1_17, (), rfl, ⟨rfl, trivial⟩, by rw [ht]; exact hP9, va_K.moved hW.alike hK9, hD9⟩, hS.F ht⟩) hS.2.2 dX10_last_66
          · have hG := q_ifp c_9 hG
            refine lv_aload_n hx hb dX10_last_29 rfl (lv_at hl 2 rfl) ?_
            refine va_get (D := (dC, dI)) (ci := 10) (v := .ref (bm 8)) (C := RX10) (T := TX10) (N := 24) hx hb hts iA_10 hown hK hP 0 rfl rfl 14 (by decide) (hts (.fieldLink RX10 31 "HubTreeModel" "now" "[I") (List.mem_cons_of_mem _ m_122)) (fun _ h9 => h9) rfl dX10_last_30 ?_
            refine lv_bipush (v := 96) hx hb dX10_last_33 (by decide) ?_
            refine va_iald hx hb hK hP 3 2 rfl rfl (i := 96) (vp_in_iff.mpr (by decide)) dX10_last_35 ?_
            refine q_top (y := (nw_c 96)) rfl ?_
            refine lv_sipush (v := 9999) hx hb dX10_last_36 (by decide) ?_
            refine lv_icmp_gt (tgt := 61) hx hb dX10_last_39 (by decide) (fun c_12 => ?_) (fun c_12 => ?_)
            · have hG := q_ifp c_12 hG
              refine lv_aload_n hx hb dX10_last_61 rfl (lv_at hl 2 rfl) ?_
              obtain ⟨o_13, r_14, hG⟩ := q_bi hG
              refine q_gov2 (wr := [((bm 4), .inl ((km 4), 8, .inl ru)), ((bm 5), .inl ((km 5), 48, .inl td)), ((bm 12), .inl ((km 12), 98, .inl bf_c))]) (va_runV (As := []) (rest := []) ⟨hx, hb, hml, hown, hts⟩ (c_X10_bringBack l dC dI bm km th tn at_ wr rm_ mn sn ac hi dn nw_c as__c (va_A [((bm 0), .inr (10, [.int th, .ref (bm 1), .int tn, .int at_, .int wr, .ref (bm 2), .ref (bm 3), .int rm_, .ref (bm 4), .ref (bm 5), .int mn, .ref (bm 6), .ref (bm 7), .int sn, .ref (bm 8), .ref (bm 9), .ref (bm 10), .int ac, .long dn, .ref (bm 11), .ref (bm 12), .ref (bm 13), .ref (bm 14), .int hi])), ((bm 8), .inl ((km 8), 279, .inl nw_c)), ((bm 11), .inl ((km 11), 98, .inl as__c))] H.size) o_13 r_14) (cwV 0 hts (q_gV m_1199 m_1200 m_1201 m_5 m_1202) rfl rfl rfl hdV_yX10_bringBack_0 ⟨Nat.le_of_ble_eq_true rfl, Nat.le_of_ble_eq_true rfl⟩) (q_preWV hK hP hD (q := (RX10, TX10, 24)) (ci := 10) (q0 := 0) rfl rfl [0, 3, 4] (by decide) rfl rfl [2, 3] rfl) rfl rfl hl.1 rfl (lv_room (Nat.le_of_ble_eq_true rfl)) dX10_last_62 ⟨Nat.le_of_ble_eq_true rfl, Nat.le_of_ble_eq_true rfl⟩) hK hP hD hS hA [0, 3, 4] [1, 2, 5] rfl rfl (by decide) (by decide) (fun _ H locs _ hP hD hK9 hS => ?_)
              have hP : va_P (dC, dI) vwCl [((bm 0), .inr (10, [.int th, .ref (bm 1), .int tn, .int at_, .int wr, .ref (bm 2), .ref (bm 3), .int rm_, .ref (bm 4), .ref (bm 5), .int mn, .ref (bm 6), .ref (bm 7), .int sn, .ref (bm 8), .ref (bm 9), .ref (bm 10), .int ac, .long dn, .ref (bm 11), .ref (bm 12), .ref (bm 13), .ref (bm 14), .int hi])), ((bm 4), .inl ((km 4), 8, .inl ru)), ((bm 5), .inl ((km 5), 48, .inl td)), ((bm 8), .inl ((km 8), 279, .inl (o_13))), ((bm 11), .inl ((km 11), 98, .inl as__c)), ((bm 12), .inl ((km 12), 98, .inl bf_c))] H := hP.sub [3, 0, 1, 4, 5, 2] rfl
              have hD : va_D A [((bm 0), .inr (10, [.int th, .ref (bm 1), .int tn, .int at_, .int wr, .ref (bm 2), .ref (bm 3), .int rm_, .ref (bm 4), .ref (bm 5), .int mn, .ref (bm 6), .ref (bm 7), .int sn, .ref (bm 8), .ref (bm 9), .ref (bm 10), .int ac, .long dn, .ref (bm 11), .ref (bm 12), .ref (bm 13), .ref (bm 14), .int hi])), ((bm 4), .inl ((km 4), 8, .inl ru)), ((bm 5), .inl ((km 5), 48, .inl td)), ((bm 8), .inl ((km 8), 279, .inl (o_13))), ((bm 11), .inl ((km 11), 98, .inl as__c)), ((bm 12), .inl ((km 12), 98, .inl bf_c))] := hD.sub [3, 0, 1, 4, 5, 2] (by decide) rfl
              refine lv_iload_n hx hb dX10_last_65 rfl (lv_at hl 1 rfl) ?_
              obtain rfl := Option.some.inj hG
              have hP9 := hP.sub (ws' := [((bm 0), .inr (10, [.int th, .ref (bm 1), .int tn, .int at_, .int wr, .ref (bm 2), .ref (bm 3), .int rm_, .ref (bm 4), .ref (bm 5), .int mn, .ref (bm 6), .ref (bm 7), .int sn, .ref (bm 8), .ref (bm 9), .ref (bm 10), .int ac, .long dn, .ref (bm 11), .ref (bm 12), .ref (bm 13), .ref (bm 14), .int hi])), ((bm 4), .inl ((km 4), 8, .inl ru)), ((bm 5), .inl ((km 5), 48, .inl td)), ((bm 8), .inl ((km 8), 279, .inl (o_13))), ((bm 11), .inl ((km 11), 98, .inl as__c)), ((bm 12), .inl ((km 12), 98, .inl bf_c))]) [0, 1, 2, 3, 4, 5] rfl
              have hD9 := hD.sub (ws' := [((bm 0), .inr (10, [.int th, .ref (bm 1), .int tn, .int at_, .int wr, .ref (bm 2), .ref (bm 3), .int rm_, .ref (bm 4), .ref (bm 5), .int mn, .ref (bm 6), .ref (bm 7), .int sn, .ref (bm 8), .ref (bm 9), .ref (bm 10), .int ac, .long dn, .ref (bm 11), .ref (bm 12), .ref (bm 13), .ref (bm 14), .int hi])), ((bm 4), .inl ((km 4), 8, .inl ru)), ((bm 5), .inl ((km 5), 48, .inl td)), ((bm 8), .inl ((km 8), 279, .inl (o_13))), ((bm 11), .inl ((km 11), 98, .inl as__c)), ((bm 12), .inl ((km 12), 98, .inl bf_c))]) [0, 1, 2, 3, 4, 5] (by decide) rfl
              have hK9 := hK.sub (tys' := [((km 4), .int), ((km 5), .int), ((km 8), .int), ((km 11), .int), ((km 12), .int)]) [0, 1, 2, 3, 4] rfl
              exact W.iret (v := x1_17) hx hb hr (fun t ht hW => ⟨⟨x1_17, (), rfl, ⟨rfl, trivial⟩, by rw [ht]; exact hP9, va_K.moved hW.alike hK9, hD9⟩, hS.F ht⟩) hS.2.2 dX10_last_66
            · have hG := q_ifn c_12 hG
              refine lv_aload_n hx hb dX10_last_42 rfl (lv_at hl 2 rfl) ?_
              obtain ⟨o_15, r_16, hG⟩ := q_bi hG
              refine q_goi2 (v := o_15.1) (wr := [((bm 11), .inl ((km 11), 98, .inl as__c))]) (va_runV (As := []) (rest := []) ⟨hx, hb, hml, hown, hts⟩ (c_X10_isStill l dC dI bm km th tn at_ wr rm_ mn sn ac hi dn ru td nw_c bf_c (va_A [((bm 0), .inr (10, [.int th, .ref (bm 1), .int tn, .int at_, .int wr, .ref (bm 2), .ref (bm 3), .int rm_, .ref (bm 4), .ref (bm 5), .int mn, .ref (bm 6), .ref (bm 7), .int sn, .ref (bm 8), .ref (bm 9), .ref (bm 10), .int ac, .long dn, .ref (bm 11), .ref (bm 12), .ref (bm 13), .ref (bm 14), .int hi])), ((bm 4), .inl ((km 4), 8, .inl ru)), ((bm 5), .inl ((km 5), 48, .inl td)), ((bm 8), .inl ((km 8), 279, .inl nw_c)), ((bm 12), .inl ((km 12), 98, .inl bf_c))] H.size) o_15 r_16) (cwV 0 hts (q_gV m_1228 m_1229 m_1230 m_5 m_1231) rfl rfl rfl hdV_yX10_isStill_0 ⟨Nat.le_of_ble_eq_true rfl, Nat.le_of_ble_eq_true rfl⟩) (q_preWV hK hP hD (q := (RX10, TX10, 24)) (ci := 10) (q0 := 0) rfl rfl [0, 1, 2, 3, 5] (by decide) rfl rfl [0, 1, 2, 4] rfl) rfl rfl hl.1 rfl (lv_room (Nat.le_of_ble_eq_true rfl)) dX10_last_43 ⟨Nat.le_of_ble_eq_true rfl, Nat.le_of_ble_eq_true rfl⟩) hK hP hD hS hA [0, 1, 2, 3, 5] [4] rfl rfl (by decide) (by decide) (fun _ H locs _ hP hD hK9 hS => ?_)
              have hP : va_P (dC, dI) vwCl [((bm 0), .inr (10, [.int th, .ref (bm 1), .int tn, .int at_, .int wr, .ref (bm 2), .ref (bm 3), .int rm_, .ref (bm 4), .ref (bm 5), .int mn, .ref (bm 6), .ref (bm 7), .int sn, .ref (bm 8), .ref (bm 9), .ref (bm 10), .int ac, .long dn, .ref (bm 11), .ref (bm 12), .ref (bm 13), .ref (bm 14), .int hi])), ((bm 4), .inl ((km 4), 8, .inl ru)), ((bm 5), .inl ((km 5), 48, .inl td)), ((bm 8), .inl ((km 8), 279, .inl (o_15.2.1))), ((bm 11), .inl ((km 11), 98, .inl as__c)), ((bm 12), .inl ((km 12), 98, .inl (o_15.2.2)))] H := hP.sub [1, 2, 3, 4, 0, 5] rfl
              have hD : va_D A [((bm 0), .inr (10, [.int th, .ref (bm 1), .int tn, .int at_, .int wr, .ref (bm 2), .ref (bm 3), .int rm_, .ref (bm 4), .ref (bm 5), .int mn, .ref (bm 6), .ref (bm 7), .int sn, .ref (bm 8), .ref (bm 9), .ref (bm 10), .int ac, .long dn, .ref (bm 11), .ref (bm 12), .ref (bm 13), .ref (bm 14), .int hi])), ((bm 4), .inl ((km 4), 8, .inl ru)), ((bm 5), .inl ((km 5), 48, .inl td)), ((bm 8), .inl ((km 8), 279, .inl (o_15.2.1))), ((bm 11), .inl ((km 11), 98, .inl as__c)), ((bm 12), .inl ((km 12), 98, .inl (o_15.2.2)))] := hD.sub [1, 2, 3, 4, 0, 5] (by decide) rfl
              refine lv_if_eq (tgt := 53) hx hb dX10_last_46 (by decide) (fun c_17 => ?_) (fun c_17 => ?_)
              · have hG := q_ifp c_17 hG
                refine lv_iconst (v := (-1)) hx hb dX10_last_53 (by decide) ?_
                refine lv_istore_n (lv' := [(1, .int (-1)), (2, .int x2_17), (0, .ref (bm 0))]) hx hb dX10_last_54 rfl hl (by decide) rfl (fun ls hl => ?_)
                refine lv_iinc (v := (x2_17 + 1)) (lv' := [(2, .int (x2_17 + 1)), (1, .int (-1)), (0, .ref (bm 0))]) hx hb dX10_last_55 hl (k := 1) rfl (rfl) (by decide) rfl (fun ls hl => ?_)
                refine lv_goto (tgt := 17) hx hb dX10_last_58 (by decide) ?_
                exact ih_17 (-1) (x2_17 + 1) (o_15.2.1) as__c (o_15.2.2) H locs ls hG hP hD hS (lv_sub hl [0, 1, 2] rfl)
              · have hG := q_ifn c_17 hG
                refine lv_iload_n hx hb dX10_last_49 rfl (lv_at hl 0 rfl) ?_
                refine lv_goto (tgt := 54) hx hb dX10_last_50 (by decide) ?_
                refine lv_istore_n (lv' := [(1, .int x2_17), (2, .int x2_17), (0, .ref (bm 0))]) hx hb dX10_last_54 rfl hl (by decide) rfl (fun ls hl => ?_)
                refine lv_iinc (v := (x2_17 + 1)) (lv' := [(2, .int (x2_17 + 1)), (1, .int x2_17), (0, .ref (bm 0))]) hx hb dX10_last_55 hl (k := 1) rfl (rfl) (by decide) rfl (fun ls hl => ?_)
                refine lv_goto (tgt := 17) hx hb dX10_last_58 (by decide) ?_
                exact ih_17 x2_17 (x2_17 + 1) (o_15.2.1) as__c (o_15.2.2) H locs ls hG hP hD hS (lv_sub hl [0, 1, 2] rfl)
    exact L_17 1000 (-1) 0 nw (o_4) bf H locs ls hG hP hD hS hl
  · have hG := q_ifp c_3 hG
    refine lv_iconst (v := (-1)) hx hb dX10_last_7 (by decide) ?_
    obtain rfl := Option.some.inj hG
    have hP9 := hP.sub (ws' := [((bm 0), .inr (10, [.int th, .ref (bm 1), .int tn, .int at_, .int wr, .ref (bm 2), .ref (bm 3), .int rm_, .ref (bm 4), .ref (bm 5), .int mn, .ref (bm 6), .ref (bm 7), .int sn, .ref (bm 8), .ref (bm 9), .ref (bm 10), .int ac, .long dn, .ref (bm 11), .ref (bm 12), .ref (bm 13), .ref (bm 14), .int hi])), ((bm 4), .inl ((km 4), 8, .inl ru)), ((bm 5), .inl ((km 5), 48, .inl td)), ((bm 8), .inl ((km 8), 279, .inl nw)), ((bm 11), .inl ((km 11), 98, .inl as_)), ((bm 12), .inl ((km 12), 98, .inl bf))]) [0, 1, 2, 3, 4, 5] rfl
    have hD9 := hD.sub (ws' := [((bm 0), .inr (10, [.int th, .ref (bm 1), .int tn, .int at_, .int wr, .ref (bm 2), .ref (bm 3), .int rm_, .ref (bm 4), .ref (bm 5), .int mn, .ref (bm 6), .ref (bm 7), .int sn, .ref (bm 8), .ref (bm 9), .ref (bm 10), .int ac, .long dn, .ref (bm 11), .ref (bm 12), .ref (bm 13), .ref (bm 14), .int hi])), ((bm 4), .inl ((km 4), 8, .inl ru)), ((bm 5), .inl ((km 5), 48, .inl td)), ((bm 8), .inl ((km 8), 279, .inl nw)), ((bm 11), .inl ((km 11), 98, .inl as_)), ((bm 12), .inl ((km 12), 98, .inl bf))]) [0, 1, 2, 3, 4, 5] (by decide) rfl
    have hK9 := hK.sub (tys' := [((km 4), .int), ((km 5), .int), ((km 8), .int), ((km 11), .int), ((km 12), .int)]) [0, 1, 2, 3, 4] rfl
    exact W.iret (v := (-1)) hx hb hr (fun t ht hW => ⟨⟨(-1), (), rfl, ⟨rfl, trivial⟩, by rw [ht]; exact hP9, va_K.moved hW.alike hK9, hD9⟩, hS.F ht⟩) hS.2.2 dX10_last_8

def F_X10_whenAt (mn : Int32) (ru : Nat → Int32) (td : Nat → Int32) (nw : Nat → Int32) (as_ : Nat → Int32) (z1 : Int32) (z2 : Int32) (z3 : Int32) : Option (Int32 × (Nat → Int32) × (Nat → Int32)) := ((F_X10_putAside nw as_).bind fun o_1 => ((F_X10_plugs ru nw z1 z2 z3).bind fun o_3 => ((F_X10_whenNow mn ru td (o_3.2) z1).bind fun o_5 => ((F_X10_bringBack (o_5.2) (o_1)).bind fun o_7 => some (o_5.1, (o_7), (o_1))))))
set_option maxHeartbeats 4000000 in
set_option maxRecDepth 100000 in
theorem c_X10_whenAt (l : Launch) (dC : Nat → ClassId) (dI : Nat → Nat → Nat) (bm : Nat → Nat) (km : Nat → ClassId) (th : Int32) (tn : Int32) (at_ : Int32) (wr : Int32) (rm_ : Int32) (mn : Int32) (sn : Int32) (ac : Int32) (hi : Int32) (dn : Int64) (ru : Nat → Int32) (td : Nat → Int32) (nw : Nat → Int32) (as_ : Nat → Int32) (z1 : Int32) (z2 : Int32) (z3 : Int32) (A : Nat → Prop) (o : Int32 × (Nat → Int32) × (Nat → Int32)) (hG : F_X10_whenAt mn ru td nw as_ z1 z2 z3 = some o) : Met l yX10_whenAt (.code yX10_whenAt cX10_whenAt 5 (some .int) :: wA) ({ frames := 9, cells := 0, slots := 0, locals := 199 }) (va_Pc [.ref (bm 0), .int z1, .int z2, .int z3] (q_W (dC, dI) A [((bm 0), .inr (10, [.int th, .ref (bm 1), .int tn, .int at_, .int wr, .ref (bm 2), .ref (bm 3), .int rm_, .ref (bm 4), .ref (bm 5), .int mn, .ref (bm 6), .ref (bm 7), .int sn, .ref (bm 8), .ref (bm 9), .ref (bm 10), .int ac, .long dn, .ref (bm 11), .ref (bm 12), .ref (bm 13), .ref (bm 14), .int hi])), ((bm 4), .inl ((km 4), 8, .inl ru)), ((bm 5), .inl ((km 5), 48, .inl td)), ((bm 8), .inl ((km 8), 279, .inl nw)), ((bm 11), .inl ((km 11), 98, .inl as_))] [((km 4), .int), ((km 5), .int), ((km 8), .int), ((km 11), .int)])) (va_Qi (fun (r : Int32) (_ : Unit) => r = o.1 ∧ True) (fun (_ : Unit) t => q_B (dC, dI) A [((bm 0), .inr (10, [.int th, .ref (bm 1), .int tn, .int at_, .int wr, .ref (bm 2), .ref (bm 3), .int rm_, .ref (bm 4), .ref (bm 5), .int mn, .ref (bm 6), .ref (bm 7), .int sn, .ref (bm 8), .ref (bm 9), .ref (bm 10), .int ac, .long dn, .ref (bm 11), .ref (bm 12), .ref (bm 13), .ref (bm 14), .int hi])), ((bm 4), .inl ((km 4), 8, .inl ru)), ((bm 5), .inl ((km 5), 48, .inl td)), ((bm 8), .inl ((km 8), 279, .inl (o.2.1))), ((bm 11), .inl ((km 11), 98, .inl (o.2.2)))] [((km 4), .int), ((km 5), .int), ((km 8), .int), ((km 11), .int)] t) A) 0 0 A := by
  refine Met.ofW (cc := cX10_whenAt) (maxL := 5) (ret := (some .int)) (by decide) rfl ?_
  intro p e s m args below meth c s₁ B hml hv
  obtain ⟨rfl, hP, hK, hD, hA⟩ := hv
  have hx := B.exec
  have hb := B.bytes
  have hr := B.returns
  have hts := atoms_spec (ws := .code yX10_whenAt cX10_whenAt 5 (some .int) :: wA) B.pre
  have hown : s.vm.findClass RX10 = some m.cls := findClass_of_methodNamed B.named
  have hlocks := B.notSynchronized
  have hS : va_S A s.heap s.heap [] := va_S.rf
  have hl := lv_entry ([.ref (bm 0), .int z1, .int z2, .int z3]) (n := 5) (Nat.le_of_ble_eq_true rfl)
  rw [lg_entry_eq]
  generalize (lg_sl ([.ref (bm 0), .int z1, .int z2, .int z3]) ++ List.replicate (5 - (lg_sl ([.ref (bm 0), .int z1, .int z2, .int z3])).length) Slot.unset).toArray = ls at hl ⊢
  have hl : lv_has ls 5 [(0, .ref (bm 0)), (1, .int z1), (2, .int z2), (3, .int z3)] := hl
  unfold F_X10_whenAt at hG
  refine lv_aload_n hx hb dX10_whenAt_0 rfl (lv_at hl 0 rfl) ?_
  obtain ⟨o_1, r_2, hG⟩ := q_bi hG
  refine q_gov2 (wr := [((bm 4), .inl ((km 4), 8, .inl ru)), ((bm 5), .inl ((km 5), 48, .inl td))]) (va_runV (As := []) (rest := []) ⟨hx, hb, hml, hown, hts⟩ (c_X10_putAside l dC dI bm km th tn at_ wr rm_ mn sn ac hi dn nw as_ (va_A [((bm 0), .inr (10, [.int th, .ref (bm 1), .int tn, .int at_, .int wr, .ref (bm 2), .ref (bm 3), .int rm_, .ref (bm 4), .ref (bm 5), .int mn, .ref (bm 6), .ref (bm 7), .int sn, .ref (bm 8), .ref (bm 9), .ref (bm 10), .int ac, .long dn, .ref (bm 11), .ref (bm 12), .ref (bm 13), .ref (bm 14), .int hi])), ((bm 8), .inl ((km 8), 279, .inl nw)), ((bm 11), .inl ((km 11), 98, .inl as_))] s.heap.size) o_1 r_2) (cwV 0 hts (q_gV m_1191 m_1192 m_1193 m_5 m_1194) rfl rfl rfl hdV_yX10_putAside_0 ⟨Nat.le_of_ble_eq_true rfl, Nat.le_of_ble_eq_true rfl⟩) (q_preWV hK hP hD (q := (RX10, TX10, 24)) (ci := 10) (q0 := 0) rfl rfl [0, 3, 4] (by decide) rfl rfl [2, 3] rfl) rfl rfl hl.1 rfl (lv_room (Nat.le_of_ble_eq_true rfl)) dX10_whenAt_1 ⟨Nat.le_of_ble_eq_true rfl, Nat.le_of_ble_eq_true rfl⟩) hK hP hD hS hA [0, 3, 4] [1, 2] rfl rfl (by decide) (by decide) (fun _ H locs _ hP hD hK9 hS => ?_)
  have hP : va_P (dC, dI) vwCl [((bm 0), .inr (10, [.int th, .ref (bm 1), .int tn, .int at_, .int wr, .ref (bm 2), .ref (bm 3), .int rm_, .ref (bm 4), .ref (bm 5), .int mn, .ref (bm 6), .ref (bm 7), .int sn, .ref (bm 8), .ref (bm 9), .ref (bm 10), .int ac, .long dn, .ref (bm 11), .ref (bm 12), .ref (bm 13), .ref (bm 14), .int hi])), ((bm 4), .inl ((km 4), 8, .inl ru)), ((bm 5), .inl ((km 5), 48, .inl td)), ((bm 8), .inl ((km 8), 279, .inl nw)), ((bm 11), .inl ((km 11), 98, .inl (o_1)))] H := hP.sub [2, 0, 1, 3, 4] rfl
  have hD : va_D A [((bm 0), .inr (10, [.int th, .ref (bm 1), .int tn, .int at_, .int wr, .ref (bm 2), .ref (bm 3), .int rm_, .ref (bm 4), .ref (bm 5), .int mn, .ref (bm 6), .ref (bm 7), .int sn, .ref (bm 8), .ref (bm 9), .ref (bm 10), .int ac, .long dn, .ref (bm 11), .ref (bm 12), .ref (bm 13), .ref (bm 14), .int hi])), ((bm 4), .inl ((km 4), 8, .inl ru)), ((bm 5), .inl ((km 5), 48, .inl td)), ((bm 8), .inl ((km 8), 279, .inl nw)), ((bm 11), .inl ((km 11), 98, .inl (o_1)))] := hD.sub [2, 0, 1, 3, 4] (by decide) rfl
  refine lv_aload_n hx hb dX10_whenAt_4 rfl (lv_at hl 0 rfl) ?_
  refine lv_iload_n hx hb dX10_whenAt_5 rfl (lv_at hl 1 rfl) ?_
  refine lv_iload_n hx hb dX10_whenAt_6 rfl (lv_at hl 2 rfl) ?_
  refine lv_iload_n hx hb dX10_whenAt_7 rfl (lv_at hl 3 rfl) ?_
  obtain ⟨o_3, r_4, hG⟩ := q_bi hG
  refine q_goi2 (v := o_3.1) (wr := [((bm 5), .inl ((km 5), 48, .inl td)), ((bm 11), .inl ((km 11), 98, .inl (o_1)))]) (va_runV (As := [.int z1, .int z2, .int z3]) (rest := []) ⟨hx, hb, hml, hown, hts⟩ (c_X10_plugs l dC dI bm km th tn at_ wr rm_ mn sn ac hi dn ru nw z1 z2 z3 (va_A [((bm 0), .inr (10, [.int th, .ref (bm 1), .int tn, .int at_, .int wr, .ref (bm 2), .ref (bm 3), .int rm_, .ref (bm 4), .ref (bm 5), .int mn, .ref (bm 6), .ref (bm 7), .int sn, .ref (bm 8), .ref (bm 9), .ref (bm 10), .int ac, .long dn, .ref (bm 11), .ref (bm 12), .ref (bm 13), .ref (bm 14), .int hi])), ((bm 4), .inl ((km 4), 8, .inl ru)), ((bm 8), .inl ((km 8), 279, .inl nw))] H.size) o_3 r_4) (cwV 3 hts (q_gV m_945 m_946 m_947 m_5 m_948) rfl rfl rfl hdV_yX10_plugs_3 ⟨Nat.le_of_ble_eq_true rfl, Nat.le_of_ble_eq_true rfl⟩) (q_preWV hK hP hD (q := (RX10, TX10, 24)) (ci := 10) (q0 := 0) rfl rfl [0, 1, 3] (by decide) rfl rfl [0, 2] rfl) rfl rfl hl.1 rfl (lv_room (Nat.le_of_ble_eq_true rfl)) dX10_whenAt_8 ⟨Nat.le_of_ble_eq_true rfl, Nat.le_of_ble_eq_true rfl⟩) hK hP hD hS hA [0, 1, 3] [2, 4] rfl rfl (by decide) (by decide) (fun _ H locs _ hP hD hK9 hS => ?_)
  have hP : va_P (dC, dI) vwCl [((bm 0), .inr (10, [.int th, .ref (bm 1), .int tn, .int at_, .int wr, .ref (bm 2), .ref (bm 3), .int rm_, .ref (bm 4), .ref (bm 5), .int mn, .ref (bm 6), .ref (bm 7), .int sn, .ref (bm 8), .ref (bm 9), .ref (bm 10), .int ac, .long dn, .ref (bm 11), .ref (bm 12), .ref (bm 13), .ref (bm 14), .int hi])), ((bm 4), .inl ((km 4), 8, .inl ru)), ((bm 5), .inl ((km 5), 48, .inl td)), ((bm 8), .inl ((km 8), 279, .inl (o_3.2))), ((bm 11), .inl ((km 11), 98, .inl (o_1)))] H := hP.sub [2, 3, 0, 4, 1] rfl
  have hD : va_D A [((bm 0), .inr (10, [.int th, .ref (bm 1), .int tn, .int at_, .int wr, .ref (bm 2), .ref (bm 3), .int rm_, .ref (bm 4), .ref (bm 5), .int mn, .ref (bm 6), .ref (bm 7), .int sn, .ref (bm 8), .ref (bm 9), .ref (bm 10), .int ac, .long dn, .ref (bm 11), .ref (bm 12), .ref (bm 13), .ref (bm 14), .int hi])), ((bm 4), .inl ((km 4), 8, .inl ru)), ((bm 5), .inl ((km 5), 48, .inl td)), ((bm 8), .inl ((km 8), 279, .inl (o_3.2))), ((bm 11), .inl ((km 11), 98, .inl (o_1)))] := hD.sub [2, 3, 0, 4, 1] (by decide) rfl
  refine lv_pop hx hb dX10_whenAt_11 rfl ?_
  refine lv_aload_n hx hb dX10_whenAt_12 rfl (lv_at hl 0 rfl) ?_
  refine lv_iload_n hx hb dX10_whenAt_13 rfl (lv_at hl 1 rfl) ?_
  obtain ⟨o_5, r_6, hG⟩ := q_bi hG
  refine q_goi2 (v := o_5.1) (wr := [((bm 11), .inl ((km 11), 98, .inl (o_1)))]) (va_runV (As := [.int z1]) (rest := []) ⟨hx, hb, hml, hown, hts⟩ (c_X10_whenNow l dC dI bm km th tn at_ wr rm_ mn sn ac hi dn ru td (o_3.2) z1 (va_A [((bm 0), .inr (10, [.int th, .ref (bm 1), .int tn, .int at_, .int wr, .ref (bm 2), .ref (bm 3), .int rm_, .ref (bm 4), .ref (bm 5), .int mn, .ref (bm 6), .ref (bm 7), .int sn, .ref (bm 8), .ref (bm 9), .ref (bm 10), .int ac, .long dn, .ref (bm 11), .ref (bm 12), .ref (bm 13), .ref (bm 14), .int hi])), ((bm 4), .inl ((km 4), 8, .inl ru)), ((bm 5), .inl ((km 5), 48, .inl td)), ((bm 8), .inl ((km 8), 279, .inl (o_3.2)))] H.size) o_5 r_6) (cwV 1 hts (q_gV m_1195 m_1196 m_1197 m_5 m_1198) rfl rfl rfl hdV_yX10_whenNow_1 ⟨Nat.le_of_ble_eq_true rfl, Nat.le_of_ble_eq_true rfl⟩) (q_preWV hK hP hD (q := (RX10, TX10, 24)) (ci := 10) (q0 := 0) rfl rfl [0, 1, 2, 3] (by decide) rfl rfl [0, 1, 2] rfl) rfl rfl hl.1 rfl (lv_room (Nat.le_of_ble_eq_true rfl)) dX10_whenAt_14 ⟨Nat.le_of_ble_eq_true rfl, Nat.le_of_ble_eq_true rfl⟩) hK hP hD hS hA [0, 1, 2, 3] [4] rfl rfl (by decide) (by decide) (fun _ H locs _ hP hD hK9 hS => ?_)
  have hP : va_P (dC, dI) vwCl [((bm 0), .inr (10, [.int th, .ref (bm 1), .int tn, .int at_, .int wr, .ref (bm 2), .ref (bm 3), .int rm_, .ref (bm 4), .ref (bm 5), .int mn, .ref (bm 6), .ref (bm 7), .int sn, .ref (bm 8), .ref (bm 9), .ref (bm 10), .int ac, .long dn, .ref (bm 11), .ref (bm 12), .ref (bm 13), .ref (bm 14), .int hi])), ((bm 4), .inl ((km 4), 8, .inl ru)), ((bm 5), .inl ((km 5), 48, .inl td)), ((bm 8), .inl ((km 8), 279, .inl (o_5.2))), ((bm 11), .inl ((km 11), 98, .inl (o_1)))] H := hP.sub [1, 2, 3, 4, 0] rfl
  have hD : va_D A [((bm 0), .inr (10, [.int th, .ref (bm 1), .int tn, .int at_, .int wr, .ref (bm 2), .ref (bm 3), .int rm_, .ref (bm 4), .ref (bm 5), .int mn, .ref (bm 6), .ref (bm 7), .int sn, .ref (bm 8), .ref (bm 9), .ref (bm 10), .int ac, .long dn, .ref (bm 11), .ref (bm 12), .ref (bm 13), .ref (bm 14), .int hi])), ((bm 4), .inl ((km 4), 8, .inl ru)), ((bm 5), .inl ((km 5), 48, .inl td)), ((bm 8), .inl ((km 8), 279, .inl (o_5.2))), ((bm 11), .inl ((km 11), 98, .inl (o_1)))] := hD.sub [1, 2, 3, 4, 0] (by decide) rfl
  refine lv_istore (lv' := [(4, .int o_5.1), (0, .ref (bm 0)), (1, .int z1), (2, .int z2), (3, .int z3)]) hx hb dX10_whenAt_17 hl (by decide) rfl (fun ls hl => ?_)
  refine lv_aload_n hx hb dX10_whenAt_19 rfl (lv_at hl 1 rfl) ?_
  obtain ⟨o_7, r_8, hG⟩ := q_bi hG
  refine q_gov2 (wr := [((bm 4), .inl ((km 4), 8, .inl ru)), ((bm 5), .inl ((km 5), 48, .inl td))]) (va_runV (As := []) (rest := []) ⟨hx, hb, hml, hown, hts⟩ (c_X10_bringBack l dC dI bm km th tn at_ wr rm_ mn sn ac hi dn (o_5.2) (o_1) (va_A [((bm 0), .inr (10, [.int th, .ref (bm 1), .int tn, .int at_, .int wr, .ref (bm 2), .ref (bm 3), .int rm_, .ref (bm 4), .ref (bm 5), .int mn, .ref (bm 6), .ref (bm 7), .int sn, .ref (bm 8), .ref (bm 9), .ref (bm 10), .int ac, .long dn, .ref (bm 11), .ref (bm 12), .ref (bm 13), .ref (bm 14), .int hi])), ((bm 8), .inl ((km 8), 279, .inl (o_5.2))), ((bm 11), .inl ((km 11), 98, .inl (o_1)))] H.size) o_7 r_8) (cwV 0 hts (q_gV m_1199 m_1200 m_1201 m_5 m_1202) rfl rfl rfl hdV_yX10_bringBack_0 ⟨Nat.le_of_ble_eq_true rfl, Nat.le_of_ble_eq_true rfl⟩) (q_preWV hK hP hD (q := (RX10, TX10, 24)) (ci := 10) (q0 := 0) rfl rfl [0, 3, 4] (by decide) rfl rfl [2, 3] rfl) rfl rfl hl.1 rfl (lv_room (Nat.le_of_ble_eq_true rfl)) dX10_whenAt_20 ⟨Nat.le_of_ble_eq_true rfl, Nat.le_of_ble_eq_true rfl⟩) hK hP hD hS hA [0, 3, 4] [1, 2] rfl rfl (by decide) (by decide) (fun _ H locs _ hP hD hK9 hS => ?_)
  have hP : va_P (dC, dI) vwCl [((bm 0), .inr (10, [.int th, .ref (bm 1), .int tn, .int at_, .int wr, .ref (bm 2), .ref (bm 3), .int rm_, .ref (bm 4), .ref (bm 5), .int mn, .ref (bm 6), .ref (bm 7), .int sn, .ref (bm 8), .ref (bm 9), .ref (bm 10), .int ac, .long dn, .ref (bm 11), .ref (bm 12), .ref (bm 13), .ref (bm 14), .int hi])), ((bm 4), .inl ((km 4), 8, .inl ru)), ((bm 5), .inl ((km 5), 48, .inl td)), ((bm 8), .inl ((km 8), 279, .inl (o_7))), ((bm 11), .inl ((km 11), 98, .inl (o_1)))] H := hP.sub [2, 0, 1, 3, 4] rfl
  have hD : va_D A [((bm 0), .inr (10, [.int th, .ref (bm 1), .int tn, .int at_, .int wr, .ref (bm 2), .ref (bm 3), .int rm_, .ref (bm 4), .ref (bm 5), .int mn, .ref (bm 6), .ref (bm 7), .int sn, .ref (bm 8), .ref (bm 9), .ref (bm 10), .int ac, .long dn, .ref (bm 11), .ref (bm 12), .ref (bm 13), .ref (bm 14), .int hi])), ((bm 4), .inl ((km 4), 8, .inl ru)), ((bm 5), .inl ((km 5), 48, .inl td)), ((bm 8), .inl ((km 8), 279, .inl (o_7))), ((bm 11), .inl ((km 11), 98, .inl (o_1)))] := hD.sub [2, 0, 1, 3, 4] (by decide) rfl
  refine lv_iload hx hb dX10_whenAt_23 (lv_at hl 0 rfl) ?_
  obtain rfl := Option.some.inj hG
  have hP9 := hP.sub (ws' := [((bm 0), .inr (10, [.int th, .ref (bm 1), .int tn, .int at_, .int wr, .ref (bm 2), .ref (bm 3), .int rm_, .ref (bm 4), .ref (bm 5), .int mn, .ref (bm 6), .ref (bm 7), .int sn, .ref (bm 8), .ref (bm 9), .ref (bm 10), .int ac, .long dn, .ref (bm 11), .ref (bm 12), .ref (bm 13), .ref (bm 14), .int hi])), ((bm 4), .inl ((km 4), 8, .inl ru)), ((bm 5), .inl ((km 5), 48, .inl td)), ((bm 8), .inl ((km 8), 279, .inl (o_7))), ((bm 11), .inl ((km 11), 98, .inl (o_1)))]) [0, 1, 2, 3, 4] rfl
  have hD9 := hD.sub (ws' := [((bm 0), .inr (10, [.int th, .ref (bm 1), .int tn, .int at_, .int wr, .ref (bm 2), .ref (bm 3), .int rm_, .ref (bm 4), .ref (bm 5), .int mn, .ref (bm 6), .ref (bm 7), .int sn, .ref (bm 8), .ref (bm 9), .ref (bm 10), .int ac, .long dn, .ref (bm 11), .ref (bm 12), .ref (bm 13), .ref (bm 14), .int hi])), ((bm 4), .inl ((km 4), 8, .inl ru)), ((bm 5), .inl ((km 5), 48, .inl td)), ((bm 8), .inl ((km 8), 279, .inl (o_7))), ((bm 11), .inl ((km 11), 98, .inl (o_1)))]) [0, 1, 2, 3, 4] (by decide) rfl
  have hK9 := hK.sub (tys' := [((km 4), .int), ((km 5), .int), ((km 8), .int), ((km 11), .int)]) [0, 1, 2, 3] rfl
  exact W.iret (v := o_5.1) hx hb hr (fun t ht hW => ⟨⟨o_5.1, (), rfl, ⟨rfl, trivial⟩, by rw [ht]; exact hP9, va_K.moved hW.alike hK9, hD9⟩, hS.F ht⟩) hS.2.2 dX10_whenAt_25

def F_X10_lost (mn : Int32) (ru : Nat → Int32) (td : Nat → Int32) (nw : Nat → Int32) (as_ : Nat → Int32) (z1 : Int32) : Option (Int32 × (Nat → Int32) × (Nat → Int32)) := ((F_X10_isDevice mn z1).bind fun o_1 => (if o_1 = 0 then some ((-1), nw, as_) else (if (72 + z1) < 0 ∨ 279 ≤ ((72 + z1)).toNatClampNeg then none else (if (nw (72 + z1).toNatClampNeg) = 0 then some ((-1), nw, as_) else ((F_X10_putAside nw as_).bind fun o_6 => ((F_X10_those mn nw 6).bind fun o_8 => ((F_X10_turnsSupply mn ru td nw z1).bind fun o_10 => ((F_X10_those mn (o_10) 6).bind fun o_12 => ((F_X10_bringBack (o_10) (o_6)).bind fun o_14 => some ((o_8 &&& (o_12 ^^^ (-1))), (o_14), (o_6)))))))))))
set_option maxHeartbeats 4000000 in
set_option maxRecDepth 100000 in
theorem c_X10_lost (l : Launch) (dC : Nat → ClassId) (dI : Nat → Nat → Nat) (bm : Nat → Nat) (km : Nat → ClassId) (th : Int32) (tn : Int32) (at_ : Int32) (wr : Int32) (rm_ : Int32) (mn : Int32) (sn : Int32) (ac : Int32) (hi : Int32) (dn : Int64) (ru : Nat → Int32) (td : Nat → Int32) (nw : Nat → Int32) (as_ : Nat → Int32) (z1 : Int32) (A : Nat → Prop) (o : Int32 × (Nat → Int32) × (Nat → Int32)) (hG : F_X10_lost mn ru td nw as_ z1 = some o) : Met l yX10_lost (.code yX10_lost cX10_lost 4 (some .int) :: wA) ({ frames := 6, cells := 0, slots := 0, locals := 134 }) (va_Pc [.ref (bm 0), .int z1] (q_W (dC, dI) A [((bm 0), .inr (10, [.int th, .ref (bm 1), .int tn, .int at_, .int wr, .ref (bm 2), .ref (bm 3), .int rm_, .ref (bm 4), .ref (bm 5), .int mn, .ref (bm 6), .ref (bm 7), .int sn, .ref (bm 8), .ref (bm 9), .ref (bm 10), .int ac, .long dn, .ref (bm 11), .ref (bm 12), .ref (bm 13), .ref (bm 14), .int hi])), ((bm 4), .inl ((km 4), 8, .inl ru)), ((bm 5), .inl ((km 5), 48, .inl td)), ((bm 8), .inl ((km 8), 279, .inl nw)), ((bm 11), .inl ((km 11), 98, .inl as_))] [((km 4), .int), ((km 5), .int), ((km 8), .int), ((km 11), .int)])) (va_Qi (fun (r : Int32) (_ : Unit) => r = o.1 ∧ True) (fun (_ : Unit) t => q_B (dC, dI) A [((bm 0), .inr (10, [.int th, .ref (bm 1), .int tn, .int at_, .int wr, .ref (bm 2), .ref (bm 3), .int rm_, .ref (bm 4), .ref (bm 5), .int mn, .ref (bm 6), .ref (bm 7), .int sn, .ref (bm 8), .ref (bm 9), .ref (bm 10), .int ac, .long dn, .ref (bm 11), .ref (bm 12), .ref (bm 13), .ref (bm 14), .int hi])), ((bm 4), .inl ((km 4), 8, .inl ru)), ((bm 5), .inl ((km 5), 48, .inl td)), ((bm 8), .inl ((km 8), 279, .inl (o.2.1))), ((bm 11), .inl ((km 11), 98, .inl (o.2.2)))] [((km 4), .int), ((km 5), .int), ((km 8), .int), ((km 11), .int)] t) A) 0 0 A := by
  refine Met.ofW (cc := cX10_lost) (maxL := 4) (ret := (some .int)) (by decide) rfl ?_
  intro p e s m args below meth c s₁ B hml hv
  obtain ⟨rfl, hP, hK, hD, hA⟩ := hv
  have hx := B.exec
  have hb := B.bytes
  have hr := B.returns
  have hts := atoms_spec (ws := .code yX10_lost cX10_lost 4 (some .int) :: wA) B.pre
  have hown : s.vm.findClass RX10 = some m.cls := findClass_of_methodNamed B.named
  have hlocks := B.notSynchronized
  have hS : va_S A s.heap s.heap [] := va_S.rf
  have hl := lv_entry ([.ref (bm 0), .int z1]) (n := 4) (Nat.le_of_ble_eq_true rfl)
  rw [lg_entry_eq]
  generalize (lg_sl ([.ref (bm 0), .int z1]) ++ List.replicate (4 - (lg_sl ([.ref (bm 0), .int z1])).length) Slot.unset).toArray = ls at hl ⊢
  have hl : lv_has ls 4 [(0, .ref (bm 0)), (1, .int z1)] := hl
  unfold F_X10_lost at hG
  refine lv_aload_n hx hb dX10_lost_0 rfl (lv_at hl 0 rfl) ?_
  refine lv_iload_n hx hb dX10_lost_1 rfl (lv_at hl 1 rfl) ?_
  obtain ⟨o_1, r_2, hG⟩ := q_bi hG
  refine q_goi (v := o_1) (va_runV (As := [.int z1]) (rest := []) ⟨hx, hb, hml, hown, hts⟩ (c_X10_isDevice l dC dI bm km th tn at_ wr rm_ mn sn ac hi dn z1 o_1 r_2) (cwV 1 hts (q_gV m_472 m_473 m_474 m_5 m_475) rfl rfl rfl hdV_yX10_isDevice_1 ⟨Nat.le_of_ble_eq_true rfl, Nat.le_of_ble_eq_true rfl⟩) (q_preV hK hP (q := (RX10, TX10, 24)) (ci := 10) (q0 := 0) rfl rfl [0] rfl [] rfl) rfl rfl hl.1 rfl (lv_room (Nat.le_of_ble_eq_true rfl)) dX10_lost_2 ⟨Nat.le_of_ble_eq_true rfl, Nat.le_of_ble_eq_true rfl⟩) hP hS (fun H locs hP hS => ?_)
  refine lv_if_eq (tgt := 20) hx hb dX10_lost_5 (by decide) (fun c_3 => ?_) (fun c_3 => ?_)
  · have hG := q_ifp c_3 hG
    refine lv_iconst (v := (-1)) hx hb dX10_lost_20 (by decide) ?_
    obtain rfl := Option.some.inj hG
    have hP9 := hP.sub (ws' := [((bm 0), .inr (10, [.int th, .ref (bm 1), .int tn, .int at_, .int wr, .ref (bm 2), .ref (bm 3), .int rm_, .ref (bm 4), .ref (bm 5), .int mn, .ref (bm 6), .ref (bm 7), .int sn, .ref (bm 8), .ref (bm 9), .ref (bm 10), .int ac, .long dn, .ref (bm 11), .ref (bm 12), .ref (bm 13), .ref (bm 14), .int hi])), ((bm 4), .inl ((km 4), 8, .inl ru)), ((bm 5), .inl ((km 5), 48, .inl td)), ((bm 8), .inl ((km 8), 279, .inl nw)), ((bm 11), .inl ((km 11), 98, .inl as_))]) [0, 1, 2, 3, 4] rfl
    have hD9 := hD.sub (ws' := [((bm 0), .inr (10, [.int th, .ref (bm 1), .int tn, .int at_, .int wr, .ref (bm 2), .ref (bm 3), .int rm_, .ref (bm 4), .ref (bm 5), .int mn, .ref (bm 6), .ref (bm 7), .int sn, .ref (bm 8), .ref (bm 9), .ref (bm 10), .int ac, .long dn, .ref (bm 11), .ref (bm 12), .ref (bm 13), .ref (bm 14), .int hi])), ((bm 4), .inl ((km 4), 8, .inl ru)), ((bm 5), .inl ((km 5), 48, .inl td)), ((bm 8), .inl ((km 8), 279, .inl nw)), ((bm 11), .inl ((km 11), 98, .inl as_))]) [0, 1, 2, 3, 4] (by decide) rfl
    have hK9 := hK.sub (tys' := [((km 4), .int), ((km 5), .int), ((km 8), .int), ((km 11), .int)]) [0, 1, 2, 3] rfl
    exact W.iret (v := (-1)) hx hb hr (fun t ht hW => ⟨⟨(-1), (), rfl, ⟨rfl, trivial⟩, by rw [ht]; exact hP9, va_K.moved hW.alike hK9, hD9⟩, hS.F ht⟩) hS.2.2 dX10_lost_21
  · have hG := q_ifn c_3 hG
    refine lv_aload_n hx hb dX10_lost_8 rfl (lv_at hl 0 rfl) ?_
    refine va_get (D := (dC, dI)) (ci := 10) (v := .ref (bm 8)) (C := RX10) (T := TX10) (N := 24) hx hb hts iA_10 hown hK hP 0 rfl rfl 14 (by decide) (hts (.fieldLink RX10 31 "HubTreeModel" "now" "[I") (List.mem_cons_of_mem _ m_122)) (fun _ h9 => h9) rfl dX10_lost_9 ?_
    refine lv_bipush (v := 72) hx hb dX10_lost_12 (by decide) ?_
    refine lv_iload_n hx hb dX10_lost_14 rfl (lv_at hl 1 rfl) ?_
    refine lv_iadd hx hb dX10_lost_15 ?_
    obtain ⟨h_4, hG⟩ := q_ix hG
    refine va_iald hx hb hK hP 3 2 rfl rfl (i := (72 + z1)) h_4 dX10_lost_16 ?_
    refine q_top (y := (nw (72 + z1).toNatClampNeg)) rfl ?_
    refine lv_if_ne (tgt := 22) hx hb dX10_lost_17 (by decide) (fun c_5 => ?_) (fun c_5 => ?_)
    · have hG := q_ifn c_5 hG
      refine lv_aload_n hx hb dX10_lost_22 rfl (lv_at hl 0 rfl) ?_
      obtain ⟨o_6, r_7, hG⟩ := q_bi hG
      refine q_gov2 (wr := [((bm 4), .inl ((km 4), 8, .inl ru)), ((bm 5), .inl ((km 5), 48, .inl td))]) (va_runV (As := []) (rest := []) ⟨hx, hb, hml, hown, hts⟩ (c_X10_putAside l dC dI bm km th tn at_ wr rm_ mn sn ac hi dn nw as_ (va_A [((bm 0), .inr (10, [.int th, .ref (bm 1), .int tn, .int at_, .int wr, .ref (bm 2), .ref (bm 3), .int rm_, .ref (bm 4), .ref (bm 5), .int mn, .ref (bm 6), .ref (bm 7), .int sn, .ref (bm 8), .ref (bm 9), .ref (bm 10), .int ac, .long dn, .ref (bm 11), .ref (bm 12), .ref (bm 13), .ref (bm 14), .int hi])), ((bm 8), .inl ((km 8), 279, .inl nw)), ((bm 11), .inl ((km 11), 98, .inl as_))] H.size) o_6 r_7) (cwV 0 hts (q_gV m_1191 m_1192 m_1193 m_5 m_1194) rfl rfl rfl hdV_yX10_putAside_0 ⟨Nat.le_of_ble_eq_true rfl, Nat.le_of_ble_eq_true rfl⟩) (q_preWV hK hP hD (q := (RX10, TX10, 24)) (ci := 10) (q0 := 0) rfl rfl [0, 3, 4] (by decide) rfl rfl [2, 3] rfl) rfl rfl hl.1 rfl (lv_room (Nat.le_of_ble_eq_true rfl)) dX10_lost_23 ⟨Nat.le_of_ble_eq_true rfl, Nat.le_of_ble_eq_true rfl⟩) hK hP hD hS hA [0, 3, 4] [1, 2] rfl rfl (by decide) (by decide) (fun _ H locs _ hP hD hK9 hS => ?_)
      have hP : va_P (dC, dI) vwCl [((bm 0), .inr (10, [.int th, .ref (bm 1), .int tn, .int at_, .int wr, .ref (bm 2), .ref (bm 3), .int rm_, .ref (bm 4), .ref (bm 5), .int mn, .ref (bm 6), .ref (bm 7), .int sn, .ref (bm 8), .ref (bm 9), .ref (bm 10), .int ac, .long dn, .ref (bm 11), .ref (bm 12), .ref (bm 13), .ref (bm 14), .int hi])), ((bm 4), .inl ((km 4), 8, .inl ru)), ((bm 5), .inl ((km 5), 48, .inl td)), ((bm 8), .inl ((km 8), 279, .inl nw)), ((bm 11), .inl ((km 11), 98, .inl (o_6)))] H := hP.sub [2, 0, 1, 3, 4] rfl
      have hD : va_D A [((bm 0), .inr (10, [.int th, .ref (bm 1), .int tn, .int at_, .int wr, .ref (bm 2), .ref (bm 3), .int rm_, .ref (bm 4), .ref (bm 5), .int mn, .ref (bm 6), .ref (bm 7), .int sn, .ref (bm 8), .ref (bm 9), .ref (bm 10), .int ac, .long dn, .ref (bm 11), .ref (bm 12), .ref (bm 13), .ref (bm 14), .int hi])), ((bm 4), .inl ((km 4), 8, .inl ru)), ((bm 5), .inl ((km 5), 48, .inl td)), ((bm 8), .inl ((km 8), 279, .inl nw)), ((bm 11), .inl ((km 11), 98, .inl (o_6)))] := hD.sub [2, 0, 1, 3, 4] (by decide) rfl
      refine lv_aload_n hx hb dX10_lost_26 rfl (lv_at hl 0 rfl) ?_
      refine lv_bipush (v := 6) hx hb dX10_lost_27 (by decide) ?_
      obtain ⟨o_8, r_9, hG⟩ := q_bi hG
      refine q_goi (v := o_8) (va_runV (As := [.int 6]) (rest := []) ⟨hx, hb, hml, hown, hts⟩ (c_X10_those l dC dI bm km th tn at_ wr rm_ mn sn ac hi dn nw 6 o_8 r_9) (cwV 1 hts (q_gV m_1018 m_1019 m_1020 m_5 m_1021) rfl rfl rfl hdV_yX10_those_1 ⟨Nat.le_of_ble_eq_true rfl, Nat.le_of_ble_eq_true rfl⟩) (q_preV hK hP (q := (RX10, TX10, 24)) (ci := 10) (q0 := 0) rfl rfl [0, 3] rfl [2] rfl) rfl rfl hl.1 rfl (lv_room (Nat.le_of_ble_eq_true rfl)) dX10_lost_29 ⟨Nat.le_of_ble_eq_true rfl, Nat.le_of_ble_eq_true rfl⟩) hP hS (fun H locs hP hS => ?_)
      refine lv_istore_n (lv' := [(2, .int o_8), (0, .ref (bm 0)), (1, .int z1)]) hx hb dX10_lost_32 rfl hl (by decide) rfl (fun ls hl => ?_)
      refine lv_aload_n hx hb dX10_lost_33 rfl (lv_at hl 1 rfl) ?_
      refine lv_iload_n hx hb dX10_lost_34 rfl (lv_at hl 2 rfl) ?_
      obtain ⟨o_10, r_11, hG⟩ := q_bi hG
      refine q_gov2 (wr := [((bm 11), .inl ((km 11), 98, .inl (o_6)))]) (va_runV (As := [.int z1]) (rest := []) ⟨hx, hb, hml, hown, hts⟩ (c_X10_turnsSupply l dC dI bm km th tn at_ wr rm_ mn sn ac hi dn ru td nw z1 (va_A [((bm 0), .inr (10, [.int th, .ref (bm 1), .int tn, .int at_, .int wr, .ref (bm 2), .ref (bm 3), .int rm_, .ref (bm 4), .ref (bm 5), .int mn, .ref (bm 6), .ref (bm 7), .int sn, .ref (bm 8), .ref (bm 9), .ref (bm 10), .int ac, .long dn, .ref (bm 11), .ref (bm 12), .ref (bm 13), .ref (bm 14), .int hi])), ((bm 4), .inl ((km 4), 8, .inl ru)), ((bm 5), .inl ((km 5), 48, .inl td)), ((bm 8), .inl ((km 8), 279, .inl nw))] H.size) o_10 r_11) (cwV 1 hts (q_gV m_1022 m_1023 m_1024 m_5 m_1025) rfl rfl rfl hdV_yX10_turnsSupply_1 ⟨Nat.le_of_ble_eq_true rfl, Nat.le_of_ble_eq_true rfl⟩) (q_preWV hK hP hD (q := (RX10, TX10, 24)) (ci := 10) (q0 := 0) rfl rfl [0, 1, 2, 3] (by decide) rfl rfl [0, 1, 2] rfl) rfl rfl hl.1 rfl (lv_room (Nat.le_of_ble_eq_true rfl)) dX10_lost_35 ⟨Nat.le_of_ble_eq_true rfl, Nat.le_of_ble_eq_true rfl⟩) hK hP hD hS hA [0, 1, 2, 3] [4] rfl rfl (by decide) (by decide) (fun _ H locs _ hP hD hK9 hS => ?_)
      have hP : va_P (dC, dI) vwCl [((bm 0), .inr (10, [.int th, .ref (bm 1), .int tn, .int at_, .int wr, .ref (bm 2), .ref (bm 3), .int rm_, .ref (bm 4), .ref (bm 5), .int mn, .ref (bm 6), .ref (bm 7), .int sn, .ref (bm 8), .ref (bm 9), .ref (bm 10), .int ac, .long dn, .ref (bm 11), .ref (bm 12), .ref (bm 13), .ref (bm 14), .int hi])), ((bm 4), .inl ((km 4), 8, .inl ru)), ((bm 5), .inl ((km 5), 48, .inl td)), ((bm 8), .inl ((km 8), 279, .inl (o_10))), ((bm 11), .inl ((km 11), 98, .inl (o_6)))] H := hP.sub [1, 2, 3, 4, 0] rfl
      have hD : va_D A [((bm 0), .inr (10, [.int th, .ref (bm 1), .int tn, .int at_, .int wr, .ref (bm 2), .ref (bm 3), .int rm_, .ref (bm 4), .ref (bm 5), .int mn, .ref (bm 6), .ref (bm 7), .int sn, .ref (bm 8), .ref (bm 9), .ref (bm 10), .int ac, .long dn, .ref (bm 11), .ref (bm 12), .ref (bm 13), .ref (bm 14), .int hi])), ((bm 4), .inl ((km 4), 8, .inl ru)), ((bm 5), .inl ((km 5), 48, .inl td)), ((bm 8), .inl ((km 8), 279, .inl (o_10))), ((bm 11), .inl ((km 11), 98, .inl (o_6)))] := hD.sub [1, 2, 3, 4, 0] (by decide) rfl
      refine lv_iload_n hx hb dX10_lost_38 rfl (lv_at hl 0 rfl) ?_
      refine lv_aload_n hx hb dX10_lost_39 rfl (lv_at hl 1 rfl) ?_
      refine lv_bipush (v := 6) hx hb dX10_lost_40 (by decide) ?_
      obtain ⟨o_12, r_13, hG⟩ := q_bi hG
      refine q_goi (v := o_12) (va_runV (As := [.int 6]) (rest := [.int o_8]) ⟨hx, hb, hml, hown, hts⟩ (c_X10_those l dC dI bm km th tn at_ wr rm_ mn sn ac hi dn (o_10) 6 o_12 r_13) (cwV 1 hts (q_gV m_1018 m_1019 m_1020 m_5 m_1021) rfl rfl rfl hdV_yX10_those_1 ⟨Nat.le_of_ble_eq_true rfl, Nat.le_of_ble_eq_true rfl⟩) (q_preV hK hP (q := (RX10, TX10, 24)) (ci := 10) (q0 := 0) rfl rfl [0, 3] rfl [2] rfl) rfl rfl hl.1 rfl (lv_room (Nat.le_of_ble_eq_true rfl)) dX10_lost_42 ⟨Nat.le_of_ble_eq_true rfl, Nat.le_of_ble_eq_true rfl⟩) hP hS (fun H locs hP hS => ?_)
      refine lv_iconst (v := (-1)) hx hb dX10_lost_45 (by decide) ?_
      refine lv_ixor hx hb dX10_lost_46 ?_
      refine lv_iand hx hb dX10_lost_47 ?_
      refine lv_istore_n (lv' := [(3, .int (o_8 &&& (o_12 ^^^ (-1)))), (2, .int o_8), (0, .ref (bm 0)), (1, .int z1)]) hx hb dX10_lost_48 rfl hl (by decide) rfl (fun ls hl => ?_)
      refine lv_aload_n hx hb dX10_lost_49 rfl (lv_at hl 2 rfl) ?_
      obtain ⟨o_14, r_15, hG⟩ := q_bi hG
      refine q_gov2 (wr := [((bm 4), .inl ((km 4), 8, .inl ru)), ((bm 5), .inl ((km 5), 48, .inl td))]) (va_runV (As := []) (rest := []) ⟨hx, hb, hml, hown, hts⟩ (c_X10_bringBack l dC dI bm km th tn at_ wr rm_ mn sn ac hi dn (o_10) (o_6) (va_A [((bm 0), .inr (10, [.int th, .ref (bm 1), .int tn, .int at_, .int wr, .ref (bm 2), .ref (bm 3), .int rm_, .ref (bm 4), .ref (bm 5), .int mn, .ref (bm 6), .ref (bm 7), .int sn, .ref (bm 8), .ref (bm 9), .ref (bm 10), .int ac, .long dn, .ref (bm 11), .ref (bm 12), .ref (bm 13), .ref (bm 14), .int hi])), ((bm 8), .inl ((km 8), 279, .inl (o_10))), ((bm 11), .inl ((km 11), 98, .inl (o_6)))] H.size) o_14 r_15) (cwV 0 hts (q_gV m_1199 m_1200 m_1201 m_5 m_1202) rfl rfl rfl hdV_yX10_bringBack_0 ⟨Nat.le_of_ble_eq_true rfl, Nat.le_of_ble_eq_true rfl⟩) (q_preWV hK hP hD (q := (RX10, TX10, 24)) (ci := 10) (q0 := 0) rfl rfl [0, 3, 4] (by decide) rfl rfl [2, 3] rfl) rfl rfl hl.1 rfl (lv_room (Nat.le_of_ble_eq_true rfl)) dX10_lost_50 ⟨Nat.le_of_ble_eq_true rfl, Nat.le_of_ble_eq_true rfl⟩) hK hP hD hS hA [0, 3, 4] [1, 2] rfl rfl (by decide) (by decide) (fun _ H locs _ hP hD hK9 hS => ?_)
      have hP : va_P (dC, dI) vwCl [((bm 0), .inr (10, [.int th, .ref (bm 1), .int tn, .int at_, .int wr, .ref (bm 2), .ref (bm 3), .int rm_, .ref (bm 4), .ref (bm 5), .int mn, .ref (bm 6), .ref (bm 7), .int sn, .ref (bm 8), .ref (bm 9), .ref (bm 10), .int ac, .long dn, .ref (bm 11), .ref (bm 12), .ref (bm 13), .ref (bm 14), .int hi])), ((bm 4), .inl ((km 4), 8, .inl ru)), ((bm 5), .inl ((km 5), 48, .inl td)), ((bm 8), .inl ((km 8), 279, .inl (o_14))), ((bm 11), .inl ((km 11), 98, .inl (o_6)))] H := hP.sub [2, 0, 1, 3, 4] rfl
      have hD : va_D A [((bm 0), .inr (10, [.int th, .ref (bm 1), .int tn, .int at_, .int wr, .ref (bm 2), .ref (bm 3), .int rm_, .ref (bm 4), .ref (bm 5), .int mn, .ref (bm 6), .ref (bm 7), .int sn, .ref (bm 8), .ref (bm 9), .ref (bm 10), .int ac, .long dn, .ref (bm 11), .ref (bm 12), .ref (bm 13), .ref (bm 14), .int hi])), ((bm 4), .inl ((km 4), 8, .inl ru)), ((bm 5), .inl ((km 5), 48, .inl td)), ((bm 8), .inl ((km 8), 279, .inl (o_14))), ((bm 11), .inl ((km 11), 98, .inl (o_6)))] := hD.sub [2, 0, 1, 3, 4] (by decide) rfl
      refine lv_iload_n hx hb dX10_lost_53 rfl (lv_at hl 0 rfl) ?_
      obtain rfl := Option.some.inj hG
      have hP9 := hP.sub (ws' := [((bm 0), .inr (10, [.int th, .ref (bm 1), .int tn, .int at_, .int wr, .ref (bm 2), .ref (bm 3), .int rm_, .ref (bm 4), .ref (bm 5), .int mn, .ref (bm 6), .ref (bm 7), .int sn, .ref (bm 8), .ref (bm 9), .ref (bm 10), .int ac, .long dn, .ref (bm 11), .ref (bm 12), .ref (bm 13), .ref (bm 14), .int hi])), ((bm 4), .inl ((km 4), 8, .inl ru)), ((bm 5), .inl ((km 5), 48, .inl td)), ((bm 8), .inl ((km 8), 279, .inl (o_14))), ((bm 11), .inl ((km 11), 98, .inl (o_6)))]) [0, 1, 2, 3, 4] rfl
      have hD9 := hD.sub (ws' := [((bm 0), .inr (10, [.int th, .ref (bm 1), .int tn, .int at_, .int wr, .ref (bm 2), .ref (bm 3), .int rm_, .ref (bm 4), .ref (bm 5), .int mn, .ref (bm 6), .ref (bm 7), .int sn, .ref (bm 8), .ref (bm 9), .ref (bm 10), .int ac, .long dn, .ref (bm 11), .ref (bm 12), .ref (bm 13), .ref (bm 14), .int hi])), ((bm 4), .inl ((km 4), 8, .inl ru)), ((bm 5), .inl ((km 5), 48, .inl td)), ((bm 8), .inl ((km 8), 279, .inl (o_14))), ((bm 11), .inl ((km 11), 98, .inl (o_6)))]) [0, 1, 2, 3, 4] (by decide) rfl
      have hK9 := hK.sub (tys' := [((km 4), .int), ((km 5), .int), ((km 8), .int), ((km 11), .int)]) [0, 1, 2, 3] rfl
      exact W.iret (v := (o_8 &&& (o_12 ^^^ (-1)))) hx hb hr (fun t ht hW => ⟨⟨(o_8 &&& (o_12 ^^^ (-1))), (), rfl, ⟨rfl, trivial⟩, by rw [ht]; exact hP9, va_K.moved hW.alike hK9, hD9⟩, hS.F ht⟩) hS.2.2 dX10_lost_54
    · have hG := q_ifp c_5 hG
      refine lv_iconst (v := (-1)) hx hb dX10_lost_20 (by decide) ?_
      obtain rfl := Option.some.inj hG
      have hP9 := hP.sub (ws' := [((bm 0), .inr (10, [.int th, .ref (bm 1), .int tn, .int at_, .int wr, .ref (bm 2), .ref (bm 3), .int rm_, .ref (bm 4), .ref (bm 5), .int mn, .ref (bm 6), .ref (bm 7), .int sn, .ref (bm 8), .ref (bm 9), .ref (bm 10), .int ac, .long dn, .ref (bm 11), .ref (bm 12), .ref (bm 13), .ref (bm 14), .int hi])), ((bm 4), .inl ((km 4), 8, .inl ru)), ((bm 5), .inl ((km 5), 48, .inl td)), ((bm 8), .inl ((km 8), 279, .inl nw)), ((bm 11), .inl ((km 11), 98, .inl as_))]) [0, 1, 2, 3, 4] rfl
      have hD9 := hD.sub (ws' := [((bm 0), .inr (10, [.int th, .ref (bm 1), .int tn, .int at_, .int wr, .ref (bm 2), .ref (bm 3), .int rm_, .ref (bm 4), .ref (bm 5), .int mn, .ref (bm 6), .ref (bm 7), .int sn, .ref (bm 8), .ref (bm 9), .ref (bm 10), .int ac, .long dn, .ref (bm 11), .ref (bm 12), .ref (bm 13), .ref (bm 14), .int hi])), ((bm 4), .inl ((km 4), 8, .inl ru)), ((bm 5), .inl ((km 5), 48, .inl td)), ((bm 8), .inl ((km 8), 279, .inl nw)), ((bm 11), .inl ((km 11), 98, .inl as_))]) [0, 1, 2, 3, 4] (by decide) rfl
      have hK9 := hK.sub (tys' := [((km 4), .int), ((km 5), .int), ((km 8), .int), ((km 11), .int)]) [0, 1, 2, 3] rfl
      exact W.iret (v := (-1)) hx hb hr (fun t ht hW => ⟨⟨(-1), (), rfl, ⟨rfl, trivial⟩, by rw [ht]; exact hP9, va_K.moved hW.alike hK9, hD9⟩, hS.F ht⟩) hS.2.2 dX10_lost_21

def FL_X10_shares_36 (mn : Int32) (td : Nat → Int32) (nw : Nat → Int32) (z1 : Int32) (z2 : Int32) : Nat → Int32 → Int32 → Option (Int32)
  | 0, _, _ => none
  | n + 1, x3_36, x4_36 => (if mn ≤ x4_36 then (if x3_36 = 0 then some (0) else ((F_X10_toldOf td z1 4).bind fun o_12 => (if ¬ x3_36 = 0 then some (((z2 * o_12) / x3_36)) else none))) else ((F_X10_state nw x4_36).bind fun o_15 => (if o_15 = 6 then ((F_X10_toldOf td x4_36 4).bind fun o_18 => (FL_X10_shares_36 mn td nw z1 z2 n (x3_36 + o_18) (x4_36 + 1))) else (FL_X10_shares_36 mn td nw z1 z2 n (x3_36 + 0) (x4_36 + 1)))))

def F_X10_shares (mn : Int32) (td : Nat → Int32) (nw : Nat → Int32) (z1 : Int32) (z2 : Int32) : Option (Int32) := ((F_X10_isDevice mn z1).bind fun o_1 => (if o_1 = 0 then some ((-1)) else ((F_X10_state nw z1).bind fun o_4 => (if o_4 = 6 then ((F_X10_in z2 0 999).bind fun o_7 => (if o_7 = 0 then some ((-1)) else (FL_X10_shares_36 mn td nw z1 z2 1000 0 0))) else some ((-1))))))
set_option maxHeartbeats 4000000 in
set_option maxRecDepth 100000 in
theorem c_X10_shares (l : Launch) (dC : Nat → ClassId) (dI : Nat → Nat → Nat) (bm : Nat → Nat) (km : Nat → ClassId) (th : Int32) (tn : Int32) (at_ : Int32) (wr : Int32) (rm_ : Int32) (mn : Int32) (sn : Int32) (ac : Int32) (hi : Int32) (dn : Int64) (td : Nat → Int32) (nw : Nat → Int32) (z1 : Int32) (z2 : Int32) (o : Int32) (hG : F_X10_shares mn td nw z1 z2 = some o) : Met l yX10_shares (.code yX10_shares cX10_shares 5 (some .int) :: wA) ({ frames := 2, cells := 0, slots := 0, locals := 43 }) (va_Pc [.ref (bm 0), .int z1, .int z2] (q_R (dC, dI) [((bm 0), .inr (10, [.int th, .ref (bm 1), .int tn, .int at_, .int wr, .ref (bm 2), .ref (bm 3), .int rm_, .ref (bm 4), .ref (bm 5), .int mn, .ref (bm 6), .ref (bm 7), .int sn, .ref (bm 8), .ref (bm 9), .ref (bm 10), .int ac, .long dn, .ref (bm 11), .ref (bm 12), .ref (bm 13), .ref (bm 14), .int hi])), ((bm 5), .inl ((km 5), 48, .inl td)), ((bm 8), .inl ((km 8), 279, .inl nw))] [((km 5), .int), ((km 8), .int)])) (q_i o) 0 0 (fun _ => False) := by
  refine Met.ofW (cc := cX10_shares) (maxL := 5) (ret := (some .int)) (by decide) rfl ?_
  intro p e s m args below meth c s₁ B hml hv
  obtain ⟨rfl, hP, hK⟩ := hv
  have hx := B.exec
  have hb := B.bytes
  have hr := B.returns
  have hts := atoms_spec (ws := .code yX10_shares cX10_shares 5 (some .int) :: wA) B.pre
  have hown : s.vm.findClass RX10 = some m.cls := findClass_of_methodNamed B.named
  have hlocks := B.notSynchronized
  have hS : va_S (fun _ => False) s.heap s.heap [] := va_S.rf
  have hl := lv_entry ([.ref (bm 0), .int z1, .int z2]) (n := 5) (Nat.le_of_ble_eq_true rfl)
  rw [lg_entry_eq]
  generalize (lg_sl ([.ref (bm 0), .int z1, .int z2]) ++ List.replicate (5 - (lg_sl ([.ref (bm 0), .int z1, .int z2])).length) Slot.unset).toArray = ls at hl ⊢
  have hl : lv_has ls 5 [(0, .ref (bm 0)), (1, .int z1), (2, .int z2)] := hl
  unfold F_X10_shares at hG
  refine lv_aload_n hx hb dX10_shares_0 rfl (lv_at hl 0 rfl) ?_
  refine lv_iload_n hx hb dX10_shares_1 rfl (lv_at hl 1 rfl) ?_
  obtain ⟨o_1, r_2, hG⟩ := q_bi hG
  refine q_goi (v := o_1) (va_runV (As := [.int z1]) (rest := []) ⟨hx, hb, hml, hown, hts⟩ (c_X10_isDevice l dC dI bm km th tn at_ wr rm_ mn sn ac hi dn z1 o_1 r_2) (cwV 1 hts (q_gV m_472 m_473 m_474 m_5 m_475) rfl rfl rfl hdV_yX10_isDevice_1 ⟨Nat.le_of_ble_eq_true rfl, Nat.le_of_ble_eq_true rfl⟩) (q_preV hK hP (q := (RX10, TX10, 24)) (ci := 10) (q0 := 0) rfl rfl [0] rfl [] rfl) rfl rfl hl.1 rfl (lv_room (Nat.le_of_ble_eq_true rfl)) dX10_shares_2 ⟨Nat.le_of_ble_eq_true rfl, Nat.le_of_ble_eq_true rfl⟩) hP hS (fun H locs hP hS => ?_)
  refine lv_if_eq (tgt := 29) hx hb dX10_shares_5 (by decide) (fun c_3 => ?_) (fun c_3 => ?_)
  · have hG := q_ifp c_3 hG
    refine lv_iconst (v := (-1)) hx hb dX10_shares_29 (by decide) ?_
    obtain rfl := Option.some.inj hG
    exact W.iret (v := (-1)) hx hb hr (fun t ht hW => ⟨⟨(-1), (), rfl, rfl, trivial⟩, hS.F ht⟩) hS.2.2 dX10_shares_30
  · have hG := q_ifn c_3 hG
    refine lv_aload_n hx hb dX10_shares_8 rfl (lv_at hl 0 rfl) ?_
    refine lv_iload_n hx hb dX10_shares_9 rfl (lv_at hl 1 rfl) ?_
    obtain ⟨o_4, r_5, hG⟩ := q_bi hG
    refine q_goi (v := o_4) (va_runV (As := [.int z1]) (rest := []) ⟨hx, hb, hml, hown, hts⟩ (c_X10_state l dC dI bm km th tn at_ wr rm_ mn sn ac hi dn nw z1 o_4 r_5) (cwV 1 hts (q_gV m_504 m_505 m_506 m_5 m_507) rfl rfl rfl hdV_yX10_state_1 ⟨Nat.le_of_ble_eq_true rfl, Nat.le_of_ble_eq_true rfl⟩) (q_preV hK hP (q := (RX10, TX10, 24)) (ci := 10) (q0 := 0) rfl rfl [0, 2] rfl [1] rfl) rfl rfl hl.1 rfl (lv_room (Nat.le_of_ble_eq_true rfl)) dX10_shares_10 ⟨Nat.le_of_ble_eq_true rfl, Nat.le_of_ble_eq_true rfl⟩) hP hS (fun H locs hP hS => ?_)
    refine lv_bipush (v := 6) hx hb dX10_shares_13 (by decide) ?_
    refine lv_icmp_ne (tgt := 29) hx hb dX10_shares_15 (by decide) (fun c_6 => ?_) (fun c_6 => ?_)
    · have hG := q_ifn c_6 hG
      refine lv_iconst (v := (-1)) hx hb dX10_shares_29 (by decide) ?_
      obtain rfl := Option.some.inj hG
      exact W.iret (v := (-1)) hx hb hr (fun t ht hW => ⟨⟨(-1), (), rfl, rfl, trivial⟩, hS.F ht⟩) hS.2.2 dX10_shares_30
    · have hG := q_ifp c_6 hG
      refine lv_iload_n hx hb dX10_shares_18 rfl (lv_at hl 2 rfl) ?_
      refine lv_iconst (v := 0) hx hb dX10_shares_19 (by decide) ?_
      refine lv_sipush (v := 999) hx hb dX10_shares_20 (by decide) ?_
      obtain ⟨o_7, r_8, hG⟩ := q_bi hG
      refine q_goi (v := o_7) (va_runS (As := [.int z2, .int 0, .int 999]) (rest := []) ⟨hx, hb, hml, hown, hts⟩ (c_X10_in l dC dI z2 0 999 o_7 r_8) (va_cwS 3 hts (q_gS m_157 m_158 m_5 m_159) rfl rfl rfl hdS_yX10_in_3 ⟨Nat.le_of_ble_eq_true rfl, Nat.le_of_ble_eq_true rfl⟩) (q_preS hK hP [] rfl [] rfl) rfl rfl hl.1 rfl (lv_room (Nat.le_of_ble_eq_true rfl)) dX10_shares_23 ⟨Nat.le_of_ble_eq_true rfl, Nat.le_of_ble_eq_true rfl⟩) hP hS (fun H locs hP hS => ?_)
      refine lv_if_ne (tgt := 31) hx hb dX10_shares_26 (by decide) (fun c_9 => ?_) (fun c_9 => ?_)
      · have hG := q_ifn c_9 hG
        refine lv_iconst (v := 0) hx hb dX10_shares_31 (by decide) ?_
        refine lv_istore_n (lv' := [(3, .int 0), (0, .ref (bm 0)), (1, .int z1), (2, .int z2)]) hx hb dX10_shares_32 rfl hl (by decide) rfl (fun ls hl => ?_)
        refine lv_iconst (v := 0) hx hb dX10_shares_33 (by decide) ?_
        refine lv_istore (lv' := [(4, .int 0), (3, .int 0), (0, .ref (bm 0)), (1, .int z1), (2, .int z2)]) hx hb dX10_shares_34 hl (by decide) rfl (fun ls hl => ?_)
        have L_36 : ∀ (n_36 : Nat) (x3_36 : Int32) (x4_36 : Int32) (H : Heap) (locs : List Loc) (ls : Array Slot), FL_X10_shares_36 mn td nw z1 z2 n_36 x3_36 x4_36 = some o → va_P (dC, dI) vwCl [((bm 0), .inr (10, [.int th, .ref (bm 1), .int tn, .int at_, .int wr, .ref (bm 2), .ref (bm 3), .int rm_, .ref (bm 4), .ref (bm 5), .int mn, .ref (bm 6), .ref (bm 7), .int sn, .ref (bm 8), .ref (bm 9), .ref (bm 10), .int ac, .long dn, .ref (bm 11), .ref (bm 12), .ref (bm 13), .ref (bm 14), .int hi])), ((bm 5), .inl ((km 5), 48, .inl td)), ((bm 8), .inl ((km 8), 279, .inl nw))] H → va_S (fun _ => False) s.heap H locs → lv_has ls 5 [(4, .int x4_36), (3, .int x3_36), (0, .ref (bm 0)), (1, .int z1), (2, .int z2)] → W p l e (headSpec (.code yX10_shares cX10_shares 5 (some .int) :: wA) ({ frames := 2, cells := 0, slots := 0, locals := 43 })).room s m #[.ref (bm 0), .int z1, .int z2] below meth c H locs 0 0 (MQ below (q_i o) #[.ref (bm 0), .int z1, .int z2] s 0 0 (fun _ => False)) (F0 m 36 ls []) := by
          intro n_36
          induction n_36 with
          | zero =>
            intro x3_36 x4_36 H locs ls hG
            exact q_no hG
          | succ n_36 ih_36 =>
            intro x3_36 x4_36 H locs ls hG hP hS hl
            unfold FL_X10_shares_36 at hG
            refine lv_iload hx hb dX10_shares_36 (lv_at hl 0 rfl) ?_
            refine lv_aload_n hx hb dX10_shares_38 rfl (lv_at hl 2 rfl) ?_
            refine va_get (D := (dC, dI)) (ci := 10) (v := .int mn) (C := RX10) (T := TX10) (N := 24) hx hb hts iA_10 hown hK hP 0 rfl rfl 10 (by decide) (hts (.fieldLink RX10 132 "HubTreeModel" "many" "I") (List.mem_cons_of_mem _ m_433)) (fun _ h9 => h9) rfl dX10_shares_39 ?_
            refine lv_icmp_ge (tgt := 76) hx hb dX10_shares_42 (by decide) (fun c_10 => ?_) (fun c_10 => ?_)
            · have hG := q_ifp c_10 hG
              refine lv_iload_n hx hb dX10_shares_76 rfl (lv_at hl 1 rfl) ?_
              refine lv_if_ne (tgt := 84) hx hb dX10_shares_77 (by decide) (fun c_11 => ?_) (fun c_11 => ?_)
              · have hG := q_ifn c_11 hG
                refine lv_iload_n hx hb dX10_shares_84 rfl (lv_at hl 4 rfl) ?_
                refine lv_aload_n hx hb dX10_shares_85 rfl (lv_at hl 2 rfl) ?_
                refine lv_iload_n hx hb dX10_shares_86 rfl (lv_at hl 3 rfl) ?_
                refine lv_iconst (v := 4) hx hb dX10_shares_87 (by decide) ?_
                obtain ⟨o_12, r_13, hG⟩ := q_bi hG
                refine q_goi (v := o_12) (va_runV (As := [.int z1, .int 4]) (rest := [.int z2]) ⟨hx, hb, hml, hown, hts⟩ (c_X10_toldOf l dC dI bm km th tn at_ wr rm_ mn sn ac hi dn td z1 4 o_12 r_13) (cwV 2 hts (q_gV m_440 m_441 m_442 m_5 m_443) rfl rfl rfl hdV_yX10_toldOf_2 ⟨Nat.le_of_ble_eq_true rfl, Nat.le_of_ble_eq_true rfl⟩) (q_preV hK hP (q := (RX10, TX10, 24)) (ci := 10) (q0 := 0) rfl rfl [0, 1] rfl [0] rfl) rfl rfl hl.1 rfl (lv_room (Nat.le_of_ble_eq_true rfl)) dX10_shares_88 ⟨Nat.le_of_ble_eq_true rfl, Nat.le_of_ble_eq_true rfl⟩) hP hS (fun H locs hP hS => ?_)
                refine lv_imul hx hb dX10_shares_91 ?_
                refine lv_iload_n hx hb dX10_shares_92 rfl (lv_at hl 1 rfl) ?_
                obtain ⟨g_14, hG⟩ := q_gu hG
                refine lv_idiv hx hb dX10_shares_93 g_14 ?_
                obtain rfl := Option.some.inj hG
                exact W.iret (v := ((z2 * o_12) / x3_36)) hx hb hr (fun t ht hW => ⟨⟨((z2 * o_12) / x3_36), (), rfl, rfl, trivial⟩, hS.F ht⟩) hS.2.2 dX10_shares_94
              · have hG := q_ifp c_11 hG
                refine lv_iconst (v := 0) hx hb dX10_shares_80 (by decide) ?_
                refine lv_goto (tgt := 94) hx hb dX10_shares_81 (by decide) ?_
                obtain rfl := Option.some.inj hG
                exact W.iret (v := 0) hx hb hr (fun t ht hW => ⟨⟨0, (), rfl, rfl, trivial⟩, hS.F ht⟩) hS.2.2 dX10_shares_94
            · have hG := q_ifn c_10 hG
              refine lv_iload_n hx hb dX10_shares_45 rfl (lv_at hl 1 rfl) ?_
              refine lv_aload_n hx hb dX10_shares_46 rfl (lv_at hl 2 rfl) ?_
              refine lv_iload hx hb dX10_shares_47 (lv_at hl 0 rfl) ?_
              obtain ⟨o_15, r_16, hG⟩ := q_bi hG
              refine q_goi (v := o_15) (va_runV (As := [.int x4_36]) (rest := [.int x3_36]) ⟨hx, hb, hml, hown, hts⟩ (c_X10_state l dC dI bm km th tn at_ wr rm_ mn sn ac hi dn nw x4_36 o_15 r_16) (cwV 1 hts (q_gV m_504 m_505 m_506 m_5 m_507) rfl rfl rfl hdV_yX10_state_1 ⟨Nat.le_of_ble_eq_true rfl, Nat.le_of_ble_eq_true rfl⟩) (q_preV hK hP (q := (RX10, TX10, 24)) (ci := 10) (q0 := 0) rfl rfl [0, 2] rfl [1] rfl) rfl rfl hl.1 rfl (lv_room (Nat.le_of_ble_eq_true rfl)) dX10_shares_49 ⟨Nat.le_of_ble_eq_true rfl, Nat.le_of_ble_eq_true rfl⟩) hP hS (fun H locs hP hS => ?_)
              refine lv_bipush (v := 6) hx hb dX10_shares_52 (by decide) ?_
              refine lv_icmp_ne (tgt := 67) hx hb dX10_shares_54 (by decide) (fun c_17 => ?_) (fun c_17 => ?_)
              · have hG := q_ifn c_17 hG
                refine lv_iconst (v := 0) hx hb dX10_shares_67 (by decide) ?_
                refine lv_iadd hx hb dX10_shares_68 ?_
                refine lv_istore_n (lv' := [(3, .int (x3_36 + 0)), (4, .int x4_36), (0, .ref (bm 0)), (1, .int z1), (2, .int z2)]) hx hb dX10_shares_69 rfl hl (by decide) rfl (fun ls hl => ?_)
                refine lv_iinc (v := (x4_36 + 1)) (lv' := [(4, .int (x4_36 + 1)), (3, .int (x3_36 + 0)), (0, .ref (bm 0)), (1, .int z1), (2, .int z2)]) hx hb dX10_shares_70 hl (k := 1) rfl (rfl) (by decide) rfl (fun ls hl => ?_)
                refine lv_goto (tgt := 36) hx hb dX10_shares_73 (by decide) ?_
                exact ih_36 (x3_36 + 0) (x4_36 + 1) H locs ls hG hP hS (lv_sub hl [0, 1, 2, 3, 4] rfl)
              · have hG := q_ifp c_17 hG
                refine lv_aload_n hx hb dX10_shares_57 rfl (lv_at hl 2 rfl) ?_
                refine lv_iload hx hb dX10_shares_58 (lv_at hl 0 rfl) ?_
                refine lv_iconst (v := 4) hx hb dX10_shares_60 (by decide) ?_
                obtain ⟨o_18, r_19, hG⟩ := q_bi hG
                refine q_goi (v := o_18) (va_runV (As := [.int x4_36, .int 4]) (rest := [.int x3_36]) ⟨hx, hb, hml, hown, hts⟩ (c_X10_toldOf l dC dI bm km th tn at_ wr rm_ mn sn ac hi dn td x4_36 4 o_18 r_19) (cwV 2 hts (q_gV m_440 m_441 m_442 m_5 m_443) rfl rfl rfl hdV_yX10_toldOf_2 ⟨Nat.le_of_ble_eq_true rfl, Nat.le_of_ble_eq_true rfl⟩) (q_preV hK hP (q := (RX10, TX10, 24)) (ci := 10) (q0 := 0) rfl rfl [0, 1] rfl [0] rfl) rfl rfl hl.1 rfl (lv_room (Nat.le_of_ble_eq_true rfl)) dX10_shares_61 ⟨Nat.le_of_ble_eq_true rfl, Nat.le_of_ble_eq_true rfl⟩) hP hS (fun H locs hP hS => ?_)
                refine lv_goto (tgt := 68) hx hb dX10_shares_64 (by decide) ?_
                refine lv_iadd hx hb dX10_shares_68 ?_
                refine lv_istore_n (lv' := [(3, .int (x3_36 + o_18)), (4, .int x4_36), (0, .ref (bm 0)), (1, .int z1), (2, .int z2)]) hx hb dX10_shares_69 rfl hl (by decide) rfl (fun ls hl => ?_)
                refine lv_iinc (v := (x4_36 + 1)) (lv' := [(4, .int (x4_36 + 1)), (3, .int (x3_36 + o_18)), (0, .ref (bm 0)), (1, .int z1), (2, .int z2)]) hx hb dX10_shares_70 hl (k := 1) rfl (rfl) (by decide) rfl (fun ls hl => ?_)
                refine lv_goto (tgt := 36) hx hb dX10_shares_73 (by decide) ?_
                exact ih_36 (x3_36 + o_18) (x4_36 + 1) H locs ls hG hP hS (lv_sub hl [0, 1, 2, 3, 4] rfl)
        exact L_36 1000 0 0 H locs ls hG hP hS hl
      · have hG := q_ifp c_9 hG
        refine lv_iconst (v := (-1)) hx hb dX10_shares_29 (by decide) ?_
        obtain rfl := Option.some.inj hG
        exact W.iret (v := (-1)) hx hb hr (fun t ht hW => ⟨⟨(-1), (), rfl, rfl, trivial⟩, hS.F ht⟩) hS.2.2 dX10_shares_30

def F_X10_isScript (sn : Int32) (z1 : Int32) : Option (Int32) := ((F_X10_in z1 0 (sn - 1)).bind fun o_1 => (if o_1 = 0 ∨ o_1 = 1 then some (o_1) else none))
set_option maxHeartbeats 4000000 in
set_option maxRecDepth 100000 in
theorem c_X10_isScript (l : Launch) (dC : Nat → ClassId) (dI : Nat → Nat → Nat) (bm : Nat → Nat) (km : Nat → ClassId) (th : Int32) (tn : Int32) (at_ : Int32) (wr : Int32) (rm_ : Int32) (mn : Int32) (sn : Int32) (ac : Int32) (hi : Int32) (dn : Int64) (z1 : Int32) (o : Int32) (hG : F_X10_isScript sn z1 = some o) : Met l yX10_isScript (.code yX10_isScript cX10_isScript 2 (some .boolean) :: wA) ({ frames := 1, cells := 0, slots := 0, locals := 22 }) (va_Pc [.ref (bm 0), .int z1] (q_R (dC, dI) [((bm 0), .inr (10, [.int th, .ref (bm 1), .int tn, .int at_, .int wr, .ref (bm 2), .ref (bm 3), .int rm_, .ref (bm 4), .ref (bm 5), .int mn, .ref (bm 6), .ref (bm 7), .int sn, .ref (bm 8), .ref (bm 9), .ref (bm 10), .int ac, .long dn, .ref (bm 11), .ref (bm 12), .ref (bm 13), .ref (bm 14), .int hi]))] [])) (q_i o) 0 0 (fun _ => False) := by
  refine Met.ofW (cc := cX10_isScript) (maxL := 2) (ret := (some .boolean)) (by decide) rfl ?_
  intro p e s m args below meth c s₁ B hml hv
  obtain ⟨rfl, hP, hK⟩ := hv
  have hx := B.exec
  have hb := B.bytes
  have hr := B.returns
  have hts := atoms_spec (ws := .code yX10_isScript cX10_isScript 2 (some .boolean) :: wA) B.pre
  have hown : s.vm.findClass RX10 = some m.cls := findClass_of_methodNamed B.named
  have hlocks := B.notSynchronized
  have hS : va_S (fun _ => False) s.heap s.heap [] := va_S.rf
  have hl := lv_entry ([.ref (bm 0), .int z1]) (n := 2) (Nat.le_of_ble_eq_true rfl)
  rw [lg_entry_eq]
  generalize (lg_sl ([.ref (bm 0), .int z1]) ++ List.replicate (2 - (lg_sl ([.ref (bm 0), .int z1])).length) Slot.unset).toArray = ls at hl ⊢
  have hl : lv_has ls 2 [(0, .ref (bm 0)), (1, .int z1)] := hl
  unfold F_X10_isScript at hG
  refine lv_iload_n hx hb dX10_isScript_0 rfl (lv_at hl 1 rfl) ?_
  refine lv_iconst (v := 0) hx hb dX10_isScript_1 (by decide) ?_
  refine lv_aload_n hx hb dX10_isScript_2 rfl (lv_at hl 0 rfl) ?_
  refine va_get (D := (dC, dI)) (ci := 10) (v := .int sn) (C := RX10) (T := TX10) (N := 24) hx hb hts iA_10 hown hK hP 0 rfl rfl 13 (by decide) (hts (.fieldLink RX10 161 "HubTreeModel" "scripts" "I") (List.mem_cons_of_mem _ m_428)) (fun _ h9 => h9) rfl dX10_isScript_3 ?_
  refine lv_iconst (v := 1) hx hb dX10_isScript_6 (by decide) ?_
  refine lv_isub hx hb dX10_isScript_7 ?_
  obtain ⟨o_1, r_2, hG⟩ := q_bi hG
  refine q_goi (v := o_1) (va_runS (As := [.int z1, .int 0, .int (sn - 1)]) (rest := []) ⟨hx, hb, hml, hown, hts⟩ (c_X10_in l dC dI z1 0 (sn - 1) o_1 r_2) (va_cwS 3 hts (q_gS m_157 m_158 m_5 m_159) rfl rfl rfl hdS_yX10_in_3 ⟨Nat.le_of_ble_eq_true rfl, Nat.le_of_ble_eq_true rfl⟩) (q_preS hK hP [] rfl [] rfl) rfl rfl hl.1 rfl (lv_room (Nat.le_of_ble_eq_true rfl)) dX10_isScript_8 ⟨Nat.le_of_ble_eq_true rfl, Nat.le_of_ble_eq_true rfl⟩) hP hS (fun H locs hP hS => ?_)
  obtain ⟨g_3, hG⟩ := q_gu hG
  obtain rfl := Option.some.inj hG
  exact W.zret (v := o_1) hx hb hr (q_nbo g_3) (fun t ht hW => ⟨⟨o_1, (), rfl, rfl, trivial⟩, hS.F ht⟩) hS.2.2 dX10_isScript_11

def F_X10_step (sn : Int32) (sq : Nat → Int32) (sl : Nat → Int32) (z1 : Int32) (z2 : Int32) (z3 : Int32) : Option (Int32) := ((F_X10_isScript sn z1).bind fun o_1 => (if o_1 = 0 then some ((-1000000)) else (if z1 < 0 ∨ 5 ≤ (z1).toNatClampNeg then none else ((F_X10_in z2 0 ((sl (z1).toNatClampNeg) - 1)).bind fun o_5 => (if o_5 = 0 then some ((-1000000)) else ((F_X10_in z3 0 3).bind fun o_8 => (if o_8 = 0 then some ((-1000000)) else (if ((4 * ((16 * z1) + z2)) + z3) < 0 ∨ 320 ≤ (((4 * ((16 * z1) + z2)) + z3)).toNatClampNeg then none else some ((sq ((4 * ((16 * z1) + z2)) + z3).toNatClampNeg))))))))))
set_option maxHeartbeats 4000000 in
set_option maxRecDepth 100000 in
theorem c_X10_step (l : Launch) (dC : Nat → ClassId) (dI : Nat → Nat → Nat) (bm : Nat → Nat) (km : Nat → ClassId) (th : Int32) (tn : Int32) (at_ : Int32) (wr : Int32) (rm_ : Int32) (mn : Int32) (sn : Int32) (ac : Int32) (hi : Int32) (dn : Int64) (sq : Nat → Int32) (sl : Nat → Int32) (z1 : Int32) (z2 : Int32) (z3 : Int32) (o : Int32) (hG : F_X10_step sn sq sl z1 z2 z3 = some o) : Met l yX10_step (.code yX10_step cX10_step 4 (some .int) :: wA) ({ frames := 2, cells := 0, slots := 0, locals := 43 }) (va_Pc [.ref (bm 0), .int z1, .int z2, .int z3] (q_R (dC, dI) [((bm 0), .inr (10, [.int th, .ref (bm 1), .int tn, .int at_, .int wr, .ref (bm 2), .ref (bm 3), .int rm_, .ref (bm 4), .ref (bm 5), .int mn, .ref (bm 6), .ref (bm 7), .int sn, .ref (bm 8), .ref (bm 9), .ref (bm 10), .int ac, .long dn, .ref (bm 11), .ref (bm 12), .ref (bm 13), .ref (bm 14), .int hi])), ((bm 6), .inl ((km 6), 320, .inl sq)), ((bm 7), .inl ((km 7), 5, .inl sl))] [((km 6), .int), ((km 7), .int)])) (q_i o) 0 0 (fun _ => False) := by
  refine Met.ofW (cc := cX10_step) (maxL := 4) (ret := (some .int)) (by decide) rfl ?_
  intro p e s m args below meth c s₁ B hml hv
  obtain ⟨rfl, hP, hK⟩ := hv
  have hx := B.exec
  have hb := B.bytes
  have hr := B.returns
  have hts := atoms_spec (ws := .code yX10_step cX10_step 4 (some .int) :: wA) B.pre
  have hown : s.vm.findClass RX10 = some m.cls := findClass_of_methodNamed B.named
  have hlocks := B.notSynchronized
  have hS : va_S (fun _ => False) s.heap s.heap [] := va_S.rf
  have hl := lv_entry ([.ref (bm 0), .int z1, .int z2, .int z3]) (n := 4) (Nat.le_of_ble_eq_true rfl)
  rw [lg_entry_eq]
  generalize (lg_sl ([.ref (bm 0), .int z1, .int z2, .int z3]) ++ List.replicate (4 - (lg_sl ([.ref (bm 0), .int z1, .int z2, .int z3])).length) Slot.unset).toArray = ls at hl ⊢
  have hl : lv_has ls 4 [(0, .ref (bm 0)), (1, .int z1), (2, .int z2), (3, .int z3)] := hl
  unfold F_X10_step at hG
  refine lv_aload_n hx hb dX10_step_0 rfl (lv_at hl 0 rfl) ?_
  refine lv_iload_n hx hb dX10_step_1 rfl (lv_at hl 1 rfl) ?_
  obtain ⟨o_1, r_2, hG⟩ := q_bi hG
  refine q_goi (v := o_1) (va_runV (As := [.int z1]) (rest := []) ⟨hx, hb, hml, hown, hts⟩ (c_X10_isScript l dC dI bm km th tn at_ wr rm_ mn sn ac hi dn z1 o_1 r_2) (cwV 1 hts (q_gV m_1308 m_1309 m_1310 m_5 m_1311) rfl rfl rfl hdV_yX10_isScript_1 ⟨Nat.le_of_ble_eq_true rfl, Nat.le_of_ble_eq_true rfl⟩) (q_preV hK hP (q := (RX10, TX10, 24)) (ci := 10) (q0 := 0) rfl rfl [0] rfl [] rfl) rfl rfl hl.1 rfl (lv_room (Nat.le_of_ble_eq_true rfl)) dX10_step_2 ⟨Nat.le_of_ble_eq_true rfl, Nat.le_of_ble_eq_true rfl⟩) hP hS (fun H locs hP hS => ?_)
  refine lv_if_eq (tgt := 51) hx hb dX10_step_5 (by decide) (fun c_3 => ?_) (fun c_3 => ?_)
  · have hG := q_ifp c_3 hG
    refine lv_ldcw (v := (-1000000)) hx hb hown (hts (.constant RX10 358 (-1000000)) (List.mem_cons_of_mem _ m_620)) dX10_step_51 ?_
    obtain rfl := Option.some.inj hG
    exact W.iret (v := (-1000000)) hx hb hr (fun t ht hW => ⟨⟨(-1000000), (), rfl, rfl, trivial⟩, hS.F ht⟩) hS.2.2 dX10_step_54
  · have hG := q_ifn c_3 hG
    refine lv_iload_n hx hb dX10_step_8 rfl (lv_at hl 2 rfl) ?_
    refine lv_iconst (v := 0) hx hb dX10_step_9 (by decide) ?_
    refine lv_aload_n hx hb dX10_step_10 rfl (lv_at hl 0 rfl) ?_
    refine va_get (D := (dC, dI)) (ci := 10) (v := .ref (bm 7)) (C := RX10) (T := TX10) (N := 24) hx hb hts iA_10 hown hK hP 0 rfl rfl 12 (by decide) (hts (.fieldLink RX10 28 "HubTreeModel" "scriptLong" "[I") (List.mem_cons_of_mem _ m_121)) (fun _ h9 => h9) rfl dX10_step_11 ?_
    refine lv_iload_n hx hb dX10_step_14 rfl (lv_at hl 1 rfl) ?_
    obtain ⟨h_4, hG⟩ := q_ix hG
    refine va_iald hx hb hK hP 2 1 rfl rfl (i := z1) h_4 dX10_step_15 ?_
    refine q_top (y := (sl (z1).toNatClampNeg)) rfl ?_
    refine lv_iconst (v := 1) hx hb dX10_step_16 (by decide) ?_
    refine lv_isub hx hb dX10_step_17 ?_
    obtain ⟨o_5, r_6, hG⟩ := q_bi hG
    refine q_goi (v := o_5) (va_runS (As := [.int z2, .int 0, .int ((sl (z1).toNatClampNeg) - 1)]) (rest := []) ⟨hx, hb, hml, hown, hts⟩ (c_X10_in l dC dI z2 0 ((sl (z1).toNatClampNeg) - 1) o_5 r_6) (va_cwS 3 hts (q_gS m_157 m_158 m_5 m_159) rfl rfl rfl hdS_yX10_in_3 ⟨Nat.le_of_ble_eq_true rfl, Nat.le_of_ble_eq_true rfl⟩) (q_preS hK hP [] rfl [] rfl) rfl rfl hl.1 rfl (lv_room (Nat.le_of_ble_eq_true rfl)) dX10_step_18 ⟨Nat.le_of_ble_eq_true rfl, Nat.le_of_ble_eq_true rfl⟩) hP hS (fun H locs hP hS => ?_)
    refine lv_if_eq (tgt := 51) hx hb dX10_step_21 (by decide) (fun c_7 => ?_) (fun c_7 => ?_)
    · have hG := q_ifp c_7 hG
      refine lv_ldcw (v := (-1000000)) hx hb hown (hts (.constant RX10 358 (-1000000)) (List.mem_cons_of_mem _ m_620)) dX10_step_51 ?_
      obtain rfl := Option.some.inj hG
      exact W.iret (v := (-1000000)) hx hb hr (fun t ht hW => ⟨⟨(-1000000), (), rfl, rfl, trivial⟩, hS.F ht⟩) hS.2.2 dX10_step_54
    · have hG := q_ifn c_7 hG
      refine lv_iload_n hx hb dX10_step_24 rfl (lv_at hl 3 rfl) ?_
      refine lv_iconst (v := 0) hx hb dX10_step_25 (by decide) ?_
      refine lv_iconst (v := 3) hx hb dX10_step_26 (by decide) ?_
      obtain ⟨o_8, r_9, hG⟩ := q_bi hG
      refine q_goi (v := o_8) (va_runS (As := [.int z3, .int 0, .int 3]) (rest := []) ⟨hx, hb, hml, hown, hts⟩ (c_X10_in l dC dI z3 0 3 o_8 r_9) (va_cwS 3 hts (q_gS m_157 m_158 m_5 m_159) rfl rfl rfl hdS_yX10_in_3 ⟨Nat.le_of_ble_eq_true rfl, Nat.le_of_ble_eq_true rfl⟩) (q_preS hK hP [] rfl [] rfl) rfl rfl hl.1 rfl (lv_room (Nat.le_of_ble_eq_true rfl)) dX10_step_27 ⟨Nat.le_of_ble_eq_true rfl, Nat.le_of_ble_eq_true rfl⟩) hP hS (fun H locs hP hS => ?_)
      refine lv_if_eq (tgt := 51) hx hb dX10_step_30 (by decide) (fun c_10 => ?_) (fun c_10 => ?_)
      · have hG := q_ifp c_10 hG
        refine lv_ldcw (v := (-1000000)) hx hb hown (hts (.constant RX10 358 (-1000000)) (List.mem_cons_of_mem _ m_620)) dX10_step_51 ?_
        obtain rfl := Option.some.inj hG
        exact W.iret (v := (-1000000)) hx hb hr (fun t ht hW => ⟨⟨(-1000000), (), rfl, rfl, trivial⟩, hS.F ht⟩) hS.2.2 dX10_step_54
      · have hG := q_ifn c_10 hG
        refine lv_aload_n hx hb dX10_step_33 rfl (lv_at hl 0 rfl) ?_
        refine va_get (D := (dC, dI)) (ci := 10) (v := .ref (bm 6)) (C := RX10) (T := TX10) (N := 24) hx hb hts iA_10 hown hK hP 0 rfl rfl 11 (by decide) (hts (.fieldLink RX10 25 "HubTreeModel" "script" "[I") (List.mem_cons_of_mem _ m_120)) (fun _ h9 => h9) rfl dX10_step_34 ?_
        refine lv_iconst (v := 4) hx hb dX10_step_37 (by decide) ?_
        refine lv_bipush (v := 16) hx hb dX10_step_38 (by decide) ?_
        refine lv_iload_n hx hb dX10_step_40 rfl (lv_at hl 1 rfl) ?_
        refine lv_imul hx hb dX10_step_41 ?_
        refine lv_iload_n hx hb dX10_step_42 rfl (lv_at hl 2 rfl) ?_
        refine lv_iadd hx hb dX10_step_43 ?_
        refine lv_imul hx hb dX10_step_44 ?_
        refine lv_iload_n hx hb dX10_step_45 rfl (lv_at hl 3 rfl) ?_
        refine lv_iadd hx hb dX10_step_46 ?_
        obtain ⟨h_11, hG⟩ := q_ix hG
        refine va_iald hx hb hK hP 1 0 rfl rfl (i := ((4 * ((16 * z1) + z2)) + z3)) h_11 dX10_step_47 ?_
        refine q_top (y := (sq ((4 * ((16 * z1) + z2)) + z3).toNatClampNeg)) rfl ?_
        refine lv_goto (tgt := 54) hx hb dX10_step_48 (by decide) ?_
        obtain rfl := Option.some.inj hG
        exact W.iret (v := (sq ((4 * ((16 * z1) + z2)) + z3).toNatClampNeg)) hx hb hr (fun t ht hW => ⟨⟨(sq ((4 * ((16 * z1) + z2)) + z3).toNatClampNeg), (), rfl, rfl, trivial⟩, hS.F ht⟩) hS.2.2 dX10_step_54

def FL_X10_goSteps_2 (mn : Int32) (ac : Int32) (ru : Nat → Int32) (td : Nat → Int32) (sq : Nat → Int32) (sl : Nat → Int32) (nw : Nat → Int32) (kp : Nat → Int32) (z1 : Int32) (z2 : Int32) : Nat → Int32 → (Int32) → (Nat → Int32) → (Nat → Int32) → Option (Int32 × Int32 × (Nat → Int32) × (Nat → Int32))
  | 0, _, _, _, _ => none
  | n + 1, x3_2, ac_c, nw_c, kp_c => (if z1 < 0 ∨ 5 ≤ (z1).toNatClampNeg then none else (if (sl (z1).toNatClampNeg) ≤ x3_2 then (if z1 < 0 ∨ 5 ≤ (z1).toNatClampNeg then none else some ((sl (z1).toNatClampNeg), ac_c, nw_c, kp_c)) else (if (4 * ((16 * z1) + x3_2)) < 0 ∨ 320 ≤ ((4 * ((16 * z1) + x3_2))).toNatClampNeg then none else ((F_X10_actOf (sq (4 * ((16 * z1) + x3_2)).toNatClampNeg)).bind fun o_5 => (if ((4 * ((16 * z1) + x3_2)) + 1) < 0 ∨ 320 ≤ (((4 * ((16 * z1) + x3_2)) + 1)).toNatClampNeg then none else (if ((4 * ((16 * z1) + x3_2)) + 2) < 0 ∨ 320 ≤ (((4 * ((16 * z1) + x3_2)) + 2)).toNatClampNeg then none else (if ((4 * ((16 * z1) + x3_2)) + 3) < 0 ∨ 320 ≤ (((4 * ((16 * z1) + x3_2)) + 3)).toNatClampNeg then none else ((F_X10_whyNot mn ru td nw_c o_5 (sq ((4 * ((16 * z1) + x3_2)) + 1).toNatClampNeg) (sq ((4 * ((16 * z1) + x3_2)) + 2).toNatClampNeg) (sq ((4 * ((16 * z1) + x3_2)) + 3).toNatClampNeg)).bind fun o_10 => (if o_10.1 = (-1) then (if z2 = 0 then (if ((4 * ((16 * z1) + x3_2)) + 1) < 0 ∨ 320 ≤ (((4 * ((16 * z1) + x3_2)) + 1)).toNatClampNeg then none else (if ((4 * ((16 * z1) + x3_2)) + 2) < 0 ∨ 320 ≤ (((4 * ((16 * z1) + x3_2)) + 2)).toNatClampNeg then none else (if ((4 * ((16 * z1) + x3_2)) + 3) < 0 ∨ 320 ≤ (((4 * ((16 * z1) + x3_2)) + 3)).toNatClampNeg then none else ((F_X10_doNow mn ru td (o_10.2) o_5 (sq ((4 * ((16 * z1) + x3_2)) + 1).toNatClampNeg) (sq ((4 * ((16 * z1) + x3_2)) + 2).toNatClampNeg) (sq ((4 * ((16 * z1) + x3_2)) + 3).toNatClampNeg)).bind fun o_17 => (FL_X10_goSteps_2 mn ac ru td sq sl nw kp z1 z2 n (x3_2 + 1) ac_c (o_17.2) kp_c))))) else (if ((4 * ((16 * z1) + x3_2)) + 1) < 0 ∨ 320 ≤ (((4 * ((16 * z1) + x3_2)) + 1)).toNatClampNeg then none else (if ((4 * ((16 * z1) + x3_2)) + 2) < 0 ∨ 320 ≤ (((4 * ((16 * z1) + x3_2)) + 2)).toNatClampNeg then none else (if ((4 * ((16 * z1) + x3_2)) + 3) < 0 ∨ 320 ≤ (((4 * ((16 * z1) + x3_2)) + 3)).toNatClampNeg then none else ((F_X10_act mn ac_c ru td (o_10.2) kp_c o_5 (sq ((4 * ((16 * z1) + x3_2)) + 1).toNatClampNeg) (sq ((4 * ((16 * z1) + x3_2)) + 2).toNatClampNeg) (sq ((4 * ((16 * z1) + x3_2)) + 3).toNatClampNeg)).bind fun o_22 => (FL_X10_goSteps_2 mn ac ru td sq sl nw kp z1 z2 n (x3_2 + 1) (o_22.2.1) (o_22.2.2.1) (o_22.2.2.2))))))) else some (x3_2, ac_c, (o_10.2), kp_c))))))))))

def F_X10_goSteps (mn : Int32) (ac : Int32) (ru : Nat → Int32) (td : Nat → Int32) (sq : Nat → Int32) (sl : Nat → Int32) (nw : Nat → Int32) (kp : Nat → Int32) (z1 : Int32) (z2 : Int32) : Option (Int32 × Int32 × (Nat → Int32) × (Nat → Int32)) := (FL_X10_goSteps_2 mn ac ru td sq sl nw kp z1 z2 1000 0 ac nw kp)
set_option maxHeartbeats 4000000 in
set_option maxRecDepth 100000 in
theorem c_X10_goSteps (l : Launch) (dC : Nat → ClassId) (dI : Nat → Nat → Nat) (bm : Nat → Nat) (km : Nat → ClassId) (th : Int32) (tn : Int32) (at_ : Int32) (wr : Int32) (rm_ : Int32) (mn : Int32) (sn : Int32) (ac : Int32) (hi : Int32) (dn : Int64) (ru : Nat → Int32) (td : Nat → Int32) (sq : Nat → Int32) (sl : Nat → Int32) (nw : Nat → Int32) (kp : Nat → Int32) (z1 : Int32) (z2 : Int32) (A : Nat → Prop) (o : Int32 × Int32 × (Nat → Int32) × (Nat → Int32)) (hG : F_X10_goSteps mn ac ru td sq sl nw kp z1 z2 = some o) : Met l yX10_goSteps (.code yX10_goSteps cX10_goSteps 6 (some .int) :: wA) ({ frames := 11, cells := 0, slots := 0, locals := 249 }) (va_Pc [.ref (bm 0), .int z1, .int z2] (q_W (dC, dI) A [((bm 0), .inr (10, [.int th, .ref (bm 1), .int tn, .int at_, .int wr, .ref (bm 2), .ref (bm 3), .int rm_, .ref (bm 4), .ref (bm 5), .int mn, .ref (bm 6), .ref (bm 7), .int sn, .ref (bm 8), .ref (bm 9), .ref (bm 10), .int ac, .long dn, .ref (bm 11), .ref (bm 12), .ref (bm 13), .ref (bm 14), .int hi])), ((bm 4), .inl ((km 4), 8, .inl ru)), ((bm 5), .inl ((km 5), 48, .inl td)), ((bm 6), .inl ((km 6), 320, .inl sq)), ((bm 7), .inl ((km 7), 5, .inl sl)), ((bm 8), .inl ((km 8), 279, .inl nw)), ((bm 10), .inl ((km 10), 11160, .inl kp))] [((km 4), .int), ((km 5), .int), ((km 6), .int), ((km 7), .int), ((km 8), .int), ((km 10), .int)])) (va_Qi (fun (r : Int32) (_ : Unit) => r = o.1 ∧ True) (fun (_ : Unit) t => q_B (dC, dI) A [((bm 0), .inr (10, [.int th, .ref (bm 1), .int tn, .int at_, .int wr, .ref (bm 2), .ref (bm 3), .int rm_, .ref (bm 4), .ref (bm 5), .int mn, .ref (bm 6), .ref (bm 7), .int sn, .ref (bm 8), .ref (bm 9), .ref (bm 10), .int (o.2.1), .long dn, .ref (bm 11), .ref (bm 12), .ref (bm 13), .ref (bm 14), .int hi])), ((bm 4), .inl ((km 4), 8, .inl ru)), ((bm 5), .inl ((km 5), 48, .inl td)), ((bm 6), .inl ((km 6), 320, .inl sq)), ((bm 7), .inl ((km 7), 5, .inl sl)), ((bm 8), .inl ((km 8), 279, .inl (o.2.2.1))), ((bm 10), .inl ((km 10), 11160, .inl (o.2.2.2)))] [((km 4), .int), ((km 5), .int), ((km 6), .int), ((km 7), .int), ((km 8), .int), ((km 10), .int)] t) A) 0 0 A := by
  refine Met.ofW (cc := cX10_goSteps) (maxL := 6) (ret := (some .int)) (by decide) rfl ?_
  intro p e s m args below meth c s₁ B hml hv
  obtain ⟨rfl, hP, hK, hD, hA⟩ := hv
  have hx := B.exec
  have hb := B.bytes
  have hr := B.returns
  have hts := atoms_spec (ws := .code yX10_goSteps cX10_goSteps 6 (some .int) :: wA) B.pre
  have hown : s.vm.findClass RX10 = some m.cls := findClass_of_methodNamed B.named
  have hlocks := B.notSynchronized
  have hS : va_S A s.heap s.heap [] := va_S.rf
  have hl := lv_entry ([.ref (bm 0), .int z1, .int z2]) (n := 6) (Nat.le_of_ble_eq_true rfl)
  rw [lg_entry_eq]
  generalize (lg_sl ([.ref (bm 0), .int z1, .int z2]) ++ List.replicate (6 - (lg_sl ([.ref (bm 0), .int z1, .int z2])).length) Slot.unset).toArray = ls at hl ⊢
  have hl : lv_has ls 6 [(0, .ref (bm 0)), (1, .int z1), (2, .int z2)] := hl
  unfold F_X10_goSteps at hG
  refine lv_iconst (v := 0) hx hb dX10_goSteps_0 (by decide) ?_
  refine lv_istore_n (lv' := [(3, .int 0), (0, .ref (bm 0)), (1, .int z1), (2, .int z2)]) hx hb dX10_goSteps_1 rfl hl (by decide) rfl (fun ls hl => ?_)
  have L_2 : ∀ (n_2 : Nat) (x3_2 : Int32) (ac_c : Int32) (nw_c : Nat → Int32) (kp_c : Nat → Int32) (H : Heap) (locs : List Loc) (ls : Array Slot), FL_X10_goSteps_2 mn ac ru td sq sl nw kp z1 z2 n_2 x3_2 ac_c nw_c kp_c = some o → va_P (dC, dI) vwCl [((bm 0), .inr (10, [.int th, .ref (bm 1), .int tn, .int at_, .int wr, .ref (bm 2), .ref (bm 3), .int rm_, .ref (bm 4), .ref (bm 5), .int mn, .ref (bm 6), .ref (bm 7), .int sn, .ref (bm 8), .ref (bm 9), .ref (bm 10), .int ac_c, .long dn, .ref (bm 11), .ref (bm 12), .ref (bm 13), .ref (bm 14), .int hi])), ((bm 4), .inl ((km 4), 8, .inl ru)), ((bm 5), .inl ((km 5), 48, .inl td)), ((bm 6), .inl ((km 6), 320, .inl sq)), ((bm 7), .inl ((km 7), 5, .inl sl)), ((bm 8), .inl ((km 8), 279, .inl nw_c)), ((bm 10), .inl ((km 10), 11160, .inl kp_c))] H → va_D A [((bm 0), .inr (10, [.int th, .ref (bm 1), .int tn, .int at_, .int wr, .ref (bm 2), .ref (bm 3), .int rm_, .ref (bm 4), .ref (bm 5), .int mn, .ref (bm 6), .ref (bm 7), .int sn, .ref (bm 8), .ref (bm 9), .ref (bm 10), .int ac_c, .long dn, .ref (bm 11), .ref (bm 12), .ref (bm 13), .ref (bm 14), .int hi])), ((bm 4), .inl ((km 4), 8, .inl ru)), ((bm 5), .inl ((km 5), 48, .inl td)), ((bm 6), .inl ((km 6), 320, .inl sq)), ((bm 7), .inl ((km 7), 5, .inl sl)), ((bm 8), .inl ((km 8), 279, .inl nw_c)), ((bm 10), .inl ((km 10), 11160, .inl kp_c))] → va_S A s.heap H locs → lv_has ls 6 [(3, .int x3_2), (0, .ref (bm 0)), (1, .int z1), (2, .int z2)] → W p l e (headSpec (.code yX10_goSteps cX10_goSteps 6 (some .int) :: wA) ({ frames := 11, cells := 0, slots := 0, locals := 249 })).room s m #[.ref (bm 0), .int z1, .int z2] below meth c H locs 0 0 (MQ below (va_Qi (fun (r : Int32) (_ : Unit) => r = o.1 ∧ True) (fun (_ : Unit) t => q_B (dC, dI) A [((bm 0), .inr (10, [.int th, .ref (bm 1), .int tn, .int at_, .int wr, .ref (bm 2), .ref (bm 3), .int rm_, .ref (bm 4), .ref (bm 5), .int mn, .ref (bm 6), .ref (bm 7), .int sn, .ref (bm 8), .ref (bm 9), .ref (bm 10), .int (o.2.1), .long dn, .ref (bm 11), .ref (bm 12), .ref (bm 13), .ref (bm 14), .int hi])), ((bm 4), .inl ((km 4), 8, .inl ru)), ((bm 5), .inl ((km 5), 48, .inl td)), ((bm 6), .inl ((km 6), 320, .inl sq)), ((bm 7), .inl ((km 7), 5, .inl sl)), ((bm 8), .inl ((km 8), 279, .inl (o.2.2.1))), ((bm 10), .inl ((km 10), 11160, .inl (o.2.2.2)))] [((km 4), .int), ((km 5), .int), ((km 6), .int), ((km 7), .int), ((km 8), .int), ((km 10), .int)] t) A) #[.ref (bm 0), .int z1, .int z2] s 0 0 A) (F0 m 2 ls []) := by
    intro n_2
    induction n_2 with
    | zero =>
      intro x3_2 ac_c nw_c kp_c H locs ls hG
      exact q_no hG
    | succ n_2 ih_2 =>
      intro x3_2 ac_c nw_c kp_c H locs ls hG hP hD hS hl
      unfold FL_X10_goSteps_2 at hG
      refine lv_iload_n hx hb dX10_goSteps_2 rfl (lv_at hl 0 rfl) ?_
      refine lv_aload_n hx hb dX10_goSteps_3 rfl (lv_at hl 1 rfl) ?_
      refine va_get (D := (dC, dI)) (ci := 10) (v := .ref (bm 7)) (C := RX10) (T := TX10) (N := 24) hx hb hts iA_10 hown hK hP 0 rfl rfl 12 (by decide) (hts (.fieldLink RX10 28 "HubTreeModel" "scriptLong" "[I") (List.mem_cons_of_mem _ m_121)) (fun _ h9 => h9) rfl dX10_goSteps_4 ?_
      refine lv_iload_n hx hb dX10_goSteps_7 rfl (lv_at hl 2 rfl) ?_
      obtain ⟨h_1, hG⟩ := q_ix hG
      refine va_iald hx hb hK hP 4 3 rfl rfl (i := z1) h_1 dX10_goSteps_8 ?_
      refine q_top (y := (sl (z1).toNatClampNeg)) rfl ?_
      refine lv_icmp_ge (tgt := 154) hx hb dX10_goSteps_9 (by decide) (fun c_2 => ?_) (fun c_2 => ?_)
      · have hG := q_ifp c_2 hG
        refine lv_aload_n hx hb dX10_goSteps_154 rfl (lv_at hl 1 rfl) ?_
        refine va_get (D := (dC, dI)) (ci := 10) (v := .ref (bm 7)) (C := RX10) (T := TX10) (N := 24) hx hb hts iA_10 hown hK hP 0 rfl rfl 12 (by decide) (hts (.fieldLink RX10 28 "HubTreeModel" "scriptLong" "[I") (List.mem_cons_of_mem _ m_121)) (fun _ h9 => h9) rfl dX10_goSteps_155 ?_
        refine lv_iload_n hx hb dX10_goSteps_158 rfl (lv_at hl 2 rfl) ?_
        obtain ⟨h_3, hG⟩ := q_ix hG
        refine va_iald hx hb hK hP 4 3 rfl rfl (i := z1) h_3 dX10_goSteps_159 ?_
        refine q_top (y := (sl (z1).toNatClampNeg)) rfl ?_
        obtain rfl := Option.some.inj hG
        have hP9 := hP.sub (ws' := [((bm 0), .inr (10, [.int th, .ref (bm 1), .int tn, .int at_, .int wr, .ref (bm 2), .ref (bm 3), .int rm_, .ref (bm 4), .ref (bm 5), .int mn, .ref (bm 6), .ref (bm 7), .int sn, .ref (bm 8), .ref (bm 9), .ref (bm 10), .int ac_c, .long dn, .ref (bm 11), .ref (bm 12), .ref (bm 13), .ref (bm 14), .int hi])), ((bm 4), .inl ((km 4), 8, .inl ru)), ((bm 5), .inl ((km 5), 48, .inl td)), ((bm 6), .inl ((km 6), 320, .inl sq)), ((bm 7), .inl ((km 7), 5, .inl sl)), ((bm 8), .inl ((km 8), 279, .inl nw_c)), ((bm 10), .inl ((km 10), 11160, .inl kp_c))]) [0, 1, 2, 3, 4, 5, 6] rfl
        have hD9 := hD.sub (ws' := [((bm 0), .inr (10, [.int th, .ref (bm 1), .int tn, .int at_, .int wr, .ref (bm 2), .ref (bm 3), .int rm_, .ref (bm 4), .ref (bm 5), .int mn, .ref (bm 6), .ref (bm 7), .int sn, .ref (bm 8), .ref (bm 9), .ref (bm 10), .int ac_c, .long dn, .ref (bm 11), .ref (bm 12), .ref (bm 13), .ref (bm 14), .int hi])), ((bm 4), .inl ((km 4), 8, .inl ru)), ((bm 5), .inl ((km 5), 48, .inl td)), ((bm 6), .inl ((km 6), 320, .inl sq)), ((bm 7), .inl ((km 7), 5, .inl sl)), ((bm 8), .inl ((km 8), 279, .inl nw_c)), ((bm 10), .inl ((km 10), 11160, .inl kp_c))]) [0, 1, 2, 3, 4, 5, 6] (by decide) rfl
        have hK9 := hK.sub (tys' := [((km 4), .int), ((km 5), .int), ((km 6), .int), ((km 7), .int), ((km 8), .int), ((km 10), .int)]) [0, 1, 2, 3, 4, 5] rfl
        exact W.iret (v := (sl (z1).toNatClampNeg)) hx hb hr (fun t ht hW => ⟨⟨(sl (z1).toNatClampNeg), (), rfl, ⟨rfl, trivial⟩, by rw [ht]; exact hP9, va_K.moved hW.alike hK9, hD9⟩, hS.F ht⟩) hS.2.2 dX10_goSteps_160
      · have hG := q_ifn c_2 hG
        refine lv_iconst (v := 4) hx hb dX10_goSteps_12 (by decide) ?_
        refine lv_bipush (v := 16) hx hb dX10_goSteps_13 (by decide) ?_
        refine lv_iload_n hx hb dX10_goSteps_15 rfl (lv_at hl 2 rfl) ?_
        refine lv_imul hx hb dX10_goSteps_16 ?_
        refine lv_iload_n hx hb dX10_goSteps_17 rfl (lv_at hl 0 rfl) ?_
        refine lv_iadd hx hb dX10_goSteps_18 ?_
        refine lv_imul hx hb dX10_goSteps_19 ?_
        refine lv_istore (lv' := [(4, .int (4 * ((16 * z1) + x3_2))), (3, .int x3_2), (0, .ref (bm 0)), (1, .int z1), (2, .int z2)]) hx hb dX10_goSteps_20 hl (by decide) rfl (fun ls hl => ?_)
        refine lv_aload_n hx hb dX10_goSteps_22 rfl (lv_at hl 2 rfl) ?_
        refine va_get (D := (dC, dI)) (ci := 10) (v := .ref (bm 6)) (C := RX10) (T := TX10) (N := 24) hx hb hts iA_10 hown hK hP 0 rfl rfl 11 (by decide) (hts (.fieldLink RX10 25 "HubTreeModel" "script" "[I") (List.mem_cons_of_mem _ m_120)) (fun _ h9 => h9) rfl dX10_goSteps_23 ?_
        refine lv_iload hx hb dX10_goSteps_26 (lv_at hl 0 rfl) ?_
        obtain ⟨h_4, hG⟩ := q_ix hG
        refine va_iald hx hb hK hP 3 2 rfl rfl (i := (4 * ((16 * z1) + x3_2))) h_4 dX10_goSteps_28 ?_
        refine q_top (y := (sq (4 * ((16 * z1) + x3_2)).toNatClampNeg)) rfl ?_
        obtain ⟨o_5, r_6, hG⟩ := q_bi hG
        refine q_goi (v := o_5) (va_runS (As := [.int (sq (4 * ((16 * z1) + x3_2)).toNatClampNeg)]) (rest := []) ⟨hx, hb, hml, hown, hts⟩ (c_X10_actOf l dC dI (sq (4 * ((16 * z1) + x3_2)).toNatClampNeg) o_5 r_6) (va_cwS 1 hts (q_gS m_1334 m_1335 m_5 m_1336) rfl rfl rfl hdS_yX10_actOf_1 ⟨Nat.le_of_ble_eq_true rfl, Nat.le_of_ble_eq_true rfl⟩) (q_preS hK hP [] rfl [] rfl) rfl rfl hl.1 rfl (lv_room (Nat.le_of_ble_eq_true rfl)) dX10_goSteps_29 ⟨Nat.le_of_ble_eq_true rfl, Nat.le_of_ble_eq_true rfl⟩) hP hS (fun H locs hP hS => ?_)
        refine lv_istore (lv' := [(5, .int o_5), (4, .int (4 * ((16 * z1) + x3_2))), (3, .int x3_2), (0, .ref (bm 0)), (1, .int z1), (2, .int z2)]) hx hb dX10_goSteps_32 hl (by decide) rfl (fun ls hl => ?_)
        refine lv_aload_n hx hb dX10_goSteps_34 rfl (lv_at hl 3 rfl) ?_
        refine lv_iload hx hb dX10_goSteps_35 (lv_at hl 0 rfl) ?_
        refine lv_aload_n hx hb dX10_goSteps_37 rfl (lv_at hl 3 rfl) ?_
        refine va_get (D := (dC, dI)) (ci := 10) (v := .ref (bm 6)) (C := RX10) (T := TX10) (N := 24) hx hb hts iA_10 hown hK hP 0 rfl rfl 11 (by decide) (hts (.fieldLink RX10 25 "HubTreeModel" "script" "[I") (List.mem_cons_of_mem _ m_120)) (fun _ h9 => h9) rfl dX10_goSteps_38 ?_
        refine lv_iload hx hb dX10_goSteps_41 (lv_at hl 1 rfl) ?_
        refine lv_iconst (v := 1) hx hb dX10_goSteps_43 (by decide) ?_
        refine lv_iadd hx hb dX10_goSteps_44 ?_
        obtain ⟨h_7, hG⟩ := q_ix hG
        refine va_iald hx hb hK hP 3 2 rfl rfl (i := ((4 * ((16 * z1) + x3_2)) + 1)) h_7 dX10_goSteps_45 ?_
        refine q_top (y := (sq ((4 * ((16 * z1) + x3_2)) + 1).toNatClampNeg)) rfl ?_
        refine lv_aload_n hx hb dX10_goSteps_46 rfl (lv_at hl 3 rfl) ?_
        refine va_get (D := (dC, dI)) (ci := 10) (v := .ref (bm 6)) (C := RX10) (T := TX10) (N := 24) hx hb hts iA_10 hown hK hP 0 rfl rfl 11 (by decide) (hts (.fieldLink RX10 25 "HubTreeModel" "script" "[I") (List.mem_cons_of_mem _ m_120)) (fun _ h9 => h9) rfl dX10_goSteps_47 ?_
        refine lv_iload hx hb dX10_goSteps_50 (lv_at hl 1 rfl) ?_
        refine lv_iconst (v := 2) hx hb dX10_goSteps_52 (by decide) ?_
        refine lv_iadd hx hb dX10_goSteps_53 ?_
        obtain ⟨h_8, hG⟩ := q_ix hG
        refine va_iald hx hb hK hP 3 2 rfl rfl (i := ((4 * ((16 * z1) + x3_2)) + 2)) h_8 dX10_goSteps_54 ?_
        refine q_top (y := (sq ((4 * ((16 * z1) + x3_2)) + 2).toNatClampNeg)) rfl ?_
        refine lv_aload_n hx hb dX10_goSteps_55 rfl (lv_at hl 3 rfl) ?_
        refine va_get (D := (dC, dI)) (ci := 10) (v := .ref (bm 6)) (C := RX10) (T := TX10) (N := 24) hx hb hts iA_10 hown hK hP 0 rfl rfl 11 (by decide) (hts (.fieldLink RX10 25 "HubTreeModel" "script" "[I") (List.mem_cons_of_mem _ m_120)) (fun _ h9 => h9) rfl dX10_goSteps_56 ?_
        refine lv_iload hx hb dX10_goSteps_59 (lv_at hl 1 rfl) ?_
        refine lv_iconst (v := 3) hx hb dX10_goSteps_61 (by decide) ?_
        refine lv_iadd hx hb dX10_goSteps_62 ?_
        obtain ⟨h_9, hG⟩ := q_ix hG
        refine va_iald hx hb hK hP 3 2 rfl rfl (i := ((4 * ((16 * z1) + x3_2)) + 3)) h_9 dX10_goSteps_63 ?_
        refine q_top (y := (sq ((4 * ((16 * z1) + x3_2)) + 3).toNatClampNeg)) rfl ?_
        obtain ⟨o_10, r_11, hG⟩ := q_bi hG
        refine q_goi2 (v := o_10.1) (wr := [((bm 6), .inl ((km 6), 320, .inl sq)), ((bm 7), .inl ((km 7), 5, .inl sl)), ((bm 10), .inl ((km 10), 11160, .inl kp_c))]) (va_runV (As := [.int o_5, .int (sq ((4 * ((16 * z1) + x3_2)) + 1).toNatClampNeg), .int (sq ((4 * ((16 * z1) + x3_2)) + 2).toNatClampNeg), .int (sq ((4 * ((16 * z1) + x3_2)) + 3).toNatClampNeg)]) (rest := []) ⟨hx, hb, hml, hown, hts⟩ (c_X10_whyNot l dC dI bm km th tn at_ wr rm_ mn sn ac_c hi dn ru td nw_c o_5 (sq ((4 * ((16 * z1) + x3_2)) + 1).toNatClampNeg) (sq ((4 * ((16 * z1) + x3_2)) + 2).toNatClampNeg) (sq ((4 * ((16 * z1) + x3_2)) + 3).toNatClampNeg) (va_A [((bm 0), .inr (10, [.int th, .ref (bm 1), .int tn, .int at_, .int wr, .ref (bm 2), .ref (bm 3), .int rm_, .ref (bm 4), .ref (bm 5), .int mn, .ref (bm 6), .ref (bm 7), .int sn, .ref (bm 8), .ref (bm 9), .ref (bm 10), .int ac_c, .long dn, .ref (bm 11), .ref (bm 12), .ref (bm 13), .ref (bm 14), .int hi])), ((bm 4), .inl ((km 4), 8, .inl ru)), ((bm 5), .inl ((km 5), 48, .inl td)), ((bm 8), .inl ((km 8), 279, .inl nw_c))] H.size) o_10 r_11) (cwV 4 hts (q_gV m_901 m_902 m_903 m_5 m_904) rfl rfl rfl hdV_yX10_whyNot_4 ⟨Nat.le_of_ble_eq_true rfl, Nat.le_of_ble_eq_true rfl⟩) (q_preWV hK hP hD (q := (RX10, TX10, 24)) (ci := 10) (q0 := 0) rfl rfl [0, 1, 2, 5] (by decide) rfl rfl [0, 1, 4] rfl) rfl rfl hl.1 rfl (lv_room (Nat.le_of_ble_eq_true rfl)) dX10_goSteps_64 ⟨Nat.le_of_ble_eq_true rfl, Nat.le_of_ble_eq_true rfl⟩) hK hP hD hS hA [0, 1, 2, 5] [3, 4, 6] rfl rfl (by decide) (by decide) (fun _ H locs _ hP hD hK9 hS => ?_)
        have hP : va_P (dC, dI) vwCl [((bm 0), .inr (10, [.int th, .ref (bm 1), .int tn, .int at_, .int wr, .ref (bm 2), .ref (bm 3), .int rm_, .ref (bm 4), .ref (bm 5), .int mn, .ref (bm 6), .ref (bm 7), .int sn, .ref (bm 8), .ref (bm 9), .ref (bm 10), .int ac_c, .long dn, .ref (bm 11), .ref (bm 12), .ref (bm 13), .ref (bm 14), .int hi])), ((bm 4), .inl ((km 4), 8, .inl ru)), ((bm 5), .inl ((km 5), 48, .inl td)), ((bm 6), .inl ((km 6), 320, .inl sq)), ((bm 7), .inl ((km 7), 5, .inl sl)), ((bm 8), .inl ((km 8), 279, .inl (o_10.2))), ((bm 10), .inl ((km 10), 11160, .inl kp_c))] H := hP.sub [3, 4, 5, 0, 1, 6, 2] rfl
        have hD : va_D A [((bm 0), .inr (10, [.int th, .ref (bm 1), .int tn, .int at_, .int wr, .ref (bm 2), .ref (bm 3), .int rm_, .ref (bm 4), .ref (bm 5), .int mn, .ref (bm 6), .ref (bm 7), .int sn, .ref (bm 8), .ref (bm 9), .ref (bm 10), .int ac_c, .long dn, .ref (bm 11), .ref (bm 12), .ref (bm 13), .ref (bm 14), .int hi])), ((bm 4), .inl ((km 4), 8, .inl ru)), ((bm 5), .inl ((km 5), 48, .inl td)), ((bm 6), .inl ((km 6), 320, .inl sq)), ((bm 7), .inl ((km 7), 5, .inl sl)), ((bm 8), .inl ((km 8), 279, .inl (o_10.2))), ((bm 10), .inl ((km 10), 11160, .inl kp_c))] := hD.sub [3, 4, 5, 0, 1, 6, 2] (by decide) rfl
        refine lv_iconst (v := (-1)) hx hb dX10_goSteps_67 (by decide) ?_
        refine lv_icmp_eq (tgt := 73) hx hb dX10_goSteps_68 (by decide) (fun c_12 => ?_) (fun c_12 => ?_)
        · have hG := q_ifp c_12 hG
          refine lv_iload_n hx hb dX10_goSteps_73 rfl (lv_at hl 5 rfl) ?_
          refine lv_if_eq (tgt := 114) hx hb dX10_goSteps_74 (by decide) (fun c_13 => ?_) (fun c_13 => ?_)
          · have hG := q_ifp c_13 hG
            refine lv_aload_n hx hb dX10_goSteps_114 rfl (lv_at hl 3 rfl) ?_
            refine lv_iload hx hb dX10_goSteps_115 (lv_at hl 0 rfl) ?_
            refine lv_aload_n hx hb dX10_goSteps_117 rfl (lv_at hl 3 rfl) ?_
            refine va_get (D := (dC, dI)) (ci := 10) (v := .ref (bm 6)) (C := RX10) (T := TX10) (N := 24) hx hb hts iA_10 hown hK hP 0 rfl rfl 11 (by decide) (hts (.fieldLink RX10 25 "HubTreeModel" "script" "[I") (List.mem_cons_of_mem _ m_120)) (fun _ h9 => h9) rfl dX10_goSteps_118 ?_
            refine lv_iload hx hb dX10_goSteps_121 (lv_at hl 1 rfl) ?_
            refine lv_iconst (v := 1) hx hb dX10_goSteps_123 (by decide) ?_
            refine lv_iadd hx hb dX10_goSteps_124 ?_
            obtain ⟨h_14, hG⟩ := q_ix hG
            refine va_iald hx hb hK hP 3 2 rfl rfl (i := ((4 * ((16 * z1) + x3_2)) + 1)) h_14 dX10_goSteps_125 ?_
            refine q_top (y := (sq ((4 * ((16 * z1) + x3_2)) + 1).toNatClampNeg)) rfl ?_
            refine lv_aload_n hx hb dX10_goSteps_126 rfl (lv_at hl 3 rfl) ?_
            refine va_get (D := (dC, dI)) (ci := 10) (v := .ref (bm 6)) (C := RX10) (T := TX10) (N := 24) hx hb hts iA_10 hown hK hP 0 rfl rfl 11 (by decide) (hts (.fieldLink RX10 25 "HubTreeModel" "script" "[I") (List.mem_cons_of_mem _ m_120)) (fun _ h9 => h9) rfl dX10_goSteps_127 ?_
            refine lv_iload hx hb dX10_goSteps_130 (lv_at hl 1 rfl) ?_
            refine lv_iconst (v := 2) hx hb dX10_goSteps_132 (by decide) ?_
            refine lv_iadd hx hb dX10_goSteps_133 ?_
            obtain ⟨h_15, hG⟩ := q_ix hG
            refine va_iald hx hb hK hP 3 2 rfl rfl (i := ((4 * ((16 * z1) + x3_2)) + 2)) h_15 dX10_goSteps_134 ?_
            refine q_top (y := (sq ((4 * ((16 * z1) + x3_2)) + 2).toNatClampNeg)) rfl ?_
            refine lv_aload_n hx hb dX10_goSteps_135 rfl (lv_at hl 3 rfl) ?_
            refine va_get (D := (dC, dI)) (ci := 10) (v := .ref (bm 6)) (C := RX10) (T := TX10) (N := 24) hx hb hts iA_10 hown hK hP 0 rfl rfl 11 (by decide) (hts (.fieldLink RX10 25 "HubTreeModel" "script" "[I") (List.mem_cons_of_mem _ m_120)) (fun _ h9 => h9) rfl dX10_goSteps_136 ?_
            refine lv_iload hx hb dX10_goSteps_139 (lv_at hl 1 rfl) ?_
            refine lv_iconst (v := 3) hx hb dX10_goSteps_141 (by decide) ?_
            refine lv_iadd hx hb dX10_goSteps_142 ?_
            obtain ⟨h_16, hG⟩ := q_ix hG
            refine va_iald hx hb hK hP 3 2 rfl rfl (i := ((4 * ((16 * z1) + x3_2)) + 3)) h_16 dX10_goSteps_143 ?_
            refine q_top (y := (sq ((4 * ((16 * z1) + x3_2)) + 3).toNatClampNeg)) rfl ?_
            obtain ⟨o_17, r_18, hG⟩ := q_bi hG
            refine q_goi2 (v := o_17.1) (wr := [((bm 6), .inl ((km 6), 320, .inl sq)), ((bm 7), .inl ((km 7), 5, .inl sl)), ((bm 10), .inl ((km 10), 11160, .inl kp_c))]) (va_runV (As := [.int o_5, .int (sq ((4 * ((16 * z1) + x3_2)) + 1).toNatClampNeg), .int (sq ((4 * ((16 * z1) + x3_2)) + 2).toNatClampNeg), .int (sq ((4 * ((16 * z1) + x3_2)) + 3).toNatClampNeg)]) (rest := []) ⟨hx, hb, hml, hown, hts⟩ (c_X10_doNow l dC dI bm km th tn at_ wr rm_ mn sn ac_c hi dn ru td (o_10.2) o_5 (sq ((4 * ((16 * z1) + x3_2)) + 1).toNatClampNeg) (sq ((4 * ((16 * z1) + x3_2)) + 2).toNatClampNeg) (sq ((4 * ((16 * z1) + x3_2)) + 3).toNatClampNeg) (va_A [((bm 0), .inr (10, [.int th, .ref (bm 1), .int tn, .int at_, .int wr, .ref (bm 2), .ref (bm 3), .int rm_, .ref (bm 4), .ref (bm 5), .int mn, .ref (bm 6), .ref (bm 7), .int sn, .ref (bm 8), .ref (bm 9), .ref (bm 10), .int ac_c, .long dn, .ref (bm 11), .ref (bm 12), .ref (bm 13), .ref (bm 14), .int hi])), ((bm 4), .inl ((km 4), 8, .inl ru)), ((bm 5), .inl ((km 5), 48, .inl td)), ((bm 8), .inl ((km 8), 279, .inl (o_10.2)))] H.size) o_17 r_18) (cwV 4 hts (q_gV m_941 m_942 m_943 m_5 m_944) rfl rfl rfl hdV_yX10_doNow_4 ⟨Nat.le_of_ble_eq_true rfl, Nat.le_of_ble_eq_true rfl⟩) (q_preWV hK hP hD (q := (RX10, TX10, 24)) (ci := 10) (q0 := 0) rfl rfl [0, 1, 2, 5] (by decide) rfl rfl [0, 1, 4] rfl) rfl rfl hl.1 rfl (lv_room (Nat.le_of_ble_eq_true rfl)) dX10_goSteps_144 ⟨Nat.le_of_ble_eq_true rfl, Nat.le_of_ble_eq_true rfl⟩) hK hP hD hS hA [0, 1, 2, 5] [3, 4, 6] rfl rfl (by decide) (by decide) (fun _ H locs _ hP hD hK9 hS => ?_)
            have hP : va_P (dC, dI) vwCl [((bm 0), .inr (10, [.int th, .ref (bm 1), .int tn, .int at_, .int wr, .ref (bm 2), .ref (bm 3), .int rm_, .ref (bm 4), .ref (bm 5), .int mn, .ref (bm 6), .ref (bm 7), .int sn, .ref (bm 8), .ref (bm 9), .ref (bm 10), .int ac_c, .long dn, .ref (bm 11), .ref (bm 12), .ref (bm 13), .ref (bm 14), .int hi])), ((bm 4), .inl ((km 4), 8, .inl ru)), ((bm 5), .inl ((km 5), 48, .inl td)), ((bm 6), .inl ((km 6), 320, .inl sq)), ((bm 7), .inl ((km 7), 5, .inl sl)), ((bm 8), .inl ((km 8), 279, .inl (o_17.2))), ((bm 10), .inl ((km 10), 11160, .inl kp_c))] H := hP.sub [3, 4, 5, 0, 1, 6, 2] rfl
            have hD : va_D A [((bm 0), .inr (10, [.int th, .ref (bm 1), .int tn, .int at_, .int wr, .ref (bm 2), .ref (bm 3), .int rm_, .ref (bm 4), .ref (bm 5), .int mn, .ref (bm 6), .ref (bm 7), .int sn, .ref (bm 8), .ref (bm 9), .ref (bm 10), .int ac_c, .long dn, .ref (bm 11), .ref (bm 12), .ref (bm 13), .ref (bm 14), .int hi])), ((bm 4), .inl ((km 4), 8, .inl ru)), ((bm 5), .inl ((km 5), 48, .inl td)), ((bm 6), .inl ((km 6), 320, .inl sq)), ((bm 7), .inl ((km 7), 5, .inl sl)), ((bm 8), .inl ((km 8), 279, .inl (o_17.2))), ((bm 10), .inl ((km 10), 11160, .inl kp_c))] := hD.sub [3, 4, 5, 0, 1, 6, 2] (by decide) rfl
            refine lv_pop hx hb dX10_goSteps_147 rfl ?_
            refine lv_iinc (v := (x3_2 + 1)) (lv' := [(3, .int (x3_2 + 1)), (5, .int o_5), (4, .int (4 * ((16 * z1) + x3_2))), (0, .ref (bm 0)), (1, .int z1), (2, .int z2)]) hx hb dX10_goSteps_148 hl (k := 2) rfl (rfl) (by decide) rfl (fun ls hl => ?_)
            refine lv_goto (tgt := 2) hx hb dX10_goSteps_151 (by decide) ?_
            exact ih_2 (x3_2 + 1) ac_c (o_17.2) kp_c H locs ls hG hP hD hS (lv_sub hl [0, 3, 4, 5] rfl)
          · have hG := q_ifn c_13 hG
            refine lv_aload_n hx hb dX10_goSteps_77 rfl (lv_at hl 3 rfl) ?_
            refine lv_iload hx hb dX10_goSteps_78 (lv_at hl 0 rfl) ?_
            refine lv_aload_n hx hb dX10_goSteps_80 rfl (lv_at hl 3 rfl) ?_
            refine va_get (D := (dC, dI)) (ci := 10) (v := .ref (bm 6)) (C := RX10) (T := TX10) (N := 24) hx hb hts iA_10 hown hK hP 0 rfl rfl 11 (by decide) (hts (.fieldLink RX10 25 "HubTreeModel" "script" "[I") (List.mem_cons_of_mem _ m_120)) (fun _ h9 => h9) rfl dX10_goSteps_81 ?_
            refine lv_iload hx hb dX10_goSteps_84 (lv_at hl 1 rfl) ?_
            refine lv_iconst (v := 1) hx hb dX10_goSteps_86 (by decide) ?_
            refine lv_iadd hx hb dX10_goSteps_87 ?_
            obtain ⟨h_19, hG⟩ := q_ix hG
            refine va_iald hx hb hK hP 3 2 rfl rfl (i := ((4 * ((16 * z1) + x3_2)) + 1)) h_19 dX10_goSteps_88 ?_
            refine q_top (y := (sq ((4 * ((16 * z1) + x3_2)) + 1).toNatClampNeg)) rfl ?_
            refine lv_aload_n hx hb dX10_goSteps_89 rfl (lv_at hl 3 rfl) ?_
            refine va_get (D := (dC, dI)) (ci := 10) (v := .ref (bm 6)) (C := RX10) (T := TX10) (N := 24) hx hb hts iA_10 hown hK hP 0 rfl rfl 11 (by decide) (hts (.fieldLink RX10 25 "HubTreeModel" "script" "[I") (List.mem_cons_of_mem _ m_120)) (fun _ h9 => h9) rfl dX10_goSteps_90 ?_
            refine lv_iload hx hb dX10_goSteps_93 (lv_at hl 1 rfl) ?_
            refine lv_iconst (v := 2) hx hb dX10_goSteps_95 (by decide) ?_
            refine lv_iadd hx hb dX10_goSteps_96 ?_
            obtain ⟨h_20, hG⟩ := q_ix hG
            refine va_iald hx hb hK hP 3 2 rfl rfl (i := ((4 * ((16 * z1) + x3_2)) + 2)) h_20 dX10_goSteps_97 ?_
            refine q_top (y := (sq ((4 * ((16 * z1) + x3_2)) + 2).toNatClampNeg)) rfl ?_
            refine lv_aload_n hx hb dX10_goSteps_98 rfl (lv_at hl 3 rfl) ?_
            refine va_get (D := (dC, dI)) (ci := 10) (v := .ref (bm 6)) (C := RX10) (T := TX10) (N := 24) hx hb hts iA_10 hown hK hP 0 rfl rfl 11 (by decide) (hts (.fieldLink RX10 25 "HubTreeModel" "script" "[I") (List.mem_cons_of_mem _ m_120)) (fun _ h9 => h9) rfl dX10_goSteps_99 ?_
            refine lv_iload hx hb dX10_goSteps_102 (lv_at hl 1 rfl) ?_
            refine lv_iconst (v := 3) hx hb dX10_goSteps_104 (by decide) ?_
            refine lv_iadd hx hb dX10_goSteps_105 ?_
            obtain ⟨h_21, hG⟩ := q_ix hG
            refine va_iald hx hb hK hP 3 2 rfl rfl (i := ((4 * ((16 * z1) + x3_2)) + 3)) h_21 dX10_goSteps_106 ?_
            refine q_top (y := (sq ((4 * ((16 * z1) + x3_2)) + 3).toNatClampNeg)) rfl ?_
            obtain ⟨o_22, r_23, hG⟩ := q_bi hG
            refine q_goi2 (v := o_22.1) (wr := [((bm 6), .inl ((km 6), 320, .inl sq)), ((bm 7), .inl ((km 7), 5, .inl sl))]) (va_runV (As := [.int o_5, .int (sq ((4 * ((16 * z1) + x3_2)) + 1).toNatClampNeg), .int (sq ((4 * ((16 * z1) + x3_2)) + 2).toNatClampNeg), .int (sq ((4 * ((16 * z1) + x3_2)) + 3).toNatClampNeg)]) (rest := []) ⟨hx, hb, hml, hown, hts⟩ (c_X10_act l dC dI bm km th tn at_ wr rm_ mn sn ac_c hi dn ru td (o_10.2) kp_c o_5 (sq ((4 * ((16 * z1) + x3_2)) + 1).toNatClampNeg) (sq ((4 * ((16 * z1) + x3_2)) + 2).toNatClampNeg) (sq ((4 * ((16 * z1) + x3_2)) + 3).toNatClampNeg) (va_A [((bm 0), .inr (10, [.int th, .ref (bm 1), .int tn, .int at_, .int wr, .ref (bm 2), .ref (bm 3), .int rm_, .ref (bm 4), .ref (bm 5), .int mn, .ref (bm 6), .ref (bm 7), .int sn, .ref (bm 8), .ref (bm 9), .ref (bm 10), .int ac_c, .long dn, .ref (bm 11), .ref (bm 12), .ref (bm 13), .ref (bm 14), .int hi])), ((bm 4), .inl ((km 4), 8, .inl ru)), ((bm 5), .inl ((km 5), 48, .inl td)), ((bm 8), .inl ((km 8), 279, .inl (o_10.2))), ((bm 10), .inl ((km 10), 11160, .inl kp_c))] H.size) o_22 r_23) (cwV 4 hts (q_gV m_933 m_934 m_935 m_5 m_936) rfl rfl rfl hdV_yX10_act_4 ⟨Nat.le_of_ble_eq_true rfl, Nat.le_of_ble_eq_true rfl⟩) (q_preWV hK hP hD (q := (RX10, TX10, 24)) (ci := 10) (q0 := 0) rfl rfl [0, 1, 2, 5, 6] (by decide) rfl rfl [0, 1, 4, 5] rfl) rfl rfl hl.1 rfl (lv_room (Nat.le_of_ble_eq_true rfl)) dX10_goSteps_107 ⟨Nat.le_of_ble_eq_true rfl, Nat.le_of_ble_eq_true rfl⟩) hK hP hD hS hA [0, 1, 2, 5, 6] [3, 4] rfl rfl (by decide) (by decide) (fun _ H locs _ hP hD hK9 hS => ?_)
            have hP : va_P (dC, dI) vwCl [((bm 0), .inr (10, [.int th, .ref (bm 1), .int tn, .int at_, .int wr, .ref (bm 2), .ref (bm 3), .int rm_, .ref (bm 4), .ref (bm 5), .int mn, .ref (bm 6), .ref (bm 7), .int sn, .ref (bm 8), .ref (bm 9), .ref (bm 10), .int (o_22.2.1), .long dn, .ref (bm 11), .ref (bm 12), .ref (bm 13), .ref (bm 14), .int hi])), ((bm 4), .inl ((km 4), 8, .inl ru)), ((bm 5), .inl ((km 5), 48, .inl td)), ((bm 6), .inl ((km 6), 320, .inl sq)), ((bm 7), .inl ((km 7), 5, .inl sl)), ((bm 8), .inl ((km 8), 279, .inl (o_22.2.2.1))), ((bm 10), .inl ((km 10), 11160, .inl (o_22.2.2.2)))] H := hP.sub [2, 3, 4, 0, 1, 5, 6] rfl
            have hD : va_D A [((bm 0), .inr (10, [.int th, .ref (bm 1), .int tn, .int at_, .int wr, .ref (bm 2), .ref (bm 3), .int rm_, .ref (bm 4), .ref (bm 5), .int mn, .ref (bm 6), .ref (bm 7), .int sn, .ref (bm 8), .ref (bm 9), .ref (bm 10), .int (o_22.2.1), .long dn, .ref (bm 11), .ref (bm 12), .ref (bm 13), .ref (bm 14), .int hi])), ((bm 4), .inl ((km 4), 8, .inl ru)), ((bm 5), .inl ((km 5), 48, .inl td)), ((bm 6), .inl ((km 6), 320, .inl sq)), ((bm 7), .inl ((km 7), 5, .inl sl)), ((bm 8), .inl ((km 8), 279, .inl (o_22.2.2.1))), ((bm 10), .inl ((km 10), 11160, .inl (o_22.2.2.2)))] := hD.sub [2, 3, 4, 0, 1, 5, 6] (by decide) rfl
            refine lv_pop hx hb dX10_goSteps_110 rfl ?_
            refine lv_goto (tgt := 148) hx hb dX10_goSteps_111 (by decide) ?_
            refine lv_iinc (v := (x3_2 + 1)) (lv' := [(3, .int (x3_2 + 1)), (5, .int o_5), (4, .int (4 * ((16 * z1) + x3_2))), (0, .ref (bm 0)), (1, .int z1), (2, .int z2)]) hx hb dX10_goSteps_148 hl (k := 2) rfl (rfl) (by decide) rfl (fun ls hl => ?_)
            refine lv_goto (tgt := 2) hx hb dX10_goSteps_151 (by decide) ?_
            exact ih_2 (x3_2 + 1) (o_22.2.1) (o_22.2.2.1) (o_22.2.2.2) H locs ls hG hP hD hS (lv_sub hl [0, 3, 4, 5] rfl)
        · have hG := q_ifn c_12 hG
          refine lv_iload_n hx hb dX10_goSteps_71 rfl (lv_at hl 2 rfl) ?_
          obtain rfl := Option.some.inj hG
          have hP9 := hP.sub (ws' := [((bm 0), .inr (10, [.int th, .ref (bm 1), .int tn, .int at_, .int wr, .ref (bm 2), .ref (bm 3), .int rm_, .ref (bm 4), .ref (bm 5), .int mn, .ref (bm 6), .ref (bm 7), .int sn, .ref (bm 8), .ref (bm 9), .ref (bm 10), .int ac_c, .long dn, .ref (bm 11), .ref (bm 12), .ref (bm 13), .ref (bm 14), .int hi])), ((bm 4), .inl ((km 4), 8, .inl ru)), ((bm 5), .inl ((km 5), 48, .inl td)), ((bm 6), .inl ((km 6), 320, .inl sq)), ((bm 7), .inl ((km 7), 5, .inl sl)), ((bm 8), .inl ((km 8), 279, .inl (o_10.2))), ((bm 10), .inl ((km 10), 11160, .inl kp_c))]) [0, 1, 2, 3, 4, 5, 6] rfl
          have hD9 := hD.sub (ws' := [((bm 0), .inr (10, [.int th, .ref (bm 1), .int tn, .int at_, .int wr, .ref (bm 2), .ref (bm 3), .int rm_, .ref (bm 4), .ref (bm 5), .int mn, .ref (bm 6), .ref (bm 7), .int sn, .ref (bm 8), .ref (bm 9), .ref (bm 10), .int ac_c, .long dn, .ref (bm 11), .ref (bm 12), .ref (bm 13), .ref (bm 14), .int hi])), ((bm 4), .inl ((km 4), 8, .inl ru)), ((bm 5), .inl ((km 5), 48, .inl td)), ((bm 6), .inl ((km 6), 320, .inl sq)), ((bm 7), .inl ((km 7), 5, .inl sl)), ((bm 8), .inl ((km 8), 279, .inl (o_10.2))), ((bm 10), .inl ((km 10), 11160, .inl kp_c))]) [0, 1, 2, 3, 4, 5, 6] (by decide) rfl
          have hK9 := hK.sub (tys' := [((km 4), .int), ((km 5), .int), ((km 6), .int), ((km 7), .int), ((km 8), .int), ((km 10), .int)]) [0, 1, 2, 3, 4, 5] rfl
          exact W.iret (v := x3_2) hx hb hr (fun t ht hW => ⟨⟨x3_2, (), rfl, ⟨rfl, trivial⟩, by rw [ht]; exact hP9, va_K.moved hW.alike hK9, hD9⟩, hS.F ht⟩) hS.2.2 dX10_goSteps_72
  exact L_2 1000 0 ac nw kp s.heap [] ls hG hP hD hS hl

def F_X10_run (mn : Int32) (sn : Int32) (ac : Int32) (ru : Nat → Int32) (td : Nat → Int32) (sq : Nat → Int32) (sl : Nat → Int32) (nw : Nat → Int32) (kp : Nat → Int32) (as_ : Nat → Int32) (z1 : Int32) (z2 : Int32) : Option (Int32 × Int32 × (Nat → Int32) × (Nat → Int32) × (Nat → Int32)) := ((F_X10_isScript sn z1).bind fun o_1 => (if o_1 = 0 then some ((-1000000), ac, nw, kp, as_) else ((F_X10_isTree mn).bind fun o_4 => (if o_4 = 0 then some ((-1000000), ac, nw, kp, as_) else ((F_X10_in z2 0 1).bind fun o_7 => (if o_7 = 0 then some ((-1000000), ac, nw, kp, as_) else ((F_X10_putAside nw as_).bind fun o_10 => ((F_X10_goSteps mn ac ru td sq sl nw kp z1 0).bind fun o_12 => ((F_X10_those mn (o_12.2.2.1) 6).bind fun o_14 => ((F_X10_bits o_14).bind fun o_16 => ((F_X10_bringBack (o_12.2.2.1) (o_10)).bind fun o_18 => (if z2 = 1 then some (o_16, (o_12.2.1), (o_18), (o_12.2.2.2), (o_10)) else (if z1 < 0 ∨ 5 ≤ (z1).toNatClampNeg then none else (if o_12.1 = (sl (z1).toNatClampNeg) then some ((-1), (o_12.2.1), (o_18), (o_12.2.2.2), (o_10)) else some (o_12.1, (o_12.2.1), (o_18), (o_12.2.2.2), (o_10))))))))))))))))
set_option maxHeartbeats 4000000 in
set_option maxRecDepth 100000 in
theorem c_X10_run (l : Launch) (dC : Nat → ClassId) (dI : Nat → Nat → Nat) (bm : Nat → Nat) (km : Nat → ClassId) (th : Int32) (tn : Int32) (at_ : Int32) (wr : Int32) (rm_ : Int32) (mn : Int32) (sn : Int32) (ac : Int32) (hi : Int32) (dn : Int64) (ru : Nat → Int32) (td : Nat → Int32) (sq : Nat → Int32) (sl : Nat → Int32) (nw : Nat → Int32) (kp : Nat → Int32) (as_ : Nat → Int32) (z1 : Int32) (z2 : Int32) (A : Nat → Prop) (o : Int32 × Int32 × (Nat → Int32) × (Nat → Int32) × (Nat → Int32)) (hG : F_X10_run mn sn ac ru td sq sl nw kp as_ z1 z2 = some o) : Met l yX10_run (.code yX10_run cX10_run 5 (some .int) :: wA) ({ frames := 12, cells := 0, slots := 0, locals := 274 }) (va_Pc [.ref (bm 0), .int z1, .int z2] (q_W (dC, dI) A [((bm 0), .inr (10, [.int th, .ref (bm 1), .int tn, .int at_, .int wr, .ref (bm 2), .ref (bm 3), .int rm_, .ref (bm 4), .ref (bm 5), .int mn, .ref (bm 6), .ref (bm 7), .int sn, .ref (bm 8), .ref (bm 9), .ref (bm 10), .int ac, .long dn, .ref (bm 11), .ref (bm 12), .ref (bm 13), .ref (bm 14), .int hi])), ((bm 4), .inl ((km 4), 8, .inl ru)), ((bm 5), .inl ((km 5), 48, .inl td)), ((bm 6), .inl ((km 6), 320, .inl sq)), ((bm 7), .inl ((km 7), 5, .inl sl)), ((bm 8), .inl ((km 8), 279, .inl nw)), ((bm 10), .inl ((km 10), 11160, .inl kp)), ((bm 11), .inl ((km 11), 98, .inl as_))] [((km 4), .int), ((km 5), .int), ((km 6), .int), ((km 7), .int), ((km 8), .int), ((km 10), .int), ((km 11), .int)])) (va_Qi (fun (r : Int32) (_ : Unit) => r = o.1 ∧ True) (fun (_ : Unit) t => q_B (dC, dI) A [((bm 0), .inr (10, [.int th, .ref (bm 1), .int tn, .int at_, .int wr, .ref (bm 2), .ref (bm 3), .int rm_, .ref (bm 4), .ref (bm 5), .int mn, .ref (bm 6), .ref (bm 7), .int sn, .ref (bm 8), .ref (bm 9), .ref (bm 10), .int (o.2.1), .long dn, .ref (bm 11), .ref (bm 12), .ref (bm 13), .ref (bm 14), .int hi])), ((bm 4), .inl ((km 4), 8, .inl ru)), ((bm 5), .inl ((km 5), 48, .inl td)), ((bm 6), .inl ((km 6), 320, .inl sq)), ((bm 7), .inl ((km 7), 5, .inl sl)), ((bm 8), .inl ((km 8), 279, .inl (o.2.2.1))), ((bm 10), .inl ((km 10), 11160, .inl (o.2.2.2.1))), ((bm 11), .inl ((km 11), 98, .inl (o.2.2.2.2)))] [((km 4), .int), ((km 5), .int), ((km 6), .int), ((km 7), .int), ((km 8), .int), ((km 10), .int), ((km 11), .int)] t) A) 0 0 A := by
  refine Met.ofW (cc := cX10_run) (maxL := 5) (ret := (some .int)) (by decide) rfl ?_
  intro p e s m args below meth c s₁ B hml hv
  obtain ⟨rfl, hP, hK, hD, hA⟩ := hv
  have hx := B.exec
  have hb := B.bytes
  have hr := B.returns
  have hts := atoms_spec (ws := .code yX10_run cX10_run 5 (some .int) :: wA) B.pre
  have hown : s.vm.findClass RX10 = some m.cls := findClass_of_methodNamed B.named
  have hlocks := B.notSynchronized
  have hS : va_S A s.heap s.heap [] := va_S.rf
  have hl := lv_entry ([.ref (bm 0), .int z1, .int z2]) (n := 5) (Nat.le_of_ble_eq_true rfl)
  rw [lg_entry_eq]
  generalize (lg_sl ([.ref (bm 0), .int z1, .int z2]) ++ List.replicate (5 - (lg_sl ([.ref (bm 0), .int z1, .int z2])).length) Slot.unset).toArray = ls at hl ⊢
  have hl : lv_has ls 5 [(0, .ref (bm 0)), (1, .int z1), (2, .int z2)] := hl
  unfold F_X10_run at hG
  refine lv_aload_n hx hb dX10_run_0 rfl (lv_at hl 0 rfl) ?_
  refine lv_iload_n hx hb dX10_run_1 rfl (lv_at hl 1 rfl) ?_
  obtain ⟨o_1, r_2, hG⟩ := q_bi hG
  refine q_goi (v := o_1) (va_runV (As := [.int z1]) (rest := []) ⟨hx, hb, hml, hown, hts⟩ (c_X10_isScript l dC dI bm km th tn at_ wr rm_ mn sn ac hi dn z1 o_1 r_2) (cwV 1 hts (q_gV m_1308 m_1309 m_1310 m_5 m_1311) rfl rfl rfl hdV_yX10_isScript_1 ⟨Nat.le_of_ble_eq_true rfl, Nat.le_of_ble_eq_true rfl⟩) (q_preV hK hP (q := (RX10, TX10, 24)) (ci := 10) (q0 := 0) rfl rfl [0] rfl [] rfl) rfl rfl hl.1 rfl (lv_room (Nat.le_of_ble_eq_true rfl)) dX10_run_2 ⟨Nat.le_of_ble_eq_true rfl, Nat.le_of_ble_eq_true rfl⟩) hP hS (fun H locs hP hS => ?_)
  refine lv_if_eq (tgt := 24) hx hb dX10_run_5 (by decide) (fun c_3 => ?_) (fun c_3 => ?_)
  · have hG := q_ifp c_3 hG
    refine lv_ldcw (v := (-1000000)) hx hb hown (hts (.constant RX10 358 (-1000000)) (List.mem_cons_of_mem _ m_620)) dX10_run_24 ?_
    obtain rfl := Option.some.inj hG
    have hP9 := hP.sub (ws' := [((bm 0), .inr (10, [.int th, .ref (bm 1), .int tn, .int at_, .int wr, .ref (bm 2), .ref (bm 3), .int rm_, .ref (bm 4), .ref (bm 5), .int mn, .ref (bm 6), .ref (bm 7), .int sn, .ref (bm 8), .ref (bm 9), .ref (bm 10), .int ac, .long dn, .ref (bm 11), .ref (bm 12), .ref (bm 13), .ref (bm 14), .int hi])), ((bm 4), .inl ((km 4), 8, .inl ru)), ((bm 5), .inl ((km 5), 48, .inl td)), ((bm 6), .inl ((km 6), 320, .inl sq)), ((bm 7), .inl ((km 7), 5, .inl sl)), ((bm 8), .inl ((km 8), 279, .inl nw)), ((bm 10), .inl ((km 10), 11160, .inl kp)), ((bm 11), .inl ((km 11), 98, .inl as_))]) [0, 1, 2, 3, 4, 5, 6, 7] rfl
    have hD9 := hD.sub (ws' := [((bm 0), .inr (10, [.int th, .ref (bm 1), .int tn, .int at_, .int wr, .ref (bm 2), .ref (bm 3), .int rm_, .ref (bm 4), .ref (bm 5), .int mn, .ref (bm 6), .ref (bm 7), .int sn, .ref (bm 8), .ref (bm 9), .ref (bm 10), .int ac, .long dn, .ref (bm 11), .ref (bm 12), .ref (bm 13), .ref (bm 14), .int hi])), ((bm 4), .inl ((km 4), 8, .inl ru)), ((bm 5), .inl ((km 5), 48, .inl td)), ((bm 6), .inl ((km 6), 320, .inl sq)), ((bm 7), .inl ((km 7), 5, .inl sl)), ((bm 8), .inl ((km 8), 279, .inl nw)), ((bm 10), .inl ((km 10), 11160, .inl kp)), ((bm 11), .inl ((km 11), 98, .inl as_))]) [0, 1, 2, 3, 4, 5, 6, 7] (by decide) rfl
    have hK9 := hK.sub (tys' := [((km 4), .int), ((km 5), .int), ((km 6), .int), ((km 7), .int), ((km 8), .int), ((km 10), .int), ((km 11), .int)]) [0, 1, 2, 3, 4, 5, 6] rfl
    exact W.iret (v := (-1000000)) hx hb hr (fun t ht hW => ⟨⟨(-1000000), (), rfl, ⟨rfl, trivial⟩, by rw [ht]; exact hP9, va_K.moved hW.alike hK9, hD9⟩, hS.F ht⟩) hS.2.2 dX10_run_27
  · have hG := q_ifn c_3 hG
    refine lv_aload_n hx hb dX10_run_8 rfl (lv_at hl 0 rfl) ?_
    obtain ⟨o_4, r_5, hG⟩ := q_bi hG
    refine q_goi (v := o_4) (va_runV (As := []) (rest := []) ⟨hx, hb, hml, hown, hts⟩ (c_X10_isTree l dC dI bm km th tn at_ wr rm_ mn sn ac hi dn o_4 r_5) (cwV 0 hts (q_gV m_454 m_455 m_456 m_5 m_457) rfl rfl rfl hdV_yX10_isTree_0 ⟨Nat.le_of_ble_eq_true rfl, Nat.le_of_ble_eq_true rfl⟩) (q_preV hK hP (q := (RX10, TX10, 24)) (ci := 10) (q0 := 0) rfl rfl [0] rfl [] rfl) rfl rfl hl.1 rfl (lv_room (Nat.le_of_ble_eq_true rfl)) dX10_run_9 ⟨Nat.le_of_ble_eq_true rfl, Nat.le_of_ble_eq_true rfl⟩) hP hS (fun H locs hP hS => ?_)
    refine lv_if_eq (tgt := 24) hx hb dX10_run_12 (by decide) (fun c_6 => ?_) (fun c_6 => ?_)
    · have hG := q_ifp c_6 hG
      refine lv_ldcw (v := (-1000000)) hx hb hown (hts (.constant RX10 358 (-1000000)) (List.mem_cons_of_mem _ m_620)) dX10_run_24 ?_
      obtain rfl := Option.some.inj hG
      have hP9 := hP.sub (ws' := [((bm 0), .inr (10, [.int th, .ref (bm 1), .int tn, .int at_, .int wr, .ref (bm 2), .ref (bm 3), .int rm_, .ref (bm 4), .ref (bm 5), .int mn, .ref (bm 6), .ref (bm 7), .int sn, .ref (bm 8), .ref (bm 9), .ref (bm 10), .int ac, .long dn, .ref (bm 11), .ref (bm 12), .ref (bm 13), .ref (bm 14), .int hi])), ((bm 4), .inl ((km 4), 8, .inl ru)), ((bm 5), .inl ((km 5), 48, .inl td)), ((bm 6), .inl ((km 6), 320, .inl sq)), ((bm 7), .inl ((km 7), 5, .inl sl)), ((bm 8), .inl ((km 8), 279, .inl nw)), ((bm 10), .inl ((km 10), 11160, .inl kp)), ((bm 11), .inl ((km 11), 98, .inl as_))]) [0, 1, 2, 3, 4, 5, 6, 7] rfl
      have hD9 := hD.sub (ws' := [((bm 0), .inr (10, [.int th, .ref (bm 1), .int tn, .int at_, .int wr, .ref (bm 2), .ref (bm 3), .int rm_, .ref (bm 4), .ref (bm 5), .int mn, .ref (bm 6), .ref (bm 7), .int sn, .ref (bm 8), .ref (bm 9), .ref (bm 10), .int ac, .long dn, .ref (bm 11), .ref (bm 12), .ref (bm 13), .ref (bm 14), .int hi])), ((bm 4), .inl ((km 4), 8, .inl ru)), ((bm 5), .inl ((km 5), 48, .inl td)), ((bm 6), .inl ((km 6), 320, .inl sq)), ((bm 7), .inl ((km 7), 5, .inl sl)), ((bm 8), .inl ((km 8), 279, .inl nw)), ((bm 10), .inl ((km 10), 11160, .inl kp)), ((bm 11), .inl ((km 11), 98, .inl as_))]) [0, 1, 2, 3, 4, 5, 6, 7] (by decide) rfl
      have hK9 := hK.sub (tys' := [((km 4), .int), ((km 5), .int), ((km 6), .int), ((km 7), .int), ((km 8), .int), ((km 10), .int), ((km 11), .int)]) [0, 1, 2, 3, 4, 5, 6] rfl
      exact W.iret (v := (-1000000)) hx hb hr (fun t ht hW => ⟨⟨(-1000000), (), rfl, ⟨rfl, trivial⟩, by rw [ht]; exact hP9, va_K.moved hW.alike hK9, hD9⟩, hS.F ht⟩) hS.2.2 dX10_run_27
    · have hG := q_ifn c_6 hG
      refine lv_iload_n hx hb dX10_run_15 rfl (lv_at hl 2 rfl) ?_
      refine lv_iconst (v := 0) hx hb dX10_run_16 (by decide) ?_
      refine lv_iconst (v := 1) hx hb dX10_run_17 (by decide) ?_
      obtain ⟨o_7, r_8, hG⟩ := q_bi hG
      refine q_goi (v := o_7) (va_runS (As := [.int z2, .int 0, .int 1]) (rest := []) ⟨hx, hb, hml, hown, hts⟩ (c_X10_in l dC dI z2 0 1 o_7 r_8) (va_cwS 3 hts (q_gS m_157 m_158 m_5 m_159) rfl rfl rfl hdS_yX10_in_3 ⟨Nat.le_of_ble_eq_true rfl, Nat.le_of_ble_eq_true rfl⟩) (q_preS hK hP [] rfl [] rfl) rfl rfl hl.1 rfl (lv_room (Nat.le_of_ble_eq_true rfl)) dX10_run_18 ⟨Nat.le_of_ble_eq_true rfl, Nat.le_of_ble_eq_true rfl⟩) hP hS (fun H locs hP hS => ?_)
      refine lv_if_ne (tgt := 28) hx hb dX10_run_21 (by decide) (fun c_9 => ?_) (fun c_9 => ?_)
      · have hG := q_ifn c_9 hG
        refine lv_aload_n hx hb dX10_run_28 rfl (lv_at hl 0 rfl) ?_
        obtain ⟨o_10, r_11, hG⟩ := q_bi hG
        refine q_gov2 (wr := [((bm 4), .inl ((km 4), 8, .inl ru)), ((bm 5), .inl ((km 5), 48, .inl td)), ((bm 6), .inl ((km 6), 320, .inl sq)), ((bm 7), .inl ((km 7), 5, .inl sl)), ((bm 10), .inl ((km 10), 11160, .inl kp))]) (va_runV (As := []) (rest := []) ⟨hx, hb, hml, hown, hts⟩ (c_X10_putAside l dC dI bm km th tn at_ wr rm_ mn sn ac hi dn nw as_ (va_A [((bm 0), .inr (10, [.int th, .ref (bm 1), .int tn, .int at_, .int wr, .ref (bm 2), .ref (bm 3), .int rm_, .ref (bm 4), .ref (bm 5), .int mn, .ref (bm 6), .ref (bm 7), .int sn, .ref (bm 8), .ref (bm 9), .ref (bm 10), .int ac, .long dn, .ref (bm 11), .ref (bm 12), .ref (bm 13), .ref (bm 14), .int hi])), ((bm 8), .inl ((km 8), 279, .inl nw)), ((bm 11), .inl ((km 11), 98, .inl as_))] H.size) o_10 r_11) (cwV 0 hts (q_gV m_1191 m_1192 m_1193 m_5 m_1194) rfl rfl rfl hdV_yX10_putAside_0 ⟨Nat.le_of_ble_eq_true rfl, Nat.le_of_ble_eq_true rfl⟩) (q_preWV hK hP hD (q := (RX10, TX10, 24)) (ci := 10) (q0 := 0) rfl rfl [0, 5, 7] (by decide) rfl rfl [4, 6] rfl) rfl rfl hl.1 rfl (lv_room (Nat.le_of_ble_eq_true rfl)) dX10_run_29 ⟨Nat.le_of_ble_eq_true rfl, Nat.le_of_ble_eq_true rfl⟩) hK hP hD hS hA [0, 5, 7] [1, 2, 3, 4, 6] rfl rfl (by decide) (by decide) (fun _ H locs _ hP hD hK9 hS => ?_)
        have hP : va_P (dC, dI) vwCl [((bm 0), .inr (10, [.int th, .ref (bm 1), .int tn, .int at_, .int wr, .ref (bm 2), .ref (bm 3), .int rm_, .ref (bm 4), .ref (bm 5), .int mn, .ref (bm 6), .ref (bm 7), .int sn, .ref (bm 8), .ref (bm 9), .ref (bm 10), .int ac, .long dn, .ref (bm 11), .ref (bm 12), .ref (bm 13), .ref (bm 14), .int hi])), ((bm 4), .inl ((km 4), 8, .inl ru)), ((bm 5), .inl ((km 5), 48, .inl td)), ((bm 6), .inl ((km 6), 320, .inl sq)), ((bm 7), .inl ((km 7), 5, .inl sl)), ((bm 8), .inl ((km 8), 279, .inl nw)), ((bm 10), .inl ((km 10), 11160, .inl kp)), ((bm 11), .inl ((km 11), 98, .inl (o_10)))] H := hP.sub [5, 0, 1, 2, 3, 6, 4, 7] rfl
        have hD : va_D A [((bm 0), .inr (10, [.int th, .ref (bm 1), .int tn, .int at_, .int wr, .ref (bm 2), .ref (bm 3), .int rm_, .ref (bm 4), .ref (bm 5), .int mn, .ref (bm 6), .ref (bm 7), .int sn, .ref (bm 8), .ref (bm 9), .ref (bm 10), .int ac, .long dn, .ref (bm 11), .ref (bm 12), .ref (bm 13), .ref (bm 14), .int hi])), ((bm 4), .inl ((km 4), 8, .inl ru)), ((bm 5), .inl ((km 5), 48, .inl td)), ((bm 6), .inl ((km 6), 320, .inl sq)), ((bm 7), .inl ((km 7), 5, .inl sl)), ((bm 8), .inl ((km 8), 279, .inl nw)), ((bm 10), .inl ((km 10), 11160, .inl kp)), ((bm 11), .inl ((km 11), 98, .inl (o_10)))] := hD.sub [5, 0, 1, 2, 3, 6, 4, 7] (by decide) rfl
        refine lv_aload_n hx hb dX10_run_32 rfl (lv_at hl 0 rfl) ?_
        refine lv_iload_n hx hb dX10_run_33 rfl (lv_at hl 1 rfl) ?_
        refine lv_iconst (v := 0) hx hb dX10_run_34 (by decide) ?_
        obtain ⟨o_12, r_13, hG⟩ := q_bi hG
        refine q_goi2 (v := o_12.1) (wr := [((bm 11), .inl ((km 11), 98, .inl (o_10)))]) (va_runV (As := [.int z1, .int 0]) (rest := []) ⟨hx, hb, hml, hown, hts⟩ (c_X10_goSteps l dC dI bm km th tn at_ wr rm_ mn sn ac hi dn ru td sq sl nw kp z1 0 (va_A [((bm 0), .inr (10, [.int th, .ref (bm 1), .int tn, .int at_, .int wr, .ref (bm 2), .ref (bm 3), .int rm_, .ref (bm 4), .ref (bm 5), .int mn, .ref (bm 6), .ref (bm 7), .int sn, .ref (bm 8), .ref (bm 9), .ref (bm 10), .int ac, .long dn, .ref (bm 11), .ref (bm 12), .ref (bm 13), .ref (bm 14), .int hi])), ((bm 4), .inl ((km 4), 8, .inl ru)), ((bm 5), .inl ((km 5), 48, .inl td)), ((bm 6), .inl ((km 6), 320, .inl sq)), ((bm 7), .inl ((km 7), 5, .inl sl)), ((bm 8), .inl ((km 8), 279, .inl nw)), ((bm 10), .inl ((km 10), 11160, .inl kp))] H.size) o_12 r_13) (cwV 2 hts (q_gV m_1330 m_1331 m_1332 m_5 m_1333) rfl rfl rfl hdV_yX10_goSteps_2 ⟨Nat.le_of_ble_eq_true rfl, Nat.le_of_ble_eq_true rfl⟩) (q_preWV hK hP hD (q := (RX10, TX10, 24)) (ci := 10) (q0 := 0) rfl rfl [0, 1, 2, 3, 4, 5, 6] (by decide) rfl rfl [0, 1, 2, 3, 4, 5] rfl) rfl rfl hl.1 rfl (lv_room (Nat.le_of_ble_eq_true rfl)) dX10_run_35 ⟨Nat.le_of_ble_eq_true rfl, Nat.le_of_ble_eq_true rfl⟩) hK hP hD hS hA [0, 1, 2, 3, 4, 5, 6] [7] rfl rfl (by decide) (by decide) (fun _ H locs _ hP hD hK9 hS => ?_)
        have hP : va_P (dC, dI) vwCl [((bm 0), .inr (10, [.int th, .ref (bm 1), .int tn, .int at_, .int wr, .ref (bm 2), .ref (bm 3), .int rm_, .ref (bm 4), .ref (bm 5), .int mn, .ref (bm 6), .ref (bm 7), .int sn, .ref (bm 8), .ref (bm 9), .ref (bm 10), .int (o_12.2.1), .long dn, .ref (bm 11), .ref (bm 12), .ref (bm 13), .ref (bm 14), .int hi])), ((bm 4), .inl ((km 4), 8, .inl ru)), ((bm 5), .inl ((km 5), 48, .inl td)), ((bm 6), .inl ((km 6), 320, .inl sq)), ((bm 7), .inl ((km 7), 5, .inl sl)), ((bm 8), .inl ((km 8), 279, .inl (o_12.2.2.1))), ((bm 10), .inl ((km 10), 11160, .inl (o_12.2.2.2))), ((bm 11), .inl ((km 11), 98, .inl (o_10)))] H := hP.sub [1, 2, 3, 4, 5, 6, 7, 0] rfl
        have hD : va_D A [((bm 0), .inr (10, [.int th, .ref (bm 1), .int tn, .int at_, .int wr, .ref (bm 2), .ref (bm 3), .int rm_, .ref (bm 4), .ref (bm 5), .int mn, .ref (bm 6), .ref (bm 7), .int sn, .ref (bm 8), .ref (bm 9), .ref (bm 10), .int (o_12.2.1), .long dn, .ref (bm 11), .ref (bm 12), .ref (bm 13), .ref (bm 14), .int hi])), ((bm 4), .inl ((km 4), 8, .inl ru)), ((bm 5), .inl ((km 5), 48, .inl td)), ((bm 6), .inl ((km 6), 320, .inl sq)), ((bm 7), .inl ((km 7), 5, .inl sl)), ((bm 8), .inl ((km 8), 279, .inl (o_12.2.2.1))), ((bm 10), .inl ((km 10), 11160, .inl (o_12.2.2.2))), ((bm 11), .inl ((km 11), 98, .inl (o_10)))] := hD.sub [1, 2, 3, 4, 5, 6, 7, 0] (by decide) rfl
        refine lv_istore_n (lv' := [(3, .int o_12.1), (0, .ref (bm 0)), (1, .int z1), (2, .int z2)]) hx hb dX10_run_38 rfl hl (by decide) rfl (fun ls hl => ?_)
        refine lv_aload_n hx hb dX10_run_39 rfl (lv_at hl 1 rfl) ?_
        refine lv_bipush (v := 6) hx hb dX10_run_40 (by decide) ?_
        obtain ⟨o_14, r_15, hG⟩ := q_bi hG
        refine q_goi (v := o_14) (va_runV (As := [.int 6]) (rest := []) ⟨hx, hb, hml, hown, hts⟩ (c_X10_those l dC dI bm km th tn at_ wr rm_ mn sn (o_12.2.1) hi dn (o_12.2.2.1) 6 o_14 r_15) (cwV 1 hts (q_gV m_1018 m_1019 m_1020 m_5 m_1021) rfl rfl rfl hdV_yX10_those_1 ⟨Nat.le_of_ble_eq_true rfl, Nat.le_of_ble_eq_true rfl⟩) (q_preV hK hP (q := (RX10, TX10, 24)) (ci := 10) (q0 := 0) rfl rfl [0, 5] rfl [4] rfl) rfl rfl hl.1 rfl (lv_room (Nat.le_of_ble_eq_true rfl)) dX10_run_42 ⟨Nat.le_of_ble_eq_true rfl, Nat.le_of_ble_eq_true rfl⟩) hP hS (fun H locs hP hS => ?_)
        obtain ⟨o_16, r_17, hG⟩ := q_bi hG
        refine q_goi (v := o_16) (va_runS (As := [.int o_14]) (rest := []) ⟨hx, hb, hml, hown, hts⟩ (c_X10_bits l dC dI o_14 o_16 r_17) (va_cwS 1 hts (q_gS m_658 m_659 m_5 m_660) rfl rfl rfl hdS_yX10_bits_1 ⟨Nat.le_of_ble_eq_true rfl, Nat.le_of_ble_eq_true rfl⟩) (q_preS hK hP [] rfl [] rfl) rfl rfl hl.1 rfl (lv_room (Nat.le_of_ble_eq_true rfl)) dX10_run_45 ⟨Nat.le_of_ble_eq_true rfl, Nat.le_of_ble_eq_true rfl⟩) hP hS (fun H locs hP hS => ?_)
        refine lv_istore (lv' := [(4, .int o_16), (3, .int o_12.1), (0, .ref (bm 0)), (1, .int z1), (2, .int z2)]) hx hb dX10_run_48 hl (by decide) rfl (fun ls hl => ?_)
        refine lv_aload_n hx hb dX10_run_50 rfl (lv_at hl 2 rfl) ?_
        obtain ⟨o_18, r_19, hG⟩ := q_bi hG
        refine q_gov2 (wr := [((bm 4), .inl ((km 4), 8, .inl ru)), ((bm 5), .inl ((km 5), 48, .inl td)), ((bm 6), .inl ((km 6), 320, .inl sq)), ((bm 7), .inl ((km 7), 5, .inl sl)), ((bm 10), .inl ((km 10), 11160, .inl (o_12.2.2.2)))]) (va_runV (As := []) (rest := []) ⟨hx, hb, hml, hown, hts⟩ (c_X10_bringBack l dC dI bm km th tn at_ wr rm_ mn sn (o_12.2.1) hi dn (o_12.2.2.1) (o_10) (va_A [((bm 0), .inr (10, [.int th, .ref (bm 1), .int tn, .int at_, .int wr, .ref (bm 2), .ref (bm 3), .int rm_, .ref (bm 4), .ref (bm 5), .int mn, .ref (bm 6), .ref (bm 7), .int sn, .ref (bm 8), .ref (bm 9), .ref (bm 10), .int (o_12.2.1), .long dn, .ref (bm 11), .ref (bm 12), .ref (bm 13), .ref (bm 14), .int hi])), ((bm 8), .inl ((km 8), 279, .inl (o_12.2.2.1))), ((bm 11), .inl ((km 11), 98, .inl (o_10)))] H.size) o_18 r_19) (cwV 0 hts (q_gV m_1199 m_1200 m_1201 m_5 m_1202) rfl rfl rfl hdV_yX10_bringBack_0 ⟨Nat.le_of_ble_eq_true rfl, Nat.le_of_ble_eq_true rfl⟩) (q_preWV hK hP hD (q := (RX10, TX10, 24)) (ci := 10) (q0 := 0) rfl rfl [0, 5, 7] (by decide) rfl rfl [4, 6] rfl) rfl rfl hl.1 rfl (lv_room (Nat.le_of_ble_eq_true rfl)) dX10_run_51 ⟨Nat.le_of_ble_eq_true rfl, Nat.le_of_ble_eq_true rfl⟩) hK hP hD hS hA [0, 5, 7] [1, 2, 3, 4, 6] rfl rfl (by decide) (by decide) (fun _ H locs _ hP hD hK9 hS => ?_)
        have hP : va_P (dC, dI) vwCl [((bm 0), .inr (10, [.int th, .ref (bm 1), .int tn, .int at_, .int wr, .ref (bm 2), .ref (bm 3), .int rm_, .ref (bm 4), .ref (bm 5), .int mn, .ref (bm 6), .ref (bm 7), .int sn, .ref (bm 8), .ref (bm 9), .ref (bm 10), .int (o_12.2.1), .long dn, .ref (bm 11), .ref (bm 12), .ref (bm 13), .ref (bm 14), .int hi])), ((bm 4), .inl ((km 4), 8, .inl ru)), ((bm 5), .inl ((km 5), 48, .inl td)), ((bm 6), .inl ((km 6), 320, .inl sq)), ((bm 7), .inl ((km 7), 5, .inl sl)), ((bm 8), .inl ((km 8), 279, .inl (o_18))), ((bm 10), .inl ((km 10), 11160, .inl (o_12.2.2.2))), ((bm 11), .inl ((km 11), 98, .inl (o_10)))] H := hP.sub [5, 0, 1, 2, 3, 6, 4, 7] rfl
        have hD : va_D A [((bm 0), .inr (10, [.int th, .ref (bm 1), .int tn, .int at_, .int wr, .ref (bm 2), .ref (bm 3), .int rm_, .ref (bm 4), .ref (bm 5), .int mn, .ref (bm 6), .ref (bm 7), .int sn, .ref (bm 8), .ref (bm 9), .ref (bm 10), .int (o_12.2.1), .long dn, .ref (bm 11), .ref (bm 12), .ref (bm 13), .ref (bm 14), .int hi])), ((bm 4), .inl ((km 4), 8, .inl ru)), ((bm 5), .inl ((km 5), 48, .inl td)), ((bm 6), .inl ((km 6), 320, .inl sq)), ((bm 7), .inl ((km 7), 5, .inl sl)), ((bm 8), .inl ((km 8), 279, .inl (o_18))), ((bm 10), .inl ((km 10), 11160, .inl (o_12.2.2.2))), ((bm 11), .inl ((km 11), 98, .inl (o_10)))] := hD.sub [5, 0, 1, 2, 3, 6, 4, 7] (by decide) rfl
        refine lv_iload_n hx hb dX10_run_54 rfl (lv_at hl 4 rfl) ?_
        refine lv_iconst (v := 1) hx hb dX10_run_55 (by decide) ?_
        refine lv_icmp_ne (tgt := 64) hx hb dX10_run_56 (by decide) (fun c_20 => ?_) (fun c_20 => ?_)
        · have hG := q_ifn c_20 hG
          refine lv_iload_n hx hb dX10_run_64 rfl (lv_at hl 1 rfl) ?_
          refine lv_aload_n hx hb dX10_run_65 rfl (lv_at hl 2 rfl) ?_
          refine va_get (D := (dC, dI)) (ci := 10) (v := .ref (bm 7)) (C := RX10) (T := TX10) (N := 24) hx hb hts iA_10 hown hK hP 0 rfl rfl 12 (by decide) (hts (.fieldLink RX10 28 "HubTreeModel" "scriptLong" "[I") (List.mem_cons_of_mem _ m_121)) (fun _ h9 => h9) rfl dX10_run_66 ?_
          refine lv_iload_n hx hb dX10_run_69 rfl (lv_at hl 3 rfl) ?_
          obtain ⟨h_21, hG⟩ := q_ix hG
          refine va_iald hx hb hK hP 4 3 rfl rfl (i := z1) h_21 dX10_run_70 ?_
          refine q_top (y := (sl (z1).toNatClampNeg)) rfl ?_
          refine lv_icmp_ne (tgt := 78) hx hb dX10_run_71 (by decide) (fun c_22 => ?_) (fun c_22 => ?_)
          · have hG := q_ifn c_22 hG
            refine lv_iload_n hx hb dX10_run_78 rfl (lv_at hl 1 rfl) ?_
            obtain rfl := Option.some.inj hG
            have hP9 := hP.sub (ws' := [((bm 0), .inr (10, [.int th, .ref (bm 1), .int tn, .int at_, .int wr, .ref (bm 2), .ref (bm 3), .int rm_, .ref (bm 4), .ref (bm 5), .int mn, .ref (bm 6), .ref (bm 7), .int sn, .ref (bm 8), .ref (bm 9), .ref (bm 10), .int (o_12.2.1), .long dn, .ref (bm 11), .ref (bm 12), .ref (bm 13), .ref (bm 14), .int hi])), ((bm 4), .inl ((km 4), 8, .inl ru)), ((bm 5), .inl ((km 5), 48, .inl td)), ((bm 6), .inl ((km 6), 320, .inl sq)), ((bm 7), .inl ((km 7), 5, .inl sl)), ((bm 8), .inl ((km 8), 279, .inl (o_18))), ((bm 10), .inl ((km 10), 11160, .inl (o_12.2.2.2))), ((bm 11), .inl ((km 11), 98, .inl (o_10)))]) [0, 1, 2, 3, 4, 5, 6, 7] rfl
            have hD9 := hD.sub (ws' := [((bm 0), .inr (10, [.int th, .ref (bm 1), .int tn, .int at_, .int wr, .ref (bm 2), .ref (bm 3), .int rm_, .ref (bm 4), .ref (bm 5), .int mn, .ref (bm 6), .ref (bm 7), .int sn, .ref (bm 8), .ref (bm 9), .ref (bm 10), .int (o_12.2.1), .long dn, .ref (bm 11), .ref (bm 12), .ref (bm 13), .ref (bm 14), .int hi])), ((bm 4), .inl ((km 4), 8, .inl ru)), ((bm 5), .inl ((km 5), 48, .inl td)), ((bm 6), .inl ((km 6), 320, .inl sq)), ((bm 7), .inl ((km 7), 5, .inl sl)), ((bm 8), .inl ((km 8), 279, .inl (o_18))), ((bm 10), .inl ((km 10), 11160, .inl (o_12.2.2.2))), ((bm 11), .inl ((km 11), 98, .inl (o_10)))]) [0, 1, 2, 3, 4, 5, 6, 7] (by decide) rfl
            have hK9 := hK.sub (tys' := [((km 4), .int), ((km 5), .int), ((km 6), .int), ((km 7), .int), ((km 8), .int), ((km 10), .int), ((km 11), .int)]) [0, 1, 2, 3, 4, 5, 6] rfl
            exact W.iret (v := o_12.1) hx hb hr (fun t ht hW => ⟨⟨o_12.1, (), rfl, ⟨rfl, trivial⟩, by rw [ht]; exact hP9, va_K.moved hW.alike hK9, hD9⟩, hS.F ht⟩) hS.2.2 dX10_run_79
          · have hG := q_ifp c_22 hG
            refine lv_iconst (v := (-1)) hx hb dX10_run_74 (by decide) ?_
            refine lv_goto (tgt := 79) hx hb dX10_run_75 (by decide) ?_
            obtain rfl := Option.some.inj hG
            have hP9 := hP.sub (ws' := [((bm 0), .inr (10, [.int th, .ref (bm 1), .int tn, .int at_, .int wr, .ref (bm 2), .ref (bm 3), .int rm_, .ref (bm 4), .ref (bm 5), .int mn, .ref (bm 6), .ref (bm 7), .int sn, .ref (bm 8), .ref (bm 9), .ref (bm 10), .int (o_12.2.1), .long dn, .ref (bm 11), .ref (bm 12), .ref (bm 13), .ref (bm 14), .int hi])), ((bm 4), .inl ((km 4), 8, .inl ru)), ((bm 5), .inl ((km 5), 48, .inl td)), ((bm 6), .inl ((km 6), 320, .inl sq)), ((bm 7), .inl ((km 7), 5, .inl sl)), ((bm 8), .inl ((km 8), 279, .inl (o_18))), ((bm 10), .inl ((km 10), 11160, .inl (o_12.2.2.2))), ((bm 11), .inl ((km 11), 98, .inl (o_10)))]) [0, 1, 2, 3, 4, 5, 6, 7] rfl
            have hD9 := hD.sub (ws' := [((bm 0), .inr (10, [.int th, .ref (bm 1), .int tn, .int at_, .int wr, .ref (bm 2), .ref (bm 3), .int rm_, .ref (bm 4), .ref (bm 5), .int mn, .ref (bm 6), .ref (bm 7), .int sn, .ref (bm 8), .ref (bm 9), .ref (bm 10), .int (o_12.2.1), .long dn, .ref (bm 11), .ref (bm 12), .ref (bm 13), .ref (bm 14), .int hi])), ((bm 4), .inl ((km 4), 8, .inl ru)), ((bm 5), .inl ((km 5), 48, .inl td)), ((bm 6), .inl ((km 6), 320, .inl sq)), ((bm 7), .inl ((km 7), 5, .inl sl)), ((bm 8), .inl ((km 8), 279, .inl (o_18))), ((bm 10), .inl ((km 10), 11160, .inl (o_12.2.2.2))), ((bm 11), .inl ((km 11), 98, .inl (o_10)))]) [0, 1, 2, 3, 4, 5, 6, 7] (by decide) rfl
            have hK9 := hK.sub (tys' := [((km 4), .int), ((km 5), .int), ((km 6), .int), ((km 7), .int), ((km 8), .int), ((km 10), .int), ((km 11), .int)]) [0, 1, 2, 3, 4, 5, 6] rfl
            exact W.iret (v := (-1)) hx hb hr (fun t ht hW => ⟨⟨(-1), (), rfl, ⟨rfl, trivial⟩, by rw [ht]; exact hP9, va_K.moved hW.alike hK9, hD9⟩, hS.F ht⟩) hS.2.2 dX10_run_79
        · have hG := q_ifp c_20 hG
          refine lv_iload hx hb dX10_run_59 (lv_at hl 0 rfl) ?_
          refine lv_goto (tgt := 79) hx hb dX10_run_61 (by decide) ?_
          obtain rfl := Option.some.inj hG
          have hP9 := hP.sub (ws' := [((bm 0), .inr (10, [.int th, .ref (bm 1), .int tn, .int at_, .int wr, .ref (bm 2), .ref (bm 3), .int rm_, .ref (bm 4), .ref (bm 5), .int mn, .ref (bm 6), .ref (bm 7), .int sn, .ref (bm 8), .ref (bm 9), .ref (bm 10), .int (o_12.2.1), .long dn, .ref (bm 11), .ref (bm 12), .ref (bm 13), .ref (bm 14), .int hi])), ((bm 4), .inl ((km 4), 8, .inl ru)), ((bm 5), .inl ((km 5), 48, .inl td)), ((bm 6), .inl ((km 6), 320, .inl sq)), ((bm 7), .inl ((km 7), 5, .inl sl)), ((bm 8), .inl ((km 8), 279, .inl (o_18))), ((bm 10), .inl ((km 10), 11160, .inl (o_12.2.2.2))), ((bm 11), .inl ((km 11), 98, .inl (o_10)))]) [0, 1, 2, 3, 4, 5, 6, 7] rfl
          have hD9 := hD.sub (ws' := [((bm 0), .inr (10, [.int th, .ref (bm 1), .int tn, .int at_, .int wr, .ref (bm 2), .ref (bm 3), .int rm_, .ref (bm 4), .ref (bm 5), .int mn, .ref (bm 6), .ref (bm 7), .int sn, .ref (bm 8), .ref (bm 9), .ref (bm 10), .int (o_12.2.1), .long dn, .ref (bm 11), .ref (bm 12), .ref (bm 13), .ref (bm 14), .int hi])), ((bm 4), .inl ((km 4), 8, .inl ru)), ((bm 5), .inl ((km 5), 48, .inl td)), ((bm 6), .inl ((km 6), 320, .inl sq)), ((bm 7), .inl ((km 7), 5, .inl sl)), ((bm 8), .inl ((km 8), 279, .inl (o_18))), ((bm 10), .inl ((km 10), 11160, .inl (o_12.2.2.2))), ((bm 11), .inl ((km 11), 98, .inl (o_10)))]) [0, 1, 2, 3, 4, 5, 6, 7] (by decide) rfl
          have hK9 := hK.sub (tys' := [((km 4), .int), ((km 5), .int), ((km 6), .int), ((km 7), .int), ((km 8), .int), ((km 10), .int), ((km 11), .int)]) [0, 1, 2, 3, 4, 5, 6] rfl
          exact W.iret (v := o_16) hx hb hr (fun t ht hW => ⟨⟨o_16, (), rfl, ⟨rfl, trivial⟩, by rw [ht]; exact hP9, va_K.moved hW.alike hK9, hD9⟩, hS.F ht⟩) hS.2.2 dX10_run_79
      · have hG := q_ifp c_9 hG
        refine lv_ldcw (v := (-1000000)) hx hb hown (hts (.constant RX10 358 (-1000000)) (List.mem_cons_of_mem _ m_620)) dX10_run_24 ?_
        obtain rfl := Option.some.inj hG
        have hP9 := hP.sub (ws' := [((bm 0), .inr (10, [.int th, .ref (bm 1), .int tn, .int at_, .int wr, .ref (bm 2), .ref (bm 3), .int rm_, .ref (bm 4), .ref (bm 5), .int mn, .ref (bm 6), .ref (bm 7), .int sn, .ref (bm 8), .ref (bm 9), .ref (bm 10), .int ac, .long dn, .ref (bm 11), .ref (bm 12), .ref (bm 13), .ref (bm 14), .int hi])), ((bm 4), .inl ((km 4), 8, .inl ru)), ((bm 5), .inl ((km 5), 48, .inl td)), ((bm 6), .inl ((km 6), 320, .inl sq)), ((bm 7), .inl ((km 7), 5, .inl sl)), ((bm 8), .inl ((km 8), 279, .inl nw)), ((bm 10), .inl ((km 10), 11160, .inl kp)), ((bm 11), .inl ((km 11), 98, .inl as_))]) [0, 1, 2, 3, 4, 5, 6, 7] rfl
        have hD9 := hD.sub (ws' := [((bm 0), .inr (10, [.int th, .ref (bm 1), .int tn, .int at_, .int wr, .ref (bm 2), .ref (bm 3), .int rm_, .ref (bm 4), .ref (bm 5), .int mn, .ref (bm 6), .ref (bm 7), .int sn, .ref (bm 8), .ref (bm 9), .ref (bm 10), .int ac, .long dn, .ref (bm 11), .ref (bm 12), .ref (bm 13), .ref (bm 14), .int hi])), ((bm 4), .inl ((km 4), 8, .inl ru)), ((bm 5), .inl ((km 5), 48, .inl td)), ((bm 6), .inl ((km 6), 320, .inl sq)), ((bm 7), .inl ((km 7), 5, .inl sl)), ((bm 8), .inl ((km 8), 279, .inl nw)), ((bm 10), .inl ((km 10), 11160, .inl kp)), ((bm 11), .inl ((km 11), 98, .inl as_))]) [0, 1, 2, 3, 4, 5, 6, 7] (by decide) rfl
        have hK9 := hK.sub (tys' := [((km 4), .int), ((km 5), .int), ((km 6), .int), ((km 7), .int), ((km 8), .int), ((km 10), .int), ((km 11), .int)]) [0, 1, 2, 3, 4, 5, 6] rfl
        exact W.iret (v := (-1000000)) hx hb hr (fun t ht hW => ⟨⟨(-1000000), (), rfl, ⟨rfl, trivial⟩, by rw [ht]; exact hP9, va_K.moved hW.alike hK9, hD9⟩, hS.F ht⟩) hS.2.2 dX10_run_27

def F_X10_perform (mn : Int32) (sn : Int32) (ac : Int32) (ru : Nat → Int32) (td : Nat → Int32) (sq : Nat → Int32) (sl : Nat → Int32) (nw : Nat → Int32) (kp : Nat → Int32) (z1 : Int32) : Option (Int32 × Int32 × (Nat → Int32) × (Nat → Int32)) := ((F_X10_isScript sn z1).bind fun o_1 => (if o_1 = 0 then some ((-1), ac, nw, kp) else ((F_X10_isTree mn).bind fun o_4 => (if o_4 = 0 then some ((-1), ac, nw, kp) else ((F_X10_goSteps mn ac ru td sq sl nw kp z1 1).bind fun o_7 => some (o_7.1, (o_7.2.1), (o_7.2.2.1), (o_7.2.2.2)))))))
set_option maxHeartbeats 4000000 in
set_option maxRecDepth 100000 in
theorem c_X10_perform (l : Launch) (dC : Nat → ClassId) (dI : Nat → Nat → Nat) (bm : Nat → Nat) (km : Nat → ClassId) (th : Int32) (tn : Int32) (at_ : Int32) (wr : Int32) (rm_ : Int32) (mn : Int32) (sn : Int32) (ac : Int32) (hi : Int32) (dn : Int64) (ru : Nat → Int32) (td : Nat → Int32) (sq : Nat → Int32) (sl : Nat → Int32) (nw : Nat → Int32) (kp : Nat → Int32) (z1 : Int32) (A : Nat → Prop) (o : Int32 × Int32 × (Nat → Int32) × (Nat → Int32)) (hG : F_X10_perform mn sn ac ru td sq sl nw kp z1 = some o) : Met l yX10_perform (.code yX10_perform cX10_perform 2 (some .int) :: wA) ({ frames := 12, cells := 0, slots := 0, locals := 274 }) (va_Pc [.ref (bm 0), .int z1] (q_W (dC, dI) A [((bm 0), .inr (10, [.int th, .ref (bm 1), .int tn, .int at_, .int wr, .ref (bm 2), .ref (bm 3), .int rm_, .ref (bm 4), .ref (bm 5), .int mn, .ref (bm 6), .ref (bm 7), .int sn, .ref (bm 8), .ref (bm 9), .ref (bm 10), .int ac, .long dn, .ref (bm 11), .ref (bm 12), .ref (bm 13), .ref (bm 14), .int hi])), ((bm 4), .inl ((km 4), 8, .inl ru)), ((bm 5), .inl ((km 5), 48, .inl td)), ((bm 6), .inl ((km 6), 320, .inl sq)), ((bm 7), .inl ((km 7), 5, .inl sl)), ((bm 8), .inl ((km 8), 279, .inl nw)), ((bm 10), .inl ((km 10), 11160, .inl kp))] [((km 4), .int), ((km 5), .int), ((km 6), .int), ((km 7), .int), ((km 8), .int), ((km 10), .int)])) (va_Qi (fun (r : Int32) (_ : Unit) => r = o.1 ∧ True) (fun (_ : Unit) t => q_B (dC, dI) A [((bm 0), .inr (10, [.int th, .ref (bm 1), .int tn, .int at_, .int wr, .ref (bm 2), .ref (bm 3), .int rm_, .ref (bm 4), .ref (bm 5), .int mn, .ref (bm 6), .ref (bm 7), .int sn, .ref (bm 8), .ref (bm 9), .ref (bm 10), .int (o.2.1), .long dn, .ref (bm 11), .ref (bm 12), .ref (bm 13), .ref (bm 14), .int hi])), ((bm 4), .inl ((km 4), 8, .inl ru)), ((bm 5), .inl ((km 5), 48, .inl td)), ((bm 6), .inl ((km 6), 320, .inl sq)), ((bm 7), .inl ((km 7), 5, .inl sl)), ((bm 8), .inl ((km 8), 279, .inl (o.2.2.1))), ((bm 10), .inl ((km 10), 11160, .inl (o.2.2.2)))] [((km 4), .int), ((km 5), .int), ((km 6), .int), ((km 7), .int), ((km 8), .int), ((km 10), .int)] t) A) 0 0 A := by
  refine Met.ofW (cc := cX10_perform) (maxL := 2) (ret := (some .int)) (by decide) rfl ?_
  intro p e s m args below meth c s₁ B hml hv
  obtain ⟨rfl, hP, hK, hD, hA⟩ := hv
  have hx := B.exec
  have hb := B.bytes
  have hr := B.returns
  have hts := atoms_spec (ws := .code yX10_perform cX10_perform 2 (some .int) :: wA) B.pre
  have hown : s.vm.findClass RX10 = some m.cls := findClass_of_methodNamed B.named
  have hlocks := B.notSynchronized
  have hS : va_S A s.heap s.heap [] := va_S.rf
  have hl := lv_entry ([.ref (bm 0), .int z1]) (n := 2) (Nat.le_of_ble_eq_true rfl)
  rw [lg_entry_eq]
  generalize (lg_sl ([.ref (bm 0), .int z1]) ++ List.replicate (2 - (lg_sl ([.ref (bm 0), .int z1])).length) Slot.unset).toArray = ls at hl ⊢
  have hl : lv_has ls 2 [(0, .ref (bm 0)), (1, .int z1)] := hl
  unfold F_X10_perform at hG
  refine lv_aload_n hx hb dX10_perform_0 rfl (lv_at hl 0 rfl) ?_
  refine lv_iload_n hx hb dX10_perform_1 rfl (lv_at hl 1 rfl) ?_
  obtain ⟨o_1, r_2, hG⟩ := q_bi hG
  refine q_goi (v := o_1) (va_runV (As := [.int z1]) (rest := []) ⟨hx, hb, hml, hown, hts⟩ (c_X10_isScript l dC dI bm km th tn at_ wr rm_ mn sn ac hi dn z1 o_1 r_2) (cwV 1 hts (q_gV m_1308 m_1309 m_1310 m_5 m_1311) rfl rfl rfl hdV_yX10_isScript_1 ⟨Nat.le_of_ble_eq_true rfl, Nat.le_of_ble_eq_true rfl⟩) (q_preV hK hP (q := (RX10, TX10, 24)) (ci := 10) (q0 := 0) rfl rfl [0] rfl [] rfl) rfl rfl hl.1 rfl (lv_room (Nat.le_of_ble_eq_true rfl)) dX10_perform_2 ⟨Nat.le_of_ble_eq_true rfl, Nat.le_of_ble_eq_true rfl⟩) hP hS (fun H locs hP hS => ?_)
  refine lv_if_eq (tgt := 24) hx hb dX10_perform_5 (by decide) (fun c_3 => ?_) (fun c_3 => ?_)
  · have hG := q_ifp c_3 hG
    refine lv_iconst (v := (-1)) hx hb dX10_perform_24 (by decide) ?_
    obtain rfl := Option.some.inj hG
    have hP9 := hP.sub (ws' := [((bm 0), .inr (10, [.int th, .ref (bm 1), .int tn, .int at_, .int wr, .ref (bm 2), .ref (bm 3), .int rm_, .ref (bm 4), .ref (bm 5), .int mn, .ref (bm 6), .ref (bm 7), .int sn, .ref (bm 8), .ref (bm 9), .ref (bm 10), .int ac, .long dn, .ref (bm 11), .ref (bm 12), .ref (bm 13), .ref (bm 14), .int hi])), ((bm 4), .inl ((km 4), 8, .inl ru)), ((bm 5), .inl ((km 5), 48, .inl td)), ((bm 6), .inl ((km 6), 320, .inl sq)), ((bm 7), .inl ((km 7), 5, .inl sl)), ((bm 8), .inl ((km 8), 279, .inl nw)), ((bm 10), .inl ((km 10), 11160, .inl kp))]) [0, 1, 2, 3, 4, 5, 6] rfl
    have hD9 := hD.sub (ws' := [((bm 0), .inr (10, [.int th, .ref (bm 1), .int tn, .int at_, .int wr, .ref (bm 2), .ref (bm 3), .int rm_, .ref (bm 4), .ref (bm 5), .int mn, .ref (bm 6), .ref (bm 7), .int sn, .ref (bm 8), .ref (bm 9), .ref (bm 10), .int ac, .long dn, .ref (bm 11), .ref (bm 12), .ref (bm 13), .ref (bm 14), .int hi])), ((bm 4), .inl ((km 4), 8, .inl ru)), ((bm 5), .inl ((km 5), 48, .inl td)), ((bm 6), .inl ((km 6), 320, .inl sq)), ((bm 7), .inl ((km 7), 5, .inl sl)), ((bm 8), .inl ((km 8), 279, .inl nw)), ((bm 10), .inl ((km 10), 11160, .inl kp))]) [0, 1, 2, 3, 4, 5, 6] (by decide) rfl
    have hK9 := hK.sub (tys' := [((km 4), .int), ((km 5), .int), ((km 6), .int), ((km 7), .int), ((km 8), .int), ((km 10), .int)]) [0, 1, 2, 3, 4, 5] rfl
    exact W.iret (v := (-1)) hx hb hr (fun t ht hW => ⟨⟨(-1), (), rfl, ⟨rfl, trivial⟩, by rw [ht]; exact hP9, va_K.moved hW.alike hK9, hD9⟩, hS.F ht⟩) hS.2.2 dX10_perform_25
  · have hG := q_ifn c_3 hG
    refine lv_aload_n hx hb dX10_perform_8 rfl (lv_at hl 0 rfl) ?_
    obtain ⟨o_4, r_5, hG⟩ := q_bi hG
    refine q_goi (v := o_4) (va_runV (As := []) (rest := []) ⟨hx, hb, hml, hown, hts⟩ (c_X10_isTree l dC dI bm km th tn at_ wr rm_ mn sn ac hi dn o_4 r_5) (cwV 0 hts (q_gV m_454 m_455 m_456 m_5 m_457) rfl rfl rfl hdV_yX10_isTree_0 ⟨Nat.le_of_ble_eq_true rfl, Nat.le_of_ble_eq_true rfl⟩) (q_preV hK hP (q := (RX10, TX10, 24)) (ci := 10) (q0 := 0) rfl rfl [0] rfl [] rfl) rfl rfl hl.1 rfl (lv_room (Nat.le_of_ble_eq_true rfl)) dX10_perform_9 ⟨Nat.le_of_ble_eq_true rfl, Nat.le_of_ble_eq_true rfl⟩) hP hS (fun H locs hP hS => ?_)
    refine lv_if_eq (tgt := 24) hx hb dX10_perform_12 (by decide) (fun c_6 => ?_) (fun c_6 => ?_)
    · have hG := q_ifp c_6 hG
      refine lv_iconst (v := (-1)) hx hb dX10_perform_24 (by decide) ?_
      obtain rfl := Option.some.inj hG
      have hP9 := hP.sub (ws' := [((bm 0), .inr (10, [.int th, .ref (bm 1), .int tn, .int at_, .int wr, .ref (bm 2), .ref (bm 3), .int rm_, .ref (bm 4), .ref (bm 5), .int mn, .ref (bm 6), .ref (bm 7), .int sn, .ref (bm 8), .ref (bm 9), .ref (bm 10), .int ac, .long dn, .ref (bm 11), .ref (bm 12), .ref (bm 13), .ref (bm 14), .int hi])), ((bm 4), .inl ((km 4), 8, .inl ru)), ((bm 5), .inl ((km 5), 48, .inl td)), ((bm 6), .inl ((km 6), 320, .inl sq)), ((bm 7), .inl ((km 7), 5, .inl sl)), ((bm 8), .inl ((km 8), 279, .inl nw)), ((bm 10), .inl ((km 10), 11160, .inl kp))]) [0, 1, 2, 3, 4, 5, 6] rfl
      have hD9 := hD.sub (ws' := [((bm 0), .inr (10, [.int th, .ref (bm 1), .int tn, .int at_, .int wr, .ref (bm 2), .ref (bm 3), .int rm_, .ref (bm 4), .ref (bm 5), .int mn, .ref (bm 6), .ref (bm 7), .int sn, .ref (bm 8), .ref (bm 9), .ref (bm 10), .int ac, .long dn, .ref (bm 11), .ref (bm 12), .ref (bm 13), .ref (bm 14), .int hi])), ((bm 4), .inl ((km 4), 8, .inl ru)), ((bm 5), .inl ((km 5), 48, .inl td)), ((bm 6), .inl ((km 6), 320, .inl sq)), ((bm 7), .inl ((km 7), 5, .inl sl)), ((bm 8), .inl ((km 8), 279, .inl nw)), ((bm 10), .inl ((km 10), 11160, .inl kp))]) [0, 1, 2, 3, 4, 5, 6] (by decide) rfl
      have hK9 := hK.sub (tys' := [((km 4), .int), ((km 5), .int), ((km 6), .int), ((km 7), .int), ((km 8), .int), ((km 10), .int)]) [0, 1, 2, 3, 4, 5] rfl
      exact W.iret (v := (-1)) hx hb hr (fun t ht hW => ⟨⟨(-1), (), rfl, ⟨rfl, trivial⟩, by rw [ht]; exact hP9, va_K.moved hW.alike hK9, hD9⟩, hS.F ht⟩) hS.2.2 dX10_perform_25
    · have hG := q_ifn c_6 hG
      refine lv_aload_n hx hb dX10_perform_15 rfl (lv_at hl 0 rfl) ?_
      refine lv_iload_n hx hb dX10_perform_16 rfl (lv_at hl 1 rfl) ?_
      refine lv_iconst (v := 1) hx hb dX10_perform_17 (by decide) ?_
      obtain ⟨o_7, r_8, hG⟩ := q_bi hG
      refine q_goi2 (v := o_7.1) (wr := []) (va_runV (As := [.int z1, .int 1]) (rest := []) ⟨hx, hb, hml, hown, hts⟩ (c_X10_goSteps l dC dI bm km th tn at_ wr rm_ mn sn ac hi dn ru td sq sl nw kp z1 1 (va_A [((bm 0), .inr (10, [.int th, .ref (bm 1), .int tn, .int at_, .int wr, .ref (bm 2), .ref (bm 3), .int rm_, .ref (bm 4), .ref (bm 5), .int mn, .ref (bm 6), .ref (bm 7), .int sn, .ref (bm 8), .ref (bm 9), .ref (bm 10), .int ac, .long dn, .ref (bm 11), .ref (bm 12), .ref (bm 13), .ref (bm 14), .int hi])), ((bm 4), .inl ((km 4), 8, .inl ru)), ((bm 5), .inl ((km 5), 48, .inl td)), ((bm 6), .inl ((km 6), 320, .inl sq)), ((bm 7), .inl ((km 7), 5, .inl sl)), ((bm 8), .inl ((km 8), 279, .inl nw)), ((bm 10), .inl ((km 10), 11160, .inl kp))] H.size) o_7 r_8) (cwV 2 hts (q_gV m_1330 m_1331 m_1332 m_5 m_1333) rfl rfl rfl hdV_yX10_goSteps_2 ⟨Nat.le_of_ble_eq_true rfl, Nat.le_of_ble_eq_true rfl⟩) (q_preWV hK hP hD (q := (RX10, TX10, 24)) (ci := 10) (q0 := 0) rfl rfl [0, 1, 2, 3, 4, 5, 6] (by decide) rfl rfl [0, 1, 2, 3, 4, 5] rfl) rfl rfl hl.1 rfl (lv_room (Nat.le_of_ble_eq_true rfl)) dX10_perform_18 ⟨Nat.le_of_ble_eq_true rfl, Nat.le_of_ble_eq_true rfl⟩) hK hP hD hS hA [0, 1, 2, 3, 4, 5, 6] [] rfl rfl (by decide) (by decide) (fun _ H locs _ hP hD hK9 hS => ?_)
      have hP : va_P (dC, dI) vwCl [((bm 0), .inr (10, [.int th, .ref (bm 1), .int tn, .int at_, .int wr, .ref (bm 2), .ref (bm 3), .int rm_, .ref (bm 4), .ref (bm 5), .int mn, .ref (bm 6), .ref (bm 7), .int sn, .ref (bm 8), .ref (bm 9), .ref (bm 10), .int (o_7.2.1), .long dn, .ref (bm 11), .ref (bm 12), .ref (bm 13), .ref (bm 14), .int hi])), ((bm 4), .inl ((km 4), 8, .inl ru)), ((bm 5), .inl ((km 5), 48, .inl td)), ((bm 6), .inl ((km 6), 320, .inl sq)), ((bm 7), .inl ((km 7), 5, .inl sl)), ((bm 8), .inl ((km 8), 279, .inl (o_7.2.2.1))), ((bm 10), .inl ((km 10), 11160, .inl (o_7.2.2.2)))] H := hP.sub [0, 1, 2, 3, 4, 5, 6] rfl
      have hD : va_D A [((bm 0), .inr (10, [.int th, .ref (bm 1), .int tn, .int at_, .int wr, .ref (bm 2), .ref (bm 3), .int rm_, .ref (bm 4), .ref (bm 5), .int mn, .ref (bm 6), .ref (bm 7), .int sn, .ref (bm 8), .ref (bm 9), .ref (bm 10), .int (o_7.2.1), .long dn, .ref (bm 11), .ref (bm 12), .ref (bm 13), .ref (bm 14), .int hi])), ((bm 4), .inl ((km 4), 8, .inl ru)), ((bm 5), .inl ((km 5), 48, .inl td)), ((bm 6), .inl ((km 6), 320, .inl sq)), ((bm 7), .inl ((km 7), 5, .inl sl)), ((bm 8), .inl ((km 8), 279, .inl (o_7.2.2.1))), ((bm 10), .inl ((km 10), 11160, .inl (o_7.2.2.2)))] := hD.sub [0, 1, 2, 3, 4, 5, 6] (by decide) rfl
      refine lv_goto (tgt := 25) hx hb dX10_perform_21 (by decide) ?_
      obtain rfl := Option.some.inj hG
      have hP9 := hP.sub (ws' := [((bm 0), .inr (10, [.int th, .ref (bm 1), .int tn, .int at_, .int wr, .ref (bm 2), .ref (bm 3), .int rm_, .ref (bm 4), .ref (bm 5), .int mn, .ref (bm 6), .ref (bm 7), .int sn, .ref (bm 8), .ref (bm 9), .ref (bm 10), .int (o_7.2.1), .long dn, .ref (bm 11), .ref (bm 12), .ref (bm 13), .ref (bm 14), .int hi])), ((bm 4), .inl ((km 4), 8, .inl ru)), ((bm 5), .inl ((km 5), 48, .inl td)), ((bm 6), .inl ((km 6), 320, .inl sq)), ((bm 7), .inl ((km 7), 5, .inl sl)), ((bm 8), .inl ((km 8), 279, .inl (o_7.2.2.1))), ((bm 10), .inl ((km 10), 11160, .inl (o_7.2.2.2)))]) [0, 1, 2, 3, 4, 5, 6] rfl
      have hD9 := hD.sub (ws' := [((bm 0), .inr (10, [.int th, .ref (bm 1), .int tn, .int at_, .int wr, .ref (bm 2), .ref (bm 3), .int rm_, .ref (bm 4), .ref (bm 5), .int mn, .ref (bm 6), .ref (bm 7), .int sn, .ref (bm 8), .ref (bm 9), .ref (bm 10), .int (o_7.2.1), .long dn, .ref (bm 11), .ref (bm 12), .ref (bm 13), .ref (bm 14), .int hi])), ((bm 4), .inl ((km 4), 8, .inl ru)), ((bm 5), .inl ((km 5), 48, .inl td)), ((bm 6), .inl ((km 6), 320, .inl sq)), ((bm 7), .inl ((km 7), 5, .inl sl)), ((bm 8), .inl ((km 8), 279, .inl (o_7.2.2.1))), ((bm 10), .inl ((km 10), 11160, .inl (o_7.2.2.2)))]) [0, 1, 2, 3, 4, 5, 6] (by decide) rfl
      have hK9 := hK.sub (tys' := [((km 4), .int), ((km 5), .int), ((km 6), .int), ((km 7), .int), ((km 8), .int), ((km 10), .int)]) [0, 1, 2, 3, 4, 5] rfl
      exact W.iret (v := o_7.1) hx hb hr (fun t ht hW => ⟨⟨o_7.1, (), rfl, ⟨rfl, trivial⟩, by rw [ht]; exact hP9, va_K.moved hW.alike hK9, hD9⟩, hS.F ht⟩) hS.2.2 dX10_perform_25

def FL_X10_deepest_4 (mn : Int32) (nw : Nat → Int32) : Nat → Int32 → Int32 → Option (Int32)
  | 0, _, _ => none
  | n + 1, x1_4, x2_4 => (if mn ≤ x2_4 then some (x1_4) else ((F_X10_depthOf nw x2_4).bind fun o_2 => (FL_X10_deepest_4 mn nw n (if x1_4 < o_2 then o_2 else x1_4) (x2_4 + 1))))

def F_X10_deepest (mn : Int32) (nw : Nat → Int32) : Option (Int32) := (FL_X10_deepest_4 mn nw 1000 0 0)
set_option maxHeartbeats 4000000 in
set_option maxRecDepth 100000 in
theorem c_X10_deepest (l : Launch) (dC : Nat → ClassId) (dI : Nat → Nat → Nat) (bm : Nat → Nat) (km : Nat → ClassId) (th : Int32) (tn : Int32) (at_ : Int32) (wr : Int32) (rm_ : Int32) (mn : Int32) (sn : Int32) (ac : Int32) (hi : Int32) (dn : Int64) (nw : Nat → Int32) (o : Int32) (hG : F_X10_deepest mn nw = some o) : Met l yX10_deepest (.code yX10_deepest cX10_deepest 3 (some .int) :: wA) ({ frames := 2, cells := 0, slots := 0, locals := 44 }) (va_Pc [.ref (bm 0)] (q_R (dC, dI) [((bm 0), .inr (10, [.int th, .ref (bm 1), .int tn, .int at_, .int wr, .ref (bm 2), .ref (bm 3), .int rm_, .ref (bm 4), .ref (bm 5), .int mn, .ref (bm 6), .ref (bm 7), .int sn, .ref (bm 8), .ref (bm 9), .ref (bm 10), .int ac, .long dn, .ref (bm 11), .ref (bm 12), .ref (bm 13), .ref (bm 14), .int hi])), ((bm 8), .inl ((km 8), 279, .inl nw))] [((km 8), .int)])) (q_i o) 0 0 (fun _ => False) := by
  refine Met.ofW (cc := cX10_deepest) (maxL := 3) (ret := (some .int)) (by decide) rfl ?_
  intro p e s m args below meth c s₁ B hml hv
  obtain ⟨rfl, hP, hK⟩ := hv
  have hx := B.exec
  have hb := B.bytes
  have hr := B.returns
  have hts := atoms_spec (ws := .code yX10_deepest cX10_deepest 3 (some .int) :: wA) B.pre
  have hown : s.vm.findClass RX10 = some m.cls := findClass_of_methodNamed B.named
  have hlocks := B.notSynchronized
  have hS : va_S (fun _ => False) s.heap s.heap [] := va_S.rf
  have hl := lv_entry ([.ref (bm 0)]) (n := 3) (Nat.le_of_ble_eq_true rfl)
  rw [lg_entry_eq]
  generalize (lg_sl ([.ref (bm 0)]) ++ List.replicate (3 - (lg_sl ([.ref (bm 0)])).length) Slot.unset).toArray = ls at hl ⊢
  have hl : lv_has ls 3 [(0, .ref (bm 0))] := hl
  unfold F_X10_deepest at hG
  refine lv_iconst (v := 0) hx hb dX10_deepest_0 (by decide) ?_
  refine lv_istore_n (lv' := [(1, .int 0), (0, .ref (bm 0))]) hx hb dX10_deepest_1 rfl hl (by decide) rfl (fun ls hl => ?_)
  refine lv_iconst (v := 0) hx hb dX10_deepest_2 (by decide) ?_
  refine lv_istore_n (lv' := [(2, .int 0), (1, .int 0), (0, .ref (bm 0))]) hx hb dX10_deepest_3 rfl hl (by decide) rfl (fun ls hl => ?_)
  have L_4 : ∀ (n_4 : Nat) (x1_4 : Int32) (x2_4 : Int32) (H : Heap) (locs : List Loc) (ls : Array Slot), FL_X10_deepest_4 mn nw n_4 x1_4 x2_4 = some o → va_P (dC, dI) vwCl [((bm 0), .inr (10, [.int th, .ref (bm 1), .int tn, .int at_, .int wr, .ref (bm 2), .ref (bm 3), .int rm_, .ref (bm 4), .ref (bm 5), .int mn, .ref (bm 6), .ref (bm 7), .int sn, .ref (bm 8), .ref (bm 9), .ref (bm 10), .int ac, .long dn, .ref (bm 11), .ref (bm 12), .ref (bm 13), .ref (bm 14), .int hi])), ((bm 8), .inl ((km 8), 279, .inl nw))] H → va_S (fun _ => False) s.heap H locs → lv_has ls 3 [(2, .int x2_4), (1, .int x1_4), (0, .ref (bm 0))] → W p l e (headSpec (.code yX10_deepest cX10_deepest 3 (some .int) :: wA) ({ frames := 2, cells := 0, slots := 0, locals := 44 })).room s m #[.ref (bm 0)] below meth c H locs 0 0 (MQ below (q_i o) #[.ref (bm 0)] s 0 0 (fun _ => False)) (F0 m 4 ls []) := by
    intro n_4
    induction n_4 with
    | zero =>
      intro x1_4 x2_4 H locs ls hG
      exact q_no hG
    | succ n_4 ih_4 =>
      intro x1_4 x2_4 H locs ls hG hP hS hl
      unfold FL_X10_deepest_4 at hG
      refine lv_iload_n hx hb dX10_deepest_4 rfl (lv_at hl 0 rfl) ?_
      refine lv_aload_n hx hb dX10_deepest_5 rfl (lv_at hl 2 rfl) ?_
      refine va_get (D := (dC, dI)) (ci := 10) (v := .int mn) (C := RX10) (T := TX10) (N := 24) hx hb hts iA_10 hown hK hP 0 rfl rfl 10 (by decide) (hts (.fieldLink RX10 132 "HubTreeModel" "many" "I") (List.mem_cons_of_mem _ m_433)) (fun _ h9 => h9) rfl dX10_deepest_6 ?_
      refine lv_icmp_ge (tgt := 28) hx hb dX10_deepest_9 (by decide) (fun c_1 => ?_) (fun c_1 => ?_)
      · have hG := q_ifp c_1 hG
        refine lv_iload_n hx hb dX10_deepest_28 rfl (lv_at hl 1 rfl) ?_
        obtain rfl := Option.some.inj hG
        exact W.iret (v := x1_4) hx hb hr (fun t ht hW => ⟨⟨x1_4, (), rfl, rfl, trivial⟩, hS.F ht⟩) hS.2.2 dX10_deepest_29
      · have hG := q_ifn c_1 hG
        refine lv_iload_n hx hb dX10_deepest_12 rfl (lv_at hl 1 rfl) ?_
        refine lv_aload_n hx hb dX10_deepest_13 rfl (lv_at hl 2 rfl) ?_
        refine lv_iload_n hx hb dX10_deepest_14 rfl (lv_at hl 0 rfl) ?_
        obtain ⟨o_2, r_3, hG⟩ := q_bi hG
        refine q_goi (v := o_2) (va_runV (As := [.int x2_4]) (rest := [.int x1_4]) ⟨hx, hb, hml, hown, hts⟩ (c_X10_depthOf l dC dI bm km th tn at_ wr rm_ mn sn ac hi dn nw x2_4 o_2 r_3) (cwV 1 hts (q_gV m_500 m_501 m_502 m_5 m_503) rfl rfl rfl hdV_yX10_depthOf_1 ⟨Nat.le_of_ble_eq_true rfl, Nat.le_of_ble_eq_true rfl⟩) (q_preV hK hP (q := (RX10, TX10, 24)) (ci := 10) (q0 := 0) rfl rfl [0, 1] rfl [0] rfl) rfl rfl hl.1 rfl (lv_room (Nat.le_of_ble_eq_true rfl)) dX10_deepest_15 ⟨Nat.le_of_ble_eq_true rfl, Nat.le_of_ble_eq_true rfl⟩) hP hS (fun H locs hP hS => ?_)
        refine va_mmax hx hb (by rw [hml, hl.1]) hown (hts (.methodLink RX10 384 Lib.Math.max.name) (List.mem_cons_of_mem _ m_1381)) (hts (.static Lib.Math.max.name) (List.mem_cons_of_mem _ m_223)) (hts (.initialized "java/lang/Math") (List.mem_cons_of_mem _ m_224)) (hts (.code Lib.Math.max.name Lib.Math.max.code 2 (some .int)) (List.mem_cons_of_mem _ m_225)) (Nat.le_of_ble_eq_true rfl) (Nat.le_of_ble_eq_true rfl) (Nat.zero_le _) (Nat.zero_le _) dX10_deepest_18 ?_
        refine lv_istore_n (lv' := [(1, .int (if x1_4 < o_2 then o_2 else x1_4)), (2, .int x2_4), (0, .ref (bm 0))]) hx hb dX10_deepest_21 rfl hl (by decide) rfl (fun ls hl => ?_)
        refine lv_iinc (v := (x2_4 + 1)) (lv' := [(2, .int (x2_4 + 1)), (1, .int (if x1_4 < o_2 then o_2 else x1_4)), (0, .ref (bm 0))]) hx hb dX10_deepest_22 hl (k := 1) rfl (rfl) (by decide) rfl (fun ls hl => ?_)
        refine lv_goto (tgt := 4) hx hb dX10_deepest_25 (by decide) ?_
        exact ih_4 (if x1_4 < o_2 then o_2 else x1_4) (x2_4 + 1) H locs ls hG hP hS (lv_sub hl [0, 1, 2] rfl)
  exact L_4 1000 0 0 s.heap [] ls hG hP hS hl

def FL_X10_freeAddresses_4 (mn : Int32) (ru : Nat → Int32) (nw : Nat → Int32) : Nat → Int32 → Int32 → Option (Int32)
  | 0, _, _ => none
  | n + 1, x1_4, x2_4 => (if (ru 7) < x2_4 then some (x1_4) else ((F_X10_whoHas mn nw x2_4).bind fun o_2 => (if o_2 = (-1) then (FL_X10_freeAddresses_4 mn ru nw n (x1_4 + 1) (x2_4 + 1)) else (FL_X10_freeAddresses_4 mn ru nw n (x1_4 + 0) (x2_4 + 1)))))

def F_X10_freeAddresses (mn : Int32) (ru : Nat → Int32) (nw : Nat → Int32) : Option (Int32) := (FL_X10_freeAddresses_4 mn ru nw 1000 0 1)
set_option maxHeartbeats 4000000 in
set_option maxRecDepth 100000 in
theorem c_X10_freeAddresses (l : Launch) (dC : Nat → ClassId) (dI : Nat → Nat → Nat) (bm : Nat → Nat) (km : Nat → ClassId) (th : Int32) (tn : Int32) (at_ : Int32) (wr : Int32) (rm_ : Int32) (mn : Int32) (sn : Int32) (ac : Int32) (hi : Int32) (dn : Int64) (ru : Nat → Int32) (nw : Nat → Int32) (o : Int32) (hG : F_X10_freeAddresses mn ru nw = some o) : Met l yX10_freeAddresses (.code yX10_freeAddresses cX10_freeAddresses 3 (some .int) :: wA) ({ frames := 2, cells := 0, slots := 0, locals := 43 }) (va_Pc [.ref (bm 0)] (q_R (dC, dI) [((bm 0), .inr (10, [.int th, .ref (bm 1), .int tn, .int at_, .int wr, .ref (bm 2), .ref (bm 3), .int rm_, .ref (bm 4), .ref (bm 5), .int mn, .ref (bm 6), .ref (bm 7), .int sn, .ref (bm 8), .ref (bm 9), .ref (bm 10), .int ac, .long dn, .ref (bm 11), .ref (bm 12), .ref (bm 13), .ref (bm 14), .int hi])), ((bm 4), .inl ((km 4), 8, .inl ru)), ((bm 8), .inl ((km 8), 279, .inl nw))] [((km 4), .int), ((km 8), .int)])) (q_i o) 0 0 (fun _ => False) := by
  refine Met.ofW (cc := cX10_freeAddresses) (maxL := 3) (ret := (some .int)) (by decide) rfl ?_
  intro p e s m args below meth c s₁ B hml hv
  obtain ⟨rfl, hP, hK⟩ := hv
  have hx := B.exec
  have hb := B.bytes
  have hr := B.returns
  have hts := atoms_spec (ws := .code yX10_freeAddresses cX10_freeAddresses 3 (some .int) :: wA) B.pre
  have hown : s.vm.findClass RX10 = some m.cls := findClass_of_methodNamed B.named
  have hlocks := B.notSynchronized
  have hS : va_S (fun _ => False) s.heap s.heap [] := va_S.rf
  have hl := lv_entry ([.ref (bm 0)]) (n := 3) (Nat.le_of_ble_eq_true rfl)
  rw [lg_entry_eq]
  generalize (lg_sl ([.ref (bm 0)]) ++ List.replicate (3 - (lg_sl ([.ref (bm 0)])).length) Slot.unset).toArray = ls at hl ⊢
  have hl : lv_has ls 3 [(0, .ref (bm 0))] := hl
  unfold F_X10_freeAddresses at hG
  refine lv_iconst (v := 0) hx hb dX10_freeAddresses_0 (by decide) ?_
  refine lv_istore_n (lv' := [(1, .int 0), (0, .ref (bm 0))]) hx hb dX10_freeAddresses_1 rfl hl (by decide) rfl (fun ls hl => ?_)
  refine lv_iconst (v := 1) hx hb dX10_freeAddresses_2 (by decide) ?_
  refine lv_istore_n (lv' := [(2, .int 1), (1, .int 0), (0, .ref (bm 0))]) hx hb dX10_freeAddresses_3 rfl hl (by decide) rfl (fun ls hl => ?_)
  have L_4 : ∀ (n_4 : Nat) (x1_4 : Int32) (x2_4 : Int32) (H : Heap) (locs : List Loc) (ls : Array Slot), FL_X10_freeAddresses_4 mn ru nw n_4 x1_4 x2_4 = some o → va_P (dC, dI) vwCl [((bm 0), .inr (10, [.int th, .ref (bm 1), .int tn, .int at_, .int wr, .ref (bm 2), .ref (bm 3), .int rm_, .ref (bm 4), .ref (bm 5), .int mn, .ref (bm 6), .ref (bm 7), .int sn, .ref (bm 8), .ref (bm 9), .ref (bm 10), .int ac, .long dn, .ref (bm 11), .ref (bm 12), .ref (bm 13), .ref (bm 14), .int hi])), ((bm 4), .inl ((km 4), 8, .inl ru)), ((bm 8), .inl ((km 8), 279, .inl nw))] H → va_S (fun _ => False) s.heap H locs → lv_has ls 3 [(2, .int x2_4), (1, .int x1_4), (0, .ref (bm 0))] → W p l e (headSpec (.code yX10_freeAddresses cX10_freeAddresses 3 (some .int) :: wA) ({ frames := 2, cells := 0, slots := 0, locals := 43 })).room s m #[.ref (bm 0)] below meth c H locs 0 0 (MQ below (q_i o) #[.ref (bm 0)] s 0 0 (fun _ => False)) (F0 m 4 ls []) := by
    intro n_4
    induction n_4 with
    | zero =>
      intro x1_4 x2_4 H locs ls hG
      exact q_no hG
    | succ n_4 ih_4 =>
      intro x1_4 x2_4 H locs ls hG hP hS hl
      unfold FL_X10_freeAddresses_4 at hG
      refine lv_iload_n hx hb dX10_freeAddresses_4 rfl (lv_at hl 0 rfl) ?_
      refine lv_aload_n hx hb dX10_freeAddresses_5 rfl (lv_at hl 2 rfl) ?_
      refine va_get (D := (dC, dI)) (ci := 10) (v := .ref (bm 4)) (C := RX10) (T := TX10) (N := 24) hx hb hts iA_10 hown hK hP 0 rfl rfl 8 (by decide) (hts (.fieldLink RX10 19 "HubTreeModel" "rule" "[I") (List.mem_cons_of_mem _ m_118)) (fun _ h9 => h9) rfl dX10_freeAddresses_6 ?_
      refine lv_bipush (v := 7) hx hb dX10_freeAddresses_9 (by decide) ?_
      refine va_iald hx hb hK hP 1 0 rfl rfl (i := 7) (vp_in_iff.mpr (by decide)) dX10_freeAddresses_11 ?_
      refine q_top (y := (ru 7)) rfl ?_
      refine lv_icmp_gt (tgt := 38) hx hb dX10_freeAddresses_12 (by decide) (fun c_1 => ?_) (fun c_1 => ?_)
      · have hG := q_ifp c_1 hG
        refine lv_iload_n hx hb dX10_freeAddresses_38 rfl (lv_at hl 1 rfl) ?_
        obtain rfl := Option.some.inj hG
        exact W.iret (v := x1_4) hx hb hr (fun t ht hW => ⟨⟨x1_4, (), rfl, rfl, trivial⟩, hS.F ht⟩) hS.2.2 dX10_freeAddresses_39
      · have hG := q_ifn c_1 hG
        refine lv_iload_n hx hb dX10_freeAddresses_15 rfl (lv_at hl 1 rfl) ?_
        refine lv_aload_n hx hb dX10_freeAddresses_16 rfl (lv_at hl 2 rfl) ?_
        refine lv_iload_n hx hb dX10_freeAddresses_17 rfl (lv_at hl 0 rfl) ?_
        obtain ⟨o_2, r_3, hG⟩ := q_bi hG
        refine q_goi (v := o_2) (va_runV (As := [.int x2_4]) (rest := [.int x1_4]) ⟨hx, hb, hml, hown, hts⟩ (c_X10_whoHas l dC dI bm km th tn at_ wr rm_ mn sn ac hi dn nw x2_4 o_2 r_3) (cwV 1 hts (q_gV m_705 m_706 m_707 m_5 m_708) rfl rfl rfl hdV_yX10_whoHas_1 ⟨Nat.le_of_ble_eq_true rfl, Nat.le_of_ble_eq_true rfl⟩) (q_preV hK hP (q := (RX10, TX10, 24)) (ci := 10) (q0 := 0) rfl rfl [0, 2] rfl [1] rfl) rfl rfl hl.1 rfl (lv_room (Nat.le_of_ble_eq_true rfl)) dX10_freeAddresses_18 ⟨Nat.le_of_ble_eq_true rfl, Nat.le_of_ble_eq_true rfl⟩) hP hS (fun H locs hP hS => ?_)
        refine lv_iconst (v := (-1)) hx hb dX10_freeAddresses_21 (by decide) ?_
        refine lv_icmp_ne (tgt := 29) hx hb dX10_freeAddresses_22 (by decide) (fun c_4 => ?_) (fun c_4 => ?_)
        · have hG := q_ifn c_4 hG
          refine lv_iconst (v := 0) hx hb dX10_freeAddresses_29 (by decide) ?_
          refine lv_iadd hx hb dX10_freeAddresses_30 ?_
          refine lv_istore_n (lv' := [(1, .int (x1_4 + 0)), (2, .int x2_4), (0, .ref (bm 0))]) hx hb dX10_freeAddresses_31 rfl hl (by decide) rfl (fun ls hl => ?_)
          refine lv_iinc (v := (x2_4 + 1)) (lv' := [(2, .int (x2_4 + 1)), (1, .int (x1_4 + 0)), (0, .ref (bm 0))]) hx hb dX10_freeAddresses_32 hl (k := 1) rfl (rfl) (by decide) rfl (fun ls hl => ?_)
          refine lv_goto (tgt := 4) hx hb dX10_freeAddresses_35 (by decide) ?_
          exact ih_4 (x1_4 + 0) (x2_4 + 1) H locs ls hG hP hS (lv_sub hl [0, 1, 2] rfl)
        · have hG := q_ifp c_4 hG
          refine lv_iconst (v := 1) hx hb dX10_freeAddresses_25 (by decide) ?_
          refine lv_goto (tgt := 30) hx hb dX10_freeAddresses_26 (by decide) ?_
          refine lv_iadd hx hb dX10_freeAddresses_30 ?_
          refine lv_istore_n (lv' := [(1, .int (x1_4 + 1)), (2, .int x2_4), (0, .ref (bm 0))]) hx hb dX10_freeAddresses_31 rfl hl (by decide) rfl (fun ls hl => ?_)
          refine lv_iinc (v := (x2_4 + 1)) (lv' := [(2, .int (x2_4 + 1)), (1, .int (x1_4 + 1)), (0, .ref (bm 0))]) hx hb dX10_freeAddresses_32 hl (k := 1) rfl (rfl) (by decide) rfl (fun ls hl => ?_)
          refine lv_goto (tgt := 4) hx hb dX10_freeAddresses_35 (by decide) ?_
          exact ih_4 (x1_4 + 1) (x2_4 + 1) H locs ls hG hP hS (lv_sub hl [0, 1, 2] rfl)
  exact L_4 1000 0 1 s.heap [] ls hG hP hS hl

def FL_X10_supplied_4 (mn : Int32) (td : Nat → Int32) (nw : Nat → Int32) : Nat → Int32 → Int32 → Option (Int32)
  | 0, _, _ => none
  | n + 1, x1_4, x2_4 => (if mn ≤ x2_4 then some (x1_4) else ((F_X10_isHub mn td x2_4).bind fun o_2 => (if o_2 = 0 then (FL_X10_supplied_4 mn td nw n (x1_4 ||| 0) (x2_4 + 1)) else (if (72 + x2_4) < 0 ∨ 279 ≤ ((72 + x2_4)).toNatClampNeg then none else (if (nw (72 + x2_4).toNatClampNeg) = 1 then (FL_X10_supplied_4 mn td nw n (x1_4 ||| (1 <<< (x2_4 &&& 31))) (x2_4 + 1)) else (FL_X10_supplied_4 mn td nw n (x1_4 ||| 0) (x2_4 + 1)))))))

def F_X10_supplied (mn : Int32) (td : Nat → Int32) (nw : Nat → Int32) : Option (Int32) := (FL_X10_supplied_4 mn td nw 1000 0 0)
set_option maxHeartbeats 4000000 in
set_option maxRecDepth 100000 in
theorem c_X10_supplied (l : Launch) (dC : Nat → ClassId) (dI : Nat → Nat → Nat) (bm : Nat → Nat) (km : Nat → ClassId) (th : Int32) (tn : Int32) (at_ : Int32) (wr : Int32) (rm_ : Int32) (mn : Int32) (sn : Int32) (ac : Int32) (hi : Int32) (dn : Int64) (td : Nat → Int32) (nw : Nat → Int32) (o : Int32) (hG : F_X10_supplied mn td nw = some o) : Met l yX10_supplied (.code yX10_supplied cX10_supplied 3 (some .int) :: wA) ({ frames := 3, cells := 0, slots := 0, locals := 64 }) (va_Pc [.ref (bm 0)] (q_R (dC, dI) [((bm 0), .inr (10, [.int th, .ref (bm 1), .int tn, .int at_, .int wr, .ref (bm 2), .ref (bm 3), .int rm_, .ref (bm 4), .ref (bm 5), .int mn, .ref (bm 6), .ref (bm 7), .int sn, .ref (bm 8), .ref (bm 9), .ref (bm 10), .int ac, .long dn, .ref (bm 11), .ref (bm 12), .ref (bm 13), .ref (bm 14), .int hi])), ((bm 5), .inl ((km 5), 48, .inl td)), ((bm 8), .inl ((km 8), 279, .inl nw))] [((km 5), .int), ((km 8), .int)])) (q_i o) 0 0 (fun _ => False) := by
  refine Met.ofW (cc := cX10_supplied) (maxL := 3) (ret := (some .int)) (by decide) rfl ?_
  intro p e s m args below meth c s₁ B hml hv
  obtain ⟨rfl, hP, hK⟩ := hv
  have hx := B.exec
  have hb := B.bytes
  have hr := B.returns
  have hts := atoms_spec (ws := .code yX10_supplied cX10_supplied 3 (some .int) :: wA) B.pre
  have hown : s.vm.findClass RX10 = some m.cls := findClass_of_methodNamed B.named
  have hlocks := B.notSynchronized
  have hS : va_S (fun _ => False) s.heap s.heap [] := va_S.rf
  have hl := lv_entry ([.ref (bm 0)]) (n := 3) (Nat.le_of_ble_eq_true rfl)
  rw [lg_entry_eq]
  generalize (lg_sl ([.ref (bm 0)]) ++ List.replicate (3 - (lg_sl ([.ref (bm 0)])).length) Slot.unset).toArray = ls at hl ⊢
  have hl : lv_has ls 3 [(0, .ref (bm 0))] := hl
  unfold F_X10_supplied at hG
  refine lv_iconst (v := 0) hx hb dX10_supplied_0 (by decide) ?_
  refine lv_istore_n (lv' := [(1, .int 0), (0, .ref (bm 0))]) hx hb dX10_supplied_1 rfl hl (by decide) rfl (fun ls hl => ?_)
  refine lv_iconst (v := 0) hx hb dX10_supplied_2 (by decide) ?_
  refine lv_istore_n (lv' := [(2, .int 0), (1, .int 0), (0, .ref (bm 0))]) hx hb dX10_supplied_3 rfl hl (by decide) rfl (fun ls hl => ?_)
  have L_4 : ∀ (n_4 : Nat) (x1_4 : Int32) (x2_4 : Int32) (H : Heap) (locs : List Loc) (ls : Array Slot), FL_X10_supplied_4 mn td nw n_4 x1_4 x2_4 = some o → va_P (dC, dI) vwCl [((bm 0), .inr (10, [.int th, .ref (bm 1), .int tn, .int at_, .int wr, .ref (bm 2), .ref (bm 3), .int rm_, .ref (bm 4), .ref (bm 5), .int mn, .ref (bm 6), .ref (bm 7), .int sn, .ref (bm 8), .ref (bm 9), .ref (bm 10), .int ac, .long dn, .ref (bm 11), .ref (bm 12), .ref (bm 13), .ref (bm 14), .int hi])), ((bm 5), .inl ((km 5), 48, .inl td)), ((bm 8), .inl ((km 8), 279, .inl nw))] H → va_S (fun _ => False) s.heap H locs → lv_has ls 3 [(2, .int x2_4), (1, .int x1_4), (0, .ref (bm 0))] → W p l e (headSpec (.code yX10_supplied cX10_supplied 3 (some .int) :: wA) ({ frames := 3, cells := 0, slots := 0, locals := 64 })).room s m #[.ref (bm 0)] below meth c H locs 0 0 (MQ below (q_i o) #[.ref (bm 0)] s 0 0 (fun _ => False)) (F0 m 4 ls []) := by
    intro n_4
    induction n_4 with
    | zero =>
      intro x1_4 x2_4 H locs ls hG
      exact q_no hG
    | succ n_4 ih_4 =>
      intro x1_4 x2_4 H locs ls hG hP hS hl
      unfold FL_X10_supplied_4 at hG
      refine lv_iload_n hx hb dX10_supplied_4 rfl (lv_at hl 0 rfl) ?_
      refine lv_aload_n hx hb dX10_supplied_5 rfl (lv_at hl 2 rfl) ?_
      refine va_get (D := (dC, dI)) (ci := 10) (v := .int mn) (C := RX10) (T := TX10) (N := 24) hx hb hts iA_10 hown hK hP 0 rfl rfl 10 (by decide) (hts (.fieldLink RX10 132 "HubTreeModel" "many" "I") (List.mem_cons_of_mem _ m_433)) (fun _ h9 => h9) rfl dX10_supplied_6 ?_
      refine lv_icmp_ge (tgt := 49) hx hb dX10_supplied_9 (by decide) (fun c_1 => ?_) (fun c_1 => ?_)
      · have hG := q_ifp c_1 hG
        refine lv_iload_n hx hb dX10_supplied_49 rfl (lv_at hl 1 rfl) ?_
        obtain rfl := Option.some.inj hG
        exact W.iret (v := x1_4) hx hb hr (fun t ht hW => ⟨⟨x1_4, (), rfl, rfl, trivial⟩, hS.F ht⟩) hS.2.2 dX10_supplied_50
      · have hG := q_ifn c_1 hG
        refine lv_iload_n hx hb dX10_supplied_12 rfl (lv_at hl 1 rfl) ?_
        refine lv_aload_n hx hb dX10_supplied_13 rfl (lv_at hl 2 rfl) ?_
        refine lv_iload_n hx hb dX10_supplied_14 rfl (lv_at hl 0 rfl) ?_
        obtain ⟨o_2, r_3, hG⟩ := q_bi hG
        refine q_goi (v := o_2) (va_runV (As := [.int x2_4]) (rest := [.int x1_4]) ⟨hx, hb, hml, hown, hts⟩ (c_X10_isHub l dC dI bm km th tn at_ wr rm_ mn sn ac hi dn td x2_4 o_2 r_3) (cwV 1 hts (q_gV m_540 m_541 m_542 m_5 m_543) rfl rfl rfl hdV_yX10_isHub_1 ⟨Nat.le_of_ble_eq_true rfl, Nat.le_of_ble_eq_true rfl⟩) (q_preV hK hP (q := (RX10, TX10, 24)) (ci := 10) (q0 := 0) rfl rfl [0, 1] rfl [0] rfl) rfl rfl hl.1 rfl (lv_room (Nat.le_of_ble_eq_true rfl)) dX10_supplied_15 ⟨Nat.le_of_ble_eq_true rfl, Nat.le_of_ble_eq_true rfl⟩) hP hS (fun H locs hP hS => ?_)
        refine lv_if_eq (tgt := 40) hx hb dX10_supplied_18 (by decide) (fun c_4 => ?_) (fun c_4 => ?_)
        · have hG := q_ifp c_4 hG
          refine lv_iconst (v := 0) hx hb dX10_supplied_40 (by decide) ?_
          refine lv_ior hx hb dX10_supplied_41 ?_
          refine lv_istore_n (lv' := [(1, .int (x1_4 ||| 0)), (2, .int x2_4), (0, .ref (bm 0))]) hx hb dX10_supplied_42 rfl hl (by decide) rfl (fun ls hl => ?_)
          refine lv_iinc (v := (x2_4 + 1)) (lv' := [(2, .int (x2_4 + 1)), (1, .int (x1_4 ||| 0)), (0, .ref (bm 0))]) hx hb dX10_supplied_43 hl (k := 1) rfl (rfl) (by decide) rfl (fun ls hl => ?_)
          refine lv_goto (tgt := 4) hx hb dX10_supplied_46 (by decide) ?_
          exact ih_4 (x1_4 ||| 0) (x2_4 + 1) H locs ls hG hP hS (lv_sub hl [0, 1, 2] rfl)
        · have hG := q_ifn c_4 hG
          refine lv_aload_n hx hb dX10_supplied_21 rfl (lv_at hl 2 rfl) ?_
          refine va_get (D := (dC, dI)) (ci := 10) (v := .ref (bm 8)) (C := RX10) (T := TX10) (N := 24) hx hb hts iA_10 hown hK hP 0 rfl rfl 14 (by decide) (hts (.fieldLink RX10 31 "HubTreeModel" "now" "[I") (List.mem_cons_of_mem _ m_122)) (fun _ h9 => h9) rfl dX10_supplied_22 ?_
          refine lv_bipush (v := 72) hx hb dX10_supplied_25 (by decide) ?_
          refine lv_iload_n hx hb dX10_supplied_27 rfl (lv_at hl 0 rfl) ?_
          refine lv_iadd hx hb dX10_supplied_28 ?_
          obtain ⟨h_5, hG⟩ := q_ix hG
          refine va_iald hx hb hK hP 2 1 rfl rfl (i := (72 + x2_4)) h_5 dX10_supplied_29 ?_
          refine q_top (y := (nw (72 + x2_4).toNatClampNeg)) rfl ?_
          refine lv_iconst (v := 1) hx hb dX10_supplied_30 (by decide) ?_
          refine lv_icmp_ne (tgt := 40) hx hb dX10_supplied_31 (by decide) (fun c_6 => ?_) (fun c_6 => ?_)
          · have hG := q_ifn c_6 hG
            refine lv_iconst (v := 0) hx hb dX10_supplied_40 (by decide) ?_
            refine lv_ior hx hb dX10_supplied_41 ?_
            refine lv_istore_n (lv' := [(1, .int (x1_4 ||| 0)), (2, .int x2_4), (0, .ref (bm 0))]) hx hb dX10_supplied_42 rfl hl (by decide) rfl (fun ls hl => ?_)
            refine lv_iinc (v := (x2_4 + 1)) (lv' := [(2, .int (x2_4 + 1)), (1, .int (x1_4 ||| 0)), (0, .ref (bm 0))]) hx hb dX10_supplied_43 hl (k := 1) rfl (rfl) (by decide) rfl (fun ls hl => ?_)
            refine lv_goto (tgt := 4) hx hb dX10_supplied_46 (by decide) ?_
            exact ih_4 (x1_4 ||| 0) (x2_4 + 1) H locs ls hG hP hS (lv_sub hl [0, 1, 2] rfl)
          · have hG := q_ifp c_6 hG
            refine lv_iconst (v := 1) hx hb dX10_supplied_34 (by decide) ?_
            refine lv_iload_n hx hb dX10_supplied_35 rfl (lv_at hl 0 rfl) ?_
            refine lv_ishl hx hb dX10_supplied_36 ?_
            refine lv_goto (tgt := 41) hx hb dX10_supplied_37 (by decide) ?_
            refine lv_ior hx hb dX10_supplied_41 ?_
            refine lv_istore_n (lv' := [(1, .int (x1_4 ||| (1 <<< (x2_4 &&& 31)))), (2, .int x2_4), (0, .ref (bm 0))]) hx hb dX10_supplied_42 rfl hl (by decide) rfl (fun ls hl => ?_)
            refine lv_iinc (v := (x2_4 + 1)) (lv' := [(2, .int (x2_4 + 1)), (1, .int (x1_4 ||| (1 <<< (x2_4 &&& 31)))), (0, .ref (bm 0))]) hx hb dX10_supplied_43 hl (k := 1) rfl (rfl) (by decide) rfl (fun ls hl => ?_)
            refine lv_goto (tgt := 4) hx hb dX10_supplied_46 (by decide) ?_
            exact ih_4 (x1_4 ||| (1 <<< (x2_4 &&& 31))) (x2_4 + 1) H locs ls hG hP hS (lv_sub hl [0, 1, 2] rfl)
  exact L_4 1000 0 0 s.heap [] ls hG hP hS hl

def FL_X10_sleepers_4 (mn : Int32) (ru : Nat → Int32) (td : Nat → Int32) (nw : Nat → Int32) (z1 : Int32) : Nat → Int32 → Int32 → (Nat → Int32) → Option (Int32 × (Nat → Int32))
  | 0, _, _, _ => none
  | n + 1, x2_4, x3_4, nw_c => (if mn ≤ x3_4 then some (x2_4, nw_c) else ((F_X10_isAsleep nw_c x3_4).bind fun o_2 => (if o_2 = 0 then (FL_X10_sleepers_4 mn ru td nw z1 n (x2_4 ||| 0) (x3_4 + 1) nw_c) else (if z1 = 0 then (FL_X10_sleepers_4 mn ru td nw z1 n (x2_4 ||| (1 <<< (x3_4 &&& 31))) (x3_4 + 1) nw_c) else ((F_X10_canWake mn ru td nw_c x3_4).bind fun o_6 => (if o_6.1 = 0 then (FL_X10_sleepers_4 mn ru td nw z1 n (x2_4 ||| 0) (x3_4 + 1) (o_6.2)) else (FL_X10_sleepers_4 mn ru td nw z1 n (x2_4 ||| (1 <<< (x3_4 &&& 31))) (x3_4 + 1) (o_6.2))))))))

def F_X10_sleepers (mn : Int32) (ru : Nat → Int32) (td : Nat → Int32) (nw : Nat → Int32) (z1 : Int32) : Option (Int32 × (Nat → Int32)) := (FL_X10_sleepers_4 mn ru td nw z1 1000 0 0 nw)
set_option maxHeartbeats 4000000 in
set_option maxRecDepth 100000 in
theorem c_X10_sleepers (l : Launch) (dC : Nat → ClassId) (dI : Nat → Nat → Nat) (bm : Nat → Nat) (km : Nat → ClassId) (th : Int32) (tn : Int32) (at_ : Int32) (wr : Int32) (rm_ : Int32) (mn : Int32) (sn : Int32) (ac : Int32) (hi : Int32) (dn : Int64) (ru : Nat → Int32) (td : Nat → Int32) (nw : Nat → Int32) (z1 : Int32) (A : Nat → Prop) (o : Int32 × (Nat → Int32)) (hG : F_X10_sleepers mn ru td nw z1 = some o) : Met l yX10_sleepers (.code yX10_sleepers cX10_sleepers 4 (some .int) :: wA) ({ frames := 5, cells := 0, slots := 0, locals := 111 }) (va_Pc [.ref (bm 0), .int z1] (q_W (dC, dI) A [((bm 0), .inr (10, [.int th, .ref (bm 1), .int tn, .int at_, .int wr, .ref (bm 2), .ref (bm 3), .int rm_, .ref (bm 4), .ref (bm 5), .int mn, .ref (bm 6), .ref (bm 7), .int sn, .ref (bm 8), .ref (bm 9), .ref (bm 10), .int ac, .long dn, .ref (bm 11), .ref (bm 12), .ref (bm 13), .ref (bm 14), .int hi])), ((bm 4), .inl ((km 4), 8, .inl ru)), ((bm 5), .inl ((km 5), 48, .inl td)), ((bm 8), .inl ((km 8), 279, .inl nw))] [((km 4), .int), ((km 5), .int), ((km 8), .int)])) (va_Qi (fun (r : Int32) (_ : Unit) => r = o.1 ∧ True) (fun (_ : Unit) t => q_B (dC, dI) A [((bm 0), .inr (10, [.int th, .ref (bm 1), .int tn, .int at_, .int wr, .ref (bm 2), .ref (bm 3), .int rm_, .ref (bm 4), .ref (bm 5), .int mn, .ref (bm 6), .ref (bm 7), .int sn, .ref (bm 8), .ref (bm 9), .ref (bm 10), .int ac, .long dn, .ref (bm 11), .ref (bm 12), .ref (bm 13), .ref (bm 14), .int hi])), ((bm 4), .inl ((km 4), 8, .inl ru)), ((bm 5), .inl ((km 5), 48, .inl td)), ((bm 8), .inl ((km 8), 279, .inl (o.2)))] [((km 4), .int), ((km 5), .int), ((km 8), .int)] t) A) 0 0 A := by
  refine Met.ofW (cc := cX10_sleepers) (maxL := 4) (ret := (some .int)) (by decide) rfl ?_
  intro p e s m args below meth c s₁ B hml hv
  obtain ⟨rfl, hP, hK, hD, hA⟩ := hv
  have hx := B.exec
  have hb := B.bytes
  have hr := B.returns
  have hts := atoms_spec (ws := .code yX10_sleepers cX10_sleepers 4 (some .int) :: wA) B.pre
  have hown : s.vm.findClass RX10 = some m.cls := findClass_of_methodNamed B.named
  have hlocks := B.notSynchronized
  have hS : va_S A s.heap s.heap [] := va_S.rf
  have hl := lv_entry ([.ref (bm 0), .int z1]) (n := 4) (Nat.le_of_ble_eq_true rfl)
  rw [lg_entry_eq]
  generalize (lg_sl ([.ref (bm 0), .int z1]) ++ List.replicate (4 - (lg_sl ([.ref (bm 0), .int z1])).length) Slot.unset).toArray = ls at hl ⊢
  have hl : lv_has ls 4 [(0, .ref (bm 0)), (1, .int z1)] := hl
  unfold F_X10_sleepers at hG
  refine lv_iconst (v := 0) hx hb dX10_sleepers_0 (by decide) ?_
  refine lv_istore_n (lv' := [(2, .int 0), (0, .ref (bm 0)), (1, .int z1)]) hx hb dX10_sleepers_1 rfl hl (by decide) rfl (fun ls hl => ?_)
  refine lv_iconst (v := 0) hx hb dX10_sleepers_2 (by decide) ?_
  refine lv_istore_n (lv' := [(3, .int 0), (2, .int 0), (0, .ref (bm 0)), (1, .int z1)]) hx hb dX10_sleepers_3 rfl hl (by decide) rfl (fun ls hl => ?_)
  have L_4 : ∀ (n_4 : Nat) (x2_4 : Int32) (x3_4 : Int32) (nw_c : Nat → Int32) (H : Heap) (locs : List Loc) (ls : Array Slot), FL_X10_sleepers_4 mn ru td nw z1 n_4 x2_4 x3_4 nw_c = some o → va_P (dC, dI) vwCl [((bm 0), .inr (10, [.int th, .ref (bm 1), .int tn, .int at_, .int wr, .ref (bm 2), .ref (bm 3), .int rm_, .ref (bm 4), .ref (bm 5), .int mn, .ref (bm 6), .ref (bm 7), .int sn, .ref (bm 8), .ref (bm 9), .ref (bm 10), .int ac, .long dn, .ref (bm 11), .ref (bm 12), .ref (bm 13), .ref (bm 14), .int hi])), ((bm 4), .inl ((km 4), 8, .inl ru)), ((bm 5), .inl ((km 5), 48, .inl td)), ((bm 8), .inl ((km 8), 279, .inl nw_c))] H → va_D A [((bm 0), .inr (10, [.int th, .ref (bm 1), .int tn, .int at_, .int wr, .ref (bm 2), .ref (bm 3), .int rm_, .ref (bm 4), .ref (bm 5), .int mn, .ref (bm 6), .ref (bm 7), .int sn, .ref (bm 8), .ref (bm 9), .ref (bm 10), .int ac, .long dn, .ref (bm 11), .ref (bm 12), .ref (bm 13), .ref (bm 14), .int hi])), ((bm 4), .inl ((km 4), 8, .inl ru)), ((bm 5), .inl ((km 5), 48, .inl td)), ((bm 8), .inl ((km 8), 279, .inl nw_c))] → va_S A s.heap H locs → lv_has ls 4 [(3, .int x3_4), (2, .int x2_4), (0, .ref (bm 0)), (1, .int z1)] → W p l e (headSpec (.code yX10_sleepers cX10_sleepers 4 (some .int) :: wA) ({ frames := 5, cells := 0, slots := 0, locals := 111 })).room s m #[.ref (bm 0), .int z1] below meth c H locs 0 0 (MQ below (va_Qi (fun (r : Int32) (_ : Unit) => r = o.1 ∧ True) (fun (_ : Unit) t => q_B (dC, dI) A [((bm 0), .inr (10, [.int th, .ref (bm 1), .int tn, .int at_, .int wr, .ref (bm 2), .ref (bm 3), .int rm_, .ref (bm 4), .ref (bm 5), .int mn, .ref (bm 6), .ref (bm 7), .int sn, .ref (bm 8), .ref (bm 9), .ref (bm 10), .int ac, .long dn, .ref (bm 11), .ref (bm 12), .ref (bm 13), .ref (bm 14), .int hi])), ((bm 4), .inl ((km 4), 8, .inl ru)), ((bm 5), .inl ((km 5), 48, .inl td)), ((bm 8), .inl ((km 8), 279, .inl (o.2)))] [((km 4), .int), ((km 5), .int), ((km 8), .int)] t) A) #[.ref (bm 0), .int z1] s 0 0 A) (F0 m 4 ls []) := by
    intro n_4
    induction n_4 with
    | zero =>
      intro x2_4 x3_4 nw_c H locs ls hG
      exact q_no hG
    | succ n_4 ih_4 =>
      intro x2_4 x3_4 nw_c H locs ls hG hP hD hS hl
      unfold FL_X10_sleepers_4 at hG
      refine lv_iload_n hx hb dX10_sleepers_4 rfl (lv_at hl 0 rfl) ?_
      refine lv_aload_n hx hb dX10_sleepers_5 rfl (lv_at hl 2 rfl) ?_
      refine va_get (D := (dC, dI)) (ci := 10) (v := .int mn) (C := RX10) (T := TX10) (N := 24) hx hb hts iA_10 hown hK hP 0 rfl rfl 10 (by decide) (hts (.fieldLink RX10 132 "HubTreeModel" "many" "I") (List.mem_cons_of_mem _ m_433)) (fun _ h9 => h9) rfl dX10_sleepers_6 ?_
      refine lv_icmp_ge (tgt := 48) hx hb dX10_sleepers_9 (by decide) (fun c_1 => ?_) (fun c_1 => ?_)
      · have hG := q_ifp c_1 hG
        refine lv_iload_n hx hb dX10_sleepers_48 rfl (lv_at hl 1 rfl) ?_
        obtain rfl := Option.some.inj hG
        have hP9 := hP.sub (ws' := [((bm 0), .inr (10, [.int th, .ref (bm 1), .int tn, .int at_, .int wr, .ref (bm 2), .ref (bm 3), .int rm_, .ref (bm 4), .ref (bm 5), .int mn, .ref (bm 6), .ref (bm 7), .int sn, .ref (bm 8), .ref (bm 9), .ref (bm 10), .int ac, .long dn, .ref (bm 11), .ref (bm 12), .ref (bm 13), .ref (bm 14), .int hi])), ((bm 4), .inl ((km 4), 8, .inl ru)), ((bm 5), .inl ((km 5), 48, .inl td)), ((bm 8), .inl ((km 8), 279, .inl nw_c))]) [0, 1, 2, 3] rfl
        have hD9 := hD.sub (ws' := [((bm 0), .inr (10, [.int th, .ref (bm 1), .int tn, .int at_, .int wr, .ref (bm 2), .ref (bm 3), .int rm_, .ref (bm 4), .ref (bm 5), .int mn, .ref (bm 6), .ref (bm 7), .int sn, .ref (bm 8), .ref (bm 9), .ref (bm 10), .int ac, .long dn, .ref (bm 11), .ref (bm 12), .ref (bm 13), .ref (bm 14), .int hi])), ((bm 4), .inl ((km 4), 8, .inl ru)), ((bm 5), .inl ((km 5), 48, .inl td)), ((bm 8), .inl ((km 8), 279, .inl nw_c))]) [0, 1, 2, 3] (by decide) rfl
        have hK9 := hK.sub (tys' := [((km 4), .int), ((km 5), .int), ((km 8), .int)]) [0, 1, 2] rfl
        exact W.iret (v := x2_4) hx hb hr (fun t ht hW => ⟨⟨x2_4, (), rfl, ⟨rfl, trivial⟩, by rw [ht]; exact hP9, va_K.moved hW.alike hK9, hD9⟩, hS.F ht⟩) hS.2.2 dX10_sleepers_49
      · have hG := q_ifn c_1 hG
        refine lv_iload_n hx hb dX10_sleepers_12 rfl (lv_at hl 1 rfl) ?_
        refine lv_aload_n hx hb dX10_sleepers_13 rfl (lv_at hl 2 rfl) ?_
        refine lv_iload_n hx hb dX10_sleepers_14 rfl (lv_at hl 0 rfl) ?_
        obtain ⟨o_2, r_3, hG⟩ := q_bi hG
        refine q_goi (v := o_2) (va_runV (As := [.int x3_4]) (rest := [.int x2_4]) ⟨hx, hb, hml, hown, hts⟩ (c_X10_isAsleep l dC dI bm km th tn at_ wr rm_ mn sn ac hi dn nw_c x3_4 o_2 r_3) (cwV 1 hts (q_gV m_512 m_513 m_514 m_5 m_515) rfl rfl rfl hdV_yX10_isAsleep_1 ⟨Nat.le_of_ble_eq_true rfl, Nat.le_of_ble_eq_true rfl⟩) (q_preV hK hP (q := (RX10, TX10, 24)) (ci := 10) (q0 := 0) rfl rfl [0, 3] rfl [2] rfl) rfl rfl hl.1 rfl (lv_room (Nat.le_of_ble_eq_true rfl)) dX10_sleepers_15 ⟨Nat.le_of_ble_eq_true rfl, Nat.le_of_ble_eq_true rfl⟩) hP hS (fun H locs hP hS => ?_)
        refine lv_if_eq (tgt := 39) hx hb dX10_sleepers_18 (by decide) (fun c_4 => ?_) (fun c_4 => ?_)
        · have hG := q_ifp c_4 hG
          refine lv_iconst (v := 0) hx hb dX10_sleepers_39 (by decide) ?_
          refine lv_ior hx hb dX10_sleepers_40 ?_
          refine lv_istore_n (lv' := [(2, .int (x2_4 ||| 0)), (3, .int x3_4), (0, .ref (bm 0)), (1, .int z1)]) hx hb dX10_sleepers_41 rfl hl (by decide) rfl (fun ls hl => ?_)
          refine lv_iinc (v := (x3_4 + 1)) (lv' := [(3, .int (x3_4 + 1)), (2, .int (x2_4 ||| 0)), (0, .ref (bm 0)), (1, .int z1)]) hx hb dX10_sleepers_42 hl (k := 1) rfl (rfl) (by decide) rfl (fun ls hl => ?_)
          refine lv_goto (tgt := 4) hx hb dX10_sleepers_45 (by decide) ?_
          exact ih_4 (x2_4 ||| 0) (x3_4 + 1) nw_c H locs ls hG hP hD hS (lv_sub hl [0, 1, 2, 3] rfl)
        · have hG := q_ifn c_4 hG
          refine lv_iload_n hx hb dX10_sleepers_21 rfl (lv_at hl 3 rfl) ?_
          refine lv_if_eq (tgt := 33) hx hb dX10_sleepers_22 (by decide) (fun c_5 => ?_) (fun c_5 => ?_)
          · have hG := q_ifp c_5 hG
            refine lv_iconst (v := 1) hx hb dX10_sleepers_33 (by decide) ?_
            refine lv_iload_n hx hb dX10_sleepers_34 rfl (lv_at hl 0 rfl) ?_
            refine lv_ishl hx hb dX10_sleepers_35 ?_
            refine lv_goto (tgt := 40) hx hb dX10_sleepers_36 (by decide) ?_
            refine lv_ior hx hb dX10_sleepers_40 ?_
            refine lv_istore_n (lv' := [(2, .int (x2_4 ||| (1 <<< (x3_4 &&& 31)))), (3, .int x3_4), (0, .ref (bm 0)), (1, .int z1)]) hx hb dX10_sleepers_41 rfl hl (by decide) rfl (fun ls hl => ?_)
            refine lv_iinc (v := (x3_4 + 1)) (lv' := [(3, .int (x3_4 + 1)), (2, .int (x2_4 ||| (1 <<< (x3_4 &&& 31)))), (0, .ref (bm 0)), (1, .int z1)]) hx hb dX10_sleepers_42 hl (k := 1) rfl (rfl) (by decide) rfl (fun ls hl => ?_)
            refine lv_goto (tgt := 4) hx hb dX10_sleepers_45 (by decide) ?_
            exact ih_4 (x2_4 ||| (1 <<< (x3_4 &&& 31))) (x3_4 + 1) nw_c H locs ls hG hP hD hS (lv_sub hl [0, 1, 2, 3] rfl)
          · have hG := q_ifn c_5 hG
            refine lv_aload_n hx hb dX10_sleepers_25 rfl (lv_at hl 2 rfl) ?_
            refine lv_iload_n hx hb dX10_sleepers_26 rfl (lv_at hl 0 rfl) ?_
            obtain ⟨o_6, r_7, hG⟩ := q_bi hG
            refine q_goi2 (v := o_6.1) (wr := []) (va_runV (As := [.int x3_4]) (rest := [.int x2_4]) ⟨hx, hb, hml, hown, hts⟩ (c_X10_canWake l dC dI bm km th tn at_ wr rm_ mn sn ac hi dn ru td nw_c x3_4 (va_A [((bm 0), .inr (10, [.int th, .ref (bm 1), .int tn, .int at_, .int wr, .ref (bm 2), .ref (bm 3), .int rm_, .ref (bm 4), .ref (bm 5), .int mn, .ref (bm 6), .ref (bm 7), .int sn, .ref (bm 8), .ref (bm 9), .ref (bm 10), .int ac, .long dn, .ref (bm 11), .ref (bm 12), .ref (bm 13), .ref (bm 14), .int hi])), ((bm 4), .inl ((km 4), 8, .inl ru)), ((bm 5), .inl ((km 5), 48, .inl td)), ((bm 8), .inl ((km 8), 279, .inl nw_c))] H.size) o_6 r_7) (cwV 1 hts (q_gV m_913 m_914 m_915 m_5 m_916) rfl rfl rfl hdV_yX10_canWake_1 ⟨Nat.le_of_ble_eq_true rfl, Nat.le_of_ble_eq_true rfl⟩) (q_preWV hK hP hD (q := (RX10, TX10, 24)) (ci := 10) (q0 := 0) rfl rfl [0, 1, 2, 3] (by decide) rfl rfl [0, 1, 2] rfl) rfl rfl hl.1 rfl (lv_room (Nat.le_of_ble_eq_true rfl)) dX10_sleepers_27 ⟨Nat.le_of_ble_eq_true rfl, Nat.le_of_ble_eq_true rfl⟩) hK hP hD hS hA [0, 1, 2, 3] [] rfl rfl (by decide) (by decide) (fun _ H locs _ hP hD hK9 hS => ?_)
            have hP : va_P (dC, dI) vwCl [((bm 0), .inr (10, [.int th, .ref (bm 1), .int tn, .int at_, .int wr, .ref (bm 2), .ref (bm 3), .int rm_, .ref (bm 4), .ref (bm 5), .int mn, .ref (bm 6), .ref (bm 7), .int sn, .ref (bm 8), .ref (bm 9), .ref (bm 10), .int ac, .long dn, .ref (bm 11), .ref (bm 12), .ref (bm 13), .ref (bm 14), .int hi])), ((bm 4), .inl ((km 4), 8, .inl ru)), ((bm 5), .inl ((km 5), 48, .inl td)), ((bm 8), .inl ((km 8), 279, .inl (o_6.2)))] H := hP.sub [0, 1, 2, 3] rfl
            have hD : va_D A [((bm 0), .inr (10, [.int th, .ref (bm 1), .int tn, .int at_, .int wr, .ref (bm 2), .ref (bm 3), .int rm_, .ref (bm 4), .ref (bm 5), .int mn, .ref (bm 6), .ref (bm 7), .int sn, .ref (bm 8), .ref (bm 9), .ref (bm 10), .int ac, .long dn, .ref (bm 11), .ref (bm 12), .ref (bm 13), .ref (bm 14), .int hi])), ((bm 4), .inl ((km 4), 8, .inl ru)), ((bm 5), .inl ((km 5), 48, .inl td)), ((bm 8), .inl ((km 8), 279, .inl (o_6.2)))] := hD.sub [0, 1, 2, 3] (by decide) rfl
            refine lv_if_eq (tgt := 39) hx hb dX10_sleepers_30 (by decide) (fun c_8 => ?_) (fun c_8 => ?_)
            · have hG := q_ifp c_8 hG
              refine lv_iconst (v := 0) hx hb dX10_sleepers_39 (by decide) ?_
              refine lv_ior hx hb dX10_sleepers_40 ?_
              refine lv_istore_n (lv' := [(2, .int (x2_4 ||| 0)), (3, .int x3_4), (0, .ref (bm 0)), (1, .int z1)]) hx hb dX10_sleepers_41 rfl hl (by decide) rfl (fun ls hl => ?_)
              refine lv_iinc (v := (x3_4 + 1)) (lv' := [(3, .int (x3_4 + 1)), (2, .int (x2_4 ||| 0)), (0, .ref (bm 0)), (1, .int z1)]) hx hb dX10_sleepers_42 hl (k := 1) rfl (rfl) (by decide) rfl (fun ls hl => ?_)
              refine lv_goto (tgt := 4) hx hb dX10_sleepers_45 (by decide) ?_
              exact ih_4 (x2_4 ||| 0) (x3_4 + 1) (o_6.2) H locs ls hG hP hD hS (lv_sub hl [0, 1, 2, 3] rfl)
            · have hG := q_ifn c_8 hG
              refine lv_iconst (v := 1) hx hb dX10_sleepers_33 (by decide) ?_
              refine lv_iload_n hx hb dX10_sleepers_34 rfl (lv_at hl 0 rfl) ?_
              refine lv_ishl hx hb dX10_sleepers_35 ?_
              refine lv_goto (tgt := 40) hx hb dX10_sleepers_36 (by decide) ?_
              refine lv_ior hx hb dX10_sleepers_40 ?_
              refine lv_istore_n (lv' := [(2, .int (x2_4 ||| (1 <<< (x3_4 &&& 31)))), (3, .int x3_4), (0, .ref (bm 0)), (1, .int z1)]) hx hb dX10_sleepers_41 rfl hl (by decide) rfl (fun ls hl => ?_)
              refine lv_iinc (v := (x3_4 + 1)) (lv' := [(3, .int (x3_4 + 1)), (2, .int (x2_4 ||| (1 <<< (x3_4 &&& 31)))), (0, .ref (bm 0)), (1, .int z1)]) hx hb dX10_sleepers_42 hl (k := 1) rfl (rfl) (by decide) rfl (fun ls hl => ?_)
              refine lv_goto (tgt := 4) hx hb dX10_sleepers_45 (by decide) ?_
              exact ih_4 (x2_4 ||| (1 <<< (x3_4 &&& 31))) (x3_4 + 1) (o_6.2) H locs ls hG hP hD hS (lv_sub hl [0, 1, 2, 3] rfl)
  exact L_4 1000 0 0 nw s.heap [] ls hG hP hD hS hl

def F_X10_all (mn : Int32) (ru : Nat → Int32) (td : Nat → Int32) (nw : Nat → Int32) (z1 : Int32) : Option (Int32 × (Nat → Int32)) := ((F_X10_isTree mn).bind fun o_1 => (if o_1 = 0 then some ((-1000000), nw) else ((F_X10_in z1 0 12).bind fun o_4 => (if o_4 = 0 then some ((-1000000), nw) else (if z1 = 0 then some ((nw 96), nw) else (if z1 = 1 then ((F_X10_those mn nw 0).bind fun o_9 => some (o_9, nw)) else (if z1 = 2 then ((F_X10_those mn nw 1).bind fun o_12 => some (o_12, nw)) else (if z1 = 3 then ((F_X10_those mn nw 2).bind fun o_15 => some (o_15, nw)) else (if z1 = 4 then ((F_X10_those mn nw 6).bind fun o_18 => some (o_18, nw)) else (if z1 = 5 then ((F_X10_those mn nw 7).bind fun o_21 => some (o_21, nw)) else (if z1 = 6 then ((F_X10_busy mn nw).bind fun o_24 => some (o_24, nw)) else (if z1 = 7 then ((F_X10_busOfAll mn td nw).bind fun o_27 => some (o_27, nw)) else (if z1 = 8 then ((F_X10_deepest mn nw).bind fun o_30 => some (o_30, nw)) else (if z1 = 9 then ((F_X10_freeAddresses mn ru nw).bind fun o_33 => some (o_33, nw)) else (if z1 = 10 then ((F_X10_supplied mn td nw).bind fun o_36 => some (o_36, nw)) else (if z1 = 11 then ((F_X10_sleepers mn ru td nw 0).bind fun o_39 => some (o_39.1, (o_39.2))) else ((F_X10_sleepers mn ru td nw 1).bind fun o_41 => some (o_41.1, (o_41.2)))))))))))))))))))
set_option maxHeartbeats 4000000 in
set_option maxRecDepth 100000 in
theorem c_X10_all (l : Launch) (dC : Nat → ClassId) (dI : Nat → Nat → Nat) (bm : Nat → Nat) (km : Nat → ClassId) (th : Int32) (tn : Int32) (at_ : Int32) (wr : Int32) (rm_ : Int32) (mn : Int32) (sn : Int32) (ac : Int32) (hi : Int32) (dn : Int64) (ru : Nat → Int32) (td : Nat → Int32) (nw : Nat → Int32) (z1 : Int32) (A : Nat → Prop) (o : Int32 × (Nat → Int32)) (hG : F_X10_all mn ru td nw z1 = some o) : Met l yX10_all (.code yX10_all cX10_all 2 (some .int) :: wA) ({ frames := 6, cells := 0, slots := 0, locals := 134 }) (va_Pc [.ref (bm 0), .int z1] (q_W (dC, dI) A [((bm 0), .inr (10, [.int th, .ref (bm 1), .int tn, .int at_, .int wr, .ref (bm 2), .ref (bm 3), .int rm_, .ref (bm 4), .ref (bm 5), .int mn, .ref (bm 6), .ref (bm 7), .int sn, .ref (bm 8), .ref (bm 9), .ref (bm 10), .int ac, .long dn, .ref (bm 11), .ref (bm 12), .ref (bm 13), .ref (bm 14), .int hi])), ((bm 4), .inl ((km 4), 8, .inl ru)), ((bm 5), .inl ((km 5), 48, .inl td)), ((bm 8), .inl ((km 8), 279, .inl nw))] [((km 4), .int), ((km 5), .int), ((km 8), .int)])) (va_Qi (fun (r : Int32) (_ : Unit) => r = o.1 ∧ True) (fun (_ : Unit) t => q_B (dC, dI) A [((bm 0), .inr (10, [.int th, .ref (bm 1), .int tn, .int at_, .int wr, .ref (bm 2), .ref (bm 3), .int rm_, .ref (bm 4), .ref (bm 5), .int mn, .ref (bm 6), .ref (bm 7), .int sn, .ref (bm 8), .ref (bm 9), .ref (bm 10), .int ac, .long dn, .ref (bm 11), .ref (bm 12), .ref (bm 13), .ref (bm 14), .int hi])), ((bm 4), .inl ((km 4), 8, .inl ru)), ((bm 5), .inl ((km 5), 48, .inl td)), ((bm 8), .inl ((km 8), 279, .inl (o.2)))] [((km 4), .int), ((km 5), .int), ((km 8), .int)] t) A) 0 0 A := by
  refine Met.ofW (cc := cX10_all) (maxL := 2) (ret := (some .int)) (by decide) rfl ?_
  intro p e s m args below meth c s₁ B hml hv
  obtain ⟨rfl, hP, hK, hD, hA⟩ := hv
  have hx := B.exec
  have hb := B.bytes
  have hr := B.returns
  have hts := atoms_spec (ws := .code yX10_all cX10_all 2 (some .int) :: wA) B.pre
  have hown : s.vm.findClass RX10 = some m.cls := findClass_of_methodNamed B.named
  have hlocks := B.notSynchronized
  have hS : va_S A s.heap s.heap [] := va_S.rf
  have hl := lv_entry ([.ref (bm 0), .int z1]) (n := 2) (Nat.le_of_ble_eq_true rfl)
  rw [lg_entry_eq]
  generalize (lg_sl ([.ref (bm 0), .int z1]) ++ List.replicate (2 - (lg_sl ([.ref (bm 0), .int z1])).length) Slot.unset).toArray = ls at hl ⊢
  have hl : lv_has ls 2 [(0, .ref (bm 0)), (1, .int z1)] := hl
  unfold F_X10_all at hG
  refine lv_aload_n hx hb dX10_all_0 rfl (lv_at hl 0 rfl) ?_
  obtain ⟨o_1, r_2, hG⟩ := q_bi hG
  refine q_goi (v := o_1) (va_runV (As := []) (rest := []) ⟨hx, hb, hml, hown, hts⟩ (c_X10_isTree l dC dI bm km th tn at_ wr rm_ mn sn ac hi dn o_1 r_2) (cwV 0 hts (q_gV m_454 m_455 m_456 m_5 m_457) rfl rfl rfl hdV_yX10_isTree_0 ⟨Nat.le_of_ble_eq_true rfl, Nat.le_of_ble_eq_true rfl⟩) (q_preV hK hP (q := (RX10, TX10, 24)) (ci := 10) (q0 := 0) rfl rfl [0] rfl [] rfl) rfl rfl hl.1 rfl (lv_room (Nat.le_of_ble_eq_true rfl)) dX10_all_1 ⟨Nat.le_of_ble_eq_true rfl, Nat.le_of_ble_eq_true rfl⟩) hP hS (fun H locs hP hS => ?_)
  refine lv_if_eq (tgt := 17) hx hb dX10_all_4 (by decide) (fun c_3 => ?_) (fun c_3 => ?_)
  · have hG := q_ifp c_3 hG
    refine lv_ldcw (v := (-1000000)) hx hb hown (hts (.constant RX10 358 (-1000000)) (List.mem_cons_of_mem _ m_620)) dX10_all_17 ?_
    obtain rfl := Option.some.inj hG
    have hP9 := hP.sub (ws' := [((bm 0), .inr (10, [.int th, .ref (bm 1), .int tn, .int at_, .int wr, .ref (bm 2), .ref (bm 3), .int rm_, .ref (bm 4), .ref (bm 5), .int mn, .ref (bm 6), .ref (bm 7), .int sn, .ref (bm 8), .ref (bm 9), .ref (bm 10), .int ac, .long dn, .ref (bm 11), .ref (bm 12), .ref (bm 13), .ref (bm 14), .int hi])), ((bm 4), .inl ((km 4), 8, .inl ru)), ((bm 5), .inl ((km 5), 48, .inl td)), ((bm 8), .inl ((km 8), 279, .inl nw))]) [0, 1, 2, 3] rfl
    have hD9 := hD.sub (ws' := [((bm 0), .inr (10, [.int th, .ref (bm 1), .int tn, .int at_, .int wr, .ref (bm 2), .ref (bm 3), .int rm_, .ref (bm 4), .ref (bm 5), .int mn, .ref (bm 6), .ref (bm 7), .int sn, .ref (bm 8), .ref (bm 9), .ref (bm 10), .int ac, .long dn, .ref (bm 11), .ref (bm 12), .ref (bm 13), .ref (bm 14), .int hi])), ((bm 4), .inl ((km 4), 8, .inl ru)), ((bm 5), .inl ((km 5), 48, .inl td)), ((bm 8), .inl ((km 8), 279, .inl nw))]) [0, 1, 2, 3] (by decide) rfl
    have hK9 := hK.sub (tys' := [((km 4), .int), ((km 5), .int), ((km 8), .int)]) [0, 1, 2] rfl
    exact W.iret (v := (-1000000)) hx hb hr (fun t ht hW => ⟨⟨(-1000000), (), rfl, ⟨rfl, trivial⟩, by rw [ht]; exact hP9, va_K.moved hW.alike hK9, hD9⟩, hS.F ht⟩) hS.2.2 dX10_all_20
  · have hG := q_ifn c_3 hG
    refine lv_iload_n hx hb dX10_all_7 rfl (lv_at hl 1 rfl) ?_
    refine lv_iconst (v := 0) hx hb dX10_all_8 (by decide) ?_
    refine lv_bipush (v := 12) hx hb dX10_all_9 (by decide) ?_
    obtain ⟨o_4, r_5, hG⟩ := q_bi hG
    refine q_goi (v := o_4) (va_runS (As := [.int z1, .int 0, .int 12]) (rest := []) ⟨hx, hb, hml, hown, hts⟩ (c_X10_in l dC dI z1 0 12 o_4 r_5) (va_cwS 3 hts (q_gS m_157 m_158 m_5 m_159) rfl rfl rfl hdS_yX10_in_3 ⟨Nat.le_of_ble_eq_true rfl, Nat.le_of_ble_eq_true rfl⟩) (q_preS hK hP [] rfl [] rfl) rfl rfl hl.1 rfl (lv_room (Nat.le_of_ble_eq_true rfl)) dX10_all_11 ⟨Nat.le_of_ble_eq_true rfl, Nat.le_of_ble_eq_true rfl⟩) hP hS (fun H locs hP hS => ?_)
    refine lv_if_ne (tgt := 21) hx hb dX10_all_14 (by decide) (fun c_6 => ?_) (fun c_6 => ?_)
    · have hG := q_ifn c_6 hG
      refine lv_iload_n hx hb dX10_all_21 rfl (lv_at hl 1 rfl) ?_
      by_cases e_7 : z1 = 0
      · have hG := q_ifp e_7 hG
        refine lv_tableIn (off := 62) (tgt := 84) hx hb dX10_all_22 (by rw [e_7]; decide) (by rw [e_7]; decide) (by rw [e_7]; decide) (by decide) ?_
        refine lv_aload_n hx hb dX10_all_84 rfl (lv_at hl 0 rfl) ?_
        refine va_get (D := (dC, dI)) (ci := 10) (v := .ref (bm 8)) (C := RX10) (T := TX10) (N := 24) hx hb hts iA_10 hown hK hP 0 rfl rfl 14 (by decide) (hts (.fieldLink RX10 31 "HubTreeModel" "now" "[I") (List.mem_cons_of_mem _ m_122)) (fun _ h9 => h9) rfl dX10_all_85 ?_
        refine lv_bipush (v := 96) hx hb dX10_all_88 (by decide) ?_
        refine va_iald hx hb hK hP 3 2 rfl rfl (i := 96) (vp_in_iff.mpr (by decide)) dX10_all_90 ?_
        refine q_top (y := (nw 96)) rfl ?_
        obtain rfl := Option.some.inj hG
        have hP9 := hP.sub (ws' := [((bm 0), .inr (10, [.int th, .ref (bm 1), .int tn, .int at_, .int wr, .ref (bm 2), .ref (bm 3), .int rm_, .ref (bm 4), .ref (bm 5), .int mn, .ref (bm 6), .ref (bm 7), .int sn, .ref (bm 8), .ref (bm 9), .ref (bm 10), .int ac, .long dn, .ref (bm 11), .ref (bm 12), .ref (bm 13), .ref (bm 14), .int hi])), ((bm 4), .inl ((km 4), 8, .inl ru)), ((bm 5), .inl ((km 5), 48, .inl td)), ((bm 8), .inl ((km 8), 279, .inl nw))]) [0, 1, 2, 3] rfl
        have hD9 := hD.sub (ws' := [((bm 0), .inr (10, [.int th, .ref (bm 1), .int tn, .int at_, .int wr, .ref (bm 2), .ref (bm 3), .int rm_, .ref (bm 4), .ref (bm 5), .int mn, .ref (bm 6), .ref (bm 7), .int sn, .ref (bm 8), .ref (bm 9), .ref (bm 10), .int ac, .long dn, .ref (bm 11), .ref (bm 12), .ref (bm 13), .ref (bm 14), .int hi])), ((bm 4), .inl ((km 4), 8, .inl ru)), ((bm 5), .inl ((km 5), 48, .inl td)), ((bm 8), .inl ((km 8), 279, .inl nw))]) [0, 1, 2, 3] (by decide) rfl
        have hK9 := hK.sub (tys' := [((km 4), .int), ((km 5), .int), ((km 8), .int)]) [0, 1, 2] rfl
        exact W.iret (v := (nw 96)) hx hb hr (fun t ht hW => ⟨⟨(nw 96), (), rfl, ⟨rfl, trivial⟩, by rw [ht]; exact hP9, va_K.moved hW.alike hK9, hD9⟩, hS.F ht⟩) hS.2.2 dX10_all_91
      have hG := q_ifn e_7 hG
      by_cases e_8 : z1 = 1
      · have hG := q_ifp e_8 hG
        refine lv_tableIn (off := 70) (tgt := 92) hx hb dX10_all_22 (by rw [e_8]; decide) (by rw [e_8]; decide) (by rw [e_8]; decide) (by decide) ?_
        refine lv_aload_n hx hb dX10_all_92 rfl (lv_at hl 0 rfl) ?_
        refine lv_iconst (v := 0) hx hb dX10_all_93 (by decide) ?_
        obtain ⟨o_9, r_10, hG⟩ := q_bi hG
        refine q_goi (v := o_9) (va_runV (As := [.int 0]) (rest := []) ⟨hx, hb, hml, hown, hts⟩ (c_X10_those l dC dI bm km th tn at_ wr rm_ mn sn ac hi dn nw 0 o_9 r_10) (cwV 1 hts (q_gV m_1018 m_1019 m_1020 m_5 m_1021) rfl rfl rfl hdV_yX10_those_1 ⟨Nat.le_of_ble_eq_true rfl, Nat.le_of_ble_eq_true rfl⟩) (q_preV hK hP (q := (RX10, TX10, 24)) (ci := 10) (q0 := 0) rfl rfl [0, 3] rfl [2] rfl) rfl rfl hl.1 rfl (lv_room (Nat.le_of_ble_eq_true rfl)) dX10_all_94 ⟨Nat.le_of_ble_eq_true rfl, Nat.le_of_ble_eq_true rfl⟩) hP hS (fun H locs hP hS => ?_)
        obtain rfl := Option.some.inj hG
        have hP9 := hP.sub (ws' := [((bm 0), .inr (10, [.int th, .ref (bm 1), .int tn, .int at_, .int wr, .ref (bm 2), .ref (bm 3), .int rm_, .ref (bm 4), .ref (bm 5), .int mn, .ref (bm 6), .ref (bm 7), .int sn, .ref (bm 8), .ref (bm 9), .ref (bm 10), .int ac, .long dn, .ref (bm 11), .ref (bm 12), .ref (bm 13), .ref (bm 14), .int hi])), ((bm 4), .inl ((km 4), 8, .inl ru)), ((bm 5), .inl ((km 5), 48, .inl td)), ((bm 8), .inl ((km 8), 279, .inl nw))]) [0, 1, 2, 3] rfl
        have hD9 := hD.sub (ws' := [((bm 0), .inr (10, [.int th, .ref (bm 1), .int tn, .int at_, .int wr, .ref (bm 2), .ref (bm 3), .int rm_, .ref (bm 4), .ref (bm 5), .int mn, .ref (bm 6), .ref (bm 7), .int sn, .ref (bm 8), .ref (bm 9), .ref (bm 10), .int ac, .long dn, .ref (bm 11), .ref (bm 12), .ref (bm 13), .ref (bm 14), .int hi])), ((bm 4), .inl ((km 4), 8, .inl ru)), ((bm 5), .inl ((km 5), 48, .inl td)), ((bm 8), .inl ((km 8), 279, .inl nw))]) [0, 1, 2, 3] (by decide) rfl
        have hK9 := hK.sub (tys' := [((km 4), .int), ((km 5), .int), ((km 8), .int)]) [0, 1, 2] rfl
        exact W.iret (v := o_9) hx hb hr (fun t ht hW => ⟨⟨o_9, (), rfl, ⟨rfl, trivial⟩, by rw [ht]; exact hP9, va_K.moved hW.alike hK9, hD9⟩, hS.F ht⟩) hS.2.2 dX10_all_97
      have hG := q_ifn e_8 hG
      by_cases e_11 : z1 = 2
      · have hG := q_ifp e_11 hG
        refine lv_tableIn (off := 76) (tgt := 98) hx hb dX10_all_22 (by rw [e_11]; decide) (by rw [e_11]; decide) (by rw [e_11]; decide) (by decide) ?_
        refine lv_aload_n hx hb dX10_all_98 rfl (lv_at hl 0 rfl) ?_
        refine lv_iconst (v := 1) hx hb dX10_all_99 (by decide) ?_
        obtain ⟨o_12, r_13, hG⟩ := q_bi hG
        refine q_goi (v := o_12) (va_runV (As := [.int 1]) (rest := []) ⟨hx, hb, hml, hown, hts⟩ (c_X10_those l dC dI bm km th tn at_ wr rm_ mn sn ac hi dn nw 1 o_12 r_13) (cwV 1 hts (q_gV m_1018 m_1019 m_1020 m_5 m_1021) rfl rfl rfl hdV_yX10_those_1 ⟨Nat.le_of_ble_eq_true rfl, Nat.le_of_ble_eq_true rfl⟩) (q_preV hK hP (q := (RX10, TX10, 24)) (ci := 10) (q0 := 0) rfl rfl [0, 3] rfl [2] rfl) rfl rfl hl.1 rfl (lv_room (Nat.le_of_ble_eq_true rfl)) dX10_all_100 ⟨Nat.le_of_ble_eq_true rfl, Nat.le_of_ble_eq_true rfl⟩) hP hS (fun H locs hP hS => ?_)
        obtain rfl := Option.some.inj hG
        have hP9 := hP.sub (ws' := [((bm 0), .inr (10, [.int th, .ref (bm 1), .int tn, .int at_, .int wr, .ref (bm 2), .ref (bm 3), .int rm_, .ref (bm 4), .ref (bm 5), .int mn, .ref (bm 6), .ref (bm 7), .int sn, .ref (bm 8), .ref (bm 9), .ref (bm 10), .int ac, .long dn, .ref (bm 11), .ref (bm 12), .ref (bm 13), .ref (bm 14), .int hi])), ((bm 4), .inl ((km 4), 8, .inl ru)), ((bm 5), .inl ((km 5), 48, .inl td)), ((bm 8), .inl ((km 8), 279, .inl nw))]) [0, 1, 2, 3] rfl
        have hD9 := hD.sub (ws' := [((bm 0), .inr (10, [.int th, .ref (bm 1), .int tn, .int at_, .int wr, .ref (bm 2), .ref (bm 3), .int rm_, .ref (bm 4), .ref (bm 5), .int mn, .ref (bm 6), .ref (bm 7), .int sn, .ref (bm 8), .ref (bm 9), .ref (bm 10), .int ac, .long dn, .ref (bm 11), .ref (bm 12), .ref (bm 13), .ref (bm 14), .int hi])), ((bm 4), .inl ((km 4), 8, .inl ru)), ((bm 5), .inl ((km 5), 48, .inl td)), ((bm 8), .inl ((km 8), 279, .inl nw))]) [0, 1, 2, 3] (by decide) rfl
        have hK9 := hK.sub (tys' := [((km 4), .int), ((km 5), .int), ((km 8), .int)]) [0, 1, 2] rfl
        exact W.iret (v := o_12) hx hb hr (fun t ht hW => ⟨⟨o_12, (), rfl, ⟨rfl, trivial⟩, by rw [ht]; exact hP9, va_K.moved hW.alike hK9, hD9⟩, hS.F ht⟩) hS.2.2 dX10_all_103
      have hG := q_ifn e_11 hG
      by_cases e_14 : z1 = 3
      · have hG := q_ifp e_14 hG
        refine lv_tableIn (off := 82) (tgt := 104) hx hb dX10_all_22 (by rw [e_14]; decide) (by rw [e_14]; decide) (by rw [e_14]; decide) (by decide) ?_
        refine lv_aload_n hx hb dX10_all_104 rfl (lv_at hl 0 rfl) ?_
        refine lv_iconst (v := 2) hx hb dX10_all_105 (by decide) ?_
        obtain ⟨o_15, r_16, hG⟩ := q_bi hG
        refine q_goi (v := o_15) (va_runV (As := [.int 2]) (rest := []) ⟨hx, hb, hml, hown, hts⟩ (c_X10_those l dC dI bm km th tn at_ wr rm_ mn sn ac hi dn nw 2 o_15 r_16) (cwV 1 hts (q_gV m_1018 m_1019 m_1020 m_5 m_1021) rfl rfl rfl hdV_yX10_those_1 ⟨Nat.le_of_ble_eq_true rfl, Nat.le_of_ble_eq_true rfl⟩) (q_preV hK hP (q := (RX10, TX10, 24)) (ci := 10) (q0 := 0) rfl rfl [0, 3] rfl [2] rfl) rfl rfl hl.1 rfl (lv_room (Nat.le_of_ble_eq_true rfl)) dX10_all_106 ⟨Nat.le_of_ble_eq_true rfl, Nat.le_of_ble_eq_true rfl⟩) hP hS (fun H locs hP hS => ?_)
        obtain rfl := Option.some.inj hG
        have hP9 := hP.sub (ws' := [((bm 0), .inr (10, [.int th, .ref (bm 1), .int tn, .int at_, .int wr, .ref (bm 2), .ref (bm 3), .int rm_, .ref (bm 4), .ref (bm 5), .int mn, .ref (bm 6), .ref (bm 7), .int sn, .ref (bm 8), .ref (bm 9), .ref (bm 10), .int ac, .long dn, .ref (bm 11), .ref (bm 12), .ref (bm 13), .ref (bm 14), .int hi])), ((bm 4), .inl ((km 4), 8, .inl ru)), ((bm 5), .inl ((km 5), 48, .inl td)), ((bm 8), .inl ((km 8), 279, .inl nw))]) [0, 1, 2, 3] rfl
        have hD9 := hD.sub (ws' := [((bm 0), .inr (10, [.int th, .ref (bm 1), .int tn, .int at_, .int wr, .ref (bm 2), .ref (bm 3), .int rm_, .ref (bm 4), .ref (bm 5), .int mn, .ref (bm 6), .ref (bm 7), .int sn, .ref (bm 8), .ref (bm 9), .ref (bm 10), .int ac, .long dn, .ref (bm 11), .ref (bm 12), .ref (bm 13), .ref (bm 14), .int hi])), ((bm 4), .inl ((km 4), 8, .inl ru)), ((bm 5), .inl ((km 5), 48, .inl td)), ((bm 8), .inl ((km 8), 279, .inl nw))]) [0, 1, 2, 3] (by decide) rfl
        have hK9 := hK.sub (tys' := [((km 4), .int), ((km 5), .int), ((km 8), .int)]) [0, 1, 2] rfl
        exact W.iret (v := o_15) hx hb hr (fun t ht hW => ⟨⟨o_15, (), rfl, ⟨rfl, trivial⟩, by rw [ht]; exact hP9, va_K.moved hW.alike hK9, hD9⟩, hS.F ht⟩) hS.2.2 dX10_all_109
      have hG := q_ifn e_14 hG
      by_cases e_17 : z1 = 4
      · have hG := q_ifp e_17 hG
        refine lv_tableIn (off := 88) (tgt := 110) hx hb dX10_all_22 (by rw [e_17]; decide) (by rw [e_17]; decide) (by rw [e_17]; decide) (by decide) ?_
        refine lv_aload_n hx hb dX10_all_110 rfl (lv_at hl 0 rfl) ?_
        refine lv_bipush (v := 6) hx hb dX10_all_111 (by decide) ?_
        obtain ⟨o_18, r_19, hG⟩ := q_bi hG
        refine q_goi (v := o_18) (va_runV (As := [.int 6]) (rest := []) ⟨hx, hb, hml, hown, hts⟩ (c_X10_those l dC dI bm km th tn at_ wr rm_ mn sn ac hi dn nw 6 o_18 r_19) (cwV 1 hts (q_gV m_1018 m_1019 m_1020 m_5 m_1021) rfl rfl rfl hdV_yX10_those_1 ⟨Nat.le_of_ble_eq_true rfl, Nat.le_of_ble_eq_true rfl⟩) (q_preV hK hP (q := (RX10, TX10, 24)) (ci := 10) (q0 := 0) rfl rfl [0, 3] rfl [2] rfl) rfl rfl hl.1 rfl (lv_room (Nat.le_of_ble_eq_true rfl)) dX10_all_113 ⟨Nat.le_of_ble_eq_true rfl, Nat.le_of_ble_eq_true rfl⟩) hP hS (fun H locs hP hS => ?_)
        obtain rfl := Option.some.inj hG
        have hP9 := hP.sub (ws' := [((bm 0), .inr (10, [.int th, .ref (bm 1), .int tn, .int at_, .int wr, .ref (bm 2), .ref (bm 3), .int rm_, .ref (bm 4), .ref (bm 5), .int mn, .ref (bm 6), .ref (bm 7), .int sn, .ref (bm 8), .ref (bm 9), .ref (bm 10), .int ac, .long dn, .ref (bm 11), .ref (bm 12), .ref (bm 13), .ref (bm 14), .int hi])), ((bm 4), .inl ((km 4), 8, .inl ru)), ((bm 5), .inl ((km 5), 48, .inl td)), ((bm 8), .inl ((km 8), 279, .inl nw))]) [0, 1, 2, 3] rfl
        have hD9 := hD.sub (ws' := [((bm 0), .inr (10, [.int th, .ref (bm 1), .int tn, .int at_, .int wr, .ref (bm 2), .ref (bm 3), .int rm_, .ref (bm 4), .ref (bm 5), .int mn, .ref (bm 6), .ref (bm 7), .int sn, .ref (bm 8), .ref (bm 9), .ref (bm 10), .int ac, .long dn, .ref (bm 11), .ref (bm 12), .ref (bm 13), .ref (bm 14), .int hi])), ((bm 4), .inl ((km 4), 8, .inl ru)), ((bm 5), .inl ((km 5), 48, .inl td)), ((bm 8), .inl ((km 8), 279, .inl nw))]) [0, 1, 2, 3] (by decide) rfl
        have hK9 := hK.sub (tys' := [((km 4), .int), ((km 5), .int), ((km 8), .int)]) [0, 1, 2] rfl
        exact W.iret (v := o_18) hx hb hr (fun t ht hW => ⟨⟨o_18, (), rfl, ⟨rfl, trivial⟩, by rw [ht]; exact hP9, va_K.moved hW.alike hK9, hD9⟩, hS.F ht⟩) hS.2.2 dX10_all_116
      have hG := q_ifn e_17 hG
      by_cases e_20 : z1 = 5
      · have hG := q_ifp e_20 hG
        refine lv_tableIn (off := 95) (tgt := 117) hx hb dX10_all_22 (by rw [e_20]; decide) (by rw [e_20]; decide) (by rw [e_20]; decide) (by decide) ?_
        refine lv_aload_n hx hb dX10_all_117 rfl (lv_at hl 0 rfl) ?_
        refine lv_bipush (v := 7) hx hb dX10_all_118 (by decide) ?_
        obtain ⟨o_21, r_22, hG⟩ := q_bi hG
        refine q_goi (v := o_21) (va_runV (As := [.int 7]) (rest := []) ⟨hx, hb, hml, hown, hts⟩ (c_X10_those l dC dI bm km th tn at_ wr rm_ mn sn ac hi dn nw 7 o_21 r_22) (cwV 1 hts (q_gV m_1018 m_1019 m_1020 m_5 m_1021) rfl rfl rfl hdV_yX10_those_1 ⟨Nat.le_of_ble_eq_true rfl, Nat.le_of_ble_eq_true rfl⟩) (q_preV hK hP (q := (RX10, TX10, 24)) (ci := 10) (q0 := 0) rfl rfl [0, 3] rfl [2] rfl) rfl rfl hl.1 rfl (lv_room (Nat.le_of_ble_eq_true rfl)) dX10_all_120 ⟨Nat.le_of_ble_eq_true rfl, Nat.le_of_ble_eq_true rfl⟩) hP hS (fun H locs hP hS => ?_)
        obtain rfl := Option.some.inj hG
        have hP9 := hP.sub (ws' := [((bm 0), .inr (10, [.int th, .ref (bm 1), .int tn, .int at_, .int wr, .ref (bm 2), .ref (bm 3), .int rm_, .ref (bm 4), .ref (bm 5), .int mn, .ref (bm 6), .ref (bm 7), .int sn, .ref (bm 8), .ref (bm 9), .ref (bm 10), .int ac, .long dn, .ref (bm 11), .ref (bm 12), .ref (bm 13), .ref (bm 14), .int hi])), ((bm 4), .inl ((km 4), 8, .inl ru)), ((bm 5), .inl ((km 5), 48, .inl td)), ((bm 8), .inl ((km 8), 279, .inl nw))]) [0, 1, 2, 3] rfl
        have hD9 := hD.sub (ws' := [((bm 0), .inr (10, [.int th, .ref (bm 1), .int tn, .int at_, .int wr, .ref (bm 2), .ref (bm 3), .int rm_, .ref (bm 4), .ref (bm 5), .int mn, .ref (bm 6), .ref (bm 7), .int sn, .ref (bm 8), .ref (bm 9), .ref (bm 10), .int ac, .long dn, .ref (bm 11), .ref (bm 12), .ref (bm 13), .ref (bm 14), .int hi])), ((bm 4), .inl ((km 4), 8, .inl ru)), ((bm 5), .inl ((km 5), 48, .inl td)), ((bm 8), .inl ((km 8), 279, .inl nw))]) [0, 1, 2, 3] (by decide) rfl
        have hK9 := hK.sub (tys' := [((km 4), .int), ((km 5), .int), ((km 8), .int)]) [0, 1, 2] rfl
        exact W.iret (v := o_21) hx hb hr (fun t ht hW => ⟨⟨o_21, (), rfl, ⟨rfl, trivial⟩, by rw [ht]; exact hP9, va_K.moved hW.alike hK9, hD9⟩, hS.F ht⟩) hS.2.2 dX10_all_123
      have hG := q_ifn e_20 hG
      by_cases e_23 : z1 = 6
      · have hG := q_ifp e_23 hG
        refine lv_tableIn (off := 102) (tgt := 124) hx hb dX10_all_22 (by rw [e_23]; decide) (by rw [e_23]; decide) (by rw [e_23]; decide) (by decide) ?_
        refine lv_aload_n hx hb dX10_all_124 rfl (lv_at hl 0 rfl) ?_
        obtain ⟨o_24, r_25, hG⟩ := q_bi hG
        refine q_goi (v := o_24) (va_runV (As := []) (rest := []) ⟨hx, hb, hml, hown, hts⟩ (c_X10_busy l dC dI bm km th tn at_ wr rm_ mn sn ac hi dn nw o_24 r_25) (cwV 0 hts (q_gV m_969 m_970 m_971 m_5 m_972) rfl rfl rfl hdV_yX10_busy_0 ⟨Nat.le_of_ble_eq_true rfl, Nat.le_of_ble_eq_true rfl⟩) (q_preV hK hP (q := (RX10, TX10, 24)) (ci := 10) (q0 := 0) rfl rfl [0, 3] rfl [2] rfl) rfl rfl hl.1 rfl (lv_room (Nat.le_of_ble_eq_true rfl)) dX10_all_125 ⟨Nat.le_of_ble_eq_true rfl, Nat.le_of_ble_eq_true rfl⟩) hP hS (fun H locs hP hS => ?_)
        obtain rfl := Option.some.inj hG
        have hP9 := hP.sub (ws' := [((bm 0), .inr (10, [.int th, .ref (bm 1), .int tn, .int at_, .int wr, .ref (bm 2), .ref (bm 3), .int rm_, .ref (bm 4), .ref (bm 5), .int mn, .ref (bm 6), .ref (bm 7), .int sn, .ref (bm 8), .ref (bm 9), .ref (bm 10), .int ac, .long dn, .ref (bm 11), .ref (bm 12), .ref (bm 13), .ref (bm 14), .int hi])), ((bm 4), .inl ((km 4), 8, .inl ru)), ((bm 5), .inl ((km 5), 48, .inl td)), ((bm 8), .inl ((km 8), 279, .inl nw))]) [0, 1, 2, 3] rfl
        have hD9 := hD.sub (ws' := [((bm 0), .inr (10, [.int th, .ref (bm 1), .int tn, .int at_, .int wr, .ref (bm 2), .ref (bm 3), .int rm_, .ref (bm 4), .ref (bm 5), .int mn, .ref (bm 6), .ref (bm 7), .int sn, .ref (bm 8), .ref (bm 9), .ref (bm 10), .int ac, .long dn, .ref (bm 11), .ref (bm 12), .ref (bm 13), .ref (bm 14), .int hi])), ((bm 4), .inl ((km 4), 8, .inl ru)), ((bm 5), .inl ((km 5), 48, .inl td)), ((bm 8), .inl ((km 8), 279, .inl nw))]) [0, 1, 2, 3] (by decide) rfl
        have hK9 := hK.sub (tys' := [((km 4), .int), ((km 5), .int), ((km 8), .int)]) [0, 1, 2] rfl
        exact W.iret (v := o_24) hx hb hr (fun t ht hW => ⟨⟨o_24, (), rfl, ⟨rfl, trivial⟩, by rw [ht]; exact hP9, va_K.moved hW.alike hK9, hD9⟩, hS.F ht⟩) hS.2.2 dX10_all_128
      have hG := q_ifn e_23 hG
      by_cases e_26 : z1 = 7
      · have hG := q_ifp e_26 hG
        refine lv_tableIn (off := 107) (tgt := 129) hx hb dX10_all_22 (by rw [e_26]; decide) (by rw [e_26]; decide) (by rw [e_26]; decide) (by decide) ?_
        refine lv_aload_n hx hb dX10_all_129 rfl (lv_at hl 0 rfl) ?_
        obtain ⟨o_27, r_28, hG⟩ := q_bi hG
        refine q_goi (v := o_27) (va_runV (As := []) (rest := []) ⟨hx, hb, hml, hown, hts⟩ (c_X10_busOfAll l dC dI bm km th tn at_ wr rm_ mn sn ac hi dn td nw o_27 r_28) (cwV 0 hts (q_gV m_921 m_922 m_923 m_5 m_924) rfl rfl rfl hdV_yX10_busOfAll_0 ⟨Nat.le_of_ble_eq_true rfl, Nat.le_of_ble_eq_true rfl⟩) (q_preV hK hP (q := (RX10, TX10, 24)) (ci := 10) (q0 := 0) rfl rfl [0, 2, 3] rfl [1, 2] rfl) rfl rfl hl.1 rfl (lv_room (Nat.le_of_ble_eq_true rfl)) dX10_all_130 ⟨Nat.le_of_ble_eq_true rfl, Nat.le_of_ble_eq_true rfl⟩) hP hS (fun H locs hP hS => ?_)
        obtain rfl := Option.some.inj hG
        have hP9 := hP.sub (ws' := [((bm 0), .inr (10, [.int th, .ref (bm 1), .int tn, .int at_, .int wr, .ref (bm 2), .ref (bm 3), .int rm_, .ref (bm 4), .ref (bm 5), .int mn, .ref (bm 6), .ref (bm 7), .int sn, .ref (bm 8), .ref (bm 9), .ref (bm 10), .int ac, .long dn, .ref (bm 11), .ref (bm 12), .ref (bm 13), .ref (bm 14), .int hi])), ((bm 4), .inl ((km 4), 8, .inl ru)), ((bm 5), .inl ((km 5), 48, .inl td)), ((bm 8), .inl ((km 8), 279, .inl nw))]) [0, 1, 2, 3] rfl
        have hD9 := hD.sub (ws' := [((bm 0), .inr (10, [.int th, .ref (bm 1), .int tn, .int at_, .int wr, .ref (bm 2), .ref (bm 3), .int rm_, .ref (bm 4), .ref (bm 5), .int mn, .ref (bm 6), .ref (bm 7), .int sn, .ref (bm 8), .ref (bm 9), .ref (bm 10), .int ac, .long dn, .ref (bm 11), .ref (bm 12), .ref (bm 13), .ref (bm 14), .int hi])), ((bm 4), .inl ((km 4), 8, .inl ru)), ((bm 5), .inl ((km 5), 48, .inl td)), ((bm 8), .inl ((km 8), 279, .inl nw))]) [0, 1, 2, 3] (by decide) rfl
        have hK9 := hK.sub (tys' := [((km 4), .int), ((km 5), .int), ((km 8), .int)]) [0, 1, 2] rfl
        exact W.iret (v := o_27) hx hb hr (fun t ht hW => ⟨⟨o_27, (), rfl, ⟨rfl, trivial⟩, by rw [ht]; exact hP9, va_K.moved hW.alike hK9, hD9⟩, hS.F ht⟩) hS.2.2 dX10_all_133
      have hG := q_ifn e_26 hG
      by_cases e_29 : z1 = 8
      · have hG := q_ifp e_29 hG
        refine lv_tableIn (off := 112) (tgt := 134) hx hb dX10_all_22 (by rw [e_29]; decide) (by rw [e_29]; decide) (by rw [e_29]; decide) (by decide) ?_
        refine lv_aload_n hx hb dX10_all_134 rfl (lv_at hl 0 rfl) ?_
        obtain ⟨o_30, r_31, hG⟩ := q_bi hG
        refine q_goi (v := o_30) (va_runV (As := []) (rest := []) ⟨hx, hb, hml, hown, hts⟩ (c_X10_deepest l dC dI bm km th tn at_ wr rm_ mn sn ac hi dn nw o_30 r_31) (cwV 0 hts (q_gV m_1377 m_1378 m_1379 m_5 m_1380) rfl rfl rfl hdV_yX10_deepest_0 ⟨Nat.le_of_ble_eq_true rfl, Nat.le_of_ble_eq_true rfl⟩) (q_preV hK hP (q := (RX10, TX10, 24)) (ci := 10) (q0 := 0) rfl rfl [0, 3] rfl [2] rfl) rfl rfl hl.1 rfl (lv_room (Nat.le_of_ble_eq_true rfl)) dX10_all_135 ⟨Nat.le_of_ble_eq_true rfl, Nat.le_of_ble_eq_true rfl⟩) hP hS (fun H locs hP hS => ?_)
        obtain rfl := Option.some.inj hG
        have hP9 := hP.sub (ws' := [((bm 0), .inr (10, [.int th, .ref (bm 1), .int tn, .int at_, .int wr, .ref (bm 2), .ref (bm 3), .int rm_, .ref (bm 4), .ref (bm 5), .int mn, .ref (bm 6), .ref (bm 7), .int sn, .ref (bm 8), .ref (bm 9), .ref (bm 10), .int ac, .long dn, .ref (bm 11), .ref (bm 12), .ref (bm 13), .ref (bm 14), .int hi])), ((bm 4), .inl ((km 4), 8, .inl ru)), ((bm 5), .inl ((km 5), 48, .inl td)), ((bm 8), .inl ((km 8), 279, .inl nw))]) [0, 1, 2, 3] rfl
        have hD9 := hD.sub (ws' := [((bm 0), .inr (10, [.int th, .ref (bm 1), .int tn, .int at_, .int wr, .ref (bm 2), .ref (bm 3), .int rm_, .ref (bm 4), .ref (bm 5), .int mn, .ref (bm 6), .ref (bm 7), .int sn, .ref (bm 8), .ref (bm 9), .ref (bm 10), .int ac, .long dn, .ref (bm 11), .ref (bm 12), .ref (bm 13), .ref (bm 14), .int hi])), ((bm 4), .inl ((km 4), 8, .inl ru)), ((bm 5), .inl ((km 5), 48, .inl td)), ((bm 8), .inl ((km 8), 279, .inl nw))]) [0, 1, 2, 3] (by decide) rfl
        have hK9 := hK.sub (tys' := [((km 4), .int), ((km 5), .int), ((km 8), .int)]) [0, 1, 2] rfl
        exact W.iret (v := o_30) hx hb hr (fun t ht hW => ⟨⟨o_30, (), rfl, ⟨rfl, trivial⟩, by rw [ht]; exact hP9, va_K.moved hW.alike hK9, hD9⟩, hS.F ht⟩) hS.2.2 dX10_all_138
      have hG := q_ifn e_29 hG
      by_cases e_32 : z1 = 9
      · have hG := q_ifp e_32 hG
        refine lv_tableIn (off := 117) (tgt := 139) hx hb dX10_all_22 (by rw [e_32]; decide) (by rw [e_32]; decide) (by rw [e_32]; decide) (by decide) ?_
        refine lv_aload_n hx hb dX10_all_139 rfl (lv_at hl 0 rfl) ?_
        obtain ⟨o_33, r_34, hG⟩ := q_bi hG
        refine q_goi (v := o_33) (va_runV (As := []) (rest := []) ⟨hx, hb, hml, hown, hts⟩ (c_X10_freeAddresses l dC dI bm km th tn at_ wr rm_ mn sn ac hi dn ru nw o_33 r_34) (cwV 0 hts (q_gV m_1382 m_1383 m_1384 m_5 m_1385) rfl rfl rfl hdV_yX10_freeAddresses_0 ⟨Nat.le_of_ble_eq_true rfl, Nat.le_of_ble_eq_true rfl⟩) (q_preV hK hP (q := (RX10, TX10, 24)) (ci := 10) (q0 := 0) rfl rfl [0, 1, 3] rfl [0, 2] rfl) rfl rfl hl.1 rfl (lv_room (Nat.le_of_ble_eq_true rfl)) dX10_all_140 ⟨Nat.le_of_ble_eq_true rfl, Nat.le_of_ble_eq_true rfl⟩) hP hS (fun H locs hP hS => ?_)
        obtain rfl := Option.some.inj hG
        have hP9 := hP.sub (ws' := [((bm 0), .inr (10, [.int th, .ref (bm 1), .int tn, .int at_, .int wr, .ref (bm 2), .ref (bm 3), .int rm_, .ref (bm 4), .ref (bm 5), .int mn, .ref (bm 6), .ref (bm 7), .int sn, .ref (bm 8), .ref (bm 9), .ref (bm 10), .int ac, .long dn, .ref (bm 11), .ref (bm 12), .ref (bm 13), .ref (bm 14), .int hi])), ((bm 4), .inl ((km 4), 8, .inl ru)), ((bm 5), .inl ((km 5), 48, .inl td)), ((bm 8), .inl ((km 8), 279, .inl nw))]) [0, 1, 2, 3] rfl
        have hD9 := hD.sub (ws' := [((bm 0), .inr (10, [.int th, .ref (bm 1), .int tn, .int at_, .int wr, .ref (bm 2), .ref (bm 3), .int rm_, .ref (bm 4), .ref (bm 5), .int mn, .ref (bm 6), .ref (bm 7), .int sn, .ref (bm 8), .ref (bm 9), .ref (bm 10), .int ac, .long dn, .ref (bm 11), .ref (bm 12), .ref (bm 13), .ref (bm 14), .int hi])), ((bm 4), .inl ((km 4), 8, .inl ru)), ((bm 5), .inl ((km 5), 48, .inl td)), ((bm 8), .inl ((km 8), 279, .inl nw))]) [0, 1, 2, 3] (by decide) rfl
        have hK9 := hK.sub (tys' := [((km 4), .int), ((km 5), .int), ((km 8), .int)]) [0, 1, 2] rfl
        exact W.iret (v := o_33) hx hb hr (fun t ht hW => ⟨⟨o_33, (), rfl, ⟨rfl, trivial⟩, by rw [ht]; exact hP9, va_K.moved hW.alike hK9, hD9⟩, hS.F ht⟩) hS.2.2 dX10_all_143
      have hG := q_ifn e_32 hG
      by_cases e_35 : z1 = 10
      · have hG := q_ifp e_35 hG
        refine lv_tableIn (off := 122) (tgt := 144) hx hb dX10_all_22 (by rw [e_35]; decide) (by rw [e_35]; decide) (by rw [e_35]; decide) (by decide) ?_
        refine lv_aload_n hx hb dX10_all_144 rfl (lv_at hl 0 rfl) ?_
        obtain ⟨o_36, r_37, hG⟩ := q_bi hG
        refine q_goi (v := o_36) (va_runV (As := []) (rest := []) ⟨hx, hb, hml, hown, hts⟩ (c_X10_supplied l dC dI bm km th tn at_ wr rm_ mn sn ac hi dn td nw o_36 r_37) (cwV 0 hts (q_gV m_1386 m_1387 m_1388 m_5 m_1389) rfl rfl rfl hdV_yX10_supplied_0 ⟨Nat.le_of_ble_eq_true rfl, Nat.le_of_ble_eq_true rfl⟩) (q_preV hK hP (q := (RX10, TX10, 24)) (ci := 10) (q0 := 0) rfl rfl [0, 2, 3] rfl [1, 2] rfl) rfl rfl hl.1 rfl (lv_room (Nat.le_of_ble_eq_true rfl)) dX10_all_145 ⟨Nat.le_of_ble_eq_true rfl, Nat.le_of_ble_eq_true rfl⟩) hP hS (fun H locs hP hS => ?_)
        obtain rfl := Option.some.inj hG
        have hP9 := hP.sub (ws' := [((bm 0), .inr (10, [.int th, .ref (bm 1), .int tn, .int at_, .int wr, .ref (bm 2), .ref (bm 3), .int rm_, .ref (bm 4), .ref (bm 5), .int mn, .ref (bm 6), .ref (bm 7), .int sn, .ref (bm 8), .ref (bm 9), .ref (bm 10), .int ac, .long dn, .ref (bm 11), .ref (bm 12), .ref (bm 13), .ref (bm 14), .int hi])), ((bm 4), .inl ((km 4), 8, .inl ru)), ((bm 5), .inl ((km 5), 48, .inl td)), ((bm 8), .inl ((km 8), 279, .inl nw))]) [0, 1, 2, 3] rfl
        have hD9 := hD.sub (ws' := [((bm 0), .inr (10, [.int th, .ref (bm 1), .int tn, .int at_, .int wr, .ref (bm 2), .ref (bm 3), .int rm_, .ref (bm 4), .ref (bm 5), .int mn, .ref (bm 6), .ref (bm 7), .int sn, .ref (bm 8), .ref (bm 9), .ref (bm 10), .int ac, .long dn, .ref (bm 11), .ref (bm 12), .ref (bm 13), .ref (bm 14), .int hi])), ((bm 4), .inl ((km 4), 8, .inl ru)), ((bm 5), .inl ((km 5), 48, .inl td)), ((bm 8), .inl ((km 8), 279, .inl nw))]) [0, 1, 2, 3] (by decide) rfl
        have hK9 := hK.sub (tys' := [((km 4), .int), ((km 5), .int), ((km 8), .int)]) [0, 1, 2] rfl
        exact W.iret (v := o_36) hx hb hr (fun t ht hW => ⟨⟨o_36, (), rfl, ⟨rfl, trivial⟩, by rw [ht]; exact hP9, va_K.moved hW.alike hK9, hD9⟩, hS.F ht⟩) hS.2.2 dX10_all_148
      have hG := q_ifn e_35 hG
      by_cases e_38 : z1 = 11
      · have hG := q_ifp e_38 hG
        refine lv_tableIn (off := 127) (tgt := 149) hx hb dX10_all_22 (by rw [e_38]; decide) (by rw [e_38]; decide) (by rw [e_38]; decide) (by decide) ?_
        refine lv_aload_n hx hb dX10_all_149 rfl (lv_at hl 0 rfl) ?_
        refine lv_iconst (v := 0) hx hb dX10_all_150 (by decide) ?_
        obtain ⟨o_39, r_40, hG⟩ := q_bi hG
        refine q_goi2 (v := o_39.1) (wr := []) (va_runV (As := [.int 0]) (rest := []) ⟨hx, hb, hml, hown, hts⟩ (c_X10_sleepers l dC dI bm km th tn at_ wr rm_ mn sn ac hi dn ru td nw 0 (va_A [((bm 0), .inr (10, [.int th, .ref (bm 1), .int tn, .int at_, .int wr, .ref (bm 2), .ref (bm 3), .int rm_, .ref (bm 4), .ref (bm 5), .int mn, .ref (bm 6), .ref (bm 7), .int sn, .ref (bm 8), .ref (bm 9), .ref (bm 10), .int ac, .long dn, .ref (bm 11), .ref (bm 12), .ref (bm 13), .ref (bm 14), .int hi])), ((bm 4), .inl ((km 4), 8, .inl ru)), ((bm 5), .inl ((km 5), 48, .inl td)), ((bm 8), .inl ((km 8), 279, .inl nw))] H.size) o_39 r_40) (cwV 1 hts (q_gV m_1390 m_1391 m_1392 m_5 m_1393) rfl rfl rfl hdV_yX10_sleepers_1 ⟨Nat.le_of_ble_eq_true rfl, Nat.le_of_ble_eq_true rfl⟩) (q_preWV hK hP hD (q := (RX10, TX10, 24)) (ci := 10) (q0 := 0) rfl rfl [0, 1, 2, 3] (by decide) rfl rfl [0, 1, 2] rfl) rfl rfl hl.1 rfl (lv_room (Nat.le_of_ble_eq_true rfl)) dX10_all_151 ⟨Nat.le_of_ble_eq_true rfl, Nat.le_of_ble_eq_true rfl⟩) hK hP hD hS hA [0, 1, 2, 3] [] rfl rfl (by decide) (by decide) (fun _ H locs _ hP hD hK9 hS => ?_)
        have hP : va_P (dC, dI) vwCl [((bm 0), .inr (10, [.int th, .ref (bm 1), .int tn, .int at_, .int wr, .ref (bm 2), .ref (bm 3), .int rm_, .ref (bm 4), .ref (bm 5), .int mn, .ref (bm 6), .ref (bm 7), .int sn, .ref (bm 8), .ref (bm 9), .ref (bm 10), .int ac, .long dn, .ref (bm 11), .ref (bm 12), .ref (bm 13), .ref (bm 14), .int hi])), ((bm 4), .inl ((km 4), 8, .inl ru)), ((bm 5), .inl ((km 5), 48, .inl td)), ((bm 8), .inl ((km 8), 279, .inl (o_39.2)))] H := hP.sub [0, 1, 2, 3] rfl
        have hD : va_D A [((bm 0), .inr (10, [.int th, .ref (bm 1), .int tn, .int at_, .int wr, .ref (bm 2), .ref (bm 3), .int rm_, .ref (bm 4), .ref (bm 5), .int mn, .ref (bm 6), .ref (bm 7), .int sn, .ref (bm 8), .ref (bm 9), .ref (bm 10), .int ac, .long dn, .ref (bm 11), .ref (bm 12), .ref (bm 13), .ref (bm 14), .int hi])), ((bm 4), .inl ((km 4), 8, .inl ru)), ((bm 5), .inl ((km 5), 48, .inl td)), ((bm 8), .inl ((km 8), 279, .inl (o_39.2)))] := hD.sub [0, 1, 2, 3] (by decide) rfl
        obtain rfl := Option.some.inj hG
        have hP9 := hP.sub (ws' := [((bm 0), .inr (10, [.int th, .ref (bm 1), .int tn, .int at_, .int wr, .ref (bm 2), .ref (bm 3), .int rm_, .ref (bm 4), .ref (bm 5), .int mn, .ref (bm 6), .ref (bm 7), .int sn, .ref (bm 8), .ref (bm 9), .ref (bm 10), .int ac, .long dn, .ref (bm 11), .ref (bm 12), .ref (bm 13), .ref (bm 14), .int hi])), ((bm 4), .inl ((km 4), 8, .inl ru)), ((bm 5), .inl ((km 5), 48, .inl td)), ((bm 8), .inl ((km 8), 279, .inl (o_39.2)))]) [0, 1, 2, 3] rfl
        have hD9 := hD.sub (ws' := [((bm 0), .inr (10, [.int th, .ref (bm 1), .int tn, .int at_, .int wr, .ref (bm 2), .ref (bm 3), .int rm_, .ref (bm 4), .ref (bm 5), .int mn, .ref (bm 6), .ref (bm 7), .int sn, .ref (bm 8), .ref (bm 9), .ref (bm 10), .int ac, .long dn, .ref (bm 11), .ref (bm 12), .ref (bm 13), .ref (bm 14), .int hi])), ((bm 4), .inl ((km 4), 8, .inl ru)), ((bm 5), .inl ((km 5), 48, .inl td)), ((bm 8), .inl ((km 8), 279, .inl (o_39.2)))]) [0, 1, 2, 3] (by decide) rfl
        have hK9 := hK.sub (tys' := [((km 4), .int), ((km 5), .int), ((km 8), .int)]) [0, 1, 2] rfl
        exact W.iret (v := o_39.1) hx hb hr (fun t ht hW => ⟨⟨o_39.1, (), rfl, ⟨rfl, trivial⟩, by rw [ht]; exact hP9, va_K.moved hW.alike hK9, hD9⟩, hS.F ht⟩) hS.2.2 dX10_all_154
      have hG := q_ifn e_38 hG
      have hsw : (z1).toInt < 0 ∨ 11 < (z1).toInt := by
        have := lv_neT (a := 0) e_7 (by decide)
        have := lv_neT (a := 1) e_8 (by decide)
        have := lv_neT (a := 2) e_11 (by decide)
        have := lv_neT (a := 3) e_14 (by decide)
        have := lv_neT (a := 4) e_17 (by decide)
        have := lv_neT (a := 5) e_20 (by decide)
        have := lv_neT (a := 6) e_23 (by decide)
        have := lv_neT (a := 7) e_26 (by decide)
        have := lv_neT (a := 8) e_29 (by decide)
        have := lv_neT (a := 9) e_32 (by decide)
        have := lv_neT (a := 10) e_35 (by decide)
        have := lv_neT (a := 11) e_38 (by decide)
        omega
      refine lv_tableOut (tgt := 155) hx hb dX10_all_22 hsw (by decide) ?_
      refine lv_aload_n hx hb dX10_all_155 rfl (lv_at hl 0 rfl) ?_
      refine lv_iconst (v := 1) hx hb dX10_all_156 (by decide) ?_
      obtain ⟨o_41, r_42, hG⟩ := q_bi hG
      refine q_goi2 (v := o_41.1) (wr := []) (va_runV (As := [.int 1]) (rest := []) ⟨hx, hb, hml, hown, hts⟩ (c_X10_sleepers l dC dI bm km th tn at_ wr rm_ mn sn ac hi dn ru td nw 1 (va_A [((bm 0), .inr (10, [.int th, .ref (bm 1), .int tn, .int at_, .int wr, .ref (bm 2), .ref (bm 3), .int rm_, .ref (bm 4), .ref (bm 5), .int mn, .ref (bm 6), .ref (bm 7), .int sn, .ref (bm 8), .ref (bm 9), .ref (bm 10), .int ac, .long dn, .ref (bm 11), .ref (bm 12), .ref (bm 13), .ref (bm 14), .int hi])), ((bm 4), .inl ((km 4), 8, .inl ru)), ((bm 5), .inl ((km 5), 48, .inl td)), ((bm 8), .inl ((km 8), 279, .inl nw))] H.size) o_41 r_42) (cwV 1 hts (q_gV m_1390 m_1391 m_1392 m_5 m_1393) rfl rfl rfl hdV_yX10_sleepers_1 ⟨Nat.le_of_ble_eq_true rfl, Nat.le_of_ble_eq_true rfl⟩) (q_preWV hK hP hD (q := (RX10, TX10, 24)) (ci := 10) (q0 := 0) rfl rfl [0, 1, 2, 3] (by decide) rfl rfl [0, 1, 2] rfl) rfl rfl hl.1 rfl (lv_room (Nat.le_of_ble_eq_true rfl)) dX10_all_157 ⟨Nat.le_of_ble_eq_true rfl, Nat.le_of_ble_eq_true rfl⟩) hK hP hD hS hA [0, 1, 2, 3] [] rfl rfl (by decide) (by decide) (fun _ H locs _ hP hD hK9 hS => ?_)
      have hP : va_P (dC, dI) vwCl [((bm 0), .inr (10, [.int th, .ref (bm 1), .int tn, .int at_, .int wr, .ref (bm 2), .ref (bm 3), .int rm_, .ref (bm 4), .ref (bm 5), .int mn, .ref (bm 6), .ref (bm 7), .int sn, .ref (bm 8), .ref (bm 9), .ref (bm 10), .int ac, .long dn, .ref (bm 11), .ref (bm 12), .ref (bm 13), .ref (bm 14), .int hi])), ((bm 4), .inl ((km 4), 8, .inl ru)), ((bm 5), .inl ((km 5), 48, .inl td)), ((bm 8), .inl ((km 8), 279, .inl (o_41.2)))] H := hP.sub [0, 1, 2, 3] rfl
      have hD : va_D A [((bm 0), .inr (10, [.int th, .ref (bm 1), .int tn, .int at_, .int wr, .ref (bm 2), .ref (bm 3), .int rm_, .ref (bm 4), .ref (bm 5), .int mn, .ref (bm 6), .ref (bm 7), .int sn, .ref (bm 8), .ref (bm 9), .ref (bm 10), .int ac, .long dn, .ref (bm 11), .ref (bm 12), .ref (bm 13), .ref (bm 14), .int hi])), ((bm 4), .inl ((km 4), 8, .inl ru)), ((bm 5), .inl ((km 5), 48, .inl td)), ((bm 8), .inl ((km 8), 279, .inl (o_41.2)))] := hD.sub [0, 1, 2, 3] (by decide) rfl
      obtain rfl := Option.some.inj hG
      have hP9 := hP.sub (ws' := [((bm 0), .inr (10, [.int th, .ref (bm 1), .int tn, .int at_, .int wr, .ref (bm 2), .ref (bm 3), .int rm_, .ref (bm 4), .ref (bm 5), .int mn, .ref (bm 6), .ref (bm 7), .int sn, .ref (bm 8), .ref (bm 9), .ref (bm 10), .int ac, .long dn, .ref (bm 11), .ref (bm 12), .ref (bm 13), .ref (bm 14), .int hi])), ((bm 4), .inl ((km 4), 8, .inl ru)), ((bm 5), .inl ((km 5), 48, .inl td)), ((bm 8), .inl ((km 8), 279, .inl (o_41.2)))]) [0, 1, 2, 3] rfl
      have hD9 := hD.sub (ws' := [((bm 0), .inr (10, [.int th, .ref (bm 1), .int tn, .int at_, .int wr, .ref (bm 2), .ref (bm 3), .int rm_, .ref (bm 4), .ref (bm 5), .int mn, .ref (bm 6), .ref (bm 7), .int sn, .ref (bm 8), .ref (bm 9), .ref (bm 10), .int ac, .long dn, .ref (bm 11), .ref (bm 12), .ref (bm 13), .ref (bm 14), .int hi])), ((bm 4), .inl ((km 4), 8, .inl ru)), ((bm 5), .inl ((km 5), 48, .inl td)), ((bm 8), .inl ((km 8), 279, .inl (o_41.2)))]) [0, 1, 2, 3] (by decide) rfl
      have hK9 := hK.sub (tys' := [((km 4), .int), ((km 5), .int), ((km 8), .int)]) [0, 1, 2] rfl
      exact W.iret (v := o_41.1) hx hb hr (fun t ht hW => ⟨⟨o_41.1, (), rfl, ⟨rfl, trivial⟩, by rw [ht]; exact hP9, va_K.moved hW.alike hK9, hD9⟩, hS.F ht⟩) hS.2.2 dX10_all_160
    · have hG := q_ifp c_6 hG
      refine lv_ldcw (v := (-1000000)) hx hb hown (hts (.constant RX10 358 (-1000000)) (List.mem_cons_of_mem _ m_620)) dX10_all_17 ?_
      obtain rfl := Option.some.inj hG
      have hP9 := hP.sub (ws' := [((bm 0), .inr (10, [.int th, .ref (bm 1), .int tn, .int at_, .int wr, .ref (bm 2), .ref (bm 3), .int rm_, .ref (bm 4), .ref (bm 5), .int mn, .ref (bm 6), .ref (bm 7), .int sn, .ref (bm 8), .ref (bm 9), .ref (bm 10), .int ac, .long dn, .ref (bm 11), .ref (bm 12), .ref (bm 13), .ref (bm 14), .int hi])), ((bm 4), .inl ((km 4), 8, .inl ru)), ((bm 5), .inl ((km 5), 48, .inl td)), ((bm 8), .inl ((km 8), 279, .inl nw))]) [0, 1, 2, 3] rfl
      have hD9 := hD.sub (ws' := [((bm 0), .inr (10, [.int th, .ref (bm 1), .int tn, .int at_, .int wr, .ref (bm 2), .ref (bm 3), .int rm_, .ref (bm 4), .ref (bm 5), .int mn, .ref (bm 6), .ref (bm 7), .int sn, .ref (bm 8), .ref (bm 9), .ref (bm 10), .int ac, .long dn, .ref (bm 11), .ref (bm 12), .ref (bm 13), .ref (bm 14), .int hi])), ((bm 4), .inl ((km 4), 8, .inl ru)), ((bm 5), .inl ((km 5), 48, .inl td)), ((bm 8), .inl ((km 8), 279, .inl nw))]) [0, 1, 2, 3] (by decide) rfl
      have hK9 := hK.sub (tys' := [((km 4), .int), ((km 5), .int), ((km 8), .int)]) [0, 1, 2] rfl
      exact W.iret (v := (-1000000)) hx hb hr (fun t ht hW => ⟨⟨(-1000000), (), rfl, ⟨rfl, trivial⟩, by rw [ht]; exact hP9, va_K.moved hW.alike hK9, hD9⟩, hS.F ht⟩) hS.2.2 dX10_all_20

def FL_X10_image_11 (mn : Int32) (hi : Int32) (nw : Nat → Int32) (im : Nat → Int32) : Nat → Int32 → (Int32) → (Nat → Int32) → Option (Int32 × Int32 × (Nat → Int32))
  | 0, _, _, _ => none
  | n + 1, x1_11, hi_c, im_c => (if 279 ≤ x1_11 then some ((nw 96), 1, im_c) else (if x1_11 < 0 ∨ 279 ≤ (x1_11).toNatClampNeg then none else (if x1_11 < 0 ∨ 279 ≤ (x1_11).toNatClampNeg then none else (FL_X10_image_11 mn hi nw im n (x1_11 + 1) hi_c (upd im_c (x1_11).toNatClampNeg (nw (x1_11).toNatClampNeg))))))

def F_X10_image (mn : Int32) (hi : Int32) (nw : Nat → Int32) (im : Nat → Int32) : Option (Int32 × Int32 × (Nat → Int32)) := ((F_X10_isTree mn).bind fun o_1 => (if o_1 = 0 then some ((-1), hi, im) else (FL_X10_image_11 mn hi nw im 1000 0 hi im)))
set_option maxHeartbeats 4000000 in
set_option maxRecDepth 100000 in
theorem c_X10_image (l : Launch) (dC : Nat → ClassId) (dI : Nat → Nat → Nat) (bm : Nat → Nat) (km : Nat → ClassId) (th : Int32) (tn : Int32) (at_ : Int32) (wr : Int32) (rm_ : Int32) (mn : Int32) (sn : Int32) (ac : Int32) (hi : Int32) (dn : Int64) (nw : Nat → Int32) (im : Nat → Int32) (A : Nat → Prop) (o : Int32 × Int32 × (Nat → Int32)) (hG : F_X10_image mn hi nw im = some o) : Met l yX10_image (.code yX10_image cX10_image 2 (some .int) :: wA) ({ frames := 1, cells := 0, slots := 0, locals := 20 }) (va_Pc [.ref (bm 0)] (q_W (dC, dI) A [((bm 0), .inr (10, [.int th, .ref (bm 1), .int tn, .int at_, .int wr, .ref (bm 2), .ref (bm 3), .int rm_, .ref (bm 4), .ref (bm 5), .int mn, .ref (bm 6), .ref (bm 7), .int sn, .ref (bm 8), .ref (bm 9), .ref (bm 10), .int ac, .long dn, .ref (bm 11), .ref (bm 12), .ref (bm 13), .ref (bm 14), .int hi])), ((bm 8), .inl ((km 8), 279, .inl nw)), ((bm 14), .inl ((km 14), 279, .inl im))] [((km 8), .int), ((km 14), .int)])) (va_Qi (fun (r : Int32) (_ : Unit) => r = o.1 ∧ True) (fun (_ : Unit) t => q_B (dC, dI) A [((bm 0), .inr (10, [.int th, .ref (bm 1), .int tn, .int at_, .int wr, .ref (bm 2), .ref (bm 3), .int rm_, .ref (bm 4), .ref (bm 5), .int mn, .ref (bm 6), .ref (bm 7), .int sn, .ref (bm 8), .ref (bm 9), .ref (bm 10), .int ac, .long dn, .ref (bm 11), .ref (bm 12), .ref (bm 13), .ref (bm 14), .int (o.2.1)])), ((bm 8), .inl ((km 8), 279, .inl nw)), ((bm 14), .inl ((km 14), 279, .inl (o.2.2)))] [((km 8), .int), ((km 14), .int)] t) A) 0 0 A := by
  refine Met.ofW (cc := cX10_image) (maxL := 2) (ret := (some .int)) (by decide) rfl ?_
  intro p e s m args below meth c s₁ B hml hv
  obtain ⟨rfl, hP, hK, hD, hA⟩ := hv
  have hx := B.exec
  have hb := B.bytes
  have hr := B.returns
  have hts := atoms_spec (ws := .code yX10_image cX10_image 2 (some .int) :: wA) B.pre
  have hown : s.vm.findClass RX10 = some m.cls := findClass_of_methodNamed B.named
  have hlocks := B.notSynchronized
  have hS : va_S A s.heap s.heap [] := va_S.rf
  have hl := lv_entry ([.ref (bm 0)]) (n := 2) (Nat.le_of_ble_eq_true rfl)
  rw [lg_entry_eq]
  generalize (lg_sl ([.ref (bm 0)]) ++ List.replicate (2 - (lg_sl ([.ref (bm 0)])).length) Slot.unset).toArray = ls at hl ⊢
  have hl : lv_has ls 2 [(0, .ref (bm 0))] := hl
  unfold F_X10_image at hG
  refine lv_aload_n hx hb dX10_image_0 rfl (lv_at hl 0 rfl) ?_
  obtain ⟨o_1, r_2, hG⟩ := q_bi hG
  refine q_goi (v := o_1) (va_runV (As := []) (rest := []) ⟨hx, hb, hml, hown, hts⟩ (c_X10_isTree l dC dI bm km th tn at_ wr rm_ mn sn ac hi dn o_1 r_2) (cwV 0 hts (q_gV m_454 m_455 m_456 m_5 m_457) rfl rfl rfl hdV_yX10_isTree_0 ⟨Nat.le_of_ble_eq_true rfl, Nat.le_of_ble_eq_true rfl⟩) (q_preV hK hP (q := (RX10, TX10, 24)) (ci := 10) (q0 := 0) rfl rfl [0] rfl [] rfl) rfl rfl hl.1 rfl (lv_room (Nat.le_of_ble_eq_true rfl)) dX10_image_1 ⟨Nat.le_of_ble_eq_true rfl, Nat.le_of_ble_eq_true rfl⟩) hP hS (fun H locs hP hS => ?_)
  refine lv_if_ne (tgt := 9) hx hb dX10_image_4 (by decide) (fun c_3 => ?_) (fun c_3 => ?_)
  · have hG := q_ifn c_3 hG
    refine lv_iconst (v := 0) hx hb dX10_image_9 (by decide) ?_
    refine lv_istore_n (lv' := [(1, .int 0), (0, .ref (bm 0))]) hx hb dX10_image_10 rfl hl (by decide) rfl (fun ls hl => ?_)
    have L_11 : ∀ (n_11 : Nat) (x1_11 : Int32) (hi_c : Int32) (im_c : Nat → Int32) (H : Heap) (locs : List Loc) (ls : Array Slot), FL_X10_image_11 mn hi nw im n_11 x1_11 hi_c im_c = some o → va_P (dC, dI) vwCl [((bm 0), .inr (10, [.int th, .ref (bm 1), .int tn, .int at_, .int wr, .ref (bm 2), .ref (bm 3), .int rm_, .ref (bm 4), .ref (bm 5), .int mn, .ref (bm 6), .ref (bm 7), .int sn, .ref (bm 8), .ref (bm 9), .ref (bm 10), .int ac, .long dn, .ref (bm 11), .ref (bm 12), .ref (bm 13), .ref (bm 14), .int hi_c])), ((bm 8), .inl ((km 8), 279, .inl nw)), ((bm 14), .inl ((km 14), 279, .inl im_c))] H → va_D A [((bm 0), .inr (10, [.int th, .ref (bm 1), .int tn, .int at_, .int wr, .ref (bm 2), .ref (bm 3), .int rm_, .ref (bm 4), .ref (bm 5), .int mn, .ref (bm 6), .ref (bm 7), .int sn, .ref (bm 8), .ref (bm 9), .ref (bm 10), .int ac, .long dn, .ref (bm 11), .ref (bm 12), .ref (bm 13), .ref (bm 14), .int hi_c])), ((bm 8), .inl ((km 8), 279, .inl nw)), ((bm 14), .inl ((km 14), 279, .inl im_c))] → va_S A s.heap H locs → lv_has ls 2 [(1, .int x1_11), (0, .ref (bm 0))] → W p l e (headSpec (.code yX10_image cX10_image 2 (some .int) :: wA) ({ frames := 1, cells := 0, slots := 0, locals := 20 })).room s m #[.ref (bm 0)] below meth c H locs 0 0 (MQ below (va_Qi (fun (r : Int32) (_ : Unit) => r = o.1 ∧ True) (fun (_ : Unit) t => q_B (dC, dI) A [((bm 0), .inr (10, [.int th, .ref (bm 1), .int tn, .int at_, .int wr, .ref (bm 2), .ref (bm 3), .int rm_, .ref (bm 4), .ref (bm 5), .int mn, .ref (bm 6), .ref (bm 7), .int sn, .ref (bm 8), .ref (bm 9), .ref (bm 10), .int ac, .long dn, .ref (bm 11), .ref (bm 12), .ref (bm 13), .ref (bm 14), .int (o.2.1)])), ((bm 8), .inl ((km 8), 279, .inl nw)), ((bm 14), .inl ((km 14), 279, .inl (o.2.2)))] [((km 8), .int), ((km 14), .int)] t) A) #[.ref (bm 0)] s 0 0 A) (F0 m 11 ls []) := by
      intro n_11
      induction n_11 with
      | zero =>
        intro x1_11 hi_c im_c H locs ls hG
        exact q_no hG
      | succ n_11 ih_11 =>
        intro x1_11 hi_c im_c H locs ls hG hP hD hS hl
        unfold FL_X10_image_11 at hG
        refine lv_iload_n hx hb dX10_image_11 rfl (lv_at hl 0 rfl) ?_
        refine lv_sipush (v := 279) hx hb dX10_image_12 (by decide) ?_
        refine lv_icmp_ge (tgt := 36) hx hb dX10_image_15 (by decide) (fun c_4 => ?_) (fun c_4 => ?_)
        · have hG := q_ifp c_4 hG
          refine lv_aload_n hx hb dX10_image_36 rfl (lv_at hl 1 rfl) ?_
          refine lv_iconst (v := 1) hx hb dX10_image_37 (by decide) ?_
          refine va_put (D := (dC, dI)) (ci := 10) (v := .int 1) (ty := .boolean) (C := RX10) (T := TX10) (N := 24) hx hb hts iA_10 tyX10 tyX10_ok nmX10 hown hK hP hD hS 0 rfl rfl 23 (by decide) (hts (.fieldLink RX10 154 "HubTreeModel" "hasImage" "Z") (List.mem_cons_of_mem _ m_435)) (fun _ h9 => h9) rfl (by decide +kernel) rfl rfl (Nat.le_of_ble_eq_true rfl) dX10_image_38 (fun H locs hP hD hS => ?_)
          have hP : va_P (dC, dI) vwCl [((bm 0), .inr (10, [.int th, .ref (bm 1), .int tn, .int at_, .int wr, .ref (bm 2), .ref (bm 3), .int rm_, .ref (bm 4), .ref (bm 5), .int mn, .ref (bm 6), .ref (bm 7), .int sn, .ref (bm 8), .ref (bm 9), .ref (bm 10), .int ac, .long dn, .ref (bm 11), .ref (bm 12), .ref (bm 13), .ref (bm 14), .int 1])), ((bm 8), .inl ((km 8), 279, .inl nw)), ((bm 14), .inl ((km 14), 279, .inl im_c))] H := hP
          have hD : va_D A [((bm 0), .inr (10, [.int th, .ref (bm 1), .int tn, .int at_, .int wr, .ref (bm 2), .ref (bm 3), .int rm_, .ref (bm 4), .ref (bm 5), .int mn, .ref (bm 6), .ref (bm 7), .int sn, .ref (bm 8), .ref (bm 9), .ref (bm 10), .int ac, .long dn, .ref (bm 11), .ref (bm 12), .ref (bm 13), .ref (bm 14), .int 1])), ((bm 8), .inl ((km 8), 279, .inl nw)), ((bm 14), .inl ((km 14), 279, .inl im_c))] := hD
          refine lv_aload_n hx hb dX10_image_41 rfl (lv_at hl 1 rfl) ?_
          refine va_get (D := (dC, dI)) (ci := 10) (v := .ref (bm 8)) (C := RX10) (T := TX10) (N := 24) hx hb hts iA_10 hown hK hP 0 rfl rfl 14 (by decide) (hts (.fieldLink RX10 31 "HubTreeModel" "now" "[I") (List.mem_cons_of_mem _ m_122)) (fun _ h9 => h9) rfl dX10_image_42 ?_
          refine lv_bipush (v := 96) hx hb dX10_image_45 (by decide) ?_
          refine va_iald hx hb hK hP 1 0 rfl rfl (i := 96) (vp_in_iff.mpr (by decide)) dX10_image_47 ?_
          refine q_top (y := (nw 96)) rfl ?_
          obtain rfl := Option.some.inj hG
          have hP9 := hP.sub (ws' := [((bm 0), .inr (10, [.int th, .ref (bm 1), .int tn, .int at_, .int wr, .ref (bm 2), .ref (bm 3), .int rm_, .ref (bm 4), .ref (bm 5), .int mn, .ref (bm 6), .ref (bm 7), .int sn, .ref (bm 8), .ref (bm 9), .ref (bm 10), .int ac, .long dn, .ref (bm 11), .ref (bm 12), .ref (bm 13), .ref (bm 14), .int 1])), ((bm 8), .inl ((km 8), 279, .inl nw)), ((bm 14), .inl ((km 14), 279, .inl im_c))]) [0, 1, 2] rfl
          have hD9 := hD.sub (ws' := [((bm 0), .inr (10, [.int th, .ref (bm 1), .int tn, .int at_, .int wr, .ref (bm 2), .ref (bm 3), .int rm_, .ref (bm 4), .ref (bm 5), .int mn, .ref (bm 6), .ref (bm 7), .int sn, .ref (bm 8), .ref (bm 9), .ref (bm 10), .int ac, .long dn, .ref (bm 11), .ref (bm 12), .ref (bm 13), .ref (bm 14), .int 1])), ((bm 8), .inl ((km 8), 279, .inl nw)), ((bm 14), .inl ((km 14), 279, .inl im_c))]) [0, 1, 2] (by decide) rfl
          have hK9 := hK.sub (tys' := [((km 8), .int), ((km 14), .int)]) [0, 1] rfl
          exact W.iret (v := (nw 96)) hx hb hr (fun t ht hW => ⟨⟨(nw 96), (), rfl, ⟨rfl, trivial⟩, by rw [ht]; exact hP9, va_K.moved hW.alike hK9, hD9⟩, hS.F ht⟩) hS.2.2 dX10_image_48
        · have hG := q_ifn c_4 hG
          refine lv_aload_n hx hb dX10_image_18 rfl (lv_at hl 1 rfl) ?_
          refine va_get (D := (dC, dI)) (ci := 10) (v := .ref (bm 14)) (C := RX10) (T := TX10) (N := 24) hx hb hts iA_10 hown hK hP 0 rfl rfl 22 (by decide) (hts (.fieldLink RX10 49 "HubTreeModel" "image" "[I") (List.mem_cons_of_mem _ m_128)) (fun _ h9 => h9) rfl dX10_image_19 ?_
          refine lv_iload_n hx hb dX10_image_22 rfl (lv_at hl 0 rfl) ?_
          refine lv_aload_n hx hb dX10_image_23 rfl (lv_at hl 1 rfl) ?_
          refine va_get (D := (dC, dI)) (ci := 10) (v := .ref (bm 8)) (C := RX10) (T := TX10) (N := 24) hx hb hts iA_10 hown hK hP 0 rfl rfl 14 (by decide) (hts (.fieldLink RX10 31 "HubTreeModel" "now" "[I") (List.mem_cons_of_mem _ m_122)) (fun _ h9 => h9) rfl dX10_image_24 ?_
          refine lv_iload_n hx hb dX10_image_27 rfl (lv_at hl 0 rfl) ?_
          obtain ⟨h_5, hG⟩ := q_ix hG
          refine va_iald hx hb hK hP 1 0 rfl rfl (i := x1_11) h_5 dX10_image_28 ?_
          refine q_top (y := (nw (x1_11).toNatClampNeg)) rfl ?_
          obtain ⟨h_6, hG⟩ := q_ix hG
          refine va_iast hx hb hK hP hD hS 2 1 rfl rfl (i := x1_11) (x := (nw (x1_11).toNatClampNeg)) h_6 dX10_image_29 (fun H locs hP hD hS => ?_)
          have hP : va_P (dC, dI) vwCl [((bm 0), .inr (10, [.int th, .ref (bm 1), .int tn, .int at_, .int wr, .ref (bm 2), .ref (bm 3), .int rm_, .ref (bm 4), .ref (bm 5), .int mn, .ref (bm 6), .ref (bm 7), .int sn, .ref (bm 8), .ref (bm 9), .ref (bm 10), .int ac, .long dn, .ref (bm 11), .ref (bm 12), .ref (bm 13), .ref (bm 14), .int hi_c])), ((bm 8), .inl ((km 8), 279, .inl nw)), ((bm 14), .inl ((km 14), 279, .inl (upd im_c (x1_11).toNatClampNeg (nw (x1_11).toNatClampNeg))))] H := hP
          have hD : va_D A [((bm 0), .inr (10, [.int th, .ref (bm 1), .int tn, .int at_, .int wr, .ref (bm 2), .ref (bm 3), .int rm_, .ref (bm 4), .ref (bm 5), .int mn, .ref (bm 6), .ref (bm 7), .int sn, .ref (bm 8), .ref (bm 9), .ref (bm 10), .int ac, .long dn, .ref (bm 11), .ref (bm 12), .ref (bm 13), .ref (bm 14), .int hi_c])), ((bm 8), .inl ((km 8), 279, .inl nw)), ((bm 14), .inl ((km 14), 279, .inl (upd im_c (x1_11).toNatClampNeg (nw (x1_11).toNatClampNeg))))] := hD
          refine lv_iinc (v := (x1_11 + 1)) (lv' := [(1, .int (x1_11 + 1)), (0, .ref (bm 0))]) hx hb dX10_image_30 hl (k := 0) rfl (rfl) (by decide) rfl (fun ls hl => ?_)
          refine lv_goto (tgt := 11) hx hb dX10_image_33 (by decide) ?_
          exact ih_11 (x1_11 + 1) hi_c (upd im_c (x1_11).toNatClampNeg (nw (x1_11).toNatClampNeg)) H locs ls hG hP hD hS (lv_sub hl [0, 1] rfl)
    exact L_11 1000 0 hi im H locs ls hG hP hD hS hl
  · have hG := q_ifp c_3 hG
    refine lv_iconst (v := (-1)) hx hb dX10_image_7 (by decide) ?_
    obtain rfl := Option.some.inj hG
    have hP9 := hP.sub (ws' := [((bm 0), .inr (10, [.int th, .ref (bm 1), .int tn, .int at_, .int wr, .ref (bm 2), .ref (bm 3), .int rm_, .ref (bm 4), .ref (bm 5), .int mn, .ref (bm 6), .ref (bm 7), .int sn, .ref (bm 8), .ref (bm 9), .ref (bm 10), .int ac, .long dn, .ref (bm 11), .ref (bm 12), .ref (bm 13), .ref (bm 14), .int hi])), ((bm 8), .inl ((km 8), 279, .inl nw)), ((bm 14), .inl ((km 14), 279, .inl im))]) [0, 1, 2] rfl
    have hD9 := hD.sub (ws' := [((bm 0), .inr (10, [.int th, .ref (bm 1), .int tn, .int at_, .int wr, .ref (bm 2), .ref (bm 3), .int rm_, .ref (bm 4), .ref (bm 5), .int mn, .ref (bm 6), .ref (bm 7), .int sn, .ref (bm 8), .ref (bm 9), .ref (bm 10), .int ac, .long dn, .ref (bm 11), .ref (bm 12), .ref (bm 13), .ref (bm 14), .int hi])), ((bm 8), .inl ((km 8), 279, .inl nw)), ((bm 14), .inl ((km 14), 279, .inl im))]) [0, 1, 2] (by decide) rfl
    have hK9 := hK.sub (tys' := [((km 8), .int), ((km 14), .int)]) [0, 1] rfl
    exact W.iret (v := (-1)) hx hb hr (fun t ht hW => ⟨⟨(-1), (), rfl, ⟨rfl, trivial⟩, by rw [ht]; exact hP9, va_K.moved hW.alike hK9, hD9⟩, hS.F ht⟩) hS.2.2 dX10_image_8

def FL_X10_back_11 (ac : Int32) (hi : Int32) (nw : Nat → Int32) (im : Nat → Int32) : Nat → Int32 → (Int32) → (Nat → Int32) → Option (Int32 × Int32 × (Nat → Int32))
  | 0, _, _, _ => none
  | n + 1, x1_11, ac_c, nw_c => (if 279 ≤ x1_11 then some ((nw_c 96), 0, nw_c) else (if x1_11 < 0 ∨ 279 ≤ (x1_11).toNatClampNeg then none else (if x1_11 < 0 ∨ 279 ≤ (x1_11).toNatClampNeg then none else (FL_X10_back_11 ac hi nw im n (x1_11 + 1) ac_c (upd nw_c (x1_11).toNatClampNeg (im (x1_11).toNatClampNeg))))))

def F_X10_back (ac : Int32) (hi : Int32) (nw : Nat → Int32) (im : Nat → Int32) : Option (Int32 × Int32 × (Nat → Int32)) := (if hi = 0 then some ((-1), ac, nw) else (FL_X10_back_11 ac hi nw im 1000 0 ac nw))
set_option maxHeartbeats 4000000 in
set_option maxRecDepth 100000 in
theorem c_X10_back (l : Launch) (dC : Nat → ClassId) (dI : Nat → Nat → Nat) (bm : Nat → Nat) (km : Nat → ClassId) (th : Int32) (tn : Int32) (at_ : Int32) (wr : Int32) (rm_ : Int32) (mn : Int32) (sn : Int32) (ac : Int32) (hi : Int32) (dn : Int64) (nw : Nat → Int32) (im : Nat → Int32) (A : Nat → Prop) (o : Int32 × Int32 × (Nat → Int32)) (hG : F_X10_back ac hi nw im = some o) : Met l yX10_back (.code yX10_back cX10_back 2 (some .int) :: wA) ({ frames := 0, cells := 0, slots := 0, locals := 0 }) (va_Pc [.ref (bm 0)] (q_W (dC, dI) A [((bm 0), .inr (10, [.int th, .ref (bm 1), .int tn, .int at_, .int wr, .ref (bm 2), .ref (bm 3), .int rm_, .ref (bm 4), .ref (bm 5), .int mn, .ref (bm 6), .ref (bm 7), .int sn, .ref (bm 8), .ref (bm 9), .ref (bm 10), .int ac, .long dn, .ref (bm 11), .ref (bm 12), .ref (bm 13), .ref (bm 14), .int hi])), ((bm 8), .inl ((km 8), 279, .inl nw)), ((bm 14), .inl ((km 14), 279, .inl im))] [((km 8), .int), ((km 14), .int)])) (va_Qi (fun (r : Int32) (_ : Unit) => r = o.1 ∧ True) (fun (_ : Unit) t => q_B (dC, dI) A [((bm 0), .inr (10, [.int th, .ref (bm 1), .int tn, .int at_, .int wr, .ref (bm 2), .ref (bm 3), .int rm_, .ref (bm 4), .ref (bm 5), .int mn, .ref (bm 6), .ref (bm 7), .int sn, .ref (bm 8), .ref (bm 9), .ref (bm 10), .int (o.2.1), .long dn, .ref (bm 11), .ref (bm 12), .ref (bm 13), .ref (bm 14), .int hi])), ((bm 8), .inl ((km 8), 279, .inl (o.2.2))), ((bm 14), .inl ((km 14), 279, .inl im))] [((km 8), .int), ((km 14), .int)] t) A) 0 0 A := by
  refine Met.ofW (cc := cX10_back) (maxL := 2) (ret := (some .int)) (by decide) rfl ?_
  intro p e s m args below meth c s₁ B hml hv
  obtain ⟨rfl, hP, hK, hD, hA⟩ := hv
  have hx := B.exec
  have hb := B.bytes
  have hr := B.returns
  have hts := atoms_spec (ws := .code yX10_back cX10_back 2 (some .int) :: wA) B.pre
  have hown : s.vm.findClass RX10 = some m.cls := findClass_of_methodNamed B.named
  have hlocks := B.notSynchronized
  have hS : va_S A s.heap s.heap [] := va_S.rf
  have hl := lv_entry ([.ref (bm 0)]) (n := 2) (Nat.le_of_ble_eq_true rfl)
  rw [lg_entry_eq]
  generalize (lg_sl ([.ref (bm 0)]) ++ List.replicate (2 - (lg_sl ([.ref (bm 0)])).length) Slot.unset).toArray = ls at hl ⊢
  have hl : lv_has ls 2 [(0, .ref (bm 0))] := hl
  unfold F_X10_back at hG
  refine lv_aload_n hx hb dX10_back_0 rfl (lv_at hl 0 rfl) ?_
  refine va_get (D := (dC, dI)) (ci := 10) (v := .int hi) (C := RX10) (T := TX10) (N := 24) hx hb hts iA_10 hown hK hP 0 rfl rfl 23 (by decide) (hts (.fieldLink RX10 154 "HubTreeModel" "hasImage" "Z") (List.mem_cons_of_mem _ m_435)) (fun _ h9 => h9) rfl dX10_back_1 ?_
  refine lv_if_ne (tgt := 9) hx hb dX10_back_4 (by decide) (fun c_1 => ?_) (fun c_1 => ?_)
  · have hG := q_ifn c_1 hG
    refine lv_iconst (v := 0) hx hb dX10_back_9 (by decide) ?_
    refine lv_istore_n (lv' := [(1, .int 0), (0, .ref (bm 0))]) hx hb dX10_back_10 rfl hl (by decide) rfl (fun ls hl => ?_)
    have L_11 : ∀ (n_11 : Nat) (x1_11 : Int32) (ac_c : Int32) (nw_c : Nat → Int32) (H : Heap) (locs : List Loc) (ls : Array Slot), FL_X10_back_11 ac hi nw im n_11 x1_11 ac_c nw_c = some o → va_P (dC, dI) vwCl [((bm 0), .inr (10, [.int th, .ref (bm 1), .int tn, .int at_, .int wr, .ref (bm 2), .ref (bm 3), .int rm_, .ref (bm 4), .ref (bm 5), .int mn, .ref (bm 6), .ref (bm 7), .int sn, .ref (bm 8), .ref (bm 9), .ref (bm 10), .int ac_c, .long dn, .ref (bm 11), .ref (bm 12), .ref (bm 13), .ref (bm 14), .int hi])), ((bm 8), .inl ((km 8), 279, .inl nw_c)), ((bm 14), .inl ((km 14), 279, .inl im))] H → va_D A [((bm 0), .inr (10, [.int th, .ref (bm 1), .int tn, .int at_, .int wr, .ref (bm 2), .ref (bm 3), .int rm_, .ref (bm 4), .ref (bm 5), .int mn, .ref (bm 6), .ref (bm 7), .int sn, .ref (bm 8), .ref (bm 9), .ref (bm 10), .int ac_c, .long dn, .ref (bm 11), .ref (bm 12), .ref (bm 13), .ref (bm 14), .int hi])), ((bm 8), .inl ((km 8), 279, .inl nw_c)), ((bm 14), .inl ((km 14), 279, .inl im))] → va_S A s.heap H locs → lv_has ls 2 [(1, .int x1_11), (0, .ref (bm 0))] → W p l e (headSpec (.code yX10_back cX10_back 2 (some .int) :: wA) ({ frames := 0, cells := 0, slots := 0, locals := 0 })).room s m #[.ref (bm 0)] below meth c H locs 0 0 (MQ below (va_Qi (fun (r : Int32) (_ : Unit) => r = o.1 ∧ True) (fun (_ : Unit) t => q_B (dC, dI) A [((bm 0), .inr (10, [.int th, .ref (bm 1), .int tn, .int at_, .int wr, .ref (bm 2), .ref (bm 3), .int rm_, .ref (bm 4), .ref (bm 5), .int mn, .ref (bm 6), .ref (bm 7), .int sn, .ref (bm 8), .ref (bm 9), .ref (bm 10), .int (o.2.1), .long dn, .ref (bm 11), .ref (bm 12), .ref (bm 13), .ref (bm 14), .int hi])), ((bm 8), .inl ((km 8), 279, .inl (o.2.2))), ((bm 14), .inl ((km 14), 279, .inl im))] [((km 8), .int), ((km 14), .int)] t) A) #[.ref (bm 0)] s 0 0 A) (F0 m 11 ls []) := by
      intro n_11
      induction n_11 with
      | zero =>
        intro x1_11 ac_c nw_c H locs ls hG
        exact q_no hG
      | succ n_11 ih_11 =>
        intro x1_11 ac_c nw_c H locs ls hG hP hD hS hl
        unfold FL_X10_back_11 at hG
        refine lv_iload_n hx hb dX10_back_11 rfl (lv_at hl 0 rfl) ?_
        refine lv_sipush (v := 279) hx hb dX10_back_12 (by decide) ?_
        refine lv_icmp_ge (tgt := 36) hx hb dX10_back_15 (by decide) (fun c_2 => ?_) (fun c_2 => ?_)
        · have hG := q_ifp c_2 hG
          refine lv_aload_n hx hb dX10_back_36 rfl (lv_at hl 1 rfl) ?_
          refine lv_iconst (v := 0) hx hb dX10_back_37 (by decide) ?_
          refine va_put (D := (dC, dI)) (ci := 10) (v := .int 0) (ty := .int) (C := RX10) (T := TX10) (N := 24) hx hb hts iA_10 tyX10 tyX10_ok nmX10 hown hK hP hD hS 0 rfl rfl 17 (by decide) (hts (.fieldLink RX10 151 "HubTreeModel" "acts" "I") (List.mem_cons_of_mem _ m_434)) (fun _ h9 => h9) rfl (by decide +kernel) rfl rfl (Nat.le_of_ble_eq_true rfl) dX10_back_38 (fun H locs hP hD hS => ?_)
          have hP : va_P (dC, dI) vwCl [((bm 0), .inr (10, [.int th, .ref (bm 1), .int tn, .int at_, .int wr, .ref (bm 2), .ref (bm 3), .int rm_, .ref (bm 4), .ref (bm 5), .int mn, .ref (bm 6), .ref (bm 7), .int sn, .ref (bm 8), .ref (bm 9), .ref (bm 10), .int 0, .long dn, .ref (bm 11), .ref (bm 12), .ref (bm 13), .ref (bm 14), .int hi])), ((bm 8), .inl ((km 8), 279, .inl nw_c)), ((bm 14), .inl ((km 14), 279, .inl im))] H := hP
          have hD : va_D A [((bm 0), .inr (10, [.int th, .ref (bm 1), .int tn, .int at_, .int wr, .ref (bm 2), .ref (bm 3), .int rm_, .ref (bm 4), .ref (bm 5), .int mn, .ref (bm 6), .ref (bm 7), .int sn, .ref (bm 8), .ref (bm 9), .ref (bm 10), .int 0, .long dn, .ref (bm 11), .ref (bm 12), .ref (bm 13), .ref (bm 14), .int hi])), ((bm 8), .inl ((km 8), 279, .inl nw_c)), ((bm 14), .inl ((km 14), 279, .inl im))] := hD
          refine lv_aload_n hx hb dX10_back_41 rfl (lv_at hl 1 rfl) ?_
          refine va_get (D := (dC, dI)) (ci := 10) (v := .ref (bm 8)) (C := RX10) (T := TX10) (N := 24) hx hb hts iA_10 hown hK hP 0 rfl rfl 14 (by decide) (hts (.fieldLink RX10 31 "HubTreeModel" "now" "[I") (List.mem_cons_of_mem _ m_122)) (fun _ h9 => h9) rfl dX10_back_42 ?_
          refine lv_bipush (v := 96) hx hb dX10_back_45 (by decide) ?_
          refine va_iald hx hb hK hP 1 0 rfl rfl (i := 96) (vp_in_iff.mpr (by decide)) dX10_back_47 ?_
          refine q_top (y := (nw_c 96)) rfl ?_
          obtain rfl := Option.some.inj hG
          have hP9 := hP.sub (ws' := [((bm 0), .inr (10, [.int th, .ref (bm 1), .int tn, .int at_, .int wr, .ref (bm 2), .ref (bm 3), .int rm_, .ref (bm 4), .ref (bm 5), .int mn, .ref (bm 6), .ref (bm 7), .int sn, .ref (bm 8), .ref (bm 9), .ref (bm 10), .int 0, .long dn, .ref (bm 11), .ref (bm 12), .ref (bm 13), .ref (bm 14), .int hi])), ((bm 8), .inl ((km 8), 279, .inl nw_c)), ((bm 14), .inl ((km 14), 279, .inl im))]) [0, 1, 2] rfl
          have hD9 := hD.sub (ws' := [((bm 0), .inr (10, [.int th, .ref (bm 1), .int tn, .int at_, .int wr, .ref (bm 2), .ref (bm 3), .int rm_, .ref (bm 4), .ref (bm 5), .int mn, .ref (bm 6), .ref (bm 7), .int sn, .ref (bm 8), .ref (bm 9), .ref (bm 10), .int 0, .long dn, .ref (bm 11), .ref (bm 12), .ref (bm 13), .ref (bm 14), .int hi])), ((bm 8), .inl ((km 8), 279, .inl nw_c)), ((bm 14), .inl ((km 14), 279, .inl im))]) [0, 1, 2] (by decide) rfl
          have hK9 := hK.sub (tys' := [((km 8), .int), ((km 14), .int)]) [0, 1] rfl
          exact W.iret (v := (nw_c 96)) hx hb hr (fun t ht hW => ⟨⟨(nw_c 96), (), rfl, ⟨rfl, trivial⟩, by rw [ht]; exact hP9, va_K.moved hW.alike hK9, hD9⟩, hS.F ht⟩) hS.2.2 dX10_back_48
        · have hG := q_ifn c_2 hG
          refine lv_aload_n hx hb dX10_back_18 rfl (lv_at hl 1 rfl) ?_
          refine va_get (D := (dC, dI)) (ci := 10) (v := .ref (bm 8)) (C := RX10) (T := TX10) (N := 24) hx hb hts iA_10 hown hK hP 0 rfl rfl 14 (by decide) (hts (.fieldLink RX10 31 "HubTreeModel" "now" "[I") (List.mem_cons_of_mem _ m_122)) (fun _ h9 => h9) rfl dX10_back_19 ?_
          refine lv_iload_n hx hb dX10_back_22 rfl (lv_at hl 0 rfl) ?_
          refine lv_aload_n hx hb dX10_back_23 rfl (lv_at hl 1 rfl) ?_
          refine va_get (D := (dC, dI)) (ci := 10) (v := .ref (bm 14)) (C := RX10) (T := TX10) (N := 24) hx hb hts iA_10 hown hK hP 0 rfl rfl 22 (by decide) (hts (.fieldLink RX10 49 "HubTreeModel" "image" "[I") (List.mem_cons_of_mem _ m_128)) (fun _ h9 => h9) rfl dX10_back_24 ?_
          refine lv_iload_n hx hb dX10_back_27 rfl (lv_at hl 0 rfl) ?_
          obtain ⟨h_3, hG⟩ := q_ix hG
          refine va_iald hx hb hK hP 2 1 rfl rfl (i := x1_11) h_3 dX10_back_28 ?_
          refine q_top (y := (im (x1_11).toNatClampNeg)) rfl ?_
          obtain ⟨h_4, hG⟩ := q_ix hG
          refine va_iast hx hb hK hP hD hS 1 0 rfl rfl (i := x1_11) (x := (im (x1_11).toNatClampNeg)) h_4 dX10_back_29 (fun H locs hP hD hS => ?_)
          have hP : va_P (dC, dI) vwCl [((bm 0), .inr (10, [.int th, .ref (bm 1), .int tn, .int at_, .int wr, .ref (bm 2), .ref (bm 3), .int rm_, .ref (bm 4), .ref (bm 5), .int mn, .ref (bm 6), .ref (bm 7), .int sn, .ref (bm 8), .ref (bm 9), .ref (bm 10), .int ac_c, .long dn, .ref (bm 11), .ref (bm 12), .ref (bm 13), .ref (bm 14), .int hi])), ((bm 8), .inl ((km 8), 279, .inl (upd nw_c (x1_11).toNatClampNeg (im (x1_11).toNatClampNeg)))), ((bm 14), .inl ((km 14), 279, .inl im))] H := hP
          have hD : va_D A [((bm 0), .inr (10, [.int th, .ref (bm 1), .int tn, .int at_, .int wr, .ref (bm 2), .ref (bm 3), .int rm_, .ref (bm 4), .ref (bm 5), .int mn, .ref (bm 6), .ref (bm 7), .int sn, .ref (bm 8), .ref (bm 9), .ref (bm 10), .int ac_c, .long dn, .ref (bm 11), .ref (bm 12), .ref (bm 13), .ref (bm 14), .int hi])), ((bm 8), .inl ((km 8), 279, .inl (upd nw_c (x1_11).toNatClampNeg (im (x1_11).toNatClampNeg)))), ((bm 14), .inl ((km 14), 279, .inl im))] := hD
          refine lv_iinc (v := (x1_11 + 1)) (lv' := [(1, .int (x1_11 + 1)), (0, .ref (bm 0))]) hx hb dX10_back_30 hl (k := 0) rfl (rfl) (by decide) rfl (fun ls hl => ?_)
          refine lv_goto (tgt := 11) hx hb dX10_back_33 (by decide) ?_
          exact ih_11 (x1_11 + 1) ac_c (upd nw_c (x1_11).toNatClampNeg (im (x1_11).toNatClampNeg)) H locs ls hG hP hD hS (lv_sub hl [0, 1] rfl)
    exact L_11 1000 0 ac nw s.heap [] ls hG hP hD hS hl
  · have hG := q_ifp c_1 hG
    refine lv_iconst (v := (-1)) hx hb dX10_back_7 (by decide) ?_
    obtain rfl := Option.some.inj hG
    have hP9 := hP.sub (ws' := [((bm 0), .inr (10, [.int th, .ref (bm 1), .int tn, .int at_, .int wr, .ref (bm 2), .ref (bm 3), .int rm_, .ref (bm 4), .ref (bm 5), .int mn, .ref (bm 6), .ref (bm 7), .int sn, .ref (bm 8), .ref (bm 9), .ref (bm 10), .int ac, .long dn, .ref (bm 11), .ref (bm 12), .ref (bm 13), .ref (bm 14), .int hi])), ((bm 8), .inl ((km 8), 279, .inl nw)), ((bm 14), .inl ((km 14), 279, .inl im))]) [0, 1, 2] rfl
    have hD9 := hD.sub (ws' := [((bm 0), .inr (10, [.int th, .ref (bm 1), .int tn, .int at_, .int wr, .ref (bm 2), .ref (bm 3), .int rm_, .ref (bm 4), .ref (bm 5), .int mn, .ref (bm 6), .ref (bm 7), .int sn, .ref (bm 8), .ref (bm 9), .ref (bm 10), .int ac, .long dn, .ref (bm 11), .ref (bm 12), .ref (bm 13), .ref (bm 14), .int hi])), ((bm 8), .inl ((km 8), 279, .inl nw)), ((bm 14), .inl ((km 14), 279, .inl im))]) [0, 1, 2] (by decide) rfl
    have hK9 := hK.sub (tys' := [((km 8), .int), ((km 14), .int)]) [0, 1] rfl
    exact W.iret (v := (-1)) hx hb hr (fun t ht hW => ⟨⟨(-1), (), rfl, ⟨rfl, trivial⟩, by rw [ht]; exact hP9, va_K.moved hW.alike hK9, hD9⟩, hS.F ht⟩) hS.2.2 dX10_back_8

def F_X10_count (tn : Int32) (mn : Int32) (sn : Int32) (ac : Int32) (nw : Nat → Int32) (z1 : Int32) : Option (Int32) := (if z1 = 0 then some (mn) else (if z1 = 1 then some (sn) else (if z1 = 2 then some (tn) else (if z1 = 3 then some ((nw 98)) else (if z1 = 4 then some (ac) else some ((-1000000)))))))
set_option maxHeartbeats 4000000 in
set_option maxRecDepth 100000 in
theorem c_X10_count (l : Launch) (dC : Nat → ClassId) (dI : Nat → Nat → Nat) (bm : Nat → Nat) (km : Nat → ClassId) (th : Int32) (tn : Int32) (at_ : Int32) (wr : Int32) (rm_ : Int32) (mn : Int32) (sn : Int32) (ac : Int32) (hi : Int32) (dn : Int64) (nw : Nat → Int32) (z1 : Int32) (o : Int32) (hG : F_X10_count tn mn sn ac nw z1 = some o) : Met l yX10_count (.code yX10_count cX10_count 2 (some .int) :: wA) ({ frames := 0, cells := 0, slots := 0, locals := 0 }) (va_Pc [.ref (bm 0), .int z1] (q_R (dC, dI) [((bm 0), .inr (10, [.int th, .ref (bm 1), .int tn, .int at_, .int wr, .ref (bm 2), .ref (bm 3), .int rm_, .ref (bm 4), .ref (bm 5), .int mn, .ref (bm 6), .ref (bm 7), .int sn, .ref (bm 8), .ref (bm 9), .ref (bm 10), .int ac, .long dn, .ref (bm 11), .ref (bm 12), .ref (bm 13), .ref (bm 14), .int hi])), ((bm 8), .inl ((km 8), 279, .inl nw))] [((km 8), .int)])) (q_i o) 0 0 (fun _ => False) := by
  refine Met.ofW (cc := cX10_count) (maxL := 2) (ret := (some .int)) (by decide) rfl ?_
  intro p e s m args below meth c s₁ B hml hv
  obtain ⟨rfl, hP, hK⟩ := hv
  have hx := B.exec
  have hb := B.bytes
  have hr := B.returns
  have hts := atoms_spec (ws := .code yX10_count cX10_count 2 (some .int) :: wA) B.pre
  have hown : s.vm.findClass RX10 = some m.cls := findClass_of_methodNamed B.named
  have hlocks := B.notSynchronized
  have hS : va_S (fun _ => False) s.heap s.heap [] := va_S.rf
  have hl := lv_entry ([.ref (bm 0), .int z1]) (n := 2) (Nat.le_of_ble_eq_true rfl)
  rw [lg_entry_eq]
  generalize (lg_sl ([.ref (bm 0), .int z1]) ++ List.replicate (2 - (lg_sl ([.ref (bm 0), .int z1])).length) Slot.unset).toArray = ls at hl ⊢
  have hl : lv_has ls 2 [(0, .ref (bm 0)), (1, .int z1)] := hl
  unfold F_X10_count at hG
  refine lv_iload_n hx hb dX10_count_0 rfl (lv_at hl 1 rfl) ?_
  by_cases e_1 : z1 = 0
  · have hG := q_ifp e_1 hG
    refine lv_tableIn (off := 35) (tgt := 36) hx hb dX10_count_1 (by rw [e_1]; decide) (by rw [e_1]; decide) (by rw [e_1]; decide) (by decide) ?_
    refine lv_aload_n hx hb dX10_count_36 rfl (lv_at hl 0 rfl) ?_
    refine va_get (D := (dC, dI)) (ci := 10) (v := .int mn) (C := RX10) (T := TX10) (N := 24) hx hb hts iA_10 hown hK hP 0 rfl rfl 10 (by decide) (hts (.fieldLink RX10 132 "HubTreeModel" "many" "I") (List.mem_cons_of_mem _ m_433)) (fun _ h9 => h9) rfl dX10_count_37 ?_
    obtain rfl := Option.some.inj hG
    exact W.iret (v := mn) hx hb hr (fun t ht hW => ⟨⟨mn, (), rfl, rfl, trivial⟩, hS.F ht⟩) hS.2.2 dX10_count_40
  have hG := q_ifn e_1 hG
  by_cases e_2 : z1 = 1
  · have hG := q_ifp e_2 hG
    refine lv_tableIn (off := 40) (tgt := 41) hx hb dX10_count_1 (by rw [e_2]; decide) (by rw [e_2]; decide) (by rw [e_2]; decide) (by decide) ?_
    refine lv_aload_n hx hb dX10_count_41 rfl (lv_at hl 0 rfl) ?_
    refine va_get (D := (dC, dI)) (ci := 10) (v := .int sn) (C := RX10) (T := TX10) (N := 24) hx hb hts iA_10 hown hK hP 0 rfl rfl 13 (by decide) (hts (.fieldLink RX10 161 "HubTreeModel" "scripts" "I") (List.mem_cons_of_mem _ m_428)) (fun _ h9 => h9) rfl dX10_count_42 ?_
    obtain rfl := Option.some.inj hG
    exact W.iret (v := sn) hx hb hr (fun t ht hW => ⟨⟨sn, (), rfl, rfl, trivial⟩, hS.F ht⟩) hS.2.2 dX10_count_45
  have hG := q_ifn e_2 hG
  by_cases e_3 : z1 = 2
  · have hG := q_ifp e_3 hG
    refine lv_tableIn (off := 45) (tgt := 46) hx hb dX10_count_1 (by rw [e_3]; decide) (by rw [e_3]; decide) (by rw [e_3]; decide) (by decide) ?_
    refine lv_aload_n hx hb dX10_count_46 rfl (lv_at hl 0 rfl) ?_
    refine va_get (D := (dC, dI)) (ci := 10) (v := .int tn) (C := RX10) (T := TX10) (N := 24) hx hb hts iA_10 hown hK hP 0 rfl rfl 2 (by decide) (hts (.fieldLink RX10 60 "HubTreeModel" "taped" "I") (List.mem_cons_of_mem _ m_145)) (fun _ h9 => h9) rfl dX10_count_47 ?_
    obtain rfl := Option.some.inj hG
    exact W.iret (v := tn) hx hb hr (fun t ht hW => ⟨⟨tn, (), rfl, rfl, trivial⟩, hS.F ht⟩) hS.2.2 dX10_count_50
  have hG := q_ifn e_3 hG
  by_cases e_4 : z1 = 3
  · have hG := q_ifp e_4 hG
    refine lv_tableIn (off := 50) (tgt := 51) hx hb dX10_count_1 (by rw [e_4]; decide) (by rw [e_4]; decide) (by rw [e_4]; decide) (by decide) ?_
    refine lv_aload_n hx hb dX10_count_51 rfl (lv_at hl 0 rfl) ?_
    refine va_get (D := (dC, dI)) (ci := 10) (v := .ref (bm 8)) (C := RX10) (T := TX10) (N := 24) hx hb hts iA_10 hown hK hP 0 rfl rfl 14 (by decide) (hts (.fieldLink RX10 31 "HubTreeModel" "now" "[I") (List.mem_cons_of_mem _ m_122)) (fun _ h9 => h9) rfl dX10_count_52 ?_
    refine lv_bipush (v := 98) hx hb dX10_count_55 (by decide) ?_
    refine va_iald hx hb hK hP 1 0 rfl rfl (i := 98) (vp_in_iff.mpr (by decide)) dX10_count_57 ?_
    refine q_top (y := (nw 98)) rfl ?_
    obtain rfl := Option.some.inj hG
    exact W.iret (v := (nw 98)) hx hb hr (fun t ht hW => ⟨⟨(nw 98), (), rfl, rfl, trivial⟩, hS.F ht⟩) hS.2.2 dX10_count_58
  have hG := q_ifn e_4 hG
  by_cases e_5 : z1 = 4
  · have hG := q_ifp e_5 hG
    refine lv_tableIn (off := 58) (tgt := 59) hx hb dX10_count_1 (by rw [e_5]; decide) (by rw [e_5]; decide) (by rw [e_5]; decide) (by decide) ?_
    refine lv_aload_n hx hb dX10_count_59 rfl (lv_at hl 0 rfl) ?_
    refine va_get (D := (dC, dI)) (ci := 10) (v := .int ac) (C := RX10) (T := TX10) (N := 24) hx hb hts iA_10 hown hK hP 0 rfl rfl 17 (by decide) (hts (.fieldLink RX10 151 "HubTreeModel" "acts" "I") (List.mem_cons_of_mem _ m_434)) (fun _ h9 => h9) rfl dX10_count_60 ?_
    obtain rfl := Option.some.inj hG
    exact W.iret (v := ac) hx hb hr (fun t ht hW => ⟨⟨ac, (), rfl, rfl, trivial⟩, hS.F ht⟩) hS.2.2 dX10_count_63
  have hG := q_ifn e_5 hG
  have hsw : (z1).toInt < 0 ∨ 4 < (z1).toInt := by
    have := lv_neT (a := 0) e_1 (by decide)
    have := lv_neT (a := 1) e_2 (by decide)
    have := lv_neT (a := 2) e_3 (by decide)
    have := lv_neT (a := 3) e_4 (by decide)
    have := lv_neT (a := 4) e_5 (by decide)
    omega
  refine lv_tableOut (tgt := 64) hx hb dX10_count_1 hsw (by decide) ?_
  refine lv_ldcw (v := (-1000000)) hx hb hown (hts (.constant RX10 358 (-1000000)) (List.mem_cons_of_mem _ m_620)) dX10_count_64 ?_
  obtain rfl := Option.some.inj hG
  exact W.iret (v := (-1000000)) hx hb hr (fun t ht hW => ⟨⟨(-1000000), (), rfl, rfl, trivial⟩, hS.F ht⟩) hS.2.2 dX10_count_67

def FL_X10_place_35 (mn : Int32) (ru : Nat → Int32) (td : Nat → Int32) (nw : Nat → Int32) (as_ : Nat → Int32) (z1 : Int32) (kk_25 : Int32 → Int32 → Int32 → (Nat → Int32) → (Nat → Int32) → Option (Int32 × (Nat → Int32) × (Nat → Int32))) : Nat → Int32 → Int32 → Int32 → Int32 → (Nat → Int32) → (Nat → Int32) → Option (Int32 × (Nat → Int32) × (Nat → Int32))
  | 0, _, _, _, _, _, _ => none
  | n + 1, x2_35, x3_35, x4_35, x5_35, nw_c, as__c => ((F_X10_isHub mn td x4_35).bind fun o_8 => (if o_8 = 0 then (kk_25 x2_35 x3_35 (x4_35 + 1) nw_c as__c) else ((F_X10_portsOf ru td x4_35).bind fun o_11 => (if o_11 ≤ x5_35 then (kk_25 x2_35 x3_35 (x4_35 + 1) nw_c as__c) else ((F_X10_whyPlug mn ru td nw_c z1 x4_35 x5_35).bind fun o_14 => (if o_14 = (-1) then ((F_X10_whenAt mn ru td nw_c as__c z1 x4_35 x5_35).bind fun o_18 => (if o_18.1 = (-1) then (FL_X10_place_35 mn ru td nw as_ z1 kk_25 n x2_35 x3_35 x4_35 (x5_35 + 1) (o_18.2.1) (o_18.2.2)) else (if x2_35 = (-1) then (FL_X10_place_35 mn ru td nw as_ z1 kk_25 n ((10 * x4_35) + x5_35) o_18.1 x4_35 (x5_35 + 1) (o_18.2.1) (o_18.2.2)) else (if x3_35 ≤ o_18.1 then (FL_X10_place_35 mn ru td nw as_ z1 kk_25 n x2_35 x3_35 x4_35 (x5_35 + 1) (o_18.2.1) (o_18.2.2)) else (FL_X10_place_35 mn ru td nw as_ z1 kk_25 n ((10 * x4_35) + x5_35) o_18.1 x4_35 (x5_35 + 1) (o_18.2.1) (o_18.2.2)))))) else (FL_X10_place_35 mn ru td nw as_ z1 kk_25 n x2_35 x3_35 x4_35 (x5_35 + 1) nw_c as__c)))))))

def FL_X10_place_25 (mn : Int32) (ru : Nat → Int32) (td : Nat → Int32) (nw : Nat → Int32) (as_ : Nat → Int32) (z1 : Int32) : Nat → Int32 → Int32 → Int32 → (Nat → Int32) → (Nat → Int32) → Option (Int32 × (Nat → Int32) × (Nat → Int32))
  | 0, _, _, _, _, _ => none
  | n + 1, x2_25, x3_25, x4_25, nw_c, as__c => (if 8 < x4_25 then some (x2_25, nw_c, as__c) else (FL_X10_place_35 mn ru td nw as_ z1 (fun y0 y1 y2 y3 y4 => FL_X10_place_25 mn ru td nw as_ z1 n y0 y1 y2 y3 y4) 1000 x2_25 x3_25 x4_25 0 nw_c as__c))

def F_X10_place (mn : Int32) (ru : Nat → Int32) (td : Nat → Int32) (nw : Nat → Int32) (as_ : Nat → Int32) (z1 : Int32) : Option (Int32 × (Nat → Int32) × (Nat → Int32)) := ((F_X10_isDevice mn z1).bind fun o_1 => (if o_1 = 0 then some ((-1), nw, as_) else ((F_X10_state nw z1).bind fun o_4 => (if o_4 = 0 then (FL_X10_place_25 mn ru td nw as_ z1 1000 (-1) 0 0 nw as_) else some ((-1), nw, as_)))))
set_option maxHeartbeats 4000000 in
set_option maxRecDepth 100000 in
theorem c_X10_place (l : Launch) (dC : Nat → ClassId) (dI : Nat → Nat → Nat) (bm : Nat → Nat) (km : Nat → ClassId) (th : Int32) (tn : Int32) (at_ : Int32) (wr : Int32) (rm_ : Int32) (mn : Int32) (sn : Int32) (ac : Int32) (hi : Int32) (dn : Int64) (ru : Nat → Int32) (td : Nat → Int32) (nw : Nat → Int32) (as_ : Nat → Int32) (z1 : Int32) (A : Nat → Prop) (o : Int32 × (Nat → Int32) × (Nat → Int32)) (hG : F_X10_place mn ru td nw as_ z1 = some o) : Met l yX10_place (.code yX10_place cX10_place 7 (some .int) :: wA) ({ frames := 10, cells := 0, slots := 0, locals := 223 }) (va_Pc [.ref (bm 0), .int z1] (q_W (dC, dI) A [((bm 0), .inr (10, [.int th, .ref (bm 1), .int tn, .int at_, .int wr, .ref (bm 2), .ref (bm 3), .int rm_, .ref (bm 4), .ref (bm 5), .int mn, .ref (bm 6), .ref (bm 7), .int sn, .ref (bm 8), .ref (bm 9), .ref (bm 10), .int ac, .long dn, .ref (bm 11), .ref (bm 12), .ref (bm 13), .ref (bm 14), .int hi])), ((bm 4), .inl ((km 4), 8, .inl ru)), ((bm 5), .inl ((km 5), 48, .inl td)), ((bm 8), .inl ((km 8), 279, .inl nw)), ((bm 11), .inl ((km 11), 98, .inl as_))] [((km 4), .int), ((km 5), .int), ((km 8), .int), ((km 11), .int)])) (va_Qi (fun (r : Int32) (_ : Unit) => r = o.1 ∧ True) (fun (_ : Unit) t => q_B (dC, dI) A [((bm 0), .inr (10, [.int th, .ref (bm 1), .int tn, .int at_, .int wr, .ref (bm 2), .ref (bm 3), .int rm_, .ref (bm 4), .ref (bm 5), .int mn, .ref (bm 6), .ref (bm 7), .int sn, .ref (bm 8), .ref (bm 9), .ref (bm 10), .int ac, .long dn, .ref (bm 11), .ref (bm 12), .ref (bm 13), .ref (bm 14), .int hi])), ((bm 4), .inl ((km 4), 8, .inl ru)), ((bm 5), .inl ((km 5), 48, .inl td)), ((bm 8), .inl ((km 8), 279, .inl (o.2.1))), ((bm 11), .inl ((km 11), 98, .inl (o.2.2)))] [((km 4), .int), ((km 5), .int), ((km 8), .int), ((km 11), .int)] t) A) 0 0 A := by
  refine Met.ofW (cc := cX10_place) (maxL := 7) (ret := (some .int)) (by decide) rfl ?_
  intro p e s m args below meth c s₁ B hml hv
  obtain ⟨rfl, hP, hK, hD, hA⟩ := hv
  have hx := B.exec
  have hb := B.bytes
  have hr := B.returns
  have hts := atoms_spec (ws := .code yX10_place cX10_place 7 (some .int) :: wA) B.pre
  have hown : s.vm.findClass RX10 = some m.cls := findClass_of_methodNamed B.named
  have hlocks := B.notSynchronized
  have hS : va_S A s.heap s.heap [] := va_S.rf
  have hl := lv_entry ([.ref (bm 0), .int z1]) (n := 7) (Nat.le_of_ble_eq_true rfl)
  rw [lg_entry_eq]
  generalize (lg_sl ([.ref (bm 0), .int z1]) ++ List.replicate (7 - (lg_sl ([.ref (bm 0), .int z1])).length) Slot.unset).toArray = ls at hl ⊢
  have hl : lv_has ls 7 [(0, .ref (bm 0)), (1, .int z1)] := hl
  unfold F_X10_place at hG
  refine lv_aload_n hx hb dX10_place_0 rfl (lv_at hl 0 rfl) ?_
  refine lv_iload_n hx hb dX10_place_1 rfl (lv_at hl 1 rfl) ?_
  obtain ⟨o_1, r_2, hG⟩ := q_bi hG
  refine q_goi (v := o_1) (va_runV (As := [.int z1]) (rest := []) ⟨hx, hb, hml, hown, hts⟩ (c_X10_isDevice l dC dI bm km th tn at_ wr rm_ mn sn ac hi dn z1 o_1 r_2) (cwV 1 hts (q_gV m_472 m_473 m_474 m_5 m_475) rfl rfl rfl hdV_yX10_isDevice_1 ⟨Nat.le_of_ble_eq_true rfl, Nat.le_of_ble_eq_true rfl⟩) (q_preV hK hP (q := (RX10, TX10, 24)) (ci := 10) (q0 := 0) rfl rfl [0] rfl [] rfl) rfl rfl hl.1 rfl (lv_room (Nat.le_of_ble_eq_true rfl)) dX10_place_2 ⟨Nat.le_of_ble_eq_true rfl, Nat.le_of_ble_eq_true rfl⟩) hP hS (fun H locs hP hS => ?_)
  refine lv_if_eq (tgt := 16) hx hb dX10_place_5 (by decide) (fun c_3 => ?_) (fun c_3 => ?_)
  · have hG := q_ifp c_3 hG
    refine lv_iconst (v := (-1)) hx hb dX10_place_16 (by decide) ?_
    obtain rfl := Option.some.inj hG
    have hP9 := hP.sub (ws' := [((bm 0), .inr (10, [.int th, .ref (bm 1), .int tn, .int at_, .int wr, .ref (bm 2), .ref (bm 3), .int rm_, .ref (bm 4), .ref (bm 5), .int mn, .ref (bm 6), .ref (bm 7), .int sn, .ref (bm 8), .ref (bm 9), .ref (bm 10), .int ac, .long dn, .ref (bm 11), .ref (bm 12), .ref (bm 13), .ref (bm 14), .int hi])), ((bm 4), .inl ((km 4), 8, .inl ru)), ((bm 5), .inl ((km 5), 48, .inl td)), ((bm 8), .inl ((km 8), 279, .inl nw)), ((bm 11), .inl ((km 11), 98, .inl as_))]) [0, 1, 2, 3, 4] rfl
    have hD9 := hD.sub (ws' := [((bm 0), .inr (10, [.int th, .ref (bm 1), .int tn, .int at_, .int wr, .ref (bm 2), .ref (bm 3), .int rm_, .ref (bm 4), .ref (bm 5), .int mn, .ref (bm 6), .ref (bm 7), .int sn, .ref (bm 8), .ref (bm 9), .ref (bm 10), .int ac, .long dn, .ref (bm 11), .ref (bm 12), .ref (bm 13), .ref (bm 14), .int hi])), ((bm 4), .inl ((km 4), 8, .inl ru)), ((bm 5), .inl ((km 5), 48, .inl td)), ((bm 8), .inl ((km 8), 279, .inl nw)), ((bm 11), .inl ((km 11), 98, .inl as_))]) [0, 1, 2, 3, 4] (by decide) rfl
    have hK9 := hK.sub (tys' := [((km 4), .int), ((km 5), .int), ((km 8), .int), ((km 11), .int)]) [0, 1, 2, 3] rfl
    exact W.iret (v := (-1)) hx hb hr (fun t ht hW => ⟨⟨(-1), (), rfl, ⟨rfl, trivial⟩, by rw [ht]; exact hP9, va_K.moved hW.alike hK9, hD9⟩, hS.F ht⟩) hS.2.2 dX10_place_17
  · have hG := q_ifn c_3 hG
    refine lv_aload_n hx hb dX10_place_8 rfl (lv_at hl 0 rfl) ?_
    refine lv_iload_n hx hb dX10_place_9 rfl (lv_at hl 1 rfl) ?_
    obtain ⟨o_4, r_5, hG⟩ := q_bi hG
    refine q_goi (v := o_4) (va_runV (As := [.int z1]) (rest := []) ⟨hx, hb, hml, hown, hts⟩ (c_X10_state l dC dI bm km th tn at_ wr rm_ mn sn ac hi dn nw z1 o_4 r_5) (cwV 1 hts (q_gV m_504 m_505 m_506 m_5 m_507) rfl rfl rfl hdV_yX10_state_1 ⟨Nat.le_of_ble_eq_true rfl, Nat.le_of_ble_eq_true rfl⟩) (q_preV hK hP (q := (RX10, TX10, 24)) (ci := 10) (q0 := 0) rfl rfl [0, 3] rfl [2] rfl) rfl rfl hl.1 rfl (lv_room (Nat.le_of_ble_eq_true rfl)) dX10_place_10 ⟨Nat.le_of_ble_eq_true rfl, Nat.le_of_ble_eq_true rfl⟩) hP hS (fun H locs hP hS => ?_)
    refine lv_if_eq (tgt := 18) hx hb dX10_place_13 (by decide) (fun c_6 => ?_) (fun c_6 => ?_)
    · have hG := q_ifp c_6 hG
      refine lv_iconst (v := (-1)) hx hb dX10_place_18 (by decide) ?_
      refine lv_istore_n (lv' := [(2, .int (-1)), (0, .ref (bm 0)), (1, .int z1)]) hx hb dX10_place_19 rfl hl (by decide) rfl (fun ls hl => ?_)
      refine lv_iconst (v := 0) hx hb dX10_place_20 (by decide) ?_
      refine lv_istore_n (lv' := [(3, .int 0), (2, .int (-1)), (0, .ref (bm 0)), (1, .int z1)]) hx hb dX10_place_21 rfl hl (by decide) rfl (fun ls hl => ?_)
      refine lv_iconst (v := 0) hx hb dX10_place_22 (by decide) ?_
      refine lv_istore (lv' := [(4, .int 0), (3, .int 0), (2, .int (-1)), (0, .ref (bm 0)), (1, .int z1)]) hx hb dX10_place_23 hl (by decide) rfl (fun ls hl => ?_)
      have L_25 : ∀ (n_25 : Nat) (x2_25 : Int32) (x3_25 : Int32) (x4_25 : Int32) (nw_c : Nat → Int32) (as__c : Nat → Int32) (H : Heap) (locs : List Loc) (ls : Array Slot), FL_X10_place_25 mn ru td nw as_ z1 n_25 x2_25 x3_25 x4_25 nw_c as__c = some o → va_P (dC, dI) vwCl [((bm 0), .inr (10, [.int th, .ref (bm 1), .int tn, .int at_, .int wr, .ref (bm 2), .ref (bm 3), .int rm_, .ref (bm 4), .ref (bm 5), .int mn, .ref (bm 6), .ref (bm 7), .int sn, .ref (bm 8), .ref (bm 9), .ref (bm 10), .int ac, .long dn, .ref (bm 11), .ref (bm 12), .ref (bm 13), .ref (bm 14), .int hi])), ((bm 4), .inl ((km 4), 8, .inl ru)), ((bm 5), .inl ((km 5), 48, .inl td)), ((bm 8), .inl ((km 8), 279, .inl nw_c)), ((bm 11), .inl ((km 11), 98, .inl as__c))] H → va_D A [((bm 0), .inr (10, [.int th, .ref (bm 1), .int tn, .int at_, .int wr, .ref (bm 2), .ref (bm 3), .int rm_, .ref (bm 4), .ref (bm 5), .int mn, .ref (bm 6), .ref (bm 7), .int sn, .ref (bm 8), .ref (bm 9), .ref (bm 10), .int ac, .long dn, .ref (bm 11), .ref (bm 12), .ref (bm 13), .ref (bm 14), .int hi])), ((bm 4), .inl ((km 4), 8, .inl ru)), ((bm 5), .inl ((km 5), 48, .inl td)), ((bm 8), .inl ((km 8), 279, .inl nw_c)), ((bm 11), .inl ((km 11), 98, .inl as__c))] → va_S A s.heap H locs → lv_has ls 7 [(4, .int x4_25), (3, .int x3_25), (2, .int x2_25), (0, .ref (bm 0)), (1, .int z1)] → W p l e (headSpec (.code yX10_place cX10_place 7 (some .int) :: wA) ({ frames := 10, cells := 0, slots := 0, locals := 223 })).room s m #[.ref (bm 0), .int z1] below meth c H locs 0 0 (MQ below (va_Qi (fun (r : Int32) (_ : Unit) => r = o.1 ∧ True) (fun (_ : Unit) t => q_B (dC, dI) A [((bm 0), .inr (10, [.int th, .ref (bm 1), .int tn, .int at_, .int wr, .ref (bm 2), .ref (bm 3), .int rm_, .ref (bm 4), .ref (bm 5), .int mn, .ref (bm 6), .ref (bm 7), .int sn, .ref (bm 8), .ref (bm 9), .ref (bm 10), .int ac, .long dn, .ref (bm 11), .ref (bm 12), .ref (bm 13), .ref (bm 14), .int hi])), ((bm 4), .inl ((km 4), 8, .inl ru)), ((bm 5), .inl ((km 5), 48, .inl td)), ((bm 8), .inl ((km 8), 279, .inl (o.2.1))), ((bm 11), .inl ((km 11), 98, .inl (o.2.2)))] [((km 4), .int), ((km 5), .int), ((km 8), .int), ((km 11), .int)] t) A) #[.ref (bm 0), .int z1] s 0 0 A) (F0 m 25 ls []) := by
        intro n_25
        induction n_25 with
        | zero =>
          intro x2_25 x3_25 x4_25 nw_c as__c H locs ls hG
          exact q_no hG
        | succ n_25 ih_25 =>
          intro x2_25 x3_25 x4_25 nw_c as__c H locs ls hG hP hD hS hl
          unfold FL_X10_place_25 at hG
          refine lv_iload hx hb dX10_place_25 (lv_at hl 0 rfl) ?_
          refine lv_bipush (v := 8) hx hb dX10_place_27 (by decide) ?_
          refine lv_icmp_gt (tgt := 124) hx hb dX10_place_29 (by decide) (fun c_7 => ?_) (fun c_7 => ?_)
          · have hG := q_ifp c_7 hG
            refine lv_iload_n hx hb dX10_place_124 rfl (lv_at hl 2 rfl) ?_
            obtain rfl := Option.some.inj hG
            have hP9 := hP.sub (ws' := [((bm 0), .inr (10, [.int th, .ref (bm 1), .int tn, .int at_, .int wr, .ref (bm 2), .ref (bm 3), .int rm_, .ref (bm 4), .ref (bm 5), .int mn, .ref (bm 6), .ref (bm 7), .int sn, .ref (bm 8), .ref (bm 9), .ref (bm 10), .int ac, .long dn, .ref (bm 11), .ref (bm 12), .ref (bm 13), .ref (bm 14), .int hi])), ((bm 4), .inl ((km 4), 8, .inl ru)), ((bm 5), .inl ((km 5), 48, .inl td)), ((bm 8), .inl ((km 8), 279, .inl nw_c)), ((bm 11), .inl ((km 11), 98, .inl as__c))]) [0, 1, 2, 3, 4] rfl
            have hD9 := hD.sub (ws' := [((bm 0), .inr (10, [.int th, .ref (bm 1), .int tn, .int at_, .int wr, .ref (bm 2), .ref (bm 3), .int rm_, .ref (bm 4), .ref (bm 5), .int mn, .ref (bm 6), .ref (bm 7), .int sn, .ref (bm 8), .ref (bm 9), .ref (bm 10), .int ac, .long dn, .ref (bm 11), .ref (bm 12), .ref (bm 13), .ref (bm 14), .int hi])), ((bm 4), .inl ((km 4), 8, .inl ru)), ((bm 5), .inl ((km 5), 48, .inl td)), ((bm 8), .inl ((km 8), 279, .inl nw_c)), ((bm 11), .inl ((km 11), 98, .inl as__c))]) [0, 1, 2, 3, 4] (by decide) rfl
            have hK9 := hK.sub (tys' := [((km 4), .int), ((km 5), .int), ((km 8), .int), ((km 11), .int)]) [0, 1, 2, 3] rfl
            exact W.iret (v := x2_25) hx hb hr (fun t ht hW => ⟨⟨x2_25, (), rfl, ⟨rfl, trivial⟩, by rw [ht]; exact hP9, va_K.moved hW.alike hK9, hD9⟩, hS.F ht⟩) hS.2.2 dX10_place_125
          · have hG := q_ifn c_7 hG
            refine lv_iconst (v := 0) hx hb dX10_place_32 (by decide) ?_
            refine lv_istore (lv' := [(5, .int 0), (4, .int x4_25), (3, .int x3_25), (2, .int x2_25), (0, .ref (bm 0)), (1, .int z1)]) hx hb dX10_place_33 hl (by decide) rfl (fun ls hl => ?_)
            have L_35 : ∀ (n_35 : Nat) (x2_35 : Int32) (x3_35 : Int32) (x4_35 : Int32) (x5_35 : Int32) (nw_c : Nat → Int32) (as__c : Nat → Int32) (H : Heap) (locs : List Loc) (ls : Array Slot), FL_X10_place_35 mn ru td nw as_ z1 (FL_X10_place_25 mn ru td nw as_ z1 n_25) n_35 x2_35 x3_35 x4_35 x5_35 nw_c as__c = some o → va_P (dC, dI) vwCl [((bm 0), .inr (10, [.int th, .ref (bm 1), .int tn, .int at_, .int wr, .ref (bm 2), .ref (bm 3), .int rm_, .ref (bm 4), .ref (bm 5), .int mn, .ref (bm 6), .ref (bm 7), .int sn, .ref (bm 8), .ref (bm 9), .ref (bm 10), .int ac, .long dn, .ref (bm 11), .ref (bm 12), .ref (bm 13), .ref (bm 14), .int hi])), ((bm 4), .inl ((km 4), 8, .inl ru)), ((bm 5), .inl ((km 5), 48, .inl td)), ((bm 8), .inl ((km 8), 279, .inl nw_c)), ((bm 11), .inl ((km 11), 98, .inl as__c))] H → va_D A [((bm 0), .inr (10, [.int th, .ref (bm 1), .int tn, .int at_, .int wr, .ref (bm 2), .ref (bm 3), .int rm_, .ref (bm 4), .ref (bm 5), .int mn, .ref (bm 6), .ref (bm 7), .int sn, .ref (bm 8), .ref (bm 9), .ref (bm 10), .int ac, .long dn, .ref (bm 11), .ref (bm 12), .ref (bm 13), .ref (bm 14), .int hi])), ((bm 4), .inl ((km 4), 8, .inl ru)), ((bm 5), .inl ((km 5), 48, .inl td)), ((bm 8), .inl ((km 8), 279, .inl nw_c)), ((bm 11), .inl ((km 11), 98, .inl as__c))] → va_S A s.heap H locs → lv_has ls 7 [(5, .int x5_35), (4, .int x4_35), (3, .int x3_35), (2, .int x2_35), (0, .ref (bm 0)), (1, .int z1)] → W p l e (headSpec (.code yX10_place cX10_place 7 (some .int) :: wA) ({ frames := 10, cells := 0, slots := 0, locals := 223 })).room s m #[.ref (bm 0), .int z1] below meth c H locs 0 0 (MQ below (va_Qi (fun (r : Int32) (_ : Unit) => r = o.1 ∧ True) (fun (_ : Unit) t => q_B (dC, dI) A [((bm 0), .inr (10, [.int th, .ref (bm 1), .int tn, .int at_, .int wr, .ref (bm 2), .ref (bm 3), .int rm_, .ref (bm 4), .ref (bm 5), .int mn, .ref (bm 6), .ref (bm 7), .int sn, .ref (bm 8), .ref (bm 9), .ref (bm 10), .int ac, .long dn, .ref (bm 11), .ref (bm 12), .ref (bm 13), .ref (bm 14), .int hi])), ((bm 4), .inl ((km 4), 8, .inl ru)), ((bm 5), .inl ((km 5), 48, .inl td)), ((bm 8), .inl ((km 8), 279, .inl (o.2.1))), ((bm 11), .inl ((km 11), 98, .inl (o.2.2)))] [((km 4), .int), ((km 5), .int), ((km 8), .int), ((km 11), .int)] t) A) #[.ref (bm 0), .int z1] s 0 0 A) (F0 m 35 ls []) := by
              intro n_35
              induction n_35 with
              | zero =>
                intro x2_35 x3_35 x4_35 x5_35 nw_c as__c H locs ls hG
                exact q_no hG
              | succ n_35 ih_35 =>
                intro x2_35 x3_35 x4_35 x5_35 nw_c as__c H locs ls hG hP hD hS hl
                unfold FL_X10_place_35 at hG
                refine lv_aload_n hx hb dX10_place_35 rfl (lv_at hl 4 rfl) ?_
                refine lv_iload hx hb dX10_place_36 (lv_at hl 1 rfl) ?_
                obtain ⟨o_8, r_9, hG⟩ := q_bi hG
                refine q_goi (v := o_8) (va_runV (As := [.int x4_35]) (rest := []) ⟨hx, hb, hml, hown, hts⟩ (c_X10_isHub l dC dI bm km th tn at_ wr rm_ mn sn ac hi dn td x4_35 o_8 r_9) (cwV 1 hts (q_gV m_540 m_541 m_542 m_5 m_543) rfl rfl rfl hdV_yX10_isHub_1 ⟨Nat.le_of_ble_eq_true rfl, Nat.le_of_ble_eq_true rfl⟩) (q_preV hK hP (q := (RX10, TX10, 24)) (ci := 10) (q0 := 0) rfl rfl [0, 2] rfl [1] rfl) rfl rfl hl.1 rfl (lv_room (Nat.le_of_ble_eq_true rfl)) dX10_place_38 ⟨Nat.le_of_ble_eq_true rfl, Nat.le_of_ble_eq_true rfl⟩) hP hS (fun H locs hP hS => ?_)
                refine lv_if_eq (tgt := 118) hx hb dX10_place_41 (by decide) (fun c_10 => ?_) (fun c_10 => ?_)
                · have hG := q_ifp c_10 hG
                  refine lv_iinc (v := (x4_35 + 1)) (lv' := [(4, .int (x4_35 + 1)), (5, .int x5_35), (3, .int x3_35), (2, .int x2_35), (0, .ref (bm 0)), (1, .int z1)]) hx hb dX10_place_118 hl (k := 1) rfl (rfl) (by decide) rfl (fun ls hl => ?_)
                  refine lv_goto (tgt := 25) hx hb dX10_place_121 (by decide) ?_
                  exact ih_25 x2_35 x3_35 (x4_35 + 1) nw_c as__c H locs ls hG hP hD hS (lv_sub hl [0, 2, 3, 4, 5] rfl)
                · have hG := q_ifn c_10 hG
                  refine lv_iload hx hb dX10_place_44 (lv_at hl 0 rfl) ?_
                  refine lv_aload_n hx hb dX10_place_46 rfl (lv_at hl 4 rfl) ?_
                  refine lv_iload hx hb dX10_place_47 (lv_at hl 1 rfl) ?_
                  obtain ⟨o_11, r_12, hG⟩ := q_bi hG
                  refine q_goi (v := o_11) (va_runV (As := [.int x4_35]) (rest := [.int x5_35]) ⟨hx, hb, hml, hown, hts⟩ (c_X10_portsOf l dC dI bm km th tn at_ wr rm_ mn sn ac hi dn ru td x4_35 o_11 r_12) (cwV 1 hts (q_gV m_544 m_545 m_546 m_5 m_547) rfl rfl rfl hdV_yX10_portsOf_1 ⟨Nat.le_of_ble_eq_true rfl, Nat.le_of_ble_eq_true rfl⟩) (q_preV hK hP (q := (RX10, TX10, 24)) (ci := 10) (q0 := 0) rfl rfl [0, 1, 2] rfl [0, 1] rfl) rfl rfl hl.1 rfl (lv_room (Nat.le_of_ble_eq_true rfl)) dX10_place_49 ⟨Nat.le_of_ble_eq_true rfl, Nat.le_of_ble_eq_true rfl⟩) hP hS (fun H locs hP hS => ?_)
                  refine lv_icmp_ge (tgt := 118) hx hb dX10_place_52 (by decide) (fun c_13 => ?_) (fun c_13 => ?_)
                  · have hG := q_ifp c_13 hG
                    refine lv_iinc (v := (x4_35 + 1)) (lv' := [(4, .int (x4_35 + 1)), (5, .int x5_35), (3, .int x3_35), (2, .int x2_35), (0, .ref (bm 0)), (1, .int z1)]) hx hb dX10_place_118 hl (k := 1) rfl (rfl) (by decide) rfl (fun ls hl => ?_)
                    refine lv_goto (tgt := 25) hx hb dX10_place_121 (by decide) ?_
                    exact ih_25 x2_35 x3_35 (x4_35 + 1) nw_c as__c H locs ls hG hP hD hS (lv_sub hl [0, 2, 3, 4, 5] rfl)
                  · have hG := q_ifn c_13 hG
                    refine lv_aload_n hx hb dX10_place_55 rfl (lv_at hl 4 rfl) ?_
                    refine lv_iload_n hx hb dX10_place_56 rfl (lv_at hl 5 rfl) ?_
                    refine lv_iload hx hb dX10_place_57 (lv_at hl 1 rfl) ?_
                    refine lv_iload hx hb dX10_place_59 (lv_at hl 0 rfl) ?_
                    obtain ⟨o_14, r_15, hG⟩ := q_bi hG
                    refine q_goi (v := o_14) (va_runV (As := [.int z1, .int x4_35, .int x5_35]) (rest := []) ⟨hx, hb, hml, hown, hts⟩ (c_X10_whyPlug l dC dI bm km th tn at_ wr rm_ mn sn ac hi dn ru td nw_c z1 x4_35 x5_35 o_14 r_15) (cwV 3 hts (q_gV m_905 m_906 m_907 m_5 m_908) rfl rfl rfl hdV_yX10_whyPlug_3 ⟨Nat.le_of_ble_eq_true rfl, Nat.le_of_ble_eq_true rfl⟩) (q_preV hK hP (q := (RX10, TX10, 24)) (ci := 10) (q0 := 0) rfl rfl [0, 1, 2, 3] rfl [0, 1, 2] rfl) rfl rfl hl.1 rfl (lv_room (Nat.le_of_ble_eq_true rfl)) dX10_place_61 ⟨Nat.le_of_ble_eq_true rfl, Nat.le_of_ble_eq_true rfl⟩) hP hS (fun H locs hP hS => ?_)
                    refine lv_iconst (v := (-1)) hx hb dX10_place_64 (by decide) ?_
                    refine lv_icmp_ne (tgt := 80) hx hb dX10_place_65 (by decide) (fun c_16 => ?_) (fun c_16 => ?_)
                    · have hG := q_ifn c_16 hG
                      refine lv_iconst (v := (-1)) hx hb dX10_place_80 (by decide) ?_
                      refine lv_istore (lv' := [(6, .int (-1)), (5, .int x5_35), (4, .int x4_35), (3, .int x3_35), (2, .int x2_35), (0, .ref (bm 0)), (1, .int z1)]) hx hb dX10_place_81 hl (by decide) rfl (fun ls hl => ?_)
                      refine lv_iload hx hb dX10_place_83 (lv_at hl 0 rfl) ?_
                      refine lv_iconst (v := (-1)) hx hb dX10_place_85 (by decide) ?_
                      refine lv_icmp_eq (tgt := 112) hx hb dX10_place_86 (by decide) (fun c_17 => ?_) (fun c_17 => ?_)
                      rotate_left
                      · exact absurd (by decide) c_17
                      refine lv_iinc (v := (x5_35 + 1)) (lv' := [(5, .int (x5_35 + 1)), (6, .int (-1)), (4, .int x4_35), (3, .int x3_35), (2, .int x2_35), (0, .ref (bm 0)), (1, .int z1)]) hx hb dX10_place_112 hl (k := 1) rfl (rfl) (by decide) rfl (fun ls hl => ?_)
                      refine lv_goto (tgt := 35) hx hb dX10_place_115 (by decide) ?_
                      exact ih_35 x2_35 x3_35 x4_35 (x5_35 + 1) nw_c as__c H locs ls hG hP hD hS (lv_sub hl [0, 2, 3, 4, 5, 6] rfl)
                    · have hG := q_ifp c_16 hG
                      refine lv_aload_n hx hb dX10_place_68 rfl (lv_at hl 4 rfl) ?_
                      refine lv_iload_n hx hb dX10_place_69 rfl (lv_at hl 5 rfl) ?_
                      refine lv_iload hx hb dX10_place_70 (lv_at hl 1 rfl) ?_
                      refine lv_iload hx hb dX10_place_72 (lv_at hl 0 rfl) ?_
                      obtain ⟨o_18, r_19, hG⟩ := q_bi hG
                      refine q_goi2 (v := o_18.1) (wr := []) (va_runV (As := [.int z1, .int x4_35, .int x5_35]) (rest := []) ⟨hx, hb, hml, hown, hts⟩ (c_X10_whenAt l dC dI bm km th tn at_ wr rm_ mn sn ac hi dn ru td nw_c as__c z1 x4_35 x5_35 (va_A [((bm 0), .inr (10, [.int th, .ref (bm 1), .int tn, .int at_, .int wr, .ref (bm 2), .ref (bm 3), .int rm_, .ref (bm 4), .ref (bm 5), .int mn, .ref (bm 6), .ref (bm 7), .int sn, .ref (bm 8), .ref (bm 9), .ref (bm 10), .int ac, .long dn, .ref (bm 11), .ref (bm 12), .ref (bm 13), .ref (bm 14), .int hi])), ((bm 4), .inl ((km 4), 8, .inl ru)), ((bm 5), .inl ((km 5), 48, .inl td)), ((bm 8), .inl ((km 8), 279, .inl nw_c)), ((bm 11), .inl ((km 11), 98, .inl as__c))] H.size) o_18 r_19) (cwV 3 hts (q_gV m_1250 m_1251 m_1252 m_5 m_1253) rfl rfl rfl hdV_yX10_whenAt_3 ⟨Nat.le_of_ble_eq_true rfl, Nat.le_of_ble_eq_true rfl⟩) (q_preWV hK hP hD (q := (RX10, TX10, 24)) (ci := 10) (q0 := 0) rfl rfl [0, 1, 2, 3, 4] (by decide) rfl rfl [0, 1, 2, 3] rfl) rfl rfl hl.1 rfl (lv_room (Nat.le_of_ble_eq_true rfl)) dX10_place_74 ⟨Nat.le_of_ble_eq_true rfl, Nat.le_of_ble_eq_true rfl⟩) hK hP hD hS hA [0, 1, 2, 3, 4] [] rfl rfl (by decide) (by decide) (fun _ H locs _ hP hD hK9 hS => ?_)
                      have hP : va_P (dC, dI) vwCl [((bm 0), .inr (10, [.int th, .ref (bm 1), .int tn, .int at_, .int wr, .ref (bm 2), .ref (bm 3), .int rm_, .ref (bm 4), .ref (bm 5), .int mn, .ref (bm 6), .ref (bm 7), .int sn, .ref (bm 8), .ref (bm 9), .ref (bm 10), .int ac, .long dn, .ref (bm 11), .ref (bm 12), .ref (bm 13), .ref (bm 14), .int hi])), ((bm 4), .inl ((km 4), 8, .inl ru)), ((bm 5), .inl ((km 5), 48, .inl td)), ((bm 8), .inl ((km 8), 279, .inl (o_18.2.1))), ((bm 11), .inl ((km 11), 98, .inl (o_18.2.2)))] H := hP.sub [0, 1, 2, 3, 4] rfl
                      have hD : va_D A [((bm 0), .inr (10, [.int th, .ref (bm 1), .int tn, .int at_, .int wr, .ref (bm 2), .ref (bm 3), .int rm_, .ref (bm 4), .ref (bm 5), .int mn, .ref (bm 6), .ref (bm 7), .int sn, .ref (bm 8), .ref (bm 9), .ref (bm 10), .int ac, .long dn, .ref (bm 11), .ref (bm 12), .ref (bm 13), .ref (bm 14), .int hi])), ((bm 4), .inl ((km 4), 8, .inl ru)), ((bm 5), .inl ((km 5), 48, .inl td)), ((bm 8), .inl ((km 8), 279, .inl (o_18.2.1))), ((bm 11), .inl ((km 11), 98, .inl (o_18.2.2)))] := hD.sub [0, 1, 2, 3, 4] (by decide) rfl
                      refine lv_goto (tgt := 81) hx hb dX10_place_77 (by decide) ?_
                      refine lv_istore (lv' := [(6, .int o_18.1), (5, .int x5_35), (4, .int x4_35), (3, .int x3_35), (2, .int x2_35), (0, .ref (bm 0)), (1, .int z1)]) hx hb dX10_place_81 hl (by decide) rfl (fun ls hl => ?_)
                      refine lv_iload hx hb dX10_place_83 (lv_at hl 0 rfl) ?_
                      refine lv_iconst (v := (-1)) hx hb dX10_place_85 (by decide) ?_
                      refine lv_icmp_eq (tgt := 112) hx hb dX10_place_86 (by decide) (fun c_20 => ?_) (fun c_20 => ?_)
                      · have hG := q_ifp c_20 hG
                        refine lv_iinc (v := (x5_35 + 1)) (lv' := [(5, .int (x5_35 + 1)), (6, .int o_18.1), (4, .int x4_35), (3, .int x3_35), (2, .int x2_35), (0, .ref (bm 0)), (1, .int z1)]) hx hb dX10_place_112 hl (k := 1) rfl (rfl) (by decide) rfl (fun ls hl => ?_)
                        refine lv_goto (tgt := 35) hx hb dX10_place_115 (by decide) ?_
                        exact ih_35 x2_35 x3_35 x4_35 (x5_35 + 1) (o_18.2.1) (o_18.2.2) H locs ls hG hP hD hS (lv_sub hl [0, 2, 3, 4, 5, 6] rfl)
                      · have hG := q_ifn c_20 hG
                        refine lv_iload_n hx hb dX10_place_89 rfl (lv_at hl 4 rfl) ?_
                        refine lv_iconst (v := (-1)) hx hb dX10_place_90 (by decide) ?_
                        refine lv_icmp_eq (tgt := 100) hx hb dX10_place_91 (by decide) (fun c_21 => ?_) (fun c_21 => ?_)
                        · have hG := q_ifp c_21 hG
                          refine lv_bipush (v := 10) hx hb dX10_place_100 (by decide) ?_
                          refine lv_iload hx hb dX10_place_102 (lv_at hl 2 rfl) ?_
                          refine lv_imul hx hb dX10_place_104 ?_
                          refine lv_iload hx hb dX10_place_105 (lv_at hl 1 rfl) ?_
                          refine lv_iadd hx hb dX10_place_107 ?_
                          refine lv_istore_n (lv' := [(2, .int ((10 * x4_35) + x5_35)), (6, .int o_18.1), (5, .int x5_35), (4, .int x4_35), (3, .int x3_35), (0, .ref (bm 0)), (1, .int z1)]) hx hb dX10_place_108 rfl hl (by decide) rfl (fun ls hl => ?_)
                          refine lv_iload hx hb dX10_place_109 (lv_at hl 1 rfl) ?_
                          refine lv_istore_n (lv' := [(3, .int o_18.1), (2, .int ((10 * x4_35) + x5_35)), (6, .int o_18.1), (5, .int x5_35), (4, .int x4_35), (0, .ref (bm 0)), (1, .int z1)]) hx hb dX10_place_111 rfl hl (by decide) rfl (fun ls hl => ?_)
                          refine lv_iinc (v := (x5_35 + 1)) (lv' := [(5, .int (x5_35 + 1)), (3, .int o_18.1), (2, .int ((10 * x4_35) + x5_35)), (6, .int o_18.1), (4, .int x4_35), (0, .ref (bm 0)), (1, .int z1)]) hx hb dX10_place_112 hl (k := 3) rfl (rfl) (by decide) rfl (fun ls hl => ?_)
                          refine lv_goto (tgt := 35) hx hb dX10_place_115 (by decide) ?_
                          exact ih_35 ((10 * x4_35) + x5_35) o_18.1 x4_35 (x5_35 + 1) (o_18.2.1) (o_18.2.2) H locs ls hG hP hD hS (lv_sub hl [0, 4, 1, 2, 5, 6] rfl)
                        · have hG := q_ifn c_21 hG
                          refine lv_iload hx hb dX10_place_94 (lv_at hl 0 rfl) ?_
                          refine lv_iload_n hx hb dX10_place_96 rfl (lv_at hl 3 rfl) ?_
                          refine lv_icmp_ge (tgt := 112) hx hb dX10_place_97 (by decide) (fun c_22 => ?_) (fun c_22 => ?_)
                          · have hG := q_ifp c_22 hG
                            refine lv_iinc (v := (x5_35 + 1)) (lv' := [(5, .int (x5_35 + 1)), (6, .int o_18.1), (4, .int x4_35), (3, .int x3_35), (2, .int x2_35), (0, .ref (bm 0)), (1, .int z1)]) hx hb dX10_place_112 hl (k := 1) rfl (rfl) (by decide) rfl (fun ls hl => ?_)
                            refine lv_goto (tgt := 35) hx hb dX10_place_115 (by decide) ?_
                            exact ih_35 x2_35 x3_35 x4_35 (x5_35 + 1) (o_18.2.1) (o_18.2.2) H locs ls hG hP hD hS (lv_sub hl [0, 2, 3, 4, 5, 6] rfl)
                          · have hG := q_ifn c_22 hG
                            refine lv_bipush (v := 10) hx hb dX10_place_100 (by decide) ?_
                            refine lv_iload hx hb dX10_place_102 (lv_at hl 2 rfl) ?_
                            refine lv_imul hx hb dX10_place_104 ?_
                            refine lv_iload hx hb dX10_place_105 (lv_at hl 1 rfl) ?_
                            refine lv_iadd hx hb dX10_place_107 ?_
                            refine lv_istore_n (lv' := [(2, .int ((10 * x4_35) + x5_35)), (6, .int o_18.1), (5, .int x5_35), (4, .int x4_35), (3, .int x3_35), (0, .ref (bm 0)), (1, .int z1)]) hx hb dX10_place_108 rfl hl (by decide) rfl (fun ls hl => ?_)
                            refine lv_iload hx hb dX10_place_109 (lv_at hl 1 rfl) ?_
                            refine lv_istore_n (lv' := [(3, .int o_18.1), (2, .int ((10 * x4_35) + x5_35)), (6, .int o_18.1), (5, .int x5_35), (4, .int x4_35), (0, .ref (bm 0)), (1, .int z1)]) hx hb dX10_place_111 rfl hl (by decide) rfl (fun ls hl => ?_)
                            refine lv_iinc (v := (x5_35 + 1)) (lv' := [(5, .int (x5_35 + 1)), (3, .int o_18.1), (2, .int ((10 * x4_35) + x5_35)), (6, .int o_18.1), (4, .int x4_35), (0, .ref (bm 0)), (1, .int z1)]) hx hb dX10_place_112 hl (k := 3) rfl (rfl) (by decide) rfl (fun ls hl => ?_)
                            refine lv_goto (tgt := 35) hx hb dX10_place_115 (by decide) ?_
                            exact ih_35 ((10 * x4_35) + x5_35) o_18.1 x4_35 (x5_35 + 1) (o_18.2.1) (o_18.2.2) H locs ls hG hP hD hS (lv_sub hl [0, 4, 1, 2, 5, 6] rfl)
            exact L_35 1000 x2_25 x3_25 x4_25 0 nw_c as__c H locs ls hG hP hD hS hl
      exact L_25 1000 (-1) 0 0 nw as_ H locs ls hG hP hD hS hl
    · have hG := q_ifn c_6 hG
      refine lv_iconst (v := (-1)) hx hb dX10_place_16 (by decide) ?_
      obtain rfl := Option.some.inj hG
      have hP9 := hP.sub (ws' := [((bm 0), .inr (10, [.int th, .ref (bm 1), .int tn, .int at_, .int wr, .ref (bm 2), .ref (bm 3), .int rm_, .ref (bm 4), .ref (bm 5), .int mn, .ref (bm 6), .ref (bm 7), .int sn, .ref (bm 8), .ref (bm 9), .ref (bm 10), .int ac, .long dn, .ref (bm 11), .ref (bm 12), .ref (bm 13), .ref (bm 14), .int hi])), ((bm 4), .inl ((km 4), 8, .inl ru)), ((bm 5), .inl ((km 5), 48, .inl td)), ((bm 8), .inl ((km 8), 279, .inl nw)), ((bm 11), .inl ((km 11), 98, .inl as_))]) [0, 1, 2, 3, 4] rfl
      have hD9 := hD.sub (ws' := [((bm 0), .inr (10, [.int th, .ref (bm 1), .int tn, .int at_, .int wr, .ref (bm 2), .ref (bm 3), .int rm_, .ref (bm 4), .ref (bm 5), .int mn, .ref (bm 6), .ref (bm 7), .int sn, .ref (bm 8), .ref (bm 9), .ref (bm 10), .int ac, .long dn, .ref (bm 11), .ref (bm 12), .ref (bm 13), .ref (bm 14), .int hi])), ((bm 4), .inl ((km 4), 8, .inl ru)), ((bm 5), .inl ((km 5), 48, .inl td)), ((bm 8), .inl ((km 8), 279, .inl nw)), ((bm 11), .inl ((km 11), 98, .inl as_))]) [0, 1, 2, 3, 4] (by decide) rfl
      have hK9 := hK.sub (tys' := [((km 4), .int), ((km 5), .int), ((km 8), .int), ((km 11), .int)]) [0, 1, 2, 3] rfl
      exact W.iret (v := (-1)) hx hb hr (fun t ht hW => ⟨⟨(-1), (), rfl, ⟨rfl, trivial⟩, by rw [ht]; exact hP9, va_K.moved hW.alike hK9, hD9⟩, hS.F ht⟩) hS.2.2 dX10_place_17

def FL_X10_order_65 (mn : Int32) (ru : Nat → Int32) (td : Nat → Int32) (nw : Nat → Int32) (as_ : Nat → Int32) (od : Nat → Int32) (z1 : Int32) (kk_25 : Int32 → Int32 → Int32 → (Nat → Int32) → (Nat → Int32) → (Nat → Int32) → Option (Int32 × (Nat → Int32) × (Nat → Int32) × (Nat → Int32))) : Nat → Int32 → Int32 → Int32 → Int32 → Int32 → (Nat → Int32) → (Nat → Int32) → (Nat → Int32) → Option (Int32 × (Nat → Int32) × (Nat → Int32) × (Nat → Int32))
  | 0, _, _, _, _, _, _, _, _ => none
  | n + 1, x2_65, x3_65, x4_65, x5_65, x6_65, nw_c, as__c, od_c => (if mn ≤ x6_65 then (kk_25 (x2_65 ||| x5_65) x3_65 (x4_65 + 1) nw_c as__c od_c) else ((F_X10_has x5_65 x6_65).bind fun o_27 => (if o_27 = 0 then (FL_X10_order_65 mn ru td nw as_ od z1 kk_25 n x2_65 x3_65 x4_65 x5_65 (x6_65 + 1) nw_c as__c od_c) else (if x3_65 < 0 ∨ 8 ≤ (x3_65).toNatClampNeg then none else (FL_X10_order_65 mn ru td nw as_ od z1 kk_25 n x2_65 (x3_65 + 1) x4_65 x5_65 (x6_65 + 1) nw_c as__c (upd od_c (x3_65).toNatClampNeg x6_65))))))

def FL_X10_order_25 (mn : Int32) (ru : Nat → Int32) (td : Nat → Int32) (nw : Nat → Int32) (as_ : Nat → Int32) (od : Nat → Int32) (z1 : Int32) : Nat → Int32 → Int32 → Int32 → (Nat → Int32) → (Nat → Int32) → (Nat → Int32) → Option (Int32 × (Nat → Int32) × (Nat → Int32) × (Nat → Int32))
  | 0, _, _, _, _, _, _ => none
  | n + 1, x2_25, x3_25, x4_25, nw_c, as__c, od_c => (if 200 ≤ x4_25 then ((F_X10_bringBack nw_c as__c).bind fun o_9 => ((F_X10_in z1 0 (x3_25 - 1)).bind fun o_11 => (if o_11 = 0 then some ((-1), (o_9), as__c, od_c) else (if z1 < 0 ∨ 8 ≤ (z1).toNatClampNeg then none else some ((od_c (z1).toNatClampNeg), (o_9), as__c, od_c))))) else (if 9999 ≤ (nw_c 96) then ((F_X10_bringBack nw_c as__c).bind fun o_16 => ((F_X10_in z1 0 (x3_25 - 1)).bind fun o_18 => (if o_18 = 0 then some ((-1), (o_16), as__c, od_c) else (if z1 < 0 ∨ 8 ≤ (z1).toNatClampNeg then none else some ((od_c (z1).toNatClampNeg), (o_16), as__c, od_c))))) else ((F_X10_tickNow mn ru td nw_c).bind fun o_22 => ((F_X10_those mn (o_22) 6).bind fun o_24 => (FL_X10_order_65 mn ru td nw as_ od z1 (fun y0 y1 y2 y3 y4 y5 => FL_X10_order_25 mn ru td nw as_ od z1 n y0 y1 y2 y3 y4 y5) 1000 x2_25 x3_25 x4_25 (o_24 &&& (x2_25 ^^^ (-1))) 0 (o_22) as__c od_c)))))

def F_X10_order (mn : Int32) (ru : Nat → Int32) (td : Nat → Int32) (nw : Nat → Int32) (as_ : Nat → Int32) (od : Nat → Int32) (z1 : Int32) : Option (Int32 × (Nat → Int32) × (Nat → Int32) × (Nat → Int32)) := ((F_X10_isTree mn).bind fun o_1 => (if o_1 = 0 then some ((-1), nw, as_, od) else ((F_X10_putAside nw as_).bind fun o_4 => ((F_X10_those mn nw 6).bind fun o_6 => (FL_X10_order_25 mn ru td nw as_ od z1 1000 o_6 0 0 nw (o_4) od)))))
set_option maxHeartbeats 4000000 in
set_option maxRecDepth 100000 in
theorem c_X10_order (l : Launch) (dC : Nat → ClassId) (dI : Nat → Nat → Nat) (bm : Nat → Nat) (km : Nat → ClassId) (th : Int32) (tn : Int32) (at_ : Int32) (wr : Int32) (rm_ : Int32) (mn : Int32) (sn : Int32) (ac : Int32) (hi : Int32) (dn : Int64) (ru : Nat → Int32) (td : Nat → Int32) (nw : Nat → Int32) (as_ : Nat → Int32) (od : Nat → Int32) (z1 : Int32) (A : Nat → Prop) (o : Int32 × (Nat → Int32) × (Nat → Int32) × (Nat → Int32)) (hG : F_X10_order mn ru td nw as_ od z1 = some o) : Met l yX10_order (.code yX10_order cX10_order 7 (some .int) :: wA) ({ frames := 8, cells := 0, slots := 0, locals := 177 }) (va_Pc [.ref (bm 0), .int z1] (q_W (dC, dI) A [((bm 0), .inr (10, [.int th, .ref (bm 1), .int tn, .int at_, .int wr, .ref (bm 2), .ref (bm 3), .int rm_, .ref (bm 4), .ref (bm 5), .int mn, .ref (bm 6), .ref (bm 7), .int sn, .ref (bm 8), .ref (bm 9), .ref (bm 10), .int ac, .long dn, .ref (bm 11), .ref (bm 12), .ref (bm 13), .ref (bm 14), .int hi])), ((bm 4), .inl ((km 4), 8, .inl ru)), ((bm 5), .inl ((km 5), 48, .inl td)), ((bm 8), .inl ((km 8), 279, .inl nw)), ((bm 11), .inl ((km 11), 98, .inl as_)), ((bm 13), .inl ((km 13), 8, .inl od))] [((km 4), .int), ((km 5), .int), ((km 8), .int), ((km 11), .int), ((km 13), .int)])) (va_Qi (fun (r : Int32) (_ : Unit) => r = o.1 ∧ True) (fun (_ : Unit) t => q_B (dC, dI) A [((bm 0), .inr (10, [.int th, .ref (bm 1), .int tn, .int at_, .int wr, .ref (bm 2), .ref (bm 3), .int rm_, .ref (bm 4), .ref (bm 5), .int mn, .ref (bm 6), .ref (bm 7), .int sn, .ref (bm 8), .ref (bm 9), .ref (bm 10), .int ac, .long dn, .ref (bm 11), .ref (bm 12), .ref (bm 13), .ref (bm 14), .int hi])), ((bm 4), .inl ((km 4), 8, .inl ru)), ((bm 5), .inl ((km 5), 48, .inl td)), ((bm 8), .inl ((km 8), 279, .inl (o.2.1))), ((bm 11), .inl ((km 11), 98, .inl (o.2.2.1))), ((bm 13), .inl ((km 13), 8, .inl (o.2.2.2)))] [((km 4), .int), ((km 5), .int), ((km 8), .int), ((km 11), .int), ((km 13), .int)] t) A) 0 0 A := by
  refine Met.ofW (cc := cX10_order) (maxL := 7) (ret := (some .int)) (by decide) rfl ?_
  intro p e s m args below meth c s₁ B hml hv
  obtain ⟨rfl, hP, hK, hD, hA⟩ := hv
  have hx := B.exec
  have hb := B.bytes
  have hr := B.returns
  have hts := atoms_spec (ws := .code yX10_order cX10_order 7 (some .int) :: wA) B.pre
  have hown : s.vm.findClass RX10 = some m.cls := findClass_of_methodNamed B.named
  have hlocks := B.notSynchronized
  have hS : va_S A s.heap s.heap [] := va_S.rf
  have hl := lv_entry ([.ref (bm 0), .int z1]) (n := 7) (Nat.le_of_ble_eq_true rfl)
  rw [lg_entry_eq]
  generalize (lg_sl ([.ref (bm 0), .int z1]) ++ List.replicate (7 - (lg_sl ([.ref (bm 0), .int z1])).length) Slot.unset).toArray = ls at hl ⊢
  have hl : lv_has ls 7 [(0, .ref (bm 0)), (1, .int z1)] := hl
  unfold F_X10_order at hG
  refine lv_aload_n hx hb dX10_order_0 rfl (lv_at hl 0 rfl) ?_
  obtain ⟨o_1, r_2, hG⟩ := q_bi hG
  refine q_goi (v := o_1) (va_runV (As := []) (rest := []) ⟨hx, hb, hml, hown, hts⟩ (c_X10_isTree l dC dI bm km th tn at_ wr rm_ mn sn ac hi dn o_1 r_2) (cwV 0 hts (q_gV m_454 m_455 m_456 m_5 m_457) rfl rfl rfl hdV_yX10_isTree_0 ⟨Nat.le_of_ble_eq_true rfl, Nat.le_of_ble_eq_true rfl⟩) (q_preV hK hP (q := (RX10, TX10, 24)) (ci := 10) (q0 := 0) rfl rfl [0] rfl [] rfl) rfl rfl hl.1 rfl (lv_room (Nat.le_of_ble_eq_true rfl)) dX10_order_1 ⟨Nat.le_of_ble_eq_true rfl, Nat.le_of_ble_eq_true rfl⟩) hP hS (fun H locs hP hS => ?_)
  refine lv_if_ne (tgt := 9) hx hb dX10_order_4 (by decide) (fun c_3 => ?_) (fun c_3 => ?_)
  · have hG := q_ifn c_3 hG
    refine lv_aload_n hx hb dX10_order_9 rfl (lv_at hl 0 rfl) ?_
    obtain ⟨o_4, r_5, hG⟩ := q_bi hG
    refine q_gov2 (wr := [((bm 4), .inl ((km 4), 8, .inl ru)), ((bm 5), .inl ((km 5), 48, .inl td)), ((bm 13), .inl ((km 13), 8, .inl od))]) (va_runV (As := []) (rest := []) ⟨hx, hb, hml, hown, hts⟩ (c_X10_putAside l dC dI bm km th tn at_ wr rm_ mn sn ac hi dn nw as_ (va_A [((bm 0), .inr (10, [.int th, .ref (bm 1), .int tn, .int at_, .int wr, .ref (bm 2), .ref (bm 3), .int rm_, .ref (bm 4), .ref (bm 5), .int mn, .ref (bm 6), .ref (bm 7), .int sn, .ref (bm 8), .ref (bm 9), .ref (bm 10), .int ac, .long dn, .ref (bm 11), .ref (bm 12), .ref (bm 13), .ref (bm 14), .int hi])), ((bm 8), .inl ((km 8), 279, .inl nw)), ((bm 11), .inl ((km 11), 98, .inl as_))] H.size) o_4 r_5) (cwV 0 hts (q_gV m_1191 m_1192 m_1193 m_5 m_1194) rfl rfl rfl hdV_yX10_putAside_0 ⟨Nat.le_of_ble_eq_true rfl, Nat.le_of_ble_eq_true rfl⟩) (q_preWV hK hP hD (q := (RX10, TX10, 24)) (ci := 10) (q0 := 0) rfl rfl [0, 3, 4] (by decide) rfl rfl [2, 3] rfl) rfl rfl hl.1 rfl (lv_room (Nat.le_of_ble_eq_true rfl)) dX10_order_10 ⟨Nat.le_of_ble_eq_true rfl, Nat.le_of_ble_eq_true rfl⟩) hK hP hD hS hA [0, 3, 4] [1, 2, 5] rfl rfl (by decide) (by decide) (fun _ H locs _ hP hD hK9 hS => ?_)
    have hP : va_P (dC, dI) vwCl [((bm 0), .inr (10, [.int th, .ref (bm 1), .int tn, .int at_, .int wr, .ref (bm 2), .ref (bm 3), .int rm_, .ref (bm 4), .ref (bm 5), .int mn, .ref (bm 6), .ref (bm 7), .int sn, .ref (bm 8), .ref (bm 9), .ref (bm 10), .int ac, .long dn, .ref (bm 11), .ref (bm 12), .ref (bm 13), .ref (bm 14), .int hi])), ((bm 4), .inl ((km 4), 8, .inl ru)), ((bm 5), .inl ((km 5), 48, .inl td)), ((bm 8), .inl ((km 8), 279, .inl nw)), ((bm 11), .inl ((km 11), 98, .inl (o_4))), ((bm 13), .inl ((km 13), 8, .inl od))] H := hP.sub [3, 0, 1, 4, 5, 2] rfl
    have hD : va_D A [((bm 0), .inr (10, [.int th, .ref (bm 1), .int tn, .int at_, .int wr, .ref (bm 2), .ref (bm 3), .int rm_, .ref (bm 4), .ref (bm 5), .int mn, .ref (bm 6), .ref (bm 7), .int sn, .ref (bm 8), .ref (bm 9), .ref (bm 10), .int ac, .long dn, .ref (bm 11), .ref (bm 12), .ref (bm 13), .ref (bm 14), .int hi])), ((bm 4), .inl ((km 4), 8, .inl ru)), ((bm 5), .inl ((km 5), 48, .inl td)), ((bm 8), .inl ((km 8), 279, .inl nw)), ((bm 11), .inl ((km 11), 98, .inl (o_4))), ((bm 13), .inl ((km 13), 8, .inl od))] := hD.sub [3, 0, 1, 4, 5, 2] (by decide) rfl
    refine lv_aload_n hx hb dX10_order_13 rfl (lv_at hl 0 rfl) ?_
    refine lv_bipush (v := 6) hx hb dX10_order_14 (by decide) ?_
    obtain ⟨o_6, r_7, hG⟩ := q_bi hG
    refine q_goi (v := o_6) (va_runV (As := [.int 6]) (rest := []) ⟨hx, hb, hml, hown, hts⟩ (c_X10_those l dC dI bm km th tn at_ wr rm_ mn sn ac hi dn nw 6 o_6 r_7) (cwV 1 hts (q_gV m_1018 m_1019 m_1020 m_5 m_1021) rfl rfl rfl hdV_yX10_those_1 ⟨Nat.le_of_ble_eq_true rfl, Nat.le_of_ble_eq_true rfl⟩) (q_preV hK hP (q := (RX10, TX10, 24)) (ci := 10) (q0 := 0) rfl rfl [0, 3] rfl [2] rfl) rfl rfl hl.1 rfl (lv_room (Nat.le_of_ble_eq_true rfl)) dX10_order_16 ⟨Nat.le_of_ble_eq_true rfl, Nat.le_of_ble_eq_true rfl⟩) hP hS (fun H locs hP hS => ?_)
    refine lv_istore_n (lv' := [(2, .int o_6), (0, .ref (bm 0)), (1, .int z1)]) hx hb dX10_order_19 rfl hl (by decide) rfl (fun ls hl => ?_)
    refine lv_iconst (v := 0) hx hb dX10_order_20 (by decide) ?_
    refine lv_istore_n (lv' := [(3, .int 0), (2, .int o_6), (0, .ref (bm 0)), (1, .int z1)]) hx hb dX10_order_21 rfl hl (by decide) rfl (fun ls hl => ?_)
    refine lv_iconst (v := 0) hx hb dX10_order_22 (by decide) ?_
    refine lv_istore (lv' := [(4, .int 0), (3, .int 0), (2, .int o_6), (0, .ref (bm 0)), (1, .int z1)]) hx hb dX10_order_23 hl (by decide) rfl (fun ls hl => ?_)
    have L_25 : ∀ (n_25 : Nat) (x2_25 : Int32) (x3_25 : Int32) (x4_25 : Int32) (nw_c : Nat → Int32) (as__c : Nat → Int32) (od_c : Nat → Int32) (H : Heap) (locs : List Loc) (ls : Array Slot), FL_X10_order_25 mn ru td nw as_ od z1 n_25 x2_25 x3_25 x4_25 nw_c as__c od_c = some o → va_P (dC, dI) vwCl [((bm 0), .inr (10, [.int th, .ref (bm 1), .int tn, .int at_, .int wr, .ref (bm 2), .ref (bm 3), .int rm_, .ref (bm 4), .ref (bm 5), .int mn, .ref (bm 6), .ref (bm 7), .int sn, .ref (bm 8), .ref (bm 9), .ref (bm 10), .int ac, .long dn, .ref (bm 11), .ref (bm 12), .ref (bm 13), .ref (bm 14), .int hi])), ((bm 4), .inl ((km 4), 8, .inl ru)), ((bm 5), .inl ((km 5), 48, .inl td)), ((bm 8), .inl ((km 8), 279, .inl nw_c)), ((bm 11), .inl ((km 11), 98, .inl as__c)), ((bm 13), .inl ((km 13), 8, .inl od_c))] H → va_D A [((bm 0), .inr (10, [.int th, .ref (bm 1), .int tn, .int at_, .int wr, .ref (bm 2), .ref (bm 3), .int rm_, .ref (bm 4), .ref (bm 5), .int mn, .ref (bm 6), .ref (bm 7), .int sn, .ref (bm 8), .ref (bm 9), .ref (bm 10), .int ac, .long dn, .ref (bm 11), .ref (bm 12), .ref (bm 13), .ref (bm 14), .int hi])), ((bm 4), .inl ((km 4), 8, .inl ru)), ((bm 5), .inl ((km 5), 48, .inl td)), ((bm 8), .inl ((km 8), 279, .inl nw_c)), ((bm 11), .inl ((km 11), 98, .inl as__c)), ((bm 13), .inl ((km 13), 8, .inl od_c))] → va_S A s.heap H locs → lv_has ls 7 [(4, .int x4_25), (3, .int x3_25), (2, .int x2_25), (0, .ref (bm 0)), (1, .int z1)] → W p l e (headSpec (.code yX10_order cX10_order 7 (some .int) :: wA) ({ frames := 8, cells := 0, slots := 0, locals := 177 })).room s m #[.ref (bm 0), .int z1] below meth c H locs 0 0 (MQ below (va_Qi (fun (r : Int32) (_ : Unit) => r = o.1 ∧ True) (fun (_ : Unit) t => q_B (dC, dI) A [((bm 0), .inr (10, [.int th, .ref (bm 1), .int tn, .int at_, .int wr, .ref (bm 2), .ref (bm 3), .int rm_, .ref (bm 4), .ref (bm 5), .int mn, .ref (bm 6), .ref (bm 7), .int sn, .ref (bm 8), .ref (bm 9), .ref (bm 10), .int ac, .long dn, .ref (bm 11), .ref (bm 12), .ref (bm 13), .ref (bm 14), .int hi])), ((bm 4), .inl ((km 4), 8, .inl ru)), ((bm 5), .inl ((km 5), 48, .inl td)), ((bm 8), .inl ((km 8), 279, .inl (o.2.1))), ((bm 11), .inl ((km 11), 98, .inl (o.2.2.1))), ((bm 13), .inl ((km 13), 8, .inl (o.2.2.2)))] [((km 4), .int), ((km 5), .int), ((km 8), .int), ((km 11), .int), ((km 13), .int)] t) A) #[.ref (bm 0), .int z1] s 0 0 A) (F0 m 25 ls []) := by
      intro n_25
      induction n_25 with
      | zero =>
        intro x2_25 x3_25 x4_25 nw_c as__c od_c H locs ls hG
        exact q_no hG
      | succ n_25 ih_25 =>
        intro x2_25 x3_25 x4_25 nw_c as__c od_c H locs ls hG hP hD hS hl
        unfold FL_X10_order_25 at hG
        refine lv_iload hx hb dX10_order_25 (lv_at hl 0 rfl) ?_
        refine lv_sipush (v := 200) hx hb dX10_order_27 (by decide) ?_
        refine lv_icmp_ge (tgt := 112) hx hb dX10_order_30 (by decide) (fun c_8 => ?_) (fun c_8 => ?_)
        · have hG := q_ifp c_8 hG
          refine lv_aload_n hx hb dX10_order_112 rfl (lv_at hl 3 rfl) ?_
          obtain ⟨o_9, r_10, hG⟩ := q_bi hG
          refine q_gov2 (wr := [((bm 4), .inl ((km 4), 8, .inl ru)), ((bm 5), .inl ((km 5), 48, .inl td)), ((bm 13), .inl ((km 13), 8, .inl od_c))]) (va_runV (As := []) (rest := []) ⟨hx, hb, hml, hown, hts⟩ (c_X10_bringBack l dC dI bm km th tn at_ wr rm_ mn sn ac hi dn nw_c as__c (va_A [((bm 0), .inr (10, [.int th, .ref (bm 1), .int tn, .int at_, .int wr, .ref (bm 2), .ref (bm 3), .int rm_, .ref (bm 4), .ref (bm 5), .int mn, .ref (bm 6), .ref (bm 7), .int sn, .ref (bm 8), .ref (bm 9), .ref (bm 10), .int ac, .long dn, .ref (bm 11), .ref (bm 12), .ref (bm 13), .ref (bm 14), .int hi])), ((bm 8), .inl ((km 8), 279, .inl nw_c)), ((bm 11), .inl ((km 11), 98, .inl as__c))] H.size) o_9 r_10) (cwV 0 hts (q_gV m_1199 m_1200 m_1201 m_5 m_1202) rfl rfl rfl hdV_yX10_bringBack_0 ⟨Nat.le_of_ble_eq_true rfl, Nat.le_of_ble_eq_true rfl⟩) (q_preWV hK hP hD (q := (RX10, TX10, 24)) (ci := 10) (q0 := 0) rfl rfl [0, 3, 4] (by decide) rfl rfl [2, 3] rfl) rfl rfl hl.1 rfl (lv_room (Nat.le_of_ble_eq_true rfl)) dX10_order_113 ⟨Nat.le_of_ble_eq_true rfl, Nat.le_of_ble_eq_true rfl⟩) hK hP hD hS hA [0, 3, 4] [1, 2, 5] rfl rfl (by decide) (by decide) (fun _ H locs _ hP hD hK9 hS => ?_)
          have hP : va_P (dC, dI) vwCl [((bm 0), .inr (10, [.int th, .ref (bm 1), .int tn, .int at_, .int wr, .ref (bm 2), .ref (bm 3), .int rm_, .ref (bm 4), .ref (bm 5), .int mn, .ref (bm 6), .ref (bm 7), .int sn, .ref (bm 8), .ref (bm 9), .ref (bm 10), .int ac, .long dn, .ref (bm 11), .ref (bm 12), .ref (bm 13), .ref (bm 14), .int hi])), ((bm 4), .inl ((km 4), 8, .inl ru)), ((bm 5), .inl ((km 5), 48, .inl td)), ((bm 8), .inl ((km 8), 279, .inl (o_9))), ((bm 11), .inl ((km 11), 98, .inl as__c)), ((bm 13), .inl ((km 13), 8, .inl od_c))] H := hP.sub [3, 0, 1, 4, 5, 2] rfl
          have hD : va_D A [((bm 0), .inr (10, [.int th, .ref (bm 1), .int tn, .int at_, .int wr, .ref (bm 2), .ref (bm 3), .int rm_, .ref (bm 4), .ref (bm 5), .int mn, .ref (bm 6), .ref (bm 7), .int sn, .ref (bm 8), .ref (bm 9), .ref (bm 10), .int ac, .long dn, .ref (bm 11), .ref (bm 12), .ref (bm 13), .ref (bm 14), .int hi])), ((bm 4), .inl ((km 4), 8, .inl ru)), ((bm 5), .inl ((km 5), 48, .inl td)), ((bm 8), .inl ((km 8), 279, .inl (o_9))), ((bm 11), .inl ((km 11), 98, .inl as__c)), ((bm 13), .inl ((km 13), 8, .inl od_c))] := hD.sub [3, 0, 1, 4, 5, 2] (by decide) rfl
          refine lv_iload_n hx hb dX10_order_116 rfl (lv_at hl 4 rfl) ?_
          refine lv_iconst (v := 0) hx hb dX10_order_117 (by decide) ?_
          refine lv_iload_n hx hb dX10_order_118 rfl (lv_at hl 1 rfl) ?_
          refine lv_iconst (v := 1) hx hb dX10_order_119 (by decide) ?_
          refine lv_isub hx hb dX10_order_120 ?_
          obtain ⟨o_11, r_12, hG⟩ := q_bi hG
          refine q_goi (v := o_11) (va_runS (As := [.int z1, .int 0, .int (x3_25 - 1)]) (rest := []) ⟨hx, hb, hml, hown, hts⟩ (c_X10_in l dC dI z1 0 (x3_25 - 1) o_11 r_12) (va_cwS 3 hts (q_gS m_157 m_158 m_5 m_159) rfl rfl rfl hdS_yX10_in_3 ⟨Nat.le_of_ble_eq_true rfl, Nat.le_of_ble_eq_true rfl⟩) (q_preS hK hP [] rfl [] rfl) rfl rfl hl.1 rfl (lv_room (Nat.le_of_ble_eq_true rfl)) dX10_order_121 ⟨Nat.le_of_ble_eq_true rfl, Nat.le_of_ble_eq_true rfl⟩) hP hS (fun H locs hP hS => ?_)
          refine lv_if_eq (tgt := 136) hx hb dX10_order_124 (by decide) (fun c_13 => ?_) (fun c_13 => ?_)
          · have hG := q_ifp c_13 hG
            refine lv_iconst (v := (-1)) hx hb dX10_order_136 (by decide) ?_
            obtain rfl := Option.some.inj hG
            have hP9 := hP.sub (ws' := [((bm 0), .inr (10, [.int th, .ref (bm 1), .int tn, .int at_, .int wr, .ref (bm 2), .ref (bm 3), .int rm_, .ref (bm 4), .ref (bm 5), .int mn, .ref (bm 6), .ref (bm 7), .int sn, .ref (bm 8), .ref (bm 9), .ref (bm 10), .int ac, .long dn, .ref (bm 11), .ref (bm 12), .ref (bm 13), .ref (bm 14), .int hi])), ((bm 4), .inl ((km 4), 8, .inl ru)), ((bm 5), .inl ((km 5), 48, .inl td)), ((bm 8), .inl ((km 8), 279, .inl (o_9))), ((bm 11), .inl ((km 11), 98, .inl as__c)), ((bm 13), .inl ((km 13), 8, .inl od_c))]) [0, 1, 2, 3, 4, 5] rfl
            have hD9 := hD.sub (ws' := [((bm 0), .inr (10, [.int th, .ref (bm 1), .int tn, .int at_, .int wr, .ref (bm 2), .ref (bm 3), .int rm_, .ref (bm 4), .ref (bm 5), .int mn, .ref (bm 6), .ref (bm 7), .int sn, .ref (bm 8), .ref (bm 9), .ref (bm 10), .int ac, .long dn, .ref (bm 11), .ref (bm 12), .ref (bm 13), .ref (bm 14), .int hi])), ((bm 4), .inl ((km 4), 8, .inl ru)), ((bm 5), .inl ((km 5), 48, .inl td)), ((bm 8), .inl ((km 8), 279, .inl (o_9))), ((bm 11), .inl ((km 11), 98, .inl as__c)), ((bm 13), .inl ((km 13), 8, .inl od_c))]) [0, 1, 2, 3, 4, 5] (by decide) rfl
            have hK9 := hK.sub (tys' := [((km 4), .int), ((km 5), .int), ((km 8), .int), ((km 11), .int), ((km 13), .int)]) [0, 1, 2, 3, 4] rfl
            exact W.iret (v := (-1)) hx hb hr (fun t ht hW => ⟨⟨(-1), (), rfl, ⟨rfl, trivial⟩, by rw [ht]; exact hP9, va_K.moved hW.alike hK9, hD9⟩, hS.F ht⟩) hS.2.2 dX10_order_137
          · have hG := q_ifn c_13 hG
            refine lv_aload_n hx hb dX10_order_127 rfl (lv_at hl 3 rfl) ?_
            refine va_get (D := (dC, dI)) (ci := 10) (v := .ref (bm 13)) (C := RX10) (T := TX10) (N := 24) hx hb hts iA_10 hown hK hP 0 rfl rfl 21 (by decide) (hts (.fieldLink RX10 46 "HubTreeModel" "orderRow" "[I") (List.mem_cons_of_mem _ m_127)) (fun _ h9 => h9) rfl dX10_order_128 ?_
            refine lv_iload_n hx hb dX10_order_131 rfl (lv_at hl 4 rfl) ?_
            obtain ⟨h_14, hG⟩ := q_ix hG
            refine va_iald hx hb hK hP 5 4 rfl rfl (i := z1) h_14 dX10_order_132 ?_
            refine q_top (y := (od_c (z1).toNatClampNeg)) rfl ?_
            refine lv_goto (tgt := 137) hx hb dX10_order_133 (by decide) ?_
            obtain rfl := Option.some.inj hG
            have hP9 := hP.sub (ws' := [((bm 0), .inr (10, [.int th, .ref (bm 1), .int tn, .int at_, .int wr, .ref (bm 2), .ref (bm 3), .int rm_, .ref (bm 4), .ref (bm 5), .int mn, .ref (bm 6), .ref (bm 7), .int sn, .ref (bm 8), .ref (bm 9), .ref (bm 10), .int ac, .long dn, .ref (bm 11), .ref (bm 12), .ref (bm 13), .ref (bm 14), .int hi])), ((bm 4), .inl ((km 4), 8, .inl ru)), ((bm 5), .inl ((km 5), 48, .inl td)), ((bm 8), .inl ((km 8), 279, .inl (o_9))), ((bm 11), .inl ((km 11), 98, .inl as__c)), ((bm 13), .inl ((km 13), 8, .inl od_c))]) [0, 1, 2, 3, 4, 5] rfl
            have hD9 := hD.sub (ws' := [((bm 0), .inr (10, [.int th, .ref (bm 1), .int tn, .int at_, .int wr, .ref (bm 2), .ref (bm 3), .int rm_, .ref (bm 4), .ref (bm 5), .int mn, .ref (bm 6), .ref (bm 7), .int sn, .ref (bm 8), .ref (bm 9), .ref (bm 10), .int ac, .long dn, .ref (bm 11), .ref (bm 12), .ref (bm 13), .ref (bm 14), .int hi])), ((bm 4), .inl ((km 4), 8, .inl ru)), ((bm 5), .inl ((km 5), 48, .inl td)), ((bm 8), .inl ((km 8), 279, .inl (o_9))), ((bm 11), .inl ((km 11), 98, .inl as__c)), ((bm 13), .inl ((km 13), 8, .inl od_c))]) [0, 1, 2, 3, 4, 5] (by decide) rfl
            have hK9 := hK.sub (tys' := [((km 4), .int), ((km 5), .int), ((km 8), .int), ((km 11), .int), ((km 13), .int)]) [0, 1, 2, 3, 4] rfl
            exact W.iret (v := (od_c (z1).toNatClampNeg)) hx hb hr (fun t ht hW => ⟨⟨(od_c (z1).toNatClampNeg), (), rfl, ⟨rfl, trivial⟩, by rw [ht]; exact hP9, va_K.moved hW.alike hK9, hD9⟩, hS.F ht⟩) hS.2.2 dX10_order_137
        · have hG := q_ifn c_8 hG
          refine lv_aload_n hx hb dX10_order_33 rfl (lv_at hl 3 rfl) ?_
          refine va_get (D := (dC, dI)) (ci := 10) (v := .ref (bm 8)) (C := RX10) (T := TX10) (N := 24) hx hb hts iA_10 hown hK hP 0 rfl rfl 14 (by decide) (hts (.fieldLink RX10 31 "HubTreeModel" "now" "[I") (List.mem_cons_of_mem _ m_122)) (fun _ h9 => h9) rfl dX10_order_34 ?_
          refine lv_bipush (v := 96) hx hb dX10_order_37 (by decide) ?_
          refine va_iald hx hb hK hP 3 2 rfl rfl (i := 96) (vp_in_iff.mpr (by decide)) dX10_order_39 ?_
          refine q_top (y := (nw_c 96)) rfl ?_
          refine lv_sipush (v := 9999) hx hb dX10_order_40 (by decide) ?_
          refine lv_icmp_ge (tgt := 112) hx hb dX10_order_43 (by decide) (fun c_15 => ?_) (fun c_15 => ?_)
          · have hG := q_ifp c_15 hG
            refine lv_aload_n hx hb dX10_order_112 rfl (lv_at hl 3 rfl) ?_
            obtain ⟨o_16, r_17, hG⟩ := q_bi hG
            refine q_gov2 (wr := [((bm 4), .inl ((km 4), 8, .inl ru)), ((bm 5), .inl ((km 5), 48, .inl td)), ((bm 13), .inl ((km 13), 8, .inl od_c))]) (va_runV (As := []) (rest := []) ⟨hx, hb, hml, hown, hts⟩ (c_X10_bringBack l dC dI bm km th tn at_ wr rm_ mn sn ac hi dn nw_c as__c (va_A [((bm 0), .inr (10, [.int th, .ref (bm 1), .int tn, .int at_, .int wr, .ref (bm 2), .ref (bm 3), .int rm_, .ref (bm 4), .ref (bm 5), .int mn, .ref (bm 6), .ref (bm 7), .int sn, .ref (bm 8), .ref (bm 9), .ref (bm 10), .int ac, .long dn, .ref (bm 11), .ref (bm 12), .ref (bm 13), .ref (bm 14), .int hi])), ((bm 8), .inl ((km 8), 279, .inl nw_c)), ((bm 11), .inl ((km 11), 98, .inl as__c))] H.size) o_16 r_17) (cwV 0 hts (q_gV m_1199 m_1200 m_1201 m_5 m_1202) rfl rfl rfl hdV_yX10_bringBack_0 ⟨Nat.le_of_ble_eq_true rfl, Nat.le_of_ble_eq_true rfl⟩) (q_preWV hK hP hD (q := (RX10, TX10, 24)) (ci := 10) (q0 := 0) rfl rfl [0, 3, 4] (by decide) rfl rfl [2, 3] rfl) rfl rfl hl.1 rfl (lv_room (Nat.le_of_ble_eq_true rfl)) dX10_order_113 ⟨Nat.le_of_ble_eq_true rfl, Nat.le_of_ble_eq_true rfl⟩) hK hP hD hS hA [0, 3, 4] [1, 2, 5] rfl rfl (by decide) (by decide) (fun _ H locs _ hP hD hK9 hS => ?_)
            have hP : va_P (dC, dI) vwCl [((bm 0), .inr (10, [.int th, .ref (bm 1), .int tn, .int at_, .int wr, .ref (bm 2), .ref (bm 3), .int rm_, .ref (bm 4), .ref (bm 5), .int mn, .ref (bm 6), .ref (bm 7), .int sn, .ref (bm 8), .ref (bm 9), .ref (bm 10), .int ac, .long dn, .ref (bm 11), .ref (bm 12), .ref (bm 13), .ref (bm 14), .int hi])), ((bm 4), .inl ((km 4), 8, .inl ru)), ((bm 5), .inl ((km 5), 48, .inl td)), ((bm 8), .inl ((km 8), 279, .inl (o_16))), ((bm 11), .inl ((km 11), 98, .inl as__c)), ((bm 13), .inl ((km 13), 8, .inl od_c))] H := hP.sub [3, 0, 1, 4, 5, 2] rfl
            have hD : va_D A [((bm 0), .inr (10, [.int th, .ref (bm 1), .int tn, .int at_, .int wr, .ref (bm 2), .ref (bm 3), .int rm_, .ref (bm 4), .ref (bm 5), .int mn, .ref (bm 6), .ref (bm 7), .int sn, .ref (bm 8), .ref (bm 9), .ref (bm 10), .int ac, .long dn, .ref (bm 11), .ref (bm 12), .ref (bm 13), .ref (bm 14), .int hi])), ((bm 4), .inl ((km 4), 8, .inl ru)), ((bm 5), .inl ((km 5), 48, .inl td)), ((bm 8), .inl ((km 8), 279, .inl (o_16))), ((bm 11), .inl ((km 11), 98, .inl as__c)), ((bm 13), .inl ((km 13), 8, .inl od_c))] := hD.sub [3, 0, 1, 4, 5, 2] (by decide) rfl
            refine lv_iload_n hx hb dX10_order_116 rfl (lv_at hl 4 rfl) ?_
            refine lv_iconst (v := 0) hx hb dX10_order_117 (by decide) ?_
            refine lv_iload_n hx hb dX10_order_118 rfl (lv_at hl 1 rfl) ?_
            refine lv_iconst (v := 1) hx hb dX10_order_119 (by decide) ?_
            refine lv_isub hx hb dX10_order_120 ?_
            obtain ⟨o_18, r_19, hG⟩ := q_bi hG
            refine q_goi (v := o_18) (va_runS (As := [.int z1, .int 0, .int (x3_25 - 1)]) (rest := []) ⟨hx, hb, hml, hown, hts⟩ (c_X10_in l dC dI z1 0 (x3_25 - 1) o_18 r_19) (va_cwS 3 hts (q_gS m_157 m_158 m_5 m_159) rfl rfl rfl hdS_yX10_in_3 ⟨Nat.le_of_ble_eq_true rfl, Nat.le_of_ble_eq_true rfl⟩) (q_preS hK hP [] rfl [] rfl) rfl rfl hl.1 rfl (lv_room (Nat.le_of_ble_eq_true rfl)) dX10_order_121 ⟨Nat.le_of_ble_eq_true rfl, Nat.le_of_ble_eq_true rfl⟩) hP hS (fun H locs hP hS => ?_)
            refine lv_if_eq (tgt := 136) hx hb dX10_order_124 (by decide) (fun c_20 => ?_) (fun c_20 => ?_)
            · have hG := q_ifp c_20 hG
              refine lv_iconst (v := (-1)) hx hb dX10_order_136 (by decide) ?_
              obtain rfl := Option.some.inj hG
              have hP9 := hP.sub (ws' := [((bm 0), .inr (10, [.int th, .ref (bm 1), .int tn, .int at_, .int wr, .ref (bm 2), .ref (bm 3), .int rm_, .ref (bm 4), .ref (bm 5), .int mn, .ref (bm 6), .ref (bm 7), .int sn, .ref (bm 8), .ref (bm 9), .ref (bm 10), .int ac, .long dn, .ref (bm 11), .ref (bm 12), .ref (bm 13), .ref (bm 14), .int hi])), ((bm 4), .inl ((km 4), 8, .inl ru)), ((bm 5), .inl ((km 5), 48, .inl td)), ((bm 8), .inl ((km 8), 279, .inl (o_16))), ((bm 11), .inl ((km 11), 98, .inl as__c)), ((bm 13), .inl ((km 13), 8, .inl od_c))]) [0, 1, 2, 3, 4, 5] rfl
              have hD9 := hD.sub (ws' := [((bm 0), .inr (10, [.int th, .ref (bm 1), .int tn, .int at_, .int wr, .ref (bm 2), .ref (bm 3), .int rm_, .ref (bm 4), .ref (bm 5), .int mn, .ref (bm 6), .ref (bm 7), .int sn, .ref (bm 8), .ref (bm 9), .ref (bm 10), .int ac, .long dn, .ref (bm 11), .ref (bm 12), .ref (bm 13), .ref (bm 14), .int hi])), ((bm 4), .inl ((km 4), 8, .inl ru)), ((bm 5), .inl ((km 5), 48, .inl td)), ((bm 8), .inl ((km 8), 279, .inl (o_16))), ((bm 11), .inl ((km 11), 98, .inl as__c)), ((bm 13), .inl ((km 13), 8, .inl od_c))]) [0, 1, 2, 3, 4, 5] (by decide) rfl
              have hK9 := hK.sub (tys' := [((km 4), .int), ((km 5), .int), ((km 8), .int), ((km 11), .int), ((km 13), .int)]) [0, 1, 2, 3, 4] rfl
              exact W.iret (v := (-1)) hx hb hr (fun t ht hW => ⟨⟨(-1), (), rfl, ⟨rfl, trivial⟩, by rw [ht]; exact hP9, va_K.moved hW.alike hK9, hD9⟩, hS.F ht⟩) hS.2.2 dX10_order_137
            · have hG := q_ifn c_20 hG
              refine lv_aload_n hx hb dX10_order_127 rfl (lv_at hl 3 rfl) ?_
              refine va_get (D := (dC, dI)) (ci := 10) (v := .ref (bm 13)) (C := RX10) (T := TX10) (N := 24) hx hb hts iA_10 hown hK hP 0 rfl rfl 21 (by decide) (hts (.fieldLink RX10 46 "HubTreeModel" "orderRow" "[I") (List.mem_cons_of_mem _ m_127)) (fun _ h9 => h9) rfl dX10_order_128 ?_
              refine lv_iload_n hx hb dX10_order_131 rfl (lv_at hl 4 rfl) ?_
              obtain ⟨h_21, hG⟩ := q_ix hG
              refine va_iald hx hb hK hP 5 4 rfl rfl (i := z1) h_21 dX10_order_132 ?_
              refine q_top (y := (od_c (z1).toNatClampNeg)) rfl ?_
              refine lv_goto (tgt := 137) hx hb dX10_order_133 (by decide) ?_
              obtain rfl := Option.some.inj hG
              have hP9 := hP.sub (ws' := [((bm 0), .inr (10, [.int th, .ref (bm 1), .int tn, .int at_, .int wr, .ref (bm 2), .ref (bm 3), .int rm_, .ref (bm 4), .ref (bm 5), .int mn, .ref (bm 6), .ref (bm 7), .int sn, .ref (bm 8), .ref (bm 9), .ref (bm 10), .int ac, .long dn, .ref (bm 11), .ref (bm 12), .ref (bm 13), .ref (bm 14), .int hi])), ((bm 4), .inl ((km 4), 8, .inl ru)), ((bm 5), .inl ((km 5), 48, .inl td)), ((bm 8), .inl ((km 8), 279, .inl (o_16))), ((bm 11), .inl ((km 11), 98, .inl as__c)), ((bm 13), .inl ((km 13), 8, .inl od_c))]) [0, 1, 2, 3, 4, 5] rfl
              have hD9 := hD.sub (ws' := [((bm 0), .inr (10, [.int th, .ref (bm 1), .int tn, .int at_, .int wr, .ref (bm 2), .ref (bm 3), .int rm_, .ref (bm 4), .ref (bm 5), .int mn, .ref (bm 6), .ref (bm 7), .int sn, .ref (bm 8), .ref (bm 9), .ref (bm 10), .int ac, .long dn, .ref (bm 11), .ref (bm 12), .ref (bm 13), .ref (bm 14), .int hi])), ((bm 4), .inl ((km 4), 8, .inl ru)), ((bm 5), .inl ((km 5), 48, .inl td)), ((bm 8), .inl ((km 8), 279, .inl (o_16))), ((bm 11), .inl ((km 11), 98, .inl as__c)), ((bm 13), .inl ((km 13), 8, .inl od_c))]) [0, 1, 2, 3, 4, 5] (by decide) rfl
              have hK9 := hK.sub (tys' := [((km 4), .int), ((km 5), .int), ((km 8), .int), ((km 11), .int), ((km 13), .int)]) [0, 1, 2, 3, 4] rfl
              exact W.iret (v := (od_c (z1).toNatClampNeg)) hx hb hr (fun t ht hW => ⟨⟨(od_c (z1).toNatClampNeg), (), rfl, ⟨rfl, trivial⟩, by rw [ht]; exact hP9, va_K.moved hW.alike hK9, hD9⟩, hS.F ht⟩) hS.2.2 dX10_order_137
          · have hG := q_ifn c_15 hG
            refine lv_aload_n hx hb dX10_order_46 rfl (lv_at hl 3 rfl) ?_
            obtain ⟨o_22, r_23, hG⟩ := q_bi hG
            refine q_gov2 (wr := [((bm 11), .inl ((km 11), 98, .inl as__c)), ((bm 13), .inl ((km 13), 8, .inl od_c))]) (va_runV (As := []) (rest := []) ⟨hx, hb, hml, hown, hts⟩ (c_X10_tickNow l dC dI bm km th tn at_ wr rm_ mn sn ac hi dn ru td nw_c (va_A [((bm 0), .inr (10, [.int th, .ref (bm 1), .int tn, .int at_, .int wr, .ref (bm 2), .ref (bm 3), .int rm_, .ref (bm 4), .ref (bm 5), .int mn, .ref (bm 6), .ref (bm 7), .int sn, .ref (bm 8), .ref (bm 9), .ref (bm 10), .int ac, .long dn, .ref (bm 11), .ref (bm 12), .ref (bm 13), .ref (bm 14), .int hi])), ((bm 4), .inl ((km 4), 8, .inl ru)), ((bm 5), .inl ((km 5), 48, .inl td)), ((bm 8), .inl ((km 8), 279, .inl nw_c))] H.size) o_22 r_23) (cwV 0 hts (q_gV m_957 m_958 m_959 m_5 m_960) rfl rfl rfl hdV_yX10_tickNow_0 ⟨Nat.le_of_ble_eq_true rfl, Nat.le_of_ble_eq_true rfl⟩) (q_preWV hK hP hD (q := (RX10, TX10, 24)) (ci := 10) (q0 := 0) rfl rfl [0, 1, 2, 3] (by decide) rfl rfl [0, 1, 2] rfl) rfl rfl hl.1 rfl (lv_room (Nat.le_of_ble_eq_true rfl)) dX10_order_47 ⟨Nat.le_of_ble_eq_true rfl, Nat.le_of_ble_eq_true rfl⟩) hK hP hD hS hA [0, 1, 2, 3] [4, 5] rfl rfl (by decide) (by decide) (fun _ H locs _ hP hD hK9 hS => ?_)
            have hP : va_P (dC, dI) vwCl [((bm 0), .inr (10, [.int th, .ref (bm 1), .int tn, .int at_, .int wr, .ref (bm 2), .ref (bm 3), .int rm_, .ref (bm 4), .ref (bm 5), .int mn, .ref (bm 6), .ref (bm 7), .int sn, .ref (bm 8), .ref (bm 9), .ref (bm 10), .int ac, .long dn, .ref (bm 11), .ref (bm 12), .ref (bm 13), .ref (bm 14), .int hi])), ((bm 4), .inl ((km 4), 8, .inl ru)), ((bm 5), .inl ((km 5), 48, .inl td)), ((bm 8), .inl ((km 8), 279, .inl (o_22))), ((bm 11), .inl ((km 11), 98, .inl as__c)), ((bm 13), .inl ((km 13), 8, .inl od_c))] H := hP.sub [2, 3, 4, 5, 0, 1] rfl
            have hD : va_D A [((bm 0), .inr (10, [.int th, .ref (bm 1), .int tn, .int at_, .int wr, .ref (bm 2), .ref (bm 3), .int rm_, .ref (bm 4), .ref (bm 5), .int mn, .ref (bm 6), .ref (bm 7), .int sn, .ref (bm 8), .ref (bm 9), .ref (bm 10), .int ac, .long dn, .ref (bm 11), .ref (bm 12), .ref (bm 13), .ref (bm 14), .int hi])), ((bm 4), .inl ((km 4), 8, .inl ru)), ((bm 5), .inl ((km 5), 48, .inl td)), ((bm 8), .inl ((km 8), 279, .inl (o_22))), ((bm 11), .inl ((km 11), 98, .inl as__c)), ((bm 13), .inl ((km 13), 8, .inl od_c))] := hD.sub [2, 3, 4, 5, 0, 1] (by decide) rfl
            refine lv_aload_n hx hb dX10_order_50 rfl (lv_at hl 3 rfl) ?_
            refine lv_bipush (v := 6) hx hb dX10_order_51 (by decide) ?_
            obtain ⟨o_24, r_25, hG⟩ := q_bi hG
            refine q_goi (v := o_24) (va_runV (As := [.int 6]) (rest := []) ⟨hx, hb, hml, hown, hts⟩ (c_X10_those l dC dI bm km th tn at_ wr rm_ mn sn ac hi dn (o_22) 6 o_24 r_25) (cwV 1 hts (q_gV m_1018 m_1019 m_1020 m_5 m_1021) rfl rfl rfl hdV_yX10_those_1 ⟨Nat.le_of_ble_eq_true rfl, Nat.le_of_ble_eq_true rfl⟩) (q_preV hK hP (q := (RX10, TX10, 24)) (ci := 10) (q0 := 0) rfl rfl [0, 3] rfl [2] rfl) rfl rfl hl.1 rfl (lv_room (Nat.le_of_ble_eq_true rfl)) dX10_order_53 ⟨Nat.le_of_ble_eq_true rfl, Nat.le_of_ble_eq_true rfl⟩) hP hS (fun H locs hP hS => ?_)
            refine lv_iload_n hx hb dX10_order_56 rfl (lv_at hl 2 rfl) ?_
            refine lv_iconst (v := (-1)) hx hb dX10_order_57 (by decide) ?_
            refine lv_ixor hx hb dX10_order_58 ?_
            refine lv_iand hx hb dX10_order_59 ?_
            refine lv_istore (lv' := [(5, .int (o_24 &&& (x2_25 ^^^ (-1)))), (4, .int x4_25), (3, .int x3_25), (2, .int x2_25), (0, .ref (bm 0)), (1, .int z1)]) hx hb dX10_order_60 hl (by decide) rfl (fun ls hl => ?_)
            refine lv_iconst (v := 0) hx hb dX10_order_62 (by decide) ?_
            refine lv_istore (lv' := [(6, .int 0), (5, .int (o_24 &&& (x2_25 ^^^ (-1)))), (4, .int x4_25), (3, .int x3_25), (2, .int x2_25), (0, .ref (bm 0)), (1, .int z1)]) hx hb dX10_order_63 hl (by decide) rfl (fun ls hl => ?_)
            have L_65 : ∀ (n_65 : Nat) (x2_65 : Int32) (x3_65 : Int32) (x4_65 : Int32) (x5_65 : Int32) (x6_65 : Int32) (nw_c : Nat → Int32) (as__c : Nat → Int32) (od_c : Nat → Int32) (H : Heap) (locs : List Loc) (ls : Array Slot), FL_X10_order_65 mn ru td nw as_ od z1 (FL_X10_order_25 mn ru td nw as_ od z1 n_25) n_65 x2_65 x3_65 x4_65 x5_65 x6_65 nw_c as__c od_c = some o → va_P (dC, dI) vwCl [((bm 0), .inr (10, [.int th, .ref (bm 1), .int tn, .int at_, .int wr, .ref (bm 2), .ref (bm 3), .int rm_, .ref (bm 4), .ref (bm 5), .int mn, .ref (bm 6), .ref (bm 7), .int sn, .ref (bm 8), .ref (bm 9), .ref (bm 10), .int ac, .long dn, .ref (bm 11), .ref (bm 12), .ref (bm 13), .ref (bm 14), .int hi])), ((bm 4), .inl ((km 4), 8, .inl ru)), ((bm 5), .inl ((km 5), 48, .inl td)), ((bm 8), .inl ((km 8), 279, .inl nw_c)), ((bm 11), .inl ((km 11), 98, .inl as__c)), ((bm 13), .inl ((km 13), 8, .inl od_c))] H → va_D A [((bm 0), .inr (10, [.int th, .ref (bm 1), .int tn, .int at_, .int wr, .ref (bm 2), .ref (bm 3), .int rm_, .ref (bm 4), .ref (bm 5), .int mn, .ref (bm 6), .ref (bm 7), .int sn, .ref (bm 8), .ref (bm 9), .ref (bm 10), .int ac, .long dn, .ref (bm 11), .ref (bm 12), .ref (bm 13), .ref (bm 14), .int hi])), ((bm 4), .inl ((km 4), 8, .inl ru)), ((bm 5), .inl ((km 5), 48, .inl td)), ((bm 8), .inl ((km 8), 279, .inl nw_c)), ((bm 11), .inl ((km 11), 98, .inl as__c)), ((bm 13), .inl ((km 13), 8, .inl od_c))] → va_S A s.heap H locs → lv_has ls 7 [(6, .int x6_65), (5, .int x5_65), (4, .int x4_65), (3, .int x3_65), (2, .int x2_65), (0, .ref (bm 0)), (1, .int z1)] → W p l e (headSpec (.code yX10_order cX10_order 7 (some .int) :: wA) ({ frames := 8, cells := 0, slots := 0, locals := 177 })).room s m #[.ref (bm 0), .int z1] below meth c H locs 0 0 (MQ below (va_Qi (fun (r : Int32) (_ : Unit) => r = o.1 ∧ True) (fun (_ : Unit) t => q_B (dC, dI) A [((bm 0), .inr (10, [.int th, .ref (bm 1), .int tn, .int at_, .int wr, .ref (bm 2), .ref (bm 3), .int rm_, .ref (bm 4), .ref (bm 5), .int mn, .ref (bm 6), .ref (bm 7), .int sn, .ref (bm 8), .ref (bm 9), .ref (bm 10), .int ac, .long dn, .ref (bm 11), .ref (bm 12), .ref (bm 13), .ref (bm 14), .int hi])), ((bm 4), .inl ((km 4), 8, .inl ru)), ((bm 5), .inl ((km 5), 48, .inl td)), ((bm 8), .inl ((km 8), 279, .inl (o.2.1))), ((bm 11), .inl ((km 11), 98, .inl (o.2.2.1))), ((bm 13), .inl ((km 13), 8, .inl (o.2.2.2)))] [((km 4), .int), ((km 5), .int), ((km 8), .int), ((km 11), .int), ((km 13), .int)] t) A) #[.ref (bm 0), .int z1] s 0 0 A) (F0 m 65 ls []) := by
              intro n_65
              induction n_65 with
              | zero =>
                intro x2_65 x3_65 x4_65 x5_65 x6_65 nw_c as__c od_c H locs ls hG
                exact q_no hG
              | succ n_65 ih_65 =>
                intro x2_65 x3_65 x4_65 x5_65 x6_65 nw_c as__c od_c H locs ls hG hP hD hS hl
                unfold FL_X10_order_65 at hG
                refine lv_iload hx hb dX10_order_65 (lv_at hl 0 rfl) ?_
                refine lv_aload_n hx hb dX10_order_67 rfl (lv_at hl 5 rfl) ?_
                refine va_get (D := (dC, dI)) (ci := 10) (v := .int mn) (C := RX10) (T := TX10) (N := 24) hx hb hts iA_10 hown hK hP 0 rfl rfl 10 (by decide) (hts (.fieldLink RX10 132 "HubTreeModel" "many" "I") (List.mem_cons_of_mem _ m_433)) (fun _ h9 => h9) rfl dX10_order_68 ?_
                refine lv_icmp_ge (tgt := 101) hx hb dX10_order_71 (by decide) (fun c_26 => ?_) (fun c_26 => ?_)
                · have hG := q_ifp c_26 hG
                  refine lv_iload_n hx hb dX10_order_101 rfl (lv_at hl 4 rfl) ?_
                  refine lv_iload hx hb dX10_order_102 (lv_at hl 1 rfl) ?_
                  refine lv_ior hx hb dX10_order_104 ?_
                  refine lv_istore_n (lv' := [(2, .int (x2_65 ||| x5_65)), (6, .int x6_65), (5, .int x5_65), (4, .int x4_65), (3, .int x3_65), (0, .ref (bm 0)), (1, .int z1)]) hx hb dX10_order_105 rfl hl (by decide) rfl (fun ls hl => ?_)
                  refine lv_iinc (v := (x4_65 + 1)) (lv' := [(4, .int (x4_65 + 1)), (2, .int (x2_65 ||| x5_65)), (6, .int x6_65), (5, .int x5_65), (3, .int x3_65), (0, .ref (bm 0)), (1, .int z1)]) hx hb dX10_order_106 hl (k := 3) rfl (rfl) (by decide) rfl (fun ls hl => ?_)
                  refine lv_goto (tgt := 25) hx hb dX10_order_109 (by decide) ?_
                  exact ih_25 (x2_65 ||| x5_65) x3_65 (x4_65 + 1) nw_c as__c od_c H locs ls hG hP hD hS (lv_sub hl [0, 4, 1, 5, 6] rfl)
                · have hG := q_ifn c_26 hG
                  refine lv_iload hx hb dX10_order_74 (lv_at hl 1 rfl) ?_
                  refine lv_iload hx hb dX10_order_76 (lv_at hl 0 rfl) ?_
                  obtain ⟨o_27, r_28, hG⟩ := q_bi hG
                  refine q_goi (v := o_27) (va_runS (As := [.int x5_65, .int x6_65]) (rest := []) ⟨hx, hb, hml, hown, hts⟩ (c_X10_has l dC dI x5_65 x6_65 o_27 r_28) (va_cwS 2 hts (q_gS m_346 m_347 m_5 m_348) rfl rfl rfl hdS_yX10_has_2 ⟨Nat.le_of_ble_eq_true rfl, Nat.le_of_ble_eq_true rfl⟩) (q_preS hK hP [] rfl [] rfl) rfl rfl hl.1 rfl (lv_room (Nat.le_of_ble_eq_true rfl)) dX10_order_78 ⟨Nat.le_of_ble_eq_true rfl, Nat.le_of_ble_eq_true rfl⟩) hP hS (fun H locs hP hS => ?_)
                  refine lv_if_eq (tgt := 95) hx hb dX10_order_81 (by decide) (fun c_29 => ?_) (fun c_29 => ?_)
                  · have hG := q_ifp c_29 hG
                    refine lv_iinc (v := (x6_65 + 1)) (lv' := [(6, .int (x6_65 + 1)), (5, .int x5_65), (4, .int x4_65), (3, .int x3_65), (2, .int x2_65), (0, .ref (bm 0)), (1, .int z1)]) hx hb dX10_order_95 hl (k := 0) rfl (rfl) (by decide) rfl (fun ls hl => ?_)
                    refine lv_goto (tgt := 65) hx hb dX10_order_98 (by decide) ?_
                    exact ih_65 x2_65 x3_65 x4_65 x5_65 (x6_65 + 1) nw_c as__c od_c H locs ls hG hP hD hS (lv_sub hl [0, 1, 2, 3, 4, 5, 6] rfl)
                  · have hG := q_ifn c_29 hG
                    refine lv_aload_n hx hb dX10_order_84 rfl (lv_at hl 5 rfl) ?_
                    refine va_get (D := (dC, dI)) (ci := 10) (v := .ref (bm 13)) (C := RX10) (T := TX10) (N := 24) hx hb hts iA_10 hown hK hP 0 rfl rfl 21 (by decide) (hts (.fieldLink RX10 46 "HubTreeModel" "orderRow" "[I") (List.mem_cons_of_mem _ m_127)) (fun _ h9 => h9) rfl dX10_order_85 ?_
                    refine lv_iload_n hx hb dX10_order_88 rfl (lv_at hl 3 rfl) ?_
                    refine lv_iload hx hb dX10_order_89 (lv_at hl 0 rfl) ?_
                    obtain ⟨h_30, hG⟩ := q_ix hG
                    refine va_iast hx hb hK hP hD hS 5 4 rfl rfl (i := x3_65) (x := x6_65) h_30 dX10_order_91 (fun H locs hP hD hS => ?_)
                    have hP : va_P (dC, dI) vwCl [((bm 0), .inr (10, [.int th, .ref (bm 1), .int tn, .int at_, .int wr, .ref (bm 2), .ref (bm 3), .int rm_, .ref (bm 4), .ref (bm 5), .int mn, .ref (bm 6), .ref (bm 7), .int sn, .ref (bm 8), .ref (bm 9), .ref (bm 10), .int ac, .long dn, .ref (bm 11), .ref (bm 12), .ref (bm 13), .ref (bm 14), .int hi])), ((bm 4), .inl ((km 4), 8, .inl ru)), ((bm 5), .inl ((km 5), 48, .inl td)), ((bm 8), .inl ((km 8), 279, .inl nw_c)), ((bm 11), .inl ((km 11), 98, .inl as__c)), ((bm 13), .inl ((km 13), 8, .inl (upd od_c (x3_65).toNatClampNeg x6_65)))] H := hP
                    have hD : va_D A [((bm 0), .inr (10, [.int th, .ref (bm 1), .int tn, .int at_, .int wr, .ref (bm 2), .ref (bm 3), .int rm_, .ref (bm 4), .ref (bm 5), .int mn, .ref (bm 6), .ref (bm 7), .int sn, .ref (bm 8), .ref (bm 9), .ref (bm 10), .int ac, .long dn, .ref (bm 11), .ref (bm 12), .ref (bm 13), .ref (bm 14), .int hi])), ((bm 4), .inl ((km 4), 8, .inl ru)), ((bm 5), .inl ((km 5), 48, .inl td)), ((bm 8), .inl ((km 8), 279, .inl nw_c)), ((bm 11), .inl ((km 11), 98, .inl as__c)), ((bm 13), .inl ((km 13), 8, .inl (upd od_c (x3_65).toNatClampNeg x6_65)))] := hD
                    refine lv_iinc (v := (x3_65 + 1)) (lv' := [(3, .int (x3_65 + 1)), (6, .int x6_65), (5, .int x5_65), (4, .int x4_65), (2, .int x2_65), (0, .ref (bm 0)), (1, .int z1)]) hx hb dX10_order_92 hl (k := 3) rfl (rfl) (by decide) rfl (fun ls hl => ?_)
                    refine lv_iinc (v := (x6_65 + 1)) (lv' := [(6, .int (x6_65 + 1)), (3, .int (x3_65 + 1)), (5, .int x5_65), (4, .int x4_65), (2, .int x2_65), (0, .ref (bm 0)), (1, .int z1)]) hx hb dX10_order_95 hl (k := 1) rfl (rfl) (by decide) rfl (fun ls hl => ?_)
                    refine lv_goto (tgt := 65) hx hb dX10_order_98 (by decide) ?_
                    exact ih_65 x2_65 (x3_65 + 1) x4_65 x5_65 (x6_65 + 1) nw_c as__c (upd od_c (x3_65).toNatClampNeg x6_65) H locs ls hG hP hD hS (lv_sub hl [0, 2, 3, 1, 4, 5, 6] rfl)
            exact L_65 1000 x2_25 x3_25 x4_25 (o_24 &&& (x2_25 ^^^ (-1))) 0 (o_22) as__c od_c H locs ls hG hP hD hS hl
    exact L_25 1000 o_6 0 0 nw (o_4) od H locs ls hG hP hD hS hl
  · have hG := q_ifp c_3 hG
    refine lv_iconst (v := (-1)) hx hb dX10_order_7 (by decide) ?_
    obtain rfl := Option.some.inj hG
    have hP9 := hP.sub (ws' := [((bm 0), .inr (10, [.int th, .ref (bm 1), .int tn, .int at_, .int wr, .ref (bm 2), .ref (bm 3), .int rm_, .ref (bm 4), .ref (bm 5), .int mn, .ref (bm 6), .ref (bm 7), .int sn, .ref (bm 8), .ref (bm 9), .ref (bm 10), .int ac, .long dn, .ref (bm 11), .ref (bm 12), .ref (bm 13), .ref (bm 14), .int hi])), ((bm 4), .inl ((km 4), 8, .inl ru)), ((bm 5), .inl ((km 5), 48, .inl td)), ((bm 8), .inl ((km 8), 279, .inl nw)), ((bm 11), .inl ((km 11), 98, .inl as_)), ((bm 13), .inl ((km 13), 8, .inl od))]) [0, 1, 2, 3, 4, 5] rfl
    have hD9 := hD.sub (ws' := [((bm 0), .inr (10, [.int th, .ref (bm 1), .int tn, .int at_, .int wr, .ref (bm 2), .ref (bm 3), .int rm_, .ref (bm 4), .ref (bm 5), .int mn, .ref (bm 6), .ref (bm 7), .int sn, .ref (bm 8), .ref (bm 9), .ref (bm 10), .int ac, .long dn, .ref (bm 11), .ref (bm 12), .ref (bm 13), .ref (bm 14), .int hi])), ((bm 4), .inl ((km 4), 8, .inl ru)), ((bm 5), .inl ((km 5), 48, .inl td)), ((bm 8), .inl ((km 8), 279, .inl nw)), ((bm 11), .inl ((km 11), 98, .inl as_)), ((bm 13), .inl ((km 13), 8, .inl od))]) [0, 1, 2, 3, 4, 5] (by decide) rfl
    have hK9 := hK.sub (tys' := [((km 4), .int), ((km 5), .int), ((km 8), .int), ((km 11), .int), ((km 13), .int)]) [0, 1, 2, 3, 4] rfl
    exact W.iret (v := (-1)) hx hb hr (fun t ht hW => ⟨⟨(-1), (), rfl, ⟨rfl, trivial⟩, by rw [ht]; exact hP9, va_K.moved hW.alike hK9, hD9⟩, hS.F ht⟩) hS.2.2 dX10_order_8
