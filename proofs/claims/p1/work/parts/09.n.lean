theorem dX10_ahead_0 : decode cX10_ahead 0 = .ok (.aload_n 0, 1) := by decide +kernel
theorem dX10_ahead_1 : decode cX10_ahead 1 = .ok (.invokevirtual 70, 3) := by decide +kernel
theorem dX10_ahead_4 : decode cX10_ahead 4 = .ok (.bipush 32, 2) := by decide +kernel
theorem dX10_ahead_6 : decode cX10_ahead 6 = .ok (.if_icmp .ne 16, 3) := by decide +kernel
theorem dX10_ahead_22 : decode cX10_ahead 22 = .ok (.aload_n 0, 1) := by decide +kernel
theorem dX10_ahead_23 : decode cX10_ahead 23 = .ok (.invokevirtual 70, 3) := by decide +kernel
theorem dX10_ahead_26 : decode cX10_ahead 26 = .ok (.ireturn, 1) := by decide +kernel
theorem dX10_bad_0 : decode cX10_bad 0 = .ok (.aload_n 0, 1) := by decide +kernel
theorem dX10_bad_1 : decode cX10_bad 1 = .ok (.aload_n 0, 1) := by decide +kernel
theorem dX10_bad_2 : decode cX10_bad 2 = .ok (.getfield 74, 3) := by decide +kernel
theorem dX10_bad_5 : decode cX10_bad 5 = .ok (.iconst (-1), 1) := by decide +kernel
theorem dX10_bad_6 : decode cX10_bad 6 = .ok (.if_icmp .ne 10, 3) := by decide +kernel
theorem dX10_bad_9 : decode cX10_bad 9 = .ok (.aload_n 0, 1) := by decide +kernel
theorem dX10_bad_10 : decode cX10_bad 10 = .ok (.getfield 67, 3) := by decide +kernel
theorem dX10_bad_13 : decode cX10_bad 13 = .ok (.goto 7, 3) := by decide +kernel
theorem dX10_bad_20 : decode cX10_bad 20 = .ok (.putfield 74, 3) := by decide +kernel
theorem dX10_bad_23 : decode cX10_bad 23 = .ok (.return_, 1) := by decide +kernel
theorem dX10_count_0 : decode cX10_count 0 = .ok (.iload_n 1, 1) := by decide +kernel
theorem dX10_count_1 : decode cX10_count 1 = .ok (.tableswitch 63 0 4 #[35, 40, 45, 50, 58], 35) := by decide +kernel
theorem dX10_count_36 : decode cX10_count 36 = .ok (.aload_n 0, 1) := by decide +kernel
theorem dX10_count_37 : decode cX10_count 37 = .ok (.getfield 132, 3) := by decide +kernel
theorem dX10_count_40 : decode cX10_count 40 = .ok (.ireturn, 1) := by decide +kernel
theorem dX10_count_41 : decode cX10_count 41 = .ok (.aload_n 0, 1) := by decide +kernel
theorem dX10_count_42 : decode cX10_count 42 = .ok (.getfield 161, 3) := by decide +kernel
theorem dX10_count_45 : decode cX10_count 45 = .ok (.ireturn, 1) := by decide +kernel
theorem dX10_count_46 : decode cX10_count 46 = .ok (.aload_n 0, 1) := by decide +kernel
theorem dX10_count_47 : decode cX10_count 47 = .ok (.getfield 60, 3) := by decide +kernel
theorem dX10_count_50 : decode cX10_count 50 = .ok (.ireturn, 1) := by decide +kernel
theorem dX10_count_51 : decode cX10_count 51 = .ok (.aload_n 0, 1) := by decide +kernel
theorem dX10_count_52 : decode cX10_count 52 = .ok (.getfield 31, 3) := by decide +kernel
theorem dX10_count_55 : decode cX10_count 55 = .ok (.bipush 98, 2) := by decide +kernel
theorem dX10_count_57 : decode cX10_count 57 = .ok (.iaload, 1) := by decide +kernel
theorem dX10_count_58 : decode cX10_count 58 = .ok (.ireturn, 1) := by decide +kernel
theorem dX10_count_59 : decode cX10_count 59 = .ok (.aload_n 0, 1) := by decide +kernel
theorem dX10_count_60 : decode cX10_count 60 = .ok (.getfield 151, 3) := by decide +kernel
theorem dX10_count_63 : decode cX10_count 63 = .ok (.ireturn, 1) := by decide +kernel
theorem dX10_count_64 : decode cX10_count 64 = .ok (.ldc_w 358, 3) := by decide +kernel
theorem dX10_count_67 : decode cX10_count 67 = .ok (.ireturn, 1) := by decide +kernel
theorem dX10_device_0 : decode cX10_device 0 = .ok (.aload_n 0, 1) := by decide +kernel
theorem dX10_device_1 : decode cX10_device 1 = .ok (.aload_n 0, 1) := by decide +kernel
theorem dX10_device_2 : decode cX10_device 2 = .ok (.iload_n 1, 1) := by decide +kernel
theorem dX10_device_3 : decode cX10_device 3 = .ok (.invokevirtual 139, 3) := by decide +kernel
theorem dX10_device_6 : decode cX10_device 6 = .ok (.ifCond .eq 17, 3) := by decide +kernel
theorem dX10_device_23 : decode cX10_device 23 = .ok (.iconst 1, 1) := by decide +kernel
theorem dX10_device_24 : decode cX10_device 24 = .ok (.putfield 52, 3) := by decide +kernel
theorem dX10_device_27 : decode cX10_device 27 = .ok (.aload_n 0, 1) := by decide +kernel
theorem dX10_device_28 : decode cX10_device 28 = .ok (.getfield 52, 3) := by decide +kernel
theorem dX10_device_31 : decode cX10_device 31 = .ok (.iconst 1, 1) := by decide +kernel
theorem dX10_device_32 : decode cX10_device 32 = .ok (.if_icmp .ne 5, 3) := by decide +kernel
theorem dX10_device_35 : decode cX10_device 35 = .ok (.iconst 0, 1) := by decide +kernel
theorem dX10_device_36 : decode cX10_device 36 = .ok (.ireturn, 1) := by decide +kernel
theorem dX10_end_0 : decode cX10_end 0 = .ok (.iload_n 1, 1) := by decide +kernel
theorem dX10_end_1 : decode cX10_end 1 = .ok (.iconst 0, 1) := by decide +kernel
theorem dX10_end_2 : decode cX10_end 2 = .ok (.aload_n 0, 1) := by decide +kernel
theorem dX10_end_3 : decode cX10_end 3 = .ok (.getfield 60, 3) := by decide +kernel
theorem dX10_end_6 : decode cX10_end 6 = .ok (.invokestatic 63, 3) := by decide +kernel
theorem dX10_end_9 : decode cX10_end 9 = .ok (.ifCond .ne 5, 3) := by decide +kernel
theorem dX10_end_12 : decode cX10_end 12 = .ok (.iconst 0, 1) := by decide +kernel
theorem dX10_end_13 : decode cX10_end 13 = .ok (.ireturn, 1) := by decide +kernel
theorem dX10_end_14 : decode cX10_end 14 = .ok (.aload_n 0, 1) := by decide +kernel
theorem dX10_end_15 : decode cX10_end 15 = .ok (.iload_n 1, 1) := by decide +kernel
theorem dX10_end_16 : decode cX10_end 16 = .ok (.putfield 60, 3) := by decide +kernel
theorem dX10_end_19 : decode cX10_end 19 = .ok (.iconst 1, 1) := by decide +kernel
theorem dX10_end_20 : decode cX10_end 20 = .ok (.ireturn, 1) := by decide +kernel
theorem dX10_fault_0 : decode cX10_fault 0 = .ok (.iload_n 1, 1) := by decide +kernel
theorem dX10_fault_1 : decode cX10_fault 1 = .ok (.ifCond .ne 10, 3) := by decide +kernel
theorem dX10_fault_4 : decode cX10_fault 4 = .ok (.aload_n 0, 1) := by decide +kernel
theorem dX10_fault_5 : decode cX10_fault 5 = .ok (.invokevirtual 126, 3) := by decide +kernel
theorem dX10_fault_8 : decode cX10_fault 8 = .ok (.goto 18, 3) := by decide +kernel
theorem dX10_fault_11 : decode cX10_fault 11 = .ok (.iload_n 1, 1) := by decide +kernel
theorem dX10_fault_12 : decode cX10_fault 12 = .ok (.iconst 1, 1) := by decide +kernel
theorem dX10_fault_13 : decode cX10_fault 13 = .ok (.if_icmp .ne 11, 3) := by decide +kernel
theorem dX10_fault_16 : decode cX10_fault 16 = .ok (.aload_n 0, 1) := by decide +kernel
theorem dX10_fault_17 : decode cX10_fault 17 = .ok (.iconst 4, 1) := by decide +kernel
theorem dX10_fault_18 : decode cX10_fault 18 = .ok (.invokevirtual 129, 3) := by decide +kernel
theorem dX10_fault_21 : decode cX10_fault 21 = .ok (.goto 5, 3) := by decide +kernel
theorem dX10_fault_24 : decode cX10_fault 24 = .ok (.bipush (-2), 2) := by decide +kernel
theorem dX10_fault_26 : decode cX10_fault 26 = .ok (.ireturn, 1) := by decide +kernel
theorem dX10_here_0 : decode cX10_here 0 = .ok (.aload_n 0, 1) := by decide +kernel
theorem dX10_here_1 : decode cX10_here 1 = .ok (.getfield 67, 3) := by decide +kernel
theorem dX10_here_4 : decode cX10_here 4 = .ok (.aload_n 0, 1) := by decide +kernel
theorem dX10_here_5 : decode cX10_here 5 = .ok (.getfield 60, 3) := by decide +kernel
theorem dX10_here_8 : decode cX10_here 8 = .ok (.if_icmp .ge 15, 3) := by decide +kernel
theorem dX10_here_23 : decode cX10_here 23 = .ok (.iconst (-1), 1) := by decide +kernel
theorem dX10_here_24 : decode cX10_here 24 = .ok (.ireturn, 1) := by decide +kernel
theorem dX10_readScript_0 : decode cX10_readScript 0 = .ok (.aload_n 0, 1) := by decide +kernel
theorem dX10_readScript_1 : decode cX10_readScript 1 = .ok (.iconst 0, 1) := by decide +kernel
theorem dX10_readScript_2 : decode cX10_readScript 2 = .ok (.putfield 67, 3) := by decide +kernel
theorem dX10_readScript_5 : decode cX10_readScript 5 = .ok (.aload_n 0, 1) := by decide +kernel
theorem dX10_readScript_6 : decode cX10_readScript 6 = .ok (.iconst (-1), 1) := by decide +kernel
theorem dX10_readScript_7 : decode cX10_readScript 7 = .ok (.putfield 74, 3) := by decide +kernel
theorem dX10_readScript_10 : decode cX10_readScript 10 = .ok (.aload_n 0, 1) := by decide +kernel
theorem dX10_readScript_11 : decode cX10_readScript 11 = .ok (.getfield 28, 3) := by decide +kernel
theorem dX10_readScript_14 : decode cX10_readScript 14 = .ok (.iload_n 1, 1) := by decide +kernel
theorem dX10_readScript_15 : decode cX10_readScript 15 = .ok (.iconst 0, 1) := by decide +kernel
theorem dX10_readScript_16 : decode cX10_readScript 16 = .ok (.iastore, 1) := by decide +kernel
theorem dX10_readScript_17 : decode cX10_readScript 17 = .ok (.iconst 1, 1) := by decide +kernel
theorem dX10_readScript_18 : decode cX10_readScript 18 = .ok (.istore_n 2, 1) := by decide +kernel
theorem dX10_readScript_19 : decode cX10_readScript 19 = .ok (.iload_n 2, 1) := by decide +kernel
theorem dX10_readScript_20 : decode cX10_readScript 20 = .ok (.ifCond .eq 85, 3) := by decide +kernel
theorem dX10_readScript_23 : decode cX10_readScript 23 = .ok (.aload_n 0, 1) := by decide +kernel
theorem dX10_readScript_24 : decode cX10_readScript 24 = .ok (.iconst 4, 1) := by decide +kernel
theorem dX10_readScript_25 : decode cX10_readScript 25 = .ok (.bipush 16, 2) := by decide +kernel
theorem dX10_readScript_27 : decode cX10_readScript 27 = .ok (.iload_n 1, 1) := by decide +kernel
theorem dX10_readScript_28 : decode cX10_readScript 28 = .ok (.imul, 1) := by decide +kernel
theorem dX10_readScript_29 : decode cX10_readScript 29 = .ok (.aload_n 0, 1) := by decide +kernel
theorem dX10_readScript_30 : decode cX10_readScript 30 = .ok (.getfield 28, 3) := by decide +kernel
theorem dX10_readScript_33 : decode cX10_readScript 33 = .ok (.iload_n 1, 1) := by decide +kernel
theorem dX10_readScript_34 : decode cX10_readScript 34 = .ok (.iaload, 1) := by decide +kernel
theorem dX10_readScript_35 : decode cX10_readScript 35 = .ok (.iadd, 1) := by decide +kernel
theorem dX10_readScript_36 : decode cX10_readScript 36 = .ok (.imul, 1) := by decide +kernel
theorem dX10_readScript_37 : decode cX10_readScript 37 = .ok (.invokevirtual 122, 3) := by decide +kernel
theorem dX10_readScript_40 : decode cX10_readScript 40 = .ok (.aload_n 0, 1) := by decide +kernel
theorem dX10_readScript_41 : decode cX10_readScript 41 = .ok (.getfield 28, 3) := by decide +kernel
theorem dX10_readScript_44 : decode cX10_readScript 44 = .ok (.iload_n 1, 1) := by decide +kernel
theorem dX10_readScript_45 : decode cX10_readScript 45 = .ok (.dup2, 1) := by decide +kernel
theorem dX10_readScript_46 : decode cX10_readScript 46 = .ok (.iaload, 1) := by decide +kernel
theorem dX10_readScript_47 : decode cX10_readScript 47 = .ok (.iconst 1, 1) := by decide +kernel
theorem dX10_readScript_48 : decode cX10_readScript 48 = .ok (.iadd, 1) := by decide +kernel
theorem dX10_readScript_49 : decode cX10_readScript 49 = .ok (.iastore, 1) := by decide +kernel
theorem dX10_readScript_50 : decode cX10_readScript 50 = .ok (.aload_n 0, 1) := by decide +kernel
theorem dX10_readScript_51 : decode cX10_readScript 51 = .ok (.getfield 74, 3) := by decide +kernel
theorem dX10_readScript_54 : decode cX10_readScript 54 = .ok (.iconst (-1), 1) := by decide +kernel
theorem dX10_readScript_55 : decode cX10_readScript 55 = .ok (.if_icmp .ne 27, 3) := by decide +kernel
theorem dX10_readScript_82 : decode cX10_readScript 82 = .ok (.iconst 0, 1) := by decide +kernel
theorem dX10_readScript_83 : decode cX10_readScript 83 = .ok (.istore_n 2, 1) := by decide +kernel
theorem dX10_readScript_84 : decode cX10_readScript 84 = .ok (.aload_n 0, 1) := by decide +kernel
theorem dX10_readScript_85 : decode cX10_readScript 85 = .ok (.dup, 1) := by decide +kernel
theorem dX10_readScript_86 : decode cX10_readScript 86 = .ok (.getfield 67, 3) := by decide +kernel
theorem dX10_readScript_89 : decode cX10_readScript 89 = .ok (.iload_n 2, 1) := by decide +kernel
theorem dX10_readScript_90 : decode cX10_readScript 90 = .ok (.ifCond .eq 7, 3) := by decide +kernel
theorem dX10_readScript_97 : decode cX10_readScript 97 = .ok (.iconst 0, 1) := by decide +kernel
theorem dX10_readScript_98 : decode cX10_readScript 98 = .ok (.iadd, 1) := by decide +kernel
theorem dX10_readScript_99 : decode cX10_readScript 99 = .ok (.putfield 67, 3) := by decide +kernel
theorem dX10_readScript_102 : decode cX10_readScript 102 = .ok (.goto (-83), 3) := by decide +kernel
theorem dX10_readScript_105 : decode cX10_readScript 105 = .ok (.aload_n 0, 1) := by decide +kernel
theorem dX10_readScript_106 : decode cX10_readScript 106 = .ok (.getfield 74, 3) := by decide +kernel
theorem dX10_readScript_109 : decode cX10_readScript 109 = .ok (.iconst (-1), 1) := by decide +kernel
theorem dX10_readScript_110 : decode cX10_readScript 110 = .ok (.if_icmp .ne 15, 3) := by decide +kernel
theorem dX10_readScript_125 : decode cX10_readScript 125 = .ok (.aload_n 0, 1) := by decide +kernel
theorem dX10_readScript_126 : decode cX10_readScript 126 = .ok (.getfield 74, 3) := by decide +kernel
theorem dX10_readScript_129 : decode cX10_readScript 129 = .ok (.ireturn, 1) := by decide +kernel
theorem dX10_readStep_0 : decode cX10_readStep 0 = .ok (.aload_n 0, 1) := by decide +kernel
theorem dX10_readStep_1 : decode cX10_readStep 1 = .ok (.invokevirtual 77, 3) := by decide +kernel
theorem dX10_readStep_4 : decode cX10_readStep 4 = .ok (.invokestatic 115, 3) := by decide +kernel
theorem dX10_readStep_7 : decode cX10_readStep 7 = .ok (.istore_n 2, 1) := by decide +kernel
theorem dX10_readStep_8 : decode cX10_readStep 8 = .ok (.iload_n 2, 1) := by decide +kernel
theorem dX10_readStep_9 : decode cX10_readStep 9 = .ok (.iconst (-1), 1) := by decide +kernel
theorem dX10_readStep_10 : decode cX10_readStep 10 = .ok (.if_icmp .ne 8, 3) := by decide +kernel
theorem dX10_readStep_13 : decode cX10_readStep 13 = .ok (.aload_n 0, 1) := by decide +kernel
theorem dX10_readStep_14 : decode cX10_readStep 14 = .ok (.invokevirtual 84, 3) := by decide +kernel
theorem dX10_readStep_17 : decode cX10_readStep 17 = .ok (.return_, 1) := by decide +kernel
theorem dX10_readTree_0 : decode cX10_readTree 0 = .ok (.aload_n 0, 1) := by decide +kernel
theorem dX10_readTree_1 : decode cX10_readTree 1 = .ok (.iconst 0, 1) := by decide +kernel
theorem dX10_readTree_2 : decode cX10_readTree 2 = .ok (.putfield 67, 3) := by decide +kernel
theorem dX10_readTree_5 : decode cX10_readTree 5 = .ok (.aload_n 0, 1) := by decide +kernel
theorem dX10_readTree_6 : decode cX10_readTree 6 = .ok (.iconst (-1), 1) := by decide +kernel
theorem dX10_readTree_7 : decode cX10_readTree 7 = .ok (.putfield 74, 3) := by decide +kernel
theorem dX10_readTree_10 : decode cX10_readTree 10 = .ok (.aload_n 0, 1) := by decide +kernel
theorem dX10_readTree_11 : decode cX10_readTree 11 = .ok (.iconst 0, 1) := by decide +kernel
theorem dX10_readTree_12 : decode cX10_readTree 12 = .ok (.putfield 108, 3) := by decide +kernel
theorem dX10_readTree_15 : decode cX10_readTree 15 = .ok (.iconst 0, 1) := by decide +kernel
theorem dX10_readTree_16 : decode cX10_readTree 16 = .ok (.istore_n 1, 1) := by decide +kernel
theorem dX10_readTree_17 : decode cX10_readTree 17 = .ok (.iconst 0, 1) := by decide +kernel
theorem dX10_readTree_18 : decode cX10_readTree 18 = .ok (.istore_n 2, 1) := by decide +kernel
theorem dX10_readTree_19 : decode cX10_readTree 19 = .ok (.iload_n 2, 1) := by decide +kernel
theorem dX10_readTree_20 : decode cX10_readTree 20 = .ok (.bipush 8, 2) := by decide +kernel
theorem dX10_readTree_22 : decode cX10_readTree 22 = .ok (.if_icmp .ge 21, 3) := by decide +kernel
theorem dX10_readTree_25 : decode cX10_readTree 25 = .ok (.aload_n 0, 1) := by decide +kernel
theorem dX10_readTree_26 : decode cX10_readTree 26 = .ok (.getfield 13, 3) := by decide +kernel
theorem dX10_readTree_29 : decode cX10_readTree 29 = .ok (.iload_n 2, 1) := by decide +kernel
theorem dX10_readTree_30 : decode cX10_readTree 30 = .ok (.bipush 115, 2) := by decide +kernel
theorem dX10_readTree_32 : decode cX10_readTree 32 = .ok (.iload_n 2, 1) := by decide +kernel
theorem dX10_readTree_33 : decode cX10_readTree 33 = .ok (.invokestatic 87, 3) := by decide +kernel
theorem dX10_readTree_36 : decode cX10_readTree 36 = .ok (.iastore, 1) := by decide +kernel
theorem dX10_readTree_37 : decode cX10_readTree 37 = .ok (.iinc 2 1, 3) := by decide +kernel
theorem dX10_readTree_40 : decode cX10_readTree 40 = .ok (.goto (-21), 3) := by decide +kernel
theorem dX10_readTree_43 : decode cX10_readTree 43 = .ok (.iconst 1, 1) := by decide +kernel
theorem dX10_readTree_44 : decode cX10_readTree 44 = .ok (.istore_n 2, 1) := by decide +kernel
theorem dX10_readTree_45 : decode cX10_readTree 45 = .ok (.iload_n 2, 1) := by decide +kernel
theorem dX10_readTree_46 : decode cX10_readTree 46 = .ok (.ifCond .eq 157, 3) := by decide +kernel
theorem dX10_readTree_49 : decode cX10_readTree 49 = .ok (.aload_n 0, 1) := by decide +kernel
theorem dX10_readTree_50 : decode cX10_readTree 50 = .ok (.getfield 74, 3) := by decide +kernel
theorem dX10_readTree_53 : decode cX10_readTree 53 = .ok (.iconst (-1), 1) := by decide +kernel
theorem dX10_readTree_54 : decode cX10_readTree 54 = .ok (.if_icmp .ne 149, 3) := by decide +kernel
theorem dX10_readTree_57 : decode cX10_readTree 57 = .ok (.aload_n 0, 1) := by decide +kernel
theorem dX10_readTree_58 : decode cX10_readTree 58 = .ok (.invokevirtual 77, 3) := by decide +kernel
theorem dX10_readTree_61 : decode cX10_readTree 61 = .ok (.istore_n 3, 1) := by decide +kernel
theorem dX10_readTree_62 : decode cX10_readTree 62 = .ok (.iload_n 3, 1) := by decide +kernel
theorem dX10_readTree_63 : decode cX10_readTree 63 = .ok (.bipush 115, 2) := by decide +kernel
theorem dX10_readTree_65 : decode cX10_readTree 65 = .ok (.if_icmp .ne 34, 3) := by decide +kernel
theorem dX10_readTree_99 : decode cX10_readTree 99 = .ok (.iload_n 3, 1) := by decide +kernel
theorem dX10_readTree_100 : decode cX10_readTree 100 = .ok (.bipush 100, 2) := by decide +kernel
theorem dX10_readTree_102 : decode cX10_readTree 102 = .ok (.if_icmp .ne 53, 3) := by decide +kernel
theorem dX10_readTree_155 : decode cX10_readTree 155 = .ok (.aload_n 0, 1) := by decide +kernel
theorem dX10_readTree_156 : decode cX10_readTree 156 = .ok (.invokevirtual 84, 3) := by decide +kernel
theorem dX10_readTree_159 : decode cX10_readTree 159 = .ok (.aload_n 0, 1) := by decide +kernel
theorem dX10_readTree_160 : decode cX10_readTree 160 = .ok (.getfield 74, 3) := by decide +kernel
theorem dX10_readTree_163 : decode cX10_readTree 163 = .ok (.iconst (-1), 1) := by decide +kernel
theorem dX10_readTree_164 : decode cX10_readTree 164 = .ok (.if_icmp .ne 16, 3) := by decide +kernel
theorem dX10_readTree_180 : decode cX10_readTree 180 = .ok (.iconst 0, 1) := by decide +kernel
theorem dX10_readTree_181 : decode cX10_readTree 181 = .ok (.istore_n 2, 1) := by decide +kernel
theorem dX10_readTree_182 : decode cX10_readTree 182 = .ok (.aload_n 0, 1) := by decide +kernel
theorem dX10_readTree_183 : decode cX10_readTree 183 = .ok (.dup, 1) := by decide +kernel
theorem dX10_readTree_184 : decode cX10_readTree 184 = .ok (.getfield 67, 3) := by decide +kernel
theorem dX10_readTree_187 : decode cX10_readTree 187 = .ok (.iload_n 2, 1) := by decide +kernel
theorem dX10_readTree_188 : decode cX10_readTree 188 = .ok (.ifCond .eq 7, 3) := by decide +kernel
theorem dX10_readTree_195 : decode cX10_readTree 195 = .ok (.iconst 0, 1) := by decide +kernel
theorem dX10_readTree_196 : decode cX10_readTree 196 = .ok (.iadd, 1) := by decide +kernel
theorem dX10_readTree_197 : decode cX10_readTree 197 = .ok (.putfield 67, 3) := by decide +kernel
theorem dX10_readTree_200 : decode cX10_readTree 200 = .ok (.goto (-155), 3) := by decide +kernel
theorem dX10_readTree_203 : decode cX10_readTree 203 = .ok (.aload_n 0, 1) := by decide +kernel
theorem dX10_readTree_204 : decode cX10_readTree 204 = .ok (.getfield 74, 3) := by decide +kernel
theorem dX10_readTree_207 : decode cX10_readTree 207 = .ok (.iconst (-1), 1) := by decide +kernel
theorem dX10_readTree_208 : decode cX10_readTree 208 = .ok (.if_icmp .ne 22, 3) := by decide +kernel
theorem dX10_readTree_230 : decode cX10_readTree 230 = .ok (.aload_n 0, 1) := by decide +kernel
theorem dX10_readTree_231 : decode cX10_readTree 231 = .ok (.getfield 74, 3) := by decide +kernel
theorem dX10_readTree_234 : decode cX10_readTree 234 = .ok (.ireturn, 1) := by decide +kernel
theorem dX10_sortOf_0 : decode cX10_sortOf 0 = .ok (.iload_n 0, 1) := by decide +kernel
theorem dX10_sortOf_1 : decode cX10_sortOf 1 = .ok (.lookupswitch 71 #[(101, 67), (111, 65), (112, 59), (116, 63), (117, 61), (122, 69)], 59) := by decide +kernel
theorem dX10_sortOf_72 : decode cX10_sortOf 72 = .ok (.iconst (-1), 1) := by decide +kernel
theorem dX10_sortOf_73 : decode cX10_sortOf 73 = .ok (.ireturn, 1) := by decide +kernel
theorem dX10_status_0 : decode cX10_status 0 = .ok (.iload_n 1, 1) := by decide +kernel
theorem dX10_status_1 : decode cX10_status 1 = .ok (.iconst 0, 1) := by decide +kernel
theorem dX10_status_2 : decode cX10_status 2 = .ok (.iconst 3, 1) := by decide +kernel
theorem dX10_status_3 : decode cX10_status 3 = .ok (.invokestatic 63, 3) := by decide +kernel
theorem dX10_status_6 : decode cX10_status 6 = .ok (.ifCond .eq 12, 3) := by decide +kernel
theorem dX10_status_9 : decode cX10_status 9 = .ok (.aload_n 0, 1) := by decide +kernel
theorem dX10_status_10 : decode cX10_status 10 = .ok (.getfield 34, 3) := by decide +kernel
theorem dX10_status_13 : decode cX10_status 13 = .ok (.iload_n 1, 1) := by decide +kernel
theorem dX10_status_14 : decode cX10_status 14 = .ok (.iaload, 1) := by decide +kernel
theorem dX10_status_15 : decode cX10_status 15 = .ok (.goto 4, 3) := by decide +kernel
theorem dX10_status_18 : decode cX10_status 18 = .ok (.iconst (-1), 1) := by decide +kernel
theorem dX10_status_19 : decode cX10_status 19 = .ok (.ireturn, 1) := by decide +kernel
theorem dX10_text_0 : decode cX10_text 0 = .ok (.iload_n 1, 1) := by decide +kernel
theorem dX10_text_1 : decode cX10_text 1 = .ok (.ifCond .ne 21, 3) := by decide +kernel
theorem dX10_text_4 : decode cX10_text 4 = .ok (.aload_n 0, 1) := by decide +kernel
theorem dX10_text_5 : decode cX10_text 5 = .ok (.invokevirtual 126, 3) := by decide +kernel
theorem dX10_text_8 : decode cX10_text 8 = .ok (.iconst (-1), 1) := by decide +kernel
theorem dX10_text_9 : decode cX10_text 9 = .ok (.if_icmp .ne 13, 3) := by decide +kernel
theorem dX10_text_22 : decode cX10_text 22 = .ok (.iload_n 1, 1) := by decide +kernel
theorem dX10_text_23 : decode cX10_text 23 = .ok (.iconst 1, 1) := by decide +kernel
theorem dX10_text_24 : decode cX10_text 24 = .ok (.if_icmp .ne 45, 3) := by decide +kernel
theorem dX10_text_27 : decode cX10_text 27 = .ok (.aload_n 0, 1) := by decide +kernel
theorem dX10_text_28 : decode cX10_text 28 = .ok (.getfield 161, 3) := by decide +kernel
theorem dX10_text_31 : decode cX10_text 31 = .ok (.iconst 4, 1) := by decide +kernel
theorem dX10_text_32 : decode cX10_text 32 = .ok (.if_icmp .ge 37, 3) := by decide +kernel
theorem dX10_text_35 : decode cX10_text 35 = .ok (.aload_n 0, 1) := by decide +kernel
theorem dX10_text_36 : decode cX10_text 36 = .ok (.aload_n 0, 1) := by decide +kernel
theorem dX10_text_37 : decode cX10_text 37 = .ok (.getfield 161, 3) := by decide +kernel
theorem dX10_text_40 : decode cX10_text 40 = .ok (.invokevirtual 129, 3) := by decide +kernel
theorem dX10_text_43 : decode cX10_text 43 = .ok (.iconst (-1), 1) := by decide +kernel
theorem dX10_text_44 : decode cX10_text 44 = .ok (.if_icmp .ne 25, 3) := by decide +kernel
theorem dX10_text_69 : decode cX10_text 69 = .ok (.iconst (-1), 1) := by decide +kernel
theorem dX10_text_70 : decode cX10_text 70 = .ok (.ireturn, 1) := by decide +kernel
theorem dX10_thrown_0 : decode cX10_thrown 0 = .ok (.aload_n 0, 1) := by decide +kernel
theorem dX10_thrown_1 : decode cX10_thrown 1 = .ok (.getfield 52, 3) := by decide +kernel
theorem dX10_thrown_4 : decode cX10_thrown 4 = .ok (.ireturn, 1) := by decide +kernel
theorem dX10_usual_0 : decode cX10_usual 0 = .ok (.iload_n 0, 1) := by decide +kernel
theorem dX10_usual_1 : decode cX10_usual 1 = .ok (.bipush 115, 2) := by decide +kernel
theorem dX10_usual_3 : decode cX10_usual 3 = .ok (.if_icmp .ne 62, 3) := by decide +kernel
theorem dX10_usual_6 : decode cX10_usual 6 = .ok (.iload_n 1, 1) := by decide +kernel
theorem dX10_usual_7 : decode cX10_usual 7 = .ok (.tableswitch 55 0 6 #[41, 43, 45, 45, 47, 49, 52], 41) := by decide +kernel
theorem dX10_usual_48 : decode cX10_usual 48 = .ok (.iconst 4, 1) := by decide +kernel
theorem dX10_usual_49 : decode cX10_usual 49 = .ok (.ireturn, 1) := by decide +kernel
theorem dX10_usual_50 : decode cX10_usual 50 = .ok (.iconst 3, 1) := by decide +kernel
theorem dX10_usual_51 : decode cX10_usual 51 = .ok (.ireturn, 1) := by decide +kernel
theorem dX10_usual_52 : decode cX10_usual 52 = .ok (.iconst 2, 1) := by decide +kernel
theorem dX10_usual_53 : decode cX10_usual 53 = .ok (.ireturn, 1) := by decide +kernel
theorem dX10_usual_54 : decode cX10_usual 54 = .ok (.iconst 5, 1) := by decide +kernel
theorem dX10_usual_55 : decode cX10_usual 55 = .ok (.ireturn, 1) := by decide +kernel
theorem dX10_usual_56 : decode cX10_usual 56 = .ok (.bipush 99, 2) := by decide +kernel
theorem dX10_usual_58 : decode cX10_usual 58 = .ok (.ireturn, 1) := by decide +kernel
theorem dX10_usual_59 : decode cX10_usual 59 = .ok (.bipush 60, 2) := by decide +kernel
theorem dX10_usual_61 : decode cX10_usual 61 = .ok (.ireturn, 1) := by decide +kernel
theorem dX10_usual_62 : decode cX10_usual 62 = .ok (.bipush 9, 2) := by decide +kernel
theorem dX10_usual_64 : decode cX10_usual 64 = .ok (.ireturn, 1) := by decide +kernel
def wq_X10_end : List Cond := .code yX10_end cX10_end 2 (some .boolean) :: ([.fieldLink RX10 60 "HubTreeModel" "taped" "I", .methodLink RX10 63 yX10_in, .static yX10_in, .initialized RX10, .code yX10_in cX10_in 3 (some .boolean)] ++ wsX100)
set_option maxRecDepth 20000 in
theorem g_X10_end_X10_in_63 : GoodIn wq_X10_end (va_wsS RX10 63 yX10_in wq_X10_in) := goodIn_r _ [2, 3, 4, 5] (by decide +kernel) (by decide +kernel)
theorem iq_X10_end_10 : ∀ w ∈ wsX100, w ∈ wq_X10_end := fun _ h => List.mem_cons_of_mem _ (List.mem_append_right _ h)
set_option maxHeartbeats 4000000 in
set_option maxRecDepth 100000 in
theorem c_X10_end (l : Launch) (dC : Nat → ClassId) (dI : Nat → Nat → Nat) (bm : Nat → Nat) (z1 : Int32) (A : Nat → Prop) : Met l yX10_end wq_X10_end ({ frames := 1, cells := 0, slots := 0, locals := 22 }) (va_Pc [.ref (bm 0), .int z1] (q_W (dC, dI) A [((bm 0), .inr (10, [.int 0, .ref (bm 1), .int 0, .int 0, .int 0, .ref (bm 2), .ref (bm 3), .int 0, .ref (bm 4), .ref (bm 5), .int 0, .ref (bm 6), .ref (bm 7), .int 0, .ref (bm 8), .ref (bm 9), .ref (bm 10), .int 0, .long 0, .ref (bm 11), .ref (bm 12), .ref (bm 13), .ref (bm 14), .int 0]))] [])) (q_wi ((q_in z1 0 0)) A) 0 0 A := by
  refine Met.ofW (cc := cX10_end) (maxL := 2) (ret := (some .boolean)) (by decide) rfl ?_
  intro p e s m args below meth c s₁ B hml hv
  obtain ⟨rfl, hP, hK, hD, hA⟩ := hv
  have hx := B.exec
  have hb := B.bytes
  have hr := B.returns
  have hts := atoms_spec (ws := wq_X10_end) B.pre
  have hown : s.vm.findClass RX10 = some m.cls := findClass_of_methodNamed B.named
  have hlocks := B.notSynchronized
  have hS : va_S A s.heap s.heap [] := va_S.rf
  have hl := lv_entry ([.ref (bm 0), .int z1]) (n := 2) (Nat.le_of_ble_eq_true rfl)
  rw [lg_entry_eq]
  generalize (lg_sl ([.ref (bm 0), .int z1]) ++ List.replicate (2 - (lg_sl ([.ref (bm 0), .int z1])).length) Slot.unset).toArray = ls at hl ⊢
  have hl : lv_has ls 2 [(0, .ref (bm 0)), (1, .int z1)] := hl
  refine lv_iload_n hx hb dX10_end_0 rfl (lv_at hl 1 rfl) ?_
  refine lv_iconst (v := 0) hx hb dX10_end_1 (by decide) ?_
  refine lv_aload_n hx hb dX10_end_2 rfl (lv_at hl 0 rfl) ?_
  refine va_get (D := (dC, dI)) (ci := 10) (v := .int 0) (C := RX10) (T := TX10) (N := 24) hx hb hts iq_X10_end_10 hown hK hP 0 rfl rfl 2 (by decide) (hts (.fieldLink RX10 60 "HubTreeModel" "taped" "I") (List.mem_of_getElem? (i := 1) rfl)) (fun _ h9 => h9) rfl dX10_end_3 ?_
  refine q_goi (v := (q_in z1 0 0)) (va_runS (As := [.int z1, .int 0, .int 0]) (rest := []) ⟨hx, hb, hml, hown, hts⟩ (c_X10_in l dC dI z1 0 0) (va_cwS 3 hts g_X10_end_X10_in_63 rfl rfl rfl (by decide +kernel) ⟨Nat.le_of_ble_eq_true rfl, Nat.le_of_ble_eq_true rfl⟩) (q_preS hK hP [] rfl [] rfl) rfl rfl hl.1 rfl (lv_room (Nat.le_of_ble_eq_true rfl)) dX10_end_6 ⟨Nat.le_of_ble_eq_true rfl, Nat.le_of_ble_eq_true rfl⟩) hP hS (fun H locs hP hS => ?_)
  refine lv_if_ne (tgt := 14) hx hb dX10_end_9 (by decide) (fun c_1 => ?_) (fun c_1 => ?_)
  · skip
    refine lv_aload_n hx hb dX10_end_14 rfl (lv_at hl 0 rfl) ?_
    refine lv_iload_n hx hb dX10_end_15 rfl (lv_at hl 1 rfl) ?_
    refine va_put (D := (dC, dI)) (ci := 10) (v := .int z1) (ty := .int) (C := RX10) (T := TX10) (N := 24) hx hb hts iq_X10_end_10 tyX10 tyX10_ok nmX10 hown hK hP hD hS 0 rfl rfl 2 (by decide) (hts (.fieldLink RX10 60 "HubTreeModel" "taped" "I") (List.mem_of_getElem? (i := 1) rfl)) (fun _ h9 => h9) rfl (by decide +kernel) rfl rfl (Nat.le_of_ble_eq_true rfl) dX10_end_16 (fun H locs hP hD hS => ?_)
    have hP : va_P (dC, dI) vwCl [((bm 0), .inr (10, [.int 0, .ref (bm 1), .int z1, .int 0, .int 0, .ref (bm 2), .ref (bm 3), .int 0, .ref (bm 4), .ref (bm 5), .int 0, .ref (bm 6), .ref (bm 7), .int 0, .ref (bm 8), .ref (bm 9), .ref (bm 10), .int 0, .long 0, .ref (bm 11), .ref (bm 12), .ref (bm 13), .ref (bm 14), .int 0]))] H := hP
    have hD : va_D A [((bm 0), .inr (10, [.int 0, .ref (bm 1), .int z1, .int 0, .int 0, .ref (bm 2), .ref (bm 3), .int 0, .ref (bm 4), .ref (bm 5), .int 0, .ref (bm 6), .ref (bm 7), .int 0, .ref (bm 8), .ref (bm 9), .ref (bm 10), .int 0, .long 0, .ref (bm 11), .ref (bm 12), .ref (bm 13), .ref (bm 14), .int 0]))] := hD
    refine lv_iconst (v := 1) hx hb dX10_end_19 (by decide) ?_
    exact W.zret (v := 1) hx hb hr rfl (fun t ht hW => ⟨⟨1, (), rfl, (by first | exact c_1.symm | exact (q_in_1 c_1).symm), trivial⟩, hS.F ht⟩) hS.2.2 dX10_end_20
  · skip
    refine lv_iconst (v := 0) hx hb dX10_end_12 (by decide) ?_
    exact W.zret (v := 0) hx hb hr rfl (fun t ht hW => ⟨⟨0, (), rfl, (by first | exact c_1.symm | exact (q_in_1 c_1).symm), trivial⟩, hS.F ht⟩) hS.2.2 dX10_end_13

def wq_X10_status : List Cond := .code yX10_status cX10_status 2 (some .int) :: ([.methodLink RX10 63 yX10_in, .static yX10_in, .initialized RX10, .code yX10_in cX10_in 3 (some .boolean), .fieldLink RX10 34 "HubTreeModel" "refused" "[I"] ++ wsX100)
set_option maxRecDepth 20000 in
theorem g_X10_status_X10_in_63 : GoodIn wq_X10_status (va_wsS RX10 63 yX10_in wq_X10_in) := goodIn_r _ [1, 2, 3, 4] (by decide +kernel) (by decide +kernel)
theorem iq_X10_status_10 : ∀ w ∈ wsX100, w ∈ wq_X10_status := fun _ h => List.mem_cons_of_mem _ (List.mem_append_right _ h)
set_option maxHeartbeats 4000000 in
set_option maxRecDepth 100000 in
theorem c_X10_status (l : Launch) (dC : Nat → ClassId) (dI : Nat → Nat → Nat) (bm : Nat → Nat) (km : Nat → ClassId) (z1 : Int32) : Met l yX10_status wq_X10_status ({ frames := 1, cells := 0, slots := 0, locals := 22 }) (va_Pc [.ref (bm 0), .int z1] (q_R (dC, dI) [((bm 0), .inr (10, [.int 0, .ref (bm 1), .int 0, .int 0, .int 0, .ref (bm 2), .ref (bm 3), .int 0, .ref (bm 4), .ref (bm 5), .int 0, .ref (bm 6), .ref (bm 7), .int 0, .ref (bm 8), .ref (bm 9), .ref (bm 10), .int 0, .long 0, .ref (bm 11), .ref (bm 12), .ref (bm 13), .ref (bm 14), .int 0])), ((bm 9), .inl ((km 9), 4, .inl (fun _ => 0)))] [((km 9), .int)])) (q_i ((q_st z1))) 0 0 (fun _ => False) := by
  refine Met.ofW (cc := cX10_status) (maxL := 2) (ret := (some .int)) (by decide) rfl ?_
  intro p e s m args below meth c s₁ B hml hv
  obtain ⟨rfl, hP, hK⟩ := hv
  have hx := B.exec
  have hb := B.bytes
  have hr := B.returns
  have hts := atoms_spec (ws := wq_X10_status) B.pre
  have hown : s.vm.findClass RX10 = some m.cls := findClass_of_methodNamed B.named
  have hlocks := B.notSynchronized
  have hS : va_S (fun _ => False) s.heap s.heap [] := va_S.rf
  have hl := lv_entry ([.ref (bm 0), .int z1]) (n := 2) (Nat.le_of_ble_eq_true rfl)
  rw [lg_entry_eq]
  generalize (lg_sl ([.ref (bm 0), .int z1]) ++ List.replicate (2 - (lg_sl ([.ref (bm 0), .int z1])).length) Slot.unset).toArray = ls at hl ⊢
  have hl : lv_has ls 2 [(0, .ref (bm 0)), (1, .int z1)] := hl
  refine lv_iload_n hx hb dX10_status_0 rfl (lv_at hl 1 rfl) ?_
  refine lv_iconst (v := 0) hx hb dX10_status_1 (by decide) ?_
  refine lv_iconst (v := 3) hx hb dX10_status_2 (by decide) ?_
  refine q_goi (v := (q_in z1 0 3)) (va_runS (As := [.int z1, .int 0, .int 3]) (rest := []) ⟨hx, hb, hml, hown, hts⟩ (c_X10_in l dC dI z1 0 3) (va_cwS 3 hts g_X10_status_X10_in_63 rfl rfl rfl (by decide +kernel) ⟨Nat.le_of_ble_eq_true rfl, Nat.le_of_ble_eq_true rfl⟩) (q_preS hK hP [] rfl [] rfl) rfl rfl hl.1 rfl (lv_room (Nat.le_of_ble_eq_true rfl)) dX10_status_3 ⟨Nat.le_of_ble_eq_true rfl, Nat.le_of_ble_eq_true rfl⟩) hP hS (fun H locs hP hS => ?_)
  refine lv_if_eq (tgt := 18) hx hb dX10_status_6 (by decide) (fun c_1 => ?_) (fun c_1 => ?_)
  · skip
    refine lv_iconst (v := (-1)) hx hb dX10_status_18 (by decide) ?_
    exact W.iret (v := (-1)) hx hb hr (fun t ht hW => ⟨⟨(-1), (), rfl, (by first | exact (q_in_3.1 c_1).symm | exact (q_in_3.2 c_1).1.symm), trivial⟩, hS.F ht⟩) hS.2.2 dX10_status_19
  · skip
    refine lv_aload_n hx hb dX10_status_9 rfl (lv_at hl 0 rfl) ?_
    refine va_get (D := (dC, dI)) (ci := 10) (v := .ref (bm 9)) (C := RX10) (T := TX10) (N := 24) hx hb hts iq_X10_status_10 hown hK hP 0 rfl rfl 15 (by decide) (hts (.fieldLink RX10 34 "HubTreeModel" "refused" "[I") (List.mem_of_getElem? (i := 5) rfl)) (fun _ h9 => h9) rfl dX10_status_10 ?_
    refine lv_iload_n hx hb dX10_status_13 rfl (lv_at hl 1 rfl) ?_
    refine va_iald hx hb hK hP 1 0 rfl rfl (i := z1) (q_in_3.2 c_1).2 dX10_status_14 ?_
    refine q_top (y := 0) rfl ?_
    refine lv_goto (tgt := 19) hx hb dX10_status_15 (by decide) ?_
    exact W.iret (v := 0) hx hb hr (fun t ht hW => ⟨⟨0, (), rfl, (by first | exact (q_in_3.1 c_1).symm | exact (q_in_3.2 c_1).1.symm), trivial⟩, hS.F ht⟩) hS.2.2 dX10_status_19

def wq_X10_count : List Cond := .code yX10_count cX10_count 2 (some .int) :: ([.fieldLink RX10 132 "HubTreeModel" "many" "I", .fieldLink RX10 161 "HubTreeModel" "scripts" "I", .fieldLink RX10 60 "HubTreeModel" "taped" "I", .fieldLink RX10 31 "HubTreeModel" "now" "[I", .fieldLink RX10 151 "HubTreeModel" "acts" "I", .constant RX10 358 (-1000000)] ++ wsX100)
theorem iq_X10_count_10 : ∀ w ∈ wsX100, w ∈ wq_X10_count := fun _ h => List.mem_cons_of_mem _ (List.mem_append_right _ h)
set_option maxHeartbeats 4000000 in
set_option maxRecDepth 100000 in
theorem c_X10_count (l : Launch) (dC : Nat → ClassId) (dI : Nat → Nat → Nat) (bm : Nat → Nat) (km : Nat → ClassId) (z1 : Int32) : Met l yX10_count wq_X10_count ({ frames := 0, cells := 0, slots := 0, locals := 0 }) (va_Pc [.ref (bm 0), .int z1] (q_R (dC, dI) [((bm 0), .inr (10, [.int 0, .ref (bm 1), .int 0, .int 0, .int 0, .ref (bm 2), .ref (bm 3), .int 0, .ref (bm 4), .ref (bm 5), .int 0, .ref (bm 6), .ref (bm 7), .int 0, .ref (bm 8), .ref (bm 9), .ref (bm 10), .int 0, .long 0, .ref (bm 11), .ref (bm 12), .ref (bm 13), .ref (bm 14), .int 0])), ((bm 8), .inl ((km 8), 279, .inl (fun _ => 0)))] [((km 8), .int)])) (q_i ((q_cnt z1))) 0 0 (fun _ => False) := by
  refine Met.ofW (cc := cX10_count) (maxL := 2) (ret := (some .int)) (by decide) rfl ?_
  intro p e s m args below meth c s₁ B hml hv
  obtain ⟨rfl, hP, hK⟩ := hv
  have hx := B.exec
  have hb := B.bytes
  have hr := B.returns
  have hts := atoms_spec (ws := wq_X10_count) B.pre
  have hown : s.vm.findClass RX10 = some m.cls := findClass_of_methodNamed B.named
  have hlocks := B.notSynchronized
  have hS : va_S (fun _ => False) s.heap s.heap [] := va_S.rf
  have hl := lv_entry ([.ref (bm 0), .int z1]) (n := 2) (Nat.le_of_ble_eq_true rfl)
  rw [lg_entry_eq]
  generalize (lg_sl ([.ref (bm 0), .int z1]) ++ List.replicate (2 - (lg_sl ([.ref (bm 0), .int z1])).length) Slot.unset).toArray = ls at hl ⊢
  have hl : lv_has ls 2 [(0, .ref (bm 0)), (1, .int z1)] := hl
  refine lv_iload_n hx hb dX10_count_0 rfl (lv_at hl 1 rfl) ?_
  by_cases e_1 : z1 = 0
  · refine lv_tableIn (off := 35) (tgt := 36) hx hb dX10_count_1 (by rw [e_1]; decide) (by rw [e_1]; decide) (by rw [e_1]; decide) (by decide) ?_
    refine lv_aload_n hx hb dX10_count_36 rfl (lv_at hl 0 rfl) ?_
    refine va_get (D := (dC, dI)) (ci := 10) (v := .int 0) (C := RX10) (T := TX10) (N := 24) hx hb hts iq_X10_count_10 hown hK hP 0 rfl rfl 10 (by decide) (hts (.fieldLink RX10 132 "HubTreeModel" "many" "I") (List.mem_of_getElem? (i := 1) rfl)) (fun _ h9 => h9) rfl dX10_count_37 ?_
    exact W.iret (v := 0) hx hb hr (fun t ht hW => ⟨⟨0, (), rfl, (by simp [q_cnt, e_1]), trivial⟩, hS.F ht⟩) hS.2.2 dX10_count_40
  by_cases e_2 : z1 = 1
  · refine lv_tableIn (off := 40) (tgt := 41) hx hb dX10_count_1 (by rw [e_2]; decide) (by rw [e_2]; decide) (by rw [e_2]; decide) (by decide) ?_
    refine lv_aload_n hx hb dX10_count_41 rfl (lv_at hl 0 rfl) ?_
    refine va_get (D := (dC, dI)) (ci := 10) (v := .int 0) (C := RX10) (T := TX10) (N := 24) hx hb hts iq_X10_count_10 hown hK hP 0 rfl rfl 13 (by decide) (hts (.fieldLink RX10 161 "HubTreeModel" "scripts" "I") (List.mem_of_getElem? (i := 2) rfl)) (fun _ h9 => h9) rfl dX10_count_42 ?_
    exact W.iret (v := 0) hx hb hr (fun t ht hW => ⟨⟨0, (), rfl, (by simp [q_cnt, e_1, e_2]), trivial⟩, hS.F ht⟩) hS.2.2 dX10_count_45
  by_cases e_3 : z1 = 2
  · refine lv_tableIn (off := 45) (tgt := 46) hx hb dX10_count_1 (by rw [e_3]; decide) (by rw [e_3]; decide) (by rw [e_3]; decide) (by decide) ?_
    refine lv_aload_n hx hb dX10_count_46 rfl (lv_at hl 0 rfl) ?_
    refine va_get (D := (dC, dI)) (ci := 10) (v := .int 0) (C := RX10) (T := TX10) (N := 24) hx hb hts iq_X10_count_10 hown hK hP 0 rfl rfl 2 (by decide) (hts (.fieldLink RX10 60 "HubTreeModel" "taped" "I") (List.mem_of_getElem? (i := 3) rfl)) (fun _ h9 => h9) rfl dX10_count_47 ?_
    exact W.iret (v := 0) hx hb hr (fun t ht hW => ⟨⟨0, (), rfl, (by simp [q_cnt, e_1, e_2, e_3]), trivial⟩, hS.F ht⟩) hS.2.2 dX10_count_50
  by_cases e_4 : z1 = 3
  · refine lv_tableIn (off := 50) (tgt := 51) hx hb dX10_count_1 (by rw [e_4]; decide) (by rw [e_4]; decide) (by rw [e_4]; decide) (by decide) ?_
    refine lv_aload_n hx hb dX10_count_51 rfl (lv_at hl 0 rfl) ?_
    refine va_get (D := (dC, dI)) (ci := 10) (v := .ref (bm 8)) (C := RX10) (T := TX10) (N := 24) hx hb hts iq_X10_count_10 hown hK hP 0 rfl rfl 14 (by decide) (hts (.fieldLink RX10 31 "HubTreeModel" "now" "[I") (List.mem_of_getElem? (i := 4) rfl)) (fun _ h9 => h9) rfl dX10_count_52 ?_
    refine lv_bipush (v := 98) hx hb dX10_count_55 (by decide) ?_
    refine va_iald hx hb hK hP 1 0 rfl rfl (i := 98) (vp_in_iff.mpr (by decide)) dX10_count_57 ?_
    refine q_top (y := 0) rfl ?_
    exact W.iret (v := 0) hx hb hr (fun t ht hW => ⟨⟨0, (), rfl, (by simp [q_cnt, e_1, e_2, e_3, e_4]), trivial⟩, hS.F ht⟩) hS.2.2 dX10_count_58
  by_cases e_5 : z1 = 4
  · refine lv_tableIn (off := 58) (tgt := 59) hx hb dX10_count_1 (by rw [e_5]; decide) (by rw [e_5]; decide) (by rw [e_5]; decide) (by decide) ?_
    refine lv_aload_n hx hb dX10_count_59 rfl (lv_at hl 0 rfl) ?_
    refine va_get (D := (dC, dI)) (ci := 10) (v := .int 0) (C := RX10) (T := TX10) (N := 24) hx hb hts iq_X10_count_10 hown hK hP 0 rfl rfl 17 (by decide) (hts (.fieldLink RX10 151 "HubTreeModel" "acts" "I") (List.mem_of_getElem? (i := 5) rfl)) (fun _ h9 => h9) rfl dX10_count_60 ?_
    exact W.iret (v := 0) hx hb hr (fun t ht hW => ⟨⟨0, (), rfl, (by simp [q_cnt, e_1, e_2, e_3, e_4, e_5]), trivial⟩, hS.F ht⟩) hS.2.2 dX10_count_63
  have hsw : (z1).toInt < 0 ∨ 4 < (z1).toInt := by
    have := lv_neT (a := 0) e_1 (by decide)
    have := lv_neT (a := 1) e_2 (by decide)
    have := lv_neT (a := 2) e_3 (by decide)
    have := lv_neT (a := 3) e_4 (by decide)
    have := lv_neT (a := 4) e_5 (by decide)
    omega
  refine lv_tableOut (tgt := 64) hx hb dX10_count_1 hsw (by decide) ?_
  refine lv_ldcw (v := (-1000000)) hx hb hown (hts (.constant RX10 358 (-1000000)) (List.mem_of_getElem? (i := 6) rfl)) dX10_count_64 ?_
  exact W.iret (v := (-1000000)) hx hb hr (fun t ht hW => ⟨⟨(-1000000), (), rfl, (by simp [q_cnt, e_1, e_2, e_3, e_4, e_5]), trivial⟩, hS.F ht⟩) hS.2.2 dX10_count_67

def wq_X10_thrown : List Cond := .code yX10_thrown cX10_thrown 1 (some .int) :: ([.fieldLink RX10 52 "HubTreeModel" "thrown" "I"] ++ wsX100)
theorem iq_X10_thrown_10 : ∀ w ∈ wsX100, w ∈ wq_X10_thrown := fun _ h => List.mem_cons_of_mem _ (List.mem_append_right _ h)
set_option maxHeartbeats 4000000 in
set_option maxRecDepth 100000 in
theorem c_X10_thrown (l : Launch) (dC : Nat → ClassId) (dI : Nat → Nat → Nat) (bm : Nat → Nat) : Met l yX10_thrown wq_X10_thrown ({ frames := 0, cells := 0, slots := 0, locals := 0 }) (va_Pc [.ref (bm 0)] (q_R (dC, dI) [((bm 0), .inr (10, [.int 1, .ref (bm 1), .int 0, .int 0, .int 0, .ref (bm 2), .ref (bm 3), .int 0, .ref (bm 4), .ref (bm 5), .int 0, .ref (bm 6), .ref (bm 7), .int 0, .ref (bm 8), .ref (bm 9), .ref (bm 10), .int 0, .long 0, .ref (bm 11), .ref (bm 12), .ref (bm 13), .ref (bm 14), .int 0]))] [])) (q_i (1)) 0 0 (fun _ => False) := by
  refine Met.ofW (cc := cX10_thrown) (maxL := 1) (ret := (some .int)) (by decide) rfl ?_
  intro p e s m args below meth c s₁ B hml hv
  obtain ⟨rfl, hP, hK⟩ := hv
  have hx := B.exec
  have hb := B.bytes
  have hr := B.returns
  have hts := atoms_spec (ws := wq_X10_thrown) B.pre
  have hown : s.vm.findClass RX10 = some m.cls := findClass_of_methodNamed B.named
  have hlocks := B.notSynchronized
  have hS : va_S (fun _ => False) s.heap s.heap [] := va_S.rf
  have hl := lv_entry ([.ref (bm 0)]) (n := 1) (Nat.le_of_ble_eq_true rfl)
  rw [lg_entry_eq]
  generalize (lg_sl ([.ref (bm 0)]) ++ List.replicate (1 - (lg_sl ([.ref (bm 0)])).length) Slot.unset).toArray = ls at hl ⊢
  have hl : lv_has ls 1 [(0, .ref (bm 0))] := hl
  refine lv_aload_n hx hb dX10_thrown_0 rfl (lv_at hl 0 rfl) ?_
  refine va_get (D := (dC, dI)) (ci := 10) (v := .int 1) (C := RX10) (T := TX10) (N := 24) hx hb hts iq_X10_thrown_10 hown hK hP 0 rfl rfl 0 (by decide) (hts (.fieldLink RX10 52 "HubTreeModel" "thrown" "I") (List.mem_of_getElem? (i := 1) rfl)) (fun _ h9 => h9) rfl dX10_thrown_1 ?_
  exact W.iret (v := 1) hx hb hr (fun t ht hW => ⟨⟨1, (), rfl, rfl, trivial⟩, hS.F ht⟩) hS.2.2 dX10_thrown_4

def wq_X10_device : List Cond := .code yX10_device cX10_device 3 (some .int) :: ([.methodLink RX10 139 yX10_isDevice, .instanceMethod yX10_isDevice, .selects RX10 yX10_isDevice yX10_isDevice, .initialized RX10, .code yX10_isDevice cX10_isDevice 2 (some .boolean), .fieldLink RX10 132 "HubTreeModel" "many" "I", .methodLink RX10 63 yX10_in, .static yX10_in, .code yX10_in cX10_in 3 (some .boolean), .fieldLink RX10 52 "HubTreeModel" "thrown" "I"] ++ wsX100)
set_option maxRecDepth 20000 in
theorem g_X10_device_X10_isDevice_139 : GoodIn wq_X10_device (wsV RX10 139 RX10 yX10_isDevice wq_X10_isDevice) := goodIn_r _ [1, 2, 3, 4, 5, 6, 7, 8, 4, 9, 11, 12, 13, 14, 15, 16, 17, 18, 19, 20, 21, 22, 23, 24, 25, 26, 27, 28, 29, 30, 31, 32, 33, 34] (by decide +kernel) (by decide +kernel)
theorem iq_X10_device_10 : ∀ w ∈ wsX100, w ∈ wq_X10_device := fun _ h => List.mem_cons_of_mem _ (List.mem_append_right _ h)
set_option maxHeartbeats 4000000 in
set_option maxRecDepth 100000 in
theorem c_X10_device (l : Launch) (dC : Nat → ClassId) (dI : Nat → Nat → Nat) (bm : Nat → Nat) (z1 : Int32) (z2 : Int32) (A : Nat → Prop) : Met l yX10_device wq_X10_device ({ frames := 2, cells := 0, slots := 0, locals := 43 }) (va_Pc [.ref (bm 0), .int z1, .int z2] (q_W (dC, dI) A [((bm 0), .inr (10, [.int 0, .ref (bm 1), .int 0, .int 0, .int 0, .ref (bm 2), .ref (bm 3), .int 0, .ref (bm 4), .ref (bm 5), .int 0, .ref (bm 6), .ref (bm 7), .int 0, .ref (bm 8), .ref (bm 9), .ref (bm 10), .int 0, .long 0, .ref (bm 11), .ref (bm 12), .ref (bm 13), .ref (bm 14), .int 0]))] [])) (va_Qi (fun (r : Int32) (u : Unit) => r = 0 ∧ True) (fun (u : Unit) t => q_B (dC, dI) A [((bm 0), .inr (10, [.int 1, .ref (bm 1), .int 0, .int 0, .int 0, .ref (bm 2), .ref (bm 3), .int 0, .ref (bm 4), .ref (bm 5), .int 0, .ref (bm 6), .ref (bm 7), .int 0, .ref (bm 8), .ref (bm 9), .ref (bm 10), .int 0, .long 0, .ref (bm 11), .ref (bm 12), .ref (bm 13), .ref (bm 14), .int 0]))] [] t) A) 0 0 A := by
  refine Met.ofW (cc := cX10_device) (maxL := 3) (ret := (some .int)) (by decide) rfl ?_
  intro p e s m args below meth c s₁ B hml hv
  obtain ⟨rfl, hP, hK, hD, hA⟩ := hv
  have hx := B.exec
  have hb := B.bytes
  have hr := B.returns
  have hts := atoms_spec (ws := wq_X10_device) B.pre
  have hown : s.vm.findClass RX10 = some m.cls := findClass_of_methodNamed B.named
  have hlocks := B.notSynchronized
  have hS : va_S A s.heap s.heap [] := va_S.rf
  have hl := lv_entry ([.ref (bm 0), .int z1, .int z2]) (n := 3) (Nat.le_of_ble_eq_true rfl)
  rw [lg_entry_eq]
  generalize (lg_sl ([.ref (bm 0), .int z1, .int z2]) ++ List.replicate (3 - (lg_sl ([.ref (bm 0), .int z1, .int z2])).length) Slot.unset).toArray = ls at hl ⊢
  have hl : lv_has ls 3 [(0, .ref (bm 0)), (1, .int z1), (2, .int z2)] := hl
  refine lv_aload_n hx hb dX10_device_0 rfl (lv_at hl 0 rfl) ?_
  refine lv_aload_n hx hb dX10_device_1 rfl (lv_at hl 0 rfl) ?_
  refine lv_iload_n hx hb dX10_device_2 rfl (lv_at hl 1 rfl) ?_
  refine q_goi (v := 0) (va_runV (As := [.int z1]) (rest := [.ref (bm 0)]) ⟨hx, hb, hml, hown, hts⟩ (c_X10_isDevice l dC dI bm z1) (cwV 1 hts g_X10_device_X10_isDevice_139 rfl rfl rfl (by decide +kernel) ⟨Nat.le_of_ble_eq_true rfl, Nat.le_of_ble_eq_true rfl⟩) (q_preV hK hP (ci := 10) (q0 := 0) rfl rfl [0] rfl [] rfl) rfl rfl hl.1 rfl (lv_room (Nat.le_of_ble_eq_true rfl)) dX10_device_3 ⟨Nat.le_of_ble_eq_true rfl, Nat.le_of_ble_eq_true rfl⟩) hP hS (fun H locs hP hS => ?_)
  refine lv_if_eq (tgt := 23) hx hb dX10_device_6 (by decide) (fun c_1 => ?_) (fun c_1 => ?_)
  · skip
    refine lv_iconst (v := 1) hx hb dX10_device_23 (by decide) ?_
    refine va_put (D := (dC, dI)) (ci := 10) (v := .int 1) (ty := .int) (C := RX10) (T := TX10) (N := 24) hx hb hts iq_X10_device_10 tyX10 tyX10_ok nmX10 hown hK hP hD hS 0 rfl rfl 0 (by decide) (hts (.fieldLink RX10 52 "HubTreeModel" "thrown" "I") (List.mem_of_getElem? (i := 10) rfl)) (fun _ h9 => h9) rfl (by decide +kernel) rfl rfl (Nat.le_of_ble_eq_true rfl) dX10_device_24 (fun H locs hP hD hS => ?_)
    have hP : va_P (dC, dI) vwCl [((bm 0), .inr (10, [.int 1, .ref (bm 1), .int 0, .int 0, .int 0, .ref (bm 2), .ref (bm 3), .int 0, .ref (bm 4), .ref (bm 5), .int 0, .ref (bm 6), .ref (bm 7), .int 0, .ref (bm 8), .ref (bm 9), .ref (bm 10), .int 0, .long 0, .ref (bm 11), .ref (bm 12), .ref (bm 13), .ref (bm 14), .int 0]))] H := hP
    have hD : va_D A [((bm 0), .inr (10, [.int 1, .ref (bm 1), .int 0, .int 0, .int 0, .ref (bm 2), .ref (bm 3), .int 0, .ref (bm 4), .ref (bm 5), .int 0, .ref (bm 6), .ref (bm 7), .int 0, .ref (bm 8), .ref (bm 9), .ref (bm 10), .int 0, .long 0, .ref (bm 11), .ref (bm 12), .ref (bm 13), .ref (bm 14), .int 0]))] := hD
    refine lv_aload_n hx hb dX10_device_27 rfl (lv_at hl 0 rfl) ?_
    refine va_get (D := (dC, dI)) (ci := 10) (v := .int 1) (C := RX10) (T := TX10) (N := 24) hx hb hts iq_X10_device_10 hown hK hP 0 rfl rfl 0 (by decide) (hts (.fieldLink RX10 52 "HubTreeModel" "thrown" "I") (List.mem_of_getElem? (i := 10) rfl)) (fun _ h9 => h9) rfl dX10_device_28 ?_
    refine lv_iconst (v := 1) hx hb dX10_device_31 (by decide) ?_
    refine lv_icmp_ne (tgt := 37) hx hb dX10_device_32 (by decide) (fun c_2 => ?_) (fun c_2 => ?_)
    · exact absurd (by decide) c_2
    refine lv_iconst (v := 0) hx hb dX10_device_35 (by decide) ?_
    have hP9 := hP.sub (ws' := [((bm 0), .inr (10, [.int 1, .ref (bm 1), .int 0, .int 0, .int 0, .ref (bm 2), .ref (bm 3), .int 0, .ref (bm 4), .ref (bm 5), .int 0, .ref (bm 6), .ref (bm 7), .int 0, .ref (bm 8), .ref (bm 9), .ref (bm 10), .int 0, .long 0, .ref (bm 11), .ref (bm 12), .ref (bm 13), .ref (bm 14), .int 0]))]) [0] rfl
    have hD9 := hD.sub (ws' := [((bm 0), .inr (10, [.int 1, .ref (bm 1), .int 0, .int 0, .int 0, .ref (bm 2), .ref (bm 3), .int 0, .ref (bm 4), .ref (bm 5), .int 0, .ref (bm 6), .ref (bm 7), .int 0, .ref (bm 8), .ref (bm 9), .ref (bm 10), .int 0, .long 0, .ref (bm 11), .ref (bm 12), .ref (bm 13), .ref (bm 14), .int 0]))]) [0] (by decide) rfl
    have hK9 := hK.sub (tys' := []) [] rfl
    exact W.iret (v := 0) hx hb hr (fun t ht hW => ⟨⟨0, (), rfl, ⟨rfl, trivial⟩, by rw [ht]; exact hP9, va_K.moved hW.alike hK9, hD9⟩, hS.F ht⟩) hS.2.2 dX10_device_36
  · exact absurd (by decide) c_1

def wq_X10_here : List Cond := .code yX10_here cX10_here 1 (some .int) :: ([.fieldLink RX10 67 "HubTreeModel" "at" "I", .fieldLink RX10 60 "HubTreeModel" "taped" "I"] ++ wsX100)
theorem iq_X10_here_10 : ∀ w ∈ wsX100, w ∈ wq_X10_here := fun _ h => List.mem_cons_of_mem _ (List.mem_append_right _ h)
set_option maxHeartbeats 4000000 in
set_option maxRecDepth 100000 in
theorem c_X10_here (l : Launch) (dC : Nat → ClassId) (dI : Nat → Nat → Nat) (bm : Nat → Nat) (w : Int32) : Met l yX10_here wq_X10_here ({ frames := 0, cells := 0, slots := 0, locals := 0 }) (va_Pc [.ref (bm 0)] (q_R (dC, dI) [((bm 0), .inr (10, [.int 0, .ref (bm 1), .int 0, .int 0, .int w, .ref (bm 2), .ref (bm 3), .int 0, .ref (bm 4), .ref (bm 5), .int 0, .ref (bm 6), .ref (bm 7), .int 0, .ref (bm 8), .ref (bm 9), .ref (bm 10), .int 0, .long 0, .ref (bm 11), .ref (bm 12), .ref (bm 13), .ref (bm 14), .int 0]))] [])) (q_i (-1)) 0 0 (fun _ => False) := by
  refine Met.ofW (cc := cX10_here) (maxL := 1) (ret := (some .int)) (by decide) rfl ?_
  intro p e s m args below meth c s₁ B hml hv
  obtain ⟨rfl, hP, hK⟩ := hv
  have hx := B.exec
  have hb := B.bytes
  have hr := B.returns
  have hts := atoms_spec (ws := wq_X10_here) B.pre
  have hown : s.vm.findClass RX10 = some m.cls := findClass_of_methodNamed B.named
  have hlocks := B.notSynchronized
  have hS : va_S (fun _ => False) s.heap s.heap [] := va_S.rf
  have hl := lv_entry ([.ref (bm 0)]) (n := 1) (Nat.le_of_ble_eq_true rfl)
  rw [lg_entry_eq]
  generalize (lg_sl ([.ref (bm 0)]) ++ List.replicate (1 - (lg_sl ([.ref (bm 0)])).length) Slot.unset).toArray = ls at hl ⊢
  have hl : lv_has ls 1 [(0, .ref (bm 0))] := hl
  refine lv_aload_n hx hb dX10_here_0 rfl (lv_at hl 0 rfl) ?_
  refine va_get (D := (dC, dI)) (ci := 10) (v := .int 0) (C := RX10) (T := TX10) (N := 24) hx hb hts iq_X10_here_10 hown hK hP 0 rfl rfl 3 (by decide) (hts (.fieldLink RX10 67 "HubTreeModel" "at" "I") (List.mem_of_getElem? (i := 1) rfl)) (fun _ h9 => h9) rfl dX10_here_1 ?_
  refine lv_aload_n hx hb dX10_here_4 rfl (lv_at hl 0 rfl) ?_
  refine va_get (D := (dC, dI)) (ci := 10) (v := .int 0) (C := RX10) (T := TX10) (N := 24) hx hb hts iq_X10_here_10 hown hK hP 0 rfl rfl 2 (by decide) (hts (.fieldLink RX10 60 "HubTreeModel" "taped" "I") (List.mem_of_getElem? (i := 2) rfl)) (fun _ h9 => h9) rfl dX10_here_5 ?_
  refine lv_icmp_ge (tgt := 23) hx hb dX10_here_8 (by decide) (fun c_1 => ?_) (fun c_1 => ?_)
  · skip
    refine lv_iconst (v := (-1)) hx hb dX10_here_23 (by decide) ?_
    exact W.iret (v := (-1)) hx hb hr (fun t ht hW => ⟨⟨(-1), (), rfl, rfl, trivial⟩, hS.F ht⟩) hS.2.2 dX10_here_24
  · exact absurd (by decide) c_1

def wq_X10_ahead : List Cond := .code yX10_ahead cX10_ahead 1 (some .int) :: ([.methodLink RX10 70 yX10_here, .instanceMethod yX10_here, .selects RX10 yX10_here yX10_here, .initialized RX10, .code yX10_here cX10_here 1 (some .int), .fieldLink RX10 67 "HubTreeModel" "at" "I", .fieldLink RX10 60 "HubTreeModel" "taped" "I"] ++ wsX100)
set_option maxRecDepth 20000 in
theorem g_X10_ahead_X10_here_70 : GoodIn wq_X10_ahead (wsV RX10 70 RX10 yX10_here wq_X10_here) := goodIn_r _ [1, 2, 3, 4, 5, 6, 7, 8, 9, 10, 11, 12, 13, 14, 15, 16, 17, 18, 19, 20, 21, 22, 23, 24, 25, 26, 27, 28, 29, 30, 31] (by decide +kernel) (by decide +kernel)
theorem iq_X10_ahead_10 : ∀ w ∈ wsX100, w ∈ wq_X10_ahead := fun _ h => List.mem_cons_of_mem _ (List.mem_append_right _ h)
set_option maxHeartbeats 4000000 in
set_option maxRecDepth 100000 in
theorem c_X10_ahead (l : Launch) (dC : Nat → ClassId) (dI : Nat → Nat → Nat) (bm : Nat → Nat) (w : Int32) : Met l yX10_ahead wq_X10_ahead ({ frames := 1, cells := 0, slots := 0, locals := 20 }) (va_Pc [.ref (bm 0)] (q_R (dC, dI) [((bm 0), .inr (10, [.int 0, .ref (bm 1), .int 0, .int 0, .int w, .ref (bm 2), .ref (bm 3), .int 0, .ref (bm 4), .ref (bm 5), .int 0, .ref (bm 6), .ref (bm 7), .int 0, .ref (bm 8), .ref (bm 9), .ref (bm 10), .int 0, .long 0, .ref (bm 11), .ref (bm 12), .ref (bm 13), .ref (bm 14), .int 0]))] [])) (q_i (-1)) 0 0 (fun _ => False) := by
  refine Met.ofW (cc := cX10_ahead) (maxL := 1) (ret := (some .int)) (by decide) rfl ?_
  intro p e s m args below meth c s₁ B hml hv
  obtain ⟨rfl, hP, hK⟩ := hv
  have hx := B.exec
  have hb := B.bytes
  have hr := B.returns
  have hts := atoms_spec (ws := wq_X10_ahead) B.pre
  have hown : s.vm.findClass RX10 = some m.cls := findClass_of_methodNamed B.named
  have hlocks := B.notSynchronized
  have hS : va_S (fun _ => False) s.heap s.heap [] := va_S.rf
  have hl := lv_entry ([.ref (bm 0)]) (n := 1) (Nat.le_of_ble_eq_true rfl)
  rw [lg_entry_eq]
  generalize (lg_sl ([.ref (bm 0)]) ++ List.replicate (1 - (lg_sl ([.ref (bm 0)])).length) Slot.unset).toArray = ls at hl ⊢
  have hl : lv_has ls 1 [(0, .ref (bm 0))] := hl
  refine lv_aload_n hx hb dX10_ahead_0 rfl (lv_at hl 0 rfl) ?_
  refine q_goi (v := (-1)) (va_runV (As := []) (rest := []) ⟨hx, hb, hml, hown, hts⟩ (c_X10_here l dC dI bm w) (cwV 0 hts g_X10_ahead_X10_here_70 rfl rfl rfl (by decide +kernel) ⟨Nat.le_of_ble_eq_true rfl, Nat.le_of_ble_eq_true rfl⟩) (q_preV hK hP (ci := 10) (q0 := 0) rfl rfl [0] rfl [] rfl) rfl rfl hl.1 rfl (lv_room (Nat.le_of_ble_eq_true rfl)) dX10_ahead_1 ⟨Nat.le_of_ble_eq_true rfl, Nat.le_of_ble_eq_true rfl⟩) hP hS (fun H locs hP hS => ?_)
  refine lv_bipush (v := 32) hx hb dX10_ahead_4 (by decide) ?_
  refine lv_icmp_ne (tgt := 22) hx hb dX10_ahead_6 (by decide) (fun c_1 => ?_) (fun c_1 => ?_)
  · skip
    refine lv_aload_n hx hb dX10_ahead_22 rfl (lv_at hl 0 rfl) ?_
    refine q_goi (v := (-1)) (va_runV (As := []) (rest := []) ⟨hx, hb, hml, hown, hts⟩ (c_X10_here l dC dI bm w) (cwV 0 hts g_X10_ahead_X10_here_70 rfl rfl rfl (by decide +kernel) ⟨Nat.le_of_ble_eq_true rfl, Nat.le_of_ble_eq_true rfl⟩) (q_preV hK hP (ci := 10) (q0 := 0) rfl rfl [0] rfl [] rfl) rfl rfl hl.1 rfl (lv_room (Nat.le_of_ble_eq_true rfl)) dX10_ahead_23 ⟨Nat.le_of_ble_eq_true rfl, Nat.le_of_ble_eq_true rfl⟩) hP hS (fun H locs hP hS => ?_)
    exact W.iret (v := (-1)) hx hb hr (fun t ht hW => ⟨⟨(-1), (), rfl, rfl, trivial⟩, hS.F ht⟩) hS.2.2 dX10_ahead_26
  · exact absurd c_1 (by decide)

def wq_X10_bad : List Cond := .code yX10_bad cX10_bad 1 none :: ([.fieldLink RX10 74 "HubTreeModel" "wrong" "I", .fieldLink RX10 67 "HubTreeModel" "at" "I"] ++ wsX100)
theorem iq_X10_bad_10 : ∀ w ∈ wsX100, w ∈ wq_X10_bad := fun _ h => List.mem_cons_of_mem _ (List.mem_append_right _ h)
set_option maxHeartbeats 4000000 in
set_option maxRecDepth 100000 in
theorem c_X10_bad (l : Launch) (dC : Nat → ClassId) (dI : Nat → Nat → Nat) (bm : Nat → Nat) (A : Nat → Prop) : Met l yX10_bad wq_X10_bad ({ frames := 0, cells := 0, slots := 0, locals := 0 }) (va_Pc [.ref (bm 0)] (q_W (dC, dI) A [((bm 0), .inr (10, [.int 0, .ref (bm 1), .int 0, .int 0, .int (-1), .ref (bm 2), .ref (bm 3), .int 0, .ref (bm 4), .ref (bm 5), .int 0, .ref (bm 6), .ref (bm 7), .int 0, .ref (bm 8), .ref (bm 9), .ref (bm 10), .int 0, .long 0, .ref (bm 11), .ref (bm 12), .ref (bm 13), .ref (bm 14), .int 0]))] [])) (va_Qv (fun u : Unit => True) (fun (u : Unit) t => q_B (dC, dI) A [((bm 0), .inr (10, [.int 0, .ref (bm 1), .int 0, .int 0, .int 0, .ref (bm 2), .ref (bm 3), .int 0, .ref (bm 4), .ref (bm 5), .int 0, .ref (bm 6), .ref (bm 7), .int 0, .ref (bm 8), .ref (bm 9), .ref (bm 10), .int 0, .long 0, .ref (bm 11), .ref (bm 12), .ref (bm 13), .ref (bm 14), .int 0]))] [] t) A) 0 0 A := by
  refine Met.ofW (cc := cX10_bad) (maxL := 1) (ret := none) (by decide) rfl ?_
  intro p e s m args below meth c s₁ B hml hv
  obtain ⟨rfl, hP, hK, hD, hA⟩ := hv
  have hx := B.exec
  have hb := B.bytes
  have hr := B.returns
  have hts := atoms_spec (ws := wq_X10_bad) B.pre
  have hown : s.vm.findClass RX10 = some m.cls := findClass_of_methodNamed B.named
  have hlocks := B.notSynchronized
  have hS : va_S A s.heap s.heap [] := va_S.rf
  have hl := lv_entry ([.ref (bm 0)]) (n := 1) (Nat.le_of_ble_eq_true rfl)
  rw [lg_entry_eq]
  generalize (lg_sl ([.ref (bm 0)]) ++ List.replicate (1 - (lg_sl ([.ref (bm 0)])).length) Slot.unset).toArray = ls at hl ⊢
  have hl : lv_has ls 1 [(0, .ref (bm 0))] := hl
  refine lv_aload_n hx hb dX10_bad_0 rfl (lv_at hl 0 rfl) ?_
  refine lv_aload_n hx hb dX10_bad_1 rfl (lv_at hl 0 rfl) ?_
  refine va_get (D := (dC, dI)) (ci := 10) (v := .int (-1)) (C := RX10) (T := TX10) (N := 24) hx hb hts iq_X10_bad_10 hown hK hP 0 rfl rfl 4 (by decide) (hts (.fieldLink RX10 74 "HubTreeModel" "wrong" "I") (List.mem_of_getElem? (i := 1) rfl)) (fun _ h9 => h9) rfl dX10_bad_2 ?_
  refine lv_iconst (v := (-1)) hx hb dX10_bad_5 (by decide) ?_
  refine lv_icmp_ne (tgt := 16) hx hb dX10_bad_6 (by decide) (fun c_1 => ?_) (fun c_1 => ?_)
  · exact absurd (by decide) c_1
  refine lv_aload_n hx hb dX10_bad_9 rfl (lv_at hl 0 rfl) ?_
  refine va_get (D := (dC, dI)) (ci := 10) (v := .int 0) (C := RX10) (T := TX10) (N := 24) hx hb hts iq_X10_bad_10 hown hK hP 0 rfl rfl 3 (by decide) (hts (.fieldLink RX10 67 "HubTreeModel" "at" "I") (List.mem_of_getElem? (i := 2) rfl)) (fun _ h9 => h9) rfl dX10_bad_10 ?_
  refine lv_goto (tgt := 20) hx hb dX10_bad_13 (by decide) ?_
  refine va_put (D := (dC, dI)) (ci := 10) (v := .int 0) (ty := .int) (C := RX10) (T := TX10) (N := 24) hx hb hts iq_X10_bad_10 tyX10 tyX10_ok nmX10 hown hK hP hD hS 0 rfl rfl 4 (by decide) (hts (.fieldLink RX10 74 "HubTreeModel" "wrong" "I") (List.mem_of_getElem? (i := 1) rfl)) (fun _ h9 => h9) rfl (by decide +kernel) rfl rfl (Nat.le_of_ble_eq_true rfl) dX10_bad_20 (fun H locs hP hD hS => ?_)
  have hP : va_P (dC, dI) vwCl [((bm 0), .inr (10, [.int 0, .ref (bm 1), .int 0, .int 0, .int 0, .ref (bm 2), .ref (bm 3), .int 0, .ref (bm 4), .ref (bm 5), .int 0, .ref (bm 6), .ref (bm 7), .int 0, .ref (bm 8), .ref (bm 9), .ref (bm 10), .int 0, .long 0, .ref (bm 11), .ref (bm 12), .ref (bm 13), .ref (bm 14), .int 0]))] H := hP
  have hD : va_D A [((bm 0), .inr (10, [.int 0, .ref (bm 1), .int 0, .int 0, .int 0, .ref (bm 2), .ref (bm 3), .int 0, .ref (bm 4), .ref (bm 5), .int 0, .ref (bm 6), .ref (bm 7), .int 0, .ref (bm 8), .ref (bm 9), .ref (bm 10), .int 0, .long 0, .ref (bm 11), .ref (bm 12), .ref (bm 13), .ref (bm 14), .int 0]))] := hD
  have hP9 := hP.sub (ws' := [((bm 0), .inr (10, [.int 0, .ref (bm 1), .int 0, .int 0, .int 0, .ref (bm 2), .ref (bm 3), .int 0, .ref (bm 4), .ref (bm 5), .int 0, .ref (bm 6), .ref (bm 7), .int 0, .ref (bm 8), .ref (bm 9), .ref (bm 10), .int 0, .long 0, .ref (bm 11), .ref (bm 12), .ref (bm 13), .ref (bm 14), .int 0]))]) [0] rfl
  have hD9 := hD.sub (ws' := [((bm 0), .inr (10, [.int 0, .ref (bm 1), .int 0, .int 0, .int 0, .ref (bm 2), .ref (bm 3), .int 0, .ref (bm 4), .ref (bm 5), .int 0, .ref (bm 6), .ref (bm 7), .int 0, .ref (bm 8), .ref (bm 9), .ref (bm 10), .int 0, .long 0, .ref (bm 11), .ref (bm 12), .ref (bm 13), .ref (bm 14), .int 0]))]) [0] (by decide) rfl
  have hK9 := hK.sub (tys' := []) [] rfl
  exact W.vret hx hb hr (fun t ht hW => ⟨⟨(), rfl, trivial, by rw [ht]; exact hP9, va_K.moved hW.alike hK9, hD9⟩, hS.F ht⟩) hS.2.2 dX10_bad_23

def wq_X10_usual_0 : List Cond := .code yX10_usual cX10_usual 2 (some .int) :: ([])
set_option maxHeartbeats 4000000 in
set_option maxRecDepth 100000 in
theorem c_X10_usual_0 (l : Launch) (dC : Nat → ClassId) (dI : Nat → Nat → Nat) : Met l yX10_usual wq_X10_usual_0 ({ frames := 0, cells := 0, slots := 0, locals := 0 }) (va_Pc [.int 115, .int 0] (q_R (dC, dI) [] [])) (q_i (4)) 0 0 (fun _ => False) := by
  refine Met.ofW (cc := cX10_usual) (maxL := 2) (ret := (some .int)) (by decide) rfl ?_
  intro p e s m args below meth c s₁ B hml hv
  obtain ⟨rfl, hP, hK⟩ := hv
  have hx := B.exec
  have hb := B.bytes
  have hr := B.returns
  have hts := atoms_spec (ws := wq_X10_usual_0) B.pre
  have hown : s.vm.findClass RX10 = some m.cls := findClass_of_methodNamed B.named
  have hlocks := B.notSynchronized
  have hS : va_S (fun _ => False) s.heap s.heap [] := va_S.rf
  have hl := lv_entry ([.int 115, .int 0]) (n := 2) (Nat.le_of_ble_eq_true rfl)
  rw [lg_entry_eq]
  generalize (lg_sl ([.int 115, .int 0]) ++ List.replicate (2 - (lg_sl ([.int 115, .int 0])).length) Slot.unset).toArray = ls at hl ⊢
  have hl : lv_has ls 2 [(0, .int 115), (1, .int 0)] := hl
  refine lv_iload_n hx hb dX10_usual_0 rfl (lv_at hl 0 rfl) ?_
  refine lv_bipush (v := 115) hx hb dX10_usual_1 (by decide) ?_
  refine lv_icmp_ne (tgt := 65) hx hb dX10_usual_3 (by decide) (fun c_1 => ?_) (fun c_1 => ?_)
  · exact absurd (by decide) c_1
  refine lv_iload_n hx hb dX10_usual_6 rfl (lv_at hl 1 rfl) ?_
  refine lv_tableIn (off := 41) (tgt := 48) hx hb dX10_usual_7 (by decide) (by decide) (by decide) (by decide) ?_
  refine lv_iconst (v := 4) hx hb dX10_usual_48 (by decide) ?_
  exact W.iret (v := 4) hx hb hr (fun t ht hW => ⟨⟨4, (), rfl, rfl, trivial⟩, hS.F ht⟩) hS.2.2 dX10_usual_49

def wq_X10_usual_1 : List Cond := .code yX10_usual cX10_usual 2 (some .int) :: ([])
set_option maxHeartbeats 4000000 in
set_option maxRecDepth 100000 in
theorem c_X10_usual_1 (l : Launch) (dC : Nat → ClassId) (dI : Nat → Nat → Nat) : Met l yX10_usual wq_X10_usual_1 ({ frames := 0, cells := 0, slots := 0, locals := 0 }) (va_Pc [.int 115, .int 1] (q_R (dC, dI) [] [])) (q_i (3)) 0 0 (fun _ => False) := by
  refine Met.ofW (cc := cX10_usual) (maxL := 2) (ret := (some .int)) (by decide) rfl ?_
  intro p e s m args below meth c s₁ B hml hv
  obtain ⟨rfl, hP, hK⟩ := hv
  have hx := B.exec
  have hb := B.bytes
  have hr := B.returns
  have hts := atoms_spec (ws := wq_X10_usual_1) B.pre
  have hown : s.vm.findClass RX10 = some m.cls := findClass_of_methodNamed B.named
  have hlocks := B.notSynchronized
  have hS : va_S (fun _ => False) s.heap s.heap [] := va_S.rf
  have hl := lv_entry ([.int 115, .int 1]) (n := 2) (Nat.le_of_ble_eq_true rfl)
  rw [lg_entry_eq]
  generalize (lg_sl ([.int 115, .int 1]) ++ List.replicate (2 - (lg_sl ([.int 115, .int 1])).length) Slot.unset).toArray = ls at hl ⊢
  have hl : lv_has ls 2 [(0, .int 115), (1, .int 1)] := hl
  refine lv_iload_n hx hb dX10_usual_0 rfl (lv_at hl 0 rfl) ?_
  refine lv_bipush (v := 115) hx hb dX10_usual_1 (by decide) ?_
  refine lv_icmp_ne (tgt := 65) hx hb dX10_usual_3 (by decide) (fun c_1 => ?_) (fun c_1 => ?_)
  · exact absurd (by decide) c_1
  refine lv_iload_n hx hb dX10_usual_6 rfl (lv_at hl 1 rfl) ?_
  refine lv_tableIn (off := 43) (tgt := 50) hx hb dX10_usual_7 (by decide) (by decide) (by decide) (by decide) ?_
  refine lv_iconst (v := 3) hx hb dX10_usual_50 (by decide) ?_
  exact W.iret (v := 3) hx hb hr (fun t ht hW => ⟨⟨3, (), rfl, rfl, trivial⟩, hS.F ht⟩) hS.2.2 dX10_usual_51

def wq_X10_usual_2 : List Cond := .code yX10_usual cX10_usual 2 (some .int) :: ([])
set_option maxHeartbeats 4000000 in
set_option maxRecDepth 100000 in
theorem c_X10_usual_2 (l : Launch) (dC : Nat → ClassId) (dI : Nat → Nat → Nat) : Met l yX10_usual wq_X10_usual_2 ({ frames := 0, cells := 0, slots := 0, locals := 0 }) (va_Pc [.int 115, .int 2] (q_R (dC, dI) [] [])) (q_i (2)) 0 0 (fun _ => False) := by
  refine Met.ofW (cc := cX10_usual) (maxL := 2) (ret := (some .int)) (by decide) rfl ?_
  intro p e s m args below meth c s₁ B hml hv
  obtain ⟨rfl, hP, hK⟩ := hv
  have hx := B.exec
  have hb := B.bytes
  have hr := B.returns
  have hts := atoms_spec (ws := wq_X10_usual_2) B.pre
  have hown : s.vm.findClass RX10 = some m.cls := findClass_of_methodNamed B.named
  have hlocks := B.notSynchronized
  have hS : va_S (fun _ => False) s.heap s.heap [] := va_S.rf
  have hl := lv_entry ([.int 115, .int 2]) (n := 2) (Nat.le_of_ble_eq_true rfl)
  rw [lg_entry_eq]
  generalize (lg_sl ([.int 115, .int 2]) ++ List.replicate (2 - (lg_sl ([.int 115, .int 2])).length) Slot.unset).toArray = ls at hl ⊢
  have hl : lv_has ls 2 [(0, .int 115), (1, .int 2)] := hl
  refine lv_iload_n hx hb dX10_usual_0 rfl (lv_at hl 0 rfl) ?_
  refine lv_bipush (v := 115) hx hb dX10_usual_1 (by decide) ?_
  refine lv_icmp_ne (tgt := 65) hx hb dX10_usual_3 (by decide) (fun c_1 => ?_) (fun c_1 => ?_)
  · exact absurd (by decide) c_1
  refine lv_iload_n hx hb dX10_usual_6 rfl (lv_at hl 1 rfl) ?_
  refine lv_tableIn (off := 45) (tgt := 52) hx hb dX10_usual_7 (by decide) (by decide) (by decide) (by decide) ?_
  refine lv_iconst (v := 2) hx hb dX10_usual_52 (by decide) ?_
  exact W.iret (v := 2) hx hb hr (fun t ht hW => ⟨⟨2, (), rfl, rfl, trivial⟩, hS.F ht⟩) hS.2.2 dX10_usual_53

def wq_X10_usual_3 : List Cond := .code yX10_usual cX10_usual 2 (some .int) :: ([])
set_option maxHeartbeats 4000000 in
set_option maxRecDepth 100000 in
theorem c_X10_usual_3 (l : Launch) (dC : Nat → ClassId) (dI : Nat → Nat → Nat) : Met l yX10_usual wq_X10_usual_3 ({ frames := 0, cells := 0, slots := 0, locals := 0 }) (va_Pc [.int 115, .int 3] (q_R (dC, dI) [] [])) (q_i (2)) 0 0 (fun _ => False) := by
  refine Met.ofW (cc := cX10_usual) (maxL := 2) (ret := (some .int)) (by decide) rfl ?_
  intro p e s m args below meth c s₁ B hml hv
  obtain ⟨rfl, hP, hK⟩ := hv
  have hx := B.exec
  have hb := B.bytes
  have hr := B.returns
  have hts := atoms_spec (ws := wq_X10_usual_3) B.pre
  have hown : s.vm.findClass RX10 = some m.cls := findClass_of_methodNamed B.named
  have hlocks := B.notSynchronized
  have hS : va_S (fun _ => False) s.heap s.heap [] := va_S.rf
  have hl := lv_entry ([.int 115, .int 3]) (n := 2) (Nat.le_of_ble_eq_true rfl)
  rw [lg_entry_eq]
  generalize (lg_sl ([.int 115, .int 3]) ++ List.replicate (2 - (lg_sl ([.int 115, .int 3])).length) Slot.unset).toArray = ls at hl ⊢
  have hl : lv_has ls 2 [(0, .int 115), (1, .int 3)] := hl
  refine lv_iload_n hx hb dX10_usual_0 rfl (lv_at hl 0 rfl) ?_
  refine lv_bipush (v := 115) hx hb dX10_usual_1 (by decide) ?_
  refine lv_icmp_ne (tgt := 65) hx hb dX10_usual_3 (by decide) (fun c_1 => ?_) (fun c_1 => ?_)
  · exact absurd (by decide) c_1
  refine lv_iload_n hx hb dX10_usual_6 rfl (lv_at hl 1 rfl) ?_
  refine lv_tableIn (off := 45) (tgt := 52) hx hb dX10_usual_7 (by decide) (by decide) (by decide) (by decide) ?_
  refine lv_iconst (v := 2) hx hb dX10_usual_52 (by decide) ?_
  exact W.iret (v := 2) hx hb hr (fun t ht hW => ⟨⟨2, (), rfl, rfl, trivial⟩, hS.F ht⟩) hS.2.2 dX10_usual_53

def wq_X10_usual_4 : List Cond := .code yX10_usual cX10_usual 2 (some .int) :: ([])
set_option maxHeartbeats 4000000 in
set_option maxRecDepth 100000 in
theorem c_X10_usual_4 (l : Launch) (dC : Nat → ClassId) (dI : Nat → Nat → Nat) : Met l yX10_usual wq_X10_usual_4 ({ frames := 0, cells := 0, slots := 0, locals := 0 }) (va_Pc [.int 115, .int 4] (q_R (dC, dI) [] [])) (q_i (5)) 0 0 (fun _ => False) := by
  refine Met.ofW (cc := cX10_usual) (maxL := 2) (ret := (some .int)) (by decide) rfl ?_
  intro p e s m args below meth c s₁ B hml hv
  obtain ⟨rfl, hP, hK⟩ := hv
  have hx := B.exec
  have hb := B.bytes
  have hr := B.returns
  have hts := atoms_spec (ws := wq_X10_usual_4) B.pre
  have hown : s.vm.findClass RX10 = some m.cls := findClass_of_methodNamed B.named
  have hlocks := B.notSynchronized
  have hS : va_S (fun _ => False) s.heap s.heap [] := va_S.rf
  have hl := lv_entry ([.int 115, .int 4]) (n := 2) (Nat.le_of_ble_eq_true rfl)
  rw [lg_entry_eq]
  generalize (lg_sl ([.int 115, .int 4]) ++ List.replicate (2 - (lg_sl ([.int 115, .int 4])).length) Slot.unset).toArray = ls at hl ⊢
  have hl : lv_has ls 2 [(0, .int 115), (1, .int 4)] := hl
  refine lv_iload_n hx hb dX10_usual_0 rfl (lv_at hl 0 rfl) ?_
  refine lv_bipush (v := 115) hx hb dX10_usual_1 (by decide) ?_
  refine lv_icmp_ne (tgt := 65) hx hb dX10_usual_3 (by decide) (fun c_1 => ?_) (fun c_1 => ?_)
  · exact absurd (by decide) c_1
  refine lv_iload_n hx hb dX10_usual_6 rfl (lv_at hl 1 rfl) ?_
  refine lv_tableIn (off := 47) (tgt := 54) hx hb dX10_usual_7 (by decide) (by decide) (by decide) (by decide) ?_
  refine lv_iconst (v := 5) hx hb dX10_usual_54 (by decide) ?_
  exact W.iret (v := 5) hx hb hr (fun t ht hW => ⟨⟨5, (), rfl, rfl, trivial⟩, hS.F ht⟩) hS.2.2 dX10_usual_55

def wq_X10_usual_5 : List Cond := .code yX10_usual cX10_usual 2 (some .int) :: ([])
set_option maxHeartbeats 4000000 in
set_option maxRecDepth 100000 in
theorem c_X10_usual_5 (l : Launch) (dC : Nat → ClassId) (dI : Nat → Nat → Nat) : Met l yX10_usual wq_X10_usual_5 ({ frames := 0, cells := 0, slots := 0, locals := 0 }) (va_Pc [.int 115, .int 5] (q_R (dC, dI) [] [])) (q_i (99)) 0 0 (fun _ => False) := by
  refine Met.ofW (cc := cX10_usual) (maxL := 2) (ret := (some .int)) (by decide) rfl ?_
  intro p e s m args below meth c s₁ B hml hv
  obtain ⟨rfl, hP, hK⟩ := hv
  have hx := B.exec
  have hb := B.bytes
  have hr := B.returns
  have hts := atoms_spec (ws := wq_X10_usual_5) B.pre
  have hown : s.vm.findClass RX10 = some m.cls := findClass_of_methodNamed B.named
  have hlocks := B.notSynchronized
  have hS : va_S (fun _ => False) s.heap s.heap [] := va_S.rf
  have hl := lv_entry ([.int 115, .int 5]) (n := 2) (Nat.le_of_ble_eq_true rfl)
  rw [lg_entry_eq]
  generalize (lg_sl ([.int 115, .int 5]) ++ List.replicate (2 - (lg_sl ([.int 115, .int 5])).length) Slot.unset).toArray = ls at hl ⊢
  have hl : lv_has ls 2 [(0, .int 115), (1, .int 5)] := hl
  refine lv_iload_n hx hb dX10_usual_0 rfl (lv_at hl 0 rfl) ?_
  refine lv_bipush (v := 115) hx hb dX10_usual_1 (by decide) ?_
  refine lv_icmp_ne (tgt := 65) hx hb dX10_usual_3 (by decide) (fun c_1 => ?_) (fun c_1 => ?_)
  · exact absurd (by decide) c_1
  refine lv_iload_n hx hb dX10_usual_6 rfl (lv_at hl 1 rfl) ?_
  refine lv_tableIn (off := 49) (tgt := 56) hx hb dX10_usual_7 (by decide) (by decide) (by decide) (by decide) ?_
  refine lv_bipush (v := 99) hx hb dX10_usual_56 (by decide) ?_
  exact W.iret (v := 99) hx hb hr (fun t ht hW => ⟨⟨99, (), rfl, rfl, trivial⟩, hS.F ht⟩) hS.2.2 dX10_usual_58

def wq_X10_usual_6 : List Cond := .code yX10_usual cX10_usual 2 (some .int) :: ([])
set_option maxHeartbeats 4000000 in
set_option maxRecDepth 100000 in
theorem c_X10_usual_6 (l : Launch) (dC : Nat → ClassId) (dI : Nat → Nat → Nat) : Met l yX10_usual wq_X10_usual_6 ({ frames := 0, cells := 0, slots := 0, locals := 0 }) (va_Pc [.int 115, .int 6] (q_R (dC, dI) [] [])) (q_i (60)) 0 0 (fun _ => False) := by
  refine Met.ofW (cc := cX10_usual) (maxL := 2) (ret := (some .int)) (by decide) rfl ?_
  intro p e s m args below meth c s₁ B hml hv
  obtain ⟨rfl, hP, hK⟩ := hv
  have hx := B.exec
  have hb := B.bytes
  have hr := B.returns
  have hts := atoms_spec (ws := wq_X10_usual_6) B.pre
  have hown : s.vm.findClass RX10 = some m.cls := findClass_of_methodNamed B.named
  have hlocks := B.notSynchronized
  have hS : va_S (fun _ => False) s.heap s.heap [] := va_S.rf
  have hl := lv_entry ([.int 115, .int 6]) (n := 2) (Nat.le_of_ble_eq_true rfl)
  rw [lg_entry_eq]
  generalize (lg_sl ([.int 115, .int 6]) ++ List.replicate (2 - (lg_sl ([.int 115, .int 6])).length) Slot.unset).toArray = ls at hl ⊢
  have hl : lv_has ls 2 [(0, .int 115), (1, .int 6)] := hl
  refine lv_iload_n hx hb dX10_usual_0 rfl (lv_at hl 0 rfl) ?_
  refine lv_bipush (v := 115) hx hb dX10_usual_1 (by decide) ?_
  refine lv_icmp_ne (tgt := 65) hx hb dX10_usual_3 (by decide) (fun c_1 => ?_) (fun c_1 => ?_)
  · exact absurd (by decide) c_1
  refine lv_iload_n hx hb dX10_usual_6 rfl (lv_at hl 1 rfl) ?_
  refine lv_tableIn (off := 52) (tgt := 59) hx hb dX10_usual_7 (by decide) (by decide) (by decide) (by decide) ?_
  refine lv_bipush (v := 60) hx hb dX10_usual_59 (by decide) ?_
  exact W.iret (v := 60) hx hb hr (fun t ht hW => ⟨⟨60, (), rfl, rfl, trivial⟩, hS.F ht⟩) hS.2.2 dX10_usual_61

def wq_X10_usual_7 : List Cond := .code yX10_usual cX10_usual 2 (some .int) :: ([])
set_option maxHeartbeats 4000000 in
set_option maxRecDepth 100000 in
theorem c_X10_usual_7 (l : Launch) (dC : Nat → ClassId) (dI : Nat → Nat → Nat) : Met l yX10_usual wq_X10_usual_7 ({ frames := 0, cells := 0, slots := 0, locals := 0 }) (va_Pc [.int 115, .int 7] (q_R (dC, dI) [] [])) (q_i (9)) 0 0 (fun _ => False) := by
  refine Met.ofW (cc := cX10_usual) (maxL := 2) (ret := (some .int)) (by decide) rfl ?_
  intro p e s m args below meth c s₁ B hml hv
  obtain ⟨rfl, hP, hK⟩ := hv
  have hx := B.exec
  have hb := B.bytes
  have hr := B.returns
  have hts := atoms_spec (ws := wq_X10_usual_7) B.pre
  have hown : s.vm.findClass RX10 = some m.cls := findClass_of_methodNamed B.named
  have hlocks := B.notSynchronized
  have hS : va_S (fun _ => False) s.heap s.heap [] := va_S.rf
  have hl := lv_entry ([.int 115, .int 7]) (n := 2) (Nat.le_of_ble_eq_true rfl)
  rw [lg_entry_eq]
  generalize (lg_sl ([.int 115, .int 7]) ++ List.replicate (2 - (lg_sl ([.int 115, .int 7])).length) Slot.unset).toArray = ls at hl ⊢
  have hl : lv_has ls 2 [(0, .int 115), (1, .int 7)] := hl
  refine lv_iload_n hx hb dX10_usual_0 rfl (lv_at hl 0 rfl) ?_
  refine lv_bipush (v := 115) hx hb dX10_usual_1 (by decide) ?_
  refine lv_icmp_ne (tgt := 65) hx hb dX10_usual_3 (by decide) (fun c_1 => ?_) (fun c_1 => ?_)
  · exact absurd (by decide) c_1
  refine lv_iload_n hx hb dX10_usual_6 rfl (lv_at hl 1 rfl) ?_
  refine lv_tableOut (tgt := 62) hx hb dX10_usual_7 (by decide) (by decide) ?_
  refine lv_bipush (v := 9) hx hb dX10_usual_62 (by decide) ?_
  exact W.iret (v := 9) hx hb hr (fun t ht hW => ⟨⟨9, (), rfl, rfl, trivial⟩, hS.F ht⟩) hS.2.2 dX10_usual_64

def wq_X10_sortOf : List Cond := .code yX10_sortOf cX10_sortOf 1 (some .int) :: ([])
set_option maxHeartbeats 4000000 in
set_option maxRecDepth 100000 in
theorem c_X10_sortOf (l : Launch) (dC : Nat → ClassId) (dI : Nat → Nat → Nat) : Met l yX10_sortOf wq_X10_sortOf ({ frames := 0, cells := 0, slots := 0, locals := 0 }) (va_Pc [.int (-1)] (q_R (dC, dI) [] [])) (q_i (-1)) 0 0 (fun _ => False) := by
  refine Met.ofW (cc := cX10_sortOf) (maxL := 1) (ret := (some .int)) (by decide) rfl ?_
  intro p e s m args below meth c s₁ B hml hv
  obtain ⟨rfl, hP, hK⟩ := hv
  have hx := B.exec
  have hb := B.bytes
  have hr := B.returns
  have hts := atoms_spec (ws := wq_X10_sortOf) B.pre
  have hown : s.vm.findClass RX10 = some m.cls := findClass_of_methodNamed B.named
  have hlocks := B.notSynchronized
  have hS : va_S (fun _ => False) s.heap s.heap [] := va_S.rf
  have hl := lv_entry ([.int (-1)]) (n := 1) (Nat.le_of_ble_eq_true rfl)
  rw [lg_entry_eq]
  generalize (lg_sl ([.int (-1)]) ++ List.replicate (1 - (lg_sl ([.int (-1)])).length) Slot.unset).toArray = ls at hl ⊢
  have hl : lv_has ls 1 [(0, .int (-1))] := hl
  refine lv_iload_n hx hb dX10_sortOf_0 rfl (lv_at hl 0 rfl) ?_
  refine lv_lookup (off := 71) (tgt := 72) hx hb dX10_sortOf_1 (by decide) (by decide) (by decide) ?_
  refine lv_iconst (v := (-1)) hx hb dX10_sortOf_72 (by decide) ?_
  exact W.iret (v := (-1)) hx hb hr (fun t ht hW => ⟨⟨(-1), (), rfl, rfl, trivial⟩, hS.F ht⟩) hS.2.2 dX10_sortOf_73

def wq_X10_readTree : List Cond := .code yX10_readTree cX10_readTree 4 (some .int) :: ([.fieldLink RX10 67 "HubTreeModel" "at" "I", .fieldLink RX10 74 "HubTreeModel" "wrong" "I", .fieldLink RX10 108 "HubTreeModel" "readMany" "I", .fieldLink RX10 13 "HubTreeModel" "readRule" "[I", .methodLink RX10 87 yX10_usual, .static yX10_usual, .initialized RX10, .code yX10_usual cX10_usual 2 (some .int), .methodLink RX10 77 yX10_ahead, .instanceMethod yX10_ahead, .selects RX10 yX10_ahead yX10_ahead, .code yX10_ahead cX10_ahead 1 (some .int), .methodLink RX10 70 yX10_here, .instanceMethod yX10_here, .selects RX10 yX10_here yX10_here, .code yX10_here cX10_here 1 (some .int), .fieldLink RX10 60 "HubTreeModel" "taped" "I", .methodLink RX10 84 yX10_bad, .instanceMethod yX10_bad, .selects RX10 yX10_bad yX10_bad, .code yX10_bad cX10_bad 1 none] ++ wsX100)
set_option maxRecDepth 20000 in
theorem g_X10_readTree_X10_usual_0_87 : GoodIn wq_X10_readTree (va_wsS RX10 87 yX10_usual wq_X10_usual_0) := goodIn_r _ [5, 6, 7, 8] (by decide +kernel) (by decide +kernel)
set_option maxRecDepth 20000 in
theorem g_X10_readTree_X10_usual_1_87 : GoodIn wq_X10_readTree (va_wsS RX10 87 yX10_usual wq_X10_usual_1) := goodIn_r _ [5, 6, 7, 8] (by decide +kernel) (by decide +kernel)
set_option maxRecDepth 20000 in
theorem g_X10_readTree_X10_usual_2_87 : GoodIn wq_X10_readTree (va_wsS RX10 87 yX10_usual wq_X10_usual_2) := goodIn_r _ [5, 6, 7, 8] (by decide +kernel) (by decide +kernel)
set_option maxRecDepth 20000 in
theorem g_X10_readTree_X10_usual_3_87 : GoodIn wq_X10_readTree (va_wsS RX10 87 yX10_usual wq_X10_usual_3) := goodIn_r _ [5, 6, 7, 8] (by decide +kernel) (by decide +kernel)
set_option maxRecDepth 20000 in
theorem g_X10_readTree_X10_usual_4_87 : GoodIn wq_X10_readTree (va_wsS RX10 87 yX10_usual wq_X10_usual_4) := goodIn_r _ [5, 6, 7, 8] (by decide +kernel) (by decide +kernel)
set_option maxRecDepth 20000 in
theorem g_X10_readTree_X10_usual_5_87 : GoodIn wq_X10_readTree (va_wsS RX10 87 yX10_usual wq_X10_usual_5) := goodIn_r _ [5, 6, 7, 8] (by decide +kernel) (by decide +kernel)
set_option maxRecDepth 20000 in
theorem g_X10_readTree_X10_usual_6_87 : GoodIn wq_X10_readTree (va_wsS RX10 87 yX10_usual wq_X10_usual_6) := goodIn_r _ [5, 6, 7, 8] (by decide +kernel) (by decide +kernel)
set_option maxRecDepth 20000 in
theorem g_X10_readTree_X10_usual_7_87 : GoodIn wq_X10_readTree (va_wsS RX10 87 yX10_usual wq_X10_usual_7) := goodIn_r _ [5, 6, 7, 8] (by decide +kernel) (by decide +kernel)
set_option maxRecDepth 20000 in
theorem g_X10_readTree_X10_ahead_77 : GoodIn wq_X10_readTree (wsV RX10 77 RX10 yX10_ahead wq_X10_ahead) := goodIn_r _ [9, 10, 11, 7, 12, 13, 14, 15, 7, 16, 1, 17, 22, 23, 24, 25, 26, 27, 28, 29, 30, 31, 32, 33, 34, 35, 36, 37, 38, 39, 40, 41, 42, 43, 44, 45] (by decide +kernel) (by decide +kernel)
set_option maxRecDepth 20000 in
theorem g_X10_readTree_X10_bad_84 : GoodIn wq_X10_readTree (wsV RX10 84 RX10 yX10_bad wq_X10_bad) := goodIn_r _ [18, 19, 20, 7, 21, 2, 1, 22, 23, 24, 25, 26, 27, 28, 29, 30, 31, 32, 33, 34, 35, 36, 37, 38, 39, 40, 41, 42, 43, 44, 45] (by decide +kernel) (by decide +kernel)
theorem iq_X10_readTree_10 : ∀ w ∈ wsX100, w ∈ wq_X10_readTree := fun _ h => List.mem_cons_of_mem _ (List.mem_append_right _ h)
set_option maxHeartbeats 4000000 in
set_option maxRecDepth 100000 in
theorem c_X10_readTree (l : Launch) (dC : Nat → ClassId) (dI : Nat → Nat → Nat) (bm : Nat → Nat) (km : Nat → ClassId) (A : Nat → Prop) : Met l yX10_readTree wq_X10_readTree ({ frames := 2, cells := 0, slots := 0, locals := 40 }) (va_Pc [.ref (bm 0)] (q_W (dC, dI) A [((bm 0), .inr (10, [.int 0, .ref (bm 1), .int 0, .int 0, .int 0, .ref (bm 2), .ref (bm 3), .int 0, .ref (bm 4), .ref (bm 5), .int 0, .ref (bm 6), .ref (bm 7), .int 0, .ref (bm 8), .ref (bm 9), .ref (bm 10), .int 0, .long 0, .ref (bm 11), .ref (bm 12), .ref (bm 13), .ref (bm 14), .int 0])), ((bm 2), .inl ((km 2), 8, .inl (fun _ => 0)))] [((km 2), .int)])) (q_wi (0) A) 0 0 A := by
  refine Met.ofW (cc := cX10_readTree) (maxL := 4) (ret := (some .int)) (by decide) rfl ?_
  intro p e s m args below meth c s₁ B hml hv
  obtain ⟨rfl, hP, hK, hD, hA⟩ := hv
  have hx := B.exec
  have hb := B.bytes
  have hr := B.returns
  have hts := atoms_spec (ws := wq_X10_readTree) B.pre
  have hown : s.vm.findClass RX10 = some m.cls := findClass_of_methodNamed B.named
  have hlocks := B.notSynchronized
  have hS : va_S A s.heap s.heap [] := va_S.rf
  have hl := lv_entry ([.ref (bm 0)]) (n := 4) (Nat.le_of_ble_eq_true rfl)
  rw [lg_entry_eq]
  generalize (lg_sl ([.ref (bm 0)]) ++ List.replicate (4 - (lg_sl ([.ref (bm 0)])).length) Slot.unset).toArray = ls at hl ⊢
  have hl : lv_has ls 4 [(0, .ref (bm 0))] := hl
  refine lv_aload_n hx hb dX10_readTree_0 rfl (lv_at hl 0 rfl) ?_
  refine lv_iconst (v := 0) hx hb dX10_readTree_1 (by decide) ?_
  refine va_put (D := (dC, dI)) (ci := 10) (v := .int 0) (ty := .int) (C := RX10) (T := TX10) (N := 24) hx hb hts iq_X10_readTree_10 tyX10 tyX10_ok nmX10 hown hK hP hD hS 0 rfl rfl 3 (by decide) (hts (.fieldLink RX10 67 "HubTreeModel" "at" "I") (List.mem_of_getElem? (i := 1) rfl)) (fun _ h9 => h9) rfl (by decide +kernel) rfl rfl (Nat.le_of_ble_eq_true rfl) dX10_readTree_2 (fun H locs hP hD hS => ?_)
  have hP : va_P (dC, dI) vwCl [((bm 0), .inr (10, [.int 0, .ref (bm 1), .int 0, .int 0, .int 0, .ref (bm 2), .ref (bm 3), .int 0, .ref (bm 4), .ref (bm 5), .int 0, .ref (bm 6), .ref (bm 7), .int 0, .ref (bm 8), .ref (bm 9), .ref (bm 10), .int 0, .long 0, .ref (bm 11), .ref (bm 12), .ref (bm 13), .ref (bm 14), .int 0])), ((bm 2), .inl ((km 2), 8, .inl (fun _ => 0)))] H := hP
  have hD : va_D A [((bm 0), .inr (10, [.int 0, .ref (bm 1), .int 0, .int 0, .int 0, .ref (bm 2), .ref (bm 3), .int 0, .ref (bm 4), .ref (bm 5), .int 0, .ref (bm 6), .ref (bm 7), .int 0, .ref (bm 8), .ref (bm 9), .ref (bm 10), .int 0, .long 0, .ref (bm 11), .ref (bm 12), .ref (bm 13), .ref (bm 14), .int 0])), ((bm 2), .inl ((km 2), 8, .inl (fun _ => 0)))] := hD
  refine lv_aload_n hx hb dX10_readTree_5 rfl (lv_at hl 0 rfl) ?_
  refine lv_iconst (v := (-1)) hx hb dX10_readTree_6 (by decide) ?_
  refine va_put (D := (dC, dI)) (ci := 10) (v := .int (-1)) (ty := .int) (C := RX10) (T := TX10) (N := 24) hx hb hts iq_X10_readTree_10 tyX10 tyX10_ok nmX10 hown hK hP hD hS 0 rfl rfl 4 (by decide) (hts (.fieldLink RX10 74 "HubTreeModel" "wrong" "I") (List.mem_of_getElem? (i := 2) rfl)) (fun _ h9 => h9) rfl (by decide +kernel) rfl rfl (Nat.le_of_ble_eq_true rfl) dX10_readTree_7 (fun H locs hP hD hS => ?_)
  have hP : va_P (dC, dI) vwCl [((bm 0), .inr (10, [.int 0, .ref (bm 1), .int 0, .int 0, .int (-1), .ref (bm 2), .ref (bm 3), .int 0, .ref (bm 4), .ref (bm 5), .int 0, .ref (bm 6), .ref (bm 7), .int 0, .ref (bm 8), .ref (bm 9), .ref (bm 10), .int 0, .long 0, .ref (bm 11), .ref (bm 12), .ref (bm 13), .ref (bm 14), .int 0])), ((bm 2), .inl ((km 2), 8, .inl (fun _ => 0)))] H := hP
  have hD : va_D A [((bm 0), .inr (10, [.int 0, .ref (bm 1), .int 0, .int 0, .int (-1), .ref (bm 2), .ref (bm 3), .int 0, .ref (bm 4), .ref (bm 5), .int 0, .ref (bm 6), .ref (bm 7), .int 0, .ref (bm 8), .ref (bm 9), .ref (bm 10), .int 0, .long 0, .ref (bm 11), .ref (bm 12), .ref (bm 13), .ref (bm 14), .int 0])), ((bm 2), .inl ((km 2), 8, .inl (fun _ => 0)))] := hD
  refine lv_aload_n hx hb dX10_readTree_10 rfl (lv_at hl 0 rfl) ?_
  refine lv_iconst (v := 0) hx hb dX10_readTree_11 (by decide) ?_
  refine va_put (D := (dC, dI)) (ci := 10) (v := .int 0) (ty := .int) (C := RX10) (T := TX10) (N := 24) hx hb hts iq_X10_readTree_10 tyX10 tyX10_ok nmX10 hown hK hP hD hS 0 rfl rfl 7 (by decide) (hts (.fieldLink RX10 108 "HubTreeModel" "readMany" "I") (List.mem_of_getElem? (i := 3) rfl)) (fun _ h9 => h9) rfl (by decide +kernel) rfl rfl (Nat.le_of_ble_eq_true rfl) dX10_readTree_12 (fun H locs hP hD hS => ?_)
  have hP : va_P (dC, dI) vwCl [((bm 0), .inr (10, [.int 0, .ref (bm 1), .int 0, .int 0, .int (-1), .ref (bm 2), .ref (bm 3), .int 0, .ref (bm 4), .ref (bm 5), .int 0, .ref (bm 6), .ref (bm 7), .int 0, .ref (bm 8), .ref (bm 9), .ref (bm 10), .int 0, .long 0, .ref (bm 11), .ref (bm 12), .ref (bm 13), .ref (bm 14), .int 0])), ((bm 2), .inl ((km 2), 8, .inl (fun _ => 0)))] H := hP
  have hD : va_D A [((bm 0), .inr (10, [.int 0, .ref (bm 1), .int 0, .int 0, .int (-1), .ref (bm 2), .ref (bm 3), .int 0, .ref (bm 4), .ref (bm 5), .int 0, .ref (bm 6), .ref (bm 7), .int 0, .ref (bm 8), .ref (bm 9), .ref (bm 10), .int 0, .long 0, .ref (bm 11), .ref (bm 12), .ref (bm 13), .ref (bm 14), .int 0])), ((bm 2), .inl ((km 2), 8, .inl (fun _ => 0)))] := hD
  refine lv_iconst (v := 0) hx hb dX10_readTree_15 (by decide) ?_
  refine lv_istore_n (lv' := [(1, .int 0), (0, .ref (bm 0))]) hx hb dX10_readTree_16 rfl hl (by decide) rfl (fun ls hl => ?_)
  refine lv_iconst (v := 0) hx hb dX10_readTree_17 (by decide) ?_
  refine lv_istore_n (lv' := [(2, .int 0), (1, .int 0), (0, .ref (bm 0))]) hx hb dX10_readTree_18 rfl hl (by decide) rfl (fun ls hl => ?_)
  refine lv_iload_n hx hb dX10_readTree_19 rfl (lv_at hl 0 rfl) ?_
  refine lv_bipush (v := 8) hx hb dX10_readTree_20 (by decide) ?_
  refine lv_icmp_ge (tgt := 43) hx hb dX10_readTree_22 (by decide) (fun c_1 => ?_) (fun c_1 => ?_)
  · exact absurd c_1 (by decide)
  refine lv_aload_n hx hb dX10_readTree_25 rfl (lv_at hl 2 rfl) ?_
  refine va_get (D := (dC, dI)) (ci := 10) (v := .ref (bm 2)) (C := RX10) (T := TX10) (N := 24) hx hb hts iq_X10_readTree_10 hown hK hP 0 rfl rfl 5 (by decide) (hts (.fieldLink RX10 13 "HubTreeModel" "readRule" "[I") (List.mem_of_getElem? (i := 4) rfl)) (fun _ h9 => h9) rfl dX10_readTree_26 ?_
  refine lv_iload_n hx hb dX10_readTree_29 rfl (lv_at hl 0 rfl) ?_
  refine lv_bipush (v := 115) hx hb dX10_readTree_30 (by decide) ?_
  refine lv_iload_n hx hb dX10_readTree_32 rfl (lv_at hl 0 rfl) ?_
  refine q_goi (v := 4) (va_runS (As := [.int 115, .int 0]) (rest := [.int 0, .ref (bm 2)]) ⟨hx, hb, hml, hown, hts⟩ (c_X10_usual_0 l dC dI) (va_cwS 2 hts g_X10_readTree_X10_usual_0_87 rfl rfl rfl (by decide +kernel) ⟨Nat.le_of_ble_eq_true rfl, Nat.le_of_ble_eq_true rfl⟩) (q_preS hK hP [] rfl [] rfl) rfl rfl hl.1 rfl (lv_room (Nat.le_of_ble_eq_true rfl)) dX10_readTree_33 ⟨Nat.le_of_ble_eq_true rfl, Nat.le_of_ble_eq_true rfl⟩) hP hS (fun H locs hP hS => ?_)
  refine va_iast hx hb hK hP hD hS 1 0 rfl rfl (i := 0) (x := 4) (vp_in_iff.mpr (by decide)) dX10_readTree_36 (fun H locs hP hD hS => ?_)
  obtain ⟨f_2, hP, hD⟩ : ∃ f9 : Nat → Int32, va_P (dC, dI) vwCl [((bm 0), .inr (10, [.int 0, .ref (bm 1), .int 0, .int 0, .int (-1), .ref (bm 2), .ref (bm 3), .int 0, .ref (bm 4), .ref (bm 5), .int 0, .ref (bm 6), .ref (bm 7), .int 0, .ref (bm 8), .ref (bm 9), .ref (bm 10), .int 0, .long 0, .ref (bm 11), .ref (bm 12), .ref (bm 13), .ref (bm 14), .int 0])), ((bm 2), .inl ((km 2), 8, .inl f9))] H ∧ va_D A [((bm 0), .inr (10, [.int 0, .ref (bm 1), .int 0, .int 0, .int (-1), .ref (bm 2), .ref (bm 3), .int 0, .ref (bm 4), .ref (bm 5), .int 0, .ref (bm 6), .ref (bm 7), .int 0, .ref (bm 8), .ref (bm 9), .ref (bm 10), .int 0, .long 0, .ref (bm 11), .ref (bm 12), .ref (bm 13), .ref (bm 14), .int 0])), ((bm 2), .inl ((km 2), 8, .inl f9))] := ⟨_, hP, hD⟩
  refine lv_iinc (v := 1) (lv' := [(2, .int 1), (1, .int 0), (0, .ref (bm 0))]) hx hb dX10_readTree_37 hl (k := 0) rfl (by decide) (by decide) rfl (fun ls hl => ?_)
  refine lv_goto (tgt := 19) hx hb dX10_readTree_40 (by decide) ?_
  refine lv_iload_n hx hb dX10_readTree_19 rfl (lv_at hl 0 rfl) ?_
  refine lv_bipush (v := 8) hx hb dX10_readTree_20 (by decide) ?_
  refine lv_icmp_ge (tgt := 43) hx hb dX10_readTree_22 (by decide) (fun c_3 => ?_) (fun c_3 => ?_)
  · exact absurd c_3 (by decide)
  refine lv_aload_n hx hb dX10_readTree_25 rfl (lv_at hl 2 rfl) ?_
  refine va_get (D := (dC, dI)) (ci := 10) (v := .ref (bm 2)) (C := RX10) (T := TX10) (N := 24) hx hb hts iq_X10_readTree_10 hown hK hP 0 rfl rfl 5 (by decide) (hts (.fieldLink RX10 13 "HubTreeModel" "readRule" "[I") (List.mem_of_getElem? (i := 4) rfl)) (fun _ h9 => h9) rfl dX10_readTree_26 ?_
  refine lv_iload_n hx hb dX10_readTree_29 rfl (lv_at hl 0 rfl) ?_
  refine lv_bipush (v := 115) hx hb dX10_readTree_30 (by decide) ?_
  refine lv_iload_n hx hb dX10_readTree_32 rfl (lv_at hl 0 rfl) ?_
  refine q_goi (v := 3) (va_runS (As := [.int 115, .int 1]) (rest := [.int 1, .ref (bm 2)]) ⟨hx, hb, hml, hown, hts⟩ (c_X10_usual_1 l dC dI) (va_cwS 2 hts g_X10_readTree_X10_usual_1_87 rfl rfl rfl (by decide +kernel) ⟨Nat.le_of_ble_eq_true rfl, Nat.le_of_ble_eq_true rfl⟩) (q_preS hK hP [] rfl [] rfl) rfl rfl hl.1 rfl (lv_room (Nat.le_of_ble_eq_true rfl)) dX10_readTree_33 ⟨Nat.le_of_ble_eq_true rfl, Nat.le_of_ble_eq_true rfl⟩) hP hS (fun H locs hP hS => ?_)
  refine va_iast hx hb hK hP hD hS 1 0 rfl rfl (i := 1) (x := 3) (vp_in_iff.mpr (by decide)) dX10_readTree_36 (fun H locs hP hD hS => ?_)
  obtain ⟨f_4, hP, hD⟩ : ∃ f9 : Nat → Int32, va_P (dC, dI) vwCl [((bm 0), .inr (10, [.int 0, .ref (bm 1), .int 0, .int 0, .int (-1), .ref (bm 2), .ref (bm 3), .int 0, .ref (bm 4), .ref (bm 5), .int 0, .ref (bm 6), .ref (bm 7), .int 0, .ref (bm 8), .ref (bm 9), .ref (bm 10), .int 0, .long 0, .ref (bm 11), .ref (bm 12), .ref (bm 13), .ref (bm 14), .int 0])), ((bm 2), .inl ((km 2), 8, .inl f9))] H ∧ va_D A [((bm 0), .inr (10, [.int 0, .ref (bm 1), .int 0, .int 0, .int (-1), .ref (bm 2), .ref (bm 3), .int 0, .ref (bm 4), .ref (bm 5), .int 0, .ref (bm 6), .ref (bm 7), .int 0, .ref (bm 8), .ref (bm 9), .ref (bm 10), .int 0, .long 0, .ref (bm 11), .ref (bm 12), .ref (bm 13), .ref (bm 14), .int 0])), ((bm 2), .inl ((km 2), 8, .inl f9))] := ⟨_, hP, hD⟩
  refine lv_iinc (v := 2) (lv' := [(2, .int 2), (1, .int 0), (0, .ref (bm 0))]) hx hb dX10_readTree_37 hl (k := 0) rfl (by decide) (by decide) rfl (fun ls hl => ?_)
  refine lv_goto (tgt := 19) hx hb dX10_readTree_40 (by decide) ?_
  refine lv_iload_n hx hb dX10_readTree_19 rfl (lv_at hl 0 rfl) ?_
  refine lv_bipush (v := 8) hx hb dX10_readTree_20 (by decide) ?_
  refine lv_icmp_ge (tgt := 43) hx hb dX10_readTree_22 (by decide) (fun c_5 => ?_) (fun c_5 => ?_)
  · exact absurd c_5 (by decide)
  refine lv_aload_n hx hb dX10_readTree_25 rfl (lv_at hl 2 rfl) ?_
  refine va_get (D := (dC, dI)) (ci := 10) (v := .ref (bm 2)) (C := RX10) (T := TX10) (N := 24) hx hb hts iq_X10_readTree_10 hown hK hP 0 rfl rfl 5 (by decide) (hts (.fieldLink RX10 13 "HubTreeModel" "readRule" "[I") (List.mem_of_getElem? (i := 4) rfl)) (fun _ h9 => h9) rfl dX10_readTree_26 ?_
  refine lv_iload_n hx hb dX10_readTree_29 rfl (lv_at hl 0 rfl) ?_
  refine lv_bipush (v := 115) hx hb dX10_readTree_30 (by decide) ?_
  refine lv_iload_n hx hb dX10_readTree_32 rfl (lv_at hl 0 rfl) ?_
  refine q_goi (v := 2) (va_runS (As := [.int 115, .int 2]) (rest := [.int 2, .ref (bm 2)]) ⟨hx, hb, hml, hown, hts⟩ (c_X10_usual_2 l dC dI) (va_cwS 2 hts g_X10_readTree_X10_usual_2_87 rfl rfl rfl (by decide +kernel) ⟨Nat.le_of_ble_eq_true rfl, Nat.le_of_ble_eq_true rfl⟩) (q_preS hK hP [] rfl [] rfl) rfl rfl hl.1 rfl (lv_room (Nat.le_of_ble_eq_true rfl)) dX10_readTree_33 ⟨Nat.le_of_ble_eq_true rfl, Nat.le_of_ble_eq_true rfl⟩) hP hS (fun H locs hP hS => ?_)
  refine va_iast hx hb hK hP hD hS 1 0 rfl rfl (i := 2) (x := 2) (vp_in_iff.mpr (by decide)) dX10_readTree_36 (fun H locs hP hD hS => ?_)
  obtain ⟨f_6, hP, hD⟩ : ∃ f9 : Nat → Int32, va_P (dC, dI) vwCl [((bm 0), .inr (10, [.int 0, .ref (bm 1), .int 0, .int 0, .int (-1), .ref (bm 2), .ref (bm 3), .int 0, .ref (bm 4), .ref (bm 5), .int 0, .ref (bm 6), .ref (bm 7), .int 0, .ref (bm 8), .ref (bm 9), .ref (bm 10), .int 0, .long 0, .ref (bm 11), .ref (bm 12), .ref (bm 13), .ref (bm 14), .int 0])), ((bm 2), .inl ((km 2), 8, .inl f9))] H ∧ va_D A [((bm 0), .inr (10, [.int 0, .ref (bm 1), .int 0, .int 0, .int (-1), .ref (bm 2), .ref (bm 3), .int 0, .ref (bm 4), .ref (bm 5), .int 0, .ref (bm 6), .ref (bm 7), .int 0, .ref (bm 8), .ref (bm 9), .ref (bm 10), .int 0, .long 0, .ref (bm 11), .ref (bm 12), .ref (bm 13), .ref (bm 14), .int 0])), ((bm 2), .inl ((km 2), 8, .inl f9))] := ⟨_, hP, hD⟩
  refine lv_iinc (v := 3) (lv' := [(2, .int 3), (1, .int 0), (0, .ref (bm 0))]) hx hb dX10_readTree_37 hl (k := 0) rfl (by decide) (by decide) rfl (fun ls hl => ?_)
  refine lv_goto (tgt := 19) hx hb dX10_readTree_40 (by decide) ?_
  refine lv_iload_n hx hb dX10_readTree_19 rfl (lv_at hl 0 rfl) ?_
  refine lv_bipush (v := 8) hx hb dX10_readTree_20 (by decide) ?_
  refine lv_icmp_ge (tgt := 43) hx hb dX10_readTree_22 (by decide) (fun c_7 => ?_) (fun c_7 => ?_)
  · exact absurd c_7 (by decide)
  refine lv_aload_n hx hb dX10_readTree_25 rfl (lv_at hl 2 rfl) ?_
  refine va_get (D := (dC, dI)) (ci := 10) (v := .ref (bm 2)) (C := RX10) (T := TX10) (N := 24) hx hb hts iq_X10_readTree_10 hown hK hP 0 rfl rfl 5 (by decide) (hts (.fieldLink RX10 13 "HubTreeModel" "readRule" "[I") (List.mem_of_getElem? (i := 4) rfl)) (fun _ h9 => h9) rfl dX10_readTree_26 ?_
  refine lv_iload_n hx hb dX10_readTree_29 rfl (lv_at hl 0 rfl) ?_
  refine lv_bipush (v := 115) hx hb dX10_readTree_30 (by decide) ?_
  refine lv_iload_n hx hb dX10_readTree_32 rfl (lv_at hl 0 rfl) ?_
  refine q_goi (v := 2) (va_runS (As := [.int 115, .int 3]) (rest := [.int 3, .ref (bm 2)]) ⟨hx, hb, hml, hown, hts⟩ (c_X10_usual_3 l dC dI) (va_cwS 2 hts g_X10_readTree_X10_usual_3_87 rfl rfl rfl (by decide +kernel) ⟨Nat.le_of_ble_eq_true rfl, Nat.le_of_ble_eq_true rfl⟩) (q_preS hK hP [] rfl [] rfl) rfl rfl hl.1 rfl (lv_room (Nat.le_of_ble_eq_true rfl)) dX10_readTree_33 ⟨Nat.le_of_ble_eq_true rfl, Nat.le_of_ble_eq_true rfl⟩) hP hS (fun H locs hP hS => ?_)
  refine va_iast hx hb hK hP hD hS 1 0 rfl rfl (i := 3) (x := 2) (vp_in_iff.mpr (by decide)) dX10_readTree_36 (fun H locs hP hD hS => ?_)
  obtain ⟨f_8, hP, hD⟩ : ∃ f9 : Nat → Int32, va_P (dC, dI) vwCl [((bm 0), .inr (10, [.int 0, .ref (bm 1), .int 0, .int 0, .int (-1), .ref (bm 2), .ref (bm 3), .int 0, .ref (bm 4), .ref (bm 5), .int 0, .ref (bm 6), .ref (bm 7), .int 0, .ref (bm 8), .ref (bm 9), .ref (bm 10), .int 0, .long 0, .ref (bm 11), .ref (bm 12), .ref (bm 13), .ref (bm 14), .int 0])), ((bm 2), .inl ((km 2), 8, .inl f9))] H ∧ va_D A [((bm 0), .inr (10, [.int 0, .ref (bm 1), .int 0, .int 0, .int (-1), .ref (bm 2), .ref (bm 3), .int 0, .ref (bm 4), .ref (bm 5), .int 0, .ref (bm 6), .ref (bm 7), .int 0, .ref (bm 8), .ref (bm 9), .ref (bm 10), .int 0, .long 0, .ref (bm 11), .ref (bm 12), .ref (bm 13), .ref (bm 14), .int 0])), ((bm 2), .inl ((km 2), 8, .inl f9))] := ⟨_, hP, hD⟩
  refine lv_iinc (v := 4) (lv' := [(2, .int 4), (1, .int 0), (0, .ref (bm 0))]) hx hb dX10_readTree_37 hl (k := 0) rfl (by decide) (by decide) rfl (fun ls hl => ?_)
  refine lv_goto (tgt := 19) hx hb dX10_readTree_40 (by decide) ?_
  refine lv_iload_n hx hb dX10_readTree_19 rfl (lv_at hl 0 rfl) ?_
  refine lv_bipush (v := 8) hx hb dX10_readTree_20 (by decide) ?_
  refine lv_icmp_ge (tgt := 43) hx hb dX10_readTree_22 (by decide) (fun c_9 => ?_) (fun c_9 => ?_)
  · exact absurd c_9 (by decide)
  refine lv_aload_n hx hb dX10_readTree_25 rfl (lv_at hl 2 rfl) ?_
  refine va_get (D := (dC, dI)) (ci := 10) (v := .ref (bm 2)) (C := RX10) (T := TX10) (N := 24) hx hb hts iq_X10_readTree_10 hown hK hP 0 rfl rfl 5 (by decide) (hts (.fieldLink RX10 13 "HubTreeModel" "readRule" "[I") (List.mem_of_getElem? (i := 4) rfl)) (fun _ h9 => h9) rfl dX10_readTree_26 ?_
  refine lv_iload_n hx hb dX10_readTree_29 rfl (lv_at hl 0 rfl) ?_
  refine lv_bipush (v := 115) hx hb dX10_readTree_30 (by decide) ?_
  refine lv_iload_n hx hb dX10_readTree_32 rfl (lv_at hl 0 rfl) ?_
  refine q_goi (v := 5) (va_runS (As := [.int 115, .int 4]) (rest := [.int 4, .ref (bm 2)]) ⟨hx, hb, hml, hown, hts⟩ (c_X10_usual_4 l dC dI) (va_cwS 2 hts g_X10_readTree_X10_usual_4_87 rfl rfl rfl (by decide +kernel) ⟨Nat.le_of_ble_eq_true rfl, Nat.le_of_ble_eq_true rfl⟩) (q_preS hK hP [] rfl [] rfl) rfl rfl hl.1 rfl (lv_room (Nat.le_of_ble_eq_true rfl)) dX10_readTree_33 ⟨Nat.le_of_ble_eq_true rfl, Nat.le_of_ble_eq_true rfl⟩) hP hS (fun H locs hP hS => ?_)
  refine va_iast hx hb hK hP hD hS 1 0 rfl rfl (i := 4) (x := 5) (vp_in_iff.mpr (by decide)) dX10_readTree_36 (fun H locs hP hD hS => ?_)
  obtain ⟨f_10, hP, hD⟩ : ∃ f9 : Nat → Int32, va_P (dC, dI) vwCl [((bm 0), .inr (10, [.int 0, .ref (bm 1), .int 0, .int 0, .int (-1), .ref (bm 2), .ref (bm 3), .int 0, .ref (bm 4), .ref (bm 5), .int 0, .ref (bm 6), .ref (bm 7), .int 0, .ref (bm 8), .ref (bm 9), .ref (bm 10), .int 0, .long 0, .ref (bm 11), .ref (bm 12), .ref (bm 13), .ref (bm 14), .int 0])), ((bm 2), .inl ((km 2), 8, .inl f9))] H ∧ va_D A [((bm 0), .inr (10, [.int 0, .ref (bm 1), .int 0, .int 0, .int (-1), .ref (bm 2), .ref (bm 3), .int 0, .ref (bm 4), .ref (bm 5), .int 0, .ref (bm 6), .ref (bm 7), .int 0, .ref (bm 8), .ref (bm 9), .ref (bm 10), .int 0, .long 0, .ref (bm 11), .ref (bm 12), .ref (bm 13), .ref (bm 14), .int 0])), ((bm 2), .inl ((km 2), 8, .inl f9))] := ⟨_, hP, hD⟩
  refine lv_iinc (v := 5) (lv' := [(2, .int 5), (1, .int 0), (0, .ref (bm 0))]) hx hb dX10_readTree_37 hl (k := 0) rfl (by decide) (by decide) rfl (fun ls hl => ?_)
  refine lv_goto (tgt := 19) hx hb dX10_readTree_40 (by decide) ?_
  refine lv_iload_n hx hb dX10_readTree_19 rfl (lv_at hl 0 rfl) ?_
  refine lv_bipush (v := 8) hx hb dX10_readTree_20 (by decide) ?_
  refine lv_icmp_ge (tgt := 43) hx hb dX10_readTree_22 (by decide) (fun c_11 => ?_) (fun c_11 => ?_)
  · exact absurd c_11 (by decide)
  refine lv_aload_n hx hb dX10_readTree_25 rfl (lv_at hl 2 rfl) ?_
  refine va_get (D := (dC, dI)) (ci := 10) (v := .ref (bm 2)) (C := RX10) (T := TX10) (N := 24) hx hb hts iq_X10_readTree_10 hown hK hP 0 rfl rfl 5 (by decide) (hts (.fieldLink RX10 13 "HubTreeModel" "readRule" "[I") (List.mem_of_getElem? (i := 4) rfl)) (fun _ h9 => h9) rfl dX10_readTree_26 ?_
  refine lv_iload_n hx hb dX10_readTree_29 rfl (lv_at hl 0 rfl) ?_
  refine lv_bipush (v := 115) hx hb dX10_readTree_30 (by decide) ?_
  refine lv_iload_n hx hb dX10_readTree_32 rfl (lv_at hl 0 rfl) ?_
  refine q_goi (v := 99) (va_runS (As := [.int 115, .int 5]) (rest := [.int 5, .ref (bm 2)]) ⟨hx, hb, hml, hown, hts⟩ (c_X10_usual_5 l dC dI) (va_cwS 2 hts g_X10_readTree_X10_usual_5_87 rfl rfl rfl (by decide +kernel) ⟨Nat.le_of_ble_eq_true rfl, Nat.le_of_ble_eq_true rfl⟩) (q_preS hK hP [] rfl [] rfl) rfl rfl hl.1 rfl (lv_room (Nat.le_of_ble_eq_true rfl)) dX10_readTree_33 ⟨Nat.le_of_ble_eq_true rfl, Nat.le_of_ble_eq_true rfl⟩) hP hS (fun H locs hP hS => ?_)
  refine va_iast hx hb hK hP hD hS 1 0 rfl rfl (i := 5) (x := 99) (vp_in_iff.mpr (by decide)) dX10_readTree_36 (fun H locs hP hD hS => ?_)
  obtain ⟨f_12, hP, hD⟩ : ∃ f9 : Nat → Int32, va_P (dC, dI) vwCl [((bm 0), .inr (10, [.int 0, .ref (bm 1), .int 0, .int 0, .int (-1), .ref (bm 2), .ref (bm 3), .int 0, .ref (bm 4), .ref (bm 5), .int 0, .ref (bm 6), .ref (bm 7), .int 0, .ref (bm 8), .ref (bm 9), .ref (bm 10), .int 0, .long 0, .ref (bm 11), .ref (bm 12), .ref (bm 13), .ref (bm 14), .int 0])), ((bm 2), .inl ((km 2), 8, .inl f9))] H ∧ va_D A [((bm 0), .inr (10, [.int 0, .ref (bm 1), .int 0, .int 0, .int (-1), .ref (bm 2), .ref (bm 3), .int 0, .ref (bm 4), .ref (bm 5), .int 0, .ref (bm 6), .ref (bm 7), .int 0, .ref (bm 8), .ref (bm 9), .ref (bm 10), .int 0, .long 0, .ref (bm 11), .ref (bm 12), .ref (bm 13), .ref (bm 14), .int 0])), ((bm 2), .inl ((km 2), 8, .inl f9))] := ⟨_, hP, hD⟩
  refine lv_iinc (v := 6) (lv' := [(2, .int 6), (1, .int 0), (0, .ref (bm 0))]) hx hb dX10_readTree_37 hl (k := 0) rfl (by decide) (by decide) rfl (fun ls hl => ?_)
  refine lv_goto (tgt := 19) hx hb dX10_readTree_40 (by decide) ?_
  refine lv_iload_n hx hb dX10_readTree_19 rfl (lv_at hl 0 rfl) ?_
  refine lv_bipush (v := 8) hx hb dX10_readTree_20 (by decide) ?_
  refine lv_icmp_ge (tgt := 43) hx hb dX10_readTree_22 (by decide) (fun c_13 => ?_) (fun c_13 => ?_)
  · exact absurd c_13 (by decide)
  refine lv_aload_n hx hb dX10_readTree_25 rfl (lv_at hl 2 rfl) ?_
  refine va_get (D := (dC, dI)) (ci := 10) (v := .ref (bm 2)) (C := RX10) (T := TX10) (N := 24) hx hb hts iq_X10_readTree_10 hown hK hP 0 rfl rfl 5 (by decide) (hts (.fieldLink RX10 13 "HubTreeModel" "readRule" "[I") (List.mem_of_getElem? (i := 4) rfl)) (fun _ h9 => h9) rfl dX10_readTree_26 ?_
  refine lv_iload_n hx hb dX10_readTree_29 rfl (lv_at hl 0 rfl) ?_
  refine lv_bipush (v := 115) hx hb dX10_readTree_30 (by decide) ?_
  refine lv_iload_n hx hb dX10_readTree_32 rfl (lv_at hl 0 rfl) ?_
  refine q_goi (v := 60) (va_runS (As := [.int 115, .int 6]) (rest := [.int 6, .ref (bm 2)]) ⟨hx, hb, hml, hown, hts⟩ (c_X10_usual_6 l dC dI) (va_cwS 2 hts g_X10_readTree_X10_usual_6_87 rfl rfl rfl (by decide +kernel) ⟨Nat.le_of_ble_eq_true rfl, Nat.le_of_ble_eq_true rfl⟩) (q_preS hK hP [] rfl [] rfl) rfl rfl hl.1 rfl (lv_room (Nat.le_of_ble_eq_true rfl)) dX10_readTree_33 ⟨Nat.le_of_ble_eq_true rfl, Nat.le_of_ble_eq_true rfl⟩) hP hS (fun H locs hP hS => ?_)
  refine va_iast hx hb hK hP hD hS 1 0 rfl rfl (i := 6) (x := 60) (vp_in_iff.mpr (by decide)) dX10_readTree_36 (fun H locs hP hD hS => ?_)
  obtain ⟨f_14, hP, hD⟩ : ∃ f9 : Nat → Int32, va_P (dC, dI) vwCl [((bm 0), .inr (10, [.int 0, .ref (bm 1), .int 0, .int 0, .int (-1), .ref (bm 2), .ref (bm 3), .int 0, .ref (bm 4), .ref (bm 5), .int 0, .ref (bm 6), .ref (bm 7), .int 0, .ref (bm 8), .ref (bm 9), .ref (bm 10), .int 0, .long 0, .ref (bm 11), .ref (bm 12), .ref (bm 13), .ref (bm 14), .int 0])), ((bm 2), .inl ((km 2), 8, .inl f9))] H ∧ va_D A [((bm 0), .inr (10, [.int 0, .ref (bm 1), .int 0, .int 0, .int (-1), .ref (bm 2), .ref (bm 3), .int 0, .ref (bm 4), .ref (bm 5), .int 0, .ref (bm 6), .ref (bm 7), .int 0, .ref (bm 8), .ref (bm 9), .ref (bm 10), .int 0, .long 0, .ref (bm 11), .ref (bm 12), .ref (bm 13), .ref (bm 14), .int 0])), ((bm 2), .inl ((km 2), 8, .inl f9))] := ⟨_, hP, hD⟩
  refine lv_iinc (v := 7) (lv' := [(2, .int 7), (1, .int 0), (0, .ref (bm 0))]) hx hb dX10_readTree_37 hl (k := 0) rfl (by decide) (by decide) rfl (fun ls hl => ?_)
  refine lv_goto (tgt := 19) hx hb dX10_readTree_40 (by decide) ?_
  refine lv_iload_n hx hb dX10_readTree_19 rfl (lv_at hl 0 rfl) ?_
  refine lv_bipush (v := 8) hx hb dX10_readTree_20 (by decide) ?_
  refine lv_icmp_ge (tgt := 43) hx hb dX10_readTree_22 (by decide) (fun c_15 => ?_) (fun c_15 => ?_)
  · exact absurd c_15 (by decide)
  refine lv_aload_n hx hb dX10_readTree_25 rfl (lv_at hl 2 rfl) ?_
  refine va_get (D := (dC, dI)) (ci := 10) (v := .ref (bm 2)) (C := RX10) (T := TX10) (N := 24) hx hb hts iq_X10_readTree_10 hown hK hP 0 rfl rfl 5 (by decide) (hts (.fieldLink RX10 13 "HubTreeModel" "readRule" "[I") (List.mem_of_getElem? (i := 4) rfl)) (fun _ h9 => h9) rfl dX10_readTree_26 ?_
  refine lv_iload_n hx hb dX10_readTree_29 rfl (lv_at hl 0 rfl) ?_
  refine lv_bipush (v := 115) hx hb dX10_readTree_30 (by decide) ?_
  refine lv_iload_n hx hb dX10_readTree_32 rfl (lv_at hl 0 rfl) ?_
  refine q_goi (v := 9) (va_runS (As := [.int 115, .int 7]) (rest := [.int 7, .ref (bm 2)]) ⟨hx, hb, hml, hown, hts⟩ (c_X10_usual_7 l dC dI) (va_cwS 2 hts g_X10_readTree_X10_usual_7_87 rfl rfl rfl (by decide +kernel) ⟨Nat.le_of_ble_eq_true rfl, Nat.le_of_ble_eq_true rfl⟩) (q_preS hK hP [] rfl [] rfl) rfl rfl hl.1 rfl (lv_room (Nat.le_of_ble_eq_true rfl)) dX10_readTree_33 ⟨Nat.le_of_ble_eq_true rfl, Nat.le_of_ble_eq_true rfl⟩) hP hS (fun H locs hP hS => ?_)
  refine va_iast hx hb hK hP hD hS 1 0 rfl rfl (i := 7) (x := 9) (vp_in_iff.mpr (by decide)) dX10_readTree_36 (fun H locs hP hD hS => ?_)
  obtain ⟨f_16, hP, hD⟩ : ∃ f9 : Nat → Int32, va_P (dC, dI) vwCl [((bm 0), .inr (10, [.int 0, .ref (bm 1), .int 0, .int 0, .int (-1), .ref (bm 2), .ref (bm 3), .int 0, .ref (bm 4), .ref (bm 5), .int 0, .ref (bm 6), .ref (bm 7), .int 0, .ref (bm 8), .ref (bm 9), .ref (bm 10), .int 0, .long 0, .ref (bm 11), .ref (bm 12), .ref (bm 13), .ref (bm 14), .int 0])), ((bm 2), .inl ((km 2), 8, .inl f9))] H ∧ va_D A [((bm 0), .inr (10, [.int 0, .ref (bm 1), .int 0, .int 0, .int (-1), .ref (bm 2), .ref (bm 3), .int 0, .ref (bm 4), .ref (bm 5), .int 0, .ref (bm 6), .ref (bm 7), .int 0, .ref (bm 8), .ref (bm 9), .ref (bm 10), .int 0, .long 0, .ref (bm 11), .ref (bm 12), .ref (bm 13), .ref (bm 14), .int 0])), ((bm 2), .inl ((km 2), 8, .inl f9))] := ⟨_, hP, hD⟩
  refine lv_iinc (v := 8) (lv' := [(2, .int 8), (1, .int 0), (0, .ref (bm 0))]) hx hb dX10_readTree_37 hl (k := 0) rfl (by decide) (by decide) rfl (fun ls hl => ?_)
  refine lv_goto (tgt := 19) hx hb dX10_readTree_40 (by decide) ?_
  refine lv_iload_n hx hb dX10_readTree_19 rfl (lv_at hl 0 rfl) ?_
  refine lv_bipush (v := 8) hx hb dX10_readTree_20 (by decide) ?_
  refine lv_icmp_ge (tgt := 43) hx hb dX10_readTree_22 (by decide) (fun c_17 => ?_) (fun c_17 => ?_)
  · skip
    refine lv_iconst (v := 1) hx hb dX10_readTree_43 (by decide) ?_
    refine lv_istore_n (lv' := [(2, .int 1), (1, .int 0), (0, .ref (bm 0))]) hx hb dX10_readTree_44 rfl hl (by decide) rfl (fun ls hl => ?_)
    refine lv_iload_n hx hb dX10_readTree_45 rfl (lv_at hl 0 rfl) ?_
    refine lv_if_eq (tgt := 203) hx hb dX10_readTree_46 (by decide) (fun c_18 => ?_) (fun c_18 => ?_)
    · exact absurd c_18 (by decide)
    refine lv_aload_n hx hb dX10_readTree_49 rfl (lv_at hl 2 rfl) ?_
    refine va_get (D := (dC, dI)) (ci := 10) (v := .int (-1)) (C := RX10) (T := TX10) (N := 24) hx hb hts iq_X10_readTree_10 hown hK hP 0 rfl rfl 4 (by decide) (hts (.fieldLink RX10 74 "HubTreeModel" "wrong" "I") (List.mem_of_getElem? (i := 2) rfl)) (fun _ h9 => h9) rfl dX10_readTree_50 ?_
    refine lv_iconst (v := (-1)) hx hb dX10_readTree_53 (by decide) ?_
    refine lv_icmp_ne (tgt := 203) hx hb dX10_readTree_54 (by decide) (fun c_19 => ?_) (fun c_19 => ?_)
    · exact absurd (by decide) c_19
    refine lv_aload_n hx hb dX10_readTree_57 rfl (lv_at hl 2 rfl) ?_
    refine q_goi (v := (-1)) (va_runV (As := []) (rest := []) ⟨hx, hb, hml, hown, hts⟩ (c_X10_ahead l dC dI bm (-1)) (cwV 0 hts g_X10_readTree_X10_ahead_77 rfl rfl rfl (by decide +kernel) ⟨Nat.le_of_ble_eq_true rfl, Nat.le_of_ble_eq_true rfl⟩) (q_preV hK hP (ci := 10) (q0 := 0) rfl rfl [0] rfl [] rfl) rfl rfl hl.1 rfl (lv_room (Nat.le_of_ble_eq_true rfl)) dX10_readTree_58 ⟨Nat.le_of_ble_eq_true rfl, Nat.le_of_ble_eq_true rfl⟩) hP hS (fun H locs hP hS => ?_)
    refine lv_istore_n (lv' := [(3, .int (-1)), (2, .int 1), (1, .int 0), (0, .ref (bm 0))]) hx hb dX10_readTree_61 rfl hl (by decide) rfl (fun ls hl => ?_)
    refine lv_iload_n hx hb dX10_readTree_62 rfl (lv_at hl 0 rfl) ?_
    refine lv_bipush (v := 115) hx hb dX10_readTree_63 (by decide) ?_
    refine lv_icmp_ne (tgt := 99) hx hb dX10_readTree_65 (by decide) (fun c_20 => ?_) (fun c_20 => ?_)
    · skip
      refine lv_iload_n hx hb dX10_readTree_99 rfl (lv_at hl 0 rfl) ?_
      refine lv_bipush (v := 100) hx hb dX10_readTree_100 (by decide) ?_
      refine lv_icmp_ne (tgt := 155) hx hb dX10_readTree_102 (by decide) (fun c_21 => ?_) (fun c_21 => ?_)
      · skip
        refine lv_aload_n hx hb dX10_readTree_155 rfl (lv_at hl 3 rfl) ?_
        refine q_gov2 (wr := [((bm 2), .inl ((km 2), 8, .inl f_16))]) (va_runV (As := []) (rest := []) ⟨hx, hb, hml, hown, hts⟩ (c_X10_bad l dC dI bm (va_A [((bm 0), .inr (10, [.int 0, .ref (bm 1), .int 0, .int 0, .int (-1), .ref (bm 2), .ref (bm 3), .int 0, .ref (bm 4), .ref (bm 5), .int 0, .ref (bm 6), .ref (bm 7), .int 0, .ref (bm 8), .ref (bm 9), .ref (bm 10), .int 0, .long 0, .ref (bm 11), .ref (bm 12), .ref (bm 13), .ref (bm 14), .int 0]))] H.size)) (cwV 0 hts g_X10_readTree_X10_bad_84 rfl rfl rfl (by decide +kernel) ⟨Nat.le_of_ble_eq_true rfl, Nat.le_of_ble_eq_true rfl⟩) (q_preWV hK hP hD (ci := 10) (q0 := 0) rfl rfl [0] (by decide) rfl rfl [] rfl) rfl rfl hl.1 rfl (lv_room (Nat.le_of_ble_eq_true rfl)) dX10_readTree_156 ⟨Nat.le_of_ble_eq_true rfl, Nat.le_of_ble_eq_true rfl⟩) hK hP hD hS hA [0] [1] rfl rfl (by decide) (by decide) (fun u_22 H locs h_23 hP hD hK hS => ?_)
        have hP : va_P (dC, dI) vwCl [((bm 2), .inl ((km 2), 8, .inl f_16)), ((bm 0), .inr (10, [.int 0, .ref (bm 1), .int 0, .int 0, .int 0, .ref (bm 2), .ref (bm 3), .int 0, .ref (bm 4), .ref (bm 5), .int 0, .ref (bm 6), .ref (bm 7), .int 0, .ref (bm 8), .ref (bm 9), .ref (bm 10), .int 0, .long 0, .ref (bm 11), .ref (bm 12), .ref (bm 13), .ref (bm 14), .int 0]))] H := hP
        have hD : va_D A [((bm 2), .inl ((km 2), 8, .inl f_16)), ((bm 0), .inr (10, [.int 0, .ref (bm 1), .int 0, .int 0, .int 0, .ref (bm 2), .ref (bm 3), .int 0, .ref (bm 4), .ref (bm 5), .int 0, .ref (bm 6), .ref (bm 7), .int 0, .ref (bm 8), .ref (bm 9), .ref (bm 10), .int 0, .long 0, .ref (bm 11), .ref (bm 12), .ref (bm 13), .ref (bm 14), .int 0]))] := hD
        have hK : va_K (dC, dI) vwCl [((km 2), .int)] s := hK
        refine lv_aload_n hx hb dX10_readTree_159 rfl (lv_at hl 3 rfl) ?_
        refine va_get (D := (dC, dI)) (ci := 10) (v := .int 0) (C := RX10) (T := TX10) (N := 24) hx hb hts iq_X10_readTree_10 hown hK hP 1 rfl rfl 4 (by decide) (hts (.fieldLink RX10 74 "HubTreeModel" "wrong" "I") (List.mem_of_getElem? (i := 2) rfl)) (fun _ h9 => h9) rfl dX10_readTree_160 ?_
        refine lv_iconst (v := (-1)) hx hb dX10_readTree_163 (by decide) ?_
        refine lv_icmp_ne (tgt := 180) hx hb dX10_readTree_164 (by decide) (fun c_24 => ?_) (fun c_24 => ?_)
        · skip
          refine lv_iconst (v := 0) hx hb dX10_readTree_180 (by decide) ?_
          refine lv_istore_n (lv' := [(2, .int 0), (3, .int (-1)), (1, .int 0), (0, .ref (bm 0))]) hx hb dX10_readTree_181 rfl hl (by decide) rfl (fun ls hl => ?_)
          refine lv_aload_n hx hb dX10_readTree_182 rfl (lv_at hl 3 rfl) ?_
          refine lv_dup hx hb dX10_readTree_183 rfl ?_
          refine va_get (D := (dC, dI)) (ci := 10) (v := .int 0) (C := RX10) (T := TX10) (N := 24) hx hb hts iq_X10_readTree_10 hown hK hP 1 rfl rfl 3 (by decide) (hts (.fieldLink RX10 67 "HubTreeModel" "at" "I") (List.mem_of_getElem? (i := 1) rfl)) (fun _ h9 => h9) rfl dX10_readTree_184 ?_
          refine lv_iload_n hx hb dX10_readTree_187 rfl (lv_at hl 0 rfl) ?_
          refine lv_if_eq (tgt := 195) hx hb dX10_readTree_188 (by decide) (fun c_25 => ?_) (fun c_25 => ?_)
          · skip
            refine lv_iconst (v := 0) hx hb dX10_readTree_195 (by decide) ?_
            refine lv_iadd hx hb dX10_readTree_196 ?_
            refine q_top (y := 0) (by decide) ?_
            refine va_put (D := (dC, dI)) (ci := 10) (v := .int 0) (ty := .int) (C := RX10) (T := TX10) (N := 24) hx hb hts iq_X10_readTree_10 tyX10 tyX10_ok nmX10 hown hK hP hD hS 1 rfl rfl 3 (by decide) (hts (.fieldLink RX10 67 "HubTreeModel" "at" "I") (List.mem_of_getElem? (i := 1) rfl)) (fun _ h9 => h9) rfl (by decide +kernel) rfl rfl (Nat.le_of_ble_eq_true rfl) dX10_readTree_197 (fun H locs hP hD hS => ?_)
            have hP : va_P (dC, dI) vwCl [((bm 2), .inl ((km 2), 8, .inl f_16)), ((bm 0), .inr (10, [.int 0, .ref (bm 1), .int 0, .int 0, .int 0, .ref (bm 2), .ref (bm 3), .int 0, .ref (bm 4), .ref (bm 5), .int 0, .ref (bm 6), .ref (bm 7), .int 0, .ref (bm 8), .ref (bm 9), .ref (bm 10), .int 0, .long 0, .ref (bm 11), .ref (bm 12), .ref (bm 13), .ref (bm 14), .int 0]))] H := hP
            have hD : va_D A [((bm 2), .inl ((km 2), 8, .inl f_16)), ((bm 0), .inr (10, [.int 0, .ref (bm 1), .int 0, .int 0, .int 0, .ref (bm 2), .ref (bm 3), .int 0, .ref (bm 4), .ref (bm 5), .int 0, .ref (bm 6), .ref (bm 7), .int 0, .ref (bm 8), .ref (bm 9), .ref (bm 10), .int 0, .long 0, .ref (bm 11), .ref (bm 12), .ref (bm 13), .ref (bm 14), .int 0]))] := hD
            refine lv_goto (tgt := 45) hx hb dX10_readTree_200 (by decide) ?_
            refine lv_iload_n hx hb dX10_readTree_45 rfl (lv_at hl 0 rfl) ?_
            refine lv_if_eq (tgt := 203) hx hb dX10_readTree_46 (by decide) (fun c_26 => ?_) (fun c_26 => ?_)
            · skip
              refine lv_aload_n hx hb dX10_readTree_203 rfl (lv_at hl 3 rfl) ?_
              refine va_get (D := (dC, dI)) (ci := 10) (v := .int 0) (C := RX10) (T := TX10) (N := 24) hx hb hts iq_X10_readTree_10 hown hK hP 1 rfl rfl 4 (by decide) (hts (.fieldLink RX10 74 "HubTreeModel" "wrong" "I") (List.mem_of_getElem? (i := 2) rfl)) (fun _ h9 => h9) rfl dX10_readTree_204 ?_
              refine lv_iconst (v := (-1)) hx hb dX10_readTree_207 (by decide) ?_
              refine lv_icmp_ne (tgt := 230) hx hb dX10_readTree_208 (by decide) (fun c_27 => ?_) (fun c_27 => ?_)
              · skip
                refine lv_aload_n hx hb dX10_readTree_230 rfl (lv_at hl 3 rfl) ?_
                refine va_get (D := (dC, dI)) (ci := 10) (v := .int 0) (C := RX10) (T := TX10) (N := 24) hx hb hts iq_X10_readTree_10 hown hK hP 1 rfl rfl 4 (by decide) (hts (.fieldLink RX10 74 "HubTreeModel" "wrong" "I") (List.mem_of_getElem? (i := 2) rfl)) (fun _ h9 => h9) rfl dX10_readTree_231 ?_
                exact W.iret (v := 0) hx hb hr (fun t ht hW => ⟨⟨0, (), rfl, rfl, trivial⟩, hS.F ht⟩) hS.2.2 dX10_readTree_234
              · exact absurd c_27 (by decide)
            · exact absurd (by decide) c_26
          · exact absurd (by decide) c_25
        · exact absurd c_24 (by decide)
      · exact absurd c_21 (by decide)
    · exact absurd c_20 (by decide)
  · exact absurd (by decide) c_17

def wq_X10_readStep : List Cond := .code yX10_readStep cX10_readStep 3 none :: ([.methodLink RX10 77 yX10_ahead, .instanceMethod yX10_ahead, .selects RX10 yX10_ahead yX10_ahead, .initialized RX10, .code yX10_ahead cX10_ahead 1 (some .int), .methodLink RX10 70 yX10_here, .instanceMethod yX10_here, .selects RX10 yX10_here yX10_here, .code yX10_here cX10_here 1 (some .int), .fieldLink RX10 67 "HubTreeModel" "at" "I", .fieldLink RX10 60 "HubTreeModel" "taped" "I", .methodLink RX10 115 yX10_sortOf, .static yX10_sortOf, .code yX10_sortOf cX10_sortOf 1 (some .int), .methodLink RX10 84 yX10_bad, .instanceMethod yX10_bad, .selects RX10 yX10_bad yX10_bad, .code yX10_bad cX10_bad 1 none, .fieldLink RX10 74 "HubTreeModel" "wrong" "I"] ++ wsX100)
set_option maxRecDepth 20000 in
theorem g_X10_readStep_X10_ahead_77 : GoodIn wq_X10_readStep (wsV RX10 77 RX10 yX10_ahead wq_X10_ahead) := goodIn_r _ [1, 2, 3, 4, 5, 6, 7, 8, 4, 9, 10, 11, 20, 21, 22, 23, 24, 25, 26, 27, 28, 29, 30, 31, 32, 33, 34, 35, 36, 37, 38, 39, 40, 41, 42, 43] (by decide +kernel) (by decide +kernel)
set_option maxRecDepth 20000 in
theorem g_X10_readStep_X10_sortOf_115 : GoodIn wq_X10_readStep (va_wsS RX10 115 yX10_sortOf wq_X10_sortOf) := goodIn_r _ [12, 13, 4, 14] (by decide +kernel) (by decide +kernel)
set_option maxRecDepth 20000 in
theorem g_X10_readStep_X10_bad_84 : GoodIn wq_X10_readStep (wsV RX10 84 RX10 yX10_bad wq_X10_bad) := goodIn_r _ [15, 16, 17, 4, 18, 19, 10, 20, 21, 22, 23, 24, 25, 26, 27, 28, 29, 30, 31, 32, 33, 34, 35, 36, 37, 38, 39, 40, 41, 42, 43] (by decide +kernel) (by decide +kernel)
theorem iq_X10_readStep_10 : ∀ w ∈ wsX100, w ∈ wq_X10_readStep := fun _ h => List.mem_cons_of_mem _ (List.mem_append_right _ h)
set_option maxHeartbeats 4000000 in
set_option maxRecDepth 100000 in
theorem c_X10_readStep (l : Launch) (dC : Nat → ClassId) (dI : Nat → Nat → Nat) (bm : Nat → Nat) (z1 : Int32) (A : Nat → Prop) : Met l yX10_readStep wq_X10_readStep ({ frames := 2, cells := 0, slots := 0, locals := 40 }) (va_Pc [.ref (bm 0), .int z1] (q_W (dC, dI) A [((bm 0), .inr (10, [.int 0, .ref (bm 1), .int 0, .int 0, .int (-1), .ref (bm 2), .ref (bm 3), .int 0, .ref (bm 4), .ref (bm 5), .int 0, .ref (bm 6), .ref (bm 7), .int 0, .ref (bm 8), .ref (bm 9), .ref (bm 10), .int 0, .long 0, .ref (bm 11), .ref (bm 12), .ref (bm 13), .ref (bm 14), .int 0]))] [])) (va_Qv (fun u : Unit => True) (fun (u : Unit) t => q_B (dC, dI) A [((bm 0), .inr (10, [.int 0, .ref (bm 1), .int 0, .int 0, .int 0, .ref (bm 2), .ref (bm 3), .int 0, .ref (bm 4), .ref (bm 5), .int 0, .ref (bm 6), .ref (bm 7), .int 0, .ref (bm 8), .ref (bm 9), .ref (bm 10), .int 0, .long 0, .ref (bm 11), .ref (bm 12), .ref (bm 13), .ref (bm 14), .int 0]))] [] t) A) 0 0 A := by
  refine Met.ofW (cc := cX10_readStep) (maxL := 3) (ret := none) (by decide) rfl ?_
  intro p e s m args below meth c s₁ B hml hv
  obtain ⟨rfl, hP, hK, hD, hA⟩ := hv
  have hx := B.exec
  have hb := B.bytes
  have hr := B.returns
  have hts := atoms_spec (ws := wq_X10_readStep) B.pre
  have hown : s.vm.findClass RX10 = some m.cls := findClass_of_methodNamed B.named
  have hlocks := B.notSynchronized
  have hS : va_S A s.heap s.heap [] := va_S.rf
  have hl := lv_entry ([.ref (bm 0), .int z1]) (n := 3) (Nat.le_of_ble_eq_true rfl)
  rw [lg_entry_eq]
  generalize (lg_sl ([.ref (bm 0), .int z1]) ++ List.replicate (3 - (lg_sl ([.ref (bm 0), .int z1])).length) Slot.unset).toArray = ls at hl ⊢
  have hl : lv_has ls 3 [(0, .ref (bm 0)), (1, .int z1)] := hl
  refine lv_aload_n hx hb dX10_readStep_0 rfl (lv_at hl 0 rfl) ?_
  refine q_goi (v := (-1)) (va_runV (As := []) (rest := []) ⟨hx, hb, hml, hown, hts⟩ (c_X10_ahead l dC dI bm (-1)) (cwV 0 hts g_X10_readStep_X10_ahead_77 rfl rfl rfl (by decide +kernel) ⟨Nat.le_of_ble_eq_true rfl, Nat.le_of_ble_eq_true rfl⟩) (q_preV hK hP (ci := 10) (q0 := 0) rfl rfl [0] rfl [] rfl) rfl rfl hl.1 rfl (lv_room (Nat.le_of_ble_eq_true rfl)) dX10_readStep_1 ⟨Nat.le_of_ble_eq_true rfl, Nat.le_of_ble_eq_true rfl⟩) hP hS (fun H locs hP hS => ?_)
  refine q_goi (v := (-1)) (va_runS (As := [.int (-1)]) (rest := []) ⟨hx, hb, hml, hown, hts⟩ (c_X10_sortOf l dC dI) (va_cwS 1 hts g_X10_readStep_X10_sortOf_115 rfl rfl rfl (by decide +kernel) ⟨Nat.le_of_ble_eq_true rfl, Nat.le_of_ble_eq_true rfl⟩) (q_preS hK hP [] rfl [] rfl) rfl rfl hl.1 rfl (lv_room (Nat.le_of_ble_eq_true rfl)) dX10_readStep_4 ⟨Nat.le_of_ble_eq_true rfl, Nat.le_of_ble_eq_true rfl⟩) hP hS (fun H locs hP hS => ?_)
  refine lv_istore_n (lv' := [(2, .int (-1)), (0, .ref (bm 0)), (1, .int z1)]) hx hb dX10_readStep_7 rfl hl (by decide) rfl (fun ls hl => ?_)
  refine lv_iload_n hx hb dX10_readStep_8 rfl (lv_at hl 0 rfl) ?_
  refine lv_iconst (v := (-1)) hx hb dX10_readStep_9 (by decide) ?_
  refine lv_icmp_ne (tgt := 18) hx hb dX10_readStep_10 (by decide) (fun c_1 => ?_) (fun c_1 => ?_)
  · exact absurd (by decide) c_1
  refine lv_aload_n hx hb dX10_readStep_13 rfl (lv_at hl 1 rfl) ?_
  refine q_gov2 (wr := []) (va_runV (As := []) (rest := []) ⟨hx, hb, hml, hown, hts⟩ (c_X10_bad l dC dI bm (va_A [((bm 0), .inr (10, [.int 0, .ref (bm 1), .int 0, .int 0, .int (-1), .ref (bm 2), .ref (bm 3), .int 0, .ref (bm 4), .ref (bm 5), .int 0, .ref (bm 6), .ref (bm 7), .int 0, .ref (bm 8), .ref (bm 9), .ref (bm 10), .int 0, .long 0, .ref (bm 11), .ref (bm 12), .ref (bm 13), .ref (bm 14), .int 0]))] H.size)) (cwV 0 hts g_X10_readStep_X10_bad_84 rfl rfl rfl (by decide +kernel) ⟨Nat.le_of_ble_eq_true rfl, Nat.le_of_ble_eq_true rfl⟩) (q_preWV hK hP hD (ci := 10) (q0 := 0) rfl rfl [0] (by decide) rfl rfl [] rfl) rfl rfl hl.1 rfl (lv_room (Nat.le_of_ble_eq_true rfl)) dX10_readStep_14 ⟨Nat.le_of_ble_eq_true rfl, Nat.le_of_ble_eq_true rfl⟩) hK hP hD hS hA [0] [] rfl rfl (by decide) (by decide) (fun u_2 H locs h_3 hP hD hK hS => ?_)
  have hP : va_P (dC, dI) vwCl [((bm 0), .inr (10, [.int 0, .ref (bm 1), .int 0, .int 0, .int 0, .ref (bm 2), .ref (bm 3), .int 0, .ref (bm 4), .ref (bm 5), .int 0, .ref (bm 6), .ref (bm 7), .int 0, .ref (bm 8), .ref (bm 9), .ref (bm 10), .int 0, .long 0, .ref (bm 11), .ref (bm 12), .ref (bm 13), .ref (bm 14), .int 0]))] H := hP
  have hD : va_D A [((bm 0), .inr (10, [.int 0, .ref (bm 1), .int 0, .int 0, .int 0, .ref (bm 2), .ref (bm 3), .int 0, .ref (bm 4), .ref (bm 5), .int 0, .ref (bm 6), .ref (bm 7), .int 0, .ref (bm 8), .ref (bm 9), .ref (bm 10), .int 0, .long 0, .ref (bm 11), .ref (bm 12), .ref (bm 13), .ref (bm 14), .int 0]))] := hD
  have hK : va_K (dC, dI) vwCl [] s := hK
  have hP9 := hP.sub (ws' := [((bm 0), .inr (10, [.int 0, .ref (bm 1), .int 0, .int 0, .int 0, .ref (bm 2), .ref (bm 3), .int 0, .ref (bm 4), .ref (bm 5), .int 0, .ref (bm 6), .ref (bm 7), .int 0, .ref (bm 8), .ref (bm 9), .ref (bm 10), .int 0, .long 0, .ref (bm 11), .ref (bm 12), .ref (bm 13), .ref (bm 14), .int 0]))]) [0] rfl
  have hD9 := hD.sub (ws' := [((bm 0), .inr (10, [.int 0, .ref (bm 1), .int 0, .int 0, .int 0, .ref (bm 2), .ref (bm 3), .int 0, .ref (bm 4), .ref (bm 5), .int 0, .ref (bm 6), .ref (bm 7), .int 0, .ref (bm 8), .ref (bm 9), .ref (bm 10), .int 0, .long 0, .ref (bm 11), .ref (bm 12), .ref (bm 13), .ref (bm 14), .int 0]))]) [0] (by decide) rfl
  have hK9 := hK.sub (tys' := []) [] rfl
  exact W.vret hx hb hr (fun t ht hW => ⟨⟨(), rfl, trivial, by rw [ht]; exact hP9, va_K.moved hW.alike hK9, hD9⟩, hS.F ht⟩) hS.2.2 dX10_readStep_17

def wq_X10_readScript_0 : List Cond := .code yX10_readScript cX10_readScript 3 (some .int) :: ([.fieldLink RX10 67 "HubTreeModel" "at" "I", .fieldLink RX10 74 "HubTreeModel" "wrong" "I", .fieldLink RX10 28 "HubTreeModel" "scriptLong" "[I", .methodLink RX10 122 yX10_readStep, .instanceMethod yX10_readStep, .selects RX10 yX10_readStep yX10_readStep, .initialized RX10, .code yX10_readStep cX10_readStep 3 none, .methodLink RX10 77 yX10_ahead, .instanceMethod yX10_ahead, .selects RX10 yX10_ahead yX10_ahead, .code yX10_ahead cX10_ahead 1 (some .int), .methodLink RX10 70 yX10_here, .instanceMethod yX10_here, .selects RX10 yX10_here yX10_here, .code yX10_here cX10_here 1 (some .int), .fieldLink RX10 60 "HubTreeModel" "taped" "I", .methodLink RX10 115 yX10_sortOf, .static yX10_sortOf, .code yX10_sortOf cX10_sortOf 1 (some .int), .methodLink RX10 84 yX10_bad, .instanceMethod yX10_bad, .selects RX10 yX10_bad yX10_bad, .code yX10_bad cX10_bad 1 none] ++ wsX100)
set_option maxRecDepth 20000 in
theorem g_X10_readScript_0_X10_readStep_122 : GoodIn wq_X10_readScript_0 (wsV RX10 122 RX10 yX10_readStep wq_X10_readStep) := goodIn_r _ [4, 5, 6, 7, 8, 9, 10, 11, 7, 12, 13, 14, 15, 16, 1, 17, 18, 19, 20, 21, 22, 23, 24, 2, 25, 26, 27, 28, 29, 30, 31, 32, 33, 34, 35, 36, 37, 38, 39, 40, 41, 42, 43, 44, 45, 46, 47, 48] (by decide +kernel) (by decide +kernel)
theorem iq_X10_readScript_0_10 : ∀ w ∈ wsX100, w ∈ wq_X10_readScript_0 := fun _ h => List.mem_cons_of_mem _ (List.mem_append_right _ h)
set_option maxHeartbeats 4000000 in
set_option maxRecDepth 100000 in
theorem c_X10_readScript_0 (l : Launch) (dC : Nat → ClassId) (dI : Nat → Nat → Nat) (bm : Nat → Nat) (km : Nat → ClassId) (A : Nat → Prop) : Met l yX10_readScript wq_X10_readScript_0 ({ frames := 3, cells := 0, slots := 0, locals := 62 }) (va_Pc [.ref (bm 0), .int 0] (q_W (dC, dI) A [((bm 0), .inr (10, [.int 0, .ref (bm 1), .int 0, .int 0, .int 0, .ref (bm 2), .ref (bm 3), .int 0, .ref (bm 4), .ref (bm 5), .int 0, .ref (bm 6), .ref (bm 7), .int 0, .ref (bm 8), .ref (bm 9), .ref (bm 10), .int 0, .long 0, .ref (bm 11), .ref (bm 12), .ref (bm 13), .ref (bm 14), .int 0])), ((bm 7), .inl ((km 7), 5, .inl (fun _ => 0)))] [((km 7), .int)])) (q_wi (0) A) 0 0 A := by
  refine Met.ofW (cc := cX10_readScript) (maxL := 3) (ret := (some .int)) (by decide) rfl ?_
  intro p e s m args below meth c s₁ B hml hv
  obtain ⟨rfl, hP, hK, hD, hA⟩ := hv
  have hx := B.exec
  have hb := B.bytes
  have hr := B.returns
  have hts := atoms_spec (ws := wq_X10_readScript_0) B.pre
  have hown : s.vm.findClass RX10 = some m.cls := findClass_of_methodNamed B.named
  have hlocks := B.notSynchronized
  have hS : va_S A s.heap s.heap [] := va_S.rf
  have hl := lv_entry ([.ref (bm 0), .int 0]) (n := 3) (Nat.le_of_ble_eq_true rfl)
  rw [lg_entry_eq]
  generalize (lg_sl ([.ref (bm 0), .int 0]) ++ List.replicate (3 - (lg_sl ([.ref (bm 0), .int 0])).length) Slot.unset).toArray = ls at hl ⊢
  have hl : lv_has ls 3 [(0, .ref (bm 0)), (1, .int 0)] := hl
  refine lv_aload_n hx hb dX10_readScript_0 rfl (lv_at hl 0 rfl) ?_
  refine lv_iconst (v := 0) hx hb dX10_readScript_1 (by decide) ?_
  refine va_put (D := (dC, dI)) (ci := 10) (v := .int 0) (ty := .int) (C := RX10) (T := TX10) (N := 24) hx hb hts iq_X10_readScript_0_10 tyX10 tyX10_ok nmX10 hown hK hP hD hS 0 rfl rfl 3 (by decide) (hts (.fieldLink RX10 67 "HubTreeModel" "at" "I") (List.mem_of_getElem? (i := 1) rfl)) (fun _ h9 => h9) rfl (by decide +kernel) rfl rfl (Nat.le_of_ble_eq_true rfl) dX10_readScript_2 (fun H locs hP hD hS => ?_)
  have hP : va_P (dC, dI) vwCl [((bm 0), .inr (10, [.int 0, .ref (bm 1), .int 0, .int 0, .int 0, .ref (bm 2), .ref (bm 3), .int 0, .ref (bm 4), .ref (bm 5), .int 0, .ref (bm 6), .ref (bm 7), .int 0, .ref (bm 8), .ref (bm 9), .ref (bm 10), .int 0, .long 0, .ref (bm 11), .ref (bm 12), .ref (bm 13), .ref (bm 14), .int 0])), ((bm 7), .inl ((km 7), 5, .inl (fun _ => 0)))] H := hP
  have hD : va_D A [((bm 0), .inr (10, [.int 0, .ref (bm 1), .int 0, .int 0, .int 0, .ref (bm 2), .ref (bm 3), .int 0, .ref (bm 4), .ref (bm 5), .int 0, .ref (bm 6), .ref (bm 7), .int 0, .ref (bm 8), .ref (bm 9), .ref (bm 10), .int 0, .long 0, .ref (bm 11), .ref (bm 12), .ref (bm 13), .ref (bm 14), .int 0])), ((bm 7), .inl ((km 7), 5, .inl (fun _ => 0)))] := hD
  refine lv_aload_n hx hb dX10_readScript_5 rfl (lv_at hl 0 rfl) ?_
  refine lv_iconst (v := (-1)) hx hb dX10_readScript_6 (by decide) ?_
  refine va_put (D := (dC, dI)) (ci := 10) (v := .int (-1)) (ty := .int) (C := RX10) (T := TX10) (N := 24) hx hb hts iq_X10_readScript_0_10 tyX10 tyX10_ok nmX10 hown hK hP hD hS 0 rfl rfl 4 (by decide) (hts (.fieldLink RX10 74 "HubTreeModel" "wrong" "I") (List.mem_of_getElem? (i := 2) rfl)) (fun _ h9 => h9) rfl (by decide +kernel) rfl rfl (Nat.le_of_ble_eq_true rfl) dX10_readScript_7 (fun H locs hP hD hS => ?_)
  have hP : va_P (dC, dI) vwCl [((bm 0), .inr (10, [.int 0, .ref (bm 1), .int 0, .int 0, .int (-1), .ref (bm 2), .ref (bm 3), .int 0, .ref (bm 4), .ref (bm 5), .int 0, .ref (bm 6), .ref (bm 7), .int 0, .ref (bm 8), .ref (bm 9), .ref (bm 10), .int 0, .long 0, .ref (bm 11), .ref (bm 12), .ref (bm 13), .ref (bm 14), .int 0])), ((bm 7), .inl ((km 7), 5, .inl (fun _ => 0)))] H := hP
  have hD : va_D A [((bm 0), .inr (10, [.int 0, .ref (bm 1), .int 0, .int 0, .int (-1), .ref (bm 2), .ref (bm 3), .int 0, .ref (bm 4), .ref (bm 5), .int 0, .ref (bm 6), .ref (bm 7), .int 0, .ref (bm 8), .ref (bm 9), .ref (bm 10), .int 0, .long 0, .ref (bm 11), .ref (bm 12), .ref (bm 13), .ref (bm 14), .int 0])), ((bm 7), .inl ((km 7), 5, .inl (fun _ => 0)))] := hD
  refine lv_aload_n hx hb dX10_readScript_10 rfl (lv_at hl 0 rfl) ?_
  refine va_get (D := (dC, dI)) (ci := 10) (v := .ref (bm 7)) (C := RX10) (T := TX10) (N := 24) hx hb hts iq_X10_readScript_0_10 hown hK hP 0 rfl rfl 12 (by decide) (hts (.fieldLink RX10 28 "HubTreeModel" "scriptLong" "[I") (List.mem_of_getElem? (i := 3) rfl)) (fun _ h9 => h9) rfl dX10_readScript_11 ?_
  refine lv_iload_n hx hb dX10_readScript_14 rfl (lv_at hl 1 rfl) ?_
  refine lv_iconst (v := 0) hx hb dX10_readScript_15 (by decide) ?_
  refine va_iast hx hb hK hP hD hS 1 0 rfl rfl (i := 0) (x := 0) (vp_in_iff.mpr (by decide)) dX10_readScript_16 (fun H locs hP hD hS => ?_)
  obtain ⟨f_1, hP, hD⟩ : ∃ f9 : Nat → Int32, va_P (dC, dI) vwCl [((bm 0), .inr (10, [.int 0, .ref (bm 1), .int 0, .int 0, .int (-1), .ref (bm 2), .ref (bm 3), .int 0, .ref (bm 4), .ref (bm 5), .int 0, .ref (bm 6), .ref (bm 7), .int 0, .ref (bm 8), .ref (bm 9), .ref (bm 10), .int 0, .long 0, .ref (bm 11), .ref (bm 12), .ref (bm 13), .ref (bm 14), .int 0])), ((bm 7), .inl ((km 7), 5, .inl f9))] H ∧ va_D A [((bm 0), .inr (10, [.int 0, .ref (bm 1), .int 0, .int 0, .int (-1), .ref (bm 2), .ref (bm 3), .int 0, .ref (bm 4), .ref (bm 5), .int 0, .ref (bm 6), .ref (bm 7), .int 0, .ref (bm 8), .ref (bm 9), .ref (bm 10), .int 0, .long 0, .ref (bm 11), .ref (bm 12), .ref (bm 13), .ref (bm 14), .int 0])), ((bm 7), .inl ((km 7), 5, .inl f9))] := ⟨_, hP, hD⟩
  refine lv_iconst (v := 1) hx hb dX10_readScript_17 (by decide) ?_
  refine lv_istore_n (lv' := [(2, .int 1), (0, .ref (bm 0)), (1, .int 0)]) hx hb dX10_readScript_18 rfl hl (by decide) rfl (fun ls hl => ?_)
  refine lv_iload_n hx hb dX10_readScript_19 rfl (lv_at hl 0 rfl) ?_
  refine lv_if_eq (tgt := 105) hx hb dX10_readScript_20 (by decide) (fun c_2 => ?_) (fun c_2 => ?_)
  · exact absurd c_2 (by decide)
  refine lv_aload_n hx hb dX10_readScript_23 rfl (lv_at hl 1 rfl) ?_
  refine lv_iconst (v := 4) hx hb dX10_readScript_24 (by decide) ?_
  refine lv_bipush (v := 16) hx hb dX10_readScript_25 (by decide) ?_
  refine lv_iload_n hx hb dX10_readScript_27 rfl (lv_at hl 2 rfl) ?_
  refine lv_imul hx hb dX10_readScript_28 ?_
  refine q_top (y := 0) (by decide) ?_
  refine lv_aload_n hx hb dX10_readScript_29 rfl (lv_at hl 1 rfl) ?_
  refine va_get (D := (dC, dI)) (ci := 10) (v := .ref (bm 7)) (C := RX10) (T := TX10) (N := 24) hx hb hts iq_X10_readScript_0_10 hown hK hP 0 rfl rfl 12 (by decide) (hts (.fieldLink RX10 28 "HubTreeModel" "scriptLong" "[I") (List.mem_of_getElem? (i := 3) rfl)) (fun _ h9 => h9) rfl dX10_readScript_30 ?_
  refine lv_iload_n hx hb dX10_readScript_33 rfl (lv_at hl 2 rfl) ?_
  refine va_iald hx hb hK hP 1 0 rfl rfl (i := 0) (vp_in_iff.mpr (by decide)) dX10_readScript_34 ?_
  refine q_top (y := (f_1 0)) rfl ?_
  refine lv_iadd hx hb dX10_readScript_35 ?_
  refine lv_imul hx hb dX10_readScript_36 ?_
  refine q_gov2 (wr := [((bm 7), .inl ((km 7), 5, .inl f_1))]) (va_runV (As := [.int (4 * (0 + (f_1 0)))]) (rest := []) ⟨hx, hb, hml, hown, hts⟩ (c_X10_readStep l dC dI bm (4 * (0 + (f_1 0))) (va_A [((bm 0), .inr (10, [.int 0, .ref (bm 1), .int 0, .int 0, .int (-1), .ref (bm 2), .ref (bm 3), .int 0, .ref (bm 4), .ref (bm 5), .int 0, .ref (bm 6), .ref (bm 7), .int 0, .ref (bm 8), .ref (bm 9), .ref (bm 10), .int 0, .long 0, .ref (bm 11), .ref (bm 12), .ref (bm 13), .ref (bm 14), .int 0]))] H.size)) (cwV 1 hts g_X10_readScript_0_X10_readStep_122 rfl rfl rfl (by decide +kernel) ⟨Nat.le_of_ble_eq_true rfl, Nat.le_of_ble_eq_true rfl⟩) (q_preWV hK hP hD (ci := 10) (q0 := 0) rfl rfl [0] (by decide) rfl rfl [] rfl) rfl rfl hl.1 rfl (lv_room (Nat.le_of_ble_eq_true rfl)) dX10_readScript_37 ⟨Nat.le_of_ble_eq_true rfl, Nat.le_of_ble_eq_true rfl⟩) hK hP hD hS hA [0] [1] rfl rfl (by decide) (by decide) (fun u_3 H locs h_4 hP hD hK hS => ?_)
  have hP : va_P (dC, dI) vwCl [((bm 7), .inl ((km 7), 5, .inl f_1)), ((bm 0), .inr (10, [.int 0, .ref (bm 1), .int 0, .int 0, .int 0, .ref (bm 2), .ref (bm 3), .int 0, .ref (bm 4), .ref (bm 5), .int 0, .ref (bm 6), .ref (bm 7), .int 0, .ref (bm 8), .ref (bm 9), .ref (bm 10), .int 0, .long 0, .ref (bm 11), .ref (bm 12), .ref (bm 13), .ref (bm 14), .int 0]))] H := hP
  have hD : va_D A [((bm 7), .inl ((km 7), 5, .inl f_1)), ((bm 0), .inr (10, [.int 0, .ref (bm 1), .int 0, .int 0, .int 0, .ref (bm 2), .ref (bm 3), .int 0, .ref (bm 4), .ref (bm 5), .int 0, .ref (bm 6), .ref (bm 7), .int 0, .ref (bm 8), .ref (bm 9), .ref (bm 10), .int 0, .long 0, .ref (bm 11), .ref (bm 12), .ref (bm 13), .ref (bm 14), .int 0]))] := hD
  have hK : va_K (dC, dI) vwCl [((km 7), .int)] s := hK
  refine lv_aload_n hx hb dX10_readScript_40 rfl (lv_at hl 1 rfl) ?_
  refine va_get (D := (dC, dI)) (ci := 10) (v := .ref (bm 7)) (C := RX10) (T := TX10) (N := 24) hx hb hts iq_X10_readScript_0_10 hown hK hP 1 rfl rfl 12 (by decide) (hts (.fieldLink RX10 28 "HubTreeModel" "scriptLong" "[I") (List.mem_of_getElem? (i := 3) rfl)) (fun _ h9 => h9) rfl dX10_readScript_41 ?_
  refine lv_iload_n hx hb dX10_readScript_44 rfl (lv_at hl 2 rfl) ?_
  refine lv_dup2_11 hx hb dX10_readScript_45 rfl rfl ?_
  refine va_iald hx hb hK hP 0 0 rfl rfl (i := 0) (vp_in_iff.mpr (by decide)) dX10_readScript_46 ?_
  refine q_top (y := (f_1 0)) rfl ?_
  refine lv_iconst (v := 1) hx hb dX10_readScript_47 (by decide) ?_
  refine lv_iadd hx hb dX10_readScript_48 ?_
  refine va_iast hx hb hK hP hD hS 0 0 rfl rfl (i := 0) (x := ((f_1 0) + 1)) (vp_in_iff.mpr (by decide)) dX10_readScript_49 (fun H locs hP hD hS => ?_)
  obtain ⟨f_5, hP, hD⟩ : ∃ f9 : Nat → Int32, va_P (dC, dI) vwCl [((bm 7), .inl ((km 7), 5, .inl f9)), ((bm 0), .inr (10, [.int 0, .ref (bm 1), .int 0, .int 0, .int 0, .ref (bm 2), .ref (bm 3), .int 0, .ref (bm 4), .ref (bm 5), .int 0, .ref (bm 6), .ref (bm 7), .int 0, .ref (bm 8), .ref (bm 9), .ref (bm 10), .int 0, .long 0, .ref (bm 11), .ref (bm 12), .ref (bm 13), .ref (bm 14), .int 0]))] H ∧ va_D A [((bm 7), .inl ((km 7), 5, .inl f9)), ((bm 0), .inr (10, [.int 0, .ref (bm 1), .int 0, .int 0, .int 0, .ref (bm 2), .ref (bm 3), .int 0, .ref (bm 4), .ref (bm 5), .int 0, .ref (bm 6), .ref (bm 7), .int 0, .ref (bm 8), .ref (bm 9), .ref (bm 10), .int 0, .long 0, .ref (bm 11), .ref (bm 12), .ref (bm 13), .ref (bm 14), .int 0]))] := ⟨_, hP, hD⟩
  refine lv_aload_n hx hb dX10_readScript_50 rfl (lv_at hl 1 rfl) ?_
  refine va_get (D := (dC, dI)) (ci := 10) (v := .int 0) (C := RX10) (T := TX10) (N := 24) hx hb hts iq_X10_readScript_0_10 hown hK hP 1 rfl rfl 4 (by decide) (hts (.fieldLink RX10 74 "HubTreeModel" "wrong" "I") (List.mem_of_getElem? (i := 2) rfl)) (fun _ h9 => h9) rfl dX10_readScript_51 ?_
  refine lv_iconst (v := (-1)) hx hb dX10_readScript_54 (by decide) ?_
  refine lv_icmp_ne (tgt := 82) hx hb dX10_readScript_55 (by decide) (fun c_6 => ?_) (fun c_6 => ?_)
  · skip
    refine lv_iconst (v := 0) hx hb dX10_readScript_82 (by decide) ?_
    refine lv_istore_n (lv' := [(2, .int 0), (0, .ref (bm 0)), (1, .int 0)]) hx hb dX10_readScript_83 rfl hl (by decide) rfl (fun ls hl => ?_)
    refine lv_aload_n hx hb dX10_readScript_84 rfl (lv_at hl 1 rfl) ?_
    refine lv_dup hx hb dX10_readScript_85 rfl ?_
    refine va_get (D := (dC, dI)) (ci := 10) (v := .int 0) (C := RX10) (T := TX10) (N := 24) hx hb hts iq_X10_readScript_0_10 hown hK hP 1 rfl rfl 3 (by decide) (hts (.fieldLink RX10 67 "HubTreeModel" "at" "I") (List.mem_of_getElem? (i := 1) rfl)) (fun _ h9 => h9) rfl dX10_readScript_86 ?_
    refine lv_iload_n hx hb dX10_readScript_89 rfl (lv_at hl 0 rfl) ?_
    refine lv_if_eq (tgt := 97) hx hb dX10_readScript_90 (by decide) (fun c_7 => ?_) (fun c_7 => ?_)
    · skip
      refine lv_iconst (v := 0) hx hb dX10_readScript_97 (by decide) ?_
      refine lv_iadd hx hb dX10_readScript_98 ?_
      refine q_top (y := 0) (by decide) ?_
      refine va_put (D := (dC, dI)) (ci := 10) (v := .int 0) (ty := .int) (C := RX10) (T := TX10) (N := 24) hx hb hts iq_X10_readScript_0_10 tyX10 tyX10_ok nmX10 hown hK hP hD hS 1 rfl rfl 3 (by decide) (hts (.fieldLink RX10 67 "HubTreeModel" "at" "I") (List.mem_of_getElem? (i := 1) rfl)) (fun _ h9 => h9) rfl (by decide +kernel) rfl rfl (Nat.le_of_ble_eq_true rfl) dX10_readScript_99 (fun H locs hP hD hS => ?_)
      have hP : va_P (dC, dI) vwCl [((bm 7), .inl ((km 7), 5, .inl f_5)), ((bm 0), .inr (10, [.int 0, .ref (bm 1), .int 0, .int 0, .int 0, .ref (bm 2), .ref (bm 3), .int 0, .ref (bm 4), .ref (bm 5), .int 0, .ref (bm 6), .ref (bm 7), .int 0, .ref (bm 8), .ref (bm 9), .ref (bm 10), .int 0, .long 0, .ref (bm 11), .ref (bm 12), .ref (bm 13), .ref (bm 14), .int 0]))] H := hP
      have hD : va_D A [((bm 7), .inl ((km 7), 5, .inl f_5)), ((bm 0), .inr (10, [.int 0, .ref (bm 1), .int 0, .int 0, .int 0, .ref (bm 2), .ref (bm 3), .int 0, .ref (bm 4), .ref (bm 5), .int 0, .ref (bm 6), .ref (bm 7), .int 0, .ref (bm 8), .ref (bm 9), .ref (bm 10), .int 0, .long 0, .ref (bm 11), .ref (bm 12), .ref (bm 13), .ref (bm 14), .int 0]))] := hD
      refine lv_goto (tgt := 19) hx hb dX10_readScript_102 (by decide) ?_
      refine lv_iload_n hx hb dX10_readScript_19 rfl (lv_at hl 0 rfl) ?_
      refine lv_if_eq (tgt := 105) hx hb dX10_readScript_20 (by decide) (fun c_8 => ?_) (fun c_8 => ?_)
      · skip
        refine lv_aload_n hx hb dX10_readScript_105 rfl (lv_at hl 1 rfl) ?_
        refine va_get (D := (dC, dI)) (ci := 10) (v := .int 0) (C := RX10) (T := TX10) (N := 24) hx hb hts iq_X10_readScript_0_10 hown hK hP 1 rfl rfl 4 (by decide) (hts (.fieldLink RX10 74 "HubTreeModel" "wrong" "I") (List.mem_of_getElem? (i := 2) rfl)) (fun _ h9 => h9) rfl dX10_readScript_106 ?_
        refine lv_iconst (v := (-1)) hx hb dX10_readScript_109 (by decide) ?_
        refine lv_icmp_ne (tgt := 125) hx hb dX10_readScript_110 (by decide) (fun c_9 => ?_) (fun c_9 => ?_)
        · skip
          refine lv_aload_n hx hb dX10_readScript_125 rfl (lv_at hl 1 rfl) ?_
          refine va_get (D := (dC, dI)) (ci := 10) (v := .int 0) (C := RX10) (T := TX10) (N := 24) hx hb hts iq_X10_readScript_0_10 hown hK hP 1 rfl rfl 4 (by decide) (hts (.fieldLink RX10 74 "HubTreeModel" "wrong" "I") (List.mem_of_getElem? (i := 2) rfl)) (fun _ h9 => h9) rfl dX10_readScript_126 ?_
          exact W.iret (v := 0) hx hb hr (fun t ht hW => ⟨⟨0, (), rfl, rfl, trivial⟩, hS.F ht⟩) hS.2.2 dX10_readScript_129
        · exact absurd c_9 (by decide)
      · exact absurd (by decide) c_8
    · exact absurd (by decide) c_7
  · exact absurd c_6 (by decide)

def wq_X10_readScript_4 : List Cond := .code yX10_readScript cX10_readScript 3 (some .int) :: ([.fieldLink RX10 67 "HubTreeModel" "at" "I", .fieldLink RX10 74 "HubTreeModel" "wrong" "I", .fieldLink RX10 28 "HubTreeModel" "scriptLong" "[I", .methodLink RX10 122 yX10_readStep, .instanceMethod yX10_readStep, .selects RX10 yX10_readStep yX10_readStep, .initialized RX10, .code yX10_readStep cX10_readStep 3 none, .methodLink RX10 77 yX10_ahead, .instanceMethod yX10_ahead, .selects RX10 yX10_ahead yX10_ahead, .code yX10_ahead cX10_ahead 1 (some .int), .methodLink RX10 70 yX10_here, .instanceMethod yX10_here, .selects RX10 yX10_here yX10_here, .code yX10_here cX10_here 1 (some .int), .fieldLink RX10 60 "HubTreeModel" "taped" "I", .methodLink RX10 115 yX10_sortOf, .static yX10_sortOf, .code yX10_sortOf cX10_sortOf 1 (some .int), .methodLink RX10 84 yX10_bad, .instanceMethod yX10_bad, .selects RX10 yX10_bad yX10_bad, .code yX10_bad cX10_bad 1 none] ++ wsX100)
set_option maxRecDepth 20000 in
theorem g_X10_readScript_4_X10_readStep_122 : GoodIn wq_X10_readScript_4 (wsV RX10 122 RX10 yX10_readStep wq_X10_readStep) := goodIn_r _ [4, 5, 6, 7, 8, 9, 10, 11, 7, 12, 13, 14, 15, 16, 1, 17, 18, 19, 20, 21, 22, 23, 24, 2, 25, 26, 27, 28, 29, 30, 31, 32, 33, 34, 35, 36, 37, 38, 39, 40, 41, 42, 43, 44, 45, 46, 47, 48] (by decide +kernel) (by decide +kernel)
theorem iq_X10_readScript_4_10 : ∀ w ∈ wsX100, w ∈ wq_X10_readScript_4 := fun _ h => List.mem_cons_of_mem _ (List.mem_append_right _ h)
set_option maxHeartbeats 4000000 in
set_option maxRecDepth 100000 in
theorem c_X10_readScript_4 (l : Launch) (dC : Nat → ClassId) (dI : Nat → Nat → Nat) (bm : Nat → Nat) (km : Nat → ClassId) (A : Nat → Prop) : Met l yX10_readScript wq_X10_readScript_4 ({ frames := 3, cells := 0, slots := 0, locals := 62 }) (va_Pc [.ref (bm 0), .int 4] (q_W (dC, dI) A [((bm 0), .inr (10, [.int 0, .ref (bm 1), .int 0, .int 0, .int 0, .ref (bm 2), .ref (bm 3), .int 0, .ref (bm 4), .ref (bm 5), .int 0, .ref (bm 6), .ref (bm 7), .int 0, .ref (bm 8), .ref (bm 9), .ref (bm 10), .int 0, .long 0, .ref (bm 11), .ref (bm 12), .ref (bm 13), .ref (bm 14), .int 0])), ((bm 7), .inl ((km 7), 5, .inl (fun _ => 0)))] [((km 7), .int)])) (q_wi (0) A) 0 0 A := by
  refine Met.ofW (cc := cX10_readScript) (maxL := 3) (ret := (some .int)) (by decide) rfl ?_
  intro p e s m args below meth c s₁ B hml hv
  obtain ⟨rfl, hP, hK, hD, hA⟩ := hv
  have hx := B.exec
  have hb := B.bytes
  have hr := B.returns
  have hts := atoms_spec (ws := wq_X10_readScript_4) B.pre
  have hown : s.vm.findClass RX10 = some m.cls := findClass_of_methodNamed B.named
  have hlocks := B.notSynchronized
  have hS : va_S A s.heap s.heap [] := va_S.rf
  have hl := lv_entry ([.ref (bm 0), .int 4]) (n := 3) (Nat.le_of_ble_eq_true rfl)
  rw [lg_entry_eq]
  generalize (lg_sl ([.ref (bm 0), .int 4]) ++ List.replicate (3 - (lg_sl ([.ref (bm 0), .int 4])).length) Slot.unset).toArray = ls at hl ⊢
  have hl : lv_has ls 3 [(0, .ref (bm 0)), (1, .int 4)] := hl
  refine lv_aload_n hx hb dX10_readScript_0 rfl (lv_at hl 0 rfl) ?_
  refine lv_iconst (v := 0) hx hb dX10_readScript_1 (by decide) ?_
  refine va_put (D := (dC, dI)) (ci := 10) (v := .int 0) (ty := .int) (C := RX10) (T := TX10) (N := 24) hx hb hts iq_X10_readScript_4_10 tyX10 tyX10_ok nmX10 hown hK hP hD hS 0 rfl rfl 3 (by decide) (hts (.fieldLink RX10 67 "HubTreeModel" "at" "I") (List.mem_of_getElem? (i := 1) rfl)) (fun _ h9 => h9) rfl (by decide +kernel) rfl rfl (Nat.le_of_ble_eq_true rfl) dX10_readScript_2 (fun H locs hP hD hS => ?_)
  have hP : va_P (dC, dI) vwCl [((bm 0), .inr (10, [.int 0, .ref (bm 1), .int 0, .int 0, .int 0, .ref (bm 2), .ref (bm 3), .int 0, .ref (bm 4), .ref (bm 5), .int 0, .ref (bm 6), .ref (bm 7), .int 0, .ref (bm 8), .ref (bm 9), .ref (bm 10), .int 0, .long 0, .ref (bm 11), .ref (bm 12), .ref (bm 13), .ref (bm 14), .int 0])), ((bm 7), .inl ((km 7), 5, .inl (fun _ => 0)))] H := hP
  have hD : va_D A [((bm 0), .inr (10, [.int 0, .ref (bm 1), .int 0, .int 0, .int 0, .ref (bm 2), .ref (bm 3), .int 0, .ref (bm 4), .ref (bm 5), .int 0, .ref (bm 6), .ref (bm 7), .int 0, .ref (bm 8), .ref (bm 9), .ref (bm 10), .int 0, .long 0, .ref (bm 11), .ref (bm 12), .ref (bm 13), .ref (bm 14), .int 0])), ((bm 7), .inl ((km 7), 5, .inl (fun _ => 0)))] := hD
  refine lv_aload_n hx hb dX10_readScript_5 rfl (lv_at hl 0 rfl) ?_
  refine lv_iconst (v := (-1)) hx hb dX10_readScript_6 (by decide) ?_
  refine va_put (D := (dC, dI)) (ci := 10) (v := .int (-1)) (ty := .int) (C := RX10) (T := TX10) (N := 24) hx hb hts iq_X10_readScript_4_10 tyX10 tyX10_ok nmX10 hown hK hP hD hS 0 rfl rfl 4 (by decide) (hts (.fieldLink RX10 74 "HubTreeModel" "wrong" "I") (List.mem_of_getElem? (i := 2) rfl)) (fun _ h9 => h9) rfl (by decide +kernel) rfl rfl (Nat.le_of_ble_eq_true rfl) dX10_readScript_7 (fun H locs hP hD hS => ?_)
  have hP : va_P (dC, dI) vwCl [((bm 0), .inr (10, [.int 0, .ref (bm 1), .int 0, .int 0, .int (-1), .ref (bm 2), .ref (bm 3), .int 0, .ref (bm 4), .ref (bm 5), .int 0, .ref (bm 6), .ref (bm 7), .int 0, .ref (bm 8), .ref (bm 9), .ref (bm 10), .int 0, .long 0, .ref (bm 11), .ref (bm 12), .ref (bm 13), .ref (bm 14), .int 0])), ((bm 7), .inl ((km 7), 5, .inl (fun _ => 0)))] H := hP
  have hD : va_D A [((bm 0), .inr (10, [.int 0, .ref (bm 1), .int 0, .int 0, .int (-1), .ref (bm 2), .ref (bm 3), .int 0, .ref (bm 4), .ref (bm 5), .int 0, .ref (bm 6), .ref (bm 7), .int 0, .ref (bm 8), .ref (bm 9), .ref (bm 10), .int 0, .long 0, .ref (bm 11), .ref (bm 12), .ref (bm 13), .ref (bm 14), .int 0])), ((bm 7), .inl ((km 7), 5, .inl (fun _ => 0)))] := hD
  refine lv_aload_n hx hb dX10_readScript_10 rfl (lv_at hl 0 rfl) ?_
  refine va_get (D := (dC, dI)) (ci := 10) (v := .ref (bm 7)) (C := RX10) (T := TX10) (N := 24) hx hb hts iq_X10_readScript_4_10 hown hK hP 0 rfl rfl 12 (by decide) (hts (.fieldLink RX10 28 "HubTreeModel" "scriptLong" "[I") (List.mem_of_getElem? (i := 3) rfl)) (fun _ h9 => h9) rfl dX10_readScript_11 ?_
  refine lv_iload_n hx hb dX10_readScript_14 rfl (lv_at hl 1 rfl) ?_
  refine lv_iconst (v := 0) hx hb dX10_readScript_15 (by decide) ?_
  refine va_iast hx hb hK hP hD hS 1 0 rfl rfl (i := 4) (x := 0) (vp_in_iff.mpr (by decide)) dX10_readScript_16 (fun H locs hP hD hS => ?_)
  obtain ⟨f_1, hP, hD⟩ : ∃ f9 : Nat → Int32, va_P (dC, dI) vwCl [((bm 0), .inr (10, [.int 0, .ref (bm 1), .int 0, .int 0, .int (-1), .ref (bm 2), .ref (bm 3), .int 0, .ref (bm 4), .ref (bm 5), .int 0, .ref (bm 6), .ref (bm 7), .int 0, .ref (bm 8), .ref (bm 9), .ref (bm 10), .int 0, .long 0, .ref (bm 11), .ref (bm 12), .ref (bm 13), .ref (bm 14), .int 0])), ((bm 7), .inl ((km 7), 5, .inl f9))] H ∧ va_D A [((bm 0), .inr (10, [.int 0, .ref (bm 1), .int 0, .int 0, .int (-1), .ref (bm 2), .ref (bm 3), .int 0, .ref (bm 4), .ref (bm 5), .int 0, .ref (bm 6), .ref (bm 7), .int 0, .ref (bm 8), .ref (bm 9), .ref (bm 10), .int 0, .long 0, .ref (bm 11), .ref (bm 12), .ref (bm 13), .ref (bm 14), .int 0])), ((bm 7), .inl ((km 7), 5, .inl f9))] := ⟨_, hP, hD⟩
  refine lv_iconst (v := 1) hx hb dX10_readScript_17 (by decide) ?_
  refine lv_istore_n (lv' := [(2, .int 1), (0, .ref (bm 0)), (1, .int 4)]) hx hb dX10_readScript_18 rfl hl (by decide) rfl (fun ls hl => ?_)
  refine lv_iload_n hx hb dX10_readScript_19 rfl (lv_at hl 0 rfl) ?_
  refine lv_if_eq (tgt := 105) hx hb dX10_readScript_20 (by decide) (fun c_2 => ?_) (fun c_2 => ?_)
  · exact absurd c_2 (by decide)
  refine lv_aload_n hx hb dX10_readScript_23 rfl (lv_at hl 1 rfl) ?_
  refine lv_iconst (v := 4) hx hb dX10_readScript_24 (by decide) ?_
  refine lv_bipush (v := 16) hx hb dX10_readScript_25 (by decide) ?_
  refine lv_iload_n hx hb dX10_readScript_27 rfl (lv_at hl 2 rfl) ?_
  refine lv_imul hx hb dX10_readScript_28 ?_
  refine q_top (y := 64) (by decide) ?_
  refine lv_aload_n hx hb dX10_readScript_29 rfl (lv_at hl 1 rfl) ?_
  refine va_get (D := (dC, dI)) (ci := 10) (v := .ref (bm 7)) (C := RX10) (T := TX10) (N := 24) hx hb hts iq_X10_readScript_4_10 hown hK hP 0 rfl rfl 12 (by decide) (hts (.fieldLink RX10 28 "HubTreeModel" "scriptLong" "[I") (List.mem_of_getElem? (i := 3) rfl)) (fun _ h9 => h9) rfl dX10_readScript_30 ?_
  refine lv_iload_n hx hb dX10_readScript_33 rfl (lv_at hl 2 rfl) ?_
  refine va_iald hx hb hK hP 1 0 rfl rfl (i := 4) (vp_in_iff.mpr (by decide)) dX10_readScript_34 ?_
  refine q_top (y := (f_1 4)) rfl ?_
  refine lv_iadd hx hb dX10_readScript_35 ?_
  refine lv_imul hx hb dX10_readScript_36 ?_
  refine q_gov2 (wr := [((bm 7), .inl ((km 7), 5, .inl f_1))]) (va_runV (As := [.int (4 * (64 + (f_1 4)))]) (rest := []) ⟨hx, hb, hml, hown, hts⟩ (c_X10_readStep l dC dI bm (4 * (64 + (f_1 4))) (va_A [((bm 0), .inr (10, [.int 0, .ref (bm 1), .int 0, .int 0, .int (-1), .ref (bm 2), .ref (bm 3), .int 0, .ref (bm 4), .ref (bm 5), .int 0, .ref (bm 6), .ref (bm 7), .int 0, .ref (bm 8), .ref (bm 9), .ref (bm 10), .int 0, .long 0, .ref (bm 11), .ref (bm 12), .ref (bm 13), .ref (bm 14), .int 0]))] H.size)) (cwV 1 hts g_X10_readScript_4_X10_readStep_122 rfl rfl rfl (by decide +kernel) ⟨Nat.le_of_ble_eq_true rfl, Nat.le_of_ble_eq_true rfl⟩) (q_preWV hK hP hD (ci := 10) (q0 := 0) rfl rfl [0] (by decide) rfl rfl [] rfl) rfl rfl hl.1 rfl (lv_room (Nat.le_of_ble_eq_true rfl)) dX10_readScript_37 ⟨Nat.le_of_ble_eq_true rfl, Nat.le_of_ble_eq_true rfl⟩) hK hP hD hS hA [0] [1] rfl rfl (by decide) (by decide) (fun u_3 H locs h_4 hP hD hK hS => ?_)
  have hP : va_P (dC, dI) vwCl [((bm 7), .inl ((km 7), 5, .inl f_1)), ((bm 0), .inr (10, [.int 0, .ref (bm 1), .int 0, .int 0, .int 0, .ref (bm 2), .ref (bm 3), .int 0, .ref (bm 4), .ref (bm 5), .int 0, .ref (bm 6), .ref (bm 7), .int 0, .ref (bm 8), .ref (bm 9), .ref (bm 10), .int 0, .long 0, .ref (bm 11), .ref (bm 12), .ref (bm 13), .ref (bm 14), .int 0]))] H := hP
  have hD : va_D A [((bm 7), .inl ((km 7), 5, .inl f_1)), ((bm 0), .inr (10, [.int 0, .ref (bm 1), .int 0, .int 0, .int 0, .ref (bm 2), .ref (bm 3), .int 0, .ref (bm 4), .ref (bm 5), .int 0, .ref (bm 6), .ref (bm 7), .int 0, .ref (bm 8), .ref (bm 9), .ref (bm 10), .int 0, .long 0, .ref (bm 11), .ref (bm 12), .ref (bm 13), .ref (bm 14), .int 0]))] := hD
  have hK : va_K (dC, dI) vwCl [((km 7), .int)] s := hK
  refine lv_aload_n hx hb dX10_readScript_40 rfl (lv_at hl 1 rfl) ?_
  refine va_get (D := (dC, dI)) (ci := 10) (v := .ref (bm 7)) (C := RX10) (T := TX10) (N := 24) hx hb hts iq_X10_readScript_4_10 hown hK hP 1 rfl rfl 12 (by decide) (hts (.fieldLink RX10 28 "HubTreeModel" "scriptLong" "[I") (List.mem_of_getElem? (i := 3) rfl)) (fun _ h9 => h9) rfl dX10_readScript_41 ?_
  refine lv_iload_n hx hb dX10_readScript_44 rfl (lv_at hl 2 rfl) ?_
  refine lv_dup2_11 hx hb dX10_readScript_45 rfl rfl ?_
  refine va_iald hx hb hK hP 0 0 rfl rfl (i := 4) (vp_in_iff.mpr (by decide)) dX10_readScript_46 ?_
  refine q_top (y := (f_1 4)) rfl ?_
  refine lv_iconst (v := 1) hx hb dX10_readScript_47 (by decide) ?_
  refine lv_iadd hx hb dX10_readScript_48 ?_
  refine va_iast hx hb hK hP hD hS 0 0 rfl rfl (i := 4) (x := ((f_1 4) + 1)) (vp_in_iff.mpr (by decide)) dX10_readScript_49 (fun H locs hP hD hS => ?_)
  obtain ⟨f_5, hP, hD⟩ : ∃ f9 : Nat → Int32, va_P (dC, dI) vwCl [((bm 7), .inl ((km 7), 5, .inl f9)), ((bm 0), .inr (10, [.int 0, .ref (bm 1), .int 0, .int 0, .int 0, .ref (bm 2), .ref (bm 3), .int 0, .ref (bm 4), .ref (bm 5), .int 0, .ref (bm 6), .ref (bm 7), .int 0, .ref (bm 8), .ref (bm 9), .ref (bm 10), .int 0, .long 0, .ref (bm 11), .ref (bm 12), .ref (bm 13), .ref (bm 14), .int 0]))] H ∧ va_D A [((bm 7), .inl ((km 7), 5, .inl f9)), ((bm 0), .inr (10, [.int 0, .ref (bm 1), .int 0, .int 0, .int 0, .ref (bm 2), .ref (bm 3), .int 0, .ref (bm 4), .ref (bm 5), .int 0, .ref (bm 6), .ref (bm 7), .int 0, .ref (bm 8), .ref (bm 9), .ref (bm 10), .int 0, .long 0, .ref (bm 11), .ref (bm 12), .ref (bm 13), .ref (bm 14), .int 0]))] := ⟨_, hP, hD⟩
  refine lv_aload_n hx hb dX10_readScript_50 rfl (lv_at hl 1 rfl) ?_
  refine va_get (D := (dC, dI)) (ci := 10) (v := .int 0) (C := RX10) (T := TX10) (N := 24) hx hb hts iq_X10_readScript_4_10 hown hK hP 1 rfl rfl 4 (by decide) (hts (.fieldLink RX10 74 "HubTreeModel" "wrong" "I") (List.mem_of_getElem? (i := 2) rfl)) (fun _ h9 => h9) rfl dX10_readScript_51 ?_
  refine lv_iconst (v := (-1)) hx hb dX10_readScript_54 (by decide) ?_
  refine lv_icmp_ne (tgt := 82) hx hb dX10_readScript_55 (by decide) (fun c_6 => ?_) (fun c_6 => ?_)
  · skip
    refine lv_iconst (v := 0) hx hb dX10_readScript_82 (by decide) ?_
    refine lv_istore_n (lv' := [(2, .int 0), (0, .ref (bm 0)), (1, .int 4)]) hx hb dX10_readScript_83 rfl hl (by decide) rfl (fun ls hl => ?_)
    refine lv_aload_n hx hb dX10_readScript_84 rfl (lv_at hl 1 rfl) ?_
    refine lv_dup hx hb dX10_readScript_85 rfl ?_
    refine va_get (D := (dC, dI)) (ci := 10) (v := .int 0) (C := RX10) (T := TX10) (N := 24) hx hb hts iq_X10_readScript_4_10 hown hK hP 1 rfl rfl 3 (by decide) (hts (.fieldLink RX10 67 "HubTreeModel" "at" "I") (List.mem_of_getElem? (i := 1) rfl)) (fun _ h9 => h9) rfl dX10_readScript_86 ?_
    refine lv_iload_n hx hb dX10_readScript_89 rfl (lv_at hl 0 rfl) ?_
    refine lv_if_eq (tgt := 97) hx hb dX10_readScript_90 (by decide) (fun c_7 => ?_) (fun c_7 => ?_)
    · skip
      refine lv_iconst (v := 0) hx hb dX10_readScript_97 (by decide) ?_
      refine lv_iadd hx hb dX10_readScript_98 ?_
      refine q_top (y := 0) (by decide) ?_
      refine va_put (D := (dC, dI)) (ci := 10) (v := .int 0) (ty := .int) (C := RX10) (T := TX10) (N := 24) hx hb hts iq_X10_readScript_4_10 tyX10 tyX10_ok nmX10 hown hK hP hD hS 1 rfl rfl 3 (by decide) (hts (.fieldLink RX10 67 "HubTreeModel" "at" "I") (List.mem_of_getElem? (i := 1) rfl)) (fun _ h9 => h9) rfl (by decide +kernel) rfl rfl (Nat.le_of_ble_eq_true rfl) dX10_readScript_99 (fun H locs hP hD hS => ?_)
      have hP : va_P (dC, dI) vwCl [((bm 7), .inl ((km 7), 5, .inl f_5)), ((bm 0), .inr (10, [.int 0, .ref (bm 1), .int 0, .int 0, .int 0, .ref (bm 2), .ref (bm 3), .int 0, .ref (bm 4), .ref (bm 5), .int 0, .ref (bm 6), .ref (bm 7), .int 0, .ref (bm 8), .ref (bm 9), .ref (bm 10), .int 0, .long 0, .ref (bm 11), .ref (bm 12), .ref (bm 13), .ref (bm 14), .int 0]))] H := hP
      have hD : va_D A [((bm 7), .inl ((km 7), 5, .inl f_5)), ((bm 0), .inr (10, [.int 0, .ref (bm 1), .int 0, .int 0, .int 0, .ref (bm 2), .ref (bm 3), .int 0, .ref (bm 4), .ref (bm 5), .int 0, .ref (bm 6), .ref (bm 7), .int 0, .ref (bm 8), .ref (bm 9), .ref (bm 10), .int 0, .long 0, .ref (bm 11), .ref (bm 12), .ref (bm 13), .ref (bm 14), .int 0]))] := hD
      refine lv_goto (tgt := 19) hx hb dX10_readScript_102 (by decide) ?_
      refine lv_iload_n hx hb dX10_readScript_19 rfl (lv_at hl 0 rfl) ?_
      refine lv_if_eq (tgt := 105) hx hb dX10_readScript_20 (by decide) (fun c_8 => ?_) (fun c_8 => ?_)
      · skip
        refine lv_aload_n hx hb dX10_readScript_105 rfl (lv_at hl 1 rfl) ?_
        refine va_get (D := (dC, dI)) (ci := 10) (v := .int 0) (C := RX10) (T := TX10) (N := 24) hx hb hts iq_X10_readScript_4_10 hown hK hP 1 rfl rfl 4 (by decide) (hts (.fieldLink RX10 74 "HubTreeModel" "wrong" "I") (List.mem_of_getElem? (i := 2) rfl)) (fun _ h9 => h9) rfl dX10_readScript_106 ?_
        refine lv_iconst (v := (-1)) hx hb dX10_readScript_109 (by decide) ?_
        refine lv_icmp_ne (tgt := 125) hx hb dX10_readScript_110 (by decide) (fun c_9 => ?_) (fun c_9 => ?_)
        · skip
          refine lv_aload_n hx hb dX10_readScript_125 rfl (lv_at hl 1 rfl) ?_
          refine va_get (D := (dC, dI)) (ci := 10) (v := .int 0) (C := RX10) (T := TX10) (N := 24) hx hb hts iq_X10_readScript_4_10 hown hK hP 1 rfl rfl 4 (by decide) (hts (.fieldLink RX10 74 "HubTreeModel" "wrong" "I") (List.mem_of_getElem? (i := 2) rfl)) (fun _ h9 => h9) rfl dX10_readScript_126 ?_
          exact W.iret (v := 0) hx hb hr (fun t ht hW => ⟨⟨0, (), rfl, rfl, trivial⟩, hS.F ht⟩) hS.2.2 dX10_readScript_129
        · exact absurd c_9 (by decide)
      · exact absurd (by decide) c_8
    · exact absurd (by decide) c_7
  · exact absurd c_6 (by decide)

def wq_X10_fault : List Cond := .code yX10_fault cX10_fault 2 (some .int) :: ([.methodLink RX10 129 yX10_readScript, .instanceMethod yX10_readScript, .selects RX10 yX10_readScript yX10_readScript, .initialized RX10, .code yX10_readScript cX10_readScript 3 (some .int), .fieldLink RX10 67 "HubTreeModel" "at" "I", .fieldLink RX10 74 "HubTreeModel" "wrong" "I", .fieldLink RX10 28 "HubTreeModel" "scriptLong" "[I", .methodLink RX10 122 yX10_readStep, .instanceMethod yX10_readStep, .selects RX10 yX10_readStep yX10_readStep, .code yX10_readStep cX10_readStep 3 none, .methodLink RX10 77 yX10_ahead, .instanceMethod yX10_ahead, .selects RX10 yX10_ahead yX10_ahead, .code yX10_ahead cX10_ahead 1 (some .int), .methodLink RX10 70 yX10_here, .instanceMethod yX10_here, .selects RX10 yX10_here yX10_here, .code yX10_here cX10_here 1 (some .int), .fieldLink RX10 60 "HubTreeModel" "taped" "I", .methodLink RX10 115 yX10_sortOf, .static yX10_sortOf, .code yX10_sortOf cX10_sortOf 1 (some .int), .methodLink RX10 84 yX10_bad, .instanceMethod yX10_bad, .selects RX10 yX10_bad yX10_bad, .code yX10_bad cX10_bad 1 none, .methodLink RX10 126 yX10_readTree, .instanceMethod yX10_readTree, .selects RX10 yX10_readTree yX10_readTree, .code yX10_readTree cX10_readTree 4 (some .int), .fieldLink RX10 108 "HubTreeModel" "readMany" "I", .fieldLink RX10 13 "HubTreeModel" "readRule" "[I", .methodLink RX10 87 yX10_usual, .static yX10_usual, .code yX10_usual cX10_usual 2 (some .int)] ++ wsX100)
set_option maxRecDepth 20000 in
theorem g_X10_fault_X10_readScript_4_129 : GoodIn wq_X10_fault (wsV RX10 129 RX10 yX10_readScript wq_X10_readScript_4) := goodIn_r _ [1, 2, 3, 4, 5, 6, 7, 8, 9, 10, 11, 4, 12, 13, 14, 15, 16, 17, 18, 19, 20, 21, 22, 23, 24, 25, 26, 27, 28, 38, 39, 40, 41, 42, 43, 44, 45, 46, 47, 48, 49, 50, 51, 52, 53, 54, 55, 56, 57, 58, 59, 60, 61] (by decide +kernel) (by decide +kernel)
set_option maxRecDepth 20000 in
theorem g_X10_fault_X10_readTree_126 : GoodIn wq_X10_fault (wsV RX10 126 RX10 yX10_readTree wq_X10_readTree) := goodIn_r _ [29, 30, 31, 4, 32, 6, 7, 33, 34, 35, 36, 4, 37, 13, 14, 15, 16, 17, 18, 19, 20, 21, 25, 26, 27, 28, 38, 39, 40, 41, 42, 43, 44, 45, 46, 47, 48, 49, 50, 51, 52, 53, 54, 55, 56, 57, 58, 59, 60, 61] (by decide +kernel) (by decide +kernel)
theorem iq_X10_fault_10 : ∀ w ∈ wsX100, w ∈ wq_X10_fault := fun _ h => List.mem_cons_of_mem _ (List.mem_append_right _ h)
set_option maxHeartbeats 4000000 in
set_option maxRecDepth 100000 in
theorem c_X10_fault (l : Launch) (dC : Nat → ClassId) (dI : Nat → Nat → Nat) (bm : Nat → Nat) (km : Nat → ClassId) (z1 : Int32) (A : Nat → Prop) : Met l yX10_fault wq_X10_fault ({ frames := 4, cells := 0, slots := 0, locals := 84 }) (va_Pc [.ref (bm 0), .int z1] (q_W (dC, dI) A [((bm 0), .inr (10, [.int 0, .ref (bm 1), .int 0, .int 0, .int 0, .ref (bm 2), .ref (bm 3), .int 0, .ref (bm 4), .ref (bm 5), .int 0, .ref (bm 6), .ref (bm 7), .int 0, .ref (bm 8), .ref (bm 9), .ref (bm 10), .int 0, .long 0, .ref (bm 11), .ref (bm 12), .ref (bm 13), .ref (bm 14), .int 0])), ((bm 2), .inl ((km 2), 8, .inl (fun _ => 0))), ((bm 7), .inl ((km 7), 5, .inl (fun _ => 0)))] [((km 2), .int), ((km 7), .int)])) (q_wi ((q_fl z1)) A) 0 0 A := by
  refine Met.ofW (cc := cX10_fault) (maxL := 2) (ret := (some .int)) (by decide) rfl ?_
  intro p e s m args below meth c s₁ B hml hv
  obtain ⟨rfl, hP, hK, hD, hA⟩ := hv
  have hx := B.exec
  have hb := B.bytes
  have hr := B.returns
  have hts := atoms_spec (ws := wq_X10_fault) B.pre
  have hown : s.vm.findClass RX10 = some m.cls := findClass_of_methodNamed B.named
  have hlocks := B.notSynchronized
  have hS : va_S A s.heap s.heap [] := va_S.rf
  have hl := lv_entry ([.ref (bm 0), .int z1]) (n := 2) (Nat.le_of_ble_eq_true rfl)
  rw [lg_entry_eq]
  generalize (lg_sl ([.ref (bm 0), .int z1]) ++ List.replicate (2 - (lg_sl ([.ref (bm 0), .int z1])).length) Slot.unset).toArray = ls at hl ⊢
  have hl : lv_has ls 2 [(0, .ref (bm 0)), (1, .int z1)] := hl
  refine lv_iload_n hx hb dX10_fault_0 rfl (lv_at hl 1 rfl) ?_
  refine lv_if_ne (tgt := 11) hx hb dX10_fault_1 (by decide) (fun c_1 => ?_) (fun c_1 => ?_)
  · skip
    refine lv_iload_n hx hb dX10_fault_11 rfl (lv_at hl 1 rfl) ?_
    refine lv_iconst (v := 1) hx hb dX10_fault_12 (by decide) ?_
    refine lv_icmp_ne (tgt := 24) hx hb dX10_fault_13 (by decide) (fun c_2 => ?_) (fun c_2 => ?_)
    · skip
      refine lv_bipush (v := (-2)) hx hb dX10_fault_24 (by decide) ?_
      exact W.iret (v := (-2)) hx hb hr (fun t ht hW => ⟨⟨(-2), (), rfl, (by simp [q_fl, c_1, c_2]), trivial⟩, hS.F ht⟩) hS.2.2 dX10_fault_26
    · skip
      refine lv_aload_n hx hb dX10_fault_16 rfl (lv_at hl 0 rfl) ?_
      refine lv_iconst (v := 4) hx hb dX10_fault_17 (by decide) ?_
      refine q_goiF (v := 0) (wr := [((bm 2), .inl ((km 2), 8, .inl (fun _ => 0)))]) (va_runV (As := [.int 4]) (rest := []) ⟨hx, hb, hml, hown, hts⟩ (c_X10_readScript_4 l dC dI bm km (va_A [((bm 0), .inr (10, [.int 0, .ref (bm 1), .int 0, .int 0, .int 0, .ref (bm 2), .ref (bm 3), .int 0, .ref (bm 4), .ref (bm 5), .int 0, .ref (bm 6), .ref (bm 7), .int 0, .ref (bm 8), .ref (bm 9), .ref (bm 10), .int 0, .long 0, .ref (bm 11), .ref (bm 12), .ref (bm 13), .ref (bm 14), .int 0])), ((bm 7), .inl ((km 7), 5, .inl (fun _ => 0)))] s.heap.size)) (cwV 1 hts g_X10_fault_X10_readScript_4_129 rfl rfl rfl (by decide +kernel) ⟨Nat.le_of_ble_eq_true rfl, Nat.le_of_ble_eq_true rfl⟩) (q_preWV hK hP hD (ci := 10) (q0 := 0) rfl rfl [0, 2] (by decide) rfl rfl [1] rfl) rfl rfl hl.1 rfl (lv_room (Nat.le_of_ble_eq_true rfl)) dX10_fault_18 ⟨Nat.le_of_ble_eq_true rfl, Nat.le_of_ble_eq_true rfl⟩) hP hD hS hA [0, 2] [1] rfl rfl (by decide) (by decide) (fun H locs hP hD hS => ?_)
      have hP : va_P (dC, dI) vwCl [((bm 2), .inl ((km 2), 8, .inl (fun _ => 0)))] H := hP
      have hD : va_D A [((bm 2), .inl ((km 2), 8, .inl (fun _ => 0)))] := hD
      refine lv_goto (tgt := 26) hx hb dX10_fault_21 (by decide) ?_
      exact W.iret (v := 0) hx hb hr (fun t ht hW => ⟨⟨0, (), rfl, (by simp [q_fl, c_1, c_2]), trivial⟩, hS.F ht⟩) hS.2.2 dX10_fault_26
  · skip
    refine lv_aload_n hx hb dX10_fault_4 rfl (lv_at hl 0 rfl) ?_
    refine q_goiF (v := 0) (wr := [((bm 7), .inl ((km 7), 5, .inl (fun _ => 0)))]) (va_runV (As := []) (rest := []) ⟨hx, hb, hml, hown, hts⟩ (c_X10_readTree l dC dI bm km (va_A [((bm 0), .inr (10, [.int 0, .ref (bm 1), .int 0, .int 0, .int 0, .ref (bm 2), .ref (bm 3), .int 0, .ref (bm 4), .ref (bm 5), .int 0, .ref (bm 6), .ref (bm 7), .int 0, .ref (bm 8), .ref (bm 9), .ref (bm 10), .int 0, .long 0, .ref (bm 11), .ref (bm 12), .ref (bm 13), .ref (bm 14), .int 0])), ((bm 2), .inl ((km 2), 8, .inl (fun _ => 0)))] s.heap.size)) (cwV 0 hts g_X10_fault_X10_readTree_126 rfl rfl rfl (by decide +kernel) ⟨Nat.le_of_ble_eq_true rfl, Nat.le_of_ble_eq_true rfl⟩) (q_preWV hK hP hD (ci := 10) (q0 := 0) rfl rfl [0, 1] (by decide) rfl rfl [0] rfl) rfl rfl hl.1 rfl (lv_room (Nat.le_of_ble_eq_true rfl)) dX10_fault_5 ⟨Nat.le_of_ble_eq_true rfl, Nat.le_of_ble_eq_true rfl⟩) hP hD hS hA [0, 1] [2] rfl rfl (by decide) (by decide) (fun H locs hP hD hS => ?_)
    have hP : va_P (dC, dI) vwCl [((bm 7), .inl ((km 7), 5, .inl (fun _ => 0)))] H := hP
    have hD : va_D A [((bm 7), .inl ((km 7), 5, .inl (fun _ => 0)))] := hD
    refine lv_goto (tgt := 26) hx hb dX10_fault_8 (by decide) ?_
    exact W.iret (v := 0) hx hb hr (fun t ht hW => ⟨⟨0, (), rfl, (by simp [q_fl, c_1]), trivial⟩, hS.F ht⟩) hS.2.2 dX10_fault_26

def wq_X10_text : List Cond := .code yX10_text cX10_text 2 (some .int) :: ([.fieldLink RX10 161 "HubTreeModel" "scripts" "I", .methodLink RX10 129 yX10_readScript, .instanceMethod yX10_readScript, .selects RX10 yX10_readScript yX10_readScript, .initialized RX10, .code yX10_readScript cX10_readScript 3 (some .int), .fieldLink RX10 67 "HubTreeModel" "at" "I", .fieldLink RX10 74 "HubTreeModel" "wrong" "I", .fieldLink RX10 28 "HubTreeModel" "scriptLong" "[I", .methodLink RX10 122 yX10_readStep, .instanceMethod yX10_readStep, .selects RX10 yX10_readStep yX10_readStep, .code yX10_readStep cX10_readStep 3 none, .methodLink RX10 77 yX10_ahead, .instanceMethod yX10_ahead, .selects RX10 yX10_ahead yX10_ahead, .code yX10_ahead cX10_ahead 1 (some .int), .methodLink RX10 70 yX10_here, .instanceMethod yX10_here, .selects RX10 yX10_here yX10_here, .code yX10_here cX10_here 1 (some .int), .fieldLink RX10 60 "HubTreeModel" "taped" "I", .methodLink RX10 115 yX10_sortOf, .static yX10_sortOf, .code yX10_sortOf cX10_sortOf 1 (some .int), .methodLink RX10 84 yX10_bad, .instanceMethod yX10_bad, .selects RX10 yX10_bad yX10_bad, .code yX10_bad cX10_bad 1 none, .methodLink RX10 126 yX10_readTree, .instanceMethod yX10_readTree, .selects RX10 yX10_readTree yX10_readTree, .code yX10_readTree cX10_readTree 4 (some .int), .fieldLink RX10 108 "HubTreeModel" "readMany" "I", .fieldLink RX10 13 "HubTreeModel" "readRule" "[I", .methodLink RX10 87 yX10_usual, .static yX10_usual, .code yX10_usual cX10_usual 2 (some .int)] ++ wsX100)
set_option maxRecDepth 20000 in
theorem g_X10_text_X10_readScript_0_129 : GoodIn wq_X10_text (wsV RX10 129 RX10 yX10_readScript wq_X10_readScript_0) := goodIn_r _ [2, 3, 4, 5, 6, 7, 8, 9, 10, 11, 12, 5, 13, 14, 15, 16, 17, 18, 19, 20, 21, 22, 23, 24, 25, 26, 27, 28, 29, 39, 40, 41, 42, 43, 44, 45, 46, 47, 48, 49, 50, 51, 52, 53, 54, 55, 56, 57, 58, 59, 60, 61, 62] (by decide +kernel) (by decide +kernel)
set_option maxRecDepth 20000 in
theorem g_X10_text_X10_readTree_126 : GoodIn wq_X10_text (wsV RX10 126 RX10 yX10_readTree wq_X10_readTree) := goodIn_r _ [30, 31, 32, 5, 33, 7, 8, 34, 35, 36, 37, 5, 38, 14, 15, 16, 17, 18, 19, 20, 21, 22, 26, 27, 28, 29, 39, 40, 41, 42, 43, 44, 45, 46, 47, 48, 49, 50, 51, 52, 53, 54, 55, 56, 57, 58, 59, 60, 61, 62] (by decide +kernel) (by decide +kernel)
theorem iq_X10_text_10 : ∀ w ∈ wsX100, w ∈ wq_X10_text := fun _ h => List.mem_cons_of_mem _ (List.mem_append_right _ h)
set_option maxHeartbeats 4000000 in
set_option maxRecDepth 100000 in
theorem c_X10_text (l : Launch) (dC : Nat → ClassId) (dI : Nat → Nat → Nat) (bm : Nat → Nat) (km : Nat → ClassId) (z1 : Int32) (A : Nat → Prop) : Met l yX10_text wq_X10_text ({ frames := 4, cells := 0, slots := 0, locals := 84 }) (va_Pc [.ref (bm 0), .int z1] (q_W (dC, dI) A [((bm 0), .inr (10, [.int 0, .ref (bm 1), .int 0, .int 0, .int 0, .ref (bm 2), .ref (bm 3), .int 0, .ref (bm 4), .ref (bm 5), .int 0, .ref (bm 6), .ref (bm 7), .int 0, .ref (bm 8), .ref (bm 9), .ref (bm 10), .int 0, .long 0, .ref (bm 11), .ref (bm 12), .ref (bm 13), .ref (bm 14), .int 0])), ((bm 2), .inl ((km 2), 8, .inl (fun _ => 0))), ((bm 7), .inl ((km 7), 5, .inl (fun _ => 0)))] [((km 2), .int), ((km 7), .int)])) (q_wi (-1) A) 0 0 A := by
  refine Met.ofW (cc := cX10_text) (maxL := 2) (ret := (some .int)) (by decide) rfl ?_
  intro p e s m args below meth c s₁ B hml hv
  obtain ⟨rfl, hP, hK, hD, hA⟩ := hv
  have hx := B.exec
  have hb := B.bytes
  have hr := B.returns
  have hts := atoms_spec (ws := wq_X10_text) B.pre
  have hown : s.vm.findClass RX10 = some m.cls := findClass_of_methodNamed B.named
  have hlocks := B.notSynchronized
  have hS : va_S A s.heap s.heap [] := va_S.rf
  have hl := lv_entry ([.ref (bm 0), .int z1]) (n := 2) (Nat.le_of_ble_eq_true rfl)
  rw [lg_entry_eq]
  generalize (lg_sl ([.ref (bm 0), .int z1]) ++ List.replicate (2 - (lg_sl ([.ref (bm 0), .int z1])).length) Slot.unset).toArray = ls at hl ⊢
  have hl : lv_has ls 2 [(0, .ref (bm 0)), (1, .int z1)] := hl
  refine lv_iload_n hx hb dX10_text_0 rfl (lv_at hl 1 rfl) ?_
  refine lv_if_ne (tgt := 22) hx hb dX10_text_1 (by decide) (fun c_1 => ?_) (fun c_1 => ?_)
  · skip
    refine lv_iload_n hx hb dX10_text_22 rfl (lv_at hl 1 rfl) ?_
    refine lv_iconst (v := 1) hx hb dX10_text_23 (by decide) ?_
    refine lv_icmp_ne (tgt := 69) hx hb dX10_text_24 (by decide) (fun c_2 => ?_) (fun c_2 => ?_)
    · skip
      refine lv_iconst (v := (-1)) hx hb dX10_text_69 (by decide) ?_
      exact W.iret (v := (-1)) hx hb hr (fun t ht hW => ⟨⟨(-1), (), rfl, rfl, trivial⟩, hS.F ht⟩) hS.2.2 dX10_text_70
    · skip
      refine lv_aload_n hx hb dX10_text_27 rfl (lv_at hl 0 rfl) ?_
      refine va_get (D := (dC, dI)) (ci := 10) (v := .int 0) (C := RX10) (T := TX10) (N := 24) hx hb hts iq_X10_text_10 hown hK hP 0 rfl rfl 13 (by decide) (hts (.fieldLink RX10 161 "HubTreeModel" "scripts" "I") (List.mem_of_getElem? (i := 1) rfl)) (fun _ h9 => h9) rfl dX10_text_28 ?_
      refine lv_iconst (v := 4) hx hb dX10_text_31 (by decide) ?_
      refine lv_icmp_ge (tgt := 69) hx hb dX10_text_32 (by decide) (fun c_3 => ?_) (fun c_3 => ?_)
      · exact absurd c_3 (by decide)
      refine lv_aload_n hx hb dX10_text_35 rfl (lv_at hl 0 rfl) ?_
      refine lv_aload_n hx hb dX10_text_36 rfl (lv_at hl 0 rfl) ?_
      refine va_get (D := (dC, dI)) (ci := 10) (v := .int 0) (C := RX10) (T := TX10) (N := 24) hx hb hts iq_X10_text_10 hown hK hP 0 rfl rfl 13 (by decide) (hts (.fieldLink RX10 161 "HubTreeModel" "scripts" "I") (List.mem_of_getElem? (i := 1) rfl)) (fun _ h9 => h9) rfl dX10_text_37 ?_
      refine q_goiF (v := 0) (wr := [((bm 2), .inl ((km 2), 8, .inl (fun _ => 0)))]) (va_runV (As := [.int 0]) (rest := []) ⟨hx, hb, hml, hown, hts⟩ (c_X10_readScript_0 l dC dI bm km (va_A [((bm 0), .inr (10, [.int 0, .ref (bm 1), .int 0, .int 0, .int 0, .ref (bm 2), .ref (bm 3), .int 0, .ref (bm 4), .ref (bm 5), .int 0, .ref (bm 6), .ref (bm 7), .int 0, .ref (bm 8), .ref (bm 9), .ref (bm 10), .int 0, .long 0, .ref (bm 11), .ref (bm 12), .ref (bm 13), .ref (bm 14), .int 0])), ((bm 7), .inl ((km 7), 5, .inl (fun _ => 0)))] s.heap.size)) (cwV 1 hts g_X10_text_X10_readScript_0_129 rfl rfl rfl (by decide +kernel) ⟨Nat.le_of_ble_eq_true rfl, Nat.le_of_ble_eq_true rfl⟩) (q_preWV hK hP hD (ci := 10) (q0 := 0) rfl rfl [0, 2] (by decide) rfl rfl [1] rfl) rfl rfl hl.1 rfl (lv_room (Nat.le_of_ble_eq_true rfl)) dX10_text_40 ⟨Nat.le_of_ble_eq_true rfl, Nat.le_of_ble_eq_true rfl⟩) hP hD hS hA [0, 2] [1] rfl rfl (by decide) (by decide) (fun H locs hP hD hS => ?_)
      have hP : va_P (dC, dI) vwCl [((bm 2), .inl ((km 2), 8, .inl (fun _ => 0)))] H := hP
      have hD : va_D A [((bm 2), .inl ((km 2), 8, .inl (fun _ => 0)))] := hD
      refine lv_iconst (v := (-1)) hx hb dX10_text_43 (by decide) ?_
      refine lv_icmp_ne (tgt := 69) hx hb dX10_text_44 (by decide) (fun c_4 => ?_) (fun c_4 => ?_)
      · skip
        refine lv_iconst (v := (-1)) hx hb dX10_text_69 (by decide) ?_
        exact W.iret (v := (-1)) hx hb hr (fun t ht hW => ⟨⟨(-1), (), rfl, rfl, trivial⟩, hS.F ht⟩) hS.2.2 dX10_text_70
      · exact absurd c_4 (by decide)
  · skip
    refine lv_aload_n hx hb dX10_text_4 rfl (lv_at hl 0 rfl) ?_
    refine q_goiF (v := 0) (wr := [((bm 7), .inl ((km 7), 5, .inl (fun _ => 0)))]) (va_runV (As := []) (rest := []) ⟨hx, hb, hml, hown, hts⟩ (c_X10_readTree l dC dI bm km (va_A [((bm 0), .inr (10, [.int 0, .ref (bm 1), .int 0, .int 0, .int 0, .ref (bm 2), .ref (bm 3), .int 0, .ref (bm 4), .ref (bm 5), .int 0, .ref (bm 6), .ref (bm 7), .int 0, .ref (bm 8), .ref (bm 9), .ref (bm 10), .int 0, .long 0, .ref (bm 11), .ref (bm 12), .ref (bm 13), .ref (bm 14), .int 0])), ((bm 2), .inl ((km 2), 8, .inl (fun _ => 0)))] s.heap.size)) (cwV 0 hts g_X10_text_X10_readTree_126 rfl rfl rfl (by decide +kernel) ⟨Nat.le_of_ble_eq_true rfl, Nat.le_of_ble_eq_true rfl⟩) (q_preWV hK hP hD (ci := 10) (q0 := 0) rfl rfl [0, 1] (by decide) rfl rfl [0] rfl) rfl rfl hl.1 rfl (lv_room (Nat.le_of_ble_eq_true rfl)) dX10_text_5 ⟨Nat.le_of_ble_eq_true rfl, Nat.le_of_ble_eq_true rfl⟩) hP hD hS hA [0, 1] [2] rfl rfl (by decide) (by decide) (fun H locs hP hD hS => ?_)
    have hP : va_P (dC, dI) vwCl [((bm 7), .inl ((km 7), 5, .inl (fun _ => 0)))] H := hP
    have hD : va_D A [((bm 7), .inl ((km 7), 5, .inl (fun _ => 0)))] := hD
    refine lv_iconst (v := (-1)) hx hb dX10_text_8 (by decide) ?_
    refine lv_icmp_ne (tgt := 22) hx hb dX10_text_9 (by decide) (fun c_5 => ?_) (fun c_5 => ?_)
    · skip
      refine lv_iload_n hx hb dX10_text_22 rfl (lv_at hl 1 rfl) ?_
      refine lv_iconst (v := 1) hx hb dX10_text_23 (by decide) ?_
      refine lv_icmp_ne (tgt := 69) hx hb dX10_text_24 (by decide) (fun c_6 => ?_) (fun c_6 => ?_)
      · skip
        refine lv_iconst (v := (-1)) hx hb dX10_text_69 (by decide) ?_
        exact W.iret (v := (-1)) hx hb hr (fun t ht hW => ⟨⟨(-1), (), rfl, rfl, trivial⟩, hS.F ht⟩) hS.2.2 dX10_text_70
      · exfalso; have := (show ((0 : Int32)).toInt = 0 from (by decide)); have := (show ((1 : Int32)).toInt = 1 from (by decide)); simp only [q_lt, q_le, q_eq] at c_1 c_6; omega
    · exact absurd c_5 (by decide)
